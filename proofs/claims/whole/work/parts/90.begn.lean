/-! begin and bare, as the market calls them -/
theorem fx_13 (v : Int32) : ∀ r n i (I : IT), i + r = 14 → r < n → ∃ I', f_J7_fill_53178_13_5 n v (nI i) 14 I = some I' ∧ (∀ c, c ≠ 13 → I' c = I c) ∧ (∀ j, j < i → I' 13 j = I 13 j) ∧ (∀ j, i ≤ j → j < 14 → I' 13 j = v) := by
  intro r
  induction r with
  | zero =>
    intro n i I h1 h2
    obtain ⟨n, rfl⟩ : ∃ q, n = q + 1 := ⟨n - 1, by omega⟩
    rw [f_J7_fill_53178_13_5, if_pos (by rw [show (14 : Int32) = nI 14 from rfl, nI_leI (by omega) (by omega)]; omega)]
    exact ⟨I, rfl, fun _ _ => rfl, fun _ _ => rfl, fun j p1 p2 => absurd p1 (by omega)⟩
  | succ r ih =>
    intro n i I h1 h2
    obtain ⟨n, rfl⟩ : ∃ q, n = q + 1 := ⟨n - 1, by omega⟩
    rw [f_J7_fill_53178_13_5, if_neg (by rw [show (14 : Int32) = nI 14 from rfl, nI_leI (by omega) (by omega)]; omega), if_pos (inb_nI (by omega) (by omega)), nI_1, nI_clamp (by omega)]
    obtain ⟨I', g1, g2, g3, g4⟩ := ih n (i + 1) (upI I 13 i v) (by omega) (by omega)
    refine ⟨I', g1, fun c hc => ?_, fun j hj => ?_, fun j p1 p2 => ?_⟩
    · rw [g2 c hc]; simp [upI, hc]
    · rw [g3 j (by omega)]; simp only [upI, upd, if_true, if_neg (show ¬ j = i by omega)]
    · by_cases e : j = i
      · subst e; rw [g3 j (by omega)]; simp only [upI, upd, if_true]
      · exact g4 j (by omega) p2
theorem fy_13 (v : Int32) (I : IT) : ∃ I', f_J7_fill_53178_13 v I = some I' ∧ (∀ c, c ≠ 13 → I' c = I c) ∧ (∀ j, j < 14 → I' 13 j = v) := by
  obtain ⟨I', g1, g2, -, g4⟩ := fx_13 v 14 FU 0 I (by omega) (by unfold FU; omega)
  rw [nI_0] at g1
  refine ⟨I', ?_, g2, fun j hj => g4 j (by omega) hj⟩
  unfold f_J7_fill_53178_13
  exact g1
theorem fx_14 (v : Int32) : ∀ r n i (I : IT), i + r = 84 → r < n → ∃ I', f_J7_fill_53178_14_5 n v (nI i) 84 I = some I' ∧ (∀ c, c ≠ 14 → I' c = I c) ∧ (∀ j, j < i → I' 14 j = I 14 j) ∧ (∀ j, i ≤ j → j < 84 → I' 14 j = v) := by
  intro r
  induction r with
  | zero =>
    intro n i I h1 h2
    obtain ⟨n, rfl⟩ : ∃ q, n = q + 1 := ⟨n - 1, by omega⟩
    rw [f_J7_fill_53178_14_5, if_pos (by rw [show (84 : Int32) = nI 84 from rfl, nI_leI (by omega) (by omega)]; omega)]
    exact ⟨I, rfl, fun _ _ => rfl, fun _ _ => rfl, fun j p1 p2 => absurd p1 (by omega)⟩
  | succ r ih =>
    intro n i I h1 h2
    obtain ⟨n, rfl⟩ : ∃ q, n = q + 1 := ⟨n - 1, by omega⟩
    rw [f_J7_fill_53178_14_5, if_neg (by rw [show (84 : Int32) = nI 84 from rfl, nI_leI (by omega) (by omega)]; omega), if_pos (inb_nI (by omega) (by omega)), nI_1, nI_clamp (by omega)]
    obtain ⟨I', g1, g2, g3, g4⟩ := ih n (i + 1) (upI I 14 i v) (by omega) (by omega)
    refine ⟨I', g1, fun c hc => ?_, fun j hj => ?_, fun j p1 p2 => ?_⟩
    · rw [g2 c hc]; simp [upI, hc]
    · rw [g3 j (by omega)]; simp only [upI, upd, if_true, if_neg (show ¬ j = i by omega)]
    · by_cases e : j = i
      · subst e; rw [g3 j (by omega)]; simp only [upI, upd, if_true]
      · exact g4 j (by omega) p2
theorem fy_14 (v : Int32) (I : IT) : ∃ I', f_J7_fill_53178_14 v I = some I' ∧ (∀ c, c ≠ 14 → I' c = I c) ∧ (∀ j, j < 84 → I' 14 j = v) := by
  obtain ⟨I', g1, g2, -, g4⟩ := fx_14 v 84 FU 0 I (by omega) (by unfold FU; omega)
  rw [nI_0] at g1
  refine ⟨I', ?_, g2, fun j hj => g4 j (by omega) hj⟩
  unfold f_J7_fill_53178_14
  exact g1
theorem fx_15 (v : Int32) : ∀ r n i (I : IT), i + r = 84 → r < n → ∃ I', f_J7_fill_53178_15_5 n v (nI i) 84 I = some I' ∧ (∀ c, c ≠ 15 → I' c = I c) ∧ (∀ j, j < i → I' 15 j = I 15 j) ∧ (∀ j, i ≤ j → j < 84 → I' 15 j = v) := by
  intro r
  induction r with
  | zero =>
    intro n i I h1 h2
    obtain ⟨n, rfl⟩ : ∃ q, n = q + 1 := ⟨n - 1, by omega⟩
    rw [f_J7_fill_53178_15_5, if_pos (by rw [show (84 : Int32) = nI 84 from rfl, nI_leI (by omega) (by omega)]; omega)]
    exact ⟨I, rfl, fun _ _ => rfl, fun _ _ => rfl, fun j p1 p2 => absurd p1 (by omega)⟩
  | succ r ih =>
    intro n i I h1 h2
    obtain ⟨n, rfl⟩ : ∃ q, n = q + 1 := ⟨n - 1, by omega⟩
    rw [f_J7_fill_53178_15_5, if_neg (by rw [show (84 : Int32) = nI 84 from rfl, nI_leI (by omega) (by omega)]; omega), if_pos (inb_nI (by omega) (by omega)), nI_1, nI_clamp (by omega)]
    obtain ⟨I', g1, g2, g3, g4⟩ := ih n (i + 1) (upI I 15 i v) (by omega) (by omega)
    refine ⟨I', g1, fun c hc => ?_, fun j hj => ?_, fun j p1 p2 => ?_⟩
    · rw [g2 c hc]; simp [upI, hc]
    · rw [g3 j (by omega)]; simp only [upI, upd, if_true, if_neg (show ¬ j = i by omega)]
    · by_cases e : j = i
      · subst e; rw [g3 j (by omega)]; simp only [upI, upd, if_true]
      · exact g4 j (by omega) p2
theorem fy_15 (v : Int32) (I : IT) : ∃ I', f_J7_fill_53178_15 v I = some I' ∧ (∀ c, c ≠ 15 → I' c = I c) ∧ (∀ j, j < 84 → I' 15 j = v) := by
  obtain ⟨I', g1, g2, -, g4⟩ := fx_15 v 84 FU 0 I (by omega) (by unfold FU; omega)
  rw [nI_0] at g1
  refine ⟨I', ?_, g2, fun j hj => g4 j (by omega) hj⟩
  unfold f_J7_fill_53178_15
  exact g1
theorem fx_16 (v : Int32) : ∀ r n i (I : IT), i + r = 6 → r < n → ∃ I', f_J7_fill_53178_16_5 n v (nI i) 6 I = some I' ∧ (∀ c, c ≠ 16 → I' c = I c) ∧ (∀ j, j < i → I' 16 j = I 16 j) ∧ (∀ j, i ≤ j → j < 6 → I' 16 j = v) := by
  intro r
  induction r with
  | zero =>
    intro n i I h1 h2
    obtain ⟨n, rfl⟩ : ∃ q, n = q + 1 := ⟨n - 1, by omega⟩
    rw [f_J7_fill_53178_16_5, if_pos (by rw [show (6 : Int32) = nI 6 from rfl, nI_leI (by omega) (by omega)]; omega)]
    exact ⟨I, rfl, fun _ _ => rfl, fun _ _ => rfl, fun j p1 p2 => absurd p1 (by omega)⟩
  | succ r ih =>
    intro n i I h1 h2
    obtain ⟨n, rfl⟩ : ∃ q, n = q + 1 := ⟨n - 1, by omega⟩
    rw [f_J7_fill_53178_16_5, if_neg (by rw [show (6 : Int32) = nI 6 from rfl, nI_leI (by omega) (by omega)]; omega), if_pos (inb_nI (by omega) (by omega)), nI_1, nI_clamp (by omega)]
    obtain ⟨I', g1, g2, g3, g4⟩ := ih n (i + 1) (upI I 16 i v) (by omega) (by omega)
    refine ⟨I', g1, fun c hc => ?_, fun j hj => ?_, fun j p1 p2 => ?_⟩
    · rw [g2 c hc]; simp [upI, hc]
    · rw [g3 j (by omega)]; simp only [upI, upd, if_true, if_neg (show ¬ j = i by omega)]
    · by_cases e : j = i
      · subst e; rw [g3 j (by omega)]; simp only [upI, upd, if_true]
      · exact g4 j (by omega) p2
theorem fy_16 (v : Int32) (I : IT) : ∃ I', f_J7_fill_53178_16 v I = some I' ∧ (∀ c, c ≠ 16 → I' c = I c) ∧ (∀ j, j < 6 → I' 16 j = v) := by
  obtain ⟨I', g1, g2, -, g4⟩ := fx_16 v 6 FU 0 I (by omega) (by unfold FU; omega)
  rw [nI_0] at g1
  refine ⟨I', ?_, g2, fun j hj => g4 j (by omega) hj⟩
  unfold f_J7_fill_53178_16
  exact g1
theorem fx_17 (v : Int32) : ∀ r n i (I : IT), i + r = 6 → r < n → ∃ I', f_J7_fill_53178_17_5 n v (nI i) 6 I = some I' ∧ (∀ c, c ≠ 17 → I' c = I c) ∧ (∀ j, j < i → I' 17 j = I 17 j) ∧ (∀ j, i ≤ j → j < 6 → I' 17 j = v) := by
  intro r
  induction r with
  | zero =>
    intro n i I h1 h2
    obtain ⟨n, rfl⟩ : ∃ q, n = q + 1 := ⟨n - 1, by omega⟩
    rw [f_J7_fill_53178_17_5, if_pos (by rw [show (6 : Int32) = nI 6 from rfl, nI_leI (by omega) (by omega)]; omega)]
    exact ⟨I, rfl, fun _ _ => rfl, fun _ _ => rfl, fun j p1 p2 => absurd p1 (by omega)⟩
  | succ r ih =>
    intro n i I h1 h2
    obtain ⟨n, rfl⟩ : ∃ q, n = q + 1 := ⟨n - 1, by omega⟩
    rw [f_J7_fill_53178_17_5, if_neg (by rw [show (6 : Int32) = nI 6 from rfl, nI_leI (by omega) (by omega)]; omega), if_pos (inb_nI (by omega) (by omega)), nI_1, nI_clamp (by omega)]
    obtain ⟨I', g1, g2, g3, g4⟩ := ih n (i + 1) (upI I 17 i v) (by omega) (by omega)
    refine ⟨I', g1, fun c hc => ?_, fun j hj => ?_, fun j p1 p2 => ?_⟩
    · rw [g2 c hc]; simp [upI, hc]
    · rw [g3 j (by omega)]; simp only [upI, upd, if_true, if_neg (show ¬ j = i by omega)]
    · by_cases e : j = i
      · subst e; rw [g3 j (by omega)]; simp only [upI, upd, if_true]
      · exact g4 j (by omega) p2
theorem fy_17 (v : Int32) (I : IT) : ∃ I', f_J7_fill_53178_17 v I = some I' ∧ (∀ c, c ≠ 17 → I' c = I c) ∧ (∀ j, j < 6 → I' 17 j = v) := by
  obtain ⟨I', g1, g2, -, g4⟩ := fx_17 v 6 FU 0 I (by omega) (by unfold FU; omega)
  rw [nI_0] at g1
  refine ⟨I', ?_, g2, fun j hj => g4 j (by omega) hj⟩
  unfold f_J7_fill_53178_17
  exact g1
theorem fx_18 (v : Int32) : ∀ r n i (I : IT), i + r = 14 → r < n → ∃ I', f_J7_fill_53178_18_5 n v (nI i) 14 I = some I' ∧ (∀ c, c ≠ 18 → I' c = I c) ∧ (∀ j, j < i → I' 18 j = I 18 j) ∧ (∀ j, i ≤ j → j < 14 → I' 18 j = v) := by
  intro r
  induction r with
  | zero =>
    intro n i I h1 h2
    obtain ⟨n, rfl⟩ : ∃ q, n = q + 1 := ⟨n - 1, by omega⟩
    rw [f_J7_fill_53178_18_5, if_pos (by rw [show (14 : Int32) = nI 14 from rfl, nI_leI (by omega) (by omega)]; omega)]
    exact ⟨I, rfl, fun _ _ => rfl, fun _ _ => rfl, fun j p1 p2 => absurd p1 (by omega)⟩
  | succ r ih =>
    intro n i I h1 h2
    obtain ⟨n, rfl⟩ : ∃ q, n = q + 1 := ⟨n - 1, by omega⟩
    rw [f_J7_fill_53178_18_5, if_neg (by rw [show (14 : Int32) = nI 14 from rfl, nI_leI (by omega) (by omega)]; omega), if_pos (inb_nI (by omega) (by omega)), nI_1, nI_clamp (by omega)]
    obtain ⟨I', g1, g2, g3, g4⟩ := ih n (i + 1) (upI I 18 i v) (by omega) (by omega)
    refine ⟨I', g1, fun c hc => ?_, fun j hj => ?_, fun j p1 p2 => ?_⟩
    · rw [g2 c hc]; simp [upI, hc]
    · rw [g3 j (by omega)]; simp only [upI, upd, if_true, if_neg (show ¬ j = i by omega)]
    · by_cases e : j = i
      · subst e; rw [g3 j (by omega)]; simp only [upI, upd, if_true]
      · exact g4 j (by omega) p2
theorem fy_18 (v : Int32) (I : IT) : ∃ I', f_J7_fill_53178_18 v I = some I' ∧ (∀ c, c ≠ 18 → I' c = I c) ∧ (∀ j, j < 14 → I' 18 j = v) := by
  obtain ⟨I', g1, g2, -, g4⟩ := fx_18 v 14 FU 0 I (by omega) (by unfold FU; omega)
  rw [nI_0] at g1
  refine ⟨I', ?_, g2, fun j hj => g4 j (by omega) hj⟩
  unfold f_J7_fill_53178_18
  exact g1
theorem beg_now (I : IT) : ∃ r, f_X1_begin I = some r ∧ (∀ c, c ≠ 12 → c ≠ 13 → c ≠ 14 → c ≠ 15 → c ≠ 16 → c ≠ 17 → c ≠ 18 → r c = I c) ∧ (r 12 1 = 0 ∧ ∀ j, j ≠ 1 → r 12 j = I 12 j) ∧ (∀ j, j < 14 → r 13 j = 0) ∧ (∀ j, j < 84 → r 14 j = 0) ∧ (∀ j, j < 84 → r 15 j = 0) ∧ (∀ j, j < 6 → r 16 j = (-1)) ∧ (∀ j, j < 6 → r 17 j = (-1)) ∧ (∀ j, j < 14 → r 18 j = 0) := by
  obtain ⟨J1, a1, b1, d1⟩ := fy_13 0 (upI I 12 1 0)
  obtain ⟨J2, a2, b2, d2⟩ := fy_14 0 J1
  obtain ⟨J3, a3, b3, d3⟩ := fy_15 0 J2
  obtain ⟨J4, a4, b4, d4⟩ := fy_16 (-1) J3
  obtain ⟨J5, a5, b5, d5⟩ := fy_17 (-1) J4
  obtain ⟨J6, a6, b6, d6⟩ := fy_18 0 J5
  refine ⟨J6, ?_, fun c n0 n1 n2 n3 n4 n5 n6 => by rw [b6 c n6, b5 c n5, b4 c n4, b3 c n3, b2 c n2, b1 c n1]; simp [upI, n0], ⟨?_, fun j hj => ?_⟩, fun j hj => by rw [b6 13 (by decide), b5 13 (by decide), b4 13 (by decide), b3 13 (by decide), b2 13 (by decide)]; exact d1 j hj, fun j hj => by rw [b6 14 (by decide), b5 14 (by decide), b4 14 (by decide), b3 14 (by decide)]; exact d2 j hj, fun j hj => by rw [b6 15 (by decide), b5 15 (by decide), b4 15 (by decide)]; exact d3 j hj, fun j hj => by rw [b6 16 (by decide), b5 16 (by decide)]; exact d4 j hj, fun j hj => by rw [b6 17 (by decide)]; exact d5 j hj, fun j hj => by exact d6 j hj⟩
  · unfold f_X1_begin
    rw [a1, Option.bind_some, a2, Option.bind_some, a3, Option.bind_some, a4, Option.bind_some, a5, Option.bind_some, a6, Option.bind_some]
  · rw [b6 12 (by decide), b5 12 (by decide), b4 12 (by decide), b3 12 (by decide), b2 12 (by decide), b1 12 (by decide)]; simp [upI, upd]
  · rw [b6 12 (by decide), b5 12 (by decide), b4 12 (by decide), b3 12 (by decide), b2 12 (by decide), b1 12 (by decide)]; simp [upI, upd, hj]
theorem barM_63 : ∀ r n i (I : IT), i + r = 6 → r < n → ∃ I', f_X10_bare_63 n (nI i) I = some I' ∧ (∀ c, c ≠ 64 → c ≠ 65 → I' c = I c) ∧ (∀ j, j < i → I' 64 j = I 64 j ∧ I' 65 j = I 65 j) ∧ (∀ j, i ≤ j → j < 6 → I' 64 j = (-1) ∧ I' 65 j = (-1)) := by
  intro r
  induction r with
  | zero =>
    intro n i I h1 h2
    obtain ⟨n, rfl⟩ : ∃ q, n = q + 1 := ⟨n - 1, by omega⟩
    rw [f_X10_bare_63, if_pos (by rw [show (6 : Int32) = nI 6 from rfl, nI_leI (by omega) (by omega)]; omega)]
    exact ⟨I, rfl, fun _ _ _ => rfl, fun _ _ => ⟨rfl, rfl⟩, fun j p1 p2 => absurd p1 (by omega)⟩
  | succ r ih =>
    intro n i I h1 h2
    obtain ⟨n, rfl⟩ : ∃ q, n = q + 1 := ⟨n - 1, by omega⟩
    have cc : inbB (nI i) 6 = true := inb_nI (by omega) (by omega)
    rw [f_X10_bare_63, if_neg (by rw [show (6 : Int32) = nI 6 from rfl, nI_leI (by omega) (by omega)]; omega), if_pos cc, if_pos cc, nI_1, nI_clamp (by omega)]
    obtain ⟨I', g1, g2, g3, g4⟩ := ih n (i + 1) (upI (upI I 64 i (-1)) 65 i (-1)) (by omega) (by omega)
    refine ⟨I', g1, fun c hc hc' => ?_, fun j hj => ?_, fun j p1 p2 => ?_⟩
    · rw [g2 c hc hc']; simp [upI, hc, hc']
    · rw [(g3 j (by omega)).1, (g3 j (by omega)).2]; simp [upI, upd, show ¬ j = i by omega]
    · by_cases e : j = i
      · subst e; rw [(g3 j (by omega)).1, (g3 j (by omega)).2]; simp [upI, upd]
      · exact g4 j (by omega) p2
theorem barM_35 : ∀ r n i (I : IT), i + r = 84 → r < n → ∃ I', f_X10_bare_35 n (nI i) I = f_X10_bare_63 FU 0 I' ∧ (∀ c, c ≠ 62 → c ≠ 63 → I' c = I c) ∧ (∀ j, j < i → I' 62 j = I 62 j ∧ I' 63 j = I 63 j) ∧ (∀ j, i ≤ j → j < 84 → I' 62 j = (-1) ∧ I' 63 j = (-1)) := by
  intro r
  induction r with
  | zero =>
    intro n i I h1 h2
    obtain ⟨n, rfl⟩ : ∃ q, n = q + 1 := ⟨n - 1, by omega⟩
    rw [f_X10_bare_35, if_pos (by rw [show (84 : Int32) = nI 84 from rfl, nI_leI (by omega) (by omega)]; omega)]
    exact ⟨I, rfl, fun _ _ _ => rfl, fun _ _ => ⟨rfl, rfl⟩, fun j p1 p2 => absurd p1 (by omega)⟩
  | succ r ih =>
    intro n i I h1 h2
    obtain ⟨n, rfl⟩ : ∃ q, n = q + 1 := ⟨n - 1, by omega⟩
    have cc : inbB (nI i) 84 = true := inb_nI (by omega) (by omega)
    rw [f_X10_bare_35, if_neg (by rw [show (84 : Int32) = nI 84 from rfl, nI_leI (by omega) (by omega)]; omega), if_pos cc, if_pos cc, nI_1, nI_clamp (by omega)]
    obtain ⟨I', g1, g2, g3, g4⟩ := ih n (i + 1) (upI (upI I 62 i (-1)) 63 i (-1)) (by omega) (by omega)
    refine ⟨I', g1, fun c hc hc' => ?_, fun j hj => ?_, fun j p1 p2 => ?_⟩
    · rw [g2 c hc hc']; simp [upI, hc, hc']
    · rw [(g3 j (by omega)).1, (g3 j (by omega)).2]; simp [upI, upd, show ¬ j = i by omega]
    · by_cases e : j = i
      · subst e; rw [(g3 j (by omega)).1, (g3 j (by omega)).2]; simp [upI, upd]
      · exact g4 j (by omega) p2
theorem barM_7 : ∀ r n i (I : IT), i + r = 14 → r < n → ∃ I', f_X10_bare_7 n (nI i) I = f_X10_bare_35 FU 0 I' ∧ (∀ c, c ≠ 61 → c ≠ 66 → I' c = I c) ∧ (∀ j, j < i → I' 61 j = I 61 j ∧ I' 66 j = I 66 j) ∧ (∀ j, i ≤ j → j < 14 → I' 61 j = 0 ∧ I' 66 j = 0) := by
  intro r
  induction r with
  | zero =>
    intro n i I h1 h2
    obtain ⟨n, rfl⟩ : ∃ q, n = q + 1 := ⟨n - 1, by omega⟩
    rw [f_X10_bare_7, if_pos (by rw [show (14 : Int32) = nI 14 from rfl, nI_leI (by omega) (by omega)]; omega)]
    exact ⟨I, rfl, fun _ _ _ => rfl, fun _ _ => ⟨rfl, rfl⟩, fun j p1 p2 => absurd p1 (by omega)⟩
  | succ r ih =>
    intro n i I h1 h2
    obtain ⟨n, rfl⟩ : ∃ q, n = q + 1 := ⟨n - 1, by omega⟩
    have cc : inbB (nI i) 14 = true := inb_nI (by omega) (by omega)
    rw [f_X10_bare_7, if_neg (by rw [show (14 : Int32) = nI 14 from rfl, nI_leI (by omega) (by omega)]; omega), if_pos cc, if_pos cc, nI_1, nI_clamp (by omega)]
    obtain ⟨I', g1, g2, g3, g4⟩ := ih n (i + 1) (upI (upI I 61 i 0) 66 i 0) (by omega) (by omega)
    refine ⟨I', g1, fun c hc hc' => ?_, fun j hj => ?_, fun j p1 p2 => ?_⟩
    · rw [g2 c hc hc']; simp [upI, hc, hc']
    · rw [(g3 j (by omega)).1, (g3 j (by omega)).2]; simp [upI, upd, show ¬ j = i by omega]
    · by_cases e : j = i
      · subst e; rw [(g3 j (by omega)).1, (g3 j (by omega)).2]; simp [upI, upd]
      · exact g4 j (by omega) p2
theorem barM_ok (I : IT) : ∃ r, f_X10_bare I = some r ∧ (∀ c, c ≠ 55 → c ≠ 61 → c ≠ 62 → c ≠ 63 → c ≠ 64 → c ≠ 65 → c ≠ 66 → r c = I c) ∧ (r 55 16 = 0 ∧ ∀ j, j ≠ 16 → r 55 j = I 55 j) ∧ (∀ j, j < 14 → r 61 j = 0 ∧ r 66 j = 0) ∧ (∀ j, j < 84 → r 62 j = -1 ∧ r 63 j = -1) ∧ (∀ j, j < 6 → r 64 j = -1 ∧ r 65 j = -1) := by
  obtain ⟨J1, a1, b1, -, d1⟩ := barM_7 14 FU 0 (upI I 55 16 0) (by omega) (by unfold FU; omega)
  obtain ⟨J2, a2, b2, -, d2⟩ := barM_35 84 FU 0 J1 (by omega) (by unfold FU; omega)
  obtain ⟨J3, a3, b3, -, d3⟩ := barM_63 6 FU 0 J2 (by omega) (by unfold FU; omega)
  rw [nI_0] at a1 a2 a3
  refine ⟨J3, ?_, fun c n0 n1 n2 n3 n4 n5 n6 => ?_, ⟨?_, fun j hj => ?_⟩, fun j hj => ?_, fun j hj => ?_, fun j hj => d3 j (by omega) hj⟩
  · unfold f_X10_bare
    rw [a1, a2, a3]
  · rw [b3 c n4 n5, b2 c n2 n3, b1 c n1 n6]; simp [upI, n0]
  · rw [b3 55 (by decide) (by decide), b2 55 (by decide) (by decide), b1 55 (by decide) (by decide)]; simp [upI, upd]
  · rw [b3 55 (by decide) (by decide), b2 55 (by decide) (by decide), b1 55 (by decide) (by decide)]; simp [upI, upd, hj]
  · rw [b3 61 (by decide) (by decide), b2 61 (by decide) (by decide), b3 66 (by decide) (by decide), b2 66 (by decide) (by decide)]; exact d1 j (by omega) hj
  · rw [b3 62 (by decide) (by decide), b3 63 (by decide) (by decide)]; exact d2 j (by omega) hj
