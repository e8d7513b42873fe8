theorem bare_63 : ∀ r n i (I : IT), i + r = 6 → r < n → ∃ I', f_k88_X10_bare_63 n (nI i) I = some I' ∧ (∀ c, c ≠ 64 → c ≠ 65 → I' c = I c) ∧ (∀ j, j < i → I' 64 j = I 64 j ∧ I' 65 j = I 65 j) ∧ (∀ j, i ≤ j → j < 6 → I' 64 j = (-1) ∧ I' 65 j = (-1)) := by
  intro r
  induction r with
  | zero =>
    intro n i I h1 h2
    obtain ⟨n, rfl⟩ : ∃ q, n = q + 1 := ⟨n - 1, by omega⟩
    rw [f_k88_X10_bare_63, if_pos (by rw [show (6 : Int32) = nI 6 from rfl, nI_leI (by omega) (by omega)]; omega)]
    exact ⟨I, rfl, fun _ _ _ => rfl, fun _ _ => ⟨rfl, rfl⟩, fun j p1 p2 => absurd p1 (by omega)⟩
  | succ r ih =>
    intro n i I h1 h2
    obtain ⟨n, rfl⟩ : ∃ q, n = q + 1 := ⟨n - 1, by omega⟩
    have cc : inbB (nI i) 6 = true := inb_nI (by omega) (by omega)
    rw [f_k88_X10_bare_63, if_neg (by rw [show (6 : Int32) = nI 6 from rfl, nI_leI (by omega) (by omega)]; omega), if_pos cc, if_pos cc, nI_1, nI_clamp (by omega)]
    obtain ⟨I', g1, g2, g3, g4⟩ := ih n (i + 1) (upI (upI I 64 i (-1)) 65 i (-1)) (by omega) (by omega)
    refine ⟨I', g1, fun c hc hc' => ?_, fun j hj => ?_, fun j p1 p2 => ?_⟩
    · rw [g2 c hc hc']; simp [upI, hc, hc']
    · rw [(g3 j (by omega)).1, (g3 j (by omega)).2]; simp [upI, upd, show ¬ j = i by omega]
    · by_cases e : j = i
      · subst e; rw [(g3 j (by omega)).1, (g3 j (by omega)).2]; simp [upI, upd]
      · exact g4 j (by omega) p2
theorem bare_35 : ∀ r n i (I : IT), i + r = 84 → r < n → ∃ I', f_k88_X10_bare_35 n (nI i) I = f_k88_X10_bare_63 FU 0 I' ∧ (∀ c, c ≠ 62 → c ≠ 63 → I' c = I c) ∧ (∀ j, j < i → I' 62 j = I 62 j ∧ I' 63 j = I 63 j) ∧ (∀ j, i ≤ j → j < 84 → I' 62 j = (-1) ∧ I' 63 j = (-1)) := by
  intro r
  induction r with
  | zero =>
    intro n i I h1 h2
    obtain ⟨n, rfl⟩ : ∃ q, n = q + 1 := ⟨n - 1, by omega⟩
    rw [f_k88_X10_bare_35, if_pos (by rw [show (84 : Int32) = nI 84 from rfl, nI_leI (by omega) (by omega)]; omega)]
    exact ⟨I, rfl, fun _ _ _ => rfl, fun _ _ => ⟨rfl, rfl⟩, fun j p1 p2 => absurd p1 (by omega)⟩
  | succ r ih =>
    intro n i I h1 h2
    obtain ⟨n, rfl⟩ : ∃ q, n = q + 1 := ⟨n - 1, by omega⟩
    have cc : inbB (nI i) 84 = true := inb_nI (by omega) (by omega)
    rw [f_k88_X10_bare_35, if_neg (by rw [show (84 : Int32) = nI 84 from rfl, nI_leI (by omega) (by omega)]; omega), if_pos cc, if_pos cc, nI_1, nI_clamp (by omega)]
    obtain ⟨I', g1, g2, g3, g4⟩ := ih n (i + 1) (upI (upI I 62 i (-1)) 63 i (-1)) (by omega) (by omega)
    refine ⟨I', g1, fun c hc hc' => ?_, fun j hj => ?_, fun j p1 p2 => ?_⟩
    · rw [g2 c hc hc']; simp [upI, hc, hc']
    · rw [(g3 j (by omega)).1, (g3 j (by omega)).2]; simp [upI, upd, show ¬ j = i by omega]
    · by_cases e : j = i
      · subst e; rw [(g3 j (by omega)).1, (g3 j (by omega)).2]; simp [upI, upd]
      · exact g4 j (by omega) p2
theorem bare_7 : ∀ r n i (I : IT), i + r = 14 → r < n → ∃ I', f_k88_X10_bare_7 n (nI i) I = f_k88_X10_bare_35 FU 0 I' ∧ (∀ c, c ≠ 61 → c ≠ 66 → I' c = I c) ∧ (∀ j, j < i → I' 61 j = I 61 j ∧ I' 66 j = I 66 j) ∧ (∀ j, i ≤ j → j < 14 → I' 61 j = 0 ∧ I' 66 j = 0) := by
  intro r
  induction r with
  | zero =>
    intro n i I h1 h2
    obtain ⟨n, rfl⟩ : ∃ q, n = q + 1 := ⟨n - 1, by omega⟩
    rw [f_k88_X10_bare_7, if_pos (by rw [show (14 : Int32) = nI 14 from rfl, nI_leI (by omega) (by omega)]; omega)]
    exact ⟨I, rfl, fun _ _ _ => rfl, fun _ _ => ⟨rfl, rfl⟩, fun j p1 p2 => absurd p1 (by omega)⟩
  | succ r ih =>
    intro n i I h1 h2
    obtain ⟨n, rfl⟩ : ∃ q, n = q + 1 := ⟨n - 1, by omega⟩
    have cc : inbB (nI i) 14 = true := inb_nI (by omega) (by omega)
    rw [f_k88_X10_bare_7, if_neg (by rw [show (14 : Int32) = nI 14 from rfl, nI_leI (by omega) (by omega)]; omega), if_pos cc, if_pos cc, nI_1, nI_clamp (by omega)]
    obtain ⟨I', g1, g2, g3, g4⟩ := ih n (i + 1) (upI (upI I 61 i 0) 66 i 0) (by omega) (by omega)
    refine ⟨I', g1, fun c hc hc' => ?_, fun j hj => ?_, fun j p1 p2 => ?_⟩
    · rw [g2 c hc hc']; simp [upI, hc, hc']
    · rw [(g3 j (by omega)).1, (g3 j (by omega)).2]; simp [upI, upd, show ¬ j = i by omega]
    · by_cases e : j = i
      · subst e; rw [(g3 j (by omega)).1, (g3 j (by omega)).2]; simp [upI, upd]
      · exact g4 j (by omega) p2
theorem bare_ok (I : IT) : ∃ r, f_k88_X10_bare I = some r ∧ (∀ c, c ≠ 55 → c ≠ 61 → c ≠ 62 → c ≠ 63 → c ≠ 64 → c ≠ 65 → c ≠ 66 → r c = I c) ∧ (r 55 16 = 0 ∧ ∀ j, j ≠ 16 → r 55 j = I 55 j) ∧ (∀ j, j < 14 → r 61 j = 0 ∧ r 66 j = 0) ∧ (∀ j, j < 84 → r 62 j = -1 ∧ r 63 j = -1) ∧ (∀ j, j < 6 → r 64 j = -1 ∧ r 65 j = -1) := by
  obtain ⟨J1, a1, b1, -, d1⟩ := bare_7 14 FU 0 (upI I 55 16 0) (by omega) (by unfold FU; omega)
  obtain ⟨J2, a2, b2, -, d2⟩ := bare_35 84 FU 0 J1 (by omega) (by unfold FU; omega)
  obtain ⟨J3, a3, b3, -, d3⟩ := bare_63 6 FU 0 J2 (by omega) (by unfold FU; omega)
  rw [nI_0] at a1 a2 a3
  refine ⟨J3, ?_, fun c n0 n1 n2 n3 n4 n5 n6 => ?_, ⟨?_, fun j hj => ?_⟩, fun j hj => ?_, fun j hj => ?_, fun j hj => d3 j (by omega) hj⟩
  · unfold f_k88_X10_bare
    rw [a1, a2, a3]
  · rw [b3 c n4 n5, b2 c n2 n3, b1 c n1 n6]; simp [upI, n0]
  · rw [b3 55 (by decide) (by decide), b2 55 (by decide) (by decide), b1 55 (by decide) (by decide)]; simp [upI, upd]
  · rw [b3 55 (by decide) (by decide), b2 55 (by decide) (by decide), b1 55 (by decide) (by decide)]; simp [upI, upd, hj]
  · rw [b3 61 (by decide) (by decide), b2 61 (by decide) (by decide), b3 66 (by decide) (by decide), b2 66 (by decide) (by decide)]; exact d1 j (by omega) hj
  · rw [b3 62 (by decide) (by decide), b3 63 (by decide) (by decide)]; exact d2 j (by omega) hj
