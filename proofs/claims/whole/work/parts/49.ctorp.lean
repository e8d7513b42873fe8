theorem fl_13 (v : Int32) : ∀ r n i (I : IT), i + r = 14 → r < n → ∃ I', f_k19_J7_fill_53178_13_5 n v (nI i) 14 I = some I' ∧ (∀ c, c ≠ 13 → I' c = I c) ∧ (∀ j, j < i → I' 13 j = I 13 j) ∧ (∀ j, i ≤ j → j < 14 → I' 13 j = v) := by
  intro r
  induction r with
  | zero =>
    intro n i I h1 h2
    obtain ⟨n, rfl⟩ : ∃ q, n = q + 1 := ⟨n - 1, by omega⟩
    rw [f_k19_J7_fill_53178_13_5, if_pos (by rw [show (14 : Int32) = nI 14 from rfl, nI_leI (by omega) (by omega)]; omega)]
    exact ⟨I, rfl, fun _ _ => rfl, fun _ _ => rfl, fun j p1 p2 => absurd p1 (by omega)⟩
  | succ r ih =>
    intro n i I h1 h2
    obtain ⟨n, rfl⟩ : ∃ q, n = q + 1 := ⟨n - 1, by omega⟩
    rw [f_k19_J7_fill_53178_13_5, if_neg (by rw [show (14 : Int32) = nI 14 from rfl, nI_leI (by omega) (by omega)]; omega), if_pos (inb_nI (by omega) (by omega)), nI_1, nI_clamp (by omega)]
    obtain ⟨I', g1, g2, g3, g4⟩ := ih n (i + 1) (upI I 13 i v) (by omega) (by omega)
    refine ⟨I', g1, fun c hc => ?_, fun j hj => ?_, fun j p1 p2 => ?_⟩
    · rw [g2 c hc]; simp [upI, hc]
    · rw [g3 j (by omega)]; simp only [upI, upd, if_true, if_neg (show ¬ j = i by omega)]
    · by_cases e : j = i
      · subst e; rw [g3 j (by omega)]; simp only [upI, upd, if_true]
      · exact g4 j (by omega) p2
theorem fk_13 (v : Int32) (I : IT) : ∃ I', f_k19_J7_fill_53178_13 v I = some I' ∧ (∀ c, c ≠ 13 → I' c = I c) ∧ (∀ j, j < 14 → I' 13 j = v) := by
  obtain ⟨I', g1, g2, -, g4⟩ := fl_13 v 14 FU 0 I (by omega) (by unfold FU; omega)
  rw [nI_0] at g1
  refine ⟨I', ?_, g2, fun j hj => g4 j (by omega) hj⟩
  unfold f_k19_J7_fill_53178_13
  exact g1
theorem fl_14 (v : Int32) : ∀ r n i (I : IT), i + r = 84 → r < n → ∃ I', f_k19_J7_fill_53178_14_5 n v (nI i) 84 I = some I' ∧ (∀ c, c ≠ 14 → I' c = I c) ∧ (∀ j, j < i → I' 14 j = I 14 j) ∧ (∀ j, i ≤ j → j < 84 → I' 14 j = v) := by
  intro r
  induction r with
  | zero =>
    intro n i I h1 h2
    obtain ⟨n, rfl⟩ : ∃ q, n = q + 1 := ⟨n - 1, by omega⟩
    rw [f_k19_J7_fill_53178_14_5, if_pos (by rw [show (84 : Int32) = nI 84 from rfl, nI_leI (by omega) (by omega)]; omega)]
    exact ⟨I, rfl, fun _ _ => rfl, fun _ _ => rfl, fun j p1 p2 => absurd p1 (by omega)⟩
  | succ r ih =>
    intro n i I h1 h2
    obtain ⟨n, rfl⟩ : ∃ q, n = q + 1 := ⟨n - 1, by omega⟩
    rw [f_k19_J7_fill_53178_14_5, if_neg (by rw [show (84 : Int32) = nI 84 from rfl, nI_leI (by omega) (by omega)]; omega), if_pos (inb_nI (by omega) (by omega)), nI_1, nI_clamp (by omega)]
    obtain ⟨I', g1, g2, g3, g4⟩ := ih n (i + 1) (upI I 14 i v) (by omega) (by omega)
    refine ⟨I', g1, fun c hc => ?_, fun j hj => ?_, fun j p1 p2 => ?_⟩
    · rw [g2 c hc]; simp [upI, hc]
    · rw [g3 j (by omega)]; simp only [upI, upd, if_true, if_neg (show ¬ j = i by omega)]
    · by_cases e : j = i
      · subst e; rw [g3 j (by omega)]; simp only [upI, upd, if_true]
      · exact g4 j (by omega) p2
theorem fk_14 (v : Int32) (I : IT) : ∃ I', f_k19_J7_fill_53178_14 v I = some I' ∧ (∀ c, c ≠ 14 → I' c = I c) ∧ (∀ j, j < 84 → I' 14 j = v) := by
  obtain ⟨I', g1, g2, -, g4⟩ := fl_14 v 84 FU 0 I (by omega) (by unfold FU; omega)
  rw [nI_0] at g1
  refine ⟨I', ?_, g2, fun j hj => g4 j (by omega) hj⟩
  unfold f_k19_J7_fill_53178_14
  exact g1
theorem fl_15 (v : Int32) : ∀ r n i (I : IT), i + r = 84 → r < n → ∃ I', f_k19_J7_fill_53178_15_5 n v (nI i) 84 I = some I' ∧ (∀ c, c ≠ 15 → I' c = I c) ∧ (∀ j, j < i → I' 15 j = I 15 j) ∧ (∀ j, i ≤ j → j < 84 → I' 15 j = v) := by
  intro r
  induction r with
  | zero =>
    intro n i I h1 h2
    obtain ⟨n, rfl⟩ : ∃ q, n = q + 1 := ⟨n - 1, by omega⟩
    rw [f_k19_J7_fill_53178_15_5, if_pos (by rw [show (84 : Int32) = nI 84 from rfl, nI_leI (by omega) (by omega)]; omega)]
    exact ⟨I, rfl, fun _ _ => rfl, fun _ _ => rfl, fun j p1 p2 => absurd p1 (by omega)⟩
  | succ r ih =>
    intro n i I h1 h2
    obtain ⟨n, rfl⟩ : ∃ q, n = q + 1 := ⟨n - 1, by omega⟩
    rw [f_k19_J7_fill_53178_15_5, if_neg (by rw [show (84 : Int32) = nI 84 from rfl, nI_leI (by omega) (by omega)]; omega), if_pos (inb_nI (by omega) (by omega)), nI_1, nI_clamp (by omega)]
    obtain ⟨I', g1, g2, g3, g4⟩ := ih n (i + 1) (upI I 15 i v) (by omega) (by omega)
    refine ⟨I', g1, fun c hc => ?_, fun j hj => ?_, fun j p1 p2 => ?_⟩
    · rw [g2 c hc]; simp [upI, hc]
    · rw [g3 j (by omega)]; simp only [upI, upd, if_true, if_neg (show ¬ j = i by omega)]
    · by_cases e : j = i
      · subst e; rw [g3 j (by omega)]; simp only [upI, upd, if_true]
      · exact g4 j (by omega) p2
theorem fk_15 (v : Int32) (I : IT) : ∃ I', f_k19_J7_fill_53178_15 v I = some I' ∧ (∀ c, c ≠ 15 → I' c = I c) ∧ (∀ j, j < 84 → I' 15 j = v) := by
  obtain ⟨I', g1, g2, -, g4⟩ := fl_15 v 84 FU 0 I (by omega) (by unfold FU; omega)
  rw [nI_0] at g1
  refine ⟨I', ?_, g2, fun j hj => g4 j (by omega) hj⟩
  unfold f_k19_J7_fill_53178_15
  exact g1
theorem fl_16 (v : Int32) : ∀ r n i (I : IT), i + r = 6 → r < n → ∃ I', f_k19_J7_fill_53178_16_5 n v (nI i) 6 I = some I' ∧ (∀ c, c ≠ 16 → I' c = I c) ∧ (∀ j, j < i → I' 16 j = I 16 j) ∧ (∀ j, i ≤ j → j < 6 → I' 16 j = v) := by
  intro r
  induction r with
  | zero =>
    intro n i I h1 h2
    obtain ⟨n, rfl⟩ : ∃ q, n = q + 1 := ⟨n - 1, by omega⟩
    rw [f_k19_J7_fill_53178_16_5, if_pos (by rw [show (6 : Int32) = nI 6 from rfl, nI_leI (by omega) (by omega)]; omega)]
    exact ⟨I, rfl, fun _ _ => rfl, fun _ _ => rfl, fun j p1 p2 => absurd p1 (by omega)⟩
  | succ r ih =>
    intro n i I h1 h2
    obtain ⟨n, rfl⟩ : ∃ q, n = q + 1 := ⟨n - 1, by omega⟩
    rw [f_k19_J7_fill_53178_16_5, if_neg (by rw [show (6 : Int32) = nI 6 from rfl, nI_leI (by omega) (by omega)]; omega), if_pos (inb_nI (by omega) (by omega)), nI_1, nI_clamp (by omega)]
    obtain ⟨I', g1, g2, g3, g4⟩ := ih n (i + 1) (upI I 16 i v) (by omega) (by omega)
    refine ⟨I', g1, fun c hc => ?_, fun j hj => ?_, fun j p1 p2 => ?_⟩
    · rw [g2 c hc]; simp [upI, hc]
    · rw [g3 j (by omega)]; simp only [upI, upd, if_true, if_neg (show ¬ j = i by omega)]
    · by_cases e : j = i
      · subst e; rw [g3 j (by omega)]; simp only [upI, upd, if_true]
      · exact g4 j (by omega) p2
theorem fk_16 (v : Int32) (I : IT) : ∃ I', f_k19_J7_fill_53178_16 v I = some I' ∧ (∀ c, c ≠ 16 → I' c = I c) ∧ (∀ j, j < 6 → I' 16 j = v) := by
  obtain ⟨I', g1, g2, -, g4⟩ := fl_16 v 6 FU 0 I (by omega) (by unfold FU; omega)
  rw [nI_0] at g1
  refine ⟨I', ?_, g2, fun j hj => g4 j (by omega) hj⟩
  unfold f_k19_J7_fill_53178_16
  exact g1
theorem fl_17 (v : Int32) : ∀ r n i (I : IT), i + r = 6 → r < n → ∃ I', f_k19_J7_fill_53178_17_5 n v (nI i) 6 I = some I' ∧ (∀ c, c ≠ 17 → I' c = I c) ∧ (∀ j, j < i → I' 17 j = I 17 j) ∧ (∀ j, i ≤ j → j < 6 → I' 17 j = v) := by
  intro r
  induction r with
  | zero =>
    intro n i I h1 h2
    obtain ⟨n, rfl⟩ : ∃ q, n = q + 1 := ⟨n - 1, by omega⟩
    rw [f_k19_J7_fill_53178_17_5, if_pos (by rw [show (6 : Int32) = nI 6 from rfl, nI_leI (by omega) (by omega)]; omega)]
    exact ⟨I, rfl, fun _ _ => rfl, fun _ _ => rfl, fun j p1 p2 => absurd p1 (by omega)⟩
  | succ r ih =>
    intro n i I h1 h2
    obtain ⟨n, rfl⟩ : ∃ q, n = q + 1 := ⟨n - 1, by omega⟩
    rw [f_k19_J7_fill_53178_17_5, if_neg (by rw [show (6 : Int32) = nI 6 from rfl, nI_leI (by omega) (by omega)]; omega), if_pos (inb_nI (by omega) (by omega)), nI_1, nI_clamp (by omega)]
    obtain ⟨I', g1, g2, g3, g4⟩ := ih n (i + 1) (upI I 17 i v) (by omega) (by omega)
    refine ⟨I', g1, fun c hc => ?_, fun j hj => ?_, fun j p1 p2 => ?_⟩
    · rw [g2 c hc]; simp [upI, hc]
    · rw [g3 j (by omega)]; simp only [upI, upd, if_true, if_neg (show ¬ j = i by omega)]
    · by_cases e : j = i
      · subst e; rw [g3 j (by omega)]; simp only [upI, upd, if_true]
      · exact g4 j (by omega) p2
theorem fk_17 (v : Int32) (I : IT) : ∃ I', f_k19_J7_fill_53178_17 v I = some I' ∧ (∀ c, c ≠ 17 → I' c = I c) ∧ (∀ j, j < 6 → I' 17 j = v) := by
  obtain ⟨I', g1, g2, -, g4⟩ := fl_17 v 6 FU 0 I (by omega) (by unfold FU; omega)
  rw [nI_0] at g1
  refine ⟨I', ?_, g2, fun j hj => g4 j (by omega) hj⟩
  unfold f_k19_J7_fill_53178_17
  exact g1
theorem fl_18 (v : Int32) : ∀ r n i (I : IT), i + r = 14 → r < n → ∃ I', f_k19_J7_fill_53178_18_5 n v (nI i) 14 I = some I' ∧ (∀ c, c ≠ 18 → I' c = I c) ∧ (∀ j, j < i → I' 18 j = I 18 j) ∧ (∀ j, i ≤ j → j < 14 → I' 18 j = v) := by
  intro r
  induction r with
  | zero =>
    intro n i I h1 h2
    obtain ⟨n, rfl⟩ : ∃ q, n = q + 1 := ⟨n - 1, by omega⟩
    rw [f_k19_J7_fill_53178_18_5, if_pos (by rw [show (14 : Int32) = nI 14 from rfl, nI_leI (by omega) (by omega)]; omega)]
    exact ⟨I, rfl, fun _ _ => rfl, fun _ _ => rfl, fun j p1 p2 => absurd p1 (by omega)⟩
  | succ r ih =>
    intro n i I h1 h2
    obtain ⟨n, rfl⟩ : ∃ q, n = q + 1 := ⟨n - 1, by omega⟩
    rw [f_k19_J7_fill_53178_18_5, if_neg (by rw [show (14 : Int32) = nI 14 from rfl, nI_leI (by omega) (by omega)]; omega), if_pos (inb_nI (by omega) (by omega)), nI_1, nI_clamp (by omega)]
    obtain ⟨I', g1, g2, g3, g4⟩ := ih n (i + 1) (upI I 18 i v) (by omega) (by omega)
    refine ⟨I', g1, fun c hc => ?_, fun j hj => ?_, fun j p1 p2 => ?_⟩
    · rw [g2 c hc]; simp [upI, hc]
    · rw [g3 j (by omega)]; simp only [upI, upd, if_true, if_neg (show ¬ j = i by omega)]
    · by_cases e : j = i
      · subst e; rw [g3 j (by omega)]; simp only [upI, upd, if_true]
      · exact g4 j (by omega) p2
theorem fk_18 (v : Int32) (I : IT) : ∃ I', f_k19_J7_fill_53178_18 v I = some I' ∧ (∀ c, c ≠ 18 → I' c = I c) ∧ (∀ j, j < 14 → I' 18 j = v) := by
  obtain ⟨I', g1, g2, -, g4⟩ := fl_18 v 14 FU 0 I (by omega) (by unfold FU; omega)
  rw [nI_0] at g1
  refine ⟨I', ?_, g2, fun j hj => g4 j (by omega) hj⟩
  unfold f_k19_J7_fill_53178_18
  exact g1
theorem fl_21 (v : Int32) : ∀ r n i (I : IT), i + r = 14 → r < n → ∃ I', f_k27_J7_fill_53178_21_5 n v (nI i) 14 I = some I' ∧ (∀ c, c ≠ 21 → I' c = I c) ∧ (∀ j, j < i → I' 21 j = I 21 j) ∧ (∀ j, i ≤ j → j < 14 → I' 21 j = v) := by
  intro r
  induction r with
  | zero =>
    intro n i I h1 h2
    obtain ⟨n, rfl⟩ : ∃ q, n = q + 1 := ⟨n - 1, by omega⟩
    rw [f_k27_J7_fill_53178_21_5, if_pos (by rw [show (14 : Int32) = nI 14 from rfl, nI_leI (by omega) (by omega)]; omega)]
    exact ⟨I, rfl, fun _ _ => rfl, fun _ _ => rfl, fun j p1 p2 => absurd p1 (by omega)⟩
  | succ r ih =>
    intro n i I h1 h2
    obtain ⟨n, rfl⟩ : ∃ q, n = q + 1 := ⟨n - 1, by omega⟩
    rw [f_k27_J7_fill_53178_21_5, if_neg (by rw [show (14 : Int32) = nI 14 from rfl, nI_leI (by omega) (by omega)]; omega), if_pos (inb_nI (by omega) (by omega)), nI_1, nI_clamp (by omega)]
    obtain ⟨I', g1, g2, g3, g4⟩ := ih n (i + 1) (upI I 21 i v) (by omega) (by omega)
    refine ⟨I', g1, fun c hc => ?_, fun j hj => ?_, fun j p1 p2 => ?_⟩
    · rw [g2 c hc]; simp [upI, hc]
    · rw [g3 j (by omega)]; simp only [upI, upd, if_true, if_neg (show ¬ j = i by omega)]
    · by_cases e : j = i
      · subst e; rw [g3 j (by omega)]; simp only [upI, upd, if_true]
      · exact g4 j (by omega) p2
theorem fk_21 (v : Int32) (I : IT) : ∃ I', f_k27_J7_fill_53178_21 v I = some I' ∧ (∀ c, c ≠ 21 → I' c = I c) ∧ (∀ j, j < 14 → I' 21 j = v) := by
  obtain ⟨I', g1, g2, -, g4⟩ := fl_21 v 14 FU 0 I (by omega) (by unfold FU; omega)
  rw [nI_0] at g1
  refine ⟨I', ?_, g2, fun j hj => g4 j (by omega) hj⟩
  unfold f_k27_J7_fill_53178_21
  exact g1
theorem fl_22 (v : Int32) : ∀ r n i (I : IT), i + r = 84 → r < n → ∃ I', f_k27_J7_fill_53178_22_5 n v (nI i) 84 I = some I' ∧ (∀ c, c ≠ 22 → I' c = I c) ∧ (∀ j, j < i → I' 22 j = I 22 j) ∧ (∀ j, i ≤ j → j < 84 → I' 22 j = v) := by
  intro r
  induction r with
  | zero =>
    intro n i I h1 h2
    obtain ⟨n, rfl⟩ : ∃ q, n = q + 1 := ⟨n - 1, by omega⟩
    rw [f_k27_J7_fill_53178_22_5, if_pos (by rw [show (84 : Int32) = nI 84 from rfl, nI_leI (by omega) (by omega)]; omega)]
    exact ⟨I, rfl, fun _ _ => rfl, fun _ _ => rfl, fun j p1 p2 => absurd p1 (by omega)⟩
  | succ r ih =>
    intro n i I h1 h2
    obtain ⟨n, rfl⟩ : ∃ q, n = q + 1 := ⟨n - 1, by omega⟩
    rw [f_k27_J7_fill_53178_22_5, if_neg (by rw [show (84 : Int32) = nI 84 from rfl, nI_leI (by omega) (by omega)]; omega), if_pos (inb_nI (by omega) (by omega)), nI_1, nI_clamp (by omega)]
    obtain ⟨I', g1, g2, g3, g4⟩ := ih n (i + 1) (upI I 22 i v) (by omega) (by omega)
    refine ⟨I', g1, fun c hc => ?_, fun j hj => ?_, fun j p1 p2 => ?_⟩
    · rw [g2 c hc]; simp [upI, hc]
    · rw [g3 j (by omega)]; simp only [upI, upd, if_true, if_neg (show ¬ j = i by omega)]
    · by_cases e : j = i
      · subst e; rw [g3 j (by omega)]; simp only [upI, upd, if_true]
      · exact g4 j (by omega) p2
theorem fk_22 (v : Int32) (I : IT) : ∃ I', f_k27_J7_fill_53178_22 v I = some I' ∧ (∀ c, c ≠ 22 → I' c = I c) ∧ (∀ j, j < 84 → I' 22 j = v) := by
  obtain ⟨I', g1, g2, -, g4⟩ := fl_22 v 84 FU 0 I (by omega) (by unfold FU; omega)
  rw [nI_0] at g1
  refine ⟨I', ?_, g2, fun j hj => g4 j (by omega) hj⟩
  unfold f_k27_J7_fill_53178_22
  exact g1
theorem fl_23 (v : Int32) : ∀ r n i (I : IT), i + r = 84 → r < n → ∃ I', f_k27_J7_fill_53178_23_5 n v (nI i) 84 I = some I' ∧ (∀ c, c ≠ 23 → I' c = I c) ∧ (∀ j, j < i → I' 23 j = I 23 j) ∧ (∀ j, i ≤ j → j < 84 → I' 23 j = v) := by
  intro r
  induction r with
  | zero =>
    intro n i I h1 h2
    obtain ⟨n, rfl⟩ : ∃ q, n = q + 1 := ⟨n - 1, by omega⟩
    rw [f_k27_J7_fill_53178_23_5, if_pos (by rw [show (84 : Int32) = nI 84 from rfl, nI_leI (by omega) (by omega)]; omega)]
    exact ⟨I, rfl, fun _ _ => rfl, fun _ _ => rfl, fun j p1 p2 => absurd p1 (by omega)⟩
  | succ r ih =>
    intro n i I h1 h2
    obtain ⟨n, rfl⟩ : ∃ q, n = q + 1 := ⟨n - 1, by omega⟩
    rw [f_k27_J7_fill_53178_23_5, if_neg (by rw [show (84 : Int32) = nI 84 from rfl, nI_leI (by omega) (by omega)]; omega), if_pos (inb_nI (by omega) (by omega)), nI_1, nI_clamp (by omega)]
    obtain ⟨I', g1, g2, g3, g4⟩ := ih n (i + 1) (upI I 23 i v) (by omega) (by omega)
    refine ⟨I', g1, fun c hc => ?_, fun j hj => ?_, fun j p1 p2 => ?_⟩
    · rw [g2 c hc]; simp [upI, hc]
    · rw [g3 j (by omega)]; simp only [upI, upd, if_true, if_neg (show ¬ j = i by omega)]
    · by_cases e : j = i
      · subst e; rw [g3 j (by omega)]; simp only [upI, upd, if_true]
      · exact g4 j (by omega) p2
theorem fk_23 (v : Int32) (I : IT) : ∃ I', f_k27_J7_fill_53178_23 v I = some I' ∧ (∀ c, c ≠ 23 → I' c = I c) ∧ (∀ j, j < 84 → I' 23 j = v) := by
  obtain ⟨I', g1, g2, -, g4⟩ := fl_23 v 84 FU 0 I (by omega) (by unfold FU; omega)
  rw [nI_0] at g1
  refine ⟨I', ?_, g2, fun j hj => g4 j (by omega) hj⟩
  unfold f_k27_J7_fill_53178_23
  exact g1
theorem fl_24 (v : Int32) : ∀ r n i (I : IT), i + r = 6 → r < n → ∃ I', f_k27_J7_fill_53178_24_5 n v (nI i) 6 I = some I' ∧ (∀ c, c ≠ 24 → I' c = I c) ∧ (∀ j, j < i → I' 24 j = I 24 j) ∧ (∀ j, i ≤ j → j < 6 → I' 24 j = v) := by
  intro r
  induction r with
  | zero =>
    intro n i I h1 h2
    obtain ⟨n, rfl⟩ : ∃ q, n = q + 1 := ⟨n - 1, by omega⟩
    rw [f_k27_J7_fill_53178_24_5, if_pos (by rw [show (6 : Int32) = nI 6 from rfl, nI_leI (by omega) (by omega)]; omega)]
    exact ⟨I, rfl, fun _ _ => rfl, fun _ _ => rfl, fun j p1 p2 => absurd p1 (by omega)⟩
  | succ r ih =>
    intro n i I h1 h2
    obtain ⟨n, rfl⟩ : ∃ q, n = q + 1 := ⟨n - 1, by omega⟩
    rw [f_k27_J7_fill_53178_24_5, if_neg (by rw [show (6 : Int32) = nI 6 from rfl, nI_leI (by omega) (by omega)]; omega), if_pos (inb_nI (by omega) (by omega)), nI_1, nI_clamp (by omega)]
    obtain ⟨I', g1, g2, g3, g4⟩ := ih n (i + 1) (upI I 24 i v) (by omega) (by omega)
    refine ⟨I', g1, fun c hc => ?_, fun j hj => ?_, fun j p1 p2 => ?_⟩
    · rw [g2 c hc]; simp [upI, hc]
    · rw [g3 j (by omega)]; simp only [upI, upd, if_true, if_neg (show ¬ j = i by omega)]
    · by_cases e : j = i
      · subst e; rw [g3 j (by omega)]; simp only [upI, upd, if_true]
      · exact g4 j (by omega) p2
theorem fk_24 (v : Int32) (I : IT) : ∃ I', f_k27_J7_fill_53178_24 v I = some I' ∧ (∀ c, c ≠ 24 → I' c = I c) ∧ (∀ j, j < 6 → I' 24 j = v) := by
  obtain ⟨I', g1, g2, -, g4⟩ := fl_24 v 6 FU 0 I (by omega) (by unfold FU; omega)
  rw [nI_0] at g1
  refine ⟨I', ?_, g2, fun j hj => g4 j (by omega) hj⟩
  unfold f_k27_J7_fill_53178_24
  exact g1
theorem fl_25 (v : Int32) : ∀ r n i (I : IT), i + r = 6 → r < n → ∃ I', f_k27_J7_fill_53178_25_5 n v (nI i) 6 I = some I' ∧ (∀ c, c ≠ 25 → I' c = I c) ∧ (∀ j, j < i → I' 25 j = I 25 j) ∧ (∀ j, i ≤ j → j < 6 → I' 25 j = v) := by
  intro r
  induction r with
  | zero =>
    intro n i I h1 h2
    obtain ⟨n, rfl⟩ : ∃ q, n = q + 1 := ⟨n - 1, by omega⟩
    rw [f_k27_J7_fill_53178_25_5, if_pos (by rw [show (6 : Int32) = nI 6 from rfl, nI_leI (by omega) (by omega)]; omega)]
    exact ⟨I, rfl, fun _ _ => rfl, fun _ _ => rfl, fun j p1 p2 => absurd p1 (by omega)⟩
  | succ r ih =>
    intro n i I h1 h2
    obtain ⟨n, rfl⟩ : ∃ q, n = q + 1 := ⟨n - 1, by omega⟩
    rw [f_k27_J7_fill_53178_25_5, if_neg (by rw [show (6 : Int32) = nI 6 from rfl, nI_leI (by omega) (by omega)]; omega), if_pos (inb_nI (by omega) (by omega)), nI_1, nI_clamp (by omega)]
    obtain ⟨I', g1, g2, g3, g4⟩ := ih n (i + 1) (upI I 25 i v) (by omega) (by omega)
    refine ⟨I', g1, fun c hc => ?_, fun j hj => ?_, fun j p1 p2 => ?_⟩
    · rw [g2 c hc]; simp [upI, hc]
    · rw [g3 j (by omega)]; simp only [upI, upd, if_true, if_neg (show ¬ j = i by omega)]
    · by_cases e : j = i
      · subst e; rw [g3 j (by omega)]; simp only [upI, upd, if_true]
      · exact g4 j (by omega) p2
theorem fk_25 (v : Int32) (I : IT) : ∃ I', f_k27_J7_fill_53178_25 v I = some I' ∧ (∀ c, c ≠ 25 → I' c = I c) ∧ (∀ j, j < 6 → I' 25 j = v) := by
  obtain ⟨I', g1, g2, -, g4⟩ := fl_25 v 6 FU 0 I (by omega) (by unfold FU; omega)
  rw [nI_0] at g1
  refine ⟨I', ?_, g2, fun j hj => g4 j (by omega) hj⟩
  unfold f_k27_J7_fill_53178_25
  exact g1
theorem fl_26 (v : Int32) : ∀ r n i (I : IT), i + r = 14 → r < n → ∃ I', f_k27_J7_fill_53178_26_5 n v (nI i) 14 I = some I' ∧ (∀ c, c ≠ 26 → I' c = I c) ∧ (∀ j, j < i → I' 26 j = I 26 j) ∧ (∀ j, i ≤ j → j < 14 → I' 26 j = v) := by
  intro r
  induction r with
  | zero =>
    intro n i I h1 h2
    obtain ⟨n, rfl⟩ : ∃ q, n = q + 1 := ⟨n - 1, by omega⟩
    rw [f_k27_J7_fill_53178_26_5, if_pos (by rw [show (14 : Int32) = nI 14 from rfl, nI_leI (by omega) (by omega)]; omega)]
    exact ⟨I, rfl, fun _ _ => rfl, fun _ _ => rfl, fun j p1 p2 => absurd p1 (by omega)⟩
  | succ r ih =>
    intro n i I h1 h2
    obtain ⟨n, rfl⟩ : ∃ q, n = q + 1 := ⟨n - 1, by omega⟩
    rw [f_k27_J7_fill_53178_26_5, if_neg (by rw [show (14 : Int32) = nI 14 from rfl, nI_leI (by omega) (by omega)]; omega), if_pos (inb_nI (by omega) (by omega)), nI_1, nI_clamp (by omega)]
    obtain ⟨I', g1, g2, g3, g4⟩ := ih n (i + 1) (upI I 26 i v) (by omega) (by omega)
    refine ⟨I', g1, fun c hc => ?_, fun j hj => ?_, fun j p1 p2 => ?_⟩
    · rw [g2 c hc]; simp [upI, hc]
    · rw [g3 j (by omega)]; simp only [upI, upd, if_true, if_neg (show ¬ j = i by omega)]
    · by_cases e : j = i
      · subst e; rw [g3 j (by omega)]; simp only [upI, upd, if_true]
      · exact g4 j (by omega) p2
theorem fk_26 (v : Int32) (I : IT) : ∃ I', f_k27_J7_fill_53178_26 v I = some I' ∧ (∀ c, c ≠ 26 → I' c = I c) ∧ (∀ j, j < 14 → I' 26 j = v) := by
  obtain ⟨I', g1, g2, -, g4⟩ := fl_26 v 14 FU 0 I (by omega) (by unfold FU; omega)
  rw [nI_0] at g1
  refine ⟨I', ?_, g2, fun j hj => g4 j (by omega) hj⟩
  unfold f_k27_J7_fill_53178_26
  exact g1
theorem fl_28 (v : Int32) : ∀ r n i (I : IT), i + r = 14 → r < n → ∃ I', f_k34_J7_fill_53178_28_5 n v (nI i) 14 I = some I' ∧ (∀ c, c ≠ 28 → I' c = I c) ∧ (∀ j, j < i → I' 28 j = I 28 j) ∧ (∀ j, i ≤ j → j < 14 → I' 28 j = v) := by
  intro r
  induction r with
  | zero =>
    intro n i I h1 h2
    obtain ⟨n, rfl⟩ : ∃ q, n = q + 1 := ⟨n - 1, by omega⟩
    rw [f_k34_J7_fill_53178_28_5, if_pos (by rw [show (14 : Int32) = nI 14 from rfl, nI_leI (by omega) (by omega)]; omega)]
    exact ⟨I, rfl, fun _ _ => rfl, fun _ _ => rfl, fun j p1 p2 => absurd p1 (by omega)⟩
  | succ r ih =>
    intro n i I h1 h2
    obtain ⟨n, rfl⟩ : ∃ q, n = q + 1 := ⟨n - 1, by omega⟩
    rw [f_k34_J7_fill_53178_28_5, if_neg (by rw [show (14 : Int32) = nI 14 from rfl, nI_leI (by omega) (by omega)]; omega), if_pos (inb_nI (by omega) (by omega)), nI_1, nI_clamp (by omega)]
    obtain ⟨I', g1, g2, g3, g4⟩ := ih n (i + 1) (upI I 28 i v) (by omega) (by omega)
    refine ⟨I', g1, fun c hc => ?_, fun j hj => ?_, fun j p1 p2 => ?_⟩
    · rw [g2 c hc]; simp [upI, hc]
    · rw [g3 j (by omega)]; simp only [upI, upd, if_true, if_neg (show ¬ j = i by omega)]
    · by_cases e : j = i
      · subst e; rw [g3 j (by omega)]; simp only [upI, upd, if_true]
      · exact g4 j (by omega) p2
theorem fk_28 (v : Int32) (I : IT) : ∃ I', f_k34_J7_fill_53178_28 v I = some I' ∧ (∀ c, c ≠ 28 → I' c = I c) ∧ (∀ j, j < 14 → I' 28 j = v) := by
  obtain ⟨I', g1, g2, -, g4⟩ := fl_28 v 14 FU 0 I (by omega) (by unfold FU; omega)
  rw [nI_0] at g1
  refine ⟨I', ?_, g2, fun j hj => g4 j (by omega) hj⟩
  unfold f_k34_J7_fill_53178_28
  exact g1
theorem fl_29 (v : Int32) : ∀ r n i (I : IT), i + r = 84 → r < n → ∃ I', f_k34_J7_fill_53178_29_5 n v (nI i) 84 I = some I' ∧ (∀ c, c ≠ 29 → I' c = I c) ∧ (∀ j, j < i → I' 29 j = I 29 j) ∧ (∀ j, i ≤ j → j < 84 → I' 29 j = v) := by
  intro r
  induction r with
  | zero =>
    intro n i I h1 h2
    obtain ⟨n, rfl⟩ : ∃ q, n = q + 1 := ⟨n - 1, by omega⟩
    rw [f_k34_J7_fill_53178_29_5, if_pos (by rw [show (84 : Int32) = nI 84 from rfl, nI_leI (by omega) (by omega)]; omega)]
    exact ⟨I, rfl, fun _ _ => rfl, fun _ _ => rfl, fun j p1 p2 => absurd p1 (by omega)⟩
  | succ r ih =>
    intro n i I h1 h2
    obtain ⟨n, rfl⟩ : ∃ q, n = q + 1 := ⟨n - 1, by omega⟩
    rw [f_k34_J7_fill_53178_29_5, if_neg (by rw [show (84 : Int32) = nI 84 from rfl, nI_leI (by omega) (by omega)]; omega), if_pos (inb_nI (by omega) (by omega)), nI_1, nI_clamp (by omega)]
    obtain ⟨I', g1, g2, g3, g4⟩ := ih n (i + 1) (upI I 29 i v) (by omega) (by omega)
    refine ⟨I', g1, fun c hc => ?_, fun j hj => ?_, fun j p1 p2 => ?_⟩
    · rw [g2 c hc]; simp [upI, hc]
    · rw [g3 j (by omega)]; simp only [upI, upd, if_true, if_neg (show ¬ j = i by omega)]
    · by_cases e : j = i
      · subst e; rw [g3 j (by omega)]; simp only [upI, upd, if_true]
      · exact g4 j (by omega) p2
theorem fk_29 (v : Int32) (I : IT) : ∃ I', f_k34_J7_fill_53178_29 v I = some I' ∧ (∀ c, c ≠ 29 → I' c = I c) ∧ (∀ j, j < 84 → I' 29 j = v) := by
  obtain ⟨I', g1, g2, -, g4⟩ := fl_29 v 84 FU 0 I (by omega) (by unfold FU; omega)
  rw [nI_0] at g1
  refine ⟨I', ?_, g2, fun j hj => g4 j (by omega) hj⟩
  unfold f_k34_J7_fill_53178_29
  exact g1
theorem fl_30 (v : Int32) : ∀ r n i (I : IT), i + r = 84 → r < n → ∃ I', f_k34_J7_fill_53178_30_5 n v (nI i) 84 I = some I' ∧ (∀ c, c ≠ 30 → I' c = I c) ∧ (∀ j, j < i → I' 30 j = I 30 j) ∧ (∀ j, i ≤ j → j < 84 → I' 30 j = v) := by
  intro r
  induction r with
  | zero =>
    intro n i I h1 h2
    obtain ⟨n, rfl⟩ : ∃ q, n = q + 1 := ⟨n - 1, by omega⟩
    rw [f_k34_J7_fill_53178_30_5, if_pos (by rw [show (84 : Int32) = nI 84 from rfl, nI_leI (by omega) (by omega)]; omega)]
    exact ⟨I, rfl, fun _ _ => rfl, fun _ _ => rfl, fun j p1 p2 => absurd p1 (by omega)⟩
  | succ r ih =>
    intro n i I h1 h2
    obtain ⟨n, rfl⟩ : ∃ q, n = q + 1 := ⟨n - 1, by omega⟩
    rw [f_k34_J7_fill_53178_30_5, if_neg (by rw [show (84 : Int32) = nI 84 from rfl, nI_leI (by omega) (by omega)]; omega), if_pos (inb_nI (by omega) (by omega)), nI_1, nI_clamp (by omega)]
    obtain ⟨I', g1, g2, g3, g4⟩ := ih n (i + 1) (upI I 30 i v) (by omega) (by omega)
    refine ⟨I', g1, fun c hc => ?_, fun j hj => ?_, fun j p1 p2 => ?_⟩
    · rw [g2 c hc]; simp [upI, hc]
    · rw [g3 j (by omega)]; simp only [upI, upd, if_true, if_neg (show ¬ j = i by omega)]
    · by_cases e : j = i
      · subst e; rw [g3 j (by omega)]; simp only [upI, upd, if_true]
      · exact g4 j (by omega) p2
theorem fk_30 (v : Int32) (I : IT) : ∃ I', f_k34_J7_fill_53178_30 v I = some I' ∧ (∀ c, c ≠ 30 → I' c = I c) ∧ (∀ j, j < 84 → I' 30 j = v) := by
  obtain ⟨I', g1, g2, -, g4⟩ := fl_30 v 84 FU 0 I (by omega) (by unfold FU; omega)
  rw [nI_0] at g1
  refine ⟨I', ?_, g2, fun j hj => g4 j (by omega) hj⟩
  unfold f_k34_J7_fill_53178_30
  exact g1
theorem fl_31 (v : Int32) : ∀ r n i (I : IT), i + r = 6 → r < n → ∃ I', f_k34_J7_fill_53178_31_5 n v (nI i) 6 I = some I' ∧ (∀ c, c ≠ 31 → I' c = I c) ∧ (∀ j, j < i → I' 31 j = I 31 j) ∧ (∀ j, i ≤ j → j < 6 → I' 31 j = v) := by
  intro r
  induction r with
  | zero =>
    intro n i I h1 h2
    obtain ⟨n, rfl⟩ : ∃ q, n = q + 1 := ⟨n - 1, by omega⟩
    rw [f_k34_J7_fill_53178_31_5, if_pos (by rw [show (6 : Int32) = nI 6 from rfl, nI_leI (by omega) (by omega)]; omega)]
    exact ⟨I, rfl, fun _ _ => rfl, fun _ _ => rfl, fun j p1 p2 => absurd p1 (by omega)⟩
  | succ r ih =>
    intro n i I h1 h2
    obtain ⟨n, rfl⟩ : ∃ q, n = q + 1 := ⟨n - 1, by omega⟩
    rw [f_k34_J7_fill_53178_31_5, if_neg (by rw [show (6 : Int32) = nI 6 from rfl, nI_leI (by omega) (by omega)]; omega), if_pos (inb_nI (by omega) (by omega)), nI_1, nI_clamp (by omega)]
    obtain ⟨I', g1, g2, g3, g4⟩ := ih n (i + 1) (upI I 31 i v) (by omega) (by omega)
    refine ⟨I', g1, fun c hc => ?_, fun j hj => ?_, fun j p1 p2 => ?_⟩
    · rw [g2 c hc]; simp [upI, hc]
    · rw [g3 j (by omega)]; simp only [upI, upd, if_true, if_neg (show ¬ j = i by omega)]
    · by_cases e : j = i
      · subst e; rw [g3 j (by omega)]; simp only [upI, upd, if_true]
      · exact g4 j (by omega) p2
theorem fk_31 (v : Int32) (I : IT) : ∃ I', f_k34_J7_fill_53178_31 v I = some I' ∧ (∀ c, c ≠ 31 → I' c = I c) ∧ (∀ j, j < 6 → I' 31 j = v) := by
  obtain ⟨I', g1, g2, -, g4⟩ := fl_31 v 6 FU 0 I (by omega) (by unfold FU; omega)
  rw [nI_0] at g1
  refine ⟨I', ?_, g2, fun j hj => g4 j (by omega) hj⟩
  unfold f_k34_J7_fill_53178_31
  exact g1
theorem fl_32 (v : Int32) : ∀ r n i (I : IT), i + r = 6 → r < n → ∃ I', f_k34_J7_fill_53178_32_5 n v (nI i) 6 I = some I' ∧ (∀ c, c ≠ 32 → I' c = I c) ∧ (∀ j, j < i → I' 32 j = I 32 j) ∧ (∀ j, i ≤ j → j < 6 → I' 32 j = v) := by
  intro r
  induction r with
  | zero =>
    intro n i I h1 h2
    obtain ⟨n, rfl⟩ : ∃ q, n = q + 1 := ⟨n - 1, by omega⟩
    rw [f_k34_J7_fill_53178_32_5, if_pos (by rw [show (6 : Int32) = nI 6 from rfl, nI_leI (by omega) (by omega)]; omega)]
    exact ⟨I, rfl, fun _ _ => rfl, fun _ _ => rfl, fun j p1 p2 => absurd p1 (by omega)⟩
  | succ r ih =>
    intro n i I h1 h2
    obtain ⟨n, rfl⟩ : ∃ q, n = q + 1 := ⟨n - 1, by omega⟩
    rw [f_k34_J7_fill_53178_32_5, if_neg (by rw [show (6 : Int32) = nI 6 from rfl, nI_leI (by omega) (by omega)]; omega), if_pos (inb_nI (by omega) (by omega)), nI_1, nI_clamp (by omega)]
    obtain ⟨I', g1, g2, g3, g4⟩ := ih n (i + 1) (upI I 32 i v) (by omega) (by omega)
    refine ⟨I', g1, fun c hc => ?_, fun j hj => ?_, fun j p1 p2 => ?_⟩
    · rw [g2 c hc]; simp [upI, hc]
    · rw [g3 j (by omega)]; simp only [upI, upd, if_true, if_neg (show ¬ j = i by omega)]
    · by_cases e : j = i
      · subst e; rw [g3 j (by omega)]; simp only [upI, upd, if_true]
      · exact g4 j (by omega) p2
theorem fk_32 (v : Int32) (I : IT) : ∃ I', f_k34_J7_fill_53178_32 v I = some I' ∧ (∀ c, c ≠ 32 → I' c = I c) ∧ (∀ j, j < 6 → I' 32 j = v) := by
  obtain ⟨I', g1, g2, -, g4⟩ := fl_32 v 6 FU 0 I (by omega) (by unfold FU; omega)
  rw [nI_0] at g1
  refine ⟨I', ?_, g2, fun j hj => g4 j (by omega) hj⟩
  unfold f_k34_J7_fill_53178_32
  exact g1
theorem fl_33 (v : Int32) : ∀ r n i (I : IT), i + r = 14 → r < n → ∃ I', f_k34_J7_fill_53178_33_5 n v (nI i) 14 I = some I' ∧ (∀ c, c ≠ 33 → I' c = I c) ∧ (∀ j, j < i → I' 33 j = I 33 j) ∧ (∀ j, i ≤ j → j < 14 → I' 33 j = v) := by
  intro r
  induction r with
  | zero =>
    intro n i I h1 h2
    obtain ⟨n, rfl⟩ : ∃ q, n = q + 1 := ⟨n - 1, by omega⟩
    rw [f_k34_J7_fill_53178_33_5, if_pos (by rw [show (14 : Int32) = nI 14 from rfl, nI_leI (by omega) (by omega)]; omega)]
    exact ⟨I, rfl, fun _ _ => rfl, fun _ _ => rfl, fun j p1 p2 => absurd p1 (by omega)⟩
  | succ r ih =>
    intro n i I h1 h2
    obtain ⟨n, rfl⟩ : ∃ q, n = q + 1 := ⟨n - 1, by omega⟩
    rw [f_k34_J7_fill_53178_33_5, if_neg (by rw [show (14 : Int32) = nI 14 from rfl, nI_leI (by omega) (by omega)]; omega), if_pos (inb_nI (by omega) (by omega)), nI_1, nI_clamp (by omega)]
    obtain ⟨I', g1, g2, g3, g4⟩ := ih n (i + 1) (upI I 33 i v) (by omega) (by omega)
    refine ⟨I', g1, fun c hc => ?_, fun j hj => ?_, fun j p1 p2 => ?_⟩
    · rw [g2 c hc]; simp [upI, hc]
    · rw [g3 j (by omega)]; simp only [upI, upd, if_true, if_neg (show ¬ j = i by omega)]
    · by_cases e : j = i
      · subst e; rw [g3 j (by omega)]; simp only [upI, upd, if_true]
      · exact g4 j (by omega) p2
theorem fk_33 (v : Int32) (I : IT) : ∃ I', f_k34_J7_fill_53178_33 v I = some I' ∧ (∀ c, c ≠ 33 → I' c = I c) ∧ (∀ j, j < 14 → I' 33 j = v) := by
  obtain ⟨I', g1, g2, -, g4⟩ := fl_33 v 14 FU 0 I (by omega) (by unfold FU; omega)
  rw [nI_0] at g1
  refine ⟨I', ?_, g2, fun j hj => g4 j (by omega) hj⟩
  unfold f_k34_J7_fill_53178_33
  exact g1
