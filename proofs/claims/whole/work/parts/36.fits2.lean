theorem lt999 {v : Nat} (hv : v ≤ 1000) : (999 : Int32) < nI v ↔ 999 < v := by rw [show (999 : Int32) = nI 999 from rfl, nI_ltI (by omega) (by omega)]
theorem fits0 {I : IT} {s c : Nat} (hW : RelW I s c) (l : Nat) : ∀ r n v (v3 v4 v5 : Int32), v + r = 1000 → r < n → ∃ q, f_X8_howMany_4 n (nI l) v3 (nI v) I = some q ∧ f_X10_fits_38 n (nI l) 0 v3 v4 v5 (nI v) I = some q := by
  intro r
  induction r with
  | zero =>
    intro n v v3 v4 v5 h1 h2
    obtain ⟨n, rfl⟩ : ∃ q, n = q + 1 := ⟨n - 1, by omega⟩
    have c1 := (lt999 (show v ≤ 1000 by omega)).mpr (by omega)
    rw [f_X8_howMany_4, f_X10_fits_38, if_pos c1, if_pos c1, if_pos rfl]
    exact ⟨_, rfl, rfl⟩
  | succ r ih =>
    intro n v v3 v4 v5 h1 h2
    obtain ⟨n, rfl⟩ : ∃ q, n = q + 1 := ⟨n - 1, by omega⟩
    have c1 : ¬ (999 : Int32) < nI v := by rw [lt999 (by omega)]; omega
    obtain ⟨g1, g2⟩ := can_ok hW (l := l) (show v ≤ 999 by omega)
    rw [f_X8_howMany_4, f_X10_fits_38, if_neg c1, if_neg c1, g1, g2, nI_1]
    simp only [Option.bind_some]
    by_cases d : FitI I c l v
    · rw [cI_t d, if_neg (by decide), if_neg (by decide)]
      by_cases e : 0 ≤ v4
      · rw [if_pos e]; exact ih n (v + 1) _ _ _ (by omega) (by omega)
      · rw [if_neg e]; exact ih n (v + 1) _ _ _ (by omega) (by omega)
    · rw [cI_f d, if_pos rfl, if_pos rfl, show v3 + 0 = v3 by grind]
      exact ih n (v + 1) _ _ _ (by omega) (by omega)
theorem fits1a {I : IT} {s c : Nat} (hW : RelW I s c) (l : Nat) : ∀ r n v (v3 v4 v5 : Int32), v + r = 1000 → r < n → 0 ≤ v4 → f_X10_fits_38 n (nI l) 1 v3 v4 v5 (nI v) I = some v4 := by
  intro r
  induction r with
  | zero =>
    intro n v v3 v4 v5 h1 h2 h4
    obtain ⟨n, rfl⟩ : ∃ q, n = q + 1 := ⟨n - 1, by omega⟩
    have c1 := (lt999 (show v ≤ 1000 by omega)).mpr (by omega)
    rw [f_X10_fits_38, if_pos c1, if_neg (by decide), if_pos rfl]
  | succ r ih =>
    intro n v v3 v4 v5 h1 h2 h4
    obtain ⟨n, rfl⟩ : ∃ q, n = q + 1 := ⟨n - 1, by omega⟩
    have c1 : ¬ (999 : Int32) < nI v := by rw [lt999 (by omega)]; omega
    obtain ⟨g1, g2⟩ := can_ok hW (l := l) (show v ≤ 999 by omega)
    rw [f_X10_fits_38, if_neg c1, g2, nI_1]
    simp only [Option.bind_some, if_pos h4]
    rw [ih n (v + 1) _ _ _ (by omega) (by omega) h4, ih n (v + 1) _ _ _ (by omega) (by omega) h4, ite_self]
theorem fits1 {I : IT} {s c : Nat} (hW : RelW I s c) (l : Nat) : ∀ r n v (v3 v5 : Int32), v + r = 1000 → r < n → ∃ q, f_X8_least_2 n (nI l) (nI v) I = some q ∧ f_X10_fits_38 n (nI l) 1 v3 (-1) v5 (nI v) I = some q := by
  intro r
  induction r with
  | zero =>
    intro n v v3 v5 h1 h2
    obtain ⟨n, rfl⟩ : ∃ q, n = q + 1 := ⟨n - 1, by omega⟩
    have c1 := (lt999 (show v ≤ 1000 by omega)).mpr (by omega)
    rw [f_X8_least_2, f_X10_fits_38, if_pos c1, if_pos c1, if_neg (by decide), if_pos rfl]
    exact ⟨_, rfl, rfl⟩
  | succ r ih =>
    intro n v v3 v5 h1 h2
    obtain ⟨n, rfl⟩ : ∃ q, n = q + 1 := ⟨n - 1, by omega⟩
    have c1 : ¬ (999 : Int32) < nI v := by rw [lt999 (by omega)]; omega
    obtain ⟨g1, g2⟩ := can_ok hW (l := l) (show v ≤ 999 by omega)
    rw [f_X8_least_2, f_X10_fits_38, if_neg c1, if_neg c1, g1, g2, nI_1]
    simp only [Option.bind_some]
    by_cases d : FitI I c l v
    · rw [cI_t d, if_neg (by decide), if_neg (by decide), if_neg (by decide), fits1a hW l r n (v + 1) _ _ _ (by omega) (by omega) (nI_pos' (by omega))]
      exact ⟨_, rfl, rfl⟩
    · rw [cI_f d, if_pos rfl, if_pos rfl]
      exact ih n (v + 1) _ _ (by omega) (by omega)
noncomputable def gtF (I : IT) (c l : Nat) : Nat → Int32
  | 0 => -1
  | m + 1 => @ite _ (FitI I c l (m + 1)) (Classical.propDecidable _) (nI (m + 1)) (gtF I c l m)
theorem gtF_t {I : IT} {c l m : Nat} (h : FitI I c l (m + 1)) : gtF I c l (m + 1) = nI (m + 1) := if_pos h
theorem gtF_f {I : IT} {c l m : Nat} (h : ¬ FitI I c l (m + 1)) : gtF I c l (m + 1) = gtF I c l m := if_neg h
theorem fits2X {I : IT} {s c : Nat} (hW : RelW I s c) (l : Nat) : ∀ m n, m ≤ 999 → m < n → f_X8_greatest_4 n (nI l) (nI m) I = some (gtF I c l m) := by
  intro m
  induction m with
  | zero =>
    intro n h1 h2
    obtain ⟨n, rfl⟩ : ∃ q, n = q + 1 := ⟨n - 1, by omega⟩
    rw [f_X8_greatest_4, if_pos (by decide)]
    rfl
  | succ m ih =>
    intro n h1 h2
    obtain ⟨n, rfl⟩ : ∃ q, n = q + 1 := ⟨n - 1, by omega⟩
    have c1 : ¬ nI (m + 1) < 1 := by rw [show (1 : Int32) = nI 1 from rfl, nI_ltI (by omega) (by omega)]; omega
    rw [f_X8_greatest_4, if_neg c1, (can_ok hW (l := l) h1).1, pk_m1]
    simp only [Option.bind_some]
    by_cases d : FitI I c l (m + 1)
    · rw [cI_t d, if_neg (by decide), gtF_t d]
    · rw [cI_f d, if_pos rfl, gtF_f d]
      exact ih n (by omega) (by omega)
theorem fits2 {I : IT} {s c : Nat} (hW : RelW I s c) (l : Nat) : ∀ r n v (v3 v4 : Int32), v + 1 + r = 1000 → r < n → f_X10_fits_38 n (nI l) 2 v3 v4 (gtF I c l v) (nI (v + 1)) I = some (gtF I c l 999) := by
  intro r
  induction r with
  | zero =>
    intro n v v3 v4 h1 h2
    obtain ⟨n, rfl⟩ : ∃ q, n = q + 1 := ⟨n - 1, by omega⟩
    obtain rfl : v = 999 := by omega
    have c1 := (lt999 (show 999 + 1 ≤ 1000 by omega)).mpr (by omega)
    rw [f_X10_fits_38, if_pos c1, if_neg (by decide), if_neg (by decide)]
  | succ r ih =>
    intro n v v3 v4 h1 h2
    obtain ⟨n, rfl⟩ : ∃ q, n = q + 1 := ⟨n - 1, by omega⟩
    have c1 : ¬ (999 : Int32) < nI (v + 1) := by rw [lt999 (by omega)]; omega
    rw [f_X10_fits_38, if_neg c1, (can_ok hW (l := l) (show v + 1 ≤ 999 by omega)).2, nI_1]
    simp only [Option.bind_some]
    by_cases d : FitI I c l (v + 1)
    · rw [cI_t d, if_neg (by decide), ← gtF_t d]
      have k : ∀ v3 v4, f_X10_fits_38 n (nI l) 2 v3 v4 (gtF I c l (v + 1)) (nI (v + 1 + 1)) I = some (gtF I c l 999) := fun v3 v4 => ih n (v + 1) v3 v4 (by omega) (by omega)
      rw [k, k, ite_self]
    · rw [cI_f d, if_pos rfl, ← gtF_f d]
      exact ih n (v + 1) _ _ (by omega) (by omega)
theorem fits_ok {I : IT} {s b k c : Nat} (hM : RelM I s b k) (hW : RelW I s c) (a1 a2 : Int32) : ∃ q, f_X9_fits a1 a2 I = some q ∧ f_X10_fits a1 a2 I = some q := by
  have hs := hM.1.1
  unfold f_X9_fits f_X10_fits
  rw [hasLotX a1 hM, isLotM a1 hM, in32 (lo := 0) (hi := 2) (by decide) (by decide)]
  simp only [Option.bind_some]
  rcases good_or a1 (show s < 2 ^ 31 by omega) with hb | ⟨l, hl, rfl⟩
  · rw [b2_bad hb]; exact ⟨_, if_pos rfl, if_pos rfl⟩
  simp only [b2_nI hl (show s < 2 ^ 31 by omega), if_neg (show ¬ (1 : Int32) = 0 by decide)]
  have e1 : (1 : Int32) = nI 1 := rfl
  by_cases c0 : a2 = 0
  · subst c0
    obtain ⟨q, g1, g2⟩ := fits0 hW l 999 FU 1 0 (-1) (-1) (by omega) (by unfold FU; omega)
    refine ⟨q, ?_, ?_⟩
    · rw [if_pos rfl]; unfold f_X8_howMany; rw [e1, g1]; rfl
    · rw [if_neg (by decide)]; exact g2
  · by_cases c1 : a2 = 1
    · subst c1
      obtain ⟨q, g1, g2⟩ := fits1 hW l 999 FU 1 0 (-1) (by omega) (by unfold FU; omega)
      refine ⟨q, ?_, ?_⟩
      · rw [if_neg (by decide), if_pos rfl]; unfold f_X8_least; rw [← e1] at g1; rw [g1]; rfl
      · rw [if_neg (by decide)]; exact g2
    · by_cases c2 : a2 = 2
      · subst c2
        have g1 := fits2X hW l 999 FU (by omega) (by unfold FU; omega)
        have g2 := fits2 hW l 999 FU 0 0 (-1) (by omega) (by unfold FU; omega)
        refine ⟨gtF I c l 999, ?_, ?_⟩
        · rw [if_neg (by decide), if_neg (by decide), if_pos rfl]; unfold f_X8_greatest; rw [show (999 : Int32) = nI 999 from rfl, g1]; rfl
        · rw [if_neg (by decide)]; exact g2
      · refine ⟨_, by rw [if_neg c0, if_neg c1, if_neg c2], ?_⟩
        rw [if_pos]
        unfold b2
        rw [if_neg]
        intro q
        obtain ⟨j, h1, rfl⟩ := nI_of2 (x := a2) (M := 2) (n := 2) rfl (by grind) q.2
        have : j = 0 ∨ j = 1 ∨ j = 2 := by omega
        rcases this with rfl | rfl | rfl
        · exact c0 rfl
        · exact c1 rfl
        · exact c2 rfl
