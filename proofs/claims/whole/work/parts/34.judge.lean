theorem right_step {I : IT} {v i : Nat} (hv : v < 30) (hi : i < v) (n : Nat) (a v3 v4 : Int32) : f_X10_isRight_40 (n + 1) (nI v) a v3 v4 (nI i) I =
    if I 83 i = a ∧ ¬ I 82 i + I 55 8 ≤ I 82 v then
      (if I 84 i = I 84 v then f_X10_isRight_40 n (nI v) a 0 v4 (nI (i + 1)) I else f_X10_isRight_40 n (nI v) a (if v3 = 0 then 0 else 1) (v4 + I 85 i) (nI (i + 1)) I)
    else f_X10_isRight_40 n (nI v) a (if v3 = 0 then 0 else 1) v4 (nI (i + 1)) I := by
  have c1 : ¬ nI v ≤ nI i := by rw [nI_leI (by omega) (by omega)]; omega
  have z : ¬ (1 : Int32) = 0 := by decide
  have w : v4 + 0 = v4 := by grind
  rw [f_X10_isRight_40]
  simp only [if_neg c1, inb_nI hv (show 30 < 2 ^ 31 by omega), inb_nI (show i < 30 by omega) (show 30 < 2 ^ 31 by omega), nI_clamp (show v < 2 ^ 31 by omega), nI_clamp (show i < 2 ^ 31 by omega), nI_1, if_true, if_neg z, w]
  by_cases d1 : I 83 i = a <;> by_cases d2 : I 82 i + I 55 8 ≤ I 82 v <;> by_cases d3 : I 84 i = I 84 v <;> by_cases d4 : v3 = 0 <;> simp only [d1, d2, d3, d4, if_true, if_false, not_true, not_false_iff, and_true, and_false, true_and, false_and, and_self]
theorem right_zero {I : IT} {v : Nat} (hv : v < 30) (a : Int32) : ∀ r n i (v4 : Int32), i + r = v → r < n → f_X10_isRight_40 n (nI v) a 0 v4 (nI i) I = some 0 := by
  intro r
  induction r with
  | zero =>
    intro n i v4 h1 h2
    obtain ⟨n, rfl⟩ : ∃ q, n = q + 1 := ⟨n - 1, by omega⟩
    obtain rfl : i = v := by omega
    rw [f_X10_isRight_40, if_pos (by rw [nI_leI (by omega) (by omega)]; omega), if_pos rfl]
  | succ r ih =>
    intro n i v4 h1 h2
    obtain ⟨n, rfl⟩ : ∃ q, n = q + 1 := ⟨n - 1, by omega⟩
    rw [right_step hv (by omega), if_pos rfl, ih n (i + 1) v4 (by omega) (by omega), ih n (i + 1) _ (by omega) (by omega)]
    simp only [ite_self]
theorem right_go {I : IT} {s b k : Nat} (h : RelM I s b k) {v p : Nat} (hv : v < 30) (hp : p < s + b) (ep : I 52 v = nI p)
    (he : ∀ i, i ≤ v → I 82 i = I 51 i ∧ I 83 i = I 52 i ∧ I 84 i = I 53 i ∧ I 85 i = I 54 i) : ∀ r n i (v4 : Int32), i + r = v → r < n →
    ∃ q, f_X0_isWrong_27 n (nI v) v4 (nI i) I = some q ∧ f_X10_isRight_40 n (nI v) (nI p) 1 v4 (nI i) I = some (if q = 0 then 1 else 0) := by
  have hM := h
  obtain ⟨⟨e1, e2, e3, -⟩, -, ⟨m0, -, -⟩, ⟨-, e8⟩, -, -, -, hpu, -, -⟩ := h
  intro r
  induction r with
  | zero =>
    intro n i v4 h1 h2
    obtain ⟨n, rfl⟩ : ∃ q, n = q + 1 := ⟨n - 1, by omega⟩
    obtain rfl : i = v := by omega
    have c : nI i ≤ nI i := by rw [nI_leI (by omega) (by omega)]; omega
    rw [f_X0_isWrong_27, f_X10_isRight_40]
    simp only [if_pos c, inb_nI hv (show 30 < 2 ^ 31 by omega), if_true, nI_clamp (show i < 2 ^ 31 by omega), ep, hasPersonX _ hM, Option.bind_some, b2_nI (show p < s + b + k by omega) (show s + b + k < 2 ^ 31 by omega), sortOfX (show p < 2 ^ 31 by omega) hM, sortOfM (show p < 2 ^ 31 by omega) hM, if_neg (show ¬ (1 : Int32) = 0 by decide), inb_nI (show p < 14 by omega) (show 14 < 2 ^ 31 by omega), nI_clamp (show p < 2 ^ 31 by omega), m0]
    by_cases ps : p < s
    · simp only [srt, if_pos ps, if_neg (show ¬ (0 : Int32) = 1 by decide), if_true]
      exact ⟨_, rfl, rfl⟩
    · simp only [srt, if_neg ps, if_pos hp, if_true, if_neg (show ¬ (1 : Int32) = 0 by decide), pk_sub (show s ≤ p by omega), inb_nI (show p - s < 6 by omega) (show 6 < 2 ^ 31 by omega), nI_clamp (show p - s < 2 ^ 31 by omega)]
      have e := (hpu (p - s) (by omega)).1
      rw [show s + (p - s) = p by omega] at e
      rw [e, (he i (by omega)).2.2.2]
      by_cases q : I 54 i ≤ I 5 p - v4
      · rw [if_pos q, if_neg (by grind)]
        exact ⟨_, rfl, rfl⟩
      · rw [if_neg q, if_pos (by grind)]
        exact ⟨_, rfl, rfl⟩
  | succ r ih =>
    intro n i v4 h1 h2
    obtain ⟨n, rfl⟩ : ∃ q, n = q + 1 := ⟨n - 1, by omega⟩
    have c1 : ¬ nI v ≤ nI i := by rw [nI_leI (by omega) (by omega)]; omega
    obtain ⟨u1, u2, u3, u4⟩ := he i (by omega)
    obtain ⟨v1, v2, v3, v4'⟩ := he v (by omega)
    rw [right_step hv (by omega), f_X0_isWrong_27, u1, u2, u3, u4, v1, v3, e8]
    simp only [if_neg c1, inb_nI hv (show 30 < 2 ^ 31 by omega), inb_nI (show i < 30 by omega) (show 30 < 2 ^ 31 by omega), nI_clamp (show v < 2 ^ 31 by omega), nI_clamp (show i < 2 ^ 31 by omega), nI_1, if_true, ep, if_neg (show ¬ (1 : Int32) = 0 by decide)]
    by_cases d1 : I 52 i = nI p
    · by_cases d2 : I 51 i + I 3 3 ≤ I 51 v
      · simp only [d1, d2, if_true, not_true, and_false, if_false]
        exact ih n (i + 1) v4 (by omega) (by omega)
      · by_cases d3 : I 53 i = I 53 v
        · simp only [d1, d2, d3, if_true, not_false_iff, and_true, if_false]
          rw [right_zero hv _ r n (i + 1) _ (by omega) (by omega)]
          exact ⟨_, rfl, rfl⟩
        · simp only [d1, d2, d3, if_true, not_false_iff, and_true, if_false]
          exact ih n (i + 1) _ (by omega) (by omega)
    · simp only [d1, false_and, if_false]
      exact ih n (i + 1) v4 (by omega) (by omega)
theorem right_ok {I : IT} {s b k w : Nat} (h : RelM I s b k) (hB : RelB I s b w) {v : Nat} (hv : v < w) : ∃ q, f_X0_isWrong (nI v) I = some q ∧ f_X10_isRight (nI v) I = some (if q = 0 then 1 else 0) := by
  obtain ⟨-, -, b3, b4⟩ := hB
  obtain ⟨⟨v1, v2, v3, v4⟩, p, hp, ep⟩ := b4 v hv
  have he : ∀ i, i ≤ v → I 82 i = I 51 i ∧ I 83 i = I 52 i ∧ I 84 i = I 53 i ∧ I 85 i = I 54 i := fun i hi => (b4 i (by omega)).1
  obtain ⟨q, g1, g2⟩ := right_go h (show v < 30 by omega) hp ep he v FU 0 0 (by omega) (by unfold FU; omega)
  unfold f_X0_isWrong f_X10_isRight
  rw [if_pos (inb_nI (show v < 30 by omega) (by omega)), nI_clamp (by omega), v2, ep]
  rw [nI_0] at g1 g2
  by_cases c : v = 0
  · subst c
    rw [nI_0] at g1 g2 ⊢
    simp only [if_true]
    rw [if_pos (by decide)]
    exact ⟨q, g1, g2⟩
  · have c1 : ¬ nI v ≤ 0 := nI_nle (by omega) (by omega)
    have c2 : ¬ nI v = 0 := nI_ne0 (by omega) (by omega)
    obtain ⟨u, rfl⟩ : ∃ u, v = u + 1 := ⟨v - 1, by omega⟩
    simp only [if_neg c1, if_neg c2, nI_pred, inb_nI (show u + 1 < 30 by omega) (show 30 < 2 ^ 31 by omega), inb_nI (show u < 30 by omega) (show 30 < 2 ^ 31 by omega), if_true, nI_clamp (show u < 2 ^ 31 by omega), v1, (he u (by omega)).1]
    by_cases d : I 51 u ≤ I 51 (u + 1)
    · rw [if_pos d, if_neg (by grind)]
      exact ⟨q, g1, g2⟩
    · rw [if_neg d, if_pos (by grind)]
      have := right_zero (I := I) (show u + 1 < 30 by omega) (nI p) (u + 1) FU 0 0 (by omega) (by unfold FU; omega)
      rw [nI_0] at this
      exact ⟨_, rfl, this⟩
theorem judge_ok {I : IT} {s b k w : Nat} (h : RelM I s b k) (hB : RelB I s b w) : ∃ q, f_X9_judge I = some q ∧ f_X10_judge I = some q := by
  have go : ∀ r n i, i + r = w → r < n → ∃ q, f_X0_firstWrong_2 n (nI i) I = some q ∧ f_X10_judge_2 n (nI i) I = some q := by
    have hB' := hB
    obtain ⟨b1, b2, b3, -⟩ := hB
    intro r
    induction r with
    | zero =>
      intro n i h1 h2
      obtain ⟨n, rfl⟩ : ∃ q, n = q + 1 := ⟨n - 1, by omega⟩
      have c : nI w ≤ nI i := by rw [nI_leI (by omega) (by omega)]; omega
      rw [f_X0_firstWrong_2, f_X10_judge_2, b1, b2, if_pos c, if_pos c]
      exact ⟨_, rfl, rfl⟩
    | succ r ih =>
      intro n i h1 h2
      obtain ⟨n, rfl⟩ : ∃ q, n = q + 1 := ⟨n - 1, by omega⟩
      have c : ¬ nI w ≤ nI i := by rw [nI_leI (by omega) (by omega)]; omega
      have c2 : ¬ (30 : Int32) ≤ nI i := by rw [show (30 : Int32) = nI 30 from rfl, nI_leI (by omega) (by omega)]; omega
      obtain ⟨q, g1, g2⟩ := right_ok h hB' (show i < w by omega)
      rw [f_X0_firstWrong_2, f_X10_judge_2, b1, b2, if_neg c, if_neg c, if_neg c2, g1, g2]
      simp only [Option.bind_some, nI_1]
      by_cases d : q = 0
      · rw [if_pos d, if_pos d, if_neg (by decide)]
        exact ih n (i + 1) (by omega) (by omega)
      · rw [if_neg d, if_neg d, if_pos rfl]
        exact ⟨_, rfl, rfl⟩
  obtain ⟨q, g1, g2⟩ := go w FU 0 (by omega) (by have := hB.2.2.1; unfold FU; omega)
  rw [nI_0] at g1 g2
  unfold f_X9_judge f_X10_judge f_X0_firstWrong
  exact ⟨q, by rw [g1]; rfl, g2⟩
