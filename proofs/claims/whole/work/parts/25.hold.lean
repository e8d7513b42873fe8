theorem pN_or (n q : Nat) : ∀ i, pN (n ||| 2 ^ q) i ≤ pN n i + (if q < i then 1 else 0) := by
  intro i
  induction i with
  | zero => simp [pN]
  | succ i ih =>
    have e : (n ||| 2 ^ q) / 2 ^ i % 2 = if i = q then 1 else n / 2 ^ i % 2 := by
      have h1 : (n ||| 2 ^ q).testBit i = (n.testBit i || decide (q = i)) := by rw [Nat.testBit_or, Nat.testBit_two_pow]
      simp only [Nat.testBit_eq_decide_div_mod_eq] at h1
      have h2 : (n ||| 2 ^ q) / 2 ^ i % 2 < 2 := Nat.mod_lt _ (by decide)
      have h3 : n / 2 ^ i % 2 < 2 := Nat.mod_lt _ (by decide)
      generalize (n ||| 2 ^ q) / 2 ^ i % 2 = x at h1 h2 ⊢
      generalize n / 2 ^ i % 2 = y at h1 h3 ⊢
      by_cases c : i = q
      · subst c
        simp only [decide_true, Bool.or_true, decide_eq_true_eq] at h1
        rw [if_pos rfl]; exact h1
      · have c' : ¬ q = i := fun x => c x.symm
        rw [if_neg c]
        simp only [c', decide_false, Bool.or_false, decide_eq_decide] at h1
        omega
    simp only [pN, e]
    have h3 : n / 2 ^ i % 2 < 2 := Nat.mod_lt _ (by decide)
    by_cases c : i = q
    · subst c
      simp at ih ⊢
      omega
    · by_cases c2 : q < i
      · simp [c, c2, show q < i + 1 by omega] at ih ⊢; omega
      · simp [c, c2, show ¬ q < i + 1 by omega] at ih ⊢; omega
theorem pN_and (n m : Nat) : ∀ i, pN (n &&& m) i ≤ pN n i := by
  intro i
  induction i with
  | zero => simp [pN]
  | succ i ih =>
    have e : (n &&& m) / 2 ^ i % 2 ≤ n / 2 ^ i % 2 := by
      have h1 := Nat.testBit_and n m i
      simp only [Nat.testBit_eq_decide_div_mod_eq] at h1
      have h2 : (n &&& m) / 2 ^ i % 2 < 2 := Nat.mod_lt _ (by decide)
      have h3 : n / 2 ^ i % 2 < 2 := Nat.mod_lt _ (by decide)
      rcases (show n / 2 ^ i % 2 = 0 ∨ n / 2 ^ i % 2 = 1 by omega) with z | z
      · simp [z] at h1; omega
      · omega
    simp only [pN]
    omega
theorem sh1 {q : Nat} (h : q < 14) : (1 : Int32) <<< (nI q &&& 31) = nI (2 ^ q) := by
  have h2 : 2 ^ q ≤ 2 ^ 13 := Nat.pow_le_pow_right (by decide) (by omega)
  rw [show (1 : Int32) = nI 1 from rfl, pk_shlN _ q (s_l q (by omega)) (by omega)]
  simp
theorem freeX {I : IT} {p n : Nat} (hp : p < 14) (hn : n < 16384) (h : I 13 p = nI n) : f_X1_freeHands (nI p) I = some (I 4 p - nI (pN n 14)) := by
  unfold f_X1_freeHands
  simp only [inb_nI hp (show 14 < 2 ^ 31 by omega), if_true, nI_clamp (show p < 2 ^ 31 by omega), h, popcX hn, Option.bind_some]
theorem freeM {I : IT} {p n : Nat} (hp : p < 14) (hn : n < 16384) (h : I 61 p = nI n) : f_X10_free (nI p) I = some (I 60 p - nI (pN n 14)) := by
  unfold f_X10_free
  simp only [inb_nI hp (show 14 < 2 ^ 31 by omega), if_true, nI_clamp (show p < 2 ^ 31 by omega), h, popcM, popcN (show n < 2 ^ 31 by omega) 14 (by omega), Option.bind_some]
theorem holdsX {I : IT} {p : Nat} (hp : p < 14) (q : Int32) : f_X1_holds (nI p) q I = some (b2 (((I 13 p) >>> (q &&& 31)) &&& 1 = 1)) := by
  unfold f_X1_holds
  simp only [inb_nI hp (show 14 < 2 ^ 31 by omega), if_true, nI_clamp (show p < 2 ^ 31 by omega), b2]
  split <;> rfl
theorem hasM (v q : Int32) : f_X10_has v q = some (b2 ((v >>> (q &&& 31)) &&& 1 = 1)) := by
  unfold f_X10_has b2
  split <;> rfl
/-- two different persons -/
theorem twoX {I : IT} {s b k : Nat} (h : RelM I s b k) (a1 a2 : Int32) : (f_X9_areTwoPersons a1 a2 I = some 0 ∧ (Bad a1 (s + b + k) ∨ Bad a2 (s + b + k) ∨ a1 = a2)) ∨ ∃ p q, p < s + b + k ∧ q < s + b + k ∧ p ≠ q ∧ a1 = nI p ∧ a2 = nI q ∧ f_X9_areTwoPersons a1 a2 I = some 1 := by
  have e := h.1
  unfold f_X9_areTwoPersons
  simp only [hasPersonX _ h, Option.bind_some]
  rcases good_or a1 (n := s + b + k) (by omega) with q | ⟨p, hp, rfl⟩
  · exact Or.inl ⟨by simp [b2_bad q], Or.inl q⟩
  · rcases good_or a2 (n := s + b + k) (by omega) with q | ⟨l, hl, rfl⟩
    · exact Or.inl ⟨by simp [b2_bad q, b2_nI hp (show s + b + k < 2 ^ 31 by omega)], Or.inr (Or.inl q)⟩
    · have e3 : (nI p = nI l) = (p = l) := propext (nI_eq (by omega) (by omega))
      simp only [b2_nI hp (show s + b + k < 2 ^ 31 by omega), b2_nI hl (show s + b + k < 2 ^ 31 by omega)]
      by_cases c : p = l
      · exact Or.inl ⟨by simp [c], Or.inr (Or.inr (by rw [c]))⟩
      · exact Or.inr ⟨p, l, hp, hl, c, rfl, rfl, by simp [e3, c]⟩
/-- what holds is the same on both sides, and small -/
theorem heldN {I : IT} {N : Nat} (hc : RelC I N) {p : Nat} (hp : p < 14) : ∃ n, n < 16384 ∧ I 13 p = nI n ∧ I 61 p = nI n := by
  obtain ⟨h1, h2, h3⟩ := hc.2.2.2.1 p hp
  obtain ⟨v, hv, e⟩ := nI_of (Int32.not_lt.mpr h2)
  rw [e, show (16384 : Int32) = nI 16384 from rfl, nI_ltI hv (by omega)] at h3
  exact ⟨v, h3, e, by rw [h1, e]⟩
theorem handN {I : IT} {s b k : Nat} (h : RelM I s b k) {p : Nat} (hp : p < s + b + k) : ∃ n, 1 ≤ n ∧ n ≤ 2 ∧ I 4 p = nI n ∧ I 60 p = nI n := by
  obtain ⟨h1, h2 | h2⟩ := h.2.2.2.2.2.1 p hp
  · exact ⟨1, by omega, by omega, h2, by rw [h1, h2]; rfl⟩
  · exact ⟨2, by omega, by omega, h2, by rw [h1, h2]; rfl⟩
theorem sub_pos_nI {a p : Nat} (ha : a ≤ 2) (hp : p ≤ a) : (nI a - nI p ≤ 0 ↔ a = p) ∧ (nI a - nI p = 0 ↔ a = p) := by
  rw [pk_sub hp, show (0 : Int32) = nI 0 from rfl, nI_leI (by omega) (by omega), nI_eq (by omega) (by omega)]
  omega
theorem or_small {n q : Nat} (hn : n < 16384) (hq : q < 14) : n ||| 2 ^ q < 16384 := Nat.or_lt_two_pow (n := 14) hn (by calc 2 ^ q ≤ 2 ^ 13 := Nat.pow_le_pow_right (by decide) (by omega)
    _ < 2 ^ 14 := by decide)
/-- a hand is given: the bits of one person -/
theorem handUp {I : IT} {N p v : Nat} (hc : RelC I N) (hp : p < 14) (hv : v < 16384) (hh : p < N → nI (pN v 14) ≤ I 4 p) : RelC (upI (upI I 13 p (nI v)) 61 p (nI v)) N := by
  obtain ⟨h1, h2, h3, h4, h5, h6, h7, h8⟩ := hc
  refine ⟨by simpa [upI, upd] using h1, by simpa [upI, upd] using h2, by simpa [upI, upd] using h3, fun x hx => ?_, fun x hx => ?_, by simpa [upI, upd] using h6, by simpa [upI, upd] using h7, by simpa [upI, upd] using h8⟩
  · by_cases c : x = p
    · subst c
      simp [upI, upd]
      exact ⟨nI_pos' (by omega), by rw [show (16384 : Int32) = nI 16384 from rfl, nI_ltI (by omega) (by omega)]; exact hv⟩
    · simpa [upI, upd, c] using h4 x hx
  · by_cases c : x = p
    · subst c
      simp [upI, upd, popcN (show v < 2 ^ 31 by omega) 14 (by omega)]
      exact hh hx
    · simpa [upI, upd, c] using h5 x hx
