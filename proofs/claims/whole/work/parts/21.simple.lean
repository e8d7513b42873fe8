theorem six : (6 : Int32) = nI 6 := rfl
theorem worth_ok {I : IT} {s b k : Nat} (h : RelM I s b k) (a1 a2 : Int32) : ∃ r, f_X9_worth a1 a2 I = some r ∧ f_X10_worth a1 a2 I = some r := by
  have e := h.1
  unfold f_X9_worth f_X10_worth
  simp only [hasBuyerX _ h, hasLotX _ h, isBuyerM _ h, isLotM _ h, Option.bind_some]
  rcases good_or a1 (n := b) (by omega) with q | ⟨j, hj, rfl⟩
  · simp [b2_bad q]
  · rcases good_or a2 (n := s) (by omega) with q | ⟨l, hl, rfl⟩
    · simp [b2_bad q, b2_nI hj (by omega)]
    · simp only [b2_nI hj (show b < 2 ^ 31 by omega), b2_nI hl (show s < 2 ^ 31 by omega)]
      have e1 : nI j * 6 + nI l = nI (6 * j + l) := by rw [six, pk_mul, nI_add]; congr 1; omega
      have e2 : 6 * nI j + nI l = nI (6 * j + l) := by rw [six, pk_mul, nI_add]
      rw [e1, e2]
      simp [inb_nI (show 6 * j + l < 36 by omega) (by omega), nI_clamp (show 6 * j + l < 2 ^ 31 by omega), (h.2.2.2.2.2.2.2.2.2 j l hj hl).1]
theorem fault_ok {I : IT} (h : I 55 20 = I 0 11) : ∃ r, f_X9_fault I = some r ∧ f_X10_fault I = some r := by
  unfold f_X9_fault f_X10_fault; grind
/-- p deals in lot l -/
def Deal (s b p l : Nat) : Prop := p < s + b ∧ l < s ∧ (p < s → p = l)
theorem dealsX {I : IT} {s b k : Nat} (h : RelM I s b k) (a1 a2 : Int32) : (f_X2_dealsIn a1 a2 I = some 0 ∧ ¬ ∃ p l, Deal s b p l ∧ a1 = nI p ∧ a2 = nI l) ∨ ∃ p l, Deal s b p l ∧ a1 = nI p ∧ a2 = nI l ∧ f_X2_dealsIn a1 a2 I = some 1 := by
  have e := h.1
  unfold f_X2_dealsIn
  simp only [hasPersonX _ h, hasLotX _ h, Option.bind_some]
  rcases good_or a1 (n := s + b + k) (by omega) with q | ⟨p, hp, rfl⟩
  · refine Or.inl ⟨by simp [b2_bad q], ?_⟩
    rintro ⟨p, l, ⟨d1, d2, d3⟩, rfl, -⟩
    rcases q with q | q
    · exact nI_pos (by omega) q
    · exact absurd ((nI_leI (by omega) (by omega)).mp q) (by omega)
  · rcases good_or a2 (n := s) (by omega) with q | ⟨l, hl, rfl⟩
    · refine Or.inl ⟨by simp [b2_bad q, b2_nI hp (by omega)], ?_⟩
      rintro ⟨p, l, ⟨d1, d2, d3⟩, -, rfl⟩
      rcases q with q | q
      · exact nI_pos (by omega) q
      · exact absurd ((nI_leI (by omega) (by omega)).mp q) (by omega)
    · simp only [b2_nI hp (show s + b + k < 2 ^ 31 by omega), b2_nI hl (show s < 2 ^ 31 by omega), sortOfX (show p < 2 ^ 31 by omega) h, Option.bind_some]
      have e3 : (nI p = nI l) = (p = l) := propext (nI_eq (by omega) (by omega))
      have key : ∀ p' l', Deal s b p' l' → nI p = nI p' → nI l = nI l' → Deal s b p l := by
        intro p' l' d x1 x2
        have hd := d
        obtain ⟨d1, d2, d3⟩ := d
        rw [nI_eq (by omega) (by omega)] at x1 x2
        subst x1; subst x2; exact hd
      unfold srt
      by_cases c1 : p < s
      · by_cases c2 : p = l
        · subst c2
          exact Or.inr ⟨p, p, ⟨by omega, hl, fun _ => rfl⟩, rfl, rfl, by simp [c1]⟩
        · refine Or.inl ⟨by simp [c1, e3, c2], ?_⟩
          rintro ⟨p', l', d, x1, x2⟩
          exact c2 ((key p' l' d x1 x2).2.2 c1)
      · by_cases c2 : p < s + b
        · exact Or.inr ⟨p, l, ⟨c2, hl, fun q => absurd q c1⟩, rfl, rfl, by simp [c1, c2]⟩
        · refine Or.inl ⟨by simp [c1, c2], ?_⟩
          rintro ⟨p', l', d, x1, x2⟩
          exact c2 (key p' l' d x1 x2).1
theorem aboutM {I : IT} {s b k : Nat} (h : RelM I s b k) {p l : Nat} (hd : Deal s b p l) : f_X10_isAbout (nI p) (nI l) I = some 1 := by
  have e := h.1
  obtain ⟨d1, d2, d3⟩ := hd
  unfold f_X10_isAbout
  simp only [isPersonM _ h, isLotM _ h, Option.bind_some, b2_nI (show p < s + b + k by omega) (show s + b + k < 2 ^ 31 by omega), b2_nI d2 (show s < 2 ^ 31 by omega), sortOfM (show p < 2 ^ 31 by omega) h]
  have e3 : (nI p = nI l) = (p = l) := propext (nI_eq (by omega) (by omega))
  unfold srt
  by_cases c1 : p < s
  · obtain rfl := d3 c1
    simp [c1]
  · simp [c1, d1]
theorem aboutM0 {I : IT} {s b k : Nat} (h : RelM I s b k) {a1 a2 : Int32} (hn : ¬ ∃ p l, Deal s b p l ∧ a1 = nI p ∧ a2 = nI l) : f_X10_isAbout a1 a2 I = some 0 := by
  have e := h.1
  unfold f_X10_isAbout
  simp only [isPersonM _ h, isLotM _ h, Option.bind_some]
  rcases good_or a1 (n := s + b + k) (by omega) with q | ⟨p, hp, rfl⟩
  · simp [b2_bad q]
  · rcases good_or a2 (n := s) (by omega) with q | ⟨l, hl, rfl⟩
    · simp [b2_bad q, b2_nI hp (by omega)]
    · simp only [b2_nI hp (show s + b + k < 2 ^ 31 by omega), b2_nI hl (show s < 2 ^ 31 by omega), sortOfM (show p < 2 ^ 31 by omega) h, Option.bind_some]
      have e3 : (nI p = nI l) = (p = l) := propext (nI_eq (by omega) (by omega))
      unfold srt
      by_cases c1 : p < s
      · by_cases c2 : p = l
        · exact absurd ⟨p, l, ⟨by omega, hl, fun _ => c2⟩, rfl, rfl⟩ hn
        · simp [c1, e3, c2]
      · by_cases c2 : p < s + b
        · exact absurd ⟨p, l, ⟨c2, hl, fun q => absurd q c1⟩, rfl, rfl⟩ hn
        · simp [c1, c2]
theorem i6 (p l : Nat) : nI p * 6 + nI l = nI (6 * p + l) := by rw [six, pk_mul, nI_add]; congr 1; omega
theorem i6' (p l : Nat) : 6 * nI p + nI l = nI (6 * p + l) := by rw [six, pk_mul, nI_add]
theorem boundX {p l : Nat} (I : IT) (h1 : p < 14) (h2 : l < 6) : f_X1_isBound (nI p) (nI l) I = some (b2 (0 < I 14 (6 * p + l) ∧ I 12 1 < I 15 (6 * p + l))) := by
  unfold f_X1_isBound
  simp only [i6, inb_nI (show 6 * p + l < 84 by omega) (show 84 < 2 ^ 31 by omega), nI_clamp (show 6 * p + l < 2 ^ 31 by omega), if_true, b2]
  grind
theorem boundM {p l : Nat} (I : IT) (h1 : p < 14) (h2 : l < 6) : f_X10_isBound (nI p) (nI l) I = some (b2 (0 ≤ I 62 (6 * p + l) ∧ I 55 16 < I 63 (6 * p + l))) := by
  unfold f_X10_isBound
  simp only [i6', inb_nI (show 6 * p + l < 84 by omega) (show 84 < 2 ^ 31 by omega), nI_clamp (show 6 * p + l < 2 ^ 31 by omega), if_true, b2]
  grind
/-- bound by the class, bound by the reference: one thing -/
theorem boundXM {I : IT} {N c : Nat} (hc : RelC I N) (h : c < 84) : (0 ≤ I 62 c ∧ I 55 16 < I 63 c) ↔ (0 < I 14 c ∧ I 12 1 < I 15 c) := by
  unfold RelC RC at hc
  have h1 := hc.1
  have h2 := hc.2.2.2.2.2.1 c h
  grind
theorem bound_ok {I : IT} {s b k : Nat} (h : RelM I s b k) (hc : RelC I (s + b + k)) (a1 a2 a3 : Int32) : ∃ r, f_X9_bound a1 a2 a3 I = some r ∧ f_X10_bound a1 a2 a3 I = some r := by
  have e := h.1
  unfold f_X9_bound f_X10_bound
  rw [in32 (lo := 0) (lo' := 0) (hi := 1) (hi' := 1) (by decide) (by decide)]
  rcases dealsX h a1 a2 with ⟨q, hn⟩ | ⟨p, l, hd, rfl, rfl, q⟩
  · simp [q, aboutM0 h hn]
  · have hd' := hd
    obtain ⟨d1, d2, d3⟩ := hd'
    have hx := boundXM hc (show 6 * p + l < 84 by omega)
    simp only [q, aboutM h hd, isW, boundX I (show p < 14 by omega) (show l < 6 by omega), boundM I (show p < 14 by omega) (show l < 6 by omega), Option.bind_some, i6, i6', inb_nI (show 6 * p + l < 84 by omega) (show 84 < 2 ^ 31 by omega), nI_clamp (show 6 * p + l < 2 ^ 31 by omega), hx, b2]
    unfold RelC RC at hc
    have h2 := hc.2.2.2.2.2.1 (6 * p + l) (by omega)
    by_cases w : (0 ≤ a3 ∧ a3 ≤ 1)
    · by_cases v : (0 < I 14 (6 * p + l) ∧ I 12 1 < I 15 (6 * p + l))
      · simp [w, v]; grind
      · simp [w, v]
    · simp [w]
theorem lot_ok {I : IT} {s b k : Nat} (h : RelM I s b k) (hc : RelC I (s + b + k)) (a1 a2 : Int32) : ∃ r, f_X9_lot a1 a2 I = some r ∧ f_X10_lot a1 a2 I = some r := by
  have e := h.1
  unfold f_X9_lot f_X10_lot
  simp only [hasLotX _ h, isLotM _ h, Option.bind_some]
  rcases good_or a1 (n := s) (by omega) with q | ⟨l, hl, rfl⟩
  · simp [b2_bad q]
  · unfold RelC RC at hc
    have h2 := hc.2.2.2.2.2.2.1 l (by omega)
    simp only [b2_nI hl (show s < 2 ^ 31 by omega), inb_nI (show l < 6 by omega) (show 6 < 2 ^ 31 by omega), nI_clamp (show l < 2 ^ 31 by omega), if_true, h2.1, h2.2.2]
    by_cases c0 : a2 = 0
    · simp [c0]
    · by_cases c1 : a2 = 1
      · simp [c1]
      · simp [c0, c1]
theorem twitches_ok (a1 : Int32) : ∃ r, f_X9_twitches a1 = some r ∧ f_X10_twitches a1 = some r := by
  unfold f_X9_twitches f_X10_twitches f_X9_signsOf f_X10_plain
  rw [in32 (lo := 1) (lo' := 1) (hi := 999) (hi' := 999) (by decide) (by decide)]
  simp only [isW, Option.bind_some]
  split <;> simp
