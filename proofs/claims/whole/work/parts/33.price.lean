theorem pr_neg (n : Nat) (i : Int32) (I : IT) : f_X6_pricePressed_15 (n + 1) (-1) i I = some (-1) := by
  unfold f_X6_pricePressed_15
  rw [isW]
  by_cases h : I 1 1 ≤ i
  · rw [if_pos h]; decide
  · rw [if_neg h, if_pos rfl]; decide
theorem price_go {I : IT} {z : Nat} (hz : z ≤ 20) (hT : RelT I z) : ∀ r n i m, i + r = z → r + 1 < n → m + 100 ≤ 100 * 2 ^ i → ∃ q, f_X6_pricePressed_15 n (nI m) (nI i) I = some q ∧ f_X10_pressed_15 n (nI m) (nI i) I = some q := by
  obtain ⟨t1, t2, -, t4⟩ := hT
  intro r
  induction r with
  | zero =>
    intro n i m h1 h2 h3
    obtain ⟨n, rfl⟩ : ∃ q, n = q + 1 := ⟨n - 1, by omega⟩
    unfold f_X6_pricePressed_15 f_X10_pressed_15
    have c : nI z ≤ nI i := by rw [nI_leI (by omega) (by omega)]; omega
    rw [t1, t2, if_pos c, if_pos c, isW, in32 (lo := 1) (hi := 999) (by decide) (by decide)]
    simp only [Option.bind_some]
    by_cases q : b2 (1 ≤ nI m ∧ nI m ≤ 999) = 0
    · exact ⟨_, if_pos q, if_pos q⟩
    · exact ⟨_, if_neg q, if_neg q⟩
  | succ r ih =>
    intro n i m h1 h2 h3
    obtain ⟨n, rfl⟩ : ∃ q, n = q + 1 := ⟨n - 1, by omega⟩
    have hi : i ≤ 19 := by omega
    have hp : 2 ^ i ≤ 2 ^ 19 := Nat.pow_le_pow_right (by omega) hi
    have hp2 : 2 ^ (i + 1) = 2 * 2 ^ i := by omega
    have c : ¬ nI z ≤ nI i := by rw [nI_leI (by omega) (by omega)]; omega
    have c0 : ¬ nI i < 0 := nI_pos (by omega)
    have c5 : ¬ (500 : Int32) ≤ nI i := by rw [show (500 : Int32) = nI 500 from rfl, nI_leI (by omega) (by omega)]; omega
    have cm : ¬ nI m = -1 := by
      intro e
      have := nI_pos' (n := m) (by omega)
      rw [e] at this
      exact absurd this (by decide)
    have eb : f_X6_byteAt (nI i) I = some (I 2 i &&& 255) := by
      unfold f_X6_byteAt
      rw [if_neg c0, t1, if_neg c, if_neg c5, if_pos (inb_nI (by omega) (by omega)), nI_clamp (by omega)]
    rw [f_X6_pricePressed_15, f_X10_pressed_15]
    rw [t1, t2, if_neg c, if_neg c, if_neg cm, eb, if_pos (inb_nI (show i < 500 by omega) (by omega)), nI_clamp (show i < 2 ^ 31 by omega), t4 i (by omega)]
    obtain ⟨t, et⟩ : ∃ t, I 2 i &&& 255 = t := ⟨_, rfl⟩
    rw [et]
    simp only [Option.bind_some, nI_1]
    have st : ∀ m' : Nat, m' + 100 ≤ 100 * 2 ^ (i + 1) → 0 ≤ nI m' ∧ ∃ q, f_X6_pricePressed_15 n (nI m') (nI (i + 1)) I = some q ∧ f_X10_pressed_15 n (nI m') (nI (i + 1)) I = some q := fun m' h => ⟨nI_pos' (by omega), ih n (i + 1) m' (by omega) (by omega) h⟩
    have eh : (100 : Int32) = nI 100 := rfl
    have neg : f_X6_pricePressed_15 n (-1) (nI (i + 1)) I = some (-1) := by
      obtain ⟨n, rfl⟩ : ∃ q, n = q + 1 := ⟨n - 1, by omega⟩
      exact pr_neg _ _ _
    unfold f_X6_afterSign
    by_cases q1 : t = 99
    · subst q1
      have e : nI m + 100 = nI (m + 100) := by rw [eh, nI_add]
      obtain ⟨p1, p2⟩ := st (m + 100) (by omega)
      simp +decide only [e, p1, if_true, if_false, Option.bind_some]
      exact p2
    · by_cases q2 : t = 100
      · subst q2
        have e : nI m * 2 = nI (m * 2) := by rw [show (2 : Int32) = nI 2 from rfl, pk_mul]
        have e' : 2 * nI m = nI (m * 2) := by rw [show (2 : Int32) = nI 2 from rfl, pk_mul, Nat.mul_comm]
        obtain ⟨p1, p2⟩ := st (m * 2) (by omega)
        simp +decide only [e, e', p1, if_true, if_false, Option.bind_some]
        exact p2
      · by_cases q3 : t = 104
        · subst q3
          have e : nI m / 2 = nI (m / 2) := by rw [show (2 : Int32) = nI 2 from rfl, pk_div (by omega) (by omega) (by omega)]
          obtain ⟨p1, p2⟩ := st (m / 2) (by omega)
          by_cases q : nI m - nI m / 2 * 2 = 0
          · simp +decide only [q, if_true, if_false, Option.bind_some]
            rw [e]
            simp +decide only [p1, if_true]
            exact p2
          · simp +decide only [q, if_true, if_false, Option.bind_some]
            exact ⟨_, neg, rfl⟩
        · by_cases q4 : t = 105
          · subst q4
            have e : nI m + 1 = nI (m + 1) := nI_1 m
            obtain ⟨p1, p2⟩ := st (m + 1) (by omega)
            simp +decide only [e, p1, if_true, if_false, Option.bind_some]
            exact p2
          · by_cases q5 : t = 120
            · subst q5
              have e : nI m + 10 = nI (m + 10) := by rw [show (10 : Int32) = nI 10 from rfl, nI_add]
              obtain ⟨p1, p2⟩ := st (m + 10) (by omega)
              simp +decide only [e, p1, if_true, if_false, Option.bind_some]
              exact p2
            · simp +decide only [q1, q2, q3, q4, q5, if_true, if_false, Option.bind_some]
              exact ⟨_, neg, rfl⟩
theorem price_ok {I : IT} {z : Nat} (hT : RelT I z) : ∃ q, f_X9_price I = some q ∧ f_X10_price I = some q := by
  have hT' := hT
  obtain ⟨t1, t2, t3, t4⟩ := hT
  unfold f_X9_price f_X10_price f_X6_pricePressed f_X10_pressed
  rw [t1, t2]
  by_cases c : nI z ≤ 20
  · rw [if_pos c, if_pos c]
    have hz : z ≤ 20 := by rwa [show (20 : Int32) = nI 20 from rfl, nI_leI (by omega) (by omega)] at c
    obtain ⟨q, h1, h2⟩ := price_go hz hT' z FU 0 0 (by omega) (by unfold FU; omega) (by decide)
    rw [nI_0] at h1 h2
    exact ⟨q, by rw [h1]; rfl, by rw [h2]; rfl⟩
  · rw [if_neg c, if_neg c]
    exact ⟨_, rfl, rfl⟩
-- bargain
theorem barg_go {I : IT} {l : Nat} (hl : l < 6) (h5 : I 56 l = I 5 l) (h9 : I 55 9 = I 3 4) : ∀ r n (v4 v5 : Int32), r + 1 < n → r ≤ 40 → ∃ q, f_X2_bargainPrice_30 n (nI l) v4 v5 (nI r - 1) I = some q ∧ f_X10_bargain_70 n (nI l) v4 v5 (nI r - 1) I = some q := by
  intro r
  induction r with
  | zero =>
    intro n v4 v5 hn hr
    obtain ⟨n, rfl⟩ : ∃ q, n = q + 1 := ⟨n - 1, by omega⟩
    rw [f_X2_bargainPrice_30, f_X10_bargain_70]
    have c : nI 0 - 1 < 0 := by decide
    simp only [if_pos c, if_pos (inb_nI (show l < 14 by omega) (by omega)), if_pos (inb_nI hl (by omega)), nI_clamp (show l < 2 ^ 31 by omega), h5]
    exact ⟨_, rfl, rfl⟩
  | succ r ih =>
    intro n v4 v5 hn hr
    obtain ⟨n, rfl⟩ : ∃ q, n = q + 1 := ⟨n - 1, by omega⟩
    rw [f_X2_bargainPrice_30, f_X10_bargain_70, nI_pred, if_neg (nI_pos (by omega)), if_neg (nI_pos (by omega)), h9]
    simp only [Option.bind_some]
    have e : nI r + (-1) = nI r - 1 := by grind
    rw [e]
    obtain ⟨u, eu⟩ : ∃ u, v4 - nI r * I 3 4 = u := ⟨_, rfl⟩
    rw [eu]
    have k1 : (if 0 < u then u else 0) = if 0 ≤ u then u else 0 := by grind
    rw [k1]
    by_cases c : 0 ≤ u
    · rw [if_pos c, if_pos c]
      have k2 : (if 0 < u - v5 then u - v5 else 0) = if 0 ≤ u - v5 then u - v5 else 0 := by grind
      rw [k2]
      by_cases d : 0 ≤ u - v5
      · rw [if_pos d, if_pos d]; exact ih n v4 _ (by omega) (by omega)
      · rw [if_neg d, if_neg d]; exact ih n v4 _ (by omega) (by omega)
    · rw [if_neg c, if_neg c]
      have k2 : (if 0 < 0 - v5 then 0 - v5 else 0) = if 0 ≤ 0 - v5 then 0 - v5 else 0 := by grind
      rw [k2]
      by_cases d : 0 ≤ 0 - v5
      · rw [if_pos d, if_pos d]; exact ih n v4 _ (by omega) (by omega)
      · rw [if_neg d, if_neg d]; exact ih n v4 _ (by omega) (by omega)
theorem bargain_ok {I : IT} {s b k : Nat} (h : RelM I s b k) (a1 a2 a3 : Int32) : ∃ q, f_X9_bargain a1 a2 a3 I = some q ∧ f_X10_bargain a1 a2 a3 I = some q := by
  have hM := h
  obtain ⟨⟨e1, e2, e3, -⟩, -, -, -, ⟨-, h9⟩, -, hr, -, -, hw⟩ := h
  unfold f_X9_bargain f_X10_bargain
  rw [hasLotX a1 hM, isLotM a1 hM, hasBuyerX a2 hM, isBuyerM a2 hM, isW, in32 (lo := 1) (hi := 40) (by decide) (by decide)]
  simp only [Option.bind_some]
  rcases good_or a1 (show s < 2 ^ 31 by omega) with hb | ⟨l, hl, rfl⟩
  · rw [b2_bad hb]; exact ⟨_, if_pos rfl, if_pos rfl⟩
  simp only [b2_nI hl (show s < 2 ^ 31 by omega), if_neg (show ¬ (1 : Int32) = 0 by decide)]
  rcases good_or a2 (show b < 2 ^ 31 by omega) with hb | ⟨j, hj, rfl⟩
  · rw [b2_bad hb]; exact ⟨_, if_pos rfl, if_pos rfl⟩
  simp only [b2_nI hj (show b < 2 ^ 31 by omega), if_neg (show ¬ (1 : Int32) = 0 by decide)]
  by_cases c : 1 ≤ a3 ∧ a3 ≤ 40
  · simp only [b2, if_pos c, if_neg (show ¬ (1 : Int32) = 0 by decide)]
    obtain ⟨r, hr1, hr2, rfl⟩ : ∃ r, 1 ≤ r ∧ r ≤ 40 ∧ a3 = nI r := by
      obtain ⟨r, g1, rfl⟩ := nI_of2 (x := a3) (M := 40) (n := 40) rfl (by grind) c.2
      refine ⟨r, ?_, g1, rfl⟩
      have := c.1
      rw [show (1 : Int32) = nI 1 from rfl, nI_leI (by omega) (by omega)] at this
      exact this
    unfold f_X2_bargainPrice
    have ew : f_X2_worthOf (nI j) (nI l) I = some (I 6 (6 * j + l)) := by
      unfold f_X2_worthOf
      simp only [i6, i6']
      rw [if_pos (inb_nI (show 6 * j + l < 36 by omega) (by omega)), nI_clamp (by omega)]
    rw [ew, i6', if_pos (inb_nI (show 6 * j + l < 36 by omega) (by omega)), if_pos (inb_nI (show l < 6 by omega) (by omega)), nI_clamp (show 6 * j + l < 2 ^ 31 by omega), nI_clamp (show l < 2 ^ 31 by omega), (hw j l hj hl).1, (hr l hl).1]
    simp only [Option.bind_some]
    rw [if_pos (inb_nI (show l < 14 by omega) (by omega))]
    by_cases c : 0 ≤ I 6 (6 * j + l) - I 5 l
    · rw [if_pos c, if_pos c]
      obtain ⟨q, g1, g2⟩ := barg_go (I := I) (show l < 6 by omega) (hr l hl).1 h9 r FU (I 6 (6 * j + l) - I 5 l) 0 (by unfold FU; omega) hr2
      exact ⟨q, by rw [g1]; rfl, g2⟩
    · rw [if_neg c, if_neg c]; exact ⟨_, rfl, rfl⟩
  · simp only [b2, if_neg c, if_true]; exact ⟨_, rfl, rfl⟩
