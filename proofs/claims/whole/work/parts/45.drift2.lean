theorem beat2 {Ix Im : IT} {s b k : Nat} (h : Rel2 Ix Im s b k) : Rel2 (upI Ix 12 1 (Ix 12 1 + 1)) (upI Im 55 16 (Im 55 16 + 1)) s b k := by
  obtain ⟨hx, hm, hl3, r1, r2, r3, r4, r5, r6, r7, r8⟩ := h
  have fx : ∀ c, c ≠ 12 → upI Ix 12 1 (Ix 12 1 + 1) c = Ix c := fun c hc => by simp [upI, hc]
  have fm : ∀ c, c ≠ 55 → upI Im 55 16 (Im 55 16 + 1) c = Im c := fun c hc => by simp [upI, hc]
  have fm5 : ∀ j, j ≠ 16 → upI Im 55 16 (Im 55 16 + 1) 55 j = Im 55 j := fun j hj => by simp [upI, upd, hj]
  refine ⟨frameM hx (by simp +decide [fx]) (by simp +decide [fx]), frameM hm (by simp +decide [fm]) (by simp +decide [fm5]), fun c h1 h2 => by rw [fx c (by omega), fm c (by omega), hl3 c h1 h2], ?_⟩
  rw [fx 13 (by decide), fx 14 (by decide), fx 15 (by decide), fx 16 (by decide), fx 17 (by decide), fx 18 (by decide), fx 4 (by decide), fm 61 (by decide), fm 62 (by decide), fm 63 (by decide), fm 64 (by decide), fm 65 (by decide), fm 66 (by decide), fm5 17 (by decide), show upI Ix 12 1 (Ix 12 1 + 1) 12 2 = Ix 12 2 by simp [upI, upd], show upI Ix 12 1 (Ix 12 1 + 1) 12 1 = Ix 12 1 + 1 by simp [upI, upd], show upI Im 55 16 (Im 55 16 + 1) 55 16 = Im 55 16 + 1 by simp [upI, upd]]
  exact ⟨by rw [r1], r2, r3, r4, r5, r6, r7, r8⟩
theorem soldM2 {I : IT} {s : Nat} {f : Nat → Int32} (hs : I 55 0 = nI s) (h6 : s ≤ 6) (hx : ∀ l, l < 6 → I 64 l = f l ∧ -1 ≤ f l) : ∀ (d n l : Nat), l + d = s → d < n → f_X10_soldSet_4 n (soldF f l) (nI l) I = some (soldF f s) := by
  intro d
  induction d with
  | zero =>
    intro n l hl hn
    obtain ⟨n, rfl⟩ : ∃ m, n = m + 1 := ⟨n - 1, by omega⟩
    obtain rfl : l = s := by omega
    rw [f_X10_soldSet_4, hs, if_pos (nI_le (Nat.le_refl _) (by omega))]
  | succ d ih =>
    intro n l hl hn
    obtain ⟨n, rfl⟩ : ∃ m, n = m + 1 := ⟨n - 1, by omega⟩
    have hxl := hx l (by omega)
    rw [f_X10_soldSet_4, hs, if_neg (by rw [nI_leI (by omega) (by omega)]; omega), if_pos (inb_nI (show l < 6 by omega) (by omega)), nI_clamp (by omega), hxl.1]
    have := ih n (l + 1) (by omega) (by omega)
    rw [nI_1]
    by_cases c : f l = -1
    · rw [if_pos (by rw [c]; decide), ← this]
      simp [soldF, c]
    · rw [if_neg (by grind), ← this]
      simp [soldF, c]
theorem soldN (f : Nat → Int32) : ∀ l, l ≤ 6 → ∃ m, m < 2 ^ l ∧ soldF f l = nI m := by
  intro l
  induction l with
  | zero => intro _; exact ⟨0, by omega, rfl⟩
  | succ l ih =>
    intro hl
    obtain ⟨m, hm, e⟩ := ih (by omega)
    have p1 : 2 ^ l ≤ 2 ^ (l + 1) := Nat.pow_le_pow_right (by omega) (by omega)
    have p2 : 2 ^ l < 2 ^ (l + 1) := Nat.pow_lt_pow_right (by omega) (by omega)
    by_cases c : f l = -1
    · refine ⟨m, by omega, ?_⟩
      simp only [soldF, e, c, if_true]
      rw [show (0 : Int32) = nI 0 from rfl, fa_or, Nat.or_zero]
    · refine ⟨m ||| 2 ^ l, Nat.or_lt_two_pow (by omega) p2, ?_⟩
      simp only [soldF, e, c, if_false]
      rw [sh1 (by omega), fa_or]
theorem count2 {Ix Im : IT} {s b k : Nat} (h : Rel2 Ix Im s b k) : ∃ q y, f_X1_soldLots Ix = some y ∧ f_J6_bitCount_0f7a4 y = some q ∧ f_X10_soldSet Im = some y ∧ f_X10_bits y = some q := by
  have e1 := h.1.1.1
  obtain ⟨m, hm, em⟩ := soldN (Ix 16) s e1
  have p : 2 ^ s ≤ 2 ^ 6 := Nat.pow_le_pow_right (by omega) e1
  have x := soldX' h.1
  have y := soldM2 (I := Im) (f := Ix 16) h.2.1.2.2.1.1 e1 (fun l hl => ⟨(h.2.2.2.2.2.2.2.2.2.1 l hl).1, (h.2.2.2.2.2.2.2.2.2.1 l hl).2.1⟩) s FU 0 (by omega) (by unfold FU; omega)
  rw [em] at x y
  refine ⟨nI (pN m 14), nI m, x, popcX (by omega), ?_, ?_⟩
  · unfold f_X10_soldSet
    exact y
  · rw [popcM, popcN (by omega) 14 (by omega)]
theorem drift_go {s b k t : Nat} (ht : t ≤ 60) : ∀ r n n' i Ix Im, Rel2 Ix Im s b k → i + r = t → r < n → r < n' → ∃ q Ix' Im', f_X9_drift_15 n (nI t) (nI i) Ix = some (q, Ix') ∧ f_X10_drift_17 n' (nI t) (nI i) Im = some (q, Im') ∧ Rel2 Ix' Im' s b k ∧ FX Ix Ix' ∧ FM Im Im' := by
  intro r
  induction r with
  | zero =>
    intro n n' i Ix Im h h1 h2 h3
    obtain ⟨n, rfl⟩ : ∃ q, n = q + 1 := ⟨n - 1, by omega⟩
    obtain ⟨n', rfl⟩ : ∃ q, n' = q + 1 := ⟨n' - 1, by omega⟩
    have c : nI t ≤ nI i := by rw [nI_leI (by omega) (by omega)]; omega
    obtain ⟨q, y, g1, g2, g3, g4⟩ := count2 h
    rw [f_X9_drift_15, f_X10_drift_17, if_pos c, if_pos c, g1, g3]
    simp only [Option.bind_some]
    rw [g2, g4]
    exact ⟨q, Ix, Im, rfl, rfl, h, FX.rf _, FM.rf _⟩
  | succ r ih =>
    intro n n' i Ix Im h h1 h2 h3
    obtain ⟨n, rfl⟩ : ∃ q, n = q + 1 := ⟨n - 1, by omega⟩
    obtain ⟨n', rfl⟩ : ∃ q, n' = q + 1 := ⟨n' - 1, by omega⟩
    obtain ⟨e1, e2, e3, e4⟩ := h.1.1
    have c : ¬ nI t ≤ nI i := by rw [nI_leI (by omega) (by omega)]; omega
    obtain ⟨X1, M1, g1, g2, R1, a1, b1⟩ := drift_s (nI t) (nI i) s FU FU 0 Ix Im h (by omega) (by unfold FU; omega) (by unfold FU; omega)
    obtain ⟨X2, M2, k1, k2, R2, a2, b2⟩ := drift_b (nI t) (nI i) b FU FU 0 X1 M1 R1 (by omega) (by unfold FU; omega) (by unfold FU; omega)
    obtain ⟨q, X3, M3, l1, l2, R3, a3, b3⟩ := ih n n' (i + 1) (upI X2 12 1 (X2 12 1 + 1)) (upI M2 55 16 (M2 55 16 + 1)) (beat2 R2) (by omega) (by omega) (by omega)
    rw [nI_0] at g1 g2 k1 k2
    refine ⟨q, X3, M3, ?_, ?_, R3, ((a1.tr a2).tr (fun c h1 _ _ _ _ _ => by simp [upI, h1])).tr a3, ((b1.tr b2).tr ⟨fun c h1 _ _ _ _ _ => by simp [upI, h1], fun j h1 _ => by simp [upI, upd, h1]⟩).tr b3⟩
    · rw [f_X9_drift_15, if_neg c]
      unfold f_X1_driftBeat
      rw [g1, k1, nI_1]
      exact l1
    · rw [f_X10_drift_17, if_neg c, g2]
      simp only [Option.bind_some]
      rw [k2, nI_1]
      exact l2
theorem start2 {I X : IT} {J : JT} {s b k c w z : Nat} (h : RelA I J s b k c w z) (f : FX I X) : Rel2 I X s b k := by
  obtain ⟨hM, hC, -⟩ := h
  have f' := f
  unfold FX at f'
  refine ⟨hM, frameM hM (by simp +decide [f']) (by simp +decide [f']), fun c h1 h2 => f c (by omega) (by omega) (by omega) (by omega) (by omega) (by omega), ?_⟩
  rw [f' 55 (by decide) (by decide) (by decide) (by decide) (by decide) (by decide), f' 61 (by decide) (by decide) (by decide) (by decide) (by decide) (by decide), f' 62 (by decide) (by decide) (by decide) (by decide) (by decide) (by decide), f' 63 (by decide) (by decide) (by decide) (by decide) (by decide) (by decide), f' 64 (by decide) (by decide) (by decide) (by decide) (by decide) (by decide), f' 65 (by decide) (by decide) (by decide) (by decide) (by decide) (by decide), f' 66 (by decide) (by decide) (by decide) (by decide) (by decide) (by decide)]
  exact hC
theorem fin2 {I X M : IT} {J : JT} {s b k c w z : Nat} (h : RelA I J s b k c w z) (f : FX I X) (R : Rel2 X M s b k) (g : FM X M) : RelA M J s b k c w z := by
  obtain ⟨hM, hC, hK, hW, hB, hT, hF, hS⟩ := h
  obtain ⟨g1, g5⟩ := g
  unfold FX at f
  have fr : ∀ c, c ≠ 12 → c ≠ 14 → c ≠ 15 → c ≠ 16 → c ≠ 17 → c ≠ 18 → c ≠ 55 → c ≠ 62 → c ≠ 63 → c ≠ 64 → c ≠ 65 → c ≠ 66 → M c = I c := fun c a1 a2 a3 a4 a5 a6 a7 a8 a9 b1 b2 b3 => by rw [g1 c a7 a8 a9 b1 b2 b3, f c a1 a2 a3 a4 a5 a6]
  have fr5 : ∀ j, j ≠ 16 → j ≠ 17 → M 55 j = I 55 j := fun j a1 a2 => by rw [g5 j a1 a2, f 55 (by decide) (by decide) (by decide) (by decide) (by decide) (by decide)]
  refine ⟨R.2.1, ?_, frameK hK (by simp +decide [fr]), frameW hW (by simp +decide [fr]) (fr5 40 (by decide) (by decide)), frameB hB (by simp +decide [fr]) (fr5 47 (by decide) (by decide)), frameT hT (by simp +decide [fr]) (fr5 19 (by decide) (by decide)), ?_, frameS hS (by simp +decide [fr]) rfl⟩
  · obtain ⟨-, -, -, rc⟩ := R
    unfold RelC
    rw [g1 12 (by decide) (by decide) (by decide) (by decide) (by decide) (by decide), g1 13 (by decide) (by decide) (by decide) (by decide) (by decide) (by decide), g1 14 (by decide) (by decide) (by decide) (by decide) (by decide) (by decide), g1 15 (by decide) (by decide) (by decide) (by decide) (by decide) (by decide), g1 16 (by decide) (by decide) (by decide) (by decide) (by decide) (by decide), g1 17 (by decide) (by decide) (by decide) (by decide) (by decide) (by decide), g1 18 (by decide) (by decide) (by decide) (by decide) (by decide) (by decide), g1 4 (by decide) (by decide) (by decide) (by decide) (by decide) (by decide)]
    exact rc
  · rw [fr5 20 (by decide) (by decide), fr 0 (by decide) (by decide) (by decide) (by decide) (by decide) (by decide) (by decide) (by decide) (by decide) (by decide) (by decide) (by decide)]
    exact hF
theorem op_drift {I : IT} {J : JT} {s b k c w z : Nat} (h : RelA I J s b k c w z) (a1 : Int32) : ∃ r I1 I2, f_X9_drift a1 I = some (r, I1) ∧ f_X10_drift a1 I1 = some (r, I2) ∧ RelA I2 J s b k c w z := by
  unfold f_X9_drift f_X10_drift
  rw [isW, in32 (lo := 1) (hi := 60) (by decide) (by decide)]
  simp only [Option.bind_some]
  by_cases cc : 1 ≤ a1 ∧ a1 ≤ 60
  · simp only [b2, if_pos cc, if_neg (show ¬ (1 : Int32) = 0 by decide)]
    obtain ⟨t, ht, rfl⟩ := nI_of2 (x := a1) (M := 60) (n := 60) rfl (by grind) cc.2
    obtain ⟨q, X, M, g1, -, -, a1, -⟩ := drift_go ht t FU FU 0 I I (start2 h (FX.rf _)) (by omega) (by unfold FU; omega) (by unfold FU; omega)
    obtain ⟨q', X', M', k1, k2, R, a2, b2⟩ := drift_go ht t FU FU 0 I X (start2 h a1) (by omega) (by unfold FU; omega) (by unfold FU; omega)
    rw [g1] at k1
    obtain ⟨rfl, rfl⟩ : q = q' ∧ X = X' := by
      have := Option.some.inj k1
      exact ⟨congrArg Prod.fst this, congrArg Prod.snd this⟩
    rw [nI_0] at g1 k2
    exact ⟨q, X, M', g1, k2, fin2 h a1 R b2⟩
  · simp only [b2, if_neg cc, if_true]
    exact ⟨_, I, I, rfl, rfl, h⟩
