def nx (n : Nat) : Nat := (n * 1103515245 + 12345) % 2147483648
theorem nx_lt (n : Nat) : nx n < 2147483648 := Nat.mod_lt _ (by decide)
theorem lN_mask31 (n : Nat) : lN n &&& 2147483647 = lN (n % 2147483648) := by
  apply Int64.toBitVec_inj.1
  show BitVec.ofNat 64 n &&& BitVec.ofNat 64 2147483647 = BitVec.ofNat 64 (n % 2147483648)
  apply BitVec.eq_of_toNat_eq
  rw [BitVec.toNat_and, BitVec.toNat_ofNat, BitVec.toNat_ofNat, BitVec.toNat_ofNat]
  rw [show 2147483647 % 2 ^ 64 = 2 ^ 31 - 1 from rfl, Nat.and_two_pow_sub_one_eq_mod]
  omega
theorem seedX {n : Nat} (hn : n < 2147483648) : ((((nI n).toInt64 * 1103515245) + 12345) &&& 2147483647).toInt32 = nI (nx n) := by
  rw [nI_l (by omega), show (1103515245 : Int64) = lN 1103515245 from rfl, show (12345 : Int64) = lN 12345 from rfl, lN_mul, lN_add, lN_mask31, lN_i]
  rfl
theorem seedM {n : Nat} (hn : n < 2147483648) : ((((nI n).toInt64 * 1103515245) + 12345) - (((nI n).toInt64 * 1103515245) + 12345) / 2147483648 * 2147483648).toInt32 = nI (nx n) := by
  rw [nI_l (by omega), show (1103515245 : Int64) = lN 1103515245 from rfl, show (12345 : Int64) = lN 12345 from rfl, lN_mul, lN_add, show (2147483648 : Int64) = lN 2147483648 from rfl, pk_lRem (by omega) (by omega) (by omega), lN_i]
  rfl
theorem drawX {I : IT} {n a : Nat} (hn : n < 2147483648) (h : I 12 2 = nI n) (h0 : 0 < a) (ha : a < 2 ^ 31) : f_X1_draw (nI a) I = some (nI (nx n / 65536 % a), upI I 12 2 (nI (nx n))) := by
  have k := nx_lt n
  unfold f_X1_draw
  rw [if_neg (nI_nle h0 ha), if_pos (nI_ne0 h0 ha), h, seedX hn, show upI I 12 2 (nI (nx n)) 12 2 = nI (nx n) by simp [upI, upd], show (65536 : Int32) = nI 65536 from rfl, pk_div (by omega) (by omega) (by omega), pk_rem (by omega) h0 ha]
theorem drawM {I : IT} {n a : Nat} (hn : n < 2147483648) (h : I 55 17 = nI n) (h0 : 0 < a) (ha : a < 2 ^ 31) : f_X10_draw (nI a) I = some (nI (nx n / 65536 % a), upI I 55 17 (nI (nx n))) := by
  have k := nx_lt n
  unfold f_X10_draw
  rw [if_pos (nI_ne0 h0 ha), h, seedM hn, show upI I 55 17 (nI (nx n)) 55 17 = nI (nx n) by simp [upI, upd], show (65536 : Int32) = nI 65536 from rfl, pk_div (by omega) (by omega) (by omega), pk_rem (by omega) h0 ha]
theorem draw2 {Ix Im : IT} {s b k : Nat} (h : Rel2 Ix Im s b k) {a : Nat} (h0 : 0 < a) (ha : a < 2 ^ 31) : ∃ r Ix' Im', r < a ∧ f_X1_draw (nI a) Ix = some (nI r, Ix') ∧ f_X10_draw (nI a) Im = some (nI r, Im') ∧ Rel2 Ix' Im' s b k ∧ FX Ix Ix' ∧ FM Im Im' := by
  obtain ⟨hx, hm, hl3, r1, r2, r3, r4, r5, r6, r7, r8⟩ := h
  obtain ⟨n, hn, en⟩ := nI_of (x := Ix 12 2) (by grind)
  have en' : Im 55 17 = nI n := by rw [r2, en]
  have k := nx_lt n
  have fx : ∀ c, c ≠ 12 → upI Ix 12 2 (nI (nx n)) c = Ix c := fun c hc => by simp [upI, hc]
  have fm : ∀ c, c ≠ 55 → upI Im 55 17 (nI (nx n)) c = Im c := fun c hc => by simp [upI, hc]
  have fm5 : ∀ j, j ≠ 17 → upI Im 55 17 (nI (nx n)) 55 j = Im 55 j := fun j hj => by simp [upI, upd, hj]
  refine ⟨_, _, _, Nat.mod_lt _ h0, drawX (by omega) en h0 ha, drawM (by omega) en' h0 ha, ⟨frameM hx (by simp +decide [fx]) (by simp +decide [fx]), frameM hm (by simp +decide [fm]) (by simp +decide [fm5]), fun c h1 h2 => by rw [fx c (by omega), fm c (by omega), hl3 c h1 h2], ?_⟩, fun c h1 _ _ _ _ _ => fx c h1, fun c h1 _ _ _ _ _ => fm c h1, fun j _ h2 => fm5 j h2⟩
  rw [fx 13 (by decide), fx 14 (by decide), fx 15 (by decide), fx 16 (by decide), fx 17 (by decide), fx 18 (by decide), fx 4 (by decide), fm 61 (by decide), fm 62 (by decide), fm 63 (by decide), fm 64 (by decide), fm 65 (by decide), fm 66 (by decide), fm5 16 (by decide), show upI Ix 12 2 (nI (nx n)) 12 1 = Ix 12 1 by simp [upI, upd], show upI Ix 12 2 (nI (nx n)) 12 2 = nI (nx n) by simp [upI, upd], show upI Im 55 17 (nI (nx n)) 55 17 = nI (nx n) by simp [upI, upd]]
  exact ⟨r1, rfl, nI_pos' (by omega), r4, r5, r6, r7, r8⟩
theorem FX.rf (I : IT) : FX I I := fun _ _ _ _ _ _ _ => rfl
theorem FM.rf (I : IT) : FM I I := ⟨fun _ _ _ _ _ _ _ => rfl, fun _ _ _ => rfl⟩
theorem try2 {Ix Im : IT} {s b k p l : Nat} (h : Rel2 Ix Im s b k) (hp : p < s + b) (hl : l < s) (v : Int32) : ∃ Ix' Im', f_X1_bindIfMay (nI p) (nI l) v Ix = some Ix' ∧ f_X10_tryBind (nI p) (nI l) v Im = some Im' ∧ Rel2 Ix' Im' s b k ∧ FX Ix Ix' ∧ FM Im Im' := by
  have e1 := h.1.1.1
  obtain ⟨w1, w2, -⟩ := h.2.2.2.2.2.2.2.2.2.1 l (by omega)
  unfold f_X1_bindIfMay f_X10_tryBind
  rw [isW, in32 (lo := 1) (hi := 999) (by decide) (by decide), if_pos (inb_nI (show l < 6 by omega) (by omega)), nI_clamp (by omega), w1]
  simp only [Option.bind_some]
  by_cases c : 1 ≤ v ∧ v ≤ 999
  · simp only [b2, if_pos c, if_neg (show ¬ (1 : Int32) = 0 by decide)]
    by_cases d : Ix 16 l = -1
    · rw [if_neg (show ¬ 0 ≤ Ix 16 l by rw [d]; decide)]
      obtain ⟨q, g1, g2, g3⟩ := may2 h hp hl v d
      rw [g1, g2]
      simp only [Option.bind_some]
      by_cases q0 : q = 0
      · rw [if_pos q0, if_pos q0]
        exact ⟨Ix, Im, rfl, rfl, h, FX.rf _, FM.rf _⟩
      · rw [if_neg q0, if_neg q0]
        obtain ⟨X, M, k1, k2, k3⟩ := bind2 h hp hl c.1
        rw [k1, k2]
        exact ⟨X, M, rfl, rfl, k3⟩
    · rw [may2s (by omega) _ _ d, if_pos (show 0 ≤ Ix 16 l by grind)]
      exact ⟨Ix, Im, rfl, rfl, h, FX.rf _, FM.rf _⟩
  · simp only [b2, if_neg c, if_true]
    exact ⟨Ix, Im, rfl, rfl, h, FX.rf _, FM.rf _⟩
theorem drift_s {s b k : Nat} (v1 v2 : Int32) : ∀ r n n' i Ix Im, Rel2 Ix Im s b k → i + r = s → r < n → r < n' → ∃ Ix' Im', f_X1_driftBeat_2 n (nI i) Ix = f_X1_driftBeat_43 FU 0 Ix' ∧ f_X10_drift_24 n' v1 v2 (nI i) Im = some Im' ∧ Rel2 Ix' Im' s b k ∧ FX Ix Ix' ∧ FM Im Im' := by
  intro r
  induction r with
  | zero =>
    intro n n' i Ix Im h h1 h2 h3
    obtain ⟨n, rfl⟩ : ∃ q, n = q + 1 := ⟨n - 1, by omega⟩
    obtain ⟨n', rfl⟩ : ∃ q, n' = q + 1 := ⟨n' - 1, by omega⟩
    have e1 := h.1.1.1
    have c : nI s ≤ nI i := by rw [nI_leI (by omega) (by omega)]; omega
    rw [f_X1_driftBeat_2, f_X10_drift_24, h.1.2.1.1, h.2.1.2.2.1.1, if_pos c, if_pos c]
    exact ⟨Ix, Im, rfl, rfl, h, FX.rf _, FM.rf _⟩
  | succ r ih =>
    intro n n' i Ix Im h h1 h2 h3
    obtain ⟨n, rfl⟩ : ∃ q, n = q + 1 := ⟨n - 1, by omega⟩
    obtain ⟨n', rfl⟩ : ∃ q, n' = q + 1 := ⟨n' - 1, by omega⟩
    have e1 := h.1.1.1
    have c : ¬ nI s ≤ nI i := by rw [nI_leI (by omega) (by omega)]; omega
    have w : Im 56 i = Ix 5 i := by rw [(h.2.1.2.2.2.2.2.2.1 i (by omega)).1, h.2.2.1 5 (by decide) (by decide)]
    obtain ⟨u, X1, M1, hu, g1, g2, R1, a1, b1⟩ := draw2 h (a := 50) (by omega) (by omega)
    obtain ⟨X2, M2, k1, k2, R2, a2, b2⟩ := try2 R1 (show i < s + b by omega) (show i < s by omega) (Ix 5 i + nI u)
    obtain ⟨X3, M3, l1, l2, R3, a3, b3⟩ := ih n n' (i + 1) X2 M2 R2 (by omega) (by omega) (by omega)
    refine ⟨X3, M3, ?_, ?_, R3, (a1.tr a2).tr a3, (b1.tr b2).tr b3⟩
    · rw [f_X1_driftBeat_2, h.1.2.1.1, if_neg c, if_pos (inb_nI (show i < 14 by omega) (by omega)), show (50 : Int32) = nI 50 from rfl, g1, nI_clamp (by omega), nI_1]
      simp only [Option.bind_some]
      rw [k1]
      exact l1
    · rw [f_X10_drift_24, h.2.1.2.2.1.1, if_neg c, if_pos (inb_nI (show i < 6 by omega) (by omega)), show (50 : Int32) = nI 50 from rfl, g2, nI_clamp (by omega), nI_1]
      simp only [Option.bind_some]
      rw [w, k2]
      exact l2
theorem drift_b {s b k : Nat} (v1 v2 : Int32) : ∀ r n n' j Ix Im, Rel2 Ix Im s b k → j + r = b → r < n → r < n' → ∃ Ix' Im', f_X1_driftBeat_43 n (nI j) Ix = some (upI Ix' 12 1 (Ix' 12 1 + 1)) ∧ f_X10_drift_59 n' v1 v2 (nI j) Im = some Im' ∧ Rel2 Ix' Im' s b k ∧ FX Ix Ix' ∧ FM Im Im' := by
  intro r
  induction r with
  | zero =>
    intro n n' j Ix Im h h1 h2 h3
    obtain ⟨n, rfl⟩ : ∃ q, n = q + 1 := ⟨n - 1, by omega⟩
    obtain ⟨n', rfl⟩ : ∃ q, n' = q + 1 := ⟨n' - 1, by omega⟩
    have e2 := h.1.1.2.1
    have c : nI b ≤ nI j := by rw [nI_leI (by omega) (by omega)]; omega
    rw [f_X1_driftBeat_43, f_X10_drift_59, h.1.2.1.2.1, h.2.1.2.2.1.2.1, if_pos c, if_pos c]
    exact ⟨Ix, Im, rfl, rfl, h, FX.rf _, FM.rf _⟩
  | succ r ih =>
    intro n n' j Ix Im h h1 h2 h3
    obtain ⟨n, rfl⟩ : ∃ q, n = q + 1 := ⟨n - 1, by omega⟩
    obtain ⟨n', rfl⟩ : ∃ q, n' = q + 1 := ⟨n' - 1, by omega⟩
    obtain ⟨e1, e2, e3, e4⟩ := h.1.1
    have c : ¬ nI b ≤ nI j := by rw [nI_leI (by omega) (by omega)]; omega
    obtain ⟨l, X1, M1, hl, g1, g2, R1, a1, b1⟩ := draw2 h (a := s) (by omega) (by omega)
    have w : M1 58 (6 * j + l) = X1 6 (6 * j + l) := by rw [(R1.2.1.2.2.2.2.2.2.2.2.2 j l (by omega) hl).1, R1.2.2.1 6 (by decide) (by decide)]
    obtain ⟨u, X2, M2, hu, k1, k2, R2, a2, b2⟩ := draw2 R1 (a := 50) (by omega) (by omega)
    obtain ⟨X3, M3, t1, t2, R3, a3, b3⟩ := try2 R2 (show s + j < s + b by omega) hl (X1 6 (6 * j + l) - nI u)
    obtain ⟨X4, M4, l1, l2, R4, a4, b4⟩ := ih n n' (j + 1) X3 M3 R3 (by omega) (by omega) (by omega)
    refine ⟨X4, M4, ?_, ?_, R4, ((a1.tr a2).tr a3).tr a4, ((b1.tr b2).tr b3).tr b4⟩
    · rw [f_X1_driftBeat_43, h.1.2.1.2.1, if_neg c, h.1.2.1.1, g1]
      simp only [Option.bind_some]
      unfold f_X2_worthOf
      rw [i6, if_pos (inb_nI (show 6 * j + l < 36 by omega) (by omega)), nI_clamp (by omega), show (50 : Int32) = nI 50 from rfl, k1, R1.1.2.1.1, nI_add, nI_1]
      simp only [Option.bind_some]
      rw [t1]
      exact l1
    · rw [f_X10_drift_59, h.2.1.2.2.1.2.1, if_neg c, h.2.1.2.2.1.1, g2]
      simp only [Option.bind_some]
      rw [i6', if_pos (inb_nI (show 6 * j + l < 36 by omega) (by omega)), nI_clamp (by omega), show (50 : Int32) = nI 50 from rfl, k2, R1.2.1.2.2.1.1, nI_add, nI_1]
      simp only [Option.bind_some]
      rw [w, t2]
      exact l2
