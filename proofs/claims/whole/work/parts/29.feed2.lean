theorem byte_go (x : Int64) (u : UInt64) (t : Int64) (d : Nat) (hd : d + 8 ≤ 64) (hu : (x.toUInt64 >>> u).toInt64.toBitVec = x.toBitVec >>> d) (ht : (x >>> t).toBitVec = x.toBitVec.sshiftRight d) : (x.toUInt64 >>> u).toInt64.toInt32 &&& 255 = ((x >>> t) &&& 255).toInt32 := by
  apply Int32.toBitVec_inj.mp
  rw [Int32.toBitVec_and, Int64.toBitVec_toInt32, Int64.toBitVec_toInt32, Int64.toBitVec_and, hu, ht]
  apply BitVec.eq_of_getLsbD_eq
  intro i hi
  have e1 : (255 : Int32).toBitVec.getLsbD i = decide (i < 8) := by
    have : ∀ i, i < 32 → (255 : Int32).toBitVec.getLsbD i = decide (i < 8) := by decide +kernel
    exact this i hi
  have e2 : (255 : Int64).toBitVec.getLsbD i = decide (i < 8) := by
    have : ∀ i, i < 32 → (255 : Int64).toBitVec.getLsbD i = decide (i < 8) := by decide +kernel
    exact this i hi
  rw [BitVec.getLsbD_and, e1, BitVec.getLsbD_signExtend, BitVec.getLsbD_signExtend, if_pos (show i < 64 by omega), if_pos (show i < 64 by omega), BitVec.getLsbD_and, e2, BitVec.getLsbD_ushiftRight, BitVec.getLsbD_sshiftRight]
  by_cases c : i < 8
  · simp [c, hi, show d + i < 64 by omega, show ¬ 64 ≤ i by omega]
  · simp [c]
theorem bp_b (x : Int32) : x.toInt8.toInt32 &&& 255 = x &&& 255 := by
  apply Int32.toBitVec_inj.mp
  rw [Int32.toBitVec_and, Int32.toBitVec_and, Int8.toBitVec_toInt32, Int32.toBitVec_toInt8]
  apply BitVec.eq_of_getLsbD_eq
  intro i hi
  rw [BitVec.getLsbD_and, BitVec.getLsbD_and]
  have hm : ∀ i < 32, 8 ≤ i → (255 : Int32).toBitVec.getLsbD i = false := by decide
  rcases Nat.lt_or_ge i 8 with z | z
  · rw [BitVec.getLsbD_signExtend, BitVec.getLsbD_signExtend, if_pos z, if_pos hi]
    simp only [z, hi, decide_true, Bool.true_and]
  · rw [hm i hi z]; simp
theorem byte_ok (x : Int64) {k : Nat} (hk : k < 8) : xb x k &&& 255 = mbt x k := by
  unfold xb mbt
  rw [vp_nar_byte, bp_b, bp_b]
  refine byte_go x _ _ (8 * k) (by omega) ?_ ?_
  · show x.toBitVec >>> (((8 * nI k).toInt64.toUInt64 &&& Int64.toUInt64 63).toBitVec % 64) = _
    rw [BitVec.ushiftRight_eq']
    congr 1
    have : ∀ k, k < 8 → (((8 * nI k).toInt64.toUInt64 &&& Int64.toUInt64 63).toBitVec % 64).toNat = 8 * k := by decide +kernel
    exact this k hk
  · show x.toBitVec.sshiftRight' (((8 * nI k).toInt64 &&& 63).toBitVec.smod 64) = _
    have : ∀ k, k < 8 → (((8 * nI k).toInt64 &&& 63).toBitVec.smod 64).toNat = 8 * k := by decide +kernel
    rw [BitVec.sshiftRight', this k hk]
theorem op_feed {I : IT} {J : JT} {s b k c w z : Nat} (h : RelA I J s b k c w z) (a1 : Int32) (x : Int64) : ∃ r I1 I2, f_X9_feed a1 x I = some (r, I1) ∧ f_X10_feed a1 x I1 = some (r, I2) ∧ ∃ z', RelA I2 J s b k c w z' := by
  have h0 := h
  obtain ⟨hM, hC, hK, hW, hB, ⟨t1, t2, t3, t4⟩, hF, hS⟩ := h
  unfold f_X9_feed f_X10_feed
  rw [in32 (lo := 1) (lo' := 1) (hi := 8) (hi' := 8) (by decide) (by decide)]
  simp only [isW, Option.bind_some, t1]
  by_cases q : 1 ≤ a1 ∧ a1 ≤ 8
  · obtain ⟨m, hm, rfl⟩ := rng_nI (a := a1) 8 (by omega) ⟨Int32.le_trans (by decide) q.1, q.2⟩
    have hm1 : 1 ≤ m := by
      have := q.1
      rw [show (1 : Int32) = nI 1 from rfl, nI_leI (by omega) (by omega)] at this
      exact this
    have e5 : (nI z + nI m ≤ (500 : Int32)) = (z + m ≤ 500) := by rw [nI_add, show (500 : Int32) = nI 500 from rfl]; exact propext (nI_leI (by omega) (by omega))
    by_cases q2 : z + m ≤ 500
    · obtain ⟨I1, g1, g2, g3, g4, g5⟩ := appX x m FU z I t1 q2 (by unfold FU; omega)
      obtain ⟨I2, k1, k2, k3, k3', k4, k5⟩ := feedM x m FU z I1 (by rw [g3 55 (by decide) (by decide)]; exact t2) q2 (by unfold FU; omega)
      have fr : ∀ c, c ≠ 1 → c ≠ 2 → c ≠ 55 → c ≠ 67 → I2 c = I c := fun c h1 h2 h3 h4 => by rw [k3 c h3 h4, g3 c h1 h2]
      have fr5 : ∀ j, j ≠ 19 → I2 55 j = I 55 j := fun j hj => by rw [k3' j hj, g3 55 (by decide) (by decide)]
      refine ⟨nI (z + m), I1, I2, ?_, ?_, z + m, ?_, ?_, ?_, ?_, ?_, ?_, ?_, ?_⟩
      · unfold f_X6_append
        simp [q, e5, q2, g1, g2]
      · rw [g3 55 (by decide) (by decide), t2]
        simp [q, e5, q2, k1]
      · exact frameM hM (by simp +decide [fr]) (by simp +decide [fr5])
      · exact frameC hC (by simp +decide [fr]) (by simp +decide [fr5])
      · exact frameK hK (by simp +decide [fr])
      · exact frameW hW (by simp +decide [fr]) (fr5 40 (by decide))
      · exact frameB hB (by simp +decide [fr]) (fr5 47 (by decide))
      · refine ⟨by rw [k3 1 (by decide) (by decide), g2], k2, q2, fun j hj => ?_⟩
        rw [k3 2 (by decide) (by decide)]
        by_cases c : j < z
        · rw [k4 j c, g4 j c, g3 67 (by decide) (by decide)]; exact t4 j c
        · have := k5 (j - z) (by omega)
          have g := g5 (j - z) (by omega)
          rw [show z + (j - z) = j by omega] at this g
          rw [this, g, byte_ok x (by omega)]
      · rw [fr5 20 (by decide), fr 0 (by decide) (by decide) (by decide) (by decide)]; exact hF
      · exact frameS hS (by simp +decide [fr]) rfl
    · refine ⟨-1000004, I, I, by simp [q, e5, q2], by rw [t2]; simp [q, e5, q2], z, h0⟩
  · exact ⟨-1000002, I, I, by simp [q], by simp [q], z, h0⟩
