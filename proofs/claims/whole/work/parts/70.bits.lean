/-! rows of bits: bit i of a row of longs -/
def wf_b (x : Int64) (i : Nat) : Bool := x.toBitVec.getLsbD i
theorem wf_or (x y : Int64) (i : Nat) : wf_b (x ||| y) i = (wf_b x i || wf_b y i) := by
  unfold wf_b
  rw [Int64.toBitVec_or, BitVec.getLsbD_or]
theorem wf_zero (i : Nat) : wf_b 0 i = false := by
  unfold wf_b
  show (0#64).getLsbD i = false
  simp
theorem wf_amt : ∀ k, k < 64 → (((nI k).toInt64 &&& 63).toBitVec.smod 64).toNat = k := by decide +kernel
theorem wf_amu : ∀ k, k < 64 → ((((nI k).toInt64.toUInt64 &&& Int64.toUInt64 63).toBitVec) % 64).toNat = k := by decide +kernel
theorem wf_shl (x : Int64) {k : Nat} (hk : k < 64) (i : Nat) : wf_b (x <<< ((nI k).toInt64 &&& 63)) i = (decide (i < 64) && decide (k ≤ i) && wf_b x (i - k)) := by
  unfold wf_b
  show (x.toBitVec <<< (((nI k).toInt64 &&& 63).toBitVec.smod 64)).getLsbD i = _
  rw [BitVec.getLsbD_shiftLeft', wf_amt k hk, show (!decide (i < k)) = decide (k ≤ i) from by rw [← decide_not]; exact decide_eq_decide.mpr Nat.not_lt]
theorem wf_ush (x : Int64) {k : Nat} (hk : k < 64) (i : Nat) : wf_b ((x.toUInt64 >>> ((nI k).toInt64.toUInt64 &&& Int64.toUInt64 63)).toInt64) i = wf_b x (k + i) := by
  unfold wf_b
  show (x.toBitVec >>> ((((nI k).toInt64.toUInt64 &&& Int64.toUInt64 63).toBitVec) % 64)).getLsbD i = _
  rw [BitVec.ushiftRight_eq', BitVec.getLsbD_ushiftRight, wf_amu k hk]
theorem wf_one {y : Int64} : lg_cmp (y &&& 1) 1 = 0 ↔ wf_b y 0 = true := by
  rw [lgc_eq]
  unfold wf_b
  rw [← Int64.toBitVec_inj, Int64.toBitVec_and]
  show y.toBitVec &&& 1#64 = 1#64 ↔ _
  constructor
  · intro h
    have := congrArg (fun z => BitVec.getLsbD z 0) h
    simpa using this
  · intro h
    apply BitVec.eq_of_getLsbD_eq
    intro i hi
    rw [BitVec.getLsbD_and, BitVec.getLsbD_one]
    by_cases q : i = 0
    · subst q; simp [h]
    · simp [q]
theorem wf_ssh (x : Int64) {k : Nat} (hk : k < 64) : wf_b (x >>> ((nI k).toInt64 &&& 63)) 0 = wf_b x k := by
  unfold wf_b
  show (x.toBitVec.sshiftRight' (((nI k).toInt64 &&& 63).toBitVec.smod 64)).getLsbD 0 = _
  show (x.toBitVec.sshiftRight (((nI k).toInt64 &&& 63).toBitVec.smod 64).toNat).getLsbD 0 = _
  rw [BitVec.getLsbD_sshiftRight, wf_amt k hk, Nat.add_zero, if_pos hk]
  simp
/-- bit i of a row of longs -/
def wf_j (f : Nat → Int64) (i : Nat) : Bool := wf_b (f (i / 64)) (i % 64)
theorem wf_hi {x : Int64} {i : Nat} (h : 64 ≤ i) : wf_b x i = false := BitVec.getLsbD_of_ge _ _ h
/-- one word of the class's move: words to and i, and the next one -/
theorem wf_step1 {f : Nat → Int64} {b w q : Nat} (hb : b < 64) (x : Int64) : wf_j (vp_updL f w (f w ||| (x <<< ((nI b).toInt64 &&& 63)))) q = (wf_j f q || (decide (64 * w + b ≤ q) && decide (q < 64 * w + 64) && wf_b x (q - (64 * w + b)))) := by
  unfold wf_j
  by_cases e : q / 64 = w
  · rw [e, pk_uLs, wf_or, wf_shl x hb]
    congr 1
    rw [show decide (q % 64 < 64) = true from decide_eq_true (by omega), show decide (q < 64 * w + 64) = true from decide_eq_true (by omega), Bool.true_and, Bool.and_true, show decide (b ≤ q % 64) = decide (64 * w + b ≤ q) from decide_eq_decide.mpr (by omega), show q % 64 - b = q - (64 * w + b) from by omega]
  · rw [pk_uLn e]
    by_cases g : 64 * w + b ≤ q
    · rw [show decide (q < 64 * w + 64) = false from decide_eq_false (by omega)]
      simp
    · rw [show decide (64 * w + b ≤ q) = false from decide_eq_false g]
      simp
theorem wf_step2 {f : Nat → Int64} {b w q : Nat} (h0 : 0 < b) (hb : b < 64) (x : Int64) : wf_j (vp_updL f w (f w ||| (x.toUInt64 >>> ((nI (64 - b)).toInt64.toUInt64 &&& Int64.toUInt64 63)).toInt64)) q = (wf_j f q || (decide (64 * w ≤ q) && decide (q < 64 * w + b) && wf_b x (q + 64 - (64 * w + b)))) := by
  unfold wf_j
  by_cases e : q / 64 = w
  · rw [e, pk_uLs, wf_or, wf_ush x (show 64 - b < 64 by omega)]
    congr 1
    rw [show decide (64 * w ≤ q) = true from decide_eq_true (by omega), Bool.true_and]
    by_cases g : q < 64 * w + b
    · rw [decide_eq_true g, Bool.true_and, show 64 - b + q % 64 = q + 64 - (64 * w + b) from by omega]
    · rw [decide_eq_false g, wf_hi (by omega), Bool.false_and]
  · rw [pk_uLn e]
    by_cases g : 64 * w ≤ q
    · rw [show decide (q < 64 * w + b) = false from decide_eq_false (by omega)]
      simp
    · rw [show decide (64 * w ≤ q) = false from decide_eq_false g]
      simp
