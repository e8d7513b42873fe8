/-! hands: counting bits -/
theorem fa_and (a b : Nat) : nI a &&& nI b = nI (a &&& b) := by
  apply Int32.toBitVec_inj.1
  show BitVec.ofNat 32 a &&& BitVec.ofNat 32 b = BitVec.ofNat 32 (a &&& b)
  apply BitVec.eq_of_getLsbD_eq
  intro i hi
  simp [hi]
theorem fa_or (a b : Nat) : nI a ||| nI b = nI (a ||| b) := by
  apply Int32.toBitVec_inj.1
  show BitVec.ofNat 32 a ||| BitVec.ofNat 32 b = BitVec.ofNat 32 (a ||| b)
  apply BitVec.eq_of_getLsbD_eq
  intro i hi
  simp [hi]
theorem nx_xor (a b : Nat) : nI a ^^^ nI b = nI (a ^^^ b) := by
  apply Int32.toBitVec_inj.1
  show BitVec.ofNat 32 a ^^^ BitVec.ofNat 32 b = BitVec.ofNat 32 (a ^^^ b)
  apply BitVec.eq_of_getLsbD_eq
  intro i hi
  simp [hi]
theorem s_l : ∀ n, n < 32 → ((nI n &&& 31).toBitVec.smod 32).toNat = n := by decide +kernel
theorem s_u : ∀ n, n < 32 → (((nI n).toUInt32 &&& Int32.toUInt32 31).toBitVec % 32).toNat = n := by decide +kernel
theorem popcM_go (v : Int32) : ∀ (d n i : Nat), i + d = 14 → d < n → f_X10_bits_4 n v (popc v i) (nI i) = some (popc v 14) := by
  intro d
  induction d with
  | zero =>
    intro n i hi hn
    obtain ⟨n, rfl⟩ : ∃ m, n = m + 1 := ⟨n - 1, by omega⟩
    obtain rfl : i = 14 := by omega
    rw [f_X10_bits_4, if_pos (by decide)]
  | succ d ih =>
    intro n i hi hn
    obtain ⟨n, rfl⟩ : ∃ m, n = m + 1 := ⟨n - 1, by omega⟩
    rw [f_X10_bits_4, if_neg (by rw [show (14 : Int32) = nI 14 from rfl, nI_leI (by omega) (by omega)]; omega), nI_1]
    exact ih n (i + 1) (by omega) (by omega)
theorem popcM (v : Int32) : f_X10_bits v = some (popc v 14) := by
  unfold f_X10_bits
  have := popcM_go v 14 FU 0 (by omega) (by unfold FU; omega)
  simpa [popc, nI_0] using this
/-- the same, of a Nat -/
def pN (n : Nat) : Nat → Nat
  | 0 => 0
  | i + 1 => pN n i + n / 2 ^ i % 2
theorem popcN {n : Nat} (hn : n < 2 ^ 31) : ∀ i, i ≤ 31 → popc (nI n) i = nI (pN n i) := by
  intro i
  induction i with
  | zero => intro _; rfl
  | succ i ih =>
    intro hi
    rw [popc, ih (by omega), pk_shrN hn _ i (s_l i (by omega)), pk_andN (n := n / 2 ^ i) (Nat.lt_of_le_of_lt (Nat.div_le_self _ _) (by omega)) 1 (by decide), nI_add]
    rfl
/-- Integer.bitCount, of a small Nat -/
def bcN (n : Nat) : Nat :=
  let x := ((n - (n / 2 &&& 1431655765)) &&& 858993459) + ((n - (n / 2 &&& 1431655765)) / 4 &&& 858993459)
  let y := ((x + x / 16) &&& 252645135) + ((x + x / 16) &&& 252645135) / 256
  (y + y / 65536) &&& 63
set_option maxRecDepth 100000 in
theorem bcN_all : ∀ a, a < 128 → ∀ b, b < 128 → bcN (128 * a + b) = pN (128 * a + b) 14 := by decide +kernel
theorem ush {n : Nat} (hn : n < 2 ^ 32) (k d : Nat) (hk : k < 32) (hd : 2 ^ k = d) : ((nI n).toUInt32 >>> ((nI k).toUInt32 &&& Int32.toUInt32 31)).toInt32 = nI (n / d) := by
  subst hd; exact pk_ushrN hn _ k (s_u k hk)
theorem popcX {n : Nat} (hn : n < 16384) : f_J6_bitCount_0f7a4 (nI n) = some (nI (pN n 14)) := by
  have e1 : n / 2 &&& 1431655765 ≤ n := Nat.le_trans Nat.and_le_left (Nat.div_le_self _ _)
  have e2 : bcN n = pN n 14 := by
    have := bcN_all (n / 128) (by omega) (n % 128) (by omega)
    rwa [show 128 * (n / 128) + n % 128 = n by omega] at this
  rw [← e2]
  unfold f_J6_bitCount_0f7a4 bcN
  rw [show (1 : Int32) = nI 1 from rfl, show (2 : Int32) = nI 2 from rfl, show (4 : Int32) = nI 4 from rfl, show (8 : Int32) = nI 8 from rfl, show (16 : Int32) = nI 16 from rfl, show (1431655765 : Int32) = nI 1431655765 from rfl, show (858993459 : Int32) = nI 858993459 from rfl, show (252645135 : Int32) = nI 252645135 from rfl, show (63 : Int32) = nI 63 from rfl]
  rw [ush (by omega) 1 2 (by omega) rfl, fa_and, pk_sub e1, ush (n := n - (n / 2 &&& 1431655765)) (by omega) 2 4 (by omega) rfl, fa_and, fa_and, nI_add]
  generalize hx : ((n - (n / 2 &&& 1431655765)) &&& 858993459) + ((n - (n / 2 &&& 1431655765)) / 4 &&& 858993459) = x
  have hxb : x < 40000 := by
    have a1 : (n - (n / 2 &&& 1431655765)) &&& 858993459 ≤ n := Nat.le_trans Nat.and_le_left (Nat.sub_le _ _)
    have a2 : (n - (n / 2 &&& 1431655765)) / 4 &&& 858993459 ≤ n := Nat.le_trans Nat.and_le_left (Nat.le_trans (Nat.div_le_self _ _) (Nat.sub_le _ _))
    omega
  have a3 : (x + x / 16) &&& 252645135 ≤ x + x / 16 := Nat.and_le_left
  simp only [Option.bind_some]
  rw [ush (n := x) (by omega) 4 16 (by omega) rfl, nI_add, fa_and, ush (n := (x + x / 16) &&& 252645135) (by omega) 8 256 (by omega) rfl, nI_add]
  generalize hy : ((x + x / 16) &&& 252645135) + ((x + x / 16) &&& 252645135) / 256 = y
  rw [ush (n := y) (by omega) 16 65536 (by omega) rfl, nI_add, fa_and]
