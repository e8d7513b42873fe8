/-! hands: counting bits -/
theorem popcM_go (v : Int32) : ∀ (d n i : Nat), i + d = 14 → d < n → f_X10_bits_4 n v (popc v i) (nI i) = some (popc v 14) := by
  intro d
  induction d with
  | zero =>
    intro n i hi hn
    obtain ⟨n, rfl⟩ : ∃ m, n = m + 1 := ⟨n - 1, by omega⟩
    obtain rfl : i = 14 := by omega
    rw [f_X10_bits_4, if_pos (by decide)]
  | succ d ih =>
    intro n i hi hn
    obtain ⟨n, rfl⟩ : ∃ m, n = m + 1 := ⟨n - 1, by omega⟩
    rw [f_X10_bits_4, if_neg (by rw [show (14 : Int32) = nI 14 from rfl, nI_leI (by omega) (by omega)]; omega), nI_1]
    exact ih n (i + 1) (by omega) (by omega)
theorem popcM (v : Int32) : f_X10_bits v = some (popc v 14) := by
  unfold f_X10_bits
  have := popcM_go v 14 FU 0 (by omega) (by unfold FU; omega)
  simpa [popc, nI_0] using this
set_option maxRecDepth 100000 in
theorem popcX_all : ∀ a, a < 128 → ∀ b, b < 128 → f_J6_bitCount_0f7a4 (nI (128 * a + b)) = some (popc (nI (128 * a + b)) 14) := by decide +kernel
