theorem frameM {I I' : IT} {s b k : Nat} (h : RelM I s b k) (hc : ∀ c ∈ [3, 4, 5, 6, 56, 57, 58, 59, 60], I' c = I c) (h5 : ∀ j ∈ [0, 1, 2, 8, 9], I' 55 j = I 55 j) : RelM I' s b k := by
  simp only [List.mem_cons, List.not_mem_nil, or_false, forall_eq_or_imp, forall_eq] at hc h5
  obtain ⟨e3, e4, e5, e6, e56, e57, e58, e59, e60⟩ := hc
  obtain ⟨f0, f1, f2, f8, f9⟩ := h5
  unfold RelM at *
  rw [e3, e4, e5, e6, e56, e57, e58, e59, e60, f0, f1, f2, f8, f9]
  exact h
theorem frameC {I I' : IT} {N : Nat} (h : RelC I N) (hc : ∀ c ∈ [4, 12, 13, 14, 15, 16, 17, 18, 61, 62, 63, 64, 65, 66], I' c = I c) (h5 : ∀ j ∈ [16, 17], I' 55 j = I 55 j) : RelC I' N := by
  simp only [List.mem_cons, List.not_mem_nil, or_false, forall_eq_or_imp, forall_eq] at hc h5
  obtain ⟨e4, e12, e13, e14, e15, e16, e17, e18, e61, e62, e63, e64, e65, e66⟩ := hc
  obtain ⟨f0, f1⟩ := h5
  unfold RelC at *
  rw [e4, e12, e13, e14, e15, e16, e17, e18, e61, e62, e63, e64, e65, e66, f0, f1]
  exact h
theorem frameK {I I' : IT} {N : Nat} (h : RelK I N) (hc : ∀ c ∈ [4, 20, 21, 22, 23, 24, 25, 26, 27, 28, 29, 30, 31, 32, 33, 34, 86, 87], I' c = I c) : RelK I' N := by
  simp only [List.mem_cons, List.not_mem_nil, or_false, forall_eq_or_imp, forall_eq] at hc
  obtain ⟨e4, e20, e21, e22, e23, e24, e25, e26, e27, e28, e29, e30, e31, e32, e33, e34, e86, e87⟩ := hc
  unfold RelK RelI at *
  simp only [e4, e20, e21, e22, e23, e24, e25, e26, e27, e28, e29, e30, e31, e32, e33, e34, e86, e87]
  exact h
theorem frameW {I I' : IT} {s c : Nat} (h : RelW I s c) (hc : ∀ c ∈ [41, 42, 43, 44, 45, 76, 77, 78, 79], I' c = I c) (h5 : I' 55 40 = I 55 40) : RelW I' s c := by
  simp only [List.mem_cons, List.not_mem_nil, or_false, forall_eq_or_imp, forall_eq] at hc
  obtain ⟨e1, e2, e3, e4, e5, e6, e7, e8, e9⟩ := hc
  unfold RelW at *
  rw [e1, e2, e3, e4, e5, e6, e7, e8, e9, h5]
  exact h
theorem frameB {I I' : IT} {s b c : Nat} (h : RelB I s b c) (hc : ∀ c ∈ [50, 51, 52, 53, 54, 82, 83, 84, 85], I' c = I c) (h5 : I' 55 47 = I 55 47) : RelB I' s b c := by
  simp only [List.mem_cons, List.not_mem_nil, or_false, forall_eq_or_imp, forall_eq] at hc
  obtain ⟨e1, e2, e3, e4, e5, e6, e7, e8, e9⟩ := hc
  unfold RelB at *
  rw [e1, e2, e3, e4, e5, e6, e7, e8, e9, h5]
  exact h
theorem frameT {I I' : IT} {z : Nat} (h : RelT I z) (hc : ∀ c ∈ [1, 2, 67], I' c = I c) (h5 : I' 55 19 = I 55 19) : RelT I' z := by
  simp only [List.mem_cons, List.not_mem_nil, or_false, forall_eq_or_imp, forall_eq] at hc
  obtain ⟨e1, e2, e3⟩ := hc
  unfold RelT at *
  rw [e1, e2, e3, h5]
  exact h
theorem frameS {I I' : IT} {J J' : JT} {s c : Nat} (h : RelS I J s c) (hc : ∀ c ∈ [42, 43, 44, 45, 46], I' c = I c) (hj : J' 47 = J 47) : RelS I' J' s c := by
  simp only [List.mem_cons, List.not_mem_nil, or_false, forall_eq_or_imp, forall_eq] at hc
  obtain ⟨e1, e2, e3, e4, e5⟩ := hc
  unfold RelS at *
  rw [e1, e2, e3, e4, e5, hj]
  exact h
/-- a byte of a long, as the class keeps it, as the reference does -/
def xb (x : Int64) (k : Nat) : Int32 := vp_nar .byte ((((x.toUInt64 >>> ((8 * nI k).toInt64.toUInt64 &&& Int64.toUInt64 63)).toInt64).toInt32).toInt8.toInt32)
def mbt (x : Int64) (k : Nat) : Int32 := ((x >>> ((8 * nI k).toInt64 &&& 63)) &&& 255).toInt32
theorem appX (x : Int64) : ∀ (m n z : Nat) (I : IT), I 1 1 = nI z → z + m ≤ 500 → m < n → ∃ I', f_X6_append_5 n x (nI m - 1) I = some I' ∧ I' 1 1 = nI (z + m) ∧ (∀ c, c ≠ 1 → c ≠ 2 → I' c = I c) ∧ (∀ j, j < z → I' 2 j = I 2 j) ∧ (∀ i, i < m → I' 2 (z + i) = xb x (m - 1 - i)) := by
  intro m
  induction m with
  | zero =>
    intro n z I h1 h2 h3
    obtain ⟨n, rfl⟩ : ∃ q, n = q + 1 := ⟨n - 1, by omega⟩
    exact ⟨I, by rw [f_X6_append_5, if_pos (by decide)], h1, fun _ _ _ => rfl, fun _ _ => rfl, fun i hi => absurd hi (by omega)⟩
  | succ m ih =>
    intro n z I h1 h2 h3
    obtain ⟨n, rfl⟩ : ∃ q, n = q + 1 := ⟨n - 1, by omega⟩
    have c1 : ¬ (500 : Int32) ≤ nI z := by rw [show (500 : Int32) = nI 500 from rfl, nI_leI (by omega) (by omega)]; omega
    obtain ⟨I', g1, g2, g3, g4, g5⟩ := ih n (z + 1) (upI (upI I 2 z (xb x m)) 1 1 (nI (z + 1))) (by simp [upI, upd]) (by omega) (by omega)
    refine ⟨I', ?_, by rw [g2]; congr 1; omega, fun c hc1 hc2 => ?_, fun j hj => ?_, fun i hi => ?_⟩
    · rw [f_X6_append_5, nI_pred, if_neg (nI_pos (by omega)), h1, if_neg c1, if_pos (inb_nI (show z < 500 by omega) (by omega)), nI_clamp (by omega)]
      have e : (upI I 2 z (xb x m) 1 1) + 1 = nI (z + 1) := by simp [upI, h1, nI_1]
      unfold xb at e
      rw [e, ← g1, show nI m + -1 = nI m - 1 by rw [Int32.sub_eq_add_neg]]
      rfl
    · rw [g3 c hc1 hc2]; simp [upI, hc1, hc2]
    · rw [g4 j (by omega)]; simp [upI, upd]; intro q; omega
    · cases i with
      | zero =>
        rw [Nat.add_zero, g4 z (by omega)]
        simp [upI, upd]
      | succ i =>
        rw [show z + (i + 1) = z + 1 + i by omega, g5 i (by omega)]
        congr 1
        omega
theorem feedM (x : Int64) : ∀ (m n z : Nat) (I : IT), I 55 19 = nI z → z + m ≤ 500 → m < n → ∃ I', f_X10_feed_35 n x (nI m - 1) I = some (nI (z + m), I') ∧ I' 55 19 = nI (z + m) ∧ (∀ c, c ≠ 55 → c ≠ 67 → I' c = I c) ∧ (∀ j, j ≠ 19 → I' 55 j = I 55 j) ∧ (∀ j, j < z → I' 67 j = I 67 j) ∧ (∀ i, i < m → I' 67 (z + i) = mbt x (m - 1 - i)) := by
  intro m
  induction m with
  | zero =>
    intro n z I h1 h2 h3
    obtain ⟨n, rfl⟩ : ∃ q, n = q + 1 := ⟨n - 1, by omega⟩
    exact ⟨I, by rw [f_X10_feed_35, if_pos (by decide), h1]; rfl, h1, fun _ _ _ => rfl, fun _ _ => rfl, fun _ _ => rfl, fun i hi => absurd hi (by omega)⟩
  | succ m ih =>
    intro n z I h1 h2 h3
    obtain ⟨n, rfl⟩ : ∃ q, n = q + 1 := ⟨n - 1, by omega⟩
    obtain ⟨I', g1, g2, g3, g3', g4, g5⟩ := ih n (z + 1) (upI (upI I 67 z (mbt x m)) 55 19 (nI (z + 1))) (by simp [upI, upd]) (by omega) (by omega)
    refine ⟨I', ?_, by rw [g2]; congr 1; omega, fun c hc1 hc2 => ?_, fun j hj => ?_, fun j hj => ?_, fun i hi => ?_⟩
    · rw [f_X10_feed_35, nI_pred, if_neg (nI_pos (by omega)), h1, if_pos (inb_nI (show z < 500 by omega) (by omega)), nI_clamp (by omega)]
      have e : (upI I 67 z (mbt x m) 55 19) + 1 = nI (z + 1) := by simp [upI, h1, nI_1]
      unfold mbt at e
      rw [e, show nI m + -1 = nI m - 1 by rw [Int32.sub_eq_add_neg], show z + (m + 1) = z + 1 + m by omega, ← g1]
      rfl
    · rw [g3 c hc1 hc2]; simp [upI, hc1, hc2]
    · rw [g3' j hj]; simp [upI, upd, hj]
    · rw [g4 j (by omega)]; simp [upI, upd]; intro q; omega
    · cases i with
      | zero =>
        rw [Nat.add_zero, g4 z (by omega)]
        simp [upI, upd]
      | succ i =>
        rw [show z + (i + 1) = z + 1 + i by omega, g5 i (by omega)]
        congr 1
        omega
