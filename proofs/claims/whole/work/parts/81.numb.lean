/-! numbers and signs: the class -/
/-- what num_end does, by a name -/
def numE (I : IT) (v1 v2 v3 v4 : Int32) : Option (Int32 × IT) :=
  if (I 7 4) = v3 then
        (f_X4_refuseIf 1 1 v3 I).bind fun r104 =>
        if (4 : Int32) < ((r104 7 4) - v3) then
          (f_X4_refuseIf 1 2 v3 r104).bind fun r135 =>
          some (v4, r135)
        else
          (f_X9_isWithin v4 v1 v2).bind fun r122 =>
          if r122 = 0 then
            (f_X4_refuseIf 1 2 v3 r104).bind fun r135 =>
            some (v4, r135)
          else
            (f_X4_refuseIf 0 2 v3 r104).bind fun r135 =>
            some (v4, r135)
      else
        (f_X4_refuseIf 0 1 v3 I).bind fun r104 =>
        if (4 : Int32) < ((r104 7 4) - v3) then
          (f_X4_refuseIf 1 2 v3 r104).bind fun r135 =>
          some (v4, r135)
        else
          (f_X9_isWithin v4 v1 v2).bind fun r122 =>
          if r122 = 0 then
            (f_X4_refuseIf 1 2 v3 r104).bind fun r135 =>
            some (v4, r135)
          else
            (f_X4_refuseIf 0 2 v3 r104).bind fun r135 =>
            some (v4, r135)
theorem figX {T : Nat → Nat} {i : Nat} (hT : T i < 256) : f_X4_isFigure (nI (T i)) = some (if isD T i = true then 1 else 0) := by
  unfold f_X4_isFigure
  rw [isW, Option.bind_some]
  have e : ((48 : Int32) ≤ nI (T i) ∧ nI (T i) ≤ 57) ↔ (48 ≤ T i ∧ T i ≤ 57) := by
    rw [show (48 : Int32) = nI 48 from rfl, show (57 : Int32) = nI 57 from rfl, nI_leI (by omega) (by omega), nI_leI (by omega) (by omega)]
  by_cases q : 48 ≤ T i ∧ T i ≤ 57
  · rw [show b2 ((48 : Int32) ≤ nI (T i) ∧ nI (T i) ≤ 57) = 1 from if_pos (e.mpr q), if_pos (show isD T i = true from decide_eq_true q), if_pos (by decide)]
  · rw [show b2 ((48 : Int32) ≤ nI (T i) ∧ nI (T i) ≤ 57) = 0 from if_neg (fun w => q (e.mp w)), if_pos (show (0 : Int32) = 0 ∨ (0 : Int32) = 1 from Or.inl rfl), if_neg (show ¬ isD T i = true by unfold isD; rw [decide_eq_true_eq]; exact q)]
theorem num12 {T : Nat → Nat} {z st : Nat} {v1 v2 : Int32} : ∀ d n i I, CT I T z → I 7 4 = nI i → st ≤ i → z - i = d → i < 2 ^ 20 → d < n → (∀ j, st ≤ j → j < i → isD T j = true) → ∃ I', f_X4_readNumber_12 n v1 v2 (nI st) (nI (dV T st (min (i - st) 4))) I = numE I' v1 v2 (nI st) (nI (dV T st (min (sk (isD T) d i - st) 4))) ∧ I' 7 4 = nI (sk (isD T) d i) ∧ FP I I' := by
  intro d
  induction d with
  | zero =>
    intro n i I h hp hs hd hi hn hD
    obtain ⟨n, rfl⟩ : ∃ m, n = m + 1 := ⟨n - 1, by omega⟩
    have hz := h.1
    refine ⟨I, ?_, hp, FP.rf I⟩
    rw [f_X4_readNumber_12, if_pos (show I 1 1 ≤ I 7 4 by rw [h.2.1, hp, nI_leI (by omega) (by omega)]; omega)]
    rfl
  | succ d ih =>
    intro n i I h hp hs hd hi hn hD
    obtain ⟨n, rfl⟩ : ∃ m, n = m + 1 := ⟨n - 1, by omega⟩
    have hz := h.1
    have hT := (h.2.2 i (by omega)).2
    have c0 : ¬ I 1 1 ≤ I 7 4 := by rw [h.2.1, hp, nI_leI (by omega) (by omega)]; omega
    have bx : f_X6_byteAt (I 7 4) I = some (nI (T i)) := by rw [hp, byteX h (by omega), byt_in (by omega)]
    by_cases q : isD T i = true
    · have q' : 48 ≤ T i ∧ T i ≤ 57 := by unfold isD at q; exact of_decide_eq_true q
      obtain ⟨I', a1, a2, a3⟩ := ih n (i + 1) (upI I 7 4 (nI (i + 1))) ((FP.up I _).ct h) upI_s (by omega) (by omega) (by omega) (by omega) (fun j h1 h2 => by
        by_cases e : j = i
        · rw [e]; exact q
        · exact hD j h1 (by omega))
      refine ⟨I', ?_, by rw [sk, if_pos q]; exact a2, (FP.up I _).tr a3⟩
      rw [sk, if_pos q, ← a1, f_X4_readNumber_12, if_neg c0, bx, Option.bind_some, figX hT, if_pos q, Option.bind_some, if_neg (by decide), hp, pk_sub hs, nI_1]
      have hv : dV T st (min (i - st) 4) ≤ 9999 := dV4 (by omega) (fun j hj => by
        have := hD (st + j) (by omega) (by omega)
        unfold isD at this
        exact of_decide_eq_true this)
      by_cases q4 : 4 ≤ i - st
      · rw [if_pos (by rw [show (4 : Int32) = nI 4 from rfl, nI_leI (by omega) (by omega)]; exact q4), show min (i + 1 - st) 4 = min (i - st) 4 by omega]
      · rw [if_neg (by rw [show (4 : Int32) = nI 4 from rfl, nI_leI (by omega) (by omega)]; exact q4), Option.bind_some, show min (i + 1 - st) 4 = min (i - st) 4 + 1 by omega, dV, show st + min (i - st) 4 = i by omega, show (10 : Int32) = nI 10 from rfl, pk_mul, nI_add, show (48 : Int32) = nI 48 from rfl, pk_sub (by omega), show dV T st (min (i - st) 4) * 10 + T i - 48 = dV T st (min (i - st) 4) * 10 + (T i - 48) by omega]
    · refine ⟨I, ?_, by rw [sk, if_neg q]; exact hp, FP.rf I⟩
      rw [sk, if_neg q, f_X4_readNumber_12, if_neg c0, bx, Option.bind_some, figX hT, if_neg q, Option.bind_some, if_pos (show (0 : Int32) = 0 from rfl)]
      rfl
/-- the class's number -/
theorem rdNum {I : IT} {T : Nat → Nat} {z lo hi i : Nat} (h : CT I T z) (hp : I 7 4 = nI i) (hi' : i < 2 ^ 20) (hlo : lo ≤ 9999) (hhi : hi ≤ 9999) : ∃ I', f_X4_readNumber (nI lo) (nI hi) I = some (nI (dV T (eB T z i) (min (eD T z (eB T z i) - eB T z i) 4)), I') ∧ I' 7 4 = nI (eD T z (eB T z i)) ∧ FR I I' ∧ I' 7 3 = (if I 7 3 = 0 then nI (nF T z lo hi (eB T z i)) else I 7 3) ∧ I' 7 2 = (if I 7 3 = 0 ∧ nF T z lo hi (eB T z i) ≠ 0 then nI (eB T z i) else I 7 2) := by
  have hz := h.1
  obtain ⟨I1, a1, a2, a3⟩ := skipB h hp hi'
  have b1 := sk_bd (isB T) (z - i) i
  have e1 : eB T z i = sk (isB T) (z - i) i := rfl
  have b3 := sk_bd (isD T) (z - eB T z i) (eB T z i)
  have e3 : eD T z (eB T z i) = sk (isD T) (z - eB T z i) (eB T z i) := rfl
  obtain ⟨I2, c1, c2, c3⟩ := num12 (v1 := nI lo) (v2 := nI hi) (st := eB T z i) (z - eB T z i) FU (eB T z i) I1 (a3.ct h) a2 (Nat.le_refl _) rfl (by omega) (by unfold FU; omega) (fun j h1 h2 => by omega)
  have dg : ∀ j, j < min (eD T z (eB T z i) - eB T z i) 4 → 48 ≤ T (eB T z i + j) ∧ T (eB T z i + j) ≤ 57 := fun j hj => by
    have := sk_in (isD T) (z - eB T z i) (eB T z i) (eB T z i + j) (by omega) (by omega)
    unfold isD at this
    exact of_decide_eq_true this
  obtain ⟨I3, d1, d2, d3, d4, d5⟩ := num_end (I := I2) (T := T) (z := z) (st := eB T z i) (en := eD T z (eB T z i)) (v := dV T (eB T z i) (min (eD T z (eB T z i) - eB T z i) 4)) hlo hhi hz (by omega) (by omega) (dV4 (by omega) dg) c2
  have f73 : I2 7 3 = I 7 3 := by rw [c3.2 3 (by decide), a3.2 3 (by decide)]
  have f72 : I2 7 2 = I 7 2 := by rw [c3.2 2 (by decide), a3.2 2 (by decide)]
  refine ⟨I3, ?_, d2, (a3.fr.tr c3.fr).tr d3, by rw [d4, f73]; rfl, by rw [d5, f73, f72]; rfl⟩
  unfold f_X4_readNumber
  rw [a1, Option.bind_some, a2]
  rw [Nat.sub_self, show min 0 4 = 0 from rfl, show nI (dV T (eB T z i) 0) = 0 from rfl] at c1
  rw [c1]
  exact d1
/-- a sign's fault -/
def sF (T : Nat → Nat) (z c i : Nat) : Nat := if i < z ∧ T i = c then 0 else 1
/-- the class's sign -/
theorem rdSgn {I : IT} {T : Nat → Nat} {z c i : Nat} (h : CT I T z) (hp : I 7 4 = nI i) (hi' : i < 2 ^ 20) (hc : c < 256) : ∃ I', f_X4_readSign (nI c) I = some I' ∧ I' 7 4 = nI (eB T z i + 1) ∧ FR I I' ∧ I' 7 3 = (if I 7 3 = 0 then nI (sF T z c (eB T z i)) else I 7 3) ∧ I' 7 2 = (if I 7 3 = 0 ∧ sF T z c (eB T z i) ≠ 0 then nI (eB T z i) else I 7 2) := by
  have hz := h.1
  obtain ⟨I1, a1, a2, a3⟩ := skipB h hp hi'
  have b1 := sk_bd (isB T) (z - i) i
  have e1 : eB T z i = sk (isB T) (z - i) i := rfl
  have ht := a3.ct h
  have bx := byteX ht (show eB T z i < 2 ^ 30 by omega)
  have e2 : byt T z (eB T z i) = nI c ↔ (eB T z i < z ∧ T (eB T z i) = c) := by
    unfold byt
    by_cases q : eB T z i < z
    · have := (ht.2.2 _ q).2
      rw [if_pos q, nI_eq (by omega) (by omega)]
      exact ⟨fun w => ⟨q, w⟩, fun w => w.2⟩
    · rw [if_neg q]
      exact ⟨fun w => absurd w (nI_m1 (by omega)), fun w => absurd w.1 q⟩
  obtain ⟨I2, c1, c2, c3, c4, c5⟩ := refX I1 (decide (¬ (eB T z i < z ∧ T (eB T z i) = c))) 1 (nI (eB T z i))
  have f73 : I1 7 3 = I 7 3 := a3.2 3 (by decide)
  have f72 : I1 7 2 = I 7 2 := a3.2 2 (by decide)
  have p2 : I2 7 4 = nI (eB T z i) := by rw [c5 4 (by decide) (by decide), a2]
  refine ⟨upI I2 7 4 (nI (eB T z i + 1)), ?_, upI_s, a3.fr.tr ⟨fun c hc => by rw [upI_o hc, c4 c hc], fun j h2 h3 h4 => by rw [upI_j h4, c5 j h2 h3]⟩, ?_, ?_⟩
  · unfold f_X4_readSign
    rw [a1, Option.bind_some, a2, bx, Option.bind_some]
    by_cases q : eB T z i < z ∧ T (eB T z i) = c
    · rw [if_neg (by rw [decide_eq_true_eq]; exact fun w => w q)] at c1
      rw [if_pos (e2.mpr q), c1, Option.bind_some, p2, nI_1]
    · rw [if_pos (decide_eq_true q)] at c1
      rw [if_neg (fun w => q (e2.mp w)), c1, Option.bind_some, p2, nI_1]
  · rw [upI_j (by decide), c2, f73]
    unfold sF
    by_cases q0 : I 7 3 = 0 <;> by_cases q : eB T z i < z ∧ T (eB T z i) = c <;> simp [q0, q] <;> rfl
  · rw [upI_j (by decide), c3, f73, f72]
    unfold sF
    by_cases q0 : I 7 3 = 0 <;> by_cases q : eB T z i < z ∧ T (eB T z i) = c <;> simp [q0, q]
