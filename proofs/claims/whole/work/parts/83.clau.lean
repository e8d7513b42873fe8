/-! a clause: the first fault (which, where) on both sides -/
def c2 (x y : Nat × Nat) : Nat × Nat := if x.1 = 0 then y else x
theorem c2_0 {x y : Nat × Nat} (h : x.1 = 0) : c2 x y = y := if_pos h
theorem c2_n {x y : Nat × Nat} (h : ¬ x.1 = 0) : c2 x y = x := if_neg h
theorem c2_z {x y : Nat × Nat} : (c2 x y).1 = 0 ↔ x.1 = 0 ∧ y.1 = 0 := by
  unfold c2
  by_cases q : x.1 = 0
  · rw [if_pos q]; exact ⟨fun w => ⟨q, w⟩, fun w => w.2⟩
  · rw [if_neg q]; exact ⟨fun w => absurd w q, fun w => absurd w.1 q⟩
theorem c2_as (x y w : Nat × Nat) : c2 (c2 x y) w = c2 x (c2 y w) := by
  by_cases q : x.1 = 0
  · rw [c2_0 q, c2_0 q]
  · rw [c2_n q, c2_n q, c2_n q]
/-- the class reads at i; x: its first fault -/
def CS (I : IT) (T : Nat → Nat) (z i n : Nat) (x : Nat × Nat) : Prop := CT I T z ∧ I 7 4 = nI i ∧ i ≤ 500 + n ∧ I 7 3 = nI x.1 ∧ (x.1 ≠ 0 → I 7 2 = nI x.2) ∧ x.1 ≤ 4
theorem nF_le (T : Nat → Nat) (z lo hi i : Nat) : nF T z lo hi i ≤ 2 := by unfold nF; split <;> (try split) <;> omega
theorem sF_le (T : Nat → Nat) (z c i : Nat) : sF T z c i ≤ 1 := by unfold sF; split <;> omega
theorem eB_bd (T : Nat → Nat) (z i : Nat) : i ≤ eB T z i ∧ (eB T z i ≤ i ∨ eB T z i ≤ z) := by
  have := sk_bd (isB T) (z - i) i
  have e : eB T z i = sk (isB T) (z - i) i := rfl
  omega
theorem eD_bd (T : Nat → Nat) (z i : Nat) : i ≤ eD T z i ∧ (eD T z i ≤ i ∨ eD T z i ≤ z) := by
  have := sk_bd (isD T) (z - i) i
  have e : eD T z i = sk (isD T) (z - i) i := rfl
  omega
theorem eW_bd (T : Nat → Nat) (z i : Nat) : i ≤ eW T z i ∧ (eW T z i ≤ i ∨ eW T z i ≤ z) := by
  have := sk_bd (isL T) (z - i) i
  have e : eW T z i = sk (isL T) (z - i) i := rfl
  omega
/-- the value of the number behind i -/
def nVal (T : Nat → Nat) (z i : Nat) : Nat := dV T (eB T z i) (min (eD T z (eB T z i) - eB T z i) 4)
/-- the end of the number behind i -/
def nEnd (T : Nat → Nat) (z i : Nat) : Nat := eD T z (eB T z i)
def nFlt (T : Nat → Nat) (z lo hi i : Nat) : Nat × Nat := (nF T z lo hi (eB T z i), eB T z i)
def sFlt (T : Nat → Nat) (z c i : Nat) : Nat × Nat := (sF T z c (eB T z i), eB T z i)
theorem nEnd_bd (T : Nat → Nat) (z i : Nat) : i ≤ nEnd T z i ∧ (nEnd T z i ≤ i ∨ nEnd T z i ≤ z) := by
  have h1 := eB_bd T z i
  have h2 := eD_bd T z (eB T z i)
  unfold nEnd
  omega
theorem nVal_ok {T : Nat → Nat} {z lo hi i : Nat} (h : (nFlt T z lo hi i).1 = 0) : lo ≤ nVal T z i ∧ nVal T z i ≤ hi := by
  unfold nFlt nF at h
  dsimp only at h
  unfold nVal
  split at h
  · omega
  · split at h
    · omega
    · rename_i q1 q2
      exact Classical.byContradiction fun w => q2 (Or.inr w)
theorem csNum {I : IT} {T : Nat → Nat} {z i n : Nat} {x : Nat × Nat} (h : CS I T z i n x) (hn : n ≤ 100) {lo hi : Nat} (hlo : lo ≤ 9999) (hhi : hi ≤ 9999) : ∃ I', f_X4_readNumber (nI lo) (nI hi) I = some (nI (nVal T z i), I') ∧ FR I I' ∧ CS I' T z (nEnd T z i) n (c2 x (nFlt T z lo hi i)) := by
  obtain ⟨h1, h2, h3, h4, h5, h6⟩ := h
  have hz := h1.1
  obtain ⟨I', a1, a2, a3, a4, a5⟩ := rdNum h1 h2 (by omega) hlo hhi
  have hb := nEnd_bd T z i
  refine ⟨I', a1, a3, a3.ct h1, a2, by omega, ?_, ?_, ?_⟩
  · rw [a4, h4]
    by_cases q : x.1 = 0
    · rw [c2_0 q, q, if_pos nI_0]; rfl
    · rw [c2_n q, if_neg (nI_ne0 (by omega) (by omega))]
  · rw [a5, h4]
    by_cases q : x.1 = 0
    · rw [c2_0 q, q]
      intro w
      rw [if_pos ⟨nI_0, w⟩]
      rfl
    · rw [c2_n q]
      intro w
      rw [if_neg (fun q' => nI_ne0 (show 0 < x.1 by omega) (by omega) q'.1)]
      exact h5 w
  · by_cases q : x.1 = 0
    · rw [c2_0 q]
      have := nF_le T z lo hi (eB T z i)
      show nF T z lo hi (eB T z i) ≤ 4
      omega
    · rw [c2_n q]; exact h6
theorem csSgn {I : IT} {T : Nat → Nat} {z i n : Nat} {x : Nat × Nat} (h : CS I T z i n x) (hn : n ≤ 100) {c : Nat} (hc : c < 256) : ∃ I', f_X4_readSign (nI c) I = some I' ∧ FR I I' ∧ CS I' T z (eB T z i + 1) (n + 1) (c2 x (sFlt T z c i)) := by
  obtain ⟨h1, h2, h3, h4, h5, h6⟩ := h
  have hz := h1.1
  obtain ⟨I', a1, a2, a3, a4, a5⟩ := rdSgn h1 h2 (by omega) hc
  have hb := eB_bd T z i
  refine ⟨I', a1, a3, a3.ct h1, a2, by omega, ?_, ?_, ?_⟩
  · rw [a4, h4]
    by_cases q : x.1 = 0
    · rw [c2_0 q, q, if_pos nI_0]; rfl
    · rw [c2_n q, if_neg (nI_ne0 (by omega) (by omega))]
  · rw [a5, h4]
    by_cases q : x.1 = 0
    · rw [c2_0 q, q]
      intro w
      rw [if_pos ⟨nI_0, w⟩]
      rfl
    · rw [c2_n q]
      intro w
      rw [if_neg (fun q' => nI_ne0 (show 0 < x.1 by omega) (by omega) q'.1)]
      exact h5 w
  · by_cases q : x.1 = 0
    · rw [c2_0 q]
      have := sF_le T z c (eB T z i)
      show sF T z c (eB T z i) ≤ 4
      omega
    · rw [c2_n q]; exact h6
theorem csRef {I : IT} {T : Nat → Nat} {z i n : Nat} {x : Nat × Nat} (h : CS I T z i n x) (b : Bool) {k at0 : Nat} (hk : 0 < k ∧ k ≤ 4) : ∃ I', f_X4_refuseIf (if b = true then 1 else 0) (nI k) (nI at0) I = some I' ∧ FR I I' ∧ CS I' T z i n (c2 x (if b = true then k else 0, at0)) := by
  obtain ⟨h1, h2, h3, h4, h5, h6⟩ := h
  obtain ⟨I', a1, a2, a3, a4, a5⟩ := refX I b (nI k) (nI at0)
  have fr : FR I I' := ⟨a4, fun j q2 q3 _ => a5 j q2 q3⟩
  refine ⟨I', a1, fr, fr.ct h1, by rw [a5 4 (by decide) (by decide), h2], h3, ?_, ?_, ?_⟩
  · rw [a2, h4]
    by_cases q : x.1 = 0
    · rw [c2_0 q, q, nI_0]
      cases b <;> simp <;> rfl
    · rw [c2_n q, if_neg (fun q' => nI_ne0 (show 0 < x.1 by omega) (by omega) q'.2)]
  · rw [a3, h4]
    by_cases q : x.1 = 0
    · rw [c2_0 q, q, nI_0]
      cases b with
      | false => intro w; exact absurd rfl w
      | true => intro _; rw [if_pos ⟨rfl, rfl⟩]
    · rw [c2_n q]
      intro w
      rw [if_neg (fun q' => nI_ne0 (show 0 < x.1 by omega) (by omega) q'.2)]
      exact h5 w
  · by_cases q : x.1 = 0
    · rw [c2_0 q]
      cases b <;> simp <;> omega
    · rw [c2_n q]; exact h6
theorem CS.zf {I : IT} {T : Nat → Nat} {z i n : Nat} {x : Nat × Nat} (h : CS I T z i n x) : I 7 3 = 0 ↔ x.1 = 0 := by
  rw [h.2.2.2.1]
  have := h.2.2.2.2.2
  constructor
  · intro w
    refine Classical.byContradiction fun q => nI_ne0 (show 0 < x.1 by omega) (by omega) w
  · intro w; rw [w]; rfl
/-- persons are added behind the last -/
theorem addP {I : IT} {s b k : Nat} (h : I 8 0 = nI s ∧ I 8 1 = nI b ∧ I 8 2 = nI k) (hN : s + b + k < 14) (v w : Int32) : f_X4_addPerson v w I = some (upI (upI I 9 (s + b + k) v) 10 (s + b + k) w) := by
  unfold f_X4_addPerson f_X2_persons_8
  rw [h.1, h.2.1, h.2.2, nI_add, nI_add, Option.bind_some, if_neg (by rw [show (14 : Int32) = nI 14 from rfl, nI_leI (by omega) (by omega)]; omega), if_pos (inb_nI hN (by omega)), if_pos (inb_nI hN (by omega)), nI_clamp (by omega)]
/-- a clause of two numbers and a sign: where it ends, its fault -/
def q2E (T : Nat → Nat) (z i : Nat) : Nat := eB T z (nEnd T z (nEnd T z i)) + 1
def q2F (T : Nat → Nat) (z lo hi lo2 hi2 i : Nat) : Nat × Nat := c2 (nFlt T z lo hi i) (c2 (nFlt T z lo2 hi2 (nEnd T z i)) (sFlt T z 59 (nEnd T z (nEnd T z i))))
/-- the class: two numbers and a sign -/
theorem two_cls {I : IT} {T : Nat → Nat} {z i n : Nat} {x : Nat × Nat} (h : CS I T z i n x) (hn : n ≤ 50) {lo hi lo2 hi2 : Nat} (h1 : lo ≤ 9999) (h2 : hi ≤ 9999) (h3 : lo2 ≤ 9999) (h4 : hi2 ≤ 9999) : ∃ Ia Ib Ic, f_X4_readNumber (nI lo) (nI hi) I = some (nI (nVal T z i), Ia) ∧ f_X4_readNumber (nI lo2) (nI hi2) Ia = some (nI (nVal T z (nEnd T z i)), Ib) ∧ f_X4_readSign 59 Ib = some Ic ∧ FR I Ic ∧ CS Ic T z (q2E T z i) (n + 1) (c2 x (q2F T z lo hi lo2 hi2 i)) := by
  obtain ⟨Ia, a1, a2, a3⟩ := csNum h (by omega) h1 h2
  obtain ⟨Ib, b1, b2, b3⟩ := csNum a3 (by omega) h3 h4
  obtain ⟨Ic, d1, d2, d3⟩ := csSgn b3 (by omega) (c := 59) (by omega)
  refine ⟨Ia, Ib, Ic, a1, b1, d1, (a2.tr b2).tr d2, ?_⟩
  rw [c2_as, c2_as] at d3
  exact d3
/-- the reference reads at i -/
def MS (I : IT) (T : Nat → Nat) (z i : Nat) : Prop := MTx I T z ∧ I 55 21 = nI i
theorem msNum {I : IT} {T : Nat → Nat} {z i : Nat} (h : MS I T z i) (hi' : i ≤ 700) {lo hi : Nat} (hlo : lo ≤ 9999) (hhi : hi ≤ 9999) : ∃ I', f_X10_takeNumber (nI lo) (nI hi) I = some (nI (nFlt T z lo hi i).1, I') ∧ FQ [20, 21, 24, 25] I I' ∧ MTx I' T z ∧ ((nFlt T z lo hi i).1 = 0 → MS I' T z (nEnd T z i) ∧ I' 55 24 = nI (nVal T z i) ∧ I' 55 20 = I 55 20) ∧ ((nFlt T z lo hi i).1 ≠ 0 → I' 55 20 = nI (nFlt T z lo hi i).2) := by
  obtain ⟨I', a1, a2, a3, a4⟩ := tkNum h.1 h.2 (by omega) hlo hhi
  have mt := a2.mt (by decide) h.1
  exact ⟨I', a1, a2, mt, fun q => ⟨⟨mt, (a3 q).1⟩, (a3 q).2⟩, a4⟩
theorem msSgn {I : IT} {T : Nat → Nat} {z i : Nat} (h : MS I T z i) (hi' : i ≤ 700) {c : Nat} (hc : c < 256) : ∃ I', f_X10_here I = some (byt T z (eB T z i), I') ∧ FQ [21] I I' ∧ MS I' T z (eB T z i) ∧ (byt T z (eB T z i) = nI c ↔ (sFlt T z c i).1 = 0) := by
  obtain ⟨I', a1, a2, a3⟩ := hereM h.1 h.2 (by omega)
  have mt := a3.mt (by decide) h.1
  refine ⟨I', a1, a3, ⟨mt, a2⟩, ?_⟩
  unfold sFlt sF byt
  dsimp only
  by_cases q : eB T z i < z
  · have := (mt.2.2 _ q).2
    rw [if_pos q, nI_eq (by omega) (by omega)]
    by_cases q2 : T (eB T z i) = c
    · rw [if_pos ⟨q, q2⟩]; exact ⟨fun _ => rfl, fun _ => q2⟩
    · rw [if_neg (fun w => q2 w.2)]; exact ⟨fun w => absurd w q2, fun w => absurd w (by decide)⟩
  · rw [if_neg q, if_neg (fun w => q w.1)]
    exact ⟨fun w => absurd w (nI_m1 (by omega)), fun w => absurd w (by decide)⟩
