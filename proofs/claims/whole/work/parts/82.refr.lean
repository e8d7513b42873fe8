/-! reading the text: the reference -/
/-- of the reference's own numbers only these have changed -/
def FQ (js : List Nat) (I I' : IT) : Prop := (∀ c, c ≠ 55 → I' c = I c) ∧ ∀ j, j ∉ js → I' 55 j = I 55 j
theorem FQ.rf (js : List Nat) (I : IT) : FQ js I I := ⟨fun _ _ => rfl, fun _ _ => rfl⟩
theorem FQ.tr {js : List Nat} {I I' I'' : IT} (h : FQ js I I') (h' : FQ js I' I'') : FQ js I I'' := ⟨fun c hc => (h'.1 c hc).trans (h.1 c hc), fun j hj => (h'.2 j hj).trans (h.2 j hj)⟩
theorem FQ.up {js : List Nat} (I : IT) {j : Nat} (v : Int32) (h : j ∈ js) : FQ js I (upI I 55 j v) := ⟨fun _ hc => upI_o hc, fun k hk => upI_j (fun e => hk (e ▸ h))⟩
theorem FQ.mo {js ks : List Nat} {I I' : IT} (h : FQ js I I') (hs : ∀ j, j ∈ js → j ∈ ks) : FQ ks I I' := ⟨h.1, fun j hj => h.2 j (fun q => hj (hs j q))⟩
theorem MTx.fr {I I' : IT} {T : Nat → Nat} {z : Nat} (h : MTx I T z) (h1 : I' 55 19 = I 55 19) (h2 : I' 67 = I 67) : MTx I' T z := by
  unfold MTx; rw [h1, h2]; exact h
theorem FQ.mt {js : List Nat} {I I' : IT} (h : FQ js I I') (hj : 19 ∉ js) {T : Nat → Nat} {z : Nat} (hc : MTx I T z) : MTx I' T z := hc.fr (h.2 19 hj) (h.1 67 (by decide))
theorem here0 {T : Nat → Nat} {z : Nat} : ∀ d n i I, MTx I T z → I 55 21 = nI i → z - i = d → i < 2 ^ 20 → d < n → ∃ I', f_X10_here_0 n I = some (byt T z (sk (isB T) d i), I') ∧ I' 55 21 = nI (sk (isB T) d i) ∧ FQ [21] I I' := by
  intro d
  induction d with
  | zero =>
    intro n i I h hp hd hi hn
    obtain ⟨n, rfl⟩ : ∃ m, n = m + 1 := ⟨n - 1, by omega⟩
    have hz := h.1
    have c0 : I 55 19 ≤ I 55 21 := by rw [h.2.1, hp, nI_leI (by omega) (by omega)]; omega
    rw [f_X10_here_0, if_pos c0, if_pos c0, sk]
    exact ⟨I, by rw [show byt T z i = -1 from if_neg (by omega)], hp, FQ.rf _ I⟩
  | succ d ih =>
    intro n i I h hp hd hi hn
    obtain ⟨n, rfl⟩ : ∃ m, n = m + 1 := ⟨n - 1, by omega⟩
    have hz := h.1
    obtain ⟨hT1, hT⟩ := h.2.2 i (by omega)
    have c0 : ¬ I 55 19 ≤ I 55 21 := by rw [h.2.1, hp, nI_leI (by omega) (by omega)]; omega
    rw [f_X10_here_0, if_neg c0, if_neg c0, hp, if_pos (inb_nI (show i < 500 by omega) (by omega)), if_pos (inb_nI (show i < 500 by omega) (by omega)), nI_clamp (by omega), hT1, sk]
    by_cases q : T i = 32
    · rw [if_pos (by rw [q]; rfl), if_pos (show isB T i = true from decide_eq_true q), nI_1]
      have fu := FQ.up (js := [21]) I (j := 21) (nI (i + 1)) (by decide)
      obtain ⟨I', a1, a2, a3⟩ := ih n (i + 1) (upI I 55 21 (nI (i + 1))) (fu.mt (by decide) h) upI_s (by omega) (by omega) (by omega)
      exact ⟨I', a1, a2, fu.tr a3⟩
    · rw [if_neg (by rw [show (32 : Int32) = nI 32 from rfl, nI_eq (by omega) (by omega)]; exact q), if_neg (show ¬ isB T i = true by unfold isB; rw [decide_eq_true_eq]; exact q)]
      exact ⟨I, by rw [byt_in (by omega)], hp, FQ.rf _ I⟩
theorem hereM {I : IT} {T : Nat → Nat} {z i : Nat} (h : MTx I T z) (hp : I 55 21 = nI i) (hi : i < 2 ^ 20) : ∃ I', f_X10_here I = some (byt T z (eB T z i), I') ∧ I' 55 21 = nI (eB T z i) ∧ FQ [21] I I' :=
  here0 (z - i) FU i I h hp rfl hi (by have := h.1; unfold FU; omega)
/-- the reference's number as it reads -/
def nV (T : Nat → Nat) (i : Nat) : Nat → Nat
  | 0 => 0
  | n + 1 => if nV T i n ≤ 100000 then 10 * nV T i n + (T (i + n) - 48) else nV T i n
theorem nV_bd {T : Nat → Nat} {i : Nat} : ∀ n, (∀ j, j < n → T (i + j) ≤ 57) → nV T i n ≤ 1000009 := by
  intro n
  induction n with
  | zero => intro _; rw [nV]; omega
  | succ n ih =>
    intro h
    have h1 := ih (fun j hj => h j (by omega))
    have h2 := h n (by omega)
    rw [nV]
    split <;> omega
theorem nV_dV {T : Nat → Nat} {i : Nat} : ∀ n, n ≤ 4 → (∀ j, j < n → 48 ≤ T (i + j) ∧ T (i + j) ≤ 57) → nV T i n = dV T i n := by
  intro n
  induction n with
  | zero => intro _ _; rfl
  | succ n ih =>
    intro hn h
    have h1 := ih (by omega) (fun j hj => h j (by omega))
    have h2 := dV4 (T := T) (i := i) (n := n) (by omega) (fun j hj => h j (by omega))
    rw [nV, dV, h1, if_pos (by omega)]
    omega
def numF (I : IT) (v1 v2 : Int32) : Option (Int32 × IT) :=
  if (4 : Int32) < ((I 55 21) - (I 55 25)) then
        (f_X10_fails 2 (I 55 25) I).bind fun r162 =>
        some (r162.1, r162.2)
      else
        (f_X10_in ((I 55 24).toInt64) v1.toInt64 v2.toInt64).bind fun r150 =>
        if r150 = 0 then
          (f_X10_fails 2 (I 55 25) I).bind fun r162 =>
          some (r162.1, r162.2)
        else
          some (0, I)
theorem figM {T : Nat → Nat} {i : Nat} (hT : T i < 256) : f_X10_in ((nI (T i)).toInt64) 48 57 = some (if isD T i = true then 1 else 0) := by
  rw [in32 (lo := 48) (lo' := 48) (hi := 57) (hi' := 57) (by decide) (by decide)]
  have e : ((48 : Int32) ≤ nI (T i) ∧ nI (T i) ≤ 57) ↔ (48 ≤ T i ∧ T i ≤ 57) := by
    rw [show (48 : Int32) = nI 48 from rfl, show (57 : Int32) = nI 57 from rfl, nI_leI (by omega) (by omega), nI_leI (by omega) (by omega)]
  by_cases q : 48 ≤ T i ∧ T i ≤ 57
  · rw [show b2 ((48 : Int32) ≤ nI (T i) ∧ nI (T i) ≤ 57) = 1 from if_pos (e.mpr q), if_pos (show isD T i = true from decide_eq_true q)]
  · rw [show b2 ((48 : Int32) ≤ nI (T i) ∧ nI (T i) ≤ 57) = 0 from if_neg (fun w => q (e.mp w)), if_neg (show ¬ isD T i = true by unfold isD; rw [decide_eq_true_eq]; exact q)]
theorem num42 {T : Nat → Nat} {z st : Nat} {v1 v2 : Int32} : ∀ d n i I, MTx I T z → I 55 21 = nI i → I 55 24 = nI (nV T st (i - st)) → st ≤ i → z - i = d → i < 2 ^ 20 → d < n → (∀ j, st ≤ j → j < i → isD T j = true) → ∃ I', f_X10_takeNumber_42 n v1 v2 I = numF I' v1 v2 ∧ I' 55 21 = nI (sk (isD T) d i) ∧ I' 55 24 = nI (nV T st (sk (isD T) d i - st)) ∧ FQ [21, 24] I I' := by
  intro d
  induction d with
  | zero =>
    intro n i I h hp hv hs hd hi hn hD
    obtain ⟨n, rfl⟩ : ∃ m, n = m + 1 := ⟨n - 1, by omega⟩
    have hz := h.1
    refine ⟨I, ?_, hp, hv, FQ.rf _ I⟩
    rw [f_X10_takeNumber_42, if_pos (show I 55 19 ≤ I 55 21 by rw [h.2.1, hp, nI_leI (by omega) (by omega)]; omega)]
    rfl
  | succ d ih =>
    intro n i I h hp hv hs hd hi hn hD
    obtain ⟨n, rfl⟩ : ∃ m, n = m + 1 := ⟨n - 1, by omega⟩
    have hz := h.1
    obtain ⟨hT1, hT⟩ := h.2.2 i (by omega)
    have c0 : ¬ I 55 19 ≤ I 55 21 := by rw [h.2.1, hp, nI_leI (by omega) (by omega)]; omega
    have ib : inbB (I 55 21) 500 = true := by rw [hp]; exact inb_nI (by omega) (by omega)
    have t1 : I 67 (I 55 21).toNatClampNeg = nI (T i) := by rw [hp, nI_clamp (by omega)]; exact hT1
    have bv : nV T st (i - st) ≤ 1000009 := nV_bd _ (fun j hj => by
      have := hD (st + j) (by omega) (by omega)
      unfold isD at this
      exact (of_decide_eq_true this).2)
    rw [f_X10_takeNumber_42, if_neg c0, if_pos ib, if_pos ib, t1, figM hT, Option.bind_some, sk]
    by_cases q : isD T i = true
    · have q' : 48 ≤ T i ∧ T i ≤ 57 := by unfold isD at q; exact of_decide_eq_true q
      rw [if_pos q, if_pos q, if_neg (by decide)]
      have nx : ∀ x, x = nV T st (i + 1 - st) → ∃ I', f_X10_takeNumber_42 n v1 v2 (upI (upI I 55 24 (nI x)) 55 21 (((upI I 55 24 (nI x)) 55 21) + 1)) = numF I' v1 v2 ∧ I' 55 21 = nI (sk (isD T) d (i + 1)) ∧ I' 55 24 = nI (nV T st (sk (isD T) d (i + 1) - st)) ∧ FQ [21, 24] I I' := by
        intro x hx
        have f1 := (FQ.up (js := [21, 24]) I (j := 24) (nI x) (by decide)).tr (FQ.up (upI I 55 24 (nI x)) (j := 21) (nI (i + 1)) (by decide))
        rw [show (upI I 55 24 (nI x)) 55 21 = nI i from by rw [upI_j (by decide), hp], nI_1]
        obtain ⟨I', a1, a2, a3, a4⟩ := ih n (i + 1) (upI (upI I 55 24 (nI x)) 55 21 (nI (i + 1))) (f1.mt (by decide) h) upI_s (by rw [upI_j (by decide), upI_s, hx]) (by omega) (by omega) (by omega) (by omega) (fun j h1 h2 => by
          by_cases e : j = i
          · rw [e]; exact q
          · exact hD j h1 (by omega))
        exact ⟨I', a1, a2, a3, f1.tr a4⟩
      rw [hv]
      by_cases q2 : nV T st (i - st) ≤ 100000
      · rw [if_pos (by rw [show (100000 : Int32) = nI 100000 from rfl, nI_leI (by omega) (by omega)]; exact q2), show (10 : Int32) = nI 10 from rfl, pk_mul, nI_add, show (48 : Int32) = nI 48 from rfl, pk_sub (by omega)]
        refine nx _ ?_
        rw [show i + 1 - st = i - st + 1 by omega, nV, if_pos q2, show st + (i - st) = i by omega]
        omega
      · rw [if_neg (by rw [show (100000 : Int32) = nI 100000 from rfl, nI_leI (by omega) (by omega)]; exact q2)]
        refine nx _ ?_
        rw [show i + 1 - st = i - st + 1 by omega, nV, if_neg q2]
    · rw [if_neg q, if_neg q, if_pos (show (0 : Int32) = 0 from rfl)]
      exact ⟨I, rfl, hp, hv, FQ.rf _ I⟩
/-- the reference's number -/
theorem tkNum {I : IT} {T : Nat → Nat} {z lo hi i : Nat} (h : MTx I T z) (hp : I 55 21 = nI i) (hi' : i < 2 ^ 20) (hlo : lo ≤ 9999) (hhi : hi ≤ 9999) : ∃ I', f_X10_takeNumber (nI lo) (nI hi) I = some (nI (nF T z lo hi (eB T z i)), I') ∧ FQ [20, 21, 24, 25] I I' ∧ (nF T z lo hi (eB T z i) = 0 → I' 55 21 = nI (eD T z (eB T z i)) ∧ I' 55 24 = nI (dV T (eB T z i) (min (eD T z (eB T z i) - eB T z i) 4)) ∧ I' 55 20 = I 55 20) ∧ (nF T z lo hi (eB T z i) ≠ 0 → I' 55 20 = nI (eB T z i)) := by
  have hz := h.1
  obtain ⟨I1, a1, a2, a3⟩ := hereM h hp hi'
  have b1 := sk_bd (isB T) (z - i) i
  have e1 : eB T z i = sk (isB T) (z - i) i := rfl
  have b3 := sk_bd (isD T) (z - eB T z i) (eB T z i)
  have e3 : eD T z (eB T z i) = sk (isD T) (z - eB T z i) (eB T z i) := rfl
  have ht := a3.mt (by decide) h
  unfold f_X10_takeNumber
  rw [a1, Option.bind_some]
  dsimp only
  by_cases q : eB T z i < z ∧ isD T (eB T z i) = true
  · have hT := (ht.2.2 _ q.1).2
    have ne : ¬ eD T z (eB T z i) = eB T z i := by
      rw [e3, show z - eB T z i = (z - eB T z i - 1) + 1 by omega, sk, if_pos q.2]
      have := sk_bd (isD T) (z - eB T z i - 1) (eB T z i + 1)
      omega
    rw [byt_in q.1, figM hT, Option.bind_some, if_pos q.2, if_neg (by decide), a2]
    have f1 := (FQ.up (js := [20, 21, 24, 25]) I1 (j := 25) (nI (eB T z i)) (by decide)).tr (FQ.up (upI I1 55 25 (nI (eB T z i))) (j := 24) 0 (by decide))
    obtain ⟨I2, c1, c2, c3, c4⟩ := num42 (v1 := nI lo) (v2 := nI hi) (st := eB T z i) (z - eB T z i) FU (eB T z i) (upI (upI I1 55 25 (nI (eB T z i))) 55 24 0) (f1.mt (by decide) ht) (by rw [upI_j (by decide), upI_j (by decide), a2]) (by rw [upI_s, Nat.sub_self]; rfl) (Nat.le_refl _) rfl (by omega) (by unfold FU; omega) (fun j h1 h2 => by omega)
    rw [← e3] at c2 c3
    have c25 : I2 55 25 = nI (eB T z i) := by rw [c4.2 25 (by decide), upI_j (by decide), upI_s]
    have fq : FQ [20, 21, 24, 25] I I2 := ((a3.mo (by decide)).tr f1).tr (c4.mo (by decide))
    have c20 : I2 55 20 = I 55 20 := by rw [c4.2 20 (by decide), upI_j (by decide), upI_j (by decide), a3.2 20 (by decide)]
    have dg : ∀ j, j < eD T z (eB T z i) - eB T z i → 48 ≤ T (eB T z i + j) ∧ T (eB T z i + j) ≤ 57 := fun j hj => by
      have := sk_in (isD T) (z - eB T z i) (eB T z i) (eB T z i + j) (by omega) (by omega)
      unfold isD at this
      exact of_decide_eq_true this
    have nb := nV_bd (T := T) (i := eB T z i) (eD T z (eB T z i) - eB T z i) (fun j hj => (dg j hj).2)
    have e0 : (4 : Int32) < nI (eD T z (eB T z i) - eB T z i) ↔ 4 < eD T z (eB T z i) - eB T z i := by rw [show (4 : Int32) = nI 4 from rfl, nI_ltI (by omega) (by omega)]
    rw [c1]
    unfold numF nF
    rw [if_neg ne, c2, c25, pk_sub (by omega), in32 (lo := nI lo) (hi := nI hi) rfl rfl, Option.bind_some]
    by_cases q4 : 4 < eD T z (eB T z i) - eB T z i
    · rw [if_pos (e0.mpr q4), if_pos (Or.inl q4)]
      exact ⟨upI I2 55 20 (nI (eB T z i)), rfl, fq.tr (FQ.up I2 _ (by decide)), fun w => absurd w (by decide), fun _ => upI_s⟩
    · have ev : nV T (eB T z i) (eD T z (eB T z i) - eB T z i) = dV T (eB T z i) (min (eD T z (eB T z i) - eB T z i) 4) := by
        rw [Nat.min_eq_left (by omega), nV_dV _ (by omega) dg]
      have d9 := dV4 (T := T) (i := eB T z i) (n := min (eD T z (eB T z i) - eB T z i) 4) (by omega) (fun j hj => dg j (by omega))
      rw [if_neg (fun w => q4 (e0.mp w)), c3, ev]
      have e5 : (nI lo ≤ nI (dV T (eB T z i) (min (eD T z (eB T z i) - eB T z i) 4)) ∧ nI (dV T (eB T z i) (min (eD T z (eB T z i) - eB T z i) 4)) ≤ nI hi) ↔ (lo ≤ dV T (eB T z i) (min (eD T z (eB T z i) - eB T z i) 4) ∧ dV T (eB T z i) (min (eD T z (eB T z i) - eB T z i) 4) ≤ hi) := by
        rw [nI_leI (by omega) (by omega), nI_leI (by omega) (by omega)]
      by_cases q5 : lo ≤ dV T (eB T z i) (min (eD T z (eB T z i) - eB T z i) 4) ∧ dV T (eB T z i) (min (eD T z (eB T z i) - eB T z i) 4) ≤ hi
      · rw [show b2 (nI lo ≤ nI (dV T (eB T z i) (min (eD T z (eB T z i) - eB T z i) 4)) ∧ nI (dV T (eB T z i) (min (eD T z (eB T z i) - eB T z i) 4)) ≤ nI hi) = 1 from if_pos (e5.mpr q5), if_neg (by decide), if_neg (fun w => w.elim q4 (fun w => w q5))]
        exact ⟨I2, rfl, fq, fun _ => ⟨c2, by rw [c3, ev], c20⟩, fun w => absurd rfl w⟩
      · rw [show b2 (nI lo ≤ nI (dV T (eB T z i) (min (eD T z (eB T z i) - eB T z i) 4)) ∧ nI (dV T (eB T z i) (min (eD T z (eB T z i) - eB T z i) 4)) ≤ nI hi) = 0 from if_neg (fun w => q5 (e5.mp w)), if_pos rfl, if_pos (Or.inr q5)]
        exact ⟨upI I2 55 20 (nI (eB T z i)), rfl, fq.tr (FQ.up I2 _ (by decide)), fun w => absurd w (by decide), fun _ => upI_s⟩
  · have ee : eD T z (eB T z i) = eB T z i := by
      by_cases q1 : eB T z i < z
      · rw [e3, show z - eB T z i = (z - eB T z i - 1) + 1 by omega, sk, if_neg (fun w => q ⟨q1, w⟩)]
      · rw [e3, show z - eB T z i = 0 by omega, sk]
    have f0 : f_X10_in (byt T z (eB T z i)).toInt64 48 57 = some 0 := by
      by_cases q1 : eB T z i < z
      · rw [byt_in q1, figM (ht.2.2 _ q1).2, if_neg (fun w => q ⟨q1, w⟩)]
      · rw [show byt T z (eB T z i) = -1 from if_neg q1]
        decide
    rw [f0, Option.bind_some, if_pos rfl]
    unfold nF
    rw [if_pos ee, a2]
    exact ⟨upI I1 55 20 (nI (eB T z i)), rfl, (a3.mo (by decide)).tr (FQ.up I1 _ (by decide)), fun w => absurd w (by decide), fun _ => upI_s⟩
/-! words -/
def cW (T : Nat → Nat) (st : Nat) : Nat → Nat
  | 0 => 0
  | n + 1 => if 1000000000000 < cW T st n then 2000000000000 else 27 * cW T st n + T (st + n) - 96
theorem cW_bd {T : Nat → Nat} {st : Nat} : ∀ n, (∀ j, j < n → T (st + j) ≤ 122) → cW T st n ≤ 27000000000026 := by
  intro n
  induction n with
  | zero => intro _; rw [cW]; omega
  | succ n ih =>
    intro h
    have h1 := ih (fun j hj => h j (by omega))
    have h2 := h n (by omega)
    rw [cW]
    split <;> omega
def cdw (k : Nat) : Nat → Nat
  | 0 => 0
  | m + 1 => 27 * cdw k m + ((wd5 k).getD m 0 - 96)
theorem cdw_ok : ∀ k, k < 5 → ∀ m, m < 6 → m < (wd5 k).length → 97 ≤ (wd5 k).getD m 0 ∧ (wd5 k).getD m 0 ≤ 122 ∧ cdw k m ≤ 1000000000 := by decide
theorem len_w5 : ∀ k, k < 5 → (wd5 k).length ≤ 6 := by decide
theorem cW_code {T : Nat → Nat} {st k : Nat} (hk : k < 5) : ∀ m n, m ≤ (wd5 k).length → (∀ j, j < n → 97 ≤ T (st + j) ∧ T (st + j) ≤ 122) → (cW T st n = cdw k m ↔ n = m ∧ ∀ i, i < m → T (st + i) = (wd5 k).getD i 0) := by
  intro m
  induction m with
  | zero =>
    intro n _ h
    rw [cdw]
    cases n with
    | zero => exact ⟨fun _ => ⟨rfl, fun i hi => by omega⟩, fun _ => rfl⟩
    | succ n =>
      have h2 := h n (by omega)
      rw [cW]
      constructor
      · intro w; split at w <;> omega
      · rintro ⟨w, -⟩; omega
  | succ m ih =>
    intro n hm h
    have hl := len_w5 k hk
    obtain ⟨d1, d2, d3⟩ := cdw_ok k hk m (by omega) (by omega)
    rw [cdw]
    cases n with
    | zero =>
      rw [cW]
      constructor
      · intro w; omega
      · rintro ⟨w, -⟩; omega
    | succ n =>
      have h2 := h n (by omega)
      have ih' := ih n (by omega) (fun j hj => h j (by omega))
      rw [cW]
      constructor
      · intro w
        by_cases q : 1000000000000 < cW T st n
        · rw [if_pos q] at w; omega
        · rw [if_neg q] at w
          obtain ⟨rfl, w2⟩ := ih'.mp (by omega)
          refine ⟨rfl, fun i hi => ?_⟩
          by_cases e : i = n
          · subst e; omega
          · exact w2 i (by omega)
      · rintro ⟨w1, w2⟩
        have e := ih'.mpr ⟨by omega, fun i hi => w2 i (by omega)⟩
        have e2 := w2 n (by omega)
        obtain rfl : n = m := by omega
        rw [if_neg (by omega), e, e2]
        omega
theorem letM {T : Nat → Nat} {i : Nat} (hT : T i < 256) : f_X10_in ((nI (T i)).toInt64) 97 122 = some (if isL T i = true then 1 else 0) := by
  rw [in32 (lo := 97) (lo' := 97) (hi := 122) (hi' := 122) (by decide) (by decide)]
  have e : ((97 : Int32) ≤ nI (T i) ∧ nI (T i) ≤ 122) ↔ (97 ≤ T i ∧ T i ≤ 122) := by
    rw [show (97 : Int32) = nI 97 from rfl, show (122 : Int32) = nI 122 from rfl, nI_leI (by omega) (by omega), nI_leI (by omega) (by omega)]
  by_cases q : 97 ≤ T i ∧ T i ≤ 122
  · rw [show b2 ((97 : Int32) ≤ nI (T i) ∧ nI (T i) ≤ 122) = 1 from if_pos (e.mpr q), if_pos (show isL T i = true from decide_eq_true q)]
  · rw [show b2 ((97 : Int32) ≤ nI (T i) ∧ nI (T i) ≤ 122) = 0 from if_neg (fun w => q (e.mp w)), if_neg (show ¬ isL T i = true by unfold isL; rw [decide_eq_true_eq]; exact q)]
theorem word18 {T : Nat → Nat} {z st : Nat} : ∀ d n i I J, MTx I T z → I 55 23 = nI i → J 55 22 = lN (cW T st (i - st)) → st ≤ i → z - i = d → i < 2 ^ 20 → d < n → (∀ j, st ≤ j → j < i → isL T j = true) → ∃ I' J', f_X10_readWord_18 n I J = some (I', J') ∧ I' 55 23 = nI (sk (isL T) d i) ∧ J' 55 22 = lN (cW T st (sk (isL T) d i - st)) ∧ FQ [23] I I' ∧ J' 47 = J 47 := by
  intro d
  induction d with
  | zero =>
    intro n i I J h hp hv hs hd hi hn hD
    obtain ⟨n, rfl⟩ : ∃ m, n = m + 1 := ⟨n - 1, by omega⟩
    have hz := h.1
    rw [f_X10_readWord_18, if_pos (show I 55 19 ≤ I 55 23 by rw [h.2.1, hp, nI_leI (by omega) (by omega)]; omega)]
    exact ⟨I, J, rfl, hp, hv, FQ.rf _ I, rfl⟩
  | succ d ih =>
    intro n i I J h hp hv hs hd hi hn hD
    obtain ⟨n, rfl⟩ : ∃ m, n = m + 1 := ⟨n - 1, by omega⟩
    have hz := h.1
    obtain ⟨hT1, hT⟩ := h.2.2 i (by omega)
    have c0 : ¬ I 55 19 ≤ I 55 23 := by rw [h.2.1, hp, nI_leI (by omega) (by omega)]; omega
    have bw : cW T st (i - st) ≤ 27000000000026 := cW_bd _ (fun j hj => by
      have := hD (st + j) (by omega) (by omega)
      unfold isL at this
      exact (of_decide_eq_true this).2)
    rw [f_X10_readWord_18, if_neg c0, hp, if_pos (inb_nI (show i < 500 by omega) (by omega)), nI_clamp (by omega), hT1, letM hT, Option.bind_some, sk]
    by_cases q : isL T i = true
    · have q' : 97 ≤ T i ∧ T i ≤ 122 := by unfold isL at q; exact of_decide_eq_true q
      rw [if_pos q, if_pos q, if_neg (by decide), if_pos (inb_nI (show i < 500 by omega) (by omega)), nI_1]
      have f1 := FQ.up (js := [23]) I (j := 23) (nI (i + 1)) (by decide)
      have nx : ∀ x, x = cW T st (i + 1 - st) → ∃ I' J', f_X10_readWord_18 n (upI I 55 23 (nI (i + 1))) (upJ J 55 22 (lN x)) = some (I', J') ∧ I' 55 23 = nI (sk (isL T) d (i + 1)) ∧ J' 55 22 = lN (cW T st (sk (isL T) d (i + 1) - st)) ∧ FQ [23] I I' ∧ J' 47 = J 47 := by
        intro x hx
        obtain ⟨I', J', a1, a2, a3, a4, a5⟩ := ih n (i + 1) (upI I 55 23 (nI (i + 1))) (upJ J 55 22 (lN x)) (f1.mt (by decide) h) upI_s (by rw [upJ_s, hx]) (by omega) (by omega) (by omega) (by omega) (fun j h1 h2 => by
          by_cases e : j = i
          · rw [e]; exact q
          · exact hD j h1 (by omega))
        exact ⟨I', J', a1, a2, a3, f1.tr a4, by rw [a5, upJ_o (by decide)]⟩
      have ec : lg_cmp (lN (cW T st (i - st))) 1000000000000 ≤ 0 ↔ cW T st (i - st) ≤ 1000000000000 := by
        rw [lgc_le, show (1000000000000 : Int64) = lN 1000000000000 from rfl, pk_lLE (by omega) (by omega)]
      rw [hv]
      by_cases q2 : cW T st (i - st) ≤ 1000000000000
      · rw [if_pos (ec.mpr q2), nI_l (by omega), show (27 : Int64) = lN 27 from rfl, lN_mul, lN_add, show (96 : Int64) = lN 96 from rfl, lN_sub (by omega)]
        refine nx _ ?_
        rw [show i + 1 - st = i - st + 1 by omega, cW, if_neg (by omega), show st + (i - st) = i by omega]
      · rw [if_neg (fun w => q2 (ec.mp w)), show (2000000000000 : Int64) = lN 2000000000000 from rfl]
        refine nx _ ?_
        rw [show i + 1 - st = i - st + 1 by omega, cW, if_pos (by omega)]
    · rw [if_neg q, if_neg q, if_pos (show (0 : Int32) = 0 from rfl)]
      exact ⟨I, J, rfl, hp, hv, FQ.rf _ I, rfl⟩
theorem wordM {I : IT} {J : JT} {T : Nat → Nat} {z i : Nat} (h : MTx I T z) (hp : I 55 21 = nI i) (hi : i < 2 ^ 20) (hB : eB T z i = i) : ∃ I' J', f_X10_readWord I J = some (I', J') ∧ I' 55 21 = nI i ∧ I' 55 23 = nI (eW T z i) ∧ J' 55 22 = lN (cW T i (eW T z i - i)) ∧ FQ [21, 23] I I' ∧ J' 47 = J 47 := by
  have hz := h.1
  obtain ⟨I1, a1, a2, a3⟩ := hereM h hp hi
  rw [hB] at a1 a2
  have f1 := FQ.up (js := [21, 23]) I1 (j := 23) (nI i) (by decide)
  obtain ⟨I2, J2, b1, b2, b3, b4, b5⟩ := word18 (st := i) (z - i) FU i (upI I1 55 23 (nI i)) (upJ J 55 22 0) (f1.mt (by decide) (a3.mt (by decide) h)) upI_s (by rw [upJ_s, Nat.sub_self]; rfl) (Nat.le_refl _) rfl hi (by unfold FU; omega) (fun j h1 h2 => by omega)
  refine ⟨I2, J2, ?_, by rw [b4.2 21 (by decide), upI_j (by decide), a2], b2, b3, ((a3.mo (by decide)).tr f1).tr (b4.mo (by decide)), by rw [b5, upJ_o (by decide)]⟩
  unfold f_X10_readWord
  rw [a1, Option.bind_some]
  dsimp only
  rw [a2, b1]
/-- which word it is, 5: none -/
noncomputable def kd (T : Nat → Nat) (st en : Nat) : Nat := @ite _ (wdM T st en 0) (Classical.propDecidable _) 0 (@ite _ (wdM T st en 1) (Classical.propDecidable _) 1 (@ite _ (wdM T st en 2) (Classical.propDecidable _) 2 (@ite _ (wdM T st en 3) (Classical.propDecidable _) 3 (@ite _ (wdM T st en 4) (Classical.propDecidable _) 4 5))))
theorem wdM_code {T : Nat → Nat} {st en k : Nat} (hk : k < 5) (h : ∀ j, j < en - st → 97 ≤ T (st + j) ∧ T (st + j) ≤ 122) : wdM T st en k ↔ cW T st (en - st) = cdw k (wd5 k).length := (cW_code hk _ _ (Nat.le_refl _) h).symm
theorem cdA_seller : f_X10_code 115 101 108 108 = some (lN 377958) := by decide +kernel
theorem cdB_seller4 : f_X10_longer (lN 377958) 101 = some (lN 10204871) := by decide +kernel
theorem cdB_seller5 : f_X10_longer (lN 10204871) 114 = some (lN 275531535) := by decide +kernel
theorem cdA_buyer : f_X10_code 98 117 121 101 = some (lN 55355) := by decide +kernel
theorem cdB_buyer4 : f_X10_longer (lN 55355) 114 = some (lN 1494603) := by decide +kernel
theorem cdA_broker : f_X10_code 98 114 111 107 = some (lN 52904) := by decide +kernel
theorem cdB_broker4 : f_X10_longer (lN 52904) 101 = some (lN 1428413) := by decide +kernel
theorem cdB_broker5 : f_X10_longer (lN 1428413) 114 = some (lN 38567169) := by decide +kernel
theorem cdA_binds : f_X10_code 98 105 110 100 = some (lN 46309) := by decide +kernel
theorem cdB_binds4 : f_X10_longer (lN 46309) 115 = some (lN 1250362) := by decide +kernel
theorem cdA_cost : f_X10_code 99 111 115 116 = some (lN 70517) := by decide +kernel
theorem cdV_0 : 275531535 = cdw 0 (wd5 0).length := by decide +kernel
theorem cdV_1 : 1494603 = cdw 1 (wd5 1).length := by decide +kernel
theorem cdV_2 : 38567169 = cdw 2 (wd5 2).length := by decide +kernel
theorem cdV_3 : 1250362 = cdw 3 (wd5 3).length := by decide +kernel
theorem cdV_4 : 70517 = cdw 4 (wd5 4).length := by decide +kernel
theorem clsM {J : JT} {T : Nat → Nat} {st en : Nat} (hv : J 55 22 = lN (cW T st (en - st))) (h : ∀ j, j < en - st → 97 ≤ T (st + j) ∧ T (st + j) ≤ 122) : f_X10_clauseOf J = some (if kd T st en = 5 then -1 else nI (kd T st en)) := by
  have bw := cW_bd (T := T) (st := st) (en - st) (fun j hj => (h j hj).2)
  have e : ∀ k c, k < 5 → c = cdw k (wd5 k).length → c < 2 ^ 62 → (lg_cmp (J 55 22) (lN c) = 0 ↔ wdM T st en k) := by
    intro k c hk hc hc2
    rw [lgc_eq, hv, pk_lEQ (by omega) (by omega), wdM_code hk h, hc]
  have e0 := e 0 275531535 (by omega) cdV_0 (by omega)
  have e1 := e 1 1494603 (by omega) cdV_1 (by omega)
  have e2 := e 2 38567169 (by omega) cdV_2 (by omega)
  have e3 := e 3 1250362 (by omega) cdV_3 (by omega)
  have e4 := e 4 70517 (by omega) cdV_4 (by omega)
  unfold f_X10_clauseOf kd
  rw [cdA_seller, Option.bind_some, cdB_seller4, Option.bind_some, cdB_seller5, Option.bind_some]
  by_cases q0 : wdM T st en 0
  · rw [if_pos (e0.mpr q0), if_neg (by decide), if_pos q0, if_neg (by decide)]
    rfl
  · rw [if_neg (fun w => q0 (e0.mp w)), if_neg q0, cdA_buyer, Option.bind_some, cdB_buyer4, Option.bind_some]
    by_cases q1 : wdM T st en 1
    · rw [if_pos (e1.mpr q1), if_neg (by decide), if_pos q1, if_neg (by decide)]
      rfl
    · rw [if_neg (fun w => q1 (e1.mp w)), if_neg q1, cdA_broker, Option.bind_some, cdB_broker4, Option.bind_some, cdB_broker5, Option.bind_some]
      by_cases q2 : wdM T st en 2
      · rw [if_pos (e2.mpr q2), if_neg (by decide), if_pos q2, if_neg (by decide)]
        rfl
      · rw [if_neg (fun w => q2 (e2.mp w)), if_neg q2, if_pos (by decide), cdA_binds, Option.bind_some, cdB_binds4, Option.bind_some]
        by_cases q3 : wdM T st en 3
        · rw [if_pos (e3.mpr q3), if_pos q3, if_neg (by decide)]
          rfl
        · rw [if_neg (fun w => q3 (e3.mp w)), if_neg q3, cdA_cost, Option.bind_some]
          by_cases q4 : wdM T st en 4
          · rw [if_pos (e4.mpr q4), if_pos q4, if_neg (by decide)]
            rfl
          · rw [if_neg (fun w => q4 (e4.mp w)), if_neg q4, if_pos rfl]
