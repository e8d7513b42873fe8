theorem price_rng (I : IT) : ∀ n v i q, f_X6_pricePressed_15 n v i I = some q → q = -1 ∨ (1 ≤ q ∧ q ≤ 999) := by
  intro n
  induction n with
  | zero => intro v i q h; exact absurd h (by simp [f_X6_pricePressed_15])
  | succ n ih =>
    intro v i q h
    have fin : ∀ v q : Int32, ((some (b2 (1 ≤ v ∧ v ≤ 999))).bind fun r49 => if r49 = 0 then some (-1 : Int32) else some v) = some q → q = -1 ∨ (1 ≤ q ∧ q ≤ 999) := by
      intro v q h
      simp only [Option.bind_some, b2] at h
      by_cases c : 1 ≤ v ∧ v ≤ 999
      · rw [if_pos c, if_neg (by decide)] at h
        rw [← Option.some.inj h]; exact Or.inr c
      · rw [if_neg c, if_pos rfl] at h
        exact Or.inl (Option.some.inj h).symm
    rw [f_X6_pricePressed_15, isW] at h
    by_cases c : I 1 1 ≤ i
    · rw [if_pos c] at h; exact fin v q h
    · rw [if_neg c] at h
      by_cases c2 : v = -1
      · rw [if_pos c2] at h; exact fin v q h
      · rw [if_neg c2] at h
        cases e1 : f_X6_byteAt i I with
        | none => rw [e1] at h; exact absurd h (by simp)
        | some x =>
          rw [e1] at h
          simp only [Option.bind_some] at h
          cases e2 : f_X6_afterSign v x with
          | none => rw [e2] at h; exact absurd h (by simp)
          | some y =>
            rw [e2] at h
            simp only [Option.bind_some] at h
            exact ih _ _ _ h
theorem pressed_loc {I I' : IT} (h5 : I' 55 = I 55) (h6 : I' 67 = I 67) : ∀ n v i, f_X10_pressed_15 n v i I' = f_X10_pressed_15 n v i I := by
  intro n
  induction n with
  | zero => intro v i; rfl
  | succ n ih => intro v i; simp only [f_X10_pressed_15, h5, h6, ih]
theorem press2 {I : IT} {z : Nat} (hT : RelT I z) : ∃ q, f_X6_pricePressed I = some q ∧ (q = -1 ∨ (1 ≤ q ∧ q ≤ 999)) ∧ ∀ I', I' 55 = I 55 → I' 67 = I 67 → f_X10_pressed I' = some q := by
  obtain ⟨q, g1, g2⟩ := price_ok hT
  unfold f_X9_price at g1
  unfold f_X10_price at g2
  have k1 : f_X6_pricePressed I = some q := by
    cases e : f_X6_pricePressed I with
    | none => rw [e] at g1; exact absurd g1 (by simp)
    | some y => rw [e] at g1; exact g1
  have k2 : f_X10_pressed I = some q := by
    cases e : f_X10_pressed I with
    | none => rw [e] at g2; exact absurd g2 (by simp)
    | some y => rw [e] at g2; exact g2
  refine ⟨q, k1, ?_, fun I' h5 h6 => ?_⟩
  · unfold f_X6_pricePressed at k1
    by_cases c : I 1 1 ≤ 20
    · rw [if_pos c] at k1; exact price_rng I _ _ _ _ k1
    · rw [if_neg c] at k1; exact Or.inl (Option.some.inj k1).symm
  · rw [← k2]
    unfold f_X10_pressed
    rw [pressed_loc h5 h6, h5]
def tailX (a1 a2 a3 a4 who v : Int32) (I : IT) : Option (Int32 × IT) :=
  if v = (-1 : Int32) then some (-1000003, I) else
  (f_X1_maySpeak a1 a2 a3 who I).bind fun r125 => if r125 = 0 then some (-1000003, I) else if a4 = (1 : Int32) then some (v, I) else
  (f_X1_mayBind who a3 v I).bind fun r152 => if r152 = 0 then some (-1000003, I) else (f_X1_bind who a3 v I).bind fun r170 => some (v, r170)
def tailM (a1 a2 a3 a4 a5 v : Int32) (I : IT) : Option (Int32 × IT) :=
  if v < 0 then some (-1000003, I) else if (999 : Int32) < v then some (-1000003, I) else
  (f_X10_isAsTold a1 a2 a3 a5 I).bind fun r146 => if r146 = 0 then some (-1000003, I) else
  if a5 = (-1 : Int32) then (if a4 = (1 : Int32) then some (v, I) else (f_X10_canBind a1 a3 v I).bind fun r182 => if r182 = 0 then some (-1000003, I) else (f_X10_bind a1 a3 v I).bind fun r198 => some (v, r198))
  else (if a4 = (1 : Int32) then some (v, I) else (f_X10_canBind a5 a3 v I).bind fun r182 => if r182 = 0 then some (-1000003, I) else (f_X10_bind a5 a3 v I).bind fun r198 => some (v, r198))
theorem tail2 {Ix Im : IT} {s b k : Nat} (h : Rel2 Ix Im s b k) {p q l o : Nat} (hp : p < s + b + k) (hq : q < s + b + k) (hl : l < s) {a5 : Int32} (ho : (a5 = -1 ∧ o = p) ∨ (a5 = nI o ∧ o < s + b ∧ o ≠ p)) (a4 : Int32) {v vm : Int32} (hv : (v = -1 ∧ (vm < 0 ∨ 999 < vm)) ∨ (1 ≤ v ∧ v ≤ 999 ∧ vm = v)) :
    ∃ r X M, tailX (nI p) (nI q) (nI l) a4 (nI o) v Ix = some (r, X) ∧ tailM (nI p) (nI q) (nI l) a4 a5 vm Im = some (r, M) ∧ Rel2 X M s b k ∧ FX Ix X ∧ FM Im M := by
  unfold tailX tailM
  rcases hv with ⟨rfl, hv⟩ | ⟨v1, v2, rfl⟩
  · rw [if_pos rfl]
    rcases hv with hv | hv
    · rw [if_pos hv]; exact ⟨_, Ix, Im, rfl, rfl, h, FX.rf _, FM.rf _⟩
    · rw [if_neg (show ¬ vm < 0 by grind), if_pos hv]; exact ⟨_, Ix, Im, rfl, rfl, h, FX.rf _, FM.rf _⟩
  · rw [if_neg (show ¬ vm = -1 by grind), if_neg (show ¬ vm < 0 by grind), if_neg (show ¬ 999 < vm by grind)]
    obtain ⟨r, g1, g2, g3⟩ := as2 h hp hq hl ho
    rw [g1, g2]
    simp only [Option.bind_some]
    by_cases r0 : r = 0
    · rw [if_pos r0, if_pos r0]; exact ⟨_, Ix, Im, rfl, rfl, h, FX.rf _, FM.rf _⟩
    · rw [if_neg r0, if_neg r0]
      obtain ⟨o1, o2⟩ : o < s + b ∧ Ix 16 l = -1 := g3.resolve_left r0
      have e1 := h.1.1.1
      have e2 := h.1.1.2.1
      have uni : (if a5 = (-1 : Int32) then (if a4 = (1 : Int32) then some (vm, Im) else (f_X10_canBind (nI p) (nI l) vm Im).bind fun r182 => if r182 = 0 then some (-1000003, Im) else (f_X10_bind (nI p) (nI l) vm Im).bind fun r198 => some (vm, r198)) else (if a4 = (1 : Int32) then some (vm, Im) else (f_X10_canBind a5 (nI l) vm Im).bind fun r182 => if r182 = 0 then some (-1000003, Im) else (f_X10_bind a5 (nI l) vm Im).bind fun r198 => some (vm, r198))) = (if a4 = (1 : Int32) then some (vm, Im) else (f_X10_canBind (nI o) (nI l) vm Im).bind fun r182 => if r182 = 0 then some (-1000003, Im) else (f_X10_bind (nI o) (nI l) vm Im).bind fun r198 => some (vm, r198)) := by
        rcases ho with ⟨rfl, rfl⟩ | ⟨rfl, -, -⟩
        · rw [if_pos rfl]
        · rw [if_neg]
          intro e
          have := nI_pos' (n := o) (by omega)
          rw [e] at this
          exact absurd this (by decide)
      rw [uni]
      by_cases c4 : a4 = 1
      · rw [if_pos c4, if_pos c4]; exact ⟨_, Ix, Im, rfl, rfl, h, FX.rf _, FM.rf _⟩
      · rw [if_neg c4, if_neg c4]
        obtain ⟨y, k1, k2, -⟩ := may2 h o1 hl vm o2
        rw [k1, k2]
        simp only [Option.bind_some]
        by_cases y0 : y = 0
        · rw [if_pos y0, if_pos y0]; exact ⟨_, Ix, Im, rfl, rfl, h, FX.rf _, FM.rf _⟩
        · rw [if_neg y0, if_neg y0]
          obtain ⟨X, M, j1, j2, j3⟩ := bind2 h o1 hl v1
          rw [j1, j2]
          exact ⟨_, X, M, rfl, rfl, j3⟩
