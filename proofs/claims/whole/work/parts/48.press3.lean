theorem pressX_eq {a1 a2 a3 a4 a5 r : Int32} {I : IT} (h1 : f_X9_areTwoPersons a1 a2 I = some 1) (h2 : f_X2_hasLot a3 I = some 1) (h3 : f_X9_canBeFor a1 a2 a5 I = some 1) (h4 : f_X9_isWithin a4 0 2 = some 1) (h5 : f_X6_pricePressed I = some r) :
    f_X9_press a1 a2 a3 a4 a5 I = tailX a1 a2 a3 a4 (if a5 = -1 then a1 else a5) (if a4 = 2 then (if r = -1 then r else if 999 < r * 2 then -1 else r * 2) else r) (upI I 1 1 0) := by
  have n10 : ¬ (1 : Int32) = 0 := by decide
  unfold f_X9_press tailX
  rw [h1, h2, h3, h4, h5]
  simp only [Option.bind_some, n10, if_false]
  by_cases c1 : a4 = 2 <;> by_cases c2 : a5 = -1 <;> by_cases c3 : r = -1 <;> by_cases c4 : 999 < r * 2 <;> simp only [c1, c2, c3, c4, if_true, if_false]
theorem pressM_eq {a1 a2 a3 a4 a5 r : Int32} {I : IT} (h1 : f_X10_isPerson a1 I = some 1) (h2 : f_X10_isPerson a2 I = some 1) (h3 : ¬ a1 = a2) (h4 : f_X10_isLot a3 I = some 1) (h5 : a5 = -1 ∨ (¬ a5 = -1 ∧ f_X10_isPerson a5 I = some 1 ∧ (∃ t, f_X10_sortOf a5 I = some t ∧ ¬ t = 2) ∧ ¬ a5 = a1 ∧ ¬ a5 = a2)) (h6 : f_X10_in a4.toInt64 0 2 = some 1) (h7 : f_X10_pressed I = some r) :
    f_X10_press a1 a2 a3 a4 a5 I = tailM a1 a2 a3 a4 a5 (if 0 ≤ r then (if a4 = 2 then 2 * r else r) else -1) (upI I 55 19 0) := by
  have n10 : ¬ (1 : Int32) = 0 := by decide
  unfold f_X10_press tailM
  rw [h1, h2, h4, h6, h7]
  simp only [Option.bind_some, n10, if_false, h3]
  rcases h5 with c | ⟨c, p1, ⟨t, p2, p3⟩, p4, p5⟩
  · by_cases c1 : a4 = 2 <;> by_cases c3 : 0 ≤ r <;> simp only [c, c1, c3, if_true, if_false]
  · rw [p1, p2]
    simp only [Option.bind_some, n10, c, p3, p4, p5, if_false]
    by_cases c1 : a4 = 2 <;> by_cases c3 : 0 ≤ r <;> simp only [c1, c3, if_true, if_false]
theorem op_press {I : IT} {J : JT} {s b k c w z : Nat} (h : RelA I J s b k c w z) (a1 a2 a3 a4 a5 : Int32) : ∃ r I1 I2, f_X9_press a1 a2 a3 a4 a5 I = some (r, I1) ∧ f_X10_press a1 a2 a3 a4 a5 I1 = some (r, I2) ∧ ∃ z', RelA I2 J s b k c w z' := by
  have hM := h.1
  obtain ⟨e1, e2, e3, -⟩ := hM.1
  have n10 : ¬ (1 : Int32) = 0 := by decide
  rcases twoX hM a1 a2 with ⟨q, hb⟩ | ⟨p, q, hp, hq, hpq, rfl, rfl, qx⟩
  · refine ⟨_, I, I, by unfold f_X9_press; rw [q]; rfl, ?_, z, h⟩
    unfold f_X10_press
    rw [isPersonM a1 hM, isPersonM a2 hM]
    simp only [Option.bind_some]
    rcases hb with hb | hb | hb
    · rw [b2_bad hb, if_pos rfl]
    · rw [b2_bad hb]; simp
    · simp [hb]
  have m1 : f_X10_isPerson (nI p) I = some 1 := by rw [isPersonM _ hM, b2_nI hp (by omega)]
  have m2 : f_X10_isPerson (nI q) I = some 1 := by rw [isPersonM _ hM, b2_nI hq (by omega)]
  have m3 : ¬ nI p = nI q := by rw [nI_eq (by omega) (by omega)]; exact hpq
  rcases good_or a3 (show s < 2 ^ 31 by omega) with hb | ⟨l, hl, rfl⟩
  · refine ⟨_, I, I, by unfold f_X9_press; rw [qx, hasLotX _ hM, b2_bad hb]; rfl, ?_, z, h⟩
    unfold f_X10_press
    rw [m1, m2, isLotM _ hM, b2_bad hb]
    simp only [Option.bind_some, n10, if_false, m3, if_true]
  have x3 : f_X2_hasLot (nI l) I = some 1 := by rw [hasLotX _ hM, b2_nI hl (by omega)]
  have m4 : f_X10_isLot (nI l) I = some 1 := by rw [isLotM _ hM, b2_nI hl (by omega)]
  have key : (f_X9_canBeFor (nI p) (nI q) a5 I = some 0 ∧ ¬ a5 = -1 ∧ (f_X10_isPerson a5 I = some 0 ∨ (f_X10_isPerson a5 I = some 1 ∧ ∃ t, f_X10_sortOf a5 I = some t ∧ (t = 2 ∨ a5 = nI p ∨ a5 = nI q)))) ∨ (f_X9_canBeFor (nI p) (nI q) a5 I = some 1 ∧ ∃ o, o < 2 ^ 31 ∧ ((a5 = -1 ∧ o = p) ∨ (a5 = nI o ∧ o < s + b ∧ o ≠ p)) ∧ (if a5 = -1 then nI p else a5) = nI o ∧ (a5 = -1 ∨ (¬ a5 = -1 ∧ f_X10_isPerson a5 I = some 1 ∧ (∃ t, f_X10_sortOf a5 I = some t ∧ ¬ t = 2) ∧ ¬ a5 = nI p ∧ ¬ a5 = nI q))) := by
    unfold f_X9_canBeFor
    by_cases c5 : a5 = -1
    · right
      rw [if_pos c5, if_pos c5]
      exact ⟨rfl, p, by omega, Or.inl ⟨c5, rfl⟩, rfl, Or.inl c5⟩
    · rw [if_neg c5, hasPersonX _ hM, isPersonM _ hM]
      simp only [Option.bind_some]
      rcases good_or a5 (show s + b + k < 2 ^ 31 by omega) with hb | ⟨o, ho, rfl⟩
      · left
        rw [b2_bad hb]
        exact ⟨rfl, c5, Or.inl rfl⟩
      · rw [b2_nI ho (by omega), sortOfX (by omega) hM, sortOfM (by omega) hM]
        simp only [n10, if_false, Option.bind_some]
        by_cases d1 : nI o = nI p
        · left; rw [if_pos d1]
          exact ⟨rfl, c5, Or.inr ⟨trivial, _, rfl, Or.inr (Or.inl d1)⟩⟩
        · by_cases d2 : nI o = nI q
          · left; rw [if_neg d1, if_pos d2]
            exact ⟨rfl, c5, Or.inr ⟨trivial, _, rfl, Or.inr (Or.inr d2)⟩⟩
          · rw [if_neg d1, if_neg d2]
            by_cases d3 : srt s b o = 2
            · left; rw [if_pos d3]
              exact ⟨rfl, c5, Or.inr ⟨trivial, _, rfl, Or.inl d3⟩⟩
            · right; rw [if_neg d3, if_neg c5]
              refine ⟨rfl, o, by omega, Or.inr ⟨rfl, ?_, fun e => d1 (by rw [e])⟩, rfl, Or.inr ⟨c5, trivial, ⟨_, rfl, d3⟩, d1, d2⟩⟩
              refine Classical.byContradiction fun hc => d3 ?_
              unfold srt
              rw [if_neg (by omega), if_neg hc]
  rcases key with ⟨kx, k5, kk⟩ | ⟨kx, o, hob, ho, ew, k5⟩
  · refine ⟨_, I, I, by unfold f_X9_press; rw [qx, x3, kx]; rfl, ?_, z, h⟩
    unfold f_X10_press
    rw [m1, m2, m4]
    simp only [Option.bind_some, n10, if_false, m3, k5]
    rcases kk with kk | ⟨k1, t, k2, k3⟩
    · rw [kk]; rfl
    · rw [k1, k2]
      simp only [Option.bind_some, n10, if_false]
      rcases k3 with k3 | k3 | k3
      · rw [if_pos k3]
      · simp only [k3, if_true, ite_self]
      · simp only [k3, if_true, ite_self]
  by_cases c4 : 0 ≤ a4 ∧ a4 ≤ 2
  · have x4 : f_X9_isWithin a4 0 2 = some 1 := by rw [isW]; simp only [b2, if_pos c4]
    have m5 : f_X10_in a4.toInt64 0 2 = some 1 := by rw [in32 (lo := 0) (hi := 2) (by decide) (by decide)]; simp only [b2, if_pos c4]
    obtain ⟨r, g1, g2, g3⟩ := press2 h.2.2.2.2.2.1
    rw [pressX_eq qx x3 kx x4 g1, ew]
    obtain ⟨v, ev⟩ : ∃ v, (if a4 = 2 then (if r = -1 then r else if 999 < r * 2 then -1 else r * 2) else r) = v := ⟨_, rfl⟩
    obtain ⟨vm, em⟩ : ∃ vm, (if 0 ≤ r then (if a4 = 2 then 2 * r else r) else -1) = vm := ⟨_, rfl⟩
    rw [ev]
    have hv : (v = -1 ∧ (vm < 0 ∨ 999 < vm)) ∨ (1 ≤ v ∧ v ≤ 999 ∧ vm = v) := by
      subst ev; subst em
      clear kx k5 qx x3 m4 m1 m2 g1 g3 h hM
      rcases g2 with rfl | ⟨g2, g2'⟩
      · left; by_cases c : a4 = 2 <;> simp only [c, if_true, if_false] <;> decide
      · have z1 : 0 ≤ r := by grind
        have z2 : ¬ r = -1 := by grind
        by_cases c : a4 = 2
        · simp only [c, z1, z2, if_true, if_false]
          by_cases d : 999 < r * 2
          · rw [if_pos d]; left; exact ⟨rfl, Or.inr (by grind)⟩
          · rw [if_neg d]; right; grind
        · simp only [c, z1, if_true, if_false]
          right; exact ⟨g2, g2', trivial⟩
    have hA : RelA (upI (upI I 1 1 0) 55 19 0) J s b k c w 0 := by
      obtain ⟨hM, hC, hK, hW, hB, hT, hF, hS⟩ := h
      have fr : ∀ c, c ≠ 1 → c ≠ 55 → upI (upI I 1 1 0) 55 19 0 c = I c := fun c h1 h2 => by simp [upI, h1, h2]
      have fr5 : ∀ j, j ≠ 19 → upI (upI I 1 1 0) 55 19 0 55 j = I 55 j := fun j hj => by simp [upI, upd, hj]
      refine ⟨frameM hM (by simp +decide [fr]) (by simp +decide [fr5]), frameC hC (by simp +decide [fr]) (by simp +decide [fr5]), frameK hK (by simp +decide [fr]), frameW hW (by simp +decide [fr]) (fr5 40 (by decide)), frameB hB (by simp +decide [fr]) (fr5 47 (by decide)), ⟨by simp [upI, upd]; rfl, by simp [upI, upd]; rfl, by omega, fun j hj => absurd hj (by omega)⟩, ?_, frameS hS (by simp +decide [fr]) rfl⟩
      rw [fr5 20 (by decide), fr 0 (by decide) (by decide)]; exact hF
    -- lock step, from the class's world and any of the reference's
    have st : ∀ X, FX (upI I 1 1 0) X → Rel2 (upI I 1 1 0) (upI X 55 19 0) s b k := by
      intro X f
      have R := start2 (X := upI X 55 19 0) hA (fun c h1 h2 h3 h4 h5 h6 => by
        by_cases e : c = 55
        · subst e
          funext j
          have := congrFun (f 55 h1 h2 h3 h4 h5 h6) j
          by_cases ej : j = 19
          · simp [upI, upd, ej]
          · simp [upI, upd, ej] at this ⊢; exact this
        · have := f c h1 h2 h3 h4 h5 h6
          simp [upI, e] at this ⊢; exact this)
      obtain ⟨R1, R2, R3, R4⟩ := R
      have fr : ∀ c, c ≠ 55 → upI I 1 1 0 c = upI (upI I 1 1 0) 55 19 0 c := fun c h2 => by simp [upI, h2]
      have fr5 : ∀ j, j ≠ 19 → upI I 1 1 0 55 j = upI (upI I 1 1 0) 55 19 0 55 j := fun j hj => by simp [upI, upd, hj]
      exact ⟨frameM R1 (by simp +decide [fr]) (by simp +decide [fr5]), R2, fun c h1 h2 => by rw [R3 c h1 h2, fr c (by omega)], R4⟩
    obtain ⟨r1, X, M, j1, -, -, fX, -⟩ := tail2 (st _ (FX.rf _)) hp hq hl ho a4 hv
    obtain ⟨r2, X', M', i1, i2, R, -, fM⟩ := tail2 (st X fX) hp hq hl ho a4 hv
    rw [j1] at i1
    obtain ⟨rfl, rfl⟩ : r1 = r2 ∧ X = X' := by
      have := Option.some.inj i1
      exact ⟨congrArg Prod.fst this, congrArg Prod.snd this⟩
    have fx5 : X 55 = I 55 := by rw [fX 55 (by decide) (by decide) (by decide) (by decide) (by decide) (by decide)]; simp [upI]
    have fx67 : X 67 = I 67 := by rw [fX 67 (by decide) (by decide) (by decide) (by decide) (by decide) (by decide)]; simp [upI]
    have hMX : RelM X s b k := R.1
    refine ⟨r1, X, M', j1, ?_, 0, ?_⟩
    · have o1 : f_X10_isPerson (nI p) X = some 1 := by rw [isPersonM _ hMX, b2_nI hp (by omega)]
      have o2 : f_X10_isPerson (nI q) X = some 1 := by rw [isPersonM _ hMX, b2_nI hq (by omega)]
      have o4 : f_X10_isLot (nI l) X = some 1 := by rw [isLotM _ hMX, b2_nI hl (by omega)]
      rw [pressM_eq o1 o2 m3 o4 (by
        rcases k5 with k5 | ⟨k5, k6, ⟨t, k7, k7'⟩, k8⟩
        · exact Or.inl k5
        · refine Or.inr ⟨k5, ?_, ⟨t, ?_, k7'⟩, k8⟩
          · rw [isPersonM _ hMX, ← isPersonM _ hM]; exact k6
          · rcases ho with ⟨ho, -⟩ | ⟨rfl, -, -⟩
            · exact absurd ho k5
            · rw [sortOfM hob hMX, ← sortOfM hob hM]; exact k7) m5 (g3 X fx5 fx67), em]
      exact i2
    · refine fin2 (X := upI X 55 19 0) hA (fun c h1 h2 h3 h4 h5 h6 => ?_) ?_ fM
      · have := fX c h1 h2 h3 h4 h5 h6
        by_cases e : c = 55
        · subst e; simp [upI] at this ⊢; rw [this]
        · simp [upI, e] at this ⊢; exact this
      · obtain ⟨R1, R2, R3, R4⟩ := R
        have fr : ∀ c, c ≠ 55 → upI X 55 19 0 c = X c := fun c h2 => by simp [upI, h2]
        have fr5 : ∀ j, j ≠ 19 → upI X 55 19 0 55 j = X 55 j := fun j hj => by simp [upI, upd, hj]
        exact ⟨frameM R1 (by simp +decide [fr]) (by simp +decide [fr5]), R2, fun c h1 h2 => by rw [R3 c h1 h2, fr c (by omega)], R4⟩
  · refine ⟨_, I, I, by unfold f_X9_press; rw [qx, x3, kx, isW]; simp only [b2, if_neg c4, Option.bind_some, n10, if_false, if_true]; rfl, ?_, z, h⟩
    unfold f_X10_press
    rw [m1, m2, m4, in32 (lo := 0) (hi := 2) (by decide) (by decide)]
    simp only [b2, if_neg c4, Option.bind_some, n10, if_false, m3, if_true]
    rcases k5 with k5 | ⟨k5, k6, ⟨t, k7, k7'⟩, k8, k9⟩
    · rw [if_pos k5]
    · rw [if_neg k5, k6, k7]
      simp only [Option.bind_some, n10, if_false, k7', k8, k9]
