/-! a buyer, both sides -/
theorem csSkp {I : IT} {T : Nat → Nat} {z i n : Nat} {x : Nat × Nat} (h : CS I T z i n x) (hn : n ≤ 100) : ∃ I', f_X4_skipBlanks I = some I' ∧ FP I I' ∧ CS I' T z (eB T z i) n x := by
  obtain ⟨h1, h2, h3, h4, h5, h6⟩ := h
  have hz := h1.1
  obtain ⟨I', a1, a2, a3⟩ := skipB h1 h2 (by omega)
  have eb := eB_bd T z i
  exact ⟨I', a1, a3, a3.ct h1, a2, by omega, by rw [a3.2 3 (by decide)]; exact h4, by rw [a3.2 2 (by decide)]; exact h5, h6⟩
def buyT (I : IT) : Option IT := (f_X4_readNumber 1 2 I).bind fun r47 => (f_X4_readNumber 0 9999 r47.2).bind fun r56 => (f_X4_skipBlanks r56.2).bind fun r61 => if (r61 8 0) = 0 then (f_X4_refuseIf 1 1 (r61 7 4) r61).bind fun r85 => f_X4_readBuyer_91 FU r47.1 r56.1 0 r85 else (f_X4_refuseIf 0 1 (r61 7 4) r61).bind fun r85 => f_X4_readBuyer_91 FU r47.1 r56.1 0 r85
theorem buy_cls {I : IT} {T : Nat → Nat} {z en i s b k : Nat} (hc : CS I T z en 0 (0, 0)) (hk : s ≤ 6 ∧ b ≤ 6 ∧ k ≤ 2) (h8 : I 8 0 = nI s ∧ I 8 1 = nI b ∧ I 8 2 = nI k) : ∃ Id, f_X4_readBuyer (nI i) I = f_X4_readBuyer_91 FU (nI (nVal T z en)) (nI (nVal T z (nEnd T z en))) 0 Id ∧ FR I Id ∧ CS Id T z (eB T z (nEnd T z (nEnd T z en))) 0 (c2 (if 6 ≤ b then 3 else 0, i) (c2 (if 0 < k then 4 else 0, i) (c2 (nFlt T z 1 2 en) (c2 (nFlt T z 0 9999 (nEnd T z en)) (if s = 0 then 1 else 0, eB T z (nEnd T z (nEnd T z en))))))) := by
  obtain ⟨Ia, a1, a2, a3⟩ := csRef hc (decide (6 ≤ b)) (k := 3) (at0 := i) (by omega)
  obtain ⟨Ib, b1, b2, b3⟩ := csRef a3 (decide (0 < k)) (k := 4) (at0 := i) (by omega)
  obtain ⟨Ic, d1, d2, d3⟩ := csNum b3 (by omega) (lo := 1) (hi := 2) (by omega) (by omega)
  obtain ⟨Id, e1, e2, e3⟩ := csNum d3 (by omega) (lo := 0) (hi := 9999) (by omega) (by omega)
  obtain ⟨Ie, f1, f2, f3⟩ := csSkp e3 (by omega)
  obtain ⟨If, g1, g2, g3⟩ := csRef f3 (decide (s = 0)) (k := 1) (at0 := eB T z (nEnd T z (nEnd T z en))) (by omega)
  simp only [cs00, c2_as] at g3
  simp only [decide_eq_true_eq] at a1 b1 g1 g3
  have fe : FR I Ie := (((a2.tr b2).tr d2).tr e2).tr f2.fr
  refine ⟨If, ?_, fe.tr g2, g3⟩
  have tail : buyT Ib = f_X4_readBuyer_91 FU (nI (nVal T z en)) (nI (nVal T z (nEnd T z en))) 0 If := by
    unfold buyT
    rw [show (nI 1 : Int32) = 1 from rfl, show (nI 2 : Int32) = 2 from rfl] at d1
    rw [show (nI 0 : Int32) = 0 from rfl, show (nI 9999 : Int32) = 9999 from rfl] at e1
    rw [show (nI 1 : Int32) = 1 from rfl] at g1
    rw [d1, Option.bind_some]
    dsimp only
    rw [e1, Option.bind_some]
    dsimp only
    rw [f1, Option.bind_some, f3.2.1, show Ie 8 0 = nI s from by rw [fe.1 8 (by decide)]; exact h8.1]
    by_cases q : s = 0
    · rw [if_pos q] at g1
      rw [if_pos (by rw [q]; rfl), g1, Option.bind_some]
    · rw [if_neg q] at g1
      rw [if_neg (nI_ne0 (by omega) (by omega)), g1, Option.bind_some]
  have hb : (Ia 8 2 ≤ 0) ↔ ¬ 0 < k := by
    rw [a2.1 8 (by decide), h8.2.2, show (0 : Int32) = nI 0 from rfl, nI_leI (by omega) (by omega)]
    omega
  have tail2 : (if Ia 8 2 ≤ 0 then (f_X4_refuseIf 0 4 (nI i) Ia).bind buyT else (f_X4_refuseIf 1 4 (nI i) Ia).bind buyT) = f_X4_readBuyer_91 FU (nI (nVal T z en)) (nI (nVal T z (nEnd T z en))) 0 If := by
    rw [show (nI 4 : Int32) = 4 from rfl] at b1
    by_cases q : 0 < k
    · rw [if_pos q] at b1
      rw [if_neg (fun w => hb.mp w q), b1, Option.bind_some, tail]
    · rw [if_neg q] at b1
      rw [if_pos (hb.mpr q), b1, Option.bind_some, tail]
  have hs : I 8 1 < 6 ↔ ¬ 6 ≤ b := by rw [h8.2.1, show (6 : Int32) = nI 6 from rfl, nI_ltI (by omega) (by omega)]; omega
  rw [show (nI 3 : Int32) = 3 from rfl] at a1
  unfold f_X4_readBuyer
  by_cases q : 6 ≤ b
  · rw [if_pos q] at a1
    rw [if_neg (fun w => hs.mp w q), a1, Option.bind_some]
    exact tail2
  · rw [if_neg q] at a1
    rw [if_pos (hs.mpr q), a1, Option.bind_some]
    exact tail2
theorem tb80_bad {I : IT} {f : Nat} (hf : ¬ f = 0) (h4 : f ≤ 4) (v1 : Int32) : f_X10_takeBuyer_80 FU v1 (nI f) 0 I = some (nI f, I) := by
  rw [show FU = 99999 + 1 from rfl, f_X10_takeBuyer_80]
  by_cases q : I 55 26 ≤ 0
  · rw [if_pos q]
  · rw [if_neg q, if_neg (nI_ne0 (by omega) (by omega))]
theorem BM.mc {b : Nat} {I I' : IT} (h : BM b I I') : FMc I I' := ⟨fun c c5 _ _ c70 _ _ => h.1 c c5 c70, fun j hj => h.2.1 j (fun e => hj ((by decide : ∀ j ∈ [20, 21, 24, 25], j ∈ JL) j e))⟩
theorem BX.xc {b : Nat} {I I' : IT} (h : BX b I I') : FXc I I' := fun c c7 _ _ _ c11 => h.1 c c7 c11
theorem eB_id (T : Nat → Nat) (z i : Nat) : eB T z (eB T z i) = eB T z i := by
  have b := sk_bd (isB T) (z - i) i
  have e := sk_end (isB T) (z - i) i
  have d : eB T z i = sk (isB T) (z - i) i := rfl
  by_cases q : eB T z i < z
  · have n := e (by omega)
    rw [← d] at n
    show sk (isB T) (z - eB T z i) (eB T z i) = eB T z i
    rw [show z - eB T z i = (z - eB T z i - 1) + 1 by omega, sk, if_neg n]
  · show sk (isB T) (z - eB T z i) (eB T z i) = eB T z i
    rw [show z - eB T z i = 0 by omega, sk]
theorem here_eq {I : IT} {T : Nat → Nat} {z i : Nat} (h : MS I T z i) (hi : i ≤ 700) : f_X10_here (upI I 55 21 (nI (eB T z i))) = f_X10_here I := by
  have hz := h.1.1
  have eb := eB_bd T z i
  obtain ⟨I1, a1, a2, a3⟩ := hereM h.1 h.2 (by omega)
  have f1 := FQ.up (js := [21]) I (j := 21) (nI (eB T z i)) (by decide)
  obtain ⟨I2, b1, b2, b3⟩ := hereM (I := upI I 55 21 (nI (eB T z i))) (f1.mt (by decide) h.1) upI_s (by omega)
  rw [eB_id] at b1 b2
  have e : I2 = I1 := by
    funext c
    by_cases q : c = 55
    · subst q
      funext j
      by_cases w : j = 21
      · subst w; rw [b2, a2]
      · rw [b3.2 j (by simpa using w), a3.2 j (by simpa using w), upI_j w]
    · rw [b3.1 c q, a3.1 c q, upI_o q]
  rw [a1, b1, e]
theorem up_self {I : IT} {k j : Nat} {v : Int32} (h : I k j = v) : upI I k j v = I := by
  funext c
  by_cases q : c = k
  · subst q
    funext i
    by_cases w : i = j
    · subst w; rw [upI_s, h]
    · rw [upI_j w]
  · rw [upI_o q]
/-- blanks ahead of the first worth: skipped or not, it is the same -/
theorem tb80_sk {I : IT} {T : Nat → Nat} {z i s b : Nat} (h : MS I T z i) (hi : i ≤ 700) (h26 : I 55 26 = nI s) (hs : 0 < s) (hs6 : s ≤ 6) : f_X10_takeBuyer_80 FU (nI b) 0 0 I = f_X10_takeBuyer_80 FU (nI b) 0 0 (upI I 55 21 (nI (eB T z i))) := by
  have c0 : ¬ nI s ≤ 0 := nI_nle hs (by omega)
  have z0 : (0 : Int32) ≤ 0 := by decide
  rw [show FU = 99999 + 1 from rfl, f_X10_takeBuyer_80, f_X10_takeBuyer_80, upI_j (show (26 : Nat) ≠ 21 by decide), h26, if_neg c0, if_pos rfl, if_pos z0, if_pos z0, if_neg c0, if_pos rfl, if_pos z0, if_pos z0, Int32.add_zero, Int32.add_zero, Int32.add_zero, up_self rfl, up_self rfl]
  unfold f_X10_into_70 f_X10_takeNumber
  rw [here_eq h hi]
theorem buyK {I6 I1 : IT} {J1 : JT} {T : Nat → Nat} {z en i s b k : Nat} (hq : PQ I6 I1 s b k) (hc : CS I6 T z en 0 (0, 0)) (hm : MS I1 T z i) (h23 : I1 55 23 = nI en) (hen : en ≤ z) : OUT I6 I1 J1 (f_X4_readBuyer (nI i) I6) (if I1 55 27 = 6 then some (3, upI I1 55 20 (I1 55 21), J1) else if I1 55 28 ≤ 0 then (f_X10_takeBuyer (upI I1 55 21 (I1 55 23))).bind (tcE J1) else some (4, upI I1 55 20 (I1 55 21), J1)) T z en := by
  obtain ⟨⟨hk, h8, hn⟩, hB, hC, hA⟩ := id hq
  have hz := hc.1.1
  obtain ⟨Id, a1, a2, a3⟩ := buy_cls (i := i) hc ⟨hk.1, hk.2.1, hk.2.2.1⟩ h8
  have bad : ∀ x : Nat × Nat, ¬ x.1 = 0 → CS Id T z (eB T z (nEnd T z (nEnd T z en))) 0 x → ∃ Ie, f_X4_readBuyer (nI i) I6 = some Ie ∧ FXc I6 Ie ∧ ∃ i' n, n ≤ 50 ∧ CS Ie T z i' n x := by
    intro x hx hcs
    obtain ⟨Ie, e1, e2, e3⟩ := rb91_bad hcs (by omega) hx 99999 (nI (nVal T z en)) (nI (nVal T z (nEnd T z en))) 0
    exact ⟨Ie, by rw [a1]; exact e1, a2.xc.tr e2.xc, _, 1, by omega, e3⟩
  by_cases q6 : 6 ≤ b
  · rw [if_pos q6, c2_n (x := (3, i)) (show ¬ (3 : Nat) = 0 by decide)] at a3
    obtain ⟨Ie, e1, e2, e3⟩ := bad (3, i) (show ¬ (3 : Nat) = 0 by decide) a3
    rw [if_pos (by rw [hn.2.1, show b = 6 by omega]; rfl)]
    exact ⟨Ie, _, J1, (3, i), e1, rfl, (show (3 : Nat) ≤ 4 by decide), e2, (FQ.up (js := [20]) I1 _ (by decide)).mc (by decide), rfl, fun w => absurd w (show ¬ (3 : Nat) = 0 by decide), fun _ => ⟨e3, by rw [upI_s, hm.2]⟩⟩
  · rw [if_neg q6, c2_0 (x := (0, i)) rfl] at a3
    rw [if_neg (by rw [hn.2.1, show (6 : Int32) = nI 6 from rfl, nI_eq (by omega) (by omega)]; omega)]
    have e0 : I1 55 28 ≤ 0 ↔ ¬ 0 < k := by rw [hn.2.2, show (0 : Int32) = nI 0 from rfl, nI_leI (by omega) (by omega)]; omega
    by_cases qb : 0 < k
    · rw [if_pos qb, c2_n (x := (4, i)) (show ¬ (4 : Nat) = 0 by decide)] at a3
      obtain ⟨Ie, e1, e2, e3⟩ := bad (4, i) (show ¬ (4 : Nat) = 0 by decide) a3
      rw [if_neg (fun w => e0.mp w qb)]
      exact ⟨Ie, _, J1, (4, i), e1, rfl, (show (4 : Nat) ≤ 4 by decide), e2, (FQ.up (js := [20]) I1 _ (by decide)).mc (by decide), rfl, fun w => absurd w (show ¬ (4 : Nat) = 0 by decide), fun _ => ⟨e3, by rw [upI_s, hm.2]⟩⟩
    · rw [if_neg qb, c2_0 (x := (0, i)) rfl] at a3
      rw [if_pos (e0.mpr qb), h23]
      obtain ⟨Im0, hIm0⟩ : ∃ Im0 : IT, Im0 = upI (upI I1 55 21 (nI en)) 55 27 (nI (b + 1)) := ⟨_, rfl⟩
      have f0 : FQ [21, 27] I1 Im0 := by
        rw [hIm0]
        exact (FQ.up I1 _ (by decide)).tr (FQ.up (upI I1 55 21 (nI en)) _ (by decide))
      have hm0 : MS Im0 T z en := ⟨f0.mt (by decide) hm.1, by rw [hIm0, upI_j (by decide), upI_s]⟩
      have i27 : Im0 55 27 = nI (b + 1) := by rw [hIm0, upI_s]
      have nb1 := nEnd_bd T z en
      have nb2 := nEnd_bd T z (nEnd T z en)
      obtain ⟨Im1, b1, b2, b3, b4, b5, b6, b7⟩ := into72 hm0 (by omega) (lo := 1) (hi := 2) (by omega) (by omega) (e := 6 + b) (by omega)
      have n14 : (nFlt T z 1 2 en).1 ≤ 2 := nF_le ..
      have n24 : (nFlt T z 0 9999 (nEnd T z en)).1 ≤ 2 := nF_le ..
      have tb : f_X10_takeBuyer (upI I1 55 21 (nI en)) = (if nI (nFlt T z 1 2 en).1 ≤ 0 then (f_X10_into_69 (nI b) 0 9999 Im1).bind fun r48 => if r48.1 = 0 then (if (r48.2 55 26) = 0 then (f_X10_here r48.2).bind fun r64 => (f_X10_fails 1 (r64.2 55 21) r64.2).bind fun r74 => some (r74.1, r74.2) else f_X10_takeBuyer_80 FU (nI b) r48.1 0 r48.2) else f_X10_takeBuyer_80 FU (nI b) r48.1 0 r48.2 else (if nI (nFlt T z 1 2 en).1 = 0 then (if (Im1 55 26) = 0 then (f_X10_here Im1).bind fun r64 => (f_X10_fails 1 (r64.2 55 21) r64.2).bind fun r74 => some (r74.1, r74.2) else f_X10_takeBuyer_80 FU (nI b) (nI (nFlt T z 1 2 en).1) 0 Im1) else f_X10_takeBuyer_80 FU (nI b) (nI (nFlt T z 1 2 en).1) 0 Im1)) := by
        unfold f_X10_takeBuyer
        rw [show (nI 1 : Int32) = 1 from rfl, show (nI 2 : Int32) = 2 from rfl] at b1
        rw [show (upI I1 55 21 (nI en)) 55 27 = nI b from by rw [upI_j (by decide)]; exact hn.2.1, show (6 : Int32) = nI 6 from rfl, nI_add, nI_1, ← hIm0, b1, Option.bind_some]
      rw [tb]
      have fm1 : FMc I1 Im1 := (f0.mc (by decide)).tr ⟨fun c c5 _ _ _ _ c72 => b2 c c5 c72, fun j hj => b4 j (fun e => hj ((by decide : ∀ j ∈ [20, 21, 24, 25], j ∈ JL) j e))⟩
      by_cases q1 : (nFlt T z 1 2 en).1 = 0
      · obtain ⟨g1, g2, g3⟩ := b6 q1
        rw [c2_0 q1] at a3
        rw [if_pos (by rw [q1]; decide)]
        obtain ⟨Im2, d1, d2, d3, d4, d5, d6, d7⟩ := into69 g1 (by omega) (lo := 0) (hi := 9999) (by omega) (by omega) (e := b) (by omega)
        rw [show (nI 0 : Int32) = 0 from rfl, show (nI 9999 : Int32) = 9999 from rfl] at d1
        rw [d1, Option.bind_some]
        dsimp only
        have fm2 : FMc I1 Im2 := fm1.tr ⟨fun c c5 _ c69 _ _ _ => d2 c c5 c69, fun j hj => d4 j (fun e => hj ((by decide : ∀ j ∈ [20, 21, 24, 25], j ∈ JL) j e))⟩
        by_cases q2 : (nFlt T z 0 9999 (nEnd T z en)).1 = 0
        · obtain ⟨h1, h2, h3⟩ := d6 q2
          rw [c2_0 q2] at a3
          rw [q2, nI_0, if_pos rfl]
          have i26 : Im2 55 26 = nI s := by rw [d4 26 (by decide), b4 26 (by decide), f0.2 26 (by decide)]; exact hn.1
          by_cases qs : s = 0
          · rw [if_pos qs] at a3
            obtain ⟨Ie, e1, e2, e3⟩ := bad _ (show ¬ (1 : Nat) = 0 by decide) a3
            obtain ⟨Im3, k1, k2, k3⟩ := hereM h1.1 h1.2 (by omega)
            rw [if_pos (show Im2 55 26 = 0 by rw [i26, qs]; rfl), k1, Option.bind_some]
            dsimp only
            rw [k2]
            obtain ⟨Im4, m1, m2, m3⟩ := tcE_bad (J := J1) (I := upI Im3 55 20 (nI (eB T z (nEnd T z (nEnd T z en))))) (y := (1, eB T z (nEnd T z (nEnd T z en)))) (show ¬ (1 : Nat) = 0 by decide) (show (1 : Nat) ≤ 4 by decide) upI_s
            refine ⟨Ie, Im4, J1, _, e1, m1, (show (1 : Nat) ≤ 4 by decide), e2, ((fm2.tr (k3.mc (by decide))).tr ((FQ.up (js := [20]) Im3 _ (by decide)).mc (by decide))).tr (m3.mc (by decide)), rfl, fun w => absurd w (show ¬ (1 : Nat) = 0 by decide), fun _ => ⟨e3, m2⟩⟩
          · rw [if_neg qs] at a3
            rw [if_neg (show ¬ Im2 55 26 = 0 by rw [i26]; exact nI_ne0 (by omega) (by omega))]
            have eb := eB_bd T z (nEnd T z (nEnd T z en))
            rw [tb80_sk h1 (by omega) i26 (by omega) (by omega)]
            obtain ⟨Im3, hIm3⟩ : ∃ Im3 : IT, Im3 = upI Im2 55 21 (nI (eB T z (nEnd T z (nEnd T z en)))) := ⟨_, rfl⟩
            rw [← hIm3]
            have f3 : FQ [21] Im2 Im3 := by rw [hIm3]; exact FQ.up Im2 _ (by decide)
            have hm3 : MS Im3 T z (eB T z (nEnd T z (nEnd T z en))) := ⟨f3.mt (by decide) h1.1, by rw [hIm3, upI_s]⟩
            have fm3 : FMc I1 Im3 := fm2.tr (f3.mc (by decide))
            have e8 : Id 8 = I6 8 := a2.1 8 (by decide)
            rcases buyL hk.1 (show b < 6 by omega) hz (nI (nVal T z en)) (nI (nVal T z (nEnd T z en))) s 0 (eB T z (nEnd T z (nEnd T z en))) Id Im3 FU FU (by omega) (by unfold FU; omega) (by unfold FU; omega) (by omega) (a3.nz rfl) hm3 (by rw [e8]; exact h8.1) (by rw [e8]; exact h8.2.1) (by rw [f3.2 26 (by decide), i26]) (fun l hl => by omega) with ⟨Ix', Im', i', n1, r1, r2, r3, r4, r5, r6, r7, r8, r9, r10⟩ | ⟨x, Ix', Im', r1, r2, r3, r4, r5, r6, r7, r8⟩
            · rw [nI_0] at r1 r2
              rw [r2, Option.bind_some]
              obtain ⟨Iy, y1, y2, y3⟩ := csSgn r3 (by omega) (c := 59) (by omega)
              rw [cs00] at y3
              rw [show (nI 59 : Int32) = 59 from rfl] at y1
              obtain ⟨Im4, m1, m2, m3, m4⟩ := tcE_ok (J := J1) r4 (by omega)
              rw [m1]
              have s4 : (sFlt T z 59 i').1 ≤ 4 := by
                have := sF_le T z 59 (eB T z i')
                unfold sFlt; dsimp only; omega
              have fm4 : FMc I1 Im4 := (fm3.tr r9.mc).tr (m2.mc (by decide))
              have x8 : Iy 8 = I6 8 := by rw [y2.1 8 (by decide), r8.1 8 (by decide) (by decide), e8]
              have cls : f_X4_readBuyer (nI i) I6 = (if Iy 7 3 = 0 then some (upI (upI (upI Iy 9 (s + b + k) (nI (nVal T z en))) 10 (s + b + k) (nI (nVal T z (nEnd T z en)))) 8 1 (nI (b + 1))) else some Iy) := by
                rw [a1, r1, f_X4_readBuyer_91, r8.1 8 (by decide) (by decide), e8, h8.1, if_pos (nI_le (Nat.le_refl _) (by omega)), y1, Option.bind_some]
                by_cases qq : Iy 7 3 = 0
                · rw [if_pos qq, if_pos qq, addP (s := s) (b := b) (k := k) (by rw [x8]; exact h8) (by omega), Option.bind_some, upI_o (by decide), upI_o (by decide), x8, h8.2.1, nI_1]
                · rw [if_neg qq, if_neg qq]
              by_cases q9 : (sFlt T z 59 i').1 = 0
              · obtain ⟨k1, k2, k3⟩ := m3 q9
                have nz : Iy 7 3 = 0 := y3.zf.mpr q9
                rw [cls, if_pos nz]
                have ebi := eB_bd T z i'
                have v1 := nVal_ok q1
                have v2 := nVal_ok q2
                obtain ⟨u1, u2, u3, u4, u5, u6, u7⟩ := up3 (I := Iy) (p := s + b + k) (q := 1) (v := nI (nVal T z en)) (w := nI (nVal T z (nEnd T z en))) (u := nI (b + 1))
                have cs0 : CS Iy T z (eB T z i' + 1) 0 (0, 0) := ⟨y3.1, y3.2.1, by omega, by rw [nz]; rfl, fun w => absurd rfl w, by decide⟩
                have M4 : ∀ c, c ≠ 55 → Im4 c = Im' c := m2.1
                have M45 : ∀ j, j ∉ [20, 21] → Im4 55 j = Im' 55 j := m2.2
                have M3 : ∀ c, c ≠ 55 → c ≠ 70 → Im' c = Im2 c := fun c c5 c70 => by rw [r9.1 c c5 c70, f3.1 c c5]
                have M35 : ∀ j, j ∉ [20, 21, 24, 25] → Im' 55 j = Im2 55 j := fun j hj => by rw [r9.2.1 j hj, f3.2 j (fun e => hj ((by decide : ∀ j ∈ [21], j ∈ [20, 21, 24, 25]) j e))]
                have M25 : ∀ j, j ∉ [20, 21, 24, 25, 27] → Im2 55 j = I1 55 j := fun j hj => by
                  have hj' : j ∉ [20, 21, 24, 25] := fun e => hj ((by decide : ∀ j ∈ [20, 21, 24, 25], j ∈ [20, 21, 24, 25, 27]) j e)
                  rw [d4 j hj', b4 j hj', f0.2 j (fun e => hj ((by decide : ∀ j ∈ [21, 27], j ∈ [20, 21, 24, 25, 27]) j e))]
                have X9 : Iy 9 = I6 9 := by rw [y2.1 9 (by decide), r8.1 9 (by decide) (by decide), a2.1 9 (by decide)]
                have X10 : Iy 10 = I6 10 := by rw [y2.1 10 (by decide), r8.1 10 (by decide) (by decide), a2.1 10 (by decide)]
                have X7 : ∀ j, j ≠ 2 → j ≠ 3 → j ≠ 4 → Iy 7 j = I6 7 j := fun j j2 j3 j4 => by rw [y2.2 j j2 j3 j4, r8.2.1 j j2 j3 j4, a2.2 j j2 j3 j4]
                have z0 : s + b + k = s + b := by omega
                rw [z0] at u4 u5 u6 u7
                rw [z0]
                rw [z0] at u1 u2 u3
                refine ⟨_, Im4, J1, sFlt T z 59 i', rfl, rfl, s4, fun c c7 c8 c9 c10 c11 => by rw [u1 c c8 c9 c10, y2.1 c c7, r8.1 c c7 c11, a2.1 c c7], fm4, rfl, fun _ => ⟨?_, eB T z i' + 1, s, b + 1, k, by omega, k3, cs0.fr (u1 1 (by decide) (by decide) (by decide)) (u1 2 (by decide) (by decide) (by decide)) (u1 7 (by decide) (by decide) (by decide)), k1, ⟨⟨by omega, by omega, by omega, by omega⟩, ⟨by rw [u2 0 (by decide), x8]; exact h8.1, u3, by rw [u2 2 (by decide), x8]; exact h8.2.2⟩, by rw [M45 26 (by decide), M35 26 (by decide), i26], by rw [M45 27 (by decide), M35 27 (by decide), d4 27 (by decide), b4 27 (by decide), i27], by rw [M45 28 (by decide), M35 28 (by decide), M25 28 (by decide)]; exact hn.2.2⟩, ?_, ?_, ?_⟩, fun w => absurd q9 w⟩
                · rw [k2, r10, f3.2 20 (by decide), h3, g3, f0.2 20 (by decide)]
                · unfold PB
                  rw [u1 7 (by decide) (by decide) (by decide), X7 5 (by decide) (by decide) (by decide), u2 3 (by decide), x8, M45 34 (by decide), M35 34 (by decide), M25 34 (by decide)]
                  exact hB
                · unfold PC
                  rw [u1 7 (by decide) (by decide) (by decide), X7 6 (by decide) (by decide) (by decide), u2 4 (by decide), x8, M45 35 (by decide), M35 35 (by decide), M25 35 (by decide)]
                  exact hC
                · refine ⟨fun p hp => ?_, fun j hj => ?_, fun j hj => by omega, fun j l hj hl => ?_⟩
                  · rw [M4 72 (by decide), M4 68 (by decide), M3 72 (by decide) (by decide), M3 68 (by decide) (by decide), u4 p (by omega), u6 p (by omega), X9, X10, d2 72 (by decide) (by decide), d2 68 (by decide) (by decide), b3 p (by omega), b2 68 (by decide) (by decide), f0.1 72 (by decide), f0.1 68 (by decide)]
                    exact hA.1 p hp
                  · rw [M4 72 (by decide), M4 69 (by decide), M3 72 (by decide) (by decide), M3 69 (by decide) (by decide), d2 72 (by decide) (by decide)]
                    by_cases e : j = b
                    · subst e
                      rw [u5, u7, g2, h2]
                      exact ⟨rfl, hand_v v1, rfl, _, v2.2, rfl⟩
                    · rw [u4 (s + j) (by omega), u6 (s + j) (by omega), X9, X10, b3 (6 + j) (by omega), d3 j e, b2 69 (by decide) (by decide), f0.1 72 (by decide), f0.1 69 (by decide)]
                      exact hA.2.1 j (by omega)
                  · rw [M4 70 (by decide), u1 11 (by decide) (by decide) (by decide), y2.1 11 (by decide)]
                    by_cases e : j = b
                    · subst e
                      exact r7 l hl
                    · rw [r8.2.2 _ (by omega), r9.2.2 _ (by omega), a2.1 11 (by decide), f3.1 70 (by decide), d2 70 (by decide) (by decide), b2 70 (by decide) (by decide), f0.1 70 (by decide)]
                      exact hA.2.2.2 j l (by omega) hl
              · have nz : ¬ Iy 7 3 = 0 := fun w => q9 (y3.zf.mp w)
                rw [cls, if_neg nz]
                exact ⟨Iy, Im4, J1, sFlt T z 59 i', rfl, rfl, s4, (a2.xc.tr r8.xc).tr y2.xc, fm4, rfl, fun w => absurd w q9, fun _ => ⟨⟨_, _, by omega, y3⟩, m4 q9⟩⟩
            · rw [nI_0] at r3 r4
              rw [r4, Option.bind_some]
              obtain ⟨Im4, m1, m2, m3⟩ := tcE_bad (J := J1) r1 r2 r8
              rw [m1]
              exact ⟨Ix', Im4, J1, x, by rw [a1, r3], rfl, r2, a2.xc.tr r6.xc, (fm3.tr r7.mc).tr (m3.mc (by decide)), rfl, fun w => absurd w r1, fun _ => ⟨r5, m2⟩⟩
        · rw [c2_n q2] at a3
          obtain ⟨Ie, e1, e2, e3⟩ := bad _ q2 a3
          rw [if_neg (nI_ne0 (by omega) (by omega)), tb80_bad q2 (by omega), Option.bind_some]
          obtain ⟨Im4, m1, m2, m3⟩ := tcE_bad (J := J1) q2 (by omega) (d7 q2)
          rw [m1]
          exact ⟨Ie, Im4, J1, _, e1, rfl, by omega, e2, fm2.tr (m3.mc (by decide)), rfl, fun w => absurd w q2, fun _ => ⟨e3, m2⟩⟩
      · rw [c2_n q1] at a3
        obtain ⟨Ie, e1, e2, e3⟩ := bad _ q1 a3
        rw [if_neg (nI_nle (by omega) (by omega)), if_neg (nI_ne0 (by omega) (by omega)), tb80_bad q1 (by omega), Option.bind_some]
        obtain ⟨Im4, m1, m2, m3⟩ := tcE_bad (J := J1) q1 (by omega) (b7 q1)
        rw [m1]
        exact ⟨Ie, Im4, J1, _, e1, rfl, by omega, e2, fm1.tr (m3.mc (by decide)), rfl, fun w => absurd w q1, fun _ => ⟨e3, m2⟩⟩
