/-! a broker -/
def broT (I : IT) : Option IT := (f_X4_readNumber 1 2 I).bind fun r25 => (f_X4_readNumber 0 50 r25.2).bind fun r33 => (f_X4_readSign 59 r33.2).bind fun r40 => if (r40 7 3) = 0 then (f_X4_addPerson r25.1 r33.1 r40).bind fun r53 => some (upI r53 8 2 ((r53 8 2) + 1)) else some r40
theorem bro_cls {I : IT} {T : Nat → Nat} {z en i s b k : Nat} (hc : CS I T z en 0 (0, 0)) (hk : s ≤ 6 ∧ b ≤ 6 ∧ k ≤ 2) (h8 : I 8 0 = nI s ∧ I 8 1 = nI b ∧ I 8 2 = nI k) : ∃ Ic, f_X4_readBroker (nI i) I = some (if Ic 7 3 = 0 then upI (upI (upI Ic 9 (s + b + k) (nI (nVal T z en))) 10 (s + b + k) (nI (nVal T z (nEnd T z en)))) 8 2 (nI (k + 1)) else Ic) ∧ FR I Ic ∧ CS Ic T z (q2E T z en) 1 (c2 (if 2 ≤ k then 3 else 0, i) (q2F T z 1 2 0 50 en)) := by
  obtain ⟨Ia, a1, a2, a3⟩ := csRef hc (decide (2 ≤ k)) (k := 3) (at0 := i) (by omega)
  obtain ⟨Ic, Id, Ie, c1, c2', c3, c4, c5⟩ := two_cls a3 (by omega) (lo := 1) (hi := 2) (lo2 := 0) (hi2 := 50) (by omega) (by omega) (by omega) (by omega)
  rw [cs00] at c5
  simp only [decide_eq_true_eq] at c5 a1
  have fr : FR I Ie := a2.tr c4
  have e8 : Ie 8 = I 8 := fr.1 8 (by decide)
  refine ⟨Ie, ?_, fr, c5⟩
  have tail : broT Ia = some (if Ie 7 3 = 0 then upI (upI (upI Ie 9 (s + b + k) (nI (nVal T z en))) 10 (s + b + k) (nI (nVal T z (nEnd T z en)))) 8 2 (nI (k + 1)) else Ie) := by
    unfold broT
    rw [show (nI 1 : Int32) = 1 from rfl, show (nI 2 : Int32) = 2 from rfl] at c1
    rw [show (nI 0 : Int32) = 0 from rfl, show (nI 50 : Int32) = 50 from rfl] at c2'
    rw [c1, Option.bind_some]
    dsimp only
    rw [c2', Option.bind_some]
    dsimp only
    rw [c3, Option.bind_some]
    by_cases q : Ie 7 3 = 0
    · have x0 := c5.zf.mp q
      rw [c2_z] at x0
      have s6 : k < 2 := by
        have := x0.1
        dsimp only at this
        split at this <;> omega
      rw [if_pos q, if_pos q, addP (s := s) (b := b) (k := k) (by rw [e8]; exact h8) (by omega), Option.bind_some, upI_o (by decide), upI_o (by decide), e8, h8.2.2, nI_1]
    · rw [if_neg q, if_neg q]
  have hs : I 8 2 < 2 ↔ ¬ 2 ≤ k := by rw [h8.2.2, show (2 : Int32) = nI 2 from rfl, nI_ltI (by omega) (by omega)]; omega
  rw [show (nI 3 : Int32) = 3 from rfl] at a1
  unfold f_X4_readBroker
  by_cases q : 2 ≤ k
  · rw [if_pos q] at a1
    rw [if_neg (fun w => hs.mp w q), a1, Option.bind_some]
    exact tail
  · rw [if_neg q] at a1
    rw [if_pos (hs.mpr q), a1, Option.bind_some]
    exact tail
theorem broK {I6 I1 : IT} {J1 : JT} {T : Nat → Nat} {z en i s b k : Nat} (hq : PQ I6 I1 s b k) (hc : CS I6 T z en 0 (0, 0)) (hm : MS I1 T z i) (h23 : I1 55 23 = nI en) (hen : en ≤ z) : OUT I6 I1 J1 (f_X4_readBroker (nI i) I6) (if I1 55 28 = 2 then some (3, upI I1 55 20 (I1 55 21), J1) else (f_X10_takeBroker (upI I1 55 21 (I1 55 23))).bind (tcE J1)) T z en := by
  obtain ⟨⟨hk, h8, hn⟩, hB, hC, hA⟩ := id hq
  have hz := hc.1.1
  obtain ⟨Ic, a1, a2, a3⟩ := bro_cls (i := i) hc ⟨hk.1, hk.2.1, hk.2.2.1⟩ h8
  by_cases q6 : 2 ≤ k
  · rw [if_pos q6, c2_n (x := (3, i)) (show ¬ (3 : Nat) = 0 by decide)] at a3
    have nz : ¬ Ic 7 3 = 0 := fun w => absurd (a3.zf.mp w) (show ¬ (3 : Nat) = 0 by decide)
    rw [if_neg nz] at a1
    rw [if_pos (by rw [hn.2.2, show k = 2 by omega]; rfl)]
    exact ⟨Ic, _, J1, (3, i), a1, rfl, (show (3 : Nat) ≤ 4 by decide), a2.xc, (FQ.up (js := [20]) I1 _ (by decide)).mc (by decide), rfl, fun w => absurd w (show ¬ (3 : Nat) = 0 by decide), fun _ => ⟨⟨_, 1, by omega, a3⟩, by rw [upI_s, hm.2]⟩⟩
  · rw [if_neg q6, c2_0 (x := (0, i)) rfl, q2F_as] at a3
    rw [if_neg (by rw [hn.2.2, show (2 : Int32) = nI 2 from rfl, nI_eq (by omega) (by omega)]; omega), h23]
    have hm1 : MS (upI I1 55 21 (nI en)) T z en := ⟨hm.1.fr (by rw [upI_j (by decide)]) (upI_o (by decide)), upI_s⟩
    have fu : FMc I1 (upI I1 55 21 (nI en)) := (FQ.up (js := [21]) I1 _ (by decide)).mc (by decide)
    obtain ⟨I2, b1, b2, b3, b4, b5, b6, b7, b8⟩ := broM hm1 (by omega) hz (show k < 2 by omega) (by rw [upI_j (by decide)]; exact hn.2.2)
    rw [b1, Option.bind_some]
    have y4 : (c2 (nFlt T z 1 2 en) (nFlt T z 0 50 (nEnd T z en))).1 ≤ 4 := by
      have n1 := nF_le T z 1 2 (eB T z en)
      have n2 := nF_le T z 0 50 (eB T z (nEnd T z en))
      unfold c2 nFlt
      dsimp only
      split <;> dsimp only <;> omega
    by_cases qy : (c2 (nFlt T z 1 2 en) (nFlt T z 0 50 (nEnd T z en))).1 = 0
    · obtain ⟨g1, g2, g3, g4, g5⟩ := b7 qy
      have nb1 := nEnd_bd T z en
      have nb2 := nEnd_bd T z (nEnd T z en)
      obtain ⟨I3, d1, d2, d3, d4⟩ := tcE_ok (J := J1) g1 (by omega)
      rw [c2_0 qy] at a3
      rw [qy, nI_0, d1]
      have s4 : (sFlt T z 59 (nEnd T z (nEnd T z en))).1 ≤ 4 := by
        have := sF_le T z 59 (eB T z (nEnd T z (nEnd T z en)))
        unfold sFlt; dsimp only; omega
      have fm : FMc I1 I3 := (fu.tr b2).tr (d2.mc (by decide))
      by_cases qs : (sFlt T z 59 (nEnd T z (nEnd T z en))).1 = 0
      · obtain ⟨k1, k2, k3⟩ := d3 qs
        have nz : Ic 7 3 = 0 := a3.zf.mpr qs
        rw [if_pos nz] at a1
        have eb := eB_bd T z (nEnd T z (nEnd T z en))
        rw [c2_z] at qy
        have v1 := nVal_ok qy.1
        have v2 := nVal_ok qy.2
        obtain ⟨u1, u2, u3, u4, u5, u6, u7⟩ := up3 (I := Ic) (p := s + b + k) (q := 2) (v := nI (nVal T z en)) (w := nI (nVal T z (nEnd T z en))) (u := nI (k + 1))
        have cs0 : CS Ic T z (q2E T z en) 0 (0, 0) := ⟨a3.1, a3.2.1, by show eB T z (nEnd T z (nEnd T z en)) + 1 ≤ 500 + 0; omega, by rw [nz]; rfl, fun w => absurd rfl w, by decide⟩
        have I3c : ∀ c, c ≠ 55 → I3 c = I2 c := d2.1
        have I35 : ∀ j, j ∉ [20, 21] → I3 55 j = I2 55 j := d2.2
        refine ⟨_, I3, J1, sFlt T z 59 (nEnd T z (nEnd T z en)), a1, rfl, s4, fun c c7 c8 c9 c10 c11 => by rw [u1 c c8 c9 c10, a2.1 c c7], fm, rfl, fun _ => ⟨?_, q2E T z en, s, b, k + 1, by show en < eB T z (nEnd T z (nEnd T z en)) + 1; omega, k3, cs0.fr (u1 1 (by decide) (by decide) (by decide)) (u1 2 (by decide) (by decide) (by decide)) (u1 7 (by decide) (by decide) (by decide)), k1, ⟨⟨by omega, by omega, by omega, by omega⟩, ⟨by rw [u2 0 (by decide), a2.1 8 (by decide)]; exact h8.1, by rw [u2 1 (by decide), a2.1 8 (by decide)]; exact h8.2.1, u3⟩, by rw [I35 26 (by decide), b6 26 (by decide), upI_j (by decide)]; exact hn.1, by rw [I35 27 (by decide), b6 27 (by decide), upI_j (by decide)]; exact hn.2.1, by rw [I35 28 (by decide)]; exact g4⟩, ?_, ?_, ?_⟩, fun w => absurd qs w⟩
        · rw [k2, g5, upI_j (by decide)]
        · unfold PB
          rw [u1 7 (by decide) (by decide) (by decide), a2.2 5 (by decide) (by decide) (by decide), u2 3 (by decide), a2.1 8 (by decide), I35 34 (by decide), b6 34 (by decide), upI_j (by decide)]
          exact hB
        · unfold PC
          rw [u1 7 (by decide) (by decide) (by decide), a2.2 6 (by decide) (by decide) (by decide), u2 4 (by decide), a2.1 8 (by decide), I35 35 (by decide), b6 35 (by decide), upI_j (by decide)]
          exact hC
        · refine ⟨fun p hp => ?_, fun j hj => ?_, fun j hj => ?_, fun j l hj hl => ?_⟩
          · rw [I3c 72 (by decide), I3c 68 (by decide), u4 p (by omega), u6 p (by omega), a2.1 9 (by decide), a2.1 10 (by decide), b4 p (by omega), b3 68 (by decide) (by decide) (by decide), upI_o (by decide), upI_o (by decide)]
            exact hA.1 p hp
          · rw [I3c 72 (by decide), I3c 69 (by decide), u4 (s + j) (by omega), u6 (s + j) (by omega), a2.1 9 (by decide), a2.1 10 (by decide), b4 (6 + j) (by omega), b3 69 (by decide) (by decide) (by decide), upI_o (by decide), upI_o (by decide)]
            exact hA.2.1 j hj
          · rw [I3c 72 (by decide), I3c 71 (by decide)]
            by_cases e : j = k
            · subst e
              rw [g2, g3, u5, u7]
              exact ⟨rfl, hand_v v1, rfl, _, v2.2, rfl⟩
            · rw [u4 (s + b + j) (by omega), u6 (s + b + j) (by omega), a2.1 9 (by decide), a2.1 10 (by decide), b4 (12 + j) (by omega), b5 j e, upI_o (by decide), upI_o (by decide)]
              exact hA.2.2.1 j (by omega)
          · rw [I3c 70 (by decide), u1 11 (by decide) (by decide) (by decide), a2.1 11 (by decide), b3 70 (by decide) (by decide) (by decide), upI_o (by decide)]
            exact hA.2.2.2 j l hj hl
      · have nz : ¬ Ic 7 3 = 0 := fun w => qs (a3.zf.mp w)
        rw [if_neg nz] at a1
        exact ⟨Ic, I3, J1, sFlt T z 59 (nEnd T z (nEnd T z en)), a1, rfl, s4, a2.xc, fm, rfl, fun w => absurd w qs, fun _ => ⟨⟨_, 1, by omega, a3⟩, d4 qs⟩⟩
    · rw [c2_n qy] at a3
      have nz : ¬ Ic 7 3 = 0 := fun w => qy (a3.zf.mp w)
      rw [if_neg nz] at a1
      obtain ⟨I3, d1, d2, d3⟩ := tcE_bad (J := J1) qy y4 (b8 qy)
      rw [d1]
      exact ⟨Ic, I3, J1, _, a1, rfl, y4, a2.xc, (fu.tr b2).tr (d3.mc (by decide)), rfl, fun w => absurd w qy, fun _ => ⟨⟨_, 1, by omega, a3⟩, d2⟩⟩
/-! no word -/
theorem nonK {I6 I1 : IT} {J1 : JT} {T : Nat → Nat} {z en i s b k : Nat} (hq : PQ I6 I1 s b k) (hc : CS I6 T z en 0 (0, 0)) (hm : MS I1 T z i) : OUT I6 I1 J1 (f_X4_refuseIf 1 1 (nI i) I6) (some (1, upI I1 55 20 (I1 55 21), J1)) T z en := by
  obtain ⟨Ia, a1, a2, a3⟩ := csRef hc true (k := 1) (at0 := i) (by omega)
  rw [cs00] at a3
  exact ⟨Ia, _, J1, (1, i), a1, rfl, (show (1 : Nat) ≤ 4 by decide), a2.xc, (FQ.up (js := [20]) I1 _ (by decide)).mc (by decide), rfl, fun w => absurd w (show ¬ (1 : Nat) = 0 by decide), fun _ => ⟨⟨_, 0, by omega, a3⟩, by rw [upI_s, hm.2]⟩⟩
theorem CS.up7 {I : IT} {T : Nat → Nat} {z i n : Nat} {x : Nat × Nat} (h : CS I T z i n x) {j : Nat} (hj : j ≠ 2 ∧ j ≠ 3 ∧ j ≠ 4) (v : Int32) : CS (upI I 7 j v) T z i n x := by
  obtain ⟨h1, h2, h3, h4, h5, h6⟩ := h
  exact ⟨h1.fr (upI_o (by decide)) (upI_o (by decide)), by rw [upI_j (by omega)]; exact h2, h3, by rw [upI_j (by omega)]; exact h4, by rw [upI_j (by omega)]; exact h5, h6⟩
/-! binds -/
theorem binK {I6 I1 : IT} {J1 : JT} {T : Nat → Nat} {z en i s b k : Nat} (hq : PQ I6 I1 s b k) (hc : CS I6 T z en 0 (0, 0)) (hm : MS I1 T z i) (h23 : I1 55 23 = nI en) (hen : en ≤ z) : OUT I6 I1 J1 ((f_X4_refuseIf (I6 7 5) 3 (nI i) I6).bind fun r80 => (f_X4_readNumber 1 99 (upI r80 7 5 1)).bind fun r96 => f_X4_readSign 59 (upI r96.2 8 3 r96.1)) (if I1 55 34 < 0 then (f_X10_takeNumber 1 99 (upI I1 55 21 (I1 55 23))).bind (fun r => tcE J1 (r.1, upI r.2 55 34 (r.2 55 24))) else some (3, upI I1 55 20 (I1 55 21), J1)) T z en := by
  obtain ⟨⟨hk, h8, hn⟩, hB, hC, hA⟩ := id hq
  have hz := hc.1.1
  have told : ∃ t : Bool, I6 7 5 = (if t = true then 1 else 0) ∧ (I1 55 34 < 0 ↔ ¬ t = true) := by
    rcases hB with ⟨w1, w2, w3⟩ | ⟨w1, v, w2, w4, w5, w6⟩
    · exact ⟨false, w1, by rw [w3]; exact ⟨fun _ => by decide, fun _ => by decide⟩⟩
    · exact ⟨true, w1, by rw [w6]; exact ⟨fun w => absurd w (nI_pos (by omega)), fun w => absurd rfl w⟩⟩
  obtain ⟨t, t1, t2⟩ := told
  obtain ⟨Ia, a1, a2, a3⟩ := csRef hc t (k := 3) (at0 := i) (by omega)
  obtain ⟨Ib, b1, b2, b3⟩ := csNum (a3.up7 (j := 5) (by decide) 1) (by omega) (lo := 1) (hi := 99) (by omega) (by omega)
  have b3' : CS (upI Ib 8 3 (nI (nVal T z en))) T z (nEnd T z en) 0 (c2 (c2 (0, 0) (if t = true then 3 else 0, i)) (nFlt T z 1 99 en)) := b3.fr (upI_o (by decide)) (upI_o (by decide)) (upI_o (by decide))
  obtain ⟨Ic, d1, d2, d3⟩ := csSgn b3' (by omega) (c := 59) (by omega)
  rw [cs00, c2_as] at d3
  rw [show (nI 3 : Int32) = 3 from rfl, ← t1] at a1
  rw [show (nI 1 : Int32) = 1 from rfl, show (nI 99 : Int32) = 99 from rfl] at b1
  rw [show (nI 59 : Int32) = 59 from rfl] at d1
  rw [a1, Option.bind_some, b1, Option.bind_some]
  dsimp only
  rw [d1]
  have f7 : ∀ j, j ≠ 2 → j ≠ 3 → j ≠ 4 → j ≠ 5 → Ic 7 j = I6 7 j := fun j j2 j3 j4 j5 => by rw [d2.2 j j2 j3 j4, upI_o (by decide), b2.2 j j2 j3 j4, upI_j j5, a2.2 j j2 j3 j4]
  have f7x : Ic 7 5 = 1 := by rw [d2.2 5 (by decide) (by decide) (by decide), upI_o (by decide), b2.2 5 (by decide) (by decide) (by decide), upI_s]
  have f8 : ∀ j, j ≠ 3 → Ic 8 j = I6 8 j := fun j hj => by rw [d2.1 8 (by decide), upI_j hj, b2.1 8 (by decide), upI_o (by decide), a2.1 8 (by decide)]
  have f8x : Ic 8 3 = nI (nVal T z en) := by rw [d2.1 8 (by decide), upI_s]
  have fo : ∀ c, c ≠ 7 → c ≠ 8 → Ic c = I6 c := fun c c7 c8 => by rw [d2.1 c c7, upI_o c8, b2.1 c c7, upI_o c7, a2.1 c c7]
  have xc : FXc I6 Ic := fun c c7 c8 _ _ _ => fo c c7 c8
  by_cases q : t = true
  · rw [if_pos q, c2_n (x := (3, i)) (show ¬ (3 : Nat) = 0 by decide)] at d3
    rw [if_neg (fun w => t2.mp w q)]
    exact ⟨Ic, _, J1, (3, i), rfl, rfl, (show (3 : Nat) ≤ 4 by decide), xc, (FQ.up (js := [20]) I1 _ (by decide)).mc (by decide), rfl, fun w => absurd w (show ¬ (3 : Nat) = 0 by decide), fun _ => ⟨⟨_, 1, by omega, d3⟩, by rw [upI_s, hm.2]⟩⟩
  · rw [if_neg q, c2_0 (x := (0, i)) rfl] at d3
    rw [if_pos (t2.mpr q), h23]
    have hm1 : MS (upI I1 55 21 (nI en)) T z en := ⟨hm.1.fr (by rw [upI_j (by decide)]) (upI_o (by decide)), upI_s⟩
    have fu : FQ [20, 21, 24, 25, 34] I1 (upI I1 55 21 (nI en)) := FQ.up I1 _ (by decide)
    obtain ⟨I2, e1, e2, e3, e4, e5⟩ := msNum hm1 (by omega) (lo := 1) (hi := 99) (by omega) (by omega)
    rw [show (nI 1 : Int32) = 1 from rfl, show (nI 99 : Int32) = 99 from rfl] at e1
    rw [e1, Option.bind_some]
    dsimp only
    have f2 : FQ [20, 21, 24, 25, 34] I1 (upI I2 55 34 (I2 55 24)) := (fu.tr (e2.mo (by decide))).tr (FQ.up I2 _ (by decide))
    have n4 : (nFlt T z 1 99 en).1 ≤ 4 := by
      have := nF_le T z 1 99 (eB T z en)
      unfold nFlt; dsimp only; omega
    by_cases qn : (nFlt T z 1 99 en).1 = 0
    · obtain ⟨g1, g2, g3⟩ := e4 qn
      have nb := nEnd_bd T z en
      have g1' : MS (upI I2 55 34 (I2 55 24)) T z (nEnd T z en) := ⟨g1.1.fr (by rw [upI_j (by decide)]) (upI_o (by decide)), by rw [upI_j (by decide)]; exact g1.2⟩
      obtain ⟨I3, k1, k2, k3, k4⟩ := tcE_ok (J := J1) g1' (by omega)
      rw [c2_0 qn] at d3
      rw [qn, nI_0, k1]
      have s4 : (sFlt T z 59 (nEnd T z en)).1 ≤ 4 := by
        have := sF_le T z 59 (eB T z (nEnd T z en))
        unfold sFlt; dsimp only; omega
      have f3 : FQ [20, 21, 24, 25, 34] I1 I3 := f2.tr (k2.mo (by decide))
      by_cases qs : (sFlt T z 59 (nEnd T z en)).1 = 0
      · obtain ⟨m1, m2, m3⟩ := k3 qs
        have nz : Ic 7 3 = 0 := d3.zf.mpr qs
        have eb := eB_bd T z (nEnd T z en)
        have v1 := nVal_ok qn
        have cs0 : CS Ic T z (eB T z (nEnd T z en) + 1) 0 (0, 0) := ⟨d3.1, d3.2.1, by omega, by rw [nz]; rfl, fun w => absurd rfl w, by decide⟩
        have m34 : I3 55 34 = nI (nVal T z en) := by rw [k2.2 34 (by decide), upI_s, g2]
        refine ⟨Ic, I3, J1, sFlt T z 59 (nEnd T z en), rfl, rfl, s4, xc, f3.mc (by decide), rfl, fun _ => ⟨?_, eB T z (nEnd T z en) + 1, s, b, k, by omega, m3, cs0, m1, ⟨hk, ⟨by rw [f8 0 (by decide)]; exact h8.1, by rw [f8 1 (by decide)]; exact h8.2.1, by rw [f8 2 (by decide)]; exact h8.2.2⟩, by rw [f3.2 26 (by decide)]; exact hn.1, by rw [f3.2 27 (by decide)]; exact hn.2.1, by rw [f3.2 28 (by decide)]; exact hn.2.2⟩, ?_, ?_, ?_⟩, fun w => absurd qs w⟩
        · rw [m2, upI_j (by decide), g3, upI_j (by decide)]
        · exact Or.inr ⟨f7x, _, v1.1, v1.2, f8x, m34⟩
        · unfold PC
          rw [f7 6 (by decide) (by decide) (by decide) (by decide), f8 4 (by decide), f3.2 35 (by decide)]
          exact hC
        · unfold PA
          rw [fo 9 (by decide) (by decide), fo 10 (by decide) (by decide), fo 11 (by decide) (by decide), f3.1 68 (by decide), f3.1 69 (by decide), f3.1 70 (by decide), f3.1 71 (by decide), f3.1 72 (by decide)]
          exact hA
      · exact ⟨Ic, I3, J1, sFlt T z 59 (nEnd T z en), rfl, rfl, s4, xc, f3.mc (by decide), rfl, fun w => absurd w qs, fun _ => ⟨⟨_, 1, by omega, d3⟩, k4 qs⟩⟩
    · rw [c2_n qn] at d3
      obtain ⟨I3, k1, k2, k3⟩ := tcE_bad (J := J1) (I := upI I2 55 34 (I2 55 24)) qn n4 (by rw [upI_j (by decide)]; exact e5 qn)
      rw [k1]
      exact ⟨Ic, I3, J1, _, rfl, rfl, n4, xc, (f2.tr (k3.mo (by decide))).mc (by decide), rfl, fun w => absurd w qn, fun _ => ⟨⟨_, 1, by omega, d3⟩, k2⟩⟩
/-! cost -/
theorem cosK {I6 I1 : IT} {J1 : JT} {T : Nat → Nat} {z en i s b k : Nat} (hq : PQ I6 I1 s b k) (hc : CS I6 T z en 0 (0, 0)) (hm : MS I1 T z i) (h23 : I1 55 23 = nI en) (hen : en ≤ z) : OUT I6 I1 J1 ((f_X4_refuseIf (I6 7 6) 3 (nI i) I6).bind fun r80 => (f_X4_readNumber 0 99 (upI r80 7 6 1)).bind fun r96 => f_X4_readSign 59 (upI r96.2 8 4 r96.1)) (if I1 55 35 < 0 then (f_X10_takeNumber 0 99 (upI I1 55 21 (I1 55 23))).bind (fun r => tcE J1 (r.1, upI r.2 55 35 (r.2 55 24))) else some (3, upI I1 55 20 (I1 55 21), J1)) T z en := by
  obtain ⟨⟨hk, h8, hn⟩, hB, hC, hA⟩ := id hq
  have hz := hc.1.1
  have told : ∃ t : Bool, I6 7 6 = (if t = true then 1 else 0) ∧ (I1 55 35 < 0 ↔ ¬ t = true) := by
    rcases hC with ⟨w1, w2, w3⟩ | ⟨w1, v,  w4, w5, w6⟩
    · exact ⟨false, w1, by rw [w3]; exact ⟨fun _ => by decide, fun _ => by decide⟩⟩
    · exact ⟨true, w1, by rw [w6]; exact ⟨fun w => absurd w (nI_pos (by omega)), fun w => absurd rfl w⟩⟩
  obtain ⟨t, t1, t2⟩ := told
  obtain ⟨Ia, a1, a2, a3⟩ := csRef hc t (k := 3) (at0 := i) (by omega)
  obtain ⟨Ib, b1, b2, b3⟩ := csNum (a3.up7 (j := 6) (by decide) 1) (by omega) (lo := 0) (hi := 99) (by omega) (by omega)
  have b3' : CS (upI Ib 8 4 (nI (nVal T z en))) T z (nEnd T z en) 0 (c2 (c2 (0, 0) (if t = true then 3 else 0, i)) (nFlt T z 0 99 en)) := b3.fr (upI_o (by decide)) (upI_o (by decide)) (upI_o (by decide))
  obtain ⟨Ic, d1, d2, d3⟩ := csSgn b3' (by omega) (c := 59) (by omega)
  rw [cs00, c2_as] at d3
  rw [show (nI 3 : Int32) = 3 from rfl, ← t1] at a1
  rw [show (nI 0 : Int32) = 0 from rfl, show (nI 99 : Int32) = 99 from rfl] at b1
  rw [show (nI 59 : Int32) = 59 from rfl] at d1
  rw [a1, Option.bind_some, b1, Option.bind_some]
  dsimp only
  rw [d1]
  have f7 : ∀ j, j ≠ 2 → j ≠ 3 → j ≠ 4 → j ≠ 6 → Ic 7 j = I6 7 j := fun j j2 j3 j4 j5 => by rw [d2.2 j j2 j3 j4, upI_o (by decide), b2.2 j j2 j3 j4, upI_j j5, a2.2 j j2 j3 j4]
  have f7x : Ic 7 6 = 1 := by rw [d2.2 6 (by decide) (by decide) (by decide), upI_o (by decide), b2.2 6 (by decide) (by decide) (by decide), upI_s]
  have f8 : ∀ j, j ≠ 4 → Ic 8 j = I6 8 j := fun j hj => by rw [d2.1 8 (by decide), upI_j hj, b2.1 8 (by decide), upI_o (by decide), a2.1 8 (by decide)]
  have f8x : Ic 8 4 = nI (nVal T z en) := by rw [d2.1 8 (by decide), upI_s]
  have fo : ∀ c, c ≠ 7 → c ≠ 8 → Ic c = I6 c := fun c c7 c8 => by rw [d2.1 c c7, upI_o c8, b2.1 c c7, upI_o c7, a2.1 c c7]
  have xc : FXc I6 Ic := fun c c7 c8 _ _ _ => fo c c7 c8
  by_cases q : t = true
  · rw [if_pos q, c2_n (x := (3, i)) (show ¬ (3 : Nat) = 0 by decide)] at d3
    rw [if_neg (fun w => t2.mp w q)]
    exact ⟨Ic, _, J1, (3, i), rfl, rfl, (show (3 : Nat) ≤ 4 by decide), xc, (FQ.up (js := [20]) I1 _ (by decide)).mc (by decide), rfl, fun w => absurd w (show ¬ (3 : Nat) = 0 by decide), fun _ => ⟨⟨_, 1, by omega, d3⟩, by rw [upI_s, hm.2]⟩⟩
  · rw [if_neg q, c2_0 (x := (0, i)) rfl] at d3
    rw [if_pos (t2.mpr q), h23]
    have hm1 : MS (upI I1 55 21 (nI en)) T z en := ⟨hm.1.fr (by rw [upI_j (by decide)]) (upI_o (by decide)), upI_s⟩
    have fu : FQ [20, 21, 24, 25, 35] I1 (upI I1 55 21 (nI en)) := FQ.up I1 _ (by decide)
    obtain ⟨I2, e1, e2, e3, e4, e5⟩ := msNum hm1 (by omega) (lo := 0) (hi := 99) (by omega) (by omega)
    rw [show (nI 0 : Int32) = 0 from rfl, show (nI 99 : Int32) = 99 from rfl] at e1
    rw [e1, Option.bind_some]
    dsimp only
    have f2 : FQ [20, 21, 24, 25, 35] I1 (upI I2 55 35 (I2 55 24)) := (fu.tr (e2.mo (by decide))).tr (FQ.up I2 _ (by decide))
    have n4 : (nFlt T z 0 99 en).1 ≤ 4 := by
      have := nF_le T z 0 99 (eB T z en)
      unfold nFlt; dsimp only; omega
    by_cases qn : (nFlt T z 0 99 en).1 = 0
    · obtain ⟨g1, g2, g3⟩ := e4 qn
      have nb := nEnd_bd T z en
      have g1' : MS (upI I2 55 35 (I2 55 24)) T z (nEnd T z en) := ⟨g1.1.fr (by rw [upI_j (by decide)]) (upI_o (by decide)), by rw [upI_j (by decide)]; exact g1.2⟩
      obtain ⟨I3, k1, k2, k3, k4⟩ := tcE_ok (J := J1) g1' (by omega)
      rw [c2_0 qn] at d3
      rw [qn, nI_0, k1]
      have s4 : (sFlt T z 59 (nEnd T z en)).1 ≤ 4 := by
        have := sF_le T z 59 (eB T z (nEnd T z en))
        unfold sFlt; dsimp only; omega
      have f3 : FQ [20, 21, 24, 25, 35] I1 I3 := f2.tr (k2.mo (by decide))
      by_cases qs : (sFlt T z 59 (nEnd T z en)).1 = 0
      · obtain ⟨m1, m2, m3⟩ := k3 qs
        have nz : Ic 7 3 = 0 := d3.zf.mpr qs
        have eb := eB_bd T z (nEnd T z en)
        have v1 := nVal_ok qn
        have cs0 : CS Ic T z (eB T z (nEnd T z en) + 1) 0 (0, 0) := ⟨d3.1, d3.2.1, by omega, by rw [nz]; rfl, fun w => absurd rfl w, by decide⟩
        have m34 : I3 55 35 = nI (nVal T z en) := by rw [k2.2 35 (by decide), upI_s, g2]
        refine ⟨Ic, I3, J1, sFlt T z 59 (nEnd T z en), rfl, rfl, s4, xc, f3.mc (by decide), rfl, fun _ => ⟨?_, eB T z (nEnd T z en) + 1, s, b, k, by omega, m3, cs0, m1, ⟨hk, ⟨by rw [f8 0 (by decide)]; exact h8.1, by rw [f8 1 (by decide)]; exact h8.2.1, by rw [f8 2 (by decide)]; exact h8.2.2⟩, by rw [f3.2 26 (by decide)]; exact hn.1, by rw [f3.2 27 (by decide)]; exact hn.2.1, by rw [f3.2 28 (by decide)]; exact hn.2.2⟩, ?_, ?_, ?_⟩, fun w => absurd qs w⟩
        · rw [m2, upI_j (by decide), g3, upI_j (by decide)]
        · unfold PB
          rw [f7 5 (by decide) (by decide) (by decide) (by decide), f8 3 (by decide), f3.2 34 (by decide)]
          exact hB
        · exact Or.inr ⟨f7x, _, v1.2, f8x, m34⟩
        · unfold PA
          rw [fo 9 (by decide) (by decide), fo 10 (by decide) (by decide), fo 11 (by decide) (by decide), f3.1 68 (by decide), f3.1 69 (by decide), f3.1 70 (by decide), f3.1 71 (by decide), f3.1 72 (by decide)]
          exact hA
      · exact ⟨Ic, I3, J1, sFlt T z 59 (nEnd T z en), rfl, rfl, s4, xc, f3.mc (by decide), rfl, fun w => absurd w qs, fun _ => ⟨⟨_, 1, by omega, d3⟩, k4 qs⟩⟩
    · rw [c2_n qn] at d3
      obtain ⟨I3, k1, k2, k3⟩ := tcE_bad (J := J1) (I := upI I2 55 35 (I2 55 24)) qn n4 (by rw [upI_j (by decide)]; exact e5 qn)
      rw [k1]
      exact ⟨Ic, I3, J1, _, rfl, rfl, n4, xc, (f2.tr (k3.mo (by decide))).mc (by decide), rfl, fun w => absurd w qn, fun _ => ⟨⟨_, 1, by omega, d3⟩, k2⟩⟩
