/-! both readers side by side -/
def PN (Ix Im : IT) (s b k : Nat) : Prop := (s ≤ 6 ∧ b ≤ 6 ∧ k ≤ 2 ∧ (b = 0 ∨ 0 < s)) ∧ (Ix 8 0 = nI s ∧ Ix 8 1 = nI b ∧ Ix 8 2 = nI k) ∧ (Im 55 26 = nI s ∧ Im 55 27 = nI b ∧ Im 55 28 = nI k)
def PB (Ix Im : IT) : Prop := (Ix 7 5 = 0 ∧ Ix 8 3 = 12 ∧ Im 55 34 = -1) ∨ (Ix 7 5 = 1 ∧ ∃ v, 1 ≤ v ∧ v ≤ 99 ∧ Ix 8 3 = nI v ∧ Im 55 34 = nI v)
def PC (Ix Im : IT) : Prop := (Ix 7 6 = 0 ∧ Ix 8 4 = 2 ∧ Im 55 35 = -1) ∨ (Ix 7 6 = 1 ∧ ∃ v, v ≤ 99 ∧ Ix 8 4 = nI v ∧ Im 55 35 = nI v)
def PA (Ix Im : IT) (s b k : Nat) : Prop :=
  (∀ p, p < s → Ix 9 p = Im 72 p ∧ (Im 72 p = 1 ∨ Im 72 p = 2) ∧ Ix 10 p = Im 68 p ∧ ∃ v, v ≤ 999 ∧ Im 68 p = nI v)
  ∧ (∀ j, j < b → Ix 9 (s + j) = Im 72 (6 + j) ∧ (Im 72 (6 + j) = 1 ∨ Im 72 (6 + j) = 2) ∧ Ix 10 (s + j) = Im 69 j ∧ ∃ v, v ≤ 9999 ∧ Im 69 j = nI v)
  ∧ (∀ j, j < k → Ix 9 (s + b + j) = Im 72 (12 + j) ∧ (Im 72 (12 + j) = 1 ∨ Im 72 (12 + j) = 2) ∧ Ix 10 (s + b + j) = Im 71 j ∧ ∃ v, v ≤ 50 ∧ Im 71 j = nI v)
  ∧ ∀ j l, j < b → l < s → Ix 11 (6 * j + l) = Im 70 (6 * j + l) ∧ ∃ v, v ≤ 999 ∧ Im 70 (6 * j + l) = nI v
def PQ (Ix Im : IT) (s b k : Nat) : Prop := PN Ix Im s b k ∧ PB Ix Im ∧ PC Ix Im ∧ PA Ix Im s b k
def PR (Ix Im : IT) (T : Nat → Nat) (z i s b k : Nat) : Prop := CS Ix T z i 0 (0, 0) ∧ MS Im T z i ∧ PQ Ix Im s b k
theorem PQ.fr {Ix Im Ix' Im' : IT} {s b k : Nat} (h : PQ Ix Im s b k) (h5 : Ix' 7 5 = Ix 7 5) (h6 : Ix' 7 6 = Ix 7 6) (h8 : Ix' 8 = Ix 8) (h9 : Ix' 9 = Ix 9) (h10 : Ix' 10 = Ix 10) (h11 : Ix' 11 = Ix 11) (m1 : ∀ j, j ∈ [26, 27, 28, 34, 35] → Im' 55 j = Im 55 j) (m2 : ∀ c, c ∈ [68, 69, 70, 71, 72] → Im' c = Im c) : PQ Ix' Im' s b k := by
  unfold PQ PN PB PC PA
  rw [h5, h6, h8, h9, h10, h11, m1 26 (by decide), m1 27 (by decide), m1 28 (by decide), m1 34 (by decide), m1 35 (by decide), m2 68 (by decide), m2 69 (by decide), m2 70 (by decide), m2 71 (by decide), m2 72 (by decide)]
  exact h
/-- what a clause does to both -/
def OUT (Ix Im : IT) (J : JT) (rx : Option IT) (rm : Option (Int32 × IT × JT)) (T : Nat → Nat) (z i : Nat) : Prop := ∃ Ix' Im' J' x, rx = some Ix' ∧ rm = some (nI x.1, Im', J') ∧ x.1 ≤ 4 ∧ FXc Ix Ix' ∧ FMc Im Im' ∧ J' 47 = J 47 ∧ (x.1 = 0 → Im' 55 20 = Im 55 20 ∧ ∃ i' s' b' k', i < i' ∧ i' ≤ z ∧ PR Ix' Im' T z i' s' b' k') ∧ (x.1 ≠ 0 → (∃ i' n, n ≤ 50 ∧ CS Ix' T z i' n x) ∧ Im' 55 20 = nI x.2)
theorem cs00 {x : Nat × Nat} : c2 (0, 0) x = x := rfl
theorem q2F_as (T : Nat → Nat) (z a b c d i : Nat) : q2F T z a b c d i = c2 (c2 (nFlt T z a b i) (nFlt T z c d (nEnd T z i))) (sFlt T z 59 (nEnd T z (nEnd T z i))) := by unfold q2F; rw [c2_as]
theorem up3 {I : IT} {p q : Nat} {v w u : Int32} : (∀ c, c ≠ 8 → c ≠ 9 → c ≠ 10 → upI (upI (upI I 9 p v) 10 p w) 8 q u c = I c) ∧ (∀ j, j ≠ q → upI (upI (upI I 9 p v) 10 p w) 8 q u 8 j = I 8 j) ∧ upI (upI (upI I 9 p v) 10 p w) 8 q u 8 q = u ∧ (∀ j, j ≠ p → upI (upI (upI I 9 p v) 10 p w) 8 q u 9 j = I 9 j) ∧ upI (upI (upI I 9 p v) 10 p w) 8 q u 9 p = v ∧ (∀ j, j ≠ p → upI (upI (upI I 9 p v) 10 p w) 8 q u 10 j = I 10 j) ∧ upI (upI (upI I 9 p v) 10 p w) 8 q u 10 p = w := by
  refine ⟨fun c c8 c9 c10 => by rw [upI_o c8, upI_o c10, upI_o c9], fun j hj => by rw [upI_j hj, upI_o (by decide), upI_o (by decide)], upI_s, fun j hj => by rw [upI_o (by decide), upI_o (by decide), upI_j hj], by rw [upI_o (by decide), upI_o (by decide), upI_s], fun j hj => by rw [upI_o (by decide), upI_j hj, upI_o (by decide)], by rw [upI_o (by decide), upI_s]⟩
theorem CS.fr {I I' : IT} {T : Nat → Nat} {z i n : Nat} {x : Nat × Nat} (h : CS I T z i n x) (h1 : I' 1 = I 1) (h2 : I' 2 = I 2) (h7 : I' 7 = I 7) : CS I' T z i n x := by
  unfold CS; rw [h7]; exact ⟨h.1.fr h1 h2, h.2⟩
/-! a seller -/
def selT (I : IT) : Option IT := (f_X4_readNumber 0 999 I).bind fun r57 => (f_X4_readNumber 1 2 r57.2).bind fun r64 => (f_X4_readSign 59 r64.2).bind fun r71 => if (r71 7 3) = 0 then (f_X4_addPerson r64.1 r57.1 r71).bind fun r84 => some (upI r84 8 0 ((r84 8 0) + 1)) else some r71
theorem sel_cls {I : IT} {T : Nat → Nat} {z en i s b k : Nat} (hc : CS I T z en 0 (0, 0)) (hk : s ≤ 6 ∧ b ≤ 6 ∧ k ≤ 2) (h8 : I 8 0 = nI s ∧ I 8 1 = nI b ∧ I 8 2 = nI k) : ∃ Ic, f_X4_readSeller (nI i) I = some (if Ic 7 3 = 0 then upI (upI (upI Ic 9 (s + b + k) (nI (nVal T z (nEnd T z en)))) 10 (s + b + k) (nI (nVal T z en))) 8 0 (nI (s + 1)) else Ic) ∧ FR I Ic ∧ CS Ic T z (q2E T z en) 1 (c2 (if 6 ≤ s then 3 else 0, i) (c2 (if 0 < b + k then 4 else 0, i) (q2F T z 0 999 1 2 en))) := by
  obtain ⟨Ia, a1, a2, a3⟩ := csRef hc (decide (6 ≤ s)) (k := 3) (at0 := i) (by omega)
  obtain ⟨Ib, b1, b2, b3⟩ := csRef a3 (decide (0 < b + k)) (k := 4) (at0 := i) (by omega)
  obtain ⟨Ic, Id, Ie, c1, c2', c3, c4, c5⟩ := two_cls b3 (by omega) (lo := 0) (hi := 999) (lo2 := 1) (hi2 := 2) (by omega) (by omega) (by omega) (by omega)
  rw [cs00, c2_as] at c5
  simp only [decide_eq_true_eq] at c5 a1 b1
  have fr : FR I Ie := (a2.tr b2).tr c4
  have e8 : Ie 8 = I 8 := fr.1 8 (by decide)
  refine ⟨Ie, ?_, fr, c5⟩
  have tail : selT Ib = some (if Ie 7 3 = 0 then upI (upI (upI Ie 9 (s + b + k) (nI (nVal T z (nEnd T z en)))) 10 (s + b + k) (nI (nVal T z en))) 8 0 (nI (s + 1)) else Ie) := by
    unfold selT
    rw [show (nI 0 : Int32) = 0 from rfl, show (nI 999 : Int32) = 999 from rfl] at c1
    rw [show (nI 1 : Int32) = 1 from rfl, show (nI 2 : Int32) = 2 from rfl] at c2'
    rw [c1, Option.bind_some]
    dsimp only
    rw [c2', Option.bind_some]
    dsimp only
    rw [c3, Option.bind_some]
    by_cases q : Ie 7 3 = 0
    · have x0 := c5.zf.mp q
      rw [c2_z, c2_z] at x0
      have s6 : s < 6 := by
        have := x0.1
        dsimp only at this
        split at this <;> omega
      rw [if_pos q, if_pos q, addP (s := s) (b := b) (k := k) (by rw [e8]; exact h8) (by omega), Option.bind_some, upI_o (by decide), upI_o (by decide), e8, h8.1, nI_1]
    · rw [if_neg q, if_neg q]
  have hb : (Ia 8 1 + Ia 8 2 ≤ 0) ↔ ¬ 0 < b + k := by
    rw [a2.1 8 (by decide), h8.2.1, h8.2.2, nI_add, show (0 : Int32) = nI 0 from rfl, nI_leI (by omega) (by omega)]
    omega
  have tail2 : (if Ia 8 1 + Ia 8 2 ≤ 0 then (f_X4_refuseIf 0 4 (nI i) Ia).bind selT else (f_X4_refuseIf 1 4 (nI i) Ia).bind selT) = some (if Ie 7 3 = 0 then upI (upI (upI Ie 9 (s + b + k) (nI (nVal T z (nEnd T z en)))) 10 (s + b + k) (nI (nVal T z en))) 8 0 (nI (s + 1)) else Ie) := by
    rw [show (nI 4 : Int32) = 4 from rfl] at b1
    by_cases q : 0 < b + k
    · rw [if_pos q] at b1
      rw [if_neg (fun w => hb.mp w q), b1, Option.bind_some, tail]
    · rw [if_neg q] at b1
      rw [if_pos (hb.mpr q), b1, Option.bind_some, tail]
  have hs : I 8 0 < 6 ↔ ¬ 6 ≤ s := by rw [h8.1, show (6 : Int32) = nI 6 from rfl, nI_ltI (by omega) (by omega)]; omega
  rw [show (nI 3 : Int32) = 3 from rfl] at a1
  unfold f_X4_readSeller
  by_cases q : 6 ≤ s
  · rw [if_pos q] at a1
    rw [if_neg (fun w => hs.mp w q), a1, Option.bind_some]
    exact tail2
  · rw [if_neg q] at a1
    rw [if_pos (hs.mpr q), a1, Option.bind_some]
    exact tail2
theorem hand_v {v : Nat} (h : 1 ≤ v ∧ v ≤ 2) : nI v = 1 ∨ nI v = 2 := by
  have : v = 1 ∨ v = 2 := by omega
  rcases this with rfl | rfl
  · exact Or.inl rfl
  · exact Or.inr rfl
theorem selK {I6 I1 : IT} {J1 : JT} {T : Nat → Nat} {z en i s b k : Nat} (hq : PQ I6 I1 s b k) (hc : CS I6 T z en 0 (0, 0)) (hm : MS I1 T z i) (h23 : I1 55 23 = nI en) (hen : en ≤ z) : OUT I6 I1 J1 (f_X4_readSeller (nI i) I6) (if I1 55 26 = 6 then some (3, upI I1 55 20 (I1 55 21), J1) else if 0 < I1 55 27 + I1 55 28 then some (4, upI I1 55 20 (I1 55 21), J1) else (f_X10_takeSeller (upI I1 55 21 (I1 55 23))).bind (tcE J1)) T z en := by
  obtain ⟨⟨hk, h8, hn⟩, hB, hC, hA⟩ := id hq
  have hz := hc.1.1
  obtain ⟨Ic, a1, a2, a3⟩ := sel_cls (i := i) hc ⟨hk.1, hk.2.1, hk.2.2.1⟩ h8
  by_cases q6 : 6 ≤ s
  · rw [if_pos q6, c2_n (x := (3, i)) (show ¬ (3 : Nat) = 0 by decide)] at a3
    have nz : ¬ Ic 7 3 = 0 := fun w => absurd (a3.zf.mp w) (show ¬ (3 : Nat) = 0 by decide)
    rw [if_neg nz] at a1
    rw [if_pos (by rw [hn.1, show s = 6 by omega]; rfl)]
    exact ⟨Ic, _, J1, (3, i), a1, rfl, (show (3 : Nat) ≤ 4 by decide), a2.xc, (FQ.up (js := [20]) I1 _ (by decide)).mc (by decide), rfl, fun w => absurd w (show ¬ (3 : Nat) = 0 by decide), fun _ => ⟨⟨_, 1, by omega, a3⟩, by rw [upI_s, hm.2]⟩⟩
  · rw [if_neg q6, c2_0 (x := (0, i)) rfl] at a3
    rw [if_neg (by rw [hn.1, show (6 : Int32) = nI 6 from rfl, nI_eq (by omega) (by omega)]; omega)]
    have e0 : 0 < I1 55 27 + I1 55 28 ↔ 0 < b + k := by rw [hn.2.1, hn.2.2, nI_add, show (0 : Int32) = nI 0 from rfl, nI_ltI (by omega) (by omega)]
    by_cases qb : 0 < b + k
    · rw [if_pos qb, c2_n (x := (4, i)) (show ¬ (4 : Nat) = 0 by decide)] at a3
      have nz : ¬ Ic 7 3 = 0 := fun w => absurd (a3.zf.mp w) (show ¬ (4 : Nat) = 0 by decide)
      rw [if_neg nz] at a1
      rw [if_pos (e0.mpr qb)]
      exact ⟨Ic, _, J1, (4, i), a1, rfl, (show (4 : Nat) ≤ 4 by decide), a2.xc, (FQ.up (js := [20]) I1 _ (by decide)).mc (by decide), rfl, fun w => absurd w (show ¬ (4 : Nat) = 0 by decide), fun _ => ⟨⟨_, 1, by omega, a3⟩, by rw [upI_s, hm.2]⟩⟩
    · rw [if_neg qb, c2_0 (x := (0, i)) rfl, q2F_as] at a3
      rw [if_neg (fun w => qb (e0.mp w)), h23]
      have hm1 : MS (upI I1 55 21 (nI en)) T z en := ⟨hm.1.fr (by rw [upI_j (by decide)]) (upI_o (by decide)), upI_s⟩
      have fu : FMc I1 (upI I1 55 21 (nI en)) := (FQ.up (js := [21]) I1 _ (by decide)).mc (by decide)
      obtain ⟨I2, b1, b2, b3, b4, b5, b6, b7, b8⟩ := selM hm1 (by omega) hz (show s < 6 by omega) (by rw [upI_j (by decide)]; exact hn.1)
      rw [b1, Option.bind_some]
      have y4 : (c2 (nFlt T z 0 999 en) (nFlt T z 1 2 (nEnd T z en))).1 ≤ 4 := by
        have n1 := nF_le T z 0 999 (eB T z en)
        have n2 := nF_le T z 1 2 (eB T z (nEnd T z en))
        unfold c2 nFlt
        dsimp only
        split <;> dsimp only <;> omega
      by_cases qy : (c2 (nFlt T z 0 999 en) (nFlt T z 1 2 (nEnd T z en))).1 = 0
      · obtain ⟨g1, g2, g3, g4, g5⟩ := b7 qy
        have nb1 := nEnd_bd T z en
        have nb2 := nEnd_bd T z (nEnd T z en)
        obtain ⟨I3, d1, d2, d3, d4⟩ := tcE_ok (J := J1) g1 (by omega)
        rw [c2_0 qy] at a3
        rw [qy, nI_0, d1]
        have s4 : (sFlt T z 59 (nEnd T z (nEnd T z en))).1 ≤ 4 := by
          have := sF_le T z 59 (eB T z (nEnd T z (nEnd T z en)))
          unfold sFlt; dsimp only; omega
        have fm : FMc I1 I3 := (fu.tr b2).tr (d2.mc (by decide))
        by_cases qs : (sFlt T z 59 (nEnd T z (nEnd T z en))).1 = 0
        · obtain ⟨k1, k2, k3⟩ := d3 qs
          have nz : Ic 7 3 = 0 := a3.zf.mpr qs
          rw [if_pos nz] at a1
          have eb := eB_bd T z (nEnd T z (nEnd T z en))
          rw [c2_z] at qy
          have v1 := nVal_ok qy.1
          have v2 := nVal_ok qy.2
          obtain ⟨u1, u2, u3, u4, u5, u6, u7⟩ := up3 (I := Ic) (p := s + b + k) (q := 0) (v := nI (nVal T z (nEnd T z en))) (w := nI (nVal T z en)) (u := nI (s + 1))
          have z0 : s + b + k = s := by omega
          have cs0 : CS Ic T z (q2E T z en) 0 (0, 0) := ⟨a3.1, a3.2.1, by show eB T z (nEnd T z (nEnd T z en)) + 1 ≤ 500 + 0; omega, by rw [nz]; rfl, fun w => absurd rfl w, by decide⟩
          have I3c : ∀ c, c ≠ 55 → I3 c = I2 c := d2.1
          have I35 : ∀ j, j ∉ [20, 21] → I3 55 j = I2 55 j := d2.2
          refine ⟨_, I3, J1, sFlt T z 59 (nEnd T z (nEnd T z en)), a1, rfl, s4, fun c c7 c8 c9 c10 c11 => by rw [u1 c c8 c9 c10, a2.1 c c7], fm, rfl, fun _ => ⟨?_, q2E T z en, s + 1, b, k, by show en < eB T z (nEnd T z (nEnd T z en)) + 1; omega, k3, cs0.fr (u1 1 (by decide) (by decide) (by decide)) (u1 2 (by decide) (by decide) (by decide)) (u1 7 (by decide) (by decide) (by decide)), k1, ⟨⟨by omega, by omega, by omega, by omega⟩, ⟨u3, by rw [u2 1 (by decide), a2.1 8 (by decide)]; exact h8.2.1, by rw [u2 2 (by decide), a2.1 8 (by decide)]; exact h8.2.2⟩, by rw [I35 26 (by decide)]; exact g4, by rw [I35 27 (by decide), b6 27 (by decide), upI_j (by decide)]; exact hn.2.1, by rw [I35 28 (by decide), b6 28 (by decide), upI_j (by decide)]; exact hn.2.2⟩, ?_, ?_, ?_⟩, fun w => absurd qs w⟩
          · rw [k2, g5, upI_j (by decide)]
          · unfold PB
            rw [u1 7 (by decide) (by decide) (by decide), a2.2 5 (by decide) (by decide) (by decide), u2 3 (by decide), a2.1 8 (by decide), I35 34 (by decide), b6 34 (by decide), upI_j (by decide)]
            exact hB
          · unfold PC
            rw [u1 7 (by decide) (by decide) (by decide), a2.2 6 (by decide) (by decide) (by decide), u2 4 (by decide), a2.1 8 (by decide), I35 35 (by decide), b6 35 (by decide), upI_j (by decide)]
            exact hC
          · refine ⟨fun p hp => ?_, fun j hj => by omega, fun j hj => by omega, fun j l hj => by omega⟩
            rw [I3c 72 (by decide), I3c 68 (by decide)]
            by_cases e : p = s
            · subst e
              rw [g3, g2]
              rw [z0] at u5 u7 ⊢
              rw [u5, u7]
              exact ⟨rfl, hand_v v2, rfl, _, v1.2, rfl⟩
            · rw [u4 p (by omega), u6 p (by omega), a2.1 9 (by decide), a2.1 10 (by decide), b5 p e, b4 p e, upI_o (by decide), upI_o (by decide)]
              exact hA.1 p (by omega)
        · have nz : ¬ Ic 7 3 = 0 := fun w => qs (a3.zf.mp w)
          rw [if_neg nz] at a1
          exact ⟨Ic, I3, J1, sFlt T z 59 (nEnd T z (nEnd T z en)), a1, rfl, s4, a2.xc, fm, rfl, fun w => absurd w qs, fun _ => ⟨⟨_, 1, by omega, a3⟩, d4 qs⟩⟩
      · rw [c2_n qy] at a3
        have nz : ¬ Ic 7 3 = 0 := fun w => qy (a3.zf.mp w)
        rw [if_neg nz] at a1
        obtain ⟨I3, d1, d2, d3⟩ := tcE_bad (J := J1) qy y4 (b8 qy)
        rw [d1]
        exact ⟨Ic, I3, J1, _, a1, rfl, y4, a2.xc, (fu.tr b2).tr (d3.mc (by decide)), rfl, fun w => absurd w qy, fun _ => ⟨⟨_, 1, by omega, a3⟩, d2⟩⟩
