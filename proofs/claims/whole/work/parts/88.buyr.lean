/-! a buyer -/
theorem CS.nz {I : IT} {T : Nat → Nat} {z i n : Nat} {x : Nat × Nat} (h : CS I T z i n x) (hx : x.1 = 0) : CS I T z i n (0, 0) := ⟨h.1, h.2.1, h.2.2.1, by rw [h.2.2.2.1, hx], fun w => absurd rfl w, by decide⟩
theorem CS.mn {I : IT} {T : Nat → Nat} {z i n m : Nat} {x : Nat × Nat} (h : CS I T z i n x) (hm : i ≤ 500 + m) : CS I T z i m x := ⟨h.1, h.2.1, hm, h.2.2.2⟩
theorem rb91_bad {I : IT} {T : Nat → Nat} {z i m : Nat} {x : Nat × Nat} (h : CS I T z i m x) (hm : m ≤ 40) (hx : ¬ x.1 = 0) (n : Nat) (v2 v3 v4 : Int32) : ∃ I', f_X4_readBuyer_91 (n + 1) v2 v3 v4 I = some I' ∧ FR I I' ∧ CS I' T z (eB T z i + 1) (m + 1) x := by
  obtain ⟨I', a1, a2, a3⟩ := csSgn h (by omega) (c := 59) (by omega)
  rw [c2_n hx] at a3
  have n0 : ¬ I 7 3 = 0 := fun w => hx (h.zf.mp w)
  have n1 : ¬ I' 7 3 = 0 := fun w => hx (a3.zf.mp w)
  rw [show (nI 59 : Int32) = 59 from rfl] at a1
  refine ⟨I', ?_, a2, a3⟩
  rw [f_X4_readBuyer_91]
  by_cases q : I 8 0 ≤ v4
  · rw [if_pos q, a1, Option.bind_some, if_neg n1]
  · rw [if_neg q, if_neg n0, a1, Option.bind_some, if_neg n1]
def BX (b : Nat) (I I' : IT) : Prop := (∀ c, c ≠ 7 → c ≠ 11 → I' c = I c) ∧ (∀ j, j ≠ 2 → j ≠ 3 → j ≠ 4 → I' 7 j = I 7 j) ∧ ∀ j, (j < 6 * b ∨ 6 * b + 6 ≤ j) → I' 11 j = I 11 j
def BM (b : Nat) (I I' : IT) : Prop := (∀ c, c ≠ 55 → c ≠ 70 → I' c = I c) ∧ (∀ j, j ∉ [20, 21, 24, 25] → I' 55 j = I 55 j) ∧ ∀ j, (j < 6 * b ∨ 6 * b + 6 ≤ j) → I' 70 j = I 70 j
theorem BX.rf (b : Nat) (I : IT) : BX b I I := ⟨fun _ _ _ => rfl, fun _ _ _ _ => rfl, fun _ _ => rfl⟩
theorem BX.tr {b : Nat} {I I' I'' : IT} (h : BX b I I') (h' : BX b I' I'') : BX b I I'' := ⟨fun c a d => (h'.1 c a d).trans (h.1 c a d), fun j a d e => (h'.2.1 j a d e).trans (h.2.1 j a d e), fun j hj => (h'.2.2 j hj).trans (h.2.2 j hj)⟩
theorem BM.rf (b : Nat) (I : IT) : BM b I I := ⟨fun _ _ _ => rfl, fun _ _ => rfl, fun _ _ => rfl⟩
theorem BM.tr {b : Nat} {I I' I'' : IT} (h : BM b I I') (h' : BM b I' I'') : BM b I I'' := ⟨fun c a d => (h'.1 c a d).trans (h.1 c a d), fun j hj => (h'.2.1 j hj).trans (h.2.1 j hj), fun j hj => (h'.2.2 j hj).trans (h.2.2 j hj)⟩
theorem FR.bx {b : Nat} {I I' : IT} (h : FR I I') : BX b I I' := ⟨fun c c7 _ => h.1 c c7, h.2, fun j _ => by rw [h.1 11 (by decide)]⟩
theorem FQ.bm {b : Nat} {I I' : IT} (h : FQ [20, 21, 24, 25] I I') : BM b I I' := ⟨fun c c5 _ => h.1 c c5, h.2, fun j _ => by rw [h.1 70 (by decide)]⟩
def wRel (Ix Im : IT) (b m : Nat) : Prop := ∀ l, l < m → Ix 11 (6 * b + l) = Im 70 (6 * b + l) ∧ ∃ v, v ≤ 999 ∧ Im 70 (6 * b + l) = nI v
/-- one worth on both sides, behind the comma -/
theorem buy1 {Ix Im : IT} {T : Nat → Nat} {z i b l m : Nat} (hb : b < 6) (hl : l < 6) (hc : CS Ix T z i m (0, 0)) (hm40 : m ≤ 30) (hm : MS Im T z i) (hi : i ≤ 600) (hw : wRel Ix Im b l) : ∃ Ia Im1, f_X4_readNumber 0 999 Ix = some (nI (nVal T z i), Ia) ∧ f_X10_into_70 (nI (6 * b + l)) 0 999 Im = some (nI (nFlt T z 0 999 i).1, Im1) ∧ FR Ix Ia ∧ CS (upI Ia 11 (6 * b + l) (nI (nVal T z i))) T z (nEnd T z i) m (nFlt T z 0 999 i) ∧ BX b Ix (upI Ia 11 (6 * b + l) (nI (nVal T z i))) ∧ BM b Im Im1 ∧ ((nFlt T z 0 999 i).1 = 0 → MS Im1 T z (nEnd T z i) ∧ wRel (upI Ia 11 (6 * b + l) (nI (nVal T z i))) Im1 b (l + 1) ∧ Im1 55 20 = Im 55 20) ∧ ((nFlt T z 0 999 i).1 ≠ 0 → Im1 55 20 = nI (nFlt T z 0 999 i).2) := by
  obtain ⟨Ia, a1, a2, a3⟩ := csNum hc (by omega) (lo := 0) (hi := 999) (by omega) (by omega)
  obtain ⟨Im1, b1, b2, b3, b4, b5, b6, b7⟩ := into70 hm (by omega) (lo := 0) (hi := 999) (by omega) (by omega) (e := 6 * b + l) (by omega)
  rw [cs00] at a3
  rw [show (nI 0 : Int32) = 0 from rfl, show (nI 999 : Int32) = 999 from rfl] at a1 b1
  refine ⟨Ia, Im1, a1, b1, a2, a3.fr (upI_o (by decide)) (upI_o (by decide)) (upI_o (by decide)), ⟨fun c c7 c11 => by rw [upI_o c11, a2.1 c c7], fun j j2 j3 j4 => by rw [upI_o (by decide), a2.2 j j2 j3 j4], fun j hj => by rw [upI_j (by omega), a2.1 11 (by decide)]⟩, ⟨b2, b4, fun j hj => b3 j (by omega)⟩, fun q => ?_, b7⟩
  obtain ⟨g1, g2, g3⟩ := b6 q
  refine ⟨g1, fun l' hl' => ?_, g3⟩
  by_cases e : l' = l
  · subst e
    rw [upI_s, g2]
    exact ⟨rfl, _, (nVal_ok q).2, rfl⟩
  · rw [upI_j (by omega), a2.1 11 (by decide), b3 _ (by omega)]
    exact hw l' (by omega)
theorem buyL {T : Nat → Nat} {z s b : Nat} (hs : s ≤ 6) (hb : b < 6) (hz : z ≤ 500) (v2 v3 : Int32) : ∀ d l i Ix Im n n', l + d = s → d < n → d < n' → i ≤ z → CS Ix T z i l (0, 0) → MS Im T z i → Ix 8 0 = nI s → Ix 8 1 = nI b → Im 55 26 = nI s → wRel Ix Im b l →
    (∃ Ix' Im' i' n1, f_X4_readBuyer_91 n v2 v3 (nI l) Ix = f_X4_readBuyer_91 (n1 + 1) v2 v3 (nI s) Ix' ∧ f_X10_takeBuyer_80 n' (nI b) 0 (nI l) Im = some (0, Im') ∧ CS Ix' T z i' s (0, 0) ∧ MS Im' T z i' ∧ i ≤ i' ∧ i' ≤ z ∧ wRel Ix' Im' b s ∧ BX b Ix Ix' ∧ BM b Im Im' ∧ Im' 55 20 = Im 55 20)
    ∨ (∃ x Ix' Im', ¬ x.1 = 0 ∧ x.1 ≤ 4 ∧ f_X4_readBuyer_91 n v2 v3 (nI l) Ix = some Ix' ∧ f_X10_takeBuyer_80 n' (nI b) 0 (nI l) Im = some (nI x.1, Im') ∧ (∃ i' m, m ≤ 50 ∧ CS Ix' T z i' m x) ∧ BX b Ix Ix' ∧ BM b Im Im' ∧ Im' 55 20 = nI x.2) := by
  intro d
  induction d with
  | zero =>
    intro l i Ix Im n n' hl hn hn' hi hc hm h8 h81 h26 hw
    obtain ⟨n, rfl⟩ : ∃ m, n = m + 1 := ⟨n - 1, by omega⟩
    obtain ⟨n', rfl⟩ : ∃ m, n' = m + 1 := ⟨n' - 1, by omega⟩
    obtain rfl : l = s := by omega
    refine Or.inl ⟨Ix, Im, i, n, rfl, ?_, hc, hm, Nat.le_refl _, hi, hw, BX.rf b Ix, BM.rf b Im, rfl⟩
    rw [f_X10_takeBuyer_80, h26, if_pos (nI_le (Nat.le_refl _) (by omega))]
  | succ d ih =>
    intro l i Ix Im n n' hl hn hn' hi hc hm h8 h81 h26 hw
    obtain ⟨n, rfl⟩ : ∃ m, n = m + 2 := ⟨n - 2, by omega⟩
    obtain ⟨n', rfl⟩ : ∃ m, n' = m + 2 := ⟨n' - 2, by omega⟩
    have c0 : ¬ nI s ≤ nI l := by rw [nI_leI (by omega) (by omega)]; omega
    have z0 : Ix 7 3 = 0 := hc.zf.mpr rfl
    have go : ∀ (i1 m1 : Nat) (Iy In : IT), i ≤ i1 → i1 ≤ z → m1 ≤ 30 → CS Iy T z i1 m1 (0, 0) → MS In T z i1 → FR Ix Iy → FQ [20, 21, 24, 25] Im In → In 55 20 = Im 55 20 →
        (∀ Ia, f_X4_readNumber 0 999 Iy = some (nI (nVal T z i1), Ia) → f_X4_readBuyer_91 (n + 2) v2 v3 (nI l) Ix = f_X4_readBuyer_91 (n + 1) v2 v3 (nI (l + 1)) (upI Ia 11 (6 * b + l) (nI (nVal T z i1)))) →
        (∀ Im1 f, f_X10_into_70 (nI (6 * b + l)) 0 999 In = some (f, Im1) → f_X10_takeBuyer_80 (n' + 2) (nI b) 0 (nI l) Im = f_X10_takeBuyer_80 (n' + 1) (nI b) f (nI (l + 1)) Im1) →
        (∃ Ix' Im' i' n1, f_X4_readBuyer_91 (n + 2) v2 v3 (nI l) Ix = f_X4_readBuyer_91 (n1 + 1) v2 v3 (nI s) Ix' ∧ f_X10_takeBuyer_80 (n' + 2) (nI b) 0 (nI l) Im = some (0, Im') ∧ CS Ix' T z i' s (0, 0) ∧ MS Im' T z i' ∧ i ≤ i' ∧ i' ≤ z ∧ wRel Ix' Im' b s ∧ BX b Ix Ix' ∧ BM b Im Im' ∧ Im' 55 20 = Im 55 20)
        ∨ (∃ x Ix' Im', ¬ x.1 = 0 ∧ x.1 ≤ 4 ∧ f_X4_readBuyer_91 (n + 2) v2 v3 (nI l) Ix = some Ix' ∧ f_X10_takeBuyer_80 (n' + 2) (nI b) 0 (nI l) Im = some (nI x.1, Im') ∧ (∃ i' m, m ≤ 50 ∧ CS Ix' T z i' m x) ∧ BX b Ix Ix' ∧ BM b Im Im' ∧ Im' 55 20 = nI x.2) := by
      intro i1 m1 Iy In g1 g2 g3 g4 g5 g6 g7 g8 rx rm
      have wy : wRel Iy In b l := fun l' hl' => by
        rw [g6.1 11 (by decide), g7.1 70 (by decide)]
        exact hw l' hl'
      obtain ⟨Ia, Im1, b1, b2, b3, b4, b5, b6, b7, b8⟩ := buy1 hb (show l < 6 by omega) g4 g3 g5 (by omega) wy
      have nb := nEnd_bd T z i1
      have n4 : (nFlt T z 0 999 i1).1 ≤ 4 := by
        have := nF_le T z 0 999 (eB T z i1)
        unfold nFlt; dsimp only; omega
      rw [rx Ia b1, rm _ _ b2]
      by_cases q : (nFlt T z 0 999 i1).1 = 0
      · obtain ⟨k1, k2, k3⟩ := b7 q
        rw [q, nI_0]
        rcases ih (l + 1) (nEnd T z i1) (upI Ia 11 (6 * b + l) (nI (nVal T z i1))) Im1 (n + 1) (n' + 1) (by omega) (by omega) (by omega) (by omega) ((b4.nz q).mn (by omega)) k1 (by rw [b5.1 8 (by decide) (by decide), g6.1 8 (by decide)]; exact h8) (by rw [b5.1 8 (by decide) (by decide), g6.1 8 (by decide)]; exact h81) (by rw [b6.2.1 26 (by decide), g7.2 26 (by decide)]; exact h26) k2 with ⟨Ix', Im', i', n1, r1, r2, r3, r4, r5, r6, r7, r8, r9, r10⟩ | ⟨x, Ix', Im', r1, r2, r3, r4, r5, r6, r7, r8⟩
        · exact Or.inl ⟨Ix', Im', i', n1, r1, r2, r3, r4, by omega, r6, r7, (g6.bx.tr b5).tr r8, (g7.bm.tr b6).tr r9, by rw [r10, k3, g8]⟩
        · exact Or.inr ⟨x, Ix', Im', r1, r2, r3, r4, r5, (g6.bx.tr b5).tr r6, (g7.bm.tr b6).tr r7, r8⟩
      · obtain ⟨Ie, e1, e2, e3⟩ := rb91_bad b4 (by omega) q n v2 v3 (nI (l + 1))
        refine Or.inr ⟨_, Ie, Im1, q, n4, e1, ?_, ⟨_, _, by omega, e3⟩, (g6.bx.tr b5).tr e2.bx, g7.bm.tr b6, b8 q⟩
        rw [f_X10_takeBuyer_80]
        by_cases q2 : Im1 55 26 ≤ nI (l + 1)
        · rw [if_pos q2]
        · rw [if_neg q2, if_neg (nI_ne0 (by omega) (by omega))]
    by_cases q0 : l = 0
    · refine go i 0 Ix (upI Im 55 21 (nI i)) (Nat.le_refl _) hi (by omega) (hc.mn (by omega)) ⟨hm.1.fr (by rw [upI_j (by decide)]) (upI_o (by decide)), upI_s⟩ (FR.rf Ix) (FQ.up Im _ (by decide)) (by rw [upI_j (by decide)]) ?_ ?_
      · intro Ia hIa
        rw [f_X4_readBuyer_91, h8, if_neg c0, if_pos z0, if_pos (by rw [q0]; decide), hIa, Option.bind_some]
        dsimp only
        rw [h81, i6, if_pos (inb_nI (show 6 * b + l < 36 by omega) (by omega)), nI_clamp (by omega), nI_1]
      · intro Im1 f hf
        rw [f_X10_takeBuyer_80, h26, if_neg c0, if_pos rfl, if_pos (by rw [q0]; decide), if_pos (by rw [q0]; decide), i6', Int32.add_zero, hm.2, hf, Option.bind_some, nI_1]
    · have cl : ¬ nI l ≤ 0 := nI_nle (by omega) (by omega)
      obtain ⟨Is, s1, s2, s3⟩ := csSgn hc (by omega) (c := 44) (by omega)
      obtain ⟨Ir, r1, r2, r3, r4⟩ := msSgn hm (by omega) (c := 44) (by omega)
      rw [cs00] at s3
      rw [show (nI 44 : Int32) = 44 from rfl] at s1 r4
      have eb := eB_bd T z i
      by_cases qs : (sFlt T z 44 i).1 = 0
      · have lt : eB T z i < z := by
          unfold sFlt sF at qs
          dsimp only at qs
          split at qs
          · rename_i w; exact w.1
          · omega
        refine go (eB T z i + 1) (l + 1) Is (upI Ir 55 21 (nI (eB T z i + 1))) (by omega) (by omega) (by omega) (s3.nz qs) ⟨r3.1.fr (by rw [upI_j (by decide)]) (upI_o (by decide)), upI_s⟩ s2 ((r2.mo (by decide)).tr (FQ.up Ir _ (by decide))) (by rw [upI_j (by decide), r2.2 20 (by decide)]) ?_ ?_
        · intro Ia hIa
          rw [f_X4_readBuyer_91, h8, if_neg c0, if_pos z0, if_neg cl, s1, Option.bind_some, hIa, Option.bind_some]
          dsimp only
          rw [s2.1 8 (by decide), h81, i6, if_pos (inb_nI (show 6 * b + l < 36 by omega) (by omega)), nI_clamp (by omega), nI_1]
        · intro Im1 f hf
          rw [f_X10_takeBuyer_80, h26, if_neg c0, if_pos rfl, if_neg cl, r1, Option.bind_some]
          dsimp only
          rw [if_pos (r4.mpr qs), if_neg cl, i6', r3.2, nI_1, hf, Option.bind_some, nI_1]
      · obtain ⟨Ia, a1, a2, a3⟩ := csNum s3 (by omega) (lo := 0) (hi := 999) (by omega) (by omega)
        rw [show (nI 0 : Int32) = 0 from rfl, show (nI 999 : Int32) = 999 from rfl] at a1
        rw [c2_n qs] at a3
        have a3' : CS (upI Ia 11 (6 * b + l) (nI (nVal T z (eB T z i + 1)))) T z (nEnd T z (eB T z i + 1)) (l + 1) (sFlt T z 44 i) := a3.fr (upI_o (by decide)) (upI_o (by decide)) (upI_o (by decide))
        obtain ⟨Ie, e1, e2, e3⟩ := rb91_bad a3' (by omega) qs n v2 v3 (nI (l + 1))
        have s4 : (sFlt T z 44 i).1 = 1 := by
          have := sF_le T z 44 (eB T z i)
          unfold sFlt at qs ⊢; dsimp only at qs ⊢; omega
        have bx : BX b Ix (upI Ia 11 (6 * b + l) (nI (nVal T z (eB T z i + 1)))) := ⟨fun c c7 c11 => by rw [upI_o c11, a2.1 c c7, s2.1 c c7], fun j j2 j3 j4 => by rw [upI_o (by decide), a2.2 j j2 j3 j4, s2.2 j j2 j3 j4], fun j hj => by rw [upI_j (by omega), a2.1 11 (by decide), s2.1 11 (by decide)]⟩
        refine Or.inr ⟨sFlt T z 44 i, Ie, upI Ir 55 20 (nI (eB T z i)), qs, by omega, ?_, ?_, ⟨_, _, by omega, e3⟩, bx.tr e2.bx, ((r2.mo (by decide)).tr (FQ.up Ir _ (by decide))).bm, upI_s⟩
        · rw [f_X4_readBuyer_91, h8, if_neg c0, if_pos z0, if_neg cl, s1, Option.bind_some, a1, Option.bind_some]
          dsimp only
          rw [s2.1 8 (by decide), h81, i6, if_pos (inb_nI (show 6 * b + l < 36 by omega) (by omega)), nI_clamp (by omega), nI_1, e1]
        · rw [f_X10_takeBuyer_80, h26, if_neg c0, if_pos rfl, if_neg cl, r1, Option.bind_some]
          dsimp only
          rw [if_neg (fun w => qs (r4.mp w)), r3.2, s4]
          rfl
