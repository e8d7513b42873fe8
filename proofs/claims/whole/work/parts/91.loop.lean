/-! a clause, the whole text: both sides -/
theorem OUT.lift {Ix Im I6 I1 : IT} {J J1 : JT} {rx : Option IT} {rm : Option (Int32 × IT × JT)} {T : Nat → Nat} {z i en : Nat} (h : OUT I6 I1 J1 rx rm T z en) (fx : FXc Ix I6) (fm : FMc Im I1) (hj : J1 47 = J 47) (h20 : I1 55 20 = Im 55 20) (hi : i ≤ en) : OUT Ix Im J rx rm T z i := by
  obtain ⟨Ix', Im', J', x, a1, a2, a3, a4, a5, a6, a7, a8⟩ := h
  refine ⟨Ix', Im', J', x, a1, a2, a3, fx.tr a4, fm.tr a5, by rw [a6, hj], fun q => ?_, a8⟩
  obtain ⟨b1, i', s', b', k', b2, b3⟩ := a7 q
  exact ⟨by rw [b1, h20], i', s', b', k', by omega, b3⟩
theorem clauseK {Ix Im : IT} {J : JT} {T : Nat → Nat} {z i s b k : Nat} (h : PR Ix Im T z i s b k) (hB : eB T z i = i) (hi : i < z) : OUT Ix Im J (f_X4_readClause Ix) (f_X10_takeClause Im J) T z i := by
  obtain ⟨hc, hm, hq⟩ := h
  have hz := hc.1.1
  obtain ⟨I6, a1, a2, a3⟩ := skipL hc.1 hc.2.1 (by omega)
  have wb := eW_bd T z i
  have hc6 : CS I6 T z (eW T z i) 0 (0, 0) := ⟨a3.ct hc.1, a2, by omega, by rw [a3.2 3 (by decide)]; exact hc.2.2.2.1, fun w => absurd rfl w, by decide⟩
  obtain ⟨I1, J1, b1, b2, b3, b4, b5, b6⟩ := wordM (J := J) hm.1 hm.2 (by omega) hB
  have hm1 : MS I1 T z i := ⟨b5.mt (by decide) hm.1, b2⟩
  have lt : ∀ j, j < eW T z i - i → 97 ≤ T (i + j) ∧ T (i + j) ≤ 122 := fun j hj => by
    have e : eW T z i = sk (isL T) (z - i) i := rfl
    have := sk_in (isL T) (z - i) i (i + j) (by omega) (by omega)
    unfold isL at this
    exact of_decide_eq_true this
  have cl := clsM b4 lt
  have hq1 : PQ I6 I1 s b k := hq.fr (a3.2 5 (by decide)) (a3.2 6 (by decide)) (a3.1 8 (by decide)) (a3.1 9 (by decide)) (a3.1 10 (by decide)) (a3.1 11 (by decide)) (fun j hj => b5.2 j ((by decide : ∀ j ∈ [26, 27, 28, 34, 35], j ∉ [21, 23]) j hj)) (fun c hc => b5.1 c ((by decide : ∀ c ∈ [68, 69, 70, 71, 72], c ≠ 55) c hc))
  have rc := rcK a1 hc.2.1 (isW0 hc6.1 a2 wb.1 (by omega)) (isW1 hc6.1 a2 wb.1 (by omega)) (isW2 hc6.1 a2 wb.1 (by omega)) (isW3 hc6.1 a2 wb.1 (by omega)) (isW4 hc6.1 a2 wb.1 (by omega))
  have lift : ∀ {rx rm}, OUT I6 I1 J1 rx rm T z (eW T z i) → OUT Ix Im J rx rm T z i := fun o => o.lift a3.fr.xc (b5.mc (by decide)) b6 (b5.2 20 (by decide)) wb.1
  rw [rc]
  unfold kd at cl
  by_cases q0 : wdM T i (eW T z i) 0
  · rw [if_pos q0, if_neg (by decide)] at cl
    rw [if_pos q0, tc0 b1 cl]
    exact lift (selK hq1 hc6 hm1 b3 (by omega))
  · rw [if_neg q0] at cl ⊢
    by_cases q1 : wdM T i (eW T z i) 1
    · rw [if_pos q1, if_neg (by decide)] at cl
      rw [if_pos q1, tc1 b1 cl]
      exact lift (buyK hq1 hc6 hm1 b3 (by omega))
    · rw [if_neg q1] at cl ⊢
      by_cases q2 : wdM T i (eW T z i) 2
      · rw [if_pos q2, if_neg (by decide)] at cl
        rw [if_pos q2, tc2 b1 cl]
        exact lift (broK hq1 hc6 hm1 b3 (by omega))
      · rw [if_neg q2] at cl ⊢
        by_cases q3 : wdM T i (eW T z i) 3
        · rw [if_pos q3, if_neg (by decide)] at cl
          rw [if_pos q3, tc3 b1 cl]
          exact lift (binK hq1 hc6 hm1 b3 (by omega))
        · rw [if_neg q3] at cl ⊢
          by_cases q4 : wdM T i (eW T z i) 4
          · rw [if_pos q4, if_neg (by decide)] at cl
            rw [if_pos q4, tc4 b1 cl]
            exact lift (cosK hq1 hc6 hm1 b3 (by omega))
          · rw [if_neg q4, if_pos rfl] at cl
            rw [if_neg q4, tcN b1 cl]
            exact lift (nonK hq1 hc6 hm1)
theorem tk1 {z i i' e d : Nat} (h1 : z - i ≤ d + 1) (h2 : i < i') (h3 : i' ≤ e) (h4 : i < z) : z - e ≤ d := by omega
theorem tk2 {z i' e : Nat} (h1 : e ≤ i' ∨ e ≤ z) (h2 : i' ≤ z) : e ≤ z := by omega
theorem tk3 {kk i i' e : Nat} (h1 : kk ≤ i) (h2 : i < i') (h3 : i' ≤ e) : kk + 1 ≤ e := by omega
theorem textK {T : Nat → Nat} {z : Nat} : ∀ d i i0 kk Ix Im J n n' s b k, z - i ≤ d → i ≤ z → kk ≤ i → d < n → d < n' → CS Ix T z i 0 (0, 0) → MS Im T z i0 → i0 ≤ z → eB T z i0 = i → PQ Ix Im s b k → ∃ (Ix' : IT) (x : Nat × Nat), f_X4_readText_38 n (nI kk) Ix = some (nI x.1, Ix') ∧ x.1 ≤ 4 ∧ FXc Ix Ix'
    ∧ (¬ x.1 = 0 → Ix' 7 2 = nI x.2 ∧ ∃ Im' J', f_X10_market_37 n' 0 Im J = some ((-10) - nI x.1, upI Im' 55 19 0, J') ∧ FMc Im Im' ∧ Im' 55 20 = nI x.2 ∧ J' 47 = J 47)
    ∧ (x.1 = 0 → ∃ Im' J' s' b' k', f_X10_market_37 n' 0 Im J = ((f_X10_takeMarket (upI Im' 55 19 0)).bind fun r71 => (f_X10_persons r71).bind fun r75 => some (r75, r71, J')) ∧ FMc Im Im' ∧ Im' 55 20 = Im 55 20 ∧ J' 47 = J 47 ∧ PQ Ix' Im' s' b' k') := by
  intro d
  induction d with
  | zero =>
    intro i i0 kk Ix Im J n n' s b k hd hi hkk hn hn' hc hm hi0 he hq
    obtain ⟨n, rfl⟩ : ∃ m, n = m + 1 := ⟨n - 1, by omega⟩
    obtain ⟨n', rfl⟩ : ∃ m, n' = m + 1 := ⟨n' - 1, by omega⟩
    have hz := hc.1.1
    obtain ⟨Im1, a1, a2, a3⟩ := hereM hm.1 hm.2 (by omega)
    rw [he] at a1
    rw [show byt T z i = -1 from if_neg (by omega)] at a1
    have z3 : Ix 7 3 = 0 := hc.zf.mpr rfl
    refine ⟨Ix, (0, 0), ?_, by decide, FXc.rf Ix, fun w => absurd rfl w, fun _ => ⟨Im1, J, s, b, k, ?_, a3.mc (by decide), a3.2 20 (by decide), rfl, ?_⟩⟩
    · rw [f_X4_readText_38]
      by_cases q : (500 : Int32) ≤ nI kk
      · rw [if_pos q, z3]; rfl
      · rw [if_neg q, if_pos z3, if_pos (show Ix 1 1 ≤ Ix 7 4 by rw [hc.1.2.1, hc.2.1, nI_leI (by omega) (by omega)]; omega), z3]; rfl
    · rw [f_X10_market_37, if_pos rfl, a1, Option.bind_some, if_pos (show (-1 : Int32) < 0 by decide), if_pos (by decide)]
    · exact hq.fr rfl rfl rfl rfl rfl rfl (fun j hj => a3.2 j ((by decide : ∀ j ∈ [26, 27, 28, 34, 35], j ∉ [21]) j hj)) (fun c hc => a3.1 c ((by decide : ∀ c ∈ [68, 69, 70, 71, 72], c ≠ 55) c hc))
  | succ d ih =>
    intro i i0 kk Ix Im J n n' s b k hd hi hkk hn hn' hc hm hi0 he hq
    obtain ⟨n, rfl⟩ : ∃ m, n = m + 1 := ⟨n - 1, by omega⟩
    obtain ⟨n', rfl⟩ : ∃ m, n' = m + 1 := ⟨n' - 1, by omega⟩
    have hz := hc.1.1
    obtain ⟨Im1, a1, a2, a3⟩ := hereM hm.1 hm.2 (by omega)
    rw [he] at a1 a2
    have z3 : Ix 7 3 = 0 := hc.zf.mpr rfl
    have hq1 : PQ Ix Im1 s b k := hq.fr rfl rfl rfl rfl rfl rfl (fun j hj => a3.2 j ((by decide : ∀ j ∈ [26, 27, 28, 34, 35], j ∉ [21]) j hj)) (fun c hc => a3.1 c ((by decide : ∀ c ∈ [68, 69, 70, 71, 72], c ≠ 55) c hc))
    by_cases qz : i < z
    · have hT := (hc.1.2.2 i qz).2
      rw [byt_in qz] at a1
      have hB : eB T z i = i := by rw [← he, eB_id]
      obtain ⟨Ix1, Im2, J2, x, b1, b2, b3, b4, b5, b6, b7, b8⟩ := clauseK (J := J) (s := s) (b := b) (k := k) ⟨hc, ⟨a3.mt (by decide) hm.1, a2⟩, hq1⟩ hB qz
      have fm2 : FMc Im Im2 := (a3.mc (by decide)).tr b5
      have rm : f_X10_market_37 (n' + 1) 0 Im J = f_X10_market_37 n' (nI x.1) Im2 J2 := by
        rw [f_X10_market_37, if_pos rfl, a1, Option.bind_some, if_neg (nI_pos (by omega)), b2, Option.bind_some]
      have rx : f_X4_readText_38 (n + 1) (nI kk) Ix = (f_X4_skipBlanks Ix1).bind fun r71 => f_X4_readText_38 n (nI (kk + 1)) r71 := by
        rw [f_X4_readText_38, if_neg (by rw [show (500 : Int32) = nI 500 from rfl, nI_leI (by omega) (by omega)]; omega), if_pos z3, if_neg (show ¬ Ix 1 1 ≤ Ix 7 4 by rw [hc.1.2.1, hc.2.1, nI_leI (by omega) (by omega)]; omega), b1, Option.bind_some, nI_1]
      rw [rx, rm]
      by_cases qx : x.1 = 0
      · obtain ⟨c1, i', s', b', k', c2', c3, c4, c5, c6⟩ := b7 qx
        obtain ⟨Ix2, d1, d2, d3⟩ := csSkp c4 (by omega)
        have eb := eB_bd T z i'
        obtain ⟨Ix', y, e1, e2, e3, e4, e5⟩ := ih (eB T z i') i' (kk + 1) Ix2 Im2 J2 n n' s' b' k' (tk1 hd c2' eb.1 qz) (tk2 eb.2 c3) (tk3 hkk c2' eb.1) (Nat.lt_of_succ_lt_succ hn) (Nat.lt_of_succ_lt_succ hn') d3 c5 c3 rfl (c6.fr (d2.2 5 (by decide)) (d2.2 6 (by decide)) (d2.1 8 (by decide)) (d2.1 9 (by decide)) (d2.1 10 (by decide)) (d2.1 11 (by decide)) (fun _ _ => rfl) (fun _ _ => rfl))
        rw [qx, nI_0, d1, Option.bind_some]
        refine ⟨Ix', y, e1, e2, (b4.tr d2.fr.xc).tr e3, fun w => ?_, fun w => ?_⟩
        · obtain ⟨f1, Im', J', f2, f3, f4, f5⟩ := e4 w
          exact ⟨f1, Im', J', f2, fm2.tr f3, f4, by rw [f5, b6]⟩
        · obtain ⟨Im', J', s2, b2', k2, f2, f3, f4, f5, f6⟩ := e5 w
          exact ⟨Im', J', s2, b2', k2, f2, fm2.tr f3, by rw [f4, c1, a3.2 20 (by decide)], by rw [f5, b6], f6⟩
      · obtain ⟨⟨i', m, c1, c2'⟩, c3⟩ := b8 qx
        obtain ⟨Ix2, d1, d2, d3⟩ := csSkp c2' (by omega)
        have nz : ¬ Ix2 7 3 = 0 := fun w => qx (d3.zf.mp w)
        obtain ⟨n, rfl⟩ : ∃ m, n = m + 1 := ⟨n - 1, by omega⟩
        obtain ⟨n', rfl⟩ : ∃ m, n' = m + 1 := ⟨n' - 1, by omega⟩
        rw [d1, Option.bind_some]
        refine ⟨Ix2, x, ?_, b3, b4.tr d2.fr.xc, fun w => ⟨d3.2.2.2.2.1 w, Im2, J2, ?_, fm2, c3, b6⟩, fun w => absurd w qx⟩
        · rw [f_X4_readText_38]
          by_cases q5 : (500 : Int32) ≤ nI (kk + 1)
          · rw [if_pos q5, d3.2.2.2.1]
          · rw [if_neg q5, if_neg nz, d3.2.2.2.1]
        · rw [f_X10_market_37, if_neg (nI_ne0 (by omega) (by omega)), if_neg (nI_nle (by omega) (by omega))]
    · rw [show byt T z i = -1 from if_neg qz] at a1
      refine ⟨Ix, (0, 0), ?_, by decide, FXc.rf Ix, fun w => absurd rfl w, fun _ => ⟨Im1, J, s, b, k, ?_, a3.mc (by decide), a3.2 20 (by decide), rfl, hq1⟩⟩
      · rw [f_X4_readText_38]
        by_cases q : (500 : Int32) ≤ nI kk
        · rw [if_pos q, z3]; rfl
        · rw [if_neg q, if_pos z3, if_pos (show Ix 1 1 ≤ Ix 7 4 by rw [hc.1.2.1, hc.2.1, nI_leI (by omega) (by omega)]; omega), z3]; rfl
      · rw [f_X10_market_37, if_pos rfl, a1, Option.bind_some, if_pos (show (-1 : Int32) < 0 by decide), if_pos (by decide)]
