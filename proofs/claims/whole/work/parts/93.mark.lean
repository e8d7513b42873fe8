/-! market -/
theorem popc_0 : ∀ n, popc 0 n = 0 := by
  intro n
  induction n with
  | zero => rfl
  | succ n ih =>
    rw [popc, ih]
    have : ((0 : Int32) >>> (nI n &&& 31)) &&& 1 = 0 := by
      apply Int32.toBitVec_inj.1
      show ((0#32).sshiftRight' _) &&& 1#32 = 0#32
      rw [show ∀ y : BitVec 32, (0#32).sshiftRight' y = (0#32).sshiftRight y.toNat from fun _ => rfl]
      simp
    rw [this]; rfl
/-- the reference begins to read -/
def mk0 (I : IT) : IT := upI (upI (upI (upI (upI (upI (upI I 55 20 (-1)) 55 21 0) 55 26 0) 55 27 0) 55 28 0) 55 34 (-1)) 55 35 (-1)
theorem mk0_ok (I : IT) : (∀ c, c ≠ 55 → mk0 I c = I c) ∧ (∀ j, j ∉ JL → mk0 I 55 j = I 55 j) ∧ mk0 I 55 20 = -1 ∧ mk0 I 55 21 = 0 ∧ mk0 I 55 26 = 0 ∧ mk0 I 55 27 = 0 ∧ mk0 I 55 28 = 0 ∧ mk0 I 55 34 = -1 ∧ mk0 I 55 35 = -1 := by
  unfold mk0
  refine ⟨fun c hc => by rw [upI_o hc, upI_o hc, upI_o hc, upI_o hc, upI_o hc, upI_o hc, upI_o hc], fun j hj => ?_, ?_, ?_, ?_, ?_, ?_, ?_, ?_⟩
  · unfold JL at hj
    simp only [List.mem_cons, List.not_mem_nil, or_false, not_or] at hj
    rw [upI_j (by omega), upI_j (by omega), upI_j (by omega), upI_j (by omega), upI_j (by omega), upI_j (by omega), upI_j (by omega)]
  all_goals simp [upI, upd]
/-- the class begins to read -/
def xk0 (I : IT) : IT := upI (upI (upI (upI (upI (upI (upI (upI (upI (upI I 8 0 0) 8 1 0) 8 2 0) 8 3 12) 8 4 2) 7 3 0) 7 2 (-1)) 7 4 0) 7 5 0) 7 6 0
theorem xk0_ok (I : IT) : (∀ c, c ≠ 7 → c ≠ 8 → xk0 I c = I c) ∧ (xk0 I 8 0 = 0 ∧ xk0 I 8 1 = 0 ∧ xk0 I 8 2 = 0 ∧ xk0 I 8 3 = 12 ∧ xk0 I 8 4 = 2) ∧ xk0 I 7 3 = 0 ∧ xk0 I 7 4 = 0 ∧ xk0 I 7 5 = 0 ∧ xk0 I 7 6 = 0 := by
  unfold xk0
  refine ⟨fun c h7 h8 => by rw [upI_o h7, upI_o h7, upI_o h7, upI_o h7, upI_o h7, upI_o h8, upI_o h8, upI_o h8, upI_o h8, upI_o h8], ⟨?_, ?_, ?_, ?_, ?_⟩, ?_, ?_, ?_, ?_⟩
  all_goals simp [upI, upd]
theorem text_T {I : IT} {z : Nat} (h : RelT I z) : ∃ T : Nat → Nat, CT I T z ∧ MTx I T z := by
  obtain ⟨h1, h2, h3, h4⟩ := h
  have e : ∀ j, ∃ m : Nat, m < 256 ∧ I 2 j &&& 255 = nI m := fun j => pk_andE (I 2 j) (m := 255) 8 (by decide)
  refine ⟨fun j => (I 2 j &&& 255).toNatClampNeg, ⟨h3, h1, fun j hj => ?_⟩, ⟨h3, h2, fun j hj => ?_⟩⟩
  · obtain ⟨m, hm, em⟩ := e j
    dsimp only
    rw [em, nI_clamp (by omega)]
    exact ⟨rfl, hm⟩
  · obtain ⟨m, hm, em⟩ := e j
    dsimp only
    rw [h4 j hj, em, nI_clamp (by omega)]
    exact ⟨rfl, hm⟩
/-- both read: whatever the reference's world, if its text is that -/
theorem readK {I : IT} {T : Nat → Nat} {z : Nat} (hc : CT I T z) : ∃ (Ix' : IT) (x : Nat × Nat), f_X4_readText I = some (nI x.1, Ix') ∧ x.1 ≤ 4 ∧ FXc I Ix' ∧ ∀ (Im : IT) (J : JT), MTx Im T z →
    (¬ x.1 = 0 → ∃ Im' J', f_X10_market Im J = some ((-10) - nI x.1, upI Im' 55 19 0, J') ∧ FMc Im Im' ∧ Im' 55 20 = Ix' 7 2 ∧ J' 47 = J 47)
    ∧ (x.1 = 0 → ∃ Im' J' s' b' k', f_X10_market Im J = ((f_X10_takeMarket (upI Im' 55 19 0)).bind fun r71 => (f_X10_persons r71).bind fun r75 => some (r75, r71, J')) ∧ FMc Im Im' ∧ Im' 55 20 = -1 ∧ J' 47 = J 47 ∧ PQ Ix' Im' s' b' k') := by
  have hz := hc.1
  obtain ⟨x1, x2, x3, x4, x5, x6⟩ := xk0_ok I
  have hc0 : CT (xk0 I) T z := hc.fr (x1 1 (by decide) (by decide)) (x1 2 (by decide) (by decide))
  have cs0 : CS (xk0 I) T z 0 0 (0, 0) := ⟨hc0, x4, by omega, x3, fun w => absurd rfl w, by decide⟩
  obtain ⟨Ia, a1, a2, a3⟩ := csSkp cs0 (by omega)
  have eb := eB_bd T z 0
  have rd : f_X4_readText I = f_X4_readText_38 FU 0 Ia := by
    unfold f_X4_readText f_X2_clear_8
    rw [Option.bind_some]
    show (f_X4_skipBlanks (xk0 I)).bind _ = _
    rw [a1, Option.bind_some]
  have fxa : FXc I Ia := fun c c7 c8 _ _ _ => by rw [a2.1 c c7, x1 c c7 c8]
  have key : ∀ (Im : IT) (J : JT), MTx Im T z → ∃ (Ix' : IT) (x : Nat × Nat), f_X4_readText_38 FU (nI 0) Ia = some (nI x.1, Ix') ∧ x.1 ≤ 4 ∧ FXc Ia Ix'
      ∧ (¬ x.1 = 0 → Ix' 7 2 = nI x.2 ∧ ∃ Im' J', f_X10_market_37 FU 0 (mk0 Im) J = some ((-10) - nI x.1, upI Im' 55 19 0, J') ∧ FMc (mk0 Im) Im' ∧ Im' 55 20 = nI x.2 ∧ J' 47 = J 47)
      ∧ (x.1 = 0 → ∃ Im' J' s' b' k', f_X10_market_37 FU 0 (mk0 Im) J = ((f_X10_takeMarket (upI Im' 55 19 0)).bind fun r71 => (f_X10_persons r71).bind fun r75 => some (r75, r71, J')) ∧ FMc (mk0 Im) Im' ∧ Im' 55 20 = (mk0 Im) 55 20 ∧ J' 47 = J 47 ∧ PQ Ix' Im' s' b' k') := by
    intro Im J hm
    obtain ⟨m1, m2, m3, m4, m5, m6, m7, m8, m9⟩ := mk0_ok Im
    refine textK 500 (eB T z 0) 0 0 Ia (mk0 Im) J FU FU 0 0 0 (by omega) (by omega) (by omega) (by unfold FU; omega) (by unfold FU; omega) a3 ⟨hm.fr (m2 19 (by decide)) (m1 67 (by decide)), m4⟩ (by omega) rfl ⟨⟨⟨by omega, by omega, by omega, Or.inl rfl⟩, ⟨by rw [a2.1 8 (by decide)]; exact x2.1, by rw [a2.1 8 (by decide)]; exact x2.2.1, by rw [a2.1 8 (by decide)]; exact x2.2.2.1⟩, m5, m6, m7⟩, Or.inl ⟨by rw [a2.2 5 (by decide)]; exact x5, by rw [a2.1 8 (by decide)]; exact x2.2.2.2.1, m8⟩, Or.inl ⟨by rw [a2.2 6 (by decide)]; exact x6, by rw [a2.1 8 (by decide)]; exact x2.2.2.2.2, m9⟩, fun p hp => by omega, fun j hj => by omega, fun j hj => by omega, fun j l hj => by omega⟩
  have mm : ∀ Im J, f_X10_market Im J = f_X10_market_37 FU 0 (mk0 Im) J := fun _ _ => rfl
  have fm0 : ∀ Im, FMc Im (mk0 Im) := fun Im => ⟨fun c c5 _ _ _ _ _ => (mk0_ok Im).1 c c5, (mk0_ok Im).2.1⟩
  have tx : ∃ (Ix' : IT) (x : Nat × Nat), f_X4_readText_38 FU (nI 0) Ia = some (nI x.1, Ix') ∧ x.1 ≤ 4 ∧ FXc Ia Ix' := by
    obtain ⟨Ix', x, k1, k2, k3, -⟩ := key (fun c j => if c = 55 then nI z else if c = 67 then nI (T j) else 0) (fun _ _ => 0) ⟨hz, by simp, fun j hj => ⟨by simp, (hc.2.2 j hj).2⟩⟩
    exact ⟨Ix', x, k1, k2, k3⟩
  obtain ⟨Ix', x, k1, k2, k3⟩ := tx
  refine ⟨Ix', x, by rw [rd, ← nI_0, k1], k2, fxa.tr k3, fun Im J hm => ?_⟩
  obtain ⟨Iy, y, l1, l2, l3, l4, l5⟩ := key Im J hm
  rw [k1, Option.some.injEq, Prod.mk.injEq, nI_eq (by omega) (by omega)] at l1
  obtain ⟨e1, rfl⟩ := l1
  rw [mm]
  refine ⟨fun q => ?_, fun q => ?_⟩
  · obtain ⟨n1, Im', J', n2, n3, n4, n5⟩ := l4 (by omega)
    exact ⟨Im', J', by rw [n2, e1], (fm0 Im).tr n3, by rw [n4, n1], n5⟩
  · obtain ⟨Im', J', s', b', k', n2, n3, n4, n5, n6⟩ := l5 (by omega)
    exact ⟨Im', J', s', b', k', n2, (fm0 Im).tr n3, by rw [n4]; exact (mk0_ok Im).2.2.1, n5, n6⟩
theorem op_market {I : IT} {J : JT} {s b k c w z : Nat} (h : RelA I J s b k c w z) : ∃ r I1 I2 J2, f_X9_market I = some (r, I1) ∧ f_X10_market I1 J = some (r, I2, J2) ∧ ∃ s' b' k' c' w' z', RelA I2 J2 s' b' k' c' w' z' := by
  obtain ⟨hM, hC, hK, hW, hB, hT, hF, hS⟩ := h
  obtain ⟨T, hct, hmt⟩ := text_T hT
  obtain ⟨Ix', x, r1, r2, r3, r4⟩ := readK hct
  unfold f_X9_market
  rw [r1, Option.bind_some]
  dsimp only
  by_cases q : x.1 = 0
  · rw [if_pos (by rw [q]; rfl)]
    obtain ⟨Ib, b1, b2, b3, b4, b5⟩ := become_ok (upI (upI Ix' 1 1 0) 0 11 (-1))
    obtain ⟨Ic, c1, c2', c3, c4, c5, c6, c7, c8, c9⟩ := beg_now Ib
    obtain ⟨I1, hI1⟩ : ∃ I1 : IT, I1 = upI (upI (upI (upI (upI Ic 34 0 0) 34 1 0) 41 0 0) 46 2 1) 50 1 0 := ⟨_, rfl⟩
    rw [b1, Option.bind_some, c1, Option.bind_some, show (0 : Int32).toNatClampNeg = 0 from rfl, show (1 : Int32).toNatClampNeg = 1 from rfl, show vp_nar .boolean 0 = 0 from rfl, ← hI1]
    have f1 : ∀ c, c ≠ 34 → c ≠ 41 → c ≠ 46 → c ≠ 50 → I1 c = Ic c := fun c h1 h2 h3 h4 => by rw [hI1, upI_o h4, upI_o h3, upI_o h2, upI_o h1, upI_o h1]
    have g1 : ∀ c, c ≠ 0 → c ≠ 1 → c ≠ 3 → c ≠ 4 → c ≠ 5 → c ≠ 6 → c ≠ 7 → c ≠ 8 → c ≠ 9 → c ≠ 10 → c ≠ 11 → c ≠ 12 → c ≠ 13 → c ≠ 14 → c ≠ 15 → c ≠ 16 → c ≠ 17 → c ≠ 18 → c ≠ 34 → c ≠ 41 → c ≠ 46 → c ≠ 50 → I1 c = I c := fun c h0 h1 h3 h4 h5 h6 h7 h8 h9 h10 h11 h12 h13 h14 h15 h16 h17 h18 h34 h41 h46 h50 => by
      rw [f1 c h34 h41 h46 h50, c2' c h12 h13 h14 h15 h16 h17 h18, b5 c h3 h4 h5 h6, upI_o h0, upI_o h1, r3 c h7 h8 h9 h10 h11]
    have mt1 : MTx I1 T z := hmt.fr (by rw [g1 55] <;> decide) (by rw [g1 67] <;> decide)
    obtain ⟨Im', J', s', b', k', m1, m2, m3, m4, m5⟩ := (r4 I1 J mt1).2 q
    obtain ⟨⟨pk, p8, pn⟩, pB, pC, pA⟩ := m5
    obtain ⟨I2, t1, t2, t3, t4, t5, t6, t7, t8, t9, t10, t11, t12, t13, t14, t15⟩ := tmk_ok (I := upI Im' 55 19 0) (s := s') (b := b') (k := k') ⟨pk.1, pk.2.1, pk.2.2.1⟩ (by rw [upI_j (by decide), upI_j (by decide), upI_j (by decide)]; exact pn)
    -- the class's cells stand in the reference's world as they were
    have x1 : ∀ c, c < 55 → I2 c = I1 c := fun c hc => by rw [t14 c hc, upI_o (by omega), m2.1 c (by omega) (by omega) (by omega) (by omega) (by omega) (by omega)]
    have y8 : ∀ j, j < 5 → I2 3 j = Ix' 8 j := fun j hj => by rw [x1 3 (by omega), f1 3 (by decide) (by decide) (by decide) (by decide), c2' 3 (by decide) (by decide) (by decide) (by decide) (by decide) (by decide) (by decide), b2 j hj, upI_o (by decide), upI_o (by decide)]
    have y4 : ∀ j, j < 14 → I2 4 j = Ix' 9 j := fun j hj => by rw [x1 4 (by omega), f1 4 (by decide) (by decide) (by decide) (by decide), c2' 4 (by decide) (by decide) (by decide) (by decide) (by decide) (by decide) (by decide), (b3 j hj).1, upI_o (by decide), upI_o (by decide)]
    have y5 : ∀ j, j < 14 → I2 5 j = Ix' 10 j := fun j hj => by rw [x1 5 (by omega), f1 5 (by decide) (by decide) (by decide) (by decide), c2' 5 (by decide) (by decide) (by decide) (by decide) (by decide) (by decide) (by decide), (b3 j hj).2, upI_o (by decide), upI_o (by decide)]
    have y6 : ∀ j, j < 36 → I2 6 j = Ix' 11 j := fun j hj => by rw [x1 6 (by omega), f1 6 (by decide) (by decide) (by decide) (by decide), c2' 6 (by decide) (by decide) (by decide) (by decide) (by decide) (by decide) (by decide), b4 j hj, upI_o (by decide), upI_o (by decide)]
    have z12 : ∀ c, 12 ≤ c → c ≤ 18 → I2 c = Ic c := fun c h1 h2 => by rw [x1 c (by omega), f1 c (by omega) (by omega) (by omega) (by omega)]
    have m55 : ∀ j, j ∉ [0, 1, 2, 8, 9, 16, 40, 47] → j ∉ JL → j ≠ 19 → I2 55 j = I 55 j := fun j h1 h2 h3 => by rw [t15 j h1, upI_j h3, m2.2 j h2, g1 55] <;> decide
    have mr : ∀ c, c ∈ [68, 69, 70, 71, 72] → (upI Im' 55 19 0) c = Im' c := fun c hc => upI_o ((by decide : ∀ c ∈ [68, 69, 70, 71, 72], c ≠ 55) c hc)
    refine ⟨nI (s' + b' + k'), I1, I2, J', ?_, ?_, s', b', k', 0, 0, 0, ?_, ?_, ?_, ?_, ?_, ?_, ?_, ?_⟩
    · unfold f_X2_persons
      have e0 : ∀ j, j < 5 → I1 3 j = Ix' 8 j := fun j hj => by rw [← x1 3 (by omega), y8 j hj]
      rw [e0 0 (by omega), e0 1 (by omega), e0 2 (by omega), p8.1, p8.2.1, p8.2.2, nI_add, nI_add, Option.bind_some]
    · rw [m1, t1, Option.bind_some]
      unfold f_X10_persons
      rw [t2.1, t2.2.1, t2.2.2, nI_add, nI_add, Option.bind_some]
    · refine ⟨pk, ⟨by rw [y8 0 (by omega)]; exact p8.1, by rw [y8 1 (by omega)]; exact p8.2.1, by rw [y8 2 (by omega)]; exact p8.2.2⟩, t2, ?_, ?_, fun p hp => ?_, fun p hp => ?_, fun j hj => ?_, fun j hj => ?_, fun j l hj hl => ?_⟩
      · rw [t3, upI_j (by decide), y8 3 (by omega)]
        rcases pB with ⟨-, w2, w3⟩ | ⟨-, v, w1, w2, w3, w4⟩
        · rw [w2, w3, if_neg (by decide)]
          exact ⟨⟨12, by omega, by omega, rfl⟩, rfl⟩
        · rw [w3, w4, if_pos (nI_pos' (by omega))]
          exact ⟨⟨v, w1, w2, rfl⟩, rfl⟩
      · rw [t4, upI_j (by decide), y8 4 (by omega)]
        rcases pC with ⟨-, w2, w3⟩ | ⟨-, v, w2, w3, w4⟩
        · rw [w2, w3, if_neg (by decide)]
          exact ⟨⟨2, by omega, rfl⟩, rfl⟩
        · rw [w3, w4, if_pos (nI_pos' (by omega))]
          exact ⟨⟨v, w2, rfl⟩, rfl⟩
      · rw [t8 p hp, mr 72 (by decide), y4 p (by omega)]
        unfold hd72
        by_cases q1 : p < s'
        · obtain ⟨w1, w2, -⟩ := pA.1 p q1
          rw [if_pos q1, w1]; exact ⟨rfl, w2⟩
        · by_cases q2 : p < s' + b'
          · obtain ⟨w1, w2, -⟩ := pA.2.1 (p - s') (by omega)
            rw [show s' + (p - s') = p by omega] at w1
            rw [if_neg q1, if_pos q2, w1]; exact ⟨rfl, w2⟩
          · obtain ⟨w1, w2, -⟩ := pA.2.2.1 (p - s' - b') (by omega)
            rw [show s' + b' + (p - s' - b') = p by omega] at w1
            rw [if_neg q1, if_neg q2, w1]; exact ⟨rfl, w2⟩
      · obtain ⟨-, -, w3, w4⟩ := pA.1 p hp
        rw [(t5 p (by omega)).1, mr 68 (by decide), y5 p (by omega), w3]; exact ⟨rfl, w4⟩
      · obtain ⟨-, -, w3, w4⟩ := pA.2.1 j hj
        rw [(t5 j (by omega)).2, mr 69 (by decide), y5 (s' + j) (by omega), w3]; exact ⟨rfl, w4⟩
      · obtain ⟨-, -, w3, w4⟩ := pA.2.2.1 j hj
        rw [t7 j (by omega), mr 71 (by decide), y5 (s' + b' + j) (by omega), w3]; exact ⟨rfl, w4⟩
      · obtain ⟨w1, w2⟩ := pA.2.2.2 j l hj hl
        rw [t6 (6 * j + l) (by omega), mr 70 (by decide), y6 (6 * j + l) (by omega), w1]; exact ⟨rfl, w2⟩
    · refine ⟨?_, ?_, ?_, fun p hp => ?_, fun p hp => ?_, fun e he => ?_, fun l hl => ?_, fun p hp => ?_⟩
      · rw [t10, z12 12 (by omega) (by omega), c3.1]
      · rw [m55 17 (by decide) (by decide) (by decide), z12 12 (by omega) (by omega), c3.2 2 (by decide), b5 12 (by decide) (by decide) (by decide) (by decide), upI_o (by decide), upI_o (by decide), r3 12 (by decide) (by decide) (by decide) (by decide) (by decide)]
        exact hC.2.1
      · rw [z12 12 (by omega) (by omega), c3.2 2 (by decide), b5 12 (by decide) (by decide) (by decide) (by decide), upI_o (by decide), upI_o (by decide), r3 12 (by decide) (by decide) (by decide) (by decide) (by decide)]
        exact hC.2.2.1
      · rw [(t11 p hp).1, z12 13 (by omega) (by omega), c4 p hp]; decide
      · rw [z12 13 (by omega) (by omega), c4 p (by omega), popc_0, y4 p (by omega)]
        have hh : Ix' 9 p = 1 ∨ Ix' 9 p = 2 := by
          by_cases q1 : p < s'
          · obtain ⟨w1, w2, -⟩ := pA.1 p q1
            rw [w1]; exact w2
          · by_cases q2 : p < s' + b'
            · obtain ⟨w1, w2, -⟩ := pA.2.1 (p - s') (by omega)
              rw [show s' + (p - s') = p by omega] at w1
              rw [w1]; exact w2
            · obtain ⟨w1, w2, -⟩ := pA.2.2.1 (p - s' - b') (by omega)
              rw [show s' + b' + (p - s' - b') = p by omega] at w1
              rw [w1]; exact w2
        rcases hh with hh | hh <;> rw [hh] <;> decide
      · rw [z12 14 (by omega) (by omega), c5 e he]
        exact Or.inl ⟨rfl, (t12 e he).1⟩
      · rw [(t13 l hl).1, (t13 l hl).2, z12 16 (by omega) (by omega), z12 17 (by omega) (by omega), c7 l hl, c8 l hl]; decide
      · rw [(t11 p hp).2, z12 18 (by omega) (by omega), c9 p hp]
    · have k34 : I2 34 0 = 0 ∧ I2 34 1 = 0 := by
        rw [x1 34 (by omega), hI1]
        simp [upI, upd]
      exact ⟨⟨by rw [k34.1]; exact t9.2.2.1, by rw [k34.2]; exact t9.2.2.2⟩, Or.inl k34.1, Or.inl k34.2⟩
    · exact ⟨by rw [x1 41 (by omega), hI1]; simp [upI, upd, nI_0], by rw [t9.1]; rfl, by omega, fun i hi => by omega⟩
    · exact ⟨by rw [x1 50 (by omega), hI1]; simp [upI, upd, nI_0], by rw [t9.2.1]; rfl, by omega, fun i hi => by omega⟩
    · refine ⟨?_, ?_, by omega, fun j hj => by omega⟩
      · rw [x1 1 (by omega), f1 1 (by decide) (by decide) (by decide) (by decide), c2' 1 (by decide) (by decide) (by decide) (by decide) (by decide) (by decide) (by decide), b5 1 (by decide) (by decide) (by decide) (by decide), upI_o (by decide), upI_s]; rfl
      · rw [t15 19 (by decide), upI_s]; rfl
    · rw [t15 20 (by decide), upI_j (by decide), m3, x1 0 (by omega), f1 0 (by decide) (by decide) (by decide) (by decide), c2' 0 (by decide) (by decide) (by decide) (by decide) (by decide) (by decide) (by decide), b5 0 (by decide) (by decide) (by decide) (by decide), upI_s]
    · exact Or.inl (by rw [x1 46 (by omega), hI1]; simp [upI, upd])
  · rw [if_neg (nI_ne0 (by omega) (by omega)), upI_o (by decide)]
    obtain ⟨I1, hI1⟩ : ∃ I1 : IT, I1 = upI (upI Ix' 1 1 0) 0 11 (Ix' 7 2) := ⟨_, rfl⟩
    rw [← hI1]
    have f1 : ∀ c, c ≠ 0 → c ≠ 1 → c ≠ 7 → c ≠ 8 → c ≠ 9 → c ≠ 10 → c ≠ 11 → I1 c = I c := fun c h0 h1 h7 h8 h9 h10 h11 => by rw [hI1, upI_o h0, upI_o h1, r3 c h7 h8 h9 h10 h11]
    have mt1 : MTx I1 T z := hmt.fr (by rw [f1 55] <;> decide) (by rw [f1 67] <;> decide)
    obtain ⟨Im', J', m1, m2, m3, m4⟩ := (r4 I1 J mt1).1 q
    have fc : ∀ c, c ≠ 0 ∧ c ≠ 1 ∧ c ≠ 7 ∧ c ≠ 8 ∧ c ≠ 9 ∧ c ≠ 10 ∧ c ≠ 11 ∧ c ≠ 55 ∧ c ≠ 68 ∧ c ≠ 69 ∧ c ≠ 70 ∧ c ≠ 71 ∧ c ≠ 72 → (upI Im' 55 19 0) c = I c := fun c hc => by
      obtain ⟨h0, h1, h7, h8, h9, h10, h11, h55, h68, h69, h70, h71, h72⟩ := hc
      rw [upI_o h55, m2.1 c h55 h68 h69 h70 h71 h72, f1 c h0 h1 h7 h8 h9 h10 h11]
    have f5 : ∀ j, j ≠ 19 ∧ j ∉ JL → (upI Im' 55 19 0) 55 j = I 55 j := fun j hj => by rw [upI_j hj.1, m2.2 j hj.2, f1 55] <;> decide
    refine ⟨_, I1, _, J', rfl, m1, s, b, k, c, w, 0, frameM hM (by simp +decide [fc]) (by simp +decide [f5]), frameC hC (by simp +decide [fc]) (by simp +decide [f5]), frameK hK (by simp +decide [fc]), frameW hW (by simp +decide [fc]) (f5 _ (by decide)), frameB hB (by simp +decide [fc]) (f5 _ (by decide)), ⟨?_, by rw [upI_s]; rfl, by omega, fun j hj => by omega⟩, ?_, frameS hS (by simp +decide [fc]) m4⟩
    · rw [upI_o (by decide), m2.1 1 (by decide) (by decide) (by decide) (by decide) (by decide) (by decide), hI1, upI_o (by decide), upI_s]; rfl
    · rw [upI_j (by decide), m3, upI_o (by decide), m2.1 0 (by decide) (by decide) (by decide) (by decide) (by decide) (by decide), hI1, upI_s]
