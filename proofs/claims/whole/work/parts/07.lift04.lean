/-! lifted: X1_sell X1_bind X9_press X9_price X9_signsOf X9_twitches X9_beat X1_draw X2_worthOf X1_bindIfMay X1_driftBeat X9_drift -/
def f_X1_sell_17 : Nat → Int32 → Int32 → Int32 → Int32 → IT → Option (IT)
  | 0, _, _, _, _, _ => none
  | n + 1, v1, v2, v3, v4, I =>
    (f_X2_persons I).bind fun r23 =>
    if r23 ≤ v4 then
      if inbB ((I 3 0) + v2) 14 = true then
        if inbB ((I 3 0) + v2) 14 = true then
          if inbB v1 14 = true then
            if inbB v1 14 = true then
              (some (upI (upI I 18 (((I 3 0) + v2).toNatClampNeg) ((I 18 ((I 3 0) + v2).toNatClampNeg) + v3)) 18 v1.toNatClampNeg (((upI I 18 (((I 3 0) + v2).toNatClampNeg) ((I 18 ((I 3 0) + v2).toNatClampNeg) + v3)) 18 v1.toNatClampNeg) + v3))).bind fun i79 =>
              (f_X1_brokerOf v1 ((I 3 0) + v2) i79).bind fun r84 =>
              if r84 = ((-1) : Int32) then
                some i79
              else
                if inbB r84 14 = true then
                  if inbB r84 14 = true then
                    if inbB r84 14 = true then
                      if inbB v1 14 = true then
                        if inbB v1 14 = true then
                          (some (upI (upI i79 18 r84.toNatClampNeg ((i79 18 r84.toNatClampNeg) + ((v3 * (i79 5 r84.toNatClampNeg)) / 100))) 18 v1.toNatClampNeg (((upI i79 18 r84.toNatClampNeg ((i79 18 r84.toNatClampNeg) + ((v3 * (i79 5 r84.toNatClampNeg)) / 100))) 18 v1.toNatClampNeg) - ((v3 * (i79 5 r84.toNatClampNeg)) / 100)))).bind fun i134 =>
                          some i134
                        else none
                      else none
                    else none
                  else none
                else none
            else none
          else none
        else none
      else none
    else
      if inbB ((v4 * 6) + v1) 84 = true then
        f_X1_sell_17 n v1 v2 v3 (v4 + 1) (upI I 14 (((v4 * 6) + v1).toNatClampNeg) 0)
      else none
def f_X1_sell (a1 : Int32) (a2 : Int32) (a3 : Int32) (I : IT) : Option (IT) :=
  if inbB a1 6 = true then
    if inbB a1 6 = true then
      f_X1_sell_17 FU a1 a2 a3 0 (upI (upI I 16 a1.toNatClampNeg a2) 17 a1.toNatClampNeg a3)
    else none
  else none
set_option maxRecDepth 100000 in
set_option maxHeartbeats 4000000 in
theorem w_X1_sell_17 (Γ : GT) (ad : Nat → Nat) : ∀ (n : Nat) (v1 : Int32) (v2 : Int32) (v3 : Int32) (v4 : Int32) (I : IT) (J : JT) (r : IT), f_X1_sell_17 n v1 v2 v3 v4 I = some r → WP Γ mX1_sell (0, 0) 17 [(0, .ref (ad 12)), (1, .int v1), (2, .int v2), (3, .int v3), (4, .int v4)] [] (DX ad) I J (QE none (DX ad) r J) := by
  intro n
  induction n with
  | zero => intro v1 v2 v3 v4 I J r h; exact absurd h (by simp [f_X1_sell_17])
  | succ n ih =>
    intro v1 v2 v3 v4 I J r h
    rw [f_X1_sell_17] at h
    refine wp_iload dX1_sell_17 4 rfl ?_
    refine wp_aload_n dX1_sell_19 0 rfl ?_
    refine wp_getR (k := 12) (a' := ad 3) dX1_sell_20 flX1_30 rfl rfl rfl rfl rfl ?_
    obtain ⟨r23, h23, h⟩ := o_bind h
    refine wp_callvI (k := 3) (ci := 2) (c_X2_persons Γ ad I J r23 h23) dX1_sell_23 mlX1_110 mwX2_persons miX2_persons rfl rfl rfl rfl (Nat.le_of_ble_eq_true rfl) rfl (by decide) (by decide) ?_
    refine wp_icmp_ge 48 dX1_sell_26 rfl (fun c26 => ?_) (fun c26 => ?_)
    · replace h := o_pos h c26
      refine wp_aload_n dX1_sell_48 0 rfl ?_
      refine wp_getR (k := 12) (a' := ad 3) dX1_sell_49 flX1_30 rfl rfl rfl rfl rfl ?_
      refine wp_getI (k := 3) dX1_sell_52 flX1_77 rfl rfl rfl rfl ?_
      refine wp_iload_n dX1_sell_55 2 rfl ?_
      refine wp_iadd dX1_sell_56 ?_
      refine wp_istore (lv' := [(0, _), (1, _), (2, _), (3, _), (4, _)]) dX1_sell_57 rfl rfl rfl ?_
      refine wp_aload_n dX1_sell_59 0 rfl ?_
      refine wp_getR (k := 12) (a' := ad 18) dX1_sell_60 flX1_27 rfl rfl rfl rfl rfl ?_
      refine wp_iload dX1_sell_63 4 rfl ?_
      refine wp_dup2 dX1_sell_65 rfl rfl ?_
      obtain ⟨g66, h⟩ := o_grd h
      refine wp_iald (k := 18) dX1_sell_66 rfl rfl (inb_of g66) ?_
      refine wp_iload_n dX1_sell_67 3 rfl ?_
      refine wp_iadd dX1_sell_68 ?_
      obtain ⟨g69, h⟩ := o_grd h
      refine wp_iast (k := 18) dX1_sell_69 rfl rfl (inb_of g69) ?_
      refine wp_aload_n dX1_sell_70 0 rfl ?_
      refine wp_getR (k := 12) (a' := ad 18) dX1_sell_71 flX1_27 rfl rfl rfl rfl rfl ?_
      refine wp_iload_n dX1_sell_74 1 rfl ?_
      refine wp_dup2 dX1_sell_75 rfl rfl ?_
      obtain ⟨g76, h⟩ := o_grd h
      refine wp_iald (k := 18) dX1_sell_76 rfl rfl (inb_of g76) ?_
      refine wp_iload_n dX1_sell_77 3 rfl ?_
      refine wp_iadd dX1_sell_78 ?_
      obtain ⟨g79, h⟩ := o_grd h
      obtain ⟨i79, e79, h⟩ := o_bind h
      refine wp_iast (k := 18) dX1_sell_79 rfl rfl (inb_of g79) ?_
      refine wp_stI (Option.some.inj e79) ?_
      refine wp_aload_n dX1_sell_80 0 rfl ?_
      refine wp_iload_n dX1_sell_81 1 rfl ?_
      refine wp_iload dX1_sell_82 4 rfl ?_
      obtain ⟨r84, h84, h⟩ := o_bind h
      refine wp_callvI (k := 12) (ci := 1) (c_X1_brokerOf Γ ad v1 ((I 3 0) + v2) i79 J r84 h84) dX1_sell_84 mlX1_114 mwX1_brokerOf miX1_brokerOf rfl rfl rfl rfl (Nat.le_of_ble_eq_true rfl) rfl (by decide) (by decide) ?_
      refine wp_istore (lv' := [(0, _), (1, _), (2, _), (3, _), (4, _), (5, _)]) dX1_sell_87 rfl rfl rfl ?_
      refine wp_iload dX1_sell_89 5 rfl ?_
      refine wp_iconst (v := (-1)) dX1_sell_91 (by decide) ?_
      refine wp_icmp_eq 135 dX1_sell_92 rfl (fun c92 => ?_) (fun c92 => ?_)
      · replace h := o_pos h c92
        obtain rfl := Option.some.inj h
        exact wp_return dX1_sell_135 rfl ⟨rfl, rfl, rfl, rfl⟩
      · replace h := o_neg h c92
        refine wp_iload_n dX1_sell_95 3 rfl ?_
        refine wp_aload_n dX1_sell_96 0 rfl ?_
        refine wp_getR (k := 12) (a' := ad 3) dX1_sell_97 flX1_30 rfl rfl rfl rfl rfl ?_
        refine wp_getR (k := 3) (a' := ad 5) dX1_sell_100 flX1_94 rfl rfl rfl rfl rfl ?_
        refine wp_iload dX1_sell_103 5 rfl ?_
        obtain ⟨g105, h⟩ := o_grd h
        refine wp_iald (k := 5) dX1_sell_105 rfl rfl (inb_of g105) ?_
        refine wp_imul dX1_sell_106 ?_
        refine wp_bipush (v := 100) dX1_sell_107 (by decide) ?_
        refine wp_idiv dX1_sell_109 (by decide) ?_
        refine wp_istore (lv' := [(0, _), (1, _), (2, _), (3, _), (4, _), (5, _), (6, _)]) dX1_sell_110 rfl rfl rfl ?_
        refine wp_aload_n dX1_sell_112 0 rfl ?_
        refine wp_getR (k := 12) (a' := ad 18) dX1_sell_113 flX1_27 rfl rfl rfl rfl rfl ?_
        refine wp_iload dX1_sell_116 5 rfl ?_
        refine wp_dup2 dX1_sell_118 rfl rfl ?_
        obtain ⟨g119, h⟩ := o_grd h
        refine wp_iald (k := 18) dX1_sell_119 rfl rfl (inb_of g119) ?_
        refine wp_iload dX1_sell_120 6 rfl ?_
        refine wp_iadd dX1_sell_122 ?_
        obtain ⟨g123, h⟩ := o_grd h
        refine wp_iast (k := 18) dX1_sell_123 rfl rfl (inb_of g123) ?_
        refine wp_aload_n dX1_sell_124 0 rfl ?_
        refine wp_getR (k := 12) (a' := ad 18) dX1_sell_125 flX1_27 rfl rfl rfl rfl rfl ?_
        refine wp_iload_n dX1_sell_128 1 rfl ?_
        refine wp_dup2 dX1_sell_129 rfl rfl ?_
        obtain ⟨g130, h⟩ := o_grd h
        refine wp_iald (k := 18) dX1_sell_130 rfl rfl (inb_of g130) ?_
        refine wp_iload dX1_sell_131 6 rfl ?_
        refine wp_isub dX1_sell_133 ?_
        obtain ⟨g134, h⟩ := o_grd h
        obtain ⟨i134, e134, h⟩ := o_bind h
        refine wp_iast (k := 18) dX1_sell_134 rfl rfl (inb_of g134) ?_
        refine wp_stI (Option.some.inj e134) ?_
        obtain rfl := Option.some.inj h
        exact wp_return dX1_sell_135 rfl ⟨rfl, rfl, rfl, rfl⟩
    · replace h := o_neg h c26
      refine wp_aload_n dX1_sell_29 0 rfl ?_
      refine wp_getR (k := 12) (a' := ad 14) dX1_sell_30 flX1_15 rfl rfl rfl rfl rfl ?_
      refine wp_iload dX1_sell_33 4 rfl ?_
      refine wp_bipush (v := 6) dX1_sell_35 (by decide) ?_
      refine wp_imul dX1_sell_37 ?_
      refine wp_iload_n dX1_sell_38 1 rfl ?_
      refine wp_iadd dX1_sell_39 ?_
      refine wp_iconst (v := 0) dX1_sell_40 (by decide) ?_
      obtain ⟨g41, h⟩ := o_grd h
      refine wp_iast (k := 14) dX1_sell_41 rfl rfl (inb_of g41) ?_
      refine wp_iinc (v := v4 + 1) (lv' := [(0, _), (1, _), (2, _), (3, _), (4, _)]) dX1_sell_42 4 rfl rfl rfl rfl rfl ?_
      refine wp_goto 17 dX1_sell_45 rfl ?_
      refine wp_pick [0, 1, 2, 3, 4] (lv' := [(0, _), (1, _), (2, _), (3, _), (4, _)]) rfl ?_
      exact ih v1 v2 v3 (v4 + 1) (upI I 14 (((v4 * 6) + v1).toNatClampNeg) 0) J r h
set_option maxRecDepth 100000 in
set_option maxHeartbeats 4000000 in
theorem c_X1_sell (Γ : GT) (ad : Nat → Nat) (a1 : Int32) (a2 : Int32) (a3 : Int32) (I : IT) (J : JT) (r : IT) (h : f_X1_sell a1 a2 a3 I = some r) : CALL Γ mX1_sell (0, 0) [.ref (ad 12), .int a1, .int a2, .int a3] (DX ad) I J (QE none (DX ad) r J) := by
  refine call_of' (by decide) (Nat.le_of_ble_eq_true rfl) (lv0 := [(0, .ref (ad 12)), (1, .int a1), (2, .int a2), (3, .int a3)]) rfl ?_
  unfold f_X1_sell at h
  refine wp_aload_n dX1_sell_0 0 rfl ?_
  refine wp_getR (k := 12) (a' := ad 16) dX1_sell_1 flX1_21 rfl rfl rfl rfl rfl ?_
  refine wp_iload_n dX1_sell_4 1 rfl ?_
  refine wp_iload_n dX1_sell_5 2 rfl ?_
  obtain ⟨g6, h⟩ := o_grd h
  refine wp_iast (k := 16) dX1_sell_6 rfl rfl (inb_of g6) ?_
  refine wp_aload_n dX1_sell_7 0 rfl ?_
  refine wp_getR (k := 12) (a' := ad 17) dX1_sell_8 flX1_24 rfl rfl rfl rfl rfl ?_
  refine wp_iload_n dX1_sell_11 1 rfl ?_
  refine wp_iload_n dX1_sell_12 3 rfl ?_
  obtain ⟨g13, h⟩ := o_grd h
  refine wp_iast (k := 17) dX1_sell_13 rfl rfl (inb_of g13) ?_
  refine wp_iconst (v := 0) dX1_sell_14 (by decide) ?_
  refine wp_istore (lv' := [(0, _), (1, _), (2, _), (3, _), (4, _)]) dX1_sell_15 rfl rfl rfl ?_
  refine wp_pick [0, 1, 2, 3, 4] (lv' := [(0, _), (1, _), (2, _), (3, _), (4, _)]) rfl ?_
  exact w_X1_sell_17 Γ ad FU a1 a2 a3 0 (upI (upI I 16 a1.toNatClampNeg a2) 17 a1.toNatClampNeg a3) J r h
def f_X1_bind (a1 : Int32) (a2 : Int32) (a3 : Int32) (I : IT) : Option (IT) :=
  if inbB ((a1 * 6) + a2) 84 = true then
    if inbB ((a1 * 6) + a2) 84 = true then
      (some (upI (upI I 14 (((a1 * 6) + a2).toNatClampNeg) a3) 15 (((a1 * 6) + a2).toNatClampNeg) (((upI I 14 (((a1 * 6) + a2).toNatClampNeg) a3) 12 1) + ((upI I 14 (((a1 * 6) + a2).toNatClampNeg) a3) 3 3)))).bind fun i34 =>
      (f_X1_winnerOf a2 i34).bind fun r37 =>
      if r37 = ((-1) : Int32) then
        some i34
      else
        if inbB ((a2 * 6) + a2) 84 = true then
          (f_X1_sell a2 r37 (i34 14 ((a2 * 6) + a2).toNatClampNeg) i34).bind fun r63 =>
          some r63
        else none
    else none
  else none
set_option maxRecDepth 100000 in
set_option maxHeartbeats 4000000 in
theorem c_X1_bind (Γ : GT) (ad : Nat → Nat) (a1 : Int32) (a2 : Int32) (a3 : Int32) (I : IT) (J : JT) (r : IT) (h : f_X1_bind a1 a2 a3 I = some r) : CALL Γ mX1_bind (0, 0) [.ref (ad 12), .int a1, .int a2, .int a3] (DX ad) I J (QE none (DX ad) r J) := by
  refine call_of' (by decide) (Nat.le_of_ble_eq_true rfl) (lv0 := [(0, .ref (ad 12)), (1, .int a1), (2, .int a2), (3, .int a3)]) rfl ?_
  unfold f_X1_bind at h
  refine wp_iload_n dX1_bind_0 1 rfl ?_
  refine wp_bipush (v := 6) dX1_bind_1 (by decide) ?_
  refine wp_imul dX1_bind_3 ?_
  refine wp_iload_n dX1_bind_4 2 rfl ?_
  refine wp_iadd dX1_bind_5 ?_
  refine wp_istore (lv' := [(0, _), (1, _), (2, _), (3, _), (4, _)]) dX1_bind_6 rfl rfl rfl ?_
  refine wp_aload_n dX1_bind_8 0 rfl ?_
  refine wp_getR (k := 12) (a' := ad 14) dX1_bind_9 flX1_15 rfl rfl rfl rfl rfl ?_
  refine wp_iload dX1_bind_12 4 rfl ?_
  refine wp_iload_n dX1_bind_14 3 rfl ?_
  obtain ⟨g15, h⟩ := o_grd h
  refine wp_iast (k := 14) dX1_bind_15 rfl rfl (inb_of g15) ?_
  refine wp_aload_n dX1_bind_16 0 rfl ?_
  refine wp_getR (k := 12) (a' := ad 15) dX1_bind_17 flX1_18 rfl rfl rfl rfl rfl ?_
  refine wp_iload dX1_bind_20 4 rfl ?_
  refine wp_aload_n dX1_bind_22 0 rfl ?_
  refine wp_getI (k := 12) dX1_bind_23 flX1_37 rfl rfl rfl rfl ?_
  refine wp_aload_n dX1_bind_26 0 rfl ?_
  refine wp_getR (k := 12) (a' := ad 3) dX1_bind_27 flX1_30 rfl rfl rfl rfl rfl ?_
  refine wp_getI (k := 3) dX1_bind_30 flX1_97 rfl rfl rfl rfl ?_
  refine wp_iadd dX1_bind_33 ?_
  obtain ⟨g34, h⟩ := o_grd h
  obtain ⟨i34, e34, h⟩ := o_bind h
  refine wp_iast (k := 15) dX1_bind_34 rfl rfl (inb_of g34) ?_
  refine wp_stI (Option.some.inj e34) ?_
  refine wp_aload_n dX1_bind_35 0 rfl ?_
  refine wp_iload_n dX1_bind_36 2 rfl ?_
  obtain ⟨r37, h37, h⟩ := o_bind h
  refine wp_callvI (k := 12) (ci := 1) (c_X1_winnerOf Γ ad a2 i34 J r37 h37) dX1_bind_37 mlX1_100 mwX1_winnerOf miX1_winnerOf rfl rfl rfl rfl (Nat.le_of_ble_eq_true rfl) rfl (by decide) (by decide) ?_
  refine wp_istore (lv' := [(0, _), (1, _), (2, _), (3, _), (4, _), (5, _)]) dX1_bind_40 rfl rfl rfl ?_
  refine wp_iload dX1_bind_42 5 rfl ?_
  refine wp_iconst (v := (-1)) dX1_bind_44 (by decide) ?_
  refine wp_icmp_eq 66 dX1_bind_45 rfl (fun c45 => ?_) (fun c45 => ?_)
  · replace h := o_pos h c45
    obtain rfl := Option.some.inj h
    exact wp_return dX1_bind_66 rfl ⟨rfl, rfl, rfl, rfl⟩
  · replace h := o_neg h c45
    refine wp_aload_n dX1_bind_48 0 rfl ?_
    refine wp_iload_n dX1_bind_49 2 rfl ?_
    refine wp_iload dX1_bind_50 5 rfl ?_
    refine wp_aload_n dX1_bind_52 0 rfl ?_
    refine wp_getR (k := 12) (a' := ad 14) dX1_bind_53 flX1_15 rfl rfl rfl rfl rfl ?_
    refine wp_iload_n dX1_bind_56 2 rfl ?_
    refine wp_bipush (v := 6) dX1_bind_57 (by decide) ?_
    refine wp_imul dX1_bind_59 ?_
    refine wp_iload_n dX1_bind_60 2 rfl ?_
    refine wp_iadd dX1_bind_61 ?_
    obtain ⟨g62, h⟩ := o_grd h
    refine wp_iald (k := 14) dX1_bind_62 rfl rfl (inb_of g62) ?_
    obtain ⟨r63, h63, h⟩ := o_bind h
    refine wp_callvV (k := 12) (ci := 1) (c_X1_sell Γ ad a2 r37 (i34 14 ((a2 * 6) + a2).toNatClampNeg) i34 J r63 h63) dX1_bind_63 mlX1_103 mwX1_sell miX1_sell rfl rfl rfl rfl (Nat.le_of_ble_eq_true rfl) rfl (by decide) (by decide) ?_
    obtain rfl := Option.some.inj h
    exact wp_return dX1_bind_66 rfl ⟨rfl, rfl, rfl, rfl⟩
def f_X9_press (a1 : Int32) (a2 : Int32) (a3 : Int32) (a4 : Int32) (a5 : Int32) (I : IT) : Option (Int32 × IT) :=
  (f_X9_areTwoPersons a1 a2 I).bind fun r3 =>
  if r3 = 0 then
    some ((-1000001), I)
  else
    (f_X2_hasLot a3 I).bind fun r14 =>
    if r14 = 0 then
      some ((-1000001), I)
    else
      (f_X9_canBeFor a1 a2 a5 I).bind fun r25 =>
      if r25 = 0 then
        some ((-1000001), I)
      else
        (f_X9_isWithin a4 0 2).bind fun r38 =>
        if r38 = 0 then
          some ((-1000002), I)
        else
          (f_X6_pricePressed I).bind fun r51 =>
          if a4 = (2 : Int32) then
            if r51 = ((-1) : Int32) then
              if a5 = ((-1) : Int32) then
                if r51 = ((-1) : Int32) then
                  some ((-1000003), upI I 1 1 0)
                else
                  (f_X1_maySpeak a1 a2 a3 a1 (upI I 1 1 0)).bind fun r125 =>
                  if r125 = 0 then
                    some ((-1000003), upI I 1 1 0)
                  else
                    if a4 = (1 : Int32) then
                      some (r51, upI I 1 1 0)
                    else
                      (f_X1_mayBind a1 a3 r51 (upI I 1 1 0)).bind fun r152 =>
                      if r152 = 0 then
                        some ((-1000003), upI I 1 1 0)
                      else
                        (f_X1_bind a1 a3 r51 (upI I 1 1 0)).bind fun r170 =>
                        some (r51, r170)
              else
                if r51 = ((-1) : Int32) then
                  some ((-1000003), upI I 1 1 0)
                else
                  (f_X1_maySpeak a1 a2 a3 a5 (upI I 1 1 0)).bind fun r125 =>
                  if r125 = 0 then
                    some ((-1000003), upI I 1 1 0)
                  else
                    if a4 = (1 : Int32) then
                      some (r51, upI I 1 1 0)
                    else
                      (f_X1_mayBind a5 a3 r51 (upI I 1 1 0)).bind fun r152 =>
                      if r152 = 0 then
                        some ((-1000003), upI I 1 1 0)
                      else
                        (f_X1_bind a5 a3 r51 (upI I 1 1 0)).bind fun r170 =>
                        some (r51, r170)
            else
              if (999 : Int32) < (r51 * 2) then
                if a5 = ((-1) : Int32) then
                  if ((-1) : Int32) = ((-1) : Int32) then
                    some ((-1000003), upI I 1 1 0)
                  else
                    (f_X1_maySpeak a1 a2 a3 a1 (upI I 1 1 0)).bind fun r125 =>
                    if r125 = 0 then
                      some ((-1000003), upI I 1 1 0)
                    else
                      if a4 = (1 : Int32) then
                        some ((-1), upI I 1 1 0)
                      else
                        (f_X1_mayBind a1 a3 (-1) (upI I 1 1 0)).bind fun r152 =>
                        if r152 = 0 then
                          some ((-1000003), upI I 1 1 0)
                        else
                          (f_X1_bind a1 a3 (-1) (upI I 1 1 0)).bind fun r170 =>
                          some ((-1), r170)
                else
                  if ((-1) : Int32) = ((-1) : Int32) then
                    some ((-1000003), upI I 1 1 0)
                  else
                    (f_X1_maySpeak a1 a2 a3 a5 (upI I 1 1 0)).bind fun r125 =>
                    if r125 = 0 then
                      some ((-1000003), upI I 1 1 0)
                    else
                      if a4 = (1 : Int32) then
                        some ((-1), upI I 1 1 0)
                      else
                        (f_X1_mayBind a5 a3 (-1) (upI I 1 1 0)).bind fun r152 =>
                        if r152 = 0 then
                          some ((-1000003), upI I 1 1 0)
                        else
                          (f_X1_bind a5 a3 (-1) (upI I 1 1 0)).bind fun r170 =>
                          some ((-1), r170)
              else
                if a5 = ((-1) : Int32) then
                  if (r51 * 2) = ((-1) : Int32) then
                    some ((-1000003), upI I 1 1 0)
                  else
                    (f_X1_maySpeak a1 a2 a3 a1 (upI I 1 1 0)).bind fun r125 =>
                    if r125 = 0 then
                      some ((-1000003), upI I 1 1 0)
                    else
                      if a4 = (1 : Int32) then
                        some (r51 * 2, upI I 1 1 0)
                      else
                        (f_X1_mayBind a1 a3 (r51 * 2) (upI I 1 1 0)).bind fun r152 =>
                        if r152 = 0 then
                          some ((-1000003), upI I 1 1 0)
                        else
                          (f_X1_bind a1 a3 (r51 * 2) (upI I 1 1 0)).bind fun r170 =>
                          some (r51 * 2, r170)
                else
                  if (r51 * 2) = ((-1) : Int32) then
                    some ((-1000003), upI I 1 1 0)
                  else
                    (f_X1_maySpeak a1 a2 a3 a5 (upI I 1 1 0)).bind fun r125 =>
                    if r125 = 0 then
                      some ((-1000003), upI I 1 1 0)
                    else
                      if a4 = (1 : Int32) then
                        some (r51 * 2, upI I 1 1 0)
                      else
                        (f_X1_mayBind a5 a3 (r51 * 2) (upI I 1 1 0)).bind fun r152 =>
                        if r152 = 0 then
                          some ((-1000003), upI I 1 1 0)
                        else
                          (f_X1_bind a5 a3 (r51 * 2) (upI I 1 1 0)).bind fun r170 =>
                          some (r51 * 2, r170)
          else
            if a5 = ((-1) : Int32) then
              if r51 = ((-1) : Int32) then
                some ((-1000003), upI I 1 1 0)
              else
                (f_X1_maySpeak a1 a2 a3 a1 (upI I 1 1 0)).bind fun r125 =>
                if r125 = 0 then
                  some ((-1000003), upI I 1 1 0)
                else
                  if a4 = (1 : Int32) then
                    some (r51, upI I 1 1 0)
                  else
                    (f_X1_mayBind a1 a3 r51 (upI I 1 1 0)).bind fun r152 =>
                    if r152 = 0 then
                      some ((-1000003), upI I 1 1 0)
                    else
                      (f_X1_bind a1 a3 r51 (upI I 1 1 0)).bind fun r170 =>
                      some (r51, r170)
            else
              if r51 = ((-1) : Int32) then
                some ((-1000003), upI I 1 1 0)
              else
                (f_X1_maySpeak a1 a2 a3 a5 (upI I 1 1 0)).bind fun r125 =>
                if r125 = 0 then
                  some ((-1000003), upI I 1 1 0)
                else
                  if a4 = (1 : Int32) then
                    some (r51, upI I 1 1 0)
                  else
                    (f_X1_mayBind a5 a3 r51 (upI I 1 1 0)).bind fun r152 =>
                    if r152 = 0 then
                      some ((-1000003), upI I 1 1 0)
                    else
                      (f_X1_bind a5 a3 r51 (upI I 1 1 0)).bind fun r170 =>
                      some (r51, r170)
set_option maxRecDepth 100000 in
set_option maxHeartbeats 4000000 in
theorem c_X9_press (Γ : GT) (ad : Nat → Nat) (a1 : Int32) (a2 : Int32) (a3 : Int32) (a4 : Int32) (a5 : Int32) (I : IT) (J : JT) (r : Int32 × IT) (h : f_X9_press a1 a2 a3 a4 a5 I = some r) : CALL Γ mX9_press (0, 0) [.ref (ad 0), .int a1, .int a2, .int a3, .int a4, .int a5] (DX ad) I J (QE (some (.int r.1)) (DX ad) r.2 J) := by
  refine call_of' (by decide) (Nat.le_of_ble_eq_true rfl) (lv0 := [(0, .ref (ad 0)), (1, .int a1), (2, .int a2), (3, .int a3), (4, .int a4), (5, .int a5)]) rfl ?_
  unfold f_X9_press at h
  refine wp_aload_n dX9_press_0 0 rfl ?_
  refine wp_iload_n dX9_press_1 1 rfl ?_
  refine wp_iload_n dX9_press_2 2 rfl ?_
  obtain ⟨r3, h3, h⟩ := o_bind h
  refine wp_callvI (k := 0) (ci := 9) (c_X9_areTwoPersons Γ ad a1 a2 I J r3 h3) dX9_press_3 mlX9_201 mwX9_areTwoPersons miX9_areTwoPersons rfl rfl rfl rfl (Nat.le_of_ble_eq_true rfl) rfl (by decide) (by decide) ?_
  refine wp_if_eq 31 dX9_press_6 rfl (fun c6 => ?_) (fun c6 => ?_)
  · replace h := o_pos h c6
    refine wp_ldc (v := (-1000001)) dX9_press_31 kcX9_155 ?_
    obtain rfl := Option.some.inj h
    exact wp_ireturn (ty := .int) dX9_press_33 rfl rfl ⟨rfl, rfl, rfl, rfl⟩
  · replace h := o_neg h c6
    refine wp_aload_n dX9_press_9 0 rfl ?_
    refine wp_getR (k := 0) (a' := ad 3) dX9_press_10 flX9_19 rfl rfl rfl rfl rfl ?_
    refine wp_iload_n dX9_press_13 3 rfl ?_
    obtain ⟨r14, h14, h⟩ := o_bind h
    refine wp_callvI (k := 3) (ci := 2) (c_X2_hasLot Γ ad a3 I J r14 h14) dX9_press_14 mlX9_176 mwX2_hasLot miX2_hasLot rfl rfl rfl rfl (Nat.le_of_ble_eq_true rfl) rfl (by decide) (by decide) ?_
    refine wp_if_eq 31 dX9_press_17 rfl (fun c17 => ?_) (fun c17 => ?_)
    · replace h := o_pos h c17
      refine wp_ldc (v := (-1000001)) dX9_press_31 kcX9_155 ?_
      obtain rfl := Option.some.inj h
      exact wp_ireturn (ty := .int) dX9_press_33 rfl rfl ⟨rfl, rfl, rfl, rfl⟩
    · replace h := o_neg h c17
      refine wp_aload_n dX9_press_20 0 rfl ?_
      refine wp_iload_n dX9_press_21 1 rfl ?_
      refine wp_iload_n dX9_press_22 2 rfl ?_
      refine wp_iload dX9_press_23 5 rfl ?_
      obtain ⟨r25, h25, h⟩ := o_bind h
      refine wp_callvI (k := 0) (ci := 9) (c_X9_canBeFor Γ ad a1 a2 a5 I J r25 h25) dX9_press_25 mlX9_218 mwX9_canBeFor miX9_canBeFor rfl rfl rfl rfl (Nat.le_of_ble_eq_true rfl) rfl (by decide) (by decide) ?_
      refine wp_if_ne 34 dX9_press_28 rfl (fun c28 => ?_) (fun c28 => ?_)
      · replace h := o_neg h c28
        refine wp_iload dX9_press_34 4 rfl ?_
        refine wp_iconst (v := 0) dX9_press_36 (by decide) ?_
        refine wp_iconst (v := 2) dX9_press_37 (by decide) ?_
        obtain ⟨r38, h38, h⟩ := o_bind h
        refine wp_callsI (c_X9_isWithin Γ ad a4 0 2 I J r38 h38) dX9_press_38 mlX9_90 mwX9_isWithin miX9_isWithin rfl (Nat.le_of_ble_eq_true rfl) rfl (by decide) (by decide) ?_
        refine wp_if_ne 47 dX9_press_41 rfl (fun c41 => ?_) (fun c41 => ?_)
        · replace h := o_neg h c41
          refine wp_aload_n dX9_press_47 0 rfl ?_
          refine wp_getR (k := 0) (a' := ad 1) dX9_press_48 flX9_10 rfl rfl rfl rfl rfl ?_
          obtain ⟨r51, h51, h⟩ := o_bind h
          refine wp_callvI (k := 1) (ci := 6) (c_X6_pricePressed Γ ad I J r51 h51) dX9_press_51 mlX9_221 mwX6_pricePressed miX6_pricePressed rfl rfl rfl rfl (Nat.le_of_ble_eq_true rfl) rfl (by decide) (by decide) ?_
          refine wp_istore (lv' := [(0, _), (1, _), (2, _), (3, _), (4, _), (5, _), (6, _)]) dX9_press_54 rfl rfl rfl ?_
          refine wp_aload_n dX9_press_56 0 rfl ?_
          refine wp_getR (k := 0) (a' := ad 1) dX9_press_57 flX9_10 rfl rfl rfl rfl rfl ?_
          refine wp_iconst (v := 0) dX9_press_60 (by decide) ?_
          refine wp_putI (k := 1) dX9_press_61 flX9_95 rfl rfl rfl rfl rfl rfl rfl rfl ?_
          refine wp_iload dX9_press_64 4 rfl ?_
          refine wp_iconst (v := 2) dX9_press_66 (by decide) ?_
          refine wp_icmp_ne 96 dX9_press_67 rfl (fun c67 => ?_) (fun c67 => ?_)
          · replace h := o_neg h c67
            refine wp_iload dX9_press_96 5 rfl ?_
            refine wp_iconst (v := (-1)) dX9_press_98 (by decide) ?_
            refine wp_icmp_ne 106 dX9_press_99 rfl (fun c99 => ?_) (fun c99 => ?_)
            · replace h := o_neg h c99
              refine wp_iload dX9_press_106 5 rfl ?_
              refine wp_istore (lv' := [(0, _), (1, _), (2, _), (3, _), (4, _), (5, _), (6, _), (7, _)]) dX9_press_108 rfl rfl rfl ?_
              refine wp_iload dX9_press_110 6 rfl ?_
              refine wp_iconst (v := (-1)) dX9_press_112 (by decide) ?_
              refine wp_icmp_eq 131 dX9_press_113 rfl (fun c113 => ?_) (fun c113 => ?_)
              · replace h := o_pos h c113
                refine wp_ldc (v := (-1000003)) dX9_press_131 kcX9_207 ?_
                obtain rfl := Option.some.inj h
                exact wp_ireturn (ty := .int) dX9_press_133 rfl rfl ⟨rfl, rfl, rfl, rfl⟩
              · replace h := o_neg h c113
                refine wp_aload_n dX9_press_116 0 rfl ?_
                refine wp_getR (k := 0) (a' := ad 12) dX9_press_117 flX9_37 rfl rfl rfl rfl rfl ?_
                refine wp_iload_n dX9_press_120 1 rfl ?_
                refine wp_iload_n dX9_press_121 2 rfl ?_
                refine wp_iload_n dX9_press_122 3 rfl ?_
                refine wp_iload dX9_press_123 7 rfl ?_
                obtain ⟨r125, h125, h⟩ := o_bind h
                refine wp_callvI (k := 12) (ci := 1) (c_X1_maySpeak Γ ad a1 a2 a3 a5 (upI I 1 1 0) J r125 h125) dX9_press_125 mlX9_224 mwX1_maySpeak miX1_maySpeak rfl rfl rfl rfl (Nat.le_of_ble_eq_true rfl) rfl (by decide) (by decide) ?_
                refine wp_if_ne 134 dX9_press_128 rfl (fun c128 => ?_) (fun c128 => ?_)
                · replace h := o_neg h c128
                  refine wp_iload dX9_press_134 4 rfl ?_
                  refine wp_iconst (v := 1) dX9_press_136 (by decide) ?_
                  refine wp_icmp_ne 143 dX9_press_137 rfl (fun c137 => ?_) (fun c137 => ?_)
                  · replace h := o_neg h c137
                    refine wp_aload_n dX9_press_143 0 rfl ?_
                    refine wp_getR (k := 0) (a' := ad 12) dX9_press_144 flX9_37 rfl rfl rfl rfl rfl ?_
                    refine wp_iload dX9_press_147 7 rfl ?_
                    refine wp_iload_n dX9_press_149 3 rfl ?_
                    refine wp_iload dX9_press_150 6 rfl ?_
                    obtain ⟨r152, h152, h⟩ := o_bind h
                    refine wp_callvI (k := 12) (ci := 1) (c_X1_mayBind Γ ad a5 a3 r51 (upI I 1 1 0) J r152 h152) dX9_press_152 mlX9_228 mwX1_mayBind miX1_mayBind rfl rfl rfl rfl (Nat.le_of_ble_eq_true rfl) rfl (by decide) (by decide) ?_
                    refine wp_if_ne 161 dX9_press_155 rfl (fun c155 => ?_) (fun c155 => ?_)
                    · replace h := o_neg h c155
                      refine wp_aload_n dX9_press_161 0 rfl ?_
                      refine wp_getR (k := 0) (a' := ad 12) dX9_press_162 flX9_37 rfl rfl rfl rfl rfl ?_
                      refine wp_iload dX9_press_165 7 rfl ?_
                      refine wp_iload_n dX9_press_167 3 rfl ?_
                      refine wp_iload dX9_press_168 6 rfl ?_
                      obtain ⟨r170, h170, h⟩ := o_bind h
                      refine wp_callvV (k := 12) (ci := 1) (c_X1_bind Γ ad a5 a3 r51 (upI I 1 1 0) J r170 h170) dX9_press_170 mlX9_231 mwX1_bind miX1_bind rfl rfl rfl rfl (Nat.le_of_ble_eq_true rfl) rfl (by decide) (by decide) ?_
                      refine wp_iload dX9_press_173 6 rfl ?_
                      obtain rfl := Option.some.inj h
                      exact wp_ireturn (ty := .int) dX9_press_175 rfl rfl ⟨rfl, rfl, rfl, rfl⟩
                    · replace h := o_pos h c155
                      refine wp_ldc (v := (-1000003)) dX9_press_158 kcX9_207 ?_
                      obtain rfl := Option.some.inj h
                      exact wp_ireturn (ty := .int) dX9_press_160 rfl rfl ⟨rfl, rfl, rfl, rfl⟩
                  · replace h := o_pos h c137
                    refine wp_iload dX9_press_140 6 rfl ?_
                    obtain rfl := Option.some.inj h
                    exact wp_ireturn (ty := .int) dX9_press_142 rfl rfl ⟨rfl, rfl, rfl, rfl⟩
                · replace h := o_pos h c128
                  refine wp_ldc (v := (-1000003)) dX9_press_131 kcX9_207 ?_
                  obtain rfl := Option.some.inj h
                  exact wp_ireturn (ty := .int) dX9_press_133 rfl rfl ⟨rfl, rfl, rfl, rfl⟩
            · replace h := o_pos h c99
              refine wp_iload_n dX9_press_102 1 rfl ?_
              refine wp_goto 108 dX9_press_103 rfl ?_
              refine wp_istore (lv' := [(0, _), (1, _), (2, _), (3, _), (4, _), (5, _), (6, _), (7, _)]) dX9_press_108 rfl rfl rfl ?_
              refine wp_iload dX9_press_110 6 rfl ?_
              refine wp_iconst (v := (-1)) dX9_press_112 (by decide) ?_
              refine wp_icmp_eq 131 dX9_press_113 rfl (fun c113 => ?_) (fun c113 => ?_)
              · replace h := o_pos h c113
                refine wp_ldc (v := (-1000003)) dX9_press_131 kcX9_207 ?_
                obtain rfl := Option.some.inj h
                exact wp_ireturn (ty := .int) dX9_press_133 rfl rfl ⟨rfl, rfl, rfl, rfl⟩
              · replace h := o_neg h c113
                refine wp_aload_n dX9_press_116 0 rfl ?_
                refine wp_getR (k := 0) (a' := ad 12) dX9_press_117 flX9_37 rfl rfl rfl rfl rfl ?_
                refine wp_iload_n dX9_press_120 1 rfl ?_
                refine wp_iload_n dX9_press_121 2 rfl ?_
                refine wp_iload_n dX9_press_122 3 rfl ?_
                refine wp_iload dX9_press_123 7 rfl ?_
                obtain ⟨r125, h125, h⟩ := o_bind h
                refine wp_callvI (k := 12) (ci := 1) (c_X1_maySpeak Γ ad a1 a2 a3 a1 (upI I 1 1 0) J r125 h125) dX9_press_125 mlX9_224 mwX1_maySpeak miX1_maySpeak rfl rfl rfl rfl (Nat.le_of_ble_eq_true rfl) rfl (by decide) (by decide) ?_
                refine wp_if_ne 134 dX9_press_128 rfl (fun c128 => ?_) (fun c128 => ?_)
                · replace h := o_neg h c128
                  refine wp_iload dX9_press_134 4 rfl ?_
                  refine wp_iconst (v := 1) dX9_press_136 (by decide) ?_
                  refine wp_icmp_ne 143 dX9_press_137 rfl (fun c137 => ?_) (fun c137 => ?_)
                  · replace h := o_neg h c137
                    refine wp_aload_n dX9_press_143 0 rfl ?_
                    refine wp_getR (k := 0) (a' := ad 12) dX9_press_144 flX9_37 rfl rfl rfl rfl rfl ?_
                    refine wp_iload dX9_press_147 7 rfl ?_
                    refine wp_iload_n dX9_press_149 3 rfl ?_
                    refine wp_iload dX9_press_150 6 rfl ?_
                    obtain ⟨r152, h152, h⟩ := o_bind h
                    refine wp_callvI (k := 12) (ci := 1) (c_X1_mayBind Γ ad a1 a3 r51 (upI I 1 1 0) J r152 h152) dX9_press_152 mlX9_228 mwX1_mayBind miX1_mayBind rfl rfl rfl rfl (Nat.le_of_ble_eq_true rfl) rfl (by decide) (by decide) ?_
                    refine wp_if_ne 161 dX9_press_155 rfl (fun c155 => ?_) (fun c155 => ?_)
                    · replace h := o_neg h c155
                      refine wp_aload_n dX9_press_161 0 rfl ?_
                      refine wp_getR (k := 0) (a' := ad 12) dX9_press_162 flX9_37 rfl rfl rfl rfl rfl ?_
                      refine wp_iload dX9_press_165 7 rfl ?_
                      refine wp_iload_n dX9_press_167 3 rfl ?_
                      refine wp_iload dX9_press_168 6 rfl ?_
                      obtain ⟨r170, h170, h⟩ := o_bind h
                      refine wp_callvV (k := 12) (ci := 1) (c_X1_bind Γ ad a1 a3 r51 (upI I 1 1 0) J r170 h170) dX9_press_170 mlX9_231 mwX1_bind miX1_bind rfl rfl rfl rfl (Nat.le_of_ble_eq_true rfl) rfl (by decide) (by decide) ?_
                      refine wp_iload dX9_press_173 6 rfl ?_
                      obtain rfl := Option.some.inj h
                      exact wp_ireturn (ty := .int) dX9_press_175 rfl rfl ⟨rfl, rfl, rfl, rfl⟩
                    · replace h := o_pos h c155
                      refine wp_ldc (v := (-1000003)) dX9_press_158 kcX9_207 ?_
                      obtain rfl := Option.some.inj h
                      exact wp_ireturn (ty := .int) dX9_press_160 rfl rfl ⟨rfl, rfl, rfl, rfl⟩
                  · replace h := o_pos h c137
                    refine wp_iload dX9_press_140 6 rfl ?_
                    obtain rfl := Option.some.inj h
                    exact wp_ireturn (ty := .int) dX9_press_142 rfl rfl ⟨rfl, rfl, rfl, rfl⟩
                · replace h := o_pos h c128
                  refine wp_ldc (v := (-1000003)) dX9_press_131 kcX9_207 ?_
                  obtain rfl := Option.some.inj h
                  exact wp_ireturn (ty := .int) dX9_press_133 rfl rfl ⟨rfl, rfl, rfl, rfl⟩
          · replace h := o_pos h c67
            refine wp_iload dX9_press_70 6 rfl ?_
            refine wp_iconst (v := (-1)) dX9_press_72 (by decide) ?_
            refine wp_icmp_eq 96 dX9_press_73 rfl (fun c73 => ?_) (fun c73 => ?_)
            · replace h := o_pos h c73
              refine wp_iload dX9_press_96 5 rfl ?_
              refine wp_iconst (v := (-1)) dX9_press_98 (by decide) ?_
              refine wp_icmp_ne 106 dX9_press_99 rfl (fun c99 => ?_) (fun c99 => ?_)
              · replace h := o_neg h c99
                refine wp_iload dX9_press_106 5 rfl ?_
                refine wp_istore (lv' := [(0, _), (1, _), (2, _), (3, _), (4, _), (5, _), (6, _), (7, _)]) dX9_press_108 rfl rfl rfl ?_
                refine wp_iload dX9_press_110 6 rfl ?_
                refine wp_iconst (v := (-1)) dX9_press_112 (by decide) ?_
                refine wp_icmp_eq 131 dX9_press_113 rfl (fun c113 => ?_) (fun c113 => ?_)
                · replace h := o_pos h c113
                  refine wp_ldc (v := (-1000003)) dX9_press_131 kcX9_207 ?_
                  obtain rfl := Option.some.inj h
                  exact wp_ireturn (ty := .int) dX9_press_133 rfl rfl ⟨rfl, rfl, rfl, rfl⟩
                · replace h := o_neg h c113
                  refine wp_aload_n dX9_press_116 0 rfl ?_
                  refine wp_getR (k := 0) (a' := ad 12) dX9_press_117 flX9_37 rfl rfl rfl rfl rfl ?_
                  refine wp_iload_n dX9_press_120 1 rfl ?_
                  refine wp_iload_n dX9_press_121 2 rfl ?_
                  refine wp_iload_n dX9_press_122 3 rfl ?_
                  refine wp_iload dX9_press_123 7 rfl ?_
                  obtain ⟨r125, h125, h⟩ := o_bind h
                  refine wp_callvI (k := 12) (ci := 1) (c_X1_maySpeak Γ ad a1 a2 a3 a5 (upI I 1 1 0) J r125 h125) dX9_press_125 mlX9_224 mwX1_maySpeak miX1_maySpeak rfl rfl rfl rfl (Nat.le_of_ble_eq_true rfl) rfl (by decide) (by decide) ?_
                  refine wp_if_ne 134 dX9_press_128 rfl (fun c128 => ?_) (fun c128 => ?_)
                  · replace h := o_neg h c128
                    refine wp_iload dX9_press_134 4 rfl ?_
                    refine wp_iconst (v := 1) dX9_press_136 (by decide) ?_
                    refine wp_icmp_ne 143 dX9_press_137 rfl (fun c137 => ?_) (fun c137 => ?_)
                    · replace h := o_neg h c137
                      refine wp_aload_n dX9_press_143 0 rfl ?_
                      refine wp_getR (k := 0) (a' := ad 12) dX9_press_144 flX9_37 rfl rfl rfl rfl rfl ?_
                      refine wp_iload dX9_press_147 7 rfl ?_
                      refine wp_iload_n dX9_press_149 3 rfl ?_
                      refine wp_iload dX9_press_150 6 rfl ?_
                      obtain ⟨r152, h152, h⟩ := o_bind h
                      refine wp_callvI (k := 12) (ci := 1) (c_X1_mayBind Γ ad a5 a3 r51 (upI I 1 1 0) J r152 h152) dX9_press_152 mlX9_228 mwX1_mayBind miX1_mayBind rfl rfl rfl rfl (Nat.le_of_ble_eq_true rfl) rfl (by decide) (by decide) ?_
                      refine wp_if_ne 161 dX9_press_155 rfl (fun c155 => ?_) (fun c155 => ?_)
                      · replace h := o_neg h c155
                        refine wp_aload_n dX9_press_161 0 rfl ?_
                        refine wp_getR (k := 0) (a' := ad 12) dX9_press_162 flX9_37 rfl rfl rfl rfl rfl ?_
                        refine wp_iload dX9_press_165 7 rfl ?_
                        refine wp_iload_n dX9_press_167 3 rfl ?_
                        refine wp_iload dX9_press_168 6 rfl ?_
                        obtain ⟨r170, h170, h⟩ := o_bind h
                        refine wp_callvV (k := 12) (ci := 1) (c_X1_bind Γ ad a5 a3 r51 (upI I 1 1 0) J r170 h170) dX9_press_170 mlX9_231 mwX1_bind miX1_bind rfl rfl rfl rfl (Nat.le_of_ble_eq_true rfl) rfl (by decide) (by decide) ?_
                        refine wp_iload dX9_press_173 6 rfl ?_
                        obtain rfl := Option.some.inj h
                        exact wp_ireturn (ty := .int) dX9_press_175 rfl rfl ⟨rfl, rfl, rfl, rfl⟩
                      · replace h := o_pos h c155
                        refine wp_ldc (v := (-1000003)) dX9_press_158 kcX9_207 ?_
                        obtain rfl := Option.some.inj h
                        exact wp_ireturn (ty := .int) dX9_press_160 rfl rfl ⟨rfl, rfl, rfl, rfl⟩
                    · replace h := o_pos h c137
                      refine wp_iload dX9_press_140 6 rfl ?_
                      obtain rfl := Option.some.inj h
                      exact wp_ireturn (ty := .int) dX9_press_142 rfl rfl ⟨rfl, rfl, rfl, rfl⟩
                  · replace h := o_pos h c128
                    refine wp_ldc (v := (-1000003)) dX9_press_131 kcX9_207 ?_
                    obtain rfl := Option.some.inj h
                    exact wp_ireturn (ty := .int) dX9_press_133 rfl rfl ⟨rfl, rfl, rfl, rfl⟩
              · replace h := o_pos h c99
                refine wp_iload_n dX9_press_102 1 rfl ?_
                refine wp_goto 108 dX9_press_103 rfl ?_
                refine wp_istore (lv' := [(0, _), (1, _), (2, _), (3, _), (4, _), (5, _), (6, _), (7, _)]) dX9_press_108 rfl rfl rfl ?_
                refine wp_iload dX9_press_110 6 rfl ?_
                refine wp_iconst (v := (-1)) dX9_press_112 (by decide) ?_
                refine wp_icmp_eq 131 dX9_press_113 rfl (fun c113 => ?_) (fun c113 => ?_)
                · replace h := o_pos h c113
                  refine wp_ldc (v := (-1000003)) dX9_press_131 kcX9_207 ?_
                  obtain rfl := Option.some.inj h
                  exact wp_ireturn (ty := .int) dX9_press_133 rfl rfl ⟨rfl, rfl, rfl, rfl⟩
                · replace h := o_neg h c113
                  refine wp_aload_n dX9_press_116 0 rfl ?_
                  refine wp_getR (k := 0) (a' := ad 12) dX9_press_117 flX9_37 rfl rfl rfl rfl rfl ?_
                  refine wp_iload_n dX9_press_120 1 rfl ?_
                  refine wp_iload_n dX9_press_121 2 rfl ?_
                  refine wp_iload_n dX9_press_122 3 rfl ?_
                  refine wp_iload dX9_press_123 7 rfl ?_
                  obtain ⟨r125, h125, h⟩ := o_bind h
                  refine wp_callvI (k := 12) (ci := 1) (c_X1_maySpeak Γ ad a1 a2 a3 a1 (upI I 1 1 0) J r125 h125) dX9_press_125 mlX9_224 mwX1_maySpeak miX1_maySpeak rfl rfl rfl rfl (Nat.le_of_ble_eq_true rfl) rfl (by decide) (by decide) ?_
                  refine wp_if_ne 134 dX9_press_128 rfl (fun c128 => ?_) (fun c128 => ?_)
                  · replace h := o_neg h c128
                    refine wp_iload dX9_press_134 4 rfl ?_
                    refine wp_iconst (v := 1) dX9_press_136 (by decide) ?_
                    refine wp_icmp_ne 143 dX9_press_137 rfl (fun c137 => ?_) (fun c137 => ?_)
                    · replace h := o_neg h c137
                      refine wp_aload_n dX9_press_143 0 rfl ?_
                      refine wp_getR (k := 0) (a' := ad 12) dX9_press_144 flX9_37 rfl rfl rfl rfl rfl ?_
                      refine wp_iload dX9_press_147 7 rfl ?_
                      refine wp_iload_n dX9_press_149 3 rfl ?_
                      refine wp_iload dX9_press_150 6 rfl ?_
                      obtain ⟨r152, h152, h⟩ := o_bind h
                      refine wp_callvI (k := 12) (ci := 1) (c_X1_mayBind Γ ad a1 a3 r51 (upI I 1 1 0) J r152 h152) dX9_press_152 mlX9_228 mwX1_mayBind miX1_mayBind rfl rfl rfl rfl (Nat.le_of_ble_eq_true rfl) rfl (by decide) (by decide) ?_
                      refine wp_if_ne 161 dX9_press_155 rfl (fun c155 => ?_) (fun c155 => ?_)
                      · replace h := o_neg h c155
                        refine wp_aload_n dX9_press_161 0 rfl ?_
                        refine wp_getR (k := 0) (a' := ad 12) dX9_press_162 flX9_37 rfl rfl rfl rfl rfl ?_
                        refine wp_iload dX9_press_165 7 rfl ?_
                        refine wp_iload_n dX9_press_167 3 rfl ?_
                        refine wp_iload dX9_press_168 6 rfl ?_
                        obtain ⟨r170, h170, h⟩ := o_bind h
                        refine wp_callvV (k := 12) (ci := 1) (c_X1_bind Γ ad a1 a3 r51 (upI I 1 1 0) J r170 h170) dX9_press_170 mlX9_231 mwX1_bind miX1_bind rfl rfl rfl rfl (Nat.le_of_ble_eq_true rfl) rfl (by decide) (by decide) ?_
                        refine wp_iload dX9_press_173 6 rfl ?_
                        obtain rfl := Option.some.inj h
                        exact wp_ireturn (ty := .int) dX9_press_175 rfl rfl ⟨rfl, rfl, rfl, rfl⟩
                      · replace h := o_pos h c155
                        refine wp_ldc (v := (-1000003)) dX9_press_158 kcX9_207 ?_
                        obtain rfl := Option.some.inj h
                        exact wp_ireturn (ty := .int) dX9_press_160 rfl rfl ⟨rfl, rfl, rfl, rfl⟩
                    · replace h := o_pos h c137
                      refine wp_iload dX9_press_140 6 rfl ?_
                      obtain rfl := Option.some.inj h
                      exact wp_ireturn (ty := .int) dX9_press_142 rfl rfl ⟨rfl, rfl, rfl, rfl⟩
                  · replace h := o_pos h c128
                    refine wp_ldc (v := (-1000003)) dX9_press_131 kcX9_207 ?_
                    obtain rfl := Option.some.inj h
                    exact wp_ireturn (ty := .int) dX9_press_133 rfl rfl ⟨rfl, rfl, rfl, rfl⟩
            · replace h := o_neg h c73
              refine wp_iload dX9_press_76 6 rfl ?_
              refine wp_iconst (v := 2) dX9_press_78 (by decide) ?_
              refine wp_imul dX9_press_79 ?_
              refine wp_sipush (v := 999) dX9_press_80 (by decide) ?_
              refine wp_icmp_gt 93 dX9_press_83 rfl (fun c83 => ?_) (fun c83 => ?_)
              · replace h := o_pos h c83
                refine wp_iconst (v := (-1)) dX9_press_93 (by decide) ?_
                refine wp_istore (lv' := [(0, _), (1, _), (2, _), (3, _), (4, _), (5, _), (6, _)]) dX9_press_94 rfl rfl rfl ?_
                refine wp_iload dX9_press_96 5 rfl ?_
                refine wp_iconst (v := (-1)) dX9_press_98 (by decide) ?_
                refine wp_icmp_ne 106 dX9_press_99 rfl (fun c99 => ?_) (fun c99 => ?_)
                · replace h := o_neg h c99
                  refine wp_iload dX9_press_106 5 rfl ?_
                  refine wp_istore (lv' := [(0, _), (1, _), (2, _), (3, _), (4, _), (5, _), (6, _), (7, _)]) dX9_press_108 rfl rfl rfl ?_
                  refine wp_iload dX9_press_110 6 rfl ?_
                  refine wp_iconst (v := (-1)) dX9_press_112 (by decide) ?_
                  refine wp_icmp_eq 131 dX9_press_113 rfl (fun c113 => ?_) (fun c113 => ?_)
                  · replace h := o_pos h c113
                    refine wp_ldc (v := (-1000003)) dX9_press_131 kcX9_207 ?_
                    obtain rfl := Option.some.inj h
                    exact wp_ireturn (ty := .int) dX9_press_133 rfl rfl ⟨rfl, rfl, rfl, rfl⟩
                  · replace h := o_neg h c113
                    refine wp_aload_n dX9_press_116 0 rfl ?_
                    refine wp_getR (k := 0) (a' := ad 12) dX9_press_117 flX9_37 rfl rfl rfl rfl rfl ?_
                    refine wp_iload_n dX9_press_120 1 rfl ?_
                    refine wp_iload_n dX9_press_121 2 rfl ?_
                    refine wp_iload_n dX9_press_122 3 rfl ?_
                    refine wp_iload dX9_press_123 7 rfl ?_
                    obtain ⟨r125, h125, h⟩ := o_bind h
                    refine wp_callvI (k := 12) (ci := 1) (c_X1_maySpeak Γ ad a1 a2 a3 a5 (upI I 1 1 0) J r125 h125) dX9_press_125 mlX9_224 mwX1_maySpeak miX1_maySpeak rfl rfl rfl rfl (Nat.le_of_ble_eq_true rfl) rfl (by decide) (by decide) ?_
                    refine wp_if_ne 134 dX9_press_128 rfl (fun c128 => ?_) (fun c128 => ?_)
                    · replace h := o_neg h c128
                      refine wp_iload dX9_press_134 4 rfl ?_
                      refine wp_iconst (v := 1) dX9_press_136 (by decide) ?_
                      refine wp_icmp_ne 143 dX9_press_137 rfl (fun c137 => ?_) (fun c137 => ?_)
                      · replace h := o_neg h c137
                        refine wp_aload_n dX9_press_143 0 rfl ?_
                        refine wp_getR (k := 0) (a' := ad 12) dX9_press_144 flX9_37 rfl rfl rfl rfl rfl ?_
                        refine wp_iload dX9_press_147 7 rfl ?_
                        refine wp_iload_n dX9_press_149 3 rfl ?_
                        refine wp_iload dX9_press_150 6 rfl ?_
                        obtain ⟨r152, h152, h⟩ := o_bind h
                        refine wp_callvI (k := 12) (ci := 1) (c_X1_mayBind Γ ad a5 a3 (-1) (upI I 1 1 0) J r152 h152) dX9_press_152 mlX9_228 mwX1_mayBind miX1_mayBind rfl rfl rfl rfl (Nat.le_of_ble_eq_true rfl) rfl (by decide) (by decide) ?_
                        refine wp_if_ne 161 dX9_press_155 rfl (fun c155 => ?_) (fun c155 => ?_)
                        · replace h := o_neg h c155
                          refine wp_aload_n dX9_press_161 0 rfl ?_
                          refine wp_getR (k := 0) (a' := ad 12) dX9_press_162 flX9_37 rfl rfl rfl rfl rfl ?_
                          refine wp_iload dX9_press_165 7 rfl ?_
                          refine wp_iload_n dX9_press_167 3 rfl ?_
                          refine wp_iload dX9_press_168 6 rfl ?_
                          obtain ⟨r170, h170, h⟩ := o_bind h
                          refine wp_callvV (k := 12) (ci := 1) (c_X1_bind Γ ad a5 a3 (-1) (upI I 1 1 0) J r170 h170) dX9_press_170 mlX9_231 mwX1_bind miX1_bind rfl rfl rfl rfl (Nat.le_of_ble_eq_true rfl) rfl (by decide) (by decide) ?_
                          refine wp_iload dX9_press_173 6 rfl ?_
                          obtain rfl := Option.some.inj h
                          exact wp_ireturn (ty := .int) dX9_press_175 rfl rfl ⟨rfl, rfl, rfl, rfl⟩
                        · replace h := o_pos h c155
                          refine wp_ldc (v := (-1000003)) dX9_press_158 kcX9_207 ?_
                          obtain rfl := Option.some.inj h
                          exact wp_ireturn (ty := .int) dX9_press_160 rfl rfl ⟨rfl, rfl, rfl, rfl⟩
                      · replace h := o_pos h c137
                        refine wp_iload dX9_press_140 6 rfl ?_
                        obtain rfl := Option.some.inj h
                        exact wp_ireturn (ty := .int) dX9_press_142 rfl rfl ⟨rfl, rfl, rfl, rfl⟩
                    · replace h := o_pos h c128
                      refine wp_ldc (v := (-1000003)) dX9_press_131 kcX9_207 ?_
                      obtain rfl := Option.some.inj h
                      exact wp_ireturn (ty := .int) dX9_press_133 rfl rfl ⟨rfl, rfl, rfl, rfl⟩
                · replace h := o_pos h c99
                  refine wp_iload_n dX9_press_102 1 rfl ?_
                  refine wp_goto 108 dX9_press_103 rfl ?_
                  refine wp_istore (lv' := [(0, _), (1, _), (2, _), (3, _), (4, _), (5, _), (6, _), (7, _)]) dX9_press_108 rfl rfl rfl ?_
                  refine wp_iload dX9_press_110 6 rfl ?_
                  refine wp_iconst (v := (-1)) dX9_press_112 (by decide) ?_
                  refine wp_icmp_eq 131 dX9_press_113 rfl (fun c113 => ?_) (fun c113 => ?_)
                  · replace h := o_pos h c113
                    refine wp_ldc (v := (-1000003)) dX9_press_131 kcX9_207 ?_
                    obtain rfl := Option.some.inj h
                    exact wp_ireturn (ty := .int) dX9_press_133 rfl rfl ⟨rfl, rfl, rfl, rfl⟩
                  · replace h := o_neg h c113
                    refine wp_aload_n dX9_press_116 0 rfl ?_
                    refine wp_getR (k := 0) (a' := ad 12) dX9_press_117 flX9_37 rfl rfl rfl rfl rfl ?_
                    refine wp_iload_n dX9_press_120 1 rfl ?_
                    refine wp_iload_n dX9_press_121 2 rfl ?_
                    refine wp_iload_n dX9_press_122 3 rfl ?_
                    refine wp_iload dX9_press_123 7 rfl ?_
                    obtain ⟨r125, h125, h⟩ := o_bind h
                    refine wp_callvI (k := 12) (ci := 1) (c_X1_maySpeak Γ ad a1 a2 a3 a1 (upI I 1 1 0) J r125 h125) dX9_press_125 mlX9_224 mwX1_maySpeak miX1_maySpeak rfl rfl rfl rfl (Nat.le_of_ble_eq_true rfl) rfl (by decide) (by decide) ?_
                    refine wp_if_ne 134 dX9_press_128 rfl (fun c128 => ?_) (fun c128 => ?_)
                    · replace h := o_neg h c128
                      refine wp_iload dX9_press_134 4 rfl ?_
                      refine wp_iconst (v := 1) dX9_press_136 (by decide) ?_
                      refine wp_icmp_ne 143 dX9_press_137 rfl (fun c137 => ?_) (fun c137 => ?_)
                      · replace h := o_neg h c137
                        refine wp_aload_n dX9_press_143 0 rfl ?_
                        refine wp_getR (k := 0) (a' := ad 12) dX9_press_144 flX9_37 rfl rfl rfl rfl rfl ?_
                        refine wp_iload dX9_press_147 7 rfl ?_
                        refine wp_iload_n dX9_press_149 3 rfl ?_
                        refine wp_iload dX9_press_150 6 rfl ?_
                        obtain ⟨r152, h152, h⟩ := o_bind h
                        refine wp_callvI (k := 12) (ci := 1) (c_X1_mayBind Γ ad a1 a3 (-1) (upI I 1 1 0) J r152 h152) dX9_press_152 mlX9_228 mwX1_mayBind miX1_mayBind rfl rfl rfl rfl (Nat.le_of_ble_eq_true rfl) rfl (by decide) (by decide) ?_
                        refine wp_if_ne 161 dX9_press_155 rfl (fun c155 => ?_) (fun c155 => ?_)
                        · replace h := o_neg h c155
                          refine wp_aload_n dX9_press_161 0 rfl ?_
                          refine wp_getR (k := 0) (a' := ad 12) dX9_press_162 flX9_37 rfl rfl rfl rfl rfl ?_
                          refine wp_iload dX9_press_165 7 rfl ?_
                          refine wp_iload_n dX9_press_167 3 rfl ?_
                          refine wp_iload dX9_press_168 6 rfl ?_
                          obtain ⟨r170, h170, h⟩ := o_bind h
                          refine wp_callvV (k := 12) (ci := 1) (c_X1_bind Γ ad a1 a3 (-1) (upI I 1 1 0) J r170 h170) dX9_press_170 mlX9_231 mwX1_bind miX1_bind rfl rfl rfl rfl (Nat.le_of_ble_eq_true rfl) rfl (by decide) (by decide) ?_
                          refine wp_iload dX9_press_173 6 rfl ?_
                          obtain rfl := Option.some.inj h
                          exact wp_ireturn (ty := .int) dX9_press_175 rfl rfl ⟨rfl, rfl, rfl, rfl⟩
                        · replace h := o_pos h c155
                          refine wp_ldc (v := (-1000003)) dX9_press_158 kcX9_207 ?_
                          obtain rfl := Option.some.inj h
                          exact wp_ireturn (ty := .int) dX9_press_160 rfl rfl ⟨rfl, rfl, rfl, rfl⟩
                      · replace h := o_pos h c137
                        refine wp_iload dX9_press_140 6 rfl ?_
                        obtain rfl := Option.some.inj h
                        exact wp_ireturn (ty := .int) dX9_press_142 rfl rfl ⟨rfl, rfl, rfl, rfl⟩
                    · replace h := o_pos h c128
                      refine wp_ldc (v := (-1000003)) dX9_press_131 kcX9_207 ?_
                      obtain rfl := Option.some.inj h
                      exact wp_ireturn (ty := .int) dX9_press_133 rfl rfl ⟨rfl, rfl, rfl, rfl⟩
              · replace h := o_neg h c83
                refine wp_iload dX9_press_86 6 rfl ?_
                refine wp_iconst (v := 2) dX9_press_88 (by decide) ?_
                refine wp_imul dX9_press_89 ?_
                refine wp_goto 94 dX9_press_90 rfl ?_
                refine wp_istore (lv' := [(0, _), (1, _), (2, _), (3, _), (4, _), (5, _), (6, _)]) dX9_press_94 rfl rfl rfl ?_
                refine wp_iload dX9_press_96 5 rfl ?_
                refine wp_iconst (v := (-1)) dX9_press_98 (by decide) ?_
                refine wp_icmp_ne 106 dX9_press_99 rfl (fun c99 => ?_) (fun c99 => ?_)
                · replace h := o_neg h c99
                  refine wp_iload dX9_press_106 5 rfl ?_
                  refine wp_istore (lv' := [(0, _), (1, _), (2, _), (3, _), (4, _), (5, _), (6, _), (7, _)]) dX9_press_108 rfl rfl rfl ?_
                  refine wp_iload dX9_press_110 6 rfl ?_
                  refine wp_iconst (v := (-1)) dX9_press_112 (by decide) ?_
                  refine wp_icmp_eq 131 dX9_press_113 rfl (fun c113 => ?_) (fun c113 => ?_)
                  · replace h := o_pos h c113
                    refine wp_ldc (v := (-1000003)) dX9_press_131 kcX9_207 ?_
                    obtain rfl := Option.some.inj h
                    exact wp_ireturn (ty := .int) dX9_press_133 rfl rfl ⟨rfl, rfl, rfl, rfl⟩
                  · replace h := o_neg h c113
                    refine wp_aload_n dX9_press_116 0 rfl ?_
                    refine wp_getR (k := 0) (a' := ad 12) dX9_press_117 flX9_37 rfl rfl rfl rfl rfl ?_
                    refine wp_iload_n dX9_press_120 1 rfl ?_
                    refine wp_iload_n dX9_press_121 2 rfl ?_
                    refine wp_iload_n dX9_press_122 3 rfl ?_
                    refine wp_iload dX9_press_123 7 rfl ?_
                    obtain ⟨r125, h125, h⟩ := o_bind h
                    refine wp_callvI (k := 12) (ci := 1) (c_X1_maySpeak Γ ad a1 a2 a3 a5 (upI I 1 1 0) J r125 h125) dX9_press_125 mlX9_224 mwX1_maySpeak miX1_maySpeak rfl rfl rfl rfl (Nat.le_of_ble_eq_true rfl) rfl (by decide) (by decide) ?_
                    refine wp_if_ne 134 dX9_press_128 rfl (fun c128 => ?_) (fun c128 => ?_)
                    · replace h := o_neg h c128
                      refine wp_iload dX9_press_134 4 rfl ?_
                      refine wp_iconst (v := 1) dX9_press_136 (by decide) ?_
                      refine wp_icmp_ne 143 dX9_press_137 rfl (fun c137 => ?_) (fun c137 => ?_)
                      · replace h := o_neg h c137
                        refine wp_aload_n dX9_press_143 0 rfl ?_
                        refine wp_getR (k := 0) (a' := ad 12) dX9_press_144 flX9_37 rfl rfl rfl rfl rfl ?_
                        refine wp_iload dX9_press_147 7 rfl ?_
                        refine wp_iload_n dX9_press_149 3 rfl ?_
                        refine wp_iload dX9_press_150 6 rfl ?_
                        obtain ⟨r152, h152, h⟩ := o_bind h
                        refine wp_callvI (k := 12) (ci := 1) (c_X1_mayBind Γ ad a5 a3 (r51 * 2) (upI I 1 1 0) J r152 h152) dX9_press_152 mlX9_228 mwX1_mayBind miX1_mayBind rfl rfl rfl rfl (Nat.le_of_ble_eq_true rfl) rfl (by decide) (by decide) ?_
                        refine wp_if_ne 161 dX9_press_155 rfl (fun c155 => ?_) (fun c155 => ?_)
                        · replace h := o_neg h c155
                          refine wp_aload_n dX9_press_161 0 rfl ?_
                          refine wp_getR (k := 0) (a' := ad 12) dX9_press_162 flX9_37 rfl rfl rfl rfl rfl ?_
                          refine wp_iload dX9_press_165 7 rfl ?_
                          refine wp_iload_n dX9_press_167 3 rfl ?_
                          refine wp_iload dX9_press_168 6 rfl ?_
                          obtain ⟨r170, h170, h⟩ := o_bind h
                          refine wp_callvV (k := 12) (ci := 1) (c_X1_bind Γ ad a5 a3 (r51 * 2) (upI I 1 1 0) J r170 h170) dX9_press_170 mlX9_231 mwX1_bind miX1_bind rfl rfl rfl rfl (Nat.le_of_ble_eq_true rfl) rfl (by decide) (by decide) ?_
                          refine wp_iload dX9_press_173 6 rfl ?_
                          obtain rfl := Option.some.inj h
                          exact wp_ireturn (ty := .int) dX9_press_175 rfl rfl ⟨rfl, rfl, rfl, rfl⟩
                        · replace h := o_pos h c155
                          refine wp_ldc (v := (-1000003)) dX9_press_158 kcX9_207 ?_
                          obtain rfl := Option.some.inj h
                          exact wp_ireturn (ty := .int) dX9_press_160 rfl rfl ⟨rfl, rfl, rfl, rfl⟩
                      · replace h := o_pos h c137
                        refine wp_iload dX9_press_140 6 rfl ?_
                        obtain rfl := Option.some.inj h
                        exact wp_ireturn (ty := .int) dX9_press_142 rfl rfl ⟨rfl, rfl, rfl, rfl⟩
                    · replace h := o_pos h c128
                      refine wp_ldc (v := (-1000003)) dX9_press_131 kcX9_207 ?_
                      obtain rfl := Option.some.inj h
                      exact wp_ireturn (ty := .int) dX9_press_133 rfl rfl ⟨rfl, rfl, rfl, rfl⟩
                · replace h := o_pos h c99
                  refine wp_iload_n dX9_press_102 1 rfl ?_
                  refine wp_goto 108 dX9_press_103 rfl ?_
                  refine wp_istore (lv' := [(0, _), (1, _), (2, _), (3, _), (4, _), (5, _), (6, _), (7, _)]) dX9_press_108 rfl rfl rfl ?_
                  refine wp_iload dX9_press_110 6 rfl ?_
                  refine wp_iconst (v := (-1)) dX9_press_112 (by decide) ?_
                  refine wp_icmp_eq 131 dX9_press_113 rfl (fun c113 => ?_) (fun c113 => ?_)
                  · replace h := o_pos h c113
                    refine wp_ldc (v := (-1000003)) dX9_press_131 kcX9_207 ?_
                    obtain rfl := Option.some.inj h
                    exact wp_ireturn (ty := .int) dX9_press_133 rfl rfl ⟨rfl, rfl, rfl, rfl⟩
                  · replace h := o_neg h c113
                    refine wp_aload_n dX9_press_116 0 rfl ?_
                    refine wp_getR (k := 0) (a' := ad 12) dX9_press_117 flX9_37 rfl rfl rfl rfl rfl ?_
                    refine wp_iload_n dX9_press_120 1 rfl ?_
                    refine wp_iload_n dX9_press_121 2 rfl ?_
                    refine wp_iload_n dX9_press_122 3 rfl ?_
                    refine wp_iload dX9_press_123 7 rfl ?_
                    obtain ⟨r125, h125, h⟩ := o_bind h
                    refine wp_callvI (k := 12) (ci := 1) (c_X1_maySpeak Γ ad a1 a2 a3 a1 (upI I 1 1 0) J r125 h125) dX9_press_125 mlX9_224 mwX1_maySpeak miX1_maySpeak rfl rfl rfl rfl (Nat.le_of_ble_eq_true rfl) rfl (by decide) (by decide) ?_
                    refine wp_if_ne 134 dX9_press_128 rfl (fun c128 => ?_) (fun c128 => ?_)
                    · replace h := o_neg h c128
                      refine wp_iload dX9_press_134 4 rfl ?_
                      refine wp_iconst (v := 1) dX9_press_136 (by decide) ?_
                      refine wp_icmp_ne 143 dX9_press_137 rfl (fun c137 => ?_) (fun c137 => ?_)
                      · replace h := o_neg h c137
                        refine wp_aload_n dX9_press_143 0 rfl ?_
                        refine wp_getR (k := 0) (a' := ad 12) dX9_press_144 flX9_37 rfl rfl rfl rfl rfl ?_
                        refine wp_iload dX9_press_147 7 rfl ?_
                        refine wp_iload_n dX9_press_149 3 rfl ?_
                        refine wp_iload dX9_press_150 6 rfl ?_
                        obtain ⟨r152, h152, h⟩ := o_bind h
                        refine wp_callvI (k := 12) (ci := 1) (c_X1_mayBind Γ ad a1 a3 (r51 * 2) (upI I 1 1 0) J r152 h152) dX9_press_152 mlX9_228 mwX1_mayBind miX1_mayBind rfl rfl rfl rfl (Nat.le_of_ble_eq_true rfl) rfl (by decide) (by decide) ?_
                        refine wp_if_ne 161 dX9_press_155 rfl (fun c155 => ?_) (fun c155 => ?_)
                        · replace h := o_neg h c155
                          refine wp_aload_n dX9_press_161 0 rfl ?_
                          refine wp_getR (k := 0) (a' := ad 12) dX9_press_162 flX9_37 rfl rfl rfl rfl rfl ?_
                          refine wp_iload dX9_press_165 7 rfl ?_
                          refine wp_iload_n dX9_press_167 3 rfl ?_
                          refine wp_iload dX9_press_168 6 rfl ?_
                          obtain ⟨r170, h170, h⟩ := o_bind h
                          refine wp_callvV (k := 12) (ci := 1) (c_X1_bind Γ ad a1 a3 (r51 * 2) (upI I 1 1 0) J r170 h170) dX9_press_170 mlX9_231 mwX1_bind miX1_bind rfl rfl rfl rfl (Nat.le_of_ble_eq_true rfl) rfl (by decide) (by decide) ?_
                          refine wp_iload dX9_press_173 6 rfl ?_
                          obtain rfl := Option.some.inj h
                          exact wp_ireturn (ty := .int) dX9_press_175 rfl rfl ⟨rfl, rfl, rfl, rfl⟩
                        · replace h := o_pos h c155
                          refine wp_ldc (v := (-1000003)) dX9_press_158 kcX9_207 ?_
                          obtain rfl := Option.some.inj h
                          exact wp_ireturn (ty := .int) dX9_press_160 rfl rfl ⟨rfl, rfl, rfl, rfl⟩
                      · replace h := o_pos h c137
                        refine wp_iload dX9_press_140 6 rfl ?_
                        obtain rfl := Option.some.inj h
                        exact wp_ireturn (ty := .int) dX9_press_142 rfl rfl ⟨rfl, rfl, rfl, rfl⟩
                    · replace h := o_pos h c128
                      refine wp_ldc (v := (-1000003)) dX9_press_131 kcX9_207 ?_
                      obtain rfl := Option.some.inj h
                      exact wp_ireturn (ty := .int) dX9_press_133 rfl rfl ⟨rfl, rfl, rfl, rfl⟩
        · replace h := o_pos h c41
          refine wp_ldc (v := (-1000002)) dX9_press_44 kcX9_94 ?_
          obtain rfl := Option.some.inj h
          exact wp_ireturn (ty := .int) dX9_press_46 rfl rfl ⟨rfl, rfl, rfl, rfl⟩
      · replace h := o_pos h c28
        refine wp_ldc (v := (-1000001)) dX9_press_31 kcX9_155 ?_
        obtain rfl := Option.some.inj h
        exact wp_ireturn (ty := .int) dX9_press_33 rfl rfl ⟨rfl, rfl, rfl, rfl⟩
def f_X9_price (I : IT) : Option (Int32) :=
  (f_X6_pricePressed I).bind fun r4 =>
  some r4
set_option maxRecDepth 100000 in
set_option maxHeartbeats 4000000 in
theorem c_X9_price (Γ : GT) (ad : Nat → Nat) (I : IT) (J : JT) (r : Int32) (h : f_X9_price I = some r) : CALL Γ mX9_price (0, 0) [.ref (ad 0)] (DX ad) I J (QE (some (.int r)) (DX ad) I J) := by
  refine call_of' (by decide) (Nat.le_of_ble_eq_true rfl) (lv0 := [(0, .ref (ad 0))]) rfl ?_
  unfold f_X9_price at h
  refine wp_aload_n dX9_price_0 0 rfl ?_
  refine wp_getR (k := 0) (a' := ad 1) dX9_price_1 flX9_10 rfl rfl rfl rfl rfl ?_
  obtain ⟨r4, h4, h⟩ := o_bind h
  refine wp_callvI (k := 1) (ci := 6) (c_X6_pricePressed Γ ad I J r4 h4) dX9_price_4 mlX9_221 mwX6_pricePressed miX6_pricePressed rfl rfl rfl rfl (Nat.le_of_ble_eq_true rfl) rfl (by decide) (by decide) ?_
  obtain rfl := Option.some.inj h
  exact wp_ireturn (ty := .int) dX9_price_7 rfl rfl ⟨rfl, rfl, rfl, rfl⟩
def f_X9_signsOf (a0 : Int32) : Option (Int32) :=
  some (((a0 / 100) + ((a0 / 10) - (a0 / 10) / 10 * 10)) + (a0 - a0 / 10 * 10))
set_option maxRecDepth 100000 in
set_option maxHeartbeats 4000000 in
theorem c_X9_signsOf (Γ : GT) (ad : Nat → Nat) (a0 : Int32) (I : IT) (J : JT) (r : Int32) (h : f_X9_signsOf a0 = some r) : CALL Γ mX9_signsOf (0, 0) [.int a0] (DX ad) I J (QE (some (.int r)) (DX ad) I J) := by
  refine call_of' (by decide) (Nat.le_of_ble_eq_true rfl) (lv0 := [(0, .int a0)]) rfl ?_
  unfold f_X9_signsOf at h
  refine wp_iload_n dX9_signsOf_0 0 rfl ?_
  refine wp_bipush (v := 100) dX9_signsOf_1 (by decide) ?_
  refine wp_idiv dX9_signsOf_3 (by decide) ?_
  refine wp_iload_n dX9_signsOf_4 0 rfl ?_
  refine wp_bipush (v := 10) dX9_signsOf_5 (by decide) ?_
  refine wp_idiv dX9_signsOf_7 (by decide) ?_
  refine wp_bipush (v := 10) dX9_signsOf_8 (by decide) ?_
  refine wp_irem dX9_signsOf_10 (by decide) ?_
  refine wp_iadd dX9_signsOf_11 ?_
  refine wp_iload_n dX9_signsOf_12 0 rfl ?_
  refine wp_bipush (v := 10) dX9_signsOf_13 (by decide) ?_
  refine wp_irem dX9_signsOf_15 (by decide) ?_
  refine wp_iadd dX9_signsOf_16 ?_
  obtain rfl := Option.some.inj h
  exact wp_ireturn (ty := .int) dX9_signsOf_17 rfl rfl ⟨rfl, rfl, rfl, rfl⟩
def f_X9_twitches (a1 : Int32) : Option (Int32) :=
  (f_X9_isWithin a1 1 999).bind fun r5 =>
  if r5 = 0 then
    some (-1000002)
  else
    (f_X9_signsOf a1).bind fun r12 =>
    some r12
set_option maxRecDepth 100000 in
set_option maxHeartbeats 4000000 in
theorem c_X9_twitches (Γ : GT) (ad : Nat → Nat) (a1 : Int32) (I : IT) (J : JT) (r : Int32) (h : f_X9_twitches a1 = some r) : CALL Γ mX9_twitches (0, 0) [.ref (ad 0), .int a1] (DX ad) I J (QE (some (.int r)) (DX ad) I J) := by
  refine call_of' (by decide) (Nat.le_of_ble_eq_true rfl) (lv0 := [(0, .ref (ad 0)), (1, .int a1)]) rfl ?_
  unfold f_X9_twitches at h
  refine wp_iload_n dX9_twitches_0 1 rfl ?_
  refine wp_iconst (v := 1) dX9_twitches_1 (by decide) ?_
  refine wp_sipush (v := 999) dX9_twitches_2 (by decide) ?_
  obtain ⟨r5, h5, h⟩ := o_bind h
  refine wp_callsI (c_X9_isWithin Γ ad a1 1 999 I J r5 h5) dX9_twitches_5 mlX9_90 mwX9_isWithin miX9_isWithin rfl (Nat.le_of_ble_eq_true rfl) rfl (by decide) (by decide) ?_
  refine wp_if_eq 18 dX9_twitches_8 rfl (fun c8 => ?_) (fun c8 => ?_)
  · replace h := o_pos h c8
    refine wp_ldc (v := (-1000002)) dX9_twitches_18 kcX9_94 ?_
    obtain rfl := Option.some.inj h
    exact wp_ireturn (ty := .int) dX9_twitches_20 rfl rfl ⟨rfl, rfl, rfl, rfl⟩
  · replace h := o_neg h c8
    refine wp_iload_n dX9_twitches_11 1 rfl ?_
    obtain ⟨r12, h12, h⟩ := o_bind h
    refine wp_callsI (c_X9_signsOf Γ ad a1 I J r12 h12) dX9_twitches_12 mlX9_235 mwX9_signsOf miX9_signsOf rfl (Nat.le_of_ble_eq_true rfl) rfl (by decide) (by decide) ?_
    refine wp_goto 20 dX9_twitches_15 rfl ?_
    obtain rfl := Option.some.inj h
    exact wp_ireturn (ty := .int) dX9_twitches_20 rfl rfl ⟨rfl, rfl, rfl, rfl⟩
def f_X9_beat (a1 : Int32) (I : IT) : Option (Int32 × IT) :=
  (f_X9_isWithin a1 1 99).bind fun r4 =>
  if r4 = 0 then
    some ((-1000002), I)
  else
    some ((upI I 12 1 ((I 12 1) + a1)) 12 1, upI I 12 1 ((I 12 1) + a1))
set_option maxRecDepth 100000 in
set_option maxHeartbeats 4000000 in
theorem c_X9_beat (Γ : GT) (ad : Nat → Nat) (a1 : Int32) (I : IT) (J : JT) (r : Int32 × IT) (h : f_X9_beat a1 I = some r) : CALL Γ mX9_beat (0, 0) [.ref (ad 0), .int a1] (DX ad) I J (QE (some (.int r.1)) (DX ad) r.2 J) := by
  refine call_of' (by decide) (Nat.le_of_ble_eq_true rfl) (lv0 := [(0, .ref (ad 0)), (1, .int a1)]) rfl ?_
  unfold f_X9_beat at h
  refine wp_iload_n dX9_beat_0 1 rfl ?_
  refine wp_iconst (v := 1) dX9_beat_1 (by decide) ?_
  refine wp_bipush (v := 99) dX9_beat_2 (by decide) ?_
  obtain ⟨r4, h4, h⟩ := o_bind h
  refine wp_callsI (c_X9_isWithin Γ ad a1 1 99 I J r4 h4) dX9_beat_4 mlX9_90 mwX9_isWithin miX9_isWithin rfl (Nat.le_of_ble_eq_true rfl) rfl (by decide) (by decide) ?_
  refine wp_if_ne 13 dX9_beat_7 rfl (fun c7 => ?_) (fun c7 => ?_)
  · replace h := o_neg h c7
    refine wp_aload_n dX9_beat_13 0 rfl ?_
    refine wp_getR (k := 0) (a' := ad 12) dX9_beat_14 flX9_37 rfl rfl rfl rfl rfl ?_
    refine wp_dup dX9_beat_17 rfl ?_
    refine wp_getI (k := 12) dX9_beat_18 flX9_139 rfl rfl rfl rfl ?_
    refine wp_iload_n dX9_beat_21 1 rfl ?_
    refine wp_iadd dX9_beat_22 ?_
    refine wp_putI (k := 12) dX9_beat_23 flX9_139 rfl rfl rfl rfl rfl rfl rfl rfl ?_
    refine wp_aload_n dX9_beat_26 0 rfl ?_
    refine wp_getR (k := 0) (a' := ad 12) dX9_beat_27 flX9_37 rfl rfl rfl rfl rfl ?_
    refine wp_getI (k := 12) dX9_beat_30 flX9_139 rfl rfl rfl rfl ?_
    obtain rfl := Option.some.inj h
    exact wp_ireturn (ty := .int) dX9_beat_33 rfl rfl ⟨rfl, rfl, rfl, rfl⟩
  · replace h := o_pos h c7
    refine wp_ldc (v := (-1000002)) dX9_beat_10 kcX9_94 ?_
    obtain rfl := Option.some.inj h
    exact wp_ireturn (ty := .int) dX9_beat_12 rfl rfl ⟨rfl, rfl, rfl, rfl⟩
def f_X1_draw (a1 : Int32) (I : IT) : Option (Int32 × IT) :=
  if a1 ≤ 0 then
    some (0, upI I 12 2 ((((((I 12 2).toInt64) * 1103515245) + 12345) &&& 2147483647).toInt32))
  else
    if ¬ a1 = 0 then
      some ((((upI I 12 2 ((((((I 12 2).toInt64) * 1103515245) + 12345) &&& 2147483647).toInt32)) 12 2) / 65536) - (((upI I 12 2 ((((((I 12 2).toInt64) * 1103515245) + 12345) &&& 2147483647).toInt32)) 12 2) / 65536) / a1 * a1, upI I 12 2 ((((((I 12 2).toInt64) * 1103515245) + 12345) &&& 2147483647).toInt32))
    else none
set_option maxRecDepth 100000 in
set_option maxHeartbeats 4000000 in
theorem c_X1_draw (Γ : GT) (ad : Nat → Nat) (a1 : Int32) (I : IT) (J : JT) (r : Int32 × IT) (h : f_X1_draw a1 I = some r) : CALL Γ mX1_draw (0, 0) [.ref (ad 12), .int a1] (DX ad) I J (QE (some (.int r.1)) (DX ad) r.2 J) := by
  refine call_of' (by decide) (Nat.le_of_ble_eq_true rfl) (lv0 := [(0, .ref (ad 12)), (1, .int a1)]) rfl ?_
  unfold f_X1_draw at h
  refine wp_aload_n dX1_draw_0 0 rfl ?_
  refine wp_aload_n dX1_draw_1 0 rfl ?_
  refine wp_getI (k := 12) dX1_draw_2 flX1_47 rfl rfl rfl rfl ?_
  refine wp_i2l dX1_draw_5 ?_
  refine wp_ldc2 (v := 1103515245) dX1_draw_6 klX1_117 ?_
  refine wp_lmul dX1_draw_9 ?_
  refine wp_ldc2 (v := 12345) dX1_draw_10 klX1_119 ?_
  refine wp_ladd dX1_draw_13 ?_
  refine wp_ldc2 (v := 2147483647) dX1_draw_14 klX1_121 ?_
  refine wp_land dX1_draw_17 ?_
  refine wp_l2i dX1_draw_18 ?_
  refine wp_putI (k := 12) dX1_draw_19 flX1_47 rfl rfl rfl rfl rfl rfl rfl rfl ?_
  refine wp_iload_n dX1_draw_22 1 rfl ?_
  refine wp_if_le 38 dX1_draw_23 rfl (fun c23 => ?_) (fun c23 => ?_)
  · replace h := o_pos h c23
    refine wp_iconst (v := 0) dX1_draw_38 (by decide) ?_
    obtain rfl := Option.some.inj h
    exact wp_ireturn (ty := .int) dX1_draw_39 rfl rfl ⟨rfl, rfl, rfl, rfl⟩
  · replace h := o_neg h c23
    refine wp_aload_n dX1_draw_26 0 rfl ?_
    refine wp_getI (k := 12) dX1_draw_27 flX1_47 rfl rfl rfl rfl ?_
    refine wp_ldc (v := 65536) dX1_draw_30 kcX1_123 ?_
    refine wp_idiv dX1_draw_32 (by decide) ?_
    refine wp_iload_n dX1_draw_33 1 rfl ?_
    obtain ⟨g34, h⟩ := o_grd h
    refine wp_irem dX1_draw_34 g34 ?_
    refine wp_goto 39 dX1_draw_35 rfl ?_
    obtain rfl := Option.some.inj h
    exact wp_ireturn (ty := .int) dX1_draw_39 rfl rfl ⟨rfl, rfl, rfl, rfl⟩
def f_X2_worthOf (a1 : Int32) (a2 : Int32) (I : IT) : Option (Int32) :=
  if inbB ((a1 * 6) + a2) 36 = true then
    some (I 6 ((a1 * 6) + a2).toNatClampNeg)
  else none
set_option maxRecDepth 100000 in
set_option maxHeartbeats 4000000 in
theorem c_X2_worthOf (Γ : GT) (ad : Nat → Nat) (a1 : Int32) (a2 : Int32) (I : IT) (J : JT) (r : Int32) (h : f_X2_worthOf a1 a2 I = some r) : CALL Γ mX2_worthOf (0, 0) [.ref (ad 3), .int a1, .int a2] (DX ad) I J (QE (some (.int r)) (DX ad) I J) := by
  refine call_of' (by decide) (Nat.le_of_ble_eq_true rfl) (lv0 := [(0, .ref (ad 3)), (1, .int a1), (2, .int a2)]) rfl ?_
  unfold f_X2_worthOf at h
  refine wp_aload_n dX2_worthOf_0 0 rfl ?_
  refine wp_getR (k := 3) (a' := ad 6) dX2_worthOf_1 flX2_18 rfl rfl rfl rfl rfl ?_
  refine wp_iload_n dX2_worthOf_4 1 rfl ?_
  refine wp_bipush (v := 6) dX2_worthOf_5 (by decide) ?_
  refine wp_imul dX2_worthOf_7 ?_
  refine wp_iload_n dX2_worthOf_8 2 rfl ?_
  refine wp_iadd dX2_worthOf_9 ?_
  obtain ⟨g10, h⟩ := o_grd h
  refine wp_iald (k := 6) dX2_worthOf_10 rfl rfl (inb_of g10) ?_
  obtain rfl := Option.some.inj h
  exact wp_ireturn (ty := .int) dX2_worthOf_11 rfl rfl ⟨rfl, rfl, rfl, rfl⟩
def f_X1_bindIfMay (a1 : Int32) (a2 : Int32) (a3 : Int32) (I : IT) : Option (IT) :=
  (f_X9_isWithin a3 1 999).bind fun r5 =>
  if r5 = 0 then
    some I
  else
    (f_X1_mayBind a1 a2 a3 I).bind fun r15 =>
    if r15 = 0 then
      some I
    else
      (f_X1_bind a1 a2 a3 I).bind fun r25 =>
      some r25
set_option maxRecDepth 100000 in
set_option maxHeartbeats 4000000 in
theorem c_X1_bindIfMay (Γ : GT) (ad : Nat → Nat) (a1 : Int32) (a2 : Int32) (a3 : Int32) (I : IT) (J : JT) (r : IT) (h : f_X1_bindIfMay a1 a2 a3 I = some r) : CALL Γ mX1_bindIfMay (0, 0) [.ref (ad 12), .int a1, .int a2, .int a3] (DX ad) I J (QE none (DX ad) r J) := by
  refine call_of' (by decide) (Nat.le_of_ble_eq_true rfl) (lv0 := [(0, .ref (ad 12)), (1, .int a1), (2, .int a2), (3, .int a3)]) rfl ?_
  unfold f_X1_bindIfMay at h
  refine wp_iload_n dX1_bindIfMay_0 3 rfl ?_
  refine wp_iconst (v := 1) dX1_bindIfMay_1 (by decide) ?_
  refine wp_sipush (v := 999) dX1_bindIfMay_2 (by decide) ?_
  obtain ⟨r5, h5, h⟩ := o_bind h
  refine wp_callsNI (c_X9_isWithin Γ ad a3 1 999 I J r5 h5) dX1_bindIfMay_5 mlX1_133 mwX9_isWithin miX9_isWithin rfl (Nat.le_of_ble_eq_true rfl) rfl (by decide) (by decide) ?_
  refine wp_if_eq 28 dX1_bindIfMay_8 rfl (fun c8 => ?_) (fun c8 => ?_)
  · replace h := o_pos h c8
    obtain rfl := Option.some.inj h
    exact wp_return dX1_bindIfMay_28 rfl ⟨rfl, rfl, rfl, rfl⟩
  · replace h := o_neg h c8
    refine wp_aload_n dX1_bindIfMay_11 0 rfl ?_
    refine wp_iload_n dX1_bindIfMay_12 1 rfl ?_
    refine wp_iload_n dX1_bindIfMay_13 2 rfl ?_
    refine wp_iload_n dX1_bindIfMay_14 3 rfl ?_
    obtain ⟨r15, h15, h⟩ := o_bind h
    refine wp_callvI (k := 12) (ci := 1) (c_X1_mayBind Γ ad a1 a2 a3 I J r15 h15) dX1_bindIfMay_15 mlX1_137 mwX1_mayBind miX1_mayBind rfl rfl rfl rfl (Nat.le_of_ble_eq_true rfl) rfl (by decide) (by decide) ?_
    refine wp_if_eq 28 dX1_bindIfMay_18 rfl (fun c18 => ?_) (fun c18 => ?_)
    · replace h := o_pos h c18
      obtain rfl := Option.some.inj h
      exact wp_return dX1_bindIfMay_28 rfl ⟨rfl, rfl, rfl, rfl⟩
    · replace h := o_neg h c18
      refine wp_aload_n dX1_bindIfMay_21 0 rfl ?_
      refine wp_iload_n dX1_bindIfMay_22 1 rfl ?_
      refine wp_iload_n dX1_bindIfMay_23 2 rfl ?_
      refine wp_iload_n dX1_bindIfMay_24 3 rfl ?_
      obtain ⟨r25, h25, h⟩ := o_bind h
      refine wp_callvV (k := 12) (ci := 1) (c_X1_bind Γ ad a1 a2 a3 I J r25 h25) dX1_bindIfMay_25 mlX1_140 mwX1_bind miX1_bind rfl rfl rfl rfl (Nat.le_of_ble_eq_true rfl) rfl (by decide) (by decide) ?_
      obtain rfl := Option.some.inj h
      exact wp_return dX1_bindIfMay_28 rfl ⟨rfl, rfl, rfl, rfl⟩
def f_X1_driftBeat_43 : Nat → Int32 → IT → Option (IT)
  | 0, _, _ => none
  | n + 1, v1, I =>
    if (I 3 1) ≤ v1 then
      some (upI I 12 1 ((I 12 1) + 1))
    else
      (f_X1_draw (I 3 0) I).bind fun r62 =>
      (f_X2_worthOf v1 r62.1 r62.2).bind fun r83 =>
      (f_X1_draw 50 r62.2).bind fun r89 =>
      (f_X1_bindIfMay ((r62.2 3 0) + v1) r62.1 (r83 - r89.1) r89.2).bind fun r93 =>
      f_X1_driftBeat_43 n (v1 + 1) r93
def f_X1_driftBeat_2 : Nat → Int32 → IT → Option (IT)
  | 0, _, _ => none
  | n + 1, v1, I =>
    if (I 3 0) ≤ v1 then
      f_X1_driftBeat_43 FU 0 I
    else
      if inbB v1 14 = true then
        (f_X1_draw 50 I).bind fun r28 =>
        (f_X1_bindIfMay v1 v1 ((I 5 v1.toNatClampNeg) + r28.1) r28.2).bind fun r32 =>
        f_X1_driftBeat_2 n (v1 + 1) r32
      else none
def f_X1_driftBeat (I : IT) : Option (IT) :=
  f_X1_driftBeat_2 FU 0 I
set_option maxRecDepth 100000 in
set_option maxHeartbeats 4000000 in
theorem w_X1_driftBeat_43 (Γ : GT) (ad : Nat → Nat) : ∀ (n : Nat) (v1 : Int32) (I : IT) (J : JT) (r : IT), f_X1_driftBeat_43 n v1 I = some r → WP Γ mX1_driftBeat (0, 0) 43 [(0, .ref (ad 12)), (1, .int v1)] [] (DX ad) I J (QE none (DX ad) r J) := by
  intro n
  induction n with
  | zero => intro v1 I J r h; exact absurd h (by simp [f_X1_driftBeat_43])
  | succ n ih =>
    intro v1 I J r h
    rw [f_X1_driftBeat_43] at h
    refine wp_iload_n dX1_driftBeat_43 1 rfl ?_
    refine wp_aload_n dX1_driftBeat_44 0 rfl ?_
    refine wp_getR (k := 12) (a' := ad 3) dX1_driftBeat_45 flX1_30 rfl rfl rfl rfl rfl ?_
    refine wp_getI (k := 3) dX1_driftBeat_48 flX1_107 rfl rfl rfl rfl ?_
    refine wp_icmp_ge 102 dX1_driftBeat_51 rfl (fun c51 => ?_) (fun c51 => ?_)
    · replace h := o_pos h c51
      refine wp_aload_n dX1_driftBeat_102 0 rfl ?_
      refine wp_dup dX1_driftBeat_103 rfl ?_
      refine wp_getI (k := 12) dX1_driftBeat_104 flX1_37 rfl rfl rfl rfl ?_
      refine wp_iconst (v := 1) dX1_driftBeat_107 (by decide) ?_
      refine wp_iadd dX1_driftBeat_108 ?_
      refine wp_putI (k := 12) dX1_driftBeat_109 flX1_37 rfl rfl rfl rfl rfl rfl rfl rfl ?_
      obtain rfl := Option.some.inj h
      exact wp_return dX1_driftBeat_112 rfl ⟨rfl, rfl, rfl, rfl⟩
    · replace h := o_neg h c51
      refine wp_aload_n dX1_driftBeat_54 0 rfl ?_
      refine wp_aload_n dX1_driftBeat_55 0 rfl ?_
      refine wp_getR (k := 12) (a' := ad 3) dX1_driftBeat_56 flX1_30 rfl rfl rfl rfl rfl ?_
      refine wp_getI (k := 3) dX1_driftBeat_59 flX1_77 rfl rfl rfl rfl ?_
      obtain ⟨r62, h62, h⟩ := o_bind h
      refine wp_callvI (k := 12) (ci := 1) (c_X1_draw Γ ad (I 3 0) I J r62 h62) dX1_driftBeat_62 mlX1_124 mwX1_draw miX1_draw rfl rfl rfl rfl (Nat.le_of_ble_eq_true rfl) rfl (by decide) (by decide) ?_
      refine wp_istore_n (lv' := [(0, _), (1, _), (2, _)]) dX1_driftBeat_65 rfl rfl rfl rfl ?_
      refine wp_aload_n dX1_driftBeat_66 0 rfl ?_
      refine wp_aload_n dX1_driftBeat_67 0 rfl ?_
      refine wp_getR (k := 12) (a' := ad 3) dX1_driftBeat_68 flX1_30 rfl rfl rfl rfl rfl ?_
      refine wp_getI (k := 3) dX1_driftBeat_71 flX1_77 rfl rfl rfl rfl ?_
      refine wp_iload_n dX1_driftBeat_74 1 rfl ?_
      refine wp_iadd dX1_driftBeat_75 ?_
      refine wp_iload_n dX1_driftBeat_76 2 rfl ?_
      refine wp_aload_n dX1_driftBeat_77 0 rfl ?_
      refine wp_getR (k := 12) (a' := ad 3) dX1_driftBeat_78 flX1_30 rfl rfl rfl rfl rfl ?_
      refine wp_iload_n dX1_driftBeat_81 1 rfl ?_
      refine wp_iload_n dX1_driftBeat_82 2 rfl ?_
      obtain ⟨r83, h83, h⟩ := o_bind h
      refine wp_callvI (k := 3) (ci := 2) (c_X2_worthOf Γ ad v1 r62.1 r62.2 J r83 h83) dX1_driftBeat_83 mlX1_130 mwX2_worthOf miX2_worthOf rfl rfl rfl rfl (Nat.le_of_ble_eq_true rfl) rfl (by decide) (by decide) ?_
      refine wp_aload_n dX1_driftBeat_86 0 rfl ?_
      refine wp_bipush (v := 50) dX1_driftBeat_87 (by decide) ?_
      obtain ⟨r89, h89, h⟩ := o_bind h
      refine wp_callvI (k := 12) (ci := 1) (c_X1_draw Γ ad 50 r62.2 J r89 h89) dX1_driftBeat_89 mlX1_124 mwX1_draw miX1_draw rfl rfl rfl rfl (Nat.le_of_ble_eq_true rfl) rfl (by decide) (by decide) ?_
      refine wp_isub dX1_driftBeat_92 ?_
      obtain ⟨r93, h93, h⟩ := o_bind h
      refine wp_callvV (k := 12) (ci := 1) (c_X1_bindIfMay Γ ad ((r62.2 3 0) + v1) r62.1 (r83 - r89.1) r89.2 J r93 h93) dX1_driftBeat_93 mlX1_127 mwX1_bindIfMay miX1_bindIfMay rfl rfl rfl rfl (Nat.le_of_ble_eq_true rfl) rfl (by decide) (by decide) ?_
      refine wp_iinc (v := v1 + 1) (lv' := [(0, _), (1, _), (2, _)]) dX1_driftBeat_96 1 rfl rfl rfl rfl rfl ?_
      refine wp_goto 43 dX1_driftBeat_99 rfl ?_
      refine wp_pick [0, 1] (lv' := [(0, _), (1, _)]) rfl ?_
      exact ih (v1 + 1) r93 J r h
set_option maxRecDepth 100000 in
set_option maxHeartbeats 4000000 in
theorem w_X1_driftBeat_2 (Γ : GT) (ad : Nat → Nat) : ∀ (n : Nat) (v1 : Int32) (I : IT) (J : JT) (r : IT), f_X1_driftBeat_2 n v1 I = some r → WP Γ mX1_driftBeat (0, 0) 2 [(0, .ref (ad 12)), (1, .int v1)] [] (DX ad) I J (QE none (DX ad) r J) := by
  intro n
  induction n with
  | zero => intro v1 I J r h; exact absurd h (by simp [f_X1_driftBeat_2])
  | succ n ih =>
    intro v1 I J r h
    rw [f_X1_driftBeat_2] at h
    refine wp_iload_n dX1_driftBeat_2 1 rfl ?_
    refine wp_aload_n dX1_driftBeat_3 0 rfl ?_
    refine wp_getR (k := 12) (a' := ad 3) dX1_driftBeat_4 flX1_30 rfl rfl rfl rfl rfl ?_
    refine wp_getI (k := 3) dX1_driftBeat_7 flX1_77 rfl rfl rfl rfl ?_
    refine wp_icmp_ge 41 dX1_driftBeat_10 rfl (fun c10 => ?_) (fun c10 => ?_)
    · replace h := o_pos h c10
      refine wp_iconst (v := 0) dX1_driftBeat_41 (by decide) ?_
      refine wp_istore_n (lv' := [(0, _), (1, _)]) dX1_driftBeat_42 rfl rfl rfl rfl ?_
      refine wp_pick [0, 1] (lv' := [(0, _), (1, _)]) rfl ?_
      exact w_X1_driftBeat_43 Γ ad FU 0 I J r h
    · replace h := o_neg h c10
      refine wp_aload_n dX1_driftBeat_13 0 rfl ?_
      refine wp_iload_n dX1_driftBeat_14 1 rfl ?_
      refine wp_iload_n dX1_driftBeat_15 1 rfl ?_
      refine wp_aload_n dX1_driftBeat_16 0 rfl ?_
      refine wp_getR (k := 12) (a' := ad 3) dX1_driftBeat_17 flX1_30 rfl rfl rfl rfl rfl ?_
      refine wp_getR (k := 3) (a' := ad 5) dX1_driftBeat_20 flX1_94 rfl rfl rfl rfl rfl ?_
      refine wp_iload_n dX1_driftBeat_23 1 rfl ?_
      obtain ⟨g24, h⟩ := o_grd h
      refine wp_iald (k := 5) dX1_driftBeat_24 rfl rfl (inb_of g24) ?_
      refine wp_aload_n dX1_driftBeat_25 0 rfl ?_
      refine wp_bipush (v := 50) dX1_driftBeat_26 (by decide) ?_
      obtain ⟨r28, h28, h⟩ := o_bind h
      refine wp_callvI (k := 12) (ci := 1) (c_X1_draw Γ ad 50 I J r28 h28) dX1_driftBeat_28 mlX1_124 mwX1_draw miX1_draw rfl rfl rfl rfl (Nat.le_of_ble_eq_true rfl) rfl (by decide) (by decide) ?_
      refine wp_iadd dX1_driftBeat_31 ?_
      obtain ⟨r32, h32, h⟩ := o_bind h
      refine wp_callvV (k := 12) (ci := 1) (c_X1_bindIfMay Γ ad v1 v1 ((I 5 v1.toNatClampNeg) + r28.1) r28.2 J r32 h32) dX1_driftBeat_32 mlX1_127 mwX1_bindIfMay miX1_bindIfMay rfl rfl rfl rfl (Nat.le_of_ble_eq_true rfl) rfl (by decide) (by decide) ?_
      refine wp_iinc (v := v1 + 1) (lv' := [(0, _), (1, _)]) dX1_driftBeat_35 1 rfl rfl rfl rfl rfl ?_
      refine wp_goto 2 dX1_driftBeat_38 rfl ?_
      refine wp_pick [0, 1] (lv' := [(0, _), (1, _)]) rfl ?_
      exact ih (v1 + 1) r32 J r h
set_option maxRecDepth 100000 in
set_option maxHeartbeats 4000000 in
theorem c_X1_driftBeat (Γ : GT) (ad : Nat → Nat) (I : IT) (J : JT) (r : IT) (h : f_X1_driftBeat I = some r) : CALL Γ mX1_driftBeat (0, 0) [.ref (ad 12)] (DX ad) I J (QE none (DX ad) r J) := by
  refine call_of' (by decide) (Nat.le_of_ble_eq_true rfl) (lv0 := [(0, .ref (ad 12))]) rfl ?_
  unfold f_X1_driftBeat at h
  refine wp_iconst (v := 0) dX1_driftBeat_0 (by decide) ?_
  refine wp_istore_n (lv' := [(0, _), (1, _)]) dX1_driftBeat_1 rfl rfl rfl rfl ?_
  refine wp_pick [0, 1] (lv' := [(0, _), (1, _)]) rfl ?_
  exact w_X1_driftBeat_2 Γ ad FU 0 I J r h
def f_X9_drift_15 : Nat → Int32 → Int32 → IT → Option (Int32 × IT)
  | 0, _, _, _ => none
  | n + 1, v1, v2, I =>
    if v1 ≤ v2 then
      (f_X1_soldLots I).bind fun r37 =>
      (f_J6_bitCount_0f7a4 r37).bind fun r40 =>
      some (r40, I)
    else
      (f_X1_driftBeat I).bind fun r24 =>
      f_X9_drift_15 n v1 (v2 + 1) r24
def f_X9_drift (a1 : Int32) (I : IT) : Option (Int32 × IT) :=
  (f_X9_isWithin a1 1 60).bind fun r4 =>
  if r4 = 0 then
    some ((-1000002), I)
  else
    f_X9_drift_15 FU a1 0 I
set_option maxRecDepth 100000 in
set_option maxHeartbeats 4000000 in
theorem w_X9_drift_15 (Γ : GT) (ad : Nat → Nat) : ∀ (n : Nat) (v1 : Int32) (v2 : Int32) (I : IT) (J : JT) (r : Int32 × IT), f_X9_drift_15 n v1 v2 I = some r → WP Γ mX9_drift (0, 0) 15 [(0, .ref (ad 0)), (1, .int v1), (2, .int v2)] [] (DX ad) I J (QE (some (.int r.1)) (DX ad) r.2 J) := by
  intro n
  induction n with
  | zero => intro v1 v2 I J r h; exact absurd h (by simp [f_X9_drift_15])
  | succ n ih =>
    intro v1 v2 I J r h
    rw [f_X9_drift_15] at h
    refine wp_iload_n dX9_drift_15 2 rfl ?_
    refine wp_iload_n dX9_drift_16 1 rfl ?_
    refine wp_icmp_ge 33 dX9_drift_17 rfl (fun c17 => ?_) (fun c17 => ?_)
    · replace h := o_pos h c17
      refine wp_aload_n dX9_drift_33 0 rfl ?_
      refine wp_getR (k := 0) (a' := ad 12) dX9_drift_34 flX9_37 rfl rfl rfl rfl rfl ?_
      obtain ⟨r37, h37, h⟩ := o_bind h
      refine wp_callvI (k := 12) (ci := 1) (c_X1_soldLots Γ ad I J r37 h37) dX9_drift_37 mlX9_148 mwX1_soldLots miX1_soldLots rfl rfl rfl rfl (Nat.le_of_ble_eq_true rfl) rfl (by decide) (by decide) ?_
      obtain ⟨r40, h40, h⟩ := o_bind h
      refine wp_callsI (c_J6_bitCount_0f7a4 Γ ad r37 I J r40 h40) dX9_drift_40 mlX9_241 mwJ6_bitCount_0f7a4 miJ6_bitCount_0f7a4 rfl (Nat.le_of_ble_eq_true rfl) rfl (by decide) (by decide) ?_
      obtain rfl := Option.some.inj h
      exact wp_ireturn (ty := .int) dX9_drift_43 rfl rfl ⟨rfl, rfl, rfl, rfl⟩
    · replace h := o_neg h c17
      refine wp_aload_n dX9_drift_20 0 rfl ?_
      refine wp_getR (k := 0) (a' := ad 12) dX9_drift_21 flX9_37 rfl rfl rfl rfl rfl ?_
      obtain ⟨r24, h24, h⟩ := o_bind h
      refine wp_callvV (k := 12) (ci := 1) (c_X1_driftBeat Γ ad I J r24 h24) dX9_drift_24 mlX9_238 mwX1_driftBeat miX1_driftBeat rfl rfl rfl rfl (Nat.le_of_ble_eq_true rfl) rfl (by decide) (by decide) ?_
      refine wp_iinc (v := v2 + 1) (lv' := [(0, _), (1, _), (2, _)]) dX9_drift_27 2 rfl rfl rfl rfl rfl ?_
      refine wp_goto 15 dX9_drift_30 rfl ?_
      refine wp_pick [0, 1, 2] (lv' := [(0, _), (1, _), (2, _)]) rfl ?_
      exact ih v1 (v2 + 1) r24 J r h
set_option maxRecDepth 100000 in
set_option maxHeartbeats 4000000 in
theorem c_X9_drift (Γ : GT) (ad : Nat → Nat) (a1 : Int32) (I : IT) (J : JT) (r : Int32 × IT) (h : f_X9_drift a1 I = some r) : CALL Γ mX9_drift (0, 0) [.ref (ad 0), .int a1] (DX ad) I J (QE (some (.int r.1)) (DX ad) r.2 J) := by
  refine call_of' (by decide) (Nat.le_of_ble_eq_true rfl) (lv0 := [(0, .ref (ad 0)), (1, .int a1)]) rfl ?_
  unfold f_X9_drift at h
  refine wp_iload_n dX9_drift_0 1 rfl ?_
  refine wp_iconst (v := 1) dX9_drift_1 (by decide) ?_
  refine wp_bipush (v := 60) dX9_drift_2 (by decide) ?_
  obtain ⟨r4, h4, h⟩ := o_bind h
  refine wp_callsI (c_X9_isWithin Γ ad a1 1 60 I J r4 h4) dX9_drift_4 mlX9_90 mwX9_isWithin miX9_isWithin rfl (Nat.le_of_ble_eq_true rfl) rfl (by decide) (by decide) ?_
  refine wp_if_ne 13 dX9_drift_7 rfl (fun c7 => ?_) (fun c7 => ?_)
  · replace h := o_neg h c7
    refine wp_iconst (v := 0) dX9_drift_13 (by decide) ?_
    refine wp_istore_n (lv' := [(0, _), (1, _), (2, _)]) dX9_drift_14 rfl rfl rfl rfl ?_
    refine wp_pick [0, 1, 2] (lv' := [(0, _), (1, _), (2, _)]) rfl ?_
    exact w_X9_drift_15 Γ ad FU a1 0 I J r h
  · replace h := o_pos h c7
    refine wp_ldc (v := (-1000002)) dX9_drift_10 kcX9_94 ?_
    obtain rfl := Option.some.inj h
    exact wp_ireturn (ty := .int) dX9_drift_12 rfl rfl ⟨rfl, rfl, rfl, rfl⟩
