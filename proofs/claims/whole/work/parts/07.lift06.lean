/-! lifted: X7_scoreWithout X7_rulePrice X7_edgePrice X9_span X7_isSeller X7_tell X7_lotOf X7_gainsIfTold X7_truth X9_lie X9_bestLie X8_note X9_seen X9_forget X8_isNear X8_canBe X8_howMany X8_least X8_greatest -/
def f_X7_scoreWithout (a1 : Int32) (I : IT) (J : JT) : Option (Int64 × IT × JT) :=
  if a1 = (I 35 9) then
    (f_X7_allBuyers I).bind fun r13 =>
    if inbB r13 64 = true then
      some (J 39 r13.toNatClampNeg, I, J)
    else none
  else
    if (I 35 6) = a1 then
      (f_X7_allBuyers I).bind fun r51 =>
      (f_X7_withLot_40 r51 (I 35 9) I J).bind fun r58 =>
      some (r58, I, J)
    else
      (f_X7_fill_40 (I 35 9) a1 (-1) I J).bind fun r37 =>
      (f_X7_allBuyers (upI I 35 6 a1)).bind fun r51 =>
      (f_X7_withLot_40 r51 ((upI I 35 6 a1) 35 9) (upI I 35 6 a1) r37).bind fun r58 =>
      some (r58, upI I 35 6 a1, r37)
set_option maxRecDepth 100000 in
set_option maxHeartbeats 4000000 in
theorem c_X7_scoreWithout (Γ : GT) (ad : Nat → Nat) (a1 : Int32) (I : IT) (J : JT) (r : Int64 × IT × JT) (h : f_X7_scoreWithout a1 I J = some r) : CALL Γ mX7_scoreWithout (0, 0) [.ref (ad 35), .int a1] (DX ad) I J (QE (some (.long r.1)) (DX ad) r.2.1 r.2.2) := by
  refine call_of' (by decide) (Nat.le_of_ble_eq_true rfl) (lv0 := [(0, .ref (ad 35)), (1, .int a1)]) rfl ?_
  unfold f_X7_scoreWithout at h
  refine wp_iload_n dX7_scoreWithout_0 1 rfl ?_
  refine wp_aload_n dX7_scoreWithout_1 0 rfl ?_
  refine wp_getI (k := 35) dX7_scoreWithout_2 flX7_75 rfl rfl rfl rfl ?_
  refine wp_icmp_ne 18 dX7_scoreWithout_5 rfl (fun c5 => ?_) (fun c5 => ?_)
  · replace h := o_neg h c5
    refine wp_aload_n dX7_scoreWithout_18 0 rfl ?_
    refine wp_getI (k := 35) dX7_scoreWithout_19 flX7_78 rfl rfl rfl rfl ?_
    refine wp_iload_n dX7_scoreWithout_22 1 rfl ?_
    refine wp_icmp_eq 45 dX7_scoreWithout_23 rfl (fun c23 => ?_) (fun c23 => ?_)
    · replace h := o_pos h c23
      refine wp_aload_n dX7_scoreWithout_45 0 rfl ?_
      refine wp_aload_n dX7_scoreWithout_46 0 rfl ?_
      refine wp_getR (k := 35) (a' := ad 40) dX7_scoreWithout_47 flX7_25 rfl rfl rfl rfl rfl ?_
      refine wp_aload_n dX7_scoreWithout_50 0 rfl ?_
      obtain ⟨r51, h51, h⟩ := o_bind h
      refine wp_callvI (k := 35) (ci := 7) (c_X7_allBuyers Γ ad I J r51 h51) dX7_scoreWithout_51 mlX7_52 mwX7_allBuyers miX7_allBuyers rfl rfl rfl rfl (Nat.le_of_ble_eq_true rfl) rfl (by decide) (by decide) ?_
      refine wp_aload_n dX7_scoreWithout_54 0 rfl ?_
      refine wp_getI (k := 35) dX7_scoreWithout_55 flX7_75 rfl rfl rfl rfl ?_
      obtain ⟨r58, h58, h⟩ := o_bind h
      refine wp_callvJ (k := 35) (ci := 7) (c_X7_withLot_40 Γ ad r51 (I 35 9) I J r58 h58) dX7_scoreWithout_58 mlX7_127 mwX7_withLot miX7_withLot rfl rfl rfl rfl (Nat.le_of_ble_eq_true rfl) rfl (by decide) (by decide) ?_
      obtain rfl := Option.some.inj h
      exact wp_lreturn dX7_scoreWithout_61 rfl ⟨rfl, rfl, rfl, rfl⟩
    · replace h := o_neg h c23
      refine wp_aload_n dX7_scoreWithout_26 0 rfl ?_
      refine wp_aload_n dX7_scoreWithout_27 0 rfl ?_
      refine wp_getR (k := 35) (a' := ad 40) dX7_scoreWithout_28 flX7_25 rfl rfl rfl rfl rfl ?_
      refine wp_aload_n dX7_scoreWithout_31 0 rfl ?_
      refine wp_getI (k := 35) dX7_scoreWithout_32 flX7_75 rfl rfl rfl rfl ?_
      refine wp_iload_n dX7_scoreWithout_35 1 rfl ?_
      refine wp_iconst (v := (-1)) dX7_scoreWithout_36 (by decide) ?_
      obtain ⟨r37, h37, h⟩ := o_bind h
      refine wp_callvV (k := 35) (ci := 7) (c_X7_fill_40 Γ ad (I 35 9) a1 (-1) I J r37 h37) dX7_scoreWithout_37 mlX7_48 mwX7_fill miX7_fill rfl rfl rfl rfl (Nat.le_of_ble_eq_true rfl) rfl (by decide) (by decide) ?_
      refine wp_aload_n dX7_scoreWithout_40 0 rfl ?_
      refine wp_iload_n dX7_scoreWithout_41 1 rfl ?_
      refine wp_putI (k := 35) dX7_scoreWithout_42 flX7_78 rfl rfl rfl rfl rfl rfl rfl rfl ?_
      refine wp_aload_n dX7_scoreWithout_45 0 rfl ?_
      refine wp_aload_n dX7_scoreWithout_46 0 rfl ?_
      refine wp_getR (k := 35) (a' := ad 40) dX7_scoreWithout_47 flX7_25 rfl rfl rfl rfl rfl ?_
      refine wp_aload_n dX7_scoreWithout_50 0 rfl ?_
      obtain ⟨r51, h51, h⟩ := o_bind h
      refine wp_callvI (k := 35) (ci := 7) (c_X7_allBuyers Γ ad (upI I 35 6 a1) r37 r51 h51) dX7_scoreWithout_51 mlX7_52 mwX7_allBuyers miX7_allBuyers rfl rfl rfl rfl (Nat.le_of_ble_eq_true rfl) rfl (by decide) (by decide) ?_
      refine wp_aload_n dX7_scoreWithout_54 0 rfl ?_
      refine wp_getI (k := 35) dX7_scoreWithout_55 flX7_75 rfl rfl rfl rfl ?_
      obtain ⟨r58, h58, h⟩ := o_bind h
      refine wp_callvJ (k := 35) (ci := 7) (c_X7_withLot_40 Γ ad r51 ((upI I 35 6 a1) 35 9) (upI I 35 6 a1) r37 r58 h58) dX7_scoreWithout_58 mlX7_127 mwX7_withLot miX7_withLot rfl rfl rfl rfl (Nat.le_of_ble_eq_true rfl) rfl (by decide) (by decide) ?_
      obtain rfl := Option.some.inj h
      exact wp_lreturn dX7_scoreWithout_61 rfl ⟨rfl, rfl, rfl, rfl⟩
  · replace h := o_pos h c5
    refine wp_aload_n dX7_scoreWithout_8 0 rfl ?_
    refine wp_getR (k := 35) (a' := ad 39) dX7_scoreWithout_9 flX7_22 rfl rfl rfl rfl rfl ?_
    refine wp_aload_n dX7_scoreWithout_12 0 rfl ?_
    obtain ⟨r13, h13, h⟩ := o_bind h
    refine wp_callvI (k := 35) (ci := 7) (c_X7_allBuyers Γ ad I J r13 h13) dX7_scoreWithout_13 mlX7_52 mwX7_allBuyers miX7_allBuyers rfl rfl rfl rfl (Nat.le_of_ble_eq_true rfl) rfl (by decide) (by decide) ?_
    obtain ⟨g16, h⟩ := o_grd h
    refine wp_lald (k := 39) dX7_scoreWithout_16 rfl rfl (inb_of g16) ?_
    obtain rfl := Option.some.inj h
    exact wp_lreturn dX7_scoreWithout_17 rfl ⟨rfl, rfl, rfl, rfl⟩
def f_X7_rulePrice (a1 : Int32) (a2 : Int32) (a3 : Int64) (I : IT) (J : JT) : Option (Int32 × IT × JT) :=
  if (I 35 7) = 1 then
    if inbB a1 6 = true then
      (f_X7_scoreWithTwo a1 I J).bind fun r40 =>
      (f_X7_gainIn r40.1).bind fun r43 =>
      (f_X7_gainIn a3).bind fun r48 =>
      some (((I 36 a1.toNatClampNeg) + r43) - r48, r40.2.1, r40.2.2)
    else none
  else
    if (I 35 7) = 2 then
      if inbB a1 6 = true then
        (f_X7_gainIn a3).bind fun r60 =>
        (f_X7_scoreWithout a1 I J).bind fun r66 =>
        (f_X7_gainIn r66.1).bind fun r69 =>
        some (((I 36 a1.toNatClampNeg) + r60) - r69, r66.2.1, r66.2.2)
      else none
    else
      if a2 = ((-1) : Int32) then
        some ((-1), I, J)
      else
        if inbB ((a2 * 6) + a1) 36 = true then
          if inbB a1 6 = true then
            some (((I 37 ((a2 * 6) + a1).toNatClampNeg) + (I 36 a1.toNatClampNeg)) / 2, I, J)
          else none
        else none
set_option maxRecDepth 100000 in
set_option maxHeartbeats 4000000 in
theorem c_X7_rulePrice (Γ : GT) (ad : Nat → Nat) (a1 : Int32) (a2 : Int32) (a3 : Int64) (I : IT) (J : JT) (r : Int32 × IT × JT) (h : f_X7_rulePrice a1 a2 a3 I J = some r) : CALL Γ mX7_rulePrice (0, 0) [.ref (ad 35), .int a1, .int a2, .long a3] (DX ad) I J (QE (some (.int r.1)) (DX ad) r.2.1 r.2.2) := by
  refine call_of' (by decide) (Nat.le_of_ble_eq_true rfl) (lv0 := [(0, .ref (ad 35)), (1, .int a1), (2, .int a2), (3, .long a3)]) rfl ?_
  unfold f_X7_rulePrice at h
  refine wp_aload_n dX7_rulePrice_0 0 rfl ?_
  refine wp_getI (k := 35) dX7_rulePrice_1 flX7_68 rfl rfl rfl rfl ?_
  by_cases e4_1 : (I 35 7) = 1
  · replace h := o_pos h e4_1
    refine wp_lookup (off := 28) 32 dX7_rulePrice_4 (by decide) (by rw [e4_1]; decide) rfl ?_
    refine wp_aload_n dX7_rulePrice_32 0 rfl ?_
    refine wp_getR (k := 35) (a' := ad 36) dX7_rulePrice_33 flX7_9 rfl rfl rfl rfl rfl ?_
    refine wp_iload_n dX7_rulePrice_36 1 rfl ?_
    obtain ⟨g37, h⟩ := o_grd h
    refine wp_iald (k := 36) dX7_rulePrice_37 rfl rfl (inb_of g37) ?_
    refine wp_aload_n dX7_rulePrice_38 0 rfl ?_
    refine wp_iload_n dX7_rulePrice_39 1 rfl ?_
    obtain ⟨r40, h40, h⟩ := o_bind h
    refine wp_callvJ (k := 35) (ci := 7) (c_X7_scoreWithTwo Γ ad a1 I J r40 h40) dX7_rulePrice_40 mlX7_116 mwX7_scoreWithTwo miX7_scoreWithTwo rfl rfl rfl rfl (Nat.le_of_ble_eq_true rfl) rfl (by decide) (by decide) ?_
    obtain ⟨r43, h43, h⟩ := o_bind h
    refine wp_callsI (c_X7_gainIn Γ ad r40.1 r40.2.1 r40.2.2 r43 h43) dX7_rulePrice_43 mlX7_120 mwX7_gainIn miX7_gainIn rfl (Nat.le_of_ble_eq_true rfl) rfl (by decide) (by decide) ?_
    refine wp_iadd dX7_rulePrice_46 ?_
    refine wp_lload_n dX7_rulePrice_47 3 rfl ?_
    obtain ⟨r48, h48, h⟩ := o_bind h
    refine wp_callsI (c_X7_gainIn Γ ad a3 r40.2.1 r40.2.2 r48 h48) dX7_rulePrice_48 mlX7_120 mwX7_gainIn miX7_gainIn rfl (Nat.le_of_ble_eq_true rfl) rfl (by decide) (by decide) ?_
    refine wp_isub dX7_rulePrice_51 ?_
    obtain rfl := Option.some.inj h
    exact wp_ireturn (ty := .int) dX7_rulePrice_52 rfl rfl ⟨rfl, rfl, rfl, rfl⟩
  · replace h := o_neg h e4_1
    by_cases e4_2 : (I 35 7) = 2
    · replace h := o_pos h e4_2
      refine wp_lookup (off := 49) 53 dX7_rulePrice_4 (by decide) (by rw [e4_2]; decide) rfl ?_
      refine wp_aload_n dX7_rulePrice_53 0 rfl ?_
      refine wp_getR (k := 35) (a' := ad 36) dX7_rulePrice_54 flX7_9 rfl rfl rfl rfl rfl ?_
      refine wp_iload_n dX7_rulePrice_57 1 rfl ?_
      obtain ⟨g58, h⟩ := o_grd h
      refine wp_iald (k := 36) dX7_rulePrice_58 rfl rfl (inb_of g58) ?_
      refine wp_lload_n dX7_rulePrice_59 3 rfl ?_
      obtain ⟨r60, h60, h⟩ := o_bind h
      refine wp_callsI (c_X7_gainIn Γ ad a3 I J r60 h60) dX7_rulePrice_60 mlX7_120 mwX7_gainIn miX7_gainIn rfl (Nat.le_of_ble_eq_true rfl) rfl (by decide) (by decide) ?_
      refine wp_iadd dX7_rulePrice_63 ?_
      refine wp_aload_n dX7_rulePrice_64 0 rfl ?_
      refine wp_iload_n dX7_rulePrice_65 1 rfl ?_
      obtain ⟨r66, h66, h⟩ := o_bind h
      refine wp_callvJ (k := 35) (ci := 7) (c_X7_scoreWithout Γ ad a1 I J r66 h66) dX7_rulePrice_66 mlX7_124 mwX7_scoreWithout miX7_scoreWithout rfl rfl rfl rfl (Nat.le_of_ble_eq_true rfl) rfl (by decide) (by decide) ?_
      obtain ⟨r69, h69, h⟩ := o_bind h
      refine wp_callsI (c_X7_gainIn Γ ad r66.1 r66.2.1 r66.2.2 r69 h69) dX7_rulePrice_69 mlX7_120 mwX7_gainIn miX7_gainIn rfl (Nat.le_of_ble_eq_true rfl) rfl (by decide) (by decide) ?_
      refine wp_isub dX7_rulePrice_72 ?_
      obtain rfl := Option.some.inj h
      exact wp_ireturn (ty := .int) dX7_rulePrice_73 rfl rfl ⟨rfl, rfl, rfl, rfl⟩
    · replace h := o_neg h e4_2
      refine wp_lookup (off := 70) 74 dX7_rulePrice_4 (by decide) (by rw [lv_osw e4_1 (by decide), lv_osw e4_2 (by decide)]; rfl) rfl ?_
      refine wp_iload_n dX7_rulePrice_74 2 rfl ?_
      refine wp_iconst (v := (-1)) dX7_rulePrice_75 (by decide) ?_
      refine wp_icmp_ne 83 dX7_rulePrice_76 rfl (fun c76 => ?_) (fun c76 => ?_)
      · replace h := o_neg h c76
        refine wp_aload_n dX7_rulePrice_83 0 rfl ?_
        refine wp_getR (k := 35) (a' := ad 37) dX7_rulePrice_84 flX7_15 rfl rfl rfl rfl rfl ?_
        refine wp_iload_n dX7_rulePrice_87 2 rfl ?_
        refine wp_bipush (v := 6) dX7_rulePrice_88 (by decide) ?_
        refine wp_imul dX7_rulePrice_90 ?_
        refine wp_iload_n dX7_rulePrice_91 1 rfl ?_
        refine wp_iadd dX7_rulePrice_92 ?_
        obtain ⟨g93, h⟩ := o_grd h
        refine wp_iald (k := 37) dX7_rulePrice_93 rfl rfl (inb_of g93) ?_
        refine wp_aload_n dX7_rulePrice_94 0 rfl ?_
        refine wp_getR (k := 35) (a' := ad 36) dX7_rulePrice_95 flX7_9 rfl rfl rfl rfl rfl ?_
        refine wp_iload_n dX7_rulePrice_98 1 rfl ?_
        obtain ⟨g99, h⟩ := o_grd h
        refine wp_iald (k := 36) dX7_rulePrice_99 rfl rfl (inb_of g99) ?_
        refine wp_iadd dX7_rulePrice_100 ?_
        refine wp_iconst (v := 2) dX7_rulePrice_101 (by decide) ?_
        refine wp_idiv dX7_rulePrice_102 (by decide) ?_
        obtain rfl := Option.some.inj h
        exact wp_ireturn (ty := .int) dX7_rulePrice_103 rfl rfl ⟨rfl, rfl, rfl, rfl⟩
      · replace h := o_pos h c76
        refine wp_iconst (v := (-1)) dX7_rulePrice_79 (by decide) ?_
        refine wp_goto 103 dX7_rulePrice_80 rfl ?_
        obtain rfl := Option.some.inj h
        exact wp_ireturn (ty := .int) dX7_rulePrice_103 rfl rfl ⟨rfl, rfl, rfl, rfl⟩
def f_X7_edgePrice (a1 : Int32) (a2 : Int32) (I : IT) (J : JT) : Option (Int32 × IT × JT) :=
  (f_X7_open a2 a1 a1 I J).bind fun r4 =>
  (f_X7_scoreAsTold r4.1 r4.2).bind fun r11 =>
  (f_X7_rulePrice a1 (-1) r11 r4.1 r4.2).bind fun r14 =>
  some (r14.1, r14.2.1, r14.2.2)
set_option maxRecDepth 100000 in
set_option maxHeartbeats 4000000 in
theorem c_X7_edgePrice (Γ : GT) (ad : Nat → Nat) (a1 : Int32) (a2 : Int32) (I : IT) (J : JT) (r : Int32 × IT × JT) (h : f_X7_edgePrice a1 a2 I J = some r) : CALL Γ mX7_edgePrice (0, 0) [.ref (ad 35), .int a1, .int a2] (DX ad) I J (QE (some (.int r.1)) (DX ad) r.2.1 r.2.2) := by
  refine call_of' (by decide) (Nat.le_of_ble_eq_true rfl) (lv0 := [(0, .ref (ad 35)), (1, .int a1), (2, .int a2)]) rfl ?_
  unfold f_X7_edgePrice at h
  refine wp_aload_n dX7_edgePrice_0 0 rfl ?_
  refine wp_iload_n dX7_edgePrice_1 2 rfl ?_
  refine wp_iload_n dX7_edgePrice_2 1 rfl ?_
  refine wp_iload_n dX7_edgePrice_3 1 rfl ?_
  obtain ⟨r4, h4, h⟩ := o_bind h
  refine wp_callvV (k := 35) (ci := 7) (c_X7_open Γ ad a2 a1 a1 I J r4 h4) dX7_edgePrice_4 mlX7_56 mwX7_open miX7_open rfl rfl rfl rfl (Nat.le_of_ble_eq_true rfl) rfl (by decide) (by decide) ?_
  refine wp_aload_n dX7_edgePrice_7 0 rfl ?_
  refine wp_iload_n dX7_edgePrice_8 1 rfl ?_
  refine wp_iconst (v := (-1)) dX7_edgePrice_9 (by decide) ?_
  refine wp_aload_n dX7_edgePrice_10 0 rfl ?_
  obtain ⟨r11, h11, h⟩ := o_bind h
  refine wp_callvJ (k := 35) (ci := 7) (c_X7_scoreAsTold Γ ad r4.1 r4.2 r11 h11) dX7_edgePrice_11 mlX7_60 mwX7_scoreAsTold miX7_scoreAsTold rfl rfl rfl rfl (Nat.le_of_ble_eq_true rfl) rfl (by decide) (by decide) ?_
  obtain ⟨r14, h14, h⟩ := o_bind h
  refine wp_callvI (k := 35) (ci := 7) (c_X7_rulePrice Γ ad a1 (-1) r11 r4.1 r4.2 r14 h14) dX7_edgePrice_14 mlX7_64 mwX7_rulePrice miX7_rulePrice rfl rfl rfl rfl (Nat.le_of_ble_eq_true rfl) rfl (by decide) (by decide) ?_
  obtain rfl := Option.some.inj h
  exact wp_ireturn (ty := .int) dX7_edgePrice_17 rfl rfl ⟨rfl, rfl, rfl, rfl⟩
def f_X9_span (a1 : Int32) (a2 : Int32) (I : IT) (J : JT) : Option (Int32 × IT × JT) :=
  (f_X2_hasLot a1 I).bind fun r5 =>
  if r5 = 0 then
    some ((-1000001), I, J)
  else
    (f_X9_isWithin a2 0 1).bind fun r17 =>
    if r17 = 0 then
      some ((-1000002), I, J)
    else
      if a2 = 0 then
        (f_X7_edgePrice a1 1 I J).bind fun r40 =>
        some (r40.1, r40.2.1, r40.2.2)
      else
        (f_X7_edgePrice a1 2 I J).bind fun r40 =>
        some (r40.1, r40.2.1, r40.2.2)
set_option maxRecDepth 100000 in
set_option maxHeartbeats 4000000 in
theorem c_X9_span (Γ : GT) (ad : Nat → Nat) (a1 : Int32) (a2 : Int32) (I : IT) (J : JT) (r : Int32 × IT × JT) (h : f_X9_span a1 a2 I J = some r) : CALL Γ mX9_span (0, 0) [.ref (ad 0), .int a1, .int a2] (DX ad) I J (QE (some (.int r.1)) (DX ad) r.2.1 r.2.2) := by
  refine call_of' (by decide) (Nat.le_of_ble_eq_true rfl) (lv0 := [(0, .ref (ad 0)), (1, .int a1), (2, .int a2)]) rfl ?_
  unfold f_X9_span at h
  refine wp_aload_n dX9_span_0 0 rfl ?_
  refine wp_getR (k := 0) (a' := ad 3) dX9_span_1 flX9_19 rfl rfl rfl rfl rfl ?_
  refine wp_iload_n dX9_span_4 1 rfl ?_
  obtain ⟨r5, h5, h⟩ := o_bind h
  refine wp_callvI (k := 3) (ci := 2) (c_X2_hasLot Γ ad a1 I J r5 h5) dX9_span_5 mlX9_176 mwX2_hasLot miX2_hasLot rfl rfl rfl rfl (Nat.le_of_ble_eq_true rfl) rfl (by decide) (by decide) ?_
  refine wp_if_ne 14 dX9_span_8 rfl (fun c8 => ?_) (fun c8 => ?_)
  · replace h := o_neg h c8
    refine wp_iload_n dX9_span_14 2 rfl ?_
    refine wp_iconst (v := 0) dX9_span_15 (by decide) ?_
    refine wp_iconst (v := 1) dX9_span_16 (by decide) ?_
    obtain ⟨r17, h17, h⟩ := o_bind h
    refine wp_callsI (c_X9_isWithin Γ ad a2 0 1 I J r17 h17) dX9_span_17 mlX9_90 mwX9_isWithin miX9_isWithin rfl (Nat.le_of_ble_eq_true rfl) rfl (by decide) (by decide) ?_
    refine wp_if_ne 26 dX9_span_20 rfl (fun c20 => ?_) (fun c20 => ?_)
    · replace h := o_neg h c20
      refine wp_aload_n dX9_span_26 0 rfl ?_
      refine wp_getR (k := 0) (a' := ad 35) dX9_span_27 flX9_52 rfl rfl rfl rfl rfl ?_
      refine wp_iload_n dX9_span_30 1 rfl ?_
      refine wp_iload_n dX9_span_31 2 rfl ?_
      refine wp_if_ne 39 dX9_span_32 rfl (fun c32 => ?_) (fun c32 => ?_)
      · replace h := o_neg h c32
        refine wp_iconst (v := 2) dX9_span_39 (by decide) ?_
        obtain ⟨r40, h40, h⟩ := o_bind h
        refine wp_callvI (k := 35) (ci := 7) (c_X7_edgePrice Γ ad a1 2 I J r40 h40) dX9_span_40 mlX9_265 mwX7_edgePrice miX7_edgePrice rfl rfl rfl rfl (Nat.le_of_ble_eq_true rfl) rfl (by decide) (by decide) ?_
        obtain rfl := Option.some.inj h
        exact wp_ireturn (ty := .int) dX9_span_43 rfl rfl ⟨rfl, rfl, rfl, rfl⟩
      · replace h := o_pos h c32
        refine wp_iconst (v := 1) dX9_span_35 (by decide) ?_
        refine wp_goto 40 dX9_span_36 rfl ?_
        obtain ⟨r40, h40, h⟩ := o_bind h
        refine wp_callvI (k := 35) (ci := 7) (c_X7_edgePrice Γ ad a1 1 I J r40 h40) dX9_span_40 mlX9_265 mwX7_edgePrice miX7_edgePrice rfl rfl rfl rfl (Nat.le_of_ble_eq_true rfl) rfl (by decide) (by decide) ?_
        obtain rfl := Option.some.inj h
        exact wp_ireturn (ty := .int) dX9_span_43 rfl rfl ⟨rfl, rfl, rfl, rfl⟩
    · replace h := o_pos h c20
      refine wp_ldc (v := (-1000002)) dX9_span_23 kcX9_94 ?_
      obtain rfl := Option.some.inj h
      exact wp_ireturn (ty := .int) dX9_span_25 rfl rfl ⟨rfl, rfl, rfl, rfl⟩
  · replace h := o_pos h c8
    refine wp_ldc (v := (-1000001)) dX9_span_11 kcX9_155 ?_
    obtain rfl := Option.some.inj h
    exact wp_ireturn (ty := .int) dX9_span_13 rfl rfl ⟨rfl, rfl, rfl, rfl⟩
def f_X7_isSeller (I : IT) : Option (Int32) :=
  if (I 3 0) ≤ (I 35 8) then
    some 0
  else
    some 1
set_option maxRecDepth 100000 in
set_option maxHeartbeats 4000000 in
theorem c_X7_isSeller (Γ : GT) (ad : Nat → Nat) (I : IT) (J : JT) (r : Int32) (h : f_X7_isSeller I = some r) : CALL Γ mX7_isSeller (0, 0) [.ref (ad 35)] (DX ad) I J (QE (some (.int r)) (DX ad) I J) := by
  refine call_of' (by decide) (Nat.le_of_ble_eq_true rfl) (lv0 := [(0, .ref (ad 35))]) rfl ?_
  unfold f_X7_isSeller at h
  refine wp_aload_n dX7_isSeller_0 0 rfl ?_
  refine wp_getI (k := 35) dX7_isSeller_1 flX7_72 rfl rfl rfl rfl ?_
  refine wp_aload_n dX7_isSeller_4 0 rfl ?_
  refine wp_getR (k := 35) (a' := ad 3) dX7_isSeller_5 flX7_28 rfl rfl rfl rfl rfl ?_
  refine wp_getI (k := 3) dX7_isSeller_8 flX7_90 rfl rfl rfl rfl ?_
  refine wp_icmp_ge 18 dX7_isSeller_11 rfl (fun c11 => ?_) (fun c11 => ?_)
  · replace h := o_pos h c11
    refine wp_iconst (v := 0) dX7_isSeller_18 (by decide) ?_
    obtain rfl := Option.some.inj h
    exact wp_ireturn (ty := .boolean) dX7_isSeller_19 rfl rfl ⟨rfl, rfl, rfl, rfl⟩
  · replace h := o_neg h c11
    refine wp_iconst (v := 1) dX7_isSeller_14 (by decide) ?_
    refine wp_goto 19 dX7_isSeller_15 rfl ?_
    obtain rfl := Option.some.inj h
    exact wp_ireturn (ty := .boolean) dX7_isSeller_19 rfl rfl ⟨rfl, rfl, rfl, rfl⟩
def f_X7_tell_19 : Nat → Int32 → IT → JT → Option (IT × JT)
  | 0, _, _, _ => none
  | n + 1, v2, I, J =>
    if (I 3 1) ≤ v2 then
      some (I, J)
    else
      (f_X7_putScore v2 (I 35 9) I J).bind fun r36 =>
      f_X7_tell_19 n (v2 + 1) I r36
def f_X7_tell (a1 : Int32) (I : IT) (J : JT) : Option (IT × JT) :=
  (f_X7_isSeller I).bind fun r1 =>
  if r1 = 0 then
    if inbB ((((I 35 8) - (I 3 0)) * 6) + (I 35 9)) 36 = true then
      (f_X7_putScore ((I 35 8) - (I 3 0)) ((upI I 37 (((((I 35 8) - (I 3 0)) * 6) + (I 35 9)).toNatClampNeg) a1) 35 9) (upI I 37 (((((I 35 8) - (I 3 0)) * 6) + (I 35 9)).toNatClampNeg) a1) J).bind fun r82 =>
      some (upI I 37 (((((I 35 8) - (I 3 0)) * 6) + (I 35 9)).toNatClampNeg) a1, r82)
    else none
  else
    if inbB (I 35 9) 6 = true then
      f_X7_tell_19 FU 0 (upI I 36 ((I 35 9).toNatClampNeg) a1) J
    else none
set_option maxRecDepth 100000 in
set_option maxHeartbeats 4000000 in
theorem w_X7_tell_19 (Γ : GT) (ad : Nat → Nat) : ∀ (n : Nat) (v2 : Int32) (I : IT) (J : JT) (r : IT × JT), f_X7_tell_19 n v2 I J = some r → WP Γ mX7_tell (0, 0) 19 [(0, .ref (ad 35)), (2, .int v2)] [] (DX ad) I J (QE none (DX ad) r.1 r.2) := by
  intro n
  induction n with
  | zero => intro v2 I J r h; exact absurd h (by simp [f_X7_tell_19])
  | succ n ih =>
    intro v2 I J r h
    rw [f_X7_tell_19] at h
    refine wp_iload_n dX7_tell_19 1 rfl ?_
    refine wp_aload_n dX7_tell_20 0 rfl ?_
    refine wp_getR (k := 35) (a' := ad 3) dX7_tell_21 flX7_28 rfl rfl rfl rfl rfl ?_
    refine wp_getI (k := 3) dX7_tell_24 flX7_109 rfl rfl rfl rfl ?_
    refine wp_icmp_ge 45 dX7_tell_27 rfl (fun c27 => ?_) (fun c27 => ?_)
    · replace h := o_pos h c27
      refine wp_goto 85 dX7_tell_45 rfl ?_
      obtain rfl := Option.some.inj h
      exact wp_return dX7_tell_85 rfl ⟨rfl, rfl, rfl, rfl⟩
    · replace h := o_neg h c27
      refine wp_aload_n dX7_tell_30 0 rfl ?_
      refine wp_iload_n dX7_tell_31 1 rfl ?_
      refine wp_aload_n dX7_tell_32 0 rfl ?_
      refine wp_getI (k := 35) dX7_tell_33 flX7_75 rfl rfl rfl rfl ?_
      obtain ⟨r36, h36, h⟩ := o_bind h
      refine wp_callvV (k := 35) (ci := 7) (c_X7_putScore Γ ad v2 (I 35 9) I J r36 h36) dX7_tell_36 mlX7_112 mwX7_putScore miX7_putScore rfl rfl rfl rfl (Nat.le_of_ble_eq_true rfl) rfl (by decide) (by decide) ?_
      refine wp_iinc (v := v2 + 1) (lv' := [(0, _), (2, _)]) dX7_tell_39 1 rfl rfl rfl rfl rfl ?_
      refine wp_goto 19 dX7_tell_42 rfl ?_
      refine wp_pick [0, 1] (lv' := [(0, _), (2, _)]) rfl ?_
      exact ih (v2 + 1) I r36 r h
set_option maxRecDepth 100000 in
set_option maxHeartbeats 4000000 in
theorem c_X7_tell (Γ : GT) (ad : Nat → Nat) (a1 : Int32) (I : IT) (J : JT) (r : IT × JT) (h : f_X7_tell a1 I J = some r) : CALL Γ mX7_tell (0, 0) [.ref (ad 35), .int a1] (DX ad) I J (QE none (DX ad) r.1 r.2) := by
  refine call_of' (by decide) (Nat.le_of_ble_eq_true rfl) (lv0 := [(0, .ref (ad 35)), (1, .int a1)]) rfl ?_
  unfold f_X7_tell at h
  refine wp_aload_n dX7_tell_0 0 rfl ?_
  obtain ⟨r1, h1, h⟩ := o_bind h
  refine wp_callvI (k := 35) (ci := 7) (c_X7_isSeller Γ ad I J r1 h1) dX7_tell_1 mlX7_81 mwX7_isSeller miX7_isSeller rfl rfl rfl rfl (Nat.le_of_ble_eq_true rfl) rfl (by decide) (by decide) ?_
  refine wp_if_eq 48 dX7_tell_4 rfl (fun c4 => ?_) (fun c4 => ?_)
  · replace h := o_pos h c4
    refine wp_aload_n dX7_tell_48 0 rfl ?_
    refine wp_getI (k := 35) dX7_tell_49 flX7_72 rfl rfl rfl rfl ?_
    refine wp_aload_n dX7_tell_52 0 rfl ?_
    refine wp_getR (k := 35) (a' := ad 3) dX7_tell_53 flX7_28 rfl rfl rfl rfl rfl ?_
    refine wp_getI (k := 3) dX7_tell_56 flX7_90 rfl rfl rfl rfl ?_
    refine wp_isub dX7_tell_59 ?_
    refine wp_istore_n (lv' := [(0, _), (1, _), (2, _)]) dX7_tell_60 rfl rfl rfl rfl ?_
    refine wp_aload_n dX7_tell_61 0 rfl ?_
    refine wp_getR (k := 35) (a' := ad 37) dX7_tell_62 flX7_15 rfl rfl rfl rfl rfl ?_
    refine wp_iload_n dX7_tell_65 2 rfl ?_
    refine wp_bipush (v := 6) dX7_tell_66 (by decide) ?_
    refine wp_imul dX7_tell_68 ?_
    refine wp_aload_n dX7_tell_69 0 rfl ?_
    refine wp_getI (k := 35) dX7_tell_70 flX7_75 rfl rfl rfl rfl ?_
    refine wp_iadd dX7_tell_73 ?_
    refine wp_iload_n dX7_tell_74 1 rfl ?_
    obtain ⟨g75, h⟩ := o_grd h
    refine wp_iast (k := 37) dX7_tell_75 rfl rfl (inb_of g75) ?_
    refine wp_aload_n dX7_tell_76 0 rfl ?_
    refine wp_iload_n dX7_tell_77 2 rfl ?_
    refine wp_aload_n dX7_tell_78 0 rfl ?_
    refine wp_getI (k := 35) dX7_tell_79 flX7_75 rfl rfl rfl rfl ?_
    obtain ⟨r82, h82, h⟩ := o_bind h
    refine wp_callvV (k := 35) (ci := 7) (c_X7_putScore Γ ad ((I 35 8) - (I 3 0)) ((upI I 37 (((((I 35 8) - (I 3 0)) * 6) + (I 35 9)).toNatClampNeg) a1) 35 9) (upI I 37 (((((I 35 8) - (I 3 0)) * 6) + (I 35 9)).toNatClampNeg) a1) J r82 h82) dX7_tell_82 mlX7_112 mwX7_putScore miX7_putScore rfl rfl rfl rfl (Nat.le_of_ble_eq_true rfl) rfl (by decide) (by decide) ?_
    obtain rfl := Option.some.inj h
    exact wp_return dX7_tell_85 rfl ⟨rfl, rfl, rfl, rfl⟩
  · replace h := o_neg h c4
    refine wp_aload_n dX7_tell_7 0 rfl ?_
    refine wp_getR (k := 35) (a' := ad 36) dX7_tell_8 flX7_9 rfl rfl rfl rfl rfl ?_
    refine wp_aload_n dX7_tell_11 0 rfl ?_
    refine wp_getI (k := 35) dX7_tell_12 flX7_75 rfl rfl rfl rfl ?_
    refine wp_iload_n dX7_tell_15 1 rfl ?_
    obtain ⟨g16, h⟩ := o_grd h
    refine wp_iast (k := 36) dX7_tell_16 rfl rfl (inb_of g16) ?_
    refine wp_iconst (v := 0) dX7_tell_17 (by decide) ?_
    refine wp_istore_n (lv' := [(0, _), (1, _), (2, _)]) dX7_tell_18 rfl rfl rfl rfl ?_
    refine wp_pick [0, 2] (lv' := [(0, _), (2, _)]) rfl ?_
    exact w_X7_tell_19 Γ ad FU 0 (upI I 36 ((I 35 9).toNatClampNeg) a1) J r h
def f_X7_lotOf_3 : Nat → Int32 → Int64 → Int32 → IT → Option (Int32)
  | 0, _, _, _, _ => none
  | n + 1, v1, v2, v4, I =>
    if (I 3 0) ≤ v4 then
      some (-1)
    else
      (f_X7_buyerIn v2 v4 I).bind fun r18 =>
      if r18 = v1 then
        some v4
      else
        f_X7_lotOf_3 n v1 v2 (v4 + 1) I
def f_X7_lotOf (a1 : Int32) (a2 : Int64) (I : IT) : Option (Int32) :=
  f_X7_lotOf_3 FU a1 a2 0 I
set_option maxRecDepth 100000 in
set_option maxHeartbeats 4000000 in
theorem w_X7_lotOf_3 (Γ : GT) (ad : Nat → Nat) : ∀ (n : Nat) (v1 : Int32) (v2 : Int64) (v4 : Int32) (I : IT) (J : JT) (r : Int32), f_X7_lotOf_3 n v1 v2 v4 I = some r → WP Γ mX7_lotOf (0, 0) 3 [(0, .ref (ad 35)), (1, .int v1), (2, .long v2), (4, .int v4)] [] (DX ad) I J (QE (some (.int r)) (DX ad) I J) := by
  intro n
  induction n with
  | zero => intro v1 v2 v4 I J r h; exact absurd h (by simp [f_X7_lotOf_3])
  | succ n ih =>
    intro v1 v2 v4 I J r h
    rw [f_X7_lotOf_3] at h
    refine wp_iload dX7_lotOf_3 3 rfl ?_
    refine wp_aload_n dX7_lotOf_5 0 rfl ?_
    refine wp_getR (k := 35) (a' := ad 3) dX7_lotOf_6 flX7_28 rfl rfl rfl rfl rfl ?_
    refine wp_getI (k := 3) dX7_lotOf_9 flX7_90 rfl rfl rfl rfl ?_
    refine wp_icmp_ge 34 dX7_lotOf_12 rfl (fun c12 => ?_) (fun c12 => ?_)
    · replace h := o_pos h c12
      refine wp_iconst (v := (-1)) dX7_lotOf_34 (by decide) ?_
      obtain rfl := Option.some.inj h
      exact wp_ireturn (ty := .int) dX7_lotOf_35 rfl rfl ⟨rfl, rfl, rfl, rfl⟩
    · replace h := o_neg h c12
      refine wp_lload_n dX7_lotOf_15 2 rfl ?_
      refine wp_iload dX7_lotOf_16 3 rfl ?_
      obtain ⟨r18, h18, h⟩ := o_bind h
      refine wp_callsI (c_X7_buyerIn Γ ad v2 v4 I J r18 h18) dX7_lotOf_18 mlX7_101 mwX7_buyerIn miX7_buyerIn rfl (Nat.le_of_ble_eq_true rfl) rfl (by decide) (by decide) ?_
      refine wp_iload_n dX7_lotOf_21 1 rfl ?_
      refine wp_icmp_ne 28 dX7_lotOf_22 rfl (fun c22 => ?_) (fun c22 => ?_)
      · replace h := o_neg h c22
        refine wp_iinc (v := v4 + 1) (lv' := [(0, _), (1, _), (2, _), (4, _)]) dX7_lotOf_28 3 rfl rfl rfl rfl rfl ?_
        refine wp_goto 3 dX7_lotOf_31 rfl ?_
        refine wp_pick [0, 1, 2, 3] (lv' := [(0, _), (1, _), (2, _), (4, _)]) rfl ?_
        exact ih v1 v2 (v4 + 1) I J r h
      · replace h := o_pos h c22
        refine wp_iload dX7_lotOf_25 3 rfl ?_
        obtain rfl := Option.some.inj h
        exact wp_ireturn (ty := .int) dX7_lotOf_27 rfl rfl ⟨rfl, rfl, rfl, rfl⟩
set_option maxRecDepth 100000 in
set_option maxHeartbeats 4000000 in
theorem c_X7_lotOf (Γ : GT) (ad : Nat → Nat) (a1 : Int32) (a2 : Int64) (I : IT) (J : JT) (r : Int32) (h : f_X7_lotOf a1 a2 I = some r) : CALL Γ mX7_lotOf (0, 0) [.ref (ad 35), .int a1, .long a2] (DX ad) I J (QE (some (.int r)) (DX ad) I J) := by
  refine call_of' (by decide) (Nat.le_of_ble_eq_true rfl) (lv0 := [(0, .ref (ad 35)), (1, .int a1), (2, .long a2)]) rfl ?_
  unfold f_X7_lotOf at h
  refine wp_iconst (v := 0) dX7_lotOf_0 (by decide) ?_
  refine wp_istore (lv' := [(0, _), (1, _), (2, _), (4, _)]) dX7_lotOf_1 rfl rfl rfl ?_
  refine wp_pick [0, 1, 2, 3] (lv' := [(0, _), (1, _), (2, _), (4, _)]) rfl ?_
  exact w_X7_lotOf_3 Γ ad FU a1 a2 0 I J r h
def f_X7_gainsIfTold (a1 : Int32) (I : IT) (J : JT) : Option (Int32 × IT × JT) :=
  (f_X7_tell a1 I J).bind fun r2 =>
  (f_X7_scoreAsTold r2.1 r2.2).bind fun r6 =>
  (f_X7_isSeller r2.1).bind fun r11 =>
  if r11 = 0 then
    (f_X7_lotOf ((r2.1 35 8) - (r2.1 3 0)) r6 r2.1).bind fun r80 =>
    if r80 = ((-1) : Int32) then
      some (0, r2.1, r2.2)
    else
      (f_X2_worthOf ((r2.1 35 8) - (r2.1 3 0)) r80 r2.1).bind fun r103 =>
      (f_X7_rulePrice r80 ((r2.1 35 8) - (r2.1 3 0)) r6 r2.1 r2.2).bind fun r112 =>
      some (r103 - r112.1, r112.2.1, r112.2.2)
  else
    (f_X7_buyerIn r6 (r2.1 35 9) r2.1).bind fun r22 =>
    if r22 = ((-1) : Int32) then
      some (0, r2.1, r2.2)
    else
      (f_X7_rulePrice (r2.1 35 9) r22 r6 r2.1 r2.2).bind fun r45 =>
      if inbB (r45.2.1 35 9) 14 = true then
        some (r45.1 - (r45.2.1 5 (r45.2.1 35 9).toNatClampNeg), r45.2.1, r45.2.2)
      else none
set_option maxRecDepth 100000 in
set_option maxHeartbeats 4000000 in
theorem c_X7_gainsIfTold (Γ : GT) (ad : Nat → Nat) (a1 : Int32) (I : IT) (J : JT) (r : Int32 × IT × JT) (h : f_X7_gainsIfTold a1 I J = some r) : CALL Γ mX7_gainsIfTold (0, 0) [.ref (ad 35), .int a1] (DX ad) I J (QE (some (.int r.1)) (DX ad) r.2.1 r.2.2) := by
  refine call_of' (by decide) (Nat.le_of_ble_eq_true rfl) (lv0 := [(0, .ref (ad 35)), (1, .int a1)]) rfl ?_
  unfold f_X7_gainsIfTold at h
  refine wp_aload_n dX7_gainsIfTold_0 0 rfl ?_
  refine wp_iload_n dX7_gainsIfTold_1 1 rfl ?_
  obtain ⟨r2, h2, h⟩ := o_bind h
  refine wp_callvV (k := 35) (ci := 7) (c_X7_tell Γ ad a1 I J r2 h2) dX7_gainsIfTold_2 mlX7_97 mwX7_tell miX7_tell rfl rfl rfl rfl (Nat.le_of_ble_eq_true rfl) rfl (by decide) (by decide) ?_
  refine wp_aload_n dX7_gainsIfTold_5 0 rfl ?_
  obtain ⟨r6, h6, h⟩ := o_bind h
  refine wp_callvJ (k := 35) (ci := 7) (c_X7_scoreAsTold Γ ad r2.1 r2.2 r6 h6) dX7_gainsIfTold_6 mlX7_60 mwX7_scoreAsTold miX7_scoreAsTold rfl rfl rfl rfl (Nat.le_of_ble_eq_true rfl) rfl (by decide) (by decide) ?_
  refine wp_lstore_n (lv' := [(0, _), (1, _), (2, _)]) dX7_gainsIfTold_9 rfl rfl rfl rfl ?_
  refine wp_aload_n dX7_gainsIfTold_10 0 rfl ?_
  obtain ⟨r11, h11, h⟩ := o_bind h
  refine wp_callvI (k := 35) (ci := 7) (c_X7_isSeller Γ ad r2.1 r2.2 r11 h11) dX7_gainsIfTold_11 mlX7_81 mwX7_isSeller miX7_isSeller rfl rfl rfl rfl (Nat.le_of_ble_eq_true rfl) rfl (by decide) (by decide) ?_
  refine wp_if_eq 62 dX7_gainsIfTold_14 rfl (fun c14 => ?_) (fun c14 => ?_)
  · replace h := o_pos h c14
    refine wp_aload_n dX7_gainsIfTold_62 0 rfl ?_
    refine wp_getI (k := 35) dX7_gainsIfTold_63 flX7_72 rfl rfl rfl rfl ?_
    refine wp_aload_n dX7_gainsIfTold_66 0 rfl ?_
    refine wp_getR (k := 35) (a' := ad 3) dX7_gainsIfTold_67 flX7_28 rfl rfl rfl rfl rfl ?_
    refine wp_getI (k := 3) dX7_gainsIfTold_70 flX7_90 rfl rfl rfl rfl ?_
    refine wp_isub dX7_gainsIfTold_73 ?_
    refine wp_istore (lv' := [(0, _), (1, _), (2, _), (4, _)]) dX7_gainsIfTold_74 rfl rfl rfl ?_
    refine wp_aload_n dX7_gainsIfTold_76 0 rfl ?_
    refine wp_iload dX7_gainsIfTold_77 3 rfl ?_
    refine wp_lload_n dX7_gainsIfTold_79 2 rfl ?_
    obtain ⟨r80, h80, h⟩ := o_bind h
    refine wp_callvI (k := 35) (ci := 7) (c_X7_lotOf Γ ad ((r2.1 35 8) - (r2.1 3 0)) r6 r2.1 r2.2 r80 h80) dX7_gainsIfTold_80 mlX7_105 mwX7_lotOf miX7_lotOf rfl rfl rfl rfl (Nat.le_of_ble_eq_true rfl) rfl (by decide) (by decide) ?_
    refine wp_istore (lv' := [(0, _), (1, _), (2, _), (4, _), (5, _)]) dX7_gainsIfTold_83 rfl rfl rfl ?_
    refine wp_iload dX7_gainsIfTold_85 4 rfl ?_
    refine wp_iconst (v := (-1)) dX7_gainsIfTold_87 (by decide) ?_
    refine wp_icmp_ne 95 dX7_gainsIfTold_88 rfl (fun c88 => ?_) (fun c88 => ?_)
    · replace h := o_neg h c88
      refine wp_aload_n dX7_gainsIfTold_95 0 rfl ?_
      refine wp_getR (k := 35) (a' := ad 3) dX7_gainsIfTold_96 flX7_28 rfl rfl rfl rfl rfl ?_
      refine wp_iload dX7_gainsIfTold_99 3 rfl ?_
      refine wp_iload dX7_gainsIfTold_101 4 rfl ?_
      obtain ⟨r103, h103, h⟩ := o_bind h
      refine wp_callvI (k := 3) (ci := 2) (c_X2_worthOf Γ ad ((r2.1 35 8) - (r2.1 3 0)) r80 r2.1 r2.2 r103 h103) dX7_gainsIfTold_103 mlX7_93 mwX2_worthOf miX2_worthOf rfl rfl rfl rfl (Nat.le_of_ble_eq_true rfl) rfl (by decide) (by decide) ?_
      refine wp_aload_n dX7_gainsIfTold_106 0 rfl ?_
      refine wp_iload dX7_gainsIfTold_107 4 rfl ?_
      refine wp_iload dX7_gainsIfTold_109 3 rfl ?_
      refine wp_lload_n dX7_gainsIfTold_111 2 rfl ?_
      obtain ⟨r112, h112, h⟩ := o_bind h
      refine wp_callvI (k := 35) (ci := 7) (c_X7_rulePrice Γ ad r80 ((r2.1 35 8) - (r2.1 3 0)) r6 r2.1 r2.2 r112 h112) dX7_gainsIfTold_112 mlX7_64 mwX7_rulePrice miX7_rulePrice rfl rfl rfl rfl (Nat.le_of_ble_eq_true rfl) rfl (by decide) (by decide) ?_
      refine wp_isub dX7_gainsIfTold_115 ?_
      obtain rfl := Option.some.inj h
      exact wp_ireturn (ty := .int) dX7_gainsIfTold_116 rfl rfl ⟨rfl, rfl, rfl, rfl⟩
    · replace h := o_pos h c88
      refine wp_iconst (v := 0) dX7_gainsIfTold_91 (by decide) ?_
      refine wp_goto 116 dX7_gainsIfTold_92 rfl ?_
      obtain rfl := Option.some.inj h
      exact wp_ireturn (ty := .int) dX7_gainsIfTold_116 rfl rfl ⟨rfl, rfl, rfl, rfl⟩
  · replace h := o_neg h c14
    refine wp_lload_n dX7_gainsIfTold_17 2 rfl ?_
    refine wp_aload_n dX7_gainsIfTold_18 0 rfl ?_
    refine wp_getI (k := 35) dX7_gainsIfTold_19 flX7_75 rfl rfl rfl rfl ?_
    obtain ⟨r22, h22, h⟩ := o_bind h
    refine wp_callsI (c_X7_buyerIn Γ ad r6 (r2.1 35 9) r2.1 r2.2 r22 h22) dX7_gainsIfTold_22 mlX7_101 mwX7_buyerIn miX7_buyerIn rfl (Nat.le_of_ble_eq_true rfl) rfl (by decide) (by decide) ?_
    refine wp_istore (lv' := [(0, _), (1, _), (2, _), (4, _)]) dX7_gainsIfTold_25 rfl rfl rfl ?_
    refine wp_iload dX7_gainsIfTold_27 3 rfl ?_
    refine wp_iconst (v := (-1)) dX7_gainsIfTold_29 (by decide) ?_
    refine wp_icmp_ne 37 dX7_gainsIfTold_30 rfl (fun c30 => ?_) (fun c30 => ?_)
    · replace h := o_neg h c30
      refine wp_aload_n dX7_gainsIfTold_37 0 rfl ?_
      refine wp_aload_n dX7_gainsIfTold_38 0 rfl ?_
      refine wp_getI (k := 35) dX7_gainsIfTold_39 flX7_75 rfl rfl rfl rfl ?_
      refine wp_iload dX7_gainsIfTold_42 3 rfl ?_
      refine wp_lload_n dX7_gainsIfTold_44 2 rfl ?_
      obtain ⟨r45, h45, h⟩ := o_bind h
      refine wp_callvI (k := 35) (ci := 7) (c_X7_rulePrice Γ ad (r2.1 35 9) r22 r6 r2.1 r2.2 r45 h45) dX7_gainsIfTold_45 mlX7_64 mwX7_rulePrice miX7_rulePrice rfl rfl rfl rfl (Nat.le_of_ble_eq_true rfl) rfl (by decide) (by decide) ?_
      refine wp_aload_n dX7_gainsIfTold_48 0 rfl ?_
      refine wp_getR (k := 35) (a' := ad 3) dX7_gainsIfTold_49 flX7_28 rfl rfl rfl rfl rfl ?_
      refine wp_getR (k := 3) (a' := ad 5) dX7_gainsIfTold_52 flX7_85 rfl rfl rfl rfl rfl ?_
      refine wp_aload_n dX7_gainsIfTold_55 0 rfl ?_
      refine wp_getI (k := 35) dX7_gainsIfTold_56 flX7_75 rfl rfl rfl rfl ?_
      obtain ⟨g59, h⟩ := o_grd h
      refine wp_iald (k := 5) dX7_gainsIfTold_59 rfl rfl (inb_of g59) ?_
      refine wp_isub dX7_gainsIfTold_60 ?_
      obtain rfl := Option.some.inj h
      exact wp_ireturn (ty := .int) dX7_gainsIfTold_61 rfl rfl ⟨rfl, rfl, rfl, rfl⟩
    · replace h := o_pos h c30
      refine wp_iconst (v := 0) dX7_gainsIfTold_33 (by decide) ?_
      refine wp_goto 61 dX7_gainsIfTold_34 rfl ?_
      obtain rfl := Option.some.inj h
      exact wp_ireturn (ty := .int) dX7_gainsIfTold_61 rfl rfl ⟨rfl, rfl, rfl, rfl⟩
def f_X7_truth (I : IT) : Option (Int32) :=
  (f_X7_isSeller I).bind fun r1 =>
  if r1 = 0 then
    (f_X2_worthOf ((I 35 8) - (I 3 0)) (I 35 9) I).bind fun r42 =>
    some r42
  else
    if inbB (I 35 9) 14 = true then
      some (I 5 (I 35 9).toNatClampNeg)
    else none
set_option maxRecDepth 100000 in
set_option maxHeartbeats 4000000 in
theorem c_X7_truth (Γ : GT) (ad : Nat → Nat) (I : IT) (J : JT) (r : Int32) (h : f_X7_truth I = some r) : CALL Γ mX7_truth (0, 0) [.ref (ad 35)] (DX ad) I J (QE (some (.int r)) (DX ad) I J) := by
  refine call_of' (by decide) (Nat.le_of_ble_eq_true rfl) (lv0 := [(0, .ref (ad 35))]) rfl ?_
  unfold f_X7_truth at h
  refine wp_aload_n dX7_truth_0 0 rfl ?_
  obtain ⟨r1, h1, h⟩ := o_bind h
  refine wp_callvI (k := 35) (ci := 7) (c_X7_isSeller Γ ad I J r1 h1) dX7_truth_1 mlX7_81 mwX7_isSeller miX7_isSeller rfl rfl rfl rfl (Nat.le_of_ble_eq_true rfl) rfl (by decide) (by decide) ?_
  refine wp_if_eq 22 dX7_truth_4 rfl (fun c4 => ?_) (fun c4 => ?_)
  · replace h := o_pos h c4
    refine wp_aload_n dX7_truth_22 0 rfl ?_
    refine wp_getR (k := 35) (a' := ad 3) dX7_truth_23 flX7_28 rfl rfl rfl rfl rfl ?_
    refine wp_aload_n dX7_truth_26 0 rfl ?_
    refine wp_getI (k := 35) dX7_truth_27 flX7_72 rfl rfl rfl rfl ?_
    refine wp_aload_n dX7_truth_30 0 rfl ?_
    refine wp_getR (k := 35) (a' := ad 3) dX7_truth_31 flX7_28 rfl rfl rfl rfl rfl ?_
    refine wp_getI (k := 3) dX7_truth_34 flX7_90 rfl rfl rfl rfl ?_
    refine wp_isub dX7_truth_37 ?_
    refine wp_aload_n dX7_truth_38 0 rfl ?_
    refine wp_getI (k := 35) dX7_truth_39 flX7_75 rfl rfl rfl rfl ?_
    obtain ⟨r42, h42, h⟩ := o_bind h
    refine wp_callvI (k := 3) (ci := 2) (c_X2_worthOf Γ ad ((I 35 8) - (I 3 0)) (I 35 9) I J r42 h42) dX7_truth_42 mlX7_93 mwX2_worthOf miX2_worthOf rfl rfl rfl rfl (Nat.le_of_ble_eq_true rfl) rfl (by decide) (by decide) ?_
    obtain rfl := Option.some.inj h
    exact wp_ireturn (ty := .int) dX7_truth_45 rfl rfl ⟨rfl, rfl, rfl, rfl⟩
  · replace h := o_neg h c4
    refine wp_aload_n dX7_truth_7 0 rfl ?_
    refine wp_getR (k := 35) (a' := ad 3) dX7_truth_8 flX7_28 rfl rfl rfl rfl rfl ?_
    refine wp_getR (k := 3) (a' := ad 5) dX7_truth_11 flX7_85 rfl rfl rfl rfl rfl ?_
    refine wp_aload_n dX7_truth_14 0 rfl ?_
    refine wp_getI (k := 35) dX7_truth_15 flX7_75 rfl rfl rfl rfl ?_
    obtain ⟨g18, h⟩ := o_grd h
    refine wp_iald (k := 5) dX7_truth_18 rfl rfl (inb_of g18) ?_
    refine wp_goto 45 dX7_truth_19 rfl ?_
    obtain rfl := Option.some.inj h
    exact wp_ireturn (ty := .int) dX7_truth_45 rfl rfl ⟨rfl, rfl, rfl, rfl⟩
def f_X9_lie (a1 : Int32) (a2 : Int32) (a3 : Int32) (a4 : Int32) (I : IT) (J : JT) : Option (Int32 × IT × JT) :=
  (f_X2_dealsIn a2 a3 I).bind fun r6 =>
  if r6 = 0 then
    some ((-1000001), I, J)
  else
    (f_X9_isWithin a1 0 2).bind fun r18 =>
    if r18 = 0 then
      some ((-1000002), I, J)
    else
      (f_X9_isWithin a4 0 999).bind fun r30 =>
      if r30 = 0 then
        some ((-1000002), I, J)
      else
        (f_X7_open a1 a2 a3 I J).bind fun r46 =>
        (f_X7_gainsIfTold a4 r46.1 r46.2).bind fun r55 =>
        (f_X7_truth r55.2.1).bind fun r66 =>
        (f_X7_gainsIfTold r66 r55.2.1 r55.2.2).bind fun r69 =>
        some (r55.1 - r69.1, r69.2.1, r69.2.2)
set_option maxRecDepth 100000 in
set_option maxHeartbeats 4000000 in
theorem c_X9_lie (Γ : GT) (ad : Nat → Nat) (a1 : Int32) (a2 : Int32) (a3 : Int32) (a4 : Int32) (I : IT) (J : JT) (r : Int32 × IT × JT) (h : f_X9_lie a1 a2 a3 a4 I J = some r) : CALL Γ mX9_lie (0, 0) [.ref (ad 0), .int a1, .int a2, .int a3, .int a4] (DX ad) I J (QE (some (.int r.1)) (DX ad) r.2.1 r.2.2) := by
  refine call_of' (by decide) (Nat.le_of_ble_eq_true rfl) (lv0 := [(0, .ref (ad 0)), (1, .int a1), (2, .int a2), (3, .int a3), (4, .int a4)]) rfl ?_
  unfold f_X9_lie at h
  refine wp_aload_n dX9_lie_0 0 rfl ?_
  refine wp_getR (k := 0) (a' := ad 3) dX9_lie_1 flX9_19 rfl rfl rfl rfl rfl ?_
  refine wp_iload_n dX9_lie_4 2 rfl ?_
  refine wp_iload_n dX9_lie_5 3 rfl ?_
  obtain ⟨r6, h6, h⟩ := o_bind h
  refine wp_callvI (k := 3) (ci := 2) (c_X2_dealsIn Γ ad a2 a3 I J r6 h6) dX9_lie_6 mlX9_182 mwX2_dealsIn miX2_dealsIn rfl rfl rfl rfl (Nat.le_of_ble_eq_true rfl) rfl (by decide) (by decide) ?_
  refine wp_if_ne 15 dX9_lie_9 rfl (fun c9 => ?_) (fun c9 => ?_)
  · replace h := o_neg h c9
    refine wp_iload_n dX9_lie_15 1 rfl ?_
    refine wp_iconst (v := 0) dX9_lie_16 (by decide) ?_
    refine wp_iconst (v := 2) dX9_lie_17 (by decide) ?_
    obtain ⟨r18, h18, h⟩ := o_bind h
    refine wp_callsI (c_X9_isWithin Γ ad a1 0 2 I J r18 h18) dX9_lie_18 mlX9_90 mwX9_isWithin miX9_isWithin rfl (Nat.le_of_ble_eq_true rfl) rfl (by decide) (by decide) ?_
    refine wp_if_eq 36 dX9_lie_21 rfl (fun c21 => ?_) (fun c21 => ?_)
    · replace h := o_pos h c21
      refine wp_ldc (v := (-1000002)) dX9_lie_36 kcX9_94 ?_
      obtain rfl := Option.some.inj h
      exact wp_ireturn (ty := .int) dX9_lie_38 rfl rfl ⟨rfl, rfl, rfl, rfl⟩
    · replace h := o_neg h c21
      refine wp_iload dX9_lie_24 4 rfl ?_
      refine wp_iconst (v := 0) dX9_lie_26 (by decide) ?_
      refine wp_sipush (v := 999) dX9_lie_27 (by decide) ?_
      obtain ⟨r30, h30, h⟩ := o_bind h
      refine wp_callsI (c_X9_isWithin Γ ad a4 0 999 I J r30 h30) dX9_lie_30 mlX9_90 mwX9_isWithin miX9_isWithin rfl (Nat.le_of_ble_eq_true rfl) rfl (by decide) (by decide) ?_
      refine wp_if_ne 39 dX9_lie_33 rfl (fun c33 => ?_) (fun c33 => ?_)
      · replace h := o_neg h c33
        refine wp_aload_n dX9_lie_39 0 rfl ?_
        refine wp_getR (k := 0) (a' := ad 35) dX9_lie_40 flX9_52 rfl rfl rfl rfl rfl ?_
        refine wp_iload_n dX9_lie_43 1 rfl ?_
        refine wp_iload_n dX9_lie_44 2 rfl ?_
        refine wp_iload_n dX9_lie_45 3 rfl ?_
        obtain ⟨r46, h46, h⟩ := o_bind h
        refine wp_callvV (k := 35) (ci := 7) (c_X7_open Γ ad a1 a2 a3 I J r46 h46) dX9_lie_46 mlX9_269 mwX7_open miX7_open rfl rfl rfl rfl (Nat.le_of_ble_eq_true rfl) rfl (by decide) (by decide) ?_
        refine wp_aload_n dX9_lie_49 0 rfl ?_
        refine wp_getR (k := 0) (a' := ad 35) dX9_lie_50 flX9_52 rfl rfl rfl rfl rfl ?_
        refine wp_iload dX9_lie_53 4 rfl ?_
        obtain ⟨r55, h55, h⟩ := o_bind h
        refine wp_callvI (k := 35) (ci := 7) (c_X7_gainsIfTold Γ ad a4 r46.1 r46.2 r55 h55) dX9_lie_55 mlX9_272 mwX7_gainsIfTold miX7_gainsIfTold rfl rfl rfl rfl (Nat.le_of_ble_eq_true rfl) rfl (by decide) (by decide) ?_
        refine wp_aload_n dX9_lie_58 0 rfl ?_
        refine wp_getR (k := 0) (a' := ad 35) dX9_lie_59 flX9_52 rfl rfl rfl rfl rfl ?_
        refine wp_aload_n dX9_lie_62 0 rfl ?_
        refine wp_getR (k := 0) (a' := ad 35) dX9_lie_63 flX9_52 rfl rfl rfl rfl rfl ?_
        obtain ⟨r66, h66, h⟩ := o_bind h
        refine wp_callvI (k := 35) (ci := 7) (c_X7_truth Γ ad r55.2.1 r55.2.2 r66 h66) dX9_lie_66 mlX9_275 mwX7_truth miX7_truth rfl rfl rfl rfl (Nat.le_of_ble_eq_true rfl) rfl (by decide) (by decide) ?_
        obtain ⟨r69, h69, h⟩ := o_bind h
        refine wp_callvI (k := 35) (ci := 7) (c_X7_gainsIfTold Γ ad r66 r55.2.1 r55.2.2 r69 h69) dX9_lie_69 mlX9_272 mwX7_gainsIfTold miX7_gainsIfTold rfl rfl rfl rfl (Nat.le_of_ble_eq_true rfl) rfl (by decide) (by decide) ?_
        refine wp_isub dX9_lie_72 ?_
        obtain rfl := Option.some.inj h
        exact wp_ireturn (ty := .int) dX9_lie_73 rfl rfl ⟨rfl, rfl, rfl, rfl⟩
      · replace h := o_pos h c33
        refine wp_ldc (v := (-1000002)) dX9_lie_36 kcX9_94 ?_
        obtain rfl := Option.some.inj h
        exact wp_ireturn (ty := .int) dX9_lie_38 rfl rfl ⟨rfl, rfl, rfl, rfl⟩
  · replace h := o_pos h c9
    refine wp_ldc (v := (-1000001)) dX9_lie_12 kcX9_155 ?_
    obtain rfl := Option.some.inj h
    exact wp_ireturn (ty := .int) dX9_lie_14 rfl rfl ⟨rfl, rfl, rfl, rfl⟩
def f_X9_bestLie_63 : Nat → Int32 → Int32 → Int32 → Int32 → IT → JT → Option (Int32 × IT × JT)
  | 0, _, _, _, _, _, _ => none
  | n + 1, v4, v5, v6, v7, I, J =>
    if (999 : Int32) < v7 then
      if v4 = 0 then
        some (v5, I, J)
      else
        (f_X7_truth I).bind fun r123 =>
        (f_X7_gainsIfTold r123 I J).bind fun r126 =>
        some (v6 - r126.1, r126.2.1, r126.2.2)
    else
      (f_X7_gainsIfTold v7 I J).bind fun r77 =>
      if r77.1 ≤ v6 then
        f_X9_bestLie_63 n v4 v5 v6 (v7 + 1) r77.2.1 r77.2.2
      else
        f_X9_bestLie_63 n v4 v7 r77.1 (v7 + 1) r77.2.1 r77.2.2
def f_X9_bestLie (a1 : Int32) (a2 : Int32) (a3 : Int32) (a4 : Int32) (I : IT) (J : JT) : Option (Int32 × IT × JT) :=
  (f_X2_dealsIn a2 a3 I).bind fun r6 =>
  if r6 = 0 then
    some ((-1000001), I, J)
  else
    (f_X9_isWithin a1 0 2).bind fun r18 =>
    if r18 = 0 then
      some ((-1000002), I, J)
    else
      (f_X9_isWithin a4 0 1).bind fun r28 =>
      if r28 = 0 then
        some ((-1000002), I, J)
      else
        (f_X7_open a1 a2 a3 I J).bind fun r44 =>
        (f_X7_gainsIfTold 0 r44.1 r44.2).bind fun r55 =>
        f_X9_bestLie_63 FU a4 0 r55.1 1 r55.2.1 r55.2.2
set_option maxRecDepth 100000 in
set_option maxHeartbeats 4000000 in
theorem w_X9_bestLie_63 (Γ : GT) (ad : Nat → Nat) : ∀ (n : Nat) (v4 : Int32) (v5 : Int32) (v6 : Int32) (v7 : Int32) (I : IT) (J : JT) (r : Int32 × IT × JT), f_X9_bestLie_63 n v4 v5 v6 v7 I J = some r → WP Γ mX9_bestLie (0, 0) 63 [(0, .ref (ad 0)), (4, .int v4), (5, .int v5), (6, .int v6), (7, .int v7)] [] (DX ad) I J (QE (some (.int r.1)) (DX ad) r.2.1 r.2.2) := by
  intro n
  induction n with
  | zero => intro v4 v5 v6 v7 I J r h; exact absurd h (by simp [f_X9_bestLie_63])
  | succ n ih =>
    intro v4 v5 v6 v7 I J r h
    rw [f_X9_bestLie_63] at h
    refine wp_iload dX9_bestLie_63 4 rfl ?_
    refine wp_sipush (v := 999) dX9_bestLie_65 (by decide) ?_
    refine wp_icmp_gt 103 dX9_bestLie_68 rfl (fun c68 => ?_) (fun c68 => ?_)
    · replace h := o_pos h c68
      refine wp_iload dX9_bestLie_103 1 rfl ?_
      refine wp_if_ne 113 dX9_bestLie_105 rfl (fun c105 => ?_) (fun c105 => ?_)
      · replace h := o_neg h c105
        refine wp_iload dX9_bestLie_113 3 rfl ?_
        refine wp_aload_n dX9_bestLie_115 0 rfl ?_
        refine wp_getR (k := 0) (a' := ad 35) dX9_bestLie_116 flX9_52 rfl rfl rfl rfl rfl ?_
        refine wp_aload_n dX9_bestLie_119 0 rfl ?_
        refine wp_getR (k := 0) (a' := ad 35) dX9_bestLie_120 flX9_52 rfl rfl rfl rfl rfl ?_
        obtain ⟨r123, h123, h⟩ := o_bind h
        refine wp_callvI (k := 35) (ci := 7) (c_X7_truth Γ ad I J r123 h123) dX9_bestLie_123 mlX9_275 mwX7_truth miX7_truth rfl rfl rfl rfl (Nat.le_of_ble_eq_true rfl) rfl (by decide) (by decide) ?_
        obtain ⟨r126, h126, h⟩ := o_bind h
        refine wp_callvI (k := 35) (ci := 7) (c_X7_gainsIfTold Γ ad r123 I J r126 h126) dX9_bestLie_126 mlX9_272 mwX7_gainsIfTold miX7_gainsIfTold rfl rfl rfl rfl (Nat.le_of_ble_eq_true rfl) rfl (by decide) (by decide) ?_
        refine wp_isub dX9_bestLie_129 ?_
        obtain rfl := Option.some.inj h
        exact wp_ireturn (ty := .int) dX9_bestLie_130 rfl rfl ⟨rfl, rfl, rfl, rfl⟩
      · replace h := o_pos h c105
        refine wp_iload dX9_bestLie_108 2 rfl ?_
        refine wp_goto 130 dX9_bestLie_110 rfl ?_
        obtain rfl := Option.some.inj h
        exact wp_ireturn (ty := .int) dX9_bestLie_130 rfl rfl ⟨rfl, rfl, rfl, rfl⟩
    · replace h := o_neg h c68
      refine wp_aload_n dX9_bestLie_71 0 rfl ?_
      refine wp_getR (k := 0) (a' := ad 35) dX9_bestLie_72 flX9_52 rfl rfl rfl rfl rfl ?_
      refine wp_iload dX9_bestLie_75 4 rfl ?_
      obtain ⟨r77, h77, h⟩ := o_bind h
      refine wp_callvI (k := 35) (ci := 7) (c_X7_gainsIfTold Γ ad v7 I J r77 h77) dX9_bestLie_77 mlX9_272 mwX7_gainsIfTold miX7_gainsIfTold rfl rfl rfl rfl (Nat.le_of_ble_eq_true rfl) rfl (by decide) (by decide) ?_
      refine wp_istore (lv' := [(0, _), (4, _), (5, _), (6, _), (7, _), (8, _)]) dX9_bestLie_80 rfl rfl rfl ?_
      refine wp_iload dX9_bestLie_82 5 rfl ?_
      refine wp_iload dX9_bestLie_84 3 rfl ?_
      refine wp_icmp_le 97 dX9_bestLie_86 rfl (fun c86 => ?_) (fun c86 => ?_)
      · replace h := o_pos h c86
        refine wp_iinc (v := v7 + 1) (lv' := [(0, _), (4, _), (5, _), (6, _), (7, _), (8, _)]) dX9_bestLie_97 4 rfl rfl rfl rfl rfl ?_
        refine wp_goto 63 dX9_bestLie_100 rfl ?_
        refine wp_pick [0, 1, 2, 3, 4] (lv' := [(0, _), (4, _), (5, _), (6, _), (7, _)]) rfl ?_
        exact ih v4 v5 v6 (v7 + 1) r77.2.1 r77.2.2 r h
      · replace h := o_neg h c86
        refine wp_iload dX9_bestLie_89 5 rfl ?_
        refine wp_istore (lv' := [(0, _), (4, _), (5, _), (6, _), (7, _), (8, _)]) dX9_bestLie_91 rfl rfl rfl ?_
        refine wp_iload dX9_bestLie_93 4 rfl ?_
        refine wp_istore (lv' := [(0, _), (4, _), (5, _), (6, _), (7, _), (8, _)]) dX9_bestLie_95 rfl rfl rfl ?_
        refine wp_iinc (v := v7 + 1) (lv' := [(0, _), (4, _), (5, _), (6, _), (7, _), (8, _)]) dX9_bestLie_97 4 rfl rfl rfl rfl rfl ?_
        refine wp_goto 63 dX9_bestLie_100 rfl ?_
        refine wp_pick [0, 1, 2, 3, 4] (lv' := [(0, _), (4, _), (5, _), (6, _), (7, _)]) rfl ?_
        exact ih v4 v7 r77.1 (v7 + 1) r77.2.1 r77.2.2 r h
set_option maxRecDepth 100000 in
set_option maxHeartbeats 4000000 in
theorem c_X9_bestLie (Γ : GT) (ad : Nat → Nat) (a1 : Int32) (a2 : Int32) (a3 : Int32) (a4 : Int32) (I : IT) (J : JT) (r : Int32 × IT × JT) (h : f_X9_bestLie a1 a2 a3 a4 I J = some r) : CALL Γ mX9_bestLie (0, 0) [.ref (ad 0), .int a1, .int a2, .int a3, .int a4] (DX ad) I J (QE (some (.int r.1)) (DX ad) r.2.1 r.2.2) := by
  refine call_of' (by decide) (Nat.le_of_ble_eq_true rfl) (lv0 := [(0, .ref (ad 0)), (1, .int a1), (2, .int a2), (3, .int a3), (4, .int a4)]) rfl ?_
  unfold f_X9_bestLie at h
  refine wp_aload_n dX9_bestLie_0 0 rfl ?_
  refine wp_getR (k := 0) (a' := ad 3) dX9_bestLie_1 flX9_19 rfl rfl rfl rfl rfl ?_
  refine wp_iload_n dX9_bestLie_4 2 rfl ?_
  refine wp_iload_n dX9_bestLie_5 3 rfl ?_
  obtain ⟨r6, h6, h⟩ := o_bind h
  refine wp_callvI (k := 3) (ci := 2) (c_X2_dealsIn Γ ad a2 a3 I J r6 h6) dX9_bestLie_6 mlX9_182 mwX2_dealsIn miX2_dealsIn rfl rfl rfl rfl (Nat.le_of_ble_eq_true rfl) rfl (by decide) (by decide) ?_
  refine wp_if_ne 15 dX9_bestLie_9 rfl (fun c9 => ?_) (fun c9 => ?_)
  · replace h := o_neg h c9
    refine wp_iload_n dX9_bestLie_15 1 rfl ?_
    refine wp_iconst (v := 0) dX9_bestLie_16 (by decide) ?_
    refine wp_iconst (v := 2) dX9_bestLie_17 (by decide) ?_
    obtain ⟨r18, h18, h⟩ := o_bind h
    refine wp_callsI (c_X9_isWithin Γ ad a1 0 2 I J r18 h18) dX9_bestLie_18 mlX9_90 mwX9_isWithin miX9_isWithin rfl (Nat.le_of_ble_eq_true rfl) rfl (by decide) (by decide) ?_
    refine wp_if_eq 34 dX9_bestLie_21 rfl (fun c21 => ?_) (fun c21 => ?_)
    · replace h := o_pos h c21
      refine wp_ldc (v := (-1000002)) dX9_bestLie_34 kcX9_94 ?_
      obtain rfl := Option.some.inj h
      exact wp_ireturn (ty := .int) dX9_bestLie_36 rfl rfl ⟨rfl, rfl, rfl, rfl⟩
    · replace h := o_neg h c21
      refine wp_iload dX9_bestLie_24 4 rfl ?_
      refine wp_iconst (v := 0) dX9_bestLie_26 (by decide) ?_
      refine wp_iconst (v := 1) dX9_bestLie_27 (by decide) ?_
      obtain ⟨r28, h28, h⟩ := o_bind h
      refine wp_callsI (c_X9_isWithin Γ ad a4 0 1 I J r28 h28) dX9_bestLie_28 mlX9_90 mwX9_isWithin miX9_isWithin rfl (Nat.le_of_ble_eq_true rfl) rfl (by decide) (by decide) ?_
      refine wp_if_ne 37 dX9_bestLie_31 rfl (fun c31 => ?_) (fun c31 => ?_)
      · replace h := o_neg h c31
        refine wp_aload_n dX9_bestLie_37 0 rfl ?_
        refine wp_getR (k := 0) (a' := ad 35) dX9_bestLie_38 flX9_52 rfl rfl rfl rfl rfl ?_
        refine wp_iload_n dX9_bestLie_41 1 rfl ?_
        refine wp_iload_n dX9_bestLie_42 2 rfl ?_
        refine wp_iload_n dX9_bestLie_43 3 rfl ?_
        obtain ⟨r44, h44, h⟩ := o_bind h
        refine wp_callvV (k := 35) (ci := 7) (c_X7_open Γ ad a1 a2 a3 I J r44 h44) dX9_bestLie_44 mlX9_269 mwX7_open miX7_open rfl rfl rfl rfl (Nat.le_of_ble_eq_true rfl) rfl (by decide) (by decide) ?_
        refine wp_iconst (v := 0) dX9_bestLie_47 (by decide) ?_
        refine wp_istore (lv' := [(0, _), (1, _), (2, _), (3, _), (4, _), (5, _)]) dX9_bestLie_48 rfl rfl rfl ?_
        refine wp_aload_n dX9_bestLie_50 0 rfl ?_
        refine wp_getR (k := 0) (a' := ad 35) dX9_bestLie_51 flX9_52 rfl rfl rfl rfl rfl ?_
        refine wp_iconst (v := 0) dX9_bestLie_54 (by decide) ?_
        obtain ⟨r55, h55, h⟩ := o_bind h
        refine wp_callvI (k := 35) (ci := 7) (c_X7_gainsIfTold Γ ad 0 r44.1 r44.2 r55 h55) dX9_bestLie_55 mlX9_272 mwX7_gainsIfTold miX7_gainsIfTold rfl rfl rfl rfl (Nat.le_of_ble_eq_true rfl) rfl (by decide) (by decide) ?_
        refine wp_istore (lv' := [(0, _), (1, _), (2, _), (3, _), (4, _), (5, _), (6, _)]) dX9_bestLie_58 rfl rfl rfl ?_
        refine wp_iconst (v := 1) dX9_bestLie_60 (by decide) ?_
        refine wp_istore (lv' := [(0, _), (1, _), (2, _), (3, _), (4, _), (5, _), (6, _), (7, _)]) dX9_bestLie_61 rfl rfl rfl ?_
        refine wp_pick [0, 4, 5, 6, 7] (lv' := [(0, _), (4, _), (5, _), (6, _), (7, _)]) rfl ?_
        exact w_X9_bestLie_63 Γ ad FU a4 0 r55.1 1 r55.2.1 r55.2.2 r h
      · replace h := o_pos h c31
        refine wp_ldc (v := (-1000002)) dX9_bestLie_34 kcX9_94 ?_
        obtain rfl := Option.some.inj h
        exact wp_ireturn (ty := .int) dX9_bestLie_36 rfl rfl ⟨rfl, rfl, rfl, rfl⟩
  · replace h := o_pos h c9
    refine wp_ldc (v := (-1000001)) dX9_bestLie_12 kcX9_155 ?_
    obtain rfl := Option.some.inj h
    exact wp_ireturn (ty := .int) dX9_bestLie_14 rfl rfl ⟨rfl, rfl, rfl, rfl⟩
def f_X8_note (a1 : Int32) (a2 : Int32) (a3 : Int32) (a4 : Int32) (I : IT) : Option (IT) :=
  if (10 : Int32) ≤ (I 41 0) then
    some I
  else
    if inbB (I 41 0) 10 = true then
      if inbB ((upI I 42 ((I 41 0).toNatClampNeg) a1) 41 0) 10 = true then
        if inbB ((upI (upI I 42 ((I 41 0).toNatClampNeg) a1) 43 (((upI I 42 ((I 41 0).toNatClampNeg) a1) 41 0).toNatClampNeg) a2) 41 0) 10 = true then
          (some (upI (upI (upI I 42 ((I 41 0).toNatClampNeg) a1) 43 (((upI I 42 ((I 41 0).toNatClampNeg) a1) 41 0).toNatClampNeg) a2) 44 (((upI (upI I 42 ((I 41 0).toNatClampNeg) a1) 43 (((upI I 42 ((I 41 0).toNatClampNeg) a1) 41 0).toNatClampNeg) a2) 41 0).toNatClampNeg) a3)).bind fun i38 =>
          if inbB (i38 41 0) 10 = true then
            some (upI (upI i38 45 ((i38 41 0).toNatClampNeg) (vp_nar .boolean a4)) 41 0 (((upI i38 45 ((i38 41 0).toNatClampNeg) (vp_nar .boolean a4)) 41 0) + 1))
          else none
        else none
      else none
    else none
set_option maxRecDepth 100000 in
set_option maxHeartbeats 4000000 in
theorem c_X8_note (Γ : GT) (ad : Nat → Nat) (a1 : Int32) (a2 : Int32) (a3 : Int32) (a4 : Int32) (I : IT) (J : JT) (r : IT) (h : f_X8_note a1 a2 a3 a4 I = some r) : CALL Γ mX8_note (0, 0) [.ref (ad 41), .int a1, .int a2, .int a3, .int a4] (DX ad) I J (QE none (DX ad) r J) := by
  refine call_of' (by decide) (Nat.le_of_ble_eq_true rfl) (lv0 := [(0, .ref (ad 41)), (1, .int a1), (2, .int a2), (3, .int a3), (4, .int a4)]) rfl ?_
  unfold f_X8_note at h
  refine wp_aload_n dX8_note_0 0 rfl ?_
  refine wp_getI (k := 41) dX8_note_1 flX8_25 rfl rfl rfl rfl ?_
  refine wp_bipush (v := 10) dX8_note_4 (by decide) ?_
  refine wp_icmp_ge 60 dX8_note_6 rfl (fun c6 => ?_) (fun c6 => ?_)
  · replace h := o_pos h c6
    obtain rfl := Option.some.inj h
    exact wp_return dX8_note_60 rfl ⟨rfl, rfl, rfl, rfl⟩
  · replace h := o_neg h c6
    refine wp_aload_n dX8_note_9 0 rfl ?_
    refine wp_getR (k := 41) (a' := ad 42) dX8_note_10 flX8_9 rfl rfl rfl rfl rfl ?_
    refine wp_aload_n dX8_note_13 0 rfl ?_
    refine wp_getI (k := 41) dX8_note_14 flX8_25 rfl rfl rfl rfl ?_
    refine wp_iload_n dX8_note_17 1 rfl ?_
    obtain ⟨g18, h⟩ := o_grd h
    refine wp_iast (k := 42) dX8_note_18 rfl rfl (inb_of g18) ?_
    refine wp_aload_n dX8_note_19 0 rfl ?_
    refine wp_getR (k := 41) (a' := ad 43) dX8_note_20 flX8_15 rfl rfl rfl rfl rfl ?_
    refine wp_aload_n dX8_note_23 0 rfl ?_
    refine wp_getI (k := 41) dX8_note_24 flX8_25 rfl rfl rfl rfl ?_
    refine wp_iload_n dX8_note_27 2 rfl ?_
    obtain ⟨g28, h⟩ := o_grd h
    refine wp_iast (k := 43) dX8_note_28 rfl rfl (inb_of g28) ?_
    refine wp_aload_n dX8_note_29 0 rfl ?_
    refine wp_getR (k := 41) (a' := ad 44) dX8_note_30 flX8_18 rfl rfl rfl rfl rfl ?_
    refine wp_aload_n dX8_note_33 0 rfl ?_
    refine wp_getI (k := 41) dX8_note_34 flX8_25 rfl rfl rfl rfl ?_
    refine wp_iload_n dX8_note_37 3 rfl ?_
    obtain ⟨g38, h⟩ := o_grd h
    obtain ⟨i38, e38, h⟩ := o_bind h
    refine wp_iast (k := 44) dX8_note_38 rfl rfl (inb_of g38) ?_
    refine wp_stI (Option.some.inj e38) ?_
    refine wp_aload_n dX8_note_39 0 rfl ?_
    refine wp_getR (k := 41) (a' := ad 45) dX8_note_40 flX8_21 rfl rfl rfl rfl rfl ?_
    refine wp_aload_n dX8_note_43 0 rfl ?_
    refine wp_getI (k := 41) dX8_note_44 flX8_25 rfl rfl rfl rfl ?_
    refine wp_iload dX8_note_47 4 rfl ?_
    obtain ⟨g49, h⟩ := o_grd h
    refine wp_zast (k := 45) dX8_note_49 rfl rfl (inb_of g49) ?_
    refine wp_aload_n dX8_note_50 0 rfl ?_
    refine wp_dup dX8_note_51 rfl ?_
    refine wp_getI (k := 41) dX8_note_52 flX8_25 rfl rfl rfl rfl ?_
    refine wp_iconst (v := 1) dX8_note_55 (by decide) ?_
    refine wp_iadd dX8_note_56 ?_
    refine wp_putI (k := 41) dX8_note_57 flX8_25 rfl rfl rfl rfl rfl rfl rfl rfl ?_
    obtain rfl := Option.some.inj h
    exact wp_return dX8_note_60 rfl ⟨rfl, rfl, rfl, rfl⟩
def f_X9_seen (a1 : Int32) (a2 : Int32) (a3 : Int32) (a4 : Int32) (I : IT) : Option (Int32 × IT) :=
  (f_X2_hasLot a1 I).bind fun r5 =>
  if r5 = 0 then
    some ((-1000001), I)
  else
    (f_X9_isWithin a2 0 60).bind fun r18 =>
    if r18 = 0 then
      some ((-1000002), I)
    else
      (f_X9_isWithin a3 0 9).bind fun r28 =>
      if r28 = 0 then
        some ((-1000002), I)
      else
        if (I 41 0) < (10 : Int32) then
          (f_X8_note a1 a2 a3 a4 I).bind fun r61 =>
          some ((upI r61 46 2 1) 41 0, upI r61 46 2 1)
        else
          some ((-1000004), I)
set_option maxRecDepth 100000 in
set_option maxHeartbeats 4000000 in
theorem c_X9_seen (Γ : GT) (ad : Nat → Nat) (a1 : Int32) (a2 : Int32) (a3 : Int32) (a4 : Int32) (I : IT) (J : JT) (r : Int32 × IT) (h : f_X9_seen a1 a2 a3 a4 I = some r) : CALL Γ mX9_seen (0, 0) [.ref (ad 0), .int a1, .int a2, .int a3, .int a4] (DX ad) I J (QE (some (.int r.1)) (DX ad) r.2 J) := by
  refine call_of' (by decide) (Nat.le_of_ble_eq_true rfl) (lv0 := [(0, .ref (ad 0)), (1, .int a1), (2, .int a2), (3, .int a3), (4, .int a4)]) rfl ?_
  unfold f_X9_seen at h
  refine wp_aload_n dX9_seen_0 0 rfl ?_
  refine wp_getR (k := 0) (a' := ad 3) dX9_seen_1 flX9_19 rfl rfl rfl rfl rfl ?_
  refine wp_iload_n dX9_seen_4 1 rfl ?_
  obtain ⟨r5, h5, h⟩ := o_bind h
  refine wp_callvI (k := 3) (ci := 2) (c_X2_hasLot Γ ad a1 I J r5 h5) dX9_seen_5 mlX9_176 mwX2_hasLot miX2_hasLot rfl rfl rfl rfl (Nat.le_of_ble_eq_true rfl) rfl (by decide) (by decide) ?_
  refine wp_if_ne 14 dX9_seen_8 rfl (fun c8 => ?_) (fun c8 => ?_)
  · replace h := o_neg h c8
    refine wp_iload_n dX9_seen_14 2 rfl ?_
    refine wp_iconst (v := 0) dX9_seen_15 (by decide) ?_
    refine wp_bipush (v := 60) dX9_seen_16 (by decide) ?_
    obtain ⟨r18, h18, h⟩ := o_bind h
    refine wp_callsI (c_X9_isWithin Γ ad a2 0 60 I J r18 h18) dX9_seen_18 mlX9_90 mwX9_isWithin miX9_isWithin rfl (Nat.le_of_ble_eq_true rfl) rfl (by decide) (by decide) ?_
    refine wp_if_eq 34 dX9_seen_21 rfl (fun c21 => ?_) (fun c21 => ?_)
    · replace h := o_pos h c21
      refine wp_ldc (v := (-1000002)) dX9_seen_34 kcX9_94 ?_
      obtain rfl := Option.some.inj h
      exact wp_ireturn (ty := .int) dX9_seen_36 rfl rfl ⟨rfl, rfl, rfl, rfl⟩
    · replace h := o_neg h c21
      refine wp_iload_n dX9_seen_24 3 rfl ?_
      refine wp_iconst (v := 0) dX9_seen_25 (by decide) ?_
      refine wp_bipush (v := 9) dX9_seen_26 (by decide) ?_
      obtain ⟨r28, h28, h⟩ := o_bind h
      refine wp_callsI (c_X9_isWithin Γ ad a3 0 9 I J r28 h28) dX9_seen_28 mlX9_90 mwX9_isWithin miX9_isWithin rfl (Nat.le_of_ble_eq_true rfl) rfl (by decide) (by decide) ?_
      refine wp_if_ne 37 dX9_seen_31 rfl (fun c31 => ?_) (fun c31 => ?_)
      · replace h := o_neg h c31
        refine wp_aload_n dX9_seen_37 0 rfl ?_
        refine wp_getR (k := 0) (a' := ad 41) dX9_seen_38 flX9_59 rfl rfl rfl rfl rfl ?_
        refine wp_getI (k := 41) dX9_seen_41 flX9_119 rfl rfl rfl rfl ?_
        refine wp_bipush (v := 10) dX9_seen_44 (by decide) ?_
        refine wp_icmp_lt 52 dX9_seen_46 rfl (fun c46 => ?_) (fun c46 => ?_)
        · replace h := o_pos h c46
          refine wp_aload_n dX9_seen_52 0 rfl ?_
          refine wp_getR (k := 0) (a' := ad 41) dX9_seen_53 flX9_59 rfl rfl rfl rfl rfl ?_
          refine wp_iload_n dX9_seen_56 1 rfl ?_
          refine wp_iload_n dX9_seen_57 2 rfl ?_
          refine wp_iload_n dX9_seen_58 3 rfl ?_
          refine wp_iload dX9_seen_59 4 rfl ?_
          obtain ⟨r61, h61, h⟩ := o_bind h
          refine wp_callvV (k := 41) (ci := 8) (c_X8_note Γ ad a1 a2 a3 a4 I J r61 h61) dX9_seen_61 mlX9_278 mwX8_note miX8_note rfl rfl rfl rfl (Nat.le_of_ble_eq_true rfl) rfl (by decide) (by decide) ?_
          refine wp_aload_n dX9_seen_64 0 rfl ?_
          refine wp_getR (k := 0) (a' := ad 46) dX9_seen_65 flX9_68 rfl rfl rfl rfl rfl ?_
          refine wp_iconst (v := 1) dX9_seen_68 (by decide) ?_
          refine wp_putI (k := 46) dX9_seen_69 flX9_122 rfl rfl rfl rfl rfl rfl rfl rfl ?_
          refine wp_aload_n dX9_seen_72 0 rfl ?_
          refine wp_getR (k := 0) (a' := ad 41) dX9_seen_73 flX9_59 rfl rfl rfl rfl rfl ?_
          refine wp_getI (k := 41) dX9_seen_76 flX9_119 rfl rfl rfl rfl ?_
          obtain rfl := Option.some.inj h
          exact wp_ireturn (ty := .int) dX9_seen_79 rfl rfl ⟨rfl, rfl, rfl, rfl⟩
        · replace h := o_neg h c46
          refine wp_ldc (v := (-1000004)) dX9_seen_49 kcX9_98 ?_
          obtain rfl := Option.some.inj h
          exact wp_ireturn (ty := .int) dX9_seen_51 rfl rfl ⟨rfl, rfl, rfl, rfl⟩
      · replace h := o_pos h c31
        refine wp_ldc (v := (-1000002)) dX9_seen_34 kcX9_94 ?_
        obtain rfl := Option.some.inj h
        exact wp_ireturn (ty := .int) dX9_seen_36 rfl rfl ⟨rfl, rfl, rfl, rfl⟩
  · replace h := o_pos h c8
    refine wp_ldc (v := (-1000001)) dX9_seen_11 kcX9_155 ?_
    obtain rfl := Option.some.inj h
    exact wp_ireturn (ty := .int) dX9_seen_13 rfl rfl ⟨rfl, rfl, rfl, rfl⟩
def f_X9_forget (I : IT) : Option (Int32 × IT) :=
  some (I 41 0, upI (upI I 41 0 0) 46 2 1)
set_option maxRecDepth 100000 in
set_option maxHeartbeats 4000000 in
theorem c_X9_forget (Γ : GT) (ad : Nat → Nat) (I : IT) (J : JT) (r : Int32 × IT) (h : f_X9_forget I = some r) : CALL Γ mX9_forget (0, 0) [.ref (ad 0)] (DX ad) I J (QE (some (.int r.1)) (DX ad) r.2 J) := by
  refine call_of' (by decide) (Nat.le_of_ble_eq_true rfl) (lv0 := [(0, .ref (ad 0))]) rfl ?_
  unfold f_X9_forget at h
  refine wp_aload_n dX9_forget_0 0 rfl ?_
  refine wp_getR (k := 0) (a' := ad 41) dX9_forget_1 flX9_59 rfl rfl rfl rfl rfl ?_
  refine wp_getI (k := 41) dX9_forget_4 flX9_119 rfl rfl rfl rfl ?_
  refine wp_istore_n (lv' := [(0, _), (1, _)]) dX9_forget_7 rfl rfl rfl rfl ?_
  refine wp_aload_n dX9_forget_8 0 rfl ?_
  refine wp_getR (k := 0) (a' := ad 41) dX9_forget_9 flX9_59 rfl rfl rfl rfl rfl ?_
  refine wp_iconst (v := 0) dX9_forget_12 (by decide) ?_
  refine wp_putI (k := 41) dX9_forget_13 flX9_119 rfl rfl rfl rfl rfl rfl rfl rfl ?_
  refine wp_aload_n dX9_forget_16 0 rfl ?_
  refine wp_getR (k := 0) (a' := ad 46) dX9_forget_17 flX9_68 rfl rfl rfl rfl rfl ?_
  refine wp_iconst (v := 1) dX9_forget_20 (by decide) ?_
  refine wp_putI (k := 46) dX9_forget_21 flX9_122 rfl rfl rfl rfl rfl rfl rfl rfl ?_
  refine wp_iload_n dX9_forget_24 1 rfl ?_
  obtain rfl := Option.some.inj h
  exact wp_ireturn (ty := .int) dX9_forget_25 rfl rfl ⟨rfl, rfl, rfl, rfl⟩
def f_X8_isNear (a1 : Int32) (a2 : Int32) (I : IT) : Option (Int32) :=
  if inbB a1 10 = true then
    if (I 45 a1.toNatClampNeg) = 0 then
      if inbB a1 10 = true then
        if (I 45 a1.toNatClampNeg) = 0 then
          (f_X9_signsOf a2).bind fun r35 =>
          if inbB a1 10 = true then
            if inbB a1 10 = true then
              if (I 44 a1.toNatClampNeg) < (if 0 ≤ (r35 - (I 43 a1.toNatClampNeg)) then (r35 - (I 43 a1.toNatClampNeg)) else 0 - (r35 - (I 43 a1.toNatClampNeg))) then
                some 0
              else
                some 1
            else none
          else none
        else
          (f_X9_signsOf (a2 / 2)).bind fun r35 =>
          if inbB a1 10 = true then
            if inbB a1 10 = true then
              if (I 44 a1.toNatClampNeg) < (if 0 ≤ (r35 - (I 43 a1.toNatClampNeg)) then (r35 - (I 43 a1.toNatClampNeg)) else 0 - (r35 - (I 43 a1.toNatClampNeg))) then
                some 0
              else
                some 1
            else none
          else none
      else none
    else
      if (a2 - a2 / 2 * 2) = 0 then
        if inbB a1 10 = true then
          if (I 45 a1.toNatClampNeg) = 0 then
            (f_X9_signsOf a2).bind fun r35 =>
            if inbB a1 10 = true then
              if inbB a1 10 = true then
                if (I 44 a1.toNatClampNeg) < (if 0 ≤ (r35 - (I 43 a1.toNatClampNeg)) then (r35 - (I 43 a1.toNatClampNeg)) else 0 - (r35 - (I 43 a1.toNatClampNeg))) then
                  some 0
                else
                  some 1
              else none
            else none
          else
            (f_X9_signsOf (a2 / 2)).bind fun r35 =>
            if inbB a1 10 = true then
              if inbB a1 10 = true then
                if (I 44 a1.toNatClampNeg) < (if 0 ≤ (r35 - (I 43 a1.toNatClampNeg)) then (r35 - (I 43 a1.toNatClampNeg)) else 0 - (r35 - (I 43 a1.toNatClampNeg))) then
                  some 0
                else
                  some 1
              else none
            else none
        else none
      else
        some 0
  else none
set_option maxRecDepth 100000 in
set_option maxHeartbeats 4000000 in
theorem c_X8_isNear (Γ : GT) (ad : Nat → Nat) (a1 : Int32) (a2 : Int32) (I : IT) (J : JT) (r : Int32) (h : f_X8_isNear a1 a2 I = some r) : CALL Γ mX8_isNear (0, 0) [.ref (ad 41), .int a1, .int a2] (DX ad) I J (QE (some (.int r)) (DX ad) I J) := by
  refine call_of' (by decide) (Nat.le_of_ble_eq_true rfl) (lv0 := [(0, .ref (ad 41)), (1, .int a1), (2, .int a2)]) rfl ?_
  unfold f_X8_isNear at h
  refine wp_aload_n dX8_isNear_0 0 rfl ?_
  refine wp_getR (k := 41) (a' := ad 45) dX8_isNear_1 flX8_21 rfl rfl rfl rfl rfl ?_
  refine wp_iload_n dX8_isNear_4 1 rfl ?_
  obtain ⟨g5, h⟩ := o_grd h
  refine wp_zald (k := 45) dX8_isNear_5 rfl rfl (inb_of g5) ?_
  refine wp_if_eq 17 dX8_isNear_6 rfl (fun c6 => ?_) (fun c6 => ?_)
  · replace h := o_pos h c6
    refine wp_aload_n dX8_isNear_17 0 rfl ?_
    refine wp_getR (k := 41) (a' := ad 45) dX8_isNear_18 flX8_21 rfl rfl rfl rfl rfl ?_
    refine wp_iload_n dX8_isNear_21 1 rfl ?_
    obtain ⟨g22, h⟩ := o_grd h
    refine wp_zald (k := 45) dX8_isNear_22 rfl rfl (inb_of g22) ?_
    refine wp_if_eq 32 dX8_isNear_23 rfl (fun c23 => ?_) (fun c23 => ?_)
    · replace h := o_pos h c23
      refine wp_iload_n dX8_isNear_32 2 rfl ?_
      refine wp_istore_n (lv' := [(0, _), (1, _), (2, _), (3, _)]) dX8_isNear_33 rfl rfl rfl rfl ?_
      refine wp_iload_n dX8_isNear_34 3 rfl ?_
      obtain ⟨r35, h35, h⟩ := o_bind h
      refine wp_callsNI (c_X9_signsOf Γ ad a2 I J r35 h35) dX8_isNear_35 mlX8_33 mwX9_signsOf miX9_signsOf rfl (Nat.le_of_ble_eq_true rfl) rfl (by decide) (by decide) ?_
      refine wp_aload_n dX8_isNear_38 0 rfl ?_
      refine wp_getR (k := 41) (a' := ad 43) dX8_isNear_39 flX8_15 rfl rfl rfl rfl rfl ?_
      refine wp_iload_n dX8_isNear_42 1 rfl ?_
      obtain ⟨g43, h⟩ := o_grd h
      refine wp_iald (k := 43) dX8_isNear_43 rfl rfl (inb_of g43) ?_
      refine wp_isub dX8_isNear_44 ?_
      refine wp_mabs dX8_isNear_45 mlX8_37 (by decide) (Nat.le_of_ble_eq_true rfl) ?_
      refine wp_aload_n dX8_isNear_48 0 rfl ?_
      refine wp_getR (k := 41) (a' := ad 44) dX8_isNear_49 flX8_18 rfl rfl rfl rfl rfl ?_
      refine wp_iload_n dX8_isNear_52 1 rfl ?_
      obtain ⟨g53, h⟩ := o_grd h
      refine wp_iald (k := 44) dX8_isNear_53 rfl rfl (inb_of g53) ?_
      refine wp_icmp_gt 61 dX8_isNear_54 rfl (fun c54 => ?_) (fun c54 => ?_)
      · replace h := o_pos h c54
        refine wp_iconst (v := 0) dX8_isNear_61 (by decide) ?_
        obtain rfl := Option.some.inj h
        exact wp_ireturn (ty := .boolean) dX8_isNear_62 rfl rfl ⟨rfl, rfl, rfl, rfl⟩
      · replace h := o_neg h c54
        refine wp_iconst (v := 1) dX8_isNear_57 (by decide) ?_
        refine wp_goto 62 dX8_isNear_58 rfl ?_
        obtain rfl := Option.some.inj h
        exact wp_ireturn (ty := .boolean) dX8_isNear_62 rfl rfl ⟨rfl, rfl, rfl, rfl⟩
    · replace h := o_neg h c23
      refine wp_iload_n dX8_isNear_26 2 rfl ?_
      refine wp_iconst (v := 2) dX8_isNear_27 (by decide) ?_
      refine wp_idiv dX8_isNear_28 (by decide) ?_
      refine wp_goto 33 dX8_isNear_29 rfl ?_
      refine wp_istore_n (lv' := [(0, _), (1, _), (2, _), (3, _)]) dX8_isNear_33 rfl rfl rfl rfl ?_
      refine wp_iload_n dX8_isNear_34 3 rfl ?_
      obtain ⟨r35, h35, h⟩ := o_bind h
      refine wp_callsNI (c_X9_signsOf Γ ad (a2 / 2) I J r35 h35) dX8_isNear_35 mlX8_33 mwX9_signsOf miX9_signsOf rfl (Nat.le_of_ble_eq_true rfl) rfl (by decide) (by decide) ?_
      refine wp_aload_n dX8_isNear_38 0 rfl ?_
      refine wp_getR (k := 41) (a' := ad 43) dX8_isNear_39 flX8_15 rfl rfl rfl rfl rfl ?_
      refine wp_iload_n dX8_isNear_42 1 rfl ?_
      obtain ⟨g43, h⟩ := o_grd h
      refine wp_iald (k := 43) dX8_isNear_43 rfl rfl (inb_of g43) ?_
      refine wp_isub dX8_isNear_44 ?_
      refine wp_mabs dX8_isNear_45 mlX8_37 (by decide) (Nat.le_of_ble_eq_true rfl) ?_
      refine wp_aload_n dX8_isNear_48 0 rfl ?_
      refine wp_getR (k := 41) (a' := ad 44) dX8_isNear_49 flX8_18 rfl rfl rfl rfl rfl ?_
      refine wp_iload_n dX8_isNear_52 1 rfl ?_
      obtain ⟨g53, h⟩ := o_grd h
      refine wp_iald (k := 44) dX8_isNear_53 rfl rfl (inb_of g53) ?_
      refine wp_icmp_gt 61 dX8_isNear_54 rfl (fun c54 => ?_) (fun c54 => ?_)
      · replace h := o_pos h c54
        refine wp_iconst (v := 0) dX8_isNear_61 (by decide) ?_
        obtain rfl := Option.some.inj h
        exact wp_ireturn (ty := .boolean) dX8_isNear_62 rfl rfl ⟨rfl, rfl, rfl, rfl⟩
      · replace h := o_neg h c54
        refine wp_iconst (v := 1) dX8_isNear_57 (by decide) ?_
        refine wp_goto 62 dX8_isNear_58 rfl ?_
        obtain rfl := Option.some.inj h
        exact wp_ireturn (ty := .boolean) dX8_isNear_62 rfl rfl ⟨rfl, rfl, rfl, rfl⟩
  · replace h := o_neg h c6
    refine wp_iload_n dX8_isNear_9 2 rfl ?_
    refine wp_iconst (v := 2) dX8_isNear_10 (by decide) ?_
    refine wp_irem dX8_isNear_11 (by decide) ?_
    refine wp_if_eq 17 dX8_isNear_12 rfl (fun c12 => ?_) (fun c12 => ?_)
    · replace h := o_pos h c12
      refine wp_aload_n dX8_isNear_17 0 rfl ?_
      refine wp_getR (k := 41) (a' := ad 45) dX8_isNear_18 flX8_21 rfl rfl rfl rfl rfl ?_
      refine wp_iload_n dX8_isNear_21 1 rfl ?_
      obtain ⟨g22, h⟩ := o_grd h
      refine wp_zald (k := 45) dX8_isNear_22 rfl rfl (inb_of g22) ?_
      refine wp_if_eq 32 dX8_isNear_23 rfl (fun c23 => ?_) (fun c23 => ?_)
      · replace h := o_pos h c23
        refine wp_iload_n dX8_isNear_32 2 rfl ?_
        refine wp_istore_n (lv' := [(0, _), (1, _), (2, _), (3, _)]) dX8_isNear_33 rfl rfl rfl rfl ?_
        refine wp_iload_n dX8_isNear_34 3 rfl ?_
        obtain ⟨r35, h35, h⟩ := o_bind h
        refine wp_callsNI (c_X9_signsOf Γ ad a2 I J r35 h35) dX8_isNear_35 mlX8_33 mwX9_signsOf miX9_signsOf rfl (Nat.le_of_ble_eq_true rfl) rfl (by decide) (by decide) ?_
        refine wp_aload_n dX8_isNear_38 0 rfl ?_
        refine wp_getR (k := 41) (a' := ad 43) dX8_isNear_39 flX8_15 rfl rfl rfl rfl rfl ?_
        refine wp_iload_n dX8_isNear_42 1 rfl ?_
        obtain ⟨g43, h⟩ := o_grd h
        refine wp_iald (k := 43) dX8_isNear_43 rfl rfl (inb_of g43) ?_
        refine wp_isub dX8_isNear_44 ?_
        refine wp_mabs dX8_isNear_45 mlX8_37 (by decide) (Nat.le_of_ble_eq_true rfl) ?_
        refine wp_aload_n dX8_isNear_48 0 rfl ?_
        refine wp_getR (k := 41) (a' := ad 44) dX8_isNear_49 flX8_18 rfl rfl rfl rfl rfl ?_
        refine wp_iload_n dX8_isNear_52 1 rfl ?_
        obtain ⟨g53, h⟩ := o_grd h
        refine wp_iald (k := 44) dX8_isNear_53 rfl rfl (inb_of g53) ?_
        refine wp_icmp_gt 61 dX8_isNear_54 rfl (fun c54 => ?_) (fun c54 => ?_)
        · replace h := o_pos h c54
          refine wp_iconst (v := 0) dX8_isNear_61 (by decide) ?_
          obtain rfl := Option.some.inj h
          exact wp_ireturn (ty := .boolean) dX8_isNear_62 rfl rfl ⟨rfl, rfl, rfl, rfl⟩
        · replace h := o_neg h c54
          refine wp_iconst (v := 1) dX8_isNear_57 (by decide) ?_
          refine wp_goto 62 dX8_isNear_58 rfl ?_
          obtain rfl := Option.some.inj h
          exact wp_ireturn (ty := .boolean) dX8_isNear_62 rfl rfl ⟨rfl, rfl, rfl, rfl⟩
      · replace h := o_neg h c23
        refine wp_iload_n dX8_isNear_26 2 rfl ?_
        refine wp_iconst (v := 2) dX8_isNear_27 (by decide) ?_
        refine wp_idiv dX8_isNear_28 (by decide) ?_
        refine wp_goto 33 dX8_isNear_29 rfl ?_
        refine wp_istore_n (lv' := [(0, _), (1, _), (2, _), (3, _)]) dX8_isNear_33 rfl rfl rfl rfl ?_
        refine wp_iload_n dX8_isNear_34 3 rfl ?_
        obtain ⟨r35, h35, h⟩ := o_bind h
        refine wp_callsNI (c_X9_signsOf Γ ad (a2 / 2) I J r35 h35) dX8_isNear_35 mlX8_33 mwX9_signsOf miX9_signsOf rfl (Nat.le_of_ble_eq_true rfl) rfl (by decide) (by decide) ?_
        refine wp_aload_n dX8_isNear_38 0 rfl ?_
        refine wp_getR (k := 41) (a' := ad 43) dX8_isNear_39 flX8_15 rfl rfl rfl rfl rfl ?_
        refine wp_iload_n dX8_isNear_42 1 rfl ?_
        obtain ⟨g43, h⟩ := o_grd h
        refine wp_iald (k := 43) dX8_isNear_43 rfl rfl (inb_of g43) ?_
        refine wp_isub dX8_isNear_44 ?_
        refine wp_mabs dX8_isNear_45 mlX8_37 (by decide) (Nat.le_of_ble_eq_true rfl) ?_
        refine wp_aload_n dX8_isNear_48 0 rfl ?_
        refine wp_getR (k := 41) (a' := ad 44) dX8_isNear_49 flX8_18 rfl rfl rfl rfl rfl ?_
        refine wp_iload_n dX8_isNear_52 1 rfl ?_
        obtain ⟨g53, h⟩ := o_grd h
        refine wp_iald (k := 44) dX8_isNear_53 rfl rfl (inb_of g53) ?_
        refine wp_icmp_gt 61 dX8_isNear_54 rfl (fun c54 => ?_) (fun c54 => ?_)
        · replace h := o_pos h c54
          refine wp_iconst (v := 0) dX8_isNear_61 (by decide) ?_
          obtain rfl := Option.some.inj h
          exact wp_ireturn (ty := .boolean) dX8_isNear_62 rfl rfl ⟨rfl, rfl, rfl, rfl⟩
        · replace h := o_neg h c54
          refine wp_iconst (v := 1) dX8_isNear_57 (by decide) ?_
          refine wp_goto 62 dX8_isNear_58 rfl ?_
          obtain rfl := Option.some.inj h
          exact wp_ireturn (ty := .boolean) dX8_isNear_62 rfl rfl ⟨rfl, rfl, rfl, rfl⟩
    · replace h := o_neg h c12
      refine wp_iconst (v := 0) dX8_isNear_15 (by decide) ?_
      obtain rfl := Option.some.inj h
      exact wp_ireturn (ty := .boolean) dX8_isNear_16 rfl rfl ⟨rfl, rfl, rfl, rfl⟩
def f_X8_canBe_2 : Nat → Int32 → Int32 → Int32 → IT → Option (Int32)
  | 0, _, _, _, _ => none
  | n + 1, v1, v2, v3, I =>
    if (I 41 0) ≤ v3 then
      some 1
    else
      if (10 : Int32) ≤ v3 then
        some 1
      else
        if inbB v3 10 = true then
          if (I 42 v3.toNatClampNeg) = v1 then
            (f_X8_isNear v3 v2 I).bind fun r29 =>
            if r29 = 0 then
              some 0
            else
              f_X8_canBe_2 n v1 v2 (v3 + 1) I
          else
            f_X8_canBe_2 n v1 v2 (v3 + 1) I
        else none
def f_X8_canBe (a1 : Int32) (a2 : Int32) (I : IT) : Option (Int32) :=
  f_X8_canBe_2 FU a1 a2 0 I
set_option maxRecDepth 100000 in
set_option maxHeartbeats 4000000 in
theorem w_X8_canBe_2 (Γ : GT) (ad : Nat → Nat) : ∀ (n : Nat) (v1 : Int32) (v2 : Int32) (v3 : Int32) (I : IT) (J : JT) (r : Int32), f_X8_canBe_2 n v1 v2 v3 I = some r → WP Γ mX8_canBe (0, 0) 2 [(0, .ref (ad 41)), (1, .int v1), (2, .int v2), (3, .int v3)] [] (DX ad) I J (QE (some (.int r)) (DX ad) I J) := by
  intro n
  induction n with
  | zero => intro v1 v2 v3 I J r h; exact absurd h (by simp [f_X8_canBe_2])
  | succ n ih =>
    intro v1 v2 v3 I J r h
    rw [f_X8_canBe_2] at h
    refine wp_iload_n dX8_canBe_2 3 rfl ?_
    refine wp_aload_n dX8_canBe_3 0 rfl ?_
    refine wp_getI (k := 41) dX8_canBe_4 flX8_25 rfl rfl rfl rfl ?_
    refine wp_icmp_ge 43 dX8_canBe_7 rfl (fun c7 => ?_) (fun c7 => ?_)
    · replace h := o_pos h c7
      refine wp_iconst (v := 1) dX8_canBe_43 (by decide) ?_
      obtain rfl := Option.some.inj h
      exact wp_ireturn (ty := .boolean) dX8_canBe_44 rfl rfl ⟨rfl, rfl, rfl, rfl⟩
    · replace h := o_neg h c7
      refine wp_iload_n dX8_canBe_10 3 rfl ?_
      refine wp_bipush (v := 10) dX8_canBe_11 (by decide) ?_
      refine wp_icmp_ge 43 dX8_canBe_13 rfl (fun c13 => ?_) (fun c13 => ?_)
      · replace h := o_pos h c13
        refine wp_iconst (v := 1) dX8_canBe_43 (by decide) ?_
        obtain rfl := Option.some.inj h
        exact wp_ireturn (ty := .boolean) dX8_canBe_44 rfl rfl ⟨rfl, rfl, rfl, rfl⟩
      · replace h := o_neg h c13
        refine wp_aload_n dX8_canBe_16 0 rfl ?_
        refine wp_getR (k := 41) (a' := ad 42) dX8_canBe_17 flX8_9 rfl rfl rfl rfl rfl ?_
        refine wp_iload_n dX8_canBe_20 3 rfl ?_
        obtain ⟨g21, h⟩ := o_grd h
        refine wp_iald (k := 42) dX8_canBe_21 rfl rfl (inb_of g21) ?_
        refine wp_iload_n dX8_canBe_22 1 rfl ?_
        refine wp_icmp_ne 37 dX8_canBe_23 rfl (fun c23 => ?_) (fun c23 => ?_)
        · replace h := o_neg h c23
          refine wp_iinc (v := v3 + 1) (lv' := [(0, _), (1, _), (2, _), (3, _)]) dX8_canBe_37 3 rfl rfl rfl rfl rfl ?_
          refine wp_goto 2 dX8_canBe_40 rfl ?_
          refine wp_pick [0, 1, 2, 3] (lv' := [(0, _), (1, _), (2, _), (3, _)]) rfl ?_
          exact ih v1 v2 (v3 + 1) I J r h
        · replace h := o_pos h c23
          refine wp_aload_n dX8_canBe_26 0 rfl ?_
          refine wp_iload_n dX8_canBe_27 3 rfl ?_
          refine wp_iload_n dX8_canBe_28 2 rfl ?_
          obtain ⟨r29, h29, h⟩ := o_bind h
          refine wp_callvI (k := 41) (ci := 8) (c_X8_isNear Γ ad v3 v2 I J r29 h29) dX8_canBe_29 mlX8_29 mwX8_isNear miX8_isNear rfl rfl rfl rfl (Nat.le_of_ble_eq_true rfl) rfl (by decide) (by decide) ?_
          refine wp_if_ne 37 dX8_canBe_32 rfl (fun c32 => ?_) (fun c32 => ?_)
          · replace h := o_neg h c32
            refine wp_iinc (v := v3 + 1) (lv' := [(0, _), (1, _), (2, _), (3, _)]) dX8_canBe_37 3 rfl rfl rfl rfl rfl ?_
            refine wp_goto 2 dX8_canBe_40 rfl ?_
            refine wp_pick [0, 1, 2, 3] (lv' := [(0, _), (1, _), (2, _), (3, _)]) rfl ?_
            exact ih v1 v2 (v3 + 1) I J r h
          · replace h := o_pos h c32
            refine wp_iconst (v := 0) dX8_canBe_35 (by decide) ?_
            obtain rfl := Option.some.inj h
            exact wp_ireturn (ty := .boolean) dX8_canBe_36 rfl rfl ⟨rfl, rfl, rfl, rfl⟩
set_option maxRecDepth 100000 in
set_option maxHeartbeats 4000000 in
theorem c_X8_canBe (Γ : GT) (ad : Nat → Nat) (a1 : Int32) (a2 : Int32) (I : IT) (J : JT) (r : Int32) (h : f_X8_canBe a1 a2 I = some r) : CALL Γ mX8_canBe (0, 0) [.ref (ad 41), .int a1, .int a2] (DX ad) I J (QE (some (.int r)) (DX ad) I J) := by
  refine call_of' (by decide) (Nat.le_of_ble_eq_true rfl) (lv0 := [(0, .ref (ad 41)), (1, .int a1), (2, .int a2)]) rfl ?_
  unfold f_X8_canBe at h
  refine wp_iconst (v := 0) dX8_canBe_0 (by decide) ?_
  refine wp_istore_n (lv' := [(0, _), (1, _), (2, _), (3, _)]) dX8_canBe_1 rfl rfl rfl rfl ?_
  refine wp_pick [0, 1, 2, 3] (lv' := [(0, _), (1, _), (2, _), (3, _)]) rfl ?_
  exact w_X8_canBe_2 Γ ad FU a1 a2 0 I J r h
def f_X8_howMany_4 : Nat → Int32 → Int32 → Int32 → IT → Option (Int32)
  | 0, _, _, _, _ => none
  | n + 1, v1, v2, v3, I =>
    if (999 : Int32) < v3 then
      some v2
    else
      (f_X8_canBe v1 v3 I).bind fun r15 =>
      if r15 = 0 then
        f_X8_howMany_4 n v1 (v2 + 0) (v3 + 1) I
      else
        f_X8_howMany_4 n v1 (v2 + 1) (v3 + 1) I
def f_X8_howMany (a1 : Int32) (I : IT) : Option (Int32) :=
  f_X8_howMany_4 FU a1 0 1 I
set_option maxRecDepth 100000 in
set_option maxHeartbeats 4000000 in
theorem w_X8_howMany_4 (Γ : GT) (ad : Nat → Nat) : ∀ (n : Nat) (v1 : Int32) (v2 : Int32) (v3 : Int32) (I : IT) (J : JT) (r : Int32), f_X8_howMany_4 n v1 v2 v3 I = some r → WP Γ mX8_howMany (0, 0) 4 [(0, .ref (ad 41)), (1, .int v1), (2, .int v2), (3, .int v3)] [] (DX ad) I J (QE (some (.int r)) (DX ad) I J) := by
  intro n
  induction n with
  | zero => intro v1 v2 v3 I J r h; exact absurd h (by simp [f_X8_howMany_4])
  | succ n ih =>
    intro v1 v2 v3 I J r h
    rw [f_X8_howMany_4] at h
    refine wp_iload_n dX8_howMany_4 3 rfl ?_
    refine wp_sipush (v := 999) dX8_howMany_5 (by decide) ?_
    refine wp_icmp_gt 34 dX8_howMany_8 rfl (fun c8 => ?_) (fun c8 => ?_)
    · replace h := o_pos h c8
      refine wp_iload_n dX8_howMany_34 2 rfl ?_
      obtain rfl := Option.some.inj h
      exact wp_ireturn (ty := .int) dX8_howMany_35 rfl rfl ⟨rfl, rfl, rfl, rfl⟩
    · replace h := o_neg h c8
      refine wp_iload_n dX8_howMany_11 2 rfl ?_
      refine wp_aload_n dX8_howMany_12 0 rfl ?_
      refine wp_iload_n dX8_howMany_13 1 rfl ?_
      refine wp_iload_n dX8_howMany_14 3 rfl ?_
      obtain ⟨r15, h15, h⟩ := o_bind h
      refine wp_callvI (k := 41) (ci := 8) (c_X8_canBe Γ ad v1 v3 I J r15 h15) dX8_howMany_15 mlX8_42 mwX8_canBe miX8_canBe rfl rfl rfl rfl (Nat.le_of_ble_eq_true rfl) rfl (by decide) (by decide) ?_
      refine wp_if_eq 25 dX8_howMany_18 rfl (fun c18 => ?_) (fun c18 => ?_)
      · replace h := o_pos h c18
        refine wp_iconst (v := 0) dX8_howMany_25 (by decide) ?_
        refine wp_iadd dX8_howMany_26 ?_
        refine wp_istore_n (lv' := [(0, _), (1, _), (2, _), (3, _)]) dX8_howMany_27 rfl rfl rfl rfl ?_
        refine wp_iinc (v := v3 + 1) (lv' := [(0, _), (1, _), (2, _), (3, _)]) dX8_howMany_28 3 rfl rfl rfl rfl rfl ?_
        refine wp_goto 4 dX8_howMany_31 rfl ?_
        refine wp_pick [0, 1, 2, 3] (lv' := [(0, _), (1, _), (2, _), (3, _)]) rfl ?_
        exact ih v1 (v2 + 0) (v3 + 1) I J r h
      · replace h := o_neg h c18
        refine wp_iconst (v := 1) dX8_howMany_21 (by decide) ?_
        refine wp_goto 26 dX8_howMany_22 rfl ?_
        refine wp_iadd dX8_howMany_26 ?_
        refine wp_istore_n (lv' := [(0, _), (1, _), (2, _), (3, _)]) dX8_howMany_27 rfl rfl rfl rfl ?_
        refine wp_iinc (v := v3 + 1) (lv' := [(0, _), (1, _), (2, _), (3, _)]) dX8_howMany_28 3 rfl rfl rfl rfl rfl ?_
        refine wp_goto 4 dX8_howMany_31 rfl ?_
        refine wp_pick [0, 1, 2, 3] (lv' := [(0, _), (1, _), (2, _), (3, _)]) rfl ?_
        exact ih v1 (v2 + 1) (v3 + 1) I J r h
set_option maxRecDepth 100000 in
set_option maxHeartbeats 4000000 in
theorem c_X8_howMany (Γ : GT) (ad : Nat → Nat) (a1 : Int32) (I : IT) (J : JT) (r : Int32) (h : f_X8_howMany a1 I = some r) : CALL Γ mX8_howMany (0, 0) [.ref (ad 41), .int a1] (DX ad) I J (QE (some (.int r)) (DX ad) I J) := by
  refine call_of' (by decide) (Nat.le_of_ble_eq_true rfl) (lv0 := [(0, .ref (ad 41)), (1, .int a1)]) rfl ?_
  unfold f_X8_howMany at h
  refine wp_iconst (v := 0) dX8_howMany_0 (by decide) ?_
  refine wp_istore_n (lv' := [(0, _), (1, _), (2, _)]) dX8_howMany_1 rfl rfl rfl rfl ?_
  refine wp_iconst (v := 1) dX8_howMany_2 (by decide) ?_
  refine wp_istore_n (lv' := [(0, _), (1, _), (2, _), (3, _)]) dX8_howMany_3 rfl rfl rfl rfl ?_
  refine wp_pick [0, 1, 2, 3] (lv' := [(0, _), (1, _), (2, _), (3, _)]) rfl ?_
  exact w_X8_howMany_4 Γ ad FU a1 0 1 I J r h
def f_X8_least_2 : Nat → Int32 → Int32 → IT → Option (Int32)
  | 0, _, _, _ => none
  | n + 1, v1, v2, I =>
    if (999 : Int32) < v2 then
      some (-1)
    else
      (f_X8_canBe v1 v2 I).bind fun r12 =>
      if r12 = 0 then
        f_X8_least_2 n v1 (v2 + 1) I
      else
        some v2
def f_X8_least (a1 : Int32) (I : IT) : Option (Int32) :=
  f_X8_least_2 FU a1 1 I
set_option maxRecDepth 100000 in
set_option maxHeartbeats 4000000 in
theorem w_X8_least_2 (Γ : GT) (ad : Nat → Nat) : ∀ (n : Nat) (v1 : Int32) (v2 : Int32) (I : IT) (J : JT) (r : Int32), f_X8_least_2 n v1 v2 I = some r → WP Γ mX8_least (0, 0) 2 [(0, .ref (ad 41)), (1, .int v1), (2, .int v2)] [] (DX ad) I J (QE (some (.int r)) (DX ad) I J) := by
  intro n
  induction n with
  | zero => intro v1 v2 I J r h; exact absurd h (by simp [f_X8_least_2])
  | succ n ih =>
    intro v1 v2 I J r h
    rw [f_X8_least_2] at h
    refine wp_iload_n dX8_least_2 2 rfl ?_
    refine wp_sipush (v := 999) dX8_least_3 (by decide) ?_
    refine wp_icmp_gt 26 dX8_least_6 rfl (fun c6 => ?_) (fun c6 => ?_)
    · replace h := o_pos h c6
      refine wp_iconst (v := (-1)) dX8_least_26 (by decide) ?_
      obtain rfl := Option.some.inj h
      exact wp_ireturn (ty := .int) dX8_least_27 rfl rfl ⟨rfl, rfl, rfl, rfl⟩
    · replace h := o_neg h c6
      refine wp_aload_n dX8_least_9 0 rfl ?_
      refine wp_iload_n dX8_least_10 1 rfl ?_
      refine wp_iload_n dX8_least_11 2 rfl ?_
      obtain ⟨r12, h12, h⟩ := o_bind h
      refine wp_callvI (k := 41) (ci := 8) (c_X8_canBe Γ ad v1 v2 I J r12 h12) dX8_least_12 mlX8_42 mwX8_canBe miX8_canBe rfl rfl rfl rfl (Nat.le_of_ble_eq_true rfl) rfl (by decide) (by decide) ?_
      refine wp_if_eq 20 dX8_least_15 rfl (fun c15 => ?_) (fun c15 => ?_)
      · replace h := o_pos h c15
        refine wp_iinc (v := v2 + 1) (lv' := [(0, _), (1, _), (2, _)]) dX8_least_20 2 rfl rfl rfl rfl rfl ?_
        refine wp_goto 2 dX8_least_23 rfl ?_
        refine wp_pick [0, 1, 2] (lv' := [(0, _), (1, _), (2, _)]) rfl ?_
        exact ih v1 (v2 + 1) I J r h
      · replace h := o_neg h c15
        refine wp_iload_n dX8_least_18 2 rfl ?_
        obtain rfl := Option.some.inj h
        exact wp_ireturn (ty := .int) dX8_least_19 rfl rfl ⟨rfl, rfl, rfl, rfl⟩
set_option maxRecDepth 100000 in
set_option maxHeartbeats 4000000 in
theorem c_X8_least (Γ : GT) (ad : Nat → Nat) (a1 : Int32) (I : IT) (J : JT) (r : Int32) (h : f_X8_least a1 I = some r) : CALL Γ mX8_least (0, 0) [.ref (ad 41), .int a1] (DX ad) I J (QE (some (.int r)) (DX ad) I J) := by
  refine call_of' (by decide) (Nat.le_of_ble_eq_true rfl) (lv0 := [(0, .ref (ad 41)), (1, .int a1)]) rfl ?_
  unfold f_X8_least at h
  refine wp_iconst (v := 1) dX8_least_0 (by decide) ?_
  refine wp_istore_n (lv' := [(0, _), (1, _), (2, _)]) dX8_least_1 rfl rfl rfl rfl ?_
  refine wp_pick [0, 1, 2] (lv' := [(0, _), (1, _), (2, _)]) rfl ?_
  exact w_X8_least_2 Γ ad FU a1 1 I J r h
def f_X8_greatest_4 : Nat → Int32 → Int32 → IT → Option (Int32)
  | 0, _, _, _ => none
  | n + 1, v1, v2, I =>
    if v2 < (1 : Int32) then
      some (-1)
    else
      (f_X8_canBe v1 v2 I).bind fun r12 =>
      if r12 = 0 then
        f_X8_greatest_4 n v1 (v2 + (-1)) I
      else
        some v2
def f_X8_greatest (a1 : Int32) (I : IT) : Option (Int32) :=
  f_X8_greatest_4 FU a1 999 I
set_option maxRecDepth 100000 in
set_option maxHeartbeats 4000000 in
theorem w_X8_greatest_4 (Γ : GT) (ad : Nat → Nat) : ∀ (n : Nat) (v1 : Int32) (v2 : Int32) (I : IT) (J : JT) (r : Int32), f_X8_greatest_4 n v1 v2 I = some r → WP Γ mX8_greatest (0, 0) 4 [(0, .ref (ad 41)), (1, .int v1), (2, .int v2)] [] (DX ad) I J (QE (some (.int r)) (DX ad) I J) := by
  intro n
  induction n with
  | zero => intro v1 v2 I J r h; exact absurd h (by simp [f_X8_greatest_4])
  | succ n ih =>
    intro v1 v2 I J r h
    rw [f_X8_greatest_4] at h
    refine wp_iload_n dX8_greatest_4 2 rfl ?_
    refine wp_iconst (v := 1) dX8_greatest_5 (by decide) ?_
    refine wp_icmp_lt 26 dX8_greatest_6 rfl (fun c6 => ?_) (fun c6 => ?_)
    · replace h := o_pos h c6
      refine wp_iconst (v := (-1)) dX8_greatest_26 (by decide) ?_
      obtain rfl := Option.some.inj h
      exact wp_ireturn (ty := .int) dX8_greatest_27 rfl rfl ⟨rfl, rfl, rfl, rfl⟩
    · replace h := o_neg h c6
      refine wp_aload_n dX8_greatest_9 0 rfl ?_
      refine wp_iload_n dX8_greatest_10 1 rfl ?_
      refine wp_iload_n dX8_greatest_11 2 rfl ?_
      obtain ⟨r12, h12, h⟩ := o_bind h
      refine wp_callvI (k := 41) (ci := 8) (c_X8_canBe Γ ad v1 v2 I J r12 h12) dX8_greatest_12 mlX8_42 mwX8_canBe miX8_canBe rfl rfl rfl rfl (Nat.le_of_ble_eq_true rfl) rfl (by decide) (by decide) ?_
      refine wp_if_eq 20 dX8_greatest_15 rfl (fun c15 => ?_) (fun c15 => ?_)
      · replace h := o_pos h c15
        refine wp_iinc (v := v2 + (-1)) (lv' := [(0, _), (1, _), (2, _)]) dX8_greatest_20 2 rfl rfl rfl rfl rfl ?_
        refine wp_goto 4 dX8_greatest_23 rfl ?_
        refine wp_pick [0, 1, 2] (lv' := [(0, _), (1, _), (2, _)]) rfl ?_
        exact ih v1 (v2 + (-1)) I J r h
      · replace h := o_neg h c15
        refine wp_iload_n dX8_greatest_18 2 rfl ?_
        obtain rfl := Option.some.inj h
        exact wp_ireturn (ty := .int) dX8_greatest_19 rfl rfl ⟨rfl, rfl, rfl, rfl⟩
set_option maxRecDepth 100000 in
set_option maxHeartbeats 4000000 in
theorem c_X8_greatest (Γ : GT) (ad : Nat → Nat) (a1 : Int32) (I : IT) (J : JT) (r : Int32) (h : f_X8_greatest a1 I = some r) : CALL Γ mX8_greatest (0, 0) [.ref (ad 41), .int a1] (DX ad) I J (QE (some (.int r)) (DX ad) I J) := by
  refine call_of' (by decide) (Nat.le_of_ble_eq_true rfl) (lv0 := [(0, .ref (ad 41)), (1, .int a1)]) rfl ?_
  unfold f_X8_greatest at h
  refine wp_sipush (v := 999) dX8_greatest_0 (by decide) ?_
  refine wp_istore_n (lv' := [(0, _), (1, _), (2, _)]) dX8_greatest_3 rfl rfl rfl rfl ?_
  refine wp_pick [0, 1, 2] (lv' := [(0, _), (1, _), (2, _)]) rfl ?_
  exact w_X8_greatest_4 Γ ad FU a1 999 I J r h
