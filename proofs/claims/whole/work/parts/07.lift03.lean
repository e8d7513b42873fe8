/-! lifted: X2_dealsIn X1_isBound X9_bound X9_lot X9_areTwoPersons X1_holds X1_mayHold X1_join X9_hold X1_part X9_loose X9_canBeFor X6_afterSign X6_pricePressed X1_maySpeakFor X1_maySpeak X1_leftInPurse X1_mayBind X1_winnerOf X1_brokerOf -/
def f_X2_dealsIn (a1 : Int32) (a2 : Int32) (I : IT) : Option (Int32) :=
  (f_X2_hasPerson a1 I).bind fun r2 =>
  if r2 = 0 then
    some 0
  else
    (f_X2_hasLot a2 I).bind fun r10 =>
    if r10 = 0 then
      some 0
    else
      (f_X2_sortOf a1 I).bind fun r20 =>
      if r20 = (1 : Int32) then
        some 1
      else
        if r20 = 0 then
          if a1 = a2 then
            some 1
          else
            some 0
        else
          some 0
set_option maxRecDepth 100000 in
set_option maxHeartbeats 4000000 in
theorem c_X2_dealsIn (Γ : GT) (ad : Nat → Nat) (a1 : Int32) (a2 : Int32) (I : IT) (J : JT) (r : Int32) (h : f_X2_dealsIn a1 a2 I = some r) : CALL Γ mX2_dealsIn (0, 0) [.ref (ad 3), .int a1, .int a2] (DX ad) I J (QE (some (.int r)) (DX ad) I J) := by
  refine call_of' (by decide) (Nat.le_of_ble_eq_true rfl) (lv0 := [(0, .ref (ad 3)), (1, .int a1), (2, .int a2)]) rfl ?_
  unfold f_X2_dealsIn at h
  refine wp_aload_n dX2_dealsIn_0 0 rfl ?_
  refine wp_iload_n dX2_dealsIn_1 1 rfl ?_
  obtain ⟨r2, h2, h⟩ := o_bind h
  refine wp_callvI (k := 3) (ci := 2) (c_X2_hasPerson Γ ad a1 I J r2 h2) dX2_dealsIn_2 mlX2_50 mwX2_hasPerson miX2_hasPerson rfl rfl rfl rfl (Nat.le_of_ble_eq_true rfl) rfl (by decide) (by decide) ?_
  refine wp_if_eq 16 dX2_dealsIn_5 rfl (fun c5 => ?_) (fun c5 => ?_)
  · replace h := o_pos h c5
    refine wp_iconst (v := 0) dX2_dealsIn_16 (by decide) ?_
    obtain rfl := Option.some.inj h
    exact wp_ireturn (ty := .boolean) dX2_dealsIn_17 rfl rfl ⟨rfl, rfl, rfl, rfl⟩
  · replace h := o_neg h c5
    refine wp_aload_n dX2_dealsIn_8 0 rfl ?_
    refine wp_iload_n dX2_dealsIn_9 2 rfl ?_
    obtain ⟨r10, h10, h⟩ := o_bind h
    refine wp_callvI (k := 3) (ci := 2) (c_X2_hasLot Γ ad a2 I J r10 h10) dX2_dealsIn_10 mlX2_54 mwX2_hasLot miX2_hasLot rfl rfl rfl rfl (Nat.le_of_ble_eq_true rfl) rfl (by decide) (by decide) ?_
    refine wp_if_ne 18 dX2_dealsIn_13 rfl (fun c13 => ?_) (fun c13 => ?_)
    · replace h := o_neg h c13
      refine wp_aload_n dX2_dealsIn_18 0 rfl ?_
      refine wp_iload_n dX2_dealsIn_19 1 rfl ?_
      obtain ⟨r20, h20, h⟩ := o_bind h
      refine wp_callvI (k := 3) (ci := 2) (c_X2_sortOf Γ ad a1 I J r20 h20) dX2_dealsIn_20 mlX2_57 mwX2_sortOf miX2_sortOf rfl rfl rfl rfl (Nat.le_of_ble_eq_true rfl) rfl (by decide) (by decide) ?_
      refine wp_istore_n (lv' := [(0, _), (1, _), (2, _), (3, _)]) dX2_dealsIn_23 rfl rfl rfl rfl ?_
      refine wp_iload_n dX2_dealsIn_24 3 rfl ?_
      refine wp_iconst (v := 1) dX2_dealsIn_25 (by decide) ?_
      refine wp_icmp_eq 38 dX2_dealsIn_26 rfl (fun c26 => ?_) (fun c26 => ?_)
      · replace h := o_pos h c26
        refine wp_iconst (v := 1) dX2_dealsIn_38 (by decide) ?_
        refine wp_goto 43 dX2_dealsIn_39 rfl ?_
        obtain rfl := Option.some.inj h
        exact wp_ireturn (ty := .boolean) dX2_dealsIn_43 rfl rfl ⟨rfl, rfl, rfl, rfl⟩
      · replace h := o_neg h c26
        refine wp_iload_n dX2_dealsIn_29 3 rfl ?_
        refine wp_if_ne 42 dX2_dealsIn_30 rfl (fun c30 => ?_) (fun c30 => ?_)
        · replace h := o_neg h c30
          refine wp_iconst (v := 0) dX2_dealsIn_42 (by decide) ?_
          obtain rfl := Option.some.inj h
          exact wp_ireturn (ty := .boolean) dX2_dealsIn_43 rfl rfl ⟨rfl, rfl, rfl, rfl⟩
        · replace h := o_pos h c30
          refine wp_iload_n dX2_dealsIn_33 1 rfl ?_
          refine wp_iload_n dX2_dealsIn_34 2 rfl ?_
          refine wp_icmp_ne 42 dX2_dealsIn_35 rfl (fun c35 => ?_) (fun c35 => ?_)
          · replace h := o_neg h c35
            refine wp_iconst (v := 0) dX2_dealsIn_42 (by decide) ?_
            obtain rfl := Option.some.inj h
            exact wp_ireturn (ty := .boolean) dX2_dealsIn_43 rfl rfl ⟨rfl, rfl, rfl, rfl⟩
          · replace h := o_pos h c35
            refine wp_iconst (v := 1) dX2_dealsIn_38 (by decide) ?_
            refine wp_goto 43 dX2_dealsIn_39 rfl ?_
            obtain rfl := Option.some.inj h
            exact wp_ireturn (ty := .boolean) dX2_dealsIn_43 rfl rfl ⟨rfl, rfl, rfl, rfl⟩
    · replace h := o_pos h c13
      refine wp_iconst (v := 0) dX2_dealsIn_16 (by decide) ?_
      obtain rfl := Option.some.inj h
      exact wp_ireturn (ty := .boolean) dX2_dealsIn_17 rfl rfl ⟨rfl, rfl, rfl, rfl⟩
def f_X1_isBound (a1 : Int32) (a2 : Int32) (I : IT) : Option (Int32) :=
  if inbB ((a1 * 6) + a2) 84 = true then
    if (I 14 ((a1 * 6) + a2).toNatClampNeg) ≤ 0 then
      some 0
    else
      if inbB ((a1 * 6) + a2) 84 = true then
        if (I 15 ((a1 * 6) + a2).toNatClampNeg) ≤ (I 12 1) then
          some 0
        else
          some 1
      else none
  else none
set_option maxRecDepth 100000 in
set_option maxHeartbeats 4000000 in
theorem c_X1_isBound (Γ : GT) (ad : Nat → Nat) (a1 : Int32) (a2 : Int32) (I : IT) (J : JT) (r : Int32) (h : f_X1_isBound a1 a2 I = some r) : CALL Γ mX1_isBound (0, 0) [.ref (ad 12), .int a1, .int a2] (DX ad) I J (QE (some (.int r)) (DX ad) I J) := by
  refine call_of' (by decide) (Nat.le_of_ble_eq_true rfl) (lv0 := [(0, .ref (ad 12)), (1, .int a1), (2, .int a2)]) rfl ?_
  unfold f_X1_isBound at h
  refine wp_iload_n dX1_isBound_0 1 rfl ?_
  refine wp_bipush (v := 6) dX1_isBound_1 (by decide) ?_
  refine wp_imul dX1_isBound_3 ?_
  refine wp_iload_n dX1_isBound_4 2 rfl ?_
  refine wp_iadd dX1_isBound_5 ?_
  refine wp_istore_n (lv' := [(0, _), (1, _), (2, _), (3, _)]) dX1_isBound_6 rfl rfl rfl rfl ?_
  refine wp_aload_n dX1_isBound_7 0 rfl ?_
  refine wp_getR (k := 12) (a' := ad 14) dX1_isBound_8 flX1_15 rfl rfl rfl rfl rfl ?_
  refine wp_iload_n dX1_isBound_11 3 rfl ?_
  obtain ⟨g12, h⟩ := o_grd h
  refine wp_iald (k := 14) dX1_isBound_12 rfl rfl (inb_of g12) ?_
  refine wp_if_le 33 dX1_isBound_13 rfl (fun c13 => ?_) (fun c13 => ?_)
  · replace h := o_pos h c13
    refine wp_iconst (v := 0) dX1_isBound_33 (by decide) ?_
    obtain rfl := Option.some.inj h
    exact wp_ireturn (ty := .boolean) dX1_isBound_34 rfl rfl ⟨rfl, rfl, rfl, rfl⟩
  · replace h := o_neg h c13
    refine wp_aload_n dX1_isBound_16 0 rfl ?_
    refine wp_getI (k := 12) dX1_isBound_17 flX1_37 rfl rfl rfl rfl ?_
    refine wp_aload_n dX1_isBound_20 0 rfl ?_
    refine wp_getR (k := 12) (a' := ad 15) dX1_isBound_21 flX1_18 rfl rfl rfl rfl rfl ?_
    refine wp_iload_n dX1_isBound_24 3 rfl ?_
    obtain ⟨g25, h⟩ := o_grd h
    refine wp_iald (k := 15) dX1_isBound_25 rfl rfl (inb_of g25) ?_
    refine wp_icmp_ge 33 dX1_isBound_26 rfl (fun c26 => ?_) (fun c26 => ?_)
    · replace h := o_pos h c26
      refine wp_iconst (v := 0) dX1_isBound_33 (by decide) ?_
      obtain rfl := Option.some.inj h
      exact wp_ireturn (ty := .boolean) dX1_isBound_34 rfl rfl ⟨rfl, rfl, rfl, rfl⟩
    · replace h := o_neg h c26
      refine wp_iconst (v := 1) dX1_isBound_29 (by decide) ?_
      refine wp_goto 34 dX1_isBound_30 rfl ?_
      obtain rfl := Option.some.inj h
      exact wp_ireturn (ty := .boolean) dX1_isBound_34 rfl rfl ⟨rfl, rfl, rfl, rfl⟩
def f_X9_bound (a1 : Int32) (a2 : Int32) (a3 : Int32) (I : IT) : Option (Int32) :=
  (f_X2_dealsIn a1 a2 I).bind fun r6 =>
  if r6 = 0 then
    some (-1000001)
  else
    (f_X9_isWithin a3 0 1).bind fun r18 =>
    if r18 = 0 then
      some (-1000002)
    else
      (f_X1_isBound a1 a2 I).bind fun r33 =>
      if r33 = 0 then
        some (-1)
      else
        if a3 = 0 then
          if inbB ((a1 * 6) + a2) 84 = true then
            some (I 14 ((a1 * 6) + a2).toNatClampNeg)
          else none
        else
          if inbB ((a1 * 6) + a2) 84 = true then
            some (I 15 ((a1 * 6) + a2).toNatClampNeg)
          else none
set_option maxRecDepth 100000 in
set_option maxHeartbeats 4000000 in
theorem c_X9_bound (Γ : GT) (ad : Nat → Nat) (a1 : Int32) (a2 : Int32) (a3 : Int32) (I : IT) (J : JT) (r : Int32) (h : f_X9_bound a1 a2 a3 I = some r) : CALL Γ mX9_bound (0, 0) [.ref (ad 0), .int a1, .int a2, .int a3] (DX ad) I J (QE (some (.int r)) (DX ad) I J) := by
  refine call_of' (by decide) (Nat.le_of_ble_eq_true rfl) (lv0 := [(0, .ref (ad 0)), (1, .int a1), (2, .int a2), (3, .int a3)]) rfl ?_
  unfold f_X9_bound at h
  refine wp_aload_n dX9_bound_0 0 rfl ?_
  refine wp_getR (k := 0) (a' := ad 3) dX9_bound_1 flX9_19 rfl rfl rfl rfl rfl ?_
  refine wp_iload_n dX9_bound_4 1 rfl ?_
  refine wp_iload_n dX9_bound_5 2 rfl ?_
  obtain ⟨r6, h6, h⟩ := o_bind h
  refine wp_callvI (k := 3) (ci := 2) (c_X2_dealsIn Γ ad a1 a2 I J r6 h6) dX9_bound_6 mlX9_182 mwX2_dealsIn miX2_dealsIn rfl rfl rfl rfl (Nat.le_of_ble_eq_true rfl) rfl (by decide) (by decide) ?_
  refine wp_if_ne 15 dX9_bound_9 rfl (fun c9 => ?_) (fun c9 => ?_)
  · replace h := o_neg h c9
    refine wp_iload_n dX9_bound_15 3 rfl ?_
    refine wp_iconst (v := 0) dX9_bound_16 (by decide) ?_
    refine wp_iconst (v := 1) dX9_bound_17 (by decide) ?_
    obtain ⟨r18, h18, h⟩ := o_bind h
    refine wp_callsI (c_X9_isWithin Γ ad a3 0 1 I J r18 h18) dX9_bound_18 mlX9_90 mwX9_isWithin miX9_isWithin rfl (Nat.le_of_ble_eq_true rfl) rfl (by decide) (by decide) ?_
    refine wp_if_ne 27 dX9_bound_21 rfl (fun c21 => ?_) (fun c21 => ?_)
    · replace h := o_neg h c21
      refine wp_aload_n dX9_bound_27 0 rfl ?_
      refine wp_getR (k := 0) (a' := ad 12) dX9_bound_28 flX9_37 rfl rfl rfl rfl rfl ?_
      refine wp_iload_n dX9_bound_31 1 rfl ?_
      refine wp_iload_n dX9_bound_32 2 rfl ?_
      obtain ⟨r33, h33, h⟩ := o_bind h
      refine wp_callvI (k := 12) (ci := 1) (c_X1_isBound Γ ad a1 a2 I J r33 h33) dX9_bound_33 mlX9_186 mwX1_isBound miX1_isBound rfl rfl rfl rfl (Nat.le_of_ble_eq_true rfl) rfl (by decide) (by decide) ?_
      refine wp_if_ne 41 dX9_bound_36 rfl (fun c36 => ?_) (fun c36 => ?_)
      · replace h := o_neg h c36
        refine wp_iload_n dX9_bound_41 1 rfl ?_
        refine wp_bipush (v := 6) dX9_bound_42 (by decide) ?_
        refine wp_imul dX9_bound_44 ?_
        refine wp_iload_n dX9_bound_45 2 rfl ?_
        refine wp_iadd dX9_bound_46 ?_
        refine wp_istore (lv' := [(0, _), (1, _), (2, _), (3, _), (4, _)]) dX9_bound_47 rfl rfl rfl ?_
        refine wp_iload_n dX9_bound_49 3 rfl ?_
        refine wp_if_ne 66 dX9_bound_50 rfl (fun c50 => ?_) (fun c50 => ?_)
        · replace h := o_neg h c50
          refine wp_aload_n dX9_bound_66 0 rfl ?_
          refine wp_getR (k := 0) (a' := ad 12) dX9_bound_67 flX9_37 rfl rfl rfl rfl rfl ?_
          refine wp_getR (k := 12) (a' := ad 15) dX9_bound_70 flX9_192 rfl rfl rfl rfl rfl ?_
          refine wp_iload dX9_bound_73 4 rfl ?_
          obtain ⟨g75, h⟩ := o_grd h
          refine wp_iald (k := 15) dX9_bound_75 rfl rfl (inb_of g75) ?_
          obtain rfl := Option.some.inj h
          exact wp_ireturn (ty := .int) dX9_bound_76 rfl rfl ⟨rfl, rfl, rfl, rfl⟩
        · replace h := o_pos h c50
          refine wp_aload_n dX9_bound_53 0 rfl ?_
          refine wp_getR (k := 0) (a' := ad 12) dX9_bound_54 flX9_37 rfl rfl rfl rfl rfl ?_
          refine wp_getR (k := 12) (a' := ad 14) dX9_bound_57 flX9_189 rfl rfl rfl rfl rfl ?_
          refine wp_iload dX9_bound_60 4 rfl ?_
          obtain ⟨g62, h⟩ := o_grd h
          refine wp_iald (k := 14) dX9_bound_62 rfl rfl (inb_of g62) ?_
          refine wp_goto 76 dX9_bound_63 rfl ?_
          obtain rfl := Option.some.inj h
          exact wp_ireturn (ty := .int) dX9_bound_76 rfl rfl ⟨rfl, rfl, rfl, rfl⟩
      · replace h := o_pos h c36
        refine wp_iconst (v := (-1)) dX9_bound_39 (by decide) ?_
        obtain rfl := Option.some.inj h
        exact wp_ireturn (ty := .int) dX9_bound_40 rfl rfl ⟨rfl, rfl, rfl, rfl⟩
    · replace h := o_pos h c21
      refine wp_ldc (v := (-1000002)) dX9_bound_24 kcX9_94 ?_
      obtain rfl := Option.some.inj h
      exact wp_ireturn (ty := .int) dX9_bound_26 rfl rfl ⟨rfl, rfl, rfl, rfl⟩
  · replace h := o_pos h c9
    refine wp_ldc (v := (-1000001)) dX9_bound_12 kcX9_155 ?_
    obtain rfl := Option.some.inj h
    exact wp_ireturn (ty := .int) dX9_bound_14 rfl rfl ⟨rfl, rfl, rfl, rfl⟩
def f_X9_lot (a1 : Int32) (a2 : Int32) (I : IT) : Option (Int32) :=
  (f_X2_hasLot a1 I).bind fun r5 =>
  if r5 = 0 then
    some (-1000001)
  else
    if a2 = 0 then
      if inbB a1 6 = true then
        some (I 16 a1.toNatClampNeg)
      else none
    else
      if a2 = 1 then
        if inbB a1 6 = true then
          some (I 17 a1.toNatClampNeg)
        else none
      else
        some (-1000002)
set_option maxRecDepth 100000 in
set_option maxHeartbeats 4000000 in
theorem c_X9_lot (Γ : GT) (ad : Nat → Nat) (a1 : Int32) (a2 : Int32) (I : IT) (J : JT) (r : Int32) (h : f_X9_lot a1 a2 I = some r) : CALL Γ mX9_lot (0, 0) [.ref (ad 0), .int a1, .int a2] (DX ad) I J (QE (some (.int r)) (DX ad) I J) := by
  refine call_of' (by decide) (Nat.le_of_ble_eq_true rfl) (lv0 := [(0, .ref (ad 0)), (1, .int a1), (2, .int a2)]) rfl ?_
  unfold f_X9_lot at h
  refine wp_aload_n dX9_lot_0 0 rfl ?_
  refine wp_getR (k := 0) (a' := ad 3) dX9_lot_1 flX9_19 rfl rfl rfl rfl rfl ?_
  refine wp_iload_n dX9_lot_4 1 rfl ?_
  obtain ⟨r5, h5, h⟩ := o_bind h
  refine wp_callvI (k := 3) (ci := 2) (c_X2_hasLot Γ ad a1 I J r5 h5) dX9_lot_5 mlX9_176 mwX2_hasLot miX2_hasLot rfl rfl rfl rfl (Nat.le_of_ble_eq_true rfl) rfl (by decide) (by decide) ?_
  refine wp_if_ne 14 dX9_lot_8 rfl (fun c8 => ?_) (fun c8 => ?_)
  · replace h := o_neg h c8
    refine wp_iload_n dX9_lot_14 2 rfl ?_
    by_cases e15_0 : a2 = 0
    · replace h := o_pos h e15_0
      refine wp_lookup (off := 25) 40 dX9_lot_15 (by decide) (by rw [e15_0]; decide) rfl ?_
      refine wp_aload_n dX9_lot_40 0 rfl ?_
      refine wp_getR (k := 0) (a' := ad 12) dX9_lot_41 flX9_37 rfl rfl rfl rfl rfl ?_
      refine wp_getR (k := 12) (a' := ad 16) dX9_lot_44 flX9_195 rfl rfl rfl rfl rfl ?_
      refine wp_iload_n dX9_lot_47 1 rfl ?_
      obtain ⟨g48, h⟩ := o_grd h
      refine wp_iald (k := 16) dX9_lot_48 rfl rfl (inb_of g48) ?_
      obtain rfl := Option.some.inj h
      exact wp_ireturn (ty := .int) dX9_lot_49 rfl rfl ⟨rfl, rfl, rfl, rfl⟩
    · replace h := o_neg h e15_0
      by_cases e15_1 : a2 = 1
      · replace h := o_pos h e15_1
        refine wp_lookup (off := 35) 50 dX9_lot_15 (by decide) (by rw [e15_1]; decide) rfl ?_
        refine wp_aload_n dX9_lot_50 0 rfl ?_
        refine wp_getR (k := 0) (a' := ad 12) dX9_lot_51 flX9_37 rfl rfl rfl rfl rfl ?_
        refine wp_getR (k := 12) (a' := ad 17) dX9_lot_54 flX9_198 rfl rfl rfl rfl rfl ?_
        refine wp_iload_n dX9_lot_57 1 rfl ?_
        obtain ⟨g58, h⟩ := o_grd h
        refine wp_iald (k := 17) dX9_lot_58 rfl rfl (inb_of g58) ?_
        obtain rfl := Option.some.inj h
        exact wp_ireturn (ty := .int) dX9_lot_59 rfl rfl ⟨rfl, rfl, rfl, rfl⟩
      · replace h := o_neg h e15_1
        refine wp_lookup (off := 45) 60 dX9_lot_15 (by decide) (by rw [lv_osw e15_0 (by decide), lv_osw e15_1 (by decide)]; rfl) rfl ?_
        refine wp_ldc (v := (-1000002)) dX9_lot_60 kcX9_94 ?_
        obtain rfl := Option.some.inj h
        exact wp_ireturn (ty := .int) dX9_lot_62 rfl rfl ⟨rfl, rfl, rfl, rfl⟩
  · replace h := o_pos h c8
    refine wp_ldc (v := (-1000001)) dX9_lot_11 kcX9_155 ?_
    obtain rfl := Option.some.inj h
    exact wp_ireturn (ty := .int) dX9_lot_13 rfl rfl ⟨rfl, rfl, rfl, rfl⟩
def f_X9_areTwoPersons (a1 : Int32) (a2 : Int32) (I : IT) : Option (Int32) :=
  (f_X2_hasPerson a1 I).bind fun r5 =>
  if r5 = 0 then
    some 0
  else
    (f_X2_hasPerson a2 I).bind fun r16 =>
    if r16 = 0 then
      some 0
    else
      if a1 = a2 then
        some 0
      else
        some 1
set_option maxRecDepth 100000 in
set_option maxHeartbeats 4000000 in
theorem c_X9_areTwoPersons (Γ : GT) (ad : Nat → Nat) (a1 : Int32) (a2 : Int32) (I : IT) (J : JT) (r : Int32) (h : f_X9_areTwoPersons a1 a2 I = some r) : CALL Γ mX9_areTwoPersons (0, 0) [.ref (ad 0), .int a1, .int a2] (DX ad) I J (QE (some (.int r)) (DX ad) I J) := by
  refine call_of' (by decide) (Nat.le_of_ble_eq_true rfl) (lv0 := [(0, .ref (ad 0)), (1, .int a1), (2, .int a2)]) rfl ?_
  unfold f_X9_areTwoPersons at h
  refine wp_aload_n dX9_areTwoPersons_0 0 rfl ?_
  refine wp_getR (k := 0) (a' := ad 3) dX9_areTwoPersons_1 flX9_19 rfl rfl rfl rfl rfl ?_
  refine wp_iload_n dX9_areTwoPersons_4 1 rfl ?_
  obtain ⟨r5, h5, h⟩ := o_bind h
  refine wp_callvI (k := 3) (ci := 2) (c_X2_hasPerson Γ ad a1 I J r5 h5) dX9_areTwoPersons_5 mlX9_151 mwX2_hasPerson miX2_hasPerson rfl rfl rfl rfl (Nat.le_of_ble_eq_true rfl) rfl (by decide) (by decide) ?_
  refine wp_if_eq 31 dX9_areTwoPersons_8 rfl (fun c8 => ?_) (fun c8 => ?_)
  · replace h := o_pos h c8
    refine wp_iconst (v := 0) dX9_areTwoPersons_31 (by decide) ?_
    obtain rfl := Option.some.inj h
    exact wp_ireturn (ty := .boolean) dX9_areTwoPersons_32 rfl rfl ⟨rfl, rfl, rfl, rfl⟩
  · replace h := o_neg h c8
    refine wp_aload_n dX9_areTwoPersons_11 0 rfl ?_
    refine wp_getR (k := 0) (a' := ad 3) dX9_areTwoPersons_12 flX9_19 rfl rfl rfl rfl rfl ?_
    refine wp_iload_n dX9_areTwoPersons_15 2 rfl ?_
    obtain ⟨r16, h16, h⟩ := o_bind h
    refine wp_callvI (k := 3) (ci := 2) (c_X2_hasPerson Γ ad a2 I J r16 h16) dX9_areTwoPersons_16 mlX9_151 mwX2_hasPerson miX2_hasPerson rfl rfl rfl rfl (Nat.le_of_ble_eq_true rfl) rfl (by decide) (by decide) ?_
    refine wp_if_eq 31 dX9_areTwoPersons_19 rfl (fun c19 => ?_) (fun c19 => ?_)
    · replace h := o_pos h c19
      refine wp_iconst (v := 0) dX9_areTwoPersons_31 (by decide) ?_
      obtain rfl := Option.some.inj h
      exact wp_ireturn (ty := .boolean) dX9_areTwoPersons_32 rfl rfl ⟨rfl, rfl, rfl, rfl⟩
    · replace h := o_neg h c19
      refine wp_iload_n dX9_areTwoPersons_22 1 rfl ?_
      refine wp_iload_n dX9_areTwoPersons_23 2 rfl ?_
      refine wp_icmp_eq 31 dX9_areTwoPersons_24 rfl (fun c24 => ?_) (fun c24 => ?_)
      · replace h := o_pos h c24
        refine wp_iconst (v := 0) dX9_areTwoPersons_31 (by decide) ?_
        obtain rfl := Option.some.inj h
        exact wp_ireturn (ty := .boolean) dX9_areTwoPersons_32 rfl rfl ⟨rfl, rfl, rfl, rfl⟩
      · replace h := o_neg h c24
        refine wp_iconst (v := 1) dX9_areTwoPersons_27 (by decide) ?_
        refine wp_goto 32 dX9_areTwoPersons_28 rfl ?_
        obtain rfl := Option.some.inj h
        exact wp_ireturn (ty := .boolean) dX9_areTwoPersons_32 rfl rfl ⟨rfl, rfl, rfl, rfl⟩
def f_X1_holds (a1 : Int32) (a2 : Int32) (I : IT) : Option (Int32) :=
  if inbB a1 14 = true then
    if (((I 13 a1.toNatClampNeg) >>> (a2 &&& 31)) &&& 1) = (1 : Int32) then
      some 1
    else
      some 0
  else none
set_option maxRecDepth 100000 in
set_option maxHeartbeats 4000000 in
theorem c_X1_holds (Γ : GT) (ad : Nat → Nat) (a1 : Int32) (a2 : Int32) (I : IT) (J : JT) (r : Int32) (h : f_X1_holds a1 a2 I = some r) : CALL Γ mX1_holds (0, 0) [.ref (ad 12), .int a1, .int a2] (DX ad) I J (QE (some (.int r)) (DX ad) I J) := by
  refine call_of' (by decide) (Nat.le_of_ble_eq_true rfl) (lv0 := [(0, .ref (ad 12)), (1, .int a1), (2, .int a2)]) rfl ?_
  unfold f_X1_holds at h
  refine wp_aload_n dX1_holds_0 0 rfl ?_
  refine wp_getR (k := 12) (a' := ad 13) dX1_holds_1 flX1_9 rfl rfl rfl rfl rfl ?_
  refine wp_iload_n dX1_holds_4 1 rfl ?_
  obtain ⟨g5, h⟩ := o_grd h
  refine wp_iald (k := 13) dX1_holds_5 rfl rfl (inb_of g5) ?_
  refine wp_iload_n dX1_holds_6 2 rfl ?_
  refine wp_ishr dX1_holds_7 ?_
  refine wp_iconst (v := 1) dX1_holds_8 (by decide) ?_
  refine wp_iand dX1_holds_9 ?_
  refine wp_iconst (v := 1) dX1_holds_10 (by decide) ?_
  refine wp_icmp_ne 18 dX1_holds_11 rfl (fun c11 => ?_) (fun c11 => ?_)
  · replace h := o_neg h c11
    refine wp_iconst (v := 0) dX1_holds_18 (by decide) ?_
    obtain rfl := Option.some.inj h
    exact wp_ireturn (ty := .boolean) dX1_holds_19 rfl rfl ⟨rfl, rfl, rfl, rfl⟩
  · replace h := o_pos h c11
    refine wp_iconst (v := 1) dX1_holds_14 (by decide) ?_
    refine wp_goto 19 dX1_holds_15 rfl ?_
    obtain rfl := Option.some.inj h
    exact wp_ireturn (ty := .boolean) dX1_holds_19 rfl rfl ⟨rfl, rfl, rfl, rfl⟩
def f_X1_mayHold (a1 : Int32) (a2 : Int32) (I : IT) : Option (Int32) :=
  (f_X2_sortOf a1 I).bind fun r5 =>
  (f_X2_sortOf a2 I).bind fun r13 =>
  if r5 = r13 then
    some 0
  else
    (f_X1_holds a1 a2 I).bind fun r22 =>
    if r22 = 0 then
      (f_X1_freeHands a1 I).bind fun r30 =>
      if r30 ≤ 0 then
        some 0
      else
        (f_X1_freeHands a2 I).bind fun r38 =>
        if r38 ≤ 0 then
          some 0
        else
          some 1
    else
      some 0
set_option maxRecDepth 100000 in
set_option maxHeartbeats 4000000 in
theorem c_X1_mayHold (Γ : GT) (ad : Nat → Nat) (a1 : Int32) (a2 : Int32) (I : IT) (J : JT) (r : Int32) (h : f_X1_mayHold a1 a2 I = some r) : CALL Γ mX1_mayHold (0, 0) [.ref (ad 12), .int a1, .int a2] (DX ad) I J (QE (some (.int r)) (DX ad) I J) := by
  refine call_of' (by decide) (Nat.le_of_ble_eq_true rfl) (lv0 := [(0, .ref (ad 12)), (1, .int a1), (2, .int a2)]) rfl ?_
  unfold f_X1_mayHold at h
  refine wp_aload_n dX1_mayHold_0 0 rfl ?_
  refine wp_getR (k := 12) (a' := ad 3) dX1_mayHold_1 flX1_30 rfl rfl rfl rfl rfl ?_
  refine wp_iload_n dX1_mayHold_4 1 rfl ?_
  obtain ⟨r5, h5, h⟩ := o_bind h
  refine wp_callvI (k := 3) (ci := 2) (c_X2_sortOf Γ ad a1 I J r5 h5) dX1_mayHold_5 mlX1_67 mwX2_sortOf miX2_sortOf rfl rfl rfl rfl (Nat.le_of_ble_eq_true rfl) rfl (by decide) (by decide) ?_
  refine wp_aload_n dX1_mayHold_8 0 rfl ?_
  refine wp_getR (k := 12) (a' := ad 3) dX1_mayHold_9 flX1_30 rfl rfl rfl rfl rfl ?_
  refine wp_iload_n dX1_mayHold_12 2 rfl ?_
  obtain ⟨r13, h13, h⟩ := o_bind h
  refine wp_callvI (k := 3) (ci := 2) (c_X2_sortOf Γ ad a2 I J r13 h13) dX1_mayHold_13 mlX1_67 mwX2_sortOf miX2_sortOf rfl rfl rfl rfl (Nat.le_of_ble_eq_true rfl) rfl (by decide) (by decide) ?_
  refine wp_icmp_eq 48 dX1_mayHold_16 rfl (fun c16 => ?_) (fun c16 => ?_)
  · replace h := o_pos h c16
    refine wp_iconst (v := 0) dX1_mayHold_48 (by decide) ?_
    obtain rfl := Option.some.inj h
    exact wp_ireturn (ty := .boolean) dX1_mayHold_49 rfl rfl ⟨rfl, rfl, rfl, rfl⟩
  · replace h := o_neg h c16
    refine wp_aload_n dX1_mayHold_19 0 rfl ?_
    refine wp_iload_n dX1_mayHold_20 1 rfl ?_
    refine wp_iload_n dX1_mayHold_21 2 rfl ?_
    obtain ⟨r22, h22, h⟩ := o_bind h
    refine wp_callvI (k := 12) (ci := 1) (c_X1_holds Γ ad a1 a2 I J r22 h22) dX1_mayHold_22 mlX1_70 mwX1_holds miX1_holds rfl rfl rfl rfl (Nat.le_of_ble_eq_true rfl) rfl (by decide) (by decide) ?_
    refine wp_if_ne 48 dX1_mayHold_25 rfl (fun c25 => ?_) (fun c25 => ?_)
    · replace h := o_neg h c25
      refine wp_iconst (v := 0) dX1_mayHold_48 (by decide) ?_
      obtain rfl := Option.some.inj h
      exact wp_ireturn (ty := .boolean) dX1_mayHold_49 rfl rfl ⟨rfl, rfl, rfl, rfl⟩
    · replace h := o_pos h c25
      refine wp_aload_n dX1_mayHold_28 0 rfl ?_
      refine wp_iload_n dX1_mayHold_29 1 rfl ?_
      obtain ⟨r30, h30, h⟩ := o_bind h
      refine wp_callvI (k := 12) (ci := 1) (c_X1_freeHands Γ ad a1 I J r30 h30) dX1_mayHold_30 mlX1_74 mwX1_freeHands miX1_freeHands rfl rfl rfl rfl (Nat.le_of_ble_eq_true rfl) rfl (by decide) (by decide) ?_
      refine wp_if_le 48 dX1_mayHold_33 rfl (fun c33 => ?_) (fun c33 => ?_)
      · replace h := o_pos h c33
        refine wp_iconst (v := 0) dX1_mayHold_48 (by decide) ?_
        obtain rfl := Option.some.inj h
        exact wp_ireturn (ty := .boolean) dX1_mayHold_49 rfl rfl ⟨rfl, rfl, rfl, rfl⟩
      · replace h := o_neg h c33
        refine wp_aload_n dX1_mayHold_36 0 rfl ?_
        refine wp_iload_n dX1_mayHold_37 2 rfl ?_
        obtain ⟨r38, h38, h⟩ := o_bind h
        refine wp_callvI (k := 12) (ci := 1) (c_X1_freeHands Γ ad a2 I J r38 h38) dX1_mayHold_38 mlX1_74 mwX1_freeHands miX1_freeHands rfl rfl rfl rfl (Nat.le_of_ble_eq_true rfl) rfl (by decide) (by decide) ?_
        refine wp_if_le 48 dX1_mayHold_41 rfl (fun c41 => ?_) (fun c41 => ?_)
        · replace h := o_pos h c41
          refine wp_iconst (v := 0) dX1_mayHold_48 (by decide) ?_
          obtain rfl := Option.some.inj h
          exact wp_ireturn (ty := .boolean) dX1_mayHold_49 rfl rfl ⟨rfl, rfl, rfl, rfl⟩
        · replace h := o_neg h c41
          refine wp_iconst (v := 1) dX1_mayHold_44 (by decide) ?_
          refine wp_goto 49 dX1_mayHold_45 rfl ?_
          obtain rfl := Option.some.inj h
          exact wp_ireturn (ty := .boolean) dX1_mayHold_49 rfl rfl ⟨rfl, rfl, rfl, rfl⟩
def f_X1_join (a1 : Int32) (a2 : Int32) (I : IT) : Option (IT) :=
  if inbB a1 14 = true then
    if inbB a1 14 = true then
      if inbB a2 14 = true then
        if inbB a2 14 = true then
          (some (upI (upI I 13 a1.toNatClampNeg ((I 13 a1.toNatClampNeg) ||| ((1 : Int32) <<< (a2 &&& 31)))) 13 a2.toNatClampNeg (((upI I 13 a1.toNatClampNeg ((I 13 a1.toNatClampNeg) ||| ((1 : Int32) <<< (a2 &&& 31)))) 13 a2.toNatClampNeg) ||| ((1 : Int32) <<< (a1 &&& 31))))).bind fun i23 =>
          some i23
        else none
      else none
    else none
  else none
set_option maxRecDepth 100000 in
set_option maxHeartbeats 4000000 in
theorem c_X1_join (Γ : GT) (ad : Nat → Nat) (a1 : Int32) (a2 : Int32) (I : IT) (J : JT) (r : IT) (h : f_X1_join a1 a2 I = some r) : CALL Γ mX1_join (0, 0) [.ref (ad 12), .int a1, .int a2] (DX ad) I J (QE none (DX ad) r J) := by
  refine call_of' (by decide) (Nat.le_of_ble_eq_true rfl) (lv0 := [(0, .ref (ad 12)), (1, .int a1), (2, .int a2)]) rfl ?_
  unfold f_X1_join at h
  refine wp_aload_n dX1_join_0 0 rfl ?_
  refine wp_getR (k := 12) (a' := ad 13) dX1_join_1 flX1_9 rfl rfl rfl rfl rfl ?_
  refine wp_iload_n dX1_join_4 1 rfl ?_
  refine wp_dup2 dX1_join_5 rfl rfl ?_
  obtain ⟨g6, h⟩ := o_grd h
  refine wp_iald (k := 13) dX1_join_6 rfl rfl (inb_of g6) ?_
  refine wp_iconst (v := 1) dX1_join_7 (by decide) ?_
  refine wp_iload_n dX1_join_8 2 rfl ?_
  refine wp_ishl dX1_join_9 ?_
  refine wp_ior dX1_join_10 ?_
  obtain ⟨g11, h⟩ := o_grd h
  refine wp_iast (k := 13) dX1_join_11 rfl rfl (inb_of g11) ?_
  refine wp_aload_n dX1_join_12 0 rfl ?_
  refine wp_getR (k := 12) (a' := ad 13) dX1_join_13 flX1_9 rfl rfl rfl rfl rfl ?_
  refine wp_iload_n dX1_join_16 2 rfl ?_
  refine wp_dup2 dX1_join_17 rfl rfl ?_
  obtain ⟨g18, h⟩ := o_grd h
  refine wp_iald (k := 13) dX1_join_18 rfl rfl (inb_of g18) ?_
  refine wp_iconst (v := 1) dX1_join_19 (by decide) ?_
  refine wp_iload_n dX1_join_20 1 rfl ?_
  refine wp_ishl dX1_join_21 ?_
  refine wp_ior dX1_join_22 ?_
  obtain ⟨g23, h⟩ := o_grd h
  obtain ⟨i23, e23, h⟩ := o_bind h
  refine wp_iast (k := 13) dX1_join_23 rfl rfl (inb_of g23) ?_
  refine wp_stI (Option.some.inj e23) ?_
  obtain rfl := Option.some.inj h
  exact wp_return dX1_join_24 rfl ⟨rfl, rfl, rfl, rfl⟩
def f_X9_hold (a1 : Int32) (a2 : Int32) (I : IT) : Option (Int32 × IT) :=
  (f_X9_areTwoPersons a1 a2 I).bind fun r3 =>
  if r3 = 0 then
    some ((-1000001), I)
  else
    (f_X1_mayHold a1 a2 I).bind fun r18 =>
    if r18 = 0 then
      some ((-1000003), I)
    else
      (f_X1_join a1 a2 I).bind fun r33 =>
      some (1, r33)
set_option maxRecDepth 100000 in
set_option maxHeartbeats 4000000 in
theorem c_X9_hold (Γ : GT) (ad : Nat → Nat) (a1 : Int32) (a2 : Int32) (I : IT) (J : JT) (r : Int32 × IT) (h : f_X9_hold a1 a2 I = some r) : CALL Γ mX9_hold (0, 0) [.ref (ad 0), .int a1, .int a2] (DX ad) I J (QE (some (.int r.1)) (DX ad) r.2 J) := by
  refine call_of' (by decide) (Nat.le_of_ble_eq_true rfl) (lv0 := [(0, .ref (ad 0)), (1, .int a1), (2, .int a2)]) rfl ?_
  unfold f_X9_hold at h
  refine wp_aload_n dX9_hold_0 0 rfl ?_
  refine wp_iload_n dX9_hold_1 1 rfl ?_
  refine wp_iload_n dX9_hold_2 2 rfl ?_
  obtain ⟨r3, h3, h⟩ := o_bind h
  refine wp_callvI (k := 0) (ci := 9) (c_X9_areTwoPersons Γ ad a1 a2 I J r3 h3) dX9_hold_3 mlX9_201 mwX9_areTwoPersons miX9_areTwoPersons rfl rfl rfl rfl (Nat.le_of_ble_eq_true rfl) rfl (by decide) (by decide) ?_
  refine wp_if_ne 12 dX9_hold_6 rfl (fun c6 => ?_) (fun c6 => ?_)
  · replace h := o_neg h c6
    refine wp_aload_n dX9_hold_12 0 rfl ?_
    refine wp_getR (k := 0) (a' := ad 12) dX9_hold_13 flX9_37 rfl rfl rfl rfl rfl ?_
    refine wp_iload_n dX9_hold_16 1 rfl ?_
    refine wp_iload_n dX9_hold_17 2 rfl ?_
    obtain ⟨r18, h18, h⟩ := o_bind h
    refine wp_callvI (k := 12) (ci := 1) (c_X1_mayHold Γ ad a1 a2 I J r18 h18) dX9_hold_18 mlX9_204 mwX1_mayHold miX1_mayHold rfl rfl rfl rfl (Nat.le_of_ble_eq_true rfl) rfl (by decide) (by decide) ?_
    refine wp_if_ne 27 dX9_hold_21 rfl (fun c21 => ?_) (fun c21 => ?_)
    · replace h := o_neg h c21
      refine wp_aload_n dX9_hold_27 0 rfl ?_
      refine wp_getR (k := 0) (a' := ad 12) dX9_hold_28 flX9_37 rfl rfl rfl rfl rfl ?_
      refine wp_iload_n dX9_hold_31 1 rfl ?_
      refine wp_iload_n dX9_hold_32 2 rfl ?_
      obtain ⟨r33, h33, h⟩ := o_bind h
      refine wp_callvV (k := 12) (ci := 1) (c_X1_join Γ ad a1 a2 I J r33 h33) dX9_hold_33 mlX9_208 mwX1_join miX1_join rfl rfl rfl rfl (Nat.le_of_ble_eq_true rfl) rfl (by decide) (by decide) ?_
      refine wp_iconst (v := 1) dX9_hold_36 (by decide) ?_
      obtain rfl := Option.some.inj h
      exact wp_ireturn (ty := .int) dX9_hold_37 rfl rfl ⟨rfl, rfl, rfl, rfl⟩
    · replace h := o_pos h c21
      refine wp_ldc (v := (-1000003)) dX9_hold_24 kcX9_207 ?_
      obtain rfl := Option.some.inj h
      exact wp_ireturn (ty := .int) dX9_hold_26 rfl rfl ⟨rfl, rfl, rfl, rfl⟩
  · replace h := o_pos h c6
    refine wp_ldc (v := (-1000001)) dX9_hold_9 kcX9_155 ?_
    obtain rfl := Option.some.inj h
    exact wp_ireturn (ty := .int) dX9_hold_11 rfl rfl ⟨rfl, rfl, rfl, rfl⟩
def f_X1_part (a1 : Int32) (a2 : Int32) (I : IT) : Option (IT) :=
  if inbB a1 14 = true then
    if inbB a1 14 = true then
      if inbB a2 14 = true then
        if inbB a2 14 = true then
          (some (upI (upI I 13 a1.toNatClampNeg ((I 13 a1.toNatClampNeg) &&& (((1 : Int32) <<< (a2 &&& 31)) ^^^ (-1)))) 13 a2.toNatClampNeg (((upI I 13 a1.toNatClampNeg ((I 13 a1.toNatClampNeg) &&& (((1 : Int32) <<< (a2 &&& 31)) ^^^ (-1)))) 13 a2.toNatClampNeg) &&& (((1 : Int32) <<< (a1 &&& 31)) ^^^ (-1))))).bind fun i27 =>
          some i27
        else none
      else none
    else none
  else none
set_option maxRecDepth 100000 in
set_option maxHeartbeats 4000000 in
theorem c_X1_part (Γ : GT) (ad : Nat → Nat) (a1 : Int32) (a2 : Int32) (I : IT) (J : JT) (r : IT) (h : f_X1_part a1 a2 I = some r) : CALL Γ mX1_part (0, 0) [.ref (ad 12), .int a1, .int a2] (DX ad) I J (QE none (DX ad) r J) := by
  refine call_of' (by decide) (Nat.le_of_ble_eq_true rfl) (lv0 := [(0, .ref (ad 12)), (1, .int a1), (2, .int a2)]) rfl ?_
  unfold f_X1_part at h
  refine wp_aload_n dX1_part_0 0 rfl ?_
  refine wp_getR (k := 12) (a' := ad 13) dX1_part_1 flX1_9 rfl rfl rfl rfl rfl ?_
  refine wp_iload_n dX1_part_4 1 rfl ?_
  refine wp_dup2 dX1_part_5 rfl rfl ?_
  obtain ⟨g6, h⟩ := o_grd h
  refine wp_iald (k := 13) dX1_part_6 rfl rfl (inb_of g6) ?_
  refine wp_iconst (v := 1) dX1_part_7 (by decide) ?_
  refine wp_iload_n dX1_part_8 2 rfl ?_
  refine wp_ishl dX1_part_9 ?_
  refine wp_iconst (v := (-1)) dX1_part_10 (by decide) ?_
  refine wp_ixor dX1_part_11 ?_
  refine wp_iand dX1_part_12 ?_
  obtain ⟨g13, h⟩ := o_grd h
  refine wp_iast (k := 13) dX1_part_13 rfl rfl (inb_of g13) ?_
  refine wp_aload_n dX1_part_14 0 rfl ?_
  refine wp_getR (k := 12) (a' := ad 13) dX1_part_15 flX1_9 rfl rfl rfl rfl rfl ?_
  refine wp_iload_n dX1_part_18 2 rfl ?_
  refine wp_dup2 dX1_part_19 rfl rfl ?_
  obtain ⟨g20, h⟩ := o_grd h
  refine wp_iald (k := 13) dX1_part_20 rfl rfl (inb_of g20) ?_
  refine wp_iconst (v := 1) dX1_part_21 (by decide) ?_
  refine wp_iload_n dX1_part_22 1 rfl ?_
  refine wp_ishl dX1_part_23 ?_
  refine wp_iconst (v := (-1)) dX1_part_24 (by decide) ?_
  refine wp_ixor dX1_part_25 ?_
  refine wp_iand dX1_part_26 ?_
  obtain ⟨g27, h⟩ := o_grd h
  obtain ⟨i27, e27, h⟩ := o_bind h
  refine wp_iast (k := 13) dX1_part_27 rfl rfl (inb_of g27) ?_
  refine wp_stI (Option.some.inj e27) ?_
  obtain rfl := Option.some.inj h
  exact wp_return dX1_part_28 rfl ⟨rfl, rfl, rfl, rfl⟩
def f_X9_loose (a1 : Int32) (a2 : Int32) (I : IT) : Option (Int32 × IT) :=
  (f_X9_areTwoPersons a1 a2 I).bind fun r3 =>
  if r3 = 0 then
    some ((-1000001), I)
  else
    (f_X1_holds a1 a2 I).bind fun r18 =>
    if r18 = 0 then
      some ((-1000003), I)
    else
      (f_X1_part a1 a2 I).bind fun r33 =>
      some (1, r33)
set_option maxRecDepth 100000 in
set_option maxHeartbeats 4000000 in
theorem c_X9_loose (Γ : GT) (ad : Nat → Nat) (a1 : Int32) (a2 : Int32) (I : IT) (J : JT) (r : Int32 × IT) (h : f_X9_loose a1 a2 I = some r) : CALL Γ mX9_loose (0, 0) [.ref (ad 0), .int a1, .int a2] (DX ad) I J (QE (some (.int r.1)) (DX ad) r.2 J) := by
  refine call_of' (by decide) (Nat.le_of_ble_eq_true rfl) (lv0 := [(0, .ref (ad 0)), (1, .int a1), (2, .int a2)]) rfl ?_
  unfold f_X9_loose at h
  refine wp_aload_n dX9_loose_0 0 rfl ?_
  refine wp_iload_n dX9_loose_1 1 rfl ?_
  refine wp_iload_n dX9_loose_2 2 rfl ?_
  obtain ⟨r3, h3, h⟩ := o_bind h
  refine wp_callvI (k := 0) (ci := 9) (c_X9_areTwoPersons Γ ad a1 a2 I J r3 h3) dX9_loose_3 mlX9_201 mwX9_areTwoPersons miX9_areTwoPersons rfl rfl rfl rfl (Nat.le_of_ble_eq_true rfl) rfl (by decide) (by decide) ?_
  refine wp_if_ne 12 dX9_loose_6 rfl (fun c6 => ?_) (fun c6 => ?_)
  · replace h := o_neg h c6
    refine wp_aload_n dX9_loose_12 0 rfl ?_
    refine wp_getR (k := 0) (a' := ad 12) dX9_loose_13 flX9_37 rfl rfl rfl rfl rfl ?_
    refine wp_iload_n dX9_loose_16 1 rfl ?_
    refine wp_iload_n dX9_loose_17 2 rfl ?_
    obtain ⟨r18, h18, h⟩ := o_bind h
    refine wp_callvI (k := 12) (ci := 1) (c_X1_holds Γ ad a1 a2 I J r18 h18) dX9_loose_18 mlX9_212 mwX1_holds miX1_holds rfl rfl rfl rfl (Nat.le_of_ble_eq_true rfl) rfl (by decide) (by decide) ?_
    refine wp_if_ne 27 dX9_loose_21 rfl (fun c21 => ?_) (fun c21 => ?_)
    · replace h := o_neg h c21
      refine wp_aload_n dX9_loose_27 0 rfl ?_
      refine wp_getR (k := 0) (a' := ad 12) dX9_loose_28 flX9_37 rfl rfl rfl rfl rfl ?_
      refine wp_iload_n dX9_loose_31 1 rfl ?_
      refine wp_iload_n dX9_loose_32 2 rfl ?_
      obtain ⟨r33, h33, h⟩ := o_bind h
      refine wp_callvV (k := 12) (ci := 1) (c_X1_part Γ ad a1 a2 I J r33 h33) dX9_loose_33 mlX9_215 mwX1_part miX1_part rfl rfl rfl rfl (Nat.le_of_ble_eq_true rfl) rfl (by decide) (by decide) ?_
      refine wp_iconst (v := 1) dX9_loose_36 (by decide) ?_
      obtain rfl := Option.some.inj h
      exact wp_ireturn (ty := .int) dX9_loose_37 rfl rfl ⟨rfl, rfl, rfl, rfl⟩
    · replace h := o_pos h c21
      refine wp_ldc (v := (-1000003)) dX9_loose_24 kcX9_207 ?_
      obtain rfl := Option.some.inj h
      exact wp_ireturn (ty := .int) dX9_loose_26 rfl rfl ⟨rfl, rfl, rfl, rfl⟩
  · replace h := o_pos h c6
    refine wp_ldc (v := (-1000001)) dX9_loose_9 kcX9_155 ?_
    obtain rfl := Option.some.inj h
    exact wp_ireturn (ty := .int) dX9_loose_11 rfl rfl ⟨rfl, rfl, rfl, rfl⟩
def f_X9_canBeFor (a1 : Int32) (a2 : Int32) (a3 : Int32) (I : IT) : Option (Int32) :=
  if a3 = ((-1) : Int32) then
    some 1
  else
    (f_X2_hasPerson a3 I).bind fun r12 =>
    if r12 = 0 then
      some 0
    else
      if a3 = a1 then
        some 0
      else
        if a3 = a2 then
          some 0
        else
          (f_X2_sortOf a3 I).bind fun r33 =>
          if r33 = (2 : Int32) then
            some 0
          else
            some 1
set_option maxRecDepth 100000 in
set_option maxHeartbeats 4000000 in
theorem c_X9_canBeFor (Γ : GT) (ad : Nat → Nat) (a1 : Int32) (a2 : Int32) (a3 : Int32) (I : IT) (J : JT) (r : Int32) (h : f_X9_canBeFor a1 a2 a3 I = some r) : CALL Γ mX9_canBeFor (0, 0) [.ref (ad 0), .int a1, .int a2, .int a3] (DX ad) I J (QE (some (.int r)) (DX ad) I J) := by
  refine call_of' (by decide) (Nat.le_of_ble_eq_true rfl) (lv0 := [(0, .ref (ad 0)), (1, .int a1), (2, .int a2), (3, .int a3)]) rfl ?_
  unfold f_X9_canBeFor at h
  refine wp_iload_n dX9_canBeFor_0 3 rfl ?_
  refine wp_iconst (v := (-1)) dX9_canBeFor_1 (by decide) ?_
  refine wp_icmp_ne 7 dX9_canBeFor_2 rfl (fun c2 => ?_) (fun c2 => ?_)
  · replace h := o_neg h c2
    refine wp_aload_n dX9_canBeFor_7 0 rfl ?_
    refine wp_getR (k := 0) (a' := ad 3) dX9_canBeFor_8 flX9_19 rfl rfl rfl rfl rfl ?_
    refine wp_iload_n dX9_canBeFor_11 3 rfl ?_
    obtain ⟨r12, h12, h⟩ := o_bind h
    refine wp_callvI (k := 3) (ci := 2) (c_X2_hasPerson Γ ad a3 I J r12 h12) dX9_canBeFor_12 mlX9_151 mwX2_hasPerson miX2_hasPerson rfl rfl rfl rfl (Nat.le_of_ble_eq_true rfl) rfl (by decide) (by decide) ?_
    refine wp_if_eq 44 dX9_canBeFor_15 rfl (fun c15 => ?_) (fun c15 => ?_)
    · replace h := o_pos h c15
      refine wp_iconst (v := 0) dX9_canBeFor_44 (by decide) ?_
      obtain rfl := Option.some.inj h
      exact wp_ireturn (ty := .boolean) dX9_canBeFor_45 rfl rfl ⟨rfl, rfl, rfl, rfl⟩
    · replace h := o_neg h c15
      refine wp_iload_n dX9_canBeFor_18 3 rfl ?_
      refine wp_iload_n dX9_canBeFor_19 1 rfl ?_
      refine wp_icmp_eq 44 dX9_canBeFor_20 rfl (fun c20 => ?_) (fun c20 => ?_)
      · replace h := o_pos h c20
        refine wp_iconst (v := 0) dX9_canBeFor_44 (by decide) ?_
        obtain rfl := Option.some.inj h
        exact wp_ireturn (ty := .boolean) dX9_canBeFor_45 rfl rfl ⟨rfl, rfl, rfl, rfl⟩
      · replace h := o_neg h c20
        refine wp_iload_n dX9_canBeFor_23 3 rfl ?_
        refine wp_iload_n dX9_canBeFor_24 2 rfl ?_
        refine wp_icmp_eq 44 dX9_canBeFor_25 rfl (fun c25 => ?_) (fun c25 => ?_)
        · replace h := o_pos h c25
          refine wp_iconst (v := 0) dX9_canBeFor_44 (by decide) ?_
          obtain rfl := Option.some.inj h
          exact wp_ireturn (ty := .boolean) dX9_canBeFor_45 rfl rfl ⟨rfl, rfl, rfl, rfl⟩
        · replace h := o_neg h c25
          refine wp_aload_n dX9_canBeFor_28 0 rfl ?_
          refine wp_getR (k := 0) (a' := ad 3) dX9_canBeFor_29 flX9_19 rfl rfl rfl rfl rfl ?_
          refine wp_iload_n dX9_canBeFor_32 3 rfl ?_
          obtain ⟨r33, h33, h⟩ := o_bind h
          refine wp_callvI (k := 3) (ci := 2) (c_X2_sortOf Γ ad a3 I J r33 h33) dX9_canBeFor_33 mlX9_319 mwX2_sortOf miX2_sortOf rfl rfl rfl rfl (Nat.le_of_ble_eq_true rfl) rfl (by decide) (by decide) ?_
          refine wp_iconst (v := 2) dX9_canBeFor_36 (by decide) ?_
          refine wp_icmp_eq 44 dX9_canBeFor_37 rfl (fun c37 => ?_) (fun c37 => ?_)
          · replace h := o_pos h c37
            refine wp_iconst (v := 0) dX9_canBeFor_44 (by decide) ?_
            obtain rfl := Option.some.inj h
            exact wp_ireturn (ty := .boolean) dX9_canBeFor_45 rfl rfl ⟨rfl, rfl, rfl, rfl⟩
          · replace h := o_neg h c37
            refine wp_iconst (v := 1) dX9_canBeFor_40 (by decide) ?_
            refine wp_goto 45 dX9_canBeFor_41 rfl ?_
            obtain rfl := Option.some.inj h
            exact wp_ireturn (ty := .boolean) dX9_canBeFor_45 rfl rfl ⟨rfl, rfl, rfl, rfl⟩
  · replace h := o_pos h c2
    refine wp_iconst (v := 1) dX9_canBeFor_5 (by decide) ?_
    obtain rfl := Option.some.inj h
    exact wp_ireturn (ty := .boolean) dX9_canBeFor_6 rfl rfl ⟨rfl, rfl, rfl, rfl⟩
def f_X6_afterSign (a0 : Int32) (a1 : Int32) : Option (Int32) :=
  if a1 = 99 then
    some (a0 + 100)
  else
    if a1 = 100 then
      some (a0 * 2)
    else
      if a1 = 104 then
        if (a0 - a0 / 2 * 2) = 0 then
          some (a0 / 2)
        else
          some (-1)
      else
        if a1 = 105 then
          some (a0 + 1)
        else
          if a1 = 120 then
            some (a0 + 10)
          else
            some (-1)
set_option maxRecDepth 100000 in
set_option maxHeartbeats 4000000 in
theorem c_X6_afterSign (Γ : GT) (ad : Nat → Nat) (a0 : Int32) (a1 : Int32) (I : IT) (J : JT) (r : Int32) (h : f_X6_afterSign a0 a1 = some r) : CALL Γ mX6_afterSign (0, 0) [.int a0, .int a1] (DX ad) I J (QE (some (.int r)) (DX ad) I J) := by
  refine call_of' (by decide) (Nat.le_of_ble_eq_true rfl) (lv0 := [(0, .int a0), (1, .int a1)]) rfl ?_
  unfold f_X6_afterSign at h
  refine wp_iload_n dX6_afterSign_0 1 rfl ?_
  by_cases e1_99 : a1 = 99
  · replace h := o_pos h e1_99
    refine wp_lookup (off := 51) 52 dX6_afterSign_1 (by decide) (by rw [e1_99]; decide) rfl ?_
    refine wp_iload_n dX6_afterSign_52 0 rfl ?_
    refine wp_bipush (v := 100) dX6_afterSign_53 (by decide) ?_
    refine wp_iadd dX6_afterSign_55 ?_
    obtain rfl := Option.some.inj h
    exact wp_ireturn (ty := .int) dX6_afterSign_56 rfl rfl ⟨rfl, rfl, rfl, rfl⟩
  · replace h := o_neg h e1_99
    by_cases e1_100 : a1 = 100
    · replace h := o_pos h e1_100
      refine wp_lookup (off := 65) 66 dX6_afterSign_1 (by decide) (by rw [e1_100]; decide) rfl ?_
      refine wp_iload_n dX6_afterSign_66 0 rfl ?_
      refine wp_iconst (v := 2) dX6_afterSign_67 (by decide) ?_
      refine wp_imul dX6_afterSign_68 ?_
      obtain rfl := Option.some.inj h
      exact wp_ireturn (ty := .int) dX6_afterSign_69 rfl rfl ⟨rfl, rfl, rfl, rfl⟩
    · replace h := o_neg h e1_100
      by_cases e1_104 : a1 = 104
      · replace h := o_pos h e1_104
        refine wp_lookup (off := 69) 70 dX6_afterSign_1 (by decide) (by rw [e1_104]; decide) rfl ?_
        refine wp_iload_n dX6_afterSign_70 0 rfl ?_
        refine wp_iconst (v := 2) dX6_afterSign_71 (by decide) ?_
        refine wp_irem dX6_afterSign_72 (by decide) ?_
        refine wp_if_ne 82 dX6_afterSign_73 rfl (fun c73 => ?_) (fun c73 => ?_)
        · replace h := o_neg h c73
          refine wp_iconst (v := (-1)) dX6_afterSign_82 (by decide) ?_
          obtain rfl := Option.some.inj h
          exact wp_ireturn (ty := .int) dX6_afterSign_83 rfl rfl ⟨rfl, rfl, rfl, rfl⟩
        · replace h := o_pos h c73
          refine wp_iload_n dX6_afterSign_76 0 rfl ?_
          refine wp_iconst (v := 2) dX6_afterSign_77 (by decide) ?_
          refine wp_idiv dX6_afterSign_78 (by decide) ?_
          refine wp_goto 83 dX6_afterSign_79 rfl ?_
          obtain rfl := Option.some.inj h
          exact wp_ireturn (ty := .int) dX6_afterSign_83 rfl rfl ⟨rfl, rfl, rfl, rfl⟩
      · replace h := o_neg h e1_104
        by_cases e1_105 : a1 = 105
        · replace h := o_pos h e1_105
          refine wp_lookup (off := 61) 62 dX6_afterSign_1 (by decide) (by rw [e1_105]; decide) rfl ?_
          refine wp_iload_n dX6_afterSign_62 0 rfl ?_
          refine wp_iconst (v := 1) dX6_afterSign_63 (by decide) ?_
          refine wp_iadd dX6_afterSign_64 ?_
          obtain rfl := Option.some.inj h
          exact wp_ireturn (ty := .int) dX6_afterSign_65 rfl rfl ⟨rfl, rfl, rfl, rfl⟩
        · replace h := o_neg h e1_105
          by_cases e1_120 : a1 = 120
          · replace h := o_pos h e1_120
            refine wp_lookup (off := 56) 57 dX6_afterSign_1 (by decide) (by rw [e1_120]; decide) rfl ?_
            refine wp_iload_n dX6_afterSign_57 0 rfl ?_
            refine wp_bipush (v := 10) dX6_afterSign_58 (by decide) ?_
            refine wp_iadd dX6_afterSign_60 ?_
            obtain rfl := Option.some.inj h
            exact wp_ireturn (ty := .int) dX6_afterSign_61 rfl rfl ⟨rfl, rfl, rfl, rfl⟩
          · replace h := o_neg h e1_120
            refine wp_lookup (off := 83) 84 dX6_afterSign_1 (by decide) (by rw [lv_osw e1_99 (by decide), lv_osw e1_100 (by decide), lv_osw e1_104 (by decide), lv_osw e1_105 (by decide), lv_osw e1_120 (by decide)]; rfl) rfl ?_
            refine wp_iconst (v := (-1)) dX6_afterSign_84 (by decide) ?_
            obtain rfl := Option.some.inj h
            exact wp_ireturn (ty := .int) dX6_afterSign_85 rfl rfl ⟨rfl, rfl, rfl, rfl⟩
def f_X6_pricePressed_15 : Nat → Int32 → Int32 → IT → Option (Int32)
  | 0, _, _, _ => none
  | n + 1, v1, v2, I =>
    if (I 1 1) ≤ v2 then
      (f_X9_isWithin v1 1 999).bind fun r49 =>
      if r49 = 0 then
        some (-1)
      else
        some v1
    else
      if v1 = ((-1) : Int32) then
        (f_X9_isWithin v1 1 999).bind fun r49 =>
        if r49 = 0 then
          some (-1)
        else
          some v1
      else
        (f_X6_byteAt v2 I).bind fun r31 =>
        (f_X6_afterSign v1 r31).bind fun r34 =>
        f_X6_pricePressed_15 n r34 (v2 + 1) I
def f_X6_pricePressed (I : IT) : Option (Int32) :=
  if (I 1 1) ≤ (20 : Int32) then
    f_X6_pricePressed_15 FU 0 0 I
  else
    some (-1)
set_option maxRecDepth 100000 in
set_option maxHeartbeats 4000000 in
theorem w_X6_pricePressed_15 (Γ : GT) (ad : Nat → Nat) : ∀ (n : Nat) (v1 : Int32) (v2 : Int32) (I : IT) (J : JT) (r : Int32), f_X6_pricePressed_15 n v1 v2 I = some r → WP Γ mX6_pricePressed (0, 0) 15 [(0, .ref (ad 1)), (1, .int v1), (2, .int v2)] [] (DX ad) I J (QE (some (.int r)) (DX ad) I J) := by
  intro n
  induction n with
  | zero => intro v1 v2 I J r h; exact absurd h (by simp [f_X6_pricePressed_15])
  | succ n ih =>
    intro v1 v2 I J r h
    rw [f_X6_pricePressed_15] at h
    refine wp_iload_n dX6_pricePressed_15 2 rfl ?_
    refine wp_aload_n dX6_pricePressed_16 0 rfl ?_
    refine wp_getI (k := 1) dX6_pricePressed_17 flX6_15 rfl rfl rfl rfl ?_
    refine wp_icmp_ge 44 dX6_pricePressed_20 rfl (fun c20 => ?_) (fun c20 => ?_)
    · replace h := o_pos h c20
      refine wp_iload_n dX6_pricePressed_44 1 rfl ?_
      refine wp_iconst (v := 1) dX6_pricePressed_45 (by decide) ?_
      refine wp_sipush (v := 999) dX6_pricePressed_46 (by decide) ?_
      obtain ⟨r49, h49, h⟩ := o_bind h
      refine wp_callsNI (c_X9_isWithin Γ ad v1 1 999 I J r49 h49) dX6_pricePressed_49 mlX6_27 mwX9_isWithin miX9_isWithin rfl (Nat.le_of_ble_eq_true rfl) rfl (by decide) (by decide) ?_
      refine wp_if_eq 59 dX6_pricePressed_52 rfl (fun c52 => ?_) (fun c52 => ?_)
      · replace h := o_pos h c52
        refine wp_iconst (v := (-1)) dX6_pricePressed_59 (by decide) ?_
        obtain rfl := Option.some.inj h
        exact wp_ireturn (ty := .int) dX6_pricePressed_60 rfl rfl ⟨rfl, rfl, rfl, rfl⟩
      · replace h := o_neg h c52
        refine wp_iload_n dX6_pricePressed_55 1 rfl ?_
        refine wp_goto 60 dX6_pricePressed_56 rfl ?_
        obtain rfl := Option.some.inj h
        exact wp_ireturn (ty := .int) dX6_pricePressed_60 rfl rfl ⟨rfl, rfl, rfl, rfl⟩
    · replace h := o_neg h c20
      refine wp_iload_n dX6_pricePressed_23 1 rfl ?_
      refine wp_iconst (v := (-1)) dX6_pricePressed_24 (by decide) ?_
      refine wp_icmp_eq 44 dX6_pricePressed_25 rfl (fun c25 => ?_) (fun c25 => ?_)
      · replace h := o_pos h c25
        refine wp_iload_n dX6_pricePressed_44 1 rfl ?_
        refine wp_iconst (v := 1) dX6_pricePressed_45 (by decide) ?_
        refine wp_sipush (v := 999) dX6_pricePressed_46 (by decide) ?_
        obtain ⟨r49, h49, h⟩ := o_bind h
        refine wp_callsNI (c_X9_isWithin Γ ad v1 1 999 I J r49 h49) dX6_pricePressed_49 mlX6_27 mwX9_isWithin miX9_isWithin rfl (Nat.le_of_ble_eq_true rfl) rfl (by decide) (by decide) ?_
        refine wp_if_eq 59 dX6_pricePressed_52 rfl (fun c52 => ?_) (fun c52 => ?_)
        · replace h := o_pos h c52
          refine wp_iconst (v := (-1)) dX6_pricePressed_59 (by decide) ?_
          obtain rfl := Option.some.inj h
          exact wp_ireturn (ty := .int) dX6_pricePressed_60 rfl rfl ⟨rfl, rfl, rfl, rfl⟩
        · replace h := o_neg h c52
          refine wp_iload_n dX6_pricePressed_55 1 rfl ?_
          refine wp_goto 60 dX6_pricePressed_56 rfl ?_
          obtain rfl := Option.some.inj h
          exact wp_ireturn (ty := .int) dX6_pricePressed_60 rfl rfl ⟨rfl, rfl, rfl, rfl⟩
      · replace h := o_neg h c25
        refine wp_iload_n dX6_pricePressed_28 1 rfl ?_
        refine wp_aload_n dX6_pricePressed_29 0 rfl ?_
        refine wp_iload_n dX6_pricePressed_30 2 rfl ?_
        obtain ⟨r31, h31, h⟩ := o_bind h
        refine wp_callvI (k := 1) (ci := 6) (c_X6_byteAt Γ ad v2 I J r31 h31) dX6_pricePressed_31 mlX6_19 mwX6_byteAt miX6_byteAt rfl rfl rfl rfl (Nat.le_of_ble_eq_true rfl) rfl (by decide) (by decide) ?_
        obtain ⟨r34, h34, h⟩ := o_bind h
        refine wp_callsI (c_X6_afterSign Γ ad v1 r31 I J r34 h34) dX6_pricePressed_34 mlX6_23 mwX6_afterSign miX6_afterSign rfl (Nat.le_of_ble_eq_true rfl) rfl (by decide) (by decide) ?_
        refine wp_istore_n (lv' := [(0, _), (1, _), (2, _)]) dX6_pricePressed_37 rfl rfl rfl rfl ?_
        refine wp_iinc (v := v2 + 1) (lv' := [(0, _), (1, _), (2, _)]) dX6_pricePressed_38 2 rfl rfl rfl rfl rfl ?_
        refine wp_goto 15 dX6_pricePressed_41 rfl ?_
        refine wp_pick [0, 1, 2] (lv' := [(0, _), (1, _), (2, _)]) rfl ?_
        exact ih r34 (v2 + 1) I J r h
set_option maxRecDepth 100000 in
set_option maxHeartbeats 4000000 in
theorem c_X6_pricePressed (Γ : GT) (ad : Nat → Nat) (I : IT) (J : JT) (r : Int32) (h : f_X6_pricePressed I = some r) : CALL Γ mX6_pricePressed (0, 0) [.ref (ad 1)] (DX ad) I J (QE (some (.int r)) (DX ad) I J) := by
  refine call_of' (by decide) (Nat.le_of_ble_eq_true rfl) (lv0 := [(0, .ref (ad 1))]) rfl ?_
  unfold f_X6_pricePressed at h
  refine wp_aload_n dX6_pricePressed_0 0 rfl ?_
  refine wp_getI (k := 1) dX6_pricePressed_1 flX6_15 rfl rfl rfl rfl ?_
  refine wp_bipush (v := 20) dX6_pricePressed_4 (by decide) ?_
  refine wp_icmp_le 11 dX6_pricePressed_6 rfl (fun c6 => ?_) (fun c6 => ?_)
  · replace h := o_pos h c6
    refine wp_iconst (v := 0) dX6_pricePressed_11 (by decide) ?_
    refine wp_istore_n (lv' := [(0, _), (1, _)]) dX6_pricePressed_12 rfl rfl rfl rfl ?_
    refine wp_iconst (v := 0) dX6_pricePressed_13 (by decide) ?_
    refine wp_istore_n (lv' := [(0, _), (1, _), (2, _)]) dX6_pricePressed_14 rfl rfl rfl rfl ?_
    refine wp_pick [0, 1, 2] (lv' := [(0, _), (1, _), (2, _)]) rfl ?_
    exact w_X6_pricePressed_15 Γ ad FU 0 0 I J r h
  · replace h := o_neg h c6
    refine wp_iconst (v := (-1)) dX6_pricePressed_9 (by decide) ?_
    obtain rfl := Option.some.inj h
    exact wp_ireturn (ty := .int) dX6_pricePressed_10 rfl rfl ⟨rfl, rfl, rfl, rfl⟩
def f_X1_maySpeakFor (a1 : Int32) (a2 : Int32) (I : IT) : Option (Int32) :=
  (f_X2_sortOf a1 I).bind fun r5 =>
  if r5 = (2 : Int32) then
    if a1 = a2 then
      some 0
    else
      (f_X1_holds a1 a2 I).bind fun r20 =>
      if r20 = 0 then
        some 0
      else
        some 1
  else
    if a1 = a2 then
      some 1
    else
      some 0
set_option maxRecDepth 100000 in
set_option maxHeartbeats 4000000 in
theorem c_X1_maySpeakFor (Γ : GT) (ad : Nat → Nat) (a1 : Int32) (a2 : Int32) (I : IT) (J : JT) (r : Int32) (h : f_X1_maySpeakFor a1 a2 I = some r) : CALL Γ mX1_maySpeakFor (0, 0) [.ref (ad 12), .int a1, .int a2] (DX ad) I J (QE (some (.int r)) (DX ad) I J) := by
  refine call_of' (by decide) (Nat.le_of_ble_eq_true rfl) (lv0 := [(0, .ref (ad 12)), (1, .int a1), (2, .int a2)]) rfl ?_
  unfold f_X1_maySpeakFor at h
  refine wp_aload_n dX1_maySpeakFor_0 0 rfl ?_
  refine wp_getR (k := 12) (a' := ad 3) dX1_maySpeakFor_1 flX1_30 rfl rfl rfl rfl rfl ?_
  refine wp_iload_n dX1_maySpeakFor_4 1 rfl ?_
  obtain ⟨r5, h5, h⟩ := o_bind h
  refine wp_callvI (k := 3) (ci := 2) (c_X2_sortOf Γ ad a1 I J r5 h5) dX1_maySpeakFor_5 mlX1_67 mwX2_sortOf miX2_sortOf rfl rfl rfl rfl (Nat.le_of_ble_eq_true rfl) rfl (by decide) (by decide) ?_
  refine wp_iconst (v := 2) dX1_maySpeakFor_8 (by decide) ?_
  refine wp_icmp_ne 32 dX1_maySpeakFor_9 rfl (fun c9 => ?_) (fun c9 => ?_)
  · replace h := o_neg h c9
    refine wp_iload_n dX1_maySpeakFor_32 1 rfl ?_
    refine wp_iload_n dX1_maySpeakFor_33 2 rfl ?_
    refine wp_icmp_ne 41 dX1_maySpeakFor_34 rfl (fun c34 => ?_) (fun c34 => ?_)
    · replace h := o_neg h c34
      refine wp_iconst (v := 0) dX1_maySpeakFor_41 (by decide) ?_
      obtain rfl := Option.some.inj h
      exact wp_ireturn (ty := .boolean) dX1_maySpeakFor_42 rfl rfl ⟨rfl, rfl, rfl, rfl⟩
    · replace h := o_pos h c34
      refine wp_iconst (v := 1) dX1_maySpeakFor_37 (by decide) ?_
      refine wp_goto 42 dX1_maySpeakFor_38 rfl ?_
      obtain rfl := Option.some.inj h
      exact wp_ireturn (ty := .boolean) dX1_maySpeakFor_42 rfl rfl ⟨rfl, rfl, rfl, rfl⟩
  · replace h := o_pos h c9
    refine wp_iload_n dX1_maySpeakFor_12 1 rfl ?_
    refine wp_iload_n dX1_maySpeakFor_13 2 rfl ?_
    refine wp_icmp_eq 30 dX1_maySpeakFor_14 rfl (fun c14 => ?_) (fun c14 => ?_)
    · replace h := o_pos h c14
      refine wp_iconst (v := 0) dX1_maySpeakFor_30 (by decide) ?_
      obtain rfl := Option.some.inj h
      exact wp_ireturn (ty := .boolean) dX1_maySpeakFor_31 rfl rfl ⟨rfl, rfl, rfl, rfl⟩
    · replace h := o_neg h c14
      refine wp_aload_n dX1_maySpeakFor_17 0 rfl ?_
      refine wp_iload_n dX1_maySpeakFor_18 1 rfl ?_
      refine wp_iload_n dX1_maySpeakFor_19 2 rfl ?_
      obtain ⟨r20, h20, h⟩ := o_bind h
      refine wp_callvI (k := 12) (ci := 1) (c_X1_holds Γ ad a1 a2 I J r20 h20) dX1_maySpeakFor_20 mlX1_70 mwX1_holds miX1_holds rfl rfl rfl rfl (Nat.le_of_ble_eq_true rfl) rfl (by decide) (by decide) ?_
      refine wp_if_eq 30 dX1_maySpeakFor_23 rfl (fun c23 => ?_) (fun c23 => ?_)
      · replace h := o_pos h c23
        refine wp_iconst (v := 0) dX1_maySpeakFor_30 (by decide) ?_
        obtain rfl := Option.some.inj h
        exact wp_ireturn (ty := .boolean) dX1_maySpeakFor_31 rfl rfl ⟨rfl, rfl, rfl, rfl⟩
      · replace h := o_neg h c23
        refine wp_iconst (v := 1) dX1_maySpeakFor_26 (by decide) ?_
        refine wp_goto 31 dX1_maySpeakFor_27 rfl ?_
        obtain rfl := Option.some.inj h
        exact wp_ireturn (ty := .boolean) dX1_maySpeakFor_31 rfl rfl ⟨rfl, rfl, rfl, rfl⟩
def f_X1_maySpeak (a1 : Int32) (a2 : Int32) (a3 : Int32) (a4 : Int32) (I : IT) : Option (Int32) :=
  (f_X1_isSold a3 I).bind fun r2 =>
  if r2 = 0 then
    (f_X1_holds a1 a2 I).bind fun r11 =>
    if r11 = 0 then
      some 0
    else
      (f_X1_maySpeakFor a1 a4 I).bind fun r21 =>
      if r21 = 0 then
        some 0
      else
        (f_X2_sortOf a4 I).bind fun r35 =>
        if r35 = 0 then
          if a3 = a4 then
            some 1
          else
            some 0
        else
          (f_X2_sortOf a2 I).bind fun r58 =>
          if r58 = 0 then
            if a3 = a2 then
              some 1
            else
              some 0
          else
            some 1
  else
    some 0
set_option maxRecDepth 100000 in
set_option maxHeartbeats 4000000 in
theorem c_X1_maySpeak (Γ : GT) (ad : Nat → Nat) (a1 : Int32) (a2 : Int32) (a3 : Int32) (a4 : Int32) (I : IT) (J : JT) (r : Int32) (h : f_X1_maySpeak a1 a2 a3 a4 I = some r) : CALL Γ mX1_maySpeak (0, 0) [.ref (ad 12), .int a1, .int a2, .int a3, .int a4] (DX ad) I J (QE (some (.int r)) (DX ad) I J) := by
  refine call_of' (by decide) (Nat.le_of_ble_eq_true rfl) (lv0 := [(0, .ref (ad 12)), (1, .int a1), (2, .int a2), (3, .int a3), (4, .int a4)]) rfl ?_
  unfold f_X1_maySpeak at h
  refine wp_aload_n dX1_maySpeak_0 0 rfl ?_
  refine wp_iload_n dX1_maySpeak_1 3 rfl ?_
  obtain ⟨r2, h2, h⟩ := o_bind h
  refine wp_callvI (k := 12) (ci := 1) (c_X1_isSold Γ ad a3 I J r2 h2) dX1_maySpeak_2 mlX1_80 mwX1_isSold miX1_isSold rfl rfl rfl rfl (Nat.le_of_ble_eq_true rfl) rfl (by decide) (by decide) ?_
  refine wp_if_ne 27 dX1_maySpeak_5 rfl (fun c5 => ?_) (fun c5 => ?_)
  · replace h := o_neg h c5
    refine wp_iconst (v := 0) dX1_maySpeak_27 (by decide) ?_
    obtain rfl := Option.some.inj h
    exact wp_ireturn (ty := .boolean) dX1_maySpeak_28 rfl rfl ⟨rfl, rfl, rfl, rfl⟩
  · replace h := o_pos h c5
    refine wp_aload_n dX1_maySpeak_8 0 rfl ?_
    refine wp_iload_n dX1_maySpeak_9 1 rfl ?_
    refine wp_iload_n dX1_maySpeak_10 2 rfl ?_
    obtain ⟨r11, h11, h⟩ := o_bind h
    refine wp_callvI (k := 12) (ci := 1) (c_X1_holds Γ ad a1 a2 I J r11 h11) dX1_maySpeak_11 mlX1_70 mwX1_holds miX1_holds rfl rfl rfl rfl (Nat.le_of_ble_eq_true rfl) rfl (by decide) (by decide) ?_
    refine wp_if_eq 27 dX1_maySpeak_14 rfl (fun c14 => ?_) (fun c14 => ?_)
    · replace h := o_pos h c14
      refine wp_iconst (v := 0) dX1_maySpeak_27 (by decide) ?_
      obtain rfl := Option.some.inj h
      exact wp_ireturn (ty := .boolean) dX1_maySpeak_28 rfl rfl ⟨rfl, rfl, rfl, rfl⟩
    · replace h := o_neg h c14
      refine wp_aload_n dX1_maySpeak_17 0 rfl ?_
      refine wp_iload_n dX1_maySpeak_18 1 rfl ?_
      refine wp_iload dX1_maySpeak_19 4 rfl ?_
      obtain ⟨r21, h21, h⟩ := o_bind h
      refine wp_callvI (k := 12) (ci := 1) (c_X1_maySpeakFor Γ ad a1 a4 I J r21 h21) dX1_maySpeak_21 mlX1_84 mwX1_maySpeakFor miX1_maySpeakFor rfl rfl rfl rfl (Nat.le_of_ble_eq_true rfl) rfl (by decide) (by decide) ?_
      refine wp_if_ne 29 dX1_maySpeak_24 rfl (fun c24 => ?_) (fun c24 => ?_)
      · replace h := o_neg h c24
        refine wp_aload_n dX1_maySpeak_29 0 rfl ?_
        refine wp_getR (k := 12) (a' := ad 3) dX1_maySpeak_30 flX1_30 rfl rfl rfl rfl rfl ?_
        refine wp_iload dX1_maySpeak_33 4 rfl ?_
        obtain ⟨r35, h35, h⟩ := o_bind h
        refine wp_callvI (k := 3) (ci := 2) (c_X2_sortOf Γ ad a4 I J r35 h35) dX1_maySpeak_35 mlX1_67 mwX2_sortOf miX2_sortOf rfl rfl rfl rfl (Nat.le_of_ble_eq_true rfl) rfl (by decide) (by decide) ?_
        refine wp_if_ne 53 dX1_maySpeak_38 rfl (fun c38 => ?_) (fun c38 => ?_)
        · replace h := o_neg h c38
          refine wp_aload_n dX1_maySpeak_53 0 rfl ?_
          refine wp_getR (k := 12) (a' := ad 3) dX1_maySpeak_54 flX1_30 rfl rfl rfl rfl rfl ?_
          refine wp_iload_n dX1_maySpeak_57 2 rfl ?_
          obtain ⟨r58, h58, h⟩ := o_bind h
          refine wp_callvI (k := 3) (ci := 2) (c_X2_sortOf Γ ad a2 I J r58 h58) dX1_maySpeak_58 mlX1_67 mwX2_sortOf miX2_sortOf rfl rfl rfl rfl (Nat.le_of_ble_eq_true rfl) rfl (by decide) (by decide) ?_
          refine wp_if_ne 69 dX1_maySpeak_61 rfl (fun c61 => ?_) (fun c61 => ?_)
          · replace h := o_neg h c61
            refine wp_iconst (v := 1) dX1_maySpeak_69 (by decide) ?_
            refine wp_goto 74 dX1_maySpeak_70 rfl ?_
            obtain rfl := Option.some.inj h
            exact wp_ireturn (ty := .boolean) dX1_maySpeak_74 rfl rfl ⟨rfl, rfl, rfl, rfl⟩
          · replace h := o_pos h c61
            refine wp_iload_n dX1_maySpeak_64 3 rfl ?_
            refine wp_iload_n dX1_maySpeak_65 2 rfl ?_
            refine wp_icmp_ne 73 dX1_maySpeak_66 rfl (fun c66 => ?_) (fun c66 => ?_)
            · replace h := o_neg h c66
              refine wp_iconst (v := 0) dX1_maySpeak_73 (by decide) ?_
              obtain rfl := Option.some.inj h
              exact wp_ireturn (ty := .boolean) dX1_maySpeak_74 rfl rfl ⟨rfl, rfl, rfl, rfl⟩
            · replace h := o_pos h c66
              refine wp_iconst (v := 1) dX1_maySpeak_69 (by decide) ?_
              refine wp_goto 74 dX1_maySpeak_70 rfl ?_
              obtain rfl := Option.some.inj h
              exact wp_ireturn (ty := .boolean) dX1_maySpeak_74 rfl rfl ⟨rfl, rfl, rfl, rfl⟩
        · replace h := o_pos h c38
          refine wp_iload_n dX1_maySpeak_41 3 rfl ?_
          refine wp_iload dX1_maySpeak_42 4 rfl ?_
          refine wp_icmp_ne 51 dX1_maySpeak_44 rfl (fun c44 => ?_) (fun c44 => ?_)
          · replace h := o_neg h c44
            refine wp_iconst (v := 0) dX1_maySpeak_51 (by decide) ?_
            obtain rfl := Option.some.inj h
            exact wp_ireturn (ty := .boolean) dX1_maySpeak_52 rfl rfl ⟨rfl, rfl, rfl, rfl⟩
          · replace h := o_pos h c44
            refine wp_iconst (v := 1) dX1_maySpeak_47 (by decide) ?_
            refine wp_goto 52 dX1_maySpeak_48 rfl ?_
            obtain rfl := Option.some.inj h
            exact wp_ireturn (ty := .boolean) dX1_maySpeak_52 rfl rfl ⟨rfl, rfl, rfl, rfl⟩
      · replace h := o_pos h c24
        refine wp_iconst (v := 0) dX1_maySpeak_27 (by decide) ?_
        obtain rfl := Option.some.inj h
        exact wp_ireturn (ty := .boolean) dX1_maySpeak_28 rfl rfl ⟨rfl, rfl, rfl, rfl⟩
def f_X1_leftInPurse_20 : Nat → Int32 → Int32 → Int32 → Int32 → IT → Option (Int32)
  | 0, _, _, _, _, _ => none
  | n + 1, v1, v2, v3, v4, I =>
    if (I 3 0) ≤ v4 then
      some v3
    else
      if v4 = v2 then
        f_X1_leftInPurse_20 n v1 v2 v3 (v4 + 1) I
      else
        (f_X1_isBound v1 v4 I).bind fun r42 =>
        if r42 = 0 then
          f_X1_leftInPurse_20 n v1 v2 v3 (v4 + 1) I
        else
          if inbB ((v1 * 6) + v4) 84 = true then
            f_X1_leftInPurse_20 n v1 v2 (v3 - (I 14 ((v1 * 6) + v4).toNatClampNeg)) (v4 + 1) I
          else none
def f_X1_leftInPurse (a1 : Int32) (a2 : Int32) (I : IT) : Option (Int32) :=
  if inbB a1 14 = true then
    if inbB a1 14 = true then
      f_X1_leftInPurse_20 FU a1 a2 ((I 5 a1.toNatClampNeg) - (I 18 a1.toNatClampNeg)) 0 I
    else none
  else none
set_option maxRecDepth 100000 in
set_option maxHeartbeats 4000000 in
theorem w_X1_leftInPurse_20 (Γ : GT) (ad : Nat → Nat) : ∀ (n : Nat) (v1 : Int32) (v2 : Int32) (v3 : Int32) (v4 : Int32) (I : IT) (J : JT) (r : Int32), f_X1_leftInPurse_20 n v1 v2 v3 v4 I = some r → WP Γ mX1_leftInPurse (0, 0) 20 [(0, .ref (ad 12)), (1, .int v1), (2, .int v2), (3, .int v3), (4, .int v4)] [] (DX ad) I J (QE (some (.int r)) (DX ad) I J) := by
  intro n
  induction n with
  | zero => intro v1 v2 v3 v4 I J r h; exact absurd h (by simp [f_X1_leftInPurse_20])
  | succ n ih =>
    intro v1 v2 v3 v4 I J r h
    rw [f_X1_leftInPurse_20] at h
    refine wp_iload dX1_leftInPurse_20 4 rfl ?_
    refine wp_aload_n dX1_leftInPurse_22 0 rfl ?_
    refine wp_getR (k := 12) (a' := ad 3) dX1_leftInPurse_23 flX1_30 rfl rfl rfl rfl rfl ?_
    refine wp_getI (k := 3) dX1_leftInPurse_26 flX1_77 rfl rfl rfl rfl ?_
    refine wp_icmp_ge 69 dX1_leftInPurse_29 rfl (fun c29 => ?_) (fun c29 => ?_)
    · replace h := o_pos h c29
      refine wp_iload_n dX1_leftInPurse_69 3 rfl ?_
      obtain rfl := Option.some.inj h
      exact wp_ireturn (ty := .int) dX1_leftInPurse_70 rfl rfl ⟨rfl, rfl, rfl, rfl⟩
    · replace h := o_neg h c29
      refine wp_iload dX1_leftInPurse_32 4 rfl ?_
      refine wp_iload_n dX1_leftInPurse_34 2 rfl ?_
      refine wp_icmp_eq 63 dX1_leftInPurse_35 rfl (fun c35 => ?_) (fun c35 => ?_)
      · replace h := o_pos h c35
        refine wp_iinc (v := v4 + 1) (lv' := [(0, _), (1, _), (2, _), (3, _), (4, _)]) dX1_leftInPurse_63 4 rfl rfl rfl rfl rfl ?_
        refine wp_goto 20 dX1_leftInPurse_66 rfl ?_
        refine wp_pick [0, 1, 2, 3, 4] (lv' := [(0, _), (1, _), (2, _), (3, _), (4, _)]) rfl ?_
        exact ih v1 v2 v3 (v4 + 1) I J r h
      · replace h := o_neg h c35
        refine wp_aload_n dX1_leftInPurse_38 0 rfl ?_
        refine wp_iload_n dX1_leftInPurse_39 1 rfl ?_
        refine wp_iload dX1_leftInPurse_40 4 rfl ?_
        obtain ⟨r42, h42, h⟩ := o_bind h
        refine wp_callvI (k := 12) (ci := 1) (c_X1_isBound Γ ad v1 v4 I J r42 h42) dX1_leftInPurse_42 mlX1_87 mwX1_isBound miX1_isBound rfl rfl rfl rfl (Nat.le_of_ble_eq_true rfl) rfl (by decide) (by decide) ?_
        refine wp_if_eq 63 dX1_leftInPurse_45 rfl (fun c45 => ?_) (fun c45 => ?_)
        · replace h := o_pos h c45
          refine wp_iinc (v := v4 + 1) (lv' := [(0, _), (1, _), (2, _), (3, _), (4, _)]) dX1_leftInPurse_63 4 rfl rfl rfl rfl rfl ?_
          refine wp_goto 20 dX1_leftInPurse_66 rfl ?_
          refine wp_pick [0, 1, 2, 3, 4] (lv' := [(0, _), (1, _), (2, _), (3, _), (4, _)]) rfl ?_
          exact ih v1 v2 v3 (v4 + 1) I J r h
        · replace h := o_neg h c45
          refine wp_iload_n dX1_leftInPurse_48 3 rfl ?_
          refine wp_aload_n dX1_leftInPurse_49 0 rfl ?_
          refine wp_getR (k := 12) (a' := ad 14) dX1_leftInPurse_50 flX1_15 rfl rfl rfl rfl rfl ?_
          refine wp_iload_n dX1_leftInPurse_53 1 rfl ?_
          refine wp_bipush (v := 6) dX1_leftInPurse_54 (by decide) ?_
          refine wp_imul dX1_leftInPurse_56 ?_
          refine wp_iload dX1_leftInPurse_57 4 rfl ?_
          refine wp_iadd dX1_leftInPurse_59 ?_
          obtain ⟨g60, h⟩ := o_grd h
          refine wp_iald (k := 14) dX1_leftInPurse_60 rfl rfl (inb_of g60) ?_
          refine wp_isub dX1_leftInPurse_61 ?_
          refine wp_istore_n (lv' := [(0, _), (1, _), (2, _), (3, _), (4, _)]) dX1_leftInPurse_62 rfl rfl rfl rfl ?_
          refine wp_iinc (v := v4 + 1) (lv' := [(0, _), (1, _), (2, _), (3, _), (4, _)]) dX1_leftInPurse_63 4 rfl rfl rfl rfl rfl ?_
          refine wp_goto 20 dX1_leftInPurse_66 rfl ?_
          refine wp_pick [0, 1, 2, 3, 4] (lv' := [(0, _), (1, _), (2, _), (3, _), (4, _)]) rfl ?_
          exact ih v1 v2 (v3 - (I 14 ((v1 * 6) + v4).toNatClampNeg)) (v4 + 1) I J r h
set_option maxRecDepth 100000 in
set_option maxHeartbeats 4000000 in
theorem c_X1_leftInPurse (Γ : GT) (ad : Nat → Nat) (a1 : Int32) (a2 : Int32) (I : IT) (J : JT) (r : Int32) (h : f_X1_leftInPurse a1 a2 I = some r) : CALL Γ mX1_leftInPurse (0, 0) [.ref (ad 12), .int a1, .int a2] (DX ad) I J (QE (some (.int r)) (DX ad) I J) := by
  refine call_of' (by decide) (Nat.le_of_ble_eq_true rfl) (lv0 := [(0, .ref (ad 12)), (1, .int a1), (2, .int a2)]) rfl ?_
  unfold f_X1_leftInPurse at h
  refine wp_aload_n dX1_leftInPurse_0 0 rfl ?_
  refine wp_getR (k := 12) (a' := ad 3) dX1_leftInPurse_1 flX1_30 rfl rfl rfl rfl rfl ?_
  refine wp_getR (k := 3) (a' := ad 5) dX1_leftInPurse_4 flX1_94 rfl rfl rfl rfl rfl ?_
  refine wp_iload_n dX1_leftInPurse_7 1 rfl ?_
  obtain ⟨g8, h⟩ := o_grd h
  refine wp_iald (k := 5) dX1_leftInPurse_8 rfl rfl (inb_of g8) ?_
  refine wp_aload_n dX1_leftInPurse_9 0 rfl ?_
  refine wp_getR (k := 12) (a' := ad 18) dX1_leftInPurse_10 flX1_27 rfl rfl rfl rfl rfl ?_
  refine wp_iload_n dX1_leftInPurse_13 1 rfl ?_
  obtain ⟨g14, h⟩ := o_grd h
  refine wp_iald (k := 18) dX1_leftInPurse_14 rfl rfl (inb_of g14) ?_
  refine wp_isub dX1_leftInPurse_15 ?_
  refine wp_istore_n (lv' := [(0, _), (1, _), (2, _), (3, _)]) dX1_leftInPurse_16 rfl rfl rfl rfl ?_
  refine wp_iconst (v := 0) dX1_leftInPurse_17 (by decide) ?_
  refine wp_istore (lv' := [(0, _), (1, _), (2, _), (3, _), (4, _)]) dX1_leftInPurse_18 rfl rfl rfl ?_
  refine wp_pick [0, 1, 2, 3, 4] (lv' := [(0, _), (1, _), (2, _), (3, _), (4, _)]) rfl ?_
  exact w_X1_leftInPurse_20 Γ ad FU a1 a2 ((I 5 a1.toNatClampNeg) - (I 18 a1.toNatClampNeg)) 0 I J r h
def f_X1_mayBind (a1 : Int32) (a2 : Int32) (a3 : Int32) (I : IT) : Option (Int32) :=
  (f_X1_isSold a2 I).bind fun r2 =>
  if r2 = 0 then
    (f_X1_isBound a1 a2 I).bind fun r11 =>
    if r11 = 0 then
      (f_X2_sortOf a1 I).bind fun r24 =>
      if r24 = (1 : Int32) then
        (f_X1_leftInPurse a1 a2 I).bind fun r35 =>
        if r35 < a3 then
          some 0
        else
          some 1
      else
        some 1
    else
      some 0
  else
    some 0
set_option maxRecDepth 100000 in
set_option maxHeartbeats 4000000 in
theorem c_X1_mayBind (Γ : GT) (ad : Nat → Nat) (a1 : Int32) (a2 : Int32) (a3 : Int32) (I : IT) (J : JT) (r : Int32) (h : f_X1_mayBind a1 a2 a3 I = some r) : CALL Γ mX1_mayBind (0, 0) [.ref (ad 12), .int a1, .int a2, .int a3] (DX ad) I J (QE (some (.int r)) (DX ad) I J) := by
  refine call_of' (by decide) (Nat.le_of_ble_eq_true rfl) (lv0 := [(0, .ref (ad 12)), (1, .int a1), (2, .int a2), (3, .int a3)]) rfl ?_
  unfold f_X1_mayBind at h
  refine wp_aload_n dX1_mayBind_0 0 rfl ?_
  refine wp_iload_n dX1_mayBind_1 2 rfl ?_
  obtain ⟨r2, h2, h⟩ := o_bind h
  refine wp_callvI (k := 12) (ci := 1) (c_X1_isSold Γ ad a2 I J r2 h2) dX1_mayBind_2 mlX1_80 mwX1_isSold miX1_isSold rfl rfl rfl rfl (Nat.le_of_ble_eq_true rfl) rfl (by decide) (by decide) ?_
  refine wp_if_ne 17 dX1_mayBind_5 rfl (fun c5 => ?_) (fun c5 => ?_)
  · replace h := o_neg h c5
    refine wp_iconst (v := 0) dX1_mayBind_17 (by decide) ?_
    obtain rfl := Option.some.inj h
    exact wp_ireturn (ty := .boolean) dX1_mayBind_18 rfl rfl ⟨rfl, rfl, rfl, rfl⟩
  · replace h := o_pos h c5
    refine wp_aload_n dX1_mayBind_8 0 rfl ?_
    refine wp_iload_n dX1_mayBind_9 1 rfl ?_
    refine wp_iload_n dX1_mayBind_10 2 rfl ?_
    obtain ⟨r11, h11, h⟩ := o_bind h
    refine wp_callvI (k := 12) (ci := 1) (c_X1_isBound Γ ad a1 a2 I J r11 h11) dX1_mayBind_11 mlX1_87 mwX1_isBound miX1_isBound rfl rfl rfl rfl (Nat.le_of_ble_eq_true rfl) rfl (by decide) (by decide) ?_
    refine wp_if_eq 19 dX1_mayBind_14 rfl (fun c14 => ?_) (fun c14 => ?_)
    · replace h := o_pos h c14
      refine wp_aload_n dX1_mayBind_19 0 rfl ?_
      refine wp_getR (k := 12) (a' := ad 3) dX1_mayBind_20 flX1_30 rfl rfl rfl rfl rfl ?_
      refine wp_iload_n dX1_mayBind_23 1 rfl ?_
      obtain ⟨r24, h24, h⟩ := o_bind h
      refine wp_callvI (k := 3) (ci := 2) (c_X2_sortOf Γ ad a1 I J r24 h24) dX1_mayBind_24 mlX1_67 mwX2_sortOf miX2_sortOf rfl rfl rfl rfl (Nat.le_of_ble_eq_true rfl) rfl (by decide) (by decide) ?_
      refine wp_iconst (v := 1) dX1_mayBind_27 (by decide) ?_
      refine wp_icmp_ne 41 dX1_mayBind_28 rfl (fun c28 => ?_) (fun c28 => ?_)
      · replace h := o_neg h c28
        refine wp_iconst (v := 1) dX1_mayBind_41 (by decide) ?_
        refine wp_goto 46 dX1_mayBind_42 rfl ?_
        obtain rfl := Option.some.inj h
        exact wp_ireturn (ty := .boolean) dX1_mayBind_46 rfl rfl ⟨rfl, rfl, rfl, rfl⟩
      · replace h := o_pos h c28
        refine wp_iload_n dX1_mayBind_31 3 rfl ?_
        refine wp_aload_n dX1_mayBind_32 0 rfl ?_
        refine wp_iload_n dX1_mayBind_33 1 rfl ?_
        refine wp_iload_n dX1_mayBind_34 2 rfl ?_
        obtain ⟨r35, h35, h⟩ := o_bind h
        refine wp_callvI (k := 12) (ci := 1) (c_X1_leftInPurse Γ ad a1 a2 I J r35 h35) dX1_mayBind_35 mlX1_90 mwX1_leftInPurse miX1_leftInPurse rfl rfl rfl rfl (Nat.le_of_ble_eq_true rfl) rfl (by decide) (by decide) ?_
        refine wp_icmp_gt 45 dX1_mayBind_38 rfl (fun c38 => ?_) (fun c38 => ?_)
        · replace h := o_pos h c38
          refine wp_iconst (v := 0) dX1_mayBind_45 (by decide) ?_
          obtain rfl := Option.some.inj h
          exact wp_ireturn (ty := .boolean) dX1_mayBind_46 rfl rfl ⟨rfl, rfl, rfl, rfl⟩
        · replace h := o_neg h c38
          refine wp_iconst (v := 1) dX1_mayBind_41 (by decide) ?_
          refine wp_goto 46 dX1_mayBind_42 rfl ?_
          obtain rfl := Option.some.inj h
          exact wp_ireturn (ty := .boolean) dX1_mayBind_46 rfl rfl ⟨rfl, rfl, rfl, rfl⟩
    · replace h := o_neg h c14
      refine wp_iconst (v := 0) dX1_mayBind_17 (by decide) ?_
      obtain rfl := Option.some.inj h
      exact wp_ireturn (ty := .boolean) dX1_mayBind_18 rfl rfl ⟨rfl, rfl, rfl, rfl⟩
def f_X1_winnerOf_31 : Nat → Int32 → Int32 → Int32 → Int32 → Int32 → IT → Option (Int32)
  | 0, _, _, _, _, _, _ => none
  | n + 1, v1, v2, v3, v4, v5, I =>
    if (I 3 1) ≤ v5 then
      some v4
    else
      if inbB ((((I 3 0) + v5) * 6) + v1) 84 = true then
        (f_X1_isBound ((I 3 0) + v5) v1 I).bind fun r73 =>
        if r73 = 0 then
          f_X1_winnerOf_31 n v1 v2 v3 v4 (v5 + 1) I
        else
          if (I 14 ((((I 3 0) + v5) * 6) + v1).toNatClampNeg) < v2 then
            f_X1_winnerOf_31 n v1 v2 v3 v4 (v5 + 1) I
          else
            if (I 14 ((((I 3 0) + v5) * 6) + v1).toNatClampNeg) ≤ v3 then
              f_X1_winnerOf_31 n v1 v2 v3 v4 (v5 + 1) I
            else
              f_X1_winnerOf_31 n v1 v2 (I 14 ((((I 3 0) + v5) * 6) + v1).toNatClampNeg) v5 (v5 + 1) I
      else none
def f_X1_winnerOf (a1 : Int32) (I : IT) : Option (Int32) :=
  (f_X1_isBound a1 a1 I).bind fun r3 =>
  if r3 = 0 then
    some (-1)
  else
    if inbB ((a1 * 6) + a1) 84 = true then
      f_X1_winnerOf_31 FU a1 (I 14 ((a1 * 6) + a1).toNatClampNeg) 0 (-1) 0 I
    else none
set_option maxRecDepth 100000 in
set_option maxHeartbeats 4000000 in
theorem w_X1_winnerOf_31 (Γ : GT) (ad : Nat → Nat) : ∀ (n : Nat) (v1 : Int32) (v2 : Int32) (v3 : Int32) (v4 : Int32) (v5 : Int32) (I : IT) (J : JT) (r : Int32), f_X1_winnerOf_31 n v1 v2 v3 v4 v5 I = some r → WP Γ mX1_winnerOf (0, 0) 31 [(0, .ref (ad 12)), (1, .int v1), (2, .int v2), (3, .int v3), (4, .int v4), (5, .int v5)] [] (DX ad) I J (QE (some (.int r)) (DX ad) I J) := by
  intro n
  induction n with
  | zero => intro v1 v2 v3 v4 v5 I J r h; exact absurd h (by simp [f_X1_winnerOf_31])
  | succ n ih =>
    intro v1 v2 v3 v4 v5 I J r h
    rw [f_X1_winnerOf_31] at h
    refine wp_iload dX1_winnerOf_31 5 rfl ?_
    refine wp_aload_n dX1_winnerOf_33 0 rfl ?_
    refine wp_getR (k := 12) (a' := ad 3) dX1_winnerOf_34 flX1_30 rfl rfl rfl rfl rfl ?_
    refine wp_getI (k := 3) dX1_winnerOf_37 flX1_107 rfl rfl rfl rfl ?_
    refine wp_icmp_ge 104 dX1_winnerOf_40 rfl (fun c40 => ?_) (fun c40 => ?_)
    · replace h := o_pos h c40
      refine wp_iload dX1_winnerOf_104 4 rfl ?_
      obtain rfl := Option.some.inj h
      exact wp_ireturn (ty := .int) dX1_winnerOf_106 rfl rfl ⟨rfl, rfl, rfl, rfl⟩
    · replace h := o_neg h c40
      refine wp_aload_n dX1_winnerOf_43 0 rfl ?_
      refine wp_getR (k := 12) (a' := ad 3) dX1_winnerOf_44 flX1_30 rfl rfl rfl rfl rfl ?_
      refine wp_getI (k := 3) dX1_winnerOf_47 flX1_77 rfl rfl rfl rfl ?_
      refine wp_iload dX1_winnerOf_50 5 rfl ?_
      refine wp_iadd dX1_winnerOf_52 ?_
      refine wp_istore (lv' := [(0, _), (1, _), (2, _), (3, _), (4, _), (5, _), (6, _)]) dX1_winnerOf_53 rfl rfl rfl ?_
      refine wp_aload_n dX1_winnerOf_55 0 rfl ?_
      refine wp_getR (k := 12) (a' := ad 14) dX1_winnerOf_56 flX1_15 rfl rfl rfl rfl rfl ?_
      refine wp_iload dX1_winnerOf_59 6 rfl ?_
      refine wp_bipush (v := 6) dX1_winnerOf_61 (by decide) ?_
      refine wp_imul dX1_winnerOf_63 ?_
      refine wp_iload_n dX1_winnerOf_64 1 rfl ?_
      refine wp_iadd dX1_winnerOf_65 ?_
      obtain ⟨g66, h⟩ := o_grd h
      refine wp_iald (k := 14) dX1_winnerOf_66 rfl rfl (inb_of g66) ?_
      refine wp_istore (lv' := [(0, _), (1, _), (2, _), (3, _), (4, _), (5, _), (6, _), (7, _)]) dX1_winnerOf_67 rfl rfl rfl ?_
      refine wp_aload_n dX1_winnerOf_69 0 rfl ?_
      refine wp_iload dX1_winnerOf_70 6 rfl ?_
      refine wp_iload_n dX1_winnerOf_72 1 rfl ?_
      obtain ⟨r73, h73, h⟩ := o_bind h
      refine wp_callvI (k := 12) (ci := 1) (c_X1_isBound Γ ad ((I 3 0) + v5) v1 I J r73 h73) dX1_winnerOf_73 mlX1_87 mwX1_isBound miX1_isBound rfl rfl rfl rfl (Nat.le_of_ble_eq_true rfl) rfl (by decide) (by decide) ?_
      refine wp_if_eq 98 dX1_winnerOf_76 rfl (fun c76 => ?_) (fun c76 => ?_)
      · replace h := o_pos h c76
        refine wp_iinc (v := v5 + 1) (lv' := [(0, _), (1, _), (2, _), (3, _), (4, _), (5, _), (6, _), (7, _)]) dX1_winnerOf_98 5 rfl rfl rfl rfl rfl ?_
        refine wp_goto 31 dX1_winnerOf_101 rfl ?_
        refine wp_pick [0, 1, 2, 3, 4, 5] (lv' := [(0, _), (1, _), (2, _), (3, _), (4, _), (5, _)]) rfl ?_
        exact ih v1 v2 v3 v4 (v5 + 1) I J r h
      · replace h := o_neg h c76
        refine wp_iload dX1_winnerOf_79 7 rfl ?_
        refine wp_iload_n dX1_winnerOf_81 2 rfl ?_
        refine wp_icmp_lt 98 dX1_winnerOf_82 rfl (fun c82 => ?_) (fun c82 => ?_)
        · replace h := o_pos h c82
          refine wp_iinc (v := v5 + 1) (lv' := [(0, _), (1, _), (2, _), (3, _), (4, _), (5, _), (6, _), (7, _)]) dX1_winnerOf_98 5 rfl rfl rfl rfl rfl ?_
          refine wp_goto 31 dX1_winnerOf_101 rfl ?_
          refine wp_pick [0, 1, 2, 3, 4, 5] (lv' := [(0, _), (1, _), (2, _), (3, _), (4, _), (5, _)]) rfl ?_
          exact ih v1 v2 v3 v4 (v5 + 1) I J r h
        · replace h := o_neg h c82
          refine wp_iload dX1_winnerOf_85 7 rfl ?_
          refine wp_iload_n dX1_winnerOf_87 3 rfl ?_
          refine wp_icmp_le 98 dX1_winnerOf_88 rfl (fun c88 => ?_) (fun c88 => ?_)
          · replace h := o_pos h c88
            refine wp_iinc (v := v5 + 1) (lv' := [(0, _), (1, _), (2, _), (3, _), (4, _), (5, _), (6, _), (7, _)]) dX1_winnerOf_98 5 rfl rfl rfl rfl rfl ?_
            refine wp_goto 31 dX1_winnerOf_101 rfl ?_
            refine wp_pick [0, 1, 2, 3, 4, 5] (lv' := [(0, _), (1, _), (2, _), (3, _), (4, _), (5, _)]) rfl ?_
            exact ih v1 v2 v3 v4 (v5 + 1) I J r h
          · replace h := o_neg h c88
            refine wp_iload dX1_winnerOf_91 7 rfl ?_
            refine wp_istore_n (lv' := [(0, _), (1, _), (2, _), (3, _), (4, _), (5, _), (6, _), (7, _)]) dX1_winnerOf_93 rfl rfl rfl rfl ?_
            refine wp_iload dX1_winnerOf_94 5 rfl ?_
            refine wp_istore (lv' := [(0, _), (1, _), (2, _), (3, _), (4, _), (5, _), (6, _), (7, _)]) dX1_winnerOf_96 rfl rfl rfl ?_
            refine wp_iinc (v := v5 + 1) (lv' := [(0, _), (1, _), (2, _), (3, _), (4, _), (5, _), (6, _), (7, _)]) dX1_winnerOf_98 5 rfl rfl rfl rfl rfl ?_
            refine wp_goto 31 dX1_winnerOf_101 rfl ?_
            refine wp_pick [0, 1, 2, 3, 4, 5] (lv' := [(0, _), (1, _), (2, _), (3, _), (4, _), (5, _)]) rfl ?_
            exact ih v1 v2 (I 14 ((((I 3 0) + v5) * 6) + v1).toNatClampNeg) v5 (v5 + 1) I J r h
set_option maxRecDepth 100000 in
set_option maxHeartbeats 4000000 in
theorem c_X1_winnerOf (Γ : GT) (ad : Nat → Nat) (a1 : Int32) (I : IT) (J : JT) (r : Int32) (h : f_X1_winnerOf a1 I = some r) : CALL Γ mX1_winnerOf (0, 0) [.ref (ad 12), .int a1] (DX ad) I J (QE (some (.int r)) (DX ad) I J) := by
  refine call_of' (by decide) (Nat.le_of_ble_eq_true rfl) (lv0 := [(0, .ref (ad 12)), (1, .int a1)]) rfl ?_
  unfold f_X1_winnerOf at h
  refine wp_aload_n dX1_winnerOf_0 0 rfl ?_
  refine wp_iload_n dX1_winnerOf_1 1 rfl ?_
  refine wp_iload_n dX1_winnerOf_2 1 rfl ?_
  obtain ⟨r3, h3, h⟩ := o_bind h
  refine wp_callvI (k := 12) (ci := 1) (c_X1_isBound Γ ad a1 a1 I J r3 h3) dX1_winnerOf_3 mlX1_87 mwX1_isBound miX1_isBound rfl rfl rfl rfl (Nat.le_of_ble_eq_true rfl) rfl (by decide) (by decide) ?_
  refine wp_if_ne 11 dX1_winnerOf_6 rfl (fun c6 => ?_) (fun c6 => ?_)
  · replace h := o_neg h c6
    refine wp_aload_n dX1_winnerOf_11 0 rfl ?_
    refine wp_getR (k := 12) (a' := ad 14) dX1_winnerOf_12 flX1_15 rfl rfl rfl rfl rfl ?_
    refine wp_iload_n dX1_winnerOf_15 1 rfl ?_
    refine wp_bipush (v := 6) dX1_winnerOf_16 (by decide) ?_
    refine wp_imul dX1_winnerOf_18 ?_
    refine wp_iload_n dX1_winnerOf_19 1 rfl ?_
    refine wp_iadd dX1_winnerOf_20 ?_
    obtain ⟨g21, h⟩ := o_grd h
    refine wp_iald (k := 14) dX1_winnerOf_21 rfl rfl (inb_of g21) ?_
    refine wp_istore_n (lv' := [(0, _), (1, _), (2, _)]) dX1_winnerOf_22 rfl rfl rfl rfl ?_
    refine wp_iconst (v := 0) dX1_winnerOf_23 (by decide) ?_
    refine wp_istore_n (lv' := [(0, _), (1, _), (2, _), (3, _)]) dX1_winnerOf_24 rfl rfl rfl rfl ?_
    refine wp_iconst (v := (-1)) dX1_winnerOf_25 (by decide) ?_
    refine wp_istore (lv' := [(0, _), (1, _), (2, _), (3, _), (4, _)]) dX1_winnerOf_26 rfl rfl rfl ?_
    refine wp_iconst (v := 0) dX1_winnerOf_28 (by decide) ?_
    refine wp_istore (lv' := [(0, _), (1, _), (2, _), (3, _), (4, _), (5, _)]) dX1_winnerOf_29 rfl rfl rfl ?_
    refine wp_pick [0, 1, 2, 3, 4, 5] (lv' := [(0, _), (1, _), (2, _), (3, _), (4, _), (5, _)]) rfl ?_
    exact w_X1_winnerOf_31 Γ ad FU a1 (I 14 ((a1 * 6) + a1).toNatClampNeg) 0 (-1) 0 I J r h
  · replace h := o_pos h c6
    refine wp_iconst (v := (-1)) dX1_winnerOf_9 (by decide) ?_
    obtain rfl := Option.some.inj h
    exact wp_ireturn (ty := .int) dX1_winnerOf_10 rfl rfl ⟨rfl, rfl, rfl, rfl⟩
def f_X1_brokerOf_16 : Nat → Int32 → Int32 → Int32 → IT → Option (Int32)
  | 0, _, _, _, _ => none
  | n + 1, v1, v2, v3, I =>
    (f_X2_persons I).bind fun r21 =>
    if r21 ≤ v3 then
      some (-1)
    else
      (f_X1_holds v3 v1 I).bind fun r30 =>
      if r30 = 0 then
        f_X1_brokerOf_16 n v1 v2 (v3 + 1) I
      else
        (f_X1_holds v3 v2 I).bind fun r39 =>
        if r39 = 0 then
          f_X1_brokerOf_16 n v1 v2 (v3 + 1) I
        else
          some v3
def f_X1_brokerOf (a1 : Int32) (a2 : Int32) (I : IT) : Option (Int32) :=
  f_X1_brokerOf_16 FU a1 a2 ((I 3 0) + (I 3 1)) I
set_option maxRecDepth 100000 in
set_option maxHeartbeats 4000000 in
theorem w_X1_brokerOf_16 (Γ : GT) (ad : Nat → Nat) : ∀ (n : Nat) (v1 : Int32) (v2 : Int32) (v3 : Int32) (I : IT) (J : JT) (r : Int32), f_X1_brokerOf_16 n v1 v2 v3 I = some r → WP Γ mX1_brokerOf (0, 0) 16 [(0, .ref (ad 12)), (1, .int v1), (2, .int v2), (3, .int v3)] [] (DX ad) I J (QE (some (.int r)) (DX ad) I J) := by
  intro n
  induction n with
  | zero => intro v1 v2 v3 I J r h; exact absurd h (by simp [f_X1_brokerOf_16])
  | succ n ih =>
    intro v1 v2 v3 I J r h
    rw [f_X1_brokerOf_16] at h
    refine wp_iload_n dX1_brokerOf_16 3 rfl ?_
    refine wp_aload_n dX1_brokerOf_17 0 rfl ?_
    refine wp_getR (k := 12) (a' := ad 3) dX1_brokerOf_18 flX1_30 rfl rfl rfl rfl rfl ?_
    obtain ⟨r21, h21, h⟩ := o_bind h
    refine wp_callvI (k := 3) (ci := 2) (c_X2_persons Γ ad I J r21 h21) dX1_brokerOf_21 mlX1_110 mwX2_persons miX2_persons rfl rfl rfl rfl (Nat.le_of_ble_eq_true rfl) rfl (by decide) (by decide) ?_
    refine wp_icmp_ge 53 dX1_brokerOf_24 rfl (fun c24 => ?_) (fun c24 => ?_)
    · replace h := o_pos h c24
      refine wp_iconst (v := (-1)) dX1_brokerOf_53 (by decide) ?_
      obtain rfl := Option.some.inj h
      exact wp_ireturn (ty := .int) dX1_brokerOf_54 rfl rfl ⟨rfl, rfl, rfl, rfl⟩
    · replace h := o_neg h c24
      refine wp_aload_n dX1_brokerOf_27 0 rfl ?_
      refine wp_iload_n dX1_brokerOf_28 3 rfl ?_
      refine wp_iload_n dX1_brokerOf_29 1 rfl ?_
      obtain ⟨r30, h30, h⟩ := o_bind h
      refine wp_callvI (k := 12) (ci := 1) (c_X1_holds Γ ad v3 v1 I J r30 h30) dX1_brokerOf_30 mlX1_70 mwX1_holds miX1_holds rfl rfl rfl rfl (Nat.le_of_ble_eq_true rfl) rfl (by decide) (by decide) ?_
      refine wp_if_eq 47 dX1_brokerOf_33 rfl (fun c33 => ?_) (fun c33 => ?_)
      · replace h := o_pos h c33
        refine wp_iinc (v := v3 + 1) (lv' := [(0, _), (1, _), (2, _), (3, _)]) dX1_brokerOf_47 3 rfl rfl rfl rfl rfl ?_
        refine wp_goto 16 dX1_brokerOf_50 rfl ?_
        refine wp_pick [0, 1, 2, 3] (lv' := [(0, _), (1, _), (2, _), (3, _)]) rfl ?_
        exact ih v1 v2 (v3 + 1) I J r h
      · replace h := o_neg h c33
        refine wp_aload_n dX1_brokerOf_36 0 rfl ?_
        refine wp_iload_n dX1_brokerOf_37 3 rfl ?_
        refine wp_iload_n dX1_brokerOf_38 2 rfl ?_
        obtain ⟨r39, h39, h⟩ := o_bind h
        refine wp_callvI (k := 12) (ci := 1) (c_X1_holds Γ ad v3 v2 I J r39 h39) dX1_brokerOf_39 mlX1_70 mwX1_holds miX1_holds rfl rfl rfl rfl (Nat.le_of_ble_eq_true rfl) rfl (by decide) (by decide) ?_
        refine wp_if_eq 47 dX1_brokerOf_42 rfl (fun c42 => ?_) (fun c42 => ?_)
        · replace h := o_pos h c42
          refine wp_iinc (v := v3 + 1) (lv' := [(0, _), (1, _), (2, _), (3, _)]) dX1_brokerOf_47 3 rfl rfl rfl rfl rfl ?_
          refine wp_goto 16 dX1_brokerOf_50 rfl ?_
          refine wp_pick [0, 1, 2, 3] (lv' := [(0, _), (1, _), (2, _), (3, _)]) rfl ?_
          exact ih v1 v2 (v3 + 1) I J r h
        · replace h := o_neg h c42
          refine wp_iload_n dX1_brokerOf_45 3 rfl ?_
          obtain rfl := Option.some.inj h
          exact wp_ireturn (ty := .int) dX1_brokerOf_46 rfl rfl ⟨rfl, rfl, rfl, rfl⟩
set_option maxRecDepth 100000 in
set_option maxHeartbeats 4000000 in
theorem c_X1_brokerOf (Γ : GT) (ad : Nat → Nat) (a1 : Int32) (a2 : Int32) (I : IT) (J : JT) (r : Int32) (h : f_X1_brokerOf a1 a2 I = some r) : CALL Γ mX1_brokerOf (0, 0) [.ref (ad 12), .int a1, .int a2] (DX ad) I J (QE (some (.int r)) (DX ad) I J) := by
  refine call_of' (by decide) (Nat.le_of_ble_eq_true rfl) (lv0 := [(0, .ref (ad 12)), (1, .int a1), (2, .int a2)]) rfl ?_
  unfold f_X1_brokerOf at h
  refine wp_aload_n dX1_brokerOf_0 0 rfl ?_
  refine wp_getR (k := 12) (a' := ad 3) dX1_brokerOf_1 flX1_30 rfl rfl rfl rfl rfl ?_
  refine wp_getI (k := 3) dX1_brokerOf_4 flX1_77 rfl rfl rfl rfl ?_
  refine wp_aload_n dX1_brokerOf_7 0 rfl ?_
  refine wp_getR (k := 12) (a' := ad 3) dX1_brokerOf_8 flX1_30 rfl rfl rfl rfl rfl ?_
  refine wp_getI (k := 3) dX1_brokerOf_11 flX1_107 rfl rfl rfl rfl ?_
  refine wp_iadd dX1_brokerOf_14 ?_
  refine wp_istore_n (lv' := [(0, _), (1, _), (2, _), (3, _)]) dX1_brokerOf_15 rfl rfl rfl rfl ?_
  refine wp_pick [0, 1, 2, 3] (lv' := [(0, _), (1, _), (2, _), (3, _)]) rfl ?_
  exact w_X1_brokerOf_16 Γ ad FU a1 a2 ((I 3 0) + (I 3 1)) I J r h
