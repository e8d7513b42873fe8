/-! lifted: X9_isWithin X6_append X9_feed X2_clear_8 X6_byteAt X4_skipBlanks X4_skipLetters J0_coder_7d493_s0 J0_length_8abf5_s0 J0_isLatin1_aae02_s0 J3_checkIndex_8e157_q0 J0_checkIndex_df160 J1_charAt_3b067_v0 J0_charAt_5068e_s0 X4_isWord_s0 J0_coder_7d493_s1 J0_length_8abf5_s1 J0_isLatin1_aae02_s1 J1_charAt_3b067_v1 J0_charAt_5068e_s1 X4_isWord_s1 J0_coder_7d493_s2 J0_length_8abf5_s2 J0_isLatin1_aae02_s2 J1_charAt_3b067_v2 J0_charAt_5068e_s2 X4_isWord_s2 J0_coder_7d493_s3 J0_length_8abf5_s3 J0_isLatin1_aae02_s3 J1_charAt_3b067_v3 J0_charAt_5068e_s3 X4_isWord_s3 J0_coder_7d493_s4 J0_length_8abf5_s4 J0_isLatin1_aae02_s4 J1_charAt_3b067_v4 J0_charAt_5068e_s4 X4_isWord_s4 X4_refuseIf X4_isFigure -/
def f_X9_isWithin (a0 : Int32) (a1 : Int32) (a2 : Int32) : Option (Int32) :=
  if a0 < a1 then
    some 0
  else
    if a2 < a0 then
      some 0
    else
      some 1
set_option maxRecDepth 100000 in
set_option maxHeartbeats 4000000 in
theorem c_X9_isWithin (Γ : GT) (ad : Nat → Nat) (a0 : Int32) (a1 : Int32) (a2 : Int32) (I : IT) (J : JT) (r : Int32) (h : f_X9_isWithin a0 a1 a2 = some r) : CALL Γ mX9_isWithin (0, 0) [.int a0, .int a1, .int a2] (DX ad) I J (QE (some (.int r)) (DX ad) I J) := by
  refine call_of' (by decide) (Nat.le_of_ble_eq_true rfl) (lv0 := [(0, .int a0), (1, .int a1), (2, .int a2)]) rfl ?_
  unfold f_X9_isWithin at h
  refine wp_iload_n dX9_isWithin_0 0 rfl ?_
  refine wp_iload_n dX9_isWithin_1 1 rfl ?_
  refine wp_icmp_lt 14 dX9_isWithin_2 rfl (fun c2 => ?_) (fun c2 => ?_)
  · replace h := o_pos h c2
    refine wp_iconst (v := 0) dX9_isWithin_14 (by decide) ?_
    obtain rfl := Option.some.inj h
    exact wp_ireturn (ty := .boolean) dX9_isWithin_15 rfl rfl ⟨rfl, rfl, rfl, rfl⟩
  · replace h := o_neg h c2
    refine wp_iload_n dX9_isWithin_5 0 rfl ?_
    refine wp_iload_n dX9_isWithin_6 2 rfl ?_
    refine wp_icmp_gt 14 dX9_isWithin_7 rfl (fun c7 => ?_) (fun c7 => ?_)
    · replace h := o_pos h c7
      refine wp_iconst (v := 0) dX9_isWithin_14 (by decide) ?_
      obtain rfl := Option.some.inj h
      exact wp_ireturn (ty := .boolean) dX9_isWithin_15 rfl rfl ⟨rfl, rfl, rfl, rfl⟩
    · replace h := o_neg h c7
      refine wp_iconst (v := 1) dX9_isWithin_10 (by decide) ?_
      refine wp_goto 15 dX9_isWithin_11 rfl ?_
      obtain rfl := Option.some.inj h
      exact wp_ireturn (ty := .boolean) dX9_isWithin_15 rfl rfl ⟨rfl, rfl, rfl, rfl⟩
def f_X6_append_5 : Nat → Int64 → Int32 → IT → Option (IT)
  | 0, _, _, _ => none
  | n + 1, v2, v4, I =>
    if v4 < 0 then
      some I
    else
      if (500 : Int32) ≤ (I 1 1) then
        some I
      else
        if inbB (I 1 1) 500 = true then
          f_X6_append_5 n v2 (v4 + (-1)) (upI (upI I 2 ((I 1 1).toNatClampNeg) (vp_nar .byte ((((v2.toUInt64 >>> ((8 * v4).toInt64.toUInt64 &&& Int64.toUInt64 63)).toInt64).toInt32).toInt8.toInt32))) 1 1 (((upI I 2 ((I 1 1).toNatClampNeg) (vp_nar .byte ((((v2.toUInt64 >>> ((8 * v4).toInt64.toUInt64 &&& Int64.toUInt64 63)).toInt64).toInt32).toInt8.toInt32))) 1 1) + 1))
        else none
def f_X6_append (a1 : Int32) (a2 : Int64) (I : IT) : Option (IT) :=
  f_X6_append_5 FU a2 (a1 - 1) I
set_option maxRecDepth 100000 in
set_option maxHeartbeats 4000000 in
theorem w_X6_append_5 (Γ : GT) (ad : Nat → Nat) : ∀ (n : Nat) (v2 : Int64) (v4 : Int32) (I : IT) (J : JT) (r : IT), f_X6_append_5 n v2 v4 I = some r → WP Γ mX6_append (0, 0) 5 [(0, .ref (ad 1)), (2, .long v2), (4, .int v4)] [] (DX ad) I J (QE none (DX ad) r J) := by
  intro n
  induction n with
  | zero => intro v2 v4 I J r h; exact absurd h (by simp [f_X6_append_5])
  | succ n ih =>
    intro v2 v4 I J r h
    rw [f_X6_append_5] at h
    refine wp_iload dX6_append_5 2 rfl ?_
    refine wp_if_lt 54 dX6_append_7 rfl (fun c7 => ?_) (fun c7 => ?_)
    · replace h := o_pos h c7
      obtain rfl := Option.some.inj h
      exact wp_return dX6_append_54 rfl ⟨rfl, rfl, rfl, rfl⟩
    · replace h := o_neg h c7
      refine wp_aload_n dX6_append_10 0 rfl ?_
      refine wp_getI (k := 1) dX6_append_11 flX6_15 rfl rfl rfl rfl ?_
      refine wp_sipush (v := 500) dX6_append_14 (by decide) ?_
      refine wp_icmp_ge 54 dX6_append_17 rfl (fun c17 => ?_) (fun c17 => ?_)
      · replace h := o_pos h c17
        obtain rfl := Option.some.inj h
        exact wp_return dX6_append_54 rfl ⟨rfl, rfl, rfl, rfl⟩
      · replace h := o_neg h c17
        refine wp_aload_n dX6_append_20 0 rfl ?_
        refine wp_getR (k := 1) (a' := ad 2) dX6_append_21 flX6_9 rfl rfl rfl rfl rfl ?_
        refine wp_aload_n dX6_append_24 0 rfl ?_
        refine wp_getI (k := 1) dX6_append_25 flX6_15 rfl rfl rfl rfl ?_
        refine wp_lload_n dX6_append_28 1 rfl ?_
        refine wp_bipush (v := 8) dX6_append_29 (by decide) ?_
        refine wp_iload dX6_append_31 2 rfl ?_
        refine wp_imul dX6_append_33 ?_
        refine wp_lushr dX6_append_34 ?_
        refine wp_l2i dX6_append_35 ?_
        refine wp_i2b dX6_append_36 ?_
        obtain ⟨g37, h⟩ := o_grd h
        refine wp_bast (k := 2) dX6_append_37 rfl rfl (inb_of g37) ?_
        refine wp_aload_n dX6_append_38 0 rfl ?_
        refine wp_dup dX6_append_39 rfl ?_
        refine wp_getI (k := 1) dX6_append_40 flX6_15 rfl rfl rfl rfl ?_
        refine wp_iconst (v := 1) dX6_append_43 (by decide) ?_
        refine wp_iadd dX6_append_44 ?_
        refine wp_putI (k := 1) dX6_append_45 flX6_15 rfl rfl rfl rfl rfl rfl rfl rfl ?_
        refine wp_iinc (v := v4 + (-1)) (lv' := [(0, _), (2, _), (4, _)]) dX6_append_48 2 rfl rfl rfl rfl rfl ?_
        refine wp_goto 5 dX6_append_51 rfl ?_
        refine wp_pick [0, 1, 2] (lv' := [(0, _), (2, _), (4, _)]) rfl ?_
        exact ih v2 (v4 + (-1)) (upI (upI I 2 ((I 1 1).toNatClampNeg) (vp_nar .byte ((((v2.toUInt64 >>> ((8 * v4).toInt64.toUInt64 &&& Int64.toUInt64 63)).toInt64).toInt32).toInt8.toInt32))) 1 1 (((upI I 2 ((I 1 1).toNatClampNeg) (vp_nar .byte ((((v2.toUInt64 >>> ((8 * v4).toInt64.toUInt64 &&& Int64.toUInt64 63)).toInt64).toInt32).toInt8.toInt32))) 1 1) + 1)) J r h
set_option maxRecDepth 100000 in
set_option maxHeartbeats 4000000 in
theorem c_X6_append (Γ : GT) (ad : Nat → Nat) (a1 : Int32) (a2 : Int64) (I : IT) (J : JT) (r : IT) (h : f_X6_append a1 a2 I = some r) : CALL Γ mX6_append (0, 0) [.ref (ad 1), .int a1, .long a2] (DX ad) I J (QE none (DX ad) r J) := by
  refine call_of' (by decide) (Nat.le_of_ble_eq_true rfl) (lv0 := [(0, .ref (ad 1)), (1, .int a1), (2, .long a2)]) rfl ?_
  unfold f_X6_append at h
  refine wp_iload_n dX6_append_0 1 rfl ?_
  refine wp_iconst (v := 1) dX6_append_1 (by decide) ?_
  refine wp_isub dX6_append_2 ?_
  refine wp_istore (lv' := [(0, _), (1, _), (2, _), (4, _)]) dX6_append_3 rfl rfl rfl ?_
  refine wp_pick [0, 2, 3] (lv' := [(0, _), (2, _), (4, _)]) rfl ?_
  exact w_X6_append_5 Γ ad FU a2 (a1 - 1) I J r h
def f_X9_feed (a1 : Int32) (a2 : Int64) (I : IT) : Option (Int32 × IT) :=
  (f_X9_isWithin a1 1 8).bind fun r4 =>
  if r4 = 0 then
    some ((-1000002), I)
  else
    if ((I 1 1) + a1) ≤ (500 : Int32) then
      (f_X6_append a1 a2 I).bind fun r37 =>
      some (r37 1 1, r37)
    else
      some ((-1000004), I)
set_option maxRecDepth 100000 in
set_option maxHeartbeats 4000000 in
theorem c_X9_feed (Γ : GT) (ad : Nat → Nat) (a1 : Int32) (a2 : Int64) (I : IT) (J : JT) (r : Int32 × IT) (h : f_X9_feed a1 a2 I = some r) : CALL Γ mX9_feed (0, 0) [.ref (ad 0), .int a1, .long a2] (DX ad) I J (QE (some (.int r.1)) (DX ad) r.2 J) := by
  refine call_of' (by decide) (Nat.le_of_ble_eq_true rfl) (lv0 := [(0, .ref (ad 0)), (1, .int a1), (2, .long a2)]) rfl ?_
  unfold f_X9_feed at h
  refine wp_iload_n dX9_feed_0 1 rfl ?_
  refine wp_iconst (v := 1) dX9_feed_1 (by decide) ?_
  refine wp_bipush (v := 8) dX9_feed_2 (by decide) ?_
  obtain ⟨r4, h4, h⟩ := o_bind h
  refine wp_callsI (c_X9_isWithin Γ ad a1 1 8 I J r4 h4) dX9_feed_4 mlX9_90 mwX9_isWithin miX9_isWithin rfl (Nat.le_of_ble_eq_true rfl) rfl (by decide) (by decide) ?_
  refine wp_if_ne 13 dX9_feed_7 rfl (fun c7 => ?_) (fun c7 => ?_)
  · replace h := o_neg h c7
    refine wp_aload_n dX9_feed_13 0 rfl ?_
    refine wp_getR (k := 0) (a' := ad 1) dX9_feed_14 flX9_10 rfl rfl rfl rfl rfl ?_
    refine wp_getI (k := 1) dX9_feed_17 flX9_95 rfl rfl rfl rfl ?_
    refine wp_iload_n dX9_feed_20 1 rfl ?_
    refine wp_iadd dX9_feed_21 ?_
    refine wp_sipush (v := 500) dX9_feed_22 (by decide) ?_
    refine wp_icmp_le 31 dX9_feed_25 rfl (fun c25 => ?_) (fun c25 => ?_)
    · replace h := o_pos h c25
      refine wp_aload_n dX9_feed_31 0 rfl ?_
      refine wp_getR (k := 0) (a' := ad 1) dX9_feed_32 flX9_10 rfl rfl rfl rfl rfl ?_
      refine wp_iload_n dX9_feed_35 1 rfl ?_
      refine wp_lload_n dX9_feed_36 2 rfl ?_
      obtain ⟨r37, h37, h⟩ := o_bind h
      refine wp_callvV (k := 1) (ci := 6) (c_X6_append Γ ad a1 a2 I J r37 h37) dX9_feed_37 mlX9_99 mwX6_append miX6_append rfl rfl rfl rfl (Nat.le_of_ble_eq_true rfl) rfl (by decide) (by decide) ?_
      refine wp_aload_n dX9_feed_40 0 rfl ?_
      refine wp_getR (k := 0) (a' := ad 1) dX9_feed_41 flX9_10 rfl rfl rfl rfl rfl ?_
      refine wp_getI (k := 1) dX9_feed_44 flX9_95 rfl rfl rfl rfl ?_
      obtain rfl := Option.some.inj h
      exact wp_ireturn (ty := .int) dX9_feed_47 rfl rfl ⟨rfl, rfl, rfl, rfl⟩
    · replace h := o_neg h c25
      refine wp_ldc (v := (-1000004)) dX9_feed_28 kcX9_98 ?_
      obtain rfl := Option.some.inj h
      exact wp_ireturn (ty := .int) dX9_feed_30 rfl rfl ⟨rfl, rfl, rfl, rfl⟩
  · replace h := o_pos h c7
    refine wp_ldc (v := (-1000002)) dX9_feed_10 kcX9_94 ?_
    obtain rfl := Option.some.inj h
    exact wp_ireturn (ty := .int) dX9_feed_12 rfl rfl ⟨rfl, rfl, rfl, rfl⟩
def f_X2_clear_8 (I : IT) : Option (IT) :=
  some (upI (upI (upI (upI (upI I 8 0 0) 8 1 0) 8 2 0) 8 3 12) 8 4 2)
set_option maxRecDepth 100000 in
set_option maxHeartbeats 4000000 in
theorem c_X2_clear_8 (Γ : GT) (ad : Nat → Nat) (I : IT) (J : JT) (r : IT) (h : f_X2_clear_8 I = some r) : CALL Γ mX2_clear (0, 0) [.ref (ad 8)] (DX ad) I J (QE none (DX ad) r J) := by
  refine call_of' (by decide) (Nat.le_of_ble_eq_true rfl) (lv0 := [(0, .ref (ad 8))]) rfl ?_
  unfold f_X2_clear_8 at h
  refine wp_aload_n dX2_clear_0 0 rfl ?_
  refine wp_iconst (v := 0) dX2_clear_1 (by decide) ?_
  refine wp_putI (k := 8) dX2_clear_2 flX2_24 rfl rfl rfl rfl rfl rfl rfl rfl ?_
  refine wp_aload_n dX2_clear_5 0 rfl ?_
  refine wp_iconst (v := 0) dX2_clear_6 (by decide) ?_
  refine wp_putI (k := 8) dX2_clear_7 flX2_28 rfl rfl rfl rfl rfl rfl rfl rfl ?_
  refine wp_aload_n dX2_clear_10 0 rfl ?_
  refine wp_iconst (v := 0) dX2_clear_11 (by decide) ?_
  refine wp_putI (k := 8) dX2_clear_12 flX2_31 rfl rfl rfl rfl rfl rfl rfl rfl ?_
  refine wp_aload_n dX2_clear_15 0 rfl ?_
  refine wp_bipush (v := 12) dX2_clear_16 (by decide) ?_
  refine wp_putI (k := 8) dX2_clear_18 flX2_34 rfl rfl rfl rfl rfl rfl rfl rfl ?_
  refine wp_aload_n dX2_clear_21 0 rfl ?_
  refine wp_iconst (v := 2) dX2_clear_22 (by decide) ?_
  refine wp_putI (k := 8) dX2_clear_23 flX2_37 rfl rfl rfl rfl rfl rfl rfl rfl ?_
  obtain rfl := Option.some.inj h
  exact wp_return dX2_clear_26 rfl ⟨rfl, rfl, rfl, rfl⟩
def f_X6_byteAt (a1 : Int32) (I : IT) : Option (Int32) :=
  if a1 < 0 then
    some (-1)
  else
    if (I 1 1) ≤ a1 then
      some (-1)
    else
      if (500 : Int32) ≤ a1 then
        some (-1)
      else
        if inbB a1 500 = true then
          some ((I 2 a1.toNatClampNeg) &&& 255)
        else none
set_option maxRecDepth 100000 in
set_option maxHeartbeats 4000000 in
theorem c_X6_byteAt (Γ : GT) (ad : Nat → Nat) (a1 : Int32) (I : IT) (J : JT) (r : Int32) (h : f_X6_byteAt a1 I = some r) : CALL Γ mX6_byteAt (0, 0) [.ref (ad 1), .int a1] (DX ad) I J (QE (some (.int r)) (DX ad) I J) := by
  refine call_of' (by decide) (Nat.le_of_ble_eq_true rfl) (lv0 := [(0, .ref (ad 1)), (1, .int a1)]) rfl ?_
  unfold f_X6_byteAt at h
  refine wp_iload_n dX6_byteAt_0 1 rfl ?_
  refine wp_if_lt 32 dX6_byteAt_1 rfl (fun c1 => ?_) (fun c1 => ?_)
  · replace h := o_pos h c1
    refine wp_iconst (v := (-1)) dX6_byteAt_32 (by decide) ?_
    obtain rfl := Option.some.inj h
    exact wp_ireturn (ty := .int) dX6_byteAt_33 rfl rfl ⟨rfl, rfl, rfl, rfl⟩
  · replace h := o_neg h c1
    refine wp_iload_n dX6_byteAt_4 1 rfl ?_
    refine wp_aload_n dX6_byteAt_5 0 rfl ?_
    refine wp_getI (k := 1) dX6_byteAt_6 flX6_15 rfl rfl rfl rfl ?_
    refine wp_icmp_ge 32 dX6_byteAt_9 rfl (fun c9 => ?_) (fun c9 => ?_)
    · replace h := o_pos h c9
      refine wp_iconst (v := (-1)) dX6_byteAt_32 (by decide) ?_
      obtain rfl := Option.some.inj h
      exact wp_ireturn (ty := .int) dX6_byteAt_33 rfl rfl ⟨rfl, rfl, rfl, rfl⟩
    · replace h := o_neg h c9
      refine wp_iload_n dX6_byteAt_12 1 rfl ?_
      refine wp_sipush (v := 500) dX6_byteAt_13 (by decide) ?_
      refine wp_icmp_ge 32 dX6_byteAt_16 rfl (fun c16 => ?_) (fun c16 => ?_)
      · replace h := o_pos h c16
        refine wp_iconst (v := (-1)) dX6_byteAt_32 (by decide) ?_
        obtain rfl := Option.some.inj h
        exact wp_ireturn (ty := .int) dX6_byteAt_33 rfl rfl ⟨rfl, rfl, rfl, rfl⟩
      · replace h := o_neg h c16
        refine wp_aload_n dX6_byteAt_19 0 rfl ?_
        refine wp_getR (k := 1) (a' := ad 2) dX6_byteAt_20 flX6_9 rfl rfl rfl rfl rfl ?_
        refine wp_iload_n dX6_byteAt_23 1 rfl ?_
        obtain ⟨g24, h⟩ := o_grd h
        refine wp_bald (k := 2) dX6_byteAt_24 rfl rfl (inb_of g24) ?_
        refine wp_sipush (v := 255) dX6_byteAt_25 (by decide) ?_
        refine wp_iand dX6_byteAt_28 ?_
        refine wp_goto 33 dX6_byteAt_29 rfl ?_
        obtain rfl := Option.some.inj h
        exact wp_ireturn (ty := .int) dX6_byteAt_33 rfl rfl ⟨rfl, rfl, rfl, rfl⟩
def f_X4_skipBlanks_0 : Nat → IT → Option (IT)
  | 0, _ => none
  | n + 1, I =>
    if (I 1 1) ≤ (I 7 4) then
      some I
    else
      (f_X6_byteAt (I 7 4) I).bind fun r22 =>
      if r22 = (32 : Int32) then
        f_X4_skipBlanks_0 n (upI I 7 4 ((I 7 4) + 1))
      else
        some I
def f_X4_skipBlanks (I : IT) : Option (IT) :=
  f_X4_skipBlanks_0 FU I
set_option maxRecDepth 100000 in
set_option maxHeartbeats 4000000 in
theorem w_X4_skipBlanks_0 (Γ : GT) (ad : Nat → Nat) : ∀ (n : Nat) (I : IT) (J : JT) (r : IT), f_X4_skipBlanks_0 n I = some r → WP Γ mX4_skipBlanks (0, 0) 0 [(0, .ref (ad 7))] [] (DX ad) I J (QE none (DX ad) r J) := by
  intro n
  induction n with
  | zero => intro  I J r h; exact absurd h (by simp [f_X4_skipBlanks_0])
  | succ n ih =>
    intro  I J r h
    rw [f_X4_skipBlanks_0] at h
    refine wp_aload_n dX4_skipBlanks_0 0 rfl ?_
    refine wp_getI (k := 7) dX4_skipBlanks_1 flX4_32 rfl rfl rfl rfl ?_
    refine wp_aload_n dX4_skipBlanks_4 0 rfl ?_
    refine wp_getR (k := 7) (a' := ad 1) dX4_skipBlanks_5 flX4_18 rfl rfl rfl rfl rfl ?_
    refine wp_getI (k := 1) dX4_skipBlanks_8 flX4_45 rfl rfl rfl rfl ?_
    refine wp_icmp_ge 43 dX4_skipBlanks_11 rfl (fun c11 => ?_) (fun c11 => ?_)
    · replace h := o_pos h c11
      obtain rfl := Option.some.inj h
      exact wp_return dX4_skipBlanks_43 rfl ⟨rfl, rfl, rfl, rfl⟩
    · replace h := o_neg h c11
      refine wp_aload_n dX4_skipBlanks_14 0 rfl ?_
      refine wp_getR (k := 7) (a' := ad 1) dX4_skipBlanks_15 flX4_18 rfl rfl rfl rfl rfl ?_
      refine wp_aload_n dX4_skipBlanks_18 0 rfl ?_
      refine wp_getI (k := 7) dX4_skipBlanks_19 flX4_32 rfl rfl rfl rfl ?_
      obtain ⟨r22, h22, h⟩ := o_bind h
      refine wp_callvI (k := 1) (ci := 6) (c_X6_byteAt Γ ad (I 7 4) I J r22 h22) dX4_skipBlanks_22 mlX4_122 mwX6_byteAt miX6_byteAt rfl rfl rfl rfl (Nat.le_of_ble_eq_true rfl) rfl (by decide) (by decide) ?_
      refine wp_bipush (v := 32) dX4_skipBlanks_25 (by decide) ?_
      refine wp_icmp_ne 43 dX4_skipBlanks_27 rfl (fun c27 => ?_) (fun c27 => ?_)
      · replace h := o_neg h c27
        obtain rfl := Option.some.inj h
        exact wp_return dX4_skipBlanks_43 rfl ⟨rfl, rfl, rfl, rfl⟩
      · replace h := o_pos h c27
        refine wp_aload_n dX4_skipBlanks_30 0 rfl ?_
        refine wp_dup dX4_skipBlanks_31 rfl ?_
        refine wp_getI (k := 7) dX4_skipBlanks_32 flX4_32 rfl rfl rfl rfl ?_
        refine wp_iconst (v := 1) dX4_skipBlanks_35 (by decide) ?_
        refine wp_iadd dX4_skipBlanks_36 ?_
        refine wp_putI (k := 7) dX4_skipBlanks_37 flX4_32 rfl rfl rfl rfl rfl rfl rfl rfl ?_
        refine wp_goto 0 dX4_skipBlanks_40 rfl ?_
        refine wp_pick [0] (lv' := [(0, _)]) rfl ?_
        exact ih  (upI I 7 4 ((I 7 4) + 1)) J r h
set_option maxRecDepth 100000 in
set_option maxHeartbeats 4000000 in
theorem c_X4_skipBlanks (Γ : GT) (ad : Nat → Nat) (I : IT) (J : JT) (r : IT) (h : f_X4_skipBlanks I = some r) : CALL Γ mX4_skipBlanks (0, 0) [.ref (ad 7)] (DX ad) I J (QE none (DX ad) r J) := by
  refine call_of' (by decide) (Nat.le_of_ble_eq_true rfl) (lv0 := [(0, .ref (ad 7))]) rfl ?_
  unfold f_X4_skipBlanks at h
  refine wp_pick [0] (lv' := [(0, _)]) rfl ?_
  exact w_X4_skipBlanks_0 Γ ad FU  I J r h
def f_X4_skipLetters_0 : Nat → IT → Option (IT)
  | 0, _ => none
  | n + 1, I =>
    if (I 1 1) ≤ (I 7 4) then
      some I
    else
      (f_X6_byteAt (I 7 4) I).bind fun r22 =>
      (f_X9_isWithin r22 97 122).bind fun r29 =>
      if r29 = 0 then
        some I
      else
        f_X4_skipLetters_0 n (upI I 7 4 ((I 7 4) + 1))
def f_X4_skipLetters (I : IT) : Option (IT) :=
  f_X4_skipLetters_0 FU I
set_option maxRecDepth 100000 in
set_option maxHeartbeats 4000000 in
theorem w_X4_skipLetters_0 (Γ : GT) (ad : Nat → Nat) : ∀ (n : Nat) (I : IT) (J : JT) (r : IT), f_X4_skipLetters_0 n I = some r → WP Γ mX4_skipLetters (0, 0) 0 [(0, .ref (ad 7))] [] (DX ad) I J (QE none (DX ad) r J) := by
  intro n
  induction n with
  | zero => intro  I J r h; exact absurd h (by simp [f_X4_skipLetters_0])
  | succ n ih =>
    intro  I J r h
    rw [f_X4_skipLetters_0] at h
    refine wp_aload_n dX4_skipLetters_0 0 rfl ?_
    refine wp_getI (k := 7) dX4_skipLetters_1 flX4_32 rfl rfl rfl rfl ?_
    refine wp_aload_n dX4_skipLetters_4 0 rfl ?_
    refine wp_getR (k := 7) (a' := ad 1) dX4_skipLetters_5 flX4_18 rfl rfl rfl rfl rfl ?_
    refine wp_getI (k := 1) dX4_skipLetters_8 flX4_45 rfl rfl rfl rfl ?_
    refine wp_icmp_ge 48 dX4_skipLetters_11 rfl (fun c11 => ?_) (fun c11 => ?_)
    · replace h := o_pos h c11
      obtain rfl := Option.some.inj h
      exact wp_return dX4_skipLetters_48 rfl ⟨rfl, rfl, rfl, rfl⟩
    · replace h := o_neg h c11
      refine wp_aload_n dX4_skipLetters_14 0 rfl ?_
      refine wp_getR (k := 7) (a' := ad 1) dX4_skipLetters_15 flX4_18 rfl rfl rfl rfl rfl ?_
      refine wp_aload_n dX4_skipLetters_18 0 rfl ?_
      refine wp_getI (k := 7) dX4_skipLetters_19 flX4_32 rfl rfl rfl rfl ?_
      obtain ⟨r22, h22, h⟩ := o_bind h
      refine wp_callvI (k := 1) (ci := 6) (c_X6_byteAt Γ ad (I 7 4) I J r22 h22) dX4_skipLetters_22 mlX4_122 mwX6_byteAt miX6_byteAt rfl rfl rfl rfl (Nat.le_of_ble_eq_true rfl) rfl (by decide) (by decide) ?_
      refine wp_bipush (v := 97) dX4_skipLetters_25 (by decide) ?_
      refine wp_bipush (v := 122) dX4_skipLetters_27 (by decide) ?_
      obtain ⟨r29, h29, h⟩ := o_bind h
      refine wp_callsNI (c_X9_isWithin Γ ad r22 97 122 I J r29 h29) dX4_skipLetters_29 mlX4_130 mwX9_isWithin miX9_isWithin rfl (Nat.le_of_ble_eq_true rfl) rfl (by decide) (by decide) ?_
      refine wp_if_eq 48 dX4_skipLetters_32 rfl (fun c32 => ?_) (fun c32 => ?_)
      · replace h := o_pos h c32
        obtain rfl := Option.some.inj h
        exact wp_return dX4_skipLetters_48 rfl ⟨rfl, rfl, rfl, rfl⟩
      · replace h := o_neg h c32
        refine wp_aload_n dX4_skipLetters_35 0 rfl ?_
        refine wp_dup dX4_skipLetters_36 rfl ?_
        refine wp_getI (k := 7) dX4_skipLetters_37 flX4_32 rfl rfl rfl rfl ?_
        refine wp_iconst (v := 1) dX4_skipLetters_40 (by decide) ?_
        refine wp_iadd dX4_skipLetters_41 ?_
        refine wp_putI (k := 7) dX4_skipLetters_42 flX4_32 rfl rfl rfl rfl rfl rfl rfl rfl ?_
        refine wp_goto 0 dX4_skipLetters_45 rfl ?_
        refine wp_pick [0] (lv' := [(0, _)]) rfl ?_
        exact ih  (upI I 7 4 ((I 7 4) + 1)) J r h
set_option maxRecDepth 100000 in
set_option maxHeartbeats 4000000 in
theorem c_X4_skipLetters (Γ : GT) (ad : Nat → Nat) (I : IT) (J : JT) (r : IT) (h : f_X4_skipLetters I = some r) : CALL Γ mX4_skipLetters (0, 0) [.ref (ad 7)] (DX ad) I J (QE none (DX ad) r J) := by
  refine call_of' (by decide) (Nat.le_of_ble_eq_true rfl) (lv0 := [(0, .ref (ad 7))]) rfl ?_
  unfold f_X4_skipLetters at h
  refine wp_pick [0] (lv' := [(0, _)]) rfl ?_
  exact w_X4_skipLetters_0 Γ ad FU  I J r h
def f_J0_coder_7d493_s0 : Option (Int32) :=
  if (1 : Int32) = 0 then
    some 1
  else
    some 0
set_option maxRecDepth 100000 in
set_option maxHeartbeats 4000000 in
theorem c_J0_coder_7d493_s0 (Γ : GT) (ad : Nat → Nat) (I : IT) (J : JT) (r : Int32) (h : f_J0_coder_7d493_s0  = some r) : CALL Γ mJ0_coder_7d493 (0, 0) [.ref (Γ.2.2.2.2 (1 + 0))] (DX ad) I J (QE (some (.int r)) (DX ad) I J) := by
  refine call_of' (by decide) (Nat.le_of_ble_eq_true rfl) (lv0 := [(0, .ref (Γ.2.2.2.2 (1 + 0)))]) rfl ?_
  unfold f_J0_coder_7d493_s0 at h
  refine wp_compact dJ0_coder_7d493_0 fsJ0_38 ?_
  refine wp_if_eq 13 dJ0_coder_7d493_3 rfl (fun c3 => ?_) (fun c3 => ?_)
  · replace h := o_pos h c3
    refine wp_iconst (v := 1) dJ0_coder_7d493_13 (by decide) ?_
    obtain rfl := Option.some.inj h
    exact wp_ireturn (ty := .byte) dJ0_coder_7d493_14 rfl rfl ⟨rfl, rfl, rfl, rfl⟩
  · replace h := o_neg h c3
    refine wp_aload_n dJ0_coder_7d493_6 0 rfl ?_
    refine wp_scoder (i := 0) (by decide) dJ0_coder_7d493_7 fsJ0_15 ?_
    refine wp_goto 14 dJ0_coder_7d493_10 rfl ?_
    obtain rfl := Option.some.inj h
    exact wp_ireturn (ty := .byte) dJ0_coder_7d493_14 rfl rfl ⟨rfl, rfl, rfl, rfl⟩
def f_J0_length_8abf5_s0 : Option (Int32) :=
  (f_J0_coder_7d493_s0 ).bind fun r6 =>
  some ((6 : Int32) >>> (r6 &&& 31))
set_option maxRecDepth 100000 in
set_option maxHeartbeats 4000000 in
theorem c_J0_length_8abf5_s0 (Γ : GT) (ad : Nat → Nat) (I : IT) (J : JT) (r : Int32) (h : f_J0_length_8abf5_s0  = some r) : CALL Γ mJ0_length_8abf5 (0, 0) [.ref (Γ.2.2.2.2 (1 + 0))] (DX ad) I J (QE (some (.int r)) (DX ad) I J) := by
  refine call_of' (by decide) (Nat.le_of_ble_eq_true rfl) (lv0 := [(0, .ref (Γ.2.2.2.2 (1 + 0)))]) rfl ?_
  unfold f_J0_length_8abf5_s0 at h
  refine wp_aload_n dJ0_length_8abf5_0 0 rfl ?_
  refine wp_svalue (i := 0) (by decide) dJ0_length_8abf5_1 fsJ0_9 ?_
  refine wp_slen (i := 0) (v := 6) (by decide) dJ0_length_8abf5_4 (by decide) ?_
  refine wp_aload_n dJ0_length_8abf5_5 0 rfl ?_
  obtain ⟨r6, h6, h⟩ := o_bind h
  refine wp_callstr (i := 0) (by decide) (c_J0_coder_7d493_s0 Γ ad I J r6 h6) dJ0_length_8abf5_6 mlJ0_335 mwJ0_coder_7d493 miJ0_coder_7d493 rfl rfl (Nat.le_of_ble_eq_true rfl) rfl (by decide) (by decide) ?_
  refine wp_ishr dJ0_length_8abf5_9 ?_
  obtain rfl := Option.some.inj h
  exact wp_ireturn (ty := .int) dJ0_length_8abf5_10 rfl rfl ⟨rfl, rfl, rfl, rfl⟩
def f_J0_isLatin1_aae02_s0 : Option (Int32) :=
  if (1 : Int32) = 0 then
    some 0
  else
    if (0 : Int32) = 0 then
      some 1
    else
      some 0
set_option maxRecDepth 100000 in
set_option maxHeartbeats 4000000 in
theorem c_J0_isLatin1_aae02_s0 (Γ : GT) (ad : Nat → Nat) (I : IT) (J : JT) (r : Int32) (h : f_J0_isLatin1_aae02_s0  = some r) : CALL Γ mJ0_isLatin1_aae02 (0, 0) [.ref (Γ.2.2.2.2 (1 + 0))] (DX ad) I J (QE (some (.int r)) (DX ad) I J) := by
  refine call_of' (by decide) (Nat.le_of_ble_eq_true rfl) (lv0 := [(0, .ref (Γ.2.2.2.2 (1 + 0)))]) rfl ?_
  unfold f_J0_isLatin1_aae02_s0 at h
  refine wp_compact dJ0_isLatin1_aae02_0 fsJ0_38 ?_
  refine wp_if_eq 17 dJ0_isLatin1_aae02_3 rfl (fun c3 => ?_) (fun c3 => ?_)
  · replace h := o_pos h c3
    refine wp_iconst (v := 0) dJ0_isLatin1_aae02_17 (by decide) ?_
    obtain rfl := Option.some.inj h
    exact wp_ireturn (ty := .boolean) dJ0_isLatin1_aae02_18 rfl rfl ⟨rfl, rfl, rfl, rfl⟩
  · replace h := o_neg h c3
    refine wp_aload_n dJ0_isLatin1_aae02_6 0 rfl ?_
    refine wp_scoder (i := 0) (by decide) dJ0_isLatin1_aae02_7 fsJ0_15 ?_
    refine wp_if_ne 17 dJ0_isLatin1_aae02_10 rfl (fun c10 => ?_) (fun c10 => ?_)
    · replace h := o_neg h c10
      refine wp_iconst (v := 0) dJ0_isLatin1_aae02_17 (by decide) ?_
      obtain rfl := Option.some.inj h
      exact wp_ireturn (ty := .boolean) dJ0_isLatin1_aae02_18 rfl rfl ⟨rfl, rfl, rfl, rfl⟩
    · replace h := o_pos h c10
      refine wp_iconst (v := 1) dJ0_isLatin1_aae02_13 (by decide) ?_
      refine wp_goto 18 dJ0_isLatin1_aae02_14 rfl ?_
      obtain rfl := Option.some.inj h
      exact wp_ireturn (ty := .boolean) dJ0_isLatin1_aae02_18 rfl rfl ⟨rfl, rfl, rfl, rfl⟩
def f_J3_checkIndex_8e157_q0 (a0 : Int32) (a1 : Int32) : Option (Int32) :=
  if a0 < 0 then
    none
  else
    if a0 < a1 then
      some a0
    else
      none
set_option maxRecDepth 100000 in
set_option maxHeartbeats 4000000 in
theorem c_J3_checkIndex_8e157_q0 (Γ : GT) (ad : Nat → Nat) (q2 : Option Nat) (a0 : Int32) (a1 : Int32) (I : IT) (J : JT) (r : Int32) (h : f_J3_checkIndex_8e157_q0 a0 a1 = some r) : CALL Γ mJ3_checkIndex_8e157 (0, 0) [.int a0, .int a1, va_rf q2] (DX ad) I J (QE (some (.int r)) (DX ad) I J) := by
  refine call_of' (by decide) (by cases q2 <;> exact Nat.le_of_ble_eq_true rfl) (lv0 := [(0, .int a0), (1, .int a1), (2, va_rf q2)]) rfl ?_
  unfold f_J3_checkIndex_8e157_q0 at h
  refine wp_iload_n dJ3_checkIndex_8e157_0 0 rfl ?_
  refine wp_if_lt 9 dJ3_checkIndex_8e157_1 rfl (fun c1 => ?_) (fun c1 => ?_)
  · replace h := o_pos h c1
    exact absurd h (by simp)
  · replace h := o_neg h c1
    refine wp_iload_n dJ3_checkIndex_8e157_4 0 rfl ?_
    refine wp_iload_n dJ3_checkIndex_8e157_5 1 rfl ?_
    refine wp_icmp_lt 16 dJ3_checkIndex_8e157_6 rfl (fun c6 => ?_) (fun c6 => ?_)
    · replace h := o_pos h c6
      refine wp_iload_n dJ3_checkIndex_8e157_16 0 rfl ?_
      obtain rfl := Option.some.inj h
      exact wp_ireturn (ty := .int) dJ3_checkIndex_8e157_17 rfl rfl ⟨rfl, rfl, rfl, rfl⟩
    · replace h := o_neg h c6
      exact absurd h (by simp)
def f_J0_checkIndex_df160 (a0 : Int32) (a1 : Int32) : Option (Unit) :=
  (f_J3_checkIndex_8e157_q0 a0 a1).bind fun r5 =>
  some ()
set_option maxRecDepth 100000 in
set_option maxHeartbeats 4000000 in
theorem c_J0_checkIndex_df160 (Γ : GT) (ad : Nat → Nat) (a0 : Int32) (a1 : Int32) (I : IT) (J : JT) (r : Unit) (h : f_J0_checkIndex_df160 a0 a1 = some r) : CALL Γ mJ0_checkIndex_df160 (0, 0) [.int a0, .int a1] (DX ad) I J (QE none (DX ad) I J) := by
  refine call_of' (by decide) (Nat.le_of_ble_eq_true rfl) (lv0 := [(0, .int a0), (1, .int a1)]) rfl ?_
  unfold f_J0_checkIndex_df160 at h
  refine wp_iload_n dJ0_checkIndex_df160_0 0 rfl ?_
  refine wp_iload_n dJ0_checkIndex_df160_1 1 rfl ?_
  refine wp_sioobe dJ0_checkIndex_df160_2 fsJ0_1053 (fun q2 => ?_)
  obtain ⟨r5, h5, h⟩ := o_bind h
  refine wp_callsI (c_J3_checkIndex_8e157_q0 Γ ad q2 a0 a1 I J r5 h5) dJ0_checkIndex_df160_5 mlJ0_1059 mwJ3_checkIndex_8e157 miJ3_checkIndex_8e157 rfl (Nat.le_of_ble_eq_true rfl) rfl (by decide) (by decide) ?_
  refine wp_pop dJ0_checkIndex_df160_8 rfl ?_
  obtain rfl := Option.some.inj h
  exact wp_return dJ0_checkIndex_df160_9 rfl ⟨rfl, rfl, rfl, rfl⟩
def f_J1_charAt_3b067_v0 (a1 : Int32) (I : IT) : Option (Int32) :=
  (f_J0_checkIndex_df160 a1 6).bind fun r3 =>
  if inbB a1 (g_len.getD 0 0) = true then
    if 0 ≤ (((((g_byt.getD 0 []).getD a1.toNatClampNeg 0) &&& 255).toUInt32 % 65536).toInt32) ∧ (((((g_byt.getD 0 []).getD a1.toNatClampNeg 0) &&& 255).toUInt32 % 65536).toInt32) < 65536 then some (((((g_byt.getD 0 []).getD a1.toNatClampNeg 0) &&& 255).toUInt32 % 65536).toInt32) else none
  else none
set_option maxRecDepth 100000 in
set_option maxHeartbeats 4000000 in
theorem c_J1_charAt_3b067_v0 (Γ : GT) (ad : Nat → Nat) (a1 : Int32) (I : IT) (J : JT) (r : Int32) (h : f_J1_charAt_3b067_v0 a1 I = some r) : CALL Γ mJ1_charAt_3b067 (0, 0) [.ref (Γ.2.2.2.2 (11 + 0)), .int a1] (DX ad) I J (QE (some (.int r)) (DX ad) I J) := by
  refine call_of' (by decide) (Nat.le_of_ble_eq_true rfl) (lv0 := [(0, .ref (Γ.2.2.2.2 (11 + 0))), (1, .int a1)]) rfl ?_
  unfold f_J1_charAt_3b067_v0 at h
  refine wp_iload_n dJ1_charAt_3b067_0 1 rfl ?_
  refine wp_aload_n dJ1_charAt_3b067_1 0 rfl ?_
  refine wp_slen (i := 0) (v := 6) (by decide) dJ1_charAt_3b067_2 (by decide) ?_
  obtain ⟨r3, h3, h⟩ := o_bind h
  refine wp_callsV (c_J0_checkIndex_df160 Γ ad a1 6 I J r3 h3) dJ1_charAt_3b067_3 mlJ1_9 mwJ0_checkIndex_df160 miJ0_checkIndex_df160 rfl (Nat.le_of_ble_eq_true rfl) rfl (by decide) (by decide) ?_
  refine wp_aload_n dJ1_charAt_3b067_6 0 rfl ?_
  refine wp_iload_n dJ1_charAt_3b067_7 1 rfl ?_
  obtain ⟨g8, h⟩ := o_grd h
  refine wp_sbyte (i := 0) (by decide) dJ1_charAt_3b067_8 (inb_of g8) ?_
  refine wp_sipush (v := 255) dJ1_charAt_3b067_9 (by decide) ?_
  refine wp_iand dJ1_charAt_3b067_12 ?_
  refine wp_i2c dJ1_charAt_3b067_13 ?_
  obtain ⟨g14, h⟩ := o_grd h
  obtain rfl := Option.some.inj h
  exact wp_ireturn (ty := .char) dJ1_charAt_3b067_14 rfl (isc_of g14) ⟨rfl, rfl, rfl, rfl⟩
def f_J0_charAt_5068e_s0 (a1 : Int32) (I : IT) : Option (Int32) :=
  (f_J0_isLatin1_aae02_s0 ).bind fun r1 =>
  if r1 = 0 then
    none
  else
    (f_J1_charAt_3b067_v0 a1 I).bind fun r12 =>
    if 0 ≤ r12 ∧ r12 < 65536 then some r12 else none
set_option maxRecDepth 100000 in
set_option maxHeartbeats 4000000 in
theorem c_J0_charAt_5068e_s0 (Γ : GT) (ad : Nat → Nat) (a1 : Int32) (I : IT) (J : JT) (r : Int32) (h : f_J0_charAt_5068e_s0 a1 I = some r) : CALL Γ mJ0_charAt_5068e (0, 0) [.ref (Γ.2.2.2.2 (1 + 0)), .int a1] (DX ad) I J (QE (some (.int r)) (DX ad) I J) := by
  refine call_of' (by decide) (Nat.le_of_ble_eq_true rfl) (lv0 := [(0, .ref (Γ.2.2.2.2 (1 + 0))), (1, .int a1)]) rfl ?_
  unfold f_J0_charAt_5068e_s0 at h
  refine wp_aload_n dJ0_charAt_5068e_0 0 rfl ?_
  obtain ⟨r1, h1, h⟩ := o_bind h
  refine wp_callstr (i := 0) (by decide) (c_J0_isLatin1_aae02_s0 Γ ad I J r1 h1) dJ0_charAt_5068e_1 mlJ0_492 mwJ0_isLatin1_aae02 miJ0_isLatin1_aae02 rfl rfl (Nat.le_of_ble_eq_true rfl) rfl (by decide) (by decide) ?_
  refine wp_if_eq 16 dJ0_charAt_5068e_4 rfl (fun c4 => ?_) (fun c4 => ?_)
  · replace h := o_pos h c4
    refine wp_aload_n dJ0_charAt_5068e_16 0 rfl ?_
    refine wp_svalue (i := 0) (by decide) dJ0_charAt_5068e_17 fsJ0_9 ?_
    refine wp_iload_n dJ0_charAt_5068e_20 1 rfl ?_
    exact absurd h (by simp)
  · replace h := o_neg h c4
    refine wp_aload_n dJ0_charAt_5068e_7 0 rfl ?_
    refine wp_svalue (i := 0) (by decide) dJ0_charAt_5068e_8 fsJ0_9 ?_
    refine wp_iload_n dJ0_charAt_5068e_11 1 rfl ?_
    obtain ⟨r12, h12, h⟩ := o_bind h
    refine wp_callsI (c_J1_charAt_3b067_v0 Γ ad a1 I J r12 h12) dJ0_charAt_5068e_12 mlJ0_495 mwJ1_charAt_3b067 miJ1_charAt_3b067 rfl (Nat.le_of_ble_eq_true rfl) rfl (by decide) (by decide) ?_
    obtain ⟨g15, h⟩ := o_grd h
    obtain rfl := Option.some.inj h
    exact wp_ireturn (ty := .char) dJ0_charAt_5068e_15 rfl (isc_of g15) ⟨rfl, rfl, rfl, rfl⟩
def f_X4_isWord_s0_17 : Nat → Int32 → Int32 → IT → Option (Int32)
  | 0, _, _, _ => none
  | n + 1, v1, v3, I =>
    (f_J0_length_8abf5_s0 ).bind fun r19 =>
    if r19 ≤ v3 then
      some 1
    else
      (f_X6_byteAt (v1 + v3) I).bind fun r32 =>
      (f_J0_charAt_5068e_s0 v3 I).bind fun r37 =>
      if r32 = r37 then
        f_X4_isWord_s0_17 n v1 (v3 + 1) I
      else
        some 0
def f_X4_isWord_s0 (a1 : Int32) (I : IT) : Option (Int32) :=
  (f_J0_length_8abf5_s0 ).bind fun r7 =>
  if ((I 7 4) - a1) = r7 then
    f_X4_isWord_s0_17 FU a1 0 I
  else
    some 0
set_option maxRecDepth 100000 in
set_option maxHeartbeats 4000000 in
theorem w_X4_isWord_s0_17 (Γ : GT) (ad : Nat → Nat) : ∀ (n : Nat) (v1 : Int32) (v3 : Int32) (I : IT) (J : JT) (r : Int32), f_X4_isWord_s0_17 n v1 v3 I = some r → WP Γ mX4_isWord (0, 0) 17 [(0, .ref (ad 7)), (1, .int v1), (2, .ref (Γ.2.2.2.2 (1 + 0))), (3, .int v3)] [] (DX ad) I J (QE (some (.int r)) (DX ad) I J) := by
  intro n
  induction n with
  | zero => intro v1 v3 I J r h; exact absurd h (by simp [f_X4_isWord_s0_17])
  | succ n ih =>
    intro v1 v3 I J r h
    rw [f_X4_isWord_s0_17] at h
    refine wp_iload_n dX4_isWord_17 3 rfl ?_
    refine wp_aload_n dX4_isWord_18 2 rfl ?_
    obtain ⟨r19, h19, h⟩ := o_bind h
    refine wp_callstr (i := 0) (by decide) (c_J0_length_8abf5_s0 Γ ad I J r19 h19) dX4_isWord_19 mlX4_134 mwJ0_length_8abf5 miJ0_length_8abf5 rfl rfl (Nat.le_of_ble_eq_true rfl) rfl (by decide) (by decide) ?_
    refine wp_icmp_ge 51 dX4_isWord_22 rfl (fun c22 => ?_) (fun c22 => ?_)
    · replace h := o_pos h c22
      refine wp_iconst (v := 1) dX4_isWord_51 (by decide) ?_
      obtain rfl := Option.some.inj h
      exact wp_ireturn (ty := .boolean) dX4_isWord_52 rfl rfl ⟨rfl, rfl, rfl, rfl⟩
    · replace h := o_neg h c22
      refine wp_aload_n dX4_isWord_25 0 rfl ?_
      refine wp_getR (k := 7) (a' := ad 1) dX4_isWord_26 flX4_18 rfl rfl rfl rfl rfl ?_
      refine wp_iload_n dX4_isWord_29 1 rfl ?_
      refine wp_iload_n dX4_isWord_30 3 rfl ?_
      refine wp_iadd dX4_isWord_31 ?_
      obtain ⟨r32, h32, h⟩ := o_bind h
      refine wp_callvI (k := 1) (ci := 6) (c_X6_byteAt Γ ad (v1 + v3) I J r32 h32) dX4_isWord_32 mlX4_122 mwX6_byteAt miX6_byteAt rfl rfl rfl rfl (Nat.le_of_ble_eq_true rfl) rfl (by decide) (by decide) ?_
      refine wp_aload_n dX4_isWord_35 2 rfl ?_
      refine wp_iload_n dX4_isWord_36 3 rfl ?_
      obtain ⟨r37, h37, h⟩ := o_bind h
      refine wp_callstr (i := 0) (by decide) (c_J0_charAt_5068e_s0 Γ ad v3 I J r37 h37) dX4_isWord_37 mlX4_139 mwJ0_charAt_5068e miJ0_charAt_5068e rfl rfl (Nat.le_of_ble_eq_true rfl) rfl (by decide) (by decide) ?_
      refine wp_icmp_eq 45 dX4_isWord_40 rfl (fun c40 => ?_) (fun c40 => ?_)
      · replace h := o_pos h c40
        refine wp_iinc (v := v3 + 1) (lv' := [(0, _), (1, _), (2, _), (3, _)]) dX4_isWord_45 3 rfl rfl rfl rfl rfl ?_
        refine wp_goto 17 dX4_isWord_48 rfl ?_
        refine wp_pick [0, 1, 2, 3] (lv' := [(0, _), (1, _), (2, _), (3, _)]) rfl ?_
        exact ih v1 (v3 + 1) I J r h
      · replace h := o_neg h c40
        refine wp_iconst (v := 0) dX4_isWord_43 (by decide) ?_
        obtain rfl := Option.some.inj h
        exact wp_ireturn (ty := .boolean) dX4_isWord_44 rfl rfl ⟨rfl, rfl, rfl, rfl⟩
set_option maxRecDepth 100000 in
set_option maxHeartbeats 4000000 in
theorem c_X4_isWord_s0 (Γ : GT) (ad : Nat → Nat) (a1 : Int32) (I : IT) (J : JT) (r : Int32) (h : f_X4_isWord_s0 a1 I = some r) : CALL Γ mX4_isWord (0, 0) [.ref (ad 7), .int a1, .ref (Γ.2.2.2.2 (1 + 0))] (DX ad) I J (QE (some (.int r)) (DX ad) I J) := by
  refine call_of' (by decide) (Nat.le_of_ble_eq_true rfl) (lv0 := [(0, .ref (ad 7)), (1, .int a1), (2, .ref (Γ.2.2.2.2 (1 + 0)))]) rfl ?_
  unfold f_X4_isWord_s0 at h
  refine wp_aload_n dX4_isWord_0 0 rfl ?_
  refine wp_getI (k := 7) dX4_isWord_1 flX4_32 rfl rfl rfl rfl ?_
  refine wp_iload_n dX4_isWord_4 1 rfl ?_
  refine wp_isub dX4_isWord_5 ?_
  refine wp_aload_n dX4_isWord_6 2 rfl ?_
  obtain ⟨r7, h7, h⟩ := o_bind h
  refine wp_callstr (i := 0) (by decide) (c_J0_length_8abf5_s0 Γ ad I J r7 h7) dX4_isWord_7 mlX4_134 mwJ0_length_8abf5 miJ0_length_8abf5 rfl rfl (Nat.le_of_ble_eq_true rfl) rfl (by decide) (by decide) ?_
  refine wp_icmp_eq 15 dX4_isWord_10 rfl (fun c10 => ?_) (fun c10 => ?_)
  · replace h := o_pos h c10
    refine wp_iconst (v := 0) dX4_isWord_15 (by decide) ?_
    refine wp_istore_n (lv' := [(0, _), (1, _), (2, _), (3, _)]) dX4_isWord_16 rfl rfl rfl rfl ?_
    refine wp_pick [0, 1, 2, 3] (lv' := [(0, _), (1, _), (2, _), (3, _)]) rfl ?_
    exact w_X4_isWord_s0_17 Γ ad FU a1 0 I J r h
  · replace h := o_neg h c10
    refine wp_iconst (v := 0) dX4_isWord_13 (by decide) ?_
    obtain rfl := Option.some.inj h
    exact wp_ireturn (ty := .boolean) dX4_isWord_14 rfl rfl ⟨rfl, rfl, rfl, rfl⟩
def f_J0_coder_7d493_s1 : Option (Int32) :=
  if (1 : Int32) = 0 then
    some 1
  else
    some 0
set_option maxRecDepth 100000 in
set_option maxHeartbeats 4000000 in
theorem c_J0_coder_7d493_s1 (Γ : GT) (ad : Nat → Nat) (I : IT) (J : JT) (r : Int32) (h : f_J0_coder_7d493_s1  = some r) : CALL Γ mJ0_coder_7d493 (0, 0) [.ref (Γ.2.2.2.2 (1 + 1))] (DX ad) I J (QE (some (.int r)) (DX ad) I J) := by
  refine call_of' (by decide) (Nat.le_of_ble_eq_true rfl) (lv0 := [(0, .ref (Γ.2.2.2.2 (1 + 1)))]) rfl ?_
  unfold f_J0_coder_7d493_s1 at h
  refine wp_compact dJ0_coder_7d493_0 fsJ0_38 ?_
  refine wp_if_eq 13 dJ0_coder_7d493_3 rfl (fun c3 => ?_) (fun c3 => ?_)
  · replace h := o_pos h c3
    refine wp_iconst (v := 1) dJ0_coder_7d493_13 (by decide) ?_
    obtain rfl := Option.some.inj h
    exact wp_ireturn (ty := .byte) dJ0_coder_7d493_14 rfl rfl ⟨rfl, rfl, rfl, rfl⟩
  · replace h := o_neg h c3
    refine wp_aload_n dJ0_coder_7d493_6 0 rfl ?_
    refine wp_scoder (i := 1) (by decide) dJ0_coder_7d493_7 fsJ0_15 ?_
    refine wp_goto 14 dJ0_coder_7d493_10 rfl ?_
    obtain rfl := Option.some.inj h
    exact wp_ireturn (ty := .byte) dJ0_coder_7d493_14 rfl rfl ⟨rfl, rfl, rfl, rfl⟩
def f_J0_length_8abf5_s1 : Option (Int32) :=
  (f_J0_coder_7d493_s1 ).bind fun r6 =>
  some ((5 : Int32) >>> (r6 &&& 31))
set_option maxRecDepth 100000 in
set_option maxHeartbeats 4000000 in
theorem c_J0_length_8abf5_s1 (Γ : GT) (ad : Nat → Nat) (I : IT) (J : JT) (r : Int32) (h : f_J0_length_8abf5_s1  = some r) : CALL Γ mJ0_length_8abf5 (0, 0) [.ref (Γ.2.2.2.2 (1 + 1))] (DX ad) I J (QE (some (.int r)) (DX ad) I J) := by
  refine call_of' (by decide) (Nat.le_of_ble_eq_true rfl) (lv0 := [(0, .ref (Γ.2.2.2.2 (1 + 1)))]) rfl ?_
  unfold f_J0_length_8abf5_s1 at h
  refine wp_aload_n dJ0_length_8abf5_0 0 rfl ?_
  refine wp_svalue (i := 1) (by decide) dJ0_length_8abf5_1 fsJ0_9 ?_
  refine wp_slen (i := 1) (v := 5) (by decide) dJ0_length_8abf5_4 (by decide) ?_
  refine wp_aload_n dJ0_length_8abf5_5 0 rfl ?_
  obtain ⟨r6, h6, h⟩ := o_bind h
  refine wp_callstr (i := 1) (by decide) (c_J0_coder_7d493_s1 Γ ad I J r6 h6) dJ0_length_8abf5_6 mlJ0_335 mwJ0_coder_7d493 miJ0_coder_7d493 rfl rfl (Nat.le_of_ble_eq_true rfl) rfl (by decide) (by decide) ?_
  refine wp_ishr dJ0_length_8abf5_9 ?_
  obtain rfl := Option.some.inj h
  exact wp_ireturn (ty := .int) dJ0_length_8abf5_10 rfl rfl ⟨rfl, rfl, rfl, rfl⟩
def f_J0_isLatin1_aae02_s1 : Option (Int32) :=
  if (1 : Int32) = 0 then
    some 0
  else
    if (0 : Int32) = 0 then
      some 1
    else
      some 0
set_option maxRecDepth 100000 in
set_option maxHeartbeats 4000000 in
theorem c_J0_isLatin1_aae02_s1 (Γ : GT) (ad : Nat → Nat) (I : IT) (J : JT) (r : Int32) (h : f_J0_isLatin1_aae02_s1  = some r) : CALL Γ mJ0_isLatin1_aae02 (0, 0) [.ref (Γ.2.2.2.2 (1 + 1))] (DX ad) I J (QE (some (.int r)) (DX ad) I J) := by
  refine call_of' (by decide) (Nat.le_of_ble_eq_true rfl) (lv0 := [(0, .ref (Γ.2.2.2.2 (1 + 1)))]) rfl ?_
  unfold f_J0_isLatin1_aae02_s1 at h
  refine wp_compact dJ0_isLatin1_aae02_0 fsJ0_38 ?_
  refine wp_if_eq 17 dJ0_isLatin1_aae02_3 rfl (fun c3 => ?_) (fun c3 => ?_)
  · replace h := o_pos h c3
    refine wp_iconst (v := 0) dJ0_isLatin1_aae02_17 (by decide) ?_
    obtain rfl := Option.some.inj h
    exact wp_ireturn (ty := .boolean) dJ0_isLatin1_aae02_18 rfl rfl ⟨rfl, rfl, rfl, rfl⟩
  · replace h := o_neg h c3
    refine wp_aload_n dJ0_isLatin1_aae02_6 0 rfl ?_
    refine wp_scoder (i := 1) (by decide) dJ0_isLatin1_aae02_7 fsJ0_15 ?_
    refine wp_if_ne 17 dJ0_isLatin1_aae02_10 rfl (fun c10 => ?_) (fun c10 => ?_)
    · replace h := o_neg h c10
      refine wp_iconst (v := 0) dJ0_isLatin1_aae02_17 (by decide) ?_
      obtain rfl := Option.some.inj h
      exact wp_ireturn (ty := .boolean) dJ0_isLatin1_aae02_18 rfl rfl ⟨rfl, rfl, rfl, rfl⟩
    · replace h := o_pos h c10
      refine wp_iconst (v := 1) dJ0_isLatin1_aae02_13 (by decide) ?_
      refine wp_goto 18 dJ0_isLatin1_aae02_14 rfl ?_
      obtain rfl := Option.some.inj h
      exact wp_ireturn (ty := .boolean) dJ0_isLatin1_aae02_18 rfl rfl ⟨rfl, rfl, rfl, rfl⟩
def f_J1_charAt_3b067_v1 (a1 : Int32) (I : IT) : Option (Int32) :=
  (f_J0_checkIndex_df160 a1 5).bind fun r3 =>
  if inbB a1 (g_len.getD 1 0) = true then
    if 0 ≤ (((((g_byt.getD 1 []).getD a1.toNatClampNeg 0) &&& 255).toUInt32 % 65536).toInt32) ∧ (((((g_byt.getD 1 []).getD a1.toNatClampNeg 0) &&& 255).toUInt32 % 65536).toInt32) < 65536 then some (((((g_byt.getD 1 []).getD a1.toNatClampNeg 0) &&& 255).toUInt32 % 65536).toInt32) else none
  else none
set_option maxRecDepth 100000 in
set_option maxHeartbeats 4000000 in
theorem c_J1_charAt_3b067_v1 (Γ : GT) (ad : Nat → Nat) (a1 : Int32) (I : IT) (J : JT) (r : Int32) (h : f_J1_charAt_3b067_v1 a1 I = some r) : CALL Γ mJ1_charAt_3b067 (0, 0) [.ref (Γ.2.2.2.2 (11 + 1)), .int a1] (DX ad) I J (QE (some (.int r)) (DX ad) I J) := by
  refine call_of' (by decide) (Nat.le_of_ble_eq_true rfl) (lv0 := [(0, .ref (Γ.2.2.2.2 (11 + 1))), (1, .int a1)]) rfl ?_
  unfold f_J1_charAt_3b067_v1 at h
  refine wp_iload_n dJ1_charAt_3b067_0 1 rfl ?_
  refine wp_aload_n dJ1_charAt_3b067_1 0 rfl ?_
  refine wp_slen (i := 1) (v := 5) (by decide) dJ1_charAt_3b067_2 (by decide) ?_
  obtain ⟨r3, h3, h⟩ := o_bind h
  refine wp_callsV (c_J0_checkIndex_df160 Γ ad a1 5 I J r3 h3) dJ1_charAt_3b067_3 mlJ1_9 mwJ0_checkIndex_df160 miJ0_checkIndex_df160 rfl (Nat.le_of_ble_eq_true rfl) rfl (by decide) (by decide) ?_
  refine wp_aload_n dJ1_charAt_3b067_6 0 rfl ?_
  refine wp_iload_n dJ1_charAt_3b067_7 1 rfl ?_
  obtain ⟨g8, h⟩ := o_grd h
  refine wp_sbyte (i := 1) (by decide) dJ1_charAt_3b067_8 (inb_of g8) ?_
  refine wp_sipush (v := 255) dJ1_charAt_3b067_9 (by decide) ?_
  refine wp_iand dJ1_charAt_3b067_12 ?_
  refine wp_i2c dJ1_charAt_3b067_13 ?_
  obtain ⟨g14, h⟩ := o_grd h
  obtain rfl := Option.some.inj h
  exact wp_ireturn (ty := .char) dJ1_charAt_3b067_14 rfl (isc_of g14) ⟨rfl, rfl, rfl, rfl⟩
def f_J0_charAt_5068e_s1 (a1 : Int32) (I : IT) : Option (Int32) :=
  (f_J0_isLatin1_aae02_s1 ).bind fun r1 =>
  if r1 = 0 then
    none
  else
    (f_J1_charAt_3b067_v1 a1 I).bind fun r12 =>
    if 0 ≤ r12 ∧ r12 < 65536 then some r12 else none
set_option maxRecDepth 100000 in
set_option maxHeartbeats 4000000 in
theorem c_J0_charAt_5068e_s1 (Γ : GT) (ad : Nat → Nat) (a1 : Int32) (I : IT) (J : JT) (r : Int32) (h : f_J0_charAt_5068e_s1 a1 I = some r) : CALL Γ mJ0_charAt_5068e (0, 0) [.ref (Γ.2.2.2.2 (1 + 1)), .int a1] (DX ad) I J (QE (some (.int r)) (DX ad) I J) := by
  refine call_of' (by decide) (Nat.le_of_ble_eq_true rfl) (lv0 := [(0, .ref (Γ.2.2.2.2 (1 + 1))), (1, .int a1)]) rfl ?_
  unfold f_J0_charAt_5068e_s1 at h
  refine wp_aload_n dJ0_charAt_5068e_0 0 rfl ?_
  obtain ⟨r1, h1, h⟩ := o_bind h
  refine wp_callstr (i := 1) (by decide) (c_J0_isLatin1_aae02_s1 Γ ad I J r1 h1) dJ0_charAt_5068e_1 mlJ0_492 mwJ0_isLatin1_aae02 miJ0_isLatin1_aae02 rfl rfl (Nat.le_of_ble_eq_true rfl) rfl (by decide) (by decide) ?_
  refine wp_if_eq 16 dJ0_charAt_5068e_4 rfl (fun c4 => ?_) (fun c4 => ?_)
  · replace h := o_pos h c4
    refine wp_aload_n dJ0_charAt_5068e_16 0 rfl ?_
    refine wp_svalue (i := 1) (by decide) dJ0_charAt_5068e_17 fsJ0_9 ?_
    refine wp_iload_n dJ0_charAt_5068e_20 1 rfl ?_
    exact absurd h (by simp)
  · replace h := o_neg h c4
    refine wp_aload_n dJ0_charAt_5068e_7 0 rfl ?_
    refine wp_svalue (i := 1) (by decide) dJ0_charAt_5068e_8 fsJ0_9 ?_
    refine wp_iload_n dJ0_charAt_5068e_11 1 rfl ?_
    obtain ⟨r12, h12, h⟩ := o_bind h
    refine wp_callsI (c_J1_charAt_3b067_v1 Γ ad a1 I J r12 h12) dJ0_charAt_5068e_12 mlJ0_495 mwJ1_charAt_3b067 miJ1_charAt_3b067 rfl (Nat.le_of_ble_eq_true rfl) rfl (by decide) (by decide) ?_
    obtain ⟨g15, h⟩ := o_grd h
    obtain rfl := Option.some.inj h
    exact wp_ireturn (ty := .char) dJ0_charAt_5068e_15 rfl (isc_of g15) ⟨rfl, rfl, rfl, rfl⟩
def f_X4_isWord_s1_17 : Nat → Int32 → Int32 → IT → Option (Int32)
  | 0, _, _, _ => none
  | n + 1, v1, v3, I =>
    (f_J0_length_8abf5_s1 ).bind fun r19 =>
    if r19 ≤ v3 then
      some 1
    else
      (f_X6_byteAt (v1 + v3) I).bind fun r32 =>
      (f_J0_charAt_5068e_s1 v3 I).bind fun r37 =>
      if r32 = r37 then
        f_X4_isWord_s1_17 n v1 (v3 + 1) I
      else
        some 0
def f_X4_isWord_s1 (a1 : Int32) (I : IT) : Option (Int32) :=
  (f_J0_length_8abf5_s1 ).bind fun r7 =>
  if ((I 7 4) - a1) = r7 then
    f_X4_isWord_s1_17 FU a1 0 I
  else
    some 0
set_option maxRecDepth 100000 in
set_option maxHeartbeats 4000000 in
theorem w_X4_isWord_s1_17 (Γ : GT) (ad : Nat → Nat) : ∀ (n : Nat) (v1 : Int32) (v3 : Int32) (I : IT) (J : JT) (r : Int32), f_X4_isWord_s1_17 n v1 v3 I = some r → WP Γ mX4_isWord (0, 0) 17 [(0, .ref (ad 7)), (1, .int v1), (2, .ref (Γ.2.2.2.2 (1 + 1))), (3, .int v3)] [] (DX ad) I J (QE (some (.int r)) (DX ad) I J) := by
  intro n
  induction n with
  | zero => intro v1 v3 I J r h; exact absurd h (by simp [f_X4_isWord_s1_17])
  | succ n ih =>
    intro v1 v3 I J r h
    rw [f_X4_isWord_s1_17] at h
    refine wp_iload_n dX4_isWord_17 3 rfl ?_
    refine wp_aload_n dX4_isWord_18 2 rfl ?_
    obtain ⟨r19, h19, h⟩ := o_bind h
    refine wp_callstr (i := 1) (by decide) (c_J0_length_8abf5_s1 Γ ad I J r19 h19) dX4_isWord_19 mlX4_134 mwJ0_length_8abf5 miJ0_length_8abf5 rfl rfl (Nat.le_of_ble_eq_true rfl) rfl (by decide) (by decide) ?_
    refine wp_icmp_ge 51 dX4_isWord_22 rfl (fun c22 => ?_) (fun c22 => ?_)
    · replace h := o_pos h c22
      refine wp_iconst (v := 1) dX4_isWord_51 (by decide) ?_
      obtain rfl := Option.some.inj h
      exact wp_ireturn (ty := .boolean) dX4_isWord_52 rfl rfl ⟨rfl, rfl, rfl, rfl⟩
    · replace h := o_neg h c22
      refine wp_aload_n dX4_isWord_25 0 rfl ?_
      refine wp_getR (k := 7) (a' := ad 1) dX4_isWord_26 flX4_18 rfl rfl rfl rfl rfl ?_
      refine wp_iload_n dX4_isWord_29 1 rfl ?_
      refine wp_iload_n dX4_isWord_30 3 rfl ?_
      refine wp_iadd dX4_isWord_31 ?_
      obtain ⟨r32, h32, h⟩ := o_bind h
      refine wp_callvI (k := 1) (ci := 6) (c_X6_byteAt Γ ad (v1 + v3) I J r32 h32) dX4_isWord_32 mlX4_122 mwX6_byteAt miX6_byteAt rfl rfl rfl rfl (Nat.le_of_ble_eq_true rfl) rfl (by decide) (by decide) ?_
      refine wp_aload_n dX4_isWord_35 2 rfl ?_
      refine wp_iload_n dX4_isWord_36 3 rfl ?_
      obtain ⟨r37, h37, h⟩ := o_bind h
      refine wp_callstr (i := 1) (by decide) (c_J0_charAt_5068e_s1 Γ ad v3 I J r37 h37) dX4_isWord_37 mlX4_139 mwJ0_charAt_5068e miJ0_charAt_5068e rfl rfl (Nat.le_of_ble_eq_true rfl) rfl (by decide) (by decide) ?_
      refine wp_icmp_eq 45 dX4_isWord_40 rfl (fun c40 => ?_) (fun c40 => ?_)
      · replace h := o_pos h c40
        refine wp_iinc (v := v3 + 1) (lv' := [(0, _), (1, _), (2, _), (3, _)]) dX4_isWord_45 3 rfl rfl rfl rfl rfl ?_
        refine wp_goto 17 dX4_isWord_48 rfl ?_
        refine wp_pick [0, 1, 2, 3] (lv' := [(0, _), (1, _), (2, _), (3, _)]) rfl ?_
        exact ih v1 (v3 + 1) I J r h
      · replace h := o_neg h c40
        refine wp_iconst (v := 0) dX4_isWord_43 (by decide) ?_
        obtain rfl := Option.some.inj h
        exact wp_ireturn (ty := .boolean) dX4_isWord_44 rfl rfl ⟨rfl, rfl, rfl, rfl⟩
set_option maxRecDepth 100000 in
set_option maxHeartbeats 4000000 in
theorem c_X4_isWord_s1 (Γ : GT) (ad : Nat → Nat) (a1 : Int32) (I : IT) (J : JT) (r : Int32) (h : f_X4_isWord_s1 a1 I = some r) : CALL Γ mX4_isWord (0, 0) [.ref (ad 7), .int a1, .ref (Γ.2.2.2.2 (1 + 1))] (DX ad) I J (QE (some (.int r)) (DX ad) I J) := by
  refine call_of' (by decide) (Nat.le_of_ble_eq_true rfl) (lv0 := [(0, .ref (ad 7)), (1, .int a1), (2, .ref (Γ.2.2.2.2 (1 + 1)))]) rfl ?_
  unfold f_X4_isWord_s1 at h
  refine wp_aload_n dX4_isWord_0 0 rfl ?_
  refine wp_getI (k := 7) dX4_isWord_1 flX4_32 rfl rfl rfl rfl ?_
  refine wp_iload_n dX4_isWord_4 1 rfl ?_
  refine wp_isub dX4_isWord_5 ?_
  refine wp_aload_n dX4_isWord_6 2 rfl ?_
  obtain ⟨r7, h7, h⟩ := o_bind h
  refine wp_callstr (i := 1) (by decide) (c_J0_length_8abf5_s1 Γ ad I J r7 h7) dX4_isWord_7 mlX4_134 mwJ0_length_8abf5 miJ0_length_8abf5 rfl rfl (Nat.le_of_ble_eq_true rfl) rfl (by decide) (by decide) ?_
  refine wp_icmp_eq 15 dX4_isWord_10 rfl (fun c10 => ?_) (fun c10 => ?_)
  · replace h := o_pos h c10
    refine wp_iconst (v := 0) dX4_isWord_15 (by decide) ?_
    refine wp_istore_n (lv' := [(0, _), (1, _), (2, _), (3, _)]) dX4_isWord_16 rfl rfl rfl rfl ?_
    refine wp_pick [0, 1, 2, 3] (lv' := [(0, _), (1, _), (2, _), (3, _)]) rfl ?_
    exact w_X4_isWord_s1_17 Γ ad FU a1 0 I J r h
  · replace h := o_neg h c10
    refine wp_iconst (v := 0) dX4_isWord_13 (by decide) ?_
    obtain rfl := Option.some.inj h
    exact wp_ireturn (ty := .boolean) dX4_isWord_14 rfl rfl ⟨rfl, rfl, rfl, rfl⟩
def f_J0_coder_7d493_s2 : Option (Int32) :=
  if (1 : Int32) = 0 then
    some 1
  else
    some 0
set_option maxRecDepth 100000 in
set_option maxHeartbeats 4000000 in
theorem c_J0_coder_7d493_s2 (Γ : GT) (ad : Nat → Nat) (I : IT) (J : JT) (r : Int32) (h : f_J0_coder_7d493_s2  = some r) : CALL Γ mJ0_coder_7d493 (0, 0) [.ref (Γ.2.2.2.2 (1 + 2))] (DX ad) I J (QE (some (.int r)) (DX ad) I J) := by
  refine call_of' (by decide) (Nat.le_of_ble_eq_true rfl) (lv0 := [(0, .ref (Γ.2.2.2.2 (1 + 2)))]) rfl ?_
  unfold f_J0_coder_7d493_s2 at h
  refine wp_compact dJ0_coder_7d493_0 fsJ0_38 ?_
  refine wp_if_eq 13 dJ0_coder_7d493_3 rfl (fun c3 => ?_) (fun c3 => ?_)
  · replace h := o_pos h c3
    refine wp_iconst (v := 1) dJ0_coder_7d493_13 (by decide) ?_
    obtain rfl := Option.some.inj h
    exact wp_ireturn (ty := .byte) dJ0_coder_7d493_14 rfl rfl ⟨rfl, rfl, rfl, rfl⟩
  · replace h := o_neg h c3
    refine wp_aload_n dJ0_coder_7d493_6 0 rfl ?_
    refine wp_scoder (i := 2) (by decide) dJ0_coder_7d493_7 fsJ0_15 ?_
    refine wp_goto 14 dJ0_coder_7d493_10 rfl ?_
    obtain rfl := Option.some.inj h
    exact wp_ireturn (ty := .byte) dJ0_coder_7d493_14 rfl rfl ⟨rfl, rfl, rfl, rfl⟩
def f_J0_length_8abf5_s2 : Option (Int32) :=
  (f_J0_coder_7d493_s2 ).bind fun r6 =>
  some ((6 : Int32) >>> (r6 &&& 31))
set_option maxRecDepth 100000 in
set_option maxHeartbeats 4000000 in
theorem c_J0_length_8abf5_s2 (Γ : GT) (ad : Nat → Nat) (I : IT) (J : JT) (r : Int32) (h : f_J0_length_8abf5_s2  = some r) : CALL Γ mJ0_length_8abf5 (0, 0) [.ref (Γ.2.2.2.2 (1 + 2))] (DX ad) I J (QE (some (.int r)) (DX ad) I J) := by
  refine call_of' (by decide) (Nat.le_of_ble_eq_true rfl) (lv0 := [(0, .ref (Γ.2.2.2.2 (1 + 2)))]) rfl ?_
  unfold f_J0_length_8abf5_s2 at h
  refine wp_aload_n dJ0_length_8abf5_0 0 rfl ?_
  refine wp_svalue (i := 2) (by decide) dJ0_length_8abf5_1 fsJ0_9 ?_
  refine wp_slen (i := 2) (v := 6) (by decide) dJ0_length_8abf5_4 (by decide) ?_
  refine wp_aload_n dJ0_length_8abf5_5 0 rfl ?_
  obtain ⟨r6, h6, h⟩ := o_bind h
  refine wp_callstr (i := 2) (by decide) (c_J0_coder_7d493_s2 Γ ad I J r6 h6) dJ0_length_8abf5_6 mlJ0_335 mwJ0_coder_7d493 miJ0_coder_7d493 rfl rfl (Nat.le_of_ble_eq_true rfl) rfl (by decide) (by decide) ?_
  refine wp_ishr dJ0_length_8abf5_9 ?_
  obtain rfl := Option.some.inj h
  exact wp_ireturn (ty := .int) dJ0_length_8abf5_10 rfl rfl ⟨rfl, rfl, rfl, rfl⟩
def f_J0_isLatin1_aae02_s2 : Option (Int32) :=
  if (1 : Int32) = 0 then
    some 0
  else
    if (0 : Int32) = 0 then
      some 1
    else
      some 0
set_option maxRecDepth 100000 in
set_option maxHeartbeats 4000000 in
theorem c_J0_isLatin1_aae02_s2 (Γ : GT) (ad : Nat → Nat) (I : IT) (J : JT) (r : Int32) (h : f_J0_isLatin1_aae02_s2  = some r) : CALL Γ mJ0_isLatin1_aae02 (0, 0) [.ref (Γ.2.2.2.2 (1 + 2))] (DX ad) I J (QE (some (.int r)) (DX ad) I J) := by
  refine call_of' (by decide) (Nat.le_of_ble_eq_true rfl) (lv0 := [(0, .ref (Γ.2.2.2.2 (1 + 2)))]) rfl ?_
  unfold f_J0_isLatin1_aae02_s2 at h
  refine wp_compact dJ0_isLatin1_aae02_0 fsJ0_38 ?_
  refine wp_if_eq 17 dJ0_isLatin1_aae02_3 rfl (fun c3 => ?_) (fun c3 => ?_)
  · replace h := o_pos h c3
    refine wp_iconst (v := 0) dJ0_isLatin1_aae02_17 (by decide) ?_
    obtain rfl := Option.some.inj h
    exact wp_ireturn (ty := .boolean) dJ0_isLatin1_aae02_18 rfl rfl ⟨rfl, rfl, rfl, rfl⟩
  · replace h := o_neg h c3
    refine wp_aload_n dJ0_isLatin1_aae02_6 0 rfl ?_
    refine wp_scoder (i := 2) (by decide) dJ0_isLatin1_aae02_7 fsJ0_15 ?_
    refine wp_if_ne 17 dJ0_isLatin1_aae02_10 rfl (fun c10 => ?_) (fun c10 => ?_)
    · replace h := o_neg h c10
      refine wp_iconst (v := 0) dJ0_isLatin1_aae02_17 (by decide) ?_
      obtain rfl := Option.some.inj h
      exact wp_ireturn (ty := .boolean) dJ0_isLatin1_aae02_18 rfl rfl ⟨rfl, rfl, rfl, rfl⟩
    · replace h := o_pos h c10
      refine wp_iconst (v := 1) dJ0_isLatin1_aae02_13 (by decide) ?_
      refine wp_goto 18 dJ0_isLatin1_aae02_14 rfl ?_
      obtain rfl := Option.some.inj h
      exact wp_ireturn (ty := .boolean) dJ0_isLatin1_aae02_18 rfl rfl ⟨rfl, rfl, rfl, rfl⟩
def f_J1_charAt_3b067_v2 (a1 : Int32) (I : IT) : Option (Int32) :=
  (f_J0_checkIndex_df160 a1 6).bind fun r3 =>
  if inbB a1 (g_len.getD 2 0) = true then
    if 0 ≤ (((((g_byt.getD 2 []).getD a1.toNatClampNeg 0) &&& 255).toUInt32 % 65536).toInt32) ∧ (((((g_byt.getD 2 []).getD a1.toNatClampNeg 0) &&& 255).toUInt32 % 65536).toInt32) < 65536 then some (((((g_byt.getD 2 []).getD a1.toNatClampNeg 0) &&& 255).toUInt32 % 65536).toInt32) else none
  else none
set_option maxRecDepth 100000 in
set_option maxHeartbeats 4000000 in
theorem c_J1_charAt_3b067_v2 (Γ : GT) (ad : Nat → Nat) (a1 : Int32) (I : IT) (J : JT) (r : Int32) (h : f_J1_charAt_3b067_v2 a1 I = some r) : CALL Γ mJ1_charAt_3b067 (0, 0) [.ref (Γ.2.2.2.2 (11 + 2)), .int a1] (DX ad) I J (QE (some (.int r)) (DX ad) I J) := by
  refine call_of' (by decide) (Nat.le_of_ble_eq_true rfl) (lv0 := [(0, .ref (Γ.2.2.2.2 (11 + 2))), (1, .int a1)]) rfl ?_
  unfold f_J1_charAt_3b067_v2 at h
  refine wp_iload_n dJ1_charAt_3b067_0 1 rfl ?_
  refine wp_aload_n dJ1_charAt_3b067_1 0 rfl ?_
  refine wp_slen (i := 2) (v := 6) (by decide) dJ1_charAt_3b067_2 (by decide) ?_
  obtain ⟨r3, h3, h⟩ := o_bind h
  refine wp_callsV (c_J0_checkIndex_df160 Γ ad a1 6 I J r3 h3) dJ1_charAt_3b067_3 mlJ1_9 mwJ0_checkIndex_df160 miJ0_checkIndex_df160 rfl (Nat.le_of_ble_eq_true rfl) rfl (by decide) (by decide) ?_
  refine wp_aload_n dJ1_charAt_3b067_6 0 rfl ?_
  refine wp_iload_n dJ1_charAt_3b067_7 1 rfl ?_
  obtain ⟨g8, h⟩ := o_grd h
  refine wp_sbyte (i := 2) (by decide) dJ1_charAt_3b067_8 (inb_of g8) ?_
  refine wp_sipush (v := 255) dJ1_charAt_3b067_9 (by decide) ?_
  refine wp_iand dJ1_charAt_3b067_12 ?_
  refine wp_i2c dJ1_charAt_3b067_13 ?_
  obtain ⟨g14, h⟩ := o_grd h
  obtain rfl := Option.some.inj h
  exact wp_ireturn (ty := .char) dJ1_charAt_3b067_14 rfl (isc_of g14) ⟨rfl, rfl, rfl, rfl⟩
def f_J0_charAt_5068e_s2 (a1 : Int32) (I : IT) : Option (Int32) :=
  (f_J0_isLatin1_aae02_s2 ).bind fun r1 =>
  if r1 = 0 then
    none
  else
    (f_J1_charAt_3b067_v2 a1 I).bind fun r12 =>
    if 0 ≤ r12 ∧ r12 < 65536 then some r12 else none
set_option maxRecDepth 100000 in
set_option maxHeartbeats 4000000 in
theorem c_J0_charAt_5068e_s2 (Γ : GT) (ad : Nat → Nat) (a1 : Int32) (I : IT) (J : JT) (r : Int32) (h : f_J0_charAt_5068e_s2 a1 I = some r) : CALL Γ mJ0_charAt_5068e (0, 0) [.ref (Γ.2.2.2.2 (1 + 2)), .int a1] (DX ad) I J (QE (some (.int r)) (DX ad) I J) := by
  refine call_of' (by decide) (Nat.le_of_ble_eq_true rfl) (lv0 := [(0, .ref (Γ.2.2.2.2 (1 + 2))), (1, .int a1)]) rfl ?_
  unfold f_J0_charAt_5068e_s2 at h
  refine wp_aload_n dJ0_charAt_5068e_0 0 rfl ?_
  obtain ⟨r1, h1, h⟩ := o_bind h
  refine wp_callstr (i := 2) (by decide) (c_J0_isLatin1_aae02_s2 Γ ad I J r1 h1) dJ0_charAt_5068e_1 mlJ0_492 mwJ0_isLatin1_aae02 miJ0_isLatin1_aae02 rfl rfl (Nat.le_of_ble_eq_true rfl) rfl (by decide) (by decide) ?_
  refine wp_if_eq 16 dJ0_charAt_5068e_4 rfl (fun c4 => ?_) (fun c4 => ?_)
  · replace h := o_pos h c4
    refine wp_aload_n dJ0_charAt_5068e_16 0 rfl ?_
    refine wp_svalue (i := 2) (by decide) dJ0_charAt_5068e_17 fsJ0_9 ?_
    refine wp_iload_n dJ0_charAt_5068e_20 1 rfl ?_
    exact absurd h (by simp)
  · replace h := o_neg h c4
    refine wp_aload_n dJ0_charAt_5068e_7 0 rfl ?_
    refine wp_svalue (i := 2) (by decide) dJ0_charAt_5068e_8 fsJ0_9 ?_
    refine wp_iload_n dJ0_charAt_5068e_11 1 rfl ?_
    obtain ⟨r12, h12, h⟩ := o_bind h
    refine wp_callsI (c_J1_charAt_3b067_v2 Γ ad a1 I J r12 h12) dJ0_charAt_5068e_12 mlJ0_495 mwJ1_charAt_3b067 miJ1_charAt_3b067 rfl (Nat.le_of_ble_eq_true rfl) rfl (by decide) (by decide) ?_
    obtain ⟨g15, h⟩ := o_grd h
    obtain rfl := Option.some.inj h
    exact wp_ireturn (ty := .char) dJ0_charAt_5068e_15 rfl (isc_of g15) ⟨rfl, rfl, rfl, rfl⟩
def f_X4_isWord_s2_17 : Nat → Int32 → Int32 → IT → Option (Int32)
  | 0, _, _, _ => none
  | n + 1, v1, v3, I =>
    (f_J0_length_8abf5_s2 ).bind fun r19 =>
    if r19 ≤ v3 then
      some 1
    else
      (f_X6_byteAt (v1 + v3) I).bind fun r32 =>
      (f_J0_charAt_5068e_s2 v3 I).bind fun r37 =>
      if r32 = r37 then
        f_X4_isWord_s2_17 n v1 (v3 + 1) I
      else
        some 0
def f_X4_isWord_s2 (a1 : Int32) (I : IT) : Option (Int32) :=
  (f_J0_length_8abf5_s2 ).bind fun r7 =>
  if ((I 7 4) - a1) = r7 then
    f_X4_isWord_s2_17 FU a1 0 I
  else
    some 0
set_option maxRecDepth 100000 in
set_option maxHeartbeats 4000000 in
theorem w_X4_isWord_s2_17 (Γ : GT) (ad : Nat → Nat) : ∀ (n : Nat) (v1 : Int32) (v3 : Int32) (I : IT) (J : JT) (r : Int32), f_X4_isWord_s2_17 n v1 v3 I = some r → WP Γ mX4_isWord (0, 0) 17 [(0, .ref (ad 7)), (1, .int v1), (2, .ref (Γ.2.2.2.2 (1 + 2))), (3, .int v3)] [] (DX ad) I J (QE (some (.int r)) (DX ad) I J) := by
  intro n
  induction n with
  | zero => intro v1 v3 I J r h; exact absurd h (by simp [f_X4_isWord_s2_17])
  | succ n ih =>
    intro v1 v3 I J r h
    rw [f_X4_isWord_s2_17] at h
    refine wp_iload_n dX4_isWord_17 3 rfl ?_
    refine wp_aload_n dX4_isWord_18 2 rfl ?_
    obtain ⟨r19, h19, h⟩ := o_bind h
    refine wp_callstr (i := 2) (by decide) (c_J0_length_8abf5_s2 Γ ad I J r19 h19) dX4_isWord_19 mlX4_134 mwJ0_length_8abf5 miJ0_length_8abf5 rfl rfl (Nat.le_of_ble_eq_true rfl) rfl (by decide) (by decide) ?_
    refine wp_icmp_ge 51 dX4_isWord_22 rfl (fun c22 => ?_) (fun c22 => ?_)
    · replace h := o_pos h c22
      refine wp_iconst (v := 1) dX4_isWord_51 (by decide) ?_
      obtain rfl := Option.some.inj h
      exact wp_ireturn (ty := .boolean) dX4_isWord_52 rfl rfl ⟨rfl, rfl, rfl, rfl⟩
    · replace h := o_neg h c22
      refine wp_aload_n dX4_isWord_25 0 rfl ?_
      refine wp_getR (k := 7) (a' := ad 1) dX4_isWord_26 flX4_18 rfl rfl rfl rfl rfl ?_
      refine wp_iload_n dX4_isWord_29 1 rfl ?_
      refine wp_iload_n dX4_isWord_30 3 rfl ?_
      refine wp_iadd dX4_isWord_31 ?_
      obtain ⟨r32, h32, h⟩ := o_bind h
      refine wp_callvI (k := 1) (ci := 6) (c_X6_byteAt Γ ad (v1 + v3) I J r32 h32) dX4_isWord_32 mlX4_122 mwX6_byteAt miX6_byteAt rfl rfl rfl rfl (Nat.le_of_ble_eq_true rfl) rfl (by decide) (by decide) ?_
      refine wp_aload_n dX4_isWord_35 2 rfl ?_
      refine wp_iload_n dX4_isWord_36 3 rfl ?_
      obtain ⟨r37, h37, h⟩ := o_bind h
      refine wp_callstr (i := 2) (by decide) (c_J0_charAt_5068e_s2 Γ ad v3 I J r37 h37) dX4_isWord_37 mlX4_139 mwJ0_charAt_5068e miJ0_charAt_5068e rfl rfl (Nat.le_of_ble_eq_true rfl) rfl (by decide) (by decide) ?_
      refine wp_icmp_eq 45 dX4_isWord_40 rfl (fun c40 => ?_) (fun c40 => ?_)
      · replace h := o_pos h c40
        refine wp_iinc (v := v3 + 1) (lv' := [(0, _), (1, _), (2, _), (3, _)]) dX4_isWord_45 3 rfl rfl rfl rfl rfl ?_
        refine wp_goto 17 dX4_isWord_48 rfl ?_
        refine wp_pick [0, 1, 2, 3] (lv' := [(0, _), (1, _), (2, _), (3, _)]) rfl ?_
        exact ih v1 (v3 + 1) I J r h
      · replace h := o_neg h c40
        refine wp_iconst (v := 0) dX4_isWord_43 (by decide) ?_
        obtain rfl := Option.some.inj h
        exact wp_ireturn (ty := .boolean) dX4_isWord_44 rfl rfl ⟨rfl, rfl, rfl, rfl⟩
set_option maxRecDepth 100000 in
set_option maxHeartbeats 4000000 in
theorem c_X4_isWord_s2 (Γ : GT) (ad : Nat → Nat) (a1 : Int32) (I : IT) (J : JT) (r : Int32) (h : f_X4_isWord_s2 a1 I = some r) : CALL Γ mX4_isWord (0, 0) [.ref (ad 7), .int a1, .ref (Γ.2.2.2.2 (1 + 2))] (DX ad) I J (QE (some (.int r)) (DX ad) I J) := by
  refine call_of' (by decide) (Nat.le_of_ble_eq_true rfl) (lv0 := [(0, .ref (ad 7)), (1, .int a1), (2, .ref (Γ.2.2.2.2 (1 + 2)))]) rfl ?_
  unfold f_X4_isWord_s2 at h
  refine wp_aload_n dX4_isWord_0 0 rfl ?_
  refine wp_getI (k := 7) dX4_isWord_1 flX4_32 rfl rfl rfl rfl ?_
  refine wp_iload_n dX4_isWord_4 1 rfl ?_
  refine wp_isub dX4_isWord_5 ?_
  refine wp_aload_n dX4_isWord_6 2 rfl ?_
  obtain ⟨r7, h7, h⟩ := o_bind h
  refine wp_callstr (i := 2) (by decide) (c_J0_length_8abf5_s2 Γ ad I J r7 h7) dX4_isWord_7 mlX4_134 mwJ0_length_8abf5 miJ0_length_8abf5 rfl rfl (Nat.le_of_ble_eq_true rfl) rfl (by decide) (by decide) ?_
  refine wp_icmp_eq 15 dX4_isWord_10 rfl (fun c10 => ?_) (fun c10 => ?_)
  · replace h := o_pos h c10
    refine wp_iconst (v := 0) dX4_isWord_15 (by decide) ?_
    refine wp_istore_n (lv' := [(0, _), (1, _), (2, _), (3, _)]) dX4_isWord_16 rfl rfl rfl rfl ?_
    refine wp_pick [0, 1, 2, 3] (lv' := [(0, _), (1, _), (2, _), (3, _)]) rfl ?_
    exact w_X4_isWord_s2_17 Γ ad FU a1 0 I J r h
  · replace h := o_neg h c10
    refine wp_iconst (v := 0) dX4_isWord_13 (by decide) ?_
    obtain rfl := Option.some.inj h
    exact wp_ireturn (ty := .boolean) dX4_isWord_14 rfl rfl ⟨rfl, rfl, rfl, rfl⟩
def f_J0_coder_7d493_s3 : Option (Int32) :=
  if (1 : Int32) = 0 then
    some 1
  else
    some 0
set_option maxRecDepth 100000 in
set_option maxHeartbeats 4000000 in
theorem c_J0_coder_7d493_s3 (Γ : GT) (ad : Nat → Nat) (I : IT) (J : JT) (r : Int32) (h : f_J0_coder_7d493_s3  = some r) : CALL Γ mJ0_coder_7d493 (0, 0) [.ref (Γ.2.2.2.2 (1 + 3))] (DX ad) I J (QE (some (.int r)) (DX ad) I J) := by
  refine call_of' (by decide) (Nat.le_of_ble_eq_true rfl) (lv0 := [(0, .ref (Γ.2.2.2.2 (1 + 3)))]) rfl ?_
  unfold f_J0_coder_7d493_s3 at h
  refine wp_compact dJ0_coder_7d493_0 fsJ0_38 ?_
  refine wp_if_eq 13 dJ0_coder_7d493_3 rfl (fun c3 => ?_) (fun c3 => ?_)
  · replace h := o_pos h c3
    refine wp_iconst (v := 1) dJ0_coder_7d493_13 (by decide) ?_
    obtain rfl := Option.some.inj h
    exact wp_ireturn (ty := .byte) dJ0_coder_7d493_14 rfl rfl ⟨rfl, rfl, rfl, rfl⟩
  · replace h := o_neg h c3
    refine wp_aload_n dJ0_coder_7d493_6 0 rfl ?_
    refine wp_scoder (i := 3) (by decide) dJ0_coder_7d493_7 fsJ0_15 ?_
    refine wp_goto 14 dJ0_coder_7d493_10 rfl ?_
    obtain rfl := Option.some.inj h
    exact wp_ireturn (ty := .byte) dJ0_coder_7d493_14 rfl rfl ⟨rfl, rfl, rfl, rfl⟩
def f_J0_length_8abf5_s3 : Option (Int32) :=
  (f_J0_coder_7d493_s3 ).bind fun r6 =>
  some ((5 : Int32) >>> (r6 &&& 31))
set_option maxRecDepth 100000 in
set_option maxHeartbeats 4000000 in
theorem c_J0_length_8abf5_s3 (Γ : GT) (ad : Nat → Nat) (I : IT) (J : JT) (r : Int32) (h : f_J0_length_8abf5_s3  = some r) : CALL Γ mJ0_length_8abf5 (0, 0) [.ref (Γ.2.2.2.2 (1 + 3))] (DX ad) I J (QE (some (.int r)) (DX ad) I J) := by
  refine call_of' (by decide) (Nat.le_of_ble_eq_true rfl) (lv0 := [(0, .ref (Γ.2.2.2.2 (1 + 3)))]) rfl ?_
  unfold f_J0_length_8abf5_s3 at h
  refine wp_aload_n dJ0_length_8abf5_0 0 rfl ?_
  refine wp_svalue (i := 3) (by decide) dJ0_length_8abf5_1 fsJ0_9 ?_
  refine wp_slen (i := 3) (v := 5) (by decide) dJ0_length_8abf5_4 (by decide) ?_
  refine wp_aload_n dJ0_length_8abf5_5 0 rfl ?_
  obtain ⟨r6, h6, h⟩ := o_bind h
  refine wp_callstr (i := 3) (by decide) (c_J0_coder_7d493_s3 Γ ad I J r6 h6) dJ0_length_8abf5_6 mlJ0_335 mwJ0_coder_7d493 miJ0_coder_7d493 rfl rfl (Nat.le_of_ble_eq_true rfl) rfl (by decide) (by decide) ?_
  refine wp_ishr dJ0_length_8abf5_9 ?_
  obtain rfl := Option.some.inj h
  exact wp_ireturn (ty := .int) dJ0_length_8abf5_10 rfl rfl ⟨rfl, rfl, rfl, rfl⟩
def f_J0_isLatin1_aae02_s3 : Option (Int32) :=
  if (1 : Int32) = 0 then
    some 0
  else
    if (0 : Int32) = 0 then
      some 1
    else
      some 0
set_option maxRecDepth 100000 in
set_option maxHeartbeats 4000000 in
theorem c_J0_isLatin1_aae02_s3 (Γ : GT) (ad : Nat → Nat) (I : IT) (J : JT) (r : Int32) (h : f_J0_isLatin1_aae02_s3  = some r) : CALL Γ mJ0_isLatin1_aae02 (0, 0) [.ref (Γ.2.2.2.2 (1 + 3))] (DX ad) I J (QE (some (.int r)) (DX ad) I J) := by
  refine call_of' (by decide) (Nat.le_of_ble_eq_true rfl) (lv0 := [(0, .ref (Γ.2.2.2.2 (1 + 3)))]) rfl ?_
  unfold f_J0_isLatin1_aae02_s3 at h
  refine wp_compact dJ0_isLatin1_aae02_0 fsJ0_38 ?_
  refine wp_if_eq 17 dJ0_isLatin1_aae02_3 rfl (fun c3 => ?_) (fun c3 => ?_)
  · replace h := o_pos h c3
    refine wp_iconst (v := 0) dJ0_isLatin1_aae02_17 (by decide) ?_
    obtain rfl := Option.some.inj h
    exact wp_ireturn (ty := .boolean) dJ0_isLatin1_aae02_18 rfl rfl ⟨rfl, rfl, rfl, rfl⟩
  · replace h := o_neg h c3
    refine wp_aload_n dJ0_isLatin1_aae02_6 0 rfl ?_
    refine wp_scoder (i := 3) (by decide) dJ0_isLatin1_aae02_7 fsJ0_15 ?_
    refine wp_if_ne 17 dJ0_isLatin1_aae02_10 rfl (fun c10 => ?_) (fun c10 => ?_)
    · replace h := o_neg h c10
      refine wp_iconst (v := 0) dJ0_isLatin1_aae02_17 (by decide) ?_
      obtain rfl := Option.some.inj h
      exact wp_ireturn (ty := .boolean) dJ0_isLatin1_aae02_18 rfl rfl ⟨rfl, rfl, rfl, rfl⟩
    · replace h := o_pos h c10
      refine wp_iconst (v := 1) dJ0_isLatin1_aae02_13 (by decide) ?_
      refine wp_goto 18 dJ0_isLatin1_aae02_14 rfl ?_
      obtain rfl := Option.some.inj h
      exact wp_ireturn (ty := .boolean) dJ0_isLatin1_aae02_18 rfl rfl ⟨rfl, rfl, rfl, rfl⟩
def f_J1_charAt_3b067_v3 (a1 : Int32) (I : IT) : Option (Int32) :=
  (f_J0_checkIndex_df160 a1 5).bind fun r3 =>
  if inbB a1 (g_len.getD 3 0) = true then
    if 0 ≤ (((((g_byt.getD 3 []).getD a1.toNatClampNeg 0) &&& 255).toUInt32 % 65536).toInt32) ∧ (((((g_byt.getD 3 []).getD a1.toNatClampNeg 0) &&& 255).toUInt32 % 65536).toInt32) < 65536 then some (((((g_byt.getD 3 []).getD a1.toNatClampNeg 0) &&& 255).toUInt32 % 65536).toInt32) else none
  else none
set_option maxRecDepth 100000 in
set_option maxHeartbeats 4000000 in
theorem c_J1_charAt_3b067_v3 (Γ : GT) (ad : Nat → Nat) (a1 : Int32) (I : IT) (J : JT) (r : Int32) (h : f_J1_charAt_3b067_v3 a1 I = some r) : CALL Γ mJ1_charAt_3b067 (0, 0) [.ref (Γ.2.2.2.2 (11 + 3)), .int a1] (DX ad) I J (QE (some (.int r)) (DX ad) I J) := by
  refine call_of' (by decide) (Nat.le_of_ble_eq_true rfl) (lv0 := [(0, .ref (Γ.2.2.2.2 (11 + 3))), (1, .int a1)]) rfl ?_
  unfold f_J1_charAt_3b067_v3 at h
  refine wp_iload_n dJ1_charAt_3b067_0 1 rfl ?_
  refine wp_aload_n dJ1_charAt_3b067_1 0 rfl ?_
  refine wp_slen (i := 3) (v := 5) (by decide) dJ1_charAt_3b067_2 (by decide) ?_
  obtain ⟨r3, h3, h⟩ := o_bind h
  refine wp_callsV (c_J0_checkIndex_df160 Γ ad a1 5 I J r3 h3) dJ1_charAt_3b067_3 mlJ1_9 mwJ0_checkIndex_df160 miJ0_checkIndex_df160 rfl (Nat.le_of_ble_eq_true rfl) rfl (by decide) (by decide) ?_
  refine wp_aload_n dJ1_charAt_3b067_6 0 rfl ?_
  refine wp_iload_n dJ1_charAt_3b067_7 1 rfl ?_
  obtain ⟨g8, h⟩ := o_grd h
  refine wp_sbyte (i := 3) (by decide) dJ1_charAt_3b067_8 (inb_of g8) ?_
  refine wp_sipush (v := 255) dJ1_charAt_3b067_9 (by decide) ?_
  refine wp_iand dJ1_charAt_3b067_12 ?_
  refine wp_i2c dJ1_charAt_3b067_13 ?_
  obtain ⟨g14, h⟩ := o_grd h
  obtain rfl := Option.some.inj h
  exact wp_ireturn (ty := .char) dJ1_charAt_3b067_14 rfl (isc_of g14) ⟨rfl, rfl, rfl, rfl⟩
def f_J0_charAt_5068e_s3 (a1 : Int32) (I : IT) : Option (Int32) :=
  (f_J0_isLatin1_aae02_s3 ).bind fun r1 =>
  if r1 = 0 then
    none
  else
    (f_J1_charAt_3b067_v3 a1 I).bind fun r12 =>
    if 0 ≤ r12 ∧ r12 < 65536 then some r12 else none
set_option maxRecDepth 100000 in
set_option maxHeartbeats 4000000 in
theorem c_J0_charAt_5068e_s3 (Γ : GT) (ad : Nat → Nat) (a1 : Int32) (I : IT) (J : JT) (r : Int32) (h : f_J0_charAt_5068e_s3 a1 I = some r) : CALL Γ mJ0_charAt_5068e (0, 0) [.ref (Γ.2.2.2.2 (1 + 3)), .int a1] (DX ad) I J (QE (some (.int r)) (DX ad) I J) := by
  refine call_of' (by decide) (Nat.le_of_ble_eq_true rfl) (lv0 := [(0, .ref (Γ.2.2.2.2 (1 + 3))), (1, .int a1)]) rfl ?_
  unfold f_J0_charAt_5068e_s3 at h
  refine wp_aload_n dJ0_charAt_5068e_0 0 rfl ?_
  obtain ⟨r1, h1, h⟩ := o_bind h
  refine wp_callstr (i := 3) (by decide) (c_J0_isLatin1_aae02_s3 Γ ad I J r1 h1) dJ0_charAt_5068e_1 mlJ0_492 mwJ0_isLatin1_aae02 miJ0_isLatin1_aae02 rfl rfl (Nat.le_of_ble_eq_true rfl) rfl (by decide) (by decide) ?_
  refine wp_if_eq 16 dJ0_charAt_5068e_4 rfl (fun c4 => ?_) (fun c4 => ?_)
  · replace h := o_pos h c4
    refine wp_aload_n dJ0_charAt_5068e_16 0 rfl ?_
    refine wp_svalue (i := 3) (by decide) dJ0_charAt_5068e_17 fsJ0_9 ?_
    refine wp_iload_n dJ0_charAt_5068e_20 1 rfl ?_
    exact absurd h (by simp)
  · replace h := o_neg h c4
    refine wp_aload_n dJ0_charAt_5068e_7 0 rfl ?_
    refine wp_svalue (i := 3) (by decide) dJ0_charAt_5068e_8 fsJ0_9 ?_
    refine wp_iload_n dJ0_charAt_5068e_11 1 rfl ?_
    obtain ⟨r12, h12, h⟩ := o_bind h
    refine wp_callsI (c_J1_charAt_3b067_v3 Γ ad a1 I J r12 h12) dJ0_charAt_5068e_12 mlJ0_495 mwJ1_charAt_3b067 miJ1_charAt_3b067 rfl (Nat.le_of_ble_eq_true rfl) rfl (by decide) (by decide) ?_
    obtain ⟨g15, h⟩ := o_grd h
    obtain rfl := Option.some.inj h
    exact wp_ireturn (ty := .char) dJ0_charAt_5068e_15 rfl (isc_of g15) ⟨rfl, rfl, rfl, rfl⟩
def f_X4_isWord_s3_17 : Nat → Int32 → Int32 → IT → Option (Int32)
  | 0, _, _, _ => none
  | n + 1, v1, v3, I =>
    (f_J0_length_8abf5_s3 ).bind fun r19 =>
    if r19 ≤ v3 then
      some 1
    else
      (f_X6_byteAt (v1 + v3) I).bind fun r32 =>
      (f_J0_charAt_5068e_s3 v3 I).bind fun r37 =>
      if r32 = r37 then
        f_X4_isWord_s3_17 n v1 (v3 + 1) I
      else
        some 0
def f_X4_isWord_s3 (a1 : Int32) (I : IT) : Option (Int32) :=
  (f_J0_length_8abf5_s3 ).bind fun r7 =>
  if ((I 7 4) - a1) = r7 then
    f_X4_isWord_s3_17 FU a1 0 I
  else
    some 0
set_option maxRecDepth 100000 in
set_option maxHeartbeats 4000000 in
theorem w_X4_isWord_s3_17 (Γ : GT) (ad : Nat → Nat) : ∀ (n : Nat) (v1 : Int32) (v3 : Int32) (I : IT) (J : JT) (r : Int32), f_X4_isWord_s3_17 n v1 v3 I = some r → WP Γ mX4_isWord (0, 0) 17 [(0, .ref (ad 7)), (1, .int v1), (2, .ref (Γ.2.2.2.2 (1 + 3))), (3, .int v3)] [] (DX ad) I J (QE (some (.int r)) (DX ad) I J) := by
  intro n
  induction n with
  | zero => intro v1 v3 I J r h; exact absurd h (by simp [f_X4_isWord_s3_17])
  | succ n ih =>
    intro v1 v3 I J r h
    rw [f_X4_isWord_s3_17] at h
    refine wp_iload_n dX4_isWord_17 3 rfl ?_
    refine wp_aload_n dX4_isWord_18 2 rfl ?_
    obtain ⟨r19, h19, h⟩ := o_bind h
    refine wp_callstr (i := 3) (by decide) (c_J0_length_8abf5_s3 Γ ad I J r19 h19) dX4_isWord_19 mlX4_134 mwJ0_length_8abf5 miJ0_length_8abf5 rfl rfl (Nat.le_of_ble_eq_true rfl) rfl (by decide) (by decide) ?_
    refine wp_icmp_ge 51 dX4_isWord_22 rfl (fun c22 => ?_) (fun c22 => ?_)
    · replace h := o_pos h c22
      refine wp_iconst (v := 1) dX4_isWord_51 (by decide) ?_
      obtain rfl := Option.some.inj h
      exact wp_ireturn (ty := .boolean) dX4_isWord_52 rfl rfl ⟨rfl, rfl, rfl, rfl⟩
    · replace h := o_neg h c22
      refine wp_aload_n dX4_isWord_25 0 rfl ?_
      refine wp_getR (k := 7) (a' := ad 1) dX4_isWord_26 flX4_18 rfl rfl rfl rfl rfl ?_
      refine wp_iload_n dX4_isWord_29 1 rfl ?_
      refine wp_iload_n dX4_isWord_30 3 rfl ?_
      refine wp_iadd dX4_isWord_31 ?_
      obtain ⟨r32, h32, h⟩ := o_bind h
      refine wp_callvI (k := 1) (ci := 6) (c_X6_byteAt Γ ad (v1 + v3) I J r32 h32) dX4_isWord_32 mlX4_122 mwX6_byteAt miX6_byteAt rfl rfl rfl rfl (Nat.le_of_ble_eq_true rfl) rfl (by decide) (by decide) ?_
      refine wp_aload_n dX4_isWord_35 2 rfl ?_
      refine wp_iload_n dX4_isWord_36 3 rfl ?_
      obtain ⟨r37, h37, h⟩ := o_bind h
      refine wp_callstr (i := 3) (by decide) (c_J0_charAt_5068e_s3 Γ ad v3 I J r37 h37) dX4_isWord_37 mlX4_139 mwJ0_charAt_5068e miJ0_charAt_5068e rfl rfl (Nat.le_of_ble_eq_true rfl) rfl (by decide) (by decide) ?_
      refine wp_icmp_eq 45 dX4_isWord_40 rfl (fun c40 => ?_) (fun c40 => ?_)
      · replace h := o_pos h c40
        refine wp_iinc (v := v3 + 1) (lv' := [(0, _), (1, _), (2, _), (3, _)]) dX4_isWord_45 3 rfl rfl rfl rfl rfl ?_
        refine wp_goto 17 dX4_isWord_48 rfl ?_
        refine wp_pick [0, 1, 2, 3] (lv' := [(0, _), (1, _), (2, _), (3, _)]) rfl ?_
        exact ih v1 (v3 + 1) I J r h
      · replace h := o_neg h c40
        refine wp_iconst (v := 0) dX4_isWord_43 (by decide) ?_
        obtain rfl := Option.some.inj h
        exact wp_ireturn (ty := .boolean) dX4_isWord_44 rfl rfl ⟨rfl, rfl, rfl, rfl⟩
set_option maxRecDepth 100000 in
set_option maxHeartbeats 4000000 in
theorem c_X4_isWord_s3 (Γ : GT) (ad : Nat → Nat) (a1 : Int32) (I : IT) (J : JT) (r : Int32) (h : f_X4_isWord_s3 a1 I = some r) : CALL Γ mX4_isWord (0, 0) [.ref (ad 7), .int a1, .ref (Γ.2.2.2.2 (1 + 3))] (DX ad) I J (QE (some (.int r)) (DX ad) I J) := by
  refine call_of' (by decide) (Nat.le_of_ble_eq_true rfl) (lv0 := [(0, .ref (ad 7)), (1, .int a1), (2, .ref (Γ.2.2.2.2 (1 + 3)))]) rfl ?_
  unfold f_X4_isWord_s3 at h
  refine wp_aload_n dX4_isWord_0 0 rfl ?_
  refine wp_getI (k := 7) dX4_isWord_1 flX4_32 rfl rfl rfl rfl ?_
  refine wp_iload_n dX4_isWord_4 1 rfl ?_
  refine wp_isub dX4_isWord_5 ?_
  refine wp_aload_n dX4_isWord_6 2 rfl ?_
  obtain ⟨r7, h7, h⟩ := o_bind h
  refine wp_callstr (i := 3) (by decide) (c_J0_length_8abf5_s3 Γ ad I J r7 h7) dX4_isWord_7 mlX4_134 mwJ0_length_8abf5 miJ0_length_8abf5 rfl rfl (Nat.le_of_ble_eq_true rfl) rfl (by decide) (by decide) ?_
  refine wp_icmp_eq 15 dX4_isWord_10 rfl (fun c10 => ?_) (fun c10 => ?_)
  · replace h := o_pos h c10
    refine wp_iconst (v := 0) dX4_isWord_15 (by decide) ?_
    refine wp_istore_n (lv' := [(0, _), (1, _), (2, _), (3, _)]) dX4_isWord_16 rfl rfl rfl rfl ?_
    refine wp_pick [0, 1, 2, 3] (lv' := [(0, _), (1, _), (2, _), (3, _)]) rfl ?_
    exact w_X4_isWord_s3_17 Γ ad FU a1 0 I J r h
  · replace h := o_neg h c10
    refine wp_iconst (v := 0) dX4_isWord_13 (by decide) ?_
    obtain rfl := Option.some.inj h
    exact wp_ireturn (ty := .boolean) dX4_isWord_14 rfl rfl ⟨rfl, rfl, rfl, rfl⟩
def f_J0_coder_7d493_s4 : Option (Int32) :=
  if (1 : Int32) = 0 then
    some 1
  else
    some 0
set_option maxRecDepth 100000 in
set_option maxHeartbeats 4000000 in
theorem c_J0_coder_7d493_s4 (Γ : GT) (ad : Nat → Nat) (I : IT) (J : JT) (r : Int32) (h : f_J0_coder_7d493_s4  = some r) : CALL Γ mJ0_coder_7d493 (0, 0) [.ref (Γ.2.2.2.2 (1 + 4))] (DX ad) I J (QE (some (.int r)) (DX ad) I J) := by
  refine call_of' (by decide) (Nat.le_of_ble_eq_true rfl) (lv0 := [(0, .ref (Γ.2.2.2.2 (1 + 4)))]) rfl ?_
  unfold f_J0_coder_7d493_s4 at h
  refine wp_compact dJ0_coder_7d493_0 fsJ0_38 ?_
  refine wp_if_eq 13 dJ0_coder_7d493_3 rfl (fun c3 => ?_) (fun c3 => ?_)
  · replace h := o_pos h c3
    refine wp_iconst (v := 1) dJ0_coder_7d493_13 (by decide) ?_
    obtain rfl := Option.some.inj h
    exact wp_ireturn (ty := .byte) dJ0_coder_7d493_14 rfl rfl ⟨rfl, rfl, rfl, rfl⟩
  · replace h := o_neg h c3
    refine wp_aload_n dJ0_coder_7d493_6 0 rfl ?_
    refine wp_scoder (i := 4) (by decide) dJ0_coder_7d493_7 fsJ0_15 ?_
    refine wp_goto 14 dJ0_coder_7d493_10 rfl ?_
    obtain rfl := Option.some.inj h
    exact wp_ireturn (ty := .byte) dJ0_coder_7d493_14 rfl rfl ⟨rfl, rfl, rfl, rfl⟩
def f_J0_length_8abf5_s4 : Option (Int32) :=
  (f_J0_coder_7d493_s4 ).bind fun r6 =>
  some ((4 : Int32) >>> (r6 &&& 31))
set_option maxRecDepth 100000 in
set_option maxHeartbeats 4000000 in
theorem c_J0_length_8abf5_s4 (Γ : GT) (ad : Nat → Nat) (I : IT) (J : JT) (r : Int32) (h : f_J0_length_8abf5_s4  = some r) : CALL Γ mJ0_length_8abf5 (0, 0) [.ref (Γ.2.2.2.2 (1 + 4))] (DX ad) I J (QE (some (.int r)) (DX ad) I J) := by
  refine call_of' (by decide) (Nat.le_of_ble_eq_true rfl) (lv0 := [(0, .ref (Γ.2.2.2.2 (1 + 4)))]) rfl ?_
  unfold f_J0_length_8abf5_s4 at h
  refine wp_aload_n dJ0_length_8abf5_0 0 rfl ?_
  refine wp_svalue (i := 4) (by decide) dJ0_length_8abf5_1 fsJ0_9 ?_
  refine wp_slen (i := 4) (v := 4) (by decide) dJ0_length_8abf5_4 (by decide) ?_
  refine wp_aload_n dJ0_length_8abf5_5 0 rfl ?_
  obtain ⟨r6, h6, h⟩ := o_bind h
  refine wp_callstr (i := 4) (by decide) (c_J0_coder_7d493_s4 Γ ad I J r6 h6) dJ0_length_8abf5_6 mlJ0_335 mwJ0_coder_7d493 miJ0_coder_7d493 rfl rfl (Nat.le_of_ble_eq_true rfl) rfl (by decide) (by decide) ?_
  refine wp_ishr dJ0_length_8abf5_9 ?_
  obtain rfl := Option.some.inj h
  exact wp_ireturn (ty := .int) dJ0_length_8abf5_10 rfl rfl ⟨rfl, rfl, rfl, rfl⟩
def f_J0_isLatin1_aae02_s4 : Option (Int32) :=
  if (1 : Int32) = 0 then
    some 0
  else
    if (0 : Int32) = 0 then
      some 1
    else
      some 0
set_option maxRecDepth 100000 in
set_option maxHeartbeats 4000000 in
theorem c_J0_isLatin1_aae02_s4 (Γ : GT) (ad : Nat → Nat) (I : IT) (J : JT) (r : Int32) (h : f_J0_isLatin1_aae02_s4  = some r) : CALL Γ mJ0_isLatin1_aae02 (0, 0) [.ref (Γ.2.2.2.2 (1 + 4))] (DX ad) I J (QE (some (.int r)) (DX ad) I J) := by
  refine call_of' (by decide) (Nat.le_of_ble_eq_true rfl) (lv0 := [(0, .ref (Γ.2.2.2.2 (1 + 4)))]) rfl ?_
  unfold f_J0_isLatin1_aae02_s4 at h
  refine wp_compact dJ0_isLatin1_aae02_0 fsJ0_38 ?_
  refine wp_if_eq 17 dJ0_isLatin1_aae02_3 rfl (fun c3 => ?_) (fun c3 => ?_)
  · replace h := o_pos h c3
    refine wp_iconst (v := 0) dJ0_isLatin1_aae02_17 (by decide) ?_
    obtain rfl := Option.some.inj h
    exact wp_ireturn (ty := .boolean) dJ0_isLatin1_aae02_18 rfl rfl ⟨rfl, rfl, rfl, rfl⟩
  · replace h := o_neg h c3
    refine wp_aload_n dJ0_isLatin1_aae02_6 0 rfl ?_
    refine wp_scoder (i := 4) (by decide) dJ0_isLatin1_aae02_7 fsJ0_15 ?_
    refine wp_if_ne 17 dJ0_isLatin1_aae02_10 rfl (fun c10 => ?_) (fun c10 => ?_)
    · replace h := o_neg h c10
      refine wp_iconst (v := 0) dJ0_isLatin1_aae02_17 (by decide) ?_
      obtain rfl := Option.some.inj h
      exact wp_ireturn (ty := .boolean) dJ0_isLatin1_aae02_18 rfl rfl ⟨rfl, rfl, rfl, rfl⟩
    · replace h := o_pos h c10
      refine wp_iconst (v := 1) dJ0_isLatin1_aae02_13 (by decide) ?_
      refine wp_goto 18 dJ0_isLatin1_aae02_14 rfl ?_
      obtain rfl := Option.some.inj h
      exact wp_ireturn (ty := .boolean) dJ0_isLatin1_aae02_18 rfl rfl ⟨rfl, rfl, rfl, rfl⟩
def f_J1_charAt_3b067_v4 (a1 : Int32) (I : IT) : Option (Int32) :=
  (f_J0_checkIndex_df160 a1 4).bind fun r3 =>
  if inbB a1 (g_len.getD 4 0) = true then
    if 0 ≤ (((((g_byt.getD 4 []).getD a1.toNatClampNeg 0) &&& 255).toUInt32 % 65536).toInt32) ∧ (((((g_byt.getD 4 []).getD a1.toNatClampNeg 0) &&& 255).toUInt32 % 65536).toInt32) < 65536 then some (((((g_byt.getD 4 []).getD a1.toNatClampNeg 0) &&& 255).toUInt32 % 65536).toInt32) else none
  else none
set_option maxRecDepth 100000 in
set_option maxHeartbeats 4000000 in
theorem c_J1_charAt_3b067_v4 (Γ : GT) (ad : Nat → Nat) (a1 : Int32) (I : IT) (J : JT) (r : Int32) (h : f_J1_charAt_3b067_v4 a1 I = some r) : CALL Γ mJ1_charAt_3b067 (0, 0) [.ref (Γ.2.2.2.2 (11 + 4)), .int a1] (DX ad) I J (QE (some (.int r)) (DX ad) I J) := by
  refine call_of' (by decide) (Nat.le_of_ble_eq_true rfl) (lv0 := [(0, .ref (Γ.2.2.2.2 (11 + 4))), (1, .int a1)]) rfl ?_
  unfold f_J1_charAt_3b067_v4 at h
  refine wp_iload_n dJ1_charAt_3b067_0 1 rfl ?_
  refine wp_aload_n dJ1_charAt_3b067_1 0 rfl ?_
  refine wp_slen (i := 4) (v := 4) (by decide) dJ1_charAt_3b067_2 (by decide) ?_
  obtain ⟨r3, h3, h⟩ := o_bind h
  refine wp_callsV (c_J0_checkIndex_df160 Γ ad a1 4 I J r3 h3) dJ1_charAt_3b067_3 mlJ1_9 mwJ0_checkIndex_df160 miJ0_checkIndex_df160 rfl (Nat.le_of_ble_eq_true rfl) rfl (by decide) (by decide) ?_
  refine wp_aload_n dJ1_charAt_3b067_6 0 rfl ?_
  refine wp_iload_n dJ1_charAt_3b067_7 1 rfl ?_
  obtain ⟨g8, h⟩ := o_grd h
  refine wp_sbyte (i := 4) (by decide) dJ1_charAt_3b067_8 (inb_of g8) ?_
  refine wp_sipush (v := 255) dJ1_charAt_3b067_9 (by decide) ?_
  refine wp_iand dJ1_charAt_3b067_12 ?_
  refine wp_i2c dJ1_charAt_3b067_13 ?_
  obtain ⟨g14, h⟩ := o_grd h
  obtain rfl := Option.some.inj h
  exact wp_ireturn (ty := .char) dJ1_charAt_3b067_14 rfl (isc_of g14) ⟨rfl, rfl, rfl, rfl⟩
def f_J0_charAt_5068e_s4 (a1 : Int32) (I : IT) : Option (Int32) :=
  (f_J0_isLatin1_aae02_s4 ).bind fun r1 =>
  if r1 = 0 then
    none
  else
    (f_J1_charAt_3b067_v4 a1 I).bind fun r12 =>
    if 0 ≤ r12 ∧ r12 < 65536 then some r12 else none
set_option maxRecDepth 100000 in
set_option maxHeartbeats 4000000 in
theorem c_J0_charAt_5068e_s4 (Γ : GT) (ad : Nat → Nat) (a1 : Int32) (I : IT) (J : JT) (r : Int32) (h : f_J0_charAt_5068e_s4 a1 I = some r) : CALL Γ mJ0_charAt_5068e (0, 0) [.ref (Γ.2.2.2.2 (1 + 4)), .int a1] (DX ad) I J (QE (some (.int r)) (DX ad) I J) := by
  refine call_of' (by decide) (Nat.le_of_ble_eq_true rfl) (lv0 := [(0, .ref (Γ.2.2.2.2 (1 + 4))), (1, .int a1)]) rfl ?_
  unfold f_J0_charAt_5068e_s4 at h
  refine wp_aload_n dJ0_charAt_5068e_0 0 rfl ?_
  obtain ⟨r1, h1, h⟩ := o_bind h
  refine wp_callstr (i := 4) (by decide) (c_J0_isLatin1_aae02_s4 Γ ad I J r1 h1) dJ0_charAt_5068e_1 mlJ0_492 mwJ0_isLatin1_aae02 miJ0_isLatin1_aae02 rfl rfl (Nat.le_of_ble_eq_true rfl) rfl (by decide) (by decide) ?_
  refine wp_if_eq 16 dJ0_charAt_5068e_4 rfl (fun c4 => ?_) (fun c4 => ?_)
  · replace h := o_pos h c4
    refine wp_aload_n dJ0_charAt_5068e_16 0 rfl ?_
    refine wp_svalue (i := 4) (by decide) dJ0_charAt_5068e_17 fsJ0_9 ?_
    refine wp_iload_n dJ0_charAt_5068e_20 1 rfl ?_
    exact absurd h (by simp)
  · replace h := o_neg h c4
    refine wp_aload_n dJ0_charAt_5068e_7 0 rfl ?_
    refine wp_svalue (i := 4) (by decide) dJ0_charAt_5068e_8 fsJ0_9 ?_
    refine wp_iload_n dJ0_charAt_5068e_11 1 rfl ?_
    obtain ⟨r12, h12, h⟩ := o_bind h
    refine wp_callsI (c_J1_charAt_3b067_v4 Γ ad a1 I J r12 h12) dJ0_charAt_5068e_12 mlJ0_495 mwJ1_charAt_3b067 miJ1_charAt_3b067 rfl (Nat.le_of_ble_eq_true rfl) rfl (by decide) (by decide) ?_
    obtain ⟨g15, h⟩ := o_grd h
    obtain rfl := Option.some.inj h
    exact wp_ireturn (ty := .char) dJ0_charAt_5068e_15 rfl (isc_of g15) ⟨rfl, rfl, rfl, rfl⟩
def f_X4_isWord_s4_17 : Nat → Int32 → Int32 → IT → Option (Int32)
  | 0, _, _, _ => none
  | n + 1, v1, v3, I =>
    (f_J0_length_8abf5_s4 ).bind fun r19 =>
    if r19 ≤ v3 then
      some 1
    else
      (f_X6_byteAt (v1 + v3) I).bind fun r32 =>
      (f_J0_charAt_5068e_s4 v3 I).bind fun r37 =>
      if r32 = r37 then
        f_X4_isWord_s4_17 n v1 (v3 + 1) I
      else
        some 0
def f_X4_isWord_s4 (a1 : Int32) (I : IT) : Option (Int32) :=
  (f_J0_length_8abf5_s4 ).bind fun r7 =>
  if ((I 7 4) - a1) = r7 then
    f_X4_isWord_s4_17 FU a1 0 I
  else
    some 0
set_option maxRecDepth 100000 in
set_option maxHeartbeats 4000000 in
theorem w_X4_isWord_s4_17 (Γ : GT) (ad : Nat → Nat) : ∀ (n : Nat) (v1 : Int32) (v3 : Int32) (I : IT) (J : JT) (r : Int32), f_X4_isWord_s4_17 n v1 v3 I = some r → WP Γ mX4_isWord (0, 0) 17 [(0, .ref (ad 7)), (1, .int v1), (2, .ref (Γ.2.2.2.2 (1 + 4))), (3, .int v3)] [] (DX ad) I J (QE (some (.int r)) (DX ad) I J) := by
  intro n
  induction n with
  | zero => intro v1 v3 I J r h; exact absurd h (by simp [f_X4_isWord_s4_17])
  | succ n ih =>
    intro v1 v3 I J r h
    rw [f_X4_isWord_s4_17] at h
    refine wp_iload_n dX4_isWord_17 3 rfl ?_
    refine wp_aload_n dX4_isWord_18 2 rfl ?_
    obtain ⟨r19, h19, h⟩ := o_bind h
    refine wp_callstr (i := 4) (by decide) (c_J0_length_8abf5_s4 Γ ad I J r19 h19) dX4_isWord_19 mlX4_134 mwJ0_length_8abf5 miJ0_length_8abf5 rfl rfl (Nat.le_of_ble_eq_true rfl) rfl (by decide) (by decide) ?_
    refine wp_icmp_ge 51 dX4_isWord_22 rfl (fun c22 => ?_) (fun c22 => ?_)
    · replace h := o_pos h c22
      refine wp_iconst (v := 1) dX4_isWord_51 (by decide) ?_
      obtain rfl := Option.some.inj h
      exact wp_ireturn (ty := .boolean) dX4_isWord_52 rfl rfl ⟨rfl, rfl, rfl, rfl⟩
    · replace h := o_neg h c22
      refine wp_aload_n dX4_isWord_25 0 rfl ?_
      refine wp_getR (k := 7) (a' := ad 1) dX4_isWord_26 flX4_18 rfl rfl rfl rfl rfl ?_
      refine wp_iload_n dX4_isWord_29 1 rfl ?_
      refine wp_iload_n dX4_isWord_30 3 rfl ?_
      refine wp_iadd dX4_isWord_31 ?_
      obtain ⟨r32, h32, h⟩ := o_bind h
      refine wp_callvI (k := 1) (ci := 6) (c_X6_byteAt Γ ad (v1 + v3) I J r32 h32) dX4_isWord_32 mlX4_122 mwX6_byteAt miX6_byteAt rfl rfl rfl rfl (Nat.le_of_ble_eq_true rfl) rfl (by decide) (by decide) ?_
      refine wp_aload_n dX4_isWord_35 2 rfl ?_
      refine wp_iload_n dX4_isWord_36 3 rfl ?_
      obtain ⟨r37, h37, h⟩ := o_bind h
      refine wp_callstr (i := 4) (by decide) (c_J0_charAt_5068e_s4 Γ ad v3 I J r37 h37) dX4_isWord_37 mlX4_139 mwJ0_charAt_5068e miJ0_charAt_5068e rfl rfl (Nat.le_of_ble_eq_true rfl) rfl (by decide) (by decide) ?_
      refine wp_icmp_eq 45 dX4_isWord_40 rfl (fun c40 => ?_) (fun c40 => ?_)
      · replace h := o_pos h c40
        refine wp_iinc (v := v3 + 1) (lv' := [(0, _), (1, _), (2, _), (3, _)]) dX4_isWord_45 3 rfl rfl rfl rfl rfl ?_
        refine wp_goto 17 dX4_isWord_48 rfl ?_
        refine wp_pick [0, 1, 2, 3] (lv' := [(0, _), (1, _), (2, _), (3, _)]) rfl ?_
        exact ih v1 (v3 + 1) I J r h
      · replace h := o_neg h c40
        refine wp_iconst (v := 0) dX4_isWord_43 (by decide) ?_
        obtain rfl := Option.some.inj h
        exact wp_ireturn (ty := .boolean) dX4_isWord_44 rfl rfl ⟨rfl, rfl, rfl, rfl⟩
set_option maxRecDepth 100000 in
set_option maxHeartbeats 4000000 in
theorem c_X4_isWord_s4 (Γ : GT) (ad : Nat → Nat) (a1 : Int32) (I : IT) (J : JT) (r : Int32) (h : f_X4_isWord_s4 a1 I = some r) : CALL Γ mX4_isWord (0, 0) [.ref (ad 7), .int a1, .ref (Γ.2.2.2.2 (1 + 4))] (DX ad) I J (QE (some (.int r)) (DX ad) I J) := by
  refine call_of' (by decide) (Nat.le_of_ble_eq_true rfl) (lv0 := [(0, .ref (ad 7)), (1, .int a1), (2, .ref (Γ.2.2.2.2 (1 + 4)))]) rfl ?_
  unfold f_X4_isWord_s4 at h
  refine wp_aload_n dX4_isWord_0 0 rfl ?_
  refine wp_getI (k := 7) dX4_isWord_1 flX4_32 rfl rfl rfl rfl ?_
  refine wp_iload_n dX4_isWord_4 1 rfl ?_
  refine wp_isub dX4_isWord_5 ?_
  refine wp_aload_n dX4_isWord_6 2 rfl ?_
  obtain ⟨r7, h7, h⟩ := o_bind h
  refine wp_callstr (i := 4) (by decide) (c_J0_length_8abf5_s4 Γ ad I J r7 h7) dX4_isWord_7 mlX4_134 mwJ0_length_8abf5 miJ0_length_8abf5 rfl rfl (Nat.le_of_ble_eq_true rfl) rfl (by decide) (by decide) ?_
  refine wp_icmp_eq 15 dX4_isWord_10 rfl (fun c10 => ?_) (fun c10 => ?_)
  · replace h := o_pos h c10
    refine wp_iconst (v := 0) dX4_isWord_15 (by decide) ?_
    refine wp_istore_n (lv' := [(0, _), (1, _), (2, _), (3, _)]) dX4_isWord_16 rfl rfl rfl rfl ?_
    refine wp_pick [0, 1, 2, 3] (lv' := [(0, _), (1, _), (2, _), (3, _)]) rfl ?_
    exact w_X4_isWord_s4_17 Γ ad FU a1 0 I J r h
  · replace h := o_neg h c10
    refine wp_iconst (v := 0) dX4_isWord_13 (by decide) ?_
    obtain rfl := Option.some.inj h
    exact wp_ireturn (ty := .boolean) dX4_isWord_14 rfl rfl ⟨rfl, rfl, rfl, rfl⟩
def f_X4_refuseIf (a1 : Int32) (a2 : Int32) (a3 : Int32) (I : IT) : Option (IT) :=
  if a1 = 0 then
    some I
  else
    if (I 7 3) = 0 then
      some (upI (upI I 7 3 a2) 7 2 a3)
    else
      some I
set_option maxRecDepth 100000 in
set_option maxHeartbeats 4000000 in
theorem c_X4_refuseIf (Γ : GT) (ad : Nat → Nat) (a1 : Int32) (a2 : Int32) (a3 : Int32) (I : IT) (J : JT) (r : IT) (h : f_X4_refuseIf a1 a2 a3 I = some r) : CALL Γ mX4_refuseIf (0, 0) [.ref (ad 7), .int a1, .int a2, .int a3] (DX ad) I J (QE none (DX ad) r J) := by
  refine call_of' (by decide) (Nat.le_of_ble_eq_true rfl) (lv0 := [(0, .ref (ad 7)), (1, .int a1), (2, .int a2), (3, .int a3)]) rfl ?_
  unfold f_X4_refuseIf at h
  refine wp_iload_n dX4_refuseIf_0 1 rfl ?_
  refine wp_if_eq 21 dX4_refuseIf_1 rfl (fun c1 => ?_) (fun c1 => ?_)
  · replace h := o_pos h c1
    obtain rfl := Option.some.inj h
    exact wp_return dX4_refuseIf_21 rfl ⟨rfl, rfl, rfl, rfl⟩
  · replace h := o_neg h c1
    refine wp_aload_n dX4_refuseIf_4 0 rfl ?_
    refine wp_getI (k := 7) dX4_refuseIf_5 flX4_25 rfl rfl rfl rfl ?_
    refine wp_if_ne 21 dX4_refuseIf_8 rfl (fun c8 => ?_) (fun c8 => ?_)
    · replace h := o_neg h c8
      obtain rfl := Option.some.inj h
      exact wp_return dX4_refuseIf_21 rfl ⟨rfl, rfl, rfl, rfl⟩
    · replace h := o_pos h c8
      refine wp_aload_n dX4_refuseIf_11 0 rfl ?_
      refine wp_iload_n dX4_refuseIf_12 2 rfl ?_
      refine wp_putI (k := 7) dX4_refuseIf_13 flX4_25 rfl rfl rfl rfl rfl rfl rfl rfl ?_
      refine wp_aload_n dX4_refuseIf_16 0 rfl ?_
      refine wp_iload_n dX4_refuseIf_17 3 rfl ?_
      refine wp_putI (k := 7) dX4_refuseIf_18 flX4_29 rfl rfl rfl rfl rfl rfl rfl rfl ?_
      obtain rfl := Option.some.inj h
      exact wp_return dX4_refuseIf_21 rfl ⟨rfl, rfl, rfl, rfl⟩
def f_X4_isFigure (a0 : Int32) : Option (Int32) :=
  (f_X9_isWithin a0 48 57).bind fun r5 =>
  if r5 = 0 ∨ r5 = 1 then some r5 else none
set_option maxRecDepth 100000 in
set_option maxHeartbeats 4000000 in
theorem c_X4_isFigure (Γ : GT) (ad : Nat → Nat) (a0 : Int32) (I : IT) (J : JT) (r : Int32) (h : f_X4_isFigure a0 = some r) : CALL Γ mX4_isFigure (0, 0) [.int a0] (DX ad) I J (QE (some (.int r)) (DX ad) I J) := by
  refine call_of' (by decide) (Nat.le_of_ble_eq_true rfl) (lv0 := [(0, .int a0)]) rfl ?_
  unfold f_X4_isFigure at h
  refine wp_iload_n dX4_isFigure_0 0 rfl ?_
  refine wp_bipush (v := 48) dX4_isFigure_1 (by decide) ?_
  refine wp_bipush (v := 57) dX4_isFigure_3 (by decide) ?_
  obtain ⟨r5, h5, h⟩ := o_bind h
  refine wp_callsNI (c_X9_isWithin Γ ad a0 48 57 I J r5 h5) dX4_isFigure_5 mlX4_130 mwX9_isWithin miX9_isWithin rfl (Nat.le_of_ble_eq_true rfl) rfl (by decide) (by decide) ?_
  obtain ⟨g8, h⟩ := o_grd h
  obtain rfl := Option.some.inj h
  exact wp_ireturn (ty := .boolean) dX4_isFigure_8 rfl (isb_of g8) ⟨rfl, rfl, rfl, rfl⟩
