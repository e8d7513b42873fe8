/-! lifted: X3_byOrder X9_meetings X0_append X9_write X9_tear X0_isWrong X0_firstWrong X9_judge X9_seed X1_become_20_12 X1_become_27_12 X9_keep X1_become_20 X1_become_27 X9_goBack X10_in X10_feed X10_persons X10_bare X10_sortOf -/
def f_X3_byOrder_25 : Nat → Int32 → Int32 → Int32 → IT → Option (Int32 × IT)
  | 0, _, _, _, _ => none
  | n + 1, v1, v2, v3, I =>
    if (I 3 1) ≤ v3 then
      some (v1, I)
    else
      (f_X3_isWanted v2 v3 I).bind fun r39 =>
      if r39 = 0 then
        f_X3_byOrder_25 n v1 v2 (v3 + 1) I
      else
        (f_X3_meet v2 ((I 3 0) + v3) I).bind fun r57 =>
        f_X3_byOrder_25 n (if v1 < (r57.1 + 1) then (r57.1 + 1) else v1) v2 (v3 + 1) r57.2
def f_X3_byOrder_12 : Nat → Int32 → Int32 → IT → Option (Int32 × IT)
  | 0, _, _, _ => none
  | n + 1, v1, v2, I =>
    if (I 3 0) ≤ v2 then
      some (v1, I)
    else
      (f_X3_byOrder_25 FU v1 v2 0 I).bind fun r25 =>
      f_X3_byOrder_12 n r25.1 (v2 + 1) r25.2
def f_X3_byOrder (I : IT) : Option (Int32 × IT) :=
  (f_J7_fill_53178_49 0 I).bind fun r5 =>
  f_X3_byOrder_12 FU 0 0 r5
set_option maxRecDepth 100000 in
set_option maxHeartbeats 4000000 in
theorem w_X3_byOrder_25 (Γ : GT) (ad : Nat → Nat) (Q : QT) : ∀ (n : Nat) (v1 : Int32) (v2 : Int32) (v3 : Int32) (I : IT) (J : JT) (r : Int32 × IT), f_X3_byOrder_25 n v1 v2 v3 I = some r → WP Γ mX3_byOrder (0, 0) 72 [(0, .ref (ad 48)), (1, .int r.1), (2, .int v2)] [] (DX ad) r.2 J Q → WP Γ mX3_byOrder (0, 0) 25 [(0, .ref (ad 48)), (1, .int v1), (2, .int v2), (3, .int v3)] [] (DX ad) I J Q := by
  intro n
  induction n with
  | zero => intro v1 v2 v3 I J r h K; exact absurd h (by simp [f_X3_byOrder_25])
  | succ n ih =>
    intro v1 v2 v3 I J r h K
    rw [f_X3_byOrder_25] at h
    refine wp_iload_n dX3_byOrder_25 3 rfl ?_
    refine wp_aload_n dX3_byOrder_26 0 rfl ?_
    refine wp_getR (k := 48) (a' := ad 3) dX3_byOrder_27 flX3_15 rfl rfl rfl rfl rfl ?_
    refine wp_getI (k := 3) dX3_byOrder_30 flX3_32 rfl rfl rfl rfl ?_
    refine wp_icmp_ge 72 dX3_byOrder_33 rfl (fun c33 => ?_) (fun c33 => ?_)
    · replace h := o_pos h c33
      obtain rfl := Option.some.inj h
      exact wp_pick [0, 1, 2] (lv' := [(0, _), (1, _), (2, _)]) rfl K
    · replace h := o_neg h c33
      refine wp_aload_n dX3_byOrder_36 0 rfl ?_
      refine wp_iload_n dX3_byOrder_37 2 rfl ?_
      refine wp_iload_n dX3_byOrder_38 3 rfl ?_
      obtain ⟨r39, h39, h⟩ := o_bind h
      refine wp_callvI (k := 48) (ci := 3) (c_X3_isWanted Γ ad v2 v3 I J r39 h39) dX3_byOrder_39 mlX3_35 mwX3_isWanted miX3_isWanted rfl rfl rfl rfl (Nat.le_of_ble_eq_true rfl) rfl (by decide) (by decide) ?_
      refine wp_if_eq 66 dX3_byOrder_42 rfl (fun c42 => ?_) (fun c42 => ?_)
      · replace h := o_pos h c42
        refine wp_iinc (v := v3 + 1) (lv' := [(0, _), (1, _), (2, _), (3, _)]) dX3_byOrder_66 3 rfl rfl rfl rfl rfl ?_
        refine wp_goto 25 dX3_byOrder_69 rfl ?_
        refine wp_pick [0, 1, 2, 3] (lv' := [(0, _), (1, _), (2, _), (3, _)]) rfl ?_
        exact ih v1 v2 (v3 + 1) I J r h K
      · replace h := o_neg h c42
        refine wp_iload_n dX3_byOrder_45 1 rfl ?_
        refine wp_aload_n dX3_byOrder_46 0 rfl ?_
        refine wp_iload_n dX3_byOrder_47 2 rfl ?_
        refine wp_aload_n dX3_byOrder_48 0 rfl ?_
        refine wp_getR (k := 48) (a' := ad 3) dX3_byOrder_49 flX3_15 rfl rfl rfl rfl rfl ?_
        refine wp_getI (k := 3) dX3_byOrder_52 flX3_28 rfl rfl rfl rfl ?_
        refine wp_iload_n dX3_byOrder_55 3 rfl ?_
        refine wp_iadd dX3_byOrder_56 ?_
        obtain ⟨r57, h57, h⟩ := o_bind h
        refine wp_callvI (k := 48) (ci := 3) (c_X3_meet Γ ad v2 ((I 3 0) + v3) I J r57 h57) dX3_byOrder_57 mlX3_56 mwX3_meet miX3_meet rfl rfl rfl rfl (Nat.le_of_ble_eq_true rfl) rfl (by decide) (by decide) ?_
        refine wp_iconst (v := 1) dX3_byOrder_60 (by decide) ?_
        refine wp_iadd dX3_byOrder_61 ?_
        refine wp_mmax dX3_byOrder_62 mlX3_42 (by decide) (Nat.le_of_ble_eq_true rfl) ?_
        refine wp_istore_n (lv' := [(0, _), (1, _), (2, _), (3, _)]) dX3_byOrder_65 rfl rfl rfl rfl ?_
        refine wp_iinc (v := v3 + 1) (lv' := [(0, _), (1, _), (2, _), (3, _)]) dX3_byOrder_66 3 rfl rfl rfl rfl rfl ?_
        refine wp_goto 25 dX3_byOrder_69 rfl ?_
        refine wp_pick [0, 1, 2, 3] (lv' := [(0, _), (1, _), (2, _), (3, _)]) rfl ?_
        exact ih (if v1 < (r57.1 + 1) then (r57.1 + 1) else v1) v2 (v3 + 1) r57.2 J r h K
set_option maxRecDepth 100000 in
set_option maxHeartbeats 4000000 in
theorem w_X3_byOrder_12 (Γ : GT) (ad : Nat → Nat) : ∀ (n : Nat) (v1 : Int32) (v2 : Int32) (I : IT) (J : JT) (r : Int32 × IT), f_X3_byOrder_12 n v1 v2 I = some r → WP Γ mX3_byOrder (0, 0) 12 [(0, .ref (ad 48)), (1, .int v1), (2, .int v2)] [] (DX ad) I J (QE (some (.int r.1)) (DX ad) r.2 J) := by
  intro n
  induction n with
  | zero => intro v1 v2 I J r h; exact absurd h (by simp [f_X3_byOrder_12])
  | succ n ih =>
    intro v1 v2 I J r h
    rw [f_X3_byOrder_12] at h
    refine wp_iload_n dX3_byOrder_12 2 rfl ?_
    refine wp_aload_n dX3_byOrder_13 0 rfl ?_
    refine wp_getR (k := 48) (a' := ad 3) dX3_byOrder_14 flX3_15 rfl rfl rfl rfl rfl ?_
    refine wp_getI (k := 3) dX3_byOrder_17 flX3_28 rfl rfl rfl rfl ?_
    refine wp_icmp_ge 78 dX3_byOrder_20 rfl (fun c20 => ?_) (fun c20 => ?_)
    · replace h := o_pos h c20
      refine wp_iload_n dX3_byOrder_78 1 rfl ?_
      obtain rfl := Option.some.inj h
      exact wp_ireturn (ty := .int) dX3_byOrder_79 rfl rfl ⟨rfl, rfl, rfl, rfl⟩
    · replace h := o_neg h c20
      refine wp_iconst (v := 0) dX3_byOrder_23 (by decide) ?_
      refine wp_istore_n (lv' := [(0, _), (1, _), (2, _), (3, _)]) dX3_byOrder_24 rfl rfl rfl rfl ?_
      refine wp_pick [0, 1, 2, 3] (lv' := [(0, _), (1, _), (2, _), (3, _)]) rfl ?_
      obtain ⟨r25, h25, h⟩ := o_bind h
      refine w_X3_byOrder_25 Γ ad _ FU v1 v2 0 I J r25 h25 ?_
      refine wp_iinc (v := v2 + 1) (lv' := [(0, _), (1, _), (2, _)]) dX3_byOrder_72 2 rfl rfl rfl rfl rfl ?_
      refine wp_goto 12 dX3_byOrder_75 rfl ?_
      refine wp_pick [0, 1, 2] (lv' := [(0, _), (1, _), (2, _)]) rfl ?_
      exact ih r25.1 (v2 + 1) r25.2 J r h
set_option maxRecDepth 100000 in
set_option maxHeartbeats 4000000 in
theorem c_X3_byOrder (Γ : GT) (ad : Nat → Nat) (I : IT) (J : JT) (r : Int32 × IT) (h : f_X3_byOrder I = some r) : CALL Γ mX3_byOrder (0, 0) [.ref (ad 48)] (DX ad) I J (QE (some (.int r.1)) (DX ad) r.2 J) := by
  refine call_of' (by decide) (Nat.le_of_ble_eq_true rfl) (lv0 := [(0, .ref (ad 48))]) rfl ?_
  unfold f_X3_byOrder at h
  refine wp_aload_n dX3_byOrder_0 0 rfl ?_
  refine wp_getR (k := 48) (a' := ad 49) dX3_byOrder_1 flX3_11 rfl rfl rfl rfl rfl ?_
  refine wp_iconst (v := 0) dX3_byOrder_4 (by decide) ?_
  obtain ⟨r5, h5, h⟩ := o_bind h
  refine wp_callsV (c_J7_fill_53178_49 Γ ad 0 I J r5 h5) dX3_byOrder_5 mlX3_50 mwJ7_fill_53178 miJ7_fill_53178 rfl (Nat.le_of_ble_eq_true rfl) rfl (by decide) (by decide) ?_
  refine wp_iconst (v := 0) dX3_byOrder_8 (by decide) ?_
  refine wp_istore_n (lv' := [(0, _), (1, _)]) dX3_byOrder_9 rfl rfl rfl rfl ?_
  refine wp_iconst (v := 0) dX3_byOrder_10 (by decide) ?_
  refine wp_istore_n (lv' := [(0, _), (1, _), (2, _)]) dX3_byOrder_11 rfl rfl rfl rfl ?_
  refine wp_pick [0, 1, 2] (lv' := [(0, _), (1, _), (2, _)]) rfl ?_
  exact w_X3_byOrder_12 Γ ad FU 0 0 r5 J r h
def f_X9_meetings (a1 : Int32) (I : IT) : Option (Int32 × IT) :=
  if a1 = 0 then
    (f_X3_byHands I).bind fun r32 =>
    some (r32, I)
  else
    if a1 = 1 then
      (f_X3_byOrder I).bind fun r40 =>
      some (r40.1, r40.2)
    else
      some ((-1000002), I)
set_option maxRecDepth 100000 in
set_option maxHeartbeats 4000000 in
theorem c_X9_meetings (Γ : GT) (ad : Nat → Nat) (a1 : Int32) (I : IT) (J : JT) (r : Int32 × IT) (h : f_X9_meetings a1 I = some r) : CALL Γ mX9_meetings (0, 0) [.ref (ad 0), .int a1] (DX ad) I J (QE (some (.int r.1)) (DX ad) r.2 J) := by
  refine call_of' (by decide) (Nat.le_of_ble_eq_true rfl) (lv0 := [(0, .ref (ad 0)), (1, .int a1)]) rfl ?_
  unfold f_X9_meetings at h
  refine wp_iload_n dX9_meetings_0 1 rfl ?_
  by_cases e1_0 : a1 = 0
  · replace h := o_pos h e1_0
    refine wp_lookup (off := 27) 28 dX9_meetings_1 (by decide) (by rw [e1_0]; decide) rfl ?_
    refine wp_aload_n dX9_meetings_28 0 rfl ?_
    refine wp_getR (k := 0) (a' := ad 48) dX9_meetings_29 flX9_75 rfl rfl rfl rfl rfl ?_
    obtain ⟨r32, h32, h⟩ := o_bind h
    refine wp_callvI (k := 48) (ci := 3) (c_X3_byHands Γ ad I J r32 h32) dX9_meetings_32 mlX9_301 mwX3_byHands miX3_byHands rfl rfl rfl rfl (Nat.le_of_ble_eq_true rfl) rfl (by decide) (by decide) ?_
    obtain rfl := Option.some.inj h
    exact wp_ireturn (ty := .int) dX9_meetings_35 rfl rfl ⟨rfl, rfl, rfl, rfl⟩
  · replace h := o_neg h e1_0
    by_cases e1_1 : a1 = 1
    · replace h := o_pos h e1_1
      refine wp_lookup (off := 35) 36 dX9_meetings_1 (by decide) (by rw [e1_1]; decide) rfl ?_
      refine wp_aload_n dX9_meetings_36 0 rfl ?_
      refine wp_getR (k := 0) (a' := ad 48) dX9_meetings_37 flX9_75 rfl rfl rfl rfl rfl ?_
      obtain ⟨r40, h40, h⟩ := o_bind h
      refine wp_callvI (k := 48) (ci := 3) (c_X3_byOrder Γ ad I J r40 h40) dX9_meetings_40 mlX9_304 mwX3_byOrder miX3_byOrder rfl rfl rfl rfl (Nat.le_of_ble_eq_true rfl) rfl (by decide) (by decide) ?_
      obtain rfl := Option.some.inj h
      exact wp_ireturn (ty := .int) dX9_meetings_43 rfl rfl ⟨rfl, rfl, rfl, rfl⟩
    · replace h := o_neg h e1_1
      refine wp_lookup (off := 43) 44 dX9_meetings_1 (by decide) (by rw [lv_osw e1_0 (by decide), lv_osw e1_1 (by decide)]; rfl) rfl ?_
      refine wp_ldc (v := (-1000002)) dX9_meetings_44 kcX9_94 ?_
      obtain rfl := Option.some.inj h
      exact wp_ireturn (ty := .int) dX9_meetings_46 rfl rfl ⟨rfl, rfl, rfl, rfl⟩
def f_X0_append (a1 : Int32) (a2 : Int32) (a3 : Int32) (a4 : Int32) (I : IT) : Option (IT) :=
  if (30 : Int32) ≤ (I 50 1) then
    some I
  else
    if inbB (I 50 1) 30 = true then
      if inbB ((upI I 51 ((I 50 1).toNatClampNeg) a1) 50 1) 30 = true then
        if inbB ((upI (upI I 51 ((I 50 1).toNatClampNeg) a1) 52 (((upI I 51 ((I 50 1).toNatClampNeg) a1) 50 1).toNatClampNeg) a2) 50 1) 30 = true then
          (some (upI (upI (upI I 51 ((I 50 1).toNatClampNeg) a1) 52 (((upI I 51 ((I 50 1).toNatClampNeg) a1) 50 1).toNatClampNeg) a2) 53 (((upI (upI I 51 ((I 50 1).toNatClampNeg) a1) 52 (((upI I 51 ((I 50 1).toNatClampNeg) a1) 50 1).toNatClampNeg) a2) 50 1).toNatClampNeg) a3)).bind fun i38 =>
          if inbB (i38 50 1) 30 = true then
            some (upI (upI i38 54 ((i38 50 1).toNatClampNeg) a4) 50 1 (((upI i38 54 ((i38 50 1).toNatClampNeg) a4) 50 1) + 1))
          else none
        else none
      else none
    else none
set_option maxRecDepth 100000 in
set_option maxHeartbeats 4000000 in
theorem c_X0_append (Γ : GT) (ad : Nat → Nat) (a1 : Int32) (a2 : Int32) (a3 : Int32) (a4 : Int32) (I : IT) (J : JT) (r : IT) (h : f_X0_append a1 a2 a3 a4 I = some r) : CALL Γ mX0_append (0, 0) [.ref (ad 50), .int a1, .int a2, .int a3, .int a4] (DX ad) I J (QE none (DX ad) r J) := by
  refine call_of' (by decide) (Nat.le_of_ble_eq_true rfl) (lv0 := [(0, .ref (ad 50)), (1, .int a1), (2, .int a2), (3, .int a3), (4, .int a4)]) rfl ?_
  unfold f_X0_append at h
  refine wp_aload_n dX0_append_0 0 rfl ?_
  refine wp_getI (k := 50) dX0_append_1 flX0_28 rfl rfl rfl rfl ?_
  refine wp_bipush (v := 30) dX0_append_4 (by decide) ?_
  refine wp_icmp_ge 60 dX0_append_6 rfl (fun c6 => ?_) (fun c6 => ?_)
  · replace h := o_pos h c6
    obtain rfl := Option.some.inj h
    exact wp_return dX0_append_60 rfl ⟨rfl, rfl, rfl, rfl⟩
  · replace h := o_neg h c6
    refine wp_aload_n dX0_append_9 0 rfl ?_
    refine wp_getR (k := 50) (a' := ad 51) dX0_append_10 flX0_9 rfl rfl rfl rfl rfl ?_
    refine wp_aload_n dX0_append_13 0 rfl ?_
    refine wp_getI (k := 50) dX0_append_14 flX0_28 rfl rfl rfl rfl ?_
    refine wp_iload_n dX0_append_17 1 rfl ?_
    obtain ⟨g18, h⟩ := o_grd h
    refine wp_iast (k := 51) dX0_append_18 rfl rfl (inb_of g18) ?_
    refine wp_aload_n dX0_append_19 0 rfl ?_
    refine wp_getR (k := 50) (a' := ad 52) dX0_append_20 flX0_15 rfl rfl rfl rfl rfl ?_
    refine wp_aload_n dX0_append_23 0 rfl ?_
    refine wp_getI (k := 50) dX0_append_24 flX0_28 rfl rfl rfl rfl ?_
    refine wp_iload_n dX0_append_27 2 rfl ?_
    obtain ⟨g28, h⟩ := o_grd h
    refine wp_iast (k := 52) dX0_append_28 rfl rfl (inb_of g28) ?_
    refine wp_aload_n dX0_append_29 0 rfl ?_
    refine wp_getR (k := 50) (a' := ad 53) dX0_append_30 flX0_18 rfl rfl rfl rfl rfl ?_
    refine wp_aload_n dX0_append_33 0 rfl ?_
    refine wp_getI (k := 50) dX0_append_34 flX0_28 rfl rfl rfl rfl ?_
    refine wp_iload_n dX0_append_37 3 rfl ?_
    obtain ⟨g38, h⟩ := o_grd h
    obtain ⟨i38, e38, h⟩ := o_bind h
    refine wp_iast (k := 53) dX0_append_38 rfl rfl (inb_of g38) ?_
    refine wp_stI (Option.some.inj e38) ?_
    refine wp_aload_n dX0_append_39 0 rfl ?_
    refine wp_getR (k := 50) (a' := ad 54) dX0_append_40 flX0_21 rfl rfl rfl rfl rfl ?_
    refine wp_aload_n dX0_append_43 0 rfl ?_
    refine wp_getI (k := 50) dX0_append_44 flX0_28 rfl rfl rfl rfl ?_
    refine wp_iload dX0_append_47 4 rfl ?_
    obtain ⟨g49, h⟩ := o_grd h
    refine wp_iast (k := 54) dX0_append_49 rfl rfl (inb_of g49) ?_
    refine wp_aload_n dX0_append_50 0 rfl ?_
    refine wp_dup dX0_append_51 rfl ?_
    refine wp_getI (k := 50) dX0_append_52 flX0_28 rfl rfl rfl rfl ?_
    refine wp_iconst (v := 1) dX0_append_55 (by decide) ?_
    refine wp_iadd dX0_append_56 ?_
    refine wp_putI (k := 50) dX0_append_57 flX0_28 rfl rfl rfl rfl rfl rfl rfl rfl ?_
    obtain rfl := Option.some.inj h
    exact wp_return dX0_append_60 rfl ⟨rfl, rfl, rfl, rfl⟩
def f_X9_write (a1 : Int32) (a2 : Int32) (a3 : Int32) (a4 : Int32) (I : IT) : Option (Int32 × IT) :=
  (f_X2_dealsIn a2 a3 I).bind fun r6 =>
  if r6 = 0 then
    some ((-1000001), I)
  else
    (f_X9_isWithin a1 0 9999).bind fun r20 =>
    if r20 = 0 then
      some ((-1000002), I)
    else
      (f_X9_isWithin a4 1 999).bind fun r32 =>
      if r32 = 0 then
        some ((-1000002), I)
      else
        if (I 50 1) < (30 : Int32) then
          (f_X0_append a1 a2 a3 a4 I).bind fun r65 =>
          some (r65 50 1, r65)
        else
          some ((-1000004), I)
set_option maxRecDepth 100000 in
set_option maxHeartbeats 4000000 in
theorem c_X9_write (Γ : GT) (ad : Nat → Nat) (a1 : Int32) (a2 : Int32) (a3 : Int32) (a4 : Int32) (I : IT) (J : JT) (r : Int32 × IT) (h : f_X9_write a1 a2 a3 a4 I = some r) : CALL Γ mX9_write (0, 0) [.ref (ad 0), .int a1, .int a2, .int a3, .int a4] (DX ad) I J (QE (some (.int r.1)) (DX ad) r.2 J) := by
  refine call_of' (by decide) (Nat.le_of_ble_eq_true rfl) (lv0 := [(0, .ref (ad 0)), (1, .int a1), (2, .int a2), (3, .int a3), (4, .int a4)]) rfl ?_
  unfold f_X9_write at h
  refine wp_aload_n dX9_write_0 0 rfl ?_
  refine wp_getR (k := 0) (a' := ad 3) dX9_write_1 flX9_19 rfl rfl rfl rfl rfl ?_
  refine wp_iload_n dX9_write_4 2 rfl ?_
  refine wp_iload_n dX9_write_5 3 rfl ?_
  obtain ⟨r6, h6, h⟩ := o_bind h
  refine wp_callvI (k := 3) (ci := 2) (c_X2_dealsIn Γ ad a2 a3 I J r6 h6) dX9_write_6 mlX9_182 mwX2_dealsIn miX2_dealsIn rfl rfl rfl rfl (Nat.le_of_ble_eq_true rfl) rfl (by decide) (by decide) ?_
  refine wp_if_ne 15 dX9_write_9 rfl (fun c9 => ?_) (fun c9 => ?_)
  · replace h := o_neg h c9
    refine wp_iload_n dX9_write_15 1 rfl ?_
    refine wp_iconst (v := 0) dX9_write_16 (by decide) ?_
    refine wp_sipush (v := 9999) dX9_write_17 (by decide) ?_
    obtain ⟨r20, h20, h⟩ := o_bind h
    refine wp_callsI (c_X9_isWithin Γ ad a1 0 9999 I J r20 h20) dX9_write_20 mlX9_90 mwX9_isWithin miX9_isWithin rfl (Nat.le_of_ble_eq_true rfl) rfl (by decide) (by decide) ?_
    refine wp_if_eq 38 dX9_write_23 rfl (fun c23 => ?_) (fun c23 => ?_)
    · replace h := o_pos h c23
      refine wp_ldc (v := (-1000002)) dX9_write_38 kcX9_94 ?_
      obtain rfl := Option.some.inj h
      exact wp_ireturn (ty := .int) dX9_write_40 rfl rfl ⟨rfl, rfl, rfl, rfl⟩
    · replace h := o_neg h c23
      refine wp_iload dX9_write_26 4 rfl ?_
      refine wp_iconst (v := 1) dX9_write_28 (by decide) ?_
      refine wp_sipush (v := 999) dX9_write_29 (by decide) ?_
      obtain ⟨r32, h32, h⟩ := o_bind h
      refine wp_callsI (c_X9_isWithin Γ ad a4 1 999 I J r32 h32) dX9_write_32 mlX9_90 mwX9_isWithin miX9_isWithin rfl (Nat.le_of_ble_eq_true rfl) rfl (by decide) (by decide) ?_
      refine wp_if_ne 41 dX9_write_35 rfl (fun c35 => ?_) (fun c35 => ?_)
      · replace h := o_neg h c35
        refine wp_aload_n dX9_write_41 0 rfl ?_
        refine wp_getR (k := 0) (a' := ad 50) dX9_write_42 flX9_82 rfl rfl rfl rfl rfl ?_
        refine wp_getI (k := 50) dX9_write_45 flX9_126 rfl rfl rfl rfl ?_
        refine wp_bipush (v := 30) dX9_write_48 (by decide) ?_
        refine wp_icmp_lt 56 dX9_write_50 rfl (fun c50 => ?_) (fun c50 => ?_)
        · replace h := o_pos h c50
          refine wp_aload_n dX9_write_56 0 rfl ?_
          refine wp_getR (k := 0) (a' := ad 50) dX9_write_57 flX9_82 rfl rfl rfl rfl rfl ?_
          refine wp_iload_n dX9_write_60 1 rfl ?_
          refine wp_iload_n dX9_write_61 2 rfl ?_
          refine wp_iload_n dX9_write_62 3 rfl ?_
          refine wp_iload dX9_write_63 4 rfl ?_
          obtain ⟨r65, h65, h⟩ := o_bind h
          refine wp_callvV (k := 50) (ci := 0) (c_X0_append Γ ad a1 a2 a3 a4 I J r65 h65) dX9_write_65 mlX9_307 mwX0_append miX0_append rfl rfl rfl rfl (Nat.le_of_ble_eq_true rfl) rfl (by decide) (by decide) ?_
          refine wp_aload_n dX9_write_68 0 rfl ?_
          refine wp_getR (k := 0) (a' := ad 50) dX9_write_69 flX9_82 rfl rfl rfl rfl rfl ?_
          refine wp_getI (k := 50) dX9_write_72 flX9_126 rfl rfl rfl rfl ?_
          obtain rfl := Option.some.inj h
          exact wp_ireturn (ty := .int) dX9_write_75 rfl rfl ⟨rfl, rfl, rfl, rfl⟩
        · replace h := o_neg h c50
          refine wp_ldc (v := (-1000004)) dX9_write_53 kcX9_98 ?_
          obtain rfl := Option.some.inj h
          exact wp_ireturn (ty := .int) dX9_write_55 rfl rfl ⟨rfl, rfl, rfl, rfl⟩
      · replace h := o_pos h c35
        refine wp_ldc (v := (-1000002)) dX9_write_38 kcX9_94 ?_
        obtain rfl := Option.some.inj h
        exact wp_ireturn (ty := .int) dX9_write_40 rfl rfl ⟨rfl, rfl, rfl, rfl⟩
  · replace h := o_pos h c9
    refine wp_ldc (v := (-1000001)) dX9_write_12 kcX9_155 ?_
    obtain rfl := Option.some.inj h
    exact wp_ireturn (ty := .int) dX9_write_14 rfl rfl ⟨rfl, rfl, rfl, rfl⟩
def f_X9_tear (I : IT) : Option (Int32 × IT) :=
  some (I 50 1, upI I 50 1 0)
set_option maxRecDepth 100000 in
set_option maxHeartbeats 4000000 in
theorem c_X9_tear (Γ : GT) (ad : Nat → Nat) (I : IT) (J : JT) (r : Int32 × IT) (h : f_X9_tear I = some r) : CALL Γ mX9_tear (0, 0) [.ref (ad 0)] (DX ad) I J (QE (some (.int r.1)) (DX ad) r.2 J) := by
  refine call_of' (by decide) (Nat.le_of_ble_eq_true rfl) (lv0 := [(0, .ref (ad 0))]) rfl ?_
  unfold f_X9_tear at h
  refine wp_aload_n dX9_tear_0 0 rfl ?_
  refine wp_getR (k := 0) (a' := ad 50) dX9_tear_1 flX9_82 rfl rfl rfl rfl rfl ?_
  refine wp_getI (k := 50) dX9_tear_4 flX9_126 rfl rfl rfl rfl ?_
  refine wp_istore_n (lv' := [(0, _), (1, _)]) dX9_tear_7 rfl rfl rfl rfl ?_
  refine wp_aload_n dX9_tear_8 0 rfl ?_
  refine wp_getR (k := 0) (a' := ad 50) dX9_tear_9 flX9_82 rfl rfl rfl rfl rfl ?_
  refine wp_iconst (v := 0) dX9_tear_12 (by decide) ?_
  refine wp_putI (k := 50) dX9_tear_13 flX9_126 rfl rfl rfl rfl rfl rfl rfl rfl ?_
  refine wp_iload_n dX9_tear_16 1 rfl ?_
  obtain rfl := Option.some.inj h
  exact wp_ireturn (ty := .int) dX9_tear_17 rfl rfl ⟨rfl, rfl, rfl, rfl⟩
def f_X0_isWrong_27 : Nat → Int32 → Int32 → Int32 → IT → Option (Int32)
  | 0, _, _, _, _ => none
  | n + 1, v1, v2, v3, I =>
    if v1 ≤ v3 then
      if inbB v1 30 = true then
        (f_X2_hasPerson (I 52 v1.toNatClampNeg) I).bind fun r114 =>
        if r114 = 0 then
          some 0
        else
          (f_X2_sortOf (I 52 v1.toNatClampNeg) I).bind fun r125 =>
          if r125 = (1 : Int32) then
            if inbB v1 30 = true then
              if inbB (I 52 v1.toNatClampNeg) 14 = true then
                if (I 54 v1.toNatClampNeg) ≤ ((I 5 (I 52 v1.toNatClampNeg).toNatClampNeg) - v2) then
                  some 0
                else
                  some 1
              else none
            else none
          else
            some 0
      else none
    else
      if inbB v3 30 = true then
        if inbB v1 30 = true then
          if (I 52 v3.toNatClampNeg) = (I 52 v1.toNatClampNeg) then
            if inbB v3 30 = true then
              if inbB v1 30 = true then
                if ((I 51 v3.toNatClampNeg) + (I 3 3)) ≤ (I 51 v1.toNatClampNeg) then
                  f_X0_isWrong_27 n v1 v2 (v3 + 1) I
                else
                  if inbB v3 30 = true then
                    if inbB v1 30 = true then
                      if (I 53 v3.toNatClampNeg) = (I 53 v1.toNatClampNeg) then
                        some 1
                      else
                        if inbB v3 30 = true then
                          f_X0_isWrong_27 n v1 (v2 + (I 54 v3.toNatClampNeg)) (v3 + 1) I
                        else none
                    else none
                  else none
              else none
            else none
          else
            f_X0_isWrong_27 n v1 v2 (v3 + 1) I
        else none
      else none
def f_X0_isWrong (a1 : Int32) (I : IT) : Option (Int32) :=
  if a1 ≤ 0 then
    f_X0_isWrong_27 FU a1 0 0 I
  else
    if inbB a1 30 = true then
      if inbB (a1 - 1) 30 = true then
        if (I 51 (a1 - 1).toNatClampNeg) ≤ (I 51 a1.toNatClampNeg) then
          f_X0_isWrong_27 FU a1 0 0 I
        else
          some 1
      else none
    else none
set_option maxRecDepth 100000 in
set_option maxHeartbeats 4000000 in
theorem w_X0_isWrong_27 (Γ : GT) (ad : Nat → Nat) : ∀ (n : Nat) (v1 : Int32) (v2 : Int32) (v3 : Int32) (I : IT) (J : JT) (r : Int32), f_X0_isWrong_27 n v1 v2 v3 I = some r → WP Γ mX0_isWrong (0, 0) 27 [(0, .ref (ad 50)), (1, .int v1), (2, .int v2), (3, .int v3)] [] (DX ad) I J (QE (some (.int r)) (DX ad) I J) := by
  intro n
  induction n with
  | zero => intro v1 v2 v3 I J r h; exact absurd h (by simp [f_X0_isWrong_27])
  | succ n ih =>
    intro v1 v2 v3 I J r h
    rw [f_X0_isWrong_27] at h
    refine wp_iload_n dX0_isWrong_27 3 rfl ?_
    refine wp_iload_n dX0_isWrong_28 1 rfl ?_
    refine wp_icmp_ge 102 dX0_isWrong_29 rfl (fun c29 => ?_) (fun c29 => ?_)
    · replace h := o_pos h c29
      refine wp_aload_n dX0_isWrong_102 0 rfl ?_
      refine wp_getR (k := 50) (a' := ad 52) dX0_isWrong_103 flX0_15 rfl rfl rfl rfl rfl ?_
      refine wp_iload_n dX0_isWrong_106 1 rfl ?_
      obtain ⟨g107, h⟩ := o_grd h
      refine wp_iald (k := 52) dX0_isWrong_107 rfl rfl (inb_of g107) ?_
      refine wp_istore_n (lv' := [(0, _), (1, _), (2, _), (3, _)]) dX0_isWrong_108 rfl rfl rfl rfl ?_
      refine wp_aload_n dX0_isWrong_109 0 rfl ?_
      refine wp_getR (k := 50) (a' := ad 3) dX0_isWrong_110 flX0_24 rfl rfl rfl rfl rfl ?_
      refine wp_iload_n dX0_isWrong_113 3 rfl ?_
      obtain ⟨r114, h114, h⟩ := o_bind h
      refine wp_callvI (k := 3) (ci := 2) (c_X2_hasPerson Γ ad (I 52 v1.toNatClampNeg) I J r114 h114) dX0_isWrong_114 mlX0_41 mwX2_hasPerson miX2_hasPerson rfl rfl rfl rfl (Nat.le_of_ble_eq_true rfl) rfl (by decide) (by decide) ?_
      refine wp_if_eq 156 dX0_isWrong_117 rfl (fun c117 => ?_) (fun c117 => ?_)
      · replace h := o_pos h c117
        refine wp_iconst (v := 0) dX0_isWrong_156 (by decide) ?_
        obtain rfl := Option.some.inj h
        exact wp_ireturn (ty := .boolean) dX0_isWrong_157 rfl rfl ⟨rfl, rfl, rfl, rfl⟩
      · replace h := o_neg h c117
        refine wp_aload_n dX0_isWrong_120 0 rfl ?_
        refine wp_getR (k := 50) (a' := ad 3) dX0_isWrong_121 flX0_24 rfl rfl rfl rfl rfl ?_
        refine wp_iload_n dX0_isWrong_124 3 rfl ?_
        obtain ⟨r125, h125, h⟩ := o_bind h
        refine wp_callvI (k := 3) (ci := 2) (c_X2_sortOf Γ ad (I 52 v1.toNatClampNeg) I J r125 h125) dX0_isWrong_125 mlX0_44 mwX2_sortOf miX2_sortOf rfl rfl rfl rfl (Nat.le_of_ble_eq_true rfl) rfl (by decide) (by decide) ?_
        refine wp_iconst (v := 1) dX0_isWrong_128 (by decide) ?_
        refine wp_icmp_ne 156 dX0_isWrong_129 rfl (fun c129 => ?_) (fun c129 => ?_)
        · replace h := o_neg h c129
          refine wp_iconst (v := 0) dX0_isWrong_156 (by decide) ?_
          obtain rfl := Option.some.inj h
          exact wp_ireturn (ty := .boolean) dX0_isWrong_157 rfl rfl ⟨rfl, rfl, rfl, rfl⟩
        · replace h := o_pos h c129
          refine wp_aload_n dX0_isWrong_132 0 rfl ?_
          refine wp_getR (k := 50) (a' := ad 54) dX0_isWrong_133 flX0_21 rfl rfl rfl rfl rfl ?_
          refine wp_iload_n dX0_isWrong_136 1 rfl ?_
          obtain ⟨g137, h⟩ := o_grd h
          refine wp_iald (k := 54) dX0_isWrong_137 rfl rfl (inb_of g137) ?_
          refine wp_aload_n dX0_isWrong_138 0 rfl ?_
          refine wp_getR (k := 50) (a' := ad 3) dX0_isWrong_139 flX0_24 rfl rfl rfl rfl rfl ?_
          refine wp_getR (k := 3) (a' := ad 5) dX0_isWrong_142 flX0_48 rfl rfl rfl rfl rfl ?_
          refine wp_iload_n dX0_isWrong_145 3 rfl ?_
          obtain ⟨g146, h⟩ := o_grd h
          refine wp_iald (k := 5) dX0_isWrong_146 rfl rfl (inb_of g146) ?_
          refine wp_iload_n dX0_isWrong_147 2 rfl ?_
          refine wp_isub dX0_isWrong_148 ?_
          refine wp_icmp_le 156 dX0_isWrong_149 rfl (fun c149 => ?_) (fun c149 => ?_)
          · replace h := o_pos h c149
            refine wp_iconst (v := 0) dX0_isWrong_156 (by decide) ?_
            obtain rfl := Option.some.inj h
            exact wp_ireturn (ty := .boolean) dX0_isWrong_157 rfl rfl ⟨rfl, rfl, rfl, rfl⟩
          · replace h := o_neg h c149
            refine wp_iconst (v := 1) dX0_isWrong_152 (by decide) ?_
            refine wp_goto 157 dX0_isWrong_153 rfl ?_
            obtain rfl := Option.some.inj h
            exact wp_ireturn (ty := .boolean) dX0_isWrong_157 rfl rfl ⟨rfl, rfl, rfl, rfl⟩
    · replace h := o_neg h c29
      refine wp_aload_n dX0_isWrong_32 0 rfl ?_
      refine wp_getR (k := 50) (a' := ad 52) dX0_isWrong_33 flX0_15 rfl rfl rfl rfl rfl ?_
      refine wp_iload_n dX0_isWrong_36 3 rfl ?_
      obtain ⟨g37, h⟩ := o_grd h
      refine wp_iald (k := 52) dX0_isWrong_37 rfl rfl (inb_of g37) ?_
      refine wp_aload_n dX0_isWrong_38 0 rfl ?_
      refine wp_getR (k := 50) (a' := ad 52) dX0_isWrong_39 flX0_15 rfl rfl rfl rfl rfl ?_
      refine wp_iload_n dX0_isWrong_42 1 rfl ?_
      obtain ⟨g43, h⟩ := o_grd h
      refine wp_iald (k := 52) dX0_isWrong_43 rfl rfl (inb_of g43) ?_
      refine wp_icmp_ne 96 dX0_isWrong_44 rfl (fun c44 => ?_) (fun c44 => ?_)
      · replace h := o_neg h c44
        refine wp_iinc (v := v3 + 1) (lv' := [(0, _), (1, _), (2, _), (3, _)]) dX0_isWrong_96 3 rfl rfl rfl rfl rfl ?_
        refine wp_goto 27 dX0_isWrong_99 rfl ?_
        refine wp_pick [0, 1, 2, 3] (lv' := [(0, _), (1, _), (2, _), (3, _)]) rfl ?_
        exact ih v1 v2 (v3 + 1) I J r h
      · replace h := o_pos h c44
        refine wp_aload_n dX0_isWrong_47 0 rfl ?_
        refine wp_getR (k := 50) (a' := ad 51) dX0_isWrong_48 flX0_9 rfl rfl rfl rfl rfl ?_
        refine wp_iload_n dX0_isWrong_51 3 rfl ?_
        obtain ⟨g52, h⟩ := o_grd h
        refine wp_iald (k := 51) dX0_isWrong_52 rfl rfl (inb_of g52) ?_
        refine wp_aload_n dX0_isWrong_53 0 rfl ?_
        refine wp_getR (k := 50) (a' := ad 3) dX0_isWrong_54 flX0_24 rfl rfl rfl rfl rfl ?_
        refine wp_getI (k := 3) dX0_isWrong_57 flX0_36 rfl rfl rfl rfl ?_
        refine wp_iadd dX0_isWrong_60 ?_
        refine wp_aload_n dX0_isWrong_61 0 rfl ?_
        refine wp_getR (k := 50) (a' := ad 51) dX0_isWrong_62 flX0_9 rfl rfl rfl rfl rfl ?_
        refine wp_iload_n dX0_isWrong_65 1 rfl ?_
        obtain ⟨g66, h⟩ := o_grd h
        refine wp_iald (k := 51) dX0_isWrong_66 rfl rfl (inb_of g66) ?_
        refine wp_icmp_le 96 dX0_isWrong_67 rfl (fun c67 => ?_) (fun c67 => ?_)
        · replace h := o_pos h c67
          refine wp_iinc (v := v3 + 1) (lv' := [(0, _), (1, _), (2, _), (3, _)]) dX0_isWrong_96 3 rfl rfl rfl rfl rfl ?_
          refine wp_goto 27 dX0_isWrong_99 rfl ?_
          refine wp_pick [0, 1, 2, 3] (lv' := [(0, _), (1, _), (2, _), (3, _)]) rfl ?_
          exact ih v1 v2 (v3 + 1) I J r h
        · replace h := o_neg h c67
          refine wp_aload_n dX0_isWrong_70 0 rfl ?_
          refine wp_getR (k := 50) (a' := ad 53) dX0_isWrong_71 flX0_18 rfl rfl rfl rfl rfl ?_
          refine wp_iload_n dX0_isWrong_74 3 rfl ?_
          obtain ⟨g75, h⟩ := o_grd h
          refine wp_iald (k := 53) dX0_isWrong_75 rfl rfl (inb_of g75) ?_
          refine wp_aload_n dX0_isWrong_76 0 rfl ?_
          refine wp_getR (k := 50) (a' := ad 53) dX0_isWrong_77 flX0_18 rfl rfl rfl rfl rfl ?_
          refine wp_iload_n dX0_isWrong_80 1 rfl ?_
          obtain ⟨g81, h⟩ := o_grd h
          refine wp_iald (k := 53) dX0_isWrong_81 rfl rfl (inb_of g81) ?_
          refine wp_icmp_ne 87 dX0_isWrong_82 rfl (fun c82 => ?_) (fun c82 => ?_)
          · replace h := o_neg h c82
            refine wp_iload_n dX0_isWrong_87 2 rfl ?_
            refine wp_aload_n dX0_isWrong_88 0 rfl ?_
            refine wp_getR (k := 50) (a' := ad 54) dX0_isWrong_89 flX0_21 rfl rfl rfl rfl rfl ?_
            refine wp_iload_n dX0_isWrong_92 3 rfl ?_
            obtain ⟨g93, h⟩ := o_grd h
            refine wp_iald (k := 54) dX0_isWrong_93 rfl rfl (inb_of g93) ?_
            refine wp_iadd dX0_isWrong_94 ?_
            refine wp_istore_n (lv' := [(0, _), (1, _), (2, _), (3, _)]) dX0_isWrong_95 rfl rfl rfl rfl ?_
            refine wp_iinc (v := v3 + 1) (lv' := [(0, _), (1, _), (2, _), (3, _)]) dX0_isWrong_96 3 rfl rfl rfl rfl rfl ?_
            refine wp_goto 27 dX0_isWrong_99 rfl ?_
            refine wp_pick [0, 1, 2, 3] (lv' := [(0, _), (1, _), (2, _), (3, _)]) rfl ?_
            exact ih v1 (v2 + (I 54 v3.toNatClampNeg)) (v3 + 1) I J r h
          · replace h := o_pos h c82
            refine wp_iconst (v := 1) dX0_isWrong_85 (by decide) ?_
            obtain rfl := Option.some.inj h
            exact wp_ireturn (ty := .boolean) dX0_isWrong_86 rfl rfl ⟨rfl, rfl, rfl, rfl⟩
set_option maxRecDepth 100000 in
set_option maxHeartbeats 4000000 in
theorem c_X0_isWrong (Γ : GT) (ad : Nat → Nat) (a1 : Int32) (I : IT) (J : JT) (r : Int32) (h : f_X0_isWrong a1 I = some r) : CALL Γ mX0_isWrong (0, 0) [.ref (ad 50), .int a1] (DX ad) I J (QE (some (.int r)) (DX ad) I J) := by
  refine call_of' (by decide) (Nat.le_of_ble_eq_true rfl) (lv0 := [(0, .ref (ad 50)), (1, .int a1)]) rfl ?_
  unfold f_X0_isWrong at h
  refine wp_iload_n dX0_isWrong_0 1 rfl ?_
  refine wp_if_le 23 dX0_isWrong_1 rfl (fun c1 => ?_) (fun c1 => ?_)
  · replace h := o_pos h c1
    refine wp_iconst (v := 0) dX0_isWrong_23 (by decide) ?_
    refine wp_istore_n (lv' := [(0, _), (1, _), (2, _)]) dX0_isWrong_24 rfl rfl rfl rfl ?_
    refine wp_iconst (v := 0) dX0_isWrong_25 (by decide) ?_
    refine wp_istore_n (lv' := [(0, _), (1, _), (2, _), (3, _)]) dX0_isWrong_26 rfl rfl rfl rfl ?_
    refine wp_pick [0, 1, 2, 3] (lv' := [(0, _), (1, _), (2, _), (3, _)]) rfl ?_
    exact w_X0_isWrong_27 Γ ad FU a1 0 0 I J r h
  · replace h := o_neg h c1
    refine wp_aload_n dX0_isWrong_4 0 rfl ?_
    refine wp_getR (k := 50) (a' := ad 51) dX0_isWrong_5 flX0_9 rfl rfl rfl rfl rfl ?_
    refine wp_iload_n dX0_isWrong_8 1 rfl ?_
    obtain ⟨g9, h⟩ := o_grd h
    refine wp_iald (k := 51) dX0_isWrong_9 rfl rfl (inb_of g9) ?_
    refine wp_aload_n dX0_isWrong_10 0 rfl ?_
    refine wp_getR (k := 50) (a' := ad 51) dX0_isWrong_11 flX0_9 rfl rfl rfl rfl rfl ?_
    refine wp_iload_n dX0_isWrong_14 1 rfl ?_
    refine wp_iconst (v := 1) dX0_isWrong_15 (by decide) ?_
    refine wp_isub dX0_isWrong_16 ?_
    obtain ⟨g17, h⟩ := o_grd h
    refine wp_iald (k := 51) dX0_isWrong_17 rfl rfl (inb_of g17) ?_
    refine wp_icmp_ge 23 dX0_isWrong_18 rfl (fun c18 => ?_) (fun c18 => ?_)
    · replace h := o_pos h c18
      refine wp_iconst (v := 0) dX0_isWrong_23 (by decide) ?_
      refine wp_istore_n (lv' := [(0, _), (1, _), (2, _)]) dX0_isWrong_24 rfl rfl rfl rfl ?_
      refine wp_iconst (v := 0) dX0_isWrong_25 (by decide) ?_
      refine wp_istore_n (lv' := [(0, _), (1, _), (2, _), (3, _)]) dX0_isWrong_26 rfl rfl rfl rfl ?_
      refine wp_pick [0, 1, 2, 3] (lv' := [(0, _), (1, _), (2, _), (3, _)]) rfl ?_
      exact w_X0_isWrong_27 Γ ad FU a1 0 0 I J r h
    · replace h := o_neg h c18
      refine wp_iconst (v := 1) dX0_isWrong_21 (by decide) ?_
      obtain rfl := Option.some.inj h
      exact wp_ireturn (ty := .boolean) dX0_isWrong_22 rfl rfl ⟨rfl, rfl, rfl, rfl⟩
def f_X0_firstWrong_2 : Nat → Int32 → IT → Option (Int32)
  | 0, _, _ => none
  | n + 1, v1, I =>
    if (I 50 1) ≤ v1 then
      some (-1)
    else
      if (30 : Int32) ≤ v1 then
        some (-1)
      else
        (f_X0_isWrong v1 I).bind fun r18 =>
        if r18 = 0 then
          f_X0_firstWrong_2 n (v1 + 1) I
        else
          some v1
def f_X0_firstWrong (I : IT) : Option (Int32) :=
  f_X0_firstWrong_2 FU 0 I
set_option maxRecDepth 100000 in
set_option maxHeartbeats 4000000 in
theorem w_X0_firstWrong_2 (Γ : GT) (ad : Nat → Nat) : ∀ (n : Nat) (v1 : Int32) (I : IT) (J : JT) (r : Int32), f_X0_firstWrong_2 n v1 I = some r → WP Γ mX0_firstWrong (0, 0) 2 [(0, .ref (ad 50)), (1, .int v1)] [] (DX ad) I J (QE (some (.int r)) (DX ad) I J) := by
  intro n
  induction n with
  | zero => intro v1 I J r h; exact absurd h (by simp [f_X0_firstWrong_2])
  | succ n ih =>
    intro v1 I J r h
    rw [f_X0_firstWrong_2] at h
    refine wp_iload_n dX0_firstWrong_2 1 rfl ?_
    refine wp_aload_n dX0_firstWrong_3 0 rfl ?_
    refine wp_getI (k := 50) dX0_firstWrong_4 flX0_28 rfl rfl rfl rfl ?_
    refine wp_icmp_ge 32 dX0_firstWrong_7 rfl (fun c7 => ?_) (fun c7 => ?_)
    · replace h := o_pos h c7
      refine wp_iconst (v := (-1)) dX0_firstWrong_32 (by decide) ?_
      obtain rfl := Option.some.inj h
      exact wp_ireturn (ty := .int) dX0_firstWrong_33 rfl rfl ⟨rfl, rfl, rfl, rfl⟩
    · replace h := o_neg h c7
      refine wp_iload_n dX0_firstWrong_10 1 rfl ?_
      refine wp_bipush (v := 30) dX0_firstWrong_11 (by decide) ?_
      refine wp_icmp_ge 32 dX0_firstWrong_13 rfl (fun c13 => ?_) (fun c13 => ?_)
      · replace h := o_pos h c13
        refine wp_iconst (v := (-1)) dX0_firstWrong_32 (by decide) ?_
        obtain rfl := Option.some.inj h
        exact wp_ireturn (ty := .int) dX0_firstWrong_33 rfl rfl ⟨rfl, rfl, rfl, rfl⟩
      · replace h := o_neg h c13
        refine wp_aload_n dX0_firstWrong_16 0 rfl ?_
        refine wp_iload_n dX0_firstWrong_17 1 rfl ?_
        obtain ⟨r18, h18, h⟩ := o_bind h
        refine wp_callvI (k := 50) (ci := 0) (c_X0_isWrong Γ ad v1 I J r18 h18) dX0_firstWrong_18 mlX0_32 mwX0_isWrong miX0_isWrong rfl rfl rfl rfl (Nat.le_of_ble_eq_true rfl) rfl (by decide) (by decide) ?_
        refine wp_if_eq 26 dX0_firstWrong_21 rfl (fun c21 => ?_) (fun c21 => ?_)
        · replace h := o_pos h c21
          refine wp_iinc (v := v1 + 1) (lv' := [(0, _), (1, _)]) dX0_firstWrong_26 1 rfl rfl rfl rfl rfl ?_
          refine wp_goto 2 dX0_firstWrong_29 rfl ?_
          refine wp_pick [0, 1] (lv' := [(0, _), (1, _)]) rfl ?_
          exact ih (v1 + 1) I J r h
        · replace h := o_neg h c21
          refine wp_iload_n dX0_firstWrong_24 1 rfl ?_
          obtain rfl := Option.some.inj h
          exact wp_ireturn (ty := .int) dX0_firstWrong_25 rfl rfl ⟨rfl, rfl, rfl, rfl⟩
set_option maxRecDepth 100000 in
set_option maxHeartbeats 4000000 in
theorem c_X0_firstWrong (Γ : GT) (ad : Nat → Nat) (I : IT) (J : JT) (r : Int32) (h : f_X0_firstWrong I = some r) : CALL Γ mX0_firstWrong (0, 0) [.ref (ad 50)] (DX ad) I J (QE (some (.int r)) (DX ad) I J) := by
  refine call_of' (by decide) (Nat.le_of_ble_eq_true rfl) (lv0 := [(0, .ref (ad 50))]) rfl ?_
  unfold f_X0_firstWrong at h
  refine wp_iconst (v := 0) dX0_firstWrong_0 (by decide) ?_
  refine wp_istore_n (lv' := [(0, _), (1, _)]) dX0_firstWrong_1 rfl rfl rfl rfl ?_
  refine wp_pick [0, 1] (lv' := [(0, _), (1, _)]) rfl ?_
  exact w_X0_firstWrong_2 Γ ad FU 0 I J r h
def f_X9_judge (I : IT) : Option (Int32) :=
  (f_X0_firstWrong I).bind fun r4 =>
  some r4
set_option maxRecDepth 100000 in
set_option maxHeartbeats 4000000 in
theorem c_X9_judge (Γ : GT) (ad : Nat → Nat) (I : IT) (J : JT) (r : Int32) (h : f_X9_judge I = some r) : CALL Γ mX9_judge (0, 0) [.ref (ad 0)] (DX ad) I J (QE (some (.int r)) (DX ad) I J) := by
  refine call_of' (by decide) (Nat.le_of_ble_eq_true rfl) (lv0 := [(0, .ref (ad 0))]) rfl ?_
  unfold f_X9_judge at h
  refine wp_aload_n dX9_judge_0 0 rfl ?_
  refine wp_getR (k := 0) (a' := ad 50) dX9_judge_1 flX9_82 rfl rfl rfl rfl rfl ?_
  obtain ⟨r4, h4, h⟩ := o_bind h
  refine wp_callvI (k := 50) (ci := 0) (c_X0_firstWrong Γ ad I J r4 h4) dX9_judge_4 mlX9_310 mwX0_firstWrong miX0_firstWrong rfl rfl rfl rfl (Nat.le_of_ble_eq_true rfl) rfl (by decide) (by decide) ?_
  obtain rfl := Option.some.inj h
  exact wp_ireturn (ty := .int) dX9_judge_7 rfl rfl ⟨rfl, rfl, rfl, rfl⟩
def f_X9_seed (a1 : Int32) (I : IT) : Option (Int32 × IT) :=
  if 0 ≤ a1 then
    some (I 12 2, upI I 12 2 a1)
  else
    some ((-1000002), I)
set_option maxRecDepth 100000 in
set_option maxHeartbeats 4000000 in
theorem c_X9_seed (Γ : GT) (ad : Nat → Nat) (a1 : Int32) (I : IT) (J : JT) (r : Int32 × IT) (h : f_X9_seed a1 I = some r) : CALL Γ mX9_seed (0, 0) [.ref (ad 0), .int a1] (DX ad) I J (QE (some (.int r.1)) (DX ad) r.2 J) := by
  refine call_of' (by decide) (Nat.le_of_ble_eq_true rfl) (lv0 := [(0, .ref (ad 0)), (1, .int a1)]) rfl ?_
  unfold f_X9_seed at h
  refine wp_iload_n dX9_seed_0 1 rfl ?_
  refine wp_if_ge 7 dX9_seed_1 rfl (fun c1 => ?_) (fun c1 => ?_)
  · replace h := o_pos h c1
    refine wp_aload_n dX9_seed_7 0 rfl ?_
    refine wp_getR (k := 0) (a' := ad 12) dX9_seed_8 flX9_37 rfl rfl rfl rfl rfl ?_
    refine wp_getI (k := 12) dX9_seed_11 flX9_313 rfl rfl rfl rfl ?_
    refine wp_istore_n (lv' := [(0, _), (1, _), (2, _)]) dX9_seed_14 rfl rfl rfl rfl ?_
    refine wp_aload_n dX9_seed_15 0 rfl ?_
    refine wp_getR (k := 0) (a' := ad 12) dX9_seed_16 flX9_37 rfl rfl rfl rfl rfl ?_
    refine wp_iload_n dX9_seed_19 1 rfl ?_
    refine wp_putI (k := 12) dX9_seed_20 flX9_313 rfl rfl rfl rfl rfl rfl rfl rfl ?_
    refine wp_iload_n dX9_seed_23 2 rfl ?_
    obtain rfl := Option.some.inj h
    exact wp_ireturn (ty := .int) dX9_seed_24 rfl rfl ⟨rfl, rfl, rfl, rfl⟩
  · replace h := o_neg h c1
    refine wp_ldc (v := (-1000002)) dX9_seed_4 kcX9_94 ?_
    obtain rfl := Option.some.inj h
    exact wp_ireturn (ty := .int) dX9_seed_6 rfl rfl ⟨rfl, rfl, rfl, rfl⟩
def f_X1_become_20_12 (I : IT) : Option (IT) :=
  (some (upF (upI (upI I 20 1 (I 12 1)) 20 2 ((upI I 20 1 (I 12 1)) 12 2)) 21 (va_cpy ((upI (upI I 20 1 (I 12 1)) 20 2 ((upI I 20 1 (I 12 1)) 12 2)) 13) ((upI (upI I 20 1 (I 12 1)) 20 2 ((upI I 20 1 (I 12 1)) 12 2)) 21) (0 : Int32).toNatClampNeg (0 : Int32).toNatClampNeg (14 : Int32).toNatClampNeg))).bind fun i28 =>
  (some (upF i28 22 (va_cpy (i28 14) (i28 22) (0 : Int32).toNatClampNeg (0 : Int32).toNatClampNeg (84 : Int32).toNatClampNeg))).bind fun i43 =>
  (some (upF i43 23 (va_cpy (i43 15) (i43 23) (0 : Int32).toNatClampNeg (0 : Int32).toNatClampNeg (84 : Int32).toNatClampNeg))).bind fun i58 =>
  (some (upF i58 24 (va_cpy (i58 16) (i58 24) (0 : Int32).toNatClampNeg (0 : Int32).toNatClampNeg (6 : Int32).toNatClampNeg))).bind fun i73 =>
  (some (upF i73 25 (va_cpy (i73 17) (i73 25) (0 : Int32).toNatClampNeg (0 : Int32).toNatClampNeg (6 : Int32).toNatClampNeg))).bind fun i88 =>
  (some (upF i88 26 (va_cpy (i88 18) (i88 26) (0 : Int32).toNatClampNeg (0 : Int32).toNatClampNeg (14 : Int32).toNatClampNeg))).bind fun i103 =>
  some i103
set_option maxRecDepth 100000 in
set_option maxHeartbeats 4000000 in
theorem c_X1_become_20_12 (Γ : GT) (ad : Nat → Nat) (I : IT) (J : JT) (r : IT) (h : f_X1_become_20_12 I = some r) : CALL Γ mX1_become (0, 0) [.ref (ad 20), .ref (ad 12)] (DX ad) I J (QE none (DX ad) r J) := by
  refine call_of' (by decide) (Nat.le_of_ble_eq_true rfl) (lv0 := [(0, .ref (ad 20)), (1, .ref (ad 12))]) rfl ?_
  unfold f_X1_become_20_12 at h
  refine wp_aload_n dX1_become_0 0 rfl ?_
  refine wp_aload_n dX1_become_1 1 rfl ?_
  refine wp_getI (k := 12) dX1_become_2 flX1_37 rfl rfl rfl rfl ?_
  refine wp_putI (k := 20) dX1_become_5 flX1_37 rfl rfl rfl rfl rfl rfl rfl rfl ?_
  refine wp_aload_n dX1_become_8 0 rfl ?_
  refine wp_aload_n dX1_become_9 1 rfl ?_
  refine wp_getI (k := 12) dX1_become_10 flX1_47 rfl rfl rfl rfl ?_
  refine wp_putI (k := 20) dX1_become_13 flX1_47 rfl rfl rfl rfl rfl rfl rfl rfl ?_
  refine wp_aload_n dX1_become_16 1 rfl ?_
  refine wp_getR (k := 12) (a' := ad 13) dX1_become_17 flX1_9 rfl rfl rfl rfl rfl ?_
  refine wp_iconst (v := 0) dX1_become_20 (by decide) ?_
  refine wp_aload_n dX1_become_21 0 rfl ?_
  refine wp_getR (k := 20) (a' := ad 21) dX1_become_22 flX1_9 rfl rfl rfl rfl rfl ?_
  refine wp_iconst (v := 0) dX1_become_25 (by decide) ?_
  refine wp_bipush (v := 14) dX1_become_26 (by decide) ?_
  refine wp_copyi (k0 := 13) (k1 := 21) dX1_become_28 mlX1_50 rfl rfl rfl rfl (by decide) (by decide) (by decide) (by decide) (by decide) (by decide) (Nat.le_of_ble_eq_true rfl) ?_
  obtain ⟨i28, e28, h⟩ := o_bind h
  refine wp_stI (Option.some.inj e28) ?_
  refine wp_aload_n dX1_become_31 1 rfl ?_
  refine wp_getR (k := 12) (a' := ad 14) dX1_become_32 flX1_15 rfl rfl rfl rfl rfl ?_
  refine wp_iconst (v := 0) dX1_become_35 (by decide) ?_
  refine wp_aload_n dX1_become_36 0 rfl ?_
  refine wp_getR (k := 20) (a' := ad 22) dX1_become_37 flX1_15 rfl rfl rfl rfl rfl ?_
  refine wp_iconst (v := 0) dX1_become_40 (by decide) ?_
  refine wp_bipush (v := 84) dX1_become_41 (by decide) ?_
  refine wp_copyi (k0 := 14) (k1 := 22) dX1_become_43 mlX1_50 rfl rfl rfl rfl (by decide) (by decide) (by decide) (by decide) (by decide) (by decide) (Nat.le_of_ble_eq_true rfl) ?_
  obtain ⟨i43, e43, h⟩ := o_bind h
  refine wp_stI (Option.some.inj e43) ?_
  refine wp_aload_n dX1_become_46 1 rfl ?_
  refine wp_getR (k := 12) (a' := ad 15) dX1_become_47 flX1_18 rfl rfl rfl rfl rfl ?_
  refine wp_iconst (v := 0) dX1_become_50 (by decide) ?_
  refine wp_aload_n dX1_become_51 0 rfl ?_
  refine wp_getR (k := 20) (a' := ad 23) dX1_become_52 flX1_18 rfl rfl rfl rfl rfl ?_
  refine wp_iconst (v := 0) dX1_become_55 (by decide) ?_
  refine wp_bipush (v := 84) dX1_become_56 (by decide) ?_
  refine wp_copyi (k0 := 15) (k1 := 23) dX1_become_58 mlX1_50 rfl rfl rfl rfl (by decide) (by decide) (by decide) (by decide) (by decide) (by decide) (Nat.le_of_ble_eq_true rfl) ?_
  obtain ⟨i58, e58, h⟩ := o_bind h
  refine wp_stI (Option.some.inj e58) ?_
  refine wp_aload_n dX1_become_61 1 rfl ?_
  refine wp_getR (k := 12) (a' := ad 16) dX1_become_62 flX1_21 rfl rfl rfl rfl rfl ?_
  refine wp_iconst (v := 0) dX1_become_65 (by decide) ?_
  refine wp_aload_n dX1_become_66 0 rfl ?_
  refine wp_getR (k := 20) (a' := ad 24) dX1_become_67 flX1_21 rfl rfl rfl rfl rfl ?_
  refine wp_iconst (v := 0) dX1_become_70 (by decide) ?_
  refine wp_bipush (v := 6) dX1_become_71 (by decide) ?_
  refine wp_copyi (k0 := 16) (k1 := 24) dX1_become_73 mlX1_50 rfl rfl rfl rfl (by decide) (by decide) (by decide) (by decide) (by decide) (by decide) (Nat.le_of_ble_eq_true rfl) ?_
  obtain ⟨i73, e73, h⟩ := o_bind h
  refine wp_stI (Option.some.inj e73) ?_
  refine wp_aload_n dX1_become_76 1 rfl ?_
  refine wp_getR (k := 12) (a' := ad 17) dX1_become_77 flX1_24 rfl rfl rfl rfl rfl ?_
  refine wp_iconst (v := 0) dX1_become_80 (by decide) ?_
  refine wp_aload_n dX1_become_81 0 rfl ?_
  refine wp_getR (k := 20) (a' := ad 25) dX1_become_82 flX1_24 rfl rfl rfl rfl rfl ?_
  refine wp_iconst (v := 0) dX1_become_85 (by decide) ?_
  refine wp_bipush (v := 6) dX1_become_86 (by decide) ?_
  refine wp_copyi (k0 := 17) (k1 := 25) dX1_become_88 mlX1_50 rfl rfl rfl rfl (by decide) (by decide) (by decide) (by decide) (by decide) (by decide) (Nat.le_of_ble_eq_true rfl) ?_
  obtain ⟨i88, e88, h⟩ := o_bind h
  refine wp_stI (Option.some.inj e88) ?_
  refine wp_aload_n dX1_become_91 1 rfl ?_
  refine wp_getR (k := 12) (a' := ad 18) dX1_become_92 flX1_27 rfl rfl rfl rfl rfl ?_
  refine wp_iconst (v := 0) dX1_become_95 (by decide) ?_
  refine wp_aload_n dX1_become_96 0 rfl ?_
  refine wp_getR (k := 20) (a' := ad 26) dX1_become_97 flX1_27 rfl rfl rfl rfl rfl ?_
  refine wp_iconst (v := 0) dX1_become_100 (by decide) ?_
  refine wp_bipush (v := 14) dX1_become_101 (by decide) ?_
  refine wp_copyi (k0 := 18) (k1 := 26) dX1_become_103 mlX1_50 rfl rfl rfl rfl (by decide) (by decide) (by decide) (by decide) (by decide) (by decide) (Nat.le_of_ble_eq_true rfl) ?_
  obtain ⟨i103, e103, h⟩ := o_bind h
  refine wp_stI (Option.some.inj e103) ?_
  obtain rfl := Option.some.inj h
  exact wp_return dX1_become_106 rfl ⟨rfl, rfl, rfl, rfl⟩
def f_X1_become_27_12 (I : IT) : Option (IT) :=
  (some (upF (upI (upI I 27 1 (I 12 1)) 27 2 ((upI I 27 1 (I 12 1)) 12 2)) 28 (va_cpy ((upI (upI I 27 1 (I 12 1)) 27 2 ((upI I 27 1 (I 12 1)) 12 2)) 13) ((upI (upI I 27 1 (I 12 1)) 27 2 ((upI I 27 1 (I 12 1)) 12 2)) 28) (0 : Int32).toNatClampNeg (0 : Int32).toNatClampNeg (14 : Int32).toNatClampNeg))).bind fun i28 =>
  (some (upF i28 29 (va_cpy (i28 14) (i28 29) (0 : Int32).toNatClampNeg (0 : Int32).toNatClampNeg (84 : Int32).toNatClampNeg))).bind fun i43 =>
  (some (upF i43 30 (va_cpy (i43 15) (i43 30) (0 : Int32).toNatClampNeg (0 : Int32).toNatClampNeg (84 : Int32).toNatClampNeg))).bind fun i58 =>
  (some (upF i58 31 (va_cpy (i58 16) (i58 31) (0 : Int32).toNatClampNeg (0 : Int32).toNatClampNeg (6 : Int32).toNatClampNeg))).bind fun i73 =>
  (some (upF i73 32 (va_cpy (i73 17) (i73 32) (0 : Int32).toNatClampNeg (0 : Int32).toNatClampNeg (6 : Int32).toNatClampNeg))).bind fun i88 =>
  (some (upF i88 33 (va_cpy (i88 18) (i88 33) (0 : Int32).toNatClampNeg (0 : Int32).toNatClampNeg (14 : Int32).toNatClampNeg))).bind fun i103 =>
  some i103
set_option maxRecDepth 100000 in
set_option maxHeartbeats 4000000 in
theorem c_X1_become_27_12 (Γ : GT) (ad : Nat → Nat) (I : IT) (J : JT) (r : IT) (h : f_X1_become_27_12 I = some r) : CALL Γ mX1_become (0, 0) [.ref (ad 27), .ref (ad 12)] (DX ad) I J (QE none (DX ad) r J) := by
  refine call_of' (by decide) (Nat.le_of_ble_eq_true rfl) (lv0 := [(0, .ref (ad 27)), (1, .ref (ad 12))]) rfl ?_
  unfold f_X1_become_27_12 at h
  refine wp_aload_n dX1_become_0 0 rfl ?_
  refine wp_aload_n dX1_become_1 1 rfl ?_
  refine wp_getI (k := 12) dX1_become_2 flX1_37 rfl rfl rfl rfl ?_
  refine wp_putI (k := 27) dX1_become_5 flX1_37 rfl rfl rfl rfl rfl rfl rfl rfl ?_
  refine wp_aload_n dX1_become_8 0 rfl ?_
  refine wp_aload_n dX1_become_9 1 rfl ?_
  refine wp_getI (k := 12) dX1_become_10 flX1_47 rfl rfl rfl rfl ?_
  refine wp_putI (k := 27) dX1_become_13 flX1_47 rfl rfl rfl rfl rfl rfl rfl rfl ?_
  refine wp_aload_n dX1_become_16 1 rfl ?_
  refine wp_getR (k := 12) (a' := ad 13) dX1_become_17 flX1_9 rfl rfl rfl rfl rfl ?_
  refine wp_iconst (v := 0) dX1_become_20 (by decide) ?_
  refine wp_aload_n dX1_become_21 0 rfl ?_
  refine wp_getR (k := 27) (a' := ad 28) dX1_become_22 flX1_9 rfl rfl rfl rfl rfl ?_
  refine wp_iconst (v := 0) dX1_become_25 (by decide) ?_
  refine wp_bipush (v := 14) dX1_become_26 (by decide) ?_
  refine wp_copyi (k0 := 13) (k1 := 28) dX1_become_28 mlX1_50 rfl rfl rfl rfl (by decide) (by decide) (by decide) (by decide) (by decide) (by decide) (Nat.le_of_ble_eq_true rfl) ?_
  obtain ⟨i28, e28, h⟩ := o_bind h
  refine wp_stI (Option.some.inj e28) ?_
  refine wp_aload_n dX1_become_31 1 rfl ?_
  refine wp_getR (k := 12) (a' := ad 14) dX1_become_32 flX1_15 rfl rfl rfl rfl rfl ?_
  refine wp_iconst (v := 0) dX1_become_35 (by decide) ?_
  refine wp_aload_n dX1_become_36 0 rfl ?_
  refine wp_getR (k := 27) (a' := ad 29) dX1_become_37 flX1_15 rfl rfl rfl rfl rfl ?_
  refine wp_iconst (v := 0) dX1_become_40 (by decide) ?_
  refine wp_bipush (v := 84) dX1_become_41 (by decide) ?_
  refine wp_copyi (k0 := 14) (k1 := 29) dX1_become_43 mlX1_50 rfl rfl rfl rfl (by decide) (by decide) (by decide) (by decide) (by decide) (by decide) (Nat.le_of_ble_eq_true rfl) ?_
  obtain ⟨i43, e43, h⟩ := o_bind h
  refine wp_stI (Option.some.inj e43) ?_
  refine wp_aload_n dX1_become_46 1 rfl ?_
  refine wp_getR (k := 12) (a' := ad 15) dX1_become_47 flX1_18 rfl rfl rfl rfl rfl ?_
  refine wp_iconst (v := 0) dX1_become_50 (by decide) ?_
  refine wp_aload_n dX1_become_51 0 rfl ?_
  refine wp_getR (k := 27) (a' := ad 30) dX1_become_52 flX1_18 rfl rfl rfl rfl rfl ?_
  refine wp_iconst (v := 0) dX1_become_55 (by decide) ?_
  refine wp_bipush (v := 84) dX1_become_56 (by decide) ?_
  refine wp_copyi (k0 := 15) (k1 := 30) dX1_become_58 mlX1_50 rfl rfl rfl rfl (by decide) (by decide) (by decide) (by decide) (by decide) (by decide) (Nat.le_of_ble_eq_true rfl) ?_
  obtain ⟨i58, e58, h⟩ := o_bind h
  refine wp_stI (Option.some.inj e58) ?_
  refine wp_aload_n dX1_become_61 1 rfl ?_
  refine wp_getR (k := 12) (a' := ad 16) dX1_become_62 flX1_21 rfl rfl rfl rfl rfl ?_
  refine wp_iconst (v := 0) dX1_become_65 (by decide) ?_
  refine wp_aload_n dX1_become_66 0 rfl ?_
  refine wp_getR (k := 27) (a' := ad 31) dX1_become_67 flX1_21 rfl rfl rfl rfl rfl ?_
  refine wp_iconst (v := 0) dX1_become_70 (by decide) ?_
  refine wp_bipush (v := 6) dX1_become_71 (by decide) ?_
  refine wp_copyi (k0 := 16) (k1 := 31) dX1_become_73 mlX1_50 rfl rfl rfl rfl (by decide) (by decide) (by decide) (by decide) (by decide) (by decide) (Nat.le_of_ble_eq_true rfl) ?_
  obtain ⟨i73, e73, h⟩ := o_bind h
  refine wp_stI (Option.some.inj e73) ?_
  refine wp_aload_n dX1_become_76 1 rfl ?_
  refine wp_getR (k := 12) (a' := ad 17) dX1_become_77 flX1_24 rfl rfl rfl rfl rfl ?_
  refine wp_iconst (v := 0) dX1_become_80 (by decide) ?_
  refine wp_aload_n dX1_become_81 0 rfl ?_
  refine wp_getR (k := 27) (a' := ad 32) dX1_become_82 flX1_24 rfl rfl rfl rfl rfl ?_
  refine wp_iconst (v := 0) dX1_become_85 (by decide) ?_
  refine wp_bipush (v := 6) dX1_become_86 (by decide) ?_
  refine wp_copyi (k0 := 17) (k1 := 32) dX1_become_88 mlX1_50 rfl rfl rfl rfl (by decide) (by decide) (by decide) (by decide) (by decide) (by decide) (Nat.le_of_ble_eq_true rfl) ?_
  obtain ⟨i88, e88, h⟩ := o_bind h
  refine wp_stI (Option.some.inj e88) ?_
  refine wp_aload_n dX1_become_91 1 rfl ?_
  refine wp_getR (k := 12) (a' := ad 18) dX1_become_92 flX1_27 rfl rfl rfl rfl rfl ?_
  refine wp_iconst (v := 0) dX1_become_95 (by decide) ?_
  refine wp_aload_n dX1_become_96 0 rfl ?_
  refine wp_getR (k := 27) (a' := ad 33) dX1_become_97 flX1_27 rfl rfl rfl rfl rfl ?_
  refine wp_iconst (v := 0) dX1_become_100 (by decide) ?_
  refine wp_bipush (v := 14) dX1_become_101 (by decide) ?_
  refine wp_copyi (k0 := 18) (k1 := 33) dX1_become_103 mlX1_50 rfl rfl rfl rfl (by decide) (by decide) (by decide) (by decide) (by decide) (by decide) (Nat.le_of_ble_eq_true rfl) ?_
  obtain ⟨i103, e103, h⟩ := o_bind h
  refine wp_stI (Option.some.inj e103) ?_
  obtain rfl := Option.some.inj h
  exact wp_return dX1_become_106 rfl ⟨rfl, rfl, rfl, rfl⟩
def f_X9_keep (a1 : Int32) (I : IT) : Option (Int32 × IT) :=
  (f_X9_isWithin a1 0 1).bind fun r3 =>
  if r3 = 0 then
    some ((-1000001), I)
  else
    if inbB a1 2 = true then
      if a1.toNatClampNeg = 0 then
        (f_X1_become_20_12 I).bind fun r22 =>
        if inbB a1 2 = true then
          some (1, upI r22 34 a1.toNatClampNeg (vp_nar .boolean 1))
        else none
      else
        (f_X1_become_27_12 I).bind fun r22 =>
        if inbB a1 2 = true then
          some (1, upI r22 34 a1.toNatClampNeg (vp_nar .boolean 1))
        else none
    else none
set_option maxRecDepth 100000 in
set_option maxHeartbeats 4000000 in
theorem c_X9_keep (Γ : GT) (ad : Nat → Nat) (a1 : Int32) (I : IT) (J : JT) (r : Int32 × IT) (h : f_X9_keep a1 I = some r) : CALL Γ mX9_keep (0, 0) [.ref (ad 0), .int a1] (DX ad) I J (QE (some (.int r.1)) (DX ad) r.2 J) := by
  refine call_of' (by decide) (Nat.le_of_ble_eq_true rfl) (lv0 := [(0, .ref (ad 0)), (1, .int a1)]) rfl ?_
  unfold f_X9_keep at h
  refine wp_iload_n dX9_keep_0 1 rfl ?_
  refine wp_iconst (v := 0) dX9_keep_1 (by decide) ?_
  refine wp_iconst (v := 1) dX9_keep_2 (by decide) ?_
  obtain ⟨r3, h3, h⟩ := o_bind h
  refine wp_callsI (c_X9_isWithin Γ ad a1 0 1 I J r3 h3) dX9_keep_3 mlX9_90 mwX9_isWithin miX9_isWithin rfl (Nat.le_of_ble_eq_true rfl) rfl (by decide) (by decide) ?_
  refine wp_if_ne 12 dX9_keep_6 rfl (fun c6 => ?_) (fun c6 => ?_)
  · replace h := o_neg h c6
    refine wp_aload_n dX9_keep_12 0 rfl ?_
    refine wp_getR (k := 0) (a' := ad 19) dX9_keep_13 flX9_41 rfl rfl rfl rfl rfl ?_
    refine wp_iload_n dX9_keep_16 1 rfl ?_
    obtain ⟨g17, h⟩ := o_grd h
    by_cases c17 : a1.toNatClampNeg = 0
    · replace h := o_pos h c17
      refine wp_aald (k := 19) (a' := ad 20) dX9_keep_17 rfl rfl (inb_of g17) (by rw [c17]; rfl) ?_
      refine wp_aload_n dX9_keep_18 0 rfl ?_
      refine wp_getR (k := 0) (a' := ad 12) dX9_keep_19 flX9_37 rfl rfl rfl rfl rfl ?_
      obtain ⟨r22, h22, h⟩ := o_bind h
      refine wp_callvV (k := 20) (ci := 1) (c_X1_become_20_12 Γ ad I J r22 h22) dX9_keep_22 mlX9_316 mwX1_become miX1_become rfl rfl rfl rfl (Nat.le_of_ble_eq_true rfl) rfl (by decide) (by decide) ?_
      refine wp_aload_n dX9_keep_25 0 rfl ?_
      refine wp_getR (k := 0) (a' := ad 34) dX9_keep_26 flX9_45 rfl rfl rfl rfl rfl ?_
      refine wp_iload_n dX9_keep_29 1 rfl ?_
      refine wp_iconst (v := 1) dX9_keep_30 (by decide) ?_
      obtain ⟨g31, h⟩ := o_grd h
      refine wp_zast (k := 34) dX9_keep_31 rfl rfl (inb_of g31) ?_
      refine wp_iconst (v := 1) dX9_keep_32 (by decide) ?_
      obtain rfl := Option.some.inj h
      exact wp_ireturn (ty := .int) dX9_keep_33 rfl rfl ⟨rfl, rfl, rfl, rfl⟩
    · replace h := o_neg h c17
      refine wp_aald (k := 19) (a' := ad 27) dX9_keep_17 rfl rfl (inb_of g17) (by rw [in2_of g17 c17]; rfl) ?_
      refine wp_aload_n dX9_keep_18 0 rfl ?_
      refine wp_getR (k := 0) (a' := ad 12) dX9_keep_19 flX9_37 rfl rfl rfl rfl rfl ?_
      obtain ⟨r22, h22, h⟩ := o_bind h
      refine wp_callvV (k := 27) (ci := 1) (c_X1_become_27_12 Γ ad I J r22 h22) dX9_keep_22 mlX9_316 mwX1_become miX1_become rfl rfl rfl rfl (Nat.le_of_ble_eq_true rfl) rfl (by decide) (by decide) ?_
      refine wp_aload_n dX9_keep_25 0 rfl ?_
      refine wp_getR (k := 0) (a' := ad 34) dX9_keep_26 flX9_45 rfl rfl rfl rfl rfl ?_
      refine wp_iload_n dX9_keep_29 1 rfl ?_
      refine wp_iconst (v := 1) dX9_keep_30 (by decide) ?_
      obtain ⟨g31, h⟩ := o_grd h
      refine wp_zast (k := 34) dX9_keep_31 rfl rfl (inb_of g31) ?_
      refine wp_iconst (v := 1) dX9_keep_32 (by decide) ?_
      obtain rfl := Option.some.inj h
      exact wp_ireturn (ty := .int) dX9_keep_33 rfl rfl ⟨rfl, rfl, rfl, rfl⟩
  · replace h := o_pos h c6
    refine wp_ldc (v := (-1000001)) dX9_keep_9 kcX9_155 ?_
    obtain rfl := Option.some.inj h
    exact wp_ireturn (ty := .int) dX9_keep_11 rfl rfl ⟨rfl, rfl, rfl, rfl⟩
def f_X1_become_20 (I : IT) : Option (IT) :=
  (some (upF (upI (upI I 12 1 (I 20 1)) 12 2 ((upI I 12 1 (I 20 1)) 20 2)) 13 (va_cpy ((upI (upI I 12 1 (I 20 1)) 12 2 ((upI I 12 1 (I 20 1)) 20 2)) 21) ((upI (upI I 12 1 (I 20 1)) 12 2 ((upI I 12 1 (I 20 1)) 20 2)) 13) (0 : Int32).toNatClampNeg (0 : Int32).toNatClampNeg (14 : Int32).toNatClampNeg))).bind fun i28 =>
  (some (upF i28 14 (va_cpy (i28 22) (i28 14) (0 : Int32).toNatClampNeg (0 : Int32).toNatClampNeg (84 : Int32).toNatClampNeg))).bind fun i43 =>
  (some (upF i43 15 (va_cpy (i43 23) (i43 15) (0 : Int32).toNatClampNeg (0 : Int32).toNatClampNeg (84 : Int32).toNatClampNeg))).bind fun i58 =>
  (some (upF i58 16 (va_cpy (i58 24) (i58 16) (0 : Int32).toNatClampNeg (0 : Int32).toNatClampNeg (6 : Int32).toNatClampNeg))).bind fun i73 =>
  (some (upF i73 17 (va_cpy (i73 25) (i73 17) (0 : Int32).toNatClampNeg (0 : Int32).toNatClampNeg (6 : Int32).toNatClampNeg))).bind fun i88 =>
  (some (upF i88 18 (va_cpy (i88 26) (i88 18) (0 : Int32).toNatClampNeg (0 : Int32).toNatClampNeg (14 : Int32).toNatClampNeg))).bind fun i103 =>
  some i103
set_option maxRecDepth 100000 in
set_option maxHeartbeats 4000000 in
theorem c_X1_become_20 (Γ : GT) (ad : Nat → Nat) (I : IT) (J : JT) (r : IT) (h : f_X1_become_20 I = some r) : CALL Γ mX1_become (0, 0) [.ref (ad 12), .ref (ad 20)] (DX ad) I J (QE none (DX ad) r J) := by
  refine call_of' (by decide) (Nat.le_of_ble_eq_true rfl) (lv0 := [(0, .ref (ad 12)), (1, .ref (ad 20))]) rfl ?_
  unfold f_X1_become_20 at h
  refine wp_aload_n dX1_become_0 0 rfl ?_
  refine wp_aload_n dX1_become_1 1 rfl ?_
  refine wp_getI (k := 20) dX1_become_2 flX1_37 rfl rfl rfl rfl ?_
  refine wp_putI (k := 12) dX1_become_5 flX1_37 rfl rfl rfl rfl rfl rfl rfl rfl ?_
  refine wp_aload_n dX1_become_8 0 rfl ?_
  refine wp_aload_n dX1_become_9 1 rfl ?_
  refine wp_getI (k := 20) dX1_become_10 flX1_47 rfl rfl rfl rfl ?_
  refine wp_putI (k := 12) dX1_become_13 flX1_47 rfl rfl rfl rfl rfl rfl rfl rfl ?_
  refine wp_aload_n dX1_become_16 1 rfl ?_
  refine wp_getR (k := 20) (a' := ad 21) dX1_become_17 flX1_9 rfl rfl rfl rfl rfl ?_
  refine wp_iconst (v := 0) dX1_become_20 (by decide) ?_
  refine wp_aload_n dX1_become_21 0 rfl ?_
  refine wp_getR (k := 12) (a' := ad 13) dX1_become_22 flX1_9 rfl rfl rfl rfl rfl ?_
  refine wp_iconst (v := 0) dX1_become_25 (by decide) ?_
  refine wp_bipush (v := 14) dX1_become_26 (by decide) ?_
  refine wp_copyi (k0 := 21) (k1 := 13) dX1_become_28 mlX1_50 rfl rfl rfl rfl (by decide) (by decide) (by decide) (by decide) (by decide) (by decide) (Nat.le_of_ble_eq_true rfl) ?_
  obtain ⟨i28, e28, h⟩ := o_bind h
  refine wp_stI (Option.some.inj e28) ?_
  refine wp_aload_n dX1_become_31 1 rfl ?_
  refine wp_getR (k := 20) (a' := ad 22) dX1_become_32 flX1_15 rfl rfl rfl rfl rfl ?_
  refine wp_iconst (v := 0) dX1_become_35 (by decide) ?_
  refine wp_aload_n dX1_become_36 0 rfl ?_
  refine wp_getR (k := 12) (a' := ad 14) dX1_become_37 flX1_15 rfl rfl rfl rfl rfl ?_
  refine wp_iconst (v := 0) dX1_become_40 (by decide) ?_
  refine wp_bipush (v := 84) dX1_become_41 (by decide) ?_
  refine wp_copyi (k0 := 22) (k1 := 14) dX1_become_43 mlX1_50 rfl rfl rfl rfl (by decide) (by decide) (by decide) (by decide) (by decide) (by decide) (Nat.le_of_ble_eq_true rfl) ?_
  obtain ⟨i43, e43, h⟩ := o_bind h
  refine wp_stI (Option.some.inj e43) ?_
  refine wp_aload_n dX1_become_46 1 rfl ?_
  refine wp_getR (k := 20) (a' := ad 23) dX1_become_47 flX1_18 rfl rfl rfl rfl rfl ?_
  refine wp_iconst (v := 0) dX1_become_50 (by decide) ?_
  refine wp_aload_n dX1_become_51 0 rfl ?_
  refine wp_getR (k := 12) (a' := ad 15) dX1_become_52 flX1_18 rfl rfl rfl rfl rfl ?_
  refine wp_iconst (v := 0) dX1_become_55 (by decide) ?_
  refine wp_bipush (v := 84) dX1_become_56 (by decide) ?_
  refine wp_copyi (k0 := 23) (k1 := 15) dX1_become_58 mlX1_50 rfl rfl rfl rfl (by decide) (by decide) (by decide) (by decide) (by decide) (by decide) (Nat.le_of_ble_eq_true rfl) ?_
  obtain ⟨i58, e58, h⟩ := o_bind h
  refine wp_stI (Option.some.inj e58) ?_
  refine wp_aload_n dX1_become_61 1 rfl ?_
  refine wp_getR (k := 20) (a' := ad 24) dX1_become_62 flX1_21 rfl rfl rfl rfl rfl ?_
  refine wp_iconst (v := 0) dX1_become_65 (by decide) ?_
  refine wp_aload_n dX1_become_66 0 rfl ?_
  refine wp_getR (k := 12) (a' := ad 16) dX1_become_67 flX1_21 rfl rfl rfl rfl rfl ?_
  refine wp_iconst (v := 0) dX1_become_70 (by decide) ?_
  refine wp_bipush (v := 6) dX1_become_71 (by decide) ?_
  refine wp_copyi (k0 := 24) (k1 := 16) dX1_become_73 mlX1_50 rfl rfl rfl rfl (by decide) (by decide) (by decide) (by decide) (by decide) (by decide) (Nat.le_of_ble_eq_true rfl) ?_
  obtain ⟨i73, e73, h⟩ := o_bind h
  refine wp_stI (Option.some.inj e73) ?_
  refine wp_aload_n dX1_become_76 1 rfl ?_
  refine wp_getR (k := 20) (a' := ad 25) dX1_become_77 flX1_24 rfl rfl rfl rfl rfl ?_
  refine wp_iconst (v := 0) dX1_become_80 (by decide) ?_
  refine wp_aload_n dX1_become_81 0 rfl ?_
  refine wp_getR (k := 12) (a' := ad 17) dX1_become_82 flX1_24 rfl rfl rfl rfl rfl ?_
  refine wp_iconst (v := 0) dX1_become_85 (by decide) ?_
  refine wp_bipush (v := 6) dX1_become_86 (by decide) ?_
  refine wp_copyi (k0 := 25) (k1 := 17) dX1_become_88 mlX1_50 rfl rfl rfl rfl (by decide) (by decide) (by decide) (by decide) (by decide) (by decide) (Nat.le_of_ble_eq_true rfl) ?_
  obtain ⟨i88, e88, h⟩ := o_bind h
  refine wp_stI (Option.some.inj e88) ?_
  refine wp_aload_n dX1_become_91 1 rfl ?_
  refine wp_getR (k := 20) (a' := ad 26) dX1_become_92 flX1_27 rfl rfl rfl rfl rfl ?_
  refine wp_iconst (v := 0) dX1_become_95 (by decide) ?_
  refine wp_aload_n dX1_become_96 0 rfl ?_
  refine wp_getR (k := 12) (a' := ad 18) dX1_become_97 flX1_27 rfl rfl rfl rfl rfl ?_
  refine wp_iconst (v := 0) dX1_become_100 (by decide) ?_
  refine wp_bipush (v := 14) dX1_become_101 (by decide) ?_
  refine wp_copyi (k0 := 26) (k1 := 18) dX1_become_103 mlX1_50 rfl rfl rfl rfl (by decide) (by decide) (by decide) (by decide) (by decide) (by decide) (Nat.le_of_ble_eq_true rfl) ?_
  obtain ⟨i103, e103, h⟩ := o_bind h
  refine wp_stI (Option.some.inj e103) ?_
  obtain rfl := Option.some.inj h
  exact wp_return dX1_become_106 rfl ⟨rfl, rfl, rfl, rfl⟩
def f_X1_become_27 (I : IT) : Option (IT) :=
  (some (upF (upI (upI I 12 1 (I 27 1)) 12 2 ((upI I 12 1 (I 27 1)) 27 2)) 13 (va_cpy ((upI (upI I 12 1 (I 27 1)) 12 2 ((upI I 12 1 (I 27 1)) 27 2)) 28) ((upI (upI I 12 1 (I 27 1)) 12 2 ((upI I 12 1 (I 27 1)) 27 2)) 13) (0 : Int32).toNatClampNeg (0 : Int32).toNatClampNeg (14 : Int32).toNatClampNeg))).bind fun i28 =>
  (some (upF i28 14 (va_cpy (i28 29) (i28 14) (0 : Int32).toNatClampNeg (0 : Int32).toNatClampNeg (84 : Int32).toNatClampNeg))).bind fun i43 =>
  (some (upF i43 15 (va_cpy (i43 30) (i43 15) (0 : Int32).toNatClampNeg (0 : Int32).toNatClampNeg (84 : Int32).toNatClampNeg))).bind fun i58 =>
  (some (upF i58 16 (va_cpy (i58 31) (i58 16) (0 : Int32).toNatClampNeg (0 : Int32).toNatClampNeg (6 : Int32).toNatClampNeg))).bind fun i73 =>
  (some (upF i73 17 (va_cpy (i73 32) (i73 17) (0 : Int32).toNatClampNeg (0 : Int32).toNatClampNeg (6 : Int32).toNatClampNeg))).bind fun i88 =>
  (some (upF i88 18 (va_cpy (i88 33) (i88 18) (0 : Int32).toNatClampNeg (0 : Int32).toNatClampNeg (14 : Int32).toNatClampNeg))).bind fun i103 =>
  some i103
set_option maxRecDepth 100000 in
set_option maxHeartbeats 4000000 in
theorem c_X1_become_27 (Γ : GT) (ad : Nat → Nat) (I : IT) (J : JT) (r : IT) (h : f_X1_become_27 I = some r) : CALL Γ mX1_become (0, 0) [.ref (ad 12), .ref (ad 27)] (DX ad) I J (QE none (DX ad) r J) := by
  refine call_of' (by decide) (Nat.le_of_ble_eq_true rfl) (lv0 := [(0, .ref (ad 12)), (1, .ref (ad 27))]) rfl ?_
  unfold f_X1_become_27 at h
  refine wp_aload_n dX1_become_0 0 rfl ?_
  refine wp_aload_n dX1_become_1 1 rfl ?_
  refine wp_getI (k := 27) dX1_become_2 flX1_37 rfl rfl rfl rfl ?_
  refine wp_putI (k := 12) dX1_become_5 flX1_37 rfl rfl rfl rfl rfl rfl rfl rfl ?_
  refine wp_aload_n dX1_become_8 0 rfl ?_
  refine wp_aload_n dX1_become_9 1 rfl ?_
  refine wp_getI (k := 27) dX1_become_10 flX1_47 rfl rfl rfl rfl ?_
  refine wp_putI (k := 12) dX1_become_13 flX1_47 rfl rfl rfl rfl rfl rfl rfl rfl ?_
  refine wp_aload_n dX1_become_16 1 rfl ?_
  refine wp_getR (k := 27) (a' := ad 28) dX1_become_17 flX1_9 rfl rfl rfl rfl rfl ?_
  refine wp_iconst (v := 0) dX1_become_20 (by decide) ?_
  refine wp_aload_n dX1_become_21 0 rfl ?_
  refine wp_getR (k := 12) (a' := ad 13) dX1_become_22 flX1_9 rfl rfl rfl rfl rfl ?_
  refine wp_iconst (v := 0) dX1_become_25 (by decide) ?_
  refine wp_bipush (v := 14) dX1_become_26 (by decide) ?_
  refine wp_copyi (k0 := 28) (k1 := 13) dX1_become_28 mlX1_50 rfl rfl rfl rfl (by decide) (by decide) (by decide) (by decide) (by decide) (by decide) (Nat.le_of_ble_eq_true rfl) ?_
  obtain ⟨i28, e28, h⟩ := o_bind h
  refine wp_stI (Option.some.inj e28) ?_
  refine wp_aload_n dX1_become_31 1 rfl ?_
  refine wp_getR (k := 27) (a' := ad 29) dX1_become_32 flX1_15 rfl rfl rfl rfl rfl ?_
  refine wp_iconst (v := 0) dX1_become_35 (by decide) ?_
  refine wp_aload_n dX1_become_36 0 rfl ?_
  refine wp_getR (k := 12) (a' := ad 14) dX1_become_37 flX1_15 rfl rfl rfl rfl rfl ?_
  refine wp_iconst (v := 0) dX1_become_40 (by decide) ?_
  refine wp_bipush (v := 84) dX1_become_41 (by decide) ?_
  refine wp_copyi (k0 := 29) (k1 := 14) dX1_become_43 mlX1_50 rfl rfl rfl rfl (by decide) (by decide) (by decide) (by decide) (by decide) (by decide) (Nat.le_of_ble_eq_true rfl) ?_
  obtain ⟨i43, e43, h⟩ := o_bind h
  refine wp_stI (Option.some.inj e43) ?_
  refine wp_aload_n dX1_become_46 1 rfl ?_
  refine wp_getR (k := 27) (a' := ad 30) dX1_become_47 flX1_18 rfl rfl rfl rfl rfl ?_
  refine wp_iconst (v := 0) dX1_become_50 (by decide) ?_
  refine wp_aload_n dX1_become_51 0 rfl ?_
  refine wp_getR (k := 12) (a' := ad 15) dX1_become_52 flX1_18 rfl rfl rfl rfl rfl ?_
  refine wp_iconst (v := 0) dX1_become_55 (by decide) ?_
  refine wp_bipush (v := 84) dX1_become_56 (by decide) ?_
  refine wp_copyi (k0 := 30) (k1 := 15) dX1_become_58 mlX1_50 rfl rfl rfl rfl (by decide) (by decide) (by decide) (by decide) (by decide) (by decide) (Nat.le_of_ble_eq_true rfl) ?_
  obtain ⟨i58, e58, h⟩ := o_bind h
  refine wp_stI (Option.some.inj e58) ?_
  refine wp_aload_n dX1_become_61 1 rfl ?_
  refine wp_getR (k := 27) (a' := ad 31) dX1_become_62 flX1_21 rfl rfl rfl rfl rfl ?_
  refine wp_iconst (v := 0) dX1_become_65 (by decide) ?_
  refine wp_aload_n dX1_become_66 0 rfl ?_
  refine wp_getR (k := 12) (a' := ad 16) dX1_become_67 flX1_21 rfl rfl rfl rfl rfl ?_
  refine wp_iconst (v := 0) dX1_become_70 (by decide) ?_
  refine wp_bipush (v := 6) dX1_become_71 (by decide) ?_
  refine wp_copyi (k0 := 31) (k1 := 16) dX1_become_73 mlX1_50 rfl rfl rfl rfl (by decide) (by decide) (by decide) (by decide) (by decide) (by decide) (Nat.le_of_ble_eq_true rfl) ?_
  obtain ⟨i73, e73, h⟩ := o_bind h
  refine wp_stI (Option.some.inj e73) ?_
  refine wp_aload_n dX1_become_76 1 rfl ?_
  refine wp_getR (k := 27) (a' := ad 32) dX1_become_77 flX1_24 rfl rfl rfl rfl rfl ?_
  refine wp_iconst (v := 0) dX1_become_80 (by decide) ?_
  refine wp_aload_n dX1_become_81 0 rfl ?_
  refine wp_getR (k := 12) (a' := ad 17) dX1_become_82 flX1_24 rfl rfl rfl rfl rfl ?_
  refine wp_iconst (v := 0) dX1_become_85 (by decide) ?_
  refine wp_bipush (v := 6) dX1_become_86 (by decide) ?_
  refine wp_copyi (k0 := 32) (k1 := 17) dX1_become_88 mlX1_50 rfl rfl rfl rfl (by decide) (by decide) (by decide) (by decide) (by decide) (by decide) (Nat.le_of_ble_eq_true rfl) ?_
  obtain ⟨i88, e88, h⟩ := o_bind h
  refine wp_stI (Option.some.inj e88) ?_
  refine wp_aload_n dX1_become_91 1 rfl ?_
  refine wp_getR (k := 27) (a' := ad 33) dX1_become_92 flX1_27 rfl rfl rfl rfl rfl ?_
  refine wp_iconst (v := 0) dX1_become_95 (by decide) ?_
  refine wp_aload_n dX1_become_96 0 rfl ?_
  refine wp_getR (k := 12) (a' := ad 18) dX1_become_97 flX1_27 rfl rfl rfl rfl rfl ?_
  refine wp_iconst (v := 0) dX1_become_100 (by decide) ?_
  refine wp_bipush (v := 14) dX1_become_101 (by decide) ?_
  refine wp_copyi (k0 := 33) (k1 := 18) dX1_become_103 mlX1_50 rfl rfl rfl rfl (by decide) (by decide) (by decide) (by decide) (by decide) (by decide) (Nat.le_of_ble_eq_true rfl) ?_
  obtain ⟨i103, e103, h⟩ := o_bind h
  refine wp_stI (Option.some.inj e103) ?_
  obtain rfl := Option.some.inj h
  exact wp_return dX1_become_106 rfl ⟨rfl, rfl, rfl, rfl⟩
def f_X9_goBack (a1 : Int32) (I : IT) : Option (Int32 × IT) :=
  (f_X9_isWithin a1 0 1).bind fun r3 =>
  if r3 = 0 then
    some ((-1000001), I)
  else
    if inbB a1 2 = true then
      if (I 34 a1.toNatClampNeg) = 0 then
        some ((-1000003), I)
      else
        if inbB a1 2 = true then
          if a1.toNatClampNeg = 0 then
            (f_X1_become_20 I).bind fun r34 =>
            some (1, r34)
          else
            (f_X1_become_27 I).bind fun r34 =>
            some (1, r34)
        else none
    else none
set_option maxRecDepth 100000 in
set_option maxHeartbeats 4000000 in
theorem c_X9_goBack (Γ : GT) (ad : Nat → Nat) (a1 : Int32) (I : IT) (J : JT) (r : Int32 × IT) (h : f_X9_goBack a1 I = some r) : CALL Γ mX9_goBack (0, 0) [.ref (ad 0), .int a1] (DX ad) I J (QE (some (.int r.1)) (DX ad) r.2 J) := by
  refine call_of' (by decide) (Nat.le_of_ble_eq_true rfl) (lv0 := [(0, .ref (ad 0)), (1, .int a1)]) rfl ?_
  unfold f_X9_goBack at h
  refine wp_iload_n dX9_goBack_0 1 rfl ?_
  refine wp_iconst (v := 0) dX9_goBack_1 (by decide) ?_
  refine wp_iconst (v := 1) dX9_goBack_2 (by decide) ?_
  obtain ⟨r3, h3, h⟩ := o_bind h
  refine wp_callsI (c_X9_isWithin Γ ad a1 0 1 I J r3 h3) dX9_goBack_3 mlX9_90 mwX9_isWithin miX9_isWithin rfl (Nat.le_of_ble_eq_true rfl) rfl (by decide) (by decide) ?_
  refine wp_if_ne 12 dX9_goBack_6 rfl (fun c6 => ?_) (fun c6 => ?_)
  · replace h := o_neg h c6
    refine wp_aload_n dX9_goBack_12 0 rfl ?_
    refine wp_getR (k := 0) (a' := ad 34) dX9_goBack_13 flX9_45 rfl rfl rfl rfl rfl ?_
    refine wp_iload_n dX9_goBack_16 1 rfl ?_
    obtain ⟨g17, h⟩ := o_grd h
    refine wp_zald (k := 34) dX9_goBack_17 rfl rfl (inb_of g17) ?_
    refine wp_if_ne 24 dX9_goBack_18 rfl (fun c18 => ?_) (fun c18 => ?_)
    · replace h := o_neg h c18
      refine wp_aload_n dX9_goBack_24 0 rfl ?_
      refine wp_getR (k := 0) (a' := ad 12) dX9_goBack_25 flX9_37 rfl rfl rfl rfl rfl ?_
      refine wp_aload_n dX9_goBack_28 0 rfl ?_
      refine wp_getR (k := 0) (a' := ad 19) dX9_goBack_29 flX9_41 rfl rfl rfl rfl rfl ?_
      refine wp_iload_n dX9_goBack_32 1 rfl ?_
      obtain ⟨g33, h⟩ := o_grd h
      by_cases c33 : a1.toNatClampNeg = 0
      · replace h := o_pos h c33
        refine wp_aald (k := 19) (a' := ad 20) dX9_goBack_33 rfl rfl (inb_of g33) (by rw [c33]; rfl) ?_
        obtain ⟨r34, h34, h⟩ := o_bind h
        refine wp_callvV (k := 12) (ci := 1) (c_X1_become_20 Γ ad I J r34 h34) dX9_goBack_34 mlX9_316 mwX1_become miX1_become rfl rfl rfl rfl (Nat.le_of_ble_eq_true rfl) rfl (by decide) (by decide) ?_
        refine wp_iconst (v := 1) dX9_goBack_37 (by decide) ?_
        obtain rfl := Option.some.inj h
        exact wp_ireturn (ty := .int) dX9_goBack_38 rfl rfl ⟨rfl, rfl, rfl, rfl⟩
      · replace h := o_neg h c33
        refine wp_aald (k := 19) (a' := ad 27) dX9_goBack_33 rfl rfl (inb_of g33) (by rw [in2_of g33 c33]; rfl) ?_
        obtain ⟨r34, h34, h⟩ := o_bind h
        refine wp_callvV (k := 12) (ci := 1) (c_X1_become_27 Γ ad I J r34 h34) dX9_goBack_34 mlX9_316 mwX1_become miX1_become rfl rfl rfl rfl (Nat.le_of_ble_eq_true rfl) rfl (by decide) (by decide) ?_
        refine wp_iconst (v := 1) dX9_goBack_37 (by decide) ?_
        obtain rfl := Option.some.inj h
        exact wp_ireturn (ty := .int) dX9_goBack_38 rfl rfl ⟨rfl, rfl, rfl, rfl⟩
    · replace h := o_pos h c18
      refine wp_ldc (v := (-1000003)) dX9_goBack_21 kcX9_207 ?_
      obtain rfl := Option.some.inj h
      exact wp_ireturn (ty := .int) dX9_goBack_23 rfl rfl ⟨rfl, rfl, rfl, rfl⟩
  · replace h := o_pos h c6
    refine wp_ldc (v := (-1000001)) dX9_goBack_9 kcX9_155 ?_
    obtain rfl := Option.some.inj h
    exact wp_ireturn (ty := .int) dX9_goBack_11 rfl rfl ⟨rfl, rfl, rfl, rfl⟩
def f_X10_in (a0 : Int64) (a2 : Int64) (a4 : Int64) : Option (Int32) :=
  if (lg_cmp a0 a2) < 0 then
    some 0
  else
    if 0 < (lg_cmp a0 a4) then
      some 0
    else
      some 1
set_option maxRecDepth 100000 in
set_option maxHeartbeats 4000000 in
theorem c_X10_in (Γ : GT) (ad : Nat → Nat) (a0 : Int64) (a2 : Int64) (a4 : Int64) (I : IT) (J : JT) (r : Int32) (h : f_X10_in a0 a2 a4 = some r) : CALL Γ mX10_in (0, 0) [.long a0, .long a2, .long a4] (DX ad) I J (QE (some (.int r)) (DX ad) I J) := by
  refine call_of' (by decide) (Nat.le_of_ble_eq_true rfl) (lv0 := [(0, .long a0), (2, .long a2), (4, .long a4)]) rfl ?_
  unfold f_X10_in at h
  refine wp_lload_n dX10_in_0 0 rfl ?_
  refine wp_lload_n dX10_in_1 1 rfl ?_
  refine wp_lcmp dX10_in_2 ?_
  refine wp_if_lt 17 dX10_in_3 rfl (fun c3 => ?_) (fun c3 => ?_)
  · replace h := o_pos h c3
    refine wp_iconst (v := 0) dX10_in_17 (by decide) ?_
    obtain rfl := Option.some.inj h
    exact wp_ireturn (ty := .boolean) dX10_in_18 rfl rfl ⟨rfl, rfl, rfl, rfl⟩
  · replace h := o_neg h c3
    refine wp_lload_n dX10_in_6 0 rfl ?_
    refine wp_lload dX10_in_7 2 rfl ?_
    refine wp_lcmp dX10_in_9 ?_
    refine wp_if_gt 17 dX10_in_10 rfl (fun c10 => ?_) (fun c10 => ?_)
    · replace h := o_pos h c10
      refine wp_iconst (v := 0) dX10_in_17 (by decide) ?_
      obtain rfl := Option.some.inj h
      exact wp_ireturn (ty := .boolean) dX10_in_18 rfl rfl ⟨rfl, rfl, rfl, rfl⟩
    · replace h := o_neg h c10
      refine wp_iconst (v := 1) dX10_in_13 (by decide) ?_
      refine wp_goto 18 dX10_in_14 rfl ?_
      obtain rfl := Option.some.inj h
      exact wp_ireturn (ty := .boolean) dX10_in_18 rfl rfl ⟨rfl, rfl, rfl, rfl⟩
def f_X10_feed_35 : Nat → Int64 → Int32 → IT → Option (Int32 × IT)
  | 0, _, _, _ => none
  | n + 1, v2, v4, I =>
    if v4 < 0 then
      some (I 55 19, I)
    else
      if inbB (I 55 19) 500 = true then
        f_X10_feed_35 n v2 (v4 + (-1)) (upI (upI I 67 ((I 55 19).toNatClampNeg) (((v2 >>> ((8 * v4).toInt64 &&& 63)) &&& 255).toInt32)) 55 19 (((upI I 67 ((I 55 19).toNatClampNeg) (((v2 >>> ((8 * v4).toInt64 &&& 63)) &&& 255).toInt32)) 55 19) + 1))
      else none
def f_X10_feed (a1 : Int32) (a2 : Int64) (I : IT) : Option (Int32 × IT) :=
  (f_X10_in a1.toInt64 1 8).bind fun r6 =>
  if r6 = 0 then
    some ((-1000002), I)
  else
    if ((I 55 19) + a1) ≤ (500 : Int32) then
      f_X10_feed_35 FU a2 (a1 - 1) I
    else
      some ((-1000004), I)
set_option maxRecDepth 100000 in
set_option maxHeartbeats 4000000 in
theorem w_X10_feed_35 (Γ : GT) (ad : Nat → Nat) : ∀ (n : Nat) (v2 : Int64) (v4 : Int32) (I : IT) (J : JT) (r : Int32 × IT), f_X10_feed_35 n v2 v4 I = some r → WP Γ mX10_feed (0, 0) 35 [(0, .ref (ad 55)), (2, .long v2), (4, .int v4)] [] (DX ad) I J (QE (some (.int r.1)) (DX ad) r.2 J) := by
  intro n
  induction n with
  | zero => intro v2 v4 I J r h; exact absurd h (by simp [f_X10_feed_35])
  | succ n ih =>
    intro v2 v4 I J r h
    rw [f_X10_feed_35] at h
    refine wp_iload dX10_feed_35 2 rfl ?_
    refine wp_if_lt 77 dX10_feed_37 rfl (fun c37 => ?_) (fun c37 => ?_)
    · replace h := o_pos h c37
      refine wp_aload_n dX10_feed_77 0 rfl ?_
      refine wp_getI (k := 55) dX10_feed_78 flX10_144 rfl rfl rfl rfl ?_
      obtain rfl := Option.some.inj h
      exact wp_ireturn (ty := .int) dX10_feed_81 rfl rfl ⟨rfl, rfl, rfl, rfl⟩
    · replace h := o_neg h c37
      refine wp_aload_n dX10_feed_40 0 rfl ?_
      refine wp_getR (k := 55) (a' := ad 67) dX10_feed_41 flX10_50 rfl rfl rfl rfl rfl ?_
      refine wp_aload_n dX10_feed_44 0 rfl ?_
      refine wp_getI (k := 55) dX10_feed_45 flX10_144 rfl rfl rfl rfl ?_
      refine wp_lload_n dX10_feed_48 1 rfl ?_
      refine wp_bipush (v := 8) dX10_feed_49 (by decide) ?_
      refine wp_iload dX10_feed_51 2 rfl ?_
      refine wp_imul dX10_feed_53 ?_
      refine wp_lshr dX10_feed_54 ?_
      refine wp_ldc2 (v := 255) dX10_feed_55 klX10_148 ?_
      refine wp_land dX10_feed_58 ?_
      refine wp_l2i dX10_feed_59 ?_
      obtain ⟨g60, h⟩ := o_grd h
      refine wp_iast (k := 67) dX10_feed_60 rfl rfl (inb_of g60) ?_
      refine wp_aload_n dX10_feed_61 0 rfl ?_
      refine wp_dup dX10_feed_62 rfl ?_
      refine wp_getI (k := 55) dX10_feed_63 flX10_144 rfl rfl rfl rfl ?_
      refine wp_iconst (v := 1) dX10_feed_66 (by decide) ?_
      refine wp_iadd dX10_feed_67 ?_
      refine wp_putI (k := 55) dX10_feed_68 flX10_144 rfl rfl rfl rfl rfl rfl rfl rfl ?_
      refine wp_iinc (v := v4 + (-1)) (lv' := [(0, _), (2, _), (4, _)]) dX10_feed_71 2 rfl rfl rfl rfl rfl ?_
      refine wp_goto 35 dX10_feed_74 rfl ?_
      refine wp_pick [0, 1, 2] (lv' := [(0, _), (2, _), (4, _)]) rfl ?_
      exact ih v2 (v4 + (-1)) (upI (upI I 67 ((I 55 19).toNatClampNeg) (((v2 >>> ((8 * v4).toInt64 &&& 63)) &&& 255).toInt32)) 55 19 (((upI I 67 ((I 55 19).toNatClampNeg) (((v2 >>> ((8 * v4).toInt64 &&& 63)) &&& 255).toInt32)) 55 19) + 1)) J r h
set_option maxRecDepth 100000 in
set_option maxHeartbeats 4000000 in
theorem c_X10_feed (Γ : GT) (ad : Nat → Nat) (a1 : Int32) (a2 : Int64) (I : IT) (J : JT) (r : Int32 × IT) (h : f_X10_feed a1 a2 I = some r) : CALL Γ mX10_feed (0, 0) [.ref (ad 55), .int a1, .long a2] (DX ad) I J (QE (some (.int r.1)) (DX ad) r.2 J) := by
  refine call_of' (by decide) (Nat.le_of_ble_eq_true rfl) (lv0 := [(0, .ref (ad 55)), (1, .int a1), (2, .long a2)]) rfl ?_
  unfold f_X10_feed at h
  refine wp_iload_n dX10_feed_0 1 rfl ?_
  refine wp_i2l dX10_feed_1 ?_
  refine wp_lconst (v := 1) dX10_feed_2 (by decide) ?_
  refine wp_ldc2 (v := 8) dX10_feed_3 klX10_141 ?_
  obtain ⟨r6, h6, h⟩ := o_bind h
  refine wp_callsI (c_X10_in Γ ad a1.toInt64 1 8 I J r6 h6) dX10_feed_6 mlX10_134 mwX10_in miX10_in rfl (Nat.le_of_ble_eq_true rfl) rfl (by decide) (by decide) ?_
  refine wp_if_ne 15 dX10_feed_9 rfl (fun c9 => ?_) (fun c9 => ?_)
  · replace h := o_neg h c9
    refine wp_aload_n dX10_feed_15 0 rfl ?_
    refine wp_getI (k := 55) dX10_feed_16 flX10_144 rfl rfl rfl rfl ?_
    refine wp_iload_n dX10_feed_19 1 rfl ?_
    refine wp_iadd dX10_feed_20 ?_
    refine wp_sipush (v := 500) dX10_feed_21 (by decide) ?_
    refine wp_icmp_le 30 dX10_feed_24 rfl (fun c24 => ?_) (fun c24 => ?_)
    · replace h := o_pos h c24
      refine wp_iload_n dX10_feed_30 1 rfl ?_
      refine wp_iconst (v := 1) dX10_feed_31 (by decide) ?_
      refine wp_isub dX10_feed_32 ?_
      refine wp_istore (lv' := [(0, _), (1, _), (2, _), (4, _)]) dX10_feed_33 rfl rfl rfl ?_
      refine wp_pick [0, 2, 3] (lv' := [(0, _), (2, _), (4, _)]) rfl ?_
      exact w_X10_feed_35 Γ ad FU a2 (a1 - 1) I J r h
    · replace h := o_neg h c24
      refine wp_ldc (v := (-1000004)) dX10_feed_27 kcX10_147 ?_
      obtain rfl := Option.some.inj h
      exact wp_ireturn (ty := .int) dX10_feed_29 rfl rfl ⟨rfl, rfl, rfl, rfl⟩
  · replace h := o_pos h c9
    refine wp_ldc (v := (-1000002)) dX10_feed_12 kcX10_143 ?_
    obtain rfl := Option.some.inj h
    exact wp_ireturn (ty := .int) dX10_feed_14 rfl rfl ⟨rfl, rfl, rfl, rfl⟩
def f_X10_persons (I : IT) : Option (Int32) :=
  some (((I 55 0) + (I 55 1)) + (I 55 2))
set_option maxRecDepth 100000 in
set_option maxHeartbeats 4000000 in
theorem c_X10_persons (Γ : GT) (ad : Nat → Nat) (I : IT) (J : JT) (r : Int32) (h : f_X10_persons I = some r) : CALL Γ mX10_persons (0, 0) [.ref (ad 55)] (DX ad) I J (QE (some (.int r)) (DX ad) I J) := by
  refine call_of' (by decide) (Nat.le_of_ble_eq_true rfl) (lv0 := [(0, .ref (ad 55))]) rfl ?_
  unfold f_X10_persons at h
  refine wp_aload_n dX10_persons_0 0 rfl ?_
  refine wp_getI (k := 55) dX10_persons_1 flX10_121 rfl rfl rfl rfl ?_
  refine wp_aload_n dX10_persons_4 0 rfl ?_
  refine wp_getI (k := 55) dX10_persons_5 flX10_124 rfl rfl rfl rfl ?_
  refine wp_iadd dX10_persons_8 ?_
  refine wp_aload_n dX10_persons_9 0 rfl ?_
  refine wp_getI (k := 55) dX10_persons_10 flX10_127 rfl rfl rfl rfl ?_
  refine wp_iadd dX10_persons_13 ?_
  obtain rfl := Option.some.inj h
  exact wp_ireturn (ty := .int) dX10_persons_14 rfl rfl ⟨rfl, rfl, rfl, rfl⟩
def f_X10_bare_63 : Nat → Int32 → IT → Option (IT)
  | 0, _, _ => none
  | n + 1, v1, I =>
    if (6 : Int32) ≤ v1 then
      some I
    else
      if inbB v1 6 = true then
        if inbB v1 6 = true then
          f_X10_bare_63 n (v1 + 1) (upI (upI I 64 v1.toNatClampNeg (-1)) 65 v1.toNatClampNeg (-1))
        else none
      else none
def f_X10_bare_35 : Nat → Int32 → IT → Option (IT)
  | 0, _, _ => none
  | n + 1, v1, I =>
    if (84 : Int32) ≤ v1 then
      f_X10_bare_63 FU 0 I
    else
      if inbB v1 84 = true then
        if inbB v1 84 = true then
          f_X10_bare_35 n (v1 + 1) (upI (upI I 62 v1.toNatClampNeg (-1)) 63 v1.toNatClampNeg (-1))
        else none
      else none
def f_X10_bare_7 : Nat → Int32 → IT → Option (IT)
  | 0, _, _ => none
  | n + 1, v1, I =>
    if (14 : Int32) ≤ v1 then
      f_X10_bare_35 FU 0 I
    else
      if inbB v1 14 = true then
        if inbB v1 14 = true then
          f_X10_bare_7 n (v1 + 1) (upI (upI I 61 v1.toNatClampNeg 0) 66 v1.toNatClampNeg 0)
        else none
      else none
def f_X10_bare (I : IT) : Option (IT) :=
  f_X10_bare_7 FU 0 (upI I 55 16 0)
set_option maxRecDepth 100000 in
set_option maxHeartbeats 4000000 in
theorem w_X10_bare_63 (Γ : GT) (ad : Nat → Nat) : ∀ (n : Nat) (v1 : Int32) (I : IT) (J : JT) (r : IT), f_X10_bare_63 n v1 I = some r → WP Γ mX10_bare (0, 0) 63 [(0, .ref (ad 55)), (1, .int v1)] [] (DX ad) I J (QE none (DX ad) r J) := by
  intro n
  induction n with
  | zero => intro v1 I J r h; exact absurd h (by simp [f_X10_bare_63])
  | succ n ih =>
    intro v1 I J r h
    rw [f_X10_bare_63] at h
    refine wp_iload_n dX10_bare_63 1 rfl ?_
    refine wp_bipush (v := 6) dX10_bare_64 (by decide) ?_
    refine wp_icmp_ge 89 dX10_bare_66 rfl (fun c66 => ?_) (fun c66 => ?_)
    · replace h := o_pos h c66
      obtain rfl := Option.some.inj h
      exact wp_return dX10_bare_89 rfl ⟨rfl, rfl, rfl, rfl⟩
    · replace h := o_neg h c66
      refine wp_aload_n dX10_bare_69 0 rfl ?_
      refine wp_getR (k := 55) (a' := ad 64) dX10_bare_70 flX10_41 rfl rfl rfl rfl rfl ?_
      refine wp_iload_n dX10_bare_73 1 rfl ?_
      refine wp_iconst (v := (-1)) dX10_bare_74 (by decide) ?_
      obtain ⟨g75, h⟩ := o_grd h
      refine wp_iast (k := 64) dX10_bare_75 rfl rfl (inb_of g75) ?_
      refine wp_aload_n dX10_bare_76 0 rfl ?_
      refine wp_getR (k := 55) (a' := ad 65) dX10_bare_77 flX10_44 rfl rfl rfl rfl rfl ?_
      refine wp_iload_n dX10_bare_80 1 rfl ?_
      refine wp_iconst (v := (-1)) dX10_bare_81 (by decide) ?_
      obtain ⟨g82, h⟩ := o_grd h
      refine wp_iast (k := 65) dX10_bare_82 rfl rfl (inb_of g82) ?_
      refine wp_iinc (v := v1 + 1) (lv' := [(0, _), (1, _)]) dX10_bare_83 1 rfl rfl rfl rfl rfl ?_
      refine wp_goto 63 dX10_bare_86 rfl ?_
      refine wp_pick [0, 1] (lv' := [(0, _), (1, _)]) rfl ?_
      exact ih (v1 + 1) (upI (upI I 64 v1.toNatClampNeg (-1)) 65 v1.toNatClampNeg (-1)) J r h
set_option maxRecDepth 100000 in
set_option maxHeartbeats 4000000 in
theorem w_X10_bare_35 (Γ : GT) (ad : Nat → Nat) : ∀ (n : Nat) (v1 : Int32) (I : IT) (J : JT) (r : IT), f_X10_bare_35 n v1 I = some r → WP Γ mX10_bare (0, 0) 35 [(0, .ref (ad 55)), (1, .int v1)] [] (DX ad) I J (QE none (DX ad) r J) := by
  intro n
  induction n with
  | zero => intro v1 I J r h; exact absurd h (by simp [f_X10_bare_35])
  | succ n ih =>
    intro v1 I J r h
    rw [f_X10_bare_35] at h
    refine wp_iload_n dX10_bare_35 1 rfl ?_
    refine wp_bipush (v := 84) dX10_bare_36 (by decide) ?_
    refine wp_icmp_ge 61 dX10_bare_38 rfl (fun c38 => ?_) (fun c38 => ?_)
    · replace h := o_pos h c38
      refine wp_iconst (v := 0) dX10_bare_61 (by decide) ?_
      refine wp_istore_n (lv' := [(0, _), (1, _)]) dX10_bare_62 rfl rfl rfl rfl ?_
      refine wp_pick [0, 1] (lv' := [(0, _), (1, _)]) rfl ?_
      exact w_X10_bare_63 Γ ad FU 0 I J r h
    · replace h := o_neg h c38
      refine wp_aload_n dX10_bare_41 0 rfl ?_
      refine wp_getR (k := 55) (a' := ad 62) dX10_bare_42 flX10_35 rfl rfl rfl rfl rfl ?_
      refine wp_iload_n dX10_bare_45 1 rfl ?_
      refine wp_iconst (v := (-1)) dX10_bare_46 (by decide) ?_
      obtain ⟨g47, h⟩ := o_grd h
      refine wp_iast (k := 62) dX10_bare_47 rfl rfl (inb_of g47) ?_
      refine wp_aload_n dX10_bare_48 0 rfl ?_
      refine wp_getR (k := 55) (a' := ad 63) dX10_bare_49 flX10_38 rfl rfl rfl rfl rfl ?_
      refine wp_iload_n dX10_bare_52 1 rfl ?_
      refine wp_iconst (v := (-1)) dX10_bare_53 (by decide) ?_
      obtain ⟨g54, h⟩ := o_grd h
      refine wp_iast (k := 63) dX10_bare_54 rfl rfl (inb_of g54) ?_
      refine wp_iinc (v := v1 + 1) (lv' := [(0, _), (1, _)]) dX10_bare_55 1 rfl rfl rfl rfl rfl ?_
      refine wp_goto 35 dX10_bare_58 rfl ?_
      refine wp_pick [0, 1] (lv' := [(0, _), (1, _)]) rfl ?_
      exact ih (v1 + 1) (upI (upI I 62 v1.toNatClampNeg (-1)) 63 v1.toNatClampNeg (-1)) J r h
set_option maxRecDepth 100000 in
set_option maxHeartbeats 4000000 in
theorem w_X10_bare_7 (Γ : GT) (ad : Nat → Nat) : ∀ (n : Nat) (v1 : Int32) (I : IT) (J : JT) (r : IT), f_X10_bare_7 n v1 I = some r → WP Γ mX10_bare (0, 0) 7 [(0, .ref (ad 55)), (1, .int v1)] [] (DX ad) I J (QE none (DX ad) r J) := by
  intro n
  induction n with
  | zero => intro v1 I J r h; exact absurd h (by simp [f_X10_bare_7])
  | succ n ih =>
    intro v1 I J r h
    rw [f_X10_bare_7] at h
    refine wp_iload_n dX10_bare_7 1 rfl ?_
    refine wp_bipush (v := 14) dX10_bare_8 (by decide) ?_
    refine wp_icmp_ge 33 dX10_bare_10 rfl (fun c10 => ?_) (fun c10 => ?_)
    · replace h := o_pos h c10
      refine wp_iconst (v := 0) dX10_bare_33 (by decide) ?_
      refine wp_istore_n (lv' := [(0, _), (1, _)]) dX10_bare_34 rfl rfl rfl rfl ?_
      refine wp_pick [0, 1] (lv' := [(0, _), (1, _)]) rfl ?_
      exact w_X10_bare_35 Γ ad FU 0 I J r h
    · replace h := o_neg h c10
      refine wp_aload_n dX10_bare_13 0 rfl ?_
      refine wp_getR (k := 55) (a' := ad 61) dX10_bare_14 flX10_32 rfl rfl rfl rfl rfl ?_
      refine wp_iload_n dX10_bare_17 1 rfl ?_
      refine wp_iconst (v := 0) dX10_bare_18 (by decide) ?_
      obtain ⟨g19, h⟩ := o_grd h
      refine wp_iast (k := 61) dX10_bare_19 rfl rfl (inb_of g19) ?_
      refine wp_aload_n dX10_bare_20 0 rfl ?_
      refine wp_getR (k := 55) (a' := ad 66) dX10_bare_21 flX10_47 rfl rfl rfl rfl rfl ?_
      refine wp_iload_n dX10_bare_24 1 rfl ?_
      refine wp_iconst (v := 0) dX10_bare_25 (by decide) ?_
      obtain ⟨g26, h⟩ := o_grd h
      refine wp_iast (k := 66) dX10_bare_26 rfl rfl (inb_of g26) ?_
      refine wp_iinc (v := v1 + 1) (lv' := [(0, _), (1, _)]) dX10_bare_27 1 rfl rfl rfl rfl rfl ?_
      refine wp_goto 7 dX10_bare_30 rfl ?_
      refine wp_pick [0, 1] (lv' := [(0, _), (1, _)]) rfl ?_
      exact ih (v1 + 1) (upI (upI I 61 v1.toNatClampNeg 0) 66 v1.toNatClampNeg 0) J r h
set_option maxRecDepth 100000 in
set_option maxHeartbeats 4000000 in
theorem c_X10_bare (Γ : GT) (ad : Nat → Nat) (I : IT) (J : JT) (r : IT) (h : f_X10_bare I = some r) : CALL Γ mX10_bare (0, 0) [.ref (ad 55)] (DX ad) I J (QE none (DX ad) r J) := by
  refine call_of' (by decide) (Nat.le_of_ble_eq_true rfl) (lv0 := [(0, .ref (ad 55))]) rfl ?_
  unfold f_X10_bare at h
  refine wp_aload_n dX10_bare_0 0 rfl ?_
  refine wp_iconst (v := 0) dX10_bare_1 (by decide) ?_
  refine wp_putI (k := 55) dX10_bare_2 flX10_138 rfl rfl rfl rfl rfl rfl rfl rfl ?_
  refine wp_iconst (v := 0) dX10_bare_5 (by decide) ?_
  refine wp_istore_n (lv' := [(0, _), (1, _)]) dX10_bare_6 rfl rfl rfl rfl ?_
  refine wp_pick [0, 1] (lv' := [(0, _), (1, _)]) rfl ?_
  exact w_X10_bare_7 Γ ad FU 0 (upI I 55 16 0) J r h
def f_X10_sortOf (a1 : Int32) (I : IT) : Option (Int32) :=
  if (I 55 0) ≤ a1 then
    if ((I 55 0) + (I 55 1)) ≤ a1 then
      some 2
    else
      some 1
  else
    some 0
set_option maxRecDepth 100000 in
set_option maxHeartbeats 4000000 in
theorem c_X10_sortOf (Γ : GT) (ad : Nat → Nat) (a1 : Int32) (I : IT) (J : JT) (r : Int32) (h : f_X10_sortOf a1 I = some r) : CALL Γ mX10_sortOf (0, 0) [.ref (ad 55), .int a1] (DX ad) I J (QE (some (.int r)) (DX ad) I J) := by
  refine call_of' (by decide) (Nat.le_of_ble_eq_true rfl) (lv0 := [(0, .ref (ad 55)), (1, .int a1)]) rfl ?_
  unfold f_X10_sortOf at h
  refine wp_iload_n dX10_sortOf_0 1 rfl ?_
  refine wp_aload_n dX10_sortOf_1 0 rfl ?_
  refine wp_getI (k := 55) dX10_sortOf_2 flX10_121 rfl rfl rfl rfl ?_
  refine wp_icmp_ge 12 dX10_sortOf_5 rfl (fun c5 => ?_) (fun c5 => ?_)
  · replace h := o_pos h c5
    refine wp_iload_n dX10_sortOf_12 1 rfl ?_
    refine wp_aload_n dX10_sortOf_13 0 rfl ?_
    refine wp_getI (k := 55) dX10_sortOf_14 flX10_121 rfl rfl rfl rfl ?_
    refine wp_aload_n dX10_sortOf_17 0 rfl ?_
    refine wp_getI (k := 55) dX10_sortOf_18 flX10_124 rfl rfl rfl rfl ?_
    refine wp_iadd dX10_sortOf_21 ?_
    refine wp_icmp_ge 29 dX10_sortOf_22 rfl (fun c22 => ?_) (fun c22 => ?_)
    · replace h := o_pos h c22
      refine wp_iconst (v := 2) dX10_sortOf_29 (by decide) ?_
      obtain rfl := Option.some.inj h
      exact wp_ireturn (ty := .int) dX10_sortOf_30 rfl rfl ⟨rfl, rfl, rfl, rfl⟩
    · replace h := o_neg h c22
      refine wp_iconst (v := 1) dX10_sortOf_25 (by decide) ?_
      refine wp_goto 30 dX10_sortOf_26 rfl ?_
      obtain rfl := Option.some.inj h
      exact wp_ireturn (ty := .int) dX10_sortOf_30 rfl rfl ⟨rfl, rfl, rfl, rfl⟩
  · replace h := o_neg h c5
    refine wp_iconst (v := 0) dX10_sortOf_8 (by decide) ?_
    refine wp_goto 30 dX10_sortOf_9 rfl ?_
    obtain rfl := Option.some.inj h
    exact wp_ireturn (ty := .int) dX10_sortOf_30 rfl rfl ⟨rfl, rfl, rfl, rfl⟩
