/-! lifted: X10_drift X10_bargain X10_byBuyer X10_findRest X10_gainWith X10_findBest X10_best X10_spanOf X10_span X10_isRule X10_tell X10_priceBy -/
def f_X10_drift_24 : Nat → Int32 → Int32 → Int32 → IT → Option (IT)
  | 0, _, _, _, _ => none
  | n + 1, v1, v2, v3, I =>
    if (I 55 0) ≤ v3 then
      some I
    else
      if inbB v3 6 = true then
        (f_X10_draw 50 I).bind fun r44 =>
        (f_X10_tryBind v3 v3 ((I 56 v3.toNatClampNeg) + r44.1) r44.2).bind fun r48 =>
        f_X10_drift_24 n v1 v2 (v3 + 1) r48
      else none
def f_X10_drift_59 : Nat → Int32 → Int32 → Int32 → IT → Option (IT)
  | 0, _, _, _, _ => none
  | n + 1, v1, v2, v3, I =>
    if (I 55 1) ≤ v3 then
      some I
    else
      (f_X10_draw (I 55 0) I).bind fun r72 =>
      if inbB ((6 * v3) + r72.1) 36 = true then
        (f_X10_draw 50 r72.2).bind fun r101 =>
        (f_X10_tryBind ((r72.2 55 0) + v3) r72.1 ((r72.2 58 ((6 * v3) + r72.1).toNatClampNeg) - r101.1) r101.2).bind fun r105 =>
        f_X10_drift_59 n v1 v2 (v3 + 1) r105
      else none
def f_X10_drift_17 : Nat → Int32 → Int32 → IT → Option (Int32 × IT)
  | 0, _, _, _ => none
  | n + 1, v1, v2, I =>
    if v1 ≤ v2 then
      (f_X10_soldSet I).bind fun r131 =>
      (f_X10_bits r131).bind fun r134 =>
      some (r134, I)
    else
      (f_X10_drift_24 FU v1 v2 0 I).bind fun r24 =>
      (f_X10_drift_59 FU v1 v2 0 r24).bind fun r59 =>
      f_X10_drift_17 n v1 (v2 + 1) (upI r59 55 16 ((r59 55 16) + 1))
def f_X10_drift (a1 : Int32) (I : IT) : Option (Int32 × IT) :=
  (f_X10_in a1.toInt64 1 60).bind fun r6 =>
  if r6 = 0 then
    some ((-1000002), I)
  else
    f_X10_drift_17 FU a1 0 I
set_option maxRecDepth 100000 in
set_option maxHeartbeats 4000000 in
theorem w_X10_drift_24 (Γ : GT) (ad : Nat → Nat) (Q : QT) : ∀ (n : Nat) (v1 : Int32) (v2 : Int32) (v3 : Int32) (I : IT) (J : JT) (r : IT), f_X10_drift_24 n v1 v2 v3 I = some r → WP Γ mX10_drift (0, 0) 57 [(0, .ref (ad 55)), (1, .int v1), (2, .int v2)] [] (DX ad) r J Q → WP Γ mX10_drift (0, 0) 24 [(0, .ref (ad 55)), (1, .int v1), (2, .int v2), (3, .int v3)] [] (DX ad) I J Q := by
  intro n
  induction n with
  | zero => intro v1 v2 v3 I J r h K; exact absurd h (by simp [f_X10_drift_24])
  | succ n ih =>
    intro v1 v2 v3 I J r h K
    rw [f_X10_drift_24] at h
    refine wp_iload_n dX10_drift_24 3 rfl ?_
    refine wp_aload_n dX10_drift_25 0 rfl ?_
    refine wp_getI (k := 55) dX10_drift_26 flX10_121 rfl rfl rfl rfl ?_
    refine wp_icmp_ge 57 dX10_drift_29 rfl (fun c29 => ?_) (fun c29 => ?_)
    · replace h := o_pos h c29
      obtain rfl := Option.some.inj h
      exact wp_pick [0, 1, 2] (lv' := [(0, _), (1, _), (2, _)]) rfl K
    · replace h := o_neg h c29
      refine wp_aload_n dX10_drift_32 0 rfl ?_
      refine wp_iload_n dX10_drift_33 3 rfl ?_
      refine wp_iload_n dX10_drift_34 3 rfl ?_
      refine wp_aload_n dX10_drift_35 0 rfl ?_
      refine wp_getR (k := 55) (a' := ad 56) dX10_drift_36 flX10_7 rfl rfl rfl rfl rfl ?_
      refine wp_iload_n dX10_drift_39 3 rfl ?_
      obtain ⟨g40, h⟩ := o_grd h
      refine wp_iald (k := 56) dX10_drift_40 rfl rfl (inb_of g40) ?_
      refine wp_aload_n dX10_drift_41 0 rfl ?_
      refine wp_bipush (v := 50) dX10_drift_42 (by decide) ?_
      obtain ⟨r44, h44, h⟩ := o_bind h
      refine wp_callvI (k := 55) (ci := 10) (c_X10_draw Γ ad 50 I J r44 h44) dX10_drift_44 mlX10_328 mwX10_draw miX10_draw rfl rfl rfl rfl (Nat.le_of_ble_eq_true rfl) rfl (by decide) (by decide) ?_
      refine wp_iadd dX10_drift_47 ?_
      obtain ⟨r48, h48, h⟩ := o_bind h
      refine wp_callvV (k := 55) (ci := 10) (c_X10_tryBind Γ ad v3 v3 ((I 56 v3.toNatClampNeg) + r44.1) r44.2 J r48 h48) dX10_drift_48 mlX10_331 mwX10_tryBind miX10_tryBind rfl rfl rfl rfl (Nat.le_of_ble_eq_true rfl) rfl (by decide) (by decide) ?_
      refine wp_iinc (v := v3 + 1) (lv' := [(0, _), (1, _), (2, _), (3, _)]) dX10_drift_51 3 rfl rfl rfl rfl rfl ?_
      refine wp_goto 24 dX10_drift_54 rfl ?_
      refine wp_pick [0, 1, 2, 3] (lv' := [(0, _), (1, _), (2, _), (3, _)]) rfl ?_
      exact ih v1 v2 (v3 + 1) r48 J r h K
set_option maxRecDepth 100000 in
set_option maxHeartbeats 4000000 in
theorem w_X10_drift_59 (Γ : GT) (ad : Nat → Nat) (Q : QT) : ∀ (n : Nat) (v1 : Int32) (v2 : Int32) (v3 : Int32) (I : IT) (J : JT) (r : IT), f_X10_drift_59 n v1 v2 v3 I = some r → WP Γ mX10_drift (0, 0) 114 [(0, .ref (ad 55)), (1, .int v1), (2, .int v2)] [] (DX ad) r J Q → WP Γ mX10_drift (0, 0) 59 [(0, .ref (ad 55)), (1, .int v1), (2, .int v2), (3, .int v3)] [] (DX ad) I J Q := by
  intro n
  induction n with
  | zero => intro v1 v2 v3 I J r h K; exact absurd h (by simp [f_X10_drift_59])
  | succ n ih =>
    intro v1 v2 v3 I J r h K
    rw [f_X10_drift_59] at h
    refine wp_iload_n dX10_drift_59 3 rfl ?_
    refine wp_aload_n dX10_drift_60 0 rfl ?_
    refine wp_getI (k := 55) dX10_drift_61 flX10_124 rfl rfl rfl rfl ?_
    refine wp_icmp_ge 114 dX10_drift_64 rfl (fun c64 => ?_) (fun c64 => ?_)
    · replace h := o_pos h c64
      obtain rfl := Option.some.inj h
      exact wp_pick [0, 1, 2] (lv' := [(0, _), (1, _), (2, _)]) rfl K
    · replace h := o_neg h c64
      refine wp_aload_n dX10_drift_67 0 rfl ?_
      refine wp_aload_n dX10_drift_68 0 rfl ?_
      refine wp_getI (k := 55) dX10_drift_69 flX10_121 rfl rfl rfl rfl ?_
      obtain ⟨r72, h72, h⟩ := o_bind h
      refine wp_callvI (k := 55) (ci := 10) (c_X10_draw Γ ad (I 55 0) I J r72 h72) dX10_drift_72 mlX10_328 mwX10_draw miX10_draw rfl rfl rfl rfl (Nat.le_of_ble_eq_true rfl) rfl (by decide) (by decide) ?_
      refine wp_istore (lv' := [(0, _), (1, _), (2, _), (3, _), (4, _)]) dX10_drift_75 rfl rfl rfl ?_
      refine wp_aload_n dX10_drift_77 0 rfl ?_
      refine wp_aload_n dX10_drift_78 0 rfl ?_
      refine wp_getI (k := 55) dX10_drift_79 flX10_121 rfl rfl rfl rfl ?_
      refine wp_iload_n dX10_drift_82 3 rfl ?_
      refine wp_iadd dX10_drift_83 ?_
      refine wp_iload dX10_drift_84 4 rfl ?_
      refine wp_aload_n dX10_drift_86 0 rfl ?_
      refine wp_getR (k := 55) (a' := ad 58) dX10_drift_87 flX10_16 rfl rfl rfl rfl rfl ?_
      refine wp_bipush (v := 6) dX10_drift_90 (by decide) ?_
      refine wp_iload_n dX10_drift_92 3 rfl ?_
      refine wp_imul dX10_drift_93 ?_
      refine wp_iload dX10_drift_94 4 rfl ?_
      refine wp_iadd dX10_drift_96 ?_
      obtain ⟨g97, h⟩ := o_grd h
      refine wp_iald (k := 58) dX10_drift_97 rfl rfl (inb_of g97) ?_
      refine wp_aload_n dX10_drift_98 0 rfl ?_
      refine wp_bipush (v := 50) dX10_drift_99 (by decide) ?_
      obtain ⟨r101, h101, h⟩ := o_bind h
      refine wp_callvI (k := 55) (ci := 10) (c_X10_draw Γ ad 50 r72.2 J r101 h101) dX10_drift_101 mlX10_328 mwX10_draw miX10_draw rfl rfl rfl rfl (Nat.le_of_ble_eq_true rfl) rfl (by decide) (by decide) ?_
      refine wp_isub dX10_drift_104 ?_
      obtain ⟨r105, h105, h⟩ := o_bind h
      refine wp_callvV (k := 55) (ci := 10) (c_X10_tryBind Γ ad ((r72.2 55 0) + v3) r72.1 ((r72.2 58 ((6 * v3) + r72.1).toNatClampNeg) - r101.1) r101.2 J r105 h105) dX10_drift_105 mlX10_331 mwX10_tryBind miX10_tryBind rfl rfl rfl rfl (Nat.le_of_ble_eq_true rfl) rfl (by decide) (by decide) ?_
      refine wp_iinc (v := v3 + 1) (lv' := [(0, _), (1, _), (2, _), (3, _), (4, _)]) dX10_drift_108 3 rfl rfl rfl rfl rfl ?_
      refine wp_goto 59 dX10_drift_111 rfl ?_
      refine wp_pick [0, 1, 2, 3] (lv' := [(0, _), (1, _), (2, _), (3, _)]) rfl ?_
      exact ih v1 v2 (v3 + 1) r105 J r h K
set_option maxRecDepth 100000 in
set_option maxHeartbeats 4000000 in
theorem w_X10_drift_17 (Γ : GT) (ad : Nat → Nat) : ∀ (n : Nat) (v1 : Int32) (v2 : Int32) (I : IT) (J : JT) (r : Int32 × IT), f_X10_drift_17 n v1 v2 I = some r → WP Γ mX10_drift (0, 0) 17 [(0, .ref (ad 55)), (1, .int v1), (2, .int v2)] [] (DX ad) I J (QE (some (.int r.1)) (DX ad) r.2 J) := by
  intro n
  induction n with
  | zero => intro v1 v2 I J r h; exact absurd h (by simp [f_X10_drift_17])
  | succ n ih =>
    intro v1 v2 I J r h
    rw [f_X10_drift_17] at h
    refine wp_iload_n dX10_drift_17 2 rfl ?_
    refine wp_iload_n dX10_drift_18 1 rfl ?_
    refine wp_icmp_ge 130 dX10_drift_19 rfl (fun c19 => ?_) (fun c19 => ?_)
    · replace h := o_pos h c19
      refine wp_aload_n dX10_drift_130 0 rfl ?_
      obtain ⟨r131, h131, h⟩ := o_bind h
      refine wp_callvI (k := 55) (ci := 10) (c_X10_soldSet Γ ad I J r131 h131) dX10_drift_131 mlX10_255 mwX10_soldSet miX10_soldSet rfl rfl rfl rfl (Nat.le_of_ble_eq_true rfl) rfl (by decide) (by decide) ?_
      obtain ⟨r134, h134, h⟩ := o_bind h
      refine wp_callsI (c_X10_bits Γ ad r131 I J r134 h134) dX10_drift_134 mlX10_258 mwX10_bits miX10_bits rfl (Nat.le_of_ble_eq_true rfl) rfl (by decide) (by decide) ?_
      obtain rfl := Option.some.inj h
      exact wp_ireturn (ty := .int) dX10_drift_137 rfl rfl ⟨rfl, rfl, rfl, rfl⟩
    · replace h := o_neg h c19
      refine wp_iconst (v := 0) dX10_drift_22 (by decide) ?_
      refine wp_istore_n (lv' := [(0, _), (1, _), (2, _), (3, _)]) dX10_drift_23 rfl rfl rfl rfl ?_
      refine wp_pick [0, 1, 2, 3] (lv' := [(0, _), (1, _), (2, _), (3, _)]) rfl ?_
      obtain ⟨r24, h24, h⟩ := o_bind h
      refine w_X10_drift_24 Γ ad _ FU v1 v2 0 I J r24 h24 ?_
      refine wp_iconst (v := 0) dX10_drift_57 (by decide) ?_
      refine wp_istore_n (lv' := [(0, _), (1, _), (2, _), (3, _)]) dX10_drift_58 rfl rfl rfl rfl ?_
      refine wp_pick [0, 1, 2, 3] (lv' := [(0, _), (1, _), (2, _), (3, _)]) rfl ?_
      obtain ⟨r59, h59, h⟩ := o_bind h
      refine w_X10_drift_59 Γ ad _ FU v1 v2 0 r24 J r59 h59 ?_
      refine wp_aload_n dX10_drift_114 0 rfl ?_
      refine wp_dup dX10_drift_115 rfl ?_
      refine wp_getI (k := 55) dX10_drift_116 flX10_138 rfl rfl rfl rfl ?_
      refine wp_iconst (v := 1) dX10_drift_119 (by decide) ?_
      refine wp_iadd dX10_drift_120 ?_
      refine wp_putI (k := 55) dX10_drift_121 flX10_138 rfl rfl rfl rfl rfl rfl rfl rfl ?_
      refine wp_iinc (v := v2 + 1) (lv' := [(0, _), (1, _), (2, _)]) dX10_drift_124 2 rfl rfl rfl rfl rfl ?_
      refine wp_goto 17 dX10_drift_127 rfl ?_
      refine wp_pick [0, 1, 2] (lv' := [(0, _), (1, _), (2, _)]) rfl ?_
      exact ih v1 (v2 + 1) (upI r59 55 16 ((r59 55 16) + 1)) J r h
set_option maxRecDepth 100000 in
set_option maxHeartbeats 4000000 in
theorem c_X10_drift (Γ : GT) (ad : Nat → Nat) (a1 : Int32) (I : IT) (J : JT) (r : Int32 × IT) (h : f_X10_drift a1 I = some r) : CALL Γ mX10_drift (0, 0) [.ref (ad 55), .int a1] (DX ad) I J (QE (some (.int r.1)) (DX ad) r.2 J) := by
  refine call_of' (by decide) (Nat.le_of_ble_eq_true rfl) (lv0 := [(0, .ref (ad 55)), (1, .int a1)]) rfl ?_
  unfold f_X10_drift at h
  refine wp_iload_n dX10_drift_0 1 rfl ?_
  refine wp_i2l dX10_drift_1 ?_
  refine wp_lconst (v := 1) dX10_drift_2 (by decide) ?_
  refine wp_ldc2 (v := 60) dX10_drift_3 klX10_326 ?_
  obtain ⟨r6, h6, h⟩ := o_bind h
  refine wp_callsI (c_X10_in Γ ad a1.toInt64 1 60 I J r6 h6) dX10_drift_6 mlX10_134 mwX10_in miX10_in rfl (Nat.le_of_ble_eq_true rfl) rfl (by decide) (by decide) ?_
  refine wp_if_ne 15 dX10_drift_9 rfl (fun c9 => ?_) (fun c9 => ?_)
  · replace h := o_neg h c9
    refine wp_iconst (v := 0) dX10_drift_15 (by decide) ?_
    refine wp_istore_n (lv' := [(0, _), (1, _), (2, _)]) dX10_drift_16 rfl rfl rfl rfl ?_
    refine wp_pick [0, 1, 2] (lv' := [(0, _), (1, _), (2, _)]) rfl ?_
    exact w_X10_drift_17 Γ ad FU a1 0 I J r h
  · replace h := o_pos h c9
    refine wp_ldc (v := (-1000002)) dX10_drift_12 kcX10_143 ?_
    obtain rfl := Option.some.inj h
    exact wp_ireturn (ty := .int) dX10_drift_14 rfl rfl ⟨rfl, rfl, rfl, rfl⟩
def f_X10_bargain_70 : Nat → Int32 → Int32 → Int32 → Int32 → IT → Option (Int32)
  | 0, _, _, _, _, _ => none
  | n + 1, v1, v4, v5, v6, I =>
    if v6 < 0 then
      if inbB v1 6 = true then
        some ((I 56 v1.toNatClampNeg) + v5)
      else none
    else
      if 0 ≤ (v4 - (v6 * (I 55 9))) then
        if 0 ≤ ((v4 - (v6 * (I 55 9))) - v5) then
          f_X10_bargain_70 n v1 v4 ((v4 - (v6 * (I 55 9))) - v5) (v6 + (-1)) I
        else
          f_X10_bargain_70 n v1 v4 0 (v6 + (-1)) I
      else
        if 0 ≤ (0 - v5) then
          f_X10_bargain_70 n v1 v4 (0 - v5) (v6 + (-1)) I
        else
          f_X10_bargain_70 n v1 v4 0 (v6 + (-1)) I
def f_X10_bargain (a1 : Int32) (a2 : Int32) (a3 : Int32) (I : IT) : Option (Int32) :=
  (f_X10_isLot a1 I).bind fun r2 =>
  if r2 = 0 then
    some (-1000001)
  else
    (f_X10_isBuyer a2 I).bind fun r10 =>
    if r10 = 0 then
      some (-1000001)
    else
      (f_X10_in a3.toInt64 1 40).bind fun r26 =>
      if r26 = 0 then
        some (-1000002)
      else
        if inbB ((6 * a2) + a1) 36 = true then
          if inbB a1 6 = true then
            if 0 ≤ ((I 58 ((6 * a2) + a1).toNatClampNeg) - (I 56 a1.toNatClampNeg)) then
              f_X10_bargain_70 FU a1 ((I 58 ((6 * a2) + a1).toNatClampNeg) - (I 56 a1.toNatClampNeg)) 0 (a3 - 1) I
            else
              some (-1)
          else none
        else none
set_option maxRecDepth 100000 in
set_option maxHeartbeats 4000000 in
theorem w_X10_bargain_70 (Γ : GT) (ad : Nat → Nat) : ∀ (n : Nat) (v1 : Int32) (v4 : Int32) (v5 : Int32) (v6 : Int32) (I : IT) (J : JT) (r : Int32), f_X10_bargain_70 n v1 v4 v5 v6 I = some r → WP Γ mX10_bargain (0, 0) 70 [(0, .ref (ad 55)), (1, .int v1), (4, .int v4), (5, .int v5), (6, .int v6)] [] (DX ad) I J (QE (some (.int r)) (DX ad) I J) := by
  intro n
  induction n with
  | zero => intro v1 v4 v5 v6 I J r h; exact absurd h (by simp [f_X10_bargain_70])
  | succ n ih =>
    intro v1 v4 v5 v6 I J r h
    rw [f_X10_bargain_70] at h
    refine wp_iload dX10_bargain_70 4 rfl ?_
    refine wp_if_lt 125 dX10_bargain_72 rfl (fun c72 => ?_) (fun c72 => ?_)
    · replace h := o_pos h c72
      refine wp_aload_n dX10_bargain_125 0 rfl ?_
      refine wp_getR (k := 55) (a' := ad 56) dX10_bargain_126 flX10_7 rfl rfl rfl rfl rfl ?_
      refine wp_iload_n dX10_bargain_129 1 rfl ?_
      obtain ⟨g130, h⟩ := o_grd h
      refine wp_iald (k := 56) dX10_bargain_130 rfl rfl (inb_of g130) ?_
      refine wp_iload dX10_bargain_131 3 rfl ?_
      refine wp_iadd dX10_bargain_133 ?_
      obtain rfl := Option.some.inj h
      exact wp_ireturn (ty := .int) dX10_bargain_134 rfl rfl ⟨rfl, rfl, rfl, rfl⟩
    · replace h := o_neg h c72
      refine wp_iload dX10_bargain_75 2 rfl ?_
      refine wp_iload dX10_bargain_77 4 rfl ?_
      refine wp_aload_n dX10_bargain_79 0 rfl ?_
      refine wp_getI (k := 55) dX10_bargain_80 flX10_29 rfl rfl rfl rfl ?_
      refine wp_imul dX10_bargain_83 ?_
      refine wp_isub dX10_bargain_84 ?_
      refine wp_istore (lv' := [(0, _), (1, _), (4, _), (5, _), (6, _), (7, _)]) dX10_bargain_85 rfl rfl rfl ?_
      refine wp_iload dX10_bargain_87 5 rfl ?_
      refine wp_if_ge 96 dX10_bargain_89 rfl (fun c89 => ?_) (fun c89 => ?_)
      · replace h := o_pos h c89
        refine wp_iload dX10_bargain_96 5 rfl ?_
        refine wp_istore (lv' := [(0, _), (1, _), (4, _), (5, _), (6, _), (7, _)]) dX10_bargain_98 rfl rfl rfl ?_
        refine wp_iload dX10_bargain_100 5 rfl ?_
        refine wp_iload dX10_bargain_102 3 rfl ?_
        refine wp_isub dX10_bargain_104 ?_
        refine wp_if_ge 112 dX10_bargain_105 rfl (fun c105 => ?_) (fun c105 => ?_)
        · replace h := o_pos h c105
          refine wp_iload dX10_bargain_112 5 rfl ?_
          refine wp_iload dX10_bargain_114 3 rfl ?_
          refine wp_isub dX10_bargain_116 ?_
          refine wp_istore (lv' := [(0, _), (1, _), (4, _), (5, _), (6, _), (7, _)]) dX10_bargain_117 rfl rfl rfl ?_
          refine wp_iinc (v := v6 + (-1)) (lv' := [(0, _), (1, _), (4, _), (5, _), (6, _), (7, _)]) dX10_bargain_119 4 rfl rfl rfl rfl rfl ?_
          refine wp_goto 70 dX10_bargain_122 rfl ?_
          refine wp_pick [0, 1, 2, 3, 4] (lv' := [(0, _), (1, _), (4, _), (5, _), (6, _)]) rfl ?_
          exact ih v1 v4 ((v4 - (v6 * (I 55 9))) - v5) (v6 + (-1)) I J r h
        · replace h := o_neg h c105
          refine wp_iconst (v := 0) dX10_bargain_108 (by decide) ?_
          refine wp_goto 117 dX10_bargain_109 rfl ?_
          refine wp_istore (lv' := [(0, _), (1, _), (4, _), (5, _), (6, _), (7, _)]) dX10_bargain_117 rfl rfl rfl ?_
          refine wp_iinc (v := v6 + (-1)) (lv' := [(0, _), (1, _), (4, _), (5, _), (6, _), (7, _)]) dX10_bargain_119 4 rfl rfl rfl rfl rfl ?_
          refine wp_goto 70 dX10_bargain_122 rfl ?_
          refine wp_pick [0, 1, 2, 3, 4] (lv' := [(0, _), (1, _), (4, _), (5, _), (6, _)]) rfl ?_
          exact ih v1 v4 0 (v6 + (-1)) I J r h
      · replace h := o_neg h c89
        refine wp_iconst (v := 0) dX10_bargain_92 (by decide) ?_
        refine wp_goto 98 dX10_bargain_93 rfl ?_
        refine wp_istore (lv' := [(0, _), (1, _), (4, _), (5, _), (6, _), (7, _)]) dX10_bargain_98 rfl rfl rfl ?_
        refine wp_iload dX10_bargain_100 5 rfl ?_
        refine wp_iload dX10_bargain_102 3 rfl ?_
        refine wp_isub dX10_bargain_104 ?_
        refine wp_if_ge 112 dX10_bargain_105 rfl (fun c105 => ?_) (fun c105 => ?_)
        · replace h := o_pos h c105
          refine wp_iload dX10_bargain_112 5 rfl ?_
          refine wp_iload dX10_bargain_114 3 rfl ?_
          refine wp_isub dX10_bargain_116 ?_
          refine wp_istore (lv' := [(0, _), (1, _), (4, _), (5, _), (6, _), (7, _)]) dX10_bargain_117 rfl rfl rfl ?_
          refine wp_iinc (v := v6 + (-1)) (lv' := [(0, _), (1, _), (4, _), (5, _), (6, _), (7, _)]) dX10_bargain_119 4 rfl rfl rfl rfl rfl ?_
          refine wp_goto 70 dX10_bargain_122 rfl ?_
          refine wp_pick [0, 1, 2, 3, 4] (lv' := [(0, _), (1, _), (4, _), (5, _), (6, _)]) rfl ?_
          exact ih v1 v4 (0 - v5) (v6 + (-1)) I J r h
        · replace h := o_neg h c105
          refine wp_iconst (v := 0) dX10_bargain_108 (by decide) ?_
          refine wp_goto 117 dX10_bargain_109 rfl ?_
          refine wp_istore (lv' := [(0, _), (1, _), (4, _), (5, _), (6, _), (7, _)]) dX10_bargain_117 rfl rfl rfl ?_
          refine wp_iinc (v := v6 + (-1)) (lv' := [(0, _), (1, _), (4, _), (5, _), (6, _), (7, _)]) dX10_bargain_119 4 rfl rfl rfl rfl rfl ?_
          refine wp_goto 70 dX10_bargain_122 rfl ?_
          refine wp_pick [0, 1, 2, 3, 4] (lv' := [(0, _), (1, _), (4, _), (5, _), (6, _)]) rfl ?_
          exact ih v1 v4 0 (v6 + (-1)) I J r h
set_option maxRecDepth 100000 in
set_option maxHeartbeats 4000000 in
theorem c_X10_bargain (Γ : GT) (ad : Nat → Nat) (a1 : Int32) (a2 : Int32) (a3 : Int32) (I : IT) (J : JT) (r : Int32) (h : f_X10_bargain a1 a2 a3 I = some r) : CALL Γ mX10_bargain (0, 0) [.ref (ad 55), .int a1, .int a2, .int a3] (DX ad) I J (QE (some (.int r)) (DX ad) I J) := by
  refine call_of' (by decide) (Nat.le_of_ble_eq_true rfl) (lv0 := [(0, .ref (ad 55)), (1, .int a1), (2, .int a2), (3, .int a3)]) rfl ?_
  unfold f_X10_bargain at h
  refine wp_aload_n dX10_bargain_0 0 rfl ?_
  refine wp_iload_n dX10_bargain_1 1 rfl ?_
  obtain ⟨r2, h2, h⟩ := o_bind h
  refine wp_callvI (k := 55) (ci := 10) (c_X10_isLot Γ ad a1 I J r2 h2) dX10_bargain_2 mlX10_271 mwX10_isLot miX10_isLot rfl rfl rfl rfl (Nat.le_of_ble_eq_true rfl) rfl (by decide) (by decide) ?_
  refine wp_if_eq 16 dX10_bargain_5 rfl (fun c5 => ?_) (fun c5 => ?_)
  · replace h := o_pos h c5
    refine wp_ldcw (v := (-1000001)) dX10_bargain_16 kcX10_264 ?_
    obtain rfl := Option.some.inj h
    exact wp_ireturn (ty := .int) dX10_bargain_19 rfl rfl ⟨rfl, rfl, rfl, rfl⟩
  · replace h := o_neg h c5
    refine wp_aload_n dX10_bargain_8 0 rfl ?_
    refine wp_iload_n dX10_bargain_9 2 rfl ?_
    obtain ⟨r10, h10, h⟩ := o_bind h
    refine wp_callvI (k := 55) (ci := 10) (c_X10_isBuyer Γ ad a2 I J r10 h10) dX10_bargain_10 mlX10_268 mwX10_isBuyer miX10_isBuyer rfl rfl rfl rfl (Nat.le_of_ble_eq_true rfl) rfl (by decide) (by decide) ?_
    refine wp_if_ne 20 dX10_bargain_13 rfl (fun c13 => ?_) (fun c13 => ?_)
    · replace h := o_neg h c13
      refine wp_iload_n dX10_bargain_20 3 rfl ?_
      refine wp_i2l dX10_bargain_21 ?_
      refine wp_lconst (v := 1) dX10_bargain_22 (by decide) ?_
      refine wp_ldc2 (v := 40) dX10_bargain_23 klX10_334 ?_
      obtain ⟨r26, h26, h⟩ := o_bind h
      refine wp_callsI (c_X10_in Γ ad a3.toInt64 1 40 I J r26 h26) dX10_bargain_26 mlX10_134 mwX10_in miX10_in rfl (Nat.le_of_ble_eq_true rfl) rfl (by decide) (by decide) ?_
      refine wp_if_ne 35 dX10_bargain_29 rfl (fun c29 => ?_) (fun c29 => ?_)
      · replace h := o_neg h c29
        refine wp_aload_n dX10_bargain_35 0 rfl ?_
        refine wp_getR (k := 55) (a' := ad 58) dX10_bargain_36 flX10_16 rfl rfl rfl rfl rfl ?_
        refine wp_bipush (v := 6) dX10_bargain_39 (by decide) ?_
        refine wp_iload_n dX10_bargain_41 2 rfl ?_
        refine wp_imul dX10_bargain_42 ?_
        refine wp_iload_n dX10_bargain_43 1 rfl ?_
        refine wp_iadd dX10_bargain_44 ?_
        obtain ⟨g45, h⟩ := o_grd h
        refine wp_iald (k := 58) dX10_bargain_45 rfl rfl (inb_of g45) ?_
        refine wp_aload_n dX10_bargain_46 0 rfl ?_
        refine wp_getR (k := 55) (a' := ad 56) dX10_bargain_47 flX10_7 rfl rfl rfl rfl rfl ?_
        refine wp_iload_n dX10_bargain_50 1 rfl ?_
        obtain ⟨g51, h⟩ := o_grd h
        refine wp_iald (k := 56) dX10_bargain_51 rfl rfl (inb_of g51) ?_
        refine wp_isub dX10_bargain_52 ?_
        refine wp_istore (lv' := [(0, _), (1, _), (2, _), (3, _), (4, _)]) dX10_bargain_53 rfl rfl rfl ?_
        refine wp_iload dX10_bargain_55 4 rfl ?_
        refine wp_if_ge 62 dX10_bargain_57 rfl (fun c57 => ?_) (fun c57 => ?_)
        · replace h := o_pos h c57
          refine wp_iconst (v := 0) dX10_bargain_62 (by decide) ?_
          refine wp_istore (lv' := [(0, _), (1, _), (2, _), (3, _), (4, _), (5, _)]) dX10_bargain_63 rfl rfl rfl ?_
          refine wp_iload_n dX10_bargain_65 3 rfl ?_
          refine wp_iconst (v := 1) dX10_bargain_66 (by decide) ?_
          refine wp_isub dX10_bargain_67 ?_
          refine wp_istore (lv' := [(0, _), (1, _), (2, _), (3, _), (4, _), (5, _), (6, _)]) dX10_bargain_68 rfl rfl rfl ?_
          refine wp_pick [0, 1, 4, 5, 6] (lv' := [(0, _), (1, _), (4, _), (5, _), (6, _)]) rfl ?_
          exact w_X10_bargain_70 Γ ad FU a1 ((I 58 ((6 * a2) + a1).toNatClampNeg) - (I 56 a1.toNatClampNeg)) 0 (a3 - 1) I J r h
        · replace h := o_neg h c57
          refine wp_iconst (v := (-1)) dX10_bargain_60 (by decide) ?_
          obtain rfl := Option.some.inj h
          exact wp_ireturn (ty := .int) dX10_bargain_61 rfl rfl ⟨rfl, rfl, rfl, rfl⟩
      · replace h := o_pos h c29
        refine wp_ldc (v := (-1000002)) dX10_bargain_32 kcX10_143 ?_
        obtain rfl := Option.some.inj h
        exact wp_ireturn (ty := .int) dX10_bargain_34 rfl rfl ⟨rfl, rfl, rfl, rfl⟩
    · replace h := o_pos h c13
      refine wp_ldcw (v := (-1000001)) dX10_bargain_16 kcX10_264 ?_
      obtain rfl := Option.some.inj h
      exact wp_ireturn (ty := .int) dX10_bargain_19 rfl rfl ⟨rfl, rfl, rfl, rfl⟩
def f_X10_byBuyer (a1 : Int32) (a2 : Int32) (a3 : Int32) (I : IT) : Option (Int32) :=
  if inbB a1 7 = true then
    if inbB ((6 * a3) + (I 73 a1.toNatClampNeg)) 36 = true then
      if inbB (I 73 a1.toNatClampNeg) 6 = true then
        (some ((I 58 ((6 * a3) + (I 73 a1.toNatClampNeg)).toNatClampNeg) - (I 56 (I 73 a1.toNatClampNeg).toNatClampNeg))).bind fun x28 =>
        (f_X10_has a2 a3).bind fun r32 =>
        if r32 = 0 then
          if 0 ≤ x28 then
            if inbB ((64 * (a1 + 1)) + (a2 ||| ((1 : Int32) <<< (a3 &&& 31)))) 512 = true then
              some (((16 * x28) + 1) + (I 74 ((64 * (a1 + 1)) + (a2 ||| ((1 : Int32) <<< (a3 &&& 31)))).toNatClampNeg))
            else none
          else
            some (-1)
        else
          some (-1)
      else none
    else none
  else none
set_option maxRecDepth 100000 in
set_option maxHeartbeats 4000000 in
theorem c_X10_byBuyer (Γ : GT) (ad : Nat → Nat) (a1 : Int32) (a2 : Int32) (a3 : Int32) (I : IT) (J : JT) (r : Int32) (h : f_X10_byBuyer a1 a2 a3 I = some r) : CALL Γ mX10_byBuyer (0, 0) [.ref (ad 55), .int a1, .int a2, .int a3] (DX ad) I J (QE (some (.int r)) (DX ad) I J) := by
  refine call_of' (by decide) (Nat.le_of_ble_eq_true rfl) (lv0 := [(0, .ref (ad 55)), (1, .int a1), (2, .int a2), (3, .int a3)]) rfl ?_
  unfold f_X10_byBuyer at h
  refine wp_aload_n dX10_byBuyer_0 0 rfl ?_
  refine wp_getR (k := 55) (a' := ad 73) dX10_byBuyer_1 flX10_71 rfl rfl rfl rfl rfl ?_
  refine wp_iload_n dX10_byBuyer_4 1 rfl ?_
  obtain ⟨g5, h⟩ := o_grd h
  refine wp_iald (k := 73) dX10_byBuyer_5 rfl rfl (inb_of g5) ?_
  refine wp_istore (lv' := [(0, _), (1, _), (2, _), (3, _), (4, _)]) dX10_byBuyer_6 rfl rfl rfl ?_
  refine wp_aload_n dX10_byBuyer_8 0 rfl ?_
  refine wp_getR (k := 55) (a' := ad 58) dX10_byBuyer_9 flX10_16 rfl rfl rfl rfl rfl ?_
  refine wp_bipush (v := 6) dX10_byBuyer_12 (by decide) ?_
  refine wp_iload_n dX10_byBuyer_14 3 rfl ?_
  refine wp_imul dX10_byBuyer_15 ?_
  refine wp_iload dX10_byBuyer_16 4 rfl ?_
  refine wp_iadd dX10_byBuyer_18 ?_
  obtain ⟨g19, h⟩ := o_grd h
  refine wp_iald (k := 58) dX10_byBuyer_19 rfl rfl (inb_of g19) ?_
  refine wp_aload_n dX10_byBuyer_20 0 rfl ?_
  refine wp_getR (k := 55) (a' := ad 56) dX10_byBuyer_21 flX10_7 rfl rfl rfl rfl rfl ?_
  refine wp_iload dX10_byBuyer_24 4 rfl ?_
  obtain ⟨g26, h⟩ := o_grd h
  refine wp_iald (k := 56) dX10_byBuyer_26 rfl rfl (inb_of g26) ?_
  refine wp_isub dX10_byBuyer_27 ?_
  refine wp_istore (lv' := [(0, _), (1, _), (2, _), (3, _), (4, _), (5, _)]) dX10_byBuyer_28 rfl rfl rfl ?_
  obtain ⟨x28, e28, h⟩ := o_bind h
  rw [Option.some.inj e28]
  refine wp_iload_n dX10_byBuyer_30 2 rfl ?_
  refine wp_iload_n dX10_byBuyer_31 3 rfl ?_
  obtain ⟨r32, h32, h⟩ := o_bind h
  refine wp_callsI (c_X10_has Γ ad a2 a3 I J r32 h32) dX10_byBuyer_32 mlX10_281 mwX10_has miX10_has rfl (Nat.le_of_ble_eq_true rfl) rfl (by decide) (by decide) ?_
  refine wp_if_ne 43 dX10_byBuyer_35 rfl (fun c35 => ?_) (fun c35 => ?_)
  · replace h := o_neg h c35
    refine wp_iconst (v := (-1)) dX10_byBuyer_43 (by decide) ?_
    refine wp_goto 72 dX10_byBuyer_44 rfl ?_
    obtain rfl := Option.some.inj h
    exact wp_ireturn (ty := .int) dX10_byBuyer_72 rfl rfl ⟨rfl, rfl, rfl, rfl⟩
  · replace h := o_pos h c35
    refine wp_iload dX10_byBuyer_38 5 rfl ?_
    refine wp_if_ge 47 dX10_byBuyer_40 rfl (fun c40 => ?_) (fun c40 => ?_)
    · replace h := o_pos h c40
      refine wp_bipush (v := 16) dX10_byBuyer_47 (by decide) ?_
      refine wp_iload dX10_byBuyer_49 5 rfl ?_
      refine wp_imul dX10_byBuyer_51 ?_
      refine wp_iconst (v := 1) dX10_byBuyer_52 (by decide) ?_
      refine wp_iadd dX10_byBuyer_53 ?_
      refine wp_aload_n dX10_byBuyer_54 0 rfl ?_
      refine wp_getR (k := 55) (a' := ad 74) dX10_byBuyer_55 flX10_74 rfl rfl rfl rfl rfl ?_
      refine wp_bipush (v := 64) dX10_byBuyer_58 (by decide) ?_
      refine wp_iload_n dX10_byBuyer_60 1 rfl ?_
      refine wp_iconst (v := 1) dX10_byBuyer_61 (by decide) ?_
      refine wp_iadd dX10_byBuyer_62 ?_
      refine wp_imul dX10_byBuyer_63 ?_
      refine wp_iload_n dX10_byBuyer_64 2 rfl ?_
      refine wp_iconst (v := 1) dX10_byBuyer_65 (by decide) ?_
      refine wp_iload_n dX10_byBuyer_66 3 rfl ?_
      refine wp_ishl dX10_byBuyer_67 ?_
      refine wp_ior dX10_byBuyer_68 ?_
      refine wp_iadd dX10_byBuyer_69 ?_
      obtain ⟨g70, h⟩ := o_grd h
      refine wp_iald (k := 74) dX10_byBuyer_70 rfl rfl (inb_of g70) ?_
      refine wp_iadd dX10_byBuyer_71 ?_
      obtain rfl := Option.some.inj h
      exact wp_ireturn (ty := .int) dX10_byBuyer_72 rfl rfl ⟨rfl, rfl, rfl, rfl⟩
    · replace h := o_neg h c40
      refine wp_iconst (v := (-1)) dX10_byBuyer_43 (by decide) ?_
      refine wp_goto 72 dX10_byBuyer_44 rfl ?_
      obtain rfl := Option.some.inj h
      exact wp_ireturn (ty := .int) dX10_byBuyer_72 rfl rfl ⟨rfl, rfl, rfl, rfl⟩
def f_X10_findRest_46 : Nat → Int32 → Int32 → Int32 → Int32 → IT → Option (Int32)
  | 0, _, _, _, _, _ => none
  | n + 1, v1, v2, v3, v4, I =>
    if (I 55 1) ≤ v4 then
      some v3
    else
      if (I 55 37) ≤ v1 then
        some v3
      else
        (f_X10_byBuyer v1 v2 v4 I).bind fun r68 =>
        if r68 ≤ v3 then
          f_X10_findRest_46 n v1 v2 v3 (v4 + 1) I
        else
          f_X10_findRest_46 n v1 v2 r68 (v4 + 1) I
def f_X10_findRest_11 : Nat → Int32 → Int32 → IT → Option (IT)
  | 0, _, _, _ => none
  | n + 1, v1, v2, I =>
    if (64 : Int32) ≤ v2 then
      some I
    else
      if v1 = (I 55 37) then
        (f_X10_findRest_46 FU v1 v2 0 0 I).bind fun r46 =>
        if inbB ((64 * v1) + v2) 512 = true then
          f_X10_findRest_11 n v1 (v2 + 1) (upI I 74 (((64 * v1) + v2).toNatClampNeg) r46)
        else none
      else
        if inbB ((64 * (v1 + 1)) + v2) 512 = true then
          (f_X10_findRest_46 FU v1 v2 (I 74 ((64 * (v1 + 1)) + v2).toNatClampNeg) 0 I).bind fun r46 =>
          if inbB ((64 * v1) + v2) 512 = true then
            f_X10_findRest_11 n v1 (v2 + 1) (upI I 74 (((64 * v1) + v2).toNatClampNeg) r46)
          else none
        else none
def f_X10_findRest_5 : Nat → Int32 → IT → Option (IT)
  | 0, _, _ => none
  | n + 1, v1, I =>
    if v1 < 0 then
      some I
    else
      (f_X10_findRest_11 FU v1 0 I).bind fun r11 =>
      f_X10_findRest_5 n (v1 + (-1)) r11
def f_X10_findRest (I : IT) : Option (IT) :=
  f_X10_findRest_5 FU (I 55 37) I
set_option maxRecDepth 100000 in
set_option maxHeartbeats 4000000 in
theorem w_X10_findRest_46 (Γ : GT) (ad : Nat → Nat) (Q : QT) : ∀ (n : Nat) (v1 : Int32) (v2 : Int32) (v3 : Int32) (v4 : Int32) (I : IT) (J : JT) (r : Int32), f_X10_findRest_46 n v1 v2 v3 v4 I = some r → WP Γ mX10_findRest (0, 0) 92 [(0, .ref (ad 55)), (1, .int v1), (2, .int v2), (3, .int r)] [] (DX ad) I J Q → WP Γ mX10_findRest (0, 0) 46 [(0, .ref (ad 55)), (1, .int v1), (2, .int v2), (3, .int v3), (4, .int v4)] [] (DX ad) I J Q := by
  intro n
  induction n with
  | zero => intro v1 v2 v3 v4 I J r h K; exact absurd h (by simp [f_X10_findRest_46])
  | succ n ih =>
    intro v1 v2 v3 v4 I J r h K
    rw [f_X10_findRest_46] at h
    refine wp_iload dX10_findRest_46 4 rfl ?_
    refine wp_aload_n dX10_findRest_48 0 rfl ?_
    refine wp_getI (k := 55) dX10_findRest_49 flX10_124 rfl rfl rfl rfl ?_
    refine wp_icmp_ge 92 dX10_findRest_52 rfl (fun c52 => ?_) (fun c52 => ?_)
    · replace h := o_pos h c52
      obtain rfl := Option.some.inj h
      exact wp_pick [0, 1, 2, 3] (lv' := [(0, _), (1, _), (2, _), (3, _)]) rfl K
    · replace h := o_neg h c52
      refine wp_iload_n dX10_findRest_55 1 rfl ?_
      refine wp_aload_n dX10_findRest_56 0 rfl ?_
      refine wp_getI (k := 55) dX10_findRest_57 flX10_336 rfl rfl rfl rfl ?_
      refine wp_icmp_ge 92 dX10_findRest_60 rfl (fun c60 => ?_) (fun c60 => ?_)
      · replace h := o_pos h c60
        obtain rfl := Option.some.inj h
        exact wp_pick [0, 1, 2, 3] (lv' := [(0, _), (1, _), (2, _), (3, _)]) rfl K
      · replace h := o_neg h c60
        refine wp_aload_n dX10_findRest_63 0 rfl ?_
        refine wp_iload_n dX10_findRest_64 1 rfl ?_
        refine wp_iload_n dX10_findRest_65 2 rfl ?_
        refine wp_iload dX10_findRest_66 4 rfl ?_
        obtain ⟨r68, h68, h⟩ := o_bind h
        refine wp_callvI (k := 55) (ci := 10) (c_X10_byBuyer Γ ad v1 v2 v4 I J r68 h68) dX10_findRest_68 mlX10_339 mwX10_byBuyer miX10_byBuyer rfl rfl rfl rfl (Nat.le_of_ble_eq_true rfl) rfl (by decide) (by decide) ?_
        refine wp_istore (lv' := [(0, _), (1, _), (2, _), (3, _), (4, _), (5, _)]) dX10_findRest_71 rfl rfl rfl ?_
        refine wp_iload dX10_findRest_73 5 rfl ?_
        refine wp_iload_n dX10_findRest_75 3 rfl ?_
        refine wp_icmp_le 84 dX10_findRest_76 rfl (fun c76 => ?_) (fun c76 => ?_)
        · replace h := o_pos h c76
          refine wp_iload_n dX10_findRest_84 3 rfl ?_
          refine wp_istore_n (lv' := [(0, _), (1, _), (2, _), (3, _), (4, _), (5, _)]) dX10_findRest_85 rfl rfl rfl rfl ?_
          refine wp_iinc (v := v4 + 1) (lv' := [(0, _), (1, _), (2, _), (3, _), (4, _), (5, _)]) dX10_findRest_86 4 rfl rfl rfl rfl rfl ?_
          refine wp_goto 46 dX10_findRest_89 rfl ?_
          refine wp_pick [0, 1, 2, 3, 4] (lv' := [(0, _), (1, _), (2, _), (3, _), (4, _)]) rfl ?_
          exact ih v1 v2 v3 (v4 + 1) I J r h K
        · replace h := o_neg h c76
          refine wp_iload dX10_findRest_79 5 rfl ?_
          refine wp_goto 85 dX10_findRest_81 rfl ?_
          refine wp_istore_n (lv' := [(0, _), (1, _), (2, _), (3, _), (4, _), (5, _)]) dX10_findRest_85 rfl rfl rfl rfl ?_
          refine wp_iinc (v := v4 + 1) (lv' := [(0, _), (1, _), (2, _), (3, _), (4, _), (5, _)]) dX10_findRest_86 4 rfl rfl rfl rfl rfl ?_
          refine wp_goto 46 dX10_findRest_89 rfl ?_
          refine wp_pick [0, 1, 2, 3, 4] (lv' := [(0, _), (1, _), (2, _), (3, _), (4, _)]) rfl ?_
          exact ih v1 v2 r68 (v4 + 1) I J r h K
set_option maxRecDepth 100000 in
set_option maxHeartbeats 4000000 in
theorem w_X10_findRest_11 (Γ : GT) (ad : Nat → Nat) (Q : QT) : ∀ (n : Nat) (v1 : Int32) (v2 : Int32) (I : IT) (J : JT) (r : IT), f_X10_findRest_11 n v1 v2 I = some r → WP Γ mX10_findRest (0, 0) 110 [(0, .ref (ad 55)), (1, .int v1)] [] (DX ad) r J Q → WP Γ mX10_findRest (0, 0) 11 [(0, .ref (ad 55)), (1, .int v1), (2, .int v2)] [] (DX ad) I J Q := by
  intro n
  induction n with
  | zero => intro v1 v2 I J r h K; exact absurd h (by simp [f_X10_findRest_11])
  | succ n ih =>
    intro v1 v2 I J r h K
    rw [f_X10_findRest_11] at h
    refine wp_iload_n dX10_findRest_11 2 rfl ?_
    refine wp_bipush (v := 64) dX10_findRest_12 (by decide) ?_
    refine wp_icmp_ge 110 dX10_findRest_14 rfl (fun c14 => ?_) (fun c14 => ?_)
    · replace h := o_pos h c14
      obtain rfl := Option.some.inj h
      exact wp_pick [0, 1] (lv' := [(0, _), (1, _)]) rfl K
    · replace h := o_neg h c14
      refine wp_iload_n dX10_findRest_17 1 rfl ?_
      refine wp_aload_n dX10_findRest_18 0 rfl ?_
      refine wp_getI (k := 55) dX10_findRest_19 flX10_336 rfl rfl rfl rfl ?_
      refine wp_icmp_ne 29 dX10_findRest_22 rfl (fun c22 => ?_) (fun c22 => ?_)
      · replace h := o_neg h c22
        refine wp_aload_n dX10_findRest_29 0 rfl ?_
        refine wp_getR (k := 55) (a' := ad 74) dX10_findRest_30 flX10_74 rfl rfl rfl rfl rfl ?_
        refine wp_bipush (v := 64) dX10_findRest_33 (by decide) ?_
        refine wp_iload_n dX10_findRest_35 1 rfl ?_
        refine wp_iconst (v := 1) dX10_findRest_36 (by decide) ?_
        refine wp_iadd dX10_findRest_37 ?_
        refine wp_imul dX10_findRest_38 ?_
        refine wp_iload_n dX10_findRest_39 2 rfl ?_
        refine wp_iadd dX10_findRest_40 ?_
        obtain ⟨g41, h⟩ := o_grd h
        refine wp_iald (k := 74) dX10_findRest_41 rfl rfl (inb_of g41) ?_
        refine wp_istore_n (lv' := [(0, _), (1, _), (2, _), (3, _)]) dX10_findRest_42 rfl rfl rfl rfl ?_
        refine wp_iconst (v := 0) dX10_findRest_43 (by decide) ?_
        refine wp_istore (lv' := [(0, _), (1, _), (2, _), (3, _), (4, _)]) dX10_findRest_44 rfl rfl rfl ?_
        refine wp_pick [0, 1, 2, 3, 4] (lv' := [(0, _), (1, _), (2, _), (3, _), (4, _)]) rfl ?_
        obtain ⟨r46, h46, h⟩ := o_bind h
        refine w_X10_findRest_46 Γ ad _ FU v1 v2 (I 74 ((64 * (v1 + 1)) + v2).toNatClampNeg) 0 I J r46 h46 ?_
        refine wp_aload_n dX10_findRest_92 0 rfl ?_
        refine wp_getR (k := 55) (a' := ad 74) dX10_findRest_93 flX10_74 rfl rfl rfl rfl rfl ?_
        refine wp_bipush (v := 64) dX10_findRest_96 (by decide) ?_
        refine wp_iload_n dX10_findRest_98 1 rfl ?_
        refine wp_imul dX10_findRest_99 ?_
        refine wp_iload_n dX10_findRest_100 2 rfl ?_
        refine wp_iadd dX10_findRest_101 ?_
        refine wp_iload_n dX10_findRest_102 3 rfl ?_
        obtain ⟨g103, h⟩ := o_grd h
        refine wp_iast (k := 74) dX10_findRest_103 rfl rfl (inb_of g103) ?_
        refine wp_iinc (v := v2 + 1) (lv' := [(0, _), (1, _), (2, _), (3, _)]) dX10_findRest_104 2 rfl rfl rfl rfl rfl ?_
        refine wp_goto 11 dX10_findRest_107 rfl ?_
        refine wp_pick [0, 1, 2] (lv' := [(0, _), (1, _), (2, _)]) rfl ?_
        exact ih v1 (v2 + 1) (upI I 74 (((64 * v1) + v2).toNatClampNeg) r46) J r h K
      · replace h := o_pos h c22
        refine wp_iconst (v := 0) dX10_findRest_25 (by decide) ?_
        refine wp_goto 42 dX10_findRest_26 rfl ?_
        refine wp_istore_n (lv' := [(0, _), (1, _), (2, _), (3, _)]) dX10_findRest_42 rfl rfl rfl rfl ?_
        refine wp_iconst (v := 0) dX10_findRest_43 (by decide) ?_
        refine wp_istore (lv' := [(0, _), (1, _), (2, _), (3, _), (4, _)]) dX10_findRest_44 rfl rfl rfl ?_
        refine wp_pick [0, 1, 2, 3, 4] (lv' := [(0, _), (1, _), (2, _), (3, _), (4, _)]) rfl ?_
        obtain ⟨r46, h46, h⟩ := o_bind h
        refine w_X10_findRest_46 Γ ad _ FU v1 v2 0 0 I J r46 h46 ?_
        refine wp_aload_n dX10_findRest_92 0 rfl ?_
        refine wp_getR (k := 55) (a' := ad 74) dX10_findRest_93 flX10_74 rfl rfl rfl rfl rfl ?_
        refine wp_bipush (v := 64) dX10_findRest_96 (by decide) ?_
        refine wp_iload_n dX10_findRest_98 1 rfl ?_
        refine wp_imul dX10_findRest_99 ?_
        refine wp_iload_n dX10_findRest_100 2 rfl ?_
        refine wp_iadd dX10_findRest_101 ?_
        refine wp_iload_n dX10_findRest_102 3 rfl ?_
        obtain ⟨g103, h⟩ := o_grd h
        refine wp_iast (k := 74) dX10_findRest_103 rfl rfl (inb_of g103) ?_
        refine wp_iinc (v := v2 + 1) (lv' := [(0, _), (1, _), (2, _), (3, _)]) dX10_findRest_104 2 rfl rfl rfl rfl rfl ?_
        refine wp_goto 11 dX10_findRest_107 rfl ?_
        refine wp_pick [0, 1, 2] (lv' := [(0, _), (1, _), (2, _)]) rfl ?_
        exact ih v1 (v2 + 1) (upI I 74 (((64 * v1) + v2).toNatClampNeg) r46) J r h K
set_option maxRecDepth 100000 in
set_option maxHeartbeats 4000000 in
theorem w_X10_findRest_5 (Γ : GT) (ad : Nat → Nat) : ∀ (n : Nat) (v1 : Int32) (I : IT) (J : JT) (r : IT), f_X10_findRest_5 n v1 I = some r → WP Γ mX10_findRest (0, 0) 5 [(0, .ref (ad 55)), (1, .int v1)] [] (DX ad) I J (QE none (DX ad) r J) := by
  intro n
  induction n with
  | zero => intro v1 I J r h; exact absurd h (by simp [f_X10_findRest_5])
  | succ n ih =>
    intro v1 I J r h
    rw [f_X10_findRest_5] at h
    refine wp_iload_n dX10_findRest_5 1 rfl ?_
    refine wp_if_lt 116 dX10_findRest_6 rfl (fun c6 => ?_) (fun c6 => ?_)
    · replace h := o_pos h c6
      obtain rfl := Option.some.inj h
      exact wp_return dX10_findRest_116 rfl ⟨rfl, rfl, rfl, rfl⟩
    · replace h := o_neg h c6
      refine wp_iconst (v := 0) dX10_findRest_9 (by decide) ?_
      refine wp_istore_n (lv' := [(0, _), (1, _), (2, _)]) dX10_findRest_10 rfl rfl rfl rfl ?_
      refine wp_pick [0, 1, 2] (lv' := [(0, _), (1, _), (2, _)]) rfl ?_
      obtain ⟨r11, h11, h⟩ := o_bind h
      refine w_X10_findRest_11 Γ ad _ FU v1 0 I J r11 h11 ?_
      refine wp_iinc (v := v1 + (-1)) (lv' := [(0, _), (1, _)]) dX10_findRest_110 1 rfl rfl rfl rfl rfl ?_
      refine wp_goto 5 dX10_findRest_113 rfl ?_
      refine wp_pick [0, 1] (lv' := [(0, _), (1, _)]) rfl ?_
      exact ih (v1 + (-1)) r11 J r h
set_option maxRecDepth 100000 in
set_option maxHeartbeats 4000000 in
theorem c_X10_findRest (Γ : GT) (ad : Nat → Nat) (I : IT) (J : JT) (r : IT) (h : f_X10_findRest I = some r) : CALL Γ mX10_findRest (0, 0) [.ref (ad 55)] (DX ad) I J (QE none (DX ad) r J) := by
  refine call_of' (by decide) (Nat.le_of_ble_eq_true rfl) (lv0 := [(0, .ref (ad 55))]) rfl ?_
  unfold f_X10_findRest at h
  refine wp_aload_n dX10_findRest_0 0 rfl ?_
  refine wp_getI (k := 55) dX10_findRest_1 flX10_336 rfl rfl rfl rfl ?_
  refine wp_istore_n (lv' := [(0, _), (1, _)]) dX10_findRest_4 rfl rfl rfl rfl ?_
  refine wp_pick [0, 1] (lv' := [(0, _), (1, _)]) rfl ?_
  exact w_X10_findRest_5 Γ ad FU (I 55 37) I J r h
def f_X10_gainWith_7 : Nat → Int32 → Int32 → Int32 → IT → Option (Int32 × IT)
  | 0, _, _, _, _ => none
  | n + 1, v1, v2, v3, I =>
    if (I 55 0) ≤ v3 then
      if v1 < 0 then
        (f_X10_findRest I).bind fun r71 =>
        some ((r71 74 (0 : Int32).toNatClampNeg) / 16, r71)
      else
        if inbB (I 55 37) 7 = true then
          (f_X10_findRest (upI (upI I 73 ((I 55 37).toNatClampNeg) v1) 55 37 (((upI I 73 ((I 55 37).toNatClampNeg) v1) 55 37) + 1))).bind fun r71 =>
          some ((r71 74 (0 : Int32).toNatClampNeg) / 16, r71)
        else none
    else
      if v3 = v2 then
        f_X10_gainWith_7 n v1 v2 (v3 + 1) I
      else
        if inbB (I 55 37) 7 = true then
          f_X10_gainWith_7 n v1 v2 (v3 + 1) (upI (upI I 73 ((I 55 37).toNatClampNeg) v3) 55 37 (((upI I 73 ((I 55 37).toNatClampNeg) v3) 55 37) + 1))
        else none
def f_X10_gainWith (a1 : Int32) (a2 : Int32) (I : IT) : Option (Int32 × IT) :=
  f_X10_gainWith_7 FU a1 a2 0 (upI I 55 37 0)
set_option maxRecDepth 100000 in
set_option maxHeartbeats 4000000 in
theorem w_X10_gainWith_7 (Γ : GT) (ad : Nat → Nat) : ∀ (n : Nat) (v1 : Int32) (v2 : Int32) (v3 : Int32) (I : IT) (J : JT) (r : Int32 × IT), f_X10_gainWith_7 n v1 v2 v3 I = some r → WP Γ mX10_gainWith (0, 0) 7 [(0, .ref (ad 55)), (1, .int v1), (2, .int v2), (3, .int v3)] [] (DX ad) I J (QE (some (.int r.1)) (DX ad) r.2 J) := by
  intro n
  induction n with
  | zero => intro v1 v2 v3 I J r h; exact absurd h (by simp [f_X10_gainWith_7])
  | succ n ih =>
    intro v1 v2 v3 I J r h
    rw [f_X10_gainWith_7] at h
    refine wp_iload_n dX10_gainWith_7 3 rfl ?_
    refine wp_aload_n dX10_gainWith_8 0 rfl ?_
    refine wp_getI (k := 55) dX10_gainWith_9 flX10_121 rfl rfl rfl rfl ?_
    refine wp_icmp_ge 46 dX10_gainWith_12 rfl (fun c12 => ?_) (fun c12 => ?_)
    · replace h := o_pos h c12
      refine wp_iload_n dX10_gainWith_46 1 rfl ?_
      refine wp_if_lt 70 dX10_gainWith_47 rfl (fun c47 => ?_) (fun c47 => ?_)
      · replace h := o_pos h c47
        refine wp_aload_n dX10_gainWith_70 0 rfl ?_
        obtain ⟨r71, h71, h⟩ := o_bind h
        refine wp_callvV (k := 55) (ci := 10) (c_X10_findRest Γ ad I J r71 h71) dX10_gainWith_71 mlX10_343 mwX10_findRest miX10_findRest rfl rfl rfl rfl (Nat.le_of_ble_eq_true rfl) rfl (by decide) (by decide) ?_
        refine wp_aload_n dX10_gainWith_74 0 rfl ?_
        refine wp_getR (k := 55) (a' := ad 74) dX10_gainWith_75 flX10_74 rfl rfl rfl rfl rfl ?_
        refine wp_iconst (v := 0) dX10_gainWith_78 (by decide) ?_
        refine wp_iald (k := 74) dX10_gainWith_79 rfl rfl (inb_of (by decide)) ?_
        refine wp_bipush (v := 16) dX10_gainWith_80 (by decide) ?_
        refine wp_idiv dX10_gainWith_82 (by decide) ?_
        obtain rfl := Option.some.inj h
        exact wp_ireturn (ty := .int) dX10_gainWith_83 rfl rfl ⟨rfl, rfl, rfl, rfl⟩
      · replace h := o_neg h c47
        refine wp_aload_n dX10_gainWith_50 0 rfl ?_
        refine wp_getR (k := 55) (a' := ad 73) dX10_gainWith_51 flX10_71 rfl rfl rfl rfl rfl ?_
        refine wp_aload_n dX10_gainWith_54 0 rfl ?_
        refine wp_getI (k := 55) dX10_gainWith_55 flX10_336 rfl rfl rfl rfl ?_
        refine wp_iload_n dX10_gainWith_58 1 rfl ?_
        obtain ⟨g59, h⟩ := o_grd h
        refine wp_iast (k := 73) dX10_gainWith_59 rfl rfl (inb_of g59) ?_
        refine wp_aload_n dX10_gainWith_60 0 rfl ?_
        refine wp_dup dX10_gainWith_61 rfl ?_
        refine wp_getI (k := 55) dX10_gainWith_62 flX10_336 rfl rfl rfl rfl ?_
        refine wp_iconst (v := 1) dX10_gainWith_65 (by decide) ?_
        refine wp_iadd dX10_gainWith_66 ?_
        refine wp_putI (k := 55) dX10_gainWith_67 flX10_336 rfl rfl rfl rfl rfl rfl rfl rfl ?_
        refine wp_aload_n dX10_gainWith_70 0 rfl ?_
        obtain ⟨r71, h71, h⟩ := o_bind h
        refine wp_callvV (k := 55) (ci := 10) (c_X10_findRest Γ ad (upI (upI I 73 ((I 55 37).toNatClampNeg) v1) 55 37 (((upI I 73 ((I 55 37).toNatClampNeg) v1) 55 37) + 1)) J r71 h71) dX10_gainWith_71 mlX10_343 mwX10_findRest miX10_findRest rfl rfl rfl rfl (Nat.le_of_ble_eq_true rfl) rfl (by decide) (by decide) ?_
        refine wp_aload_n dX10_gainWith_74 0 rfl ?_
        refine wp_getR (k := 55) (a' := ad 74) dX10_gainWith_75 flX10_74 rfl rfl rfl rfl rfl ?_
        refine wp_iconst (v := 0) dX10_gainWith_78 (by decide) ?_
        refine wp_iald (k := 74) dX10_gainWith_79 rfl rfl (inb_of (by decide)) ?_
        refine wp_bipush (v := 16) dX10_gainWith_80 (by decide) ?_
        refine wp_idiv dX10_gainWith_82 (by decide) ?_
        obtain rfl := Option.some.inj h
        exact wp_ireturn (ty := .int) dX10_gainWith_83 rfl rfl ⟨rfl, rfl, rfl, rfl⟩
    · replace h := o_neg h c12
      refine wp_iload_n dX10_gainWith_15 3 rfl ?_
      refine wp_iload_n dX10_gainWith_16 2 rfl ?_
      refine wp_icmp_eq 40 dX10_gainWith_17 rfl (fun c17 => ?_) (fun c17 => ?_)
      · replace h := o_pos h c17
        refine wp_iinc (v := v3 + 1) (lv' := [(0, _), (1, _), (2, _), (3, _)]) dX10_gainWith_40 3 rfl rfl rfl rfl rfl ?_
        refine wp_goto 7 dX10_gainWith_43 rfl ?_
        refine wp_pick [0, 1, 2, 3] (lv' := [(0, _), (1, _), (2, _), (3, _)]) rfl ?_
        exact ih v1 v2 (v3 + 1) I J r h
      · replace h := o_neg h c17
        refine wp_aload_n dX10_gainWith_20 0 rfl ?_
        refine wp_getR (k := 55) (a' := ad 73) dX10_gainWith_21 flX10_71 rfl rfl rfl rfl rfl ?_
        refine wp_aload_n dX10_gainWith_24 0 rfl ?_
        refine wp_getI (k := 55) dX10_gainWith_25 flX10_336 rfl rfl rfl rfl ?_
        refine wp_iload_n dX10_gainWith_28 3 rfl ?_
        obtain ⟨g29, h⟩ := o_grd h
        refine wp_iast (k := 73) dX10_gainWith_29 rfl rfl (inb_of g29) ?_
        refine wp_aload_n dX10_gainWith_30 0 rfl ?_
        refine wp_dup dX10_gainWith_31 rfl ?_
        refine wp_getI (k := 55) dX10_gainWith_32 flX10_336 rfl rfl rfl rfl ?_
        refine wp_iconst (v := 1) dX10_gainWith_35 (by decide) ?_
        refine wp_iadd dX10_gainWith_36 ?_
        refine wp_putI (k := 55) dX10_gainWith_37 flX10_336 rfl rfl rfl rfl rfl rfl rfl rfl ?_
        refine wp_iinc (v := v3 + 1) (lv' := [(0, _), (1, _), (2, _), (3, _)]) dX10_gainWith_40 3 rfl rfl rfl rfl rfl ?_
        refine wp_goto 7 dX10_gainWith_43 rfl ?_
        refine wp_pick [0, 1, 2, 3] (lv' := [(0, _), (1, _), (2, _), (3, _)]) rfl ?_
        exact ih v1 v2 (v3 + 1) (upI (upI I 73 ((I 55 37).toNatClampNeg) v3) 55 37 (((upI I 73 ((I 55 37).toNatClampNeg) v3) 55 37) + 1)) J r h
set_option maxRecDepth 100000 in
set_option maxHeartbeats 4000000 in
theorem c_X10_gainWith (Γ : GT) (ad : Nat → Nat) (a1 : Int32) (a2 : Int32) (I : IT) (J : JT) (r : Int32 × IT) (h : f_X10_gainWith a1 a2 I = some r) : CALL Γ mX10_gainWith (0, 0) [.ref (ad 55), .int a1, .int a2] (DX ad) I J (QE (some (.int r.1)) (DX ad) r.2 J) := by
  refine call_of' (by decide) (Nat.le_of_ble_eq_true rfl) (lv0 := [(0, .ref (ad 55)), (1, .int a1), (2, .int a2)]) rfl ?_
  unfold f_X10_gainWith at h
  refine wp_aload_n dX10_gainWith_0 0 rfl ?_
  refine wp_iconst (v := 0) dX10_gainWith_1 (by decide) ?_
  refine wp_putI (k := 55) dX10_gainWith_2 flX10_336 rfl rfl rfl rfl rfl rfl rfl rfl ?_
  refine wp_iconst (v := 0) dX10_gainWith_5 (by decide) ?_
  refine wp_istore_n (lv' := [(0, _), (1, _), (2, _), (3, _)]) dX10_gainWith_6 rfl rfl rfl rfl ?_
  refine wp_pick [0, 1, 2, 3] (lv' := [(0, _), (1, _), (2, _), (3, _)]) rfl ?_
  exact w_X10_gainWith_7 Γ ad FU a1 a2 0 (upI I 55 37 0) J r h
def f_X10_findBest_34 : Nat → Int32 → Int32 → Int32 → IT → Option (IT)
  | 0, _, _, _, _ => none
  | n + 1, v2, v3, v4, I =>
    if v4 < 0 then
      some I
    else
      (f_X10_byBuyer v3 v2 v4 I).bind fun r49 =>
      if inbB ((64 * v3) + v2) 512 = true then
        if r49 = (I 74 ((64 * v3) + v2).toNatClampNeg) then
          if inbB v3 6 = true then
            f_X10_findBest_34 n v2 v3 (v4 + (-1)) (upI I 75 v3.toNatClampNeg v4)
          else none
        else
          if inbB v3 6 = true then
            if inbB v3 6 = true then
              f_X10_findBest_34 n v2 v3 (v4 + (-1)) (upI I 75 v3.toNatClampNeg (I 75 v3.toNatClampNeg))
            else none
          else none
      else none
def f_X10_findBest_11 : Nat → Int32 → Int32 → IT → Option (IT)
  | 0, _, _, _ => none
  | n + 1, v2, v3, I =>
    if (I 55 0) ≤ v3 then
      some I
    else
      if inbB v3 6 = true then
        (f_X10_findBest_34 FU v2 v3 (((upI I 75 v3.toNatClampNeg (-1)) 55 1) - 1) (upI I 75 v3.toNatClampNeg (-1))).bind fun r34 =>
        if inbB v3 6 = true then
          if (r34 75 v3.toNatClampNeg) < 0 then
            f_X10_findBest_11 n (v2 ||| 0) (v3 + 1) r34
          else
            if inbB v3 6 = true then
              f_X10_findBest_11 n (v2 ||| ((1 : Int32) <<< ((r34 75 v3.toNatClampNeg) &&& 31))) (v3 + 1) r34
            else none
        else none
      else none
def f_X10_findBest (I : IT) : Option (IT) :=
  (f_X10_gainWith (-1) (-1) I).bind fun r3 =>
  f_X10_findBest_11 FU 0 0 r3.2
set_option maxRecDepth 100000 in
set_option maxHeartbeats 4000000 in
theorem w_X10_findBest_34 (Γ : GT) (ad : Nat → Nat) (Q : QT) : ∀ (n : Nat) (v2 : Int32) (v3 : Int32) (v4 : Int32) (I : IT) (J : JT) (r : IT), f_X10_findBest_34 n v2 v3 v4 I = some r → WP Γ mX10_findBest (0, 0) 84 [(0, .ref (ad 55)), (2, .int v2), (3, .int v3)] [] (DX ad) r J Q → WP Γ mX10_findBest (0, 0) 34 [(0, .ref (ad 55)), (2, .int v2), (3, .int v3), (4, .int v4)] [] (DX ad) I J Q := by
  intro n
  induction n with
  | zero => intro v2 v3 v4 I J r h K; exact absurd h (by simp [f_X10_findBest_34])
  | succ n ih =>
    intro v2 v3 v4 I J r h K
    rw [f_X10_findBest_34] at h
    refine wp_iload dX10_findBest_34 3 rfl ?_
    refine wp_if_lt 84 dX10_findBest_36 rfl (fun c36 => ?_) (fun c36 => ?_)
    · replace h := o_pos h c36
      obtain rfl := Option.some.inj h
      exact wp_pick [0, 1, 2] (lv' := [(0, _), (2, _), (3, _)]) rfl K
    · replace h := o_neg h c36
      refine wp_aload_n dX10_findBest_39 0 rfl ?_
      refine wp_getR (k := 55) (a' := ad 75) dX10_findBest_40 flX10_77 rfl rfl rfl rfl rfl ?_
      refine wp_iload_n dX10_findBest_43 2 rfl ?_
      refine wp_aload_n dX10_findBest_44 0 rfl ?_
      refine wp_iload_n dX10_findBest_45 2 rfl ?_
      refine wp_iload_n dX10_findBest_46 1 rfl ?_
      refine wp_iload dX10_findBest_47 3 rfl ?_
      obtain ⟨r49, h49, h⟩ := o_bind h
      refine wp_callvI (k := 55) (ci := 10) (c_X10_byBuyer Γ ad v3 v2 v4 I J r49 h49) dX10_findBest_49 mlX10_339 mwX10_byBuyer miX10_byBuyer rfl rfl rfl rfl (Nat.le_of_ble_eq_true rfl) rfl (by decide) (by decide) ?_
      refine wp_aload_n dX10_findBest_52 0 rfl ?_
      refine wp_getR (k := 55) (a' := ad 74) dX10_findBest_53 flX10_74 rfl rfl rfl rfl rfl ?_
      refine wp_bipush (v := 64) dX10_findBest_56 (by decide) ?_
      refine wp_iload_n dX10_findBest_58 2 rfl ?_
      refine wp_imul dX10_findBest_59 ?_
      refine wp_iload_n dX10_findBest_60 1 rfl ?_
      refine wp_iadd dX10_findBest_61 ?_
      obtain ⟨g62, h⟩ := o_grd h
      refine wp_iald (k := 74) dX10_findBest_62 rfl rfl (inb_of g62) ?_
      refine wp_icmp_ne 71 dX10_findBest_63 rfl (fun c63 => ?_) (fun c63 => ?_)
      · replace h := o_neg h c63
        refine wp_aload_n dX10_findBest_71 0 rfl ?_
        refine wp_getR (k := 55) (a' := ad 75) dX10_findBest_72 flX10_77 rfl rfl rfl rfl rfl ?_
        refine wp_iload_n dX10_findBest_75 2 rfl ?_
        obtain ⟨g76, h⟩ := o_grd h
        refine wp_iald (k := 75) dX10_findBest_76 rfl rfl (inb_of g76) ?_
        obtain ⟨g77, h⟩ := o_grd h
        refine wp_iast (k := 75) dX10_findBest_77 rfl rfl (inb_of g77) ?_
        refine wp_iinc (v := v4 + (-1)) (lv' := [(0, _), (2, _), (3, _), (4, _)]) dX10_findBest_78 3 rfl rfl rfl rfl rfl ?_
        refine wp_goto 34 dX10_findBest_81 rfl ?_
        refine wp_pick [0, 1, 2, 3] (lv' := [(0, _), (2, _), (3, _), (4, _)]) rfl ?_
        exact ih v2 v3 (v4 + (-1)) (upI I 75 v3.toNatClampNeg (I 75 v3.toNatClampNeg)) J r h K
      · replace h := o_pos h c63
        refine wp_iload dX10_findBest_66 3 rfl ?_
        refine wp_goto 77 dX10_findBest_68 rfl ?_
        obtain ⟨g77, h⟩ := o_grd h
        refine wp_iast (k := 75) dX10_findBest_77 rfl rfl (inb_of g77) ?_
        refine wp_iinc (v := v4 + (-1)) (lv' := [(0, _), (2, _), (3, _), (4, _)]) dX10_findBest_78 3 rfl rfl rfl rfl rfl ?_
        refine wp_goto 34 dX10_findBest_81 rfl ?_
        refine wp_pick [0, 1, 2, 3] (lv' := [(0, _), (2, _), (3, _), (4, _)]) rfl ?_
        exact ih v2 v3 (v4 + (-1)) (upI I 75 v3.toNatClampNeg v4) J r h K
set_option maxRecDepth 100000 in
set_option maxHeartbeats 4000000 in
theorem w_X10_findBest_11 (Γ : GT) (ad : Nat → Nat) : ∀ (n : Nat) (v2 : Int32) (v3 : Int32) (I : IT) (J : JT) (r : IT), f_X10_findBest_11 n v2 v3 I = some r → WP Γ mX10_findBest (0, 0) 11 [(0, .ref (ad 55)), (2, .int v2), (3, .int v3)] [] (DX ad) I J (QE none (DX ad) r J) := by
  intro n
  induction n with
  | zero => intro v2 v3 I J r h; exact absurd h (by simp [f_X10_findBest_11])
  | succ n ih =>
    intro v2 v3 I J r h
    rw [f_X10_findBest_11] at h
    refine wp_iload_n dX10_findBest_11 2 rfl ?_
    refine wp_aload_n dX10_findBest_12 0 rfl ?_
    refine wp_getI (k := 55) dX10_findBest_13 flX10_121 rfl rfl rfl rfl ?_
    refine wp_icmp_ge 114 dX10_findBest_16 rfl (fun c16 => ?_) (fun c16 => ?_)
    · replace h := o_pos h c16
      obtain rfl := Option.some.inj h
      exact wp_return dX10_findBest_114 rfl ⟨rfl, rfl, rfl, rfl⟩
    · replace h := o_neg h c16
      refine wp_aload_n dX10_findBest_19 0 rfl ?_
      refine wp_getR (k := 55) (a' := ad 75) dX10_findBest_20 flX10_77 rfl rfl rfl rfl rfl ?_
      refine wp_iload_n dX10_findBest_23 2 rfl ?_
      refine wp_iconst (v := (-1)) dX10_findBest_24 (by decide) ?_
      obtain ⟨g25, h⟩ := o_grd h
      refine wp_iast (k := 75) dX10_findBest_25 rfl rfl (inb_of g25) ?_
      refine wp_aload_n dX10_findBest_26 0 rfl ?_
      refine wp_getI (k := 55) dX10_findBest_27 flX10_124 rfl rfl rfl rfl ?_
      refine wp_iconst (v := 1) dX10_findBest_30 (by decide) ?_
      refine wp_isub dX10_findBest_31 ?_
      refine wp_istore (lv' := [(0, _), (2, _), (3, _), (4, _)]) dX10_findBest_32 rfl rfl rfl ?_
      refine wp_pick [0, 1, 2, 3] (lv' := [(0, _), (2, _), (3, _), (4, _)]) rfl ?_
      obtain ⟨r34, h34, h⟩ := o_bind h
      refine w_X10_findBest_34 Γ ad _ FU v2 v3 (((upI I 75 v3.toNatClampNeg (-1)) 55 1) - 1) (upI I 75 v3.toNatClampNeg (-1)) J r34 h34 ?_
      refine wp_iload_n dX10_findBest_84 1 rfl ?_
      refine wp_aload_n dX10_findBest_85 0 rfl ?_
      refine wp_getR (k := 55) (a' := ad 75) dX10_findBest_86 flX10_77 rfl rfl rfl rfl rfl ?_
      refine wp_iload_n dX10_findBest_89 2 rfl ?_
      obtain ⟨g90, h⟩ := o_grd h
      refine wp_iald (k := 75) dX10_findBest_90 rfl rfl (inb_of g90) ?_
      refine wp_if_lt 105 dX10_findBest_91 rfl (fun c91 => ?_) (fun c91 => ?_)
      · replace h := o_pos h c91
        refine wp_iconst (v := 0) dX10_findBest_105 (by decide) ?_
        refine wp_ior dX10_findBest_106 ?_
        refine wp_istore_n (lv' := [(0, _), (2, _), (3, _)]) dX10_findBest_107 rfl rfl rfl rfl ?_
        refine wp_iinc (v := v3 + 1) (lv' := [(0, _), (2, _), (3, _)]) dX10_findBest_108 2 rfl rfl rfl rfl rfl ?_
        refine wp_goto 11 dX10_findBest_111 rfl ?_
        refine wp_pick [0, 1, 2] (lv' := [(0, _), (2, _), (3, _)]) rfl ?_
        exact ih (v2 ||| 0) (v3 + 1) r34 J r h
      · replace h := o_neg h c91
        refine wp_iconst (v := 1) dX10_findBest_94 (by decide) ?_
        refine wp_aload_n dX10_findBest_95 0 rfl ?_
        refine wp_getR (k := 55) (a' := ad 75) dX10_findBest_96 flX10_77 rfl rfl rfl rfl rfl ?_
        refine wp_iload_n dX10_findBest_99 2 rfl ?_
        obtain ⟨g100, h⟩ := o_grd h
        refine wp_iald (k := 75) dX10_findBest_100 rfl rfl (inb_of g100) ?_
        refine wp_ishl dX10_findBest_101 ?_
        refine wp_goto 106 dX10_findBest_102 rfl ?_
        refine wp_ior dX10_findBest_106 ?_
        refine wp_istore_n (lv' := [(0, _), (2, _), (3, _)]) dX10_findBest_107 rfl rfl rfl rfl ?_
        refine wp_iinc (v := v3 + 1) (lv' := [(0, _), (2, _), (3, _)]) dX10_findBest_108 2 rfl rfl rfl rfl rfl ?_
        refine wp_goto 11 dX10_findBest_111 rfl ?_
        refine wp_pick [0, 1, 2] (lv' := [(0, _), (2, _), (3, _)]) rfl ?_
        exact ih (v2 ||| ((1 : Int32) <<< ((r34 75 v3.toNatClampNeg) &&& 31))) (v3 + 1) r34 J r h
set_option maxRecDepth 100000 in
set_option maxHeartbeats 4000000 in
theorem c_X10_findBest (Γ : GT) (ad : Nat → Nat) (I : IT) (J : JT) (r : IT) (h : f_X10_findBest I = some r) : CALL Γ mX10_findBest (0, 0) [.ref (ad 55)] (DX ad) I J (QE none (DX ad) r J) := by
  refine call_of' (by decide) (Nat.le_of_ble_eq_true rfl) (lv0 := [(0, .ref (ad 55))]) rfl ?_
  unfold f_X10_findBest at h
  refine wp_aload_n dX10_findBest_0 0 rfl ?_
  refine wp_iconst (v := (-1)) dX10_findBest_1 (by decide) ?_
  refine wp_iconst (v := (-1)) dX10_findBest_2 (by decide) ?_
  obtain ⟨r3, h3, h⟩ := o_bind h
  refine wp_callvI (k := 55) (ci := 10) (c_X10_gainWith Γ ad (-1) (-1) I J r3 h3) dX10_findBest_3 mlX10_346 mwX10_gainWith miX10_gainWith rfl rfl rfl rfl (Nat.le_of_ble_eq_true rfl) rfl (by decide) (by decide) ?_
  refine wp_istore_n (lv' := [(0, _), (1, _)]) dX10_findBest_6 rfl rfl rfl rfl ?_
  refine wp_iconst (v := 0) dX10_findBest_7 (by decide) ?_
  refine wp_istore_n (lv' := [(0, _), (1, _), (2, _)]) dX10_findBest_8 rfl rfl rfl rfl ?_
  refine wp_iconst (v := 0) dX10_findBest_9 (by decide) ?_
  refine wp_istore_n (lv' := [(0, _), (1, _), (2, _), (3, _)]) dX10_findBest_10 rfl rfl rfl rfl ?_
  refine wp_pick [0, 2, 3] (lv' := [(0, _), (2, _), (3, _)]) rfl ?_
  exact w_X10_findBest_11 Γ ad FU 0 0 r3.2 J r h
def f_X10_best (a1 : Int32) (I : IT) : Option (Int32 × IT) :=
  (f_X10_in a1.toInt64 0 ((1 + (I 55 0)).toInt64)).bind fun r10 =>
  if r10 = 0 then
    some ((-1000002), I)
  else
    (f_X10_findBest I).bind fun r20 =>
    if a1 = 0 then
      some ((r20 74 (0 : Int32).toNatClampNeg) / 16, r20)
    else
      if a1 = (1 : Int32) then
        some ((r20 74 (0 : Int32).toNatClampNeg) - (r20 74 (0 : Int32).toNatClampNeg) / 16 * 16, r20)
      else
        if inbB (a1 - 2) 6 = true then
          some (r20 75 (a1 - 2).toNatClampNeg, r20)
        else none
set_option maxRecDepth 100000 in
set_option maxHeartbeats 4000000 in
theorem c_X10_best (Γ : GT) (ad : Nat → Nat) (a1 : Int32) (I : IT) (J : JT) (r : Int32 × IT) (h : f_X10_best a1 I = some r) : CALL Γ mX10_best (0, 0) [.ref (ad 55), .int a1] (DX ad) I J (QE (some (.int r.1)) (DX ad) r.2 J) := by
  refine call_of' (by decide) (Nat.le_of_ble_eq_true rfl) (lv0 := [(0, .ref (ad 55)), (1, .int a1)]) rfl ?_
  unfold f_X10_best at h
  refine wp_iload_n dX10_best_0 1 rfl ?_
  refine wp_i2l dX10_best_1 ?_
  refine wp_lconst (v := 0) dX10_best_2 (by decide) ?_
  refine wp_iconst (v := 1) dX10_best_3 (by decide) ?_
  refine wp_aload_n dX10_best_4 0 rfl ?_
  refine wp_getI (k := 55) dX10_best_5 flX10_121 rfl rfl rfl rfl ?_
  refine wp_iadd dX10_best_8 ?_
  refine wp_i2l dX10_best_9 ?_
  obtain ⟨r10, h10, h⟩ := o_bind h
  refine wp_callsI (c_X10_in Γ ad a1.toInt64 0 ((1 + (I 55 0)).toInt64) I J r10 h10) dX10_best_10 mlX10_134 mwX10_in miX10_in rfl (Nat.le_of_ble_eq_true rfl) rfl (by decide) (by decide) ?_
  refine wp_if_ne 19 dX10_best_13 rfl (fun c13 => ?_) (fun c13 => ?_)
  · replace h := o_neg h c13
    refine wp_aload_n dX10_best_19 0 rfl ?_
    obtain ⟨r20, h20, h⟩ := o_bind h
    refine wp_callvV (k := 55) (ci := 10) (c_X10_findBest Γ ad I J r20 h20) dX10_best_20 mlX10_349 mwX10_findBest miX10_findBest rfl rfl rfl rfl (Nat.le_of_ble_eq_true rfl) rfl (by decide) (by decide) ?_
    refine wp_aload_n dX10_best_23 0 rfl ?_
    refine wp_getR (k := 55) (a' := ad 74) dX10_best_24 flX10_74 rfl rfl rfl rfl rfl ?_
    refine wp_iconst (v := 0) dX10_best_27 (by decide) ?_
    refine wp_iald (k := 74) dX10_best_28 rfl rfl (inb_of (by decide)) ?_
    refine wp_bipush (v := 16) dX10_best_29 (by decide) ?_
    refine wp_idiv dX10_best_31 (by decide) ?_
    refine wp_istore_n (lv' := [(0, _), (1, _), (2, _)]) dX10_best_32 rfl rfl rfl rfl ?_
    refine wp_iload_n dX10_best_33 1 rfl ?_
    refine wp_if_ne 41 dX10_best_34 rfl (fun c34 => ?_) (fun c34 => ?_)
    · replace h := o_neg h c34
      refine wp_iload_n dX10_best_41 1 rfl ?_
      refine wp_iconst (v := 1) dX10_best_42 (by decide) ?_
      refine wp_icmp_ne 58 dX10_best_43 rfl (fun c43 => ?_) (fun c43 => ?_)
      · replace h := o_neg h c43
        refine wp_aload_n dX10_best_58 0 rfl ?_
        refine wp_getR (k := 55) (a' := ad 75) dX10_best_59 flX10_77 rfl rfl rfl rfl rfl ?_
        refine wp_iload_n dX10_best_62 1 rfl ?_
        refine wp_iconst (v := 2) dX10_best_63 (by decide) ?_
        refine wp_isub dX10_best_64 ?_
        obtain ⟨g65, h⟩ := o_grd h
        refine wp_iald (k := 75) dX10_best_65 rfl rfl (inb_of g65) ?_
        obtain rfl := Option.some.inj h
        exact wp_ireturn (ty := .int) dX10_best_66 rfl rfl ⟨rfl, rfl, rfl, rfl⟩
      · replace h := o_pos h c43
        refine wp_aload_n dX10_best_46 0 rfl ?_
        refine wp_getR (k := 55) (a' := ad 74) dX10_best_47 flX10_74 rfl rfl rfl rfl rfl ?_
        refine wp_iconst (v := 0) dX10_best_50 (by decide) ?_
        refine wp_iald (k := 74) dX10_best_51 rfl rfl (inb_of (by decide)) ?_
        refine wp_bipush (v := 16) dX10_best_52 (by decide) ?_
        refine wp_irem dX10_best_54 (by decide) ?_
        refine wp_goto 66 dX10_best_55 rfl ?_
        obtain rfl := Option.some.inj h
        exact wp_ireturn (ty := .int) dX10_best_66 rfl rfl ⟨rfl, rfl, rfl, rfl⟩
    · replace h := o_pos h c34
      refine wp_iload_n dX10_best_37 2 rfl ?_
      refine wp_goto 66 dX10_best_38 rfl ?_
      obtain rfl := Option.some.inj h
      exact wp_ireturn (ty := .int) dX10_best_66 rfl rfl ⟨rfl, rfl, rfl, rfl⟩
  · replace h := o_pos h c13
    refine wp_ldc (v := (-1000002)) dX10_best_16 kcX10_143 ?_
    obtain rfl := Option.some.inj h
    exact wp_ireturn (ty := .int) dX10_best_18 rfl rfl ⟨rfl, rfl, rfl, rfl⟩
def f_X10_spanOf (a1 : Int32) (a2 : Int32) (I : IT) : Option (Int32 × IT) :=
  (f_X10_gainWith (-1) (-1) I).bind fun r3 =>
  if inbB a1 6 = true then
    if a2 = 0 then
      (f_X10_gainWith a1 (-1) r3.2).bind fun r20 =>
      some ((r3.2 56 a1.toNatClampNeg) + (r20.1 - r3.1), r20.2)
    else
      (f_X10_gainWith (-1) a1 r3.2).bind fun r32 =>
      some ((r3.2 56 a1.toNatClampNeg) + (r3.1 - r32.1), r32.2)
  else none
set_option maxRecDepth 100000 in
set_option maxHeartbeats 4000000 in
theorem c_X10_spanOf (Γ : GT) (ad : Nat → Nat) (a1 : Int32) (a2 : Int32) (I : IT) (J : JT) (r : Int32 × IT) (h : f_X10_spanOf a1 a2 I = some r) : CALL Γ mX10_spanOf (0, 0) [.ref (ad 55), .int a1, .int a2] (DX ad) I J (QE (some (.int r.1)) (DX ad) r.2 J) := by
  refine call_of' (by decide) (Nat.le_of_ble_eq_true rfl) (lv0 := [(0, .ref (ad 55)), (1, .int a1), (2, .int a2)]) rfl ?_
  unfold f_X10_spanOf at h
  refine wp_aload_n dX10_spanOf_0 0 rfl ?_
  refine wp_iconst (v := (-1)) dX10_spanOf_1 (by decide) ?_
  refine wp_iconst (v := (-1)) dX10_spanOf_2 (by decide) ?_
  obtain ⟨r3, h3, h⟩ := o_bind h
  refine wp_callvI (k := 55) (ci := 10) (c_X10_gainWith Γ ad (-1) (-1) I J r3 h3) dX10_spanOf_3 mlX10_346 mwX10_gainWith miX10_gainWith rfl rfl rfl rfl (Nat.le_of_ble_eq_true rfl) rfl (by decide) (by decide) ?_
  refine wp_istore_n (lv' := [(0, _), (1, _), (2, _), (3, _)]) dX10_spanOf_6 rfl rfl rfl rfl ?_
  refine wp_aload_n dX10_spanOf_7 0 rfl ?_
  refine wp_getR (k := 55) (a' := ad 56) dX10_spanOf_8 flX10_7 rfl rfl rfl rfl rfl ?_
  refine wp_iload_n dX10_spanOf_11 1 rfl ?_
  obtain ⟨g12, h⟩ := o_grd h
  refine wp_iald (k := 56) dX10_spanOf_12 rfl rfl (inb_of g12) ?_
  refine wp_iload_n dX10_spanOf_13 2 rfl ?_
  refine wp_if_ne 28 dX10_spanOf_14 rfl (fun c14 => ?_) (fun c14 => ?_)
  · replace h := o_neg h c14
    refine wp_iload_n dX10_spanOf_28 3 rfl ?_
    refine wp_aload_n dX10_spanOf_29 0 rfl ?_
    refine wp_iconst (v := (-1)) dX10_spanOf_30 (by decide) ?_
    refine wp_iload_n dX10_spanOf_31 1 rfl ?_
    obtain ⟨r32, h32, h⟩ := o_bind h
    refine wp_callvI (k := 55) (ci := 10) (c_X10_gainWith Γ ad (-1) a1 r3.2 J r32 h32) dX10_spanOf_32 mlX10_346 mwX10_gainWith miX10_gainWith rfl rfl rfl rfl (Nat.le_of_ble_eq_true rfl) rfl (by decide) (by decide) ?_
    refine wp_isub dX10_spanOf_35 ?_
    refine wp_iadd dX10_spanOf_36 ?_
    obtain rfl := Option.some.inj h
    exact wp_ireturn (ty := .int) dX10_spanOf_37 rfl rfl ⟨rfl, rfl, rfl, rfl⟩
  · replace h := o_pos h c14
    refine wp_aload_n dX10_spanOf_17 0 rfl ?_
    refine wp_iload_n dX10_spanOf_18 1 rfl ?_
    refine wp_iconst (v := (-1)) dX10_spanOf_19 (by decide) ?_
    obtain ⟨r20, h20, h⟩ := o_bind h
    refine wp_callvI (k := 55) (ci := 10) (c_X10_gainWith Γ ad a1 (-1) r3.2 J r20 h20) dX10_spanOf_20 mlX10_346 mwX10_gainWith miX10_gainWith rfl rfl rfl rfl (Nat.le_of_ble_eq_true rfl) rfl (by decide) (by decide) ?_
    refine wp_iload_n dX10_spanOf_23 3 rfl ?_
    refine wp_isub dX10_spanOf_24 ?_
    refine wp_goto 36 dX10_spanOf_25 rfl ?_
    refine wp_iadd dX10_spanOf_36 ?_
    obtain rfl := Option.some.inj h
    exact wp_ireturn (ty := .int) dX10_spanOf_37 rfl rfl ⟨rfl, rfl, rfl, rfl⟩
def f_X10_span (a1 : Int32) (a2 : Int32) (I : IT) : Option (Int32 × IT) :=
  (f_X10_isLot a1 I).bind fun r2 =>
  if r2 = 0 then
    some ((-1000001), I)
  else
    (f_X10_in a2.toInt64 0 1).bind fun r16 =>
    if r16 = 0 then
      some ((-1000002), I)
    else
      (f_X10_spanOf a1 a2 I).bind fun r25 =>
      some (r25.1, r25.2)
set_option maxRecDepth 100000 in
set_option maxHeartbeats 4000000 in
theorem c_X10_span (Γ : GT) (ad : Nat → Nat) (a1 : Int32) (a2 : Int32) (I : IT) (J : JT) (r : Int32 × IT) (h : f_X10_span a1 a2 I = some r) : CALL Γ mX10_span (0, 0) [.ref (ad 55), .int a1, .int a2] (DX ad) I J (QE (some (.int r.1)) (DX ad) r.2 J) := by
  refine call_of' (by decide) (Nat.le_of_ble_eq_true rfl) (lv0 := [(0, .ref (ad 55)), (1, .int a1), (2, .int a2)]) rfl ?_
  unfold f_X10_span at h
  refine wp_aload_n dX10_span_0 0 rfl ?_
  refine wp_iload_n dX10_span_1 1 rfl ?_
  obtain ⟨r2, h2, h⟩ := o_bind h
  refine wp_callvI (k := 55) (ci := 10) (c_X10_isLot Γ ad a1 I J r2 h2) dX10_span_2 mlX10_271 mwX10_isLot miX10_isLot rfl rfl rfl rfl (Nat.le_of_ble_eq_true rfl) rfl (by decide) (by decide) ?_
  refine wp_if_ne 12 dX10_span_5 rfl (fun c5 => ?_) (fun c5 => ?_)
  · replace h := o_neg h c5
    refine wp_iload_n dX10_span_12 2 rfl ?_
    refine wp_i2l dX10_span_13 ?_
    refine wp_lconst (v := 0) dX10_span_14 (by decide) ?_
    refine wp_lconst (v := 1) dX10_span_15 (by decide) ?_
    obtain ⟨r16, h16, h⟩ := o_bind h
    refine wp_callsI (c_X10_in Γ ad a2.toInt64 0 1 I J r16 h16) dX10_span_16 mlX10_134 mwX10_in miX10_in rfl (Nat.le_of_ble_eq_true rfl) rfl (by decide) (by decide) ?_
    refine wp_if_eq 31 dX10_span_19 rfl (fun c19 => ?_) (fun c19 => ?_)
    · replace h := o_pos h c19
      refine wp_ldc (v := (-1000002)) dX10_span_31 kcX10_143 ?_
      obtain rfl := Option.some.inj h
      exact wp_ireturn (ty := .int) dX10_span_33 rfl rfl ⟨rfl, rfl, rfl, rfl⟩
    · replace h := o_neg h c19
      refine wp_aload_n dX10_span_22 0 rfl ?_
      refine wp_iload_n dX10_span_23 1 rfl ?_
      refine wp_iload_n dX10_span_24 2 rfl ?_
      obtain ⟨r25, h25, h⟩ := o_bind h
      refine wp_callvI (k := 55) (ci := 10) (c_X10_spanOf Γ ad a1 a2 I J r25 h25) dX10_span_25 mlX10_352 mwX10_spanOf miX10_spanOf rfl rfl rfl rfl (Nat.le_of_ble_eq_true rfl) rfl (by decide) (by decide) ?_
      refine wp_goto 33 dX10_span_28 rfl ?_
      obtain rfl := Option.some.inj h
      exact wp_ireturn (ty := .int) dX10_span_33 rfl rfl ⟨rfl, rfl, rfl, rfl⟩
  · replace h := o_pos h c5
    refine wp_ldcw (v := (-1000001)) dX10_span_8 kcX10_264 ?_
    obtain rfl := Option.some.inj h
    exact wp_ireturn (ty := .int) dX10_span_11 rfl rfl ⟨rfl, rfl, rfl, rfl⟩
def f_X10_isRule (a0 : Int32) : Option (Int32) :=
  (f_X10_in a0.toInt64 0 2).bind fun r6 =>
  if r6 = 0 ∨ r6 = 1 then some r6 else none
set_option maxRecDepth 100000 in
set_option maxHeartbeats 4000000 in
theorem c_X10_isRule (Γ : GT) (ad : Nat → Nat) (a0 : Int32) (I : IT) (J : JT) (r : Int32) (h : f_X10_isRule a0 = some r) : CALL Γ mX10_isRule (0, 0) [.int a0] (DX ad) I J (QE (some (.int r)) (DX ad) I J) := by
  refine call_of' (by decide) (Nat.le_of_ble_eq_true rfl) (lv0 := [(0, .int a0)]) rfl ?_
  unfold f_X10_isRule at h
  refine wp_iload_n dX10_isRule_0 0 rfl ?_
  refine wp_i2l dX10_isRule_1 ?_
  refine wp_lconst (v := 0) dX10_isRule_2 (by decide) ?_
  refine wp_ldc2 (v := 2) dX10_isRule_3 klX10_297 ?_
  obtain ⟨r6, h6, h⟩ := o_bind h
  refine wp_callsI (c_X10_in Γ ad a0.toInt64 0 2 I J r6 h6) dX10_isRule_6 mlX10_134 mwX10_in miX10_in rfl (Nat.le_of_ble_eq_true rfl) rfl (by decide) (by decide) ?_
  obtain ⟨g9, h⟩ := o_grd h
  obtain rfl := Option.some.inj h
  exact wp_ireturn (ty := .boolean) dX10_isRule_9 rfl (isb_of g9) ⟨rfl, rfl, rfl, rfl⟩
def f_X10_tell (a1 : Int32) (a2 : Int32) (a3 : Int32) (I : IT) : Option (IT) :=
  (f_X10_sortOf a1 I).bind fun r2 =>
  if r2 = 0 then
    if inbB a2 6 = true then
      some (upI I 56 a2.toNatClampNeg a3)
    else none
  else
    if inbB ((6 * (a1 - (I 55 0))) + a2) 36 = true then
      some (upI I 58 (((6 * (a1 - (I 55 0))) + a2).toNatClampNeg) a3)
    else none
set_option maxRecDepth 100000 in
set_option maxHeartbeats 4000000 in
theorem c_X10_tell (Γ : GT) (ad : Nat → Nat) (a1 : Int32) (a2 : Int32) (a3 : Int32) (I : IT) (J : JT) (r : IT) (h : f_X10_tell a1 a2 a3 I = some r) : CALL Γ mX10_tell (0, 0) [.ref (ad 55), .int a1, .int a2, .int a3] (DX ad) I J (QE none (DX ad) r J) := by
  refine call_of' (by decide) (Nat.le_of_ble_eq_true rfl) (lv0 := [(0, .ref (ad 55)), (1, .int a1), (2, .int a2), (3, .int a3)]) rfl ?_
  unfold f_X10_tell at h
  refine wp_aload_n dX10_tell_0 0 rfl ?_
  refine wp_iload_n dX10_tell_1 1 rfl ?_
  obtain ⟨r2, h2, h⟩ := o_bind h
  refine wp_callvI (k := 55) (ci := 10) (c_X10_sortOf Γ ad a1 I J r2 h2) dX10_tell_2 mlX10_245 mwX10_sortOf miX10_sortOf rfl rfl rfl rfl (Nat.le_of_ble_eq_true rfl) rfl (by decide) (by decide) ?_
  refine wp_if_ne 18 dX10_tell_5 rfl (fun c5 => ?_) (fun c5 => ?_)
  · replace h := o_neg h c5
    refine wp_aload_n dX10_tell_18 0 rfl ?_
    refine wp_getR (k := 55) (a' := ad 58) dX10_tell_19 flX10_16 rfl rfl rfl rfl rfl ?_
    refine wp_bipush (v := 6) dX10_tell_22 (by decide) ?_
    refine wp_iload_n dX10_tell_24 1 rfl ?_
    refine wp_aload_n dX10_tell_25 0 rfl ?_
    refine wp_getI (k := 55) dX10_tell_26 flX10_121 rfl rfl rfl rfl ?_
    refine wp_isub dX10_tell_29 ?_
    refine wp_imul dX10_tell_30 ?_
    refine wp_iload_n dX10_tell_31 2 rfl ?_
    refine wp_iadd dX10_tell_32 ?_
    refine wp_iload_n dX10_tell_33 3 rfl ?_
    obtain ⟨g34, h⟩ := o_grd h
    refine wp_iast (k := 58) dX10_tell_34 rfl rfl (inb_of g34) ?_
    obtain rfl := Option.some.inj h
    exact wp_return dX10_tell_35 rfl ⟨rfl, rfl, rfl, rfl⟩
  · replace h := o_pos h c5
    refine wp_aload_n dX10_tell_8 0 rfl ?_
    refine wp_getR (k := 55) (a' := ad 56) dX10_tell_9 flX10_7 rfl rfl rfl rfl rfl ?_
    refine wp_iload_n dX10_tell_12 2 rfl ?_
    refine wp_iload_n dX10_tell_13 3 rfl ?_
    obtain ⟨g14, h⟩ := o_grd h
    refine wp_iast (k := 56) dX10_tell_14 rfl rfl (inb_of g14) ?_
    refine wp_goto 35 dX10_tell_15 rfl ?_
    obtain rfl := Option.some.inj h
    exact wp_return dX10_tell_35 rfl ⟨rfl, rfl, rfl, rfl⟩
def f_X10_priceBy (a1 : Int32) (a2 : Int32) (I : IT) : Option (Int32 × IT) :=
  if a1 = 0 then
    if inbB a2 6 = true then
      if inbB ((6 * (I 75 a2.toNatClampNeg)) + a2) 36 = true then
        if inbB a2 6 = true then
          some (((I 58 ((6 * (I 75 a2.toNatClampNeg)) + a2).toNatClampNeg) + (I 56 a2.toNatClampNeg)) / 2, I)
        else none
      else none
    else none
  else
    (f_X10_spanOf a2 (a1 - 1) I).bind fun r37 =>
    some (r37.1, r37.2)
set_option maxRecDepth 100000 in
set_option maxHeartbeats 4000000 in
theorem c_X10_priceBy (Γ : GT) (ad : Nat → Nat) (a1 : Int32) (a2 : Int32) (I : IT) (J : JT) (r : Int32 × IT) (h : f_X10_priceBy a1 a2 I = some r) : CALL Γ mX10_priceBy (0, 0) [.ref (ad 55), .int a1, .int a2] (DX ad) I J (QE (some (.int r.1)) (DX ad) r.2 J) := by
  refine call_of' (by decide) (Nat.le_of_ble_eq_true rfl) (lv0 := [(0, .ref (ad 55)), (1, .int a1), (2, .int a2)]) rfl ?_
  unfold f_X10_priceBy at h
  refine wp_iload_n dX10_priceBy_0 1 rfl ?_
  refine wp_if_ne 32 dX10_priceBy_1 rfl (fun c1 => ?_) (fun c1 => ?_)
  · replace h := o_neg h c1
    refine wp_aload_n dX10_priceBy_32 0 rfl ?_
    refine wp_iload_n dX10_priceBy_33 2 rfl ?_
    refine wp_iload_n dX10_priceBy_34 1 rfl ?_
    refine wp_iconst (v := 1) dX10_priceBy_35 (by decide) ?_
    refine wp_isub dX10_priceBy_36 ?_
    obtain ⟨r37, h37, h⟩ := o_bind h
    refine wp_callvI (k := 55) (ci := 10) (c_X10_spanOf Γ ad a2 (a1 - 1) I J r37 h37) dX10_priceBy_37 mlX10_352 mwX10_spanOf miX10_spanOf rfl rfl rfl rfl (Nat.le_of_ble_eq_true rfl) rfl (by decide) (by decide) ?_
    obtain rfl := Option.some.inj h
    exact wp_ireturn (ty := .int) dX10_priceBy_40 rfl rfl ⟨rfl, rfl, rfl, rfl⟩
  · replace h := o_pos h c1
    refine wp_aload_n dX10_priceBy_4 0 rfl ?_
    refine wp_getR (k := 55) (a' := ad 58) dX10_priceBy_5 flX10_16 rfl rfl rfl rfl rfl ?_
    refine wp_bipush (v := 6) dX10_priceBy_8 (by decide) ?_
    refine wp_aload_n dX10_priceBy_10 0 rfl ?_
    refine wp_getR (k := 55) (a' := ad 75) dX10_priceBy_11 flX10_77 rfl rfl rfl rfl rfl ?_
    refine wp_iload_n dX10_priceBy_14 2 rfl ?_
    obtain ⟨g15, h⟩ := o_grd h
    refine wp_iald (k := 75) dX10_priceBy_15 rfl rfl (inb_of g15) ?_
    refine wp_imul dX10_priceBy_16 ?_
    refine wp_iload_n dX10_priceBy_17 2 rfl ?_
    refine wp_iadd dX10_priceBy_18 ?_
    obtain ⟨g19, h⟩ := o_grd h
    refine wp_iald (k := 58) dX10_priceBy_19 rfl rfl (inb_of g19) ?_
    refine wp_aload_n dX10_priceBy_20 0 rfl ?_
    refine wp_getR (k := 55) (a' := ad 56) dX10_priceBy_21 flX10_7 rfl rfl rfl rfl rfl ?_
    refine wp_iload_n dX10_priceBy_24 2 rfl ?_
    obtain ⟨g25, h⟩ := o_grd h
    refine wp_iald (k := 56) dX10_priceBy_25 rfl rfl (inb_of g25) ?_
    refine wp_iadd dX10_priceBy_26 ?_
    refine wp_iconst (v := 2) dX10_priceBy_27 (by decide) ?_
    refine wp_idiv dX10_priceBy_28 (by decide) ?_
    refine wp_goto 40 dX10_priceBy_29 rfl ?_
    obtain rfl := Option.some.inj h
    exact wp_ireturn (ty := .int) dX10_priceBy_40 rfl rfl ⟨rfl, rfl, rfl, rfl⟩
