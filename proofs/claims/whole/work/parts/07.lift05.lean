/-! lifted: X2_bargainPrice X9_bargain X7_putScore X7_load J7_fill_d0a16_39 X7_allBuyers X7_withLot_39 X7_addLot_39 X7_fill_39 X7_scoreOfAll X7_keyIn X7_gainIn X7_lotsIn X7_buyerIn X9_best X7_open X7_scoreAsTold X7_withLot_40 J7_fill_d0a16_40 X7_addLot_40 X7_fill_40 X7_withLotTwice_39 X7_scoreWithTwo -/
def f_X2_bargainPrice_30 : Nat → Int32 → Int32 → Int32 → Int32 → IT → Option (Int32)
  | 0, _, _, _, _, _ => none
  | n + 1, v1, v4, v5, v6, I =>
    if v6 < 0 then
      if inbB v1 14 = true then
        some ((I 5 v1.toNatClampNeg) + v5)
      else none
    else
      (some (if (0 : Int32) < ((if (0 : Int32) < (v4 - (v6 * (I 3 4))) then (v4 - (v6 * (I 3 4))) else (0 : Int32)) - v5) then ((if (0 : Int32) < (v4 - (v6 * (I 3 4))) then (v4 - (v6 * (I 3 4))) else (0 : Int32)) - v5) else (0 : Int32))).bind fun x56 =>
      f_X2_bargainPrice_30 n v1 v4 x56 (v6 + (-1)) I
def f_X2_bargainPrice (a1 : Int32) (a2 : Int32) (a3 : Int32) (I : IT) : Option (Int32) :=
  (f_X2_worthOf a2 a1 I).bind fun r3 =>
  if inbB a1 14 = true then
    if 0 ≤ (r3 - (I 5 a1.toNatClampNeg)) then
      f_X2_bargainPrice_30 FU a1 (r3 - (I 5 a1.toNatClampNeg)) 0 (a3 - 1) I
    else
      some (-1)
  else none
set_option maxRecDepth 100000 in
set_option maxHeartbeats 4000000 in
theorem w_X2_bargainPrice_30 (Γ : GT) (ad : Nat → Nat) : ∀ (n : Nat) (v1 : Int32) (v4 : Int32) (v5 : Int32) (v6 : Int32) (I : IT) (J : JT) (r : Int32), f_X2_bargainPrice_30 n v1 v4 v5 v6 I = some r → WP Γ mX2_bargainPrice (0, 0) 30 [(0, .ref (ad 3)), (1, .int v1), (4, .int v4), (5, .int v5), (6, .int v6)] [] (DX ad) I J (QE (some (.int r)) (DX ad) I J) := by
  intro n
  induction n with
  | zero => intro v1 v4 v5 v6 I J r h; exact absurd h (by simp [f_X2_bargainPrice_30])
  | succ n ih =>
    intro v1 v4 v5 v6 I J r h
    rw [f_X2_bargainPrice_30] at h
    refine wp_iload dX2_bargainPrice_30 4 rfl ?_
    refine wp_if_lt 64 dX2_bargainPrice_32 rfl (fun c32 => ?_) (fun c32 => ?_)
    · replace h := o_pos h c32
      refine wp_aload_n dX2_bargainPrice_64 0 rfl ?_
      refine wp_getR (k := 3) (a' := ad 5) dX2_bargainPrice_65 flX2_15 rfl rfl rfl rfl rfl ?_
      refine wp_iload_n dX2_bargainPrice_68 1 rfl ?_
      obtain ⟨g69, h⟩ := o_grd h
      refine wp_iald (k := 5) dX2_bargainPrice_69 rfl rfl (inb_of g69) ?_
      refine wp_iload dX2_bargainPrice_70 3 rfl ?_
      refine wp_iadd dX2_bargainPrice_72 ?_
      obtain rfl := Option.some.inj h
      exact wp_ireturn (ty := .int) dX2_bargainPrice_73 rfl rfl ⟨rfl, rfl, rfl, rfl⟩
    · replace h := o_neg h c32
      refine wp_iconst (v := 0) dX2_bargainPrice_35 (by decide) ?_
      refine wp_iconst (v := 0) dX2_bargainPrice_36 (by decide) ?_
      refine wp_iload dX2_bargainPrice_37 2 rfl ?_
      refine wp_iload dX2_bargainPrice_39 4 rfl ?_
      refine wp_aload_n dX2_bargainPrice_41 0 rfl ?_
      refine wp_getI (k := 3) dX2_bargainPrice_42 flX2_37 rfl rfl rfl rfl ?_
      refine wp_imul dX2_bargainPrice_45 ?_
      refine wp_isub dX2_bargainPrice_46 ?_
      refine wp_mmax dX2_bargainPrice_47 mlX2_65 (by decide) (Nat.le_of_ble_eq_true rfl) ?_
      refine wp_iload dX2_bargainPrice_50 3 rfl ?_
      refine wp_isub dX2_bargainPrice_52 ?_
      refine wp_mmax dX2_bargainPrice_53 mlX2_65 (by decide) (Nat.le_of_ble_eq_true rfl) ?_
      refine wp_istore (lv' := [(0, _), (1, _), (4, _), (5, _), (6, _)]) dX2_bargainPrice_56 rfl rfl rfl ?_
      obtain ⟨x56, e56, h⟩ := o_bind h
      rw [Option.some.inj e56]
      refine wp_iinc (v := v6 + (-1)) (lv' := [(0, _), (1, _), (4, _), (5, _), (6, _)]) dX2_bargainPrice_58 4 rfl rfl rfl rfl rfl ?_
      refine wp_goto 30 dX2_bargainPrice_61 rfl ?_
      refine wp_pick [0, 1, 2, 3, 4] (lv' := [(0, _), (1, _), (4, _), (5, _), (6, _)]) rfl ?_
      exact ih v1 v4 x56 (v6 + (-1)) I J r h
set_option maxRecDepth 100000 in
set_option maxHeartbeats 4000000 in
theorem c_X2_bargainPrice (Γ : GT) (ad : Nat → Nat) (a1 : Int32) (a2 : Int32) (a3 : Int32) (I : IT) (J : JT) (r : Int32) (h : f_X2_bargainPrice a1 a2 a3 I = some r) : CALL Γ mX2_bargainPrice (0, 0) [.ref (ad 3), .int a1, .int a2, .int a3] (DX ad) I J (QE (some (.int r)) (DX ad) I J) := by
  refine call_of' (by decide) (Nat.le_of_ble_eq_true rfl) (lv0 := [(0, .ref (ad 3)), (1, .int a1), (2, .int a2), (3, .int a3)]) rfl ?_
  unfold f_X2_bargainPrice at h
  refine wp_aload_n dX2_bargainPrice_0 0 rfl ?_
  refine wp_iload_n dX2_bargainPrice_1 2 rfl ?_
  refine wp_iload_n dX2_bargainPrice_2 1 rfl ?_
  obtain ⟨r3, h3, h⟩ := o_bind h
  refine wp_callvI (k := 3) (ci := 2) (c_X2_worthOf Γ ad a2 a1 I J r3 h3) dX2_bargainPrice_3 mlX2_61 mwX2_worthOf miX2_worthOf rfl rfl rfl rfl (Nat.le_of_ble_eq_true rfl) rfl (by decide) (by decide) ?_
  refine wp_aload_n dX2_bargainPrice_6 0 rfl ?_
  refine wp_getR (k := 3) (a' := ad 5) dX2_bargainPrice_7 flX2_15 rfl rfl rfl rfl rfl ?_
  refine wp_iload_n dX2_bargainPrice_10 1 rfl ?_
  obtain ⟨g11, h⟩ := o_grd h
  refine wp_iald (k := 5) dX2_bargainPrice_11 rfl rfl (inb_of g11) ?_
  refine wp_isub dX2_bargainPrice_12 ?_
  refine wp_istore (lv' := [(0, _), (1, _), (2, _), (3, _), (4, _)]) dX2_bargainPrice_13 rfl rfl rfl ?_
  refine wp_iload dX2_bargainPrice_15 4 rfl ?_
  refine wp_if_ge 22 dX2_bargainPrice_17 rfl (fun c17 => ?_) (fun c17 => ?_)
  · replace h := o_pos h c17
    refine wp_iconst (v := 0) dX2_bargainPrice_22 (by decide) ?_
    refine wp_istore (lv' := [(0, _), (1, _), (2, _), (3, _), (4, _), (5, _)]) dX2_bargainPrice_23 rfl rfl rfl ?_
    refine wp_iload_n dX2_bargainPrice_25 3 rfl ?_
    refine wp_iconst (v := 1) dX2_bargainPrice_26 (by decide) ?_
    refine wp_isub dX2_bargainPrice_27 ?_
    refine wp_istore (lv' := [(0, _), (1, _), (2, _), (3, _), (4, _), (5, _), (6, _)]) dX2_bargainPrice_28 rfl rfl rfl ?_
    refine wp_pick [0, 1, 4, 5, 6] (lv' := [(0, _), (1, _), (4, _), (5, _), (6, _)]) rfl ?_
    exact w_X2_bargainPrice_30 Γ ad FU a1 (r3 - (I 5 a1.toNatClampNeg)) 0 (a3 - 1) I J r h
  · replace h := o_neg h c17
    refine wp_iconst (v := (-1)) dX2_bargainPrice_20 (by decide) ?_
    obtain rfl := Option.some.inj h
    exact wp_ireturn (ty := .int) dX2_bargainPrice_21 rfl rfl ⟨rfl, rfl, rfl, rfl⟩
def f_X9_bargain (a1 : Int32) (a2 : Int32) (a3 : Int32) (I : IT) : Option (Int32) :=
  (f_X2_hasLot a1 I).bind fun r5 =>
  if r5 = 0 then
    some (-1000001)
  else
    (f_X2_hasBuyer a2 I).bind fun r16 =>
    if r16 = 0 then
      some (-1000001)
    else
      (f_X9_isWithin a3 1 40).bind fun r29 =>
      if r29 = 0 then
        some (-1000002)
      else
        (f_X2_bargainPrice a1 a2 a3 I).bind fun r45 =>
        some r45
set_option maxRecDepth 100000 in
set_option maxHeartbeats 4000000 in
theorem c_X9_bargain (Γ : GT) (ad : Nat → Nat) (a1 : Int32) (a2 : Int32) (a3 : Int32) (I : IT) (J : JT) (r : Int32) (h : f_X9_bargain a1 a2 a3 I = some r) : CALL Γ mX9_bargain (0, 0) [.ref (ad 0), .int a1, .int a2, .int a3] (DX ad) I J (QE (some (.int r)) (DX ad) I J) := by
  refine call_of' (by decide) (Nat.le_of_ble_eq_true rfl) (lv0 := [(0, .ref (ad 0)), (1, .int a1), (2, .int a2), (3, .int a3)]) rfl ?_
  unfold f_X9_bargain at h
  refine wp_aload_n dX9_bargain_0 0 rfl ?_
  refine wp_getR (k := 0) (a' := ad 3) dX9_bargain_1 flX9_19 rfl rfl rfl rfl rfl ?_
  refine wp_iload_n dX9_bargain_4 1 rfl ?_
  obtain ⟨r5, h5, h⟩ := o_bind h
  refine wp_callvI (k := 3) (ci := 2) (c_X2_hasLot Γ ad a1 I J r5 h5) dX9_bargain_5 mlX9_176 mwX2_hasLot miX2_hasLot rfl rfl rfl rfl (Nat.le_of_ble_eq_true rfl) rfl (by decide) (by decide) ?_
  refine wp_if_eq 22 dX9_bargain_8 rfl (fun c8 => ?_) (fun c8 => ?_)
  · replace h := o_pos h c8
    refine wp_ldc (v := (-1000001)) dX9_bargain_22 kcX9_155 ?_
    obtain rfl := Option.some.inj h
    exact wp_ireturn (ty := .int) dX9_bargain_24 rfl rfl ⟨rfl, rfl, rfl, rfl⟩
  · replace h := o_neg h c8
    refine wp_aload_n dX9_bargain_11 0 rfl ?_
    refine wp_getR (k := 0) (a' := ad 3) dX9_bargain_12 flX9_19 rfl rfl rfl rfl rfl ?_
    refine wp_iload_n dX9_bargain_15 2 rfl ?_
    obtain ⟨r16, h16, h⟩ := o_bind h
    refine wp_callvI (k := 3) (ci := 2) (c_X2_hasBuyer Γ ad a2 I J r16 h16) dX9_bargain_16 mlX9_173 mwX2_hasBuyer miX2_hasBuyer rfl rfl rfl rfl (Nat.le_of_ble_eq_true rfl) rfl (by decide) (by decide) ?_
    refine wp_if_ne 25 dX9_bargain_19 rfl (fun c19 => ?_) (fun c19 => ?_)
    · replace h := o_neg h c19
      refine wp_iload_n dX9_bargain_25 3 rfl ?_
      refine wp_iconst (v := 1) dX9_bargain_26 (by decide) ?_
      refine wp_bipush (v := 40) dX9_bargain_27 (by decide) ?_
      obtain ⟨r29, h29, h⟩ := o_bind h
      refine wp_callsI (c_X9_isWithin Γ ad a3 1 40 I J r29 h29) dX9_bargain_29 mlX9_90 mwX9_isWithin miX9_isWithin rfl (Nat.le_of_ble_eq_true rfl) rfl (by decide) (by decide) ?_
      refine wp_if_ne 38 dX9_bargain_32 rfl (fun c32 => ?_) (fun c32 => ?_)
      · replace h := o_neg h c32
        refine wp_aload_n dX9_bargain_38 0 rfl ?_
        refine wp_getR (k := 0) (a' := ad 3) dX9_bargain_39 flX9_19 rfl rfl rfl rfl rfl ?_
        refine wp_iload_n dX9_bargain_42 1 rfl ?_
        refine wp_iload_n dX9_bargain_43 2 rfl ?_
        refine wp_iload_n dX9_bargain_44 3 rfl ?_
        obtain ⟨r45, h45, h⟩ := o_bind h
        refine wp_callvI (k := 3) (ci := 2) (c_X2_bargainPrice Γ ad a1 a2 a3 I J r45 h45) dX9_bargain_45 mlX9_246 mwX2_bargainPrice miX2_bargainPrice rfl rfl rfl rfl (Nat.le_of_ble_eq_true rfl) rfl (by decide) (by decide) ?_
        obtain rfl := Option.some.inj h
        exact wp_ireturn (ty := .int) dX9_bargain_48 rfl rfl ⟨rfl, rfl, rfl, rfl⟩
      · replace h := o_pos h c32
        refine wp_ldc (v := (-1000002)) dX9_bargain_35 kcX9_94 ?_
        obtain rfl := Option.some.inj h
        exact wp_ireturn (ty := .int) dX9_bargain_37 rfl rfl ⟨rfl, rfl, rfl, rfl⟩
    · replace h := o_pos h c19
      refine wp_ldc (v := (-1000001)) dX9_bargain_22 kcX9_155 ?_
      obtain rfl := Option.some.inj h
      exact wp_ireturn (ty := .int) dX9_bargain_24 rfl rfl ⟨rfl, rfl, rfl, rfl⟩
def f_X7_putScore (a1 : Int32) (a2 : Int32) (I : IT) (J : JT) : Option (JT) :=
  if inbB ((a1 * 6) + a2) 36 = true then
    if inbB a2 6 = true then
      if 0 ≤ ((I 37 ((a1 * 6) + a2).toNatClampNeg) - (I 36 a2.toNatClampNeg)) then
        if inbB a2 6 = true then
          if inbB ((a1 * 6) + a2) 36 = true then
            some (upJ J 38 (((a1 * 6) + a2).toNatClampNeg) (((((((I 37 ((a1 * 6) + a2).toNatClampNeg) - (I 36 a2.toNatClampNeg)) * 8) + 1).toInt64) * 235298) - ((a1 * (g_plI a2.toNatClampNeg)).toInt64)))
          else none
        else none
      else
        if inbB ((a1 * 6) + a2) 36 = true then
          some (upJ J 38 (((a1 * 6) + a2).toNatClampNeg) (-1152921504606846976))
        else none
    else none
  else none
set_option maxRecDepth 100000 in
set_option maxHeartbeats 4000000 in
theorem c_X7_putScore (Γ : GT) (ad : Nat → Nat) (a1 : Int32) (a2 : Int32) (I : IT) (J : JT) (r : JT) (h : f_X7_putScore a1 a2 I J = some r) : CALL Γ mX7_putScore (0, 0) [.ref (ad 35), .int a1, .int a2] (DX ad) I J (QE none (DX ad) I r) := by
  refine call_of' (by decide) (Nat.le_of_ble_eq_true rfl) (lv0 := [(0, .ref (ad 35)), (1, .int a1), (2, .int a2)]) rfl ?_
  unfold f_X7_putScore at h
  refine wp_iload_n dX7_putScore_0 1 rfl ?_
  refine wp_bipush (v := 6) dX7_putScore_1 (by decide) ?_
  refine wp_imul dX7_putScore_3 ?_
  refine wp_iload_n dX7_putScore_4 2 rfl ?_
  refine wp_iadd dX7_putScore_5 ?_
  refine wp_istore_n (lv' := [(0, _), (1, _), (2, _), (3, _)]) dX7_putScore_6 rfl rfl rfl rfl ?_
  refine wp_aload_n dX7_putScore_7 0 rfl ?_
  refine wp_getR (k := 35) (a' := ad 37) dX7_putScore_8 flX7_15 rfl rfl rfl rfl rfl ?_
  refine wp_iload_n dX7_putScore_11 3 rfl ?_
  obtain ⟨g12, h⟩ := o_grd h
  refine wp_iald (k := 37) dX7_putScore_12 rfl rfl (inb_of g12) ?_
  refine wp_aload_n dX7_putScore_13 0 rfl ?_
  refine wp_getR (k := 35) (a' := ad 36) dX7_putScore_14 flX7_9 rfl rfl rfl rfl rfl ?_
  refine wp_iload_n dX7_putScore_17 2 rfl ?_
  obtain ⟨g18, h⟩ := o_grd h
  refine wp_iald (k := 36) dX7_putScore_18 rfl rfl (inb_of g18) ?_
  refine wp_isub dX7_putScore_19 ?_
  refine wp_istore (lv' := [(0, _), (1, _), (2, _), (3, _), (4, _)]) dX7_putScore_20 rfl rfl rfl ?_
  refine wp_aload_n dX7_putScore_22 0 rfl ?_
  refine wp_getR (k := 35) (a' := ad 38) dX7_putScore_23 flX7_18 rfl rfl rfl rfl rfl ?_
  refine wp_iload_n dX7_putScore_26 3 rfl ?_
  refine wp_iload dX7_putScore_27 4 rfl ?_
  refine wp_if_ge 38 dX7_putScore_29 rfl (fun c29 => ?_) (fun c29 => ?_)
  · replace h := o_pos h c29
    refine wp_iload dX7_putScore_38 4 rfl ?_
    refine wp_bipush (v := 8) dX7_putScore_40 (by decide) ?_
    refine wp_imul dX7_putScore_42 ?_
    refine wp_iconst (v := 1) dX7_putScore_43 (by decide) ?_
    refine wp_iadd dX7_putScore_44 ?_
    refine wp_i2l dX7_putScore_45 ?_
    refine wp_ldc2 (v := 235298) dX7_putScore_46 klX7_38 ?_
    refine wp_lmul dX7_putScore_49 ?_
    refine wp_iload_n dX7_putScore_50 1 rfl ?_
    refine wp_places dX7_putScore_51 fsX7_40 ?_
    refine wp_iload_n dX7_putScore_54 2 rfl ?_
    obtain ⟨g55, h⟩ := o_grd h
    refine wp_placei (v := g_plI a2.toNatClampNeg) dX7_putScore_55 (inb_of g55) (g_plI_ok _) ?_
    refine wp_imul dX7_putScore_56 ?_
    refine wp_i2l dX7_putScore_57 ?_
    refine wp_lsub dX7_putScore_58 ?_
    obtain ⟨g59, h⟩ := o_grd h
    refine wp_last (k := 38) dX7_putScore_59 rfl rfl (inb_of g59) ?_
    obtain rfl := Option.some.inj h
    exact wp_return dX7_putScore_60 rfl ⟨rfl, rfl, rfl, rfl⟩
  · replace h := o_neg h c29
    refine wp_ldc2 (v := (-1152921504606846976)) dX7_putScore_32 klX7_142 ?_
    refine wp_goto 59 dX7_putScore_35 rfl ?_
    obtain ⟨g59, h⟩ := o_grd h
    refine wp_last (k := 38) dX7_putScore_59 rfl rfl (inb_of g59) ?_
    obtain rfl := Option.some.inj h
    exact wp_return dX7_putScore_60 rfl ⟨rfl, rfl, rfl, rfl⟩
def f_X7_load_51 : Nat → Int32 → Int32 → IT → JT → Option (JT)
  | 0, _, _, _, _ => none
  | n + 1, v1, v2, I, J =>
    if (I 3 0) ≤ v2 then
      some J
    else
      (f_X7_putScore v1 v2 I J).bind fun r65 =>
      f_X7_load_51 n v1 (v2 + 1) I r65
def f_X7_load_38 : Nat → Int32 → IT → JT → Option (IT × JT)
  | 0, _, _, _ => none
  | n + 1, v1, I, J =>
    if (I 3 1) ≤ v1 then
      some (I, J)
    else
      (f_X7_load_51 FU v1 0 I J).bind fun r51 =>
      f_X7_load_38 n (v1 + 1) I r51
def f_X7_load (I : IT) (J : JT) : Option (IT × JT) :=
  (some (upF I 36 (va_cpy (I 5) (I 36) (0 : Int32).toNatClampNeg (0 : Int32).toNatClampNeg (6 : Int32).toNatClampNeg))).bind fun i15 =>
  (some (upF i15 37 (va_cpy (i15 6) (i15 37) (0 : Int32).toNatClampNeg (0 : Int32).toNatClampNeg (36 : Int32).toNatClampNeg))).bind fun i33 =>
  f_X7_load_38 FU 0 i33 J
set_option maxRecDepth 100000 in
set_option maxHeartbeats 4000000 in
theorem w_X7_load_51 (Γ : GT) (ad : Nat → Nat) (Q : QT) : ∀ (n : Nat) (v1 : Int32) (v2 : Int32) (I : IT) (J : JT) (r : JT), f_X7_load_51 n v1 v2 I J = some r → WP Γ mX7_load (0, 0) 74 [(0, .ref (ad 35)), (1, .int v1)] [] (DX ad) I r Q → WP Γ mX7_load (0, 0) 51 [(0, .ref (ad 35)), (1, .int v1), (2, .int v2)] [] (DX ad) I J Q := by
  intro n
  induction n with
  | zero => intro v1 v2 I J r h K; exact absurd h (by simp [f_X7_load_51])
  | succ n ih =>
    intro v1 v2 I J r h K
    rw [f_X7_load_51] at h
    refine wp_iload_n dX7_load_51 2 rfl ?_
    refine wp_aload_n dX7_load_52 0 rfl ?_
    refine wp_getR (k := 35) (a' := ad 3) dX7_load_53 flX7_28 rfl rfl rfl rfl rfl ?_
    refine wp_getI (k := 3) dX7_load_56 flX7_90 rfl rfl rfl rfl ?_
    refine wp_icmp_ge 74 dX7_load_59 rfl (fun c59 => ?_) (fun c59 => ?_)
    · replace h := o_pos h c59
      obtain rfl := Option.some.inj h
      exact wp_pick [0, 1] (lv' := [(0, _), (1, _)]) rfl K
    · replace h := o_neg h c59
      refine wp_aload_n dX7_load_62 0 rfl ?_
      refine wp_iload_n dX7_load_63 1 rfl ?_
      refine wp_iload_n dX7_load_64 2 rfl ?_
      obtain ⟨r65, h65, h⟩ := o_bind h
      refine wp_callvV (k := 35) (ci := 7) (c_X7_putScore Γ ad v1 v2 I J r65 h65) dX7_load_65 mlX7_112 mwX7_putScore miX7_putScore rfl rfl rfl rfl (Nat.le_of_ble_eq_true rfl) rfl (by decide) (by decide) ?_
      refine wp_iinc (v := v2 + 1) (lv' := [(0, _), (1, _), (2, _)]) dX7_load_68 2 rfl rfl rfl rfl rfl ?_
      refine wp_goto 51 dX7_load_71 rfl ?_
      refine wp_pick [0, 1, 2] (lv' := [(0, _), (1, _), (2, _)]) rfl ?_
      exact ih v1 (v2 + 1) I r65 r h K
set_option maxRecDepth 100000 in
set_option maxHeartbeats 4000000 in
theorem w_X7_load_38 (Γ : GT) (ad : Nat → Nat) : ∀ (n : Nat) (v1 : Int32) (I : IT) (J : JT) (r : IT × JT), f_X7_load_38 n v1 I J = some r → WP Γ mX7_load (0, 0) 38 [(0, .ref (ad 35)), (1, .int v1)] [] (DX ad) I J (QE none (DX ad) r.1 r.2) := by
  intro n
  induction n with
  | zero => intro v1 I J r h; exact absurd h (by simp [f_X7_load_38])
  | succ n ih =>
    intro v1 I J r h
    rw [f_X7_load_38] at h
    refine wp_iload_n dX7_load_38 1 rfl ?_
    refine wp_aload_n dX7_load_39 0 rfl ?_
    refine wp_getR (k := 35) (a' := ad 3) dX7_load_40 flX7_28 rfl rfl rfl rfl rfl ?_
    refine wp_getI (k := 3) dX7_load_43 flX7_109 rfl rfl rfl rfl ?_
    refine wp_icmp_ge 80 dX7_load_46 rfl (fun c46 => ?_) (fun c46 => ?_)
    · replace h := o_pos h c46
      obtain rfl := Option.some.inj h
      exact wp_return dX7_load_80 rfl ⟨rfl, rfl, rfl, rfl⟩
    · replace h := o_neg h c46
      refine wp_iconst (v := 0) dX7_load_49 (by decide) ?_
      refine wp_istore_n (lv' := [(0, _), (1, _), (2, _)]) dX7_load_50 rfl rfl rfl rfl ?_
      refine wp_pick [0, 1, 2] (lv' := [(0, _), (1, _), (2, _)]) rfl ?_
      obtain ⟨r51, h51, h⟩ := o_bind h
      refine w_X7_load_51 Γ ad _ FU v1 0 I J r51 h51 ?_
      refine wp_iinc (v := v1 + 1) (lv' := [(0, _), (1, _)]) dX7_load_74 1 rfl rfl rfl rfl rfl ?_
      refine wp_goto 38 dX7_load_77 rfl ?_
      refine wp_pick [0, 1] (lv' := [(0, _), (1, _)]) rfl ?_
      exact ih (v1 + 1) I r51 r h
set_option maxRecDepth 100000 in
set_option maxHeartbeats 4000000 in
theorem c_X7_load (Γ : GT) (ad : Nat → Nat) (I : IT) (J : JT) (r : IT × JT) (h : f_X7_load I J = some r) : CALL Γ mX7_load (0, 0) [.ref (ad 35)] (DX ad) I J (QE none (DX ad) r.1 r.2) := by
  refine call_of' (by decide) (Nat.le_of_ble_eq_true rfl) (lv0 := [(0, .ref (ad 35))]) rfl ?_
  unfold f_X7_load at h
  refine wp_aload_n dX7_load_0 0 rfl ?_
  refine wp_getR (k := 35) (a' := ad 3) dX7_load_1 flX7_28 rfl rfl rfl rfl rfl ?_
  refine wp_getR (k := 3) (a' := ad 5) dX7_load_4 flX7_85 rfl rfl rfl rfl rfl ?_
  refine wp_iconst (v := 0) dX7_load_7 (by decide) ?_
  refine wp_aload_n dX7_load_8 0 rfl ?_
  refine wp_getR (k := 35) (a' := ad 36) dX7_load_9 flX7_9 rfl rfl rfl rfl rfl ?_
  refine wp_iconst (v := 0) dX7_load_12 (by decide) ?_
  refine wp_bipush (v := 6) dX7_load_13 (by decide) ?_
  refine wp_copyi (k0 := 5) (k1 := 36) dX7_load_15 mlX7_135 rfl rfl rfl rfl (by decide) (by decide) (by decide) (by decide) (by decide) (by decide) (Nat.le_of_ble_eq_true rfl) ?_
  obtain ⟨i15, e15, h⟩ := o_bind h
  refine wp_stI (Option.some.inj e15) ?_
  refine wp_aload_n dX7_load_18 0 rfl ?_
  refine wp_getR (k := 35) (a' := ad 3) dX7_load_19 flX7_28 rfl rfl rfl rfl rfl ?_
  refine wp_getR (k := 3) (a' := ad 6) dX7_load_22 flX7_141 rfl rfl rfl rfl rfl ?_
  refine wp_iconst (v := 0) dX7_load_25 (by decide) ?_
  refine wp_aload_n dX7_load_26 0 rfl ?_
  refine wp_getR (k := 35) (a' := ad 37) dX7_load_27 flX7_15 rfl rfl rfl rfl rfl ?_
  refine wp_iconst (v := 0) dX7_load_30 (by decide) ?_
  refine wp_bipush (v := 36) dX7_load_31 (by decide) ?_
  refine wp_copyi (k0 := 6) (k1 := 37) dX7_load_33 mlX7_135 rfl rfl rfl rfl (by decide) (by decide) (by decide) (by decide) (by decide) (by decide) (Nat.le_of_ble_eq_true rfl) ?_
  obtain ⟨i33, e33, h⟩ := o_bind h
  refine wp_stI (Option.some.inj e33) ?_
  refine wp_iconst (v := 0) dX7_load_36 (by decide) ?_
  refine wp_istore_n (lv' := [(0, _), (1, _)]) dX7_load_37 rfl rfl rfl rfl ?_
  refine wp_pick [0, 1] (lv' := [(0, _), (1, _)]) rfl ?_
  exact w_X7_load_38 Γ ad FU 0 i33 J r h
def f_J7_fill_d0a16_39_6 : Nat → Int64 → Int32 → Int32 → JT → Option (JT)
  | 0, _, _, _, _ => none
  | n + 1, v1, v3, v4, J =>
    if v4 ≤ v3 then
      some J
    else
      if inbB v3 64 = true then
        f_J7_fill_d0a16_39_6 n v1 (v3 + 1) v4 (upJ J 39 v3.toNatClampNeg v1)
      else none
def f_J7_fill_d0a16_39 (a1 : Int64) (J : JT) : Option (JT) :=
  f_J7_fill_d0a16_39_6 FU a1 0 64 J
set_option maxRecDepth 100000 in
set_option maxHeartbeats 4000000 in
theorem w_J7_fill_d0a16_39_6 (Γ : GT) (ad : Nat → Nat) : ∀ (n : Nat) (v1 : Int64) (v3 : Int32) (v4 : Int32) (I : IT) (J : JT) (r : JT), f_J7_fill_d0a16_39_6 n v1 v3 v4 J = some r → WP Γ mJ7_fill_d0a16 (0, 0) 6 [(0, .ref (ad 39)), (1, .long v1), (3, .int v3), (4, .int v4)] [] (DX ad) I J (QE none (DX ad) I r) := by
  intro n
  induction n with
  | zero => intro v1 v3 v4 I J r h; exact absurd h (by simp [f_J7_fill_d0a16_39_6])
  | succ n ih =>
    intro v1 v3 v4 I J r h
    rw [f_J7_fill_d0a16_39_6] at h
    refine wp_iload_n dJ7_fill_d0a16_6 2 rfl ?_
    refine wp_iload dJ7_fill_d0a16_7 3 rfl ?_
    refine wp_icmp_ge 22 dJ7_fill_d0a16_9 rfl (fun c9 => ?_) (fun c9 => ?_)
    · replace h := o_pos h c9
      obtain rfl := Option.some.inj h
      exact wp_return dJ7_fill_d0a16_22 rfl ⟨rfl, rfl, rfl, rfl⟩
    · replace h := o_neg h c9
      refine wp_aload_n dJ7_fill_d0a16_12 0 rfl ?_
      refine wp_iload_n dJ7_fill_d0a16_13 2 rfl ?_
      refine wp_lload_n dJ7_fill_d0a16_14 1 rfl ?_
      obtain ⟨g15, h⟩ := o_grd h
      refine wp_last (k := 39) dJ7_fill_d0a16_15 rfl rfl (inb_of g15) ?_
      refine wp_iinc (v := v3 + 1) (lv' := [(0, _), (1, _), (3, _), (4, _)]) dJ7_fill_d0a16_16 2 rfl rfl rfl rfl rfl ?_
      refine wp_goto 6 dJ7_fill_d0a16_19 rfl ?_
      refine wp_pick [0, 1, 2, 3] (lv' := [(0, _), (1, _), (3, _), (4, _)]) rfl ?_
      exact ih v1 (v3 + 1) v4 I (upJ J 39 v3.toNatClampNeg v1) r h
set_option maxRecDepth 100000 in
set_option maxHeartbeats 4000000 in
theorem c_J7_fill_d0a16_39 (Γ : GT) (ad : Nat → Nat) (a1 : Int64) (I : IT) (J : JT) (r : JT) (h : f_J7_fill_d0a16_39 a1 J = some r) : CALL Γ mJ7_fill_d0a16 (0, 0) [.ref (ad 39), .long a1] (DX ad) I J (QE none (DX ad) I r) := by
  refine call_of' (by decide) (Nat.le_of_ble_eq_true rfl) (lv0 := [(0, .ref (ad 39)), (1, .long a1)]) rfl ?_
  unfold f_J7_fill_d0a16_39 at h
  refine wp_iconst (v := 0) dJ7_fill_d0a16_0 (by decide) ?_
  refine wp_istore_n (lv' := [(0, _), (1, _), (3, _)]) dJ7_fill_d0a16_1 rfl rfl rfl rfl ?_
  refine wp_aload_n dJ7_fill_d0a16_2 0 rfl ?_
  refine wp_alen (k := 39) (v := 64) dJ7_fill_d0a16_3 rfl (by decide) rfl (by decide) ?_
  refine wp_istore (lv' := [(0, _), (1, _), (3, _), (4, _)]) dJ7_fill_d0a16_4 rfl rfl rfl ?_
  refine wp_pick [0, 1, 2, 3] (lv' := [(0, _), (1, _), (3, _), (4, _)]) rfl ?_
  exact w_J7_fill_d0a16_39_6 Γ ad FU a1 0 64 I J r h
def f_X7_allBuyers (I : IT) : Option (Int32) :=
  some (((1 : Int32) <<< ((I 3 1) &&& 31)) - 1)
set_option maxRecDepth 100000 in
set_option maxHeartbeats 4000000 in
theorem c_X7_allBuyers (Γ : GT) (ad : Nat → Nat) (I : IT) (J : JT) (r : Int32) (h : f_X7_allBuyers I = some r) : CALL Γ mX7_allBuyers (0, 0) [.ref (ad 35)] (DX ad) I J (QE (some (.int r)) (DX ad) I J) := by
  refine call_of' (by decide) (Nat.le_of_ble_eq_true rfl) (lv0 := [(0, .ref (ad 35))]) rfl ?_
  unfold f_X7_allBuyers at h
  refine wp_iconst (v := 1) dX7_allBuyers_0 (by decide) ?_
  refine wp_aload_n dX7_allBuyers_1 0 rfl ?_
  refine wp_getR (k := 35) (a' := ad 3) dX7_allBuyers_2 flX7_28 rfl rfl rfl rfl rfl ?_
  refine wp_getI (k := 3) dX7_allBuyers_5 flX7_109 rfl rfl rfl rfl ?_
  refine wp_ishl dX7_allBuyers_8 ?_
  refine wp_iconst (v := 1) dX7_allBuyers_9 (by decide) ?_
  refine wp_isub dX7_allBuyers_10 ?_
  obtain rfl := Option.some.inj h
  exact wp_ireturn (ty := .int) dX7_allBuyers_11 rfl rfl ⟨rfl, rfl, rfl, rfl⟩
def f_X7_withLot_39_18 : Nat → Int32 → Int32 → Int64 → Int32 → IT → JT → Option (Int64)
  | 0, _, _, _, _, _, _ => none
  | n + 1, v2, v3, v4, v6, I, J =>
    if (I 3 1) ≤ v6 then
      some v4
    else
      if ((v2 >>> (v6 &&& 31)) &&& 1) = (1 : Int32) then
        if inbB (v2 - ((1 : Int32) <<< (v6 &&& 31))) 64 = true then
          if inbB ((v6 * 6) + v3) 36 = true then
            if (lg_cmp ((J 39 (v2 - ((1 : Int32) <<< (v6 &&& 31))).toNatClampNeg) + (J 38 ((v6 * 6) + v3).toNatClampNeg)) v4) ≤ 0 then
              f_X7_withLot_39_18 n v2 v3 v4 (v6 + 1) I J
            else
              f_X7_withLot_39_18 n v2 v3 ((J 39 (v2 - ((1 : Int32) <<< (v6 &&& 31))).toNatClampNeg) + (J 38 ((v6 * 6) + v3).toNatClampNeg)) (v6 + 1) I J
          else none
        else none
      else
        f_X7_withLot_39_18 n v2 v3 v4 (v6 + 1) I J
def f_X7_withLot_39 (a2 : Int32) (a3 : Int32) (I : IT) (J : JT) : Option (Int64) :=
  if inbB a2 64 = true then
    if inbB a3 6 = true then
      f_X7_withLot_39_18 FU a2 a3 ((J 39 a2.toNatClampNeg) - ((6 * (g_plI a3.toNatClampNeg)).toInt64)) 0 I J
    else none
  else none
set_option maxRecDepth 100000 in
set_option maxHeartbeats 4000000 in
theorem w_X7_withLot_39_18 (Γ : GT) (ad : Nat → Nat) : ∀ (n : Nat) (v2 : Int32) (v3 : Int32) (v4 : Int64) (v6 : Int32) (I : IT) (J : JT) (r : Int64), f_X7_withLot_39_18 n v2 v3 v4 v6 I J = some r → WP Γ mX7_withLot (0, 0) 18 [(0, .ref (ad 35)), (1, .ref (ad 39)), (2, .int v2), (3, .int v3), (4, .long v4), (6, .int v6)] [] (DX ad) I J (QE (some (.long r)) (DX ad) I J) := by
  intro n
  induction n with
  | zero => intro v2 v3 v4 v6 I J r h; exact absurd h (by simp [f_X7_withLot_39_18])
  | succ n ih =>
    intro v2 v3 v4 v6 I J r h
    rw [f_X7_withLot_39_18] at h
    refine wp_iload dX7_withLot_18 5 rfl ?_
    refine wp_aload_n dX7_withLot_20 0 rfl ?_
    refine wp_getR (k := 35) (a' := ad 3) dX7_withLot_21 flX7_28 rfl rfl rfl rfl rfl ?_
    refine wp_getI (k := 3) dX7_withLot_24 flX7_109 rfl rfl rfl rfl ?_
    refine wp_icmp_ge 86 dX7_withLot_27 rfl (fun c27 => ?_) (fun c27 => ?_)
    · replace h := o_pos h c27
      refine wp_lload dX7_withLot_86 4 rfl ?_
      obtain rfl := Option.some.inj h
      exact wp_lreturn dX7_withLot_88 rfl ⟨rfl, rfl, rfl, rfl⟩
    · replace h := o_neg h c27
      refine wp_iload_n dX7_withLot_30 2 rfl ?_
      refine wp_iload dX7_withLot_31 5 rfl ?_
      refine wp_ishr dX7_withLot_33 ?_
      refine wp_iconst (v := 1) dX7_withLot_34 (by decide) ?_
      refine wp_iand dX7_withLot_35 ?_
      refine wp_iconst (v := 1) dX7_withLot_36 (by decide) ?_
      refine wp_icmp_ne 80 dX7_withLot_37 rfl (fun c37 => ?_) (fun c37 => ?_)
      · replace h := o_neg h c37
        refine wp_iinc (v := v6 + 1) (lv' := [(0, _), (1, _), (2, _), (3, _), (4, _), (6, _)]) dX7_withLot_80 5 rfl rfl rfl rfl rfl ?_
        refine wp_goto 18 dX7_withLot_83 rfl ?_
        refine wp_pick [0, 1, 2, 3, 4, 5] (lv' := [(0, _), (1, _), (2, _), (3, _), (4, _), (6, _)]) rfl ?_
        exact ih v2 v3 v4 (v6 + 1) I J r h
      · replace h := o_pos h c37
        refine wp_aload_n dX7_withLot_40 1 rfl ?_
        refine wp_iload_n dX7_withLot_41 2 rfl ?_
        refine wp_iconst (v := 1) dX7_withLot_42 (by decide) ?_
        refine wp_iload dX7_withLot_43 5 rfl ?_
        refine wp_ishl dX7_withLot_45 ?_
        refine wp_isub dX7_withLot_46 ?_
        obtain ⟨g47, h⟩ := o_grd h
        refine wp_lald (k := 39) dX7_withLot_47 rfl rfl (inb_of g47) ?_
        refine wp_aload_n dX7_withLot_48 0 rfl ?_
        refine wp_getR (k := 35) (a' := ad 38) dX7_withLot_49 flX7_18 rfl rfl rfl rfl rfl ?_
        refine wp_iload dX7_withLot_52 5 rfl ?_
        refine wp_bipush (v := 6) dX7_withLot_54 (by decide) ?_
        refine wp_imul dX7_withLot_56 ?_
        refine wp_iload_n dX7_withLot_57 3 rfl ?_
        refine wp_iadd dX7_withLot_58 ?_
        obtain ⟨g59, h⟩ := o_grd h
        refine wp_lald (k := 38) dX7_withLot_59 rfl rfl (inb_of g59) ?_
        refine wp_ladd dX7_withLot_60 ?_
        refine wp_lstore (lv' := [(0, _), (1, _), (2, _), (3, _), (4, _), (6, _), (7, _)]) dX7_withLot_61 rfl rfl rfl ?_
        refine wp_lload dX7_withLot_63 6 rfl ?_
        refine wp_lload dX7_withLot_65 4 rfl ?_
        refine wp_lcmp dX7_withLot_67 ?_
        refine wp_if_le 76 dX7_withLot_68 rfl (fun c68 => ?_) (fun c68 => ?_)
        · replace h := o_pos h c68
          refine wp_lload dX7_withLot_76 4 rfl ?_
          refine wp_lstore (lv' := [(0, _), (1, _), (2, _), (3, _), (4, _), (6, _), (7, _)]) dX7_withLot_78 rfl rfl rfl ?_
          refine wp_iinc (v := v6 + 1) (lv' := [(0, _), (1, _), (2, _), (3, _), (4, _), (6, _), (7, _)]) dX7_withLot_80 5 rfl rfl rfl rfl rfl ?_
          refine wp_goto 18 dX7_withLot_83 rfl ?_
          refine wp_pick [0, 1, 2, 3, 4, 5] (lv' := [(0, _), (1, _), (2, _), (3, _), (4, _), (6, _)]) rfl ?_
          exact ih v2 v3 v4 (v6 + 1) I J r h
        · replace h := o_neg h c68
          refine wp_lload dX7_withLot_71 6 rfl ?_
          refine wp_goto 78 dX7_withLot_73 rfl ?_
          refine wp_lstore (lv' := [(0, _), (1, _), (2, _), (3, _), (4, _), (6, _), (7, _)]) dX7_withLot_78 rfl rfl rfl ?_
          refine wp_iinc (v := v6 + 1) (lv' := [(0, _), (1, _), (2, _), (3, _), (4, _), (6, _), (7, _)]) dX7_withLot_80 5 rfl rfl rfl rfl rfl ?_
          refine wp_goto 18 dX7_withLot_83 rfl ?_
          refine wp_pick [0, 1, 2, 3, 4, 5] (lv' := [(0, _), (1, _), (2, _), (3, _), (4, _), (6, _)]) rfl ?_
          exact ih v2 v3 ((J 39 (v2 - ((1 : Int32) <<< (v6 &&& 31))).toNatClampNeg) + (J 38 ((v6 * 6) + v3).toNatClampNeg)) (v6 + 1) I J r h
set_option maxRecDepth 100000 in
set_option maxHeartbeats 4000000 in
theorem c_X7_withLot_39 (Γ : GT) (ad : Nat → Nat) (a2 : Int32) (a3 : Int32) (I : IT) (J : JT) (r : Int64) (h : f_X7_withLot_39 a2 a3 I J = some r) : CALL Γ mX7_withLot (0, 0) [.ref (ad 35), .ref (ad 39), .int a2, .int a3] (DX ad) I J (QE (some (.long r)) (DX ad) I J) := by
  refine call_of' (by decide) (Nat.le_of_ble_eq_true rfl) (lv0 := [(0, .ref (ad 35)), (1, .ref (ad 39)), (2, .int a2), (3, .int a3)]) rfl ?_
  unfold f_X7_withLot_39 at h
  refine wp_aload_n dX7_withLot_0 1 rfl ?_
  refine wp_iload_n dX7_withLot_1 2 rfl ?_
  obtain ⟨g2, h⟩ := o_grd h
  refine wp_lald (k := 39) dX7_withLot_2 rfl rfl (inb_of g2) ?_
  refine wp_bipush (v := 6) dX7_withLot_3 (by decide) ?_
  refine wp_places dX7_withLot_5 fsX7_40 ?_
  refine wp_iload_n dX7_withLot_8 3 rfl ?_
  obtain ⟨g9, h⟩ := o_grd h
  refine wp_placei (v := g_plI a3.toNatClampNeg) dX7_withLot_9 (inb_of g9) (g_plI_ok _) ?_
  refine wp_imul dX7_withLot_10 ?_
  refine wp_i2l dX7_withLot_11 ?_
  refine wp_lsub dX7_withLot_12 ?_
  refine wp_lstore (lv' := [(0, _), (1, _), (2, _), (3, _), (4, _)]) dX7_withLot_13 rfl rfl rfl ?_
  refine wp_iconst (v := 0) dX7_withLot_15 (by decide) ?_
  refine wp_istore (lv' := [(0, _), (1, _), (2, _), (3, _), (4, _), (6, _)]) dX7_withLot_16 rfl rfl rfl ?_
  refine wp_pick [0, 1, 2, 3, 4, 5] (lv' := [(0, _), (1, _), (2, _), (3, _), (4, _), (6, _)]) rfl ?_
  exact w_X7_withLot_39_18 Γ ad FU a2 a3 ((J 39 a2.toNatClampNeg) - ((6 * (g_plI a3.toNatClampNeg)).toInt64)) 0 I J r h
def f_X7_addLot_39_5 : Nat → Int32 → Int32 → IT → JT → Option (JT)
  | 0, _, _, _, _ => none
  | n + 1, v2, v3, I, J =>
    if v3 < 0 then
      some J
    else
      (f_X7_withLot_39 v3 v2 I J).bind fun r15 =>
      if inbB v3 64 = true then
        f_X7_addLot_39_5 n v2 (v3 + (-1)) I (upJ J 39 v3.toNatClampNeg r15)
      else none
def f_X7_addLot_39 (a2 : Int32) (I : IT) (J : JT) : Option (JT) :=
  (f_X7_allBuyers I).bind fun r1 =>
  f_X7_addLot_39_5 FU a2 r1 I J
set_option maxRecDepth 100000 in
set_option maxHeartbeats 4000000 in
theorem w_X7_addLot_39_5 (Γ : GT) (ad : Nat → Nat) : ∀ (n : Nat) (v2 : Int32) (v3 : Int32) (I : IT) (J : JT) (r : JT), f_X7_addLot_39_5 n v2 v3 I J = some r → WP Γ mX7_addLot (0, 0) 5 [(0, .ref (ad 35)), (1, .ref (ad 39)), (2, .int v2), (3, .int v3)] [] (DX ad) I J (QE none (DX ad) I r) := by
  intro n
  induction n with
  | zero => intro v2 v3 I J r h; exact absurd h (by simp [f_X7_addLot_39_5])
  | succ n ih =>
    intro v2 v3 I J r h
    rw [f_X7_addLot_39_5] at h
    refine wp_iload_n dX7_addLot_5 3 rfl ?_
    refine wp_if_lt 25 dX7_addLot_6 rfl (fun c6 => ?_) (fun c6 => ?_)
    · replace h := o_pos h c6
      obtain rfl := Option.some.inj h
      exact wp_return dX7_addLot_25 rfl ⟨rfl, rfl, rfl, rfl⟩
    · replace h := o_neg h c6
      refine wp_aload_n dX7_addLot_9 1 rfl ?_
      refine wp_iload_n dX7_addLot_10 3 rfl ?_
      refine wp_aload_n dX7_addLot_11 0 rfl ?_
      refine wp_aload_n dX7_addLot_12 1 rfl ?_
      refine wp_iload_n dX7_addLot_13 3 rfl ?_
      refine wp_iload_n dX7_addLot_14 2 rfl ?_
      obtain ⟨r15, h15, h⟩ := o_bind h
      refine wp_callvJ (k := 35) (ci := 7) (c_X7_withLot_39 Γ ad v3 v2 I J r15 h15) dX7_addLot_15 mlX7_127 mwX7_withLot miX7_withLot rfl rfl rfl rfl (Nat.le_of_ble_eq_true rfl) rfl (by decide) (by decide) ?_
      obtain ⟨g18, h⟩ := o_grd h
      refine wp_last (k := 39) dX7_addLot_18 rfl rfl (inb_of g18) ?_
      refine wp_iinc (v := v3 + (-1)) (lv' := [(0, _), (1, _), (2, _), (3, _)]) dX7_addLot_19 3 rfl rfl rfl rfl rfl ?_
      refine wp_goto 5 dX7_addLot_22 rfl ?_
      refine wp_pick [0, 1, 2, 3] (lv' := [(0, _), (1, _), (2, _), (3, _)]) rfl ?_
      exact ih v2 (v3 + (-1)) I (upJ J 39 v3.toNatClampNeg r15) r h
set_option maxRecDepth 100000 in
set_option maxHeartbeats 4000000 in
theorem c_X7_addLot_39 (Γ : GT) (ad : Nat → Nat) (a2 : Int32) (I : IT) (J : JT) (r : JT) (h : f_X7_addLot_39 a2 I J = some r) : CALL Γ mX7_addLot (0, 0) [.ref (ad 35), .ref (ad 39), .int a2] (DX ad) I J (QE none (DX ad) I r) := by
  refine call_of' (by decide) (Nat.le_of_ble_eq_true rfl) (lv0 := [(0, .ref (ad 35)), (1, .ref (ad 39)), (2, .int a2)]) rfl ?_
  unfold f_X7_addLot_39 at h
  refine wp_aload_n dX7_addLot_0 0 rfl ?_
  obtain ⟨r1, h1, h⟩ := o_bind h
  refine wp_callvI (k := 35) (ci := 7) (c_X7_allBuyers Γ ad I J r1 h1) dX7_addLot_1 mlX7_52 mwX7_allBuyers miX7_allBuyers rfl rfl rfl rfl (Nat.le_of_ble_eq_true rfl) rfl (by decide) (by decide) ?_
  refine wp_istore_n (lv' := [(0, _), (1, _), (2, _), (3, _)]) dX7_addLot_4 rfl rfl rfl rfl ?_
  refine wp_pick [0, 1, 2, 3] (lv' := [(0, _), (1, _), (2, _), (3, _)]) rfl ?_
  exact w_X7_addLot_39_5 Γ ad FU a2 r1 I J r h
def f_X7_fill_39_8 : Nat → Int32 → Int32 → Int32 → Int32 → IT → JT → Option (JT)
  | 0, _, _, _, _, _, _ => none
  | n + 1, v2, v3, v4, v5, I, J =>
    if (I 3 0) ≤ v5 then
      if v4 = ((-1) : Int32) then
        some J
      else
        (f_X7_addLot_39 v4 I J).bind fun r55 =>
        some r55
    else
      if v5 = v2 then
        f_X7_fill_39_8 n v2 v3 v4 (v5 + 1) I J
      else
        if v5 = v3 then
          f_X7_fill_39_8 n v2 v3 v4 (v5 + 1) I J
        else
          (f_X7_addLot_39 v5 I J).bind fun r36 =>
          f_X7_fill_39_8 n v2 v3 v4 (v5 + 1) I r36
def f_X7_fill_39 (a2 : Int32) (a3 : Int32) (a4 : Int32) (I : IT) (J : JT) : Option (JT) :=
  (f_J7_fill_d0a16_39 0 J).bind fun r2 =>
  f_X7_fill_39_8 FU a2 a3 a4 0 I r2
set_option maxRecDepth 100000 in
set_option maxHeartbeats 4000000 in
theorem w_X7_fill_39_8 (Γ : GT) (ad : Nat → Nat) : ∀ (n : Nat) (v2 : Int32) (v3 : Int32) (v4 : Int32) (v5 : Int32) (I : IT) (J : JT) (r : JT), f_X7_fill_39_8 n v2 v3 v4 v5 I J = some r → WP Γ mX7_fill (0, 0) 8 [(0, .ref (ad 35)), (1, .ref (ad 39)), (2, .int v2), (3, .int v3), (4, .int v4), (5, .int v5)] [] (DX ad) I J (QE none (DX ad) I r) := by
  intro n
  induction n with
  | zero => intro v2 v3 v4 v5 I J r h; exact absurd h (by simp [f_X7_fill_39_8])
  | succ n ih =>
    intro v2 v3 v4 v5 I J r h
    rw [f_X7_fill_39_8] at h
    refine wp_iload dX7_fill_8 5 rfl ?_
    refine wp_aload_n dX7_fill_10 0 rfl ?_
    refine wp_getR (k := 35) (a' := ad 3) dX7_fill_11 flX7_28 rfl rfl rfl rfl rfl ?_
    refine wp_getI (k := 3) dX7_fill_14 flX7_90 rfl rfl rfl rfl ?_
    refine wp_icmp_ge 45 dX7_fill_17 rfl (fun c17 => ?_) (fun c17 => ?_)
    · replace h := o_pos h c17
      refine wp_iload dX7_fill_45 4 rfl ?_
      refine wp_iconst (v := (-1)) dX7_fill_47 (by decide) ?_
      refine wp_icmp_eq 58 dX7_fill_48 rfl (fun c48 => ?_) (fun c48 => ?_)
      · replace h := o_pos h c48
        obtain rfl := Option.some.inj h
        exact wp_return dX7_fill_58 rfl ⟨rfl, rfl, rfl, rfl⟩
      · replace h := o_neg h c48
        refine wp_aload_n dX7_fill_51 0 rfl ?_
        refine wp_aload_n dX7_fill_52 1 rfl ?_
        refine wp_iload dX7_fill_53 4 rfl ?_
        obtain ⟨r55, h55, h⟩ := o_bind h
        refine wp_callvV (k := 35) (ci := 7) (c_X7_addLot_39 Γ ad v4 I J r55 h55) dX7_fill_55 mlX7_149 mwX7_addLot miX7_addLot rfl rfl rfl rfl (Nat.le_of_ble_eq_true rfl) rfl (by decide) (by decide) ?_
        obtain rfl := Option.some.inj h
        exact wp_return dX7_fill_58 rfl ⟨rfl, rfl, rfl, rfl⟩
    · replace h := o_neg h c17
      refine wp_iload dX7_fill_20 5 rfl ?_
      refine wp_iload_n dX7_fill_22 2 rfl ?_
      refine wp_icmp_eq 39 dX7_fill_23 rfl (fun c23 => ?_) (fun c23 => ?_)
      · replace h := o_pos h c23
        refine wp_iinc (v := v5 + 1) (lv' := [(0, _), (1, _), (2, _), (3, _), (4, _), (5, _)]) dX7_fill_39 5 rfl rfl rfl rfl rfl ?_
        refine wp_goto 8 dX7_fill_42 rfl ?_
        refine wp_pick [0, 1, 2, 3, 4, 5] (lv' := [(0, _), (1, _), (2, _), (3, _), (4, _), (5, _)]) rfl ?_
        exact ih v2 v3 v4 (v5 + 1) I J r h
      · replace h := o_neg h c23
        refine wp_iload dX7_fill_26 5 rfl ?_
        refine wp_iload_n dX7_fill_28 3 rfl ?_
        refine wp_icmp_eq 39 dX7_fill_29 rfl (fun c29 => ?_) (fun c29 => ?_)
        · replace h := o_pos h c29
          refine wp_iinc (v := v5 + 1) (lv' := [(0, _), (1, _), (2, _), (3, _), (4, _), (5, _)]) dX7_fill_39 5 rfl rfl rfl rfl rfl ?_
          refine wp_goto 8 dX7_fill_42 rfl ?_
          refine wp_pick [0, 1, 2, 3, 4, 5] (lv' := [(0, _), (1, _), (2, _), (3, _), (4, _), (5, _)]) rfl ?_
          exact ih v2 v3 v4 (v5 + 1) I J r h
        · replace h := o_neg h c29
          refine wp_aload_n dX7_fill_32 0 rfl ?_
          refine wp_aload_n dX7_fill_33 1 rfl ?_
          refine wp_iload dX7_fill_34 5 rfl ?_
          obtain ⟨r36, h36, h⟩ := o_bind h
          refine wp_callvV (k := 35) (ci := 7) (c_X7_addLot_39 Γ ad v5 I J r36 h36) dX7_fill_36 mlX7_149 mwX7_addLot miX7_addLot rfl rfl rfl rfl (Nat.le_of_ble_eq_true rfl) rfl (by decide) (by decide) ?_
          refine wp_iinc (v := v5 + 1) (lv' := [(0, _), (1, _), (2, _), (3, _), (4, _), (5, _)]) dX7_fill_39 5 rfl rfl rfl rfl rfl ?_
          refine wp_goto 8 dX7_fill_42 rfl ?_
          refine wp_pick [0, 1, 2, 3, 4, 5] (lv' := [(0, _), (1, _), (2, _), (3, _), (4, _), (5, _)]) rfl ?_
          exact ih v2 v3 v4 (v5 + 1) I r36 r h
set_option maxRecDepth 100000 in
set_option maxHeartbeats 4000000 in
theorem c_X7_fill_39 (Γ : GT) (ad : Nat → Nat) (a2 : Int32) (a3 : Int32) (a4 : Int32) (I : IT) (J : JT) (r : JT) (h : f_X7_fill_39 a2 a3 a4 I J = some r) : CALL Γ mX7_fill (0, 0) [.ref (ad 35), .ref (ad 39), .int a2, .int a3, .int a4] (DX ad) I J (QE none (DX ad) I r) := by
  refine call_of' (by decide) (Nat.le_of_ble_eq_true rfl) (lv0 := [(0, .ref (ad 35)), (1, .ref (ad 39)), (2, .int a2), (3, .int a3), (4, .int a4)]) rfl ?_
  unfold f_X7_fill_39 at h
  refine wp_aload_n dX7_fill_0 1 rfl ?_
  refine wp_lconst (v := 0) dX7_fill_1 (by decide) ?_
  obtain ⟨r2, h2, h⟩ := o_bind h
  refine wp_callsV (c_J7_fill_d0a16_39 Γ ad 0 I J r2 h2) dX7_fill_2 mlX7_144 mwJ7_fill_d0a16 miJ7_fill_d0a16 rfl (Nat.le_of_ble_eq_true rfl) rfl (by decide) (by decide) ?_
  refine wp_iconst (v := 0) dX7_fill_5 (by decide) ?_
  refine wp_istore (lv' := [(0, _), (1, _), (2, _), (3, _), (4, _), (5, _)]) dX7_fill_6 rfl rfl rfl ?_
  refine wp_pick [0, 1, 2, 3, 4, 5] (lv' := [(0, _), (1, _), (2, _), (3, _), (4, _), (5, _)]) rfl ?_
  exact w_X7_fill_39_8 Γ ad FU a2 a3 a4 0 I r2 r h
def f_X7_scoreOfAll (I : IT) (J : JT) : Option (Int64 × IT × JT) :=
  (f_X7_load I J).bind fun r1 =>
  (f_X7_fill_39 (-1) (-1) (-1) r1.1 r1.2).bind fun r12 =>
  (f_X7_allBuyers r1.1).bind fun r20 =>
  if inbB r20 64 = true then
    some (r12 39 r20.toNatClampNeg, r1.1, r12)
  else none
set_option maxRecDepth 100000 in
set_option maxHeartbeats 4000000 in
theorem c_X7_scoreOfAll (Γ : GT) (ad : Nat → Nat) (I : IT) (J : JT) (r : Int64 × IT × JT) (h : f_X7_scoreOfAll I J = some r) : CALL Γ mX7_scoreOfAll (0, 0) [.ref (ad 35)] (DX ad) I J (QE (some (.long r.1)) (DX ad) r.2.1 r.2.2) := by
  refine call_of' (by decide) (Nat.le_of_ble_eq_true rfl) (lv0 := [(0, .ref (ad 35))]) rfl ?_
  unfold f_X7_scoreOfAll at h
  refine wp_aload_n dX7_scoreOfAll_0 0 rfl ?_
  obtain ⟨r1, h1, h⟩ := o_bind h
  refine wp_callvV (k := 35) (ci := 7) (c_X7_load Γ ad I J r1 h1) dX7_scoreOfAll_1 mlX7_45 mwX7_load miX7_load rfl rfl rfl rfl (Nat.le_of_ble_eq_true rfl) rfl (by decide) (by decide) ?_
  refine wp_aload_n dX7_scoreOfAll_4 0 rfl ?_
  refine wp_aload_n dX7_scoreOfAll_5 0 rfl ?_
  refine wp_getR (k := 35) (a' := ad 39) dX7_scoreOfAll_6 flX7_22 rfl rfl rfl rfl rfl ?_
  refine wp_iconst (v := (-1)) dX7_scoreOfAll_9 (by decide) ?_
  refine wp_iconst (v := (-1)) dX7_scoreOfAll_10 (by decide) ?_
  refine wp_iconst (v := (-1)) dX7_scoreOfAll_11 (by decide) ?_
  obtain ⟨r12, h12, h⟩ := o_bind h
  refine wp_callvV (k := 35) (ci := 7) (c_X7_fill_39 Γ ad (-1) (-1) (-1) r1.1 r1.2 r12 h12) dX7_scoreOfAll_12 mlX7_48 mwX7_fill miX7_fill rfl rfl rfl rfl (Nat.le_of_ble_eq_true rfl) rfl (by decide) (by decide) ?_
  refine wp_aload_n dX7_scoreOfAll_15 0 rfl ?_
  refine wp_getR (k := 35) (a' := ad 39) dX7_scoreOfAll_16 flX7_22 rfl rfl rfl rfl rfl ?_
  refine wp_aload_n dX7_scoreOfAll_19 0 rfl ?_
  obtain ⟨r20, h20, h⟩ := o_bind h
  refine wp_callvI (k := 35) (ci := 7) (c_X7_allBuyers Γ ad r1.1 r12 r20 h20) dX7_scoreOfAll_20 mlX7_52 mwX7_allBuyers miX7_allBuyers rfl rfl rfl rfl (Nat.le_of_ble_eq_true rfl) rfl (by decide) (by decide) ?_
  obtain ⟨g23, h⟩ := o_grd h
  refine wp_lald (k := 39) dX7_scoreOfAll_23 rfl rfl (inb_of g23) ?_
  obtain rfl := Option.some.inj h
  exact wp_lreturn dX7_scoreOfAll_24 rfl ⟨rfl, rfl, rfl, rfl⟩
def f_X7_keyIn (a0 : Int64) : Option (Int64) :=
  some (((a0 + 235298) - 1) / 235298)
set_option maxRecDepth 100000 in
set_option maxHeartbeats 4000000 in
theorem c_X7_keyIn (Γ : GT) (ad : Nat → Nat) (a0 : Int64) (I : IT) (J : JT) (r : Int64) (h : f_X7_keyIn a0 = some r) : CALL Γ mX7_keyIn (0, 0) [.long a0] (DX ad) I J (QE (some (.long r)) (DX ad) I J) := by
  refine call_of' (by decide) (Nat.le_of_ble_eq_true rfl) (lv0 := [(0, .long a0)]) rfl ?_
  unfold f_X7_keyIn at h
  refine wp_lload_n dX7_keyIn_0 0 rfl ?_
  refine wp_ldc2 (v := 235298) dX7_keyIn_1 klX7_38 ?_
  refine wp_ladd dX7_keyIn_4 ?_
  refine wp_lconst (v := 1) dX7_keyIn_5 (by decide) ?_
  refine wp_lsub dX7_keyIn_6 ?_
  refine wp_ldc2 (v := 235298) dX7_keyIn_7 klX7_38 ?_
  refine wp_ldiv dX7_keyIn_10 (by decide) ?_
  obtain rfl := Option.some.inj h
  exact wp_lreturn dX7_keyIn_11 rfl ⟨rfl, rfl, rfl, rfl⟩
def f_X7_gainIn (a0 : Int64) : Option (Int32) :=
  (f_X7_keyIn a0).bind fun r1 =>
  some ((r1 / 8).toInt32)
set_option maxRecDepth 100000 in
set_option maxHeartbeats 4000000 in
theorem c_X7_gainIn (Γ : GT) (ad : Nat → Nat) (a0 : Int64) (I : IT) (J : JT) (r : Int32) (h : f_X7_gainIn a0 = some r) : CALL Γ mX7_gainIn (0, 0) [.long a0] (DX ad) I J (QE (some (.int r)) (DX ad) I J) := by
  refine call_of' (by decide) (Nat.le_of_ble_eq_true rfl) (lv0 := [(0, .long a0)]) rfl ?_
  unfold f_X7_gainIn at h
  refine wp_lload_n dX7_gainIn_0 0 rfl ?_
  obtain ⟨r1, h1, h⟩ := o_bind h
  refine wp_callsJ (c_X7_keyIn Γ ad a0 I J r1 h1) dX7_gainIn_1 mlX7_32 mwX7_keyIn miX7_keyIn rfl (Nat.le_of_ble_eq_true rfl) rfl (by decide) (by decide) ?_
  refine wp_ldc2 (v := 8) dX7_gainIn_4 klX7_36 ?_
  refine wp_ldiv dX7_gainIn_7 (by decide) ?_
  refine wp_l2i dX7_gainIn_8 ?_
  obtain rfl := Option.some.inj h
  exact wp_ireturn (ty := .int) dX7_gainIn_9 rfl rfl ⟨rfl, rfl, rfl, rfl⟩
def f_X7_lotsIn (a0 : Int64) : Option (Int32) :=
  (f_X7_keyIn a0).bind fun r1 =>
  some ((r1 - r1 / 8 * 8).toInt32)
set_option maxRecDepth 100000 in
set_option maxHeartbeats 4000000 in
theorem c_X7_lotsIn (Γ : GT) (ad : Nat → Nat) (a0 : Int64) (I : IT) (J : JT) (r : Int32) (h : f_X7_lotsIn a0 = some r) : CALL Γ mX7_lotsIn (0, 0) [.long a0] (DX ad) I J (QE (some (.int r)) (DX ad) I J) := by
  refine call_of' (by decide) (Nat.le_of_ble_eq_true rfl) (lv0 := [(0, .long a0)]) rfl ?_
  unfold f_X7_lotsIn at h
  refine wp_lload_n dX7_lotsIn_0 0 rfl ?_
  obtain ⟨r1, h1, h⟩ := o_bind h
  refine wp_callsJ (c_X7_keyIn Γ ad a0 I J r1 h1) dX7_lotsIn_1 mlX7_32 mwX7_keyIn miX7_keyIn rfl (Nat.le_of_ble_eq_true rfl) rfl (by decide) (by decide) ?_
  refine wp_ldc2 (v := 8) dX7_lotsIn_4 klX7_36 ?_
  refine wp_lrem dX7_lotsIn_7 (by decide) ?_
  refine wp_l2i dX7_lotsIn_8 ?_
  obtain rfl := Option.some.inj h
  exact wp_ireturn (ty := .int) dX7_lotsIn_9 rfl rfl ⟨rfl, rfl, rfl, rfl⟩
def f_X7_buyerIn (a0 : Int64) (a2 : Int32) (I : IT) : Option (Int32) :=
  (f_X7_keyIn a0).bind fun r1 =>
  if inbB a2 6 = true then
    if ¬ ((g_plI a2.toNatClampNeg).toInt64) = 0 then
      (some (((((r1 * 235298) - a0) / ((g_plI a2.toNatClampNeg).toInt64)) - (((r1 * 235298) - a0) / ((g_plI a2.toNatClampNeg).toInt64)) / 7 * 7).toInt32)).bind fun x24 =>
      if x24 = (6 : Int32) then
        some (-1)
      else
        some x24
    else none
  else none
set_option maxRecDepth 100000 in
set_option maxHeartbeats 4000000 in
theorem c_X7_buyerIn (Γ : GT) (ad : Nat → Nat) (a0 : Int64) (a2 : Int32) (I : IT) (J : JT) (r : Int32) (h : f_X7_buyerIn a0 a2 I = some r) : CALL Γ mX7_buyerIn (0, 0) [.long a0, .int a2] (DX ad) I J (QE (some (.int r)) (DX ad) I J) := by
  refine call_of' (by decide) (Nat.le_of_ble_eq_true rfl) (lv0 := [(0, .long a0), (2, .int a2)]) rfl ?_
  unfold f_X7_buyerIn at h
  refine wp_lload_n dX7_buyerIn_0 0 rfl ?_
  obtain ⟨r1, h1, h⟩ := o_bind h
  refine wp_callsJ (c_X7_keyIn Γ ad a0 I J r1 h1) dX7_buyerIn_1 mlX7_32 mwX7_keyIn miX7_keyIn rfl (Nat.le_of_ble_eq_true rfl) rfl (by decide) (by decide) ?_
  refine wp_ldc2 (v := 235298) dX7_buyerIn_4 klX7_38 ?_
  refine wp_lmul dX7_buyerIn_7 ?_
  refine wp_lload_n dX7_buyerIn_8 0 rfl ?_
  refine wp_lsub dX7_buyerIn_9 ?_
  refine wp_lstore_n (lv' := [(0, _), (2, _), (3, _)]) dX7_buyerIn_10 rfl rfl rfl rfl ?_
  refine wp_lload_n dX7_buyerIn_11 2 rfl ?_
  refine wp_places dX7_buyerIn_12 fsX7_40 ?_
  refine wp_iload_n dX7_buyerIn_15 1 rfl ?_
  obtain ⟨g16, h⟩ := o_grd h
  refine wp_placei (v := g_plI a2.toNatClampNeg) dX7_buyerIn_16 (inb_of g16) (g_plI_ok _) ?_
  refine wp_i2l dX7_buyerIn_17 ?_
  obtain ⟨g18, h⟩ := o_grd h
  refine wp_ldiv dX7_buyerIn_18 g18 ?_
  refine wp_ldc2 (v := 7) dX7_buyerIn_19 klX7_43 ?_
  refine wp_lrem dX7_buyerIn_22 (by decide) ?_
  refine wp_l2i dX7_buyerIn_23 ?_
  refine wp_istore (lv' := [(0, _), (2, _), (3, _), (5, _)]) dX7_buyerIn_24 rfl rfl rfl ?_
  obtain ⟨x24, e24, h⟩ := o_bind h
  rw [Option.some.inj e24]
  refine wp_iload dX7_buyerIn_26 3 rfl ?_
  refine wp_bipush (v := 6) dX7_buyerIn_28 (by decide) ?_
  refine wp_icmp_ne 37 dX7_buyerIn_30 rfl (fun c30 => ?_) (fun c30 => ?_)
  · replace h := o_neg h c30
    refine wp_iload dX7_buyerIn_37 3 rfl ?_
    obtain rfl := Option.some.inj h
    exact wp_ireturn (ty := .int) dX7_buyerIn_39 rfl rfl ⟨rfl, rfl, rfl, rfl⟩
  · replace h := o_pos h c30
    refine wp_iconst (v := (-1)) dX7_buyerIn_33 (by decide) ?_
    refine wp_goto 39 dX7_buyerIn_34 rfl ?_
    obtain rfl := Option.some.inj h
    exact wp_ireturn (ty := .int) dX7_buyerIn_39 rfl rfl ⟨rfl, rfl, rfl, rfl⟩
def f_X9_best (a1 : Int32) (I : IT) (J : JT) : Option (Int32 × IT × JT) :=
  (f_X9_isWithin a1 0 (1 + (I 3 0))).bind fun r11 =>
  if r11 = 0 then
    some ((-1000002), I, J)
  else
    (f_X7_scoreOfAll I J).bind fun r24 =>
    if a1 = 0 then
      (f_X7_gainIn r24.1).bind fun r57 =>
      some (r57, r24.2.1, r24.2.2)
    else
      if a1 = 1 then
        (f_X7_lotsIn r24.1).bind fun r62 =>
        some (r62, r24.2.1, r24.2.2)
      else
        (f_X7_buyerIn r24.1 (a1 - 2) r24.2.1).bind fun r70 =>
        some (r70, r24.2.1, r24.2.2)
set_option maxRecDepth 100000 in
set_option maxHeartbeats 4000000 in
theorem c_X9_best (Γ : GT) (ad : Nat → Nat) (a1 : Int32) (I : IT) (J : JT) (r : Int32 × IT × JT) (h : f_X9_best a1 I J = some r) : CALL Γ mX9_best (0, 0) [.ref (ad 0), .int a1] (DX ad) I J (QE (some (.int r.1)) (DX ad) r.2.1 r.2.2) := by
  refine call_of' (by decide) (Nat.le_of_ble_eq_true rfl) (lv0 := [(0, .ref (ad 0)), (1, .int a1)]) rfl ?_
  unfold f_X9_best at h
  refine wp_iload_n dX9_best_0 1 rfl ?_
  refine wp_iconst (v := 0) dX9_best_1 (by decide) ?_
  refine wp_iconst (v := 1) dX9_best_2 (by decide) ?_
  refine wp_aload_n dX9_best_3 0 rfl ?_
  refine wp_getR (k := 0) (a' := ad 3) dX9_best_4 flX9_19 rfl rfl rfl rfl rfl ?_
  refine wp_getI (k := 3) dX9_best_7 flX9_130 rfl rfl rfl rfl ?_
  refine wp_iadd dX9_best_10 ?_
  obtain ⟨r11, h11, h⟩ := o_bind h
  refine wp_callsI (c_X9_isWithin Γ ad a1 0 (1 + (I 3 0)) I J r11 h11) dX9_best_11 mlX9_90 mwX9_isWithin miX9_isWithin rfl (Nat.le_of_ble_eq_true rfl) rfl (by decide) (by decide) ?_
  refine wp_if_ne 20 dX9_best_14 rfl (fun c14 => ?_) (fun c14 => ?_)
  · replace h := o_neg h c14
    refine wp_aload_n dX9_best_20 0 rfl ?_
    refine wp_getR (k := 0) (a' := ad 35) dX9_best_21 flX9_52 rfl rfl rfl rfl rfl ?_
    obtain ⟨r24, h24, h⟩ := o_bind h
    refine wp_callvJ (k := 35) (ci := 7) (c_X7_scoreOfAll Γ ad I J r24 h24) dX9_best_24 mlX9_250 mwX7_scoreOfAll miX7_scoreOfAll rfl rfl rfl rfl (Nat.le_of_ble_eq_true rfl) rfl (by decide) (by decide) ?_
    refine wp_lstore_n (lv' := [(0, _), (1, _), (2, _)]) dX9_best_27 rfl rfl rfl rfl ?_
    refine wp_iload_n dX9_best_28 1 rfl ?_
    by_cases e29_0 : a1 = 0
    · replace h := o_pos h e29_0
      refine wp_lookup (off := 27) 56 dX9_best_29 (by decide) (by rw [e29_0]; decide) rfl ?_
      refine wp_lload_n dX9_best_56 2 rfl ?_
      obtain ⟨r57, h57, h⟩ := o_bind h
      refine wp_callsI (c_X7_gainIn Γ ad r24.1 r24.2.1 r24.2.2 r57 h57) dX9_best_57 mlX9_254 mwX7_gainIn miX7_gainIn rfl (Nat.le_of_ble_eq_true rfl) rfl (by decide) (by decide) ?_
      obtain rfl := Option.some.inj h
      exact wp_ireturn (ty := .int) dX9_best_60 rfl rfl ⟨rfl, rfl, rfl, rfl⟩
    · replace h := o_neg h e29_0
      by_cases e29_1 : a1 = 1
      · replace h := o_pos h e29_1
        refine wp_lookup (off := 32) 61 dX9_best_29 (by decide) (by rw [e29_1]; decide) rfl ?_
        refine wp_lload_n dX9_best_61 2 rfl ?_
        obtain ⟨r62, h62, h⟩ := o_bind h
        refine wp_callsI (c_X7_lotsIn Γ ad r24.1 r24.2.1 r24.2.2 r62 h62) dX9_best_62 mlX9_258 mwX7_lotsIn miX7_lotsIn rfl (Nat.le_of_ble_eq_true rfl) rfl (by decide) (by decide) ?_
        obtain rfl := Option.some.inj h
        exact wp_ireturn (ty := .int) dX9_best_65 rfl rfl ⟨rfl, rfl, rfl, rfl⟩
      · replace h := o_neg h e29_1
        refine wp_lookup (off := 37) 66 dX9_best_29 (by decide) (by rw [lv_osw e29_0 (by decide), lv_osw e29_1 (by decide)]; rfl) rfl ?_
        refine wp_lload_n dX9_best_66 2 rfl ?_
        refine wp_iload_n dX9_best_67 1 rfl ?_
        refine wp_iconst (v := 2) dX9_best_68 (by decide) ?_
        refine wp_isub dX9_best_69 ?_
        obtain ⟨r70, h70, h⟩ := o_bind h
        refine wp_callsI (c_X7_buyerIn Γ ad r24.1 (a1 - 2) r24.2.1 r24.2.2 r70 h70) dX9_best_70 mlX9_261 mwX7_buyerIn miX7_buyerIn rfl (Nat.le_of_ble_eq_true rfl) rfl (by decide) (by decide) ?_
        obtain rfl := Option.some.inj h
        exact wp_ireturn (ty := .int) dX9_best_73 rfl rfl ⟨rfl, rfl, rfl, rfl⟩
  · replace h := o_pos h c14
    refine wp_ldc (v := (-1000002)) dX9_best_17 kcX9_94 ?_
    obtain rfl := Option.some.inj h
    exact wp_ireturn (ty := .int) dX9_best_19 rfl rfl ⟨rfl, rfl, rfl, rfl⟩
def f_X7_open (a1 : Int32) (a2 : Int32) (a3 : Int32) (I : IT) (J : JT) : Option (IT × JT) :=
  (f_X7_load (upI (upI (upI (upI I 35 7 a1) 35 8 a2) 35 9 a3) 35 6 (-1)) J).bind fun r21 =>
  (f_X7_fill_39 a3 (-1) (-1) r21.1 r21.2).bind fun r32 =>
  some (r21.1, r32)
set_option maxRecDepth 100000 in
set_option maxHeartbeats 4000000 in
theorem c_X7_open (Γ : GT) (ad : Nat → Nat) (a1 : Int32) (a2 : Int32) (a3 : Int32) (I : IT) (J : JT) (r : IT × JT) (h : f_X7_open a1 a2 a3 I J = some r) : CALL Γ mX7_open (0, 0) [.ref (ad 35), .int a1, .int a2, .int a3] (DX ad) I J (QE none (DX ad) r.1 r.2) := by
  refine call_of' (by decide) (Nat.le_of_ble_eq_true rfl) (lv0 := [(0, .ref (ad 35)), (1, .int a1), (2, .int a2), (3, .int a3)]) rfl ?_
  unfold f_X7_open at h
  refine wp_aload_n dX7_open_0 0 rfl ?_
  refine wp_iload_n dX7_open_1 1 rfl ?_
  refine wp_putI (k := 35) dX7_open_2 flX7_68 rfl rfl rfl rfl rfl rfl rfl rfl ?_
  refine wp_aload_n dX7_open_5 0 rfl ?_
  refine wp_iload_n dX7_open_6 2 rfl ?_
  refine wp_putI (k := 35) dX7_open_7 flX7_72 rfl rfl rfl rfl rfl rfl rfl rfl ?_
  refine wp_aload_n dX7_open_10 0 rfl ?_
  refine wp_iload_n dX7_open_11 3 rfl ?_
  refine wp_putI (k := 35) dX7_open_12 flX7_75 rfl rfl rfl rfl rfl rfl rfl rfl ?_
  refine wp_aload_n dX7_open_15 0 rfl ?_
  refine wp_iconst (v := (-1)) dX7_open_16 (by decide) ?_
  refine wp_putI (k := 35) dX7_open_17 flX7_78 rfl rfl rfl rfl rfl rfl rfl rfl ?_
  refine wp_aload_n dX7_open_20 0 rfl ?_
  obtain ⟨r21, h21, h⟩ := o_bind h
  refine wp_callvV (k := 35) (ci := 7) (c_X7_load Γ ad (upI (upI (upI (upI I 35 7 a1) 35 8 a2) 35 9 a3) 35 6 (-1)) J r21 h21) dX7_open_21 mlX7_45 mwX7_load miX7_load rfl rfl rfl rfl (Nat.le_of_ble_eq_true rfl) rfl (by decide) (by decide) ?_
  refine wp_aload_n dX7_open_24 0 rfl ?_
  refine wp_aload_n dX7_open_25 0 rfl ?_
  refine wp_getR (k := 35) (a' := ad 39) dX7_open_26 flX7_22 rfl rfl rfl rfl rfl ?_
  refine wp_iload_n dX7_open_29 3 rfl ?_
  refine wp_iconst (v := (-1)) dX7_open_30 (by decide) ?_
  refine wp_iconst (v := (-1)) dX7_open_31 (by decide) ?_
  obtain ⟨r32, h32, h⟩ := o_bind h
  refine wp_callvV (k := 35) (ci := 7) (c_X7_fill_39 Γ ad a3 (-1) (-1) r21.1 r21.2 r32 h32) dX7_open_32 mlX7_48 mwX7_fill miX7_fill rfl rfl rfl rfl (Nat.le_of_ble_eq_true rfl) rfl (by decide) (by decide) ?_
  obtain rfl := Option.some.inj h
  exact wp_return dX7_open_35 rfl ⟨rfl, rfl, rfl, rfl⟩
def f_X7_scoreAsTold (I : IT) (J : JT) : Option (Int64) :=
  (f_X7_allBuyers I).bind fun r6 =>
  (f_X7_withLot_39 r6 (I 35 9) I J).bind fun r13 =>
  some r13
set_option maxRecDepth 100000 in
set_option maxHeartbeats 4000000 in
theorem c_X7_scoreAsTold (Γ : GT) (ad : Nat → Nat) (I : IT) (J : JT) (r : Int64) (h : f_X7_scoreAsTold I J = some r) : CALL Γ mX7_scoreAsTold (0, 0) [.ref (ad 35)] (DX ad) I J (QE (some (.long r)) (DX ad) I J) := by
  refine call_of' (by decide) (Nat.le_of_ble_eq_true rfl) (lv0 := [(0, .ref (ad 35))]) rfl ?_
  unfold f_X7_scoreAsTold at h
  refine wp_aload_n dX7_scoreAsTold_0 0 rfl ?_
  refine wp_aload_n dX7_scoreAsTold_1 0 rfl ?_
  refine wp_getR (k := 35) (a' := ad 39) dX7_scoreAsTold_2 flX7_22 rfl rfl rfl rfl rfl ?_
  refine wp_aload_n dX7_scoreAsTold_5 0 rfl ?_
  obtain ⟨r6, h6, h⟩ := o_bind h
  refine wp_callvI (k := 35) (ci := 7) (c_X7_allBuyers Γ ad I J r6 h6) dX7_scoreAsTold_6 mlX7_52 mwX7_allBuyers miX7_allBuyers rfl rfl rfl rfl (Nat.le_of_ble_eq_true rfl) rfl (by decide) (by decide) ?_
  refine wp_aload_n dX7_scoreAsTold_9 0 rfl ?_
  refine wp_getI (k := 35) dX7_scoreAsTold_10 flX7_75 rfl rfl rfl rfl ?_
  obtain ⟨r13, h13, h⟩ := o_bind h
  refine wp_callvJ (k := 35) (ci := 7) (c_X7_withLot_39 Γ ad r6 (I 35 9) I J r13 h13) dX7_scoreAsTold_13 mlX7_127 mwX7_withLot miX7_withLot rfl rfl rfl rfl (Nat.le_of_ble_eq_true rfl) rfl (by decide) (by decide) ?_
  obtain rfl := Option.some.inj h
  exact wp_lreturn dX7_scoreAsTold_16 rfl ⟨rfl, rfl, rfl, rfl⟩
def f_X7_withLot_40_18 : Nat → Int32 → Int32 → Int64 → Int32 → IT → JT → Option (Int64)
  | 0, _, _, _, _, _, _ => none
  | n + 1, v2, v3, v4, v6, I, J =>
    if (I 3 1) ≤ v6 then
      some v4
    else
      if ((v2 >>> (v6 &&& 31)) &&& 1) = (1 : Int32) then
        if inbB (v2 - ((1 : Int32) <<< (v6 &&& 31))) 64 = true then
          if inbB ((v6 * 6) + v3) 36 = true then
            if (lg_cmp ((J 40 (v2 - ((1 : Int32) <<< (v6 &&& 31))).toNatClampNeg) + (J 38 ((v6 * 6) + v3).toNatClampNeg)) v4) ≤ 0 then
              f_X7_withLot_40_18 n v2 v3 v4 (v6 + 1) I J
            else
              f_X7_withLot_40_18 n v2 v3 ((J 40 (v2 - ((1 : Int32) <<< (v6 &&& 31))).toNatClampNeg) + (J 38 ((v6 * 6) + v3).toNatClampNeg)) (v6 + 1) I J
          else none
        else none
      else
        f_X7_withLot_40_18 n v2 v3 v4 (v6 + 1) I J
def f_X7_withLot_40 (a2 : Int32) (a3 : Int32) (I : IT) (J : JT) : Option (Int64) :=
  if inbB a2 64 = true then
    if inbB a3 6 = true then
      f_X7_withLot_40_18 FU a2 a3 ((J 40 a2.toNatClampNeg) - ((6 * (g_plI a3.toNatClampNeg)).toInt64)) 0 I J
    else none
  else none
set_option maxRecDepth 100000 in
set_option maxHeartbeats 4000000 in
theorem w_X7_withLot_40_18 (Γ : GT) (ad : Nat → Nat) : ∀ (n : Nat) (v2 : Int32) (v3 : Int32) (v4 : Int64) (v6 : Int32) (I : IT) (J : JT) (r : Int64), f_X7_withLot_40_18 n v2 v3 v4 v6 I J = some r → WP Γ mX7_withLot (0, 0) 18 [(0, .ref (ad 35)), (1, .ref (ad 40)), (2, .int v2), (3, .int v3), (4, .long v4), (6, .int v6)] [] (DX ad) I J (QE (some (.long r)) (DX ad) I J) := by
  intro n
  induction n with
  | zero => intro v2 v3 v4 v6 I J r h; exact absurd h (by simp [f_X7_withLot_40_18])
  | succ n ih =>
    intro v2 v3 v4 v6 I J r h
    rw [f_X7_withLot_40_18] at h
    refine wp_iload dX7_withLot_18 5 rfl ?_
    refine wp_aload_n dX7_withLot_20 0 rfl ?_
    refine wp_getR (k := 35) (a' := ad 3) dX7_withLot_21 flX7_28 rfl rfl rfl rfl rfl ?_
    refine wp_getI (k := 3) dX7_withLot_24 flX7_109 rfl rfl rfl rfl ?_
    refine wp_icmp_ge 86 dX7_withLot_27 rfl (fun c27 => ?_) (fun c27 => ?_)
    · replace h := o_pos h c27
      refine wp_lload dX7_withLot_86 4 rfl ?_
      obtain rfl := Option.some.inj h
      exact wp_lreturn dX7_withLot_88 rfl ⟨rfl, rfl, rfl, rfl⟩
    · replace h := o_neg h c27
      refine wp_iload_n dX7_withLot_30 2 rfl ?_
      refine wp_iload dX7_withLot_31 5 rfl ?_
      refine wp_ishr dX7_withLot_33 ?_
      refine wp_iconst (v := 1) dX7_withLot_34 (by decide) ?_
      refine wp_iand dX7_withLot_35 ?_
      refine wp_iconst (v := 1) dX7_withLot_36 (by decide) ?_
      refine wp_icmp_ne 80 dX7_withLot_37 rfl (fun c37 => ?_) (fun c37 => ?_)
      · replace h := o_neg h c37
        refine wp_iinc (v := v6 + 1) (lv' := [(0, _), (1, _), (2, _), (3, _), (4, _), (6, _)]) dX7_withLot_80 5 rfl rfl rfl rfl rfl ?_
        refine wp_goto 18 dX7_withLot_83 rfl ?_
        refine wp_pick [0, 1, 2, 3, 4, 5] (lv' := [(0, _), (1, _), (2, _), (3, _), (4, _), (6, _)]) rfl ?_
        exact ih v2 v3 v4 (v6 + 1) I J r h
      · replace h := o_pos h c37
        refine wp_aload_n dX7_withLot_40 1 rfl ?_
        refine wp_iload_n dX7_withLot_41 2 rfl ?_
        refine wp_iconst (v := 1) dX7_withLot_42 (by decide) ?_
        refine wp_iload dX7_withLot_43 5 rfl ?_
        refine wp_ishl dX7_withLot_45 ?_
        refine wp_isub dX7_withLot_46 ?_
        obtain ⟨g47, h⟩ := o_grd h
        refine wp_lald (k := 40) dX7_withLot_47 rfl rfl (inb_of g47) ?_
        refine wp_aload_n dX7_withLot_48 0 rfl ?_
        refine wp_getR (k := 35) (a' := ad 38) dX7_withLot_49 flX7_18 rfl rfl rfl rfl rfl ?_
        refine wp_iload dX7_withLot_52 5 rfl ?_
        refine wp_bipush (v := 6) dX7_withLot_54 (by decide) ?_
        refine wp_imul dX7_withLot_56 ?_
        refine wp_iload_n dX7_withLot_57 3 rfl ?_
        refine wp_iadd dX7_withLot_58 ?_
        obtain ⟨g59, h⟩ := o_grd h
        refine wp_lald (k := 38) dX7_withLot_59 rfl rfl (inb_of g59) ?_
        refine wp_ladd dX7_withLot_60 ?_
        refine wp_lstore (lv' := [(0, _), (1, _), (2, _), (3, _), (4, _), (6, _), (7, _)]) dX7_withLot_61 rfl rfl rfl ?_
        refine wp_lload dX7_withLot_63 6 rfl ?_
        refine wp_lload dX7_withLot_65 4 rfl ?_
        refine wp_lcmp dX7_withLot_67 ?_
        refine wp_if_le 76 dX7_withLot_68 rfl (fun c68 => ?_) (fun c68 => ?_)
        · replace h := o_pos h c68
          refine wp_lload dX7_withLot_76 4 rfl ?_
          refine wp_lstore (lv' := [(0, _), (1, _), (2, _), (3, _), (4, _), (6, _), (7, _)]) dX7_withLot_78 rfl rfl rfl ?_
          refine wp_iinc (v := v6 + 1) (lv' := [(0, _), (1, _), (2, _), (3, _), (4, _), (6, _), (7, _)]) dX7_withLot_80 5 rfl rfl rfl rfl rfl ?_
          refine wp_goto 18 dX7_withLot_83 rfl ?_
          refine wp_pick [0, 1, 2, 3, 4, 5] (lv' := [(0, _), (1, _), (2, _), (3, _), (4, _), (6, _)]) rfl ?_
          exact ih v2 v3 v4 (v6 + 1) I J r h
        · replace h := o_neg h c68
          refine wp_lload dX7_withLot_71 6 rfl ?_
          refine wp_goto 78 dX7_withLot_73 rfl ?_
          refine wp_lstore (lv' := [(0, _), (1, _), (2, _), (3, _), (4, _), (6, _), (7, _)]) dX7_withLot_78 rfl rfl rfl ?_
          refine wp_iinc (v := v6 + 1) (lv' := [(0, _), (1, _), (2, _), (3, _), (4, _), (6, _), (7, _)]) dX7_withLot_80 5 rfl rfl rfl rfl rfl ?_
          refine wp_goto 18 dX7_withLot_83 rfl ?_
          refine wp_pick [0, 1, 2, 3, 4, 5] (lv' := [(0, _), (1, _), (2, _), (3, _), (4, _), (6, _)]) rfl ?_
          exact ih v2 v3 ((J 40 (v2 - ((1 : Int32) <<< (v6 &&& 31))).toNatClampNeg) + (J 38 ((v6 * 6) + v3).toNatClampNeg)) (v6 + 1) I J r h
set_option maxRecDepth 100000 in
set_option maxHeartbeats 4000000 in
theorem c_X7_withLot_40 (Γ : GT) (ad : Nat → Nat) (a2 : Int32) (a3 : Int32) (I : IT) (J : JT) (r : Int64) (h : f_X7_withLot_40 a2 a3 I J = some r) : CALL Γ mX7_withLot (0, 0) [.ref (ad 35), .ref (ad 40), .int a2, .int a3] (DX ad) I J (QE (some (.long r)) (DX ad) I J) := by
  refine call_of' (by decide) (Nat.le_of_ble_eq_true rfl) (lv0 := [(0, .ref (ad 35)), (1, .ref (ad 40)), (2, .int a2), (3, .int a3)]) rfl ?_
  unfold f_X7_withLot_40 at h
  refine wp_aload_n dX7_withLot_0 1 rfl ?_
  refine wp_iload_n dX7_withLot_1 2 rfl ?_
  obtain ⟨g2, h⟩ := o_grd h
  refine wp_lald (k := 40) dX7_withLot_2 rfl rfl (inb_of g2) ?_
  refine wp_bipush (v := 6) dX7_withLot_3 (by decide) ?_
  refine wp_places dX7_withLot_5 fsX7_40 ?_
  refine wp_iload_n dX7_withLot_8 3 rfl ?_
  obtain ⟨g9, h⟩ := o_grd h
  refine wp_placei (v := g_plI a3.toNatClampNeg) dX7_withLot_9 (inb_of g9) (g_plI_ok _) ?_
  refine wp_imul dX7_withLot_10 ?_
  refine wp_i2l dX7_withLot_11 ?_
  refine wp_lsub dX7_withLot_12 ?_
  refine wp_lstore (lv' := [(0, _), (1, _), (2, _), (3, _), (4, _)]) dX7_withLot_13 rfl rfl rfl ?_
  refine wp_iconst (v := 0) dX7_withLot_15 (by decide) ?_
  refine wp_istore (lv' := [(0, _), (1, _), (2, _), (3, _), (4, _), (6, _)]) dX7_withLot_16 rfl rfl rfl ?_
  refine wp_pick [0, 1, 2, 3, 4, 5] (lv' := [(0, _), (1, _), (2, _), (3, _), (4, _), (6, _)]) rfl ?_
  exact w_X7_withLot_40_18 Γ ad FU a2 a3 ((J 40 a2.toNatClampNeg) - ((6 * (g_plI a3.toNatClampNeg)).toInt64)) 0 I J r h
def f_J7_fill_d0a16_40_6 : Nat → Int64 → Int32 → Int32 → JT → Option (JT)
  | 0, _, _, _, _ => none
  | n + 1, v1, v3, v4, J =>
    if v4 ≤ v3 then
      some J
    else
      if inbB v3 64 = true then
        f_J7_fill_d0a16_40_6 n v1 (v3 + 1) v4 (upJ J 40 v3.toNatClampNeg v1)
      else none
def f_J7_fill_d0a16_40 (a1 : Int64) (J : JT) : Option (JT) :=
  f_J7_fill_d0a16_40_6 FU a1 0 64 J
set_option maxRecDepth 100000 in
set_option maxHeartbeats 4000000 in
theorem w_J7_fill_d0a16_40_6 (Γ : GT) (ad : Nat → Nat) : ∀ (n : Nat) (v1 : Int64) (v3 : Int32) (v4 : Int32) (I : IT) (J : JT) (r : JT), f_J7_fill_d0a16_40_6 n v1 v3 v4 J = some r → WP Γ mJ7_fill_d0a16 (0, 0) 6 [(0, .ref (ad 40)), (1, .long v1), (3, .int v3), (4, .int v4)] [] (DX ad) I J (QE none (DX ad) I r) := by
  intro n
  induction n with
  | zero => intro v1 v3 v4 I J r h; exact absurd h (by simp [f_J7_fill_d0a16_40_6])
  | succ n ih =>
    intro v1 v3 v4 I J r h
    rw [f_J7_fill_d0a16_40_6] at h
    refine wp_iload_n dJ7_fill_d0a16_6 2 rfl ?_
    refine wp_iload dJ7_fill_d0a16_7 3 rfl ?_
    refine wp_icmp_ge 22 dJ7_fill_d0a16_9 rfl (fun c9 => ?_) (fun c9 => ?_)
    · replace h := o_pos h c9
      obtain rfl := Option.some.inj h
      exact wp_return dJ7_fill_d0a16_22 rfl ⟨rfl, rfl, rfl, rfl⟩
    · replace h := o_neg h c9
      refine wp_aload_n dJ7_fill_d0a16_12 0 rfl ?_
      refine wp_iload_n dJ7_fill_d0a16_13 2 rfl ?_
      refine wp_lload_n dJ7_fill_d0a16_14 1 rfl ?_
      obtain ⟨g15, h⟩ := o_grd h
      refine wp_last (k := 40) dJ7_fill_d0a16_15 rfl rfl (inb_of g15) ?_
      refine wp_iinc (v := v3 + 1) (lv' := [(0, _), (1, _), (3, _), (4, _)]) dJ7_fill_d0a16_16 2 rfl rfl rfl rfl rfl ?_
      refine wp_goto 6 dJ7_fill_d0a16_19 rfl ?_
      refine wp_pick [0, 1, 2, 3] (lv' := [(0, _), (1, _), (3, _), (4, _)]) rfl ?_
      exact ih v1 (v3 + 1) v4 I (upJ J 40 v3.toNatClampNeg v1) r h
set_option maxRecDepth 100000 in
set_option maxHeartbeats 4000000 in
theorem c_J7_fill_d0a16_40 (Γ : GT) (ad : Nat → Nat) (a1 : Int64) (I : IT) (J : JT) (r : JT) (h : f_J7_fill_d0a16_40 a1 J = some r) : CALL Γ mJ7_fill_d0a16 (0, 0) [.ref (ad 40), .long a1] (DX ad) I J (QE none (DX ad) I r) := by
  refine call_of' (by decide) (Nat.le_of_ble_eq_true rfl) (lv0 := [(0, .ref (ad 40)), (1, .long a1)]) rfl ?_
  unfold f_J7_fill_d0a16_40 at h
  refine wp_iconst (v := 0) dJ7_fill_d0a16_0 (by decide) ?_
  refine wp_istore_n (lv' := [(0, _), (1, _), (3, _)]) dJ7_fill_d0a16_1 rfl rfl rfl rfl ?_
  refine wp_aload_n dJ7_fill_d0a16_2 0 rfl ?_
  refine wp_alen (k := 40) (v := 64) dJ7_fill_d0a16_3 rfl (by decide) rfl (by decide) ?_
  refine wp_istore (lv' := [(0, _), (1, _), (3, _), (4, _)]) dJ7_fill_d0a16_4 rfl rfl rfl ?_
  refine wp_pick [0, 1, 2, 3] (lv' := [(0, _), (1, _), (3, _), (4, _)]) rfl ?_
  exact w_J7_fill_d0a16_40_6 Γ ad FU a1 0 64 I J r h
def f_X7_addLot_40_5 : Nat → Int32 → Int32 → IT → JT → Option (JT)
  | 0, _, _, _, _ => none
  | n + 1, v2, v3, I, J =>
    if v3 < 0 then
      some J
    else
      (f_X7_withLot_40 v3 v2 I J).bind fun r15 =>
      if inbB v3 64 = true then
        f_X7_addLot_40_5 n v2 (v3 + (-1)) I (upJ J 40 v3.toNatClampNeg r15)
      else none
def f_X7_addLot_40 (a2 : Int32) (I : IT) (J : JT) : Option (JT) :=
  (f_X7_allBuyers I).bind fun r1 =>
  f_X7_addLot_40_5 FU a2 r1 I J
set_option maxRecDepth 100000 in
set_option maxHeartbeats 4000000 in
theorem w_X7_addLot_40_5 (Γ : GT) (ad : Nat → Nat) : ∀ (n : Nat) (v2 : Int32) (v3 : Int32) (I : IT) (J : JT) (r : JT), f_X7_addLot_40_5 n v2 v3 I J = some r → WP Γ mX7_addLot (0, 0) 5 [(0, .ref (ad 35)), (1, .ref (ad 40)), (2, .int v2), (3, .int v3)] [] (DX ad) I J (QE none (DX ad) I r) := by
  intro n
  induction n with
  | zero => intro v2 v3 I J r h; exact absurd h (by simp [f_X7_addLot_40_5])
  | succ n ih =>
    intro v2 v3 I J r h
    rw [f_X7_addLot_40_5] at h
    refine wp_iload_n dX7_addLot_5 3 rfl ?_
    refine wp_if_lt 25 dX7_addLot_6 rfl (fun c6 => ?_) (fun c6 => ?_)
    · replace h := o_pos h c6
      obtain rfl := Option.some.inj h
      exact wp_return dX7_addLot_25 rfl ⟨rfl, rfl, rfl, rfl⟩
    · replace h := o_neg h c6
      refine wp_aload_n dX7_addLot_9 1 rfl ?_
      refine wp_iload_n dX7_addLot_10 3 rfl ?_
      refine wp_aload_n dX7_addLot_11 0 rfl ?_
      refine wp_aload_n dX7_addLot_12 1 rfl ?_
      refine wp_iload_n dX7_addLot_13 3 rfl ?_
      refine wp_iload_n dX7_addLot_14 2 rfl ?_
      obtain ⟨r15, h15, h⟩ := o_bind h
      refine wp_callvJ (k := 35) (ci := 7) (c_X7_withLot_40 Γ ad v3 v2 I J r15 h15) dX7_addLot_15 mlX7_127 mwX7_withLot miX7_withLot rfl rfl rfl rfl (Nat.le_of_ble_eq_true rfl) rfl (by decide) (by decide) ?_
      obtain ⟨g18, h⟩ := o_grd h
      refine wp_last (k := 40) dX7_addLot_18 rfl rfl (inb_of g18) ?_
      refine wp_iinc (v := v3 + (-1)) (lv' := [(0, _), (1, _), (2, _), (3, _)]) dX7_addLot_19 3 rfl rfl rfl rfl rfl ?_
      refine wp_goto 5 dX7_addLot_22 rfl ?_
      refine wp_pick [0, 1, 2, 3] (lv' := [(0, _), (1, _), (2, _), (3, _)]) rfl ?_
      exact ih v2 (v3 + (-1)) I (upJ J 40 v3.toNatClampNeg r15) r h
set_option maxRecDepth 100000 in
set_option maxHeartbeats 4000000 in
theorem c_X7_addLot_40 (Γ : GT) (ad : Nat → Nat) (a2 : Int32) (I : IT) (J : JT) (r : JT) (h : f_X7_addLot_40 a2 I J = some r) : CALL Γ mX7_addLot (0, 0) [.ref (ad 35), .ref (ad 40), .int a2] (DX ad) I J (QE none (DX ad) I r) := by
  refine call_of' (by decide) (Nat.le_of_ble_eq_true rfl) (lv0 := [(0, .ref (ad 35)), (1, .ref (ad 40)), (2, .int a2)]) rfl ?_
  unfold f_X7_addLot_40 at h
  refine wp_aload_n dX7_addLot_0 0 rfl ?_
  obtain ⟨r1, h1, h⟩ := o_bind h
  refine wp_callvI (k := 35) (ci := 7) (c_X7_allBuyers Γ ad I J r1 h1) dX7_addLot_1 mlX7_52 mwX7_allBuyers miX7_allBuyers rfl rfl rfl rfl (Nat.le_of_ble_eq_true rfl) rfl (by decide) (by decide) ?_
  refine wp_istore_n (lv' := [(0, _), (1, _), (2, _), (3, _)]) dX7_addLot_4 rfl rfl rfl rfl ?_
  refine wp_pick [0, 1, 2, 3] (lv' := [(0, _), (1, _), (2, _), (3, _)]) rfl ?_
  exact w_X7_addLot_40_5 Γ ad FU a2 r1 I J r h
def f_X7_fill_40_8 : Nat → Int32 → Int32 → Int32 → Int32 → IT → JT → Option (JT)
  | 0, _, _, _, _, _, _ => none
  | n + 1, v2, v3, v4, v5, I, J =>
    if (I 3 0) ≤ v5 then
      if v4 = ((-1) : Int32) then
        some J
      else
        (f_X7_addLot_40 v4 I J).bind fun r55 =>
        some r55
    else
      if v5 = v2 then
        f_X7_fill_40_8 n v2 v3 v4 (v5 + 1) I J
      else
        if v5 = v3 then
          f_X7_fill_40_8 n v2 v3 v4 (v5 + 1) I J
        else
          (f_X7_addLot_40 v5 I J).bind fun r36 =>
          f_X7_fill_40_8 n v2 v3 v4 (v5 + 1) I r36
def f_X7_fill_40 (a2 : Int32) (a3 : Int32) (a4 : Int32) (I : IT) (J : JT) : Option (JT) :=
  (f_J7_fill_d0a16_40 0 J).bind fun r2 =>
  f_X7_fill_40_8 FU a2 a3 a4 0 I r2
set_option maxRecDepth 100000 in
set_option maxHeartbeats 4000000 in
theorem w_X7_fill_40_8 (Γ : GT) (ad : Nat → Nat) : ∀ (n : Nat) (v2 : Int32) (v3 : Int32) (v4 : Int32) (v5 : Int32) (I : IT) (J : JT) (r : JT), f_X7_fill_40_8 n v2 v3 v4 v5 I J = some r → WP Γ mX7_fill (0, 0) 8 [(0, .ref (ad 35)), (1, .ref (ad 40)), (2, .int v2), (3, .int v3), (4, .int v4), (5, .int v5)] [] (DX ad) I J (QE none (DX ad) I r) := by
  intro n
  induction n with
  | zero => intro v2 v3 v4 v5 I J r h; exact absurd h (by simp [f_X7_fill_40_8])
  | succ n ih =>
    intro v2 v3 v4 v5 I J r h
    rw [f_X7_fill_40_8] at h
    refine wp_iload dX7_fill_8 5 rfl ?_
    refine wp_aload_n dX7_fill_10 0 rfl ?_
    refine wp_getR (k := 35) (a' := ad 3) dX7_fill_11 flX7_28 rfl rfl rfl rfl rfl ?_
    refine wp_getI (k := 3) dX7_fill_14 flX7_90 rfl rfl rfl rfl ?_
    refine wp_icmp_ge 45 dX7_fill_17 rfl (fun c17 => ?_) (fun c17 => ?_)
    · replace h := o_pos h c17
      refine wp_iload dX7_fill_45 4 rfl ?_
      refine wp_iconst (v := (-1)) dX7_fill_47 (by decide) ?_
      refine wp_icmp_eq 58 dX7_fill_48 rfl (fun c48 => ?_) (fun c48 => ?_)
      · replace h := o_pos h c48
        obtain rfl := Option.some.inj h
        exact wp_return dX7_fill_58 rfl ⟨rfl, rfl, rfl, rfl⟩
      · replace h := o_neg h c48
        refine wp_aload_n dX7_fill_51 0 rfl ?_
        refine wp_aload_n dX7_fill_52 1 rfl ?_
        refine wp_iload dX7_fill_53 4 rfl ?_
        obtain ⟨r55, h55, h⟩ := o_bind h
        refine wp_callvV (k := 35) (ci := 7) (c_X7_addLot_40 Γ ad v4 I J r55 h55) dX7_fill_55 mlX7_149 mwX7_addLot miX7_addLot rfl rfl rfl rfl (Nat.le_of_ble_eq_true rfl) rfl (by decide) (by decide) ?_
        obtain rfl := Option.some.inj h
        exact wp_return dX7_fill_58 rfl ⟨rfl, rfl, rfl, rfl⟩
    · replace h := o_neg h c17
      refine wp_iload dX7_fill_20 5 rfl ?_
      refine wp_iload_n dX7_fill_22 2 rfl ?_
      refine wp_icmp_eq 39 dX7_fill_23 rfl (fun c23 => ?_) (fun c23 => ?_)
      · replace h := o_pos h c23
        refine wp_iinc (v := v5 + 1) (lv' := [(0, _), (1, _), (2, _), (3, _), (4, _), (5, _)]) dX7_fill_39 5 rfl rfl rfl rfl rfl ?_
        refine wp_goto 8 dX7_fill_42 rfl ?_
        refine wp_pick [0, 1, 2, 3, 4, 5] (lv' := [(0, _), (1, _), (2, _), (3, _), (4, _), (5, _)]) rfl ?_
        exact ih v2 v3 v4 (v5 + 1) I J r h
      · replace h := o_neg h c23
        refine wp_iload dX7_fill_26 5 rfl ?_
        refine wp_iload_n dX7_fill_28 3 rfl ?_
        refine wp_icmp_eq 39 dX7_fill_29 rfl (fun c29 => ?_) (fun c29 => ?_)
        · replace h := o_pos h c29
          refine wp_iinc (v := v5 + 1) (lv' := [(0, _), (1, _), (2, _), (3, _), (4, _), (5, _)]) dX7_fill_39 5 rfl rfl rfl rfl rfl ?_
          refine wp_goto 8 dX7_fill_42 rfl ?_
          refine wp_pick [0, 1, 2, 3, 4, 5] (lv' := [(0, _), (1, _), (2, _), (3, _), (4, _), (5, _)]) rfl ?_
          exact ih v2 v3 v4 (v5 + 1) I J r h
        · replace h := o_neg h c29
          refine wp_aload_n dX7_fill_32 0 rfl ?_
          refine wp_aload_n dX7_fill_33 1 rfl ?_
          refine wp_iload dX7_fill_34 5 rfl ?_
          obtain ⟨r36, h36, h⟩ := o_bind h
          refine wp_callvV (k := 35) (ci := 7) (c_X7_addLot_40 Γ ad v5 I J r36 h36) dX7_fill_36 mlX7_149 mwX7_addLot miX7_addLot rfl rfl rfl rfl (Nat.le_of_ble_eq_true rfl) rfl (by decide) (by decide) ?_
          refine wp_iinc (v := v5 + 1) (lv' := [(0, _), (1, _), (2, _), (3, _), (4, _), (5, _)]) dX7_fill_39 5 rfl rfl rfl rfl rfl ?_
          refine wp_goto 8 dX7_fill_42 rfl ?_
          refine wp_pick [0, 1, 2, 3, 4, 5] (lv' := [(0, _), (1, _), (2, _), (3, _), (4, _), (5, _)]) rfl ?_
          exact ih v2 v3 v4 (v5 + 1) I r36 r h
set_option maxRecDepth 100000 in
set_option maxHeartbeats 4000000 in
theorem c_X7_fill_40 (Γ : GT) (ad : Nat → Nat) (a2 : Int32) (a3 : Int32) (a4 : Int32) (I : IT) (J : JT) (r : JT) (h : f_X7_fill_40 a2 a3 a4 I J = some r) : CALL Γ mX7_fill (0, 0) [.ref (ad 35), .ref (ad 40), .int a2, .int a3, .int a4] (DX ad) I J (QE none (DX ad) I r) := by
  refine call_of' (by decide) (Nat.le_of_ble_eq_true rfl) (lv0 := [(0, .ref (ad 35)), (1, .ref (ad 40)), (2, .int a2), (3, .int a3), (4, .int a4)]) rfl ?_
  unfold f_X7_fill_40 at h
  refine wp_aload_n dX7_fill_0 1 rfl ?_
  refine wp_lconst (v := 0) dX7_fill_1 (by decide) ?_
  obtain ⟨r2, h2, h⟩ := o_bind h
  refine wp_callsV (c_J7_fill_d0a16_40 Γ ad 0 I J r2 h2) dX7_fill_2 mlX7_144 mwJ7_fill_d0a16 miJ7_fill_d0a16 rfl (Nat.le_of_ble_eq_true rfl) rfl (by decide) (by decide) ?_
  refine wp_iconst (v := 0) dX7_fill_5 (by decide) ?_
  refine wp_istore (lv' := [(0, _), (1, _), (2, _), (3, _), (4, _), (5, _)]) dX7_fill_6 rfl rfl rfl ?_
  refine wp_pick [0, 1, 2, 3, 4, 5] (lv' := [(0, _), (1, _), (2, _), (3, _), (4, _), (5, _)]) rfl ?_
  exact w_X7_fill_40_8 Γ ad FU a2 a3 a4 0 I r2 r h
def f_X7_withLotTwice_39_27 : Nat → Int32 → Int32 → Int64 → Int32 → IT → JT → Option (Int64)
  | 0, _, _, _, _, _, _ => none
  | n + 1, v2, v3, v4, v6, I, J =>
    if (I 3 1) ≤ v6 then
      some v4
    else
      (f_X7_withLot_39 (v3 - ((1 : Int32) <<< (v6 &&& 31))) v2 I J).bind fun r50 =>
      if inbB ((v6 * 6) + v2) 36 = true then
        (some (if (r50 + (J 38 ((v6 * 6) + v2).toNatClampNeg)) < v4 then v4 else (r50 + (J 38 ((v6 * 6) + v2).toNatClampNeg)))).bind fun x69 =>
        f_X7_withLotTwice_39_27 n v2 v3 x69 (v6 + 1) I J
      else none
def f_X7_withLotTwice_39 (a2 : Int32) (I : IT) (J : JT) : Option (Int64) :=
  (f_X7_allBuyers I).bind fun r1 =>
  (f_X7_withLot_39 r1 a2 I J).bind fun r9 =>
  if inbB a2 6 = true then
    f_X7_withLotTwice_39_27 FU a2 r1 (r9 - ((6 * (g_plI a2.toNatClampNeg)).toInt64)) 0 I J
  else none
set_option maxRecDepth 100000 in
set_option maxHeartbeats 4000000 in
theorem w_X7_withLotTwice_39_27 (Γ : GT) (ad : Nat → Nat) : ∀ (n : Nat) (v2 : Int32) (v3 : Int32) (v4 : Int64) (v6 : Int32) (I : IT) (J : JT) (r : Int64), f_X7_withLotTwice_39_27 n v2 v3 v4 v6 I J = some r → WP Γ mX7_withLotTwice (0, 0) 27 [(0, .ref (ad 35)), (1, .ref (ad 39)), (2, .int v2), (3, .int v3), (4, .long v4), (6, .int v6)] [] (DX ad) I J (QE (some (.long r)) (DX ad) I J) := by
  intro n
  induction n with
  | zero => intro v2 v3 v4 v6 I J r h; exact absurd h (by simp [f_X7_withLotTwice_39_27])
  | succ n ih =>
    intro v2 v3 v4 v6 I J r h
    rw [f_X7_withLotTwice_39_27] at h
    refine wp_iload dX7_withLotTwice_27 5 rfl ?_
    refine wp_aload_n dX7_withLotTwice_29 0 rfl ?_
    refine wp_getR (k := 35) (a' := ad 3) dX7_withLotTwice_30 flX7_28 rfl rfl rfl rfl rfl ?_
    refine wp_getI (k := 3) dX7_withLotTwice_33 flX7_109 rfl rfl rfl rfl ?_
    refine wp_icmp_ge 77 dX7_withLotTwice_36 rfl (fun c36 => ?_) (fun c36 => ?_)
    · replace h := o_pos h c36
      refine wp_lload dX7_withLotTwice_77 4 rfl ?_
      obtain rfl := Option.some.inj h
      exact wp_lreturn dX7_withLotTwice_79 rfl ⟨rfl, rfl, rfl, rfl⟩
    · replace h := o_neg h c36
      refine wp_lload dX7_withLotTwice_39 4 rfl ?_
      refine wp_aload_n dX7_withLotTwice_41 0 rfl ?_
      refine wp_aload_n dX7_withLotTwice_42 1 rfl ?_
      refine wp_iload_n dX7_withLotTwice_43 3 rfl ?_
      refine wp_iconst (v := 1) dX7_withLotTwice_44 (by decide) ?_
      refine wp_iload dX7_withLotTwice_45 5 rfl ?_
      refine wp_ishl dX7_withLotTwice_47 ?_
      refine wp_isub dX7_withLotTwice_48 ?_
      refine wp_iload_n dX7_withLotTwice_49 2 rfl ?_
      obtain ⟨r50, h50, h⟩ := o_bind h
      refine wp_callvJ (k := 35) (ci := 7) (c_X7_withLot_39 Γ ad (v3 - ((1 : Int32) <<< (v6 &&& 31))) v2 I J r50 h50) dX7_withLotTwice_50 mlX7_127 mwX7_withLot miX7_withLot rfl rfl rfl rfl (Nat.le_of_ble_eq_true rfl) rfl (by decide) (by decide) ?_
      refine wp_aload_n dX7_withLotTwice_53 0 rfl ?_
      refine wp_getR (k := 35) (a' := ad 38) dX7_withLotTwice_54 flX7_18 rfl rfl rfl rfl rfl ?_
      refine wp_iload dX7_withLotTwice_57 5 rfl ?_
      refine wp_bipush (v := 6) dX7_withLotTwice_59 (by decide) ?_
      refine wp_imul dX7_withLotTwice_61 ?_
      refine wp_iload_n dX7_withLotTwice_62 2 rfl ?_
      refine wp_iadd dX7_withLotTwice_63 ?_
      obtain ⟨g64, h⟩ := o_grd h
      refine wp_lald (k := 38) dX7_withLotTwice_64 rfl rfl (inb_of g64) ?_
      refine wp_ladd dX7_withLotTwice_65 ?_
      refine wp_mmaxL dX7_withLotTwice_66 mlX7_153 (by decide) (Nat.le_of_ble_eq_true rfl) ?_
      refine wp_lstore (lv' := [(0, _), (1, _), (2, _), (3, _), (4, _), (6, _)]) dX7_withLotTwice_69 rfl rfl rfl ?_
      obtain ⟨x69, e69, h⟩ := o_bind h
      rw [Option.some.inj e69]
      refine wp_iinc (v := v6 + 1) (lv' := [(0, _), (1, _), (2, _), (3, _), (4, _), (6, _)]) dX7_withLotTwice_71 5 rfl rfl rfl rfl rfl ?_
      refine wp_goto 27 dX7_withLotTwice_74 rfl ?_
      refine wp_pick [0, 1, 2, 3, 4, 5] (lv' := [(0, _), (1, _), (2, _), (3, _), (4, _), (6, _)]) rfl ?_
      exact ih v2 v3 x69 (v6 + 1) I J r h
set_option maxRecDepth 100000 in
set_option maxHeartbeats 4000000 in
theorem c_X7_withLotTwice_39 (Γ : GT) (ad : Nat → Nat) (a2 : Int32) (I : IT) (J : JT) (r : Int64) (h : f_X7_withLotTwice_39 a2 I J = some r) : CALL Γ mX7_withLotTwice (0, 0) [.ref (ad 35), .ref (ad 39), .int a2] (DX ad) I J (QE (some (.long r)) (DX ad) I J) := by
  refine call_of' (by decide) (Nat.le_of_ble_eq_true rfl) (lv0 := [(0, .ref (ad 35)), (1, .ref (ad 39)), (2, .int a2)]) rfl ?_
  unfold f_X7_withLotTwice_39 at h
  refine wp_aload_n dX7_withLotTwice_0 0 rfl ?_
  obtain ⟨r1, h1, h⟩ := o_bind h
  refine wp_callvI (k := 35) (ci := 7) (c_X7_allBuyers Γ ad I J r1 h1) dX7_withLotTwice_1 mlX7_52 mwX7_allBuyers miX7_allBuyers rfl rfl rfl rfl (Nat.le_of_ble_eq_true rfl) rfl (by decide) (by decide) ?_
  refine wp_istore_n (lv' := [(0, _), (1, _), (2, _), (3, _)]) dX7_withLotTwice_4 rfl rfl rfl rfl ?_
  refine wp_aload_n dX7_withLotTwice_5 0 rfl ?_
  refine wp_aload_n dX7_withLotTwice_6 1 rfl ?_
  refine wp_iload_n dX7_withLotTwice_7 3 rfl ?_
  refine wp_iload_n dX7_withLotTwice_8 2 rfl ?_
  obtain ⟨r9, h9, h⟩ := o_bind h
  refine wp_callvJ (k := 35) (ci := 7) (c_X7_withLot_39 Γ ad r1 a2 I J r9 h9) dX7_withLotTwice_9 mlX7_127 mwX7_withLot miX7_withLot rfl rfl rfl rfl (Nat.le_of_ble_eq_true rfl) rfl (by decide) (by decide) ?_
  refine wp_bipush (v := 6) dX7_withLotTwice_12 (by decide) ?_
  refine wp_places dX7_withLotTwice_14 fsX7_40 ?_
  refine wp_iload_n dX7_withLotTwice_17 2 rfl ?_
  obtain ⟨g18, h⟩ := o_grd h
  refine wp_placei (v := g_plI a2.toNatClampNeg) dX7_withLotTwice_18 (inb_of g18) (g_plI_ok _) ?_
  refine wp_imul dX7_withLotTwice_19 ?_
  refine wp_i2l dX7_withLotTwice_20 ?_
  refine wp_lsub dX7_withLotTwice_21 ?_
  refine wp_lstore (lv' := [(0, _), (1, _), (2, _), (3, _), (4, _)]) dX7_withLotTwice_22 rfl rfl rfl ?_
  refine wp_iconst (v := 0) dX7_withLotTwice_24 (by decide) ?_
  refine wp_istore (lv' := [(0, _), (1, _), (2, _), (3, _), (4, _), (6, _)]) dX7_withLotTwice_25 rfl rfl rfl ?_
  refine wp_pick [0, 1, 2, 3, 4, 5] (lv' := [(0, _), (1, _), (2, _), (3, _), (4, _), (6, _)]) rfl ?_
  exact w_X7_withLotTwice_39_27 Γ ad FU a2 r1 (r9 - ((6 * (g_plI a2.toNatClampNeg)).toInt64)) 0 I J r h
def f_X7_scoreWithTwo (a1 : Int32) (I : IT) (J : JT) : Option (Int64 × IT × JT) :=
  if a1 = (I 35 9) then
    (f_X7_withLotTwice_39 a1 I J).bind fun r14 =>
    some (r14, I, J)
  else
    if (I 35 6) = a1 then
      (f_X7_allBuyers I).bind fun r51 =>
      (f_X7_withLot_40 r51 (I 35 9) I J).bind fun r58 =>
      some (r58, I, J)
    else
      (f_X7_fill_40 (I 35 9) (-1) a1 I J).bind fun r37 =>
      (f_X7_allBuyers (upI I 35 6 a1)).bind fun r51 =>
      (f_X7_withLot_40 r51 ((upI I 35 6 a1) 35 9) (upI I 35 6 a1) r37).bind fun r58 =>
      some (r58, upI I 35 6 a1, r37)
set_option maxRecDepth 100000 in
set_option maxHeartbeats 4000000 in
theorem c_X7_scoreWithTwo (Γ : GT) (ad : Nat → Nat) (a1 : Int32) (I : IT) (J : JT) (r : Int64 × IT × JT) (h : f_X7_scoreWithTwo a1 I J = some r) : CALL Γ mX7_scoreWithTwo (0, 0) [.ref (ad 35), .int a1] (DX ad) I J (QE (some (.long r.1)) (DX ad) r.2.1 r.2.2) := by
  refine call_of' (by decide) (Nat.le_of_ble_eq_true rfl) (lv0 := [(0, .ref (ad 35)), (1, .int a1)]) rfl ?_
  unfold f_X7_scoreWithTwo at h
  refine wp_iload_n dX7_scoreWithTwo_0 1 rfl ?_
  refine wp_aload_n dX7_scoreWithTwo_1 0 rfl ?_
  refine wp_getI (k := 35) dX7_scoreWithTwo_2 flX7_75 rfl rfl rfl rfl ?_
  refine wp_icmp_ne 18 dX7_scoreWithTwo_5 rfl (fun c5 => ?_) (fun c5 => ?_)
  · replace h := o_neg h c5
    refine wp_aload_n dX7_scoreWithTwo_18 0 rfl ?_
    refine wp_getI (k := 35) dX7_scoreWithTwo_19 flX7_78 rfl rfl rfl rfl ?_
    refine wp_iload_n dX7_scoreWithTwo_22 1 rfl ?_
    refine wp_icmp_eq 45 dX7_scoreWithTwo_23 rfl (fun c23 => ?_) (fun c23 => ?_)
    · replace h := o_pos h c23
      refine wp_aload_n dX7_scoreWithTwo_45 0 rfl ?_
      refine wp_aload_n dX7_scoreWithTwo_46 0 rfl ?_
      refine wp_getR (k := 35) (a' := ad 40) dX7_scoreWithTwo_47 flX7_25 rfl rfl rfl rfl rfl ?_
      refine wp_aload_n dX7_scoreWithTwo_50 0 rfl ?_
      obtain ⟨r51, h51, h⟩ := o_bind h
      refine wp_callvI (k := 35) (ci := 7) (c_X7_allBuyers Γ ad I J r51 h51) dX7_scoreWithTwo_51 mlX7_52 mwX7_allBuyers miX7_allBuyers rfl rfl rfl rfl (Nat.le_of_ble_eq_true rfl) rfl (by decide) (by decide) ?_
      refine wp_aload_n dX7_scoreWithTwo_54 0 rfl ?_
      refine wp_getI (k := 35) dX7_scoreWithTwo_55 flX7_75 rfl rfl rfl rfl ?_
      obtain ⟨r58, h58, h⟩ := o_bind h
      refine wp_callvJ (k := 35) (ci := 7) (c_X7_withLot_40 Γ ad r51 (I 35 9) I J r58 h58) dX7_scoreWithTwo_58 mlX7_127 mwX7_withLot miX7_withLot rfl rfl rfl rfl (Nat.le_of_ble_eq_true rfl) rfl (by decide) (by decide) ?_
      obtain rfl := Option.some.inj h
      exact wp_lreturn dX7_scoreWithTwo_61 rfl ⟨rfl, rfl, rfl, rfl⟩
    · replace h := o_neg h c23
      refine wp_aload_n dX7_scoreWithTwo_26 0 rfl ?_
      refine wp_aload_n dX7_scoreWithTwo_27 0 rfl ?_
      refine wp_getR (k := 35) (a' := ad 40) dX7_scoreWithTwo_28 flX7_25 rfl rfl rfl rfl rfl ?_
      refine wp_aload_n dX7_scoreWithTwo_31 0 rfl ?_
      refine wp_getI (k := 35) dX7_scoreWithTwo_32 flX7_75 rfl rfl rfl rfl ?_
      refine wp_iconst (v := (-1)) dX7_scoreWithTwo_35 (by decide) ?_
      refine wp_iload_n dX7_scoreWithTwo_36 1 rfl ?_
      obtain ⟨r37, h37, h⟩ := o_bind h
      refine wp_callvV (k := 35) (ci := 7) (c_X7_fill_40 Γ ad (I 35 9) (-1) a1 I J r37 h37) dX7_scoreWithTwo_37 mlX7_48 mwX7_fill miX7_fill rfl rfl rfl rfl (Nat.le_of_ble_eq_true rfl) rfl (by decide) (by decide) ?_
      refine wp_aload_n dX7_scoreWithTwo_40 0 rfl ?_
      refine wp_iload_n dX7_scoreWithTwo_41 1 rfl ?_
      refine wp_putI (k := 35) dX7_scoreWithTwo_42 flX7_78 rfl rfl rfl rfl rfl rfl rfl rfl ?_
      refine wp_aload_n dX7_scoreWithTwo_45 0 rfl ?_
      refine wp_aload_n dX7_scoreWithTwo_46 0 rfl ?_
      refine wp_getR (k := 35) (a' := ad 40) dX7_scoreWithTwo_47 flX7_25 rfl rfl rfl rfl rfl ?_
      refine wp_aload_n dX7_scoreWithTwo_50 0 rfl ?_
      obtain ⟨r51, h51, h⟩ := o_bind h
      refine wp_callvI (k := 35) (ci := 7) (c_X7_allBuyers Γ ad (upI I 35 6 a1) r37 r51 h51) dX7_scoreWithTwo_51 mlX7_52 mwX7_allBuyers miX7_allBuyers rfl rfl rfl rfl (Nat.le_of_ble_eq_true rfl) rfl (by decide) (by decide) ?_
      refine wp_aload_n dX7_scoreWithTwo_54 0 rfl ?_
      refine wp_getI (k := 35) dX7_scoreWithTwo_55 flX7_75 rfl rfl rfl rfl ?_
      obtain ⟨r58, h58, h⟩ := o_bind h
      refine wp_callvJ (k := 35) (ci := 7) (c_X7_withLot_40 Γ ad r51 ((upI I 35 6 a1) 35 9) (upI I 35 6 a1) r37 r58 h58) dX7_scoreWithTwo_58 mlX7_127 mwX7_withLot miX7_withLot rfl rfl rfl rfl (Nat.le_of_ble_eq_true rfl) rfl (by decide) (by decide) ?_
      obtain rfl := Option.some.inj h
      exact wp_lreturn dX7_scoreWithTwo_61 rfl ⟨rfl, rfl, rfl, rfl⟩
  · replace h := o_pos h c5
    refine wp_aload_n dX7_scoreWithTwo_8 0 rfl ?_
    refine wp_aload_n dX7_scoreWithTwo_9 0 rfl ?_
    refine wp_getR (k := 35) (a' := ad 39) dX7_scoreWithTwo_10 flX7_22 rfl rfl rfl rfl rfl ?_
    refine wp_iload_n dX7_scoreWithTwo_13 1 rfl ?_
    obtain ⟨r14, h14, h⟩ := o_bind h
    refine wp_callvJ (k := 35) (ci := 7) (c_X7_withLotTwice_39 Γ ad a1 I J r14 h14) dX7_scoreWithTwo_14 mlX7_131 mwX7_withLotTwice miX7_withLotTwice rfl rfl rfl rfl (Nat.le_of_ble_eq_true rfl) rfl (by decide) (by decide) ?_
    obtain rfl := Option.some.inj h
    exact wp_lreturn dX7_scoreWithTwo_17 rfl ⟨rfl, rfl, rfl, rfl⟩
