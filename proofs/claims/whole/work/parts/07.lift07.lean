/-! lifted: X9_fits J7_fill_d0a16_47 X5_shiftInto X5_addPrice X5_fillHalf X5_refresh X5_hasBit X5_canSum X5_lotsInAll X5_setsFor X9_wentFor X3_isWanted X3_beatsFor X3_byHands J7_fill_53178_49 X3_hasHandIn X3_meet -/
def f_X9_fits (a1 : Int32) (a2 : Int32) (I : IT) : Option (Int32) :=
  (f_X2_hasLot a1 I).bind fun r5 =>
  if r5 = 0 then
    some (-1000001)
  else
    if a2 = 0 then
      (f_X8_howMany a1 I).bind fun r45 =>
      some r45
    else
      if a2 = 1 then
        (f_X8_least a1 I).bind fun r54 =>
        some r54
      else
        if a2 = 2 then
          (f_X8_greatest a1 I).bind fun r63 =>
          some r63
        else
          some (-1000002)
set_option maxRecDepth 100000 in
set_option maxHeartbeats 4000000 in
theorem c_X9_fits (Γ : GT) (ad : Nat → Nat) (a1 : Int32) (a2 : Int32) (I : IT) (J : JT) (r : Int32) (h : f_X9_fits a1 a2 I = some r) : CALL Γ mX9_fits (0, 0) [.ref (ad 0), .int a1, .int a2] (DX ad) I J (QE (some (.int r)) (DX ad) I J) := by
  refine call_of' (by decide) (Nat.le_of_ble_eq_true rfl) (lv0 := [(0, .ref (ad 0)), (1, .int a1), (2, .int a2)]) rfl ?_
  unfold f_X9_fits at h
  refine wp_aload_n dX9_fits_0 0 rfl ?_
  refine wp_getR (k := 0) (a' := ad 3) dX9_fits_1 flX9_19 rfl rfl rfl rfl rfl ?_
  refine wp_iload_n dX9_fits_4 1 rfl ?_
  obtain ⟨r5, h5, h⟩ := o_bind h
  refine wp_callvI (k := 3) (ci := 2) (c_X2_hasLot Γ ad a1 I J r5 h5) dX9_fits_5 mlX9_176 mwX2_hasLot miX2_hasLot rfl rfl rfl rfl (Nat.le_of_ble_eq_true rfl) rfl (by decide) (by decide) ?_
  refine wp_if_ne 14 dX9_fits_8 rfl (fun c8 => ?_) (fun c8 => ?_)
  · replace h := o_neg h c8
    refine wp_iload_n dX9_fits_14 2 rfl ?_
    by_cases e15_0 : a2 = 0
    · replace h := o_pos h e15_0
      refine wp_tableIn (off := 25) 40 dX9_fits_15 (by rw [e15_0]; decide) (by rw [e15_0]; decide) (by rw [e15_0]; rfl) rfl ?_
      refine wp_aload_n dX9_fits_40 0 rfl ?_
      refine wp_getR (k := 0) (a' := ad 41) dX9_fits_41 flX9_59 rfl rfl rfl rfl rfl ?_
      refine wp_iload_n dX9_fits_44 1 rfl ?_
      obtain ⟨r45, h45, h⟩ := o_bind h
      refine wp_callvI (k := 41) (ci := 8) (c_X8_howMany Γ ad a1 I J r45 h45) dX9_fits_45 mlX9_282 mwX8_howMany miX8_howMany rfl rfl rfl rfl (Nat.le_of_ble_eq_true rfl) rfl (by decide) (by decide) ?_
      obtain rfl := Option.some.inj h
      exact wp_ireturn (ty := .int) dX9_fits_48 rfl rfl ⟨rfl, rfl, rfl, rfl⟩
    · replace h := o_neg h e15_0
      by_cases e15_1 : a2 = 1
      · replace h := o_pos h e15_1
        refine wp_tableIn (off := 34) 49 dX9_fits_15 (by rw [e15_1]; decide) (by rw [e15_1]; decide) (by rw [e15_1]; rfl) rfl ?_
        refine wp_aload_n dX9_fits_49 0 rfl ?_
        refine wp_getR (k := 0) (a' := ad 41) dX9_fits_50 flX9_59 rfl rfl rfl rfl rfl ?_
        refine wp_iload_n dX9_fits_53 1 rfl ?_
        obtain ⟨r54, h54, h⟩ := o_bind h
        refine wp_callvI (k := 41) (ci := 8) (c_X8_least Γ ad a1 I J r54 h54) dX9_fits_54 mlX9_285 mwX8_least miX8_least rfl rfl rfl rfl (Nat.le_of_ble_eq_true rfl) rfl (by decide) (by decide) ?_
        obtain rfl := Option.some.inj h
        exact wp_ireturn (ty := .int) dX9_fits_57 rfl rfl ⟨rfl, rfl, rfl, rfl⟩
      · replace h := o_neg h e15_1
        by_cases e15_2 : a2 = 2
        · replace h := o_pos h e15_2
          refine wp_tableIn (off := 43) 58 dX9_fits_15 (by rw [e15_2]; decide) (by rw [e15_2]; decide) (by rw [e15_2]; rfl) rfl ?_
          refine wp_aload_n dX9_fits_58 0 rfl ?_
          refine wp_getR (k := 0) (a' := ad 41) dX9_fits_59 flX9_59 rfl rfl rfl rfl rfl ?_
          refine wp_iload_n dX9_fits_62 1 rfl ?_
          obtain ⟨r63, h63, h⟩ := o_bind h
          refine wp_callvI (k := 41) (ci := 8) (c_X8_greatest Γ ad a1 I J r63 h63) dX9_fits_63 mlX9_288 mwX8_greatest miX8_greatest rfl rfl rfl rfl (Nat.le_of_ble_eq_true rfl) rfl (by decide) (by decide) ?_
          obtain rfl := Option.some.inj h
          exact wp_ireturn (ty := .int) dX9_fits_66 rfl rfl ⟨rfl, rfl, rfl, rfl⟩
        · replace h := o_neg h e15_2
          refine wp_tableOut 67 dX9_fits_15 (by have n0 := lv_neT (a := 0) e15_0 (by decide); have n1 := lv_neT (a := 1) e15_1 (by decide); have n2 := lv_neT (a := 2) e15_2 (by decide); omega) rfl ?_
          refine wp_ldc (v := (-1000002)) dX9_fits_67 kcX9_94 ?_
          obtain rfl := Option.some.inj h
          exact wp_ireturn (ty := .int) dX9_fits_69 rfl rfl ⟨rfl, rfl, rfl, rfl⟩
  · replace h := o_pos h c8
    refine wp_ldc (v := (-1000001)) dX9_fits_11 kcX9_155 ?_
    obtain rfl := Option.some.inj h
    exact wp_ireturn (ty := .int) dX9_fits_13 rfl rfl ⟨rfl, rfl, rfl, rfl⟩
def f_J7_fill_d0a16_47_6 : Nat → Int64 → Int32 → Int32 → JT → Option (JT)
  | 0, _, _, _, _ => none
  | n + 1, v1, v3, v4, J =>
    if v4 ≤ v3 then
      some J
    else
      if inbB v3 752 = true then
        f_J7_fill_d0a16_47_6 n v1 (v3 + 1) v4 (upJ J 47 v3.toNatClampNeg v1)
      else none
def f_J7_fill_d0a16_47 (a1 : Int64) (J : JT) : Option (JT) :=
  f_J7_fill_d0a16_47_6 FU a1 0 752 J
set_option maxRecDepth 100000 in
set_option maxHeartbeats 4000000 in
theorem w_J7_fill_d0a16_47_6 (Γ : GT) (ad : Nat → Nat) : ∀ (n : Nat) (v1 : Int64) (v3 : Int32) (v4 : Int32) (I : IT) (J : JT) (r : JT), f_J7_fill_d0a16_47_6 n v1 v3 v4 J = some r → WP Γ mJ7_fill_d0a16 (0, 0) 6 [(0, .ref (ad 47)), (1, .long v1), (3, .int v3), (4, .int v4)] [] (DX ad) I J (QE none (DX ad) I r) := by
  intro n
  induction n with
  | zero => intro v1 v3 v4 I J r h; exact absurd h (by simp [f_J7_fill_d0a16_47_6])
  | succ n ih =>
    intro v1 v3 v4 I J r h
    rw [f_J7_fill_d0a16_47_6] at h
    refine wp_iload_n dJ7_fill_d0a16_6 2 rfl ?_
    refine wp_iload dJ7_fill_d0a16_7 3 rfl ?_
    refine wp_icmp_ge 22 dJ7_fill_d0a16_9 rfl (fun c9 => ?_) (fun c9 => ?_)
    · replace h := o_pos h c9
      obtain rfl := Option.some.inj h
      exact wp_return dJ7_fill_d0a16_22 rfl ⟨rfl, rfl, rfl, rfl⟩
    · replace h := o_neg h c9
      refine wp_aload_n dJ7_fill_d0a16_12 0 rfl ?_
      refine wp_iload_n dJ7_fill_d0a16_13 2 rfl ?_
      refine wp_lload_n dJ7_fill_d0a16_14 1 rfl ?_
      obtain ⟨g15, h⟩ := o_grd h
      refine wp_last (k := 47) dJ7_fill_d0a16_15 rfl rfl (inb_of g15) ?_
      refine wp_iinc (v := v3 + 1) (lv' := [(0, _), (1, _), (3, _), (4, _)]) dJ7_fill_d0a16_16 2 rfl rfl rfl rfl rfl ?_
      refine wp_goto 6 dJ7_fill_d0a16_19 rfl ?_
      refine wp_pick [0, 1, 2, 3] (lv' := [(0, _), (1, _), (3, _), (4, _)]) rfl ?_
      exact ih v1 (v3 + 1) v4 I (upJ J 47 v3.toNatClampNeg v1) r h
set_option maxRecDepth 100000 in
set_option maxHeartbeats 4000000 in
theorem c_J7_fill_d0a16_47 (Γ : GT) (ad : Nat → Nat) (a1 : Int64) (I : IT) (J : JT) (r : JT) (h : f_J7_fill_d0a16_47 a1 J = some r) : CALL Γ mJ7_fill_d0a16 (0, 0) [.ref (ad 47), .long a1] (DX ad) I J (QE none (DX ad) I r) := by
  refine call_of' (by decide) (Nat.le_of_ble_eq_true rfl) (lv0 := [(0, .ref (ad 47)), (1, .long a1)]) rfl ?_
  unfold f_J7_fill_d0a16_47 at h
  refine wp_iconst (v := 0) dJ7_fill_d0a16_0 (by decide) ?_
  refine wp_istore_n (lv' := [(0, _), (1, _), (3, _)]) dJ7_fill_d0a16_1 rfl rfl rfl rfl ?_
  refine wp_aload_n dJ7_fill_d0a16_2 0 rfl ?_
  refine wp_alen (k := 47) (v := 752) dJ7_fill_d0a16_3 rfl (by decide) rfl (by decide) ?_
  refine wp_istore (lv' := [(0, _), (1, _), (3, _), (4, _)]) dJ7_fill_d0a16_4 rfl rfl rfl ?_
  refine wp_pick [0, 1, 2, 3] (lv' := [(0, _), (1, _), (3, _), (4, _)]) rfl ?_
  exact w_J7_fill_d0a16_47_6 Γ ad FU a1 0 752 I J r h
def f_X5_shiftInto_37 : Nat → Int32 → Int32 → Int32 → Int32 → Int32 → Int32 → JT → Option (JT)
  | 0, _, _, _, _, _, _, _ => none
  | n + 1, v3, v5, v6, v7, v8, v9, J =>
    if v3 ≤ v9 then
      some J
    else
      if v7 ≤ (v5 + v9) then
        some J
      else
        if inbB (v5 + v9) 752 = true then
          if inbB (v6 + v9) 752 = true then
            if inbB (v5 + v9) 752 = true then
              if v8 ≤ 0 then
                f_X5_shiftInto_37 n v3 v5 v6 v7 v8 (v9 + 1) (upJ J 47 ((v5 + v9).toNatClampNeg) ((J 47 (v5 + v9).toNatClampNeg) ||| ((J 47 (v6 + v9).toNatClampNeg) <<< (v8.toInt64 &&& 63))))
              else
                if v7 ≤ ((v5 + v9) + 1) then
                  f_X5_shiftInto_37 n v3 v5 v6 v7 v8 (v9 + 1) (upJ J 47 ((v5 + v9).toNatClampNeg) ((J 47 (v5 + v9).toNatClampNeg) ||| ((J 47 (v6 + v9).toNatClampNeg) <<< (v8.toInt64 &&& 63))))
                else
                  if inbB ((v5 + v9) + 1) 752 = true then
                    if inbB (v6 + v9) 752 = true then
                      if inbB ((v5 + v9) + 1) 752 = true then
                        f_X5_shiftInto_37 n v3 v5 v6 v7 v8 (v9 + 1) (upJ (upJ J 47 ((v5 + v9).toNatClampNeg) ((J 47 (v5 + v9).toNatClampNeg) ||| ((J 47 (v6 + v9).toNatClampNeg) <<< (v8.toInt64 &&& 63)))) 47 (((v5 + v9) + 1).toNatClampNeg) (((upJ J 47 ((v5 + v9).toNatClampNeg) ((J 47 (v5 + v9).toNatClampNeg) ||| ((J 47 (v6 + v9).toNatClampNeg) <<< (v8.toInt64 &&& 63)))) 47 ((v5 + v9) + 1).toNatClampNeg) ||| ((((upJ J 47 ((v5 + v9).toNatClampNeg) ((J 47 (v5 + v9).toNatClampNeg) ||| ((J 47 (v6 + v9).toNatClampNeg) <<< (v8.toInt64 &&& 63)))) 47 (v6 + v9).toNatClampNeg).toUInt64 >>> ((64 - v8).toInt64.toUInt64 &&& Int64.toUInt64 63)).toInt64)))
                      else none
                    else none
                  else none
            else none
          else none
        else none
def f_X5_shiftInto (a1 : Int32) (a2 : Int32) (a3 : Int32) (a4 : Int32) (J : JT) : Option (JT) :=
  f_X5_shiftInto_37 FU a3 ((a1 * 47) + (a4 / 64)) (a2 * 47) ((a1 * 47) + 47) (a4 - a4 / 64 * 64) 0 J
set_option maxRecDepth 100000 in
set_option maxHeartbeats 4000000 in
theorem w_X5_shiftInto_37 (Γ : GT) (ad : Nat → Nat) : ∀ (n : Nat) (v3 : Int32) (v5 : Int32) (v6 : Int32) (v7 : Int32) (v8 : Int32) (v9 : Int32) (I : IT) (J : JT) (r : JT), f_X5_shiftInto_37 n v3 v5 v6 v7 v8 v9 J = some r → WP Γ mX5_shiftInto (0, 0) 37 [(0, .ref (ad 46)), (3, .int v3), (5, .int v5), (6, .int v6), (7, .int v7), (8, .int v8), (9, .int v9)] [] (DX ad) I J (QE none (DX ad) I r) := by
  intro n
  induction n with
  | zero => intro v3 v5 v6 v7 v8 v9 I J r h; exact absurd h (by simp [f_X5_shiftInto_37])
  | succ n ih =>
    intro v3 v5 v6 v7 v8 v9 I J r h
    rw [f_X5_shiftInto_37] at h
    refine wp_iload dX5_shiftInto_37 6 rfl ?_
    refine wp_iload_n dX5_shiftInto_39 1 rfl ?_
    refine wp_icmp_ge 133 dX5_shiftInto_40 rfl (fun c40 => ?_) (fun c40 => ?_)
    · replace h := o_pos h c40
      obtain rfl := Option.some.inj h
      exact wp_return dX5_shiftInto_133 rfl ⟨rfl, rfl, rfl, rfl⟩
    · replace h := o_neg h c40
      refine wp_iload dX5_shiftInto_43 2 rfl ?_
      refine wp_iload dX5_shiftInto_45 6 rfl ?_
      refine wp_iadd dX5_shiftInto_47 ?_
      refine wp_iload dX5_shiftInto_48 4 rfl ?_
      refine wp_icmp_ge 133 dX5_shiftInto_50 rfl (fun c50 => ?_) (fun c50 => ?_)
      · replace h := o_pos h c50
        obtain rfl := Option.some.inj h
        exact wp_return dX5_shiftInto_133 rfl ⟨rfl, rfl, rfl, rfl⟩
      · replace h := o_neg h c50
        refine wp_aload_n dX5_shiftInto_53 0 rfl ?_
        refine wp_getR (k := 46) (a' := ad 47) dX5_shiftInto_54 flX5_11 rfl rfl rfl rfl rfl ?_
        refine wp_iload dX5_shiftInto_57 2 rfl ?_
        refine wp_iload dX5_shiftInto_59 6 rfl ?_
        refine wp_iadd dX5_shiftInto_61 ?_
        refine wp_dup2 dX5_shiftInto_62 rfl rfl ?_
        obtain ⟨g63, h⟩ := o_grd h
        refine wp_lald (k := 47) dX5_shiftInto_63 rfl rfl (inb_of g63) ?_
        refine wp_aload_n dX5_shiftInto_64 0 rfl ?_
        refine wp_getR (k := 46) (a' := ad 47) dX5_shiftInto_65 flX5_11 rfl rfl rfl rfl rfl ?_
        refine wp_iload dX5_shiftInto_68 3 rfl ?_
        refine wp_iload dX5_shiftInto_70 6 rfl ?_
        refine wp_iadd dX5_shiftInto_72 ?_
        obtain ⟨g73, h⟩ := o_grd h
        refine wp_lald (k := 47) dX5_shiftInto_73 rfl rfl (inb_of g73) ?_
        refine wp_iload dX5_shiftInto_74 5 rfl ?_
        refine wp_lshl dX5_shiftInto_76 ?_
        refine wp_lor dX5_shiftInto_77 ?_
        obtain ⟨g78, h⟩ := o_grd h
        refine wp_last (k := 47) dX5_shiftInto_78 rfl rfl (inb_of g78) ?_
        refine wp_iload dX5_shiftInto_79 5 rfl ?_
        refine wp_if_le 127 dX5_shiftInto_81 rfl (fun c81 => ?_) (fun c81 => ?_)
        · replace h := o_pos h c81
          refine wp_iinc (v := v9 + 1) (lv' := [(0, _), (3, _), (5, _), (6, _), (7, _), (8, _), (9, _)]) dX5_shiftInto_127 6 rfl rfl rfl rfl rfl ?_
          refine wp_goto 37 dX5_shiftInto_130 rfl ?_
          refine wp_pick [0, 1, 2, 3, 4, 5, 6] (lv' := [(0, _), (3, _), (5, _), (6, _), (7, _), (8, _), (9, _)]) rfl ?_
          exact ih v3 v5 v6 v7 v8 (v9 + 1) I (upJ J 47 ((v5 + v9).toNatClampNeg) ((J 47 (v5 + v9).toNatClampNeg) ||| ((J 47 (v6 + v9).toNatClampNeg) <<< (v8.toInt64 &&& 63)))) r h
        · replace h := o_neg h c81
          refine wp_iload dX5_shiftInto_84 2 rfl ?_
          refine wp_iload dX5_shiftInto_86 6 rfl ?_
          refine wp_iadd dX5_shiftInto_88 ?_
          refine wp_iconst (v := 1) dX5_shiftInto_89 (by decide) ?_
          refine wp_iadd dX5_shiftInto_90 ?_
          refine wp_iload dX5_shiftInto_91 4 rfl ?_
          refine wp_icmp_ge 127 dX5_shiftInto_93 rfl (fun c93 => ?_) (fun c93 => ?_)
          · replace h := o_pos h c93
            refine wp_iinc (v := v9 + 1) (lv' := [(0, _), (3, _), (5, _), (6, _), (7, _), (8, _), (9, _)]) dX5_shiftInto_127 6 rfl rfl rfl rfl rfl ?_
            refine wp_goto 37 dX5_shiftInto_130 rfl ?_
            refine wp_pick [0, 1, 2, 3, 4, 5, 6] (lv' := [(0, _), (3, _), (5, _), (6, _), (7, _), (8, _), (9, _)]) rfl ?_
            exact ih v3 v5 v6 v7 v8 (v9 + 1) I (upJ J 47 ((v5 + v9).toNatClampNeg) ((J 47 (v5 + v9).toNatClampNeg) ||| ((J 47 (v6 + v9).toNatClampNeg) <<< (v8.toInt64 &&& 63)))) r h
          · replace h := o_neg h c93
            refine wp_aload_n dX5_shiftInto_96 0 rfl ?_
            refine wp_getR (k := 46) (a' := ad 47) dX5_shiftInto_97 flX5_11 rfl rfl rfl rfl rfl ?_
            refine wp_iload dX5_shiftInto_100 2 rfl ?_
            refine wp_iload dX5_shiftInto_102 6 rfl ?_
            refine wp_iadd dX5_shiftInto_104 ?_
            refine wp_iconst (v := 1) dX5_shiftInto_105 (by decide) ?_
            refine wp_iadd dX5_shiftInto_106 ?_
            refine wp_dup2 dX5_shiftInto_107 rfl rfl ?_
            obtain ⟨g108, h⟩ := o_grd h
            refine wp_lald (k := 47) dX5_shiftInto_108 rfl rfl (inb_of g108) ?_
            refine wp_aload_n dX5_shiftInto_109 0 rfl ?_
            refine wp_getR (k := 46) (a' := ad 47) dX5_shiftInto_110 flX5_11 rfl rfl rfl rfl rfl ?_
            refine wp_iload dX5_shiftInto_113 3 rfl ?_
            refine wp_iload dX5_shiftInto_115 6 rfl ?_
            refine wp_iadd dX5_shiftInto_117 ?_
            obtain ⟨g118, h⟩ := o_grd h
            refine wp_lald (k := 47) dX5_shiftInto_118 rfl rfl (inb_of g118) ?_
            refine wp_bipush (v := 64) dX5_shiftInto_119 (by decide) ?_
            refine wp_iload dX5_shiftInto_121 5 rfl ?_
            refine wp_isub dX5_shiftInto_123 ?_
            refine wp_lushr dX5_shiftInto_124 ?_
            refine wp_lor dX5_shiftInto_125 ?_
            obtain ⟨g126, h⟩ := o_grd h
            refine wp_last (k := 47) dX5_shiftInto_126 rfl rfl (inb_of g126) ?_
            refine wp_iinc (v := v9 + 1) (lv' := [(0, _), (3, _), (5, _), (6, _), (7, _), (8, _), (9, _)]) dX5_shiftInto_127 6 rfl rfl rfl rfl rfl ?_
            refine wp_goto 37 dX5_shiftInto_130 rfl ?_
            refine wp_pick [0, 1, 2, 3, 4, 5, 6] (lv' := [(0, _), (3, _), (5, _), (6, _), (7, _), (8, _), (9, _)]) rfl ?_
            exact ih v3 v5 v6 v7 v8 (v9 + 1) I (upJ (upJ J 47 ((v5 + v9).toNatClampNeg) ((J 47 (v5 + v9).toNatClampNeg) ||| ((J 47 (v6 + v9).toNatClampNeg) <<< (v8.toInt64 &&& 63)))) 47 (((v5 + v9) + 1).toNatClampNeg) (((upJ J 47 ((v5 + v9).toNatClampNeg) ((J 47 (v5 + v9).toNatClampNeg) ||| ((J 47 (v6 + v9).toNatClampNeg) <<< (v8.toInt64 &&& 63)))) 47 ((v5 + v9) + 1).toNatClampNeg) ||| ((((upJ J 47 ((v5 + v9).toNatClampNeg) ((J 47 (v5 + v9).toNatClampNeg) ||| ((J 47 (v6 + v9).toNatClampNeg) <<< (v8.toInt64 &&& 63)))) 47 (v6 + v9).toNatClampNeg).toUInt64 >>> ((64 - v8).toInt64.toUInt64 &&& Int64.toUInt64 63)).toInt64))) r h
set_option maxRecDepth 100000 in
set_option maxHeartbeats 4000000 in
theorem c_X5_shiftInto (Γ : GT) (ad : Nat → Nat) (a1 : Int32) (a2 : Int32) (a3 : Int32) (a4 : Int32) (I : IT) (J : JT) (r : JT) (h : f_X5_shiftInto a1 a2 a3 a4 J = some r) : CALL Γ mX5_shiftInto (0, 0) [.ref (ad 46), .int a1, .int a2, .int a3, .int a4] (DX ad) I J (QE none (DX ad) I r) := by
  refine call_of' (by decide) (Nat.le_of_ble_eq_true rfl) (lv0 := [(0, .ref (ad 46)), (1, .int a1), (2, .int a2), (3, .int a3), (4, .int a4)]) rfl ?_
  unfold f_X5_shiftInto at h
  refine wp_iload_n dX5_shiftInto_0 1 rfl ?_
  refine wp_bipush (v := 47) dX5_shiftInto_1 (by decide) ?_
  refine wp_imul dX5_shiftInto_3 ?_
  refine wp_iload dX5_shiftInto_4 4 rfl ?_
  refine wp_bipush (v := 64) dX5_shiftInto_6 (by decide) ?_
  refine wp_idiv dX5_shiftInto_8 (by decide) ?_
  refine wp_iadd dX5_shiftInto_9 ?_
  refine wp_istore (lv' := [(0, _), (1, _), (2, _), (3, _), (4, _), (5, _)]) dX5_shiftInto_10 rfl rfl rfl ?_
  refine wp_iload_n dX5_shiftInto_12 2 rfl ?_
  refine wp_bipush (v := 47) dX5_shiftInto_13 (by decide) ?_
  refine wp_imul dX5_shiftInto_15 ?_
  refine wp_istore (lv' := [(0, _), (1, _), (2, _), (3, _), (4, _), (5, _), (6, _)]) dX5_shiftInto_16 rfl rfl rfl ?_
  refine wp_iload_n dX5_shiftInto_18 1 rfl ?_
  refine wp_bipush (v := 47) dX5_shiftInto_19 (by decide) ?_
  refine wp_imul dX5_shiftInto_21 ?_
  refine wp_bipush (v := 47) dX5_shiftInto_22 (by decide) ?_
  refine wp_iadd dX5_shiftInto_24 ?_
  refine wp_istore (lv' := [(0, _), (1, _), (2, _), (3, _), (4, _), (5, _), (6, _), (7, _)]) dX5_shiftInto_25 rfl rfl rfl ?_
  refine wp_iload dX5_shiftInto_27 4 rfl ?_
  refine wp_bipush (v := 64) dX5_shiftInto_29 (by decide) ?_
  refine wp_irem dX5_shiftInto_31 (by decide) ?_
  refine wp_istore (lv' := [(0, _), (1, _), (2, _), (3, _), (4, _), (5, _), (6, _), (7, _), (8, _)]) dX5_shiftInto_32 rfl rfl rfl ?_
  refine wp_iconst (v := 0) dX5_shiftInto_34 (by decide) ?_
  refine wp_istore (lv' := [(0, _), (1, _), (2, _), (3, _), (4, _), (5, _), (6, _), (7, _), (8, _), (9, _)]) dX5_shiftInto_35 rfl rfl rfl ?_
  refine wp_pick [0, 3, 5, 6, 7, 8, 9] (lv' := [(0, _), (3, _), (5, _), (6, _), (7, _), (8, _), (9, _)]) rfl ?_
  exact w_X5_shiftInto_37 Γ ad FU a3 ((a1 * 47) + (a4 / 64)) (a2 * 47) ((a1 * 47) + 47) (a4 - a4 / 64 * 64) 0 I J r h
def f_X5_addPrice_3 : Nat → Int32 → Int32 → Int32 → Int32 → JT → Option (JT)
  | 0, _, _, _, _, _ => none
  | n + 1, v1, v2, v3, v4, J =>
    if ((1 : Int32) <<< (v2 &&& 31)) ≤ v4 then
      some J
    else
      (f_J6_bitCount_0f7a4 v4).bind fun r14 =>
      (f_X5_shiftInto ((v1 + v4) + ((1 : Int32) <<< (v2 &&& 31))) (v1 + v4) (if (1 : Int32) < (r14 * 16) then (r14 * 16) else (1 : Int32)) v3 J).bind fun r41 =>
      f_X5_addPrice_3 n v1 v2 v3 (v4 + 1) r41
def f_X5_addPrice (a1 : Int32) (a2 : Int32) (a3 : Int32) (J : JT) : Option (JT) :=
  f_X5_addPrice_3 FU a1 a2 a3 0 J
set_option maxRecDepth 100000 in
set_option maxHeartbeats 4000000 in
theorem w_X5_addPrice_3 (Γ : GT) (ad : Nat → Nat) : ∀ (n : Nat) (v1 : Int32) (v2 : Int32) (v3 : Int32) (v4 : Int32) (I : IT) (J : JT) (r : JT), f_X5_addPrice_3 n v1 v2 v3 v4 J = some r → WP Γ mX5_addPrice (0, 0) 3 [(0, .ref (ad 46)), (1, .int v1), (2, .int v2), (3, .int v3), (4, .int v4)] [] (DX ad) I J (QE none (DX ad) I r) := by
  intro n
  induction n with
  | zero => intro v1 v2 v3 v4 I J r h; exact absurd h (by simp [f_X5_addPrice_3])
  | succ n ih =>
    intro v1 v2 v3 v4 I J r h
    rw [f_X5_addPrice_3] at h
    refine wp_iload dX5_addPrice_3 4 rfl ?_
    refine wp_iconst (v := 1) dX5_addPrice_5 (by decide) ?_
    refine wp_iload_n dX5_addPrice_6 2 rfl ?_
    refine wp_ishl dX5_addPrice_7 ?_
    refine wp_icmp_ge 50 dX5_addPrice_8 rfl (fun c8 => ?_) (fun c8 => ?_)
    · replace h := o_pos h c8
      obtain rfl := Option.some.inj h
      exact wp_return dX5_addPrice_50 rfl ⟨rfl, rfl, rfl, rfl⟩
    · replace h := o_neg h c8
      refine wp_iconst (v := 1) dX5_addPrice_11 (by decide) ?_
      refine wp_iload dX5_addPrice_12 4 rfl ?_
      obtain ⟨r14, h14, h⟩ := o_bind h
      refine wp_callsI (c_J6_bitCount_0f7a4 Γ ad v4 I J r14 h14) dX5_addPrice_14 mlX5_51 mwJ6_bitCount_0f7a4 miJ6_bitCount_0f7a4 rfl (Nat.le_of_ble_eq_true rfl) rfl (by decide) (by decide) ?_
      refine wp_bipush (v := 16) dX5_addPrice_17 (by decide) ?_
      refine wp_imul dX5_addPrice_19 ?_
      refine wp_mmax dX5_addPrice_20 mlX5_39 (by decide) (Nat.le_of_ble_eq_true rfl) ?_
      refine wp_istore (lv' := [(0, _), (1, _), (2, _), (3, _), (4, _), (5, _)]) dX5_addPrice_23 rfl rfl rfl ?_
      refine wp_aload_n dX5_addPrice_25 0 rfl ?_
      refine wp_iload_n dX5_addPrice_26 1 rfl ?_
      refine wp_iload dX5_addPrice_27 4 rfl ?_
      refine wp_iadd dX5_addPrice_29 ?_
      refine wp_iconst (v := 1) dX5_addPrice_30 (by decide) ?_
      refine wp_iload_n dX5_addPrice_31 2 rfl ?_
      refine wp_ishl dX5_addPrice_32 ?_
      refine wp_iadd dX5_addPrice_33 ?_
      refine wp_iload_n dX5_addPrice_34 1 rfl ?_
      refine wp_iload dX5_addPrice_35 4 rfl ?_
      refine wp_iadd dX5_addPrice_37 ?_
      refine wp_iload dX5_addPrice_38 5 rfl ?_
      refine wp_iload_n dX5_addPrice_40 3 rfl ?_
      obtain ⟨r41, h41, h⟩ := o_bind h
      refine wp_callvV (k := 46) (ci := 5) (c_X5_shiftInto Γ ad ((v1 + v4) + ((1 : Int32) <<< (v2 &&& 31))) (v1 + v4) (if (1 : Int32) < (r14 * 16) then (r14 * 16) else (1 : Int32)) v3 I J r41 h41) dX5_addPrice_41 mlX5_57 mwX5_shiftInto miX5_shiftInto rfl rfl rfl rfl (Nat.le_of_ble_eq_true rfl) rfl (by decide) (by decide) ?_
      refine wp_iinc (v := v4 + 1) (lv' := [(0, _), (1, _), (2, _), (3, _), (4, _), (5, _)]) dX5_addPrice_44 4 rfl rfl rfl rfl rfl ?_
      refine wp_goto 3 dX5_addPrice_47 rfl ?_
      refine wp_pick [0, 1, 2, 3, 4] (lv' := [(0, _), (1, _), (2, _), (3, _), (4, _)]) rfl ?_
      exact ih v1 v2 v3 (v4 + 1) I r41 r h
set_option maxRecDepth 100000 in
set_option maxHeartbeats 4000000 in
theorem c_X5_addPrice (Γ : GT) (ad : Nat → Nat) (a1 : Int32) (a2 : Int32) (a3 : Int32) (I : IT) (J : JT) (r : JT) (h : f_X5_addPrice a1 a2 a3 J = some r) : CALL Γ mX5_addPrice (0, 0) [.ref (ad 46), .int a1, .int a2, .int a3] (DX ad) I J (QE none (DX ad) I r) := by
  refine call_of' (by decide) (Nat.le_of_ble_eq_true rfl) (lv0 := [(0, .ref (ad 46)), (1, .int a1), (2, .int a2), (3, .int a3)]) rfl ?_
  unfold f_X5_addPrice at h
  refine wp_iconst (v := 0) dX5_addPrice_0 (by decide) ?_
  refine wp_istore (lv' := [(0, _), (1, _), (2, _), (3, _), (4, _)]) dX5_addPrice_1 rfl rfl rfl ?_
  refine wp_pick [0, 1, 2, 3, 4] (lv' := [(0, _), (1, _), (2, _), (3, _), (4, _)]) rfl ?_
  exact w_X5_addPrice_3 Γ ad FU a1 a2 a3 0 I J r h
def f_X5_fillHalf_28 : Nat → Int32 → Int32 → Int32 → Int32 → Int32 → IT → JT → Option (JT)
  | 0, _, _, _, _, _, _, _ => none
  | n + 1, v1, v2, v3, v4, v5, I, J =>
    if (999 : Int32) < v5 then
      some J
    else
      (f_X8_canBe (v2 + v4) v5 I).bind fun r46 =>
      if r46 = 0 then
        f_X5_fillHalf_28 n v1 v2 v3 v4 (v5 + 1) I J
      else
        (f_X5_addPrice v1 v4 v5 J).bind fun r58 =>
        f_X5_fillHalf_28 n v1 v2 v3 v4 (v5 + 1) I r58
def f_X5_fillHalf_13 : Nat → Int32 → Int32 → Int32 → Int32 → IT → JT → Option (JT)
  | 0, _, _, _, _, _, _ => none
  | n + 1, v1, v2, v3, v4, I, J =>
    if v3 ≤ v4 then
      some J
    else
      if (3 : Int32) ≤ v4 then
        some J
      else
        (f_X5_fillHalf_28 FU v1 v2 v3 v4 1 I J).bind fun r28 =>
        f_X5_fillHalf_13 n v1 v2 v3 (v4 + 1) I r28
def f_X5_fillHalf (a1 : Int32) (a2 : Int32) (a3 : Int32) (I : IT) (J : JT) : Option (JT) :=
  if inbB (a1 * 47) 752 = true then
    f_X5_fillHalf_13 FU a1 a2 a3 0 I (upJ J 47 ((a1 * 47).toNatClampNeg) 1)
  else none
set_option maxRecDepth 100000 in
set_option maxHeartbeats 4000000 in
theorem w_X5_fillHalf_28 (Γ : GT) (ad : Nat → Nat) (Q : QT) : ∀ (n : Nat) (v1 : Int32) (v2 : Int32) (v3 : Int32) (v4 : Int32) (v5 : Int32) (I : IT) (J : JT) (r : JT), f_X5_fillHalf_28 n v1 v2 v3 v4 v5 I J = some r → WP Γ mX5_fillHalf (0, 0) 67 [(0, .ref (ad 46)), (1, .int v1), (2, .int v2), (3, .int v3), (4, .int v4)] [] (DX ad) I r Q → WP Γ mX5_fillHalf (0, 0) 28 [(0, .ref (ad 46)), (1, .int v1), (2, .int v2), (3, .int v3), (4, .int v4), (5, .int v5)] [] (DX ad) I J Q := by
  intro n
  induction n with
  | zero => intro v1 v2 v3 v4 v5 I J r h K; exact absurd h (by simp [f_X5_fillHalf_28])
  | succ n ih =>
    intro v1 v2 v3 v4 v5 I J r h K
    rw [f_X5_fillHalf_28] at h
    refine wp_iload dX5_fillHalf_28 5 rfl ?_
    refine wp_sipush (v := 999) dX5_fillHalf_30 (by decide) ?_
    refine wp_icmp_gt 67 dX5_fillHalf_33 rfl (fun c33 => ?_) (fun c33 => ?_)
    · replace h := o_pos h c33
      obtain rfl := Option.some.inj h
      exact wp_pick [0, 1, 2, 3, 4] (lv' := [(0, _), (1, _), (2, _), (3, _), (4, _)]) rfl K
    · replace h := o_neg h c33
      refine wp_aload_n dX5_fillHalf_36 0 rfl ?_
      refine wp_getR (k := 46) (a' := ad 41) dX5_fillHalf_37 flX5_19 rfl rfl rfl rfl rfl ?_
      refine wp_iload_n dX5_fillHalf_40 2 rfl ?_
      refine wp_iload dX5_fillHalf_41 4 rfl ?_
      refine wp_iadd dX5_fillHalf_43 ?_
      refine wp_iload dX5_fillHalf_44 5 rfl ?_
      obtain ⟨r46, h46, h⟩ := o_bind h
      refine wp_callvI (k := 41) (ci := 8) (c_X8_canBe Γ ad (v2 + v4) v5 I J r46 h46) dX5_fillHalf_46 mlX5_42 mwX8_canBe miX8_canBe rfl rfl rfl rfl (Nat.le_of_ble_eq_true rfl) rfl (by decide) (by decide) ?_
      refine wp_if_eq 61 dX5_fillHalf_49 rfl (fun c49 => ?_) (fun c49 => ?_)
      · replace h := o_pos h c49
        refine wp_iinc (v := v5 + 1) (lv' := [(0, _), (1, _), (2, _), (3, _), (4, _), (5, _)]) dX5_fillHalf_61 5 rfl rfl rfl rfl rfl ?_
        refine wp_goto 28 dX5_fillHalf_64 rfl ?_
        refine wp_pick [0, 1, 2, 3, 4, 5] (lv' := [(0, _), (1, _), (2, _), (3, _), (4, _), (5, _)]) rfl ?_
        exact ih v1 v2 v3 v4 (v5 + 1) I J r h K
      · replace h := o_neg h c49
        refine wp_aload_n dX5_fillHalf_52 0 rfl ?_
        refine wp_iload_n dX5_fillHalf_53 1 rfl ?_
        refine wp_iload dX5_fillHalf_54 4 rfl ?_
        refine wp_iload dX5_fillHalf_56 5 rfl ?_
        obtain ⟨r58, h58, h⟩ := o_bind h
        refine wp_callvV (k := 46) (ci := 5) (c_X5_addPrice Γ ad v1 v4 v5 I J r58 h58) dX5_fillHalf_58 mlX5_48 mwX5_addPrice miX5_addPrice rfl rfl rfl rfl (Nat.le_of_ble_eq_true rfl) rfl (by decide) (by decide) ?_
        refine wp_iinc (v := v5 + 1) (lv' := [(0, _), (1, _), (2, _), (3, _), (4, _), (5, _)]) dX5_fillHalf_61 5 rfl rfl rfl rfl rfl ?_
        refine wp_goto 28 dX5_fillHalf_64 rfl ?_
        refine wp_pick [0, 1, 2, 3, 4, 5] (lv' := [(0, _), (1, _), (2, _), (3, _), (4, _), (5, _)]) rfl ?_
        exact ih v1 v2 v3 v4 (v5 + 1) I r58 r h K
set_option maxRecDepth 100000 in
set_option maxHeartbeats 4000000 in
theorem w_X5_fillHalf_13 (Γ : GT) (ad : Nat → Nat) : ∀ (n : Nat) (v1 : Int32) (v2 : Int32) (v3 : Int32) (v4 : Int32) (I : IT) (J : JT) (r : JT), f_X5_fillHalf_13 n v1 v2 v3 v4 I J = some r → WP Γ mX5_fillHalf (0, 0) 13 [(0, .ref (ad 46)), (1, .int v1), (2, .int v2), (3, .int v3), (4, .int v4)] [] (DX ad) I J (QE none (DX ad) I r) := by
  intro n
  induction n with
  | zero => intro v1 v2 v3 v4 I J r h; exact absurd h (by simp [f_X5_fillHalf_13])
  | succ n ih =>
    intro v1 v2 v3 v4 I J r h
    rw [f_X5_fillHalf_13] at h
    refine wp_iload dX5_fillHalf_13 4 rfl ?_
    refine wp_iload_n dX5_fillHalf_15 3 rfl ?_
    refine wp_icmp_ge 73 dX5_fillHalf_16 rfl (fun c16 => ?_) (fun c16 => ?_)
    · replace h := o_pos h c16
      obtain rfl := Option.some.inj h
      exact wp_return dX5_fillHalf_73 rfl ⟨rfl, rfl, rfl, rfl⟩
    · replace h := o_neg h c16
      refine wp_iload dX5_fillHalf_19 4 rfl ?_
      refine wp_iconst (v := 3) dX5_fillHalf_21 (by decide) ?_
      refine wp_icmp_ge 73 dX5_fillHalf_22 rfl (fun c22 => ?_) (fun c22 => ?_)
      · replace h := o_pos h c22
        obtain rfl := Option.some.inj h
        exact wp_return dX5_fillHalf_73 rfl ⟨rfl, rfl, rfl, rfl⟩
      · replace h := o_neg h c22
        refine wp_iconst (v := 1) dX5_fillHalf_25 (by decide) ?_
        refine wp_istore (lv' := [(0, _), (1, _), (2, _), (3, _), (4, _), (5, _)]) dX5_fillHalf_26 rfl rfl rfl ?_
        refine wp_pick [0, 1, 2, 3, 4, 5] (lv' := [(0, _), (1, _), (2, _), (3, _), (4, _), (5, _)]) rfl ?_
        obtain ⟨r28, h28, h⟩ := o_bind h
        refine w_X5_fillHalf_28 Γ ad _ FU v1 v2 v3 v4 1 I J r28 h28 ?_
        refine wp_iinc (v := v4 + 1) (lv' := [(0, _), (1, _), (2, _), (3, _), (4, _)]) dX5_fillHalf_67 4 rfl rfl rfl rfl rfl ?_
        refine wp_goto 13 dX5_fillHalf_70 rfl ?_
        refine wp_pick [0, 1, 2, 3, 4] (lv' := [(0, _), (1, _), (2, _), (3, _), (4, _)]) rfl ?_
        exact ih v1 v2 v3 (v4 + 1) I r28 r h
set_option maxRecDepth 100000 in
set_option maxHeartbeats 4000000 in
theorem c_X5_fillHalf (Γ : GT) (ad : Nat → Nat) (a1 : Int32) (a2 : Int32) (a3 : Int32) (I : IT) (J : JT) (r : JT) (h : f_X5_fillHalf a1 a2 a3 I J = some r) : CALL Γ mX5_fillHalf (0, 0) [.ref (ad 46), .int a1, .int a2, .int a3] (DX ad) I J (QE none (DX ad) I r) := by
  refine call_of' (by decide) (Nat.le_of_ble_eq_true rfl) (lv0 := [(0, .ref (ad 46)), (1, .int a1), (2, .int a2), (3, .int a3)]) rfl ?_
  unfold f_X5_fillHalf at h
  refine wp_aload_n dX5_fillHalf_0 0 rfl ?_
  refine wp_getR (k := 46) (a' := ad 47) dX5_fillHalf_1 flX5_11 rfl rfl rfl rfl rfl ?_
  refine wp_iload_n dX5_fillHalf_4 1 rfl ?_
  refine wp_bipush (v := 47) dX5_fillHalf_5 (by decide) ?_
  refine wp_imul dX5_fillHalf_7 ?_
  refine wp_lconst (v := 1) dX5_fillHalf_8 (by decide) ?_
  obtain ⟨g9, h⟩ := o_grd h
  refine wp_last (k := 47) dX5_fillHalf_9 rfl rfl (inb_of g9) ?_
  refine wp_iconst (v := 0) dX5_fillHalf_10 (by decide) ?_
  refine wp_istore (lv' := [(0, _), (1, _), (2, _), (3, _), (4, _)]) dX5_fillHalf_11 rfl rfl rfl ?_
  refine wp_pick [0, 1, 2, 3, 4] (lv' := [(0, _), (1, _), (2, _), (3, _), (4, _)]) rfl ?_
  exact w_X5_fillHalf_13 Γ ad FU a1 a2 a3 0 I (upJ J 47 ((a1 * 47).toNatClampNeg) 1) r h
def f_X5_refresh (a1 : Int32) (I : IT) (J : JT) : Option (IT × JT) :=
  if (I 46 2) = 0 then
    some (I, J)
  else
    (f_J7_fill_d0a16_47 0 J).bind fun r18 =>
    (f_X5_fillHalf 0 0 (if (3 : Int32) < a1 then (3 : Int32) else a1) (upI I 46 2 0) r18).bind fun r29 =>
    (f_X5_fillHalf 8 3 (if (0 : Int32) < (a1 - 3) then (a1 - 3) else (0 : Int32)) (upI I 46 2 0) r29).bind fun r43 =>
    some (upI I 46 2 0, r43)
set_option maxRecDepth 100000 in
set_option maxHeartbeats 4000000 in
theorem c_X5_refresh (Γ : GT) (ad : Nat → Nat) (a1 : Int32) (I : IT) (J : JT) (r : IT × JT) (h : f_X5_refresh a1 I J = some r) : CALL Γ mX5_refresh (0, 0) [.ref (ad 46), .int a1] (DX ad) I J (QE none (DX ad) r.1 r.2) := by
  refine call_of' (by decide) (Nat.le_of_ble_eq_true rfl) (lv0 := [(0, .ref (ad 46)), (1, .int a1)]) rfl ?_
  unfold f_X5_refresh at h
  refine wp_aload_n dX5_refresh_0 0 rfl ?_
  refine wp_getI (k := 46) dX5_refresh_1 flX5_15 rfl rfl rfl rfl ?_
  refine wp_if_ne 8 dX5_refresh_4 rfl (fun c4 => ?_) (fun c4 => ?_)
  · replace h := o_neg h c4
    refine wp_aload_n dX5_refresh_8 0 rfl ?_
    refine wp_iconst (v := 0) dX5_refresh_9 (by decide) ?_
    refine wp_putI (k := 46) dX5_refresh_10 flX5_15 rfl rfl rfl rfl rfl rfl rfl rfl ?_
    refine wp_aload_n dX5_refresh_13 0 rfl ?_
    refine wp_getR (k := 46) (a' := ad 47) dX5_refresh_14 flX5_11 rfl rfl rfl rfl rfl ?_
    refine wp_lconst (v := 0) dX5_refresh_17 (by decide) ?_
    obtain ⟨r18, h18, h⟩ := o_bind h
    refine wp_callsV (c_J7_fill_d0a16_47 Γ ad 0 (upI I 46 2 0) J r18 h18) dX5_refresh_18 mlX5_23 mwJ7_fill_d0a16 miJ7_fill_d0a16 rfl (Nat.le_of_ble_eq_true rfl) rfl (by decide) (by decide) ?_
    refine wp_aload_n dX5_refresh_21 0 rfl ?_
    refine wp_iconst (v := 0) dX5_refresh_22 (by decide) ?_
    refine wp_iconst (v := 0) dX5_refresh_23 (by decide) ?_
    refine wp_iload_n dX5_refresh_24 1 rfl ?_
    refine wp_iconst (v := 3) dX5_refresh_25 (by decide) ?_
    refine wp_mmin dX5_refresh_26 mlX5_29 (by decide) (Nat.le_of_ble_eq_true rfl) ?_
    obtain ⟨r29, h29, h⟩ := o_bind h
    refine wp_callvV (k := 46) (ci := 5) (c_X5_fillHalf Γ ad 0 0 (if (3 : Int32) < a1 then (3 : Int32) else a1) (upI I 46 2 0) r18 r29 h29) dX5_refresh_29 mlX5_35 mwX5_fillHalf miX5_fillHalf rfl rfl rfl rfl (Nat.le_of_ble_eq_true rfl) rfl (by decide) (by decide) ?_
    refine wp_aload_n dX5_refresh_32 0 rfl ?_
    refine wp_bipush (v := 8) dX5_refresh_33 (by decide) ?_
    refine wp_iconst (v := 3) dX5_refresh_35 (by decide) ?_
    refine wp_iconst (v := 0) dX5_refresh_36 (by decide) ?_
    refine wp_iload_n dX5_refresh_37 1 rfl ?_
    refine wp_iconst (v := 3) dX5_refresh_38 (by decide) ?_
    refine wp_isub dX5_refresh_39 ?_
    refine wp_mmax dX5_refresh_40 mlX5_39 (by decide) (Nat.le_of_ble_eq_true rfl) ?_
    obtain ⟨r43, h43, h⟩ := o_bind h
    refine wp_callvV (k := 46) (ci := 5) (c_X5_fillHalf Γ ad 8 3 (if (0 : Int32) < (a1 - 3) then (a1 - 3) else (0 : Int32)) (upI I 46 2 0) r29 r43 h43) dX5_refresh_43 mlX5_35 mwX5_fillHalf miX5_fillHalf rfl rfl rfl rfl (Nat.le_of_ble_eq_true rfl) rfl (by decide) (by decide) ?_
    obtain rfl := Option.some.inj h
    exact wp_return dX5_refresh_46 rfl ⟨rfl, rfl, rfl, rfl⟩
  · replace h := o_pos h c4
    obtain rfl := Option.some.inj h
    exact wp_return dX5_refresh_7 rfl ⟨rfl, rfl, rfl, rfl⟩
def f_X5_hasBit (a1 : Int32) (a2 : Int32) (J : JT) : Option (Int32) :=
  if a2 < 0 then
    some 0
  else
    if (2997 : Int32) < a2 then
      some 0
    else
      if inbB (a1 + (a2 / 64)) 752 = true then
        if (lg_cmp ((((J 47 (a1 + (a2 / 64)).toNatClampNeg).toUInt64 >>> ((a2 - a2 / 64 * 64).toInt64.toUInt64 &&& Int64.toUInt64 63)).toInt64) &&& 1) 1) = 0 then
          some 1
        else
          some 0
      else none
set_option maxRecDepth 100000 in
set_option maxHeartbeats 4000000 in
theorem c_X5_hasBit (Γ : GT) (ad : Nat → Nat) (a1 : Int32) (a2 : Int32) (I : IT) (J : JT) (r : Int32) (h : f_X5_hasBit a1 a2 J = some r) : CALL Γ mX5_hasBit (0, 0) [.ref (ad 46), .int a1, .int a2] (DX ad) I J (QE (some (.int r)) (DX ad) I J) := by
  refine call_of' (by decide) (Nat.le_of_ble_eq_true rfl) (lv0 := [(0, .ref (ad 46)), (1, .int a1), (2, .int a2)]) rfl ?_
  unfold f_X5_hasBit at h
  refine wp_iload_n dX5_hasBit_0 2 rfl ?_
  refine wp_if_lt 38 dX5_hasBit_1 rfl (fun c1 => ?_) (fun c1 => ?_)
  · replace h := o_pos h c1
    refine wp_iconst (v := 0) dX5_hasBit_38 (by decide) ?_
    obtain rfl := Option.some.inj h
    exact wp_ireturn (ty := .boolean) dX5_hasBit_39 rfl rfl ⟨rfl, rfl, rfl, rfl⟩
  · replace h := o_neg h c1
    refine wp_iload_n dX5_hasBit_4 2 rfl ?_
    refine wp_sipush (v := 2997) dX5_hasBit_5 (by decide) ?_
    refine wp_icmp_gt 38 dX5_hasBit_8 rfl (fun c8 => ?_) (fun c8 => ?_)
    · replace h := o_pos h c8
      refine wp_iconst (v := 0) dX5_hasBit_38 (by decide) ?_
      obtain rfl := Option.some.inj h
      exact wp_ireturn (ty := .boolean) dX5_hasBit_39 rfl rfl ⟨rfl, rfl, rfl, rfl⟩
    · replace h := o_neg h c8
      refine wp_aload_n dX5_hasBit_11 0 rfl ?_
      refine wp_getR (k := 46) (a' := ad 47) dX5_hasBit_12 flX5_11 rfl rfl rfl rfl rfl ?_
      refine wp_iload_n dX5_hasBit_15 1 rfl ?_
      refine wp_iload_n dX5_hasBit_16 2 rfl ?_
      refine wp_bipush (v := 64) dX5_hasBit_17 (by decide) ?_
      refine wp_idiv dX5_hasBit_19 (by decide) ?_
      refine wp_iadd dX5_hasBit_20 ?_
      obtain ⟨g21, h⟩ := o_grd h
      refine wp_lald (k := 47) dX5_hasBit_21 rfl rfl (inb_of g21) ?_
      refine wp_iload_n dX5_hasBit_22 2 rfl ?_
      refine wp_bipush (v := 64) dX5_hasBit_23 (by decide) ?_
      refine wp_irem dX5_hasBit_25 (by decide) ?_
      refine wp_lushr dX5_hasBit_26 ?_
      refine wp_lconst (v := 1) dX5_hasBit_27 (by decide) ?_
      refine wp_land dX5_hasBit_28 ?_
      refine wp_lconst (v := 1) dX5_hasBit_29 (by decide) ?_
      refine wp_lcmp dX5_hasBit_30 ?_
      refine wp_if_ne 38 dX5_hasBit_31 rfl (fun c31 => ?_) (fun c31 => ?_)
      · replace h := o_neg h c31
        refine wp_iconst (v := 0) dX5_hasBit_38 (by decide) ?_
        obtain rfl := Option.some.inj h
        exact wp_ireturn (ty := .boolean) dX5_hasBit_39 rfl rfl ⟨rfl, rfl, rfl, rfl⟩
      · replace h := o_pos h c31
        refine wp_iconst (v := 1) dX5_hasBit_34 (by decide) ?_
        refine wp_goto 39 dX5_hasBit_35 rfl ?_
        obtain rfl := Option.some.inj h
        exact wp_ireturn (ty := .boolean) dX5_hasBit_39 rfl rfl ⟨rfl, rfl, rfl, rfl⟩
def f_X5_canSum_60 : Nat → Int32 → Int32 → Int32 → Int32 → Int32 → JT → Option (Int32)
  | 0, _, _, _, _, _, _ => none
  | n + 1, v2, v3, v4, v5, v7, J =>
    if v5 < v7 then
      some 0
    else
      (f_X5_hasBit v3 v7 J).bind fun r71 =>
      if r71 = 0 then
        f_X5_canSum_60 n v2 v3 v4 v5 (v7 + 1) J
      else
        (f_X5_hasBit v4 (v2 - v7) J).bind fun r84 =>
        if r84 = 0 then
          f_X5_canSum_60 n v2 v3 v4 v5 (v7 + 1) J
        else
          some 1
def f_X5_canSum (a1 : Int32) (a2 : Int32) (J : JT) : Option (Int32) :=
  (f_J6_bitCount_0f7a4 (a1 - a1 / 8 * 8)).bind fun r28 =>
  (f_J6_bitCount_0f7a4 (a1 / 8)).bind fun r46 =>
  f_X5_canSum_60 FU a2 ((a1 - a1 / 8 * 8) * 47) ((8 + (a1 / 8)) * 47) (if (999 * r28) < a2 then (999 * r28) else a2) (if (0 : Int32) < (a2 - (999 * r46)) then (a2 - (999 * r46)) else (0 : Int32)) J
set_option maxRecDepth 100000 in
set_option maxHeartbeats 4000000 in
theorem w_X5_canSum_60 (Γ : GT) (ad : Nat → Nat) : ∀ (n : Nat) (v2 : Int32) (v3 : Int32) (v4 : Int32) (v5 : Int32) (v7 : Int32) (I : IT) (J : JT) (r : Int32), f_X5_canSum_60 n v2 v3 v4 v5 v7 J = some r → WP Γ mX5_canSum (0, 0) 60 [(0, .ref (ad 46)), (2, .int v2), (3, .int v3), (4, .int v4), (5, .int v5), (7, .int v7)] [] (DX ad) I J (QE (some (.int r)) (DX ad) I J) := by
  intro n
  induction n with
  | zero => intro v2 v3 v4 v5 v7 I J r h; exact absurd h (by simp [f_X5_canSum_60])
  | succ n ih =>
    intro v2 v3 v4 v5 v7 I J r h
    rw [f_X5_canSum_60] at h
    refine wp_iload dX5_canSum_60 5 rfl ?_
    refine wp_iload dX5_canSum_62 4 rfl ?_
    refine wp_icmp_gt 98 dX5_canSum_64 rfl (fun c64 => ?_) (fun c64 => ?_)
    · replace h := o_pos h c64
      refine wp_iconst (v := 0) dX5_canSum_98 (by decide) ?_
      obtain rfl := Option.some.inj h
      exact wp_ireturn (ty := .boolean) dX5_canSum_99 rfl rfl ⟨rfl, rfl, rfl, rfl⟩
    · replace h := o_neg h c64
      refine wp_aload_n dX5_canSum_67 0 rfl ?_
      refine wp_iload_n dX5_canSum_68 2 rfl ?_
      refine wp_iload dX5_canSum_69 5 rfl ?_
      obtain ⟨r71, h71, h⟩ := o_bind h
      refine wp_callvI (k := 46) (ci := 5) (c_X5_hasBit Γ ad v3 v7 I J r71 h71) dX5_canSum_71 mlX5_64 mwX5_hasBit miX5_hasBit rfl rfl rfl rfl (Nat.le_of_ble_eq_true rfl) rfl (by decide) (by decide) ?_
      refine wp_if_eq 92 dX5_canSum_74 rfl (fun c74 => ?_) (fun c74 => ?_)
      · replace h := o_pos h c74
        refine wp_iinc (v := v7 + 1) (lv' := [(0, _), (2, _), (3, _), (4, _), (5, _), (7, _)]) dX5_canSum_92 5 rfl rfl rfl rfl rfl ?_
        refine wp_goto 60 dX5_canSum_95 rfl ?_
        refine wp_pick [0, 1, 2, 3, 4, 5] (lv' := [(0, _), (2, _), (3, _), (4, _), (5, _), (7, _)]) rfl ?_
        exact ih v2 v3 v4 v5 (v7 + 1) I J r h
      · replace h := o_neg h c74
        refine wp_aload_n dX5_canSum_77 0 rfl ?_
        refine wp_iload dX5_canSum_78 3 rfl ?_
        refine wp_iload_n dX5_canSum_80 1 rfl ?_
        refine wp_iload dX5_canSum_81 5 rfl ?_
        refine wp_isub dX5_canSum_83 ?_
        obtain ⟨r84, h84, h⟩ := o_bind h
        refine wp_callvI (k := 46) (ci := 5) (c_X5_hasBit Γ ad v4 (v2 - v7) I J r84 h84) dX5_canSum_84 mlX5_64 mwX5_hasBit miX5_hasBit rfl rfl rfl rfl (Nat.le_of_ble_eq_true rfl) rfl (by decide) (by decide) ?_
        refine wp_if_eq 92 dX5_canSum_87 rfl (fun c87 => ?_) (fun c87 => ?_)
        · replace h := o_pos h c87
          refine wp_iinc (v := v7 + 1) (lv' := [(0, _), (2, _), (3, _), (4, _), (5, _), (7, _)]) dX5_canSum_92 5 rfl rfl rfl rfl rfl ?_
          refine wp_goto 60 dX5_canSum_95 rfl ?_
          refine wp_pick [0, 1, 2, 3, 4, 5] (lv' := [(0, _), (2, _), (3, _), (4, _), (5, _), (7, _)]) rfl ?_
          exact ih v2 v3 v4 v5 (v7 + 1) I J r h
        · replace h := o_neg h c87
          refine wp_iconst (v := 1) dX5_canSum_90 (by decide) ?_
          obtain rfl := Option.some.inj h
          exact wp_ireturn (ty := .boolean) dX5_canSum_91 rfl rfl ⟨rfl, rfl, rfl, rfl⟩
set_option maxRecDepth 100000 in
set_option maxHeartbeats 4000000 in
theorem c_X5_canSum (Γ : GT) (ad : Nat → Nat) (a1 : Int32) (a2 : Int32) (I : IT) (J : JT) (r : Int32) (h : f_X5_canSum a1 a2 J = some r) : CALL Γ mX5_canSum (0, 0) [.ref (ad 46), .int a1, .int a2] (DX ad) I J (QE (some (.int r)) (DX ad) I J) := by
  refine call_of' (by decide) (Nat.le_of_ble_eq_true rfl) (lv0 := [(0, .ref (ad 46)), (1, .int a1), (2, .int a2)]) rfl ?_
  unfold f_X5_canSum at h
  refine wp_iload_n dX5_canSum_0 1 rfl ?_
  refine wp_bipush (v := 8) dX5_canSum_1 (by decide) ?_
  refine wp_irem dX5_canSum_3 (by decide) ?_
  refine wp_bipush (v := 47) dX5_canSum_4 (by decide) ?_
  refine wp_imul dX5_canSum_6 ?_
  refine wp_istore_n (lv' := [(0, _), (1, _), (2, _), (3, _)]) dX5_canSum_7 rfl rfl rfl rfl ?_
  refine wp_bipush (v := 8) dX5_canSum_8 (by decide) ?_
  refine wp_iload_n dX5_canSum_10 1 rfl ?_
  refine wp_bipush (v := 8) dX5_canSum_11 (by decide) ?_
  refine wp_idiv dX5_canSum_13 (by decide) ?_
  refine wp_iadd dX5_canSum_14 ?_
  refine wp_bipush (v := 47) dX5_canSum_15 (by decide) ?_
  refine wp_imul dX5_canSum_17 ?_
  refine wp_istore (lv' := [(0, _), (1, _), (2, _), (3, _), (4, _)]) dX5_canSum_18 rfl rfl rfl ?_
  refine wp_iload_n dX5_canSum_20 2 rfl ?_
  refine wp_sipush (v := 999) dX5_canSum_21 (by decide) ?_
  refine wp_iload_n dX5_canSum_24 1 rfl ?_
  refine wp_bipush (v := 8) dX5_canSum_25 (by decide) ?_
  refine wp_irem dX5_canSum_27 (by decide) ?_
  obtain ⟨r28, h28, h⟩ := o_bind h
  refine wp_callsI (c_J6_bitCount_0f7a4 Γ ad (a1 - a1 / 8 * 8) I J r28 h28) dX5_canSum_28 mlX5_51 mwJ6_bitCount_0f7a4 miJ6_bitCount_0f7a4 rfl (Nat.le_of_ble_eq_true rfl) rfl (by decide) (by decide) ?_
  refine wp_imul dX5_canSum_31 ?_
  refine wp_mmin dX5_canSum_32 mlX5_29 (by decide) (Nat.le_of_ble_eq_true rfl) ?_
  refine wp_istore (lv' := [(0, _), (1, _), (2, _), (3, _), (4, _), (5, _)]) dX5_canSum_35 rfl rfl rfl ?_
  refine wp_iconst (v := 0) dX5_canSum_37 (by decide) ?_
  refine wp_iload_n dX5_canSum_38 2 rfl ?_
  refine wp_sipush (v := 999) dX5_canSum_39 (by decide) ?_
  refine wp_iload_n dX5_canSum_42 1 rfl ?_
  refine wp_bipush (v := 8) dX5_canSum_43 (by decide) ?_
  refine wp_idiv dX5_canSum_45 (by decide) ?_
  obtain ⟨r46, h46, h⟩ := o_bind h
  refine wp_callsI (c_J6_bitCount_0f7a4 Γ ad (a1 / 8) I J r46 h46) dX5_canSum_46 mlX5_51 mwJ6_bitCount_0f7a4 miJ6_bitCount_0f7a4 rfl (Nat.le_of_ble_eq_true rfl) rfl (by decide) (by decide) ?_
  refine wp_imul dX5_canSum_49 ?_
  refine wp_isub dX5_canSum_50 ?_
  refine wp_mmax dX5_canSum_51 mlX5_39 (by decide) (Nat.le_of_ble_eq_true rfl) ?_
  refine wp_istore (lv' := [(0, _), (1, _), (2, _), (3, _), (4, _), (5, _), (6, _)]) dX5_canSum_54 rfl rfl rfl ?_
  refine wp_iload dX5_canSum_56 6 rfl ?_
  refine wp_istore (lv' := [(0, _), (1, _), (2, _), (3, _), (4, _), (5, _), (6, _), (7, _)]) dX5_canSum_58 rfl rfl rfl ?_
  refine wp_pick [0, 2, 3, 4, 5, 7] (lv' := [(0, _), (2, _), (3, _), (4, _), (5, _), (7, _)]) rfl ?_
  exact w_X5_canSum_60 Γ ad FU a2 ((a1 - a1 / 8 * 8) * 47) ((8 + (a1 / 8)) * 47) (if (999 * r28) < a2 then (999 * r28) else a2) (if (0 : Int32) < (a2 - (999 * r46)) then (a2 - (999 * r46)) else (0 : Int32)) I J r h
def f_X5_lotsInAll_5 : Nat → Int32 → Int32 → Int32 → Int32 → JT → Option (Int32)
  | 0, _, _, _, _, _ => none
  | n + 1, v1, v2, v3, v4, J =>
    if ((1 : Int32) <<< (v2 &&& 31)) ≤ v4 then
      some v3
    else
      (f_X5_canSum v4 v1 J).bind fun r17 =>
      if r17 = 0 then
        f_X5_lotsInAll_5 n v1 v2 v3 (v4 + 1) J
      else
        f_X5_lotsInAll_5 n v1 v2 (v3 &&& v4) (v4 + 1) J
def f_X5_lotsInAll (a1 : Int32) (a2 : Int32) (J : JT) : Option (Int32) :=
  f_X5_lotsInAll_5 FU a1 a2 (-1) 0 J
set_option maxRecDepth 100000 in
set_option maxHeartbeats 4000000 in
theorem w_X5_lotsInAll_5 (Γ : GT) (ad : Nat → Nat) : ∀ (n : Nat) (v1 : Int32) (v2 : Int32) (v3 : Int32) (v4 : Int32) (I : IT) (J : JT) (r : Int32), f_X5_lotsInAll_5 n v1 v2 v3 v4 J = some r → WP Γ mX5_lotsInAll (0, 0) 5 [(0, .ref (ad 46)), (1, .int v1), (2, .int v2), (3, .int v3), (4, .int v4)] [] (DX ad) I J (QE (some (.int r)) (DX ad) I J) := by
  intro n
  induction n with
  | zero => intro v1 v2 v3 v4 I J r h; exact absurd h (by simp [f_X5_lotsInAll_5])
  | succ n ih =>
    intro v1 v2 v3 v4 I J r h
    rw [f_X5_lotsInAll_5] at h
    refine wp_iload dX5_lotsInAll_5 4 rfl ?_
    refine wp_iconst (v := 1) dX5_lotsInAll_7 (by decide) ?_
    refine wp_iload_n dX5_lotsInAll_8 2 rfl ?_
    refine wp_ishl dX5_lotsInAll_9 ?_
    refine wp_icmp_ge 34 dX5_lotsInAll_10 rfl (fun c10 => ?_) (fun c10 => ?_)
    · replace h := o_pos h c10
      refine wp_iload_n dX5_lotsInAll_34 3 rfl ?_
      obtain rfl := Option.some.inj h
      exact wp_ireturn (ty := .int) dX5_lotsInAll_35 rfl rfl ⟨rfl, rfl, rfl, rfl⟩
    · replace h := o_neg h c10
      refine wp_aload_n dX5_lotsInAll_13 0 rfl ?_
      refine wp_iload dX5_lotsInAll_14 4 rfl ?_
      refine wp_iload_n dX5_lotsInAll_16 1 rfl ?_
      obtain ⟨r17, h17, h⟩ := o_bind h
      refine wp_callvI (k := 46) (ci := 5) (c_X5_canSum Γ ad v4 v1 I J r17 h17) dX5_lotsInAll_17 mlX5_61 mwX5_canSum miX5_canSum rfl rfl rfl rfl (Nat.le_of_ble_eq_true rfl) rfl (by decide) (by decide) ?_
      refine wp_if_eq 28 dX5_lotsInAll_20 rfl (fun c20 => ?_) (fun c20 => ?_)
      · replace h := o_pos h c20
        refine wp_iinc (v := v4 + 1) (lv' := [(0, _), (1, _), (2, _), (3, _), (4, _)]) dX5_lotsInAll_28 4 rfl rfl rfl rfl rfl ?_
        refine wp_goto 5 dX5_lotsInAll_31 rfl ?_
        refine wp_pick [0, 1, 2, 3, 4] (lv' := [(0, _), (1, _), (2, _), (3, _), (4, _)]) rfl ?_
        exact ih v1 v2 v3 (v4 + 1) I J r h
      · replace h := o_neg h c20
        refine wp_iload_n dX5_lotsInAll_23 3 rfl ?_
        refine wp_iload dX5_lotsInAll_24 4 rfl ?_
        refine wp_iand dX5_lotsInAll_26 ?_
        refine wp_istore_n (lv' := [(0, _), (1, _), (2, _), (3, _), (4, _)]) dX5_lotsInAll_27 rfl rfl rfl rfl ?_
        refine wp_iinc (v := v4 + 1) (lv' := [(0, _), (1, _), (2, _), (3, _), (4, _)]) dX5_lotsInAll_28 4 rfl rfl rfl rfl rfl ?_
        refine wp_goto 5 dX5_lotsInAll_31 rfl ?_
        refine wp_pick [0, 1, 2, 3, 4] (lv' := [(0, _), (1, _), (2, _), (3, _), (4, _)]) rfl ?_
        exact ih v1 v2 (v3 &&& v4) (v4 + 1) I J r h
set_option maxRecDepth 100000 in
set_option maxHeartbeats 4000000 in
theorem c_X5_lotsInAll (Γ : GT) (ad : Nat → Nat) (a1 : Int32) (a2 : Int32) (I : IT) (J : JT) (r : Int32) (h : f_X5_lotsInAll a1 a2 J = some r) : CALL Γ mX5_lotsInAll (0, 0) [.ref (ad 46), .int a1, .int a2] (DX ad) I J (QE (some (.int r)) (DX ad) I J) := by
  refine call_of' (by decide) (Nat.le_of_ble_eq_true rfl) (lv0 := [(0, .ref (ad 46)), (1, .int a1), (2, .int a2)]) rfl ?_
  unfold f_X5_lotsInAll at h
  refine wp_iconst (v := (-1)) dX5_lotsInAll_0 (by decide) ?_
  refine wp_istore_n (lv' := [(0, _), (1, _), (2, _), (3, _)]) dX5_lotsInAll_1 rfl rfl rfl rfl ?_
  refine wp_iconst (v := 0) dX5_lotsInAll_2 (by decide) ?_
  refine wp_istore (lv' := [(0, _), (1, _), (2, _), (3, _), (4, _)]) dX5_lotsInAll_3 rfl rfl rfl ?_
  refine wp_pick [0, 1, 2, 3, 4] (lv' := [(0, _), (1, _), (2, _), (3, _), (4, _)]) rfl ?_
  exact w_X5_lotsInAll_5 Γ ad FU a1 a2 (-1) 0 I J r h
def f_X5_setsFor_5 : Nat → Int32 → Int32 → Int32 → Int32 → JT → Option (Int32)
  | 0, _, _, _, _, _ => none
  | n + 1, v1, v2, v3, v4, J =>
    if ((1 : Int32) <<< (v2 &&& 31)) ≤ v4 then
      some v3
    else
      (f_X5_canSum v4 v1 J).bind fun r18 =>
      if r18 = 0 then
        f_X5_setsFor_5 n v1 v2 (v3 + 0) (v4 + 1) J
      else
        f_X5_setsFor_5 n v1 v2 (v3 + 1) (v4 + 1) J
def f_X5_setsFor (a1 : Int32) (a2 : Int32) (J : JT) : Option (Int32) :=
  f_X5_setsFor_5 FU a1 a2 0 0 J
set_option maxRecDepth 100000 in
set_option maxHeartbeats 4000000 in
theorem w_X5_setsFor_5 (Γ : GT) (ad : Nat → Nat) : ∀ (n : Nat) (v1 : Int32) (v2 : Int32) (v3 : Int32) (v4 : Int32) (I : IT) (J : JT) (r : Int32), f_X5_setsFor_5 n v1 v2 v3 v4 J = some r → WP Γ mX5_setsFor (0, 0) 5 [(0, .ref (ad 46)), (1, .int v1), (2, .int v2), (3, .int v3), (4, .int v4)] [] (DX ad) I J (QE (some (.int r)) (DX ad) I J) := by
  intro n
  induction n with
  | zero => intro v1 v2 v3 v4 I J r h; exact absurd h (by simp [f_X5_setsFor_5])
  | succ n ih =>
    intro v1 v2 v3 v4 I J r h
    rw [f_X5_setsFor_5] at h
    refine wp_iload dX5_setsFor_5 4 rfl ?_
    refine wp_iconst (v := 1) dX5_setsFor_7 (by decide) ?_
    refine wp_iload_n dX5_setsFor_8 2 rfl ?_
    refine wp_ishl dX5_setsFor_9 ?_
    refine wp_icmp_ge 37 dX5_setsFor_10 rfl (fun c10 => ?_) (fun c10 => ?_)
    · replace h := o_pos h c10
      refine wp_iload_n dX5_setsFor_37 3 rfl ?_
      obtain rfl := Option.some.inj h
      exact wp_ireturn (ty := .int) dX5_setsFor_38 rfl rfl ⟨rfl, rfl, rfl, rfl⟩
    · replace h := o_neg h c10
      refine wp_iload_n dX5_setsFor_13 3 rfl ?_
      refine wp_aload_n dX5_setsFor_14 0 rfl ?_
      refine wp_iload dX5_setsFor_15 4 rfl ?_
      refine wp_iload_n dX5_setsFor_17 1 rfl ?_
      obtain ⟨r18, h18, h⟩ := o_bind h
      refine wp_callvI (k := 46) (ci := 5) (c_X5_canSum Γ ad v4 v1 I J r18 h18) dX5_setsFor_18 mlX5_61 mwX5_canSum miX5_canSum rfl rfl rfl rfl (Nat.le_of_ble_eq_true rfl) rfl (by decide) (by decide) ?_
      refine wp_if_eq 28 dX5_setsFor_21 rfl (fun c21 => ?_) (fun c21 => ?_)
      · replace h := o_pos h c21
        refine wp_iconst (v := 0) dX5_setsFor_28 (by decide) ?_
        refine wp_iadd dX5_setsFor_29 ?_
        refine wp_istore_n (lv' := [(0, _), (1, _), (2, _), (3, _), (4, _)]) dX5_setsFor_30 rfl rfl rfl rfl ?_
        refine wp_iinc (v := v4 + 1) (lv' := [(0, _), (1, _), (2, _), (3, _), (4, _)]) dX5_setsFor_31 4 rfl rfl rfl rfl rfl ?_
        refine wp_goto 5 dX5_setsFor_34 rfl ?_
        refine wp_pick [0, 1, 2, 3, 4] (lv' := [(0, _), (1, _), (2, _), (3, _), (4, _)]) rfl ?_
        exact ih v1 v2 (v3 + 0) (v4 + 1) I J r h
      · replace h := o_neg h c21
        refine wp_iconst (v := 1) dX5_setsFor_24 (by decide) ?_
        refine wp_goto 29 dX5_setsFor_25 rfl ?_
        refine wp_iadd dX5_setsFor_29 ?_
        refine wp_istore_n (lv' := [(0, _), (1, _), (2, _), (3, _), (4, _)]) dX5_setsFor_30 rfl rfl rfl rfl ?_
        refine wp_iinc (v := v4 + 1) (lv' := [(0, _), (1, _), (2, _), (3, _), (4, _)]) dX5_setsFor_31 4 rfl rfl rfl rfl rfl ?_
        refine wp_goto 5 dX5_setsFor_34 rfl ?_
        refine wp_pick [0, 1, 2, 3, 4] (lv' := [(0, _), (1, _), (2, _), (3, _), (4, _)]) rfl ?_
        exact ih v1 v2 (v3 + 1) (v4 + 1) I J r h
set_option maxRecDepth 100000 in
set_option maxHeartbeats 4000000 in
theorem c_X5_setsFor (Γ : GT) (ad : Nat → Nat) (a1 : Int32) (a2 : Int32) (I : IT) (J : JT) (r : Int32) (h : f_X5_setsFor a1 a2 J = some r) : CALL Γ mX5_setsFor (0, 0) [.ref (ad 46), .int a1, .int a2] (DX ad) I J (QE (some (.int r)) (DX ad) I J) := by
  refine call_of' (by decide) (Nat.le_of_ble_eq_true rfl) (lv0 := [(0, .ref (ad 46)), (1, .int a1), (2, .int a2)]) rfl ?_
  unfold f_X5_setsFor at h
  refine wp_iconst (v := 0) dX5_setsFor_0 (by decide) ?_
  refine wp_istore_n (lv' := [(0, _), (1, _), (2, _), (3, _)]) dX5_setsFor_1 rfl rfl rfl rfl ?_
  refine wp_iconst (v := 0) dX5_setsFor_2 (by decide) ?_
  refine wp_istore (lv' := [(0, _), (1, _), (2, _), (3, _), (4, _)]) dX5_setsFor_3 rfl rfl rfl ?_
  refine wp_pick [0, 1, 2, 3, 4] (lv' := [(0, _), (1, _), (2, _), (3, _), (4, _)]) rfl ?_
  exact w_X5_setsFor_5 Γ ad FU a1 a2 0 0 I J r h
def f_X9_wentFor (a1 : Int32) (a2 : Int32) (I : IT) (J : JT) : Option (Int32 × IT × JT) :=
  (f_X9_isWithin a1 0 9999).bind fun r5 =>
  if r5 = 0 then
    some ((-1000002), I, J)
  else
    (f_X9_isWithin a2 0 1).bind fun r14 =>
    if r14 = 0 then
      some ((-1000002), I, J)
    else
      (f_X5_refresh (I 3 0) I J).bind fun r34 =>
      if a2 = 0 then
        (f_X5_setsFor a1 (r34.1 3 0) r34.2).bind fun r53 =>
        some (r53, r34.1, r34.2)
      else
        (f_X5_lotsInAll a1 (r34.1 3 0) r34.2).bind fun r71 =>
        some (r71, r34.1, r34.2)
set_option maxRecDepth 100000 in
set_option maxHeartbeats 4000000 in
theorem c_X9_wentFor (Γ : GT) (ad : Nat → Nat) (a1 : Int32) (a2 : Int32) (I : IT) (J : JT) (r : Int32 × IT × JT) (h : f_X9_wentFor a1 a2 I J = some r) : CALL Γ mX9_wentFor (0, 0) [.ref (ad 0), .int a1, .int a2] (DX ad) I J (QE (some (.int r.1)) (DX ad) r.2.1 r.2.2) := by
  refine call_of' (by decide) (Nat.le_of_ble_eq_true rfl) (lv0 := [(0, .ref (ad 0)), (1, .int a1), (2, .int a2)]) rfl ?_
  unfold f_X9_wentFor at h
  refine wp_iload_n dX9_wentFor_0 1 rfl ?_
  refine wp_iconst (v := 0) dX9_wentFor_1 (by decide) ?_
  refine wp_sipush (v := 9999) dX9_wentFor_2 (by decide) ?_
  obtain ⟨r5, h5, h⟩ := o_bind h
  refine wp_callsI (c_X9_isWithin Γ ad a1 0 9999 I J r5 h5) dX9_wentFor_5 mlX9_90 mwX9_isWithin miX9_isWithin rfl (Nat.le_of_ble_eq_true rfl) rfl (by decide) (by decide) ?_
  refine wp_if_eq 20 dX9_wentFor_8 rfl (fun c8 => ?_) (fun c8 => ?_)
  · replace h := o_pos h c8
    refine wp_ldc (v := (-1000002)) dX9_wentFor_20 kcX9_94 ?_
    obtain rfl := Option.some.inj h
    exact wp_ireturn (ty := .int) dX9_wentFor_22 rfl rfl ⟨rfl, rfl, rfl, rfl⟩
  · replace h := o_neg h c8
    refine wp_iload_n dX9_wentFor_11 2 rfl ?_
    refine wp_iconst (v := 0) dX9_wentFor_12 (by decide) ?_
    refine wp_iconst (v := 1) dX9_wentFor_13 (by decide) ?_
    obtain ⟨r14, h14, h⟩ := o_bind h
    refine wp_callsI (c_X9_isWithin Γ ad a2 0 1 I J r14 h14) dX9_wentFor_14 mlX9_90 mwX9_isWithin miX9_isWithin rfl (Nat.le_of_ble_eq_true rfl) rfl (by decide) (by decide) ?_
    refine wp_if_ne 23 dX9_wentFor_17 rfl (fun c17 => ?_) (fun c17 => ?_)
    · replace h := o_neg h c17
      refine wp_aload_n dX9_wentFor_23 0 rfl ?_
      refine wp_getR (k := 0) (a' := ad 46) dX9_wentFor_24 flX9_68 rfl rfl rfl rfl rfl ?_
      refine wp_aload_n dX9_wentFor_27 0 rfl ?_
      refine wp_getR (k := 0) (a' := ad 3) dX9_wentFor_28 flX9_19 rfl rfl rfl rfl rfl ?_
      refine wp_getI (k := 3) dX9_wentFor_31 flX9_130 rfl rfl rfl rfl ?_
      obtain ⟨r34, h34, h⟩ := o_bind h
      refine wp_callvV (k := 46) (ci := 5) (c_X5_refresh Γ ad (I 3 0) I J r34 h34) dX9_wentFor_34 mlX9_291 mwX5_refresh miX5_refresh rfl rfl rfl rfl (Nat.le_of_ble_eq_true rfl) rfl (by decide) (by decide) ?_
      refine wp_iload_n dX9_wentFor_37 2 rfl ?_
      refine wp_if_ne 59 dX9_wentFor_38 rfl (fun c38 => ?_) (fun c38 => ?_)
      · replace h := o_neg h c38
        refine wp_aload_n dX9_wentFor_59 0 rfl ?_
        refine wp_getR (k := 0) (a' := ad 46) dX9_wentFor_60 flX9_68 rfl rfl rfl rfl rfl ?_
        refine wp_iload_n dX9_wentFor_63 1 rfl ?_
        refine wp_aload_n dX9_wentFor_64 0 rfl ?_
        refine wp_getR (k := 0) (a' := ad 3) dX9_wentFor_65 flX9_19 rfl rfl rfl rfl rfl ?_
        refine wp_getI (k := 3) dX9_wentFor_68 flX9_130 rfl rfl rfl rfl ?_
        obtain ⟨r71, h71, h⟩ := o_bind h
        refine wp_callvI (k := 46) (ci := 5) (c_X5_lotsInAll Γ ad a1 (r34.1 3 0) r34.1 r34.2 r71 h71) dX9_wentFor_71 mlX9_298 mwX5_lotsInAll miX5_lotsInAll rfl rfl rfl rfl (Nat.le_of_ble_eq_true rfl) rfl (by decide) (by decide) ?_
        obtain rfl := Option.some.inj h
        exact wp_ireturn (ty := .int) dX9_wentFor_74 rfl rfl ⟨rfl, rfl, rfl, rfl⟩
      · replace h := o_pos h c38
        refine wp_aload_n dX9_wentFor_41 0 rfl ?_
        refine wp_getR (k := 0) (a' := ad 46) dX9_wentFor_42 flX9_68 rfl rfl rfl rfl rfl ?_
        refine wp_iload_n dX9_wentFor_45 1 rfl ?_
        refine wp_aload_n dX9_wentFor_46 0 rfl ?_
        refine wp_getR (k := 0) (a' := ad 3) dX9_wentFor_47 flX9_19 rfl rfl rfl rfl rfl ?_
        refine wp_getI (k := 3) dX9_wentFor_50 flX9_130 rfl rfl rfl rfl ?_
        obtain ⟨r53, h53, h⟩ := o_bind h
        refine wp_callvI (k := 46) (ci := 5) (c_X5_setsFor Γ ad a1 (r34.1 3 0) r34.1 r34.2 r53 h53) dX9_wentFor_53 mlX9_295 mwX5_setsFor miX5_setsFor rfl rfl rfl rfl (Nat.le_of_ble_eq_true rfl) rfl (by decide) (by decide) ?_
        refine wp_goto 74 dX9_wentFor_56 rfl ?_
        obtain rfl := Option.some.inj h
        exact wp_ireturn (ty := .int) dX9_wentFor_74 rfl rfl ⟨rfl, rfl, rfl, rfl⟩
    · replace h := o_pos h c17
      refine wp_ldc (v := (-1000002)) dX9_wentFor_20 kcX9_94 ?_
      obtain rfl := Option.some.inj h
      exact wp_ireturn (ty := .int) dX9_wentFor_22 rfl rfl ⟨rfl, rfl, rfl, rfl⟩
def f_X3_isWanted (a1 : Int32) (a2 : Int32) (I : IT) : Option (Int32) :=
  if inbB a1 14 = true then
    (f_X2_worthOf a2 a1 I).bind fun r15 =>
    if r15 < (I 5 a1.toNatClampNeg) then
      some 0
    else
      some 1
  else none
set_option maxRecDepth 100000 in
set_option maxHeartbeats 4000000 in
theorem c_X3_isWanted (Γ : GT) (ad : Nat → Nat) (a1 : Int32) (a2 : Int32) (I : IT) (J : JT) (r : Int32) (h : f_X3_isWanted a1 a2 I = some r) : CALL Γ mX3_isWanted (0, 0) [.ref (ad 48), .int a1, .int a2] (DX ad) I J (QE (some (.int r)) (DX ad) I J) := by
  refine call_of' (by decide) (Nat.le_of_ble_eq_true rfl) (lv0 := [(0, .ref (ad 48)), (1, .int a1), (2, .int a2)]) rfl ?_
  unfold f_X3_isWanted at h
  refine wp_aload_n dX3_isWanted_0 0 rfl ?_
  refine wp_getR (k := 48) (a' := ad 3) dX3_isWanted_1 flX3_15 rfl rfl rfl rfl rfl ?_
  refine wp_getR (k := 3) (a' := ad 5) dX3_isWanted_4 flX3_19 rfl rfl rfl rfl rfl ?_
  refine wp_iload_n dX3_isWanted_7 1 rfl ?_
  obtain ⟨g8, h⟩ := o_grd h
  refine wp_iald (k := 5) dX3_isWanted_8 rfl rfl (inb_of g8) ?_
  refine wp_aload_n dX3_isWanted_9 0 rfl ?_
  refine wp_getR (k := 48) (a' := ad 3) dX3_isWanted_10 flX3_15 rfl rfl rfl rfl rfl ?_
  refine wp_iload_n dX3_isWanted_13 2 rfl ?_
  refine wp_iload_n dX3_isWanted_14 1 rfl ?_
  obtain ⟨r15, h15, h⟩ := o_bind h
  refine wp_callvI (k := 3) (ci := 2) (c_X2_worthOf Γ ad a2 a1 I J r15 h15) dX3_isWanted_15 mlX3_24 mwX2_worthOf miX2_worthOf rfl rfl rfl rfl (Nat.le_of_ble_eq_true rfl) rfl (by decide) (by decide) ?_
  refine wp_icmp_gt 25 dX3_isWanted_18 rfl (fun c18 => ?_) (fun c18 => ?_)
  · replace h := o_pos h c18
    refine wp_iconst (v := 0) dX3_isWanted_25 (by decide) ?_
    obtain rfl := Option.some.inj h
    exact wp_ireturn (ty := .boolean) dX3_isWanted_26 rfl rfl ⟨rfl, rfl, rfl, rfl⟩
  · replace h := o_neg h c18
    refine wp_iconst (v := 1) dX3_isWanted_21 (by decide) ?_
    refine wp_goto 26 dX3_isWanted_22 rfl ?_
    obtain rfl := Option.some.inj h
    exact wp_ireturn (ty := .boolean) dX3_isWanted_26 rfl rfl ⟨rfl, rfl, rfl, rfl⟩
def f_X3_beatsFor (a1 : Int32) (a2 : Int32) (I : IT) : Option (Int32) :=
  if inbB a2 14 = true then
    if ¬ (if (1 : Int32) < (I 4 a2.toNatClampNeg) then (I 4 a2.toNatClampNeg) else (1 : Int32)) = 0 then
      some (((a1 + (if (1 : Int32) < (I 4 a2.toNatClampNeg) then (I 4 a2.toNatClampNeg) else (1 : Int32))) - 1) / (if (1 : Int32) < (I 4 a2.toNatClampNeg) then (I 4 a2.toNatClampNeg) else (1 : Int32)))
    else none
  else none
set_option maxRecDepth 100000 in
set_option maxHeartbeats 4000000 in
theorem c_X3_beatsFor (Γ : GT) (ad : Nat → Nat) (a1 : Int32) (a2 : Int32) (I : IT) (J : JT) (r : Int32) (h : f_X3_beatsFor a1 a2 I = some r) : CALL Γ mX3_beatsFor (0, 0) [.ref (ad 48), .int a1, .int a2] (DX ad) I J (QE (some (.int r)) (DX ad) I J) := by
  refine call_of' (by decide) (Nat.le_of_ble_eq_true rfl) (lv0 := [(0, .ref (ad 48)), (1, .int a1), (2, .int a2)]) rfl ?_
  unfold f_X3_beatsFor at h
  refine wp_iconst (v := 1) dX3_beatsFor_0 (by decide) ?_
  refine wp_aload_n dX3_beatsFor_1 0 rfl ?_
  refine wp_getR (k := 48) (a' := ad 3) dX3_beatsFor_2 flX3_15 rfl rfl rfl rfl rfl ?_
  refine wp_getR (k := 3) (a' := ad 4) dX3_beatsFor_5 flX3_47 rfl rfl rfl rfl rfl ?_
  refine wp_iload_n dX3_beatsFor_8 2 rfl ?_
  obtain ⟨g9, h⟩ := o_grd h
  refine wp_iald (k := 4) dX3_beatsFor_9 rfl rfl (inb_of g9) ?_
  refine wp_mmax dX3_beatsFor_10 mlX3_42 (by decide) (Nat.le_of_ble_eq_true rfl) ?_
  refine wp_istore_n (lv' := [(0, _), (1, _), (2, _), (3, _)]) dX3_beatsFor_13 rfl rfl rfl rfl ?_
  refine wp_iload_n dX3_beatsFor_14 1 rfl ?_
  refine wp_iload_n dX3_beatsFor_15 3 rfl ?_
  refine wp_iadd dX3_beatsFor_16 ?_
  refine wp_iconst (v := 1) dX3_beatsFor_17 (by decide) ?_
  refine wp_isub dX3_beatsFor_18 ?_
  refine wp_iload_n dX3_beatsFor_19 3 rfl ?_
  obtain ⟨g20, h⟩ := o_grd h
  refine wp_idiv dX3_beatsFor_20 g20 ?_
  obtain rfl := Option.some.inj h
  exact wp_ireturn (ty := .int) dX3_beatsFor_21 rfl rfl ⟨rfl, rfl, rfl, rfl⟩
def f_X3_byHands_91 : Nat → Int32 → Int32 → Int32 → Int32 → IT → Option (Int32)
  | 0, _, _, _, _, _ => none
  | n + 1, v1, v2, v3, v4, I =>
    if (I 3 0) ≤ v4 then
      some v3
    else
      (f_X3_isWanted v4 v2 I).bind fun r108 =>
      if r108 = 0 then
        f_X3_byHands_91 n v1 v2 (v3 + 0) (v4 + 1) I
      else
        f_X3_byHands_91 n v1 v2 (v3 + 1) (v4 + 1) I
def f_X3_byHands_75 : Nat → Int32 → Int32 → IT → Option (Int32)
  | 0, _, _, _ => none
  | n + 1, v1, v2, I =>
    if (I 3 1) ≤ v2 then
      some v1
    else
      (f_X3_byHands_91 FU v1 v2 0 0 I).bind fun r91 =>
      (f_X3_beatsFor r91 ((I 3 0) + v2) I).bind fun r139 =>
      f_X3_byHands_75 n (if v1 < r139 then r139 else v1) (v2 + 1) I
def f_X3_byHands_20 : Nat → Int32 → Int32 → Int32 → Int32 → IT → Option (Int32)
  | 0, _, _, _, _, _ => none
  | n + 1, v1, v2, v3, v4, I =>
    if (I 3 1) ≤ v4 then
      some v3
    else
      (f_X3_isWanted v2 v4 I).bind fun r37 =>
      if r37 = 0 then
        f_X3_byHands_20 n v1 v2 (v3 + 0) (v4 + 1) I
      else
        f_X3_byHands_20 n v1 v2 (v3 + 1) (v4 + 1) I
def f_X3_byHands_4 : Nat → Int32 → Int32 → IT → Option (Int32)
  | 0, _, _, _ => none
  | n + 1, v1, v2, I =>
    if (I 3 0) ≤ v2 then
      f_X3_byHands_75 FU v1 0 I
    else
      (f_X3_byHands_20 FU v1 v2 0 0 I).bind fun r20 =>
      (f_X3_beatsFor r20 v2 I).bind fun r60 =>
      f_X3_byHands_4 n (if v1 < r60 then r60 else v1) (v2 + 1) I
def f_X3_byHands (I : IT) : Option (Int32) :=
  f_X3_byHands_4 FU 0 0 I
set_option maxRecDepth 100000 in
set_option maxHeartbeats 4000000 in
theorem w_X3_byHands_91 (Γ : GT) (ad : Nat → Nat) (Q : QT) : ∀ (n : Nat) (v1 : Int32) (v2 : Int32) (v3 : Int32) (v4 : Int32) (I : IT) (J : JT) (r : Int32), f_X3_byHands_91 n v1 v2 v3 v4 I = some r → WP Γ mX3_byHands (0, 0) 127 [(0, .ref (ad 48)), (1, .int v1), (2, .int v2), (3, .int r)] [] (DX ad) I J Q → WP Γ mX3_byHands (0, 0) 91 [(0, .ref (ad 48)), (1, .int v1), (2, .int v2), (3, .int v3), (4, .int v4)] [] (DX ad) I J Q := by
  intro n
  induction n with
  | zero => intro v1 v2 v3 v4 I J r h K; exact absurd h (by simp [f_X3_byHands_91])
  | succ n ih =>
    intro v1 v2 v3 v4 I J r h K
    rw [f_X3_byHands_91] at h
    refine wp_iload dX3_byHands_91 4 rfl ?_
    refine wp_aload_n dX3_byHands_93 0 rfl ?_
    refine wp_getR (k := 48) (a' := ad 3) dX3_byHands_94 flX3_15 rfl rfl rfl rfl rfl ?_
    refine wp_getI (k := 3) dX3_byHands_97 flX3_28 rfl rfl rfl rfl ?_
    refine wp_icmp_ge 127 dX3_byHands_100 rfl (fun c100 => ?_) (fun c100 => ?_)
    · replace h := o_pos h c100
      obtain rfl := Option.some.inj h
      exact wp_pick [0, 1, 2, 3] (lv' := [(0, _), (1, _), (2, _), (3, _)]) rfl K
    · replace h := o_neg h c100
      refine wp_iload_n dX3_byHands_103 3 rfl ?_
      refine wp_aload_n dX3_byHands_104 0 rfl ?_
      refine wp_iload dX3_byHands_105 4 rfl ?_
      refine wp_iload_n dX3_byHands_107 2 rfl ?_
      obtain ⟨r108, h108, h⟩ := o_bind h
      refine wp_callvI (k := 48) (ci := 3) (c_X3_isWanted Γ ad v4 v2 I J r108 h108) dX3_byHands_108 mlX3_35 mwX3_isWanted miX3_isWanted rfl rfl rfl rfl (Nat.le_of_ble_eq_true rfl) rfl (by decide) (by decide) ?_
      refine wp_if_eq 118 dX3_byHands_111 rfl (fun c111 => ?_) (fun c111 => ?_)
      · replace h := o_pos h c111
        refine wp_iconst (v := 0) dX3_byHands_118 (by decide) ?_
        refine wp_iadd dX3_byHands_119 ?_
        refine wp_istore_n (lv' := [(0, _), (1, _), (2, _), (3, _), (4, _)]) dX3_byHands_120 rfl rfl rfl rfl ?_
        refine wp_iinc (v := v4 + 1) (lv' := [(0, _), (1, _), (2, _), (3, _), (4, _)]) dX3_byHands_121 4 rfl rfl rfl rfl rfl ?_
        refine wp_goto 91 dX3_byHands_124 rfl ?_
        refine wp_pick [0, 1, 2, 3, 4] (lv' := [(0, _), (1, _), (2, _), (3, _), (4, _)]) rfl ?_
        exact ih v1 v2 (v3 + 0) (v4 + 1) I J r h K
      · replace h := o_neg h c111
        refine wp_iconst (v := 1) dX3_byHands_114 (by decide) ?_
        refine wp_goto 119 dX3_byHands_115 rfl ?_
        refine wp_iadd dX3_byHands_119 ?_
        refine wp_istore_n (lv' := [(0, _), (1, _), (2, _), (3, _), (4, _)]) dX3_byHands_120 rfl rfl rfl rfl ?_
        refine wp_iinc (v := v4 + 1) (lv' := [(0, _), (1, _), (2, _), (3, _), (4, _)]) dX3_byHands_121 4 rfl rfl rfl rfl rfl ?_
        refine wp_goto 91 dX3_byHands_124 rfl ?_
        refine wp_pick [0, 1, 2, 3, 4] (lv' := [(0, _), (1, _), (2, _), (3, _), (4, _)]) rfl ?_
        exact ih v1 v2 (v3 + 1) (v4 + 1) I J r h K
set_option maxRecDepth 100000 in
set_option maxHeartbeats 4000000 in
theorem w_X3_byHands_75 (Γ : GT) (ad : Nat → Nat) : ∀ (n : Nat) (v1 : Int32) (v2 : Int32) (I : IT) (J : JT) (r : Int32), f_X3_byHands_75 n v1 v2 I = some r → WP Γ mX3_byHands (0, 0) 75 [(0, .ref (ad 48)), (1, .int v1), (2, .int v2)] [] (DX ad) I J (QE (some (.int r)) (DX ad) I J) := by
  intro n
  induction n with
  | zero => intro v1 v2 I J r h; exact absurd h (by simp [f_X3_byHands_75])
  | succ n ih =>
    intro v1 v2 I J r h
    rw [f_X3_byHands_75] at h
    refine wp_iload_n dX3_byHands_75 2 rfl ?_
    refine wp_aload_n dX3_byHands_76 0 rfl ?_
    refine wp_getR (k := 48) (a' := ad 3) dX3_byHands_77 flX3_15 rfl rfl rfl rfl rfl ?_
    refine wp_getI (k := 3) dX3_byHands_80 flX3_32 rfl rfl rfl rfl ?_
    refine wp_icmp_ge 152 dX3_byHands_83 rfl (fun c83 => ?_) (fun c83 => ?_)
    · replace h := o_pos h c83
      refine wp_iload_n dX3_byHands_152 1 rfl ?_
      obtain rfl := Option.some.inj h
      exact wp_ireturn (ty := .int) dX3_byHands_153 rfl rfl ⟨rfl, rfl, rfl, rfl⟩
    · replace h := o_neg h c83
      refine wp_iconst (v := 0) dX3_byHands_86 (by decide) ?_
      refine wp_istore_n (lv' := [(0, _), (1, _), (2, _), (3, _)]) dX3_byHands_87 rfl rfl rfl rfl ?_
      refine wp_iconst (v := 0) dX3_byHands_88 (by decide) ?_
      refine wp_istore (lv' := [(0, _), (1, _), (2, _), (3, _), (4, _)]) dX3_byHands_89 rfl rfl rfl ?_
      refine wp_pick [0, 1, 2, 3, 4] (lv' := [(0, _), (1, _), (2, _), (3, _), (4, _)]) rfl ?_
      obtain ⟨r91, h91, h⟩ := o_bind h
      refine w_X3_byHands_91 Γ ad _ FU v1 v2 0 0 I J r91 h91 ?_
      refine wp_iload_n dX3_byHands_127 1 rfl ?_
      refine wp_aload_n dX3_byHands_128 0 rfl ?_
      refine wp_iload_n dX3_byHands_129 3 rfl ?_
      refine wp_aload_n dX3_byHands_130 0 rfl ?_
      refine wp_getR (k := 48) (a' := ad 3) dX3_byHands_131 flX3_15 rfl rfl rfl rfl rfl ?_
      refine wp_getI (k := 3) dX3_byHands_134 flX3_28 rfl rfl rfl rfl ?_
      refine wp_iload_n dX3_byHands_137 2 rfl ?_
      refine wp_iadd dX3_byHands_138 ?_
      obtain ⟨r139, h139, h⟩ := o_bind h
      refine wp_callvI (k := 48) (ci := 3) (c_X3_beatsFor Γ ad r91 ((I 3 0) + v2) I J r139 h139) dX3_byHands_139 mlX3_39 mwX3_beatsFor miX3_beatsFor rfl rfl rfl rfl (Nat.le_of_ble_eq_true rfl) rfl (by decide) (by decide) ?_
      refine wp_mmax dX3_byHands_142 mlX3_42 (by decide) (Nat.le_of_ble_eq_true rfl) ?_
      refine wp_istore_n (lv' := [(0, _), (1, _), (2, _), (3, _)]) dX3_byHands_145 rfl rfl rfl rfl ?_
      refine wp_iinc (v := v2 + 1) (lv' := [(0, _), (1, _), (2, _), (3, _)]) dX3_byHands_146 2 rfl rfl rfl rfl rfl ?_
      refine wp_goto 75 dX3_byHands_149 rfl ?_
      refine wp_pick [0, 1, 2] (lv' := [(0, _), (1, _), (2, _)]) rfl ?_
      exact ih (if v1 < r139 then r139 else v1) (v2 + 1) I J r h
set_option maxRecDepth 100000 in
set_option maxHeartbeats 4000000 in
theorem w_X3_byHands_20 (Γ : GT) (ad : Nat → Nat) (Q : QT) : ∀ (n : Nat) (v1 : Int32) (v2 : Int32) (v3 : Int32) (v4 : Int32) (I : IT) (J : JT) (r : Int32), f_X3_byHands_20 n v1 v2 v3 v4 I = some r → WP Γ mX3_byHands (0, 0) 56 [(0, .ref (ad 48)), (1, .int v1), (2, .int v2), (3, .int r)] [] (DX ad) I J Q → WP Γ mX3_byHands (0, 0) 20 [(0, .ref (ad 48)), (1, .int v1), (2, .int v2), (3, .int v3), (4, .int v4)] [] (DX ad) I J Q := by
  intro n
  induction n with
  | zero => intro v1 v2 v3 v4 I J r h K; exact absurd h (by simp [f_X3_byHands_20])
  | succ n ih =>
    intro v1 v2 v3 v4 I J r h K
    rw [f_X3_byHands_20] at h
    refine wp_iload dX3_byHands_20 4 rfl ?_
    refine wp_aload_n dX3_byHands_22 0 rfl ?_
    refine wp_getR (k := 48) (a' := ad 3) dX3_byHands_23 flX3_15 rfl rfl rfl rfl rfl ?_
    refine wp_getI (k := 3) dX3_byHands_26 flX3_32 rfl rfl rfl rfl ?_
    refine wp_icmp_ge 56 dX3_byHands_29 rfl (fun c29 => ?_) (fun c29 => ?_)
    · replace h := o_pos h c29
      obtain rfl := Option.some.inj h
      exact wp_pick [0, 1, 2, 3] (lv' := [(0, _), (1, _), (2, _), (3, _)]) rfl K
    · replace h := o_neg h c29
      refine wp_iload_n dX3_byHands_32 3 rfl ?_
      refine wp_aload_n dX3_byHands_33 0 rfl ?_
      refine wp_iload_n dX3_byHands_34 2 rfl ?_
      refine wp_iload dX3_byHands_35 4 rfl ?_
      obtain ⟨r37, h37, h⟩ := o_bind h
      refine wp_callvI (k := 48) (ci := 3) (c_X3_isWanted Γ ad v2 v4 I J r37 h37) dX3_byHands_37 mlX3_35 mwX3_isWanted miX3_isWanted rfl rfl rfl rfl (Nat.le_of_ble_eq_true rfl) rfl (by decide) (by decide) ?_
      refine wp_if_eq 47 dX3_byHands_40 rfl (fun c40 => ?_) (fun c40 => ?_)
      · replace h := o_pos h c40
        refine wp_iconst (v := 0) dX3_byHands_47 (by decide) ?_
        refine wp_iadd dX3_byHands_48 ?_
        refine wp_istore_n (lv' := [(0, _), (1, _), (2, _), (3, _), (4, _)]) dX3_byHands_49 rfl rfl rfl rfl ?_
        refine wp_iinc (v := v4 + 1) (lv' := [(0, _), (1, _), (2, _), (3, _), (4, _)]) dX3_byHands_50 4 rfl rfl rfl rfl rfl ?_
        refine wp_goto 20 dX3_byHands_53 rfl ?_
        refine wp_pick [0, 1, 2, 3, 4] (lv' := [(0, _), (1, _), (2, _), (3, _), (4, _)]) rfl ?_
        exact ih v1 v2 (v3 + 0) (v4 + 1) I J r h K
      · replace h := o_neg h c40
        refine wp_iconst (v := 1) dX3_byHands_43 (by decide) ?_
        refine wp_goto 48 dX3_byHands_44 rfl ?_
        refine wp_iadd dX3_byHands_48 ?_
        refine wp_istore_n (lv' := [(0, _), (1, _), (2, _), (3, _), (4, _)]) dX3_byHands_49 rfl rfl rfl rfl ?_
        refine wp_iinc (v := v4 + 1) (lv' := [(0, _), (1, _), (2, _), (3, _), (4, _)]) dX3_byHands_50 4 rfl rfl rfl rfl rfl ?_
        refine wp_goto 20 dX3_byHands_53 rfl ?_
        refine wp_pick [0, 1, 2, 3, 4] (lv' := [(0, _), (1, _), (2, _), (3, _), (4, _)]) rfl ?_
        exact ih v1 v2 (v3 + 1) (v4 + 1) I J r h K
set_option maxRecDepth 100000 in
set_option maxHeartbeats 4000000 in
theorem w_X3_byHands_4 (Γ : GT) (ad : Nat → Nat) : ∀ (n : Nat) (v1 : Int32) (v2 : Int32) (I : IT) (J : JT) (r : Int32), f_X3_byHands_4 n v1 v2 I = some r → WP Γ mX3_byHands (0, 0) 4 [(0, .ref (ad 48)), (1, .int v1), (2, .int v2)] [] (DX ad) I J (QE (some (.int r)) (DX ad) I J) := by
  intro n
  induction n with
  | zero => intro v1 v2 I J r h; exact absurd h (by simp [f_X3_byHands_4])
  | succ n ih =>
    intro v1 v2 I J r h
    rw [f_X3_byHands_4] at h
    refine wp_iload_n dX3_byHands_4 2 rfl ?_
    refine wp_aload_n dX3_byHands_5 0 rfl ?_
    refine wp_getR (k := 48) (a' := ad 3) dX3_byHands_6 flX3_15 rfl rfl rfl rfl rfl ?_
    refine wp_getI (k := 3) dX3_byHands_9 flX3_28 rfl rfl rfl rfl ?_
    refine wp_icmp_ge 73 dX3_byHands_12 rfl (fun c12 => ?_) (fun c12 => ?_)
    · replace h := o_pos h c12
      refine wp_iconst (v := 0) dX3_byHands_73 (by decide) ?_
      refine wp_istore_n (lv' := [(0, _), (1, _), (2, _)]) dX3_byHands_74 rfl rfl rfl rfl ?_
      refine wp_pick [0, 1, 2] (lv' := [(0, _), (1, _), (2, _)]) rfl ?_
      exact w_X3_byHands_75 Γ ad FU v1 0 I J r h
    · replace h := o_neg h c12
      refine wp_iconst (v := 0) dX3_byHands_15 (by decide) ?_
      refine wp_istore_n (lv' := [(0, _), (1, _), (2, _), (3, _)]) dX3_byHands_16 rfl rfl rfl rfl ?_
      refine wp_iconst (v := 0) dX3_byHands_17 (by decide) ?_
      refine wp_istore (lv' := [(0, _), (1, _), (2, _), (3, _), (4, _)]) dX3_byHands_18 rfl rfl rfl ?_
      refine wp_pick [0, 1, 2, 3, 4] (lv' := [(0, _), (1, _), (2, _), (3, _), (4, _)]) rfl ?_
      obtain ⟨r20, h20, h⟩ := o_bind h
      refine w_X3_byHands_20 Γ ad _ FU v1 v2 0 0 I J r20 h20 ?_
      refine wp_iload_n dX3_byHands_56 1 rfl ?_
      refine wp_aload_n dX3_byHands_57 0 rfl ?_
      refine wp_iload_n dX3_byHands_58 3 rfl ?_
      refine wp_iload_n dX3_byHands_59 2 rfl ?_
      obtain ⟨r60, h60, h⟩ := o_bind h
      refine wp_callvI (k := 48) (ci := 3) (c_X3_beatsFor Γ ad r20 v2 I J r60 h60) dX3_byHands_60 mlX3_39 mwX3_beatsFor miX3_beatsFor rfl rfl rfl rfl (Nat.le_of_ble_eq_true rfl) rfl (by decide) (by decide) ?_
      refine wp_mmax dX3_byHands_63 mlX3_42 (by decide) (Nat.le_of_ble_eq_true rfl) ?_
      refine wp_istore_n (lv' := [(0, _), (1, _), (2, _), (3, _)]) dX3_byHands_66 rfl rfl rfl rfl ?_
      refine wp_iinc (v := v2 + 1) (lv' := [(0, _), (1, _), (2, _), (3, _)]) dX3_byHands_67 2 rfl rfl rfl rfl rfl ?_
      refine wp_goto 4 dX3_byHands_70 rfl ?_
      refine wp_pick [0, 1, 2] (lv' := [(0, _), (1, _), (2, _)]) rfl ?_
      exact ih (if v1 < r60 then r60 else v1) (v2 + 1) I J r h
set_option maxRecDepth 100000 in
set_option maxHeartbeats 4000000 in
theorem c_X3_byHands (Γ : GT) (ad : Nat → Nat) (I : IT) (J : JT) (r : Int32) (h : f_X3_byHands I = some r) : CALL Γ mX3_byHands (0, 0) [.ref (ad 48)] (DX ad) I J (QE (some (.int r)) (DX ad) I J) := by
  refine call_of' (by decide) (Nat.le_of_ble_eq_true rfl) (lv0 := [(0, .ref (ad 48))]) rfl ?_
  unfold f_X3_byHands at h
  refine wp_iconst (v := 0) dX3_byHands_0 (by decide) ?_
  refine wp_istore_n (lv' := [(0, _), (1, _)]) dX3_byHands_1 rfl rfl rfl rfl ?_
  refine wp_iconst (v := 0) dX3_byHands_2 (by decide) ?_
  refine wp_istore_n (lv' := [(0, _), (1, _), (2, _)]) dX3_byHands_3 rfl rfl rfl rfl ?_
  refine wp_pick [0, 1, 2] (lv' := [(0, _), (1, _), (2, _)]) rfl ?_
  exact w_X3_byHands_4 Γ ad FU 0 0 I J r h
def f_J7_fill_53178_49_5 : Nat → Int32 → Int32 → Int32 → IT → Option (IT)
  | 0, _, _, _, _ => none
  | n + 1, v1, v2, v3, I =>
    if v3 ≤ v2 then
      some I
    else
      if inbB v2 168 = true then
        f_J7_fill_53178_49_5 n v1 (v2 + 1) v3 (upI I 49 v2.toNatClampNeg v1)
      else none
def f_J7_fill_53178_49 (a1 : Int32) (I : IT) : Option (IT) :=
  f_J7_fill_53178_49_5 FU a1 0 168 I
set_option maxRecDepth 100000 in
set_option maxHeartbeats 4000000 in
theorem w_J7_fill_53178_49_5 (Γ : GT) (ad : Nat → Nat) : ∀ (n : Nat) (v1 : Int32) (v2 : Int32) (v3 : Int32) (I : IT) (J : JT) (r : IT), f_J7_fill_53178_49_5 n v1 v2 v3 I = some r → WP Γ mJ7_fill_53178 (0, 0) 5 [(0, .ref (ad 49)), (1, .int v1), (2, .int v2), (3, .int v3)] [] (DX ad) I J (QE none (DX ad) r J) := by
  intro n
  induction n with
  | zero => intro v1 v2 v3 I J r h; exact absurd h (by simp [f_J7_fill_53178_49_5])
  | succ n ih =>
    intro v1 v2 v3 I J r h
    rw [f_J7_fill_53178_49_5] at h
    refine wp_iload_n dJ7_fill_53178_5 2 rfl ?_
    refine wp_iload_n dJ7_fill_53178_6 3 rfl ?_
    refine wp_icmp_ge 20 dJ7_fill_53178_7 rfl (fun c7 => ?_) (fun c7 => ?_)
    · replace h := o_pos h c7
      obtain rfl := Option.some.inj h
      exact wp_return dJ7_fill_53178_20 rfl ⟨rfl, rfl, rfl, rfl⟩
    · replace h := o_neg h c7
      refine wp_aload_n dJ7_fill_53178_10 0 rfl ?_
      refine wp_iload_n dJ7_fill_53178_11 2 rfl ?_
      refine wp_iload_n dJ7_fill_53178_12 1 rfl ?_
      obtain ⟨g13, h⟩ := o_grd h
      refine wp_iast (k := 49) dJ7_fill_53178_13 rfl rfl (inb_of g13) ?_
      refine wp_iinc (v := v2 + 1) (lv' := [(0, _), (1, _), (2, _), (3, _)]) dJ7_fill_53178_14 2 rfl rfl rfl rfl rfl ?_
      refine wp_goto 5 dJ7_fill_53178_17 rfl ?_
      refine wp_pick [0, 1, 2, 3] (lv' := [(0, _), (1, _), (2, _), (3, _)]) rfl ?_
      exact ih v1 (v2 + 1) v3 (upI I 49 v2.toNatClampNeg v1) J r h
set_option maxRecDepth 100000 in
set_option maxHeartbeats 4000000 in
theorem c_J7_fill_53178_49 (Γ : GT) (ad : Nat → Nat) (a1 : Int32) (I : IT) (J : JT) (r : IT) (h : f_J7_fill_53178_49 a1 I = some r) : CALL Γ mJ7_fill_53178 (0, 0) [.ref (ad 49), .int a1] (DX ad) I J (QE none (DX ad) r J) := by
  refine call_of' (by decide) (Nat.le_of_ble_eq_true rfl) (lv0 := [(0, .ref (ad 49)), (1, .int a1)]) rfl ?_
  unfold f_J7_fill_53178_49 at h
  refine wp_iconst (v := 0) dJ7_fill_53178_0 (by decide) ?_
  refine wp_istore_n (lv' := [(0, _), (1, _), (2, _)]) dJ7_fill_53178_1 rfl rfl rfl rfl ?_
  refine wp_aload_n dJ7_fill_53178_2 0 rfl ?_
  refine wp_alen (k := 49) (v := 168) dJ7_fill_53178_3 rfl (by decide) rfl (by decide) ?_
  refine wp_istore_n (lv' := [(0, _), (1, _), (2, _), (3, _)]) dJ7_fill_53178_4 rfl rfl rfl rfl ?_
  refine wp_pick [0, 1, 2, 3] (lv' := [(0, _), (1, _), (2, _), (3, _)]) rfl ?_
  exact w_J7_fill_53178_49_5 Γ ad FU a1 0 168 I J r h
def f_X3_hasHandIn (a1 : Int32) (a2 : Int32) (I : IT) : Option (Int32) :=
  if inbB ((a1 * 12) + a2) 168 = true then
    if inbB a1 14 = true then
      if (I 4 a1.toNatClampNeg) ≤ (I 49 ((a1 * 12) + a2).toNatClampNeg) then
        some 0
      else
        some 1
    else none
  else none
set_option maxRecDepth 100000 in
set_option maxHeartbeats 4000000 in
theorem c_X3_hasHandIn (Γ : GT) (ad : Nat → Nat) (a1 : Int32) (a2 : Int32) (I : IT) (J : JT) (r : Int32) (h : f_X3_hasHandIn a1 a2 I = some r) : CALL Γ mX3_hasHandIn (0, 0) [.ref (ad 48), .int a1, .int a2] (DX ad) I J (QE (some (.int r)) (DX ad) I J) := by
  refine call_of' (by decide) (Nat.le_of_ble_eq_true rfl) (lv0 := [(0, .ref (ad 48)), (1, .int a1), (2, .int a2)]) rfl ?_
  unfold f_X3_hasHandIn at h
  refine wp_aload_n dX3_hasHandIn_0 0 rfl ?_
  refine wp_getR (k := 48) (a' := ad 49) dX3_hasHandIn_1 flX3_11 rfl rfl rfl rfl rfl ?_
  refine wp_iload_n dX3_hasHandIn_4 1 rfl ?_
  refine wp_bipush (v := 12) dX3_hasHandIn_5 (by decide) ?_
  refine wp_imul dX3_hasHandIn_7 ?_
  refine wp_iload_n dX3_hasHandIn_8 2 rfl ?_
  refine wp_iadd dX3_hasHandIn_9 ?_
  obtain ⟨g10, h⟩ := o_grd h
  refine wp_iald (k := 49) dX3_hasHandIn_10 rfl rfl (inb_of g10) ?_
  refine wp_aload_n dX3_hasHandIn_11 0 rfl ?_
  refine wp_getR (k := 48) (a' := ad 3) dX3_hasHandIn_12 flX3_15 rfl rfl rfl rfl rfl ?_
  refine wp_getR (k := 3) (a' := ad 4) dX3_hasHandIn_15 flX3_47 rfl rfl rfl rfl rfl ?_
  refine wp_iload_n dX3_hasHandIn_18 1 rfl ?_
  obtain ⟨g19, h⟩ := o_grd h
  refine wp_iald (k := 4) dX3_hasHandIn_19 rfl rfl (inb_of g19) ?_
  refine wp_icmp_ge 27 dX3_hasHandIn_20 rfl (fun c20 => ?_) (fun c20 => ?_)
  · replace h := o_pos h c20
    refine wp_iconst (v := 0) dX3_hasHandIn_27 (by decide) ?_
    obtain rfl := Option.some.inj h
    exact wp_ireturn (ty := .boolean) dX3_hasHandIn_28 rfl rfl ⟨rfl, rfl, rfl, rfl⟩
  · replace h := o_neg h c20
    refine wp_iconst (v := 1) dX3_hasHandIn_23 (by decide) ?_
    refine wp_goto 28 dX3_hasHandIn_24 rfl ?_
    obtain rfl := Option.some.inj h
    exact wp_ireturn (ty := .boolean) dX3_hasHandIn_28 rfl rfl ⟨rfl, rfl, rfl, rfl⟩
def f_X3_meet_2 : Nat → Int32 → Int32 → Int32 → IT → Option (Int32 × IT)
  | 0, _, _, _, _ => none
  | n + 1, v1, v2, v3, I =>
    if (11 : Int32) ≤ v3 then
      if inbB ((v1 * 12) + v3) 168 = true then
        if inbB ((v1 * 12) + v3) 168 = true then
          if inbB ((v2 * 12) + v3) 168 = true then
            if inbB ((v2 * 12) + v3) 168 = true then
              (some (upI (upI I 49 (((v1 * 12) + v3).toNatClampNeg) ((I 49 ((v1 * 12) + v3).toNatClampNeg) + 1)) 49 (((v2 * 12) + v3).toNatClampNeg) (((upI I 49 (((v1 * 12) + v3).toNatClampNeg) ((I 49 ((v1 * 12) + v3).toNatClampNeg) + 1)) 49 ((v2 * 12) + v3).toNatClampNeg) + 1))).bind fun i61 =>
              some (v3, i61)
            else none
          else none
        else none
      else none
    else
      (f_X3_hasHandIn v1 v3 I).bind fun r11 =>
      if r11 = 0 then
        f_X3_meet_2 n v1 v2 (v3 + 1) I
      else
        (f_X3_hasHandIn v2 v3 I).bind fun r20 =>
        if r20 = 0 then
          f_X3_meet_2 n v1 v2 (v3 + 1) I
        else
          if inbB ((v1 * 12) + v3) 168 = true then
            if inbB ((v1 * 12) + v3) 168 = true then
              if inbB ((v2 * 12) + v3) 168 = true then
                if inbB ((v2 * 12) + v3) 168 = true then
                  (some (upI (upI I 49 (((v1 * 12) + v3).toNatClampNeg) ((I 49 ((v1 * 12) + v3).toNatClampNeg) + 1)) 49 (((v2 * 12) + v3).toNatClampNeg) (((upI I 49 (((v1 * 12) + v3).toNatClampNeg) ((I 49 ((v1 * 12) + v3).toNatClampNeg) + 1)) 49 ((v2 * 12) + v3).toNatClampNeg) + 1))).bind fun i61 =>
                  some (v3, i61)
                else none
              else none
            else none
          else none
def f_X3_meet (a1 : Int32) (a2 : Int32) (I : IT) : Option (Int32 × IT) :=
  f_X3_meet_2 FU a1 a2 0 I
set_option maxRecDepth 100000 in
set_option maxHeartbeats 4000000 in
theorem w_X3_meet_2 (Γ : GT) (ad : Nat → Nat) : ∀ (n : Nat) (v1 : Int32) (v2 : Int32) (v3 : Int32) (I : IT) (J : JT) (r : Int32 × IT), f_X3_meet_2 n v1 v2 v3 I = some r → WP Γ mX3_meet (0, 0) 2 [(0, .ref (ad 48)), (1, .int v1), (2, .int v2), (3, .int v3)] [] (DX ad) I J (QE (some (.int r.1)) (DX ad) r.2 J) := by
  intro n
  induction n with
  | zero => intro v1 v2 v3 I J r h; exact absurd h (by simp [f_X3_meet_2])
  | succ n ih =>
    intro v1 v2 v3 I J r h
    rw [f_X3_meet_2] at h
    refine wp_iload_n dX3_meet_2 3 rfl ?_
    refine wp_bipush (v := 11) dX3_meet_3 (by decide) ?_
    refine wp_icmp_ge 32 dX3_meet_5 rfl (fun c5 => ?_) (fun c5 => ?_)
    · replace h := o_pos h c5
      refine wp_aload_n dX3_meet_32 0 rfl ?_
      refine wp_getR (k := 48) (a' := ad 49) dX3_meet_33 flX3_11 rfl rfl rfl rfl rfl ?_
      refine wp_iload_n dX3_meet_36 1 rfl ?_
      refine wp_bipush (v := 12) dX3_meet_37 (by decide) ?_
      refine wp_imul dX3_meet_39 ?_
      refine wp_iload_n dX3_meet_40 3 rfl ?_
      refine wp_iadd dX3_meet_41 ?_
      refine wp_dup2 dX3_meet_42 rfl rfl ?_
      obtain ⟨g43, h⟩ := o_grd h
      refine wp_iald (k := 49) dX3_meet_43 rfl rfl (inb_of g43) ?_
      refine wp_iconst (v := 1) dX3_meet_44 (by decide) ?_
      refine wp_iadd dX3_meet_45 ?_
      obtain ⟨g46, h⟩ := o_grd h
      refine wp_iast (k := 49) dX3_meet_46 rfl rfl (inb_of g46) ?_
      refine wp_aload_n dX3_meet_47 0 rfl ?_
      refine wp_getR (k := 48) (a' := ad 49) dX3_meet_48 flX3_11 rfl rfl rfl rfl rfl ?_
      refine wp_iload_n dX3_meet_51 2 rfl ?_
      refine wp_bipush (v := 12) dX3_meet_52 (by decide) ?_
      refine wp_imul dX3_meet_54 ?_
      refine wp_iload_n dX3_meet_55 3 rfl ?_
      refine wp_iadd dX3_meet_56 ?_
      refine wp_dup2 dX3_meet_57 rfl rfl ?_
      obtain ⟨g58, h⟩ := o_grd h
      refine wp_iald (k := 49) dX3_meet_58 rfl rfl (inb_of g58) ?_
      refine wp_iconst (v := 1) dX3_meet_59 (by decide) ?_
      refine wp_iadd dX3_meet_60 ?_
      obtain ⟨g61, h⟩ := o_grd h
      obtain ⟨i61, e61, h⟩ := o_bind h
      refine wp_iast (k := 49) dX3_meet_61 rfl rfl (inb_of g61) ?_
      refine wp_stI (Option.some.inj e61) ?_
      refine wp_iload_n dX3_meet_62 3 rfl ?_
      obtain rfl := Option.some.inj h
      exact wp_ireturn (ty := .int) dX3_meet_63 rfl rfl ⟨rfl, rfl, rfl, rfl⟩
    · replace h := o_neg h c5
      refine wp_aload_n dX3_meet_8 0 rfl ?_
      refine wp_iload_n dX3_meet_9 1 rfl ?_
      refine wp_iload_n dX3_meet_10 3 rfl ?_
      obtain ⟨r11, h11, h⟩ := o_bind h
      refine wp_callvI (k := 48) (ci := 3) (c_X3_hasHandIn Γ ad v1 v3 I J r11 h11) dX3_meet_11 mlX3_59 mwX3_hasHandIn miX3_hasHandIn rfl rfl rfl rfl (Nat.le_of_ble_eq_true rfl) rfl (by decide) (by decide) ?_
      refine wp_if_eq 26 dX3_meet_14 rfl (fun c14 => ?_) (fun c14 => ?_)
      · replace h := o_pos h c14
        refine wp_iinc (v := v3 + 1) (lv' := [(0, _), (1, _), (2, _), (3, _)]) dX3_meet_26 3 rfl rfl rfl rfl rfl ?_
        refine wp_goto 2 dX3_meet_29 rfl ?_
        refine wp_pick [0, 1, 2, 3] (lv' := [(0, _), (1, _), (2, _), (3, _)]) rfl ?_
        exact ih v1 v2 (v3 + 1) I J r h
      · replace h := o_neg h c14
        refine wp_aload_n dX3_meet_17 0 rfl ?_
        refine wp_iload_n dX3_meet_18 2 rfl ?_
        refine wp_iload_n dX3_meet_19 3 rfl ?_
        obtain ⟨r20, h20, h⟩ := o_bind h
        refine wp_callvI (k := 48) (ci := 3) (c_X3_hasHandIn Γ ad v2 v3 I J r20 h20) dX3_meet_20 mlX3_59 mwX3_hasHandIn miX3_hasHandIn rfl rfl rfl rfl (Nat.le_of_ble_eq_true rfl) rfl (by decide) (by decide) ?_
        refine wp_if_ne 32 dX3_meet_23 rfl (fun c23 => ?_) (fun c23 => ?_)
        · replace h := o_neg h c23
          refine wp_aload_n dX3_meet_32 0 rfl ?_
          refine wp_getR (k := 48) (a' := ad 49) dX3_meet_33 flX3_11 rfl rfl rfl rfl rfl ?_
          refine wp_iload_n dX3_meet_36 1 rfl ?_
          refine wp_bipush (v := 12) dX3_meet_37 (by decide) ?_
          refine wp_imul dX3_meet_39 ?_
          refine wp_iload_n dX3_meet_40 3 rfl ?_
          refine wp_iadd dX3_meet_41 ?_
          refine wp_dup2 dX3_meet_42 rfl rfl ?_
          obtain ⟨g43, h⟩ := o_grd h
          refine wp_iald (k := 49) dX3_meet_43 rfl rfl (inb_of g43) ?_
          refine wp_iconst (v := 1) dX3_meet_44 (by decide) ?_
          refine wp_iadd dX3_meet_45 ?_
          obtain ⟨g46, h⟩ := o_grd h
          refine wp_iast (k := 49) dX3_meet_46 rfl rfl (inb_of g46) ?_
          refine wp_aload_n dX3_meet_47 0 rfl ?_
          refine wp_getR (k := 48) (a' := ad 49) dX3_meet_48 flX3_11 rfl rfl rfl rfl rfl ?_
          refine wp_iload_n dX3_meet_51 2 rfl ?_
          refine wp_bipush (v := 12) dX3_meet_52 (by decide) ?_
          refine wp_imul dX3_meet_54 ?_
          refine wp_iload_n dX3_meet_55 3 rfl ?_
          refine wp_iadd dX3_meet_56 ?_
          refine wp_dup2 dX3_meet_57 rfl rfl ?_
          obtain ⟨g58, h⟩ := o_grd h
          refine wp_iald (k := 49) dX3_meet_58 rfl rfl (inb_of g58) ?_
          refine wp_iconst (v := 1) dX3_meet_59 (by decide) ?_
          refine wp_iadd dX3_meet_60 ?_
          obtain ⟨g61, h⟩ := o_grd h
          obtain ⟨i61, e61, h⟩ := o_bind h
          refine wp_iast (k := 49) dX3_meet_61 rfl rfl (inb_of g61) ?_
          refine wp_stI (Option.some.inj e61) ?_
          refine wp_iload_n dX3_meet_62 3 rfl ?_
          obtain rfl := Option.some.inj h
          exact wp_ireturn (ty := .int) dX3_meet_63 rfl rfl ⟨rfl, rfl, rfl, rfl⟩
        · replace h := o_pos h c23
          refine wp_iinc (v := v3 + 1) (lv' := [(0, _), (1, _), (2, _), (3, _)]) dX3_meet_26 3 rfl rfl rfl rfl rfl ?_
          refine wp_goto 2 dX3_meet_29 rfl ?_
          refine wp_pick [0, 1, 2, 3] (lv' := [(0, _), (1, _), (2, _), (3, _)]) rfl ?_
          exact ih v1 v2 (v3 + 1) I J r h
set_option maxRecDepth 100000 in
set_option maxHeartbeats 4000000 in
theorem c_X3_meet (Γ : GT) (ad : Nat → Nat) (a1 : Int32) (a2 : Int32) (I : IT) (J : JT) (r : Int32 × IT) (h : f_X3_meet a1 a2 I = some r) : CALL Γ mX3_meet (0, 0) [.ref (ad 48), .int a1, .int a2] (DX ad) I J (QE (some (.int r.1)) (DX ad) r.2 J) := by
  refine call_of' (by decide) (Nat.le_of_ble_eq_true rfl) (lv0 := [(0, .ref (ad 48)), (1, .int a1), (2, .int a2)]) rfl ?_
  unfold f_X3_meet at h
  refine wp_iconst (v := 0) dX3_meet_0 (by decide) ?_
  refine wp_istore_n (lv' := [(0, _), (1, _), (2, _), (3, _)]) dX3_meet_1 rfl rfl rfl rfl ?_
  refine wp_pick [0, 1, 2, 3] (lv' := [(0, _), (1, _), (2, _), (3, _)]) rfl ?_
  exact w_X3_meet_2 Γ ad FU a1 a2 0 I J r h
