/-! lifted: X10_goBack -/
def f_X10_goBack_130 : Nat → Int32 → Int32 → IT → Option (Int32 × IT)
  | 0, _, _, _ => none
  | n + 1, v2, v3, I =>
    if (6 : Int32) ≤ v3 then
      if inbB (v2 + 208) 440 = true then
        if inbB (v2 + 209) 440 = true then
          some (1, upI (upI I 55 16 (I 86 (v2 + 208).toNatClampNeg)) 55 17 ((upI I 55 16 (I 86 (v2 + 208).toNatClampNeg)) 86 (v2 + 209).toNatClampNeg))
        else none
      else none
    else
      if inbB ((v2 + 196) + v3) 440 = true then
        if inbB v3 6 = true then
          if inbB ((v2 + 202) + v3) 440 = true then
            if inbB v3 6 = true then
              (some (upI (upI I 64 v3.toNatClampNeg (I 86 ((v2 + 196) + v3).toNatClampNeg)) 65 v3.toNatClampNeg ((upI I 64 v3.toNatClampNeg (I 86 ((v2 + 196) + v3).toNatClampNeg)) 86 ((v2 + 202) + v3).toNatClampNeg))).bind fun i171 =>
              f_X10_goBack_130 n v2 (v3 + 1) i171
            else none
          else none
        else none
      else none
def f_X10_goBack_80 : Nat → Int32 → Int32 → IT → Option (Int32 × IT)
  | 0, _, _, _ => none
  | n + 1, v2, v3, I =>
    if (14 : Int32) ≤ v3 then
      f_X10_goBack_130 FU v2 0 I
    else
      if inbB ((v2 + 168) + v3) 440 = true then
        if inbB v3 14 = true then
          if inbB ((v2 + 182) + v3) 440 = true then
            if inbB v3 14 = true then
              (some (upI (upI I 61 v3.toNatClampNeg (I 86 ((v2 + 168) + v3).toNatClampNeg)) 66 v3.toNatClampNeg ((upI I 61 v3.toNatClampNeg (I 86 ((v2 + 168) + v3).toNatClampNeg)) 86 ((v2 + 182) + v3).toNatClampNeg))).bind fun i121 =>
              f_X10_goBack_80 n v2 (v3 + 1) i121
            else none
          else none
        else none
      else none
def f_X10_goBack_35 : Nat → Int32 → Int32 → IT → Option (Int32 × IT)
  | 0, _, _, _ => none
  | n + 1, v2, v3, I =>
    if (84 : Int32) ≤ v3 then
      f_X10_goBack_80 FU v2 0 I
    else
      if inbB (v2 + v3) 440 = true then
        if inbB v3 84 = true then
          if inbB ((v2 + 84) + v3) 440 = true then
            if inbB v3 84 = true then
              (some (upI (upI I 62 v3.toNatClampNeg (I 86 (v2 + v3).toNatClampNeg)) 63 v3.toNatClampNeg ((upI I 62 v3.toNatClampNeg (I 86 (v2 + v3).toNatClampNeg)) 86 ((v2 + 84) + v3).toNatClampNeg))).bind fun i71 =>
              f_X10_goBack_35 n v2 (v3 + 1) i71
            else none
          else none
        else none
      else none
def f_X10_goBack (a1 : Int32) (I : IT) : Option (Int32 × IT) :=
  (f_X10_in a1.toInt64 0 1).bind fun r4 =>
  if r4 = 0 then
    some ((-1000001), I)
  else
    if inbB a1 2 = true then
      if (I 87 a1.toNatClampNeg) = 0 then
        some ((-1000003), I)
      else
        f_X10_goBack_35 FU (220 * a1) 0 I
    else none
set_option maxRecDepth 100000 in
set_option maxHeartbeats 4000000 in
theorem w_X10_goBack_130 (Γ : GT) (ad : Nat → Nat) : ∀ (n : Nat) (v2 : Int32) (v3 : Int32) (I : IT) (J : JT) (r : Int32 × IT), f_X10_goBack_130 n v2 v3 I = some r → WP Γ mX10_goBack (0, 0) 130 [(0, .ref (ad 55)), (2, .int v2), (3, .int v3)] [] (DX ad) I J (QE (some (.int r.1)) (DX ad) r.2 J) := by
  intro n
  induction n with
  | zero => intro v2 v3 I J r h; exact absurd h (by simp [f_X10_goBack_130])
  | succ n ih =>
    intro v2 v3 I J r h
    rw [f_X10_goBack_130] at h
    refine wp_iload_n dX10_goBack_130 2 rfl ?_
    refine wp_bipush (v := 6) dX10_goBack_131 (by decide) ?_
    refine wp_icmp_ge 178 dX10_goBack_133 rfl (fun c133 => ?_) (fun c133 => ?_)
    · replace h := o_pos h c133
      refine wp_aload_n dX10_goBack_178 0 rfl ?_
      refine wp_aload_n dX10_goBack_179 0 rfl ?_
      refine wp_getR (k := 55) (a' := ad 86) dX10_goBack_180 flX10_112 rfl rfl rfl rfl rfl ?_
      refine wp_iload_n dX10_goBack_183 1 rfl ?_
      refine wp_sipush (v := 208) dX10_goBack_184 (by decide) ?_
      refine wp_iadd dX10_goBack_187 ?_
      obtain ⟨g188, h⟩ := o_grd h
      refine wp_iald (k := 86) dX10_goBack_188 rfl rfl (inb_of g188) ?_
      refine wp_putI (k := 55) dX10_goBack_189 flX10_138 rfl rfl rfl rfl rfl rfl rfl rfl ?_
      refine wp_aload_n dX10_goBack_192 0 rfl ?_
      refine wp_aload_n dX10_goBack_193 0 rfl ?_
      refine wp_getR (k := 55) (a' := ad 86) dX10_goBack_194 flX10_112 rfl rfl rfl rfl rfl ?_
      refine wp_iload_n dX10_goBack_197 1 rfl ?_
      refine wp_sipush (v := 209) dX10_goBack_198 (by decide) ?_
      refine wp_iadd dX10_goBack_201 ?_
      obtain ⟨g202, h⟩ := o_grd h
      refine wp_iald (k := 86) dX10_goBack_202 rfl rfl (inb_of g202) ?_
      refine wp_putI (k := 55) dX10_goBack_203 flX10_316 rfl rfl rfl rfl rfl rfl rfl rfl ?_
      refine wp_iconst (v := 1) dX10_goBack_206 (by decide) ?_
      obtain rfl := Option.some.inj h
      exact wp_ireturn (ty := .int) dX10_goBack_207 rfl rfl ⟨rfl, rfl, rfl, rfl⟩
    · replace h := o_neg h c133
      refine wp_aload_n dX10_goBack_136 0 rfl ?_
      refine wp_getR (k := 55) (a' := ad 64) dX10_goBack_137 flX10_41 rfl rfl rfl rfl rfl ?_
      refine wp_iload_n dX10_goBack_140 2 rfl ?_
      refine wp_aload_n dX10_goBack_141 0 rfl ?_
      refine wp_getR (k := 55) (a' := ad 86) dX10_goBack_142 flX10_112 rfl rfl rfl rfl rfl ?_
      refine wp_iload_n dX10_goBack_145 1 rfl ?_
      refine wp_sipush (v := 196) dX10_goBack_146 (by decide) ?_
      refine wp_iadd dX10_goBack_149 ?_
      refine wp_iload_n dX10_goBack_150 2 rfl ?_
      refine wp_iadd dX10_goBack_151 ?_
      obtain ⟨g152, h⟩ := o_grd h
      refine wp_iald (k := 86) dX10_goBack_152 rfl rfl (inb_of g152) ?_
      obtain ⟨g153, h⟩ := o_grd h
      refine wp_iast (k := 64) dX10_goBack_153 rfl rfl (inb_of g153) ?_
      refine wp_aload_n dX10_goBack_154 0 rfl ?_
      refine wp_getR (k := 55) (a' := ad 65) dX10_goBack_155 flX10_44 rfl rfl rfl rfl rfl ?_
      refine wp_iload_n dX10_goBack_158 2 rfl ?_
      refine wp_aload_n dX10_goBack_159 0 rfl ?_
      refine wp_getR (k := 55) (a' := ad 86) dX10_goBack_160 flX10_112 rfl rfl rfl rfl rfl ?_
      refine wp_iload_n dX10_goBack_163 1 rfl ?_
      refine wp_sipush (v := 202) dX10_goBack_164 (by decide) ?_
      refine wp_iadd dX10_goBack_167 ?_
      refine wp_iload_n dX10_goBack_168 2 rfl ?_
      refine wp_iadd dX10_goBack_169 ?_
      obtain ⟨g170, h⟩ := o_grd h
      refine wp_iald (k := 86) dX10_goBack_170 rfl rfl (inb_of g170) ?_
      obtain ⟨g171, h⟩ := o_grd h
      obtain ⟨i171, e171, h⟩ := o_bind h
      refine wp_iast (k := 65) dX10_goBack_171 rfl rfl (inb_of g171) ?_
      refine wp_stI (Option.some.inj e171) ?_
      refine wp_iinc (v := v3 + 1) (lv' := [(0, _), (2, _), (3, _)]) dX10_goBack_172 2 rfl rfl rfl rfl rfl ?_
      refine wp_goto 130 dX10_goBack_175 rfl ?_
      refine wp_pick [0, 1, 2] (lv' := [(0, _), (2, _), (3, _)]) rfl ?_
      exact ih v2 (v3 + 1) i171 J r h
set_option maxRecDepth 100000 in
set_option maxHeartbeats 4000000 in
theorem w_X10_goBack_80 (Γ : GT) (ad : Nat → Nat) : ∀ (n : Nat) (v2 : Int32) (v3 : Int32) (I : IT) (J : JT) (r : Int32 × IT), f_X10_goBack_80 n v2 v3 I = some r → WP Γ mX10_goBack (0, 0) 80 [(0, .ref (ad 55)), (2, .int v2), (3, .int v3)] [] (DX ad) I J (QE (some (.int r.1)) (DX ad) r.2 J) := by
  intro n
  induction n with
  | zero => intro v2 v3 I J r h; exact absurd h (by simp [f_X10_goBack_80])
  | succ n ih =>
    intro v2 v3 I J r h
    rw [f_X10_goBack_80] at h
    refine wp_iload_n dX10_goBack_80 2 rfl ?_
    refine wp_bipush (v := 14) dX10_goBack_81 (by decide) ?_
    refine wp_icmp_ge 128 dX10_goBack_83 rfl (fun c83 => ?_) (fun c83 => ?_)
    · replace h := o_pos h c83
      refine wp_iconst (v := 0) dX10_goBack_128 (by decide) ?_
      refine wp_istore_n (lv' := [(0, _), (2, _), (3, _)]) dX10_goBack_129 rfl rfl rfl rfl ?_
      refine wp_pick [0, 1, 2] (lv' := [(0, _), (2, _), (3, _)]) rfl ?_
      exact w_X10_goBack_130 Γ ad FU v2 0 I J r h
    · replace h := o_neg h c83
      refine wp_aload_n dX10_goBack_86 0 rfl ?_
      refine wp_getR (k := 55) (a' := ad 61) dX10_goBack_87 flX10_32 rfl rfl rfl rfl rfl ?_
      refine wp_iload_n dX10_goBack_90 2 rfl ?_
      refine wp_aload_n dX10_goBack_91 0 rfl ?_
      refine wp_getR (k := 55) (a' := ad 86) dX10_goBack_92 flX10_112 rfl rfl rfl rfl rfl ?_
      refine wp_iload_n dX10_goBack_95 1 rfl ?_
      refine wp_sipush (v := 168) dX10_goBack_96 (by decide) ?_
      refine wp_iadd dX10_goBack_99 ?_
      refine wp_iload_n dX10_goBack_100 2 rfl ?_
      refine wp_iadd dX10_goBack_101 ?_
      obtain ⟨g102, h⟩ := o_grd h
      refine wp_iald (k := 86) dX10_goBack_102 rfl rfl (inb_of g102) ?_
      obtain ⟨g103, h⟩ := o_grd h
      refine wp_iast (k := 61) dX10_goBack_103 rfl rfl (inb_of g103) ?_
      refine wp_aload_n dX10_goBack_104 0 rfl ?_
      refine wp_getR (k := 55) (a' := ad 66) dX10_goBack_105 flX10_47 rfl rfl rfl rfl rfl ?_
      refine wp_iload_n dX10_goBack_108 2 rfl ?_
      refine wp_aload_n dX10_goBack_109 0 rfl ?_
      refine wp_getR (k := 55) (a' := ad 86) dX10_goBack_110 flX10_112 rfl rfl rfl rfl rfl ?_
      refine wp_iload_n dX10_goBack_113 1 rfl ?_
      refine wp_sipush (v := 182) dX10_goBack_114 (by decide) ?_
      refine wp_iadd dX10_goBack_117 ?_
      refine wp_iload_n dX10_goBack_118 2 rfl ?_
      refine wp_iadd dX10_goBack_119 ?_
      obtain ⟨g120, h⟩ := o_grd h
      refine wp_iald (k := 86) dX10_goBack_120 rfl rfl (inb_of g120) ?_
      obtain ⟨g121, h⟩ := o_grd h
      obtain ⟨i121, e121, h⟩ := o_bind h
      refine wp_iast (k := 66) dX10_goBack_121 rfl rfl (inb_of g121) ?_
      refine wp_stI (Option.some.inj e121) ?_
      refine wp_iinc (v := v3 + 1) (lv' := [(0, _), (2, _), (3, _)]) dX10_goBack_122 2 rfl rfl rfl rfl rfl ?_
      refine wp_goto 80 dX10_goBack_125 rfl ?_
      refine wp_pick [0, 1, 2] (lv' := [(0, _), (2, _), (3, _)]) rfl ?_
      exact ih v2 (v3 + 1) i121 J r h
set_option maxRecDepth 100000 in
set_option maxHeartbeats 4000000 in
theorem w_X10_goBack_35 (Γ : GT) (ad : Nat → Nat) : ∀ (n : Nat) (v2 : Int32) (v3 : Int32) (I : IT) (J : JT) (r : Int32 × IT), f_X10_goBack_35 n v2 v3 I = some r → WP Γ mX10_goBack (0, 0) 35 [(0, .ref (ad 55)), (2, .int v2), (3, .int v3)] [] (DX ad) I J (QE (some (.int r.1)) (DX ad) r.2 J) := by
  intro n
  induction n with
  | zero => intro v2 v3 I J r h; exact absurd h (by simp [f_X10_goBack_35])
  | succ n ih =>
    intro v2 v3 I J r h
    rw [f_X10_goBack_35] at h
    refine wp_iload_n dX10_goBack_35 2 rfl ?_
    refine wp_bipush (v := 84) dX10_goBack_36 (by decide) ?_
    refine wp_icmp_ge 78 dX10_goBack_38 rfl (fun c38 => ?_) (fun c38 => ?_)
    · replace h := o_pos h c38
      refine wp_iconst (v := 0) dX10_goBack_78 (by decide) ?_
      refine wp_istore_n (lv' := [(0, _), (2, _), (3, _)]) dX10_goBack_79 rfl rfl rfl rfl ?_
      refine wp_pick [0, 1, 2] (lv' := [(0, _), (2, _), (3, _)]) rfl ?_
      exact w_X10_goBack_80 Γ ad FU v2 0 I J r h
    · replace h := o_neg h c38
      refine wp_aload_n dX10_goBack_41 0 rfl ?_
      refine wp_getR (k := 55) (a' := ad 62) dX10_goBack_42 flX10_35 rfl rfl rfl rfl rfl ?_
      refine wp_iload_n dX10_goBack_45 2 rfl ?_
      refine wp_aload_n dX10_goBack_46 0 rfl ?_
      refine wp_getR (k := 55) (a' := ad 86) dX10_goBack_47 flX10_112 rfl rfl rfl rfl rfl ?_
      refine wp_iload_n dX10_goBack_50 1 rfl ?_
      refine wp_iload_n dX10_goBack_51 2 rfl ?_
      refine wp_iadd dX10_goBack_52 ?_
      obtain ⟨g53, h⟩ := o_grd h
      refine wp_iald (k := 86) dX10_goBack_53 rfl rfl (inb_of g53) ?_
      obtain ⟨g54, h⟩ := o_grd h
      refine wp_iast (k := 62) dX10_goBack_54 rfl rfl (inb_of g54) ?_
      refine wp_aload_n dX10_goBack_55 0 rfl ?_
      refine wp_getR (k := 55) (a' := ad 63) dX10_goBack_56 flX10_38 rfl rfl rfl rfl rfl ?_
      refine wp_iload_n dX10_goBack_59 2 rfl ?_
      refine wp_aload_n dX10_goBack_60 0 rfl ?_
      refine wp_getR (k := 55) (a' := ad 86) dX10_goBack_61 flX10_112 rfl rfl rfl rfl rfl ?_
      refine wp_iload_n dX10_goBack_64 1 rfl ?_
      refine wp_bipush (v := 84) dX10_goBack_65 (by decide) ?_
      refine wp_iadd dX10_goBack_67 ?_
      refine wp_iload_n dX10_goBack_68 2 rfl ?_
      refine wp_iadd dX10_goBack_69 ?_
      obtain ⟨g70, h⟩ := o_grd h
      refine wp_iald (k := 86) dX10_goBack_70 rfl rfl (inb_of g70) ?_
      obtain ⟨g71, h⟩ := o_grd h
      obtain ⟨i71, e71, h⟩ := o_bind h
      refine wp_iast (k := 63) dX10_goBack_71 rfl rfl (inb_of g71) ?_
      refine wp_stI (Option.some.inj e71) ?_
      refine wp_iinc (v := v3 + 1) (lv' := [(0, _), (2, _), (3, _)]) dX10_goBack_72 2 rfl rfl rfl rfl rfl ?_
      refine wp_goto 35 dX10_goBack_75 rfl ?_
      refine wp_pick [0, 1, 2] (lv' := [(0, _), (2, _), (3, _)]) rfl ?_
      exact ih v2 (v3 + 1) i71 J r h
set_option maxRecDepth 100000 in
set_option maxHeartbeats 4000000 in
theorem c_X10_goBack (Γ : GT) (ad : Nat → Nat) (a1 : Int32) (I : IT) (J : JT) (r : Int32 × IT) (h : f_X10_goBack a1 I = some r) : CALL Γ mX10_goBack (0, 0) [.ref (ad 55), .int a1] (DX ad) I J (QE (some (.int r.1)) (DX ad) r.2 J) := by
  refine call_of' (by decide) (Nat.le_of_ble_eq_true rfl) (lv0 := [(0, .ref (ad 55)), (1, .int a1)]) rfl ?_
  unfold f_X10_goBack at h
  refine wp_iload_n dX10_goBack_0 1 rfl ?_
  refine wp_i2l dX10_goBack_1 ?_
  refine wp_lconst (v := 0) dX10_goBack_2 (by decide) ?_
  refine wp_lconst (v := 1) dX10_goBack_3 (by decide) ?_
  obtain ⟨r4, h4, h⟩ := o_bind h
  refine wp_callsI (c_X10_in Γ ad a1.toInt64 0 1 I J r4 h4) dX10_goBack_4 mlX10_134 mwX10_in miX10_in rfl (Nat.le_of_ble_eq_true rfl) rfl (by decide) (by decide) ?_
  refine wp_if_ne 14 dX10_goBack_7 rfl (fun c7 => ?_) (fun c7 => ?_)
  · replace h := o_neg h c7
    refine wp_aload_n dX10_goBack_14 0 rfl ?_
    refine wp_getR (k := 55) (a' := ad 87) dX10_goBack_15 flX10_115 rfl rfl rfl rfl rfl ?_
    refine wp_iload_n dX10_goBack_18 1 rfl ?_
    obtain ⟨g19, h⟩ := o_grd h
    refine wp_zald (k := 87) dX10_goBack_19 rfl rfl (inb_of g19) ?_
    refine wp_if_ne 27 dX10_goBack_20 rfl (fun c20 => ?_) (fun c20 => ?_)
    · replace h := o_neg h c20
      refine wp_sipush (v := 220) dX10_goBack_27 (by decide) ?_
      refine wp_iload_n dX10_goBack_30 1 rfl ?_
      refine wp_imul dX10_goBack_31 ?_
      refine wp_istore_n (lv' := [(0, _), (1, _), (2, _)]) dX10_goBack_32 rfl rfl rfl rfl ?_
      refine wp_iconst (v := 0) dX10_goBack_33 (by decide) ?_
      refine wp_istore_n (lv' := [(0, _), (1, _), (2, _), (3, _)]) dX10_goBack_34 rfl rfl rfl rfl ?_
      refine wp_pick [0, 2, 3] (lv' := [(0, _), (2, _), (3, _)]) rfl ?_
      exact w_X10_goBack_35 Γ ad FU (220 * a1) 0 I J r h
    · replace h := o_pos h c20
      refine wp_ldcw (v := (-1000003)) dX10_goBack_23 kcX10_284 ?_
      obtain rfl := Option.some.inj h
      exact wp_ireturn (ty := .int) dX10_goBack_26 rfl rfl ⟨rfl, rfl, rfl, rfl⟩
  · replace h := o_pos h c7
    refine wp_ldcw (v := (-1000001)) dX10_goBack_10 kcX10_264 ?_
    obtain rfl := Option.some.inj h
    exact wp_ireturn (ty := .int) dX10_goBack_13 rfl rfl ⟨rfl, rfl, rfl, rfl⟩
