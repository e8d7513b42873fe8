/-! lifted: X10_byOrder X10_byHands X10_meetings X10_write X10_tear -/
def f_X10_byOrder_56 : Nat → Int32 → Int32 → Int32 → Int32 → IT → Option (Int32)
  | 0, _, _, _, _, _ => none
  | n + 1, v1, v2, v3, v4, I =>
    if inbB ((14 * v4) + v2) 504 = true then
      if inbB v2 14 = true then
        if (I 81 ((14 * v4) + v2).toNatClampNeg) = (I 60 v2.toNatClampNeg) then
          f_X10_byOrder_56 n v1 v2 v3 (v4 + 1) I
        else
          if inbB (((14 * v4) + (I 55 0)) + v3) 504 = true then
            if inbB ((I 55 0) + v3) 14 = true then
              if (I 81 (((14 * v4) + (I 55 0)) + v3).toNatClampNeg) = (I 60 ((I 55 0) + v3).toNatClampNeg) then
                f_X10_byOrder_56 n v1 v2 v3 (v4 + 1) I
              else
                some v4
            else none
          else none
      else none
    else none
def f_X10_byOrder_36 : Nat → Int32 → Int32 → Int32 → IT → Option (Int32 × IT)
  | 0, _, _, _, _ => none
  | n + 1, v1, v2, v3, I =>
    if (I 55 1) ≤ v3 then
      some (v1, I)
    else
      (f_X10_wantsTo v2 v3 I).bind fun r47 =>
      if r47 = 0 then
        f_X10_byOrder_36 n v1 v2 (v3 + 1) I
      else
        (f_X10_byOrder_56 FU v1 v2 v3 0 I).bind fun r56 =>
        if inbB ((14 * r56) + v2) 504 = true then
          if inbB ((14 * r56) + v2) 504 = true then
            if inbB (((14 * r56) + ((upI I 81 (((14 * r56) + v2).toNatClampNeg) ((I 81 ((14 * r56) + v2).toNatClampNeg) + 1)) 55 0)) + v3) 504 = true then
              if inbB (((14 * r56) + ((upI I 81 (((14 * r56) + v2).toNatClampNeg) ((I 81 ((14 * r56) + v2).toNatClampNeg) + 1)) 55 0)) + v3) 504 = true then
                (some (upI (upI I 81 (((14 * r56) + v2).toNatClampNeg) ((I 81 ((14 * r56) + v2).toNatClampNeg) + 1)) 81 ((((14 * r56) + ((upI I 81 (((14 * r56) + v2).toNatClampNeg) ((I 81 ((14 * r56) + v2).toNatClampNeg) + 1)) 55 0)) + v3).toNatClampNeg) (((upI I 81 (((14 * r56) + v2).toNatClampNeg) ((I 81 ((14 * r56) + v2).toNatClampNeg) + 1)) 81 (((14 * r56) + ((upI I 81 (((14 * r56) + v2).toNatClampNeg) ((I 81 ((14 * r56) + v2).toNatClampNeg) + 1)) 55 0)) + v3).toNatClampNeg) + 1))).bind fun i150 =>
                if (r56 + 1) ≤ v1 then
                  f_X10_byOrder_36 n v1 v2 (v3 + 1) i150
                else
                  f_X10_byOrder_36 n (r56 + 1) v2 (v3 + 1) i150
              else none
            else none
          else none
        else none
def f_X10_byOrder_26 : Nat → Int32 → Int32 → IT → Option (Int32 × IT)
  | 0, _, _, _ => none
  | n + 1, v1, v2, I =>
    if (I 55 0) ≤ v2 then
      some (v1, I)
    else
      (f_X10_byOrder_36 FU v1 v2 0 I).bind fun r36 =>
      f_X10_byOrder_26 n r36.1 (v2 + 1) r36.2
def f_X10_byOrder_2 : Nat → Int32 → IT → Option (Int32 × IT)
  | 0, _, _ => none
  | n + 1, v1, I =>
    if (504 : Int32) ≤ v1 then
      f_X10_byOrder_26 FU 0 0 I
    else
      if inbB v1 504 = true then
        f_X10_byOrder_2 n (v1 + 1) (upI I 81 v1.toNatClampNeg 0)
      else none
def f_X10_byOrder (I : IT) : Option (Int32 × IT) :=
  f_X10_byOrder_2 FU 0 I
set_option maxRecDepth 100000 in
set_option maxHeartbeats 4000000 in
theorem w_X10_byOrder_56 (Γ : GT) (ad : Nat → Nat) (Q : QT) : ∀ (n : Nat) (v1 : Int32) (v2 : Int32) (v3 : Int32) (v4 : Int32) (I : IT) (J : JT) (r : Int32), f_X10_byOrder_56 n v1 v2 v3 v4 I = some r → WP Γ mX10_byOrder (0, 0) 114 [(0, .ref (ad 55)), (1, .int v1), (2, .int v2), (3, .int v3), (4, .int r)] [] (DX ad) I J Q → WP Γ mX10_byOrder (0, 0) 56 [(0, .ref (ad 55)), (1, .int v1), (2, .int v2), (3, .int v3), (4, .int v4)] [] (DX ad) I J Q := by
  intro n
  induction n with
  | zero => intro v1 v2 v3 v4 I J r h K; exact absurd h (by simp [f_X10_byOrder_56])
  | succ n ih =>
    intro v1 v2 v3 v4 I J r h K
    rw [f_X10_byOrder_56] at h
    refine wp_aload_n dX10_byOrder_56 0 rfl ?_
    refine wp_getR (k := 55) (a' := ad 81) dX10_byOrder_57 flX10_97 rfl rfl rfl rfl rfl ?_
    refine wp_bipush (v := 14) dX10_byOrder_60 (by decide) ?_
    refine wp_iload dX10_byOrder_62 4 rfl ?_
    refine wp_imul dX10_byOrder_64 ?_
    refine wp_iload_n dX10_byOrder_65 2 rfl ?_
    refine wp_iadd dX10_byOrder_66 ?_
    obtain ⟨g67, h⟩ := o_grd h
    refine wp_iald (k := 81) dX10_byOrder_67 rfl rfl (inb_of g67) ?_
    refine wp_aload_n dX10_byOrder_68 0 rfl ?_
    refine wp_getR (k := 55) (a' := ad 60) dX10_byOrder_69 flX10_22 rfl rfl rfl rfl rfl ?_
    refine wp_iload_n dX10_byOrder_72 2 rfl ?_
    obtain ⟨g73, h⟩ := o_grd h
    refine wp_iald (k := 60) dX10_byOrder_73 rfl rfl (inb_of g73) ?_
    refine wp_icmp_eq 108 dX10_byOrder_74 rfl (fun c74 => ?_) (fun c74 => ?_)
    · replace h := o_pos h c74
      refine wp_iinc (v := v4 + 1) (lv' := [(0, _), (1, _), (2, _), (3, _), (4, _)]) dX10_byOrder_108 4 rfl rfl rfl rfl rfl ?_
      refine wp_goto 56 dX10_byOrder_111 rfl ?_
      refine wp_pick [0, 1, 2, 3, 4] (lv' := [(0, _), (1, _), (2, _), (3, _), (4, _)]) rfl ?_
      exact ih v1 v2 v3 (v4 + 1) I J r h K
    · replace h := o_neg h c74
      refine wp_aload_n dX10_byOrder_77 0 rfl ?_
      refine wp_getR (k := 55) (a' := ad 81) dX10_byOrder_78 flX10_97 rfl rfl rfl rfl rfl ?_
      refine wp_bipush (v := 14) dX10_byOrder_81 (by decide) ?_
      refine wp_iload dX10_byOrder_83 4 rfl ?_
      refine wp_imul dX10_byOrder_85 ?_
      refine wp_aload_n dX10_byOrder_86 0 rfl ?_
      refine wp_getI (k := 55) dX10_byOrder_87 flX10_121 rfl rfl rfl rfl ?_
      refine wp_iadd dX10_byOrder_90 ?_
      refine wp_iload_n dX10_byOrder_91 3 rfl ?_
      refine wp_iadd dX10_byOrder_92 ?_
      obtain ⟨g93, h⟩ := o_grd h
      refine wp_iald (k := 81) dX10_byOrder_93 rfl rfl (inb_of g93) ?_
      refine wp_aload_n dX10_byOrder_94 0 rfl ?_
      refine wp_getR (k := 55) (a' := ad 60) dX10_byOrder_95 flX10_22 rfl rfl rfl rfl rfl ?_
      refine wp_aload_n dX10_byOrder_98 0 rfl ?_
      refine wp_getI (k := 55) dX10_byOrder_99 flX10_121 rfl rfl rfl rfl ?_
      refine wp_iload_n dX10_byOrder_102 3 rfl ?_
      refine wp_iadd dX10_byOrder_103 ?_
      obtain ⟨g104, h⟩ := o_grd h
      refine wp_iald (k := 60) dX10_byOrder_104 rfl rfl (inb_of g104) ?_
      refine wp_icmp_ne 114 dX10_byOrder_105 rfl (fun c105 => ?_) (fun c105 => ?_)
      · replace h := o_neg h c105
        obtain rfl := Option.some.inj h
        exact wp_pick [0, 1, 2, 3, 4] (lv' := [(0, _), (1, _), (2, _), (3, _), (4, _)]) rfl K
      · replace h := o_pos h c105
        refine wp_iinc (v := v4 + 1) (lv' := [(0, _), (1, _), (2, _), (3, _), (4, _)]) dX10_byOrder_108 4 rfl rfl rfl rfl rfl ?_
        refine wp_goto 56 dX10_byOrder_111 rfl ?_
        refine wp_pick [0, 1, 2, 3, 4] (lv' := [(0, _), (1, _), (2, _), (3, _), (4, _)]) rfl ?_
        exact ih v1 v2 v3 (v4 + 1) I J r h K
set_option maxRecDepth 100000 in
set_option maxHeartbeats 4000000 in
theorem w_X10_byOrder_36 (Γ : GT) (ad : Nat → Nat) (Q : QT) : ∀ (n : Nat) (v1 : Int32) (v2 : Int32) (v3 : Int32) (I : IT) (J : JT) (r : Int32 × IT), f_X10_byOrder_36 n v1 v2 v3 I = some r → WP Γ mX10_byOrder (0, 0) 174 [(0, .ref (ad 55)), (1, .int r.1), (2, .int v2)] [] (DX ad) r.2 J Q → WP Γ mX10_byOrder (0, 0) 36 [(0, .ref (ad 55)), (1, .int v1), (2, .int v2), (3, .int v3)] [] (DX ad) I J Q := by
  intro n
  induction n with
  | zero => intro v1 v2 v3 I J r h K; exact absurd h (by simp [f_X10_byOrder_36])
  | succ n ih =>
    intro v1 v2 v3 I J r h K
    rw [f_X10_byOrder_36] at h
    refine wp_iload_n dX10_byOrder_36 3 rfl ?_
    refine wp_aload_n dX10_byOrder_37 0 rfl ?_
    refine wp_getI (k := 55) dX10_byOrder_38 flX10_124 rfl rfl rfl rfl ?_
    refine wp_icmp_ge 174 dX10_byOrder_41 rfl (fun c41 => ?_) (fun c41 => ?_)
    · replace h := o_pos h c41
      obtain rfl := Option.some.inj h
      exact wp_pick [0, 1, 2] (lv' := [(0, _), (1, _), (2, _)]) rfl K
    · replace h := o_neg h c41
      refine wp_aload_n dX10_byOrder_44 0 rfl ?_
      refine wp_iload_n dX10_byOrder_45 2 rfl ?_
      refine wp_iload_n dX10_byOrder_46 3 rfl ?_
      obtain ⟨r47, h47, h⟩ := o_bind h
      refine wp_callvI (k := 55) (ci := 10) (c_X10_wantsTo Γ ad v2 v3 I J r47 h47) dX10_byOrder_47 mlX10_387 mwX10_wantsTo miX10_wantsTo rfl rfl rfl rfl (Nat.le_of_ble_eq_true rfl) rfl (by decide) (by decide) ?_
      refine wp_if_eq 168 dX10_byOrder_50 rfl (fun c50 => ?_) (fun c50 => ?_)
      · replace h := o_pos h c50
        refine wp_iinc (v := v3 + 1) (lv' := [(0, _), (1, _), (2, _), (3, _)]) dX10_byOrder_168 3 rfl rfl rfl rfl rfl ?_
        refine wp_goto 36 dX10_byOrder_171 rfl ?_
        refine wp_pick [0, 1, 2, 3] (lv' := [(0, _), (1, _), (2, _), (3, _)]) rfl ?_
        exact ih v1 v2 (v3 + 1) I J r h K
      · replace h := o_neg h c50
        refine wp_iconst (v := 0) dX10_byOrder_53 (by decide) ?_
        refine wp_istore (lv' := [(0, _), (1, _), (2, _), (3, _), (4, _)]) dX10_byOrder_54 rfl rfl rfl ?_
        refine wp_pick [0, 1, 2, 3, 4] (lv' := [(0, _), (1, _), (2, _), (3, _), (4, _)]) rfl ?_
        obtain ⟨r56, h56, h⟩ := o_bind h
        refine w_X10_byOrder_56 Γ ad _ FU v1 v2 v3 0 I J r56 h56 ?_
        refine wp_aload_n dX10_byOrder_114 0 rfl ?_
        refine wp_getR (k := 55) (a' := ad 81) dX10_byOrder_115 flX10_97 rfl rfl rfl rfl rfl ?_
        refine wp_bipush (v := 14) dX10_byOrder_118 (by decide) ?_
        refine wp_iload dX10_byOrder_120 4 rfl ?_
        refine wp_imul dX10_byOrder_122 ?_
        refine wp_iload_n dX10_byOrder_123 2 rfl ?_
        refine wp_iadd dX10_byOrder_124 ?_
        refine wp_dup2 dX10_byOrder_125 rfl rfl ?_
        obtain ⟨g126, h⟩ := o_grd h
        refine wp_iald (k := 81) dX10_byOrder_126 rfl rfl (inb_of g126) ?_
        refine wp_iconst (v := 1) dX10_byOrder_127 (by decide) ?_
        refine wp_iadd dX10_byOrder_128 ?_
        obtain ⟨g129, h⟩ := o_grd h
        refine wp_iast (k := 81) dX10_byOrder_129 rfl rfl (inb_of g129) ?_
        refine wp_aload_n dX10_byOrder_130 0 rfl ?_
        refine wp_getR (k := 55) (a' := ad 81) dX10_byOrder_131 flX10_97 rfl rfl rfl rfl rfl ?_
        refine wp_bipush (v := 14) dX10_byOrder_134 (by decide) ?_
        refine wp_iload dX10_byOrder_136 4 rfl ?_
        refine wp_imul dX10_byOrder_138 ?_
        refine wp_aload_n dX10_byOrder_139 0 rfl ?_
        refine wp_getI (k := 55) dX10_byOrder_140 flX10_121 rfl rfl rfl rfl ?_
        refine wp_iadd dX10_byOrder_143 ?_
        refine wp_iload_n dX10_byOrder_144 3 rfl ?_
        refine wp_iadd dX10_byOrder_145 ?_
        refine wp_dup2 dX10_byOrder_146 rfl rfl ?_
        obtain ⟨g147, h⟩ := o_grd h
        refine wp_iald (k := 81) dX10_byOrder_147 rfl rfl (inb_of g147) ?_
        refine wp_iconst (v := 1) dX10_byOrder_148 (by decide) ?_
        refine wp_iadd dX10_byOrder_149 ?_
        obtain ⟨g150, h⟩ := o_grd h
        obtain ⟨i150, e150, h⟩ := o_bind h
        refine wp_iast (k := 81) dX10_byOrder_150 rfl rfl (inb_of g150) ?_
        refine wp_stI (Option.some.inj e150) ?_
        refine wp_iload dX10_byOrder_151 4 rfl ?_
        refine wp_iconst (v := 1) dX10_byOrder_153 (by decide) ?_
        refine wp_iadd dX10_byOrder_154 ?_
        refine wp_iload_n dX10_byOrder_155 1 rfl ?_
        refine wp_icmp_le 166 dX10_byOrder_156 rfl (fun c156 => ?_) (fun c156 => ?_)
        · replace h := o_pos h c156
          refine wp_iload_n dX10_byOrder_166 1 rfl ?_
          refine wp_istore_n (lv' := [(0, _), (1, _), (2, _), (3, _), (4, _)]) dX10_byOrder_167 rfl rfl rfl rfl ?_
          refine wp_iinc (v := v3 + 1) (lv' := [(0, _), (1, _), (2, _), (3, _), (4, _)]) dX10_byOrder_168 3 rfl rfl rfl rfl rfl ?_
          refine wp_goto 36 dX10_byOrder_171 rfl ?_
          refine wp_pick [0, 1, 2, 3] (lv' := [(0, _), (1, _), (2, _), (3, _)]) rfl ?_
          exact ih v1 v2 (v3 + 1) i150 J r h K
        · replace h := o_neg h c156
          refine wp_iload dX10_byOrder_159 4 rfl ?_
          refine wp_iconst (v := 1) dX10_byOrder_161 (by decide) ?_
          refine wp_iadd dX10_byOrder_162 ?_
          refine wp_goto 167 dX10_byOrder_163 rfl ?_
          refine wp_istore_n (lv' := [(0, _), (1, _), (2, _), (3, _), (4, _)]) dX10_byOrder_167 rfl rfl rfl rfl ?_
          refine wp_iinc (v := v3 + 1) (lv' := [(0, _), (1, _), (2, _), (3, _), (4, _)]) dX10_byOrder_168 3 rfl rfl rfl rfl rfl ?_
          refine wp_goto 36 dX10_byOrder_171 rfl ?_
          refine wp_pick [0, 1, 2, 3] (lv' := [(0, _), (1, _), (2, _), (3, _)]) rfl ?_
          exact ih (r56 + 1) v2 (v3 + 1) i150 J r h K
set_option maxRecDepth 100000 in
set_option maxHeartbeats 4000000 in
theorem w_X10_byOrder_26 (Γ : GT) (ad : Nat → Nat) : ∀ (n : Nat) (v1 : Int32) (v2 : Int32) (I : IT) (J : JT) (r : Int32 × IT), f_X10_byOrder_26 n v1 v2 I = some r → WP Γ mX10_byOrder (0, 0) 26 [(0, .ref (ad 55)), (1, .int v1), (2, .int v2)] [] (DX ad) I J (QE (some (.int r.1)) (DX ad) r.2 J) := by
  intro n
  induction n with
  | zero => intro v1 v2 I J r h; exact absurd h (by simp [f_X10_byOrder_26])
  | succ n ih =>
    intro v1 v2 I J r h
    rw [f_X10_byOrder_26] at h
    refine wp_iload_n dX10_byOrder_26 2 rfl ?_
    refine wp_aload_n dX10_byOrder_27 0 rfl ?_
    refine wp_getI (k := 55) dX10_byOrder_28 flX10_121 rfl rfl rfl rfl ?_
    refine wp_icmp_ge 180 dX10_byOrder_31 rfl (fun c31 => ?_) (fun c31 => ?_)
    · replace h := o_pos h c31
      refine wp_iload_n dX10_byOrder_180 1 rfl ?_
      obtain rfl := Option.some.inj h
      exact wp_ireturn (ty := .int) dX10_byOrder_181 rfl rfl ⟨rfl, rfl, rfl, rfl⟩
    · replace h := o_neg h c31
      refine wp_iconst (v := 0) dX10_byOrder_34 (by decide) ?_
      refine wp_istore_n (lv' := [(0, _), (1, _), (2, _), (3, _)]) dX10_byOrder_35 rfl rfl rfl rfl ?_
      refine wp_pick [0, 1, 2, 3] (lv' := [(0, _), (1, _), (2, _), (3, _)]) rfl ?_
      obtain ⟨r36, h36, h⟩ := o_bind h
      refine w_X10_byOrder_36 Γ ad _ FU v1 v2 0 I J r36 h36 ?_
      refine wp_iinc (v := v2 + 1) (lv' := [(0, _), (1, _), (2, _)]) dX10_byOrder_174 2 rfl rfl rfl rfl rfl ?_
      refine wp_goto 26 dX10_byOrder_177 rfl ?_
      refine wp_pick [0, 1, 2] (lv' := [(0, _), (1, _), (2, _)]) rfl ?_
      exact ih r36.1 (v2 + 1) r36.2 J r h
set_option maxRecDepth 100000 in
set_option maxHeartbeats 4000000 in
theorem w_X10_byOrder_2 (Γ : GT) (ad : Nat → Nat) : ∀ (n : Nat) (v1 : Int32) (I : IT) (J : JT) (r : Int32 × IT), f_X10_byOrder_2 n v1 I = some r → WP Γ mX10_byOrder (0, 0) 2 [(0, .ref (ad 55)), (1, .int v1)] [] (DX ad) I J (QE (some (.int r.1)) (DX ad) r.2 J) := by
  intro n
  induction n with
  | zero => intro v1 I J r h; exact absurd h (by simp [f_X10_byOrder_2])
  | succ n ih =>
    intro v1 I J r h
    rw [f_X10_byOrder_2] at h
    refine wp_iload_n dX10_byOrder_2 1 rfl ?_
    refine wp_sipush (v := 504) dX10_byOrder_3 (by decide) ?_
    refine wp_icmp_ge 22 dX10_byOrder_6 rfl (fun c6 => ?_) (fun c6 => ?_)
    · replace h := o_pos h c6
      refine wp_iconst (v := 0) dX10_byOrder_22 (by decide) ?_
      refine wp_istore_n (lv' := [(0, _), (1, _)]) dX10_byOrder_23 rfl rfl rfl rfl ?_
      refine wp_iconst (v := 0) dX10_byOrder_24 (by decide) ?_
      refine wp_istore_n (lv' := [(0, _), (1, _), (2, _)]) dX10_byOrder_25 rfl rfl rfl rfl ?_
      refine wp_pick [0, 1, 2] (lv' := [(0, _), (1, _), (2, _)]) rfl ?_
      exact w_X10_byOrder_26 Γ ad FU 0 0 I J r h
    · replace h := o_neg h c6
      refine wp_aload_n dX10_byOrder_9 0 rfl ?_
      refine wp_getR (k := 55) (a' := ad 81) dX10_byOrder_10 flX10_97 rfl rfl rfl rfl rfl ?_
      refine wp_iload_n dX10_byOrder_13 1 rfl ?_
      refine wp_iconst (v := 0) dX10_byOrder_14 (by decide) ?_
      obtain ⟨g15, h⟩ := o_grd h
      refine wp_iast (k := 81) dX10_byOrder_15 rfl rfl (inb_of g15) ?_
      refine wp_iinc (v := v1 + 1) (lv' := [(0, _), (1, _)]) dX10_byOrder_16 1 rfl rfl rfl rfl rfl ?_
      refine wp_goto 2 dX10_byOrder_19 rfl ?_
      refine wp_pick [0, 1] (lv' := [(0, _), (1, _)]) rfl ?_
      exact ih (v1 + 1) (upI I 81 v1.toNatClampNeg 0) J r h
set_option maxRecDepth 100000 in
set_option maxHeartbeats 4000000 in
theorem c_X10_byOrder (Γ : GT) (ad : Nat → Nat) (I : IT) (J : JT) (r : Int32 × IT) (h : f_X10_byOrder I = some r) : CALL Γ mX10_byOrder (0, 0) [.ref (ad 55)] (DX ad) I J (QE (some (.int r.1)) (DX ad) r.2 J) := by
  refine call_of' (by decide) (Nat.le_of_ble_eq_true rfl) (lv0 := [(0, .ref (ad 55))]) rfl ?_
  unfold f_X10_byOrder at h
  refine wp_iconst (v := 0) dX10_byOrder_0 (by decide) ?_
  refine wp_istore_n (lv' := [(0, _), (1, _)]) dX10_byOrder_1 rfl rfl rfl rfl ?_
  refine wp_pick [0, 1] (lv' := [(0, _), (1, _)]) rfl ?_
  exact w_X10_byOrder_2 Γ ad FU 0 I J r h
def f_X10_byHands_22 : Nat → Int32 → Int32 → Int32 → Int32 → IT → Option (Int32)
  | 0, _, _, _, _, _ => none
  | n + 1, v1, v2, v3, v4, I =>
    if (6 : Int32) ≤ v4 then
      some v3
    else
      if (I 55 0) ≤ v2 then
        if (I 55 0) ≤ v4 then
          f_X10_byHands_22 n v1 v2 (v3 + 0) (v4 + 1) I
        else
          (f_X10_wantsTo v4 (v2 - (I 55 0)) I).bind fun r83 =>
          if r83 = 0 then
            f_X10_byHands_22 n v1 v2 (v3 + 0) (v4 + 1) I
          else
            f_X10_byHands_22 n v1 v2 (v3 + 1) (v4 + 1) I
      else
        if (I 55 1) ≤ v4 then
          f_X10_byHands_22 n v1 v2 (v3 + 0) (v4 + 1) I
        else
          (f_X10_wantsTo v2 v4 I).bind fun r51 =>
          if r51 = 0 then
            f_X10_byHands_22 n v1 v2 (v3 + 0) (v4 + 1) I
          else
            f_X10_byHands_22 n v1 v2 (v3 + 1) (v4 + 1) I
def f_X10_byHands_4 : Nat → Int32 → Int32 → IT → Option (Int32)
  | 0, _, _, _ => none
  | n + 1, v1, v2, I =>
    if ((I 55 0) + (I 55 1)) ≤ v2 then
      some v1
    else
      (f_X10_byHands_22 FU v1 v2 0 0 I).bind fun r22 =>
      if inbB v2 14 = true then
        if inbB v2 14 = true then
          if ¬ (I 60 v2.toNatClampNeg) = 0 then
            if (((r22 + (I 60 v2.toNatClampNeg)) - 1) / (I 60 v2.toNatClampNeg)) ≤ v1 then
              f_X10_byHands_4 n v1 (v2 + 1) I
            else
              f_X10_byHands_4 n (((r22 + (I 60 v2.toNatClampNeg)) - 1) / (I 60 v2.toNatClampNeg)) (v2 + 1) I
          else none
        else none
      else none
def f_X10_byHands (I : IT) : Option (Int32) :=
  f_X10_byHands_4 FU 0 0 I
set_option maxRecDepth 100000 in
set_option maxHeartbeats 4000000 in
theorem w_X10_byHands_22 (Γ : GT) (ad : Nat → Nat) (Q : QT) : ∀ (n : Nat) (v1 : Int32) (v2 : Int32) (v3 : Int32) (v4 : Int32) (I : IT) (J : JT) (r : Int32), f_X10_byHands_22 n v1 v2 v3 v4 I = some r → WP Γ mX10_byHands (0, 0) 102 [(0, .ref (ad 55)), (1, .int v1), (2, .int v2), (3, .int r)] [] (DX ad) I J Q → WP Γ mX10_byHands (0, 0) 22 [(0, .ref (ad 55)), (1, .int v1), (2, .int v2), (3, .int v3), (4, .int v4)] [] (DX ad) I J Q := by
  intro n
  induction n with
  | zero => intro v1 v2 v3 v4 I J r h K; exact absurd h (by simp [f_X10_byHands_22])
  | succ n ih =>
    intro v1 v2 v3 v4 I J r h K
    rw [f_X10_byHands_22] at h
    refine wp_iload dX10_byHands_22 4 rfl ?_
    refine wp_bipush (v := 6) dX10_byHands_24 (by decide) ?_
    refine wp_icmp_ge 102 dX10_byHands_26 rfl (fun c26 => ?_) (fun c26 => ?_)
    · replace h := o_pos h c26
      obtain rfl := Option.some.inj h
      exact wp_pick [0, 1, 2, 3] (lv' := [(0, _), (1, _), (2, _), (3, _)]) rfl K
    · replace h := o_neg h c26
      refine wp_iload_n dX10_byHands_29 3 rfl ?_
      refine wp_iload_n dX10_byHands_30 2 rfl ?_
      refine wp_aload_n dX10_byHands_31 0 rfl ?_
      refine wp_getI (k := 55) dX10_byHands_32 flX10_121 rfl rfl rfl rfl ?_
      refine wp_icmp_ge 65 dX10_byHands_35 rfl (fun c35 => ?_) (fun c35 => ?_)
      · replace h := o_pos h c35
        refine wp_iload dX10_byHands_65 4 rfl ?_
        refine wp_aload_n dX10_byHands_67 0 rfl ?_
        refine wp_getI (k := 55) dX10_byHands_68 flX10_121 rfl rfl rfl rfl ?_
        refine wp_icmp_ge 93 dX10_byHands_71 rfl (fun c71 => ?_) (fun c71 => ?_)
        · replace h := o_pos h c71
          refine wp_iconst (v := 0) dX10_byHands_93 (by decide) ?_
          refine wp_iadd dX10_byHands_94 ?_
          refine wp_istore_n (lv' := [(0, _), (1, _), (2, _), (3, _), (4, _)]) dX10_byHands_95 rfl rfl rfl rfl ?_
          refine wp_iinc (v := v4 + 1) (lv' := [(0, _), (1, _), (2, _), (3, _), (4, _)]) dX10_byHands_96 4 rfl rfl rfl rfl rfl ?_
          refine wp_goto 22 dX10_byHands_99 rfl ?_
          refine wp_pick [0, 1, 2, 3, 4] (lv' := [(0, _), (1, _), (2, _), (3, _), (4, _)]) rfl ?_
          exact ih v1 v2 (v3 + 0) (v4 + 1) I J r h K
        · replace h := o_neg h c71
          refine wp_aload_n dX10_byHands_74 0 rfl ?_
          refine wp_iload dX10_byHands_75 4 rfl ?_
          refine wp_iload_n dX10_byHands_77 2 rfl ?_
          refine wp_aload_n dX10_byHands_78 0 rfl ?_
          refine wp_getI (k := 55) dX10_byHands_79 flX10_121 rfl rfl rfl rfl ?_
          refine wp_isub dX10_byHands_82 ?_
          obtain ⟨r83, h83, h⟩ := o_bind h
          refine wp_callvI (k := 55) (ci := 10) (c_X10_wantsTo Γ ad v4 (v2 - (I 55 0)) I J r83 h83) dX10_byHands_83 mlX10_387 mwX10_wantsTo miX10_wantsTo rfl rfl rfl rfl (Nat.le_of_ble_eq_true rfl) rfl (by decide) (by decide) ?_
          refine wp_if_eq 93 dX10_byHands_86 rfl (fun c86 => ?_) (fun c86 => ?_)
          · replace h := o_pos h c86
            refine wp_iconst (v := 0) dX10_byHands_93 (by decide) ?_
            refine wp_iadd dX10_byHands_94 ?_
            refine wp_istore_n (lv' := [(0, _), (1, _), (2, _), (3, _), (4, _)]) dX10_byHands_95 rfl rfl rfl rfl ?_
            refine wp_iinc (v := v4 + 1) (lv' := [(0, _), (1, _), (2, _), (3, _), (4, _)]) dX10_byHands_96 4 rfl rfl rfl rfl rfl ?_
            refine wp_goto 22 dX10_byHands_99 rfl ?_
            refine wp_pick [0, 1, 2, 3, 4] (lv' := [(0, _), (1, _), (2, _), (3, _), (4, _)]) rfl ?_
            exact ih v1 v2 (v3 + 0) (v4 + 1) I J r h K
          · replace h := o_neg h c86
            refine wp_iconst (v := 1) dX10_byHands_89 (by decide) ?_
            refine wp_goto 94 dX10_byHands_90 rfl ?_
            refine wp_iadd dX10_byHands_94 ?_
            refine wp_istore_n (lv' := [(0, _), (1, _), (2, _), (3, _), (4, _)]) dX10_byHands_95 rfl rfl rfl rfl ?_
            refine wp_iinc (v := v4 + 1) (lv' := [(0, _), (1, _), (2, _), (3, _), (4, _)]) dX10_byHands_96 4 rfl rfl rfl rfl rfl ?_
            refine wp_goto 22 dX10_byHands_99 rfl ?_
            refine wp_pick [0, 1, 2, 3, 4] (lv' := [(0, _), (1, _), (2, _), (3, _), (4, _)]) rfl ?_
            exact ih v1 v2 (v3 + 1) (v4 + 1) I J r h K
      · replace h := o_neg h c35
        refine wp_iload dX10_byHands_38 4 rfl ?_
        refine wp_aload_n dX10_byHands_40 0 rfl ?_
        refine wp_getI (k := 55) dX10_byHands_41 flX10_124 rfl rfl rfl rfl ?_
        refine wp_icmp_ge 61 dX10_byHands_44 rfl (fun c44 => ?_) (fun c44 => ?_)
        · replace h := o_pos h c44
          refine wp_iconst (v := 0) dX10_byHands_61 (by decide) ?_
          refine wp_goto 94 dX10_byHands_62 rfl ?_
          refine wp_iadd dX10_byHands_94 ?_
          refine wp_istore_n (lv' := [(0, _), (1, _), (2, _), (3, _), (4, _)]) dX10_byHands_95 rfl rfl rfl rfl ?_
          refine wp_iinc (v := v4 + 1) (lv' := [(0, _), (1, _), (2, _), (3, _), (4, _)]) dX10_byHands_96 4 rfl rfl rfl rfl rfl ?_
          refine wp_goto 22 dX10_byHands_99 rfl ?_
          refine wp_pick [0, 1, 2, 3, 4] (lv' := [(0, _), (1, _), (2, _), (3, _), (4, _)]) rfl ?_
          exact ih v1 v2 (v3 + 0) (v4 + 1) I J r h K
        · replace h := o_neg h c44
          refine wp_aload_n dX10_byHands_47 0 rfl ?_
          refine wp_iload_n dX10_byHands_48 2 rfl ?_
          refine wp_iload dX10_byHands_49 4 rfl ?_
          obtain ⟨r51, h51, h⟩ := o_bind h
          refine wp_callvI (k := 55) (ci := 10) (c_X10_wantsTo Γ ad v2 v4 I J r51 h51) dX10_byHands_51 mlX10_387 mwX10_wantsTo miX10_wantsTo rfl rfl rfl rfl (Nat.le_of_ble_eq_true rfl) rfl (by decide) (by decide) ?_
          refine wp_if_eq 61 dX10_byHands_54 rfl (fun c54 => ?_) (fun c54 => ?_)
          · replace h := o_pos h c54
            refine wp_iconst (v := 0) dX10_byHands_61 (by decide) ?_
            refine wp_goto 94 dX10_byHands_62 rfl ?_
            refine wp_iadd dX10_byHands_94 ?_
            refine wp_istore_n (lv' := [(0, _), (1, _), (2, _), (3, _), (4, _)]) dX10_byHands_95 rfl rfl rfl rfl ?_
            refine wp_iinc (v := v4 + 1) (lv' := [(0, _), (1, _), (2, _), (3, _), (4, _)]) dX10_byHands_96 4 rfl rfl rfl rfl rfl ?_
            refine wp_goto 22 dX10_byHands_99 rfl ?_
            refine wp_pick [0, 1, 2, 3, 4] (lv' := [(0, _), (1, _), (2, _), (3, _), (4, _)]) rfl ?_
            exact ih v1 v2 (v3 + 0) (v4 + 1) I J r h K
          · replace h := o_neg h c54
            refine wp_iconst (v := 1) dX10_byHands_57 (by decide) ?_
            refine wp_goto 94 dX10_byHands_58 rfl ?_
            refine wp_iadd dX10_byHands_94 ?_
            refine wp_istore_n (lv' := [(0, _), (1, _), (2, _), (3, _), (4, _)]) dX10_byHands_95 rfl rfl rfl rfl ?_
            refine wp_iinc (v := v4 + 1) (lv' := [(0, _), (1, _), (2, _), (3, _), (4, _)]) dX10_byHands_96 4 rfl rfl rfl rfl rfl ?_
            refine wp_goto 22 dX10_byHands_99 rfl ?_
            refine wp_pick [0, 1, 2, 3, 4] (lv' := [(0, _), (1, _), (2, _), (3, _), (4, _)]) rfl ?_
            exact ih v1 v2 (v3 + 1) (v4 + 1) I J r h K
set_option maxRecDepth 100000 in
set_option maxHeartbeats 4000000 in
theorem w_X10_byHands_4 (Γ : GT) (ad : Nat → Nat) : ∀ (n : Nat) (v1 : Int32) (v2 : Int32) (I : IT) (J : JT) (r : Int32), f_X10_byHands_4 n v1 v2 I = some r → WP Γ mX10_byHands (0, 0) 4 [(0, .ref (ad 55)), (1, .int v1), (2, .int v2)] [] (DX ad) I J (QE (some (.int r)) (DX ad) I J) := by
  intro n
  induction n with
  | zero => intro v1 v2 I J r h; exact absurd h (by simp [f_X10_byHands_4])
  | succ n ih =>
    intro v1 v2 I J r h
    rw [f_X10_byHands_4] at h
    refine wp_iload_n dX10_byHands_4 2 rfl ?_
    refine wp_aload_n dX10_byHands_5 0 rfl ?_
    refine wp_getI (k := 55) dX10_byHands_6 flX10_121 rfl rfl rfl rfl ?_
    refine wp_aload_n dX10_byHands_9 0 rfl ?_
    refine wp_getI (k := 55) dX10_byHands_10 flX10_124 rfl rfl rfl rfl ?_
    refine wp_iadd dX10_byHands_13 ?_
    refine wp_icmp_ge 140 dX10_byHands_14 rfl (fun c14 => ?_) (fun c14 => ?_)
    · replace h := o_pos h c14
      refine wp_iload_n dX10_byHands_140 1 rfl ?_
      obtain rfl := Option.some.inj h
      exact wp_ireturn (ty := .int) dX10_byHands_141 rfl rfl ⟨rfl, rfl, rfl, rfl⟩
    · replace h := o_neg h c14
      refine wp_iconst (v := 0) dX10_byHands_17 (by decide) ?_
      refine wp_istore_n (lv' := [(0, _), (1, _), (2, _), (3, _)]) dX10_byHands_18 rfl rfl rfl rfl ?_
      refine wp_iconst (v := 0) dX10_byHands_19 (by decide) ?_
      refine wp_istore (lv' := [(0, _), (1, _), (2, _), (3, _), (4, _)]) dX10_byHands_20 rfl rfl rfl ?_
      refine wp_pick [0, 1, 2, 3, 4] (lv' := [(0, _), (1, _), (2, _), (3, _), (4, _)]) rfl ?_
      obtain ⟨r22, h22, h⟩ := o_bind h
      refine w_X10_byHands_22 Γ ad _ FU v1 v2 0 0 I J r22 h22 ?_
      refine wp_iload_n dX10_byHands_102 3 rfl ?_
      refine wp_aload_n dX10_byHands_103 0 rfl ?_
      refine wp_getR (k := 55) (a' := ad 60) dX10_byHands_104 flX10_22 rfl rfl rfl rfl rfl ?_
      refine wp_iload_n dX10_byHands_107 2 rfl ?_
      obtain ⟨g108, h⟩ := o_grd h
      refine wp_iald (k := 60) dX10_byHands_108 rfl rfl (inb_of g108) ?_
      refine wp_iadd dX10_byHands_109 ?_
      refine wp_iconst (v := 1) dX10_byHands_110 (by decide) ?_
      refine wp_isub dX10_byHands_111 ?_
      refine wp_aload_n dX10_byHands_112 0 rfl ?_
      refine wp_getR (k := 55) (a' := ad 60) dX10_byHands_113 flX10_22 rfl rfl rfl rfl rfl ?_
      refine wp_iload_n dX10_byHands_116 2 rfl ?_
      obtain ⟨g117, h⟩ := o_grd h
      refine wp_iald (k := 60) dX10_byHands_117 rfl rfl (inb_of g117) ?_
      obtain ⟨g118, h⟩ := o_grd h
      refine wp_idiv dX10_byHands_118 g118 ?_
      refine wp_istore (lv' := [(0, _), (1, _), (2, _), (3, _), (4, _)]) dX10_byHands_119 rfl rfl rfl ?_
      refine wp_iload dX10_byHands_121 4 rfl ?_
      refine wp_iload_n dX10_byHands_123 1 rfl ?_
      refine wp_icmp_le 132 dX10_byHands_124 rfl (fun c124 => ?_) (fun c124 => ?_)
      · replace h := o_pos h c124
        refine wp_iload_n dX10_byHands_132 1 rfl ?_
        refine wp_istore_n (lv' := [(0, _), (1, _), (2, _), (3, _), (4, _)]) dX10_byHands_133 rfl rfl rfl rfl ?_
        refine wp_iinc (v := v2 + 1) (lv' := [(0, _), (1, _), (2, _), (3, _), (4, _)]) dX10_byHands_134 2 rfl rfl rfl rfl rfl ?_
        refine wp_goto 4 dX10_byHands_137 rfl ?_
        refine wp_pick [0, 1, 2] (lv' := [(0, _), (1, _), (2, _)]) rfl ?_
        exact ih v1 (v2 + 1) I J r h
      · replace h := o_neg h c124
        refine wp_iload dX10_byHands_127 4 rfl ?_
        refine wp_goto 133 dX10_byHands_129 rfl ?_
        refine wp_istore_n (lv' := [(0, _), (1, _), (2, _), (3, _), (4, _)]) dX10_byHands_133 rfl rfl rfl rfl ?_
        refine wp_iinc (v := v2 + 1) (lv' := [(0, _), (1, _), (2, _), (3, _), (4, _)]) dX10_byHands_134 2 rfl rfl rfl rfl rfl ?_
        refine wp_goto 4 dX10_byHands_137 rfl ?_
        refine wp_pick [0, 1, 2] (lv' := [(0, _), (1, _), (2, _)]) rfl ?_
        exact ih (((r22 + (I 60 v2.toNatClampNeg)) - 1) / (I 60 v2.toNatClampNeg)) (v2 + 1) I J r h
set_option maxRecDepth 100000 in
set_option maxHeartbeats 4000000 in
theorem c_X10_byHands (Γ : GT) (ad : Nat → Nat) (I : IT) (J : JT) (r : Int32) (h : f_X10_byHands I = some r) : CALL Γ mX10_byHands (0, 0) [.ref (ad 55)] (DX ad) I J (QE (some (.int r)) (DX ad) I J) := by
  refine call_of' (by decide) (Nat.le_of_ble_eq_true rfl) (lv0 := [(0, .ref (ad 55))]) rfl ?_
  unfold f_X10_byHands at h
  refine wp_iconst (v := 0) dX10_byHands_0 (by decide) ?_
  refine wp_istore_n (lv' := [(0, _), (1, _)]) dX10_byHands_1 rfl rfl rfl rfl ?_
  refine wp_iconst (v := 0) dX10_byHands_2 (by decide) ?_
  refine wp_istore_n (lv' := [(0, _), (1, _), (2, _)]) dX10_byHands_3 rfl rfl rfl rfl ?_
  refine wp_pick [0, 1, 2] (lv' := [(0, _), (1, _), (2, _)]) rfl ?_
  exact w_X10_byHands_4 Γ ad FU 0 0 I J r h
def f_X10_meetings (a1 : Int32) (I : IT) : Option (Int32 × IT) :=
  if a1 = 0 then
    (f_X10_byHands I).bind fun r5 =>
    some (r5, I)
  else
    if a1 = (1 : Int32) then
      (f_X10_byOrder I).bind fun r17 =>
      some (r17.1, r17.2)
    else
      some ((-1000002), I)
set_option maxRecDepth 100000 in
set_option maxHeartbeats 4000000 in
theorem c_X10_meetings (Γ : GT) (ad : Nat → Nat) (a1 : Int32) (I : IT) (J : JT) (r : Int32 × IT) (h : f_X10_meetings a1 I = some r) : CALL Γ mX10_meetings (0, 0) [.ref (ad 55), .int a1] (DX ad) I J (QE (some (.int r.1)) (DX ad) r.2 J) := by
  refine call_of' (by decide) (Nat.le_of_ble_eq_true rfl) (lv0 := [(0, .ref (ad 55)), (1, .int a1)]) rfl ?_
  unfold f_X10_meetings at h
  refine wp_iload_n dX10_meetings_0 1 rfl ?_
  refine wp_if_ne 11 dX10_meetings_1 rfl (fun c1 => ?_) (fun c1 => ?_)
  · replace h := o_neg h c1
    refine wp_iload_n dX10_meetings_11 1 rfl ?_
    refine wp_iconst (v := 1) dX10_meetings_12 (by decide) ?_
    refine wp_icmp_ne 23 dX10_meetings_13 rfl (fun c13 => ?_) (fun c13 => ?_)
    · replace h := o_neg h c13
      refine wp_ldc (v := (-1000002)) dX10_meetings_23 kcX10_143 ?_
      obtain rfl := Option.some.inj h
      exact wp_ireturn (ty := .int) dX10_meetings_25 rfl rfl ⟨rfl, rfl, rfl, rfl⟩
    · replace h := o_pos h c13
      refine wp_aload_n dX10_meetings_16 0 rfl ?_
      obtain ⟨r17, h17, h⟩ := o_bind h
      refine wp_callvI (k := 55) (ci := 10) (c_X10_byOrder Γ ad I J r17 h17) dX10_meetings_17 mlX10_393 mwX10_byOrder miX10_byOrder rfl rfl rfl rfl (Nat.le_of_ble_eq_true rfl) rfl (by decide) (by decide) ?_
      refine wp_goto 25 dX10_meetings_20 rfl ?_
      obtain rfl := Option.some.inj h
      exact wp_ireturn (ty := .int) dX10_meetings_25 rfl rfl ⟨rfl, rfl, rfl, rfl⟩
  · replace h := o_pos h c1
    refine wp_aload_n dX10_meetings_4 0 rfl ?_
    obtain ⟨r5, h5, h⟩ := o_bind h
    refine wp_callvI (k := 55) (ci := 10) (c_X10_byHands Γ ad I J r5 h5) dX10_meetings_5 mlX10_390 mwX10_byHands miX10_byHands rfl rfl rfl rfl (Nat.le_of_ble_eq_true rfl) rfl (by decide) (by decide) ?_
    refine wp_goto 25 dX10_meetings_8 rfl ?_
    obtain rfl := Option.some.inj h
    exact wp_ireturn (ty := .int) dX10_meetings_25 rfl rfl ⟨rfl, rfl, rfl, rfl⟩
def f_X10_write (a1 : Int32) (a2 : Int32) (a3 : Int32) (a4 : Int32) (I : IT) : Option (Int32 × IT) :=
  (f_X10_isAbout a2 a3 I).bind fun r3 =>
  if r3 = 0 then
    some ((-1000001), I)
  else
    (f_X10_in a1.toInt64 0 9999).bind fun r19 =>
    if r19 = 0 then
      some ((-1000002), I)
    else
      (f_X10_in a4.toInt64 1 999).bind fun r32 =>
      if r32 = 0 then
        some ((-1000002), I)
      else
        if (I 55 47) = (30 : Int32) then
          some ((-1000004), I)
        else
          if inbB (I 55 47) 30 = true then
            if inbB ((upI I 82 ((I 55 47).toNatClampNeg) a1) 55 47) 30 = true then
              if inbB ((upI (upI I 82 ((I 55 47).toNatClampNeg) a1) 83 (((upI I 82 ((I 55 47).toNatClampNeg) a1) 55 47).toNatClampNeg) a2) 55 47) 30 = true then
                (some (upI (upI (upI I 82 ((I 55 47).toNatClampNeg) a1) 83 (((upI I 82 ((I 55 47).toNatClampNeg) a1) 55 47).toNatClampNeg) a2) 84 (((upI (upI I 82 ((I 55 47).toNatClampNeg) a1) 83 (((upI I 82 ((I 55 47).toNatClampNeg) a1) 55 47).toNatClampNeg) a2) 55 47).toNatClampNeg) a3)).bind fun i82 =>
                if inbB (i82 55 47) 30 = true then
                  some ((upI (upI i82 85 ((i82 55 47).toNatClampNeg) a4) 55 47 (((upI i82 85 ((i82 55 47).toNatClampNeg) a4) 55 47) + 1)) 55 47, upI (upI i82 85 ((i82 55 47).toNatClampNeg) a4) 55 47 (((upI i82 85 ((i82 55 47).toNatClampNeg) a4) 55 47) + 1))
                else none
              else none
            else none
          else none
set_option maxRecDepth 100000 in
set_option maxHeartbeats 4000000 in
theorem c_X10_write (Γ : GT) (ad : Nat → Nat) (a1 : Int32) (a2 : Int32) (a3 : Int32) (a4 : Int32) (I : IT) (J : JT) (r : Int32 × IT) (h : f_X10_write a1 a2 a3 a4 I = some r) : CALL Γ mX10_write (0, 0) [.ref (ad 55), .int a1, .int a2, .int a3, .int a4] (DX ad) I J (QE (some (.int r.1)) (DX ad) r.2 J) := by
  refine call_of' (by decide) (Nat.le_of_ble_eq_true rfl) (lv0 := [(0, .ref (ad 55)), (1, .int a1), (2, .int a2), (3, .int a3), (4, .int a4)]) rfl ?_
  unfold f_X10_write at h
  refine wp_aload_n dX10_write_0 0 rfl ?_
  refine wp_iload_n dX10_write_1 2 rfl ?_
  refine wp_iload_n dX10_write_2 3 rfl ?_
  obtain ⟨r3, h3, h⟩ := o_bind h
  refine wp_callvI (k := 55) (ci := 10) (c_X10_isAbout Γ ad a2 a3 I J r3 h3) dX10_write_3 mlX10_274 mwX10_isAbout miX10_isAbout rfl rfl rfl rfl (Nat.le_of_ble_eq_true rfl) rfl (by decide) (by decide) ?_
  refine wp_if_ne 13 dX10_write_6 rfl (fun c6 => ?_) (fun c6 => ?_)
  · replace h := o_neg h c6
    refine wp_iload_n dX10_write_13 1 rfl ?_
    refine wp_i2l dX10_write_14 ?_
    refine wp_lconst (v := 0) dX10_write_15 (by decide) ?_
    refine wp_ldc2 (v := 9999) dX10_write_16 klX10_379 ?_
    obtain ⟨r19, h19, h⟩ := o_bind h
    refine wp_callsI (c_X10_in Γ ad a1.toInt64 0 9999 I J r19 h19) dX10_write_19 mlX10_134 mwX10_in miX10_in rfl (Nat.le_of_ble_eq_true rfl) rfl (by decide) (by decide) ?_
    refine wp_if_eq 38 dX10_write_22 rfl (fun c22 => ?_) (fun c22 => ?_)
    · replace h := o_pos h c22
      refine wp_ldc (v := (-1000002)) dX10_write_38 kcX10_143 ?_
      obtain rfl := Option.some.inj h
      exact wp_ireturn (ty := .int) dX10_write_40 rfl rfl ⟨rfl, rfl, rfl, rfl⟩
    · replace h := o_neg h c22
      refine wp_iload dX10_write_25 4 rfl ?_
      refine wp_i2l dX10_write_27 ?_
      refine wp_lconst (v := 1) dX10_write_28 (by decide) ?_
      refine wp_ldc2 (v := 999) dX10_write_29 klX10_285 ?_
      obtain ⟨r32, h32, h⟩ := o_bind h
      refine wp_callsI (c_X10_in Γ ad a4.toInt64 1 999 I J r32 h32) dX10_write_32 mlX10_134 mwX10_in miX10_in rfl (Nat.le_of_ble_eq_true rfl) rfl (by decide) (by decide) ?_
      refine wp_if_ne 41 dX10_write_35 rfl (fun c35 => ?_) (fun c35 => ?_)
      · replace h := o_neg h c35
        refine wp_aload_n dX10_write_41 0 rfl ?_
        refine wp_getI (k := 55) dX10_write_42 flX10_252 rfl rfl rfl rfl ?_
        refine wp_bipush (v := 30) dX10_write_45 (by decide) ?_
        refine wp_icmp_ne 53 dX10_write_47 rfl (fun c47 => ?_) (fun c47 => ?_)
        · replace h := o_neg h c47
          refine wp_aload_n dX10_write_53 0 rfl ?_
          refine wp_getR (k := 55) (a' := ad 82) dX10_write_54 flX10_100 rfl rfl rfl rfl rfl ?_
          refine wp_aload_n dX10_write_57 0 rfl ?_
          refine wp_getI (k := 55) dX10_write_58 flX10_252 rfl rfl rfl rfl ?_
          refine wp_iload_n dX10_write_61 1 rfl ?_
          obtain ⟨g62, h⟩ := o_grd h
          refine wp_iast (k := 82) dX10_write_62 rfl rfl (inb_of g62) ?_
          refine wp_aload_n dX10_write_63 0 rfl ?_
          refine wp_getR (k := 55) (a' := ad 83) dX10_write_64 flX10_103 rfl rfl rfl rfl rfl ?_
          refine wp_aload_n dX10_write_67 0 rfl ?_
          refine wp_getI (k := 55) dX10_write_68 flX10_252 rfl rfl rfl rfl ?_
          refine wp_iload_n dX10_write_71 2 rfl ?_
          obtain ⟨g72, h⟩ := o_grd h
          refine wp_iast (k := 83) dX10_write_72 rfl rfl (inb_of g72) ?_
          refine wp_aload_n dX10_write_73 0 rfl ?_
          refine wp_getR (k := 55) (a' := ad 84) dX10_write_74 flX10_106 rfl rfl rfl rfl rfl ?_
          refine wp_aload_n dX10_write_77 0 rfl ?_
          refine wp_getI (k := 55) dX10_write_78 flX10_252 rfl rfl rfl rfl ?_
          refine wp_iload_n dX10_write_81 3 rfl ?_
          obtain ⟨g82, h⟩ := o_grd h
          obtain ⟨i82, e82, h⟩ := o_bind h
          refine wp_iast (k := 84) dX10_write_82 rfl rfl (inb_of g82) ?_
          refine wp_stI (Option.some.inj e82) ?_
          refine wp_aload_n dX10_write_83 0 rfl ?_
          refine wp_getR (k := 55) (a' := ad 85) dX10_write_84 flX10_109 rfl rfl rfl rfl rfl ?_
          refine wp_aload_n dX10_write_87 0 rfl ?_
          refine wp_getI (k := 55) dX10_write_88 flX10_252 rfl rfl rfl rfl ?_
          refine wp_iload dX10_write_91 4 rfl ?_
          obtain ⟨g93, h⟩ := o_grd h
          refine wp_iast (k := 85) dX10_write_93 rfl rfl (inb_of g93) ?_
          refine wp_aload_n dX10_write_94 0 rfl ?_
          refine wp_dup dX10_write_95 rfl ?_
          refine wp_getI (k := 55) dX10_write_96 flX10_252 rfl rfl rfl rfl ?_
          refine wp_iconst (v := 1) dX10_write_99 (by decide) ?_
          refine wp_iadd dX10_write_100 ?_
          refine wp_putI (k := 55) dX10_write_101 flX10_252 rfl rfl rfl rfl rfl rfl rfl rfl ?_
          refine wp_aload_n dX10_write_104 0 rfl ?_
          refine wp_getI (k := 55) dX10_write_105 flX10_252 rfl rfl rfl rfl ?_
          obtain rfl := Option.some.inj h
          exact wp_ireturn (ty := .int) dX10_write_108 rfl rfl ⟨rfl, rfl, rfl, rfl⟩
        · replace h := o_pos h c47
          refine wp_ldc (v := (-1000004)) dX10_write_50 kcX10_147 ?_
          obtain rfl := Option.some.inj h
          exact wp_ireturn (ty := .int) dX10_write_52 rfl rfl ⟨rfl, rfl, rfl, rfl⟩
      · replace h := o_pos h c35
        refine wp_ldc (v := (-1000002)) dX10_write_38 kcX10_143 ?_
        obtain rfl := Option.some.inj h
        exact wp_ireturn (ty := .int) dX10_write_40 rfl rfl ⟨rfl, rfl, rfl, rfl⟩
  · replace h := o_pos h c6
    refine wp_ldcw (v := (-1000001)) dX10_write_9 kcX10_264 ?_
    obtain rfl := Option.some.inj h
    exact wp_ireturn (ty := .int) dX10_write_12 rfl rfl ⟨rfl, rfl, rfl, rfl⟩
def f_X10_tear (I : IT) : Option (Int32 × IT) :=
  some (I 55 47, upI I 55 47 0)
set_option maxRecDepth 100000 in
set_option maxHeartbeats 4000000 in
theorem c_X10_tear (Γ : GT) (ad : Nat → Nat) (I : IT) (J : JT) (r : Int32 × IT) (h : f_X10_tear I = some r) : CALL Γ mX10_tear (0, 0) [.ref (ad 55)] (DX ad) I J (QE (some (.int r.1)) (DX ad) r.2 J) := by
  refine call_of' (by decide) (Nat.le_of_ble_eq_true rfl) (lv0 := [(0, .ref (ad 55))]) rfl ?_
  unfold f_X10_tear at h
  refine wp_aload_n dX10_tear_0 0 rfl ?_
  refine wp_getI (k := 55) dX10_tear_1 flX10_252 rfl rfl rfl rfl ?_
  refine wp_istore_n (lv' := [(0, _), (1, _)]) dX10_tear_4 rfl rfl rfl rfl ?_
  refine wp_aload_n dX10_tear_5 0 rfl ?_
  refine wp_iconst (v := 0) dX10_tear_6 (by decide) ?_
  refine wp_putI (k := 55) dX10_tear_7 flX10_252 rfl rfl rfl rfl rfl rfl rfl rfl ?_
  refine wp_iload_n dX10_tear_10 1 rfl ?_
  obtain rfl := Option.some.inj h
  exact wp_ireturn (ty := .int) dX10_tear_11 rfl rfl ⟨rfl, rfl, rfl, rfl⟩
