/-! lifted: X10_isRight X10_judge X10_seed X10_keep -/
def f_X10_isRight_40 : Nat → Int32 → Int32 → Int32 → Int32 → Int32 → IT → Option (Int32)
  | 0, _, _, _, _, _, _ => none
  | n + 1, v1, v2, v3, v4, v5, I =>
    if v1 ≤ v5 then
      if v3 = 0 then
        some 0
      else
        (f_X10_sortOf v2 I).bind fun r165 =>
        if r165 = 0 then
          some 1
        else
          if inbB v1 30 = true then
            if inbB (v2 - (I 55 0)) 6 = true then
              if ((I 57 (v2 - (I 55 0)).toNatClampNeg) - v4) < (I 85 v1.toNatClampNeg) then
                some 0
              else
                some 1
            else none
          else none
    else
      if inbB v5 30 = true then
        if (I 83 v5.toNatClampNeg) = v2 then
          if inbB v1 30 = true then
            if inbB v5 30 = true then
              if ((I 82 v5.toNatClampNeg) + (I 55 8)) ≤ (I 82 v1.toNatClampNeg) then
                if v3 = 0 then
                  if (0 : Int32) = 0 then
                    f_X10_isRight_40 n v1 v2 0 (v4 + 0) (v5 + 1) I
                  else
                    if inbB v5 30 = true then
                      if inbB v1 30 = true then
                        if (I 84 v5.toNatClampNeg) = (I 84 v1.toNatClampNeg) then
                          f_X10_isRight_40 n v1 v2 0 (v4 + 0) (v5 + 1) I
                        else
                          if inbB v5 30 = true then
                            f_X10_isRight_40 n v1 v2 0 (v4 + (I 85 v5.toNatClampNeg)) (v5 + 1) I
                          else none
                      else none
                    else none
                else
                  if (0 : Int32) = 0 then
                    if (0 : Int32) = 0 then
                      f_X10_isRight_40 n v1 v2 1 (v4 + 0) (v5 + 1) I
                    else
                      if inbB v5 30 = true then
                        if inbB v1 30 = true then
                          if (I 84 v5.toNatClampNeg) = (I 84 v1.toNatClampNeg) then
                            f_X10_isRight_40 n v1 v2 1 (v4 + 0) (v5 + 1) I
                          else
                            if inbB v5 30 = true then
                              f_X10_isRight_40 n v1 v2 1 (v4 + (I 85 v5.toNatClampNeg)) (v5 + 1) I
                            else none
                        else none
                      else none
                  else
                    if inbB v5 30 = true then
                      if inbB v1 30 = true then
                        if (I 84 v5.toNatClampNeg) = (I 84 v1.toNatClampNeg) then
                          if (0 : Int32) = 0 then
                            f_X10_isRight_40 n v1 v2 0 (v4 + 0) (v5 + 1) I
                          else
                            if inbB v5 30 = true then
                              if inbB v1 30 = true then
                                if (I 84 v5.toNatClampNeg) = (I 84 v1.toNatClampNeg) then
                                  f_X10_isRight_40 n v1 v2 0 (v4 + 0) (v5 + 1) I
                                else
                                  if inbB v5 30 = true then
                                    f_X10_isRight_40 n v1 v2 0 (v4 + (I 85 v5.toNatClampNeg)) (v5 + 1) I
                                  else none
                              else none
                            else none
                        else
                          if (0 : Int32) = 0 then
                            f_X10_isRight_40 n v1 v2 1 (v4 + 0) (v5 + 1) I
                          else
                            if inbB v5 30 = true then
                              if inbB v1 30 = true then
                                if (I 84 v5.toNatClampNeg) = (I 84 v1.toNatClampNeg) then
                                  f_X10_isRight_40 n v1 v2 1 (v4 + 0) (v5 + 1) I
                                else
                                  if inbB v5 30 = true then
                                    f_X10_isRight_40 n v1 v2 1 (v4 + (I 85 v5.toNatClampNeg)) (v5 + 1) I
                                  else none
                              else none
                            else none
                      else none
                    else none
              else
                if v3 = 0 then
                  if (1 : Int32) = 0 then
                    f_X10_isRight_40 n v1 v2 0 (v4 + 0) (v5 + 1) I
                  else
                    if inbB v5 30 = true then
                      if inbB v1 30 = true then
                        if (I 84 v5.toNatClampNeg) = (I 84 v1.toNatClampNeg) then
                          f_X10_isRight_40 n v1 v2 0 (v4 + 0) (v5 + 1) I
                        else
                          if inbB v5 30 = true then
                            f_X10_isRight_40 n v1 v2 0 (v4 + (I 85 v5.toNatClampNeg)) (v5 + 1) I
                          else none
                      else none
                    else none
                else
                  if (1 : Int32) = 0 then
                    if (1 : Int32) = 0 then
                      f_X10_isRight_40 n v1 v2 1 (v4 + 0) (v5 + 1) I
                    else
                      if inbB v5 30 = true then
                        if inbB v1 30 = true then
                          if (I 84 v5.toNatClampNeg) = (I 84 v1.toNatClampNeg) then
                            f_X10_isRight_40 n v1 v2 1 (v4 + 0) (v5 + 1) I
                          else
                            if inbB v5 30 = true then
                              f_X10_isRight_40 n v1 v2 1 (v4 + (I 85 v5.toNatClampNeg)) (v5 + 1) I
                            else none
                        else none
                      else none
                  else
                    if inbB v5 30 = true then
                      if inbB v1 30 = true then
                        if (I 84 v5.toNatClampNeg) = (I 84 v1.toNatClampNeg) then
                          if (1 : Int32) = 0 then
                            f_X10_isRight_40 n v1 v2 0 (v4 + 0) (v5 + 1) I
                          else
                            if inbB v5 30 = true then
                              if inbB v1 30 = true then
                                if (I 84 v5.toNatClampNeg) = (I 84 v1.toNatClampNeg) then
                                  f_X10_isRight_40 n v1 v2 0 (v4 + 0) (v5 + 1) I
                                else
                                  if inbB v5 30 = true then
                                    f_X10_isRight_40 n v1 v2 0 (v4 + (I 85 v5.toNatClampNeg)) (v5 + 1) I
                                  else none
                              else none
                            else none
                        else
                          if (1 : Int32) = 0 then
                            f_X10_isRight_40 n v1 v2 1 (v4 + 0) (v5 + 1) I
                          else
                            if inbB v5 30 = true then
                              if inbB v1 30 = true then
                                if (I 84 v5.toNatClampNeg) = (I 84 v1.toNatClampNeg) then
                                  f_X10_isRight_40 n v1 v2 1 (v4 + 0) (v5 + 1) I
                                else
                                  if inbB v5 30 = true then
                                    f_X10_isRight_40 n v1 v2 1 (v4 + (I 85 v5.toNatClampNeg)) (v5 + 1) I
                                  else none
                              else none
                            else none
                      else none
                    else none
            else none
          else none
        else
          if v3 = 0 then
            if (0 : Int32) = 0 then
              f_X10_isRight_40 n v1 v2 0 (v4 + 0) (v5 + 1) I
            else
              if inbB v5 30 = true then
                if inbB v1 30 = true then
                  if (I 84 v5.toNatClampNeg) = (I 84 v1.toNatClampNeg) then
                    f_X10_isRight_40 n v1 v2 0 (v4 + 0) (v5 + 1) I
                  else
                    if inbB v5 30 = true then
                      f_X10_isRight_40 n v1 v2 0 (v4 + (I 85 v5.toNatClampNeg)) (v5 + 1) I
                    else none
                else none
              else none
          else
            if (0 : Int32) = 0 then
              if (0 : Int32) = 0 then
                f_X10_isRight_40 n v1 v2 1 (v4 + 0) (v5 + 1) I
              else
                if inbB v5 30 = true then
                  if inbB v1 30 = true then
                    if (I 84 v5.toNatClampNeg) = (I 84 v1.toNatClampNeg) then
                      f_X10_isRight_40 n v1 v2 1 (v4 + 0) (v5 + 1) I
                    else
                      if inbB v5 30 = true then
                        f_X10_isRight_40 n v1 v2 1 (v4 + (I 85 v5.toNatClampNeg)) (v5 + 1) I
                      else none
                  else none
                else none
            else
              if inbB v5 30 = true then
                if inbB v1 30 = true then
                  if (I 84 v5.toNatClampNeg) = (I 84 v1.toNatClampNeg) then
                    if (0 : Int32) = 0 then
                      f_X10_isRight_40 n v1 v2 0 (v4 + 0) (v5 + 1) I
                    else
                      if inbB v5 30 = true then
                        if inbB v1 30 = true then
                          if (I 84 v5.toNatClampNeg) = (I 84 v1.toNatClampNeg) then
                            f_X10_isRight_40 n v1 v2 0 (v4 + 0) (v5 + 1) I
                          else
                            if inbB v5 30 = true then
                              f_X10_isRight_40 n v1 v2 0 (v4 + (I 85 v5.toNatClampNeg)) (v5 + 1) I
                            else none
                        else none
                      else none
                  else
                    if (0 : Int32) = 0 then
                      f_X10_isRight_40 n v1 v2 1 (v4 + 0) (v5 + 1) I
                    else
                      if inbB v5 30 = true then
                        if inbB v1 30 = true then
                          if (I 84 v5.toNatClampNeg) = (I 84 v1.toNatClampNeg) then
                            f_X10_isRight_40 n v1 v2 1 (v4 + 0) (v5 + 1) I
                          else
                            if inbB v5 30 = true then
                              f_X10_isRight_40 n v1 v2 1 (v4 + (I 85 v5.toNatClampNeg)) (v5 + 1) I
                            else none
                        else none
                      else none
                else none
              else none
      else none
def f_X10_isRight (a1 : Int32) (I : IT) : Option (Int32) :=
  if inbB a1 30 = true then
    if a1 = 0 then
      f_X10_isRight_40 FU a1 (I 83 a1.toNatClampNeg) 1 0 0 I
    else
      if inbB a1 30 = true then
        if inbB (a1 - 1) 30 = true then
          if (I 82 a1.toNatClampNeg) < (I 82 (a1 - 1).toNatClampNeg) then
            f_X10_isRight_40 FU a1 (I 83 a1.toNatClampNeg) 0 0 0 I
          else
            f_X10_isRight_40 FU a1 (I 83 a1.toNatClampNeg) 1 0 0 I
        else none
      else none
  else none
set_option maxRecDepth 100000 in
set_option maxHeartbeats 4000000 in
theorem w_X10_isRight_40 (Γ : GT) (ad : Nat → Nat) : ∀ (n : Nat) (v1 : Int32) (v2 : Int32) (v3 : Int32) (v4 : Int32) (v5 : Int32) (I : IT) (J : JT) (r : Int32), f_X10_isRight_40 n v1 v2 v3 v4 v5 I = some r → WP Γ mX10_isRight (0, 0) 40 [(0, .ref (ad 55)), (1, .int v1), (2, .int v2), (3, .int v3), (4, .int v4), (5, .int v5)] [] (DX ad) I J (QE (some (.int r)) (DX ad) I J) := by
  intro n
  induction n with
  | zero => intro v1 v2 v3 v4 v5 I J r h; exact absurd h (by simp [f_X10_isRight_40])
  | succ n ih =>
    intro v1 v2 v3 v4 v5 I J r h
    rw [f_X10_isRight_40] at h
    refine wp_iload dX10_isRight_40 5 rfl ?_
    refine wp_iload_n dX10_isRight_42 1 rfl ?_
    refine wp_icmp_ge 159 dX10_isRight_43 rfl (fun c43 => ?_) (fun c43 => ?_)
    · replace h := o_pos h c43
      refine wp_iload_n dX10_isRight_159 3 rfl ?_
      refine wp_if_eq 198 dX10_isRight_160 rfl (fun c160 => ?_) (fun c160 => ?_)
      · replace h := o_pos h c160
        refine wp_iconst (v := 0) dX10_isRight_198 (by decide) ?_
        obtain rfl := Option.some.inj h
        exact wp_ireturn (ty := .boolean) dX10_isRight_199 rfl rfl ⟨rfl, rfl, rfl, rfl⟩
      · replace h := o_neg h c160
        refine wp_aload_n dX10_isRight_163 0 rfl ?_
        refine wp_iload_n dX10_isRight_164 2 rfl ?_
        obtain ⟨r165, h165, h⟩ := o_bind h
        refine wp_callvI (k := 55) (ci := 10) (c_X10_sortOf Γ ad v2 I J r165 h165) dX10_isRight_165 mlX10_245 mwX10_sortOf miX10_sortOf rfl rfl rfl rfl (Nat.le_of_ble_eq_true rfl) rfl (by decide) (by decide) ?_
        refine wp_if_eq 194 dX10_isRight_168 rfl (fun c168 => ?_) (fun c168 => ?_)
        · replace h := o_pos h c168
          refine wp_iconst (v := 1) dX10_isRight_194 (by decide) ?_
          refine wp_goto 199 dX10_isRight_195 rfl ?_
          obtain rfl := Option.some.inj h
          exact wp_ireturn (ty := .boolean) dX10_isRight_199 rfl rfl ⟨rfl, rfl, rfl, rfl⟩
        · replace h := o_neg h c168
          refine wp_aload_n dX10_isRight_171 0 rfl ?_
          refine wp_getR (k := 55) (a' := ad 85) dX10_isRight_172 flX10_109 rfl rfl rfl rfl rfl ?_
          refine wp_iload_n dX10_isRight_175 1 rfl ?_
          obtain ⟨g176, h⟩ := o_grd h
          refine wp_iald (k := 85) dX10_isRight_176 rfl rfl (inb_of g176) ?_
          refine wp_aload_n dX10_isRight_177 0 rfl ?_
          refine wp_getR (k := 55) (a' := ad 57) dX10_isRight_178 flX10_13 rfl rfl rfl rfl rfl ?_
          refine wp_iload_n dX10_isRight_181 2 rfl ?_
          refine wp_aload_n dX10_isRight_182 0 rfl ?_
          refine wp_getI (k := 55) dX10_isRight_183 flX10_121 rfl rfl rfl rfl ?_
          refine wp_isub dX10_isRight_186 ?_
          obtain ⟨g187, h⟩ := o_grd h
          refine wp_iald (k := 57) dX10_isRight_187 rfl rfl (inb_of g187) ?_
          refine wp_iload dX10_isRight_188 4 rfl ?_
          refine wp_isub dX10_isRight_190 ?_
          refine wp_icmp_gt 198 dX10_isRight_191 rfl (fun c191 => ?_) (fun c191 => ?_)
          · replace h := o_pos h c191
            refine wp_iconst (v := 0) dX10_isRight_198 (by decide) ?_
            obtain rfl := Option.some.inj h
            exact wp_ireturn (ty := .boolean) dX10_isRight_199 rfl rfl ⟨rfl, rfl, rfl, rfl⟩
          · replace h := o_neg h c191
            refine wp_iconst (v := 1) dX10_isRight_194 (by decide) ?_
            refine wp_goto 199 dX10_isRight_195 rfl ?_
            obtain rfl := Option.some.inj h
            exact wp_ireturn (ty := .boolean) dX10_isRight_199 rfl rfl ⟨rfl, rfl, rfl, rfl⟩
    · replace h := o_neg h c43
      refine wp_aload_n dX10_isRight_46 0 rfl ?_
      refine wp_getR (k := 55) (a' := ad 83) dX10_isRight_47 flX10_103 rfl rfl rfl rfl rfl ?_
      refine wp_iload dX10_isRight_50 5 rfl ?_
      obtain ⟨g52, h⟩ := o_grd h
      refine wp_iald (k := 83) dX10_isRight_52 rfl rfl (inb_of g52) ?_
      refine wp_iload_n dX10_isRight_53 2 rfl ?_
      refine wp_icmp_ne 82 dX10_isRight_54 rfl (fun c54 => ?_) (fun c54 => ?_)
      · replace h := o_neg h c54
        refine wp_iconst (v := 0) dX10_isRight_82 (by decide) ?_
        refine wp_istore (lv' := [(0, _), (1, _), (2, _), (3, _), (4, _), (5, _), (6, _)]) dX10_isRight_83 rfl rfl rfl ?_
        refine wp_iload_n dX10_isRight_85 3 rfl ?_
        refine wp_if_eq 114 dX10_isRight_86 rfl (fun c86 => ?_) (fun c86 => ?_)
        · replace h := o_pos h c86
          refine wp_iconst (v := 0) dX10_isRight_114 (by decide) ?_
          refine wp_istore_n (lv' := [(0, _), (1, _), (2, _), (3, _), (4, _), (5, _), (6, _)]) dX10_isRight_115 rfl rfl rfl rfl ?_
          refine wp_iload dX10_isRight_116 4 rfl ?_
          refine wp_iload dX10_isRight_118 6 rfl ?_
          refine wp_if_eq 149 dX10_isRight_120 rfl (fun c120 => ?_) (fun c120 => ?_)
          · replace h := o_pos h c120
            refine wp_iconst (v := 0) dX10_isRight_149 (by decide) ?_
            refine wp_iadd dX10_isRight_150 ?_
            refine wp_istore (lv' := [(0, _), (1, _), (2, _), (3, _), (4, _), (5, _), (6, _)]) dX10_isRight_151 rfl rfl rfl ?_
            refine wp_iinc (v := v5 + 1) (lv' := [(0, _), (1, _), (2, _), (3, _), (4, _), (5, _), (6, _)]) dX10_isRight_153 5 rfl rfl rfl rfl rfl ?_
            refine wp_goto 40 dX10_isRight_156 rfl ?_
            refine wp_pick [0, 1, 2, 3, 4, 5] (lv' := [(0, _), (1, _), (2, _), (3, _), (4, _), (5, _)]) rfl ?_
            exact ih v1 v2 0 (v4 + 0) (v5 + 1) I J r h
          · replace h := o_neg h c120
            refine wp_aload_n dX10_isRight_123 0 rfl ?_
            refine wp_getR (k := 55) (a' := ad 84) dX10_isRight_124 flX10_106 rfl rfl rfl rfl rfl ?_
            refine wp_iload dX10_isRight_127 5 rfl ?_
            obtain ⟨g129, h⟩ := o_grd h
            refine wp_iald (k := 84) dX10_isRight_129 rfl rfl (inb_of g129) ?_
            refine wp_aload_n dX10_isRight_130 0 rfl ?_
            refine wp_getR (k := 55) (a' := ad 84) dX10_isRight_131 flX10_106 rfl rfl rfl rfl rfl ?_
            refine wp_iload_n dX10_isRight_134 1 rfl ?_
            obtain ⟨g135, h⟩ := o_grd h
            refine wp_iald (k := 84) dX10_isRight_135 rfl rfl (inb_of g135) ?_
            refine wp_icmp_eq 149 dX10_isRight_136 rfl (fun c136 => ?_) (fun c136 => ?_)
            · replace h := o_pos h c136
              refine wp_iconst (v := 0) dX10_isRight_149 (by decide) ?_
              refine wp_iadd dX10_isRight_150 ?_
              refine wp_istore (lv' := [(0, _), (1, _), (2, _), (3, _), (4, _), (5, _), (6, _)]) dX10_isRight_151 rfl rfl rfl ?_
              refine wp_iinc (v := v5 + 1) (lv' := [(0, _), (1, _), (2, _), (3, _), (4, _), (5, _), (6, _)]) dX10_isRight_153 5 rfl rfl rfl rfl rfl ?_
              refine wp_goto 40 dX10_isRight_156 rfl ?_
              refine wp_pick [0, 1, 2, 3, 4, 5] (lv' := [(0, _), (1, _), (2, _), (3, _), (4, _), (5, _)]) rfl ?_
              exact ih v1 v2 0 (v4 + 0) (v5 + 1) I J r h
            · replace h := o_neg h c136
              refine wp_aload_n dX10_isRight_139 0 rfl ?_
              refine wp_getR (k := 55) (a' := ad 85) dX10_isRight_140 flX10_109 rfl rfl rfl rfl rfl ?_
              refine wp_iload dX10_isRight_143 5 rfl ?_
              obtain ⟨g145, h⟩ := o_grd h
              refine wp_iald (k := 85) dX10_isRight_145 rfl rfl (inb_of g145) ?_
              refine wp_goto 150 dX10_isRight_146 rfl ?_
              refine wp_iadd dX10_isRight_150 ?_
              refine wp_istore (lv' := [(0, _), (1, _), (2, _), (3, _), (4, _), (5, _), (6, _)]) dX10_isRight_151 rfl rfl rfl ?_
              refine wp_iinc (v := v5 + 1) (lv' := [(0, _), (1, _), (2, _), (3, _), (4, _), (5, _), (6, _)]) dX10_isRight_153 5 rfl rfl rfl rfl rfl ?_
              refine wp_goto 40 dX10_isRight_156 rfl ?_
              refine wp_pick [0, 1, 2, 3, 4, 5] (lv' := [(0, _), (1, _), (2, _), (3, _), (4, _), (5, _)]) rfl ?_
              exact ih v1 v2 0 (v4 + (I 85 v5.toNatClampNeg)) (v5 + 1) I J r h
        · replace h := o_neg h c86
          refine wp_iload dX10_isRight_89 6 rfl ?_
          refine wp_if_eq 110 dX10_isRight_91 rfl (fun c91 => ?_) (fun c91 => ?_)
          · replace h := o_pos h c91
            refine wp_iconst (v := 1) dX10_isRight_110 (by decide) ?_
            refine wp_goto 115 dX10_isRight_111 rfl ?_
            refine wp_istore_n (lv' := [(0, _), (1, _), (2, _), (3, _), (4, _), (5, _), (6, _)]) dX10_isRight_115 rfl rfl rfl rfl ?_
            refine wp_iload dX10_isRight_116 4 rfl ?_
            refine wp_iload dX10_isRight_118 6 rfl ?_
            refine wp_if_eq 149 dX10_isRight_120 rfl (fun c120 => ?_) (fun c120 => ?_)
            · replace h := o_pos h c120
              refine wp_iconst (v := 0) dX10_isRight_149 (by decide) ?_
              refine wp_iadd dX10_isRight_150 ?_
              refine wp_istore (lv' := [(0, _), (1, _), (2, _), (3, _), (4, _), (5, _), (6, _)]) dX10_isRight_151 rfl rfl rfl ?_
              refine wp_iinc (v := v5 + 1) (lv' := [(0, _), (1, _), (2, _), (3, _), (4, _), (5, _), (6, _)]) dX10_isRight_153 5 rfl rfl rfl rfl rfl ?_
              refine wp_goto 40 dX10_isRight_156 rfl ?_
              refine wp_pick [0, 1, 2, 3, 4, 5] (lv' := [(0, _), (1, _), (2, _), (3, _), (4, _), (5, _)]) rfl ?_
              exact ih v1 v2 1 (v4 + 0) (v5 + 1) I J r h
            · replace h := o_neg h c120
              refine wp_aload_n dX10_isRight_123 0 rfl ?_
              refine wp_getR (k := 55) (a' := ad 84) dX10_isRight_124 flX10_106 rfl rfl rfl rfl rfl ?_
              refine wp_iload dX10_isRight_127 5 rfl ?_
              obtain ⟨g129, h⟩ := o_grd h
              refine wp_iald (k := 84) dX10_isRight_129 rfl rfl (inb_of g129) ?_
              refine wp_aload_n dX10_isRight_130 0 rfl ?_
              refine wp_getR (k := 55) (a' := ad 84) dX10_isRight_131 flX10_106 rfl rfl rfl rfl rfl ?_
              refine wp_iload_n dX10_isRight_134 1 rfl ?_
              obtain ⟨g135, h⟩ := o_grd h
              refine wp_iald (k := 84) dX10_isRight_135 rfl rfl (inb_of g135) ?_
              refine wp_icmp_eq 149 dX10_isRight_136 rfl (fun c136 => ?_) (fun c136 => ?_)
              · replace h := o_pos h c136
                refine wp_iconst (v := 0) dX10_isRight_149 (by decide) ?_
                refine wp_iadd dX10_isRight_150 ?_
                refine wp_istore (lv' := [(0, _), (1, _), (2, _), (3, _), (4, _), (5, _), (6, _)]) dX10_isRight_151 rfl rfl rfl ?_
                refine wp_iinc (v := v5 + 1) (lv' := [(0, _), (1, _), (2, _), (3, _), (4, _), (5, _), (6, _)]) dX10_isRight_153 5 rfl rfl rfl rfl rfl ?_
                refine wp_goto 40 dX10_isRight_156 rfl ?_
                refine wp_pick [0, 1, 2, 3, 4, 5] (lv' := [(0, _), (1, _), (2, _), (3, _), (4, _), (5, _)]) rfl ?_
                exact ih v1 v2 1 (v4 + 0) (v5 + 1) I J r h
              · replace h := o_neg h c136
                refine wp_aload_n dX10_isRight_139 0 rfl ?_
                refine wp_getR (k := 55) (a' := ad 85) dX10_isRight_140 flX10_109 rfl rfl rfl rfl rfl ?_
                refine wp_iload dX10_isRight_143 5 rfl ?_
                obtain ⟨g145, h⟩ := o_grd h
                refine wp_iald (k := 85) dX10_isRight_145 rfl rfl (inb_of g145) ?_
                refine wp_goto 150 dX10_isRight_146 rfl ?_
                refine wp_iadd dX10_isRight_150 ?_
                refine wp_istore (lv' := [(0, _), (1, _), (2, _), (3, _), (4, _), (5, _), (6, _)]) dX10_isRight_151 rfl rfl rfl ?_
                refine wp_iinc (v := v5 + 1) (lv' := [(0, _), (1, _), (2, _), (3, _), (4, _), (5, _), (6, _)]) dX10_isRight_153 5 rfl rfl rfl rfl rfl ?_
                refine wp_goto 40 dX10_isRight_156 rfl ?_
                refine wp_pick [0, 1, 2, 3, 4, 5] (lv' := [(0, _), (1, _), (2, _), (3, _), (4, _), (5, _)]) rfl ?_
                exact ih v1 v2 1 (v4 + (I 85 v5.toNatClampNeg)) (v5 + 1) I J r h
          · replace h := o_neg h c91
            refine wp_aload_n dX10_isRight_94 0 rfl ?_
            refine wp_getR (k := 55) (a' := ad 84) dX10_isRight_95 flX10_106 rfl rfl rfl rfl rfl ?_
            refine wp_iload dX10_isRight_98 5 rfl ?_
            obtain ⟨g100, h⟩ := o_grd h
            refine wp_iald (k := 84) dX10_isRight_100 rfl rfl (inb_of g100) ?_
            refine wp_aload_n dX10_isRight_101 0 rfl ?_
            refine wp_getR (k := 55) (a' := ad 84) dX10_isRight_102 flX10_106 rfl rfl rfl rfl rfl ?_
            refine wp_iload_n dX10_isRight_105 1 rfl ?_
            obtain ⟨g106, h⟩ := o_grd h
            refine wp_iald (k := 84) dX10_isRight_106 rfl rfl (inb_of g106) ?_
            refine wp_icmp_eq 114 dX10_isRight_107 rfl (fun c107 => ?_) (fun c107 => ?_)
            · replace h := o_pos h c107
              refine wp_iconst (v := 0) dX10_isRight_114 (by decide) ?_
              refine wp_istore_n (lv' := [(0, _), (1, _), (2, _), (3, _), (4, _), (5, _), (6, _)]) dX10_isRight_115 rfl rfl rfl rfl ?_
              refine wp_iload dX10_isRight_116 4 rfl ?_
              refine wp_iload dX10_isRight_118 6 rfl ?_
              refine wp_if_eq 149 dX10_isRight_120 rfl (fun c120 => ?_) (fun c120 => ?_)
              · replace h := o_pos h c120
                refine wp_iconst (v := 0) dX10_isRight_149 (by decide) ?_
                refine wp_iadd dX10_isRight_150 ?_
                refine wp_istore (lv' := [(0, _), (1, _), (2, _), (3, _), (4, _), (5, _), (6, _)]) dX10_isRight_151 rfl rfl rfl ?_
                refine wp_iinc (v := v5 + 1) (lv' := [(0, _), (1, _), (2, _), (3, _), (4, _), (5, _), (6, _)]) dX10_isRight_153 5 rfl rfl rfl rfl rfl ?_
                refine wp_goto 40 dX10_isRight_156 rfl ?_
                refine wp_pick [0, 1, 2, 3, 4, 5] (lv' := [(0, _), (1, _), (2, _), (3, _), (4, _), (5, _)]) rfl ?_
                exact ih v1 v2 0 (v4 + 0) (v5 + 1) I J r h
              · replace h := o_neg h c120
                refine wp_aload_n dX10_isRight_123 0 rfl ?_
                refine wp_getR (k := 55) (a' := ad 84) dX10_isRight_124 flX10_106 rfl rfl rfl rfl rfl ?_
                refine wp_iload dX10_isRight_127 5 rfl ?_
                obtain ⟨g129, h⟩ := o_grd h
                refine wp_iald (k := 84) dX10_isRight_129 rfl rfl (inb_of g129) ?_
                refine wp_aload_n dX10_isRight_130 0 rfl ?_
                refine wp_getR (k := 55) (a' := ad 84) dX10_isRight_131 flX10_106 rfl rfl rfl rfl rfl ?_
                refine wp_iload_n dX10_isRight_134 1 rfl ?_
                obtain ⟨g135, h⟩ := o_grd h
                refine wp_iald (k := 84) dX10_isRight_135 rfl rfl (inb_of g135) ?_
                refine wp_icmp_eq 149 dX10_isRight_136 rfl (fun c136 => ?_) (fun c136 => ?_)
                · replace h := o_pos h c136
                  refine wp_iconst (v := 0) dX10_isRight_149 (by decide) ?_
                  refine wp_iadd dX10_isRight_150 ?_
                  refine wp_istore (lv' := [(0, _), (1, _), (2, _), (3, _), (4, _), (5, _), (6, _)]) dX10_isRight_151 rfl rfl rfl ?_
                  refine wp_iinc (v := v5 + 1) (lv' := [(0, _), (1, _), (2, _), (3, _), (4, _), (5, _), (6, _)]) dX10_isRight_153 5 rfl rfl rfl rfl rfl ?_
                  refine wp_goto 40 dX10_isRight_156 rfl ?_
                  refine wp_pick [0, 1, 2, 3, 4, 5] (lv' := [(0, _), (1, _), (2, _), (3, _), (4, _), (5, _)]) rfl ?_
                  exact ih v1 v2 0 (v4 + 0) (v5 + 1) I J r h
                · replace h := o_neg h c136
                  refine wp_aload_n dX10_isRight_139 0 rfl ?_
                  refine wp_getR (k := 55) (a' := ad 85) dX10_isRight_140 flX10_109 rfl rfl rfl rfl rfl ?_
                  refine wp_iload dX10_isRight_143 5 rfl ?_
                  obtain ⟨g145, h⟩ := o_grd h
                  refine wp_iald (k := 85) dX10_isRight_145 rfl rfl (inb_of g145) ?_
                  refine wp_goto 150 dX10_isRight_146 rfl ?_
                  refine wp_iadd dX10_isRight_150 ?_
                  refine wp_istore (lv' := [(0, _), (1, _), (2, _), (3, _), (4, _), (5, _), (6, _)]) dX10_isRight_151 rfl rfl rfl ?_
                  refine wp_iinc (v := v5 + 1) (lv' := [(0, _), (1, _), (2, _), (3, _), (4, _), (5, _), (6, _)]) dX10_isRight_153 5 rfl rfl rfl rfl rfl ?_
                  refine wp_goto 40 dX10_isRight_156 rfl ?_
                  refine wp_pick [0, 1, 2, 3, 4, 5] (lv' := [(0, _), (1, _), (2, _), (3, _), (4, _), (5, _)]) rfl ?_
                  exact ih v1 v2 0 (v4 + (I 85 v5.toNatClampNeg)) (v5 + 1) I J r h
            · replace h := o_neg h c107
              refine wp_iconst (v := 1) dX10_isRight_110 (by decide) ?_
              refine wp_goto 115 dX10_isRight_111 rfl ?_
              refine wp_istore_n (lv' := [(0, _), (1, _), (2, _), (3, _), (4, _), (5, _), (6, _)]) dX10_isRight_115 rfl rfl rfl rfl ?_
              refine wp_iload dX10_isRight_116 4 rfl ?_
              refine wp_iload dX10_isRight_118 6 rfl ?_
              refine wp_if_eq 149 dX10_isRight_120 rfl (fun c120 => ?_) (fun c120 => ?_)
              · replace h := o_pos h c120
                refine wp_iconst (v := 0) dX10_isRight_149 (by decide) ?_
                refine wp_iadd dX10_isRight_150 ?_
                refine wp_istore (lv' := [(0, _), (1, _), (2, _), (3, _), (4, _), (5, _), (6, _)]) dX10_isRight_151 rfl rfl rfl ?_
                refine wp_iinc (v := v5 + 1) (lv' := [(0, _), (1, _), (2, _), (3, _), (4, _), (5, _), (6, _)]) dX10_isRight_153 5 rfl rfl rfl rfl rfl ?_
                refine wp_goto 40 dX10_isRight_156 rfl ?_
                refine wp_pick [0, 1, 2, 3, 4, 5] (lv' := [(0, _), (1, _), (2, _), (3, _), (4, _), (5, _)]) rfl ?_
                exact ih v1 v2 1 (v4 + 0) (v5 + 1) I J r h
              · replace h := o_neg h c120
                refine wp_aload_n dX10_isRight_123 0 rfl ?_
                refine wp_getR (k := 55) (a' := ad 84) dX10_isRight_124 flX10_106 rfl rfl rfl rfl rfl ?_
                refine wp_iload dX10_isRight_127 5 rfl ?_
                obtain ⟨g129, h⟩ := o_grd h
                refine wp_iald (k := 84) dX10_isRight_129 rfl rfl (inb_of g129) ?_
                refine wp_aload_n dX10_isRight_130 0 rfl ?_
                refine wp_getR (k := 55) (a' := ad 84) dX10_isRight_131 flX10_106 rfl rfl rfl rfl rfl ?_
                refine wp_iload_n dX10_isRight_134 1 rfl ?_
                obtain ⟨g135, h⟩ := o_grd h
                refine wp_iald (k := 84) dX10_isRight_135 rfl rfl (inb_of g135) ?_
                refine wp_icmp_eq 149 dX10_isRight_136 rfl (fun c136 => ?_) (fun c136 => ?_)
                · replace h := o_pos h c136
                  refine wp_iconst (v := 0) dX10_isRight_149 (by decide) ?_
                  refine wp_iadd dX10_isRight_150 ?_
                  refine wp_istore (lv' := [(0, _), (1, _), (2, _), (3, _), (4, _), (5, _), (6, _)]) dX10_isRight_151 rfl rfl rfl ?_
                  refine wp_iinc (v := v5 + 1) (lv' := [(0, _), (1, _), (2, _), (3, _), (4, _), (5, _), (6, _)]) dX10_isRight_153 5 rfl rfl rfl rfl rfl ?_
                  refine wp_goto 40 dX10_isRight_156 rfl ?_
                  refine wp_pick [0, 1, 2, 3, 4, 5] (lv' := [(0, _), (1, _), (2, _), (3, _), (4, _), (5, _)]) rfl ?_
                  exact ih v1 v2 1 (v4 + 0) (v5 + 1) I J r h
                · replace h := o_neg h c136
                  refine wp_aload_n dX10_isRight_139 0 rfl ?_
                  refine wp_getR (k := 55) (a' := ad 85) dX10_isRight_140 flX10_109 rfl rfl rfl rfl rfl ?_
                  refine wp_iload dX10_isRight_143 5 rfl ?_
                  obtain ⟨g145, h⟩ := o_grd h
                  refine wp_iald (k := 85) dX10_isRight_145 rfl rfl (inb_of g145) ?_
                  refine wp_goto 150 dX10_isRight_146 rfl ?_
                  refine wp_iadd dX10_isRight_150 ?_
                  refine wp_istore (lv' := [(0, _), (1, _), (2, _), (3, _), (4, _), (5, _), (6, _)]) dX10_isRight_151 rfl rfl rfl ?_
                  refine wp_iinc (v := v5 + 1) (lv' := [(0, _), (1, _), (2, _), (3, _), (4, _), (5, _), (6, _)]) dX10_isRight_153 5 rfl rfl rfl rfl rfl ?_
                  refine wp_goto 40 dX10_isRight_156 rfl ?_
                  refine wp_pick [0, 1, 2, 3, 4, 5] (lv' := [(0, _), (1, _), (2, _), (3, _), (4, _), (5, _)]) rfl ?_
                  exact ih v1 v2 1 (v4 + (I 85 v5.toNatClampNeg)) (v5 + 1) I J r h
      · replace h := o_pos h c54
        refine wp_aload_n dX10_isRight_57 0 rfl ?_
        refine wp_getR (k := 55) (a' := ad 82) dX10_isRight_58 flX10_100 rfl rfl rfl rfl rfl ?_
        refine wp_iload_n dX10_isRight_61 1 rfl ?_
        obtain ⟨g62, h⟩ := o_grd h
        refine wp_iald (k := 82) dX10_isRight_62 rfl rfl (inb_of g62) ?_
        refine wp_aload_n dX10_isRight_63 0 rfl ?_
        refine wp_getR (k := 55) (a' := ad 82) dX10_isRight_64 flX10_100 rfl rfl rfl rfl rfl ?_
        refine wp_iload dX10_isRight_67 5 rfl ?_
        obtain ⟨g69, h⟩ := o_grd h
        refine wp_iald (k := 82) dX10_isRight_69 rfl rfl (inb_of g69) ?_
        refine wp_aload_n dX10_isRight_70 0 rfl ?_
        refine wp_getI (k := 55) dX10_isRight_71 flX10_25 rfl rfl rfl rfl ?_
        refine wp_iadd dX10_isRight_74 ?_
        refine wp_icmp_ge 82 dX10_isRight_75 rfl (fun c75 => ?_) (fun c75 => ?_)
        · replace h := o_pos h c75
          refine wp_iconst (v := 0) dX10_isRight_82 (by decide) ?_
          refine wp_istore (lv' := [(0, _), (1, _), (2, _), (3, _), (4, _), (5, _), (6, _)]) dX10_isRight_83 rfl rfl rfl ?_
          refine wp_iload_n dX10_isRight_85 3 rfl ?_
          refine wp_if_eq 114 dX10_isRight_86 rfl (fun c86 => ?_) (fun c86 => ?_)
          · replace h := o_pos h c86
            refine wp_iconst (v := 0) dX10_isRight_114 (by decide) ?_
            refine wp_istore_n (lv' := [(0, _), (1, _), (2, _), (3, _), (4, _), (5, _), (6, _)]) dX10_isRight_115 rfl rfl rfl rfl ?_
            refine wp_iload dX10_isRight_116 4 rfl ?_
            refine wp_iload dX10_isRight_118 6 rfl ?_
            refine wp_if_eq 149 dX10_isRight_120 rfl (fun c120 => ?_) (fun c120 => ?_)
            · replace h := o_pos h c120
              refine wp_iconst (v := 0) dX10_isRight_149 (by decide) ?_
              refine wp_iadd dX10_isRight_150 ?_
              refine wp_istore (lv' := [(0, _), (1, _), (2, _), (3, _), (4, _), (5, _), (6, _)]) dX10_isRight_151 rfl rfl rfl ?_
              refine wp_iinc (v := v5 + 1) (lv' := [(0, _), (1, _), (2, _), (3, _), (4, _), (5, _), (6, _)]) dX10_isRight_153 5 rfl rfl rfl rfl rfl ?_
              refine wp_goto 40 dX10_isRight_156 rfl ?_
              refine wp_pick [0, 1, 2, 3, 4, 5] (lv' := [(0, _), (1, _), (2, _), (3, _), (4, _), (5, _)]) rfl ?_
              exact ih v1 v2 0 (v4 + 0) (v5 + 1) I J r h
            · replace h := o_neg h c120
              refine wp_aload_n dX10_isRight_123 0 rfl ?_
              refine wp_getR (k := 55) (a' := ad 84) dX10_isRight_124 flX10_106 rfl rfl rfl rfl rfl ?_
              refine wp_iload dX10_isRight_127 5 rfl ?_
              obtain ⟨g129, h⟩ := o_grd h
              refine wp_iald (k := 84) dX10_isRight_129 rfl rfl (inb_of g129) ?_
              refine wp_aload_n dX10_isRight_130 0 rfl ?_
              refine wp_getR (k := 55) (a' := ad 84) dX10_isRight_131 flX10_106 rfl rfl rfl rfl rfl ?_
              refine wp_iload_n dX10_isRight_134 1 rfl ?_
              obtain ⟨g135, h⟩ := o_grd h
              refine wp_iald (k := 84) dX10_isRight_135 rfl rfl (inb_of g135) ?_
              refine wp_icmp_eq 149 dX10_isRight_136 rfl (fun c136 => ?_) (fun c136 => ?_)
              · replace h := o_pos h c136
                refine wp_iconst (v := 0) dX10_isRight_149 (by decide) ?_
                refine wp_iadd dX10_isRight_150 ?_
                refine wp_istore (lv' := [(0, _), (1, _), (2, _), (3, _), (4, _), (5, _), (6, _)]) dX10_isRight_151 rfl rfl rfl ?_
                refine wp_iinc (v := v5 + 1) (lv' := [(0, _), (1, _), (2, _), (3, _), (4, _), (5, _), (6, _)]) dX10_isRight_153 5 rfl rfl rfl rfl rfl ?_
                refine wp_goto 40 dX10_isRight_156 rfl ?_
                refine wp_pick [0, 1, 2, 3, 4, 5] (lv' := [(0, _), (1, _), (2, _), (3, _), (4, _), (5, _)]) rfl ?_
                exact ih v1 v2 0 (v4 + 0) (v5 + 1) I J r h
              · replace h := o_neg h c136
                refine wp_aload_n dX10_isRight_139 0 rfl ?_
                refine wp_getR (k := 55) (a' := ad 85) dX10_isRight_140 flX10_109 rfl rfl rfl rfl rfl ?_
                refine wp_iload dX10_isRight_143 5 rfl ?_
                obtain ⟨g145, h⟩ := o_grd h
                refine wp_iald (k := 85) dX10_isRight_145 rfl rfl (inb_of g145) ?_
                refine wp_goto 150 dX10_isRight_146 rfl ?_
                refine wp_iadd dX10_isRight_150 ?_
                refine wp_istore (lv' := [(0, _), (1, _), (2, _), (3, _), (4, _), (5, _), (6, _)]) dX10_isRight_151 rfl rfl rfl ?_
                refine wp_iinc (v := v5 + 1) (lv' := [(0, _), (1, _), (2, _), (3, _), (4, _), (5, _), (6, _)]) dX10_isRight_153 5 rfl rfl rfl rfl rfl ?_
                refine wp_goto 40 dX10_isRight_156 rfl ?_
                refine wp_pick [0, 1, 2, 3, 4, 5] (lv' := [(0, _), (1, _), (2, _), (3, _), (4, _), (5, _)]) rfl ?_
                exact ih v1 v2 0 (v4 + (I 85 v5.toNatClampNeg)) (v5 + 1) I J r h
          · replace h := o_neg h c86
            refine wp_iload dX10_isRight_89 6 rfl ?_
            refine wp_if_eq 110 dX10_isRight_91 rfl (fun c91 => ?_) (fun c91 => ?_)
            · replace h := o_pos h c91
              refine wp_iconst (v := 1) dX10_isRight_110 (by decide) ?_
              refine wp_goto 115 dX10_isRight_111 rfl ?_
              refine wp_istore_n (lv' := [(0, _), (1, _), (2, _), (3, _), (4, _), (5, _), (6, _)]) dX10_isRight_115 rfl rfl rfl rfl ?_
              refine wp_iload dX10_isRight_116 4 rfl ?_
              refine wp_iload dX10_isRight_118 6 rfl ?_
              refine wp_if_eq 149 dX10_isRight_120 rfl (fun c120 => ?_) (fun c120 => ?_)
              · replace h := o_pos h c120
                refine wp_iconst (v := 0) dX10_isRight_149 (by decide) ?_
                refine wp_iadd dX10_isRight_150 ?_
                refine wp_istore (lv' := [(0, _), (1, _), (2, _), (3, _), (4, _), (5, _), (6, _)]) dX10_isRight_151 rfl rfl rfl ?_
                refine wp_iinc (v := v5 + 1) (lv' := [(0, _), (1, _), (2, _), (3, _), (4, _), (5, _), (6, _)]) dX10_isRight_153 5 rfl rfl rfl rfl rfl ?_
                refine wp_goto 40 dX10_isRight_156 rfl ?_
                refine wp_pick [0, 1, 2, 3, 4, 5] (lv' := [(0, _), (1, _), (2, _), (3, _), (4, _), (5, _)]) rfl ?_
                exact ih v1 v2 1 (v4 + 0) (v5 + 1) I J r h
              · replace h := o_neg h c120
                refine wp_aload_n dX10_isRight_123 0 rfl ?_
                refine wp_getR (k := 55) (a' := ad 84) dX10_isRight_124 flX10_106 rfl rfl rfl rfl rfl ?_
                refine wp_iload dX10_isRight_127 5 rfl ?_
                obtain ⟨g129, h⟩ := o_grd h
                refine wp_iald (k := 84) dX10_isRight_129 rfl rfl (inb_of g129) ?_
                refine wp_aload_n dX10_isRight_130 0 rfl ?_
                refine wp_getR (k := 55) (a' := ad 84) dX10_isRight_131 flX10_106 rfl rfl rfl rfl rfl ?_
                refine wp_iload_n dX10_isRight_134 1 rfl ?_
                obtain ⟨g135, h⟩ := o_grd h
                refine wp_iald (k := 84) dX10_isRight_135 rfl rfl (inb_of g135) ?_
                refine wp_icmp_eq 149 dX10_isRight_136 rfl (fun c136 => ?_) (fun c136 => ?_)
                · replace h := o_pos h c136
                  refine wp_iconst (v := 0) dX10_isRight_149 (by decide) ?_
                  refine wp_iadd dX10_isRight_150 ?_
                  refine wp_istore (lv' := [(0, _), (1, _), (2, _), (3, _), (4, _), (5, _), (6, _)]) dX10_isRight_151 rfl rfl rfl ?_
                  refine wp_iinc (v := v5 + 1) (lv' := [(0, _), (1, _), (2, _), (3, _), (4, _), (5, _), (6, _)]) dX10_isRight_153 5 rfl rfl rfl rfl rfl ?_
                  refine wp_goto 40 dX10_isRight_156 rfl ?_
                  refine wp_pick [0, 1, 2, 3, 4, 5] (lv' := [(0, _), (1, _), (2, _), (3, _), (4, _), (5, _)]) rfl ?_
                  exact ih v1 v2 1 (v4 + 0) (v5 + 1) I J r h
                · replace h := o_neg h c136
                  refine wp_aload_n dX10_isRight_139 0 rfl ?_
                  refine wp_getR (k := 55) (a' := ad 85) dX10_isRight_140 flX10_109 rfl rfl rfl rfl rfl ?_
                  refine wp_iload dX10_isRight_143 5 rfl ?_
                  obtain ⟨g145, h⟩ := o_grd h
                  refine wp_iald (k := 85) dX10_isRight_145 rfl rfl (inb_of g145) ?_
                  refine wp_goto 150 dX10_isRight_146 rfl ?_
                  refine wp_iadd dX10_isRight_150 ?_
                  refine wp_istore (lv' := [(0, _), (1, _), (2, _), (3, _), (4, _), (5, _), (6, _)]) dX10_isRight_151 rfl rfl rfl ?_
                  refine wp_iinc (v := v5 + 1) (lv' := [(0, _), (1, _), (2, _), (3, _), (4, _), (5, _), (6, _)]) dX10_isRight_153 5 rfl rfl rfl rfl rfl ?_
                  refine wp_goto 40 dX10_isRight_156 rfl ?_
                  refine wp_pick [0, 1, 2, 3, 4, 5] (lv' := [(0, _), (1, _), (2, _), (3, _), (4, _), (5, _)]) rfl ?_
                  exact ih v1 v2 1 (v4 + (I 85 v5.toNatClampNeg)) (v5 + 1) I J r h
            · replace h := o_neg h c91
              refine wp_aload_n dX10_isRight_94 0 rfl ?_
              refine wp_getR (k := 55) (a' := ad 84) dX10_isRight_95 flX10_106 rfl rfl rfl rfl rfl ?_
              refine wp_iload dX10_isRight_98 5 rfl ?_
              obtain ⟨g100, h⟩ := o_grd h
              refine wp_iald (k := 84) dX10_isRight_100 rfl rfl (inb_of g100) ?_
              refine wp_aload_n dX10_isRight_101 0 rfl ?_
              refine wp_getR (k := 55) (a' := ad 84) dX10_isRight_102 flX10_106 rfl rfl rfl rfl rfl ?_
              refine wp_iload_n dX10_isRight_105 1 rfl ?_
              obtain ⟨g106, h⟩ := o_grd h
              refine wp_iald (k := 84) dX10_isRight_106 rfl rfl (inb_of g106) ?_
              refine wp_icmp_eq 114 dX10_isRight_107 rfl (fun c107 => ?_) (fun c107 => ?_)
              · replace h := o_pos h c107
                refine wp_iconst (v := 0) dX10_isRight_114 (by decide) ?_
                refine wp_istore_n (lv' := [(0, _), (1, _), (2, _), (3, _), (4, _), (5, _), (6, _)]) dX10_isRight_115 rfl rfl rfl rfl ?_
                refine wp_iload dX10_isRight_116 4 rfl ?_
                refine wp_iload dX10_isRight_118 6 rfl ?_
                refine wp_if_eq 149 dX10_isRight_120 rfl (fun c120 => ?_) (fun c120 => ?_)
                · replace h := o_pos h c120
                  refine wp_iconst (v := 0) dX10_isRight_149 (by decide) ?_
                  refine wp_iadd dX10_isRight_150 ?_
                  refine wp_istore (lv' := [(0, _), (1, _), (2, _), (3, _), (4, _), (5, _), (6, _)]) dX10_isRight_151 rfl rfl rfl ?_
                  refine wp_iinc (v := v5 + 1) (lv' := [(0, _), (1, _), (2, _), (3, _), (4, _), (5, _), (6, _)]) dX10_isRight_153 5 rfl rfl rfl rfl rfl ?_
                  refine wp_goto 40 dX10_isRight_156 rfl ?_
                  refine wp_pick [0, 1, 2, 3, 4, 5] (lv' := [(0, _), (1, _), (2, _), (3, _), (4, _), (5, _)]) rfl ?_
                  exact ih v1 v2 0 (v4 + 0) (v5 + 1) I J r h
                · replace h := o_neg h c120
                  refine wp_aload_n dX10_isRight_123 0 rfl ?_
                  refine wp_getR (k := 55) (a' := ad 84) dX10_isRight_124 flX10_106 rfl rfl rfl rfl rfl ?_
                  refine wp_iload dX10_isRight_127 5 rfl ?_
                  obtain ⟨g129, h⟩ := o_grd h
                  refine wp_iald (k := 84) dX10_isRight_129 rfl rfl (inb_of g129) ?_
                  refine wp_aload_n dX10_isRight_130 0 rfl ?_
                  refine wp_getR (k := 55) (a' := ad 84) dX10_isRight_131 flX10_106 rfl rfl rfl rfl rfl ?_
                  refine wp_iload_n dX10_isRight_134 1 rfl ?_
                  obtain ⟨g135, h⟩ := o_grd h
                  refine wp_iald (k := 84) dX10_isRight_135 rfl rfl (inb_of g135) ?_
                  refine wp_icmp_eq 149 dX10_isRight_136 rfl (fun c136 => ?_) (fun c136 => ?_)
                  · replace h := o_pos h c136
                    refine wp_iconst (v := 0) dX10_isRight_149 (by decide) ?_
                    refine wp_iadd dX10_isRight_150 ?_
                    refine wp_istore (lv' := [(0, _), (1, _), (2, _), (3, _), (4, _), (5, _), (6, _)]) dX10_isRight_151 rfl rfl rfl ?_
                    refine wp_iinc (v := v5 + 1) (lv' := [(0, _), (1, _), (2, _), (3, _), (4, _), (5, _), (6, _)]) dX10_isRight_153 5 rfl rfl rfl rfl rfl ?_
                    refine wp_goto 40 dX10_isRight_156 rfl ?_
                    refine wp_pick [0, 1, 2, 3, 4, 5] (lv' := [(0, _), (1, _), (2, _), (3, _), (4, _), (5, _)]) rfl ?_
                    exact ih v1 v2 0 (v4 + 0) (v5 + 1) I J r h
                  · replace h := o_neg h c136
                    refine wp_aload_n dX10_isRight_139 0 rfl ?_
                    refine wp_getR (k := 55) (a' := ad 85) dX10_isRight_140 flX10_109 rfl rfl rfl rfl rfl ?_
                    refine wp_iload dX10_isRight_143 5 rfl ?_
                    obtain ⟨g145, h⟩ := o_grd h
                    refine wp_iald (k := 85) dX10_isRight_145 rfl rfl (inb_of g145) ?_
                    refine wp_goto 150 dX10_isRight_146 rfl ?_
                    refine wp_iadd dX10_isRight_150 ?_
                    refine wp_istore (lv' := [(0, _), (1, _), (2, _), (3, _), (4, _), (5, _), (6, _)]) dX10_isRight_151 rfl rfl rfl ?_
                    refine wp_iinc (v := v5 + 1) (lv' := [(0, _), (1, _), (2, _), (3, _), (4, _), (5, _), (6, _)]) dX10_isRight_153 5 rfl rfl rfl rfl rfl ?_
                    refine wp_goto 40 dX10_isRight_156 rfl ?_
                    refine wp_pick [0, 1, 2, 3, 4, 5] (lv' := [(0, _), (1, _), (2, _), (3, _), (4, _), (5, _)]) rfl ?_
                    exact ih v1 v2 0 (v4 + (I 85 v5.toNatClampNeg)) (v5 + 1) I J r h
              · replace h := o_neg h c107
                refine wp_iconst (v := 1) dX10_isRight_110 (by decide) ?_
                refine wp_goto 115 dX10_isRight_111 rfl ?_
                refine wp_istore_n (lv' := [(0, _), (1, _), (2, _), (3, _), (4, _), (5, _), (6, _)]) dX10_isRight_115 rfl rfl rfl rfl ?_
                refine wp_iload dX10_isRight_116 4 rfl ?_
                refine wp_iload dX10_isRight_118 6 rfl ?_
                refine wp_if_eq 149 dX10_isRight_120 rfl (fun c120 => ?_) (fun c120 => ?_)
                · replace h := o_pos h c120
                  refine wp_iconst (v := 0) dX10_isRight_149 (by decide) ?_
                  refine wp_iadd dX10_isRight_150 ?_
                  refine wp_istore (lv' := [(0, _), (1, _), (2, _), (3, _), (4, _), (5, _), (6, _)]) dX10_isRight_151 rfl rfl rfl ?_
                  refine wp_iinc (v := v5 + 1) (lv' := [(0, _), (1, _), (2, _), (3, _), (4, _), (5, _), (6, _)]) dX10_isRight_153 5 rfl rfl rfl rfl rfl ?_
                  refine wp_goto 40 dX10_isRight_156 rfl ?_
                  refine wp_pick [0, 1, 2, 3, 4, 5] (lv' := [(0, _), (1, _), (2, _), (3, _), (4, _), (5, _)]) rfl ?_
                  exact ih v1 v2 1 (v4 + 0) (v5 + 1) I J r h
                · replace h := o_neg h c120
                  refine wp_aload_n dX10_isRight_123 0 rfl ?_
                  refine wp_getR (k := 55) (a' := ad 84) dX10_isRight_124 flX10_106 rfl rfl rfl rfl rfl ?_
                  refine wp_iload dX10_isRight_127 5 rfl ?_
                  obtain ⟨g129, h⟩ := o_grd h
                  refine wp_iald (k := 84) dX10_isRight_129 rfl rfl (inb_of g129) ?_
                  refine wp_aload_n dX10_isRight_130 0 rfl ?_
                  refine wp_getR (k := 55) (a' := ad 84) dX10_isRight_131 flX10_106 rfl rfl rfl rfl rfl ?_
                  refine wp_iload_n dX10_isRight_134 1 rfl ?_
                  obtain ⟨g135, h⟩ := o_grd h
                  refine wp_iald (k := 84) dX10_isRight_135 rfl rfl (inb_of g135) ?_
                  refine wp_icmp_eq 149 dX10_isRight_136 rfl (fun c136 => ?_) (fun c136 => ?_)
                  · replace h := o_pos h c136
                    refine wp_iconst (v := 0) dX10_isRight_149 (by decide) ?_
                    refine wp_iadd dX10_isRight_150 ?_
                    refine wp_istore (lv' := [(0, _), (1, _), (2, _), (3, _), (4, _), (5, _), (6, _)]) dX10_isRight_151 rfl rfl rfl ?_
                    refine wp_iinc (v := v5 + 1) (lv' := [(0, _), (1, _), (2, _), (3, _), (4, _), (5, _), (6, _)]) dX10_isRight_153 5 rfl rfl rfl rfl rfl ?_
                    refine wp_goto 40 dX10_isRight_156 rfl ?_
                    refine wp_pick [0, 1, 2, 3, 4, 5] (lv' := [(0, _), (1, _), (2, _), (3, _), (4, _), (5, _)]) rfl ?_
                    exact ih v1 v2 1 (v4 + 0) (v5 + 1) I J r h
                  · replace h := o_neg h c136
                    refine wp_aload_n dX10_isRight_139 0 rfl ?_
                    refine wp_getR (k := 55) (a' := ad 85) dX10_isRight_140 flX10_109 rfl rfl rfl rfl rfl ?_
                    refine wp_iload dX10_isRight_143 5 rfl ?_
                    obtain ⟨g145, h⟩ := o_grd h
                    refine wp_iald (k := 85) dX10_isRight_145 rfl rfl (inb_of g145) ?_
                    refine wp_goto 150 dX10_isRight_146 rfl ?_
                    refine wp_iadd dX10_isRight_150 ?_
                    refine wp_istore (lv' := [(0, _), (1, _), (2, _), (3, _), (4, _), (5, _), (6, _)]) dX10_isRight_151 rfl rfl rfl ?_
                    refine wp_iinc (v := v5 + 1) (lv' := [(0, _), (1, _), (2, _), (3, _), (4, _), (5, _), (6, _)]) dX10_isRight_153 5 rfl rfl rfl rfl rfl ?_
                    refine wp_goto 40 dX10_isRight_156 rfl ?_
                    refine wp_pick [0, 1, 2, 3, 4, 5] (lv' := [(0, _), (1, _), (2, _), (3, _), (4, _), (5, _)]) rfl ?_
                    exact ih v1 v2 1 (v4 + (I 85 v5.toNatClampNeg)) (v5 + 1) I J r h
        · replace h := o_neg h c75
          refine wp_iconst (v := 1) dX10_isRight_78 (by decide) ?_
          refine wp_goto 83 dX10_isRight_79 rfl ?_
          refine wp_istore (lv' := [(0, _), (1, _), (2, _), (3, _), (4, _), (5, _), (6, _)]) dX10_isRight_83 rfl rfl rfl ?_
          refine wp_iload_n dX10_isRight_85 3 rfl ?_
          refine wp_if_eq 114 dX10_isRight_86 rfl (fun c86 => ?_) (fun c86 => ?_)
          · replace h := o_pos h c86
            refine wp_iconst (v := 0) dX10_isRight_114 (by decide) ?_
            refine wp_istore_n (lv' := [(0, _), (1, _), (2, _), (3, _), (4, _), (5, _), (6, _)]) dX10_isRight_115 rfl rfl rfl rfl ?_
            refine wp_iload dX10_isRight_116 4 rfl ?_
            refine wp_iload dX10_isRight_118 6 rfl ?_
            refine wp_if_eq 149 dX10_isRight_120 rfl (fun c120 => ?_) (fun c120 => ?_)
            · replace h := o_pos h c120
              refine wp_iconst (v := 0) dX10_isRight_149 (by decide) ?_
              refine wp_iadd dX10_isRight_150 ?_
              refine wp_istore (lv' := [(0, _), (1, _), (2, _), (3, _), (4, _), (5, _), (6, _)]) dX10_isRight_151 rfl rfl rfl ?_
              refine wp_iinc (v := v5 + 1) (lv' := [(0, _), (1, _), (2, _), (3, _), (4, _), (5, _), (6, _)]) dX10_isRight_153 5 rfl rfl rfl rfl rfl ?_
              refine wp_goto 40 dX10_isRight_156 rfl ?_
              refine wp_pick [0, 1, 2, 3, 4, 5] (lv' := [(0, _), (1, _), (2, _), (3, _), (4, _), (5, _)]) rfl ?_
              exact ih v1 v2 0 (v4 + 0) (v5 + 1) I J r h
            · replace h := o_neg h c120
              refine wp_aload_n dX10_isRight_123 0 rfl ?_
              refine wp_getR (k := 55) (a' := ad 84) dX10_isRight_124 flX10_106 rfl rfl rfl rfl rfl ?_
              refine wp_iload dX10_isRight_127 5 rfl ?_
              obtain ⟨g129, h⟩ := o_grd h
              refine wp_iald (k := 84) dX10_isRight_129 rfl rfl (inb_of g129) ?_
              refine wp_aload_n dX10_isRight_130 0 rfl ?_
              refine wp_getR (k := 55) (a' := ad 84) dX10_isRight_131 flX10_106 rfl rfl rfl rfl rfl ?_
              refine wp_iload_n dX10_isRight_134 1 rfl ?_
              obtain ⟨g135, h⟩ := o_grd h
              refine wp_iald (k := 84) dX10_isRight_135 rfl rfl (inb_of g135) ?_
              refine wp_icmp_eq 149 dX10_isRight_136 rfl (fun c136 => ?_) (fun c136 => ?_)
              · replace h := o_pos h c136
                refine wp_iconst (v := 0) dX10_isRight_149 (by decide) ?_
                refine wp_iadd dX10_isRight_150 ?_
                refine wp_istore (lv' := [(0, _), (1, _), (2, _), (3, _), (4, _), (5, _), (6, _)]) dX10_isRight_151 rfl rfl rfl ?_
                refine wp_iinc (v := v5 + 1) (lv' := [(0, _), (1, _), (2, _), (3, _), (4, _), (5, _), (6, _)]) dX10_isRight_153 5 rfl rfl rfl rfl rfl ?_
                refine wp_goto 40 dX10_isRight_156 rfl ?_
                refine wp_pick [0, 1, 2, 3, 4, 5] (lv' := [(0, _), (1, _), (2, _), (3, _), (4, _), (5, _)]) rfl ?_
                exact ih v1 v2 0 (v4 + 0) (v5 + 1) I J r h
              · replace h := o_neg h c136
                refine wp_aload_n dX10_isRight_139 0 rfl ?_
                refine wp_getR (k := 55) (a' := ad 85) dX10_isRight_140 flX10_109 rfl rfl rfl rfl rfl ?_
                refine wp_iload dX10_isRight_143 5 rfl ?_
                obtain ⟨g145, h⟩ := o_grd h
                refine wp_iald (k := 85) dX10_isRight_145 rfl rfl (inb_of g145) ?_
                refine wp_goto 150 dX10_isRight_146 rfl ?_
                refine wp_iadd dX10_isRight_150 ?_
                refine wp_istore (lv' := [(0, _), (1, _), (2, _), (3, _), (4, _), (5, _), (6, _)]) dX10_isRight_151 rfl rfl rfl ?_
                refine wp_iinc (v := v5 + 1) (lv' := [(0, _), (1, _), (2, _), (3, _), (4, _), (5, _), (6, _)]) dX10_isRight_153 5 rfl rfl rfl rfl rfl ?_
                refine wp_goto 40 dX10_isRight_156 rfl ?_
                refine wp_pick [0, 1, 2, 3, 4, 5] (lv' := [(0, _), (1, _), (2, _), (3, _), (4, _), (5, _)]) rfl ?_
                exact ih v1 v2 0 (v4 + (I 85 v5.toNatClampNeg)) (v5 + 1) I J r h
          · replace h := o_neg h c86
            refine wp_iload dX10_isRight_89 6 rfl ?_
            refine wp_if_eq 110 dX10_isRight_91 rfl (fun c91 => ?_) (fun c91 => ?_)
            · replace h := o_pos h c91
              refine wp_iconst (v := 1) dX10_isRight_110 (by decide) ?_
              refine wp_goto 115 dX10_isRight_111 rfl ?_
              refine wp_istore_n (lv' := [(0, _), (1, _), (2, _), (3, _), (4, _), (5, _), (6, _)]) dX10_isRight_115 rfl rfl rfl rfl ?_
              refine wp_iload dX10_isRight_116 4 rfl ?_
              refine wp_iload dX10_isRight_118 6 rfl ?_
              refine wp_if_eq 149 dX10_isRight_120 rfl (fun c120 => ?_) (fun c120 => ?_)
              · replace h := o_pos h c120
                refine wp_iconst (v := 0) dX10_isRight_149 (by decide) ?_
                refine wp_iadd dX10_isRight_150 ?_
                refine wp_istore (lv' := [(0, _), (1, _), (2, _), (3, _), (4, _), (5, _), (6, _)]) dX10_isRight_151 rfl rfl rfl ?_
                refine wp_iinc (v := v5 + 1) (lv' := [(0, _), (1, _), (2, _), (3, _), (4, _), (5, _), (6, _)]) dX10_isRight_153 5 rfl rfl rfl rfl rfl ?_
                refine wp_goto 40 dX10_isRight_156 rfl ?_
                refine wp_pick [0, 1, 2, 3, 4, 5] (lv' := [(0, _), (1, _), (2, _), (3, _), (4, _), (5, _)]) rfl ?_
                exact ih v1 v2 1 (v4 + 0) (v5 + 1) I J r h
              · replace h := o_neg h c120
                refine wp_aload_n dX10_isRight_123 0 rfl ?_
                refine wp_getR (k := 55) (a' := ad 84) dX10_isRight_124 flX10_106 rfl rfl rfl rfl rfl ?_
                refine wp_iload dX10_isRight_127 5 rfl ?_
                obtain ⟨g129, h⟩ := o_grd h
                refine wp_iald (k := 84) dX10_isRight_129 rfl rfl (inb_of g129) ?_
                refine wp_aload_n dX10_isRight_130 0 rfl ?_
                refine wp_getR (k := 55) (a' := ad 84) dX10_isRight_131 flX10_106 rfl rfl rfl rfl rfl ?_
                refine wp_iload_n dX10_isRight_134 1 rfl ?_
                obtain ⟨g135, h⟩ := o_grd h
                refine wp_iald (k := 84) dX10_isRight_135 rfl rfl (inb_of g135) ?_
                refine wp_icmp_eq 149 dX10_isRight_136 rfl (fun c136 => ?_) (fun c136 => ?_)
                · replace h := o_pos h c136
                  refine wp_iconst (v := 0) dX10_isRight_149 (by decide) ?_
                  refine wp_iadd dX10_isRight_150 ?_
                  refine wp_istore (lv' := [(0, _), (1, _), (2, _), (3, _), (4, _), (5, _), (6, _)]) dX10_isRight_151 rfl rfl rfl ?_
                  refine wp_iinc (v := v5 + 1) (lv' := [(0, _), (1, _), (2, _), (3, _), (4, _), (5, _), (6, _)]) dX10_isRight_153 5 rfl rfl rfl rfl rfl ?_
                  refine wp_goto 40 dX10_isRight_156 rfl ?_
                  refine wp_pick [0, 1, 2, 3, 4, 5] (lv' := [(0, _), (1, _), (2, _), (3, _), (4, _), (5, _)]) rfl ?_
                  exact ih v1 v2 1 (v4 + 0) (v5 + 1) I J r h
                · replace h := o_neg h c136
                  refine wp_aload_n dX10_isRight_139 0 rfl ?_
                  refine wp_getR (k := 55) (a' := ad 85) dX10_isRight_140 flX10_109 rfl rfl rfl rfl rfl ?_
                  refine wp_iload dX10_isRight_143 5 rfl ?_
                  obtain ⟨g145, h⟩ := o_grd h
                  refine wp_iald (k := 85) dX10_isRight_145 rfl rfl (inb_of g145) ?_
                  refine wp_goto 150 dX10_isRight_146 rfl ?_
                  refine wp_iadd dX10_isRight_150 ?_
                  refine wp_istore (lv' := [(0, _), (1, _), (2, _), (3, _), (4, _), (5, _), (6, _)]) dX10_isRight_151 rfl rfl rfl ?_
                  refine wp_iinc (v := v5 + 1) (lv' := [(0, _), (1, _), (2, _), (3, _), (4, _), (5, _), (6, _)]) dX10_isRight_153 5 rfl rfl rfl rfl rfl ?_
                  refine wp_goto 40 dX10_isRight_156 rfl ?_
                  refine wp_pick [0, 1, 2, 3, 4, 5] (lv' := [(0, _), (1, _), (2, _), (3, _), (4, _), (5, _)]) rfl ?_
                  exact ih v1 v2 1 (v4 + (I 85 v5.toNatClampNeg)) (v5 + 1) I J r h
            · replace h := o_neg h c91
              refine wp_aload_n dX10_isRight_94 0 rfl ?_
              refine wp_getR (k := 55) (a' := ad 84) dX10_isRight_95 flX10_106 rfl rfl rfl rfl rfl ?_
              refine wp_iload dX10_isRight_98 5 rfl ?_
              obtain ⟨g100, h⟩ := o_grd h
              refine wp_iald (k := 84) dX10_isRight_100 rfl rfl (inb_of g100) ?_
              refine wp_aload_n dX10_isRight_101 0 rfl ?_
              refine wp_getR (k := 55) (a' := ad 84) dX10_isRight_102 flX10_106 rfl rfl rfl rfl rfl ?_
              refine wp_iload_n dX10_isRight_105 1 rfl ?_
              obtain ⟨g106, h⟩ := o_grd h
              refine wp_iald (k := 84) dX10_isRight_106 rfl rfl (inb_of g106) ?_
              refine wp_icmp_eq 114 dX10_isRight_107 rfl (fun c107 => ?_) (fun c107 => ?_)
              · replace h := o_pos h c107
                refine wp_iconst (v := 0) dX10_isRight_114 (by decide) ?_
                refine wp_istore_n (lv' := [(0, _), (1, _), (2, _), (3, _), (4, _), (5, _), (6, _)]) dX10_isRight_115 rfl rfl rfl rfl ?_
                refine wp_iload dX10_isRight_116 4 rfl ?_
                refine wp_iload dX10_isRight_118 6 rfl ?_
                refine wp_if_eq 149 dX10_isRight_120 rfl (fun c120 => ?_) (fun c120 => ?_)
                · replace h := o_pos h c120
                  refine wp_iconst (v := 0) dX10_isRight_149 (by decide) ?_
                  refine wp_iadd dX10_isRight_150 ?_
                  refine wp_istore (lv' := [(0, _), (1, _), (2, _), (3, _), (4, _), (5, _), (6, _)]) dX10_isRight_151 rfl rfl rfl ?_
                  refine wp_iinc (v := v5 + 1) (lv' := [(0, _), (1, _), (2, _), (3, _), (4, _), (5, _), (6, _)]) dX10_isRight_153 5 rfl rfl rfl rfl rfl ?_
                  refine wp_goto 40 dX10_isRight_156 rfl ?_
                  refine wp_pick [0, 1, 2, 3, 4, 5] (lv' := [(0, _), (1, _), (2, _), (3, _), (4, _), (5, _)]) rfl ?_
                  exact ih v1 v2 0 (v4 + 0) (v5 + 1) I J r h
                · replace h := o_neg h c120
                  refine wp_aload_n dX10_isRight_123 0 rfl ?_
                  refine wp_getR (k := 55) (a' := ad 84) dX10_isRight_124 flX10_106 rfl rfl rfl rfl rfl ?_
                  refine wp_iload dX10_isRight_127 5 rfl ?_
                  obtain ⟨g129, h⟩ := o_grd h
                  refine wp_iald (k := 84) dX10_isRight_129 rfl rfl (inb_of g129) ?_
                  refine wp_aload_n dX10_isRight_130 0 rfl ?_
                  refine wp_getR (k := 55) (a' := ad 84) dX10_isRight_131 flX10_106 rfl rfl rfl rfl rfl ?_
                  refine wp_iload_n dX10_isRight_134 1 rfl ?_
                  obtain ⟨g135, h⟩ := o_grd h
                  refine wp_iald (k := 84) dX10_isRight_135 rfl rfl (inb_of g135) ?_
                  refine wp_icmp_eq 149 dX10_isRight_136 rfl (fun c136 => ?_) (fun c136 => ?_)
                  · replace h := o_pos h c136
                    refine wp_iconst (v := 0) dX10_isRight_149 (by decide) ?_
                    refine wp_iadd dX10_isRight_150 ?_
                    refine wp_istore (lv' := [(0, _), (1, _), (2, _), (3, _), (4, _), (5, _), (6, _)]) dX10_isRight_151 rfl rfl rfl ?_
                    refine wp_iinc (v := v5 + 1) (lv' := [(0, _), (1, _), (2, _), (3, _), (4, _), (5, _), (6, _)]) dX10_isRight_153 5 rfl rfl rfl rfl rfl ?_
                    refine wp_goto 40 dX10_isRight_156 rfl ?_
                    refine wp_pick [0, 1, 2, 3, 4, 5] (lv' := [(0, _), (1, _), (2, _), (3, _), (4, _), (5, _)]) rfl ?_
                    exact ih v1 v2 0 (v4 + 0) (v5 + 1) I J r h
                  · replace h := o_neg h c136
                    refine wp_aload_n dX10_isRight_139 0 rfl ?_
                    refine wp_getR (k := 55) (a' := ad 85) dX10_isRight_140 flX10_109 rfl rfl rfl rfl rfl ?_
                    refine wp_iload dX10_isRight_143 5 rfl ?_
                    obtain ⟨g145, h⟩ := o_grd h
                    refine wp_iald (k := 85) dX10_isRight_145 rfl rfl (inb_of g145) ?_
                    refine wp_goto 150 dX10_isRight_146 rfl ?_
                    refine wp_iadd dX10_isRight_150 ?_
                    refine wp_istore (lv' := [(0, _), (1, _), (2, _), (3, _), (4, _), (5, _), (6, _)]) dX10_isRight_151 rfl rfl rfl ?_
                    refine wp_iinc (v := v5 + 1) (lv' := [(0, _), (1, _), (2, _), (3, _), (4, _), (5, _), (6, _)]) dX10_isRight_153 5 rfl rfl rfl rfl rfl ?_
                    refine wp_goto 40 dX10_isRight_156 rfl ?_
                    refine wp_pick [0, 1, 2, 3, 4, 5] (lv' := [(0, _), (1, _), (2, _), (3, _), (4, _), (5, _)]) rfl ?_
                    exact ih v1 v2 0 (v4 + (I 85 v5.toNatClampNeg)) (v5 + 1) I J r h
              · replace h := o_neg h c107
                refine wp_iconst (v := 1) dX10_isRight_110 (by decide) ?_
                refine wp_goto 115 dX10_isRight_111 rfl ?_
                refine wp_istore_n (lv' := [(0, _), (1, _), (2, _), (3, _), (4, _), (5, _), (6, _)]) dX10_isRight_115 rfl rfl rfl rfl ?_
                refine wp_iload dX10_isRight_116 4 rfl ?_
                refine wp_iload dX10_isRight_118 6 rfl ?_
                refine wp_if_eq 149 dX10_isRight_120 rfl (fun c120 => ?_) (fun c120 => ?_)
                · replace h := o_pos h c120
                  refine wp_iconst (v := 0) dX10_isRight_149 (by decide) ?_
                  refine wp_iadd dX10_isRight_150 ?_
                  refine wp_istore (lv' := [(0, _), (1, _), (2, _), (3, _), (4, _), (5, _), (6, _)]) dX10_isRight_151 rfl rfl rfl ?_
                  refine wp_iinc (v := v5 + 1) (lv' := [(0, _), (1, _), (2, _), (3, _), (4, _), (5, _), (6, _)]) dX10_isRight_153 5 rfl rfl rfl rfl rfl ?_
                  refine wp_goto 40 dX10_isRight_156 rfl ?_
                  refine wp_pick [0, 1, 2, 3, 4, 5] (lv' := [(0, _), (1, _), (2, _), (3, _), (4, _), (5, _)]) rfl ?_
                  exact ih v1 v2 1 (v4 + 0) (v5 + 1) I J r h
                · replace h := o_neg h c120
                  refine wp_aload_n dX10_isRight_123 0 rfl ?_
                  refine wp_getR (k := 55) (a' := ad 84) dX10_isRight_124 flX10_106 rfl rfl rfl rfl rfl ?_
                  refine wp_iload dX10_isRight_127 5 rfl ?_
                  obtain ⟨g129, h⟩ := o_grd h
                  refine wp_iald (k := 84) dX10_isRight_129 rfl rfl (inb_of g129) ?_
                  refine wp_aload_n dX10_isRight_130 0 rfl ?_
                  refine wp_getR (k := 55) (a' := ad 84) dX10_isRight_131 flX10_106 rfl rfl rfl rfl rfl ?_
                  refine wp_iload_n dX10_isRight_134 1 rfl ?_
                  obtain ⟨g135, h⟩ := o_grd h
                  refine wp_iald (k := 84) dX10_isRight_135 rfl rfl (inb_of g135) ?_
                  refine wp_icmp_eq 149 dX10_isRight_136 rfl (fun c136 => ?_) (fun c136 => ?_)
                  · replace h := o_pos h c136
                    refine wp_iconst (v := 0) dX10_isRight_149 (by decide) ?_
                    refine wp_iadd dX10_isRight_150 ?_
                    refine wp_istore (lv' := [(0, _), (1, _), (2, _), (3, _), (4, _), (5, _), (6, _)]) dX10_isRight_151 rfl rfl rfl ?_
                    refine wp_iinc (v := v5 + 1) (lv' := [(0, _), (1, _), (2, _), (3, _), (4, _), (5, _), (6, _)]) dX10_isRight_153 5 rfl rfl rfl rfl rfl ?_
                    refine wp_goto 40 dX10_isRight_156 rfl ?_
                    refine wp_pick [0, 1, 2, 3, 4, 5] (lv' := [(0, _), (1, _), (2, _), (3, _), (4, _), (5, _)]) rfl ?_
                    exact ih v1 v2 1 (v4 + 0) (v5 + 1) I J r h
                  · replace h := o_neg h c136
                    refine wp_aload_n dX10_isRight_139 0 rfl ?_
                    refine wp_getR (k := 55) (a' := ad 85) dX10_isRight_140 flX10_109 rfl rfl rfl rfl rfl ?_
                    refine wp_iload dX10_isRight_143 5 rfl ?_
                    obtain ⟨g145, h⟩ := o_grd h
                    refine wp_iald (k := 85) dX10_isRight_145 rfl rfl (inb_of g145) ?_
                    refine wp_goto 150 dX10_isRight_146 rfl ?_
                    refine wp_iadd dX10_isRight_150 ?_
                    refine wp_istore (lv' := [(0, _), (1, _), (2, _), (3, _), (4, _), (5, _), (6, _)]) dX10_isRight_151 rfl rfl rfl ?_
                    refine wp_iinc (v := v5 + 1) (lv' := [(0, _), (1, _), (2, _), (3, _), (4, _), (5, _), (6, _)]) dX10_isRight_153 5 rfl rfl rfl rfl rfl ?_
                    refine wp_goto 40 dX10_isRight_156 rfl ?_
                    refine wp_pick [0, 1, 2, 3, 4, 5] (lv' := [(0, _), (1, _), (2, _), (3, _), (4, _), (5, _)]) rfl ?_
                    exact ih v1 v2 1 (v4 + (I 85 v5.toNatClampNeg)) (v5 + 1) I J r h
set_option maxRecDepth 100000 in
set_option maxHeartbeats 4000000 in
theorem c_X10_isRight (Γ : GT) (ad : Nat → Nat) (a1 : Int32) (I : IT) (J : JT) (r : Int32) (h : f_X10_isRight a1 I = some r) : CALL Γ mX10_isRight (0, 0) [.ref (ad 55), .int a1] (DX ad) I J (QE (some (.int r)) (DX ad) I J) := by
  refine call_of' (by decide) (Nat.le_of_ble_eq_true rfl) (lv0 := [(0, .ref (ad 55)), (1, .int a1)]) rfl ?_
  unfold f_X10_isRight at h
  refine wp_aload_n dX10_isRight_0 0 rfl ?_
  refine wp_getR (k := 55) (a' := ad 83) dX10_isRight_1 flX10_103 rfl rfl rfl rfl rfl ?_
  refine wp_iload_n dX10_isRight_4 1 rfl ?_
  obtain ⟨g5, h⟩ := o_grd h
  refine wp_iald (k := 83) dX10_isRight_5 rfl rfl (inb_of g5) ?_
  refine wp_istore_n (lv' := [(0, _), (1, _), (2, _)]) dX10_isRight_6 rfl rfl rfl rfl ?_
  refine wp_iload_n dX10_isRight_7 1 rfl ?_
  refine wp_if_eq 28 dX10_isRight_8 rfl (fun c8 => ?_) (fun c8 => ?_)
  · replace h := o_pos h c8
    refine wp_iconst (v := 1) dX10_isRight_28 (by decide) ?_
    refine wp_goto 33 dX10_isRight_29 rfl ?_
    refine wp_istore_n (lv' := [(0, _), (1, _), (2, _), (3, _)]) dX10_isRight_33 rfl rfl rfl rfl ?_
    refine wp_iconst (v := 0) dX10_isRight_34 (by decide) ?_
    refine wp_istore (lv' := [(0, _), (1, _), (2, _), (3, _), (4, _)]) dX10_isRight_35 rfl rfl rfl ?_
    refine wp_iconst (v := 0) dX10_isRight_37 (by decide) ?_
    refine wp_istore (lv' := [(0, _), (1, _), (2, _), (3, _), (4, _), (5, _)]) dX10_isRight_38 rfl rfl rfl ?_
    refine wp_pick [0, 1, 2, 3, 4, 5] (lv' := [(0, _), (1, _), (2, _), (3, _), (4, _), (5, _)]) rfl ?_
    exact w_X10_isRight_40 Γ ad FU a1 (I 83 a1.toNatClampNeg) 1 0 0 I J r h
  · replace h := o_neg h c8
    refine wp_aload_n dX10_isRight_11 0 rfl ?_
    refine wp_getR (k := 55) (a' := ad 82) dX10_isRight_12 flX10_100 rfl rfl rfl rfl rfl ?_
    refine wp_iload_n dX10_isRight_15 1 rfl ?_
    obtain ⟨g16, h⟩ := o_grd h
    refine wp_iald (k := 82) dX10_isRight_16 rfl rfl (inb_of g16) ?_
    refine wp_aload_n dX10_isRight_17 0 rfl ?_
    refine wp_getR (k := 55) (a' := ad 82) dX10_isRight_18 flX10_100 rfl rfl rfl rfl rfl ?_
    refine wp_iload_n dX10_isRight_21 1 rfl ?_
    refine wp_iconst (v := 1) dX10_isRight_22 (by decide) ?_
    refine wp_isub dX10_isRight_23 ?_
    obtain ⟨g24, h⟩ := o_grd h
    refine wp_iald (k := 82) dX10_isRight_24 rfl rfl (inb_of g24) ?_
    refine wp_icmp_lt 32 dX10_isRight_25 rfl (fun c25 => ?_) (fun c25 => ?_)
    · replace h := o_pos h c25
      refine wp_iconst (v := 0) dX10_isRight_32 (by decide) ?_
      refine wp_istore_n (lv' := [(0, _), (1, _), (2, _), (3, _)]) dX10_isRight_33 rfl rfl rfl rfl ?_
      refine wp_iconst (v := 0) dX10_isRight_34 (by decide) ?_
      refine wp_istore (lv' := [(0, _), (1, _), (2, _), (3, _), (4, _)]) dX10_isRight_35 rfl rfl rfl ?_
      refine wp_iconst (v := 0) dX10_isRight_37 (by decide) ?_
      refine wp_istore (lv' := [(0, _), (1, _), (2, _), (3, _), (4, _), (5, _)]) dX10_isRight_38 rfl rfl rfl ?_
      refine wp_pick [0, 1, 2, 3, 4, 5] (lv' := [(0, _), (1, _), (2, _), (3, _), (4, _), (5, _)]) rfl ?_
      exact w_X10_isRight_40 Γ ad FU a1 (I 83 a1.toNatClampNeg) 0 0 0 I J r h
    · replace h := o_neg h c25
      refine wp_iconst (v := 1) dX10_isRight_28 (by decide) ?_
      refine wp_goto 33 dX10_isRight_29 rfl ?_
      refine wp_istore_n (lv' := [(0, _), (1, _), (2, _), (3, _)]) dX10_isRight_33 rfl rfl rfl rfl ?_
      refine wp_iconst (v := 0) dX10_isRight_34 (by decide) ?_
      refine wp_istore (lv' := [(0, _), (1, _), (2, _), (3, _), (4, _)]) dX10_isRight_35 rfl rfl rfl ?_
      refine wp_iconst (v := 0) dX10_isRight_37 (by decide) ?_
      refine wp_istore (lv' := [(0, _), (1, _), (2, _), (3, _), (4, _), (5, _)]) dX10_isRight_38 rfl rfl rfl ?_
      refine wp_pick [0, 1, 2, 3, 4, 5] (lv' := [(0, _), (1, _), (2, _), (3, _), (4, _), (5, _)]) rfl ?_
      exact w_X10_isRight_40 Γ ad FU a1 (I 83 a1.toNatClampNeg) 1 0 0 I J r h
def f_X10_judge_2 : Nat → Int32 → IT → Option (Int32)
  | 0, _, _ => none
  | n + 1, v1, I =>
    if (I 55 47) ≤ v1 then
      some (-1)
    else
      (f_X10_isRight v1 I).bind fun r12 =>
      if r12 = 0 then
        some v1
      else
        f_X10_judge_2 n (v1 + 1) I
def f_X10_judge (I : IT) : Option (Int32) :=
  f_X10_judge_2 FU 0 I
set_option maxRecDepth 100000 in
set_option maxHeartbeats 4000000 in
theorem w_X10_judge_2 (Γ : GT) (ad : Nat → Nat) : ∀ (n : Nat) (v1 : Int32) (I : IT) (J : JT) (r : Int32), f_X10_judge_2 n v1 I = some r → WP Γ mX10_judge (0, 0) 2 [(0, .ref (ad 55)), (1, .int v1)] [] (DX ad) I J (QE (some (.int r)) (DX ad) I J) := by
  intro n
  induction n with
  | zero => intro v1 I J r h; exact absurd h (by simp [f_X10_judge_2])
  | succ n ih =>
    intro v1 I J r h
    rw [f_X10_judge_2] at h
    refine wp_iload_n dX10_judge_2 1 rfl ?_
    refine wp_aload_n dX10_judge_3 0 rfl ?_
    refine wp_getI (k := 55) dX10_judge_4 flX10_252 rfl rfl rfl rfl ?_
    refine wp_icmp_ge 26 dX10_judge_7 rfl (fun c7 => ?_) (fun c7 => ?_)
    · replace h := o_pos h c7
      refine wp_iconst (v := (-1)) dX10_judge_26 (by decide) ?_
      obtain rfl := Option.some.inj h
      exact wp_ireturn (ty := .int) dX10_judge_27 rfl rfl ⟨rfl, rfl, rfl, rfl⟩
    · replace h := o_neg h c7
      refine wp_aload_n dX10_judge_10 0 rfl ?_
      refine wp_iload_n dX10_judge_11 1 rfl ?_
      obtain ⟨r12, h12, h⟩ := o_bind h
      refine wp_callvI (k := 55) (ci := 10) (c_X10_isRight Γ ad v1 I J r12 h12) dX10_judge_12 mlX10_396 mwX10_isRight miX10_isRight rfl rfl rfl rfl (Nat.le_of_ble_eq_true rfl) rfl (by decide) (by decide) ?_
      refine wp_if_ne 20 dX10_judge_15 rfl (fun c15 => ?_) (fun c15 => ?_)
      · replace h := o_neg h c15
        refine wp_iinc (v := v1 + 1) (lv' := [(0, _), (1, _)]) dX10_judge_20 1 rfl rfl rfl rfl rfl ?_
        refine wp_goto 2 dX10_judge_23 rfl ?_
        refine wp_pick [0, 1] (lv' := [(0, _), (1, _)]) rfl ?_
        exact ih (v1 + 1) I J r h
      · replace h := o_pos h c15
        refine wp_iload_n dX10_judge_18 1 rfl ?_
        obtain rfl := Option.some.inj h
        exact wp_ireturn (ty := .int) dX10_judge_19 rfl rfl ⟨rfl, rfl, rfl, rfl⟩
set_option maxRecDepth 100000 in
set_option maxHeartbeats 4000000 in
theorem c_X10_judge (Γ : GT) (ad : Nat → Nat) (I : IT) (J : JT) (r : Int32) (h : f_X10_judge I = some r) : CALL Γ mX10_judge (0, 0) [.ref (ad 55)] (DX ad) I J (QE (some (.int r)) (DX ad) I J) := by
  refine call_of' (by decide) (Nat.le_of_ble_eq_true rfl) (lv0 := [(0, .ref (ad 55))]) rfl ?_
  unfold f_X10_judge at h
  refine wp_iconst (v := 0) dX10_judge_0 (by decide) ?_
  refine wp_istore_n (lv' := [(0, _), (1, _)]) dX10_judge_1 rfl rfl rfl rfl ?_
  refine wp_pick [0, 1] (lv' := [(0, _), (1, _)]) rfl ?_
  exact w_X10_judge_2 Γ ad FU 0 I J r h
def f_X10_seed (a1 : Int32) (I : IT) : Option (Int32 × IT) :=
  if 0 ≤ a1 then
    some (I 55 17, upI I 55 17 a1)
  else
    some ((-1000002), I)
set_option maxRecDepth 100000 in
set_option maxHeartbeats 4000000 in
theorem c_X10_seed (Γ : GT) (ad : Nat → Nat) (a1 : Int32) (I : IT) (J : JT) (r : Int32 × IT) (h : f_X10_seed a1 I = some r) : CALL Γ mX10_seed (0, 0) [.ref (ad 55), .int a1] (DX ad) I J (QE (some (.int r.1)) (DX ad) r.2 J) := by
  refine call_of' (by decide) (Nat.le_of_ble_eq_true rfl) (lv0 := [(0, .ref (ad 55)), (1, .int a1)]) rfl ?_
  unfold f_X10_seed at h
  refine wp_iload_n dX10_seed_0 1 rfl ?_
  refine wp_if_ge 7 dX10_seed_1 rfl (fun c1 => ?_) (fun c1 => ?_)
  · replace h := o_pos h c1
    refine wp_aload_n dX10_seed_7 0 rfl ?_
    refine wp_getI (k := 55) dX10_seed_8 flX10_316 rfl rfl rfl rfl ?_
    refine wp_istore_n (lv' := [(0, _), (1, _), (2, _)]) dX10_seed_11 rfl rfl rfl rfl ?_
    refine wp_aload_n dX10_seed_12 0 rfl ?_
    refine wp_iload_n dX10_seed_13 1 rfl ?_
    refine wp_putI (k := 55) dX10_seed_14 flX10_316 rfl rfl rfl rfl rfl rfl rfl rfl ?_
    refine wp_iload_n dX10_seed_17 2 rfl ?_
    obtain rfl := Option.some.inj h
    exact wp_ireturn (ty := .int) dX10_seed_18 rfl rfl ⟨rfl, rfl, rfl, rfl⟩
  · replace h := o_neg h c1
    refine wp_ldc (v := (-1000002)) dX10_seed_4 kcX10_143 ?_
    obtain rfl := Option.some.inj h
    exact wp_ireturn (ty := .int) dX10_seed_6 rfl rfl ⟨rfl, rfl, rfl, rfl⟩
def f_X10_keep_117 : Nat → Int32 → Int32 → Int32 → IT → Option (Int32 × IT)
  | 0, _, _, _, _ => none
  | n + 1, v1, v2, v3, I =>
    if (6 : Int32) ≤ v3 then
      if inbB (v2 + 208) 440 = true then
        if inbB (v2 + 209) 440 = true then
          if inbB v1 2 = true then
            (some (upI (upI (upI I 86 ((v2 + 208).toNatClampNeg) (I 55 16)) 86 ((v2 + 209).toNatClampNeg) ((upI I 86 ((v2 + 208).toNatClampNeg) (I 55 16)) 55 17)) 87 v1.toNatClampNeg (vp_nar .boolean 1))).bind fun i199 =>
            some (1, i199)
          else none
        else none
      else none
    else
      if inbB v3 6 = true then
        if inbB ((v2 + 196) + v3) 440 = true then
          if inbB v3 6 = true then
            if inbB ((v2 + 202) + v3) 440 = true then
              (some (upI (upI I 86 (((v2 + 196) + v3).toNatClampNeg) (I 64 v3.toNatClampNeg)) 86 (((v2 + 202) + v3).toNatClampNeg) ((upI I 86 (((v2 + 196) + v3).toNatClampNeg) (I 64 v3.toNatClampNeg)) 65 v3.toNatClampNeg))).bind fun i158 =>
              f_X10_keep_117 n v1 v2 (v3 + 1) i158
            else none
          else none
        else none
      else none
def f_X10_keep_67 : Nat → Int32 → Int32 → Int32 → IT → Option (Int32 × IT)
  | 0, _, _, _, _ => none
  | n + 1, v1, v2, v3, I =>
    if (14 : Int32) ≤ v3 then
      f_X10_keep_117 FU v1 v2 0 I
    else
      if inbB v3 14 = true then
        if inbB ((v2 + 168) + v3) 440 = true then
          if inbB v3 14 = true then
            if inbB ((v2 + 182) + v3) 440 = true then
              (some (upI (upI I 86 (((v2 + 168) + v3).toNatClampNeg) (I 61 v3.toNatClampNeg)) 86 (((v2 + 182) + v3).toNatClampNeg) ((upI I 86 (((v2 + 168) + v3).toNatClampNeg) (I 61 v3.toNatClampNeg)) 66 v3.toNatClampNeg))).bind fun i108 =>
              f_X10_keep_67 n v1 v2 (v3 + 1) i108
            else none
          else none
        else none
      else none
def f_X10_keep_22 : Nat → Int32 → Int32 → Int32 → IT → Option (Int32 × IT)
  | 0, _, _, _, _ => none
  | n + 1, v1, v2, v3, I =>
    if (84 : Int32) ≤ v3 then
      f_X10_keep_67 FU v1 v2 0 I
    else
      if inbB v3 84 = true then
        if inbB (v2 + v3) 440 = true then
          if inbB v3 84 = true then
            if inbB ((v2 + 84) + v3) 440 = true then
              (some (upI (upI I 86 ((v2 + v3).toNatClampNeg) (I 62 v3.toNatClampNeg)) 86 (((v2 + 84) + v3).toNatClampNeg) ((upI I 86 ((v2 + v3).toNatClampNeg) (I 62 v3.toNatClampNeg)) 63 v3.toNatClampNeg))).bind fun i58 =>
              f_X10_keep_22 n v1 v2 (v3 + 1) i58
            else none
          else none
        else none
      else none
def f_X10_keep (a1 : Int32) (I : IT) : Option (Int32 × IT) :=
  (f_X10_in a1.toInt64 0 1).bind fun r4 =>
  if r4 = 0 then
    some ((-1000001), I)
  else
    f_X10_keep_22 FU a1 (220 * a1) 0 I
set_option maxRecDepth 100000 in
set_option maxHeartbeats 4000000 in
theorem w_X10_keep_117 (Γ : GT) (ad : Nat → Nat) : ∀ (n : Nat) (v1 : Int32) (v2 : Int32) (v3 : Int32) (I : IT) (J : JT) (r : Int32 × IT), f_X10_keep_117 n v1 v2 v3 I = some r → WP Γ mX10_keep (0, 0) 117 [(0, .ref (ad 55)), (1, .int v1), (2, .int v2), (3, .int v3)] [] (DX ad) I J (QE (some (.int r.1)) (DX ad) r.2 J) := by
  intro n
  induction n with
  | zero => intro v1 v2 v3 I J r h; exact absurd h (by simp [f_X10_keep_117])
  | succ n ih =>
    intro v1 v2 v3 I J r h
    rw [f_X10_keep_117] at h
    refine wp_iload_n dX10_keep_117 3 rfl ?_
    refine wp_bipush (v := 6) dX10_keep_118 (by decide) ?_
    refine wp_icmp_ge 165 dX10_keep_120 rfl (fun c120 => ?_) (fun c120 => ?_)
    · replace h := o_pos h c120
      refine wp_aload_n dX10_keep_165 0 rfl ?_
      refine wp_getR (k := 55) (a' := ad 86) dX10_keep_166 flX10_112 rfl rfl rfl rfl rfl ?_
      refine wp_iload_n dX10_keep_169 2 rfl ?_
      refine wp_sipush (v := 208) dX10_keep_170 (by decide) ?_
      refine wp_iadd dX10_keep_173 ?_
      refine wp_aload_n dX10_keep_174 0 rfl ?_
      refine wp_getI (k := 55) dX10_keep_175 flX10_138 rfl rfl rfl rfl ?_
      obtain ⟨g178, h⟩ := o_grd h
      refine wp_iast (k := 86) dX10_keep_178 rfl rfl (inb_of g178) ?_
      refine wp_aload_n dX10_keep_179 0 rfl ?_
      refine wp_getR (k := 55) (a' := ad 86) dX10_keep_180 flX10_112 rfl rfl rfl rfl rfl ?_
      refine wp_iload_n dX10_keep_183 2 rfl ?_
      refine wp_sipush (v := 209) dX10_keep_184 (by decide) ?_
      refine wp_iadd dX10_keep_187 ?_
      refine wp_aload_n dX10_keep_188 0 rfl ?_
      refine wp_getI (k := 55) dX10_keep_189 flX10_316 rfl rfl rfl rfl ?_
      obtain ⟨g192, h⟩ := o_grd h
      refine wp_iast (k := 86) dX10_keep_192 rfl rfl (inb_of g192) ?_
      refine wp_aload_n dX10_keep_193 0 rfl ?_
      refine wp_getR (k := 55) (a' := ad 87) dX10_keep_194 flX10_115 rfl rfl rfl rfl rfl ?_
      refine wp_iload_n dX10_keep_197 1 rfl ?_
      refine wp_iconst (v := 1) dX10_keep_198 (by decide) ?_
      obtain ⟨g199, h⟩ := o_grd h
      obtain ⟨i199, e199, h⟩ := o_bind h
      refine wp_zast (k := 87) dX10_keep_199 rfl rfl (inb_of g199) ?_
      refine wp_stI (Option.some.inj e199) ?_
      refine wp_iconst (v := 1) dX10_keep_200 (by decide) ?_
      obtain rfl := Option.some.inj h
      exact wp_ireturn (ty := .int) dX10_keep_201 rfl rfl ⟨rfl, rfl, rfl, rfl⟩
    · replace h := o_neg h c120
      refine wp_aload_n dX10_keep_123 0 rfl ?_
      refine wp_getR (k := 55) (a' := ad 86) dX10_keep_124 flX10_112 rfl rfl rfl rfl rfl ?_
      refine wp_iload_n dX10_keep_127 2 rfl ?_
      refine wp_sipush (v := 196) dX10_keep_128 (by decide) ?_
      refine wp_iadd dX10_keep_131 ?_
      refine wp_iload_n dX10_keep_132 3 rfl ?_
      refine wp_iadd dX10_keep_133 ?_
      refine wp_aload_n dX10_keep_134 0 rfl ?_
      refine wp_getR (k := 55) (a' := ad 64) dX10_keep_135 flX10_41 rfl rfl rfl rfl rfl ?_
      refine wp_iload_n dX10_keep_138 3 rfl ?_
      obtain ⟨g139, h⟩ := o_grd h
      refine wp_iald (k := 64) dX10_keep_139 rfl rfl (inb_of g139) ?_
      obtain ⟨g140, h⟩ := o_grd h
      refine wp_iast (k := 86) dX10_keep_140 rfl rfl (inb_of g140) ?_
      refine wp_aload_n dX10_keep_141 0 rfl ?_
      refine wp_getR (k := 55) (a' := ad 86) dX10_keep_142 flX10_112 rfl rfl rfl rfl rfl ?_
      refine wp_iload_n dX10_keep_145 2 rfl ?_
      refine wp_sipush (v := 202) dX10_keep_146 (by decide) ?_
      refine wp_iadd dX10_keep_149 ?_
      refine wp_iload_n dX10_keep_150 3 rfl ?_
      refine wp_iadd dX10_keep_151 ?_
      refine wp_aload_n dX10_keep_152 0 rfl ?_
      refine wp_getR (k := 55) (a' := ad 65) dX10_keep_153 flX10_44 rfl rfl rfl rfl rfl ?_
      refine wp_iload_n dX10_keep_156 3 rfl ?_
      obtain ⟨g157, h⟩ := o_grd h
      refine wp_iald (k := 65) dX10_keep_157 rfl rfl (inb_of g157) ?_
      obtain ⟨g158, h⟩ := o_grd h
      obtain ⟨i158, e158, h⟩ := o_bind h
      refine wp_iast (k := 86) dX10_keep_158 rfl rfl (inb_of g158) ?_
      refine wp_stI (Option.some.inj e158) ?_
      refine wp_iinc (v := v3 + 1) (lv' := [(0, _), (1, _), (2, _), (3, _)]) dX10_keep_159 3 rfl rfl rfl rfl rfl ?_
      refine wp_goto 117 dX10_keep_162 rfl ?_
      refine wp_pick [0, 1, 2, 3] (lv' := [(0, _), (1, _), (2, _), (3, _)]) rfl ?_
      exact ih v1 v2 (v3 + 1) i158 J r h
set_option maxRecDepth 100000 in
set_option maxHeartbeats 4000000 in
theorem w_X10_keep_67 (Γ : GT) (ad : Nat → Nat) : ∀ (n : Nat) (v1 : Int32) (v2 : Int32) (v3 : Int32) (I : IT) (J : JT) (r : Int32 × IT), f_X10_keep_67 n v1 v2 v3 I = some r → WP Γ mX10_keep (0, 0) 67 [(0, .ref (ad 55)), (1, .int v1), (2, .int v2), (3, .int v3)] [] (DX ad) I J (QE (some (.int r.1)) (DX ad) r.2 J) := by
  intro n
  induction n with
  | zero => intro v1 v2 v3 I J r h; exact absurd h (by simp [f_X10_keep_67])
  | succ n ih =>
    intro v1 v2 v3 I J r h
    rw [f_X10_keep_67] at h
    refine wp_iload_n dX10_keep_67 3 rfl ?_
    refine wp_bipush (v := 14) dX10_keep_68 (by decide) ?_
    refine wp_icmp_ge 115 dX10_keep_70 rfl (fun c70 => ?_) (fun c70 => ?_)
    · replace h := o_pos h c70
      refine wp_iconst (v := 0) dX10_keep_115 (by decide) ?_
      refine wp_istore_n (lv' := [(0, _), (1, _), (2, _), (3, _)]) dX10_keep_116 rfl rfl rfl rfl ?_
      refine wp_pick [0, 1, 2, 3] (lv' := [(0, _), (1, _), (2, _), (3, _)]) rfl ?_
      exact w_X10_keep_117 Γ ad FU v1 v2 0 I J r h
    · replace h := o_neg h c70
      refine wp_aload_n dX10_keep_73 0 rfl ?_
      refine wp_getR (k := 55) (a' := ad 86) dX10_keep_74 flX10_112 rfl rfl rfl rfl rfl ?_
      refine wp_iload_n dX10_keep_77 2 rfl ?_
      refine wp_sipush (v := 168) dX10_keep_78 (by decide) ?_
      refine wp_iadd dX10_keep_81 ?_
      refine wp_iload_n dX10_keep_82 3 rfl ?_
      refine wp_iadd dX10_keep_83 ?_
      refine wp_aload_n dX10_keep_84 0 rfl ?_
      refine wp_getR (k := 55) (a' := ad 61) dX10_keep_85 flX10_32 rfl rfl rfl rfl rfl ?_
      refine wp_iload_n dX10_keep_88 3 rfl ?_
      obtain ⟨g89, h⟩ := o_grd h
      refine wp_iald (k := 61) dX10_keep_89 rfl rfl (inb_of g89) ?_
      obtain ⟨g90, h⟩ := o_grd h
      refine wp_iast (k := 86) dX10_keep_90 rfl rfl (inb_of g90) ?_
      refine wp_aload_n dX10_keep_91 0 rfl ?_
      refine wp_getR (k := 55) (a' := ad 86) dX10_keep_92 flX10_112 rfl rfl rfl rfl rfl ?_
      refine wp_iload_n dX10_keep_95 2 rfl ?_
      refine wp_sipush (v := 182) dX10_keep_96 (by decide) ?_
      refine wp_iadd dX10_keep_99 ?_
      refine wp_iload_n dX10_keep_100 3 rfl ?_
      refine wp_iadd dX10_keep_101 ?_
      refine wp_aload_n dX10_keep_102 0 rfl ?_
      refine wp_getR (k := 55) (a' := ad 66) dX10_keep_103 flX10_47 rfl rfl rfl rfl rfl ?_
      refine wp_iload_n dX10_keep_106 3 rfl ?_
      obtain ⟨g107, h⟩ := o_grd h
      refine wp_iald (k := 66) dX10_keep_107 rfl rfl (inb_of g107) ?_
      obtain ⟨g108, h⟩ := o_grd h
      obtain ⟨i108, e108, h⟩ := o_bind h
      refine wp_iast (k := 86) dX10_keep_108 rfl rfl (inb_of g108) ?_
      refine wp_stI (Option.some.inj e108) ?_
      refine wp_iinc (v := v3 + 1) (lv' := [(0, _), (1, _), (2, _), (3, _)]) dX10_keep_109 3 rfl rfl rfl rfl rfl ?_
      refine wp_goto 67 dX10_keep_112 rfl ?_
      refine wp_pick [0, 1, 2, 3] (lv' := [(0, _), (1, _), (2, _), (3, _)]) rfl ?_
      exact ih v1 v2 (v3 + 1) i108 J r h
set_option maxRecDepth 100000 in
set_option maxHeartbeats 4000000 in
theorem w_X10_keep_22 (Γ : GT) (ad : Nat → Nat) : ∀ (n : Nat) (v1 : Int32) (v2 : Int32) (v3 : Int32) (I : IT) (J : JT) (r : Int32 × IT), f_X10_keep_22 n v1 v2 v3 I = some r → WP Γ mX10_keep (0, 0) 22 [(0, .ref (ad 55)), (1, .int v1), (2, .int v2), (3, .int v3)] [] (DX ad) I J (QE (some (.int r.1)) (DX ad) r.2 J) := by
  intro n
  induction n with
  | zero => intro v1 v2 v3 I J r h; exact absurd h (by simp [f_X10_keep_22])
  | succ n ih =>
    intro v1 v2 v3 I J r h
    rw [f_X10_keep_22] at h
    refine wp_iload_n dX10_keep_22 3 rfl ?_
    refine wp_bipush (v := 84) dX10_keep_23 (by decide) ?_
    refine wp_icmp_ge 65 dX10_keep_25 rfl (fun c25 => ?_) (fun c25 => ?_)
    · replace h := o_pos h c25
      refine wp_iconst (v := 0) dX10_keep_65 (by decide) ?_
      refine wp_istore_n (lv' := [(0, _), (1, _), (2, _), (3, _)]) dX10_keep_66 rfl rfl rfl rfl ?_
      refine wp_pick [0, 1, 2, 3] (lv' := [(0, _), (1, _), (2, _), (3, _)]) rfl ?_
      exact w_X10_keep_67 Γ ad FU v1 v2 0 I J r h
    · replace h := o_neg h c25
      refine wp_aload_n dX10_keep_28 0 rfl ?_
      refine wp_getR (k := 55) (a' := ad 86) dX10_keep_29 flX10_112 rfl rfl rfl rfl rfl ?_
      refine wp_iload_n dX10_keep_32 2 rfl ?_
      refine wp_iload_n dX10_keep_33 3 rfl ?_
      refine wp_iadd dX10_keep_34 ?_
      refine wp_aload_n dX10_keep_35 0 rfl ?_
      refine wp_getR (k := 55) (a' := ad 62) dX10_keep_36 flX10_35 rfl rfl rfl rfl rfl ?_
      refine wp_iload_n dX10_keep_39 3 rfl ?_
      obtain ⟨g40, h⟩ := o_grd h
      refine wp_iald (k := 62) dX10_keep_40 rfl rfl (inb_of g40) ?_
      obtain ⟨g41, h⟩ := o_grd h
      refine wp_iast (k := 86) dX10_keep_41 rfl rfl (inb_of g41) ?_
      refine wp_aload_n dX10_keep_42 0 rfl ?_
      refine wp_getR (k := 55) (a' := ad 86) dX10_keep_43 flX10_112 rfl rfl rfl rfl rfl ?_
      refine wp_iload_n dX10_keep_46 2 rfl ?_
      refine wp_bipush (v := 84) dX10_keep_47 (by decide) ?_
      refine wp_iadd dX10_keep_49 ?_
      refine wp_iload_n dX10_keep_50 3 rfl ?_
      refine wp_iadd dX10_keep_51 ?_
      refine wp_aload_n dX10_keep_52 0 rfl ?_
      refine wp_getR (k := 55) (a' := ad 63) dX10_keep_53 flX10_38 rfl rfl rfl rfl rfl ?_
      refine wp_iload_n dX10_keep_56 3 rfl ?_
      obtain ⟨g57, h⟩ := o_grd h
      refine wp_iald (k := 63) dX10_keep_57 rfl rfl (inb_of g57) ?_
      obtain ⟨g58, h⟩ := o_grd h
      obtain ⟨i58, e58, h⟩ := o_bind h
      refine wp_iast (k := 86) dX10_keep_58 rfl rfl (inb_of g58) ?_
      refine wp_stI (Option.some.inj e58) ?_
      refine wp_iinc (v := v3 + 1) (lv' := [(0, _), (1, _), (2, _), (3, _)]) dX10_keep_59 3 rfl rfl rfl rfl rfl ?_
      refine wp_goto 22 dX10_keep_62 rfl ?_
      refine wp_pick [0, 1, 2, 3] (lv' := [(0, _), (1, _), (2, _), (3, _)]) rfl ?_
      exact ih v1 v2 (v3 + 1) i58 J r h
set_option maxRecDepth 100000 in
set_option maxHeartbeats 4000000 in
theorem c_X10_keep (Γ : GT) (ad : Nat → Nat) (a1 : Int32) (I : IT) (J : JT) (r : Int32 × IT) (h : f_X10_keep a1 I = some r) : CALL Γ mX10_keep (0, 0) [.ref (ad 55), .int a1] (DX ad) I J (QE (some (.int r.1)) (DX ad) r.2 J) := by
  refine call_of' (by decide) (Nat.le_of_ble_eq_true rfl) (lv0 := [(0, .ref (ad 55)), (1, .int a1)]) rfl ?_
  unfold f_X10_keep at h
  refine wp_iload_n dX10_keep_0 1 rfl ?_
  refine wp_i2l dX10_keep_1 ?_
  refine wp_lconst (v := 0) dX10_keep_2 (by decide) ?_
  refine wp_lconst (v := 1) dX10_keep_3 (by decide) ?_
  obtain ⟨r4, h4, h⟩ := o_bind h
  refine wp_callsI (c_X10_in Γ ad a1.toInt64 0 1 I J r4 h4) dX10_keep_4 mlX10_134 mwX10_in miX10_in rfl (Nat.le_of_ble_eq_true rfl) rfl (by decide) (by decide) ?_
  refine wp_if_ne 14 dX10_keep_7 rfl (fun c7 => ?_) (fun c7 => ?_)
  · replace h := o_neg h c7
    refine wp_sipush (v := 220) dX10_keep_14 (by decide) ?_
    refine wp_iload_n dX10_keep_17 1 rfl ?_
    refine wp_imul dX10_keep_18 ?_
    refine wp_istore_n (lv' := [(0, _), (1, _), (2, _)]) dX10_keep_19 rfl rfl rfl rfl ?_
    refine wp_iconst (v := 0) dX10_keep_20 (by decide) ?_
    refine wp_istore_n (lv' := [(0, _), (1, _), (2, _), (3, _)]) dX10_keep_21 rfl rfl rfl rfl ?_
    refine wp_pick [0, 1, 2, 3] (lv' := [(0, _), (1, _), (2, _), (3, _)]) rfl ?_
    exact w_X10_keep_22 Γ ad FU a1 (220 * a1) 0 I J r h
  · replace h := o_pos h c7
    refine wp_ldcw (v := (-1000001)) dX10_keep_10 kcX10_264 ?_
    obtain rfl := Option.some.inj h
    exact wp_ireturn (ty := .int) dX10_keep_13 rfl rfl ⟨rfl, rfl, rfl, rfl⟩
