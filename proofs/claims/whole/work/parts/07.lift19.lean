/-! lifted: X10_isFit X10_fits X10_addMoved X10_findSums X10_isSum X10_wentFor X10_wantsTo -/
def f_X10_isFit_5 : Nat → Int32 → Int32 → Int32 → Int32 → IT → Option (Int32)
  | 0, _, _, _, _, _ => none
  | n + 1, v1, v2, v3, v4, I =>
    if (I 55 40) ≤ v4 then
      if v3 = 0 ∨ v3 = 1 then some v3 else none
    else
      if inbB v4 10 = true then
        if (I 79 v4.toNatClampNeg) = 0 then
          (f_X10_plain v2).bind fun r31 =>
          if inbB v4 10 = true then
            if inbB v4 10 = true then
              if inbB v4 10 = true then
                if inbB v4 10 = true then
                  (f_X10_in r31.toInt64 (((I 77 v4.toNatClampNeg) - (I 78 v4.toNatClampNeg)).toInt64) (((I 77 v4.toNatClampNeg) + (I 78 v4.toNatClampNeg)).toInt64)).bind fun r71 =>
                  if r71 = 0 then
                    if v3 = 0 then
                      f_X10_isFit_5 n v1 v2 0 (v4 + 1) I
                    else
                      if inbB v4 10 = true then
                        if (I 76 v4.toNatClampNeg) = v1 then
                          if (0 : Int32) = 0 then
                            f_X10_isFit_5 n v1 v2 0 (v4 + 1) I
                          else
                            f_X10_isFit_5 n v1 v2 1 (v4 + 1) I
                        else
                          f_X10_isFit_5 n v1 v2 1 (v4 + 1) I
                      else none
                  else
                    if inbB v4 10 = true then
                      if (I 79 v4.toNatClampNeg) = 0 then
                        if v3 = 0 then
                          f_X10_isFit_5 n v1 v2 0 (v4 + 1) I
                        else
                          if inbB v4 10 = true then
                            if (I 76 v4.toNatClampNeg) = v1 then
                              if (1 : Int32) = 0 then
                                f_X10_isFit_5 n v1 v2 0 (v4 + 1) I
                              else
                                f_X10_isFit_5 n v1 v2 1 (v4 + 1) I
                            else
                              f_X10_isFit_5 n v1 v2 1 (v4 + 1) I
                          else none
                      else
                        if (v2 - v2 / 2 * 2) = (1 : Int32) then
                          if v3 = 0 then
                            f_X10_isFit_5 n v1 v2 0 (v4 + 1) I
                          else
                            if inbB v4 10 = true then
                              if (I 76 v4.toNatClampNeg) = v1 then
                                if (0 : Int32) = 0 then
                                  f_X10_isFit_5 n v1 v2 0 (v4 + 1) I
                                else
                                  f_X10_isFit_5 n v1 v2 1 (v4 + 1) I
                              else
                                f_X10_isFit_5 n v1 v2 1 (v4 + 1) I
                            else none
                        else
                          if v3 = 0 then
                            f_X10_isFit_5 n v1 v2 0 (v4 + 1) I
                          else
                            if inbB v4 10 = true then
                              if (I 76 v4.toNatClampNeg) = v1 then
                                if (1 : Int32) = 0 then
                                  f_X10_isFit_5 n v1 v2 0 (v4 + 1) I
                                else
                                  f_X10_isFit_5 n v1 v2 1 (v4 + 1) I
                              else
                                f_X10_isFit_5 n v1 v2 1 (v4 + 1) I
                            else none
                    else none
                else none
              else none
            else none
          else none
        else
          (f_X10_plain (v2 / 2)).bind fun r31 =>
          if inbB v4 10 = true then
            if inbB v4 10 = true then
              if inbB v4 10 = true then
                if inbB v4 10 = true then
                  (f_X10_in r31.toInt64 (((I 77 v4.toNatClampNeg) - (I 78 v4.toNatClampNeg)).toInt64) (((I 77 v4.toNatClampNeg) + (I 78 v4.toNatClampNeg)).toInt64)).bind fun r71 =>
                  if r71 = 0 then
                    if v3 = 0 then
                      f_X10_isFit_5 n v1 v2 0 (v4 + 1) I
                    else
                      if inbB v4 10 = true then
                        if (I 76 v4.toNatClampNeg) = v1 then
                          if (0 : Int32) = 0 then
                            f_X10_isFit_5 n v1 v2 0 (v4 + 1) I
                          else
                            f_X10_isFit_5 n v1 v2 1 (v4 + 1) I
                        else
                          f_X10_isFit_5 n v1 v2 1 (v4 + 1) I
                      else none
                  else
                    if inbB v4 10 = true then
                      if (I 79 v4.toNatClampNeg) = 0 then
                        if v3 = 0 then
                          f_X10_isFit_5 n v1 v2 0 (v4 + 1) I
                        else
                          if inbB v4 10 = true then
                            if (I 76 v4.toNatClampNeg) = v1 then
                              if (1 : Int32) = 0 then
                                f_X10_isFit_5 n v1 v2 0 (v4 + 1) I
                              else
                                f_X10_isFit_5 n v1 v2 1 (v4 + 1) I
                            else
                              f_X10_isFit_5 n v1 v2 1 (v4 + 1) I
                          else none
                      else
                        if (v2 - v2 / 2 * 2) = (1 : Int32) then
                          if v3 = 0 then
                            f_X10_isFit_5 n v1 v2 0 (v4 + 1) I
                          else
                            if inbB v4 10 = true then
                              if (I 76 v4.toNatClampNeg) = v1 then
                                if (0 : Int32) = 0 then
                                  f_X10_isFit_5 n v1 v2 0 (v4 + 1) I
                                else
                                  f_X10_isFit_5 n v1 v2 1 (v4 + 1) I
                              else
                                f_X10_isFit_5 n v1 v2 1 (v4 + 1) I
                            else none
                        else
                          if v3 = 0 then
                            f_X10_isFit_5 n v1 v2 0 (v4 + 1) I
                          else
                            if inbB v4 10 = true then
                              if (I 76 v4.toNatClampNeg) = v1 then
                                if (1 : Int32) = 0 then
                                  f_X10_isFit_5 n v1 v2 0 (v4 + 1) I
                                else
                                  f_X10_isFit_5 n v1 v2 1 (v4 + 1) I
                              else
                                f_X10_isFit_5 n v1 v2 1 (v4 + 1) I
                            else none
                    else none
                else none
              else none
            else none
          else none
      else none
def f_X10_isFit (a1 : Int32) (a2 : Int32) (I : IT) : Option (Int32) :=
  f_X10_isFit_5 FU a1 a2 1 0 I
set_option maxRecDepth 100000 in
set_option maxHeartbeats 4000000 in
theorem w_X10_isFit_5 (Γ : GT) (ad : Nat → Nat) : ∀ (n : Nat) (v1 : Int32) (v2 : Int32) (v3 : Int32) (v4 : Int32) (I : IT) (J : JT) (r : Int32), f_X10_isFit_5 n v1 v2 v3 v4 I = some r → WP Γ mX10_isFit (0, 0) 5 [(0, .ref (ad 55)), (1, .int v1), (2, .int v2), (3, .int v3), (4, .int v4)] [] (DX ad) I J (QE (some (.int r)) (DX ad) I J) := by
  intro n
  induction n with
  | zero => intro v1 v2 v3 v4 I J r h; exact absurd h (by simp [f_X10_isFit_5])
  | succ n ih =>
    intro v1 v2 v3 v4 I J r h
    rw [f_X10_isFit_5] at h
    refine wp_iload dX10_isFit_5 4 rfl ?_
    refine wp_aload_n dX10_isFit_7 0 rfl ?_
    refine wp_getI (k := 55) dX10_isFit_8 flX10_249 rfl rfl rfl rfl ?_
    refine wp_icmp_ge 133 dX10_isFit_11 rfl (fun c11 => ?_) (fun c11 => ?_)
    · replace h := o_pos h c11
      refine wp_iload_n dX10_isFit_133 3 rfl ?_
      obtain ⟨g134, h⟩ := o_grd h
      obtain rfl := Option.some.inj h
      exact wp_ireturn (ty := .boolean) dX10_isFit_134 rfl (isb_of g134) ⟨rfl, rfl, rfl, rfl⟩
    · replace h := o_neg h c11
      refine wp_aload_n dX10_isFit_14 0 rfl ?_
      refine wp_getR (k := 55) (a' := ad 79) dX10_isFit_15 flX10_89 rfl rfl rfl rfl rfl ?_
      refine wp_iload dX10_isFit_18 4 rfl ?_
      obtain ⟨g20, h⟩ := o_grd h
      refine wp_zald (k := 79) dX10_isFit_20 rfl rfl (inb_of g20) ?_
      refine wp_if_eq 30 dX10_isFit_21 rfl (fun c21 => ?_) (fun c21 => ?_)
      · replace h := o_pos h c21
        refine wp_iload_n dX10_isFit_30 2 rfl ?_
        obtain ⟨r31, h31, h⟩ := o_bind h
        refine wp_callsI (c_X10_plain Γ ad v2 I J r31 h31) dX10_isFit_31 mlX10_311 mwX10_plain miX10_plain rfl (Nat.le_of_ble_eq_true rfl) rfl (by decide) (by decide) ?_
        refine wp_istore (lv' := [(0, _), (1, _), (2, _), (3, _), (4, _), (5, _)]) dX10_isFit_34 rfl rfl rfl ?_
        refine wp_iload dX10_isFit_36 5 rfl ?_
        refine wp_i2l dX10_isFit_38 ?_
        refine wp_aload_n dX10_isFit_39 0 rfl ?_
        refine wp_getR (k := 55) (a' := ad 77) dX10_isFit_40 flX10_83 rfl rfl rfl rfl rfl ?_
        refine wp_iload dX10_isFit_43 4 rfl ?_
        obtain ⟨g45, h⟩ := o_grd h
        refine wp_iald (k := 77) dX10_isFit_45 rfl rfl (inb_of g45) ?_
        refine wp_aload_n dX10_isFit_46 0 rfl ?_
        refine wp_getR (k := 55) (a' := ad 78) dX10_isFit_47 flX10_86 rfl rfl rfl rfl rfl ?_
        refine wp_iload dX10_isFit_50 4 rfl ?_
        obtain ⟨g52, h⟩ := o_grd h
        refine wp_iald (k := 78) dX10_isFit_52 rfl rfl (inb_of g52) ?_
        refine wp_isub dX10_isFit_53 ?_
        refine wp_i2l dX10_isFit_54 ?_
        refine wp_aload_n dX10_isFit_55 0 rfl ?_
        refine wp_getR (k := 55) (a' := ad 77) dX10_isFit_56 flX10_83 rfl rfl rfl rfl rfl ?_
        refine wp_iload dX10_isFit_59 4 rfl ?_
        obtain ⟨g61, h⟩ := o_grd h
        refine wp_iald (k := 77) dX10_isFit_61 rfl rfl (inb_of g61) ?_
        refine wp_aload_n dX10_isFit_62 0 rfl ?_
        refine wp_getR (k := 55) (a' := ad 78) dX10_isFit_63 flX10_86 rfl rfl rfl rfl rfl ?_
        refine wp_iload dX10_isFit_66 4 rfl ?_
        obtain ⟨g68, h⟩ := o_grd h
        refine wp_iald (k := 78) dX10_isFit_68 rfl rfl (inb_of g68) ?_
        refine wp_iadd dX10_isFit_69 ?_
        refine wp_i2l dX10_isFit_70 ?_
        obtain ⟨r71, h71, h⟩ := o_bind h
        refine wp_callsI (c_X10_in Γ ad r31.toInt64 (((I 77 v4.toNatClampNeg) - (I 78 v4.toNatClampNeg)).toInt64) (((I 77 v4.toNatClampNeg) + (I 78 v4.toNatClampNeg)).toInt64) I J r71 h71) dX10_isFit_71 mlX10_134 mwX10_in miX10_in rfl (Nat.le_of_ble_eq_true rfl) rfl (by decide) (by decide) ?_
        refine wp_if_eq 98 dX10_isFit_74 rfl (fun c74 => ?_) (fun c74 => ?_)
        · replace h := o_pos h c74
          refine wp_iconst (v := 0) dX10_isFit_98 (by decide) ?_
          refine wp_istore (lv' := [(0, _), (1, _), (2, _), (3, _), (4, _), (5, _), (6, _)]) dX10_isFit_99 rfl rfl rfl ?_
          refine wp_iload_n dX10_isFit_101 3 rfl ?_
          refine wp_if_eq 125 dX10_isFit_102 rfl (fun c102 => ?_) (fun c102 => ?_)
          · replace h := o_pos h c102
            refine wp_iconst (v := 0) dX10_isFit_125 (by decide) ?_
            refine wp_istore_n (lv' := [(0, _), (1, _), (2, _), (3, _), (4, _), (5, _), (6, _)]) dX10_isFit_126 rfl rfl rfl rfl ?_
            refine wp_iinc (v := v4 + 1) (lv' := [(0, _), (1, _), (2, _), (3, _), (4, _), (5, _), (6, _)]) dX10_isFit_127 4 rfl rfl rfl rfl rfl ?_
            refine wp_goto 5 dX10_isFit_130 rfl ?_
            refine wp_pick [0, 1, 2, 3, 4] (lv' := [(0, _), (1, _), (2, _), (3, _), (4, _)]) rfl ?_
            exact ih v1 v2 0 (v4 + 1) I J r h
          · replace h := o_neg h c102
            refine wp_aload_n dX10_isFit_105 0 rfl ?_
            refine wp_getR (k := 55) (a' := ad 76) dX10_isFit_106 flX10_80 rfl rfl rfl rfl rfl ?_
            refine wp_iload dX10_isFit_109 4 rfl ?_
            obtain ⟨g111, h⟩ := o_grd h
            refine wp_iald (k := 76) dX10_isFit_111 rfl rfl (inb_of g111) ?_
            refine wp_iload_n dX10_isFit_112 1 rfl ?_
            refine wp_icmp_ne 121 dX10_isFit_113 rfl (fun c113 => ?_) (fun c113 => ?_)
            · replace h := o_neg h c113
              refine wp_iconst (v := 1) dX10_isFit_121 (by decide) ?_
              refine wp_goto 126 dX10_isFit_122 rfl ?_
              refine wp_istore_n (lv' := [(0, _), (1, _), (2, _), (3, _), (4, _), (5, _), (6, _)]) dX10_isFit_126 rfl rfl rfl rfl ?_
              refine wp_iinc (v := v4 + 1) (lv' := [(0, _), (1, _), (2, _), (3, _), (4, _), (5, _), (6, _)]) dX10_isFit_127 4 rfl rfl rfl rfl rfl ?_
              refine wp_goto 5 dX10_isFit_130 rfl ?_
              refine wp_pick [0, 1, 2, 3, 4] (lv' := [(0, _), (1, _), (2, _), (3, _), (4, _)]) rfl ?_
              exact ih v1 v2 1 (v4 + 1) I J r h
            · replace h := o_pos h c113
              refine wp_iload dX10_isFit_116 6 rfl ?_
              refine wp_if_eq 125 dX10_isFit_118 rfl (fun c118 => ?_) (fun c118 => ?_)
              · replace h := o_pos h c118
                refine wp_iconst (v := 0) dX10_isFit_125 (by decide) ?_
                refine wp_istore_n (lv' := [(0, _), (1, _), (2, _), (3, _), (4, _), (5, _), (6, _)]) dX10_isFit_126 rfl rfl rfl rfl ?_
                refine wp_iinc (v := v4 + 1) (lv' := [(0, _), (1, _), (2, _), (3, _), (4, _), (5, _), (6, _)]) dX10_isFit_127 4 rfl rfl rfl rfl rfl ?_
                refine wp_goto 5 dX10_isFit_130 rfl ?_
                refine wp_pick [0, 1, 2, 3, 4] (lv' := [(0, _), (1, _), (2, _), (3, _), (4, _)]) rfl ?_
                exact ih v1 v2 0 (v4 + 1) I J r h
              · replace h := o_neg h c118
                refine wp_iconst (v := 1) dX10_isFit_121 (by decide) ?_
                refine wp_goto 126 dX10_isFit_122 rfl ?_
                refine wp_istore_n (lv' := [(0, _), (1, _), (2, _), (3, _), (4, _), (5, _), (6, _)]) dX10_isFit_126 rfl rfl rfl rfl ?_
                refine wp_iinc (v := v4 + 1) (lv' := [(0, _), (1, _), (2, _), (3, _), (4, _), (5, _), (6, _)]) dX10_isFit_127 4 rfl rfl rfl rfl rfl ?_
                refine wp_goto 5 dX10_isFit_130 rfl ?_
                refine wp_pick [0, 1, 2, 3, 4] (lv' := [(0, _), (1, _), (2, _), (3, _), (4, _)]) rfl ?_
                exact ih v1 v2 1 (v4 + 1) I J r h
        · replace h := o_neg h c74
          refine wp_aload_n dX10_isFit_77 0 rfl ?_
          refine wp_getR (k := 55) (a' := ad 79) dX10_isFit_78 flX10_89 rfl rfl rfl rfl rfl ?_
          refine wp_iload dX10_isFit_81 4 rfl ?_
          obtain ⟨g83, h⟩ := o_grd h
          refine wp_zald (k := 79) dX10_isFit_83 rfl rfl (inb_of g83) ?_
          refine wp_if_eq 94 dX10_isFit_84 rfl (fun c84 => ?_) (fun c84 => ?_)
          · replace h := o_pos h c84
            refine wp_iconst (v := 1) dX10_isFit_94 (by decide) ?_
            refine wp_goto 99 dX10_isFit_95 rfl ?_
            refine wp_istore (lv' := [(0, _), (1, _), (2, _), (3, _), (4, _), (5, _), (6, _)]) dX10_isFit_99 rfl rfl rfl ?_
            refine wp_iload_n dX10_isFit_101 3 rfl ?_
            refine wp_if_eq 125 dX10_isFit_102 rfl (fun c102 => ?_) (fun c102 => ?_)
            · replace h := o_pos h c102
              refine wp_iconst (v := 0) dX10_isFit_125 (by decide) ?_
              refine wp_istore_n (lv' := [(0, _), (1, _), (2, _), (3, _), (4, _), (5, _), (6, _)]) dX10_isFit_126 rfl rfl rfl rfl ?_
              refine wp_iinc (v := v4 + 1) (lv' := [(0, _), (1, _), (2, _), (3, _), (4, _), (5, _), (6, _)]) dX10_isFit_127 4 rfl rfl rfl rfl rfl ?_
              refine wp_goto 5 dX10_isFit_130 rfl ?_
              refine wp_pick [0, 1, 2, 3, 4] (lv' := [(0, _), (1, _), (2, _), (3, _), (4, _)]) rfl ?_
              exact ih v1 v2 0 (v4 + 1) I J r h
            · replace h := o_neg h c102
              refine wp_aload_n dX10_isFit_105 0 rfl ?_
              refine wp_getR (k := 55) (a' := ad 76) dX10_isFit_106 flX10_80 rfl rfl rfl rfl rfl ?_
              refine wp_iload dX10_isFit_109 4 rfl ?_
              obtain ⟨g111, h⟩ := o_grd h
              refine wp_iald (k := 76) dX10_isFit_111 rfl rfl (inb_of g111) ?_
              refine wp_iload_n dX10_isFit_112 1 rfl ?_
              refine wp_icmp_ne 121 dX10_isFit_113 rfl (fun c113 => ?_) (fun c113 => ?_)
              · replace h := o_neg h c113
                refine wp_iconst (v := 1) dX10_isFit_121 (by decide) ?_
                refine wp_goto 126 dX10_isFit_122 rfl ?_
                refine wp_istore_n (lv' := [(0, _), (1, _), (2, _), (3, _), (4, _), (5, _), (6, _)]) dX10_isFit_126 rfl rfl rfl rfl ?_
                refine wp_iinc (v := v4 + 1) (lv' := [(0, _), (1, _), (2, _), (3, _), (4, _), (5, _), (6, _)]) dX10_isFit_127 4 rfl rfl rfl rfl rfl ?_
                refine wp_goto 5 dX10_isFit_130 rfl ?_
                refine wp_pick [0, 1, 2, 3, 4] (lv' := [(0, _), (1, _), (2, _), (3, _), (4, _)]) rfl ?_
                exact ih v1 v2 1 (v4 + 1) I J r h
              · replace h := o_pos h c113
                refine wp_iload dX10_isFit_116 6 rfl ?_
                refine wp_if_eq 125 dX10_isFit_118 rfl (fun c118 => ?_) (fun c118 => ?_)
                · replace h := o_pos h c118
                  refine wp_iconst (v := 0) dX10_isFit_125 (by decide) ?_
                  refine wp_istore_n (lv' := [(0, _), (1, _), (2, _), (3, _), (4, _), (5, _), (6, _)]) dX10_isFit_126 rfl rfl rfl rfl ?_
                  refine wp_iinc (v := v4 + 1) (lv' := [(0, _), (1, _), (2, _), (3, _), (4, _), (5, _), (6, _)]) dX10_isFit_127 4 rfl rfl rfl rfl rfl ?_
                  refine wp_goto 5 dX10_isFit_130 rfl ?_
                  refine wp_pick [0, 1, 2, 3, 4] (lv' := [(0, _), (1, _), (2, _), (3, _), (4, _)]) rfl ?_
                  exact ih v1 v2 0 (v4 + 1) I J r h
                · replace h := o_neg h c118
                  refine wp_iconst (v := 1) dX10_isFit_121 (by decide) ?_
                  refine wp_goto 126 dX10_isFit_122 rfl ?_
                  refine wp_istore_n (lv' := [(0, _), (1, _), (2, _), (3, _), (4, _), (5, _), (6, _)]) dX10_isFit_126 rfl rfl rfl rfl ?_
                  refine wp_iinc (v := v4 + 1) (lv' := [(0, _), (1, _), (2, _), (3, _), (4, _), (5, _), (6, _)]) dX10_isFit_127 4 rfl rfl rfl rfl rfl ?_
                  refine wp_goto 5 dX10_isFit_130 rfl ?_
                  refine wp_pick [0, 1, 2, 3, 4] (lv' := [(0, _), (1, _), (2, _), (3, _), (4, _)]) rfl ?_
                  exact ih v1 v2 1 (v4 + 1) I J r h
          · replace h := o_neg h c84
            refine wp_iload_n dX10_isFit_87 2 rfl ?_
            refine wp_iconst (v := 2) dX10_isFit_88 (by decide) ?_
            refine wp_irem dX10_isFit_89 (by decide) ?_
            refine wp_iconst (v := 1) dX10_isFit_90 (by decide) ?_
            refine wp_icmp_eq 98 dX10_isFit_91 rfl (fun c91 => ?_) (fun c91 => ?_)
            · replace h := o_pos h c91
              refine wp_iconst (v := 0) dX10_isFit_98 (by decide) ?_
              refine wp_istore (lv' := [(0, _), (1, _), (2, _), (3, _), (4, _), (5, _), (6, _)]) dX10_isFit_99 rfl rfl rfl ?_
              refine wp_iload_n dX10_isFit_101 3 rfl ?_
              refine wp_if_eq 125 dX10_isFit_102 rfl (fun c102 => ?_) (fun c102 => ?_)
              · replace h := o_pos h c102
                refine wp_iconst (v := 0) dX10_isFit_125 (by decide) ?_
                refine wp_istore_n (lv' := [(0, _), (1, _), (2, _), (3, _), (4, _), (5, _), (6, _)]) dX10_isFit_126 rfl rfl rfl rfl ?_
                refine wp_iinc (v := v4 + 1) (lv' := [(0, _), (1, _), (2, _), (3, _), (4, _), (5, _), (6, _)]) dX10_isFit_127 4 rfl rfl rfl rfl rfl ?_
                refine wp_goto 5 dX10_isFit_130 rfl ?_
                refine wp_pick [0, 1, 2, 3, 4] (lv' := [(0, _), (1, _), (2, _), (3, _), (4, _)]) rfl ?_
                exact ih v1 v2 0 (v4 + 1) I J r h
              · replace h := o_neg h c102
                refine wp_aload_n dX10_isFit_105 0 rfl ?_
                refine wp_getR (k := 55) (a' := ad 76) dX10_isFit_106 flX10_80 rfl rfl rfl rfl rfl ?_
                refine wp_iload dX10_isFit_109 4 rfl ?_
                obtain ⟨g111, h⟩ := o_grd h
                refine wp_iald (k := 76) dX10_isFit_111 rfl rfl (inb_of g111) ?_
                refine wp_iload_n dX10_isFit_112 1 rfl ?_
                refine wp_icmp_ne 121 dX10_isFit_113 rfl (fun c113 => ?_) (fun c113 => ?_)
                · replace h := o_neg h c113
                  refine wp_iconst (v := 1) dX10_isFit_121 (by decide) ?_
                  refine wp_goto 126 dX10_isFit_122 rfl ?_
                  refine wp_istore_n (lv' := [(0, _), (1, _), (2, _), (3, _), (4, _), (5, _), (6, _)]) dX10_isFit_126 rfl rfl rfl rfl ?_
                  refine wp_iinc (v := v4 + 1) (lv' := [(0, _), (1, _), (2, _), (3, _), (4, _), (5, _), (6, _)]) dX10_isFit_127 4 rfl rfl rfl rfl rfl ?_
                  refine wp_goto 5 dX10_isFit_130 rfl ?_
                  refine wp_pick [0, 1, 2, 3, 4] (lv' := [(0, _), (1, _), (2, _), (3, _), (4, _)]) rfl ?_
                  exact ih v1 v2 1 (v4 + 1) I J r h
                · replace h := o_pos h c113
                  refine wp_iload dX10_isFit_116 6 rfl ?_
                  refine wp_if_eq 125 dX10_isFit_118 rfl (fun c118 => ?_) (fun c118 => ?_)
                  · replace h := o_pos h c118
                    refine wp_iconst (v := 0) dX10_isFit_125 (by decide) ?_
                    refine wp_istore_n (lv' := [(0, _), (1, _), (2, _), (3, _), (4, _), (5, _), (6, _)]) dX10_isFit_126 rfl rfl rfl rfl ?_
                    refine wp_iinc (v := v4 + 1) (lv' := [(0, _), (1, _), (2, _), (3, _), (4, _), (5, _), (6, _)]) dX10_isFit_127 4 rfl rfl rfl rfl rfl ?_
                    refine wp_goto 5 dX10_isFit_130 rfl ?_
                    refine wp_pick [0, 1, 2, 3, 4] (lv' := [(0, _), (1, _), (2, _), (3, _), (4, _)]) rfl ?_
                    exact ih v1 v2 0 (v4 + 1) I J r h
                  · replace h := o_neg h c118
                    refine wp_iconst (v := 1) dX10_isFit_121 (by decide) ?_
                    refine wp_goto 126 dX10_isFit_122 rfl ?_
                    refine wp_istore_n (lv' := [(0, _), (1, _), (2, _), (3, _), (4, _), (5, _), (6, _)]) dX10_isFit_126 rfl rfl rfl rfl ?_
                    refine wp_iinc (v := v4 + 1) (lv' := [(0, _), (1, _), (2, _), (3, _), (4, _), (5, _), (6, _)]) dX10_isFit_127 4 rfl rfl rfl rfl rfl ?_
                    refine wp_goto 5 dX10_isFit_130 rfl ?_
                    refine wp_pick [0, 1, 2, 3, 4] (lv' := [(0, _), (1, _), (2, _), (3, _), (4, _)]) rfl ?_
                    exact ih v1 v2 1 (v4 + 1) I J r h
            · replace h := o_neg h c91
              refine wp_iconst (v := 1) dX10_isFit_94 (by decide) ?_
              refine wp_goto 99 dX10_isFit_95 rfl ?_
              refine wp_istore (lv' := [(0, _), (1, _), (2, _), (3, _), (4, _), (5, _), (6, _)]) dX10_isFit_99 rfl rfl rfl ?_
              refine wp_iload_n dX10_isFit_101 3 rfl ?_
              refine wp_if_eq 125 dX10_isFit_102 rfl (fun c102 => ?_) (fun c102 => ?_)
              · replace h := o_pos h c102
                refine wp_iconst (v := 0) dX10_isFit_125 (by decide) ?_
                refine wp_istore_n (lv' := [(0, _), (1, _), (2, _), (3, _), (4, _), (5, _), (6, _)]) dX10_isFit_126 rfl rfl rfl rfl ?_
                refine wp_iinc (v := v4 + 1) (lv' := [(0, _), (1, _), (2, _), (3, _), (4, _), (5, _), (6, _)]) dX10_isFit_127 4 rfl rfl rfl rfl rfl ?_
                refine wp_goto 5 dX10_isFit_130 rfl ?_
                refine wp_pick [0, 1, 2, 3, 4] (lv' := [(0, _), (1, _), (2, _), (3, _), (4, _)]) rfl ?_
                exact ih v1 v2 0 (v4 + 1) I J r h
              · replace h := o_neg h c102
                refine wp_aload_n dX10_isFit_105 0 rfl ?_
                refine wp_getR (k := 55) (a' := ad 76) dX10_isFit_106 flX10_80 rfl rfl rfl rfl rfl ?_
                refine wp_iload dX10_isFit_109 4 rfl ?_
                obtain ⟨g111, h⟩ := o_grd h
                refine wp_iald (k := 76) dX10_isFit_111 rfl rfl (inb_of g111) ?_
                refine wp_iload_n dX10_isFit_112 1 rfl ?_
                refine wp_icmp_ne 121 dX10_isFit_113 rfl (fun c113 => ?_) (fun c113 => ?_)
                · replace h := o_neg h c113
                  refine wp_iconst (v := 1) dX10_isFit_121 (by decide) ?_
                  refine wp_goto 126 dX10_isFit_122 rfl ?_
                  refine wp_istore_n (lv' := [(0, _), (1, _), (2, _), (3, _), (4, _), (5, _), (6, _)]) dX10_isFit_126 rfl rfl rfl rfl ?_
                  refine wp_iinc (v := v4 + 1) (lv' := [(0, _), (1, _), (2, _), (3, _), (4, _), (5, _), (6, _)]) dX10_isFit_127 4 rfl rfl rfl rfl rfl ?_
                  refine wp_goto 5 dX10_isFit_130 rfl ?_
                  refine wp_pick [0, 1, 2, 3, 4] (lv' := [(0, _), (1, _), (2, _), (3, _), (4, _)]) rfl ?_
                  exact ih v1 v2 1 (v4 + 1) I J r h
                · replace h := o_pos h c113
                  refine wp_iload dX10_isFit_116 6 rfl ?_
                  refine wp_if_eq 125 dX10_isFit_118 rfl (fun c118 => ?_) (fun c118 => ?_)
                  · replace h := o_pos h c118
                    refine wp_iconst (v := 0) dX10_isFit_125 (by decide) ?_
                    refine wp_istore_n (lv' := [(0, _), (1, _), (2, _), (3, _), (4, _), (5, _), (6, _)]) dX10_isFit_126 rfl rfl rfl rfl ?_
                    refine wp_iinc (v := v4 + 1) (lv' := [(0, _), (1, _), (2, _), (3, _), (4, _), (5, _), (6, _)]) dX10_isFit_127 4 rfl rfl rfl rfl rfl ?_
                    refine wp_goto 5 dX10_isFit_130 rfl ?_
                    refine wp_pick [0, 1, 2, 3, 4] (lv' := [(0, _), (1, _), (2, _), (3, _), (4, _)]) rfl ?_
                    exact ih v1 v2 0 (v4 + 1) I J r h
                  · replace h := o_neg h c118
                    refine wp_iconst (v := 1) dX10_isFit_121 (by decide) ?_
                    refine wp_goto 126 dX10_isFit_122 rfl ?_
                    refine wp_istore_n (lv' := [(0, _), (1, _), (2, _), (3, _), (4, _), (5, _), (6, _)]) dX10_isFit_126 rfl rfl rfl rfl ?_
                    refine wp_iinc (v := v4 + 1) (lv' := [(0, _), (1, _), (2, _), (3, _), (4, _), (5, _), (6, _)]) dX10_isFit_127 4 rfl rfl rfl rfl rfl ?_
                    refine wp_goto 5 dX10_isFit_130 rfl ?_
                    refine wp_pick [0, 1, 2, 3, 4] (lv' := [(0, _), (1, _), (2, _), (3, _), (4, _)]) rfl ?_
                    exact ih v1 v2 1 (v4 + 1) I J r h
      · replace h := o_neg h c21
        refine wp_iload_n dX10_isFit_24 2 rfl ?_
        refine wp_iconst (v := 2) dX10_isFit_25 (by decide) ?_
        refine wp_idiv dX10_isFit_26 (by decide) ?_
        refine wp_goto 31 dX10_isFit_27 rfl ?_
        obtain ⟨r31, h31, h⟩ := o_bind h
        refine wp_callsI (c_X10_plain Γ ad (v2 / 2) I J r31 h31) dX10_isFit_31 mlX10_311 mwX10_plain miX10_plain rfl (Nat.le_of_ble_eq_true rfl) rfl (by decide) (by decide) ?_
        refine wp_istore (lv' := [(0, _), (1, _), (2, _), (3, _), (4, _), (5, _)]) dX10_isFit_34 rfl rfl rfl ?_
        refine wp_iload dX10_isFit_36 5 rfl ?_
        refine wp_i2l dX10_isFit_38 ?_
        refine wp_aload_n dX10_isFit_39 0 rfl ?_
        refine wp_getR (k := 55) (a' := ad 77) dX10_isFit_40 flX10_83 rfl rfl rfl rfl rfl ?_
        refine wp_iload dX10_isFit_43 4 rfl ?_
        obtain ⟨g45, h⟩ := o_grd h
        refine wp_iald (k := 77) dX10_isFit_45 rfl rfl (inb_of g45) ?_
        refine wp_aload_n dX10_isFit_46 0 rfl ?_
        refine wp_getR (k := 55) (a' := ad 78) dX10_isFit_47 flX10_86 rfl rfl rfl rfl rfl ?_
        refine wp_iload dX10_isFit_50 4 rfl ?_
        obtain ⟨g52, h⟩ := o_grd h
        refine wp_iald (k := 78) dX10_isFit_52 rfl rfl (inb_of g52) ?_
        refine wp_isub dX10_isFit_53 ?_
        refine wp_i2l dX10_isFit_54 ?_
        refine wp_aload_n dX10_isFit_55 0 rfl ?_
        refine wp_getR (k := 55) (a' := ad 77) dX10_isFit_56 flX10_83 rfl rfl rfl rfl rfl ?_
        refine wp_iload dX10_isFit_59 4 rfl ?_
        obtain ⟨g61, h⟩ := o_grd h
        refine wp_iald (k := 77) dX10_isFit_61 rfl rfl (inb_of g61) ?_
        refine wp_aload_n dX10_isFit_62 0 rfl ?_
        refine wp_getR (k := 55) (a' := ad 78) dX10_isFit_63 flX10_86 rfl rfl rfl rfl rfl ?_
        refine wp_iload dX10_isFit_66 4 rfl ?_
        obtain ⟨g68, h⟩ := o_grd h
        refine wp_iald (k := 78) dX10_isFit_68 rfl rfl (inb_of g68) ?_
        refine wp_iadd dX10_isFit_69 ?_
        refine wp_i2l dX10_isFit_70 ?_
        obtain ⟨r71, h71, h⟩ := o_bind h
        refine wp_callsI (c_X10_in Γ ad r31.toInt64 (((I 77 v4.toNatClampNeg) - (I 78 v4.toNatClampNeg)).toInt64) (((I 77 v4.toNatClampNeg) + (I 78 v4.toNatClampNeg)).toInt64) I J r71 h71) dX10_isFit_71 mlX10_134 mwX10_in miX10_in rfl (Nat.le_of_ble_eq_true rfl) rfl (by decide) (by decide) ?_
        refine wp_if_eq 98 dX10_isFit_74 rfl (fun c74 => ?_) (fun c74 => ?_)
        · replace h := o_pos h c74
          refine wp_iconst (v := 0) dX10_isFit_98 (by decide) ?_
          refine wp_istore (lv' := [(0, _), (1, _), (2, _), (3, _), (4, _), (5, _), (6, _)]) dX10_isFit_99 rfl rfl rfl ?_
          refine wp_iload_n dX10_isFit_101 3 rfl ?_
          refine wp_if_eq 125 dX10_isFit_102 rfl (fun c102 => ?_) (fun c102 => ?_)
          · replace h := o_pos h c102
            refine wp_iconst (v := 0) dX10_isFit_125 (by decide) ?_
            refine wp_istore_n (lv' := [(0, _), (1, _), (2, _), (3, _), (4, _), (5, _), (6, _)]) dX10_isFit_126 rfl rfl rfl rfl ?_
            refine wp_iinc (v := v4 + 1) (lv' := [(0, _), (1, _), (2, _), (3, _), (4, _), (5, _), (6, _)]) dX10_isFit_127 4 rfl rfl rfl rfl rfl ?_
            refine wp_goto 5 dX10_isFit_130 rfl ?_
            refine wp_pick [0, 1, 2, 3, 4] (lv' := [(0, _), (1, _), (2, _), (3, _), (4, _)]) rfl ?_
            exact ih v1 v2 0 (v4 + 1) I J r h
          · replace h := o_neg h c102
            refine wp_aload_n dX10_isFit_105 0 rfl ?_
            refine wp_getR (k := 55) (a' := ad 76) dX10_isFit_106 flX10_80 rfl rfl rfl rfl rfl ?_
            refine wp_iload dX10_isFit_109 4 rfl ?_
            obtain ⟨g111, h⟩ := o_grd h
            refine wp_iald (k := 76) dX10_isFit_111 rfl rfl (inb_of g111) ?_
            refine wp_iload_n dX10_isFit_112 1 rfl ?_
            refine wp_icmp_ne 121 dX10_isFit_113 rfl (fun c113 => ?_) (fun c113 => ?_)
            · replace h := o_neg h c113
              refine wp_iconst (v := 1) dX10_isFit_121 (by decide) ?_
              refine wp_goto 126 dX10_isFit_122 rfl ?_
              refine wp_istore_n (lv' := [(0, _), (1, _), (2, _), (3, _), (4, _), (5, _), (6, _)]) dX10_isFit_126 rfl rfl rfl rfl ?_
              refine wp_iinc (v := v4 + 1) (lv' := [(0, _), (1, _), (2, _), (3, _), (4, _), (5, _), (6, _)]) dX10_isFit_127 4 rfl rfl rfl rfl rfl ?_
              refine wp_goto 5 dX10_isFit_130 rfl ?_
              refine wp_pick [0, 1, 2, 3, 4] (lv' := [(0, _), (1, _), (2, _), (3, _), (4, _)]) rfl ?_
              exact ih v1 v2 1 (v4 + 1) I J r h
            · replace h := o_pos h c113
              refine wp_iload dX10_isFit_116 6 rfl ?_
              refine wp_if_eq 125 dX10_isFit_118 rfl (fun c118 => ?_) (fun c118 => ?_)
              · replace h := o_pos h c118
                refine wp_iconst (v := 0) dX10_isFit_125 (by decide) ?_
                refine wp_istore_n (lv' := [(0, _), (1, _), (2, _), (3, _), (4, _), (5, _), (6, _)]) dX10_isFit_126 rfl rfl rfl rfl ?_
                refine wp_iinc (v := v4 + 1) (lv' := [(0, _), (1, _), (2, _), (3, _), (4, _), (5, _), (6, _)]) dX10_isFit_127 4 rfl rfl rfl rfl rfl ?_
                refine wp_goto 5 dX10_isFit_130 rfl ?_
                refine wp_pick [0, 1, 2, 3, 4] (lv' := [(0, _), (1, _), (2, _), (3, _), (4, _)]) rfl ?_
                exact ih v1 v2 0 (v4 + 1) I J r h
              · replace h := o_neg h c118
                refine wp_iconst (v := 1) dX10_isFit_121 (by decide) ?_
                refine wp_goto 126 dX10_isFit_122 rfl ?_
                refine wp_istore_n (lv' := [(0, _), (1, _), (2, _), (3, _), (4, _), (5, _), (6, _)]) dX10_isFit_126 rfl rfl rfl rfl ?_
                refine wp_iinc (v := v4 + 1) (lv' := [(0, _), (1, _), (2, _), (3, _), (4, _), (5, _), (6, _)]) dX10_isFit_127 4 rfl rfl rfl rfl rfl ?_
                refine wp_goto 5 dX10_isFit_130 rfl ?_
                refine wp_pick [0, 1, 2, 3, 4] (lv' := [(0, _), (1, _), (2, _), (3, _), (4, _)]) rfl ?_
                exact ih v1 v2 1 (v4 + 1) I J r h
        · replace h := o_neg h c74
          refine wp_aload_n dX10_isFit_77 0 rfl ?_
          refine wp_getR (k := 55) (a' := ad 79) dX10_isFit_78 flX10_89 rfl rfl rfl rfl rfl ?_
          refine wp_iload dX10_isFit_81 4 rfl ?_
          obtain ⟨g83, h⟩ := o_grd h
          refine wp_zald (k := 79) dX10_isFit_83 rfl rfl (inb_of g83) ?_
          refine wp_if_eq 94 dX10_isFit_84 rfl (fun c84 => ?_) (fun c84 => ?_)
          · replace h := o_pos h c84
            refine wp_iconst (v := 1) dX10_isFit_94 (by decide) ?_
            refine wp_goto 99 dX10_isFit_95 rfl ?_
            refine wp_istore (lv' := [(0, _), (1, _), (2, _), (3, _), (4, _), (5, _), (6, _)]) dX10_isFit_99 rfl rfl rfl ?_
            refine wp_iload_n dX10_isFit_101 3 rfl ?_
            refine wp_if_eq 125 dX10_isFit_102 rfl (fun c102 => ?_) (fun c102 => ?_)
            · replace h := o_pos h c102
              refine wp_iconst (v := 0) dX10_isFit_125 (by decide) ?_
              refine wp_istore_n (lv' := [(0, _), (1, _), (2, _), (3, _), (4, _), (5, _), (6, _)]) dX10_isFit_126 rfl rfl rfl rfl ?_
              refine wp_iinc (v := v4 + 1) (lv' := [(0, _), (1, _), (2, _), (3, _), (4, _), (5, _), (6, _)]) dX10_isFit_127 4 rfl rfl rfl rfl rfl ?_
              refine wp_goto 5 dX10_isFit_130 rfl ?_
              refine wp_pick [0, 1, 2, 3, 4] (lv' := [(0, _), (1, _), (2, _), (3, _), (4, _)]) rfl ?_
              exact ih v1 v2 0 (v4 + 1) I J r h
            · replace h := o_neg h c102
              refine wp_aload_n dX10_isFit_105 0 rfl ?_
              refine wp_getR (k := 55) (a' := ad 76) dX10_isFit_106 flX10_80 rfl rfl rfl rfl rfl ?_
              refine wp_iload dX10_isFit_109 4 rfl ?_
              obtain ⟨g111, h⟩ := o_grd h
              refine wp_iald (k := 76) dX10_isFit_111 rfl rfl (inb_of g111) ?_
              refine wp_iload_n dX10_isFit_112 1 rfl ?_
              refine wp_icmp_ne 121 dX10_isFit_113 rfl (fun c113 => ?_) (fun c113 => ?_)
              · replace h := o_neg h c113
                refine wp_iconst (v := 1) dX10_isFit_121 (by decide) ?_
                refine wp_goto 126 dX10_isFit_122 rfl ?_
                refine wp_istore_n (lv' := [(0, _), (1, _), (2, _), (3, _), (4, _), (5, _), (6, _)]) dX10_isFit_126 rfl rfl rfl rfl ?_
                refine wp_iinc (v := v4 + 1) (lv' := [(0, _), (1, _), (2, _), (3, _), (4, _), (5, _), (6, _)]) dX10_isFit_127 4 rfl rfl rfl rfl rfl ?_
                refine wp_goto 5 dX10_isFit_130 rfl ?_
                refine wp_pick [0, 1, 2, 3, 4] (lv' := [(0, _), (1, _), (2, _), (3, _), (4, _)]) rfl ?_
                exact ih v1 v2 1 (v4 + 1) I J r h
              · replace h := o_pos h c113
                refine wp_iload dX10_isFit_116 6 rfl ?_
                refine wp_if_eq 125 dX10_isFit_118 rfl (fun c118 => ?_) (fun c118 => ?_)
                · replace h := o_pos h c118
                  refine wp_iconst (v := 0) dX10_isFit_125 (by decide) ?_
                  refine wp_istore_n (lv' := [(0, _), (1, _), (2, _), (3, _), (4, _), (5, _), (6, _)]) dX10_isFit_126 rfl rfl rfl rfl ?_
                  refine wp_iinc (v := v4 + 1) (lv' := [(0, _), (1, _), (2, _), (3, _), (4, _), (5, _), (6, _)]) dX10_isFit_127 4 rfl rfl rfl rfl rfl ?_
                  refine wp_goto 5 dX10_isFit_130 rfl ?_
                  refine wp_pick [0, 1, 2, 3, 4] (lv' := [(0, _), (1, _), (2, _), (3, _), (4, _)]) rfl ?_
                  exact ih v1 v2 0 (v4 + 1) I J r h
                · replace h := o_neg h c118
                  refine wp_iconst (v := 1) dX10_isFit_121 (by decide) ?_
                  refine wp_goto 126 dX10_isFit_122 rfl ?_
                  refine wp_istore_n (lv' := [(0, _), (1, _), (2, _), (3, _), (4, _), (5, _), (6, _)]) dX10_isFit_126 rfl rfl rfl rfl ?_
                  refine wp_iinc (v := v4 + 1) (lv' := [(0, _), (1, _), (2, _), (3, _), (4, _), (5, _), (6, _)]) dX10_isFit_127 4 rfl rfl rfl rfl rfl ?_
                  refine wp_goto 5 dX10_isFit_130 rfl ?_
                  refine wp_pick [0, 1, 2, 3, 4] (lv' := [(0, _), (1, _), (2, _), (3, _), (4, _)]) rfl ?_
                  exact ih v1 v2 1 (v4 + 1) I J r h
          · replace h := o_neg h c84
            refine wp_iload_n dX10_isFit_87 2 rfl ?_
            refine wp_iconst (v := 2) dX10_isFit_88 (by decide) ?_
            refine wp_irem dX10_isFit_89 (by decide) ?_
            refine wp_iconst (v := 1) dX10_isFit_90 (by decide) ?_
            refine wp_icmp_eq 98 dX10_isFit_91 rfl (fun c91 => ?_) (fun c91 => ?_)
            · replace h := o_pos h c91
              refine wp_iconst (v := 0) dX10_isFit_98 (by decide) ?_
              refine wp_istore (lv' := [(0, _), (1, _), (2, _), (3, _), (4, _), (5, _), (6, _)]) dX10_isFit_99 rfl rfl rfl ?_
              refine wp_iload_n dX10_isFit_101 3 rfl ?_
              refine wp_if_eq 125 dX10_isFit_102 rfl (fun c102 => ?_) (fun c102 => ?_)
              · replace h := o_pos h c102
                refine wp_iconst (v := 0) dX10_isFit_125 (by decide) ?_
                refine wp_istore_n (lv' := [(0, _), (1, _), (2, _), (3, _), (4, _), (5, _), (6, _)]) dX10_isFit_126 rfl rfl rfl rfl ?_
                refine wp_iinc (v := v4 + 1) (lv' := [(0, _), (1, _), (2, _), (3, _), (4, _), (5, _), (6, _)]) dX10_isFit_127 4 rfl rfl rfl rfl rfl ?_
                refine wp_goto 5 dX10_isFit_130 rfl ?_
                refine wp_pick [0, 1, 2, 3, 4] (lv' := [(0, _), (1, _), (2, _), (3, _), (4, _)]) rfl ?_
                exact ih v1 v2 0 (v4 + 1) I J r h
              · replace h := o_neg h c102
                refine wp_aload_n dX10_isFit_105 0 rfl ?_
                refine wp_getR (k := 55) (a' := ad 76) dX10_isFit_106 flX10_80 rfl rfl rfl rfl rfl ?_
                refine wp_iload dX10_isFit_109 4 rfl ?_
                obtain ⟨g111, h⟩ := o_grd h
                refine wp_iald (k := 76) dX10_isFit_111 rfl rfl (inb_of g111) ?_
                refine wp_iload_n dX10_isFit_112 1 rfl ?_
                refine wp_icmp_ne 121 dX10_isFit_113 rfl (fun c113 => ?_) (fun c113 => ?_)
                · replace h := o_neg h c113
                  refine wp_iconst (v := 1) dX10_isFit_121 (by decide) ?_
                  refine wp_goto 126 dX10_isFit_122 rfl ?_
                  refine wp_istore_n (lv' := [(0, _), (1, _), (2, _), (3, _), (4, _), (5, _), (6, _)]) dX10_isFit_126 rfl rfl rfl rfl ?_
                  refine wp_iinc (v := v4 + 1) (lv' := [(0, _), (1, _), (2, _), (3, _), (4, _), (5, _), (6, _)]) dX10_isFit_127 4 rfl rfl rfl rfl rfl ?_
                  refine wp_goto 5 dX10_isFit_130 rfl ?_
                  refine wp_pick [0, 1, 2, 3, 4] (lv' := [(0, _), (1, _), (2, _), (3, _), (4, _)]) rfl ?_
                  exact ih v1 v2 1 (v4 + 1) I J r h
                · replace h := o_pos h c113
                  refine wp_iload dX10_isFit_116 6 rfl ?_
                  refine wp_if_eq 125 dX10_isFit_118 rfl (fun c118 => ?_) (fun c118 => ?_)
                  · replace h := o_pos h c118
                    refine wp_iconst (v := 0) dX10_isFit_125 (by decide) ?_
                    refine wp_istore_n (lv' := [(0, _), (1, _), (2, _), (3, _), (4, _), (5, _), (6, _)]) dX10_isFit_126 rfl rfl rfl rfl ?_
                    refine wp_iinc (v := v4 + 1) (lv' := [(0, _), (1, _), (2, _), (3, _), (4, _), (5, _), (6, _)]) dX10_isFit_127 4 rfl rfl rfl rfl rfl ?_
                    refine wp_goto 5 dX10_isFit_130 rfl ?_
                    refine wp_pick [0, 1, 2, 3, 4] (lv' := [(0, _), (1, _), (2, _), (3, _), (4, _)]) rfl ?_
                    exact ih v1 v2 0 (v4 + 1) I J r h
                  · replace h := o_neg h c118
                    refine wp_iconst (v := 1) dX10_isFit_121 (by decide) ?_
                    refine wp_goto 126 dX10_isFit_122 rfl ?_
                    refine wp_istore_n (lv' := [(0, _), (1, _), (2, _), (3, _), (4, _), (5, _), (6, _)]) dX10_isFit_126 rfl rfl rfl rfl ?_
                    refine wp_iinc (v := v4 + 1) (lv' := [(0, _), (1, _), (2, _), (3, _), (4, _), (5, _), (6, _)]) dX10_isFit_127 4 rfl rfl rfl rfl rfl ?_
                    refine wp_goto 5 dX10_isFit_130 rfl ?_
                    refine wp_pick [0, 1, 2, 3, 4] (lv' := [(0, _), (1, _), (2, _), (3, _), (4, _)]) rfl ?_
                    exact ih v1 v2 1 (v4 + 1) I J r h
            · replace h := o_neg h c91
              refine wp_iconst (v := 1) dX10_isFit_94 (by decide) ?_
              refine wp_goto 99 dX10_isFit_95 rfl ?_
              refine wp_istore (lv' := [(0, _), (1, _), (2, _), (3, _), (4, _), (5, _), (6, _)]) dX10_isFit_99 rfl rfl rfl ?_
              refine wp_iload_n dX10_isFit_101 3 rfl ?_
              refine wp_if_eq 125 dX10_isFit_102 rfl (fun c102 => ?_) (fun c102 => ?_)
              · replace h := o_pos h c102
                refine wp_iconst (v := 0) dX10_isFit_125 (by decide) ?_
                refine wp_istore_n (lv' := [(0, _), (1, _), (2, _), (3, _), (4, _), (5, _), (6, _)]) dX10_isFit_126 rfl rfl rfl rfl ?_
                refine wp_iinc (v := v4 + 1) (lv' := [(0, _), (1, _), (2, _), (3, _), (4, _), (5, _), (6, _)]) dX10_isFit_127 4 rfl rfl rfl rfl rfl ?_
                refine wp_goto 5 dX10_isFit_130 rfl ?_
                refine wp_pick [0, 1, 2, 3, 4] (lv' := [(0, _), (1, _), (2, _), (3, _), (4, _)]) rfl ?_
                exact ih v1 v2 0 (v4 + 1) I J r h
              · replace h := o_neg h c102
                refine wp_aload_n dX10_isFit_105 0 rfl ?_
                refine wp_getR (k := 55) (a' := ad 76) dX10_isFit_106 flX10_80 rfl rfl rfl rfl rfl ?_
                refine wp_iload dX10_isFit_109 4 rfl ?_
                obtain ⟨g111, h⟩ := o_grd h
                refine wp_iald (k := 76) dX10_isFit_111 rfl rfl (inb_of g111) ?_
                refine wp_iload_n dX10_isFit_112 1 rfl ?_
                refine wp_icmp_ne 121 dX10_isFit_113 rfl (fun c113 => ?_) (fun c113 => ?_)
                · replace h := o_neg h c113
                  refine wp_iconst (v := 1) dX10_isFit_121 (by decide) ?_
                  refine wp_goto 126 dX10_isFit_122 rfl ?_
                  refine wp_istore_n (lv' := [(0, _), (1, _), (2, _), (3, _), (4, _), (5, _), (6, _)]) dX10_isFit_126 rfl rfl rfl rfl ?_
                  refine wp_iinc (v := v4 + 1) (lv' := [(0, _), (1, _), (2, _), (3, _), (4, _), (5, _), (6, _)]) dX10_isFit_127 4 rfl rfl rfl rfl rfl ?_
                  refine wp_goto 5 dX10_isFit_130 rfl ?_
                  refine wp_pick [0, 1, 2, 3, 4] (lv' := [(0, _), (1, _), (2, _), (3, _), (4, _)]) rfl ?_
                  exact ih v1 v2 1 (v4 + 1) I J r h
                · replace h := o_pos h c113
                  refine wp_iload dX10_isFit_116 6 rfl ?_
                  refine wp_if_eq 125 dX10_isFit_118 rfl (fun c118 => ?_) (fun c118 => ?_)
                  · replace h := o_pos h c118
                    refine wp_iconst (v := 0) dX10_isFit_125 (by decide) ?_
                    refine wp_istore_n (lv' := [(0, _), (1, _), (2, _), (3, _), (4, _), (5, _), (6, _)]) dX10_isFit_126 rfl rfl rfl rfl ?_
                    refine wp_iinc (v := v4 + 1) (lv' := [(0, _), (1, _), (2, _), (3, _), (4, _), (5, _), (6, _)]) dX10_isFit_127 4 rfl rfl rfl rfl rfl ?_
                    refine wp_goto 5 dX10_isFit_130 rfl ?_
                    refine wp_pick [0, 1, 2, 3, 4] (lv' := [(0, _), (1, _), (2, _), (3, _), (4, _)]) rfl ?_
                    exact ih v1 v2 0 (v4 + 1) I J r h
                  · replace h := o_neg h c118
                    refine wp_iconst (v := 1) dX10_isFit_121 (by decide) ?_
                    refine wp_goto 126 dX10_isFit_122 rfl ?_
                    refine wp_istore_n (lv' := [(0, _), (1, _), (2, _), (3, _), (4, _), (5, _), (6, _)]) dX10_isFit_126 rfl rfl rfl rfl ?_
                    refine wp_iinc (v := v4 + 1) (lv' := [(0, _), (1, _), (2, _), (3, _), (4, _), (5, _), (6, _)]) dX10_isFit_127 4 rfl rfl rfl rfl rfl ?_
                    refine wp_goto 5 dX10_isFit_130 rfl ?_
                    refine wp_pick [0, 1, 2, 3, 4] (lv' := [(0, _), (1, _), (2, _), (3, _), (4, _)]) rfl ?_
                    exact ih v1 v2 1 (v4 + 1) I J r h
set_option maxRecDepth 100000 in
set_option maxHeartbeats 4000000 in
theorem c_X10_isFit (Γ : GT) (ad : Nat → Nat) (a1 : Int32) (a2 : Int32) (I : IT) (J : JT) (r : Int32) (h : f_X10_isFit a1 a2 I = some r) : CALL Γ mX10_isFit (0, 0) [.ref (ad 55), .int a1, .int a2] (DX ad) I J (QE (some (.int r)) (DX ad) I J) := by
  refine call_of' (by decide) (Nat.le_of_ble_eq_true rfl) (lv0 := [(0, .ref (ad 55)), (1, .int a1), (2, .int a2)]) rfl ?_
  unfold f_X10_isFit at h
  refine wp_iconst (v := 1) dX10_isFit_0 (by decide) ?_
  refine wp_istore_n (lv' := [(0, _), (1, _), (2, _), (3, _)]) dX10_isFit_1 rfl rfl rfl rfl ?_
  refine wp_iconst (v := 0) dX10_isFit_2 (by decide) ?_
  refine wp_istore (lv' := [(0, _), (1, _), (2, _), (3, _), (4, _)]) dX10_isFit_3 rfl rfl rfl ?_
  refine wp_pick [0, 1, 2, 3, 4] (lv' := [(0, _), (1, _), (2, _), (3, _), (4, _)]) rfl ?_
  exact w_X10_isFit_5 Γ ad FU a1 a2 1 0 I J r h
def f_X10_fits_38 : Nat → Int32 → Int32 → Int32 → Int32 → Int32 → Int32 → IT → Option (Int32)
  | 0, _, _, _, _, _, _, _ => none
  | n + 1, v1, v2, v3, v4, v5, v6, I =>
    if (999 : Int32) < v6 then
      if v2 = 0 then
        some v3
      else
        if v2 = (1 : Int32) then
          some v4
        else
          some v5
    else
      (f_X10_isFit v1 v6 I).bind fun r50 =>
      if r50 = 0 then
        f_X10_fits_38 n v1 v2 v3 v4 v5 (v6 + 1) I
      else
        if 0 ≤ v4 then
          f_X10_fits_38 n v1 v2 (v3 + 1) v4 v6 (v6 + 1) I
        else
          f_X10_fits_38 n v1 v2 (v3 + 1) v6 v6 (v6 + 1) I
def f_X10_fits (a1 : Int32) (a2 : Int32) (I : IT) : Option (Int32) :=
  (f_X10_isLot a1 I).bind fun r2 =>
  if r2 = 0 then
    some (-1000001)
  else
    (f_X10_in a2.toInt64 0 2).bind fun r18 =>
    if r18 = 0 then
      some (-1000002)
    else
      f_X10_fits_38 FU a1 a2 0 (-1) (-1) 1 I
set_option maxRecDepth 100000 in
set_option maxHeartbeats 4000000 in
theorem w_X10_fits_38 (Γ : GT) (ad : Nat → Nat) : ∀ (n : Nat) (v1 : Int32) (v2 : Int32) (v3 : Int32) (v4 : Int32) (v5 : Int32) (v6 : Int32) (I : IT) (J : JT) (r : Int32), f_X10_fits_38 n v1 v2 v3 v4 v5 v6 I = some r → WP Γ mX10_fits (0, 0) 38 [(0, .ref (ad 55)), (1, .int v1), (2, .int v2), (3, .int v3), (4, .int v4), (5, .int v5), (6, .int v6)] [] (DX ad) I J (QE (some (.int r)) (DX ad) I J) := by
  intro n
  induction n with
  | zero => intro v1 v2 v3 v4 v5 v6 I J r h; exact absurd h (by simp [f_X10_fits_38])
  | succ n ih =>
    intro v1 v2 v3 v4 v5 v6 I J r h
    rw [f_X10_fits_38] at h
    refine wp_iload dX10_fits_38 6 rfl ?_
    refine wp_sipush (v := 999) dX10_fits_40 (by decide) ?_
    refine wp_icmp_gt 83 dX10_fits_43 rfl (fun c43 => ?_) (fun c43 => ?_)
    · replace h := o_pos h c43
      refine wp_iload_n dX10_fits_83 2 rfl ?_
      refine wp_if_ne 91 dX10_fits_84 rfl (fun c84 => ?_) (fun c84 => ?_)
      · replace h := o_neg h c84
        refine wp_iload_n dX10_fits_91 2 rfl ?_
        refine wp_iconst (v := 1) dX10_fits_92 (by decide) ?_
        refine wp_icmp_ne 101 dX10_fits_93 rfl (fun c93 => ?_) (fun c93 => ?_)
        · replace h := o_neg h c93
          refine wp_iload dX10_fits_101 5 rfl ?_
          obtain rfl := Option.some.inj h
          exact wp_ireturn (ty := .int) dX10_fits_103 rfl rfl ⟨rfl, rfl, rfl, rfl⟩
        · replace h := o_pos h c93
          refine wp_iload dX10_fits_96 4 rfl ?_
          refine wp_goto 103 dX10_fits_98 rfl ?_
          obtain rfl := Option.some.inj h
          exact wp_ireturn (ty := .int) dX10_fits_103 rfl rfl ⟨rfl, rfl, rfl, rfl⟩
      · replace h := o_pos h c84
        refine wp_iload_n dX10_fits_87 3 rfl ?_
        refine wp_goto 103 dX10_fits_88 rfl ?_
        obtain rfl := Option.some.inj h
        exact wp_ireturn (ty := .int) dX10_fits_103 rfl rfl ⟨rfl, rfl, rfl, rfl⟩
    · replace h := o_neg h c43
      refine wp_aload_n dX10_fits_46 0 rfl ?_
      refine wp_iload_n dX10_fits_47 1 rfl ?_
      refine wp_iload dX10_fits_48 6 rfl ?_
      obtain ⟨r50, h50, h⟩ := o_bind h
      refine wp_callvI (k := 55) (ci := 10) (c_X10_isFit Γ ad v1 v6 I J r50 h50) dX10_fits_50 mlX10_373 mwX10_isFit miX10_isFit rfl rfl rfl rfl (Nat.le_of_ble_eq_true rfl) rfl (by decide) (by decide) ?_
      refine wp_if_eq 77 dX10_fits_53 rfl (fun c53 => ?_) (fun c53 => ?_)
      · replace h := o_pos h c53
        refine wp_iinc (v := v6 + 1) (lv' := [(0, _), (1, _), (2, _), (3, _), (4, _), (5, _), (6, _)]) dX10_fits_77 6 rfl rfl rfl rfl rfl ?_
        refine wp_goto 38 dX10_fits_80 rfl ?_
        refine wp_pick [0, 1, 2, 3, 4, 5, 6] (lv' := [(0, _), (1, _), (2, _), (3, _), (4, _), (5, _), (6, _)]) rfl ?_
        exact ih v1 v2 v3 v4 v5 (v6 + 1) I J r h
      · replace h := o_neg h c53
        refine wp_iinc (v := v3 + 1) (lv' := [(0, _), (1, _), (2, _), (3, _), (4, _), (5, _), (6, _)]) dX10_fits_56 3 rfl rfl rfl rfl rfl ?_
        refine wp_iload dX10_fits_59 4 rfl ?_
        refine wp_if_ge 69 dX10_fits_61 rfl (fun c61 => ?_) (fun c61 => ?_)
        · replace h := o_pos h c61
          refine wp_iload dX10_fits_69 4 rfl ?_
          refine wp_istore (lv' := [(0, _), (1, _), (2, _), (3, _), (4, _), (5, _), (6, _)]) dX10_fits_71 rfl rfl rfl ?_
          refine wp_iload dX10_fits_73 6 rfl ?_
          refine wp_istore (lv' := [(0, _), (1, _), (2, _), (3, _), (4, _), (5, _), (6, _)]) dX10_fits_75 rfl rfl rfl ?_
          refine wp_iinc (v := v6 + 1) (lv' := [(0, _), (1, _), (2, _), (3, _), (4, _), (5, _), (6, _)]) dX10_fits_77 6 rfl rfl rfl rfl rfl ?_
          refine wp_goto 38 dX10_fits_80 rfl ?_
          refine wp_pick [0, 1, 2, 3, 4, 5, 6] (lv' := [(0, _), (1, _), (2, _), (3, _), (4, _), (5, _), (6, _)]) rfl ?_
          exact ih v1 v2 (v3 + 1) v4 v6 (v6 + 1) I J r h
        · replace h := o_neg h c61
          refine wp_iload dX10_fits_64 6 rfl ?_
          refine wp_goto 71 dX10_fits_66 rfl ?_
          refine wp_istore (lv' := [(0, _), (1, _), (2, _), (3, _), (4, _), (5, _), (6, _)]) dX10_fits_71 rfl rfl rfl ?_
          refine wp_iload dX10_fits_73 6 rfl ?_
          refine wp_istore (lv' := [(0, _), (1, _), (2, _), (3, _), (4, _), (5, _), (6, _)]) dX10_fits_75 rfl rfl rfl ?_
          refine wp_iinc (v := v6 + 1) (lv' := [(0, _), (1, _), (2, _), (3, _), (4, _), (5, _), (6, _)]) dX10_fits_77 6 rfl rfl rfl rfl rfl ?_
          refine wp_goto 38 dX10_fits_80 rfl ?_
          refine wp_pick [0, 1, 2, 3, 4, 5, 6] (lv' := [(0, _), (1, _), (2, _), (3, _), (4, _), (5, _), (6, _)]) rfl ?_
          exact ih v1 v2 (v3 + 1) v6 v6 (v6 + 1) I J r h
set_option maxRecDepth 100000 in
set_option maxHeartbeats 4000000 in
theorem c_X10_fits (Γ : GT) (ad : Nat → Nat) (a1 : Int32) (a2 : Int32) (I : IT) (J : JT) (r : Int32) (h : f_X10_fits a1 a2 I = some r) : CALL Γ mX10_fits (0, 0) [.ref (ad 55), .int a1, .int a2] (DX ad) I J (QE (some (.int r)) (DX ad) I J) := by
  refine call_of' (by decide) (Nat.le_of_ble_eq_true rfl) (lv0 := [(0, .ref (ad 55)), (1, .int a1), (2, .int a2)]) rfl ?_
  unfold f_X10_fits at h
  refine wp_aload_n dX10_fits_0 0 rfl ?_
  refine wp_iload_n dX10_fits_1 1 rfl ?_
  obtain ⟨r2, h2, h⟩ := o_bind h
  refine wp_callvI (k := 55) (ci := 10) (c_X10_isLot Γ ad a1 I J r2 h2) dX10_fits_2 mlX10_271 mwX10_isLot miX10_isLot rfl rfl rfl rfl (Nat.le_of_ble_eq_true rfl) rfl (by decide) (by decide) ?_
  refine wp_if_ne 12 dX10_fits_5 rfl (fun c5 => ?_) (fun c5 => ?_)
  · replace h := o_neg h c5
    refine wp_iload_n dX10_fits_12 2 rfl ?_
    refine wp_i2l dX10_fits_13 ?_
    refine wp_lconst (v := 0) dX10_fits_14 (by decide) ?_
    refine wp_ldc2 (v := 2) dX10_fits_15 klX10_297 ?_
    obtain ⟨r18, h18, h⟩ := o_bind h
    refine wp_callsI (c_X10_in Γ ad a2.toInt64 0 2 I J r18 h18) dX10_fits_18 mlX10_134 mwX10_in miX10_in rfl (Nat.le_of_ble_eq_true rfl) rfl (by decide) (by decide) ?_
    refine wp_if_ne 27 dX10_fits_21 rfl (fun c21 => ?_) (fun c21 => ?_)
    · replace h := o_neg h c21
      refine wp_iconst (v := 0) dX10_fits_27 (by decide) ?_
      refine wp_istore_n (lv' := [(0, _), (1, _), (2, _), (3, _)]) dX10_fits_28 rfl rfl rfl rfl ?_
      refine wp_iconst (v := (-1)) dX10_fits_29 (by decide) ?_
      refine wp_istore (lv' := [(0, _), (1, _), (2, _), (3, _), (4, _)]) dX10_fits_30 rfl rfl rfl ?_
      refine wp_iconst (v := (-1)) dX10_fits_32 (by decide) ?_
      refine wp_istore (lv' := [(0, _), (1, _), (2, _), (3, _), (4, _), (5, _)]) dX10_fits_33 rfl rfl rfl ?_
      refine wp_iconst (v := 1) dX10_fits_35 (by decide) ?_
      refine wp_istore (lv' := [(0, _), (1, _), (2, _), (3, _), (4, _), (5, _), (6, _)]) dX10_fits_36 rfl rfl rfl ?_
      refine wp_pick [0, 1, 2, 3, 4, 5, 6] (lv' := [(0, _), (1, _), (2, _), (3, _), (4, _), (5, _), (6, _)]) rfl ?_
      exact w_X10_fits_38 Γ ad FU a1 a2 0 (-1) (-1) 1 I J r h
    · replace h := o_pos h c21
      refine wp_ldc (v := (-1000002)) dX10_fits_24 kcX10_143 ?_
      obtain rfl := Option.some.inj h
      exact wp_ireturn (ty := .int) dX10_fits_26 rfl rfl ⟨rfl, rfl, rfl, rfl⟩
  · replace h := o_pos h c5
    refine wp_ldcw (v := (-1000001)) dX10_fits_8 kcX10_264 ?_
    obtain rfl := Option.some.inj h
    exact wp_ireturn (ty := .int) dX10_fits_11 rfl rfl ⟨rfl, rfl, rfl, rfl⟩
def f_X10_addMoved_16 : Nat → Int32 → Int32 → Int32 → Int32 → Int32 → JT → Option (JT)
  | 0, _, _, _, _, _, _ => none
  | n + 1, v1, v2, v4, v5, v6, J =>
    if v6 < v4 then
      some J
    else
      if inbB (((94 * v2) + v6) - v4) 6016 = true then
        if v5 ≤ 0 then
          if inbB ((94 * v1) + v6) 6016 = true then
            if inbB ((94 * v1) + v6) 6016 = true then
              f_X10_addMoved_16 n v1 v2 v4 v5 (v6 + (-1)) (upJ J 80 (((94 * v1) + v6).toNatClampNeg) ((J 80 ((94 * v1) + v6).toNatClampNeg) ||| (((J 80 (((94 * v2) + v6) - v4).toNatClampNeg) <<< (v5.toInt64 &&& 63)) ||| 0)))
            else none
          else none
        else
          if v6 ≤ v4 then
            if inbB ((94 * v1) + v6) 6016 = true then
              if inbB ((94 * v1) + v6) 6016 = true then
                f_X10_addMoved_16 n v1 v2 v4 v5 (v6 + (-1)) (upJ J 80 (((94 * v1) + v6).toNatClampNeg) ((J 80 ((94 * v1) + v6).toNatClampNeg) ||| (((J 80 (((94 * v2) + v6) - v4).toNatClampNeg) <<< (v5.toInt64 &&& 63)) ||| 0)))
              else none
            else none
          else
            if inbB ((((94 * v2) + v6) - v4) - 1) 6016 = true then
              (some (((J 80 (((94 * v2) + v6) - v4).toNatClampNeg) <<< (v5.toInt64 &&& 63)) ||| (((J 80 ((((94 * v2) + v6) - v4) - 1).toNatClampNeg).toUInt64 >>> ((64 - v5).toInt64.toUInt64 &&& Int64.toUInt64 63)).toInt64))).bind fun x85 =>
              if inbB ((94 * v1) + v6) 6016 = true then
                if inbB ((94 * v1) + v6) 6016 = true then
                  f_X10_addMoved_16 n v1 v2 v4 v5 (v6 + (-1)) (upJ J 80 (((94 * v1) + v6).toNatClampNeg) ((J 80 ((94 * v1) + v6).toNatClampNeg) ||| x85))
                else none
              else none
            else none
      else none
def f_X10_addMoved (a1 : Int32) (a2 : Int32) (a3 : Int32) (J : JT) : Option (JT) :=
  f_X10_addMoved_16 FU a1 a2 (a3 / 64) (a3 - a3 / 64 * 64) 93 J
set_option maxRecDepth 100000 in
set_option maxHeartbeats 4000000 in
theorem w_X10_addMoved_16 (Γ : GT) (ad : Nat → Nat) : ∀ (n : Nat) (v1 : Int32) (v2 : Int32) (v4 : Int32) (v5 : Int32) (v6 : Int32) (I : IT) (J : JT) (r : JT), f_X10_addMoved_16 n v1 v2 v4 v5 v6 J = some r → WP Γ mX10_addMoved (0, 0) 16 [(0, .ref (ad 55)), (1, .int v1), (2, .int v2), (4, .int v4), (5, .int v5), (6, .int v6)] [] (DX ad) I J (QE none (DX ad) I r) := by
  intro n
  induction n with
  | zero => intro v1 v2 v4 v5 v6 I J r h; exact absurd h (by simp [f_X10_addMoved_16])
  | succ n ih =>
    intro v1 v2 v4 v5 v6 I J r h
    rw [f_X10_addMoved_16] at h
    refine wp_iload dX10_addMoved_16 5 rfl ?_
    refine wp_iload dX10_addMoved_18 3 rfl ?_
    refine wp_icmp_lt 110 dX10_addMoved_20 rfl (fun c20 => ?_) (fun c20 => ?_)
    · replace h := o_pos h c20
      obtain rfl := Option.some.inj h
      exact wp_return dX10_addMoved_110 rfl ⟨rfl, rfl, rfl, rfl⟩
    · replace h := o_neg h c20
      refine wp_aload_n dX10_addMoved_23 0 rfl ?_
      refine wp_getR (k := 55) (a' := ad 80) dX10_addMoved_24 flX10_93 rfl rfl rfl rfl rfl ?_
      refine wp_bipush (v := 94) dX10_addMoved_27 (by decide) ?_
      refine wp_iload_n dX10_addMoved_29 2 rfl ?_
      refine wp_imul dX10_addMoved_30 ?_
      refine wp_iload dX10_addMoved_31 5 rfl ?_
      refine wp_iadd dX10_addMoved_33 ?_
      refine wp_iload dX10_addMoved_34 3 rfl ?_
      refine wp_isub dX10_addMoved_36 ?_
      obtain ⟨g37, h⟩ := o_grd h
      refine wp_lald (k := 80) dX10_addMoved_37 rfl rfl (inb_of g37) ?_
      refine wp_iload dX10_addMoved_38 4 rfl ?_
      refine wp_lshl dX10_addMoved_40 ?_
      refine wp_lstore (lv' := [(0, _), (1, _), (2, _), (4, _), (5, _), (6, _), (7, _)]) dX10_addMoved_41 rfl rfl rfl ?_
      refine wp_lload dX10_addMoved_43 6 rfl ?_
      refine wp_iload dX10_addMoved_45 4 rfl ?_
      refine wp_if_le 83 dX10_addMoved_47 rfl (fun c47 => ?_) (fun c47 => ?_)
      · replace h := o_pos h c47
        refine wp_lconst (v := 0) dX10_addMoved_83 (by decide) ?_
        refine wp_lor dX10_addMoved_84 ?_
        refine wp_lstore (lv' := [(0, _), (1, _), (2, _), (4, _), (5, _), (6, _), (7, _)]) dX10_addMoved_85 rfl rfl rfl ?_
        refine wp_aload_n dX10_addMoved_87 0 rfl ?_
        refine wp_getR (k := 55) (a' := ad 80) dX10_addMoved_88 flX10_93 rfl rfl rfl rfl rfl ?_
        refine wp_bipush (v := 94) dX10_addMoved_91 (by decide) ?_
        refine wp_iload_n dX10_addMoved_93 1 rfl ?_
        refine wp_imul dX10_addMoved_94 ?_
        refine wp_iload dX10_addMoved_95 5 rfl ?_
        refine wp_iadd dX10_addMoved_97 ?_
        refine wp_dup2 dX10_addMoved_98 rfl rfl ?_
        obtain ⟨g99, h⟩ := o_grd h
        refine wp_lald (k := 80) dX10_addMoved_99 rfl rfl (inb_of g99) ?_
        refine wp_lload dX10_addMoved_100 6 rfl ?_
        refine wp_lor dX10_addMoved_102 ?_
        obtain ⟨g103, h⟩ := o_grd h
        refine wp_last (k := 80) dX10_addMoved_103 rfl rfl (inb_of g103) ?_
        refine wp_iinc (v := v6 + (-1)) (lv' := [(0, _), (1, _), (2, _), (4, _), (5, _), (6, _), (7, _)]) dX10_addMoved_104 5 rfl rfl rfl rfl rfl ?_
        refine wp_goto 16 dX10_addMoved_107 rfl ?_
        refine wp_pick [0, 1, 2, 3, 4, 5] (lv' := [(0, _), (1, _), (2, _), (4, _), (5, _), (6, _)]) rfl ?_
        exact ih v1 v2 v4 v5 (v6 + (-1)) I (upJ J 80 (((94 * v1) + v6).toNatClampNeg) ((J 80 ((94 * v1) + v6).toNatClampNeg) ||| (((J 80 (((94 * v2) + v6) - v4).toNatClampNeg) <<< (v5.toInt64 &&& 63)) ||| 0))) r h
      · replace h := o_neg h c47
        refine wp_iload dX10_addMoved_50 5 rfl ?_
        refine wp_iload dX10_addMoved_52 3 rfl ?_
        refine wp_icmp_le 83 dX10_addMoved_54 rfl (fun c54 => ?_) (fun c54 => ?_)
        · replace h := o_pos h c54
          refine wp_lconst (v := 0) dX10_addMoved_83 (by decide) ?_
          refine wp_lor dX10_addMoved_84 ?_
          refine wp_lstore (lv' := [(0, _), (1, _), (2, _), (4, _), (5, _), (6, _), (7, _)]) dX10_addMoved_85 rfl rfl rfl ?_
          refine wp_aload_n dX10_addMoved_87 0 rfl ?_
          refine wp_getR (k := 55) (a' := ad 80) dX10_addMoved_88 flX10_93 rfl rfl rfl rfl rfl ?_
          refine wp_bipush (v := 94) dX10_addMoved_91 (by decide) ?_
          refine wp_iload_n dX10_addMoved_93 1 rfl ?_
          refine wp_imul dX10_addMoved_94 ?_
          refine wp_iload dX10_addMoved_95 5 rfl ?_
          refine wp_iadd dX10_addMoved_97 ?_
          refine wp_dup2 dX10_addMoved_98 rfl rfl ?_
          obtain ⟨g99, h⟩ := o_grd h
          refine wp_lald (k := 80) dX10_addMoved_99 rfl rfl (inb_of g99) ?_
          refine wp_lload dX10_addMoved_100 6 rfl ?_
          refine wp_lor dX10_addMoved_102 ?_
          obtain ⟨g103, h⟩ := o_grd h
          refine wp_last (k := 80) dX10_addMoved_103 rfl rfl (inb_of g103) ?_
          refine wp_iinc (v := v6 + (-1)) (lv' := [(0, _), (1, _), (2, _), (4, _), (5, _), (6, _), (7, _)]) dX10_addMoved_104 5 rfl rfl rfl rfl rfl ?_
          refine wp_goto 16 dX10_addMoved_107 rfl ?_
          refine wp_pick [0, 1, 2, 3, 4, 5] (lv' := [(0, _), (1, _), (2, _), (4, _), (5, _), (6, _)]) rfl ?_
          exact ih v1 v2 v4 v5 (v6 + (-1)) I (upJ J 80 (((94 * v1) + v6).toNatClampNeg) ((J 80 ((94 * v1) + v6).toNatClampNeg) ||| (((J 80 (((94 * v2) + v6) - v4).toNatClampNeg) <<< (v5.toInt64 &&& 63)) ||| 0))) r h
        · replace h := o_neg h c54
          refine wp_aload_n dX10_addMoved_57 0 rfl ?_
          refine wp_getR (k := 55) (a' := ad 80) dX10_addMoved_58 flX10_93 rfl rfl rfl rfl rfl ?_
          refine wp_bipush (v := 94) dX10_addMoved_61 (by decide) ?_
          refine wp_iload_n dX10_addMoved_63 2 rfl ?_
          refine wp_imul dX10_addMoved_64 ?_
          refine wp_iload dX10_addMoved_65 5 rfl ?_
          refine wp_iadd dX10_addMoved_67 ?_
          refine wp_iload dX10_addMoved_68 3 rfl ?_
          refine wp_isub dX10_addMoved_70 ?_
          refine wp_iconst (v := 1) dX10_addMoved_71 (by decide) ?_
          refine wp_isub dX10_addMoved_72 ?_
          obtain ⟨g73, h⟩ := o_grd h
          refine wp_lald (k := 80) dX10_addMoved_73 rfl rfl (inb_of g73) ?_
          refine wp_bipush (v := 64) dX10_addMoved_74 (by decide) ?_
          refine wp_iload dX10_addMoved_76 4 rfl ?_
          refine wp_isub dX10_addMoved_78 ?_
          refine wp_lushr dX10_addMoved_79 ?_
          refine wp_goto 84 dX10_addMoved_80 rfl ?_
          refine wp_lor dX10_addMoved_84 ?_
          refine wp_lstore (lv' := [(0, _), (1, _), (2, _), (4, _), (5, _), (6, _), (7, _)]) dX10_addMoved_85 rfl rfl rfl ?_
          obtain ⟨x85, e85, h⟩ := o_bind h
          rw [Option.some.inj e85]
          refine wp_aload_n dX10_addMoved_87 0 rfl ?_
          refine wp_getR (k := 55) (a' := ad 80) dX10_addMoved_88 flX10_93 rfl rfl rfl rfl rfl ?_
          refine wp_bipush (v := 94) dX10_addMoved_91 (by decide) ?_
          refine wp_iload_n dX10_addMoved_93 1 rfl ?_
          refine wp_imul dX10_addMoved_94 ?_
          refine wp_iload dX10_addMoved_95 5 rfl ?_
          refine wp_iadd dX10_addMoved_97 ?_
          refine wp_dup2 dX10_addMoved_98 rfl rfl ?_
          obtain ⟨g99, h⟩ := o_grd h
          refine wp_lald (k := 80) dX10_addMoved_99 rfl rfl (inb_of g99) ?_
          refine wp_lload dX10_addMoved_100 6 rfl ?_
          refine wp_lor dX10_addMoved_102 ?_
          obtain ⟨g103, h⟩ := o_grd h
          refine wp_last (k := 80) dX10_addMoved_103 rfl rfl (inb_of g103) ?_
          refine wp_iinc (v := v6 + (-1)) (lv' := [(0, _), (1, _), (2, _), (4, _), (5, _), (6, _), (7, _)]) dX10_addMoved_104 5 rfl rfl rfl rfl rfl ?_
          refine wp_goto 16 dX10_addMoved_107 rfl ?_
          refine wp_pick [0, 1, 2, 3, 4, 5] (lv' := [(0, _), (1, _), (2, _), (4, _), (5, _), (6, _)]) rfl ?_
          exact ih v1 v2 v4 v5 (v6 + (-1)) I (upJ J 80 (((94 * v1) + v6).toNatClampNeg) ((J 80 ((94 * v1) + v6).toNatClampNeg) ||| x85)) r h
set_option maxRecDepth 100000 in
set_option maxHeartbeats 4000000 in
theorem c_X10_addMoved (Γ : GT) (ad : Nat → Nat) (a1 : Int32) (a2 : Int32) (a3 : Int32) (I : IT) (J : JT) (r : JT) (h : f_X10_addMoved a1 a2 a3 J = some r) : CALL Γ mX10_addMoved (0, 0) [.ref (ad 55), .int a1, .int a2, .int a3] (DX ad) I J (QE none (DX ad) I r) := by
  refine call_of' (by decide) (Nat.le_of_ble_eq_true rfl) (lv0 := [(0, .ref (ad 55)), (1, .int a1), (2, .int a2), (3, .int a3)]) rfl ?_
  unfold f_X10_addMoved at h
  refine wp_iload_n dX10_addMoved_0 3 rfl ?_
  refine wp_bipush (v := 64) dX10_addMoved_1 (by decide) ?_
  refine wp_idiv dX10_addMoved_3 (by decide) ?_
  refine wp_istore (lv' := [(0, _), (1, _), (2, _), (3, _), (4, _)]) dX10_addMoved_4 rfl rfl rfl ?_
  refine wp_iload_n dX10_addMoved_6 3 rfl ?_
  refine wp_bipush (v := 64) dX10_addMoved_7 (by decide) ?_
  refine wp_irem dX10_addMoved_9 (by decide) ?_
  refine wp_istore (lv' := [(0, _), (1, _), (2, _), (3, _), (4, _), (5, _)]) dX10_addMoved_10 rfl rfl rfl ?_
  refine wp_bipush (v := 93) dX10_addMoved_12 (by decide) ?_
  refine wp_istore (lv' := [(0, _), (1, _), (2, _), (3, _), (4, _), (5, _), (6, _)]) dX10_addMoved_14 rfl rfl rfl ?_
  refine wp_pick [0, 1, 2, 4, 5, 6] (lv' := [(0, _), (1, _), (2, _), (4, _), (5, _), (6, _)]) rfl ?_
  exact w_X10_addMoved_16 Γ ad FU a1 a2 (a3 / 64) (a3 - a3 / 64 * 64) 93 I J r h
def f_X10_findSums_43 : Nat → Int32 → Int32 → Option (Int32)
  | 0, _, _ => none
  | n + 1, v1, v2 =>
    (f_X10_has v1 v2).bind fun r45 =>
    if r45 = 0 then
      f_X10_findSums_43 n v1 (v2 + 1)
    else
      some v2
def f_X10_findSums_59 : Nat → Int32 → Int32 → Int32 → IT → JT → Option (JT)
  | 0, _, _, _, _, _ => none
  | n + 1, v1, v2, v3, I, J =>
    if (999 : Int32) < v3 then
      some J
    else
      (f_X10_isFit v2 v3 I).bind fun r69 =>
      if r69 = 0 then
        f_X10_findSums_59 n v1 v2 (v3 + 1) I J
      else
        (f_X10_addMoved v1 (v1 &&& (((1 : Int32) <<< (v2 &&& 31)) ^^^ (-1))) v3 J).bind fun r85 =>
        f_X10_findSums_59 n v1 v2 (v3 + 1) I r85
def f_X10_findSums_31 : Nat → Int32 → IT → JT → Option (JT)
  | 0, _, _, _ => none
  | n + 1, v1, I, J =>
    if ((1 : Int32) <<< ((I 55 0) &&& 31)) ≤ v1 then
      some J
    else
      (f_X10_findSums_43 FU v1 0).bind fun r43 =>
      (f_X10_findSums_59 FU v1 r43 1 I J).bind fun r59 =>
      f_X10_findSums_31 n (v1 + 1) I r59
def f_X10_findSums_2 : Nat → Int32 → IT → JT → Option (JT)
  | 0, _, _, _ => none
  | n + 1, v1, I, J =>
    if (6016 : Int32) ≤ v1 then
      f_X10_findSums_31 FU 1 I (upJ J 80 ((0 : Int32).toNatClampNeg) 1)
    else
      if inbB v1 6016 = true then
        f_X10_findSums_2 n (v1 + 1) I (upJ J 80 v1.toNatClampNeg 0)
      else none
def f_X10_findSums (I : IT) (J : JT) : Option (JT) :=
  f_X10_findSums_2 FU 0 I J
set_option maxRecDepth 100000 in
set_option maxHeartbeats 4000000 in
theorem w_X10_findSums_43 (Γ : GT) (ad : Nat → Nat) (Q : QT) : ∀ (n : Nat) (v1 : Int32) (v2 : Int32) (I : IT) (J : JT) (r : Int32), f_X10_findSums_43 n v1 v2 = some r → WP Γ mX10_findSums (0, 0) 57 [(0, .ref (ad 55)), (1, .int v1), (2, .int r)] [] (DX ad) I J Q → WP Γ mX10_findSums (0, 0) 43 [(0, .ref (ad 55)), (1, .int v1), (2, .int v2)] [] (DX ad) I J Q := by
  intro n
  induction n with
  | zero => intro v1 v2 I J r h K; exact absurd h (by simp [f_X10_findSums_43])
  | succ n ih =>
    intro v1 v2 I J r h K
    rw [f_X10_findSums_43] at h
    refine wp_iload_n dX10_findSums_43 1 rfl ?_
    refine wp_iload_n dX10_findSums_44 2 rfl ?_
    obtain ⟨r45, h45, h⟩ := o_bind h
    refine wp_callsI (c_X10_has Γ ad v1 v2 I J r45 h45) dX10_findSums_45 mlX10_281 mwX10_has miX10_has rfl (Nat.le_of_ble_eq_true rfl) rfl (by decide) (by decide) ?_
    refine wp_if_ne 57 dX10_findSums_48 rfl (fun c48 => ?_) (fun c48 => ?_)
    · replace h := o_neg h c48
      obtain rfl := Option.some.inj h
      exact wp_pick [0, 1, 2] (lv' := [(0, _), (1, _), (2, _)]) rfl K
    · replace h := o_pos h c48
      refine wp_iinc (v := v2 + 1) (lv' := [(0, _), (1, _), (2, _)]) dX10_findSums_51 2 rfl rfl rfl rfl rfl ?_
      refine wp_goto 43 dX10_findSums_54 rfl ?_
      refine wp_pick [0, 1, 2] (lv' := [(0, _), (1, _), (2, _)]) rfl ?_
      exact ih v1 (v2 + 1) I J r h K
set_option maxRecDepth 100000 in
set_option maxHeartbeats 4000000 in
theorem w_X10_findSums_59 (Γ : GT) (ad : Nat → Nat) (Q : QT) : ∀ (n : Nat) (v1 : Int32) (v2 : Int32) (v3 : Int32) (I : IT) (J : JT) (r : JT), f_X10_findSums_59 n v1 v2 v3 I J = some r → WP Γ mX10_findSums (0, 0) 94 [(0, .ref (ad 55)), (1, .int v1)] [] (DX ad) I r Q → WP Γ mX10_findSums (0, 0) 59 [(0, .ref (ad 55)), (1, .int v1), (2, .int v2), (3, .int v3)] [] (DX ad) I J Q := by
  intro n
  induction n with
  | zero => intro v1 v2 v3 I J r h K; exact absurd h (by simp [f_X10_findSums_59])
  | succ n ih =>
    intro v1 v2 v3 I J r h K
    rw [f_X10_findSums_59] at h
    refine wp_iload_n dX10_findSums_59 3 rfl ?_
    refine wp_sipush (v := 999) dX10_findSums_60 (by decide) ?_
    refine wp_icmp_gt 94 dX10_findSums_63 rfl (fun c63 => ?_) (fun c63 => ?_)
    · replace h := o_pos h c63
      obtain rfl := Option.some.inj h
      exact wp_pick [0, 1] (lv' := [(0, _), (1, _)]) rfl K
    · replace h := o_neg h c63
      refine wp_aload_n dX10_findSums_66 0 rfl ?_
      refine wp_iload_n dX10_findSums_67 2 rfl ?_
      refine wp_iload_n dX10_findSums_68 3 rfl ?_
      obtain ⟨r69, h69, h⟩ := o_bind h
      refine wp_callvI (k := 55) (ci := 10) (c_X10_isFit Γ ad v2 v3 I J r69 h69) dX10_findSums_69 mlX10_373 mwX10_isFit miX10_isFit rfl rfl rfl rfl (Nat.le_of_ble_eq_true rfl) rfl (by decide) (by decide) ?_
      refine wp_if_eq 88 dX10_findSums_72 rfl (fun c72 => ?_) (fun c72 => ?_)
      · replace h := o_pos h c72
        refine wp_iinc (v := v3 + 1) (lv' := [(0, _), (1, _), (2, _), (3, _)]) dX10_findSums_88 3 rfl rfl rfl rfl rfl ?_
        refine wp_goto 59 dX10_findSums_91 rfl ?_
        refine wp_pick [0, 1, 2, 3] (lv' := [(0, _), (1, _), (2, _), (3, _)]) rfl ?_
        exact ih v1 v2 (v3 + 1) I J r h K
      · replace h := o_neg h c72
        refine wp_aload_n dX10_findSums_75 0 rfl ?_
        refine wp_iload_n dX10_findSums_76 1 rfl ?_
        refine wp_iload_n dX10_findSums_77 1 rfl ?_
        refine wp_iconst (v := 1) dX10_findSums_78 (by decide) ?_
        refine wp_iload_n dX10_findSums_79 2 rfl ?_
        refine wp_ishl dX10_findSums_80 ?_
        refine wp_iconst (v := (-1)) dX10_findSums_81 (by decide) ?_
        refine wp_ixor dX10_findSums_82 ?_
        refine wp_iand dX10_findSums_83 ?_
        refine wp_iload_n dX10_findSums_84 3 rfl ?_
        obtain ⟨r85, h85, h⟩ := o_bind h
        refine wp_callvV (k := 55) (ci := 10) (c_X10_addMoved Γ ad v1 (v1 &&& (((1 : Int32) <<< (v2 &&& 31)) ^^^ (-1))) v3 I J r85 h85) dX10_findSums_85 mlX10_376 mwX10_addMoved miX10_addMoved rfl rfl rfl rfl (Nat.le_of_ble_eq_true rfl) rfl (by decide) (by decide) ?_
        refine wp_iinc (v := v3 + 1) (lv' := [(0, _), (1, _), (2, _), (3, _)]) dX10_findSums_88 3 rfl rfl rfl rfl rfl ?_
        refine wp_goto 59 dX10_findSums_91 rfl ?_
        refine wp_pick [0, 1, 2, 3] (lv' := [(0, _), (1, _), (2, _), (3, _)]) rfl ?_
        exact ih v1 v2 (v3 + 1) I r85 r h K
set_option maxRecDepth 100000 in
set_option maxHeartbeats 4000000 in
theorem w_X10_findSums_31 (Γ : GT) (ad : Nat → Nat) : ∀ (n : Nat) (v1 : Int32) (I : IT) (J : JT) (r : JT), f_X10_findSums_31 n v1 I J = some r → WP Γ mX10_findSums (0, 0) 31 [(0, .ref (ad 55)), (1, .int v1)] [] (DX ad) I J (QE none (DX ad) I r) := by
  intro n
  induction n with
  | zero => intro v1 I J r h; exact absurd h (by simp [f_X10_findSums_31])
  | succ n ih =>
    intro v1 I J r h
    rw [f_X10_findSums_31] at h
    refine wp_iload_n dX10_findSums_31 1 rfl ?_
    refine wp_iconst (v := 1) dX10_findSums_32 (by decide) ?_
    refine wp_aload_n dX10_findSums_33 0 rfl ?_
    refine wp_getI (k := 55) dX10_findSums_34 flX10_121 rfl rfl rfl rfl ?_
    refine wp_ishl dX10_findSums_37 ?_
    refine wp_icmp_ge 100 dX10_findSums_38 rfl (fun c38 => ?_) (fun c38 => ?_)
    · replace h := o_pos h c38
      obtain rfl := Option.some.inj h
      exact wp_return dX10_findSums_100 rfl ⟨rfl, rfl, rfl, rfl⟩
    · replace h := o_neg h c38
      refine wp_iconst (v := 0) dX10_findSums_41 (by decide) ?_
      refine wp_istore_n (lv' := [(0, _), (1, _), (2, _)]) dX10_findSums_42 rfl rfl rfl rfl ?_
      refine wp_pick [0, 1, 2] (lv' := [(0, _), (1, _), (2, _)]) rfl ?_
      obtain ⟨r43, h43, h⟩ := o_bind h
      refine w_X10_findSums_43 Γ ad _ FU v1 0 I J r43 h43 ?_
      refine wp_iconst (v := 1) dX10_findSums_57 (by decide) ?_
      refine wp_istore_n (lv' := [(0, _), (1, _), (2, _), (3, _)]) dX10_findSums_58 rfl rfl rfl rfl ?_
      refine wp_pick [0, 1, 2, 3] (lv' := [(0, _), (1, _), (2, _), (3, _)]) rfl ?_
      obtain ⟨r59, h59, h⟩ := o_bind h
      refine w_X10_findSums_59 Γ ad _ FU v1 r43 1 I J r59 h59 ?_
      refine wp_iinc (v := v1 + 1) (lv' := [(0, _), (1, _)]) dX10_findSums_94 1 rfl rfl rfl rfl rfl ?_
      refine wp_goto 31 dX10_findSums_97 rfl ?_
      refine wp_pick [0, 1] (lv' := [(0, _), (1, _)]) rfl ?_
      exact ih (v1 + 1) I r59 r h
set_option maxRecDepth 100000 in
set_option maxHeartbeats 4000000 in
theorem w_X10_findSums_2 (Γ : GT) (ad : Nat → Nat) : ∀ (n : Nat) (v1 : Int32) (I : IT) (J : JT) (r : JT), f_X10_findSums_2 n v1 I J = some r → WP Γ mX10_findSums (0, 0) 2 [(0, .ref (ad 55)), (1, .int v1)] [] (DX ad) I J (QE none (DX ad) I r) := by
  intro n
  induction n with
  | zero => intro v1 I J r h; exact absurd h (by simp [f_X10_findSums_2])
  | succ n ih =>
    intro v1 I J r h
    rw [f_X10_findSums_2] at h
    refine wp_iload_n dX10_findSums_2 1 rfl ?_
    refine wp_sipush (v := 6016) dX10_findSums_3 (by decide) ?_
    refine wp_icmp_ge 22 dX10_findSums_6 rfl (fun c6 => ?_) (fun c6 => ?_)
    · replace h := o_pos h c6
      refine wp_aload_n dX10_findSums_22 0 rfl ?_
      refine wp_getR (k := 55) (a' := ad 80) dX10_findSums_23 flX10_93 rfl rfl rfl rfl rfl ?_
      refine wp_iconst (v := 0) dX10_findSums_26 (by decide) ?_
      refine wp_lconst (v := 1) dX10_findSums_27 (by decide) ?_
      refine wp_last (k := 80) dX10_findSums_28 rfl rfl (inb_of (by decide)) ?_
      refine wp_iconst (v := 1) dX10_findSums_29 (by decide) ?_
      refine wp_istore_n (lv' := [(0, _), (1, _)]) dX10_findSums_30 rfl rfl rfl rfl ?_
      refine wp_pick [0, 1] (lv' := [(0, _), (1, _)]) rfl ?_
      exact w_X10_findSums_31 Γ ad FU 1 I (upJ J 80 ((0 : Int32).toNatClampNeg) 1) r h
    · replace h := o_neg h c6
      refine wp_aload_n dX10_findSums_9 0 rfl ?_
      refine wp_getR (k := 55) (a' := ad 80) dX10_findSums_10 flX10_93 rfl rfl rfl rfl rfl ?_
      refine wp_iload_n dX10_findSums_13 1 rfl ?_
      refine wp_lconst (v := 0) dX10_findSums_14 (by decide) ?_
      obtain ⟨g15, h⟩ := o_grd h
      refine wp_last (k := 80) dX10_findSums_15 rfl rfl (inb_of g15) ?_
      refine wp_iinc (v := v1 + 1) (lv' := [(0, _), (1, _)]) dX10_findSums_16 1 rfl rfl rfl rfl rfl ?_
      refine wp_goto 2 dX10_findSums_19 rfl ?_
      refine wp_pick [0, 1] (lv' := [(0, _), (1, _)]) rfl ?_
      exact ih (v1 + 1) I (upJ J 80 v1.toNatClampNeg 0) r h
set_option maxRecDepth 100000 in
set_option maxHeartbeats 4000000 in
theorem c_X10_findSums (Γ : GT) (ad : Nat → Nat) (I : IT) (J : JT) (r : JT) (h : f_X10_findSums I J = some r) : CALL Γ mX10_findSums (0, 0) [.ref (ad 55)] (DX ad) I J (QE none (DX ad) I r) := by
  refine call_of' (by decide) (Nat.le_of_ble_eq_true rfl) (lv0 := [(0, .ref (ad 55))]) rfl ?_
  unfold f_X10_findSums at h
  refine wp_iconst (v := 0) dX10_findSums_0 (by decide) ?_
  refine wp_istore_n (lv' := [(0, _), (1, _)]) dX10_findSums_1 rfl rfl rfl rfl ?_
  refine wp_pick [0, 1] (lv' := [(0, _), (1, _)]) rfl ?_
  exact w_X10_findSums_2 Γ ad FU 0 I J r h
def f_X10_isSum (a1 : Int32) (a2 : Int32) (J : JT) : Option (Int32) :=
  if (6016 : Int32) ≤ a2 then
    some 0
  else
    if inbB ((94 * a1) + (a2 / 64)) 6016 = true then
      if (lg_cmp (((J 80 ((94 * a1) + (a2 / 64)).toNatClampNeg) >>> ((a2 - a2 / 64 * 64).toInt64 &&& 63)) &&& 1) 1) = 0 then
        some 1
      else
        some 0
    else none
set_option maxRecDepth 100000 in
set_option maxHeartbeats 4000000 in
theorem c_X10_isSum (Γ : GT) (ad : Nat → Nat) (a1 : Int32) (a2 : Int32) (I : IT) (J : JT) (r : Int32) (h : f_X10_isSum a1 a2 J = some r) : CALL Γ mX10_isSum (0, 0) [.ref (ad 55), .int a1, .int a2] (DX ad) I J (QE (some (.int r)) (DX ad) I J) := by
  refine call_of' (by decide) (Nat.le_of_ble_eq_true rfl) (lv0 := [(0, .ref (ad 55)), (1, .int a1), (2, .int a2)]) rfl ?_
  unfold f_X10_isSum at h
  refine wp_iload_n dX10_isSum_0 2 rfl ?_
  refine wp_sipush (v := 6016) dX10_isSum_1 (by decide) ?_
  refine wp_icmp_ge 37 dX10_isSum_4 rfl (fun c4 => ?_) (fun c4 => ?_)
  · replace h := o_pos h c4
    refine wp_iconst (v := 0) dX10_isSum_37 (by decide) ?_
    obtain rfl := Option.some.inj h
    exact wp_ireturn (ty := .boolean) dX10_isSum_38 rfl rfl ⟨rfl, rfl, rfl, rfl⟩
  · replace h := o_neg h c4
    refine wp_aload_n dX10_isSum_7 0 rfl ?_
    refine wp_getR (k := 55) (a' := ad 80) dX10_isSum_8 flX10_93 rfl rfl rfl rfl rfl ?_
    refine wp_bipush (v := 94) dX10_isSum_11 (by decide) ?_
    refine wp_iload_n dX10_isSum_13 1 rfl ?_
    refine wp_imul dX10_isSum_14 ?_
    refine wp_iload_n dX10_isSum_15 2 rfl ?_
    refine wp_bipush (v := 64) dX10_isSum_16 (by decide) ?_
    refine wp_idiv dX10_isSum_18 (by decide) ?_
    refine wp_iadd dX10_isSum_19 ?_
    obtain ⟨g20, h⟩ := o_grd h
    refine wp_lald (k := 80) dX10_isSum_20 rfl rfl (inb_of g20) ?_
    refine wp_iload_n dX10_isSum_21 2 rfl ?_
    refine wp_bipush (v := 64) dX10_isSum_22 (by decide) ?_
    refine wp_irem dX10_isSum_24 (by decide) ?_
    refine wp_lshr dX10_isSum_25 ?_
    refine wp_lconst (v := 1) dX10_isSum_26 (by decide) ?_
    refine wp_land dX10_isSum_27 ?_
    refine wp_lconst (v := 1) dX10_isSum_28 (by decide) ?_
    refine wp_lcmp dX10_isSum_29 ?_
    refine wp_if_ne 37 dX10_isSum_30 rfl (fun c30 => ?_) (fun c30 => ?_)
    · replace h := o_neg h c30
      refine wp_iconst (v := 0) dX10_isSum_37 (by decide) ?_
      obtain rfl := Option.some.inj h
      exact wp_ireturn (ty := .boolean) dX10_isSum_38 rfl rfl ⟨rfl, rfl, rfl, rfl⟩
    · replace h := o_pos h c30
      refine wp_iconst (v := 1) dX10_isSum_33 (by decide) ?_
      refine wp_goto 38 dX10_isSum_34 rfl ?_
      obtain rfl := Option.some.inj h
      exact wp_ireturn (ty := .boolean) dX10_isSum_38 rfl rfl ⟨rfl, rfl, rfl, rfl⟩
def f_X10_wentFor_44 : Nat → Int32 → Int32 → Int32 → Int32 → Int32 → IT → JT → Option (Int32 × JT)
  | 0, _, _, _, _, _, _, _ => none
  | n + 1, v1, v2, v3, v4, v5, I, J =>
    if ((1 : Int32) <<< ((I 55 0) &&& 31)) ≤ v5 then
      if v2 = 0 then
        some (v3, J)
      else
        if v3 = 0 then
          some ((-1), J)
        else
          some (v4, J)
    else
      (f_X10_isSum v5 v1 J).bind fun r59 =>
      if r59 = 0 then
        f_X10_wentFor_44 n v1 v2 v3 v4 (v5 + 1) I J
      else
        f_X10_wentFor_44 n v1 v2 (v3 + 1) (v4 &&& v5) (v5 + 1) I J
def f_X10_wentFor (a1 : Int32) (a2 : Int32) (I : IT) (J : JT) : Option (Int32 × JT) :=
  (f_X10_in a1.toInt64 0 9999).bind fun r6 =>
  if r6 = 0 then
    some ((-1000002), J)
  else
    (f_X10_in a2.toInt64 0 1).bind fun r16 =>
    if r16 = 0 then
      some ((-1000002), J)
    else
      (f_X10_findSums I J).bind fun r26 =>
      f_X10_wentFor_44 FU a1 a2 0 (((1 : Int32) <<< ((I 55 0) &&& 31)) - 1) 0 I r26
set_option maxRecDepth 100000 in
set_option maxHeartbeats 4000000 in
theorem w_X10_wentFor_44 (Γ : GT) (ad : Nat → Nat) : ∀ (n : Nat) (v1 : Int32) (v2 : Int32) (v3 : Int32) (v4 : Int32) (v5 : Int32) (I : IT) (J : JT) (r : Int32 × JT), f_X10_wentFor_44 n v1 v2 v3 v4 v5 I J = some r → WP Γ mX10_wentFor (0, 0) 44 [(0, .ref (ad 55)), (1, .int v1), (2, .int v2), (3, .int v3), (4, .int v4), (5, .int v5)] [] (DX ad) I J (QE (some (.int r.1)) (DX ad) I r.2) := by
  intro n
  induction n with
  | zero => intro v1 v2 v3 v4 v5 I J r h; exact absurd h (by simp [f_X10_wentFor_44])
  | succ n ih =>
    intro v1 v2 v3 v4 v5 I J r h
    rw [f_X10_wentFor_44] at h
    refine wp_iload dX10_wentFor_44 5 rfl ?_
    refine wp_iconst (v := 1) dX10_wentFor_46 (by decide) ?_
    refine wp_aload_n dX10_wentFor_47 0 rfl ?_
    refine wp_getI (k := 55) dX10_wentFor_48 flX10_121 rfl rfl rfl rfl ?_
    refine wp_ishl dX10_wentFor_51 ?_
    refine wp_icmp_ge 81 dX10_wentFor_52 rfl (fun c52 => ?_) (fun c52 => ?_)
    · replace h := o_pos h c52
      refine wp_iload_n dX10_wentFor_81 2 rfl ?_
      refine wp_if_ne 89 dX10_wentFor_82 rfl (fun c82 => ?_) (fun c82 => ?_)
      · replace h := o_neg h c82
        refine wp_iload_n dX10_wentFor_89 3 rfl ?_
        refine wp_if_ne 97 dX10_wentFor_90 rfl (fun c90 => ?_) (fun c90 => ?_)
        · replace h := o_neg h c90
          refine wp_iload dX10_wentFor_97 4 rfl ?_
          obtain rfl := Option.some.inj h
          exact wp_ireturn (ty := .int) dX10_wentFor_99 rfl rfl ⟨rfl, rfl, rfl, rfl⟩
        · replace h := o_pos h c90
          refine wp_iconst (v := (-1)) dX10_wentFor_93 (by decide) ?_
          refine wp_goto 99 dX10_wentFor_94 rfl ?_
          obtain rfl := Option.some.inj h
          exact wp_ireturn (ty := .int) dX10_wentFor_99 rfl rfl ⟨rfl, rfl, rfl, rfl⟩
      · replace h := o_pos h c82
        refine wp_iload_n dX10_wentFor_85 3 rfl ?_
        refine wp_goto 99 dX10_wentFor_86 rfl ?_
        obtain rfl := Option.some.inj h
        exact wp_ireturn (ty := .int) dX10_wentFor_99 rfl rfl ⟨rfl, rfl, rfl, rfl⟩
    · replace h := o_neg h c52
      refine wp_aload_n dX10_wentFor_55 0 rfl ?_
      refine wp_iload dX10_wentFor_56 5 rfl ?_
      refine wp_iload_n dX10_wentFor_58 1 rfl ?_
      obtain ⟨r59, h59, h⟩ := o_bind h
      refine wp_callvI (k := 55) (ci := 10) (c_X10_isSum Γ ad v5 v1 I J r59 h59) dX10_wentFor_59 mlX10_384 mwX10_isSum miX10_isSum rfl rfl rfl rfl (Nat.le_of_ble_eq_true rfl) rfl (by decide) (by decide) ?_
      refine wp_if_eq 75 dX10_wentFor_62 rfl (fun c62 => ?_) (fun c62 => ?_)
      · replace h := o_pos h c62
        refine wp_iinc (v := v5 + 1) (lv' := [(0, _), (1, _), (2, _), (3, _), (4, _), (5, _)]) dX10_wentFor_75 5 rfl rfl rfl rfl rfl ?_
        refine wp_goto 44 dX10_wentFor_78 rfl ?_
        refine wp_pick [0, 1, 2, 3, 4, 5] (lv' := [(0, _), (1, _), (2, _), (3, _), (4, _), (5, _)]) rfl ?_
        exact ih v1 v2 v3 v4 (v5 + 1) I J r h
      · replace h := o_neg h c62
        refine wp_iinc (v := v3 + 1) (lv' := [(0, _), (1, _), (2, _), (3, _), (4, _), (5, _)]) dX10_wentFor_65 3 rfl rfl rfl rfl rfl ?_
        refine wp_iload dX10_wentFor_68 4 rfl ?_
        refine wp_iload dX10_wentFor_70 5 rfl ?_
        refine wp_iand dX10_wentFor_72 ?_
        refine wp_istore (lv' := [(0, _), (1, _), (2, _), (3, _), (4, _), (5, _)]) dX10_wentFor_73 rfl rfl rfl ?_
        refine wp_iinc (v := v5 + 1) (lv' := [(0, _), (1, _), (2, _), (3, _), (4, _), (5, _)]) dX10_wentFor_75 5 rfl rfl rfl rfl rfl ?_
        refine wp_goto 44 dX10_wentFor_78 rfl ?_
        refine wp_pick [0, 1, 2, 3, 4, 5] (lv' := [(0, _), (1, _), (2, _), (3, _), (4, _), (5, _)]) rfl ?_
        exact ih v1 v2 (v3 + 1) (v4 &&& v5) (v5 + 1) I J r h
set_option maxRecDepth 100000 in
set_option maxHeartbeats 4000000 in
theorem c_X10_wentFor (Γ : GT) (ad : Nat → Nat) (a1 : Int32) (a2 : Int32) (I : IT) (J : JT) (r : Int32 × JT) (h : f_X10_wentFor a1 a2 I J = some r) : CALL Γ mX10_wentFor (0, 0) [.ref (ad 55), .int a1, .int a2] (DX ad) I J (QE (some (.int r.1)) (DX ad) I r.2) := by
  refine call_of' (by decide) (Nat.le_of_ble_eq_true rfl) (lv0 := [(0, .ref (ad 55)), (1, .int a1), (2, .int a2)]) rfl ?_
  unfold f_X10_wentFor at h
  refine wp_iload_n dX10_wentFor_0 1 rfl ?_
  refine wp_i2l dX10_wentFor_1 ?_
  refine wp_lconst (v := 0) dX10_wentFor_2 (by decide) ?_
  refine wp_ldc2 (v := 9999) dX10_wentFor_3 klX10_379 ?_
  obtain ⟨r6, h6, h⟩ := o_bind h
  refine wp_callsI (c_X10_in Γ ad a1.toInt64 0 9999 I J r6 h6) dX10_wentFor_6 mlX10_134 mwX10_in miX10_in rfl (Nat.le_of_ble_eq_true rfl) rfl (by decide) (by decide) ?_
  refine wp_if_eq 22 dX10_wentFor_9 rfl (fun c9 => ?_) (fun c9 => ?_)
  · replace h := o_pos h c9
    refine wp_ldc (v := (-1000002)) dX10_wentFor_22 kcX10_143 ?_
    obtain rfl := Option.some.inj h
    exact wp_ireturn (ty := .int) dX10_wentFor_24 rfl rfl ⟨rfl, rfl, rfl, rfl⟩
  · replace h := o_neg h c9
    refine wp_iload_n dX10_wentFor_12 2 rfl ?_
    refine wp_i2l dX10_wentFor_13 ?_
    refine wp_lconst (v := 0) dX10_wentFor_14 (by decide) ?_
    refine wp_lconst (v := 1) dX10_wentFor_15 (by decide) ?_
    obtain ⟨r16, h16, h⟩ := o_bind h
    refine wp_callsI (c_X10_in Γ ad a2.toInt64 0 1 I J r16 h16) dX10_wentFor_16 mlX10_134 mwX10_in miX10_in rfl (Nat.le_of_ble_eq_true rfl) rfl (by decide) (by decide) ?_
    refine wp_if_ne 25 dX10_wentFor_19 rfl (fun c19 => ?_) (fun c19 => ?_)
    · replace h := o_neg h c19
      refine wp_aload_n dX10_wentFor_25 0 rfl ?_
      obtain ⟨r26, h26, h⟩ := o_bind h
      refine wp_callvV (k := 55) (ci := 10) (c_X10_findSums Γ ad I J r26 h26) dX10_wentFor_26 mlX10_381 mwX10_findSums miX10_findSums rfl rfl rfl rfl (Nat.le_of_ble_eq_true rfl) rfl (by decide) (by decide) ?_
      refine wp_iconst (v := 0) dX10_wentFor_29 (by decide) ?_
      refine wp_istore_n (lv' := [(0, _), (1, _), (2, _), (3, _)]) dX10_wentFor_30 rfl rfl rfl rfl ?_
      refine wp_iconst (v := 1) dX10_wentFor_31 (by decide) ?_
      refine wp_aload_n dX10_wentFor_32 0 rfl ?_
      refine wp_getI (k := 55) dX10_wentFor_33 flX10_121 rfl rfl rfl rfl ?_
      refine wp_ishl dX10_wentFor_36 ?_
      refine wp_iconst (v := 1) dX10_wentFor_37 (by decide) ?_
      refine wp_isub dX10_wentFor_38 ?_
      refine wp_istore (lv' := [(0, _), (1, _), (2, _), (3, _), (4, _)]) dX10_wentFor_39 rfl rfl rfl ?_
      refine wp_iconst (v := 0) dX10_wentFor_41 (by decide) ?_
      refine wp_istore (lv' := [(0, _), (1, _), (2, _), (3, _), (4, _), (5, _)]) dX10_wentFor_42 rfl rfl rfl ?_
      refine wp_pick [0, 1, 2, 3, 4, 5] (lv' := [(0, _), (1, _), (2, _), (3, _), (4, _), (5, _)]) rfl ?_
      exact w_X10_wentFor_44 Γ ad FU a1 a2 0 (((1 : Int32) <<< ((I 55 0) &&& 31)) - 1) 0 I r26 r h
    · replace h := o_pos h c19
      refine wp_ldc (v := (-1000002)) dX10_wentFor_22 kcX10_143 ?_
      obtain rfl := Option.some.inj h
      exact wp_ireturn (ty := .int) dX10_wentFor_24 rfl rfl ⟨rfl, rfl, rfl, rfl⟩
def f_X10_wantsTo (a1 : Int32) (a2 : Int32) (I : IT) : Option (Int32) :=
  if inbB a1 6 = true then
    if inbB ((6 * a2) + a1) 36 = true then
      if (I 58 ((6 * a2) + a1).toNatClampNeg) < (I 56 a1.toNatClampNeg) then
        some 0
      else
        some 1
    else none
  else none
set_option maxRecDepth 100000 in
set_option maxHeartbeats 4000000 in
theorem c_X10_wantsTo (Γ : GT) (ad : Nat → Nat) (a1 : Int32) (a2 : Int32) (I : IT) (J : JT) (r : Int32) (h : f_X10_wantsTo a1 a2 I = some r) : CALL Γ mX10_wantsTo (0, 0) [.ref (ad 55), .int a1, .int a2] (DX ad) I J (QE (some (.int r)) (DX ad) I J) := by
  refine call_of' (by decide) (Nat.le_of_ble_eq_true rfl) (lv0 := [(0, .ref (ad 55)), (1, .int a1), (2, .int a2)]) rfl ?_
  unfold f_X10_wantsTo at h
  refine wp_aload_n dX10_wantsTo_0 0 rfl ?_
  refine wp_getR (k := 55) (a' := ad 56) dX10_wantsTo_1 flX10_7 rfl rfl rfl rfl rfl ?_
  refine wp_iload_n dX10_wantsTo_4 1 rfl ?_
  obtain ⟨g5, h⟩ := o_grd h
  refine wp_iald (k := 56) dX10_wantsTo_5 rfl rfl (inb_of g5) ?_
  refine wp_aload_n dX10_wantsTo_6 0 rfl ?_
  refine wp_getR (k := 55) (a' := ad 58) dX10_wantsTo_7 flX10_16 rfl rfl rfl rfl rfl ?_
  refine wp_bipush (v := 6) dX10_wantsTo_10 (by decide) ?_
  refine wp_iload_n dX10_wantsTo_12 2 rfl ?_
  refine wp_imul dX10_wantsTo_13 ?_
  refine wp_iload_n dX10_wantsTo_14 1 rfl ?_
  refine wp_iadd dX10_wantsTo_15 ?_
  obtain ⟨g16, h⟩ := o_grd h
  refine wp_iald (k := 58) dX10_wantsTo_16 rfl rfl (inb_of g16) ?_
  refine wp_icmp_gt 24 dX10_wantsTo_17 rfl (fun c17 => ?_) (fun c17 => ?_)
  · replace h := o_pos h c17
    refine wp_iconst (v := 0) dX10_wantsTo_24 (by decide) ?_
    obtain rfl := Option.some.inj h
    exact wp_ireturn (ty := .boolean) dX10_wantsTo_25 rfl rfl ⟨rfl, rfl, rfl, rfl⟩
  · replace h := o_neg h c17
    refine wp_iconst (v := 1) dX10_wantsTo_20 (by decide) ?_
    refine wp_goto 25 dX10_wantsTo_21 rfl ?_
    obtain rfl := Option.some.inj h
    exact wp_ireturn (ty := .boolean) dX10_wantsTo_25 rfl rfl ⟨rfl, rfl, rfl, rfl⟩
