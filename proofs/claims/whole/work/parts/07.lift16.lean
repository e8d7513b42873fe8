/-! lifted: X10_press X10_plain X10_twitches X10_beat X10_draw X10_tryBind -/
def f_X10_press (a1 : Int32) (a2 : Int32) (a3 : Int32) (a4 : Int32) (a5 : Int32) (I : IT) : Option (Int32 × IT) :=
  (f_X10_isPerson a1 I).bind fun r2 =>
  if r2 = 0 then
    some ((-1000001), I)
  else
    (f_X10_isPerson a2 I).bind fun r10 =>
    if r10 = 0 then
      some ((-1000001), I)
    else
      if a1 = a2 then
        some ((-1000001), I)
      else
        (f_X10_isLot a3 I).bind fun r23 =>
        if r23 = 0 then
          some ((-1000001), I)
        else
          if a5 = ((-1) : Int32) then
            (f_X10_in a4.toInt64 0 2).bind fun r81 =>
            if r81 = 0 then
              some ((-1000002), I)
            else
              (f_X10_pressed I).bind fun r91 =>
              if 0 ≤ r91 then
                if a4 = (2 : Int32) then
                  if (2 * r91) < 0 then
                    some ((-1000003), upI I 55 19 0)
                  else
                    if (999 : Int32) < (2 * r91) then
                      some ((-1000003), upI I 55 19 0)
                    else
                      (f_X10_isAsTold a1 a2 a3 a5 (upI I 55 19 0)).bind fun r146 =>
                      if r146 = 0 then
                        some ((-1000003), upI I 55 19 0)
                      else
                        if a5 = ((-1) : Int32) then
                          if a4 = (1 : Int32) then
                            some (2 * r91, upI I 55 19 0)
                          else
                            (f_X10_canBind a1 a3 (2 * r91) (upI I 55 19 0)).bind fun r182 =>
                            if r182 = 0 then
                              some ((-1000003), upI I 55 19 0)
                            else
                              (f_X10_bind a1 a3 (2 * r91) (upI I 55 19 0)).bind fun r198 =>
                              some (2 * r91, r198)
                        else
                          if a4 = (1 : Int32) then
                            some (2 * r91, upI I 55 19 0)
                          else
                            (f_X10_canBind a5 a3 (2 * r91) (upI I 55 19 0)).bind fun r182 =>
                            if r182 = 0 then
                              some ((-1000003), upI I 55 19 0)
                            else
                              (f_X10_bind a5 a3 (2 * r91) (upI I 55 19 0)).bind fun r198 =>
                              some (2 * r91, r198)
                else
                  if r91 < 0 then
                    some ((-1000003), upI I 55 19 0)
                  else
                    if (999 : Int32) < r91 then
                      some ((-1000003), upI I 55 19 0)
                    else
                      (f_X10_isAsTold a1 a2 a3 a5 (upI I 55 19 0)).bind fun r146 =>
                      if r146 = 0 then
                        some ((-1000003), upI I 55 19 0)
                      else
                        if a5 = ((-1) : Int32) then
                          if a4 = (1 : Int32) then
                            some (r91, upI I 55 19 0)
                          else
                            (f_X10_canBind a1 a3 r91 (upI I 55 19 0)).bind fun r182 =>
                            if r182 = 0 then
                              some ((-1000003), upI I 55 19 0)
                            else
                              (f_X10_bind a1 a3 r91 (upI I 55 19 0)).bind fun r198 =>
                              some (r91, r198)
                        else
                          if a4 = (1 : Int32) then
                            some (r91, upI I 55 19 0)
                          else
                            (f_X10_canBind a5 a3 r91 (upI I 55 19 0)).bind fun r182 =>
                            if r182 = 0 then
                              some ((-1000003), upI I 55 19 0)
                            else
                              (f_X10_bind a5 a3 r91 (upI I 55 19 0)).bind fun r198 =>
                              some (r91, r198)
              else
                if ((-1) : Int32) < 0 then
                  some ((-1000003), upI I 55 19 0)
                else
                  if (999 : Int32) < ((-1) : Int32) then
                    some ((-1000003), upI I 55 19 0)
                  else
                    (f_X10_isAsTold a1 a2 a3 a5 (upI I 55 19 0)).bind fun r146 =>
                    if r146 = 0 then
                      some ((-1000003), upI I 55 19 0)
                    else
                      if a5 = ((-1) : Int32) then
                        if a4 = (1 : Int32) then
                          some ((-1), upI I 55 19 0)
                        else
                          (f_X10_canBind a1 a3 (-1) (upI I 55 19 0)).bind fun r182 =>
                          if r182 = 0 then
                            some ((-1000003), upI I 55 19 0)
                          else
                            (f_X10_bind a1 a3 (-1) (upI I 55 19 0)).bind fun r198 =>
                            some ((-1), r198)
                      else
                        if a4 = (1 : Int32) then
                          some ((-1), upI I 55 19 0)
                        else
                          (f_X10_canBind a5 a3 (-1) (upI I 55 19 0)).bind fun r182 =>
                          if r182 = 0 then
                            some ((-1000003), upI I 55 19 0)
                          else
                            (f_X10_bind a5 a3 (-1) (upI I 55 19 0)).bind fun r198 =>
                            some ((-1), r198)
          else
            (f_X10_isPerson a5 I).bind fun r42 =>
            if r42 = 0 then
              some ((-1000001), I)
            else
              (f_X10_sortOf a5 I).bind fun r51 =>
              if r51 = (2 : Int32) then
                some ((-1000001), I)
              else
                if a5 = a1 then
                  some ((-1000001), I)
                else
                  if a5 = a2 then
                    some ((-1000001), I)
                  else
                    (f_X10_in a4.toInt64 0 2).bind fun r81 =>
                    if r81 = 0 then
                      some ((-1000002), I)
                    else
                      (f_X10_pressed I).bind fun r91 =>
                      if 0 ≤ r91 then
                        if a4 = (2 : Int32) then
                          if (2 * r91) < 0 then
                            some ((-1000003), upI I 55 19 0)
                          else
                            if (999 : Int32) < (2 * r91) then
                              some ((-1000003), upI I 55 19 0)
                            else
                              (f_X10_isAsTold a1 a2 a3 a5 (upI I 55 19 0)).bind fun r146 =>
                              if r146 = 0 then
                                some ((-1000003), upI I 55 19 0)
                              else
                                if a5 = ((-1) : Int32) then
                                  if a4 = (1 : Int32) then
                                    some (2 * r91, upI I 55 19 0)
                                  else
                                    (f_X10_canBind a1 a3 (2 * r91) (upI I 55 19 0)).bind fun r182 =>
                                    if r182 = 0 then
                                      some ((-1000003), upI I 55 19 0)
                                    else
                                      (f_X10_bind a1 a3 (2 * r91) (upI I 55 19 0)).bind fun r198 =>
                                      some (2 * r91, r198)
                                else
                                  if a4 = (1 : Int32) then
                                    some (2 * r91, upI I 55 19 0)
                                  else
                                    (f_X10_canBind a5 a3 (2 * r91) (upI I 55 19 0)).bind fun r182 =>
                                    if r182 = 0 then
                                      some ((-1000003), upI I 55 19 0)
                                    else
                                      (f_X10_bind a5 a3 (2 * r91) (upI I 55 19 0)).bind fun r198 =>
                                      some (2 * r91, r198)
                        else
                          if r91 < 0 then
                            some ((-1000003), upI I 55 19 0)
                          else
                            if (999 : Int32) < r91 then
                              some ((-1000003), upI I 55 19 0)
                            else
                              (f_X10_isAsTold a1 a2 a3 a5 (upI I 55 19 0)).bind fun r146 =>
                              if r146 = 0 then
                                some ((-1000003), upI I 55 19 0)
                              else
                                if a5 = ((-1) : Int32) then
                                  if a4 = (1 : Int32) then
                                    some (r91, upI I 55 19 0)
                                  else
                                    (f_X10_canBind a1 a3 r91 (upI I 55 19 0)).bind fun r182 =>
                                    if r182 = 0 then
                                      some ((-1000003), upI I 55 19 0)
                                    else
                                      (f_X10_bind a1 a3 r91 (upI I 55 19 0)).bind fun r198 =>
                                      some (r91, r198)
                                else
                                  if a4 = (1 : Int32) then
                                    some (r91, upI I 55 19 0)
                                  else
                                    (f_X10_canBind a5 a3 r91 (upI I 55 19 0)).bind fun r182 =>
                                    if r182 = 0 then
                                      some ((-1000003), upI I 55 19 0)
                                    else
                                      (f_X10_bind a5 a3 r91 (upI I 55 19 0)).bind fun r198 =>
                                      some (r91, r198)
                      else
                        if ((-1) : Int32) < 0 then
                          some ((-1000003), upI I 55 19 0)
                        else
                          if (999 : Int32) < ((-1) : Int32) then
                            some ((-1000003), upI I 55 19 0)
                          else
                            (f_X10_isAsTold a1 a2 a3 a5 (upI I 55 19 0)).bind fun r146 =>
                            if r146 = 0 then
                              some ((-1000003), upI I 55 19 0)
                            else
                              if a5 = ((-1) : Int32) then
                                if a4 = (1 : Int32) then
                                  some ((-1), upI I 55 19 0)
                                else
                                  (f_X10_canBind a1 a3 (-1) (upI I 55 19 0)).bind fun r182 =>
                                  if r182 = 0 then
                                    some ((-1000003), upI I 55 19 0)
                                  else
                                    (f_X10_bind a1 a3 (-1) (upI I 55 19 0)).bind fun r198 =>
                                    some ((-1), r198)
                              else
                                if a4 = (1 : Int32) then
                                  some ((-1), upI I 55 19 0)
                                else
                                  (f_X10_canBind a5 a3 (-1) (upI I 55 19 0)).bind fun r182 =>
                                  if r182 = 0 then
                                    some ((-1000003), upI I 55 19 0)
                                  else
                                    (f_X10_bind a5 a3 (-1) (upI I 55 19 0)).bind fun r198 =>
                                    some ((-1), r198)
set_option maxRecDepth 100000 in
set_option maxHeartbeats 4000000 in
theorem c_X10_press (Γ : GT) (ad : Nat → Nat) (a1 : Int32) (a2 : Int32) (a3 : Int32) (a4 : Int32) (a5 : Int32) (I : IT) (J : JT) (r : Int32 × IT) (h : f_X10_press a1 a2 a3 a4 a5 I = some r) : CALL Γ mX10_press (0, 0) [.ref (ad 55), .int a1, .int a2, .int a3, .int a4, .int a5] (DX ad) I J (QE (some (.int r.1)) (DX ad) r.2 J) := by
  refine call_of' (by decide) (Nat.le_of_ble_eq_true rfl) (lv0 := [(0, .ref (ad 55)), (1, .int a1), (2, .int a2), (3, .int a3), (4, .int a4), (5, .int a5)]) rfl ?_
  unfold f_X10_press at h
  refine wp_aload_n dX10_press_0 0 rfl ?_
  refine wp_iload_n dX10_press_1 1 rfl ?_
  obtain ⟨r2, h2, h⟩ := o_bind h
  refine wp_callvI (k := 55) (ci := 10) (c_X10_isPerson Γ ad a1 I J r2 h2) dX10_press_2 mlX10_261 mwX10_isPerson miX10_isPerson rfl rfl rfl rfl (Nat.le_of_ble_eq_true rfl) rfl (by decide) (by decide) ?_
  refine wp_if_eq 29 dX10_press_5 rfl (fun c5 => ?_) (fun c5 => ?_)
  · replace h := o_pos h c5
    refine wp_ldcw (v := (-1000001)) dX10_press_29 kcX10_264 ?_
    obtain rfl := Option.some.inj h
    exact wp_ireturn (ty := .int) dX10_press_32 rfl rfl ⟨rfl, rfl, rfl, rfl⟩
  · replace h := o_neg h c5
    refine wp_aload_n dX10_press_8 0 rfl ?_
    refine wp_iload_n dX10_press_9 2 rfl ?_
    obtain ⟨r10, h10, h⟩ := o_bind h
    refine wp_callvI (k := 55) (ci := 10) (c_X10_isPerson Γ ad a2 I J r10 h10) dX10_press_10 mlX10_261 mwX10_isPerson miX10_isPerson rfl rfl rfl rfl (Nat.le_of_ble_eq_true rfl) rfl (by decide) (by decide) ?_
    refine wp_if_eq 29 dX10_press_13 rfl (fun c13 => ?_) (fun c13 => ?_)
    · replace h := o_pos h c13
      refine wp_ldcw (v := (-1000001)) dX10_press_29 kcX10_264 ?_
      obtain rfl := Option.some.inj h
      exact wp_ireturn (ty := .int) dX10_press_32 rfl rfl ⟨rfl, rfl, rfl, rfl⟩
    · replace h := o_neg h c13
      refine wp_iload_n dX10_press_16 1 rfl ?_
      refine wp_iload_n dX10_press_17 2 rfl ?_
      refine wp_icmp_eq 29 dX10_press_18 rfl (fun c18 => ?_) (fun c18 => ?_)
      · replace h := o_pos h c18
        refine wp_ldcw (v := (-1000001)) dX10_press_29 kcX10_264 ?_
        obtain rfl := Option.some.inj h
        exact wp_ireturn (ty := .int) dX10_press_32 rfl rfl ⟨rfl, rfl, rfl, rfl⟩
      · replace h := o_neg h c18
        refine wp_aload_n dX10_press_21 0 rfl ?_
        refine wp_iload_n dX10_press_22 3 rfl ?_
        obtain ⟨r23, h23, h⟩ := o_bind h
        refine wp_callvI (k := 55) (ci := 10) (c_X10_isLot Γ ad a3 I J r23 h23) dX10_press_23 mlX10_271 mwX10_isLot miX10_isLot rfl rfl rfl rfl (Nat.le_of_ble_eq_true rfl) rfl (by decide) (by decide) ?_
        refine wp_if_ne 33 dX10_press_26 rfl (fun c26 => ?_) (fun c26 => ?_)
        · replace h := o_neg h c26
          refine wp_iload dX10_press_33 5 rfl ?_
          refine wp_iconst (v := (-1)) dX10_press_35 (by decide) ?_
          refine wp_icmp_eq 74 dX10_press_36 rfl (fun c36 => ?_) (fun c36 => ?_)
          · replace h := o_pos h c36
            refine wp_iload dX10_press_74 4 rfl ?_
            refine wp_i2l dX10_press_76 ?_
            refine wp_lconst (v := 0) dX10_press_77 (by decide) ?_
            refine wp_ldc2 (v := 2) dX10_press_78 klX10_297 ?_
            obtain ⟨r81, h81, h⟩ := o_bind h
            refine wp_callsI (c_X10_in Γ ad a4.toInt64 0 2 I J r81 h81) dX10_press_81 mlX10_134 mwX10_in miX10_in rfl (Nat.le_of_ble_eq_true rfl) rfl (by decide) (by decide) ?_
            refine wp_if_ne 90 dX10_press_84 rfl (fun c84 => ?_) (fun c84 => ?_)
            · replace h := o_neg h c84
              refine wp_aload_n dX10_press_90 0 rfl ?_
              obtain ⟨r91, h91, h⟩ := o_bind h
              refine wp_callvI (k := 55) (ci := 10) (c_X10_pressed Γ ad I J r91 h91) dX10_press_91 mlX10_287 mwX10_pressed miX10_pressed rfl rfl rfl rfl (Nat.le_of_ble_eq_true rfl) rfl (by decide) (by decide) ?_
              refine wp_istore (lv' := [(0, _), (1, _), (2, _), (3, _), (4, _), (5, _), (6, _)]) dX10_press_94 rfl rfl rfl ?_
              refine wp_aload_n dX10_press_96 0 rfl ?_
              refine wp_iconst (v := 0) dX10_press_97 (by decide) ?_
              refine wp_putI (k := 55) dX10_press_98 flX10_144 rfl rfl rfl rfl rfl rfl rfl rfl ?_
              refine wp_iload dX10_press_101 6 rfl ?_
              refine wp_if_ge 110 dX10_press_103 rfl (fun c103 => ?_) (fun c103 => ?_)
              · replace h := o_pos h c103
                refine wp_iload dX10_press_110 4 rfl ?_
                refine wp_iconst (v := 2) dX10_press_112 (by decide) ?_
                refine wp_icmp_ne 123 dX10_press_113 rfl (fun c113 => ?_) (fun c113 => ?_)
                · replace h := o_neg h c113
                  refine wp_iload dX10_press_123 6 rfl ?_
                  refine wp_istore (lv' := [(0, _), (1, _), (2, _), (3, _), (4, _), (5, _), (6, _)]) dX10_press_125 rfl rfl rfl ?_
                  refine wp_iload dX10_press_127 6 rfl ?_
                  refine wp_if_lt 152 dX10_press_129 rfl (fun c129 => ?_) (fun c129 => ?_)
                  · replace h := o_pos h c129
                    refine wp_ldcw (v := (-1000003)) dX10_press_152 kcX10_284 ?_
                    obtain rfl := Option.some.inj h
                    exact wp_ireturn (ty := .int) dX10_press_155 rfl rfl ⟨rfl, rfl, rfl, rfl⟩
                  · replace h := o_neg h c129
                    refine wp_iload dX10_press_132 6 rfl ?_
                    refine wp_sipush (v := 999) dX10_press_134 (by decide) ?_
                    refine wp_icmp_gt 152 dX10_press_137 rfl (fun c137 => ?_) (fun c137 => ?_)
                    · replace h := o_pos h c137
                      refine wp_ldcw (v := (-1000003)) dX10_press_152 kcX10_284 ?_
                      obtain rfl := Option.some.inj h
                      exact wp_ireturn (ty := .int) dX10_press_155 rfl rfl ⟨rfl, rfl, rfl, rfl⟩
                    · replace h := o_neg h c137
                      refine wp_aload_n dX10_press_140 0 rfl ?_
                      refine wp_iload_n dX10_press_141 1 rfl ?_
                      refine wp_iload_n dX10_press_142 2 rfl ?_
                      refine wp_iload_n dX10_press_143 3 rfl ?_
                      refine wp_iload dX10_press_144 5 rfl ?_
                      obtain ⟨r146, h146, h⟩ := o_bind h
                      refine wp_callvI (k := 55) (ci := 10) (c_X10_isAsTold Γ ad a1 a2 a3 a5 (upI I 55 19 0) J r146 h146) dX10_press_146 mlX10_299 mwX10_isAsTold miX10_isAsTold rfl rfl rfl rfl (Nat.le_of_ble_eq_true rfl) rfl (by decide) (by decide) ?_
                      refine wp_if_ne 156 dX10_press_149 rfl (fun c149 => ?_) (fun c149 => ?_)
                      · replace h := o_neg h c149
                        refine wp_iload dX10_press_156 5 rfl ?_
                        refine wp_iconst (v := (-1)) dX10_press_158 (by decide) ?_
                        refine wp_icmp_ne 166 dX10_press_159 rfl (fun c159 => ?_) (fun c159 => ?_)
                        · replace h := o_neg h c159
                          refine wp_iload dX10_press_166 5 rfl ?_
                          refine wp_istore (lv' := [(0, _), (1, _), (2, _), (3, _), (4, _), (5, _), (6, _), (7, _)]) dX10_press_168 rfl rfl rfl ?_
                          refine wp_iload dX10_press_170 4 rfl ?_
                          refine wp_iconst (v := 1) dX10_press_172 (by decide) ?_
                          refine wp_icmp_eq 201 dX10_press_173 rfl (fun c173 => ?_) (fun c173 => ?_)
                          · replace h := o_pos h c173
                            refine wp_iload dX10_press_201 6 rfl ?_
                            obtain rfl := Option.some.inj h
                            exact wp_ireturn (ty := .int) dX10_press_203 rfl rfl ⟨rfl, rfl, rfl, rfl⟩
                          · replace h := o_neg h c173
                            refine wp_aload_n dX10_press_176 0 rfl ?_
                            refine wp_iload dX10_press_177 7 rfl ?_
                            refine wp_iload_n dX10_press_179 3 rfl ?_
                            refine wp_iload dX10_press_180 6 rfl ?_
                            obtain ⟨r182, h182, h⟩ := o_bind h
                            refine wp_callvI (k := 55) (ci := 10) (c_X10_canBind Γ ad a5 a3 r91 (upI I 55 19 0) J r182 h182) dX10_press_182 mlX10_303 mwX10_canBind miX10_canBind rfl rfl rfl rfl (Nat.le_of_ble_eq_true rfl) rfl (by decide) (by decide) ?_
                            refine wp_if_ne 192 dX10_press_185 rfl (fun c185 => ?_) (fun c185 => ?_)
                            · replace h := o_neg h c185
                              refine wp_aload_n dX10_press_192 0 rfl ?_
                              refine wp_iload dX10_press_193 7 rfl ?_
                              refine wp_iload_n dX10_press_195 3 rfl ?_
                              refine wp_iload dX10_press_196 6 rfl ?_
                              obtain ⟨r198, h198, h⟩ := o_bind h
                              refine wp_callvV (k := 55) (ci := 10) (c_X10_bind Γ ad a5 a3 r91 (upI I 55 19 0) J r198 h198) dX10_press_198 mlX10_307 mwX10_bind miX10_bind rfl rfl rfl rfl (Nat.le_of_ble_eq_true rfl) rfl (by decide) (by decide) ?_
                              refine wp_iload dX10_press_201 6 rfl ?_
                              obtain rfl := Option.some.inj h
                              exact wp_ireturn (ty := .int) dX10_press_203 rfl rfl ⟨rfl, rfl, rfl, rfl⟩
                            · replace h := o_pos h c185
                              refine wp_ldcw (v := (-1000003)) dX10_press_188 kcX10_284 ?_
                              obtain rfl := Option.some.inj h
                              exact wp_ireturn (ty := .int) dX10_press_191 rfl rfl ⟨rfl, rfl, rfl, rfl⟩
                        · replace h := o_pos h c159
                          refine wp_iload_n dX10_press_162 1 rfl ?_
                          refine wp_goto 168 dX10_press_163 rfl ?_
                          refine wp_istore (lv' := [(0, _), (1, _), (2, _), (3, _), (4, _), (5, _), (6, _), (7, _)]) dX10_press_168 rfl rfl rfl ?_
                          refine wp_iload dX10_press_170 4 rfl ?_
                          refine wp_iconst (v := 1) dX10_press_172 (by decide) ?_
                          refine wp_icmp_eq 201 dX10_press_173 rfl (fun c173 => ?_) (fun c173 => ?_)
                          · replace h := o_pos h c173
                            refine wp_iload dX10_press_201 6 rfl ?_
                            obtain rfl := Option.some.inj h
                            exact wp_ireturn (ty := .int) dX10_press_203 rfl rfl ⟨rfl, rfl, rfl, rfl⟩
                          · replace h := o_neg h c173
                            refine wp_aload_n dX10_press_176 0 rfl ?_
                            refine wp_iload dX10_press_177 7 rfl ?_
                            refine wp_iload_n dX10_press_179 3 rfl ?_
                            refine wp_iload dX10_press_180 6 rfl ?_
                            obtain ⟨r182, h182, h⟩ := o_bind h
                            refine wp_callvI (k := 55) (ci := 10) (c_X10_canBind Γ ad a1 a3 r91 (upI I 55 19 0) J r182 h182) dX10_press_182 mlX10_303 mwX10_canBind miX10_canBind rfl rfl rfl rfl (Nat.le_of_ble_eq_true rfl) rfl (by decide) (by decide) ?_
                            refine wp_if_ne 192 dX10_press_185 rfl (fun c185 => ?_) (fun c185 => ?_)
                            · replace h := o_neg h c185
                              refine wp_aload_n dX10_press_192 0 rfl ?_
                              refine wp_iload dX10_press_193 7 rfl ?_
                              refine wp_iload_n dX10_press_195 3 rfl ?_
                              refine wp_iload dX10_press_196 6 rfl ?_
                              obtain ⟨r198, h198, h⟩ := o_bind h
                              refine wp_callvV (k := 55) (ci := 10) (c_X10_bind Γ ad a1 a3 r91 (upI I 55 19 0) J r198 h198) dX10_press_198 mlX10_307 mwX10_bind miX10_bind rfl rfl rfl rfl (Nat.le_of_ble_eq_true rfl) rfl (by decide) (by decide) ?_
                              refine wp_iload dX10_press_201 6 rfl ?_
                              obtain rfl := Option.some.inj h
                              exact wp_ireturn (ty := .int) dX10_press_203 rfl rfl ⟨rfl, rfl, rfl, rfl⟩
                            · replace h := o_pos h c185
                              refine wp_ldcw (v := (-1000003)) dX10_press_188 kcX10_284 ?_
                              obtain rfl := Option.some.inj h
                              exact wp_ireturn (ty := .int) dX10_press_191 rfl rfl ⟨rfl, rfl, rfl, rfl⟩
                      · replace h := o_pos h c149
                        refine wp_ldcw (v := (-1000003)) dX10_press_152 kcX10_284 ?_
                        obtain rfl := Option.some.inj h
                        exact wp_ireturn (ty := .int) dX10_press_155 rfl rfl ⟨rfl, rfl, rfl, rfl⟩
                · replace h := o_pos h c113
                  refine wp_iconst (v := 2) dX10_press_116 (by decide) ?_
                  refine wp_iload dX10_press_117 6 rfl ?_
                  refine wp_imul dX10_press_119 ?_
                  refine wp_goto 125 dX10_press_120 rfl ?_
                  refine wp_istore (lv' := [(0, _), (1, _), (2, _), (3, _), (4, _), (5, _), (6, _)]) dX10_press_125 rfl rfl rfl ?_
                  refine wp_iload dX10_press_127 6 rfl ?_
                  refine wp_if_lt 152 dX10_press_129 rfl (fun c129 => ?_) (fun c129 => ?_)
                  · replace h := o_pos h c129
                    refine wp_ldcw (v := (-1000003)) dX10_press_152 kcX10_284 ?_
                    obtain rfl := Option.some.inj h
                    exact wp_ireturn (ty := .int) dX10_press_155 rfl rfl ⟨rfl, rfl, rfl, rfl⟩
                  · replace h := o_neg h c129
                    refine wp_iload dX10_press_132 6 rfl ?_
                    refine wp_sipush (v := 999) dX10_press_134 (by decide) ?_
                    refine wp_icmp_gt 152 dX10_press_137 rfl (fun c137 => ?_) (fun c137 => ?_)
                    · replace h := o_pos h c137
                      refine wp_ldcw (v := (-1000003)) dX10_press_152 kcX10_284 ?_
                      obtain rfl := Option.some.inj h
                      exact wp_ireturn (ty := .int) dX10_press_155 rfl rfl ⟨rfl, rfl, rfl, rfl⟩
                    · replace h := o_neg h c137
                      refine wp_aload_n dX10_press_140 0 rfl ?_
                      refine wp_iload_n dX10_press_141 1 rfl ?_
                      refine wp_iload_n dX10_press_142 2 rfl ?_
                      refine wp_iload_n dX10_press_143 3 rfl ?_
                      refine wp_iload dX10_press_144 5 rfl ?_
                      obtain ⟨r146, h146, h⟩ := o_bind h
                      refine wp_callvI (k := 55) (ci := 10) (c_X10_isAsTold Γ ad a1 a2 a3 a5 (upI I 55 19 0) J r146 h146) dX10_press_146 mlX10_299 mwX10_isAsTold miX10_isAsTold rfl rfl rfl rfl (Nat.le_of_ble_eq_true rfl) rfl (by decide) (by decide) ?_
                      refine wp_if_ne 156 dX10_press_149 rfl (fun c149 => ?_) (fun c149 => ?_)
                      · replace h := o_neg h c149
                        refine wp_iload dX10_press_156 5 rfl ?_
                        refine wp_iconst (v := (-1)) dX10_press_158 (by decide) ?_
                        refine wp_icmp_ne 166 dX10_press_159 rfl (fun c159 => ?_) (fun c159 => ?_)
                        · replace h := o_neg h c159
                          refine wp_iload dX10_press_166 5 rfl ?_
                          refine wp_istore (lv' := [(0, _), (1, _), (2, _), (3, _), (4, _), (5, _), (6, _), (7, _)]) dX10_press_168 rfl rfl rfl ?_
                          refine wp_iload dX10_press_170 4 rfl ?_
                          refine wp_iconst (v := 1) dX10_press_172 (by decide) ?_
                          refine wp_icmp_eq 201 dX10_press_173 rfl (fun c173 => ?_) (fun c173 => ?_)
                          · replace h := o_pos h c173
                            refine wp_iload dX10_press_201 6 rfl ?_
                            obtain rfl := Option.some.inj h
                            exact wp_ireturn (ty := .int) dX10_press_203 rfl rfl ⟨rfl, rfl, rfl, rfl⟩
                          · replace h := o_neg h c173
                            refine wp_aload_n dX10_press_176 0 rfl ?_
                            refine wp_iload dX10_press_177 7 rfl ?_
                            refine wp_iload_n dX10_press_179 3 rfl ?_
                            refine wp_iload dX10_press_180 6 rfl ?_
                            obtain ⟨r182, h182, h⟩ := o_bind h
                            refine wp_callvI (k := 55) (ci := 10) (c_X10_canBind Γ ad a5 a3 (2 * r91) (upI I 55 19 0) J r182 h182) dX10_press_182 mlX10_303 mwX10_canBind miX10_canBind rfl rfl rfl rfl (Nat.le_of_ble_eq_true rfl) rfl (by decide) (by decide) ?_
                            refine wp_if_ne 192 dX10_press_185 rfl (fun c185 => ?_) (fun c185 => ?_)
                            · replace h := o_neg h c185
                              refine wp_aload_n dX10_press_192 0 rfl ?_
                              refine wp_iload dX10_press_193 7 rfl ?_
                              refine wp_iload_n dX10_press_195 3 rfl ?_
                              refine wp_iload dX10_press_196 6 rfl ?_
                              obtain ⟨r198, h198, h⟩ := o_bind h
                              refine wp_callvV (k := 55) (ci := 10) (c_X10_bind Γ ad a5 a3 (2 * r91) (upI I 55 19 0) J r198 h198) dX10_press_198 mlX10_307 mwX10_bind miX10_bind rfl rfl rfl rfl (Nat.le_of_ble_eq_true rfl) rfl (by decide) (by decide) ?_
                              refine wp_iload dX10_press_201 6 rfl ?_
                              obtain rfl := Option.some.inj h
                              exact wp_ireturn (ty := .int) dX10_press_203 rfl rfl ⟨rfl, rfl, rfl, rfl⟩
                            · replace h := o_pos h c185
                              refine wp_ldcw (v := (-1000003)) dX10_press_188 kcX10_284 ?_
                              obtain rfl := Option.some.inj h
                              exact wp_ireturn (ty := .int) dX10_press_191 rfl rfl ⟨rfl, rfl, rfl, rfl⟩
                        · replace h := o_pos h c159
                          refine wp_iload_n dX10_press_162 1 rfl ?_
                          refine wp_goto 168 dX10_press_163 rfl ?_
                          refine wp_istore (lv' := [(0, _), (1, _), (2, _), (3, _), (4, _), (5, _), (6, _), (7, _)]) dX10_press_168 rfl rfl rfl ?_
                          refine wp_iload dX10_press_170 4 rfl ?_
                          refine wp_iconst (v := 1) dX10_press_172 (by decide) ?_
                          refine wp_icmp_eq 201 dX10_press_173 rfl (fun c173 => ?_) (fun c173 => ?_)
                          · replace h := o_pos h c173
                            refine wp_iload dX10_press_201 6 rfl ?_
                            obtain rfl := Option.some.inj h
                            exact wp_ireturn (ty := .int) dX10_press_203 rfl rfl ⟨rfl, rfl, rfl, rfl⟩
                          · replace h := o_neg h c173
                            refine wp_aload_n dX10_press_176 0 rfl ?_
                            refine wp_iload dX10_press_177 7 rfl ?_
                            refine wp_iload_n dX10_press_179 3 rfl ?_
                            refine wp_iload dX10_press_180 6 rfl ?_
                            obtain ⟨r182, h182, h⟩ := o_bind h
                            refine wp_callvI (k := 55) (ci := 10) (c_X10_canBind Γ ad a1 a3 (2 * r91) (upI I 55 19 0) J r182 h182) dX10_press_182 mlX10_303 mwX10_canBind miX10_canBind rfl rfl rfl rfl (Nat.le_of_ble_eq_true rfl) rfl (by decide) (by decide) ?_
                            refine wp_if_ne 192 dX10_press_185 rfl (fun c185 => ?_) (fun c185 => ?_)
                            · replace h := o_neg h c185
                              refine wp_aload_n dX10_press_192 0 rfl ?_
                              refine wp_iload dX10_press_193 7 rfl ?_
                              refine wp_iload_n dX10_press_195 3 rfl ?_
                              refine wp_iload dX10_press_196 6 rfl ?_
                              obtain ⟨r198, h198, h⟩ := o_bind h
                              refine wp_callvV (k := 55) (ci := 10) (c_X10_bind Γ ad a1 a3 (2 * r91) (upI I 55 19 0) J r198 h198) dX10_press_198 mlX10_307 mwX10_bind miX10_bind rfl rfl rfl rfl (Nat.le_of_ble_eq_true rfl) rfl (by decide) (by decide) ?_
                              refine wp_iload dX10_press_201 6 rfl ?_
                              obtain rfl := Option.some.inj h
                              exact wp_ireturn (ty := .int) dX10_press_203 rfl rfl ⟨rfl, rfl, rfl, rfl⟩
                            · replace h := o_pos h c185
                              refine wp_ldcw (v := (-1000003)) dX10_press_188 kcX10_284 ?_
                              obtain rfl := Option.some.inj h
                              exact wp_ireturn (ty := .int) dX10_press_191 rfl rfl ⟨rfl, rfl, rfl, rfl⟩
                      · replace h := o_pos h c149
                        refine wp_ldcw (v := (-1000003)) dX10_press_152 kcX10_284 ?_
                        obtain rfl := Option.some.inj h
                        exact wp_ireturn (ty := .int) dX10_press_155 rfl rfl ⟨rfl, rfl, rfl, rfl⟩
              · replace h := o_neg h c103
                refine wp_iconst (v := (-1)) dX10_press_106 (by decide) ?_
                refine wp_goto 125 dX10_press_107 rfl ?_
                refine wp_istore (lv' := [(0, _), (1, _), (2, _), (3, _), (4, _), (5, _), (6, _)]) dX10_press_125 rfl rfl rfl ?_
                refine wp_iload dX10_press_127 6 rfl ?_
                refine wp_if_lt 152 dX10_press_129 rfl (fun c129 => ?_) (fun c129 => ?_)
                · replace h := o_pos h c129
                  refine wp_ldcw (v := (-1000003)) dX10_press_152 kcX10_284 ?_
                  obtain rfl := Option.some.inj h
                  exact wp_ireturn (ty := .int) dX10_press_155 rfl rfl ⟨rfl, rfl, rfl, rfl⟩
                · replace h := o_neg h c129
                  refine wp_iload dX10_press_132 6 rfl ?_
                  refine wp_sipush (v := 999) dX10_press_134 (by decide) ?_
                  refine wp_icmp_gt 152 dX10_press_137 rfl (fun c137 => ?_) (fun c137 => ?_)
                  · replace h := o_pos h c137
                    refine wp_ldcw (v := (-1000003)) dX10_press_152 kcX10_284 ?_
                    obtain rfl := Option.some.inj h
                    exact wp_ireturn (ty := .int) dX10_press_155 rfl rfl ⟨rfl, rfl, rfl, rfl⟩
                  · replace h := o_neg h c137
                    refine wp_aload_n dX10_press_140 0 rfl ?_
                    refine wp_iload_n dX10_press_141 1 rfl ?_
                    refine wp_iload_n dX10_press_142 2 rfl ?_
                    refine wp_iload_n dX10_press_143 3 rfl ?_
                    refine wp_iload dX10_press_144 5 rfl ?_
                    obtain ⟨r146, h146, h⟩ := o_bind h
                    refine wp_callvI (k := 55) (ci := 10) (c_X10_isAsTold Γ ad a1 a2 a3 a5 (upI I 55 19 0) J r146 h146) dX10_press_146 mlX10_299 mwX10_isAsTold miX10_isAsTold rfl rfl rfl rfl (Nat.le_of_ble_eq_true rfl) rfl (by decide) (by decide) ?_
                    refine wp_if_ne 156 dX10_press_149 rfl (fun c149 => ?_) (fun c149 => ?_)
                    · replace h := o_neg h c149
                      refine wp_iload dX10_press_156 5 rfl ?_
                      refine wp_iconst (v := (-1)) dX10_press_158 (by decide) ?_
                      refine wp_icmp_ne 166 dX10_press_159 rfl (fun c159 => ?_) (fun c159 => ?_)
                      · replace h := o_neg h c159
                        refine wp_iload dX10_press_166 5 rfl ?_
                        refine wp_istore (lv' := [(0, _), (1, _), (2, _), (3, _), (4, _), (5, _), (6, _), (7, _)]) dX10_press_168 rfl rfl rfl ?_
                        refine wp_iload dX10_press_170 4 rfl ?_
                        refine wp_iconst (v := 1) dX10_press_172 (by decide) ?_
                        refine wp_icmp_eq 201 dX10_press_173 rfl (fun c173 => ?_) (fun c173 => ?_)
                        · replace h := o_pos h c173
                          refine wp_iload dX10_press_201 6 rfl ?_
                          obtain rfl := Option.some.inj h
                          exact wp_ireturn (ty := .int) dX10_press_203 rfl rfl ⟨rfl, rfl, rfl, rfl⟩
                        · replace h := o_neg h c173
                          refine wp_aload_n dX10_press_176 0 rfl ?_
                          refine wp_iload dX10_press_177 7 rfl ?_
                          refine wp_iload_n dX10_press_179 3 rfl ?_
                          refine wp_iload dX10_press_180 6 rfl ?_
                          obtain ⟨r182, h182, h⟩ := o_bind h
                          refine wp_callvI (k := 55) (ci := 10) (c_X10_canBind Γ ad a5 a3 (-1) (upI I 55 19 0) J r182 h182) dX10_press_182 mlX10_303 mwX10_canBind miX10_canBind rfl rfl rfl rfl (Nat.le_of_ble_eq_true rfl) rfl (by decide) (by decide) ?_
                          refine wp_if_ne 192 dX10_press_185 rfl (fun c185 => ?_) (fun c185 => ?_)
                          · replace h := o_neg h c185
                            refine wp_aload_n dX10_press_192 0 rfl ?_
                            refine wp_iload dX10_press_193 7 rfl ?_
                            refine wp_iload_n dX10_press_195 3 rfl ?_
                            refine wp_iload dX10_press_196 6 rfl ?_
                            obtain ⟨r198, h198, h⟩ := o_bind h
                            refine wp_callvV (k := 55) (ci := 10) (c_X10_bind Γ ad a5 a3 (-1) (upI I 55 19 0) J r198 h198) dX10_press_198 mlX10_307 mwX10_bind miX10_bind rfl rfl rfl rfl (Nat.le_of_ble_eq_true rfl) rfl (by decide) (by decide) ?_
                            refine wp_iload dX10_press_201 6 rfl ?_
                            obtain rfl := Option.some.inj h
                            exact wp_ireturn (ty := .int) dX10_press_203 rfl rfl ⟨rfl, rfl, rfl, rfl⟩
                          · replace h := o_pos h c185
                            refine wp_ldcw (v := (-1000003)) dX10_press_188 kcX10_284 ?_
                            obtain rfl := Option.some.inj h
                            exact wp_ireturn (ty := .int) dX10_press_191 rfl rfl ⟨rfl, rfl, rfl, rfl⟩
                      · replace h := o_pos h c159
                        refine wp_iload_n dX10_press_162 1 rfl ?_
                        refine wp_goto 168 dX10_press_163 rfl ?_
                        refine wp_istore (lv' := [(0, _), (1, _), (2, _), (3, _), (4, _), (5, _), (6, _), (7, _)]) dX10_press_168 rfl rfl rfl ?_
                        refine wp_iload dX10_press_170 4 rfl ?_
                        refine wp_iconst (v := 1) dX10_press_172 (by decide) ?_
                        refine wp_icmp_eq 201 dX10_press_173 rfl (fun c173 => ?_) (fun c173 => ?_)
                        · replace h := o_pos h c173
                          refine wp_iload dX10_press_201 6 rfl ?_
                          obtain rfl := Option.some.inj h
                          exact wp_ireturn (ty := .int) dX10_press_203 rfl rfl ⟨rfl, rfl, rfl, rfl⟩
                        · replace h := o_neg h c173
                          refine wp_aload_n dX10_press_176 0 rfl ?_
                          refine wp_iload dX10_press_177 7 rfl ?_
                          refine wp_iload_n dX10_press_179 3 rfl ?_
                          refine wp_iload dX10_press_180 6 rfl ?_
                          obtain ⟨r182, h182, h⟩ := o_bind h
                          refine wp_callvI (k := 55) (ci := 10) (c_X10_canBind Γ ad a1 a3 (-1) (upI I 55 19 0) J r182 h182) dX10_press_182 mlX10_303 mwX10_canBind miX10_canBind rfl rfl rfl rfl (Nat.le_of_ble_eq_true rfl) rfl (by decide) (by decide) ?_
                          refine wp_if_ne 192 dX10_press_185 rfl (fun c185 => ?_) (fun c185 => ?_)
                          · replace h := o_neg h c185
                            refine wp_aload_n dX10_press_192 0 rfl ?_
                            refine wp_iload dX10_press_193 7 rfl ?_
                            refine wp_iload_n dX10_press_195 3 rfl ?_
                            refine wp_iload dX10_press_196 6 rfl ?_
                            obtain ⟨r198, h198, h⟩ := o_bind h
                            refine wp_callvV (k := 55) (ci := 10) (c_X10_bind Γ ad a1 a3 (-1) (upI I 55 19 0) J r198 h198) dX10_press_198 mlX10_307 mwX10_bind miX10_bind rfl rfl rfl rfl (Nat.le_of_ble_eq_true rfl) rfl (by decide) (by decide) ?_
                            refine wp_iload dX10_press_201 6 rfl ?_
                            obtain rfl := Option.some.inj h
                            exact wp_ireturn (ty := .int) dX10_press_203 rfl rfl ⟨rfl, rfl, rfl, rfl⟩
                          · replace h := o_pos h c185
                            refine wp_ldcw (v := (-1000003)) dX10_press_188 kcX10_284 ?_
                            obtain rfl := Option.some.inj h
                            exact wp_ireturn (ty := .int) dX10_press_191 rfl rfl ⟨rfl, rfl, rfl, rfl⟩
                    · replace h := o_pos h c149
                      refine wp_ldcw (v := (-1000003)) dX10_press_152 kcX10_284 ?_
                      obtain rfl := Option.some.inj h
                      exact wp_ireturn (ty := .int) dX10_press_155 rfl rfl ⟨rfl, rfl, rfl, rfl⟩
            · replace h := o_pos h c84
              refine wp_ldc (v := (-1000002)) dX10_press_87 kcX10_143 ?_
              obtain rfl := Option.some.inj h
              exact wp_ireturn (ty := .int) dX10_press_89 rfl rfl ⟨rfl, rfl, rfl, rfl⟩
          · replace h := o_neg h c36
            refine wp_aload_n dX10_press_39 0 rfl ?_
            refine wp_iload dX10_press_40 5 rfl ?_
            obtain ⟨r42, h42, h⟩ := o_bind h
            refine wp_callvI (k := 55) (ci := 10) (c_X10_isPerson Γ ad a5 I J r42 h42) dX10_press_42 mlX10_261 mwX10_isPerson miX10_isPerson rfl rfl rfl rfl (Nat.le_of_ble_eq_true rfl) rfl (by decide) (by decide) ?_
            refine wp_if_eq 70 dX10_press_45 rfl (fun c45 => ?_) (fun c45 => ?_)
            · replace h := o_pos h c45
              refine wp_ldcw (v := (-1000001)) dX10_press_70 kcX10_264 ?_
              obtain rfl := Option.some.inj h
              exact wp_ireturn (ty := .int) dX10_press_73 rfl rfl ⟨rfl, rfl, rfl, rfl⟩
            · replace h := o_neg h c45
              refine wp_aload_n dX10_press_48 0 rfl ?_
              refine wp_iload dX10_press_49 5 rfl ?_
              obtain ⟨r51, h51, h⟩ := o_bind h
              refine wp_callvI (k := 55) (ci := 10) (c_X10_sortOf Γ ad a5 I J r51 h51) dX10_press_51 mlX10_245 mwX10_sortOf miX10_sortOf rfl rfl rfl rfl (Nat.le_of_ble_eq_true rfl) rfl (by decide) (by decide) ?_
              refine wp_iconst (v := 2) dX10_press_54 (by decide) ?_
              refine wp_icmp_eq 70 dX10_press_55 rfl (fun c55 => ?_) (fun c55 => ?_)
              · replace h := o_pos h c55
                refine wp_ldcw (v := (-1000001)) dX10_press_70 kcX10_264 ?_
                obtain rfl := Option.some.inj h
                exact wp_ireturn (ty := .int) dX10_press_73 rfl rfl ⟨rfl, rfl, rfl, rfl⟩
              · replace h := o_neg h c55
                refine wp_iload dX10_press_58 5 rfl ?_
                refine wp_iload_n dX10_press_60 1 rfl ?_
                refine wp_icmp_eq 70 dX10_press_61 rfl (fun c61 => ?_) (fun c61 => ?_)
                · replace h := o_pos h c61
                  refine wp_ldcw (v := (-1000001)) dX10_press_70 kcX10_264 ?_
                  obtain rfl := Option.some.inj h
                  exact wp_ireturn (ty := .int) dX10_press_73 rfl rfl ⟨rfl, rfl, rfl, rfl⟩
                · replace h := o_neg h c61
                  refine wp_iload dX10_press_64 5 rfl ?_
                  refine wp_iload_n dX10_press_66 2 rfl ?_
                  refine wp_icmp_ne 74 dX10_press_67 rfl (fun c67 => ?_) (fun c67 => ?_)
                  · replace h := o_neg h c67
                    refine wp_iload dX10_press_74 4 rfl ?_
                    refine wp_i2l dX10_press_76 ?_
                    refine wp_lconst (v := 0) dX10_press_77 (by decide) ?_
                    refine wp_ldc2 (v := 2) dX10_press_78 klX10_297 ?_
                    obtain ⟨r81, h81, h⟩ := o_bind h
                    refine wp_callsI (c_X10_in Γ ad a4.toInt64 0 2 I J r81 h81) dX10_press_81 mlX10_134 mwX10_in miX10_in rfl (Nat.le_of_ble_eq_true rfl) rfl (by decide) (by decide) ?_
                    refine wp_if_ne 90 dX10_press_84 rfl (fun c84 => ?_) (fun c84 => ?_)
                    · replace h := o_neg h c84
                      refine wp_aload_n dX10_press_90 0 rfl ?_
                      obtain ⟨r91, h91, h⟩ := o_bind h
                      refine wp_callvI (k := 55) (ci := 10) (c_X10_pressed Γ ad I J r91 h91) dX10_press_91 mlX10_287 mwX10_pressed miX10_pressed rfl rfl rfl rfl (Nat.le_of_ble_eq_true rfl) rfl (by decide) (by decide) ?_
                      refine wp_istore (lv' := [(0, _), (1, _), (2, _), (3, _), (4, _), (5, _), (6, _)]) dX10_press_94 rfl rfl rfl ?_
                      refine wp_aload_n dX10_press_96 0 rfl ?_
                      refine wp_iconst (v := 0) dX10_press_97 (by decide) ?_
                      refine wp_putI (k := 55) dX10_press_98 flX10_144 rfl rfl rfl rfl rfl rfl rfl rfl ?_
                      refine wp_iload dX10_press_101 6 rfl ?_
                      refine wp_if_ge 110 dX10_press_103 rfl (fun c103 => ?_) (fun c103 => ?_)
                      · replace h := o_pos h c103
                        refine wp_iload dX10_press_110 4 rfl ?_
                        refine wp_iconst (v := 2) dX10_press_112 (by decide) ?_
                        refine wp_icmp_ne 123 dX10_press_113 rfl (fun c113 => ?_) (fun c113 => ?_)
                        · replace h := o_neg h c113
                          refine wp_iload dX10_press_123 6 rfl ?_
                          refine wp_istore (lv' := [(0, _), (1, _), (2, _), (3, _), (4, _), (5, _), (6, _)]) dX10_press_125 rfl rfl rfl ?_
                          refine wp_iload dX10_press_127 6 rfl ?_
                          refine wp_if_lt 152 dX10_press_129 rfl (fun c129 => ?_) (fun c129 => ?_)
                          · replace h := o_pos h c129
                            refine wp_ldcw (v := (-1000003)) dX10_press_152 kcX10_284 ?_
                            obtain rfl := Option.some.inj h
                            exact wp_ireturn (ty := .int) dX10_press_155 rfl rfl ⟨rfl, rfl, rfl, rfl⟩
                          · replace h := o_neg h c129
                            refine wp_iload dX10_press_132 6 rfl ?_
                            refine wp_sipush (v := 999) dX10_press_134 (by decide) ?_
                            refine wp_icmp_gt 152 dX10_press_137 rfl (fun c137 => ?_) (fun c137 => ?_)
                            · replace h := o_pos h c137
                              refine wp_ldcw (v := (-1000003)) dX10_press_152 kcX10_284 ?_
                              obtain rfl := Option.some.inj h
                              exact wp_ireturn (ty := .int) dX10_press_155 rfl rfl ⟨rfl, rfl, rfl, rfl⟩
                            · replace h := o_neg h c137
                              refine wp_aload_n dX10_press_140 0 rfl ?_
                              refine wp_iload_n dX10_press_141 1 rfl ?_
                              refine wp_iload_n dX10_press_142 2 rfl ?_
                              refine wp_iload_n dX10_press_143 3 rfl ?_
                              refine wp_iload dX10_press_144 5 rfl ?_
                              obtain ⟨r146, h146, h⟩ := o_bind h
                              refine wp_callvI (k := 55) (ci := 10) (c_X10_isAsTold Γ ad a1 a2 a3 a5 (upI I 55 19 0) J r146 h146) dX10_press_146 mlX10_299 mwX10_isAsTold miX10_isAsTold rfl rfl rfl rfl (Nat.le_of_ble_eq_true rfl) rfl (by decide) (by decide) ?_
                              refine wp_if_ne 156 dX10_press_149 rfl (fun c149 => ?_) (fun c149 => ?_)
                              · replace h := o_neg h c149
                                refine wp_iload dX10_press_156 5 rfl ?_
                                refine wp_iconst (v := (-1)) dX10_press_158 (by decide) ?_
                                refine wp_icmp_ne 166 dX10_press_159 rfl (fun c159 => ?_) (fun c159 => ?_)
                                · replace h := o_neg h c159
                                  refine wp_iload dX10_press_166 5 rfl ?_
                                  refine wp_istore (lv' := [(0, _), (1, _), (2, _), (3, _), (4, _), (5, _), (6, _), (7, _)]) dX10_press_168 rfl rfl rfl ?_
                                  refine wp_iload dX10_press_170 4 rfl ?_
                                  refine wp_iconst (v := 1) dX10_press_172 (by decide) ?_
                                  refine wp_icmp_eq 201 dX10_press_173 rfl (fun c173 => ?_) (fun c173 => ?_)
                                  · replace h := o_pos h c173
                                    refine wp_iload dX10_press_201 6 rfl ?_
                                    obtain rfl := Option.some.inj h
                                    exact wp_ireturn (ty := .int) dX10_press_203 rfl rfl ⟨rfl, rfl, rfl, rfl⟩
                                  · replace h := o_neg h c173
                                    refine wp_aload_n dX10_press_176 0 rfl ?_
                                    refine wp_iload dX10_press_177 7 rfl ?_
                                    refine wp_iload_n dX10_press_179 3 rfl ?_
                                    refine wp_iload dX10_press_180 6 rfl ?_
                                    obtain ⟨r182, h182, h⟩ := o_bind h
                                    refine wp_callvI (k := 55) (ci := 10) (c_X10_canBind Γ ad a5 a3 r91 (upI I 55 19 0) J r182 h182) dX10_press_182 mlX10_303 mwX10_canBind miX10_canBind rfl rfl rfl rfl (Nat.le_of_ble_eq_true rfl) rfl (by decide) (by decide) ?_
                                    refine wp_if_ne 192 dX10_press_185 rfl (fun c185 => ?_) (fun c185 => ?_)
                                    · replace h := o_neg h c185
                                      refine wp_aload_n dX10_press_192 0 rfl ?_
                                      refine wp_iload dX10_press_193 7 rfl ?_
                                      refine wp_iload_n dX10_press_195 3 rfl ?_
                                      refine wp_iload dX10_press_196 6 rfl ?_
                                      obtain ⟨r198, h198, h⟩ := o_bind h
                                      refine wp_callvV (k := 55) (ci := 10) (c_X10_bind Γ ad a5 a3 r91 (upI I 55 19 0) J r198 h198) dX10_press_198 mlX10_307 mwX10_bind miX10_bind rfl rfl rfl rfl (Nat.le_of_ble_eq_true rfl) rfl (by decide) (by decide) ?_
                                      refine wp_iload dX10_press_201 6 rfl ?_
                                      obtain rfl := Option.some.inj h
                                      exact wp_ireturn (ty := .int) dX10_press_203 rfl rfl ⟨rfl, rfl, rfl, rfl⟩
                                    · replace h := o_pos h c185
                                      refine wp_ldcw (v := (-1000003)) dX10_press_188 kcX10_284 ?_
                                      obtain rfl := Option.some.inj h
                                      exact wp_ireturn (ty := .int) dX10_press_191 rfl rfl ⟨rfl, rfl, rfl, rfl⟩
                                · replace h := o_pos h c159
                                  refine wp_iload_n dX10_press_162 1 rfl ?_
                                  refine wp_goto 168 dX10_press_163 rfl ?_
                                  refine wp_istore (lv' := [(0, _), (1, _), (2, _), (3, _), (4, _), (5, _), (6, _), (7, _)]) dX10_press_168 rfl rfl rfl ?_
                                  refine wp_iload dX10_press_170 4 rfl ?_
                                  refine wp_iconst (v := 1) dX10_press_172 (by decide) ?_
                                  refine wp_icmp_eq 201 dX10_press_173 rfl (fun c173 => ?_) (fun c173 => ?_)
                                  · replace h := o_pos h c173
                                    refine wp_iload dX10_press_201 6 rfl ?_
                                    obtain rfl := Option.some.inj h
                                    exact wp_ireturn (ty := .int) dX10_press_203 rfl rfl ⟨rfl, rfl, rfl, rfl⟩
                                  · replace h := o_neg h c173
                                    refine wp_aload_n dX10_press_176 0 rfl ?_
                                    refine wp_iload dX10_press_177 7 rfl ?_
                                    refine wp_iload_n dX10_press_179 3 rfl ?_
                                    refine wp_iload dX10_press_180 6 rfl ?_
                                    obtain ⟨r182, h182, h⟩ := o_bind h
                                    refine wp_callvI (k := 55) (ci := 10) (c_X10_canBind Γ ad a1 a3 r91 (upI I 55 19 0) J r182 h182) dX10_press_182 mlX10_303 mwX10_canBind miX10_canBind rfl rfl rfl rfl (Nat.le_of_ble_eq_true rfl) rfl (by decide) (by decide) ?_
                                    refine wp_if_ne 192 dX10_press_185 rfl (fun c185 => ?_) (fun c185 => ?_)
                                    · replace h := o_neg h c185
                                      refine wp_aload_n dX10_press_192 0 rfl ?_
                                      refine wp_iload dX10_press_193 7 rfl ?_
                                      refine wp_iload_n dX10_press_195 3 rfl ?_
                                      refine wp_iload dX10_press_196 6 rfl ?_
                                      obtain ⟨r198, h198, h⟩ := o_bind h
                                      refine wp_callvV (k := 55) (ci := 10) (c_X10_bind Γ ad a1 a3 r91 (upI I 55 19 0) J r198 h198) dX10_press_198 mlX10_307 mwX10_bind miX10_bind rfl rfl rfl rfl (Nat.le_of_ble_eq_true rfl) rfl (by decide) (by decide) ?_
                                      refine wp_iload dX10_press_201 6 rfl ?_
                                      obtain rfl := Option.some.inj h
                                      exact wp_ireturn (ty := .int) dX10_press_203 rfl rfl ⟨rfl, rfl, rfl, rfl⟩
                                    · replace h := o_pos h c185
                                      refine wp_ldcw (v := (-1000003)) dX10_press_188 kcX10_284 ?_
                                      obtain rfl := Option.some.inj h
                                      exact wp_ireturn (ty := .int) dX10_press_191 rfl rfl ⟨rfl, rfl, rfl, rfl⟩
                              · replace h := o_pos h c149
                                refine wp_ldcw (v := (-1000003)) dX10_press_152 kcX10_284 ?_
                                obtain rfl := Option.some.inj h
                                exact wp_ireturn (ty := .int) dX10_press_155 rfl rfl ⟨rfl, rfl, rfl, rfl⟩
                        · replace h := o_pos h c113
                          refine wp_iconst (v := 2) dX10_press_116 (by decide) ?_
                          refine wp_iload dX10_press_117 6 rfl ?_
                          refine wp_imul dX10_press_119 ?_
                          refine wp_goto 125 dX10_press_120 rfl ?_
                          refine wp_istore (lv' := [(0, _), (1, _), (2, _), (3, _), (4, _), (5, _), (6, _)]) dX10_press_125 rfl rfl rfl ?_
                          refine wp_iload dX10_press_127 6 rfl ?_
                          refine wp_if_lt 152 dX10_press_129 rfl (fun c129 => ?_) (fun c129 => ?_)
                          · replace h := o_pos h c129
                            refine wp_ldcw (v := (-1000003)) dX10_press_152 kcX10_284 ?_
                            obtain rfl := Option.some.inj h
                            exact wp_ireturn (ty := .int) dX10_press_155 rfl rfl ⟨rfl, rfl, rfl, rfl⟩
                          · replace h := o_neg h c129
                            refine wp_iload dX10_press_132 6 rfl ?_
                            refine wp_sipush (v := 999) dX10_press_134 (by decide) ?_
                            refine wp_icmp_gt 152 dX10_press_137 rfl (fun c137 => ?_) (fun c137 => ?_)
                            · replace h := o_pos h c137
                              refine wp_ldcw (v := (-1000003)) dX10_press_152 kcX10_284 ?_
                              obtain rfl := Option.some.inj h
                              exact wp_ireturn (ty := .int) dX10_press_155 rfl rfl ⟨rfl, rfl, rfl, rfl⟩
                            · replace h := o_neg h c137
                              refine wp_aload_n dX10_press_140 0 rfl ?_
                              refine wp_iload_n dX10_press_141 1 rfl ?_
                              refine wp_iload_n dX10_press_142 2 rfl ?_
                              refine wp_iload_n dX10_press_143 3 rfl ?_
                              refine wp_iload dX10_press_144 5 rfl ?_
                              obtain ⟨r146, h146, h⟩ := o_bind h
                              refine wp_callvI (k := 55) (ci := 10) (c_X10_isAsTold Γ ad a1 a2 a3 a5 (upI I 55 19 0) J r146 h146) dX10_press_146 mlX10_299 mwX10_isAsTold miX10_isAsTold rfl rfl rfl rfl (Nat.le_of_ble_eq_true rfl) rfl (by decide) (by decide) ?_
                              refine wp_if_ne 156 dX10_press_149 rfl (fun c149 => ?_) (fun c149 => ?_)
                              · replace h := o_neg h c149
                                refine wp_iload dX10_press_156 5 rfl ?_
                                refine wp_iconst (v := (-1)) dX10_press_158 (by decide) ?_
                                refine wp_icmp_ne 166 dX10_press_159 rfl (fun c159 => ?_) (fun c159 => ?_)
                                · replace h := o_neg h c159
                                  refine wp_iload dX10_press_166 5 rfl ?_
                                  refine wp_istore (lv' := [(0, _), (1, _), (2, _), (3, _), (4, _), (5, _), (6, _), (7, _)]) dX10_press_168 rfl rfl rfl ?_
                                  refine wp_iload dX10_press_170 4 rfl ?_
                                  refine wp_iconst (v := 1) dX10_press_172 (by decide) ?_
                                  refine wp_icmp_eq 201 dX10_press_173 rfl (fun c173 => ?_) (fun c173 => ?_)
                                  · replace h := o_pos h c173
                                    refine wp_iload dX10_press_201 6 rfl ?_
                                    obtain rfl := Option.some.inj h
                                    exact wp_ireturn (ty := .int) dX10_press_203 rfl rfl ⟨rfl, rfl, rfl, rfl⟩
                                  · replace h := o_neg h c173
                                    refine wp_aload_n dX10_press_176 0 rfl ?_
                                    refine wp_iload dX10_press_177 7 rfl ?_
                                    refine wp_iload_n dX10_press_179 3 rfl ?_
                                    refine wp_iload dX10_press_180 6 rfl ?_
                                    obtain ⟨r182, h182, h⟩ := o_bind h
                                    refine wp_callvI (k := 55) (ci := 10) (c_X10_canBind Γ ad a5 a3 (2 * r91) (upI I 55 19 0) J r182 h182) dX10_press_182 mlX10_303 mwX10_canBind miX10_canBind rfl rfl rfl rfl (Nat.le_of_ble_eq_true rfl) rfl (by decide) (by decide) ?_
                                    refine wp_if_ne 192 dX10_press_185 rfl (fun c185 => ?_) (fun c185 => ?_)
                                    · replace h := o_neg h c185
                                      refine wp_aload_n dX10_press_192 0 rfl ?_
                                      refine wp_iload dX10_press_193 7 rfl ?_
                                      refine wp_iload_n dX10_press_195 3 rfl ?_
                                      refine wp_iload dX10_press_196 6 rfl ?_
                                      obtain ⟨r198, h198, h⟩ := o_bind h
                                      refine wp_callvV (k := 55) (ci := 10) (c_X10_bind Γ ad a5 a3 (2 * r91) (upI I 55 19 0) J r198 h198) dX10_press_198 mlX10_307 mwX10_bind miX10_bind rfl rfl rfl rfl (Nat.le_of_ble_eq_true rfl) rfl (by decide) (by decide) ?_
                                      refine wp_iload dX10_press_201 6 rfl ?_
                                      obtain rfl := Option.some.inj h
                                      exact wp_ireturn (ty := .int) dX10_press_203 rfl rfl ⟨rfl, rfl, rfl, rfl⟩
                                    · replace h := o_pos h c185
                                      refine wp_ldcw (v := (-1000003)) dX10_press_188 kcX10_284 ?_
                                      obtain rfl := Option.some.inj h
                                      exact wp_ireturn (ty := .int) dX10_press_191 rfl rfl ⟨rfl, rfl, rfl, rfl⟩
                                · replace h := o_pos h c159
                                  refine wp_iload_n dX10_press_162 1 rfl ?_
                                  refine wp_goto 168 dX10_press_163 rfl ?_
                                  refine wp_istore (lv' := [(0, _), (1, _), (2, _), (3, _), (4, _), (5, _), (6, _), (7, _)]) dX10_press_168 rfl rfl rfl ?_
                                  refine wp_iload dX10_press_170 4 rfl ?_
                                  refine wp_iconst (v := 1) dX10_press_172 (by decide) ?_
                                  refine wp_icmp_eq 201 dX10_press_173 rfl (fun c173 => ?_) (fun c173 => ?_)
                                  · replace h := o_pos h c173
                                    refine wp_iload dX10_press_201 6 rfl ?_
                                    obtain rfl := Option.some.inj h
                                    exact wp_ireturn (ty := .int) dX10_press_203 rfl rfl ⟨rfl, rfl, rfl, rfl⟩
                                  · replace h := o_neg h c173
                                    refine wp_aload_n dX10_press_176 0 rfl ?_
                                    refine wp_iload dX10_press_177 7 rfl ?_
                                    refine wp_iload_n dX10_press_179 3 rfl ?_
                                    refine wp_iload dX10_press_180 6 rfl ?_
                                    obtain ⟨r182, h182, h⟩ := o_bind h
                                    refine wp_callvI (k := 55) (ci := 10) (c_X10_canBind Γ ad a1 a3 (2 * r91) (upI I 55 19 0) J r182 h182) dX10_press_182 mlX10_303 mwX10_canBind miX10_canBind rfl rfl rfl rfl (Nat.le_of_ble_eq_true rfl) rfl (by decide) (by decide) ?_
                                    refine wp_if_ne 192 dX10_press_185 rfl (fun c185 => ?_) (fun c185 => ?_)
                                    · replace h := o_neg h c185
                                      refine wp_aload_n dX10_press_192 0 rfl ?_
                                      refine wp_iload dX10_press_193 7 rfl ?_
                                      refine wp_iload_n dX10_press_195 3 rfl ?_
                                      refine wp_iload dX10_press_196 6 rfl ?_
                                      obtain ⟨r198, h198, h⟩ := o_bind h
                                      refine wp_callvV (k := 55) (ci := 10) (c_X10_bind Γ ad a1 a3 (2 * r91) (upI I 55 19 0) J r198 h198) dX10_press_198 mlX10_307 mwX10_bind miX10_bind rfl rfl rfl rfl (Nat.le_of_ble_eq_true rfl) rfl (by decide) (by decide) ?_
                                      refine wp_iload dX10_press_201 6 rfl ?_
                                      obtain rfl := Option.some.inj h
                                      exact wp_ireturn (ty := .int) dX10_press_203 rfl rfl ⟨rfl, rfl, rfl, rfl⟩
                                    · replace h := o_pos h c185
                                      refine wp_ldcw (v := (-1000003)) dX10_press_188 kcX10_284 ?_
                                      obtain rfl := Option.some.inj h
                                      exact wp_ireturn (ty := .int) dX10_press_191 rfl rfl ⟨rfl, rfl, rfl, rfl⟩
                              · replace h := o_pos h c149
                                refine wp_ldcw (v := (-1000003)) dX10_press_152 kcX10_284 ?_
                                obtain rfl := Option.some.inj h
                                exact wp_ireturn (ty := .int) dX10_press_155 rfl rfl ⟨rfl, rfl, rfl, rfl⟩
                      · replace h := o_neg h c103
                        refine wp_iconst (v := (-1)) dX10_press_106 (by decide) ?_
                        refine wp_goto 125 dX10_press_107 rfl ?_
                        refine wp_istore (lv' := [(0, _), (1, _), (2, _), (3, _), (4, _), (5, _), (6, _)]) dX10_press_125 rfl rfl rfl ?_
                        refine wp_iload dX10_press_127 6 rfl ?_
                        refine wp_if_lt 152 dX10_press_129 rfl (fun c129 => ?_) (fun c129 => ?_)
                        · replace h := o_pos h c129
                          refine wp_ldcw (v := (-1000003)) dX10_press_152 kcX10_284 ?_
                          obtain rfl := Option.some.inj h
                          exact wp_ireturn (ty := .int) dX10_press_155 rfl rfl ⟨rfl, rfl, rfl, rfl⟩
                        · replace h := o_neg h c129
                          refine wp_iload dX10_press_132 6 rfl ?_
                          refine wp_sipush (v := 999) dX10_press_134 (by decide) ?_
                          refine wp_icmp_gt 152 dX10_press_137 rfl (fun c137 => ?_) (fun c137 => ?_)
                          · replace h := o_pos h c137
                            refine wp_ldcw (v := (-1000003)) dX10_press_152 kcX10_284 ?_
                            obtain rfl := Option.some.inj h
                            exact wp_ireturn (ty := .int) dX10_press_155 rfl rfl ⟨rfl, rfl, rfl, rfl⟩
                          · replace h := o_neg h c137
                            refine wp_aload_n dX10_press_140 0 rfl ?_
                            refine wp_iload_n dX10_press_141 1 rfl ?_
                            refine wp_iload_n dX10_press_142 2 rfl ?_
                            refine wp_iload_n dX10_press_143 3 rfl ?_
                            refine wp_iload dX10_press_144 5 rfl ?_
                            obtain ⟨r146, h146, h⟩ := o_bind h
                            refine wp_callvI (k := 55) (ci := 10) (c_X10_isAsTold Γ ad a1 a2 a3 a5 (upI I 55 19 0) J r146 h146) dX10_press_146 mlX10_299 mwX10_isAsTold miX10_isAsTold rfl rfl rfl rfl (Nat.le_of_ble_eq_true rfl) rfl (by decide) (by decide) ?_
                            refine wp_if_ne 156 dX10_press_149 rfl (fun c149 => ?_) (fun c149 => ?_)
                            · replace h := o_neg h c149
                              refine wp_iload dX10_press_156 5 rfl ?_
                              refine wp_iconst (v := (-1)) dX10_press_158 (by decide) ?_
                              refine wp_icmp_ne 166 dX10_press_159 rfl (fun c159 => ?_) (fun c159 => ?_)
                              · replace h := o_neg h c159
                                refine wp_iload dX10_press_166 5 rfl ?_
                                refine wp_istore (lv' := [(0, _), (1, _), (2, _), (3, _), (4, _), (5, _), (6, _), (7, _)]) dX10_press_168 rfl rfl rfl ?_
                                refine wp_iload dX10_press_170 4 rfl ?_
                                refine wp_iconst (v := 1) dX10_press_172 (by decide) ?_
                                refine wp_icmp_eq 201 dX10_press_173 rfl (fun c173 => ?_) (fun c173 => ?_)
                                · replace h := o_pos h c173
                                  refine wp_iload dX10_press_201 6 rfl ?_
                                  obtain rfl := Option.some.inj h
                                  exact wp_ireturn (ty := .int) dX10_press_203 rfl rfl ⟨rfl, rfl, rfl, rfl⟩
                                · replace h := o_neg h c173
                                  refine wp_aload_n dX10_press_176 0 rfl ?_
                                  refine wp_iload dX10_press_177 7 rfl ?_
                                  refine wp_iload_n dX10_press_179 3 rfl ?_
                                  refine wp_iload dX10_press_180 6 rfl ?_
                                  obtain ⟨r182, h182, h⟩ := o_bind h
                                  refine wp_callvI (k := 55) (ci := 10) (c_X10_canBind Γ ad a5 a3 (-1) (upI I 55 19 0) J r182 h182) dX10_press_182 mlX10_303 mwX10_canBind miX10_canBind rfl rfl rfl rfl (Nat.le_of_ble_eq_true rfl) rfl (by decide) (by decide) ?_
                                  refine wp_if_ne 192 dX10_press_185 rfl (fun c185 => ?_) (fun c185 => ?_)
                                  · replace h := o_neg h c185
                                    refine wp_aload_n dX10_press_192 0 rfl ?_
                                    refine wp_iload dX10_press_193 7 rfl ?_
                                    refine wp_iload_n dX10_press_195 3 rfl ?_
                                    refine wp_iload dX10_press_196 6 rfl ?_
                                    obtain ⟨r198, h198, h⟩ := o_bind h
                                    refine wp_callvV (k := 55) (ci := 10) (c_X10_bind Γ ad a5 a3 (-1) (upI I 55 19 0) J r198 h198) dX10_press_198 mlX10_307 mwX10_bind miX10_bind rfl rfl rfl rfl (Nat.le_of_ble_eq_true rfl) rfl (by decide) (by decide) ?_
                                    refine wp_iload dX10_press_201 6 rfl ?_
                                    obtain rfl := Option.some.inj h
                                    exact wp_ireturn (ty := .int) dX10_press_203 rfl rfl ⟨rfl, rfl, rfl, rfl⟩
                                  · replace h := o_pos h c185
                                    refine wp_ldcw (v := (-1000003)) dX10_press_188 kcX10_284 ?_
                                    obtain rfl := Option.some.inj h
                                    exact wp_ireturn (ty := .int) dX10_press_191 rfl rfl ⟨rfl, rfl, rfl, rfl⟩
                              · replace h := o_pos h c159
                                refine wp_iload_n dX10_press_162 1 rfl ?_
                                refine wp_goto 168 dX10_press_163 rfl ?_
                                refine wp_istore (lv' := [(0, _), (1, _), (2, _), (3, _), (4, _), (5, _), (6, _), (7, _)]) dX10_press_168 rfl rfl rfl ?_
                                refine wp_iload dX10_press_170 4 rfl ?_
                                refine wp_iconst (v := 1) dX10_press_172 (by decide) ?_
                                refine wp_icmp_eq 201 dX10_press_173 rfl (fun c173 => ?_) (fun c173 => ?_)
                                · replace h := o_pos h c173
                                  refine wp_iload dX10_press_201 6 rfl ?_
                                  obtain rfl := Option.some.inj h
                                  exact wp_ireturn (ty := .int) dX10_press_203 rfl rfl ⟨rfl, rfl, rfl, rfl⟩
                                · replace h := o_neg h c173
                                  refine wp_aload_n dX10_press_176 0 rfl ?_
                                  refine wp_iload dX10_press_177 7 rfl ?_
                                  refine wp_iload_n dX10_press_179 3 rfl ?_
                                  refine wp_iload dX10_press_180 6 rfl ?_
                                  obtain ⟨r182, h182, h⟩ := o_bind h
                                  refine wp_callvI (k := 55) (ci := 10) (c_X10_canBind Γ ad a1 a3 (-1) (upI I 55 19 0) J r182 h182) dX10_press_182 mlX10_303 mwX10_canBind miX10_canBind rfl rfl rfl rfl (Nat.le_of_ble_eq_true rfl) rfl (by decide) (by decide) ?_
                                  refine wp_if_ne 192 dX10_press_185 rfl (fun c185 => ?_) (fun c185 => ?_)
                                  · replace h := o_neg h c185
                                    refine wp_aload_n dX10_press_192 0 rfl ?_
                                    refine wp_iload dX10_press_193 7 rfl ?_
                                    refine wp_iload_n dX10_press_195 3 rfl ?_
                                    refine wp_iload dX10_press_196 6 rfl ?_
                                    obtain ⟨r198, h198, h⟩ := o_bind h
                                    refine wp_callvV (k := 55) (ci := 10) (c_X10_bind Γ ad a1 a3 (-1) (upI I 55 19 0) J r198 h198) dX10_press_198 mlX10_307 mwX10_bind miX10_bind rfl rfl rfl rfl (Nat.le_of_ble_eq_true rfl) rfl (by decide) (by decide) ?_
                                    refine wp_iload dX10_press_201 6 rfl ?_
                                    obtain rfl := Option.some.inj h
                                    exact wp_ireturn (ty := .int) dX10_press_203 rfl rfl ⟨rfl, rfl, rfl, rfl⟩
                                  · replace h := o_pos h c185
                                    refine wp_ldcw (v := (-1000003)) dX10_press_188 kcX10_284 ?_
                                    obtain rfl := Option.some.inj h
                                    exact wp_ireturn (ty := .int) dX10_press_191 rfl rfl ⟨rfl, rfl, rfl, rfl⟩
                            · replace h := o_pos h c149
                              refine wp_ldcw (v := (-1000003)) dX10_press_152 kcX10_284 ?_
                              obtain rfl := Option.some.inj h
                              exact wp_ireturn (ty := .int) dX10_press_155 rfl rfl ⟨rfl, rfl, rfl, rfl⟩
                    · replace h := o_pos h c84
                      refine wp_ldc (v := (-1000002)) dX10_press_87 kcX10_143 ?_
                      obtain rfl := Option.some.inj h
                      exact wp_ireturn (ty := .int) dX10_press_89 rfl rfl ⟨rfl, rfl, rfl, rfl⟩
                  · replace h := o_pos h c67
                    refine wp_ldcw (v := (-1000001)) dX10_press_70 kcX10_264 ?_
                    obtain rfl := Option.some.inj h
                    exact wp_ireturn (ty := .int) dX10_press_73 rfl rfl ⟨rfl, rfl, rfl, rfl⟩
        · replace h := o_pos h c26
          refine wp_ldcw (v := (-1000001)) dX10_press_29 kcX10_264 ?_
          obtain rfl := Option.some.inj h
          exact wp_ireturn (ty := .int) dX10_press_32 rfl rfl ⟨rfl, rfl, rfl, rfl⟩
def f_X10_plain (a0 : Int32) : Option (Int32) :=
  some (((a0 / 100) + ((a0 / 10) - (a0 / 10) / 10 * 10)) + (a0 - a0 / 10 * 10))
set_option maxRecDepth 100000 in
set_option maxHeartbeats 4000000 in
theorem c_X10_plain (Γ : GT) (ad : Nat → Nat) (a0 : Int32) (I : IT) (J : JT) (r : Int32) (h : f_X10_plain a0 = some r) : CALL Γ mX10_plain (0, 0) [.int a0] (DX ad) I J (QE (some (.int r)) (DX ad) I J) := by
  refine call_of' (by decide) (Nat.le_of_ble_eq_true rfl) (lv0 := [(0, .int a0)]) rfl ?_
  unfold f_X10_plain at h
  refine wp_iload_n dX10_plain_0 0 rfl ?_
  refine wp_bipush (v := 100) dX10_plain_1 (by decide) ?_
  refine wp_idiv dX10_plain_3 (by decide) ?_
  refine wp_iload_n dX10_plain_4 0 rfl ?_
  refine wp_bipush (v := 10) dX10_plain_5 (by decide) ?_
  refine wp_idiv dX10_plain_7 (by decide) ?_
  refine wp_bipush (v := 10) dX10_plain_8 (by decide) ?_
  refine wp_irem dX10_plain_10 (by decide) ?_
  refine wp_iadd dX10_plain_11 ?_
  refine wp_iload_n dX10_plain_12 0 rfl ?_
  refine wp_bipush (v := 10) dX10_plain_13 (by decide) ?_
  refine wp_irem dX10_plain_15 (by decide) ?_
  refine wp_iadd dX10_plain_16 ?_
  obtain rfl := Option.some.inj h
  exact wp_ireturn (ty := .int) dX10_plain_17 rfl rfl ⟨rfl, rfl, rfl, rfl⟩
def f_X10_twitches (a1 : Int32) : Option (Int32) :=
  (f_X10_in a1.toInt64 1 999).bind fun r6 =>
  if r6 = 0 then
    some (-1000002)
  else
    (f_X10_plain a1).bind fun r13 =>
    some r13
set_option maxRecDepth 100000 in
set_option maxHeartbeats 4000000 in
theorem c_X10_twitches (Γ : GT) (ad : Nat → Nat) (a1 : Int32) (I : IT) (J : JT) (r : Int32) (h : f_X10_twitches a1 = some r) : CALL Γ mX10_twitches (0, 0) [.ref (ad 55), .int a1] (DX ad) I J (QE (some (.int r)) (DX ad) I J) := by
  refine call_of' (by decide) (Nat.le_of_ble_eq_true rfl) (lv0 := [(0, .ref (ad 55)), (1, .int a1)]) rfl ?_
  unfold f_X10_twitches at h
  refine wp_iload_n dX10_twitches_0 1 rfl ?_
  refine wp_i2l dX10_twitches_1 ?_
  refine wp_lconst (v := 1) dX10_twitches_2 (by decide) ?_
  refine wp_ldc2 (v := 999) dX10_twitches_3 klX10_285 ?_
  obtain ⟨r6, h6, h⟩ := o_bind h
  refine wp_callsI (c_X10_in Γ ad a1.toInt64 1 999 I J r6 h6) dX10_twitches_6 mlX10_134 mwX10_in miX10_in rfl (Nat.le_of_ble_eq_true rfl) rfl (by decide) (by decide) ?_
  refine wp_if_eq 19 dX10_twitches_9 rfl (fun c9 => ?_) (fun c9 => ?_)
  · replace h := o_pos h c9
    refine wp_ldc (v := (-1000002)) dX10_twitches_19 kcX10_143 ?_
    obtain rfl := Option.some.inj h
    exact wp_ireturn (ty := .int) dX10_twitches_21 rfl rfl ⟨rfl, rfl, rfl, rfl⟩
  · replace h := o_neg h c9
    refine wp_iload_n dX10_twitches_12 1 rfl ?_
    obtain ⟨r13, h13, h⟩ := o_bind h
    refine wp_callsI (c_X10_plain Γ ad a1 I J r13 h13) dX10_twitches_13 mlX10_311 mwX10_plain miX10_plain rfl (Nat.le_of_ble_eq_true rfl) rfl (by decide) (by decide) ?_
    refine wp_goto 21 dX10_twitches_16 rfl ?_
    obtain rfl := Option.some.inj h
    exact wp_ireturn (ty := .int) dX10_twitches_21 rfl rfl ⟨rfl, rfl, rfl, rfl⟩
def f_X10_beat (a1 : Int32) (I : IT) : Option (Int32 × IT) :=
  (f_X10_in a1.toInt64 1 99).bind fun r6 =>
  if r6 = 0 then
    some ((-1000002), I)
  else
    some ((upI I 55 16 ((I 55 16) + a1)) 55 16, upI I 55 16 ((I 55 16) + a1))
set_option maxRecDepth 100000 in
set_option maxHeartbeats 4000000 in
theorem c_X10_beat (Γ : GT) (ad : Nat → Nat) (a1 : Int32) (I : IT) (J : JT) (r : Int32 × IT) (h : f_X10_beat a1 I = some r) : CALL Γ mX10_beat (0, 0) [.ref (ad 55), .int a1] (DX ad) I J (QE (some (.int r.1)) (DX ad) r.2 J) := by
  refine call_of' (by decide) (Nat.le_of_ble_eq_true rfl) (lv0 := [(0, .ref (ad 55)), (1, .int a1)]) rfl ?_
  unfold f_X10_beat at h
  refine wp_iload_n dX10_beat_0 1 rfl ?_
  refine wp_i2l dX10_beat_1 ?_
  refine wp_lconst (v := 1) dX10_beat_2 (by decide) ?_
  refine wp_ldc2 (v := 99) dX10_beat_3 klX10_314 ?_
  obtain ⟨r6, h6, h⟩ := o_bind h
  refine wp_callsI (c_X10_in Γ ad a1.toInt64 1 99 I J r6 h6) dX10_beat_6 mlX10_134 mwX10_in miX10_in rfl (Nat.le_of_ble_eq_true rfl) rfl (by decide) (by decide) ?_
  refine wp_if_ne 15 dX10_beat_9 rfl (fun c9 => ?_) (fun c9 => ?_)
  · replace h := o_neg h c9
    refine wp_aload_n dX10_beat_15 0 rfl ?_
    refine wp_dup dX10_beat_16 rfl ?_
    refine wp_getI (k := 55) dX10_beat_17 flX10_138 rfl rfl rfl rfl ?_
    refine wp_iload_n dX10_beat_20 1 rfl ?_
    refine wp_iadd dX10_beat_21 ?_
    refine wp_putI (k := 55) dX10_beat_22 flX10_138 rfl rfl rfl rfl rfl rfl rfl rfl ?_
    refine wp_aload_n dX10_beat_25 0 rfl ?_
    refine wp_getI (k := 55) dX10_beat_26 flX10_138 rfl rfl rfl rfl ?_
    obtain rfl := Option.some.inj h
    exact wp_ireturn (ty := .int) dX10_beat_29 rfl rfl ⟨rfl, rfl, rfl, rfl⟩
  · replace h := o_pos h c9
    refine wp_ldc (v := (-1000002)) dX10_beat_12 kcX10_143 ?_
    obtain rfl := Option.some.inj h
    exact wp_ireturn (ty := .int) dX10_beat_14 rfl rfl ⟨rfl, rfl, rfl, rfl⟩
def f_X10_draw (a1 : Int32) (I : IT) : Option (Int32 × IT) :=
  if ¬ a1 = 0 then
    some ((((upI I 55 17 ((((((I 55 17).toInt64) * 1103515245) + 12345) - ((((I 55 17).toInt64) * 1103515245) + 12345) / 2147483648 * 2147483648).toInt32)) 55 17) / 65536) - (((upI I 55 17 ((((((I 55 17).toInt64) * 1103515245) + 12345) - ((((I 55 17).toInt64) * 1103515245) + 12345) / 2147483648 * 2147483648).toInt32)) 55 17) / 65536) / a1 * a1, upI I 55 17 ((((((I 55 17).toInt64) * 1103515245) + 12345) - ((((I 55 17).toInt64) * 1103515245) + 12345) / 2147483648 * 2147483648).toInt32))
  else none
set_option maxRecDepth 100000 in
set_option maxHeartbeats 4000000 in
theorem c_X10_draw (Γ : GT) (ad : Nat → Nat) (a1 : Int32) (I : IT) (J : JT) (r : Int32 × IT) (h : f_X10_draw a1 I = some r) : CALL Γ mX10_draw (0, 0) [.ref (ad 55), .int a1] (DX ad) I J (QE (some (.int r.1)) (DX ad) r.2 J) := by
  refine call_of' (by decide) (Nat.le_of_ble_eq_true rfl) (lv0 := [(0, .ref (ad 55)), (1, .int a1)]) rfl ?_
  unfold f_X10_draw at h
  refine wp_aload_n dX10_draw_0 0 rfl ?_
  refine wp_aload_n dX10_draw_1 0 rfl ?_
  refine wp_getI (k := 55) dX10_draw_2 flX10_316 rfl rfl rfl rfl ?_
  refine wp_i2l dX10_draw_5 ?_
  refine wp_ldc2 (v := 1103515245) dX10_draw_6 klX10_319 ?_
  refine wp_lmul dX10_draw_9 ?_
  refine wp_ldc2 (v := 12345) dX10_draw_10 klX10_321 ?_
  refine wp_ladd dX10_draw_13 ?_
  refine wp_ldc2 (v := 2147483648) dX10_draw_14 klX10_323 ?_
  refine wp_lrem dX10_draw_17 (by decide) ?_
  refine wp_l2i dX10_draw_18 ?_
  refine wp_putI (k := 55) dX10_draw_19 flX10_316 rfl rfl rfl rfl rfl rfl rfl rfl ?_
  refine wp_aload_n dX10_draw_22 0 rfl ?_
  refine wp_getI (k := 55) dX10_draw_23 flX10_316 rfl rfl rfl rfl ?_
  refine wp_ldcw (v := 65536) dX10_draw_26 kcX10_325 ?_
  refine wp_idiv dX10_draw_29 (by decide) ?_
  refine wp_iload_n dX10_draw_30 1 rfl ?_
  obtain ⟨g31, h⟩ := o_grd h
  refine wp_irem dX10_draw_31 g31 ?_
  obtain rfl := Option.some.inj h
  exact wp_ireturn (ty := .int) dX10_draw_32 rfl rfl ⟨rfl, rfl, rfl, rfl⟩
def f_X10_tryBind (a1 : Int32) (a2 : Int32) (a3 : Int32) (I : IT) : Option (IT) :=
  (f_X10_in a3.toInt64 1 999).bind fun r6 =>
  if r6 = 0 then
    some I
  else
    if inbB a2 6 = true then
      if 0 ≤ (I 64 a2.toNatClampNeg) then
        some I
      else
        (f_X10_canBind a1 a2 a3 I).bind fun r25 =>
        if r25 = 0 then
          some I
        else
          (f_X10_bind a1 a2 a3 I).bind fun r35 =>
          some r35
    else none
set_option maxRecDepth 100000 in
set_option maxHeartbeats 4000000 in
theorem c_X10_tryBind (Γ : GT) (ad : Nat → Nat) (a1 : Int32) (a2 : Int32) (a3 : Int32) (I : IT) (J : JT) (r : IT) (h : f_X10_tryBind a1 a2 a3 I = some r) : CALL Γ mX10_tryBind (0, 0) [.ref (ad 55), .int a1, .int a2, .int a3] (DX ad) I J (QE none (DX ad) r J) := by
  refine call_of' (by decide) (Nat.le_of_ble_eq_true rfl) (lv0 := [(0, .ref (ad 55)), (1, .int a1), (2, .int a2), (3, .int a3)]) rfl ?_
  unfold f_X10_tryBind at h
  refine wp_iload_n dX10_tryBind_0 3 rfl ?_
  refine wp_i2l dX10_tryBind_1 ?_
  refine wp_lconst (v := 1) dX10_tryBind_2 (by decide) ?_
  refine wp_ldc2 (v := 999) dX10_tryBind_3 klX10_285 ?_
  obtain ⟨r6, h6, h⟩ := o_bind h
  refine wp_callsI (c_X10_in Γ ad a3.toInt64 1 999 I J r6 h6) dX10_tryBind_6 mlX10_134 mwX10_in miX10_in rfl (Nat.le_of_ble_eq_true rfl) rfl (by decide) (by decide) ?_
  refine wp_if_eq 38 dX10_tryBind_9 rfl (fun c9 => ?_) (fun c9 => ?_)
  · replace h := o_pos h c9
    obtain rfl := Option.some.inj h
    exact wp_return dX10_tryBind_38 rfl ⟨rfl, rfl, rfl, rfl⟩
  · replace h := o_neg h c9
    refine wp_aload_n dX10_tryBind_12 0 rfl ?_
    refine wp_getR (k := 55) (a' := ad 64) dX10_tryBind_13 flX10_41 rfl rfl rfl rfl rfl ?_
    refine wp_iload_n dX10_tryBind_16 2 rfl ?_
    obtain ⟨g17, h⟩ := o_grd h
    refine wp_iald (k := 64) dX10_tryBind_17 rfl rfl (inb_of g17) ?_
    refine wp_if_ge 38 dX10_tryBind_18 rfl (fun c18 => ?_) (fun c18 => ?_)
    · replace h := o_pos h c18
      obtain rfl := Option.some.inj h
      exact wp_return dX10_tryBind_38 rfl ⟨rfl, rfl, rfl, rfl⟩
    · replace h := o_neg h c18
      refine wp_aload_n dX10_tryBind_21 0 rfl ?_
      refine wp_iload_n dX10_tryBind_22 1 rfl ?_
      refine wp_iload_n dX10_tryBind_23 2 rfl ?_
      refine wp_iload_n dX10_tryBind_24 3 rfl ?_
      obtain ⟨r25, h25, h⟩ := o_bind h
      refine wp_callvI (k := 55) (ci := 10) (c_X10_canBind Γ ad a1 a2 a3 I J r25 h25) dX10_tryBind_25 mlX10_303 mwX10_canBind miX10_canBind rfl rfl rfl rfl (Nat.le_of_ble_eq_true rfl) rfl (by decide) (by decide) ?_
      refine wp_if_eq 38 dX10_tryBind_28 rfl (fun c28 => ?_) (fun c28 => ?_)
      · replace h := o_pos h c28
        obtain rfl := Option.some.inj h
        exact wp_return dX10_tryBind_38 rfl ⟨rfl, rfl, rfl, rfl⟩
      · replace h := o_neg h c28
        refine wp_aload_n dX10_tryBind_31 0 rfl ?_
        refine wp_iload_n dX10_tryBind_32 1 rfl ?_
        refine wp_iload_n dX10_tryBind_33 2 rfl ?_
        refine wp_iload_n dX10_tryBind_34 3 rfl ?_
        obtain ⟨r35, h35, h⟩ := o_bind h
        refine wp_callvV (k := 55) (ci := 10) (c_X10_bind Γ ad a1 a2 a3 I J r35 h35) dX10_tryBind_35 mlX10_307 mwX10_bind miX10_bind rfl rfl rfl rfl (Nat.le_of_ble_eq_true rfl) rfl (by decide) (by decide) ?_
        obtain rfl := Option.some.inj h
        exact wp_return dX10_tryBind_38 rfl ⟨rfl, rfl, rfl, rfl⟩
