/-! lifted: X10_sell X10_bind -/
def f_X10_sell_294 : Nat → Int32 → Int32 → IT → Option (IT)
  | 0, _, _, _ => none
  | n + 1, v1, v6, I =>
    (f_X10_persons I).bind fun r297 =>
    if r297 ≤ v6 then
      some I
    else
      if inbB ((6 * v6) + v1) 84 = true then
        if inbB ((6 * v6) + v1) 84 = true then
          f_X10_sell_294 n v1 (v6 + 1) (upI (upI I 62 (((6 * v6) + v1).toNatClampNeg) (-1)) 63 (((6 * v6) + v1).toNatClampNeg) (-1))
        else none
      else none
def f_X10_sell_142 : Nat → Int32 → Int32 → Int32 → Int32 → Int32 → IT → Option (IT)
  | 0, _, _, _, _, _, _ => none
  | n + 1, v1, v2, v3, v4, v5, I =>
    if v5 < ((I 55 0) + (I 55 1)) then
      if 0 ≤ v4 then
        if inbB ((v4 - (I 55 0)) - (I 55 1)) 2 = true then
          if v4 < 0 then
            if inbB v1 14 = true then
              if inbB v1 14 = true then
                if inbB v3 14 = true then
                  if inbB v3 14 = true then
                    (some (upI (upI I 66 v1.toNatClampNeg ((I 66 v1.toNatClampNeg) + (v2 - ((v2 * (I 59 ((v4 - (I 55 0)) - (I 55 1)).toNatClampNeg)) / 100)))) 66 v3.toNatClampNeg (((upI I 66 v1.toNatClampNeg ((I 66 v1.toNatClampNeg) + (v2 - ((v2 * (I 59 ((v4 - (I 55 0)) - (I 55 1)).toNatClampNeg)) / 100)))) 66 v3.toNatClampNeg) + v2))).bind fun i271 =>
                    if inbB v1 6 = true then
                      if inbB v1 6 = true then
                        f_X10_sell_294 FU v1 0 (upI (upI i271 64 v1.toNatClampNeg (v3 - (i271 55 0))) 65 v1.toNatClampNeg v2)
                      else none
                    else none
                  else none
                else none
              else none
            else none
          else
            if inbB v4 14 = true then
              if inbB v4 14 = true then
                if inbB v1 14 = true then
                  if inbB v1 14 = true then
                    (some (upI (upI I 66 v4.toNatClampNeg ((I 66 v4.toNatClampNeg) + ((v2 * (I 59 ((v4 - (I 55 0)) - (I 55 1)).toNatClampNeg)) / 100))) 66 v1.toNatClampNeg (((upI I 66 v4.toNatClampNeg ((I 66 v4.toNatClampNeg) + ((v2 * (I 59 ((v4 - (I 55 0)) - (I 55 1)).toNatClampNeg)) / 100))) 66 v1.toNatClampNeg) + (v2 - ((v2 * (I 59 ((v4 - (I 55 0)) - (I 55 1)).toNatClampNeg)) / 100))))).bind fun i261 =>
                    if inbB v3 14 = true then
                      if inbB v3 14 = true then
                        if inbB v1 6 = true then
                          (some (upI (upI i261 66 v3.toNatClampNeg ((i261 66 v3.toNatClampNeg) + v2)) 64 v1.toNatClampNeg (v3 - ((upI i261 66 v3.toNatClampNeg ((i261 66 v3.toNatClampNeg) + v2)) 55 0)))).bind fun i283 =>
                          if inbB v1 6 = true then
                            f_X10_sell_294 FU v1 0 (upI i283 65 v1.toNatClampNeg v2)
                          else none
                        else none
                      else none
                    else none
                  else none
                else none
              else none
            else none
        else none
      else
        if v4 < 0 then
          if inbB v1 14 = true then
            if inbB v1 14 = true then
              if inbB v3 14 = true then
                if inbB v3 14 = true then
                  (some (upI (upI I 66 v1.toNatClampNeg ((I 66 v1.toNatClampNeg) + (v2 - 0))) 66 v3.toNatClampNeg (((upI I 66 v1.toNatClampNeg ((I 66 v1.toNatClampNeg) + (v2 - 0))) 66 v3.toNatClampNeg) + v2))).bind fun i271 =>
                  if inbB v1 6 = true then
                    if inbB v1 6 = true then
                      f_X10_sell_294 FU v1 0 (upI (upI i271 64 v1.toNatClampNeg (v3 - (i271 55 0))) 65 v1.toNatClampNeg v2)
                    else none
                  else none
                else none
              else none
            else none
          else none
        else
          if inbB v4 14 = true then
            if inbB v4 14 = true then
              if inbB v1 14 = true then
                if inbB v1 14 = true then
                  (some (upI (upI I 66 v4.toNatClampNeg ((I 66 v4.toNatClampNeg) + 0)) 66 v1.toNatClampNeg (((upI I 66 v4.toNatClampNeg ((I 66 v4.toNatClampNeg) + 0)) 66 v1.toNatClampNeg) + (v2 - 0)))).bind fun i261 =>
                  if inbB v3 14 = true then
                    if inbB v3 14 = true then
                      if inbB v1 6 = true then
                        (some (upI (upI i261 66 v3.toNatClampNeg ((i261 66 v3.toNatClampNeg) + v2)) 64 v1.toNatClampNeg (v3 - ((upI i261 66 v3.toNatClampNeg ((i261 66 v3.toNatClampNeg) + v2)) 55 0)))).bind fun i283 =>
                        if inbB v1 6 = true then
                          f_X10_sell_294 FU v1 0 (upI i283 65 v1.toNatClampNeg v2)
                        else none
                      else none
                    else none
                  else none
                else none
              else none
            else none
          else none
    else
      if inbB v5 14 = true then
        (f_X10_has (I 61 v5.toNatClampNeg) v1).bind fun r164 =>
        if r164 = 0 then
          f_X10_sell_142 n v1 v2 v3 v4 (v5 + (-1)) I
        else
          if inbB v5 14 = true then
            (f_X10_has (I 61 v5.toNatClampNeg) v3).bind fun r178 =>
            if r178 = 0 then
              f_X10_sell_142 n v1 v2 v3 v4 (v5 + (-1)) I
            else
              f_X10_sell_142 n v1 v2 v3 v5 (v5 + (-1)) I
          else none
      else none
def f_X10_sell_27 : Nat → Int32 → Int32 → Int32 → Int32 → IT → Option (IT)
  | 0, _, _, _, _, _ => none
  | n + 1, v1, v2, v3, v4, I =>
    if (I 55 1) ≤ v4 then
      if 0 ≤ v3 then
        (f_X10_persons I).bind fun r135 =>
        f_X10_sell_142 FU v1 v2 v3 (-1) (r135 - 1) I
      else
        some I
    else
      (f_X10_isBound ((I 55 0) + v4) v1 I).bind fun r49 =>
      if r49 = 0 then
        if (0 : Int32) = 0 then
          f_X10_sell_27 n v1 v2 v3 (v4 + 1) I
        else
          if v3 < 0 then
            f_X10_sell_27 n v1 v2 ((I 55 0) + v4) (v4 + 1) I
          else
            if inbB ((6 * ((I 55 0) + v4)) + v1) 84 = true then
              if inbB ((6 * v3) + v1) 84 = true then
                if (I 62 ((6 * ((I 55 0) + v4)) + v1).toNatClampNeg) ≤ (I 62 ((6 * v3) + v1).toNatClampNeg) then
                  f_X10_sell_27 n v1 v2 v3 (v4 + 1) I
                else
                  f_X10_sell_27 n v1 v2 ((I 55 0) + v4) (v4 + 1) I
              else none
            else none
      else
        if inbB ((6 * ((I 55 0) + v4)) + v1) 84 = true then
          if (I 62 ((6 * ((I 55 0) + v4)) + v1).toNatClampNeg) < v2 then
            if (0 : Int32) = 0 then
              f_X10_sell_27 n v1 v2 v3 (v4 + 1) I
            else
              if v3 < 0 then
                f_X10_sell_27 n v1 v2 ((I 55 0) + v4) (v4 + 1) I
              else
                if inbB ((6 * ((I 55 0) + v4)) + v1) 84 = true then
                  if inbB ((6 * v3) + v1) 84 = true then
                    if (I 62 ((6 * ((I 55 0) + v4)) + v1).toNatClampNeg) ≤ (I 62 ((6 * v3) + v1).toNatClampNeg) then
                      f_X10_sell_27 n v1 v2 v3 (v4 + 1) I
                    else
                      f_X10_sell_27 n v1 v2 ((I 55 0) + v4) (v4 + 1) I
                  else none
                else none
          else
            if (1 : Int32) = 0 then
              f_X10_sell_27 n v1 v2 v3 (v4 + 1) I
            else
              if v3 < 0 then
                f_X10_sell_27 n v1 v2 ((I 55 0) + v4) (v4 + 1) I
              else
                if inbB ((6 * ((I 55 0) + v4)) + v1) 84 = true then
                  if inbB ((6 * v3) + v1) 84 = true then
                    if (I 62 ((6 * ((I 55 0) + v4)) + v1).toNatClampNeg) ≤ (I 62 ((6 * v3) + v1).toNatClampNeg) then
                      f_X10_sell_27 n v1 v2 v3 (v4 + 1) I
                    else
                      f_X10_sell_27 n v1 v2 ((I 55 0) + v4) (v4 + 1) I
                  else none
                else none
        else none
def f_X10_sell (a1 : Int32) (I : IT) : Option (IT) :=
  (f_X10_isBound a1 a1 I).bind fun r3 =>
  if r3 = 0 then
    some I
  else
    if inbB ((6 * a1) + a1) 84 = true then
      f_X10_sell_27 FU a1 (I 62 ((6 * a1) + a1).toNatClampNeg) (-1) 0 I
    else none
set_option maxRecDepth 100000 in
set_option maxHeartbeats 4000000 in
theorem w_X10_sell_294 (Γ : GT) (ad : Nat → Nat) : ∀ (n : Nat) (v1 : Int32) (v6 : Int32) (I : IT) (J : JT) (r : IT), f_X10_sell_294 n v1 v6 I = some r → WP Γ mX10_sell (0, 0) 294 [(0, .ref (ad 55)), (1, .int v1), (6, .int v6)] [] (DX ad) I J (QE none (DX ad) r J) := by
  intro n
  induction n with
  | zero => intro v1 v6 I J r h; exact absurd h (by simp [f_X10_sell_294])
  | succ n ih =>
    intro v1 v6 I J r h
    rw [f_X10_sell_294] at h
    refine wp_iload dX10_sell_294 2 rfl ?_
    refine wp_aload_n dX10_sell_296 0 rfl ?_
    obtain ⟨r297, h297, h⟩ := o_bind h
    refine wp_callvI (k := 55) (ci := 10) (c_X10_persons Γ ad I J r297 h297) dX10_sell_297 mlX10_130 mwX10_persons miX10_persons rfl rfl rfl rfl (Nat.le_of_ble_eq_true rfl) rfl (by decide) (by decide) ?_
    refine wp_icmp_ge 335 dX10_sell_300 rfl (fun c300 => ?_) (fun c300 => ?_)
    · replace h := o_pos h c300
      obtain rfl := Option.some.inj h
      exact wp_return dX10_sell_335 rfl ⟨rfl, rfl, rfl, rfl⟩
    · replace h := o_neg h c300
      refine wp_aload_n dX10_sell_303 0 rfl ?_
      refine wp_getR (k := 55) (a' := ad 62) dX10_sell_304 flX10_35 rfl rfl rfl rfl rfl ?_
      refine wp_bipush (v := 6) dX10_sell_307 (by decide) ?_
      refine wp_iload dX10_sell_309 2 rfl ?_
      refine wp_imul dX10_sell_311 ?_
      refine wp_iload_n dX10_sell_312 1 rfl ?_
      refine wp_iadd dX10_sell_313 ?_
      refine wp_iconst (v := (-1)) dX10_sell_314 (by decide) ?_
      obtain ⟨g315, h⟩ := o_grd h
      refine wp_iast (k := 62) dX10_sell_315 rfl rfl (inb_of g315) ?_
      refine wp_aload_n dX10_sell_316 0 rfl ?_
      refine wp_getR (k := 55) (a' := ad 63) dX10_sell_317 flX10_38 rfl rfl rfl rfl rfl ?_
      refine wp_bipush (v := 6) dX10_sell_320 (by decide) ?_
      refine wp_iload dX10_sell_322 2 rfl ?_
      refine wp_imul dX10_sell_324 ?_
      refine wp_iload_n dX10_sell_325 1 rfl ?_
      refine wp_iadd dX10_sell_326 ?_
      refine wp_iconst (v := (-1)) dX10_sell_327 (by decide) ?_
      obtain ⟨g328, h⟩ := o_grd h
      refine wp_iast (k := 63) dX10_sell_328 rfl rfl (inb_of g328) ?_
      refine wp_iinc (v := v6 + 1) (lv' := [(0, _), (1, _), (6, _)]) dX10_sell_329 2 rfl rfl rfl rfl rfl ?_
      refine wp_goto 294 dX10_sell_332 rfl ?_
      refine wp_pick [0, 1, 2] (lv' := [(0, _), (1, _), (6, _)]) rfl ?_
      exact ih v1 (v6 + 1) (upI (upI I 62 (((6 * v6) + v1).toNatClampNeg) (-1)) 63 (((6 * v6) + v1).toNatClampNeg) (-1)) J r h
set_option maxRecDepth 100000 in
set_option maxHeartbeats 4000000 in
theorem w_X10_sell_142 (Γ : GT) (ad : Nat → Nat) : ∀ (n : Nat) (v1 : Int32) (v2 : Int32) (v3 : Int32) (v4 : Int32) (v5 : Int32) (I : IT) (J : JT) (r : IT), f_X10_sell_142 n v1 v2 v3 v4 v5 I = some r → WP Γ mX10_sell (0, 0) 142 [(0, .ref (ad 55)), (1, .int v1), (2, .int v2), (3, .int v3), (4, .int v4), (5, .int v5)] [] (DX ad) I J (QE none (DX ad) r J) := by
  intro n
  induction n with
  | zero => intro v1 v2 v3 v4 v5 I J r h; exact absurd h (by simp [f_X10_sell_142])
  | succ n ih =>
    intro v1 v2 v3 v4 v5 I J r h
    rw [f_X10_sell_142] at h
    refine wp_iload dX10_sell_142 5 rfl ?_
    refine wp_aload_n dX10_sell_144 0 rfl ?_
    refine wp_getI (k := 55) dX10_sell_145 flX10_121 rfl rfl rfl rfl ?_
    refine wp_aload_n dX10_sell_148 0 rfl ?_
    refine wp_getI (k := 55) dX10_sell_149 flX10_124 rfl rfl rfl rfl ?_
    refine wp_iadd dX10_sell_152 ?_
    refine wp_icmp_lt 199 dX10_sell_153 rfl (fun c153 => ?_) (fun c153 => ?_)
    · replace h := o_pos h c153
      refine wp_iload dX10_sell_199 4 rfl ?_
      refine wp_if_ge 208 dX10_sell_201 rfl (fun c201 => ?_) (fun c201 => ?_)
      · replace h := o_pos h c201
        refine wp_iload_n dX10_sell_208 2 rfl ?_
        refine wp_aload_n dX10_sell_209 0 rfl ?_
        refine wp_getR (k := 55) (a' := ad 59) dX10_sell_210 flX10_19 rfl rfl rfl rfl rfl ?_
        refine wp_iload dX10_sell_213 4 rfl ?_
        refine wp_aload_n dX10_sell_215 0 rfl ?_
        refine wp_getI (k := 55) dX10_sell_216 flX10_121 rfl rfl rfl rfl ?_
        refine wp_isub dX10_sell_219 ?_
        refine wp_aload_n dX10_sell_220 0 rfl ?_
        refine wp_getI (k := 55) dX10_sell_221 flX10_124 rfl rfl rfl rfl ?_
        refine wp_isub dX10_sell_224 ?_
        obtain ⟨g225, h⟩ := o_grd h
        refine wp_iald (k := 59) dX10_sell_225 rfl rfl (inb_of g225) ?_
        refine wp_imul dX10_sell_226 ?_
        refine wp_bipush (v := 100) dX10_sell_227 (by decide) ?_
        refine wp_idiv dX10_sell_229 (by decide) ?_
        refine wp_istore (lv' := [(0, _), (1, _), (2, _), (3, _), (4, _), (5, _)]) dX10_sell_230 rfl rfl rfl ?_
        refine wp_iload dX10_sell_232 4 rfl ?_
        refine wp_if_lt 249 dX10_sell_234 rfl (fun c234 => ?_) (fun c234 => ?_)
        · replace h := o_pos h c234
          refine wp_aload_n dX10_sell_249 0 rfl ?_
          refine wp_getR (k := 55) (a' := ad 66) dX10_sell_250 flX10_47 rfl rfl rfl rfl rfl ?_
          refine wp_iload_n dX10_sell_253 1 rfl ?_
          refine wp_dup2 dX10_sell_254 rfl rfl ?_
          obtain ⟨g255, h⟩ := o_grd h
          refine wp_iald (k := 66) dX10_sell_255 rfl rfl (inb_of g255) ?_
          refine wp_iload_n dX10_sell_256 2 rfl ?_
          refine wp_iload dX10_sell_257 5 rfl ?_
          refine wp_isub dX10_sell_259 ?_
          refine wp_iadd dX10_sell_260 ?_
          obtain ⟨g261, h⟩ := o_grd h
          refine wp_iast (k := 66) dX10_sell_261 rfl rfl (inb_of g261) ?_
          refine wp_aload_n dX10_sell_262 0 rfl ?_
          refine wp_getR (k := 55) (a' := ad 66) dX10_sell_263 flX10_47 rfl rfl rfl rfl rfl ?_
          refine wp_iload_n dX10_sell_266 3 rfl ?_
          refine wp_dup2 dX10_sell_267 rfl rfl ?_
          obtain ⟨g268, h⟩ := o_grd h
          refine wp_iald (k := 66) dX10_sell_268 rfl rfl (inb_of g268) ?_
          refine wp_iload_n dX10_sell_269 2 rfl ?_
          refine wp_iadd dX10_sell_270 ?_
          obtain ⟨g271, h⟩ := o_grd h
          obtain ⟨i271, e271, h⟩ := o_bind h
          refine wp_iast (k := 66) dX10_sell_271 rfl rfl (inb_of g271) ?_
          refine wp_stI (Option.some.inj e271) ?_
          refine wp_aload_n dX10_sell_272 0 rfl ?_
          refine wp_getR (k := 55) (a' := ad 64) dX10_sell_273 flX10_41 rfl rfl rfl rfl rfl ?_
          refine wp_iload_n dX10_sell_276 1 rfl ?_
          refine wp_iload_n dX10_sell_277 3 rfl ?_
          refine wp_aload_n dX10_sell_278 0 rfl ?_
          refine wp_getI (k := 55) dX10_sell_279 flX10_121 rfl rfl rfl rfl ?_
          refine wp_isub dX10_sell_282 ?_
          obtain ⟨g283, h⟩ := o_grd h
          refine wp_iast (k := 64) dX10_sell_283 rfl rfl (inb_of g283) ?_
          refine wp_aload_n dX10_sell_284 0 rfl ?_
          refine wp_getR (k := 55) (a' := ad 65) dX10_sell_285 flX10_44 rfl rfl rfl rfl rfl ?_
          refine wp_iload_n dX10_sell_288 1 rfl ?_
          refine wp_iload_n dX10_sell_289 2 rfl ?_
          obtain ⟨g290, h⟩ := o_grd h
          refine wp_iast (k := 65) dX10_sell_290 rfl rfl (inb_of g290) ?_
          refine wp_iconst (v := 0) dX10_sell_291 (by decide) ?_
          refine wp_istore (lv' := [(0, _), (1, _), (2, _), (3, _), (4, _), (5, _), (6, _)]) dX10_sell_292 rfl rfl rfl ?_
          refine wp_pick [0, 1, 6] (lv' := [(0, _), (1, _), (6, _)]) rfl ?_
          exact w_X10_sell_294 Γ ad FU v1 0 (upI (upI i271 64 v1.toNatClampNeg (v3 - (i271 55 0))) 65 v1.toNatClampNeg v2) J r h
        · replace h := o_neg h c234
          refine wp_aload_n dX10_sell_237 0 rfl ?_
          refine wp_getR (k := 55) (a' := ad 66) dX10_sell_238 flX10_47 rfl rfl rfl rfl rfl ?_
          refine wp_iload dX10_sell_241 4 rfl ?_
          refine wp_dup2 dX10_sell_243 rfl rfl ?_
          obtain ⟨g244, h⟩ := o_grd h
          refine wp_iald (k := 66) dX10_sell_244 rfl rfl (inb_of g244) ?_
          refine wp_iload dX10_sell_245 5 rfl ?_
          refine wp_iadd dX10_sell_247 ?_
          obtain ⟨g248, h⟩ := o_grd h
          refine wp_iast (k := 66) dX10_sell_248 rfl rfl (inb_of g248) ?_
          refine wp_aload_n dX10_sell_249 0 rfl ?_
          refine wp_getR (k := 55) (a' := ad 66) dX10_sell_250 flX10_47 rfl rfl rfl rfl rfl ?_
          refine wp_iload_n dX10_sell_253 1 rfl ?_
          refine wp_dup2 dX10_sell_254 rfl rfl ?_
          obtain ⟨g255, h⟩ := o_grd h
          refine wp_iald (k := 66) dX10_sell_255 rfl rfl (inb_of g255) ?_
          refine wp_iload_n dX10_sell_256 2 rfl ?_
          refine wp_iload dX10_sell_257 5 rfl ?_
          refine wp_isub dX10_sell_259 ?_
          refine wp_iadd dX10_sell_260 ?_
          obtain ⟨g261, h⟩ := o_grd h
          obtain ⟨i261, e261, h⟩ := o_bind h
          refine wp_iast (k := 66) dX10_sell_261 rfl rfl (inb_of g261) ?_
          refine wp_stI (Option.some.inj e261) ?_
          refine wp_aload_n dX10_sell_262 0 rfl ?_
          refine wp_getR (k := 55) (a' := ad 66) dX10_sell_263 flX10_47 rfl rfl rfl rfl rfl ?_
          refine wp_iload_n dX10_sell_266 3 rfl ?_
          refine wp_dup2 dX10_sell_267 rfl rfl ?_
          obtain ⟨g268, h⟩ := o_grd h
          refine wp_iald (k := 66) dX10_sell_268 rfl rfl (inb_of g268) ?_
          refine wp_iload_n dX10_sell_269 2 rfl ?_
          refine wp_iadd dX10_sell_270 ?_
          obtain ⟨g271, h⟩ := o_grd h
          refine wp_iast (k := 66) dX10_sell_271 rfl rfl (inb_of g271) ?_
          refine wp_aload_n dX10_sell_272 0 rfl ?_
          refine wp_getR (k := 55) (a' := ad 64) dX10_sell_273 flX10_41 rfl rfl rfl rfl rfl ?_
          refine wp_iload_n dX10_sell_276 1 rfl ?_
          refine wp_iload_n dX10_sell_277 3 rfl ?_
          refine wp_aload_n dX10_sell_278 0 rfl ?_
          refine wp_getI (k := 55) dX10_sell_279 flX10_121 rfl rfl rfl rfl ?_
          refine wp_isub dX10_sell_282 ?_
          obtain ⟨g283, h⟩ := o_grd h
          obtain ⟨i283, e283, h⟩ := o_bind h
          refine wp_iast (k := 64) dX10_sell_283 rfl rfl (inb_of g283) ?_
          refine wp_stI (Option.some.inj e283) ?_
          refine wp_aload_n dX10_sell_284 0 rfl ?_
          refine wp_getR (k := 55) (a' := ad 65) dX10_sell_285 flX10_44 rfl rfl rfl rfl rfl ?_
          refine wp_iload_n dX10_sell_288 1 rfl ?_
          refine wp_iload_n dX10_sell_289 2 rfl ?_
          obtain ⟨g290, h⟩ := o_grd h
          refine wp_iast (k := 65) dX10_sell_290 rfl rfl (inb_of g290) ?_
          refine wp_iconst (v := 0) dX10_sell_291 (by decide) ?_
          refine wp_istore (lv' := [(0, _), (1, _), (2, _), (3, _), (4, _), (5, _), (6, _)]) dX10_sell_292 rfl rfl rfl ?_
          refine wp_pick [0, 1, 6] (lv' := [(0, _), (1, _), (6, _)]) rfl ?_
          exact w_X10_sell_294 Γ ad FU v1 0 (upI i283 65 v1.toNatClampNeg v2) J r h
      · replace h := o_neg h c201
        refine wp_iconst (v := 0) dX10_sell_204 (by decide) ?_
        refine wp_goto 230 dX10_sell_205 rfl ?_
        refine wp_istore (lv' := [(0, _), (1, _), (2, _), (3, _), (4, _), (5, _)]) dX10_sell_230 rfl rfl rfl ?_
        refine wp_iload dX10_sell_232 4 rfl ?_
        refine wp_if_lt 249 dX10_sell_234 rfl (fun c234 => ?_) (fun c234 => ?_)
        · replace h := o_pos h c234
          refine wp_aload_n dX10_sell_249 0 rfl ?_
          refine wp_getR (k := 55) (a' := ad 66) dX10_sell_250 flX10_47 rfl rfl rfl rfl rfl ?_
          refine wp_iload_n dX10_sell_253 1 rfl ?_
          refine wp_dup2 dX10_sell_254 rfl rfl ?_
          obtain ⟨g255, h⟩ := o_grd h
          refine wp_iald (k := 66) dX10_sell_255 rfl rfl (inb_of g255) ?_
          refine wp_iload_n dX10_sell_256 2 rfl ?_
          refine wp_iload dX10_sell_257 5 rfl ?_
          refine wp_isub dX10_sell_259 ?_
          refine wp_iadd dX10_sell_260 ?_
          obtain ⟨g261, h⟩ := o_grd h
          refine wp_iast (k := 66) dX10_sell_261 rfl rfl (inb_of g261) ?_
          refine wp_aload_n dX10_sell_262 0 rfl ?_
          refine wp_getR (k := 55) (a' := ad 66) dX10_sell_263 flX10_47 rfl rfl rfl rfl rfl ?_
          refine wp_iload_n dX10_sell_266 3 rfl ?_
          refine wp_dup2 dX10_sell_267 rfl rfl ?_
          obtain ⟨g268, h⟩ := o_grd h
          refine wp_iald (k := 66) dX10_sell_268 rfl rfl (inb_of g268) ?_
          refine wp_iload_n dX10_sell_269 2 rfl ?_
          refine wp_iadd dX10_sell_270 ?_
          obtain ⟨g271, h⟩ := o_grd h
          obtain ⟨i271, e271, h⟩ := o_bind h
          refine wp_iast (k := 66) dX10_sell_271 rfl rfl (inb_of g271) ?_
          refine wp_stI (Option.some.inj e271) ?_
          refine wp_aload_n dX10_sell_272 0 rfl ?_
          refine wp_getR (k := 55) (a' := ad 64) dX10_sell_273 flX10_41 rfl rfl rfl rfl rfl ?_
          refine wp_iload_n dX10_sell_276 1 rfl ?_
          refine wp_iload_n dX10_sell_277 3 rfl ?_
          refine wp_aload_n dX10_sell_278 0 rfl ?_
          refine wp_getI (k := 55) dX10_sell_279 flX10_121 rfl rfl rfl rfl ?_
          refine wp_isub dX10_sell_282 ?_
          obtain ⟨g283, h⟩ := o_grd h
          refine wp_iast (k := 64) dX10_sell_283 rfl rfl (inb_of g283) ?_
          refine wp_aload_n dX10_sell_284 0 rfl ?_
          refine wp_getR (k := 55) (a' := ad 65) dX10_sell_285 flX10_44 rfl rfl rfl rfl rfl ?_
          refine wp_iload_n dX10_sell_288 1 rfl ?_
          refine wp_iload_n dX10_sell_289 2 rfl ?_
          obtain ⟨g290, h⟩ := o_grd h
          refine wp_iast (k := 65) dX10_sell_290 rfl rfl (inb_of g290) ?_
          refine wp_iconst (v := 0) dX10_sell_291 (by decide) ?_
          refine wp_istore (lv' := [(0, _), (1, _), (2, _), (3, _), (4, _), (5, _), (6, _)]) dX10_sell_292 rfl rfl rfl ?_
          refine wp_pick [0, 1, 6] (lv' := [(0, _), (1, _), (6, _)]) rfl ?_
          exact w_X10_sell_294 Γ ad FU v1 0 (upI (upI i271 64 v1.toNatClampNeg (v3 - (i271 55 0))) 65 v1.toNatClampNeg v2) J r h
        · replace h := o_neg h c234
          refine wp_aload_n dX10_sell_237 0 rfl ?_
          refine wp_getR (k := 55) (a' := ad 66) dX10_sell_238 flX10_47 rfl rfl rfl rfl rfl ?_
          refine wp_iload dX10_sell_241 4 rfl ?_
          refine wp_dup2 dX10_sell_243 rfl rfl ?_
          obtain ⟨g244, h⟩ := o_grd h
          refine wp_iald (k := 66) dX10_sell_244 rfl rfl (inb_of g244) ?_
          refine wp_iload dX10_sell_245 5 rfl ?_
          refine wp_iadd dX10_sell_247 ?_
          obtain ⟨g248, h⟩ := o_grd h
          refine wp_iast (k := 66) dX10_sell_248 rfl rfl (inb_of g248) ?_
          refine wp_aload_n dX10_sell_249 0 rfl ?_
          refine wp_getR (k := 55) (a' := ad 66) dX10_sell_250 flX10_47 rfl rfl rfl rfl rfl ?_
          refine wp_iload_n dX10_sell_253 1 rfl ?_
          refine wp_dup2 dX10_sell_254 rfl rfl ?_
          obtain ⟨g255, h⟩ := o_grd h
          refine wp_iald (k := 66) dX10_sell_255 rfl rfl (inb_of g255) ?_
          refine wp_iload_n dX10_sell_256 2 rfl ?_
          refine wp_iload dX10_sell_257 5 rfl ?_
          refine wp_isub dX10_sell_259 ?_
          refine wp_iadd dX10_sell_260 ?_
          obtain ⟨g261, h⟩ := o_grd h
          obtain ⟨i261, e261, h⟩ := o_bind h
          refine wp_iast (k := 66) dX10_sell_261 rfl rfl (inb_of g261) ?_
          refine wp_stI (Option.some.inj e261) ?_
          refine wp_aload_n dX10_sell_262 0 rfl ?_
          refine wp_getR (k := 55) (a' := ad 66) dX10_sell_263 flX10_47 rfl rfl rfl rfl rfl ?_
          refine wp_iload_n dX10_sell_266 3 rfl ?_
          refine wp_dup2 dX10_sell_267 rfl rfl ?_
          obtain ⟨g268, h⟩ := o_grd h
          refine wp_iald (k := 66) dX10_sell_268 rfl rfl (inb_of g268) ?_
          refine wp_iload_n dX10_sell_269 2 rfl ?_
          refine wp_iadd dX10_sell_270 ?_
          obtain ⟨g271, h⟩ := o_grd h
          refine wp_iast (k := 66) dX10_sell_271 rfl rfl (inb_of g271) ?_
          refine wp_aload_n dX10_sell_272 0 rfl ?_
          refine wp_getR (k := 55) (a' := ad 64) dX10_sell_273 flX10_41 rfl rfl rfl rfl rfl ?_
          refine wp_iload_n dX10_sell_276 1 rfl ?_
          refine wp_iload_n dX10_sell_277 3 rfl ?_
          refine wp_aload_n dX10_sell_278 0 rfl ?_
          refine wp_getI (k := 55) dX10_sell_279 flX10_121 rfl rfl rfl rfl ?_
          refine wp_isub dX10_sell_282 ?_
          obtain ⟨g283, h⟩ := o_grd h
          obtain ⟨i283, e283, h⟩ := o_bind h
          refine wp_iast (k := 64) dX10_sell_283 rfl rfl (inb_of g283) ?_
          refine wp_stI (Option.some.inj e283) ?_
          refine wp_aload_n dX10_sell_284 0 rfl ?_
          refine wp_getR (k := 55) (a' := ad 65) dX10_sell_285 flX10_44 rfl rfl rfl rfl rfl ?_
          refine wp_iload_n dX10_sell_288 1 rfl ?_
          refine wp_iload_n dX10_sell_289 2 rfl ?_
          obtain ⟨g290, h⟩ := o_grd h
          refine wp_iast (k := 65) dX10_sell_290 rfl rfl (inb_of g290) ?_
          refine wp_iconst (v := 0) dX10_sell_291 (by decide) ?_
          refine wp_istore (lv' := [(0, _), (1, _), (2, _), (3, _), (4, _), (5, _), (6, _)]) dX10_sell_292 rfl rfl rfl ?_
          refine wp_pick [0, 1, 6] (lv' := [(0, _), (1, _), (6, _)]) rfl ?_
          exact w_X10_sell_294 Γ ad FU v1 0 (upI i283 65 v1.toNatClampNeg v2) J r h
    · replace h := o_neg h c153
      refine wp_aload_n dX10_sell_156 0 rfl ?_
      refine wp_getR (k := 55) (a' := ad 61) dX10_sell_157 flX10_32 rfl rfl rfl rfl rfl ?_
      refine wp_iload dX10_sell_160 5 rfl ?_
      obtain ⟨g162, h⟩ := o_grd h
      refine wp_iald (k := 61) dX10_sell_162 rfl rfl (inb_of g162) ?_
      refine wp_iload_n dX10_sell_163 1 rfl ?_
      obtain ⟨r164, h164, h⟩ := o_bind h
      refine wp_callsI (c_X10_has Γ ad (I 61 v5.toNatClampNeg) v1 I J r164 h164) dX10_sell_164 mlX10_281 mwX10_has miX10_has rfl (Nat.le_of_ble_eq_true rfl) rfl (by decide) (by decide) ?_
      refine wp_if_eq 189 dX10_sell_167 rfl (fun c167 => ?_) (fun c167 => ?_)
      · replace h := o_pos h c167
        refine wp_iload dX10_sell_189 4 rfl ?_
        refine wp_istore (lv' := [(0, _), (1, _), (2, _), (3, _), (4, _), (5, _)]) dX10_sell_191 rfl rfl rfl ?_
        refine wp_iinc (v := v5 + (-1)) (lv' := [(0, _), (1, _), (2, _), (3, _), (4, _), (5, _)]) dX10_sell_193 5 rfl rfl rfl rfl rfl ?_
        refine wp_goto 142 dX10_sell_196 rfl ?_
        refine wp_pick [0, 1, 2, 3, 4, 5] (lv' := [(0, _), (1, _), (2, _), (3, _), (4, _), (5, _)]) rfl ?_
        exact ih v1 v2 v3 v4 (v5 + (-1)) I J r h
      · replace h := o_neg h c167
        refine wp_aload_n dX10_sell_170 0 rfl ?_
        refine wp_getR (k := 55) (a' := ad 61) dX10_sell_171 flX10_32 rfl rfl rfl rfl rfl ?_
        refine wp_iload dX10_sell_174 5 rfl ?_
        obtain ⟨g176, h⟩ := o_grd h
        refine wp_iald (k := 61) dX10_sell_176 rfl rfl (inb_of g176) ?_
        refine wp_iload_n dX10_sell_177 3 rfl ?_
        obtain ⟨r178, h178, h⟩ := o_bind h
        refine wp_callsI (c_X10_has Γ ad (I 61 v5.toNatClampNeg) v3 I J r178 h178) dX10_sell_178 mlX10_281 mwX10_has miX10_has rfl (Nat.le_of_ble_eq_true rfl) rfl (by decide) (by decide) ?_
        refine wp_if_eq 189 dX10_sell_181 rfl (fun c181 => ?_) (fun c181 => ?_)
        · replace h := o_pos h c181
          refine wp_iload dX10_sell_189 4 rfl ?_
          refine wp_istore (lv' := [(0, _), (1, _), (2, _), (3, _), (4, _), (5, _)]) dX10_sell_191 rfl rfl rfl ?_
          refine wp_iinc (v := v5 + (-1)) (lv' := [(0, _), (1, _), (2, _), (3, _), (4, _), (5, _)]) dX10_sell_193 5 rfl rfl rfl rfl rfl ?_
          refine wp_goto 142 dX10_sell_196 rfl ?_
          refine wp_pick [0, 1, 2, 3, 4, 5] (lv' := [(0, _), (1, _), (2, _), (3, _), (4, _), (5, _)]) rfl ?_
          exact ih v1 v2 v3 v4 (v5 + (-1)) I J r h
        · replace h := o_neg h c181
          refine wp_iload dX10_sell_184 5 rfl ?_
          refine wp_goto 191 dX10_sell_186 rfl ?_
          refine wp_istore (lv' := [(0, _), (1, _), (2, _), (3, _), (4, _), (5, _)]) dX10_sell_191 rfl rfl rfl ?_
          refine wp_iinc (v := v5 + (-1)) (lv' := [(0, _), (1, _), (2, _), (3, _), (4, _), (5, _)]) dX10_sell_193 5 rfl rfl rfl rfl rfl ?_
          refine wp_goto 142 dX10_sell_196 rfl ?_
          refine wp_pick [0, 1, 2, 3, 4, 5] (lv' := [(0, _), (1, _), (2, _), (3, _), (4, _), (5, _)]) rfl ?_
          exact ih v1 v2 v3 v5 (v5 + (-1)) I J r h
set_option maxRecDepth 100000 in
set_option maxHeartbeats 4000000 in
theorem w_X10_sell_27 (Γ : GT) (ad : Nat → Nat) : ∀ (n : Nat) (v1 : Int32) (v2 : Int32) (v3 : Int32) (v4 : Int32) (I : IT) (J : JT) (r : IT), f_X10_sell_27 n v1 v2 v3 v4 I = some r → WP Γ mX10_sell (0, 0) 27 [(0, .ref (ad 55)), (1, .int v1), (2, .int v2), (3, .int v3), (4, .int v4)] [] (DX ad) I J (QE none (DX ad) r J) := by
  intro n
  induction n with
  | zero => intro v1 v2 v3 v4 I J r h; exact absurd h (by simp [f_X10_sell_27])
  | succ n ih =>
    intro v1 v2 v3 v4 I J r h
    rw [f_X10_sell_27] at h
    refine wp_iload dX10_sell_27 4 rfl ?_
    refine wp_aload_n dX10_sell_29 0 rfl ?_
    refine wp_getI (k := 55) dX10_sell_30 flX10_124 rfl rfl rfl rfl ?_
    refine wp_icmp_ge 126 dX10_sell_33 rfl (fun c33 => ?_) (fun c33 => ?_)
    · replace h := o_pos h c33
      refine wp_iload_n dX10_sell_126 3 rfl ?_
      refine wp_if_ge 131 dX10_sell_127 rfl (fun c127 => ?_) (fun c127 => ?_)
      · replace h := o_pos h c127
        refine wp_iconst (v := (-1)) dX10_sell_131 (by decide) ?_
        refine wp_istore (lv' := [(0, _), (1, _), (2, _), (3, _), (4, _)]) dX10_sell_132 rfl rfl rfl ?_
        refine wp_aload_n dX10_sell_134 0 rfl ?_
        obtain ⟨r135, h135, h⟩ := o_bind h
        refine wp_callvI (k := 55) (ci := 10) (c_X10_persons Γ ad I J r135 h135) dX10_sell_135 mlX10_130 mwX10_persons miX10_persons rfl rfl rfl rfl (Nat.le_of_ble_eq_true rfl) rfl (by decide) (by decide) ?_
        refine wp_iconst (v := 1) dX10_sell_138 (by decide) ?_
        refine wp_isub dX10_sell_139 ?_
        refine wp_istore (lv' := [(0, _), (1, _), (2, _), (3, _), (4, _), (5, _)]) dX10_sell_140 rfl rfl rfl ?_
        refine wp_pick [0, 1, 2, 3, 4, 5] (lv' := [(0, _), (1, _), (2, _), (3, _), (4, _), (5, _)]) rfl ?_
        exact w_X10_sell_142 Γ ad FU v1 v2 v3 (-1) (r135 - 1) I J r h
      · replace h := o_neg h c127
        obtain rfl := Option.some.inj h
        exact wp_return dX10_sell_130 rfl ⟨rfl, rfl, rfl, rfl⟩
    · replace h := o_neg h c33
      refine wp_aload_n dX10_sell_36 0 rfl ?_
      refine wp_getI (k := 55) dX10_sell_37 flX10_121 rfl rfl rfl rfl ?_
      refine wp_iload dX10_sell_40 4 rfl ?_
      refine wp_iadd dX10_sell_42 ?_
      refine wp_istore (lv' := [(0, _), (1, _), (2, _), (3, _), (4, _), (5, _)]) dX10_sell_43 rfl rfl rfl ?_
      refine wp_aload_n dX10_sell_45 0 rfl ?_
      refine wp_iload dX10_sell_46 5 rfl ?_
      refine wp_iload_n dX10_sell_48 1 rfl ?_
      obtain ⟨r49, h49, h⟩ := o_bind h
      refine wp_callvI (k := 55) (ci := 10) (c_X10_isBound Γ ad ((I 55 0) + v4) v1 I J r49 h49) dX10_sell_49 mlX10_278 mwX10_isBound miX10_isBound rfl rfl rfl rfl (Nat.le_of_ble_eq_true rfl) rfl (by decide) (by decide) ?_
      refine wp_if_eq 75 dX10_sell_52 rfl (fun c52 => ?_) (fun c52 => ?_)
      · replace h := o_pos h c52
        refine wp_iconst (v := 0) dX10_sell_75 (by decide) ?_
        refine wp_istore (lv' := [(0, _), (1, _), (2, _), (3, _), (4, _), (5, _), (6, _)]) dX10_sell_76 rfl rfl rfl ?_
        refine wp_iload dX10_sell_78 6 rfl ?_
        refine wp_if_eq 118 dX10_sell_80 rfl (fun c80 => ?_) (fun c80 => ?_)
        · replace h := o_pos h c80
          refine wp_iload_n dX10_sell_118 3 rfl ?_
          refine wp_istore_n (lv' := [(0, _), (1, _), (2, _), (3, _), (4, _), (5, _), (6, _)]) dX10_sell_119 rfl rfl rfl rfl ?_
          refine wp_iinc (v := v4 + 1) (lv' := [(0, _), (1, _), (2, _), (3, _), (4, _), (5, _), (6, _)]) dX10_sell_120 4 rfl rfl rfl rfl rfl ?_
          refine wp_goto 27 dX10_sell_123 rfl ?_
          refine wp_pick [0, 1, 2, 3, 4] (lv' := [(0, _), (1, _), (2, _), (3, _), (4, _)]) rfl ?_
          exact ih v1 v2 v3 (v4 + 1) I J r h
        · replace h := o_neg h c80
          refine wp_iload_n dX10_sell_83 3 rfl ?_
          refine wp_if_lt 113 dX10_sell_84 rfl (fun c84 => ?_) (fun c84 => ?_)
          · replace h := o_pos h c84
            refine wp_iload dX10_sell_113 5 rfl ?_
            refine wp_goto 119 dX10_sell_115 rfl ?_
            refine wp_istore_n (lv' := [(0, _), (1, _), (2, _), (3, _), (4, _), (5, _), (6, _)]) dX10_sell_119 rfl rfl rfl rfl ?_
            refine wp_iinc (v := v4 + 1) (lv' := [(0, _), (1, _), (2, _), (3, _), (4, _), (5, _), (6, _)]) dX10_sell_120 4 rfl rfl rfl rfl rfl ?_
            refine wp_goto 27 dX10_sell_123 rfl ?_
            refine wp_pick [0, 1, 2, 3, 4] (lv' := [(0, _), (1, _), (2, _), (3, _), (4, _)]) rfl ?_
            exact ih v1 v2 ((I 55 0) + v4) (v4 + 1) I J r h
          · replace h := o_neg h c84
            refine wp_aload_n dX10_sell_87 0 rfl ?_
            refine wp_getR (k := 55) (a' := ad 62) dX10_sell_88 flX10_35 rfl rfl rfl rfl rfl ?_
            refine wp_bipush (v := 6) dX10_sell_91 (by decide) ?_
            refine wp_iload dX10_sell_93 5 rfl ?_
            refine wp_imul dX10_sell_95 ?_
            refine wp_iload_n dX10_sell_96 1 rfl ?_
            refine wp_iadd dX10_sell_97 ?_
            obtain ⟨g98, h⟩ := o_grd h
            refine wp_iald (k := 62) dX10_sell_98 rfl rfl (inb_of g98) ?_
            refine wp_aload_n dX10_sell_99 0 rfl ?_
            refine wp_getR (k := 55) (a' := ad 62) dX10_sell_100 flX10_35 rfl rfl rfl rfl rfl ?_
            refine wp_bipush (v := 6) dX10_sell_103 (by decide) ?_
            refine wp_iload_n dX10_sell_105 3 rfl ?_
            refine wp_imul dX10_sell_106 ?_
            refine wp_iload_n dX10_sell_107 1 rfl ?_
            refine wp_iadd dX10_sell_108 ?_
            obtain ⟨g109, h⟩ := o_grd h
            refine wp_iald (k := 62) dX10_sell_109 rfl rfl (inb_of g109) ?_
            refine wp_icmp_le 118 dX10_sell_110 rfl (fun c110 => ?_) (fun c110 => ?_)
            · replace h := o_pos h c110
              refine wp_iload_n dX10_sell_118 3 rfl ?_
              refine wp_istore_n (lv' := [(0, _), (1, _), (2, _), (3, _), (4, _), (5, _), (6, _)]) dX10_sell_119 rfl rfl rfl rfl ?_
              refine wp_iinc (v := v4 + 1) (lv' := [(0, _), (1, _), (2, _), (3, _), (4, _), (5, _), (6, _)]) dX10_sell_120 4 rfl rfl rfl rfl rfl ?_
              refine wp_goto 27 dX10_sell_123 rfl ?_
              refine wp_pick [0, 1, 2, 3, 4] (lv' := [(0, _), (1, _), (2, _), (3, _), (4, _)]) rfl ?_
              exact ih v1 v2 v3 (v4 + 1) I J r h
            · replace h := o_neg h c110
              refine wp_iload dX10_sell_113 5 rfl ?_
              refine wp_goto 119 dX10_sell_115 rfl ?_
              refine wp_istore_n (lv' := [(0, _), (1, _), (2, _), (3, _), (4, _), (5, _), (6, _)]) dX10_sell_119 rfl rfl rfl rfl ?_
              refine wp_iinc (v := v4 + 1) (lv' := [(0, _), (1, _), (2, _), (3, _), (4, _), (5, _), (6, _)]) dX10_sell_120 4 rfl rfl rfl rfl rfl ?_
              refine wp_goto 27 dX10_sell_123 rfl ?_
              refine wp_pick [0, 1, 2, 3, 4] (lv' := [(0, _), (1, _), (2, _), (3, _), (4, _)]) rfl ?_
              exact ih v1 v2 ((I 55 0) + v4) (v4 + 1) I J r h
      · replace h := o_neg h c52
        refine wp_aload_n dX10_sell_55 0 rfl ?_
        refine wp_getR (k := 55) (a' := ad 62) dX10_sell_56 flX10_35 rfl rfl rfl rfl rfl ?_
        refine wp_bipush (v := 6) dX10_sell_59 (by decide) ?_
        refine wp_iload dX10_sell_61 5 rfl ?_
        refine wp_imul dX10_sell_63 ?_
        refine wp_iload_n dX10_sell_64 1 rfl ?_
        refine wp_iadd dX10_sell_65 ?_
        obtain ⟨g66, h⟩ := o_grd h
        refine wp_iald (k := 62) dX10_sell_66 rfl rfl (inb_of g66) ?_
        refine wp_iload_n dX10_sell_67 2 rfl ?_
        refine wp_icmp_lt 75 dX10_sell_68 rfl (fun c68 => ?_) (fun c68 => ?_)
        · replace h := o_pos h c68
          refine wp_iconst (v := 0) dX10_sell_75 (by decide) ?_
          refine wp_istore (lv' := [(0, _), (1, _), (2, _), (3, _), (4, _), (5, _), (6, _)]) dX10_sell_76 rfl rfl rfl ?_
          refine wp_iload dX10_sell_78 6 rfl ?_
          refine wp_if_eq 118 dX10_sell_80 rfl (fun c80 => ?_) (fun c80 => ?_)
          · replace h := o_pos h c80
            refine wp_iload_n dX10_sell_118 3 rfl ?_
            refine wp_istore_n (lv' := [(0, _), (1, _), (2, _), (3, _), (4, _), (5, _), (6, _)]) dX10_sell_119 rfl rfl rfl rfl ?_
            refine wp_iinc (v := v4 + 1) (lv' := [(0, _), (1, _), (2, _), (3, _), (4, _), (5, _), (6, _)]) dX10_sell_120 4 rfl rfl rfl rfl rfl ?_
            refine wp_goto 27 dX10_sell_123 rfl ?_
            refine wp_pick [0, 1, 2, 3, 4] (lv' := [(0, _), (1, _), (2, _), (3, _), (4, _)]) rfl ?_
            exact ih v1 v2 v3 (v4 + 1) I J r h
          · replace h := o_neg h c80
            refine wp_iload_n dX10_sell_83 3 rfl ?_
            refine wp_if_lt 113 dX10_sell_84 rfl (fun c84 => ?_) (fun c84 => ?_)
            · replace h := o_pos h c84
              refine wp_iload dX10_sell_113 5 rfl ?_
              refine wp_goto 119 dX10_sell_115 rfl ?_
              refine wp_istore_n (lv' := [(0, _), (1, _), (2, _), (3, _), (4, _), (5, _), (6, _)]) dX10_sell_119 rfl rfl rfl rfl ?_
              refine wp_iinc (v := v4 + 1) (lv' := [(0, _), (1, _), (2, _), (3, _), (4, _), (5, _), (6, _)]) dX10_sell_120 4 rfl rfl rfl rfl rfl ?_
              refine wp_goto 27 dX10_sell_123 rfl ?_
              refine wp_pick [0, 1, 2, 3, 4] (lv' := [(0, _), (1, _), (2, _), (3, _), (4, _)]) rfl ?_
              exact ih v1 v2 ((I 55 0) + v4) (v4 + 1) I J r h
            · replace h := o_neg h c84
              refine wp_aload_n dX10_sell_87 0 rfl ?_
              refine wp_getR (k := 55) (a' := ad 62) dX10_sell_88 flX10_35 rfl rfl rfl rfl rfl ?_
              refine wp_bipush (v := 6) dX10_sell_91 (by decide) ?_
              refine wp_iload dX10_sell_93 5 rfl ?_
              refine wp_imul dX10_sell_95 ?_
              refine wp_iload_n dX10_sell_96 1 rfl ?_
              refine wp_iadd dX10_sell_97 ?_
              obtain ⟨g98, h⟩ := o_grd h
              refine wp_iald (k := 62) dX10_sell_98 rfl rfl (inb_of g98) ?_
              refine wp_aload_n dX10_sell_99 0 rfl ?_
              refine wp_getR (k := 55) (a' := ad 62) dX10_sell_100 flX10_35 rfl rfl rfl rfl rfl ?_
              refine wp_bipush (v := 6) dX10_sell_103 (by decide) ?_
              refine wp_iload_n dX10_sell_105 3 rfl ?_
              refine wp_imul dX10_sell_106 ?_
              refine wp_iload_n dX10_sell_107 1 rfl ?_
              refine wp_iadd dX10_sell_108 ?_
              obtain ⟨g109, h⟩ := o_grd h
              refine wp_iald (k := 62) dX10_sell_109 rfl rfl (inb_of g109) ?_
              refine wp_icmp_le 118 dX10_sell_110 rfl (fun c110 => ?_) (fun c110 => ?_)
              · replace h := o_pos h c110
                refine wp_iload_n dX10_sell_118 3 rfl ?_
                refine wp_istore_n (lv' := [(0, _), (1, _), (2, _), (3, _), (4, _), (5, _), (6, _)]) dX10_sell_119 rfl rfl rfl rfl ?_
                refine wp_iinc (v := v4 + 1) (lv' := [(0, _), (1, _), (2, _), (3, _), (4, _), (5, _), (6, _)]) dX10_sell_120 4 rfl rfl rfl rfl rfl ?_
                refine wp_goto 27 dX10_sell_123 rfl ?_
                refine wp_pick [0, 1, 2, 3, 4] (lv' := [(0, _), (1, _), (2, _), (3, _), (4, _)]) rfl ?_
                exact ih v1 v2 v3 (v4 + 1) I J r h
              · replace h := o_neg h c110
                refine wp_iload dX10_sell_113 5 rfl ?_
                refine wp_goto 119 dX10_sell_115 rfl ?_
                refine wp_istore_n (lv' := [(0, _), (1, _), (2, _), (3, _), (4, _), (5, _), (6, _)]) dX10_sell_119 rfl rfl rfl rfl ?_
                refine wp_iinc (v := v4 + 1) (lv' := [(0, _), (1, _), (2, _), (3, _), (4, _), (5, _), (6, _)]) dX10_sell_120 4 rfl rfl rfl rfl rfl ?_
                refine wp_goto 27 dX10_sell_123 rfl ?_
                refine wp_pick [0, 1, 2, 3, 4] (lv' := [(0, _), (1, _), (2, _), (3, _), (4, _)]) rfl ?_
                exact ih v1 v2 ((I 55 0) + v4) (v4 + 1) I J r h
        · replace h := o_neg h c68
          refine wp_iconst (v := 1) dX10_sell_71 (by decide) ?_
          refine wp_goto 76 dX10_sell_72 rfl ?_
          refine wp_istore (lv' := [(0, _), (1, _), (2, _), (3, _), (4, _), (5, _), (6, _)]) dX10_sell_76 rfl rfl rfl ?_
          refine wp_iload dX10_sell_78 6 rfl ?_
          refine wp_if_eq 118 dX10_sell_80 rfl (fun c80 => ?_) (fun c80 => ?_)
          · replace h := o_pos h c80
            refine wp_iload_n dX10_sell_118 3 rfl ?_
            refine wp_istore_n (lv' := [(0, _), (1, _), (2, _), (3, _), (4, _), (5, _), (6, _)]) dX10_sell_119 rfl rfl rfl rfl ?_
            refine wp_iinc (v := v4 + 1) (lv' := [(0, _), (1, _), (2, _), (3, _), (4, _), (5, _), (6, _)]) dX10_sell_120 4 rfl rfl rfl rfl rfl ?_
            refine wp_goto 27 dX10_sell_123 rfl ?_
            refine wp_pick [0, 1, 2, 3, 4] (lv' := [(0, _), (1, _), (2, _), (3, _), (4, _)]) rfl ?_
            exact ih v1 v2 v3 (v4 + 1) I J r h
          · replace h := o_neg h c80
            refine wp_iload_n dX10_sell_83 3 rfl ?_
            refine wp_if_lt 113 dX10_sell_84 rfl (fun c84 => ?_) (fun c84 => ?_)
            · replace h := o_pos h c84
              refine wp_iload dX10_sell_113 5 rfl ?_
              refine wp_goto 119 dX10_sell_115 rfl ?_
              refine wp_istore_n (lv' := [(0, _), (1, _), (2, _), (3, _), (4, _), (5, _), (6, _)]) dX10_sell_119 rfl rfl rfl rfl ?_
              refine wp_iinc (v := v4 + 1) (lv' := [(0, _), (1, _), (2, _), (3, _), (4, _), (5, _), (6, _)]) dX10_sell_120 4 rfl rfl rfl rfl rfl ?_
              refine wp_goto 27 dX10_sell_123 rfl ?_
              refine wp_pick [0, 1, 2, 3, 4] (lv' := [(0, _), (1, _), (2, _), (3, _), (4, _)]) rfl ?_
              exact ih v1 v2 ((I 55 0) + v4) (v4 + 1) I J r h
            · replace h := o_neg h c84
              refine wp_aload_n dX10_sell_87 0 rfl ?_
              refine wp_getR (k := 55) (a' := ad 62) dX10_sell_88 flX10_35 rfl rfl rfl rfl rfl ?_
              refine wp_bipush (v := 6) dX10_sell_91 (by decide) ?_
              refine wp_iload dX10_sell_93 5 rfl ?_
              refine wp_imul dX10_sell_95 ?_
              refine wp_iload_n dX10_sell_96 1 rfl ?_
              refine wp_iadd dX10_sell_97 ?_
              obtain ⟨g98, h⟩ := o_grd h
              refine wp_iald (k := 62) dX10_sell_98 rfl rfl (inb_of g98) ?_
              refine wp_aload_n dX10_sell_99 0 rfl ?_
              refine wp_getR (k := 55) (a' := ad 62) dX10_sell_100 flX10_35 rfl rfl rfl rfl rfl ?_
              refine wp_bipush (v := 6) dX10_sell_103 (by decide) ?_
              refine wp_iload_n dX10_sell_105 3 rfl ?_
              refine wp_imul dX10_sell_106 ?_
              refine wp_iload_n dX10_sell_107 1 rfl ?_
              refine wp_iadd dX10_sell_108 ?_
              obtain ⟨g109, h⟩ := o_grd h
              refine wp_iald (k := 62) dX10_sell_109 rfl rfl (inb_of g109) ?_
              refine wp_icmp_le 118 dX10_sell_110 rfl (fun c110 => ?_) (fun c110 => ?_)
              · replace h := o_pos h c110
                refine wp_iload_n dX10_sell_118 3 rfl ?_
                refine wp_istore_n (lv' := [(0, _), (1, _), (2, _), (3, _), (4, _), (5, _), (6, _)]) dX10_sell_119 rfl rfl rfl rfl ?_
                refine wp_iinc (v := v4 + 1) (lv' := [(0, _), (1, _), (2, _), (3, _), (4, _), (5, _), (6, _)]) dX10_sell_120 4 rfl rfl rfl rfl rfl ?_
                refine wp_goto 27 dX10_sell_123 rfl ?_
                refine wp_pick [0, 1, 2, 3, 4] (lv' := [(0, _), (1, _), (2, _), (3, _), (4, _)]) rfl ?_
                exact ih v1 v2 v3 (v4 + 1) I J r h
              · replace h := o_neg h c110
                refine wp_iload dX10_sell_113 5 rfl ?_
                refine wp_goto 119 dX10_sell_115 rfl ?_
                refine wp_istore_n (lv' := [(0, _), (1, _), (2, _), (3, _), (4, _), (5, _), (6, _)]) dX10_sell_119 rfl rfl rfl rfl ?_
                refine wp_iinc (v := v4 + 1) (lv' := [(0, _), (1, _), (2, _), (3, _), (4, _), (5, _), (6, _)]) dX10_sell_120 4 rfl rfl rfl rfl rfl ?_
                refine wp_goto 27 dX10_sell_123 rfl ?_
                refine wp_pick [0, 1, 2, 3, 4] (lv' := [(0, _), (1, _), (2, _), (3, _), (4, _)]) rfl ?_
                exact ih v1 v2 ((I 55 0) + v4) (v4 + 1) I J r h
set_option maxRecDepth 100000 in
set_option maxHeartbeats 4000000 in
theorem c_X10_sell (Γ : GT) (ad : Nat → Nat) (a1 : Int32) (I : IT) (J : JT) (r : IT) (h : f_X10_sell a1 I = some r) : CALL Γ mX10_sell (0, 0) [.ref (ad 55), .int a1] (DX ad) I J (QE none (DX ad) r J) := by
  refine call_of' (by decide) (Nat.le_of_ble_eq_true rfl) (lv0 := [(0, .ref (ad 55)), (1, .int a1)]) rfl ?_
  unfold f_X10_sell at h
  refine wp_aload_n dX10_sell_0 0 rfl ?_
  refine wp_iload_n dX10_sell_1 1 rfl ?_
  refine wp_iload_n dX10_sell_2 1 rfl ?_
  obtain ⟨r3, h3, h⟩ := o_bind h
  refine wp_callvI (k := 55) (ci := 10) (c_X10_isBound Γ ad a1 a1 I J r3 h3) dX10_sell_3 mlX10_278 mwX10_isBound miX10_isBound rfl rfl rfl rfl (Nat.le_of_ble_eq_true rfl) rfl (by decide) (by decide) ?_
  refine wp_if_ne 10 dX10_sell_6 rfl (fun c6 => ?_) (fun c6 => ?_)
  · replace h := o_neg h c6
    refine wp_aload_n dX10_sell_10 0 rfl ?_
    refine wp_getR (k := 55) (a' := ad 62) dX10_sell_11 flX10_35 rfl rfl rfl rfl rfl ?_
    refine wp_bipush (v := 6) dX10_sell_14 (by decide) ?_
    refine wp_iload_n dX10_sell_16 1 rfl ?_
    refine wp_imul dX10_sell_17 ?_
    refine wp_iload_n dX10_sell_18 1 rfl ?_
    refine wp_iadd dX10_sell_19 ?_
    obtain ⟨g20, h⟩ := o_grd h
    refine wp_iald (k := 62) dX10_sell_20 rfl rfl (inb_of g20) ?_
    refine wp_istore_n (lv' := [(0, _), (1, _), (2, _)]) dX10_sell_21 rfl rfl rfl rfl ?_
    refine wp_iconst (v := (-1)) dX10_sell_22 (by decide) ?_
    refine wp_istore_n (lv' := [(0, _), (1, _), (2, _), (3, _)]) dX10_sell_23 rfl rfl rfl rfl ?_
    refine wp_iconst (v := 0) dX10_sell_24 (by decide) ?_
    refine wp_istore (lv' := [(0, _), (1, _), (2, _), (3, _), (4, _)]) dX10_sell_25 rfl rfl rfl ?_
    refine wp_pick [0, 1, 2, 3, 4] (lv' := [(0, _), (1, _), (2, _), (3, _), (4, _)]) rfl ?_
    exact w_X10_sell_27 Γ ad FU a1 (I 62 ((6 * a1) + a1).toNatClampNeg) (-1) 0 I J r h
  · replace h := o_pos h c6
    obtain rfl := Option.some.inj h
    exact wp_return dX10_sell_9 rfl ⟨rfl, rfl, rfl, rfl⟩
def f_X10_bind (a1 : Int32) (a2 : Int32) (a3 : Int32) (I : IT) : Option (IT) :=
  if inbB ((6 * a1) + a2) 84 = true then
    if inbB ((6 * a1) + a2) 84 = true then
      (some (upI (upI I 62 (((6 * a1) + a2).toNatClampNeg) a3) 63 (((6 * a1) + a2).toNatClampNeg) (((upI I 62 (((6 * a1) + a2).toNatClampNeg) a3) 55 16) + ((upI I 62 (((6 * a1) + a2).toNatClampNeg) a3) 55 8)))).bind fun i31 =>
      (f_X10_sell a2 i31).bind fun r34 =>
      some r34
    else none
  else none
set_option maxRecDepth 100000 in
set_option maxHeartbeats 4000000 in
theorem c_X10_bind (Γ : GT) (ad : Nat → Nat) (a1 : Int32) (a2 : Int32) (a3 : Int32) (I : IT) (J : JT) (r : IT) (h : f_X10_bind a1 a2 a3 I = some r) : CALL Γ mX10_bind (0, 0) [.ref (ad 55), .int a1, .int a2, .int a3] (DX ad) I J (QE none (DX ad) r J) := by
  refine call_of' (by decide) (Nat.le_of_ble_eq_true rfl) (lv0 := [(0, .ref (ad 55)), (1, .int a1), (2, .int a2), (3, .int a3)]) rfl ?_
  unfold f_X10_bind at h
  refine wp_aload_n dX10_bind_0 0 rfl ?_
  refine wp_getR (k := 55) (a' := ad 62) dX10_bind_1 flX10_35 rfl rfl rfl rfl rfl ?_
  refine wp_bipush (v := 6) dX10_bind_4 (by decide) ?_
  refine wp_iload_n dX10_bind_6 1 rfl ?_
  refine wp_imul dX10_bind_7 ?_
  refine wp_iload_n dX10_bind_8 2 rfl ?_
  refine wp_iadd dX10_bind_9 ?_
  refine wp_iload_n dX10_bind_10 3 rfl ?_
  obtain ⟨g11, h⟩ := o_grd h
  refine wp_iast (k := 62) dX10_bind_11 rfl rfl (inb_of g11) ?_
  refine wp_aload_n dX10_bind_12 0 rfl ?_
  refine wp_getR (k := 55) (a' := ad 63) dX10_bind_13 flX10_38 rfl rfl rfl rfl rfl ?_
  refine wp_bipush (v := 6) dX10_bind_16 (by decide) ?_
  refine wp_iload_n dX10_bind_18 1 rfl ?_
  refine wp_imul dX10_bind_19 ?_
  refine wp_iload_n dX10_bind_20 2 rfl ?_
  refine wp_iadd dX10_bind_21 ?_
  refine wp_aload_n dX10_bind_22 0 rfl ?_
  refine wp_getI (k := 55) dX10_bind_23 flX10_138 rfl rfl rfl rfl ?_
  refine wp_aload_n dX10_bind_26 0 rfl ?_
  refine wp_getI (k := 55) dX10_bind_27 flX10_25 rfl rfl rfl rfl ?_
  refine wp_iadd dX10_bind_30 ?_
  obtain ⟨g31, h⟩ := o_grd h
  obtain ⟨i31, e31, h⟩ := o_bind h
  refine wp_iast (k := 63) dX10_bind_31 rfl rfl (inb_of g31) ?_
  refine wp_stI (Option.some.inj e31) ?_
  refine wp_aload_n dX10_bind_32 0 rfl ?_
  refine wp_iload_n dX10_bind_33 2 rfl ?_
  obtain ⟨r34, h34, h⟩ := o_bind h
  refine wp_callvV (k := 55) (ci := 10) (c_X10_sell Γ ad a2 i31 J r34 h34) dX10_bind_34 mlX10_293 mwX10_sell miX10_sell rfl rfl rfl rfl (Nat.le_of_ble_eq_true rfl) rfl (by decide) (by decide) ?_
  obtain rfl := Option.some.inj h
  exact wp_return dX10_bind_37 rfl ⟨rfl, rfl, rfl, rfl⟩
