/-! lifted: X10_takeMarket X10_here X10_readWord X10_code X10_longer X10_clauseOf X10_fails X10_isFull X10_takeNumber X10_into_68 X10_into_72 X10_takeSeller X10_into_69 -/
def f_X10_takeMarket_153 : Nat → Int32 → IT → Option (IT)
  | 0, _, _ => none
  | n + 1, v1, I =>
    (f_X10_persons I).bind fun r155 =>
    if r155 ≤ v1 then
      (f_X10_bare (upI (upI (upI (upI I 55 40 0) 55 47 0) 87 ((0 : Int32).toNatClampNeg) (vp_nar .boolean 0)) 87 ((1 : Int32).toNatClampNeg) (vp_nar .boolean 0))).bind fun r248 =>
      some r248
    else
      (f_X10_sortOf v1 I).bind fun r163 =>
      if r163 = 0 then
        if inbB v1 14 = true then
          if inbB v1 14 = true then
            f_X10_takeMarket_153 n (v1 + 1) (upI I 60 v1.toNatClampNeg (I 72 v1.toNatClampNeg))
          else none
        else none
      else
        if r163 = (1 : Int32) then
          if inbB ((6 + v1) - (I 55 0)) 14 = true then
            if inbB v1 14 = true then
              f_X10_takeMarket_153 n (v1 + 1) (upI I 60 v1.toNatClampNeg (I 72 ((6 + v1) - (I 55 0)).toNatClampNeg))
            else none
          else none
        else
          if inbB (((12 + v1) - (I 55 0)) - (I 55 1)) 14 = true then
            if inbB v1 14 = true then
              f_X10_takeMarket_153 n (v1 + 1) (upI I 60 v1.toNatClampNeg (I 72 (((12 + v1) - (I 55 0)) - (I 55 1)).toNatClampNeg))
            else none
          else none
def f_X10_takeMarket_103 : Nat → Int32 → IT → Option (IT)
  | 0, _, _ => none
  | n + 1, v1, I =>
    if (36 : Int32) ≤ v1 then
      f_X10_takeMarket_153 FU 0 (upI (upI I 59 ((0 : Int32).toNatClampNeg) (I 71 (0 : Int32).toNatClampNeg)) 59 ((1 : Int32).toNatClampNeg) ((upI I 59 ((0 : Int32).toNatClampNeg) (I 71 (0 : Int32).toNatClampNeg)) 71 (1 : Int32).toNatClampNeg))
    else
      if inbB v1 36 = true then
        if inbB v1 36 = true then
          f_X10_takeMarket_103 n (v1 + 1) (upI I 58 v1.toNatClampNeg (I 70 v1.toNatClampNeg))
        else none
      else none
def f_X10_takeMarket_65 : Nat → Int32 → IT → Option (IT)
  | 0, _, _ => none
  | n + 1, v1, I =>
    if (6 : Int32) ≤ v1 then
      f_X10_takeMarket_103 FU 0 I
    else
      if inbB v1 6 = true then
        if inbB v1 6 = true then
          if inbB v1 6 = true then
            if inbB v1 6 = true then
              f_X10_takeMarket_65 n (v1 + 1) (upI (upI I 56 v1.toNatClampNeg (I 68 v1.toNatClampNeg)) 57 v1.toNatClampNeg ((upI I 56 v1.toNatClampNeg (I 68 v1.toNatClampNeg)) 69 v1.toNatClampNeg))
            else none
          else none
        else none
      else none
def f_X10_takeMarket (I : IT) : Option (IT) :=
  if 0 ≤ ((upI (upI (upI I 55 0 (I 55 26)) 55 1 ((upI I 55 0 (I 55 26)) 55 27)) 55 2 ((upI (upI I 55 0 (I 55 26)) 55 1 ((upI I 55 0 (I 55 26)) 55 27)) 55 28)) 55 34) then
    if 0 ≤ ((upI (upI (upI (upI I 55 0 (I 55 26)) 55 1 ((upI I 55 0 (I 55 26)) 55 27)) 55 2 ((upI (upI I 55 0 (I 55 26)) 55 1 ((upI I 55 0 (I 55 26)) 55 27)) 55 28)) 55 8 ((upI (upI (upI I 55 0 (I 55 26)) 55 1 ((upI I 55 0 (I 55 26)) 55 27)) 55 2 ((upI (upI I 55 0 (I 55 26)) 55 1 ((upI I 55 0 (I 55 26)) 55 27)) 55 28)) 55 34)) 55 35) then
      f_X10_takeMarket_65 FU 0 (upI (upI (upI (upI (upI I 55 0 (I 55 26)) 55 1 ((upI I 55 0 (I 55 26)) 55 27)) 55 2 ((upI (upI I 55 0 (I 55 26)) 55 1 ((upI I 55 0 (I 55 26)) 55 27)) 55 28)) 55 8 ((upI (upI (upI I 55 0 (I 55 26)) 55 1 ((upI I 55 0 (I 55 26)) 55 27)) 55 2 ((upI (upI I 55 0 (I 55 26)) 55 1 ((upI I 55 0 (I 55 26)) 55 27)) 55 28)) 55 34)) 55 9 ((upI (upI (upI (upI I 55 0 (I 55 26)) 55 1 ((upI I 55 0 (I 55 26)) 55 27)) 55 2 ((upI (upI I 55 0 (I 55 26)) 55 1 ((upI I 55 0 (I 55 26)) 55 27)) 55 28)) 55 8 ((upI (upI (upI I 55 0 (I 55 26)) 55 1 ((upI I 55 0 (I 55 26)) 55 27)) 55 2 ((upI (upI I 55 0 (I 55 26)) 55 1 ((upI I 55 0 (I 55 26)) 55 27)) 55 28)) 55 34)) 55 35))
    else
      f_X10_takeMarket_65 FU 0 (upI (upI (upI (upI (upI I 55 0 (I 55 26)) 55 1 ((upI I 55 0 (I 55 26)) 55 27)) 55 2 ((upI (upI I 55 0 (I 55 26)) 55 1 ((upI I 55 0 (I 55 26)) 55 27)) 55 28)) 55 8 ((upI (upI (upI I 55 0 (I 55 26)) 55 1 ((upI I 55 0 (I 55 26)) 55 27)) 55 2 ((upI (upI I 55 0 (I 55 26)) 55 1 ((upI I 55 0 (I 55 26)) 55 27)) 55 28)) 55 34)) 55 9 2)
  else
    if 0 ≤ ((upI (upI (upI (upI I 55 0 (I 55 26)) 55 1 ((upI I 55 0 (I 55 26)) 55 27)) 55 2 ((upI (upI I 55 0 (I 55 26)) 55 1 ((upI I 55 0 (I 55 26)) 55 27)) 55 28)) 55 8 12) 55 35) then
      f_X10_takeMarket_65 FU 0 (upI (upI (upI (upI (upI I 55 0 (I 55 26)) 55 1 ((upI I 55 0 (I 55 26)) 55 27)) 55 2 ((upI (upI I 55 0 (I 55 26)) 55 1 ((upI I 55 0 (I 55 26)) 55 27)) 55 28)) 55 8 12) 55 9 ((upI (upI (upI (upI I 55 0 (I 55 26)) 55 1 ((upI I 55 0 (I 55 26)) 55 27)) 55 2 ((upI (upI I 55 0 (I 55 26)) 55 1 ((upI I 55 0 (I 55 26)) 55 27)) 55 28)) 55 8 12) 55 35))
    else
      f_X10_takeMarket_65 FU 0 (upI (upI (upI (upI (upI I 55 0 (I 55 26)) 55 1 ((upI I 55 0 (I 55 26)) 55 27)) 55 2 ((upI (upI I 55 0 (I 55 26)) 55 1 ((upI I 55 0 (I 55 26)) 55 27)) 55 28)) 55 8 12) 55 9 2)
set_option maxRecDepth 100000 in
set_option maxHeartbeats 4000000 in
theorem w_X10_takeMarket_153 (Γ : GT) (ad : Nat → Nat) : ∀ (n : Nat) (v1 : Int32) (I : IT) (J : JT) (r : IT), f_X10_takeMarket_153 n v1 I = some r → WP Γ mX10_takeMarket (0, 0) 153 [(0, .ref (ad 55)), (1, .int v1)] [] (DX ad) I J (QE none (DX ad) r J) := by
  intro n
  induction n with
  | zero => intro v1 I J r h; exact absurd h (by simp [f_X10_takeMarket_153])
  | succ n ih =>
    intro v1 I J r h
    rw [f_X10_takeMarket_153] at h
    refine wp_iload_n dX10_takeMarket_153 1 rfl ?_
    refine wp_aload_n dX10_takeMarket_154 0 rfl ?_
    obtain ⟨r155, h155, h⟩ := o_bind h
    refine wp_callvI (k := 55) (ci := 10) (c_X10_persons Γ ad I J r155 h155) dX10_takeMarket_155 mlX10_130 mwX10_persons miX10_persons rfl rfl rfl rfl (Nat.le_of_ble_eq_true rfl) rfl (by decide) (by decide) ?_
    refine wp_icmp_ge 223 dX10_takeMarket_158 rfl (fun c158 => ?_) (fun c158 => ?_)
    · replace h := o_pos h c158
      refine wp_aload_n dX10_takeMarket_223 0 rfl ?_
      refine wp_iconst (v := 0) dX10_takeMarket_224 (by decide) ?_
      refine wp_putI (k := 55) dX10_takeMarket_225 flX10_249 rfl rfl rfl rfl rfl rfl rfl rfl ?_
      refine wp_aload_n dX10_takeMarket_228 0 rfl ?_
      refine wp_iconst (v := 0) dX10_takeMarket_229 (by decide) ?_
      refine wp_putI (k := 55) dX10_takeMarket_230 flX10_252 rfl rfl rfl rfl rfl rfl rfl rfl ?_
      refine wp_aload_n dX10_takeMarket_233 0 rfl ?_
      refine wp_getR (k := 55) (a' := ad 87) dX10_takeMarket_234 flX10_115 rfl rfl rfl rfl rfl ?_
      refine wp_iconst (v := 0) dX10_takeMarket_237 (by decide) ?_
      refine wp_iconst (v := 0) dX10_takeMarket_238 (by decide) ?_
      refine wp_zast (k := 87) dX10_takeMarket_239 rfl rfl (inb_of (by decide)) ?_
      refine wp_aload_n dX10_takeMarket_240 0 rfl ?_
      refine wp_getR (k := 55) (a' := ad 87) dX10_takeMarket_241 flX10_115 rfl rfl rfl rfl rfl ?_
      refine wp_iconst (v := 1) dX10_takeMarket_244 (by decide) ?_
      refine wp_iconst (v := 0) dX10_takeMarket_245 (by decide) ?_
      refine wp_zast (k := 87) dX10_takeMarket_246 rfl rfl (inb_of (by decide)) ?_
      refine wp_aload_n dX10_takeMarket_247 0 rfl ?_
      obtain ⟨r248, h248, h⟩ := o_bind h
      refine wp_callvV (k := 55) (ci := 10) (c_X10_bare Γ ad (upI (upI (upI (upI I 55 40 0) 55 47 0) 87 ((0 : Int32).toNatClampNeg) (vp_nar .boolean 0)) 87 ((1 : Int32).toNatClampNeg) (vp_nar .boolean 0)) J r248 h248) dX10_takeMarket_248 mlX10_118 mwX10_bare miX10_bare rfl rfl rfl rfl (Nat.le_of_ble_eq_true rfl) rfl (by decide) (by decide) ?_
      obtain rfl := Option.some.inj h
      exact wp_return dX10_takeMarket_251 rfl ⟨rfl, rfl, rfl, rfl⟩
    · replace h := o_neg h c158
      refine wp_aload_n dX10_takeMarket_161 0 rfl ?_
      refine wp_iload_n dX10_takeMarket_162 1 rfl ?_
      obtain ⟨r163, h163, h⟩ := o_bind h
      refine wp_callvI (k := 55) (ci := 10) (c_X10_sortOf Γ ad v1 I J r163 h163) dX10_takeMarket_163 mlX10_245 mwX10_sortOf miX10_sortOf rfl rfl rfl rfl (Nat.le_of_ble_eq_true rfl) rfl (by decide) (by decide) ?_
      refine wp_istore_n (lv' := [(0, _), (1, _), (2, _)]) dX10_takeMarket_166 rfl rfl rfl rfl ?_
      refine wp_aload_n dX10_takeMarket_167 0 rfl ?_
      refine wp_getR (k := 55) (a' := ad 60) dX10_takeMarket_168 flX10_22 rfl rfl rfl rfl rfl ?_
      refine wp_iload_n dX10_takeMarket_171 1 rfl ?_
      refine wp_aload_n dX10_takeMarket_172 0 rfl ?_
      refine wp_getR (k := 55) (a' := ad 72) dX10_takeMarket_173 flX10_68 rfl rfl rfl rfl rfl ?_
      refine wp_iload_n dX10_takeMarket_176 2 rfl ?_
      refine wp_if_ne 184 dX10_takeMarket_177 rfl (fun c177 => ?_) (fun c177 => ?_)
      · replace h := o_neg h c177
        refine wp_iload_n dX10_takeMarket_184 2 rfl ?_
        refine wp_iconst (v := 1) dX10_takeMarket_185 (by decide) ?_
        refine wp_icmp_ne 201 dX10_takeMarket_186 rfl (fun c186 => ?_) (fun c186 => ?_)
        · replace h := o_neg h c186
          refine wp_bipush (v := 12) dX10_takeMarket_201 (by decide) ?_
          refine wp_iload_n dX10_takeMarket_203 1 rfl ?_
          refine wp_iadd dX10_takeMarket_204 ?_
          refine wp_aload_n dX10_takeMarket_205 0 rfl ?_
          refine wp_getI (k := 55) dX10_takeMarket_206 flX10_121 rfl rfl rfl rfl ?_
          refine wp_isub dX10_takeMarket_209 ?_
          refine wp_aload_n dX10_takeMarket_210 0 rfl ?_
          refine wp_getI (k := 55) dX10_takeMarket_211 flX10_124 rfl rfl rfl rfl ?_
          refine wp_isub dX10_takeMarket_214 ?_
          obtain ⟨g215, h⟩ := o_grd h
          refine wp_iald (k := 72) dX10_takeMarket_215 rfl rfl (inb_of g215) ?_
          obtain ⟨g216, h⟩ := o_grd h
          refine wp_iast (k := 60) dX10_takeMarket_216 rfl rfl (inb_of g216) ?_
          refine wp_iinc (v := v1 + 1) (lv' := [(0, _), (1, _), (2, _)]) dX10_takeMarket_217 1 rfl rfl rfl rfl rfl ?_
          refine wp_goto 153 dX10_takeMarket_220 rfl ?_
          refine wp_pick [0, 1] (lv' := [(0, _), (1, _)]) rfl ?_
          exact ih (v1 + 1) (upI I 60 v1.toNatClampNeg (I 72 (((12 + v1) - (I 55 0)) - (I 55 1)).toNatClampNeg)) J r h
        · replace h := o_pos h c186
          refine wp_bipush (v := 6) dX10_takeMarket_189 (by decide) ?_
          refine wp_iload_n dX10_takeMarket_191 1 rfl ?_
          refine wp_iadd dX10_takeMarket_192 ?_
          refine wp_aload_n dX10_takeMarket_193 0 rfl ?_
          refine wp_getI (k := 55) dX10_takeMarket_194 flX10_121 rfl rfl rfl rfl ?_
          refine wp_isub dX10_takeMarket_197 ?_
          refine wp_goto 215 dX10_takeMarket_198 rfl ?_
          obtain ⟨g215, h⟩ := o_grd h
          refine wp_iald (k := 72) dX10_takeMarket_215 rfl rfl (inb_of g215) ?_
          obtain ⟨g216, h⟩ := o_grd h
          refine wp_iast (k := 60) dX10_takeMarket_216 rfl rfl (inb_of g216) ?_
          refine wp_iinc (v := v1 + 1) (lv' := [(0, _), (1, _), (2, _)]) dX10_takeMarket_217 1 rfl rfl rfl rfl rfl ?_
          refine wp_goto 153 dX10_takeMarket_220 rfl ?_
          refine wp_pick [0, 1] (lv' := [(0, _), (1, _)]) rfl ?_
          exact ih (v1 + 1) (upI I 60 v1.toNatClampNeg (I 72 ((6 + v1) - (I 55 0)).toNatClampNeg)) J r h
      · replace h := o_pos h c177
        refine wp_iload_n dX10_takeMarket_180 1 rfl ?_
        refine wp_goto 215 dX10_takeMarket_181 rfl ?_
        obtain ⟨g215, h⟩ := o_grd h
        refine wp_iald (k := 72) dX10_takeMarket_215 rfl rfl (inb_of g215) ?_
        obtain ⟨g216, h⟩ := o_grd h
        refine wp_iast (k := 60) dX10_takeMarket_216 rfl rfl (inb_of g216) ?_
        refine wp_iinc (v := v1 + 1) (lv' := [(0, _), (1, _), (2, _)]) dX10_takeMarket_217 1 rfl rfl rfl rfl rfl ?_
        refine wp_goto 153 dX10_takeMarket_220 rfl ?_
        refine wp_pick [0, 1] (lv' := [(0, _), (1, _)]) rfl ?_
        exact ih (v1 + 1) (upI I 60 v1.toNatClampNeg (I 72 v1.toNatClampNeg)) J r h
set_option maxRecDepth 100000 in
set_option maxHeartbeats 4000000 in
theorem w_X10_takeMarket_103 (Γ : GT) (ad : Nat → Nat) : ∀ (n : Nat) (v1 : Int32) (I : IT) (J : JT) (r : IT), f_X10_takeMarket_103 n v1 I = some r → WP Γ mX10_takeMarket (0, 0) 103 [(0, .ref (ad 55)), (1, .int v1)] [] (DX ad) I J (QE none (DX ad) r J) := by
  intro n
  induction n with
  | zero => intro v1 I J r h; exact absurd h (by simp [f_X10_takeMarket_103])
  | succ n ih =>
    intro v1 I J r h
    rw [f_X10_takeMarket_103] at h
    refine wp_iload_n dX10_takeMarket_103 1 rfl ?_
    refine wp_bipush (v := 36) dX10_takeMarket_104 (by decide) ?_
    refine wp_icmp_ge 127 dX10_takeMarket_106 rfl (fun c106 => ?_) (fun c106 => ?_)
    · replace h := o_pos h c106
      refine wp_aload_n dX10_takeMarket_127 0 rfl ?_
      refine wp_getR (k := 55) (a' := ad 59) dX10_takeMarket_128 flX10_19 rfl rfl rfl rfl rfl ?_
      refine wp_iconst (v := 0) dX10_takeMarket_131 (by decide) ?_
      refine wp_aload_n dX10_takeMarket_132 0 rfl ?_
      refine wp_getR (k := 55) (a' := ad 71) dX10_takeMarket_133 flX10_65 rfl rfl rfl rfl rfl ?_
      refine wp_iconst (v := 0) dX10_takeMarket_136 (by decide) ?_
      refine wp_iald (k := 71) dX10_takeMarket_137 rfl rfl (inb_of (by decide)) ?_
      refine wp_iast (k := 59) dX10_takeMarket_138 rfl rfl (inb_of (by decide)) ?_
      refine wp_aload_n dX10_takeMarket_139 0 rfl ?_
      refine wp_getR (k := 55) (a' := ad 59) dX10_takeMarket_140 flX10_19 rfl rfl rfl rfl rfl ?_
      refine wp_iconst (v := 1) dX10_takeMarket_143 (by decide) ?_
      refine wp_aload_n dX10_takeMarket_144 0 rfl ?_
      refine wp_getR (k := 55) (a' := ad 71) dX10_takeMarket_145 flX10_65 rfl rfl rfl rfl rfl ?_
      refine wp_iconst (v := 1) dX10_takeMarket_148 (by decide) ?_
      refine wp_iald (k := 71) dX10_takeMarket_149 rfl rfl (inb_of (by decide)) ?_
      refine wp_iast (k := 59) dX10_takeMarket_150 rfl rfl (inb_of (by decide)) ?_
      refine wp_iconst (v := 0) dX10_takeMarket_151 (by decide) ?_
      refine wp_istore_n (lv' := [(0, _), (1, _)]) dX10_takeMarket_152 rfl rfl rfl rfl ?_
      refine wp_pick [0, 1] (lv' := [(0, _), (1, _)]) rfl ?_
      exact w_X10_takeMarket_153 Γ ad FU 0 (upI (upI I 59 ((0 : Int32).toNatClampNeg) (I 71 (0 : Int32).toNatClampNeg)) 59 ((1 : Int32).toNatClampNeg) ((upI I 59 ((0 : Int32).toNatClampNeg) (I 71 (0 : Int32).toNatClampNeg)) 71 (1 : Int32).toNatClampNeg)) J r h
    · replace h := o_neg h c106
      refine wp_aload_n dX10_takeMarket_109 0 rfl ?_
      refine wp_getR (k := 55) (a' := ad 58) dX10_takeMarket_110 flX10_16 rfl rfl rfl rfl rfl ?_
      refine wp_iload_n dX10_takeMarket_113 1 rfl ?_
      refine wp_aload_n dX10_takeMarket_114 0 rfl ?_
      refine wp_getR (k := 55) (a' := ad 70) dX10_takeMarket_115 flX10_62 rfl rfl rfl rfl rfl ?_
      refine wp_iload_n dX10_takeMarket_118 1 rfl ?_
      obtain ⟨g119, h⟩ := o_grd h
      refine wp_iald (k := 70) dX10_takeMarket_119 rfl rfl (inb_of g119) ?_
      obtain ⟨g120, h⟩ := o_grd h
      refine wp_iast (k := 58) dX10_takeMarket_120 rfl rfl (inb_of g120) ?_
      refine wp_iinc (v := v1 + 1) (lv' := [(0, _), (1, _)]) dX10_takeMarket_121 1 rfl rfl rfl rfl rfl ?_
      refine wp_goto 103 dX10_takeMarket_124 rfl ?_
      refine wp_pick [0, 1] (lv' := [(0, _), (1, _)]) rfl ?_
      exact ih (v1 + 1) (upI I 58 v1.toNatClampNeg (I 70 v1.toNatClampNeg)) J r h
set_option maxRecDepth 100000 in
set_option maxHeartbeats 4000000 in
theorem w_X10_takeMarket_65 (Γ : GT) (ad : Nat → Nat) : ∀ (n : Nat) (v1 : Int32) (I : IT) (J : JT) (r : IT), f_X10_takeMarket_65 n v1 I = some r → WP Γ mX10_takeMarket (0, 0) 65 [(0, .ref (ad 55)), (1, .int v1)] [] (DX ad) I J (QE none (DX ad) r J) := by
  intro n
  induction n with
  | zero => intro v1 I J r h; exact absurd h (by simp [f_X10_takeMarket_65])
  | succ n ih =>
    intro v1 I J r h
    rw [f_X10_takeMarket_65] at h
    refine wp_iload_n dX10_takeMarket_65 1 rfl ?_
    refine wp_bipush (v := 6) dX10_takeMarket_66 (by decide) ?_
    refine wp_icmp_ge 101 dX10_takeMarket_68 rfl (fun c68 => ?_) (fun c68 => ?_)
    · replace h := o_pos h c68
      refine wp_iconst (v := 0) dX10_takeMarket_101 (by decide) ?_
      refine wp_istore_n (lv' := [(0, _), (1, _)]) dX10_takeMarket_102 rfl rfl rfl rfl ?_
      refine wp_pick [0, 1] (lv' := [(0, _), (1, _)]) rfl ?_
      exact w_X10_takeMarket_103 Γ ad FU 0 I J r h
    · replace h := o_neg h c68
      refine wp_aload_n dX10_takeMarket_71 0 rfl ?_
      refine wp_getR (k := 55) (a' := ad 56) dX10_takeMarket_72 flX10_7 rfl rfl rfl rfl rfl ?_
      refine wp_iload_n dX10_takeMarket_75 1 rfl ?_
      refine wp_aload_n dX10_takeMarket_76 0 rfl ?_
      refine wp_getR (k := 55) (a' := ad 68) dX10_takeMarket_77 flX10_56 rfl rfl rfl rfl rfl ?_
      refine wp_iload_n dX10_takeMarket_80 1 rfl ?_
      obtain ⟨g81, h⟩ := o_grd h
      refine wp_iald (k := 68) dX10_takeMarket_81 rfl rfl (inb_of g81) ?_
      obtain ⟨g82, h⟩ := o_grd h
      refine wp_iast (k := 56) dX10_takeMarket_82 rfl rfl (inb_of g82) ?_
      refine wp_aload_n dX10_takeMarket_83 0 rfl ?_
      refine wp_getR (k := 55) (a' := ad 57) dX10_takeMarket_84 flX10_13 rfl rfl rfl rfl rfl ?_
      refine wp_iload_n dX10_takeMarket_87 1 rfl ?_
      refine wp_aload_n dX10_takeMarket_88 0 rfl ?_
      refine wp_getR (k := 55) (a' := ad 69) dX10_takeMarket_89 flX10_59 rfl rfl rfl rfl rfl ?_
      refine wp_iload_n dX10_takeMarket_92 1 rfl ?_
      obtain ⟨g93, h⟩ := o_grd h
      refine wp_iald (k := 69) dX10_takeMarket_93 rfl rfl (inb_of g93) ?_
      obtain ⟨g94, h⟩ := o_grd h
      refine wp_iast (k := 57) dX10_takeMarket_94 rfl rfl (inb_of g94) ?_
      refine wp_iinc (v := v1 + 1) (lv' := [(0, _), (1, _)]) dX10_takeMarket_95 1 rfl rfl rfl rfl rfl ?_
      refine wp_goto 65 dX10_takeMarket_98 rfl ?_
      refine wp_pick [0, 1] (lv' := [(0, _), (1, _)]) rfl ?_
      exact ih (v1 + 1) (upI (upI I 56 v1.toNatClampNeg (I 68 v1.toNatClampNeg)) 57 v1.toNatClampNeg ((upI I 56 v1.toNatClampNeg (I 68 v1.toNatClampNeg)) 69 v1.toNatClampNeg)) J r h
set_option maxRecDepth 100000 in
set_option maxHeartbeats 4000000 in
theorem c_X10_takeMarket (Γ : GT) (ad : Nat → Nat) (I : IT) (J : JT) (r : IT) (h : f_X10_takeMarket I = some r) : CALL Γ mX10_takeMarket (0, 0) [.ref (ad 55)] (DX ad) I J (QE none (DX ad) r J) := by
  refine call_of' (by decide) (Nat.le_of_ble_eq_true rfl) (lv0 := [(0, .ref (ad 55))]) rfl ?_
  unfold f_X10_takeMarket at h
  refine wp_aload_n dX10_takeMarket_0 0 rfl ?_
  refine wp_aload_n dX10_takeMarket_1 0 rfl ?_
  refine wp_getI (k := 55) dX10_takeMarket_2 flX10_193 rfl rfl rfl rfl ?_
  refine wp_putI (k := 55) dX10_takeMarket_5 flX10_121 rfl rfl rfl rfl rfl rfl rfl rfl ?_
  refine wp_aload_n dX10_takeMarket_8 0 rfl ?_
  refine wp_aload_n dX10_takeMarket_9 0 rfl ?_
  refine wp_getI (k := 55) dX10_takeMarket_10 flX10_200 rfl rfl rfl rfl ?_
  refine wp_putI (k := 55) dX10_takeMarket_13 flX10_124 rfl rfl rfl rfl rfl rfl rfl rfl ?_
  refine wp_aload_n dX10_takeMarket_16 0 rfl ?_
  refine wp_aload_n dX10_takeMarket_17 0 rfl ?_
  refine wp_getI (k := 55) dX10_takeMarket_18 flX10_203 rfl rfl rfl rfl ?_
  refine wp_putI (k := 55) dX10_takeMarket_21 flX10_127 rfl rfl rfl rfl rfl rfl rfl rfl ?_
  refine wp_aload_n dX10_takeMarket_24 0 rfl ?_
  refine wp_aload_n dX10_takeMarket_25 0 rfl ?_
  refine wp_getI (k := 55) dX10_takeMarket_26 flX10_214 rfl rfl rfl rfl ?_
  refine wp_if_ge 37 dX10_takeMarket_29 rfl (fun c29 => ?_) (fun c29 => ?_)
  · replace h := o_pos h c29
    refine wp_aload_n dX10_takeMarket_37 0 rfl ?_
    refine wp_getI (k := 55) dX10_takeMarket_38 flX10_214 rfl rfl rfl rfl ?_
    refine wp_putI (k := 55) dX10_takeMarket_41 flX10_25 rfl rfl rfl rfl rfl rfl rfl rfl ?_
    refine wp_aload_n dX10_takeMarket_44 0 rfl ?_
    refine wp_aload_n dX10_takeMarket_45 0 rfl ?_
    refine wp_getI (k := 55) dX10_takeMarket_46 flX10_217 rfl rfl rfl rfl ?_
    refine wp_if_ge 56 dX10_takeMarket_49 rfl (fun c49 => ?_) (fun c49 => ?_)
    · replace h := o_pos h c49
      refine wp_aload_n dX10_takeMarket_56 0 rfl ?_
      refine wp_getI (k := 55) dX10_takeMarket_57 flX10_217 rfl rfl rfl rfl ?_
      refine wp_putI (k := 55) dX10_takeMarket_60 flX10_29 rfl rfl rfl rfl rfl rfl rfl rfl ?_
      refine wp_iconst (v := 0) dX10_takeMarket_63 (by decide) ?_
      refine wp_istore_n (lv' := [(0, _), (1, _)]) dX10_takeMarket_64 rfl rfl rfl rfl ?_
      refine wp_pick [0, 1] (lv' := [(0, _), (1, _)]) rfl ?_
      exact w_X10_takeMarket_65 Γ ad FU 0 (upI (upI (upI (upI (upI I 55 0 (I 55 26)) 55 1 ((upI I 55 0 (I 55 26)) 55 27)) 55 2 ((upI (upI I 55 0 (I 55 26)) 55 1 ((upI I 55 0 (I 55 26)) 55 27)) 55 28)) 55 8 ((upI (upI (upI I 55 0 (I 55 26)) 55 1 ((upI I 55 0 (I 55 26)) 55 27)) 55 2 ((upI (upI I 55 0 (I 55 26)) 55 1 ((upI I 55 0 (I 55 26)) 55 27)) 55 28)) 55 34)) 55 9 ((upI (upI (upI (upI I 55 0 (I 55 26)) 55 1 ((upI I 55 0 (I 55 26)) 55 27)) 55 2 ((upI (upI I 55 0 (I 55 26)) 55 1 ((upI I 55 0 (I 55 26)) 55 27)) 55 28)) 55 8 ((upI (upI (upI I 55 0 (I 55 26)) 55 1 ((upI I 55 0 (I 55 26)) 55 27)) 55 2 ((upI (upI I 55 0 (I 55 26)) 55 1 ((upI I 55 0 (I 55 26)) 55 27)) 55 28)) 55 34)) 55 35)) J r h
    · replace h := o_neg h c49
      refine wp_iconst (v := 2) dX10_takeMarket_52 (by decide) ?_
      refine wp_goto 60 dX10_takeMarket_53 rfl ?_
      refine wp_putI (k := 55) dX10_takeMarket_60 flX10_29 rfl rfl rfl rfl rfl rfl rfl rfl ?_
      refine wp_iconst (v := 0) dX10_takeMarket_63 (by decide) ?_
      refine wp_istore_n (lv' := [(0, _), (1, _)]) dX10_takeMarket_64 rfl rfl rfl rfl ?_
      refine wp_pick [0, 1] (lv' := [(0, _), (1, _)]) rfl ?_
      exact w_X10_takeMarket_65 Γ ad FU 0 (upI (upI (upI (upI (upI I 55 0 (I 55 26)) 55 1 ((upI I 55 0 (I 55 26)) 55 27)) 55 2 ((upI (upI I 55 0 (I 55 26)) 55 1 ((upI I 55 0 (I 55 26)) 55 27)) 55 28)) 55 8 ((upI (upI (upI I 55 0 (I 55 26)) 55 1 ((upI I 55 0 (I 55 26)) 55 27)) 55 2 ((upI (upI I 55 0 (I 55 26)) 55 1 ((upI I 55 0 (I 55 26)) 55 27)) 55 28)) 55 34)) 55 9 2) J r h
  · replace h := o_neg h c29
    refine wp_bipush (v := 12) dX10_takeMarket_32 (by decide) ?_
    refine wp_goto 41 dX10_takeMarket_34 rfl ?_
    refine wp_putI (k := 55) dX10_takeMarket_41 flX10_25 rfl rfl rfl rfl rfl rfl rfl rfl ?_
    refine wp_aload_n dX10_takeMarket_44 0 rfl ?_
    refine wp_aload_n dX10_takeMarket_45 0 rfl ?_
    refine wp_getI (k := 55) dX10_takeMarket_46 flX10_217 rfl rfl rfl rfl ?_
    refine wp_if_ge 56 dX10_takeMarket_49 rfl (fun c49 => ?_) (fun c49 => ?_)
    · replace h := o_pos h c49
      refine wp_aload_n dX10_takeMarket_56 0 rfl ?_
      refine wp_getI (k := 55) dX10_takeMarket_57 flX10_217 rfl rfl rfl rfl ?_
      refine wp_putI (k := 55) dX10_takeMarket_60 flX10_29 rfl rfl rfl rfl rfl rfl rfl rfl ?_
      refine wp_iconst (v := 0) dX10_takeMarket_63 (by decide) ?_
      refine wp_istore_n (lv' := [(0, _), (1, _)]) dX10_takeMarket_64 rfl rfl rfl rfl ?_
      refine wp_pick [0, 1] (lv' := [(0, _), (1, _)]) rfl ?_
      exact w_X10_takeMarket_65 Γ ad FU 0 (upI (upI (upI (upI (upI I 55 0 (I 55 26)) 55 1 ((upI I 55 0 (I 55 26)) 55 27)) 55 2 ((upI (upI I 55 0 (I 55 26)) 55 1 ((upI I 55 0 (I 55 26)) 55 27)) 55 28)) 55 8 12) 55 9 ((upI (upI (upI (upI I 55 0 (I 55 26)) 55 1 ((upI I 55 0 (I 55 26)) 55 27)) 55 2 ((upI (upI I 55 0 (I 55 26)) 55 1 ((upI I 55 0 (I 55 26)) 55 27)) 55 28)) 55 8 12) 55 35)) J r h
    · replace h := o_neg h c49
      refine wp_iconst (v := 2) dX10_takeMarket_52 (by decide) ?_
      refine wp_goto 60 dX10_takeMarket_53 rfl ?_
      refine wp_putI (k := 55) dX10_takeMarket_60 flX10_29 rfl rfl rfl rfl rfl rfl rfl rfl ?_
      refine wp_iconst (v := 0) dX10_takeMarket_63 (by decide) ?_
      refine wp_istore_n (lv' := [(0, _), (1, _)]) dX10_takeMarket_64 rfl rfl rfl rfl ?_
      refine wp_pick [0, 1] (lv' := [(0, _), (1, _)]) rfl ?_
      exact w_X10_takeMarket_65 Γ ad FU 0 (upI (upI (upI (upI (upI I 55 0 (I 55 26)) 55 1 ((upI I 55 0 (I 55 26)) 55 27)) 55 2 ((upI (upI I 55 0 (I 55 26)) 55 1 ((upI I 55 0 (I 55 26)) 55 27)) 55 28)) 55 8 12) 55 9 2) J r h
def f_X10_here_0 : Nat → IT → Option (Int32 × IT)
  | 0, _ => none
  | n + 1, I =>
    if (I 55 19) ≤ (I 55 21) then
      if (I 55 19) ≤ (I 55 21) then
        some ((-1), I)
      else
        if inbB (I 55 21) 500 = true then
          some (I 67 (I 55 21).toNatClampNeg, I)
        else none
    else
      if inbB (I 55 21) 500 = true then
        if (I 67 (I 55 21).toNatClampNeg) = (32 : Int32) then
          f_X10_here_0 n (upI I 55 21 ((I 55 21) + 1))
        else
          if (I 55 19) ≤ (I 55 21) then
            some ((-1), I)
          else
            if inbB (I 55 21) 500 = true then
              some (I 67 (I 55 21).toNatClampNeg, I)
            else none
      else none
def f_X10_here (I : IT) : Option (Int32 × IT) :=
  f_X10_here_0 FU I
set_option maxRecDepth 100000 in
set_option maxHeartbeats 4000000 in
theorem w_X10_here_0 (Γ : GT) (ad : Nat → Nat) : ∀ (n : Nat) (I : IT) (J : JT) (r : Int32 × IT), f_X10_here_0 n I = some r → WP Γ mX10_here (0, 0) 0 [(0, .ref (ad 55))] [] (DX ad) I J (QE (some (.int r.1)) (DX ad) r.2 J) := by
  intro n
  induction n with
  | zero => intro  I J r h; exact absurd h (by simp [f_X10_here_0])
  | succ n ih =>
    intro  I J r h
    rw [f_X10_here_0] at h
    refine wp_aload_n dX10_here_0 0 rfl ?_
    refine wp_getI (k := 55) dX10_here_1 flX10_150 rfl rfl rfl rfl ?_
    refine wp_aload_n dX10_here_4 0 rfl ?_
    refine wp_getI (k := 55) dX10_here_5 flX10_144 rfl rfl rfl rfl ?_
    refine wp_icmp_ge 38 dX10_here_8 rfl (fun c8 => ?_) (fun c8 => ?_)
    · replace h := o_pos h c8
      refine wp_aload_n dX10_here_38 0 rfl ?_
      refine wp_getI (k := 55) dX10_here_39 flX10_150 rfl rfl rfl rfl ?_
      refine wp_aload_n dX10_here_42 0 rfl ?_
      refine wp_getI (k := 55) dX10_here_43 flX10_144 rfl rfl rfl rfl ?_
      refine wp_icmp_ge 61 dX10_here_46 rfl (fun c46 => ?_) (fun c46 => ?_)
      · replace h := o_pos h c46
        refine wp_iconst (v := (-1)) dX10_here_61 (by decide) ?_
        obtain rfl := Option.some.inj h
        exact wp_ireturn (ty := .int) dX10_here_62 rfl rfl ⟨rfl, rfl, rfl, rfl⟩
      · replace h := o_neg h c46
        refine wp_aload_n dX10_here_49 0 rfl ?_
        refine wp_getR (k := 55) (a' := ad 67) dX10_here_50 flX10_50 rfl rfl rfl rfl rfl ?_
        refine wp_aload_n dX10_here_53 0 rfl ?_
        refine wp_getI (k := 55) dX10_here_54 flX10_150 rfl rfl rfl rfl ?_
        obtain ⟨g57, h⟩ := o_grd h
        refine wp_iald (k := 67) dX10_here_57 rfl rfl (inb_of g57) ?_
        refine wp_goto 62 dX10_here_58 rfl ?_
        obtain rfl := Option.some.inj h
        exact wp_ireturn (ty := .int) dX10_here_62 rfl rfl ⟨rfl, rfl, rfl, rfl⟩
    · replace h := o_neg h c8
      refine wp_aload_n dX10_here_11 0 rfl ?_
      refine wp_getR (k := 55) (a' := ad 67) dX10_here_12 flX10_50 rfl rfl rfl rfl rfl ?_
      refine wp_aload_n dX10_here_15 0 rfl ?_
      refine wp_getI (k := 55) dX10_here_16 flX10_150 rfl rfl rfl rfl ?_
      obtain ⟨g19, h⟩ := o_grd h
      refine wp_iald (k := 67) dX10_here_19 rfl rfl (inb_of g19) ?_
      refine wp_bipush (v := 32) dX10_here_20 (by decide) ?_
      refine wp_icmp_ne 38 dX10_here_22 rfl (fun c22 => ?_) (fun c22 => ?_)
      · replace h := o_neg h c22
        refine wp_aload_n dX10_here_38 0 rfl ?_
        refine wp_getI (k := 55) dX10_here_39 flX10_150 rfl rfl rfl rfl ?_
        refine wp_aload_n dX10_here_42 0 rfl ?_
        refine wp_getI (k := 55) dX10_here_43 flX10_144 rfl rfl rfl rfl ?_
        refine wp_icmp_ge 61 dX10_here_46 rfl (fun c46 => ?_) (fun c46 => ?_)
        · replace h := o_pos h c46
          refine wp_iconst (v := (-1)) dX10_here_61 (by decide) ?_
          obtain rfl := Option.some.inj h
          exact wp_ireturn (ty := .int) dX10_here_62 rfl rfl ⟨rfl, rfl, rfl, rfl⟩
        · replace h := o_neg h c46
          refine wp_aload_n dX10_here_49 0 rfl ?_
          refine wp_getR (k := 55) (a' := ad 67) dX10_here_50 flX10_50 rfl rfl rfl rfl rfl ?_
          refine wp_aload_n dX10_here_53 0 rfl ?_
          refine wp_getI (k := 55) dX10_here_54 flX10_150 rfl rfl rfl rfl ?_
          obtain ⟨g57, h⟩ := o_grd h
          refine wp_iald (k := 67) dX10_here_57 rfl rfl (inb_of g57) ?_
          refine wp_goto 62 dX10_here_58 rfl ?_
          obtain rfl := Option.some.inj h
          exact wp_ireturn (ty := .int) dX10_here_62 rfl rfl ⟨rfl, rfl, rfl, rfl⟩
      · replace h := o_pos h c22
        refine wp_aload_n dX10_here_25 0 rfl ?_
        refine wp_dup dX10_here_26 rfl ?_
        refine wp_getI (k := 55) dX10_here_27 flX10_150 rfl rfl rfl rfl ?_
        refine wp_iconst (v := 1) dX10_here_30 (by decide) ?_
        refine wp_iadd dX10_here_31 ?_
        refine wp_putI (k := 55) dX10_here_32 flX10_150 rfl rfl rfl rfl rfl rfl rfl rfl ?_
        refine wp_goto 0 dX10_here_35 rfl ?_
        refine wp_pick [0] (lv' := [(0, _)]) rfl ?_
        exact ih  (upI I 55 21 ((I 55 21) + 1)) J r h
set_option maxRecDepth 100000 in
set_option maxHeartbeats 4000000 in
theorem c_X10_here (Γ : GT) (ad : Nat → Nat) (I : IT) (J : JT) (r : Int32 × IT) (h : f_X10_here I = some r) : CALL Γ mX10_here (0, 0) [.ref (ad 55)] (DX ad) I J (QE (some (.int r.1)) (DX ad) r.2 J) := by
  refine call_of' (by decide) (Nat.le_of_ble_eq_true rfl) (lv0 := [(0, .ref (ad 55))]) rfl ?_
  unfold f_X10_here at h
  refine wp_pick [0] (lv' := [(0, _)]) rfl ?_
  exact w_X10_here_0 Γ ad FU  I J r h
def f_X10_readWord_18 : Nat → IT → JT → Option (IT × JT)
  | 0, _, _ => none
  | n + 1, I, J =>
    if (I 55 19) ≤ (I 55 23) then
      some (I, J)
    else
      if inbB (I 55 23) 500 = true then
        (f_X10_in ((I 67 (I 55 23).toNatClampNeg).toInt64) 97 122).bind fun r45 =>
        if r45 = 0 then
          some (I, J)
        else
          if (lg_cmp (J 55 22) 1000000000000) ≤ 0 then
            if inbB (I 55 23) 500 = true then
              f_X10_readWord_18 n (upI I 55 23 ((I 55 23) + 1)) (upJ J 55 22 (((27 * (J 55 22)) + ((I 67 (I 55 23).toNatClampNeg).toInt64)) - 96))
            else none
          else
            f_X10_readWord_18 n (upI I 55 23 ((I 55 23) + 1)) (upJ J 55 22 2000000000000)
      else none
def f_X10_readWord (I : IT) (J : JT) : Option (IT × JT) :=
  (f_X10_here I).bind fun r1 =>
  f_X10_readWord_18 FU (upI r1.2 55 23 (r1.2 55 21)) (upJ J 55 22 0)
set_option maxRecDepth 100000 in
set_option maxHeartbeats 4000000 in
theorem w_X10_readWord_18 (Γ : GT) (ad : Nat → Nat) : ∀ (n : Nat) (I : IT) (J : JT) (r : IT × JT), f_X10_readWord_18 n I J = some r → WP Γ mX10_readWord (0, 0) 18 [(0, .ref (ad 55))] [] (DX ad) I J (QE none (DX ad) r.1 r.2) := by
  intro n
  induction n with
  | zero => intro  I J r h; exact absurd h (by simp [f_X10_readWord_18])
  | succ n ih =>
    intro  I J r h
    rw [f_X10_readWord_18] at h
    refine wp_aload_n dX10_readWord_18 0 rfl ?_
    refine wp_getI (k := 55) dX10_readWord_19 flX10_160 rfl rfl rfl rfl ?_
    refine wp_aload_n dX10_readWord_22 0 rfl ?_
    refine wp_getI (k := 55) dX10_readWord_23 flX10_144 rfl rfl rfl rfl ?_
    refine wp_icmp_ge 108 dX10_readWord_26 rfl (fun c26 => ?_) (fun c26 => ?_)
    · replace h := o_pos h c26
      obtain rfl := Option.some.inj h
      exact wp_return dX10_readWord_108 rfl ⟨rfl, rfl, rfl, rfl⟩
    · replace h := o_neg h c26
      refine wp_aload_n dX10_readWord_29 0 rfl ?_
      refine wp_getR (k := 55) (a' := ad 67) dX10_readWord_30 flX10_50 rfl rfl rfl rfl rfl ?_
      refine wp_aload_n dX10_readWord_33 0 rfl ?_
      refine wp_getI (k := 55) dX10_readWord_34 flX10_160 rfl rfl rfl rfl ?_
      obtain ⟨g37, h⟩ := o_grd h
      refine wp_iald (k := 67) dX10_readWord_37 rfl rfl (inb_of g37) ?_
      refine wp_i2l dX10_readWord_38 ?_
      refine wp_ldc2 (v := 97) dX10_readWord_39 klX10_163 ?_
      refine wp_ldc2 (v := 122) dX10_readWord_42 klX10_165 ?_
      obtain ⟨r45, h45, h⟩ := o_bind h
      refine wp_callsI (c_X10_in Γ ad ((I 67 (I 55 23).toNatClampNeg).toInt64) 97 122 I J r45 h45) dX10_readWord_45 mlX10_134 mwX10_in miX10_in rfl (Nat.le_of_ble_eq_true rfl) rfl (by decide) (by decide) ?_
      refine wp_if_eq 108 dX10_readWord_48 rfl (fun c48 => ?_) (fun c48 => ?_)
      · replace h := o_pos h c48
        obtain rfl := Option.some.inj h
        exact wp_return dX10_readWord_108 rfl ⟨rfl, rfl, rfl, rfl⟩
      · replace h := o_neg h c48
        refine wp_aload_n dX10_readWord_51 0 rfl ?_
        refine wp_aload_n dX10_readWord_52 0 rfl ?_
        refine wp_getJ (k := 55) dX10_readWord_53 flX10_156 rfl rfl rfl rfl ?_
        refine wp_ldc2 (v := 1000000000000) dX10_readWord_56 klX10_167 ?_
        refine wp_lcmp dX10_readWord_59 ?_
        refine wp_if_le 69 dX10_readWord_60 rfl (fun c60 => ?_) (fun c60 => ?_)
        · replace h := o_pos h c60
          refine wp_ldc2 (v := 27) dX10_readWord_69 klX10_171 ?_
          refine wp_aload_n dX10_readWord_72 0 rfl ?_
          refine wp_getJ (k := 55) dX10_readWord_73 flX10_156 rfl rfl rfl rfl ?_
          refine wp_lmul dX10_readWord_76 ?_
          refine wp_aload_n dX10_readWord_77 0 rfl ?_
          refine wp_getR (k := 55) (a' := ad 67) dX10_readWord_78 flX10_50 rfl rfl rfl rfl rfl ?_
          refine wp_aload_n dX10_readWord_81 0 rfl ?_
          refine wp_getI (k := 55) dX10_readWord_82 flX10_160 rfl rfl rfl rfl ?_
          obtain ⟨g85, h⟩ := o_grd h
          refine wp_iald (k := 67) dX10_readWord_85 rfl rfl (inb_of g85) ?_
          refine wp_i2l dX10_readWord_86 ?_
          refine wp_ladd dX10_readWord_87 ?_
          refine wp_ldc2 (v := 96) dX10_readWord_88 klX10_173 ?_
          refine wp_lsub dX10_readWord_91 ?_
          refine wp_putJ (k := 55) dX10_readWord_92 flX10_156 rfl rfl rfl rfl rfl rfl ?_
          refine wp_aload_n dX10_readWord_95 0 rfl ?_
          refine wp_dup dX10_readWord_96 rfl ?_
          refine wp_getI (k := 55) dX10_readWord_97 flX10_160 rfl rfl rfl rfl ?_
          refine wp_iconst (v := 1) dX10_readWord_100 (by decide) ?_
          refine wp_iadd dX10_readWord_101 ?_
          refine wp_putI (k := 55) dX10_readWord_102 flX10_160 rfl rfl rfl rfl rfl rfl rfl rfl ?_
          refine wp_goto 18 dX10_readWord_105 rfl ?_
          refine wp_pick [0] (lv' := [(0, _)]) rfl ?_
          exact ih  (upI I 55 23 ((I 55 23) + 1)) (upJ J 55 22 (((27 * (J 55 22)) + ((I 67 (I 55 23).toNatClampNeg).toInt64)) - 96)) r h
        · replace h := o_neg h c60
          refine wp_ldc2 (v := 2000000000000) dX10_readWord_63 klX10_169 ?_
          refine wp_goto 92 dX10_readWord_66 rfl ?_
          refine wp_putJ (k := 55) dX10_readWord_92 flX10_156 rfl rfl rfl rfl rfl rfl ?_
          refine wp_aload_n dX10_readWord_95 0 rfl ?_
          refine wp_dup dX10_readWord_96 rfl ?_
          refine wp_getI (k := 55) dX10_readWord_97 flX10_160 rfl rfl rfl rfl ?_
          refine wp_iconst (v := 1) dX10_readWord_100 (by decide) ?_
          refine wp_iadd dX10_readWord_101 ?_
          refine wp_putI (k := 55) dX10_readWord_102 flX10_160 rfl rfl rfl rfl rfl rfl rfl rfl ?_
          refine wp_goto 18 dX10_readWord_105 rfl ?_
          refine wp_pick [0] (lv' := [(0, _)]) rfl ?_
          exact ih  (upI I 55 23 ((I 55 23) + 1)) (upJ J 55 22 2000000000000) r h
set_option maxRecDepth 100000 in
set_option maxHeartbeats 4000000 in
theorem c_X10_readWord (Γ : GT) (ad : Nat → Nat) (I : IT) (J : JT) (r : IT × JT) (h : f_X10_readWord I J = some r) : CALL Γ mX10_readWord (0, 0) [.ref (ad 55)] (DX ad) I J (QE none (DX ad) r.1 r.2) := by
  refine call_of' (by decide) (Nat.le_of_ble_eq_true rfl) (lv0 := [(0, .ref (ad 55))]) rfl ?_
  unfold f_X10_readWord at h
  refine wp_aload_n dX10_readWord_0 0 rfl ?_
  obtain ⟨r1, h1, h⟩ := o_bind h
  refine wp_callvI (k := 55) (ci := 10) (c_X10_here Γ ad I J r1 h1) dX10_readWord_1 mlX10_153 mwX10_here miX10_here rfl rfl rfl rfl (Nat.le_of_ble_eq_true rfl) rfl (by decide) (by decide) ?_
  refine wp_istore_n (lv' := [(0, _), (1, _)]) dX10_readWord_4 rfl rfl rfl rfl ?_
  refine wp_aload_n dX10_readWord_5 0 rfl ?_
  refine wp_lconst (v := 0) dX10_readWord_6 (by decide) ?_
  refine wp_putJ (k := 55) dX10_readWord_7 flX10_156 rfl rfl rfl rfl rfl rfl ?_
  refine wp_aload_n dX10_readWord_10 0 rfl ?_
  refine wp_aload_n dX10_readWord_11 0 rfl ?_
  refine wp_getI (k := 55) dX10_readWord_12 flX10_150 rfl rfl rfl rfl ?_
  refine wp_putI (k := 55) dX10_readWord_15 flX10_160 rfl rfl rfl rfl rfl rfl rfl rfl ?_
  refine wp_pick [0] (lv' := [(0, _)]) rfl ?_
  exact w_X10_readWord_18 Γ ad FU  (upI r1.2 55 23 (r1.2 55 21)) (upJ J 55 22 0) r h
def f_X10_code (a0 : Int32) (a1 : Int32) (a2 : Int32) (a3 : Int32) : Option (Int64) :=
  some (((27 * (((27 * (((27 * (a0.toInt64 - 96)) + a1.toInt64) - 96)) + a2.toInt64) - 96)) + a3.toInt64) - 96)
set_option maxRecDepth 100000 in
set_option maxHeartbeats 4000000 in
theorem c_X10_code (Γ : GT) (ad : Nat → Nat) (a0 : Int32) (a1 : Int32) (a2 : Int32) (a3 : Int32) (I : IT) (J : JT) (r : Int64) (h : f_X10_code a0 a1 a2 a3 = some r) : CALL Γ mX10_code (0, 0) [.int a0, .int a1, .int a2, .int a3] (DX ad) I J (QE (some (.long r)) (DX ad) I J) := by
  refine call_of' (by decide) (Nat.le_of_ble_eq_true rfl) (lv0 := [(0, .int a0), (1, .int a1), (2, .int a2), (3, .int a3)]) rfl ?_
  unfold f_X10_code at h
  refine wp_ldc2 (v := 27) dX10_code_0 klX10_171 ?_
  refine wp_ldc2 (v := 27) dX10_code_3 klX10_171 ?_
  refine wp_ldc2 (v := 27) dX10_code_6 klX10_171 ?_
  refine wp_iload_n dX10_code_9 0 rfl ?_
  refine wp_i2l dX10_code_10 ?_
  refine wp_ldc2 (v := 96) dX10_code_11 klX10_173 ?_
  refine wp_lsub dX10_code_14 ?_
  refine wp_lmul dX10_code_15 ?_
  refine wp_iload_n dX10_code_16 1 rfl ?_
  refine wp_i2l dX10_code_17 ?_
  refine wp_ladd dX10_code_18 ?_
  refine wp_ldc2 (v := 96) dX10_code_19 klX10_173 ?_
  refine wp_lsub dX10_code_22 ?_
  refine wp_lmul dX10_code_23 ?_
  refine wp_iload_n dX10_code_24 2 rfl ?_
  refine wp_i2l dX10_code_25 ?_
  refine wp_ladd dX10_code_26 ?_
  refine wp_ldc2 (v := 96) dX10_code_27 klX10_173 ?_
  refine wp_lsub dX10_code_30 ?_
  refine wp_lmul dX10_code_31 ?_
  refine wp_iload_n dX10_code_32 3 rfl ?_
  refine wp_i2l dX10_code_33 ?_
  refine wp_ladd dX10_code_34 ?_
  refine wp_ldc2 (v := 96) dX10_code_35 klX10_173 ?_
  refine wp_lsub dX10_code_38 ?_
  obtain rfl := Option.some.inj h
  exact wp_lreturn dX10_code_39 rfl ⟨rfl, rfl, rfl, rfl⟩
def f_X10_longer (a0 : Int64) (a2 : Int32) : Option (Int64) :=
  some (((27 * a0) + a2.toInt64) - 96)
set_option maxRecDepth 100000 in
set_option maxHeartbeats 4000000 in
theorem c_X10_longer (Γ : GT) (ad : Nat → Nat) (a0 : Int64) (a2 : Int32) (I : IT) (J : JT) (r : Int64) (h : f_X10_longer a0 a2 = some r) : CALL Γ mX10_longer (0, 0) [.long a0, .int a2] (DX ad) I J (QE (some (.long r)) (DX ad) I J) := by
  refine call_of' (by decide) (Nat.le_of_ble_eq_true rfl) (lv0 := [(0, .long a0), (2, .int a2)]) rfl ?_
  unfold f_X10_longer at h
  refine wp_ldc2 (v := 27) dX10_longer_0 klX10_171 ?_
  refine wp_lload_n dX10_longer_3 0 rfl ?_
  refine wp_lmul dX10_longer_4 ?_
  refine wp_iload_n dX10_longer_5 1 rfl ?_
  refine wp_i2l dX10_longer_6 ?_
  refine wp_ladd dX10_longer_7 ?_
  refine wp_ldc2 (v := 96) dX10_longer_8 klX10_173 ?_
  refine wp_lsub dX10_longer_11 ?_
  obtain rfl := Option.some.inj h
  exact wp_lreturn dX10_longer_12 rfl ⟨rfl, rfl, rfl, rfl⟩
def f_X10_clauseOf (J : JT) : Option (Int32) :=
  (f_X10_code 115 101 108 108).bind fun r12 =>
  (f_X10_longer r12 101).bind fun r17 =>
  (f_X10_longer r17 114).bind fun r22 =>
  if (lg_cmp (J 55 22) r22) = 0 then
    if (0 : Int32) < 0 then
      (f_X10_code 98 105 110 100).bind fun r116 =>
      (f_X10_longer r116 115).bind fun r121 =>
      if (lg_cmp (J 55 22) r121) = 0 then
        some 3
      else
        (f_X10_code 99 111 115 116).bind fun r144 =>
        if (lg_cmp (J 55 22) r144) = 0 then
          some 4
        else
          some (-1)
    else
      some 0
  else
    (f_X10_code 98 117 121 101).bind fun r45 =>
    (f_X10_longer r45 114).bind fun r50 =>
    if (lg_cmp (J 55 22) r50) = 0 then
      if (1 : Int32) < 0 then
        (f_X10_code 98 105 110 100).bind fun r116 =>
        (f_X10_longer r116 115).bind fun r121 =>
        if (lg_cmp (J 55 22) r121) = 0 then
          some 3
        else
          (f_X10_code 99 111 115 116).bind fun r144 =>
          if (lg_cmp (J 55 22) r144) = 0 then
            some 4
          else
            some (-1)
      else
        some 1
    else
      (f_X10_code 98 114 111 107).bind fun r73 =>
      (f_X10_longer r73 101).bind fun r78 =>
      (f_X10_longer r78 114).bind fun r83 =>
      if (lg_cmp (J 55 22) r83) = 0 then
        if (2 : Int32) < 0 then
          (f_X10_code 98 105 110 100).bind fun r116 =>
          (f_X10_longer r116 115).bind fun r121 =>
          if (lg_cmp (J 55 22) r121) = 0 then
            some 3
          else
            (f_X10_code 99 111 115 116).bind fun r144 =>
            if (lg_cmp (J 55 22) r144) = 0 then
              some 4
            else
              some (-1)
        else
          some 2
      else
        if ((-1) : Int32) < 0 then
          (f_X10_code 98 105 110 100).bind fun r116 =>
          (f_X10_longer r116 115).bind fun r121 =>
          if (lg_cmp (J 55 22) r121) = 0 then
            some 3
          else
            (f_X10_code 99 111 115 116).bind fun r144 =>
            if (lg_cmp (J 55 22) r144) = 0 then
              some 4
            else
              some (-1)
        else
          some (-1)
set_option maxRecDepth 100000 in
set_option maxHeartbeats 4000000 in
theorem c_X10_clauseOf (Γ : GT) (ad : Nat → Nat) (I : IT) (J : JT) (r : Int32) (h : f_X10_clauseOf J = some r) : CALL Γ mX10_clauseOf (0, 0) [.ref (ad 55)] (DX ad) I J (QE (some (.int r)) (DX ad) I J) := by
  refine call_of' (by decide) (Nat.le_of_ble_eq_true rfl) (lv0 := [(0, .ref (ad 55))]) rfl ?_
  unfold f_X10_clauseOf at h
  refine wp_aload_n dX10_clauseOf_0 0 rfl ?_
  refine wp_getJ (k := 55) dX10_clauseOf_1 flX10_156 rfl rfl rfl rfl ?_
  refine wp_bipush (v := 115) dX10_clauseOf_4 (by decide) ?_
  refine wp_bipush (v := 101) dX10_clauseOf_6 (by decide) ?_
  refine wp_bipush (v := 108) dX10_clauseOf_8 (by decide) ?_
  refine wp_bipush (v := 108) dX10_clauseOf_10 (by decide) ?_
  obtain ⟨r12, h12, h⟩ := o_bind h
  refine wp_callsJ (c_X10_code Γ ad 115 101 108 108 I J r12 h12) dX10_clauseOf_12 mlX10_206 mwX10_code miX10_code rfl (Nat.le_of_ble_eq_true rfl) rfl (by decide) (by decide) ?_
  refine wp_bipush (v := 101) dX10_clauseOf_15 (by decide) ?_
  obtain ⟨r17, h17, h⟩ := o_bind h
  refine wp_callsJ (c_X10_longer Γ ad r12 101 I J r17 h17) dX10_clauseOf_17 mlX10_210 mwX10_longer miX10_longer rfl (Nat.le_of_ble_eq_true rfl) rfl (by decide) (by decide) ?_
  refine wp_bipush (v := 114) dX10_clauseOf_20 (by decide) ?_
  obtain ⟨r22, h22, h⟩ := o_bind h
  refine wp_callsJ (c_X10_longer Γ ad r17 114 I J r22 h22) dX10_clauseOf_22 mlX10_210 mwX10_longer miX10_longer rfl (Nat.le_of_ble_eq_true rfl) rfl (by decide) (by decide) ?_
  refine wp_lcmp dX10_clauseOf_25 ?_
  refine wp_if_ne 33 dX10_clauseOf_26 rfl (fun c26 => ?_) (fun c26 => ?_)
  · replace h := o_neg h c26
    refine wp_aload_n dX10_clauseOf_33 0 rfl ?_
    refine wp_getJ (k := 55) dX10_clauseOf_34 flX10_156 rfl rfl rfl rfl ?_
    refine wp_bipush (v := 98) dX10_clauseOf_37 (by decide) ?_
    refine wp_bipush (v := 117) dX10_clauseOf_39 (by decide) ?_
    refine wp_bipush (v := 121) dX10_clauseOf_41 (by decide) ?_
    refine wp_bipush (v := 101) dX10_clauseOf_43 (by decide) ?_
    obtain ⟨r45, h45, h⟩ := o_bind h
    refine wp_callsJ (c_X10_code Γ ad 98 117 121 101 I J r45 h45) dX10_clauseOf_45 mlX10_206 mwX10_code miX10_code rfl (Nat.le_of_ble_eq_true rfl) rfl (by decide) (by decide) ?_
    refine wp_bipush (v := 114) dX10_clauseOf_48 (by decide) ?_
    obtain ⟨r50, h50, h⟩ := o_bind h
    refine wp_callsJ (c_X10_longer Γ ad r45 114 I J r50 h50) dX10_clauseOf_50 mlX10_210 mwX10_longer miX10_longer rfl (Nat.le_of_ble_eq_true rfl) rfl (by decide) (by decide) ?_
    refine wp_lcmp dX10_clauseOf_53 ?_
    refine wp_if_ne 61 dX10_clauseOf_54 rfl (fun c54 => ?_) (fun c54 => ?_)
    · replace h := o_neg h c54
      refine wp_aload_n dX10_clauseOf_61 0 rfl ?_
      refine wp_getJ (k := 55) dX10_clauseOf_62 flX10_156 rfl rfl rfl rfl ?_
      refine wp_bipush (v := 98) dX10_clauseOf_65 (by decide) ?_
      refine wp_bipush (v := 114) dX10_clauseOf_67 (by decide) ?_
      refine wp_bipush (v := 111) dX10_clauseOf_69 (by decide) ?_
      refine wp_bipush (v := 107) dX10_clauseOf_71 (by decide) ?_
      obtain ⟨r73, h73, h⟩ := o_bind h
      refine wp_callsJ (c_X10_code Γ ad 98 114 111 107 I J r73 h73) dX10_clauseOf_73 mlX10_206 mwX10_code miX10_code rfl (Nat.le_of_ble_eq_true rfl) rfl (by decide) (by decide) ?_
      refine wp_bipush (v := 101) dX10_clauseOf_76 (by decide) ?_
      obtain ⟨r78, h78, h⟩ := o_bind h
      refine wp_callsJ (c_X10_longer Γ ad r73 101 I J r78 h78) dX10_clauseOf_78 mlX10_210 mwX10_longer miX10_longer rfl (Nat.le_of_ble_eq_true rfl) rfl (by decide) (by decide) ?_
      refine wp_bipush (v := 114) dX10_clauseOf_81 (by decide) ?_
      obtain ⟨r83, h83, h⟩ := o_bind h
      refine wp_callsJ (c_X10_longer Γ ad r78 114 I J r83 h83) dX10_clauseOf_83 mlX10_210 mwX10_longer miX10_longer rfl (Nat.le_of_ble_eq_true rfl) rfl (by decide) (by decide) ?_
      refine wp_lcmp dX10_clauseOf_86 ?_
      refine wp_if_ne 94 dX10_clauseOf_87 rfl (fun c87 => ?_) (fun c87 => ?_)
      · replace h := o_neg h c87
        refine wp_iconst (v := (-1)) dX10_clauseOf_94 (by decide) ?_
        refine wp_istore_n (lv' := [(0, _), (1, _)]) dX10_clauseOf_95 rfl rfl rfl rfl ?_
        refine wp_iload_n dX10_clauseOf_96 1 rfl ?_
        refine wp_if_lt 104 dX10_clauseOf_97 rfl (fun c97 => ?_) (fun c97 => ?_)
        · replace h := o_pos h c97
          refine wp_aload_n dX10_clauseOf_104 0 rfl ?_
          refine wp_getJ (k := 55) dX10_clauseOf_105 flX10_156 rfl rfl rfl rfl ?_
          refine wp_bipush (v := 98) dX10_clauseOf_108 (by decide) ?_
          refine wp_bipush (v := 105) dX10_clauseOf_110 (by decide) ?_
          refine wp_bipush (v := 110) dX10_clauseOf_112 (by decide) ?_
          refine wp_bipush (v := 100) dX10_clauseOf_114 (by decide) ?_
          obtain ⟨r116, h116, h⟩ := o_bind h
          refine wp_callsJ (c_X10_code Γ ad 98 105 110 100 I J r116 h116) dX10_clauseOf_116 mlX10_206 mwX10_code miX10_code rfl (Nat.le_of_ble_eq_true rfl) rfl (by decide) (by decide) ?_
          refine wp_bipush (v := 115) dX10_clauseOf_119 (by decide) ?_
          obtain ⟨r121, h121, h⟩ := o_bind h
          refine wp_callsJ (c_X10_longer Γ ad r116 115 I J r121 h121) dX10_clauseOf_121 mlX10_210 mwX10_longer miX10_longer rfl (Nat.le_of_ble_eq_true rfl) rfl (by decide) (by decide) ?_
          refine wp_lcmp dX10_clauseOf_124 ?_
          refine wp_if_ne 132 dX10_clauseOf_125 rfl (fun c125 => ?_) (fun c125 => ?_)
          · replace h := o_neg h c125
            refine wp_aload_n dX10_clauseOf_132 0 rfl ?_
            refine wp_getJ (k := 55) dX10_clauseOf_133 flX10_156 rfl rfl rfl rfl ?_
            refine wp_bipush (v := 99) dX10_clauseOf_136 (by decide) ?_
            refine wp_bipush (v := 111) dX10_clauseOf_138 (by decide) ?_
            refine wp_bipush (v := 115) dX10_clauseOf_140 (by decide) ?_
            refine wp_bipush (v := 116) dX10_clauseOf_142 (by decide) ?_
            obtain ⟨r144, h144, h⟩ := o_bind h
            refine wp_callsJ (c_X10_code Γ ad 99 111 115 116 I J r144 h144) dX10_clauseOf_144 mlX10_206 mwX10_code miX10_code rfl (Nat.le_of_ble_eq_true rfl) rfl (by decide) (by decide) ?_
            refine wp_lcmp dX10_clauseOf_147 ?_
            refine wp_if_ne 155 dX10_clauseOf_148 rfl (fun c148 => ?_) (fun c148 => ?_)
            · replace h := o_neg h c148
              refine wp_iconst (v := (-1)) dX10_clauseOf_155 (by decide) ?_
              obtain rfl := Option.some.inj h
              exact wp_ireturn (ty := .int) dX10_clauseOf_156 rfl rfl ⟨rfl, rfl, rfl, rfl⟩
            · replace h := o_pos h c148
              refine wp_iconst (v := 4) dX10_clauseOf_151 (by decide) ?_
              refine wp_goto 156 dX10_clauseOf_152 rfl ?_
              obtain rfl := Option.some.inj h
              exact wp_ireturn (ty := .int) dX10_clauseOf_156 rfl rfl ⟨rfl, rfl, rfl, rfl⟩
          · replace h := o_pos h c125
            refine wp_iconst (v := 3) dX10_clauseOf_128 (by decide) ?_
            refine wp_goto 156 dX10_clauseOf_129 rfl ?_
            obtain rfl := Option.some.inj h
            exact wp_ireturn (ty := .int) dX10_clauseOf_156 rfl rfl ⟨rfl, rfl, rfl, rfl⟩
        · replace h := o_neg h c97
          refine wp_iload_n dX10_clauseOf_100 1 rfl ?_
          refine wp_goto 156 dX10_clauseOf_101 rfl ?_
          obtain rfl := Option.some.inj h
          exact wp_ireturn (ty := .int) dX10_clauseOf_156 rfl rfl ⟨rfl, rfl, rfl, rfl⟩
      · replace h := o_pos h c87
        refine wp_iconst (v := 2) dX10_clauseOf_90 (by decide) ?_
        refine wp_goto 95 dX10_clauseOf_91 rfl ?_
        refine wp_istore_n (lv' := [(0, _), (1, _)]) dX10_clauseOf_95 rfl rfl rfl rfl ?_
        refine wp_iload_n dX10_clauseOf_96 1 rfl ?_
        refine wp_if_lt 104 dX10_clauseOf_97 rfl (fun c97 => ?_) (fun c97 => ?_)
        · replace h := o_pos h c97
          refine wp_aload_n dX10_clauseOf_104 0 rfl ?_
          refine wp_getJ (k := 55) dX10_clauseOf_105 flX10_156 rfl rfl rfl rfl ?_
          refine wp_bipush (v := 98) dX10_clauseOf_108 (by decide) ?_
          refine wp_bipush (v := 105) dX10_clauseOf_110 (by decide) ?_
          refine wp_bipush (v := 110) dX10_clauseOf_112 (by decide) ?_
          refine wp_bipush (v := 100) dX10_clauseOf_114 (by decide) ?_
          obtain ⟨r116, h116, h⟩ := o_bind h
          refine wp_callsJ (c_X10_code Γ ad 98 105 110 100 I J r116 h116) dX10_clauseOf_116 mlX10_206 mwX10_code miX10_code rfl (Nat.le_of_ble_eq_true rfl) rfl (by decide) (by decide) ?_
          refine wp_bipush (v := 115) dX10_clauseOf_119 (by decide) ?_
          obtain ⟨r121, h121, h⟩ := o_bind h
          refine wp_callsJ (c_X10_longer Γ ad r116 115 I J r121 h121) dX10_clauseOf_121 mlX10_210 mwX10_longer miX10_longer rfl (Nat.le_of_ble_eq_true rfl) rfl (by decide) (by decide) ?_
          refine wp_lcmp dX10_clauseOf_124 ?_
          refine wp_if_ne 132 dX10_clauseOf_125 rfl (fun c125 => ?_) (fun c125 => ?_)
          · replace h := o_neg h c125
            refine wp_aload_n dX10_clauseOf_132 0 rfl ?_
            refine wp_getJ (k := 55) dX10_clauseOf_133 flX10_156 rfl rfl rfl rfl ?_
            refine wp_bipush (v := 99) dX10_clauseOf_136 (by decide) ?_
            refine wp_bipush (v := 111) dX10_clauseOf_138 (by decide) ?_
            refine wp_bipush (v := 115) dX10_clauseOf_140 (by decide) ?_
            refine wp_bipush (v := 116) dX10_clauseOf_142 (by decide) ?_
            obtain ⟨r144, h144, h⟩ := o_bind h
            refine wp_callsJ (c_X10_code Γ ad 99 111 115 116 I J r144 h144) dX10_clauseOf_144 mlX10_206 mwX10_code miX10_code rfl (Nat.le_of_ble_eq_true rfl) rfl (by decide) (by decide) ?_
            refine wp_lcmp dX10_clauseOf_147 ?_
            refine wp_if_ne 155 dX10_clauseOf_148 rfl (fun c148 => ?_) (fun c148 => ?_)
            · replace h := o_neg h c148
              refine wp_iconst (v := (-1)) dX10_clauseOf_155 (by decide) ?_
              obtain rfl := Option.some.inj h
              exact wp_ireturn (ty := .int) dX10_clauseOf_156 rfl rfl ⟨rfl, rfl, rfl, rfl⟩
            · replace h := o_pos h c148
              refine wp_iconst (v := 4) dX10_clauseOf_151 (by decide) ?_
              refine wp_goto 156 dX10_clauseOf_152 rfl ?_
              obtain rfl := Option.some.inj h
              exact wp_ireturn (ty := .int) dX10_clauseOf_156 rfl rfl ⟨rfl, rfl, rfl, rfl⟩
          · replace h := o_pos h c125
            refine wp_iconst (v := 3) dX10_clauseOf_128 (by decide) ?_
            refine wp_goto 156 dX10_clauseOf_129 rfl ?_
            obtain rfl := Option.some.inj h
            exact wp_ireturn (ty := .int) dX10_clauseOf_156 rfl rfl ⟨rfl, rfl, rfl, rfl⟩
        · replace h := o_neg h c97
          refine wp_iload_n dX10_clauseOf_100 1 rfl ?_
          refine wp_goto 156 dX10_clauseOf_101 rfl ?_
          obtain rfl := Option.some.inj h
          exact wp_ireturn (ty := .int) dX10_clauseOf_156 rfl rfl ⟨rfl, rfl, rfl, rfl⟩
    · replace h := o_pos h c54
      refine wp_iconst (v := 1) dX10_clauseOf_57 (by decide) ?_
      refine wp_goto 95 dX10_clauseOf_58 rfl ?_
      refine wp_istore_n (lv' := [(0, _), (1, _)]) dX10_clauseOf_95 rfl rfl rfl rfl ?_
      refine wp_iload_n dX10_clauseOf_96 1 rfl ?_
      refine wp_if_lt 104 dX10_clauseOf_97 rfl (fun c97 => ?_) (fun c97 => ?_)
      · replace h := o_pos h c97
        refine wp_aload_n dX10_clauseOf_104 0 rfl ?_
        refine wp_getJ (k := 55) dX10_clauseOf_105 flX10_156 rfl rfl rfl rfl ?_
        refine wp_bipush (v := 98) dX10_clauseOf_108 (by decide) ?_
        refine wp_bipush (v := 105) dX10_clauseOf_110 (by decide) ?_
        refine wp_bipush (v := 110) dX10_clauseOf_112 (by decide) ?_
        refine wp_bipush (v := 100) dX10_clauseOf_114 (by decide) ?_
        obtain ⟨r116, h116, h⟩ := o_bind h
        refine wp_callsJ (c_X10_code Γ ad 98 105 110 100 I J r116 h116) dX10_clauseOf_116 mlX10_206 mwX10_code miX10_code rfl (Nat.le_of_ble_eq_true rfl) rfl (by decide) (by decide) ?_
        refine wp_bipush (v := 115) dX10_clauseOf_119 (by decide) ?_
        obtain ⟨r121, h121, h⟩ := o_bind h
        refine wp_callsJ (c_X10_longer Γ ad r116 115 I J r121 h121) dX10_clauseOf_121 mlX10_210 mwX10_longer miX10_longer rfl (Nat.le_of_ble_eq_true rfl) rfl (by decide) (by decide) ?_
        refine wp_lcmp dX10_clauseOf_124 ?_
        refine wp_if_ne 132 dX10_clauseOf_125 rfl (fun c125 => ?_) (fun c125 => ?_)
        · replace h := o_neg h c125
          refine wp_aload_n dX10_clauseOf_132 0 rfl ?_
          refine wp_getJ (k := 55) dX10_clauseOf_133 flX10_156 rfl rfl rfl rfl ?_
          refine wp_bipush (v := 99) dX10_clauseOf_136 (by decide) ?_
          refine wp_bipush (v := 111) dX10_clauseOf_138 (by decide) ?_
          refine wp_bipush (v := 115) dX10_clauseOf_140 (by decide) ?_
          refine wp_bipush (v := 116) dX10_clauseOf_142 (by decide) ?_
          obtain ⟨r144, h144, h⟩ := o_bind h
          refine wp_callsJ (c_X10_code Γ ad 99 111 115 116 I J r144 h144) dX10_clauseOf_144 mlX10_206 mwX10_code miX10_code rfl (Nat.le_of_ble_eq_true rfl) rfl (by decide) (by decide) ?_
          refine wp_lcmp dX10_clauseOf_147 ?_
          refine wp_if_ne 155 dX10_clauseOf_148 rfl (fun c148 => ?_) (fun c148 => ?_)
          · replace h := o_neg h c148
            refine wp_iconst (v := (-1)) dX10_clauseOf_155 (by decide) ?_
            obtain rfl := Option.some.inj h
            exact wp_ireturn (ty := .int) dX10_clauseOf_156 rfl rfl ⟨rfl, rfl, rfl, rfl⟩
          · replace h := o_pos h c148
            refine wp_iconst (v := 4) dX10_clauseOf_151 (by decide) ?_
            refine wp_goto 156 dX10_clauseOf_152 rfl ?_
            obtain rfl := Option.some.inj h
            exact wp_ireturn (ty := .int) dX10_clauseOf_156 rfl rfl ⟨rfl, rfl, rfl, rfl⟩
        · replace h := o_pos h c125
          refine wp_iconst (v := 3) dX10_clauseOf_128 (by decide) ?_
          refine wp_goto 156 dX10_clauseOf_129 rfl ?_
          obtain rfl := Option.some.inj h
          exact wp_ireturn (ty := .int) dX10_clauseOf_156 rfl rfl ⟨rfl, rfl, rfl, rfl⟩
      · replace h := o_neg h c97
        refine wp_iload_n dX10_clauseOf_100 1 rfl ?_
        refine wp_goto 156 dX10_clauseOf_101 rfl ?_
        obtain rfl := Option.some.inj h
        exact wp_ireturn (ty := .int) dX10_clauseOf_156 rfl rfl ⟨rfl, rfl, rfl, rfl⟩
  · replace h := o_pos h c26
    refine wp_iconst (v := 0) dX10_clauseOf_29 (by decide) ?_
    refine wp_goto 95 dX10_clauseOf_30 rfl ?_
    refine wp_istore_n (lv' := [(0, _), (1, _)]) dX10_clauseOf_95 rfl rfl rfl rfl ?_
    refine wp_iload_n dX10_clauseOf_96 1 rfl ?_
    refine wp_if_lt 104 dX10_clauseOf_97 rfl (fun c97 => ?_) (fun c97 => ?_)
    · replace h := o_pos h c97
      refine wp_aload_n dX10_clauseOf_104 0 rfl ?_
      refine wp_getJ (k := 55) dX10_clauseOf_105 flX10_156 rfl rfl rfl rfl ?_
      refine wp_bipush (v := 98) dX10_clauseOf_108 (by decide) ?_
      refine wp_bipush (v := 105) dX10_clauseOf_110 (by decide) ?_
      refine wp_bipush (v := 110) dX10_clauseOf_112 (by decide) ?_
      refine wp_bipush (v := 100) dX10_clauseOf_114 (by decide) ?_
      obtain ⟨r116, h116, h⟩ := o_bind h
      refine wp_callsJ (c_X10_code Γ ad 98 105 110 100 I J r116 h116) dX10_clauseOf_116 mlX10_206 mwX10_code miX10_code rfl (Nat.le_of_ble_eq_true rfl) rfl (by decide) (by decide) ?_
      refine wp_bipush (v := 115) dX10_clauseOf_119 (by decide) ?_
      obtain ⟨r121, h121, h⟩ := o_bind h
      refine wp_callsJ (c_X10_longer Γ ad r116 115 I J r121 h121) dX10_clauseOf_121 mlX10_210 mwX10_longer miX10_longer rfl (Nat.le_of_ble_eq_true rfl) rfl (by decide) (by decide) ?_
      refine wp_lcmp dX10_clauseOf_124 ?_
      refine wp_if_ne 132 dX10_clauseOf_125 rfl (fun c125 => ?_) (fun c125 => ?_)
      · replace h := o_neg h c125
        refine wp_aload_n dX10_clauseOf_132 0 rfl ?_
        refine wp_getJ (k := 55) dX10_clauseOf_133 flX10_156 rfl rfl rfl rfl ?_
        refine wp_bipush (v := 99) dX10_clauseOf_136 (by decide) ?_
        refine wp_bipush (v := 111) dX10_clauseOf_138 (by decide) ?_
        refine wp_bipush (v := 115) dX10_clauseOf_140 (by decide) ?_
        refine wp_bipush (v := 116) dX10_clauseOf_142 (by decide) ?_
        obtain ⟨r144, h144, h⟩ := o_bind h
        refine wp_callsJ (c_X10_code Γ ad 99 111 115 116 I J r144 h144) dX10_clauseOf_144 mlX10_206 mwX10_code miX10_code rfl (Nat.le_of_ble_eq_true rfl) rfl (by decide) (by decide) ?_
        refine wp_lcmp dX10_clauseOf_147 ?_
        refine wp_if_ne 155 dX10_clauseOf_148 rfl (fun c148 => ?_) (fun c148 => ?_)
        · replace h := o_neg h c148
          refine wp_iconst (v := (-1)) dX10_clauseOf_155 (by decide) ?_
          obtain rfl := Option.some.inj h
          exact wp_ireturn (ty := .int) dX10_clauseOf_156 rfl rfl ⟨rfl, rfl, rfl, rfl⟩
        · replace h := o_pos h c148
          refine wp_iconst (v := 4) dX10_clauseOf_151 (by decide) ?_
          refine wp_goto 156 dX10_clauseOf_152 rfl ?_
          obtain rfl := Option.some.inj h
          exact wp_ireturn (ty := .int) dX10_clauseOf_156 rfl rfl ⟨rfl, rfl, rfl, rfl⟩
      · replace h := o_pos h c125
        refine wp_iconst (v := 3) dX10_clauseOf_128 (by decide) ?_
        refine wp_goto 156 dX10_clauseOf_129 rfl ?_
        obtain rfl := Option.some.inj h
        exact wp_ireturn (ty := .int) dX10_clauseOf_156 rfl rfl ⟨rfl, rfl, rfl, rfl⟩
    · replace h := o_neg h c97
      refine wp_iload_n dX10_clauseOf_100 1 rfl ?_
      refine wp_goto 156 dX10_clauseOf_101 rfl ?_
      obtain rfl := Option.some.inj h
      exact wp_ireturn (ty := .int) dX10_clauseOf_156 rfl rfl ⟨rfl, rfl, rfl, rfl⟩
def f_X10_fails (a1 : Int32) (a2 : Int32) (I : IT) : Option (Int32 × IT) :=
  some (a1, upI I 55 20 a2)
set_option maxRecDepth 100000 in
set_option maxHeartbeats 4000000 in
theorem c_X10_fails (Γ : GT) (ad : Nat → Nat) (a1 : Int32) (a2 : Int32) (I : IT) (J : JT) (r : Int32 × IT) (h : f_X10_fails a1 a2 I = some r) : CALL Γ mX10_fails (0, 0) [.ref (ad 55), .int a1, .int a2] (DX ad) I J (QE (some (.int r.1)) (DX ad) r.2 J) := by
  refine call_of' (by decide) (Nat.le_of_ble_eq_true rfl) (lv0 := [(0, .ref (ad 55)), (1, .int a1), (2, .int a2)]) rfl ?_
  unfold f_X10_fails at h
  refine wp_aload_n dX10_fails_0 0 rfl ?_
  refine wp_iload_n dX10_fails_1 2 rfl ?_
  refine wp_putI (k := 55) dX10_fails_2 flX10_53 rfl rfl rfl rfl rfl rfl rfl rfl ?_
  refine wp_iload_n dX10_fails_5 1 rfl ?_
  obtain rfl := Option.some.inj h
  exact wp_ireturn (ty := .int) dX10_fails_6 rfl rfl ⟨rfl, rfl, rfl, rfl⟩
def f_X10_isFull (a1 : Int32) (I : IT) : Option (Int32) :=
  if a1 = 0 then
    if (I 55 26) = (6 : Int32) then
      some 1
    else
      some 0
  else
    if a1 = (1 : Int32) then
      if (I 55 27) = (6 : Int32) then
        some 1
      else
        some 0
    else
      if a1 = (2 : Int32) then
        if (I 55 28) = (2 : Int32) then
          some 1
        else
          some 0
      else
        if a1 = (3 : Int32) then
          if (I 55 34) < 0 then
            some 0
          else
            some 1
        else
          if (I 55 35) < 0 then
            some 0
          else
            some 1
set_option maxRecDepth 100000 in
set_option maxHeartbeats 4000000 in
theorem c_X10_isFull (Γ : GT) (ad : Nat → Nat) (a1 : Int32) (I : IT) (J : JT) (r : Int32) (h : f_X10_isFull a1 I = some r) : CALL Γ mX10_isFull (0, 0) [.ref (ad 55), .int a1] (DX ad) I J (QE (some (.int r)) (DX ad) I J) := by
  refine call_of' (by decide) (Nat.le_of_ble_eq_true rfl) (lv0 := [(0, .ref (ad 55)), (1, .int a1)]) rfl ?_
  unfold f_X10_isFull at h
  refine wp_iload_n dX10_isFull_0 1 rfl ?_
  refine wp_if_ne 21 dX10_isFull_1 rfl (fun c1 => ?_) (fun c1 => ?_)
  · replace h := o_neg h c1
    refine wp_iload_n dX10_isFull_21 1 rfl ?_
    refine wp_iconst (v := 1) dX10_isFull_22 (by decide) ?_
    refine wp_icmp_ne 43 dX10_isFull_23 rfl (fun c23 => ?_) (fun c23 => ?_)
    · replace h := o_neg h c23
      refine wp_iload_n dX10_isFull_43 1 rfl ?_
      refine wp_iconst (v := 2) dX10_isFull_44 (by decide) ?_
      refine wp_icmp_ne 64 dX10_isFull_45 rfl (fun c45 => ?_) (fun c45 => ?_)
      · replace h := o_neg h c45
        refine wp_iload_n dX10_isFull_64 1 rfl ?_
        refine wp_iconst (v := 3) dX10_isFull_65 (by decide) ?_
        refine wp_icmp_ne 84 dX10_isFull_66 rfl (fun c66 => ?_) (fun c66 => ?_)
        · replace h := o_neg h c66
          refine wp_aload_n dX10_isFull_84 0 rfl ?_
          refine wp_getI (k := 55) dX10_isFull_85 flX10_217 rfl rfl rfl rfl ?_
          refine wp_if_lt 95 dX10_isFull_88 rfl (fun c88 => ?_) (fun c88 => ?_)
          · replace h := o_pos h c88
            refine wp_iconst (v := 0) dX10_isFull_95 (by decide) ?_
            obtain rfl := Option.some.inj h
            exact wp_ireturn (ty := .boolean) dX10_isFull_96 rfl rfl ⟨rfl, rfl, rfl, rfl⟩
          · replace h := o_neg h c88
            refine wp_iconst (v := 1) dX10_isFull_91 (by decide) ?_
            refine wp_goto 96 dX10_isFull_92 rfl ?_
            obtain rfl := Option.some.inj h
            exact wp_ireturn (ty := .boolean) dX10_isFull_96 rfl rfl ⟨rfl, rfl, rfl, rfl⟩
        · replace h := o_pos h c66
          refine wp_aload_n dX10_isFull_69 0 rfl ?_
          refine wp_getI (k := 55) dX10_isFull_70 flX10_214 rfl rfl rfl rfl ?_
          refine wp_if_lt 80 dX10_isFull_73 rfl (fun c73 => ?_) (fun c73 => ?_)
          · replace h := o_pos h c73
            refine wp_iconst (v := 0) dX10_isFull_80 (by decide) ?_
            refine wp_goto 96 dX10_isFull_81 rfl ?_
            obtain rfl := Option.some.inj h
            exact wp_ireturn (ty := .boolean) dX10_isFull_96 rfl rfl ⟨rfl, rfl, rfl, rfl⟩
          · replace h := o_neg h c73
            refine wp_iconst (v := 1) dX10_isFull_76 (by decide) ?_
            refine wp_goto 96 dX10_isFull_77 rfl ?_
            obtain rfl := Option.some.inj h
            exact wp_ireturn (ty := .boolean) dX10_isFull_96 rfl rfl ⟨rfl, rfl, rfl, rfl⟩
      · replace h := o_pos h c45
        refine wp_aload_n dX10_isFull_48 0 rfl ?_
        refine wp_getI (k := 55) dX10_isFull_49 flX10_203 rfl rfl rfl rfl ?_
        refine wp_iconst (v := 2) dX10_isFull_52 (by decide) ?_
        refine wp_icmp_ne 60 dX10_isFull_53 rfl (fun c53 => ?_) (fun c53 => ?_)
        · replace h := o_neg h c53
          refine wp_iconst (v := 0) dX10_isFull_60 (by decide) ?_
          refine wp_goto 96 dX10_isFull_61 rfl ?_
          obtain rfl := Option.some.inj h
          exact wp_ireturn (ty := .boolean) dX10_isFull_96 rfl rfl ⟨rfl, rfl, rfl, rfl⟩
        · replace h := o_pos h c53
          refine wp_iconst (v := 1) dX10_isFull_56 (by decide) ?_
          refine wp_goto 96 dX10_isFull_57 rfl ?_
          obtain rfl := Option.some.inj h
          exact wp_ireturn (ty := .boolean) dX10_isFull_96 rfl rfl ⟨rfl, rfl, rfl, rfl⟩
    · replace h := o_pos h c23
      refine wp_aload_n dX10_isFull_26 0 rfl ?_
      refine wp_getI (k := 55) dX10_isFull_27 flX10_200 rfl rfl rfl rfl ?_
      refine wp_bipush (v := 6) dX10_isFull_30 (by decide) ?_
      refine wp_icmp_ne 39 dX10_isFull_32 rfl (fun c32 => ?_) (fun c32 => ?_)
      · replace h := o_neg h c32
        refine wp_iconst (v := 0) dX10_isFull_39 (by decide) ?_
        refine wp_goto 96 dX10_isFull_40 rfl ?_
        obtain rfl := Option.some.inj h
        exact wp_ireturn (ty := .boolean) dX10_isFull_96 rfl rfl ⟨rfl, rfl, rfl, rfl⟩
      · replace h := o_pos h c32
        refine wp_iconst (v := 1) dX10_isFull_35 (by decide) ?_
        refine wp_goto 96 dX10_isFull_36 rfl ?_
        obtain rfl := Option.some.inj h
        exact wp_ireturn (ty := .boolean) dX10_isFull_96 rfl rfl ⟨rfl, rfl, rfl, rfl⟩
  · replace h := o_pos h c1
    refine wp_aload_n dX10_isFull_4 0 rfl ?_
    refine wp_getI (k := 55) dX10_isFull_5 flX10_193 rfl rfl rfl rfl ?_
    refine wp_bipush (v := 6) dX10_isFull_8 (by decide) ?_
    refine wp_icmp_ne 17 dX10_isFull_10 rfl (fun c10 => ?_) (fun c10 => ?_)
    · replace h := o_neg h c10
      refine wp_iconst (v := 0) dX10_isFull_17 (by decide) ?_
      refine wp_goto 96 dX10_isFull_18 rfl ?_
      obtain rfl := Option.some.inj h
      exact wp_ireturn (ty := .boolean) dX10_isFull_96 rfl rfl ⟨rfl, rfl, rfl, rfl⟩
    · replace h := o_pos h c10
      refine wp_iconst (v := 1) dX10_isFull_13 (by decide) ?_
      refine wp_goto 96 dX10_isFull_14 rfl ?_
      obtain rfl := Option.some.inj h
      exact wp_ireturn (ty := .boolean) dX10_isFull_96 rfl rfl ⟨rfl, rfl, rfl, rfl⟩
def f_X10_takeNumber_42 : Nat → Int32 → Int32 → IT → Option (Int32 × IT)
  | 0, _, _, _ => none
  | n + 1, v1, v2, I =>
    if (I 55 19) ≤ (I 55 21) then
      if (4 : Int32) < ((I 55 21) - (I 55 25)) then
        (f_X10_fails 2 (I 55 25) I).bind fun r162 =>
        some (r162.1, r162.2)
      else
        (f_X10_in ((I 55 24).toInt64) v1.toInt64 v2.toInt64).bind fun r150 =>
        if r150 = 0 then
          (f_X10_fails 2 (I 55 25) I).bind fun r162 =>
          some (r162.1, r162.2)
        else
          some (0, I)
    else
      if inbB (I 55 21) 500 = true then
        (f_X10_in ((I 67 (I 55 21).toNatClampNeg).toInt64) 48 57).bind fun r69 =>
        if r69 = 0 then
          if (4 : Int32) < ((I 55 21) - (I 55 25)) then
            (f_X10_fails 2 (I 55 25) I).bind fun r162 =>
            some (r162.1, r162.2)
          else
            (f_X10_in ((I 55 24).toInt64) v1.toInt64 v2.toInt64).bind fun r150 =>
            if r150 = 0 then
              (f_X10_fails 2 (I 55 25) I).bind fun r162 =>
              some (r162.1, r162.2)
            else
              some (0, I)
        else
          if (I 55 24) ≤ (100000 : Int32) then
            if inbB (I 55 21) 500 = true then
              f_X10_takeNumber_42 n v1 v2 (upI (upI I 55 24 (((10 * (I 55 24)) + (I 67 (I 55 21).toNatClampNeg)) - 48)) 55 21 (((upI I 55 24 (((10 * (I 55 24)) + (I 67 (I 55 21).toNatClampNeg)) - 48)) 55 21) + 1))
            else none
          else
            f_X10_takeNumber_42 n v1 v2 (upI (upI I 55 24 (I 55 24)) 55 21 (((upI I 55 24 (I 55 24)) 55 21) + 1))
      else none
def f_X10_takeNumber (a1 : Int32) (a2 : Int32) (I : IT) : Option (Int32 × IT) :=
  (f_X10_here I).bind fun r1 =>
  (f_X10_in r1.1.toInt64 48 57).bind fun r13 =>
  if r13 = 0 then
    (f_X10_fails 1 (r1.2 55 21) r1.2).bind fun r25 =>
    some (r25.1, r25.2)
  else
    f_X10_takeNumber_42 FU a1 a2 (upI (upI r1.2 55 25 (r1.2 55 21)) 55 24 0)
set_option maxRecDepth 100000 in
set_option maxHeartbeats 4000000 in
theorem w_X10_takeNumber_42 (Γ : GT) (ad : Nat → Nat) : ∀ (n : Nat) (v1 : Int32) (v2 : Int32) (I : IT) (J : JT) (r : Int32 × IT), f_X10_takeNumber_42 n v1 v2 I = some r → WP Γ mX10_takeNumber (0, 0) 42 [(0, .ref (ad 55)), (1, .int v1), (2, .int v2)] [] (DX ad) I J (QE (some (.int r.1)) (DX ad) r.2 J) := by
  intro n
  induction n with
  | zero => intro v1 v2 I J r h; exact absurd h (by simp [f_X10_takeNumber_42])
  | succ n ih =>
    intro v1 v2 I J r h
    rw [f_X10_takeNumber_42] at h
    refine wp_aload_n dX10_takeNumber_42 0 rfl ?_
    refine wp_getI (k := 55) dX10_takeNumber_43 flX10_150 rfl rfl rfl rfl ?_
    refine wp_aload_n dX10_takeNumber_46 0 rfl ?_
    refine wp_getI (k := 55) dX10_takeNumber_47 flX10_144 rfl rfl rfl rfl ?_
    refine wp_icmp_ge 128 dX10_takeNumber_50 rfl (fun c50 => ?_) (fun c50 => ?_)
    · replace h := o_pos h c50
      refine wp_aload_n dX10_takeNumber_128 0 rfl ?_
      refine wp_getI (k := 55) dX10_takeNumber_129 flX10_150 rfl rfl rfl rfl ?_
      refine wp_aload_n dX10_takeNumber_132 0 rfl ?_
      refine wp_getI (k := 55) dX10_takeNumber_133 flX10_183 rfl rfl rfl rfl ?_
      refine wp_isub dX10_takeNumber_136 ?_
      refine wp_iconst (v := 4) dX10_takeNumber_137 (by decide) ?_
      refine wp_icmp_gt 156 dX10_takeNumber_138 rfl (fun c138 => ?_) (fun c138 => ?_)
      · replace h := o_pos h c138
        refine wp_aload_n dX10_takeNumber_156 0 rfl ?_
        refine wp_iconst (v := 2) dX10_takeNumber_157 (by decide) ?_
        refine wp_aload_n dX10_takeNumber_158 0 rfl ?_
        refine wp_getI (k := 55) dX10_takeNumber_159 flX10_183 rfl rfl rfl rfl ?_
        obtain ⟨r162, h162, h⟩ := o_bind h
        refine wp_callvI (k := 55) (ci := 10) (c_X10_fails Γ ad 2 (I 55 25) I J r162 h162) dX10_takeNumber_162 mlX10_179 mwX10_fails miX10_fails rfl rfl rfl rfl (Nat.le_of_ble_eq_true rfl) rfl (by decide) (by decide) ?_
        refine wp_goto 169 dX10_takeNumber_165 rfl ?_
        obtain rfl := Option.some.inj h
        exact wp_ireturn (ty := .int) dX10_takeNumber_169 rfl rfl ⟨rfl, rfl, rfl, rfl⟩
      · replace h := o_neg h c138
        refine wp_aload_n dX10_takeNumber_141 0 rfl ?_
        refine wp_getI (k := 55) dX10_takeNumber_142 flX10_186 rfl rfl rfl rfl ?_
        refine wp_i2l dX10_takeNumber_145 ?_
        refine wp_iload_n dX10_takeNumber_146 1 rfl ?_
        refine wp_i2l dX10_takeNumber_147 ?_
        refine wp_iload_n dX10_takeNumber_148 2 rfl ?_
        refine wp_i2l dX10_takeNumber_149 ?_
        obtain ⟨r150, h150, h⟩ := o_bind h
        refine wp_callsI (c_X10_in Γ ad ((I 55 24).toInt64) v1.toInt64 v2.toInt64 I J r150 h150) dX10_takeNumber_150 mlX10_134 mwX10_in miX10_in rfl (Nat.le_of_ble_eq_true rfl) rfl (by decide) (by decide) ?_
        refine wp_if_ne 168 dX10_takeNumber_153 rfl (fun c153 => ?_) (fun c153 => ?_)
        · replace h := o_neg h c153
          refine wp_iconst (v := 0) dX10_takeNumber_168 (by decide) ?_
          obtain rfl := Option.some.inj h
          exact wp_ireturn (ty := .int) dX10_takeNumber_169 rfl rfl ⟨rfl, rfl, rfl, rfl⟩
        · replace h := o_pos h c153
          refine wp_aload_n dX10_takeNumber_156 0 rfl ?_
          refine wp_iconst (v := 2) dX10_takeNumber_157 (by decide) ?_
          refine wp_aload_n dX10_takeNumber_158 0 rfl ?_
          refine wp_getI (k := 55) dX10_takeNumber_159 flX10_183 rfl rfl rfl rfl ?_
          obtain ⟨r162, h162, h⟩ := o_bind h
          refine wp_callvI (k := 55) (ci := 10) (c_X10_fails Γ ad 2 (I 55 25) I J r162 h162) dX10_takeNumber_162 mlX10_179 mwX10_fails miX10_fails rfl rfl rfl rfl (Nat.le_of_ble_eq_true rfl) rfl (by decide) (by decide) ?_
          refine wp_goto 169 dX10_takeNumber_165 rfl ?_
          obtain rfl := Option.some.inj h
          exact wp_ireturn (ty := .int) dX10_takeNumber_169 rfl rfl ⟨rfl, rfl, rfl, rfl⟩
    · replace h := o_neg h c50
      refine wp_aload_n dX10_takeNumber_53 0 rfl ?_
      refine wp_getR (k := 55) (a' := ad 67) dX10_takeNumber_54 flX10_50 rfl rfl rfl rfl rfl ?_
      refine wp_aload_n dX10_takeNumber_57 0 rfl ?_
      refine wp_getI (k := 55) dX10_takeNumber_58 flX10_150 rfl rfl rfl rfl ?_
      obtain ⟨g61, h⟩ := o_grd h
      refine wp_iald (k := 67) dX10_takeNumber_61 rfl rfl (inb_of g61) ?_
      refine wp_i2l dX10_takeNumber_62 ?_
      refine wp_ldc2 (v := 48) dX10_takeNumber_63 klX10_175 ?_
      refine wp_ldc2 (v := 57) dX10_takeNumber_66 klX10_177 ?_
      obtain ⟨r69, h69, h⟩ := o_bind h
      refine wp_callsI (c_X10_in Γ ad ((I 67 (I 55 21).toNatClampNeg).toInt64) 48 57 I J r69 h69) dX10_takeNumber_69 mlX10_134 mwX10_in miX10_in rfl (Nat.le_of_ble_eq_true rfl) rfl (by decide) (by decide) ?_
      refine wp_if_eq 128 dX10_takeNumber_72 rfl (fun c72 => ?_) (fun c72 => ?_)
      · replace h := o_pos h c72
        refine wp_aload_n dX10_takeNumber_128 0 rfl ?_
        refine wp_getI (k := 55) dX10_takeNumber_129 flX10_150 rfl rfl rfl rfl ?_
        refine wp_aload_n dX10_takeNumber_132 0 rfl ?_
        refine wp_getI (k := 55) dX10_takeNumber_133 flX10_183 rfl rfl rfl rfl ?_
        refine wp_isub dX10_takeNumber_136 ?_
        refine wp_iconst (v := 4) dX10_takeNumber_137 (by decide) ?_
        refine wp_icmp_gt 156 dX10_takeNumber_138 rfl (fun c138 => ?_) (fun c138 => ?_)
        · replace h := o_pos h c138
          refine wp_aload_n dX10_takeNumber_156 0 rfl ?_
          refine wp_iconst (v := 2) dX10_takeNumber_157 (by decide) ?_
          refine wp_aload_n dX10_takeNumber_158 0 rfl ?_
          refine wp_getI (k := 55) dX10_takeNumber_159 flX10_183 rfl rfl rfl rfl ?_
          obtain ⟨r162, h162, h⟩ := o_bind h
          refine wp_callvI (k := 55) (ci := 10) (c_X10_fails Γ ad 2 (I 55 25) I J r162 h162) dX10_takeNumber_162 mlX10_179 mwX10_fails miX10_fails rfl rfl rfl rfl (Nat.le_of_ble_eq_true rfl) rfl (by decide) (by decide) ?_
          refine wp_goto 169 dX10_takeNumber_165 rfl ?_
          obtain rfl := Option.some.inj h
          exact wp_ireturn (ty := .int) dX10_takeNumber_169 rfl rfl ⟨rfl, rfl, rfl, rfl⟩
        · replace h := o_neg h c138
          refine wp_aload_n dX10_takeNumber_141 0 rfl ?_
          refine wp_getI (k := 55) dX10_takeNumber_142 flX10_186 rfl rfl rfl rfl ?_
          refine wp_i2l dX10_takeNumber_145 ?_
          refine wp_iload_n dX10_takeNumber_146 1 rfl ?_
          refine wp_i2l dX10_takeNumber_147 ?_
          refine wp_iload_n dX10_takeNumber_148 2 rfl ?_
          refine wp_i2l dX10_takeNumber_149 ?_
          obtain ⟨r150, h150, h⟩ := o_bind h
          refine wp_callsI (c_X10_in Γ ad ((I 55 24).toInt64) v1.toInt64 v2.toInt64 I J r150 h150) dX10_takeNumber_150 mlX10_134 mwX10_in miX10_in rfl (Nat.le_of_ble_eq_true rfl) rfl (by decide) (by decide) ?_
          refine wp_if_ne 168 dX10_takeNumber_153 rfl (fun c153 => ?_) (fun c153 => ?_)
          · replace h := o_neg h c153
            refine wp_iconst (v := 0) dX10_takeNumber_168 (by decide) ?_
            obtain rfl := Option.some.inj h
            exact wp_ireturn (ty := .int) dX10_takeNumber_169 rfl rfl ⟨rfl, rfl, rfl, rfl⟩
          · replace h := o_pos h c153
            refine wp_aload_n dX10_takeNumber_156 0 rfl ?_
            refine wp_iconst (v := 2) dX10_takeNumber_157 (by decide) ?_
            refine wp_aload_n dX10_takeNumber_158 0 rfl ?_
            refine wp_getI (k := 55) dX10_takeNumber_159 flX10_183 rfl rfl rfl rfl ?_
            obtain ⟨r162, h162, h⟩ := o_bind h
            refine wp_callvI (k := 55) (ci := 10) (c_X10_fails Γ ad 2 (I 55 25) I J r162 h162) dX10_takeNumber_162 mlX10_179 mwX10_fails miX10_fails rfl rfl rfl rfl (Nat.le_of_ble_eq_true rfl) rfl (by decide) (by decide) ?_
            refine wp_goto 169 dX10_takeNumber_165 rfl ?_
            obtain rfl := Option.some.inj h
            exact wp_ireturn (ty := .int) dX10_takeNumber_169 rfl rfl ⟨rfl, rfl, rfl, rfl⟩
      · replace h := o_neg h c72
        refine wp_aload_n dX10_takeNumber_75 0 rfl ?_
        refine wp_aload_n dX10_takeNumber_76 0 rfl ?_
        refine wp_getI (k := 55) dX10_takeNumber_77 flX10_186 rfl rfl rfl rfl ?_
        refine wp_ldc (v := 100000) dX10_takeNumber_80 kcX10_189 ?_
        refine wp_icmp_le 92 dX10_takeNumber_82 rfl (fun c82 => ?_) (fun c82 => ?_)
        · replace h := o_pos h c82
          refine wp_bipush (v := 10) dX10_takeNumber_92 (by decide) ?_
          refine wp_aload_n dX10_takeNumber_94 0 rfl ?_
          refine wp_getI (k := 55) dX10_takeNumber_95 flX10_186 rfl rfl rfl rfl ?_
          refine wp_imul dX10_takeNumber_98 ?_
          refine wp_aload_n dX10_takeNumber_99 0 rfl ?_
          refine wp_getR (k := 55) (a' := ad 67) dX10_takeNumber_100 flX10_50 rfl rfl rfl rfl rfl ?_
          refine wp_aload_n dX10_takeNumber_103 0 rfl ?_
          refine wp_getI (k := 55) dX10_takeNumber_104 flX10_150 rfl rfl rfl rfl ?_
          obtain ⟨g107, h⟩ := o_grd h
          refine wp_iald (k := 67) dX10_takeNumber_107 rfl rfl (inb_of g107) ?_
          refine wp_iadd dX10_takeNumber_108 ?_
          refine wp_bipush (v := 48) dX10_takeNumber_109 (by decide) ?_
          refine wp_isub dX10_takeNumber_111 ?_
          refine wp_putI (k := 55) dX10_takeNumber_112 flX10_186 rfl rfl rfl rfl rfl rfl rfl rfl ?_
          refine wp_aload_n dX10_takeNumber_115 0 rfl ?_
          refine wp_dup dX10_takeNumber_116 rfl ?_
          refine wp_getI (k := 55) dX10_takeNumber_117 flX10_150 rfl rfl rfl rfl ?_
          refine wp_iconst (v := 1) dX10_takeNumber_120 (by decide) ?_
          refine wp_iadd dX10_takeNumber_121 ?_
          refine wp_putI (k := 55) dX10_takeNumber_122 flX10_150 rfl rfl rfl rfl rfl rfl rfl rfl ?_
          refine wp_goto 42 dX10_takeNumber_125 rfl ?_
          refine wp_pick [0, 1, 2] (lv' := [(0, _), (1, _), (2, _)]) rfl ?_
          exact ih v1 v2 (upI (upI I 55 24 (((10 * (I 55 24)) + (I 67 (I 55 21).toNatClampNeg)) - 48)) 55 21 (((upI I 55 24 (((10 * (I 55 24)) + (I 67 (I 55 21).toNatClampNeg)) - 48)) 55 21) + 1)) J r h
        · replace h := o_neg h c82
          refine wp_aload_n dX10_takeNumber_85 0 rfl ?_
          refine wp_getI (k := 55) dX10_takeNumber_86 flX10_186 rfl rfl rfl rfl ?_
          refine wp_goto 112 dX10_takeNumber_89 rfl ?_
          refine wp_putI (k := 55) dX10_takeNumber_112 flX10_186 rfl rfl rfl rfl rfl rfl rfl rfl ?_
          refine wp_aload_n dX10_takeNumber_115 0 rfl ?_
          refine wp_dup dX10_takeNumber_116 rfl ?_
          refine wp_getI (k := 55) dX10_takeNumber_117 flX10_150 rfl rfl rfl rfl ?_
          refine wp_iconst (v := 1) dX10_takeNumber_120 (by decide) ?_
          refine wp_iadd dX10_takeNumber_121 ?_
          refine wp_putI (k := 55) dX10_takeNumber_122 flX10_150 rfl rfl rfl rfl rfl rfl rfl rfl ?_
          refine wp_goto 42 dX10_takeNumber_125 rfl ?_
          refine wp_pick [0, 1, 2] (lv' := [(0, _), (1, _), (2, _)]) rfl ?_
          exact ih v1 v2 (upI (upI I 55 24 (I 55 24)) 55 21 (((upI I 55 24 (I 55 24)) 55 21) + 1)) J r h
set_option maxRecDepth 100000 in
set_option maxHeartbeats 4000000 in
theorem c_X10_takeNumber (Γ : GT) (ad : Nat → Nat) (a1 : Int32) (a2 : Int32) (I : IT) (J : JT) (r : Int32 × IT) (h : f_X10_takeNumber a1 a2 I = some r) : CALL Γ mX10_takeNumber (0, 0) [.ref (ad 55), .int a1, .int a2] (DX ad) I J (QE (some (.int r.1)) (DX ad) r.2 J) := by
  refine call_of' (by decide) (Nat.le_of_ble_eq_true rfl) (lv0 := [(0, .ref (ad 55)), (1, .int a1), (2, .int a2)]) rfl ?_
  unfold f_X10_takeNumber at h
  refine wp_aload_n dX10_takeNumber_0 0 rfl ?_
  obtain ⟨r1, h1, h⟩ := o_bind h
  refine wp_callvI (k := 55) (ci := 10) (c_X10_here Γ ad I J r1 h1) dX10_takeNumber_1 mlX10_153 mwX10_here miX10_here rfl rfl rfl rfl (Nat.le_of_ble_eq_true rfl) rfl (by decide) (by decide) ?_
  refine wp_istore_n (lv' := [(0, _), (1, _), (2, _), (3, _)]) dX10_takeNumber_4 rfl rfl rfl rfl ?_
  refine wp_iload_n dX10_takeNumber_5 3 rfl ?_
  refine wp_i2l dX10_takeNumber_6 ?_
  refine wp_ldc2 (v := 48) dX10_takeNumber_7 klX10_175 ?_
  refine wp_ldc2 (v := 57) dX10_takeNumber_10 klX10_177 ?_
  obtain ⟨r13, h13, h⟩ := o_bind h
  refine wp_callsI (c_X10_in Γ ad r1.1.toInt64 48 57 r1.2 J r13 h13) dX10_takeNumber_13 mlX10_134 mwX10_in miX10_in rfl (Nat.le_of_ble_eq_true rfl) rfl (by decide) (by decide) ?_
  refine wp_if_ne 29 dX10_takeNumber_16 rfl (fun c16 => ?_) (fun c16 => ?_)
  · replace h := o_neg h c16
    refine wp_aload_n dX10_takeNumber_29 0 rfl ?_
    refine wp_aload_n dX10_takeNumber_30 0 rfl ?_
    refine wp_getI (k := 55) dX10_takeNumber_31 flX10_150 rfl rfl rfl rfl ?_
    refine wp_putI (k := 55) dX10_takeNumber_34 flX10_183 rfl rfl rfl rfl rfl rfl rfl rfl ?_
    refine wp_aload_n dX10_takeNumber_37 0 rfl ?_
    refine wp_iconst (v := 0) dX10_takeNumber_38 (by decide) ?_
    refine wp_putI (k := 55) dX10_takeNumber_39 flX10_186 rfl rfl rfl rfl rfl rfl rfl rfl ?_
    refine wp_pick [0, 1, 2] (lv' := [(0, _), (1, _), (2, _)]) rfl ?_
    exact w_X10_takeNumber_42 Γ ad FU a1 a2 (upI (upI r1.2 55 25 (r1.2 55 21)) 55 24 0) J r h
  · replace h := o_pos h c16
    refine wp_aload_n dX10_takeNumber_19 0 rfl ?_
    refine wp_iconst (v := 1) dX10_takeNumber_20 (by decide) ?_
    refine wp_aload_n dX10_takeNumber_21 0 rfl ?_
    refine wp_getI (k := 55) dX10_takeNumber_22 flX10_150 rfl rfl rfl rfl ?_
    obtain ⟨r25, h25, h⟩ := o_bind h
    refine wp_callvI (k := 55) (ci := 10) (c_X10_fails Γ ad 1 (r1.2 55 21) r1.2 J r25 h25) dX10_takeNumber_25 mlX10_179 mwX10_fails miX10_fails rfl rfl rfl rfl (Nat.le_of_ble_eq_true rfl) rfl (by decide) (by decide) ?_
    obtain rfl := Option.some.inj h
    exact wp_ireturn (ty := .int) dX10_takeNumber_28 rfl rfl ⟨rfl, rfl, rfl, rfl⟩
def f_X10_into_68 (a2 : Int32) (a3 : Int32) (a4 : Int32) (I : IT) : Option (Int32 × IT) :=
  (f_X10_takeNumber a3 a4 I).bind fun r4 =>
  if inbB a2 6 = true then
    some (r4.1, upI r4.2 68 a2.toNatClampNeg (r4.2 55 24))
  else none
set_option maxRecDepth 100000 in
set_option maxHeartbeats 4000000 in
theorem c_X10_into_68 (Γ : GT) (ad : Nat → Nat) (a2 : Int32) (a3 : Int32) (a4 : Int32) (I : IT) (J : JT) (r : Int32 × IT) (h : f_X10_into_68 a2 a3 a4 I = some r) : CALL Γ mX10_into (0, 0) [.ref (ad 55), .ref (ad 68), .int a2, .int a3, .int a4] (DX ad) I J (QE (some (.int r.1)) (DX ad) r.2 J) := by
  refine call_of' (by decide) (Nat.le_of_ble_eq_true rfl) (lv0 := [(0, .ref (ad 55)), (1, .ref (ad 68)), (2, .int a2), (3, .int a3), (4, .int a4)]) rfl ?_
  unfold f_X10_into_68 at h
  refine wp_aload_n dX10_into_0 0 rfl ?_
  refine wp_iload_n dX10_into_1 3 rfl ?_
  refine wp_iload dX10_into_2 4 rfl ?_
  obtain ⟨r4, h4, h⟩ := o_bind h
  refine wp_callvI (k := 55) (ci := 10) (c_X10_takeNumber Γ ad a3 a4 I J r4 h4) dX10_into_4 mlX10_190 mwX10_takeNumber miX10_takeNumber rfl rfl rfl rfl (Nat.le_of_ble_eq_true rfl) rfl (by decide) (by decide) ?_
  refine wp_istore (lv' := [(0, _), (1, _), (2, _), (3, _), (4, _), (5, _)]) dX10_into_7 rfl rfl rfl ?_
  refine wp_aload_n dX10_into_9 1 rfl ?_
  refine wp_iload_n dX10_into_10 2 rfl ?_
  refine wp_aload_n dX10_into_11 0 rfl ?_
  refine wp_getI (k := 55) dX10_into_12 flX10_186 rfl rfl rfl rfl ?_
  obtain ⟨g15, h⟩ := o_grd h
  refine wp_iast (k := 68) dX10_into_15 rfl rfl (inb_of g15) ?_
  refine wp_iload dX10_into_16 5 rfl ?_
  obtain rfl := Option.some.inj h
  exact wp_ireturn (ty := .int) dX10_into_18 rfl rfl ⟨rfl, rfl, rfl, rfl⟩
def f_X10_into_72 (a2 : Int32) (a3 : Int32) (a4 : Int32) (I : IT) : Option (Int32 × IT) :=
  (f_X10_takeNumber a3 a4 I).bind fun r4 =>
  if inbB a2 14 = true then
    some (r4.1, upI r4.2 72 a2.toNatClampNeg (r4.2 55 24))
  else none
set_option maxRecDepth 100000 in
set_option maxHeartbeats 4000000 in
theorem c_X10_into_72 (Γ : GT) (ad : Nat → Nat) (a2 : Int32) (a3 : Int32) (a4 : Int32) (I : IT) (J : JT) (r : Int32 × IT) (h : f_X10_into_72 a2 a3 a4 I = some r) : CALL Γ mX10_into (0, 0) [.ref (ad 55), .ref (ad 72), .int a2, .int a3, .int a4] (DX ad) I J (QE (some (.int r.1)) (DX ad) r.2 J) := by
  refine call_of' (by decide) (Nat.le_of_ble_eq_true rfl) (lv0 := [(0, .ref (ad 55)), (1, .ref (ad 72)), (2, .int a2), (3, .int a3), (4, .int a4)]) rfl ?_
  unfold f_X10_into_72 at h
  refine wp_aload_n dX10_into_0 0 rfl ?_
  refine wp_iload_n dX10_into_1 3 rfl ?_
  refine wp_iload dX10_into_2 4 rfl ?_
  obtain ⟨r4, h4, h⟩ := o_bind h
  refine wp_callvI (k := 55) (ci := 10) (c_X10_takeNumber Γ ad a3 a4 I J r4 h4) dX10_into_4 mlX10_190 mwX10_takeNumber miX10_takeNumber rfl rfl rfl rfl (Nat.le_of_ble_eq_true rfl) rfl (by decide) (by decide) ?_
  refine wp_istore (lv' := [(0, _), (1, _), (2, _), (3, _), (4, _), (5, _)]) dX10_into_7 rfl rfl rfl ?_
  refine wp_aload_n dX10_into_9 1 rfl ?_
  refine wp_iload_n dX10_into_10 2 rfl ?_
  refine wp_aload_n dX10_into_11 0 rfl ?_
  refine wp_getI (k := 55) dX10_into_12 flX10_186 rfl rfl rfl rfl ?_
  obtain ⟨g15, h⟩ := o_grd h
  refine wp_iast (k := 72) dX10_into_15 rfl rfl (inb_of g15) ?_
  refine wp_iload dX10_into_16 5 rfl ?_
  obtain rfl := Option.some.inj h
  exact wp_ireturn (ty := .int) dX10_into_18 rfl rfl ⟨rfl, rfl, rfl, rfl⟩
def f_X10_takeSeller (I : IT) : Option (Int32 × IT) :=
  (f_X10_into_68 (I 55 26) 0 999 I).bind fun r13 =>
  if r13.1 ≤ 0 then
    (f_X10_into_72 (r13.2 55 26) 1 2 r13.2).bind fun r36 =>
    some (r36.1, upI r36.2 55 26 ((r36.2 55 26) + 1))
  else
    some (r13.1, upI r13.2 55 26 ((r13.2 55 26) + 1))
set_option maxRecDepth 100000 in
set_option maxHeartbeats 4000000 in
theorem c_X10_takeSeller (Γ : GT) (ad : Nat → Nat) (I : IT) (J : JT) (r : Int32 × IT) (h : f_X10_takeSeller I = some r) : CALL Γ mX10_takeSeller (0, 0) [.ref (ad 55)] (DX ad) I J (QE (some (.int r.1)) (DX ad) r.2 J) := by
  refine call_of' (by decide) (Nat.le_of_ble_eq_true rfl) (lv0 := [(0, .ref (ad 55))]) rfl ?_
  unfold f_X10_takeSeller at h
  refine wp_aload_n dX10_takeSeller_0 0 rfl ?_
  refine wp_aload_n dX10_takeSeller_1 0 rfl ?_
  refine wp_getR (k := 55) (a' := ad 68) dX10_takeSeller_2 flX10_56 rfl rfl rfl rfl rfl ?_
  refine wp_aload_n dX10_takeSeller_5 0 rfl ?_
  refine wp_getI (k := 55) dX10_takeSeller_6 flX10_193 rfl rfl rfl rfl ?_
  refine wp_iconst (v := 0) dX10_takeSeller_9 (by decide) ?_
  refine wp_sipush (v := 999) dX10_takeSeller_10 (by decide) ?_
  obtain ⟨r13, h13, h⟩ := o_bind h
  refine wp_callvI (k := 55) (ci := 10) (c_X10_into_68 Γ ad (I 55 26) 0 999 I J r13 h13) dX10_takeSeller_13 mlX10_196 mwX10_into miX10_into rfl rfl rfl rfl (Nat.le_of_ble_eq_true rfl) rfl (by decide) (by decide) ?_
  refine wp_istore_n (lv' := [(0, _), (1, _)]) dX10_takeSeller_16 rfl rfl rfl rfl ?_
  refine wp_iload_n dX10_takeSeller_17 1 rfl ?_
  refine wp_if_le 25 dX10_takeSeller_18 rfl (fun c18 => ?_) (fun c18 => ?_)
  · replace h := o_pos h c18
    refine wp_aload_n dX10_takeSeller_25 0 rfl ?_
    refine wp_aload_n dX10_takeSeller_26 0 rfl ?_
    refine wp_getR (k := 55) (a' := ad 72) dX10_takeSeller_27 flX10_68 rfl rfl rfl rfl rfl ?_
    refine wp_aload_n dX10_takeSeller_30 0 rfl ?_
    refine wp_getI (k := 55) dX10_takeSeller_31 flX10_193 rfl rfl rfl rfl ?_
    refine wp_iconst (v := 1) dX10_takeSeller_34 (by decide) ?_
    refine wp_iconst (v := 2) dX10_takeSeller_35 (by decide) ?_
    obtain ⟨r36, h36, h⟩ := o_bind h
    refine wp_callvI (k := 55) (ci := 10) (c_X10_into_72 Γ ad (r13.2 55 26) 1 2 r13.2 J r36 h36) dX10_takeSeller_36 mlX10_196 mwX10_into miX10_into rfl rfl rfl rfl (Nat.le_of_ble_eq_true rfl) rfl (by decide) (by decide) ?_
    refine wp_istore_n (lv' := [(0, _), (1, _)]) dX10_takeSeller_39 rfl rfl rfl rfl ?_
    refine wp_aload_n dX10_takeSeller_40 0 rfl ?_
    refine wp_dup dX10_takeSeller_41 rfl ?_
    refine wp_getI (k := 55) dX10_takeSeller_42 flX10_193 rfl rfl rfl rfl ?_
    refine wp_iconst (v := 1) dX10_takeSeller_45 (by decide) ?_
    refine wp_iadd dX10_takeSeller_46 ?_
    refine wp_putI (k := 55) dX10_takeSeller_47 flX10_193 rfl rfl rfl rfl rfl rfl rfl rfl ?_
    refine wp_iload_n dX10_takeSeller_50 1 rfl ?_
    obtain rfl := Option.some.inj h
    exact wp_ireturn (ty := .int) dX10_takeSeller_51 rfl rfl ⟨rfl, rfl, rfl, rfl⟩
  · replace h := o_neg h c18
    refine wp_iload_n dX10_takeSeller_21 1 rfl ?_
    refine wp_goto 39 dX10_takeSeller_22 rfl ?_
    refine wp_istore_n (lv' := [(0, _), (1, _)]) dX10_takeSeller_39 rfl rfl rfl rfl ?_
    refine wp_aload_n dX10_takeSeller_40 0 rfl ?_
    refine wp_dup dX10_takeSeller_41 rfl ?_
    refine wp_getI (k := 55) dX10_takeSeller_42 flX10_193 rfl rfl rfl rfl ?_
    refine wp_iconst (v := 1) dX10_takeSeller_45 (by decide) ?_
    refine wp_iadd dX10_takeSeller_46 ?_
    refine wp_putI (k := 55) dX10_takeSeller_47 flX10_193 rfl rfl rfl rfl rfl rfl rfl rfl ?_
    refine wp_iload_n dX10_takeSeller_50 1 rfl ?_
    obtain rfl := Option.some.inj h
    exact wp_ireturn (ty := .int) dX10_takeSeller_51 rfl rfl ⟨rfl, rfl, rfl, rfl⟩
def f_X10_into_69 (a2 : Int32) (a3 : Int32) (a4 : Int32) (I : IT) : Option (Int32 × IT) :=
  (f_X10_takeNumber a3 a4 I).bind fun r4 =>
  if inbB a2 6 = true then
    some (r4.1, upI r4.2 69 a2.toNatClampNeg (r4.2 55 24))
  else none
set_option maxRecDepth 100000 in
set_option maxHeartbeats 4000000 in
theorem c_X10_into_69 (Γ : GT) (ad : Nat → Nat) (a2 : Int32) (a3 : Int32) (a4 : Int32) (I : IT) (J : JT) (r : Int32 × IT) (h : f_X10_into_69 a2 a3 a4 I = some r) : CALL Γ mX10_into (0, 0) [.ref (ad 55), .ref (ad 69), .int a2, .int a3, .int a4] (DX ad) I J (QE (some (.int r.1)) (DX ad) r.2 J) := by
  refine call_of' (by decide) (Nat.le_of_ble_eq_true rfl) (lv0 := [(0, .ref (ad 55)), (1, .ref (ad 69)), (2, .int a2), (3, .int a3), (4, .int a4)]) rfl ?_
  unfold f_X10_into_69 at h
  refine wp_aload_n dX10_into_0 0 rfl ?_
  refine wp_iload_n dX10_into_1 3 rfl ?_
  refine wp_iload dX10_into_2 4 rfl ?_
  obtain ⟨r4, h4, h⟩ := o_bind h
  refine wp_callvI (k := 55) (ci := 10) (c_X10_takeNumber Γ ad a3 a4 I J r4 h4) dX10_into_4 mlX10_190 mwX10_takeNumber miX10_takeNumber rfl rfl rfl rfl (Nat.le_of_ble_eq_true rfl) rfl (by decide) (by decide) ?_
  refine wp_istore (lv' := [(0, _), (1, _), (2, _), (3, _), (4, _), (5, _)]) dX10_into_7 rfl rfl rfl ?_
  refine wp_aload_n dX10_into_9 1 rfl ?_
  refine wp_iload_n dX10_into_10 2 rfl ?_
  refine wp_aload_n dX10_into_11 0 rfl ?_
  refine wp_getI (k := 55) dX10_into_12 flX10_186 rfl rfl rfl rfl ?_
  obtain ⟨g15, h⟩ := o_grd h
  refine wp_iast (k := 69) dX10_into_15 rfl rfl (inb_of g15) ?_
  refine wp_iload dX10_into_16 5 rfl ?_
  obtain rfl := Option.some.inj h
  exact wp_ireturn (ty := .int) dX10_into_18 rfl rfl ⟨rfl, rfl, rfl, rfl⟩
