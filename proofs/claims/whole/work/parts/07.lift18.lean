/-! lifted: X10_gainBy X10_lieOf X10_lie X10_bestLie X10_seen X10_forget -/
def f_X10_gainBy_83 : Nat → Int32 → Int32 → Int32 → Int32 → Int32 → Int32 → Int32 → Int32 → IT → Option (Int32 × IT)
  | 0, _, _, _, _, _, _, _, _, _ => none
  | n + 1, v1, v2, v3, v5, v6, v7, v8, v9, I =>
    if (I 55 0) ≤ v9 then
      if 0 ≤ v8 then
        (f_X10_priceBy v1 v8 I).bind fun r138 =>
        (f_X10_tell v2 v3 v7 r138.2).bind fun r148 =>
        if 0 ≤ v8 then
          if v5 = 0 then
            if inbB v3 6 = true then
              some (r138.1 - (r148 56 v3.toNatClampNeg), r148)
            else none
          else
            if inbB ((6 * v6) + v8) 36 = true then
              some ((r148 58 ((6 * v6) + v8).toNatClampNeg) - r138.1, r148)
            else none
        else
          some (0, r148)
      else
        (f_X10_tell v2 v3 v7 I).bind fun r148 =>
        if 0 ≤ v8 then
          if v5 = 0 then
            if inbB v3 6 = true then
              some (0 - (r148 56 v3.toNatClampNeg), r148)
            else none
          else
            if inbB ((6 * v6) + v8) 36 = true then
              some ((r148 58 ((6 * v6) + v8).toNatClampNeg) - 0, r148)
            else none
        else
          some (0, r148)
    else
      if v5 = (1 : Int32) then
        if inbB v9 6 = true then
          if (I 75 v9.toNatClampNeg) = v6 then
            f_X10_gainBy_83 n v1 v2 v3 v5 v6 v7 v9 (v9 + 1) I
          else
            f_X10_gainBy_83 n v1 v2 v3 v5 v6 v7 v8 (v9 + 1) I
        else none
      else
        if 0 ≤ v8 then
          (f_X10_priceBy v1 v8 I).bind fun r138 =>
          (f_X10_tell v2 v3 v7 r138.2).bind fun r148 =>
          if 0 ≤ v8 then
            if v5 = 0 then
              if inbB v3 6 = true then
                some (r138.1 - (r148 56 v3.toNatClampNeg), r148)
              else none
            else
              if inbB ((6 * v6) + v8) 36 = true then
                some ((r148 58 ((6 * v6) + v8).toNatClampNeg) - r138.1, r148)
              else none
          else
            some (0, r148)
        else
          (f_X10_tell v2 v3 v7 I).bind fun r148 =>
          if 0 ≤ v8 then
            if v5 = 0 then
              if inbB v3 6 = true then
                some (0 - (r148 56 v3.toNatClampNeg), r148)
              else none
            else
              if inbB ((6 * v6) + v8) 36 = true then
                some ((r148 58 ((6 * v6) + v8).toNatClampNeg) - 0, r148)
              else none
          else
            some (0, r148)
def f_X10_gainBy (a1 : Int32) (a2 : Int32) (a3 : Int32) (a4 : Int32) (I : IT) : Option (Int32 × IT) :=
  (f_X10_sortOf a2 I).bind fun r2 =>
  if r2 = 0 then
    if inbB a3 6 = true then
      (f_X10_tell a2 a3 a4 I).bind fun r48 =>
      (f_X10_findBest r48).bind fun r52 =>
      if r2 = 0 then
        if inbB a3 6 = true then
          if 0 ≤ (r52 75 a3.toNatClampNeg) then
            f_X10_gainBy_83 FU a1 a2 a3 r2 (a2 - (I 55 0)) (I 56 a3.toNatClampNeg) a3 0 r52
          else
            f_X10_gainBy_83 FU a1 a2 a3 r2 (a2 - (I 55 0)) (I 56 a3.toNatClampNeg) (-1) 0 r52
        else none
      else
        f_X10_gainBy_83 FU a1 a2 a3 r2 (a2 - (I 55 0)) (I 56 a3.toNatClampNeg) (-1) 0 r52
    else none
  else
    if inbB ((6 * (a2 - (I 55 0))) + a3) 36 = true then
      (f_X10_tell a2 a3 a4 I).bind fun r48 =>
      (f_X10_findBest r48).bind fun r52 =>
      if r2 = 0 then
        if inbB a3 6 = true then
          if 0 ≤ (r52 75 a3.toNatClampNeg) then
            f_X10_gainBy_83 FU a1 a2 a3 r2 (a2 - (I 55 0)) (I 58 ((6 * (a2 - (I 55 0))) + a3).toNatClampNeg) a3 0 r52
          else
            f_X10_gainBy_83 FU a1 a2 a3 r2 (a2 - (I 55 0)) (I 58 ((6 * (a2 - (I 55 0))) + a3).toNatClampNeg) (-1) 0 r52
        else none
      else
        f_X10_gainBy_83 FU a1 a2 a3 r2 (a2 - (I 55 0)) (I 58 ((6 * (a2 - (I 55 0))) + a3).toNatClampNeg) (-1) 0 r52
    else none
set_option maxRecDepth 100000 in
set_option maxHeartbeats 4000000 in
theorem w_X10_gainBy_83 (Γ : GT) (ad : Nat → Nat) : ∀ (n : Nat) (v1 : Int32) (v2 : Int32) (v3 : Int32) (v5 : Int32) (v6 : Int32) (v7 : Int32) (v8 : Int32) (v9 : Int32) (I : IT) (J : JT) (r : Int32 × IT), f_X10_gainBy_83 n v1 v2 v3 v5 v6 v7 v8 v9 I = some r → WP Γ mX10_gainBy (0, 0) 83 [(0, .ref (ad 55)), (1, .int v1), (2, .int v2), (3, .int v3), (5, .int v5), (6, .int v6), (7, .int v7), (8, .int v8), (9, .int v9)] [] (DX ad) I J (QE (some (.int r.1)) (DX ad) r.2 J) := by
  intro n
  induction n with
  | zero => intro v1 v2 v3 v5 v6 v7 v8 v9 I J r h; exact absurd h (by simp [f_X10_gainBy_83])
  | succ n ih =>
    intro v1 v2 v3 v5 v6 v7 v8 v9 I J r h
    rw [f_X10_gainBy_83] at h
    refine wp_iload dX10_gainBy_83 8 rfl ?_
    refine wp_aload_n dX10_gainBy_85 0 rfl ?_
    refine wp_getI (k := 55) dX10_gainBy_86 flX10_121 rfl rfl rfl rfl ?_
    refine wp_icmp_ge 125 dX10_gainBy_89 rfl (fun c89 => ?_) (fun c89 => ?_)
    · replace h := o_pos h c89
      refine wp_iload dX10_gainBy_125 7 rfl ?_
      refine wp_if_ge 134 dX10_gainBy_127 rfl (fun c127 => ?_) (fun c127 => ?_)
      · replace h := o_pos h c127
        refine wp_aload_n dX10_gainBy_134 0 rfl ?_
        refine wp_iload_n dX10_gainBy_135 1 rfl ?_
        refine wp_iload dX10_gainBy_136 7 rfl ?_
        obtain ⟨r138, h138, h⟩ := o_bind h
        refine wp_callvI (k := 55) (ci := 10) (c_X10_priceBy Γ ad v1 v8 I J r138 h138) dX10_gainBy_138 mlX10_358 mwX10_priceBy miX10_priceBy rfl rfl rfl rfl (Nat.le_of_ble_eq_true rfl) rfl (by decide) (by decide) ?_
        refine wp_istore (lv' := [(0, _), (1, _), (2, _), (3, _), (5, _), (6, _), (7, _), (8, _), (9, _)]) dX10_gainBy_141 rfl rfl rfl ?_
        refine wp_aload_n dX10_gainBy_143 0 rfl ?_
        refine wp_iload_n dX10_gainBy_144 2 rfl ?_
        refine wp_iload_n dX10_gainBy_145 3 rfl ?_
        refine wp_iload dX10_gainBy_146 6 rfl ?_
        obtain ⟨r148, h148, h⟩ := o_bind h
        refine wp_callvV (k := 55) (ci := 10) (c_X10_tell Γ ad v2 v3 v7 r138.2 J r148 h148) dX10_gainBy_148 mlX10_355 mwX10_tell miX10_tell rfl rfl rfl rfl (Nat.le_of_ble_eq_true rfl) rfl (by decide) (by decide) ?_
        refine wp_iload dX10_gainBy_151 7 rfl ?_
        refine wp_if_ge 160 dX10_gainBy_153 rfl (fun c153 => ?_) (fun c153 => ?_)
        · replace h := o_pos h c153
          refine wp_iload dX10_gainBy_160 4 rfl ?_
          refine wp_if_ne 177 dX10_gainBy_162 rfl (fun c162 => ?_) (fun c162 => ?_)
          · replace h := o_neg h c162
            refine wp_aload_n dX10_gainBy_177 0 rfl ?_
            refine wp_getR (k := 55) (a' := ad 58) dX10_gainBy_178 flX10_16 rfl rfl rfl rfl rfl ?_
            refine wp_bipush (v := 6) dX10_gainBy_181 (by decide) ?_
            refine wp_iload dX10_gainBy_183 5 rfl ?_
            refine wp_imul dX10_gainBy_185 ?_
            refine wp_iload dX10_gainBy_186 7 rfl ?_
            refine wp_iadd dX10_gainBy_188 ?_
            obtain ⟨g189, h⟩ := o_grd h
            refine wp_iald (k := 58) dX10_gainBy_189 rfl rfl (inb_of g189) ?_
            refine wp_iload dX10_gainBy_190 8 rfl ?_
            refine wp_isub dX10_gainBy_192 ?_
            obtain rfl := Option.some.inj h
            exact wp_ireturn (ty := .int) dX10_gainBy_193 rfl rfl ⟨rfl, rfl, rfl, rfl⟩
          · replace h := o_pos h c162
            refine wp_iload dX10_gainBy_165 8 rfl ?_
            refine wp_aload_n dX10_gainBy_167 0 rfl ?_
            refine wp_getR (k := 55) (a' := ad 56) dX10_gainBy_168 flX10_7 rfl rfl rfl rfl rfl ?_
            refine wp_iload_n dX10_gainBy_171 3 rfl ?_
            obtain ⟨g172, h⟩ := o_grd h
            refine wp_iald (k := 56) dX10_gainBy_172 rfl rfl (inb_of g172) ?_
            refine wp_isub dX10_gainBy_173 ?_
            refine wp_goto 193 dX10_gainBy_174 rfl ?_
            obtain rfl := Option.some.inj h
            exact wp_ireturn (ty := .int) dX10_gainBy_193 rfl rfl ⟨rfl, rfl, rfl, rfl⟩
        · replace h := o_neg h c153
          refine wp_iconst (v := 0) dX10_gainBy_156 (by decide) ?_
          refine wp_goto 193 dX10_gainBy_157 rfl ?_
          obtain rfl := Option.some.inj h
          exact wp_ireturn (ty := .int) dX10_gainBy_193 rfl rfl ⟨rfl, rfl, rfl, rfl⟩
      · replace h := o_neg h c127
        refine wp_iconst (v := 0) dX10_gainBy_130 (by decide) ?_
        refine wp_goto 141 dX10_gainBy_131 rfl ?_
        refine wp_istore (lv' := [(0, _), (1, _), (2, _), (3, _), (5, _), (6, _), (7, _), (8, _), (9, _)]) dX10_gainBy_141 rfl rfl rfl ?_
        refine wp_aload_n dX10_gainBy_143 0 rfl ?_
        refine wp_iload_n dX10_gainBy_144 2 rfl ?_
        refine wp_iload_n dX10_gainBy_145 3 rfl ?_
        refine wp_iload dX10_gainBy_146 6 rfl ?_
        obtain ⟨r148, h148, h⟩ := o_bind h
        refine wp_callvV (k := 55) (ci := 10) (c_X10_tell Γ ad v2 v3 v7 I J r148 h148) dX10_gainBy_148 mlX10_355 mwX10_tell miX10_tell rfl rfl rfl rfl (Nat.le_of_ble_eq_true rfl) rfl (by decide) (by decide) ?_
        refine wp_iload dX10_gainBy_151 7 rfl ?_
        refine wp_if_ge 160 dX10_gainBy_153 rfl (fun c153 => ?_) (fun c153 => ?_)
        · replace h := o_pos h c153
          refine wp_iload dX10_gainBy_160 4 rfl ?_
          refine wp_if_ne 177 dX10_gainBy_162 rfl (fun c162 => ?_) (fun c162 => ?_)
          · replace h := o_neg h c162
            refine wp_aload_n dX10_gainBy_177 0 rfl ?_
            refine wp_getR (k := 55) (a' := ad 58) dX10_gainBy_178 flX10_16 rfl rfl rfl rfl rfl ?_
            refine wp_bipush (v := 6) dX10_gainBy_181 (by decide) ?_
            refine wp_iload dX10_gainBy_183 5 rfl ?_
            refine wp_imul dX10_gainBy_185 ?_
            refine wp_iload dX10_gainBy_186 7 rfl ?_
            refine wp_iadd dX10_gainBy_188 ?_
            obtain ⟨g189, h⟩ := o_grd h
            refine wp_iald (k := 58) dX10_gainBy_189 rfl rfl (inb_of g189) ?_
            refine wp_iload dX10_gainBy_190 8 rfl ?_
            refine wp_isub dX10_gainBy_192 ?_
            obtain rfl := Option.some.inj h
            exact wp_ireturn (ty := .int) dX10_gainBy_193 rfl rfl ⟨rfl, rfl, rfl, rfl⟩
          · replace h := o_pos h c162
            refine wp_iload dX10_gainBy_165 8 rfl ?_
            refine wp_aload_n dX10_gainBy_167 0 rfl ?_
            refine wp_getR (k := 55) (a' := ad 56) dX10_gainBy_168 flX10_7 rfl rfl rfl rfl rfl ?_
            refine wp_iload_n dX10_gainBy_171 3 rfl ?_
            obtain ⟨g172, h⟩ := o_grd h
            refine wp_iald (k := 56) dX10_gainBy_172 rfl rfl (inb_of g172) ?_
            refine wp_isub dX10_gainBy_173 ?_
            refine wp_goto 193 dX10_gainBy_174 rfl ?_
            obtain rfl := Option.some.inj h
            exact wp_ireturn (ty := .int) dX10_gainBy_193 rfl rfl ⟨rfl, rfl, rfl, rfl⟩
        · replace h := o_neg h c153
          refine wp_iconst (v := 0) dX10_gainBy_156 (by decide) ?_
          refine wp_goto 193 dX10_gainBy_157 rfl ?_
          obtain rfl := Option.some.inj h
          exact wp_ireturn (ty := .int) dX10_gainBy_193 rfl rfl ⟨rfl, rfl, rfl, rfl⟩
    · replace h := o_neg h c89
      refine wp_iload dX10_gainBy_92 4 rfl ?_
      refine wp_iconst (v := 1) dX10_gainBy_94 (by decide) ?_
      refine wp_icmp_ne 125 dX10_gainBy_95 rfl (fun c95 => ?_) (fun c95 => ?_)
      · replace h := o_neg h c95
        refine wp_iload dX10_gainBy_125 7 rfl ?_
        refine wp_if_ge 134 dX10_gainBy_127 rfl (fun c127 => ?_) (fun c127 => ?_)
        · replace h := o_pos h c127
          refine wp_aload_n dX10_gainBy_134 0 rfl ?_
          refine wp_iload_n dX10_gainBy_135 1 rfl ?_
          refine wp_iload dX10_gainBy_136 7 rfl ?_
          obtain ⟨r138, h138, h⟩ := o_bind h
          refine wp_callvI (k := 55) (ci := 10) (c_X10_priceBy Γ ad v1 v8 I J r138 h138) dX10_gainBy_138 mlX10_358 mwX10_priceBy miX10_priceBy rfl rfl rfl rfl (Nat.le_of_ble_eq_true rfl) rfl (by decide) (by decide) ?_
          refine wp_istore (lv' := [(0, _), (1, _), (2, _), (3, _), (5, _), (6, _), (7, _), (8, _), (9, _)]) dX10_gainBy_141 rfl rfl rfl ?_
          refine wp_aload_n dX10_gainBy_143 0 rfl ?_
          refine wp_iload_n dX10_gainBy_144 2 rfl ?_
          refine wp_iload_n dX10_gainBy_145 3 rfl ?_
          refine wp_iload dX10_gainBy_146 6 rfl ?_
          obtain ⟨r148, h148, h⟩ := o_bind h
          refine wp_callvV (k := 55) (ci := 10) (c_X10_tell Γ ad v2 v3 v7 r138.2 J r148 h148) dX10_gainBy_148 mlX10_355 mwX10_tell miX10_tell rfl rfl rfl rfl (Nat.le_of_ble_eq_true rfl) rfl (by decide) (by decide) ?_
          refine wp_iload dX10_gainBy_151 7 rfl ?_
          refine wp_if_ge 160 dX10_gainBy_153 rfl (fun c153 => ?_) (fun c153 => ?_)
          · replace h := o_pos h c153
            refine wp_iload dX10_gainBy_160 4 rfl ?_
            refine wp_if_ne 177 dX10_gainBy_162 rfl (fun c162 => ?_) (fun c162 => ?_)
            · replace h := o_neg h c162
              refine wp_aload_n dX10_gainBy_177 0 rfl ?_
              refine wp_getR (k := 55) (a' := ad 58) dX10_gainBy_178 flX10_16 rfl rfl rfl rfl rfl ?_
              refine wp_bipush (v := 6) dX10_gainBy_181 (by decide) ?_
              refine wp_iload dX10_gainBy_183 5 rfl ?_
              refine wp_imul dX10_gainBy_185 ?_
              refine wp_iload dX10_gainBy_186 7 rfl ?_
              refine wp_iadd dX10_gainBy_188 ?_
              obtain ⟨g189, h⟩ := o_grd h
              refine wp_iald (k := 58) dX10_gainBy_189 rfl rfl (inb_of g189) ?_
              refine wp_iload dX10_gainBy_190 8 rfl ?_
              refine wp_isub dX10_gainBy_192 ?_
              obtain rfl := Option.some.inj h
              exact wp_ireturn (ty := .int) dX10_gainBy_193 rfl rfl ⟨rfl, rfl, rfl, rfl⟩
            · replace h := o_pos h c162
              refine wp_iload dX10_gainBy_165 8 rfl ?_
              refine wp_aload_n dX10_gainBy_167 0 rfl ?_
              refine wp_getR (k := 55) (a' := ad 56) dX10_gainBy_168 flX10_7 rfl rfl rfl rfl rfl ?_
              refine wp_iload_n dX10_gainBy_171 3 rfl ?_
              obtain ⟨g172, h⟩ := o_grd h
              refine wp_iald (k := 56) dX10_gainBy_172 rfl rfl (inb_of g172) ?_
              refine wp_isub dX10_gainBy_173 ?_
              refine wp_goto 193 dX10_gainBy_174 rfl ?_
              obtain rfl := Option.some.inj h
              exact wp_ireturn (ty := .int) dX10_gainBy_193 rfl rfl ⟨rfl, rfl, rfl, rfl⟩
          · replace h := o_neg h c153
            refine wp_iconst (v := 0) dX10_gainBy_156 (by decide) ?_
            refine wp_goto 193 dX10_gainBy_157 rfl ?_
            obtain rfl := Option.some.inj h
            exact wp_ireturn (ty := .int) dX10_gainBy_193 rfl rfl ⟨rfl, rfl, rfl, rfl⟩
        · replace h := o_neg h c127
          refine wp_iconst (v := 0) dX10_gainBy_130 (by decide) ?_
          refine wp_goto 141 dX10_gainBy_131 rfl ?_
          refine wp_istore (lv' := [(0, _), (1, _), (2, _), (3, _), (5, _), (6, _), (7, _), (8, _), (9, _)]) dX10_gainBy_141 rfl rfl rfl ?_
          refine wp_aload_n dX10_gainBy_143 0 rfl ?_
          refine wp_iload_n dX10_gainBy_144 2 rfl ?_
          refine wp_iload_n dX10_gainBy_145 3 rfl ?_
          refine wp_iload dX10_gainBy_146 6 rfl ?_
          obtain ⟨r148, h148, h⟩ := o_bind h
          refine wp_callvV (k := 55) (ci := 10) (c_X10_tell Γ ad v2 v3 v7 I J r148 h148) dX10_gainBy_148 mlX10_355 mwX10_tell miX10_tell rfl rfl rfl rfl (Nat.le_of_ble_eq_true rfl) rfl (by decide) (by decide) ?_
          refine wp_iload dX10_gainBy_151 7 rfl ?_
          refine wp_if_ge 160 dX10_gainBy_153 rfl (fun c153 => ?_) (fun c153 => ?_)
          · replace h := o_pos h c153
            refine wp_iload dX10_gainBy_160 4 rfl ?_
            refine wp_if_ne 177 dX10_gainBy_162 rfl (fun c162 => ?_) (fun c162 => ?_)
            · replace h := o_neg h c162
              refine wp_aload_n dX10_gainBy_177 0 rfl ?_
              refine wp_getR (k := 55) (a' := ad 58) dX10_gainBy_178 flX10_16 rfl rfl rfl rfl rfl ?_
              refine wp_bipush (v := 6) dX10_gainBy_181 (by decide) ?_
              refine wp_iload dX10_gainBy_183 5 rfl ?_
              refine wp_imul dX10_gainBy_185 ?_
              refine wp_iload dX10_gainBy_186 7 rfl ?_
              refine wp_iadd dX10_gainBy_188 ?_
              obtain ⟨g189, h⟩ := o_grd h
              refine wp_iald (k := 58) dX10_gainBy_189 rfl rfl (inb_of g189) ?_
              refine wp_iload dX10_gainBy_190 8 rfl ?_
              refine wp_isub dX10_gainBy_192 ?_
              obtain rfl := Option.some.inj h
              exact wp_ireturn (ty := .int) dX10_gainBy_193 rfl rfl ⟨rfl, rfl, rfl, rfl⟩
            · replace h := o_pos h c162
              refine wp_iload dX10_gainBy_165 8 rfl ?_
              refine wp_aload_n dX10_gainBy_167 0 rfl ?_
              refine wp_getR (k := 55) (a' := ad 56) dX10_gainBy_168 flX10_7 rfl rfl rfl rfl rfl ?_
              refine wp_iload_n dX10_gainBy_171 3 rfl ?_
              obtain ⟨g172, h⟩ := o_grd h
              refine wp_iald (k := 56) dX10_gainBy_172 rfl rfl (inb_of g172) ?_
              refine wp_isub dX10_gainBy_173 ?_
              refine wp_goto 193 dX10_gainBy_174 rfl ?_
              obtain rfl := Option.some.inj h
              exact wp_ireturn (ty := .int) dX10_gainBy_193 rfl rfl ⟨rfl, rfl, rfl, rfl⟩
          · replace h := o_neg h c153
            refine wp_iconst (v := 0) dX10_gainBy_156 (by decide) ?_
            refine wp_goto 193 dX10_gainBy_157 rfl ?_
            obtain rfl := Option.some.inj h
            exact wp_ireturn (ty := .int) dX10_gainBy_193 rfl rfl ⟨rfl, rfl, rfl, rfl⟩
      · replace h := o_pos h c95
        refine wp_aload_n dX10_gainBy_98 0 rfl ?_
        refine wp_getR (k := 55) (a' := ad 75) dX10_gainBy_99 flX10_77 rfl rfl rfl rfl rfl ?_
        refine wp_iload dX10_gainBy_102 8 rfl ?_
        obtain ⟨g104, h⟩ := o_grd h
        refine wp_iald (k := 75) dX10_gainBy_104 rfl rfl (inb_of g104) ?_
        refine wp_iload dX10_gainBy_105 5 rfl ?_
        refine wp_icmp_ne 115 dX10_gainBy_107 rfl (fun c107 => ?_) (fun c107 => ?_)
        · replace h := o_neg h c107
          refine wp_iload dX10_gainBy_115 7 rfl ?_
          refine wp_istore (lv' := [(0, _), (1, _), (2, _), (3, _), (5, _), (6, _), (7, _), (8, _), (9, _)]) dX10_gainBy_117 rfl rfl rfl ?_
          refine wp_iinc (v := v9 + 1) (lv' := [(0, _), (1, _), (2, _), (3, _), (5, _), (6, _), (7, _), (8, _), (9, _)]) dX10_gainBy_119 8 rfl rfl rfl rfl rfl ?_
          refine wp_goto 83 dX10_gainBy_122 rfl ?_
          refine wp_pick [0, 1, 2, 3, 4, 5, 6, 7, 8] (lv' := [(0, _), (1, _), (2, _), (3, _), (5, _), (6, _), (7, _), (8, _), (9, _)]) rfl ?_
          exact ih v1 v2 v3 v5 v6 v7 v8 (v9 + 1) I J r h
        · replace h := o_pos h c107
          refine wp_iload dX10_gainBy_110 8 rfl ?_
          refine wp_goto 117 dX10_gainBy_112 rfl ?_
          refine wp_istore (lv' := [(0, _), (1, _), (2, _), (3, _), (5, _), (6, _), (7, _), (8, _), (9, _)]) dX10_gainBy_117 rfl rfl rfl ?_
          refine wp_iinc (v := v9 + 1) (lv' := [(0, _), (1, _), (2, _), (3, _), (5, _), (6, _), (7, _), (8, _), (9, _)]) dX10_gainBy_119 8 rfl rfl rfl rfl rfl ?_
          refine wp_goto 83 dX10_gainBy_122 rfl ?_
          refine wp_pick [0, 1, 2, 3, 4, 5, 6, 7, 8] (lv' := [(0, _), (1, _), (2, _), (3, _), (5, _), (6, _), (7, _), (8, _), (9, _)]) rfl ?_
          exact ih v1 v2 v3 v5 v6 v7 v9 (v9 + 1) I J r h
set_option maxRecDepth 100000 in
set_option maxHeartbeats 4000000 in
theorem c_X10_gainBy (Γ : GT) (ad : Nat → Nat) (a1 : Int32) (a2 : Int32) (a3 : Int32) (a4 : Int32) (I : IT) (J : JT) (r : Int32 × IT) (h : f_X10_gainBy a1 a2 a3 a4 I = some r) : CALL Γ mX10_gainBy (0, 0) [.ref (ad 55), .int a1, .int a2, .int a3, .int a4] (DX ad) I J (QE (some (.int r.1)) (DX ad) r.2 J) := by
  refine call_of' (by decide) (Nat.le_of_ble_eq_true rfl) (lv0 := [(0, .ref (ad 55)), (1, .int a1), (2, .int a2), (3, .int a3), (4, .int a4)]) rfl ?_
  unfold f_X10_gainBy at h
  refine wp_aload_n dX10_gainBy_0 0 rfl ?_
  refine wp_iload_n dX10_gainBy_1 2 rfl ?_
  obtain ⟨r2, h2, h⟩ := o_bind h
  refine wp_callvI (k := 55) (ci := 10) (c_X10_sortOf Γ ad a2 I J r2 h2) dX10_gainBy_2 mlX10_245 mwX10_sortOf miX10_sortOf rfl rfl rfl rfl (Nat.le_of_ble_eq_true rfl) rfl (by decide) (by decide) ?_
  refine wp_istore (lv' := [(0, _), (1, _), (2, _), (3, _), (4, _), (5, _)]) dX10_gainBy_5 rfl rfl rfl ?_
  refine wp_iload_n dX10_gainBy_7 2 rfl ?_
  refine wp_aload_n dX10_gainBy_8 0 rfl ?_
  refine wp_getI (k := 55) dX10_gainBy_9 flX10_121 rfl rfl rfl rfl ?_
  refine wp_isub dX10_gainBy_12 ?_
  refine wp_istore (lv' := [(0, _), (1, _), (2, _), (3, _), (4, _), (5, _), (6, _)]) dX10_gainBy_13 rfl rfl rfl ?_
  refine wp_iload dX10_gainBy_15 5 rfl ?_
  refine wp_if_ne 29 dX10_gainBy_17 rfl (fun c17 => ?_) (fun c17 => ?_)
  · replace h := o_neg h c17
    refine wp_aload_n dX10_gainBy_29 0 rfl ?_
    refine wp_getR (k := 55) (a' := ad 58) dX10_gainBy_30 flX10_16 rfl rfl rfl rfl rfl ?_
    refine wp_bipush (v := 6) dX10_gainBy_33 (by decide) ?_
    refine wp_iload dX10_gainBy_35 6 rfl ?_
    refine wp_imul dX10_gainBy_37 ?_
    refine wp_iload_n dX10_gainBy_38 3 rfl ?_
    refine wp_iadd dX10_gainBy_39 ?_
    obtain ⟨g40, h⟩ := o_grd h
    refine wp_iald (k := 58) dX10_gainBy_40 rfl rfl (inb_of g40) ?_
    refine wp_istore (lv' := [(0, _), (1, _), (2, _), (3, _), (4, _), (5, _), (6, _), (7, _)]) dX10_gainBy_41 rfl rfl rfl ?_
    refine wp_aload_n dX10_gainBy_43 0 rfl ?_
    refine wp_iload_n dX10_gainBy_44 2 rfl ?_
    refine wp_iload_n dX10_gainBy_45 3 rfl ?_
    refine wp_iload dX10_gainBy_46 4 rfl ?_
    obtain ⟨r48, h48, h⟩ := o_bind h
    refine wp_callvV (k := 55) (ci := 10) (c_X10_tell Γ ad a2 a3 a4 I J r48 h48) dX10_gainBy_48 mlX10_355 mwX10_tell miX10_tell rfl rfl rfl rfl (Nat.le_of_ble_eq_true rfl) rfl (by decide) (by decide) ?_
    refine wp_aload_n dX10_gainBy_51 0 rfl ?_
    obtain ⟨r52, h52, h⟩ := o_bind h
    refine wp_callvV (k := 55) (ci := 10) (c_X10_findBest Γ ad r48 J r52 h52) dX10_gainBy_52 mlX10_349 mwX10_findBest miX10_findBest rfl rfl rfl rfl (Nat.le_of_ble_eq_true rfl) rfl (by decide) (by decide) ?_
    refine wp_iload dX10_gainBy_55 5 rfl ?_
    refine wp_if_ne 77 dX10_gainBy_57 rfl (fun c57 => ?_) (fun c57 => ?_)
    · replace h := o_neg h c57
      refine wp_iconst (v := (-1)) dX10_gainBy_77 (by decide) ?_
      refine wp_istore (lv' := [(0, _), (1, _), (2, _), (3, _), (4, _), (5, _), (6, _), (7, _), (8, _)]) dX10_gainBy_78 rfl rfl rfl ?_
      refine wp_iconst (v := 0) dX10_gainBy_80 (by decide) ?_
      refine wp_istore (lv' := [(0, _), (1, _), (2, _), (3, _), (4, _), (5, _), (6, _), (7, _), (8, _), (9, _)]) dX10_gainBy_81 rfl rfl rfl ?_
      refine wp_pick [0, 1, 2, 3, 5, 6, 7, 8, 9] (lv' := [(0, _), (1, _), (2, _), (3, _), (5, _), (6, _), (7, _), (8, _), (9, _)]) rfl ?_
      exact w_X10_gainBy_83 Γ ad FU a1 a2 a3 r2 (a2 - (I 55 0)) (I 58 ((6 * (a2 - (I 55 0))) + a3).toNatClampNeg) (-1) 0 r52 J r h
    · replace h := o_pos h c57
      refine wp_aload_n dX10_gainBy_60 0 rfl ?_
      refine wp_getR (k := 55) (a' := ad 75) dX10_gainBy_61 flX10_77 rfl rfl rfl rfl rfl ?_
      refine wp_iload_n dX10_gainBy_64 3 rfl ?_
      obtain ⟨g65, h⟩ := o_grd h
      refine wp_iald (k := 75) dX10_gainBy_65 rfl rfl (inb_of g65) ?_
      refine wp_if_ge 73 dX10_gainBy_66 rfl (fun c66 => ?_) (fun c66 => ?_)
      · replace h := o_pos h c66
        refine wp_iload_n dX10_gainBy_73 3 rfl ?_
        refine wp_goto 78 dX10_gainBy_74 rfl ?_
        refine wp_istore (lv' := [(0, _), (1, _), (2, _), (3, _), (4, _), (5, _), (6, _), (7, _), (8, _)]) dX10_gainBy_78 rfl rfl rfl ?_
        refine wp_iconst (v := 0) dX10_gainBy_80 (by decide) ?_
        refine wp_istore (lv' := [(0, _), (1, _), (2, _), (3, _), (4, _), (5, _), (6, _), (7, _), (8, _), (9, _)]) dX10_gainBy_81 rfl rfl rfl ?_
        refine wp_pick [0, 1, 2, 3, 5, 6, 7, 8, 9] (lv' := [(0, _), (1, _), (2, _), (3, _), (5, _), (6, _), (7, _), (8, _), (9, _)]) rfl ?_
        exact w_X10_gainBy_83 Γ ad FU a1 a2 a3 r2 (a2 - (I 55 0)) (I 58 ((6 * (a2 - (I 55 0))) + a3).toNatClampNeg) a3 0 r52 J r h
      · replace h := o_neg h c66
        refine wp_iconst (v := (-1)) dX10_gainBy_69 (by decide) ?_
        refine wp_goto 78 dX10_gainBy_70 rfl ?_
        refine wp_istore (lv' := [(0, _), (1, _), (2, _), (3, _), (4, _), (5, _), (6, _), (7, _), (8, _)]) dX10_gainBy_78 rfl rfl rfl ?_
        refine wp_iconst (v := 0) dX10_gainBy_80 (by decide) ?_
        refine wp_istore (lv' := [(0, _), (1, _), (2, _), (3, _), (4, _), (5, _), (6, _), (7, _), (8, _), (9, _)]) dX10_gainBy_81 rfl rfl rfl ?_
        refine wp_pick [0, 1, 2, 3, 5, 6, 7, 8, 9] (lv' := [(0, _), (1, _), (2, _), (3, _), (5, _), (6, _), (7, _), (8, _), (9, _)]) rfl ?_
        exact w_X10_gainBy_83 Γ ad FU a1 a2 a3 r2 (a2 - (I 55 0)) (I 58 ((6 * (a2 - (I 55 0))) + a3).toNatClampNeg) (-1) 0 r52 J r h
  · replace h := o_pos h c17
    refine wp_aload_n dX10_gainBy_20 0 rfl ?_
    refine wp_getR (k := 55) (a' := ad 56) dX10_gainBy_21 flX10_7 rfl rfl rfl rfl rfl ?_
    refine wp_iload_n dX10_gainBy_24 3 rfl ?_
    obtain ⟨g25, h⟩ := o_grd h
    refine wp_iald (k := 56) dX10_gainBy_25 rfl rfl (inb_of g25) ?_
    refine wp_goto 41 dX10_gainBy_26 rfl ?_
    refine wp_istore (lv' := [(0, _), (1, _), (2, _), (3, _), (4, _), (5, _), (6, _), (7, _)]) dX10_gainBy_41 rfl rfl rfl ?_
    refine wp_aload_n dX10_gainBy_43 0 rfl ?_
    refine wp_iload_n dX10_gainBy_44 2 rfl ?_
    refine wp_iload_n dX10_gainBy_45 3 rfl ?_
    refine wp_iload dX10_gainBy_46 4 rfl ?_
    obtain ⟨r48, h48, h⟩ := o_bind h
    refine wp_callvV (k := 55) (ci := 10) (c_X10_tell Γ ad a2 a3 a4 I J r48 h48) dX10_gainBy_48 mlX10_355 mwX10_tell miX10_tell rfl rfl rfl rfl (Nat.le_of_ble_eq_true rfl) rfl (by decide) (by decide) ?_
    refine wp_aload_n dX10_gainBy_51 0 rfl ?_
    obtain ⟨r52, h52, h⟩ := o_bind h
    refine wp_callvV (k := 55) (ci := 10) (c_X10_findBest Γ ad r48 J r52 h52) dX10_gainBy_52 mlX10_349 mwX10_findBest miX10_findBest rfl rfl rfl rfl (Nat.le_of_ble_eq_true rfl) rfl (by decide) (by decide) ?_
    refine wp_iload dX10_gainBy_55 5 rfl ?_
    refine wp_if_ne 77 dX10_gainBy_57 rfl (fun c57 => ?_) (fun c57 => ?_)
    · replace h := o_neg h c57
      refine wp_iconst (v := (-1)) dX10_gainBy_77 (by decide) ?_
      refine wp_istore (lv' := [(0, _), (1, _), (2, _), (3, _), (4, _), (5, _), (6, _), (7, _), (8, _)]) dX10_gainBy_78 rfl rfl rfl ?_
      refine wp_iconst (v := 0) dX10_gainBy_80 (by decide) ?_
      refine wp_istore (lv' := [(0, _), (1, _), (2, _), (3, _), (4, _), (5, _), (6, _), (7, _), (8, _), (9, _)]) dX10_gainBy_81 rfl rfl rfl ?_
      refine wp_pick [0, 1, 2, 3, 5, 6, 7, 8, 9] (lv' := [(0, _), (1, _), (2, _), (3, _), (5, _), (6, _), (7, _), (8, _), (9, _)]) rfl ?_
      exact w_X10_gainBy_83 Γ ad FU a1 a2 a3 r2 (a2 - (I 55 0)) (I 56 a3.toNatClampNeg) (-1) 0 r52 J r h
    · replace h := o_pos h c57
      refine wp_aload_n dX10_gainBy_60 0 rfl ?_
      refine wp_getR (k := 55) (a' := ad 75) dX10_gainBy_61 flX10_77 rfl rfl rfl rfl rfl ?_
      refine wp_iload_n dX10_gainBy_64 3 rfl ?_
      obtain ⟨g65, h⟩ := o_grd h
      refine wp_iald (k := 75) dX10_gainBy_65 rfl rfl (inb_of g65) ?_
      refine wp_if_ge 73 dX10_gainBy_66 rfl (fun c66 => ?_) (fun c66 => ?_)
      · replace h := o_pos h c66
        refine wp_iload_n dX10_gainBy_73 3 rfl ?_
        refine wp_goto 78 dX10_gainBy_74 rfl ?_
        refine wp_istore (lv' := [(0, _), (1, _), (2, _), (3, _), (4, _), (5, _), (6, _), (7, _), (8, _)]) dX10_gainBy_78 rfl rfl rfl ?_
        refine wp_iconst (v := 0) dX10_gainBy_80 (by decide) ?_
        refine wp_istore (lv' := [(0, _), (1, _), (2, _), (3, _), (4, _), (5, _), (6, _), (7, _), (8, _), (9, _)]) dX10_gainBy_81 rfl rfl rfl ?_
        refine wp_pick [0, 1, 2, 3, 5, 6, 7, 8, 9] (lv' := [(0, _), (1, _), (2, _), (3, _), (5, _), (6, _), (7, _), (8, _), (9, _)]) rfl ?_
        exact w_X10_gainBy_83 Γ ad FU a1 a2 a3 r2 (a2 - (I 55 0)) (I 56 a3.toNatClampNeg) a3 0 r52 J r h
      · replace h := o_neg h c66
        refine wp_iconst (v := (-1)) dX10_gainBy_69 (by decide) ?_
        refine wp_goto 78 dX10_gainBy_70 rfl ?_
        refine wp_istore (lv' := [(0, _), (1, _), (2, _), (3, _), (4, _), (5, _), (6, _), (7, _), (8, _)]) dX10_gainBy_78 rfl rfl rfl ?_
        refine wp_iconst (v := 0) dX10_gainBy_80 (by decide) ?_
        refine wp_istore (lv' := [(0, _), (1, _), (2, _), (3, _), (4, _), (5, _), (6, _), (7, _), (8, _), (9, _)]) dX10_gainBy_81 rfl rfl rfl ?_
        refine wp_pick [0, 1, 2, 3, 5, 6, 7, 8, 9] (lv' := [(0, _), (1, _), (2, _), (3, _), (5, _), (6, _), (7, _), (8, _), (9, _)]) rfl ?_
        exact w_X10_gainBy_83 Γ ad FU a1 a2 a3 r2 (a2 - (I 55 0)) (I 56 a3.toNatClampNeg) (-1) 0 r52 J r h
def f_X10_lieOf (a1 : Int32) (a2 : Int32) (a3 : Int32) (a4 : Int32) (I : IT) : Option (Int32 × IT) :=
  (f_X10_sortOf a2 I).bind fun r2 =>
  if r2 = 0 then
    if inbB a3 6 = true then
      (f_X10_gainBy a1 a2 a3 a4 I).bind fun r41 =>
      (f_X10_gainBy a1 a2 a3 (I 56 a3.toNatClampNeg) r41.2).bind fun r50 =>
      some (r41.1 - r50.1, r50.2)
    else none
  else
    if inbB ((6 * (a2 - (I 55 0))) + a3) 36 = true then
      (f_X10_gainBy a1 a2 a3 a4 I).bind fun r41 =>
      (f_X10_gainBy a1 a2 a3 (I 58 ((6 * (a2 - (I 55 0))) + a3).toNatClampNeg) r41.2).bind fun r50 =>
      some (r41.1 - r50.1, r50.2)
    else none
set_option maxRecDepth 100000 in
set_option maxHeartbeats 4000000 in
theorem c_X10_lieOf (Γ : GT) (ad : Nat → Nat) (a1 : Int32) (a2 : Int32) (a3 : Int32) (a4 : Int32) (I : IT) (J : JT) (r : Int32 × IT) (h : f_X10_lieOf a1 a2 a3 a4 I = some r) : CALL Γ mX10_lieOf (0, 0) [.ref (ad 55), .int a1, .int a2, .int a3, .int a4] (DX ad) I J (QE (some (.int r.1)) (DX ad) r.2 J) := by
  refine call_of' (by decide) (Nat.le_of_ble_eq_true rfl) (lv0 := [(0, .ref (ad 55)), (1, .int a1), (2, .int a2), (3, .int a3), (4, .int a4)]) rfl ?_
  unfold f_X10_lieOf at h
  refine wp_aload_n dX10_lieOf_0 0 rfl ?_
  refine wp_iload_n dX10_lieOf_1 2 rfl ?_
  obtain ⟨r2, h2, h⟩ := o_bind h
  refine wp_callvI (k := 55) (ci := 10) (c_X10_sortOf Γ ad a2 I J r2 h2) dX10_lieOf_2 mlX10_245 mwX10_sortOf miX10_sortOf rfl rfl rfl rfl (Nat.le_of_ble_eq_true rfl) rfl (by decide) (by decide) ?_
  refine wp_if_ne 17 dX10_lieOf_5 rfl (fun c5 => ?_) (fun c5 => ?_)
  · replace h := o_neg h c5
    refine wp_aload_n dX10_lieOf_17 0 rfl ?_
    refine wp_getR (k := 55) (a' := ad 58) dX10_lieOf_18 flX10_16 rfl rfl rfl rfl rfl ?_
    refine wp_bipush (v := 6) dX10_lieOf_21 (by decide) ?_
    refine wp_iload_n dX10_lieOf_23 2 rfl ?_
    refine wp_aload_n dX10_lieOf_24 0 rfl ?_
    refine wp_getI (k := 55) dX10_lieOf_25 flX10_121 rfl rfl rfl rfl ?_
    refine wp_isub dX10_lieOf_28 ?_
    refine wp_imul dX10_lieOf_29 ?_
    refine wp_iload_n dX10_lieOf_30 3 rfl ?_
    refine wp_iadd dX10_lieOf_31 ?_
    obtain ⟨g32, h⟩ := o_grd h
    refine wp_iald (k := 58) dX10_lieOf_32 rfl rfl (inb_of g32) ?_
    refine wp_istore (lv' := [(0, _), (1, _), (2, _), (3, _), (4, _), (5, _)]) dX10_lieOf_33 rfl rfl rfl ?_
    refine wp_aload_n dX10_lieOf_35 0 rfl ?_
    refine wp_iload_n dX10_lieOf_36 1 rfl ?_
    refine wp_iload_n dX10_lieOf_37 2 rfl ?_
    refine wp_iload_n dX10_lieOf_38 3 rfl ?_
    refine wp_iload dX10_lieOf_39 4 rfl ?_
    obtain ⟨r41, h41, h⟩ := o_bind h
    refine wp_callvI (k := 55) (ci := 10) (c_X10_gainBy Γ ad a1 a2 a3 a4 I J r41 h41) dX10_lieOf_41 mlX10_361 mwX10_gainBy miX10_gainBy rfl rfl rfl rfl (Nat.le_of_ble_eq_true rfl) rfl (by decide) (by decide) ?_
    refine wp_aload_n dX10_lieOf_44 0 rfl ?_
    refine wp_iload_n dX10_lieOf_45 1 rfl ?_
    refine wp_iload_n dX10_lieOf_46 2 rfl ?_
    refine wp_iload_n dX10_lieOf_47 3 rfl ?_
    refine wp_iload dX10_lieOf_48 5 rfl ?_
    obtain ⟨r50, h50, h⟩ := o_bind h
    refine wp_callvI (k := 55) (ci := 10) (c_X10_gainBy Γ ad a1 a2 a3 (I 58 ((6 * (a2 - (I 55 0))) + a3).toNatClampNeg) r41.2 J r50 h50) dX10_lieOf_50 mlX10_361 mwX10_gainBy miX10_gainBy rfl rfl rfl rfl (Nat.le_of_ble_eq_true rfl) rfl (by decide) (by decide) ?_
    refine wp_isub dX10_lieOf_53 ?_
    obtain rfl := Option.some.inj h
    exact wp_ireturn (ty := .int) dX10_lieOf_54 rfl rfl ⟨rfl, rfl, rfl, rfl⟩
  · replace h := o_pos h c5
    refine wp_aload_n dX10_lieOf_8 0 rfl ?_
    refine wp_getR (k := 55) (a' := ad 56) dX10_lieOf_9 flX10_7 rfl rfl rfl rfl rfl ?_
    refine wp_iload_n dX10_lieOf_12 3 rfl ?_
    obtain ⟨g13, h⟩ := o_grd h
    refine wp_iald (k := 56) dX10_lieOf_13 rfl rfl (inb_of g13) ?_
    refine wp_goto 33 dX10_lieOf_14 rfl ?_
    refine wp_istore (lv' := [(0, _), (1, _), (2, _), (3, _), (4, _), (5, _)]) dX10_lieOf_33 rfl rfl rfl ?_
    refine wp_aload_n dX10_lieOf_35 0 rfl ?_
    refine wp_iload_n dX10_lieOf_36 1 rfl ?_
    refine wp_iload_n dX10_lieOf_37 2 rfl ?_
    refine wp_iload_n dX10_lieOf_38 3 rfl ?_
    refine wp_iload dX10_lieOf_39 4 rfl ?_
    obtain ⟨r41, h41, h⟩ := o_bind h
    refine wp_callvI (k := 55) (ci := 10) (c_X10_gainBy Γ ad a1 a2 a3 a4 I J r41 h41) dX10_lieOf_41 mlX10_361 mwX10_gainBy miX10_gainBy rfl rfl rfl rfl (Nat.le_of_ble_eq_true rfl) rfl (by decide) (by decide) ?_
    refine wp_aload_n dX10_lieOf_44 0 rfl ?_
    refine wp_iload_n dX10_lieOf_45 1 rfl ?_
    refine wp_iload_n dX10_lieOf_46 2 rfl ?_
    refine wp_iload_n dX10_lieOf_47 3 rfl ?_
    refine wp_iload dX10_lieOf_48 5 rfl ?_
    obtain ⟨r50, h50, h⟩ := o_bind h
    refine wp_callvI (k := 55) (ci := 10) (c_X10_gainBy Γ ad a1 a2 a3 (I 56 a3.toNatClampNeg) r41.2 J r50 h50) dX10_lieOf_50 mlX10_361 mwX10_gainBy miX10_gainBy rfl rfl rfl rfl (Nat.le_of_ble_eq_true rfl) rfl (by decide) (by decide) ?_
    refine wp_isub dX10_lieOf_53 ?_
    obtain rfl := Option.some.inj h
    exact wp_ireturn (ty := .int) dX10_lieOf_54 rfl rfl ⟨rfl, rfl, rfl, rfl⟩
def f_X10_lie (a1 : Int32) (a2 : Int32) (a3 : Int32) (a4 : Int32) (I : IT) : Option (Int32 × IT) :=
  (f_X10_isAbout a2 a3 I).bind fun r3 =>
  if r3 = 0 then
    some ((-1000001), I)
  else
    (f_X10_isRule a1).bind fun r14 =>
    if r14 = 0 then
      some ((-1000002), I)
    else
      (f_X10_in a4.toInt64 0 999).bind fun r27 =>
      if r27 = 0 then
        some ((-1000002), I)
      else
        (f_X10_lieOf a1 a2 a3 a4 I).bind fun r39 =>
        some (r39.1, r39.2)
set_option maxRecDepth 100000 in
set_option maxHeartbeats 4000000 in
theorem c_X10_lie (Γ : GT) (ad : Nat → Nat) (a1 : Int32) (a2 : Int32) (a3 : Int32) (a4 : Int32) (I : IT) (J : JT) (r : Int32 × IT) (h : f_X10_lie a1 a2 a3 a4 I = some r) : CALL Γ mX10_lie (0, 0) [.ref (ad 55), .int a1, .int a2, .int a3, .int a4] (DX ad) I J (QE (some (.int r.1)) (DX ad) r.2 J) := by
  refine call_of' (by decide) (Nat.le_of_ble_eq_true rfl) (lv0 := [(0, .ref (ad 55)), (1, .int a1), (2, .int a2), (3, .int a3), (4, .int a4)]) rfl ?_
  unfold f_X10_lie at h
  refine wp_aload_n dX10_lie_0 0 rfl ?_
  refine wp_iload_n dX10_lie_1 2 rfl ?_
  refine wp_iload_n dX10_lie_2 3 rfl ?_
  obtain ⟨r3, h3, h⟩ := o_bind h
  refine wp_callvI (k := 55) (ci := 10) (c_X10_isAbout Γ ad a2 a3 I J r3 h3) dX10_lie_3 mlX10_274 mwX10_isAbout miX10_isAbout rfl rfl rfl rfl (Nat.le_of_ble_eq_true rfl) rfl (by decide) (by decide) ?_
  refine wp_if_ne 13 dX10_lie_6 rfl (fun c6 => ?_) (fun c6 => ?_)
  · replace h := o_neg h c6
    refine wp_iload_n dX10_lie_13 1 rfl ?_
    obtain ⟨r14, h14, h⟩ := o_bind h
    refine wp_callsI (c_X10_isRule Γ ad a1 I J r14 h14) dX10_lie_14 mlX10_365 mwX10_isRule miX10_isRule rfl (Nat.le_of_ble_eq_true rfl) rfl (by decide) (by decide) ?_
    refine wp_if_eq 45 dX10_lie_17 rfl (fun c17 => ?_) (fun c17 => ?_)
    · replace h := o_pos h c17
      refine wp_ldc (v := (-1000002)) dX10_lie_45 kcX10_143 ?_
      obtain rfl := Option.some.inj h
      exact wp_ireturn (ty := .int) dX10_lie_47 rfl rfl ⟨rfl, rfl, rfl, rfl⟩
    · replace h := o_neg h c17
      refine wp_iload dX10_lie_20 4 rfl ?_
      refine wp_i2l dX10_lie_22 ?_
      refine wp_lconst (v := 0) dX10_lie_23 (by decide) ?_
      refine wp_ldc2 (v := 999) dX10_lie_24 klX10_285 ?_
      obtain ⟨r27, h27, h⟩ := o_bind h
      refine wp_callsI (c_X10_in Γ ad a4.toInt64 0 999 I J r27 h27) dX10_lie_27 mlX10_134 mwX10_in miX10_in rfl (Nat.le_of_ble_eq_true rfl) rfl (by decide) (by decide) ?_
      refine wp_if_eq 45 dX10_lie_30 rfl (fun c30 => ?_) (fun c30 => ?_)
      · replace h := o_pos h c30
        refine wp_ldc (v := (-1000002)) dX10_lie_45 kcX10_143 ?_
        obtain rfl := Option.some.inj h
        exact wp_ireturn (ty := .int) dX10_lie_47 rfl rfl ⟨rfl, rfl, rfl, rfl⟩
      · replace h := o_neg h c30
        refine wp_aload_n dX10_lie_33 0 rfl ?_
        refine wp_iload_n dX10_lie_34 1 rfl ?_
        refine wp_iload_n dX10_lie_35 2 rfl ?_
        refine wp_iload_n dX10_lie_36 3 rfl ?_
        refine wp_iload dX10_lie_37 4 rfl ?_
        obtain ⟨r39, h39, h⟩ := o_bind h
        refine wp_callvI (k := 55) (ci := 10) (c_X10_lieOf Γ ad a1 a2 a3 a4 I J r39 h39) dX10_lie_39 mlX10_368 mwX10_lieOf miX10_lieOf rfl rfl rfl rfl (Nat.le_of_ble_eq_true rfl) rfl (by decide) (by decide) ?_
        refine wp_goto 47 dX10_lie_42 rfl ?_
        obtain rfl := Option.some.inj h
        exact wp_ireturn (ty := .int) dX10_lie_47 rfl rfl ⟨rfl, rfl, rfl, rfl⟩
  · replace h := o_pos h c6
    refine wp_ldcw (v := (-1000001)) dX10_lie_9 kcX10_264 ?_
    obtain rfl := Option.some.inj h
    exact wp_ireturn (ty := .int) dX10_lie_12 rfl rfl ⟨rfl, rfl, rfl, rfl⟩
def f_X10_bestLie_99 : Nat → Int32 → Int32 → Int32 → Int32 → Int32 → Int32 → Int32 → Int32 → IT → Option (Int32 × IT)
  | 0, _, _, _, _, _, _, _, _, _ => none
  | n + 1, v1, v2, v3, v4, v6, v7, v8, v9, I =>
    if (999 : Int32) < v9 then
      if v4 = 0 then
        some (v7, I)
      else
        some (v8, I)
    else
      (f_X10_gainBy v1 v2 v3 v9 I).bind fun r113 =>
      if (r113.1 - v6) ≤ v8 then
        if (r113.1 - v6) ≤ v8 then
          f_X10_bestLie_99 n v1 v2 v3 v4 v6 v7 v8 (v9 + 1) r113.2
        else
          f_X10_bestLie_99 n v1 v2 v3 v4 v6 v7 (r113.1 - v6) (v9 + 1) r113.2
      else
        if (r113.1 - v6) ≤ v8 then
          f_X10_bestLie_99 n v1 v2 v3 v4 v6 v9 v8 (v9 + 1) r113.2
        else
          f_X10_bestLie_99 n v1 v2 v3 v4 v6 v9 (r113.1 - v6) (v9 + 1) r113.2
def f_X10_bestLie (a1 : Int32) (a2 : Int32) (a3 : Int32) (a4 : Int32) (I : IT) : Option (Int32 × IT) :=
  (f_X10_isAbout a2 a3 I).bind fun r3 =>
  if r3 = 0 then
    some ((-1000001), I)
  else
    (f_X10_isRule a1).bind fun r14 =>
    if r14 = 0 then
      some ((-1000002), I)
    else
      (f_X10_in a4.toInt64 0 1).bind fun r25 =>
      if r25 = 0 then
        some ((-1000002), I)
      else
        (f_X10_sortOf a2 I).bind fun r36 =>
        if r36 = 0 then
          if inbB a3 6 = true then
            (f_X10_gainBy a1 a2 a3 (I 56 a3.toNatClampNeg) I).bind fun r75 =>
            (f_X10_gainBy a1 a2 a3 0 r75.2).bind fun r88 =>
            f_X10_bestLie_99 FU a1 a2 a3 a4 r75.1 0 (r88.1 - r75.1) 1 r88.2
          else none
        else
          if inbB ((6 * (a2 - (I 55 0))) + a3) 36 = true then
            (f_X10_gainBy a1 a2 a3 (I 58 ((6 * (a2 - (I 55 0))) + a3).toNatClampNeg) I).bind fun r75 =>
            (f_X10_gainBy a1 a2 a3 0 r75.2).bind fun r88 =>
            f_X10_bestLie_99 FU a1 a2 a3 a4 r75.1 0 (r88.1 - r75.1) 1 r88.2
          else none
set_option maxRecDepth 100000 in
set_option maxHeartbeats 4000000 in
theorem w_X10_bestLie_99 (Γ : GT) (ad : Nat → Nat) : ∀ (n : Nat) (v1 : Int32) (v2 : Int32) (v3 : Int32) (v4 : Int32) (v6 : Int32) (v7 : Int32) (v8 : Int32) (v9 : Int32) (I : IT) (J : JT) (r : Int32 × IT), f_X10_bestLie_99 n v1 v2 v3 v4 v6 v7 v8 v9 I = some r → WP Γ mX10_bestLie (0, 0) 99 [(0, .ref (ad 55)), (1, .int v1), (2, .int v2), (3, .int v3), (4, .int v4), (6, .int v6), (7, .int v7), (8, .int v8), (9, .int v9)] [] (DX ad) I J (QE (some (.int r.1)) (DX ad) r.2 J) := by
  intro n
  induction n with
  | zero => intro v1 v2 v3 v4 v6 v7 v8 v9 I J r h; exact absurd h (by simp [f_X10_bestLie_99])
  | succ n ih =>
    intro v1 v2 v3 v4 v6 v7 v8 v9 I J r h
    rw [f_X10_bestLie_99] at h
    refine wp_iload dX10_bestLie_99 8 rfl ?_
    refine wp_sipush (v := 999) dX10_bestLie_101 (by decide) ?_
    refine wp_icmp_gt 159 dX10_bestLie_104 rfl (fun c104 => ?_) (fun c104 => ?_)
    · replace h := o_pos h c104
      refine wp_iload dX10_bestLie_159 4 rfl ?_
      refine wp_if_ne 169 dX10_bestLie_161 rfl (fun c161 => ?_) (fun c161 => ?_)
      · replace h := o_neg h c161
        refine wp_iload dX10_bestLie_169 7 rfl ?_
        obtain rfl := Option.some.inj h
        exact wp_ireturn (ty := .int) dX10_bestLie_171 rfl rfl ⟨rfl, rfl, rfl, rfl⟩
      · replace h := o_pos h c161
        refine wp_iload dX10_bestLie_164 6 rfl ?_
        refine wp_goto 171 dX10_bestLie_166 rfl ?_
        obtain rfl := Option.some.inj h
        exact wp_ireturn (ty := .int) dX10_bestLie_171 rfl rfl ⟨rfl, rfl, rfl, rfl⟩
    · replace h := o_neg h c104
      refine wp_aload_n dX10_bestLie_107 0 rfl ?_
      refine wp_iload_n dX10_bestLie_108 1 rfl ?_
      refine wp_iload_n dX10_bestLie_109 2 rfl ?_
      refine wp_iload_n dX10_bestLie_110 3 rfl ?_
      refine wp_iload dX10_bestLie_111 8 rfl ?_
      obtain ⟨r113, h113, h⟩ := o_bind h
      refine wp_callvI (k := 55) (ci := 10) (c_X10_gainBy Γ ad v1 v2 v3 v9 I J r113 h113) dX10_bestLie_113 mlX10_361 mwX10_gainBy miX10_gainBy rfl rfl rfl rfl (Nat.le_of_ble_eq_true rfl) rfl (by decide) (by decide) ?_
      refine wp_iload dX10_bestLie_116 5 rfl ?_
      refine wp_isub dX10_bestLie_118 ?_
      refine wp_istore (lv' := [(0, _), (1, _), (2, _), (3, _), (4, _), (6, _), (7, _), (8, _), (9, _), (10, _)]) dX10_bestLie_119 rfl rfl rfl ?_
      refine wp_iload dX10_bestLie_121 9 rfl ?_
      refine wp_iload dX10_bestLie_123 7 rfl ?_
      refine wp_icmp_le 133 dX10_bestLie_125 rfl (fun c125 => ?_) (fun c125 => ?_)
      · replace h := o_pos h c125
        refine wp_iload dX10_bestLie_133 6 rfl ?_
        refine wp_istore (lv' := [(0, _), (1, _), (2, _), (3, _), (4, _), (6, _), (7, _), (8, _), (9, _), (10, _)]) dX10_bestLie_135 rfl rfl rfl ?_
        refine wp_iload dX10_bestLie_137 9 rfl ?_
        refine wp_iload dX10_bestLie_139 7 rfl ?_
        refine wp_icmp_le 149 dX10_bestLie_141 rfl (fun c141 => ?_) (fun c141 => ?_)
        · replace h := o_pos h c141
          refine wp_iload dX10_bestLie_149 7 rfl ?_
          refine wp_istore (lv' := [(0, _), (1, _), (2, _), (3, _), (4, _), (6, _), (7, _), (8, _), (9, _), (10, _)]) dX10_bestLie_151 rfl rfl rfl ?_
          refine wp_iinc (v := v9 + 1) (lv' := [(0, _), (1, _), (2, _), (3, _), (4, _), (6, _), (7, _), (8, _), (9, _), (10, _)]) dX10_bestLie_153 8 rfl rfl rfl rfl rfl ?_
          refine wp_goto 99 dX10_bestLie_156 rfl ?_
          refine wp_pick [0, 1, 2, 3, 4, 5, 6, 7, 8] (lv' := [(0, _), (1, _), (2, _), (3, _), (4, _), (6, _), (7, _), (8, _), (9, _)]) rfl ?_
          exact ih v1 v2 v3 v4 v6 v7 v8 (v9 + 1) r113.2 J r h
        · replace h := o_neg h c141
          refine wp_iload dX10_bestLie_144 9 rfl ?_
          refine wp_goto 151 dX10_bestLie_146 rfl ?_
          refine wp_istore (lv' := [(0, _), (1, _), (2, _), (3, _), (4, _), (6, _), (7, _), (8, _), (9, _), (10, _)]) dX10_bestLie_151 rfl rfl rfl ?_
          refine wp_iinc (v := v9 + 1) (lv' := [(0, _), (1, _), (2, _), (3, _), (4, _), (6, _), (7, _), (8, _), (9, _), (10, _)]) dX10_bestLie_153 8 rfl rfl rfl rfl rfl ?_
          refine wp_goto 99 dX10_bestLie_156 rfl ?_
          refine wp_pick [0, 1, 2, 3, 4, 5, 6, 7, 8] (lv' := [(0, _), (1, _), (2, _), (3, _), (4, _), (6, _), (7, _), (8, _), (9, _)]) rfl ?_
          exact ih v1 v2 v3 v4 v6 v7 (r113.1 - v6) (v9 + 1) r113.2 J r h
      · replace h := o_neg h c125
        refine wp_iload dX10_bestLie_128 8 rfl ?_
        refine wp_goto 135 dX10_bestLie_130 rfl ?_
        refine wp_istore (lv' := [(0, _), (1, _), (2, _), (3, _), (4, _), (6, _), (7, _), (8, _), (9, _), (10, _)]) dX10_bestLie_135 rfl rfl rfl ?_
        refine wp_iload dX10_bestLie_137 9 rfl ?_
        refine wp_iload dX10_bestLie_139 7 rfl ?_
        refine wp_icmp_le 149 dX10_bestLie_141 rfl (fun c141 => ?_) (fun c141 => ?_)
        · replace h := o_pos h c141
          refine wp_iload dX10_bestLie_149 7 rfl ?_
          refine wp_istore (lv' := [(0, _), (1, _), (2, _), (3, _), (4, _), (6, _), (7, _), (8, _), (9, _), (10, _)]) dX10_bestLie_151 rfl rfl rfl ?_
          refine wp_iinc (v := v9 + 1) (lv' := [(0, _), (1, _), (2, _), (3, _), (4, _), (6, _), (7, _), (8, _), (9, _), (10, _)]) dX10_bestLie_153 8 rfl rfl rfl rfl rfl ?_
          refine wp_goto 99 dX10_bestLie_156 rfl ?_
          refine wp_pick [0, 1, 2, 3, 4, 5, 6, 7, 8] (lv' := [(0, _), (1, _), (2, _), (3, _), (4, _), (6, _), (7, _), (8, _), (9, _)]) rfl ?_
          exact ih v1 v2 v3 v4 v6 v9 v8 (v9 + 1) r113.2 J r h
        · replace h := o_neg h c141
          refine wp_iload dX10_bestLie_144 9 rfl ?_
          refine wp_goto 151 dX10_bestLie_146 rfl ?_
          refine wp_istore (lv' := [(0, _), (1, _), (2, _), (3, _), (4, _), (6, _), (7, _), (8, _), (9, _), (10, _)]) dX10_bestLie_151 rfl rfl rfl ?_
          refine wp_iinc (v := v9 + 1) (lv' := [(0, _), (1, _), (2, _), (3, _), (4, _), (6, _), (7, _), (8, _), (9, _), (10, _)]) dX10_bestLie_153 8 rfl rfl rfl rfl rfl ?_
          refine wp_goto 99 dX10_bestLie_156 rfl ?_
          refine wp_pick [0, 1, 2, 3, 4, 5, 6, 7, 8] (lv' := [(0, _), (1, _), (2, _), (3, _), (4, _), (6, _), (7, _), (8, _), (9, _)]) rfl ?_
          exact ih v1 v2 v3 v4 v6 v9 (r113.1 - v6) (v9 + 1) r113.2 J r h
set_option maxRecDepth 100000 in
set_option maxHeartbeats 4000000 in
theorem c_X10_bestLie (Γ : GT) (ad : Nat → Nat) (a1 : Int32) (a2 : Int32) (a3 : Int32) (a4 : Int32) (I : IT) (J : JT) (r : Int32 × IT) (h : f_X10_bestLie a1 a2 a3 a4 I = some r) : CALL Γ mX10_bestLie (0, 0) [.ref (ad 55), .int a1, .int a2, .int a3, .int a4] (DX ad) I J (QE (some (.int r.1)) (DX ad) r.2 J) := by
  refine call_of' (by decide) (Nat.le_of_ble_eq_true rfl) (lv0 := [(0, .ref (ad 55)), (1, .int a1), (2, .int a2), (3, .int a3), (4, .int a4)]) rfl ?_
  unfold f_X10_bestLie at h
  refine wp_aload_n dX10_bestLie_0 0 rfl ?_
  refine wp_iload_n dX10_bestLie_1 2 rfl ?_
  refine wp_iload_n dX10_bestLie_2 3 rfl ?_
  obtain ⟨r3, h3, h⟩ := o_bind h
  refine wp_callvI (k := 55) (ci := 10) (c_X10_isAbout Γ ad a2 a3 I J r3 h3) dX10_bestLie_3 mlX10_274 mwX10_isAbout miX10_isAbout rfl rfl rfl rfl (Nat.le_of_ble_eq_true rfl) rfl (by decide) (by decide) ?_
  refine wp_if_ne 13 dX10_bestLie_6 rfl (fun c6 => ?_) (fun c6 => ?_)
  · replace h := o_neg h c6
    refine wp_iload_n dX10_bestLie_13 1 rfl ?_
    obtain ⟨r14, h14, h⟩ := o_bind h
    refine wp_callsI (c_X10_isRule Γ ad a1 I J r14 h14) dX10_bestLie_14 mlX10_365 mwX10_isRule miX10_isRule rfl (Nat.le_of_ble_eq_true rfl) rfl (by decide) (by decide) ?_
    refine wp_if_eq 31 dX10_bestLie_17 rfl (fun c17 => ?_) (fun c17 => ?_)
    · replace h := o_pos h c17
      refine wp_ldc (v := (-1000002)) dX10_bestLie_31 kcX10_143 ?_
      obtain rfl := Option.some.inj h
      exact wp_ireturn (ty := .int) dX10_bestLie_33 rfl rfl ⟨rfl, rfl, rfl, rfl⟩
    · replace h := o_neg h c17
      refine wp_iload dX10_bestLie_20 4 rfl ?_
      refine wp_i2l dX10_bestLie_22 ?_
      refine wp_lconst (v := 0) dX10_bestLie_23 (by decide) ?_
      refine wp_lconst (v := 1) dX10_bestLie_24 (by decide) ?_
      obtain ⟨r25, h25, h⟩ := o_bind h
      refine wp_callsI (c_X10_in Γ ad a4.toInt64 0 1 I J r25 h25) dX10_bestLie_25 mlX10_134 mwX10_in miX10_in rfl (Nat.le_of_ble_eq_true rfl) rfl (by decide) (by decide) ?_
      refine wp_if_ne 34 dX10_bestLie_28 rfl (fun c28 => ?_) (fun c28 => ?_)
      · replace h := o_neg h c28
        refine wp_aload_n dX10_bestLie_34 0 rfl ?_
        refine wp_iload_n dX10_bestLie_35 2 rfl ?_
        obtain ⟨r36, h36, h⟩ := o_bind h
        refine wp_callvI (k := 55) (ci := 10) (c_X10_sortOf Γ ad a2 I J r36 h36) dX10_bestLie_36 mlX10_245 mwX10_sortOf miX10_sortOf rfl rfl rfl rfl (Nat.le_of_ble_eq_true rfl) rfl (by decide) (by decide) ?_
        refine wp_if_ne 51 dX10_bestLie_39 rfl (fun c39 => ?_) (fun c39 => ?_)
        · replace h := o_neg h c39
          refine wp_aload_n dX10_bestLie_51 0 rfl ?_
          refine wp_getR (k := 55) (a' := ad 58) dX10_bestLie_52 flX10_16 rfl rfl rfl rfl rfl ?_
          refine wp_bipush (v := 6) dX10_bestLie_55 (by decide) ?_
          refine wp_iload_n dX10_bestLie_57 2 rfl ?_
          refine wp_aload_n dX10_bestLie_58 0 rfl ?_
          refine wp_getI (k := 55) dX10_bestLie_59 flX10_121 rfl rfl rfl rfl ?_
          refine wp_isub dX10_bestLie_62 ?_
          refine wp_imul dX10_bestLie_63 ?_
          refine wp_iload_n dX10_bestLie_64 3 rfl ?_
          refine wp_iadd dX10_bestLie_65 ?_
          obtain ⟨g66, h⟩ := o_grd h
          refine wp_iald (k := 58) dX10_bestLie_66 rfl rfl (inb_of g66) ?_
          refine wp_istore (lv' := [(0, _), (1, _), (2, _), (3, _), (4, _), (5, _)]) dX10_bestLie_67 rfl rfl rfl ?_
          refine wp_aload_n dX10_bestLie_69 0 rfl ?_
          refine wp_iload_n dX10_bestLie_70 1 rfl ?_
          refine wp_iload_n dX10_bestLie_71 2 rfl ?_
          refine wp_iload_n dX10_bestLie_72 3 rfl ?_
          refine wp_iload dX10_bestLie_73 5 rfl ?_
          obtain ⟨r75, h75, h⟩ := o_bind h
          refine wp_callvI (k := 55) (ci := 10) (c_X10_gainBy Γ ad a1 a2 a3 (I 58 ((6 * (a2 - (I 55 0))) + a3).toNatClampNeg) I J r75 h75) dX10_bestLie_75 mlX10_361 mwX10_gainBy miX10_gainBy rfl rfl rfl rfl (Nat.le_of_ble_eq_true rfl) rfl (by decide) (by decide) ?_
          refine wp_istore (lv' := [(0, _), (1, _), (2, _), (3, _), (4, _), (5, _), (6, _)]) dX10_bestLie_78 rfl rfl rfl ?_
          refine wp_iconst (v := 0) dX10_bestLie_80 (by decide) ?_
          refine wp_istore (lv' := [(0, _), (1, _), (2, _), (3, _), (4, _), (5, _), (6, _), (7, _)]) dX10_bestLie_81 rfl rfl rfl ?_
          refine wp_aload_n dX10_bestLie_83 0 rfl ?_
          refine wp_iload_n dX10_bestLie_84 1 rfl ?_
          refine wp_iload_n dX10_bestLie_85 2 rfl ?_
          refine wp_iload_n dX10_bestLie_86 3 rfl ?_
          refine wp_iconst (v := 0) dX10_bestLie_87 (by decide) ?_
          obtain ⟨r88, h88, h⟩ := o_bind h
          refine wp_callvI (k := 55) (ci := 10) (c_X10_gainBy Γ ad a1 a2 a3 0 r75.2 J r88 h88) dX10_bestLie_88 mlX10_361 mwX10_gainBy miX10_gainBy rfl rfl rfl rfl (Nat.le_of_ble_eq_true rfl) rfl (by decide) (by decide) ?_
          refine wp_iload dX10_bestLie_91 6 rfl ?_
          refine wp_isub dX10_bestLie_93 ?_
          refine wp_istore (lv' := [(0, _), (1, _), (2, _), (3, _), (4, _), (5, _), (6, _), (7, _), (8, _)]) dX10_bestLie_94 rfl rfl rfl ?_
          refine wp_iconst (v := 1) dX10_bestLie_96 (by decide) ?_
          refine wp_istore (lv' := [(0, _), (1, _), (2, _), (3, _), (4, _), (5, _), (6, _), (7, _), (8, _), (9, _)]) dX10_bestLie_97 rfl rfl rfl ?_
          refine wp_pick [0, 1, 2, 3, 4, 6, 7, 8, 9] (lv' := [(0, _), (1, _), (2, _), (3, _), (4, _), (6, _), (7, _), (8, _), (9, _)]) rfl ?_
          exact w_X10_bestLie_99 Γ ad FU a1 a2 a3 a4 r75.1 0 (r88.1 - r75.1) 1 r88.2 J r h
        · replace h := o_pos h c39
          refine wp_aload_n dX10_bestLie_42 0 rfl ?_
          refine wp_getR (k := 55) (a' := ad 56) dX10_bestLie_43 flX10_7 rfl rfl rfl rfl rfl ?_
          refine wp_iload_n dX10_bestLie_46 3 rfl ?_
          obtain ⟨g47, h⟩ := o_grd h
          refine wp_iald (k := 56) dX10_bestLie_47 rfl rfl (inb_of g47) ?_
          refine wp_goto 67 dX10_bestLie_48 rfl ?_
          refine wp_istore (lv' := [(0, _), (1, _), (2, _), (3, _), (4, _), (5, _)]) dX10_bestLie_67 rfl rfl rfl ?_
          refine wp_aload_n dX10_bestLie_69 0 rfl ?_
          refine wp_iload_n dX10_bestLie_70 1 rfl ?_
          refine wp_iload_n dX10_bestLie_71 2 rfl ?_
          refine wp_iload_n dX10_bestLie_72 3 rfl ?_
          refine wp_iload dX10_bestLie_73 5 rfl ?_
          obtain ⟨r75, h75, h⟩ := o_bind h
          refine wp_callvI (k := 55) (ci := 10) (c_X10_gainBy Γ ad a1 a2 a3 (I 56 a3.toNatClampNeg) I J r75 h75) dX10_bestLie_75 mlX10_361 mwX10_gainBy miX10_gainBy rfl rfl rfl rfl (Nat.le_of_ble_eq_true rfl) rfl (by decide) (by decide) ?_
          refine wp_istore (lv' := [(0, _), (1, _), (2, _), (3, _), (4, _), (5, _), (6, _)]) dX10_bestLie_78 rfl rfl rfl ?_
          refine wp_iconst (v := 0) dX10_bestLie_80 (by decide) ?_
          refine wp_istore (lv' := [(0, _), (1, _), (2, _), (3, _), (4, _), (5, _), (6, _), (7, _)]) dX10_bestLie_81 rfl rfl rfl ?_
          refine wp_aload_n dX10_bestLie_83 0 rfl ?_
          refine wp_iload_n dX10_bestLie_84 1 rfl ?_
          refine wp_iload_n dX10_bestLie_85 2 rfl ?_
          refine wp_iload_n dX10_bestLie_86 3 rfl ?_
          refine wp_iconst (v := 0) dX10_bestLie_87 (by decide) ?_
          obtain ⟨r88, h88, h⟩ := o_bind h
          refine wp_callvI (k := 55) (ci := 10) (c_X10_gainBy Γ ad a1 a2 a3 0 r75.2 J r88 h88) dX10_bestLie_88 mlX10_361 mwX10_gainBy miX10_gainBy rfl rfl rfl rfl (Nat.le_of_ble_eq_true rfl) rfl (by decide) (by decide) ?_
          refine wp_iload dX10_bestLie_91 6 rfl ?_
          refine wp_isub dX10_bestLie_93 ?_
          refine wp_istore (lv' := [(0, _), (1, _), (2, _), (3, _), (4, _), (5, _), (6, _), (7, _), (8, _)]) dX10_bestLie_94 rfl rfl rfl ?_
          refine wp_iconst (v := 1) dX10_bestLie_96 (by decide) ?_
          refine wp_istore (lv' := [(0, _), (1, _), (2, _), (3, _), (4, _), (5, _), (6, _), (7, _), (8, _), (9, _)]) dX10_bestLie_97 rfl rfl rfl ?_
          refine wp_pick [0, 1, 2, 3, 4, 6, 7, 8, 9] (lv' := [(0, _), (1, _), (2, _), (3, _), (4, _), (6, _), (7, _), (8, _), (9, _)]) rfl ?_
          exact w_X10_bestLie_99 Γ ad FU a1 a2 a3 a4 r75.1 0 (r88.1 - r75.1) 1 r88.2 J r h
      · replace h := o_pos h c28
        refine wp_ldc (v := (-1000002)) dX10_bestLie_31 kcX10_143 ?_
        obtain rfl := Option.some.inj h
        exact wp_ireturn (ty := .int) dX10_bestLie_33 rfl rfl ⟨rfl, rfl, rfl, rfl⟩
  · replace h := o_pos h c6
    refine wp_ldcw (v := (-1000001)) dX10_bestLie_9 kcX10_264 ?_
    obtain rfl := Option.some.inj h
    exact wp_ireturn (ty := .int) dX10_bestLie_12 rfl rfl ⟨rfl, rfl, rfl, rfl⟩
def f_X10_seen (a1 : Int32) (a2 : Int32) (a3 : Int32) (a4 : Int32) (I : IT) : Option (Int32 × IT) :=
  (f_X10_isLot a1 I).bind fun r2 =>
  if r2 = 0 then
    some ((-1000001), I)
  else
    (f_X10_in a2.toInt64 0 60).bind fun r18 =>
    if r18 = 0 then
      some ((-1000002), I)
    else
      (f_X10_in a3.toInt64 0 9).bind fun r30 =>
      if r30 = 0 then
        some ((-1000002), I)
      else
        if (I 55 40) = (10 : Int32) then
          some ((-1000004), I)
        else
          if inbB (I 55 40) 10 = true then
            if inbB ((upI I 76 ((I 55 40).toNatClampNeg) a1) 55 40) 10 = true then
              if inbB ((upI (upI I 76 ((I 55 40).toNatClampNeg) a1) 77 (((upI I 76 ((I 55 40).toNatClampNeg) a1) 55 40).toNatClampNeg) a2) 55 40) 10 = true then
                (some (upI (upI (upI I 76 ((I 55 40).toNatClampNeg) a1) 77 (((upI I 76 ((I 55 40).toNatClampNeg) a1) 55 40).toNatClampNeg) a2) 78 (((upI (upI I 76 ((I 55 40).toNatClampNeg) a1) 77 (((upI I 76 ((I 55 40).toNatClampNeg) a1) 55 40).toNatClampNeg) a2) 55 40).toNatClampNeg) a3)).bind fun i80 =>
                if inbB (i80 55 40) 10 = true then
                  some ((upI (upI i80 79 ((i80 55 40).toNatClampNeg) (vp_nar .boolean a4)) 55 40 (((upI i80 79 ((i80 55 40).toNatClampNeg) (vp_nar .boolean a4)) 55 40) + 1)) 55 40, upI (upI i80 79 ((i80 55 40).toNatClampNeg) (vp_nar .boolean a4)) 55 40 (((upI i80 79 ((i80 55 40).toNatClampNeg) (vp_nar .boolean a4)) 55 40) + 1))
                else none
              else none
            else none
          else none
set_option maxRecDepth 100000 in
set_option maxHeartbeats 4000000 in
theorem c_X10_seen (Γ : GT) (ad : Nat → Nat) (a1 : Int32) (a2 : Int32) (a3 : Int32) (a4 : Int32) (I : IT) (J : JT) (r : Int32 × IT) (h : f_X10_seen a1 a2 a3 a4 I = some r) : CALL Γ mX10_seen (0, 0) [.ref (ad 55), .int a1, .int a2, .int a3, .int a4] (DX ad) I J (QE (some (.int r.1)) (DX ad) r.2 J) := by
  refine call_of' (by decide) (Nat.le_of_ble_eq_true rfl) (lv0 := [(0, .ref (ad 55)), (1, .int a1), (2, .int a2), (3, .int a3), (4, .int a4)]) rfl ?_
  unfold f_X10_seen at h
  refine wp_aload_n dX10_seen_0 0 rfl ?_
  refine wp_iload_n dX10_seen_1 1 rfl ?_
  obtain ⟨r2, h2, h⟩ := o_bind h
  refine wp_callvI (k := 55) (ci := 10) (c_X10_isLot Γ ad a1 I J r2 h2) dX10_seen_2 mlX10_271 mwX10_isLot miX10_isLot rfl rfl rfl rfl (Nat.le_of_ble_eq_true rfl) rfl (by decide) (by decide) ?_
  refine wp_if_ne 12 dX10_seen_5 rfl (fun c5 => ?_) (fun c5 => ?_)
  · replace h := o_neg h c5
    refine wp_iload_n dX10_seen_12 2 rfl ?_
    refine wp_i2l dX10_seen_13 ?_
    refine wp_lconst (v := 0) dX10_seen_14 (by decide) ?_
    refine wp_ldc2 (v := 60) dX10_seen_15 klX10_326 ?_
    obtain ⟨r18, h18, h⟩ := o_bind h
    refine wp_callsI (c_X10_in Γ ad a2.toInt64 0 60 I J r18 h18) dX10_seen_18 mlX10_134 mwX10_in miX10_in rfl (Nat.le_of_ble_eq_true rfl) rfl (by decide) (by decide) ?_
    refine wp_if_eq 36 dX10_seen_21 rfl (fun c21 => ?_) (fun c21 => ?_)
    · replace h := o_pos h c21
      refine wp_ldc (v := (-1000002)) dX10_seen_36 kcX10_143 ?_
      obtain rfl := Option.some.inj h
      exact wp_ireturn (ty := .int) dX10_seen_38 rfl rfl ⟨rfl, rfl, rfl, rfl⟩
    · replace h := o_neg h c21
      refine wp_iload_n dX10_seen_24 3 rfl ?_
      refine wp_i2l dX10_seen_25 ?_
      refine wp_lconst (v := 0) dX10_seen_26 (by decide) ?_
      refine wp_ldc2 (v := 9) dX10_seen_27 klX10_371 ?_
      obtain ⟨r30, h30, h⟩ := o_bind h
      refine wp_callsI (c_X10_in Γ ad a3.toInt64 0 9 I J r30 h30) dX10_seen_30 mlX10_134 mwX10_in miX10_in rfl (Nat.le_of_ble_eq_true rfl) rfl (by decide) (by decide) ?_
      refine wp_if_ne 39 dX10_seen_33 rfl (fun c33 => ?_) (fun c33 => ?_)
      · replace h := o_neg h c33
        refine wp_aload_n dX10_seen_39 0 rfl ?_
        refine wp_getI (k := 55) dX10_seen_40 flX10_249 rfl rfl rfl rfl ?_
        refine wp_bipush (v := 10) dX10_seen_43 (by decide) ?_
        refine wp_icmp_ne 51 dX10_seen_45 rfl (fun c45 => ?_) (fun c45 => ?_)
        · replace h := o_neg h c45
          refine wp_aload_n dX10_seen_51 0 rfl ?_
          refine wp_getR (k := 55) (a' := ad 76) dX10_seen_52 flX10_80 rfl rfl rfl rfl rfl ?_
          refine wp_aload_n dX10_seen_55 0 rfl ?_
          refine wp_getI (k := 55) dX10_seen_56 flX10_249 rfl rfl rfl rfl ?_
          refine wp_iload_n dX10_seen_59 1 rfl ?_
          obtain ⟨g60, h⟩ := o_grd h
          refine wp_iast (k := 76) dX10_seen_60 rfl rfl (inb_of g60) ?_
          refine wp_aload_n dX10_seen_61 0 rfl ?_
          refine wp_getR (k := 55) (a' := ad 77) dX10_seen_62 flX10_83 rfl rfl rfl rfl rfl ?_
          refine wp_aload_n dX10_seen_65 0 rfl ?_
          refine wp_getI (k := 55) dX10_seen_66 flX10_249 rfl rfl rfl rfl ?_
          refine wp_iload_n dX10_seen_69 2 rfl ?_
          obtain ⟨g70, h⟩ := o_grd h
          refine wp_iast (k := 77) dX10_seen_70 rfl rfl (inb_of g70) ?_
          refine wp_aload_n dX10_seen_71 0 rfl ?_
          refine wp_getR (k := 55) (a' := ad 78) dX10_seen_72 flX10_86 rfl rfl rfl rfl rfl ?_
          refine wp_aload_n dX10_seen_75 0 rfl ?_
          refine wp_getI (k := 55) dX10_seen_76 flX10_249 rfl rfl rfl rfl ?_
          refine wp_iload_n dX10_seen_79 3 rfl ?_
          obtain ⟨g80, h⟩ := o_grd h
          obtain ⟨i80, e80, h⟩ := o_bind h
          refine wp_iast (k := 78) dX10_seen_80 rfl rfl (inb_of g80) ?_
          refine wp_stI (Option.some.inj e80) ?_
          refine wp_aload_n dX10_seen_81 0 rfl ?_
          refine wp_getR (k := 55) (a' := ad 79) dX10_seen_82 flX10_89 rfl rfl rfl rfl rfl ?_
          refine wp_aload_n dX10_seen_85 0 rfl ?_
          refine wp_getI (k := 55) dX10_seen_86 flX10_249 rfl rfl rfl rfl ?_
          refine wp_iload dX10_seen_89 4 rfl ?_
          obtain ⟨g91, h⟩ := o_grd h
          refine wp_zast (k := 79) dX10_seen_91 rfl rfl (inb_of g91) ?_
          refine wp_aload_n dX10_seen_92 0 rfl ?_
          refine wp_dup dX10_seen_93 rfl ?_
          refine wp_getI (k := 55) dX10_seen_94 flX10_249 rfl rfl rfl rfl ?_
          refine wp_iconst (v := 1) dX10_seen_97 (by decide) ?_
          refine wp_iadd dX10_seen_98 ?_
          refine wp_putI (k := 55) dX10_seen_99 flX10_249 rfl rfl rfl rfl rfl rfl rfl rfl ?_
          refine wp_aload_n dX10_seen_102 0 rfl ?_
          refine wp_getI (k := 55) dX10_seen_103 flX10_249 rfl rfl rfl rfl ?_
          obtain rfl := Option.some.inj h
          exact wp_ireturn (ty := .int) dX10_seen_106 rfl rfl ⟨rfl, rfl, rfl, rfl⟩
        · replace h := o_pos h c45
          refine wp_ldc (v := (-1000004)) dX10_seen_48 kcX10_147 ?_
          obtain rfl := Option.some.inj h
          exact wp_ireturn (ty := .int) dX10_seen_50 rfl rfl ⟨rfl, rfl, rfl, rfl⟩
      · replace h := o_pos h c33
        refine wp_ldc (v := (-1000002)) dX10_seen_36 kcX10_143 ?_
        obtain rfl := Option.some.inj h
        exact wp_ireturn (ty := .int) dX10_seen_38 rfl rfl ⟨rfl, rfl, rfl, rfl⟩
  · replace h := o_pos h c5
    refine wp_ldcw (v := (-1000001)) dX10_seen_8 kcX10_264 ?_
    obtain rfl := Option.some.inj h
    exact wp_ireturn (ty := .int) dX10_seen_11 rfl rfl ⟨rfl, rfl, rfl, rfl⟩
def f_X10_forget (I : IT) : Option (Int32 × IT) :=
  some (I 55 40, upI I 55 40 0)
set_option maxRecDepth 100000 in
set_option maxHeartbeats 4000000 in
theorem c_X10_forget (Γ : GT) (ad : Nat → Nat) (I : IT) (J : JT) (r : Int32 × IT) (h : f_X10_forget I = some r) : CALL Γ mX10_forget (0, 0) [.ref (ad 55)] (DX ad) I J (QE (some (.int r.1)) (DX ad) r.2 J) := by
  refine call_of' (by decide) (Nat.le_of_ble_eq_true rfl) (lv0 := [(0, .ref (ad 55))]) rfl ?_
  unfold f_X10_forget at h
  refine wp_aload_n dX10_forget_0 0 rfl ?_
  refine wp_getI (k := 55) dX10_forget_1 flX10_249 rfl rfl rfl rfl ?_
  refine wp_istore_n (lv' := [(0, _), (1, _)]) dX10_forget_4 rfl rfl rfl rfl ?_
  refine wp_aload_n dX10_forget_5 0 rfl ?_
  refine wp_iconst (v := 0) dX10_forget_6 (by decide) ?_
  refine wp_putI (k := 55) dX10_forget_7 flX10_249 rfl rfl rfl rfl rfl rfl rfl rfl ?_
  refine wp_iload_n dX10_forget_10 1 rfl ?_
  obtain rfl := Option.some.inj h
  exact wp_ireturn (ty := .int) dX10_forget_11 rfl rfl ⟨rfl, rfl, rfl, rfl⟩
