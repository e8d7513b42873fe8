/-! lifted: X10_into_70 X10_takeBuyer X10_into_71 X10_takeBroker -/
def f_X10_into_70 (a2 : Int32) (a3 : Int32) (a4 : Int32) (I : IT) : Option (Int32 × IT) :=
  (f_X10_takeNumber a3 a4 I).bind fun r4 =>
  if inbB a2 36 = true then
    some (r4.1, upI r4.2 70 a2.toNatClampNeg (r4.2 55 24))
  else none
set_option maxRecDepth 100000 in
set_option maxHeartbeats 4000000 in
theorem c_X10_into_70 (Γ : GT) (ad : Nat → Nat) (a2 : Int32) (a3 : Int32) (a4 : Int32) (I : IT) (J : JT) (r : Int32 × IT) (h : f_X10_into_70 a2 a3 a4 I = some r) : CALL Γ mX10_into (0, 0) [.ref (ad 55), .ref (ad 70), .int a2, .int a3, .int a4] (DX ad) I J (QE (some (.int r.1)) (DX ad) r.2 J) := by
  refine call_of' (by decide) (Nat.le_of_ble_eq_true rfl) (lv0 := [(0, .ref (ad 55)), (1, .ref (ad 70)), (2, .int a2), (3, .int a3), (4, .int a4)]) rfl ?_
  unfold f_X10_into_70 at h
  refine wp_aload_n dX10_into_0 0 rfl ?_
  refine wp_iload_n dX10_into_1 3 rfl ?_
  refine wp_iload dX10_into_2 4 rfl ?_
  obtain ⟨r4, h4, h⟩ := o_bind h
  refine wp_callvI (k := 55) (ci := 10) (c_X10_takeNumber Γ ad a3 a4 I J r4 h4) dX10_into_4 mlX10_190 mwX10_takeNumber miX10_takeNumber rfl rfl rfl rfl (Nat.le_of_ble_eq_true rfl) rfl (by decide) (by decide) ?_
  refine wp_istore (lv' := [(0, _), (1, _), (2, _), (3, _), (4, _), (5, _)]) dX10_into_7 rfl rfl rfl ?_
  refine wp_aload_n dX10_into_9 1 rfl ?_
  refine wp_iload_n dX10_into_10 2 rfl ?_
  refine wp_aload_n dX10_into_11 0 rfl ?_
  refine wp_getI (k := 55) dX10_into_12 flX10_186 rfl rfl rfl rfl ?_
  obtain ⟨g15, h⟩ := o_grd h
  refine wp_iast (k := 70) dX10_into_15 rfl rfl (inb_of g15) ?_
  refine wp_iload dX10_into_16 5 rfl ?_
  obtain rfl := Option.some.inj h
  exact wp_ireturn (ty := .int) dX10_into_18 rfl rfl ⟨rfl, rfl, rfl, rfl⟩
def f_X10_takeBuyer_80 : Nat → Int32 → Int32 → Int32 → IT → Option (Int32 × IT)
  | 0, _, _, _, _ => none
  | n + 1, v1, v2, v3, I =>
    if (I 55 26) ≤ v3 then
      some (v2, I)
    else
      if v2 = 0 then
        if v3 ≤ 0 then
          if v3 ≤ 0 then
            (f_X10_into_70 ((6 * v1) + v3) 0 999 (upI I 55 21 ((I 55 21) + 0))).bind fun r148 =>
            f_X10_takeBuyer_80 n v1 r148.1 (v3 + 1) r148.2
          else
            (f_X10_into_70 ((6 * v1) + v3) 0 999 (upI I 55 21 ((I 55 21) + 1))).bind fun r148 =>
            f_X10_takeBuyer_80 n v1 r148.1 (v3 + 1) r148.2
        else
          (f_X10_here I).bind fun r97 =>
          if r97.1 = (44 : Int32) then
            if v3 ≤ 0 then
              (f_X10_into_70 ((6 * v1) + v3) 0 999 (upI r97.2 55 21 ((r97.2 55 21) + 0))).bind fun r148 =>
              f_X10_takeBuyer_80 n v1 r148.1 (v3 + 1) r148.2
            else
              (f_X10_into_70 ((6 * v1) + v3) 0 999 (upI r97.2 55 21 ((r97.2 55 21) + 1))).bind fun r148 =>
              f_X10_takeBuyer_80 n v1 r148.1 (v3 + 1) r148.2
          else
            (f_X10_fails 1 (r97.2 55 21) r97.2).bind fun r111 =>
            some (r111.1, r111.2)
      else
        some (v2, I)
def f_X10_takeBuyer (I : IT) : Option (Int32 × IT) :=
  (f_X10_into_72 (6 + (I 55 27)) 1 2 (upI I 55 27 ((I 55 27) + 1))).bind fun r26 =>
  if r26.1 ≤ 0 then
    (f_X10_into_69 (I 55 27) 0 9999 r26.2).bind fun r48 =>
    if r48.1 = 0 then
      if (r48.2 55 26) = 0 then
        (f_X10_here r48.2).bind fun r64 =>
        (f_X10_fails 1 (r64.2 55 21) r64.2).bind fun r74 =>
        some (r74.1, r74.2)
      else
        f_X10_takeBuyer_80 FU (I 55 27) r48.1 0 r48.2
    else
      f_X10_takeBuyer_80 FU (I 55 27) r48.1 0 r48.2
  else
    if r26.1 = 0 then
      if (r26.2 55 26) = 0 then
        (f_X10_here r26.2).bind fun r64 =>
        (f_X10_fails 1 (r64.2 55 21) r64.2).bind fun r74 =>
        some (r74.1, r74.2)
      else
        f_X10_takeBuyer_80 FU (I 55 27) r26.1 0 r26.2
    else
      f_X10_takeBuyer_80 FU (I 55 27) r26.1 0 r26.2
set_option maxRecDepth 100000 in
set_option maxHeartbeats 4000000 in
theorem w_X10_takeBuyer_80 (Γ : GT) (ad : Nat → Nat) : ∀ (n : Nat) (v1 : Int32) (v2 : Int32) (v3 : Int32) (I : IT) (J : JT) (r : Int32 × IT), f_X10_takeBuyer_80 n v1 v2 v3 I = some r → WP Γ mX10_takeBuyer (0, 0) 80 [(0, .ref (ad 55)), (1, .int v1), (2, .int v2), (3, .int v3)] [] (DX ad) I J (QE (some (.int r.1)) (DX ad) r.2 J) := by
  intro n
  induction n with
  | zero => intro v1 v2 v3 I J r h; exact absurd h (by simp [f_X10_takeBuyer_80])
  | succ n ih =>
    intro v1 v2 v3 I J r h
    rw [f_X10_takeBuyer_80] at h
    refine wp_iload_n dX10_takeBuyer_80 3 rfl ?_
    refine wp_aload_n dX10_takeBuyer_81 0 rfl ?_
    refine wp_getI (k := 55) dX10_takeBuyer_82 flX10_193 rfl rfl rfl rfl ?_
    refine wp_icmp_ge 158 dX10_takeBuyer_85 rfl (fun c85 => ?_) (fun c85 => ?_)
    · replace h := o_pos h c85
      refine wp_iload_n dX10_takeBuyer_158 2 rfl ?_
      obtain rfl := Option.some.inj h
      exact wp_ireturn (ty := .int) dX10_takeBuyer_159 rfl rfl ⟨rfl, rfl, rfl, rfl⟩
    · replace h := o_neg h c85
      refine wp_iload_n dX10_takeBuyer_88 2 rfl ?_
      refine wp_if_ne 158 dX10_takeBuyer_89 rfl (fun c89 => ?_) (fun c89 => ?_)
      · replace h := o_neg h c89
        refine wp_iload_n dX10_takeBuyer_158 2 rfl ?_
        obtain rfl := Option.some.inj h
        exact wp_ireturn (ty := .int) dX10_takeBuyer_159 rfl rfl ⟨rfl, rfl, rfl, rfl⟩
      · replace h := o_pos h c89
        refine wp_iload_n dX10_takeBuyer_92 3 rfl ?_
        refine wp_if_le 115 dX10_takeBuyer_93 rfl (fun c93 => ?_) (fun c93 => ?_)
        · replace h := o_pos h c93
          refine wp_aload_n dX10_takeBuyer_115 0 rfl ?_
          refine wp_dup dX10_takeBuyer_116 rfl ?_
          refine wp_getI (k := 55) dX10_takeBuyer_117 flX10_150 rfl rfl rfl rfl ?_
          refine wp_iload_n dX10_takeBuyer_120 3 rfl ?_
          refine wp_if_le 128 dX10_takeBuyer_121 rfl (fun c121 => ?_) (fun c121 => ?_)
          · replace h := o_pos h c121
            refine wp_iconst (v := 0) dX10_takeBuyer_128 (by decide) ?_
            refine wp_iadd dX10_takeBuyer_129 ?_
            refine wp_putI (k := 55) dX10_takeBuyer_130 flX10_150 rfl rfl rfl rfl rfl rfl rfl rfl ?_
            refine wp_aload_n dX10_takeBuyer_133 0 rfl ?_
            refine wp_aload_n dX10_takeBuyer_134 0 rfl ?_
            refine wp_getR (k := 55) (a' := ad 70) dX10_takeBuyer_135 flX10_62 rfl rfl rfl rfl rfl ?_
            refine wp_bipush (v := 6) dX10_takeBuyer_138 (by decide) ?_
            refine wp_iload_n dX10_takeBuyer_140 1 rfl ?_
            refine wp_imul dX10_takeBuyer_141 ?_
            refine wp_iload_n dX10_takeBuyer_142 3 rfl ?_
            refine wp_iadd dX10_takeBuyer_143 ?_
            refine wp_iconst (v := 0) dX10_takeBuyer_144 (by decide) ?_
            refine wp_sipush (v := 999) dX10_takeBuyer_145 (by decide) ?_
            obtain ⟨r148, h148, h⟩ := o_bind h
            refine wp_callvI (k := 55) (ci := 10) (c_X10_into_70 Γ ad ((6 * v1) + v3) 0 999 (upI I 55 21 ((I 55 21) + 0)) J r148 h148) dX10_takeBuyer_148 mlX10_196 mwX10_into miX10_into rfl rfl rfl rfl (Nat.le_of_ble_eq_true rfl) rfl (by decide) (by decide) ?_
            refine wp_istore_n (lv' := [(0, _), (1, _), (2, _), (3, _)]) dX10_takeBuyer_151 rfl rfl rfl rfl ?_
            refine wp_iinc (v := v3 + 1) (lv' := [(0, _), (1, _), (2, _), (3, _)]) dX10_takeBuyer_152 3 rfl rfl rfl rfl rfl ?_
            refine wp_goto 80 dX10_takeBuyer_155 rfl ?_
            refine wp_pick [0, 1, 2, 3] (lv' := [(0, _), (1, _), (2, _), (3, _)]) rfl ?_
            exact ih v1 r148.1 (v3 + 1) r148.2 J r h
          · replace h := o_neg h c121
            refine wp_iconst (v := 1) dX10_takeBuyer_124 (by decide) ?_
            refine wp_goto 129 dX10_takeBuyer_125 rfl ?_
            refine wp_iadd dX10_takeBuyer_129 ?_
            refine wp_putI (k := 55) dX10_takeBuyer_130 flX10_150 rfl rfl rfl rfl rfl rfl rfl rfl ?_
            refine wp_aload_n dX10_takeBuyer_133 0 rfl ?_
            refine wp_aload_n dX10_takeBuyer_134 0 rfl ?_
            refine wp_getR (k := 55) (a' := ad 70) dX10_takeBuyer_135 flX10_62 rfl rfl rfl rfl rfl ?_
            refine wp_bipush (v := 6) dX10_takeBuyer_138 (by decide) ?_
            refine wp_iload_n dX10_takeBuyer_140 1 rfl ?_
            refine wp_imul dX10_takeBuyer_141 ?_
            refine wp_iload_n dX10_takeBuyer_142 3 rfl ?_
            refine wp_iadd dX10_takeBuyer_143 ?_
            refine wp_iconst (v := 0) dX10_takeBuyer_144 (by decide) ?_
            refine wp_sipush (v := 999) dX10_takeBuyer_145 (by decide) ?_
            obtain ⟨r148, h148, h⟩ := o_bind h
            refine wp_callvI (k := 55) (ci := 10) (c_X10_into_70 Γ ad ((6 * v1) + v3) 0 999 (upI I 55 21 ((I 55 21) + 1)) J r148 h148) dX10_takeBuyer_148 mlX10_196 mwX10_into miX10_into rfl rfl rfl rfl (Nat.le_of_ble_eq_true rfl) rfl (by decide) (by decide) ?_
            refine wp_istore_n (lv' := [(0, _), (1, _), (2, _), (3, _)]) dX10_takeBuyer_151 rfl rfl rfl rfl ?_
            refine wp_iinc (v := v3 + 1) (lv' := [(0, _), (1, _), (2, _), (3, _)]) dX10_takeBuyer_152 3 rfl rfl rfl rfl rfl ?_
            refine wp_goto 80 dX10_takeBuyer_155 rfl ?_
            refine wp_pick [0, 1, 2, 3] (lv' := [(0, _), (1, _), (2, _), (3, _)]) rfl ?_
            exact ih v1 r148.1 (v3 + 1) r148.2 J r h
        · replace h := o_neg h c93
          refine wp_aload_n dX10_takeBuyer_96 0 rfl ?_
          obtain ⟨r97, h97, h⟩ := o_bind h
          refine wp_callvI (k := 55) (ci := 10) (c_X10_here Γ ad I J r97 h97) dX10_takeBuyer_97 mlX10_153 mwX10_here miX10_here rfl rfl rfl rfl (Nat.le_of_ble_eq_true rfl) rfl (by decide) (by decide) ?_
          refine wp_bipush (v := 44) dX10_takeBuyer_100 (by decide) ?_
          refine wp_icmp_eq 115 dX10_takeBuyer_102 rfl (fun c102 => ?_) (fun c102 => ?_)
          · replace h := o_pos h c102
            refine wp_aload_n dX10_takeBuyer_115 0 rfl ?_
            refine wp_dup dX10_takeBuyer_116 rfl ?_
            refine wp_getI (k := 55) dX10_takeBuyer_117 flX10_150 rfl rfl rfl rfl ?_
            refine wp_iload_n dX10_takeBuyer_120 3 rfl ?_
            refine wp_if_le 128 dX10_takeBuyer_121 rfl (fun c121 => ?_) (fun c121 => ?_)
            · replace h := o_pos h c121
              refine wp_iconst (v := 0) dX10_takeBuyer_128 (by decide) ?_
              refine wp_iadd dX10_takeBuyer_129 ?_
              refine wp_putI (k := 55) dX10_takeBuyer_130 flX10_150 rfl rfl rfl rfl rfl rfl rfl rfl ?_
              refine wp_aload_n dX10_takeBuyer_133 0 rfl ?_
              refine wp_aload_n dX10_takeBuyer_134 0 rfl ?_
              refine wp_getR (k := 55) (a' := ad 70) dX10_takeBuyer_135 flX10_62 rfl rfl rfl rfl rfl ?_
              refine wp_bipush (v := 6) dX10_takeBuyer_138 (by decide) ?_
              refine wp_iload_n dX10_takeBuyer_140 1 rfl ?_
              refine wp_imul dX10_takeBuyer_141 ?_
              refine wp_iload_n dX10_takeBuyer_142 3 rfl ?_
              refine wp_iadd dX10_takeBuyer_143 ?_
              refine wp_iconst (v := 0) dX10_takeBuyer_144 (by decide) ?_
              refine wp_sipush (v := 999) dX10_takeBuyer_145 (by decide) ?_
              obtain ⟨r148, h148, h⟩ := o_bind h
              refine wp_callvI (k := 55) (ci := 10) (c_X10_into_70 Γ ad ((6 * v1) + v3) 0 999 (upI r97.2 55 21 ((r97.2 55 21) + 0)) J r148 h148) dX10_takeBuyer_148 mlX10_196 mwX10_into miX10_into rfl rfl rfl rfl (Nat.le_of_ble_eq_true rfl) rfl (by decide) (by decide) ?_
              refine wp_istore_n (lv' := [(0, _), (1, _), (2, _), (3, _)]) dX10_takeBuyer_151 rfl rfl rfl rfl ?_
              refine wp_iinc (v := v3 + 1) (lv' := [(0, _), (1, _), (2, _), (3, _)]) dX10_takeBuyer_152 3 rfl rfl rfl rfl rfl ?_
              refine wp_goto 80 dX10_takeBuyer_155 rfl ?_
              refine wp_pick [0, 1, 2, 3] (lv' := [(0, _), (1, _), (2, _), (3, _)]) rfl ?_
              exact ih v1 r148.1 (v3 + 1) r148.2 J r h
            · replace h := o_neg h c121
              refine wp_iconst (v := 1) dX10_takeBuyer_124 (by decide) ?_
              refine wp_goto 129 dX10_takeBuyer_125 rfl ?_
              refine wp_iadd dX10_takeBuyer_129 ?_
              refine wp_putI (k := 55) dX10_takeBuyer_130 flX10_150 rfl rfl rfl rfl rfl rfl rfl rfl ?_
              refine wp_aload_n dX10_takeBuyer_133 0 rfl ?_
              refine wp_aload_n dX10_takeBuyer_134 0 rfl ?_
              refine wp_getR (k := 55) (a' := ad 70) dX10_takeBuyer_135 flX10_62 rfl rfl rfl rfl rfl ?_
              refine wp_bipush (v := 6) dX10_takeBuyer_138 (by decide) ?_
              refine wp_iload_n dX10_takeBuyer_140 1 rfl ?_
              refine wp_imul dX10_takeBuyer_141 ?_
              refine wp_iload_n dX10_takeBuyer_142 3 rfl ?_
              refine wp_iadd dX10_takeBuyer_143 ?_
              refine wp_iconst (v := 0) dX10_takeBuyer_144 (by decide) ?_
              refine wp_sipush (v := 999) dX10_takeBuyer_145 (by decide) ?_
              obtain ⟨r148, h148, h⟩ := o_bind h
              refine wp_callvI (k := 55) (ci := 10) (c_X10_into_70 Γ ad ((6 * v1) + v3) 0 999 (upI r97.2 55 21 ((r97.2 55 21) + 1)) J r148 h148) dX10_takeBuyer_148 mlX10_196 mwX10_into miX10_into rfl rfl rfl rfl (Nat.le_of_ble_eq_true rfl) rfl (by decide) (by decide) ?_
              refine wp_istore_n (lv' := [(0, _), (1, _), (2, _), (3, _)]) dX10_takeBuyer_151 rfl rfl rfl rfl ?_
              refine wp_iinc (v := v3 + 1) (lv' := [(0, _), (1, _), (2, _), (3, _)]) dX10_takeBuyer_152 3 rfl rfl rfl rfl rfl ?_
              refine wp_goto 80 dX10_takeBuyer_155 rfl ?_
              refine wp_pick [0, 1, 2, 3] (lv' := [(0, _), (1, _), (2, _), (3, _)]) rfl ?_
              exact ih v1 r148.1 (v3 + 1) r148.2 J r h
          · replace h := o_neg h c102
            refine wp_aload_n dX10_takeBuyer_105 0 rfl ?_
            refine wp_iconst (v := 1) dX10_takeBuyer_106 (by decide) ?_
            refine wp_aload_n dX10_takeBuyer_107 0 rfl ?_
            refine wp_getI (k := 55) dX10_takeBuyer_108 flX10_150 rfl rfl rfl rfl ?_
            obtain ⟨r111, h111, h⟩ := o_bind h
            refine wp_callvI (k := 55) (ci := 10) (c_X10_fails Γ ad 1 (r97.2 55 21) r97.2 J r111 h111) dX10_takeBuyer_111 mlX10_179 mwX10_fails miX10_fails rfl rfl rfl rfl (Nat.le_of_ble_eq_true rfl) rfl (by decide) (by decide) ?_
            obtain rfl := Option.some.inj h
            exact wp_ireturn (ty := .int) dX10_takeBuyer_114 rfl rfl ⟨rfl, rfl, rfl, rfl⟩
set_option maxRecDepth 100000 in
set_option maxHeartbeats 4000000 in
theorem c_X10_takeBuyer (Γ : GT) (ad : Nat → Nat) (I : IT) (J : JT) (r : Int32 × IT) (h : f_X10_takeBuyer I = some r) : CALL Γ mX10_takeBuyer (0, 0) [.ref (ad 55)] (DX ad) I J (QE (some (.int r.1)) (DX ad) r.2 J) := by
  refine call_of' (by decide) (Nat.le_of_ble_eq_true rfl) (lv0 := [(0, .ref (ad 55))]) rfl ?_
  unfold f_X10_takeBuyer at h
  refine wp_aload_n dX10_takeBuyer_0 0 rfl ?_
  refine wp_getI (k := 55) dX10_takeBuyer_1 flX10_200 rfl rfl rfl rfl ?_
  refine wp_istore_n (lv' := [(0, _), (1, _)]) dX10_takeBuyer_4 rfl rfl rfl rfl ?_
  refine wp_aload_n dX10_takeBuyer_5 0 rfl ?_
  refine wp_dup dX10_takeBuyer_6 rfl ?_
  refine wp_getI (k := 55) dX10_takeBuyer_7 flX10_200 rfl rfl rfl rfl ?_
  refine wp_iconst (v := 1) dX10_takeBuyer_10 (by decide) ?_
  refine wp_iadd dX10_takeBuyer_11 ?_
  refine wp_putI (k := 55) dX10_takeBuyer_12 flX10_200 rfl rfl rfl rfl rfl rfl rfl rfl ?_
  refine wp_aload_n dX10_takeBuyer_15 0 rfl ?_
  refine wp_aload_n dX10_takeBuyer_16 0 rfl ?_
  refine wp_getR (k := 55) (a' := ad 72) dX10_takeBuyer_17 flX10_68 rfl rfl rfl rfl rfl ?_
  refine wp_bipush (v := 6) dX10_takeBuyer_20 (by decide) ?_
  refine wp_iload_n dX10_takeBuyer_22 1 rfl ?_
  refine wp_iadd dX10_takeBuyer_23 ?_
  refine wp_iconst (v := 1) dX10_takeBuyer_24 (by decide) ?_
  refine wp_iconst (v := 2) dX10_takeBuyer_25 (by decide) ?_
  obtain ⟨r26, h26, h⟩ := o_bind h
  refine wp_callvI (k := 55) (ci := 10) (c_X10_into_72 Γ ad (6 + (I 55 27)) 1 2 (upI I 55 27 ((I 55 27) + 1)) J r26 h26) dX10_takeBuyer_26 mlX10_196 mwX10_into miX10_into rfl rfl rfl rfl (Nat.le_of_ble_eq_true rfl) rfl (by decide) (by decide) ?_
  refine wp_istore_n (lv' := [(0, _), (1, _), (2, _)]) dX10_takeBuyer_29 rfl rfl rfl rfl ?_
  refine wp_iload_n dX10_takeBuyer_30 2 rfl ?_
  refine wp_if_le 38 dX10_takeBuyer_31 rfl (fun c31 => ?_) (fun c31 => ?_)
  · replace h := o_pos h c31
    refine wp_aload_n dX10_takeBuyer_38 0 rfl ?_
    refine wp_aload_n dX10_takeBuyer_39 0 rfl ?_
    refine wp_getR (k := 55) (a' := ad 69) dX10_takeBuyer_40 flX10_59 rfl rfl rfl rfl rfl ?_
    refine wp_iload_n dX10_takeBuyer_43 1 rfl ?_
    refine wp_iconst (v := 0) dX10_takeBuyer_44 (by decide) ?_
    refine wp_sipush (v := 9999) dX10_takeBuyer_45 (by decide) ?_
    obtain ⟨r48, h48, h⟩ := o_bind h
    refine wp_callvI (k := 55) (ci := 10) (c_X10_into_69 Γ ad (I 55 27) 0 9999 r26.2 J r48 h48) dX10_takeBuyer_48 mlX10_196 mwX10_into miX10_into rfl rfl rfl rfl (Nat.le_of_ble_eq_true rfl) rfl (by decide) (by decide) ?_
    refine wp_istore_n (lv' := [(0, _), (1, _), (2, _)]) dX10_takeBuyer_51 rfl rfl rfl rfl ?_
    refine wp_iload_n dX10_takeBuyer_52 2 rfl ?_
    refine wp_if_ne 78 dX10_takeBuyer_53 rfl (fun c53 => ?_) (fun c53 => ?_)
    · replace h := o_neg h c53
      refine wp_iconst (v := 0) dX10_takeBuyer_78 (by decide) ?_
      refine wp_istore_n (lv' := [(0, _), (1, _), (2, _), (3, _)]) dX10_takeBuyer_79 rfl rfl rfl rfl ?_
      refine wp_pick [0, 1, 2, 3] (lv' := [(0, _), (1, _), (2, _), (3, _)]) rfl ?_
      exact w_X10_takeBuyer_80 Γ ad FU (I 55 27) r48.1 0 r48.2 J r h
    · replace h := o_pos h c53
      refine wp_aload_n dX10_takeBuyer_56 0 rfl ?_
      refine wp_getI (k := 55) dX10_takeBuyer_57 flX10_193 rfl rfl rfl rfl ?_
      refine wp_if_ne 78 dX10_takeBuyer_60 rfl (fun c60 => ?_) (fun c60 => ?_)
      · replace h := o_neg h c60
        refine wp_iconst (v := 0) dX10_takeBuyer_78 (by decide) ?_
        refine wp_istore_n (lv' := [(0, _), (1, _), (2, _), (3, _)]) dX10_takeBuyer_79 rfl rfl rfl rfl ?_
        refine wp_pick [0, 1, 2, 3] (lv' := [(0, _), (1, _), (2, _), (3, _)]) rfl ?_
        exact w_X10_takeBuyer_80 Γ ad FU (I 55 27) r48.1 0 r48.2 J r h
      · replace h := o_pos h c60
        refine wp_aload_n dX10_takeBuyer_63 0 rfl ?_
        obtain ⟨r64, h64, h⟩ := o_bind h
        refine wp_callvI (k := 55) (ci := 10) (c_X10_here Γ ad r48.2 J r64 h64) dX10_takeBuyer_64 mlX10_153 mwX10_here miX10_here rfl rfl rfl rfl (Nat.le_of_ble_eq_true rfl) rfl (by decide) (by decide) ?_
        refine wp_istore_n (lv' := [(0, _), (1, _), (2, _), (3, _)]) dX10_takeBuyer_67 rfl rfl rfl rfl ?_
        refine wp_aload_n dX10_takeBuyer_68 0 rfl ?_
        refine wp_iconst (v := 1) dX10_takeBuyer_69 (by decide) ?_
        refine wp_aload_n dX10_takeBuyer_70 0 rfl ?_
        refine wp_getI (k := 55) dX10_takeBuyer_71 flX10_150 rfl rfl rfl rfl ?_
        obtain ⟨r74, h74, h⟩ := o_bind h
        refine wp_callvI (k := 55) (ci := 10) (c_X10_fails Γ ad 1 (r64.2 55 21) r64.2 J r74 h74) dX10_takeBuyer_74 mlX10_179 mwX10_fails miX10_fails rfl rfl rfl rfl (Nat.le_of_ble_eq_true rfl) rfl (by decide) (by decide) ?_
        obtain rfl := Option.some.inj h
        exact wp_ireturn (ty := .int) dX10_takeBuyer_77 rfl rfl ⟨rfl, rfl, rfl, rfl⟩
  · replace h := o_neg h c31
    refine wp_iload_n dX10_takeBuyer_34 2 rfl ?_
    refine wp_goto 51 dX10_takeBuyer_35 rfl ?_
    refine wp_istore_n (lv' := [(0, _), (1, _), (2, _)]) dX10_takeBuyer_51 rfl rfl rfl rfl ?_
    refine wp_iload_n dX10_takeBuyer_52 2 rfl ?_
    refine wp_if_ne 78 dX10_takeBuyer_53 rfl (fun c53 => ?_) (fun c53 => ?_)
    · replace h := o_neg h c53
      refine wp_iconst (v := 0) dX10_takeBuyer_78 (by decide) ?_
      refine wp_istore_n (lv' := [(0, _), (1, _), (2, _), (3, _)]) dX10_takeBuyer_79 rfl rfl rfl rfl ?_
      refine wp_pick [0, 1, 2, 3] (lv' := [(0, _), (1, _), (2, _), (3, _)]) rfl ?_
      exact w_X10_takeBuyer_80 Γ ad FU (I 55 27) r26.1 0 r26.2 J r h
    · replace h := o_pos h c53
      refine wp_aload_n dX10_takeBuyer_56 0 rfl ?_
      refine wp_getI (k := 55) dX10_takeBuyer_57 flX10_193 rfl rfl rfl rfl ?_
      refine wp_if_ne 78 dX10_takeBuyer_60 rfl (fun c60 => ?_) (fun c60 => ?_)
      · replace h := o_neg h c60
        refine wp_iconst (v := 0) dX10_takeBuyer_78 (by decide) ?_
        refine wp_istore_n (lv' := [(0, _), (1, _), (2, _), (3, _)]) dX10_takeBuyer_79 rfl rfl rfl rfl ?_
        refine wp_pick [0, 1, 2, 3] (lv' := [(0, _), (1, _), (2, _), (3, _)]) rfl ?_
        exact w_X10_takeBuyer_80 Γ ad FU (I 55 27) r26.1 0 r26.2 J r h
      · replace h := o_pos h c60
        refine wp_aload_n dX10_takeBuyer_63 0 rfl ?_
        obtain ⟨r64, h64, h⟩ := o_bind h
        refine wp_callvI (k := 55) (ci := 10) (c_X10_here Γ ad r26.2 J r64 h64) dX10_takeBuyer_64 mlX10_153 mwX10_here miX10_here rfl rfl rfl rfl (Nat.le_of_ble_eq_true rfl) rfl (by decide) (by decide) ?_
        refine wp_istore_n (lv' := [(0, _), (1, _), (2, _), (3, _)]) dX10_takeBuyer_67 rfl rfl rfl rfl ?_
        refine wp_aload_n dX10_takeBuyer_68 0 rfl ?_
        refine wp_iconst (v := 1) dX10_takeBuyer_69 (by decide) ?_
        refine wp_aload_n dX10_takeBuyer_70 0 rfl ?_
        refine wp_getI (k := 55) dX10_takeBuyer_71 flX10_150 rfl rfl rfl rfl ?_
        obtain ⟨r74, h74, h⟩ := o_bind h
        refine wp_callvI (k := 55) (ci := 10) (c_X10_fails Γ ad 1 (r64.2 55 21) r64.2 J r74 h74) dX10_takeBuyer_74 mlX10_179 mwX10_fails miX10_fails rfl rfl rfl rfl (Nat.le_of_ble_eq_true rfl) rfl (by decide) (by decide) ?_
        obtain rfl := Option.some.inj h
        exact wp_ireturn (ty := .int) dX10_takeBuyer_77 rfl rfl ⟨rfl, rfl, rfl, rfl⟩
def f_X10_into_71 (a2 : Int32) (a3 : Int32) (a4 : Int32) (I : IT) : Option (Int32 × IT) :=
  (f_X10_takeNumber a3 a4 I).bind fun r4 =>
  if inbB a2 2 = true then
    some (r4.1, upI r4.2 71 a2.toNatClampNeg (r4.2 55 24))
  else none
set_option maxRecDepth 100000 in
set_option maxHeartbeats 4000000 in
theorem c_X10_into_71 (Γ : GT) (ad : Nat → Nat) (a2 : Int32) (a3 : Int32) (a4 : Int32) (I : IT) (J : JT) (r : Int32 × IT) (h : f_X10_into_71 a2 a3 a4 I = some r) : CALL Γ mX10_into (0, 0) [.ref (ad 55), .ref (ad 71), .int a2, .int a3, .int a4] (DX ad) I J (QE (some (.int r.1)) (DX ad) r.2 J) := by
  refine call_of' (by decide) (Nat.le_of_ble_eq_true rfl) (lv0 := [(0, .ref (ad 55)), (1, .ref (ad 71)), (2, .int a2), (3, .int a3), (4, .int a4)]) rfl ?_
  unfold f_X10_into_71 at h
  refine wp_aload_n dX10_into_0 0 rfl ?_
  refine wp_iload_n dX10_into_1 3 rfl ?_
  refine wp_iload dX10_into_2 4 rfl ?_
  obtain ⟨r4, h4, h⟩ := o_bind h
  refine wp_callvI (k := 55) (ci := 10) (c_X10_takeNumber Γ ad a3 a4 I J r4 h4) dX10_into_4 mlX10_190 mwX10_takeNumber miX10_takeNumber rfl rfl rfl rfl (Nat.le_of_ble_eq_true rfl) rfl (by decide) (by decide) ?_
  refine wp_istore (lv' := [(0, _), (1, _), (2, _), (3, _), (4, _), (5, _)]) dX10_into_7 rfl rfl rfl ?_
  refine wp_aload_n dX10_into_9 1 rfl ?_
  refine wp_iload_n dX10_into_10 2 rfl ?_
  refine wp_aload_n dX10_into_11 0 rfl ?_
  refine wp_getI (k := 55) dX10_into_12 flX10_186 rfl rfl rfl rfl ?_
  obtain ⟨g15, h⟩ := o_grd h
  refine wp_iast (k := 71) dX10_into_15 rfl rfl (inb_of g15) ?_
  refine wp_iload dX10_into_16 5 rfl ?_
  obtain rfl := Option.some.inj h
  exact wp_ireturn (ty := .int) dX10_into_18 rfl rfl ⟨rfl, rfl, rfl, rfl⟩
def f_X10_takeBroker (I : IT) : Option (Int32 × IT) :=
  (f_X10_into_72 (12 + (I 55 28)) 1 2 I).bind fun r14 =>
  if r14.1 ≤ 0 then
    (f_X10_into_71 (r14.2 55 28) 0 50 r14.2).bind fun r38 =>
    some (r38.1, upI r38.2 55 28 ((r38.2 55 28) + 1))
  else
    some (r14.1, upI r14.2 55 28 ((r14.2 55 28) + 1))
set_option maxRecDepth 100000 in
set_option maxHeartbeats 4000000 in
theorem c_X10_takeBroker (Γ : GT) (ad : Nat → Nat) (I : IT) (J : JT) (r : Int32 × IT) (h : f_X10_takeBroker I = some r) : CALL Γ mX10_takeBroker (0, 0) [.ref (ad 55)] (DX ad) I J (QE (some (.int r.1)) (DX ad) r.2 J) := by
  refine call_of' (by decide) (Nat.le_of_ble_eq_true rfl) (lv0 := [(0, .ref (ad 55))]) rfl ?_
  unfold f_X10_takeBroker at h
  refine wp_aload_n dX10_takeBroker_0 0 rfl ?_
  refine wp_aload_n dX10_takeBroker_1 0 rfl ?_
  refine wp_getR (k := 55) (a' := ad 72) dX10_takeBroker_2 flX10_68 rfl rfl rfl rfl rfl ?_
  refine wp_bipush (v := 12) dX10_takeBroker_5 (by decide) ?_
  refine wp_aload_n dX10_takeBroker_7 0 rfl ?_
  refine wp_getI (k := 55) dX10_takeBroker_8 flX10_203 rfl rfl rfl rfl ?_
  refine wp_iadd dX10_takeBroker_11 ?_
  refine wp_iconst (v := 1) dX10_takeBroker_12 (by decide) ?_
  refine wp_iconst (v := 2) dX10_takeBroker_13 (by decide) ?_
  obtain ⟨r14, h14, h⟩ := o_bind h
  refine wp_callvI (k := 55) (ci := 10) (c_X10_into_72 Γ ad (12 + (I 55 28)) 1 2 I J r14 h14) dX10_takeBroker_14 mlX10_196 mwX10_into miX10_into rfl rfl rfl rfl (Nat.le_of_ble_eq_true rfl) rfl (by decide) (by decide) ?_
  refine wp_istore_n (lv' := [(0, _), (1, _)]) dX10_takeBroker_17 rfl rfl rfl rfl ?_
  refine wp_iload_n dX10_takeBroker_18 1 rfl ?_
  refine wp_if_le 26 dX10_takeBroker_19 rfl (fun c19 => ?_) (fun c19 => ?_)
  · replace h := o_pos h c19
    refine wp_aload_n dX10_takeBroker_26 0 rfl ?_
    refine wp_aload_n dX10_takeBroker_27 0 rfl ?_
    refine wp_getR (k := 55) (a' := ad 71) dX10_takeBroker_28 flX10_65 rfl rfl rfl rfl rfl ?_
    refine wp_aload_n dX10_takeBroker_31 0 rfl ?_
    refine wp_getI (k := 55) dX10_takeBroker_32 flX10_203 rfl rfl rfl rfl ?_
    refine wp_iconst (v := 0) dX10_takeBroker_35 (by decide) ?_
    refine wp_bipush (v := 50) dX10_takeBroker_36 (by decide) ?_
    obtain ⟨r38, h38, h⟩ := o_bind h
    refine wp_callvI (k := 55) (ci := 10) (c_X10_into_71 Γ ad (r14.2 55 28) 0 50 r14.2 J r38 h38) dX10_takeBroker_38 mlX10_196 mwX10_into miX10_into rfl rfl rfl rfl (Nat.le_of_ble_eq_true rfl) rfl (by decide) (by decide) ?_
    refine wp_istore_n (lv' := [(0, _), (1, _)]) dX10_takeBroker_41 rfl rfl rfl rfl ?_
    refine wp_aload_n dX10_takeBroker_42 0 rfl ?_
    refine wp_dup dX10_takeBroker_43 rfl ?_
    refine wp_getI (k := 55) dX10_takeBroker_44 flX10_203 rfl rfl rfl rfl ?_
    refine wp_iconst (v := 1) dX10_takeBroker_47 (by decide) ?_
    refine wp_iadd dX10_takeBroker_48 ?_
    refine wp_putI (k := 55) dX10_takeBroker_49 flX10_203 rfl rfl rfl rfl rfl rfl rfl rfl ?_
    refine wp_iload_n dX10_takeBroker_52 1 rfl ?_
    obtain rfl := Option.some.inj h
    exact wp_ireturn (ty := .int) dX10_takeBroker_53 rfl rfl ⟨rfl, rfl, rfl, rfl⟩
  · replace h := o_neg h c19
    refine wp_iload_n dX10_takeBroker_22 1 rfl ?_
    refine wp_goto 41 dX10_takeBroker_23 rfl ?_
    refine wp_istore_n (lv' := [(0, _), (1, _)]) dX10_takeBroker_41 rfl rfl rfl rfl ?_
    refine wp_aload_n dX10_takeBroker_42 0 rfl ?_
    refine wp_dup dX10_takeBroker_43 rfl ?_
    refine wp_getI (k := 55) dX10_takeBroker_44 flX10_203 rfl rfl rfl rfl ?_
    refine wp_iconst (v := 1) dX10_takeBroker_47 (by decide) ?_
    refine wp_iadd dX10_takeBroker_48 ?_
    refine wp_putI (k := 55) dX10_takeBroker_49 flX10_203 rfl rfl rfl rfl rfl rfl rfl rfl ?_
    refine wp_iload_n dX10_takeBroker_52 1 rfl ?_
    obtain rfl := Option.some.inj h
    exact wp_ireturn (ty := .int) dX10_takeBroker_53 rfl rfl ⟨rfl, rfl, rfl, rfl⟩
