/-! lifted: X10_pressed X10_price -/
def f_X10_pressed_15 : Nat → Int32 → Int32 → IT → Option (Int32)
  | 0, _, _, _ => none
  | n + 1, v1, v2, I =>
    if (I 55 19) ≤ v2 then
      (f_X10_in v1.toInt64 1 999).bind fun r126 =>
      if r126 = 0 then
        some (-1)
      else
        some v1
    else
      if inbB v2 500 = true then
        if (I 67 v2.toNatClampNeg) = (104 : Int32) then
          if (v1 - v1 / 2 * 2) = 0 then
            if (I 67 v2.toNatClampNeg) = (99 : Int32) then
              if 0 ≤ (v1 + 100) then
                f_X10_pressed_15 n (v1 + 100) (v2 + 1) I
              else
                some (-1)
            else
              if (I 67 v2.toNatClampNeg) = (120 : Int32) then
                if 0 ≤ (v1 + 10) then
                  f_X10_pressed_15 n (v1 + 10) (v2 + 1) I
                else
                  some (-1)
              else
                if (I 67 v2.toNatClampNeg) = (105 : Int32) then
                  if 0 ≤ (v1 + 1) then
                    f_X10_pressed_15 n (v1 + 1) (v2 + 1) I
                  else
                    some (-1)
                else
                  if (I 67 v2.toNatClampNeg) = (100 : Int32) then
                    if 0 ≤ (2 * v1) then
                      f_X10_pressed_15 n (2 * v1) (v2 + 1) I
                    else
                      some (-1)
                  else
                    if (I 67 v2.toNatClampNeg) = (104 : Int32) then
                      if 0 ≤ (v1 / 2) then
                        f_X10_pressed_15 n (v1 / 2) (v2 + 1) I
                      else
                        some (-1)
                    else
                      if 0 ≤ ((-1) : Int32) then
                        f_X10_pressed_15 n (-1) (v2 + 1) I
                      else
                        some (-1)
          else
            some (-1)
        else
          if (I 67 v2.toNatClampNeg) = (99 : Int32) then
            if 0 ≤ (v1 + 100) then
              f_X10_pressed_15 n (v1 + 100) (v2 + 1) I
            else
              some (-1)
          else
            if (I 67 v2.toNatClampNeg) = (120 : Int32) then
              if 0 ≤ (v1 + 10) then
                f_X10_pressed_15 n (v1 + 10) (v2 + 1) I
              else
                some (-1)
            else
              if (I 67 v2.toNatClampNeg) = (105 : Int32) then
                if 0 ≤ (v1 + 1) then
                  f_X10_pressed_15 n (v1 + 1) (v2 + 1) I
                else
                  some (-1)
              else
                if (I 67 v2.toNatClampNeg) = (100 : Int32) then
                  if 0 ≤ (2 * v1) then
                    f_X10_pressed_15 n (2 * v1) (v2 + 1) I
                  else
                    some (-1)
                else
                  if (I 67 v2.toNatClampNeg) = (104 : Int32) then
                    if 0 ≤ (v1 / 2) then
                      f_X10_pressed_15 n (v1 / 2) (v2 + 1) I
                    else
                      some (-1)
                  else
                    if 0 ≤ ((-1) : Int32) then
                      f_X10_pressed_15 n (-1) (v2 + 1) I
                    else
                      some (-1)
      else none
def f_X10_pressed (I : IT) : Option (Int32) :=
  if (I 55 19) ≤ (20 : Int32) then
    f_X10_pressed_15 FU 0 0 I
  else
    some (-1)
set_option maxRecDepth 100000 in
set_option maxHeartbeats 4000000 in
theorem w_X10_pressed_15 (Γ : GT) (ad : Nat → Nat) : ∀ (n : Nat) (v1 : Int32) (v2 : Int32) (I : IT) (J : JT) (r : Int32), f_X10_pressed_15 n v1 v2 I = some r → WP Γ mX10_pressed (0, 0) 15 [(0, .ref (ad 55)), (1, .int v1), (2, .int v2)] [] (DX ad) I J (QE (some (.int r)) (DX ad) I J) := by
  intro n
  induction n with
  | zero => intro v1 v2 I J r h; exact absurd h (by simp [f_X10_pressed_15])
  | succ n ih =>
    intro v1 v2 I J r h
    rw [f_X10_pressed_15] at h
    refine wp_iload_n dX10_pressed_15 2 rfl ?_
    refine wp_aload_n dX10_pressed_16 0 rfl ?_
    refine wp_getI (k := 55) dX10_pressed_17 flX10_144 rfl rfl rfl rfl ?_
    refine wp_icmp_ge 120 dX10_pressed_20 rfl (fun c20 => ?_) (fun c20 => ?_)
    · replace h := o_pos h c20
      refine wp_iload_n dX10_pressed_120 1 rfl ?_
      refine wp_i2l dX10_pressed_121 ?_
      refine wp_lconst (v := 1) dX10_pressed_122 (by decide) ?_
      refine wp_ldc2 (v := 999) dX10_pressed_123 klX10_285 ?_
      obtain ⟨r126, h126, h⟩ := o_bind h
      refine wp_callsI (c_X10_in Γ ad v1.toInt64 1 999 I J r126 h126) dX10_pressed_126 mlX10_134 mwX10_in miX10_in rfl (Nat.le_of_ble_eq_true rfl) rfl (by decide) (by decide) ?_
      refine wp_if_eq 136 dX10_pressed_129 rfl (fun c129 => ?_) (fun c129 => ?_)
      · replace h := o_pos h c129
        refine wp_iconst (v := (-1)) dX10_pressed_136 (by decide) ?_
        obtain rfl := Option.some.inj h
        exact wp_ireturn (ty := .int) dX10_pressed_137 rfl rfl ⟨rfl, rfl, rfl, rfl⟩
      · replace h := o_neg h c129
        refine wp_iload_n dX10_pressed_132 1 rfl ?_
        refine wp_goto 137 dX10_pressed_133 rfl ?_
        obtain rfl := Option.some.inj h
        exact wp_ireturn (ty := .int) dX10_pressed_137 rfl rfl ⟨rfl, rfl, rfl, rfl⟩
    · replace h := o_neg h c20
      refine wp_aload_n dX10_pressed_23 0 rfl ?_
      refine wp_getR (k := 55) (a' := ad 67) dX10_pressed_24 flX10_50 rfl rfl rfl rfl rfl ?_
      refine wp_iload_n dX10_pressed_27 2 rfl ?_
      obtain ⟨g28, h⟩ := o_grd h
      refine wp_iald (k := 67) dX10_pressed_28 rfl rfl (inb_of g28) ?_
      refine wp_istore_n (lv' := [(0, _), (1, _), (2, _), (3, _)]) dX10_pressed_29 rfl rfl rfl rfl ?_
      refine wp_iload_n dX10_pressed_30 3 rfl ?_
      refine wp_bipush (v := 104) dX10_pressed_31 (by decide) ?_
      refine wp_icmp_ne 44 dX10_pressed_33 rfl (fun c33 => ?_) (fun c33 => ?_)
      · replace h := o_neg h c33
        refine wp_iload_n dX10_pressed_44 3 rfl ?_
        refine wp_bipush (v := 99) dX10_pressed_45 (by decide) ?_
        refine wp_icmp_ne 57 dX10_pressed_47 rfl (fun c47 => ?_) (fun c47 => ?_)
        · replace h := o_neg h c47
          refine wp_iload_n dX10_pressed_57 3 rfl ?_
          refine wp_bipush (v := 120) dX10_pressed_58 (by decide) ?_
          refine wp_icmp_ne 70 dX10_pressed_60 rfl (fun c60 => ?_) (fun c60 => ?_)
          · replace h := o_neg h c60
            refine wp_iload_n dX10_pressed_70 3 rfl ?_
            refine wp_bipush (v := 105) dX10_pressed_71 (by decide) ?_
            refine wp_icmp_ne 82 dX10_pressed_73 rfl (fun c73 => ?_) (fun c73 => ?_)
            · replace h := o_neg h c73
              refine wp_iload_n dX10_pressed_82 3 rfl ?_
              refine wp_bipush (v := 100) dX10_pressed_83 (by decide) ?_
              refine wp_icmp_ne 94 dX10_pressed_85 rfl (fun c85 => ?_) (fun c85 => ?_)
              · replace h := o_neg h c85
                refine wp_iload_n dX10_pressed_94 3 rfl ?_
                refine wp_bipush (v := 104) dX10_pressed_95 (by decide) ?_
                refine wp_icmp_ne 106 dX10_pressed_97 rfl (fun c97 => ?_) (fun c97 => ?_)
                · replace h := o_neg h c97
                  refine wp_iconst (v := (-1)) dX10_pressed_106 (by decide) ?_
                  refine wp_istore_n (lv' := [(0, _), (1, _), (2, _), (3, _)]) dX10_pressed_107 rfl rfl rfl rfl ?_
                  refine wp_iload_n dX10_pressed_108 1 rfl ?_
                  refine wp_if_ge 114 dX10_pressed_109 rfl (fun c109 => ?_) (fun c109 => ?_)
                  · replace h := o_pos h c109
                    refine wp_iinc (v := v2 + 1) (lv' := [(0, _), (1, _), (2, _), (3, _)]) dX10_pressed_114 2 rfl rfl rfl rfl rfl ?_
                    refine wp_goto 15 dX10_pressed_117 rfl ?_
                    refine wp_pick [0, 1, 2] (lv' := [(0, _), (1, _), (2, _)]) rfl ?_
                    exact ih (-1) (v2 + 1) I J r h
                  · replace h := o_neg h c109
                    refine wp_iconst (v := (-1)) dX10_pressed_112 (by decide) ?_
                    obtain rfl := Option.some.inj h
                    exact wp_ireturn (ty := .int) dX10_pressed_113 rfl rfl ⟨rfl, rfl, rfl, rfl⟩
                · replace h := o_pos h c97
                  refine wp_iload_n dX10_pressed_100 1 rfl ?_
                  refine wp_iconst (v := 2) dX10_pressed_101 (by decide) ?_
                  refine wp_idiv dX10_pressed_102 (by decide) ?_
                  refine wp_goto 107 dX10_pressed_103 rfl ?_
                  refine wp_istore_n (lv' := [(0, _), (1, _), (2, _), (3, _)]) dX10_pressed_107 rfl rfl rfl rfl ?_
                  refine wp_iload_n dX10_pressed_108 1 rfl ?_
                  refine wp_if_ge 114 dX10_pressed_109 rfl (fun c109 => ?_) (fun c109 => ?_)
                  · replace h := o_pos h c109
                    refine wp_iinc (v := v2 + 1) (lv' := [(0, _), (1, _), (2, _), (3, _)]) dX10_pressed_114 2 rfl rfl rfl rfl rfl ?_
                    refine wp_goto 15 dX10_pressed_117 rfl ?_
                    refine wp_pick [0, 1, 2] (lv' := [(0, _), (1, _), (2, _)]) rfl ?_
                    exact ih (v1 / 2) (v2 + 1) I J r h
                  · replace h := o_neg h c109
                    refine wp_iconst (v := (-1)) dX10_pressed_112 (by decide) ?_
                    obtain rfl := Option.some.inj h
                    exact wp_ireturn (ty := .int) dX10_pressed_113 rfl rfl ⟨rfl, rfl, rfl, rfl⟩
              · replace h := o_pos h c85
                refine wp_iconst (v := 2) dX10_pressed_88 (by decide) ?_
                refine wp_iload_n dX10_pressed_89 1 rfl ?_
                refine wp_imul dX10_pressed_90 ?_
                refine wp_goto 107 dX10_pressed_91 rfl ?_
                refine wp_istore_n (lv' := [(0, _), (1, _), (2, _), (3, _)]) dX10_pressed_107 rfl rfl rfl rfl ?_
                refine wp_iload_n dX10_pressed_108 1 rfl ?_
                refine wp_if_ge 114 dX10_pressed_109 rfl (fun c109 => ?_) (fun c109 => ?_)
                · replace h := o_pos h c109
                  refine wp_iinc (v := v2 + 1) (lv' := [(0, _), (1, _), (2, _), (3, _)]) dX10_pressed_114 2 rfl rfl rfl rfl rfl ?_
                  refine wp_goto 15 dX10_pressed_117 rfl ?_
                  refine wp_pick [0, 1, 2] (lv' := [(0, _), (1, _), (2, _)]) rfl ?_
                  exact ih (2 * v1) (v2 + 1) I J r h
                · replace h := o_neg h c109
                  refine wp_iconst (v := (-1)) dX10_pressed_112 (by decide) ?_
                  obtain rfl := Option.some.inj h
                  exact wp_ireturn (ty := .int) dX10_pressed_113 rfl rfl ⟨rfl, rfl, rfl, rfl⟩
            · replace h := o_pos h c73
              refine wp_iload_n dX10_pressed_76 1 rfl ?_
              refine wp_iconst (v := 1) dX10_pressed_77 (by decide) ?_
              refine wp_iadd dX10_pressed_78 ?_
              refine wp_goto 107 dX10_pressed_79 rfl ?_
              refine wp_istore_n (lv' := [(0, _), (1, _), (2, _), (3, _)]) dX10_pressed_107 rfl rfl rfl rfl ?_
              refine wp_iload_n dX10_pressed_108 1 rfl ?_
              refine wp_if_ge 114 dX10_pressed_109 rfl (fun c109 => ?_) (fun c109 => ?_)
              · replace h := o_pos h c109
                refine wp_iinc (v := v2 + 1) (lv' := [(0, _), (1, _), (2, _), (3, _)]) dX10_pressed_114 2 rfl rfl rfl rfl rfl ?_
                refine wp_goto 15 dX10_pressed_117 rfl ?_
                refine wp_pick [0, 1, 2] (lv' := [(0, _), (1, _), (2, _)]) rfl ?_
                exact ih (v1 + 1) (v2 + 1) I J r h
              · replace h := o_neg h c109
                refine wp_iconst (v := (-1)) dX10_pressed_112 (by decide) ?_
                obtain rfl := Option.some.inj h
                exact wp_ireturn (ty := .int) dX10_pressed_113 rfl rfl ⟨rfl, rfl, rfl, rfl⟩
          · replace h := o_pos h c60
            refine wp_iload_n dX10_pressed_63 1 rfl ?_
            refine wp_bipush (v := 10) dX10_pressed_64 (by decide) ?_
            refine wp_iadd dX10_pressed_66 ?_
            refine wp_goto 107 dX10_pressed_67 rfl ?_
            refine wp_istore_n (lv' := [(0, _), (1, _), (2, _), (3, _)]) dX10_pressed_107 rfl rfl rfl rfl ?_
            refine wp_iload_n dX10_pressed_108 1 rfl ?_
            refine wp_if_ge 114 dX10_pressed_109 rfl (fun c109 => ?_) (fun c109 => ?_)
            · replace h := o_pos h c109
              refine wp_iinc (v := v2 + 1) (lv' := [(0, _), (1, _), (2, _), (3, _)]) dX10_pressed_114 2 rfl rfl rfl rfl rfl ?_
              refine wp_goto 15 dX10_pressed_117 rfl ?_
              refine wp_pick [0, 1, 2] (lv' := [(0, _), (1, _), (2, _)]) rfl ?_
              exact ih (v1 + 10) (v2 + 1) I J r h
            · replace h := o_neg h c109
              refine wp_iconst (v := (-1)) dX10_pressed_112 (by decide) ?_
              obtain rfl := Option.some.inj h
              exact wp_ireturn (ty := .int) dX10_pressed_113 rfl rfl ⟨rfl, rfl, rfl, rfl⟩
        · replace h := o_pos h c47
          refine wp_iload_n dX10_pressed_50 1 rfl ?_
          refine wp_bipush (v := 100) dX10_pressed_51 (by decide) ?_
          refine wp_iadd dX10_pressed_53 ?_
          refine wp_goto 107 dX10_pressed_54 rfl ?_
          refine wp_istore_n (lv' := [(0, _), (1, _), (2, _), (3, _)]) dX10_pressed_107 rfl rfl rfl rfl ?_
          refine wp_iload_n dX10_pressed_108 1 rfl ?_
          refine wp_if_ge 114 dX10_pressed_109 rfl (fun c109 => ?_) (fun c109 => ?_)
          · replace h := o_pos h c109
            refine wp_iinc (v := v2 + 1) (lv' := [(0, _), (1, _), (2, _), (3, _)]) dX10_pressed_114 2 rfl rfl rfl rfl rfl ?_
            refine wp_goto 15 dX10_pressed_117 rfl ?_
            refine wp_pick [0, 1, 2] (lv' := [(0, _), (1, _), (2, _)]) rfl ?_
            exact ih (v1 + 100) (v2 + 1) I J r h
          · replace h := o_neg h c109
            refine wp_iconst (v := (-1)) dX10_pressed_112 (by decide) ?_
            obtain rfl := Option.some.inj h
            exact wp_ireturn (ty := .int) dX10_pressed_113 rfl rfl ⟨rfl, rfl, rfl, rfl⟩
      · replace h := o_pos h c33
        refine wp_iload_n dX10_pressed_36 1 rfl ?_
        refine wp_iconst (v := 2) dX10_pressed_37 (by decide) ?_
        refine wp_irem dX10_pressed_38 (by decide) ?_
        refine wp_if_eq 44 dX10_pressed_39 rfl (fun c39 => ?_) (fun c39 => ?_)
        · replace h := o_pos h c39
          refine wp_iload_n dX10_pressed_44 3 rfl ?_
          refine wp_bipush (v := 99) dX10_pressed_45 (by decide) ?_
          refine wp_icmp_ne 57 dX10_pressed_47 rfl (fun c47 => ?_) (fun c47 => ?_)
          · replace h := o_neg h c47
            refine wp_iload_n dX10_pressed_57 3 rfl ?_
            refine wp_bipush (v := 120) dX10_pressed_58 (by decide) ?_
            refine wp_icmp_ne 70 dX10_pressed_60 rfl (fun c60 => ?_) (fun c60 => ?_)
            · replace h := o_neg h c60
              refine wp_iload_n dX10_pressed_70 3 rfl ?_
              refine wp_bipush (v := 105) dX10_pressed_71 (by decide) ?_
              refine wp_icmp_ne 82 dX10_pressed_73 rfl (fun c73 => ?_) (fun c73 => ?_)
              · replace h := o_neg h c73
                refine wp_iload_n dX10_pressed_82 3 rfl ?_
                refine wp_bipush (v := 100) dX10_pressed_83 (by decide) ?_
                refine wp_icmp_ne 94 dX10_pressed_85 rfl (fun c85 => ?_) (fun c85 => ?_)
                · replace h := o_neg h c85
                  refine wp_iload_n dX10_pressed_94 3 rfl ?_
                  refine wp_bipush (v := 104) dX10_pressed_95 (by decide) ?_
                  refine wp_icmp_ne 106 dX10_pressed_97 rfl (fun c97 => ?_) (fun c97 => ?_)
                  · replace h := o_neg h c97
                    refine wp_iconst (v := (-1)) dX10_pressed_106 (by decide) ?_
                    refine wp_istore_n (lv' := [(0, _), (1, _), (2, _), (3, _)]) dX10_pressed_107 rfl rfl rfl rfl ?_
                    refine wp_iload_n dX10_pressed_108 1 rfl ?_
                    refine wp_if_ge 114 dX10_pressed_109 rfl (fun c109 => ?_) (fun c109 => ?_)
                    · replace h := o_pos h c109
                      refine wp_iinc (v := v2 + 1) (lv' := [(0, _), (1, _), (2, _), (3, _)]) dX10_pressed_114 2 rfl rfl rfl rfl rfl ?_
                      refine wp_goto 15 dX10_pressed_117 rfl ?_
                      refine wp_pick [0, 1, 2] (lv' := [(0, _), (1, _), (2, _)]) rfl ?_
                      exact ih (-1) (v2 + 1) I J r h
                    · replace h := o_neg h c109
                      refine wp_iconst (v := (-1)) dX10_pressed_112 (by decide) ?_
                      obtain rfl := Option.some.inj h
                      exact wp_ireturn (ty := .int) dX10_pressed_113 rfl rfl ⟨rfl, rfl, rfl, rfl⟩
                  · replace h := o_pos h c97
                    refine wp_iload_n dX10_pressed_100 1 rfl ?_
                    refine wp_iconst (v := 2) dX10_pressed_101 (by decide) ?_
                    refine wp_idiv dX10_pressed_102 (by decide) ?_
                    refine wp_goto 107 dX10_pressed_103 rfl ?_
                    refine wp_istore_n (lv' := [(0, _), (1, _), (2, _), (3, _)]) dX10_pressed_107 rfl rfl rfl rfl ?_
                    refine wp_iload_n dX10_pressed_108 1 rfl ?_
                    refine wp_if_ge 114 dX10_pressed_109 rfl (fun c109 => ?_) (fun c109 => ?_)
                    · replace h := o_pos h c109
                      refine wp_iinc (v := v2 + 1) (lv' := [(0, _), (1, _), (2, _), (3, _)]) dX10_pressed_114 2 rfl rfl rfl rfl rfl ?_
                      refine wp_goto 15 dX10_pressed_117 rfl ?_
                      refine wp_pick [0, 1, 2] (lv' := [(0, _), (1, _), (2, _)]) rfl ?_
                      exact ih (v1 / 2) (v2 + 1) I J r h
                    · replace h := o_neg h c109
                      refine wp_iconst (v := (-1)) dX10_pressed_112 (by decide) ?_
                      obtain rfl := Option.some.inj h
                      exact wp_ireturn (ty := .int) dX10_pressed_113 rfl rfl ⟨rfl, rfl, rfl, rfl⟩
                · replace h := o_pos h c85
                  refine wp_iconst (v := 2) dX10_pressed_88 (by decide) ?_
                  refine wp_iload_n dX10_pressed_89 1 rfl ?_
                  refine wp_imul dX10_pressed_90 ?_
                  refine wp_goto 107 dX10_pressed_91 rfl ?_
                  refine wp_istore_n (lv' := [(0, _), (1, _), (2, _), (3, _)]) dX10_pressed_107 rfl rfl rfl rfl ?_
                  refine wp_iload_n dX10_pressed_108 1 rfl ?_
                  refine wp_if_ge 114 dX10_pressed_109 rfl (fun c109 => ?_) (fun c109 => ?_)
                  · replace h := o_pos h c109
                    refine wp_iinc (v := v2 + 1) (lv' := [(0, _), (1, _), (2, _), (3, _)]) dX10_pressed_114 2 rfl rfl rfl rfl rfl ?_
                    refine wp_goto 15 dX10_pressed_117 rfl ?_
                    refine wp_pick [0, 1, 2] (lv' := [(0, _), (1, _), (2, _)]) rfl ?_
                    exact ih (2 * v1) (v2 + 1) I J r h
                  · replace h := o_neg h c109
                    refine wp_iconst (v := (-1)) dX10_pressed_112 (by decide) ?_
                    obtain rfl := Option.some.inj h
                    exact wp_ireturn (ty := .int) dX10_pressed_113 rfl rfl ⟨rfl, rfl, rfl, rfl⟩
              · replace h := o_pos h c73
                refine wp_iload_n dX10_pressed_76 1 rfl ?_
                refine wp_iconst (v := 1) dX10_pressed_77 (by decide) ?_
                refine wp_iadd dX10_pressed_78 ?_
                refine wp_goto 107 dX10_pressed_79 rfl ?_
                refine wp_istore_n (lv' := [(0, _), (1, _), (2, _), (3, _)]) dX10_pressed_107 rfl rfl rfl rfl ?_
                refine wp_iload_n dX10_pressed_108 1 rfl ?_
                refine wp_if_ge 114 dX10_pressed_109 rfl (fun c109 => ?_) (fun c109 => ?_)
                · replace h := o_pos h c109
                  refine wp_iinc (v := v2 + 1) (lv' := [(0, _), (1, _), (2, _), (3, _)]) dX10_pressed_114 2 rfl rfl rfl rfl rfl ?_
                  refine wp_goto 15 dX10_pressed_117 rfl ?_
                  refine wp_pick [0, 1, 2] (lv' := [(0, _), (1, _), (2, _)]) rfl ?_
                  exact ih (v1 + 1) (v2 + 1) I J r h
                · replace h := o_neg h c109
                  refine wp_iconst (v := (-1)) dX10_pressed_112 (by decide) ?_
                  obtain rfl := Option.some.inj h
                  exact wp_ireturn (ty := .int) dX10_pressed_113 rfl rfl ⟨rfl, rfl, rfl, rfl⟩
            · replace h := o_pos h c60
              refine wp_iload_n dX10_pressed_63 1 rfl ?_
              refine wp_bipush (v := 10) dX10_pressed_64 (by decide) ?_
              refine wp_iadd dX10_pressed_66 ?_
              refine wp_goto 107 dX10_pressed_67 rfl ?_
              refine wp_istore_n (lv' := [(0, _), (1, _), (2, _), (3, _)]) dX10_pressed_107 rfl rfl rfl rfl ?_
              refine wp_iload_n dX10_pressed_108 1 rfl ?_
              refine wp_if_ge 114 dX10_pressed_109 rfl (fun c109 => ?_) (fun c109 => ?_)
              · replace h := o_pos h c109
                refine wp_iinc (v := v2 + 1) (lv' := [(0, _), (1, _), (2, _), (3, _)]) dX10_pressed_114 2 rfl rfl rfl rfl rfl ?_
                refine wp_goto 15 dX10_pressed_117 rfl ?_
                refine wp_pick [0, 1, 2] (lv' := [(0, _), (1, _), (2, _)]) rfl ?_
                exact ih (v1 + 10) (v2 + 1) I J r h
              · replace h := o_neg h c109
                refine wp_iconst (v := (-1)) dX10_pressed_112 (by decide) ?_
                obtain rfl := Option.some.inj h
                exact wp_ireturn (ty := .int) dX10_pressed_113 rfl rfl ⟨rfl, rfl, rfl, rfl⟩
          · replace h := o_pos h c47
            refine wp_iload_n dX10_pressed_50 1 rfl ?_
            refine wp_bipush (v := 100) dX10_pressed_51 (by decide) ?_
            refine wp_iadd dX10_pressed_53 ?_
            refine wp_goto 107 dX10_pressed_54 rfl ?_
            refine wp_istore_n (lv' := [(0, _), (1, _), (2, _), (3, _)]) dX10_pressed_107 rfl rfl rfl rfl ?_
            refine wp_iload_n dX10_pressed_108 1 rfl ?_
            refine wp_if_ge 114 dX10_pressed_109 rfl (fun c109 => ?_) (fun c109 => ?_)
            · replace h := o_pos h c109
              refine wp_iinc (v := v2 + 1) (lv' := [(0, _), (1, _), (2, _), (3, _)]) dX10_pressed_114 2 rfl rfl rfl rfl rfl ?_
              refine wp_goto 15 dX10_pressed_117 rfl ?_
              refine wp_pick [0, 1, 2] (lv' := [(0, _), (1, _), (2, _)]) rfl ?_
              exact ih (v1 + 100) (v2 + 1) I J r h
            · replace h := o_neg h c109
              refine wp_iconst (v := (-1)) dX10_pressed_112 (by decide) ?_
              obtain rfl := Option.some.inj h
              exact wp_ireturn (ty := .int) dX10_pressed_113 rfl rfl ⟨rfl, rfl, rfl, rfl⟩
        · replace h := o_neg h c39
          refine wp_iconst (v := (-1)) dX10_pressed_42 (by decide) ?_
          obtain rfl := Option.some.inj h
          exact wp_ireturn (ty := .int) dX10_pressed_43 rfl rfl ⟨rfl, rfl, rfl, rfl⟩
set_option maxRecDepth 100000 in
set_option maxHeartbeats 4000000 in
theorem c_X10_pressed (Γ : GT) (ad : Nat → Nat) (I : IT) (J : JT) (r : Int32) (h : f_X10_pressed I = some r) : CALL Γ mX10_pressed (0, 0) [.ref (ad 55)] (DX ad) I J (QE (some (.int r)) (DX ad) I J) := by
  refine call_of' (by decide) (Nat.le_of_ble_eq_true rfl) (lv0 := [(0, .ref (ad 55))]) rfl ?_
  unfold f_X10_pressed at h
  refine wp_aload_n dX10_pressed_0 0 rfl ?_
  refine wp_getI (k := 55) dX10_pressed_1 flX10_144 rfl rfl rfl rfl ?_
  refine wp_bipush (v := 20) dX10_pressed_4 (by decide) ?_
  refine wp_icmp_le 11 dX10_pressed_6 rfl (fun c6 => ?_) (fun c6 => ?_)
  · replace h := o_pos h c6
    refine wp_iconst (v := 0) dX10_pressed_11 (by decide) ?_
    refine wp_istore_n (lv' := [(0, _), (1, _)]) dX10_pressed_12 rfl rfl rfl rfl ?_
    refine wp_iconst (v := 0) dX10_pressed_13 (by decide) ?_
    refine wp_istore_n (lv' := [(0, _), (1, _), (2, _)]) dX10_pressed_14 rfl rfl rfl rfl ?_
    refine wp_pick [0, 1, 2] (lv' := [(0, _), (1, _), (2, _)]) rfl ?_
    exact w_X10_pressed_15 Γ ad FU 0 0 I J r h
  · replace h := o_neg h c6
    refine wp_iconst (v := (-1)) dX10_pressed_9 (by decide) ?_
    obtain rfl := Option.some.inj h
    exact wp_ireturn (ty := .int) dX10_pressed_10 rfl rfl ⟨rfl, rfl, rfl, rfl⟩
def f_X10_price (I : IT) : Option (Int32) :=
  (f_X10_pressed I).bind fun r1 =>
  some r1
set_option maxRecDepth 100000 in
set_option maxHeartbeats 4000000 in
theorem c_X10_price (Γ : GT) (ad : Nat → Nat) (I : IT) (J : JT) (r : Int32) (h : f_X10_price I = some r) : CALL Γ mX10_price (0, 0) [.ref (ad 55)] (DX ad) I J (QE (some (.int r)) (DX ad) I J) := by
  refine call_of' (by decide) (Nat.le_of_ble_eq_true rfl) (lv0 := [(0, .ref (ad 55))]) rfl ?_
  unfold f_X10_price at h
  refine wp_aload_n dX10_price_0 0 rfl ?_
  obtain ⟨r1, h1, h⟩ := o_bind h
  refine wp_callvI (k := 55) (ci := 10) (c_X10_pressed Γ ad I J r1 h1) dX10_price_1 mlX10_287 mwX10_pressed miX10_pressed rfl rfl rfl rfl (Nat.le_of_ble_eq_true rfl) rfl (by decide) (by decide) ?_
  obtain rfl := Option.some.inj h
  exact wp_ireturn (ty := .int) dX10_price_4 rfl rfl ⟨rfl, rfl, rfl, rfl⟩
