/-! lifted: X4_readNumber X4_readSign X2_persons_8 X4_addPerson X4_readBroker X4_readBuyer X4_readSeller -/
def f_X4_readNumber_12 : Nat → Int32 → Int32 → Int32 → Int32 → IT → Option (Int32 × IT)
  | 0, _, _, _, _, _ => none
  | n + 1, v1, v2, v3, v4, I =>
    if (I 1 1) ≤ (I 7 4) then
      if (I 7 4) = v3 then
        (f_X4_refuseIf 1 1 v3 I).bind fun r104 =>
        if (4 : Int32) < ((r104 7 4) - v3) then
          (f_X4_refuseIf 1 2 v3 r104).bind fun r135 =>
          some (v4, r135)
        else
          (f_X9_isWithin v4 v1 v2).bind fun r122 =>
          if r122 = 0 then
            (f_X4_refuseIf 1 2 v3 r104).bind fun r135 =>
            some (v4, r135)
          else
            (f_X4_refuseIf 0 2 v3 r104).bind fun r135 =>
            some (v4, r135)
      else
        (f_X4_refuseIf 0 1 v3 I).bind fun r104 =>
        if (4 : Int32) < ((r104 7 4) - v3) then
          (f_X4_refuseIf 1 2 v3 r104).bind fun r135 =>
          some (v4, r135)
        else
          (f_X9_isWithin v4 v1 v2).bind fun r122 =>
          if r122 = 0 then
            (f_X4_refuseIf 1 2 v3 r104).bind fun r135 =>
            some (v4, r135)
          else
            (f_X4_refuseIf 0 2 v3 r104).bind fun r135 =>
            some (v4, r135)
    else
      (f_X6_byteAt (I 7 4) I).bind fun r34 =>
      (f_X4_isFigure r34).bind fun r37 =>
      if r37 = 0 then
        if (I 7 4) = v3 then
          (f_X4_refuseIf 1 1 v3 I).bind fun r104 =>
          if (4 : Int32) < ((r104 7 4) - v3) then
            (f_X4_refuseIf 1 2 v3 r104).bind fun r135 =>
            some (v4, r135)
          else
            (f_X9_isWithin v4 v1 v2).bind fun r122 =>
            if r122 = 0 then
              (f_X4_refuseIf 1 2 v3 r104).bind fun r135 =>
              some (v4, r135)
            else
              (f_X4_refuseIf 0 2 v3 r104).bind fun r135 =>
              some (v4, r135)
        else
          (f_X4_refuseIf 0 1 v3 I).bind fun r104 =>
          if (4 : Int32) < ((r104 7 4) - v3) then
            (f_X4_refuseIf 1 2 v3 r104).bind fun r135 =>
            some (v4, r135)
          else
            (f_X9_isWithin v4 v1 v2).bind fun r122 =>
            if r122 = 0 then
              (f_X4_refuseIf 1 2 v3 r104).bind fun r135 =>
              some (v4, r135)
            else
              (f_X4_refuseIf 0 2 v3 r104).bind fun r135 =>
              some (v4, r135)
      else
        if (4 : Int32) ≤ ((I 7 4) - v3) then
          f_X4_readNumber_12 n v1 v2 v3 v4 (upI I 7 4 ((I 7 4) + 1))
        else
          (f_X6_byteAt (I 7 4) I).bind fun r66 =>
          f_X4_readNumber_12 n v1 v2 v3 (((v4 * 10) + r66) - 48) (upI I 7 4 ((I 7 4) + 1))
def f_X4_readNumber (a1 : Int32) (a2 : Int32) (I : IT) : Option (Int32 × IT) :=
  (f_X4_skipBlanks I).bind fun r1 =>
  f_X4_readNumber_12 FU a1 a2 (r1 7 4) 0 r1
set_option maxRecDepth 100000 in
set_option maxHeartbeats 4000000 in
theorem w_X4_readNumber_12 (Γ : GT) (ad : Nat → Nat) : ∀ (n : Nat) (v1 : Int32) (v2 : Int32) (v3 : Int32) (v4 : Int32) (I : IT) (J : JT) (r : Int32 × IT), f_X4_readNumber_12 n v1 v2 v3 v4 I = some r → WP Γ mX4_readNumber (0, 0) 12 [(0, .ref (ad 7)), (1, .int v1), (2, .int v2), (3, .int v3), (4, .int v4)] [] (DX ad) I J (QE (some (.int r.1)) (DX ad) r.2 J) := by
  intro n
  induction n with
  | zero => intro v1 v2 v3 v4 I J r h; exact absurd h (by simp [f_X4_readNumber_12])
  | succ n ih =>
    intro v1 v2 v3 v4 I J r h
    rw [f_X4_readNumber_12] at h
    refine wp_aload_n dX4_readNumber_12 0 rfl ?_
    refine wp_getI (k := 7) dX4_readNumber_13 flX4_32 rfl rfl rfl rfl ?_
    refine wp_aload_n dX4_readNumber_16 0 rfl ?_
    refine wp_getR (k := 7) (a' := ad 1) dX4_readNumber_17 flX4_18 rfl rfl rfl rfl rfl ?_
    refine wp_getI (k := 1) dX4_readNumber_20 flX4_45 rfl rfl rfl rfl ?_
    refine wp_icmp_ge 88 dX4_readNumber_23 rfl (fun c23 => ?_) (fun c23 => ?_)
    · replace h := o_pos h c23
      refine wp_aload_n dX4_readNumber_88 0 rfl ?_
      refine wp_aload_n dX4_readNumber_89 0 rfl ?_
      refine wp_getI (k := 7) dX4_readNumber_90 flX4_32 rfl rfl rfl rfl ?_
      refine wp_iload_n dX4_readNumber_93 3 rfl ?_
      refine wp_icmp_ne 101 dX4_readNumber_94 rfl (fun c94 => ?_) (fun c94 => ?_)
      · replace h := o_neg h c94
        refine wp_iconst (v := 0) dX4_readNumber_101 (by decide) ?_
        refine wp_iconst (v := 1) dX4_readNumber_102 (by decide) ?_
        refine wp_iload_n dX4_readNumber_103 3 rfl ?_
        obtain ⟨r104, h104, h⟩ := o_bind h
        refine wp_callvV (k := 7) (ci := 4) (c_X4_refuseIf Γ ad 0 1 v3 I J r104 h104) dX4_readNumber_104 mlX4_78 mwX4_refuseIf miX4_refuseIf rfl rfl rfl rfl (Nat.le_of_ble_eq_true rfl) rfl (by decide) (by decide) ?_
        refine wp_aload_n dX4_readNumber_107 0 rfl ?_
        refine wp_aload_n dX4_readNumber_108 0 rfl ?_
        refine wp_getI (k := 7) dX4_readNumber_109 flX4_32 rfl rfl rfl rfl ?_
        refine wp_iload_n dX4_readNumber_112 3 rfl ?_
        refine wp_isub dX4_readNumber_113 ?_
        refine wp_iconst (v := 4) dX4_readNumber_114 (by decide) ?_
        refine wp_icmp_gt 128 dX4_readNumber_115 rfl (fun c115 => ?_) (fun c115 => ?_)
        · replace h := o_pos h c115
          refine wp_iconst (v := 1) dX4_readNumber_128 (by decide) ?_
          refine wp_goto 133 dX4_readNumber_129 rfl ?_
          refine wp_iconst (v := 2) dX4_readNumber_133 (by decide) ?_
          refine wp_iload_n dX4_readNumber_134 3 rfl ?_
          obtain ⟨r135, h135, h⟩ := o_bind h
          refine wp_callvV (k := 7) (ci := 4) (c_X4_refuseIf Γ ad 1 2 v3 r104 J r135 h135) dX4_readNumber_135 mlX4_78 mwX4_refuseIf miX4_refuseIf rfl rfl rfl rfl (Nat.le_of_ble_eq_true rfl) rfl (by decide) (by decide) ?_
          refine wp_iload dX4_readNumber_138 4 rfl ?_
          obtain rfl := Option.some.inj h
          exact wp_ireturn (ty := .int) dX4_readNumber_140 rfl rfl ⟨rfl, rfl, rfl, rfl⟩
        · replace h := o_neg h c115
          refine wp_iload dX4_readNumber_118 4 rfl ?_
          refine wp_iload_n dX4_readNumber_120 1 rfl ?_
          refine wp_iload_n dX4_readNumber_121 2 rfl ?_
          obtain ⟨r122, h122, h⟩ := o_bind h
          refine wp_callsNI (c_X9_isWithin Γ ad v4 v1 v2 r104 J r122 h122) dX4_readNumber_122 mlX4_130 mwX9_isWithin miX9_isWithin rfl (Nat.le_of_ble_eq_true rfl) rfl (by decide) (by decide) ?_
          refine wp_if_ne 132 dX4_readNumber_125 rfl (fun c125 => ?_) (fun c125 => ?_)
          · replace h := o_neg h c125
            refine wp_iconst (v := 0) dX4_readNumber_132 (by decide) ?_
            refine wp_iconst (v := 2) dX4_readNumber_133 (by decide) ?_
            refine wp_iload_n dX4_readNumber_134 3 rfl ?_
            obtain ⟨r135, h135, h⟩ := o_bind h
            refine wp_callvV (k := 7) (ci := 4) (c_X4_refuseIf Γ ad 0 2 v3 r104 J r135 h135) dX4_readNumber_135 mlX4_78 mwX4_refuseIf miX4_refuseIf rfl rfl rfl rfl (Nat.le_of_ble_eq_true rfl) rfl (by decide) (by decide) ?_
            refine wp_iload dX4_readNumber_138 4 rfl ?_
            obtain rfl := Option.some.inj h
            exact wp_ireturn (ty := .int) dX4_readNumber_140 rfl rfl ⟨rfl, rfl, rfl, rfl⟩
          · replace h := o_pos h c125
            refine wp_iconst (v := 1) dX4_readNumber_128 (by decide) ?_
            refine wp_goto 133 dX4_readNumber_129 rfl ?_
            refine wp_iconst (v := 2) dX4_readNumber_133 (by decide) ?_
            refine wp_iload_n dX4_readNumber_134 3 rfl ?_
            obtain ⟨r135, h135, h⟩ := o_bind h
            refine wp_callvV (k := 7) (ci := 4) (c_X4_refuseIf Γ ad 1 2 v3 r104 J r135 h135) dX4_readNumber_135 mlX4_78 mwX4_refuseIf miX4_refuseIf rfl rfl rfl rfl (Nat.le_of_ble_eq_true rfl) rfl (by decide) (by decide) ?_
            refine wp_iload dX4_readNumber_138 4 rfl ?_
            obtain rfl := Option.some.inj h
            exact wp_ireturn (ty := .int) dX4_readNumber_140 rfl rfl ⟨rfl, rfl, rfl, rfl⟩
      · replace h := o_pos h c94
        refine wp_iconst (v := 1) dX4_readNumber_97 (by decide) ?_
        refine wp_goto 102 dX4_readNumber_98 rfl ?_
        refine wp_iconst (v := 1) dX4_readNumber_102 (by decide) ?_
        refine wp_iload_n dX4_readNumber_103 3 rfl ?_
        obtain ⟨r104, h104, h⟩ := o_bind h
        refine wp_callvV (k := 7) (ci := 4) (c_X4_refuseIf Γ ad 1 1 v3 I J r104 h104) dX4_readNumber_104 mlX4_78 mwX4_refuseIf miX4_refuseIf rfl rfl rfl rfl (Nat.le_of_ble_eq_true rfl) rfl (by decide) (by decide) ?_
        refine wp_aload_n dX4_readNumber_107 0 rfl ?_
        refine wp_aload_n dX4_readNumber_108 0 rfl ?_
        refine wp_getI (k := 7) dX4_readNumber_109 flX4_32 rfl rfl rfl rfl ?_
        refine wp_iload_n dX4_readNumber_112 3 rfl ?_
        refine wp_isub dX4_readNumber_113 ?_
        refine wp_iconst (v := 4) dX4_readNumber_114 (by decide) ?_
        refine wp_icmp_gt 128 dX4_readNumber_115 rfl (fun c115 => ?_) (fun c115 => ?_)
        · replace h := o_pos h c115
          refine wp_iconst (v := 1) dX4_readNumber_128 (by decide) ?_
          refine wp_goto 133 dX4_readNumber_129 rfl ?_
          refine wp_iconst (v := 2) dX4_readNumber_133 (by decide) ?_
          refine wp_iload_n dX4_readNumber_134 3 rfl ?_
          obtain ⟨r135, h135, h⟩ := o_bind h
          refine wp_callvV (k := 7) (ci := 4) (c_X4_refuseIf Γ ad 1 2 v3 r104 J r135 h135) dX4_readNumber_135 mlX4_78 mwX4_refuseIf miX4_refuseIf rfl rfl rfl rfl (Nat.le_of_ble_eq_true rfl) rfl (by decide) (by decide) ?_
          refine wp_iload dX4_readNumber_138 4 rfl ?_
          obtain rfl := Option.some.inj h
          exact wp_ireturn (ty := .int) dX4_readNumber_140 rfl rfl ⟨rfl, rfl, rfl, rfl⟩
        · replace h := o_neg h c115
          refine wp_iload dX4_readNumber_118 4 rfl ?_
          refine wp_iload_n dX4_readNumber_120 1 rfl ?_
          refine wp_iload_n dX4_readNumber_121 2 rfl ?_
          obtain ⟨r122, h122, h⟩ := o_bind h
          refine wp_callsNI (c_X9_isWithin Γ ad v4 v1 v2 r104 J r122 h122) dX4_readNumber_122 mlX4_130 mwX9_isWithin miX9_isWithin rfl (Nat.le_of_ble_eq_true rfl) rfl (by decide) (by decide) ?_
          refine wp_if_ne 132 dX4_readNumber_125 rfl (fun c125 => ?_) (fun c125 => ?_)
          · replace h := o_neg h c125
            refine wp_iconst (v := 0) dX4_readNumber_132 (by decide) ?_
            refine wp_iconst (v := 2) dX4_readNumber_133 (by decide) ?_
            refine wp_iload_n dX4_readNumber_134 3 rfl ?_
            obtain ⟨r135, h135, h⟩ := o_bind h
            refine wp_callvV (k := 7) (ci := 4) (c_X4_refuseIf Γ ad 0 2 v3 r104 J r135 h135) dX4_readNumber_135 mlX4_78 mwX4_refuseIf miX4_refuseIf rfl rfl rfl rfl (Nat.le_of_ble_eq_true rfl) rfl (by decide) (by decide) ?_
            refine wp_iload dX4_readNumber_138 4 rfl ?_
            obtain rfl := Option.some.inj h
            exact wp_ireturn (ty := .int) dX4_readNumber_140 rfl rfl ⟨rfl, rfl, rfl, rfl⟩
          · replace h := o_pos h c125
            refine wp_iconst (v := 1) dX4_readNumber_128 (by decide) ?_
            refine wp_goto 133 dX4_readNumber_129 rfl ?_
            refine wp_iconst (v := 2) dX4_readNumber_133 (by decide) ?_
            refine wp_iload_n dX4_readNumber_134 3 rfl ?_
            obtain ⟨r135, h135, h⟩ := o_bind h
            refine wp_callvV (k := 7) (ci := 4) (c_X4_refuseIf Γ ad 1 2 v3 r104 J r135 h135) dX4_readNumber_135 mlX4_78 mwX4_refuseIf miX4_refuseIf rfl rfl rfl rfl (Nat.le_of_ble_eq_true rfl) rfl (by decide) (by decide) ?_
            refine wp_iload dX4_readNumber_138 4 rfl ?_
            obtain rfl := Option.some.inj h
            exact wp_ireturn (ty := .int) dX4_readNumber_140 rfl rfl ⟨rfl, rfl, rfl, rfl⟩
    · replace h := o_neg h c23
      refine wp_aload_n dX4_readNumber_26 0 rfl ?_
      refine wp_getR (k := 7) (a' := ad 1) dX4_readNumber_27 flX4_18 rfl rfl rfl rfl rfl ?_
      refine wp_aload_n dX4_readNumber_30 0 rfl ?_
      refine wp_getI (k := 7) dX4_readNumber_31 flX4_32 rfl rfl rfl rfl ?_
      obtain ⟨r34, h34, h⟩ := o_bind h
      refine wp_callvI (k := 1) (ci := 6) (c_X6_byteAt Γ ad (I 7 4) I J r34 h34) dX4_readNumber_34 mlX4_122 mwX6_byteAt miX6_byteAt rfl rfl rfl rfl (Nat.le_of_ble_eq_true rfl) rfl (by decide) (by decide) ?_
      obtain ⟨r37, h37, h⟩ := o_bind h
      refine wp_callsI (c_X4_isFigure Γ ad r34 I J r37 h37) dX4_readNumber_37 mlX4_126 mwX4_isFigure miX4_isFigure rfl (Nat.le_of_ble_eq_true rfl) rfl (by decide) (by decide) ?_
      refine wp_if_eq 88 dX4_readNumber_40 rfl (fun c40 => ?_) (fun c40 => ?_)
      · replace h := o_pos h c40
        refine wp_aload_n dX4_readNumber_88 0 rfl ?_
        refine wp_aload_n dX4_readNumber_89 0 rfl ?_
        refine wp_getI (k := 7) dX4_readNumber_90 flX4_32 rfl rfl rfl rfl ?_
        refine wp_iload_n dX4_readNumber_93 3 rfl ?_
        refine wp_icmp_ne 101 dX4_readNumber_94 rfl (fun c94 => ?_) (fun c94 => ?_)
        · replace h := o_neg h c94
          refine wp_iconst (v := 0) dX4_readNumber_101 (by decide) ?_
          refine wp_iconst (v := 1) dX4_readNumber_102 (by decide) ?_
          refine wp_iload_n dX4_readNumber_103 3 rfl ?_
          obtain ⟨r104, h104, h⟩ := o_bind h
          refine wp_callvV (k := 7) (ci := 4) (c_X4_refuseIf Γ ad 0 1 v3 I J r104 h104) dX4_readNumber_104 mlX4_78 mwX4_refuseIf miX4_refuseIf rfl rfl rfl rfl (Nat.le_of_ble_eq_true rfl) rfl (by decide) (by decide) ?_
          refine wp_aload_n dX4_readNumber_107 0 rfl ?_
          refine wp_aload_n dX4_readNumber_108 0 rfl ?_
          refine wp_getI (k := 7) dX4_readNumber_109 flX4_32 rfl rfl rfl rfl ?_
          refine wp_iload_n dX4_readNumber_112 3 rfl ?_
          refine wp_isub dX4_readNumber_113 ?_
          refine wp_iconst (v := 4) dX4_readNumber_114 (by decide) ?_
          refine wp_icmp_gt 128 dX4_readNumber_115 rfl (fun c115 => ?_) (fun c115 => ?_)
          · replace h := o_pos h c115
            refine wp_iconst (v := 1) dX4_readNumber_128 (by decide) ?_
            refine wp_goto 133 dX4_readNumber_129 rfl ?_
            refine wp_iconst (v := 2) dX4_readNumber_133 (by decide) ?_
            refine wp_iload_n dX4_readNumber_134 3 rfl ?_
            obtain ⟨r135, h135, h⟩ := o_bind h
            refine wp_callvV (k := 7) (ci := 4) (c_X4_refuseIf Γ ad 1 2 v3 r104 J r135 h135) dX4_readNumber_135 mlX4_78 mwX4_refuseIf miX4_refuseIf rfl rfl rfl rfl (Nat.le_of_ble_eq_true rfl) rfl (by decide) (by decide) ?_
            refine wp_iload dX4_readNumber_138 4 rfl ?_
            obtain rfl := Option.some.inj h
            exact wp_ireturn (ty := .int) dX4_readNumber_140 rfl rfl ⟨rfl, rfl, rfl, rfl⟩
          · replace h := o_neg h c115
            refine wp_iload dX4_readNumber_118 4 rfl ?_
            refine wp_iload_n dX4_readNumber_120 1 rfl ?_
            refine wp_iload_n dX4_readNumber_121 2 rfl ?_
            obtain ⟨r122, h122, h⟩ := o_bind h
            refine wp_callsNI (c_X9_isWithin Γ ad v4 v1 v2 r104 J r122 h122) dX4_readNumber_122 mlX4_130 mwX9_isWithin miX9_isWithin rfl (Nat.le_of_ble_eq_true rfl) rfl (by decide) (by decide) ?_
            refine wp_if_ne 132 dX4_readNumber_125 rfl (fun c125 => ?_) (fun c125 => ?_)
            · replace h := o_neg h c125
              refine wp_iconst (v := 0) dX4_readNumber_132 (by decide) ?_
              refine wp_iconst (v := 2) dX4_readNumber_133 (by decide) ?_
              refine wp_iload_n dX4_readNumber_134 3 rfl ?_
              obtain ⟨r135, h135, h⟩ := o_bind h
              refine wp_callvV (k := 7) (ci := 4) (c_X4_refuseIf Γ ad 0 2 v3 r104 J r135 h135) dX4_readNumber_135 mlX4_78 mwX4_refuseIf miX4_refuseIf rfl rfl rfl rfl (Nat.le_of_ble_eq_true rfl) rfl (by decide) (by decide) ?_
              refine wp_iload dX4_readNumber_138 4 rfl ?_
              obtain rfl := Option.some.inj h
              exact wp_ireturn (ty := .int) dX4_readNumber_140 rfl rfl ⟨rfl, rfl, rfl, rfl⟩
            · replace h := o_pos h c125
              refine wp_iconst (v := 1) dX4_readNumber_128 (by decide) ?_
              refine wp_goto 133 dX4_readNumber_129 rfl ?_
              refine wp_iconst (v := 2) dX4_readNumber_133 (by decide) ?_
              refine wp_iload_n dX4_readNumber_134 3 rfl ?_
              obtain ⟨r135, h135, h⟩ := o_bind h
              refine wp_callvV (k := 7) (ci := 4) (c_X4_refuseIf Γ ad 1 2 v3 r104 J r135 h135) dX4_readNumber_135 mlX4_78 mwX4_refuseIf miX4_refuseIf rfl rfl rfl rfl (Nat.le_of_ble_eq_true rfl) rfl (by decide) (by decide) ?_
              refine wp_iload dX4_readNumber_138 4 rfl ?_
              obtain rfl := Option.some.inj h
              exact wp_ireturn (ty := .int) dX4_readNumber_140 rfl rfl ⟨rfl, rfl, rfl, rfl⟩
        · replace h := o_pos h c94
          refine wp_iconst (v := 1) dX4_readNumber_97 (by decide) ?_
          refine wp_goto 102 dX4_readNumber_98 rfl ?_
          refine wp_iconst (v := 1) dX4_readNumber_102 (by decide) ?_
          refine wp_iload_n dX4_readNumber_103 3 rfl ?_
          obtain ⟨r104, h104, h⟩ := o_bind h
          refine wp_callvV (k := 7) (ci := 4) (c_X4_refuseIf Γ ad 1 1 v3 I J r104 h104) dX4_readNumber_104 mlX4_78 mwX4_refuseIf miX4_refuseIf rfl rfl rfl rfl (Nat.le_of_ble_eq_true rfl) rfl (by decide) (by decide) ?_
          refine wp_aload_n dX4_readNumber_107 0 rfl ?_
          refine wp_aload_n dX4_readNumber_108 0 rfl ?_
          refine wp_getI (k := 7) dX4_readNumber_109 flX4_32 rfl rfl rfl rfl ?_
          refine wp_iload_n dX4_readNumber_112 3 rfl ?_
          refine wp_isub dX4_readNumber_113 ?_
          refine wp_iconst (v := 4) dX4_readNumber_114 (by decide) ?_
          refine wp_icmp_gt 128 dX4_readNumber_115 rfl (fun c115 => ?_) (fun c115 => ?_)
          · replace h := o_pos h c115
            refine wp_iconst (v := 1) dX4_readNumber_128 (by decide) ?_
            refine wp_goto 133 dX4_readNumber_129 rfl ?_
            refine wp_iconst (v := 2) dX4_readNumber_133 (by decide) ?_
            refine wp_iload_n dX4_readNumber_134 3 rfl ?_
            obtain ⟨r135, h135, h⟩ := o_bind h
            refine wp_callvV (k := 7) (ci := 4) (c_X4_refuseIf Γ ad 1 2 v3 r104 J r135 h135) dX4_readNumber_135 mlX4_78 mwX4_refuseIf miX4_refuseIf rfl rfl rfl rfl (Nat.le_of_ble_eq_true rfl) rfl (by decide) (by decide) ?_
            refine wp_iload dX4_readNumber_138 4 rfl ?_
            obtain rfl := Option.some.inj h
            exact wp_ireturn (ty := .int) dX4_readNumber_140 rfl rfl ⟨rfl, rfl, rfl, rfl⟩
          · replace h := o_neg h c115
            refine wp_iload dX4_readNumber_118 4 rfl ?_
            refine wp_iload_n dX4_readNumber_120 1 rfl ?_
            refine wp_iload_n dX4_readNumber_121 2 rfl ?_
            obtain ⟨r122, h122, h⟩ := o_bind h
            refine wp_callsNI (c_X9_isWithin Γ ad v4 v1 v2 r104 J r122 h122) dX4_readNumber_122 mlX4_130 mwX9_isWithin miX9_isWithin rfl (Nat.le_of_ble_eq_true rfl) rfl (by decide) (by decide) ?_
            refine wp_if_ne 132 dX4_readNumber_125 rfl (fun c125 => ?_) (fun c125 => ?_)
            · replace h := o_neg h c125
              refine wp_iconst (v := 0) dX4_readNumber_132 (by decide) ?_
              refine wp_iconst (v := 2) dX4_readNumber_133 (by decide) ?_
              refine wp_iload_n dX4_readNumber_134 3 rfl ?_
              obtain ⟨r135, h135, h⟩ := o_bind h
              refine wp_callvV (k := 7) (ci := 4) (c_X4_refuseIf Γ ad 0 2 v3 r104 J r135 h135) dX4_readNumber_135 mlX4_78 mwX4_refuseIf miX4_refuseIf rfl rfl rfl rfl (Nat.le_of_ble_eq_true rfl) rfl (by decide) (by decide) ?_
              refine wp_iload dX4_readNumber_138 4 rfl ?_
              obtain rfl := Option.some.inj h
              exact wp_ireturn (ty := .int) dX4_readNumber_140 rfl rfl ⟨rfl, rfl, rfl, rfl⟩
            · replace h := o_pos h c125
              refine wp_iconst (v := 1) dX4_readNumber_128 (by decide) ?_
              refine wp_goto 133 dX4_readNumber_129 rfl ?_
              refine wp_iconst (v := 2) dX4_readNumber_133 (by decide) ?_
              refine wp_iload_n dX4_readNumber_134 3 rfl ?_
              obtain ⟨r135, h135, h⟩ := o_bind h
              refine wp_callvV (k := 7) (ci := 4) (c_X4_refuseIf Γ ad 1 2 v3 r104 J r135 h135) dX4_readNumber_135 mlX4_78 mwX4_refuseIf miX4_refuseIf rfl rfl rfl rfl (Nat.le_of_ble_eq_true rfl) rfl (by decide) (by decide) ?_
              refine wp_iload dX4_readNumber_138 4 rfl ?_
              obtain rfl := Option.some.inj h
              exact wp_ireturn (ty := .int) dX4_readNumber_140 rfl rfl ⟨rfl, rfl, rfl, rfl⟩
      · replace h := o_neg h c40
        refine wp_aload_n dX4_readNumber_43 0 rfl ?_
        refine wp_getI (k := 7) dX4_readNumber_44 flX4_32 rfl rfl rfl rfl ?_
        refine wp_iload_n dX4_readNumber_47 3 rfl ?_
        refine wp_isub dX4_readNumber_48 ?_
        refine wp_iconst (v := 4) dX4_readNumber_49 (by decide) ?_
        refine wp_icmp_ge 75 dX4_readNumber_50 rfl (fun c50 => ?_) (fun c50 => ?_)
        · replace h := o_pos h c50
          refine wp_aload_n dX4_readNumber_75 0 rfl ?_
          refine wp_dup dX4_readNumber_76 rfl ?_
          refine wp_getI (k := 7) dX4_readNumber_77 flX4_32 rfl rfl rfl rfl ?_
          refine wp_iconst (v := 1) dX4_readNumber_80 (by decide) ?_
          refine wp_iadd dX4_readNumber_81 ?_
          refine wp_putI (k := 7) dX4_readNumber_82 flX4_32 rfl rfl rfl rfl rfl rfl rfl rfl ?_
          refine wp_goto 12 dX4_readNumber_85 rfl ?_
          refine wp_pick [0, 1, 2, 3, 4] (lv' := [(0, _), (1, _), (2, _), (3, _), (4, _)]) rfl ?_
          exact ih v1 v2 v3 v4 (upI I 7 4 ((I 7 4) + 1)) J r h
        · replace h := o_neg h c50
          refine wp_iload dX4_readNumber_53 4 rfl ?_
          refine wp_bipush (v := 10) dX4_readNumber_55 (by decide) ?_
          refine wp_imul dX4_readNumber_57 ?_
          refine wp_aload_n dX4_readNumber_58 0 rfl ?_
          refine wp_getR (k := 7) (a' := ad 1) dX4_readNumber_59 flX4_18 rfl rfl rfl rfl rfl ?_
          refine wp_aload_n dX4_readNumber_62 0 rfl ?_
          refine wp_getI (k := 7) dX4_readNumber_63 flX4_32 rfl rfl rfl rfl ?_
          obtain ⟨r66, h66, h⟩ := o_bind h
          refine wp_callvI (k := 1) (ci := 6) (c_X6_byteAt Γ ad (I 7 4) I J r66 h66) dX4_readNumber_66 mlX4_122 mwX6_byteAt miX6_byteAt rfl rfl rfl rfl (Nat.le_of_ble_eq_true rfl) rfl (by decide) (by decide) ?_
          refine wp_iadd dX4_readNumber_69 ?_
          refine wp_bipush (v := 48) dX4_readNumber_70 (by decide) ?_
          refine wp_isub dX4_readNumber_72 ?_
          refine wp_istore (lv' := [(0, _), (1, _), (2, _), (3, _), (4, _)]) dX4_readNumber_73 rfl rfl rfl ?_
          refine wp_aload_n dX4_readNumber_75 0 rfl ?_
          refine wp_dup dX4_readNumber_76 rfl ?_
          refine wp_getI (k := 7) dX4_readNumber_77 flX4_32 rfl rfl rfl rfl ?_
          refine wp_iconst (v := 1) dX4_readNumber_80 (by decide) ?_
          refine wp_iadd dX4_readNumber_81 ?_
          refine wp_putI (k := 7) dX4_readNumber_82 flX4_32 rfl rfl rfl rfl rfl rfl rfl rfl ?_
          refine wp_goto 12 dX4_readNumber_85 rfl ?_
          refine wp_pick [0, 1, 2, 3, 4] (lv' := [(0, _), (1, _), (2, _), (3, _), (4, _)]) rfl ?_
          exact ih v1 v2 v3 (((v4 * 10) + r66) - 48) (upI I 7 4 ((I 7 4) + 1)) J r h
set_option maxRecDepth 100000 in
set_option maxHeartbeats 4000000 in
theorem c_X4_readNumber (Γ : GT) (ad : Nat → Nat) (a1 : Int32) (a2 : Int32) (I : IT) (J : JT) (r : Int32 × IT) (h : f_X4_readNumber a1 a2 I = some r) : CALL Γ mX4_readNumber (0, 0) [.ref (ad 7), .int a1, .int a2] (DX ad) I J (QE (some (.int r.1)) (DX ad) r.2 J) := by
  refine call_of' (by decide) (Nat.le_of_ble_eq_true rfl) (lv0 := [(0, .ref (ad 7)), (1, .int a1), (2, .int a2)]) rfl ?_
  unfold f_X4_readNumber at h
  refine wp_aload_n dX4_readNumber_0 0 rfl ?_
  obtain ⟨r1, h1, h⟩ := o_bind h
  refine wp_callvV (k := 7) (ci := 4) (c_X4_skipBlanks Γ ad I J r1 h1) dX4_readNumber_1 mlX4_42 mwX4_skipBlanks miX4_skipBlanks rfl rfl rfl rfl (Nat.le_of_ble_eq_true rfl) rfl (by decide) (by decide) ?_
  refine wp_aload_n dX4_readNumber_4 0 rfl ?_
  refine wp_getI (k := 7) dX4_readNumber_5 flX4_32 rfl rfl rfl rfl ?_
  refine wp_istore_n (lv' := [(0, _), (1, _), (2, _), (3, _)]) dX4_readNumber_8 rfl rfl rfl rfl ?_
  refine wp_iconst (v := 0) dX4_readNumber_9 (by decide) ?_
  refine wp_istore (lv' := [(0, _), (1, _), (2, _), (3, _), (4, _)]) dX4_readNumber_10 rfl rfl rfl ?_
  refine wp_pick [0, 1, 2, 3, 4] (lv' := [(0, _), (1, _), (2, _), (3, _), (4, _)]) rfl ?_
  exact w_X4_readNumber_12 Γ ad FU a1 a2 (r1 7 4) 0 r1 J r h
def f_X4_readSign (a1 : Int32) (I : IT) : Option (IT) :=
  (f_X4_skipBlanks I).bind fun r1 =>
  (f_X6_byteAt (r1 7 4) r1).bind fun r13 =>
  if r13 = a1 then
    (f_X4_refuseIf 0 1 (r1 7 4) r1).bind fun r30 =>
    some (upI r30 7 4 ((r30 7 4) + 1))
  else
    (f_X4_refuseIf 1 1 (r1 7 4) r1).bind fun r30 =>
    some (upI r30 7 4 ((r30 7 4) + 1))
set_option maxRecDepth 100000 in
set_option maxHeartbeats 4000000 in
theorem c_X4_readSign (Γ : GT) (ad : Nat → Nat) (a1 : Int32) (I : IT) (J : JT) (r : IT) (h : f_X4_readSign a1 I = some r) : CALL Γ mX4_readSign (0, 0) [.ref (ad 7), .int a1] (DX ad) I J (QE none (DX ad) r J) := by
  refine call_of' (by decide) (Nat.le_of_ble_eq_true rfl) (lv0 := [(0, .ref (ad 7)), (1, .int a1)]) rfl ?_
  unfold f_X4_readSign at h
  refine wp_aload_n dX4_readSign_0 0 rfl ?_
  obtain ⟨r1, h1, h⟩ := o_bind h
  refine wp_callvV (k := 7) (ci := 4) (c_X4_skipBlanks Γ ad I J r1 h1) dX4_readSign_1 mlX4_42 mwX4_skipBlanks miX4_skipBlanks rfl rfl rfl rfl (Nat.le_of_ble_eq_true rfl) rfl (by decide) (by decide) ?_
  refine wp_aload_n dX4_readSign_4 0 rfl ?_
  refine wp_aload_n dX4_readSign_5 0 rfl ?_
  refine wp_getR (k := 7) (a' := ad 1) dX4_readSign_6 flX4_18 rfl rfl rfl rfl rfl ?_
  refine wp_aload_n dX4_readSign_9 0 rfl ?_
  refine wp_getI (k := 7) dX4_readSign_10 flX4_32 rfl rfl rfl rfl ?_
  obtain ⟨r13, h13, h⟩ := o_bind h
  refine wp_callvI (k := 1) (ci := 6) (c_X6_byteAt Γ ad (r1 7 4) r1 J r13 h13) dX4_readSign_13 mlX4_122 mwX6_byteAt miX6_byteAt rfl rfl rfl rfl (Nat.le_of_ble_eq_true rfl) rfl (by decide) (by decide) ?_
  refine wp_iload_n dX4_readSign_16 1 rfl ?_
  refine wp_icmp_eq 24 dX4_readSign_17 rfl (fun c17 => ?_) (fun c17 => ?_)
  · replace h := o_pos h c17
    refine wp_iconst (v := 0) dX4_readSign_24 (by decide) ?_
    refine wp_iconst (v := 1) dX4_readSign_25 (by decide) ?_
    refine wp_aload_n dX4_readSign_26 0 rfl ?_
    refine wp_getI (k := 7) dX4_readSign_27 flX4_32 rfl rfl rfl rfl ?_
    obtain ⟨r30, h30, h⟩ := o_bind h
    refine wp_callvV (k := 7) (ci := 4) (c_X4_refuseIf Γ ad 0 1 (r1 7 4) r1 J r30 h30) dX4_readSign_30 mlX4_78 mwX4_refuseIf miX4_refuseIf rfl rfl rfl rfl (Nat.le_of_ble_eq_true rfl) rfl (by decide) (by decide) ?_
    refine wp_aload_n dX4_readSign_33 0 rfl ?_
    refine wp_dup dX4_readSign_34 rfl ?_
    refine wp_getI (k := 7) dX4_readSign_35 flX4_32 rfl rfl rfl rfl ?_
    refine wp_iconst (v := 1) dX4_readSign_38 (by decide) ?_
    refine wp_iadd dX4_readSign_39 ?_
    refine wp_putI (k := 7) dX4_readSign_40 flX4_32 rfl rfl rfl rfl rfl rfl rfl rfl ?_
    obtain rfl := Option.some.inj h
    exact wp_return dX4_readSign_43 rfl ⟨rfl, rfl, rfl, rfl⟩
  · replace h := o_neg h c17
    refine wp_iconst (v := 1) dX4_readSign_20 (by decide) ?_
    refine wp_goto 25 dX4_readSign_21 rfl ?_
    refine wp_iconst (v := 1) dX4_readSign_25 (by decide) ?_
    refine wp_aload_n dX4_readSign_26 0 rfl ?_
    refine wp_getI (k := 7) dX4_readSign_27 flX4_32 rfl rfl rfl rfl ?_
    obtain ⟨r30, h30, h⟩ := o_bind h
    refine wp_callvV (k := 7) (ci := 4) (c_X4_refuseIf Γ ad 1 1 (r1 7 4) r1 J r30 h30) dX4_readSign_30 mlX4_78 mwX4_refuseIf miX4_refuseIf rfl rfl rfl rfl (Nat.le_of_ble_eq_true rfl) rfl (by decide) (by decide) ?_
    refine wp_aload_n dX4_readSign_33 0 rfl ?_
    refine wp_dup dX4_readSign_34 rfl ?_
    refine wp_getI (k := 7) dX4_readSign_35 flX4_32 rfl rfl rfl rfl ?_
    refine wp_iconst (v := 1) dX4_readSign_38 (by decide) ?_
    refine wp_iadd dX4_readSign_39 ?_
    refine wp_putI (k := 7) dX4_readSign_40 flX4_32 rfl rfl rfl rfl rfl rfl rfl rfl ?_
    obtain rfl := Option.some.inj h
    exact wp_return dX4_readSign_43 rfl ⟨rfl, rfl, rfl, rfl⟩
def f_X2_persons_8 (I : IT) : Option (Int32) :=
  some (((I 8 0) + (I 8 1)) + (I 8 2))
set_option maxRecDepth 100000 in
set_option maxHeartbeats 4000000 in
theorem c_X2_persons_8 (Γ : GT) (ad : Nat → Nat) (I : IT) (J : JT) (r : Int32) (h : f_X2_persons_8 I = some r) : CALL Γ mX2_persons (0, 0) [.ref (ad 8)] (DX ad) I J (QE (some (.int r)) (DX ad) I J) := by
  refine call_of' (by decide) (Nat.le_of_ble_eq_true rfl) (lv0 := [(0, .ref (ad 8))]) rfl ?_
  unfold f_X2_persons_8 at h
  refine wp_aload_n dX2_persons_0 0 rfl ?_
  refine wp_getI (k := 8) dX2_persons_1 flX2_24 rfl rfl rfl rfl ?_
  refine wp_aload_n dX2_persons_4 0 rfl ?_
  refine wp_getI (k := 8) dX2_persons_5 flX2_28 rfl rfl rfl rfl ?_
  refine wp_iadd dX2_persons_8 ?_
  refine wp_aload_n dX2_persons_9 0 rfl ?_
  refine wp_getI (k := 8) dX2_persons_10 flX2_31 rfl rfl rfl rfl ?_
  refine wp_iadd dX2_persons_13 ?_
  obtain rfl := Option.some.inj h
  exact wp_ireturn (ty := .int) dX2_persons_14 rfl rfl ⟨rfl, rfl, rfl, rfl⟩
def f_X4_addPerson (a1 : Int32) (a2 : Int32) (I : IT) : Option (IT) :=
  (f_X2_persons_8 I).bind fun r4 =>
  if (14 : Int32) ≤ r4 then
    some I
  else
    if inbB r4 14 = true then
      if inbB r4 14 = true then
        some (upI (upI I 9 r4.toNatClampNeg a1) 10 r4.toNatClampNeg a2)
      else none
    else none
set_option maxRecDepth 100000 in
set_option maxHeartbeats 4000000 in
theorem c_X4_addPerson (Γ : GT) (ad : Nat → Nat) (a1 : Int32) (a2 : Int32) (I : IT) (J : JT) (r : IT) (h : f_X4_addPerson a1 a2 I = some r) : CALL Γ mX4_addPerson (0, 0) [.ref (ad 7), .int a1, .int a2] (DX ad) I J (QE none (DX ad) r J) := by
  refine call_of' (by decide) (Nat.le_of_ble_eq_true rfl) (lv0 := [(0, .ref (ad 7)), (1, .int a1), (2, .int a2)]) rfl ?_
  unfold f_X4_addPerson at h
  refine wp_aload_n dX4_addPerson_0 0 rfl ?_
  refine wp_getR (k := 7) (a' := ad 8) dX4_addPerson_1 flX4_12 rfl rfl rfl rfl rfl ?_
  obtain ⟨r4, h4, h⟩ := o_bind h
  refine wp_callvI (k := 8) (ci := 2) (c_X2_persons_8 Γ ad I J r4 h4) dX4_addPerson_4 mlX4_112 mwX2_persons miX2_persons rfl rfl rfl rfl (Nat.le_of_ble_eq_true rfl) rfl (by decide) (by decide) ?_
  refine wp_istore_n (lv' := [(0, _), (1, _), (2, _), (3, _)]) dX4_addPerson_7 rfl rfl rfl rfl ?_
  refine wp_iload_n dX4_addPerson_8 3 rfl ?_
  refine wp_bipush (v := 14) dX4_addPerson_9 (by decide) ?_
  refine wp_icmp_ge 34 dX4_addPerson_11 rfl (fun c11 => ?_) (fun c11 => ?_)
  · replace h := o_pos h c11
    obtain rfl := Option.some.inj h
    exact wp_return dX4_addPerson_34 rfl ⟨rfl, rfl, rfl, rfl⟩
  · replace h := o_neg h c11
    refine wp_aload_n dX4_addPerson_14 0 rfl ?_
    refine wp_getR (k := 7) (a' := ad 8) dX4_addPerson_15 flX4_12 rfl rfl rfl rfl rfl ?_
    refine wp_getR (k := 8) (a' := ad 9) dX4_addPerson_18 flX4_116 rfl rfl rfl rfl rfl ?_
    refine wp_iload_n dX4_addPerson_21 3 rfl ?_
    refine wp_iload_n dX4_addPerson_22 1 rfl ?_
    obtain ⟨g23, h⟩ := o_grd h
    refine wp_iast (k := 9) dX4_addPerson_23 rfl rfl (inb_of g23) ?_
    refine wp_aload_n dX4_addPerson_24 0 rfl ?_
    refine wp_getR (k := 7) (a' := ad 8) dX4_addPerson_25 flX4_12 rfl rfl rfl rfl rfl ?_
    refine wp_getR (k := 8) (a' := ad 10) dX4_addPerson_28 flX4_119 rfl rfl rfl rfl rfl ?_
    refine wp_iload_n dX4_addPerson_31 3 rfl ?_
    refine wp_iload_n dX4_addPerson_32 2 rfl ?_
    obtain ⟨g33, h⟩ := o_grd h
    refine wp_iast (k := 10) dX4_addPerson_33 rfl rfl (inb_of g33) ?_
    obtain rfl := Option.some.inj h
    exact wp_return dX4_addPerson_34 rfl ⟨rfl, rfl, rfl, rfl⟩
def f_X4_readBroker (a1 : Int32) (I : IT) : Option (IT) :=
  if (I 8 2) < (2 : Int32) then
    (f_X4_refuseIf 0 3 a1 I).bind fun r19 =>
    (f_X4_readNumber 1 2 r19).bind fun r25 =>
    (f_X4_readNumber 0 50 r25.2).bind fun r33 =>
    (f_X4_readSign 59 r33.2).bind fun r40 =>
    if (r40 7 3) = 0 then
      (f_X4_addPerson r25.1 r33.1 r40).bind fun r53 =>
      some (upI r53 8 2 ((r53 8 2) + 1))
    else
      some r40
  else
    (f_X4_refuseIf 1 3 a1 I).bind fun r19 =>
    (f_X4_readNumber 1 2 r19).bind fun r25 =>
    (f_X4_readNumber 0 50 r25.2).bind fun r33 =>
    (f_X4_readSign 59 r33.2).bind fun r40 =>
    if (r40 7 3) = 0 then
      (f_X4_addPerson r25.1 r33.1 r40).bind fun r53 =>
      some (upI r53 8 2 ((r53 8 2) + 1))
    else
      some r40
set_option maxRecDepth 100000 in
set_option maxHeartbeats 4000000 in
theorem c_X4_readBroker (Γ : GT) (ad : Nat → Nat) (a1 : Int32) (I : IT) (J : JT) (r : IT) (h : f_X4_readBroker a1 I = some r) : CALL Γ mX4_readBroker (0, 0) [.ref (ad 7), .int a1] (DX ad) I J (QE none (DX ad) r J) := by
  refine call_of' (by decide) (Nat.le_of_ble_eq_true rfl) (lv0 := [(0, .ref (ad 7)), (1, .int a1)]) rfl ?_
  unfold f_X4_readBroker at h
  refine wp_aload_n dX4_readBroker_0 0 rfl ?_
  refine wp_aload_n dX4_readBroker_1 0 rfl ?_
  refine wp_getR (k := 7) (a' := ad 8) dX4_readBroker_2 flX4_12 rfl rfl rfl rfl rfl ?_
  refine wp_getI (k := 8) dX4_readBroker_5 flX4_101 rfl rfl rfl rfl ?_
  refine wp_iconst (v := 2) dX4_readBroker_8 (by decide) ?_
  refine wp_icmp_lt 16 dX4_readBroker_9 rfl (fun c9 => ?_) (fun c9 => ?_)
  · replace h := o_pos h c9
    refine wp_iconst (v := 0) dX4_readBroker_16 (by decide) ?_
    refine wp_iconst (v := 3) dX4_readBroker_17 (by decide) ?_
    refine wp_iload_n dX4_readBroker_18 1 rfl ?_
    obtain ⟨r19, h19, h⟩ := o_bind h
    refine wp_callvV (k := 7) (ci := 4) (c_X4_refuseIf Γ ad 0 3 a1 I J r19 h19) dX4_readBroker_19 mlX4_78 mwX4_refuseIf miX4_refuseIf rfl rfl rfl rfl (Nat.le_of_ble_eq_true rfl) rfl (by decide) (by decide) ?_
    refine wp_aload_n dX4_readBroker_22 0 rfl ?_
    refine wp_iconst (v := 1) dX4_readBroker_23 (by decide) ?_
    refine wp_iconst (v := 2) dX4_readBroker_24 (by decide) ?_
    obtain ⟨r25, h25, h⟩ := o_bind h
    refine wp_callvI (k := 7) (ci := 4) (c_X4_readNumber Γ ad 1 2 r19 J r25 h25) dX4_readBroker_25 mlX4_82 mwX4_readNumber miX4_readNumber rfl rfl rfl rfl (Nat.le_of_ble_eq_true rfl) rfl (by decide) (by decide) ?_
    refine wp_istore_n (lv' := [(0, _), (1, _), (2, _)]) dX4_readBroker_28 rfl rfl rfl rfl ?_
    refine wp_aload_n dX4_readBroker_29 0 rfl ?_
    refine wp_iconst (v := 0) dX4_readBroker_30 (by decide) ?_
    refine wp_bipush (v := 50) dX4_readBroker_31 (by decide) ?_
    obtain ⟨r33, h33, h⟩ := o_bind h
    refine wp_callvI (k := 7) (ci := 4) (c_X4_readNumber Γ ad 0 50 r25.2 J r33 h33) dX4_readBroker_33 mlX4_82 mwX4_readNumber miX4_readNumber rfl rfl rfl rfl (Nat.le_of_ble_eq_true rfl) rfl (by decide) (by decide) ?_
    refine wp_istore_n (lv' := [(0, _), (1, _), (2, _), (3, _)]) dX4_readBroker_36 rfl rfl rfl rfl ?_
    refine wp_aload_n dX4_readBroker_37 0 rfl ?_
    refine wp_bipush (v := 59) dX4_readBroker_38 (by decide) ?_
    obtain ⟨r40, h40, h⟩ := o_bind h
    refine wp_callvV (k := 7) (ci := 4) (c_X4_readSign Γ ad 59 r33.2 J r40 h40) dX4_readBroker_40 mlX4_88 mwX4_readSign miX4_readSign rfl rfl rfl rfl (Nat.le_of_ble_eq_true rfl) rfl (by decide) (by decide) ?_
    refine wp_aload_n dX4_readBroker_43 0 rfl ?_
    refine wp_getI (k := 7) dX4_readBroker_44 flX4_25 rfl rfl rfl rfl ?_
    refine wp_if_ne 69 dX4_readBroker_47 rfl (fun c47 => ?_) (fun c47 => ?_)
    · replace h := o_neg h c47
      obtain rfl := Option.some.inj h
      exact wp_return dX4_readBroker_69 rfl ⟨rfl, rfl, rfl, rfl⟩
    · replace h := o_pos h c47
      refine wp_aload_n dX4_readBroker_50 0 rfl ?_
      refine wp_iload_n dX4_readBroker_51 2 rfl ?_
      refine wp_iload_n dX4_readBroker_52 3 rfl ?_
      obtain ⟨r53, h53, h⟩ := o_bind h
      refine wp_callvV (k := 7) (ci := 4) (c_X4_addPerson Γ ad r25.1 r33.1 r40 J r53 h53) dX4_readBroker_53 mlX4_104 mwX4_addPerson miX4_addPerson rfl rfl rfl rfl (Nat.le_of_ble_eq_true rfl) rfl (by decide) (by decide) ?_
      refine wp_aload_n dX4_readBroker_56 0 rfl ?_
      refine wp_getR (k := 7) (a' := ad 8) dX4_readBroker_57 flX4_12 rfl rfl rfl rfl rfl ?_
      refine wp_dup dX4_readBroker_60 rfl ?_
      refine wp_getI (k := 8) dX4_readBroker_61 flX4_101 rfl rfl rfl rfl ?_
      refine wp_iconst (v := 1) dX4_readBroker_64 (by decide) ?_
      refine wp_iadd dX4_readBroker_65 ?_
      refine wp_putI (k := 8) dX4_readBroker_66 flX4_101 rfl rfl rfl rfl rfl rfl rfl rfl ?_
      obtain rfl := Option.some.inj h
      exact wp_return dX4_readBroker_69 rfl ⟨rfl, rfl, rfl, rfl⟩
  · replace h := o_neg h c9
    refine wp_iconst (v := 1) dX4_readBroker_12 (by decide) ?_
    refine wp_goto 17 dX4_readBroker_13 rfl ?_
    refine wp_iconst (v := 3) dX4_readBroker_17 (by decide) ?_
    refine wp_iload_n dX4_readBroker_18 1 rfl ?_
    obtain ⟨r19, h19, h⟩ := o_bind h
    refine wp_callvV (k := 7) (ci := 4) (c_X4_refuseIf Γ ad 1 3 a1 I J r19 h19) dX4_readBroker_19 mlX4_78 mwX4_refuseIf miX4_refuseIf rfl rfl rfl rfl (Nat.le_of_ble_eq_true rfl) rfl (by decide) (by decide) ?_
    refine wp_aload_n dX4_readBroker_22 0 rfl ?_
    refine wp_iconst (v := 1) dX4_readBroker_23 (by decide) ?_
    refine wp_iconst (v := 2) dX4_readBroker_24 (by decide) ?_
    obtain ⟨r25, h25, h⟩ := o_bind h
    refine wp_callvI (k := 7) (ci := 4) (c_X4_readNumber Γ ad 1 2 r19 J r25 h25) dX4_readBroker_25 mlX4_82 mwX4_readNumber miX4_readNumber rfl rfl rfl rfl (Nat.le_of_ble_eq_true rfl) rfl (by decide) (by decide) ?_
    refine wp_istore_n (lv' := [(0, _), (1, _), (2, _)]) dX4_readBroker_28 rfl rfl rfl rfl ?_
    refine wp_aload_n dX4_readBroker_29 0 rfl ?_
    refine wp_iconst (v := 0) dX4_readBroker_30 (by decide) ?_
    refine wp_bipush (v := 50) dX4_readBroker_31 (by decide) ?_
    obtain ⟨r33, h33, h⟩ := o_bind h
    refine wp_callvI (k := 7) (ci := 4) (c_X4_readNumber Γ ad 0 50 r25.2 J r33 h33) dX4_readBroker_33 mlX4_82 mwX4_readNumber miX4_readNumber rfl rfl rfl rfl (Nat.le_of_ble_eq_true rfl) rfl (by decide) (by decide) ?_
    refine wp_istore_n (lv' := [(0, _), (1, _), (2, _), (3, _)]) dX4_readBroker_36 rfl rfl rfl rfl ?_
    refine wp_aload_n dX4_readBroker_37 0 rfl ?_
    refine wp_bipush (v := 59) dX4_readBroker_38 (by decide) ?_
    obtain ⟨r40, h40, h⟩ := o_bind h
    refine wp_callvV (k := 7) (ci := 4) (c_X4_readSign Γ ad 59 r33.2 J r40 h40) dX4_readBroker_40 mlX4_88 mwX4_readSign miX4_readSign rfl rfl rfl rfl (Nat.le_of_ble_eq_true rfl) rfl (by decide) (by decide) ?_
    refine wp_aload_n dX4_readBroker_43 0 rfl ?_
    refine wp_getI (k := 7) dX4_readBroker_44 flX4_25 rfl rfl rfl rfl ?_
    refine wp_if_ne 69 dX4_readBroker_47 rfl (fun c47 => ?_) (fun c47 => ?_)
    · replace h := o_neg h c47
      obtain rfl := Option.some.inj h
      exact wp_return dX4_readBroker_69 rfl ⟨rfl, rfl, rfl, rfl⟩
    · replace h := o_pos h c47
      refine wp_aload_n dX4_readBroker_50 0 rfl ?_
      refine wp_iload_n dX4_readBroker_51 2 rfl ?_
      refine wp_iload_n dX4_readBroker_52 3 rfl ?_
      obtain ⟨r53, h53, h⟩ := o_bind h
      refine wp_callvV (k := 7) (ci := 4) (c_X4_addPerson Γ ad r25.1 r33.1 r40 J r53 h53) dX4_readBroker_53 mlX4_104 mwX4_addPerson miX4_addPerson rfl rfl rfl rfl (Nat.le_of_ble_eq_true rfl) rfl (by decide) (by decide) ?_
      refine wp_aload_n dX4_readBroker_56 0 rfl ?_
      refine wp_getR (k := 7) (a' := ad 8) dX4_readBroker_57 flX4_12 rfl rfl rfl rfl rfl ?_
      refine wp_dup dX4_readBroker_60 rfl ?_
      refine wp_getI (k := 8) dX4_readBroker_61 flX4_101 rfl rfl rfl rfl ?_
      refine wp_iconst (v := 1) dX4_readBroker_64 (by decide) ?_
      refine wp_iadd dX4_readBroker_65 ?_
      refine wp_putI (k := 8) dX4_readBroker_66 flX4_101 rfl rfl rfl rfl rfl rfl rfl rfl ?_
      obtain rfl := Option.some.inj h
      exact wp_return dX4_readBroker_69 rfl ⟨rfl, rfl, rfl, rfl⟩
def f_X4_readBuyer_91 : Nat → Int32 → Int32 → Int32 → IT → Option (IT)
  | 0, _, _, _, _ => none
  | n + 1, v2, v3, v4, I =>
    if (I 8 0) ≤ v4 then
      (f_X4_readSign 59 I).bind fun r159 =>
      if (r159 7 3) = 0 then
        (f_X4_addPerson v2 v3 r159).bind fun r172 =>
        some (upI r172 8 1 ((r172 8 1) + 1))
      else
        some r159
    else
      if (I 7 3) = 0 then
        if v4 ≤ 0 then
          (f_X4_readNumber 0 999 I).bind fun r146 =>
          if inbB (((I 8 1) * 6) + v4) 36 = true then
            f_X4_readBuyer_91 n v2 v3 (v4 + 1) (upI r146.2 11 ((((I 8 1) * 6) + v4).toNatClampNeg) r146.1)
          else none
        else
          (f_X4_readSign 44 I).bind fun r118 =>
          (f_X4_readNumber 0 999 r118).bind fun r146 =>
          if inbB (((r118 8 1) * 6) + v4) 36 = true then
            f_X4_readBuyer_91 n v2 v3 (v4 + 1) (upI r146.2 11 ((((r118 8 1) * 6) + v4).toNatClampNeg) r146.1)
          else none
      else
        (f_X4_readSign 59 I).bind fun r159 =>
        if (r159 7 3) = 0 then
          (f_X4_addPerson v2 v3 r159).bind fun r172 =>
          some (upI r172 8 1 ((r172 8 1) + 1))
        else
          some r159
def f_X4_readBuyer (a1 : Int32) (I : IT) : Option (IT) :=
  if (I 8 1) < (6 : Int32) then
    (f_X4_refuseIf 0 3 a1 I).bind fun r20 =>
    if (r20 8 2) ≤ 0 then
      (f_X4_refuseIf 0 4 a1 r20).bind fun r41 =>
      (f_X4_readNumber 1 2 r41).bind fun r47 =>
      (f_X4_readNumber 0 9999 r47.2).bind fun r56 =>
      (f_X4_skipBlanks r56.2).bind fun r61 =>
      if (r61 8 0) = 0 then
        (f_X4_refuseIf 1 1 (r61 7 4) r61).bind fun r85 =>
        f_X4_readBuyer_91 FU r47.1 r56.1 0 r85
      else
        (f_X4_refuseIf 0 1 (r61 7 4) r61).bind fun r85 =>
        f_X4_readBuyer_91 FU r47.1 r56.1 0 r85
    else
      (f_X4_refuseIf 1 4 a1 r20).bind fun r41 =>
      (f_X4_readNumber 1 2 r41).bind fun r47 =>
      (f_X4_readNumber 0 9999 r47.2).bind fun r56 =>
      (f_X4_skipBlanks r56.2).bind fun r61 =>
      if (r61 8 0) = 0 then
        (f_X4_refuseIf 1 1 (r61 7 4) r61).bind fun r85 =>
        f_X4_readBuyer_91 FU r47.1 r56.1 0 r85
      else
        (f_X4_refuseIf 0 1 (r61 7 4) r61).bind fun r85 =>
        f_X4_readBuyer_91 FU r47.1 r56.1 0 r85
  else
    (f_X4_refuseIf 1 3 a1 I).bind fun r20 =>
    if (r20 8 2) ≤ 0 then
      (f_X4_refuseIf 0 4 a1 r20).bind fun r41 =>
      (f_X4_readNumber 1 2 r41).bind fun r47 =>
      (f_X4_readNumber 0 9999 r47.2).bind fun r56 =>
      (f_X4_skipBlanks r56.2).bind fun r61 =>
      if (r61 8 0) = 0 then
        (f_X4_refuseIf 1 1 (r61 7 4) r61).bind fun r85 =>
        f_X4_readBuyer_91 FU r47.1 r56.1 0 r85
      else
        (f_X4_refuseIf 0 1 (r61 7 4) r61).bind fun r85 =>
        f_X4_readBuyer_91 FU r47.1 r56.1 0 r85
    else
      (f_X4_refuseIf 1 4 a1 r20).bind fun r41 =>
      (f_X4_readNumber 1 2 r41).bind fun r47 =>
      (f_X4_readNumber 0 9999 r47.2).bind fun r56 =>
      (f_X4_skipBlanks r56.2).bind fun r61 =>
      if (r61 8 0) = 0 then
        (f_X4_refuseIf 1 1 (r61 7 4) r61).bind fun r85 =>
        f_X4_readBuyer_91 FU r47.1 r56.1 0 r85
      else
        (f_X4_refuseIf 0 1 (r61 7 4) r61).bind fun r85 =>
        f_X4_readBuyer_91 FU r47.1 r56.1 0 r85
set_option maxRecDepth 100000 in
set_option maxHeartbeats 4000000 in
theorem w_X4_readBuyer_91 (Γ : GT) (ad : Nat → Nat) : ∀ (n : Nat) (v2 : Int32) (v3 : Int32) (v4 : Int32) (I : IT) (J : JT) (r : IT), f_X4_readBuyer_91 n v2 v3 v4 I = some r → WP Γ mX4_readBuyer (0, 0) 91 [(0, .ref (ad 7)), (2, .int v2), (3, .int v3), (4, .int v4)] [] (DX ad) I J (QE none (DX ad) r J) := by
  intro n
  induction n with
  | zero => intro v2 v3 v4 I J r h; exact absurd h (by simp [f_X4_readBuyer_91])
  | succ n ih =>
    intro v2 v3 v4 I J r h
    rw [f_X4_readBuyer_91] at h
    refine wp_iload dX4_readBuyer_91 3 rfl ?_
    refine wp_aload_n dX4_readBuyer_93 0 rfl ?_
    refine wp_getR (k := 7) (a' := ad 8) dX4_readBuyer_94 flX4_12 rfl rfl rfl rfl rfl ?_
    refine wp_getI (k := 8) dX4_readBuyer_97 flX4_95 rfl rfl rfl rfl ?_
    refine wp_icmp_ge 156 dX4_readBuyer_100 rfl (fun c100 => ?_) (fun c100 => ?_)
    · replace h := o_pos h c100
      refine wp_aload_n dX4_readBuyer_156 0 rfl ?_
      refine wp_bipush (v := 59) dX4_readBuyer_157 (by decide) ?_
      obtain ⟨r159, h159, h⟩ := o_bind h
      refine wp_callvV (k := 7) (ci := 4) (c_X4_readSign Γ ad 59 I J r159 h159) dX4_readBuyer_159 mlX4_88 mwX4_readSign miX4_readSign rfl rfl rfl rfl (Nat.le_of_ble_eq_true rfl) rfl (by decide) (by decide) ?_
      refine wp_aload_n dX4_readBuyer_162 0 rfl ?_
      refine wp_getI (k := 7) dX4_readBuyer_163 flX4_25 rfl rfl rfl rfl ?_
      refine wp_if_ne 188 dX4_readBuyer_166 rfl (fun c166 => ?_) (fun c166 => ?_)
      · replace h := o_neg h c166
        obtain rfl := Option.some.inj h
        exact wp_return dX4_readBuyer_188 rfl ⟨rfl, rfl, rfl, rfl⟩
      · replace h := o_pos h c166
        refine wp_aload_n dX4_readBuyer_169 0 rfl ?_
        refine wp_iload_n dX4_readBuyer_170 1 rfl ?_
        refine wp_iload_n dX4_readBuyer_171 2 rfl ?_
        obtain ⟨r172, h172, h⟩ := o_bind h
        refine wp_callvV (k := 7) (ci := 4) (c_X4_addPerson Γ ad v2 v3 r159 J r172 h172) dX4_readBuyer_172 mlX4_104 mwX4_addPerson miX4_addPerson rfl rfl rfl rfl (Nat.le_of_ble_eq_true rfl) rfl (by decide) (by decide) ?_
        refine wp_aload_n dX4_readBuyer_175 0 rfl ?_
        refine wp_getR (k := 7) (a' := ad 8) dX4_readBuyer_176 flX4_12 rfl rfl rfl rfl rfl ?_
        refine wp_dup dX4_readBuyer_179 rfl ?_
        refine wp_getI (k := 8) dX4_readBuyer_180 flX4_98 rfl rfl rfl rfl ?_
        refine wp_iconst (v := 1) dX4_readBuyer_183 (by decide) ?_
        refine wp_iadd dX4_readBuyer_184 ?_
        refine wp_putI (k := 8) dX4_readBuyer_185 flX4_98 rfl rfl rfl rfl rfl rfl rfl rfl ?_
        obtain rfl := Option.some.inj h
        exact wp_return dX4_readBuyer_188 rfl ⟨rfl, rfl, rfl, rfl⟩
    · replace h := o_neg h c100
      refine wp_aload_n dX4_readBuyer_103 0 rfl ?_
      refine wp_getI (k := 7) dX4_readBuyer_104 flX4_25 rfl rfl rfl rfl ?_
      refine wp_if_ne 156 dX4_readBuyer_107 rfl (fun c107 => ?_) (fun c107 => ?_)
      · replace h := o_neg h c107
        refine wp_aload_n dX4_readBuyer_156 0 rfl ?_
        refine wp_bipush (v := 59) dX4_readBuyer_157 (by decide) ?_
        obtain ⟨r159, h159, h⟩ := o_bind h
        refine wp_callvV (k := 7) (ci := 4) (c_X4_readSign Γ ad 59 I J r159 h159) dX4_readBuyer_159 mlX4_88 mwX4_readSign miX4_readSign rfl rfl rfl rfl (Nat.le_of_ble_eq_true rfl) rfl (by decide) (by decide) ?_
        refine wp_aload_n dX4_readBuyer_162 0 rfl ?_
        refine wp_getI (k := 7) dX4_readBuyer_163 flX4_25 rfl rfl rfl rfl ?_
        refine wp_if_ne 188 dX4_readBuyer_166 rfl (fun c166 => ?_) (fun c166 => ?_)
        · replace h := o_neg h c166
          obtain rfl := Option.some.inj h
          exact wp_return dX4_readBuyer_188 rfl ⟨rfl, rfl, rfl, rfl⟩
        · replace h := o_pos h c166
          refine wp_aload_n dX4_readBuyer_169 0 rfl ?_
          refine wp_iload_n dX4_readBuyer_170 1 rfl ?_
          refine wp_iload_n dX4_readBuyer_171 2 rfl ?_
          obtain ⟨r172, h172, h⟩ := o_bind h
          refine wp_callvV (k := 7) (ci := 4) (c_X4_addPerson Γ ad v2 v3 r159 J r172 h172) dX4_readBuyer_172 mlX4_104 mwX4_addPerson miX4_addPerson rfl rfl rfl rfl (Nat.le_of_ble_eq_true rfl) rfl (by decide) (by decide) ?_
          refine wp_aload_n dX4_readBuyer_175 0 rfl ?_
          refine wp_getR (k := 7) (a' := ad 8) dX4_readBuyer_176 flX4_12 rfl rfl rfl rfl rfl ?_
          refine wp_dup dX4_readBuyer_179 rfl ?_
          refine wp_getI (k := 8) dX4_readBuyer_180 flX4_98 rfl rfl rfl rfl ?_
          refine wp_iconst (v := 1) dX4_readBuyer_183 (by decide) ?_
          refine wp_iadd dX4_readBuyer_184 ?_
          refine wp_putI (k := 8) dX4_readBuyer_185 flX4_98 rfl rfl rfl rfl rfl rfl rfl rfl ?_
          obtain rfl := Option.some.inj h
          exact wp_return dX4_readBuyer_188 rfl ⟨rfl, rfl, rfl, rfl⟩
      · replace h := o_pos h c107
        refine wp_iload dX4_readBuyer_110 3 rfl ?_
        refine wp_if_le 121 dX4_readBuyer_112 rfl (fun c112 => ?_) (fun c112 => ?_)
        · replace h := o_pos h c112
          refine wp_aload_n dX4_readBuyer_121 0 rfl ?_
          refine wp_getR (k := 7) (a' := ad 8) dX4_readBuyer_122 flX4_12 rfl rfl rfl rfl rfl ?_
          refine wp_getR (k := 8) (a' := ad 11) dX4_readBuyer_125 flX4_108 rfl rfl rfl rfl rfl ?_
          refine wp_aload_n dX4_readBuyer_128 0 rfl ?_
          refine wp_getR (k := 7) (a' := ad 8) dX4_readBuyer_129 flX4_12 rfl rfl rfl rfl rfl ?_
          refine wp_getI (k := 8) dX4_readBuyer_132 flX4_98 rfl rfl rfl rfl ?_
          refine wp_bipush (v := 6) dX4_readBuyer_135 (by decide) ?_
          refine wp_imul dX4_readBuyer_137 ?_
          refine wp_iload dX4_readBuyer_138 3 rfl ?_
          refine wp_iadd dX4_readBuyer_140 ?_
          refine wp_aload_n dX4_readBuyer_141 0 rfl ?_
          refine wp_iconst (v := 0) dX4_readBuyer_142 (by decide) ?_
          refine wp_sipush (v := 999) dX4_readBuyer_143 (by decide) ?_
          obtain ⟨r146, h146, h⟩ := o_bind h
          refine wp_callvI (k := 7) (ci := 4) (c_X4_readNumber Γ ad 0 999 I J r146 h146) dX4_readBuyer_146 mlX4_82 mwX4_readNumber miX4_readNumber rfl rfl rfl rfl (Nat.le_of_ble_eq_true rfl) rfl (by decide) (by decide) ?_
          obtain ⟨g149, h⟩ := o_grd h
          refine wp_iast (k := 11) dX4_readBuyer_149 rfl rfl (inb_of g149) ?_
          refine wp_iinc (v := v4 + 1) (lv' := [(0, _), (2, _), (3, _), (4, _)]) dX4_readBuyer_150 3 rfl rfl rfl rfl rfl ?_
          refine wp_goto 91 dX4_readBuyer_153 rfl ?_
          refine wp_pick [0, 1, 2, 3] (lv' := [(0, _), (2, _), (3, _), (4, _)]) rfl ?_
          exact ih v2 v3 (v4 + 1) (upI r146.2 11 ((((I 8 1) * 6) + v4).toNatClampNeg) r146.1) J r h
        · replace h := o_neg h c112
          refine wp_aload_n dX4_readBuyer_115 0 rfl ?_
          refine wp_bipush (v := 44) dX4_readBuyer_116 (by decide) ?_
          obtain ⟨r118, h118, h⟩ := o_bind h
          refine wp_callvV (k := 7) (ci := 4) (c_X4_readSign Γ ad 44 I J r118 h118) dX4_readBuyer_118 mlX4_88 mwX4_readSign miX4_readSign rfl rfl rfl rfl (Nat.le_of_ble_eq_true rfl) rfl (by decide) (by decide) ?_
          refine wp_aload_n dX4_readBuyer_121 0 rfl ?_
          refine wp_getR (k := 7) (a' := ad 8) dX4_readBuyer_122 flX4_12 rfl rfl rfl rfl rfl ?_
          refine wp_getR (k := 8) (a' := ad 11) dX4_readBuyer_125 flX4_108 rfl rfl rfl rfl rfl ?_
          refine wp_aload_n dX4_readBuyer_128 0 rfl ?_
          refine wp_getR (k := 7) (a' := ad 8) dX4_readBuyer_129 flX4_12 rfl rfl rfl rfl rfl ?_
          refine wp_getI (k := 8) dX4_readBuyer_132 flX4_98 rfl rfl rfl rfl ?_
          refine wp_bipush (v := 6) dX4_readBuyer_135 (by decide) ?_
          refine wp_imul dX4_readBuyer_137 ?_
          refine wp_iload dX4_readBuyer_138 3 rfl ?_
          refine wp_iadd dX4_readBuyer_140 ?_
          refine wp_aload_n dX4_readBuyer_141 0 rfl ?_
          refine wp_iconst (v := 0) dX4_readBuyer_142 (by decide) ?_
          refine wp_sipush (v := 999) dX4_readBuyer_143 (by decide) ?_
          obtain ⟨r146, h146, h⟩ := o_bind h
          refine wp_callvI (k := 7) (ci := 4) (c_X4_readNumber Γ ad 0 999 r118 J r146 h146) dX4_readBuyer_146 mlX4_82 mwX4_readNumber miX4_readNumber rfl rfl rfl rfl (Nat.le_of_ble_eq_true rfl) rfl (by decide) (by decide) ?_
          obtain ⟨g149, h⟩ := o_grd h
          refine wp_iast (k := 11) dX4_readBuyer_149 rfl rfl (inb_of g149) ?_
          refine wp_iinc (v := v4 + 1) (lv' := [(0, _), (2, _), (3, _), (4, _)]) dX4_readBuyer_150 3 rfl rfl rfl rfl rfl ?_
          refine wp_goto 91 dX4_readBuyer_153 rfl ?_
          refine wp_pick [0, 1, 2, 3] (lv' := [(0, _), (2, _), (3, _), (4, _)]) rfl ?_
          exact ih v2 v3 (v4 + 1) (upI r146.2 11 ((((r118 8 1) * 6) + v4).toNatClampNeg) r146.1) J r h
set_option maxRecDepth 100000 in
set_option maxHeartbeats 4000000 in
theorem c_X4_readBuyer (Γ : GT) (ad : Nat → Nat) (a1 : Int32) (I : IT) (J : JT) (r : IT) (h : f_X4_readBuyer a1 I = some r) : CALL Γ mX4_readBuyer (0, 0) [.ref (ad 7), .int a1] (DX ad) I J (QE none (DX ad) r J) := by
  refine call_of' (by decide) (Nat.le_of_ble_eq_true rfl) (lv0 := [(0, .ref (ad 7)), (1, .int a1)]) rfl ?_
  unfold f_X4_readBuyer at h
  refine wp_aload_n dX4_readBuyer_0 0 rfl ?_
  refine wp_aload_n dX4_readBuyer_1 0 rfl ?_
  refine wp_getR (k := 7) (a' := ad 8) dX4_readBuyer_2 flX4_12 rfl rfl rfl rfl rfl ?_
  refine wp_getI (k := 8) dX4_readBuyer_5 flX4_98 rfl rfl rfl rfl ?_
  refine wp_bipush (v := 6) dX4_readBuyer_8 (by decide) ?_
  refine wp_icmp_lt 17 dX4_readBuyer_10 rfl (fun c10 => ?_) (fun c10 => ?_)
  · replace h := o_pos h c10
    refine wp_iconst (v := 0) dX4_readBuyer_17 (by decide) ?_
    refine wp_iconst (v := 3) dX4_readBuyer_18 (by decide) ?_
    refine wp_iload_n dX4_readBuyer_19 1 rfl ?_
    obtain ⟨r20, h20, h⟩ := o_bind h
    refine wp_callvV (k := 7) (ci := 4) (c_X4_refuseIf Γ ad 0 3 a1 I J r20 h20) dX4_readBuyer_20 mlX4_78 mwX4_refuseIf miX4_refuseIf rfl rfl rfl rfl (Nat.le_of_ble_eq_true rfl) rfl (by decide) (by decide) ?_
    refine wp_aload_n dX4_readBuyer_23 0 rfl ?_
    refine wp_aload_n dX4_readBuyer_24 0 rfl ?_
    refine wp_getR (k := 7) (a' := ad 8) dX4_readBuyer_25 flX4_12 rfl rfl rfl rfl rfl ?_
    refine wp_getI (k := 8) dX4_readBuyer_28 flX4_101 rfl rfl rfl rfl ?_
    refine wp_if_le 38 dX4_readBuyer_31 rfl (fun c31 => ?_) (fun c31 => ?_)
    · replace h := o_pos h c31
      refine wp_iconst (v := 0) dX4_readBuyer_38 (by decide) ?_
      refine wp_iconst (v := 4) dX4_readBuyer_39 (by decide) ?_
      refine wp_iload_n dX4_readBuyer_40 1 rfl ?_
      obtain ⟨r41, h41, h⟩ := o_bind h
      refine wp_callvV (k := 7) (ci := 4) (c_X4_refuseIf Γ ad 0 4 a1 r20 J r41 h41) dX4_readBuyer_41 mlX4_78 mwX4_refuseIf miX4_refuseIf rfl rfl rfl rfl (Nat.le_of_ble_eq_true rfl) rfl (by decide) (by decide) ?_
      refine wp_aload_n dX4_readBuyer_44 0 rfl ?_
      refine wp_iconst (v := 1) dX4_readBuyer_45 (by decide) ?_
      refine wp_iconst (v := 2) dX4_readBuyer_46 (by decide) ?_
      obtain ⟨r47, h47, h⟩ := o_bind h
      refine wp_callvI (k := 7) (ci := 4) (c_X4_readNumber Γ ad 1 2 r41 J r47 h47) dX4_readBuyer_47 mlX4_82 mwX4_readNumber miX4_readNumber rfl rfl rfl rfl (Nat.le_of_ble_eq_true rfl) rfl (by decide) (by decide) ?_
      refine wp_istore_n (lv' := [(0, _), (1, _), (2, _)]) dX4_readBuyer_50 rfl rfl rfl rfl ?_
      refine wp_aload_n dX4_readBuyer_51 0 rfl ?_
      refine wp_iconst (v := 0) dX4_readBuyer_52 (by decide) ?_
      refine wp_sipush (v := 9999) dX4_readBuyer_53 (by decide) ?_
      obtain ⟨r56, h56, h⟩ := o_bind h
      refine wp_callvI (k := 7) (ci := 4) (c_X4_readNumber Γ ad 0 9999 r47.2 J r56 h56) dX4_readBuyer_56 mlX4_82 mwX4_readNumber miX4_readNumber rfl rfl rfl rfl (Nat.le_of_ble_eq_true rfl) rfl (by decide) (by decide) ?_
      refine wp_istore_n (lv' := [(0, _), (1, _), (2, _), (3, _)]) dX4_readBuyer_59 rfl rfl rfl rfl ?_
      refine wp_aload_n dX4_readBuyer_60 0 rfl ?_
      obtain ⟨r61, h61, h⟩ := o_bind h
      refine wp_callvV (k := 7) (ci := 4) (c_X4_skipBlanks Γ ad r56.2 J r61 h61) dX4_readBuyer_61 mlX4_42 mwX4_skipBlanks miX4_skipBlanks rfl rfl rfl rfl (Nat.le_of_ble_eq_true rfl) rfl (by decide) (by decide) ?_
      refine wp_aload_n dX4_readBuyer_64 0 rfl ?_
      refine wp_aload_n dX4_readBuyer_65 0 rfl ?_
      refine wp_getR (k := 7) (a' := ad 8) dX4_readBuyer_66 flX4_12 rfl rfl rfl rfl rfl ?_
      refine wp_getI (k := 8) dX4_readBuyer_69 flX4_95 rfl rfl rfl rfl ?_
      refine wp_if_ne 79 dX4_readBuyer_72 rfl (fun c72 => ?_) (fun c72 => ?_)
      · replace h := o_neg h c72
        refine wp_iconst (v := 0) dX4_readBuyer_79 (by decide) ?_
        refine wp_iconst (v := 1) dX4_readBuyer_80 (by decide) ?_
        refine wp_aload_n dX4_readBuyer_81 0 rfl ?_
        refine wp_getI (k := 7) dX4_readBuyer_82 flX4_32 rfl rfl rfl rfl ?_
        obtain ⟨r85, h85, h⟩ := o_bind h
        refine wp_callvV (k := 7) (ci := 4) (c_X4_refuseIf Γ ad 0 1 (r61 7 4) r61 J r85 h85) dX4_readBuyer_85 mlX4_78 mwX4_refuseIf miX4_refuseIf rfl rfl rfl rfl (Nat.le_of_ble_eq_true rfl) rfl (by decide) (by decide) ?_
        refine wp_iconst (v := 0) dX4_readBuyer_88 (by decide) ?_
        refine wp_istore (lv' := [(0, _), (1, _), (2, _), (3, _), (4, _)]) dX4_readBuyer_89 rfl rfl rfl ?_
        refine wp_pick [0, 2, 3, 4] (lv' := [(0, _), (2, _), (3, _), (4, _)]) rfl ?_
        exact w_X4_readBuyer_91 Γ ad FU r47.1 r56.1 0 r85 J r h
      · replace h := o_pos h c72
        refine wp_iconst (v := 1) dX4_readBuyer_75 (by decide) ?_
        refine wp_goto 80 dX4_readBuyer_76 rfl ?_
        refine wp_iconst (v := 1) dX4_readBuyer_80 (by decide) ?_
        refine wp_aload_n dX4_readBuyer_81 0 rfl ?_
        refine wp_getI (k := 7) dX4_readBuyer_82 flX4_32 rfl rfl rfl rfl ?_
        obtain ⟨r85, h85, h⟩ := o_bind h
        refine wp_callvV (k := 7) (ci := 4) (c_X4_refuseIf Γ ad 1 1 (r61 7 4) r61 J r85 h85) dX4_readBuyer_85 mlX4_78 mwX4_refuseIf miX4_refuseIf rfl rfl rfl rfl (Nat.le_of_ble_eq_true rfl) rfl (by decide) (by decide) ?_
        refine wp_iconst (v := 0) dX4_readBuyer_88 (by decide) ?_
        refine wp_istore (lv' := [(0, _), (1, _), (2, _), (3, _), (4, _)]) dX4_readBuyer_89 rfl rfl rfl ?_
        refine wp_pick [0, 2, 3, 4] (lv' := [(0, _), (2, _), (3, _), (4, _)]) rfl ?_
        exact w_X4_readBuyer_91 Γ ad FU r47.1 r56.1 0 r85 J r h
    · replace h := o_neg h c31
      refine wp_iconst (v := 1) dX4_readBuyer_34 (by decide) ?_
      refine wp_goto 39 dX4_readBuyer_35 rfl ?_
      refine wp_iconst (v := 4) dX4_readBuyer_39 (by decide) ?_
      refine wp_iload_n dX4_readBuyer_40 1 rfl ?_
      obtain ⟨r41, h41, h⟩ := o_bind h
      refine wp_callvV (k := 7) (ci := 4) (c_X4_refuseIf Γ ad 1 4 a1 r20 J r41 h41) dX4_readBuyer_41 mlX4_78 mwX4_refuseIf miX4_refuseIf rfl rfl rfl rfl (Nat.le_of_ble_eq_true rfl) rfl (by decide) (by decide) ?_
      refine wp_aload_n dX4_readBuyer_44 0 rfl ?_
      refine wp_iconst (v := 1) dX4_readBuyer_45 (by decide) ?_
      refine wp_iconst (v := 2) dX4_readBuyer_46 (by decide) ?_
      obtain ⟨r47, h47, h⟩ := o_bind h
      refine wp_callvI (k := 7) (ci := 4) (c_X4_readNumber Γ ad 1 2 r41 J r47 h47) dX4_readBuyer_47 mlX4_82 mwX4_readNumber miX4_readNumber rfl rfl rfl rfl (Nat.le_of_ble_eq_true rfl) rfl (by decide) (by decide) ?_
      refine wp_istore_n (lv' := [(0, _), (1, _), (2, _)]) dX4_readBuyer_50 rfl rfl rfl rfl ?_
      refine wp_aload_n dX4_readBuyer_51 0 rfl ?_
      refine wp_iconst (v := 0) dX4_readBuyer_52 (by decide) ?_
      refine wp_sipush (v := 9999) dX4_readBuyer_53 (by decide) ?_
      obtain ⟨r56, h56, h⟩ := o_bind h
      refine wp_callvI (k := 7) (ci := 4) (c_X4_readNumber Γ ad 0 9999 r47.2 J r56 h56) dX4_readBuyer_56 mlX4_82 mwX4_readNumber miX4_readNumber rfl rfl rfl rfl (Nat.le_of_ble_eq_true rfl) rfl (by decide) (by decide) ?_
      refine wp_istore_n (lv' := [(0, _), (1, _), (2, _), (3, _)]) dX4_readBuyer_59 rfl rfl rfl rfl ?_
      refine wp_aload_n dX4_readBuyer_60 0 rfl ?_
      obtain ⟨r61, h61, h⟩ := o_bind h
      refine wp_callvV (k := 7) (ci := 4) (c_X4_skipBlanks Γ ad r56.2 J r61 h61) dX4_readBuyer_61 mlX4_42 mwX4_skipBlanks miX4_skipBlanks rfl rfl rfl rfl (Nat.le_of_ble_eq_true rfl) rfl (by decide) (by decide) ?_
      refine wp_aload_n dX4_readBuyer_64 0 rfl ?_
      refine wp_aload_n dX4_readBuyer_65 0 rfl ?_
      refine wp_getR (k := 7) (a' := ad 8) dX4_readBuyer_66 flX4_12 rfl rfl rfl rfl rfl ?_
      refine wp_getI (k := 8) dX4_readBuyer_69 flX4_95 rfl rfl rfl rfl ?_
      refine wp_if_ne 79 dX4_readBuyer_72 rfl (fun c72 => ?_) (fun c72 => ?_)
      · replace h := o_neg h c72
        refine wp_iconst (v := 0) dX4_readBuyer_79 (by decide) ?_
        refine wp_iconst (v := 1) dX4_readBuyer_80 (by decide) ?_
        refine wp_aload_n dX4_readBuyer_81 0 rfl ?_
        refine wp_getI (k := 7) dX4_readBuyer_82 flX4_32 rfl rfl rfl rfl ?_
        obtain ⟨r85, h85, h⟩ := o_bind h
        refine wp_callvV (k := 7) (ci := 4) (c_X4_refuseIf Γ ad 0 1 (r61 7 4) r61 J r85 h85) dX4_readBuyer_85 mlX4_78 mwX4_refuseIf miX4_refuseIf rfl rfl rfl rfl (Nat.le_of_ble_eq_true rfl) rfl (by decide) (by decide) ?_
        refine wp_iconst (v := 0) dX4_readBuyer_88 (by decide) ?_
        refine wp_istore (lv' := [(0, _), (1, _), (2, _), (3, _), (4, _)]) dX4_readBuyer_89 rfl rfl rfl ?_
        refine wp_pick [0, 2, 3, 4] (lv' := [(0, _), (2, _), (3, _), (4, _)]) rfl ?_
        exact w_X4_readBuyer_91 Γ ad FU r47.1 r56.1 0 r85 J r h
      · replace h := o_pos h c72
        refine wp_iconst (v := 1) dX4_readBuyer_75 (by decide) ?_
        refine wp_goto 80 dX4_readBuyer_76 rfl ?_
        refine wp_iconst (v := 1) dX4_readBuyer_80 (by decide) ?_
        refine wp_aload_n dX4_readBuyer_81 0 rfl ?_
        refine wp_getI (k := 7) dX4_readBuyer_82 flX4_32 rfl rfl rfl rfl ?_
        obtain ⟨r85, h85, h⟩ := o_bind h
        refine wp_callvV (k := 7) (ci := 4) (c_X4_refuseIf Γ ad 1 1 (r61 7 4) r61 J r85 h85) dX4_readBuyer_85 mlX4_78 mwX4_refuseIf miX4_refuseIf rfl rfl rfl rfl (Nat.le_of_ble_eq_true rfl) rfl (by decide) (by decide) ?_
        refine wp_iconst (v := 0) dX4_readBuyer_88 (by decide) ?_
        refine wp_istore (lv' := [(0, _), (1, _), (2, _), (3, _), (4, _)]) dX4_readBuyer_89 rfl rfl rfl ?_
        refine wp_pick [0, 2, 3, 4] (lv' := [(0, _), (2, _), (3, _), (4, _)]) rfl ?_
        exact w_X4_readBuyer_91 Γ ad FU r47.1 r56.1 0 r85 J r h
  · replace h := o_neg h c10
    refine wp_iconst (v := 1) dX4_readBuyer_13 (by decide) ?_
    refine wp_goto 18 dX4_readBuyer_14 rfl ?_
    refine wp_iconst (v := 3) dX4_readBuyer_18 (by decide) ?_
    refine wp_iload_n dX4_readBuyer_19 1 rfl ?_
    obtain ⟨r20, h20, h⟩ := o_bind h
    refine wp_callvV (k := 7) (ci := 4) (c_X4_refuseIf Γ ad 1 3 a1 I J r20 h20) dX4_readBuyer_20 mlX4_78 mwX4_refuseIf miX4_refuseIf rfl rfl rfl rfl (Nat.le_of_ble_eq_true rfl) rfl (by decide) (by decide) ?_
    refine wp_aload_n dX4_readBuyer_23 0 rfl ?_
    refine wp_aload_n dX4_readBuyer_24 0 rfl ?_
    refine wp_getR (k := 7) (a' := ad 8) dX4_readBuyer_25 flX4_12 rfl rfl rfl rfl rfl ?_
    refine wp_getI (k := 8) dX4_readBuyer_28 flX4_101 rfl rfl rfl rfl ?_
    refine wp_if_le 38 dX4_readBuyer_31 rfl (fun c31 => ?_) (fun c31 => ?_)
    · replace h := o_pos h c31
      refine wp_iconst (v := 0) dX4_readBuyer_38 (by decide) ?_
      refine wp_iconst (v := 4) dX4_readBuyer_39 (by decide) ?_
      refine wp_iload_n dX4_readBuyer_40 1 rfl ?_
      obtain ⟨r41, h41, h⟩ := o_bind h
      refine wp_callvV (k := 7) (ci := 4) (c_X4_refuseIf Γ ad 0 4 a1 r20 J r41 h41) dX4_readBuyer_41 mlX4_78 mwX4_refuseIf miX4_refuseIf rfl rfl rfl rfl (Nat.le_of_ble_eq_true rfl) rfl (by decide) (by decide) ?_
      refine wp_aload_n dX4_readBuyer_44 0 rfl ?_
      refine wp_iconst (v := 1) dX4_readBuyer_45 (by decide) ?_
      refine wp_iconst (v := 2) dX4_readBuyer_46 (by decide) ?_
      obtain ⟨r47, h47, h⟩ := o_bind h
      refine wp_callvI (k := 7) (ci := 4) (c_X4_readNumber Γ ad 1 2 r41 J r47 h47) dX4_readBuyer_47 mlX4_82 mwX4_readNumber miX4_readNumber rfl rfl rfl rfl (Nat.le_of_ble_eq_true rfl) rfl (by decide) (by decide) ?_
      refine wp_istore_n (lv' := [(0, _), (1, _), (2, _)]) dX4_readBuyer_50 rfl rfl rfl rfl ?_
      refine wp_aload_n dX4_readBuyer_51 0 rfl ?_
      refine wp_iconst (v := 0) dX4_readBuyer_52 (by decide) ?_
      refine wp_sipush (v := 9999) dX4_readBuyer_53 (by decide) ?_
      obtain ⟨r56, h56, h⟩ := o_bind h
      refine wp_callvI (k := 7) (ci := 4) (c_X4_readNumber Γ ad 0 9999 r47.2 J r56 h56) dX4_readBuyer_56 mlX4_82 mwX4_readNumber miX4_readNumber rfl rfl rfl rfl (Nat.le_of_ble_eq_true rfl) rfl (by decide) (by decide) ?_
      refine wp_istore_n (lv' := [(0, _), (1, _), (2, _), (3, _)]) dX4_readBuyer_59 rfl rfl rfl rfl ?_
      refine wp_aload_n dX4_readBuyer_60 0 rfl ?_
      obtain ⟨r61, h61, h⟩ := o_bind h
      refine wp_callvV (k := 7) (ci := 4) (c_X4_skipBlanks Γ ad r56.2 J r61 h61) dX4_readBuyer_61 mlX4_42 mwX4_skipBlanks miX4_skipBlanks rfl rfl rfl rfl (Nat.le_of_ble_eq_true rfl) rfl (by decide) (by decide) ?_
      refine wp_aload_n dX4_readBuyer_64 0 rfl ?_
      refine wp_aload_n dX4_readBuyer_65 0 rfl ?_
      refine wp_getR (k := 7) (a' := ad 8) dX4_readBuyer_66 flX4_12 rfl rfl rfl rfl rfl ?_
      refine wp_getI (k := 8) dX4_readBuyer_69 flX4_95 rfl rfl rfl rfl ?_
      refine wp_if_ne 79 dX4_readBuyer_72 rfl (fun c72 => ?_) (fun c72 => ?_)
      · replace h := o_neg h c72
        refine wp_iconst (v := 0) dX4_readBuyer_79 (by decide) ?_
        refine wp_iconst (v := 1) dX4_readBuyer_80 (by decide) ?_
        refine wp_aload_n dX4_readBuyer_81 0 rfl ?_
        refine wp_getI (k := 7) dX4_readBuyer_82 flX4_32 rfl rfl rfl rfl ?_
        obtain ⟨r85, h85, h⟩ := o_bind h
        refine wp_callvV (k := 7) (ci := 4) (c_X4_refuseIf Γ ad 0 1 (r61 7 4) r61 J r85 h85) dX4_readBuyer_85 mlX4_78 mwX4_refuseIf miX4_refuseIf rfl rfl rfl rfl (Nat.le_of_ble_eq_true rfl) rfl (by decide) (by decide) ?_
        refine wp_iconst (v := 0) dX4_readBuyer_88 (by decide) ?_
        refine wp_istore (lv' := [(0, _), (1, _), (2, _), (3, _), (4, _)]) dX4_readBuyer_89 rfl rfl rfl ?_
        refine wp_pick [0, 2, 3, 4] (lv' := [(0, _), (2, _), (3, _), (4, _)]) rfl ?_
        exact w_X4_readBuyer_91 Γ ad FU r47.1 r56.1 0 r85 J r h
      · replace h := o_pos h c72
        refine wp_iconst (v := 1) dX4_readBuyer_75 (by decide) ?_
        refine wp_goto 80 dX4_readBuyer_76 rfl ?_
        refine wp_iconst (v := 1) dX4_readBuyer_80 (by decide) ?_
        refine wp_aload_n dX4_readBuyer_81 0 rfl ?_
        refine wp_getI (k := 7) dX4_readBuyer_82 flX4_32 rfl rfl rfl rfl ?_
        obtain ⟨r85, h85, h⟩ := o_bind h
        refine wp_callvV (k := 7) (ci := 4) (c_X4_refuseIf Γ ad 1 1 (r61 7 4) r61 J r85 h85) dX4_readBuyer_85 mlX4_78 mwX4_refuseIf miX4_refuseIf rfl rfl rfl rfl (Nat.le_of_ble_eq_true rfl) rfl (by decide) (by decide) ?_
        refine wp_iconst (v := 0) dX4_readBuyer_88 (by decide) ?_
        refine wp_istore (lv' := [(0, _), (1, _), (2, _), (3, _), (4, _)]) dX4_readBuyer_89 rfl rfl rfl ?_
        refine wp_pick [0, 2, 3, 4] (lv' := [(0, _), (2, _), (3, _), (4, _)]) rfl ?_
        exact w_X4_readBuyer_91 Γ ad FU r47.1 r56.1 0 r85 J r h
    · replace h := o_neg h c31
      refine wp_iconst (v := 1) dX4_readBuyer_34 (by decide) ?_
      refine wp_goto 39 dX4_readBuyer_35 rfl ?_
      refine wp_iconst (v := 4) dX4_readBuyer_39 (by decide) ?_
      refine wp_iload_n dX4_readBuyer_40 1 rfl ?_
      obtain ⟨r41, h41, h⟩ := o_bind h
      refine wp_callvV (k := 7) (ci := 4) (c_X4_refuseIf Γ ad 1 4 a1 r20 J r41 h41) dX4_readBuyer_41 mlX4_78 mwX4_refuseIf miX4_refuseIf rfl rfl rfl rfl (Nat.le_of_ble_eq_true rfl) rfl (by decide) (by decide) ?_
      refine wp_aload_n dX4_readBuyer_44 0 rfl ?_
      refine wp_iconst (v := 1) dX4_readBuyer_45 (by decide) ?_
      refine wp_iconst (v := 2) dX4_readBuyer_46 (by decide) ?_
      obtain ⟨r47, h47, h⟩ := o_bind h
      refine wp_callvI (k := 7) (ci := 4) (c_X4_readNumber Γ ad 1 2 r41 J r47 h47) dX4_readBuyer_47 mlX4_82 mwX4_readNumber miX4_readNumber rfl rfl rfl rfl (Nat.le_of_ble_eq_true rfl) rfl (by decide) (by decide) ?_
      refine wp_istore_n (lv' := [(0, _), (1, _), (2, _)]) dX4_readBuyer_50 rfl rfl rfl rfl ?_
      refine wp_aload_n dX4_readBuyer_51 0 rfl ?_
      refine wp_iconst (v := 0) dX4_readBuyer_52 (by decide) ?_
      refine wp_sipush (v := 9999) dX4_readBuyer_53 (by decide) ?_
      obtain ⟨r56, h56, h⟩ := o_bind h
      refine wp_callvI (k := 7) (ci := 4) (c_X4_readNumber Γ ad 0 9999 r47.2 J r56 h56) dX4_readBuyer_56 mlX4_82 mwX4_readNumber miX4_readNumber rfl rfl rfl rfl (Nat.le_of_ble_eq_true rfl) rfl (by decide) (by decide) ?_
      refine wp_istore_n (lv' := [(0, _), (1, _), (2, _), (3, _)]) dX4_readBuyer_59 rfl rfl rfl rfl ?_
      refine wp_aload_n dX4_readBuyer_60 0 rfl ?_
      obtain ⟨r61, h61, h⟩ := o_bind h
      refine wp_callvV (k := 7) (ci := 4) (c_X4_skipBlanks Γ ad r56.2 J r61 h61) dX4_readBuyer_61 mlX4_42 mwX4_skipBlanks miX4_skipBlanks rfl rfl rfl rfl (Nat.le_of_ble_eq_true rfl) rfl (by decide) (by decide) ?_
      refine wp_aload_n dX4_readBuyer_64 0 rfl ?_
      refine wp_aload_n dX4_readBuyer_65 0 rfl ?_
      refine wp_getR (k := 7) (a' := ad 8) dX4_readBuyer_66 flX4_12 rfl rfl rfl rfl rfl ?_
      refine wp_getI (k := 8) dX4_readBuyer_69 flX4_95 rfl rfl rfl rfl ?_
      refine wp_if_ne 79 dX4_readBuyer_72 rfl (fun c72 => ?_) (fun c72 => ?_)
      · replace h := o_neg h c72
        refine wp_iconst (v := 0) dX4_readBuyer_79 (by decide) ?_
        refine wp_iconst (v := 1) dX4_readBuyer_80 (by decide) ?_
        refine wp_aload_n dX4_readBuyer_81 0 rfl ?_
        refine wp_getI (k := 7) dX4_readBuyer_82 flX4_32 rfl rfl rfl rfl ?_
        obtain ⟨r85, h85, h⟩ := o_bind h
        refine wp_callvV (k := 7) (ci := 4) (c_X4_refuseIf Γ ad 0 1 (r61 7 4) r61 J r85 h85) dX4_readBuyer_85 mlX4_78 mwX4_refuseIf miX4_refuseIf rfl rfl rfl rfl (Nat.le_of_ble_eq_true rfl) rfl (by decide) (by decide) ?_
        refine wp_iconst (v := 0) dX4_readBuyer_88 (by decide) ?_
        refine wp_istore (lv' := [(0, _), (1, _), (2, _), (3, _), (4, _)]) dX4_readBuyer_89 rfl rfl rfl ?_
        refine wp_pick [0, 2, 3, 4] (lv' := [(0, _), (2, _), (3, _), (4, _)]) rfl ?_
        exact w_X4_readBuyer_91 Γ ad FU r47.1 r56.1 0 r85 J r h
      · replace h := o_pos h c72
        refine wp_iconst (v := 1) dX4_readBuyer_75 (by decide) ?_
        refine wp_goto 80 dX4_readBuyer_76 rfl ?_
        refine wp_iconst (v := 1) dX4_readBuyer_80 (by decide) ?_
        refine wp_aload_n dX4_readBuyer_81 0 rfl ?_
        refine wp_getI (k := 7) dX4_readBuyer_82 flX4_32 rfl rfl rfl rfl ?_
        obtain ⟨r85, h85, h⟩ := o_bind h
        refine wp_callvV (k := 7) (ci := 4) (c_X4_refuseIf Γ ad 1 1 (r61 7 4) r61 J r85 h85) dX4_readBuyer_85 mlX4_78 mwX4_refuseIf miX4_refuseIf rfl rfl rfl rfl (Nat.le_of_ble_eq_true rfl) rfl (by decide) (by decide) ?_
        refine wp_iconst (v := 0) dX4_readBuyer_88 (by decide) ?_
        refine wp_istore (lv' := [(0, _), (1, _), (2, _), (3, _), (4, _)]) dX4_readBuyer_89 rfl rfl rfl ?_
        refine wp_pick [0, 2, 3, 4] (lv' := [(0, _), (2, _), (3, _), (4, _)]) rfl ?_
        exact w_X4_readBuyer_91 Γ ad FU r47.1 r56.1 0 r85 J r h
def f_X4_readSeller (a1 : Int32) (I : IT) : Option (IT) :=
  if (I 8 0) < (6 : Int32) then
    (f_X4_refuseIf 0 3 a1 I).bind fun r20 =>
    if ((r20 8 1) + (r20 8 2)) ≤ 0 then
      (f_X4_refuseIf 0 4 a1 r20).bind fun r49 =>
      (f_X4_readNumber 0 999 r49).bind fun r57 =>
      (f_X4_readNumber 1 2 r57.2).bind fun r64 =>
      (f_X4_readSign 59 r64.2).bind fun r71 =>
      if (r71 7 3) = 0 then
        (f_X4_addPerson r64.1 r57.1 r71).bind fun r84 =>
        some (upI r84 8 0 ((r84 8 0) + 1))
      else
        some r71
    else
      (f_X4_refuseIf 1 4 a1 r20).bind fun r49 =>
      (f_X4_readNumber 0 999 r49).bind fun r57 =>
      (f_X4_readNumber 1 2 r57.2).bind fun r64 =>
      (f_X4_readSign 59 r64.2).bind fun r71 =>
      if (r71 7 3) = 0 then
        (f_X4_addPerson r64.1 r57.1 r71).bind fun r84 =>
        some (upI r84 8 0 ((r84 8 0) + 1))
      else
        some r71
  else
    (f_X4_refuseIf 1 3 a1 I).bind fun r20 =>
    if ((r20 8 1) + (r20 8 2)) ≤ 0 then
      (f_X4_refuseIf 0 4 a1 r20).bind fun r49 =>
      (f_X4_readNumber 0 999 r49).bind fun r57 =>
      (f_X4_readNumber 1 2 r57.2).bind fun r64 =>
      (f_X4_readSign 59 r64.2).bind fun r71 =>
      if (r71 7 3) = 0 then
        (f_X4_addPerson r64.1 r57.1 r71).bind fun r84 =>
        some (upI r84 8 0 ((r84 8 0) + 1))
      else
        some r71
    else
      (f_X4_refuseIf 1 4 a1 r20).bind fun r49 =>
      (f_X4_readNumber 0 999 r49).bind fun r57 =>
      (f_X4_readNumber 1 2 r57.2).bind fun r64 =>
      (f_X4_readSign 59 r64.2).bind fun r71 =>
      if (r71 7 3) = 0 then
        (f_X4_addPerson r64.1 r57.1 r71).bind fun r84 =>
        some (upI r84 8 0 ((r84 8 0) + 1))
      else
        some r71
set_option maxRecDepth 100000 in
set_option maxHeartbeats 4000000 in
theorem c_X4_readSeller (Γ : GT) (ad : Nat → Nat) (a1 : Int32) (I : IT) (J : JT) (r : IT) (h : f_X4_readSeller a1 I = some r) : CALL Γ mX4_readSeller (0, 0) [.ref (ad 7), .int a1] (DX ad) I J (QE none (DX ad) r J) := by
  refine call_of' (by decide) (Nat.le_of_ble_eq_true rfl) (lv0 := [(0, .ref (ad 7)), (1, .int a1)]) rfl ?_
  unfold f_X4_readSeller at h
  refine wp_aload_n dX4_readSeller_0 0 rfl ?_
  refine wp_aload_n dX4_readSeller_1 0 rfl ?_
  refine wp_getR (k := 7) (a' := ad 8) dX4_readSeller_2 flX4_12 rfl rfl rfl rfl rfl ?_
  refine wp_getI (k := 8) dX4_readSeller_5 flX4_95 rfl rfl rfl rfl ?_
  refine wp_bipush (v := 6) dX4_readSeller_8 (by decide) ?_
  refine wp_icmp_lt 17 dX4_readSeller_10 rfl (fun c10 => ?_) (fun c10 => ?_)
  · replace h := o_pos h c10
    refine wp_iconst (v := 0) dX4_readSeller_17 (by decide) ?_
    refine wp_iconst (v := 3) dX4_readSeller_18 (by decide) ?_
    refine wp_iload_n dX4_readSeller_19 1 rfl ?_
    obtain ⟨r20, h20, h⟩ := o_bind h
    refine wp_callvV (k := 7) (ci := 4) (c_X4_refuseIf Γ ad 0 3 a1 I J r20 h20) dX4_readSeller_20 mlX4_78 mwX4_refuseIf miX4_refuseIf rfl rfl rfl rfl (Nat.le_of_ble_eq_true rfl) rfl (by decide) (by decide) ?_
    refine wp_aload_n dX4_readSeller_23 0 rfl ?_
    refine wp_aload_n dX4_readSeller_24 0 rfl ?_
    refine wp_getR (k := 7) (a' := ad 8) dX4_readSeller_25 flX4_12 rfl rfl rfl rfl rfl ?_
    refine wp_getI (k := 8) dX4_readSeller_28 flX4_98 rfl rfl rfl rfl ?_
    refine wp_aload_n dX4_readSeller_31 0 rfl ?_
    refine wp_getR (k := 7) (a' := ad 8) dX4_readSeller_32 flX4_12 rfl rfl rfl rfl rfl ?_
    refine wp_getI (k := 8) dX4_readSeller_35 flX4_101 rfl rfl rfl rfl ?_
    refine wp_iadd dX4_readSeller_38 ?_
    refine wp_if_le 46 dX4_readSeller_39 rfl (fun c39 => ?_) (fun c39 => ?_)
    · replace h := o_pos h c39
      refine wp_iconst (v := 0) dX4_readSeller_46 (by decide) ?_
      refine wp_iconst (v := 4) dX4_readSeller_47 (by decide) ?_
      refine wp_iload_n dX4_readSeller_48 1 rfl ?_
      obtain ⟨r49, h49, h⟩ := o_bind h
      refine wp_callvV (k := 7) (ci := 4) (c_X4_refuseIf Γ ad 0 4 a1 r20 J r49 h49) dX4_readSeller_49 mlX4_78 mwX4_refuseIf miX4_refuseIf rfl rfl rfl rfl (Nat.le_of_ble_eq_true rfl) rfl (by decide) (by decide) ?_
      refine wp_aload_n dX4_readSeller_52 0 rfl ?_
      refine wp_iconst (v := 0) dX4_readSeller_53 (by decide) ?_
      refine wp_sipush (v := 999) dX4_readSeller_54 (by decide) ?_
      obtain ⟨r57, h57, h⟩ := o_bind h
      refine wp_callvI (k := 7) (ci := 4) (c_X4_readNumber Γ ad 0 999 r49 J r57 h57) dX4_readSeller_57 mlX4_82 mwX4_readNumber miX4_readNumber rfl rfl rfl rfl (Nat.le_of_ble_eq_true rfl) rfl (by decide) (by decide) ?_
      refine wp_istore_n (lv' := [(0, _), (1, _), (2, _)]) dX4_readSeller_60 rfl rfl rfl rfl ?_
      refine wp_aload_n dX4_readSeller_61 0 rfl ?_
      refine wp_iconst (v := 1) dX4_readSeller_62 (by decide) ?_
      refine wp_iconst (v := 2) dX4_readSeller_63 (by decide) ?_
      obtain ⟨r64, h64, h⟩ := o_bind h
      refine wp_callvI (k := 7) (ci := 4) (c_X4_readNumber Γ ad 1 2 r57.2 J r64 h64) dX4_readSeller_64 mlX4_82 mwX4_readNumber miX4_readNumber rfl rfl rfl rfl (Nat.le_of_ble_eq_true rfl) rfl (by decide) (by decide) ?_
      refine wp_istore_n (lv' := [(0, _), (1, _), (2, _), (3, _)]) dX4_readSeller_67 rfl rfl rfl rfl ?_
      refine wp_aload_n dX4_readSeller_68 0 rfl ?_
      refine wp_bipush (v := 59) dX4_readSeller_69 (by decide) ?_
      obtain ⟨r71, h71, h⟩ := o_bind h
      refine wp_callvV (k := 7) (ci := 4) (c_X4_readSign Γ ad 59 r64.2 J r71 h71) dX4_readSeller_71 mlX4_88 mwX4_readSign miX4_readSign rfl rfl rfl rfl (Nat.le_of_ble_eq_true rfl) rfl (by decide) (by decide) ?_
      refine wp_aload_n dX4_readSeller_74 0 rfl ?_
      refine wp_getI (k := 7) dX4_readSeller_75 flX4_25 rfl rfl rfl rfl ?_
      refine wp_if_ne 100 dX4_readSeller_78 rfl (fun c78 => ?_) (fun c78 => ?_)
      · replace h := o_neg h c78
        obtain rfl := Option.some.inj h
        exact wp_return dX4_readSeller_100 rfl ⟨rfl, rfl, rfl, rfl⟩
      · replace h := o_pos h c78
        refine wp_aload_n dX4_readSeller_81 0 rfl ?_
        refine wp_iload_n dX4_readSeller_82 3 rfl ?_
        refine wp_iload_n dX4_readSeller_83 2 rfl ?_
        obtain ⟨r84, h84, h⟩ := o_bind h
        refine wp_callvV (k := 7) (ci := 4) (c_X4_addPerson Γ ad r64.1 r57.1 r71 J r84 h84) dX4_readSeller_84 mlX4_104 mwX4_addPerson miX4_addPerson rfl rfl rfl rfl (Nat.le_of_ble_eq_true rfl) rfl (by decide) (by decide) ?_
        refine wp_aload_n dX4_readSeller_87 0 rfl ?_
        refine wp_getR (k := 7) (a' := ad 8) dX4_readSeller_88 flX4_12 rfl rfl rfl rfl rfl ?_
        refine wp_dup dX4_readSeller_91 rfl ?_
        refine wp_getI (k := 8) dX4_readSeller_92 flX4_95 rfl rfl rfl rfl ?_
        refine wp_iconst (v := 1) dX4_readSeller_95 (by decide) ?_
        refine wp_iadd dX4_readSeller_96 ?_
        refine wp_putI (k := 8) dX4_readSeller_97 flX4_95 rfl rfl rfl rfl rfl rfl rfl rfl ?_
        obtain rfl := Option.some.inj h
        exact wp_return dX4_readSeller_100 rfl ⟨rfl, rfl, rfl, rfl⟩
    · replace h := o_neg h c39
      refine wp_iconst (v := 1) dX4_readSeller_42 (by decide) ?_
      refine wp_goto 47 dX4_readSeller_43 rfl ?_
      refine wp_iconst (v := 4) dX4_readSeller_47 (by decide) ?_
      refine wp_iload_n dX4_readSeller_48 1 rfl ?_
      obtain ⟨r49, h49, h⟩ := o_bind h
      refine wp_callvV (k := 7) (ci := 4) (c_X4_refuseIf Γ ad 1 4 a1 r20 J r49 h49) dX4_readSeller_49 mlX4_78 mwX4_refuseIf miX4_refuseIf rfl rfl rfl rfl (Nat.le_of_ble_eq_true rfl) rfl (by decide) (by decide) ?_
      refine wp_aload_n dX4_readSeller_52 0 rfl ?_
      refine wp_iconst (v := 0) dX4_readSeller_53 (by decide) ?_
      refine wp_sipush (v := 999) dX4_readSeller_54 (by decide) ?_
      obtain ⟨r57, h57, h⟩ := o_bind h
      refine wp_callvI (k := 7) (ci := 4) (c_X4_readNumber Γ ad 0 999 r49 J r57 h57) dX4_readSeller_57 mlX4_82 mwX4_readNumber miX4_readNumber rfl rfl rfl rfl (Nat.le_of_ble_eq_true rfl) rfl (by decide) (by decide) ?_
      refine wp_istore_n (lv' := [(0, _), (1, _), (2, _)]) dX4_readSeller_60 rfl rfl rfl rfl ?_
      refine wp_aload_n dX4_readSeller_61 0 rfl ?_
      refine wp_iconst (v := 1) dX4_readSeller_62 (by decide) ?_
      refine wp_iconst (v := 2) dX4_readSeller_63 (by decide) ?_
      obtain ⟨r64, h64, h⟩ := o_bind h
      refine wp_callvI (k := 7) (ci := 4) (c_X4_readNumber Γ ad 1 2 r57.2 J r64 h64) dX4_readSeller_64 mlX4_82 mwX4_readNumber miX4_readNumber rfl rfl rfl rfl (Nat.le_of_ble_eq_true rfl) rfl (by decide) (by decide) ?_
      refine wp_istore_n (lv' := [(0, _), (1, _), (2, _), (3, _)]) dX4_readSeller_67 rfl rfl rfl rfl ?_
      refine wp_aload_n dX4_readSeller_68 0 rfl ?_
      refine wp_bipush (v := 59) dX4_readSeller_69 (by decide) ?_
      obtain ⟨r71, h71, h⟩ := o_bind h
      refine wp_callvV (k := 7) (ci := 4) (c_X4_readSign Γ ad 59 r64.2 J r71 h71) dX4_readSeller_71 mlX4_88 mwX4_readSign miX4_readSign rfl rfl rfl rfl (Nat.le_of_ble_eq_true rfl) rfl (by decide) (by decide) ?_
      refine wp_aload_n dX4_readSeller_74 0 rfl ?_
      refine wp_getI (k := 7) dX4_readSeller_75 flX4_25 rfl rfl rfl rfl ?_
      refine wp_if_ne 100 dX4_readSeller_78 rfl (fun c78 => ?_) (fun c78 => ?_)
      · replace h := o_neg h c78
        obtain rfl := Option.some.inj h
        exact wp_return dX4_readSeller_100 rfl ⟨rfl, rfl, rfl, rfl⟩
      · replace h := o_pos h c78
        refine wp_aload_n dX4_readSeller_81 0 rfl ?_
        refine wp_iload_n dX4_readSeller_82 3 rfl ?_
        refine wp_iload_n dX4_readSeller_83 2 rfl ?_
        obtain ⟨r84, h84, h⟩ := o_bind h
        refine wp_callvV (k := 7) (ci := 4) (c_X4_addPerson Γ ad r64.1 r57.1 r71 J r84 h84) dX4_readSeller_84 mlX4_104 mwX4_addPerson miX4_addPerson rfl rfl rfl rfl (Nat.le_of_ble_eq_true rfl) rfl (by decide) (by decide) ?_
        refine wp_aload_n dX4_readSeller_87 0 rfl ?_
        refine wp_getR (k := 7) (a' := ad 8) dX4_readSeller_88 flX4_12 rfl rfl rfl rfl rfl ?_
        refine wp_dup dX4_readSeller_91 rfl ?_
        refine wp_getI (k := 8) dX4_readSeller_92 flX4_95 rfl rfl rfl rfl ?_
        refine wp_iconst (v := 1) dX4_readSeller_95 (by decide) ?_
        refine wp_iadd dX4_readSeller_96 ?_
        refine wp_putI (k := 8) dX4_readSeller_97 flX4_95 rfl rfl rfl rfl rfl rfl rfl rfl ?_
        obtain rfl := Option.some.inj h
        exact wp_return dX4_readSeller_100 rfl ⟨rfl, rfl, rfl, rfl⟩
  · replace h := o_neg h c10
    refine wp_iconst (v := 1) dX4_readSeller_13 (by decide) ?_
    refine wp_goto 18 dX4_readSeller_14 rfl ?_
    refine wp_iconst (v := 3) dX4_readSeller_18 (by decide) ?_
    refine wp_iload_n dX4_readSeller_19 1 rfl ?_
    obtain ⟨r20, h20, h⟩ := o_bind h
    refine wp_callvV (k := 7) (ci := 4) (c_X4_refuseIf Γ ad 1 3 a1 I J r20 h20) dX4_readSeller_20 mlX4_78 mwX4_refuseIf miX4_refuseIf rfl rfl rfl rfl (Nat.le_of_ble_eq_true rfl) rfl (by decide) (by decide) ?_
    refine wp_aload_n dX4_readSeller_23 0 rfl ?_
    refine wp_aload_n dX4_readSeller_24 0 rfl ?_
    refine wp_getR (k := 7) (a' := ad 8) dX4_readSeller_25 flX4_12 rfl rfl rfl rfl rfl ?_
    refine wp_getI (k := 8) dX4_readSeller_28 flX4_98 rfl rfl rfl rfl ?_
    refine wp_aload_n dX4_readSeller_31 0 rfl ?_
    refine wp_getR (k := 7) (a' := ad 8) dX4_readSeller_32 flX4_12 rfl rfl rfl rfl rfl ?_
    refine wp_getI (k := 8) dX4_readSeller_35 flX4_101 rfl rfl rfl rfl ?_
    refine wp_iadd dX4_readSeller_38 ?_
    refine wp_if_le 46 dX4_readSeller_39 rfl (fun c39 => ?_) (fun c39 => ?_)
    · replace h := o_pos h c39
      refine wp_iconst (v := 0) dX4_readSeller_46 (by decide) ?_
      refine wp_iconst (v := 4) dX4_readSeller_47 (by decide) ?_
      refine wp_iload_n dX4_readSeller_48 1 rfl ?_
      obtain ⟨r49, h49, h⟩ := o_bind h
      refine wp_callvV (k := 7) (ci := 4) (c_X4_refuseIf Γ ad 0 4 a1 r20 J r49 h49) dX4_readSeller_49 mlX4_78 mwX4_refuseIf miX4_refuseIf rfl rfl rfl rfl (Nat.le_of_ble_eq_true rfl) rfl (by decide) (by decide) ?_
      refine wp_aload_n dX4_readSeller_52 0 rfl ?_
      refine wp_iconst (v := 0) dX4_readSeller_53 (by decide) ?_
      refine wp_sipush (v := 999) dX4_readSeller_54 (by decide) ?_
      obtain ⟨r57, h57, h⟩ := o_bind h
      refine wp_callvI (k := 7) (ci := 4) (c_X4_readNumber Γ ad 0 999 r49 J r57 h57) dX4_readSeller_57 mlX4_82 mwX4_readNumber miX4_readNumber rfl rfl rfl rfl (Nat.le_of_ble_eq_true rfl) rfl (by decide) (by decide) ?_
      refine wp_istore_n (lv' := [(0, _), (1, _), (2, _)]) dX4_readSeller_60 rfl rfl rfl rfl ?_
      refine wp_aload_n dX4_readSeller_61 0 rfl ?_
      refine wp_iconst (v := 1) dX4_readSeller_62 (by decide) ?_
      refine wp_iconst (v := 2) dX4_readSeller_63 (by decide) ?_
      obtain ⟨r64, h64, h⟩ := o_bind h
      refine wp_callvI (k := 7) (ci := 4) (c_X4_readNumber Γ ad 1 2 r57.2 J r64 h64) dX4_readSeller_64 mlX4_82 mwX4_readNumber miX4_readNumber rfl rfl rfl rfl (Nat.le_of_ble_eq_true rfl) rfl (by decide) (by decide) ?_
      refine wp_istore_n (lv' := [(0, _), (1, _), (2, _), (3, _)]) dX4_readSeller_67 rfl rfl rfl rfl ?_
      refine wp_aload_n dX4_readSeller_68 0 rfl ?_
      refine wp_bipush (v := 59) dX4_readSeller_69 (by decide) ?_
      obtain ⟨r71, h71, h⟩ := o_bind h
      refine wp_callvV (k := 7) (ci := 4) (c_X4_readSign Γ ad 59 r64.2 J r71 h71) dX4_readSeller_71 mlX4_88 mwX4_readSign miX4_readSign rfl rfl rfl rfl (Nat.le_of_ble_eq_true rfl) rfl (by decide) (by decide) ?_
      refine wp_aload_n dX4_readSeller_74 0 rfl ?_
      refine wp_getI (k := 7) dX4_readSeller_75 flX4_25 rfl rfl rfl rfl ?_
      refine wp_if_ne 100 dX4_readSeller_78 rfl (fun c78 => ?_) (fun c78 => ?_)
      · replace h := o_neg h c78
        obtain rfl := Option.some.inj h
        exact wp_return dX4_readSeller_100 rfl ⟨rfl, rfl, rfl, rfl⟩
      · replace h := o_pos h c78
        refine wp_aload_n dX4_readSeller_81 0 rfl ?_
        refine wp_iload_n dX4_readSeller_82 3 rfl ?_
        refine wp_iload_n dX4_readSeller_83 2 rfl ?_
        obtain ⟨r84, h84, h⟩ := o_bind h
        refine wp_callvV (k := 7) (ci := 4) (c_X4_addPerson Γ ad r64.1 r57.1 r71 J r84 h84) dX4_readSeller_84 mlX4_104 mwX4_addPerson miX4_addPerson rfl rfl rfl rfl (Nat.le_of_ble_eq_true rfl) rfl (by decide) (by decide) ?_
        refine wp_aload_n dX4_readSeller_87 0 rfl ?_
        refine wp_getR (k := 7) (a' := ad 8) dX4_readSeller_88 flX4_12 rfl rfl rfl rfl rfl ?_
        refine wp_dup dX4_readSeller_91 rfl ?_
        refine wp_getI (k := 8) dX4_readSeller_92 flX4_95 rfl rfl rfl rfl ?_
        refine wp_iconst (v := 1) dX4_readSeller_95 (by decide) ?_
        refine wp_iadd dX4_readSeller_96 ?_
        refine wp_putI (k := 8) dX4_readSeller_97 flX4_95 rfl rfl rfl rfl rfl rfl rfl rfl ?_
        obtain rfl := Option.some.inj h
        exact wp_return dX4_readSeller_100 rfl ⟨rfl, rfl, rfl, rfl⟩
    · replace h := o_neg h c39
      refine wp_iconst (v := 1) dX4_readSeller_42 (by decide) ?_
      refine wp_goto 47 dX4_readSeller_43 rfl ?_
      refine wp_iconst (v := 4) dX4_readSeller_47 (by decide) ?_
      refine wp_iload_n dX4_readSeller_48 1 rfl ?_
      obtain ⟨r49, h49, h⟩ := o_bind h
      refine wp_callvV (k := 7) (ci := 4) (c_X4_refuseIf Γ ad 1 4 a1 r20 J r49 h49) dX4_readSeller_49 mlX4_78 mwX4_refuseIf miX4_refuseIf rfl rfl rfl rfl (Nat.le_of_ble_eq_true rfl) rfl (by decide) (by decide) ?_
      refine wp_aload_n dX4_readSeller_52 0 rfl ?_
      refine wp_iconst (v := 0) dX4_readSeller_53 (by decide) ?_
      refine wp_sipush (v := 999) dX4_readSeller_54 (by decide) ?_
      obtain ⟨r57, h57, h⟩ := o_bind h
      refine wp_callvI (k := 7) (ci := 4) (c_X4_readNumber Γ ad 0 999 r49 J r57 h57) dX4_readSeller_57 mlX4_82 mwX4_readNumber miX4_readNumber rfl rfl rfl rfl (Nat.le_of_ble_eq_true rfl) rfl (by decide) (by decide) ?_
      refine wp_istore_n (lv' := [(0, _), (1, _), (2, _)]) dX4_readSeller_60 rfl rfl rfl rfl ?_
      refine wp_aload_n dX4_readSeller_61 0 rfl ?_
      refine wp_iconst (v := 1) dX4_readSeller_62 (by decide) ?_
      refine wp_iconst (v := 2) dX4_readSeller_63 (by decide) ?_
      obtain ⟨r64, h64, h⟩ := o_bind h
      refine wp_callvI (k := 7) (ci := 4) (c_X4_readNumber Γ ad 1 2 r57.2 J r64 h64) dX4_readSeller_64 mlX4_82 mwX4_readNumber miX4_readNumber rfl rfl rfl rfl (Nat.le_of_ble_eq_true rfl) rfl (by decide) (by decide) ?_
      refine wp_istore_n (lv' := [(0, _), (1, _), (2, _), (3, _)]) dX4_readSeller_67 rfl rfl rfl rfl ?_
      refine wp_aload_n dX4_readSeller_68 0 rfl ?_
      refine wp_bipush (v := 59) dX4_readSeller_69 (by decide) ?_
      obtain ⟨r71, h71, h⟩ := o_bind h
      refine wp_callvV (k := 7) (ci := 4) (c_X4_readSign Γ ad 59 r64.2 J r71 h71) dX4_readSeller_71 mlX4_88 mwX4_readSign miX4_readSign rfl rfl rfl rfl (Nat.le_of_ble_eq_true rfl) rfl (by decide) (by decide) ?_
      refine wp_aload_n dX4_readSeller_74 0 rfl ?_
      refine wp_getI (k := 7) dX4_readSeller_75 flX4_25 rfl rfl rfl rfl ?_
      refine wp_if_ne 100 dX4_readSeller_78 rfl (fun c78 => ?_) (fun c78 => ?_)
      · replace h := o_neg h c78
        obtain rfl := Option.some.inj h
        exact wp_return dX4_readSeller_100 rfl ⟨rfl, rfl, rfl, rfl⟩
      · replace h := o_pos h c78
        refine wp_aload_n dX4_readSeller_81 0 rfl ?_
        refine wp_iload_n dX4_readSeller_82 3 rfl ?_
        refine wp_iload_n dX4_readSeller_83 2 rfl ?_
        obtain ⟨r84, h84, h⟩ := o_bind h
        refine wp_callvV (k := 7) (ci := 4) (c_X4_addPerson Γ ad r64.1 r57.1 r71 J r84 h84) dX4_readSeller_84 mlX4_104 mwX4_addPerson miX4_addPerson rfl rfl rfl rfl (Nat.le_of_ble_eq_true rfl) rfl (by decide) (by decide) ?_
        refine wp_aload_n dX4_readSeller_87 0 rfl ?_
        refine wp_getR (k := 7) (a' := ad 8) dX4_readSeller_88 flX4_12 rfl rfl rfl rfl rfl ?_
        refine wp_dup dX4_readSeller_91 rfl ?_
        refine wp_getI (k := 8) dX4_readSeller_92 flX4_95 rfl rfl rfl rfl ?_
        refine wp_iconst (v := 1) dX4_readSeller_95 (by decide) ?_
        refine wp_iadd dX4_readSeller_96 ?_
        refine wp_putI (k := 8) dX4_readSeller_97 flX4_95 rfl rfl rfl rfl rfl rfl rfl rfl ?_
        obtain rfl := Option.some.inj h
        exact wp_return dX4_readSeller_100 rfl ⟨rfl, rfl, rfl, rfl⟩
