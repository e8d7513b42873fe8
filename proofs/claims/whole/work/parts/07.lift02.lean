/-! lifted: X4_readClause X4_readText X2_become_8 J7_fill_53178_13 J7_fill_53178_14 J7_fill_53178_15 J7_fill_53178_16 J7_fill_53178_17 J7_fill_53178_18 X1_begin X2_persons X9_market X9_fault X1_isSold X1_soldLots X9_told X2_hasPerson J6_bitCount_0f7a4 X1_freeHands X9_person X2_hasBuyer X2_hasLot X9_worth X2_sortOf -/
def f_X4_readClause (I : IT) : Option (IT) :=
  (f_X4_skipLetters I).bind fun r6 =>
  (f_X4_isWord_s0 (I 7 4) r6).bind fun r13 =>
  if r13 = 0 then
    (f_X4_isWord_s1 (I 7 4) r6).bind fun r31 =>
    if r31 = 0 then
      (f_X4_isWord_s2 (I 7 4) r6).bind fun r49 =>
      if r49 = 0 then
        (f_X4_isWord_s3 (I 7 4) r6).bind fun r67 =>
        if r67 = 0 then
          (f_X4_isWord_s4 (I 7 4) r6).bind fun r115 =>
          if r115 = 0 then
            (f_X4_refuseIf 1 1 (I 7 4) r6).bind fun r163 =>
            some r163
          else
            (f_X4_refuseIf (r6 7 6) 3 (I 7 4) r6).bind fun r128 =>
            (f_X4_readNumber 0 99 (upI r128 7 6 1)).bind fun r144 =>
            (f_X4_readSign 59 (upI r144.2 8 4 r144.1)).bind fun r153 =>
            some r153
        else
          (f_X4_refuseIf (r6 7 5) 3 (I 7 4) r6).bind fun r80 =>
          (f_X4_readNumber 1 99 (upI r80 7 5 1)).bind fun r96 =>
          (f_X4_readSign 59 (upI r96.2 8 3 r96.1)).bind fun r105 =>
          some r105
      else
        (f_X4_readBroker (I 7 4) r6).bind fun r57 =>
        some r57
    else
      (f_X4_readBuyer (I 7 4) r6).bind fun r39 =>
      some r39
  else
    (f_X4_readSeller (I 7 4) r6).bind fun r21 =>
    some r21
set_option maxRecDepth 100000 in
set_option maxHeartbeats 4000000 in
theorem c_X4_readClause (Γ : GT) (ad : Nat → Nat) (I : IT) (J : JT) (r : IT) (h : f_X4_readClause I = some r) : CALL Γ mX4_readClause (0, 0) [.ref (ad 7)] (DX ad) I J (QE none (DX ad) r J) := by
  refine call_of' (by decide) (Nat.le_of_ble_eq_true rfl) (lv0 := [(0, .ref (ad 7))]) rfl ?_
  unfold f_X4_readClause at h
  refine wp_aload_n dX4_readClause_0 0 rfl ?_
  refine wp_getI (k := 7) dX4_readClause_1 flX4_32 rfl rfl rfl rfl ?_
  refine wp_istore_n (lv' := [(0, _), (1, _)]) dX4_readClause_4 rfl rfl rfl rfl ?_
  refine wp_aload_n dX4_readClause_5 0 rfl ?_
  obtain ⟨r6, h6, h⟩ := o_bind h
  refine wp_callvV (k := 7) (ci := 4) (c_X4_skipLetters Γ ad I J r6 h6) dX4_readClause_6 mlX4_53 mwX4_skipLetters miX4_skipLetters rfl rfl rfl rfl (Nat.le_of_ble_eq_true rfl) rfl (by decide) (by decide) ?_
  refine wp_aload_n dX4_readClause_9 0 rfl ?_
  refine wp_iload_n dX4_readClause_10 1 rfl ?_
  refine wp_ldcS 0 (by decide) rfl rfl dX4_readClause_11 ?_
  obtain ⟨r13, h13, h⟩ := o_bind h
  refine wp_callvI (k := 7) (ci := 4) (c_X4_isWord_s0 Γ ad (I 7 4) r6 J r13 h13) dX4_readClause_13 mlX4_58 mwX4_isWord miX4_isWord rfl rfl rfl rfl (Nat.le_of_ble_eq_true rfl) rfl (by decide) (by decide) ?_
  refine wp_if_eq 27 dX4_readClause_16 rfl (fun c16 => ?_) (fun c16 => ?_)
  · replace h := o_pos h c16
    refine wp_aload_n dX4_readClause_27 0 rfl ?_
    refine wp_iload_n dX4_readClause_28 1 rfl ?_
    refine wp_ldcS 1 (by decide) rfl rfl dX4_readClause_29 ?_
    obtain ⟨r31, h31, h⟩ := o_bind h
    refine wp_callvI (k := 7) (ci := 4) (c_X4_isWord_s1 Γ ad (I 7 4) r6 J r31 h31) dX4_readClause_31 mlX4_58 mwX4_isWord miX4_isWord rfl rfl rfl rfl (Nat.le_of_ble_eq_true rfl) rfl (by decide) (by decide) ?_
    refine wp_if_eq 45 dX4_readClause_34 rfl (fun c34 => ?_) (fun c34 => ?_)
    · replace h := o_pos h c34
      refine wp_aload_n dX4_readClause_45 0 rfl ?_
      refine wp_iload_n dX4_readClause_46 1 rfl ?_
      refine wp_ldcS 2 (by decide) rfl rfl dX4_readClause_47 ?_
      obtain ⟨r49, h49, h⟩ := o_bind h
      refine wp_callvI (k := 7) (ci := 4) (c_X4_isWord_s2 Γ ad (I 7 4) r6 J r49 h49) dX4_readClause_49 mlX4_58 mwX4_isWord miX4_isWord rfl rfl rfl rfl (Nat.le_of_ble_eq_true rfl) rfl (by decide) (by decide) ?_
      refine wp_if_eq 63 dX4_readClause_52 rfl (fun c52 => ?_) (fun c52 => ?_)
      · replace h := o_pos h c52
        refine wp_aload_n dX4_readClause_63 0 rfl ?_
        refine wp_iload_n dX4_readClause_64 1 rfl ?_
        refine wp_ldcS 3 (by decide) rfl rfl dX4_readClause_65 ?_
        obtain ⟨r67, h67, h⟩ := o_bind h
        refine wp_callvI (k := 7) (ci := 4) (c_X4_isWord_s3 Γ ad (I 7 4) r6 J r67 h67) dX4_readClause_67 mlX4_58 mwX4_isWord miX4_isWord rfl rfl rfl rfl (Nat.le_of_ble_eq_true rfl) rfl (by decide) (by decide) ?_
        refine wp_if_eq 111 dX4_readClause_70 rfl (fun c70 => ?_) (fun c70 => ?_)
        · replace h := o_pos h c70
          refine wp_aload_n dX4_readClause_111 0 rfl ?_
          refine wp_iload_n dX4_readClause_112 1 rfl ?_
          refine wp_ldcS 4 (by decide) rfl rfl dX4_readClause_113 ?_
          obtain ⟨r115, h115, h⟩ := o_bind h
          refine wp_callvI (k := 7) (ci := 4) (c_X4_isWord_s4 Γ ad (I 7 4) r6 J r115 h115) dX4_readClause_115 mlX4_58 mwX4_isWord miX4_isWord rfl rfl rfl rfl (Nat.le_of_ble_eq_true rfl) rfl (by decide) (by decide) ?_
          refine wp_if_eq 159 dX4_readClause_118 rfl (fun c118 => ?_) (fun c118 => ?_)
          · replace h := o_pos h c118
            refine wp_aload_n dX4_readClause_159 0 rfl ?_
            refine wp_iconst (v := 1) dX4_readClause_160 (by decide) ?_
            refine wp_iconst (v := 1) dX4_readClause_161 (by decide) ?_
            refine wp_iload_n dX4_readClause_162 1 rfl ?_
            obtain ⟨r163, h163, h⟩ := o_bind h
            refine wp_callvV (k := 7) (ci := 4) (c_X4_refuseIf Γ ad 1 1 (I 7 4) r6 J r163 h163) dX4_readClause_163 mlX4_78 mwX4_refuseIf miX4_refuseIf rfl rfl rfl rfl (Nat.le_of_ble_eq_true rfl) rfl (by decide) (by decide) ?_
            obtain rfl := Option.some.inj h
            exact wp_return dX4_readClause_166 rfl ⟨rfl, rfl, rfl, rfl⟩
          · replace h := o_neg h c118
            refine wp_aload_n dX4_readClause_121 0 rfl ?_
            refine wp_aload_n dX4_readClause_122 0 rfl ?_
            refine wp_getI (k := 7) dX4_readClause_123 flX4_39 rfl rfl rfl rfl ?_
            refine wp_iconst (v := 3) dX4_readClause_126 (by decide) ?_
            refine wp_iload_n dX4_readClause_127 1 rfl ?_
            obtain ⟨r128, h128, h⟩ := o_bind h
            refine wp_callvV (k := 7) (ci := 4) (c_X4_refuseIf Γ ad (r6 7 6) 3 (I 7 4) r6 J r128 h128) dX4_readClause_128 mlX4_78 mwX4_refuseIf miX4_refuseIf rfl rfl rfl rfl (Nat.le_of_ble_eq_true rfl) rfl (by decide) (by decide) ?_
            refine wp_aload_n dX4_readClause_131 0 rfl ?_
            refine wp_iconst (v := 1) dX4_readClause_132 (by decide) ?_
            refine wp_putI (k := 7) dX4_readClause_133 flX4_39 rfl rfl rfl rfl rfl rfl rfl rfl ?_
            refine wp_aload_n dX4_readClause_136 0 rfl ?_
            refine wp_getR (k := 7) (a' := ad 8) dX4_readClause_137 flX4_12 rfl rfl rfl rfl rfl ?_
            refine wp_aload_n dX4_readClause_140 0 rfl ?_
            refine wp_iconst (v := 0) dX4_readClause_141 (by decide) ?_
            refine wp_bipush (v := 99) dX4_readClause_142 (by decide) ?_
            obtain ⟨r144, h144, h⟩ := o_bind h
            refine wp_callvI (k := 7) (ci := 4) (c_X4_readNumber Γ ad 0 99 (upI r128 7 6 1) J r144 h144) dX4_readClause_144 mlX4_82 mwX4_readNumber miX4_readNumber rfl rfl rfl rfl (Nat.le_of_ble_eq_true rfl) rfl (by decide) (by decide) ?_
            refine wp_putI (k := 8) dX4_readClause_147 flX4_93 rfl rfl rfl rfl rfl rfl rfl rfl ?_
            refine wp_aload_n dX4_readClause_150 0 rfl ?_
            refine wp_bipush (v := 59) dX4_readClause_151 (by decide) ?_
            obtain ⟨r153, h153, h⟩ := o_bind h
            refine wp_callvV (k := 7) (ci := 4) (c_X4_readSign Γ ad 59 (upI r144.2 8 4 r144.1) J r153 h153) dX4_readClause_153 mlX4_88 mwX4_readSign miX4_readSign rfl rfl rfl rfl (Nat.le_of_ble_eq_true rfl) rfl (by decide) (by decide) ?_
            refine wp_goto 166 dX4_readClause_156 rfl ?_
            obtain rfl := Option.some.inj h
            exact wp_return dX4_readClause_166 rfl ⟨rfl, rfl, rfl, rfl⟩
        · replace h := o_neg h c70
          refine wp_aload_n dX4_readClause_73 0 rfl ?_
          refine wp_aload_n dX4_readClause_74 0 rfl ?_
          refine wp_getI (k := 7) dX4_readClause_75 flX4_35 rfl rfl rfl rfl ?_
          refine wp_iconst (v := 3) dX4_readClause_78 (by decide) ?_
          refine wp_iload_n dX4_readClause_79 1 rfl ?_
          obtain ⟨r80, h80, h⟩ := o_bind h
          refine wp_callvV (k := 7) (ci := 4) (c_X4_refuseIf Γ ad (r6 7 5) 3 (I 7 4) r6 J r80 h80) dX4_readClause_80 mlX4_78 mwX4_refuseIf miX4_refuseIf rfl rfl rfl rfl (Nat.le_of_ble_eq_true rfl) rfl (by decide) (by decide) ?_
          refine wp_aload_n dX4_readClause_83 0 rfl ?_
          refine wp_iconst (v := 1) dX4_readClause_84 (by decide) ?_
          refine wp_putI (k := 7) dX4_readClause_85 flX4_35 rfl rfl rfl rfl rfl rfl rfl rfl ?_
          refine wp_aload_n dX4_readClause_88 0 rfl ?_
          refine wp_getR (k := 7) (a' := ad 8) dX4_readClause_89 flX4_12 rfl rfl rfl rfl rfl ?_
          refine wp_aload_n dX4_readClause_92 0 rfl ?_
          refine wp_iconst (v := 1) dX4_readClause_93 (by decide) ?_
          refine wp_bipush (v := 99) dX4_readClause_94 (by decide) ?_
          obtain ⟨r96, h96, h⟩ := o_bind h
          refine wp_callvI (k := 7) (ci := 4) (c_X4_readNumber Γ ad 1 99 (upI r80 7 5 1) J r96 h96) dX4_readClause_96 mlX4_82 mwX4_readNumber miX4_readNumber rfl rfl rfl rfl (Nat.le_of_ble_eq_true rfl) rfl (by decide) (by decide) ?_
          refine wp_putI (k := 8) dX4_readClause_99 flX4_86 rfl rfl rfl rfl rfl rfl rfl rfl ?_
          refine wp_aload_n dX4_readClause_102 0 rfl ?_
          refine wp_bipush (v := 59) dX4_readClause_103 (by decide) ?_
          obtain ⟨r105, h105, h⟩ := o_bind h
          refine wp_callvV (k := 7) (ci := 4) (c_X4_readSign Γ ad 59 (upI r96.2 8 3 r96.1) J r105 h105) dX4_readClause_105 mlX4_88 mwX4_readSign miX4_readSign rfl rfl rfl rfl (Nat.le_of_ble_eq_true rfl) rfl (by decide) (by decide) ?_
          refine wp_goto 166 dX4_readClause_108 rfl ?_
          obtain rfl := Option.some.inj h
          exact wp_return dX4_readClause_166 rfl ⟨rfl, rfl, rfl, rfl⟩
      · replace h := o_neg h c52
        refine wp_aload_n dX4_readClause_55 0 rfl ?_
        refine wp_iload_n dX4_readClause_56 1 rfl ?_
        obtain ⟨r57, h57, h⟩ := o_bind h
        refine wp_callvV (k := 7) (ci := 4) (c_X4_readBroker Γ ad (I 7 4) r6 J r57 h57) dX4_readClause_57 mlX4_73 mwX4_readBroker miX4_readBroker rfl rfl rfl rfl (Nat.le_of_ble_eq_true rfl) rfl (by decide) (by decide) ?_
        refine wp_goto 166 dX4_readClause_60 rfl ?_
        obtain rfl := Option.some.inj h
        exact wp_return dX4_readClause_166 rfl ⟨rfl, rfl, rfl, rfl⟩
    · replace h := o_neg h c34
      refine wp_aload_n dX4_readClause_37 0 rfl ?_
      refine wp_iload_n dX4_readClause_38 1 rfl ?_
      obtain ⟨r39, h39, h⟩ := o_bind h
      refine wp_callvV (k := 7) (ci := 4) (c_X4_readBuyer Γ ad (I 7 4) r6 J r39 h39) dX4_readClause_39 mlX4_68 mwX4_readBuyer miX4_readBuyer rfl rfl rfl rfl (Nat.le_of_ble_eq_true rfl) rfl (by decide) (by decide) ?_
      refine wp_goto 166 dX4_readClause_42 rfl ?_
      obtain rfl := Option.some.inj h
      exact wp_return dX4_readClause_166 rfl ⟨rfl, rfl, rfl, rfl⟩
  · replace h := o_neg h c16
    refine wp_aload_n dX4_readClause_19 0 rfl ?_
    refine wp_iload_n dX4_readClause_20 1 rfl ?_
    obtain ⟨r21, h21, h⟩ := o_bind h
    refine wp_callvV (k := 7) (ci := 4) (c_X4_readSeller Γ ad (I 7 4) r6 J r21 h21) dX4_readClause_21 mlX4_62 mwX4_readSeller miX4_readSeller rfl rfl rfl rfl (Nat.le_of_ble_eq_true rfl) rfl (by decide) (by decide) ?_
    refine wp_goto 166 dX4_readClause_24 rfl ?_
    obtain rfl := Option.some.inj h
    exact wp_return dX4_readClause_166 rfl ⟨rfl, rfl, rfl, rfl⟩
def f_X4_readText_38 : Nat → Int32 → IT → Option (Int32 × IT)
  | 0, _, _ => none
  | n + 1, v1, I =>
    if (500 : Int32) ≤ v1 then
      some (I 7 3, I)
    else
      if (I 7 3) = 0 then
        if (I 1 1) ≤ (I 7 4) then
          some (I 7 3, I)
        else
          (f_X4_readClause I).bind fun r67 =>
          (f_X4_skipBlanks r67).bind fun r71 =>
          f_X4_readText_38 n (v1 + 1) r71
      else
        some (I 7 3, I)
def f_X4_readText (I : IT) : Option (Int32 × IT) :=
  (f_X2_clear_8 I).bind fun r4 =>
  (f_X4_skipBlanks (upI (upI (upI (upI (upI r4 7 3 0) 7 2 (-1)) 7 4 0) 7 5 0) 7 6 0)).bind fun r33 =>
  f_X4_readText_38 FU 0 r33
set_option maxRecDepth 100000 in
set_option maxHeartbeats 4000000 in
theorem w_X4_readText_38 (Γ : GT) (ad : Nat → Nat) : ∀ (n : Nat) (v1 : Int32) (I : IT) (J : JT) (r : Int32 × IT), f_X4_readText_38 n v1 I = some r → WP Γ mX4_readText (0, 0) 38 [(0, .ref (ad 7)), (1, .int v1)] [] (DX ad) I J (QE (some (.int r.1)) (DX ad) r.2 J) := by
  intro n
  induction n with
  | zero => intro v1 I J r h; exact absurd h (by simp [f_X4_readText_38])
  | succ n ih =>
    intro v1 I J r h
    rw [f_X4_readText_38] at h
    refine wp_iload_n dX4_readText_38 1 rfl ?_
    refine wp_sipush (v := 500) dX4_readText_39 (by decide) ?_
    refine wp_icmp_ge 80 dX4_readText_42 rfl (fun c42 => ?_) (fun c42 => ?_)
    · replace h := o_pos h c42
      refine wp_aload_n dX4_readText_80 0 rfl ?_
      refine wp_getI (k := 7) dX4_readText_81 flX4_25 rfl rfl rfl rfl ?_
      obtain rfl := Option.some.inj h
      exact wp_ireturn (ty := .int) dX4_readText_84 rfl rfl ⟨rfl, rfl, rfl, rfl⟩
    · replace h := o_neg h c42
      refine wp_aload_n dX4_readText_45 0 rfl ?_
      refine wp_getI (k := 7) dX4_readText_46 flX4_25 rfl rfl rfl rfl ?_
      refine wp_if_ne 80 dX4_readText_49 rfl (fun c49 => ?_) (fun c49 => ?_)
      · replace h := o_neg h c49
        refine wp_aload_n dX4_readText_80 0 rfl ?_
        refine wp_getI (k := 7) dX4_readText_81 flX4_25 rfl rfl rfl rfl ?_
        obtain rfl := Option.some.inj h
        exact wp_ireturn (ty := .int) dX4_readText_84 rfl rfl ⟨rfl, rfl, rfl, rfl⟩
      · replace h := o_pos h c49
        refine wp_aload_n dX4_readText_52 0 rfl ?_
        refine wp_getI (k := 7) dX4_readText_53 flX4_32 rfl rfl rfl rfl ?_
        refine wp_aload_n dX4_readText_56 0 rfl ?_
        refine wp_getR (k := 7) (a' := ad 1) dX4_readText_57 flX4_18 rfl rfl rfl rfl rfl ?_
        refine wp_getI (k := 1) dX4_readText_60 flX4_45 rfl rfl rfl rfl ?_
        refine wp_icmp_ge 80 dX4_readText_63 rfl (fun c63 => ?_) (fun c63 => ?_)
        · replace h := o_pos h c63
          refine wp_aload_n dX4_readText_80 0 rfl ?_
          refine wp_getI (k := 7) dX4_readText_81 flX4_25 rfl rfl rfl rfl ?_
          obtain rfl := Option.some.inj h
          exact wp_ireturn (ty := .int) dX4_readText_84 rfl rfl ⟨rfl, rfl, rfl, rfl⟩
        · replace h := o_neg h c63
          refine wp_aload_n dX4_readText_66 0 rfl ?_
          obtain ⟨r67, h67, h⟩ := o_bind h
          refine wp_callvV (k := 7) (ci := 4) (c_X4_readClause Γ ad I J r67 h67) dX4_readText_67 mlX4_50 mwX4_readClause miX4_readClause rfl rfl rfl rfl (Nat.le_of_ble_eq_true rfl) rfl (by decide) (by decide) ?_
          refine wp_aload_n dX4_readText_70 0 rfl ?_
          obtain ⟨r71, h71, h⟩ := o_bind h
          refine wp_callvV (k := 7) (ci := 4) (c_X4_skipBlanks Γ ad r67 J r71 h71) dX4_readText_71 mlX4_42 mwX4_skipBlanks miX4_skipBlanks rfl rfl rfl rfl (Nat.le_of_ble_eq_true rfl) rfl (by decide) (by decide) ?_
          refine wp_iinc (v := v1 + 1) (lv' := [(0, _), (1, _)]) dX4_readText_74 1 rfl rfl rfl rfl rfl ?_
          refine wp_goto 38 dX4_readText_77 rfl ?_
          refine wp_pick [0, 1] (lv' := [(0, _), (1, _)]) rfl ?_
          exact ih (v1 + 1) r71 J r h
set_option maxRecDepth 100000 in
set_option maxHeartbeats 4000000 in
theorem c_X4_readText (Γ : GT) (ad : Nat → Nat) (I : IT) (J : JT) (r : Int32 × IT) (h : f_X4_readText I = some r) : CALL Γ mX4_readText (0, 0) [.ref (ad 7)] (DX ad) I J (QE (some (.int r.1)) (DX ad) r.2 J) := by
  refine call_of' (by decide) (Nat.le_of_ble_eq_true rfl) (lv0 := [(0, .ref (ad 7))]) rfl ?_
  unfold f_X4_readText at h
  refine wp_aload_n dX4_readText_0 0 rfl ?_
  refine wp_getR (k := 7) (a' := ad 8) dX4_readText_1 flX4_12 rfl rfl rfl rfl rfl ?_
  obtain ⟨r4, h4, h⟩ := o_bind h
  refine wp_callvV (k := 8) (ci := 2) (c_X2_clear_8 Γ ad I J r4 h4) dX4_readText_4 mlX4_22 mwX2_clear miX2_clear rfl rfl rfl rfl (Nat.le_of_ble_eq_true rfl) rfl (by decide) (by decide) ?_
  refine wp_aload_n dX4_readText_7 0 rfl ?_
  refine wp_iconst (v := 0) dX4_readText_8 (by decide) ?_
  refine wp_putI (k := 7) dX4_readText_9 flX4_25 rfl rfl rfl rfl rfl rfl rfl rfl ?_
  refine wp_aload_n dX4_readText_12 0 rfl ?_
  refine wp_iconst (v := (-1)) dX4_readText_13 (by decide) ?_
  refine wp_putI (k := 7) dX4_readText_14 flX4_29 rfl rfl rfl rfl rfl rfl rfl rfl ?_
  refine wp_aload_n dX4_readText_17 0 rfl ?_
  refine wp_iconst (v := 0) dX4_readText_18 (by decide) ?_
  refine wp_putI (k := 7) dX4_readText_19 flX4_32 rfl rfl rfl rfl rfl rfl rfl rfl ?_
  refine wp_aload_n dX4_readText_22 0 rfl ?_
  refine wp_iconst (v := 0) dX4_readText_23 (by decide) ?_
  refine wp_putI (k := 7) dX4_readText_24 flX4_35 rfl rfl rfl rfl rfl rfl rfl rfl ?_
  refine wp_aload_n dX4_readText_27 0 rfl ?_
  refine wp_iconst (v := 0) dX4_readText_28 (by decide) ?_
  refine wp_putI (k := 7) dX4_readText_29 flX4_39 rfl rfl rfl rfl rfl rfl rfl rfl ?_
  refine wp_aload_n dX4_readText_32 0 rfl ?_
  obtain ⟨r33, h33, h⟩ := o_bind h
  refine wp_callvV (k := 7) (ci := 4) (c_X4_skipBlanks Γ ad (upI (upI (upI (upI (upI r4 7 3 0) 7 2 (-1)) 7 4 0) 7 5 0) 7 6 0) J r33 h33) dX4_readText_33 mlX4_42 mwX4_skipBlanks miX4_skipBlanks rfl rfl rfl rfl (Nat.le_of_ble_eq_true rfl) rfl (by decide) (by decide) ?_
  refine wp_iconst (v := 0) dX4_readText_36 (by decide) ?_
  refine wp_istore_n (lv' := [(0, _), (1, _)]) dX4_readText_37 rfl rfl rfl rfl ?_
  refine wp_pick [0, 1] (lv' := [(0, _), (1, _)]) rfl ?_
  exact w_X4_readText_38 Γ ad FU 0 r33 J r h
def f_X2_become_8 (I : IT) : Option (IT) :=
  (some (upF (upI (upI (upI (upI (upI I 3 0 (I 8 0)) 3 1 ((upI I 3 0 (I 8 0)) 8 1)) 3 2 ((upI (upI I 3 0 (I 8 0)) 3 1 ((upI I 3 0 (I 8 0)) 8 1)) 8 2)) 3 3 ((upI (upI (upI I 3 0 (I 8 0)) 3 1 ((upI I 3 0 (I 8 0)) 8 1)) 3 2 ((upI (upI I 3 0 (I 8 0)) 3 1 ((upI I 3 0 (I 8 0)) 8 1)) 8 2)) 8 3)) 3 4 ((upI (upI (upI (upI I 3 0 (I 8 0)) 3 1 ((upI I 3 0 (I 8 0)) 8 1)) 3 2 ((upI (upI I 3 0 (I 8 0)) 3 1 ((upI I 3 0 (I 8 0)) 8 1)) 8 2)) 3 3 ((upI (upI (upI I 3 0 (I 8 0)) 3 1 ((upI I 3 0 (I 8 0)) 8 1)) 3 2 ((upI (upI I 3 0 (I 8 0)) 3 1 ((upI I 3 0 (I 8 0)) 8 1)) 8 2)) 8 3)) 8 4)) 4 (va_cpy ((upI (upI (upI (upI (upI I 3 0 (I 8 0)) 3 1 ((upI I 3 0 (I 8 0)) 8 1)) 3 2 ((upI (upI I 3 0 (I 8 0)) 3 1 ((upI I 3 0 (I 8 0)) 8 1)) 8 2)) 3 3 ((upI (upI (upI I 3 0 (I 8 0)) 3 1 ((upI I 3 0 (I 8 0)) 8 1)) 3 2 ((upI (upI I 3 0 (I 8 0)) 3 1 ((upI I 3 0 (I 8 0)) 8 1)) 8 2)) 8 3)) 3 4 ((upI (upI (upI (upI I 3 0 (I 8 0)) 3 1 ((upI I 3 0 (I 8 0)) 8 1)) 3 2 ((upI (upI I 3 0 (I 8 0)) 3 1 ((upI I 3 0 (I 8 0)) 8 1)) 8 2)) 3 3 ((upI (upI (upI I 3 0 (I 8 0)) 3 1 ((upI I 3 0 (I 8 0)) 8 1)) 3 2 ((upI (upI I 3 0 (I 8 0)) 3 1 ((upI I 3 0 (I 8 0)) 8 1)) 8 2)) 8 3)) 8 4)) 9) ((upI (upI (upI (upI (upI I 3 0 (I 8 0)) 3 1 ((upI I 3 0 (I 8 0)) 8 1)) 3 2 ((upI (upI I 3 0 (I 8 0)) 3 1 ((upI I 3 0 (I 8 0)) 8 1)) 8 2)) 3 3 ((upI (upI (upI I 3 0 (I 8 0)) 3 1 ((upI I 3 0 (I 8 0)) 8 1)) 3 2 ((upI (upI I 3 0 (I 8 0)) 3 1 ((upI I 3 0 (I 8 0)) 8 1)) 8 2)) 8 3)) 3 4 ((upI (upI (upI (upI I 3 0 (I 8 0)) 3 1 ((upI I 3 0 (I 8 0)) 8 1)) 3 2 ((upI (upI I 3 0 (I 8 0)) 3 1 ((upI I 3 0 (I 8 0)) 8 1)) 8 2)) 3 3 ((upI (upI (upI I 3 0 (I 8 0)) 3 1 ((upI I 3 0 (I 8 0)) 8 1)) 3 2 ((upI (upI I 3 0 (I 8 0)) 3 1 ((upI I 3 0 (I 8 0)) 8 1)) 8 2)) 8 3)) 8 4)) 4) (0 : Int32).toNatClampNeg (0 : Int32).toNatClampNeg (14 : Int32).toNatClampNeg))).bind fun i52 =>
  (some (upF i52 5 (va_cpy (i52 10) (i52 5) (0 : Int32).toNatClampNeg (0 : Int32).toNatClampNeg (14 : Int32).toNatClampNeg))).bind fun i67 =>
  (some (upF i67 6 (va_cpy (i67 11) (i67 6) (0 : Int32).toNatClampNeg (0 : Int32).toNatClampNeg (36 : Int32).toNatClampNeg))).bind fun i82 =>
  some i82
set_option maxRecDepth 100000 in
set_option maxHeartbeats 4000000 in
theorem c_X2_become_8 (Γ : GT) (ad : Nat → Nat) (I : IT) (J : JT) (r : IT) (h : f_X2_become_8 I = some r) : CALL Γ mX2_become (0, 0) [.ref (ad 3), .ref (ad 8)] (DX ad) I J (QE none (DX ad) r J) := by
  refine call_of' (by decide) (Nat.le_of_ble_eq_true rfl) (lv0 := [(0, .ref (ad 3)), (1, .ref (ad 8))]) rfl ?_
  unfold f_X2_become_8 at h
  refine wp_aload_n dX2_become_0 0 rfl ?_
  refine wp_aload_n dX2_become_1 1 rfl ?_
  refine wp_getI (k := 8) dX2_become_2 flX2_24 rfl rfl rfl rfl ?_
  refine wp_putI (k := 3) dX2_become_5 flX2_24 rfl rfl rfl rfl rfl rfl rfl rfl ?_
  refine wp_aload_n dX2_become_8 0 rfl ?_
  refine wp_aload_n dX2_become_9 1 rfl ?_
  refine wp_getI (k := 8) dX2_become_10 flX2_28 rfl rfl rfl rfl ?_
  refine wp_putI (k := 3) dX2_become_13 flX2_28 rfl rfl rfl rfl rfl rfl rfl rfl ?_
  refine wp_aload_n dX2_become_16 0 rfl ?_
  refine wp_aload_n dX2_become_17 1 rfl ?_
  refine wp_getI (k := 8) dX2_become_18 flX2_31 rfl rfl rfl rfl ?_
  refine wp_putI (k := 3) dX2_become_21 flX2_31 rfl rfl rfl rfl rfl rfl rfl rfl ?_
  refine wp_aload_n dX2_become_24 0 rfl ?_
  refine wp_aload_n dX2_become_25 1 rfl ?_
  refine wp_getI (k := 8) dX2_become_26 flX2_34 rfl rfl rfl rfl ?_
  refine wp_putI (k := 3) dX2_become_29 flX2_34 rfl rfl rfl rfl rfl rfl rfl rfl ?_
  refine wp_aload_n dX2_become_32 0 rfl ?_
  refine wp_aload_n dX2_become_33 1 rfl ?_
  refine wp_getI (k := 8) dX2_become_34 flX2_37 rfl rfl rfl rfl ?_
  refine wp_putI (k := 3) dX2_become_37 flX2_37 rfl rfl rfl rfl rfl rfl rfl rfl ?_
  refine wp_aload_n dX2_become_40 1 rfl ?_
  refine wp_getR (k := 8) (a' := ad 9) dX2_become_41 flX2_9 rfl rfl rfl rfl rfl ?_
  refine wp_iconst (v := 0) dX2_become_44 (by decide) ?_
  refine wp_aload_n dX2_become_45 0 rfl ?_
  refine wp_getR (k := 3) (a' := ad 4) dX2_become_46 flX2_9 rfl rfl rfl rfl rfl ?_
  refine wp_iconst (v := 0) dX2_become_49 (by decide) ?_
  refine wp_bipush (v := 14) dX2_become_50 (by decide) ?_
  refine wp_copyi (k0 := 9) (k1 := 4) dX2_become_52 mlX2_40 rfl rfl rfl rfl (by decide) (by decide) (by decide) (by decide) (by decide) (by decide) (Nat.le_of_ble_eq_true rfl) ?_
  obtain ⟨i52, e52, h⟩ := o_bind h
  refine wp_stI (Option.some.inj e52) ?_
  refine wp_aload_n dX2_become_55 1 rfl ?_
  refine wp_getR (k := 8) (a' := ad 10) dX2_become_56 flX2_15 rfl rfl rfl rfl rfl ?_
  refine wp_iconst (v := 0) dX2_become_59 (by decide) ?_
  refine wp_aload_n dX2_become_60 0 rfl ?_
  refine wp_getR (k := 3) (a' := ad 5) dX2_become_61 flX2_15 rfl rfl rfl rfl rfl ?_
  refine wp_iconst (v := 0) dX2_become_64 (by decide) ?_
  refine wp_bipush (v := 14) dX2_become_65 (by decide) ?_
  refine wp_copyi (k0 := 10) (k1 := 5) dX2_become_67 mlX2_40 rfl rfl rfl rfl (by decide) (by decide) (by decide) (by decide) (by decide) (by decide) (Nat.le_of_ble_eq_true rfl) ?_
  obtain ⟨i67, e67, h⟩ := o_bind h
  refine wp_stI (Option.some.inj e67) ?_
  refine wp_aload_n dX2_become_70 1 rfl ?_
  refine wp_getR (k := 8) (a' := ad 11) dX2_become_71 flX2_18 rfl rfl rfl rfl rfl ?_
  refine wp_iconst (v := 0) dX2_become_74 (by decide) ?_
  refine wp_aload_n dX2_become_75 0 rfl ?_
  refine wp_getR (k := 3) (a' := ad 6) dX2_become_76 flX2_18 rfl rfl rfl rfl rfl ?_
  refine wp_iconst (v := 0) dX2_become_79 (by decide) ?_
  refine wp_bipush (v := 36) dX2_become_80 (by decide) ?_
  refine wp_copyi (k0 := 11) (k1 := 6) dX2_become_82 mlX2_40 rfl rfl rfl rfl (by decide) (by decide) (by decide) (by decide) (by decide) (by decide) (Nat.le_of_ble_eq_true rfl) ?_
  obtain ⟨i82, e82, h⟩ := o_bind h
  refine wp_stI (Option.some.inj e82) ?_
  obtain rfl := Option.some.inj h
  exact wp_return dX2_become_85 rfl ⟨rfl, rfl, rfl, rfl⟩
def f_J7_fill_53178_13_5 : Nat → Int32 → Int32 → Int32 → IT → Option (IT)
  | 0, _, _, _, _ => none
  | n + 1, v1, v2, v3, I =>
    if v3 ≤ v2 then
      some I
    else
      if inbB v2 14 = true then
        f_J7_fill_53178_13_5 n v1 (v2 + 1) v3 (upI I 13 v2.toNatClampNeg v1)
      else none
def f_J7_fill_53178_13 (a1 : Int32) (I : IT) : Option (IT) :=
  f_J7_fill_53178_13_5 FU a1 0 14 I
set_option maxRecDepth 100000 in
set_option maxHeartbeats 4000000 in
theorem w_J7_fill_53178_13_5 (Γ : GT) (ad : Nat → Nat) : ∀ (n : Nat) (v1 : Int32) (v2 : Int32) (v3 : Int32) (I : IT) (J : JT) (r : IT), f_J7_fill_53178_13_5 n v1 v2 v3 I = some r → WP Γ mJ7_fill_53178 (0, 0) 5 [(0, .ref (ad 13)), (1, .int v1), (2, .int v2), (3, .int v3)] [] (DX ad) I J (QE none (DX ad) r J) := by
  intro n
  induction n with
  | zero => intro v1 v2 v3 I J r h; exact absurd h (by simp [f_J7_fill_53178_13_5])
  | succ n ih =>
    intro v1 v2 v3 I J r h
    rw [f_J7_fill_53178_13_5] at h
    refine wp_iload_n dJ7_fill_53178_5 2 rfl ?_
    refine wp_iload_n dJ7_fill_53178_6 3 rfl ?_
    refine wp_icmp_ge 20 dJ7_fill_53178_7 rfl (fun c7 => ?_) (fun c7 => ?_)
    · replace h := o_pos h c7
      obtain rfl := Option.some.inj h
      exact wp_return dJ7_fill_53178_20 rfl ⟨rfl, rfl, rfl, rfl⟩
    · replace h := o_neg h c7
      refine wp_aload_n dJ7_fill_53178_10 0 rfl ?_
      refine wp_iload_n dJ7_fill_53178_11 2 rfl ?_
      refine wp_iload_n dJ7_fill_53178_12 1 rfl ?_
      obtain ⟨g13, h⟩ := o_grd h
      refine wp_iast (k := 13) dJ7_fill_53178_13 rfl rfl (inb_of g13) ?_
      refine wp_iinc (v := v2 + 1) (lv' := [(0, _), (1, _), (2, _), (3, _)]) dJ7_fill_53178_14 2 rfl rfl rfl rfl rfl ?_
      refine wp_goto 5 dJ7_fill_53178_17 rfl ?_
      refine wp_pick [0, 1, 2, 3] (lv' := [(0, _), (1, _), (2, _), (3, _)]) rfl ?_
      exact ih v1 (v2 + 1) v3 (upI I 13 v2.toNatClampNeg v1) J r h
set_option maxRecDepth 100000 in
set_option maxHeartbeats 4000000 in
theorem c_J7_fill_53178_13 (Γ : GT) (ad : Nat → Nat) (a1 : Int32) (I : IT) (J : JT) (r : IT) (h : f_J7_fill_53178_13 a1 I = some r) : CALL Γ mJ7_fill_53178 (0, 0) [.ref (ad 13), .int a1] (DX ad) I J (QE none (DX ad) r J) := by
  refine call_of' (by decide) (Nat.le_of_ble_eq_true rfl) (lv0 := [(0, .ref (ad 13)), (1, .int a1)]) rfl ?_
  unfold f_J7_fill_53178_13 at h
  refine wp_iconst (v := 0) dJ7_fill_53178_0 (by decide) ?_
  refine wp_istore_n (lv' := [(0, _), (1, _), (2, _)]) dJ7_fill_53178_1 rfl rfl rfl rfl ?_
  refine wp_aload_n dJ7_fill_53178_2 0 rfl ?_
  refine wp_alen (k := 13) (v := 14) dJ7_fill_53178_3 rfl (by decide) rfl (by decide) ?_
  refine wp_istore_n (lv' := [(0, _), (1, _), (2, _), (3, _)]) dJ7_fill_53178_4 rfl rfl rfl rfl ?_
  refine wp_pick [0, 1, 2, 3] (lv' := [(0, _), (1, _), (2, _), (3, _)]) rfl ?_
  exact w_J7_fill_53178_13_5 Γ ad FU a1 0 14 I J r h
def f_J7_fill_53178_14_5 : Nat → Int32 → Int32 → Int32 → IT → Option (IT)
  | 0, _, _, _, _ => none
  | n + 1, v1, v2, v3, I =>
    if v3 ≤ v2 then
      some I
    else
      if inbB v2 84 = true then
        f_J7_fill_53178_14_5 n v1 (v2 + 1) v3 (upI I 14 v2.toNatClampNeg v1)
      else none
def f_J7_fill_53178_14 (a1 : Int32) (I : IT) : Option (IT) :=
  f_J7_fill_53178_14_5 FU a1 0 84 I
set_option maxRecDepth 100000 in
set_option maxHeartbeats 4000000 in
theorem w_J7_fill_53178_14_5 (Γ : GT) (ad : Nat → Nat) : ∀ (n : Nat) (v1 : Int32) (v2 : Int32) (v3 : Int32) (I : IT) (J : JT) (r : IT), f_J7_fill_53178_14_5 n v1 v2 v3 I = some r → WP Γ mJ7_fill_53178 (0, 0) 5 [(0, .ref (ad 14)), (1, .int v1), (2, .int v2), (3, .int v3)] [] (DX ad) I J (QE none (DX ad) r J) := by
  intro n
  induction n with
  | zero => intro v1 v2 v3 I J r h; exact absurd h (by simp [f_J7_fill_53178_14_5])
  | succ n ih =>
    intro v1 v2 v3 I J r h
    rw [f_J7_fill_53178_14_5] at h
    refine wp_iload_n dJ7_fill_53178_5 2 rfl ?_
    refine wp_iload_n dJ7_fill_53178_6 3 rfl ?_
    refine wp_icmp_ge 20 dJ7_fill_53178_7 rfl (fun c7 => ?_) (fun c7 => ?_)
    · replace h := o_pos h c7
      obtain rfl := Option.some.inj h
      exact wp_return dJ7_fill_53178_20 rfl ⟨rfl, rfl, rfl, rfl⟩
    · replace h := o_neg h c7
      refine wp_aload_n dJ7_fill_53178_10 0 rfl ?_
      refine wp_iload_n dJ7_fill_53178_11 2 rfl ?_
      refine wp_iload_n dJ7_fill_53178_12 1 rfl ?_
      obtain ⟨g13, h⟩ := o_grd h
      refine wp_iast (k := 14) dJ7_fill_53178_13 rfl rfl (inb_of g13) ?_
      refine wp_iinc (v := v2 + 1) (lv' := [(0, _), (1, _), (2, _), (3, _)]) dJ7_fill_53178_14 2 rfl rfl rfl rfl rfl ?_
      refine wp_goto 5 dJ7_fill_53178_17 rfl ?_
      refine wp_pick [0, 1, 2, 3] (lv' := [(0, _), (1, _), (2, _), (3, _)]) rfl ?_
      exact ih v1 (v2 + 1) v3 (upI I 14 v2.toNatClampNeg v1) J r h
set_option maxRecDepth 100000 in
set_option maxHeartbeats 4000000 in
theorem c_J7_fill_53178_14 (Γ : GT) (ad : Nat → Nat) (a1 : Int32) (I : IT) (J : JT) (r : IT) (h : f_J7_fill_53178_14 a1 I = some r) : CALL Γ mJ7_fill_53178 (0, 0) [.ref (ad 14), .int a1] (DX ad) I J (QE none (DX ad) r J) := by
  refine call_of' (by decide) (Nat.le_of_ble_eq_true rfl) (lv0 := [(0, .ref (ad 14)), (1, .int a1)]) rfl ?_
  unfold f_J7_fill_53178_14 at h
  refine wp_iconst (v := 0) dJ7_fill_53178_0 (by decide) ?_
  refine wp_istore_n (lv' := [(0, _), (1, _), (2, _)]) dJ7_fill_53178_1 rfl rfl rfl rfl ?_
  refine wp_aload_n dJ7_fill_53178_2 0 rfl ?_
  refine wp_alen (k := 14) (v := 84) dJ7_fill_53178_3 rfl (by decide) rfl (by decide) ?_
  refine wp_istore_n (lv' := [(0, _), (1, _), (2, _), (3, _)]) dJ7_fill_53178_4 rfl rfl rfl rfl ?_
  refine wp_pick [0, 1, 2, 3] (lv' := [(0, _), (1, _), (2, _), (3, _)]) rfl ?_
  exact w_J7_fill_53178_14_5 Γ ad FU a1 0 84 I J r h
def f_J7_fill_53178_15_5 : Nat → Int32 → Int32 → Int32 → IT → Option (IT)
  | 0, _, _, _, _ => none
  | n + 1, v1, v2, v3, I =>
    if v3 ≤ v2 then
      some I
    else
      if inbB v2 84 = true then
        f_J7_fill_53178_15_5 n v1 (v2 + 1) v3 (upI I 15 v2.toNatClampNeg v1)
      else none
def f_J7_fill_53178_15 (a1 : Int32) (I : IT) : Option (IT) :=
  f_J7_fill_53178_15_5 FU a1 0 84 I
set_option maxRecDepth 100000 in
set_option maxHeartbeats 4000000 in
theorem w_J7_fill_53178_15_5 (Γ : GT) (ad : Nat → Nat) : ∀ (n : Nat) (v1 : Int32) (v2 : Int32) (v3 : Int32) (I : IT) (J : JT) (r : IT), f_J7_fill_53178_15_5 n v1 v2 v3 I = some r → WP Γ mJ7_fill_53178 (0, 0) 5 [(0, .ref (ad 15)), (1, .int v1), (2, .int v2), (3, .int v3)] [] (DX ad) I J (QE none (DX ad) r J) := by
  intro n
  induction n with
  | zero => intro v1 v2 v3 I J r h; exact absurd h (by simp [f_J7_fill_53178_15_5])
  | succ n ih =>
    intro v1 v2 v3 I J r h
    rw [f_J7_fill_53178_15_5] at h
    refine wp_iload_n dJ7_fill_53178_5 2 rfl ?_
    refine wp_iload_n dJ7_fill_53178_6 3 rfl ?_
    refine wp_icmp_ge 20 dJ7_fill_53178_7 rfl (fun c7 => ?_) (fun c7 => ?_)
    · replace h := o_pos h c7
      obtain rfl := Option.some.inj h
      exact wp_return dJ7_fill_53178_20 rfl ⟨rfl, rfl, rfl, rfl⟩
    · replace h := o_neg h c7
      refine wp_aload_n dJ7_fill_53178_10 0 rfl ?_
      refine wp_iload_n dJ7_fill_53178_11 2 rfl ?_
      refine wp_iload_n dJ7_fill_53178_12 1 rfl ?_
      obtain ⟨g13, h⟩ := o_grd h
      refine wp_iast (k := 15) dJ7_fill_53178_13 rfl rfl (inb_of g13) ?_
      refine wp_iinc (v := v2 + 1) (lv' := [(0, _), (1, _), (2, _), (3, _)]) dJ7_fill_53178_14 2 rfl rfl rfl rfl rfl ?_
      refine wp_goto 5 dJ7_fill_53178_17 rfl ?_
      refine wp_pick [0, 1, 2, 3] (lv' := [(0, _), (1, _), (2, _), (3, _)]) rfl ?_
      exact ih v1 (v2 + 1) v3 (upI I 15 v2.toNatClampNeg v1) J r h
set_option maxRecDepth 100000 in
set_option maxHeartbeats 4000000 in
theorem c_J7_fill_53178_15 (Γ : GT) (ad : Nat → Nat) (a1 : Int32) (I : IT) (J : JT) (r : IT) (h : f_J7_fill_53178_15 a1 I = some r) : CALL Γ mJ7_fill_53178 (0, 0) [.ref (ad 15), .int a1] (DX ad) I J (QE none (DX ad) r J) := by
  refine call_of' (by decide) (Nat.le_of_ble_eq_true rfl) (lv0 := [(0, .ref (ad 15)), (1, .int a1)]) rfl ?_
  unfold f_J7_fill_53178_15 at h
  refine wp_iconst (v := 0) dJ7_fill_53178_0 (by decide) ?_
  refine wp_istore_n (lv' := [(0, _), (1, _), (2, _)]) dJ7_fill_53178_1 rfl rfl rfl rfl ?_
  refine wp_aload_n dJ7_fill_53178_2 0 rfl ?_
  refine wp_alen (k := 15) (v := 84) dJ7_fill_53178_3 rfl (by decide) rfl (by decide) ?_
  refine wp_istore_n (lv' := [(0, _), (1, _), (2, _), (3, _)]) dJ7_fill_53178_4 rfl rfl rfl rfl ?_
  refine wp_pick [0, 1, 2, 3] (lv' := [(0, _), (1, _), (2, _), (3, _)]) rfl ?_
  exact w_J7_fill_53178_15_5 Γ ad FU a1 0 84 I J r h
def f_J7_fill_53178_16_5 : Nat → Int32 → Int32 → Int32 → IT → Option (IT)
  | 0, _, _, _, _ => none
  | n + 1, v1, v2, v3, I =>
    if v3 ≤ v2 then
      some I
    else
      if inbB v2 6 = true then
        f_J7_fill_53178_16_5 n v1 (v2 + 1) v3 (upI I 16 v2.toNatClampNeg v1)
      else none
def f_J7_fill_53178_16 (a1 : Int32) (I : IT) : Option (IT) :=
  f_J7_fill_53178_16_5 FU a1 0 6 I
set_option maxRecDepth 100000 in
set_option maxHeartbeats 4000000 in
theorem w_J7_fill_53178_16_5 (Γ : GT) (ad : Nat → Nat) : ∀ (n : Nat) (v1 : Int32) (v2 : Int32) (v3 : Int32) (I : IT) (J : JT) (r : IT), f_J7_fill_53178_16_5 n v1 v2 v3 I = some r → WP Γ mJ7_fill_53178 (0, 0) 5 [(0, .ref (ad 16)), (1, .int v1), (2, .int v2), (3, .int v3)] [] (DX ad) I J (QE none (DX ad) r J) := by
  intro n
  induction n with
  | zero => intro v1 v2 v3 I J r h; exact absurd h (by simp [f_J7_fill_53178_16_5])
  | succ n ih =>
    intro v1 v2 v3 I J r h
    rw [f_J7_fill_53178_16_5] at h
    refine wp_iload_n dJ7_fill_53178_5 2 rfl ?_
    refine wp_iload_n dJ7_fill_53178_6 3 rfl ?_
    refine wp_icmp_ge 20 dJ7_fill_53178_7 rfl (fun c7 => ?_) (fun c7 => ?_)
    · replace h := o_pos h c7
      obtain rfl := Option.some.inj h
      exact wp_return dJ7_fill_53178_20 rfl ⟨rfl, rfl, rfl, rfl⟩
    · replace h := o_neg h c7
      refine wp_aload_n dJ7_fill_53178_10 0 rfl ?_
      refine wp_iload_n dJ7_fill_53178_11 2 rfl ?_
      refine wp_iload_n dJ7_fill_53178_12 1 rfl ?_
      obtain ⟨g13, h⟩ := o_grd h
      refine wp_iast (k := 16) dJ7_fill_53178_13 rfl rfl (inb_of g13) ?_
      refine wp_iinc (v := v2 + 1) (lv' := [(0, _), (1, _), (2, _), (3, _)]) dJ7_fill_53178_14 2 rfl rfl rfl rfl rfl ?_
      refine wp_goto 5 dJ7_fill_53178_17 rfl ?_
      refine wp_pick [0, 1, 2, 3] (lv' := [(0, _), (1, _), (2, _), (3, _)]) rfl ?_
      exact ih v1 (v2 + 1) v3 (upI I 16 v2.toNatClampNeg v1) J r h
set_option maxRecDepth 100000 in
set_option maxHeartbeats 4000000 in
theorem c_J7_fill_53178_16 (Γ : GT) (ad : Nat → Nat) (a1 : Int32) (I : IT) (J : JT) (r : IT) (h : f_J7_fill_53178_16 a1 I = some r) : CALL Γ mJ7_fill_53178 (0, 0) [.ref (ad 16), .int a1] (DX ad) I J (QE none (DX ad) r J) := by
  refine call_of' (by decide) (Nat.le_of_ble_eq_true rfl) (lv0 := [(0, .ref (ad 16)), (1, .int a1)]) rfl ?_
  unfold f_J7_fill_53178_16 at h
  refine wp_iconst (v := 0) dJ7_fill_53178_0 (by decide) ?_
  refine wp_istore_n (lv' := [(0, _), (1, _), (2, _)]) dJ7_fill_53178_1 rfl rfl rfl rfl ?_
  refine wp_aload_n dJ7_fill_53178_2 0 rfl ?_
  refine wp_alen (k := 16) (v := 6) dJ7_fill_53178_3 rfl (by decide) rfl (by decide) ?_
  refine wp_istore_n (lv' := [(0, _), (1, _), (2, _), (3, _)]) dJ7_fill_53178_4 rfl rfl rfl rfl ?_
  refine wp_pick [0, 1, 2, 3] (lv' := [(0, _), (1, _), (2, _), (3, _)]) rfl ?_
  exact w_J7_fill_53178_16_5 Γ ad FU a1 0 6 I J r h
def f_J7_fill_53178_17_5 : Nat → Int32 → Int32 → Int32 → IT → Option (IT)
  | 0, _, _, _, _ => none
  | n + 1, v1, v2, v3, I =>
    if v3 ≤ v2 then
      some I
    else
      if inbB v2 6 = true then
        f_J7_fill_53178_17_5 n v1 (v2 + 1) v3 (upI I 17 v2.toNatClampNeg v1)
      else none
def f_J7_fill_53178_17 (a1 : Int32) (I : IT) : Option (IT) :=
  f_J7_fill_53178_17_5 FU a1 0 6 I
set_option maxRecDepth 100000 in
set_option maxHeartbeats 4000000 in
theorem w_J7_fill_53178_17_5 (Γ : GT) (ad : Nat → Nat) : ∀ (n : Nat) (v1 : Int32) (v2 : Int32) (v3 : Int32) (I : IT) (J : JT) (r : IT), f_J7_fill_53178_17_5 n v1 v2 v3 I = some r → WP Γ mJ7_fill_53178 (0, 0) 5 [(0, .ref (ad 17)), (1, .int v1), (2, .int v2), (3, .int v3)] [] (DX ad) I J (QE none (DX ad) r J) := by
  intro n
  induction n with
  | zero => intro v1 v2 v3 I J r h; exact absurd h (by simp [f_J7_fill_53178_17_5])
  | succ n ih =>
    intro v1 v2 v3 I J r h
    rw [f_J7_fill_53178_17_5] at h
    refine wp_iload_n dJ7_fill_53178_5 2 rfl ?_
    refine wp_iload_n dJ7_fill_53178_6 3 rfl ?_
    refine wp_icmp_ge 20 dJ7_fill_53178_7 rfl (fun c7 => ?_) (fun c7 => ?_)
    · replace h := o_pos h c7
      obtain rfl := Option.some.inj h
      exact wp_return dJ7_fill_53178_20 rfl ⟨rfl, rfl, rfl, rfl⟩
    · replace h := o_neg h c7
      refine wp_aload_n dJ7_fill_53178_10 0 rfl ?_
      refine wp_iload_n dJ7_fill_53178_11 2 rfl ?_
      refine wp_iload_n dJ7_fill_53178_12 1 rfl ?_
      obtain ⟨g13, h⟩ := o_grd h
      refine wp_iast (k := 17) dJ7_fill_53178_13 rfl rfl (inb_of g13) ?_
      refine wp_iinc (v := v2 + 1) (lv' := [(0, _), (1, _), (2, _), (3, _)]) dJ7_fill_53178_14 2 rfl rfl rfl rfl rfl ?_
      refine wp_goto 5 dJ7_fill_53178_17 rfl ?_
      refine wp_pick [0, 1, 2, 3] (lv' := [(0, _), (1, _), (2, _), (3, _)]) rfl ?_
      exact ih v1 (v2 + 1) v3 (upI I 17 v2.toNatClampNeg v1) J r h
set_option maxRecDepth 100000 in
set_option maxHeartbeats 4000000 in
theorem c_J7_fill_53178_17 (Γ : GT) (ad : Nat → Nat) (a1 : Int32) (I : IT) (J : JT) (r : IT) (h : f_J7_fill_53178_17 a1 I = some r) : CALL Γ mJ7_fill_53178 (0, 0) [.ref (ad 17), .int a1] (DX ad) I J (QE none (DX ad) r J) := by
  refine call_of' (by decide) (Nat.le_of_ble_eq_true rfl) (lv0 := [(0, .ref (ad 17)), (1, .int a1)]) rfl ?_
  unfold f_J7_fill_53178_17 at h
  refine wp_iconst (v := 0) dJ7_fill_53178_0 (by decide) ?_
  refine wp_istore_n (lv' := [(0, _), (1, _), (2, _)]) dJ7_fill_53178_1 rfl rfl rfl rfl ?_
  refine wp_aload_n dJ7_fill_53178_2 0 rfl ?_
  refine wp_alen (k := 17) (v := 6) dJ7_fill_53178_3 rfl (by decide) rfl (by decide) ?_
  refine wp_istore_n (lv' := [(0, _), (1, _), (2, _), (3, _)]) dJ7_fill_53178_4 rfl rfl rfl rfl ?_
  refine wp_pick [0, 1, 2, 3] (lv' := [(0, _), (1, _), (2, _), (3, _)]) rfl ?_
  exact w_J7_fill_53178_17_5 Γ ad FU a1 0 6 I J r h
def f_J7_fill_53178_18_5 : Nat → Int32 → Int32 → Int32 → IT → Option (IT)
  | 0, _, _, _, _ => none
  | n + 1, v1, v2, v3, I =>
    if v3 ≤ v2 then
      some I
    else
      if inbB v2 14 = true then
        f_J7_fill_53178_18_5 n v1 (v2 + 1) v3 (upI I 18 v2.toNatClampNeg v1)
      else none
def f_J7_fill_53178_18 (a1 : Int32) (I : IT) : Option (IT) :=
  f_J7_fill_53178_18_5 FU a1 0 14 I
set_option maxRecDepth 100000 in
set_option maxHeartbeats 4000000 in
theorem w_J7_fill_53178_18_5 (Γ : GT) (ad : Nat → Nat) : ∀ (n : Nat) (v1 : Int32) (v2 : Int32) (v3 : Int32) (I : IT) (J : JT) (r : IT), f_J7_fill_53178_18_5 n v1 v2 v3 I = some r → WP Γ mJ7_fill_53178 (0, 0) 5 [(0, .ref (ad 18)), (1, .int v1), (2, .int v2), (3, .int v3)] [] (DX ad) I J (QE none (DX ad) r J) := by
  intro n
  induction n with
  | zero => intro v1 v2 v3 I J r h; exact absurd h (by simp [f_J7_fill_53178_18_5])
  | succ n ih =>
    intro v1 v2 v3 I J r h
    rw [f_J7_fill_53178_18_5] at h
    refine wp_iload_n dJ7_fill_53178_5 2 rfl ?_
    refine wp_iload_n dJ7_fill_53178_6 3 rfl ?_
    refine wp_icmp_ge 20 dJ7_fill_53178_7 rfl (fun c7 => ?_) (fun c7 => ?_)
    · replace h := o_pos h c7
      obtain rfl := Option.some.inj h
      exact wp_return dJ7_fill_53178_20 rfl ⟨rfl, rfl, rfl, rfl⟩
    · replace h := o_neg h c7
      refine wp_aload_n dJ7_fill_53178_10 0 rfl ?_
      refine wp_iload_n dJ7_fill_53178_11 2 rfl ?_
      refine wp_iload_n dJ7_fill_53178_12 1 rfl ?_
      obtain ⟨g13, h⟩ := o_grd h
      refine wp_iast (k := 18) dJ7_fill_53178_13 rfl rfl (inb_of g13) ?_
      refine wp_iinc (v := v2 + 1) (lv' := [(0, _), (1, _), (2, _), (3, _)]) dJ7_fill_53178_14 2 rfl rfl rfl rfl rfl ?_
      refine wp_goto 5 dJ7_fill_53178_17 rfl ?_
      refine wp_pick [0, 1, 2, 3] (lv' := [(0, _), (1, _), (2, _), (3, _)]) rfl ?_
      exact ih v1 (v2 + 1) v3 (upI I 18 v2.toNatClampNeg v1) J r h
set_option maxRecDepth 100000 in
set_option maxHeartbeats 4000000 in
theorem c_J7_fill_53178_18 (Γ : GT) (ad : Nat → Nat) (a1 : Int32) (I : IT) (J : JT) (r : IT) (h : f_J7_fill_53178_18 a1 I = some r) : CALL Γ mJ7_fill_53178 (0, 0) [.ref (ad 18), .int a1] (DX ad) I J (QE none (DX ad) r J) := by
  refine call_of' (by decide) (Nat.le_of_ble_eq_true rfl) (lv0 := [(0, .ref (ad 18)), (1, .int a1)]) rfl ?_
  unfold f_J7_fill_53178_18 at h
  refine wp_iconst (v := 0) dJ7_fill_53178_0 (by decide) ?_
  refine wp_istore_n (lv' := [(0, _), (1, _), (2, _)]) dJ7_fill_53178_1 rfl rfl rfl rfl ?_
  refine wp_aload_n dJ7_fill_53178_2 0 rfl ?_
  refine wp_alen (k := 18) (v := 14) dJ7_fill_53178_3 rfl (by decide) rfl (by decide) ?_
  refine wp_istore_n (lv' := [(0, _), (1, _), (2, _), (3, _)]) dJ7_fill_53178_4 rfl rfl rfl rfl ?_
  refine wp_pick [0, 1, 2, 3] (lv' := [(0, _), (1, _), (2, _), (3, _)]) rfl ?_
  exact w_J7_fill_53178_18_5 Γ ad FU a1 0 14 I J r h
def f_X1_begin (I : IT) : Option (IT) :=
  (f_J7_fill_53178_13 0 (upI I 12 1 0)).bind fun r10 =>
  (f_J7_fill_53178_14 0 r10).bind fun r18 =>
  (f_J7_fill_53178_15 0 r18).bind fun r26 =>
  (f_J7_fill_53178_16 (-1) r26).bind fun r34 =>
  (f_J7_fill_53178_17 (-1) r34).bind fun r42 =>
  (f_J7_fill_53178_18 0 r42).bind fun r50 =>
  some r50
set_option maxRecDepth 100000 in
set_option maxHeartbeats 4000000 in
theorem c_X1_begin (Γ : GT) (ad : Nat → Nat) (I : IT) (J : JT) (r : IT) (h : f_X1_begin I = some r) : CALL Γ mX1_begin (0, 0) [.ref (ad 12)] (DX ad) I J (QE none (DX ad) r J) := by
  refine call_of' (by decide) (Nat.le_of_ble_eq_true rfl) (lv0 := [(0, .ref (ad 12))]) rfl ?_
  unfold f_X1_begin at h
  refine wp_aload_n dX1_begin_0 0 rfl ?_
  refine wp_iconst (v := 0) dX1_begin_1 (by decide) ?_
  refine wp_putI (k := 12) dX1_begin_2 flX1_37 rfl rfl rfl rfl rfl rfl rfl rfl ?_
  refine wp_aload_n dX1_begin_5 0 rfl ?_
  refine wp_getR (k := 12) (a' := ad 13) dX1_begin_6 flX1_9 rfl rfl rfl rfl rfl ?_
  refine wp_iconst (v := 0) dX1_begin_9 (by decide) ?_
  obtain ⟨r10, h10, h⟩ := o_bind h
  refine wp_callsV (c_J7_fill_53178_13 Γ ad 0 (upI I 12 1 0) J r10 h10) dX1_begin_10 mlX1_41 mwJ7_fill_53178 miJ7_fill_53178 rfl (Nat.le_of_ble_eq_true rfl) rfl (by decide) (by decide) ?_
  refine wp_aload_n dX1_begin_13 0 rfl ?_
  refine wp_getR (k := 12) (a' := ad 14) dX1_begin_14 flX1_15 rfl rfl rfl rfl rfl ?_
  refine wp_iconst (v := 0) dX1_begin_17 (by decide) ?_
  obtain ⟨r18, h18, h⟩ := o_bind h
  refine wp_callsV (c_J7_fill_53178_14 Γ ad 0 r10 J r18 h18) dX1_begin_18 mlX1_41 mwJ7_fill_53178 miJ7_fill_53178 rfl (Nat.le_of_ble_eq_true rfl) rfl (by decide) (by decide) ?_
  refine wp_aload_n dX1_begin_21 0 rfl ?_
  refine wp_getR (k := 12) (a' := ad 15) dX1_begin_22 flX1_18 rfl rfl rfl rfl rfl ?_
  refine wp_iconst (v := 0) dX1_begin_25 (by decide) ?_
  obtain ⟨r26, h26, h⟩ := o_bind h
  refine wp_callsV (c_J7_fill_53178_15 Γ ad 0 r18 J r26 h26) dX1_begin_26 mlX1_41 mwJ7_fill_53178 miJ7_fill_53178 rfl (Nat.le_of_ble_eq_true rfl) rfl (by decide) (by decide) ?_
  refine wp_aload_n dX1_begin_29 0 rfl ?_
  refine wp_getR (k := 12) (a' := ad 16) dX1_begin_30 flX1_21 rfl rfl rfl rfl rfl ?_
  refine wp_iconst (v := (-1)) dX1_begin_33 (by decide) ?_
  obtain ⟨r34, h34, h⟩ := o_bind h
  refine wp_callsV (c_J7_fill_53178_16 Γ ad (-1) r26 J r34 h34) dX1_begin_34 mlX1_41 mwJ7_fill_53178 miJ7_fill_53178 rfl (Nat.le_of_ble_eq_true rfl) rfl (by decide) (by decide) ?_
  refine wp_aload_n dX1_begin_37 0 rfl ?_
  refine wp_getR (k := 12) (a' := ad 17) dX1_begin_38 flX1_24 rfl rfl rfl rfl rfl ?_
  refine wp_iconst (v := (-1)) dX1_begin_41 (by decide) ?_
  obtain ⟨r42, h42, h⟩ := o_bind h
  refine wp_callsV (c_J7_fill_53178_17 Γ ad (-1) r34 J r42 h42) dX1_begin_42 mlX1_41 mwJ7_fill_53178 miJ7_fill_53178 rfl (Nat.le_of_ble_eq_true rfl) rfl (by decide) (by decide) ?_
  refine wp_aload_n dX1_begin_45 0 rfl ?_
  refine wp_getR (k := 12) (a' := ad 18) dX1_begin_46 flX1_27 rfl rfl rfl rfl rfl ?_
  refine wp_iconst (v := 0) dX1_begin_49 (by decide) ?_
  obtain ⟨r50, h50, h⟩ := o_bind h
  refine wp_callsV (c_J7_fill_53178_18 Γ ad 0 r42 J r50 h50) dX1_begin_50 mlX1_41 mwJ7_fill_53178 miJ7_fill_53178 rfl (Nat.le_of_ble_eq_true rfl) rfl (by decide) (by decide) ?_
  obtain rfl := Option.some.inj h
  exact wp_return dX1_begin_53 rfl ⟨rfl, rfl, rfl, rfl⟩
def f_X2_persons (I : IT) : Option (Int32) :=
  some (((I 3 0) + (I 3 1)) + (I 3 2))
set_option maxRecDepth 100000 in
set_option maxHeartbeats 4000000 in
theorem c_X2_persons (Γ : GT) (ad : Nat → Nat) (I : IT) (J : JT) (r : Int32) (h : f_X2_persons I = some r) : CALL Γ mX2_persons (0, 0) [.ref (ad 3)] (DX ad) I J (QE (some (.int r)) (DX ad) I J) := by
  refine call_of' (by decide) (Nat.le_of_ble_eq_true rfl) (lv0 := [(0, .ref (ad 3))]) rfl ?_
  unfold f_X2_persons at h
  refine wp_aload_n dX2_persons_0 0 rfl ?_
  refine wp_getI (k := 3) dX2_persons_1 flX2_24 rfl rfl rfl rfl ?_
  refine wp_aload_n dX2_persons_4 0 rfl ?_
  refine wp_getI (k := 3) dX2_persons_5 flX2_28 rfl rfl rfl rfl ?_
  refine wp_iadd dX2_persons_8 ?_
  refine wp_aload_n dX2_persons_9 0 rfl ?_
  refine wp_getI (k := 3) dX2_persons_10 flX2_31 rfl rfl rfl rfl ?_
  refine wp_iadd dX2_persons_13 ?_
  obtain rfl := Option.some.inj h
  exact wp_ireturn (ty := .int) dX2_persons_14 rfl rfl ⟨rfl, rfl, rfl, rfl⟩
def f_X9_market (I : IT) : Option (Int32 × IT) :=
  (f_X4_readText I).bind fun r4 =>
  if r4.1 = 0 then
    (f_X2_become_8 (upI (upI r4.2 1 1 0) 0 11 (-1))).bind fun r52 =>
    (f_X1_begin r52).bind fun r59 =>
    (f_X2_persons (upI (upI (upI (upI (upI r59 34 ((0 : Int32).toNatClampNeg) (vp_nar .boolean 0)) 34 ((1 : Int32).toNatClampNeg) (vp_nar .boolean 0)) 41 0 0) 46 2 1) 50 1 0)).bind fun r104 =>
    some (r104, upI (upI (upI (upI (upI r59 34 ((0 : Int32).toNatClampNeg) (vp_nar .boolean 0)) 34 ((1 : Int32).toNatClampNeg) (vp_nar .boolean 0)) 41 0 0) 46 2 1) 50 1 0)
  else
    some ((-10) - r4.1, upI (upI r4.2 1 1 0) 0 11 ((upI r4.2 1 1 0) 7 2))
set_option maxRecDepth 100000 in
set_option maxHeartbeats 4000000 in
theorem c_X9_market (Γ : GT) (ad : Nat → Nat) (I : IT) (J : JT) (r : Int32 × IT) (h : f_X9_market I = some r) : CALL Γ mX9_market (0, 0) [.ref (ad 0)] (DX ad) I J (QE (some (.int r.1)) (DX ad) r.2 J) := by
  refine call_of' (by decide) (Nat.le_of_ble_eq_true rfl) (lv0 := [(0, .ref (ad 0))]) rfl ?_
  unfold f_X9_market at h
  refine wp_aload_n dX9_market_0 0 rfl ?_
  refine wp_getR (k := 0) (a' := ad 7) dX9_market_1 flX9_28 rfl rfl rfl rfl rfl ?_
  obtain ⟨r4, h4, h⟩ := o_bind h
  refine wp_callvI (k := 7) (ci := 4) (c_X4_readText Γ ad I J r4 h4) dX9_market_4 mlX9_103 mwX4_readText miX4_readText rfl rfl rfl rfl (Nat.le_of_ble_eq_true rfl) rfl (by decide) (by decide) ?_
  refine wp_istore_n (lv' := [(0, _), (1, _)]) dX9_market_7 rfl rfl rfl rfl ?_
  refine wp_aload_n dX9_market_8 0 rfl ?_
  refine wp_getR (k := 0) (a' := ad 1) dX9_market_9 flX9_10 rfl rfl rfl rfl rfl ?_
  refine wp_iconst (v := 0) dX9_market_12 (by decide) ?_
  refine wp_putI (k := 1) dX9_market_13 flX9_95 rfl rfl rfl rfl rfl rfl rfl rfl ?_
  refine wp_iload_n dX9_market_16 1 rfl ?_
  refine wp_if_eq 36 dX9_market_17 rfl (fun c17 => ?_) (fun c17 => ?_)
  · replace h := o_pos h c17
    refine wp_aload_n dX9_market_36 0 rfl ?_
    refine wp_iconst (v := (-1)) dX9_market_37 (by decide) ?_
    refine wp_putI (k := 0) dX9_market_38 flX9_86 rfl rfl rfl rfl rfl rfl rfl rfl ?_
    refine wp_aload_n dX9_market_41 0 rfl ?_
    refine wp_getR (k := 0) (a' := ad 3) dX9_market_42 flX9_19 rfl rfl rfl rfl rfl ?_
    refine wp_aload_n dX9_market_45 0 rfl ?_
    refine wp_getR (k := 0) (a' := ad 7) dX9_market_46 flX9_28 rfl rfl rfl rfl rfl ?_
    refine wp_getR (k := 7) (a' := ad 8) dX9_market_49 flX9_110 rfl rfl rfl rfl rfl ?_
    obtain ⟨r52, h52, h⟩ := o_bind h
    refine wp_callvV (k := 3) (ci := 2) (c_X2_become_8 Γ ad (upI (upI r4.2 1 1 0) 0 11 (-1)) J r52 h52) dX9_market_52 mlX9_113 mwX2_become miX2_become rfl rfl rfl rfl (Nat.le_of_ble_eq_true rfl) rfl (by decide) (by decide) ?_
    refine wp_aload_n dX9_market_55 0 rfl ?_
    refine wp_getR (k := 0) (a' := ad 12) dX9_market_56 flX9_37 rfl rfl rfl rfl rfl ?_
    obtain ⟨r59, h59, h⟩ := o_bind h
    refine wp_callvV (k := 12) (ci := 1) (c_X1_begin Γ ad r52 J r59 h59) dX9_market_59 mlX9_116 mwX1_begin miX1_begin rfl rfl rfl rfl (Nat.le_of_ble_eq_true rfl) rfl (by decide) (by decide) ?_
    refine wp_aload_n dX9_market_62 0 rfl ?_
    refine wp_getR (k := 0) (a' := ad 34) dX9_market_63 flX9_45 rfl rfl rfl rfl rfl ?_
    refine wp_iconst (v := 0) dX9_market_66 (by decide) ?_
    refine wp_iconst (v := 0) dX9_market_67 (by decide) ?_
    refine wp_zast (k := 34) dX9_market_68 rfl rfl (inb_of (by decide)) ?_
    refine wp_aload_n dX9_market_69 0 rfl ?_
    refine wp_getR (k := 0) (a' := ad 34) dX9_market_70 flX9_45 rfl rfl rfl rfl rfl ?_
    refine wp_iconst (v := 1) dX9_market_73 (by decide) ?_
    refine wp_iconst (v := 0) dX9_market_74 (by decide) ?_
    refine wp_zast (k := 34) dX9_market_75 rfl rfl (inb_of (by decide)) ?_
    refine wp_aload_n dX9_market_76 0 rfl ?_
    refine wp_getR (k := 0) (a' := ad 41) dX9_market_77 flX9_59 rfl rfl rfl rfl rfl ?_
    refine wp_iconst (v := 0) dX9_market_80 (by decide) ?_
    refine wp_putI (k := 41) dX9_market_81 flX9_119 rfl rfl rfl rfl rfl rfl rfl rfl ?_
    refine wp_aload_n dX9_market_84 0 rfl ?_
    refine wp_getR (k := 0) (a' := ad 46) dX9_market_85 flX9_68 rfl rfl rfl rfl rfl ?_
    refine wp_iconst (v := 1) dX9_market_88 (by decide) ?_
    refine wp_putI (k := 46) dX9_market_89 flX9_122 rfl rfl rfl rfl rfl rfl rfl rfl ?_
    refine wp_aload_n dX9_market_92 0 rfl ?_
    refine wp_getR (k := 0) (a' := ad 50) dX9_market_93 flX9_82 rfl rfl rfl rfl rfl ?_
    refine wp_iconst (v := 0) dX9_market_96 (by decide) ?_
    refine wp_putI (k := 50) dX9_market_97 flX9_126 rfl rfl rfl rfl rfl rfl rfl rfl ?_
    refine wp_aload_n dX9_market_100 0 rfl ?_
    refine wp_getR (k := 0) (a' := ad 3) dX9_market_101 flX9_19 rfl rfl rfl rfl rfl ?_
    obtain ⟨r104, h104, h⟩ := o_bind h
    refine wp_callvI (k := 3) (ci := 2) (c_X2_persons Γ ad (upI (upI (upI (upI (upI r59 34 ((0 : Int32).toNatClampNeg) (vp_nar .boolean 0)) 34 ((1 : Int32).toNatClampNeg) (vp_nar .boolean 0)) 41 0 0) 46 2 1) 50 1 0) J r104 h104) dX9_market_104 mlX9_127 mwX2_persons miX2_persons rfl rfl rfl rfl (Nat.le_of_ble_eq_true rfl) rfl (by decide) (by decide) ?_
    obtain rfl := Option.some.inj h
    exact wp_ireturn (ty := .int) dX9_market_107 rfl rfl ⟨rfl, rfl, rfl, rfl⟩
  · replace h := o_neg h c17
    refine wp_aload_n dX9_market_20 0 rfl ?_
    refine wp_aload_n dX9_market_21 0 rfl ?_
    refine wp_getR (k := 0) (a' := ad 7) dX9_market_22 flX9_28 rfl rfl rfl rfl rfl ?_
    refine wp_getI (k := 7) dX9_market_25 flX9_107 rfl rfl rfl rfl ?_
    refine wp_putI (k := 0) dX9_market_28 flX9_86 rfl rfl rfl rfl rfl rfl rfl rfl ?_
    refine wp_bipush (v := (-10)) dX9_market_31 (by decide) ?_
    refine wp_iload_n dX9_market_33 1 rfl ?_
    refine wp_isub dX9_market_34 ?_
    obtain rfl := Option.some.inj h
    exact wp_ireturn (ty := .int) dX9_market_35 rfl rfl ⟨rfl, rfl, rfl, rfl⟩
def f_X9_fault (I : IT) : Option (Int32) :=
  some (I 0 11)
set_option maxRecDepth 100000 in
set_option maxHeartbeats 4000000 in
theorem c_X9_fault (Γ : GT) (ad : Nat → Nat) (I : IT) (J : JT) (r : Int32) (h : f_X9_fault I = some r) : CALL Γ mX9_fault (0, 0) [.ref (ad 0)] (DX ad) I J (QE (some (.int r)) (DX ad) I J) := by
  refine call_of' (by decide) (Nat.le_of_ble_eq_true rfl) (lv0 := [(0, .ref (ad 0))]) rfl ?_
  unfold f_X9_fault at h
  refine wp_aload_n dX9_fault_0 0 rfl ?_
  refine wp_getI (k := 0) dX9_fault_1 flX9_86 rfl rfl rfl rfl ?_
  obtain rfl := Option.some.inj h
  exact wp_ireturn (ty := .int) dX9_fault_4 rfl rfl ⟨rfl, rfl, rfl, rfl⟩
def f_X1_isSold (a1 : Int32) (I : IT) : Option (Int32) :=
  if inbB a1 6 = true then
    if (I 16 a1.toNatClampNeg) = ((-1) : Int32) then
      some 0
    else
      some 1
  else none
set_option maxRecDepth 100000 in
set_option maxHeartbeats 4000000 in
theorem c_X1_isSold (Γ : GT) (ad : Nat → Nat) (a1 : Int32) (I : IT) (J : JT) (r : Int32) (h : f_X1_isSold a1 I = some r) : CALL Γ mX1_isSold (0, 0) [.ref (ad 12), .int a1] (DX ad) I J (QE (some (.int r)) (DX ad) I J) := by
  refine call_of' (by decide) (Nat.le_of_ble_eq_true rfl) (lv0 := [(0, .ref (ad 12)), (1, .int a1)]) rfl ?_
  unfold f_X1_isSold at h
  refine wp_aload_n dX1_isSold_0 0 rfl ?_
  refine wp_getR (k := 12) (a' := ad 16) dX1_isSold_1 flX1_21 rfl rfl rfl rfl rfl ?_
  refine wp_iload_n dX1_isSold_4 1 rfl ?_
  obtain ⟨g5, h⟩ := o_grd h
  refine wp_iald (k := 16) dX1_isSold_5 rfl rfl (inb_of g5) ?_
  refine wp_iconst (v := (-1)) dX1_isSold_6 (by decide) ?_
  refine wp_icmp_eq 14 dX1_isSold_7 rfl (fun c7 => ?_) (fun c7 => ?_)
  · replace h := o_pos h c7
    refine wp_iconst (v := 0) dX1_isSold_14 (by decide) ?_
    obtain rfl := Option.some.inj h
    exact wp_ireturn (ty := .boolean) dX1_isSold_15 rfl rfl ⟨rfl, rfl, rfl, rfl⟩
  · replace h := o_neg h c7
    refine wp_iconst (v := 1) dX1_isSold_10 (by decide) ?_
    refine wp_goto 15 dX1_isSold_11 rfl ?_
    obtain rfl := Option.some.inj h
    exact wp_ireturn (ty := .boolean) dX1_isSold_15 rfl rfl ⟨rfl, rfl, rfl, rfl⟩
def f_X1_soldLots_4 : Nat → Int32 → Int32 → IT → Option (Int32)
  | 0, _, _, _ => none
  | n + 1, v1, v2, I =>
    if (I 3 0) ≤ v2 then
      some v1
    else
      (f_X1_isSold v2 I).bind fun r18 =>
      if r18 = 0 then
        f_X1_soldLots_4 n (v1 ||| 0) (v2 + 1) I
      else
        f_X1_soldLots_4 n (v1 ||| ((1 : Int32) <<< (v2 &&& 31))) (v2 + 1) I
def f_X1_soldLots (I : IT) : Option (Int32) :=
  f_X1_soldLots_4 FU 0 0 I
set_option maxRecDepth 100000 in
set_option maxHeartbeats 4000000 in
theorem w_X1_soldLots_4 (Γ : GT) (ad : Nat → Nat) : ∀ (n : Nat) (v1 : Int32) (v2 : Int32) (I : IT) (J : JT) (r : Int32), f_X1_soldLots_4 n v1 v2 I = some r → WP Γ mX1_soldLots (0, 0) 4 [(0, .ref (ad 12)), (1, .int v1), (2, .int v2)] [] (DX ad) I J (QE (some (.int r)) (DX ad) I J) := by
  intro n
  induction n with
  | zero => intro v1 v2 I J r h; exact absurd h (by simp [f_X1_soldLots_4])
  | succ n ih =>
    intro v1 v2 I J r h
    rw [f_X1_soldLots_4] at h
    refine wp_iload_n dX1_soldLots_4 2 rfl ?_
    refine wp_aload_n dX1_soldLots_5 0 rfl ?_
    refine wp_getR (k := 12) (a' := ad 3) dX1_soldLots_6 flX1_30 rfl rfl rfl rfl rfl ?_
    refine wp_getI (k := 3) dX1_soldLots_9 flX1_77 rfl rfl rfl rfl ?_
    refine wp_icmp_ge 39 dX1_soldLots_12 rfl (fun c12 => ?_) (fun c12 => ?_)
    · replace h := o_pos h c12
      refine wp_iload_n dX1_soldLots_39 1 rfl ?_
      obtain rfl := Option.some.inj h
      exact wp_ireturn (ty := .int) dX1_soldLots_40 rfl rfl ⟨rfl, rfl, rfl, rfl⟩
    · replace h := o_neg h c12
      refine wp_iload_n dX1_soldLots_15 1 rfl ?_
      refine wp_aload_n dX1_soldLots_16 0 rfl ?_
      refine wp_iload_n dX1_soldLots_17 2 rfl ?_
      obtain ⟨r18, h18, h⟩ := o_bind h
      refine wp_callvI (k := 12) (ci := 1) (c_X1_isSold Γ ad v2 I J r18 h18) dX1_soldLots_18 mlX1_80 mwX1_isSold miX1_isSold rfl rfl rfl rfl (Nat.le_of_ble_eq_true rfl) rfl (by decide) (by decide) ?_
      refine wp_if_eq 30 dX1_soldLots_21 rfl (fun c21 => ?_) (fun c21 => ?_)
      · replace h := o_pos h c21
        refine wp_iconst (v := 0) dX1_soldLots_30 (by decide) ?_
        refine wp_ior dX1_soldLots_31 ?_
        refine wp_istore_n (lv' := [(0, _), (1, _), (2, _)]) dX1_soldLots_32 rfl rfl rfl rfl ?_
        refine wp_iinc (v := v2 + 1) (lv' := [(0, _), (1, _), (2, _)]) dX1_soldLots_33 2 rfl rfl rfl rfl rfl ?_
        refine wp_goto 4 dX1_soldLots_36 rfl ?_
        refine wp_pick [0, 1, 2] (lv' := [(0, _), (1, _), (2, _)]) rfl ?_
        exact ih (v1 ||| 0) (v2 + 1) I J r h
      · replace h := o_neg h c21
        refine wp_iconst (v := 1) dX1_soldLots_24 (by decide) ?_
        refine wp_iload_n dX1_soldLots_25 2 rfl ?_
        refine wp_ishl dX1_soldLots_26 ?_
        refine wp_goto 31 dX1_soldLots_27 rfl ?_
        refine wp_ior dX1_soldLots_31 ?_
        refine wp_istore_n (lv' := [(0, _), (1, _), (2, _)]) dX1_soldLots_32 rfl rfl rfl rfl ?_
        refine wp_iinc (v := v2 + 1) (lv' := [(0, _), (1, _), (2, _)]) dX1_soldLots_33 2 rfl rfl rfl rfl rfl ?_
        refine wp_goto 4 dX1_soldLots_36 rfl ?_
        refine wp_pick [0, 1, 2] (lv' := [(0, _), (1, _), (2, _)]) rfl ?_
        exact ih (v1 ||| ((1 : Int32) <<< (v2 &&& 31))) (v2 + 1) I J r h
set_option maxRecDepth 100000 in
set_option maxHeartbeats 4000000 in
theorem c_X1_soldLots (Γ : GT) (ad : Nat → Nat) (I : IT) (J : JT) (r : Int32) (h : f_X1_soldLots I = some r) : CALL Γ mX1_soldLots (0, 0) [.ref (ad 12)] (DX ad) I J (QE (some (.int r)) (DX ad) I J) := by
  refine call_of' (by decide) (Nat.le_of_ble_eq_true rfl) (lv0 := [(0, .ref (ad 12))]) rfl ?_
  unfold f_X1_soldLots at h
  refine wp_iconst (v := 0) dX1_soldLots_0 (by decide) ?_
  refine wp_istore_n (lv' := [(0, _), (1, _)]) dX1_soldLots_1 rfl rfl rfl rfl ?_
  refine wp_iconst (v := 0) dX1_soldLots_2 (by decide) ?_
  refine wp_istore_n (lv' := [(0, _), (1, _), (2, _)]) dX1_soldLots_3 rfl rfl rfl rfl ?_
  refine wp_pick [0, 1, 2] (lv' := [(0, _), (1, _), (2, _)]) rfl ?_
  exact w_X1_soldLots_4 Γ ad FU 0 0 I J r h
def f_X9_told (a1 : Int32) (I : IT) : Option (Int32) :=
  if a1 = 0 then
    some (I 3 0)
  else
    if a1 = 1 then
      some (I 3 1)
    else
      if a1 = 2 then
        some (I 3 2)
      else
        if a1 = 3 then
          some (I 1 1)
        else
          if a1 = 4 then
            some (I 12 1)
          else
            if a1 = 5 then
              some (I 3 3)
            else
              if a1 = 6 then
                some (I 3 4)
              else
                if a1 = 7 then
                  (f_X1_soldLots I).bind fun r116 =>
                  some r116
                else
                  if a1 = 8 then
                    some (I 50 1)
                  else
                    if a1 = 9 then
                      some (I 41 0)
                    else
                      some (-1000002)
set_option maxRecDepth 100000 in
set_option maxHeartbeats 4000000 in
theorem c_X9_told (Γ : GT) (ad : Nat → Nat) (a1 : Int32) (I : IT) (J : JT) (r : Int32) (h : f_X9_told a1 I = some r) : CALL Γ mX9_told (0, 0) [.ref (ad 0), .int a1] (DX ad) I J (QE (some (.int r)) (DX ad) I J) := by
  refine call_of' (by decide) (Nat.le_of_ble_eq_true rfl) (lv0 := [(0, .ref (ad 0)), (1, .int a1)]) rfl ?_
  unfold f_X9_told at h
  refine wp_iload_n dX9_told_0 1 rfl ?_
  by_cases e1_0 : a1 = 0
  · replace h := o_pos h e1_0
    refine wp_tableIn (off := 55) 56 dX9_told_1 (by rw [e1_0]; decide) (by rw [e1_0]; decide) (by rw [e1_0]; rfl) rfl ?_
    refine wp_aload_n dX9_told_56 0 rfl ?_
    refine wp_getR (k := 0) (a' := ad 3) dX9_told_57 flX9_19 rfl rfl rfl rfl rfl ?_
    refine wp_getI (k := 3) dX9_told_60 flX9_130 rfl rfl rfl rfl ?_
    obtain rfl := Option.some.inj h
    exact wp_ireturn (ty := .int) dX9_told_63 rfl rfl ⟨rfl, rfl, rfl, rfl⟩
  · replace h := o_neg h e1_0
    by_cases e1_1 : a1 = 1
    · replace h := o_pos h e1_1
      refine wp_tableIn (off := 63) 64 dX9_told_1 (by rw [e1_1]; decide) (by rw [e1_1]; decide) (by rw [e1_1]; rfl) rfl ?_
      refine wp_aload_n dX9_told_64 0 rfl ?_
      refine wp_getR (k := 0) (a' := ad 3) dX9_told_65 flX9_19 rfl rfl rfl rfl rfl ?_
      refine wp_getI (k := 3) dX9_told_68 flX9_133 rfl rfl rfl rfl ?_
      obtain rfl := Option.some.inj h
      exact wp_ireturn (ty := .int) dX9_told_71 rfl rfl ⟨rfl, rfl, rfl, rfl⟩
    · replace h := o_neg h e1_1
      by_cases e1_2 : a1 = 2
      · replace h := o_pos h e1_2
        refine wp_tableIn (off := 71) 72 dX9_told_1 (by rw [e1_2]; decide) (by rw [e1_2]; decide) (by rw [e1_2]; rfl) rfl ?_
        refine wp_aload_n dX9_told_72 0 rfl ?_
        refine wp_getR (k := 0) (a' := ad 3) dX9_told_73 flX9_19 rfl rfl rfl rfl rfl ?_
        refine wp_getI (k := 3) dX9_told_76 flX9_136 rfl rfl rfl rfl ?_
        obtain rfl := Option.some.inj h
        exact wp_ireturn (ty := .int) dX9_told_79 rfl rfl ⟨rfl, rfl, rfl, rfl⟩
      · replace h := o_neg h e1_2
        by_cases e1_3 : a1 = 3
        · replace h := o_pos h e1_3
          refine wp_tableIn (off := 79) 80 dX9_told_1 (by rw [e1_3]; decide) (by rw [e1_3]; decide) (by rw [e1_3]; rfl) rfl ?_
          refine wp_aload_n dX9_told_80 0 rfl ?_
          refine wp_getR (k := 0) (a' := ad 1) dX9_told_81 flX9_10 rfl rfl rfl rfl rfl ?_
          refine wp_getI (k := 1) dX9_told_84 flX9_95 rfl rfl rfl rfl ?_
          obtain rfl := Option.some.inj h
          exact wp_ireturn (ty := .int) dX9_told_87 rfl rfl ⟨rfl, rfl, rfl, rfl⟩
        · replace h := o_neg h e1_3
          by_cases e1_4 : a1 = 4
          · replace h := o_pos h e1_4
            refine wp_tableIn (off := 87) 88 dX9_told_1 (by rw [e1_4]; decide) (by rw [e1_4]; decide) (by rw [e1_4]; rfl) rfl ?_
            refine wp_aload_n dX9_told_88 0 rfl ?_
            refine wp_getR (k := 0) (a' := ad 12) dX9_told_89 flX9_37 rfl rfl rfl rfl rfl ?_
            refine wp_getI (k := 12) dX9_told_92 flX9_139 rfl rfl rfl rfl ?_
            obtain rfl := Option.some.inj h
            exact wp_ireturn (ty := .int) dX9_told_95 rfl rfl ⟨rfl, rfl, rfl, rfl⟩
          · replace h := o_neg h e1_4
            by_cases e1_5 : a1 = 5
            · replace h := o_pos h e1_5
              refine wp_tableIn (off := 95) 96 dX9_told_1 (by rw [e1_5]; decide) (by rw [e1_5]; decide) (by rw [e1_5]; rfl) rfl ?_
              refine wp_aload_n dX9_told_96 0 rfl ?_
              refine wp_getR (k := 0) (a' := ad 3) dX9_told_97 flX9_19 rfl rfl rfl rfl rfl ?_
              refine wp_getI (k := 3) dX9_told_100 flX9_142 rfl rfl rfl rfl ?_
              obtain rfl := Option.some.inj h
              exact wp_ireturn (ty := .int) dX9_told_103 rfl rfl ⟨rfl, rfl, rfl, rfl⟩
            · replace h := o_neg h e1_5
              by_cases e1_6 : a1 = 6
              · replace h := o_pos h e1_6
                refine wp_tableIn (off := 103) 104 dX9_told_1 (by rw [e1_6]; decide) (by rw [e1_6]; decide) (by rw [e1_6]; rfl) rfl ?_
                refine wp_aload_n dX9_told_104 0 rfl ?_
                refine wp_getR (k := 0) (a' := ad 3) dX9_told_105 flX9_19 rfl rfl rfl rfl rfl ?_
                refine wp_getI (k := 3) dX9_told_108 flX9_145 rfl rfl rfl rfl ?_
                obtain rfl := Option.some.inj h
                exact wp_ireturn (ty := .int) dX9_told_111 rfl rfl ⟨rfl, rfl, rfl, rfl⟩
              · replace h := o_neg h e1_6
                by_cases e1_7 : a1 = 7
                · replace h := o_pos h e1_7
                  refine wp_tableIn (off := 111) 112 dX9_told_1 (by rw [e1_7]; decide) (by rw [e1_7]; decide) (by rw [e1_7]; rfl) rfl ?_
                  refine wp_aload_n dX9_told_112 0 rfl ?_
                  refine wp_getR (k := 0) (a' := ad 12) dX9_told_113 flX9_37 rfl rfl rfl rfl rfl ?_
                  obtain ⟨r116, h116, h⟩ := o_bind h
                  refine wp_callvI (k := 12) (ci := 1) (c_X1_soldLots Γ ad I J r116 h116) dX9_told_116 mlX9_148 mwX1_soldLots miX1_soldLots rfl rfl rfl rfl (Nat.le_of_ble_eq_true rfl) rfl (by decide) (by decide) ?_
                  obtain rfl := Option.some.inj h
                  exact wp_ireturn (ty := .int) dX9_told_119 rfl rfl ⟨rfl, rfl, rfl, rfl⟩
                · replace h := o_neg h e1_7
                  by_cases e1_8 : a1 = 8
                  · replace h := o_pos h e1_8
                    refine wp_tableIn (off := 119) 120 dX9_told_1 (by rw [e1_8]; decide) (by rw [e1_8]; decide) (by rw [e1_8]; rfl) rfl ?_
                    refine wp_aload_n dX9_told_120 0 rfl ?_
                    refine wp_getR (k := 0) (a' := ad 50) dX9_told_121 flX9_82 rfl rfl rfl rfl rfl ?_
                    refine wp_getI (k := 50) dX9_told_124 flX9_126 rfl rfl rfl rfl ?_
                    obtain rfl := Option.some.inj h
                    exact wp_ireturn (ty := .int) dX9_told_127 rfl rfl ⟨rfl, rfl, rfl, rfl⟩
                  · replace h := o_neg h e1_8
                    by_cases e1_9 : a1 = 9
                    · replace h := o_pos h e1_9
                      refine wp_tableIn (off := 127) 128 dX9_told_1 (by rw [e1_9]; decide) (by rw [e1_9]; decide) (by rw [e1_9]; rfl) rfl ?_
                      refine wp_aload_n dX9_told_128 0 rfl ?_
                      refine wp_getR (k := 0) (a' := ad 41) dX9_told_129 flX9_59 rfl rfl rfl rfl rfl ?_
                      refine wp_getI (k := 41) dX9_told_132 flX9_119 rfl rfl rfl rfl ?_
                      obtain rfl := Option.some.inj h
                      exact wp_ireturn (ty := .int) dX9_told_135 rfl rfl ⟨rfl, rfl, rfl, rfl⟩
                    · replace h := o_neg h e1_9
                      refine wp_tableOut 136 dX9_told_1 (by have n0 := lv_neT (a := 0) e1_0 (by decide); have n1 := lv_neT (a := 1) e1_1 (by decide); have n2 := lv_neT (a := 2) e1_2 (by decide); have n3 := lv_neT (a := 3) e1_3 (by decide); have n4 := lv_neT (a := 4) e1_4 (by decide); have n5 := lv_neT (a := 5) e1_5 (by decide); have n6 := lv_neT (a := 6) e1_6 (by decide); have n7 := lv_neT (a := 7) e1_7 (by decide); have n8 := lv_neT (a := 8) e1_8 (by decide); have n9 := lv_neT (a := 9) e1_9 (by decide); omega) rfl ?_
                      refine wp_ldc (v := (-1000002)) dX9_told_136 kcX9_94 ?_
                      obtain rfl := Option.some.inj h
                      exact wp_ireturn (ty := .int) dX9_told_138 rfl rfl ⟨rfl, rfl, rfl, rfl⟩
def f_X2_hasPerson (a1 : Int32) (I : IT) : Option (Int32) :=
  if a1 < 0 then
    some 0
  else
    (f_X2_persons I).bind fun r6 =>
    if r6 ≤ a1 then
      some 0
    else
      some 1
set_option maxRecDepth 100000 in
set_option maxHeartbeats 4000000 in
theorem c_X2_hasPerson (Γ : GT) (ad : Nat → Nat) (a1 : Int32) (I : IT) (J : JT) (r : Int32) (h : f_X2_hasPerson a1 I = some r) : CALL Γ mX2_hasPerson (0, 0) [.ref (ad 3), .int a1] (DX ad) I J (QE (some (.int r)) (DX ad) I J) := by
  refine call_of' (by decide) (Nat.le_of_ble_eq_true rfl) (lv0 := [(0, .ref (ad 3)), (1, .int a1)]) rfl ?_
  unfold f_X2_hasPerson at h
  refine wp_iload_n dX2_hasPerson_0 1 rfl ?_
  refine wp_if_lt 16 dX2_hasPerson_1 rfl (fun c1 => ?_) (fun c1 => ?_)
  · replace h := o_pos h c1
    refine wp_iconst (v := 0) dX2_hasPerson_16 (by decide) ?_
    obtain rfl := Option.some.inj h
    exact wp_ireturn (ty := .boolean) dX2_hasPerson_17 rfl rfl ⟨rfl, rfl, rfl, rfl⟩
  · replace h := o_neg h c1
    refine wp_iload_n dX2_hasPerson_4 1 rfl ?_
    refine wp_aload_n dX2_hasPerson_5 0 rfl ?_
    obtain ⟨r6, h6, h⟩ := o_bind h
    refine wp_callvI (k := 3) (ci := 2) (c_X2_persons Γ ad I J r6 h6) dX2_hasPerson_6 mlX2_46 mwX2_persons miX2_persons rfl rfl rfl rfl (Nat.le_of_ble_eq_true rfl) rfl (by decide) (by decide) ?_
    refine wp_icmp_ge 16 dX2_hasPerson_9 rfl (fun c9 => ?_) (fun c9 => ?_)
    · replace h := o_pos h c9
      refine wp_iconst (v := 0) dX2_hasPerson_16 (by decide) ?_
      obtain rfl := Option.some.inj h
      exact wp_ireturn (ty := .boolean) dX2_hasPerson_17 rfl rfl ⟨rfl, rfl, rfl, rfl⟩
    · replace h := o_neg h c9
      refine wp_iconst (v := 1) dX2_hasPerson_12 (by decide) ?_
      refine wp_goto 17 dX2_hasPerson_13 rfl ?_
      obtain rfl := Option.some.inj h
      exact wp_ireturn (ty := .boolean) dX2_hasPerson_17 rfl rfl ⟨rfl, rfl, rfl, rfl⟩
def f_J6_bitCount_0f7a4 (a0 : Int32) : Option (Int32) :=
  (some (((a0 - (((a0.toUInt32 >>> ((1 : Int32).toUInt32 &&& Int32.toUInt32 31)).toInt32) &&& 1431655765)) &&& 858993459) + ((((a0 - (((a0.toUInt32 >>> ((1 : Int32).toUInt32 &&& Int32.toUInt32 31)).toInt32) &&& 1431655765)).toUInt32 >>> ((2 : Int32).toUInt32 &&& Int32.toUInt32 31)).toInt32) &&& 858993459))).bind fun x23 =>
  (some (((x23 + ((x23.toUInt32 >>> ((4 : Int32).toUInt32 &&& Int32.toUInt32 31)).toInt32)) &&& 252645135) + ((((x23 + ((x23.toUInt32 >>> ((4 : Int32).toUInt32 &&& Int32.toUInt32 31)).toInt32)) &&& 252645135).toUInt32 >>> ((8 : Int32).toUInt32 &&& Int32.toUInt32 31)).toInt32))).bind fun x40 =>
  some ((x40 + ((x40.toUInt32 >>> ((16 : Int32).toUInt32 &&& Int32.toUInt32 31)).toInt32)) &&& 63)
set_option maxRecDepth 100000 in
set_option maxHeartbeats 4000000 in
theorem c_J6_bitCount_0f7a4 (Γ : GT) (ad : Nat → Nat) (a0 : Int32) (I : IT) (J : JT) (r : Int32) (h : f_J6_bitCount_0f7a4 a0 = some r) : CALL Γ mJ6_bitCount_0f7a4 (0, 0) [.int a0] (DX ad) I J (QE (some (.int r)) (DX ad) I J) := by
  refine call_of' (by decide) (Nat.le_of_ble_eq_true rfl) (lv0 := [(0, .int a0)]) rfl ?_
  unfold f_J6_bitCount_0f7a4 at h
  refine wp_iload_n dJ6_bitCount_0f7a4_0 0 rfl ?_
  refine wp_iload_n dJ6_bitCount_0f7a4_1 0 rfl ?_
  refine wp_iconst (v := 1) dJ6_bitCount_0f7a4_2 (by decide) ?_
  refine wp_iushr dJ6_bitCount_0f7a4_3 ?_
  refine wp_ldcw (v := 1431655765) dJ6_bitCount_0f7a4_4 kcJ6_265 ?_
  refine wp_iand dJ6_bitCount_0f7a4_7 ?_
  refine wp_isub dJ6_bitCount_0f7a4_8 ?_
  refine wp_istore_n (lv' := [(0, _)]) dJ6_bitCount_0f7a4_9 rfl rfl rfl rfl ?_
  refine wp_iload_n dJ6_bitCount_0f7a4_10 0 rfl ?_
  refine wp_ldcw (v := 858993459) dJ6_bitCount_0f7a4_11 kcJ6_266 ?_
  refine wp_iand dJ6_bitCount_0f7a4_14 ?_
  refine wp_iload_n dJ6_bitCount_0f7a4_15 0 rfl ?_
  refine wp_iconst (v := 2) dJ6_bitCount_0f7a4_16 (by decide) ?_
  refine wp_iushr dJ6_bitCount_0f7a4_17 ?_
  refine wp_ldcw (v := 858993459) dJ6_bitCount_0f7a4_18 kcJ6_266 ?_
  refine wp_iand dJ6_bitCount_0f7a4_21 ?_
  refine wp_iadd dJ6_bitCount_0f7a4_22 ?_
  refine wp_istore_n (lv' := [(0, _)]) dJ6_bitCount_0f7a4_23 rfl rfl rfl rfl ?_
  obtain ⟨x23, e23, h⟩ := o_bind h
  rw [Option.some.inj e23]
  refine wp_iload_n dJ6_bitCount_0f7a4_24 0 rfl ?_
  refine wp_iload_n dJ6_bitCount_0f7a4_25 0 rfl ?_
  refine wp_iconst (v := 4) dJ6_bitCount_0f7a4_26 (by decide) ?_
  refine wp_iushr dJ6_bitCount_0f7a4_27 ?_
  refine wp_iadd dJ6_bitCount_0f7a4_28 ?_
  refine wp_ldcw (v := 252645135) dJ6_bitCount_0f7a4_29 kcJ6_267 ?_
  refine wp_iand dJ6_bitCount_0f7a4_32 ?_
  refine wp_istore_n (lv' := [(0, _)]) dJ6_bitCount_0f7a4_33 rfl rfl rfl rfl ?_
  refine wp_iload_n dJ6_bitCount_0f7a4_34 0 rfl ?_
  refine wp_iload_n dJ6_bitCount_0f7a4_35 0 rfl ?_
  refine wp_bipush (v := 8) dJ6_bitCount_0f7a4_36 (by decide) ?_
  refine wp_iushr dJ6_bitCount_0f7a4_38 ?_
  refine wp_iadd dJ6_bitCount_0f7a4_39 ?_
  refine wp_istore_n (lv' := [(0, _)]) dJ6_bitCount_0f7a4_40 rfl rfl rfl rfl ?_
  obtain ⟨x40, e40, h⟩ := o_bind h
  rw [Option.some.inj e40]
  refine wp_iload_n dJ6_bitCount_0f7a4_41 0 rfl ?_
  refine wp_iload_n dJ6_bitCount_0f7a4_42 0 rfl ?_
  refine wp_bipush (v := 16) dJ6_bitCount_0f7a4_43 (by decide) ?_
  refine wp_iushr dJ6_bitCount_0f7a4_45 ?_
  refine wp_iadd dJ6_bitCount_0f7a4_46 ?_
  refine wp_istore_n (lv' := [(0, _)]) dJ6_bitCount_0f7a4_47 rfl rfl rfl rfl ?_
  refine wp_iload_n dJ6_bitCount_0f7a4_48 0 rfl ?_
  refine wp_bipush (v := 63) dJ6_bitCount_0f7a4_49 (by decide) ?_
  refine wp_iand dJ6_bitCount_0f7a4_51 ?_
  obtain rfl := Option.some.inj h
  exact wp_ireturn (ty := .int) dJ6_bitCount_0f7a4_52 rfl rfl ⟨rfl, rfl, rfl, rfl⟩
def f_X1_freeHands (a1 : Int32) (I : IT) : Option (Int32) :=
  if inbB a1 14 = true then
    if inbB a1 14 = true then
      (f_J6_bitCount_0f7a4 (I 13 a1.toNatClampNeg)).bind fun r15 =>
      some ((I 4 a1.toNatClampNeg) - r15)
    else none
  else none
set_option maxRecDepth 100000 in
set_option maxHeartbeats 4000000 in
theorem c_X1_freeHands (Γ : GT) (ad : Nat → Nat) (a1 : Int32) (I : IT) (J : JT) (r : Int32) (h : f_X1_freeHands a1 I = some r) : CALL Γ mX1_freeHands (0, 0) [.ref (ad 12), .int a1] (DX ad) I J (QE (some (.int r)) (DX ad) I J) := by
  refine call_of' (by decide) (Nat.le_of_ble_eq_true rfl) (lv0 := [(0, .ref (ad 12)), (1, .int a1)]) rfl ?_
  unfold f_X1_freeHands at h
  refine wp_aload_n dX1_freeHands_0 0 rfl ?_
  refine wp_getR (k := 12) (a' := ad 3) dX1_freeHands_1 flX1_30 rfl rfl rfl rfl rfl ?_
  refine wp_getR (k := 3) (a' := ad 4) dX1_freeHands_4 flX1_56 rfl rfl rfl rfl rfl ?_
  refine wp_iload_n dX1_freeHands_7 1 rfl ?_
  obtain ⟨g8, h⟩ := o_grd h
  refine wp_iald (k := 4) dX1_freeHands_8 rfl rfl (inb_of g8) ?_
  refine wp_aload_n dX1_freeHands_9 0 rfl ?_
  refine wp_getR (k := 12) (a' := ad 13) dX1_freeHands_10 flX1_9 rfl rfl rfl rfl rfl ?_
  refine wp_iload_n dX1_freeHands_13 1 rfl ?_
  obtain ⟨g14, h⟩ := o_grd h
  refine wp_iald (k := 13) dX1_freeHands_14 rfl rfl (inb_of g14) ?_
  obtain ⟨r15, h15, h⟩ := o_bind h
  refine wp_callsI (c_J6_bitCount_0f7a4 Γ ad (I 13 a1.toNatClampNeg) I J r15 h15) dX1_freeHands_15 mlX1_61 mwJ6_bitCount_0f7a4 miJ6_bitCount_0f7a4 rfl (Nat.le_of_ble_eq_true rfl) rfl (by decide) (by decide) ?_
  refine wp_isub dX1_freeHands_18 ?_
  obtain rfl := Option.some.inj h
  exact wp_ireturn (ty := .int) dX1_freeHands_19 rfl rfl ⟨rfl, rfl, rfl, rfl⟩
def f_X9_person (a1 : Int32) (a2 : Int32) (I : IT) : Option (Int32) :=
  (f_X2_hasPerson a1 I).bind fun r5 =>
  if r5 = 0 then
    some (-1000001)
  else
    if a2 = 0 then
      if inbB a1 14 = true then
        some (I 4 a1.toNatClampNeg)
      else none
    else
      if a2 = 1 then
        (f_X1_freeHands a1 I).bind fun r63 =>
        some r63
      else
        if a2 = 2 then
          if inbB a1 14 = true then
            some (I 13 a1.toNatClampNeg)
          else none
        else
          if a2 = 3 then
            if inbB a1 14 = true then
              some (I 5 a1.toNatClampNeg)
            else none
          else
            if a2 = 4 then
              if inbB a1 14 = true then
                some (I 18 a1.toNatClampNeg)
              else none
            else
              some (-1000002)
set_option maxRecDepth 100000 in
set_option maxHeartbeats 4000000 in
theorem c_X9_person (Γ : GT) (ad : Nat → Nat) (a1 : Int32) (a2 : Int32) (I : IT) (J : JT) (r : Int32) (h : f_X9_person a1 a2 I = some r) : CALL Γ mX9_person (0, 0) [.ref (ad 0), .int a1, .int a2] (DX ad) I J (QE (some (.int r)) (DX ad) I J) := by
  refine call_of' (by decide) (Nat.le_of_ble_eq_true rfl) (lv0 := [(0, .ref (ad 0)), (1, .int a1), (2, .int a2)]) rfl ?_
  unfold f_X9_person at h
  refine wp_aload_n dX9_person_0 0 rfl ?_
  refine wp_getR (k := 0) (a' := ad 3) dX9_person_1 flX9_19 rfl rfl rfl rfl rfl ?_
  refine wp_iload_n dX9_person_4 1 rfl ?_
  obtain ⟨r5, h5, h⟩ := o_bind h
  refine wp_callvI (k := 3) (ci := 2) (c_X2_hasPerson Γ ad a1 I J r5 h5) dX9_person_5 mlX9_151 mwX2_hasPerson miX2_hasPerson rfl rfl rfl rfl (Nat.le_of_ble_eq_true rfl) rfl (by decide) (by decide) ?_
  refine wp_if_ne 14 dX9_person_8 rfl (fun c8 => ?_) (fun c8 => ?_)
  · replace h := o_neg h c8
    refine wp_iload_n dX9_person_14 2 rfl ?_
    by_cases e15_0 : a2 = 0
    · replace h := o_pos h e15_0
      refine wp_tableIn (off := 33) 48 dX9_person_15 (by rw [e15_0]; decide) (by rw [e15_0]; decide) (by rw [e15_0]; rfl) rfl ?_
      refine wp_aload_n dX9_person_48 0 rfl ?_
      refine wp_getR (k := 0) (a' := ad 3) dX9_person_49 flX9_19 rfl rfl rfl rfl rfl ?_
      refine wp_getR (k := 3) (a' := ad 4) dX9_person_52 flX9_156 rfl rfl rfl rfl rfl ?_
      refine wp_iload_n dX9_person_55 1 rfl ?_
      obtain ⟨g56, h⟩ := o_grd h
      refine wp_iald (k := 4) dX9_person_56 rfl rfl (inb_of g56) ?_
      obtain rfl := Option.some.inj h
      exact wp_ireturn (ty := .int) dX9_person_57 rfl rfl ⟨rfl, rfl, rfl, rfl⟩
    · replace h := o_neg h e15_0
      by_cases e15_1 : a2 = 1
      · replace h := o_pos h e15_1
        refine wp_tableIn (off := 43) 58 dX9_person_15 (by rw [e15_1]; decide) (by rw [e15_1]; decide) (by rw [e15_1]; rfl) rfl ?_
        refine wp_aload_n dX9_person_58 0 rfl ?_
        refine wp_getR (k := 0) (a' := ad 12) dX9_person_59 flX9_37 rfl rfl rfl rfl rfl ?_
        refine wp_iload_n dX9_person_62 1 rfl ?_
        obtain ⟨r63, h63, h⟩ := o_bind h
        refine wp_callvI (k := 12) (ci := 1) (c_X1_freeHands Γ ad a1 I J r63 h63) dX9_person_63 mlX9_160 mwX1_freeHands miX1_freeHands rfl rfl rfl rfl (Nat.le_of_ble_eq_true rfl) rfl (by decide) (by decide) ?_
        obtain rfl := Option.some.inj h
        exact wp_ireturn (ty := .int) dX9_person_66 rfl rfl ⟨rfl, rfl, rfl, rfl⟩
      · replace h := o_neg h e15_1
        by_cases e15_2 : a2 = 2
        · replace h := o_pos h e15_2
          refine wp_tableIn (off := 52) 67 dX9_person_15 (by rw [e15_2]; decide) (by rw [e15_2]; decide) (by rw [e15_2]; rfl) rfl ?_
          refine wp_aload_n dX9_person_67 0 rfl ?_
          refine wp_getR (k := 0) (a' := ad 12) dX9_person_68 flX9_37 rfl rfl rfl rfl rfl ?_
          refine wp_getR (k := 12) (a' := ad 13) dX9_person_71 flX9_164 rfl rfl rfl rfl rfl ?_
          refine wp_iload_n dX9_person_74 1 rfl ?_
          obtain ⟨g75, h⟩ := o_grd h
          refine wp_iald (k := 13) dX9_person_75 rfl rfl (inb_of g75) ?_
          obtain rfl := Option.some.inj h
          exact wp_ireturn (ty := .int) dX9_person_76 rfl rfl ⟨rfl, rfl, rfl, rfl⟩
        · replace h := o_neg h e15_2
          by_cases e15_3 : a2 = 3
          · replace h := o_pos h e15_3
            refine wp_tableIn (off := 62) 77 dX9_person_15 (by rw [e15_3]; decide) (by rw [e15_3]; decide) (by rw [e15_3]; rfl) rfl ?_
            refine wp_aload_n dX9_person_77 0 rfl ?_
            refine wp_getR (k := 0) (a' := ad 3) dX9_person_78 flX9_19 rfl rfl rfl rfl rfl ?_
            refine wp_getR (k := 3) (a' := ad 5) dX9_person_81 flX9_167 rfl rfl rfl rfl rfl ?_
            refine wp_iload_n dX9_person_84 1 rfl ?_
            obtain ⟨g85, h⟩ := o_grd h
            refine wp_iald (k := 5) dX9_person_85 rfl rfl (inb_of g85) ?_
            obtain rfl := Option.some.inj h
            exact wp_ireturn (ty := .int) dX9_person_86 rfl rfl ⟨rfl, rfl, rfl, rfl⟩
          · replace h := o_neg h e15_3
            by_cases e15_4 : a2 = 4
            · replace h := o_pos h e15_4
              refine wp_tableIn (off := 72) 87 dX9_person_15 (by rw [e15_4]; decide) (by rw [e15_4]; decide) (by rw [e15_4]; rfl) rfl ?_
              refine wp_aload_n dX9_person_87 0 rfl ?_
              refine wp_getR (k := 0) (a' := ad 12) dX9_person_88 flX9_37 rfl rfl rfl rfl rfl ?_
              refine wp_getR (k := 12) (a' := ad 18) dX9_person_91 flX9_170 rfl rfl rfl rfl rfl ?_
              refine wp_iload_n dX9_person_94 1 rfl ?_
              obtain ⟨g95, h⟩ := o_grd h
              refine wp_iald (k := 18) dX9_person_95 rfl rfl (inb_of g95) ?_
              obtain rfl := Option.some.inj h
              exact wp_ireturn (ty := .int) dX9_person_96 rfl rfl ⟨rfl, rfl, rfl, rfl⟩
            · replace h := o_neg h e15_4
              refine wp_tableOut 97 dX9_person_15 (by have n0 := lv_neT (a := 0) e15_0 (by decide); have n1 := lv_neT (a := 1) e15_1 (by decide); have n2 := lv_neT (a := 2) e15_2 (by decide); have n3 := lv_neT (a := 3) e15_3 (by decide); have n4 := lv_neT (a := 4) e15_4 (by decide); omega) rfl ?_
              refine wp_ldc (v := (-1000002)) dX9_person_97 kcX9_94 ?_
              obtain rfl := Option.some.inj h
              exact wp_ireturn (ty := .int) dX9_person_99 rfl rfl ⟨rfl, rfl, rfl, rfl⟩
  · replace h := o_pos h c8
    refine wp_ldc (v := (-1000001)) dX9_person_11 kcX9_155 ?_
    obtain rfl := Option.some.inj h
    exact wp_ireturn (ty := .int) dX9_person_13 rfl rfl ⟨rfl, rfl, rfl, rfl⟩
def f_X2_hasBuyer (a1 : Int32) (I : IT) : Option (Int32) :=
  if a1 < 0 then
    some 0
  else
    if (I 3 1) ≤ a1 then
      some 0
    else
      some 1
set_option maxRecDepth 100000 in
set_option maxHeartbeats 4000000 in
theorem c_X2_hasBuyer (Γ : GT) (ad : Nat → Nat) (a1 : Int32) (I : IT) (J : JT) (r : Int32) (h : f_X2_hasBuyer a1 I = some r) : CALL Γ mX2_hasBuyer (0, 0) [.ref (ad 3), .int a1] (DX ad) I J (QE (some (.int r)) (DX ad) I J) := by
  refine call_of' (by decide) (Nat.le_of_ble_eq_true rfl) (lv0 := [(0, .ref (ad 3)), (1, .int a1)]) rfl ?_
  unfold f_X2_hasBuyer at h
  refine wp_iload_n dX2_hasBuyer_0 1 rfl ?_
  refine wp_if_lt 16 dX2_hasBuyer_1 rfl (fun c1 => ?_) (fun c1 => ?_)
  · replace h := o_pos h c1
    refine wp_iconst (v := 0) dX2_hasBuyer_16 (by decide) ?_
    obtain rfl := Option.some.inj h
    exact wp_ireturn (ty := .boolean) dX2_hasBuyer_17 rfl rfl ⟨rfl, rfl, rfl, rfl⟩
  · replace h := o_neg h c1
    refine wp_iload_n dX2_hasBuyer_4 1 rfl ?_
    refine wp_aload_n dX2_hasBuyer_5 0 rfl ?_
    refine wp_getI (k := 3) dX2_hasBuyer_6 flX2_28 rfl rfl rfl rfl ?_
    refine wp_icmp_ge 16 dX2_hasBuyer_9 rfl (fun c9 => ?_) (fun c9 => ?_)
    · replace h := o_pos h c9
      refine wp_iconst (v := 0) dX2_hasBuyer_16 (by decide) ?_
      obtain rfl := Option.some.inj h
      exact wp_ireturn (ty := .boolean) dX2_hasBuyer_17 rfl rfl ⟨rfl, rfl, rfl, rfl⟩
    · replace h := o_neg h c9
      refine wp_iconst (v := 1) dX2_hasBuyer_12 (by decide) ?_
      refine wp_goto 17 dX2_hasBuyer_13 rfl ?_
      obtain rfl := Option.some.inj h
      exact wp_ireturn (ty := .boolean) dX2_hasBuyer_17 rfl rfl ⟨rfl, rfl, rfl, rfl⟩
def f_X2_hasLot (a1 : Int32) (I : IT) : Option (Int32) :=
  if a1 < 0 then
    some 0
  else
    if (I 3 0) ≤ a1 then
      some 0
    else
      some 1
set_option maxRecDepth 100000 in
set_option maxHeartbeats 4000000 in
theorem c_X2_hasLot (Γ : GT) (ad : Nat → Nat) (a1 : Int32) (I : IT) (J : JT) (r : Int32) (h : f_X2_hasLot a1 I = some r) : CALL Γ mX2_hasLot (0, 0) [.ref (ad 3), .int a1] (DX ad) I J (QE (some (.int r)) (DX ad) I J) := by
  refine call_of' (by decide) (Nat.le_of_ble_eq_true rfl) (lv0 := [(0, .ref (ad 3)), (1, .int a1)]) rfl ?_
  unfold f_X2_hasLot at h
  refine wp_iload_n dX2_hasLot_0 1 rfl ?_
  refine wp_if_lt 16 dX2_hasLot_1 rfl (fun c1 => ?_) (fun c1 => ?_)
  · replace h := o_pos h c1
    refine wp_iconst (v := 0) dX2_hasLot_16 (by decide) ?_
    obtain rfl := Option.some.inj h
    exact wp_ireturn (ty := .boolean) dX2_hasLot_17 rfl rfl ⟨rfl, rfl, rfl, rfl⟩
  · replace h := o_neg h c1
    refine wp_iload_n dX2_hasLot_4 1 rfl ?_
    refine wp_aload_n dX2_hasLot_5 0 rfl ?_
    refine wp_getI (k := 3) dX2_hasLot_6 flX2_24 rfl rfl rfl rfl ?_
    refine wp_icmp_ge 16 dX2_hasLot_9 rfl (fun c9 => ?_) (fun c9 => ?_)
    · replace h := o_pos h c9
      refine wp_iconst (v := 0) dX2_hasLot_16 (by decide) ?_
      obtain rfl := Option.some.inj h
      exact wp_ireturn (ty := .boolean) dX2_hasLot_17 rfl rfl ⟨rfl, rfl, rfl, rfl⟩
    · replace h := o_neg h c9
      refine wp_iconst (v := 1) dX2_hasLot_12 (by decide) ?_
      refine wp_goto 17 dX2_hasLot_13 rfl ?_
      obtain rfl := Option.some.inj h
      exact wp_ireturn (ty := .boolean) dX2_hasLot_17 rfl rfl ⟨rfl, rfl, rfl, rfl⟩
def f_X9_worth (a1 : Int32) (a2 : Int32) (I : IT) : Option (Int32) :=
  (f_X2_hasBuyer a1 I).bind fun r5 =>
  if r5 = 0 then
    some (-1000001)
  else
    (f_X2_hasLot a2 I).bind fun r16 =>
    if r16 = 0 then
      some (-1000001)
    else
      if inbB ((a1 * 6) + a2) 36 = true then
        some (I 6 ((a1 * 6) + a2).toNatClampNeg)
      else none
set_option maxRecDepth 100000 in
set_option maxHeartbeats 4000000 in
theorem c_X9_worth (Γ : GT) (ad : Nat → Nat) (a1 : Int32) (a2 : Int32) (I : IT) (J : JT) (r : Int32) (h : f_X9_worth a1 a2 I = some r) : CALL Γ mX9_worth (0, 0) [.ref (ad 0), .int a1, .int a2] (DX ad) I J (QE (some (.int r)) (DX ad) I J) := by
  refine call_of' (by decide) (Nat.le_of_ble_eq_true rfl) (lv0 := [(0, .ref (ad 0)), (1, .int a1), (2, .int a2)]) rfl ?_
  unfold f_X9_worth at h
  refine wp_aload_n dX9_worth_0 0 rfl ?_
  refine wp_getR (k := 0) (a' := ad 3) dX9_worth_1 flX9_19 rfl rfl rfl rfl rfl ?_
  refine wp_iload_n dX9_worth_4 1 rfl ?_
  obtain ⟨r5, h5, h⟩ := o_bind h
  refine wp_callvI (k := 3) (ci := 2) (c_X2_hasBuyer Γ ad a1 I J r5 h5) dX9_worth_5 mlX9_173 mwX2_hasBuyer miX2_hasBuyer rfl rfl rfl rfl (Nat.le_of_ble_eq_true rfl) rfl (by decide) (by decide) ?_
  refine wp_if_eq 22 dX9_worth_8 rfl (fun c8 => ?_) (fun c8 => ?_)
  · replace h := o_pos h c8
    refine wp_ldc (v := (-1000001)) dX9_worth_22 kcX9_155 ?_
    obtain rfl := Option.some.inj h
    exact wp_ireturn (ty := .int) dX9_worth_24 rfl rfl ⟨rfl, rfl, rfl, rfl⟩
  · replace h := o_neg h c8
    refine wp_aload_n dX9_worth_11 0 rfl ?_
    refine wp_getR (k := 0) (a' := ad 3) dX9_worth_12 flX9_19 rfl rfl rfl rfl rfl ?_
    refine wp_iload_n dX9_worth_15 2 rfl ?_
    obtain ⟨r16, h16, h⟩ := o_bind h
    refine wp_callvI (k := 3) (ci := 2) (c_X2_hasLot Γ ad a2 I J r16 h16) dX9_worth_16 mlX9_176 mwX2_hasLot miX2_hasLot rfl rfl rfl rfl (Nat.le_of_ble_eq_true rfl) rfl (by decide) (by decide) ?_
    refine wp_if_ne 25 dX9_worth_19 rfl (fun c19 => ?_) (fun c19 => ?_)
    · replace h := o_neg h c19
      refine wp_aload_n dX9_worth_25 0 rfl ?_
      refine wp_getR (k := 0) (a' := ad 3) dX9_worth_26 flX9_19 rfl rfl rfl rfl rfl ?_
      refine wp_getR (k := 3) (a' := ad 6) dX9_worth_29 flX9_179 rfl rfl rfl rfl rfl ?_
      refine wp_iload_n dX9_worth_32 1 rfl ?_
      refine wp_bipush (v := 6) dX9_worth_33 (by decide) ?_
      refine wp_imul dX9_worth_35 ?_
      refine wp_iload_n dX9_worth_36 2 rfl ?_
      refine wp_iadd dX9_worth_37 ?_
      obtain ⟨g38, h⟩ := o_grd h
      refine wp_iald (k := 6) dX9_worth_38 rfl rfl (inb_of g38) ?_
      obtain rfl := Option.some.inj h
      exact wp_ireturn (ty := .int) dX9_worth_39 rfl rfl ⟨rfl, rfl, rfl, rfl⟩
    · replace h := o_pos h c19
      refine wp_ldc (v := (-1000001)) dX9_worth_22 kcX9_155 ?_
      obtain rfl := Option.some.inj h
      exact wp_ireturn (ty := .int) dX9_worth_24 rfl rfl ⟨rfl, rfl, rfl, rfl⟩
def f_X2_sortOf (a1 : Int32) (I : IT) : Option (Int32) :=
  if (I 3 0) ≤ a1 then
    if ((I 3 0) + (I 3 1)) ≤ a1 then
      some 2
    else
      some 1
  else
    some 0
set_option maxRecDepth 100000 in
set_option maxHeartbeats 4000000 in
theorem c_X2_sortOf (Γ : GT) (ad : Nat → Nat) (a1 : Int32) (I : IT) (J : JT) (r : Int32) (h : f_X2_sortOf a1 I = some r) : CALL Γ mX2_sortOf (0, 0) [.ref (ad 3), .int a1] (DX ad) I J (QE (some (.int r)) (DX ad) I J) := by
  refine call_of' (by decide) (Nat.le_of_ble_eq_true rfl) (lv0 := [(0, .ref (ad 3)), (1, .int a1)]) rfl ?_
  unfold f_X2_sortOf at h
  refine wp_iload_n dX2_sortOf_0 1 rfl ?_
  refine wp_aload_n dX2_sortOf_1 0 rfl ?_
  refine wp_getI (k := 3) dX2_sortOf_2 flX2_24 rfl rfl rfl rfl ?_
  refine wp_icmp_ge 10 dX2_sortOf_5 rfl (fun c5 => ?_) (fun c5 => ?_)
  · replace h := o_pos h c5
    refine wp_iload_n dX2_sortOf_10 1 rfl ?_
    refine wp_aload_n dX2_sortOf_11 0 rfl ?_
    refine wp_getI (k := 3) dX2_sortOf_12 flX2_24 rfl rfl rfl rfl ?_
    refine wp_aload_n dX2_sortOf_15 0 rfl ?_
    refine wp_getI (k := 3) dX2_sortOf_16 flX2_28 rfl rfl rfl rfl ?_
    refine wp_iadd dX2_sortOf_19 ?_
    refine wp_icmp_ge 27 dX2_sortOf_20 rfl (fun c20 => ?_) (fun c20 => ?_)
    · replace h := o_pos h c20
      refine wp_iconst (v := 2) dX2_sortOf_27 (by decide) ?_
      obtain rfl := Option.some.inj h
      exact wp_ireturn (ty := .int) dX2_sortOf_28 rfl rfl ⟨rfl, rfl, rfl, rfl⟩
    · replace h := o_neg h c20
      refine wp_iconst (v := 1) dX2_sortOf_23 (by decide) ?_
      refine wp_goto 28 dX2_sortOf_24 rfl ?_
      obtain rfl := Option.some.inj h
      exact wp_ireturn (ty := .int) dX2_sortOf_28 rfl rfl ⟨rfl, rfl, rfl, rfl⟩
  · replace h := o_neg h c5
    refine wp_iconst (v := 0) dX2_sortOf_8 (by decide) ?_
    obtain rfl := Option.some.inj h
    exact wp_ireturn (ty := .int) dX2_sortOf_9 rfl rfl ⟨rfl, rfl, rfl, rfl⟩
