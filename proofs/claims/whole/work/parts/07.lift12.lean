/-! lifted: X10_market X10_fault X10_soldSet X10_told X10_isPerson X10_bits X10_free X10_person X10_isBuyer X10_isLot X10_worth X10_isAbout X10_isBound X10_bound X10_lot X10_has X10_hold X10_loose -/
def f_X10_market_37 : Nat → Int32 → IT → JT → Option (Int32 × IT × JT)
  | 0, _, _, _ => none
  | n + 1, v1, I, J =>
    if v1 = 0 then
      (f_X10_here I).bind fun r42 =>
      if r42.1 < 0 then
        if v1 ≤ 0 then
          (f_X10_takeMarket (upI r42.2 55 19 0)).bind fun r71 =>
          (f_X10_persons r71).bind fun r75 =>
          some (r75, r71, J)
        else
          some ((-10) - v1, upI r42.2 55 19 0, J)
      else
        (f_X10_takeClause r42.2 J).bind fun r49 =>
        f_X10_market_37 n r49.1 r49.2.1 r49.2.2
    else
      if v1 ≤ 0 then
        (f_X10_takeMarket (upI I 55 19 0)).bind fun r71 =>
        (f_X10_persons r71).bind fun r75 =>
        some (r75, r71, J)
      else
        some ((-10) - v1, upI I 55 19 0, J)
def f_X10_market (I : IT) (J : JT) : Option (Int32 × IT × JT) :=
  f_X10_market_37 FU 0 (upI (upI (upI (upI (upI (upI (upI I 55 20 (-1)) 55 21 0) 55 26 0) 55 27 0) 55 28 0) 55 34 (-1)) 55 35 (-1)) J
set_option maxRecDepth 100000 in
set_option maxHeartbeats 4000000 in
theorem w_X10_market_37 (Γ : GT) (ad : Nat → Nat) : ∀ (n : Nat) (v1 : Int32) (I : IT) (J : JT) (r : Int32 × IT × JT), f_X10_market_37 n v1 I J = some r → WP Γ mX10_market (0, 0) 37 [(0, .ref (ad 55)), (1, .int v1)] [] (DX ad) I J (QE (some (.int r.1)) (DX ad) r.2.1 r.2.2) := by
  intro n
  induction n with
  | zero => intro v1 I J r h; exact absurd h (by simp [f_X10_market_37])
  | succ n ih =>
    intro v1 I J r h
    rw [f_X10_market_37] at h
    refine wp_iload_n dX10_market_37 1 rfl ?_
    refine wp_if_ne 56 dX10_market_38 rfl (fun c38 => ?_) (fun c38 => ?_)
    · replace h := o_neg h c38
      refine wp_aload_n dX10_market_56 0 rfl ?_
      refine wp_iconst (v := 0) dX10_market_57 (by decide) ?_
      refine wp_putI (k := 55) dX10_market_58 flX10_144 rfl rfl rfl rfl rfl rfl rfl rfl ?_
      refine wp_iload_n dX10_market_61 1 rfl ?_
      refine wp_if_le 70 dX10_market_62 rfl (fun c62 => ?_) (fun c62 => ?_)
      · replace h := o_pos h c62
        refine wp_aload_n dX10_market_70 0 rfl ?_
        obtain ⟨r71, h71, h⟩ := o_bind h
        refine wp_callvV (k := 55) (ci := 10) (c_X10_takeMarket Γ ad (upI I 55 19 0) J r71 h71) dX10_market_71 mlX10_242 mwX10_takeMarket miX10_takeMarket rfl rfl rfl rfl (Nat.le_of_ble_eq_true rfl) rfl (by decide) (by decide) ?_
        refine wp_aload_n dX10_market_74 0 rfl ?_
        obtain ⟨r75, h75, h⟩ := o_bind h
        refine wp_callvI (k := 55) (ci := 10) (c_X10_persons Γ ad r71 J r75 h75) dX10_market_75 mlX10_130 mwX10_persons miX10_persons rfl rfl rfl rfl (Nat.le_of_ble_eq_true rfl) rfl (by decide) (by decide) ?_
        obtain rfl := Option.some.inj h
        exact wp_ireturn (ty := .int) dX10_market_78 rfl rfl ⟨rfl, rfl, rfl, rfl⟩
      · replace h := o_neg h c62
        refine wp_bipush (v := (-10)) dX10_market_65 (by decide) ?_
        refine wp_iload_n dX10_market_67 1 rfl ?_
        refine wp_isub dX10_market_68 ?_
        obtain rfl := Option.some.inj h
        exact wp_ireturn (ty := .int) dX10_market_69 rfl rfl ⟨rfl, rfl, rfl, rfl⟩
    · replace h := o_pos h c38
      refine wp_aload_n dX10_market_41 0 rfl ?_
      obtain ⟨r42, h42, h⟩ := o_bind h
      refine wp_callvI (k := 55) (ci := 10) (c_X10_here Γ ad I J r42 h42) dX10_market_42 mlX10_153 mwX10_here miX10_here rfl rfl rfl rfl (Nat.le_of_ble_eq_true rfl) rfl (by decide) (by decide) ?_
      refine wp_if_lt 56 dX10_market_45 rfl (fun c45 => ?_) (fun c45 => ?_)
      · replace h := o_pos h c45
        refine wp_aload_n dX10_market_56 0 rfl ?_
        refine wp_iconst (v := 0) dX10_market_57 (by decide) ?_
        refine wp_putI (k := 55) dX10_market_58 flX10_144 rfl rfl rfl rfl rfl rfl rfl rfl ?_
        refine wp_iload_n dX10_market_61 1 rfl ?_
        refine wp_if_le 70 dX10_market_62 rfl (fun c62 => ?_) (fun c62 => ?_)
        · replace h := o_pos h c62
          refine wp_aload_n dX10_market_70 0 rfl ?_
          obtain ⟨r71, h71, h⟩ := o_bind h
          refine wp_callvV (k := 55) (ci := 10) (c_X10_takeMarket Γ ad (upI r42.2 55 19 0) J r71 h71) dX10_market_71 mlX10_242 mwX10_takeMarket miX10_takeMarket rfl rfl rfl rfl (Nat.le_of_ble_eq_true rfl) rfl (by decide) (by decide) ?_
          refine wp_aload_n dX10_market_74 0 rfl ?_
          obtain ⟨r75, h75, h⟩ := o_bind h
          refine wp_callvI (k := 55) (ci := 10) (c_X10_persons Γ ad r71 J r75 h75) dX10_market_75 mlX10_130 mwX10_persons miX10_persons rfl rfl rfl rfl (Nat.le_of_ble_eq_true rfl) rfl (by decide) (by decide) ?_
          obtain rfl := Option.some.inj h
          exact wp_ireturn (ty := .int) dX10_market_78 rfl rfl ⟨rfl, rfl, rfl, rfl⟩
        · replace h := o_neg h c62
          refine wp_bipush (v := (-10)) dX10_market_65 (by decide) ?_
          refine wp_iload_n dX10_market_67 1 rfl ?_
          refine wp_isub dX10_market_68 ?_
          obtain rfl := Option.some.inj h
          exact wp_ireturn (ty := .int) dX10_market_69 rfl rfl ⟨rfl, rfl, rfl, rfl⟩
      · replace h := o_neg h c45
        refine wp_aload_n dX10_market_48 0 rfl ?_
        obtain ⟨r49, h49, h⟩ := o_bind h
        refine wp_callvI (k := 55) (ci := 10) (c_X10_takeClause Γ ad r42.2 J r49 h49) dX10_market_49 mlX10_239 mwX10_takeClause miX10_takeClause rfl rfl rfl rfl (Nat.le_of_ble_eq_true rfl) rfl (by decide) (by decide) ?_
        refine wp_istore_n (lv' := [(0, _), (1, _)]) dX10_market_52 rfl rfl rfl rfl ?_
        refine wp_goto 37 dX10_market_53 rfl ?_
        refine wp_pick [0, 1] (lv' := [(0, _), (1, _)]) rfl ?_
        exact ih r49.1 r49.2.1 r49.2.2 r h
set_option maxRecDepth 100000 in
set_option maxHeartbeats 4000000 in
theorem c_X10_market (Γ : GT) (ad : Nat → Nat) (I : IT) (J : JT) (r : Int32 × IT × JT) (h : f_X10_market I J = some r) : CALL Γ mX10_market (0, 0) [.ref (ad 55)] (DX ad) I J (QE (some (.int r.1)) (DX ad) r.2.1 r.2.2) := by
  refine call_of' (by decide) (Nat.le_of_ble_eq_true rfl) (lv0 := [(0, .ref (ad 55))]) rfl ?_
  unfold f_X10_market at h
  refine wp_aload_n dX10_market_0 0 rfl ?_
  refine wp_iconst (v := (-1)) dX10_market_1 (by decide) ?_
  refine wp_putI (k := 55) dX10_market_2 flX10_53 rfl rfl rfl rfl rfl rfl rfl rfl ?_
  refine wp_aload_n dX10_market_5 0 rfl ?_
  refine wp_iconst (v := 0) dX10_market_6 (by decide) ?_
  refine wp_putI (k := 55) dX10_market_7 flX10_150 rfl rfl rfl rfl rfl rfl rfl rfl ?_
  refine wp_aload_n dX10_market_10 0 rfl ?_
  refine wp_iconst (v := 0) dX10_market_11 (by decide) ?_
  refine wp_putI (k := 55) dX10_market_12 flX10_193 rfl rfl rfl rfl rfl rfl rfl rfl ?_
  refine wp_aload_n dX10_market_15 0 rfl ?_
  refine wp_iconst (v := 0) dX10_market_16 (by decide) ?_
  refine wp_putI (k := 55) dX10_market_17 flX10_200 rfl rfl rfl rfl rfl rfl rfl rfl ?_
  refine wp_aload_n dX10_market_20 0 rfl ?_
  refine wp_iconst (v := 0) dX10_market_21 (by decide) ?_
  refine wp_putI (k := 55) dX10_market_22 flX10_203 rfl rfl rfl rfl rfl rfl rfl rfl ?_
  refine wp_aload_n dX10_market_25 0 rfl ?_
  refine wp_iconst (v := (-1)) dX10_market_26 (by decide) ?_
  refine wp_putI (k := 55) dX10_market_27 flX10_214 rfl rfl rfl rfl rfl rfl rfl rfl ?_
  refine wp_aload_n dX10_market_30 0 rfl ?_
  refine wp_iconst (v := (-1)) dX10_market_31 (by decide) ?_
  refine wp_putI (k := 55) dX10_market_32 flX10_217 rfl rfl rfl rfl rfl rfl rfl rfl ?_
  refine wp_iconst (v := 0) dX10_market_35 (by decide) ?_
  refine wp_istore_n (lv' := [(0, _), (1, _)]) dX10_market_36 rfl rfl rfl rfl ?_
  refine wp_pick [0, 1] (lv' := [(0, _), (1, _)]) rfl ?_
  exact w_X10_market_37 Γ ad FU 0 (upI (upI (upI (upI (upI (upI (upI I 55 20 (-1)) 55 21 0) 55 26 0) 55 27 0) 55 28 0) 55 34 (-1)) 55 35 (-1)) J r h
def f_X10_fault (I : IT) : Option (Int32) :=
  some (I 55 20)
set_option maxRecDepth 100000 in
set_option maxHeartbeats 4000000 in
theorem c_X10_fault (Γ : GT) (ad : Nat → Nat) (I : IT) (J : JT) (r : Int32) (h : f_X10_fault I = some r) : CALL Γ mX10_fault (0, 0) [.ref (ad 55)] (DX ad) I J (QE (some (.int r)) (DX ad) I J) := by
  refine call_of' (by decide) (Nat.le_of_ble_eq_true rfl) (lv0 := [(0, .ref (ad 55))]) rfl ?_
  unfold f_X10_fault at h
  refine wp_aload_n dX10_fault_0 0 rfl ?_
  refine wp_getI (k := 55) dX10_fault_1 flX10_53 rfl rfl rfl rfl ?_
  obtain rfl := Option.some.inj h
  exact wp_ireturn (ty := .int) dX10_fault_4 rfl rfl ⟨rfl, rfl, rfl, rfl⟩
def f_X10_soldSet_4 : Nat → Int32 → Int32 → IT → Option (Int32)
  | 0, _, _, _ => none
  | n + 1, v1, v2, I =>
    if (I 55 0) ≤ v2 then
      some v1
    else
      if inbB v2 6 = true then
        if (I 64 v2.toNatClampNeg) < 0 then
          f_X10_soldSet_4 n (v1 ||| 0) (v2 + 1) I
        else
          f_X10_soldSet_4 n (v1 ||| ((1 : Int32) <<< (v2 &&& 31))) (v2 + 1) I
      else none
def f_X10_soldSet (I : IT) : Option (Int32) :=
  f_X10_soldSet_4 FU 0 0 I
set_option maxRecDepth 100000 in
set_option maxHeartbeats 4000000 in
theorem w_X10_soldSet_4 (Γ : GT) (ad : Nat → Nat) : ∀ (n : Nat) (v1 : Int32) (v2 : Int32) (I : IT) (J : JT) (r : Int32), f_X10_soldSet_4 n v1 v2 I = some r → WP Γ mX10_soldSet (0, 0) 4 [(0, .ref (ad 55)), (1, .int v1), (2, .int v2)] [] (DX ad) I J (QE (some (.int r)) (DX ad) I J) := by
  intro n
  induction n with
  | zero => intro v1 v2 I J r h; exact absurd h (by simp [f_X10_soldSet_4])
  | succ n ih =>
    intro v1 v2 I J r h
    rw [f_X10_soldSet_4] at h
    refine wp_iload_n dX10_soldSet_4 2 rfl ?_
    refine wp_aload_n dX10_soldSet_5 0 rfl ?_
    refine wp_getI (k := 55) dX10_soldSet_6 flX10_121 rfl rfl rfl rfl ?_
    refine wp_icmp_ge 37 dX10_soldSet_9 rfl (fun c9 => ?_) (fun c9 => ?_)
    · replace h := o_pos h c9
      refine wp_iload_n dX10_soldSet_37 1 rfl ?_
      obtain rfl := Option.some.inj h
      exact wp_ireturn (ty := .int) dX10_soldSet_38 rfl rfl ⟨rfl, rfl, rfl, rfl⟩
    · replace h := o_neg h c9
      refine wp_iload_n dX10_soldSet_12 1 rfl ?_
      refine wp_aload_n dX10_soldSet_13 0 rfl ?_
      refine wp_getR (k := 55) (a' := ad 64) dX10_soldSet_14 flX10_41 rfl rfl rfl rfl rfl ?_
      refine wp_iload_n dX10_soldSet_17 2 rfl ?_
      obtain ⟨g18, h⟩ := o_grd h
      refine wp_iald (k := 64) dX10_soldSet_18 rfl rfl (inb_of g18) ?_
      refine wp_if_lt 28 dX10_soldSet_19 rfl (fun c19 => ?_) (fun c19 => ?_)
      · replace h := o_pos h c19
        refine wp_iconst (v := 0) dX10_soldSet_28 (by decide) ?_
        refine wp_ior dX10_soldSet_29 ?_
        refine wp_istore_n (lv' := [(0, _), (1, _), (2, _)]) dX10_soldSet_30 rfl rfl rfl rfl ?_
        refine wp_iinc (v := v2 + 1) (lv' := [(0, _), (1, _), (2, _)]) dX10_soldSet_31 2 rfl rfl rfl rfl rfl ?_
        refine wp_goto 4 dX10_soldSet_34 rfl ?_
        refine wp_pick [0, 1, 2] (lv' := [(0, _), (1, _), (2, _)]) rfl ?_
        exact ih (v1 ||| 0) (v2 + 1) I J r h
      · replace h := o_neg h c19
        refine wp_iconst (v := 1) dX10_soldSet_22 (by decide) ?_
        refine wp_iload_n dX10_soldSet_23 2 rfl ?_
        refine wp_ishl dX10_soldSet_24 ?_
        refine wp_goto 29 dX10_soldSet_25 rfl ?_
        refine wp_ior dX10_soldSet_29 ?_
        refine wp_istore_n (lv' := [(0, _), (1, _), (2, _)]) dX10_soldSet_30 rfl rfl rfl rfl ?_
        refine wp_iinc (v := v2 + 1) (lv' := [(0, _), (1, _), (2, _)]) dX10_soldSet_31 2 rfl rfl rfl rfl rfl ?_
        refine wp_goto 4 dX10_soldSet_34 rfl ?_
        refine wp_pick [0, 1, 2] (lv' := [(0, _), (1, _), (2, _)]) rfl ?_
        exact ih (v1 ||| ((1 : Int32) <<< (v2 &&& 31))) (v2 + 1) I J r h
set_option maxRecDepth 100000 in
set_option maxHeartbeats 4000000 in
theorem c_X10_soldSet (Γ : GT) (ad : Nat → Nat) (I : IT) (J : JT) (r : Int32) (h : f_X10_soldSet I = some r) : CALL Γ mX10_soldSet (0, 0) [.ref (ad 55)] (DX ad) I J (QE (some (.int r)) (DX ad) I J) := by
  refine call_of' (by decide) (Nat.le_of_ble_eq_true rfl) (lv0 := [(0, .ref (ad 55))]) rfl ?_
  unfold f_X10_soldSet at h
  refine wp_iconst (v := 0) dX10_soldSet_0 (by decide) ?_
  refine wp_istore_n (lv' := [(0, _), (1, _)]) dX10_soldSet_1 rfl rfl rfl rfl ?_
  refine wp_iconst (v := 0) dX10_soldSet_2 (by decide) ?_
  refine wp_istore_n (lv' := [(0, _), (1, _), (2, _)]) dX10_soldSet_3 rfl rfl rfl rfl ?_
  refine wp_pick [0, 1, 2] (lv' := [(0, _), (1, _), (2, _)]) rfl ?_
  exact w_X10_soldSet_4 Γ ad FU 0 0 I J r h
def f_X10_told (a1 : Int32) (I : IT) : Option (Int32) :=
  if a1 = 0 then
    some (I 55 0)
  else
    if a1 = 1 then
      some (I 55 1)
    else
      if a1 = 2 then
        some (I 55 2)
      else
        if a1 = 3 then
          some (I 55 19)
        else
          if a1 = 4 then
            some (I 55 16)
          else
            if a1 = 5 then
              some (I 55 8)
            else
              if a1 = 6 then
                some (I 55 9)
              else
                if a1 = 7 then
                  (f_X10_soldSet I).bind fun r92 =>
                  some r92
                else
                  if a1 = 8 then
                    some (I 55 47)
                  else
                    if a1 = 9 then
                      some (I 55 40)
                    else
                      some (-1000002)
set_option maxRecDepth 100000 in
set_option maxHeartbeats 4000000 in
theorem c_X10_told (Γ : GT) (ad : Nat → Nat) (a1 : Int32) (I : IT) (J : JT) (r : Int32) (h : f_X10_told a1 I = some r) : CALL Γ mX10_told (0, 0) [.ref (ad 55), .int a1] (DX ad) I J (QE (some (.int r)) (DX ad) I J) := by
  refine call_of' (by decide) (Nat.le_of_ble_eq_true rfl) (lv0 := [(0, .ref (ad 55)), (1, .int a1)]) rfl ?_
  unfold f_X10_told at h
  refine wp_iload_n dX10_told_0 1 rfl ?_
  by_cases e1_0 : a1 = 0
  · replace h := o_pos h e1_0
    refine wp_tableIn (off := 55) 56 dX10_told_1 (by rw [e1_0]; decide) (by rw [e1_0]; decide) (by rw [e1_0]; rfl) rfl ?_
    refine wp_aload_n dX10_told_56 0 rfl ?_
    refine wp_getI (k := 55) dX10_told_57 flX10_121 rfl rfl rfl rfl ?_
    obtain rfl := Option.some.inj h
    exact wp_ireturn (ty := .int) dX10_told_60 rfl rfl ⟨rfl, rfl, rfl, rfl⟩
  · replace h := o_neg h e1_0
    by_cases e1_1 : a1 = 1
    · replace h := o_pos h e1_1
      refine wp_tableIn (off := 60) 61 dX10_told_1 (by rw [e1_1]; decide) (by rw [e1_1]; decide) (by rw [e1_1]; rfl) rfl ?_
      refine wp_aload_n dX10_told_61 0 rfl ?_
      refine wp_getI (k := 55) dX10_told_62 flX10_124 rfl rfl rfl rfl ?_
      obtain rfl := Option.some.inj h
      exact wp_ireturn (ty := .int) dX10_told_65 rfl rfl ⟨rfl, rfl, rfl, rfl⟩
    · replace h := o_neg h e1_1
      by_cases e1_2 : a1 = 2
      · replace h := o_pos h e1_2
        refine wp_tableIn (off := 65) 66 dX10_told_1 (by rw [e1_2]; decide) (by rw [e1_2]; decide) (by rw [e1_2]; rfl) rfl ?_
        refine wp_aload_n dX10_told_66 0 rfl ?_
        refine wp_getI (k := 55) dX10_told_67 flX10_127 rfl rfl rfl rfl ?_
        obtain rfl := Option.some.inj h
        exact wp_ireturn (ty := .int) dX10_told_70 rfl rfl ⟨rfl, rfl, rfl, rfl⟩
      · replace h := o_neg h e1_2
        by_cases e1_3 : a1 = 3
        · replace h := o_pos h e1_3
          refine wp_tableIn (off := 70) 71 dX10_told_1 (by rw [e1_3]; decide) (by rw [e1_3]; decide) (by rw [e1_3]; rfl) rfl ?_
          refine wp_aload_n dX10_told_71 0 rfl ?_
          refine wp_getI (k := 55) dX10_told_72 flX10_144 rfl rfl rfl rfl ?_
          obtain rfl := Option.some.inj h
          exact wp_ireturn (ty := .int) dX10_told_75 rfl rfl ⟨rfl, rfl, rfl, rfl⟩
        · replace h := o_neg h e1_3
          by_cases e1_4 : a1 = 4
          · replace h := o_pos h e1_4
            refine wp_tableIn (off := 75) 76 dX10_told_1 (by rw [e1_4]; decide) (by rw [e1_4]; decide) (by rw [e1_4]; rfl) rfl ?_
            refine wp_aload_n dX10_told_76 0 rfl ?_
            refine wp_getI (k := 55) dX10_told_77 flX10_138 rfl rfl rfl rfl ?_
            obtain rfl := Option.some.inj h
            exact wp_ireturn (ty := .int) dX10_told_80 rfl rfl ⟨rfl, rfl, rfl, rfl⟩
          · replace h := o_neg h e1_4
            by_cases e1_5 : a1 = 5
            · replace h := o_pos h e1_5
              refine wp_tableIn (off := 80) 81 dX10_told_1 (by rw [e1_5]; decide) (by rw [e1_5]; decide) (by rw [e1_5]; rfl) rfl ?_
              refine wp_aload_n dX10_told_81 0 rfl ?_
              refine wp_getI (k := 55) dX10_told_82 flX10_25 rfl rfl rfl rfl ?_
              obtain rfl := Option.some.inj h
              exact wp_ireturn (ty := .int) dX10_told_85 rfl rfl ⟨rfl, rfl, rfl, rfl⟩
            · replace h := o_neg h e1_5
              by_cases e1_6 : a1 = 6
              · replace h := o_pos h e1_6
                refine wp_tableIn (off := 85) 86 dX10_told_1 (by rw [e1_6]; decide) (by rw [e1_6]; decide) (by rw [e1_6]; rfl) rfl ?_
                refine wp_aload_n dX10_told_86 0 rfl ?_
                refine wp_getI (k := 55) dX10_told_87 flX10_29 rfl rfl rfl rfl ?_
                obtain rfl := Option.some.inj h
                exact wp_ireturn (ty := .int) dX10_told_90 rfl rfl ⟨rfl, rfl, rfl, rfl⟩
              · replace h := o_neg h e1_6
                by_cases e1_7 : a1 = 7
                · replace h := o_pos h e1_7
                  refine wp_tableIn (off := 90) 91 dX10_told_1 (by rw [e1_7]; decide) (by rw [e1_7]; decide) (by rw [e1_7]; rfl) rfl ?_
                  refine wp_aload_n dX10_told_91 0 rfl ?_
                  obtain ⟨r92, h92, h⟩ := o_bind h
                  refine wp_callvI (k := 55) (ci := 10) (c_X10_soldSet Γ ad I J r92 h92) dX10_told_92 mlX10_255 mwX10_soldSet miX10_soldSet rfl rfl rfl rfl (Nat.le_of_ble_eq_true rfl) rfl (by decide) (by decide) ?_
                  obtain rfl := Option.some.inj h
                  exact wp_ireturn (ty := .int) dX10_told_95 rfl rfl ⟨rfl, rfl, rfl, rfl⟩
                · replace h := o_neg h e1_7
                  by_cases e1_8 : a1 = 8
                  · replace h := o_pos h e1_8
                    refine wp_tableIn (off := 95) 96 dX10_told_1 (by rw [e1_8]; decide) (by rw [e1_8]; decide) (by rw [e1_8]; rfl) rfl ?_
                    refine wp_aload_n dX10_told_96 0 rfl ?_
                    refine wp_getI (k := 55) dX10_told_97 flX10_252 rfl rfl rfl rfl ?_
                    obtain rfl := Option.some.inj h
                    exact wp_ireturn (ty := .int) dX10_told_100 rfl rfl ⟨rfl, rfl, rfl, rfl⟩
                  · replace h := o_neg h e1_8
                    by_cases e1_9 : a1 = 9
                    · replace h := o_pos h e1_9
                      refine wp_tableIn (off := 100) 101 dX10_told_1 (by rw [e1_9]; decide) (by rw [e1_9]; decide) (by rw [e1_9]; rfl) rfl ?_
                      refine wp_aload_n dX10_told_101 0 rfl ?_
                      refine wp_getI (k := 55) dX10_told_102 flX10_249 rfl rfl rfl rfl ?_
                      obtain rfl := Option.some.inj h
                      exact wp_ireturn (ty := .int) dX10_told_105 rfl rfl ⟨rfl, rfl, rfl, rfl⟩
                    · replace h := o_neg h e1_9
                      refine wp_tableOut 106 dX10_told_1 (by have n0 := lv_neT (a := 0) e1_0 (by decide); have n1 := lv_neT (a := 1) e1_1 (by decide); have n2 := lv_neT (a := 2) e1_2 (by decide); have n3 := lv_neT (a := 3) e1_3 (by decide); have n4 := lv_neT (a := 4) e1_4 (by decide); have n5 := lv_neT (a := 5) e1_5 (by decide); have n6 := lv_neT (a := 6) e1_6 (by decide); have n7 := lv_neT (a := 7) e1_7 (by decide); have n8 := lv_neT (a := 8) e1_8 (by decide); have n9 := lv_neT (a := 9) e1_9 (by decide); omega) rfl ?_
                      refine wp_ldc (v := (-1000002)) dX10_told_106 kcX10_143 ?_
                      obtain rfl := Option.some.inj h
                      exact wp_ireturn (ty := .int) dX10_told_108 rfl rfl ⟨rfl, rfl, rfl, rfl⟩
def f_X10_isPerson (a1 : Int32) (I : IT) : Option (Int32) :=
  (f_X10_persons I).bind fun r4 =>
  (f_X10_in a1.toInt64 0 ((r4 - 1).toInt64)).bind fun r10 =>
  if r10 = 0 ∨ r10 = 1 then some r10 else none
set_option maxRecDepth 100000 in
set_option maxHeartbeats 4000000 in
theorem c_X10_isPerson (Γ : GT) (ad : Nat → Nat) (a1 : Int32) (I : IT) (J : JT) (r : Int32) (h : f_X10_isPerson a1 I = some r) : CALL Γ mX10_isPerson (0, 0) [.ref (ad 55), .int a1] (DX ad) I J (QE (some (.int r)) (DX ad) I J) := by
  refine call_of' (by decide) (Nat.le_of_ble_eq_true rfl) (lv0 := [(0, .ref (ad 55)), (1, .int a1)]) rfl ?_
  unfold f_X10_isPerson at h
  refine wp_iload_n dX10_isPerson_0 1 rfl ?_
  refine wp_i2l dX10_isPerson_1 ?_
  refine wp_lconst (v := 0) dX10_isPerson_2 (by decide) ?_
  refine wp_aload_n dX10_isPerson_3 0 rfl ?_
  obtain ⟨r4, h4, h⟩ := o_bind h
  refine wp_callvI (k := 55) (ci := 10) (c_X10_persons Γ ad I J r4 h4) dX10_isPerson_4 mlX10_130 mwX10_persons miX10_persons rfl rfl rfl rfl (Nat.le_of_ble_eq_true rfl) rfl (by decide) (by decide) ?_
  refine wp_iconst (v := 1) dX10_isPerson_7 (by decide) ?_
  refine wp_isub dX10_isPerson_8 ?_
  refine wp_i2l dX10_isPerson_9 ?_
  obtain ⟨r10, h10, h⟩ := o_bind h
  refine wp_callsI (c_X10_in Γ ad a1.toInt64 0 ((r4 - 1).toInt64) I J r10 h10) dX10_isPerson_10 mlX10_134 mwX10_in miX10_in rfl (Nat.le_of_ble_eq_true rfl) rfl (by decide) (by decide) ?_
  obtain ⟨g13, h⟩ := o_grd h
  obtain rfl := Option.some.inj h
  exact wp_ireturn (ty := .boolean) dX10_isPerson_13 rfl (isb_of g13) ⟨rfl, rfl, rfl, rfl⟩
def f_X10_bits_4 : Nat → Int32 → Int32 → Int32 → Option (Int32)
  | 0, _, _, _ => none
  | n + 1, v0, v1, v2 =>
    if (14 : Int32) ≤ v2 then
      some v1
    else
      f_X10_bits_4 n v0 (v1 + ((v0 >>> (v2 &&& 31)) &&& 1)) (v2 + 1)
def f_X10_bits (a0 : Int32) : Option (Int32) :=
  f_X10_bits_4 FU a0 0 0
set_option maxRecDepth 100000 in
set_option maxHeartbeats 4000000 in
theorem w_X10_bits_4 (Γ : GT) (ad : Nat → Nat) : ∀ (n : Nat) (v0 : Int32) (v1 : Int32) (v2 : Int32) (I : IT) (J : JT) (r : Int32), f_X10_bits_4 n v0 v1 v2 = some r → WP Γ mX10_bits (0, 0) 4 [(0, .int v0), (1, .int v1), (2, .int v2)] [] (DX ad) I J (QE (some (.int r)) (DX ad) I J) := by
  intro n
  induction n with
  | zero => intro v0 v1 v2 I J r h; exact absurd h (by simp [f_X10_bits_4])
  | succ n ih =>
    intro v0 v1 v2 I J r h
    rw [f_X10_bits_4] at h
    refine wp_iload_n dX10_bits_4 2 rfl ?_
    refine wp_bipush (v := 14) dX10_bits_5 (by decide) ?_
    refine wp_icmp_ge 24 dX10_bits_7 rfl (fun c7 => ?_) (fun c7 => ?_)
    · replace h := o_pos h c7
      refine wp_iload_n dX10_bits_24 1 rfl ?_
      obtain rfl := Option.some.inj h
      exact wp_ireturn (ty := .int) dX10_bits_25 rfl rfl ⟨rfl, rfl, rfl, rfl⟩
    · replace h := o_neg h c7
      refine wp_iload_n dX10_bits_10 1 rfl ?_
      refine wp_iload_n dX10_bits_11 0 rfl ?_
      refine wp_iload_n dX10_bits_12 2 rfl ?_
      refine wp_ishr dX10_bits_13 ?_
      refine wp_iconst (v := 1) dX10_bits_14 (by decide) ?_
      refine wp_iand dX10_bits_15 ?_
      refine wp_iadd dX10_bits_16 ?_
      refine wp_istore_n (lv' := [(0, _), (1, _), (2, _)]) dX10_bits_17 rfl rfl rfl rfl ?_
      refine wp_iinc (v := v2 + 1) (lv' := [(0, _), (1, _), (2, _)]) dX10_bits_18 2 rfl rfl rfl rfl rfl ?_
      refine wp_goto 4 dX10_bits_21 rfl ?_
      refine wp_pick [0, 1, 2] (lv' := [(0, _), (1, _), (2, _)]) rfl ?_
      exact ih v0 (v1 + ((v0 >>> (v2 &&& 31)) &&& 1)) (v2 + 1) I J r h
set_option maxRecDepth 100000 in
set_option maxHeartbeats 4000000 in
theorem c_X10_bits (Γ : GT) (ad : Nat → Nat) (a0 : Int32) (I : IT) (J : JT) (r : Int32) (h : f_X10_bits a0 = some r) : CALL Γ mX10_bits (0, 0) [.int a0] (DX ad) I J (QE (some (.int r)) (DX ad) I J) := by
  refine call_of' (by decide) (Nat.le_of_ble_eq_true rfl) (lv0 := [(0, .int a0)]) rfl ?_
  unfold f_X10_bits at h
  refine wp_iconst (v := 0) dX10_bits_0 (by decide) ?_
  refine wp_istore_n (lv' := [(0, _), (1, _)]) dX10_bits_1 rfl rfl rfl rfl ?_
  refine wp_iconst (v := 0) dX10_bits_2 (by decide) ?_
  refine wp_istore_n (lv' := [(0, _), (1, _), (2, _)]) dX10_bits_3 rfl rfl rfl rfl ?_
  refine wp_pick [0, 1, 2] (lv' := [(0, _), (1, _), (2, _)]) rfl ?_
  exact w_X10_bits_4 Γ ad FU a0 0 0 I J r h
def f_X10_free (a1 : Int32) (I : IT) : Option (Int32) :=
  if inbB a1 14 = true then
    if inbB a1 14 = true then
      (f_X10_bits (I 61 a1.toNatClampNeg)).bind fun r12 =>
      some ((I 60 a1.toNatClampNeg) - r12)
    else none
  else none
set_option maxRecDepth 100000 in
set_option maxHeartbeats 4000000 in
theorem c_X10_free (Γ : GT) (ad : Nat → Nat) (a1 : Int32) (I : IT) (J : JT) (r : Int32) (h : f_X10_free a1 I = some r) : CALL Γ mX10_free (0, 0) [.ref (ad 55), .int a1] (DX ad) I J (QE (some (.int r)) (DX ad) I J) := by
  refine call_of' (by decide) (Nat.le_of_ble_eq_true rfl) (lv0 := [(0, .ref (ad 55)), (1, .int a1)]) rfl ?_
  unfold f_X10_free at h
  refine wp_aload_n dX10_free_0 0 rfl ?_
  refine wp_getR (k := 55) (a' := ad 60) dX10_free_1 flX10_22 rfl rfl rfl rfl rfl ?_
  refine wp_iload_n dX10_free_4 1 rfl ?_
  obtain ⟨g5, h⟩ := o_grd h
  refine wp_iald (k := 60) dX10_free_5 rfl rfl (inb_of g5) ?_
  refine wp_aload_n dX10_free_6 0 rfl ?_
  refine wp_getR (k := 55) (a' := ad 61) dX10_free_7 flX10_32 rfl rfl rfl rfl rfl ?_
  refine wp_iload_n dX10_free_10 1 rfl ?_
  obtain ⟨g11, h⟩ := o_grd h
  refine wp_iald (k := 61) dX10_free_11 rfl rfl (inb_of g11) ?_
  obtain ⟨r12, h12, h⟩ := o_bind h
  refine wp_callsI (c_X10_bits Γ ad (I 61 a1.toNatClampNeg) I J r12 h12) dX10_free_12 mlX10_258 mwX10_bits miX10_bits rfl (Nat.le_of_ble_eq_true rfl) rfl (by decide) (by decide) ?_
  refine wp_isub dX10_free_15 ?_
  obtain rfl := Option.some.inj h
  exact wp_ireturn (ty := .int) dX10_free_16 rfl rfl ⟨rfl, rfl, rfl, rfl⟩
def f_X10_person (a1 : Int32) (a2 : Int32) (I : IT) : Option (Int32) :=
  (f_X10_isPerson a1 I).bind fun r2 =>
  if r2 = 0 then
    some (-1000001)
  else
    (f_X10_sortOf a1 I).bind fun r14 =>
    if a2 = 0 then
      if inbB a1 14 = true then
        some (I 60 a1.toNatClampNeg)
      else none
    else
      if a2 = 1 then
        (f_X10_free a1 I).bind fun r61 =>
        some r61
      else
        if a2 = 2 then
          if inbB a1 14 = true then
            some (I 61 a1.toNatClampNeg)
          else none
        else
          if a2 = 3 then
            if r14 = 0 then
              if inbB a1 6 = true then
                some (I 56 a1.toNatClampNeg)
              else none
            else
              if r14 = (1 : Int32) then
                if inbB (a1 - (I 55 0)) 6 = true then
                  some (I 57 (a1 - (I 55 0)).toNatClampNeg)
                else none
              else
                if inbB ((a1 - (I 55 0)) - (I 55 1)) 2 = true then
                  some (I 59 ((a1 - (I 55 0)) - (I 55 1)).toNatClampNeg)
                else none
          else
            if a2 = 4 then
              if inbB a1 14 = true then
                some (I 66 a1.toNatClampNeg)
              else none
            else
              some (-1000002)
set_option maxRecDepth 100000 in
set_option maxHeartbeats 4000000 in
theorem c_X10_person (Γ : GT) (ad : Nat → Nat) (a1 : Int32) (a2 : Int32) (I : IT) (J : JT) (r : Int32) (h : f_X10_person a1 a2 I = some r) : CALL Γ mX10_person (0, 0) [.ref (ad 55), .int a1, .int a2] (DX ad) I J (QE (some (.int r)) (DX ad) I J) := by
  refine call_of' (by decide) (Nat.le_of_ble_eq_true rfl) (lv0 := [(0, .ref (ad 55)), (1, .int a1), (2, .int a2)]) rfl ?_
  unfold f_X10_person at h
  refine wp_aload_n dX10_person_0 0 rfl ?_
  refine wp_iload_n dX10_person_1 1 rfl ?_
  obtain ⟨r2, h2, h⟩ := o_bind h
  refine wp_callvI (k := 55) (ci := 10) (c_X10_isPerson Γ ad a1 I J r2 h2) dX10_person_2 mlX10_261 mwX10_isPerson miX10_isPerson rfl rfl rfl rfl (Nat.le_of_ble_eq_true rfl) rfl (by decide) (by decide) ?_
  refine wp_if_ne 12 dX10_person_5 rfl (fun c5 => ?_) (fun c5 => ?_)
  · replace h := o_neg h c5
    refine wp_aload_n dX10_person_12 0 rfl ?_
    refine wp_iload_n dX10_person_13 1 rfl ?_
    obtain ⟨r14, h14, h⟩ := o_bind h
    refine wp_callvI (k := 55) (ci := 10) (c_X10_sortOf Γ ad a1 I J r14 h14) dX10_person_14 mlX10_245 mwX10_sortOf miX10_sortOf rfl rfl rfl rfl (Nat.le_of_ble_eq_true rfl) rfl (by decide) (by decide) ?_
    refine wp_istore_n (lv' := [(0, _), (1, _), (2, _), (3, _)]) dX10_person_17 rfl rfl rfl rfl ?_
    refine wp_iload_n dX10_person_18 2 rfl ?_
    by_cases e19_0 : a2 = 0
    · replace h := o_pos h e19_0
      refine wp_tableIn (off := 33) 52 dX10_person_19 (by rw [e19_0]; decide) (by rw [e19_0]; decide) (by rw [e19_0]; rfl) rfl ?_
      refine wp_aload_n dX10_person_52 0 rfl ?_
      refine wp_getR (k := 55) (a' := ad 60) dX10_person_53 flX10_22 rfl rfl rfl rfl rfl ?_
      refine wp_iload_n dX10_person_56 1 rfl ?_
      obtain ⟨g57, h⟩ := o_grd h
      refine wp_iald (k := 60) dX10_person_57 rfl rfl (inb_of g57) ?_
      obtain rfl := Option.some.inj h
      exact wp_ireturn (ty := .int) dX10_person_58 rfl rfl ⟨rfl, rfl, rfl, rfl⟩
    · replace h := o_neg h e19_0
      by_cases e19_1 : a2 = 1
      · replace h := o_pos h e19_1
        refine wp_tableIn (off := 40) 59 dX10_person_19 (by rw [e19_1]; decide) (by rw [e19_1]; decide) (by rw [e19_1]; rfl) rfl ?_
        refine wp_aload_n dX10_person_59 0 rfl ?_
        refine wp_iload_n dX10_person_60 1 rfl ?_
        obtain ⟨r61, h61, h⟩ := o_bind h
        refine wp_callvI (k := 55) (ci := 10) (c_X10_free Γ ad a1 I J r61 h61) dX10_person_61 mlX10_265 mwX10_free miX10_free rfl rfl rfl rfl (Nat.le_of_ble_eq_true rfl) rfl (by decide) (by decide) ?_
        obtain rfl := Option.some.inj h
        exact wp_ireturn (ty := .int) dX10_person_64 rfl rfl ⟨rfl, rfl, rfl, rfl⟩
      · replace h := o_neg h e19_1
        by_cases e19_2 : a2 = 2
        · replace h := o_pos h e19_2
          refine wp_tableIn (off := 46) 65 dX10_person_19 (by rw [e19_2]; decide) (by rw [e19_2]; decide) (by rw [e19_2]; rfl) rfl ?_
          refine wp_aload_n dX10_person_65 0 rfl ?_
          refine wp_getR (k := 55) (a' := ad 61) dX10_person_66 flX10_32 rfl rfl rfl rfl rfl ?_
          refine wp_iload_n dX10_person_69 1 rfl ?_
          obtain ⟨g70, h⟩ := o_grd h
          refine wp_iald (k := 61) dX10_person_70 rfl rfl (inb_of g70) ?_
          obtain rfl := Option.some.inj h
          exact wp_ireturn (ty := .int) dX10_person_71 rfl rfl ⟨rfl, rfl, rfl, rfl⟩
        · replace h := o_neg h e19_2
          by_cases e19_3 : a2 = 3
          · replace h := o_pos h e19_3
            refine wp_tableIn (off := 53) 72 dX10_person_19 (by rw [e19_3]; decide) (by rw [e19_3]; decide) (by rw [e19_3]; rfl) rfl ?_
            refine wp_iload_n dX10_person_72 3 rfl ?_
            refine wp_if_ne 85 dX10_person_73 rfl (fun c73 => ?_) (fun c73 => ?_)
            · replace h := o_neg h c73
              refine wp_iload_n dX10_person_85 3 rfl ?_
              refine wp_iconst (v := 1) dX10_person_86 (by decide) ?_
              refine wp_icmp_ne 104 dX10_person_87 rfl (fun c87 => ?_) (fun c87 => ?_)
              · replace h := o_neg h c87
                refine wp_aload_n dX10_person_104 0 rfl ?_
                refine wp_getR (k := 55) (a' := ad 59) dX10_person_105 flX10_19 rfl rfl rfl rfl rfl ?_
                refine wp_iload_n dX10_person_108 1 rfl ?_
                refine wp_aload_n dX10_person_109 0 rfl ?_
                refine wp_getI (k := 55) dX10_person_110 flX10_121 rfl rfl rfl rfl ?_
                refine wp_isub dX10_person_113 ?_
                refine wp_aload_n dX10_person_114 0 rfl ?_
                refine wp_getI (k := 55) dX10_person_115 flX10_124 rfl rfl rfl rfl ?_
                refine wp_isub dX10_person_118 ?_
                obtain ⟨g119, h⟩ := o_grd h
                refine wp_iald (k := 59) dX10_person_119 rfl rfl (inb_of g119) ?_
                obtain rfl := Option.some.inj h
                exact wp_ireturn (ty := .int) dX10_person_120 rfl rfl ⟨rfl, rfl, rfl, rfl⟩
              · replace h := o_pos h c87
                refine wp_aload_n dX10_person_90 0 rfl ?_
                refine wp_getR (k := 55) (a' := ad 57) dX10_person_91 flX10_13 rfl rfl rfl rfl rfl ?_
                refine wp_iload_n dX10_person_94 1 rfl ?_
                refine wp_aload_n dX10_person_95 0 rfl ?_
                refine wp_getI (k := 55) dX10_person_96 flX10_121 rfl rfl rfl rfl ?_
                refine wp_isub dX10_person_99 ?_
                obtain ⟨g100, h⟩ := o_grd h
                refine wp_iald (k := 57) dX10_person_100 rfl rfl (inb_of g100) ?_
                refine wp_goto 120 dX10_person_101 rfl ?_
                obtain rfl := Option.some.inj h
                exact wp_ireturn (ty := .int) dX10_person_120 rfl rfl ⟨rfl, rfl, rfl, rfl⟩
            · replace h := o_pos h c73
              refine wp_aload_n dX10_person_76 0 rfl ?_
              refine wp_getR (k := 55) (a' := ad 56) dX10_person_77 flX10_7 rfl rfl rfl rfl rfl ?_
              refine wp_iload_n dX10_person_80 1 rfl ?_
              obtain ⟨g81, h⟩ := o_grd h
              refine wp_iald (k := 56) dX10_person_81 rfl rfl (inb_of g81) ?_
              refine wp_goto 120 dX10_person_82 rfl ?_
              obtain rfl := Option.some.inj h
              exact wp_ireturn (ty := .int) dX10_person_120 rfl rfl ⟨rfl, rfl, rfl, rfl⟩
          · replace h := o_neg h e19_3
            by_cases e19_4 : a2 = 4
            · replace h := o_pos h e19_4
              refine wp_tableIn (off := 102) 121 dX10_person_19 (by rw [e19_4]; decide) (by rw [e19_4]; decide) (by rw [e19_4]; rfl) rfl ?_
              refine wp_aload_n dX10_person_121 0 rfl ?_
              refine wp_getR (k := 55) (a' := ad 66) dX10_person_122 flX10_47 rfl rfl rfl rfl rfl ?_
              refine wp_iload_n dX10_person_125 1 rfl ?_
              obtain ⟨g126, h⟩ := o_grd h
              refine wp_iald (k := 66) dX10_person_126 rfl rfl (inb_of g126) ?_
              obtain rfl := Option.some.inj h
              exact wp_ireturn (ty := .int) dX10_person_127 rfl rfl ⟨rfl, rfl, rfl, rfl⟩
            · replace h := o_neg h e19_4
              refine wp_tableOut 128 dX10_person_19 (by have n0 := lv_neT (a := 0) e19_0 (by decide); have n1 := lv_neT (a := 1) e19_1 (by decide); have n2 := lv_neT (a := 2) e19_2 (by decide); have n3 := lv_neT (a := 3) e19_3 (by decide); have n4 := lv_neT (a := 4) e19_4 (by decide); omega) rfl ?_
              refine wp_ldc (v := (-1000002)) dX10_person_128 kcX10_143 ?_
              obtain rfl := Option.some.inj h
              exact wp_ireturn (ty := .int) dX10_person_130 rfl rfl ⟨rfl, rfl, rfl, rfl⟩
  · replace h := o_pos h c5
    refine wp_ldcw (v := (-1000001)) dX10_person_8 kcX10_264 ?_
    obtain rfl := Option.some.inj h
    exact wp_ireturn (ty := .int) dX10_person_11 rfl rfl ⟨rfl, rfl, rfl, rfl⟩
def f_X10_isBuyer (a1 : Int32) (I : IT) : Option (Int32) :=
  (f_X10_in a1.toInt64 0 (((I 55 1) - 1).toInt64)).bind fun r10 =>
  if r10 = 0 ∨ r10 = 1 then some r10 else none
set_option maxRecDepth 100000 in
set_option maxHeartbeats 4000000 in
theorem c_X10_isBuyer (Γ : GT) (ad : Nat → Nat) (a1 : Int32) (I : IT) (J : JT) (r : Int32) (h : f_X10_isBuyer a1 I = some r) : CALL Γ mX10_isBuyer (0, 0) [.ref (ad 55), .int a1] (DX ad) I J (QE (some (.int r)) (DX ad) I J) := by
  refine call_of' (by decide) (Nat.le_of_ble_eq_true rfl) (lv0 := [(0, .ref (ad 55)), (1, .int a1)]) rfl ?_
  unfold f_X10_isBuyer at h
  refine wp_iload_n dX10_isBuyer_0 1 rfl ?_
  refine wp_i2l dX10_isBuyer_1 ?_
  refine wp_lconst (v := 0) dX10_isBuyer_2 (by decide) ?_
  refine wp_aload_n dX10_isBuyer_3 0 rfl ?_
  refine wp_getI (k := 55) dX10_isBuyer_4 flX10_124 rfl rfl rfl rfl ?_
  refine wp_iconst (v := 1) dX10_isBuyer_7 (by decide) ?_
  refine wp_isub dX10_isBuyer_8 ?_
  refine wp_i2l dX10_isBuyer_9 ?_
  obtain ⟨r10, h10, h⟩ := o_bind h
  refine wp_callsI (c_X10_in Γ ad a1.toInt64 0 (((I 55 1) - 1).toInt64) I J r10 h10) dX10_isBuyer_10 mlX10_134 mwX10_in miX10_in rfl (Nat.le_of_ble_eq_true rfl) rfl (by decide) (by decide) ?_
  obtain ⟨g13, h⟩ := o_grd h
  obtain rfl := Option.some.inj h
  exact wp_ireturn (ty := .boolean) dX10_isBuyer_13 rfl (isb_of g13) ⟨rfl, rfl, rfl, rfl⟩
def f_X10_isLot (a1 : Int32) (I : IT) : Option (Int32) :=
  (f_X10_in a1.toInt64 0 (((I 55 0) - 1).toInt64)).bind fun r10 =>
  if r10 = 0 ∨ r10 = 1 then some r10 else none
set_option maxRecDepth 100000 in
set_option maxHeartbeats 4000000 in
theorem c_X10_isLot (Γ : GT) (ad : Nat → Nat) (a1 : Int32) (I : IT) (J : JT) (r : Int32) (h : f_X10_isLot a1 I = some r) : CALL Γ mX10_isLot (0, 0) [.ref (ad 55), .int a1] (DX ad) I J (QE (some (.int r)) (DX ad) I J) := by
  refine call_of' (by decide) (Nat.le_of_ble_eq_true rfl) (lv0 := [(0, .ref (ad 55)), (1, .int a1)]) rfl ?_
  unfold f_X10_isLot at h
  refine wp_iload_n dX10_isLot_0 1 rfl ?_
  refine wp_i2l dX10_isLot_1 ?_
  refine wp_lconst (v := 0) dX10_isLot_2 (by decide) ?_
  refine wp_aload_n dX10_isLot_3 0 rfl ?_
  refine wp_getI (k := 55) dX10_isLot_4 flX10_121 rfl rfl rfl rfl ?_
  refine wp_iconst (v := 1) dX10_isLot_7 (by decide) ?_
  refine wp_isub dX10_isLot_8 ?_
  refine wp_i2l dX10_isLot_9 ?_
  obtain ⟨r10, h10, h⟩ := o_bind h
  refine wp_callsI (c_X10_in Γ ad a1.toInt64 0 (((I 55 0) - 1).toInt64) I J r10 h10) dX10_isLot_10 mlX10_134 mwX10_in miX10_in rfl (Nat.le_of_ble_eq_true rfl) rfl (by decide) (by decide) ?_
  obtain ⟨g13, h⟩ := o_grd h
  obtain rfl := Option.some.inj h
  exact wp_ireturn (ty := .boolean) dX10_isLot_13 rfl (isb_of g13) ⟨rfl, rfl, rfl, rfl⟩
def f_X10_worth (a1 : Int32) (a2 : Int32) (I : IT) : Option (Int32) :=
  (f_X10_isBuyer a1 I).bind fun r2 =>
  if r2 = 0 then
    some (-1000001)
  else
    (f_X10_isLot a2 I).bind fun r10 =>
    if r10 = 0 then
      some (-1000001)
    else
      if inbB ((6 * a1) + a2) 36 = true then
        some (I 58 ((6 * a1) + a2).toNatClampNeg)
      else none
set_option maxRecDepth 100000 in
set_option maxHeartbeats 4000000 in
theorem c_X10_worth (Γ : GT) (ad : Nat → Nat) (a1 : Int32) (a2 : Int32) (I : IT) (J : JT) (r : Int32) (h : f_X10_worth a1 a2 I = some r) : CALL Γ mX10_worth (0, 0) [.ref (ad 55), .int a1, .int a2] (DX ad) I J (QE (some (.int r)) (DX ad) I J) := by
  refine call_of' (by decide) (Nat.le_of_ble_eq_true rfl) (lv0 := [(0, .ref (ad 55)), (1, .int a1), (2, .int a2)]) rfl ?_
  unfold f_X10_worth at h
  refine wp_aload_n dX10_worth_0 0 rfl ?_
  refine wp_iload_n dX10_worth_1 1 rfl ?_
  obtain ⟨r2, h2, h⟩ := o_bind h
  refine wp_callvI (k := 55) (ci := 10) (c_X10_isBuyer Γ ad a1 I J r2 h2) dX10_worth_2 mlX10_268 mwX10_isBuyer miX10_isBuyer rfl rfl rfl rfl (Nat.le_of_ble_eq_true rfl) rfl (by decide) (by decide) ?_
  refine wp_if_eq 30 dX10_worth_5 rfl (fun c5 => ?_) (fun c5 => ?_)
  · replace h := o_pos h c5
    refine wp_ldcw (v := (-1000001)) dX10_worth_30 kcX10_264 ?_
    obtain rfl := Option.some.inj h
    exact wp_ireturn (ty := .int) dX10_worth_33 rfl rfl ⟨rfl, rfl, rfl, rfl⟩
  · replace h := o_neg h c5
    refine wp_aload_n dX10_worth_8 0 rfl ?_
    refine wp_iload_n dX10_worth_9 2 rfl ?_
    obtain ⟨r10, h10, h⟩ := o_bind h
    refine wp_callvI (k := 55) (ci := 10) (c_X10_isLot Γ ad a2 I J r10 h10) dX10_worth_10 mlX10_271 mwX10_isLot miX10_isLot rfl rfl rfl rfl (Nat.le_of_ble_eq_true rfl) rfl (by decide) (by decide) ?_
    refine wp_if_eq 30 dX10_worth_13 rfl (fun c13 => ?_) (fun c13 => ?_)
    · replace h := o_pos h c13
      refine wp_ldcw (v := (-1000001)) dX10_worth_30 kcX10_264 ?_
      obtain rfl := Option.some.inj h
      exact wp_ireturn (ty := .int) dX10_worth_33 rfl rfl ⟨rfl, rfl, rfl, rfl⟩
    · replace h := o_neg h c13
      refine wp_aload_n dX10_worth_16 0 rfl ?_
      refine wp_getR (k := 55) (a' := ad 58) dX10_worth_17 flX10_16 rfl rfl rfl rfl rfl ?_
      refine wp_bipush (v := 6) dX10_worth_20 (by decide) ?_
      refine wp_iload_n dX10_worth_22 1 rfl ?_
      refine wp_imul dX10_worth_23 ?_
      refine wp_iload_n dX10_worth_24 2 rfl ?_
      refine wp_iadd dX10_worth_25 ?_
      obtain ⟨g26, h⟩ := o_grd h
      refine wp_iald (k := 58) dX10_worth_26 rfl rfl (inb_of g26) ?_
      refine wp_goto 33 dX10_worth_27 rfl ?_
      obtain rfl := Option.some.inj h
      exact wp_ireturn (ty := .int) dX10_worth_33 rfl rfl ⟨rfl, rfl, rfl, rfl⟩
def f_X10_isAbout (a1 : Int32) (a2 : Int32) (I : IT) : Option (Int32) :=
  (f_X10_isPerson a1 I).bind fun r2 =>
  if r2 = 0 then
    some 0
  else
    (f_X10_isLot a2 I).bind fun r10 =>
    if r10 = 0 then
      some 0
    else
      (f_X10_sortOf a1 I).bind fun r18 =>
      if r18 = (1 : Int32) then
        some 1
      else
        (f_X10_sortOf a1 I).bind fun r27 =>
        if r27 = 0 then
          if a1 = a2 then
            some 1
          else
            some 0
        else
          some 0
set_option maxRecDepth 100000 in
set_option maxHeartbeats 4000000 in
theorem c_X10_isAbout (Γ : GT) (ad : Nat → Nat) (a1 : Int32) (a2 : Int32) (I : IT) (J : JT) (r : Int32) (h : f_X10_isAbout a1 a2 I = some r) : CALL Γ mX10_isAbout (0, 0) [.ref (ad 55), .int a1, .int a2] (DX ad) I J (QE (some (.int r)) (DX ad) I J) := by
  refine call_of' (by decide) (Nat.le_of_ble_eq_true rfl) (lv0 := [(0, .ref (ad 55)), (1, .int a1), (2, .int a2)]) rfl ?_
  unfold f_X10_isAbout at h
  refine wp_aload_n dX10_isAbout_0 0 rfl ?_
  refine wp_iload_n dX10_isAbout_1 1 rfl ?_
  obtain ⟨r2, h2, h⟩ := o_bind h
  refine wp_callvI (k := 55) (ci := 10) (c_X10_isPerson Γ ad a1 I J r2 h2) dX10_isAbout_2 mlX10_261 mwX10_isPerson miX10_isPerson rfl rfl rfl rfl (Nat.le_of_ble_eq_true rfl) rfl (by decide) (by decide) ?_
  refine wp_if_eq 42 dX10_isAbout_5 rfl (fun c5 => ?_) (fun c5 => ?_)
  · replace h := o_pos h c5
    refine wp_iconst (v := 0) dX10_isAbout_42 (by decide) ?_
    obtain rfl := Option.some.inj h
    exact wp_ireturn (ty := .boolean) dX10_isAbout_43 rfl rfl ⟨rfl, rfl, rfl, rfl⟩
  · replace h := o_neg h c5
    refine wp_aload_n dX10_isAbout_8 0 rfl ?_
    refine wp_iload_n dX10_isAbout_9 2 rfl ?_
    obtain ⟨r10, h10, h⟩ := o_bind h
    refine wp_callvI (k := 55) (ci := 10) (c_X10_isLot Γ ad a2 I J r10 h10) dX10_isAbout_10 mlX10_271 mwX10_isLot miX10_isLot rfl rfl rfl rfl (Nat.le_of_ble_eq_true rfl) rfl (by decide) (by decide) ?_
    refine wp_if_eq 42 dX10_isAbout_13 rfl (fun c13 => ?_) (fun c13 => ?_)
    · replace h := o_pos h c13
      refine wp_iconst (v := 0) dX10_isAbout_42 (by decide) ?_
      obtain rfl := Option.some.inj h
      exact wp_ireturn (ty := .boolean) dX10_isAbout_43 rfl rfl ⟨rfl, rfl, rfl, rfl⟩
    · replace h := o_neg h c13
      refine wp_aload_n dX10_isAbout_16 0 rfl ?_
      refine wp_iload_n dX10_isAbout_17 1 rfl ?_
      obtain ⟨r18, h18, h⟩ := o_bind h
      refine wp_callvI (k := 55) (ci := 10) (c_X10_sortOf Γ ad a1 I J r18 h18) dX10_isAbout_18 mlX10_245 mwX10_sortOf miX10_sortOf rfl rfl rfl rfl (Nat.le_of_ble_eq_true rfl) rfl (by decide) (by decide) ?_
      refine wp_iconst (v := 1) dX10_isAbout_21 (by decide) ?_
      refine wp_icmp_eq 38 dX10_isAbout_22 rfl (fun c22 => ?_) (fun c22 => ?_)
      · replace h := o_pos h c22
        refine wp_iconst (v := 1) dX10_isAbout_38 (by decide) ?_
        refine wp_goto 43 dX10_isAbout_39 rfl ?_
        obtain rfl := Option.some.inj h
        exact wp_ireturn (ty := .boolean) dX10_isAbout_43 rfl rfl ⟨rfl, rfl, rfl, rfl⟩
      · replace h := o_neg h c22
        refine wp_aload_n dX10_isAbout_25 0 rfl ?_
        refine wp_iload_n dX10_isAbout_26 1 rfl ?_
        obtain ⟨r27, h27, h⟩ := o_bind h
        refine wp_callvI (k := 55) (ci := 10) (c_X10_sortOf Γ ad a1 I J r27 h27) dX10_isAbout_27 mlX10_245 mwX10_sortOf miX10_sortOf rfl rfl rfl rfl (Nat.le_of_ble_eq_true rfl) rfl (by decide) (by decide) ?_
        refine wp_if_ne 42 dX10_isAbout_30 rfl (fun c30 => ?_) (fun c30 => ?_)
        · replace h := o_neg h c30
          refine wp_iconst (v := 0) dX10_isAbout_42 (by decide) ?_
          obtain rfl := Option.some.inj h
          exact wp_ireturn (ty := .boolean) dX10_isAbout_43 rfl rfl ⟨rfl, rfl, rfl, rfl⟩
        · replace h := o_pos h c30
          refine wp_iload_n dX10_isAbout_33 1 rfl ?_
          refine wp_iload_n dX10_isAbout_34 2 rfl ?_
          refine wp_icmp_ne 42 dX10_isAbout_35 rfl (fun c35 => ?_) (fun c35 => ?_)
          · replace h := o_neg h c35
            refine wp_iconst (v := 0) dX10_isAbout_42 (by decide) ?_
            obtain rfl := Option.some.inj h
            exact wp_ireturn (ty := .boolean) dX10_isAbout_43 rfl rfl ⟨rfl, rfl, rfl, rfl⟩
          · replace h := o_pos h c35
            refine wp_iconst (v := 1) dX10_isAbout_38 (by decide) ?_
            refine wp_goto 43 dX10_isAbout_39 rfl ?_
            obtain rfl := Option.some.inj h
            exact wp_ireturn (ty := .boolean) dX10_isAbout_43 rfl rfl ⟨rfl, rfl, rfl, rfl⟩
def f_X10_isBound (a1 : Int32) (a2 : Int32) (I : IT) : Option (Int32) :=
  if inbB ((6 * a1) + a2) 84 = true then
    if (I 62 ((6 * a1) + a2).toNatClampNeg) < 0 then
      some 0
    else
      if inbB ((6 * a1) + a2) 84 = true then
        if (I 63 ((6 * a1) + a2).toNatClampNeg) ≤ (I 55 16) then
          some 0
        else
          some 1
      else none
  else none
set_option maxRecDepth 100000 in
set_option maxHeartbeats 4000000 in
theorem c_X10_isBound (Γ : GT) (ad : Nat → Nat) (a1 : Int32) (a2 : Int32) (I : IT) (J : JT) (r : Int32) (h : f_X10_isBound a1 a2 I = some r) : CALL Γ mX10_isBound (0, 0) [.ref (ad 55), .int a1, .int a2] (DX ad) I J (QE (some (.int r)) (DX ad) I J) := by
  refine call_of' (by decide) (Nat.le_of_ble_eq_true rfl) (lv0 := [(0, .ref (ad 55)), (1, .int a1), (2, .int a2)]) rfl ?_
  unfold f_X10_isBound at h
  refine wp_aload_n dX10_isBound_0 0 rfl ?_
  refine wp_getR (k := 55) (a' := ad 62) dX10_isBound_1 flX10_35 rfl rfl rfl rfl rfl ?_
  refine wp_bipush (v := 6) dX10_isBound_4 (by decide) ?_
  refine wp_iload_n dX10_isBound_6 1 rfl ?_
  refine wp_imul dX10_isBound_7 ?_
  refine wp_iload_n dX10_isBound_8 2 rfl ?_
  refine wp_iadd dX10_isBound_9 ?_
  obtain ⟨g10, h⟩ := o_grd h
  refine wp_iald (k := 62) dX10_isBound_10 rfl rfl (inb_of g10) ?_
  refine wp_if_lt 36 dX10_isBound_11 rfl (fun c11 => ?_) (fun c11 => ?_)
  · replace h := o_pos h c11
    refine wp_iconst (v := 0) dX10_isBound_36 (by decide) ?_
    obtain rfl := Option.some.inj h
    exact wp_ireturn (ty := .boolean) dX10_isBound_37 rfl rfl ⟨rfl, rfl, rfl, rfl⟩
  · replace h := o_neg h c11
    refine wp_aload_n dX10_isBound_14 0 rfl ?_
    refine wp_getI (k := 55) dX10_isBound_15 flX10_138 rfl rfl rfl rfl ?_
    refine wp_aload_n dX10_isBound_18 0 rfl ?_
    refine wp_getR (k := 55) (a' := ad 63) dX10_isBound_19 flX10_38 rfl rfl rfl rfl rfl ?_
    refine wp_bipush (v := 6) dX10_isBound_22 (by decide) ?_
    refine wp_iload_n dX10_isBound_24 1 rfl ?_
    refine wp_imul dX10_isBound_25 ?_
    refine wp_iload_n dX10_isBound_26 2 rfl ?_
    refine wp_iadd dX10_isBound_27 ?_
    obtain ⟨g28, h⟩ := o_grd h
    refine wp_iald (k := 63) dX10_isBound_28 rfl rfl (inb_of g28) ?_
    refine wp_icmp_ge 36 dX10_isBound_29 rfl (fun c29 => ?_) (fun c29 => ?_)
    · replace h := o_pos h c29
      refine wp_iconst (v := 0) dX10_isBound_36 (by decide) ?_
      obtain rfl := Option.some.inj h
      exact wp_ireturn (ty := .boolean) dX10_isBound_37 rfl rfl ⟨rfl, rfl, rfl, rfl⟩
    · replace h := o_neg h c29
      refine wp_iconst (v := 1) dX10_isBound_32 (by decide) ?_
      refine wp_goto 37 dX10_isBound_33 rfl ?_
      obtain rfl := Option.some.inj h
      exact wp_ireturn (ty := .boolean) dX10_isBound_37 rfl rfl ⟨rfl, rfl, rfl, rfl⟩
def f_X10_bound (a1 : Int32) (a2 : Int32) (a3 : Int32) (I : IT) : Option (Int32) :=
  (f_X10_isAbout a1 a2 I).bind fun r3 =>
  if r3 = 0 then
    some (-1000001)
  else
    (f_X10_in a3.toInt64 0 1).bind fun r17 =>
    if r17 = 0 then
      some (-1000002)
    else
      (f_X10_isBound a1 a2 I).bind fun r29 =>
      if r29 = 0 then
        some (-1)
      else
        if a3 = 0 then
          if inbB ((6 * a1) + a2) 84 = true then
            some (I 62 ((6 * a1) + a2).toNatClampNeg)
          else none
        else
          if inbB ((6 * a1) + a2) 84 = true then
            some (I 63 ((6 * a1) + a2).toNatClampNeg)
          else none
set_option maxRecDepth 100000 in
set_option maxHeartbeats 4000000 in
theorem c_X10_bound (Γ : GT) (ad : Nat → Nat) (a1 : Int32) (a2 : Int32) (a3 : Int32) (I : IT) (J : JT) (r : Int32) (h : f_X10_bound a1 a2 a3 I = some r) : CALL Γ mX10_bound (0, 0) [.ref (ad 55), .int a1, .int a2, .int a3] (DX ad) I J (QE (some (.int r)) (DX ad) I J) := by
  refine call_of' (by decide) (Nat.le_of_ble_eq_true rfl) (lv0 := [(0, .ref (ad 55)), (1, .int a1), (2, .int a2), (3, .int a3)]) rfl ?_
  unfold f_X10_bound at h
  refine wp_aload_n dX10_bound_0 0 rfl ?_
  refine wp_iload_n dX10_bound_1 1 rfl ?_
  refine wp_iload_n dX10_bound_2 2 rfl ?_
  obtain ⟨r3, h3, h⟩ := o_bind h
  refine wp_callvI (k := 55) (ci := 10) (c_X10_isAbout Γ ad a1 a2 I J r3 h3) dX10_bound_3 mlX10_274 mwX10_isAbout miX10_isAbout rfl rfl rfl rfl (Nat.le_of_ble_eq_true rfl) rfl (by decide) (by decide) ?_
  refine wp_if_ne 13 dX10_bound_6 rfl (fun c6 => ?_) (fun c6 => ?_)
  · replace h := o_neg h c6
    refine wp_iload_n dX10_bound_13 3 rfl ?_
    refine wp_i2l dX10_bound_14 ?_
    refine wp_lconst (v := 0) dX10_bound_15 (by decide) ?_
    refine wp_lconst (v := 1) dX10_bound_16 (by decide) ?_
    obtain ⟨r17, h17, h⟩ := o_bind h
    refine wp_callsI (c_X10_in Γ ad a3.toInt64 0 1 I J r17 h17) dX10_bound_17 mlX10_134 mwX10_in miX10_in rfl (Nat.le_of_ble_eq_true rfl) rfl (by decide) (by decide) ?_
    refine wp_if_ne 26 dX10_bound_20 rfl (fun c20 => ?_) (fun c20 => ?_)
    · replace h := o_neg h c20
      refine wp_aload_n dX10_bound_26 0 rfl ?_
      refine wp_iload_n dX10_bound_27 1 rfl ?_
      refine wp_iload_n dX10_bound_28 2 rfl ?_
      obtain ⟨r29, h29, h⟩ := o_bind h
      refine wp_callvI (k := 55) (ci := 10) (c_X10_isBound Γ ad a1 a2 I J r29 h29) dX10_bound_29 mlX10_278 mwX10_isBound miX10_isBound rfl rfl rfl rfl (Nat.le_of_ble_eq_true rfl) rfl (by decide) (by decide) ?_
      refine wp_if_ne 39 dX10_bound_32 rfl (fun c32 => ?_) (fun c32 => ?_)
      · replace h := o_neg h c32
        refine wp_iload_n dX10_bound_39 3 rfl ?_
        refine wp_if_ne 57 dX10_bound_40 rfl (fun c40 => ?_) (fun c40 => ?_)
        · replace h := o_neg h c40
          refine wp_aload_n dX10_bound_57 0 rfl ?_
          refine wp_getR (k := 55) (a' := ad 63) dX10_bound_58 flX10_38 rfl rfl rfl rfl rfl ?_
          refine wp_bipush (v := 6) dX10_bound_61 (by decide) ?_
          refine wp_iload_n dX10_bound_63 1 rfl ?_
          refine wp_imul dX10_bound_64 ?_
          refine wp_iload_n dX10_bound_65 2 rfl ?_
          refine wp_iadd dX10_bound_66 ?_
          obtain ⟨g67, h⟩ := o_grd h
          refine wp_iald (k := 63) dX10_bound_67 rfl rfl (inb_of g67) ?_
          obtain rfl := Option.some.inj h
          exact wp_ireturn (ty := .int) dX10_bound_68 rfl rfl ⟨rfl, rfl, rfl, rfl⟩
        · replace h := o_pos h c40
          refine wp_aload_n dX10_bound_43 0 rfl ?_
          refine wp_getR (k := 55) (a' := ad 62) dX10_bound_44 flX10_35 rfl rfl rfl rfl rfl ?_
          refine wp_bipush (v := 6) dX10_bound_47 (by decide) ?_
          refine wp_iload_n dX10_bound_49 1 rfl ?_
          refine wp_imul dX10_bound_50 ?_
          refine wp_iload_n dX10_bound_51 2 rfl ?_
          refine wp_iadd dX10_bound_52 ?_
          obtain ⟨g53, h⟩ := o_grd h
          refine wp_iald (k := 62) dX10_bound_53 rfl rfl (inb_of g53) ?_
          refine wp_goto 68 dX10_bound_54 rfl ?_
          obtain rfl := Option.some.inj h
          exact wp_ireturn (ty := .int) dX10_bound_68 rfl rfl ⟨rfl, rfl, rfl, rfl⟩
      · replace h := o_pos h c32
        refine wp_iconst (v := (-1)) dX10_bound_35 (by decide) ?_
        refine wp_goto 68 dX10_bound_36 rfl ?_
        obtain rfl := Option.some.inj h
        exact wp_ireturn (ty := .int) dX10_bound_68 rfl rfl ⟨rfl, rfl, rfl, rfl⟩
    · replace h := o_pos h c20
      refine wp_ldc (v := (-1000002)) dX10_bound_23 kcX10_143 ?_
      obtain rfl := Option.some.inj h
      exact wp_ireturn (ty := .int) dX10_bound_25 rfl rfl ⟨rfl, rfl, rfl, rfl⟩
  · replace h := o_pos h c6
    refine wp_ldcw (v := (-1000001)) dX10_bound_9 kcX10_264 ?_
    obtain rfl := Option.some.inj h
    exact wp_ireturn (ty := .int) dX10_bound_12 rfl rfl ⟨rfl, rfl, rfl, rfl⟩
def f_X10_lot (a1 : Int32) (a2 : Int32) (I : IT) : Option (Int32) :=
  (f_X10_isLot a1 I).bind fun r2 =>
  if r2 = 0 then
    some (-1000001)
  else
    if a2 = 0 then
      if inbB a1 6 = true then
        some (I 64 a1.toNatClampNeg)
      else none
    else
      if a2 = (1 : Int32) then
        if inbB a1 6 = true then
          some (I 65 a1.toNatClampNeg)
        else none
      else
        some (-1000002)
set_option maxRecDepth 100000 in
set_option maxHeartbeats 4000000 in
theorem c_X10_lot (Γ : GT) (ad : Nat → Nat) (a1 : Int32) (a2 : Int32) (I : IT) (J : JT) (r : Int32) (h : f_X10_lot a1 a2 I = some r) : CALL Γ mX10_lot (0, 0) [.ref (ad 55), .int a1, .int a2] (DX ad) I J (QE (some (.int r)) (DX ad) I J) := by
  refine call_of' (by decide) (Nat.le_of_ble_eq_true rfl) (lv0 := [(0, .ref (ad 55)), (1, .int a1), (2, .int a2)]) rfl ?_
  unfold f_X10_lot at h
  refine wp_aload_n dX10_lot_0 0 rfl ?_
  refine wp_iload_n dX10_lot_1 1 rfl ?_
  obtain ⟨r2, h2, h⟩ := o_bind h
  refine wp_callvI (k := 55) (ci := 10) (c_X10_isLot Γ ad a1 I J r2 h2) dX10_lot_2 mlX10_271 mwX10_isLot miX10_isLot rfl rfl rfl rfl (Nat.le_of_ble_eq_true rfl) rfl (by decide) (by decide) ?_
  refine wp_if_ne 12 dX10_lot_5 rfl (fun c5 => ?_) (fun c5 => ?_)
  · replace h := o_neg h c5
    refine wp_iload_n dX10_lot_12 2 rfl ?_
    refine wp_if_ne 25 dX10_lot_13 rfl (fun c13 => ?_) (fun c13 => ?_)
    · replace h := o_neg h c13
      refine wp_iload_n dX10_lot_25 2 rfl ?_
      refine wp_iconst (v := 1) dX10_lot_26 (by decide) ?_
      refine wp_icmp_ne 39 dX10_lot_27 rfl (fun c27 => ?_) (fun c27 => ?_)
      · replace h := o_neg h c27
        refine wp_ldc (v := (-1000002)) dX10_lot_39 kcX10_143 ?_
        obtain rfl := Option.some.inj h
        exact wp_ireturn (ty := .int) dX10_lot_41 rfl rfl ⟨rfl, rfl, rfl, rfl⟩
      · replace h := o_pos h c27
        refine wp_aload_n dX10_lot_30 0 rfl ?_
        refine wp_getR (k := 55) (a' := ad 65) dX10_lot_31 flX10_44 rfl rfl rfl rfl rfl ?_
        refine wp_iload_n dX10_lot_34 1 rfl ?_
        obtain ⟨g35, h⟩ := o_grd h
        refine wp_iald (k := 65) dX10_lot_35 rfl rfl (inb_of g35) ?_
        refine wp_goto 41 dX10_lot_36 rfl ?_
        obtain rfl := Option.some.inj h
        exact wp_ireturn (ty := .int) dX10_lot_41 rfl rfl ⟨rfl, rfl, rfl, rfl⟩
    · replace h := o_pos h c13
      refine wp_aload_n dX10_lot_16 0 rfl ?_
      refine wp_getR (k := 55) (a' := ad 64) dX10_lot_17 flX10_41 rfl rfl rfl rfl rfl ?_
      refine wp_iload_n dX10_lot_20 1 rfl ?_
      obtain ⟨g21, h⟩ := o_grd h
      refine wp_iald (k := 64) dX10_lot_21 rfl rfl (inb_of g21) ?_
      refine wp_goto 41 dX10_lot_22 rfl ?_
      obtain rfl := Option.some.inj h
      exact wp_ireturn (ty := .int) dX10_lot_41 rfl rfl ⟨rfl, rfl, rfl, rfl⟩
  · replace h := o_pos h c5
    refine wp_ldcw (v := (-1000001)) dX10_lot_8 kcX10_264 ?_
    obtain rfl := Option.some.inj h
    exact wp_ireturn (ty := .int) dX10_lot_11 rfl rfl ⟨rfl, rfl, rfl, rfl⟩
def f_X10_has (a0 : Int32) (a1 : Int32) : Option (Int32) :=
  if ((a0 >>> (a1 &&& 31)) &&& 1) = (1 : Int32) then
    some 1
  else
    some 0
set_option maxRecDepth 100000 in
set_option maxHeartbeats 4000000 in
theorem c_X10_has (Γ : GT) (ad : Nat → Nat) (a0 : Int32) (a1 : Int32) (I : IT) (J : JT) (r : Int32) (h : f_X10_has a0 a1 = some r) : CALL Γ mX10_has (0, 0) [.int a0, .int a1] (DX ad) I J (QE (some (.int r)) (DX ad) I J) := by
  refine call_of' (by decide) (Nat.le_of_ble_eq_true rfl) (lv0 := [(0, .int a0), (1, .int a1)]) rfl ?_
  unfold f_X10_has at h
  refine wp_iload_n dX10_has_0 0 rfl ?_
  refine wp_iload_n dX10_has_1 1 rfl ?_
  refine wp_ishr dX10_has_2 ?_
  refine wp_iconst (v := 1) dX10_has_3 (by decide) ?_
  refine wp_iand dX10_has_4 ?_
  refine wp_iconst (v := 1) dX10_has_5 (by decide) ?_
  refine wp_icmp_ne 13 dX10_has_6 rfl (fun c6 => ?_) (fun c6 => ?_)
  · replace h := o_neg h c6
    refine wp_iconst (v := 0) dX10_has_13 (by decide) ?_
    obtain rfl := Option.some.inj h
    exact wp_ireturn (ty := .boolean) dX10_has_14 rfl rfl ⟨rfl, rfl, rfl, rfl⟩
  · replace h := o_pos h c6
    refine wp_iconst (v := 1) dX10_has_9 (by decide) ?_
    refine wp_goto 14 dX10_has_10 rfl ?_
    obtain rfl := Option.some.inj h
    exact wp_ireturn (ty := .boolean) dX10_has_14 rfl rfl ⟨rfl, rfl, rfl, rfl⟩
def f_X10_hold (a1 : Int32) (a2 : Int32) (I : IT) : Option (Int32 × IT) :=
  (f_X10_isPerson a1 I).bind fun r2 =>
  if r2 = 0 then
    some ((-1000001), I)
  else
    (f_X10_isPerson a2 I).bind fun r10 =>
    if r10 = 0 then
      some ((-1000001), I)
    else
      if a1 = a2 then
        some ((-1000001), I)
      else
        (f_X10_sortOf a1 I).bind fun r27 =>
        (f_X10_sortOf a2 I).bind fun r32 =>
        if r27 = r32 then
          some ((-1000003), I)
        else
          if inbB a1 14 = true then
            (f_X10_has (I 61 a1.toNatClampNeg) a2).bind fun r45 =>
            if r45 = 0 then
              (f_X10_free a1 I).bind fun r53 =>
              if r53 = 0 then
                some ((-1000003), I)
              else
                (f_X10_free a2 I).bind fun r61 =>
                if r61 = 0 then
                  some ((-1000003), I)
                else
                  if inbB a1 14 = true then
                    if inbB a1 14 = true then
                      if inbB a2 14 = true then
                        if inbB a2 14 = true then
                          (some (upI (upI I 61 a1.toNatClampNeg ((I 61 a1.toNatClampNeg) ||| ((1 : Int32) <<< (a2 &&& 31)))) 61 a2.toNatClampNeg (((upI I 61 a1.toNatClampNeg ((I 61 a1.toNatClampNeg) ||| ((1 : Int32) <<< (a2 &&& 31)))) 61 a2.toNatClampNeg) ||| ((1 : Int32) <<< (a1 &&& 31))))).bind fun i94 =>
                          some (1, i94)
                        else none
                      else none
                    else none
                  else none
            else
              some ((-1000003), I)
          else none
set_option maxRecDepth 100000 in
set_option maxHeartbeats 4000000 in
theorem c_X10_hold (Γ : GT) (ad : Nat → Nat) (a1 : Int32) (a2 : Int32) (I : IT) (J : JT) (r : Int32 × IT) (h : f_X10_hold a1 a2 I = some r) : CALL Γ mX10_hold (0, 0) [.ref (ad 55), .int a1, .int a2] (DX ad) I J (QE (some (.int r.1)) (DX ad) r.2 J) := by
  refine call_of' (by decide) (Nat.le_of_ble_eq_true rfl) (lv0 := [(0, .ref (ad 55)), (1, .int a1), (2, .int a2)]) rfl ?_
  unfold f_X10_hold at h
  refine wp_aload_n dX10_hold_0 0 rfl ?_
  refine wp_iload_n dX10_hold_1 1 rfl ?_
  obtain ⟨r2, h2, h⟩ := o_bind h
  refine wp_callvI (k := 55) (ci := 10) (c_X10_isPerson Γ ad a1 I J r2 h2) dX10_hold_2 mlX10_261 mwX10_isPerson miX10_isPerson rfl rfl rfl rfl (Nat.le_of_ble_eq_true rfl) rfl (by decide) (by decide) ?_
  refine wp_if_eq 21 dX10_hold_5 rfl (fun c5 => ?_) (fun c5 => ?_)
  · replace h := o_pos h c5
    refine wp_ldcw (v := (-1000001)) dX10_hold_21 kcX10_264 ?_
    obtain rfl := Option.some.inj h
    exact wp_ireturn (ty := .int) dX10_hold_24 rfl rfl ⟨rfl, rfl, rfl, rfl⟩
  · replace h := o_neg h c5
    refine wp_aload_n dX10_hold_8 0 rfl ?_
    refine wp_iload_n dX10_hold_9 2 rfl ?_
    obtain ⟨r10, h10, h⟩ := o_bind h
    refine wp_callvI (k := 55) (ci := 10) (c_X10_isPerson Γ ad a2 I J r10 h10) dX10_hold_10 mlX10_261 mwX10_isPerson miX10_isPerson rfl rfl rfl rfl (Nat.le_of_ble_eq_true rfl) rfl (by decide) (by decide) ?_
    refine wp_if_eq 21 dX10_hold_13 rfl (fun c13 => ?_) (fun c13 => ?_)
    · replace h := o_pos h c13
      refine wp_ldcw (v := (-1000001)) dX10_hold_21 kcX10_264 ?_
      obtain rfl := Option.some.inj h
      exact wp_ireturn (ty := .int) dX10_hold_24 rfl rfl ⟨rfl, rfl, rfl, rfl⟩
    · replace h := o_neg h c13
      refine wp_iload_n dX10_hold_16 1 rfl ?_
      refine wp_iload_n dX10_hold_17 2 rfl ?_
      refine wp_icmp_ne 25 dX10_hold_18 rfl (fun c18 => ?_) (fun c18 => ?_)
      · replace h := o_neg h c18
        refine wp_aload_n dX10_hold_25 0 rfl ?_
        refine wp_iload_n dX10_hold_26 1 rfl ?_
        obtain ⟨r27, h27, h⟩ := o_bind h
        refine wp_callvI (k := 55) (ci := 10) (c_X10_sortOf Γ ad a1 I J r27 h27) dX10_hold_27 mlX10_245 mwX10_sortOf miX10_sortOf rfl rfl rfl rfl (Nat.le_of_ble_eq_true rfl) rfl (by decide) (by decide) ?_
        refine wp_aload_n dX10_hold_30 0 rfl ?_
        refine wp_iload_n dX10_hold_31 2 rfl ?_
        obtain ⟨r32, h32, h⟩ := o_bind h
        refine wp_callvI (k := 55) (ci := 10) (c_X10_sortOf Γ ad a2 I J r32 h32) dX10_hold_32 mlX10_245 mwX10_sortOf miX10_sortOf rfl rfl rfl rfl (Nat.le_of_ble_eq_true rfl) rfl (by decide) (by decide) ?_
        refine wp_icmp_eq 67 dX10_hold_35 rfl (fun c35 => ?_) (fun c35 => ?_)
        · replace h := o_pos h c35
          refine wp_ldcw (v := (-1000003)) dX10_hold_67 kcX10_284 ?_
          obtain rfl := Option.some.inj h
          exact wp_ireturn (ty := .int) dX10_hold_70 rfl rfl ⟨rfl, rfl, rfl, rfl⟩
        · replace h := o_neg h c35
          refine wp_aload_n dX10_hold_38 0 rfl ?_
          refine wp_getR (k := 55) (a' := ad 61) dX10_hold_39 flX10_32 rfl rfl rfl rfl rfl ?_
          refine wp_iload_n dX10_hold_42 1 rfl ?_
          obtain ⟨g43, h⟩ := o_grd h
          refine wp_iald (k := 61) dX10_hold_43 rfl rfl (inb_of g43) ?_
          refine wp_iload_n dX10_hold_44 2 rfl ?_
          obtain ⟨r45, h45, h⟩ := o_bind h
          refine wp_callsI (c_X10_has Γ ad (I 61 a1.toNatClampNeg) a2 I J r45 h45) dX10_hold_45 mlX10_281 mwX10_has miX10_has rfl (Nat.le_of_ble_eq_true rfl) rfl (by decide) (by decide) ?_
          refine wp_if_ne 67 dX10_hold_48 rfl (fun c48 => ?_) (fun c48 => ?_)
          · replace h := o_neg h c48
            refine wp_ldcw (v := (-1000003)) dX10_hold_67 kcX10_284 ?_
            obtain rfl := Option.some.inj h
            exact wp_ireturn (ty := .int) dX10_hold_70 rfl rfl ⟨rfl, rfl, rfl, rfl⟩
          · replace h := o_pos h c48
            refine wp_aload_n dX10_hold_51 0 rfl ?_
            refine wp_iload_n dX10_hold_52 1 rfl ?_
            obtain ⟨r53, h53, h⟩ := o_bind h
            refine wp_callvI (k := 55) (ci := 10) (c_X10_free Γ ad a1 I J r53 h53) dX10_hold_53 mlX10_265 mwX10_free miX10_free rfl rfl rfl rfl (Nat.le_of_ble_eq_true rfl) rfl (by decide) (by decide) ?_
            refine wp_if_eq 67 dX10_hold_56 rfl (fun c56 => ?_) (fun c56 => ?_)
            · replace h := o_pos h c56
              refine wp_ldcw (v := (-1000003)) dX10_hold_67 kcX10_284 ?_
              obtain rfl := Option.some.inj h
              exact wp_ireturn (ty := .int) dX10_hold_70 rfl rfl ⟨rfl, rfl, rfl, rfl⟩
            · replace h := o_neg h c56
              refine wp_aload_n dX10_hold_59 0 rfl ?_
              refine wp_iload_n dX10_hold_60 2 rfl ?_
              obtain ⟨r61, h61, h⟩ := o_bind h
              refine wp_callvI (k := 55) (ci := 10) (c_X10_free Γ ad a2 I J r61 h61) dX10_hold_61 mlX10_265 mwX10_free miX10_free rfl rfl rfl rfl (Nat.le_of_ble_eq_true rfl) rfl (by decide) (by decide) ?_
              refine wp_if_ne 71 dX10_hold_64 rfl (fun c64 => ?_) (fun c64 => ?_)
              · replace h := o_neg h c64
                refine wp_aload_n dX10_hold_71 0 rfl ?_
                refine wp_getR (k := 55) (a' := ad 61) dX10_hold_72 flX10_32 rfl rfl rfl rfl rfl ?_
                refine wp_iload_n dX10_hold_75 1 rfl ?_
                refine wp_dup2 dX10_hold_76 rfl rfl ?_
                obtain ⟨g77, h⟩ := o_grd h
                refine wp_iald (k := 61) dX10_hold_77 rfl rfl (inb_of g77) ?_
                refine wp_iconst (v := 1) dX10_hold_78 (by decide) ?_
                refine wp_iload_n dX10_hold_79 2 rfl ?_
                refine wp_ishl dX10_hold_80 ?_
                refine wp_ior dX10_hold_81 ?_
                obtain ⟨g82, h⟩ := o_grd h
                refine wp_iast (k := 61) dX10_hold_82 rfl rfl (inb_of g82) ?_
                refine wp_aload_n dX10_hold_83 0 rfl ?_
                refine wp_getR (k := 55) (a' := ad 61) dX10_hold_84 flX10_32 rfl rfl rfl rfl rfl ?_
                refine wp_iload_n dX10_hold_87 2 rfl ?_
                refine wp_dup2 dX10_hold_88 rfl rfl ?_
                obtain ⟨g89, h⟩ := o_grd h
                refine wp_iald (k := 61) dX10_hold_89 rfl rfl (inb_of g89) ?_
                refine wp_iconst (v := 1) dX10_hold_90 (by decide) ?_
                refine wp_iload_n dX10_hold_91 1 rfl ?_
                refine wp_ishl dX10_hold_92 ?_
                refine wp_ior dX10_hold_93 ?_
                obtain ⟨g94, h⟩ := o_grd h
                obtain ⟨i94, e94, h⟩ := o_bind h
                refine wp_iast (k := 61) dX10_hold_94 rfl rfl (inb_of g94) ?_
                refine wp_stI (Option.some.inj e94) ?_
                refine wp_iconst (v := 1) dX10_hold_95 (by decide) ?_
                obtain rfl := Option.some.inj h
                exact wp_ireturn (ty := .int) dX10_hold_96 rfl rfl ⟨rfl, rfl, rfl, rfl⟩
              · replace h := o_pos h c64
                refine wp_ldcw (v := (-1000003)) dX10_hold_67 kcX10_284 ?_
                obtain rfl := Option.some.inj h
                exact wp_ireturn (ty := .int) dX10_hold_70 rfl rfl ⟨rfl, rfl, rfl, rfl⟩
      · replace h := o_pos h c18
        refine wp_ldcw (v := (-1000001)) dX10_hold_21 kcX10_264 ?_
        obtain rfl := Option.some.inj h
        exact wp_ireturn (ty := .int) dX10_hold_24 rfl rfl ⟨rfl, rfl, rfl, rfl⟩
def f_X10_loose (a1 : Int32) (a2 : Int32) (I : IT) : Option (Int32 × IT) :=
  (f_X10_isPerson a1 I).bind fun r2 =>
  if r2 = 0 then
    some ((-1000001), I)
  else
    (f_X10_isPerson a2 I).bind fun r10 =>
    if r10 = 0 then
      some ((-1000001), I)
    else
      if a1 = a2 then
        some ((-1000001), I)
      else
        if inbB a1 14 = true then
          (f_X10_has (I 61 a1.toNatClampNeg) a2).bind fun r32 =>
          if r32 = 0 then
            some ((-1000003), I)
          else
            if inbB a1 14 = true then
              if inbB a1 14 = true then
                if inbB a2 14 = true then
                  if inbB a2 14 = true then
                    (some (upI (upI I 61 a1.toNatClampNeg ((I 61 a1.toNatClampNeg) &&& (((1 : Int32) <<< (a2 &&& 31)) ^^^ (-1)))) 61 a2.toNatClampNeg (((upI I 61 a1.toNatClampNeg ((I 61 a1.toNatClampNeg) &&& (((1 : Int32) <<< (a2 &&& 31)) ^^^ (-1)))) 61 a2.toNatClampNeg) &&& (((1 : Int32) <<< (a1 &&& 31)) ^^^ (-1))))).bind fun i69 =>
                    some (1, i69)
                  else none
                else none
              else none
            else none
        else none
set_option maxRecDepth 100000 in
set_option maxHeartbeats 4000000 in
theorem c_X10_loose (Γ : GT) (ad : Nat → Nat) (a1 : Int32) (a2 : Int32) (I : IT) (J : JT) (r : Int32 × IT) (h : f_X10_loose a1 a2 I = some r) : CALL Γ mX10_loose (0, 0) [.ref (ad 55), .int a1, .int a2] (DX ad) I J (QE (some (.int r.1)) (DX ad) r.2 J) := by
  refine call_of' (by decide) (Nat.le_of_ble_eq_true rfl) (lv0 := [(0, .ref (ad 55)), (1, .int a1), (2, .int a2)]) rfl ?_
  unfold f_X10_loose at h
  refine wp_aload_n dX10_loose_0 0 rfl ?_
  refine wp_iload_n dX10_loose_1 1 rfl ?_
  obtain ⟨r2, h2, h⟩ := o_bind h
  refine wp_callvI (k := 55) (ci := 10) (c_X10_isPerson Γ ad a1 I J r2 h2) dX10_loose_2 mlX10_261 mwX10_isPerson miX10_isPerson rfl rfl rfl rfl (Nat.le_of_ble_eq_true rfl) rfl (by decide) (by decide) ?_
  refine wp_if_eq 21 dX10_loose_5 rfl (fun c5 => ?_) (fun c5 => ?_)
  · replace h := o_pos h c5
    refine wp_ldcw (v := (-1000001)) dX10_loose_21 kcX10_264 ?_
    obtain rfl := Option.some.inj h
    exact wp_ireturn (ty := .int) dX10_loose_24 rfl rfl ⟨rfl, rfl, rfl, rfl⟩
  · replace h := o_neg h c5
    refine wp_aload_n dX10_loose_8 0 rfl ?_
    refine wp_iload_n dX10_loose_9 2 rfl ?_
    obtain ⟨r10, h10, h⟩ := o_bind h
    refine wp_callvI (k := 55) (ci := 10) (c_X10_isPerson Γ ad a2 I J r10 h10) dX10_loose_10 mlX10_261 mwX10_isPerson miX10_isPerson rfl rfl rfl rfl (Nat.le_of_ble_eq_true rfl) rfl (by decide) (by decide) ?_
    refine wp_if_eq 21 dX10_loose_13 rfl (fun c13 => ?_) (fun c13 => ?_)
    · replace h := o_pos h c13
      refine wp_ldcw (v := (-1000001)) dX10_loose_21 kcX10_264 ?_
      obtain rfl := Option.some.inj h
      exact wp_ireturn (ty := .int) dX10_loose_24 rfl rfl ⟨rfl, rfl, rfl, rfl⟩
    · replace h := o_neg h c13
      refine wp_iload_n dX10_loose_16 1 rfl ?_
      refine wp_iload_n dX10_loose_17 2 rfl ?_
      refine wp_icmp_ne 25 dX10_loose_18 rfl (fun c18 => ?_) (fun c18 => ?_)
      · replace h := o_neg h c18
        refine wp_aload_n dX10_loose_25 0 rfl ?_
        refine wp_getR (k := 55) (a' := ad 61) dX10_loose_26 flX10_32 rfl rfl rfl rfl rfl ?_
        refine wp_iload_n dX10_loose_29 1 rfl ?_
        obtain ⟨g30, h⟩ := o_grd h
        refine wp_iald (k := 61) dX10_loose_30 rfl rfl (inb_of g30) ?_
        refine wp_iload_n dX10_loose_31 2 rfl ?_
        obtain ⟨r32, h32, h⟩ := o_bind h
        refine wp_callsI (c_X10_has Γ ad (I 61 a1.toNatClampNeg) a2 I J r32 h32) dX10_loose_32 mlX10_281 mwX10_has miX10_has rfl (Nat.le_of_ble_eq_true rfl) rfl (by decide) (by decide) ?_
        refine wp_if_ne 42 dX10_loose_35 rfl (fun c35 => ?_) (fun c35 => ?_)
        · replace h := o_neg h c35
          refine wp_aload_n dX10_loose_42 0 rfl ?_
          refine wp_getR (k := 55) (a' := ad 61) dX10_loose_43 flX10_32 rfl rfl rfl rfl rfl ?_
          refine wp_iload_n dX10_loose_46 1 rfl ?_
          refine wp_dup2 dX10_loose_47 rfl rfl ?_
          obtain ⟨g48, h⟩ := o_grd h
          refine wp_iald (k := 61) dX10_loose_48 rfl rfl (inb_of g48) ?_
          refine wp_iconst (v := 1) dX10_loose_49 (by decide) ?_
          refine wp_iload_n dX10_loose_50 2 rfl ?_
          refine wp_ishl dX10_loose_51 ?_
          refine wp_iconst (v := (-1)) dX10_loose_52 (by decide) ?_
          refine wp_ixor dX10_loose_53 ?_
          refine wp_iand dX10_loose_54 ?_
          obtain ⟨g55, h⟩ := o_grd h
          refine wp_iast (k := 61) dX10_loose_55 rfl rfl (inb_of g55) ?_
          refine wp_aload_n dX10_loose_56 0 rfl ?_
          refine wp_getR (k := 55) (a' := ad 61) dX10_loose_57 flX10_32 rfl rfl rfl rfl rfl ?_
          refine wp_iload_n dX10_loose_60 2 rfl ?_
          refine wp_dup2 dX10_loose_61 rfl rfl ?_
          obtain ⟨g62, h⟩ := o_grd h
          refine wp_iald (k := 61) dX10_loose_62 rfl rfl (inb_of g62) ?_
          refine wp_iconst (v := 1) dX10_loose_63 (by decide) ?_
          refine wp_iload_n dX10_loose_64 1 rfl ?_
          refine wp_ishl dX10_loose_65 ?_
          refine wp_iconst (v := (-1)) dX10_loose_66 (by decide) ?_
          refine wp_ixor dX10_loose_67 ?_
          refine wp_iand dX10_loose_68 ?_
          obtain ⟨g69, h⟩ := o_grd h
          obtain ⟨i69, e69, h⟩ := o_bind h
          refine wp_iast (k := 61) dX10_loose_69 rfl rfl (inb_of g69) ?_
          refine wp_stI (Option.some.inj e69) ?_
          refine wp_iconst (v := 1) dX10_loose_70 (by decide) ?_
          obtain rfl := Option.some.inj h
          exact wp_ireturn (ty := .int) dX10_loose_71 rfl rfl ⟨rfl, rfl, rfl, rfl⟩
        · replace h := o_pos h c35
          refine wp_ldcw (v := (-1000003)) dX10_loose_38 kcX10_284 ?_
          obtain rfl := Option.some.inj h
          exact wp_ireturn (ty := .int) dX10_loose_41 rfl rfl ⟨rfl, rfl, rfl, rfl⟩
      · replace h := o_pos h c18
        refine wp_ldcw (v := (-1000001)) dX10_loose_21 kcX10_264 ?_
        obtain rfl := Option.some.inj h
        exact wp_ireturn (ty := .int) dX10_loose_24 rfl rfl ⟨rfl, rfl, rfl, rfl⟩
