/-! lifted: X10_takeClause -/
def f_X10_takeClause (I : IT) (J : JT) : Option (Int32 × IT × JT) :=
  (f_X10_readWord I J).bind fun r1 =>
  (f_X10_clauseOf r1.2).bind fun r5 =>
  if r5 < 0 then
    if 0 ≤ r5 then
      (f_X10_fails 3 (r1.1 55 21) r1.1).bind fun r35 =>
      some (r35.1, r35.2, r1.2)
    else
      (f_X10_fails 1 (r1.1 55 21) r1.1).bind fun r35 =>
      some (r35.1, r35.2, r1.2)
  else
    (f_X10_isFull r5 r1.1).bind fun r15 =>
    if r15 = 0 then
      if r5 = 0 then
        if 0 < ((r1.1 55 27) + (r1.1 55 28)) then
          (f_X10_fails 4 (r1.1 55 21) r1.1).bind fun r73 =>
          some (r73.1, r73.2, r1.2)
        else
          if r5 = (1 : Int32) then
            if (r1.1 55 28) ≤ 0 then
              if r5 = 0 then
                (f_X10_takeSeller (upI r1.1 55 21 (r1.1 55 23))).bind fun r121 =>
                if r121.1 = 0 then
                  (f_X10_here r121.2).bind fun r184 =>
                  if r184.1 = (59 : Int32) then
                    some (r121.1, upI r184.2 55 21 ((r184.2 55 21) + 1), r1.2)
                  else
                    (f_X10_fails 1 (r184.2 55 21) r184.2).bind fun r198 =>
                    some (r198.1, r198.2, r1.2)
                else
                  some (r121.1, upI r121.2 55 21 ((r121.2 55 21) + 1), r1.2)
              else
                if r5 = 1 then
                  (f_X10_takeBuyer (upI r1.1 55 21 (r1.1 55 23))).bind fun r129 =>
                  if r129.1 = 0 then
                    (f_X10_here r129.2).bind fun r184 =>
                    if r184.1 = (59 : Int32) then
                      some (r129.1, upI r184.2 55 21 ((r184.2 55 21) + 1), r1.2)
                    else
                      (f_X10_fails 1 (r184.2 55 21) r184.2).bind fun r198 =>
                      some (r198.1, r198.2, r1.2)
                  else
                    some (r129.1, upI r129.2 55 21 ((r129.2 55 21) + 1), r1.2)
                else
                  if r5 = 2 then
                    (f_X10_takeBroker (upI r1.1 55 21 (r1.1 55 23))).bind fun r137 =>
                    if r137.1 = 0 then
                      (f_X10_here r137.2).bind fun r184 =>
                      if r184.1 = (59 : Int32) then
                        some (r137.1, upI r184.2 55 21 ((r184.2 55 21) + 1), r1.2)
                      else
                        (f_X10_fails 1 (r184.2 55 21) r184.2).bind fun r198 =>
                        some (r198.1, r198.2, r1.2)
                    else
                      some (r137.1, upI r137.2 55 21 ((r137.2 55 21) + 1), r1.2)
                  else
                    if r5 = 3 then
                      (f_X10_takeNumber 1 99 (upI r1.1 55 21 (r1.1 55 23))).bind fun r148 =>
                      if r148.1 = 0 then
                        (f_X10_here (upI r148.2 55 34 (r148.2 55 24))).bind fun r184 =>
                        if r184.1 = (59 : Int32) then
                          some (r148.1, upI r184.2 55 21 ((r184.2 55 21) + 1), r1.2)
                        else
                          (f_X10_fails 1 (r184.2 55 21) r184.2).bind fun r198 =>
                          some (r198.1, r198.2, r1.2)
                      else
                        some (r148.1, upI (upI r148.2 55 34 (r148.2 55 24)) 55 21 (((upI r148.2 55 34 (r148.2 55 24)) 55 21) + 1), r1.2)
                    else
                      (f_X10_takeNumber 0 99 (upI r1.1 55 21 (r1.1 55 23))).bind fun r167 =>
                      if r167.1 = 0 then
                        (f_X10_here (upI r167.2 55 35 (r167.2 55 24))).bind fun r184 =>
                        if r184.1 = (59 : Int32) then
                          some (r167.1, upI r184.2 55 21 ((r184.2 55 21) + 1), r1.2)
                        else
                          (f_X10_fails 1 (r184.2 55 21) r184.2).bind fun r198 =>
                          some (r198.1, r198.2, r1.2)
                      else
                        some (r167.1, upI (upI r167.2 55 35 (r167.2 55 24)) 55 21 (((upI r167.2 55 35 (r167.2 55 24)) 55 21) + 1), r1.2)
            else
              (f_X10_fails 4 (r1.1 55 21) r1.1).bind fun r73 =>
              some (r73.1, r73.2, r1.2)
          else
            if r5 = 0 then
              (f_X10_takeSeller (upI r1.1 55 21 (r1.1 55 23))).bind fun r121 =>
              if r121.1 = 0 then
                (f_X10_here r121.2).bind fun r184 =>
                if r184.1 = (59 : Int32) then
                  some (r121.1, upI r184.2 55 21 ((r184.2 55 21) + 1), r1.2)
                else
                  (f_X10_fails 1 (r184.2 55 21) r184.2).bind fun r198 =>
                  some (r198.1, r198.2, r1.2)
              else
                some (r121.1, upI r121.2 55 21 ((r121.2 55 21) + 1), r1.2)
            else
              if r5 = 1 then
                (f_X10_takeBuyer (upI r1.1 55 21 (r1.1 55 23))).bind fun r129 =>
                if r129.1 = 0 then
                  (f_X10_here r129.2).bind fun r184 =>
                  if r184.1 = (59 : Int32) then
                    some (r129.1, upI r184.2 55 21 ((r184.2 55 21) + 1), r1.2)
                  else
                    (f_X10_fails 1 (r184.2 55 21) r184.2).bind fun r198 =>
                    some (r198.1, r198.2, r1.2)
                else
                  some (r129.1, upI r129.2 55 21 ((r129.2 55 21) + 1), r1.2)
              else
                if r5 = 2 then
                  (f_X10_takeBroker (upI r1.1 55 21 (r1.1 55 23))).bind fun r137 =>
                  if r137.1 = 0 then
                    (f_X10_here r137.2).bind fun r184 =>
                    if r184.1 = (59 : Int32) then
                      some (r137.1, upI r184.2 55 21 ((r184.2 55 21) + 1), r1.2)
                    else
                      (f_X10_fails 1 (r184.2 55 21) r184.2).bind fun r198 =>
                      some (r198.1, r198.2, r1.2)
                  else
                    some (r137.1, upI r137.2 55 21 ((r137.2 55 21) + 1), r1.2)
                else
                  if r5 = 3 then
                    (f_X10_takeNumber 1 99 (upI r1.1 55 21 (r1.1 55 23))).bind fun r148 =>
                    if r148.1 = 0 then
                      (f_X10_here (upI r148.2 55 34 (r148.2 55 24))).bind fun r184 =>
                      if r184.1 = (59 : Int32) then
                        some (r148.1, upI r184.2 55 21 ((r184.2 55 21) + 1), r1.2)
                      else
                        (f_X10_fails 1 (r184.2 55 21) r184.2).bind fun r198 =>
                        some (r198.1, r198.2, r1.2)
                    else
                      some (r148.1, upI (upI r148.2 55 34 (r148.2 55 24)) 55 21 (((upI r148.2 55 34 (r148.2 55 24)) 55 21) + 1), r1.2)
                  else
                    (f_X10_takeNumber 0 99 (upI r1.1 55 21 (r1.1 55 23))).bind fun r167 =>
                    if r167.1 = 0 then
                      (f_X10_here (upI r167.2 55 35 (r167.2 55 24))).bind fun r184 =>
                      if r184.1 = (59 : Int32) then
                        some (r167.1, upI r184.2 55 21 ((r184.2 55 21) + 1), r1.2)
                      else
                        (f_X10_fails 1 (r184.2 55 21) r184.2).bind fun r198 =>
                        some (r198.1, r198.2, r1.2)
                    else
                      some (r167.1, upI (upI r167.2 55 35 (r167.2 55 24)) 55 21 (((upI r167.2 55 35 (r167.2 55 24)) 55 21) + 1), r1.2)
      else
        if r5 = (1 : Int32) then
          if (r1.1 55 28) ≤ 0 then
            if r5 = 0 then
              (f_X10_takeSeller (upI r1.1 55 21 (r1.1 55 23))).bind fun r121 =>
              if r121.1 = 0 then
                (f_X10_here r121.2).bind fun r184 =>
                if r184.1 = (59 : Int32) then
                  some (r121.1, upI r184.2 55 21 ((r184.2 55 21) + 1), r1.2)
                else
                  (f_X10_fails 1 (r184.2 55 21) r184.2).bind fun r198 =>
                  some (r198.1, r198.2, r1.2)
              else
                some (r121.1, upI r121.2 55 21 ((r121.2 55 21) + 1), r1.2)
            else
              if r5 = 1 then
                (f_X10_takeBuyer (upI r1.1 55 21 (r1.1 55 23))).bind fun r129 =>
                if r129.1 = 0 then
                  (f_X10_here r129.2).bind fun r184 =>
                  if r184.1 = (59 : Int32) then
                    some (r129.1, upI r184.2 55 21 ((r184.2 55 21) + 1), r1.2)
                  else
                    (f_X10_fails 1 (r184.2 55 21) r184.2).bind fun r198 =>
                    some (r198.1, r198.2, r1.2)
                else
                  some (r129.1, upI r129.2 55 21 ((r129.2 55 21) + 1), r1.2)
              else
                if r5 = 2 then
                  (f_X10_takeBroker (upI r1.1 55 21 (r1.1 55 23))).bind fun r137 =>
                  if r137.1 = 0 then
                    (f_X10_here r137.2).bind fun r184 =>
                    if r184.1 = (59 : Int32) then
                      some (r137.1, upI r184.2 55 21 ((r184.2 55 21) + 1), r1.2)
                    else
                      (f_X10_fails 1 (r184.2 55 21) r184.2).bind fun r198 =>
                      some (r198.1, r198.2, r1.2)
                  else
                    some (r137.1, upI r137.2 55 21 ((r137.2 55 21) + 1), r1.2)
                else
                  if r5 = 3 then
                    (f_X10_takeNumber 1 99 (upI r1.1 55 21 (r1.1 55 23))).bind fun r148 =>
                    if r148.1 = 0 then
                      (f_X10_here (upI r148.2 55 34 (r148.2 55 24))).bind fun r184 =>
                      if r184.1 = (59 : Int32) then
                        some (r148.1, upI r184.2 55 21 ((r184.2 55 21) + 1), r1.2)
                      else
                        (f_X10_fails 1 (r184.2 55 21) r184.2).bind fun r198 =>
                        some (r198.1, r198.2, r1.2)
                    else
                      some (r148.1, upI (upI r148.2 55 34 (r148.2 55 24)) 55 21 (((upI r148.2 55 34 (r148.2 55 24)) 55 21) + 1), r1.2)
                  else
                    (f_X10_takeNumber 0 99 (upI r1.1 55 21 (r1.1 55 23))).bind fun r167 =>
                    if r167.1 = 0 then
                      (f_X10_here (upI r167.2 55 35 (r167.2 55 24))).bind fun r184 =>
                      if r184.1 = (59 : Int32) then
                        some (r167.1, upI r184.2 55 21 ((r184.2 55 21) + 1), r1.2)
                      else
                        (f_X10_fails 1 (r184.2 55 21) r184.2).bind fun r198 =>
                        some (r198.1, r198.2, r1.2)
                    else
                      some (r167.1, upI (upI r167.2 55 35 (r167.2 55 24)) 55 21 (((upI r167.2 55 35 (r167.2 55 24)) 55 21) + 1), r1.2)
          else
            (f_X10_fails 4 (r1.1 55 21) r1.1).bind fun r73 =>
            some (r73.1, r73.2, r1.2)
        else
          if r5 = 0 then
            (f_X10_takeSeller (upI r1.1 55 21 (r1.1 55 23))).bind fun r121 =>
            if r121.1 = 0 then
              (f_X10_here r121.2).bind fun r184 =>
              if r184.1 = (59 : Int32) then
                some (r121.1, upI r184.2 55 21 ((r184.2 55 21) + 1), r1.2)
              else
                (f_X10_fails 1 (r184.2 55 21) r184.2).bind fun r198 =>
                some (r198.1, r198.2, r1.2)
            else
              some (r121.1, upI r121.2 55 21 ((r121.2 55 21) + 1), r1.2)
          else
            if r5 = 1 then
              (f_X10_takeBuyer (upI r1.1 55 21 (r1.1 55 23))).bind fun r129 =>
              if r129.1 = 0 then
                (f_X10_here r129.2).bind fun r184 =>
                if r184.1 = (59 : Int32) then
                  some (r129.1, upI r184.2 55 21 ((r184.2 55 21) + 1), r1.2)
                else
                  (f_X10_fails 1 (r184.2 55 21) r184.2).bind fun r198 =>
                  some (r198.1, r198.2, r1.2)
              else
                some (r129.1, upI r129.2 55 21 ((r129.2 55 21) + 1), r1.2)
            else
              if r5 = 2 then
                (f_X10_takeBroker (upI r1.1 55 21 (r1.1 55 23))).bind fun r137 =>
                if r137.1 = 0 then
                  (f_X10_here r137.2).bind fun r184 =>
                  if r184.1 = (59 : Int32) then
                    some (r137.1, upI r184.2 55 21 ((r184.2 55 21) + 1), r1.2)
                  else
                    (f_X10_fails 1 (r184.2 55 21) r184.2).bind fun r198 =>
                    some (r198.1, r198.2, r1.2)
                else
                  some (r137.1, upI r137.2 55 21 ((r137.2 55 21) + 1), r1.2)
              else
                if r5 = 3 then
                  (f_X10_takeNumber 1 99 (upI r1.1 55 21 (r1.1 55 23))).bind fun r148 =>
                  if r148.1 = 0 then
                    (f_X10_here (upI r148.2 55 34 (r148.2 55 24))).bind fun r184 =>
                    if r184.1 = (59 : Int32) then
                      some (r148.1, upI r184.2 55 21 ((r184.2 55 21) + 1), r1.2)
                    else
                      (f_X10_fails 1 (r184.2 55 21) r184.2).bind fun r198 =>
                      some (r198.1, r198.2, r1.2)
                  else
                    some (r148.1, upI (upI r148.2 55 34 (r148.2 55 24)) 55 21 (((upI r148.2 55 34 (r148.2 55 24)) 55 21) + 1), r1.2)
                else
                  (f_X10_takeNumber 0 99 (upI r1.1 55 21 (r1.1 55 23))).bind fun r167 =>
                  if r167.1 = 0 then
                    (f_X10_here (upI r167.2 55 35 (r167.2 55 24))).bind fun r184 =>
                    if r184.1 = (59 : Int32) then
                      some (r167.1, upI r184.2 55 21 ((r184.2 55 21) + 1), r1.2)
                    else
                      (f_X10_fails 1 (r184.2 55 21) r184.2).bind fun r198 =>
                      some (r198.1, r198.2, r1.2)
                  else
                    some (r167.1, upI (upI r167.2 55 35 (r167.2 55 24)) 55 21 (((upI r167.2 55 35 (r167.2 55 24)) 55 21) + 1), r1.2)
    else
      if 0 ≤ r5 then
        (f_X10_fails 3 (r1.1 55 21) r1.1).bind fun r35 =>
        some (r35.1, r35.2, r1.2)
      else
        (f_X10_fails 1 (r1.1 55 21) r1.1).bind fun r35 =>
        some (r35.1, r35.2, r1.2)
set_option maxRecDepth 100000 in
set_option maxHeartbeats 4000000 in
theorem c_X10_takeClause (Γ : GT) (ad : Nat → Nat) (I : IT) (J : JT) (r : Int32 × IT × JT) (h : f_X10_takeClause I J = some r) : CALL Γ mX10_takeClause (0, 0) [.ref (ad 55)] (DX ad) I J (QE (some (.int r.1)) (DX ad) r.2.1 r.2.2) := by
  refine call_of' (by decide) (Nat.le_of_ble_eq_true rfl) (lv0 := [(0, .ref (ad 55))]) rfl ?_
  unfold f_X10_takeClause at h
  refine wp_aload_n dX10_takeClause_0 0 rfl ?_
  obtain ⟨r1, h1, h⟩ := o_bind h
  refine wp_callvV (k := 55) (ci := 10) (c_X10_readWord Γ ad I J r1 h1) dX10_takeClause_1 mlX10_220 mwX10_readWord miX10_readWord rfl rfl rfl rfl (Nat.le_of_ble_eq_true rfl) rfl (by decide) (by decide) ?_
  refine wp_aload_n dX10_takeClause_4 0 rfl ?_
  obtain ⟨r5, h5, h⟩ := o_bind h
  refine wp_callvI (k := 55) (ci := 10) (c_X10_clauseOf Γ ad r1.1 r1.2 r5 h5) dX10_takeClause_5 mlX10_223 mwX10_clauseOf miX10_clauseOf rfl rfl rfl rfl (Nat.le_of_ble_eq_true rfl) rfl (by decide) (by decide) ?_
  refine wp_istore_n (lv' := [(0, _), (1, _)]) dX10_takeClause_8 rfl rfl rfl rfl ?_
  refine wp_iload_n dX10_takeClause_9 1 rfl ?_
  refine wp_if_lt 21 dX10_takeClause_10 rfl (fun c10 => ?_) (fun c10 => ?_)
  · replace h := o_pos h c10
    refine wp_aload_n dX10_takeClause_21 0 rfl ?_
    refine wp_iload_n dX10_takeClause_22 1 rfl ?_
    refine wp_if_ge 30 dX10_takeClause_23 rfl (fun c23 => ?_) (fun c23 => ?_)
    · replace h := o_pos h c23
      refine wp_iconst (v := 3) dX10_takeClause_30 (by decide) ?_
      refine wp_aload_n dX10_takeClause_31 0 rfl ?_
      refine wp_getI (k := 55) dX10_takeClause_32 flX10_150 rfl rfl rfl rfl ?_
      obtain ⟨r35, h35, h⟩ := o_bind h
      refine wp_callvI (k := 55) (ci := 10) (c_X10_fails Γ ad 3 (r1.1 55 21) r1.1 r1.2 r35 h35) dX10_takeClause_35 mlX10_179 mwX10_fails miX10_fails rfl rfl rfl rfl (Nat.le_of_ble_eq_true rfl) rfl (by decide) (by decide) ?_
      obtain rfl := Option.some.inj h
      exact wp_ireturn (ty := .int) dX10_takeClause_38 rfl rfl ⟨rfl, rfl, rfl, rfl⟩
    · replace h := o_neg h c23
      refine wp_iconst (v := 1) dX10_takeClause_26 (by decide) ?_
      refine wp_goto 31 dX10_takeClause_27 rfl ?_
      refine wp_aload_n dX10_takeClause_31 0 rfl ?_
      refine wp_getI (k := 55) dX10_takeClause_32 flX10_150 rfl rfl rfl rfl ?_
      obtain ⟨r35, h35, h⟩ := o_bind h
      refine wp_callvI (k := 55) (ci := 10) (c_X10_fails Γ ad 1 (r1.1 55 21) r1.1 r1.2 r35 h35) dX10_takeClause_35 mlX10_179 mwX10_fails miX10_fails rfl rfl rfl rfl (Nat.le_of_ble_eq_true rfl) rfl (by decide) (by decide) ?_
      obtain rfl := Option.some.inj h
      exact wp_ireturn (ty := .int) dX10_takeClause_38 rfl rfl ⟨rfl, rfl, rfl, rfl⟩
  · replace h := o_neg h c10
    refine wp_aload_n dX10_takeClause_13 0 rfl ?_
    refine wp_iload_n dX10_takeClause_14 1 rfl ?_
    obtain ⟨r15, h15, h⟩ := o_bind h
    refine wp_callvI (k := 55) (ci := 10) (c_X10_isFull Γ ad r5 r1.1 r1.2 r15 h15) dX10_takeClause_15 mlX10_226 mwX10_isFull miX10_isFull rfl rfl rfl rfl (Nat.le_of_ble_eq_true rfl) rfl (by decide) (by decide) ?_
    refine wp_if_eq 39 dX10_takeClause_18 rfl (fun c18 => ?_) (fun c18 => ?_)
    · replace h := o_pos h c18
      refine wp_iload_n dX10_takeClause_39 1 rfl ?_
      refine wp_if_ne 55 dX10_takeClause_40 rfl (fun c40 => ?_) (fun c40 => ?_)
      · replace h := o_neg h c40
        refine wp_iload_n dX10_takeClause_55 1 rfl ?_
        refine wp_iconst (v := 1) dX10_takeClause_56 (by decide) ?_
        refine wp_icmp_ne 77 dX10_takeClause_57 rfl (fun c57 => ?_) (fun c57 => ?_)
        · replace h := o_neg h c57
          refine wp_aload_n dX10_takeClause_77 0 rfl ?_
          refine wp_aload_n dX10_takeClause_78 0 rfl ?_
          refine wp_getI (k := 55) dX10_takeClause_79 flX10_160 rfl rfl rfl rfl ?_
          refine wp_putI (k := 55) dX10_takeClause_82 flX10_150 rfl rfl rfl rfl rfl rfl rfl rfl ?_
          refine wp_iconst (v := 0) dX10_takeClause_85 (by decide) ?_
          refine wp_istore_n (lv' := [(0, _), (1, _), (2, _)]) dX10_takeClause_86 rfl rfl rfl rfl ?_
          refine wp_iload_n dX10_takeClause_87 1 rfl ?_
          by_cases e88_0 : r5 = 0
          · replace h := o_pos h e88_0
            refine wp_tableIn (off := 32) 120 dX10_takeClause_88 (by rw [e88_0]; decide) (by rw [e88_0]; decide) (by rw [e88_0]; rfl) rfl ?_
            refine wp_aload_n dX10_takeClause_120 0 rfl ?_
            obtain ⟨r121, h121, h⟩ := o_bind h
            refine wp_callvI (k := 55) (ci := 10) (c_X10_takeSeller Γ ad (upI r1.1 55 21 (r1.1 55 23)) r1.2 r121 h121) dX10_takeClause_121 mlX10_230 mwX10_takeSeller miX10_takeSeller rfl rfl rfl rfl (Nat.le_of_ble_eq_true rfl) rfl (by decide) (by decide) ?_
            refine wp_istore_n (lv' := [(0, _), (1, _), (2, _)]) dX10_takeClause_124 rfl rfl rfl rfl ?_
            refine wp_goto 179 dX10_takeClause_125 rfl ?_
            refine wp_iload_n dX10_takeClause_179 2 rfl ?_
            refine wp_if_ne 202 dX10_takeClause_180 rfl (fun c180 => ?_) (fun c180 => ?_)
            · replace h := o_neg h c180
              refine wp_aload_n dX10_takeClause_202 0 rfl ?_
              refine wp_dup dX10_takeClause_203 rfl ?_
              refine wp_getI (k := 55) dX10_takeClause_204 flX10_150 rfl rfl rfl rfl ?_
              refine wp_iconst (v := 1) dX10_takeClause_207 (by decide) ?_
              refine wp_iadd dX10_takeClause_208 ?_
              refine wp_putI (k := 55) dX10_takeClause_209 flX10_150 rfl rfl rfl rfl rfl rfl rfl rfl ?_
              refine wp_iload_n dX10_takeClause_212 2 rfl ?_
              obtain rfl := Option.some.inj h
              exact wp_ireturn (ty := .int) dX10_takeClause_213 rfl rfl ⟨rfl, rfl, rfl, rfl⟩
            · replace h := o_pos h c180
              refine wp_aload_n dX10_takeClause_183 0 rfl ?_
              obtain ⟨r184, h184, h⟩ := o_bind h
              refine wp_callvI (k := 55) (ci := 10) (c_X10_here Γ ad r121.2 r1.2 r184 h184) dX10_takeClause_184 mlX10_153 mwX10_here miX10_here rfl rfl rfl rfl (Nat.le_of_ble_eq_true rfl) rfl (by decide) (by decide) ?_
              refine wp_bipush (v := 59) dX10_takeClause_187 (by decide) ?_
              refine wp_icmp_eq 202 dX10_takeClause_189 rfl (fun c189 => ?_) (fun c189 => ?_)
              · replace h := o_pos h c189
                refine wp_aload_n dX10_takeClause_202 0 rfl ?_
                refine wp_dup dX10_takeClause_203 rfl ?_
                refine wp_getI (k := 55) dX10_takeClause_204 flX10_150 rfl rfl rfl rfl ?_
                refine wp_iconst (v := 1) dX10_takeClause_207 (by decide) ?_
                refine wp_iadd dX10_takeClause_208 ?_
                refine wp_putI (k := 55) dX10_takeClause_209 flX10_150 rfl rfl rfl rfl rfl rfl rfl rfl ?_
                refine wp_iload_n dX10_takeClause_212 2 rfl ?_
                obtain rfl := Option.some.inj h
                exact wp_ireturn (ty := .int) dX10_takeClause_213 rfl rfl ⟨rfl, rfl, rfl, rfl⟩
              · replace h := o_neg h c189
                refine wp_aload_n dX10_takeClause_192 0 rfl ?_
                refine wp_iconst (v := 1) dX10_takeClause_193 (by decide) ?_
                refine wp_aload_n dX10_takeClause_194 0 rfl ?_
                refine wp_getI (k := 55) dX10_takeClause_195 flX10_150 rfl rfl rfl rfl ?_
                obtain ⟨r198, h198, h⟩ := o_bind h
                refine wp_callvI (k := 55) (ci := 10) (c_X10_fails Γ ad 1 (r184.2 55 21) r184.2 r1.2 r198 h198) dX10_takeClause_198 mlX10_179 mwX10_fails miX10_fails rfl rfl rfl rfl (Nat.le_of_ble_eq_true rfl) rfl (by decide) (by decide) ?_
                obtain rfl := Option.some.inj h
                exact wp_ireturn (ty := .int) dX10_takeClause_201 rfl rfl ⟨rfl, rfl, rfl, rfl⟩
          · replace h := o_neg h e88_0
            by_cases e88_1 : r5 = 1
            · replace h := o_pos h e88_1
              refine wp_tableIn (off := 40) 128 dX10_takeClause_88 (by rw [e88_1]; decide) (by rw [e88_1]; decide) (by rw [e88_1]; rfl) rfl ?_
              refine wp_aload_n dX10_takeClause_128 0 rfl ?_
              obtain ⟨r129, h129, h⟩ := o_bind h
              refine wp_callvI (k := 55) (ci := 10) (c_X10_takeBuyer Γ ad (upI r1.1 55 21 (r1.1 55 23)) r1.2 r129 h129) dX10_takeClause_129 mlX10_233 mwX10_takeBuyer miX10_takeBuyer rfl rfl rfl rfl (Nat.le_of_ble_eq_true rfl) rfl (by decide) (by decide) ?_
              refine wp_istore_n (lv' := [(0, _), (1, _), (2, _)]) dX10_takeClause_132 rfl rfl rfl rfl ?_
              refine wp_goto 179 dX10_takeClause_133 rfl ?_
              refine wp_iload_n dX10_takeClause_179 2 rfl ?_
              refine wp_if_ne 202 dX10_takeClause_180 rfl (fun c180 => ?_) (fun c180 => ?_)
              · replace h := o_neg h c180
                refine wp_aload_n dX10_takeClause_202 0 rfl ?_
                refine wp_dup dX10_takeClause_203 rfl ?_
                refine wp_getI (k := 55) dX10_takeClause_204 flX10_150 rfl rfl rfl rfl ?_
                refine wp_iconst (v := 1) dX10_takeClause_207 (by decide) ?_
                refine wp_iadd dX10_takeClause_208 ?_
                refine wp_putI (k := 55) dX10_takeClause_209 flX10_150 rfl rfl rfl rfl rfl rfl rfl rfl ?_
                refine wp_iload_n dX10_takeClause_212 2 rfl ?_
                obtain rfl := Option.some.inj h
                exact wp_ireturn (ty := .int) dX10_takeClause_213 rfl rfl ⟨rfl, rfl, rfl, rfl⟩
              · replace h := o_pos h c180
                refine wp_aload_n dX10_takeClause_183 0 rfl ?_
                obtain ⟨r184, h184, h⟩ := o_bind h
                refine wp_callvI (k := 55) (ci := 10) (c_X10_here Γ ad r129.2 r1.2 r184 h184) dX10_takeClause_184 mlX10_153 mwX10_here miX10_here rfl rfl rfl rfl (Nat.le_of_ble_eq_true rfl) rfl (by decide) (by decide) ?_
                refine wp_bipush (v := 59) dX10_takeClause_187 (by decide) ?_
                refine wp_icmp_eq 202 dX10_takeClause_189 rfl (fun c189 => ?_) (fun c189 => ?_)
                · replace h := o_pos h c189
                  refine wp_aload_n dX10_takeClause_202 0 rfl ?_
                  refine wp_dup dX10_takeClause_203 rfl ?_
                  refine wp_getI (k := 55) dX10_takeClause_204 flX10_150 rfl rfl rfl rfl ?_
                  refine wp_iconst (v := 1) dX10_takeClause_207 (by decide) ?_
                  refine wp_iadd dX10_takeClause_208 ?_
                  refine wp_putI (k := 55) dX10_takeClause_209 flX10_150 rfl rfl rfl rfl rfl rfl rfl rfl ?_
                  refine wp_iload_n dX10_takeClause_212 2 rfl ?_
                  obtain rfl := Option.some.inj h
                  exact wp_ireturn (ty := .int) dX10_takeClause_213 rfl rfl ⟨rfl, rfl, rfl, rfl⟩
                · replace h := o_neg h c189
                  refine wp_aload_n dX10_takeClause_192 0 rfl ?_
                  refine wp_iconst (v := 1) dX10_takeClause_193 (by decide) ?_
                  refine wp_aload_n dX10_takeClause_194 0 rfl ?_
                  refine wp_getI (k := 55) dX10_takeClause_195 flX10_150 rfl rfl rfl rfl ?_
                  obtain ⟨r198, h198, h⟩ := o_bind h
                  refine wp_callvI (k := 55) (ci := 10) (c_X10_fails Γ ad 1 (r184.2 55 21) r184.2 r1.2 r198 h198) dX10_takeClause_198 mlX10_179 mwX10_fails miX10_fails rfl rfl rfl rfl (Nat.le_of_ble_eq_true rfl) rfl (by decide) (by decide) ?_
                  obtain rfl := Option.some.inj h
                  exact wp_ireturn (ty := .int) dX10_takeClause_201 rfl rfl ⟨rfl, rfl, rfl, rfl⟩
            · replace h := o_neg h e88_1
              by_cases e88_2 : r5 = 2
              · replace h := o_pos h e88_2
                refine wp_tableIn (off := 48) 136 dX10_takeClause_88 (by rw [e88_2]; decide) (by rw [e88_2]; decide) (by rw [e88_2]; rfl) rfl ?_
                refine wp_aload_n dX10_takeClause_136 0 rfl ?_
                obtain ⟨r137, h137, h⟩ := o_bind h
                refine wp_callvI (k := 55) (ci := 10) (c_X10_takeBroker Γ ad (upI r1.1 55 21 (r1.1 55 23)) r1.2 r137 h137) dX10_takeClause_137 mlX10_236 mwX10_takeBroker miX10_takeBroker rfl rfl rfl rfl (Nat.le_of_ble_eq_true rfl) rfl (by decide) (by decide) ?_
                refine wp_istore_n (lv' := [(0, _), (1, _), (2, _)]) dX10_takeClause_140 rfl rfl rfl rfl ?_
                refine wp_goto 179 dX10_takeClause_141 rfl ?_
                refine wp_iload_n dX10_takeClause_179 2 rfl ?_
                refine wp_if_ne 202 dX10_takeClause_180 rfl (fun c180 => ?_) (fun c180 => ?_)
                · replace h := o_neg h c180
                  refine wp_aload_n dX10_takeClause_202 0 rfl ?_
                  refine wp_dup dX10_takeClause_203 rfl ?_
                  refine wp_getI (k := 55) dX10_takeClause_204 flX10_150 rfl rfl rfl rfl ?_
                  refine wp_iconst (v := 1) dX10_takeClause_207 (by decide) ?_
                  refine wp_iadd dX10_takeClause_208 ?_
                  refine wp_putI (k := 55) dX10_takeClause_209 flX10_150 rfl rfl rfl rfl rfl rfl rfl rfl ?_
                  refine wp_iload_n dX10_takeClause_212 2 rfl ?_
                  obtain rfl := Option.some.inj h
                  exact wp_ireturn (ty := .int) dX10_takeClause_213 rfl rfl ⟨rfl, rfl, rfl, rfl⟩
                · replace h := o_pos h c180
                  refine wp_aload_n dX10_takeClause_183 0 rfl ?_
                  obtain ⟨r184, h184, h⟩ := o_bind h
                  refine wp_callvI (k := 55) (ci := 10) (c_X10_here Γ ad r137.2 r1.2 r184 h184) dX10_takeClause_184 mlX10_153 mwX10_here miX10_here rfl rfl rfl rfl (Nat.le_of_ble_eq_true rfl) rfl (by decide) (by decide) ?_
                  refine wp_bipush (v := 59) dX10_takeClause_187 (by decide) ?_
                  refine wp_icmp_eq 202 dX10_takeClause_189 rfl (fun c189 => ?_) (fun c189 => ?_)
                  · replace h := o_pos h c189
                    refine wp_aload_n dX10_takeClause_202 0 rfl ?_
                    refine wp_dup dX10_takeClause_203 rfl ?_
                    refine wp_getI (k := 55) dX10_takeClause_204 flX10_150 rfl rfl rfl rfl ?_
                    refine wp_iconst (v := 1) dX10_takeClause_207 (by decide) ?_
                    refine wp_iadd dX10_takeClause_208 ?_
                    refine wp_putI (k := 55) dX10_takeClause_209 flX10_150 rfl rfl rfl rfl rfl rfl rfl rfl ?_
                    refine wp_iload_n dX10_takeClause_212 2 rfl ?_
                    obtain rfl := Option.some.inj h
                    exact wp_ireturn (ty := .int) dX10_takeClause_213 rfl rfl ⟨rfl, rfl, rfl, rfl⟩
                  · replace h := o_neg h c189
                    refine wp_aload_n dX10_takeClause_192 0 rfl ?_
                    refine wp_iconst (v := 1) dX10_takeClause_193 (by decide) ?_
                    refine wp_aload_n dX10_takeClause_194 0 rfl ?_
                    refine wp_getI (k := 55) dX10_takeClause_195 flX10_150 rfl rfl rfl rfl ?_
                    obtain ⟨r198, h198, h⟩ := o_bind h
                    refine wp_callvI (k := 55) (ci := 10) (c_X10_fails Γ ad 1 (r184.2 55 21) r184.2 r1.2 r198 h198) dX10_takeClause_198 mlX10_179 mwX10_fails miX10_fails rfl rfl rfl rfl (Nat.le_of_ble_eq_true rfl) rfl (by decide) (by decide) ?_
                    obtain rfl := Option.some.inj h
                    exact wp_ireturn (ty := .int) dX10_takeClause_201 rfl rfl ⟨rfl, rfl, rfl, rfl⟩
              · replace h := o_neg h e88_2
                by_cases e88_3 : r5 = 3
                · replace h := o_pos h e88_3
                  refine wp_tableIn (off := 56) 144 dX10_takeClause_88 (by rw [e88_3]; decide) (by rw [e88_3]; decide) (by rw [e88_3]; rfl) rfl ?_
                  refine wp_aload_n dX10_takeClause_144 0 rfl ?_
                  refine wp_iconst (v := 1) dX10_takeClause_145 (by decide) ?_
                  refine wp_bipush (v := 99) dX10_takeClause_146 (by decide) ?_
                  obtain ⟨r148, h148, h⟩ := o_bind h
                  refine wp_callvI (k := 55) (ci := 10) (c_X10_takeNumber Γ ad 1 99 (upI r1.1 55 21 (r1.1 55 23)) r1.2 r148 h148) dX10_takeClause_148 mlX10_190 mwX10_takeNumber miX10_takeNumber rfl rfl rfl rfl (Nat.le_of_ble_eq_true rfl) rfl (by decide) (by decide) ?_
                  refine wp_istore_n (lv' := [(0, _), (1, _), (2, _)]) dX10_takeClause_151 rfl rfl rfl rfl ?_
                  refine wp_aload_n dX10_takeClause_152 0 rfl ?_
                  refine wp_aload_n dX10_takeClause_153 0 rfl ?_
                  refine wp_getI (k := 55) dX10_takeClause_154 flX10_186 rfl rfl rfl rfl ?_
                  refine wp_putI (k := 55) dX10_takeClause_157 flX10_214 rfl rfl rfl rfl rfl rfl rfl rfl ?_
                  refine wp_goto 179 dX10_takeClause_160 rfl ?_
                  refine wp_iload_n dX10_takeClause_179 2 rfl ?_
                  refine wp_if_ne 202 dX10_takeClause_180 rfl (fun c180 => ?_) (fun c180 => ?_)
                  · replace h := o_neg h c180
                    refine wp_aload_n dX10_takeClause_202 0 rfl ?_
                    refine wp_dup dX10_takeClause_203 rfl ?_
                    refine wp_getI (k := 55) dX10_takeClause_204 flX10_150 rfl rfl rfl rfl ?_
                    refine wp_iconst (v := 1) dX10_takeClause_207 (by decide) ?_
                    refine wp_iadd dX10_takeClause_208 ?_
                    refine wp_putI (k := 55) dX10_takeClause_209 flX10_150 rfl rfl rfl rfl rfl rfl rfl rfl ?_
                    refine wp_iload_n dX10_takeClause_212 2 rfl ?_
                    obtain rfl := Option.some.inj h
                    exact wp_ireturn (ty := .int) dX10_takeClause_213 rfl rfl ⟨rfl, rfl, rfl, rfl⟩
                  · replace h := o_pos h c180
                    refine wp_aload_n dX10_takeClause_183 0 rfl ?_
                    obtain ⟨r184, h184, h⟩ := o_bind h
                    refine wp_callvI (k := 55) (ci := 10) (c_X10_here Γ ad (upI r148.2 55 34 (r148.2 55 24)) r1.2 r184 h184) dX10_takeClause_184 mlX10_153 mwX10_here miX10_here rfl rfl rfl rfl (Nat.le_of_ble_eq_true rfl) rfl (by decide) (by decide) ?_
                    refine wp_bipush (v := 59) dX10_takeClause_187 (by decide) ?_
                    refine wp_icmp_eq 202 dX10_takeClause_189 rfl (fun c189 => ?_) (fun c189 => ?_)
                    · replace h := o_pos h c189
                      refine wp_aload_n dX10_takeClause_202 0 rfl ?_
                      refine wp_dup dX10_takeClause_203 rfl ?_
                      refine wp_getI (k := 55) dX10_takeClause_204 flX10_150 rfl rfl rfl rfl ?_
                      refine wp_iconst (v := 1) dX10_takeClause_207 (by decide) ?_
                      refine wp_iadd dX10_takeClause_208 ?_
                      refine wp_putI (k := 55) dX10_takeClause_209 flX10_150 rfl rfl rfl rfl rfl rfl rfl rfl ?_
                      refine wp_iload_n dX10_takeClause_212 2 rfl ?_
                      obtain rfl := Option.some.inj h
                      exact wp_ireturn (ty := .int) dX10_takeClause_213 rfl rfl ⟨rfl, rfl, rfl, rfl⟩
                    · replace h := o_neg h c189
                      refine wp_aload_n dX10_takeClause_192 0 rfl ?_
                      refine wp_iconst (v := 1) dX10_takeClause_193 (by decide) ?_
                      refine wp_aload_n dX10_takeClause_194 0 rfl ?_
                      refine wp_getI (k := 55) dX10_takeClause_195 flX10_150 rfl rfl rfl rfl ?_
                      obtain ⟨r198, h198, h⟩ := o_bind h
                      refine wp_callvI (k := 55) (ci := 10) (c_X10_fails Γ ad 1 (r184.2 55 21) r184.2 r1.2 r198 h198) dX10_takeClause_198 mlX10_179 mwX10_fails miX10_fails rfl rfl rfl rfl (Nat.le_of_ble_eq_true rfl) rfl (by decide) (by decide) ?_
                      obtain rfl := Option.some.inj h
                      exact wp_ireturn (ty := .int) dX10_takeClause_201 rfl rfl ⟨rfl, rfl, rfl, rfl⟩
                · replace h := o_neg h e88_3
                  refine wp_tableOut 163 dX10_takeClause_88 (by have n0 := lv_neT (a := 0) e88_0 (by decide); have n1 := lv_neT (a := 1) e88_1 (by decide); have n2 := lv_neT (a := 2) e88_2 (by decide); have n3 := lv_neT (a := 3) e88_3 (by decide); omega) rfl ?_
                  refine wp_aload_n dX10_takeClause_163 0 rfl ?_
                  refine wp_iconst (v := 0) dX10_takeClause_164 (by decide) ?_
                  refine wp_bipush (v := 99) dX10_takeClause_165 (by decide) ?_
                  obtain ⟨r167, h167, h⟩ := o_bind h
                  refine wp_callvI (k := 55) (ci := 10) (c_X10_takeNumber Γ ad 0 99 (upI r1.1 55 21 (r1.1 55 23)) r1.2 r167 h167) dX10_takeClause_167 mlX10_190 mwX10_takeNumber miX10_takeNumber rfl rfl rfl rfl (Nat.le_of_ble_eq_true rfl) rfl (by decide) (by decide) ?_
                  refine wp_istore_n (lv' := [(0, _), (1, _), (2, _)]) dX10_takeClause_170 rfl rfl rfl rfl ?_
                  refine wp_aload_n dX10_takeClause_171 0 rfl ?_
                  refine wp_aload_n dX10_takeClause_172 0 rfl ?_
                  refine wp_getI (k := 55) dX10_takeClause_173 flX10_186 rfl rfl rfl rfl ?_
                  refine wp_putI (k := 55) dX10_takeClause_176 flX10_217 rfl rfl rfl rfl rfl rfl rfl rfl ?_
                  refine wp_iload_n dX10_takeClause_179 2 rfl ?_
                  refine wp_if_ne 202 dX10_takeClause_180 rfl (fun c180 => ?_) (fun c180 => ?_)
                  · replace h := o_neg h c180
                    refine wp_aload_n dX10_takeClause_202 0 rfl ?_
                    refine wp_dup dX10_takeClause_203 rfl ?_
                    refine wp_getI (k := 55) dX10_takeClause_204 flX10_150 rfl rfl rfl rfl ?_
                    refine wp_iconst (v := 1) dX10_takeClause_207 (by decide) ?_
                    refine wp_iadd dX10_takeClause_208 ?_
                    refine wp_putI (k := 55) dX10_takeClause_209 flX10_150 rfl rfl rfl rfl rfl rfl rfl rfl ?_
                    refine wp_iload_n dX10_takeClause_212 2 rfl ?_
                    obtain rfl := Option.some.inj h
                    exact wp_ireturn (ty := .int) dX10_takeClause_213 rfl rfl ⟨rfl, rfl, rfl, rfl⟩
                  · replace h := o_pos h c180
                    refine wp_aload_n dX10_takeClause_183 0 rfl ?_
                    obtain ⟨r184, h184, h⟩ := o_bind h
                    refine wp_callvI (k := 55) (ci := 10) (c_X10_here Γ ad (upI r167.2 55 35 (r167.2 55 24)) r1.2 r184 h184) dX10_takeClause_184 mlX10_153 mwX10_here miX10_here rfl rfl rfl rfl (Nat.le_of_ble_eq_true rfl) rfl (by decide) (by decide) ?_
                    refine wp_bipush (v := 59) dX10_takeClause_187 (by decide) ?_
                    refine wp_icmp_eq 202 dX10_takeClause_189 rfl (fun c189 => ?_) (fun c189 => ?_)
                    · replace h := o_pos h c189
                      refine wp_aload_n dX10_takeClause_202 0 rfl ?_
                      refine wp_dup dX10_takeClause_203 rfl ?_
                      refine wp_getI (k := 55) dX10_takeClause_204 flX10_150 rfl rfl rfl rfl ?_
                      refine wp_iconst (v := 1) dX10_takeClause_207 (by decide) ?_
                      refine wp_iadd dX10_takeClause_208 ?_
                      refine wp_putI (k := 55) dX10_takeClause_209 flX10_150 rfl rfl rfl rfl rfl rfl rfl rfl ?_
                      refine wp_iload_n dX10_takeClause_212 2 rfl ?_
                      obtain rfl := Option.some.inj h
                      exact wp_ireturn (ty := .int) dX10_takeClause_213 rfl rfl ⟨rfl, rfl, rfl, rfl⟩
                    · replace h := o_neg h c189
                      refine wp_aload_n dX10_takeClause_192 0 rfl ?_
                      refine wp_iconst (v := 1) dX10_takeClause_193 (by decide) ?_
                      refine wp_aload_n dX10_takeClause_194 0 rfl ?_
                      refine wp_getI (k := 55) dX10_takeClause_195 flX10_150 rfl rfl rfl rfl ?_
                      obtain ⟨r198, h198, h⟩ := o_bind h
                      refine wp_callvI (k := 55) (ci := 10) (c_X10_fails Γ ad 1 (r184.2 55 21) r184.2 r1.2 r198 h198) dX10_takeClause_198 mlX10_179 mwX10_fails miX10_fails rfl rfl rfl rfl (Nat.le_of_ble_eq_true rfl) rfl (by decide) (by decide) ?_
                      obtain rfl := Option.some.inj h
                      exact wp_ireturn (ty := .int) dX10_takeClause_201 rfl rfl ⟨rfl, rfl, rfl, rfl⟩
        · replace h := o_pos h c57
          refine wp_aload_n dX10_takeClause_60 0 rfl ?_
          refine wp_getI (k := 55) dX10_takeClause_61 flX10_203 rfl rfl rfl rfl ?_
          refine wp_if_le 77 dX10_takeClause_64 rfl (fun c64 => ?_) (fun c64 => ?_)
          · replace h := o_pos h c64
            refine wp_aload_n dX10_takeClause_77 0 rfl ?_
            refine wp_aload_n dX10_takeClause_78 0 rfl ?_
            refine wp_getI (k := 55) dX10_takeClause_79 flX10_160 rfl rfl rfl rfl ?_
            refine wp_putI (k := 55) dX10_takeClause_82 flX10_150 rfl rfl rfl rfl rfl rfl rfl rfl ?_
            refine wp_iconst (v := 0) dX10_takeClause_85 (by decide) ?_
            refine wp_istore_n (lv' := [(0, _), (1, _), (2, _)]) dX10_takeClause_86 rfl rfl rfl rfl ?_
            refine wp_iload_n dX10_takeClause_87 1 rfl ?_
            by_cases e88_0 : r5 = 0
            · replace h := o_pos h e88_0
              refine wp_tableIn (off := 32) 120 dX10_takeClause_88 (by rw [e88_0]; decide) (by rw [e88_0]; decide) (by rw [e88_0]; rfl) rfl ?_
              refine wp_aload_n dX10_takeClause_120 0 rfl ?_
              obtain ⟨r121, h121, h⟩ := o_bind h
              refine wp_callvI (k := 55) (ci := 10) (c_X10_takeSeller Γ ad (upI r1.1 55 21 (r1.1 55 23)) r1.2 r121 h121) dX10_takeClause_121 mlX10_230 mwX10_takeSeller miX10_takeSeller rfl rfl rfl rfl (Nat.le_of_ble_eq_true rfl) rfl (by decide) (by decide) ?_
              refine wp_istore_n (lv' := [(0, _), (1, _), (2, _)]) dX10_takeClause_124 rfl rfl rfl rfl ?_
              refine wp_goto 179 dX10_takeClause_125 rfl ?_
              refine wp_iload_n dX10_takeClause_179 2 rfl ?_
              refine wp_if_ne 202 dX10_takeClause_180 rfl (fun c180 => ?_) (fun c180 => ?_)
              · replace h := o_neg h c180
                refine wp_aload_n dX10_takeClause_202 0 rfl ?_
                refine wp_dup dX10_takeClause_203 rfl ?_
                refine wp_getI (k := 55) dX10_takeClause_204 flX10_150 rfl rfl rfl rfl ?_
                refine wp_iconst (v := 1) dX10_takeClause_207 (by decide) ?_
                refine wp_iadd dX10_takeClause_208 ?_
                refine wp_putI (k := 55) dX10_takeClause_209 flX10_150 rfl rfl rfl rfl rfl rfl rfl rfl ?_
                refine wp_iload_n dX10_takeClause_212 2 rfl ?_
                obtain rfl := Option.some.inj h
                exact wp_ireturn (ty := .int) dX10_takeClause_213 rfl rfl ⟨rfl, rfl, rfl, rfl⟩
              · replace h := o_pos h c180
                refine wp_aload_n dX10_takeClause_183 0 rfl ?_
                obtain ⟨r184, h184, h⟩ := o_bind h
                refine wp_callvI (k := 55) (ci := 10) (c_X10_here Γ ad r121.2 r1.2 r184 h184) dX10_takeClause_184 mlX10_153 mwX10_here miX10_here rfl rfl rfl rfl (Nat.le_of_ble_eq_true rfl) rfl (by decide) (by decide) ?_
                refine wp_bipush (v := 59) dX10_takeClause_187 (by decide) ?_
                refine wp_icmp_eq 202 dX10_takeClause_189 rfl (fun c189 => ?_) (fun c189 => ?_)
                · replace h := o_pos h c189
                  refine wp_aload_n dX10_takeClause_202 0 rfl ?_
                  refine wp_dup dX10_takeClause_203 rfl ?_
                  refine wp_getI (k := 55) dX10_takeClause_204 flX10_150 rfl rfl rfl rfl ?_
                  refine wp_iconst (v := 1) dX10_takeClause_207 (by decide) ?_
                  refine wp_iadd dX10_takeClause_208 ?_
                  refine wp_putI (k := 55) dX10_takeClause_209 flX10_150 rfl rfl rfl rfl rfl rfl rfl rfl ?_
                  refine wp_iload_n dX10_takeClause_212 2 rfl ?_
                  obtain rfl := Option.some.inj h
                  exact wp_ireturn (ty := .int) dX10_takeClause_213 rfl rfl ⟨rfl, rfl, rfl, rfl⟩
                · replace h := o_neg h c189
                  refine wp_aload_n dX10_takeClause_192 0 rfl ?_
                  refine wp_iconst (v := 1) dX10_takeClause_193 (by decide) ?_
                  refine wp_aload_n dX10_takeClause_194 0 rfl ?_
                  refine wp_getI (k := 55) dX10_takeClause_195 flX10_150 rfl rfl rfl rfl ?_
                  obtain ⟨r198, h198, h⟩ := o_bind h
                  refine wp_callvI (k := 55) (ci := 10) (c_X10_fails Γ ad 1 (r184.2 55 21) r184.2 r1.2 r198 h198) dX10_takeClause_198 mlX10_179 mwX10_fails miX10_fails rfl rfl rfl rfl (Nat.le_of_ble_eq_true rfl) rfl (by decide) (by decide) ?_
                  obtain rfl := Option.some.inj h
                  exact wp_ireturn (ty := .int) dX10_takeClause_201 rfl rfl ⟨rfl, rfl, rfl, rfl⟩
            · replace h := o_neg h e88_0
              by_cases e88_1 : r5 = 1
              · replace h := o_pos h e88_1
                refine wp_tableIn (off := 40) 128 dX10_takeClause_88 (by rw [e88_1]; decide) (by rw [e88_1]; decide) (by rw [e88_1]; rfl) rfl ?_
                refine wp_aload_n dX10_takeClause_128 0 rfl ?_
                obtain ⟨r129, h129, h⟩ := o_bind h
                refine wp_callvI (k := 55) (ci := 10) (c_X10_takeBuyer Γ ad (upI r1.1 55 21 (r1.1 55 23)) r1.2 r129 h129) dX10_takeClause_129 mlX10_233 mwX10_takeBuyer miX10_takeBuyer rfl rfl rfl rfl (Nat.le_of_ble_eq_true rfl) rfl (by decide) (by decide) ?_
                refine wp_istore_n (lv' := [(0, _), (1, _), (2, _)]) dX10_takeClause_132 rfl rfl rfl rfl ?_
                refine wp_goto 179 dX10_takeClause_133 rfl ?_
                refine wp_iload_n dX10_takeClause_179 2 rfl ?_
                refine wp_if_ne 202 dX10_takeClause_180 rfl (fun c180 => ?_) (fun c180 => ?_)
                · replace h := o_neg h c180
                  refine wp_aload_n dX10_takeClause_202 0 rfl ?_
                  refine wp_dup dX10_takeClause_203 rfl ?_
                  refine wp_getI (k := 55) dX10_takeClause_204 flX10_150 rfl rfl rfl rfl ?_
                  refine wp_iconst (v := 1) dX10_takeClause_207 (by decide) ?_
                  refine wp_iadd dX10_takeClause_208 ?_
                  refine wp_putI (k := 55) dX10_takeClause_209 flX10_150 rfl rfl rfl rfl rfl rfl rfl rfl ?_
                  refine wp_iload_n dX10_takeClause_212 2 rfl ?_
                  obtain rfl := Option.some.inj h
                  exact wp_ireturn (ty := .int) dX10_takeClause_213 rfl rfl ⟨rfl, rfl, rfl, rfl⟩
                · replace h := o_pos h c180
                  refine wp_aload_n dX10_takeClause_183 0 rfl ?_
                  obtain ⟨r184, h184, h⟩ := o_bind h
                  refine wp_callvI (k := 55) (ci := 10) (c_X10_here Γ ad r129.2 r1.2 r184 h184) dX10_takeClause_184 mlX10_153 mwX10_here miX10_here rfl rfl rfl rfl (Nat.le_of_ble_eq_true rfl) rfl (by decide) (by decide) ?_
                  refine wp_bipush (v := 59) dX10_takeClause_187 (by decide) ?_
                  refine wp_icmp_eq 202 dX10_takeClause_189 rfl (fun c189 => ?_) (fun c189 => ?_)
                  · replace h := o_pos h c189
                    refine wp_aload_n dX10_takeClause_202 0 rfl ?_
                    refine wp_dup dX10_takeClause_203 rfl ?_
                    refine wp_getI (k := 55) dX10_takeClause_204 flX10_150 rfl rfl rfl rfl ?_
                    refine wp_iconst (v := 1) dX10_takeClause_207 (by decide) ?_
                    refine wp_iadd dX10_takeClause_208 ?_
                    refine wp_putI (k := 55) dX10_takeClause_209 flX10_150 rfl rfl rfl rfl rfl rfl rfl rfl ?_
                    refine wp_iload_n dX10_takeClause_212 2 rfl ?_
                    obtain rfl := Option.some.inj h
                    exact wp_ireturn (ty := .int) dX10_takeClause_213 rfl rfl ⟨rfl, rfl, rfl, rfl⟩
                  · replace h := o_neg h c189
                    refine wp_aload_n dX10_takeClause_192 0 rfl ?_
                    refine wp_iconst (v := 1) dX10_takeClause_193 (by decide) ?_
                    refine wp_aload_n dX10_takeClause_194 0 rfl ?_
                    refine wp_getI (k := 55) dX10_takeClause_195 flX10_150 rfl rfl rfl rfl ?_
                    obtain ⟨r198, h198, h⟩ := o_bind h
                    refine wp_callvI (k := 55) (ci := 10) (c_X10_fails Γ ad 1 (r184.2 55 21) r184.2 r1.2 r198 h198) dX10_takeClause_198 mlX10_179 mwX10_fails miX10_fails rfl rfl rfl rfl (Nat.le_of_ble_eq_true rfl) rfl (by decide) (by decide) ?_
                    obtain rfl := Option.some.inj h
                    exact wp_ireturn (ty := .int) dX10_takeClause_201 rfl rfl ⟨rfl, rfl, rfl, rfl⟩
              · replace h := o_neg h e88_1
                by_cases e88_2 : r5 = 2
                · replace h := o_pos h e88_2
                  refine wp_tableIn (off := 48) 136 dX10_takeClause_88 (by rw [e88_2]; decide) (by rw [e88_2]; decide) (by rw [e88_2]; rfl) rfl ?_
                  refine wp_aload_n dX10_takeClause_136 0 rfl ?_
                  obtain ⟨r137, h137, h⟩ := o_bind h
                  refine wp_callvI (k := 55) (ci := 10) (c_X10_takeBroker Γ ad (upI r1.1 55 21 (r1.1 55 23)) r1.2 r137 h137) dX10_takeClause_137 mlX10_236 mwX10_takeBroker miX10_takeBroker rfl rfl rfl rfl (Nat.le_of_ble_eq_true rfl) rfl (by decide) (by decide) ?_
                  refine wp_istore_n (lv' := [(0, _), (1, _), (2, _)]) dX10_takeClause_140 rfl rfl rfl rfl ?_
                  refine wp_goto 179 dX10_takeClause_141 rfl ?_
                  refine wp_iload_n dX10_takeClause_179 2 rfl ?_
                  refine wp_if_ne 202 dX10_takeClause_180 rfl (fun c180 => ?_) (fun c180 => ?_)
                  · replace h := o_neg h c180
                    refine wp_aload_n dX10_takeClause_202 0 rfl ?_
                    refine wp_dup dX10_takeClause_203 rfl ?_
                    refine wp_getI (k := 55) dX10_takeClause_204 flX10_150 rfl rfl rfl rfl ?_
                    refine wp_iconst (v := 1) dX10_takeClause_207 (by decide) ?_
                    refine wp_iadd dX10_takeClause_208 ?_
                    refine wp_putI (k := 55) dX10_takeClause_209 flX10_150 rfl rfl rfl rfl rfl rfl rfl rfl ?_
                    refine wp_iload_n dX10_takeClause_212 2 rfl ?_
                    obtain rfl := Option.some.inj h
                    exact wp_ireturn (ty := .int) dX10_takeClause_213 rfl rfl ⟨rfl, rfl, rfl, rfl⟩
                  · replace h := o_pos h c180
                    refine wp_aload_n dX10_takeClause_183 0 rfl ?_
                    obtain ⟨r184, h184, h⟩ := o_bind h
                    refine wp_callvI (k := 55) (ci := 10) (c_X10_here Γ ad r137.2 r1.2 r184 h184) dX10_takeClause_184 mlX10_153 mwX10_here miX10_here rfl rfl rfl rfl (Nat.le_of_ble_eq_true rfl) rfl (by decide) (by decide) ?_
                    refine wp_bipush (v := 59) dX10_takeClause_187 (by decide) ?_
                    refine wp_icmp_eq 202 dX10_takeClause_189 rfl (fun c189 => ?_) (fun c189 => ?_)
                    · replace h := o_pos h c189
                      refine wp_aload_n dX10_takeClause_202 0 rfl ?_
                      refine wp_dup dX10_takeClause_203 rfl ?_
                      refine wp_getI (k := 55) dX10_takeClause_204 flX10_150 rfl rfl rfl rfl ?_
                      refine wp_iconst (v := 1) dX10_takeClause_207 (by decide) ?_
                      refine wp_iadd dX10_takeClause_208 ?_
                      refine wp_putI (k := 55) dX10_takeClause_209 flX10_150 rfl rfl rfl rfl rfl rfl rfl rfl ?_
                      refine wp_iload_n dX10_takeClause_212 2 rfl ?_
                      obtain rfl := Option.some.inj h
                      exact wp_ireturn (ty := .int) dX10_takeClause_213 rfl rfl ⟨rfl, rfl, rfl, rfl⟩
                    · replace h := o_neg h c189
                      refine wp_aload_n dX10_takeClause_192 0 rfl ?_
                      refine wp_iconst (v := 1) dX10_takeClause_193 (by decide) ?_
                      refine wp_aload_n dX10_takeClause_194 0 rfl ?_
                      refine wp_getI (k := 55) dX10_takeClause_195 flX10_150 rfl rfl rfl rfl ?_
                      obtain ⟨r198, h198, h⟩ := o_bind h
                      refine wp_callvI (k := 55) (ci := 10) (c_X10_fails Γ ad 1 (r184.2 55 21) r184.2 r1.2 r198 h198) dX10_takeClause_198 mlX10_179 mwX10_fails miX10_fails rfl rfl rfl rfl (Nat.le_of_ble_eq_true rfl) rfl (by decide) (by decide) ?_
                      obtain rfl := Option.some.inj h
                      exact wp_ireturn (ty := .int) dX10_takeClause_201 rfl rfl ⟨rfl, rfl, rfl, rfl⟩
                · replace h := o_neg h e88_2
                  by_cases e88_3 : r5 = 3
                  · replace h := o_pos h e88_3
                    refine wp_tableIn (off := 56) 144 dX10_takeClause_88 (by rw [e88_3]; decide) (by rw [e88_3]; decide) (by rw [e88_3]; rfl) rfl ?_
                    refine wp_aload_n dX10_takeClause_144 0 rfl ?_
                    refine wp_iconst (v := 1) dX10_takeClause_145 (by decide) ?_
                    refine wp_bipush (v := 99) dX10_takeClause_146 (by decide) ?_
                    obtain ⟨r148, h148, h⟩ := o_bind h
                    refine wp_callvI (k := 55) (ci := 10) (c_X10_takeNumber Γ ad 1 99 (upI r1.1 55 21 (r1.1 55 23)) r1.2 r148 h148) dX10_takeClause_148 mlX10_190 mwX10_takeNumber miX10_takeNumber rfl rfl rfl rfl (Nat.le_of_ble_eq_true rfl) rfl (by decide) (by decide) ?_
                    refine wp_istore_n (lv' := [(0, _), (1, _), (2, _)]) dX10_takeClause_151 rfl rfl rfl rfl ?_
                    refine wp_aload_n dX10_takeClause_152 0 rfl ?_
                    refine wp_aload_n dX10_takeClause_153 0 rfl ?_
                    refine wp_getI (k := 55) dX10_takeClause_154 flX10_186 rfl rfl rfl rfl ?_
                    refine wp_putI (k := 55) dX10_takeClause_157 flX10_214 rfl rfl rfl rfl rfl rfl rfl rfl ?_
                    refine wp_goto 179 dX10_takeClause_160 rfl ?_
                    refine wp_iload_n dX10_takeClause_179 2 rfl ?_
                    refine wp_if_ne 202 dX10_takeClause_180 rfl (fun c180 => ?_) (fun c180 => ?_)
                    · replace h := o_neg h c180
                      refine wp_aload_n dX10_takeClause_202 0 rfl ?_
                      refine wp_dup dX10_takeClause_203 rfl ?_
                      refine wp_getI (k := 55) dX10_takeClause_204 flX10_150 rfl rfl rfl rfl ?_
                      refine wp_iconst (v := 1) dX10_takeClause_207 (by decide) ?_
                      refine wp_iadd dX10_takeClause_208 ?_
                      refine wp_putI (k := 55) dX10_takeClause_209 flX10_150 rfl rfl rfl rfl rfl rfl rfl rfl ?_
                      refine wp_iload_n dX10_takeClause_212 2 rfl ?_
                      obtain rfl := Option.some.inj h
                      exact wp_ireturn (ty := .int) dX10_takeClause_213 rfl rfl ⟨rfl, rfl, rfl, rfl⟩
                    · replace h := o_pos h c180
                      refine wp_aload_n dX10_takeClause_183 0 rfl ?_
                      obtain ⟨r184, h184, h⟩ := o_bind h
                      refine wp_callvI (k := 55) (ci := 10) (c_X10_here Γ ad (upI r148.2 55 34 (r148.2 55 24)) r1.2 r184 h184) dX10_takeClause_184 mlX10_153 mwX10_here miX10_here rfl rfl rfl rfl (Nat.le_of_ble_eq_true rfl) rfl (by decide) (by decide) ?_
                      refine wp_bipush (v := 59) dX10_takeClause_187 (by decide) ?_
                      refine wp_icmp_eq 202 dX10_takeClause_189 rfl (fun c189 => ?_) (fun c189 => ?_)
                      · replace h := o_pos h c189
                        refine wp_aload_n dX10_takeClause_202 0 rfl ?_
                        refine wp_dup dX10_takeClause_203 rfl ?_
                        refine wp_getI (k := 55) dX10_takeClause_204 flX10_150 rfl rfl rfl rfl ?_
                        refine wp_iconst (v := 1) dX10_takeClause_207 (by decide) ?_
                        refine wp_iadd dX10_takeClause_208 ?_
                        refine wp_putI (k := 55) dX10_takeClause_209 flX10_150 rfl rfl rfl rfl rfl rfl rfl rfl ?_
                        refine wp_iload_n dX10_takeClause_212 2 rfl ?_
                        obtain rfl := Option.some.inj h
                        exact wp_ireturn (ty := .int) dX10_takeClause_213 rfl rfl ⟨rfl, rfl, rfl, rfl⟩
                      · replace h := o_neg h c189
                        refine wp_aload_n dX10_takeClause_192 0 rfl ?_
                        refine wp_iconst (v := 1) dX10_takeClause_193 (by decide) ?_
                        refine wp_aload_n dX10_takeClause_194 0 rfl ?_
                        refine wp_getI (k := 55) dX10_takeClause_195 flX10_150 rfl rfl rfl rfl ?_
                        obtain ⟨r198, h198, h⟩ := o_bind h
                        refine wp_callvI (k := 55) (ci := 10) (c_X10_fails Γ ad 1 (r184.2 55 21) r184.2 r1.2 r198 h198) dX10_takeClause_198 mlX10_179 mwX10_fails miX10_fails rfl rfl rfl rfl (Nat.le_of_ble_eq_true rfl) rfl (by decide) (by decide) ?_
                        obtain rfl := Option.some.inj h
                        exact wp_ireturn (ty := .int) dX10_takeClause_201 rfl rfl ⟨rfl, rfl, rfl, rfl⟩
                  · replace h := o_neg h e88_3
                    refine wp_tableOut 163 dX10_takeClause_88 (by have n0 := lv_neT (a := 0) e88_0 (by decide); have n1 := lv_neT (a := 1) e88_1 (by decide); have n2 := lv_neT (a := 2) e88_2 (by decide); have n3 := lv_neT (a := 3) e88_3 (by decide); omega) rfl ?_
                    refine wp_aload_n dX10_takeClause_163 0 rfl ?_
                    refine wp_iconst (v := 0) dX10_takeClause_164 (by decide) ?_
                    refine wp_bipush (v := 99) dX10_takeClause_165 (by decide) ?_
                    obtain ⟨r167, h167, h⟩ := o_bind h
                    refine wp_callvI (k := 55) (ci := 10) (c_X10_takeNumber Γ ad 0 99 (upI r1.1 55 21 (r1.1 55 23)) r1.2 r167 h167) dX10_takeClause_167 mlX10_190 mwX10_takeNumber miX10_takeNumber rfl rfl rfl rfl (Nat.le_of_ble_eq_true rfl) rfl (by decide) (by decide) ?_
                    refine wp_istore_n (lv' := [(0, _), (1, _), (2, _)]) dX10_takeClause_170 rfl rfl rfl rfl ?_
                    refine wp_aload_n dX10_takeClause_171 0 rfl ?_
                    refine wp_aload_n dX10_takeClause_172 0 rfl ?_
                    refine wp_getI (k := 55) dX10_takeClause_173 flX10_186 rfl rfl rfl rfl ?_
                    refine wp_putI (k := 55) dX10_takeClause_176 flX10_217 rfl rfl rfl rfl rfl rfl rfl rfl ?_
                    refine wp_iload_n dX10_takeClause_179 2 rfl ?_
                    refine wp_if_ne 202 dX10_takeClause_180 rfl (fun c180 => ?_) (fun c180 => ?_)
                    · replace h := o_neg h c180
                      refine wp_aload_n dX10_takeClause_202 0 rfl ?_
                      refine wp_dup dX10_takeClause_203 rfl ?_
                      refine wp_getI (k := 55) dX10_takeClause_204 flX10_150 rfl rfl rfl rfl ?_
                      refine wp_iconst (v := 1) dX10_takeClause_207 (by decide) ?_
                      refine wp_iadd dX10_takeClause_208 ?_
                      refine wp_putI (k := 55) dX10_takeClause_209 flX10_150 rfl rfl rfl rfl rfl rfl rfl rfl ?_
                      refine wp_iload_n dX10_takeClause_212 2 rfl ?_
                      obtain rfl := Option.some.inj h
                      exact wp_ireturn (ty := .int) dX10_takeClause_213 rfl rfl ⟨rfl, rfl, rfl, rfl⟩
                    · replace h := o_pos h c180
                      refine wp_aload_n dX10_takeClause_183 0 rfl ?_
                      obtain ⟨r184, h184, h⟩ := o_bind h
                      refine wp_callvI (k := 55) (ci := 10) (c_X10_here Γ ad (upI r167.2 55 35 (r167.2 55 24)) r1.2 r184 h184) dX10_takeClause_184 mlX10_153 mwX10_here miX10_here rfl rfl rfl rfl (Nat.le_of_ble_eq_true rfl) rfl (by decide) (by decide) ?_
                      refine wp_bipush (v := 59) dX10_takeClause_187 (by decide) ?_
                      refine wp_icmp_eq 202 dX10_takeClause_189 rfl (fun c189 => ?_) (fun c189 => ?_)
                      · replace h := o_pos h c189
                        refine wp_aload_n dX10_takeClause_202 0 rfl ?_
                        refine wp_dup dX10_takeClause_203 rfl ?_
                        refine wp_getI (k := 55) dX10_takeClause_204 flX10_150 rfl rfl rfl rfl ?_
                        refine wp_iconst (v := 1) dX10_takeClause_207 (by decide) ?_
                        refine wp_iadd dX10_takeClause_208 ?_
                        refine wp_putI (k := 55) dX10_takeClause_209 flX10_150 rfl rfl rfl rfl rfl rfl rfl rfl ?_
                        refine wp_iload_n dX10_takeClause_212 2 rfl ?_
                        obtain rfl := Option.some.inj h
                        exact wp_ireturn (ty := .int) dX10_takeClause_213 rfl rfl ⟨rfl, rfl, rfl, rfl⟩
                      · replace h := o_neg h c189
                        refine wp_aload_n dX10_takeClause_192 0 rfl ?_
                        refine wp_iconst (v := 1) dX10_takeClause_193 (by decide) ?_
                        refine wp_aload_n dX10_takeClause_194 0 rfl ?_
                        refine wp_getI (k := 55) dX10_takeClause_195 flX10_150 rfl rfl rfl rfl ?_
                        obtain ⟨r198, h198, h⟩ := o_bind h
                        refine wp_callvI (k := 55) (ci := 10) (c_X10_fails Γ ad 1 (r184.2 55 21) r184.2 r1.2 r198 h198) dX10_takeClause_198 mlX10_179 mwX10_fails miX10_fails rfl rfl rfl rfl (Nat.le_of_ble_eq_true rfl) rfl (by decide) (by decide) ?_
                        obtain rfl := Option.some.inj h
                        exact wp_ireturn (ty := .int) dX10_takeClause_201 rfl rfl ⟨rfl, rfl, rfl, rfl⟩
          · replace h := o_neg h c64
            refine wp_aload_n dX10_takeClause_67 0 rfl ?_
            refine wp_iconst (v := 4) dX10_takeClause_68 (by decide) ?_
            refine wp_aload_n dX10_takeClause_69 0 rfl ?_
            refine wp_getI (k := 55) dX10_takeClause_70 flX10_150 rfl rfl rfl rfl ?_
            obtain ⟨r73, h73, h⟩ := o_bind h
            refine wp_callvI (k := 55) (ci := 10) (c_X10_fails Γ ad 4 (r1.1 55 21) r1.1 r1.2 r73 h73) dX10_takeClause_73 mlX10_179 mwX10_fails miX10_fails rfl rfl rfl rfl (Nat.le_of_ble_eq_true rfl) rfl (by decide) (by decide) ?_
            obtain rfl := Option.some.inj h
            exact wp_ireturn (ty := .int) dX10_takeClause_76 rfl rfl ⟨rfl, rfl, rfl, rfl⟩
      · replace h := o_pos h c40
        refine wp_aload_n dX10_takeClause_43 0 rfl ?_
        refine wp_getI (k := 55) dX10_takeClause_44 flX10_200 rfl rfl rfl rfl ?_
        refine wp_aload_n dX10_takeClause_47 0 rfl ?_
        refine wp_getI (k := 55) dX10_takeClause_48 flX10_203 rfl rfl rfl rfl ?_
        refine wp_iadd dX10_takeClause_51 ?_
        refine wp_if_gt 67 dX10_takeClause_52 rfl (fun c52 => ?_) (fun c52 => ?_)
        · replace h := o_pos h c52
          refine wp_aload_n dX10_takeClause_67 0 rfl ?_
          refine wp_iconst (v := 4) dX10_takeClause_68 (by decide) ?_
          refine wp_aload_n dX10_takeClause_69 0 rfl ?_
          refine wp_getI (k := 55) dX10_takeClause_70 flX10_150 rfl rfl rfl rfl ?_
          obtain ⟨r73, h73, h⟩ := o_bind h
          refine wp_callvI (k := 55) (ci := 10) (c_X10_fails Γ ad 4 (r1.1 55 21) r1.1 r1.2 r73 h73) dX10_takeClause_73 mlX10_179 mwX10_fails miX10_fails rfl rfl rfl rfl (Nat.le_of_ble_eq_true rfl) rfl (by decide) (by decide) ?_
          obtain rfl := Option.some.inj h
          exact wp_ireturn (ty := .int) dX10_takeClause_76 rfl rfl ⟨rfl, rfl, rfl, rfl⟩
        · replace h := o_neg h c52
          refine wp_iload_n dX10_takeClause_55 1 rfl ?_
          refine wp_iconst (v := 1) dX10_takeClause_56 (by decide) ?_
          refine wp_icmp_ne 77 dX10_takeClause_57 rfl (fun c57 => ?_) (fun c57 => ?_)
          · replace h := o_neg h c57
            refine wp_aload_n dX10_takeClause_77 0 rfl ?_
            refine wp_aload_n dX10_takeClause_78 0 rfl ?_
            refine wp_getI (k := 55) dX10_takeClause_79 flX10_160 rfl rfl rfl rfl ?_
            refine wp_putI (k := 55) dX10_takeClause_82 flX10_150 rfl rfl rfl rfl rfl rfl rfl rfl ?_
            refine wp_iconst (v := 0) dX10_takeClause_85 (by decide) ?_
            refine wp_istore_n (lv' := [(0, _), (1, _), (2, _)]) dX10_takeClause_86 rfl rfl rfl rfl ?_
            refine wp_iload_n dX10_takeClause_87 1 rfl ?_
            by_cases e88_0 : r5 = 0
            · replace h := o_pos h e88_0
              refine wp_tableIn (off := 32) 120 dX10_takeClause_88 (by rw [e88_0]; decide) (by rw [e88_0]; decide) (by rw [e88_0]; rfl) rfl ?_
              refine wp_aload_n dX10_takeClause_120 0 rfl ?_
              obtain ⟨r121, h121, h⟩ := o_bind h
              refine wp_callvI (k := 55) (ci := 10) (c_X10_takeSeller Γ ad (upI r1.1 55 21 (r1.1 55 23)) r1.2 r121 h121) dX10_takeClause_121 mlX10_230 mwX10_takeSeller miX10_takeSeller rfl rfl rfl rfl (Nat.le_of_ble_eq_true rfl) rfl (by decide) (by decide) ?_
              refine wp_istore_n (lv' := [(0, _), (1, _), (2, _)]) dX10_takeClause_124 rfl rfl rfl rfl ?_
              refine wp_goto 179 dX10_takeClause_125 rfl ?_
              refine wp_iload_n dX10_takeClause_179 2 rfl ?_
              refine wp_if_ne 202 dX10_takeClause_180 rfl (fun c180 => ?_) (fun c180 => ?_)
              · replace h := o_neg h c180
                refine wp_aload_n dX10_takeClause_202 0 rfl ?_
                refine wp_dup dX10_takeClause_203 rfl ?_
                refine wp_getI (k := 55) dX10_takeClause_204 flX10_150 rfl rfl rfl rfl ?_
                refine wp_iconst (v := 1) dX10_takeClause_207 (by decide) ?_
                refine wp_iadd dX10_takeClause_208 ?_
                refine wp_putI (k := 55) dX10_takeClause_209 flX10_150 rfl rfl rfl rfl rfl rfl rfl rfl ?_
                refine wp_iload_n dX10_takeClause_212 2 rfl ?_
                obtain rfl := Option.some.inj h
                exact wp_ireturn (ty := .int) dX10_takeClause_213 rfl rfl ⟨rfl, rfl, rfl, rfl⟩
              · replace h := o_pos h c180
                refine wp_aload_n dX10_takeClause_183 0 rfl ?_
                obtain ⟨r184, h184, h⟩ := o_bind h
                refine wp_callvI (k := 55) (ci := 10) (c_X10_here Γ ad r121.2 r1.2 r184 h184) dX10_takeClause_184 mlX10_153 mwX10_here miX10_here rfl rfl rfl rfl (Nat.le_of_ble_eq_true rfl) rfl (by decide) (by decide) ?_
                refine wp_bipush (v := 59) dX10_takeClause_187 (by decide) ?_
                refine wp_icmp_eq 202 dX10_takeClause_189 rfl (fun c189 => ?_) (fun c189 => ?_)
                · replace h := o_pos h c189
                  refine wp_aload_n dX10_takeClause_202 0 rfl ?_
                  refine wp_dup dX10_takeClause_203 rfl ?_
                  refine wp_getI (k := 55) dX10_takeClause_204 flX10_150 rfl rfl rfl rfl ?_
                  refine wp_iconst (v := 1) dX10_takeClause_207 (by decide) ?_
                  refine wp_iadd dX10_takeClause_208 ?_
                  refine wp_putI (k := 55) dX10_takeClause_209 flX10_150 rfl rfl rfl rfl rfl rfl rfl rfl ?_
                  refine wp_iload_n dX10_takeClause_212 2 rfl ?_
                  obtain rfl := Option.some.inj h
                  exact wp_ireturn (ty := .int) dX10_takeClause_213 rfl rfl ⟨rfl, rfl, rfl, rfl⟩
                · replace h := o_neg h c189
                  refine wp_aload_n dX10_takeClause_192 0 rfl ?_
                  refine wp_iconst (v := 1) dX10_takeClause_193 (by decide) ?_
                  refine wp_aload_n dX10_takeClause_194 0 rfl ?_
                  refine wp_getI (k := 55) dX10_takeClause_195 flX10_150 rfl rfl rfl rfl ?_
                  obtain ⟨r198, h198, h⟩ := o_bind h
                  refine wp_callvI (k := 55) (ci := 10) (c_X10_fails Γ ad 1 (r184.2 55 21) r184.2 r1.2 r198 h198) dX10_takeClause_198 mlX10_179 mwX10_fails miX10_fails rfl rfl rfl rfl (Nat.le_of_ble_eq_true rfl) rfl (by decide) (by decide) ?_
                  obtain rfl := Option.some.inj h
                  exact wp_ireturn (ty := .int) dX10_takeClause_201 rfl rfl ⟨rfl, rfl, rfl, rfl⟩
            · replace h := o_neg h e88_0
              by_cases e88_1 : r5 = 1
              · replace h := o_pos h e88_1
                refine wp_tableIn (off := 40) 128 dX10_takeClause_88 (by rw [e88_1]; decide) (by rw [e88_1]; decide) (by rw [e88_1]; rfl) rfl ?_
                refine wp_aload_n dX10_takeClause_128 0 rfl ?_
                obtain ⟨r129, h129, h⟩ := o_bind h
                refine wp_callvI (k := 55) (ci := 10) (c_X10_takeBuyer Γ ad (upI r1.1 55 21 (r1.1 55 23)) r1.2 r129 h129) dX10_takeClause_129 mlX10_233 mwX10_takeBuyer miX10_takeBuyer rfl rfl rfl rfl (Nat.le_of_ble_eq_true rfl) rfl (by decide) (by decide) ?_
                refine wp_istore_n (lv' := [(0, _), (1, _), (2, _)]) dX10_takeClause_132 rfl rfl rfl rfl ?_
                refine wp_goto 179 dX10_takeClause_133 rfl ?_
                refine wp_iload_n dX10_takeClause_179 2 rfl ?_
                refine wp_if_ne 202 dX10_takeClause_180 rfl (fun c180 => ?_) (fun c180 => ?_)
                · replace h := o_neg h c180
                  refine wp_aload_n dX10_takeClause_202 0 rfl ?_
                  refine wp_dup dX10_takeClause_203 rfl ?_
                  refine wp_getI (k := 55) dX10_takeClause_204 flX10_150 rfl rfl rfl rfl ?_
                  refine wp_iconst (v := 1) dX10_takeClause_207 (by decide) ?_
                  refine wp_iadd dX10_takeClause_208 ?_
                  refine wp_putI (k := 55) dX10_takeClause_209 flX10_150 rfl rfl rfl rfl rfl rfl rfl rfl ?_
                  refine wp_iload_n dX10_takeClause_212 2 rfl ?_
                  obtain rfl := Option.some.inj h
                  exact wp_ireturn (ty := .int) dX10_takeClause_213 rfl rfl ⟨rfl, rfl, rfl, rfl⟩
                · replace h := o_pos h c180
                  refine wp_aload_n dX10_takeClause_183 0 rfl ?_
                  obtain ⟨r184, h184, h⟩ := o_bind h
                  refine wp_callvI (k := 55) (ci := 10) (c_X10_here Γ ad r129.2 r1.2 r184 h184) dX10_takeClause_184 mlX10_153 mwX10_here miX10_here rfl rfl rfl rfl (Nat.le_of_ble_eq_true rfl) rfl (by decide) (by decide) ?_
                  refine wp_bipush (v := 59) dX10_takeClause_187 (by decide) ?_
                  refine wp_icmp_eq 202 dX10_takeClause_189 rfl (fun c189 => ?_) (fun c189 => ?_)
                  · replace h := o_pos h c189
                    refine wp_aload_n dX10_takeClause_202 0 rfl ?_
                    refine wp_dup dX10_takeClause_203 rfl ?_
                    refine wp_getI (k := 55) dX10_takeClause_204 flX10_150 rfl rfl rfl rfl ?_
                    refine wp_iconst (v := 1) dX10_takeClause_207 (by decide) ?_
                    refine wp_iadd dX10_takeClause_208 ?_
                    refine wp_putI (k := 55) dX10_takeClause_209 flX10_150 rfl rfl rfl rfl rfl rfl rfl rfl ?_
                    refine wp_iload_n dX10_takeClause_212 2 rfl ?_
                    obtain rfl := Option.some.inj h
                    exact wp_ireturn (ty := .int) dX10_takeClause_213 rfl rfl ⟨rfl, rfl, rfl, rfl⟩
                  · replace h := o_neg h c189
                    refine wp_aload_n dX10_takeClause_192 0 rfl ?_
                    refine wp_iconst (v := 1) dX10_takeClause_193 (by decide) ?_
                    refine wp_aload_n dX10_takeClause_194 0 rfl ?_
                    refine wp_getI (k := 55) dX10_takeClause_195 flX10_150 rfl rfl rfl rfl ?_
                    obtain ⟨r198, h198, h⟩ := o_bind h
                    refine wp_callvI (k := 55) (ci := 10) (c_X10_fails Γ ad 1 (r184.2 55 21) r184.2 r1.2 r198 h198) dX10_takeClause_198 mlX10_179 mwX10_fails miX10_fails rfl rfl rfl rfl (Nat.le_of_ble_eq_true rfl) rfl (by decide) (by decide) ?_
                    obtain rfl := Option.some.inj h
                    exact wp_ireturn (ty := .int) dX10_takeClause_201 rfl rfl ⟨rfl, rfl, rfl, rfl⟩
              · replace h := o_neg h e88_1
                by_cases e88_2 : r5 = 2
                · replace h := o_pos h e88_2
                  refine wp_tableIn (off := 48) 136 dX10_takeClause_88 (by rw [e88_2]; decide) (by rw [e88_2]; decide) (by rw [e88_2]; rfl) rfl ?_
                  refine wp_aload_n dX10_takeClause_136 0 rfl ?_
                  obtain ⟨r137, h137, h⟩ := o_bind h
                  refine wp_callvI (k := 55) (ci := 10) (c_X10_takeBroker Γ ad (upI r1.1 55 21 (r1.1 55 23)) r1.2 r137 h137) dX10_takeClause_137 mlX10_236 mwX10_takeBroker miX10_takeBroker rfl rfl rfl rfl (Nat.le_of_ble_eq_true rfl) rfl (by decide) (by decide) ?_
                  refine wp_istore_n (lv' := [(0, _), (1, _), (2, _)]) dX10_takeClause_140 rfl rfl rfl rfl ?_
                  refine wp_goto 179 dX10_takeClause_141 rfl ?_
                  refine wp_iload_n dX10_takeClause_179 2 rfl ?_
                  refine wp_if_ne 202 dX10_takeClause_180 rfl (fun c180 => ?_) (fun c180 => ?_)
                  · replace h := o_neg h c180
                    refine wp_aload_n dX10_takeClause_202 0 rfl ?_
                    refine wp_dup dX10_takeClause_203 rfl ?_
                    refine wp_getI (k := 55) dX10_takeClause_204 flX10_150 rfl rfl rfl rfl ?_
                    refine wp_iconst (v := 1) dX10_takeClause_207 (by decide) ?_
                    refine wp_iadd dX10_takeClause_208 ?_
                    refine wp_putI (k := 55) dX10_takeClause_209 flX10_150 rfl rfl rfl rfl rfl rfl rfl rfl ?_
                    refine wp_iload_n dX10_takeClause_212 2 rfl ?_
                    obtain rfl := Option.some.inj h
                    exact wp_ireturn (ty := .int) dX10_takeClause_213 rfl rfl ⟨rfl, rfl, rfl, rfl⟩
                  · replace h := o_pos h c180
                    refine wp_aload_n dX10_takeClause_183 0 rfl ?_
                    obtain ⟨r184, h184, h⟩ := o_bind h
                    refine wp_callvI (k := 55) (ci := 10) (c_X10_here Γ ad r137.2 r1.2 r184 h184) dX10_takeClause_184 mlX10_153 mwX10_here miX10_here rfl rfl rfl rfl (Nat.le_of_ble_eq_true rfl) rfl (by decide) (by decide) ?_
                    refine wp_bipush (v := 59) dX10_takeClause_187 (by decide) ?_
                    refine wp_icmp_eq 202 dX10_takeClause_189 rfl (fun c189 => ?_) (fun c189 => ?_)
                    · replace h := o_pos h c189
                      refine wp_aload_n dX10_takeClause_202 0 rfl ?_
                      refine wp_dup dX10_takeClause_203 rfl ?_
                      refine wp_getI (k := 55) dX10_takeClause_204 flX10_150 rfl rfl rfl rfl ?_
                      refine wp_iconst (v := 1) dX10_takeClause_207 (by decide) ?_
                      refine wp_iadd dX10_takeClause_208 ?_
                      refine wp_putI (k := 55) dX10_takeClause_209 flX10_150 rfl rfl rfl rfl rfl rfl rfl rfl ?_
                      refine wp_iload_n dX10_takeClause_212 2 rfl ?_
                      obtain rfl := Option.some.inj h
                      exact wp_ireturn (ty := .int) dX10_takeClause_213 rfl rfl ⟨rfl, rfl, rfl, rfl⟩
                    · replace h := o_neg h c189
                      refine wp_aload_n dX10_takeClause_192 0 rfl ?_
                      refine wp_iconst (v := 1) dX10_takeClause_193 (by decide) ?_
                      refine wp_aload_n dX10_takeClause_194 0 rfl ?_
                      refine wp_getI (k := 55) dX10_takeClause_195 flX10_150 rfl rfl rfl rfl ?_
                      obtain ⟨r198, h198, h⟩ := o_bind h
                      refine wp_callvI (k := 55) (ci := 10) (c_X10_fails Γ ad 1 (r184.2 55 21) r184.2 r1.2 r198 h198) dX10_takeClause_198 mlX10_179 mwX10_fails miX10_fails rfl rfl rfl rfl (Nat.le_of_ble_eq_true rfl) rfl (by decide) (by decide) ?_
                      obtain rfl := Option.some.inj h
                      exact wp_ireturn (ty := .int) dX10_takeClause_201 rfl rfl ⟨rfl, rfl, rfl, rfl⟩
                · replace h := o_neg h e88_2
                  by_cases e88_3 : r5 = 3
                  · replace h := o_pos h e88_3
                    refine wp_tableIn (off := 56) 144 dX10_takeClause_88 (by rw [e88_3]; decide) (by rw [e88_3]; decide) (by rw [e88_3]; rfl) rfl ?_
                    refine wp_aload_n dX10_takeClause_144 0 rfl ?_
                    refine wp_iconst (v := 1) dX10_takeClause_145 (by decide) ?_
                    refine wp_bipush (v := 99) dX10_takeClause_146 (by decide) ?_
                    obtain ⟨r148, h148, h⟩ := o_bind h
                    refine wp_callvI (k := 55) (ci := 10) (c_X10_takeNumber Γ ad 1 99 (upI r1.1 55 21 (r1.1 55 23)) r1.2 r148 h148) dX10_takeClause_148 mlX10_190 mwX10_takeNumber miX10_takeNumber rfl rfl rfl rfl (Nat.le_of_ble_eq_true rfl) rfl (by decide) (by decide) ?_
                    refine wp_istore_n (lv' := [(0, _), (1, _), (2, _)]) dX10_takeClause_151 rfl rfl rfl rfl ?_
                    refine wp_aload_n dX10_takeClause_152 0 rfl ?_
                    refine wp_aload_n dX10_takeClause_153 0 rfl ?_
                    refine wp_getI (k := 55) dX10_takeClause_154 flX10_186 rfl rfl rfl rfl ?_
                    refine wp_putI (k := 55) dX10_takeClause_157 flX10_214 rfl rfl rfl rfl rfl rfl rfl rfl ?_
                    refine wp_goto 179 dX10_takeClause_160 rfl ?_
                    refine wp_iload_n dX10_takeClause_179 2 rfl ?_
                    refine wp_if_ne 202 dX10_takeClause_180 rfl (fun c180 => ?_) (fun c180 => ?_)
                    · replace h := o_neg h c180
                      refine wp_aload_n dX10_takeClause_202 0 rfl ?_
                      refine wp_dup dX10_takeClause_203 rfl ?_
                      refine wp_getI (k := 55) dX10_takeClause_204 flX10_150 rfl rfl rfl rfl ?_
                      refine wp_iconst (v := 1) dX10_takeClause_207 (by decide) ?_
                      refine wp_iadd dX10_takeClause_208 ?_
                      refine wp_putI (k := 55) dX10_takeClause_209 flX10_150 rfl rfl rfl rfl rfl rfl rfl rfl ?_
                      refine wp_iload_n dX10_takeClause_212 2 rfl ?_
                      obtain rfl := Option.some.inj h
                      exact wp_ireturn (ty := .int) dX10_takeClause_213 rfl rfl ⟨rfl, rfl, rfl, rfl⟩
                    · replace h := o_pos h c180
                      refine wp_aload_n dX10_takeClause_183 0 rfl ?_
                      obtain ⟨r184, h184, h⟩ := o_bind h
                      refine wp_callvI (k := 55) (ci := 10) (c_X10_here Γ ad (upI r148.2 55 34 (r148.2 55 24)) r1.2 r184 h184) dX10_takeClause_184 mlX10_153 mwX10_here miX10_here rfl rfl rfl rfl (Nat.le_of_ble_eq_true rfl) rfl (by decide) (by decide) ?_
                      refine wp_bipush (v := 59) dX10_takeClause_187 (by decide) ?_
                      refine wp_icmp_eq 202 dX10_takeClause_189 rfl (fun c189 => ?_) (fun c189 => ?_)
                      · replace h := o_pos h c189
                        refine wp_aload_n dX10_takeClause_202 0 rfl ?_
                        refine wp_dup dX10_takeClause_203 rfl ?_
                        refine wp_getI (k := 55) dX10_takeClause_204 flX10_150 rfl rfl rfl rfl ?_
                        refine wp_iconst (v := 1) dX10_takeClause_207 (by decide) ?_
                        refine wp_iadd dX10_takeClause_208 ?_
                        refine wp_putI (k := 55) dX10_takeClause_209 flX10_150 rfl rfl rfl rfl rfl rfl rfl rfl ?_
                        refine wp_iload_n dX10_takeClause_212 2 rfl ?_
                        obtain rfl := Option.some.inj h
                        exact wp_ireturn (ty := .int) dX10_takeClause_213 rfl rfl ⟨rfl, rfl, rfl, rfl⟩
                      · replace h := o_neg h c189
                        refine wp_aload_n dX10_takeClause_192 0 rfl ?_
                        refine wp_iconst (v := 1) dX10_takeClause_193 (by decide) ?_
                        refine wp_aload_n dX10_takeClause_194 0 rfl ?_
                        refine wp_getI (k := 55) dX10_takeClause_195 flX10_150 rfl rfl rfl rfl ?_
                        obtain ⟨r198, h198, h⟩ := o_bind h
                        refine wp_callvI (k := 55) (ci := 10) (c_X10_fails Γ ad 1 (r184.2 55 21) r184.2 r1.2 r198 h198) dX10_takeClause_198 mlX10_179 mwX10_fails miX10_fails rfl rfl rfl rfl (Nat.le_of_ble_eq_true rfl) rfl (by decide) (by decide) ?_
                        obtain rfl := Option.some.inj h
                        exact wp_ireturn (ty := .int) dX10_takeClause_201 rfl rfl ⟨rfl, rfl, rfl, rfl⟩
                  · replace h := o_neg h e88_3
                    refine wp_tableOut 163 dX10_takeClause_88 (by have n0 := lv_neT (a := 0) e88_0 (by decide); have n1 := lv_neT (a := 1) e88_1 (by decide); have n2 := lv_neT (a := 2) e88_2 (by decide); have n3 := lv_neT (a := 3) e88_3 (by decide); omega) rfl ?_
                    refine wp_aload_n dX10_takeClause_163 0 rfl ?_
                    refine wp_iconst (v := 0) dX10_takeClause_164 (by decide) ?_
                    refine wp_bipush (v := 99) dX10_takeClause_165 (by decide) ?_
                    obtain ⟨r167, h167, h⟩ := o_bind h
                    refine wp_callvI (k := 55) (ci := 10) (c_X10_takeNumber Γ ad 0 99 (upI r1.1 55 21 (r1.1 55 23)) r1.2 r167 h167) dX10_takeClause_167 mlX10_190 mwX10_takeNumber miX10_takeNumber rfl rfl rfl rfl (Nat.le_of_ble_eq_true rfl) rfl (by decide) (by decide) ?_
                    refine wp_istore_n (lv' := [(0, _), (1, _), (2, _)]) dX10_takeClause_170 rfl rfl rfl rfl ?_
                    refine wp_aload_n dX10_takeClause_171 0 rfl ?_
                    refine wp_aload_n dX10_takeClause_172 0 rfl ?_
                    refine wp_getI (k := 55) dX10_takeClause_173 flX10_186 rfl rfl rfl rfl ?_
                    refine wp_putI (k := 55) dX10_takeClause_176 flX10_217 rfl rfl rfl rfl rfl rfl rfl rfl ?_
                    refine wp_iload_n dX10_takeClause_179 2 rfl ?_
                    refine wp_if_ne 202 dX10_takeClause_180 rfl (fun c180 => ?_) (fun c180 => ?_)
                    · replace h := o_neg h c180
                      refine wp_aload_n dX10_takeClause_202 0 rfl ?_
                      refine wp_dup dX10_takeClause_203 rfl ?_
                      refine wp_getI (k := 55) dX10_takeClause_204 flX10_150 rfl rfl rfl rfl ?_
                      refine wp_iconst (v := 1) dX10_takeClause_207 (by decide) ?_
                      refine wp_iadd dX10_takeClause_208 ?_
                      refine wp_putI (k := 55) dX10_takeClause_209 flX10_150 rfl rfl rfl rfl rfl rfl rfl rfl ?_
                      refine wp_iload_n dX10_takeClause_212 2 rfl ?_
                      obtain rfl := Option.some.inj h
                      exact wp_ireturn (ty := .int) dX10_takeClause_213 rfl rfl ⟨rfl, rfl, rfl, rfl⟩
                    · replace h := o_pos h c180
                      refine wp_aload_n dX10_takeClause_183 0 rfl ?_
                      obtain ⟨r184, h184, h⟩ := o_bind h
                      refine wp_callvI (k := 55) (ci := 10) (c_X10_here Γ ad (upI r167.2 55 35 (r167.2 55 24)) r1.2 r184 h184) dX10_takeClause_184 mlX10_153 mwX10_here miX10_here rfl rfl rfl rfl (Nat.le_of_ble_eq_true rfl) rfl (by decide) (by decide) ?_
                      refine wp_bipush (v := 59) dX10_takeClause_187 (by decide) ?_
                      refine wp_icmp_eq 202 dX10_takeClause_189 rfl (fun c189 => ?_) (fun c189 => ?_)
                      · replace h := o_pos h c189
                        refine wp_aload_n dX10_takeClause_202 0 rfl ?_
                        refine wp_dup dX10_takeClause_203 rfl ?_
                        refine wp_getI (k := 55) dX10_takeClause_204 flX10_150 rfl rfl rfl rfl ?_
                        refine wp_iconst (v := 1) dX10_takeClause_207 (by decide) ?_
                        refine wp_iadd dX10_takeClause_208 ?_
                        refine wp_putI (k := 55) dX10_takeClause_209 flX10_150 rfl rfl rfl rfl rfl rfl rfl rfl ?_
                        refine wp_iload_n dX10_takeClause_212 2 rfl ?_
                        obtain rfl := Option.some.inj h
                        exact wp_ireturn (ty := .int) dX10_takeClause_213 rfl rfl ⟨rfl, rfl, rfl, rfl⟩
                      · replace h := o_neg h c189
                        refine wp_aload_n dX10_takeClause_192 0 rfl ?_
                        refine wp_iconst (v := 1) dX10_takeClause_193 (by decide) ?_
                        refine wp_aload_n dX10_takeClause_194 0 rfl ?_
                        refine wp_getI (k := 55) dX10_takeClause_195 flX10_150 rfl rfl rfl rfl ?_
                        obtain ⟨r198, h198, h⟩ := o_bind h
                        refine wp_callvI (k := 55) (ci := 10) (c_X10_fails Γ ad 1 (r184.2 55 21) r184.2 r1.2 r198 h198) dX10_takeClause_198 mlX10_179 mwX10_fails miX10_fails rfl rfl rfl rfl (Nat.le_of_ble_eq_true rfl) rfl (by decide) (by decide) ?_
                        obtain rfl := Option.some.inj h
                        exact wp_ireturn (ty := .int) dX10_takeClause_201 rfl rfl ⟨rfl, rfl, rfl, rfl⟩
          · replace h := o_pos h c57
            refine wp_aload_n dX10_takeClause_60 0 rfl ?_
            refine wp_getI (k := 55) dX10_takeClause_61 flX10_203 rfl rfl rfl rfl ?_
            refine wp_if_le 77 dX10_takeClause_64 rfl (fun c64 => ?_) (fun c64 => ?_)
            · replace h := o_pos h c64
              refine wp_aload_n dX10_takeClause_77 0 rfl ?_
              refine wp_aload_n dX10_takeClause_78 0 rfl ?_
              refine wp_getI (k := 55) dX10_takeClause_79 flX10_160 rfl rfl rfl rfl ?_
              refine wp_putI (k := 55) dX10_takeClause_82 flX10_150 rfl rfl rfl rfl rfl rfl rfl rfl ?_
              refine wp_iconst (v := 0) dX10_takeClause_85 (by decide) ?_
              refine wp_istore_n (lv' := [(0, _), (1, _), (2, _)]) dX10_takeClause_86 rfl rfl rfl rfl ?_
              refine wp_iload_n dX10_takeClause_87 1 rfl ?_
              by_cases e88_0 : r5 = 0
              · replace h := o_pos h e88_0
                refine wp_tableIn (off := 32) 120 dX10_takeClause_88 (by rw [e88_0]; decide) (by rw [e88_0]; decide) (by rw [e88_0]; rfl) rfl ?_
                refine wp_aload_n dX10_takeClause_120 0 rfl ?_
                obtain ⟨r121, h121, h⟩ := o_bind h
                refine wp_callvI (k := 55) (ci := 10) (c_X10_takeSeller Γ ad (upI r1.1 55 21 (r1.1 55 23)) r1.2 r121 h121) dX10_takeClause_121 mlX10_230 mwX10_takeSeller miX10_takeSeller rfl rfl rfl rfl (Nat.le_of_ble_eq_true rfl) rfl (by decide) (by decide) ?_
                refine wp_istore_n (lv' := [(0, _), (1, _), (2, _)]) dX10_takeClause_124 rfl rfl rfl rfl ?_
                refine wp_goto 179 dX10_takeClause_125 rfl ?_
                refine wp_iload_n dX10_takeClause_179 2 rfl ?_
                refine wp_if_ne 202 dX10_takeClause_180 rfl (fun c180 => ?_) (fun c180 => ?_)
                · replace h := o_neg h c180
                  refine wp_aload_n dX10_takeClause_202 0 rfl ?_
                  refine wp_dup dX10_takeClause_203 rfl ?_
                  refine wp_getI (k := 55) dX10_takeClause_204 flX10_150 rfl rfl rfl rfl ?_
                  refine wp_iconst (v := 1) dX10_takeClause_207 (by decide) ?_
                  refine wp_iadd dX10_takeClause_208 ?_
                  refine wp_putI (k := 55) dX10_takeClause_209 flX10_150 rfl rfl rfl rfl rfl rfl rfl rfl ?_
                  refine wp_iload_n dX10_takeClause_212 2 rfl ?_
                  obtain rfl := Option.some.inj h
                  exact wp_ireturn (ty := .int) dX10_takeClause_213 rfl rfl ⟨rfl, rfl, rfl, rfl⟩
                · replace h := o_pos h c180
                  refine wp_aload_n dX10_takeClause_183 0 rfl ?_
                  obtain ⟨r184, h184, h⟩ := o_bind h
                  refine wp_callvI (k := 55) (ci := 10) (c_X10_here Γ ad r121.2 r1.2 r184 h184) dX10_takeClause_184 mlX10_153 mwX10_here miX10_here rfl rfl rfl rfl (Nat.le_of_ble_eq_true rfl) rfl (by decide) (by decide) ?_
                  refine wp_bipush (v := 59) dX10_takeClause_187 (by decide) ?_
                  refine wp_icmp_eq 202 dX10_takeClause_189 rfl (fun c189 => ?_) (fun c189 => ?_)
                  · replace h := o_pos h c189
                    refine wp_aload_n dX10_takeClause_202 0 rfl ?_
                    refine wp_dup dX10_takeClause_203 rfl ?_
                    refine wp_getI (k := 55) dX10_takeClause_204 flX10_150 rfl rfl rfl rfl ?_
                    refine wp_iconst (v := 1) dX10_takeClause_207 (by decide) ?_
                    refine wp_iadd dX10_takeClause_208 ?_
                    refine wp_putI (k := 55) dX10_takeClause_209 flX10_150 rfl rfl rfl rfl rfl rfl rfl rfl ?_
                    refine wp_iload_n dX10_takeClause_212 2 rfl ?_
                    obtain rfl := Option.some.inj h
                    exact wp_ireturn (ty := .int) dX10_takeClause_213 rfl rfl ⟨rfl, rfl, rfl, rfl⟩
                  · replace h := o_neg h c189
                    refine wp_aload_n dX10_takeClause_192 0 rfl ?_
                    refine wp_iconst (v := 1) dX10_takeClause_193 (by decide) ?_
                    refine wp_aload_n dX10_takeClause_194 0 rfl ?_
                    refine wp_getI (k := 55) dX10_takeClause_195 flX10_150 rfl rfl rfl rfl ?_
                    obtain ⟨r198, h198, h⟩ := o_bind h
                    refine wp_callvI (k := 55) (ci := 10) (c_X10_fails Γ ad 1 (r184.2 55 21) r184.2 r1.2 r198 h198) dX10_takeClause_198 mlX10_179 mwX10_fails miX10_fails rfl rfl rfl rfl (Nat.le_of_ble_eq_true rfl) rfl (by decide) (by decide) ?_
                    obtain rfl := Option.some.inj h
                    exact wp_ireturn (ty := .int) dX10_takeClause_201 rfl rfl ⟨rfl, rfl, rfl, rfl⟩
              · replace h := o_neg h e88_0
                by_cases e88_1 : r5 = 1
                · replace h := o_pos h e88_1
                  refine wp_tableIn (off := 40) 128 dX10_takeClause_88 (by rw [e88_1]; decide) (by rw [e88_1]; decide) (by rw [e88_1]; rfl) rfl ?_
                  refine wp_aload_n dX10_takeClause_128 0 rfl ?_
                  obtain ⟨r129, h129, h⟩ := o_bind h
                  refine wp_callvI (k := 55) (ci := 10) (c_X10_takeBuyer Γ ad (upI r1.1 55 21 (r1.1 55 23)) r1.2 r129 h129) dX10_takeClause_129 mlX10_233 mwX10_takeBuyer miX10_takeBuyer rfl rfl rfl rfl (Nat.le_of_ble_eq_true rfl) rfl (by decide) (by decide) ?_
                  refine wp_istore_n (lv' := [(0, _), (1, _), (2, _)]) dX10_takeClause_132 rfl rfl rfl rfl ?_
                  refine wp_goto 179 dX10_takeClause_133 rfl ?_
                  refine wp_iload_n dX10_takeClause_179 2 rfl ?_
                  refine wp_if_ne 202 dX10_takeClause_180 rfl (fun c180 => ?_) (fun c180 => ?_)
                  · replace h := o_neg h c180
                    refine wp_aload_n dX10_takeClause_202 0 rfl ?_
                    refine wp_dup dX10_takeClause_203 rfl ?_
                    refine wp_getI (k := 55) dX10_takeClause_204 flX10_150 rfl rfl rfl rfl ?_
                    refine wp_iconst (v := 1) dX10_takeClause_207 (by decide) ?_
                    refine wp_iadd dX10_takeClause_208 ?_
                    refine wp_putI (k := 55) dX10_takeClause_209 flX10_150 rfl rfl rfl rfl rfl rfl rfl rfl ?_
                    refine wp_iload_n dX10_takeClause_212 2 rfl ?_
                    obtain rfl := Option.some.inj h
                    exact wp_ireturn (ty := .int) dX10_takeClause_213 rfl rfl ⟨rfl, rfl, rfl, rfl⟩
                  · replace h := o_pos h c180
                    refine wp_aload_n dX10_takeClause_183 0 rfl ?_
                    obtain ⟨r184, h184, h⟩ := o_bind h
                    refine wp_callvI (k := 55) (ci := 10) (c_X10_here Γ ad r129.2 r1.2 r184 h184) dX10_takeClause_184 mlX10_153 mwX10_here miX10_here rfl rfl rfl rfl (Nat.le_of_ble_eq_true rfl) rfl (by decide) (by decide) ?_
                    refine wp_bipush (v := 59) dX10_takeClause_187 (by decide) ?_
                    refine wp_icmp_eq 202 dX10_takeClause_189 rfl (fun c189 => ?_) (fun c189 => ?_)
                    · replace h := o_pos h c189
                      refine wp_aload_n dX10_takeClause_202 0 rfl ?_
                      refine wp_dup dX10_takeClause_203 rfl ?_
                      refine wp_getI (k := 55) dX10_takeClause_204 flX10_150 rfl rfl rfl rfl ?_
                      refine wp_iconst (v := 1) dX10_takeClause_207 (by decide) ?_
                      refine wp_iadd dX10_takeClause_208 ?_
                      refine wp_putI (k := 55) dX10_takeClause_209 flX10_150 rfl rfl rfl rfl rfl rfl rfl rfl ?_
                      refine wp_iload_n dX10_takeClause_212 2 rfl ?_
                      obtain rfl := Option.some.inj h
                      exact wp_ireturn (ty := .int) dX10_takeClause_213 rfl rfl ⟨rfl, rfl, rfl, rfl⟩
                    · replace h := o_neg h c189
                      refine wp_aload_n dX10_takeClause_192 0 rfl ?_
                      refine wp_iconst (v := 1) dX10_takeClause_193 (by decide) ?_
                      refine wp_aload_n dX10_takeClause_194 0 rfl ?_
                      refine wp_getI (k := 55) dX10_takeClause_195 flX10_150 rfl rfl rfl rfl ?_
                      obtain ⟨r198, h198, h⟩ := o_bind h
                      refine wp_callvI (k := 55) (ci := 10) (c_X10_fails Γ ad 1 (r184.2 55 21) r184.2 r1.2 r198 h198) dX10_takeClause_198 mlX10_179 mwX10_fails miX10_fails rfl rfl rfl rfl (Nat.le_of_ble_eq_true rfl) rfl (by decide) (by decide) ?_
                      obtain rfl := Option.some.inj h
                      exact wp_ireturn (ty := .int) dX10_takeClause_201 rfl rfl ⟨rfl, rfl, rfl, rfl⟩
                · replace h := o_neg h e88_1
                  by_cases e88_2 : r5 = 2
                  · replace h := o_pos h e88_2
                    refine wp_tableIn (off := 48) 136 dX10_takeClause_88 (by rw [e88_2]; decide) (by rw [e88_2]; decide) (by rw [e88_2]; rfl) rfl ?_
                    refine wp_aload_n dX10_takeClause_136 0 rfl ?_
                    obtain ⟨r137, h137, h⟩ := o_bind h
                    refine wp_callvI (k := 55) (ci := 10) (c_X10_takeBroker Γ ad (upI r1.1 55 21 (r1.1 55 23)) r1.2 r137 h137) dX10_takeClause_137 mlX10_236 mwX10_takeBroker miX10_takeBroker rfl rfl rfl rfl (Nat.le_of_ble_eq_true rfl) rfl (by decide) (by decide) ?_
                    refine wp_istore_n (lv' := [(0, _), (1, _), (2, _)]) dX10_takeClause_140 rfl rfl rfl rfl ?_
                    refine wp_goto 179 dX10_takeClause_141 rfl ?_
                    refine wp_iload_n dX10_takeClause_179 2 rfl ?_
                    refine wp_if_ne 202 dX10_takeClause_180 rfl (fun c180 => ?_) (fun c180 => ?_)
                    · replace h := o_neg h c180
                      refine wp_aload_n dX10_takeClause_202 0 rfl ?_
                      refine wp_dup dX10_takeClause_203 rfl ?_
                      refine wp_getI (k := 55) dX10_takeClause_204 flX10_150 rfl rfl rfl rfl ?_
                      refine wp_iconst (v := 1) dX10_takeClause_207 (by decide) ?_
                      refine wp_iadd dX10_takeClause_208 ?_
                      refine wp_putI (k := 55) dX10_takeClause_209 flX10_150 rfl rfl rfl rfl rfl rfl rfl rfl ?_
                      refine wp_iload_n dX10_takeClause_212 2 rfl ?_
                      obtain rfl := Option.some.inj h
                      exact wp_ireturn (ty := .int) dX10_takeClause_213 rfl rfl ⟨rfl, rfl, rfl, rfl⟩
                    · replace h := o_pos h c180
                      refine wp_aload_n dX10_takeClause_183 0 rfl ?_
                      obtain ⟨r184, h184, h⟩ := o_bind h
                      refine wp_callvI (k := 55) (ci := 10) (c_X10_here Γ ad r137.2 r1.2 r184 h184) dX10_takeClause_184 mlX10_153 mwX10_here miX10_here rfl rfl rfl rfl (Nat.le_of_ble_eq_true rfl) rfl (by decide) (by decide) ?_
                      refine wp_bipush (v := 59) dX10_takeClause_187 (by decide) ?_
                      refine wp_icmp_eq 202 dX10_takeClause_189 rfl (fun c189 => ?_) (fun c189 => ?_)
                      · replace h := o_pos h c189
                        refine wp_aload_n dX10_takeClause_202 0 rfl ?_
                        refine wp_dup dX10_takeClause_203 rfl ?_
                        refine wp_getI (k := 55) dX10_takeClause_204 flX10_150 rfl rfl rfl rfl ?_
                        refine wp_iconst (v := 1) dX10_takeClause_207 (by decide) ?_
                        refine wp_iadd dX10_takeClause_208 ?_
                        refine wp_putI (k := 55) dX10_takeClause_209 flX10_150 rfl rfl rfl rfl rfl rfl rfl rfl ?_
                        refine wp_iload_n dX10_takeClause_212 2 rfl ?_
                        obtain rfl := Option.some.inj h
                        exact wp_ireturn (ty := .int) dX10_takeClause_213 rfl rfl ⟨rfl, rfl, rfl, rfl⟩
                      · replace h := o_neg h c189
                        refine wp_aload_n dX10_takeClause_192 0 rfl ?_
                        refine wp_iconst (v := 1) dX10_takeClause_193 (by decide) ?_
                        refine wp_aload_n dX10_takeClause_194 0 rfl ?_
                        refine wp_getI (k := 55) dX10_takeClause_195 flX10_150 rfl rfl rfl rfl ?_
                        obtain ⟨r198, h198, h⟩ := o_bind h
                        refine wp_callvI (k := 55) (ci := 10) (c_X10_fails Γ ad 1 (r184.2 55 21) r184.2 r1.2 r198 h198) dX10_takeClause_198 mlX10_179 mwX10_fails miX10_fails rfl rfl rfl rfl (Nat.le_of_ble_eq_true rfl) rfl (by decide) (by decide) ?_
                        obtain rfl := Option.some.inj h
                        exact wp_ireturn (ty := .int) dX10_takeClause_201 rfl rfl ⟨rfl, rfl, rfl, rfl⟩
                  · replace h := o_neg h e88_2
                    by_cases e88_3 : r5 = 3
                    · replace h := o_pos h e88_3
                      refine wp_tableIn (off := 56) 144 dX10_takeClause_88 (by rw [e88_3]; decide) (by rw [e88_3]; decide) (by rw [e88_3]; rfl) rfl ?_
                      refine wp_aload_n dX10_takeClause_144 0 rfl ?_
                      refine wp_iconst (v := 1) dX10_takeClause_145 (by decide) ?_
                      refine wp_bipush (v := 99) dX10_takeClause_146 (by decide) ?_
                      obtain ⟨r148, h148, h⟩ := o_bind h
                      refine wp_callvI (k := 55) (ci := 10) (c_X10_takeNumber Γ ad 1 99 (upI r1.1 55 21 (r1.1 55 23)) r1.2 r148 h148) dX10_takeClause_148 mlX10_190 mwX10_takeNumber miX10_takeNumber rfl rfl rfl rfl (Nat.le_of_ble_eq_true rfl) rfl (by decide) (by decide) ?_
                      refine wp_istore_n (lv' := [(0, _), (1, _), (2, _)]) dX10_takeClause_151 rfl rfl rfl rfl ?_
                      refine wp_aload_n dX10_takeClause_152 0 rfl ?_
                      refine wp_aload_n dX10_takeClause_153 0 rfl ?_
                      refine wp_getI (k := 55) dX10_takeClause_154 flX10_186 rfl rfl rfl rfl ?_
                      refine wp_putI (k := 55) dX10_takeClause_157 flX10_214 rfl rfl rfl rfl rfl rfl rfl rfl ?_
                      refine wp_goto 179 dX10_takeClause_160 rfl ?_
                      refine wp_iload_n dX10_takeClause_179 2 rfl ?_
                      refine wp_if_ne 202 dX10_takeClause_180 rfl (fun c180 => ?_) (fun c180 => ?_)
                      · replace h := o_neg h c180
                        refine wp_aload_n dX10_takeClause_202 0 rfl ?_
                        refine wp_dup dX10_takeClause_203 rfl ?_
                        refine wp_getI (k := 55) dX10_takeClause_204 flX10_150 rfl rfl rfl rfl ?_
                        refine wp_iconst (v := 1) dX10_takeClause_207 (by decide) ?_
                        refine wp_iadd dX10_takeClause_208 ?_
                        refine wp_putI (k := 55) dX10_takeClause_209 flX10_150 rfl rfl rfl rfl rfl rfl rfl rfl ?_
                        refine wp_iload_n dX10_takeClause_212 2 rfl ?_
                        obtain rfl := Option.some.inj h
                        exact wp_ireturn (ty := .int) dX10_takeClause_213 rfl rfl ⟨rfl, rfl, rfl, rfl⟩
                      · replace h := o_pos h c180
                        refine wp_aload_n dX10_takeClause_183 0 rfl ?_
                        obtain ⟨r184, h184, h⟩ := o_bind h
                        refine wp_callvI (k := 55) (ci := 10) (c_X10_here Γ ad (upI r148.2 55 34 (r148.2 55 24)) r1.2 r184 h184) dX10_takeClause_184 mlX10_153 mwX10_here miX10_here rfl rfl rfl rfl (Nat.le_of_ble_eq_true rfl) rfl (by decide) (by decide) ?_
                        refine wp_bipush (v := 59) dX10_takeClause_187 (by decide) ?_
                        refine wp_icmp_eq 202 dX10_takeClause_189 rfl (fun c189 => ?_) (fun c189 => ?_)
                        · replace h := o_pos h c189
                          refine wp_aload_n dX10_takeClause_202 0 rfl ?_
                          refine wp_dup dX10_takeClause_203 rfl ?_
                          refine wp_getI (k := 55) dX10_takeClause_204 flX10_150 rfl rfl rfl rfl ?_
                          refine wp_iconst (v := 1) dX10_takeClause_207 (by decide) ?_
                          refine wp_iadd dX10_takeClause_208 ?_
                          refine wp_putI (k := 55) dX10_takeClause_209 flX10_150 rfl rfl rfl rfl rfl rfl rfl rfl ?_
                          refine wp_iload_n dX10_takeClause_212 2 rfl ?_
                          obtain rfl := Option.some.inj h
                          exact wp_ireturn (ty := .int) dX10_takeClause_213 rfl rfl ⟨rfl, rfl, rfl, rfl⟩
                        · replace h := o_neg h c189
                          refine wp_aload_n dX10_takeClause_192 0 rfl ?_
                          refine wp_iconst (v := 1) dX10_takeClause_193 (by decide) ?_
                          refine wp_aload_n dX10_takeClause_194 0 rfl ?_
                          refine wp_getI (k := 55) dX10_takeClause_195 flX10_150 rfl rfl rfl rfl ?_
                          obtain ⟨r198, h198, h⟩ := o_bind h
                          refine wp_callvI (k := 55) (ci := 10) (c_X10_fails Γ ad 1 (r184.2 55 21) r184.2 r1.2 r198 h198) dX10_takeClause_198 mlX10_179 mwX10_fails miX10_fails rfl rfl rfl rfl (Nat.le_of_ble_eq_true rfl) rfl (by decide) (by decide) ?_
                          obtain rfl := Option.some.inj h
                          exact wp_ireturn (ty := .int) dX10_takeClause_201 rfl rfl ⟨rfl, rfl, rfl, rfl⟩
                    · replace h := o_neg h e88_3
                      refine wp_tableOut 163 dX10_takeClause_88 (by have n0 := lv_neT (a := 0) e88_0 (by decide); have n1 := lv_neT (a := 1) e88_1 (by decide); have n2 := lv_neT (a := 2) e88_2 (by decide); have n3 := lv_neT (a := 3) e88_3 (by decide); omega) rfl ?_
                      refine wp_aload_n dX10_takeClause_163 0 rfl ?_
                      refine wp_iconst (v := 0) dX10_takeClause_164 (by decide) ?_
                      refine wp_bipush (v := 99) dX10_takeClause_165 (by decide) ?_
                      obtain ⟨r167, h167, h⟩ := o_bind h
                      refine wp_callvI (k := 55) (ci := 10) (c_X10_takeNumber Γ ad 0 99 (upI r1.1 55 21 (r1.1 55 23)) r1.2 r167 h167) dX10_takeClause_167 mlX10_190 mwX10_takeNumber miX10_takeNumber rfl rfl rfl rfl (Nat.le_of_ble_eq_true rfl) rfl (by decide) (by decide) ?_
                      refine wp_istore_n (lv' := [(0, _), (1, _), (2, _)]) dX10_takeClause_170 rfl rfl rfl rfl ?_
                      refine wp_aload_n dX10_takeClause_171 0 rfl ?_
                      refine wp_aload_n dX10_takeClause_172 0 rfl ?_
                      refine wp_getI (k := 55) dX10_takeClause_173 flX10_186 rfl rfl rfl rfl ?_
                      refine wp_putI (k := 55) dX10_takeClause_176 flX10_217 rfl rfl rfl rfl rfl rfl rfl rfl ?_
                      refine wp_iload_n dX10_takeClause_179 2 rfl ?_
                      refine wp_if_ne 202 dX10_takeClause_180 rfl (fun c180 => ?_) (fun c180 => ?_)
                      · replace h := o_neg h c180
                        refine wp_aload_n dX10_takeClause_202 0 rfl ?_
                        refine wp_dup dX10_takeClause_203 rfl ?_
                        refine wp_getI (k := 55) dX10_takeClause_204 flX10_150 rfl rfl rfl rfl ?_
                        refine wp_iconst (v := 1) dX10_takeClause_207 (by decide) ?_
                        refine wp_iadd dX10_takeClause_208 ?_
                        refine wp_putI (k := 55) dX10_takeClause_209 flX10_150 rfl rfl rfl rfl rfl rfl rfl rfl ?_
                        refine wp_iload_n dX10_takeClause_212 2 rfl ?_
                        obtain rfl := Option.some.inj h
                        exact wp_ireturn (ty := .int) dX10_takeClause_213 rfl rfl ⟨rfl, rfl, rfl, rfl⟩
                      · replace h := o_pos h c180
                        refine wp_aload_n dX10_takeClause_183 0 rfl ?_
                        obtain ⟨r184, h184, h⟩ := o_bind h
                        refine wp_callvI (k := 55) (ci := 10) (c_X10_here Γ ad (upI r167.2 55 35 (r167.2 55 24)) r1.2 r184 h184) dX10_takeClause_184 mlX10_153 mwX10_here miX10_here rfl rfl rfl rfl (Nat.le_of_ble_eq_true rfl) rfl (by decide) (by decide) ?_
                        refine wp_bipush (v := 59) dX10_takeClause_187 (by decide) ?_
                        refine wp_icmp_eq 202 dX10_takeClause_189 rfl (fun c189 => ?_) (fun c189 => ?_)
                        · replace h := o_pos h c189
                          refine wp_aload_n dX10_takeClause_202 0 rfl ?_
                          refine wp_dup dX10_takeClause_203 rfl ?_
                          refine wp_getI (k := 55) dX10_takeClause_204 flX10_150 rfl rfl rfl rfl ?_
                          refine wp_iconst (v := 1) dX10_takeClause_207 (by decide) ?_
                          refine wp_iadd dX10_takeClause_208 ?_
                          refine wp_putI (k := 55) dX10_takeClause_209 flX10_150 rfl rfl rfl rfl rfl rfl rfl rfl ?_
                          refine wp_iload_n dX10_takeClause_212 2 rfl ?_
                          obtain rfl := Option.some.inj h
                          exact wp_ireturn (ty := .int) dX10_takeClause_213 rfl rfl ⟨rfl, rfl, rfl, rfl⟩
                        · replace h := o_neg h c189
                          refine wp_aload_n dX10_takeClause_192 0 rfl ?_
                          refine wp_iconst (v := 1) dX10_takeClause_193 (by decide) ?_
                          refine wp_aload_n dX10_takeClause_194 0 rfl ?_
                          refine wp_getI (k := 55) dX10_takeClause_195 flX10_150 rfl rfl rfl rfl ?_
                          obtain ⟨r198, h198, h⟩ := o_bind h
                          refine wp_callvI (k := 55) (ci := 10) (c_X10_fails Γ ad 1 (r184.2 55 21) r184.2 r1.2 r198 h198) dX10_takeClause_198 mlX10_179 mwX10_fails miX10_fails rfl rfl rfl rfl (Nat.le_of_ble_eq_true rfl) rfl (by decide) (by decide) ?_
                          obtain rfl := Option.some.inj h
                          exact wp_ireturn (ty := .int) dX10_takeClause_201 rfl rfl ⟨rfl, rfl, rfl, rfl⟩
            · replace h := o_neg h c64
              refine wp_aload_n dX10_takeClause_67 0 rfl ?_
              refine wp_iconst (v := 4) dX10_takeClause_68 (by decide) ?_
              refine wp_aload_n dX10_takeClause_69 0 rfl ?_
              refine wp_getI (k := 55) dX10_takeClause_70 flX10_150 rfl rfl rfl rfl ?_
              obtain ⟨r73, h73, h⟩ := o_bind h
              refine wp_callvI (k := 55) (ci := 10) (c_X10_fails Γ ad 4 (r1.1 55 21) r1.1 r1.2 r73 h73) dX10_takeClause_73 mlX10_179 mwX10_fails miX10_fails rfl rfl rfl rfl (Nat.le_of_ble_eq_true rfl) rfl (by decide) (by decide) ?_
              obtain rfl := Option.some.inj h
              exact wp_ireturn (ty := .int) dX10_takeClause_76 rfl rfl ⟨rfl, rfl, rfl, rfl⟩
    · replace h := o_neg h c18
      refine wp_aload_n dX10_takeClause_21 0 rfl ?_
      refine wp_iload_n dX10_takeClause_22 1 rfl ?_
      refine wp_if_ge 30 dX10_takeClause_23 rfl (fun c23 => ?_) (fun c23 => ?_)
      · replace h := o_pos h c23
        refine wp_iconst (v := 3) dX10_takeClause_30 (by decide) ?_
        refine wp_aload_n dX10_takeClause_31 0 rfl ?_
        refine wp_getI (k := 55) dX10_takeClause_32 flX10_150 rfl rfl rfl rfl ?_
        obtain ⟨r35, h35, h⟩ := o_bind h
        refine wp_callvI (k := 55) (ci := 10) (c_X10_fails Γ ad 3 (r1.1 55 21) r1.1 r1.2 r35 h35) dX10_takeClause_35 mlX10_179 mwX10_fails miX10_fails rfl rfl rfl rfl (Nat.le_of_ble_eq_true rfl) rfl (by decide) (by decide) ?_
        obtain rfl := Option.some.inj h
        exact wp_ireturn (ty := .int) dX10_takeClause_38 rfl rfl ⟨rfl, rfl, rfl, rfl⟩
      · replace h := o_neg h c23
        refine wp_iconst (v := 1) dX10_takeClause_26 (by decide) ?_
        refine wp_goto 31 dX10_takeClause_27 rfl ?_
        refine wp_aload_n dX10_takeClause_31 0 rfl ?_
        refine wp_getI (k := 55) dX10_takeClause_32 flX10_150 rfl rfl rfl rfl ?_
        obtain ⟨r35, h35, h⟩ := o_bind h
        refine wp_callvI (k := 55) (ci := 10) (c_X10_fails Γ ad 1 (r1.1 55 21) r1.1 r1.2 r35 h35) dX10_takeClause_35 mlX10_179 mwX10_fails miX10_fails rfl rfl rfl rfl (Nat.le_of_ble_eq_true rfl) rfl (by decide) (by decide) ?_
        obtain rfl := Option.some.inj h
        exact wp_ireturn (ty := .int) dX10_takeClause_38 rfl rfl ⟨rfl, rfl, rfl, rfl⟩
