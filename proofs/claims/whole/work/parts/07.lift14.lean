/-! lifted: X10_isAsTold X10_boundBesides X10_canBind -/
def f_X10_isAsTold (a1 : Int32) (a2 : Int32) (a3 : Int32) (a4 : Int32) (I : IT) : Option (Int32) :=
  (f_X10_sortOf a1 I).bind fun r2 =>
  if a4 = ((-1) : Int32) then
    if (2 : Int32) ≤ r2 then
      if a4 = ((-1) : Int32) then
        if (0 : Int32) = 0 then
          some 0
        else
          if inbB a1 14 = true then
            (f_X10_has (I 61 a1.toNatClampNeg) a2).bind fun r80 =>
            if r80 = 0 then
              some 0
            else
              if inbB a3 6 = true then
                if (I 64 a3.toNatClampNeg) < 0 then
                  (f_X10_sortOf a1 I).bind fun r100 =>
                  if r100 = 0 then
                    if a1 = a3 then
                      some 1
                    else
                      some 0
                  else
                    (f_X10_sortOf a2 I).bind fun r122 =>
                    if r122 = 0 then
                      if a2 = a3 then
                        some 1
                      else
                        some 0
                    else
                      some 1
                else
                  some 0
              else none
          else none
      else
        if inbB a1 14 = true then
          (f_X10_has (I 61 a1.toNatClampNeg) a4).bind fun r55 =>
          if r55 = 0 then
            if (0 : Int32) = 0 then
              some 0
            else
              if inbB a1 14 = true then
                (f_X10_has (I 61 a1.toNatClampNeg) a2).bind fun r80 =>
                if r80 = 0 then
                  some 0
                else
                  if inbB a3 6 = true then
                    if (I 64 a3.toNatClampNeg) < 0 then
                      (f_X10_sortOf a1 I).bind fun r100 =>
                      if r100 = 0 then
                        if a1 = a3 then
                          some 1
                        else
                          some 0
                      else
                        (f_X10_sortOf a2 I).bind fun r122 =>
                        if r122 = 0 then
                          if a2 = a3 then
                            some 1
                          else
                            some 0
                        else
                          some 1
                    else
                      some 0
                  else none
              else none
          else
            if (1 : Int32) = 0 then
              some 0
            else
              if inbB a1 14 = true then
                (f_X10_has (I 61 a1.toNatClampNeg) a2).bind fun r80 =>
                if r80 = 0 then
                  some 0
                else
                  if inbB a3 6 = true then
                    if (I 64 a3.toNatClampNeg) < 0 then
                      (f_X10_sortOf a1 I).bind fun r100 =>
                      if r100 = 0 then
                        if a1 = a3 then
                          some 1
                        else
                          some 0
                      else
                        (f_X10_sortOf a2 I).bind fun r122 =>
                        if r122 = 0 then
                          if a2 = a3 then
                            some 1
                          else
                            some 0
                        else
                          some 1
                    else
                      some 0
                  else none
              else none
        else none
    else
      if a4 = ((-1) : Int32) then
        if (1 : Int32) = 0 then
          some 0
        else
          if inbB a1 14 = true then
            (f_X10_has (I 61 a1.toNatClampNeg) a2).bind fun r80 =>
            if r80 = 0 then
              some 0
            else
              if inbB a3 6 = true then
                if (I 64 a3.toNatClampNeg) < 0 then
                  (f_X10_sortOf a1 I).bind fun r100 =>
                  if r100 = 0 then
                    if a1 = a3 then
                      some 1
                    else
                      some 0
                  else
                    (f_X10_sortOf a2 I).bind fun r122 =>
                    if r122 = 0 then
                      if a2 = a3 then
                        some 1
                      else
                        some 0
                    else
                      some 1
                else
                  some 0
              else none
          else none
      else
        if (0 : Int32) = 0 then
          some 0
        else
          if inbB a1 14 = true then
            (f_X10_has (I 61 a1.toNatClampNeg) a2).bind fun r80 =>
            if r80 = 0 then
              some 0
            else
              if inbB a3 6 = true then
                if (I 64 a3.toNatClampNeg) < 0 then
                  (f_X10_sortOf a1 I).bind fun r100 =>
                  if r100 = 0 then
                    if a1 = a3 then
                      some 1
                    else
                      some 0
                  else
                    (f_X10_sortOf a2 I).bind fun r122 =>
                    if r122 = 0 then
                      if a2 = a3 then
                        some 1
                      else
                        some 0
                    else
                      some 1
                else
                  some 0
              else none
          else none
  else
    if (2 : Int32) ≤ r2 then
      if a4 = ((-1) : Int32) then
        if (0 : Int32) = 0 then
          some 0
        else
          if inbB a1 14 = true then
            (f_X10_has (I 61 a1.toNatClampNeg) a2).bind fun r80 =>
            if r80 = 0 then
              some 0
            else
              if inbB a3 6 = true then
                if (I 64 a3.toNatClampNeg) < 0 then
                  (f_X10_sortOf a4 I).bind fun r100 =>
                  if r100 = 0 then
                    if a4 = a3 then
                      some 1
                    else
                      some 0
                  else
                    (f_X10_sortOf a2 I).bind fun r122 =>
                    if r122 = 0 then
                      if a2 = a3 then
                        some 1
                      else
                        some 0
                    else
                      some 1
                else
                  some 0
              else none
          else none
      else
        if inbB a1 14 = true then
          (f_X10_has (I 61 a1.toNatClampNeg) a4).bind fun r55 =>
          if r55 = 0 then
            if (0 : Int32) = 0 then
              some 0
            else
              if inbB a1 14 = true then
                (f_X10_has (I 61 a1.toNatClampNeg) a2).bind fun r80 =>
                if r80 = 0 then
                  some 0
                else
                  if inbB a3 6 = true then
                    if (I 64 a3.toNatClampNeg) < 0 then
                      (f_X10_sortOf a4 I).bind fun r100 =>
                      if r100 = 0 then
                        if a4 = a3 then
                          some 1
                        else
                          some 0
                      else
                        (f_X10_sortOf a2 I).bind fun r122 =>
                        if r122 = 0 then
                          if a2 = a3 then
                            some 1
                          else
                            some 0
                        else
                          some 1
                    else
                      some 0
                  else none
              else none
          else
            if (1 : Int32) = 0 then
              some 0
            else
              if inbB a1 14 = true then
                (f_X10_has (I 61 a1.toNatClampNeg) a2).bind fun r80 =>
                if r80 = 0 then
                  some 0
                else
                  if inbB a3 6 = true then
                    if (I 64 a3.toNatClampNeg) < 0 then
                      (f_X10_sortOf a4 I).bind fun r100 =>
                      if r100 = 0 then
                        if a4 = a3 then
                          some 1
                        else
                          some 0
                      else
                        (f_X10_sortOf a2 I).bind fun r122 =>
                        if r122 = 0 then
                          if a2 = a3 then
                            some 1
                          else
                            some 0
                        else
                          some 1
                    else
                      some 0
                  else none
              else none
        else none
    else
      if a4 = ((-1) : Int32) then
        if (1 : Int32) = 0 then
          some 0
        else
          if inbB a1 14 = true then
            (f_X10_has (I 61 a1.toNatClampNeg) a2).bind fun r80 =>
            if r80 = 0 then
              some 0
            else
              if inbB a3 6 = true then
                if (I 64 a3.toNatClampNeg) < 0 then
                  (f_X10_sortOf a4 I).bind fun r100 =>
                  if r100 = 0 then
                    if a4 = a3 then
                      some 1
                    else
                      some 0
                  else
                    (f_X10_sortOf a2 I).bind fun r122 =>
                    if r122 = 0 then
                      if a2 = a3 then
                        some 1
                      else
                        some 0
                    else
                      some 1
                else
                  some 0
              else none
          else none
      else
        if (0 : Int32) = 0 then
          some 0
        else
          if inbB a1 14 = true then
            (f_X10_has (I 61 a1.toNatClampNeg) a2).bind fun r80 =>
            if r80 = 0 then
              some 0
            else
              if inbB a3 6 = true then
                if (I 64 a3.toNatClampNeg) < 0 then
                  (f_X10_sortOf a4 I).bind fun r100 =>
                  if r100 = 0 then
                    if a4 = a3 then
                      some 1
                    else
                      some 0
                  else
                    (f_X10_sortOf a2 I).bind fun r122 =>
                    if r122 = 0 then
                      if a2 = a3 then
                        some 1
                      else
                        some 0
                    else
                      some 1
                else
                  some 0
              else none
          else none
set_option maxRecDepth 100000 in
set_option maxHeartbeats 4000000 in
theorem c_X10_isAsTold (Γ : GT) (ad : Nat → Nat) (a1 : Int32) (a2 : Int32) (a3 : Int32) (a4 : Int32) (I : IT) (J : JT) (r : Int32) (h : f_X10_isAsTold a1 a2 a3 a4 I = some r) : CALL Γ mX10_isAsTold (0, 0) [.ref (ad 55), .int a1, .int a2, .int a3, .int a4] (DX ad) I J (QE (some (.int r)) (DX ad) I J) := by
  refine call_of' (by decide) (Nat.le_of_ble_eq_true rfl) (lv0 := [(0, .ref (ad 55)), (1, .int a1), (2, .int a2), (3, .int a3), (4, .int a4)]) rfl ?_
  unfold f_X10_isAsTold at h
  refine wp_aload_n dX10_isAsTold_0 0 rfl ?_
  refine wp_iload_n dX10_isAsTold_1 1 rfl ?_
  obtain ⟨r2, h2, h⟩ := o_bind h
  refine wp_callvI (k := 55) (ci := 10) (c_X10_sortOf Γ ad a1 I J r2 h2) dX10_isAsTold_2 mlX10_245 mwX10_sortOf miX10_sortOf rfl rfl rfl rfl (Nat.le_of_ble_eq_true rfl) rfl (by decide) (by decide) ?_
  refine wp_istore (lv' := [(0, _), (1, _), (2, _), (3, _), (4, _), (5, _)]) dX10_isAsTold_5 rfl rfl rfl ?_
  refine wp_iload dX10_isAsTold_7 4 rfl ?_
  refine wp_iconst (v := (-1)) dX10_isAsTold_9 (by decide) ?_
  refine wp_icmp_ne 17 dX10_isAsTold_10 rfl (fun c10 => ?_) (fun c10 => ?_)
  · replace h := o_neg h c10
    refine wp_iload dX10_isAsTold_17 4 rfl ?_
    refine wp_istore (lv' := [(0, _), (1, _), (2, _), (3, _), (4, _), (5, _), (6, _)]) dX10_isAsTold_19 rfl rfl rfl ?_
    refine wp_iload dX10_isAsTold_21 5 rfl ?_
    refine wp_iconst (v := 2) dX10_isAsTold_23 (by decide) ?_
    refine wp_icmp_ge 41 dX10_isAsTold_24 rfl (fun c24 => ?_) (fun c24 => ?_)
    · replace h := o_pos h c24
      refine wp_iload dX10_isAsTold_41 4 rfl ?_
      refine wp_iconst (v := (-1)) dX10_isAsTold_43 (by decide) ?_
      refine wp_icmp_eq 65 dX10_isAsTold_44 rfl (fun c44 => ?_) (fun c44 => ?_)
      · replace h := o_pos h c44
        refine wp_iconst (v := 0) dX10_isAsTold_65 (by decide) ?_
        refine wp_istore (lv' := [(0, _), (1, _), (2, _), (3, _), (4, _), (5, _), (6, _), (7, _)]) dX10_isAsTold_66 rfl rfl rfl ?_
        refine wp_iload dX10_isAsTold_68 7 rfl ?_
        refine wp_if_eq 95 dX10_isAsTold_70 rfl (fun c70 => ?_) (fun c70 => ?_)
        · replace h := o_pos h c70
          refine wp_iconst (v := 0) dX10_isAsTold_95 (by decide) ?_
          obtain rfl := Option.some.inj h
          exact wp_ireturn (ty := .boolean) dX10_isAsTold_96 rfl rfl ⟨rfl, rfl, rfl, rfl⟩
        · replace h := o_neg h c70
          refine wp_aload_n dX10_isAsTold_73 0 rfl ?_
          refine wp_getR (k := 55) (a' := ad 61) dX10_isAsTold_74 flX10_32 rfl rfl rfl rfl rfl ?_
          refine wp_iload_n dX10_isAsTold_77 1 rfl ?_
          obtain ⟨g78, h⟩ := o_grd h
          refine wp_iald (k := 61) dX10_isAsTold_78 rfl rfl (inb_of g78) ?_
          refine wp_iload_n dX10_isAsTold_79 2 rfl ?_
          obtain ⟨r80, h80, h⟩ := o_bind h
          refine wp_callsI (c_X10_has Γ ad (I 61 a1.toNatClampNeg) a2 I J r80 h80) dX10_isAsTold_80 mlX10_281 mwX10_has miX10_has rfl (Nat.le_of_ble_eq_true rfl) rfl (by decide) (by decide) ?_
          refine wp_if_eq 95 dX10_isAsTold_83 rfl (fun c83 => ?_) (fun c83 => ?_)
          · replace h := o_pos h c83
            refine wp_iconst (v := 0) dX10_isAsTold_95 (by decide) ?_
            obtain rfl := Option.some.inj h
            exact wp_ireturn (ty := .boolean) dX10_isAsTold_96 rfl rfl ⟨rfl, rfl, rfl, rfl⟩
          · replace h := o_neg h c83
            refine wp_aload_n dX10_isAsTold_86 0 rfl ?_
            refine wp_getR (k := 55) (a' := ad 64) dX10_isAsTold_87 flX10_41 rfl rfl rfl rfl rfl ?_
            refine wp_iload_n dX10_isAsTold_90 3 rfl ?_
            obtain ⟨g91, h⟩ := o_grd h
            refine wp_iald (k := 64) dX10_isAsTold_91 rfl rfl (inb_of g91) ?_
            refine wp_if_lt 97 dX10_isAsTold_92 rfl (fun c92 => ?_) (fun c92 => ?_)
            · replace h := o_pos h c92
              refine wp_aload_n dX10_isAsTold_97 0 rfl ?_
              refine wp_iload dX10_isAsTold_98 6 rfl ?_
              obtain ⟨r100, h100, h⟩ := o_bind h
              refine wp_callvI (k := 55) (ci := 10) (c_X10_sortOf Γ ad a4 I J r100 h100) dX10_isAsTold_100 mlX10_245 mwX10_sortOf miX10_sortOf rfl rfl rfl rfl (Nat.le_of_ble_eq_true rfl) rfl (by decide) (by decide) ?_
              refine wp_if_ne 120 dX10_isAsTold_103 rfl (fun c103 => ?_) (fun c103 => ?_)
              · replace h := o_neg h c103
                refine wp_aload_n dX10_isAsTold_120 0 rfl ?_
                refine wp_iload_n dX10_isAsTold_121 2 rfl ?_
                obtain ⟨r122, h122, h⟩ := o_bind h
                refine wp_callvI (k := 55) (ci := 10) (c_X10_sortOf Γ ad a2 I J r122 h122) dX10_isAsTold_122 mlX10_245 mwX10_sortOf miX10_sortOf rfl rfl rfl rfl (Nat.le_of_ble_eq_true rfl) rfl (by decide) (by decide) ?_
                refine wp_if_ne 133 dX10_isAsTold_125 rfl (fun c125 => ?_) (fun c125 => ?_)
                · replace h := o_neg h c125
                  refine wp_iconst (v := 1) dX10_isAsTold_133 (by decide) ?_
                  refine wp_goto 138 dX10_isAsTold_134 rfl ?_
                  obtain rfl := Option.some.inj h
                  exact wp_ireturn (ty := .boolean) dX10_isAsTold_138 rfl rfl ⟨rfl, rfl, rfl, rfl⟩
                · replace h := o_pos h c125
                  refine wp_iload_n dX10_isAsTold_128 2 rfl ?_
                  refine wp_iload_n dX10_isAsTold_129 3 rfl ?_
                  refine wp_icmp_ne 137 dX10_isAsTold_130 rfl (fun c130 => ?_) (fun c130 => ?_)
                  · replace h := o_neg h c130
                    refine wp_iconst (v := 0) dX10_isAsTold_137 (by decide) ?_
                    obtain rfl := Option.some.inj h
                    exact wp_ireturn (ty := .boolean) dX10_isAsTold_138 rfl rfl ⟨rfl, rfl, rfl, rfl⟩
                  · replace h := o_pos h c130
                    refine wp_iconst (v := 1) dX10_isAsTold_133 (by decide) ?_
                    refine wp_goto 138 dX10_isAsTold_134 rfl ?_
                    obtain rfl := Option.some.inj h
                    exact wp_ireturn (ty := .boolean) dX10_isAsTold_138 rfl rfl ⟨rfl, rfl, rfl, rfl⟩
              · replace h := o_pos h c103
                refine wp_iload dX10_isAsTold_106 6 rfl ?_
                refine wp_iload_n dX10_isAsTold_108 3 rfl ?_
                refine wp_icmp_ne 116 dX10_isAsTold_109 rfl (fun c109 => ?_) (fun c109 => ?_)
                · replace h := o_neg h c109
                  refine wp_iconst (v := 0) dX10_isAsTold_116 (by decide) ?_
                  refine wp_goto 138 dX10_isAsTold_117 rfl ?_
                  obtain rfl := Option.some.inj h
                  exact wp_ireturn (ty := .boolean) dX10_isAsTold_138 rfl rfl ⟨rfl, rfl, rfl, rfl⟩
                · replace h := o_pos h c109
                  refine wp_iconst (v := 1) dX10_isAsTold_112 (by decide) ?_
                  refine wp_goto 138 dX10_isAsTold_113 rfl ?_
                  obtain rfl := Option.some.inj h
                  exact wp_ireturn (ty := .boolean) dX10_isAsTold_138 rfl rfl ⟨rfl, rfl, rfl, rfl⟩
            · replace h := o_neg h c92
              refine wp_iconst (v := 0) dX10_isAsTold_95 (by decide) ?_
              obtain rfl := Option.some.inj h
              exact wp_ireturn (ty := .boolean) dX10_isAsTold_96 rfl rfl ⟨rfl, rfl, rfl, rfl⟩
      · replace h := o_neg h c44
        refine wp_aload_n dX10_isAsTold_47 0 rfl ?_
        refine wp_getR (k := 55) (a' := ad 61) dX10_isAsTold_48 flX10_32 rfl rfl rfl rfl rfl ?_
        refine wp_iload_n dX10_isAsTold_51 1 rfl ?_
        obtain ⟨g52, h⟩ := o_grd h
        refine wp_iald (k := 61) dX10_isAsTold_52 rfl rfl (inb_of g52) ?_
        refine wp_iload dX10_isAsTold_53 4 rfl ?_
        obtain ⟨r55, h55, h⟩ := o_bind h
        refine wp_callsI (c_X10_has Γ ad (I 61 a1.toNatClampNeg) a4 I J r55 h55) dX10_isAsTold_55 mlX10_281 mwX10_has miX10_has rfl (Nat.le_of_ble_eq_true rfl) rfl (by decide) (by decide) ?_
        refine wp_if_eq 65 dX10_isAsTold_58 rfl (fun c58 => ?_) (fun c58 => ?_)
        · replace h := o_pos h c58
          refine wp_iconst (v := 0) dX10_isAsTold_65 (by decide) ?_
          refine wp_istore (lv' := [(0, _), (1, _), (2, _), (3, _), (4, _), (5, _), (6, _), (7, _)]) dX10_isAsTold_66 rfl rfl rfl ?_
          refine wp_iload dX10_isAsTold_68 7 rfl ?_
          refine wp_if_eq 95 dX10_isAsTold_70 rfl (fun c70 => ?_) (fun c70 => ?_)
          · replace h := o_pos h c70
            refine wp_iconst (v := 0) dX10_isAsTold_95 (by decide) ?_
            obtain rfl := Option.some.inj h
            exact wp_ireturn (ty := .boolean) dX10_isAsTold_96 rfl rfl ⟨rfl, rfl, rfl, rfl⟩
          · replace h := o_neg h c70
            refine wp_aload_n dX10_isAsTold_73 0 rfl ?_
            refine wp_getR (k := 55) (a' := ad 61) dX10_isAsTold_74 flX10_32 rfl rfl rfl rfl rfl ?_
            refine wp_iload_n dX10_isAsTold_77 1 rfl ?_
            obtain ⟨g78, h⟩ := o_grd h
            refine wp_iald (k := 61) dX10_isAsTold_78 rfl rfl (inb_of g78) ?_
            refine wp_iload_n dX10_isAsTold_79 2 rfl ?_
            obtain ⟨r80, h80, h⟩ := o_bind h
            refine wp_callsI (c_X10_has Γ ad (I 61 a1.toNatClampNeg) a2 I J r80 h80) dX10_isAsTold_80 mlX10_281 mwX10_has miX10_has rfl (Nat.le_of_ble_eq_true rfl) rfl (by decide) (by decide) ?_
            refine wp_if_eq 95 dX10_isAsTold_83 rfl (fun c83 => ?_) (fun c83 => ?_)
            · replace h := o_pos h c83
              refine wp_iconst (v := 0) dX10_isAsTold_95 (by decide) ?_
              obtain rfl := Option.some.inj h
              exact wp_ireturn (ty := .boolean) dX10_isAsTold_96 rfl rfl ⟨rfl, rfl, rfl, rfl⟩
            · replace h := o_neg h c83
              refine wp_aload_n dX10_isAsTold_86 0 rfl ?_
              refine wp_getR (k := 55) (a' := ad 64) dX10_isAsTold_87 flX10_41 rfl rfl rfl rfl rfl ?_
              refine wp_iload_n dX10_isAsTold_90 3 rfl ?_
              obtain ⟨g91, h⟩ := o_grd h
              refine wp_iald (k := 64) dX10_isAsTold_91 rfl rfl (inb_of g91) ?_
              refine wp_if_lt 97 dX10_isAsTold_92 rfl (fun c92 => ?_) (fun c92 => ?_)
              · replace h := o_pos h c92
                refine wp_aload_n dX10_isAsTold_97 0 rfl ?_
                refine wp_iload dX10_isAsTold_98 6 rfl ?_
                obtain ⟨r100, h100, h⟩ := o_bind h
                refine wp_callvI (k := 55) (ci := 10) (c_X10_sortOf Γ ad a4 I J r100 h100) dX10_isAsTold_100 mlX10_245 mwX10_sortOf miX10_sortOf rfl rfl rfl rfl (Nat.le_of_ble_eq_true rfl) rfl (by decide) (by decide) ?_
                refine wp_if_ne 120 dX10_isAsTold_103 rfl (fun c103 => ?_) (fun c103 => ?_)
                · replace h := o_neg h c103
                  refine wp_aload_n dX10_isAsTold_120 0 rfl ?_
                  refine wp_iload_n dX10_isAsTold_121 2 rfl ?_
                  obtain ⟨r122, h122, h⟩ := o_bind h
                  refine wp_callvI (k := 55) (ci := 10) (c_X10_sortOf Γ ad a2 I J r122 h122) dX10_isAsTold_122 mlX10_245 mwX10_sortOf miX10_sortOf rfl rfl rfl rfl (Nat.le_of_ble_eq_true rfl) rfl (by decide) (by decide) ?_
                  refine wp_if_ne 133 dX10_isAsTold_125 rfl (fun c125 => ?_) (fun c125 => ?_)
                  · replace h := o_neg h c125
                    refine wp_iconst (v := 1) dX10_isAsTold_133 (by decide) ?_
                    refine wp_goto 138 dX10_isAsTold_134 rfl ?_
                    obtain rfl := Option.some.inj h
                    exact wp_ireturn (ty := .boolean) dX10_isAsTold_138 rfl rfl ⟨rfl, rfl, rfl, rfl⟩
                  · replace h := o_pos h c125
                    refine wp_iload_n dX10_isAsTold_128 2 rfl ?_
                    refine wp_iload_n dX10_isAsTold_129 3 rfl ?_
                    refine wp_icmp_ne 137 dX10_isAsTold_130 rfl (fun c130 => ?_) (fun c130 => ?_)
                    · replace h := o_neg h c130
                      refine wp_iconst (v := 0) dX10_isAsTold_137 (by decide) ?_
                      obtain rfl := Option.some.inj h
                      exact wp_ireturn (ty := .boolean) dX10_isAsTold_138 rfl rfl ⟨rfl, rfl, rfl, rfl⟩
                    · replace h := o_pos h c130
                      refine wp_iconst (v := 1) dX10_isAsTold_133 (by decide) ?_
                      refine wp_goto 138 dX10_isAsTold_134 rfl ?_
                      obtain rfl := Option.some.inj h
                      exact wp_ireturn (ty := .boolean) dX10_isAsTold_138 rfl rfl ⟨rfl, rfl, rfl, rfl⟩
                · replace h := o_pos h c103
                  refine wp_iload dX10_isAsTold_106 6 rfl ?_
                  refine wp_iload_n dX10_isAsTold_108 3 rfl ?_
                  refine wp_icmp_ne 116 dX10_isAsTold_109 rfl (fun c109 => ?_) (fun c109 => ?_)
                  · replace h := o_neg h c109
                    refine wp_iconst (v := 0) dX10_isAsTold_116 (by decide) ?_
                    refine wp_goto 138 dX10_isAsTold_117 rfl ?_
                    obtain rfl := Option.some.inj h
                    exact wp_ireturn (ty := .boolean) dX10_isAsTold_138 rfl rfl ⟨rfl, rfl, rfl, rfl⟩
                  · replace h := o_pos h c109
                    refine wp_iconst (v := 1) dX10_isAsTold_112 (by decide) ?_
                    refine wp_goto 138 dX10_isAsTold_113 rfl ?_
                    obtain rfl := Option.some.inj h
                    exact wp_ireturn (ty := .boolean) dX10_isAsTold_138 rfl rfl ⟨rfl, rfl, rfl, rfl⟩
              · replace h := o_neg h c92
                refine wp_iconst (v := 0) dX10_isAsTold_95 (by decide) ?_
                obtain rfl := Option.some.inj h
                exact wp_ireturn (ty := .boolean) dX10_isAsTold_96 rfl rfl ⟨rfl, rfl, rfl, rfl⟩
        · replace h := o_neg h c58
          refine wp_iconst (v := 1) dX10_isAsTold_61 (by decide) ?_
          refine wp_goto 66 dX10_isAsTold_62 rfl ?_
          refine wp_istore (lv' := [(0, _), (1, _), (2, _), (3, _), (4, _), (5, _), (6, _), (7, _)]) dX10_isAsTold_66 rfl rfl rfl ?_
          refine wp_iload dX10_isAsTold_68 7 rfl ?_
          refine wp_if_eq 95 dX10_isAsTold_70 rfl (fun c70 => ?_) (fun c70 => ?_)
          · replace h := o_pos h c70
            refine wp_iconst (v := 0) dX10_isAsTold_95 (by decide) ?_
            obtain rfl := Option.some.inj h
            exact wp_ireturn (ty := .boolean) dX10_isAsTold_96 rfl rfl ⟨rfl, rfl, rfl, rfl⟩
          · replace h := o_neg h c70
            refine wp_aload_n dX10_isAsTold_73 0 rfl ?_
            refine wp_getR (k := 55) (a' := ad 61) dX10_isAsTold_74 flX10_32 rfl rfl rfl rfl rfl ?_
            refine wp_iload_n dX10_isAsTold_77 1 rfl ?_
            obtain ⟨g78, h⟩ := o_grd h
            refine wp_iald (k := 61) dX10_isAsTold_78 rfl rfl (inb_of g78) ?_
            refine wp_iload_n dX10_isAsTold_79 2 rfl ?_
            obtain ⟨r80, h80, h⟩ := o_bind h
            refine wp_callsI (c_X10_has Γ ad (I 61 a1.toNatClampNeg) a2 I J r80 h80) dX10_isAsTold_80 mlX10_281 mwX10_has miX10_has rfl (Nat.le_of_ble_eq_true rfl) rfl (by decide) (by decide) ?_
            refine wp_if_eq 95 dX10_isAsTold_83 rfl (fun c83 => ?_) (fun c83 => ?_)
            · replace h := o_pos h c83
              refine wp_iconst (v := 0) dX10_isAsTold_95 (by decide) ?_
              obtain rfl := Option.some.inj h
              exact wp_ireturn (ty := .boolean) dX10_isAsTold_96 rfl rfl ⟨rfl, rfl, rfl, rfl⟩
            · replace h := o_neg h c83
              refine wp_aload_n dX10_isAsTold_86 0 rfl ?_
              refine wp_getR (k := 55) (a' := ad 64) dX10_isAsTold_87 flX10_41 rfl rfl rfl rfl rfl ?_
              refine wp_iload_n dX10_isAsTold_90 3 rfl ?_
              obtain ⟨g91, h⟩ := o_grd h
              refine wp_iald (k := 64) dX10_isAsTold_91 rfl rfl (inb_of g91) ?_
              refine wp_if_lt 97 dX10_isAsTold_92 rfl (fun c92 => ?_) (fun c92 => ?_)
              · replace h := o_pos h c92
                refine wp_aload_n dX10_isAsTold_97 0 rfl ?_
                refine wp_iload dX10_isAsTold_98 6 rfl ?_
                obtain ⟨r100, h100, h⟩ := o_bind h
                refine wp_callvI (k := 55) (ci := 10) (c_X10_sortOf Γ ad a4 I J r100 h100) dX10_isAsTold_100 mlX10_245 mwX10_sortOf miX10_sortOf rfl rfl rfl rfl (Nat.le_of_ble_eq_true rfl) rfl (by decide) (by decide) ?_
                refine wp_if_ne 120 dX10_isAsTold_103 rfl (fun c103 => ?_) (fun c103 => ?_)
                · replace h := o_neg h c103
                  refine wp_aload_n dX10_isAsTold_120 0 rfl ?_
                  refine wp_iload_n dX10_isAsTold_121 2 rfl ?_
                  obtain ⟨r122, h122, h⟩ := o_bind h
                  refine wp_callvI (k := 55) (ci := 10) (c_X10_sortOf Γ ad a2 I J r122 h122) dX10_isAsTold_122 mlX10_245 mwX10_sortOf miX10_sortOf rfl rfl rfl rfl (Nat.le_of_ble_eq_true rfl) rfl (by decide) (by decide) ?_
                  refine wp_if_ne 133 dX10_isAsTold_125 rfl (fun c125 => ?_) (fun c125 => ?_)
                  · replace h := o_neg h c125
                    refine wp_iconst (v := 1) dX10_isAsTold_133 (by decide) ?_
                    refine wp_goto 138 dX10_isAsTold_134 rfl ?_
                    obtain rfl := Option.some.inj h
                    exact wp_ireturn (ty := .boolean) dX10_isAsTold_138 rfl rfl ⟨rfl, rfl, rfl, rfl⟩
                  · replace h := o_pos h c125
                    refine wp_iload_n dX10_isAsTold_128 2 rfl ?_
                    refine wp_iload_n dX10_isAsTold_129 3 rfl ?_
                    refine wp_icmp_ne 137 dX10_isAsTold_130 rfl (fun c130 => ?_) (fun c130 => ?_)
                    · replace h := o_neg h c130
                      refine wp_iconst (v := 0) dX10_isAsTold_137 (by decide) ?_
                      obtain rfl := Option.some.inj h
                      exact wp_ireturn (ty := .boolean) dX10_isAsTold_138 rfl rfl ⟨rfl, rfl, rfl, rfl⟩
                    · replace h := o_pos h c130
                      refine wp_iconst (v := 1) dX10_isAsTold_133 (by decide) ?_
                      refine wp_goto 138 dX10_isAsTold_134 rfl ?_
                      obtain rfl := Option.some.inj h
                      exact wp_ireturn (ty := .boolean) dX10_isAsTold_138 rfl rfl ⟨rfl, rfl, rfl, rfl⟩
                · replace h := o_pos h c103
                  refine wp_iload dX10_isAsTold_106 6 rfl ?_
                  refine wp_iload_n dX10_isAsTold_108 3 rfl ?_
                  refine wp_icmp_ne 116 dX10_isAsTold_109 rfl (fun c109 => ?_) (fun c109 => ?_)
                  · replace h := o_neg h c109
                    refine wp_iconst (v := 0) dX10_isAsTold_116 (by decide) ?_
                    refine wp_goto 138 dX10_isAsTold_117 rfl ?_
                    obtain rfl := Option.some.inj h
                    exact wp_ireturn (ty := .boolean) dX10_isAsTold_138 rfl rfl ⟨rfl, rfl, rfl, rfl⟩
                  · replace h := o_pos h c109
                    refine wp_iconst (v := 1) dX10_isAsTold_112 (by decide) ?_
                    refine wp_goto 138 dX10_isAsTold_113 rfl ?_
                    obtain rfl := Option.some.inj h
                    exact wp_ireturn (ty := .boolean) dX10_isAsTold_138 rfl rfl ⟨rfl, rfl, rfl, rfl⟩
              · replace h := o_neg h c92
                refine wp_iconst (v := 0) dX10_isAsTold_95 (by decide) ?_
                obtain rfl := Option.some.inj h
                exact wp_ireturn (ty := .boolean) dX10_isAsTold_96 rfl rfl ⟨rfl, rfl, rfl, rfl⟩
    · replace h := o_neg h c24
      refine wp_iload dX10_isAsTold_27 4 rfl ?_
      refine wp_iconst (v := (-1)) dX10_isAsTold_29 (by decide) ?_
      refine wp_icmp_ne 37 dX10_isAsTold_30 rfl (fun c30 => ?_) (fun c30 => ?_)
      · replace h := o_neg h c30
        refine wp_iconst (v := 0) dX10_isAsTold_37 (by decide) ?_
        refine wp_goto 66 dX10_isAsTold_38 rfl ?_
        refine wp_istore (lv' := [(0, _), (1, _), (2, _), (3, _), (4, _), (5, _), (6, _), (7, _)]) dX10_isAsTold_66 rfl rfl rfl ?_
        refine wp_iload dX10_isAsTold_68 7 rfl ?_
        refine wp_if_eq 95 dX10_isAsTold_70 rfl (fun c70 => ?_) (fun c70 => ?_)
        · replace h := o_pos h c70
          refine wp_iconst (v := 0) dX10_isAsTold_95 (by decide) ?_
          obtain rfl := Option.some.inj h
          exact wp_ireturn (ty := .boolean) dX10_isAsTold_96 rfl rfl ⟨rfl, rfl, rfl, rfl⟩
        · replace h := o_neg h c70
          refine wp_aload_n dX10_isAsTold_73 0 rfl ?_
          refine wp_getR (k := 55) (a' := ad 61) dX10_isAsTold_74 flX10_32 rfl rfl rfl rfl rfl ?_
          refine wp_iload_n dX10_isAsTold_77 1 rfl ?_
          obtain ⟨g78, h⟩ := o_grd h
          refine wp_iald (k := 61) dX10_isAsTold_78 rfl rfl (inb_of g78) ?_
          refine wp_iload_n dX10_isAsTold_79 2 rfl ?_
          obtain ⟨r80, h80, h⟩ := o_bind h
          refine wp_callsI (c_X10_has Γ ad (I 61 a1.toNatClampNeg) a2 I J r80 h80) dX10_isAsTold_80 mlX10_281 mwX10_has miX10_has rfl (Nat.le_of_ble_eq_true rfl) rfl (by decide) (by decide) ?_
          refine wp_if_eq 95 dX10_isAsTold_83 rfl (fun c83 => ?_) (fun c83 => ?_)
          · replace h := o_pos h c83
            refine wp_iconst (v := 0) dX10_isAsTold_95 (by decide) ?_
            obtain rfl := Option.some.inj h
            exact wp_ireturn (ty := .boolean) dX10_isAsTold_96 rfl rfl ⟨rfl, rfl, rfl, rfl⟩
          · replace h := o_neg h c83
            refine wp_aload_n dX10_isAsTold_86 0 rfl ?_
            refine wp_getR (k := 55) (a' := ad 64) dX10_isAsTold_87 flX10_41 rfl rfl rfl rfl rfl ?_
            refine wp_iload_n dX10_isAsTold_90 3 rfl ?_
            obtain ⟨g91, h⟩ := o_grd h
            refine wp_iald (k := 64) dX10_isAsTold_91 rfl rfl (inb_of g91) ?_
            refine wp_if_lt 97 dX10_isAsTold_92 rfl (fun c92 => ?_) (fun c92 => ?_)
            · replace h := o_pos h c92
              refine wp_aload_n dX10_isAsTold_97 0 rfl ?_
              refine wp_iload dX10_isAsTold_98 6 rfl ?_
              obtain ⟨r100, h100, h⟩ := o_bind h
              refine wp_callvI (k := 55) (ci := 10) (c_X10_sortOf Γ ad a4 I J r100 h100) dX10_isAsTold_100 mlX10_245 mwX10_sortOf miX10_sortOf rfl rfl rfl rfl (Nat.le_of_ble_eq_true rfl) rfl (by decide) (by decide) ?_
              refine wp_if_ne 120 dX10_isAsTold_103 rfl (fun c103 => ?_) (fun c103 => ?_)
              · replace h := o_neg h c103
                refine wp_aload_n dX10_isAsTold_120 0 rfl ?_
                refine wp_iload_n dX10_isAsTold_121 2 rfl ?_
                obtain ⟨r122, h122, h⟩ := o_bind h
                refine wp_callvI (k := 55) (ci := 10) (c_X10_sortOf Γ ad a2 I J r122 h122) dX10_isAsTold_122 mlX10_245 mwX10_sortOf miX10_sortOf rfl rfl rfl rfl (Nat.le_of_ble_eq_true rfl) rfl (by decide) (by decide) ?_
                refine wp_if_ne 133 dX10_isAsTold_125 rfl (fun c125 => ?_) (fun c125 => ?_)
                · replace h := o_neg h c125
                  refine wp_iconst (v := 1) dX10_isAsTold_133 (by decide) ?_
                  refine wp_goto 138 dX10_isAsTold_134 rfl ?_
                  obtain rfl := Option.some.inj h
                  exact wp_ireturn (ty := .boolean) dX10_isAsTold_138 rfl rfl ⟨rfl, rfl, rfl, rfl⟩
                · replace h := o_pos h c125
                  refine wp_iload_n dX10_isAsTold_128 2 rfl ?_
                  refine wp_iload_n dX10_isAsTold_129 3 rfl ?_
                  refine wp_icmp_ne 137 dX10_isAsTold_130 rfl (fun c130 => ?_) (fun c130 => ?_)
                  · replace h := o_neg h c130
                    refine wp_iconst (v := 0) dX10_isAsTold_137 (by decide) ?_
                    obtain rfl := Option.some.inj h
                    exact wp_ireturn (ty := .boolean) dX10_isAsTold_138 rfl rfl ⟨rfl, rfl, rfl, rfl⟩
                  · replace h := o_pos h c130
                    refine wp_iconst (v := 1) dX10_isAsTold_133 (by decide) ?_
                    refine wp_goto 138 dX10_isAsTold_134 rfl ?_
                    obtain rfl := Option.some.inj h
                    exact wp_ireturn (ty := .boolean) dX10_isAsTold_138 rfl rfl ⟨rfl, rfl, rfl, rfl⟩
              · replace h := o_pos h c103
                refine wp_iload dX10_isAsTold_106 6 rfl ?_
                refine wp_iload_n dX10_isAsTold_108 3 rfl ?_
                refine wp_icmp_ne 116 dX10_isAsTold_109 rfl (fun c109 => ?_) (fun c109 => ?_)
                · replace h := o_neg h c109
                  refine wp_iconst (v := 0) dX10_isAsTold_116 (by decide) ?_
                  refine wp_goto 138 dX10_isAsTold_117 rfl ?_
                  obtain rfl := Option.some.inj h
                  exact wp_ireturn (ty := .boolean) dX10_isAsTold_138 rfl rfl ⟨rfl, rfl, rfl, rfl⟩
                · replace h := o_pos h c109
                  refine wp_iconst (v := 1) dX10_isAsTold_112 (by decide) ?_
                  refine wp_goto 138 dX10_isAsTold_113 rfl ?_
                  obtain rfl := Option.some.inj h
                  exact wp_ireturn (ty := .boolean) dX10_isAsTold_138 rfl rfl ⟨rfl, rfl, rfl, rfl⟩
            · replace h := o_neg h c92
              refine wp_iconst (v := 0) dX10_isAsTold_95 (by decide) ?_
              obtain rfl := Option.some.inj h
              exact wp_ireturn (ty := .boolean) dX10_isAsTold_96 rfl rfl ⟨rfl, rfl, rfl, rfl⟩
      · replace h := o_pos h c30
        refine wp_iconst (v := 1) dX10_isAsTold_33 (by decide) ?_
        refine wp_goto 66 dX10_isAsTold_34 rfl ?_
        refine wp_istore (lv' := [(0, _), (1, _), (2, _), (3, _), (4, _), (5, _), (6, _), (7, _)]) dX10_isAsTold_66 rfl rfl rfl ?_
        refine wp_iload dX10_isAsTold_68 7 rfl ?_
        refine wp_if_eq 95 dX10_isAsTold_70 rfl (fun c70 => ?_) (fun c70 => ?_)
        · replace h := o_pos h c70
          refine wp_iconst (v := 0) dX10_isAsTold_95 (by decide) ?_
          obtain rfl := Option.some.inj h
          exact wp_ireturn (ty := .boolean) dX10_isAsTold_96 rfl rfl ⟨rfl, rfl, rfl, rfl⟩
        · replace h := o_neg h c70
          refine wp_aload_n dX10_isAsTold_73 0 rfl ?_
          refine wp_getR (k := 55) (a' := ad 61) dX10_isAsTold_74 flX10_32 rfl rfl rfl rfl rfl ?_
          refine wp_iload_n dX10_isAsTold_77 1 rfl ?_
          obtain ⟨g78, h⟩ := o_grd h
          refine wp_iald (k := 61) dX10_isAsTold_78 rfl rfl (inb_of g78) ?_
          refine wp_iload_n dX10_isAsTold_79 2 rfl ?_
          obtain ⟨r80, h80, h⟩ := o_bind h
          refine wp_callsI (c_X10_has Γ ad (I 61 a1.toNatClampNeg) a2 I J r80 h80) dX10_isAsTold_80 mlX10_281 mwX10_has miX10_has rfl (Nat.le_of_ble_eq_true rfl) rfl (by decide) (by decide) ?_
          refine wp_if_eq 95 dX10_isAsTold_83 rfl (fun c83 => ?_) (fun c83 => ?_)
          · replace h := o_pos h c83
            refine wp_iconst (v := 0) dX10_isAsTold_95 (by decide) ?_
            obtain rfl := Option.some.inj h
            exact wp_ireturn (ty := .boolean) dX10_isAsTold_96 rfl rfl ⟨rfl, rfl, rfl, rfl⟩
          · replace h := o_neg h c83
            refine wp_aload_n dX10_isAsTold_86 0 rfl ?_
            refine wp_getR (k := 55) (a' := ad 64) dX10_isAsTold_87 flX10_41 rfl rfl rfl rfl rfl ?_
            refine wp_iload_n dX10_isAsTold_90 3 rfl ?_
            obtain ⟨g91, h⟩ := o_grd h
            refine wp_iald (k := 64) dX10_isAsTold_91 rfl rfl (inb_of g91) ?_
            refine wp_if_lt 97 dX10_isAsTold_92 rfl (fun c92 => ?_) (fun c92 => ?_)
            · replace h := o_pos h c92
              refine wp_aload_n dX10_isAsTold_97 0 rfl ?_
              refine wp_iload dX10_isAsTold_98 6 rfl ?_
              obtain ⟨r100, h100, h⟩ := o_bind h
              refine wp_callvI (k := 55) (ci := 10) (c_X10_sortOf Γ ad a4 I J r100 h100) dX10_isAsTold_100 mlX10_245 mwX10_sortOf miX10_sortOf rfl rfl rfl rfl (Nat.le_of_ble_eq_true rfl) rfl (by decide) (by decide) ?_
              refine wp_if_ne 120 dX10_isAsTold_103 rfl (fun c103 => ?_) (fun c103 => ?_)
              · replace h := o_neg h c103
                refine wp_aload_n dX10_isAsTold_120 0 rfl ?_
                refine wp_iload_n dX10_isAsTold_121 2 rfl ?_
                obtain ⟨r122, h122, h⟩ := o_bind h
                refine wp_callvI (k := 55) (ci := 10) (c_X10_sortOf Γ ad a2 I J r122 h122) dX10_isAsTold_122 mlX10_245 mwX10_sortOf miX10_sortOf rfl rfl rfl rfl (Nat.le_of_ble_eq_true rfl) rfl (by decide) (by decide) ?_
                refine wp_if_ne 133 dX10_isAsTold_125 rfl (fun c125 => ?_) (fun c125 => ?_)
                · replace h := o_neg h c125
                  refine wp_iconst (v := 1) dX10_isAsTold_133 (by decide) ?_
                  refine wp_goto 138 dX10_isAsTold_134 rfl ?_
                  obtain rfl := Option.some.inj h
                  exact wp_ireturn (ty := .boolean) dX10_isAsTold_138 rfl rfl ⟨rfl, rfl, rfl, rfl⟩
                · replace h := o_pos h c125
                  refine wp_iload_n dX10_isAsTold_128 2 rfl ?_
                  refine wp_iload_n dX10_isAsTold_129 3 rfl ?_
                  refine wp_icmp_ne 137 dX10_isAsTold_130 rfl (fun c130 => ?_) (fun c130 => ?_)
                  · replace h := o_neg h c130
                    refine wp_iconst (v := 0) dX10_isAsTold_137 (by decide) ?_
                    obtain rfl := Option.some.inj h
                    exact wp_ireturn (ty := .boolean) dX10_isAsTold_138 rfl rfl ⟨rfl, rfl, rfl, rfl⟩
                  · replace h := o_pos h c130
                    refine wp_iconst (v := 1) dX10_isAsTold_133 (by decide) ?_
                    refine wp_goto 138 dX10_isAsTold_134 rfl ?_
                    obtain rfl := Option.some.inj h
                    exact wp_ireturn (ty := .boolean) dX10_isAsTold_138 rfl rfl ⟨rfl, rfl, rfl, rfl⟩
              · replace h := o_pos h c103
                refine wp_iload dX10_isAsTold_106 6 rfl ?_
                refine wp_iload_n dX10_isAsTold_108 3 rfl ?_
                refine wp_icmp_ne 116 dX10_isAsTold_109 rfl (fun c109 => ?_) (fun c109 => ?_)
                · replace h := o_neg h c109
                  refine wp_iconst (v := 0) dX10_isAsTold_116 (by decide) ?_
                  refine wp_goto 138 dX10_isAsTold_117 rfl ?_
                  obtain rfl := Option.some.inj h
                  exact wp_ireturn (ty := .boolean) dX10_isAsTold_138 rfl rfl ⟨rfl, rfl, rfl, rfl⟩
                · replace h := o_pos h c109
                  refine wp_iconst (v := 1) dX10_isAsTold_112 (by decide) ?_
                  refine wp_goto 138 dX10_isAsTold_113 rfl ?_
                  obtain rfl := Option.some.inj h
                  exact wp_ireturn (ty := .boolean) dX10_isAsTold_138 rfl rfl ⟨rfl, rfl, rfl, rfl⟩
            · replace h := o_neg h c92
              refine wp_iconst (v := 0) dX10_isAsTold_95 (by decide) ?_
              obtain rfl := Option.some.inj h
              exact wp_ireturn (ty := .boolean) dX10_isAsTold_96 rfl rfl ⟨rfl, rfl, rfl, rfl⟩
  · replace h := o_pos h c10
    refine wp_iload_n dX10_isAsTold_13 1 rfl ?_
    refine wp_goto 19 dX10_isAsTold_14 rfl ?_
    refine wp_istore (lv' := [(0, _), (1, _), (2, _), (3, _), (4, _), (5, _), (6, _)]) dX10_isAsTold_19 rfl rfl rfl ?_
    refine wp_iload dX10_isAsTold_21 5 rfl ?_
    refine wp_iconst (v := 2) dX10_isAsTold_23 (by decide) ?_
    refine wp_icmp_ge 41 dX10_isAsTold_24 rfl (fun c24 => ?_) (fun c24 => ?_)
    · replace h := o_pos h c24
      refine wp_iload dX10_isAsTold_41 4 rfl ?_
      refine wp_iconst (v := (-1)) dX10_isAsTold_43 (by decide) ?_
      refine wp_icmp_eq 65 dX10_isAsTold_44 rfl (fun c44 => ?_) (fun c44 => ?_)
      · replace h := o_pos h c44
        refine wp_iconst (v := 0) dX10_isAsTold_65 (by decide) ?_
        refine wp_istore (lv' := [(0, _), (1, _), (2, _), (3, _), (4, _), (5, _), (6, _), (7, _)]) dX10_isAsTold_66 rfl rfl rfl ?_
        refine wp_iload dX10_isAsTold_68 7 rfl ?_
        refine wp_if_eq 95 dX10_isAsTold_70 rfl (fun c70 => ?_) (fun c70 => ?_)
        · replace h := o_pos h c70
          refine wp_iconst (v := 0) dX10_isAsTold_95 (by decide) ?_
          obtain rfl := Option.some.inj h
          exact wp_ireturn (ty := .boolean) dX10_isAsTold_96 rfl rfl ⟨rfl, rfl, rfl, rfl⟩
        · replace h := o_neg h c70
          refine wp_aload_n dX10_isAsTold_73 0 rfl ?_
          refine wp_getR (k := 55) (a' := ad 61) dX10_isAsTold_74 flX10_32 rfl rfl rfl rfl rfl ?_
          refine wp_iload_n dX10_isAsTold_77 1 rfl ?_
          obtain ⟨g78, h⟩ := o_grd h
          refine wp_iald (k := 61) dX10_isAsTold_78 rfl rfl (inb_of g78) ?_
          refine wp_iload_n dX10_isAsTold_79 2 rfl ?_
          obtain ⟨r80, h80, h⟩ := o_bind h
          refine wp_callsI (c_X10_has Γ ad (I 61 a1.toNatClampNeg) a2 I J r80 h80) dX10_isAsTold_80 mlX10_281 mwX10_has miX10_has rfl (Nat.le_of_ble_eq_true rfl) rfl (by decide) (by decide) ?_
          refine wp_if_eq 95 dX10_isAsTold_83 rfl (fun c83 => ?_) (fun c83 => ?_)
          · replace h := o_pos h c83
            refine wp_iconst (v := 0) dX10_isAsTold_95 (by decide) ?_
            obtain rfl := Option.some.inj h
            exact wp_ireturn (ty := .boolean) dX10_isAsTold_96 rfl rfl ⟨rfl, rfl, rfl, rfl⟩
          · replace h := o_neg h c83
            refine wp_aload_n dX10_isAsTold_86 0 rfl ?_
            refine wp_getR (k := 55) (a' := ad 64) dX10_isAsTold_87 flX10_41 rfl rfl rfl rfl rfl ?_
            refine wp_iload_n dX10_isAsTold_90 3 rfl ?_
            obtain ⟨g91, h⟩ := o_grd h
            refine wp_iald (k := 64) dX10_isAsTold_91 rfl rfl (inb_of g91) ?_
            refine wp_if_lt 97 dX10_isAsTold_92 rfl (fun c92 => ?_) (fun c92 => ?_)
            · replace h := o_pos h c92
              refine wp_aload_n dX10_isAsTold_97 0 rfl ?_
              refine wp_iload dX10_isAsTold_98 6 rfl ?_
              obtain ⟨r100, h100, h⟩ := o_bind h
              refine wp_callvI (k := 55) (ci := 10) (c_X10_sortOf Γ ad a1 I J r100 h100) dX10_isAsTold_100 mlX10_245 mwX10_sortOf miX10_sortOf rfl rfl rfl rfl (Nat.le_of_ble_eq_true rfl) rfl (by decide) (by decide) ?_
              refine wp_if_ne 120 dX10_isAsTold_103 rfl (fun c103 => ?_) (fun c103 => ?_)
              · replace h := o_neg h c103
                refine wp_aload_n dX10_isAsTold_120 0 rfl ?_
                refine wp_iload_n dX10_isAsTold_121 2 rfl ?_
                obtain ⟨r122, h122, h⟩ := o_bind h
                refine wp_callvI (k := 55) (ci := 10) (c_X10_sortOf Γ ad a2 I J r122 h122) dX10_isAsTold_122 mlX10_245 mwX10_sortOf miX10_sortOf rfl rfl rfl rfl (Nat.le_of_ble_eq_true rfl) rfl (by decide) (by decide) ?_
                refine wp_if_ne 133 dX10_isAsTold_125 rfl (fun c125 => ?_) (fun c125 => ?_)
                · replace h := o_neg h c125
                  refine wp_iconst (v := 1) dX10_isAsTold_133 (by decide) ?_
                  refine wp_goto 138 dX10_isAsTold_134 rfl ?_
                  obtain rfl := Option.some.inj h
                  exact wp_ireturn (ty := .boolean) dX10_isAsTold_138 rfl rfl ⟨rfl, rfl, rfl, rfl⟩
                · replace h := o_pos h c125
                  refine wp_iload_n dX10_isAsTold_128 2 rfl ?_
                  refine wp_iload_n dX10_isAsTold_129 3 rfl ?_
                  refine wp_icmp_ne 137 dX10_isAsTold_130 rfl (fun c130 => ?_) (fun c130 => ?_)
                  · replace h := o_neg h c130
                    refine wp_iconst (v := 0) dX10_isAsTold_137 (by decide) ?_
                    obtain rfl := Option.some.inj h
                    exact wp_ireturn (ty := .boolean) dX10_isAsTold_138 rfl rfl ⟨rfl, rfl, rfl, rfl⟩
                  · replace h := o_pos h c130
                    refine wp_iconst (v := 1) dX10_isAsTold_133 (by decide) ?_
                    refine wp_goto 138 dX10_isAsTold_134 rfl ?_
                    obtain rfl := Option.some.inj h
                    exact wp_ireturn (ty := .boolean) dX10_isAsTold_138 rfl rfl ⟨rfl, rfl, rfl, rfl⟩
              · replace h := o_pos h c103
                refine wp_iload dX10_isAsTold_106 6 rfl ?_
                refine wp_iload_n dX10_isAsTold_108 3 rfl ?_
                refine wp_icmp_ne 116 dX10_isAsTold_109 rfl (fun c109 => ?_) (fun c109 => ?_)
                · replace h := o_neg h c109
                  refine wp_iconst (v := 0) dX10_isAsTold_116 (by decide) ?_
                  refine wp_goto 138 dX10_isAsTold_117 rfl ?_
                  obtain rfl := Option.some.inj h
                  exact wp_ireturn (ty := .boolean) dX10_isAsTold_138 rfl rfl ⟨rfl, rfl, rfl, rfl⟩
                · replace h := o_pos h c109
                  refine wp_iconst (v := 1) dX10_isAsTold_112 (by decide) ?_
                  refine wp_goto 138 dX10_isAsTold_113 rfl ?_
                  obtain rfl := Option.some.inj h
                  exact wp_ireturn (ty := .boolean) dX10_isAsTold_138 rfl rfl ⟨rfl, rfl, rfl, rfl⟩
            · replace h := o_neg h c92
              refine wp_iconst (v := 0) dX10_isAsTold_95 (by decide) ?_
              obtain rfl := Option.some.inj h
              exact wp_ireturn (ty := .boolean) dX10_isAsTold_96 rfl rfl ⟨rfl, rfl, rfl, rfl⟩
      · replace h := o_neg h c44
        refine wp_aload_n dX10_isAsTold_47 0 rfl ?_
        refine wp_getR (k := 55) (a' := ad 61) dX10_isAsTold_48 flX10_32 rfl rfl rfl rfl rfl ?_
        refine wp_iload_n dX10_isAsTold_51 1 rfl ?_
        obtain ⟨g52, h⟩ := o_grd h
        refine wp_iald (k := 61) dX10_isAsTold_52 rfl rfl (inb_of g52) ?_
        refine wp_iload dX10_isAsTold_53 4 rfl ?_
        obtain ⟨r55, h55, h⟩ := o_bind h
        refine wp_callsI (c_X10_has Γ ad (I 61 a1.toNatClampNeg) a4 I J r55 h55) dX10_isAsTold_55 mlX10_281 mwX10_has miX10_has rfl (Nat.le_of_ble_eq_true rfl) rfl (by decide) (by decide) ?_
        refine wp_if_eq 65 dX10_isAsTold_58 rfl (fun c58 => ?_) (fun c58 => ?_)
        · replace h := o_pos h c58
          refine wp_iconst (v := 0) dX10_isAsTold_65 (by decide) ?_
          refine wp_istore (lv' := [(0, _), (1, _), (2, _), (3, _), (4, _), (5, _), (6, _), (7, _)]) dX10_isAsTold_66 rfl rfl rfl ?_
          refine wp_iload dX10_isAsTold_68 7 rfl ?_
          refine wp_if_eq 95 dX10_isAsTold_70 rfl (fun c70 => ?_) (fun c70 => ?_)
          · replace h := o_pos h c70
            refine wp_iconst (v := 0) dX10_isAsTold_95 (by decide) ?_
            obtain rfl := Option.some.inj h
            exact wp_ireturn (ty := .boolean) dX10_isAsTold_96 rfl rfl ⟨rfl, rfl, rfl, rfl⟩
          · replace h := o_neg h c70
            refine wp_aload_n dX10_isAsTold_73 0 rfl ?_
            refine wp_getR (k := 55) (a' := ad 61) dX10_isAsTold_74 flX10_32 rfl rfl rfl rfl rfl ?_
            refine wp_iload_n dX10_isAsTold_77 1 rfl ?_
            obtain ⟨g78, h⟩ := o_grd h
            refine wp_iald (k := 61) dX10_isAsTold_78 rfl rfl (inb_of g78) ?_
            refine wp_iload_n dX10_isAsTold_79 2 rfl ?_
            obtain ⟨r80, h80, h⟩ := o_bind h
            refine wp_callsI (c_X10_has Γ ad (I 61 a1.toNatClampNeg) a2 I J r80 h80) dX10_isAsTold_80 mlX10_281 mwX10_has miX10_has rfl (Nat.le_of_ble_eq_true rfl) rfl (by decide) (by decide) ?_
            refine wp_if_eq 95 dX10_isAsTold_83 rfl (fun c83 => ?_) (fun c83 => ?_)
            · replace h := o_pos h c83
              refine wp_iconst (v := 0) dX10_isAsTold_95 (by decide) ?_
              obtain rfl := Option.some.inj h
              exact wp_ireturn (ty := .boolean) dX10_isAsTold_96 rfl rfl ⟨rfl, rfl, rfl, rfl⟩
            · replace h := o_neg h c83
              refine wp_aload_n dX10_isAsTold_86 0 rfl ?_
              refine wp_getR (k := 55) (a' := ad 64) dX10_isAsTold_87 flX10_41 rfl rfl rfl rfl rfl ?_
              refine wp_iload_n dX10_isAsTold_90 3 rfl ?_
              obtain ⟨g91, h⟩ := o_grd h
              refine wp_iald (k := 64) dX10_isAsTold_91 rfl rfl (inb_of g91) ?_
              refine wp_if_lt 97 dX10_isAsTold_92 rfl (fun c92 => ?_) (fun c92 => ?_)
              · replace h := o_pos h c92
                refine wp_aload_n dX10_isAsTold_97 0 rfl ?_
                refine wp_iload dX10_isAsTold_98 6 rfl ?_
                obtain ⟨r100, h100, h⟩ := o_bind h
                refine wp_callvI (k := 55) (ci := 10) (c_X10_sortOf Γ ad a1 I J r100 h100) dX10_isAsTold_100 mlX10_245 mwX10_sortOf miX10_sortOf rfl rfl rfl rfl (Nat.le_of_ble_eq_true rfl) rfl (by decide) (by decide) ?_
                refine wp_if_ne 120 dX10_isAsTold_103 rfl (fun c103 => ?_) (fun c103 => ?_)
                · replace h := o_neg h c103
                  refine wp_aload_n dX10_isAsTold_120 0 rfl ?_
                  refine wp_iload_n dX10_isAsTold_121 2 rfl ?_
                  obtain ⟨r122, h122, h⟩ := o_bind h
                  refine wp_callvI (k := 55) (ci := 10) (c_X10_sortOf Γ ad a2 I J r122 h122) dX10_isAsTold_122 mlX10_245 mwX10_sortOf miX10_sortOf rfl rfl rfl rfl (Nat.le_of_ble_eq_true rfl) rfl (by decide) (by decide) ?_
                  refine wp_if_ne 133 dX10_isAsTold_125 rfl (fun c125 => ?_) (fun c125 => ?_)
                  · replace h := o_neg h c125
                    refine wp_iconst (v := 1) dX10_isAsTold_133 (by decide) ?_
                    refine wp_goto 138 dX10_isAsTold_134 rfl ?_
                    obtain rfl := Option.some.inj h
                    exact wp_ireturn (ty := .boolean) dX10_isAsTold_138 rfl rfl ⟨rfl, rfl, rfl, rfl⟩
                  · replace h := o_pos h c125
                    refine wp_iload_n dX10_isAsTold_128 2 rfl ?_
                    refine wp_iload_n dX10_isAsTold_129 3 rfl ?_
                    refine wp_icmp_ne 137 dX10_isAsTold_130 rfl (fun c130 => ?_) (fun c130 => ?_)
                    · replace h := o_neg h c130
                      refine wp_iconst (v := 0) dX10_isAsTold_137 (by decide) ?_
                      obtain rfl := Option.some.inj h
                      exact wp_ireturn (ty := .boolean) dX10_isAsTold_138 rfl rfl ⟨rfl, rfl, rfl, rfl⟩
                    · replace h := o_pos h c130
                      refine wp_iconst (v := 1) dX10_isAsTold_133 (by decide) ?_
                      refine wp_goto 138 dX10_isAsTold_134 rfl ?_
                      obtain rfl := Option.some.inj h
                      exact wp_ireturn (ty := .boolean) dX10_isAsTold_138 rfl rfl ⟨rfl, rfl, rfl, rfl⟩
                · replace h := o_pos h c103
                  refine wp_iload dX10_isAsTold_106 6 rfl ?_
                  refine wp_iload_n dX10_isAsTold_108 3 rfl ?_
                  refine wp_icmp_ne 116 dX10_isAsTold_109 rfl (fun c109 => ?_) (fun c109 => ?_)
                  · replace h := o_neg h c109
                    refine wp_iconst (v := 0) dX10_isAsTold_116 (by decide) ?_
                    refine wp_goto 138 dX10_isAsTold_117 rfl ?_
                    obtain rfl := Option.some.inj h
                    exact wp_ireturn (ty := .boolean) dX10_isAsTold_138 rfl rfl ⟨rfl, rfl, rfl, rfl⟩
                  · replace h := o_pos h c109
                    refine wp_iconst (v := 1) dX10_isAsTold_112 (by decide) ?_
                    refine wp_goto 138 dX10_isAsTold_113 rfl ?_
                    obtain rfl := Option.some.inj h
                    exact wp_ireturn (ty := .boolean) dX10_isAsTold_138 rfl rfl ⟨rfl, rfl, rfl, rfl⟩
              · replace h := o_neg h c92
                refine wp_iconst (v := 0) dX10_isAsTold_95 (by decide) ?_
                obtain rfl := Option.some.inj h
                exact wp_ireturn (ty := .boolean) dX10_isAsTold_96 rfl rfl ⟨rfl, rfl, rfl, rfl⟩
        · replace h := o_neg h c58
          refine wp_iconst (v := 1) dX10_isAsTold_61 (by decide) ?_
          refine wp_goto 66 dX10_isAsTold_62 rfl ?_
          refine wp_istore (lv' := [(0, _), (1, _), (2, _), (3, _), (4, _), (5, _), (6, _), (7, _)]) dX10_isAsTold_66 rfl rfl rfl ?_
          refine wp_iload dX10_isAsTold_68 7 rfl ?_
          refine wp_if_eq 95 dX10_isAsTold_70 rfl (fun c70 => ?_) (fun c70 => ?_)
          · replace h := o_pos h c70
            refine wp_iconst (v := 0) dX10_isAsTold_95 (by decide) ?_
            obtain rfl := Option.some.inj h
            exact wp_ireturn (ty := .boolean) dX10_isAsTold_96 rfl rfl ⟨rfl, rfl, rfl, rfl⟩
          · replace h := o_neg h c70
            refine wp_aload_n dX10_isAsTold_73 0 rfl ?_
            refine wp_getR (k := 55) (a' := ad 61) dX10_isAsTold_74 flX10_32 rfl rfl rfl rfl rfl ?_
            refine wp_iload_n dX10_isAsTold_77 1 rfl ?_
            obtain ⟨g78, h⟩ := o_grd h
            refine wp_iald (k := 61) dX10_isAsTold_78 rfl rfl (inb_of g78) ?_
            refine wp_iload_n dX10_isAsTold_79 2 rfl ?_
            obtain ⟨r80, h80, h⟩ := o_bind h
            refine wp_callsI (c_X10_has Γ ad (I 61 a1.toNatClampNeg) a2 I J r80 h80) dX10_isAsTold_80 mlX10_281 mwX10_has miX10_has rfl (Nat.le_of_ble_eq_true rfl) rfl (by decide) (by decide) ?_
            refine wp_if_eq 95 dX10_isAsTold_83 rfl (fun c83 => ?_) (fun c83 => ?_)
            · replace h := o_pos h c83
              refine wp_iconst (v := 0) dX10_isAsTold_95 (by decide) ?_
              obtain rfl := Option.some.inj h
              exact wp_ireturn (ty := .boolean) dX10_isAsTold_96 rfl rfl ⟨rfl, rfl, rfl, rfl⟩
            · replace h := o_neg h c83
              refine wp_aload_n dX10_isAsTold_86 0 rfl ?_
              refine wp_getR (k := 55) (a' := ad 64) dX10_isAsTold_87 flX10_41 rfl rfl rfl rfl rfl ?_
              refine wp_iload_n dX10_isAsTold_90 3 rfl ?_
              obtain ⟨g91, h⟩ := o_grd h
              refine wp_iald (k := 64) dX10_isAsTold_91 rfl rfl (inb_of g91) ?_
              refine wp_if_lt 97 dX10_isAsTold_92 rfl (fun c92 => ?_) (fun c92 => ?_)
              · replace h := o_pos h c92
                refine wp_aload_n dX10_isAsTold_97 0 rfl ?_
                refine wp_iload dX10_isAsTold_98 6 rfl ?_
                obtain ⟨r100, h100, h⟩ := o_bind h
                refine wp_callvI (k := 55) (ci := 10) (c_X10_sortOf Γ ad a1 I J r100 h100) dX10_isAsTold_100 mlX10_245 mwX10_sortOf miX10_sortOf rfl rfl rfl rfl (Nat.le_of_ble_eq_true rfl) rfl (by decide) (by decide) ?_
                refine wp_if_ne 120 dX10_isAsTold_103 rfl (fun c103 => ?_) (fun c103 => ?_)
                · replace h := o_neg h c103
                  refine wp_aload_n dX10_isAsTold_120 0 rfl ?_
                  refine wp_iload_n dX10_isAsTold_121 2 rfl ?_
                  obtain ⟨r122, h122, h⟩ := o_bind h
                  refine wp_callvI (k := 55) (ci := 10) (c_X10_sortOf Γ ad a2 I J r122 h122) dX10_isAsTold_122 mlX10_245 mwX10_sortOf miX10_sortOf rfl rfl rfl rfl (Nat.le_of_ble_eq_true rfl) rfl (by decide) (by decide) ?_
                  refine wp_if_ne 133 dX10_isAsTold_125 rfl (fun c125 => ?_) (fun c125 => ?_)
                  · replace h := o_neg h c125
                    refine wp_iconst (v := 1) dX10_isAsTold_133 (by decide) ?_
                    refine wp_goto 138 dX10_isAsTold_134 rfl ?_
                    obtain rfl := Option.some.inj h
                    exact wp_ireturn (ty := .boolean) dX10_isAsTold_138 rfl rfl ⟨rfl, rfl, rfl, rfl⟩
                  · replace h := o_pos h c125
                    refine wp_iload_n dX10_isAsTold_128 2 rfl ?_
                    refine wp_iload_n dX10_isAsTold_129 3 rfl ?_
                    refine wp_icmp_ne 137 dX10_isAsTold_130 rfl (fun c130 => ?_) (fun c130 => ?_)
                    · replace h := o_neg h c130
                      refine wp_iconst (v := 0) dX10_isAsTold_137 (by decide) ?_
                      obtain rfl := Option.some.inj h
                      exact wp_ireturn (ty := .boolean) dX10_isAsTold_138 rfl rfl ⟨rfl, rfl, rfl, rfl⟩
                    · replace h := o_pos h c130
                      refine wp_iconst (v := 1) dX10_isAsTold_133 (by decide) ?_
                      refine wp_goto 138 dX10_isAsTold_134 rfl ?_
                      obtain rfl := Option.some.inj h
                      exact wp_ireturn (ty := .boolean) dX10_isAsTold_138 rfl rfl ⟨rfl, rfl, rfl, rfl⟩
                · replace h := o_pos h c103
                  refine wp_iload dX10_isAsTold_106 6 rfl ?_
                  refine wp_iload_n dX10_isAsTold_108 3 rfl ?_
                  refine wp_icmp_ne 116 dX10_isAsTold_109 rfl (fun c109 => ?_) (fun c109 => ?_)
                  · replace h := o_neg h c109
                    refine wp_iconst (v := 0) dX10_isAsTold_116 (by decide) ?_
                    refine wp_goto 138 dX10_isAsTold_117 rfl ?_
                    obtain rfl := Option.some.inj h
                    exact wp_ireturn (ty := .boolean) dX10_isAsTold_138 rfl rfl ⟨rfl, rfl, rfl, rfl⟩
                  · replace h := o_pos h c109
                    refine wp_iconst (v := 1) dX10_isAsTold_112 (by decide) ?_
                    refine wp_goto 138 dX10_isAsTold_113 rfl ?_
                    obtain rfl := Option.some.inj h
                    exact wp_ireturn (ty := .boolean) dX10_isAsTold_138 rfl rfl ⟨rfl, rfl, rfl, rfl⟩
              · replace h := o_neg h c92
                refine wp_iconst (v := 0) dX10_isAsTold_95 (by decide) ?_
                obtain rfl := Option.some.inj h
                exact wp_ireturn (ty := .boolean) dX10_isAsTold_96 rfl rfl ⟨rfl, rfl, rfl, rfl⟩
    · replace h := o_neg h c24
      refine wp_iload dX10_isAsTold_27 4 rfl ?_
      refine wp_iconst (v := (-1)) dX10_isAsTold_29 (by decide) ?_
      refine wp_icmp_ne 37 dX10_isAsTold_30 rfl (fun c30 => ?_) (fun c30 => ?_)
      · replace h := o_neg h c30
        refine wp_iconst (v := 0) dX10_isAsTold_37 (by decide) ?_
        refine wp_goto 66 dX10_isAsTold_38 rfl ?_
        refine wp_istore (lv' := [(0, _), (1, _), (2, _), (3, _), (4, _), (5, _), (6, _), (7, _)]) dX10_isAsTold_66 rfl rfl rfl ?_
        refine wp_iload dX10_isAsTold_68 7 rfl ?_
        refine wp_if_eq 95 dX10_isAsTold_70 rfl (fun c70 => ?_) (fun c70 => ?_)
        · replace h := o_pos h c70
          refine wp_iconst (v := 0) dX10_isAsTold_95 (by decide) ?_
          obtain rfl := Option.some.inj h
          exact wp_ireturn (ty := .boolean) dX10_isAsTold_96 rfl rfl ⟨rfl, rfl, rfl, rfl⟩
        · replace h := o_neg h c70
          refine wp_aload_n dX10_isAsTold_73 0 rfl ?_
          refine wp_getR (k := 55) (a' := ad 61) dX10_isAsTold_74 flX10_32 rfl rfl rfl rfl rfl ?_
          refine wp_iload_n dX10_isAsTold_77 1 rfl ?_
          obtain ⟨g78, h⟩ := o_grd h
          refine wp_iald (k := 61) dX10_isAsTold_78 rfl rfl (inb_of g78) ?_
          refine wp_iload_n dX10_isAsTold_79 2 rfl ?_
          obtain ⟨r80, h80, h⟩ := o_bind h
          refine wp_callsI (c_X10_has Γ ad (I 61 a1.toNatClampNeg) a2 I J r80 h80) dX10_isAsTold_80 mlX10_281 mwX10_has miX10_has rfl (Nat.le_of_ble_eq_true rfl) rfl (by decide) (by decide) ?_
          refine wp_if_eq 95 dX10_isAsTold_83 rfl (fun c83 => ?_) (fun c83 => ?_)
          · replace h := o_pos h c83
            refine wp_iconst (v := 0) dX10_isAsTold_95 (by decide) ?_
            obtain rfl := Option.some.inj h
            exact wp_ireturn (ty := .boolean) dX10_isAsTold_96 rfl rfl ⟨rfl, rfl, rfl, rfl⟩
          · replace h := o_neg h c83
            refine wp_aload_n dX10_isAsTold_86 0 rfl ?_
            refine wp_getR (k := 55) (a' := ad 64) dX10_isAsTold_87 flX10_41 rfl rfl rfl rfl rfl ?_
            refine wp_iload_n dX10_isAsTold_90 3 rfl ?_
            obtain ⟨g91, h⟩ := o_grd h
            refine wp_iald (k := 64) dX10_isAsTold_91 rfl rfl (inb_of g91) ?_
            refine wp_if_lt 97 dX10_isAsTold_92 rfl (fun c92 => ?_) (fun c92 => ?_)
            · replace h := o_pos h c92
              refine wp_aload_n dX10_isAsTold_97 0 rfl ?_
              refine wp_iload dX10_isAsTold_98 6 rfl ?_
              obtain ⟨r100, h100, h⟩ := o_bind h
              refine wp_callvI (k := 55) (ci := 10) (c_X10_sortOf Γ ad a1 I J r100 h100) dX10_isAsTold_100 mlX10_245 mwX10_sortOf miX10_sortOf rfl rfl rfl rfl (Nat.le_of_ble_eq_true rfl) rfl (by decide) (by decide) ?_
              refine wp_if_ne 120 dX10_isAsTold_103 rfl (fun c103 => ?_) (fun c103 => ?_)
              · replace h := o_neg h c103
                refine wp_aload_n dX10_isAsTold_120 0 rfl ?_
                refine wp_iload_n dX10_isAsTold_121 2 rfl ?_
                obtain ⟨r122, h122, h⟩ := o_bind h
                refine wp_callvI (k := 55) (ci := 10) (c_X10_sortOf Γ ad a2 I J r122 h122) dX10_isAsTold_122 mlX10_245 mwX10_sortOf miX10_sortOf rfl rfl rfl rfl (Nat.le_of_ble_eq_true rfl) rfl (by decide) (by decide) ?_
                refine wp_if_ne 133 dX10_isAsTold_125 rfl (fun c125 => ?_) (fun c125 => ?_)
                · replace h := o_neg h c125
                  refine wp_iconst (v := 1) dX10_isAsTold_133 (by decide) ?_
                  refine wp_goto 138 dX10_isAsTold_134 rfl ?_
                  obtain rfl := Option.some.inj h
                  exact wp_ireturn (ty := .boolean) dX10_isAsTold_138 rfl rfl ⟨rfl, rfl, rfl, rfl⟩
                · replace h := o_pos h c125
                  refine wp_iload_n dX10_isAsTold_128 2 rfl ?_
                  refine wp_iload_n dX10_isAsTold_129 3 rfl ?_
                  refine wp_icmp_ne 137 dX10_isAsTold_130 rfl (fun c130 => ?_) (fun c130 => ?_)
                  · replace h := o_neg h c130
                    refine wp_iconst (v := 0) dX10_isAsTold_137 (by decide) ?_
                    obtain rfl := Option.some.inj h
                    exact wp_ireturn (ty := .boolean) dX10_isAsTold_138 rfl rfl ⟨rfl, rfl, rfl, rfl⟩
                  · replace h := o_pos h c130
                    refine wp_iconst (v := 1) dX10_isAsTold_133 (by decide) ?_
                    refine wp_goto 138 dX10_isAsTold_134 rfl ?_
                    obtain rfl := Option.some.inj h
                    exact wp_ireturn (ty := .boolean) dX10_isAsTold_138 rfl rfl ⟨rfl, rfl, rfl, rfl⟩
              · replace h := o_pos h c103
                refine wp_iload dX10_isAsTold_106 6 rfl ?_
                refine wp_iload_n dX10_isAsTold_108 3 rfl ?_
                refine wp_icmp_ne 116 dX10_isAsTold_109 rfl (fun c109 => ?_) (fun c109 => ?_)
                · replace h := o_neg h c109
                  refine wp_iconst (v := 0) dX10_isAsTold_116 (by decide) ?_
                  refine wp_goto 138 dX10_isAsTold_117 rfl ?_
                  obtain rfl := Option.some.inj h
                  exact wp_ireturn (ty := .boolean) dX10_isAsTold_138 rfl rfl ⟨rfl, rfl, rfl, rfl⟩
                · replace h := o_pos h c109
                  refine wp_iconst (v := 1) dX10_isAsTold_112 (by decide) ?_
                  refine wp_goto 138 dX10_isAsTold_113 rfl ?_
                  obtain rfl := Option.some.inj h
                  exact wp_ireturn (ty := .boolean) dX10_isAsTold_138 rfl rfl ⟨rfl, rfl, rfl, rfl⟩
            · replace h := o_neg h c92
              refine wp_iconst (v := 0) dX10_isAsTold_95 (by decide) ?_
              obtain rfl := Option.some.inj h
              exact wp_ireturn (ty := .boolean) dX10_isAsTold_96 rfl rfl ⟨rfl, rfl, rfl, rfl⟩
      · replace h := o_pos h c30
        refine wp_iconst (v := 1) dX10_isAsTold_33 (by decide) ?_
        refine wp_goto 66 dX10_isAsTold_34 rfl ?_
        refine wp_istore (lv' := [(0, _), (1, _), (2, _), (3, _), (4, _), (5, _), (6, _), (7, _)]) dX10_isAsTold_66 rfl rfl rfl ?_
        refine wp_iload dX10_isAsTold_68 7 rfl ?_
        refine wp_if_eq 95 dX10_isAsTold_70 rfl (fun c70 => ?_) (fun c70 => ?_)
        · replace h := o_pos h c70
          refine wp_iconst (v := 0) dX10_isAsTold_95 (by decide) ?_
          obtain rfl := Option.some.inj h
          exact wp_ireturn (ty := .boolean) dX10_isAsTold_96 rfl rfl ⟨rfl, rfl, rfl, rfl⟩
        · replace h := o_neg h c70
          refine wp_aload_n dX10_isAsTold_73 0 rfl ?_
          refine wp_getR (k := 55) (a' := ad 61) dX10_isAsTold_74 flX10_32 rfl rfl rfl rfl rfl ?_
          refine wp_iload_n dX10_isAsTold_77 1 rfl ?_
          obtain ⟨g78, h⟩ := o_grd h
          refine wp_iald (k := 61) dX10_isAsTold_78 rfl rfl (inb_of g78) ?_
          refine wp_iload_n dX10_isAsTold_79 2 rfl ?_
          obtain ⟨r80, h80, h⟩ := o_bind h
          refine wp_callsI (c_X10_has Γ ad (I 61 a1.toNatClampNeg) a2 I J r80 h80) dX10_isAsTold_80 mlX10_281 mwX10_has miX10_has rfl (Nat.le_of_ble_eq_true rfl) rfl (by decide) (by decide) ?_
          refine wp_if_eq 95 dX10_isAsTold_83 rfl (fun c83 => ?_) (fun c83 => ?_)
          · replace h := o_pos h c83
            refine wp_iconst (v := 0) dX10_isAsTold_95 (by decide) ?_
            obtain rfl := Option.some.inj h
            exact wp_ireturn (ty := .boolean) dX10_isAsTold_96 rfl rfl ⟨rfl, rfl, rfl, rfl⟩
          · replace h := o_neg h c83
            refine wp_aload_n dX10_isAsTold_86 0 rfl ?_
            refine wp_getR (k := 55) (a' := ad 64) dX10_isAsTold_87 flX10_41 rfl rfl rfl rfl rfl ?_
            refine wp_iload_n dX10_isAsTold_90 3 rfl ?_
            obtain ⟨g91, h⟩ := o_grd h
            refine wp_iald (k := 64) dX10_isAsTold_91 rfl rfl (inb_of g91) ?_
            refine wp_if_lt 97 dX10_isAsTold_92 rfl (fun c92 => ?_) (fun c92 => ?_)
            · replace h := o_pos h c92
              refine wp_aload_n dX10_isAsTold_97 0 rfl ?_
              refine wp_iload dX10_isAsTold_98 6 rfl ?_
              obtain ⟨r100, h100, h⟩ := o_bind h
              refine wp_callvI (k := 55) (ci := 10) (c_X10_sortOf Γ ad a1 I J r100 h100) dX10_isAsTold_100 mlX10_245 mwX10_sortOf miX10_sortOf rfl rfl rfl rfl (Nat.le_of_ble_eq_true rfl) rfl (by decide) (by decide) ?_
              refine wp_if_ne 120 dX10_isAsTold_103 rfl (fun c103 => ?_) (fun c103 => ?_)
              · replace h := o_neg h c103
                refine wp_aload_n dX10_isAsTold_120 0 rfl ?_
                refine wp_iload_n dX10_isAsTold_121 2 rfl ?_
                obtain ⟨r122, h122, h⟩ := o_bind h
                refine wp_callvI (k := 55) (ci := 10) (c_X10_sortOf Γ ad a2 I J r122 h122) dX10_isAsTold_122 mlX10_245 mwX10_sortOf miX10_sortOf rfl rfl rfl rfl (Nat.le_of_ble_eq_true rfl) rfl (by decide) (by decide) ?_
                refine wp_if_ne 133 dX10_isAsTold_125 rfl (fun c125 => ?_) (fun c125 => ?_)
                · replace h := o_neg h c125
                  refine wp_iconst (v := 1) dX10_isAsTold_133 (by decide) ?_
                  refine wp_goto 138 dX10_isAsTold_134 rfl ?_
                  obtain rfl := Option.some.inj h
                  exact wp_ireturn (ty := .boolean) dX10_isAsTold_138 rfl rfl ⟨rfl, rfl, rfl, rfl⟩
                · replace h := o_pos h c125
                  refine wp_iload_n dX10_isAsTold_128 2 rfl ?_
                  refine wp_iload_n dX10_isAsTold_129 3 rfl ?_
                  refine wp_icmp_ne 137 dX10_isAsTold_130 rfl (fun c130 => ?_) (fun c130 => ?_)
                  · replace h := o_neg h c130
                    refine wp_iconst (v := 0) dX10_isAsTold_137 (by decide) ?_
                    obtain rfl := Option.some.inj h
                    exact wp_ireturn (ty := .boolean) dX10_isAsTold_138 rfl rfl ⟨rfl, rfl, rfl, rfl⟩
                  · replace h := o_pos h c130
                    refine wp_iconst (v := 1) dX10_isAsTold_133 (by decide) ?_
                    refine wp_goto 138 dX10_isAsTold_134 rfl ?_
                    obtain rfl := Option.some.inj h
                    exact wp_ireturn (ty := .boolean) dX10_isAsTold_138 rfl rfl ⟨rfl, rfl, rfl, rfl⟩
              · replace h := o_pos h c103
                refine wp_iload dX10_isAsTold_106 6 rfl ?_
                refine wp_iload_n dX10_isAsTold_108 3 rfl ?_
                refine wp_icmp_ne 116 dX10_isAsTold_109 rfl (fun c109 => ?_) (fun c109 => ?_)
                · replace h := o_neg h c109
                  refine wp_iconst (v := 0) dX10_isAsTold_116 (by decide) ?_
                  refine wp_goto 138 dX10_isAsTold_117 rfl ?_
                  obtain rfl := Option.some.inj h
                  exact wp_ireturn (ty := .boolean) dX10_isAsTold_138 rfl rfl ⟨rfl, rfl, rfl, rfl⟩
                · replace h := o_pos h c109
                  refine wp_iconst (v := 1) dX10_isAsTold_112 (by decide) ?_
                  refine wp_goto 138 dX10_isAsTold_113 rfl ?_
                  obtain rfl := Option.some.inj h
                  exact wp_ireturn (ty := .boolean) dX10_isAsTold_138 rfl rfl ⟨rfl, rfl, rfl, rfl⟩
            · replace h := o_neg h c92
              refine wp_iconst (v := 0) dX10_isAsTold_95 (by decide) ?_
              obtain rfl := Option.some.inj h
              exact wp_ireturn (ty := .boolean) dX10_isAsTold_96 rfl rfl ⟨rfl, rfl, rfl, rfl⟩
def f_X10_boundBesides_5 : Nat → Int32 → Int32 → Int32 → Int32 → IT → Option (Int32)
  | 0, _, _, _, _, _ => none
  | n + 1, v1, v2, v3, v4, I =>
    if (I 55 0) ≤ v4 then
      some v3
    else
      if v4 = v2 then
        f_X10_boundBesides_5 n v1 v2 (v3 + 0) (v4 + 1) I
      else
        (f_X10_isBound v1 v4 I).bind fun r25 =>
        if r25 = 0 then
          f_X10_boundBesides_5 n v1 v2 (v3 + 0) (v4 + 1) I
        else
          if inbB ((6 * v1) + v4) 84 = true then
            f_X10_boundBesides_5 n v1 v2 (v3 + (I 62 ((6 * v1) + v4).toNatClampNeg)) (v4 + 1) I
          else none
def f_X10_boundBesides (a1 : Int32) (a2 : Int32) (I : IT) : Option (Int32) :=
  f_X10_boundBesides_5 FU a1 a2 0 0 I
set_option maxRecDepth 100000 in
set_option maxHeartbeats 4000000 in
theorem w_X10_boundBesides_5 (Γ : GT) (ad : Nat → Nat) : ∀ (n : Nat) (v1 : Int32) (v2 : Int32) (v3 : Int32) (v4 : Int32) (I : IT) (J : JT) (r : Int32), f_X10_boundBesides_5 n v1 v2 v3 v4 I = some r → WP Γ mX10_boundBesides (0, 0) 5 [(0, .ref (ad 55)), (1, .int v1), (2, .int v2), (3, .int v3), (4, .int v4)] [] (DX ad) I J (QE (some (.int r)) (DX ad) I J) := by
  intro n
  induction n with
  | zero => intro v1 v2 v3 v4 I J r h; exact absurd h (by simp [f_X10_boundBesides_5])
  | succ n ih =>
    intro v1 v2 v3 v4 I J r h
    rw [f_X10_boundBesides_5] at h
    refine wp_iload dX10_boundBesides_5 4 rfl ?_
    refine wp_aload_n dX10_boundBesides_7 0 rfl ?_
    refine wp_getI (k := 55) dX10_boundBesides_8 flX10_121 rfl rfl rfl rfl ?_
    refine wp_icmp_ge 55 dX10_boundBesides_11 rfl (fun c11 => ?_) (fun c11 => ?_)
    · replace h := o_pos h c11
      refine wp_iload_n dX10_boundBesides_55 3 rfl ?_
      obtain rfl := Option.some.inj h
      exact wp_ireturn (ty := .int) dX10_boundBesides_56 rfl rfl ⟨rfl, rfl, rfl, rfl⟩
    · replace h := o_neg h c11
      refine wp_iload_n dX10_boundBesides_14 3 rfl ?_
      refine wp_iload dX10_boundBesides_15 4 rfl ?_
      refine wp_iload_n dX10_boundBesides_17 2 rfl ?_
      refine wp_icmp_eq 46 dX10_boundBesides_18 rfl (fun c18 => ?_) (fun c18 => ?_)
      · replace h := o_pos h c18
        refine wp_iconst (v := 0) dX10_boundBesides_46 (by decide) ?_
        refine wp_iadd dX10_boundBesides_47 ?_
        refine wp_istore_n (lv' := [(0, _), (1, _), (2, _), (3, _), (4, _)]) dX10_boundBesides_48 rfl rfl rfl rfl ?_
        refine wp_iinc (v := v4 + 1) (lv' := [(0, _), (1, _), (2, _), (3, _), (4, _)]) dX10_boundBesides_49 4 rfl rfl rfl rfl rfl ?_
        refine wp_goto 5 dX10_boundBesides_52 rfl ?_
        refine wp_pick [0, 1, 2, 3, 4] (lv' := [(0, _), (1, _), (2, _), (3, _), (4, _)]) rfl ?_
        exact ih v1 v2 (v3 + 0) (v4 + 1) I J r h
      · replace h := o_neg h c18
        refine wp_aload_n dX10_boundBesides_21 0 rfl ?_
        refine wp_iload_n dX10_boundBesides_22 1 rfl ?_
        refine wp_iload dX10_boundBesides_23 4 rfl ?_
        obtain ⟨r25, h25, h⟩ := o_bind h
        refine wp_callvI (k := 55) (ci := 10) (c_X10_isBound Γ ad v1 v4 I J r25 h25) dX10_boundBesides_25 mlX10_278 mwX10_isBound miX10_isBound rfl rfl rfl rfl (Nat.le_of_ble_eq_true rfl) rfl (by decide) (by decide) ?_
        refine wp_if_eq 46 dX10_boundBesides_28 rfl (fun c28 => ?_) (fun c28 => ?_)
        · replace h := o_pos h c28
          refine wp_iconst (v := 0) dX10_boundBesides_46 (by decide) ?_
          refine wp_iadd dX10_boundBesides_47 ?_
          refine wp_istore_n (lv' := [(0, _), (1, _), (2, _), (3, _), (4, _)]) dX10_boundBesides_48 rfl rfl rfl rfl ?_
          refine wp_iinc (v := v4 + 1) (lv' := [(0, _), (1, _), (2, _), (3, _), (4, _)]) dX10_boundBesides_49 4 rfl rfl rfl rfl rfl ?_
          refine wp_goto 5 dX10_boundBesides_52 rfl ?_
          refine wp_pick [0, 1, 2, 3, 4] (lv' := [(0, _), (1, _), (2, _), (3, _), (4, _)]) rfl ?_
          exact ih v1 v2 (v3 + 0) (v4 + 1) I J r h
        · replace h := o_neg h c28
          refine wp_aload_n dX10_boundBesides_31 0 rfl ?_
          refine wp_getR (k := 55) (a' := ad 62) dX10_boundBesides_32 flX10_35 rfl rfl rfl rfl rfl ?_
          refine wp_bipush (v := 6) dX10_boundBesides_35 (by decide) ?_
          refine wp_iload_n dX10_boundBesides_37 1 rfl ?_
          refine wp_imul dX10_boundBesides_38 ?_
          refine wp_iload dX10_boundBesides_39 4 rfl ?_
          refine wp_iadd dX10_boundBesides_41 ?_
          obtain ⟨g42, h⟩ := o_grd h
          refine wp_iald (k := 62) dX10_boundBesides_42 rfl rfl (inb_of g42) ?_
          refine wp_goto 47 dX10_boundBesides_43 rfl ?_
          refine wp_iadd dX10_boundBesides_47 ?_
          refine wp_istore_n (lv' := [(0, _), (1, _), (2, _), (3, _), (4, _)]) dX10_boundBesides_48 rfl rfl rfl rfl ?_
          refine wp_iinc (v := v4 + 1) (lv' := [(0, _), (1, _), (2, _), (3, _), (4, _)]) dX10_boundBesides_49 4 rfl rfl rfl rfl rfl ?_
          refine wp_goto 5 dX10_boundBesides_52 rfl ?_
          refine wp_pick [0, 1, 2, 3, 4] (lv' := [(0, _), (1, _), (2, _), (3, _), (4, _)]) rfl ?_
          exact ih v1 v2 (v3 + (I 62 ((6 * v1) + v4).toNatClampNeg)) (v4 + 1) I J r h
set_option maxRecDepth 100000 in
set_option maxHeartbeats 4000000 in
theorem c_X10_boundBesides (Γ : GT) (ad : Nat → Nat) (a1 : Int32) (a2 : Int32) (I : IT) (J : JT) (r : Int32) (h : f_X10_boundBesides a1 a2 I = some r) : CALL Γ mX10_boundBesides (0, 0) [.ref (ad 55), .int a1, .int a2] (DX ad) I J (QE (some (.int r)) (DX ad) I J) := by
  refine call_of' (by decide) (Nat.le_of_ble_eq_true rfl) (lv0 := [(0, .ref (ad 55)), (1, .int a1), (2, .int a2)]) rfl ?_
  unfold f_X10_boundBesides at h
  refine wp_iconst (v := 0) dX10_boundBesides_0 (by decide) ?_
  refine wp_istore_n (lv' := [(0, _), (1, _), (2, _), (3, _)]) dX10_boundBesides_1 rfl rfl rfl rfl ?_
  refine wp_iconst (v := 0) dX10_boundBesides_2 (by decide) ?_
  refine wp_istore (lv' := [(0, _), (1, _), (2, _), (3, _), (4, _)]) dX10_boundBesides_3 rfl rfl rfl ?_
  refine wp_pick [0, 1, 2, 3, 4] (lv' := [(0, _), (1, _), (2, _), (3, _), (4, _)]) rfl ?_
  exact w_X10_boundBesides_5 Γ ad FU a1 a2 0 0 I J r h
def f_X10_canBind (a1 : Int32) (a2 : Int32) (a3 : Int32) (I : IT) : Option (Int32) :=
  (f_X10_isBound a1 a2 I).bind fun r3 =>
  if r3 = 0 then
    (f_X10_sortOf a1 I).bind fun r13 =>
    if r13 = 0 then
      some 1
    else
      if inbB (a1 - (I 55 0)) 6 = true then
        (f_X10_boundBesides a1 a2 I).bind fun r34 =>
        if inbB a1 14 = true then
          if (((I 57 (a1 - (I 55 0)).toNatClampNeg) - r34) - (I 66 a1.toNatClampNeg)) < a3 then
            some 0
          else
            some 1
        else none
      else none
  else
    some 0
set_option maxRecDepth 100000 in
set_option maxHeartbeats 4000000 in
theorem c_X10_canBind (Γ : GT) (ad : Nat → Nat) (a1 : Int32) (a2 : Int32) (a3 : Int32) (I : IT) (J : JT) (r : Int32) (h : f_X10_canBind a1 a2 a3 I = some r) : CALL Γ mX10_canBind (0, 0) [.ref (ad 55), .int a1, .int a2, .int a3] (DX ad) I J (QE (some (.int r)) (DX ad) I J) := by
  refine call_of' (by decide) (Nat.le_of_ble_eq_true rfl) (lv0 := [(0, .ref (ad 55)), (1, .int a1), (2, .int a2), (3, .int a3)]) rfl ?_
  unfold f_X10_canBind at h
  refine wp_aload_n dX10_canBind_0 0 rfl ?_
  refine wp_iload_n dX10_canBind_1 1 rfl ?_
  refine wp_iload_n dX10_canBind_2 2 rfl ?_
  obtain ⟨r3, h3, h⟩ := o_bind h
  refine wp_callvI (k := 55) (ci := 10) (c_X10_isBound Γ ad a1 a2 I J r3 h3) dX10_canBind_3 mlX10_278 mwX10_isBound miX10_isBound rfl rfl rfl rfl (Nat.le_of_ble_eq_true rfl) rfl (by decide) (by decide) ?_
  refine wp_if_eq 11 dX10_canBind_6 rfl (fun c6 => ?_) (fun c6 => ?_)
  · replace h := o_pos h c6
    refine wp_aload_n dX10_canBind_11 0 rfl ?_
    refine wp_iload_n dX10_canBind_12 1 rfl ?_
    obtain ⟨r13, h13, h⟩ := o_bind h
    refine wp_callvI (k := 55) (ci := 10) (c_X10_sortOf Γ ad a1 I J r13 h13) dX10_canBind_13 mlX10_245 mwX10_sortOf miX10_sortOf rfl rfl rfl rfl (Nat.le_of_ble_eq_true rfl) rfl (by decide) (by decide) ?_
    refine wp_if_eq 48 dX10_canBind_16 rfl (fun c16 => ?_) (fun c16 => ?_)
    · replace h := o_pos h c16
      refine wp_iconst (v := 1) dX10_canBind_48 (by decide) ?_
      refine wp_goto 53 dX10_canBind_49 rfl ?_
      obtain rfl := Option.some.inj h
      exact wp_ireturn (ty := .boolean) dX10_canBind_53 rfl rfl ⟨rfl, rfl, rfl, rfl⟩
    · replace h := o_neg h c16
      refine wp_iload_n dX10_canBind_19 3 rfl ?_
      refine wp_aload_n dX10_canBind_20 0 rfl ?_
      refine wp_getR (k := 55) (a' := ad 57) dX10_canBind_21 flX10_13 rfl rfl rfl rfl rfl ?_
      refine wp_iload_n dX10_canBind_24 1 rfl ?_
      refine wp_aload_n dX10_canBind_25 0 rfl ?_
      refine wp_getI (k := 55) dX10_canBind_26 flX10_121 rfl rfl rfl rfl ?_
      refine wp_isub dX10_canBind_29 ?_
      obtain ⟨g30, h⟩ := o_grd h
      refine wp_iald (k := 57) dX10_canBind_30 rfl rfl (inb_of g30) ?_
      refine wp_aload_n dX10_canBind_31 0 rfl ?_
      refine wp_iload_n dX10_canBind_32 1 rfl ?_
      refine wp_iload_n dX10_canBind_33 2 rfl ?_
      obtain ⟨r34, h34, h⟩ := o_bind h
      refine wp_callvI (k := 55) (ci := 10) (c_X10_boundBesides Γ ad a1 a2 I J r34 h34) dX10_canBind_34 mlX10_290 mwX10_boundBesides miX10_boundBesides rfl rfl rfl rfl (Nat.le_of_ble_eq_true rfl) rfl (by decide) (by decide) ?_
      refine wp_isub dX10_canBind_37 ?_
      refine wp_aload_n dX10_canBind_38 0 rfl ?_
      refine wp_getR (k := 55) (a' := ad 66) dX10_canBind_39 flX10_47 rfl rfl rfl rfl rfl ?_
      refine wp_iload_n dX10_canBind_42 1 rfl ?_
      obtain ⟨g43, h⟩ := o_grd h
      refine wp_iald (k := 66) dX10_canBind_43 rfl rfl (inb_of g43) ?_
      refine wp_isub dX10_canBind_44 ?_
      refine wp_icmp_gt 52 dX10_canBind_45 rfl (fun c45 => ?_) (fun c45 => ?_)
      · replace h := o_pos h c45
        refine wp_iconst (v := 0) dX10_canBind_52 (by decide) ?_
        obtain rfl := Option.some.inj h
        exact wp_ireturn (ty := .boolean) dX10_canBind_53 rfl rfl ⟨rfl, rfl, rfl, rfl⟩
      · replace h := o_neg h c45
        refine wp_iconst (v := 1) dX10_canBind_48 (by decide) ?_
        refine wp_goto 53 dX10_canBind_49 rfl ?_
        obtain rfl := Option.some.inj h
        exact wp_ireturn (ty := .boolean) dX10_canBind_53 rfl rfl ⟨rfl, rfl, rfl, rfl⟩
  · replace h := o_neg h c6
    refine wp_iconst (v := 0) dX10_canBind_9 (by decide) ?_
    obtain rfl := Option.some.inj h
    exact wp_ireturn (ty := .boolean) dX10_canBind_10 rfl rfl ⟨rfl, rfl, rfl, rfl⟩
