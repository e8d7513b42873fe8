/-! the law, lifted -/
abbrev mL_law : MT := (x, code, 4, ret, 11, 436)
theorem mlL_9 : Cond.methodLink RL 9 yX9_init ∈ lw_good := tb1 22 (by decide +kernel) rfl
theorem mlL_12 : Cond.methodLink RL 12 yX10_init ∈ lw_good := tb5 17 (by decide +kernel) rfl
theorem mlL_15 : Cond.methodLink RL 15 yX9_feed ∈ lw_good := tb2 108 (by decide +kernel) rfl
theorem mlL_19 : Cond.methodLink RL 19 yX10_feed ∈ lw_good := tb5 188 (by decide +kernel) rfl
theorem mlL_20 : Cond.methodLink RL 20 yX9_market ∈ lw_good := tb2 121 (by decide +kernel) rfl
theorem mlL_24 : Cond.methodLink RL 24 yX10_market ∈ lw_good := tb5 199 (by decide +kernel) rfl
theorem mlL_25 : Cond.methodLink RL 25 yX9_fault ∈ lw_good := tb3 8 (by decide +kernel) rfl
theorem mlL_28 : Cond.methodLink RL 28 yX10_fault ∈ lw_good := tb6 34 (by decide +kernel) rfl
theorem mlL_29 : Cond.methodLink RL 29 yX9_told ∈ lw_good := tb3 12 (by decide +kernel) rfl
theorem mlL_33 : Cond.methodLink RL 33 yX10_told ∈ lw_good := tb6 38 (by decide +kernel) rfl
theorem mlL_34 : Cond.methodLink RL 34 yX9_person ∈ lw_good := tb3 24 (by decide +kernel) rfl
theorem mlL_38 : Cond.methodLink RL 38 yX10_person ∈ lw_good := tb6 46 (by decide +kernel) rfl
theorem mlL_39 : Cond.methodLink RL 39 yX9_worth ∈ lw_good := tb3 44 (by decide +kernel) rfl
theorem mlL_42 : Cond.methodLink RL 42 yX10_worth ∈ lw_good := tb6 62 (by decide +kernel) rfl
theorem mlL_43 : Cond.methodLink RL 43 yX9_bound ∈ lw_good := tb3 56 (by decide +kernel) rfl
theorem mlL_47 : Cond.methodLink RL 47 yX10_bound ∈ lw_good := tb6 74 (by decide +kernel) rfl
theorem mlL_48 : Cond.methodLink RL 48 yX9_lot ∈ lw_good := tb3 74 (by decide +kernel) rfl
theorem mlL_51 : Cond.methodLink RL 51 yX10_lot ∈ lw_good := tb6 86 (by decide +kernel) rfl
theorem mlL_52 : Cond.methodLink RL 52 yX9_hold ∈ lw_good := tb3 78 (by decide +kernel) rfl
theorem mlL_55 : Cond.methodLink RL 55 yX10_hold ∈ lw_good := tb6 90 (by decide +kernel) rfl
theorem mlL_56 : Cond.methodLink RL 56 yX9_loose ∈ lw_good := tb3 101 (by decide +kernel) rfl
theorem mlL_59 : Cond.methodLink RL 59 yX10_loose ∈ lw_good := tb6 98 (by decide +kernel) rfl
theorem mlL_60 : Cond.methodLink RL 60 yX9_press ∈ lw_good := tb3 110 (by decide +kernel) rfl
theorem mlL_64 : Cond.methodLink RL 64 yX10_press ∈ lw_good := tb6 111 (by decide +kernel) rfl
theorem mlL_65 : Cond.methodLink RL 65 yX9_price ∈ lw_good := tb3 162 (by decide +kernel) rfl
theorem mlL_68 : Cond.methodLink RL 68 yX10_price ∈ lw_good := tb6 102 (by decide +kernel) rfl
theorem mlL_69 : Cond.methodLink RL 69 yX9_twitches ∈ lw_good := tb3 166 (by decide +kernel) rfl
theorem mlL_72 : Cond.methodLink RL 72 yX10_twitches ∈ lw_good := tb6 136 (by decide +kernel) rfl
theorem mlL_73 : Cond.methodLink RL 73 yX9_beat ∈ lw_good := tb3 173 (by decide +kernel) rfl
theorem mlL_76 : Cond.methodLink RL 76 yX10_beat ∈ lw_good := tb6 143 (by decide +kernel) rfl
theorem mlL_77 : Cond.methodLink RL 77 yX9_drift ∈ lw_good := tb3 177 (by decide +kernel) rfl
theorem mlL_80 : Cond.methodLink RL 80 yX10_drift ∈ lw_good := tb6 148 (by decide +kernel) rfl
theorem mlL_81 : Cond.methodLink RL 81 yX9_bargain ∈ lw_good := tb3 205 (by decide +kernel) rfl
theorem mlL_84 : Cond.methodLink RL 84 yX10_bargain ∈ lw_good := tb6 165 (by decide +kernel) rfl
theorem mlL_85 : Cond.methodLink RL 85 yX9_best ∈ lw_good := tb3 217 (by decide +kernel) rfl
theorem mlL_88 : Cond.methodLink RL 88 yX10_best ∈ lw_good := tb6 170 (by decide +kernel) rfl
theorem mlL_89 : Cond.methodLink RL 89 yX9_span ∈ lw_good := tb4 31 (by decide +kernel) rfl
theorem mlL_92 : Cond.methodLink RL 92 yX10_span ∈ lw_good := tb6 190 (by decide +kernel) rfl
theorem mlL_93 : Cond.methodLink RL 93 yX9_lie ∈ lw_good := tb4 67 (by decide +kernel) rfl
theorem mlL_97 : Cond.methodLink RL 97 yX10_lie ∈ lw_good := tb6 198 (by decide +kernel) rfl
theorem mlL_98 : Cond.methodLink RL 98 yX9_bestLie ∈ lw_good := tb4 94 (by decide +kernel) rfl
theorem mlL_101 : Cond.methodLink RL 101 yX10_bestLie ∈ lw_good := tb6 221 (by decide +kernel) rfl
theorem mlL_102 : Cond.methodLink RL 102 yX9_seen ∈ lw_good := tb4 98 (by decide +kernel) rfl
theorem mlL_106 : Cond.methodLink RL 106 yX10_seen ∈ lw_good := tb6 225 (by decide +kernel) rfl
theorem mlL_107 : Cond.methodLink RL 107 yX9_forget ∈ lw_good := tb4 106 (by decide +kernel) rfl
theorem mlL_110 : Cond.methodLink RL 110 yX10_forget ∈ lw_good := tb6 230 (by decide +kernel) rfl
theorem mlL_111 : Cond.methodLink RL 111 yX9_fits ∈ lw_good := tb4 110 (by decide +kernel) rfl
theorem mlL_114 : Cond.methodLink RL 114 yX10_fits ∈ lw_good := tb6 234 (by decide +kernel) rfl
theorem mlL_115 : Cond.methodLink RL 115 yX9_wentFor ∈ lw_good := tb4 138 (by decide +kernel) rfl
theorem mlL_118 : Cond.methodLink RL 118 yX10_wentFor ∈ lw_good := tb7 2 (by decide +kernel) rfl
theorem mlL_119 : Cond.methodLink RL 119 yX9_meetings ∈ lw_good := tb4 181 (by decide +kernel) rfl
theorem mlL_122 : Cond.methodLink RL 122 yX10_meetings ∈ lw_good := tb7 19 (by decide +kernel) rfl
theorem mlL_123 : Cond.methodLink RL 123 yX9_write ∈ lw_good := tb4 212 (by decide +kernel) rfl
theorem mlL_126 : Cond.methodLink RL 126 yX10_write ∈ lw_good := tb7 35 (by decide +kernel) rfl
theorem mlL_127 : Cond.methodLink RL 127 yX9_tear ∈ lw_good := tb4 220 (by decide +kernel) rfl
theorem mlL_130 : Cond.methodLink RL 130 yX10_tear ∈ lw_good := tb7 39 (by decide +kernel) rfl
theorem mlL_131 : Cond.methodLink RL 131 yX9_judge ∈ lw_good := tb4 224 (by decide +kernel) rfl
theorem mlL_134 : Cond.methodLink RL 134 yX10_judge ∈ lw_good := tb7 43 (by decide +kernel) rfl
theorem mlL_135 : Cond.methodLink RL 135 yX9_seed ∈ lw_good := tb4 238 (by decide +kernel) rfl
theorem mlL_138 : Cond.methodLink RL 138 yX10_seed ∈ lw_good := tb7 51 (by decide +kernel) rfl
theorem mlL_139 : Cond.methodLink RL 139 yX9_keep ∈ lw_good := tb5 2 (by decide +kernel) rfl
theorem mlL_142 : Cond.methodLink RL 142 yX10_keep ∈ lw_good := tb7 55 (by decide +kernel) rfl
theorem mlL_143 : Cond.methodLink RL 143 yX9_goBack ∈ lw_good := tb5 11 (by decide +kernel) rfl
theorem mlL_146 : Cond.methodLink RL 146 yX10_goBack ∈ lw_good := tb7 59 (by decide +kernel) rfl
def f_L_law_18 (X : Nat → Nat) : Nat → Int32 → IT → JT → Option (Int32 × IT × JT)
  | 0, _, _, _ => none
  | n + 1, v3, I, J =>
    if ((Int32.ofNat (X 21)) - 6) < v3 then
      some (1, I, J)
    else
      if inbB v3 (X 21) = true then
        if ((Int32.ofNat (X (100 + v3.toNatClampNeg))) &&& 31) = 0 then
          if inbB (v3 + 1) (X 21) = true then
            if inbB (v3 + 2) (X 21) = true then
              if inbB (v3 + 3) (X 21) = true then
                (f_X9_feed (Int32.ofNat (X (100 + (v3 + 1).toNatClampNeg))) ((((Int32.ofNat (X (100 + (v3 + 2).toNatClampNeg))).toInt64) <<< ((32 : Int32).toInt64 &&& 63)) ||| (((Int32.ofNat (X (100 + (v3 + 3).toNatClampNeg))).toInt64) &&& 4294967295)) I).bind fun r198 =>
                if inbB (v3 + 1) (X 21) = true then
                  if inbB (v3 + 2) (X 21) = true then
                    if inbB (v3 + 3) (X 21) = true then
                      (f_X10_feed (Int32.ofNat (X (100 + (v3 + 1).toNatClampNeg))) ((((Int32.ofNat (X (100 + (v3 + 2).toNatClampNeg))).toInt64) <<< ((32 : Int32).toInt64 &&& 63)) ||| (((Int32.ofNat (X (100 + (v3 + 3).toNatClampNeg))).toInt64) &&& 4294967295)) r198.2).bind fun r227 =>
                      if r198.1 = r227.1 then
                        f_L_law_18 X n (v3 + 6) r227.2 J
                      else
                        some (0, r227.2, J)
                    else none
                  else none
                else none
              else none
            else none
          else none
        else
          if ((Int32.ofNat (X (100 + v3.toNatClampNeg))) &&& 31) = 1 then
            (f_X9_market I).bind fun r236 =>
            (f_X10_market r236.2 J).bind fun r240 =>
            if r236.1 = r240.1 then
              f_L_law_18 X n (v3 + 6) r240.2.1 r240.2.2
            else
              some (0, r240.2.1, r240.2.2)
          else
            if ((Int32.ofNat (X (100 + v3.toNatClampNeg))) &&& 31) = 2 then
              (f_X9_fault I).bind fun r249 =>
              (f_X10_fault I).bind fun r253 =>
              if r249 = r253 then
                f_L_law_18 X n (v3 + 6) I J
              else
                some (0, I, J)
            else
              if ((Int32.ofNat (X (100 + v3.toNatClampNeg))) &&& 31) = 3 then
                if inbB (v3 + 1) (X 21) = true then
                  (f_X9_told (Int32.ofNat (X (100 + (v3 + 1).toNatClampNeg))) I).bind fun r267 =>
                  if inbB (v3 + 1) (X 21) = true then
                    (f_X10_told (Int32.ofNat (X (100 + (v3 + 1).toNatClampNeg))) I).bind fun r276 =>
                    if r267 = r276 then
                      f_L_law_18 X n (v3 + 6) I J
                    else
                      some (0, I, J)
                  else none
                else none
              else
                if ((Int32.ofNat (X (100 + v3.toNatClampNeg))) &&& 31) = 4 then
                  if inbB (v3 + 1) (X 21) = true then
                    if inbB (v3 + 2) (X 21) = true then
                      (f_X9_person (Int32.ofNat (X (100 + (v3 + 1).toNatClampNeg))) (Int32.ofNat (X (100 + (v3 + 2).toNatClampNeg))) I).bind fun r295 =>
                      if inbB (v3 + 1) (X 21) = true then
                        if inbB (v3 + 2) (X 21) = true then
                          (f_X10_person (Int32.ofNat (X (100 + (v3 + 1).toNatClampNeg))) (Int32.ofNat (X (100 + (v3 + 2).toNatClampNeg))) I).bind fun r309 =>
                          if r295 = r309 then
                            f_L_law_18 X n (v3 + 6) I J
                          else
                            some (0, I, J)
                        else none
                      else none
                    else none
                  else none
                else
                  if ((Int32.ofNat (X (100 + v3.toNatClampNeg))) &&& 31) = 5 then
                    if inbB (v3 + 1) (X 21) = true then
                      if inbB (v3 + 2) (X 21) = true then
                        (f_X9_worth (Int32.ofNat (X (100 + (v3 + 1).toNatClampNeg))) (Int32.ofNat (X (100 + (v3 + 2).toNatClampNeg))) I).bind fun r328 =>
                        if inbB (v3 + 1) (X 21) = true then
                          if inbB (v3 + 2) (X 21) = true then
                            (f_X10_worth (Int32.ofNat (X (100 + (v3 + 1).toNatClampNeg))) (Int32.ofNat (X (100 + (v3 + 2).toNatClampNeg))) I).bind fun r342 =>
                            if r328 = r342 then
                              f_L_law_18 X n (v3 + 6) I J
                            else
                              some (0, I, J)
                          else none
                        else none
                      else none
                    else none
                  else
                    if ((Int32.ofNat (X (100 + v3.toNatClampNeg))) &&& 31) = 6 then
                      if inbB (v3 + 1) (X 21) = true then
                        if inbB (v3 + 2) (X 21) = true then
                          if inbB (v3 + 3) (X 21) = true then
                            (f_X9_bound (Int32.ofNat (X (100 + (v3 + 1).toNatClampNeg))) (Int32.ofNat (X (100 + (v3 + 2).toNatClampNeg))) (Int32.ofNat (X (100 + (v3 + 3).toNatClampNeg))) I).bind fun r366 =>
                            if inbB (v3 + 1) (X 21) = true then
                              if inbB (v3 + 2) (X 21) = true then
                                if inbB (v3 + 3) (X 21) = true then
                                  (f_X10_bound (Int32.ofNat (X (100 + (v3 + 1).toNatClampNeg))) (Int32.ofNat (X (100 + (v3 + 2).toNatClampNeg))) (Int32.ofNat (X (100 + (v3 + 3).toNatClampNeg))) I).bind fun r385 =>
                                  if r366 = r385 then
                                    f_L_law_18 X n (v3 + 6) I J
                                  else
                                    some (0, I, J)
                                else none
                              else none
                            else none
                          else none
                        else none
                      else none
                    else
                      if ((Int32.ofNat (X (100 + v3.toNatClampNeg))) &&& 31) = 7 then
                        if inbB (v3 + 1) (X 21) = true then
                          if inbB (v3 + 2) (X 21) = true then
                            (f_X9_lot (Int32.ofNat (X (100 + (v3 + 1).toNatClampNeg))) (Int32.ofNat (X (100 + (v3 + 2).toNatClampNeg))) I).bind fun r404 =>
                            if inbB (v3 + 1) (X 21) = true then
                              if inbB (v3 + 2) (X 21) = true then
                                (f_X10_lot (Int32.ofNat (X (100 + (v3 + 1).toNatClampNeg))) (Int32.ofNat (X (100 + (v3 + 2).toNatClampNeg))) I).bind fun r418 =>
                                if r404 = r418 then
                                  f_L_law_18 X n (v3 + 6) I J
                                else
                                  some (0, I, J)
                              else none
                            else none
                          else none
                        else none
                      else
                        if ((Int32.ofNat (X (100 + v3.toNatClampNeg))) &&& 31) = 8 then
                          if inbB (v3 + 1) (X 21) = true then
                            if inbB (v3 + 2) (X 21) = true then
                              (f_X9_hold (Int32.ofNat (X (100 + (v3 + 1).toNatClampNeg))) (Int32.ofNat (X (100 + (v3 + 2).toNatClampNeg))) I).bind fun r437 =>
                              if inbB (v3 + 1) (X 21) = true then
                                if inbB (v3 + 2) (X 21) = true then
                                  (f_X10_hold (Int32.ofNat (X (100 + (v3 + 1).toNatClampNeg))) (Int32.ofNat (X (100 + (v3 + 2).toNatClampNeg))) r437.2).bind fun r451 =>
                                  if r437.1 = r451.1 then
                                    f_L_law_18 X n (v3 + 6) r451.2 J
                                  else
                                    some (0, r451.2, J)
                                else none
                              else none
                            else none
                          else none
                        else
                          if ((Int32.ofNat (X (100 + v3.toNatClampNeg))) &&& 31) = 9 then
                            if inbB (v3 + 1) (X 21) = true then
                              if inbB (v3 + 2) (X 21) = true then
                                (f_X9_loose (Int32.ofNat (X (100 + (v3 + 1).toNatClampNeg))) (Int32.ofNat (X (100 + (v3 + 2).toNatClampNeg))) I).bind fun r470 =>
                                if inbB (v3 + 1) (X 21) = true then
                                  if inbB (v3 + 2) (X 21) = true then
                                    (f_X10_loose (Int32.ofNat (X (100 + (v3 + 1).toNatClampNeg))) (Int32.ofNat (X (100 + (v3 + 2).toNatClampNeg))) r470.2).bind fun r484 =>
                                    if r470.1 = r484.1 then
                                      f_L_law_18 X n (v3 + 6) r484.2 J
                                    else
                                      some (0, r484.2, J)
                                  else none
                                else none
                              else none
                            else none
                          else
                            if ((Int32.ofNat (X (100 + v3.toNatClampNeg))) &&& 31) = 10 then
                              if inbB (v3 + 1) (X 21) = true then
                                if inbB (v3 + 2) (X 21) = true then
                                  if inbB (v3 + 3) (X 21) = true then
                                    if inbB (v3 + 4) (X 21) = true then
                                      if inbB (v3 + 5) (X 21) = true then
                                        (f_X9_press (Int32.ofNat (X (100 + (v3 + 1).toNatClampNeg))) (Int32.ofNat (X (100 + (v3 + 2).toNatClampNeg))) (Int32.ofNat (X (100 + (v3 + 3).toNatClampNeg))) (Int32.ofNat (X (100 + (v3 + 4).toNatClampNeg))) (Int32.ofNat (X (100 + (v3 + 5).toNatClampNeg))) I).bind fun r518 =>
                                        if inbB (v3 + 1) (X 21) = true then
                                          if inbB (v3 + 2) (X 21) = true then
                                            if inbB (v3 + 3) (X 21) = true then
                                              if inbB (v3 + 4) (X 21) = true then
                                                if inbB (v3 + 5) (X 21) = true then
                                                  (f_X10_press (Int32.ofNat (X (100 + (v3 + 1).toNatClampNeg))) (Int32.ofNat (X (100 + (v3 + 2).toNatClampNeg))) (Int32.ofNat (X (100 + (v3 + 3).toNatClampNeg))) (Int32.ofNat (X (100 + (v3 + 4).toNatClampNeg))) (Int32.ofNat (X (100 + (v3 + 5).toNatClampNeg))) r518.2).bind fun r547 =>
                                                  if r518.1 = r547.1 then
                                                    f_L_law_18 X n (v3 + 6) r547.2 J
                                                  else
                                                    some (0, r547.2, J)
                                                else none
                                              else none
                                            else none
                                          else none
                                        else none
                                      else none
                                    else none
                                  else none
                                else none
                              else none
                            else
                              if ((Int32.ofNat (X (100 + v3.toNatClampNeg))) &&& 31) = 11 then
                                (f_X9_price I).bind fun r556 =>
                                (f_X10_price I).bind fun r560 =>
                                if r556 = r560 then
                                  f_L_law_18 X n (v3 + 6) I J
                                else
                                  some (0, I, J)
                              else
                                if ((Int32.ofNat (X (100 + v3.toNatClampNeg))) &&& 31) = 12 then
                                  if inbB (v3 + 1) (X 21) = true then
                                    (f_X9_twitches (Int32.ofNat (X (100 + (v3 + 1).toNatClampNeg)))).bind fun r574 =>
                                    if inbB (v3 + 1) (X 21) = true then
                                      (f_X10_twitches (Int32.ofNat (X (100 + (v3 + 1).toNatClampNeg)))).bind fun r583 =>
                                      if r574 = r583 then
                                        f_L_law_18 X n (v3 + 6) I J
                                      else
                                        some (0, I, J)
                                    else none
                                  else none
                                else
                                  if ((Int32.ofNat (X (100 + v3.toNatClampNeg))) &&& 31) = 13 then
                                    if inbB (v3 + 1) (X 21) = true then
                                      (f_X9_beat (Int32.ofNat (X (100 + (v3 + 1).toNatClampNeg))) I).bind fun r597 =>
                                      if inbB (v3 + 1) (X 21) = true then
                                        (f_X10_beat (Int32.ofNat (X (100 + (v3 + 1).toNatClampNeg))) r597.2).bind fun r606 =>
                                        if r597.1 = r606.1 then
                                          f_L_law_18 X n (v3 + 6) r606.2 J
                                        else
                                          some (0, r606.2, J)
                                      else none
                                    else none
                                  else
                                    if ((Int32.ofNat (X (100 + v3.toNatClampNeg))) &&& 31) = 14 then
                                      if inbB (v3 + 1) (X 21) = true then
                                        (f_X9_drift (Int32.ofNat (X (100 + (v3 + 1).toNatClampNeg))) I).bind fun r620 =>
                                        if inbB (v3 + 1) (X 21) = true then
                                          (f_X10_drift (Int32.ofNat (X (100 + (v3 + 1).toNatClampNeg))) r620.2).bind fun r629 =>
                                          if r620.1 = r629.1 then
                                            f_L_law_18 X n (v3 + 6) r629.2 J
                                          else
                                            some (0, r629.2, J)
                                        else none
                                      else none
                                    else
                                      if ((Int32.ofNat (X (100 + v3.toNatClampNeg))) &&& 31) = 15 then
                                        if inbB (v3 + 1) (X 21) = true then
                                          if inbB (v3 + 2) (X 21) = true then
                                            if inbB (v3 + 3) (X 21) = true then
                                              (f_X9_bargain (Int32.ofNat (X (100 + (v3 + 1).toNatClampNeg))) (Int32.ofNat (X (100 + (v3 + 2).toNatClampNeg))) (Int32.ofNat (X (100 + (v3 + 3).toNatClampNeg))) I).bind fun r653 =>
                                              if inbB (v3 + 1) (X 21) = true then
                                                if inbB (v3 + 2) (X 21) = true then
                                                  if inbB (v3 + 3) (X 21) = true then
                                                    (f_X10_bargain (Int32.ofNat (X (100 + (v3 + 1).toNatClampNeg))) (Int32.ofNat (X (100 + (v3 + 2).toNatClampNeg))) (Int32.ofNat (X (100 + (v3 + 3).toNatClampNeg))) I).bind fun r672 =>
                                                    if r653 = r672 then
                                                      f_L_law_18 X n (v3 + 6) I J
                                                    else
                                                      some (0, I, J)
                                                  else none
                                                else none
                                              else none
                                            else none
                                          else none
                                        else none
                                      else
                                        if ((Int32.ofNat (X (100 + v3.toNatClampNeg))) &&& 31) = 16 then
                                          if inbB (v3 + 1) (X 21) = true then
                                            (f_X9_best (Int32.ofNat (X (100 + (v3 + 1).toNatClampNeg))) I J).bind fun r686 =>
                                            if inbB (v3 + 1) (X 21) = true then
                                              (f_X10_best (Int32.ofNat (X (100 + (v3 + 1).toNatClampNeg))) r686.2.1).bind fun r695 =>
                                              if r686.1 = r695.1 then
                                                f_L_law_18 X n (v3 + 6) r695.2 r686.2.2
                                              else
                                                some (0, r695.2, r686.2.2)
                                            else none
                                          else none
                                        else
                                          if ((Int32.ofNat (X (100 + v3.toNatClampNeg))) &&& 31) = 17 then
                                            if inbB (v3 + 1) (X 21) = true then
                                              if inbB (v3 + 2) (X 21) = true then
                                                (f_X9_span (Int32.ofNat (X (100 + (v3 + 1).toNatClampNeg))) (Int32.ofNat (X (100 + (v3 + 2).toNatClampNeg))) I J).bind fun r714 =>
                                                if inbB (v3 + 1) (X 21) = true then
                                                  if inbB (v3 + 2) (X 21) = true then
                                                    (f_X10_span (Int32.ofNat (X (100 + (v3 + 1).toNatClampNeg))) (Int32.ofNat (X (100 + (v3 + 2).toNatClampNeg))) r714.2.1).bind fun r728 =>
                                                    if r714.1 = r728.1 then
                                                      f_L_law_18 X n (v3 + 6) r728.2 r714.2.2
                                                    else
                                                      some (0, r728.2, r714.2.2)
                                                  else none
                                                else none
                                              else none
                                            else none
                                          else
                                            if ((Int32.ofNat (X (100 + v3.toNatClampNeg))) &&& 31) = 18 then
                                              if inbB (v3 + 1) (X 21) = true then
                                                if inbB (v3 + 2) (X 21) = true then
                                                  if inbB (v3 + 3) (X 21) = true then
                                                    if inbB (v3 + 4) (X 21) = true then
                                                      (f_X9_lie (Int32.ofNat (X (100 + (v3 + 1).toNatClampNeg))) (Int32.ofNat (X (100 + (v3 + 2).toNatClampNeg))) (Int32.ofNat (X (100 + (v3 + 3).toNatClampNeg))) (Int32.ofNat (X (100 + (v3 + 4).toNatClampNeg))) I J).bind fun r757 =>
                                                      if inbB (v3 + 1) (X 21) = true then
                                                        if inbB (v3 + 2) (X 21) = true then
                                                          if inbB (v3 + 3) (X 21) = true then
                                                            if inbB (v3 + 4) (X 21) = true then
                                                              (f_X10_lie (Int32.ofNat (X (100 + (v3 + 1).toNatClampNeg))) (Int32.ofNat (X (100 + (v3 + 2).toNatClampNeg))) (Int32.ofNat (X (100 + (v3 + 3).toNatClampNeg))) (Int32.ofNat (X (100 + (v3 + 4).toNatClampNeg))) r757.2.1).bind fun r781 =>
                                                              if r757.1 = r781.1 then
                                                                f_L_law_18 X n (v3 + 6) r781.2 r757.2.2
                                                              else
                                                                some (0, r781.2, r757.2.2)
                                                            else none
                                                          else none
                                                        else none
                                                      else none
                                                    else none
                                                  else none
                                                else none
                                              else none
                                            else
                                              if ((Int32.ofNat (X (100 + v3.toNatClampNeg))) &&& 31) = 19 then
                                                if inbB (v3 + 1) (X 21) = true then
                                                  if inbB (v3 + 2) (X 21) = true then
                                                    if inbB (v3 + 3) (X 21) = true then
                                                      if inbB (v3 + 4) (X 21) = true then
                                                        (f_X9_bestLie (Int32.ofNat (X (100 + (v3 + 1).toNatClampNeg))) (Int32.ofNat (X (100 + (v3 + 2).toNatClampNeg))) (Int32.ofNat (X (100 + (v3 + 3).toNatClampNeg))) (Int32.ofNat (X (100 + (v3 + 4).toNatClampNeg))) I J).bind fun r810 =>
                                                        if inbB (v3 + 1) (X 21) = true then
                                                          if inbB (v3 + 2) (X 21) = true then
                                                            if inbB (v3 + 3) (X 21) = true then
                                                              if inbB (v3 + 4) (X 21) = true then
                                                                (f_X10_bestLie (Int32.ofNat (X (100 + (v3 + 1).toNatClampNeg))) (Int32.ofNat (X (100 + (v3 + 2).toNatClampNeg))) (Int32.ofNat (X (100 + (v3 + 3).toNatClampNeg))) (Int32.ofNat (X (100 + (v3 + 4).toNatClampNeg))) r810.2.1).bind fun r834 =>
                                                                if r810.1 = r834.1 then
                                                                  f_L_law_18 X n (v3 + 6) r834.2 r810.2.2
                                                                else
                                                                  some (0, r834.2, r810.2.2)
                                                              else none
                                                            else none
                                                          else none
                                                        else none
                                                      else none
                                                    else none
                                                  else none
                                                else none
                                              else
                                                if ((Int32.ofNat (X (100 + v3.toNatClampNeg))) &&& 31) = 20 then
                                                  if inbB (v3 + 1) (X 21) = true then
                                                    if inbB (v3 + 2) (X 21) = true then
                                                      if inbB (v3 + 3) (X 21) = true then
                                                        if inbB (v3 + 4) (X 21) = true then
                                                          if (Int32.ofNat (X (100 + (v3 + 4).toNatClampNeg))) = 0 then
                                                            (f_X9_seen (Int32.ofNat (X (100 + (v3 + 1).toNatClampNeg))) (Int32.ofNat (X (100 + (v3 + 2).toNatClampNeg))) (Int32.ofNat (X (100 + (v3 + 3).toNatClampNeg))) 0 I).bind fun r871 =>
                                                            if inbB (v3 + 1) (X 21) = true then
                                                              if inbB (v3 + 2) (X 21) = true then
                                                                if inbB (v3 + 3) (X 21) = true then
                                                                  if inbB (v3 + 4) (X 21) = true then
                                                                    if (Int32.ofNat (X (100 + (v3 + 4).toNatClampNeg))) = 0 then
                                                                      (f_X10_seen (Int32.ofNat (X (100 + (v3 + 1).toNatClampNeg))) (Int32.ofNat (X (100 + (v3 + 2).toNatClampNeg))) (Int32.ofNat (X (100 + (v3 + 3).toNatClampNeg))) 0 r871.2).bind fun r903 =>
                                                                      if r871.1 = r903.1 then
                                                                        f_L_law_18 X n (v3 + 6) r903.2 J
                                                                      else
                                                                        some (0, r903.2, J)
                                                                    else
                                                                      (f_X10_seen (Int32.ofNat (X (100 + (v3 + 1).toNatClampNeg))) (Int32.ofNat (X (100 + (v3 + 2).toNatClampNeg))) (Int32.ofNat (X (100 + (v3 + 3).toNatClampNeg))) 1 r871.2).bind fun r903 =>
                                                                      if r871.1 = r903.1 then
                                                                        f_L_law_18 X n (v3 + 6) r903.2 J
                                                                      else
                                                                        some (0, r903.2, J)
                                                                  else none
                                                                else none
                                                              else none
                                                            else none
                                                          else
                                                            (f_X9_seen (Int32.ofNat (X (100 + (v3 + 1).toNatClampNeg))) (Int32.ofNat (X (100 + (v3 + 2).toNatClampNeg))) (Int32.ofNat (X (100 + (v3 + 3).toNatClampNeg))) 1 I).bind fun r871 =>
                                                            if inbB (v3 + 1) (X 21) = true then
                                                              if inbB (v3 + 2) (X 21) = true then
                                                                if inbB (v3 + 3) (X 21) = true then
                                                                  if inbB (v3 + 4) (X 21) = true then
                                                                    if (Int32.ofNat (X (100 + (v3 + 4).toNatClampNeg))) = 0 then
                                                                      (f_X10_seen (Int32.ofNat (X (100 + (v3 + 1).toNatClampNeg))) (Int32.ofNat (X (100 + (v3 + 2).toNatClampNeg))) (Int32.ofNat (X (100 + (v3 + 3).toNatClampNeg))) 0 r871.2).bind fun r903 =>
                                                                      if r871.1 = r903.1 then
                                                                        f_L_law_18 X n (v3 + 6) r903.2 J
                                                                      else
                                                                        some (0, r903.2, J)
                                                                    else
                                                                      (f_X10_seen (Int32.ofNat (X (100 + (v3 + 1).toNatClampNeg))) (Int32.ofNat (X (100 + (v3 + 2).toNatClampNeg))) (Int32.ofNat (X (100 + (v3 + 3).toNatClampNeg))) 1 r871.2).bind fun r903 =>
                                                                      if r871.1 = r903.1 then
                                                                        f_L_law_18 X n (v3 + 6) r903.2 J
                                                                      else
                                                                        some (0, r903.2, J)
                                                                  else none
                                                                else none
                                                              else none
                                                            else none
                                                        else none
                                                      else none
                                                    else none
                                                  else none
                                                else
                                                  if ((Int32.ofNat (X (100 + v3.toNatClampNeg))) &&& 31) = 21 then
                                                    (f_X9_forget I).bind fun r912 =>
                                                    (f_X10_forget r912.2).bind fun r916 =>
                                                    if r912.1 = r916.1 then
                                                      f_L_law_18 X n (v3 + 6) r916.2 J
                                                    else
                                                      some (0, r916.2, J)
                                                  else
                                                    if ((Int32.ofNat (X (100 + v3.toNatClampNeg))) &&& 31) = 22 then
                                                      if inbB (v3 + 1) (X 21) = true then
                                                        if inbB (v3 + 2) (X 21) = true then
                                                          (f_X9_fits (Int32.ofNat (X (100 + (v3 + 1).toNatClampNeg))) (Int32.ofNat (X (100 + (v3 + 2).toNatClampNeg))) I).bind fun r935 =>
                                                          if inbB (v3 + 1) (X 21) = true then
                                                            if inbB (v3 + 2) (X 21) = true then
                                                              (f_X10_fits (Int32.ofNat (X (100 + (v3 + 1).toNatClampNeg))) (Int32.ofNat (X (100 + (v3 + 2).toNatClampNeg))) I).bind fun r949 =>
                                                              if r935 = r949 then
                                                                f_L_law_18 X n (v3 + 6) I J
                                                              else
                                                                some (0, I, J)
                                                            else none
                                                          else none
                                                        else none
                                                      else none
                                                    else
                                                      if ((Int32.ofNat (X (100 + v3.toNatClampNeg))) &&& 31) = 23 then
                                                        if inbB (v3 + 1) (X 21) = true then
                                                          if inbB (v3 + 2) (X 21) = true then
                                                            (f_X9_wentFor (Int32.ofNat (X (100 + (v3 + 1).toNatClampNeg))) (Int32.ofNat (X (100 + (v3 + 2).toNatClampNeg))) I J).bind fun r968 =>
                                                            if inbB (v3 + 1) (X 21) = true then
                                                              if inbB (v3 + 2) (X 21) = true then
                                                                (f_X10_wentFor (Int32.ofNat (X (100 + (v3 + 1).toNatClampNeg))) (Int32.ofNat (X (100 + (v3 + 2).toNatClampNeg))) r968.2.1 r968.2.2).bind fun r982 =>
                                                                if r968.1 = r982.1 then
                                                                  f_L_law_18 X n (v3 + 6) r968.2.1 r982.2
                                                                else
                                                                  some (0, r968.2.1, r982.2)
                                                              else none
                                                            else none
                                                          else none
                                                        else none
                                                      else
                                                        if ((Int32.ofNat (X (100 + v3.toNatClampNeg))) &&& 31) = 24 then
                                                          if inbB (v3 + 1) (X 21) = true then
                                                            (f_X9_meetings (Int32.ofNat (X (100 + (v3 + 1).toNatClampNeg))) I).bind fun r996 =>
                                                            if inbB (v3 + 1) (X 21) = true then
                                                              (f_X10_meetings (Int32.ofNat (X (100 + (v3 + 1).toNatClampNeg))) r996.2).bind fun r1005 =>
                                                              if r996.1 = r1005.1 then
                                                                f_L_law_18 X n (v3 + 6) r1005.2 J
                                                              else
                                                                some (0, r1005.2, J)
                                                            else none
                                                          else none
                                                        else
                                                          if ((Int32.ofNat (X (100 + v3.toNatClampNeg))) &&& 31) = 25 then
                                                            if inbB (v3 + 1) (X 21) = true then
                                                              if inbB (v3 + 2) (X 21) = true then
                                                                if inbB (v3 + 3) (X 21) = true then
                                                                  if inbB (v3 + 4) (X 21) = true then
                                                                    (f_X9_write (Int32.ofNat (X (100 + (v3 + 1).toNatClampNeg))) (Int32.ofNat (X (100 + (v3 + 2).toNatClampNeg))) (Int32.ofNat (X (100 + (v3 + 3).toNatClampNeg))) (Int32.ofNat (X (100 + (v3 + 4).toNatClampNeg))) I).bind fun r1034 =>
                                                                    if inbB (v3 + 1) (X 21) = true then
                                                                      if inbB (v3 + 2) (X 21) = true then
                                                                        if inbB (v3 + 3) (X 21) = true then
                                                                          if inbB (v3 + 4) (X 21) = true then
                                                                            (f_X10_write (Int32.ofNat (X (100 + (v3 + 1).toNatClampNeg))) (Int32.ofNat (X (100 + (v3 + 2).toNatClampNeg))) (Int32.ofNat (X (100 + (v3 + 3).toNatClampNeg))) (Int32.ofNat (X (100 + (v3 + 4).toNatClampNeg))) r1034.2).bind fun r1058 =>
                                                                            if r1034.1 = r1058.1 then
                                                                              f_L_law_18 X n (v3 + 6) r1058.2 J
                                                                            else
                                                                              some (0, r1058.2, J)
                                                                          else none
                                                                        else none
                                                                      else none
                                                                    else none
                                                                  else none
                                                                else none
                                                              else none
                                                            else none
                                                          else
                                                            if ((Int32.ofNat (X (100 + v3.toNatClampNeg))) &&& 31) = 26 then
                                                              (f_X9_tear I).bind fun r1067 =>
                                                              (f_X10_tear r1067.2).bind fun r1071 =>
                                                              if r1067.1 = r1071.1 then
                                                                f_L_law_18 X n (v3 + 6) r1071.2 J
                                                              else
                                                                some (0, r1071.2, J)
                                                            else
                                                              if ((Int32.ofNat (X (100 + v3.toNatClampNeg))) &&& 31) = 27 then
                                                                (f_X9_judge I).bind fun r1080 =>
                                                                (f_X10_judge I).bind fun r1084 =>
                                                                if r1080 = r1084 then
                                                                  f_L_law_18 X n (v3 + 6) I J
                                                                else
                                                                  some (0, I, J)
                                                              else
                                                                if ((Int32.ofNat (X (100 + v3.toNatClampNeg))) &&& 31) = 28 then
                                                                  if inbB (v3 + 1) (X 21) = true then
                                                                    (f_X9_seed (Int32.ofNat (X (100 + (v3 + 1).toNatClampNeg))) I).bind fun r1098 =>
                                                                    if inbB (v3 + 1) (X 21) = true then
                                                                      (f_X10_seed (Int32.ofNat (X (100 + (v3 + 1).toNatClampNeg))) r1098.2).bind fun r1107 =>
                                                                      if r1098.1 = r1107.1 then
                                                                        f_L_law_18 X n (v3 + 6) r1107.2 J
                                                                      else
                                                                        some (0, r1107.2, J)
                                                                    else none
                                                                  else none
                                                                else
                                                                  if ((Int32.ofNat (X (100 + v3.toNatClampNeg))) &&& 31) = 29 then
                                                                    if inbB (v3 + 1) (X 21) = true then
                                                                      (f_X9_keep (Int32.ofNat (X (100 + (v3 + 1).toNatClampNeg))) I).bind fun r1121 =>
                                                                      if inbB (v3 + 1) (X 21) = true then
                                                                        (f_X10_keep (Int32.ofNat (X (100 + (v3 + 1).toNatClampNeg))) r1121.2).bind fun r1130 =>
                                                                        if r1121.1 = r1130.1 then
                                                                          f_L_law_18 X n (v3 + 6) r1130.2 J
                                                                        else
                                                                          some (0, r1130.2, J)
                                                                      else none
                                                                    else none
                                                                  else
                                                                    if ((Int32.ofNat (X (100 + v3.toNatClampNeg))) &&& 31) = 30 then
                                                                      if inbB (v3 + 1) (X 21) = true then
                                                                        (f_X9_goBack (Int32.ofNat (X (100 + (v3 + 1).toNatClampNeg))) I).bind fun r1144 =>
                                                                        if inbB (v3 + 1) (X 21) = true then
                                                                          (f_X10_goBack (Int32.ofNat (X (100 + (v3 + 1).toNatClampNeg))) r1144.2).bind fun r1153 =>
                                                                          if r1144.1 = r1153.1 then
                                                                            f_L_law_18 X n (v3 + 6) r1153.2 J
                                                                          else
                                                                            some (0, r1153.2, J)
                                                                        else none
                                                                      else none
                                                                    else
                                                                      f_L_law_18 X n (v3 + 6) I J
      else none
set_option maxRecDepth 100000 in
set_option maxHeartbeats 16000000 in
theorem w_L_law_18 (Γ : GT) (ad : Nat → Nat) : ∀ (n : Nat) (v3 : Int32) (I : IT) (J : JT) (r : Int32 × IT × JT), f_L_law_18 Γ.2.2.2.2 n v3 I J = some r → WP Γ mL_law (0, 0) 18 [(0, .ref (Γ.2.2.2.2 20)), (1, .ref (ad 0)), (2, .ref (ad 55)), (3, .int v3)] [] (DX ad) I J (QE (some (.int r.1)) (DX ad) r.2.1 r.2.2) := by
  intro n
  induction n with
  | zero => intro v3 I J r h; exact absurd h (by simp [f_L_law_18])
  | succ n ih =>
    intro v3 I J r h
    rw [f_L_law_18] at h
    refine wp_iload_n dL_law_18 3 rfl ?_
    refine wp_aload_n dL_law_19 0 rfl ?_
    refine wp_scrl dL_law_20 ?_
    refine wp_bipush (v := 6) dL_law_21 (by decide) ?_
    refine wp_isub dL_law_23 ?_
    refine wp_icmp_gt 1167 dL_law_24 rfl (fun c24 => ?_) (fun c24 => ?_)
    · replace h := o_pos h c24
      refine wp_iconst (v := 1) dL_law_1167 (by decide) ?_
      obtain rfl := Option.some.inj h
      exact wp_ireturn (ty := .boolean) dL_law_1168 rfl rfl ⟨rfl, rfl, rfl, rfl⟩
    · replace h := o_neg h c24
      refine wp_aload_n dL_law_27 0 rfl ?_
      refine wp_iload_n dL_law_28 3 rfl ?_
      obtain ⟨g29, h⟩ := o_grd h
      refine wp_scri dL_law_29 (inb_of g29) ?_
      refine wp_bipush (v := 31) dL_law_30 (by decide) ?_
      refine wp_iand dL_law_32 ?_
      by_cases e33_0 : ((Int32.ofNat (Γ.2.2.2.2 (100 + v3.toNatClampNeg))) &&& 31) = 0
      · replace h := o_pos h e33_0
        refine wp_tableIn (off := 139) 172 dL_law_33 (by rw [e33_0]; decide) (by rw [e33_0]; decide) (by rw [e33_0]; rfl) rfl ?_
        refine wp_aload_n dL_law_172 1 rfl ?_
        refine wp_aload_n dL_law_173 0 rfl ?_
        refine wp_iload_n dL_law_174 3 rfl ?_
        refine wp_iconst (v := 1) dL_law_175 (by decide) ?_
        refine wp_iadd dL_law_176 ?_
        obtain ⟨g177, h⟩ := o_grd h
        refine wp_scri dL_law_177 (inb_of g177) ?_
        refine wp_aload_n dL_law_178 0 rfl ?_
        refine wp_iload_n dL_law_179 3 rfl ?_
        refine wp_iconst (v := 2) dL_law_180 (by decide) ?_
        refine wp_iadd dL_law_181 ?_
        obtain ⟨g182, h⟩ := o_grd h
        refine wp_scri dL_law_182 (inb_of g182) ?_
        refine wp_i2l dL_law_183 ?_
        refine wp_bipush (v := 32) dL_law_184 (by decide) ?_
        refine wp_lshl dL_law_186 ?_
        refine wp_aload_n dL_law_187 0 rfl ?_
        refine wp_iload_n dL_law_188 3 rfl ?_
        refine wp_iconst (v := 3) dL_law_189 (by decide) ?_
        refine wp_iadd dL_law_190 ?_
        obtain ⟨g191, h⟩ := o_grd h
        refine wp_scri dL_law_191 (inb_of g191) ?_
        refine wp_i2l dL_law_192 ?_
        refine wp_ldc2 (v := 4294967295) dL_law_193 klL_13 ?_
        refine wp_land dL_law_196 ?_
        refine wp_lor dL_law_197 ?_
        obtain ⟨r198, h198, h⟩ := o_bind h
        refine wp_callvI (k := 0) (ci := 9) (c_X9_feed Γ ad (Int32.ofNat (Γ.2.2.2.2 (100 + (v3 + 1).toNatClampNeg))) ((((Int32.ofNat (Γ.2.2.2.2 (100 + (v3 + 2).toNatClampNeg))).toInt64) <<< ((32 : Int32).toInt64 &&& 63)) ||| (((Int32.ofNat (Γ.2.2.2.2 (100 + (v3 + 3).toNatClampNeg))).toInt64) &&& 4294967295)) I J r198 h198) dL_law_198 mlL_15 mwX9_feed miX9_feed rfl rfl rfl rfl (Nat.le_of_ble_eq_true rfl) rfl (by decide) (by decide) ?_
        refine wp_aload_n dL_law_201 2 rfl ?_
        refine wp_aload_n dL_law_202 0 rfl ?_
        refine wp_iload_n dL_law_203 3 rfl ?_
        refine wp_iconst (v := 1) dL_law_204 (by decide) ?_
        refine wp_iadd dL_law_205 ?_
        obtain ⟨g206, h⟩ := o_grd h
        refine wp_scri dL_law_206 (inb_of g206) ?_
        refine wp_aload_n dL_law_207 0 rfl ?_
        refine wp_iload_n dL_law_208 3 rfl ?_
        refine wp_iconst (v := 2) dL_law_209 (by decide) ?_
        refine wp_iadd dL_law_210 ?_
        obtain ⟨g211, h⟩ := o_grd h
        refine wp_scri dL_law_211 (inb_of g211) ?_
        refine wp_i2l dL_law_212 ?_
        refine wp_bipush (v := 32) dL_law_213 (by decide) ?_
        refine wp_lshl dL_law_215 ?_
        refine wp_aload_n dL_law_216 0 rfl ?_
        refine wp_iload_n dL_law_217 3 rfl ?_
        refine wp_iconst (v := 3) dL_law_218 (by decide) ?_
        refine wp_iadd dL_law_219 ?_
        obtain ⟨g220, h⟩ := o_grd h
        refine wp_scri dL_law_220 (inb_of g220) ?_
        refine wp_i2l dL_law_221 ?_
        refine wp_ldc2 (v := 4294967295) dL_law_222 klL_13 ?_
        refine wp_land dL_law_225 ?_
        refine wp_lor dL_law_226 ?_
        obtain ⟨r227, h227, h⟩ := o_bind h
        refine wp_callvI (k := 55) (ci := 10) (c_X10_feed Γ ad (Int32.ofNat (Γ.2.2.2.2 (100 + (v3 + 1).toNatClampNeg))) ((((Int32.ofNat (Γ.2.2.2.2 (100 + (v3 + 2).toNatClampNeg))).toInt64) <<< ((32 : Int32).toInt64 &&& 63)) ||| (((Int32.ofNat (Γ.2.2.2.2 (100 + (v3 + 3).toNatClampNeg))).toInt64) &&& 4294967295)) r198.2 J r227 h227) dL_law_227 mlL_19 mwX10_feed miX10_feed rfl rfl rfl rfl (Nat.le_of_ble_eq_true rfl) rfl (by decide) (by decide) ?_
        refine wp_icmp_eq 1161 dL_law_230 rfl (fun c230 => ?_) (fun c230 => ?_)
        · replace h := o_pos h c230
          refine wp_iinc (v := v3 + 6) (lv' := [(0, _), (1, _), (2, _), (3, _)]) dL_law_1161 3 rfl rfl rfl rfl rfl ?_
          refine wp_goto 18 dL_law_1164 rfl ?_
          refine wp_pick [0, 1, 2, 3] (lv' := [(0, _), (1, _), (2, _), (3, _)]) rfl ?_
          exact ih (v3 + 6) r227.2 J r h
        · replace h := o_neg h c230
          refine wp_iconst (v := 0) dL_law_233 (by decide) ?_
          obtain rfl := Option.some.inj h
          exact wp_ireturn (ty := .boolean) dL_law_234 rfl rfl ⟨rfl, rfl, rfl, rfl⟩
      · replace h := o_neg h e33_0
        by_cases e33_1 : ((Int32.ofNat (Γ.2.2.2.2 (100 + v3.toNatClampNeg))) &&& 31) = 1
        · replace h := o_pos h e33_1
          refine wp_tableIn (off := 202) 235 dL_law_33 (by rw [e33_1]; decide) (by rw [e33_1]; decide) (by rw [e33_1]; rfl) rfl ?_
          refine wp_aload_n dL_law_235 1 rfl ?_
          obtain ⟨r236, h236, h⟩ := o_bind h
          refine wp_callvI (k := 0) (ci := 9) (c_X9_market Γ ad I J r236 h236) dL_law_236 mlL_20 mwX9_market miX9_market rfl rfl rfl rfl (Nat.le_of_ble_eq_true rfl) rfl (by decide) (by decide) ?_
          refine wp_aload_n dL_law_239 2 rfl ?_
          obtain ⟨r240, h240, h⟩ := o_bind h
          refine wp_callvI (k := 55) (ci := 10) (c_X10_market Γ ad r236.2 J r240 h240) dL_law_240 mlL_24 mwX10_market miX10_market rfl rfl rfl rfl (Nat.le_of_ble_eq_true rfl) rfl (by decide) (by decide) ?_
          refine wp_icmp_eq 1161 dL_law_243 rfl (fun c243 => ?_) (fun c243 => ?_)
          · replace h := o_pos h c243
            refine wp_iinc (v := v3 + 6) (lv' := [(0, _), (1, _), (2, _), (3, _)]) dL_law_1161 3 rfl rfl rfl rfl rfl ?_
            refine wp_goto 18 dL_law_1164 rfl ?_
            refine wp_pick [0, 1, 2, 3] (lv' := [(0, _), (1, _), (2, _), (3, _)]) rfl ?_
            exact ih (v3 + 6) r240.2.1 r240.2.2 r h
          · replace h := o_neg h c243
            refine wp_iconst (v := 0) dL_law_246 (by decide) ?_
            obtain rfl := Option.some.inj h
            exact wp_ireturn (ty := .boolean) dL_law_247 rfl rfl ⟨rfl, rfl, rfl, rfl⟩
        · replace h := o_neg h e33_1
          by_cases e33_2 : ((Int32.ofNat (Γ.2.2.2.2 (100 + v3.toNatClampNeg))) &&& 31) = 2
          · replace h := o_pos h e33_2
            refine wp_tableIn (off := 215) 248 dL_law_33 (by rw [e33_2]; decide) (by rw [e33_2]; decide) (by rw [e33_2]; rfl) rfl ?_
            refine wp_aload_n dL_law_248 1 rfl ?_
            obtain ⟨r249, h249, h⟩ := o_bind h
            refine wp_callvI (k := 0) (ci := 9) (c_X9_fault Γ ad I J r249 h249) dL_law_249 mlL_25 mwX9_fault miX9_fault rfl rfl rfl rfl (Nat.le_of_ble_eq_true rfl) rfl (by decide) (by decide) ?_
            refine wp_aload_n dL_law_252 2 rfl ?_
            obtain ⟨r253, h253, h⟩ := o_bind h
            refine wp_callvI (k := 55) (ci := 10) (c_X10_fault Γ ad I J r253 h253) dL_law_253 mlL_28 mwX10_fault miX10_fault rfl rfl rfl rfl (Nat.le_of_ble_eq_true rfl) rfl (by decide) (by decide) ?_
            refine wp_icmp_eq 1161 dL_law_256 rfl (fun c256 => ?_) (fun c256 => ?_)
            · replace h := o_pos h c256
              refine wp_iinc (v := v3 + 6) (lv' := [(0, _), (1, _), (2, _), (3, _)]) dL_law_1161 3 rfl rfl rfl rfl rfl ?_
              refine wp_goto 18 dL_law_1164 rfl ?_
              refine wp_pick [0, 1, 2, 3] (lv' := [(0, _), (1, _), (2, _), (3, _)]) rfl ?_
              exact ih (v3 + 6) I J r h
            · replace h := o_neg h c256
              refine wp_iconst (v := 0) dL_law_259 (by decide) ?_
              obtain rfl := Option.some.inj h
              exact wp_ireturn (ty := .boolean) dL_law_260 rfl rfl ⟨rfl, rfl, rfl, rfl⟩
          · replace h := o_neg h e33_2
            by_cases e33_3 : ((Int32.ofNat (Γ.2.2.2.2 (100 + v3.toNatClampNeg))) &&& 31) = 3
            · replace h := o_pos h e33_3
              refine wp_tableIn (off := 228) 261 dL_law_33 (by rw [e33_3]; decide) (by rw [e33_3]; decide) (by rw [e33_3]; rfl) rfl ?_
              refine wp_aload_n dL_law_261 1 rfl ?_
              refine wp_aload_n dL_law_262 0 rfl ?_
              refine wp_iload_n dL_law_263 3 rfl ?_
              refine wp_iconst (v := 1) dL_law_264 (by decide) ?_
              refine wp_iadd dL_law_265 ?_
              obtain ⟨g266, h⟩ := o_grd h
              refine wp_scri dL_law_266 (inb_of g266) ?_
              obtain ⟨r267, h267, h⟩ := o_bind h
              refine wp_callvI (k := 0) (ci := 9) (c_X9_told Γ ad (Int32.ofNat (Γ.2.2.2.2 (100 + (v3 + 1).toNatClampNeg))) I J r267 h267) dL_law_267 mlL_29 mwX9_told miX9_told rfl rfl rfl rfl (Nat.le_of_ble_eq_true rfl) rfl (by decide) (by decide) ?_
              refine wp_aload_n dL_law_270 2 rfl ?_
              refine wp_aload_n dL_law_271 0 rfl ?_
              refine wp_iload_n dL_law_272 3 rfl ?_
              refine wp_iconst (v := 1) dL_law_273 (by decide) ?_
              refine wp_iadd dL_law_274 ?_
              obtain ⟨g275, h⟩ := o_grd h
              refine wp_scri dL_law_275 (inb_of g275) ?_
              obtain ⟨r276, h276, h⟩ := o_bind h
              refine wp_callvI (k := 55) (ci := 10) (c_X10_told Γ ad (Int32.ofNat (Γ.2.2.2.2 (100 + (v3 + 1).toNatClampNeg))) I J r276 h276) dL_law_276 mlL_33 mwX10_told miX10_told rfl rfl rfl rfl (Nat.le_of_ble_eq_true rfl) rfl (by decide) (by decide) ?_
              refine wp_icmp_eq 1161 dL_law_279 rfl (fun c279 => ?_) (fun c279 => ?_)
              · replace h := o_pos h c279
                refine wp_iinc (v := v3 + 6) (lv' := [(0, _), (1, _), (2, _), (3, _)]) dL_law_1161 3 rfl rfl rfl rfl rfl ?_
                refine wp_goto 18 dL_law_1164 rfl ?_
                refine wp_pick [0, 1, 2, 3] (lv' := [(0, _), (1, _), (2, _), (3, _)]) rfl ?_
                exact ih (v3 + 6) I J r h
              · replace h := o_neg h c279
                refine wp_iconst (v := 0) dL_law_282 (by decide) ?_
                obtain rfl := Option.some.inj h
                exact wp_ireturn (ty := .boolean) dL_law_283 rfl rfl ⟨rfl, rfl, rfl, rfl⟩
            · replace h := o_neg h e33_3
              by_cases e33_4 : ((Int32.ofNat (Γ.2.2.2.2 (100 + v3.toNatClampNeg))) &&& 31) = 4
              · replace h := o_pos h e33_4
                refine wp_tableIn (off := 251) 284 dL_law_33 (by rw [e33_4]; decide) (by rw [e33_4]; decide) (by rw [e33_4]; rfl) rfl ?_
                refine wp_aload_n dL_law_284 1 rfl ?_
                refine wp_aload_n dL_law_285 0 rfl ?_
                refine wp_iload_n dL_law_286 3 rfl ?_
                refine wp_iconst (v := 1) dL_law_287 (by decide) ?_
                refine wp_iadd dL_law_288 ?_
                obtain ⟨g289, h⟩ := o_grd h
                refine wp_scri dL_law_289 (inb_of g289) ?_
                refine wp_aload_n dL_law_290 0 rfl ?_
                refine wp_iload_n dL_law_291 3 rfl ?_
                refine wp_iconst (v := 2) dL_law_292 (by decide) ?_
                refine wp_iadd dL_law_293 ?_
                obtain ⟨g294, h⟩ := o_grd h
                refine wp_scri dL_law_294 (inb_of g294) ?_
                obtain ⟨r295, h295, h⟩ := o_bind h
                refine wp_callvI (k := 0) (ci := 9) (c_X9_person Γ ad (Int32.ofNat (Γ.2.2.2.2 (100 + (v3 + 1).toNatClampNeg))) (Int32.ofNat (Γ.2.2.2.2 (100 + (v3 + 2).toNatClampNeg))) I J r295 h295) dL_law_295 mlL_34 mwX9_person miX9_person rfl rfl rfl rfl (Nat.le_of_ble_eq_true rfl) rfl (by decide) (by decide) ?_
                refine wp_aload_n dL_law_298 2 rfl ?_
                refine wp_aload_n dL_law_299 0 rfl ?_
                refine wp_iload_n dL_law_300 3 rfl ?_
                refine wp_iconst (v := 1) dL_law_301 (by decide) ?_
                refine wp_iadd dL_law_302 ?_
                obtain ⟨g303, h⟩ := o_grd h
                refine wp_scri dL_law_303 (inb_of g303) ?_
                refine wp_aload_n dL_law_304 0 rfl ?_
                refine wp_iload_n dL_law_305 3 rfl ?_
                refine wp_iconst (v := 2) dL_law_306 (by decide) ?_
                refine wp_iadd dL_law_307 ?_
                obtain ⟨g308, h⟩ := o_grd h
                refine wp_scri dL_law_308 (inb_of g308) ?_
                obtain ⟨r309, h309, h⟩ := o_bind h
                refine wp_callvI (k := 55) (ci := 10) (c_X10_person Γ ad (Int32.ofNat (Γ.2.2.2.2 (100 + (v3 + 1).toNatClampNeg))) (Int32.ofNat (Γ.2.2.2.2 (100 + (v3 + 2).toNatClampNeg))) I J r309 h309) dL_law_309 mlL_38 mwX10_person miX10_person rfl rfl rfl rfl (Nat.le_of_ble_eq_true rfl) rfl (by decide) (by decide) ?_
                refine wp_icmp_eq 1161 dL_law_312 rfl (fun c312 => ?_) (fun c312 => ?_)
                · replace h := o_pos h c312
                  refine wp_iinc (v := v3 + 6) (lv' := [(0, _), (1, _), (2, _), (3, _)]) dL_law_1161 3 rfl rfl rfl rfl rfl ?_
                  refine wp_goto 18 dL_law_1164 rfl ?_
                  refine wp_pick [0, 1, 2, 3] (lv' := [(0, _), (1, _), (2, _), (3, _)]) rfl ?_
                  exact ih (v3 + 6) I J r h
                · replace h := o_neg h c312
                  refine wp_iconst (v := 0) dL_law_315 (by decide) ?_
                  obtain rfl := Option.some.inj h
                  exact wp_ireturn (ty := .boolean) dL_law_316 rfl rfl ⟨rfl, rfl, rfl, rfl⟩
              · replace h := o_neg h e33_4
                by_cases e33_5 : ((Int32.ofNat (Γ.2.2.2.2 (100 + v3.toNatClampNeg))) &&& 31) = 5
                · replace h := o_pos h e33_5
                  refine wp_tableIn (off := 284) 317 dL_law_33 (by rw [e33_5]; decide) (by rw [e33_5]; decide) (by rw [e33_5]; rfl) rfl ?_
                  refine wp_aload_n dL_law_317 1 rfl ?_
                  refine wp_aload_n dL_law_318 0 rfl ?_
                  refine wp_iload_n dL_law_319 3 rfl ?_
                  refine wp_iconst (v := 1) dL_law_320 (by decide) ?_
                  refine wp_iadd dL_law_321 ?_
                  obtain ⟨g322, h⟩ := o_grd h
                  refine wp_scri dL_law_322 (inb_of g322) ?_
                  refine wp_aload_n dL_law_323 0 rfl ?_
                  refine wp_iload_n dL_law_324 3 rfl ?_
                  refine wp_iconst (v := 2) dL_law_325 (by decide) ?_
                  refine wp_iadd dL_law_326 ?_
                  obtain ⟨g327, h⟩ := o_grd h
                  refine wp_scri dL_law_327 (inb_of g327) ?_
                  obtain ⟨r328, h328, h⟩ := o_bind h
                  refine wp_callvI (k := 0) (ci := 9) (c_X9_worth Γ ad (Int32.ofNat (Γ.2.2.2.2 (100 + (v3 + 1).toNatClampNeg))) (Int32.ofNat (Γ.2.2.2.2 (100 + (v3 + 2).toNatClampNeg))) I J r328 h328) dL_law_328 mlL_39 mwX9_worth miX9_worth rfl rfl rfl rfl (Nat.le_of_ble_eq_true rfl) rfl (by decide) (by decide) ?_
                  refine wp_aload_n dL_law_331 2 rfl ?_
                  refine wp_aload_n dL_law_332 0 rfl ?_
                  refine wp_iload_n dL_law_333 3 rfl ?_
                  refine wp_iconst (v := 1) dL_law_334 (by decide) ?_
                  refine wp_iadd dL_law_335 ?_
                  obtain ⟨g336, h⟩ := o_grd h
                  refine wp_scri dL_law_336 (inb_of g336) ?_
                  refine wp_aload_n dL_law_337 0 rfl ?_
                  refine wp_iload_n dL_law_338 3 rfl ?_
                  refine wp_iconst (v := 2) dL_law_339 (by decide) ?_
                  refine wp_iadd dL_law_340 ?_
                  obtain ⟨g341, h⟩ := o_grd h
                  refine wp_scri dL_law_341 (inb_of g341) ?_
                  obtain ⟨r342, h342, h⟩ := o_bind h
                  refine wp_callvI (k := 55) (ci := 10) (c_X10_worth Γ ad (Int32.ofNat (Γ.2.2.2.2 (100 + (v3 + 1).toNatClampNeg))) (Int32.ofNat (Γ.2.2.2.2 (100 + (v3 + 2).toNatClampNeg))) I J r342 h342) dL_law_342 mlL_42 mwX10_worth miX10_worth rfl rfl rfl rfl (Nat.le_of_ble_eq_true rfl) rfl (by decide) (by decide) ?_
                  refine wp_icmp_eq 1161 dL_law_345 rfl (fun c345 => ?_) (fun c345 => ?_)
                  · replace h := o_pos h c345
                    refine wp_iinc (v := v3 + 6) (lv' := [(0, _), (1, _), (2, _), (3, _)]) dL_law_1161 3 rfl rfl rfl rfl rfl ?_
                    refine wp_goto 18 dL_law_1164 rfl ?_
                    refine wp_pick [0, 1, 2, 3] (lv' := [(0, _), (1, _), (2, _), (3, _)]) rfl ?_
                    exact ih (v3 + 6) I J r h
                  · replace h := o_neg h c345
                    refine wp_iconst (v := 0) dL_law_348 (by decide) ?_
                    obtain rfl := Option.some.inj h
                    exact wp_ireturn (ty := .boolean) dL_law_349 rfl rfl ⟨rfl, rfl, rfl, rfl⟩
                · replace h := o_neg h e33_5
                  by_cases e33_6 : ((Int32.ofNat (Γ.2.2.2.2 (100 + v3.toNatClampNeg))) &&& 31) = 6
                  · replace h := o_pos h e33_6
                    refine wp_tableIn (off := 317) 350 dL_law_33 (by rw [e33_6]; decide) (by rw [e33_6]; decide) (by rw [e33_6]; rfl) rfl ?_
                    refine wp_aload_n dL_law_350 1 rfl ?_
                    refine wp_aload_n dL_law_351 0 rfl ?_
                    refine wp_iload_n dL_law_352 3 rfl ?_
                    refine wp_iconst (v := 1) dL_law_353 (by decide) ?_
                    refine wp_iadd dL_law_354 ?_
                    obtain ⟨g355, h⟩ := o_grd h
                    refine wp_scri dL_law_355 (inb_of g355) ?_
                    refine wp_aload_n dL_law_356 0 rfl ?_
                    refine wp_iload_n dL_law_357 3 rfl ?_
                    refine wp_iconst (v := 2) dL_law_358 (by decide) ?_
                    refine wp_iadd dL_law_359 ?_
                    obtain ⟨g360, h⟩ := o_grd h
                    refine wp_scri dL_law_360 (inb_of g360) ?_
                    refine wp_aload_n dL_law_361 0 rfl ?_
                    refine wp_iload_n dL_law_362 3 rfl ?_
                    refine wp_iconst (v := 3) dL_law_363 (by decide) ?_
                    refine wp_iadd dL_law_364 ?_
                    obtain ⟨g365, h⟩ := o_grd h
                    refine wp_scri dL_law_365 (inb_of g365) ?_
                    obtain ⟨r366, h366, h⟩ := o_bind h
                    refine wp_callvI (k := 0) (ci := 9) (c_X9_bound Γ ad (Int32.ofNat (Γ.2.2.2.2 (100 + (v3 + 1).toNatClampNeg))) (Int32.ofNat (Γ.2.2.2.2 (100 + (v3 + 2).toNatClampNeg))) (Int32.ofNat (Γ.2.2.2.2 (100 + (v3 + 3).toNatClampNeg))) I J r366 h366) dL_law_366 mlL_43 mwX9_bound miX9_bound rfl rfl rfl rfl (Nat.le_of_ble_eq_true rfl) rfl (by decide) (by decide) ?_
                    refine wp_aload_n dL_law_369 2 rfl ?_
                    refine wp_aload_n dL_law_370 0 rfl ?_
                    refine wp_iload_n dL_law_371 3 rfl ?_
                    refine wp_iconst (v := 1) dL_law_372 (by decide) ?_
                    refine wp_iadd dL_law_373 ?_
                    obtain ⟨g374, h⟩ := o_grd h
                    refine wp_scri dL_law_374 (inb_of g374) ?_
                    refine wp_aload_n dL_law_375 0 rfl ?_
                    refine wp_iload_n dL_law_376 3 rfl ?_
                    refine wp_iconst (v := 2) dL_law_377 (by decide) ?_
                    refine wp_iadd dL_law_378 ?_
                    obtain ⟨g379, h⟩ := o_grd h
                    refine wp_scri dL_law_379 (inb_of g379) ?_
                    refine wp_aload_n dL_law_380 0 rfl ?_
                    refine wp_iload_n dL_law_381 3 rfl ?_
                    refine wp_iconst (v := 3) dL_law_382 (by decide) ?_
                    refine wp_iadd dL_law_383 ?_
                    obtain ⟨g384, h⟩ := o_grd h
                    refine wp_scri dL_law_384 (inb_of g384) ?_
                    obtain ⟨r385, h385, h⟩ := o_bind h
                    refine wp_callvI (k := 55) (ci := 10) (c_X10_bound Γ ad (Int32.ofNat (Γ.2.2.2.2 (100 + (v3 + 1).toNatClampNeg))) (Int32.ofNat (Γ.2.2.2.2 (100 + (v3 + 2).toNatClampNeg))) (Int32.ofNat (Γ.2.2.2.2 (100 + (v3 + 3).toNatClampNeg))) I J r385 h385) dL_law_385 mlL_47 mwX10_bound miX10_bound rfl rfl rfl rfl (Nat.le_of_ble_eq_true rfl) rfl (by decide) (by decide) ?_
                    refine wp_icmp_eq 1161 dL_law_388 rfl (fun c388 => ?_) (fun c388 => ?_)
                    · replace h := o_pos h c388
                      refine wp_iinc (v := v3 + 6) (lv' := [(0, _), (1, _), (2, _), (3, _)]) dL_law_1161 3 rfl rfl rfl rfl rfl ?_
                      refine wp_goto 18 dL_law_1164 rfl ?_
                      refine wp_pick [0, 1, 2, 3] (lv' := [(0, _), (1, _), (2, _), (3, _)]) rfl ?_
                      exact ih (v3 + 6) I J r h
                    · replace h := o_neg h c388
                      refine wp_iconst (v := 0) dL_law_391 (by decide) ?_
                      obtain rfl := Option.some.inj h
                      exact wp_ireturn (ty := .boolean) dL_law_392 rfl rfl ⟨rfl, rfl, rfl, rfl⟩
                  · replace h := o_neg h e33_6
                    by_cases e33_7 : ((Int32.ofNat (Γ.2.2.2.2 (100 + v3.toNatClampNeg))) &&& 31) = 7
                    · replace h := o_pos h e33_7
                      refine wp_tableIn (off := 360) 393 dL_law_33 (by rw [e33_7]; decide) (by rw [e33_7]; decide) (by rw [e33_7]; rfl) rfl ?_
                      refine wp_aload_n dL_law_393 1 rfl ?_
                      refine wp_aload_n dL_law_394 0 rfl ?_
                      refine wp_iload_n dL_law_395 3 rfl ?_
                      refine wp_iconst (v := 1) dL_law_396 (by decide) ?_
                      refine wp_iadd dL_law_397 ?_
                      obtain ⟨g398, h⟩ := o_grd h
                      refine wp_scri dL_law_398 (inb_of g398) ?_
                      refine wp_aload_n dL_law_399 0 rfl ?_
                      refine wp_iload_n dL_law_400 3 rfl ?_
                      refine wp_iconst (v := 2) dL_law_401 (by decide) ?_
                      refine wp_iadd dL_law_402 ?_
                      obtain ⟨g403, h⟩ := o_grd h
                      refine wp_scri dL_law_403 (inb_of g403) ?_
                      obtain ⟨r404, h404, h⟩ := o_bind h
                      refine wp_callvI (k := 0) (ci := 9) (c_X9_lot Γ ad (Int32.ofNat (Γ.2.2.2.2 (100 + (v3 + 1).toNatClampNeg))) (Int32.ofNat (Γ.2.2.2.2 (100 + (v3 + 2).toNatClampNeg))) I J r404 h404) dL_law_404 mlL_48 mwX9_lot miX9_lot rfl rfl rfl rfl (Nat.le_of_ble_eq_true rfl) rfl (by decide) (by decide) ?_
                      refine wp_aload_n dL_law_407 2 rfl ?_
                      refine wp_aload_n dL_law_408 0 rfl ?_
                      refine wp_iload_n dL_law_409 3 rfl ?_
                      refine wp_iconst (v := 1) dL_law_410 (by decide) ?_
                      refine wp_iadd dL_law_411 ?_
                      obtain ⟨g412, h⟩ := o_grd h
                      refine wp_scri dL_law_412 (inb_of g412) ?_
                      refine wp_aload_n dL_law_413 0 rfl ?_
                      refine wp_iload_n dL_law_414 3 rfl ?_
                      refine wp_iconst (v := 2) dL_law_415 (by decide) ?_
                      refine wp_iadd dL_law_416 ?_
                      obtain ⟨g417, h⟩ := o_grd h
                      refine wp_scri dL_law_417 (inb_of g417) ?_
                      obtain ⟨r418, h418, h⟩ := o_bind h
                      refine wp_callvI (k := 55) (ci := 10) (c_X10_lot Γ ad (Int32.ofNat (Γ.2.2.2.2 (100 + (v3 + 1).toNatClampNeg))) (Int32.ofNat (Γ.2.2.2.2 (100 + (v3 + 2).toNatClampNeg))) I J r418 h418) dL_law_418 mlL_51 mwX10_lot miX10_lot rfl rfl rfl rfl (Nat.le_of_ble_eq_true rfl) rfl (by decide) (by decide) ?_
                      refine wp_icmp_eq 1161 dL_law_421 rfl (fun c421 => ?_) (fun c421 => ?_)
                      · replace h := o_pos h c421
                        refine wp_iinc (v := v3 + 6) (lv' := [(0, _), (1, _), (2, _), (3, _)]) dL_law_1161 3 rfl rfl rfl rfl rfl ?_
                        refine wp_goto 18 dL_law_1164 rfl ?_
                        refine wp_pick [0, 1, 2, 3] (lv' := [(0, _), (1, _), (2, _), (3, _)]) rfl ?_
                        exact ih (v3 + 6) I J r h
                      · replace h := o_neg h c421
                        refine wp_iconst (v := 0) dL_law_424 (by decide) ?_
                        obtain rfl := Option.some.inj h
                        exact wp_ireturn (ty := .boolean) dL_law_425 rfl rfl ⟨rfl, rfl, rfl, rfl⟩
                    · replace h := o_neg h e33_7
                      by_cases e33_8 : ((Int32.ofNat (Γ.2.2.2.2 (100 + v3.toNatClampNeg))) &&& 31) = 8
                      · replace h := o_pos h e33_8
                        refine wp_tableIn (off := 393) 426 dL_law_33 (by rw [e33_8]; decide) (by rw [e33_8]; decide) (by rw [e33_8]; rfl) rfl ?_
                        refine wp_aload_n dL_law_426 1 rfl ?_
                        refine wp_aload_n dL_law_427 0 rfl ?_
                        refine wp_iload_n dL_law_428 3 rfl ?_
                        refine wp_iconst (v := 1) dL_law_429 (by decide) ?_
                        refine wp_iadd dL_law_430 ?_
                        obtain ⟨g431, h⟩ := o_grd h
                        refine wp_scri dL_law_431 (inb_of g431) ?_
                        refine wp_aload_n dL_law_432 0 rfl ?_
                        refine wp_iload_n dL_law_433 3 rfl ?_
                        refine wp_iconst (v := 2) dL_law_434 (by decide) ?_
                        refine wp_iadd dL_law_435 ?_
                        obtain ⟨g436, h⟩ := o_grd h
                        refine wp_scri dL_law_436 (inb_of g436) ?_
                        obtain ⟨r437, h437, h⟩ := o_bind h
                        refine wp_callvI (k := 0) (ci := 9) (c_X9_hold Γ ad (Int32.ofNat (Γ.2.2.2.2 (100 + (v3 + 1).toNatClampNeg))) (Int32.ofNat (Γ.2.2.2.2 (100 + (v3 + 2).toNatClampNeg))) I J r437 h437) dL_law_437 mlL_52 mwX9_hold miX9_hold rfl rfl rfl rfl (Nat.le_of_ble_eq_true rfl) rfl (by decide) (by decide) ?_
                        refine wp_aload_n dL_law_440 2 rfl ?_
                        refine wp_aload_n dL_law_441 0 rfl ?_
                        refine wp_iload_n dL_law_442 3 rfl ?_
                        refine wp_iconst (v := 1) dL_law_443 (by decide) ?_
                        refine wp_iadd dL_law_444 ?_
                        obtain ⟨g445, h⟩ := o_grd h
                        refine wp_scri dL_law_445 (inb_of g445) ?_
                        refine wp_aload_n dL_law_446 0 rfl ?_
                        refine wp_iload_n dL_law_447 3 rfl ?_
                        refine wp_iconst (v := 2) dL_law_448 (by decide) ?_
                        refine wp_iadd dL_law_449 ?_
                        obtain ⟨g450, h⟩ := o_grd h
                        refine wp_scri dL_law_450 (inb_of g450) ?_
                        obtain ⟨r451, h451, h⟩ := o_bind h
                        refine wp_callvI (k := 55) (ci := 10) (c_X10_hold Γ ad (Int32.ofNat (Γ.2.2.2.2 (100 + (v3 + 1).toNatClampNeg))) (Int32.ofNat (Γ.2.2.2.2 (100 + (v3 + 2).toNatClampNeg))) r437.2 J r451 h451) dL_law_451 mlL_55 mwX10_hold miX10_hold rfl rfl rfl rfl (Nat.le_of_ble_eq_true rfl) rfl (by decide) (by decide) ?_
                        refine wp_icmp_eq 1161 dL_law_454 rfl (fun c454 => ?_) (fun c454 => ?_)
                        · replace h := o_pos h c454
                          refine wp_iinc (v := v3 + 6) (lv' := [(0, _), (1, _), (2, _), (3, _)]) dL_law_1161 3 rfl rfl rfl rfl rfl ?_
                          refine wp_goto 18 dL_law_1164 rfl ?_
                          refine wp_pick [0, 1, 2, 3] (lv' := [(0, _), (1, _), (2, _), (3, _)]) rfl ?_
                          exact ih (v3 + 6) r451.2 J r h
                        · replace h := o_neg h c454
                          refine wp_iconst (v := 0) dL_law_457 (by decide) ?_
                          obtain rfl := Option.some.inj h
                          exact wp_ireturn (ty := .boolean) dL_law_458 rfl rfl ⟨rfl, rfl, rfl, rfl⟩
                      · replace h := o_neg h e33_8
                        by_cases e33_9 : ((Int32.ofNat (Γ.2.2.2.2 (100 + v3.toNatClampNeg))) &&& 31) = 9
                        · replace h := o_pos h e33_9
                          refine wp_tableIn (off := 426) 459 dL_law_33 (by rw [e33_9]; decide) (by rw [e33_9]; decide) (by rw [e33_9]; rfl) rfl ?_
                          refine wp_aload_n dL_law_459 1 rfl ?_
                          refine wp_aload_n dL_law_460 0 rfl ?_
                          refine wp_iload_n dL_law_461 3 rfl ?_
                          refine wp_iconst (v := 1) dL_law_462 (by decide) ?_
                          refine wp_iadd dL_law_463 ?_
                          obtain ⟨g464, h⟩ := o_grd h
                          refine wp_scri dL_law_464 (inb_of g464) ?_
                          refine wp_aload_n dL_law_465 0 rfl ?_
                          refine wp_iload_n dL_law_466 3 rfl ?_
                          refine wp_iconst (v := 2) dL_law_467 (by decide) ?_
                          refine wp_iadd dL_law_468 ?_
                          obtain ⟨g469, h⟩ := o_grd h
                          refine wp_scri dL_law_469 (inb_of g469) ?_
                          obtain ⟨r470, h470, h⟩ := o_bind h
                          refine wp_callvI (k := 0) (ci := 9) (c_X9_loose Γ ad (Int32.ofNat (Γ.2.2.2.2 (100 + (v3 + 1).toNatClampNeg))) (Int32.ofNat (Γ.2.2.2.2 (100 + (v3 + 2).toNatClampNeg))) I J r470 h470) dL_law_470 mlL_56 mwX9_loose miX9_loose rfl rfl rfl rfl (Nat.le_of_ble_eq_true rfl) rfl (by decide) (by decide) ?_
                          refine wp_aload_n dL_law_473 2 rfl ?_
                          refine wp_aload_n dL_law_474 0 rfl ?_
                          refine wp_iload_n dL_law_475 3 rfl ?_
                          refine wp_iconst (v := 1) dL_law_476 (by decide) ?_
                          refine wp_iadd dL_law_477 ?_
                          obtain ⟨g478, h⟩ := o_grd h
                          refine wp_scri dL_law_478 (inb_of g478) ?_
                          refine wp_aload_n dL_law_479 0 rfl ?_
                          refine wp_iload_n dL_law_480 3 rfl ?_
                          refine wp_iconst (v := 2) dL_law_481 (by decide) ?_
                          refine wp_iadd dL_law_482 ?_
                          obtain ⟨g483, h⟩ := o_grd h
                          refine wp_scri dL_law_483 (inb_of g483) ?_
                          obtain ⟨r484, h484, h⟩ := o_bind h
                          refine wp_callvI (k := 55) (ci := 10) (c_X10_loose Γ ad (Int32.ofNat (Γ.2.2.2.2 (100 + (v3 + 1).toNatClampNeg))) (Int32.ofNat (Γ.2.2.2.2 (100 + (v3 + 2).toNatClampNeg))) r470.2 J r484 h484) dL_law_484 mlL_59 mwX10_loose miX10_loose rfl rfl rfl rfl (Nat.le_of_ble_eq_true rfl) rfl (by decide) (by decide) ?_
                          refine wp_icmp_eq 1161 dL_law_487 rfl (fun c487 => ?_) (fun c487 => ?_)
                          · replace h := o_pos h c487
                            refine wp_iinc (v := v3 + 6) (lv' := [(0, _), (1, _), (2, _), (3, _)]) dL_law_1161 3 rfl rfl rfl rfl rfl ?_
                            refine wp_goto 18 dL_law_1164 rfl ?_
                            refine wp_pick [0, 1, 2, 3] (lv' := [(0, _), (1, _), (2, _), (3, _)]) rfl ?_
                            exact ih (v3 + 6) r484.2 J r h
                          · replace h := o_neg h c487
                            refine wp_iconst (v := 0) dL_law_490 (by decide) ?_
                            obtain rfl := Option.some.inj h
                            exact wp_ireturn (ty := .boolean) dL_law_491 rfl rfl ⟨rfl, rfl, rfl, rfl⟩
                        · replace h := o_neg h e33_9
                          by_cases e33_10 : ((Int32.ofNat (Γ.2.2.2.2 (100 + v3.toNatClampNeg))) &&& 31) = 10
                          · replace h := o_pos h e33_10
                            refine wp_tableIn (off := 459) 492 dL_law_33 (by rw [e33_10]; decide) (by rw [e33_10]; decide) (by rw [e33_10]; rfl) rfl ?_
                            refine wp_aload_n dL_law_492 1 rfl ?_
                            refine wp_aload_n dL_law_493 0 rfl ?_
                            refine wp_iload_n dL_law_494 3 rfl ?_
                            refine wp_iconst (v := 1) dL_law_495 (by decide) ?_
                            refine wp_iadd dL_law_496 ?_
                            obtain ⟨g497, h⟩ := o_grd h
                            refine wp_scri dL_law_497 (inb_of g497) ?_
                            refine wp_aload_n dL_law_498 0 rfl ?_
                            refine wp_iload_n dL_law_499 3 rfl ?_
                            refine wp_iconst (v := 2) dL_law_500 (by decide) ?_
                            refine wp_iadd dL_law_501 ?_
                            obtain ⟨g502, h⟩ := o_grd h
                            refine wp_scri dL_law_502 (inb_of g502) ?_
                            refine wp_aload_n dL_law_503 0 rfl ?_
                            refine wp_iload_n dL_law_504 3 rfl ?_
                            refine wp_iconst (v := 3) dL_law_505 (by decide) ?_
                            refine wp_iadd dL_law_506 ?_
                            obtain ⟨g507, h⟩ := o_grd h
                            refine wp_scri dL_law_507 (inb_of g507) ?_
                            refine wp_aload_n dL_law_508 0 rfl ?_
                            refine wp_iload_n dL_law_509 3 rfl ?_
                            refine wp_iconst (v := 4) dL_law_510 (by decide) ?_
                            refine wp_iadd dL_law_511 ?_
                            obtain ⟨g512, h⟩ := o_grd h
                            refine wp_scri dL_law_512 (inb_of g512) ?_
                            refine wp_aload_n dL_law_513 0 rfl ?_
                            refine wp_iload_n dL_law_514 3 rfl ?_
                            refine wp_iconst (v := 5) dL_law_515 (by decide) ?_
                            refine wp_iadd dL_law_516 ?_
                            obtain ⟨g517, h⟩ := o_grd h
                            refine wp_scri dL_law_517 (inb_of g517) ?_
                            obtain ⟨r518, h518, h⟩ := o_bind h
                            refine wp_callvI (k := 0) (ci := 9) (c_X9_press Γ ad (Int32.ofNat (Γ.2.2.2.2 (100 + (v3 + 1).toNatClampNeg))) (Int32.ofNat (Γ.2.2.2.2 (100 + (v3 + 2).toNatClampNeg))) (Int32.ofNat (Γ.2.2.2.2 (100 + (v3 + 3).toNatClampNeg))) (Int32.ofNat (Γ.2.2.2.2 (100 + (v3 + 4).toNatClampNeg))) (Int32.ofNat (Γ.2.2.2.2 (100 + (v3 + 5).toNatClampNeg))) I J r518 h518) dL_law_518 mlL_60 mwX9_press miX9_press rfl rfl rfl rfl (Nat.le_of_ble_eq_true rfl) rfl (by decide) (by decide) ?_
                            refine wp_aload_n dL_law_521 2 rfl ?_
                            refine wp_aload_n dL_law_522 0 rfl ?_
                            refine wp_iload_n dL_law_523 3 rfl ?_
                            refine wp_iconst (v := 1) dL_law_524 (by decide) ?_
                            refine wp_iadd dL_law_525 ?_
                            obtain ⟨g526, h⟩ := o_grd h
                            refine wp_scri dL_law_526 (inb_of g526) ?_
                            refine wp_aload_n dL_law_527 0 rfl ?_
                            refine wp_iload_n dL_law_528 3 rfl ?_
                            refine wp_iconst (v := 2) dL_law_529 (by decide) ?_
                            refine wp_iadd dL_law_530 ?_
                            obtain ⟨g531, h⟩ := o_grd h
                            refine wp_scri dL_law_531 (inb_of g531) ?_
                            refine wp_aload_n dL_law_532 0 rfl ?_
                            refine wp_iload_n dL_law_533 3 rfl ?_
                            refine wp_iconst (v := 3) dL_law_534 (by decide) ?_
                            refine wp_iadd dL_law_535 ?_
                            obtain ⟨g536, h⟩ := o_grd h
                            refine wp_scri dL_law_536 (inb_of g536) ?_
                            refine wp_aload_n dL_law_537 0 rfl ?_
                            refine wp_iload_n dL_law_538 3 rfl ?_
                            refine wp_iconst (v := 4) dL_law_539 (by decide) ?_
                            refine wp_iadd dL_law_540 ?_
                            obtain ⟨g541, h⟩ := o_grd h
                            refine wp_scri dL_law_541 (inb_of g541) ?_
                            refine wp_aload_n dL_law_542 0 rfl ?_
                            refine wp_iload_n dL_law_543 3 rfl ?_
                            refine wp_iconst (v := 5) dL_law_544 (by decide) ?_
                            refine wp_iadd dL_law_545 ?_
                            obtain ⟨g546, h⟩ := o_grd h
                            refine wp_scri dL_law_546 (inb_of g546) ?_
                            obtain ⟨r547, h547, h⟩ := o_bind h
                            refine wp_callvI (k := 55) (ci := 10) (c_X10_press Γ ad (Int32.ofNat (Γ.2.2.2.2 (100 + (v3 + 1).toNatClampNeg))) (Int32.ofNat (Γ.2.2.2.2 (100 + (v3 + 2).toNatClampNeg))) (Int32.ofNat (Γ.2.2.2.2 (100 + (v3 + 3).toNatClampNeg))) (Int32.ofNat (Γ.2.2.2.2 (100 + (v3 + 4).toNatClampNeg))) (Int32.ofNat (Γ.2.2.2.2 (100 + (v3 + 5).toNatClampNeg))) r518.2 J r547 h547) dL_law_547 mlL_64 mwX10_press miX10_press rfl rfl rfl rfl (Nat.le_of_ble_eq_true rfl) rfl (by decide) (by decide) ?_
                            refine wp_icmp_eq 1161 dL_law_550 rfl (fun c550 => ?_) (fun c550 => ?_)
                            · replace h := o_pos h c550
                              refine wp_iinc (v := v3 + 6) (lv' := [(0, _), (1, _), (2, _), (3, _)]) dL_law_1161 3 rfl rfl rfl rfl rfl ?_
                              refine wp_goto 18 dL_law_1164 rfl ?_
                              refine wp_pick [0, 1, 2, 3] (lv' := [(0, _), (1, _), (2, _), (3, _)]) rfl ?_
                              exact ih (v3 + 6) r547.2 J r h
                            · replace h := o_neg h c550
                              refine wp_iconst (v := 0) dL_law_553 (by decide) ?_
                              obtain rfl := Option.some.inj h
                              exact wp_ireturn (ty := .boolean) dL_law_554 rfl rfl ⟨rfl, rfl, rfl, rfl⟩
                          · replace h := o_neg h e33_10
                            by_cases e33_11 : ((Int32.ofNat (Γ.2.2.2.2 (100 + v3.toNatClampNeg))) &&& 31) = 11
                            · replace h := o_pos h e33_11
                              refine wp_tableIn (off := 522) 555 dL_law_33 (by rw [e33_11]; decide) (by rw [e33_11]; decide) (by rw [e33_11]; rfl) rfl ?_
                              refine wp_aload_n dL_law_555 1 rfl ?_
                              obtain ⟨r556, h556, h⟩ := o_bind h
                              refine wp_callvI (k := 0) (ci := 9) (c_X9_price Γ ad I J r556 h556) dL_law_556 mlL_65 mwX9_price miX9_price rfl rfl rfl rfl (Nat.le_of_ble_eq_true rfl) rfl (by decide) (by decide) ?_
                              refine wp_aload_n dL_law_559 2 rfl ?_
                              obtain ⟨r560, h560, h⟩ := o_bind h
                              refine wp_callvI (k := 55) (ci := 10) (c_X10_price Γ ad I J r560 h560) dL_law_560 mlL_68 mwX10_price miX10_price rfl rfl rfl rfl (Nat.le_of_ble_eq_true rfl) rfl (by decide) (by decide) ?_
                              refine wp_icmp_eq 1161 dL_law_563 rfl (fun c563 => ?_) (fun c563 => ?_)
                              · replace h := o_pos h c563
                                refine wp_iinc (v := v3 + 6) (lv' := [(0, _), (1, _), (2, _), (3, _)]) dL_law_1161 3 rfl rfl rfl rfl rfl ?_
                                refine wp_goto 18 dL_law_1164 rfl ?_
                                refine wp_pick [0, 1, 2, 3] (lv' := [(0, _), (1, _), (2, _), (3, _)]) rfl ?_
                                exact ih (v3 + 6) I J r h
                              · replace h := o_neg h c563
                                refine wp_iconst (v := 0) dL_law_566 (by decide) ?_
                                obtain rfl := Option.some.inj h
                                exact wp_ireturn (ty := .boolean) dL_law_567 rfl rfl ⟨rfl, rfl, rfl, rfl⟩
                            · replace h := o_neg h e33_11
                              by_cases e33_12 : ((Int32.ofNat (Γ.2.2.2.2 (100 + v3.toNatClampNeg))) &&& 31) = 12
                              · replace h := o_pos h e33_12
                                refine wp_tableIn (off := 535) 568 dL_law_33 (by rw [e33_12]; decide) (by rw [e33_12]; decide) (by rw [e33_12]; rfl) rfl ?_
                                refine wp_aload_n dL_law_568 1 rfl ?_
                                refine wp_aload_n dL_law_569 0 rfl ?_
                                refine wp_iload_n dL_law_570 3 rfl ?_
                                refine wp_iconst (v := 1) dL_law_571 (by decide) ?_
                                refine wp_iadd dL_law_572 ?_
                                obtain ⟨g573, h⟩ := o_grd h
                                refine wp_scri dL_law_573 (inb_of g573) ?_
                                obtain ⟨r574, h574, h⟩ := o_bind h
                                refine wp_callvI (k := 0) (ci := 9) (c_X9_twitches Γ ad (Int32.ofNat (Γ.2.2.2.2 (100 + (v3 + 1).toNatClampNeg))) I J r574 h574) dL_law_574 mlL_69 mwX9_twitches miX9_twitches rfl rfl rfl rfl (Nat.le_of_ble_eq_true rfl) rfl (by decide) (by decide) ?_
                                refine wp_aload_n dL_law_577 2 rfl ?_
                                refine wp_aload_n dL_law_578 0 rfl ?_
                                refine wp_iload_n dL_law_579 3 rfl ?_
                                refine wp_iconst (v := 1) dL_law_580 (by decide) ?_
                                refine wp_iadd dL_law_581 ?_
                                obtain ⟨g582, h⟩ := o_grd h
                                refine wp_scri dL_law_582 (inb_of g582) ?_
                                obtain ⟨r583, h583, h⟩ := o_bind h
                                refine wp_callvI (k := 55) (ci := 10) (c_X10_twitches Γ ad (Int32.ofNat (Γ.2.2.2.2 (100 + (v3 + 1).toNatClampNeg))) I J r583 h583) dL_law_583 mlL_72 mwX10_twitches miX10_twitches rfl rfl rfl rfl (Nat.le_of_ble_eq_true rfl) rfl (by decide) (by decide) ?_
                                refine wp_icmp_eq 1161 dL_law_586 rfl (fun c586 => ?_) (fun c586 => ?_)
                                · replace h := o_pos h c586
                                  refine wp_iinc (v := v3 + 6) (lv' := [(0, _), (1, _), (2, _), (3, _)]) dL_law_1161 3 rfl rfl rfl rfl rfl ?_
                                  refine wp_goto 18 dL_law_1164 rfl ?_
                                  refine wp_pick [0, 1, 2, 3] (lv' := [(0, _), (1, _), (2, _), (3, _)]) rfl ?_
                                  exact ih (v3 + 6) I J r h
                                · replace h := o_neg h c586
                                  refine wp_iconst (v := 0) dL_law_589 (by decide) ?_
                                  obtain rfl := Option.some.inj h
                                  exact wp_ireturn (ty := .boolean) dL_law_590 rfl rfl ⟨rfl, rfl, rfl, rfl⟩
                              · replace h := o_neg h e33_12
                                by_cases e33_13 : ((Int32.ofNat (Γ.2.2.2.2 (100 + v3.toNatClampNeg))) &&& 31) = 13
                                · replace h := o_pos h e33_13
                                  refine wp_tableIn (off := 558) 591 dL_law_33 (by rw [e33_13]; decide) (by rw [e33_13]; decide) (by rw [e33_13]; rfl) rfl ?_
                                  refine wp_aload_n dL_law_591 1 rfl ?_
                                  refine wp_aload_n dL_law_592 0 rfl ?_
                                  refine wp_iload_n dL_law_593 3 rfl ?_
                                  refine wp_iconst (v := 1) dL_law_594 (by decide) ?_
                                  refine wp_iadd dL_law_595 ?_
                                  obtain ⟨g596, h⟩ := o_grd h
                                  refine wp_scri dL_law_596 (inb_of g596) ?_
                                  obtain ⟨r597, h597, h⟩ := o_bind h
                                  refine wp_callvI (k := 0) (ci := 9) (c_X9_beat Γ ad (Int32.ofNat (Γ.2.2.2.2 (100 + (v3 + 1).toNatClampNeg))) I J r597 h597) dL_law_597 mlL_73 mwX9_beat miX9_beat rfl rfl rfl rfl (Nat.le_of_ble_eq_true rfl) rfl (by decide) (by decide) ?_
                                  refine wp_aload_n dL_law_600 2 rfl ?_
                                  refine wp_aload_n dL_law_601 0 rfl ?_
                                  refine wp_iload_n dL_law_602 3 rfl ?_
                                  refine wp_iconst (v := 1) dL_law_603 (by decide) ?_
                                  refine wp_iadd dL_law_604 ?_
                                  obtain ⟨g605, h⟩ := o_grd h
                                  refine wp_scri dL_law_605 (inb_of g605) ?_
                                  obtain ⟨r606, h606, h⟩ := o_bind h
                                  refine wp_callvI (k := 55) (ci := 10) (c_X10_beat Γ ad (Int32.ofNat (Γ.2.2.2.2 (100 + (v3 + 1).toNatClampNeg))) r597.2 J r606 h606) dL_law_606 mlL_76 mwX10_beat miX10_beat rfl rfl rfl rfl (Nat.le_of_ble_eq_true rfl) rfl (by decide) (by decide) ?_
                                  refine wp_icmp_eq 1161 dL_law_609 rfl (fun c609 => ?_) (fun c609 => ?_)
                                  · replace h := o_pos h c609
                                    refine wp_iinc (v := v3 + 6) (lv' := [(0, _), (1, _), (2, _), (3, _)]) dL_law_1161 3 rfl rfl rfl rfl rfl ?_
                                    refine wp_goto 18 dL_law_1164 rfl ?_
                                    refine wp_pick [0, 1, 2, 3] (lv' := [(0, _), (1, _), (2, _), (3, _)]) rfl ?_
                                    exact ih (v3 + 6) r606.2 J r h
                                  · replace h := o_neg h c609
                                    refine wp_iconst (v := 0) dL_law_612 (by decide) ?_
                                    obtain rfl := Option.some.inj h
                                    exact wp_ireturn (ty := .boolean) dL_law_613 rfl rfl ⟨rfl, rfl, rfl, rfl⟩
                                · replace h := o_neg h e33_13
                                  by_cases e33_14 : ((Int32.ofNat (Γ.2.2.2.2 (100 + v3.toNatClampNeg))) &&& 31) = 14
                                  · replace h := o_pos h e33_14
                                    refine wp_tableIn (off := 581) 614 dL_law_33 (by rw [e33_14]; decide) (by rw [e33_14]; decide) (by rw [e33_14]; rfl) rfl ?_
                                    refine wp_aload_n dL_law_614 1 rfl ?_
                                    refine wp_aload_n dL_law_615 0 rfl ?_
                                    refine wp_iload_n dL_law_616 3 rfl ?_
                                    refine wp_iconst (v := 1) dL_law_617 (by decide) ?_
                                    refine wp_iadd dL_law_618 ?_
                                    obtain ⟨g619, h⟩ := o_grd h
                                    refine wp_scri dL_law_619 (inb_of g619) ?_
                                    obtain ⟨r620, h620, h⟩ := o_bind h
                                    refine wp_callvI (k := 0) (ci := 9) (c_X9_drift Γ ad (Int32.ofNat (Γ.2.2.2.2 (100 + (v3 + 1).toNatClampNeg))) I J r620 h620) dL_law_620 mlL_77 mwX9_drift miX9_drift rfl rfl rfl rfl (Nat.le_of_ble_eq_true rfl) rfl (by decide) (by decide) ?_
                                    refine wp_aload_n dL_law_623 2 rfl ?_
                                    refine wp_aload_n dL_law_624 0 rfl ?_
                                    refine wp_iload_n dL_law_625 3 rfl ?_
                                    refine wp_iconst (v := 1) dL_law_626 (by decide) ?_
                                    refine wp_iadd dL_law_627 ?_
                                    obtain ⟨g628, h⟩ := o_grd h
                                    refine wp_scri dL_law_628 (inb_of g628) ?_
                                    obtain ⟨r629, h629, h⟩ := o_bind h
                                    refine wp_callvI (k := 55) (ci := 10) (c_X10_drift Γ ad (Int32.ofNat (Γ.2.2.2.2 (100 + (v3 + 1).toNatClampNeg))) r620.2 J r629 h629) dL_law_629 mlL_80 mwX10_drift miX10_drift rfl rfl rfl rfl (Nat.le_of_ble_eq_true rfl) rfl (by decide) (by decide) ?_
                                    refine wp_icmp_eq 1161 dL_law_632 rfl (fun c632 => ?_) (fun c632 => ?_)
                                    · replace h := o_pos h c632
                                      refine wp_iinc (v := v3 + 6) (lv' := [(0, _), (1, _), (2, _), (3, _)]) dL_law_1161 3 rfl rfl rfl rfl rfl ?_
                                      refine wp_goto 18 dL_law_1164 rfl ?_
                                      refine wp_pick [0, 1, 2, 3] (lv' := [(0, _), (1, _), (2, _), (3, _)]) rfl ?_
                                      exact ih (v3 + 6) r629.2 J r h
                                    · replace h := o_neg h c632
                                      refine wp_iconst (v := 0) dL_law_635 (by decide) ?_
                                      obtain rfl := Option.some.inj h
                                      exact wp_ireturn (ty := .boolean) dL_law_636 rfl rfl ⟨rfl, rfl, rfl, rfl⟩
                                  · replace h := o_neg h e33_14
                                    by_cases e33_15 : ((Int32.ofNat (Γ.2.2.2.2 (100 + v3.toNatClampNeg))) &&& 31) = 15
                                    · replace h := o_pos h e33_15
                                      refine wp_tableIn (off := 604) 637 dL_law_33 (by rw [e33_15]; decide) (by rw [e33_15]; decide) (by rw [e33_15]; rfl) rfl ?_
                                      refine wp_aload_n dL_law_637 1 rfl ?_
                                      refine wp_aload_n dL_law_638 0 rfl ?_
                                      refine wp_iload_n dL_law_639 3 rfl ?_
                                      refine wp_iconst (v := 1) dL_law_640 (by decide) ?_
                                      refine wp_iadd dL_law_641 ?_
                                      obtain ⟨g642, h⟩ := o_grd h
                                      refine wp_scri dL_law_642 (inb_of g642) ?_
                                      refine wp_aload_n dL_law_643 0 rfl ?_
                                      refine wp_iload_n dL_law_644 3 rfl ?_
                                      refine wp_iconst (v := 2) dL_law_645 (by decide) ?_
                                      refine wp_iadd dL_law_646 ?_
                                      obtain ⟨g647, h⟩ := o_grd h
                                      refine wp_scri dL_law_647 (inb_of g647) ?_
                                      refine wp_aload_n dL_law_648 0 rfl ?_
                                      refine wp_iload_n dL_law_649 3 rfl ?_
                                      refine wp_iconst (v := 3) dL_law_650 (by decide) ?_
                                      refine wp_iadd dL_law_651 ?_
                                      obtain ⟨g652, h⟩ := o_grd h
                                      refine wp_scri dL_law_652 (inb_of g652) ?_
                                      obtain ⟨r653, h653, h⟩ := o_bind h
                                      refine wp_callvI (k := 0) (ci := 9) (c_X9_bargain Γ ad (Int32.ofNat (Γ.2.2.2.2 (100 + (v3 + 1).toNatClampNeg))) (Int32.ofNat (Γ.2.2.2.2 (100 + (v3 + 2).toNatClampNeg))) (Int32.ofNat (Γ.2.2.2.2 (100 + (v3 + 3).toNatClampNeg))) I J r653 h653) dL_law_653 mlL_81 mwX9_bargain miX9_bargain rfl rfl rfl rfl (Nat.le_of_ble_eq_true rfl) rfl (by decide) (by decide) ?_
                                      refine wp_aload_n dL_law_656 2 rfl ?_
                                      refine wp_aload_n dL_law_657 0 rfl ?_
                                      refine wp_iload_n dL_law_658 3 rfl ?_
                                      refine wp_iconst (v := 1) dL_law_659 (by decide) ?_
                                      refine wp_iadd dL_law_660 ?_
                                      obtain ⟨g661, h⟩ := o_grd h
                                      refine wp_scri dL_law_661 (inb_of g661) ?_
                                      refine wp_aload_n dL_law_662 0 rfl ?_
                                      refine wp_iload_n dL_law_663 3 rfl ?_
                                      refine wp_iconst (v := 2) dL_law_664 (by decide) ?_
                                      refine wp_iadd dL_law_665 ?_
                                      obtain ⟨g666, h⟩ := o_grd h
                                      refine wp_scri dL_law_666 (inb_of g666) ?_
                                      refine wp_aload_n dL_law_667 0 rfl ?_
                                      refine wp_iload_n dL_law_668 3 rfl ?_
                                      refine wp_iconst (v := 3) dL_law_669 (by decide) ?_
                                      refine wp_iadd dL_law_670 ?_
                                      obtain ⟨g671, h⟩ := o_grd h
                                      refine wp_scri dL_law_671 (inb_of g671) ?_
                                      obtain ⟨r672, h672, h⟩ := o_bind h
                                      refine wp_callvI (k := 55) (ci := 10) (c_X10_bargain Γ ad (Int32.ofNat (Γ.2.2.2.2 (100 + (v3 + 1).toNatClampNeg))) (Int32.ofNat (Γ.2.2.2.2 (100 + (v3 + 2).toNatClampNeg))) (Int32.ofNat (Γ.2.2.2.2 (100 + (v3 + 3).toNatClampNeg))) I J r672 h672) dL_law_672 mlL_84 mwX10_bargain miX10_bargain rfl rfl rfl rfl (Nat.le_of_ble_eq_true rfl) rfl (by decide) (by decide) ?_
                                      refine wp_icmp_eq 1161 dL_law_675 rfl (fun c675 => ?_) (fun c675 => ?_)
                                      · replace h := o_pos h c675
                                        refine wp_iinc (v := v3 + 6) (lv' := [(0, _), (1, _), (2, _), (3, _)]) dL_law_1161 3 rfl rfl rfl rfl rfl ?_
                                        refine wp_goto 18 dL_law_1164 rfl ?_
                                        refine wp_pick [0, 1, 2, 3] (lv' := [(0, _), (1, _), (2, _), (3, _)]) rfl ?_
                                        exact ih (v3 + 6) I J r h
                                      · replace h := o_neg h c675
                                        refine wp_iconst (v := 0) dL_law_678 (by decide) ?_
                                        obtain rfl := Option.some.inj h
                                        exact wp_ireturn (ty := .boolean) dL_law_679 rfl rfl ⟨rfl, rfl, rfl, rfl⟩
                                    · replace h := o_neg h e33_15
                                      by_cases e33_16 : ((Int32.ofNat (Γ.2.2.2.2 (100 + v3.toNatClampNeg))) &&& 31) = 16
                                      · replace h := o_pos h e33_16
                                        refine wp_tableIn (off := 647) 680 dL_law_33 (by rw [e33_16]; decide) (by rw [e33_16]; decide) (by rw [e33_16]; rfl) rfl ?_
                                        refine wp_aload_n dL_law_680 1 rfl ?_
                                        refine wp_aload_n dL_law_681 0 rfl ?_
                                        refine wp_iload_n dL_law_682 3 rfl ?_
                                        refine wp_iconst (v := 1) dL_law_683 (by decide) ?_
                                        refine wp_iadd dL_law_684 ?_
                                        obtain ⟨g685, h⟩ := o_grd h
                                        refine wp_scri dL_law_685 (inb_of g685) ?_
                                        obtain ⟨r686, h686, h⟩ := o_bind h
                                        refine wp_callvI (k := 0) (ci := 9) (c_X9_best Γ ad (Int32.ofNat (Γ.2.2.2.2 (100 + (v3 + 1).toNatClampNeg))) I J r686 h686) dL_law_686 mlL_85 mwX9_best miX9_best rfl rfl rfl rfl (Nat.le_of_ble_eq_true rfl) rfl (by decide) (by decide) ?_
                                        refine wp_aload_n dL_law_689 2 rfl ?_
                                        refine wp_aload_n dL_law_690 0 rfl ?_
                                        refine wp_iload_n dL_law_691 3 rfl ?_
                                        refine wp_iconst (v := 1) dL_law_692 (by decide) ?_
                                        refine wp_iadd dL_law_693 ?_
                                        obtain ⟨g694, h⟩ := o_grd h
                                        refine wp_scri dL_law_694 (inb_of g694) ?_
                                        obtain ⟨r695, h695, h⟩ := o_bind h
                                        refine wp_callvI (k := 55) (ci := 10) (c_X10_best Γ ad (Int32.ofNat (Γ.2.2.2.2 (100 + (v3 + 1).toNatClampNeg))) r686.2.1 r686.2.2 r695 h695) dL_law_695 mlL_88 mwX10_best miX10_best rfl rfl rfl rfl (Nat.le_of_ble_eq_true rfl) rfl (by decide) (by decide) ?_
                                        refine wp_icmp_eq 1161 dL_law_698 rfl (fun c698 => ?_) (fun c698 => ?_)
                                        · replace h := o_pos h c698
                                          refine wp_iinc (v := v3 + 6) (lv' := [(0, _), (1, _), (2, _), (3, _)]) dL_law_1161 3 rfl rfl rfl rfl rfl ?_
                                          refine wp_goto 18 dL_law_1164 rfl ?_
                                          refine wp_pick [0, 1, 2, 3] (lv' := [(0, _), (1, _), (2, _), (3, _)]) rfl ?_
                                          exact ih (v3 + 6) r695.2 r686.2.2 r h
                                        · replace h := o_neg h c698
                                          refine wp_iconst (v := 0) dL_law_701 (by decide) ?_
                                          obtain rfl := Option.some.inj h
                                          exact wp_ireturn (ty := .boolean) dL_law_702 rfl rfl ⟨rfl, rfl, rfl, rfl⟩
                                      · replace h := o_neg h e33_16
                                        by_cases e33_17 : ((Int32.ofNat (Γ.2.2.2.2 (100 + v3.toNatClampNeg))) &&& 31) = 17
                                        · replace h := o_pos h e33_17
                                          refine wp_tableIn (off := 670) 703 dL_law_33 (by rw [e33_17]; decide) (by rw [e33_17]; decide) (by rw [e33_17]; rfl) rfl ?_
                                          refine wp_aload_n dL_law_703 1 rfl ?_
                                          refine wp_aload_n dL_law_704 0 rfl ?_
                                          refine wp_iload_n dL_law_705 3 rfl ?_
                                          refine wp_iconst (v := 1) dL_law_706 (by decide) ?_
                                          refine wp_iadd dL_law_707 ?_
                                          obtain ⟨g708, h⟩ := o_grd h
                                          refine wp_scri dL_law_708 (inb_of g708) ?_
                                          refine wp_aload_n dL_law_709 0 rfl ?_
                                          refine wp_iload_n dL_law_710 3 rfl ?_
                                          refine wp_iconst (v := 2) dL_law_711 (by decide) ?_
                                          refine wp_iadd dL_law_712 ?_
                                          obtain ⟨g713, h⟩ := o_grd h
                                          refine wp_scri dL_law_713 (inb_of g713) ?_
                                          obtain ⟨r714, h714, h⟩ := o_bind h
                                          refine wp_callvI (k := 0) (ci := 9) (c_X9_span Γ ad (Int32.ofNat (Γ.2.2.2.2 (100 + (v3 + 1).toNatClampNeg))) (Int32.ofNat (Γ.2.2.2.2 (100 + (v3 + 2).toNatClampNeg))) I J r714 h714) dL_law_714 mlL_89 mwX9_span miX9_span rfl rfl rfl rfl (Nat.le_of_ble_eq_true rfl) rfl (by decide) (by decide) ?_
                                          refine wp_aload_n dL_law_717 2 rfl ?_
                                          refine wp_aload_n dL_law_718 0 rfl ?_
                                          refine wp_iload_n dL_law_719 3 rfl ?_
                                          refine wp_iconst (v := 1) dL_law_720 (by decide) ?_
                                          refine wp_iadd dL_law_721 ?_
                                          obtain ⟨g722, h⟩ := o_grd h
                                          refine wp_scri dL_law_722 (inb_of g722) ?_
                                          refine wp_aload_n dL_law_723 0 rfl ?_
                                          refine wp_iload_n dL_law_724 3 rfl ?_
                                          refine wp_iconst (v := 2) dL_law_725 (by decide) ?_
                                          refine wp_iadd dL_law_726 ?_
                                          obtain ⟨g727, h⟩ := o_grd h
                                          refine wp_scri dL_law_727 (inb_of g727) ?_
                                          obtain ⟨r728, h728, h⟩ := o_bind h
                                          refine wp_callvI (k := 55) (ci := 10) (c_X10_span Γ ad (Int32.ofNat (Γ.2.2.2.2 (100 + (v3 + 1).toNatClampNeg))) (Int32.ofNat (Γ.2.2.2.2 (100 + (v3 + 2).toNatClampNeg))) r714.2.1 r714.2.2 r728 h728) dL_law_728 mlL_92 mwX10_span miX10_span rfl rfl rfl rfl (Nat.le_of_ble_eq_true rfl) rfl (by decide) (by decide) ?_
                                          refine wp_icmp_eq 1161 dL_law_731 rfl (fun c731 => ?_) (fun c731 => ?_)
                                          · replace h := o_pos h c731
                                            refine wp_iinc (v := v3 + 6) (lv' := [(0, _), (1, _), (2, _), (3, _)]) dL_law_1161 3 rfl rfl rfl rfl rfl ?_
                                            refine wp_goto 18 dL_law_1164 rfl ?_
                                            refine wp_pick [0, 1, 2, 3] (lv' := [(0, _), (1, _), (2, _), (3, _)]) rfl ?_
                                            exact ih (v3 + 6) r728.2 r714.2.2 r h
                                          · replace h := o_neg h c731
                                            refine wp_iconst (v := 0) dL_law_734 (by decide) ?_
                                            obtain rfl := Option.some.inj h
                                            exact wp_ireturn (ty := .boolean) dL_law_735 rfl rfl ⟨rfl, rfl, rfl, rfl⟩
                                        · replace h := o_neg h e33_17
                                          by_cases e33_18 : ((Int32.ofNat (Γ.2.2.2.2 (100 + v3.toNatClampNeg))) &&& 31) = 18
                                          · replace h := o_pos h e33_18
                                            refine wp_tableIn (off := 703) 736 dL_law_33 (by rw [e33_18]; decide) (by rw [e33_18]; decide) (by rw [e33_18]; rfl) rfl ?_
                                            refine wp_aload_n dL_law_736 1 rfl ?_
                                            refine wp_aload_n dL_law_737 0 rfl ?_
                                            refine wp_iload_n dL_law_738 3 rfl ?_
                                            refine wp_iconst (v := 1) dL_law_739 (by decide) ?_
                                            refine wp_iadd dL_law_740 ?_
                                            obtain ⟨g741, h⟩ := o_grd h
                                            refine wp_scri dL_law_741 (inb_of g741) ?_
                                            refine wp_aload_n dL_law_742 0 rfl ?_
                                            refine wp_iload_n dL_law_743 3 rfl ?_
                                            refine wp_iconst (v := 2) dL_law_744 (by decide) ?_
                                            refine wp_iadd dL_law_745 ?_
                                            obtain ⟨g746, h⟩ := o_grd h
                                            refine wp_scri dL_law_746 (inb_of g746) ?_
                                            refine wp_aload_n dL_law_747 0 rfl ?_
                                            refine wp_iload_n dL_law_748 3 rfl ?_
                                            refine wp_iconst (v := 3) dL_law_749 (by decide) ?_
                                            refine wp_iadd dL_law_750 ?_
                                            obtain ⟨g751, h⟩ := o_grd h
                                            refine wp_scri dL_law_751 (inb_of g751) ?_
                                            refine wp_aload_n dL_law_752 0 rfl ?_
                                            refine wp_iload_n dL_law_753 3 rfl ?_
                                            refine wp_iconst (v := 4) dL_law_754 (by decide) ?_
                                            refine wp_iadd dL_law_755 ?_
                                            obtain ⟨g756, h⟩ := o_grd h
                                            refine wp_scri dL_law_756 (inb_of g756) ?_
                                            obtain ⟨r757, h757, h⟩ := o_bind h
                                            refine wp_callvI (k := 0) (ci := 9) (c_X9_lie Γ ad (Int32.ofNat (Γ.2.2.2.2 (100 + (v3 + 1).toNatClampNeg))) (Int32.ofNat (Γ.2.2.2.2 (100 + (v3 + 2).toNatClampNeg))) (Int32.ofNat (Γ.2.2.2.2 (100 + (v3 + 3).toNatClampNeg))) (Int32.ofNat (Γ.2.2.2.2 (100 + (v3 + 4).toNatClampNeg))) I J r757 h757) dL_law_757 mlL_93 mwX9_lie miX9_lie rfl rfl rfl rfl (Nat.le_of_ble_eq_true rfl) rfl (by decide) (by decide) ?_
                                            refine wp_aload_n dL_law_760 2 rfl ?_
                                            refine wp_aload_n dL_law_761 0 rfl ?_
                                            refine wp_iload_n dL_law_762 3 rfl ?_
                                            refine wp_iconst (v := 1) dL_law_763 (by decide) ?_
                                            refine wp_iadd dL_law_764 ?_
                                            obtain ⟨g765, h⟩ := o_grd h
                                            refine wp_scri dL_law_765 (inb_of g765) ?_
                                            refine wp_aload_n dL_law_766 0 rfl ?_
                                            refine wp_iload_n dL_law_767 3 rfl ?_
                                            refine wp_iconst (v := 2) dL_law_768 (by decide) ?_
                                            refine wp_iadd dL_law_769 ?_
                                            obtain ⟨g770, h⟩ := o_grd h
                                            refine wp_scri dL_law_770 (inb_of g770) ?_
                                            refine wp_aload_n dL_law_771 0 rfl ?_
                                            refine wp_iload_n dL_law_772 3 rfl ?_
                                            refine wp_iconst (v := 3) dL_law_773 (by decide) ?_
                                            refine wp_iadd dL_law_774 ?_
                                            obtain ⟨g775, h⟩ := o_grd h
                                            refine wp_scri dL_law_775 (inb_of g775) ?_
                                            refine wp_aload_n dL_law_776 0 rfl ?_
                                            refine wp_iload_n dL_law_777 3 rfl ?_
                                            refine wp_iconst (v := 4) dL_law_778 (by decide) ?_
                                            refine wp_iadd dL_law_779 ?_
                                            obtain ⟨g780, h⟩ := o_grd h
                                            refine wp_scri dL_law_780 (inb_of g780) ?_
                                            obtain ⟨r781, h781, h⟩ := o_bind h
                                            refine wp_callvI (k := 55) (ci := 10) (c_X10_lie Γ ad (Int32.ofNat (Γ.2.2.2.2 (100 + (v3 + 1).toNatClampNeg))) (Int32.ofNat (Γ.2.2.2.2 (100 + (v3 + 2).toNatClampNeg))) (Int32.ofNat (Γ.2.2.2.2 (100 + (v3 + 3).toNatClampNeg))) (Int32.ofNat (Γ.2.2.2.2 (100 + (v3 + 4).toNatClampNeg))) r757.2.1 r757.2.2 r781 h781) dL_law_781 mlL_97 mwX10_lie miX10_lie rfl rfl rfl rfl (Nat.le_of_ble_eq_true rfl) rfl (by decide) (by decide) ?_
                                            refine wp_icmp_eq 1161 dL_law_784 rfl (fun c784 => ?_) (fun c784 => ?_)
                                            · replace h := o_pos h c784
                                              refine wp_iinc (v := v3 + 6) (lv' := [(0, _), (1, _), (2, _), (3, _)]) dL_law_1161 3 rfl rfl rfl rfl rfl ?_
                                              refine wp_goto 18 dL_law_1164 rfl ?_
                                              refine wp_pick [0, 1, 2, 3] (lv' := [(0, _), (1, _), (2, _), (3, _)]) rfl ?_
                                              exact ih (v3 + 6) r781.2 r757.2.2 r h
                                            · replace h := o_neg h c784
                                              refine wp_iconst (v := 0) dL_law_787 (by decide) ?_
                                              obtain rfl := Option.some.inj h
                                              exact wp_ireturn (ty := .boolean) dL_law_788 rfl rfl ⟨rfl, rfl, rfl, rfl⟩
                                          · replace h := o_neg h e33_18
                                            by_cases e33_19 : ((Int32.ofNat (Γ.2.2.2.2 (100 + v3.toNatClampNeg))) &&& 31) = 19
                                            · replace h := o_pos h e33_19
                                              refine wp_tableIn (off := 756) 789 dL_law_33 (by rw [e33_19]; decide) (by rw [e33_19]; decide) (by rw [e33_19]; rfl) rfl ?_
                                              refine wp_aload_n dL_law_789 1 rfl ?_
                                              refine wp_aload_n dL_law_790 0 rfl ?_
                                              refine wp_iload_n dL_law_791 3 rfl ?_
                                              refine wp_iconst (v := 1) dL_law_792 (by decide) ?_
                                              refine wp_iadd dL_law_793 ?_
                                              obtain ⟨g794, h⟩ := o_grd h
                                              refine wp_scri dL_law_794 (inb_of g794) ?_
                                              refine wp_aload_n dL_law_795 0 rfl ?_
                                              refine wp_iload_n dL_law_796 3 rfl ?_
                                              refine wp_iconst (v := 2) dL_law_797 (by decide) ?_
                                              refine wp_iadd dL_law_798 ?_
                                              obtain ⟨g799, h⟩ := o_grd h
                                              refine wp_scri dL_law_799 (inb_of g799) ?_
                                              refine wp_aload_n dL_law_800 0 rfl ?_
                                              refine wp_iload_n dL_law_801 3 rfl ?_
                                              refine wp_iconst (v := 3) dL_law_802 (by decide) ?_
                                              refine wp_iadd dL_law_803 ?_
                                              obtain ⟨g804, h⟩ := o_grd h
                                              refine wp_scri dL_law_804 (inb_of g804) ?_
                                              refine wp_aload_n dL_law_805 0 rfl ?_
                                              refine wp_iload_n dL_law_806 3 rfl ?_
                                              refine wp_iconst (v := 4) dL_law_807 (by decide) ?_
                                              refine wp_iadd dL_law_808 ?_
                                              obtain ⟨g809, h⟩ := o_grd h
                                              refine wp_scri dL_law_809 (inb_of g809) ?_
                                              obtain ⟨r810, h810, h⟩ := o_bind h
                                              refine wp_callvI (k := 0) (ci := 9) (c_X9_bestLie Γ ad (Int32.ofNat (Γ.2.2.2.2 (100 + (v3 + 1).toNatClampNeg))) (Int32.ofNat (Γ.2.2.2.2 (100 + (v3 + 2).toNatClampNeg))) (Int32.ofNat (Γ.2.2.2.2 (100 + (v3 + 3).toNatClampNeg))) (Int32.ofNat (Γ.2.2.2.2 (100 + (v3 + 4).toNatClampNeg))) I J r810 h810) dL_law_810 mlL_98 mwX9_bestLie miX9_bestLie rfl rfl rfl rfl (Nat.le_of_ble_eq_true rfl) rfl (by decide) (by decide) ?_
                                              refine wp_aload_n dL_law_813 2 rfl ?_
                                              refine wp_aload_n dL_law_814 0 rfl ?_
                                              refine wp_iload_n dL_law_815 3 rfl ?_
                                              refine wp_iconst (v := 1) dL_law_816 (by decide) ?_
                                              refine wp_iadd dL_law_817 ?_
                                              obtain ⟨g818, h⟩ := o_grd h
                                              refine wp_scri dL_law_818 (inb_of g818) ?_
                                              refine wp_aload_n dL_law_819 0 rfl ?_
                                              refine wp_iload_n dL_law_820 3 rfl ?_
                                              refine wp_iconst (v := 2) dL_law_821 (by decide) ?_
                                              refine wp_iadd dL_law_822 ?_
                                              obtain ⟨g823, h⟩ := o_grd h
                                              refine wp_scri dL_law_823 (inb_of g823) ?_
                                              refine wp_aload_n dL_law_824 0 rfl ?_
                                              refine wp_iload_n dL_law_825 3 rfl ?_
                                              refine wp_iconst (v := 3) dL_law_826 (by decide) ?_
                                              refine wp_iadd dL_law_827 ?_
                                              obtain ⟨g828, h⟩ := o_grd h
                                              refine wp_scri dL_law_828 (inb_of g828) ?_
                                              refine wp_aload_n dL_law_829 0 rfl ?_
                                              refine wp_iload_n dL_law_830 3 rfl ?_
                                              refine wp_iconst (v := 4) dL_law_831 (by decide) ?_
                                              refine wp_iadd dL_law_832 ?_
                                              obtain ⟨g833, h⟩ := o_grd h
                                              refine wp_scri dL_law_833 (inb_of g833) ?_
                                              obtain ⟨r834, h834, h⟩ := o_bind h
                                              refine wp_callvI (k := 55) (ci := 10) (c_X10_bestLie Γ ad (Int32.ofNat (Γ.2.2.2.2 (100 + (v3 + 1).toNatClampNeg))) (Int32.ofNat (Γ.2.2.2.2 (100 + (v3 + 2).toNatClampNeg))) (Int32.ofNat (Γ.2.2.2.2 (100 + (v3 + 3).toNatClampNeg))) (Int32.ofNat (Γ.2.2.2.2 (100 + (v3 + 4).toNatClampNeg))) r810.2.1 r810.2.2 r834 h834) dL_law_834 mlL_101 mwX10_bestLie miX10_bestLie rfl rfl rfl rfl (Nat.le_of_ble_eq_true rfl) rfl (by decide) (by decide) ?_
                                              refine wp_icmp_eq 1161 dL_law_837 rfl (fun c837 => ?_) (fun c837 => ?_)
                                              · replace h := o_pos h c837
                                                refine wp_iinc (v := v3 + 6) (lv' := [(0, _), (1, _), (2, _), (3, _)]) dL_law_1161 3 rfl rfl rfl rfl rfl ?_
                                                refine wp_goto 18 dL_law_1164 rfl ?_
                                                refine wp_pick [0, 1, 2, 3] (lv' := [(0, _), (1, _), (2, _), (3, _)]) rfl ?_
                                                exact ih (v3 + 6) r834.2 r810.2.2 r h
                                              · replace h := o_neg h c837
                                                refine wp_iconst (v := 0) dL_law_840 (by decide) ?_
                                                obtain rfl := Option.some.inj h
                                                exact wp_ireturn (ty := .boolean) dL_law_841 rfl rfl ⟨rfl, rfl, rfl, rfl⟩
                                            · replace h := o_neg h e33_19
                                              by_cases e33_20 : ((Int32.ofNat (Γ.2.2.2.2 (100 + v3.toNatClampNeg))) &&& 31) = 20
                                              · replace h := o_pos h e33_20
                                                refine wp_tableIn (off := 809) 842 dL_law_33 (by rw [e33_20]; decide) (by rw [e33_20]; decide) (by rw [e33_20]; rfl) rfl ?_
                                                refine wp_aload_n dL_law_842 1 rfl ?_
                                                refine wp_aload_n dL_law_843 0 rfl ?_
                                                refine wp_iload_n dL_law_844 3 rfl ?_
                                                refine wp_iconst (v := 1) dL_law_845 (by decide) ?_
                                                refine wp_iadd dL_law_846 ?_
                                                obtain ⟨g847, h⟩ := o_grd h
                                                refine wp_scri dL_law_847 (inb_of g847) ?_
                                                refine wp_aload_n dL_law_848 0 rfl ?_
                                                refine wp_iload_n dL_law_849 3 rfl ?_
                                                refine wp_iconst (v := 2) dL_law_850 (by decide) ?_
                                                refine wp_iadd dL_law_851 ?_
                                                obtain ⟨g852, h⟩ := o_grd h
                                                refine wp_scri dL_law_852 (inb_of g852) ?_
                                                refine wp_aload_n dL_law_853 0 rfl ?_
                                                refine wp_iload_n dL_law_854 3 rfl ?_
                                                refine wp_iconst (v := 3) dL_law_855 (by decide) ?_
                                                refine wp_iadd dL_law_856 ?_
                                                obtain ⟨g857, h⟩ := o_grd h
                                                refine wp_scri dL_law_857 (inb_of g857) ?_
                                                refine wp_aload_n dL_law_858 0 rfl ?_
                                                refine wp_iload_n dL_law_859 3 rfl ?_
                                                refine wp_iconst (v := 4) dL_law_860 (by decide) ?_
                                                refine wp_iadd dL_law_861 ?_
                                                obtain ⟨g862, h⟩ := o_grd h
                                                refine wp_scri dL_law_862 (inb_of g862) ?_
                                                refine wp_if_eq 870 dL_law_863 rfl (fun c863 => ?_) (fun c863 => ?_)
                                                · replace h := o_pos h c863
                                                  refine wp_iconst (v := 0) dL_law_870 (by decide) ?_
                                                  obtain ⟨r871, h871, h⟩ := o_bind h
                                                  refine wp_callvI (k := 0) (ci := 9) (c_X9_seen Γ ad (Int32.ofNat (Γ.2.2.2.2 (100 + (v3 + 1).toNatClampNeg))) (Int32.ofNat (Γ.2.2.2.2 (100 + (v3 + 2).toNatClampNeg))) (Int32.ofNat (Γ.2.2.2.2 (100 + (v3 + 3).toNatClampNeg))) 0 I J r871 h871) dL_law_871 mlL_102 mwX9_seen miX9_seen rfl rfl rfl rfl (Nat.le_of_ble_eq_true rfl) rfl (by decide) (by decide) ?_
                                                  refine wp_aload_n dL_law_874 2 rfl ?_
                                                  refine wp_aload_n dL_law_875 0 rfl ?_
                                                  refine wp_iload_n dL_law_876 3 rfl ?_
                                                  refine wp_iconst (v := 1) dL_law_877 (by decide) ?_
                                                  refine wp_iadd dL_law_878 ?_
                                                  obtain ⟨g879, h⟩ := o_grd h
                                                  refine wp_scri dL_law_879 (inb_of g879) ?_
                                                  refine wp_aload_n dL_law_880 0 rfl ?_
                                                  refine wp_iload_n dL_law_881 3 rfl ?_
                                                  refine wp_iconst (v := 2) dL_law_882 (by decide) ?_
                                                  refine wp_iadd dL_law_883 ?_
                                                  obtain ⟨g884, h⟩ := o_grd h
                                                  refine wp_scri dL_law_884 (inb_of g884) ?_
                                                  refine wp_aload_n dL_law_885 0 rfl ?_
                                                  refine wp_iload_n dL_law_886 3 rfl ?_
                                                  refine wp_iconst (v := 3) dL_law_887 (by decide) ?_
                                                  refine wp_iadd dL_law_888 ?_
                                                  obtain ⟨g889, h⟩ := o_grd h
                                                  refine wp_scri dL_law_889 (inb_of g889) ?_
                                                  refine wp_aload_n dL_law_890 0 rfl ?_
                                                  refine wp_iload_n dL_law_891 3 rfl ?_
                                                  refine wp_iconst (v := 4) dL_law_892 (by decide) ?_
                                                  refine wp_iadd dL_law_893 ?_
                                                  obtain ⟨g894, h⟩ := o_grd h
                                                  refine wp_scri dL_law_894 (inb_of g894) ?_
                                                  refine wp_if_eq 902 dL_law_895 rfl (fun c895 => ?_) (fun c895 => ?_)
                                                  · replace h := o_pos h c895
                                                    refine wp_iconst (v := 0) dL_law_902 (by decide) ?_
                                                    obtain ⟨r903, h903, h⟩ := o_bind h
                                                    refine wp_callvI (k := 55) (ci := 10) (c_X10_seen Γ ad (Int32.ofNat (Γ.2.2.2.2 (100 + (v3 + 1).toNatClampNeg))) (Int32.ofNat (Γ.2.2.2.2 (100 + (v3 + 2).toNatClampNeg))) (Int32.ofNat (Γ.2.2.2.2 (100 + (v3 + 3).toNatClampNeg))) 0 r871.2 J r903 h903) dL_law_903 mlL_106 mwX10_seen miX10_seen rfl rfl rfl rfl (Nat.le_of_ble_eq_true rfl) rfl (by decide) (by decide) ?_
                                                    refine wp_icmp_eq 1161 dL_law_906 rfl (fun c906 => ?_) (fun c906 => ?_)
                                                    · replace h := o_pos h c906
                                                      refine wp_iinc (v := v3 + 6) (lv' := [(0, _), (1, _), (2, _), (3, _)]) dL_law_1161 3 rfl rfl rfl rfl rfl ?_
                                                      refine wp_goto 18 dL_law_1164 rfl ?_
                                                      refine wp_pick [0, 1, 2, 3] (lv' := [(0, _), (1, _), (2, _), (3, _)]) rfl ?_
                                                      exact ih (v3 + 6) r903.2 J r h
                                                    · replace h := o_neg h c906
                                                      refine wp_iconst (v := 0) dL_law_909 (by decide) ?_
                                                      obtain rfl := Option.some.inj h
                                                      exact wp_ireturn (ty := .boolean) dL_law_910 rfl rfl ⟨rfl, rfl, rfl, rfl⟩
                                                  · replace h := o_neg h c895
                                                    refine wp_iconst (v := 1) dL_law_898 (by decide) ?_
                                                    refine wp_goto 903 dL_law_899 rfl ?_
                                                    obtain ⟨r903, h903, h⟩ := o_bind h
                                                    refine wp_callvI (k := 55) (ci := 10) (c_X10_seen Γ ad (Int32.ofNat (Γ.2.2.2.2 (100 + (v3 + 1).toNatClampNeg))) (Int32.ofNat (Γ.2.2.2.2 (100 + (v3 + 2).toNatClampNeg))) (Int32.ofNat (Γ.2.2.2.2 (100 + (v3 + 3).toNatClampNeg))) 1 r871.2 J r903 h903) dL_law_903 mlL_106 mwX10_seen miX10_seen rfl rfl rfl rfl (Nat.le_of_ble_eq_true rfl) rfl (by decide) (by decide) ?_
                                                    refine wp_icmp_eq 1161 dL_law_906 rfl (fun c906 => ?_) (fun c906 => ?_)
                                                    · replace h := o_pos h c906
                                                      refine wp_iinc (v := v3 + 6) (lv' := [(0, _), (1, _), (2, _), (3, _)]) dL_law_1161 3 rfl rfl rfl rfl rfl ?_
                                                      refine wp_goto 18 dL_law_1164 rfl ?_
                                                      refine wp_pick [0, 1, 2, 3] (lv' := [(0, _), (1, _), (2, _), (3, _)]) rfl ?_
                                                      exact ih (v3 + 6) r903.2 J r h
                                                    · replace h := o_neg h c906
                                                      refine wp_iconst (v := 0) dL_law_909 (by decide) ?_
                                                      obtain rfl := Option.some.inj h
                                                      exact wp_ireturn (ty := .boolean) dL_law_910 rfl rfl ⟨rfl, rfl, rfl, rfl⟩
                                                · replace h := o_neg h c863
                                                  refine wp_iconst (v := 1) dL_law_866 (by decide) ?_
                                                  refine wp_goto 871 dL_law_867 rfl ?_
                                                  obtain ⟨r871, h871, h⟩ := o_bind h
                                                  refine wp_callvI (k := 0) (ci := 9) (c_X9_seen Γ ad (Int32.ofNat (Γ.2.2.2.2 (100 + (v3 + 1).toNatClampNeg))) (Int32.ofNat (Γ.2.2.2.2 (100 + (v3 + 2).toNatClampNeg))) (Int32.ofNat (Γ.2.2.2.2 (100 + (v3 + 3).toNatClampNeg))) 1 I J r871 h871) dL_law_871 mlL_102 mwX9_seen miX9_seen rfl rfl rfl rfl (Nat.le_of_ble_eq_true rfl) rfl (by decide) (by decide) ?_
                                                  refine wp_aload_n dL_law_874 2 rfl ?_
                                                  refine wp_aload_n dL_law_875 0 rfl ?_
                                                  refine wp_iload_n dL_law_876 3 rfl ?_
                                                  refine wp_iconst (v := 1) dL_law_877 (by decide) ?_
                                                  refine wp_iadd dL_law_878 ?_
                                                  obtain ⟨g879, h⟩ := o_grd h
                                                  refine wp_scri dL_law_879 (inb_of g879) ?_
                                                  refine wp_aload_n dL_law_880 0 rfl ?_
                                                  refine wp_iload_n dL_law_881 3 rfl ?_
                                                  refine wp_iconst (v := 2) dL_law_882 (by decide) ?_
                                                  refine wp_iadd dL_law_883 ?_
                                                  obtain ⟨g884, h⟩ := o_grd h
                                                  refine wp_scri dL_law_884 (inb_of g884) ?_
                                                  refine wp_aload_n dL_law_885 0 rfl ?_
                                                  refine wp_iload_n dL_law_886 3 rfl ?_
                                                  refine wp_iconst (v := 3) dL_law_887 (by decide) ?_
                                                  refine wp_iadd dL_law_888 ?_
                                                  obtain ⟨g889, h⟩ := o_grd h
                                                  refine wp_scri dL_law_889 (inb_of g889) ?_
                                                  refine wp_aload_n dL_law_890 0 rfl ?_
                                                  refine wp_iload_n dL_law_891 3 rfl ?_
                                                  refine wp_iconst (v := 4) dL_law_892 (by decide) ?_
                                                  refine wp_iadd dL_law_893 ?_
                                                  obtain ⟨g894, h⟩ := o_grd h
                                                  refine wp_scri dL_law_894 (inb_of g894) ?_
                                                  refine wp_if_eq 902 dL_law_895 rfl (fun c895 => ?_) (fun c895 => ?_)
                                                  · replace h := o_pos h c895
                                                    refine wp_iconst (v := 0) dL_law_902 (by decide) ?_
                                                    obtain ⟨r903, h903, h⟩ := o_bind h
                                                    refine wp_callvI (k := 55) (ci := 10) (c_X10_seen Γ ad (Int32.ofNat (Γ.2.2.2.2 (100 + (v3 + 1).toNatClampNeg))) (Int32.ofNat (Γ.2.2.2.2 (100 + (v3 + 2).toNatClampNeg))) (Int32.ofNat (Γ.2.2.2.2 (100 + (v3 + 3).toNatClampNeg))) 0 r871.2 J r903 h903) dL_law_903 mlL_106 mwX10_seen miX10_seen rfl rfl rfl rfl (Nat.le_of_ble_eq_true rfl) rfl (by decide) (by decide) ?_
                                                    refine wp_icmp_eq 1161 dL_law_906 rfl (fun c906 => ?_) (fun c906 => ?_)
                                                    · replace h := o_pos h c906
                                                      refine wp_iinc (v := v3 + 6) (lv' := [(0, _), (1, _), (2, _), (3, _)]) dL_law_1161 3 rfl rfl rfl rfl rfl ?_
                                                      refine wp_goto 18 dL_law_1164 rfl ?_
                                                      refine wp_pick [0, 1, 2, 3] (lv' := [(0, _), (1, _), (2, _), (3, _)]) rfl ?_
                                                      exact ih (v3 + 6) r903.2 J r h
                                                    · replace h := o_neg h c906
                                                      refine wp_iconst (v := 0) dL_law_909 (by decide) ?_
                                                      obtain rfl := Option.some.inj h
                                                      exact wp_ireturn (ty := .boolean) dL_law_910 rfl rfl ⟨rfl, rfl, rfl, rfl⟩
                                                  · replace h := o_neg h c895
                                                    refine wp_iconst (v := 1) dL_law_898 (by decide) ?_
                                                    refine wp_goto 903 dL_law_899 rfl ?_
                                                    obtain ⟨r903, h903, h⟩ := o_bind h
                                                    refine wp_callvI (k := 55) (ci := 10) (c_X10_seen Γ ad (Int32.ofNat (Γ.2.2.2.2 (100 + (v3 + 1).toNatClampNeg))) (Int32.ofNat (Γ.2.2.2.2 (100 + (v3 + 2).toNatClampNeg))) (Int32.ofNat (Γ.2.2.2.2 (100 + (v3 + 3).toNatClampNeg))) 1 r871.2 J r903 h903) dL_law_903 mlL_106 mwX10_seen miX10_seen rfl rfl rfl rfl (Nat.le_of_ble_eq_true rfl) rfl (by decide) (by decide) ?_
                                                    refine wp_icmp_eq 1161 dL_law_906 rfl (fun c906 => ?_) (fun c906 => ?_)
                                                    · replace h := o_pos h c906
                                                      refine wp_iinc (v := v3 + 6) (lv' := [(0, _), (1, _), (2, _), (3, _)]) dL_law_1161 3 rfl rfl rfl rfl rfl ?_
                                                      refine wp_goto 18 dL_law_1164 rfl ?_
                                                      refine wp_pick [0, 1, 2, 3] (lv' := [(0, _), (1, _), (2, _), (3, _)]) rfl ?_
                                                      exact ih (v3 + 6) r903.2 J r h
                                                    · replace h := o_neg h c906
                                                      refine wp_iconst (v := 0) dL_law_909 (by decide) ?_
                                                      obtain rfl := Option.some.inj h
                                                      exact wp_ireturn (ty := .boolean) dL_law_910 rfl rfl ⟨rfl, rfl, rfl, rfl⟩
                                              · replace h := o_neg h e33_20
                                                by_cases e33_21 : ((Int32.ofNat (Γ.2.2.2.2 (100 + v3.toNatClampNeg))) &&& 31) = 21
                                                · replace h := o_pos h e33_21
                                                  refine wp_tableIn (off := 878) 911 dL_law_33 (by rw [e33_21]; decide) (by rw [e33_21]; decide) (by rw [e33_21]; rfl) rfl ?_
                                                  refine wp_aload_n dL_law_911 1 rfl ?_
                                                  obtain ⟨r912, h912, h⟩ := o_bind h
                                                  refine wp_callvI (k := 0) (ci := 9) (c_X9_forget Γ ad I J r912 h912) dL_law_912 mlL_107 mwX9_forget miX9_forget rfl rfl rfl rfl (Nat.le_of_ble_eq_true rfl) rfl (by decide) (by decide) ?_
                                                  refine wp_aload_n dL_law_915 2 rfl ?_
                                                  obtain ⟨r916, h916, h⟩ := o_bind h
                                                  refine wp_callvI (k := 55) (ci := 10) (c_X10_forget Γ ad r912.2 J r916 h916) dL_law_916 mlL_110 mwX10_forget miX10_forget rfl rfl rfl rfl (Nat.le_of_ble_eq_true rfl) rfl (by decide) (by decide) ?_
                                                  refine wp_icmp_eq 1161 dL_law_919 rfl (fun c919 => ?_) (fun c919 => ?_)
                                                  · replace h := o_pos h c919
                                                    refine wp_iinc (v := v3 + 6) (lv' := [(0, _), (1, _), (2, _), (3, _)]) dL_law_1161 3 rfl rfl rfl rfl rfl ?_
                                                    refine wp_goto 18 dL_law_1164 rfl ?_
                                                    refine wp_pick [0, 1, 2, 3] (lv' := [(0, _), (1, _), (2, _), (3, _)]) rfl ?_
                                                    exact ih (v3 + 6) r916.2 J r h
                                                  · replace h := o_neg h c919
                                                    refine wp_iconst (v := 0) dL_law_922 (by decide) ?_
                                                    obtain rfl := Option.some.inj h
                                                    exact wp_ireturn (ty := .boolean) dL_law_923 rfl rfl ⟨rfl, rfl, rfl, rfl⟩
                                                · replace h := o_neg h e33_21
                                                  by_cases e33_22 : ((Int32.ofNat (Γ.2.2.2.2 (100 + v3.toNatClampNeg))) &&& 31) = 22
                                                  · replace h := o_pos h e33_22
                                                    refine wp_tableIn (off := 891) 924 dL_law_33 (by rw [e33_22]; decide) (by rw [e33_22]; decide) (by rw [e33_22]; rfl) rfl ?_
                                                    refine wp_aload_n dL_law_924 1 rfl ?_
                                                    refine wp_aload_n dL_law_925 0 rfl ?_
                                                    refine wp_iload_n dL_law_926 3 rfl ?_
                                                    refine wp_iconst (v := 1) dL_law_927 (by decide) ?_
                                                    refine wp_iadd dL_law_928 ?_
                                                    obtain ⟨g929, h⟩ := o_grd h
                                                    refine wp_scri dL_law_929 (inb_of g929) ?_
                                                    refine wp_aload_n dL_law_930 0 rfl ?_
                                                    refine wp_iload_n dL_law_931 3 rfl ?_
                                                    refine wp_iconst (v := 2) dL_law_932 (by decide) ?_
                                                    refine wp_iadd dL_law_933 ?_
                                                    obtain ⟨g934, h⟩ := o_grd h
                                                    refine wp_scri dL_law_934 (inb_of g934) ?_
                                                    obtain ⟨r935, h935, h⟩ := o_bind h
                                                    refine wp_callvI (k := 0) (ci := 9) (c_X9_fits Γ ad (Int32.ofNat (Γ.2.2.2.2 (100 + (v3 + 1).toNatClampNeg))) (Int32.ofNat (Γ.2.2.2.2 (100 + (v3 + 2).toNatClampNeg))) I J r935 h935) dL_law_935 mlL_111 mwX9_fits miX9_fits rfl rfl rfl rfl (Nat.le_of_ble_eq_true rfl) rfl (by decide) (by decide) ?_
                                                    refine wp_aload_n dL_law_938 2 rfl ?_
                                                    refine wp_aload_n dL_law_939 0 rfl ?_
                                                    refine wp_iload_n dL_law_940 3 rfl ?_
                                                    refine wp_iconst (v := 1) dL_law_941 (by decide) ?_
                                                    refine wp_iadd dL_law_942 ?_
                                                    obtain ⟨g943, h⟩ := o_grd h
                                                    refine wp_scri dL_law_943 (inb_of g943) ?_
                                                    refine wp_aload_n dL_law_944 0 rfl ?_
                                                    refine wp_iload_n dL_law_945 3 rfl ?_
                                                    refine wp_iconst (v := 2) dL_law_946 (by decide) ?_
                                                    refine wp_iadd dL_law_947 ?_
                                                    obtain ⟨g948, h⟩ := o_grd h
                                                    refine wp_scri dL_law_948 (inb_of g948) ?_
                                                    obtain ⟨r949, h949, h⟩ := o_bind h
                                                    refine wp_callvI (k := 55) (ci := 10) (c_X10_fits Γ ad (Int32.ofNat (Γ.2.2.2.2 (100 + (v3 + 1).toNatClampNeg))) (Int32.ofNat (Γ.2.2.2.2 (100 + (v3 + 2).toNatClampNeg))) I J r949 h949) dL_law_949 mlL_114 mwX10_fits miX10_fits rfl rfl rfl rfl (Nat.le_of_ble_eq_true rfl) rfl (by decide) (by decide) ?_
                                                    refine wp_icmp_eq 1161 dL_law_952 rfl (fun c952 => ?_) (fun c952 => ?_)
                                                    · replace h := o_pos h c952
                                                      refine wp_iinc (v := v3 + 6) (lv' := [(0, _), (1, _), (2, _), (3, _)]) dL_law_1161 3 rfl rfl rfl rfl rfl ?_
                                                      refine wp_goto 18 dL_law_1164 rfl ?_
                                                      refine wp_pick [0, 1, 2, 3] (lv' := [(0, _), (1, _), (2, _), (3, _)]) rfl ?_
                                                      exact ih (v3 + 6) I J r h
                                                    · replace h := o_neg h c952
                                                      refine wp_iconst (v := 0) dL_law_955 (by decide) ?_
                                                      obtain rfl := Option.some.inj h
                                                      exact wp_ireturn (ty := .boolean) dL_law_956 rfl rfl ⟨rfl, rfl, rfl, rfl⟩
                                                  · replace h := o_neg h e33_22
                                                    by_cases e33_23 : ((Int32.ofNat (Γ.2.2.2.2 (100 + v3.toNatClampNeg))) &&& 31) = 23
                                                    · replace h := o_pos h e33_23
                                                      refine wp_tableIn (off := 924) 957 dL_law_33 (by rw [e33_23]; decide) (by rw [e33_23]; decide) (by rw [e33_23]; rfl) rfl ?_
                                                      refine wp_aload_n dL_law_957 1 rfl ?_
                                                      refine wp_aload_n dL_law_958 0 rfl ?_
                                                      refine wp_iload_n dL_law_959 3 rfl ?_
                                                      refine wp_iconst (v := 1) dL_law_960 (by decide) ?_
                                                      refine wp_iadd dL_law_961 ?_
                                                      obtain ⟨g962, h⟩ := o_grd h
                                                      refine wp_scri dL_law_962 (inb_of g962) ?_
                                                      refine wp_aload_n dL_law_963 0 rfl ?_
                                                      refine wp_iload_n dL_law_964 3 rfl ?_
                                                      refine wp_iconst (v := 2) dL_law_965 (by decide) ?_
                                                      refine wp_iadd dL_law_966 ?_
                                                      obtain ⟨g967, h⟩ := o_grd h
                                                      refine wp_scri dL_law_967 (inb_of g967) ?_
                                                      obtain ⟨r968, h968, h⟩ := o_bind h
                                                      refine wp_callvI (k := 0) (ci := 9) (c_X9_wentFor Γ ad (Int32.ofNat (Γ.2.2.2.2 (100 + (v3 + 1).toNatClampNeg))) (Int32.ofNat (Γ.2.2.2.2 (100 + (v3 + 2).toNatClampNeg))) I J r968 h968) dL_law_968 mlL_115 mwX9_wentFor miX9_wentFor rfl rfl rfl rfl (Nat.le_of_ble_eq_true rfl) rfl (by decide) (by decide) ?_
                                                      refine wp_aload_n dL_law_971 2 rfl ?_
                                                      refine wp_aload_n dL_law_972 0 rfl ?_
                                                      refine wp_iload_n dL_law_973 3 rfl ?_
                                                      refine wp_iconst (v := 1) dL_law_974 (by decide) ?_
                                                      refine wp_iadd dL_law_975 ?_
                                                      obtain ⟨g976, h⟩ := o_grd h
                                                      refine wp_scri dL_law_976 (inb_of g976) ?_
                                                      refine wp_aload_n dL_law_977 0 rfl ?_
                                                      refine wp_iload_n dL_law_978 3 rfl ?_
                                                      refine wp_iconst (v := 2) dL_law_979 (by decide) ?_
                                                      refine wp_iadd dL_law_980 ?_
                                                      obtain ⟨g981, h⟩ := o_grd h
                                                      refine wp_scri dL_law_981 (inb_of g981) ?_
                                                      obtain ⟨r982, h982, h⟩ := o_bind h
                                                      refine wp_callvI (k := 55) (ci := 10) (c_X10_wentFor Γ ad (Int32.ofNat (Γ.2.2.2.2 (100 + (v3 + 1).toNatClampNeg))) (Int32.ofNat (Γ.2.2.2.2 (100 + (v3 + 2).toNatClampNeg))) r968.2.1 r968.2.2 r982 h982) dL_law_982 mlL_118 mwX10_wentFor miX10_wentFor rfl rfl rfl rfl (Nat.le_of_ble_eq_true rfl) rfl (by decide) (by decide) ?_
                                                      refine wp_icmp_eq 1161 dL_law_985 rfl (fun c985 => ?_) (fun c985 => ?_)
                                                      · replace h := o_pos h c985
                                                        refine wp_iinc (v := v3 + 6) (lv' := [(0, _), (1, _), (2, _), (3, _)]) dL_law_1161 3 rfl rfl rfl rfl rfl ?_
                                                        refine wp_goto 18 dL_law_1164 rfl ?_
                                                        refine wp_pick [0, 1, 2, 3] (lv' := [(0, _), (1, _), (2, _), (3, _)]) rfl ?_
                                                        exact ih (v3 + 6) r968.2.1 r982.2 r h
                                                      · replace h := o_neg h c985
                                                        refine wp_iconst (v := 0) dL_law_988 (by decide) ?_
                                                        obtain rfl := Option.some.inj h
                                                        exact wp_ireturn (ty := .boolean) dL_law_989 rfl rfl ⟨rfl, rfl, rfl, rfl⟩
                                                    · replace h := o_neg h e33_23
                                                      by_cases e33_24 : ((Int32.ofNat (Γ.2.2.2.2 (100 + v3.toNatClampNeg))) &&& 31) = 24
                                                      · replace h := o_pos h e33_24
                                                        refine wp_tableIn (off := 957) 990 dL_law_33 (by rw [e33_24]; decide) (by rw [e33_24]; decide) (by rw [e33_24]; rfl) rfl ?_
                                                        refine wp_aload_n dL_law_990 1 rfl ?_
                                                        refine wp_aload_n dL_law_991 0 rfl ?_
                                                        refine wp_iload_n dL_law_992 3 rfl ?_
                                                        refine wp_iconst (v := 1) dL_law_993 (by decide) ?_
                                                        refine wp_iadd dL_law_994 ?_
                                                        obtain ⟨g995, h⟩ := o_grd h
                                                        refine wp_scri dL_law_995 (inb_of g995) ?_
                                                        obtain ⟨r996, h996, h⟩ := o_bind h
                                                        refine wp_callvI (k := 0) (ci := 9) (c_X9_meetings Γ ad (Int32.ofNat (Γ.2.2.2.2 (100 + (v3 + 1).toNatClampNeg))) I J r996 h996) dL_law_996 mlL_119 mwX9_meetings miX9_meetings rfl rfl rfl rfl (Nat.le_of_ble_eq_true rfl) rfl (by decide) (by decide) ?_
                                                        refine wp_aload_n dL_law_999 2 rfl ?_
                                                        refine wp_aload_n dL_law_1000 0 rfl ?_
                                                        refine wp_iload_n dL_law_1001 3 rfl ?_
                                                        refine wp_iconst (v := 1) dL_law_1002 (by decide) ?_
                                                        refine wp_iadd dL_law_1003 ?_
                                                        obtain ⟨g1004, h⟩ := o_grd h
                                                        refine wp_scri dL_law_1004 (inb_of g1004) ?_
                                                        obtain ⟨r1005, h1005, h⟩ := o_bind h
                                                        refine wp_callvI (k := 55) (ci := 10) (c_X10_meetings Γ ad (Int32.ofNat (Γ.2.2.2.2 (100 + (v3 + 1).toNatClampNeg))) r996.2 J r1005 h1005) dL_law_1005 mlL_122 mwX10_meetings miX10_meetings rfl rfl rfl rfl (Nat.le_of_ble_eq_true rfl) rfl (by decide) (by decide) ?_
                                                        refine wp_icmp_eq 1161 dL_law_1008 rfl (fun c1008 => ?_) (fun c1008 => ?_)
                                                        · replace h := o_pos h c1008
                                                          refine wp_iinc (v := v3 + 6) (lv' := [(0, _), (1, _), (2, _), (3, _)]) dL_law_1161 3 rfl rfl rfl rfl rfl ?_
                                                          refine wp_goto 18 dL_law_1164 rfl ?_
                                                          refine wp_pick [0, 1, 2, 3] (lv' := [(0, _), (1, _), (2, _), (3, _)]) rfl ?_
                                                          exact ih (v3 + 6) r1005.2 J r h
                                                        · replace h := o_neg h c1008
                                                          refine wp_iconst (v := 0) dL_law_1011 (by decide) ?_
                                                          obtain rfl := Option.some.inj h
                                                          exact wp_ireturn (ty := .boolean) dL_law_1012 rfl rfl ⟨rfl, rfl, rfl, rfl⟩
                                                      · replace h := o_neg h e33_24
                                                        by_cases e33_25 : ((Int32.ofNat (Γ.2.2.2.2 (100 + v3.toNatClampNeg))) &&& 31) = 25
                                                        · replace h := o_pos h e33_25
                                                          refine wp_tableIn (off := 980) 1013 dL_law_33 (by rw [e33_25]; decide) (by rw [e33_25]; decide) (by rw [e33_25]; rfl) rfl ?_
                                                          refine wp_aload_n dL_law_1013 1 rfl ?_
                                                          refine wp_aload_n dL_law_1014 0 rfl ?_
                                                          refine wp_iload_n dL_law_1015 3 rfl ?_
                                                          refine wp_iconst (v := 1) dL_law_1016 (by decide) ?_
                                                          refine wp_iadd dL_law_1017 ?_
                                                          obtain ⟨g1018, h⟩ := o_grd h
                                                          refine wp_scri dL_law_1018 (inb_of g1018) ?_
                                                          refine wp_aload_n dL_law_1019 0 rfl ?_
                                                          refine wp_iload_n dL_law_1020 3 rfl ?_
                                                          refine wp_iconst (v := 2) dL_law_1021 (by decide) ?_
                                                          refine wp_iadd dL_law_1022 ?_
                                                          obtain ⟨g1023, h⟩ := o_grd h
                                                          refine wp_scri dL_law_1023 (inb_of g1023) ?_
                                                          refine wp_aload_n dL_law_1024 0 rfl ?_
                                                          refine wp_iload_n dL_law_1025 3 rfl ?_
                                                          refine wp_iconst (v := 3) dL_law_1026 (by decide) ?_
                                                          refine wp_iadd dL_law_1027 ?_
                                                          obtain ⟨g1028, h⟩ := o_grd h
                                                          refine wp_scri dL_law_1028 (inb_of g1028) ?_
                                                          refine wp_aload_n dL_law_1029 0 rfl ?_
                                                          refine wp_iload_n dL_law_1030 3 rfl ?_
                                                          refine wp_iconst (v := 4) dL_law_1031 (by decide) ?_
                                                          refine wp_iadd dL_law_1032 ?_
                                                          obtain ⟨g1033, h⟩ := o_grd h
                                                          refine wp_scri dL_law_1033 (inb_of g1033) ?_
                                                          obtain ⟨r1034, h1034, h⟩ := o_bind h
                                                          refine wp_callvI (k := 0) (ci := 9) (c_X9_write Γ ad (Int32.ofNat (Γ.2.2.2.2 (100 + (v3 + 1).toNatClampNeg))) (Int32.ofNat (Γ.2.2.2.2 (100 + (v3 + 2).toNatClampNeg))) (Int32.ofNat (Γ.2.2.2.2 (100 + (v3 + 3).toNatClampNeg))) (Int32.ofNat (Γ.2.2.2.2 (100 + (v3 + 4).toNatClampNeg))) I J r1034 h1034) dL_law_1034 mlL_123 mwX9_write miX9_write rfl rfl rfl rfl (Nat.le_of_ble_eq_true rfl) rfl (by decide) (by decide) ?_
                                                          refine wp_aload_n dL_law_1037 2 rfl ?_
                                                          refine wp_aload_n dL_law_1038 0 rfl ?_
                                                          refine wp_iload_n dL_law_1039 3 rfl ?_
                                                          refine wp_iconst (v := 1) dL_law_1040 (by decide) ?_
                                                          refine wp_iadd dL_law_1041 ?_
                                                          obtain ⟨g1042, h⟩ := o_grd h
                                                          refine wp_scri dL_law_1042 (inb_of g1042) ?_
                                                          refine wp_aload_n dL_law_1043 0 rfl ?_
                                                          refine wp_iload_n dL_law_1044 3 rfl ?_
                                                          refine wp_iconst (v := 2) dL_law_1045 (by decide) ?_
                                                          refine wp_iadd dL_law_1046 ?_
                                                          obtain ⟨g1047, h⟩ := o_grd h
                                                          refine wp_scri dL_law_1047 (inb_of g1047) ?_
                                                          refine wp_aload_n dL_law_1048 0 rfl ?_
                                                          refine wp_iload_n dL_law_1049 3 rfl ?_
                                                          refine wp_iconst (v := 3) dL_law_1050 (by decide) ?_
                                                          refine wp_iadd dL_law_1051 ?_
                                                          obtain ⟨g1052, h⟩ := o_grd h
                                                          refine wp_scri dL_law_1052 (inb_of g1052) ?_
                                                          refine wp_aload_n dL_law_1053 0 rfl ?_
                                                          refine wp_iload_n dL_law_1054 3 rfl ?_
                                                          refine wp_iconst (v := 4) dL_law_1055 (by decide) ?_
                                                          refine wp_iadd dL_law_1056 ?_
                                                          obtain ⟨g1057, h⟩ := o_grd h
                                                          refine wp_scri dL_law_1057 (inb_of g1057) ?_
                                                          obtain ⟨r1058, h1058, h⟩ := o_bind h
                                                          refine wp_callvI (k := 55) (ci := 10) (c_X10_write Γ ad (Int32.ofNat (Γ.2.2.2.2 (100 + (v3 + 1).toNatClampNeg))) (Int32.ofNat (Γ.2.2.2.2 (100 + (v3 + 2).toNatClampNeg))) (Int32.ofNat (Γ.2.2.2.2 (100 + (v3 + 3).toNatClampNeg))) (Int32.ofNat (Γ.2.2.2.2 (100 + (v3 + 4).toNatClampNeg))) r1034.2 J r1058 h1058) dL_law_1058 mlL_126 mwX10_write miX10_write rfl rfl rfl rfl (Nat.le_of_ble_eq_true rfl) rfl (by decide) (by decide) ?_
                                                          refine wp_icmp_eq 1161 dL_law_1061 rfl (fun c1061 => ?_) (fun c1061 => ?_)
                                                          · replace h := o_pos h c1061
                                                            refine wp_iinc (v := v3 + 6) (lv' := [(0, _), (1, _), (2, _), (3, _)]) dL_law_1161 3 rfl rfl rfl rfl rfl ?_
                                                            refine wp_goto 18 dL_law_1164 rfl ?_
                                                            refine wp_pick [0, 1, 2, 3] (lv' := [(0, _), (1, _), (2, _), (3, _)]) rfl ?_
                                                            exact ih (v3 + 6) r1058.2 J r h
                                                          · replace h := o_neg h c1061
                                                            refine wp_iconst (v := 0) dL_law_1064 (by decide) ?_
                                                            obtain rfl := Option.some.inj h
                                                            exact wp_ireturn (ty := .boolean) dL_law_1065 rfl rfl ⟨rfl, rfl, rfl, rfl⟩
                                                        · replace h := o_neg h e33_25
                                                          by_cases e33_26 : ((Int32.ofNat (Γ.2.2.2.2 (100 + v3.toNatClampNeg))) &&& 31) = 26
                                                          · replace h := o_pos h e33_26
                                                            refine wp_tableIn (off := 1033) 1066 dL_law_33 (by rw [e33_26]; decide) (by rw [e33_26]; decide) (by rw [e33_26]; rfl) rfl ?_
                                                            refine wp_aload_n dL_law_1066 1 rfl ?_
                                                            obtain ⟨r1067, h1067, h⟩ := o_bind h
                                                            refine wp_callvI (k := 0) (ci := 9) (c_X9_tear Γ ad I J r1067 h1067) dL_law_1067 mlL_127 mwX9_tear miX9_tear rfl rfl rfl rfl (Nat.le_of_ble_eq_true rfl) rfl (by decide) (by decide) ?_
                                                            refine wp_aload_n dL_law_1070 2 rfl ?_
                                                            obtain ⟨r1071, h1071, h⟩ := o_bind h
                                                            refine wp_callvI (k := 55) (ci := 10) (c_X10_tear Γ ad r1067.2 J r1071 h1071) dL_law_1071 mlL_130 mwX10_tear miX10_tear rfl rfl rfl rfl (Nat.le_of_ble_eq_true rfl) rfl (by decide) (by decide) ?_
                                                            refine wp_icmp_eq 1161 dL_law_1074 rfl (fun c1074 => ?_) (fun c1074 => ?_)
                                                            · replace h := o_pos h c1074
                                                              refine wp_iinc (v := v3 + 6) (lv' := [(0, _), (1, _), (2, _), (3, _)]) dL_law_1161 3 rfl rfl rfl rfl rfl ?_
                                                              refine wp_goto 18 dL_law_1164 rfl ?_
                                                              refine wp_pick [0, 1, 2, 3] (lv' := [(0, _), (1, _), (2, _), (3, _)]) rfl ?_
                                                              exact ih (v3 + 6) r1071.2 J r h
                                                            · replace h := o_neg h c1074
                                                              refine wp_iconst (v := 0) dL_law_1077 (by decide) ?_
                                                              obtain rfl := Option.some.inj h
                                                              exact wp_ireturn (ty := .boolean) dL_law_1078 rfl rfl ⟨rfl, rfl, rfl, rfl⟩
                                                          · replace h := o_neg h e33_26
                                                            by_cases e33_27 : ((Int32.ofNat (Γ.2.2.2.2 (100 + v3.toNatClampNeg))) &&& 31) = 27
                                                            · replace h := o_pos h e33_27
                                                              refine wp_tableIn (off := 1046) 1079 dL_law_33 (by rw [e33_27]; decide) (by rw [e33_27]; decide) (by rw [e33_27]; rfl) rfl ?_
                                                              refine wp_aload_n dL_law_1079 1 rfl ?_
                                                              obtain ⟨r1080, h1080, h⟩ := o_bind h
                                                              refine wp_callvI (k := 0) (ci := 9) (c_X9_judge Γ ad I J r1080 h1080) dL_law_1080 mlL_131 mwX9_judge miX9_judge rfl rfl rfl rfl (Nat.le_of_ble_eq_true rfl) rfl (by decide) (by decide) ?_
                                                              refine wp_aload_n dL_law_1083 2 rfl ?_
                                                              obtain ⟨r1084, h1084, h⟩ := o_bind h
                                                              refine wp_callvI (k := 55) (ci := 10) (c_X10_judge Γ ad I J r1084 h1084) dL_law_1084 mlL_134 mwX10_judge miX10_judge rfl rfl rfl rfl (Nat.le_of_ble_eq_true rfl) rfl (by decide) (by decide) ?_
                                                              refine wp_icmp_eq 1161 dL_law_1087 rfl (fun c1087 => ?_) (fun c1087 => ?_)
                                                              · replace h := o_pos h c1087
                                                                refine wp_iinc (v := v3 + 6) (lv' := [(0, _), (1, _), (2, _), (3, _)]) dL_law_1161 3 rfl rfl rfl rfl rfl ?_
                                                                refine wp_goto 18 dL_law_1164 rfl ?_
                                                                refine wp_pick [0, 1, 2, 3] (lv' := [(0, _), (1, _), (2, _), (3, _)]) rfl ?_
                                                                exact ih (v3 + 6) I J r h
                                                              · replace h := o_neg h c1087
                                                                refine wp_iconst (v := 0) dL_law_1090 (by decide) ?_
                                                                obtain rfl := Option.some.inj h
                                                                exact wp_ireturn (ty := .boolean) dL_law_1091 rfl rfl ⟨rfl, rfl, rfl, rfl⟩
                                                            · replace h := o_neg h e33_27
                                                              by_cases e33_28 : ((Int32.ofNat (Γ.2.2.2.2 (100 + v3.toNatClampNeg))) &&& 31) = 28
                                                              · replace h := o_pos h e33_28
                                                                refine wp_tableIn (off := 1059) 1092 dL_law_33 (by rw [e33_28]; decide) (by rw [e33_28]; decide) (by rw [e33_28]; rfl) rfl ?_
                                                                refine wp_aload_n dL_law_1092 1 rfl ?_
                                                                refine wp_aload_n dL_law_1093 0 rfl ?_
                                                                refine wp_iload_n dL_law_1094 3 rfl ?_
                                                                refine wp_iconst (v := 1) dL_law_1095 (by decide) ?_
                                                                refine wp_iadd dL_law_1096 ?_
                                                                obtain ⟨g1097, h⟩ := o_grd h
                                                                refine wp_scri dL_law_1097 (inb_of g1097) ?_
                                                                obtain ⟨r1098, h1098, h⟩ := o_bind h
                                                                refine wp_callvI (k := 0) (ci := 9) (c_X9_seed Γ ad (Int32.ofNat (Γ.2.2.2.2 (100 + (v3 + 1).toNatClampNeg))) I J r1098 h1098) dL_law_1098 mlL_135 mwX9_seed miX9_seed rfl rfl rfl rfl (Nat.le_of_ble_eq_true rfl) rfl (by decide) (by decide) ?_
                                                                refine wp_aload_n dL_law_1101 2 rfl ?_
                                                                refine wp_aload_n dL_law_1102 0 rfl ?_
                                                                refine wp_iload_n dL_law_1103 3 rfl ?_
                                                                refine wp_iconst (v := 1) dL_law_1104 (by decide) ?_
                                                                refine wp_iadd dL_law_1105 ?_
                                                                obtain ⟨g1106, h⟩ := o_grd h
                                                                refine wp_scri dL_law_1106 (inb_of g1106) ?_
                                                                obtain ⟨r1107, h1107, h⟩ := o_bind h
                                                                refine wp_callvI (k := 55) (ci := 10) (c_X10_seed Γ ad (Int32.ofNat (Γ.2.2.2.2 (100 + (v3 + 1).toNatClampNeg))) r1098.2 J r1107 h1107) dL_law_1107 mlL_138 mwX10_seed miX10_seed rfl rfl rfl rfl (Nat.le_of_ble_eq_true rfl) rfl (by decide) (by decide) ?_
                                                                refine wp_icmp_eq 1161 dL_law_1110 rfl (fun c1110 => ?_) (fun c1110 => ?_)
                                                                · replace h := o_pos h c1110
                                                                  refine wp_iinc (v := v3 + 6) (lv' := [(0, _), (1, _), (2, _), (3, _)]) dL_law_1161 3 rfl rfl rfl rfl rfl ?_
                                                                  refine wp_goto 18 dL_law_1164 rfl ?_
                                                                  refine wp_pick [0, 1, 2, 3] (lv' := [(0, _), (1, _), (2, _), (3, _)]) rfl ?_
                                                                  exact ih (v3 + 6) r1107.2 J r h
                                                                · replace h := o_neg h c1110
                                                                  refine wp_iconst (v := 0) dL_law_1113 (by decide) ?_
                                                                  obtain rfl := Option.some.inj h
                                                                  exact wp_ireturn (ty := .boolean) dL_law_1114 rfl rfl ⟨rfl, rfl, rfl, rfl⟩
                                                              · replace h := o_neg h e33_28
                                                                by_cases e33_29 : ((Int32.ofNat (Γ.2.2.2.2 (100 + v3.toNatClampNeg))) &&& 31) = 29
                                                                · replace h := o_pos h e33_29
                                                                  refine wp_tableIn (off := 1082) 1115 dL_law_33 (by rw [e33_29]; decide) (by rw [e33_29]; decide) (by rw [e33_29]; rfl) rfl ?_
                                                                  refine wp_aload_n dL_law_1115 1 rfl ?_
                                                                  refine wp_aload_n dL_law_1116 0 rfl ?_
                                                                  refine wp_iload_n dL_law_1117 3 rfl ?_
                                                                  refine wp_iconst (v := 1) dL_law_1118 (by decide) ?_
                                                                  refine wp_iadd dL_law_1119 ?_
                                                                  obtain ⟨g1120, h⟩ := o_grd h
                                                                  refine wp_scri dL_law_1120 (inb_of g1120) ?_
                                                                  obtain ⟨r1121, h1121, h⟩ := o_bind h
                                                                  refine wp_callvI (k := 0) (ci := 9) (c_X9_keep Γ ad (Int32.ofNat (Γ.2.2.2.2 (100 + (v3 + 1).toNatClampNeg))) I J r1121 h1121) dL_law_1121 mlL_139 mwX9_keep miX9_keep rfl rfl rfl rfl (Nat.le_of_ble_eq_true rfl) rfl (by decide) (by decide) ?_
                                                                  refine wp_aload_n dL_law_1124 2 rfl ?_
                                                                  refine wp_aload_n dL_law_1125 0 rfl ?_
                                                                  refine wp_iload_n dL_law_1126 3 rfl ?_
                                                                  refine wp_iconst (v := 1) dL_law_1127 (by decide) ?_
                                                                  refine wp_iadd dL_law_1128 ?_
                                                                  obtain ⟨g1129, h⟩ := o_grd h
                                                                  refine wp_scri dL_law_1129 (inb_of g1129) ?_
                                                                  obtain ⟨r1130, h1130, h⟩ := o_bind h
                                                                  refine wp_callvI (k := 55) (ci := 10) (c_X10_keep Γ ad (Int32.ofNat (Γ.2.2.2.2 (100 + (v3 + 1).toNatClampNeg))) r1121.2 J r1130 h1130) dL_law_1130 mlL_142 mwX10_keep miX10_keep rfl rfl rfl rfl (Nat.le_of_ble_eq_true rfl) rfl (by decide) (by decide) ?_
                                                                  refine wp_icmp_eq 1161 dL_law_1133 rfl (fun c1133 => ?_) (fun c1133 => ?_)
                                                                  · replace h := o_pos h c1133
                                                                    refine wp_iinc (v := v3 + 6) (lv' := [(0, _), (1, _), (2, _), (3, _)]) dL_law_1161 3 rfl rfl rfl rfl rfl ?_
                                                                    refine wp_goto 18 dL_law_1164 rfl ?_
                                                                    refine wp_pick [0, 1, 2, 3] (lv' := [(0, _), (1, _), (2, _), (3, _)]) rfl ?_
                                                                    exact ih (v3 + 6) r1130.2 J r h
                                                                  · replace h := o_neg h c1133
                                                                    refine wp_iconst (v := 0) dL_law_1136 (by decide) ?_
                                                                    obtain rfl := Option.some.inj h
                                                                    exact wp_ireturn (ty := .boolean) dL_law_1137 rfl rfl ⟨rfl, rfl, rfl, rfl⟩
                                                                · replace h := o_neg h e33_29
                                                                  by_cases e33_30 : ((Int32.ofNat (Γ.2.2.2.2 (100 + v3.toNatClampNeg))) &&& 31) = 30
                                                                  · replace h := o_pos h e33_30
                                                                    refine wp_tableIn (off := 1105) 1138 dL_law_33 (by rw [e33_30]; decide) (by rw [e33_30]; decide) (by rw [e33_30]; rfl) rfl ?_
                                                                    refine wp_aload_n dL_law_1138 1 rfl ?_
                                                                    refine wp_aload_n dL_law_1139 0 rfl ?_
                                                                    refine wp_iload_n dL_law_1140 3 rfl ?_
                                                                    refine wp_iconst (v := 1) dL_law_1141 (by decide) ?_
                                                                    refine wp_iadd dL_law_1142 ?_
                                                                    obtain ⟨g1143, h⟩ := o_grd h
                                                                    refine wp_scri dL_law_1143 (inb_of g1143) ?_
                                                                    obtain ⟨r1144, h1144, h⟩ := o_bind h
                                                                    refine wp_callvI (k := 0) (ci := 9) (c_X9_goBack Γ ad (Int32.ofNat (Γ.2.2.2.2 (100 + (v3 + 1).toNatClampNeg))) I J r1144 h1144) dL_law_1144 mlL_143 mwX9_goBack miX9_goBack rfl rfl rfl rfl (Nat.le_of_ble_eq_true rfl) rfl (by decide) (by decide) ?_
                                                                    refine wp_aload_n dL_law_1147 2 rfl ?_
                                                                    refine wp_aload_n dL_law_1148 0 rfl ?_
                                                                    refine wp_iload_n dL_law_1149 3 rfl ?_
                                                                    refine wp_iconst (v := 1) dL_law_1150 (by decide) ?_
                                                                    refine wp_iadd dL_law_1151 ?_
                                                                    obtain ⟨g1152, h⟩ := o_grd h
                                                                    refine wp_scri dL_law_1152 (inb_of g1152) ?_
                                                                    obtain ⟨r1153, h1153, h⟩ := o_bind h
                                                                    refine wp_callvI (k := 55) (ci := 10) (c_X10_goBack Γ ad (Int32.ofNat (Γ.2.2.2.2 (100 + (v3 + 1).toNatClampNeg))) r1144.2 J r1153 h1153) dL_law_1153 mlL_146 mwX10_goBack miX10_goBack rfl rfl rfl rfl (Nat.le_of_ble_eq_true rfl) rfl (by decide) (by decide) ?_
                                                                    refine wp_icmp_eq 1161 dL_law_1156 rfl (fun c1156 => ?_) (fun c1156 => ?_)
                                                                    · replace h := o_pos h c1156
                                                                      refine wp_iinc (v := v3 + 6) (lv' := [(0, _), (1, _), (2, _), (3, _)]) dL_law_1161 3 rfl rfl rfl rfl rfl ?_
                                                                      refine wp_goto 18 dL_law_1164 rfl ?_
                                                                      refine wp_pick [0, 1, 2, 3] (lv' := [(0, _), (1, _), (2, _), (3, _)]) rfl ?_
                                                                      exact ih (v3 + 6) r1153.2 J r h
                                                                    · replace h := o_neg h c1156
                                                                      refine wp_iconst (v := 0) dL_law_1159 (by decide) ?_
                                                                      obtain rfl := Option.some.inj h
                                                                      exact wp_ireturn (ty := .boolean) dL_law_1160 rfl rfl ⟨rfl, rfl, rfl, rfl⟩
                                                                  · replace h := o_neg h e33_30
                                                                    refine wp_tableOut 1161 dL_law_33 (by have n0 := lv_neT (a := 0) e33_0 (by decide); have n1 := lv_neT (a := 1) e33_1 (by decide); have n2 := lv_neT (a := 2) e33_2 (by decide); have n3 := lv_neT (a := 3) e33_3 (by decide); have n4 := lv_neT (a := 4) e33_4 (by decide); have n5 := lv_neT (a := 5) e33_5 (by decide); have n6 := lv_neT (a := 6) e33_6 (by decide); have n7 := lv_neT (a := 7) e33_7 (by decide); have n8 := lv_neT (a := 8) e33_8 (by decide); have n9 := lv_neT (a := 9) e33_9 (by decide); have n10 := lv_neT (a := 10) e33_10 (by decide); have n11 := lv_neT (a := 11) e33_11 (by decide); have n12 := lv_neT (a := 12) e33_12 (by decide); have n13 := lv_neT (a := 13) e33_13 (by decide); have n14 := lv_neT (a := 14) e33_14 (by decide); have n15 := lv_neT (a := 15) e33_15 (by decide); have n16 := lv_neT (a := 16) e33_16 (by decide); have n17 := lv_neT (a := 17) e33_17 (by decide); have n18 := lv_neT (a := 18) e33_18 (by decide); have n19 := lv_neT (a := 19) e33_19 (by decide); have n20 := lv_neT (a := 20) e33_20 (by decide); have n21 := lv_neT (a := 21) e33_21 (by decide); have n22 := lv_neT (a := 22) e33_22 (by decide); have n23 := lv_neT (a := 23) e33_23 (by decide); have n24 := lv_neT (a := 24) e33_24 (by decide); have n25 := lv_neT (a := 25) e33_25 (by decide); have n26 := lv_neT (a := 26) e33_26 (by decide); have n27 := lv_neT (a := 27) e33_27 (by decide); have n28 := lv_neT (a := 28) e33_28 (by decide); have n29 := lv_neT (a := 29) e33_29 (by decide); have n30 := lv_neT (a := 30) e33_30 (by decide); omega) rfl ?_
                                                                    refine wp_iinc (v := v3 + 6) (lv' := [(0, _), (1, _), (2, _), (3, _)]) dL_law_1161 3 rfl rfl rfl rfl rfl ?_
                                                                    refine wp_goto 18 dL_law_1164 rfl ?_
                                                                    refine wp_pick [0, 1, 2, 3] (lv' := [(0, _), (1, _), (2, _), (3, _)]) rfl ?_
                                                                    exact ih (v3 + 6) I J r h
