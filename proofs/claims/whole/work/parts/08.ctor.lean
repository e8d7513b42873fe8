theorem wp_callvV0 {Γ : GT} {mt mt' : MT} {b : Nat × Nat} {pc : Nat} {lv : List (Nat × Value)} {st rest : List Value} {Δ : DT} {I I' : IT} {J J' : JT} {Q : QT} {idx n : Nat} {As : List Value} {a k ci nn : Nat} (hc : CALL Γ mt' (0, 0) (.ref a :: As) Δ I J (QE none Δ I' J')) (hd : decode mt.2.1 pc = .ok (.invokevirtual idx, 3)) (hl : Cond.methodLink mt.1.cls idx mt'.1 ∈ lw_good) (hm : MW mt' n) (hi : MI mt') (hk : Δ.1[k]? = some (10 + ci, nn)) (ha : Δ.2.2 k = a) (hci : (vwCl[ci]?).map (fun q => q.1) = some mt'.1.cls)
    (hst : st = As.reverse ++ .ref a :: rest) (hcat : (rest.map fun v => v.category).sum ≤ 8) (hn : As.length = n) (hfr : mt'.2.2.2.2.1 + 1 ≤ mt.2.2.2.2.1) (hlo : 8 + (mt'.2.2.1 + 11) + mt'.2.2.2.2.2 ≤ mt.2.2.2.2.2)
    (kk : WP Γ mt b (pc + 3) lv rest Δ I' J' Q) : WP Γ mt b pc lv st Δ I J Q :=
  wp_callv hc hd hl hm hi hk ha hci hst hcat hn hfr hlo ⟨Nat.zero_le _, Nat.zero_le _⟩ (fun r Δ1 I1 J1 hq => by obtain ⟨rfl, rfl, rfl, rfl⟩ := hq; exact kk)
def f_k7_X2_clear (I : IT) : Option (IT) :=
  some (upI (upI (upI (upI (upI I 3 0 0) 3 1 0) 3 2 0) 3 3 12) 3 4 2)
set_option maxRecDepth 100000 in
set_option maxHeartbeats 4000000 in
theorem c_k7_X2_clear (Γ : GT) (ad : Nat → Nat) (R : Nat → Nat → Option Nat) (I : IT) (J : JT) (r : IT) (h : f_k7_X2_clear I = some r) : CALL Γ mX2_clear (0, 0) [.ref (ad 3)] ((LAYc.take 7, R, ad)) I J (QE none ((LAYc.take 7, R, ad)) r J) := by
  refine call_of' (by decide) (Nat.le_of_ble_eq_true rfl) (lv0 := [(0, .ref (ad 3))]) rfl ?_
  unfold f_k7_X2_clear at h
  refine wp_aload_n dX2_clear_0 0 rfl ?_
  refine wp_iconst (v := 0) dX2_clear_1 (by decide) ?_
  refine wp_putI (k := 3) dX2_clear_2 flX2_24 rfl rfl rfl rfl rfl rfl rfl rfl ?_
  refine wp_aload_n dX2_clear_5 0 rfl ?_
  refine wp_iconst (v := 0) dX2_clear_6 (by decide) ?_
  refine wp_putI (k := 3) dX2_clear_7 flX2_28 rfl rfl rfl rfl rfl rfl rfl rfl ?_
  refine wp_aload_n dX2_clear_10 0 rfl ?_
  refine wp_iconst (v := 0) dX2_clear_11 (by decide) ?_
  refine wp_putI (k := 3) dX2_clear_12 flX2_31 rfl rfl rfl rfl rfl rfl rfl rfl ?_
  refine wp_aload_n dX2_clear_15 0 rfl ?_
  refine wp_bipush (v := 12) dX2_clear_16 (by decide) ?_
  refine wp_putI (k := 3) dX2_clear_18 flX2_34 rfl rfl rfl rfl rfl rfl rfl rfl ?_
  refine wp_aload_n dX2_clear_21 0 rfl ?_
  refine wp_iconst (v := 2) dX2_clear_22 (by decide) ?_
  refine wp_putI (k := 3) dX2_clear_23 flX2_37 rfl rfl rfl rfl rfl rfl rfl rfl ?_
  obtain rfl := Option.some.inj h
  exact wp_return dX2_clear_26 rfl ⟨rfl, rfl, rfl, rfl⟩
def f_k12_X2_clear_8 (I : IT) : Option (IT) :=
  some (upI (upI (upI (upI (upI I 8 0 0) 8 1 0) 8 2 0) 8 3 12) 8 4 2)
set_option maxRecDepth 100000 in
set_option maxHeartbeats 4000000 in
theorem c_k12_X2_clear_8 (Γ : GT) (ad : Nat → Nat) (R : Nat → Nat → Option Nat) (I : IT) (J : JT) (r : IT) (h : f_k12_X2_clear_8 I = some r) : CALL Γ mX2_clear (0, 0) [.ref (ad 8)] ((LAYc.take 12, R, ad)) I J (QE none ((LAYc.take 12, R, ad)) r J) := by
  refine call_of' (by decide) (Nat.le_of_ble_eq_true rfl) (lv0 := [(0, .ref (ad 8))]) rfl ?_
  unfold f_k12_X2_clear_8 at h
  refine wp_aload_n dX2_clear_0 0 rfl ?_
  refine wp_iconst (v := 0) dX2_clear_1 (by decide) ?_
  refine wp_putI (k := 8) dX2_clear_2 flX2_24 rfl rfl rfl rfl rfl rfl rfl rfl ?_
  refine wp_aload_n dX2_clear_5 0 rfl ?_
  refine wp_iconst (v := 0) dX2_clear_6 (by decide) ?_
  refine wp_putI (k := 8) dX2_clear_7 flX2_28 rfl rfl rfl rfl rfl rfl rfl rfl ?_
  refine wp_aload_n dX2_clear_10 0 rfl ?_
  refine wp_iconst (v := 0) dX2_clear_11 (by decide) ?_
  refine wp_putI (k := 8) dX2_clear_12 flX2_31 rfl rfl rfl rfl rfl rfl rfl rfl ?_
  refine wp_aload_n dX2_clear_15 0 rfl ?_
  refine wp_bipush (v := 12) dX2_clear_16 (by decide) ?_
  refine wp_putI (k := 8) dX2_clear_18 flX2_34 rfl rfl rfl rfl rfl rfl rfl rfl ?_
  refine wp_aload_n dX2_clear_21 0 rfl ?_
  refine wp_iconst (v := 2) dX2_clear_22 (by decide) ?_
  refine wp_putI (k := 8) dX2_clear_23 flX2_37 rfl rfl rfl rfl rfl rfl rfl rfl ?_
  obtain rfl := Option.some.inj h
  exact wp_return dX2_clear_26 rfl ⟨rfl, rfl, rfl, rfl⟩
def f_k19_J7_fill_53178_13_5 : Nat → Int32 → Int32 → Int32 → IT → Option (IT)
  | 0, _, _, _, _ => none
  | n + 1, v1, v2, v3, I =>
    if v3 ≤ v2 then
      some I
    else
      if inbB v2 14 = true then
        f_k19_J7_fill_53178_13_5 n v1 (v2 + 1) v3 (upI I 13 v2.toNatClampNeg v1)
      else none
def f_k19_J7_fill_53178_13 (a1 : Int32) (I : IT) : Option (IT) :=
  f_k19_J7_fill_53178_13_5 FU a1 0 14 I
set_option maxRecDepth 100000 in
set_option maxHeartbeats 4000000 in
theorem w_k19_J7_fill_53178_13_5 (Γ : GT) (ad : Nat → Nat) (R : Nat → Nat → Option Nat) : ∀ (n : Nat) (v1 : Int32) (v2 : Int32) (v3 : Int32) (I : IT) (J : JT) (r : IT), f_k19_J7_fill_53178_13_5 n v1 v2 v3 I = some r → WP Γ mJ7_fill_53178 (0, 0) 5 [(0, .ref (ad 13)), (1, .int v1), (2, .int v2), (3, .int v3)] [] ((LAYc.take 19, R, ad)) I J (QE none ((LAYc.take 19, R, ad)) r J) := by
  intro n
  induction n with
  | zero => intro v1 v2 v3 I J r h; exact absurd h (by simp [f_k19_J7_fill_53178_13_5])
  | succ n ih =>
    intro v1 v2 v3 I J r h
    rw [f_k19_J7_fill_53178_13_5] at h
    refine wp_iload_n dJ7_fill_53178_5 2 rfl ?_
    refine wp_iload_n dJ7_fill_53178_6 3 rfl ?_
    refine wp_icmp_ge 20 dJ7_fill_53178_7 rfl (fun c7 => ?_) (fun c7 => ?_)
    · replace h := o_pos h c7
      obtain rfl := Option.some.inj h
      exact wp_return dJ7_fill_53178_20 rfl ⟨rfl, rfl, rfl, rfl⟩
    · replace h := o_neg h c7
      refine wp_aload_n dJ7_fill_53178_10 0 rfl ?_
      refine wp_iload_n dJ7_fill_53178_11 2 rfl ?_
      refine wp_iload_n dJ7_fill_53178_12 1 rfl ?_
      obtain ⟨g13, h⟩ := o_grd h
      refine wp_iast (k := 13) dJ7_fill_53178_13 rfl rfl (inb_of g13) ?_
      refine wp_iinc (v := v2 + 1) (lv' := [(0, _), (1, _), (2, _), (3, _)]) dJ7_fill_53178_14 2 rfl rfl rfl rfl rfl ?_
      refine wp_goto 5 dJ7_fill_53178_17 rfl ?_
      refine wp_pick [0, 1, 2, 3] (lv' := [(0, _), (1, _), (2, _), (3, _)]) rfl ?_
      exact ih v1 (v2 + 1) v3 (upI I 13 v2.toNatClampNeg v1) J r h
set_option maxRecDepth 100000 in
set_option maxHeartbeats 4000000 in
theorem c_k19_J7_fill_53178_13 (Γ : GT) (ad : Nat → Nat) (R : Nat → Nat → Option Nat) (a1 : Int32) (I : IT) (J : JT) (r : IT) (h : f_k19_J7_fill_53178_13 a1 I = some r) : CALL Γ mJ7_fill_53178 (0, 0) [.ref (ad 13), .int a1] ((LAYc.take 19, R, ad)) I J (QE none ((LAYc.take 19, R, ad)) r J) := by
  refine call_of' (by decide) (Nat.le_of_ble_eq_true rfl) (lv0 := [(0, .ref (ad 13)), (1, .int a1)]) rfl ?_
  unfold f_k19_J7_fill_53178_13 at h
  refine wp_iconst (v := 0) dJ7_fill_53178_0 (by decide) ?_
  refine wp_istore_n (lv' := [(0, _), (1, _), (2, _)]) dJ7_fill_53178_1 rfl rfl rfl rfl ?_
  refine wp_aload_n dJ7_fill_53178_2 0 rfl ?_
  refine wp_alen (k := 13) (v := 14) dJ7_fill_53178_3 rfl (by decide) rfl (by decide) ?_
  refine wp_istore_n (lv' := [(0, _), (1, _), (2, _), (3, _)]) dJ7_fill_53178_4 rfl rfl rfl rfl ?_
  refine wp_pick [0, 1, 2, 3] (lv' := [(0, _), (1, _), (2, _), (3, _)]) rfl ?_
  exact w_k19_J7_fill_53178_13_5 Γ ad R FU a1 0 14 I J r h
def f_k19_J7_fill_53178_14_5 : Nat → Int32 → Int32 → Int32 → IT → Option (IT)
  | 0, _, _, _, _ => none
  | n + 1, v1, v2, v3, I =>
    if v3 ≤ v2 then
      some I
    else
      if inbB v2 84 = true then
        f_k19_J7_fill_53178_14_5 n v1 (v2 + 1) v3 (upI I 14 v2.toNatClampNeg v1)
      else none
def f_k19_J7_fill_53178_14 (a1 : Int32) (I : IT) : Option (IT) :=
  f_k19_J7_fill_53178_14_5 FU a1 0 84 I
set_option maxRecDepth 100000 in
set_option maxHeartbeats 4000000 in
theorem w_k19_J7_fill_53178_14_5 (Γ : GT) (ad : Nat → Nat) (R : Nat → Nat → Option Nat) : ∀ (n : Nat) (v1 : Int32) (v2 : Int32) (v3 : Int32) (I : IT) (J : JT) (r : IT), f_k19_J7_fill_53178_14_5 n v1 v2 v3 I = some r → WP Γ mJ7_fill_53178 (0, 0) 5 [(0, .ref (ad 14)), (1, .int v1), (2, .int v2), (3, .int v3)] [] ((LAYc.take 19, R, ad)) I J (QE none ((LAYc.take 19, R, ad)) r J) := by
  intro n
  induction n with
  | zero => intro v1 v2 v3 I J r h; exact absurd h (by simp [f_k19_J7_fill_53178_14_5])
  | succ n ih =>
    intro v1 v2 v3 I J r h
    rw [f_k19_J7_fill_53178_14_5] at h
    refine wp_iload_n dJ7_fill_53178_5 2 rfl ?_
    refine wp_iload_n dJ7_fill_53178_6 3 rfl ?_
    refine wp_icmp_ge 20 dJ7_fill_53178_7 rfl (fun c7 => ?_) (fun c7 => ?_)
    · replace h := o_pos h c7
      obtain rfl := Option.some.inj h
      exact wp_return dJ7_fill_53178_20 rfl ⟨rfl, rfl, rfl, rfl⟩
    · replace h := o_neg h c7
      refine wp_aload_n dJ7_fill_53178_10 0 rfl ?_
      refine wp_iload_n dJ7_fill_53178_11 2 rfl ?_
      refine wp_iload_n dJ7_fill_53178_12 1 rfl ?_
      obtain ⟨g13, h⟩ := o_grd h
      refine wp_iast (k := 14) dJ7_fill_53178_13 rfl rfl (inb_of g13) ?_
      refine wp_iinc (v := v2 + 1) (lv' := [(0, _), (1, _), (2, _), (3, _)]) dJ7_fill_53178_14 2 rfl rfl rfl rfl rfl ?_
      refine wp_goto 5 dJ7_fill_53178_17 rfl ?_
      refine wp_pick [0, 1, 2, 3] (lv' := [(0, _), (1, _), (2, _), (3, _)]) rfl ?_
      exact ih v1 (v2 + 1) v3 (upI I 14 v2.toNatClampNeg v1) J r h
set_option maxRecDepth 100000 in
set_option maxHeartbeats 4000000 in
theorem c_k19_J7_fill_53178_14 (Γ : GT) (ad : Nat → Nat) (R : Nat → Nat → Option Nat) (a1 : Int32) (I : IT) (J : JT) (r : IT) (h : f_k19_J7_fill_53178_14 a1 I = some r) : CALL Γ mJ7_fill_53178 (0, 0) [.ref (ad 14), .int a1] ((LAYc.take 19, R, ad)) I J (QE none ((LAYc.take 19, R, ad)) r J) := by
  refine call_of' (by decide) (Nat.le_of_ble_eq_true rfl) (lv0 := [(0, .ref (ad 14)), (1, .int a1)]) rfl ?_
  unfold f_k19_J7_fill_53178_14 at h
  refine wp_iconst (v := 0) dJ7_fill_53178_0 (by decide) ?_
  refine wp_istore_n (lv' := [(0, _), (1, _), (2, _)]) dJ7_fill_53178_1 rfl rfl rfl rfl ?_
  refine wp_aload_n dJ7_fill_53178_2 0 rfl ?_
  refine wp_alen (k := 14) (v := 84) dJ7_fill_53178_3 rfl (by decide) rfl (by decide) ?_
  refine wp_istore_n (lv' := [(0, _), (1, _), (2, _), (3, _)]) dJ7_fill_53178_4 rfl rfl rfl rfl ?_
  refine wp_pick [0, 1, 2, 3] (lv' := [(0, _), (1, _), (2, _), (3, _)]) rfl ?_
  exact w_k19_J7_fill_53178_14_5 Γ ad R FU a1 0 84 I J r h
def f_k19_J7_fill_53178_15_5 : Nat → Int32 → Int32 → Int32 → IT → Option (IT)
  | 0, _, _, _, _ => none
  | n + 1, v1, v2, v3, I =>
    if v3 ≤ v2 then
      some I
    else
      if inbB v2 84 = true then
        f_k19_J7_fill_53178_15_5 n v1 (v2 + 1) v3 (upI I 15 v2.toNatClampNeg v1)
      else none
def f_k19_J7_fill_53178_15 (a1 : Int32) (I : IT) : Option (IT) :=
  f_k19_J7_fill_53178_15_5 FU a1 0 84 I
set_option maxRecDepth 100000 in
set_option maxHeartbeats 4000000 in
theorem w_k19_J7_fill_53178_15_5 (Γ : GT) (ad : Nat → Nat) (R : Nat → Nat → Option Nat) : ∀ (n : Nat) (v1 : Int32) (v2 : Int32) (v3 : Int32) (I : IT) (J : JT) (r : IT), f_k19_J7_fill_53178_15_5 n v1 v2 v3 I = some r → WP Γ mJ7_fill_53178 (0, 0) 5 [(0, .ref (ad 15)), (1, .int v1), (2, .int v2), (3, .int v3)] [] ((LAYc.take 19, R, ad)) I J (QE none ((LAYc.take 19, R, ad)) r J) := by
  intro n
  induction n with
  | zero => intro v1 v2 v3 I J r h; exact absurd h (by simp [f_k19_J7_fill_53178_15_5])
  | succ n ih =>
    intro v1 v2 v3 I J r h
    rw [f_k19_J7_fill_53178_15_5] at h
    refine wp_iload_n dJ7_fill_53178_5 2 rfl ?_
    refine wp_iload_n dJ7_fill_53178_6 3 rfl ?_
    refine wp_icmp_ge 20 dJ7_fill_53178_7 rfl (fun c7 => ?_) (fun c7 => ?_)
    · replace h := o_pos h c7
      obtain rfl := Option.some.inj h
      exact wp_return dJ7_fill_53178_20 rfl ⟨rfl, rfl, rfl, rfl⟩
    · replace h := o_neg h c7
      refine wp_aload_n dJ7_fill_53178_10 0 rfl ?_
      refine wp_iload_n dJ7_fill_53178_11 2 rfl ?_
      refine wp_iload_n dJ7_fill_53178_12 1 rfl ?_
      obtain ⟨g13, h⟩ := o_grd h
      refine wp_iast (k := 15) dJ7_fill_53178_13 rfl rfl (inb_of g13) ?_
      refine wp_iinc (v := v2 + 1) (lv' := [(0, _), (1, _), (2, _), (3, _)]) dJ7_fill_53178_14 2 rfl rfl rfl rfl rfl ?_
      refine wp_goto 5 dJ7_fill_53178_17 rfl ?_
      refine wp_pick [0, 1, 2, 3] (lv' := [(0, _), (1, _), (2, _), (3, _)]) rfl ?_
      exact ih v1 (v2 + 1) v3 (upI I 15 v2.toNatClampNeg v1) J r h
set_option maxRecDepth 100000 in
set_option maxHeartbeats 4000000 in
theorem c_k19_J7_fill_53178_15 (Γ : GT) (ad : Nat → Nat) (R : Nat → Nat → Option Nat) (a1 : Int32) (I : IT) (J : JT) (r : IT) (h : f_k19_J7_fill_53178_15 a1 I = some r) : CALL Γ mJ7_fill_53178 (0, 0) [.ref (ad 15), .int a1] ((LAYc.take 19, R, ad)) I J (QE none ((LAYc.take 19, R, ad)) r J) := by
  refine call_of' (by decide) (Nat.le_of_ble_eq_true rfl) (lv0 := [(0, .ref (ad 15)), (1, .int a1)]) rfl ?_
  unfold f_k19_J7_fill_53178_15 at h
  refine wp_iconst (v := 0) dJ7_fill_53178_0 (by decide) ?_
  refine wp_istore_n (lv' := [(0, _), (1, _), (2, _)]) dJ7_fill_53178_1 rfl rfl rfl rfl ?_
  refine wp_aload_n dJ7_fill_53178_2 0 rfl ?_
  refine wp_alen (k := 15) (v := 84) dJ7_fill_53178_3 rfl (by decide) rfl (by decide) ?_
  refine wp_istore_n (lv' := [(0, _), (1, _), (2, _), (3, _)]) dJ7_fill_53178_4 rfl rfl rfl rfl ?_
  refine wp_pick [0, 1, 2, 3] (lv' := [(0, _), (1, _), (2, _), (3, _)]) rfl ?_
  exact w_k19_J7_fill_53178_15_5 Γ ad R FU a1 0 84 I J r h
def f_k19_J7_fill_53178_16_5 : Nat → Int32 → Int32 → Int32 → IT → Option (IT)
  | 0, _, _, _, _ => none
  | n + 1, v1, v2, v3, I =>
    if v3 ≤ v2 then
      some I
    else
      if inbB v2 6 = true then
        f_k19_J7_fill_53178_16_5 n v1 (v2 + 1) v3 (upI I 16 v2.toNatClampNeg v1)
      else none
def f_k19_J7_fill_53178_16 (a1 : Int32) (I : IT) : Option (IT) :=
  f_k19_J7_fill_53178_16_5 FU a1 0 6 I
set_option maxRecDepth 100000 in
set_option maxHeartbeats 4000000 in
theorem w_k19_J7_fill_53178_16_5 (Γ : GT) (ad : Nat → Nat) (R : Nat → Nat → Option Nat) : ∀ (n : Nat) (v1 : Int32) (v2 : Int32) (v3 : Int32) (I : IT) (J : JT) (r : IT), f_k19_J7_fill_53178_16_5 n v1 v2 v3 I = some r → WP Γ mJ7_fill_53178 (0, 0) 5 [(0, .ref (ad 16)), (1, .int v1), (2, .int v2), (3, .int v3)] [] ((LAYc.take 19, R, ad)) I J (QE none ((LAYc.take 19, R, ad)) r J) := by
  intro n
  induction n with
  | zero => intro v1 v2 v3 I J r h; exact absurd h (by simp [f_k19_J7_fill_53178_16_5])
  | succ n ih =>
    intro v1 v2 v3 I J r h
    rw [f_k19_J7_fill_53178_16_5] at h
    refine wp_iload_n dJ7_fill_53178_5 2 rfl ?_
    refine wp_iload_n dJ7_fill_53178_6 3 rfl ?_
    refine wp_icmp_ge 20 dJ7_fill_53178_7 rfl (fun c7 => ?_) (fun c7 => ?_)
    · replace h := o_pos h c7
      obtain rfl := Option.some.inj h
      exact wp_return dJ7_fill_53178_20 rfl ⟨rfl, rfl, rfl, rfl⟩
    · replace h := o_neg h c7
      refine wp_aload_n dJ7_fill_53178_10 0 rfl ?_
      refine wp_iload_n dJ7_fill_53178_11 2 rfl ?_
      refine wp_iload_n dJ7_fill_53178_12 1 rfl ?_
      obtain ⟨g13, h⟩ := o_grd h
      refine wp_iast (k := 16) dJ7_fill_53178_13 rfl rfl (inb_of g13) ?_
      refine wp_iinc (v := v2 + 1) (lv' := [(0, _), (1, _), (2, _), (3, _)]) dJ7_fill_53178_14 2 rfl rfl rfl rfl rfl ?_
      refine wp_goto 5 dJ7_fill_53178_17 rfl ?_
      refine wp_pick [0, 1, 2, 3] (lv' := [(0, _), (1, _), (2, _), (3, _)]) rfl ?_
      exact ih v1 (v2 + 1) v3 (upI I 16 v2.toNatClampNeg v1) J r h
set_option maxRecDepth 100000 in
set_option maxHeartbeats 4000000 in
theorem c_k19_J7_fill_53178_16 (Γ : GT) (ad : Nat → Nat) (R : Nat → Nat → Option Nat) (a1 : Int32) (I : IT) (J : JT) (r : IT) (h : f_k19_J7_fill_53178_16 a1 I = some r) : CALL Γ mJ7_fill_53178 (0, 0) [.ref (ad 16), .int a1] ((LAYc.take 19, R, ad)) I J (QE none ((LAYc.take 19, R, ad)) r J) := by
  refine call_of' (by decide) (Nat.le_of_ble_eq_true rfl) (lv0 := [(0, .ref (ad 16)), (1, .int a1)]) rfl ?_
  unfold f_k19_J7_fill_53178_16 at h
  refine wp_iconst (v := 0) dJ7_fill_53178_0 (by decide) ?_
  refine wp_istore_n (lv' := [(0, _), (1, _), (2, _)]) dJ7_fill_53178_1 rfl rfl rfl rfl ?_
  refine wp_aload_n dJ7_fill_53178_2 0 rfl ?_
  refine wp_alen (k := 16) (v := 6) dJ7_fill_53178_3 rfl (by decide) rfl (by decide) ?_
  refine wp_istore_n (lv' := [(0, _), (1, _), (2, _), (3, _)]) dJ7_fill_53178_4 rfl rfl rfl rfl ?_
  refine wp_pick [0, 1, 2, 3] (lv' := [(0, _), (1, _), (2, _), (3, _)]) rfl ?_
  exact w_k19_J7_fill_53178_16_5 Γ ad R FU a1 0 6 I J r h
def f_k19_J7_fill_53178_17_5 : Nat → Int32 → Int32 → Int32 → IT → Option (IT)
  | 0, _, _, _, _ => none
  | n + 1, v1, v2, v3, I =>
    if v3 ≤ v2 then
      some I
    else
      if inbB v2 6 = true then
        f_k19_J7_fill_53178_17_5 n v1 (v2 + 1) v3 (upI I 17 v2.toNatClampNeg v1)
      else none
def f_k19_J7_fill_53178_17 (a1 : Int32) (I : IT) : Option (IT) :=
  f_k19_J7_fill_53178_17_5 FU a1 0 6 I
set_option maxRecDepth 100000 in
set_option maxHeartbeats 4000000 in
theorem w_k19_J7_fill_53178_17_5 (Γ : GT) (ad : Nat → Nat) (R : Nat → Nat → Option Nat) : ∀ (n : Nat) (v1 : Int32) (v2 : Int32) (v3 : Int32) (I : IT) (J : JT) (r : IT), f_k19_J7_fill_53178_17_5 n v1 v2 v3 I = some r → WP Γ mJ7_fill_53178 (0, 0) 5 [(0, .ref (ad 17)), (1, .int v1), (2, .int v2), (3, .int v3)] [] ((LAYc.take 19, R, ad)) I J (QE none ((LAYc.take 19, R, ad)) r J) := by
  intro n
  induction n with
  | zero => intro v1 v2 v3 I J r h; exact absurd h (by simp [f_k19_J7_fill_53178_17_5])
  | succ n ih =>
    intro v1 v2 v3 I J r h
    rw [f_k19_J7_fill_53178_17_5] at h
    refine wp_iload_n dJ7_fill_53178_5 2 rfl ?_
    refine wp_iload_n dJ7_fill_53178_6 3 rfl ?_
    refine wp_icmp_ge 20 dJ7_fill_53178_7 rfl (fun c7 => ?_) (fun c7 => ?_)
    · replace h := o_pos h c7
      obtain rfl := Option.some.inj h
      exact wp_return dJ7_fill_53178_20 rfl ⟨rfl, rfl, rfl, rfl⟩
    · replace h := o_neg h c7
      refine wp_aload_n dJ7_fill_53178_10 0 rfl ?_
      refine wp_iload_n dJ7_fill_53178_11 2 rfl ?_
      refine wp_iload_n dJ7_fill_53178_12 1 rfl ?_
      obtain ⟨g13, h⟩ := o_grd h
      refine wp_iast (k := 17) dJ7_fill_53178_13 rfl rfl (inb_of g13) ?_
      refine wp_iinc (v := v2 + 1) (lv' := [(0, _), (1, _), (2, _), (3, _)]) dJ7_fill_53178_14 2 rfl rfl rfl rfl rfl ?_
      refine wp_goto 5 dJ7_fill_53178_17 rfl ?_
      refine wp_pick [0, 1, 2, 3] (lv' := [(0, _), (1, _), (2, _), (3, _)]) rfl ?_
      exact ih v1 (v2 + 1) v3 (upI I 17 v2.toNatClampNeg v1) J r h
set_option maxRecDepth 100000 in
set_option maxHeartbeats 4000000 in
theorem c_k19_J7_fill_53178_17 (Γ : GT) (ad : Nat → Nat) (R : Nat → Nat → Option Nat) (a1 : Int32) (I : IT) (J : JT) (r : IT) (h : f_k19_J7_fill_53178_17 a1 I = some r) : CALL Γ mJ7_fill_53178 (0, 0) [.ref (ad 17), .int a1] ((LAYc.take 19, R, ad)) I J (QE none ((LAYc.take 19, R, ad)) r J) := by
  refine call_of' (by decide) (Nat.le_of_ble_eq_true rfl) (lv0 := [(0, .ref (ad 17)), (1, .int a1)]) rfl ?_
  unfold f_k19_J7_fill_53178_17 at h
  refine wp_iconst (v := 0) dJ7_fill_53178_0 (by decide) ?_
  refine wp_istore_n (lv' := [(0, _), (1, _), (2, _)]) dJ7_fill_53178_1 rfl rfl rfl rfl ?_
  refine wp_aload_n dJ7_fill_53178_2 0 rfl ?_
  refine wp_alen (k := 17) (v := 6) dJ7_fill_53178_3 rfl (by decide) rfl (by decide) ?_
  refine wp_istore_n (lv' := [(0, _), (1, _), (2, _), (3, _)]) dJ7_fill_53178_4 rfl rfl rfl rfl ?_
  refine wp_pick [0, 1, 2, 3] (lv' := [(0, _), (1, _), (2, _), (3, _)]) rfl ?_
  exact w_k19_J7_fill_53178_17_5 Γ ad R FU a1 0 6 I J r h
def f_k19_J7_fill_53178_18_5 : Nat → Int32 → Int32 → Int32 → IT → Option (IT)
  | 0, _, _, _, _ => none
  | n + 1, v1, v2, v3, I =>
    if v3 ≤ v2 then
      some I
    else
      if inbB v2 14 = true then
        f_k19_J7_fill_53178_18_5 n v1 (v2 + 1) v3 (upI I 18 v2.toNatClampNeg v1)
      else none
def f_k19_J7_fill_53178_18 (a1 : Int32) (I : IT) : Option (IT) :=
  f_k19_J7_fill_53178_18_5 FU a1 0 14 I
set_option maxRecDepth 100000 in
set_option maxHeartbeats 4000000 in
theorem w_k19_J7_fill_53178_18_5 (Γ : GT) (ad : Nat → Nat) (R : Nat → Nat → Option Nat) : ∀ (n : Nat) (v1 : Int32) (v2 : Int32) (v3 : Int32) (I : IT) (J : JT) (r : IT), f_k19_J7_fill_53178_18_5 n v1 v2 v3 I = some r → WP Γ mJ7_fill_53178 (0, 0) 5 [(0, .ref (ad 18)), (1, .int v1), (2, .int v2), (3, .int v3)] [] ((LAYc.take 19, R, ad)) I J (QE none ((LAYc.take 19, R, ad)) r J) := by
  intro n
  induction n with
  | zero => intro v1 v2 v3 I J r h; exact absurd h (by simp [f_k19_J7_fill_53178_18_5])
  | succ n ih =>
    intro v1 v2 v3 I J r h
    rw [f_k19_J7_fill_53178_18_5] at h
    refine wp_iload_n dJ7_fill_53178_5 2 rfl ?_
    refine wp_iload_n dJ7_fill_53178_6 3 rfl ?_
    refine wp_icmp_ge 20 dJ7_fill_53178_7 rfl (fun c7 => ?_) (fun c7 => ?_)
    · replace h := o_pos h c7
      obtain rfl := Option.some.inj h
      exact wp_return dJ7_fill_53178_20 rfl ⟨rfl, rfl, rfl, rfl⟩
    · replace h := o_neg h c7
      refine wp_aload_n dJ7_fill_53178_10 0 rfl ?_
      refine wp_iload_n dJ7_fill_53178_11 2 rfl ?_
      refine wp_iload_n dJ7_fill_53178_12 1 rfl ?_
      obtain ⟨g13, h⟩ := o_grd h
      refine wp_iast (k := 18) dJ7_fill_53178_13 rfl rfl (inb_of g13) ?_
      refine wp_iinc (v := v2 + 1) (lv' := [(0, _), (1, _), (2, _), (3, _)]) dJ7_fill_53178_14 2 rfl rfl rfl rfl rfl ?_
      refine wp_goto 5 dJ7_fill_53178_17 rfl ?_
      refine wp_pick [0, 1, 2, 3] (lv' := [(0, _), (1, _), (2, _), (3, _)]) rfl ?_
      exact ih v1 (v2 + 1) v3 (upI I 18 v2.toNatClampNeg v1) J r h
set_option maxRecDepth 100000 in
set_option maxHeartbeats 4000000 in
theorem c_k19_J7_fill_53178_18 (Γ : GT) (ad : Nat → Nat) (R : Nat → Nat → Option Nat) (a1 : Int32) (I : IT) (J : JT) (r : IT) (h : f_k19_J7_fill_53178_18 a1 I = some r) : CALL Γ mJ7_fill_53178 (0, 0) [.ref (ad 18), .int a1] ((LAYc.take 19, R, ad)) I J (QE none ((LAYc.take 19, R, ad)) r J) := by
  refine call_of' (by decide) (Nat.le_of_ble_eq_true rfl) (lv0 := [(0, .ref (ad 18)), (1, .int a1)]) rfl ?_
  unfold f_k19_J7_fill_53178_18 at h
  refine wp_iconst (v := 0) dJ7_fill_53178_0 (by decide) ?_
  refine wp_istore_n (lv' := [(0, _), (1, _), (2, _)]) dJ7_fill_53178_1 rfl rfl rfl rfl ?_
  refine wp_aload_n dJ7_fill_53178_2 0 rfl ?_
  refine wp_alen (k := 18) (v := 14) dJ7_fill_53178_3 rfl (by decide) rfl (by decide) ?_
  refine wp_istore_n (lv' := [(0, _), (1, _), (2, _), (3, _)]) dJ7_fill_53178_4 rfl rfl rfl rfl ?_
  refine wp_pick [0, 1, 2, 3] (lv' := [(0, _), (1, _), (2, _), (3, _)]) rfl ?_
  exact w_k19_J7_fill_53178_18_5 Γ ad R FU a1 0 14 I J r h
def f_k19_X1_begin (I : IT) : Option (IT) :=
  (f_k19_J7_fill_53178_13 0 (upI I 12 1 0)).bind fun r10 =>
  (f_k19_J7_fill_53178_14 0 r10).bind fun r18 =>
  (f_k19_J7_fill_53178_15 0 r18).bind fun r26 =>
  (f_k19_J7_fill_53178_16 (-1) r26).bind fun r34 =>
  (f_k19_J7_fill_53178_17 (-1) r34).bind fun r42 =>
  (f_k19_J7_fill_53178_18 0 r42).bind fun r50 =>
  some r50
set_option maxRecDepth 100000 in
set_option maxHeartbeats 4000000 in
theorem c_k19_X1_begin (Γ : GT) (ad : Nat → Nat) (R : Nat → Nat → Option Nat) (hR12_3 : R 12 3 = some (ad 13)) (hR12_4 : R 12 4 = some (ad 14)) (hR12_5 : R 12 5 = some (ad 15)) (hR12_6 : R 12 6 = some (ad 16)) (hR12_7 : R 12 7 = some (ad 17)) (hR12_8 : R 12 8 = some (ad 18)) (I : IT) (J : JT) (r : IT) (h : f_k19_X1_begin I = some r) : CALL Γ mX1_begin (0, 0) [.ref (ad 12)] ((LAYc.take 19, R, ad)) I J (QE none ((LAYc.take 19, R, ad)) r J) := by
  refine call_of' (by decide) (Nat.le_of_ble_eq_true rfl) (lv0 := [(0, .ref (ad 12))]) rfl ?_
  unfold f_k19_X1_begin at h
  refine wp_aload_n dX1_begin_0 0 rfl ?_
  refine wp_iconst (v := 0) dX1_begin_1 (by decide) ?_
  refine wp_putI (k := 12) dX1_begin_2 flX1_37 rfl rfl rfl rfl rfl rfl rfl rfl ?_
  refine wp_aload_n dX1_begin_5 0 rfl ?_
  refine wp_getR (k := 12) (a' := ad 13) dX1_begin_6 flX1_9 rfl rfl rfl rfl hR12_3 ?_
  refine wp_iconst (v := 0) dX1_begin_9 (by decide) ?_
  obtain ⟨r10, h10, h⟩ := o_bind h
  refine wp_callsV (c_k19_J7_fill_53178_13 Γ ad R 0 (upI I 12 1 0) J r10 h10) dX1_begin_10 mlX1_41 mwJ7_fill_53178 miJ7_fill_53178 rfl (Nat.le_of_ble_eq_true rfl) rfl (by decide) (by decide) ?_
  refine wp_aload_n dX1_begin_13 0 rfl ?_
  refine wp_getR (k := 12) (a' := ad 14) dX1_begin_14 flX1_15 rfl rfl rfl rfl hR12_4 ?_
  refine wp_iconst (v := 0) dX1_begin_17 (by decide) ?_
  obtain ⟨r18, h18, h⟩ := o_bind h
  refine wp_callsV (c_k19_J7_fill_53178_14 Γ ad R 0 r10 J r18 h18) dX1_begin_18 mlX1_41 mwJ7_fill_53178 miJ7_fill_53178 rfl (Nat.le_of_ble_eq_true rfl) rfl (by decide) (by decide) ?_
  refine wp_aload_n dX1_begin_21 0 rfl ?_
  refine wp_getR (k := 12) (a' := ad 15) dX1_begin_22 flX1_18 rfl rfl rfl rfl hR12_5 ?_
  refine wp_iconst (v := 0) dX1_begin_25 (by decide) ?_
  obtain ⟨r26, h26, h⟩ := o_bind h
  refine wp_callsV (c_k19_J7_fill_53178_15 Γ ad R 0 r18 J r26 h26) dX1_begin_26 mlX1_41 mwJ7_fill_53178 miJ7_fill_53178 rfl (Nat.le_of_ble_eq_true rfl) rfl (by decide) (by decide) ?_
  refine wp_aload_n dX1_begin_29 0 rfl ?_
  refine wp_getR (k := 12) (a' := ad 16) dX1_begin_30 flX1_21 rfl rfl rfl rfl hR12_6 ?_
  refine wp_iconst (v := (-1)) dX1_begin_33 (by decide) ?_
  obtain ⟨r34, h34, h⟩ := o_bind h
  refine wp_callsV (c_k19_J7_fill_53178_16 Γ ad R (-1) r26 J r34 h34) dX1_begin_34 mlX1_41 mwJ7_fill_53178 miJ7_fill_53178 rfl (Nat.le_of_ble_eq_true rfl) rfl (by decide) (by decide) ?_
  refine wp_aload_n dX1_begin_37 0 rfl ?_
  refine wp_getR (k := 12) (a' := ad 17) dX1_begin_38 flX1_24 rfl rfl rfl rfl hR12_7 ?_
  refine wp_iconst (v := (-1)) dX1_begin_41 (by decide) ?_
  obtain ⟨r42, h42, h⟩ := o_bind h
  refine wp_callsV (c_k19_J7_fill_53178_17 Γ ad R (-1) r34 J r42 h42) dX1_begin_42 mlX1_41 mwJ7_fill_53178 miJ7_fill_53178 rfl (Nat.le_of_ble_eq_true rfl) rfl (by decide) (by decide) ?_
  refine wp_aload_n dX1_begin_45 0 rfl ?_
  refine wp_getR (k := 12) (a' := ad 18) dX1_begin_46 flX1_27 rfl rfl rfl rfl hR12_8 ?_
  refine wp_iconst (v := 0) dX1_begin_49 (by decide) ?_
  obtain ⟨r50, h50, h⟩ := o_bind h
  refine wp_callsV (c_k19_J7_fill_53178_18 Γ ad R 0 r42 J r50 h50) dX1_begin_50 mlX1_41 mwJ7_fill_53178 miJ7_fill_53178 rfl (Nat.le_of_ble_eq_true rfl) rfl (by decide) (by decide) ?_
  obtain rfl := Option.some.inj h
  exact wp_return dX1_begin_53 rfl ⟨rfl, rfl, rfl, rfl⟩
def f_k27_J7_fill_53178_21_5 : Nat → Int32 → Int32 → Int32 → IT → Option (IT)
  | 0, _, _, _, _ => none
  | n + 1, v1, v2, v3, I =>
    if v3 ≤ v2 then
      some I
    else
      if inbB v2 14 = true then
        f_k27_J7_fill_53178_21_5 n v1 (v2 + 1) v3 (upI I 21 v2.toNatClampNeg v1)
      else none
def f_k27_J7_fill_53178_21 (a1 : Int32) (I : IT) : Option (IT) :=
  f_k27_J7_fill_53178_21_5 FU a1 0 14 I
set_option maxRecDepth 100000 in
set_option maxHeartbeats 4000000 in
theorem w_k27_J7_fill_53178_21_5 (Γ : GT) (ad : Nat → Nat) (R : Nat → Nat → Option Nat) : ∀ (n : Nat) (v1 : Int32) (v2 : Int32) (v3 : Int32) (I : IT) (J : JT) (r : IT), f_k27_J7_fill_53178_21_5 n v1 v2 v3 I = some r → WP Γ mJ7_fill_53178 (0, 0) 5 [(0, .ref (ad 21)), (1, .int v1), (2, .int v2), (3, .int v3)] [] ((LAYc.take 27, R, ad)) I J (QE none ((LAYc.take 27, R, ad)) r J) := by
  intro n
  induction n with
  | zero => intro v1 v2 v3 I J r h; exact absurd h (by simp [f_k27_J7_fill_53178_21_5])
  | succ n ih =>
    intro v1 v2 v3 I J r h
    rw [f_k27_J7_fill_53178_21_5] at h
    refine wp_iload_n dJ7_fill_53178_5 2 rfl ?_
    refine wp_iload_n dJ7_fill_53178_6 3 rfl ?_
    refine wp_icmp_ge 20 dJ7_fill_53178_7 rfl (fun c7 => ?_) (fun c7 => ?_)
    · replace h := o_pos h c7
      obtain rfl := Option.some.inj h
      exact wp_return dJ7_fill_53178_20 rfl ⟨rfl, rfl, rfl, rfl⟩
    · replace h := o_neg h c7
      refine wp_aload_n dJ7_fill_53178_10 0 rfl ?_
      refine wp_iload_n dJ7_fill_53178_11 2 rfl ?_
      refine wp_iload_n dJ7_fill_53178_12 1 rfl ?_
      obtain ⟨g13, h⟩ := o_grd h
      refine wp_iast (k := 21) dJ7_fill_53178_13 rfl rfl (inb_of g13) ?_
      refine wp_iinc (v := v2 + 1) (lv' := [(0, _), (1, _), (2, _), (3, _)]) dJ7_fill_53178_14 2 rfl rfl rfl rfl rfl ?_
      refine wp_goto 5 dJ7_fill_53178_17 rfl ?_
      refine wp_pick [0, 1, 2, 3] (lv' := [(0, _), (1, _), (2, _), (3, _)]) rfl ?_
      exact ih v1 (v2 + 1) v3 (upI I 21 v2.toNatClampNeg v1) J r h
set_option maxRecDepth 100000 in
set_option maxHeartbeats 4000000 in
theorem c_k27_J7_fill_53178_21 (Γ : GT) (ad : Nat → Nat) (R : Nat → Nat → Option Nat) (a1 : Int32) (I : IT) (J : JT) (r : IT) (h : f_k27_J7_fill_53178_21 a1 I = some r) : CALL Γ mJ7_fill_53178 (0, 0) [.ref (ad 21), .int a1] ((LAYc.take 27, R, ad)) I J (QE none ((LAYc.take 27, R, ad)) r J) := by
  refine call_of' (by decide) (Nat.le_of_ble_eq_true rfl) (lv0 := [(0, .ref (ad 21)), (1, .int a1)]) rfl ?_
  unfold f_k27_J7_fill_53178_21 at h
  refine wp_iconst (v := 0) dJ7_fill_53178_0 (by decide) ?_
  refine wp_istore_n (lv' := [(0, _), (1, _), (2, _)]) dJ7_fill_53178_1 rfl rfl rfl rfl ?_
  refine wp_aload_n dJ7_fill_53178_2 0 rfl ?_
  refine wp_alen (k := 21) (v := 14) dJ7_fill_53178_3 rfl (by decide) rfl (by decide) ?_
  refine wp_istore_n (lv' := [(0, _), (1, _), (2, _), (3, _)]) dJ7_fill_53178_4 rfl rfl rfl rfl ?_
  refine wp_pick [0, 1, 2, 3] (lv' := [(0, _), (1, _), (2, _), (3, _)]) rfl ?_
  exact w_k27_J7_fill_53178_21_5 Γ ad R FU a1 0 14 I J r h
def f_k27_J7_fill_53178_22_5 : Nat → Int32 → Int32 → Int32 → IT → Option (IT)
  | 0, _, _, _, _ => none
  | n + 1, v1, v2, v3, I =>
    if v3 ≤ v2 then
      some I
    else
      if inbB v2 84 = true then
        f_k27_J7_fill_53178_22_5 n v1 (v2 + 1) v3 (upI I 22 v2.toNatClampNeg v1)
      else none
def f_k27_J7_fill_53178_22 (a1 : Int32) (I : IT) : Option (IT) :=
  f_k27_J7_fill_53178_22_5 FU a1 0 84 I
set_option maxRecDepth 100000 in
set_option maxHeartbeats 4000000 in
theorem w_k27_J7_fill_53178_22_5 (Γ : GT) (ad : Nat → Nat) (R : Nat → Nat → Option Nat) : ∀ (n : Nat) (v1 : Int32) (v2 : Int32) (v3 : Int32) (I : IT) (J : JT) (r : IT), f_k27_J7_fill_53178_22_5 n v1 v2 v3 I = some r → WP Γ mJ7_fill_53178 (0, 0) 5 [(0, .ref (ad 22)), (1, .int v1), (2, .int v2), (3, .int v3)] [] ((LAYc.take 27, R, ad)) I J (QE none ((LAYc.take 27, R, ad)) r J) := by
  intro n
  induction n with
  | zero => intro v1 v2 v3 I J r h; exact absurd h (by simp [f_k27_J7_fill_53178_22_5])
  | succ n ih =>
    intro v1 v2 v3 I J r h
    rw [f_k27_J7_fill_53178_22_5] at h
    refine wp_iload_n dJ7_fill_53178_5 2 rfl ?_
    refine wp_iload_n dJ7_fill_53178_6 3 rfl ?_
    refine wp_icmp_ge 20 dJ7_fill_53178_7 rfl (fun c7 => ?_) (fun c7 => ?_)
    · replace h := o_pos h c7
      obtain rfl := Option.some.inj h
      exact wp_return dJ7_fill_53178_20 rfl ⟨rfl, rfl, rfl, rfl⟩
    · replace h := o_neg h c7
      refine wp_aload_n dJ7_fill_53178_10 0 rfl ?_
      refine wp_iload_n dJ7_fill_53178_11 2 rfl ?_
      refine wp_iload_n dJ7_fill_53178_12 1 rfl ?_
      obtain ⟨g13, h⟩ := o_grd h
      refine wp_iast (k := 22) dJ7_fill_53178_13 rfl rfl (inb_of g13) ?_
      refine wp_iinc (v := v2 + 1) (lv' := [(0, _), (1, _), (2, _), (3, _)]) dJ7_fill_53178_14 2 rfl rfl rfl rfl rfl ?_
      refine wp_goto 5 dJ7_fill_53178_17 rfl ?_
      refine wp_pick [0, 1, 2, 3] (lv' := [(0, _), (1, _), (2, _), (3, _)]) rfl ?_
      exact ih v1 (v2 + 1) v3 (upI I 22 v2.toNatClampNeg v1) J r h
set_option maxRecDepth 100000 in
set_option maxHeartbeats 4000000 in
theorem c_k27_J7_fill_53178_22 (Γ : GT) (ad : Nat → Nat) (R : Nat → Nat → Option Nat) (a1 : Int32) (I : IT) (J : JT) (r : IT) (h : f_k27_J7_fill_53178_22 a1 I = some r) : CALL Γ mJ7_fill_53178 (0, 0) [.ref (ad 22), .int a1] ((LAYc.take 27, R, ad)) I J (QE none ((LAYc.take 27, R, ad)) r J) := by
  refine call_of' (by decide) (Nat.le_of_ble_eq_true rfl) (lv0 := [(0, .ref (ad 22)), (1, .int a1)]) rfl ?_
  unfold f_k27_J7_fill_53178_22 at h
  refine wp_iconst (v := 0) dJ7_fill_53178_0 (by decide) ?_
  refine wp_istore_n (lv' := [(0, _), (1, _), (2, _)]) dJ7_fill_53178_1 rfl rfl rfl rfl ?_
  refine wp_aload_n dJ7_fill_53178_2 0 rfl ?_
  refine wp_alen (k := 22) (v := 84) dJ7_fill_53178_3 rfl (by decide) rfl (by decide) ?_
  refine wp_istore_n (lv' := [(0, _), (1, _), (2, _), (3, _)]) dJ7_fill_53178_4 rfl rfl rfl rfl ?_
  refine wp_pick [0, 1, 2, 3] (lv' := [(0, _), (1, _), (2, _), (3, _)]) rfl ?_
  exact w_k27_J7_fill_53178_22_5 Γ ad R FU a1 0 84 I J r h
def f_k27_J7_fill_53178_23_5 : Nat → Int32 → Int32 → Int32 → IT → Option (IT)
  | 0, _, _, _, _ => none
  | n + 1, v1, v2, v3, I =>
    if v3 ≤ v2 then
      some I
    else
      if inbB v2 84 = true then
        f_k27_J7_fill_53178_23_5 n v1 (v2 + 1) v3 (upI I 23 v2.toNatClampNeg v1)
      else none
def f_k27_J7_fill_53178_23 (a1 : Int32) (I : IT) : Option (IT) :=
  f_k27_J7_fill_53178_23_5 FU a1 0 84 I
set_option maxRecDepth 100000 in
set_option maxHeartbeats 4000000 in
theorem w_k27_J7_fill_53178_23_5 (Γ : GT) (ad : Nat → Nat) (R : Nat → Nat → Option Nat) : ∀ (n : Nat) (v1 : Int32) (v2 : Int32) (v3 : Int32) (I : IT) (J : JT) (r : IT), f_k27_J7_fill_53178_23_5 n v1 v2 v3 I = some r → WP Γ mJ7_fill_53178 (0, 0) 5 [(0, .ref (ad 23)), (1, .int v1), (2, .int v2), (3, .int v3)] [] ((LAYc.take 27, R, ad)) I J (QE none ((LAYc.take 27, R, ad)) r J) := by
  intro n
  induction n with
  | zero => intro v1 v2 v3 I J r h; exact absurd h (by simp [f_k27_J7_fill_53178_23_5])
  | succ n ih =>
    intro v1 v2 v3 I J r h
    rw [f_k27_J7_fill_53178_23_5] at h
    refine wp_iload_n dJ7_fill_53178_5 2 rfl ?_
    refine wp_iload_n dJ7_fill_53178_6 3 rfl ?_
    refine wp_icmp_ge 20 dJ7_fill_53178_7 rfl (fun c7 => ?_) (fun c7 => ?_)
    · replace h := o_pos h c7
      obtain rfl := Option.some.inj h
      exact wp_return dJ7_fill_53178_20 rfl ⟨rfl, rfl, rfl, rfl⟩
    · replace h := o_neg h c7
      refine wp_aload_n dJ7_fill_53178_10 0 rfl ?_
      refine wp_iload_n dJ7_fill_53178_11 2 rfl ?_
      refine wp_iload_n dJ7_fill_53178_12 1 rfl ?_
      obtain ⟨g13, h⟩ := o_grd h
      refine wp_iast (k := 23) dJ7_fill_53178_13 rfl rfl (inb_of g13) ?_
      refine wp_iinc (v := v2 + 1) (lv' := [(0, _), (1, _), (2, _), (3, _)]) dJ7_fill_53178_14 2 rfl rfl rfl rfl rfl ?_
      refine wp_goto 5 dJ7_fill_53178_17 rfl ?_
      refine wp_pick [0, 1, 2, 3] (lv' := [(0, _), (1, _), (2, _), (3, _)]) rfl ?_
      exact ih v1 (v2 + 1) v3 (upI I 23 v2.toNatClampNeg v1) J r h
set_option maxRecDepth 100000 in
set_option maxHeartbeats 4000000 in
theorem c_k27_J7_fill_53178_23 (Γ : GT) (ad : Nat → Nat) (R : Nat → Nat → Option Nat) (a1 : Int32) (I : IT) (J : JT) (r : IT) (h : f_k27_J7_fill_53178_23 a1 I = some r) : CALL Γ mJ7_fill_53178 (0, 0) [.ref (ad 23), .int a1] ((LAYc.take 27, R, ad)) I J (QE none ((LAYc.take 27, R, ad)) r J) := by
  refine call_of' (by decide) (Nat.le_of_ble_eq_true rfl) (lv0 := [(0, .ref (ad 23)), (1, .int a1)]) rfl ?_
  unfold f_k27_J7_fill_53178_23 at h
  refine wp_iconst (v := 0) dJ7_fill_53178_0 (by decide) ?_
  refine wp_istore_n (lv' := [(0, _), (1, _), (2, _)]) dJ7_fill_53178_1 rfl rfl rfl rfl ?_
  refine wp_aload_n dJ7_fill_53178_2 0 rfl ?_
  refine wp_alen (k := 23) (v := 84) dJ7_fill_53178_3 rfl (by decide) rfl (by decide) ?_
  refine wp_istore_n (lv' := [(0, _), (1, _), (2, _), (3, _)]) dJ7_fill_53178_4 rfl rfl rfl rfl ?_
  refine wp_pick [0, 1, 2, 3] (lv' := [(0, _), (1, _), (2, _), (3, _)]) rfl ?_
  exact w_k27_J7_fill_53178_23_5 Γ ad R FU a1 0 84 I J r h
def f_k27_J7_fill_53178_24_5 : Nat → Int32 → Int32 → Int32 → IT → Option (IT)
  | 0, _, _, _, _ => none
  | n + 1, v1, v2, v3, I =>
    if v3 ≤ v2 then
      some I
    else
      if inbB v2 6 = true then
        f_k27_J7_fill_53178_24_5 n v1 (v2 + 1) v3 (upI I 24 v2.toNatClampNeg v1)
      else none
def f_k27_J7_fill_53178_24 (a1 : Int32) (I : IT) : Option (IT) :=
  f_k27_J7_fill_53178_24_5 FU a1 0 6 I
set_option maxRecDepth 100000 in
set_option maxHeartbeats 4000000 in
theorem w_k27_J7_fill_53178_24_5 (Γ : GT) (ad : Nat → Nat) (R : Nat → Nat → Option Nat) : ∀ (n : Nat) (v1 : Int32) (v2 : Int32) (v3 : Int32) (I : IT) (J : JT) (r : IT), f_k27_J7_fill_53178_24_5 n v1 v2 v3 I = some r → WP Γ mJ7_fill_53178 (0, 0) 5 [(0, .ref (ad 24)), (1, .int v1), (2, .int v2), (3, .int v3)] [] ((LAYc.take 27, R, ad)) I J (QE none ((LAYc.take 27, R, ad)) r J) := by
  intro n
  induction n with
  | zero => intro v1 v2 v3 I J r h; exact absurd h (by simp [f_k27_J7_fill_53178_24_5])
  | succ n ih =>
    intro v1 v2 v3 I J r h
    rw [f_k27_J7_fill_53178_24_5] at h
    refine wp_iload_n dJ7_fill_53178_5 2 rfl ?_
    refine wp_iload_n dJ7_fill_53178_6 3 rfl ?_
    refine wp_icmp_ge 20 dJ7_fill_53178_7 rfl (fun c7 => ?_) (fun c7 => ?_)
    · replace h := o_pos h c7
      obtain rfl := Option.some.inj h
      exact wp_return dJ7_fill_53178_20 rfl ⟨rfl, rfl, rfl, rfl⟩
    · replace h := o_neg h c7
      refine wp_aload_n dJ7_fill_53178_10 0 rfl ?_
      refine wp_iload_n dJ7_fill_53178_11 2 rfl ?_
      refine wp_iload_n dJ7_fill_53178_12 1 rfl ?_
      obtain ⟨g13, h⟩ := o_grd h
      refine wp_iast (k := 24) dJ7_fill_53178_13 rfl rfl (inb_of g13) ?_
      refine wp_iinc (v := v2 + 1) (lv' := [(0, _), (1, _), (2, _), (3, _)]) dJ7_fill_53178_14 2 rfl rfl rfl rfl rfl ?_
      refine wp_goto 5 dJ7_fill_53178_17 rfl ?_
      refine wp_pick [0, 1, 2, 3] (lv' := [(0, _), (1, _), (2, _), (3, _)]) rfl ?_
      exact ih v1 (v2 + 1) v3 (upI I 24 v2.toNatClampNeg v1) J r h
set_option maxRecDepth 100000 in
set_option maxHeartbeats 4000000 in
theorem c_k27_J7_fill_53178_24 (Γ : GT) (ad : Nat → Nat) (R : Nat → Nat → Option Nat) (a1 : Int32) (I : IT) (J : JT) (r : IT) (h : f_k27_J7_fill_53178_24 a1 I = some r) : CALL Γ mJ7_fill_53178 (0, 0) [.ref (ad 24), .int a1] ((LAYc.take 27, R, ad)) I J (QE none ((LAYc.take 27, R, ad)) r J) := by
  refine call_of' (by decide) (Nat.le_of_ble_eq_true rfl) (lv0 := [(0, .ref (ad 24)), (1, .int a1)]) rfl ?_
  unfold f_k27_J7_fill_53178_24 at h
  refine wp_iconst (v := 0) dJ7_fill_53178_0 (by decide) ?_
  refine wp_istore_n (lv' := [(0, _), (1, _), (2, _)]) dJ7_fill_53178_1 rfl rfl rfl rfl ?_
  refine wp_aload_n dJ7_fill_53178_2 0 rfl ?_
  refine wp_alen (k := 24) (v := 6) dJ7_fill_53178_3 rfl (by decide) rfl (by decide) ?_
  refine wp_istore_n (lv' := [(0, _), (1, _), (2, _), (3, _)]) dJ7_fill_53178_4 rfl rfl rfl rfl ?_
  refine wp_pick [0, 1, 2, 3] (lv' := [(0, _), (1, _), (2, _), (3, _)]) rfl ?_
  exact w_k27_J7_fill_53178_24_5 Γ ad R FU a1 0 6 I J r h
def f_k27_J7_fill_53178_25_5 : Nat → Int32 → Int32 → Int32 → IT → Option (IT)
  | 0, _, _, _, _ => none
  | n + 1, v1, v2, v3, I =>
    if v3 ≤ v2 then
      some I
    else
      if inbB v2 6 = true then
        f_k27_J7_fill_53178_25_5 n v1 (v2 + 1) v3 (upI I 25 v2.toNatClampNeg v1)
      else none
def f_k27_J7_fill_53178_25 (a1 : Int32) (I : IT) : Option (IT) :=
  f_k27_J7_fill_53178_25_5 FU a1 0 6 I
set_option maxRecDepth 100000 in
set_option maxHeartbeats 4000000 in
theorem w_k27_J7_fill_53178_25_5 (Γ : GT) (ad : Nat → Nat) (R : Nat → Nat → Option Nat) : ∀ (n : Nat) (v1 : Int32) (v2 : Int32) (v3 : Int32) (I : IT) (J : JT) (r : IT), f_k27_J7_fill_53178_25_5 n v1 v2 v3 I = some r → WP Γ mJ7_fill_53178 (0, 0) 5 [(0, .ref (ad 25)), (1, .int v1), (2, .int v2), (3, .int v3)] [] ((LAYc.take 27, R, ad)) I J (QE none ((LAYc.take 27, R, ad)) r J) := by
  intro n
  induction n with
  | zero => intro v1 v2 v3 I J r h; exact absurd h (by simp [f_k27_J7_fill_53178_25_5])
  | succ n ih =>
    intro v1 v2 v3 I J r h
    rw [f_k27_J7_fill_53178_25_5] at h
    refine wp_iload_n dJ7_fill_53178_5 2 rfl ?_
    refine wp_iload_n dJ7_fill_53178_6 3 rfl ?_
    refine wp_icmp_ge 20 dJ7_fill_53178_7 rfl (fun c7 => ?_) (fun c7 => ?_)
    · replace h := o_pos h c7
      obtain rfl := Option.some.inj h
      exact wp_return dJ7_fill_53178_20 rfl ⟨rfl, rfl, rfl, rfl⟩
    · replace h := o_neg h c7
      refine wp_aload_n dJ7_fill_53178_10 0 rfl ?_
      refine wp_iload_n dJ7_fill_53178_11 2 rfl ?_
      refine wp_iload_n dJ7_fill_53178_12 1 rfl ?_
      obtain ⟨g13, h⟩ := o_grd h
      refine wp_iast (k := 25) dJ7_fill_53178_13 rfl rfl (inb_of g13) ?_
      refine wp_iinc (v := v2 + 1) (lv' := [(0, _), (1, _), (2, _), (3, _)]) dJ7_fill_53178_14 2 rfl rfl rfl rfl rfl ?_
      refine wp_goto 5 dJ7_fill_53178_17 rfl ?_
      refine wp_pick [0, 1, 2, 3] (lv' := [(0, _), (1, _), (2, _), (3, _)]) rfl ?_
      exact ih v1 (v2 + 1) v3 (upI I 25 v2.toNatClampNeg v1) J r h
set_option maxRecDepth 100000 in
set_option maxHeartbeats 4000000 in
theorem c_k27_J7_fill_53178_25 (Γ : GT) (ad : Nat → Nat) (R : Nat → Nat → Option Nat) (a1 : Int32) (I : IT) (J : JT) (r : IT) (h : f_k27_J7_fill_53178_25 a1 I = some r) : CALL Γ mJ7_fill_53178 (0, 0) [.ref (ad 25), .int a1] ((LAYc.take 27, R, ad)) I J (QE none ((LAYc.take 27, R, ad)) r J) := by
  refine call_of' (by decide) (Nat.le_of_ble_eq_true rfl) (lv0 := [(0, .ref (ad 25)), (1, .int a1)]) rfl ?_
  unfold f_k27_J7_fill_53178_25 at h
  refine wp_iconst (v := 0) dJ7_fill_53178_0 (by decide) ?_
  refine wp_istore_n (lv' := [(0, _), (1, _), (2, _)]) dJ7_fill_53178_1 rfl rfl rfl rfl ?_
  refine wp_aload_n dJ7_fill_53178_2 0 rfl ?_
  refine wp_alen (k := 25) (v := 6) dJ7_fill_53178_3 rfl (by decide) rfl (by decide) ?_
  refine wp_istore_n (lv' := [(0, _), (1, _), (2, _), (3, _)]) dJ7_fill_53178_4 rfl rfl rfl rfl ?_
  refine wp_pick [0, 1, 2, 3] (lv' := [(0, _), (1, _), (2, _), (3, _)]) rfl ?_
  exact w_k27_J7_fill_53178_25_5 Γ ad R FU a1 0 6 I J r h
def f_k27_J7_fill_53178_26_5 : Nat → Int32 → Int32 → Int32 → IT → Option (IT)
  | 0, _, _, _, _ => none
  | n + 1, v1, v2, v3, I =>
    if v3 ≤ v2 then
      some I
    else
      if inbB v2 14 = true then
        f_k27_J7_fill_53178_26_5 n v1 (v2 + 1) v3 (upI I 26 v2.toNatClampNeg v1)
      else none
def f_k27_J7_fill_53178_26 (a1 : Int32) (I : IT) : Option (IT) :=
  f_k27_J7_fill_53178_26_5 FU a1 0 14 I
set_option maxRecDepth 100000 in
set_option maxHeartbeats 4000000 in
theorem w_k27_J7_fill_53178_26_5 (Γ : GT) (ad : Nat → Nat) (R : Nat → Nat → Option Nat) : ∀ (n : Nat) (v1 : Int32) (v2 : Int32) (v3 : Int32) (I : IT) (J : JT) (r : IT), f_k27_J7_fill_53178_26_5 n v1 v2 v3 I = some r → WP Γ mJ7_fill_53178 (0, 0) 5 [(0, .ref (ad 26)), (1, .int v1), (2, .int v2), (3, .int v3)] [] ((LAYc.take 27, R, ad)) I J (QE none ((LAYc.take 27, R, ad)) r J) := by
  intro n
  induction n with
  | zero => intro v1 v2 v3 I J r h; exact absurd h (by simp [f_k27_J7_fill_53178_26_5])
  | succ n ih =>
    intro v1 v2 v3 I J r h
    rw [f_k27_J7_fill_53178_26_5] at h
    refine wp_iload_n dJ7_fill_53178_5 2 rfl ?_
    refine wp_iload_n dJ7_fill_53178_6 3 rfl ?_
    refine wp_icmp_ge 20 dJ7_fill_53178_7 rfl (fun c7 => ?_) (fun c7 => ?_)
    · replace h := o_pos h c7
      obtain rfl := Option.some.inj h
      exact wp_return dJ7_fill_53178_20 rfl ⟨rfl, rfl, rfl, rfl⟩
    · replace h := o_neg h c7
      refine wp_aload_n dJ7_fill_53178_10 0 rfl ?_
      refine wp_iload_n dJ7_fill_53178_11 2 rfl ?_
      refine wp_iload_n dJ7_fill_53178_12 1 rfl ?_
      obtain ⟨g13, h⟩ := o_grd h
      refine wp_iast (k := 26) dJ7_fill_53178_13 rfl rfl (inb_of g13) ?_
      refine wp_iinc (v := v2 + 1) (lv' := [(0, _), (1, _), (2, _), (3, _)]) dJ7_fill_53178_14 2 rfl rfl rfl rfl rfl ?_
      refine wp_goto 5 dJ7_fill_53178_17 rfl ?_
      refine wp_pick [0, 1, 2, 3] (lv' := [(0, _), (1, _), (2, _), (3, _)]) rfl ?_
      exact ih v1 (v2 + 1) v3 (upI I 26 v2.toNatClampNeg v1) J r h
set_option maxRecDepth 100000 in
set_option maxHeartbeats 4000000 in
theorem c_k27_J7_fill_53178_26 (Γ : GT) (ad : Nat → Nat) (R : Nat → Nat → Option Nat) (a1 : Int32) (I : IT) (J : JT) (r : IT) (h : f_k27_J7_fill_53178_26 a1 I = some r) : CALL Γ mJ7_fill_53178 (0, 0) [.ref (ad 26), .int a1] ((LAYc.take 27, R, ad)) I J (QE none ((LAYc.take 27, R, ad)) r J) := by
  refine call_of' (by decide) (Nat.le_of_ble_eq_true rfl) (lv0 := [(0, .ref (ad 26)), (1, .int a1)]) rfl ?_
  unfold f_k27_J7_fill_53178_26 at h
  refine wp_iconst (v := 0) dJ7_fill_53178_0 (by decide) ?_
  refine wp_istore_n (lv' := [(0, _), (1, _), (2, _)]) dJ7_fill_53178_1 rfl rfl rfl rfl ?_
  refine wp_aload_n dJ7_fill_53178_2 0 rfl ?_
  refine wp_alen (k := 26) (v := 14) dJ7_fill_53178_3 rfl (by decide) rfl (by decide) ?_
  refine wp_istore_n (lv' := [(0, _), (1, _), (2, _), (3, _)]) dJ7_fill_53178_4 rfl rfl rfl rfl ?_
  refine wp_pick [0, 1, 2, 3] (lv' := [(0, _), (1, _), (2, _), (3, _)]) rfl ?_
  exact w_k27_J7_fill_53178_26_5 Γ ad R FU a1 0 14 I J r h
def f_k27_X1_begin_20 (I : IT) : Option (IT) :=
  (f_k27_J7_fill_53178_21 0 (upI I 20 1 0)).bind fun r10 =>
  (f_k27_J7_fill_53178_22 0 r10).bind fun r18 =>
  (f_k27_J7_fill_53178_23 0 r18).bind fun r26 =>
  (f_k27_J7_fill_53178_24 (-1) r26).bind fun r34 =>
  (f_k27_J7_fill_53178_25 (-1) r34).bind fun r42 =>
  (f_k27_J7_fill_53178_26 0 r42).bind fun r50 =>
  some r50
set_option maxRecDepth 100000 in
set_option maxHeartbeats 4000000 in
theorem c_k27_X1_begin_20 (Γ : GT) (ad : Nat → Nat) (R : Nat → Nat → Option Nat) (hR20_3 : R 20 3 = some (ad 21)) (hR20_4 : R 20 4 = some (ad 22)) (hR20_5 : R 20 5 = some (ad 23)) (hR20_6 : R 20 6 = some (ad 24)) (hR20_7 : R 20 7 = some (ad 25)) (hR20_8 : R 20 8 = some (ad 26)) (I : IT) (J : JT) (r : IT) (h : f_k27_X1_begin_20 I = some r) : CALL Γ mX1_begin (0, 0) [.ref (ad 20)] ((LAYc.take 27, R, ad)) I J (QE none ((LAYc.take 27, R, ad)) r J) := by
  refine call_of' (by decide) (Nat.le_of_ble_eq_true rfl) (lv0 := [(0, .ref (ad 20))]) rfl ?_
  unfold f_k27_X1_begin_20 at h
  refine wp_aload_n dX1_begin_0 0 rfl ?_
  refine wp_iconst (v := 0) dX1_begin_1 (by decide) ?_
  refine wp_putI (k := 20) dX1_begin_2 flX1_37 rfl rfl rfl rfl rfl rfl rfl rfl ?_
  refine wp_aload_n dX1_begin_5 0 rfl ?_
  refine wp_getR (k := 20) (a' := ad 21) dX1_begin_6 flX1_9 rfl rfl rfl rfl hR20_3 ?_
  refine wp_iconst (v := 0) dX1_begin_9 (by decide) ?_
  obtain ⟨r10, h10, h⟩ := o_bind h
  refine wp_callsV (c_k27_J7_fill_53178_21 Γ ad R 0 (upI I 20 1 0) J r10 h10) dX1_begin_10 mlX1_41 mwJ7_fill_53178 miJ7_fill_53178 rfl (Nat.le_of_ble_eq_true rfl) rfl (by decide) (by decide) ?_
  refine wp_aload_n dX1_begin_13 0 rfl ?_
  refine wp_getR (k := 20) (a' := ad 22) dX1_begin_14 flX1_15 rfl rfl rfl rfl hR20_4 ?_
  refine wp_iconst (v := 0) dX1_begin_17 (by decide) ?_
  obtain ⟨r18, h18, h⟩ := o_bind h
  refine wp_callsV (c_k27_J7_fill_53178_22 Γ ad R 0 r10 J r18 h18) dX1_begin_18 mlX1_41 mwJ7_fill_53178 miJ7_fill_53178 rfl (Nat.le_of_ble_eq_true rfl) rfl (by decide) (by decide) ?_
  refine wp_aload_n dX1_begin_21 0 rfl ?_
  refine wp_getR (k := 20) (a' := ad 23) dX1_begin_22 flX1_18 rfl rfl rfl rfl hR20_5 ?_
  refine wp_iconst (v := 0) dX1_begin_25 (by decide) ?_
  obtain ⟨r26, h26, h⟩ := o_bind h
  refine wp_callsV (c_k27_J7_fill_53178_23 Γ ad R 0 r18 J r26 h26) dX1_begin_26 mlX1_41 mwJ7_fill_53178 miJ7_fill_53178 rfl (Nat.le_of_ble_eq_true rfl) rfl (by decide) (by decide) ?_
  refine wp_aload_n dX1_begin_29 0 rfl ?_
  refine wp_getR (k := 20) (a' := ad 24) dX1_begin_30 flX1_21 rfl rfl rfl rfl hR20_6 ?_
  refine wp_iconst (v := (-1)) dX1_begin_33 (by decide) ?_
  obtain ⟨r34, h34, h⟩ := o_bind h
  refine wp_callsV (c_k27_J7_fill_53178_24 Γ ad R (-1) r26 J r34 h34) dX1_begin_34 mlX1_41 mwJ7_fill_53178 miJ7_fill_53178 rfl (Nat.le_of_ble_eq_true rfl) rfl (by decide) (by decide) ?_
  refine wp_aload_n dX1_begin_37 0 rfl ?_
  refine wp_getR (k := 20) (a' := ad 25) dX1_begin_38 flX1_24 rfl rfl rfl rfl hR20_7 ?_
  refine wp_iconst (v := (-1)) dX1_begin_41 (by decide) ?_
  obtain ⟨r42, h42, h⟩ := o_bind h
  refine wp_callsV (c_k27_J7_fill_53178_25 Γ ad R (-1) r34 J r42 h42) dX1_begin_42 mlX1_41 mwJ7_fill_53178 miJ7_fill_53178 rfl (Nat.le_of_ble_eq_true rfl) rfl (by decide) (by decide) ?_
  refine wp_aload_n dX1_begin_45 0 rfl ?_
  refine wp_getR (k := 20) (a' := ad 26) dX1_begin_46 flX1_27 rfl rfl rfl rfl hR20_8 ?_
  refine wp_iconst (v := 0) dX1_begin_49 (by decide) ?_
  obtain ⟨r50, h50, h⟩ := o_bind h
  refine wp_callsV (c_k27_J7_fill_53178_26 Γ ad R 0 r42 J r50 h50) dX1_begin_50 mlX1_41 mwJ7_fill_53178 miJ7_fill_53178 rfl (Nat.le_of_ble_eq_true rfl) rfl (by decide) (by decide) ?_
  obtain rfl := Option.some.inj h
  exact wp_return dX1_begin_53 rfl ⟨rfl, rfl, rfl, rfl⟩
def f_k34_J7_fill_53178_28_5 : Nat → Int32 → Int32 → Int32 → IT → Option (IT)
  | 0, _, _, _, _ => none
  | n + 1, v1, v2, v3, I =>
    if v3 ≤ v2 then
      some I
    else
      if inbB v2 14 = true then
        f_k34_J7_fill_53178_28_5 n v1 (v2 + 1) v3 (upI I 28 v2.toNatClampNeg v1)
      else none
def f_k34_J7_fill_53178_28 (a1 : Int32) (I : IT) : Option (IT) :=
  f_k34_J7_fill_53178_28_5 FU a1 0 14 I
set_option maxRecDepth 100000 in
set_option maxHeartbeats 4000000 in
theorem w_k34_J7_fill_53178_28_5 (Γ : GT) (ad : Nat → Nat) (R : Nat → Nat → Option Nat) : ∀ (n : Nat) (v1 : Int32) (v2 : Int32) (v3 : Int32) (I : IT) (J : JT) (r : IT), f_k34_J7_fill_53178_28_5 n v1 v2 v3 I = some r → WP Γ mJ7_fill_53178 (0, 0) 5 [(0, .ref (ad 28)), (1, .int v1), (2, .int v2), (3, .int v3)] [] ((LAYc.take 34, R, ad)) I J (QE none ((LAYc.take 34, R, ad)) r J) := by
  intro n
  induction n with
  | zero => intro v1 v2 v3 I J r h; exact absurd h (by simp [f_k34_J7_fill_53178_28_5])
  | succ n ih =>
    intro v1 v2 v3 I J r h
    rw [f_k34_J7_fill_53178_28_5] at h
    refine wp_iload_n dJ7_fill_53178_5 2 rfl ?_
    refine wp_iload_n dJ7_fill_53178_6 3 rfl ?_
    refine wp_icmp_ge 20 dJ7_fill_53178_7 rfl (fun c7 => ?_) (fun c7 => ?_)
    · replace h := o_pos h c7
      obtain rfl := Option.some.inj h
      exact wp_return dJ7_fill_53178_20 rfl ⟨rfl, rfl, rfl, rfl⟩
    · replace h := o_neg h c7
      refine wp_aload_n dJ7_fill_53178_10 0 rfl ?_
      refine wp_iload_n dJ7_fill_53178_11 2 rfl ?_
      refine wp_iload_n dJ7_fill_53178_12 1 rfl ?_
      obtain ⟨g13, h⟩ := o_grd h
      refine wp_iast (k := 28) dJ7_fill_53178_13 rfl rfl (inb_of g13) ?_
      refine wp_iinc (v := v2 + 1) (lv' := [(0, _), (1, _), (2, _), (3, _)]) dJ7_fill_53178_14 2 rfl rfl rfl rfl rfl ?_
      refine wp_goto 5 dJ7_fill_53178_17 rfl ?_
      refine wp_pick [0, 1, 2, 3] (lv' := [(0, _), (1, _), (2, _), (3, _)]) rfl ?_
      exact ih v1 (v2 + 1) v3 (upI I 28 v2.toNatClampNeg v1) J r h
set_option maxRecDepth 100000 in
set_option maxHeartbeats 4000000 in
theorem c_k34_J7_fill_53178_28 (Γ : GT) (ad : Nat → Nat) (R : Nat → Nat → Option Nat) (a1 : Int32) (I : IT) (J : JT) (r : IT) (h : f_k34_J7_fill_53178_28 a1 I = some r) : CALL Γ mJ7_fill_53178 (0, 0) [.ref (ad 28), .int a1] ((LAYc.take 34, R, ad)) I J (QE none ((LAYc.take 34, R, ad)) r J) := by
  refine call_of' (by decide) (Nat.le_of_ble_eq_true rfl) (lv0 := [(0, .ref (ad 28)), (1, .int a1)]) rfl ?_
  unfold f_k34_J7_fill_53178_28 at h
  refine wp_iconst (v := 0) dJ7_fill_53178_0 (by decide) ?_
  refine wp_istore_n (lv' := [(0, _), (1, _), (2, _)]) dJ7_fill_53178_1 rfl rfl rfl rfl ?_
  refine wp_aload_n dJ7_fill_53178_2 0 rfl ?_
  refine wp_alen (k := 28) (v := 14) dJ7_fill_53178_3 rfl (by decide) rfl (by decide) ?_
  refine wp_istore_n (lv' := [(0, _), (1, _), (2, _), (3, _)]) dJ7_fill_53178_4 rfl rfl rfl rfl ?_
  refine wp_pick [0, 1, 2, 3] (lv' := [(0, _), (1, _), (2, _), (3, _)]) rfl ?_
  exact w_k34_J7_fill_53178_28_5 Γ ad R FU a1 0 14 I J r h
def f_k34_J7_fill_53178_29_5 : Nat → Int32 → Int32 → Int32 → IT → Option (IT)
  | 0, _, _, _, _ => none
  | n + 1, v1, v2, v3, I =>
    if v3 ≤ v2 then
      some I
    else
      if inbB v2 84 = true then
        f_k34_J7_fill_53178_29_5 n v1 (v2 + 1) v3 (upI I 29 v2.toNatClampNeg v1)
      else none
def f_k34_J7_fill_53178_29 (a1 : Int32) (I : IT) : Option (IT) :=
  f_k34_J7_fill_53178_29_5 FU a1 0 84 I
set_option maxRecDepth 100000 in
set_option maxHeartbeats 4000000 in
theorem w_k34_J7_fill_53178_29_5 (Γ : GT) (ad : Nat → Nat) (R : Nat → Nat → Option Nat) : ∀ (n : Nat) (v1 : Int32) (v2 : Int32) (v3 : Int32) (I : IT) (J : JT) (r : IT), f_k34_J7_fill_53178_29_5 n v1 v2 v3 I = some r → WP Γ mJ7_fill_53178 (0, 0) 5 [(0, .ref (ad 29)), (1, .int v1), (2, .int v2), (3, .int v3)] [] ((LAYc.take 34, R, ad)) I J (QE none ((LAYc.take 34, R, ad)) r J) := by
  intro n
  induction n with
  | zero => intro v1 v2 v3 I J r h; exact absurd h (by simp [f_k34_J7_fill_53178_29_5])
  | succ n ih =>
    intro v1 v2 v3 I J r h
    rw [f_k34_J7_fill_53178_29_5] at h
    refine wp_iload_n dJ7_fill_53178_5 2 rfl ?_
    refine wp_iload_n dJ7_fill_53178_6 3 rfl ?_
    refine wp_icmp_ge 20 dJ7_fill_53178_7 rfl (fun c7 => ?_) (fun c7 => ?_)
    · replace h := o_pos h c7
      obtain rfl := Option.some.inj h
      exact wp_return dJ7_fill_53178_20 rfl ⟨rfl, rfl, rfl, rfl⟩
    · replace h := o_neg h c7
      refine wp_aload_n dJ7_fill_53178_10 0 rfl ?_
      refine wp_iload_n dJ7_fill_53178_11 2 rfl ?_
      refine wp_iload_n dJ7_fill_53178_12 1 rfl ?_
      obtain ⟨g13, h⟩ := o_grd h
      refine wp_iast (k := 29) dJ7_fill_53178_13 rfl rfl (inb_of g13) ?_
      refine wp_iinc (v := v2 + 1) (lv' := [(0, _), (1, _), (2, _), (3, _)]) dJ7_fill_53178_14 2 rfl rfl rfl rfl rfl ?_
      refine wp_goto 5 dJ7_fill_53178_17 rfl ?_
      refine wp_pick [0, 1, 2, 3] (lv' := [(0, _), (1, _), (2, _), (3, _)]) rfl ?_
      exact ih v1 (v2 + 1) v3 (upI I 29 v2.toNatClampNeg v1) J r h
set_option maxRecDepth 100000 in
set_option maxHeartbeats 4000000 in
theorem c_k34_J7_fill_53178_29 (Γ : GT) (ad : Nat → Nat) (R : Nat → Nat → Option Nat) (a1 : Int32) (I : IT) (J : JT) (r : IT) (h : f_k34_J7_fill_53178_29 a1 I = some r) : CALL Γ mJ7_fill_53178 (0, 0) [.ref (ad 29), .int a1] ((LAYc.take 34, R, ad)) I J (QE none ((LAYc.take 34, R, ad)) r J) := by
  refine call_of' (by decide) (Nat.le_of_ble_eq_true rfl) (lv0 := [(0, .ref (ad 29)), (1, .int a1)]) rfl ?_
  unfold f_k34_J7_fill_53178_29 at h
  refine wp_iconst (v := 0) dJ7_fill_53178_0 (by decide) ?_
  refine wp_istore_n (lv' := [(0, _), (1, _), (2, _)]) dJ7_fill_53178_1 rfl rfl rfl rfl ?_
  refine wp_aload_n dJ7_fill_53178_2 0 rfl ?_
  refine wp_alen (k := 29) (v := 84) dJ7_fill_53178_3 rfl (by decide) rfl (by decide) ?_
  refine wp_istore_n (lv' := [(0, _), (1, _), (2, _), (3, _)]) dJ7_fill_53178_4 rfl rfl rfl rfl ?_
  refine wp_pick [0, 1, 2, 3] (lv' := [(0, _), (1, _), (2, _), (3, _)]) rfl ?_
  exact w_k34_J7_fill_53178_29_5 Γ ad R FU a1 0 84 I J r h
def f_k34_J7_fill_53178_30_5 : Nat → Int32 → Int32 → Int32 → IT → Option (IT)
  | 0, _, _, _, _ => none
  | n + 1, v1, v2, v3, I =>
    if v3 ≤ v2 then
      some I
    else
      if inbB v2 84 = true then
        f_k34_J7_fill_53178_30_5 n v1 (v2 + 1) v3 (upI I 30 v2.toNatClampNeg v1)
      else none
def f_k34_J7_fill_53178_30 (a1 : Int32) (I : IT) : Option (IT) :=
  f_k34_J7_fill_53178_30_5 FU a1 0 84 I
set_option maxRecDepth 100000 in
set_option maxHeartbeats 4000000 in
theorem w_k34_J7_fill_53178_30_5 (Γ : GT) (ad : Nat → Nat) (R : Nat → Nat → Option Nat) : ∀ (n : Nat) (v1 : Int32) (v2 : Int32) (v3 : Int32) (I : IT) (J : JT) (r : IT), f_k34_J7_fill_53178_30_5 n v1 v2 v3 I = some r → WP Γ mJ7_fill_53178 (0, 0) 5 [(0, .ref (ad 30)), (1, .int v1), (2, .int v2), (3, .int v3)] [] ((LAYc.take 34, R, ad)) I J (QE none ((LAYc.take 34, R, ad)) r J) := by
  intro n
  induction n with
  | zero => intro v1 v2 v3 I J r h; exact absurd h (by simp [f_k34_J7_fill_53178_30_5])
  | succ n ih =>
    intro v1 v2 v3 I J r h
    rw [f_k34_J7_fill_53178_30_5] at h
    refine wp_iload_n dJ7_fill_53178_5 2 rfl ?_
    refine wp_iload_n dJ7_fill_53178_6 3 rfl ?_
    refine wp_icmp_ge 20 dJ7_fill_53178_7 rfl (fun c7 => ?_) (fun c7 => ?_)
    · replace h := o_pos h c7
      obtain rfl := Option.some.inj h
      exact wp_return dJ7_fill_53178_20 rfl ⟨rfl, rfl, rfl, rfl⟩
    · replace h := o_neg h c7
      refine wp_aload_n dJ7_fill_53178_10 0 rfl ?_
      refine wp_iload_n dJ7_fill_53178_11 2 rfl ?_
      refine wp_iload_n dJ7_fill_53178_12 1 rfl ?_
      obtain ⟨g13, h⟩ := o_grd h
      refine wp_iast (k := 30) dJ7_fill_53178_13 rfl rfl (inb_of g13) ?_
      refine wp_iinc (v := v2 + 1) (lv' := [(0, _), (1, _), (2, _), (3, _)]) dJ7_fill_53178_14 2 rfl rfl rfl rfl rfl ?_
      refine wp_goto 5 dJ7_fill_53178_17 rfl ?_
      refine wp_pick [0, 1, 2, 3] (lv' := [(0, _), (1, _), (2, _), (3, _)]) rfl ?_
      exact ih v1 (v2 + 1) v3 (upI I 30 v2.toNatClampNeg v1) J r h
set_option maxRecDepth 100000 in
set_option maxHeartbeats 4000000 in
theorem c_k34_J7_fill_53178_30 (Γ : GT) (ad : Nat → Nat) (R : Nat → Nat → Option Nat) (a1 : Int32) (I : IT) (J : JT) (r : IT) (h : f_k34_J7_fill_53178_30 a1 I = some r) : CALL Γ mJ7_fill_53178 (0, 0) [.ref (ad 30), .int a1] ((LAYc.take 34, R, ad)) I J (QE none ((LAYc.take 34, R, ad)) r J) := by
  refine call_of' (by decide) (Nat.le_of_ble_eq_true rfl) (lv0 := [(0, .ref (ad 30)), (1, .int a1)]) rfl ?_
  unfold f_k34_J7_fill_53178_30 at h
  refine wp_iconst (v := 0) dJ7_fill_53178_0 (by decide) ?_
  refine wp_istore_n (lv' := [(0, _), (1, _), (2, _)]) dJ7_fill_53178_1 rfl rfl rfl rfl ?_
  refine wp_aload_n dJ7_fill_53178_2 0 rfl ?_
  refine wp_alen (k := 30) (v := 84) dJ7_fill_53178_3 rfl (by decide) rfl (by decide) ?_
  refine wp_istore_n (lv' := [(0, _), (1, _), (2, _), (3, _)]) dJ7_fill_53178_4 rfl rfl rfl rfl ?_
  refine wp_pick [0, 1, 2, 3] (lv' := [(0, _), (1, _), (2, _), (3, _)]) rfl ?_
  exact w_k34_J7_fill_53178_30_5 Γ ad R FU a1 0 84 I J r h
def f_k34_J7_fill_53178_31_5 : Nat → Int32 → Int32 → Int32 → IT → Option (IT)
  | 0, _, _, _, _ => none
  | n + 1, v1, v2, v3, I =>
    if v3 ≤ v2 then
      some I
    else
      if inbB v2 6 = true then
        f_k34_J7_fill_53178_31_5 n v1 (v2 + 1) v3 (upI I 31 v2.toNatClampNeg v1)
      else none
def f_k34_J7_fill_53178_31 (a1 : Int32) (I : IT) : Option (IT) :=
  f_k34_J7_fill_53178_31_5 FU a1 0 6 I
set_option maxRecDepth 100000 in
set_option maxHeartbeats 4000000 in
theorem w_k34_J7_fill_53178_31_5 (Γ : GT) (ad : Nat → Nat) (R : Nat → Nat → Option Nat) : ∀ (n : Nat) (v1 : Int32) (v2 : Int32) (v3 : Int32) (I : IT) (J : JT) (r : IT), f_k34_J7_fill_53178_31_5 n v1 v2 v3 I = some r → WP Γ mJ7_fill_53178 (0, 0) 5 [(0, .ref (ad 31)), (1, .int v1), (2, .int v2), (3, .int v3)] [] ((LAYc.take 34, R, ad)) I J (QE none ((LAYc.take 34, R, ad)) r J) := by
  intro n
  induction n with
  | zero => intro v1 v2 v3 I J r h; exact absurd h (by simp [f_k34_J7_fill_53178_31_5])
  | succ n ih =>
    intro v1 v2 v3 I J r h
    rw [f_k34_J7_fill_53178_31_5] at h
    refine wp_iload_n dJ7_fill_53178_5 2 rfl ?_
    refine wp_iload_n dJ7_fill_53178_6 3 rfl ?_
    refine wp_icmp_ge 20 dJ7_fill_53178_7 rfl (fun c7 => ?_) (fun c7 => ?_)
    · replace h := o_pos h c7
      obtain rfl := Option.some.inj h
      exact wp_return dJ7_fill_53178_20 rfl ⟨rfl, rfl, rfl, rfl⟩
    · replace h := o_neg h c7
      refine wp_aload_n dJ7_fill_53178_10 0 rfl ?_
      refine wp_iload_n dJ7_fill_53178_11 2 rfl ?_
      refine wp_iload_n dJ7_fill_53178_12 1 rfl ?_
      obtain ⟨g13, h⟩ := o_grd h
      refine wp_iast (k := 31) dJ7_fill_53178_13 rfl rfl (inb_of g13) ?_
      refine wp_iinc (v := v2 + 1) (lv' := [(0, _), (1, _), (2, _), (3, _)]) dJ7_fill_53178_14 2 rfl rfl rfl rfl rfl ?_
      refine wp_goto 5 dJ7_fill_53178_17 rfl ?_
      refine wp_pick [0, 1, 2, 3] (lv' := [(0, _), (1, _), (2, _), (3, _)]) rfl ?_
      exact ih v1 (v2 + 1) v3 (upI I 31 v2.toNatClampNeg v1) J r h
set_option maxRecDepth 100000 in
set_option maxHeartbeats 4000000 in
theorem c_k34_J7_fill_53178_31 (Γ : GT) (ad : Nat → Nat) (R : Nat → Nat → Option Nat) (a1 : Int32) (I : IT) (J : JT) (r : IT) (h : f_k34_J7_fill_53178_31 a1 I = some r) : CALL Γ mJ7_fill_53178 (0, 0) [.ref (ad 31), .int a1] ((LAYc.take 34, R, ad)) I J (QE none ((LAYc.take 34, R, ad)) r J) := by
  refine call_of' (by decide) (Nat.le_of_ble_eq_true rfl) (lv0 := [(0, .ref (ad 31)), (1, .int a1)]) rfl ?_
  unfold f_k34_J7_fill_53178_31 at h
  refine wp_iconst (v := 0) dJ7_fill_53178_0 (by decide) ?_
  refine wp_istore_n (lv' := [(0, _), (1, _), (2, _)]) dJ7_fill_53178_1 rfl rfl rfl rfl ?_
  refine wp_aload_n dJ7_fill_53178_2 0 rfl ?_
  refine wp_alen (k := 31) (v := 6) dJ7_fill_53178_3 rfl (by decide) rfl (by decide) ?_
  refine wp_istore_n (lv' := [(0, _), (1, _), (2, _), (3, _)]) dJ7_fill_53178_4 rfl rfl rfl rfl ?_
  refine wp_pick [0, 1, 2, 3] (lv' := [(0, _), (1, _), (2, _), (3, _)]) rfl ?_
  exact w_k34_J7_fill_53178_31_5 Γ ad R FU a1 0 6 I J r h
def f_k34_J7_fill_53178_32_5 : Nat → Int32 → Int32 → Int32 → IT → Option (IT)
  | 0, _, _, _, _ => none
  | n + 1, v1, v2, v3, I =>
    if v3 ≤ v2 then
      some I
    else
      if inbB v2 6 = true then
        f_k34_J7_fill_53178_32_5 n v1 (v2 + 1) v3 (upI I 32 v2.toNatClampNeg v1)
      else none
def f_k34_J7_fill_53178_32 (a1 : Int32) (I : IT) : Option (IT) :=
  f_k34_J7_fill_53178_32_5 FU a1 0 6 I
set_option maxRecDepth 100000 in
set_option maxHeartbeats 4000000 in
theorem w_k34_J7_fill_53178_32_5 (Γ : GT) (ad : Nat → Nat) (R : Nat → Nat → Option Nat) : ∀ (n : Nat) (v1 : Int32) (v2 : Int32) (v3 : Int32) (I : IT) (J : JT) (r : IT), f_k34_J7_fill_53178_32_5 n v1 v2 v3 I = some r → WP Γ mJ7_fill_53178 (0, 0) 5 [(0, .ref (ad 32)), (1, .int v1), (2, .int v2), (3, .int v3)] [] ((LAYc.take 34, R, ad)) I J (QE none ((LAYc.take 34, R, ad)) r J) := by
  intro n
  induction n with
  | zero => intro v1 v2 v3 I J r h; exact absurd h (by simp [f_k34_J7_fill_53178_32_5])
  | succ n ih =>
    intro v1 v2 v3 I J r h
    rw [f_k34_J7_fill_53178_32_5] at h
    refine wp_iload_n dJ7_fill_53178_5 2 rfl ?_
    refine wp_iload_n dJ7_fill_53178_6 3 rfl ?_
    refine wp_icmp_ge 20 dJ7_fill_53178_7 rfl (fun c7 => ?_) (fun c7 => ?_)
    · replace h := o_pos h c7
      obtain rfl := Option.some.inj h
      exact wp_return dJ7_fill_53178_20 rfl ⟨rfl, rfl, rfl, rfl⟩
    · replace h := o_neg h c7
      refine wp_aload_n dJ7_fill_53178_10 0 rfl ?_
      refine wp_iload_n dJ7_fill_53178_11 2 rfl ?_
      refine wp_iload_n dJ7_fill_53178_12 1 rfl ?_
      obtain ⟨g13, h⟩ := o_grd h
      refine wp_iast (k := 32) dJ7_fill_53178_13 rfl rfl (inb_of g13) ?_
      refine wp_iinc (v := v2 + 1) (lv' := [(0, _), (1, _), (2, _), (3, _)]) dJ7_fill_53178_14 2 rfl rfl rfl rfl rfl ?_
      refine wp_goto 5 dJ7_fill_53178_17 rfl ?_
      refine wp_pick [0, 1, 2, 3] (lv' := [(0, _), (1, _), (2, _), (3, _)]) rfl ?_
      exact ih v1 (v2 + 1) v3 (upI I 32 v2.toNatClampNeg v1) J r h
set_option maxRecDepth 100000 in
set_option maxHeartbeats 4000000 in
theorem c_k34_J7_fill_53178_32 (Γ : GT) (ad : Nat → Nat) (R : Nat → Nat → Option Nat) (a1 : Int32) (I : IT) (J : JT) (r : IT) (h : f_k34_J7_fill_53178_32 a1 I = some r) : CALL Γ mJ7_fill_53178 (0, 0) [.ref (ad 32), .int a1] ((LAYc.take 34, R, ad)) I J (QE none ((LAYc.take 34, R, ad)) r J) := by
  refine call_of' (by decide) (Nat.le_of_ble_eq_true rfl) (lv0 := [(0, .ref (ad 32)), (1, .int a1)]) rfl ?_
  unfold f_k34_J7_fill_53178_32 at h
  refine wp_iconst (v := 0) dJ7_fill_53178_0 (by decide) ?_
  refine wp_istore_n (lv' := [(0, _), (1, _), (2, _)]) dJ7_fill_53178_1 rfl rfl rfl rfl ?_
  refine wp_aload_n dJ7_fill_53178_2 0 rfl ?_
  refine wp_alen (k := 32) (v := 6) dJ7_fill_53178_3 rfl (by decide) rfl (by decide) ?_
  refine wp_istore_n (lv' := [(0, _), (1, _), (2, _), (3, _)]) dJ7_fill_53178_4 rfl rfl rfl rfl ?_
  refine wp_pick [0, 1, 2, 3] (lv' := [(0, _), (1, _), (2, _), (3, _)]) rfl ?_
  exact w_k34_J7_fill_53178_32_5 Γ ad R FU a1 0 6 I J r h
def f_k34_J7_fill_53178_33_5 : Nat → Int32 → Int32 → Int32 → IT → Option (IT)
  | 0, _, _, _, _ => none
  | n + 1, v1, v2, v3, I =>
    if v3 ≤ v2 then
      some I
    else
      if inbB v2 14 = true then
        f_k34_J7_fill_53178_33_5 n v1 (v2 + 1) v3 (upI I 33 v2.toNatClampNeg v1)
      else none
def f_k34_J7_fill_53178_33 (a1 : Int32) (I : IT) : Option (IT) :=
  f_k34_J7_fill_53178_33_5 FU a1 0 14 I
set_option maxRecDepth 100000 in
set_option maxHeartbeats 4000000 in
theorem w_k34_J7_fill_53178_33_5 (Γ : GT) (ad : Nat → Nat) (R : Nat → Nat → Option Nat) : ∀ (n : Nat) (v1 : Int32) (v2 : Int32) (v3 : Int32) (I : IT) (J : JT) (r : IT), f_k34_J7_fill_53178_33_5 n v1 v2 v3 I = some r → WP Γ mJ7_fill_53178 (0, 0) 5 [(0, .ref (ad 33)), (1, .int v1), (2, .int v2), (3, .int v3)] [] ((LAYc.take 34, R, ad)) I J (QE none ((LAYc.take 34, R, ad)) r J) := by
  intro n
  induction n with
  | zero => intro v1 v2 v3 I J r h; exact absurd h (by simp [f_k34_J7_fill_53178_33_5])
  | succ n ih =>
    intro v1 v2 v3 I J r h
    rw [f_k34_J7_fill_53178_33_5] at h
    refine wp_iload_n dJ7_fill_53178_5 2 rfl ?_
    refine wp_iload_n dJ7_fill_53178_6 3 rfl ?_
    refine wp_icmp_ge 20 dJ7_fill_53178_7 rfl (fun c7 => ?_) (fun c7 => ?_)
    · replace h := o_pos h c7
      obtain rfl := Option.some.inj h
      exact wp_return dJ7_fill_53178_20 rfl ⟨rfl, rfl, rfl, rfl⟩
    · replace h := o_neg h c7
      refine wp_aload_n dJ7_fill_53178_10 0 rfl ?_
      refine wp_iload_n dJ7_fill_53178_11 2 rfl ?_
      refine wp_iload_n dJ7_fill_53178_12 1 rfl ?_
      obtain ⟨g13, h⟩ := o_grd h
      refine wp_iast (k := 33) dJ7_fill_53178_13 rfl rfl (inb_of g13) ?_
      refine wp_iinc (v := v2 + 1) (lv' := [(0, _), (1, _), (2, _), (3, _)]) dJ7_fill_53178_14 2 rfl rfl rfl rfl rfl ?_
      refine wp_goto 5 dJ7_fill_53178_17 rfl ?_
      refine wp_pick [0, 1, 2, 3] (lv' := [(0, _), (1, _), (2, _), (3, _)]) rfl ?_
      exact ih v1 (v2 + 1) v3 (upI I 33 v2.toNatClampNeg v1) J r h
set_option maxRecDepth 100000 in
set_option maxHeartbeats 4000000 in
theorem c_k34_J7_fill_53178_33 (Γ : GT) (ad : Nat → Nat) (R : Nat → Nat → Option Nat) (a1 : Int32) (I : IT) (J : JT) (r : IT) (h : f_k34_J7_fill_53178_33 a1 I = some r) : CALL Γ mJ7_fill_53178 (0, 0) [.ref (ad 33), .int a1] ((LAYc.take 34, R, ad)) I J (QE none ((LAYc.take 34, R, ad)) r J) := by
  refine call_of' (by decide) (Nat.le_of_ble_eq_true rfl) (lv0 := [(0, .ref (ad 33)), (1, .int a1)]) rfl ?_
  unfold f_k34_J7_fill_53178_33 at h
  refine wp_iconst (v := 0) dJ7_fill_53178_0 (by decide) ?_
  refine wp_istore_n (lv' := [(0, _), (1, _), (2, _)]) dJ7_fill_53178_1 rfl rfl rfl rfl ?_
  refine wp_aload_n dJ7_fill_53178_2 0 rfl ?_
  refine wp_alen (k := 33) (v := 14) dJ7_fill_53178_3 rfl (by decide) rfl (by decide) ?_
  refine wp_istore_n (lv' := [(0, _), (1, _), (2, _), (3, _)]) dJ7_fill_53178_4 rfl rfl rfl rfl ?_
  refine wp_pick [0, 1, 2, 3] (lv' := [(0, _), (1, _), (2, _), (3, _)]) rfl ?_
  exact w_k34_J7_fill_53178_33_5 Γ ad R FU a1 0 14 I J r h
def f_k34_X1_begin_27 (I : IT) : Option (IT) :=
  (f_k34_J7_fill_53178_28 0 (upI I 27 1 0)).bind fun r10 =>
  (f_k34_J7_fill_53178_29 0 r10).bind fun r18 =>
  (f_k34_J7_fill_53178_30 0 r18).bind fun r26 =>
  (f_k34_J7_fill_53178_31 (-1) r26).bind fun r34 =>
  (f_k34_J7_fill_53178_32 (-1) r34).bind fun r42 =>
  (f_k34_J7_fill_53178_33 0 r42).bind fun r50 =>
  some r50
set_option maxRecDepth 100000 in
set_option maxHeartbeats 4000000 in
theorem c_k34_X1_begin_27 (Γ : GT) (ad : Nat → Nat) (R : Nat → Nat → Option Nat) (hR27_3 : R 27 3 = some (ad 28)) (hR27_4 : R 27 4 = some (ad 29)) (hR27_5 : R 27 5 = some (ad 30)) (hR27_6 : R 27 6 = some (ad 31)) (hR27_7 : R 27 7 = some (ad 32)) (hR27_8 : R 27 8 = some (ad 33)) (I : IT) (J : JT) (r : IT) (h : f_k34_X1_begin_27 I = some r) : CALL Γ mX1_begin (0, 0) [.ref (ad 27)] ((LAYc.take 34, R, ad)) I J (QE none ((LAYc.take 34, R, ad)) r J) := by
  refine call_of' (by decide) (Nat.le_of_ble_eq_true rfl) (lv0 := [(0, .ref (ad 27))]) rfl ?_
  unfold f_k34_X1_begin_27 at h
  refine wp_aload_n dX1_begin_0 0 rfl ?_
  refine wp_iconst (v := 0) dX1_begin_1 (by decide) ?_
  refine wp_putI (k := 27) dX1_begin_2 flX1_37 rfl rfl rfl rfl rfl rfl rfl rfl ?_
  refine wp_aload_n dX1_begin_5 0 rfl ?_
  refine wp_getR (k := 27) (a' := ad 28) dX1_begin_6 flX1_9 rfl rfl rfl rfl hR27_3 ?_
  refine wp_iconst (v := 0) dX1_begin_9 (by decide) ?_
  obtain ⟨r10, h10, h⟩ := o_bind h
  refine wp_callsV (c_k34_J7_fill_53178_28 Γ ad R 0 (upI I 27 1 0) J r10 h10) dX1_begin_10 mlX1_41 mwJ7_fill_53178 miJ7_fill_53178 rfl (Nat.le_of_ble_eq_true rfl) rfl (by decide) (by decide) ?_
  refine wp_aload_n dX1_begin_13 0 rfl ?_
  refine wp_getR (k := 27) (a' := ad 29) dX1_begin_14 flX1_15 rfl rfl rfl rfl hR27_4 ?_
  refine wp_iconst (v := 0) dX1_begin_17 (by decide) ?_
  obtain ⟨r18, h18, h⟩ := o_bind h
  refine wp_callsV (c_k34_J7_fill_53178_29 Γ ad R 0 r10 J r18 h18) dX1_begin_18 mlX1_41 mwJ7_fill_53178 miJ7_fill_53178 rfl (Nat.le_of_ble_eq_true rfl) rfl (by decide) (by decide) ?_
  refine wp_aload_n dX1_begin_21 0 rfl ?_
  refine wp_getR (k := 27) (a' := ad 30) dX1_begin_22 flX1_18 rfl rfl rfl rfl hR27_5 ?_
  refine wp_iconst (v := 0) dX1_begin_25 (by decide) ?_
  obtain ⟨r26, h26, h⟩ := o_bind h
  refine wp_callsV (c_k34_J7_fill_53178_30 Γ ad R 0 r18 J r26 h26) dX1_begin_26 mlX1_41 mwJ7_fill_53178 miJ7_fill_53178 rfl (Nat.le_of_ble_eq_true rfl) rfl (by decide) (by decide) ?_
  refine wp_aload_n dX1_begin_29 0 rfl ?_
  refine wp_getR (k := 27) (a' := ad 31) dX1_begin_30 flX1_21 rfl rfl rfl rfl hR27_6 ?_
  refine wp_iconst (v := (-1)) dX1_begin_33 (by decide) ?_
  obtain ⟨r34, h34, h⟩ := o_bind h
  refine wp_callsV (c_k34_J7_fill_53178_31 Γ ad R (-1) r26 J r34 h34) dX1_begin_34 mlX1_41 mwJ7_fill_53178 miJ7_fill_53178 rfl (Nat.le_of_ble_eq_true rfl) rfl (by decide) (by decide) ?_
  refine wp_aload_n dX1_begin_37 0 rfl ?_
  refine wp_getR (k := 27) (a' := ad 32) dX1_begin_38 flX1_24 rfl rfl rfl rfl hR27_7 ?_
  refine wp_iconst (v := (-1)) dX1_begin_41 (by decide) ?_
  obtain ⟨r42, h42, h⟩ := o_bind h
  refine wp_callsV (c_k34_J7_fill_53178_32 Γ ad R (-1) r34 J r42 h42) dX1_begin_42 mlX1_41 mwJ7_fill_53178 miJ7_fill_53178 rfl (Nat.le_of_ble_eq_true rfl) rfl (by decide) (by decide) ?_
  refine wp_aload_n dX1_begin_45 0 rfl ?_
  refine wp_getR (k := 27) (a' := ad 33) dX1_begin_46 flX1_27 rfl rfl rfl rfl hR27_8 ?_
  refine wp_iconst (v := 0) dX1_begin_49 (by decide) ?_
  obtain ⟨r50, h50, h⟩ := o_bind h
  refine wp_callsV (c_k34_J7_fill_53178_33 Γ ad R 0 r42 J r50 h50) dX1_begin_50 mlX1_41 mwJ7_fill_53178 miJ7_fill_53178 rfl (Nat.le_of_ble_eq_true rfl) rfl (by decide) (by decide) ?_
  obtain rfl := Option.some.inj h
  exact wp_return dX1_begin_53 rfl ⟨rfl, rfl, rfl, rfl⟩
def f_k88_X10_bare_63 : Nat → Int32 → IT → Option (IT)
  | 0, _, _ => none
  | n + 1, v1, I =>
    if (6 : Int32) ≤ v1 then
      some I
    else
      if inbB v1 6 = true then
        if inbB v1 6 = true then
          f_k88_X10_bare_63 n (v1 + 1) (upI (upI I 64 v1.toNatClampNeg (-1)) 65 v1.toNatClampNeg (-1))
        else none
      else none
def f_k88_X10_bare_35 : Nat → Int32 → IT → Option (IT)
  | 0, _, _ => none
  | n + 1, v1, I =>
    if (84 : Int32) ≤ v1 then
      f_k88_X10_bare_63 FU 0 I
    else
      if inbB v1 84 = true then
        if inbB v1 84 = true then
          f_k88_X10_bare_35 n (v1 + 1) (upI (upI I 62 v1.toNatClampNeg (-1)) 63 v1.toNatClampNeg (-1))
        else none
      else none
def f_k88_X10_bare_7 : Nat → Int32 → IT → Option (IT)
  | 0, _, _ => none
  | n + 1, v1, I =>
    if (14 : Int32) ≤ v1 then
      f_k88_X10_bare_35 FU 0 I
    else
      if inbB v1 14 = true then
        if inbB v1 14 = true then
          f_k88_X10_bare_7 n (v1 + 1) (upI (upI I 61 v1.toNatClampNeg 0) 66 v1.toNatClampNeg 0)
        else none
      else none
def f_k88_X10_bare (I : IT) : Option (IT) :=
  f_k88_X10_bare_7 FU 0 (upI I 55 16 0)
set_option maxRecDepth 100000 in
set_option maxHeartbeats 4000000 in
theorem w_k88_X10_bare_63 (Γ : GT) (ad : Nat → Nat) (R : Nat → Nat → Option Nat) (hR55_13 : R 55 13 = some (ad 64)) (hR55_14 : R 55 14 = some (ad 65)) : ∀ (n : Nat) (v1 : Int32) (I : IT) (J : JT) (r : IT), f_k88_X10_bare_63 n v1 I = some r → WP Γ mX10_bare (0, 0) 63 [(0, .ref (ad 55)), (1, .int v1)] [] ((LAYc.take 88, R, ad)) I J (QE none ((LAYc.take 88, R, ad)) r J) := by
  intro n
  induction n with
  | zero => intro v1 I J r h; exact absurd h (by simp [f_k88_X10_bare_63])
  | succ n ih =>
    intro v1 I J r h
    rw [f_k88_X10_bare_63] at h
    refine wp_iload_n dX10_bare_63 1 rfl ?_
    refine wp_bipush (v := 6) dX10_bare_64 (by decide) ?_
    refine wp_icmp_ge 89 dX10_bare_66 rfl (fun c66 => ?_) (fun c66 => ?_)
    · replace h := o_pos h c66
      obtain rfl := Option.some.inj h
      exact wp_return dX10_bare_89 rfl ⟨rfl, rfl, rfl, rfl⟩
    · replace h := o_neg h c66
      refine wp_aload_n dX10_bare_69 0 rfl ?_
      refine wp_getR (k := 55) (a' := ad 64) dX10_bare_70 flX10_41 rfl rfl rfl rfl hR55_13 ?_
      refine wp_iload_n dX10_bare_73 1 rfl ?_
      refine wp_iconst (v := (-1)) dX10_bare_74 (by decide) ?_
      obtain ⟨g75, h⟩ := o_grd h
      refine wp_iast (k := 64) dX10_bare_75 rfl rfl (inb_of g75) ?_
      refine wp_aload_n dX10_bare_76 0 rfl ?_
      refine wp_getR (k := 55) (a' := ad 65) dX10_bare_77 flX10_44 rfl rfl rfl rfl hR55_14 ?_
      refine wp_iload_n dX10_bare_80 1 rfl ?_
      refine wp_iconst (v := (-1)) dX10_bare_81 (by decide) ?_
      obtain ⟨g82, h⟩ := o_grd h
      refine wp_iast (k := 65) dX10_bare_82 rfl rfl (inb_of g82) ?_
      refine wp_iinc (v := v1 + 1) (lv' := [(0, _), (1, _)]) dX10_bare_83 1 rfl rfl rfl rfl rfl ?_
      refine wp_goto 63 dX10_bare_86 rfl ?_
      refine wp_pick [0, 1] (lv' := [(0, _), (1, _)]) rfl ?_
      exact ih (v1 + 1) (upI (upI I 64 v1.toNatClampNeg (-1)) 65 v1.toNatClampNeg (-1)) J r h
set_option maxRecDepth 100000 in
set_option maxHeartbeats 4000000 in
theorem w_k88_X10_bare_35 (Γ : GT) (ad : Nat → Nat) (R : Nat → Nat → Option Nat) (hR55_13 : R 55 13 = some (ad 64)) (hR55_14 : R 55 14 = some (ad 65)) (hR55_11 : R 55 11 = some (ad 62)) (hR55_12 : R 55 12 = some (ad 63)) : ∀ (n : Nat) (v1 : Int32) (I : IT) (J : JT) (r : IT), f_k88_X10_bare_35 n v1 I = some r → WP Γ mX10_bare (0, 0) 35 [(0, .ref (ad 55)), (1, .int v1)] [] ((LAYc.take 88, R, ad)) I J (QE none ((LAYc.take 88, R, ad)) r J) := by
  intro n
  induction n with
  | zero => intro v1 I J r h; exact absurd h (by simp [f_k88_X10_bare_35])
  | succ n ih =>
    intro v1 I J r h
    rw [f_k88_X10_bare_35] at h
    refine wp_iload_n dX10_bare_35 1 rfl ?_
    refine wp_bipush (v := 84) dX10_bare_36 (by decide) ?_
    refine wp_icmp_ge 61 dX10_bare_38 rfl (fun c38 => ?_) (fun c38 => ?_)
    · replace h := o_pos h c38
      refine wp_iconst (v := 0) dX10_bare_61 (by decide) ?_
      refine wp_istore_n (lv' := [(0, _), (1, _)]) dX10_bare_62 rfl rfl rfl rfl ?_
      refine wp_pick [0, 1] (lv' := [(0, _), (1, _)]) rfl ?_
      exact w_k88_X10_bare_63 Γ ad R hR55_13 hR55_14 FU 0 I J r h
    · replace h := o_neg h c38
      refine wp_aload_n dX10_bare_41 0 rfl ?_
      refine wp_getR (k := 55) (a' := ad 62) dX10_bare_42 flX10_35 rfl rfl rfl rfl hR55_11 ?_
      refine wp_iload_n dX10_bare_45 1 rfl ?_
      refine wp_iconst (v := (-1)) dX10_bare_46 (by decide) ?_
      obtain ⟨g47, h⟩ := o_grd h
      refine wp_iast (k := 62) dX10_bare_47 rfl rfl (inb_of g47) ?_
      refine wp_aload_n dX10_bare_48 0 rfl ?_
      refine wp_getR (k := 55) (a' := ad 63) dX10_bare_49 flX10_38 rfl rfl rfl rfl hR55_12 ?_
      refine wp_iload_n dX10_bare_52 1 rfl ?_
      refine wp_iconst (v := (-1)) dX10_bare_53 (by decide) ?_
      obtain ⟨g54, h⟩ := o_grd h
      refine wp_iast (k := 63) dX10_bare_54 rfl rfl (inb_of g54) ?_
      refine wp_iinc (v := v1 + 1) (lv' := [(0, _), (1, _)]) dX10_bare_55 1 rfl rfl rfl rfl rfl ?_
      refine wp_goto 35 dX10_bare_58 rfl ?_
      refine wp_pick [0, 1] (lv' := [(0, _), (1, _)]) rfl ?_
      exact ih (v1 + 1) (upI (upI I 62 v1.toNatClampNeg (-1)) 63 v1.toNatClampNeg (-1)) J r h
set_option maxRecDepth 100000 in
set_option maxHeartbeats 4000000 in
theorem w_k88_X10_bare_7 (Γ : GT) (ad : Nat → Nat) (R : Nat → Nat → Option Nat) (hR55_13 : R 55 13 = some (ad 64)) (hR55_14 : R 55 14 = some (ad 65)) (hR55_11 : R 55 11 = some (ad 62)) (hR55_12 : R 55 12 = some (ad 63)) (hR55_10 : R 55 10 = some (ad 61)) (hR55_15 : R 55 15 = some (ad 66)) : ∀ (n : Nat) (v1 : Int32) (I : IT) (J : JT) (r : IT), f_k88_X10_bare_7 n v1 I = some r → WP Γ mX10_bare (0, 0) 7 [(0, .ref (ad 55)), (1, .int v1)] [] ((LAYc.take 88, R, ad)) I J (QE none ((LAYc.take 88, R, ad)) r J) := by
  intro n
  induction n with
  | zero => intro v1 I J r h; exact absurd h (by simp [f_k88_X10_bare_7])
  | succ n ih =>
    intro v1 I J r h
    rw [f_k88_X10_bare_7] at h
    refine wp_iload_n dX10_bare_7 1 rfl ?_
    refine wp_bipush (v := 14) dX10_bare_8 (by decide) ?_
    refine wp_icmp_ge 33 dX10_bare_10 rfl (fun c10 => ?_) (fun c10 => ?_)
    · replace h := o_pos h c10
      refine wp_iconst (v := 0) dX10_bare_33 (by decide) ?_
      refine wp_istore_n (lv' := [(0, _), (1, _)]) dX10_bare_34 rfl rfl rfl rfl ?_
      refine wp_pick [0, 1] (lv' := [(0, _), (1, _)]) rfl ?_
      exact w_k88_X10_bare_35 Γ ad R hR55_13 hR55_14 hR55_11 hR55_12 FU 0 I J r h
    · replace h := o_neg h c10
      refine wp_aload_n dX10_bare_13 0 rfl ?_
      refine wp_getR (k := 55) (a' := ad 61) dX10_bare_14 flX10_32 rfl rfl rfl rfl hR55_10 ?_
      refine wp_iload_n dX10_bare_17 1 rfl ?_
      refine wp_iconst (v := 0) dX10_bare_18 (by decide) ?_
      obtain ⟨g19, h⟩ := o_grd h
      refine wp_iast (k := 61) dX10_bare_19 rfl rfl (inb_of g19) ?_
      refine wp_aload_n dX10_bare_20 0 rfl ?_
      refine wp_getR (k := 55) (a' := ad 66) dX10_bare_21 flX10_47 rfl rfl rfl rfl hR55_15 ?_
      refine wp_iload_n dX10_bare_24 1 rfl ?_
      refine wp_iconst (v := 0) dX10_bare_25 (by decide) ?_
      obtain ⟨g26, h⟩ := o_grd h
      refine wp_iast (k := 66) dX10_bare_26 rfl rfl (inb_of g26) ?_
      refine wp_iinc (v := v1 + 1) (lv' := [(0, _), (1, _)]) dX10_bare_27 1 rfl rfl rfl rfl rfl ?_
      refine wp_goto 7 dX10_bare_30 rfl ?_
      refine wp_pick [0, 1] (lv' := [(0, _), (1, _)]) rfl ?_
      exact ih (v1 + 1) (upI (upI I 61 v1.toNatClampNeg 0) 66 v1.toNatClampNeg 0) J r h
set_option maxRecDepth 100000 in
set_option maxHeartbeats 4000000 in
theorem c_k88_X10_bare (Γ : GT) (ad : Nat → Nat) (R : Nat → Nat → Option Nat) (hR55_13 : R 55 13 = some (ad 64)) (hR55_14 : R 55 14 = some (ad 65)) (hR55_11 : R 55 11 = some (ad 62)) (hR55_12 : R 55 12 = some (ad 63)) (hR55_10 : R 55 10 = some (ad 61)) (hR55_15 : R 55 15 = some (ad 66)) (I : IT) (J : JT) (r : IT) (h : f_k88_X10_bare I = some r) : CALL Γ mX10_bare (0, 0) [.ref (ad 55)] ((LAYc.take 88, R, ad)) I J (QE none ((LAYc.take 88, R, ad)) r J) := by
  refine call_of' (by decide) (Nat.le_of_ble_eq_true rfl) (lv0 := [(0, .ref (ad 55))]) rfl ?_
  unfold f_k88_X10_bare at h
  refine wp_aload_n dX10_bare_0 0 rfl ?_
  refine wp_iconst (v := 0) dX10_bare_1 (by decide) ?_
  refine wp_putI (k := 55) dX10_bare_2 flX10_138 rfl rfl rfl rfl rfl rfl rfl rfl ?_
  refine wp_iconst (v := 0) dX10_bare_5 (by decide) ?_
  refine wp_istore_n (lv' := [(0, _), (1, _)]) dX10_bare_6 rfl rfl rfl rfl ?_
  refine wp_pick [0, 1] (lv' := [(0, _), (1, _)]) rfl ?_
  exact w_k88_X10_bare_7 Γ ad R hR55_13 hR55_14 hR55_11 hR55_12 hR55_10 hR55_15 FU 0 (upI I 55 16 0) J r h
set_option maxRecDepth 100000 in
set_option maxHeartbeats 4000000 in
theorem k_X6_init_2 (Γ : GT) (R : Nat → Nat → Option Nat) (ad : Nat → Nat) (I : IT) (J : JT) : CALL Γ mX6_init (1, 500) [.ref (ad 1)] (LAYc.take 2, R, ad) I J (fun r Δ' I' J' => r = none ∧ ∃ q2 : Nat, Δ' = (LAYc.take 3, upR (upF (R) 2 (fun _ => none)) 1 0 (some (q2)), upF (ad) 2 q2) ∧ I' = upF (I) 2 (fun _ => 0) ∧ J' = upF (J) 2 (fun _ => 0)) := by
  refine call_of' (by decide) (Nat.le_of_ble_eq_true rfl) (lv0 := [(0, .ref (ad 1))]) rfl ?_
  refine wp_aload_n dX6_init_0 0 rfl ?_
  refine wp_objInit dX6_init_1 mlX6_3 (by decide) (Nat.le_of_ble_eq_true rfl) ?_
  refine wp_aload_n dX6_init_4 0 rfl ?_
  refine wp_sipush (v := 500) dX6_init_5 (by decide) ?_
  refine wp_newaB (n' := 500) (N := 2) dX6_init_8 (by decide) (by decide) (by decide) rfl (by decide) (fun q2 => ?_)
  show WP Γ _ (_, _) _ _ _ (LAYc.take 3, _, _) _ _ _
  refine wp_putRF (k := 1) dX6_init_10 flX6_9 rfl rfl rfl rfl rfl rfl rfl rfl rfl rfl ?_
  exact wp_return dX6_init_13 rfl ⟨rfl, q2, rfl, rfl, rfl⟩
set_option maxRecDepth 100000 in
set_option maxHeartbeats 4000000 in
theorem k_X2_init_4 (Γ : GT) (R : Nat → Nat → Option Nat) (ad : Nat → Nat) (I : IT) (J : JT) (r1 : IT) (hr1 : f_k7_X2_clear (upF (upF (upF (I) 4 (fun _ => 0)) 5 (fun _ => 0)) 6 (fun _ => 0)) = some r1) : CALL Γ mX2_init (3, 64) [.ref (ad 3)] (LAYc.take 4, R, ad) I J (fun r Δ' I' J' => r = none ∧ ∃ q4 q5 q6 : Nat, Δ' = (LAYc.take 7, upR (upF (upR (upF (upR (upF (R) 4 (fun _ => none)) 3 5 (some (q4))) 5 (fun _ => none)) 3 6 (some (q5))) 6 (fun _ => none)) 3 7 (some (q6)), upF (upF (upF (ad) 4 q4) 5 q5) 6 q6) ∧ I' = r1 ∧ J' = upF (upF (upF (J) 4 (fun _ => 0)) 5 (fun _ => 0)) 6 (fun _ => 0)) := by
  refine call_of' (by decide) (Nat.le_of_ble_eq_true rfl) (lv0 := [(0, .ref (ad 3))]) rfl ?_
  refine wp_aload_n dX2_init_0 0 rfl ?_
  refine wp_objInit dX2_init_1 mlX2_3 (by decide) (Nat.le_of_ble_eq_true rfl) ?_
  refine wp_aload_n dX2_init_4 0 rfl ?_
  refine wp_bipush (v := 14) dX2_init_5 (by decide) ?_
  refine wp_newaI (n' := 14) (N := 4) dX2_init_7 (by decide) (by decide) (by decide) rfl (by decide) (fun q4 => ?_)
  show WP Γ _ (_, _) _ _ _ (LAYc.take 5, _, _) _ _ _
  refine wp_putRF (k := 3) dX2_init_9 flX2_9 rfl rfl rfl rfl rfl rfl rfl rfl rfl rfl ?_
  refine wp_aload_n dX2_init_12 0 rfl ?_
  refine wp_bipush (v := 14) dX2_init_13 (by decide) ?_
  refine wp_newaI (n' := 14) (N := 5) dX2_init_15 (by decide) (by decide) (by decide) rfl (by decide) (fun q5 => ?_)
  show WP Γ _ (_, _) _ _ _ (LAYc.take 6, _, _) _ _ _
  refine wp_putRF (k := 3) dX2_init_17 flX2_15 rfl rfl rfl rfl rfl rfl rfl rfl rfl rfl ?_
  refine wp_aload_n dX2_init_20 0 rfl ?_
  refine wp_bipush (v := 36) dX2_init_21 (by decide) ?_
  refine wp_newaI (n' := 36) (N := 6) dX2_init_23 (by decide) (by decide) (by decide) rfl (by decide) (fun q6 => ?_)
  show WP Γ _ (_, _) _ _ _ (LAYc.take 7, _, _) _ _ _
  refine wp_putRF (k := 3) dX2_init_25 flX2_18 rfl rfl rfl rfl rfl rfl rfl rfl rfl rfl ?_
  refine wp_aload_n dX2_init_28 0 rfl ?_
  refine wp_callvV0 (k := 3) (ci := 2) (c_k7_X2_clear Γ _ _ _ _ r1 hr1) dX2_init_29 mlX2_21 mwX2_clear miX2_clear rfl rfl rfl rfl (Nat.le_of_ble_eq_true rfl) rfl (by decide) (by decide) ?_
  exact wp_return dX2_init_32 rfl ⟨rfl, q4, q5, q6, rfl, rfl, rfl⟩
set_option maxRecDepth 100000 in
set_option maxHeartbeats 4000000 in
theorem k_X2_init_9 (Γ : GT) (R : Nat → Nat → Option Nat) (ad : Nat → Nat) (I : IT) (J : JT) (r1 : IT) (hr1 : f_k12_X2_clear_8 (upF (upF (upF (I) 9 (fun _ => 0)) 10 (fun _ => 0)) 11 (fun _ => 0)) = some r1) : CALL Γ mX2_init (3, 64) [.ref (ad 8)] (LAYc.take 9, R, ad) I J (fun r Δ' I' J' => r = none ∧ ∃ q9 q10 q11 : Nat, Δ' = (LAYc.take 12, upR (upF (upR (upF (upR (upF (R) 9 (fun _ => none)) 8 5 (some (q9))) 10 (fun _ => none)) 8 6 (some (q10))) 11 (fun _ => none)) 8 7 (some (q11)), upF (upF (upF (ad) 9 q9) 10 q10) 11 q11) ∧ I' = r1 ∧ J' = upF (upF (upF (J) 9 (fun _ => 0)) 10 (fun _ => 0)) 11 (fun _ => 0)) := by
  refine call_of' (by decide) (Nat.le_of_ble_eq_true rfl) (lv0 := [(0, .ref (ad 8))]) rfl ?_
  refine wp_aload_n dX2_init_0 0 rfl ?_
  refine wp_objInit dX2_init_1 mlX2_3 (by decide) (Nat.le_of_ble_eq_true rfl) ?_
  refine wp_aload_n dX2_init_4 0 rfl ?_
  refine wp_bipush (v := 14) dX2_init_5 (by decide) ?_
  refine wp_newaI (n' := 14) (N := 9) dX2_init_7 (by decide) (by decide) (by decide) rfl (by decide) (fun q9 => ?_)
  show WP Γ _ (_, _) _ _ _ (LAYc.take 10, _, _) _ _ _
  refine wp_putRF (k := 8) dX2_init_9 flX2_9 rfl rfl rfl rfl rfl rfl rfl rfl rfl rfl ?_
  refine wp_aload_n dX2_init_12 0 rfl ?_
  refine wp_bipush (v := 14) dX2_init_13 (by decide) ?_
  refine wp_newaI (n' := 14) (N := 10) dX2_init_15 (by decide) (by decide) (by decide) rfl (by decide) (fun q10 => ?_)
  show WP Γ _ (_, _) _ _ _ (LAYc.take 11, _, _) _ _ _
  refine wp_putRF (k := 8) dX2_init_17 flX2_15 rfl rfl rfl rfl rfl rfl rfl rfl rfl rfl ?_
  refine wp_aload_n dX2_init_20 0 rfl ?_
  refine wp_bipush (v := 36) dX2_init_21 (by decide) ?_
  refine wp_newaI (n' := 36) (N := 11) dX2_init_23 (by decide) (by decide) (by decide) rfl (by decide) (fun q11 => ?_)
  show WP Γ _ (_, _) _ _ _ (LAYc.take 12, _, _) _ _ _
  refine wp_putRF (k := 8) dX2_init_25 flX2_18 rfl rfl rfl rfl rfl rfl rfl rfl rfl rfl ?_
  refine wp_aload_n dX2_init_28 0 rfl ?_
  refine wp_callvV0 (k := 8) (ci := 2) (c_k12_X2_clear_8 Γ _ _ _ _ r1 hr1) dX2_init_29 mlX2_21 mwX2_clear miX2_clear rfl rfl rfl rfl (Nat.le_of_ble_eq_true rfl) rfl (by decide) (by decide) ?_
  exact wp_return dX2_init_32 rfl ⟨rfl, q9, q10, q11, rfl, rfl, rfl⟩
set_option maxRecDepth 100000 in
set_option maxHeartbeats 4000000 in
theorem k_X4_init_8 (Γ : GT) (R : Nat → Nat → Option Nat) (ad : Nat → Nat) (I : IT) (J : JT) (r1 : IT) (hr1 : f_k12_X2_clear_8 (upF (upF (upF ((upF (I) 8 (fun _ => 0))) 9 (fun _ => 0)) 10 (fun _ => 0)) 11 (fun _ => 0)) = some r1) : CALL Γ mX4_init (4, 72) [.ref (ad 7), .ref (ad 1)] (LAYc.take 8, R, ad) I J (fun r Δ' I' J' => r = none ∧ ∃ q8 q9 q10 q11 : Nat, Δ' = (LAYc.take 12, upR (upR (upR (upF (upR (upF (upR (upF ((upF (R) 8 (fun _ => none))) 9 (fun _ => none)) 8 5 (some (q9))) 10 (fun _ => none)) 8 6 (some (q10))) 11 (fun _ => none)) 8 7 (some (q11))) 7 1 (some (q8))) 7 0 (some (ad 1)), upF (upF (upF ((upF (ad) 8 q8)) 9 q9) 10 q10) 11 q11) ∧ I' = r1 ∧ J' = upF (upF (upF ((upF (J) 8 (fun _ => 0))) 9 (fun _ => 0)) 10 (fun _ => 0)) 11 (fun _ => 0)) := by
  refine call_of' (by decide) (Nat.le_of_ble_eq_true rfl) (lv0 := [(0, .ref (ad 7)), (1, .ref (ad 1))]) rfl ?_
  refine wp_aload_n dX4_init_0 0 rfl ?_
  refine wp_objInit dX4_init_1 mlX4_3 (by decide) (Nat.le_of_ble_eq_true rfl) ?_
  refine wp_aload_n dX4_init_4 0 rfl ?_
  refine wp_new (ci := 2) (n := 8) (N := 8) dX4_init_5 (by decide) rfl (tb1 117 (by decide +kernel) rfl) (tb1 45 (by decide +kernel) rfl) (tb1 3 (by decide +kernel) rfl) rfl (by decide) (fun q8 => ?_)
  show WP Γ _ (_, _) _ _ _ (LAYc.take 9, _, _) _ _ _
  refine wp_dup dX4_init_8 rfl ?_
  refine wp_calli (mt' := mX2_init) (b' := (3, 64)) (k_X2_init_9 Γ _ _ _ _ r1 hr1) dX4_init_9 mlX4_11 mwX2_init (tb1 47 (by decide +kernel) rfl) rfl rfl rfl (Nat.le_of_ble_eq_true rfl) rfl (by decide) (by decide) (by decide) (fun r Δ' I' J' hq => ?_)
  obtain ⟨rfl, q9, q10, q11, rfl, rfl, rfl⟩ := hq
  show WP Γ _ (_, _) _ _ _ (LAYc.take 12, _, _) _ _ _
  refine wp_putRF (k := 7) dX4_init_12 flX4_12 rfl rfl rfl rfl rfl rfl rfl rfl rfl rfl ?_
  refine wp_aload_n dX4_init_15 0 rfl ?_
  refine wp_aload_n dX4_init_16 1 rfl ?_
  refine wp_putRF (k := 7) dX4_init_17 flX4_18 rfl rfl rfl rfl rfl rfl rfl rfl rfl rfl ?_
  exact wp_return dX4_init_20 rfl ⟨rfl, q8, q9, q10, q11, rfl, rfl, rfl⟩
set_option maxRecDepth 100000 in
set_option maxHeartbeats 4000000 in
theorem k_X1_init_13 (Γ : GT) (R : Nat → Nat → Option Nat) (ad : Nat → Nat) (I : IT) (J : JT) (r1 : IT) (hr1 : f_k19_X1_begin (upF (upF (upF (upF (upF (upF (I) 13 (fun _ => 0)) 14 (fun _ => 0)) 15 (fun _ => 0)) 16 (fun _ => 0)) 17 (fun _ => 0)) 18 (fun _ => 0)) = some r1) : CALL Γ mX1_init (6, 208) [.ref (ad 12), .ref (ad 3)] (LAYc.take 13, R, ad) I J (fun r Δ' I' J' => r = none ∧ ∃ q13 q14 q15 q16 q17 q18 : Nat, Δ' = (LAYc.take 19, upR (upR (upF (upR (upF (upR (upF (upR (upF (upR (upF (upR (upF (R) 13 (fun _ => none)) 12 3 (some (q13))) 14 (fun _ => none)) 12 4 (some (q14))) 15 (fun _ => none)) 12 5 (some (q15))) 16 (fun _ => none)) 12 6 (some (q16))) 17 (fun _ => none)) 12 7 (some (q17))) 18 (fun _ => none)) 12 8 (some (q18))) 12 0 (some (ad 3)), upF (upF (upF (upF (upF (upF (ad) 13 q13) 14 q14) 15 q15) 16 q16) 17 q17) 18 q18) ∧ I' = r1 ∧ J' = upF (upF (upF (upF (upF (upF (J) 13 (fun _ => 0)) 14 (fun _ => 0)) 15 (fun _ => 0)) 16 (fun _ => 0)) 17 (fun _ => 0)) 18 (fun _ => 0)) := by
  refine call_of' (by decide) (Nat.le_of_ble_eq_true rfl) (lv0 := [(0, .ref (ad 12)), (1, .ref (ad 3))]) rfl ?_
  refine wp_aload_n dX1_init_0 0 rfl ?_
  refine wp_objInit dX1_init_1 mlX1_3 (by decide) (Nat.le_of_ble_eq_true rfl) ?_
  refine wp_aload_n dX1_init_4 0 rfl ?_
  refine wp_bipush (v := 14) dX1_init_5 (by decide) ?_
  refine wp_newaI (n' := 14) (N := 13) dX1_init_7 (by decide) (by decide) (by decide) rfl (by decide) (fun q13 => ?_)
  show WP Γ _ (_, _) _ _ _ (LAYc.take 14, _, _) _ _ _
  refine wp_putRF (k := 12) dX1_init_9 flX1_9 rfl rfl rfl rfl rfl rfl rfl rfl rfl rfl ?_
  refine wp_aload_n dX1_init_12 0 rfl ?_
  refine wp_bipush (v := 84) dX1_init_13 (by decide) ?_
  refine wp_newaI (n' := 84) (N := 14) dX1_init_15 (by decide) (by decide) (by decide) rfl (by decide) (fun q14 => ?_)
  show WP Γ _ (_, _) _ _ _ (LAYc.take 15, _, _) _ _ _
  refine wp_putRF (k := 12) dX1_init_17 flX1_15 rfl rfl rfl rfl rfl rfl rfl rfl rfl rfl ?_
  refine wp_aload_n dX1_init_20 0 rfl ?_
  refine wp_bipush (v := 84) dX1_init_21 (by decide) ?_
  refine wp_newaI (n' := 84) (N := 15) dX1_init_23 (by decide) (by decide) (by decide) rfl (by decide) (fun q15 => ?_)
  show WP Γ _ (_, _) _ _ _ (LAYc.take 16, _, _) _ _ _
  refine wp_putRF (k := 12) dX1_init_25 flX1_18 rfl rfl rfl rfl rfl rfl rfl rfl rfl rfl ?_
  refine wp_aload_n dX1_init_28 0 rfl ?_
  refine wp_bipush (v := 6) dX1_init_29 (by decide) ?_
  refine wp_newaI (n' := 6) (N := 16) dX1_init_31 (by decide) (by decide) (by decide) rfl (by decide) (fun q16 => ?_)
  show WP Γ _ (_, _) _ _ _ (LAYc.take 17, _, _) _ _ _
  refine wp_putRF (k := 12) dX1_init_33 flX1_21 rfl rfl rfl rfl rfl rfl rfl rfl rfl rfl ?_
  refine wp_aload_n dX1_init_36 0 rfl ?_
  refine wp_bipush (v := 6) dX1_init_37 (by decide) ?_
  refine wp_newaI (n' := 6) (N := 17) dX1_init_39 (by decide) (by decide) (by decide) rfl (by decide) (fun q17 => ?_)
  show WP Γ _ (_, _) _ _ _ (LAYc.take 18, _, _) _ _ _
  refine wp_putRF (k := 12) dX1_init_41 flX1_24 rfl rfl rfl rfl rfl rfl rfl rfl rfl rfl ?_
  refine wp_aload_n dX1_init_44 0 rfl ?_
  refine wp_bipush (v := 14) dX1_init_45 (by decide) ?_
  refine wp_newaI (n' := 14) (N := 18) dX1_init_47 (by decide) (by decide) (by decide) rfl (by decide) (fun q18 => ?_)
  show WP Γ _ (_, _) _ _ _ (LAYc.take 19, _, _) _ _ _
  refine wp_putRF (k := 12) dX1_init_49 flX1_27 rfl rfl rfl rfl rfl rfl rfl rfl rfl rfl ?_
  refine wp_aload_n dX1_init_52 0 rfl ?_
  refine wp_aload_n dX1_init_53 1 rfl ?_
  refine wp_putRF (k := 12) dX1_init_54 flX1_30 rfl rfl rfl rfl rfl rfl rfl rfl rfl rfl ?_
  refine wp_aload_n dX1_init_57 0 rfl ?_
  refine wp_callvV0 (k := 12) (ci := 1) (c_k19_X1_begin Γ _ _ rfl rfl rfl rfl rfl rfl _ _ r1 hr1) dX1_init_58 mlX1_34 mwX1_begin miX1_begin rfl rfl rfl rfl (Nat.le_of_ble_eq_true rfl) rfl (by decide) (by decide) ?_
  exact wp_return dX1_init_61 rfl ⟨rfl, q13, q14, q15, q16, q17, q18, rfl, rfl, rfl⟩
set_option maxRecDepth 100000 in
set_option maxHeartbeats 4000000 in
theorem k_X1_init_21 (Γ : GT) (R : Nat → Nat → Option Nat) (ad : Nat → Nat) (I : IT) (J : JT) (r1 : IT) (hr1 : f_k27_X1_begin_20 (upF (upF (upF (upF (upF (upF (I) 21 (fun _ => 0)) 22 (fun _ => 0)) 23 (fun _ => 0)) 24 (fun _ => 0)) 25 (fun _ => 0)) 26 (fun _ => 0)) = some r1) : CALL Γ mX1_init (6, 208) [.ref (ad 20), .ref (ad 3)] (LAYc.take 21, R, ad) I J (fun r Δ' I' J' => r = none ∧ ∃ q21 q22 q23 q24 q25 q26 : Nat, Δ' = (LAYc.take 27, upR (upR (upF (upR (upF (upR (upF (upR (upF (upR (upF (upR (upF (R) 21 (fun _ => none)) 20 3 (some (q21))) 22 (fun _ => none)) 20 4 (some (q22))) 23 (fun _ => none)) 20 5 (some (q23))) 24 (fun _ => none)) 20 6 (some (q24))) 25 (fun _ => none)) 20 7 (some (q25))) 26 (fun _ => none)) 20 8 (some (q26))) 20 0 (some (ad 3)), upF (upF (upF (upF (upF (upF (ad) 21 q21) 22 q22) 23 q23) 24 q24) 25 q25) 26 q26) ∧ I' = r1 ∧ J' = upF (upF (upF (upF (upF (upF (J) 21 (fun _ => 0)) 22 (fun _ => 0)) 23 (fun _ => 0)) 24 (fun _ => 0)) 25 (fun _ => 0)) 26 (fun _ => 0)) := by
  refine call_of' (by decide) (Nat.le_of_ble_eq_true rfl) (lv0 := [(0, .ref (ad 20)), (1, .ref (ad 3))]) rfl ?_
  refine wp_aload_n dX1_init_0 0 rfl ?_
  refine wp_objInit dX1_init_1 mlX1_3 (by decide) (Nat.le_of_ble_eq_true rfl) ?_
  refine wp_aload_n dX1_init_4 0 rfl ?_
  refine wp_bipush (v := 14) dX1_init_5 (by decide) ?_
  refine wp_newaI (n' := 14) (N := 21) dX1_init_7 (by decide) (by decide) (by decide) rfl (by decide) (fun q21 => ?_)
  show WP Γ _ (_, _) _ _ _ (LAYc.take 22, _, _) _ _ _
  refine wp_putRF (k := 20) dX1_init_9 flX1_9 rfl rfl rfl rfl rfl rfl rfl rfl rfl rfl ?_
  refine wp_aload_n dX1_init_12 0 rfl ?_
  refine wp_bipush (v := 84) dX1_init_13 (by decide) ?_
  refine wp_newaI (n' := 84) (N := 22) dX1_init_15 (by decide) (by decide) (by decide) rfl (by decide) (fun q22 => ?_)
  show WP Γ _ (_, _) _ _ _ (LAYc.take 23, _, _) _ _ _
  refine wp_putRF (k := 20) dX1_init_17 flX1_15 rfl rfl rfl rfl rfl rfl rfl rfl rfl rfl ?_
  refine wp_aload_n dX1_init_20 0 rfl ?_
  refine wp_bipush (v := 84) dX1_init_21 (by decide) ?_
  refine wp_newaI (n' := 84) (N := 23) dX1_init_23 (by decide) (by decide) (by decide) rfl (by decide) (fun q23 => ?_)
  show WP Γ _ (_, _) _ _ _ (LAYc.take 24, _, _) _ _ _
  refine wp_putRF (k := 20) dX1_init_25 flX1_18 rfl rfl rfl rfl rfl rfl rfl rfl rfl rfl ?_
  refine wp_aload_n dX1_init_28 0 rfl ?_
  refine wp_bipush (v := 6) dX1_init_29 (by decide) ?_
  refine wp_newaI (n' := 6) (N := 24) dX1_init_31 (by decide) (by decide) (by decide) rfl (by decide) (fun q24 => ?_)
  show WP Γ _ (_, _) _ _ _ (LAYc.take 25, _, _) _ _ _
  refine wp_putRF (k := 20) dX1_init_33 flX1_21 rfl rfl rfl rfl rfl rfl rfl rfl rfl rfl ?_
  refine wp_aload_n dX1_init_36 0 rfl ?_
  refine wp_bipush (v := 6) dX1_init_37 (by decide) ?_
  refine wp_newaI (n' := 6) (N := 25) dX1_init_39 (by decide) (by decide) (by decide) rfl (by decide) (fun q25 => ?_)
  show WP Γ _ (_, _) _ _ _ (LAYc.take 26, _, _) _ _ _
  refine wp_putRF (k := 20) dX1_init_41 flX1_24 rfl rfl rfl rfl rfl rfl rfl rfl rfl rfl ?_
  refine wp_aload_n dX1_init_44 0 rfl ?_
  refine wp_bipush (v := 14) dX1_init_45 (by decide) ?_
  refine wp_newaI (n' := 14) (N := 26) dX1_init_47 (by decide) (by decide) (by decide) rfl (by decide) (fun q26 => ?_)
  show WP Γ _ (_, _) _ _ _ (LAYc.take 27, _, _) _ _ _
  refine wp_putRF (k := 20) dX1_init_49 flX1_27 rfl rfl rfl rfl rfl rfl rfl rfl rfl rfl ?_
  refine wp_aload_n dX1_init_52 0 rfl ?_
  refine wp_aload_n dX1_init_53 1 rfl ?_
  refine wp_putRF (k := 20) dX1_init_54 flX1_30 rfl rfl rfl rfl rfl rfl rfl rfl rfl rfl ?_
  refine wp_aload_n dX1_init_57 0 rfl ?_
  refine wp_callvV0 (k := 20) (ci := 1) (c_k27_X1_begin_20 Γ _ _ rfl rfl rfl rfl rfl rfl _ _ r1 hr1) dX1_init_58 mlX1_34 mwX1_begin miX1_begin rfl rfl rfl rfl (Nat.le_of_ble_eq_true rfl) rfl (by decide) (by decide) ?_
  exact wp_return dX1_init_61 rfl ⟨rfl, q21, q22, q23, q24, q25, q26, rfl, rfl, rfl⟩
set_option maxRecDepth 100000 in
set_option maxHeartbeats 4000000 in
theorem k_X1_init_28 (Γ : GT) (R : Nat → Nat → Option Nat) (ad : Nat → Nat) (I : IT) (J : JT) (r1 : IT) (hr1 : f_k34_X1_begin_27 (upF (upF (upF (upF (upF (upF (I) 28 (fun _ => 0)) 29 (fun _ => 0)) 30 (fun _ => 0)) 31 (fun _ => 0)) 32 (fun _ => 0)) 33 (fun _ => 0)) = some r1) : CALL Γ mX1_init (6, 208) [.ref (ad 27), .ref (ad 3)] (LAYc.take 28, R, ad) I J (fun r Δ' I' J' => r = none ∧ ∃ q28 q29 q30 q31 q32 q33 : Nat, Δ' = (LAYc.take 34, upR (upR (upF (upR (upF (upR (upF (upR (upF (upR (upF (upR (upF (R) 28 (fun _ => none)) 27 3 (some (q28))) 29 (fun _ => none)) 27 4 (some (q29))) 30 (fun _ => none)) 27 5 (some (q30))) 31 (fun _ => none)) 27 6 (some (q31))) 32 (fun _ => none)) 27 7 (some (q32))) 33 (fun _ => none)) 27 8 (some (q33))) 27 0 (some (ad 3)), upF (upF (upF (upF (upF (upF (ad) 28 q28) 29 q29) 30 q30) 31 q31) 32 q32) 33 q33) ∧ I' = r1 ∧ J' = upF (upF (upF (upF (upF (upF (J) 28 (fun _ => 0)) 29 (fun _ => 0)) 30 (fun _ => 0)) 31 (fun _ => 0)) 32 (fun _ => 0)) 33 (fun _ => 0)) := by
  refine call_of' (by decide) (Nat.le_of_ble_eq_true rfl) (lv0 := [(0, .ref (ad 27)), (1, .ref (ad 3))]) rfl ?_
  refine wp_aload_n dX1_init_0 0 rfl ?_
  refine wp_objInit dX1_init_1 mlX1_3 (by decide) (Nat.le_of_ble_eq_true rfl) ?_
  refine wp_aload_n dX1_init_4 0 rfl ?_
  refine wp_bipush (v := 14) dX1_init_5 (by decide) ?_
  refine wp_newaI (n' := 14) (N := 28) dX1_init_7 (by decide) (by decide) (by decide) rfl (by decide) (fun q28 => ?_)
  show WP Γ _ (_, _) _ _ _ (LAYc.take 29, _, _) _ _ _
  refine wp_putRF (k := 27) dX1_init_9 flX1_9 rfl rfl rfl rfl rfl rfl rfl rfl rfl rfl ?_
  refine wp_aload_n dX1_init_12 0 rfl ?_
  refine wp_bipush (v := 84) dX1_init_13 (by decide) ?_
  refine wp_newaI (n' := 84) (N := 29) dX1_init_15 (by decide) (by decide) (by decide) rfl (by decide) (fun q29 => ?_)
  show WP Γ _ (_, _) _ _ _ (LAYc.take 30, _, _) _ _ _
  refine wp_putRF (k := 27) dX1_init_17 flX1_15 rfl rfl rfl rfl rfl rfl rfl rfl rfl rfl ?_
  refine wp_aload_n dX1_init_20 0 rfl ?_
  refine wp_bipush (v := 84) dX1_init_21 (by decide) ?_
  refine wp_newaI (n' := 84) (N := 30) dX1_init_23 (by decide) (by decide) (by decide) rfl (by decide) (fun q30 => ?_)
  show WP Γ _ (_, _) _ _ _ (LAYc.take 31, _, _) _ _ _
  refine wp_putRF (k := 27) dX1_init_25 flX1_18 rfl rfl rfl rfl rfl rfl rfl rfl rfl rfl ?_
  refine wp_aload_n dX1_init_28 0 rfl ?_
  refine wp_bipush (v := 6) dX1_init_29 (by decide) ?_
  refine wp_newaI (n' := 6) (N := 31) dX1_init_31 (by decide) (by decide) (by decide) rfl (by decide) (fun q31 => ?_)
  show WP Γ _ (_, _) _ _ _ (LAYc.take 32, _, _) _ _ _
  refine wp_putRF (k := 27) dX1_init_33 flX1_21 rfl rfl rfl rfl rfl rfl rfl rfl rfl rfl ?_
  refine wp_aload_n dX1_init_36 0 rfl ?_
  refine wp_bipush (v := 6) dX1_init_37 (by decide) ?_
  refine wp_newaI (n' := 6) (N := 32) dX1_init_39 (by decide) (by decide) (by decide) rfl (by decide) (fun q32 => ?_)
  show WP Γ _ (_, _) _ _ _ (LAYc.take 33, _, _) _ _ _
  refine wp_putRF (k := 27) dX1_init_41 flX1_24 rfl rfl rfl rfl rfl rfl rfl rfl rfl rfl ?_
  refine wp_aload_n dX1_init_44 0 rfl ?_
  refine wp_bipush (v := 14) dX1_init_45 (by decide) ?_
  refine wp_newaI (n' := 14) (N := 33) dX1_init_47 (by decide) (by decide) (by decide) rfl (by decide) (fun q33 => ?_)
  show WP Γ _ (_, _) _ _ _ (LAYc.take 34, _, _) _ _ _
  refine wp_putRF (k := 27) dX1_init_49 flX1_27 rfl rfl rfl rfl rfl rfl rfl rfl rfl rfl ?_
  refine wp_aload_n dX1_init_52 0 rfl ?_
  refine wp_aload_n dX1_init_53 1 rfl ?_
  refine wp_putRF (k := 27) dX1_init_54 flX1_30 rfl rfl rfl rfl rfl rfl rfl rfl rfl rfl ?_
  refine wp_aload_n dX1_init_57 0 rfl ?_
  refine wp_callvV0 (k := 27) (ci := 1) (c_k34_X1_begin_27 Γ _ _ rfl rfl rfl rfl rfl rfl _ _ r1 hr1) dX1_init_58 mlX1_34 mwX1_begin miX1_begin rfl rfl rfl rfl (Nat.le_of_ble_eq_true rfl) rfl (by decide) (by decide) ?_
  exact wp_return dX1_init_61 rfl ⟨rfl, q28, q29, q30, q31, q32, q33, rfl, rfl, rfl⟩
set_option maxRecDepth 100000 in
set_option maxHeartbeats 4000000 in
theorem k_X7_init_36 (Γ : GT) (R : Nat → Nat → Option Nat) (ad : Nat → Nat) (I : IT) (J : JT) : CALL Γ mX7_init (5, 206) [.ref (ad 35), .ref (ad 3)] (LAYc.take 36, R, ad) I J (fun r Δ' I' J' => r = none ∧ ∃ q36 q37 q38 q39 q40 : Nat, Δ' = (LAYc.take 41, upR (upR (upF (upR (upF (upR (upF (upR (upF (upR (upF (R) 36 (fun _ => none)) 35 1 (some (q36))) 37 (fun _ => none)) 35 2 (some (q37))) 38 (fun _ => none)) 35 3 (some (q38))) 39 (fun _ => none)) 35 4 (some (q39))) 40 (fun _ => none)) 35 5 (some (q40))) 35 0 (some (ad 3)), upF (upF (upF (upF (upF (ad) 36 q36) 37 q37) 38 q38) 39 q39) 40 q40) ∧ I' = upF (upF (upF (upF (upF (I) 36 (fun _ => 0)) 37 (fun _ => 0)) 38 (fun _ => 0)) 39 (fun _ => 0)) 40 (fun _ => 0) ∧ J' = upF (upF (upF (upF (upF (J) 36 (fun _ => 0)) 37 (fun _ => 0)) 38 (fun _ => 0)) 39 (fun _ => 0)) 40 (fun _ => 0)) := by
  refine call_of' (by decide) (Nat.le_of_ble_eq_true rfl) (lv0 := [(0, .ref (ad 35)), (1, .ref (ad 3))]) rfl ?_
  refine wp_aload_n dX7_init_0 0 rfl ?_
  refine wp_objInit dX7_init_1 mlX7_3 (by decide) (Nat.le_of_ble_eq_true rfl) ?_
  refine wp_aload_n dX7_init_4 0 rfl ?_
  refine wp_bipush (v := 6) dX7_init_5 (by decide) ?_
  refine wp_newaI (n' := 6) (N := 36) dX7_init_7 (by decide) (by decide) (by decide) rfl (by decide) (fun q36 => ?_)
  show WP Γ _ (_, _) _ _ _ (LAYc.take 37, _, _) _ _ _
  refine wp_putRF (k := 35) dX7_init_9 flX7_9 rfl rfl rfl rfl rfl rfl rfl rfl rfl rfl ?_
  refine wp_aload_n dX7_init_12 0 rfl ?_
  refine wp_bipush (v := 36) dX7_init_13 (by decide) ?_
  refine wp_newaI (n' := 36) (N := 37) dX7_init_15 (by decide) (by decide) (by decide) rfl (by decide) (fun q37 => ?_)
  show WP Γ _ (_, _) _ _ _ (LAYc.take 38, _, _) _ _ _
  refine wp_putRF (k := 35) dX7_init_17 flX7_15 rfl rfl rfl rfl rfl rfl rfl rfl rfl rfl ?_
  refine wp_aload_n dX7_init_20 0 rfl ?_
  refine wp_bipush (v := 36) dX7_init_21 (by decide) ?_
  refine wp_newaJ (n' := 36) (N := 38) dX7_init_23 (by decide) (by decide) (by decide) rfl (by decide) (fun q38 => ?_)
  show WP Γ _ (_, _) _ _ _ (LAYc.take 39, _, _) _ _ _
  refine wp_putRF (k := 35) dX7_init_25 flX7_18 rfl rfl rfl rfl rfl rfl rfl rfl rfl rfl ?_
  refine wp_aload_n dX7_init_28 0 rfl ?_
  refine wp_bipush (v := 64) dX7_init_29 (by decide) ?_
  refine wp_newaJ (n' := 64) (N := 39) dX7_init_31 (by decide) (by decide) (by decide) rfl (by decide) (fun q39 => ?_)
  show WP Γ _ (_, _) _ _ _ (LAYc.take 40, _, _) _ _ _
  refine wp_putRF (k := 35) dX7_init_33 flX7_22 rfl rfl rfl rfl rfl rfl rfl rfl rfl rfl ?_
  refine wp_aload_n dX7_init_36 0 rfl ?_
  refine wp_bipush (v := 64) dX7_init_37 (by decide) ?_
  refine wp_newaJ (n' := 64) (N := 40) dX7_init_39 (by decide) (by decide) (by decide) rfl (by decide) (fun q40 => ?_)
  show WP Γ _ (_, _) _ _ _ (LAYc.take 41, _, _) _ _ _
  refine wp_putRF (k := 35) dX7_init_41 flX7_25 rfl rfl rfl rfl rfl rfl rfl rfl rfl rfl ?_
  refine wp_aload_n dX7_init_44 0 rfl ?_
  refine wp_aload_n dX7_init_45 1 rfl ?_
  refine wp_putRF (k := 35) dX7_init_46 flX7_28 rfl rfl rfl rfl rfl rfl rfl rfl rfl rfl ?_
  exact wp_return dX7_init_49 rfl ⟨rfl, q36, q37, q38, q39, q40, rfl, rfl, rfl⟩
set_option maxRecDepth 100000 in
set_option maxHeartbeats 4000000 in
theorem k_X8_init_42 (Γ : GT) (R : Nat → Nat → Option Nat) (ad : Nat → Nat) (I : IT) (J : JT) : CALL Γ mX8_init (4, 40) [.ref (ad 41)] (LAYc.take 42, R, ad) I J (fun r Δ' I' J' => r = none ∧ ∃ q42 q43 q44 q45 : Nat, Δ' = (LAYc.take 46, upR (upF (upR (upF (upR (upF (upR (upF (R) 42 (fun _ => none)) 41 1 (some (q42))) 43 (fun _ => none)) 41 2 (some (q43))) 44 (fun _ => none)) 41 3 (some (q44))) 45 (fun _ => none)) 41 4 (some (q45)), upF (upF (upF (upF (ad) 42 q42) 43 q43) 44 q44) 45 q45) ∧ I' = upF (upF (upF (upF (I) 42 (fun _ => 0)) 43 (fun _ => 0)) 44 (fun _ => 0)) 45 (fun _ => 0) ∧ J' = upF (upF (upF (upF (J) 42 (fun _ => 0)) 43 (fun _ => 0)) 44 (fun _ => 0)) 45 (fun _ => 0)) := by
  refine call_of' (by decide) (Nat.le_of_ble_eq_true rfl) (lv0 := [(0, .ref (ad 41))]) rfl ?_
  refine wp_aload_n dX8_init_0 0 rfl ?_
  refine wp_objInit dX8_init_1 mlX8_3 (by decide) (Nat.le_of_ble_eq_true rfl) ?_
  refine wp_aload_n dX8_init_4 0 rfl ?_
  refine wp_bipush (v := 10) dX8_init_5 (by decide) ?_
  refine wp_newaI (n' := 10) (N := 42) dX8_init_7 (by decide) (by decide) (by decide) rfl (by decide) (fun q42 => ?_)
  show WP Γ _ (_, _) _ _ _ (LAYc.take 43, _, _) _ _ _
  refine wp_putRF (k := 41) dX8_init_9 flX8_9 rfl rfl rfl rfl rfl rfl rfl rfl rfl rfl ?_
  refine wp_aload_n dX8_init_12 0 rfl ?_
  refine wp_bipush (v := 10) dX8_init_13 (by decide) ?_
  refine wp_newaI (n' := 10) (N := 43) dX8_init_15 (by decide) (by decide) (by decide) rfl (by decide) (fun q43 => ?_)
  show WP Γ _ (_, _) _ _ _ (LAYc.take 44, _, _) _ _ _
  refine wp_putRF (k := 41) dX8_init_17 flX8_15 rfl rfl rfl rfl rfl rfl rfl rfl rfl rfl ?_
  refine wp_aload_n dX8_init_20 0 rfl ?_
  refine wp_bipush (v := 10) dX8_init_21 (by decide) ?_
  refine wp_newaI (n' := 10) (N := 44) dX8_init_23 (by decide) (by decide) (by decide) rfl (by decide) (fun q44 => ?_)
  show WP Γ _ (_, _) _ _ _ (LAYc.take 45, _, _) _ _ _
  refine wp_putRF (k := 41) dX8_init_25 flX8_18 rfl rfl rfl rfl rfl rfl rfl rfl rfl rfl ?_
  refine wp_aload_n dX8_init_28 0 rfl ?_
  refine wp_bipush (v := 10) dX8_init_29 (by decide) ?_
  refine wp_newaZ (n' := 10) (N := 45) dX8_init_31 (by decide) (by decide) (by decide) rfl (by decide) (fun q45 => ?_)
  show WP Γ _ (_, _) _ _ _ (LAYc.take 46, _, _) _ _ _
  refine wp_putRF (k := 41) dX8_init_33 flX8_21 rfl rfl rfl rfl rfl rfl rfl rfl rfl rfl ?_
  exact wp_return dX8_init_36 rfl ⟨rfl, q42, q43, q44, q45, rfl, rfl, rfl⟩
set_option maxRecDepth 100000 in
set_option maxHeartbeats 4000000 in
theorem k_X5_init_47 (Γ : GT) (R : Nat → Nat → Option Nat) (ad : Nat → Nat) (I : IT) (J : JT) : CALL Γ mX5_init (1, 752) [.ref (ad 46), .ref (ad 41)] (LAYc.take 47, R, ad) I J (fun r Δ' I' J' => r = none ∧ ∃ q47 : Nat, Δ' = (LAYc.take 48, upR (upR (upF (R) 47 (fun _ => none)) 46 1 (some (q47))) 46 0 (some (ad 41)), upF (ad) 47 q47) ∧ I' = upI (upF (I) 47 (fun _ => 0)) 46 2 1 ∧ J' = upF (J) 47 (fun _ => 0)) := by
  refine call_of' (by decide) (Nat.le_of_ble_eq_true rfl) (lv0 := [(0, .ref (ad 46)), (1, .ref (ad 41))]) rfl ?_
  refine wp_aload_n dX5_init_0 0 rfl ?_
  refine wp_objInit dX5_init_1 mlX5_5 (by decide) (Nat.le_of_ble_eq_true rfl) ?_
  refine wp_aload_n dX5_init_4 0 rfl ?_
  refine wp_sipush (v := 752) dX5_init_5 (by decide) ?_
  refine wp_newaJ (n' := 752) (N := 47) dX5_init_8 (by decide) (by decide) (by decide) rfl (by decide) (fun q47 => ?_)
  show WP Γ _ (_, _) _ _ _ (LAYc.take 48, _, _) _ _ _
  refine wp_putRF (k := 46) dX5_init_10 flX5_11 rfl rfl rfl rfl rfl rfl rfl rfl rfl rfl ?_
  refine wp_aload_n dX5_init_13 0 rfl ?_
  refine wp_iconst (v := 1) dX5_init_14 (by decide) ?_
  refine wp_putI (k := 46) dX5_init_15 flX5_15 rfl rfl rfl rfl rfl rfl rfl rfl ?_
  refine wp_aload_n dX5_init_18 0 rfl ?_
  refine wp_aload_n dX5_init_19 1 rfl ?_
  refine wp_putRF (k := 46) dX5_init_20 flX5_19 rfl rfl rfl rfl rfl rfl rfl rfl rfl rfl ?_
  exact wp_return dX5_init_23 rfl ⟨rfl, q47, rfl, rfl, rfl⟩
set_option maxRecDepth 100000 in
set_option maxHeartbeats 4000000 in
theorem k_X3_init_49 (Γ : GT) (R : Nat → Nat → Option Nat) (ad : Nat → Nat) (I : IT) (J : JT) : CALL Γ mX3_init (1, 168) [.ref (ad 48), .ref (ad 3)] (LAYc.take 49, R, ad) I J (fun r Δ' I' J' => r = none ∧ ∃ q49 : Nat, Δ' = (LAYc.take 50, upR (upR (upF (R) 49 (fun _ => none)) 48 1 (some (q49))) 48 0 (some (ad 3)), upF (ad) 49 q49) ∧ I' = upF (I) 49 (fun _ => 0) ∧ J' = upF (J) 49 (fun _ => 0)) := by
  refine call_of' (by decide) (Nat.le_of_ble_eq_true rfl) (lv0 := [(0, .ref (ad 48)), (1, .ref (ad 3))]) rfl ?_
  refine wp_aload_n dX3_init_0 0 rfl ?_
  refine wp_objInit dX3_init_1 mlX3_3 (by decide) (Nat.le_of_ble_eq_true rfl) ?_
  refine wp_aload_n dX3_init_4 0 rfl ?_
  refine wp_sipush (v := 168) dX3_init_5 (by decide) ?_
  refine wp_newaI (n' := 168) (N := 49) dX3_init_8 (by decide) (by decide) (by decide) rfl (by decide) (fun q49 => ?_)
  show WP Γ _ (_, _) _ _ _ (LAYc.take 50, _, _) _ _ _
  refine wp_putRF (k := 48) dX3_init_10 flX3_11 rfl rfl rfl rfl rfl rfl rfl rfl rfl rfl ?_
  refine wp_aload_n dX3_init_13 0 rfl ?_
  refine wp_aload_n dX3_init_14 1 rfl ?_
  refine wp_putRF (k := 48) dX3_init_15 flX3_15 rfl rfl rfl rfl rfl rfl rfl rfl rfl rfl ?_
  exact wp_return dX3_init_18 rfl ⟨rfl, q49, rfl, rfl, rfl⟩
set_option maxRecDepth 100000 in
set_option maxHeartbeats 4000000 in
theorem k_X0_init_51 (Γ : GT) (R : Nat → Nat → Option Nat) (ad : Nat → Nat) (I : IT) (J : JT) : CALL Γ mX0_init (4, 120) [.ref (ad 50), .ref (ad 3)] (LAYc.take 51, R, ad) I J (fun r Δ' I' J' => r = none ∧ ∃ q51 q52 q53 q54 : Nat, Δ' = (LAYc.take 55, upR (upR (upF (upR (upF (upR (upF (upR (upF (R) 51 (fun _ => none)) 50 2 (some (q51))) 52 (fun _ => none)) 50 3 (some (q52))) 53 (fun _ => none)) 50 4 (some (q53))) 54 (fun _ => none)) 50 5 (some (q54))) 50 0 (some (ad 3)), upF (upF (upF (upF (ad) 51 q51) 52 q52) 53 q53) 54 q54) ∧ I' = upF (upF (upF (upF (I) 51 (fun _ => 0)) 52 (fun _ => 0)) 53 (fun _ => 0)) 54 (fun _ => 0) ∧ J' = upF (upF (upF (upF (J) 51 (fun _ => 0)) 52 (fun _ => 0)) 53 (fun _ => 0)) 54 (fun _ => 0)) := by
  refine call_of' (by decide) (Nat.le_of_ble_eq_true rfl) (lv0 := [(0, .ref (ad 50)), (1, .ref (ad 3))]) rfl ?_
  refine wp_aload_n dX0_init_0 0 rfl ?_
  refine wp_objInit dX0_init_1 mlX0_3 (by decide) (Nat.le_of_ble_eq_true rfl) ?_
  refine wp_aload_n dX0_init_4 0 rfl ?_
  refine wp_bipush (v := 30) dX0_init_5 (by decide) ?_
  refine wp_newaI (n' := 30) (N := 51) dX0_init_7 (by decide) (by decide) (by decide) rfl (by decide) (fun q51 => ?_)
  show WP Γ _ (_, _) _ _ _ (LAYc.take 52, _, _) _ _ _
  refine wp_putRF (k := 50) dX0_init_9 flX0_9 rfl rfl rfl rfl rfl rfl rfl rfl rfl rfl ?_
  refine wp_aload_n dX0_init_12 0 rfl ?_
  refine wp_bipush (v := 30) dX0_init_13 (by decide) ?_
  refine wp_newaI (n' := 30) (N := 52) dX0_init_15 (by decide) (by decide) (by decide) rfl (by decide) (fun q52 => ?_)
  show WP Γ _ (_, _) _ _ _ (LAYc.take 53, _, _) _ _ _
  refine wp_putRF (k := 50) dX0_init_17 flX0_15 rfl rfl rfl rfl rfl rfl rfl rfl rfl rfl ?_
  refine wp_aload_n dX0_init_20 0 rfl ?_
  refine wp_bipush (v := 30) dX0_init_21 (by decide) ?_
  refine wp_newaI (n' := 30) (N := 53) dX0_init_23 (by decide) (by decide) (by decide) rfl (by decide) (fun q53 => ?_)
  show WP Γ _ (_, _) _ _ _ (LAYc.take 54, _, _) _ _ _
  refine wp_putRF (k := 50) dX0_init_25 flX0_18 rfl rfl rfl rfl rfl rfl rfl rfl rfl rfl ?_
  refine wp_aload_n dX0_init_28 0 rfl ?_
  refine wp_bipush (v := 30) dX0_init_29 (by decide) ?_
  refine wp_newaI (n' := 30) (N := 54) dX0_init_31 (by decide) (by decide) (by decide) rfl (by decide) (fun q54 => ?_)
  show WP Γ _ (_, _) _ _ _ (LAYc.take 55, _, _) _ _ _
  refine wp_putRF (k := 50) dX0_init_33 flX0_21 rfl rfl rfl rfl rfl rfl rfl rfl rfl rfl ?_
  refine wp_aload_n dX0_init_36 0 rfl ?_
  refine wp_aload_n dX0_init_37 1 rfl ?_
  refine wp_putRF (k := 50) dX0_init_38 flX0_24 rfl rfl rfl rfl rfl rfl rfl rfl rfl rfl ?_
  exact wp_return dX0_init_41 rfl ⟨rfl, q51, q52, q53, q54, rfl, rfl, rfl⟩
set_option maxRecDepth 100000 in
set_option maxHeartbeats 4000000 in
theorem k_X9_init_1 (Γ : GT) (R : Nat → Nat → Option Nat) (ad : Nat → Nat) (I : IT) (J : JT) (r1 : IT) (hr1 : f_k7_X2_clear (upF (upF (upF ((upF (upF ((upF (I) 1 (fun _ => 0))) 2 (fun _ => 0)) 3 (fun _ => 0))) 4 (fun _ => 0)) 5 (fun _ => 0)) 6 (fun _ => 0)) = some r1) (r2 : IT) (hr2 : f_k12_X2_clear_8 (upF (upF (upF ((upF ((upF (r1) 7 (fun _ => 0))) 8 (fun _ => 0))) 9 (fun _ => 0)) 10 (fun _ => 0)) 11 (fun _ => 0)) = some r2) (r3 : IT) (hr3 : f_k19_X1_begin (upF (upF (upF (upF (upF (upF ((upF (r2) 12 (fun _ => 0))) 13 (fun _ => 0)) 14 (fun _ => 0)) 15 (fun _ => 0)) 16 (fun _ => 0)) 17 (fun _ => 0)) 18 (fun _ => 0)) = some r3) (r4 : IT) (hr4 : f_k27_X1_begin_20 (upF (upF (upF (upF (upF (upF ((upF (upF (r3) 19 (fun _ => 0)) 20 (fun _ => 0))) 21 (fun _ => 0)) 22 (fun _ => 0)) 23 (fun _ => 0)) 24 (fun _ => 0)) 25 (fun _ => 0)) 26 (fun _ => 0)) = some r4) (r5 : IT) (hr5 : f_k34_X1_begin_27 (upF (upF (upF (upF (upF (upF ((upF (r4) 27 (fun _ => 0))) 28 (fun _ => 0)) 29 (fun _ => 0)) 30 (fun _ => 0)) 31 (fun _ => 0)) 32 (fun _ => 0)) 33 (fun _ => 0)) = some r5) : CALL Γ mX9_init (54, 2620) [.ref (ad 0)] (LAYc.take 1, R, ad) I J (fun r Δ' I' J' => r = none ∧ ∃ q1 q2 q3 q4 q5 q6 q7 q8 q9 q10 q11 q12 q13 q14 q15 q16 q17 q18 q19 q20 q21 q22 q23 q24 q25 q26 q27 q28 q29 q30 q31 q32 q33 q34 q35 q36 q37 q38 q39 q40 q41 q42 q43 q44 q45 q46 q47 q48 q49 q50 q51 q52 q53 q54 : Nat, Δ' = (LAYc.take 55, upR (upR (upR (upF (upR (upF (upR (upF (upR (upF ((upF (upR (upR (upR (upF ((upF (upR (upR (upR (upF ((upF (upR (upR (upF (upR (upF (upR (upF (upR (upF ((upF (upR (upR (upR (upF (upR (upF (upR (upF (upR (upF (upR (upF ((upF (upR (upF (upR (upR (upR (upF (upR (upF (upR (upF (upR (upF (upR (upF (upR (upF ((upF (upR (upR (upR (upF (upR (upF (upR (upF (upR (upF (upR (upF (upR (upF ((upF (upR (upF (upR (upR (upR (upF (upR (upF (upR (upF (upR (upF (upR (upF (upR (upF ((upF (upR (upR (upR (upR (upF (upR (upF (upR (upF ((upF ((upF (upR (upR (upF (upR (upF (upR (upF ((upF (upR (upR (upF ((upF (R) 1 (fun _ => none))) 2 (fun _ => none)) 1 0 (some (q2))) 0 0 (some (q1))) 3 (fun _ => none))) 4 (fun _ => none)) 3 5 (some (q4))) 5 (fun _ => none)) 3 6 (some (q5))) 6 (fun _ => none)) 3 7 (some (q6))) 0 1 (some (q3))) 7 (fun _ => none))) 8 (fun _ => none))) 9 (fun _ => none)) 8 5 (some (q9))) 10 (fun _ => none)) 8 6 (some (q10))) 11 (fun _ => none)) 8 7 (some (q11))) 7 1 (some (q8))) 7 0 (some (q1))) 0 2 (some (q7))) 12 (fun _ => none))) 13 (fun _ => none)) 12 3 (some (q13))) 14 (fun _ => none)) 12 4 (some (q14))) 15 (fun _ => none)) 12 5 (some (q15))) 16 (fun _ => none)) 12 6 (some (q16))) 17 (fun _ => none)) 12 7 (some (q17))) 18 (fun _ => none)) 12 8 (some (q18))) 12 0 (some (q3))) 0 3 (some (q12))) 19 (fun _ => none)) 0 4 (some (q19))) 20 (fun _ => none))) 21 (fun _ => none)) 20 3 (some (q21))) 22 (fun _ => none)) 20 4 (some (q22))) 23 (fun _ => none)) 20 5 (some (q23))) 24 (fun _ => none)) 20 6 (some (q24))) 25 (fun _ => none)) 20 7 (some (q25))) 26 (fun _ => none)) 20 8 (some (q26))) 20 0 (some (q3))) 19 (0 : Int32).toNatClampNeg (some (q20))) 27 (fun _ => none))) 28 (fun _ => none)) 27 3 (some (q28))) 29 (fun _ => none)) 27 4 (some (q29))) 30 (fun _ => none)) 27 5 (some (q30))) 31 (fun _ => none)) 27 6 (some (q31))) 32 (fun _ => none)) 27 7 (some (q32))) 33 (fun _ => none)) 27 8 (some (q33))) 27 0 (some (q3))) 19 (1 : Int32).toNatClampNeg (some (q27))) 34 (fun _ => none)) 0 5 (some (q34))) 35 (fun _ => none))) 36 (fun _ => none)) 35 1 (some (q36))) 37 (fun _ => none)) 35 2 (some (q37))) 38 (fun _ => none)) 35 3 (some (q38))) 39 (fun _ => none)) 35 4 (some (q39))) 40 (fun _ => none)) 35 5 (some (q40))) 35 0 (some (q3))) 0 6 (some (q35))) 41 (fun _ => none))) 42 (fun _ => none)) 41 1 (some (q42))) 43 (fun _ => none)) 41 2 (some (q43))) 44 (fun _ => none)) 41 3 (some (q44))) 45 (fun _ => none)) 41 4 (some (q45))) 0 7 (some (q41))) 46 (fun _ => none))) 47 (fun _ => none)) 46 1 (some (q47))) 46 0 (some (q41))) 0 8 (some (q46))) 48 (fun _ => none))) 49 (fun _ => none)) 48 1 (some (q49))) 48 0 (some (q3))) 0 9 (some (q48))) 50 (fun _ => none))) 51 (fun _ => none)) 50 2 (some (q51))) 52 (fun _ => none)) 50 3 (some (q52))) 53 (fun _ => none)) 50 4 (some (q53))) 54 (fun _ => none)) 50 5 (some (q54))) 50 0 (some (q3))) 0 10 (some (q50)), upF (upF (upF (upF ((upF (upF ((upF (upF ((upF (upF (upF (upF (upF ((upF (upF (upF (upF (upF (upF ((upF (upF (upF (upF (upF (upF (upF (upF ((upF (upF (upF (upF (upF (upF (upF ((upF (upF (upF (upF (upF (upF (upF (upF ((upF (upF (upF (upF ((upF ((upF (upF (upF (upF ((upF (upF ((upF (ad) 1 q1)) 2 q2) 3 q3)) 4 q4) 5 q5) 6 q6) 7 q7)) 8 q8)) 9 q9) 10 q10) 11 q11) 12 q12)) 13 q13) 14 q14) 15 q15) 16 q16) 17 q17) 18 q18) 19 q19) 20 q20)) 21 q21) 22 q22) 23 q23) 24 q24) 25 q25) 26 q26) 27 q27)) 28 q28) 29 q29) 30 q30) 31 q31) 32 q32) 33 q33) 34 q34) 35 q35)) 36 q36) 37 q37) 38 q38) 39 q39) 40 q40) 41 q41)) 42 q42) 43 q43) 44 q44) 45 q45) 46 q46)) 47 q47) 48 q48)) 49 q49) 50 q50)) 51 q51) 52 q52) 53 q53) 54 q54) ∧ I' = upI (upF (upF (upF (upF ((upF (upF ((upF (upI (upF ((upF (upF (upF (upF (upF ((upF (upF (upF (upF (upF (upF ((upF (upF (r5) 34 (fun _ => 0)) 35 (fun _ => 0))) 36 (fun _ => 0)) 37 (fun _ => 0)) 38 (fun _ => 0)) 39 (fun _ => 0)) 40 (fun _ => 0)) 41 (fun _ => 0))) 42 (fun _ => 0)) 43 (fun _ => 0)) 44 (fun _ => 0)) 45 (fun _ => 0)) 46 (fun _ => 0))) 47 (fun _ => 0)) 46 2 1) 48 (fun _ => 0))) 49 (fun _ => 0)) 50 (fun _ => 0))) 51 (fun _ => 0)) 52 (fun _ => 0)) 53 (fun _ => 0)) 54 (fun _ => 0)) 0 11 (-1) ∧ J' = upF (upF (upF (upF ((upF (upF ((upF (upF ((upF (upF (upF (upF (upF ((upF (upF (upF (upF (upF (upF ((upF (upF (upF (upF (upF (upF (upF (upF ((upF (upF (upF (upF (upF (upF (upF ((upF (upF (upF (upF (upF (upF (upF (upF ((upF (upF (upF (upF ((upF ((upF (upF (upF (upF ((upF (upF ((upF (J) 1 (fun _ => 0))) 2 (fun _ => 0)) 3 (fun _ => 0))) 4 (fun _ => 0)) 5 (fun _ => 0)) 6 (fun _ => 0)) 7 (fun _ => 0))) 8 (fun _ => 0))) 9 (fun _ => 0)) 10 (fun _ => 0)) 11 (fun _ => 0)) 12 (fun _ => 0))) 13 (fun _ => 0)) 14 (fun _ => 0)) 15 (fun _ => 0)) 16 (fun _ => 0)) 17 (fun _ => 0)) 18 (fun _ => 0)) 19 (fun _ => 0)) 20 (fun _ => 0))) 21 (fun _ => 0)) 22 (fun _ => 0)) 23 (fun _ => 0)) 24 (fun _ => 0)) 25 (fun _ => 0)) 26 (fun _ => 0)) 27 (fun _ => 0))) 28 (fun _ => 0)) 29 (fun _ => 0)) 30 (fun _ => 0)) 31 (fun _ => 0)) 32 (fun _ => 0)) 33 (fun _ => 0)) 34 (fun _ => 0)) 35 (fun _ => 0))) 36 (fun _ => 0)) 37 (fun _ => 0)) 38 (fun _ => 0)) 39 (fun _ => 0)) 40 (fun _ => 0)) 41 (fun _ => 0))) 42 (fun _ => 0)) 43 (fun _ => 0)) 44 (fun _ => 0)) 45 (fun _ => 0)) 46 (fun _ => 0))) 47 (fun _ => 0)) 48 (fun _ => 0))) 49 (fun _ => 0)) 50 (fun _ => 0))) 51 (fun _ => 0)) 52 (fun _ => 0)) 53 (fun _ => 0)) 54 (fun _ => 0)) := by
  refine call_of' (by decide) (Nat.le_of_ble_eq_true rfl) (lv0 := [(0, .ref (ad 0))]) rfl ?_
  refine wp_aload_n dX9_init_0 0 rfl ?_
  refine wp_objInit dX9_init_1 mlX9_1 (by decide) (Nat.le_of_ble_eq_true rfl) ?_
  refine wp_aload_n dX9_init_4 0 rfl ?_
  refine wp_new (ci := 6) (n := 2) (N := 1) dX9_init_5 (by decide) rfl (tb1 28 (by decide +kernel) rfl) (tb1 29 (by decide +kernel) rfl) (tb1 2 (by decide +kernel) rfl) rfl (by decide) (fun q1 => ?_)
  show WP Γ _ (_, _) _ _ _ (LAYc.take 2, _, _) _ _ _
  refine wp_dup dX9_init_8 rfl ?_
  refine wp_calliN (mt' := mX6_init) (b' := (1, 500)) (k_X6_init_2 Γ _ _ _ _) dX9_init_9 mlX9_9 mwX6_init (tb1 31 (by decide +kernel) rfl) rfl rfl rfl (Nat.le_of_ble_eq_true rfl) rfl (by decide) (by decide) (by decide) (fun r Δ' I' J' hq => ?_)
  obtain ⟨rfl, q2, rfl, rfl, rfl⟩ := hq
  show WP Γ _ (_, _) _ _ _ (LAYc.take 3, _, _) _ _ _
  refine wp_putRF (k := 0) dX9_init_12 flX9_10 rfl rfl rfl rfl rfl rfl rfl rfl rfl rfl ?_
  refine wp_aload_n dX9_init_15 0 rfl ?_
  refine wp_new (ci := 2) (n := 8) (N := 3) dX9_init_16 (by decide) rfl (tb1 44 (by decide +kernel) rfl) (tb1 45 (by decide +kernel) rfl) (tb1 3 (by decide +kernel) rfl) rfl (by decide) (fun q3 => ?_)
  show WP Γ _ (_, _) _ _ _ (LAYc.take 4, _, _) _ _ _
  refine wp_dup dX9_init_19 rfl ?_
  refine wp_calli (mt' := mX2_init) (b' := (3, 64)) (k_X2_init_4 Γ _ _ _ _ r1 hr1) dX9_init_20 mlX9_18 mwX2_init (tb1 47 (by decide +kernel) rfl) rfl rfl rfl (Nat.le_of_ble_eq_true rfl) rfl (by decide) (by decide) (by decide) (fun r Δ' I' J' hq => ?_)
  obtain ⟨rfl, q4, q5, q6, rfl, rfl, rfl⟩ := hq
  show WP Γ _ (_, _) _ _ _ (LAYc.take 7, _, _) _ _ _
  refine wp_putRF (k := 0) dX9_init_23 flX9_19 rfl rfl rfl rfl rfl rfl rfl rfl rfl rfl ?_
  refine wp_aload_n dX9_init_26 0 rfl ?_
  refine wp_new (ci := 4) (n := 7) (N := 7) dX9_init_27 (by decide) rfl (tb1 111 (by decide +kernel) rfl) (tb1 112 (by decide +kernel) rfl) (tb1 4 (by decide +kernel) rfl) rfl (by decide) (fun q7 => ?_)
  show WP Γ _ (_, _) _ _ _ (LAYc.take 8, _, _) _ _ _
  refine wp_dup dX9_init_30 rfl ?_
  refine wp_aload_n dX9_init_31 0 rfl ?_
  refine wp_getR (k := 0) (a' := q1) dX9_init_32 flX9_10 rfl rfl rfl rfl rfl ?_
  refine wp_calli (mt' := mX4_init) (b' := (4, 72)) (k_X4_init_8 Γ _ _ _ _ r2 hr2) dX9_init_35 mlX9_25 mwX4_init (tb1 114 (by decide +kernel) rfl) rfl rfl rfl (Nat.le_of_ble_eq_true rfl) rfl (by decide) (by decide) (by decide) (fun r Δ' I' J' hq => ?_)
  obtain ⟨rfl, q8, q9, q10, q11, rfl, rfl, rfl⟩ := hq
  show WP Γ _ (_, _) _ _ _ (LAYc.take 12, _, _) _ _ _
  refine wp_putRF (k := 0) dX9_init_38 flX9_28 rfl rfl rfl rfl rfl rfl rfl rfl rfl rfl ?_
  refine wp_aload_n dX9_init_41 0 rfl ?_
  refine wp_new (ci := 1) (n := 9) (N := 12) dX9_init_42 (by decide) rfl (tb1 143 (by decide +kernel) rfl) (tb1 144 (by decide +kernel) rfl) (tb1 5 (by decide +kernel) rfl) rfl (by decide) (fun q12 => ?_)
  show WP Γ _ (_, _) _ _ _ (LAYc.take 13, _, _) _ _ _
  refine wp_dup dX9_init_45 rfl ?_
  refine wp_aload_n dX9_init_46 0 rfl ?_
  refine wp_getR (k := 0) (a' := q3) dX9_init_47 flX9_19 rfl rfl rfl rfl rfl ?_
  refine wp_calli (mt' := mX1_init) (b' := (6, 208)) (k_X1_init_13 Γ _ _ _ _ r3 hr3) dX9_init_50 mlX9_34 mwX1_init (tb1 146 (by decide +kernel) rfl) rfl rfl rfl (Nat.le_of_ble_eq_true rfl) rfl (by decide) (by decide) (by decide) (fun r Δ' I' J' hq => ?_)
  obtain ⟨rfl, q13, q14, q15, q16, q17, q18, rfl, rfl, rfl⟩ := hq
  show WP Γ _ (_, _) _ _ _ (LAYc.take 19, _, _) _ _ _
  refine wp_putRF (k := 0) dX9_init_53 flX9_37 rfl rfl rfl rfl rfl rfl rfl rfl rfl rfl ?_
  refine wp_aload_n dX9_init_56 0 rfl ?_
  refine wp_iconst (v := 2) dX9_init_57 (by decide) ?_
  refine wp_anew (n' := 2) (N := 19) dX9_init_58 (tb1 143 (by decide +kernel) rfl) (by decide) (by decide) (by decide) rfl (by decide) (fun q19 => ?_)
  show WP Γ _ (_, _) _ _ _ (LAYc.take 20, _, _) _ _ _
  refine wp_putRF (k := 0) dX9_init_61 flX9_41 rfl rfl rfl rfl rfl rfl rfl rfl rfl rfl ?_
  refine wp_iconst (v := 0) dX9_init_64 (by decide) ?_
  refine wp_istore_n (lv' := [(0, _), (1, _)]) dX9_init_65 rfl rfl rfl rfl ?_
  refine wp_iload_n dX9_init_66 1 rfl ?_
  refine wp_iconst (v := 2) dX9_init_67 (by decide) ?_
  refine wp_icmp_ge 94 dX9_init_68 rfl (fun c => absurd c (by decide)) (fun c => ?_)
  refine wp_aload_n dX9_init_71 0 rfl ?_
  refine wp_getR (k := 0) (a' := q19) dX9_init_72 flX9_41 rfl rfl rfl rfl rfl ?_
  refine wp_iload_n dX9_init_75 1 rfl ?_
  refine wp_new (ci := 1) (n := 9) (N := 20) dX9_init_76 (by decide) rfl (tb1 143 (by decide +kernel) rfl) (tb1 144 (by decide +kernel) rfl) (tb1 5 (by decide +kernel) rfl) rfl (by decide) (fun q20 => ?_)
  show WP Γ _ (_, _) _ _ _ (LAYc.take 21, _, _) _ _ _
  refine wp_dup dX9_init_79 rfl ?_
  refine wp_aload_n dX9_init_80 0 rfl ?_
  refine wp_getR (k := 0) (a' := q3) dX9_init_81 flX9_19 rfl rfl rfl rfl rfl ?_
  refine wp_calli (mt' := mX1_init) (b' := (6, 208)) (k_X1_init_21 Γ _ _ _ _ r4 hr4) dX9_init_84 mlX9_34 mwX1_init (tb1 146 (by decide +kernel) rfl) rfl rfl rfl (Nat.le_of_ble_eq_true rfl) rfl (by decide) (by decide) (by decide) (fun r Δ' I' J' hq => ?_)
  obtain ⟨rfl, q21, q22, q23, q24, q25, q26, rfl, rfl, rfl⟩ := hq
  show WP Γ _ (_, _) _ _ _ (LAYc.take 27, _, _) _ _ _
  refine wp_aast (k := 19) (kv := 20) dX9_init_87 rfl rfl rfl rfl (inb_of (by decide)) ?_
  refine wp_iinc (v := 1) (lv' := [(0, _), (1, _)]) dX9_init_88 1 rfl (by decide) rfl rfl rfl ?_
  refine wp_goto 66 dX9_init_91 rfl ?_
  refine wp_iload_n dX9_init_66 1 rfl ?_
  refine wp_iconst (v := 2) dX9_init_67 (by decide) ?_
  refine wp_icmp_ge 94 dX9_init_68 rfl (fun c => absurd c (by decide)) (fun c => ?_)
  refine wp_aload_n dX9_init_71 0 rfl ?_
  refine wp_getR (k := 0) (a' := q19) dX9_init_72 flX9_41 rfl rfl rfl rfl rfl ?_
  refine wp_iload_n dX9_init_75 1 rfl ?_
  refine wp_new (ci := 1) (n := 9) (N := 27) dX9_init_76 (by decide) rfl (tb1 143 (by decide +kernel) rfl) (tb1 144 (by decide +kernel) rfl) (tb1 5 (by decide +kernel) rfl) rfl (by decide) (fun q27 => ?_)
  show WP Γ _ (_, _) _ _ _ (LAYc.take 28, _, _) _ _ _
  refine wp_dup dX9_init_79 rfl ?_
  refine wp_aload_n dX9_init_80 0 rfl ?_
  refine wp_getR (k := 0) (a' := q3) dX9_init_81 flX9_19 rfl rfl rfl rfl rfl ?_
  refine wp_calli (mt' := mX1_init) (b' := (6, 208)) (k_X1_init_28 Γ _ _ _ _ r5 hr5) dX9_init_84 mlX9_34 mwX1_init (tb1 146 (by decide +kernel) rfl) rfl rfl rfl (Nat.le_of_ble_eq_true rfl) rfl (by decide) (by decide) (by decide) (fun r Δ' I' J' hq => ?_)
  obtain ⟨rfl, q28, q29, q30, q31, q32, q33, rfl, rfl, rfl⟩ := hq
  show WP Γ _ (_, _) _ _ _ (LAYc.take 34, _, _) _ _ _
  refine wp_aast (k := 19) (kv := 27) dX9_init_87 rfl rfl rfl rfl (inb_of (by decide)) ?_
  refine wp_iinc (v := 2) (lv' := [(0, _), (1, _)]) dX9_init_88 1 rfl (by decide) rfl rfl rfl ?_
  refine wp_goto 66 dX9_init_91 rfl ?_
  refine wp_iload_n dX9_init_66 1 rfl ?_
  refine wp_iconst (v := 2) dX9_init_67 (by decide) ?_
  refine wp_icmp_ge 94 dX9_init_68 rfl (fun c => ?_) (fun c => absurd (by decide) c)
  refine wp_aload_n dX9_init_94 0 rfl ?_
  refine wp_iconst (v := 2) dX9_init_95 (by decide) ?_
  refine wp_newaZ (n' := 2) (N := 34) dX9_init_96 (by decide) (by decide) (by decide) rfl (by decide) (fun q34 => ?_)
  show WP Γ _ (_, _) _ _ _ (LAYc.take 35, _, _) _ _ _
  refine wp_putRF (k := 0) dX9_init_98 flX9_45 rfl rfl rfl rfl rfl rfl rfl rfl rfl rfl ?_
  refine wp_aload_n dX9_init_101 0 rfl ?_
  refine wp_new (ci := 7) (n := 10) (N := 35) dX9_init_102 (by decide) rfl (tb1 193 (by decide +kernel) rfl) (tb1 194 (by decide +kernel) rfl) (tb1 7 (by decide +kernel) rfl) rfl (by decide) (fun q35 => ?_)
  show WP Γ _ (_, _) _ _ _ (LAYc.take 36, _, _) _ _ _
  refine wp_dup dX9_init_105 rfl ?_
  refine wp_aload_n dX9_init_106 0 rfl ?_
  refine wp_getR (k := 0) (a' := q3) dX9_init_107 flX9_19 rfl rfl rfl rfl rfl ?_
  refine wp_calli (mt' := mX7_init) (b' := (5, 206)) (k_X7_init_36 Γ _ _ _ _) dX9_init_110 mlX9_51 mwX7_init (tb1 196 (by decide +kernel) rfl) rfl rfl rfl (Nat.le_of_ble_eq_true rfl) rfl (by decide) (by decide) (by decide) (fun r Δ' I' J' hq => ?_)
  obtain ⟨rfl, q36, q37, q38, q39, q40, rfl, rfl, rfl⟩ := hq
  show WP Γ _ (_, _) _ _ _ (LAYc.take 41, _, _) _ _ _
  refine wp_putRF (k := 0) dX9_init_113 flX9_52 rfl rfl rfl rfl rfl rfl rfl rfl rfl rfl ?_
  refine wp_aload_n dX9_init_116 0 rfl ?_
  refine wp_new (ci := 8) (n := 5) (N := 41) dX9_init_117 (by decide) rfl (tb1 232 (by decide +kernel) rfl) (tb1 233 (by decide +kernel) rfl) (tb1 8 (by decide +kernel) rfl) rfl (by decide) (fun q41 => ?_)
  show WP Γ _ (_, _) _ _ _ (LAYc.take 42, _, _) _ _ _
  refine wp_dup dX9_init_120 rfl ?_
  refine wp_calliN (mt' := mX8_init) (b' := (4, 40)) (k_X8_init_42 Γ _ _ _ _) dX9_init_121 mlX9_58 mwX8_init (tb1 235 (by decide +kernel) rfl) rfl rfl rfl (Nat.le_of_ble_eq_true rfl) rfl (by decide) (by decide) (by decide) (fun r Δ' I' J' hq => ?_)
  obtain ⟨rfl, q42, q43, q44, q45, rfl, rfl, rfl⟩ := hq
  show WP Γ _ (_, _) _ _ _ (LAYc.take 46, _, _) _ _ _
  refine wp_putRF (k := 0) dX9_init_124 flX9_59 rfl rfl rfl rfl rfl rfl rfl rfl rfl rfl ?_
  refine wp_aload_n dX9_init_127 0 rfl ?_
  refine wp_new (ci := 5) (n := 3) (N := 46) dX9_init_128 (by decide) rfl (tb2 15 (by decide +kernel) rfl) (tb2 16 (by decide +kernel) rfl) (tb1 9 (by decide +kernel) rfl) rfl (by decide) (fun q46 => ?_)
  show WP Γ _ (_, _) _ _ _ (LAYc.take 47, _, _) _ _ _
  refine wp_dup dX9_init_131 rfl ?_
  refine wp_aload_n dX9_init_132 0 rfl ?_
  refine wp_getR (k := 0) (a' := q41) dX9_init_133 flX9_59 rfl rfl rfl rfl rfl ?_
  refine wp_calli (mt' := mX5_init) (b' := (1, 752)) (k_X5_init_47 Γ _ _ _ _) dX9_init_136 mlX9_65 mwX5_init (tb2 18 (by decide +kernel) rfl) rfl rfl rfl (Nat.le_of_ble_eq_true rfl) rfl (by decide) (by decide) (by decide) (fun r Δ' I' J' hq => ?_)
  obtain ⟨rfl, q47, rfl, rfl, rfl⟩ := hq
  show WP Γ _ (_, _) _ _ _ (LAYc.take 48, _, _) _ _ _
  refine wp_putRF (k := 0) dX9_init_139 flX9_68 rfl rfl rfl rfl rfl rfl rfl rfl rfl rfl ?_
  refine wp_aload_n dX9_init_142 0 rfl ?_
  refine wp_new (ci := 3) (n := 2) (N := 48) dX9_init_143 (by decide) rfl (tb2 32 (by decide +kernel) rfl) (tb2 33 (by decide +kernel) rfl) (tb1 10 (by decide +kernel) rfl) rfl (by decide) (fun q48 => ?_)
  show WP Γ _ (_, _) _ _ _ (LAYc.take 49, _, _) _ _ _
  refine wp_dup dX9_init_146 rfl ?_
  refine wp_aload_n dX9_init_147 0 rfl ?_
  refine wp_getR (k := 0) (a' := q3) dX9_init_148 flX9_19 rfl rfl rfl rfl rfl ?_
  refine wp_calli (mt' := mX3_init) (b' := (1, 168)) (k_X3_init_49 Γ _ _ _ _) dX9_init_151 mlX9_74 mwX3_init (tb2 35 (by decide +kernel) rfl) rfl rfl rfl (Nat.le_of_ble_eq_true rfl) rfl (by decide) (by decide) (by decide) (fun r Δ' I' J' hq => ?_)
  obtain ⟨rfl, q49, rfl, rfl, rfl⟩ := hq
  show WP Γ _ (_, _) _ _ _ (LAYc.take 50, _, _) _ _ _
  refine wp_putRF (k := 0) dX9_init_154 flX9_75 rfl rfl rfl rfl rfl rfl rfl rfl rfl rfl ?_
  refine wp_aload_n dX9_init_157 0 rfl ?_
  refine wp_new (ci := 0) (n := 6) (N := 50) dX9_init_158 (by decide) rfl (tb2 45 (by decide +kernel) rfl) (tb2 46 (by decide +kernel) rfl) (tb1 11 (by decide +kernel) rfl) rfl (by decide) (fun q50 => ?_)
  show WP Γ _ (_, _) _ _ _ (LAYc.take 51, _, _) _ _ _
  refine wp_dup dX9_init_161 rfl ?_
  refine wp_aload_n dX9_init_162 0 rfl ?_
  refine wp_getR (k := 0) (a' := q3) dX9_init_163 flX9_19 rfl rfl rfl rfl rfl ?_
  refine wp_calli (mt' := mX0_init) (b' := (4, 120)) (k_X0_init_51 Γ _ _ _ _) dX9_init_166 mlX9_81 mwX0_init (tb2 48 (by decide +kernel) rfl) rfl rfl rfl (Nat.le_of_ble_eq_true rfl) rfl (by decide) (by decide) (by decide) (fun r Δ' I' J' hq => ?_)
  obtain ⟨rfl, q51, q52, q53, q54, rfl, rfl, rfl⟩ := hq
  show WP Γ _ (_, _) _ _ _ (LAYc.take 55, _, _) _ _ _
  refine wp_putRF (k := 0) dX9_init_169 flX9_82 rfl rfl rfl rfl rfl rfl rfl rfl rfl rfl ?_
  refine wp_aload_n dX9_init_172 0 rfl ?_
  refine wp_iconst (v := (-1)) dX9_init_173 (by decide) ?_
  refine wp_putI (k := 0) dX9_init_174 flX9_86 rfl rfl rfl rfl rfl rfl rfl rfl ?_
  exact wp_return dX9_init_177 rfl ⟨rfl, q1, q2, q3, q4, q5, q6, q7, q8, q9, q10, q11, q12, q13, q14, q15, q16, q17, q18, q19, q20, q21, q22, q23, q24, q25, q26, q27, q28, q29, q30, q31, q32, q33, q34, q35, q36, q37, q38, q39, q40, q41, q42, q43, q44, q45, q46, q47, q48, q49, q50, q51, q52, q53, q54, rfl, rfl, rfl⟩
set_option maxRecDepth 100000 in
set_option maxHeartbeats 4000000 in
theorem k_X10_init_56 (Γ : GT) (R : Nat → Nat → Option Nat) (ad : Nat → Nat) (I : IT) (J : JT) (r1 : IT) (hr1 : f_k88_X10_bare (upF (upF (upF (upF (upF (upF (upF (upF (upF (upF (upF (upF (upF (upF (upF (upF (upF (upF (upF (upF (upI (upF (upF (upF (upF (upF (upF (upF (upI (upI (upF (upF (upF (upF (upF (I) 56 (fun _ => 0)) 57 (fun _ => 0)) 58 (fun _ => 0)) 59 (fun _ => 0)) 60 (fun _ => 0)) 55 8 12) 55 9 2) 61 (fun _ => 0)) 62 (fun _ => 0)) 63 (fun _ => 0)) 64 (fun _ => 0)) 65 (fun _ => 0)) 66 (fun _ => 0)) 67 (fun _ => 0)) 55 20 (-1)) 68 (fun _ => 0)) 69 (fun _ => 0)) 70 (fun _ => 0)) 71 (fun _ => 0)) 72 (fun _ => 0)) 73 (fun _ => 0)) 74 (fun _ => 0)) 75 (fun _ => 0)) 76 (fun _ => 0)) 77 (fun _ => 0)) 78 (fun _ => 0)) 79 (fun _ => 0)) 80 (fun _ => 0)) 81 (fun _ => 0)) 82 (fun _ => 0)) 83 (fun _ => 0)) 84 (fun _ => 0)) 85 (fun _ => 0)) 86 (fun _ => 0)) 87 (fun _ => 0)) = some r1) : CALL Γ mX10_init (32, 8483) [.ref (ad 55)] (LAYc.take 56, R, ad) I J (fun r Δ' I' J' => r = none ∧ ∃ q56 q57 q58 q59 q60 q61 q62 q63 q64 q65 q66 q67 q68 q69 q70 q71 q72 q73 q74 q75 q76 q77 q78 q79 q80 q81 q82 q83 q84 q85 q86 q87 : Nat, Δ' = (LAYc.take 88, upR (upF (upR (upF (upR (upF (upR (upF (upR (upF (upR (upF (upR (upF (upR (upF (upR (upF (upR (upF (upR (upF (upR (upF (upR (upF (upR (upF (upR (upF (upR (upF (upR (upF (upR (upF (upR (upF (upR (upF (upR (upF (upR (upF (upR (upF (upR (upF (upR (upF (upR (upF (upR (upF (upR (upF (upR (upF (upR (upF (upR (upF (upR (upF (R) 56 (fun _ => none)) 55 3 (some (q56))) 57 (fun _ => none)) 55 4 (some (q57))) 58 (fun _ => none)) 55 5 (some (q58))) 59 (fun _ => none)) 55 6 (some (q59))) 60 (fun _ => none)) 55 7 (some (q60))) 61 (fun _ => none)) 55 10 (some (q61))) 62 (fun _ => none)) 55 11 (some (q62))) 63 (fun _ => none)) 55 12 (some (q63))) 64 (fun _ => none)) 55 13 (some (q64))) 65 (fun _ => none)) 55 14 (some (q65))) 66 (fun _ => none)) 55 15 (some (q66))) 67 (fun _ => none)) 55 18 (some (q67))) 68 (fun _ => none)) 55 29 (some (q68))) 69 (fun _ => none)) 55 30 (some (q69))) 70 (fun _ => none)) 55 31 (some (q70))) 71 (fun _ => none)) 55 32 (some (q71))) 72 (fun _ => none)) 55 33 (some (q72))) 73 (fun _ => none)) 55 36 (some (q73))) 74 (fun _ => none)) 55 38 (some (q74))) 75 (fun _ => none)) 55 39 (some (q75))) 76 (fun _ => none)) 55 41 (some (q76))) 77 (fun _ => none)) 55 42 (some (q77))) 78 (fun _ => none)) 55 43 (some (q78))) 79 (fun _ => none)) 55 44 (some (q79))) 80 (fun _ => none)) 55 45 (some (q80))) 81 (fun _ => none)) 55 46 (some (q81))) 82 (fun _ => none)) 55 48 (some (q82))) 83 (fun _ => none)) 55 49 (some (q83))) 84 (fun _ => none)) 55 50 (some (q84))) 85 (fun _ => none)) 55 51 (some (q85))) 86 (fun _ => none)) 55 52 (some (q86))) 87 (fun _ => none)) 55 53 (some (q87)), upF (upF (upF (upF (upF (upF (upF (upF (upF (upF (upF (upF (upF (upF (upF (upF (upF (upF (upF (upF (upF (upF (upF (upF (upF (upF (upF (upF (upF (upF (upF (upF (ad) 56 q56) 57 q57) 58 q58) 59 q59) 60 q60) 61 q61) 62 q62) 63 q63) 64 q64) 65 q65) 66 q66) 67 q67) 68 q68) 69 q69) 70 q70) 71 q71) 72 q72) 73 q73) 74 q74) 75 q75) 76 q76) 77 q77) 78 q78) 79 q79) 80 q80) 81 q81) 82 q82) 83 q83) 84 q84) 85 q85) 86 q86) 87 q87) ∧ I' = r1 ∧ J' = upF (upF (upF (upF (upF (upF (upF (upF (upF (upF (upF (upF (upF (upF (upF (upF (upF (upF (upF (upF (upF (upF (upF (upF (upF (upF (upF (upF (upF (upF (upF (upF (J) 56 (fun _ => 0)) 57 (fun _ => 0)) 58 (fun _ => 0)) 59 (fun _ => 0)) 60 (fun _ => 0)) 61 (fun _ => 0)) 62 (fun _ => 0)) 63 (fun _ => 0)) 64 (fun _ => 0)) 65 (fun _ => 0)) 66 (fun _ => 0)) 67 (fun _ => 0)) 68 (fun _ => 0)) 69 (fun _ => 0)) 70 (fun _ => 0)) 71 (fun _ => 0)) 72 (fun _ => 0)) 73 (fun _ => 0)) 74 (fun _ => 0)) 75 (fun _ => 0)) 76 (fun _ => 0)) 77 (fun _ => 0)) 78 (fun _ => 0)) 79 (fun _ => 0)) 80 (fun _ => 0)) 81 (fun _ => 0)) 82 (fun _ => 0)) 83 (fun _ => 0)) 84 (fun _ => 0)) 85 (fun _ => 0)) 86 (fun _ => 0)) 87 (fun _ => 0)) := by
  refine call_of' (by decide) (Nat.le_of_ble_eq_true rfl) (lv0 := [(0, .ref (ad 55))]) rfl ?_
  refine wp_aload_n dX10_init_0 0 rfl ?_
  refine wp_objInit dX10_init_1 mlX10_1 (by decide) (Nat.le_of_ble_eq_true rfl) ?_
  refine wp_aload_n dX10_init_4 0 rfl ?_
  refine wp_bipush (v := 6) dX10_init_5 (by decide) ?_
  refine wp_newaI (n' := 6) (N := 56) dX10_init_7 (by decide) (by decide) (by decide) rfl (by decide) (fun q56 => ?_)
  show WP Γ _ (_, _) _ _ _ (LAYc.take 57, _, _) _ _ _
  refine wp_putRF (k := 55) dX10_init_9 flX10_7 rfl rfl rfl rfl rfl rfl rfl rfl rfl rfl ?_
  refine wp_aload_n dX10_init_12 0 rfl ?_
  refine wp_bipush (v := 6) dX10_init_13 (by decide) ?_
  refine wp_newaI (n' := 6) (N := 57) dX10_init_15 (by decide) (by decide) (by decide) rfl (by decide) (fun q57 => ?_)
  show WP Γ _ (_, _) _ _ _ (LAYc.take 58, _, _) _ _ _
  refine wp_putRF (k := 55) dX10_init_17 flX10_13 rfl rfl rfl rfl rfl rfl rfl rfl rfl rfl ?_
  refine wp_aload_n dX10_init_20 0 rfl ?_
  refine wp_bipush (v := 36) dX10_init_21 (by decide) ?_
  refine wp_newaI (n' := 36) (N := 58) dX10_init_23 (by decide) (by decide) (by decide) rfl (by decide) (fun q58 => ?_)
  show WP Γ _ (_, _) _ _ _ (LAYc.take 59, _, _) _ _ _
  refine wp_putRF (k := 55) dX10_init_25 flX10_16 rfl rfl rfl rfl rfl rfl rfl rfl rfl rfl ?_
  refine wp_aload_n dX10_init_28 0 rfl ?_
  refine wp_iconst (v := 2) dX10_init_29 (by decide) ?_
  refine wp_newaI (n' := 2) (N := 59) dX10_init_30 (by decide) (by decide) (by decide) rfl (by decide) (fun q59 => ?_)
  show WP Γ _ (_, _) _ _ _ (LAYc.take 60, _, _) _ _ _
  refine wp_putRF (k := 55) dX10_init_32 flX10_19 rfl rfl rfl rfl rfl rfl rfl rfl rfl rfl ?_
  refine wp_aload_n dX10_init_35 0 rfl ?_
  refine wp_bipush (v := 14) dX10_init_36 (by decide) ?_
  refine wp_newaI (n' := 14) (N := 60) dX10_init_38 (by decide) (by decide) (by decide) rfl (by decide) (fun q60 => ?_)
  show WP Γ _ (_, _) _ _ _ (LAYc.take 61, _, _) _ _ _
  refine wp_putRF (k := 55) dX10_init_40 flX10_22 rfl rfl rfl rfl rfl rfl rfl rfl rfl rfl ?_
  refine wp_aload_n dX10_init_43 0 rfl ?_
  refine wp_bipush (v := 12) dX10_init_44 (by decide) ?_
  refine wp_putI (k := 55) dX10_init_46 flX10_25 rfl rfl rfl rfl rfl rfl rfl rfl ?_
  refine wp_aload_n dX10_init_49 0 rfl ?_
  refine wp_iconst (v := 2) dX10_init_50 (by decide) ?_
  refine wp_putI (k := 55) dX10_init_51 flX10_29 rfl rfl rfl rfl rfl rfl rfl rfl ?_
  refine wp_aload_n dX10_init_54 0 rfl ?_
  refine wp_bipush (v := 14) dX10_init_55 (by decide) ?_
  refine wp_newaI (n' := 14) (N := 61) dX10_init_57 (by decide) (by decide) (by decide) rfl (by decide) (fun q61 => ?_)
  show WP Γ _ (_, _) _ _ _ (LAYc.take 62, _, _) _ _ _
  refine wp_putRF (k := 55) dX10_init_59 flX10_32 rfl rfl rfl rfl rfl rfl rfl rfl rfl rfl ?_
  refine wp_aload_n dX10_init_62 0 rfl ?_
  refine wp_bipush (v := 84) dX10_init_63 (by decide) ?_
  refine wp_newaI (n' := 84) (N := 62) dX10_init_65 (by decide) (by decide) (by decide) rfl (by decide) (fun q62 => ?_)
  show WP Γ _ (_, _) _ _ _ (LAYc.take 63, _, _) _ _ _
  refine wp_putRF (k := 55) dX10_init_67 flX10_35 rfl rfl rfl rfl rfl rfl rfl rfl rfl rfl ?_
  refine wp_aload_n dX10_init_70 0 rfl ?_
  refine wp_bipush (v := 84) dX10_init_71 (by decide) ?_
  refine wp_newaI (n' := 84) (N := 63) dX10_init_73 (by decide) (by decide) (by decide) rfl (by decide) (fun q63 => ?_)
  show WP Γ _ (_, _) _ _ _ (LAYc.take 64, _, _) _ _ _
  refine wp_putRF (k := 55) dX10_init_75 flX10_38 rfl rfl rfl rfl rfl rfl rfl rfl rfl rfl ?_
  refine wp_aload_n dX10_init_78 0 rfl ?_
  refine wp_bipush (v := 6) dX10_init_79 (by decide) ?_
  refine wp_newaI (n' := 6) (N := 64) dX10_init_81 (by decide) (by decide) (by decide) rfl (by decide) (fun q64 => ?_)
  show WP Γ _ (_, _) _ _ _ (LAYc.take 65, _, _) _ _ _
  refine wp_putRF (k := 55) dX10_init_83 flX10_41 rfl rfl rfl rfl rfl rfl rfl rfl rfl rfl ?_
  refine wp_aload_n dX10_init_86 0 rfl ?_
  refine wp_bipush (v := 6) dX10_init_87 (by decide) ?_
  refine wp_newaI (n' := 6) (N := 65) dX10_init_89 (by decide) (by decide) (by decide) rfl (by decide) (fun q65 => ?_)
  show WP Γ _ (_, _) _ _ _ (LAYc.take 66, _, _) _ _ _
  refine wp_putRF (k := 55) dX10_init_91 flX10_44 rfl rfl rfl rfl rfl rfl rfl rfl rfl rfl ?_
  refine wp_aload_n dX10_init_94 0 rfl ?_
  refine wp_bipush (v := 14) dX10_init_95 (by decide) ?_
  refine wp_newaI (n' := 14) (N := 66) dX10_init_97 (by decide) (by decide) (by decide) rfl (by decide) (fun q66 => ?_)
  show WP Γ _ (_, _) _ _ _ (LAYc.take 67, _, _) _ _ _
  refine wp_putRF (k := 55) dX10_init_99 flX10_47 rfl rfl rfl rfl rfl rfl rfl rfl rfl rfl ?_
  refine wp_aload_n dX10_init_102 0 rfl ?_
  refine wp_sipush (v := 500) dX10_init_103 (by decide) ?_
  refine wp_newaI (n' := 500) (N := 67) dX10_init_106 (by decide) (by decide) (by decide) rfl (by decide) (fun q67 => ?_)
  show WP Γ _ (_, _) _ _ _ (LAYc.take 68, _, _) _ _ _
  refine wp_putRF (k := 55) dX10_init_108 flX10_50 rfl rfl rfl rfl rfl rfl rfl rfl rfl rfl ?_
  refine wp_aload_n dX10_init_111 0 rfl ?_
  refine wp_iconst (v := (-1)) dX10_init_112 (by decide) ?_
  refine wp_putI (k := 55) dX10_init_113 flX10_53 rfl rfl rfl rfl rfl rfl rfl rfl ?_
  refine wp_aload_n dX10_init_116 0 rfl ?_
  refine wp_bipush (v := 6) dX10_init_117 (by decide) ?_
  refine wp_newaI (n' := 6) (N := 68) dX10_init_119 (by decide) (by decide) (by decide) rfl (by decide) (fun q68 => ?_)
  show WP Γ _ (_, _) _ _ _ (LAYc.take 69, _, _) _ _ _
  refine wp_putRF (k := 55) dX10_init_121 flX10_56 rfl rfl rfl rfl rfl rfl rfl rfl rfl rfl ?_
  refine wp_aload_n dX10_init_124 0 rfl ?_
  refine wp_bipush (v := 6) dX10_init_125 (by decide) ?_
  refine wp_newaI (n' := 6) (N := 69) dX10_init_127 (by decide) (by decide) (by decide) rfl (by decide) (fun q69 => ?_)
  show WP Γ _ (_, _) _ _ _ (LAYc.take 70, _, _) _ _ _
  refine wp_putRF (k := 55) dX10_init_129 flX10_59 rfl rfl rfl rfl rfl rfl rfl rfl rfl rfl ?_
  refine wp_aload_n dX10_init_132 0 rfl ?_
  refine wp_bipush (v := 36) dX10_init_133 (by decide) ?_
  refine wp_newaI (n' := 36) (N := 70) dX10_init_135 (by decide) (by decide) (by decide) rfl (by decide) (fun q70 => ?_)
  show WP Γ _ (_, _) _ _ _ (LAYc.take 71, _, _) _ _ _
  refine wp_putRF (k := 55) dX10_init_137 flX10_62 rfl rfl rfl rfl rfl rfl rfl rfl rfl rfl ?_
  refine wp_aload_n dX10_init_140 0 rfl ?_
  refine wp_iconst (v := 2) dX10_init_141 (by decide) ?_
  refine wp_newaI (n' := 2) (N := 71) dX10_init_142 (by decide) (by decide) (by decide) rfl (by decide) (fun q71 => ?_)
  show WP Γ _ (_, _) _ _ _ (LAYc.take 72, _, _) _ _ _
  refine wp_putRF (k := 55) dX10_init_144 flX10_65 rfl rfl rfl rfl rfl rfl rfl rfl rfl rfl ?_
  refine wp_aload_n dX10_init_147 0 rfl ?_
  refine wp_bipush (v := 14) dX10_init_148 (by decide) ?_
  refine wp_newaI (n' := 14) (N := 72) dX10_init_150 (by decide) (by decide) (by decide) rfl (by decide) (fun q72 => ?_)
  show WP Γ _ (_, _) _ _ _ (LAYc.take 73, _, _) _ _ _
  refine wp_putRF (k := 55) dX10_init_152 flX10_68 rfl rfl rfl rfl rfl rfl rfl rfl rfl rfl ?_
  refine wp_aload_n dX10_init_155 0 rfl ?_
  refine wp_bipush (v := 7) dX10_init_156 (by decide) ?_
  refine wp_newaI (n' := 7) (N := 73) dX10_init_158 (by decide) (by decide) (by decide) rfl (by decide) (fun q73 => ?_)
  show WP Γ _ (_, _) _ _ _ (LAYc.take 74, _, _) _ _ _
  refine wp_putRF (k := 55) dX10_init_160 flX10_71 rfl rfl rfl rfl rfl rfl rfl rfl rfl rfl ?_
  refine wp_aload_n dX10_init_163 0 rfl ?_
  refine wp_sipush (v := 512) dX10_init_164 (by decide) ?_
  refine wp_newaI (n' := 512) (N := 74) dX10_init_167 (by decide) (by decide) (by decide) rfl (by decide) (fun q74 => ?_)
  show WP Γ _ (_, _) _ _ _ (LAYc.take 75, _, _) _ _ _
  refine wp_putRF (k := 55) dX10_init_169 flX10_74 rfl rfl rfl rfl rfl rfl rfl rfl rfl rfl ?_
  refine wp_aload_n dX10_init_172 0 rfl ?_
  refine wp_bipush (v := 6) dX10_init_173 (by decide) ?_
  refine wp_newaI (n' := 6) (N := 75) dX10_init_175 (by decide) (by decide) (by decide) rfl (by decide) (fun q75 => ?_)
  show WP Γ _ (_, _) _ _ _ (LAYc.take 76, _, _) _ _ _
  refine wp_putRF (k := 55) dX10_init_177 flX10_77 rfl rfl rfl rfl rfl rfl rfl rfl rfl rfl ?_
  refine wp_aload_n dX10_init_180 0 rfl ?_
  refine wp_bipush (v := 10) dX10_init_181 (by decide) ?_
  refine wp_newaI (n' := 10) (N := 76) dX10_init_183 (by decide) (by decide) (by decide) rfl (by decide) (fun q76 => ?_)
  show WP Γ _ (_, _) _ _ _ (LAYc.take 77, _, _) _ _ _
  refine wp_putRF (k := 55) dX10_init_185 flX10_80 rfl rfl rfl rfl rfl rfl rfl rfl rfl rfl ?_
  refine wp_aload_n dX10_init_188 0 rfl ?_
  refine wp_bipush (v := 10) dX10_init_189 (by decide) ?_
  refine wp_newaI (n' := 10) (N := 77) dX10_init_191 (by decide) (by decide) (by decide) rfl (by decide) (fun q77 => ?_)
  show WP Γ _ (_, _) _ _ _ (LAYc.take 78, _, _) _ _ _
  refine wp_putRF (k := 55) dX10_init_193 flX10_83 rfl rfl rfl rfl rfl rfl rfl rfl rfl rfl ?_
  refine wp_aload_n dX10_init_196 0 rfl ?_
  refine wp_bipush (v := 10) dX10_init_197 (by decide) ?_
  refine wp_newaI (n' := 10) (N := 78) dX10_init_199 (by decide) (by decide) (by decide) rfl (by decide) (fun q78 => ?_)
  show WP Γ _ (_, _) _ _ _ (LAYc.take 79, _, _) _ _ _
  refine wp_putRF (k := 55) dX10_init_201 flX10_86 rfl rfl rfl rfl rfl rfl rfl rfl rfl rfl ?_
  refine wp_aload_n dX10_init_204 0 rfl ?_
  refine wp_bipush (v := 10) dX10_init_205 (by decide) ?_
  refine wp_newaZ (n' := 10) (N := 79) dX10_init_207 (by decide) (by decide) (by decide) rfl (by decide) (fun q79 => ?_)
  show WP Γ _ (_, _) _ _ _ (LAYc.take 80, _, _) _ _ _
  refine wp_putRF (k := 55) dX10_init_209 flX10_89 rfl rfl rfl rfl rfl rfl rfl rfl rfl rfl ?_
  refine wp_aload_n dX10_init_212 0 rfl ?_
  refine wp_sipush (v := 6016) dX10_init_213 (by decide) ?_
  refine wp_newaJ (n' := 6016) (N := 80) dX10_init_216 (by decide) (by decide) (by decide) rfl (by decide) (fun q80 => ?_)
  show WP Γ _ (_, _) _ _ _ (LAYc.take 81, _, _) _ _ _
  refine wp_putRF (k := 55) dX10_init_218 flX10_93 rfl rfl rfl rfl rfl rfl rfl rfl rfl rfl ?_
  refine wp_aload_n dX10_init_221 0 rfl ?_
  refine wp_sipush (v := 504) dX10_init_222 (by decide) ?_
  refine wp_newaI (n' := 504) (N := 81) dX10_init_225 (by decide) (by decide) (by decide) rfl (by decide) (fun q81 => ?_)
  show WP Γ _ (_, _) _ _ _ (LAYc.take 82, _, _) _ _ _
  refine wp_putRF (k := 55) dX10_init_227 flX10_97 rfl rfl rfl rfl rfl rfl rfl rfl rfl rfl ?_
  refine wp_aload_n dX10_init_230 0 rfl ?_
  refine wp_bipush (v := 30) dX10_init_231 (by decide) ?_
  refine wp_newaI (n' := 30) (N := 82) dX10_init_233 (by decide) (by decide) (by decide) rfl (by decide) (fun q82 => ?_)
  show WP Γ _ (_, _) _ _ _ (LAYc.take 83, _, _) _ _ _
  refine wp_putRF (k := 55) dX10_init_235 flX10_100 rfl rfl rfl rfl rfl rfl rfl rfl rfl rfl ?_
  refine wp_aload_n dX10_init_238 0 rfl ?_
  refine wp_bipush (v := 30) dX10_init_239 (by decide) ?_
  refine wp_newaI (n' := 30) (N := 83) dX10_init_241 (by decide) (by decide) (by decide) rfl (by decide) (fun q83 => ?_)
  show WP Γ _ (_, _) _ _ _ (LAYc.take 84, _, _) _ _ _
  refine wp_putRF (k := 55) dX10_init_243 flX10_103 rfl rfl rfl rfl rfl rfl rfl rfl rfl rfl ?_
  refine wp_aload_n dX10_init_246 0 rfl ?_
  refine wp_bipush (v := 30) dX10_init_247 (by decide) ?_
  refine wp_newaI (n' := 30) (N := 84) dX10_init_249 (by decide) (by decide) (by decide) rfl (by decide) (fun q84 => ?_)
  show WP Γ _ (_, _) _ _ _ (LAYc.take 85, _, _) _ _ _
  refine wp_putRF (k := 55) dX10_init_251 flX10_106 rfl rfl rfl rfl rfl rfl rfl rfl rfl rfl ?_
  refine wp_aload_n dX10_init_254 0 rfl ?_
  refine wp_bipush (v := 30) dX10_init_255 (by decide) ?_
  refine wp_newaI (n' := 30) (N := 85) dX10_init_257 (by decide) (by decide) (by decide) rfl (by decide) (fun q85 => ?_)
  show WP Γ _ (_, _) _ _ _ (LAYc.take 86, _, _) _ _ _
  refine wp_putRF (k := 55) dX10_init_259 flX10_109 rfl rfl rfl rfl rfl rfl rfl rfl rfl rfl ?_
  refine wp_aload_n dX10_init_262 0 rfl ?_
  refine wp_sipush (v := 440) dX10_init_263 (by decide) ?_
  refine wp_newaI (n' := 440) (N := 86) dX10_init_266 (by decide) (by decide) (by decide) rfl (by decide) (fun q86 => ?_)
  show WP Γ _ (_, _) _ _ _ (LAYc.take 87, _, _) _ _ _
  refine wp_putRF (k := 55) dX10_init_268 flX10_112 rfl rfl rfl rfl rfl rfl rfl rfl rfl rfl ?_
  refine wp_aload_n dX10_init_271 0 rfl ?_
  refine wp_iconst (v := 2) dX10_init_272 (by decide) ?_
  refine wp_newaZ (n' := 2) (N := 87) dX10_init_273 (by decide) (by decide) (by decide) rfl (by decide) (fun q87 => ?_)
  show WP Γ _ (_, _) _ _ _ (LAYc.take 88, _, _) _ _ _
  refine wp_putRF (k := 55) dX10_init_275 flX10_115 rfl rfl rfl rfl rfl rfl rfl rfl rfl rfl ?_
  refine wp_aload_n dX10_init_278 0 rfl ?_
  refine wp_callvV0 (k := 55) (ci := 10) (c_k88_X10_bare Γ _ _ rfl rfl rfl rfl rfl rfl _ _ r1 hr1) dX10_init_279 mlX10_118 mwX10_bare miX10_bare rfl rfl rfl rfl (Nat.le_of_ble_eq_true rfl) rfl (by decide) (by decide) ?_
  exact wp_return dX10_init_282 rfl ⟨rfl, q56, q57, q58, q59, q60, q61, q62, q63, q64, q65, q66, q67, q68, q69, q70, q71, q72, q73, q74, q75, q76, q77, q78, q79, q80, q81, q82, q83, q84, q85, q86, q87, rfl, rfl, rfl⟩
