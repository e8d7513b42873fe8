/-! rows of WP that touch cells, constants, other methods -/
def g_cls (ci : Nat) : vw_C := vwCl.getD ci ("", fun _ => ("", "", "", false), 0)
/-- a field's link: own class, pool entry, the class that has it, the slot -/
def FL (own : String) (idx ci j : Nat) : Prop := j < (g_cls ci).2.2 ∧ Cond.fieldLink own idx (g_cls ci).1 ((g_cls ci).2.1 j).2.1 ((g_cls ci).2.1 j).2.2.1 ∈ lw_good ∧ ((g_cls ci).2.1 j).1 = (g_cls ci).1
theorem g_cls_at {ci : Nat} (h : ci < 11) : vwCl[ci]? = some ((g_cls ci).1, (g_cls ci).2.1, (g_cls ci).2.2) := by
  match ci, h with
  | 0, _ => rfl
  | 1, _ => rfl
  | 2, _ => rfl
  | 3, _ => rfl
  | 4, _ => rfl
  | 5, _ => rfl
  | 6, _ => rfl
  | 7, _ => rfl
  | 8, _ => rfl
  | 9, _ => rfl
  | 10, _ => rfl
  | n + 11, h => exact absurd h (by omega)
theorem FL.lt {own : String} {idx ci j : Nat} (h : FL own idx ci j) : ci < 11 := by
  by_cases c : ci < 11
  · exact c
  · have h1 := h.1
    have e : g_cls ci = ("", fun _ => ("", "", "", false), 0) := by simp [g_cls, vwCl, show 11 ≤ ci from by omega]
    rw [e] at h1
    exact absurd h1 (by simp)

theorem g_in0 : ∀ w ∈ u_ws RX0 TX0 6, w ∈ lw_good := by decide +kernel
theorem g_in1 : ∀ w ∈ u_ws RX1 TX1 9, w ∈ lw_good := by decide +kernel
theorem g_in2 : ∀ w ∈ u_ws RX2 TX2 8, w ∈ lw_good := by decide +kernel
theorem g_in3 : ∀ w ∈ u_ws RX3 TX3 2, w ∈ lw_good := by decide +kernel
theorem g_in4 : ∀ w ∈ u_ws RX4 TX4 7, w ∈ lw_good := by decide +kernel
theorem g_in5 : ∀ w ∈ u_ws RX5 TX5 3, w ∈ lw_good := by decide +kernel
theorem g_in6 : ∀ w ∈ u_ws RX6 TX6 2, w ∈ lw_good := by decide +kernel
theorem g_in7 : ∀ w ∈ u_ws RX7 TX7 10, w ∈ lw_good := by decide +kernel
theorem g_in8 : ∀ w ∈ u_ws RX8 TX8 5, w ∈ lw_good := by decide +kernel
theorem g_in9 : ∀ w ∈ u_ws RX9 TX9 12, w ∈ lw_good := by decide +kernel
theorem g_in10 : ∀ w ∈ u_ws RX10 TX10 54, w ∈ lw_good := by decide +kernel
theorem g_in {ci : Nat} (h : ci < 11) : ∀ w ∈ u_ws (g_cls ci).1 (g_cls ci).2.1 (g_cls ci).2.2, w ∈ lw_good := by
  match ci, h with
  | 0, _ => exact g_in0
  | 1, _ => exact g_in1
  | 2, _ => exact g_in2
  | 3, _ => exact g_in3
  | 4, _ => exact g_in4
  | 5, _ => exact g_in5
  | 6, _ => exact g_in6
  | 7, _ => exact g_in7
  | 8, _ => exact g_in8
  | 9, _ => exact g_in9
  | 10, _ => exact g_in10
  | n + 11, h => exact absurd h (by omega)
def g_ty (ci : Nat) : Nat → FieldType := match ci with
  | 0 => tyX0
  | 1 => tyX1
  | 2 => tyX2
  | 3 => tyX3
  | 4 => tyX4
  | 5 => tyX5
  | 6 => tyX6
  | 7 => tyX7
  | 8 => tyX8
  | 9 => tyX9
  | _ => tyX10
theorem g_tyok {ci : Nat} (h : ci < 11) : ∀ k, k < (g_cls ci).2.2 → parseFieldDescriptor ((g_cls ci).2.1 k).2.2.1 = some (g_ty ci k) := by
  match ci, h with
  | 0, _ => exact tyX0_ok
  | 1, _ => exact tyX1_ok
  | 2, _ => exact tyX2_ok
  | 3, _ => exact tyX3_ok
  | 4, _ => exact tyX4_ok
  | 5, _ => exact tyX5_ok
  | 6, _ => exact tyX6_ok
  | 7, _ => exact tyX7_ok
  | 8, _ => exact tyX8_ok
  | 9, _ => exact tyX9_ok
  | 10, _ => exact tyX10_ok
  | n + 11, h => exact absurd h (by omega)
theorem g_nm {ci : Nat} (h : ci < 11) : ∀ a, a < (g_cls ci).2.2 → ∀ b, b < (g_cls ci).2.2 → a ≠ b → ((g_cls ci).2.1 a).2.1 ≠ ((g_cls ci).2.1 b).2.1 := by
  match ci, h with
  | 0, _ => exact nmX0
  | 1, _ => exact nmX1
  | 2, _ => exact nmX2
  | 3, _ => exact nmX3
  | 4, _ => exact nmX4
  | 5, _ => exact nmX5
  | 6, _ => exact nmX6
  | 7, _ => exact nmX7
  | 8, _ => exact nmX8
  | 9, _ => exact nmX9
  | 10, _ => exact nmX10
  | n + 11, h => exact absurd h (by omega)
section RULES2
variable {Γ : GT} {mt : MT} {b : Nat × Nat} {pc : Nat} {lv : List (Nat × Value)} {st rest : List Value} {Δ : DT} {I : IT} {J : JT} {Q : QT}
theorem g_fs_at {n k ci j : Nat} (hj : Nat.ble (j + 1) n = true) : ((List.range n).map (fun j => g_fv Δ I J k ci j))[j]? = some (g_fv Δ I J k ci j) := by
  have := Nat.le_of_ble_eq_true hj
  simp [show j < n from this]
theorem wp_getI {idx ci j k n a : Nat} (hd : decode mt.2.1 pc = .ok (.getfield idx, 3)) (hf : FL mt.1.cls idx ci j) (hk : Δ.1[k]? = some (10 + ci, n)) (hj : Nat.ble (j + 1) n = true) (hz : g_fk ci j = 0) (ha : Δ.2.2 k = a) (kk : WP Γ mt b (pc + 3) lv (.int (I k j) :: rest) Δ I J Q) : WP Γ mt b pc lv (.ref a :: rest) Δ I J Q :=
  fun p e R s m args below meth c H locs cells slots ls mc ms h => by
    subst ha
    exact va_get h.1.1 h.1.2.1 h.1.2.2.2.2.2.1 (g_in hf.lt) h.1.2.2.2.2.1 h.2.2.2.1.1 h.2.2.1.1 k ((g_W_at hk).trans (by rw [g_kind_obj])) (g_cls_at hf.lt) j hf.1 (h.1.2.2.2.2.2.1 _ hf.2.1) (fun x hx => by rw [← hf.2.2]; exact hx) (v := .int (I k j)) (by rw [g_fs_at hj]; simp [g_fv, hz]) hd (kk p e R s m args below meth c H locs cells slots ls mc ms h)
theorem wp_getJ {idx ci j k n a : Nat} (hd : decode mt.2.1 pc = .ok (.getfield idx, 3)) (hf : FL mt.1.cls idx ci j) (hk : Δ.1[k]? = some (10 + ci, n)) (hj : Nat.ble (j + 1) n = true) (hz : g_fk ci j = 1) (ha : Δ.2.2 k = a) (kk : WP Γ mt b (pc + 3) lv (.long (J k j) :: rest) Δ I J Q) : WP Γ mt b pc lv (.ref a :: rest) Δ I J Q :=
  fun p e R s m args below meth c H locs cells slots ls mc ms h => by
    subst ha
    exact va_get h.1.1 h.1.2.1 h.1.2.2.2.2.2.1 (g_in hf.lt) h.1.2.2.2.2.1 h.2.2.2.1.1 h.2.2.1.1 k ((g_W_at hk).trans (by rw [g_kind_obj])) (g_cls_at hf.lt) j hf.1 (h.1.2.2.2.2.2.1 _ hf.2.1) (fun x hx => by rw [← hf.2.2]; exact hx) (v := .long (J k j)) (by rw [g_fs_at hj]; simp [g_fv, hz]) hd (kk p e R s m args below meth c H locs cells slots ls mc ms h)
theorem wp_getR {idx ci j k n a a' : Nat} (hd : decode mt.2.1 pc = .ok (.getfield idx, 3)) (hf : FL mt.1.cls idx ci j) (hk : Δ.1[k]? = some (10 + ci, n)) (hj : Nat.ble (j + 1) n = true) (hz : g_fk ci j = 2) (ha : Δ.2.2 k = a) (ht : Δ.2.1 k j = some a') (kk : WP Γ mt b (pc + 3) lv (.ref a' :: rest) Δ I J Q) : WP Γ mt b pc lv (.ref a :: rest) Δ I J Q :=
  fun p e R s m args below meth c H locs cells slots ls mc ms h => by
    subst ha
    exact va_get h.1.1 h.1.2.1 h.1.2.2.2.2.2.1 (g_in hf.lt) h.1.2.2.2.2.1 h.2.2.2.1.1 h.2.2.1.1 k ((g_W_at hk).trans (by rw [g_kind_obj])) (g_cls_at hf.lt) j hf.1 (h.1.2.2.2.2.2.1 _ hf.2.1) (fun x hx => by rw [← hf.2.2]; exact hx) (v := .ref a') (by rw [g_fs_at hj]; simp [g_fv, hz, ht, va_rf]) hd (kk p e R s m args below meth c H locs cells slots ls mc ms h)
theorem g_fs_setI {n k ci j : Nat} {v : Int32} (hj : Nat.ble (j + 1) n = true) (hz : g_fk ci j = 0) : ((List.range n).map (fun i => g_fv Δ I J k ci i)).set j (.int v) = (List.range n).map (fun i => g_fv Δ (upI I k j v) J k ci i) := by
  have hj' : j < n := Nat.le_of_ble_eq_true hj
  refine List.ext_getElem? (fun a => ?_)
  by_cases ha : a = j
  · subst ha
    rw [List.getElem?_set_self (by simpa using hj')]
    simp [hj', g_fv, hz, upI_s]
  · rw [List.getElem?_set_ne (Ne.symm ha)]
    by_cases hn : a < n
    · simp [hn, g_fv, upI_j ha]
    · simp [show n ≤ a from by omega]
theorem wp_putI {idx ci j k n a : Nat} {v : Int32} {ty : FieldType} (hd : decode mt.2.1 pc = .ok (.putfield idx, 3)) (hf : FL mt.1.cls idx ci j) (hk : Δ.1[k]? = some (10 + ci, n)) (hj : Nat.ble (j + 1) n = true) (hz : g_fk ci j = 0) (hfin : ((g_cls ci).2.1 j).2.2.2 = false) (ha : Δ.2.2 k = a) (hty : g_ty ci j = ty) (hn : narrow ty (.int v) = .int v) (hfit : fits ty (.int v) = true) (kk : WP Γ mt b (pc + 3) lv rest Δ (upI I k j v) J Q) : WP Γ mt b pc lv (.int v :: .ref a :: rest) Δ I J Q :=
  fun p e R s m args below meth c H locs cells slots ls mc ms h => by
    subst ha
    refine va_put h.1.1 h.1.2.1 h.1.2.2.2.2.2.1 (g_in hf.lt) (g_ty ci) (g_tyok hf.lt) (g_nm hf.lt) h.1.2.2.2.2.1 h.2.2.2.1.1 h.2.2.1.1 h.2.2.1.2.1 h.2.2.1.2.2.1 k ((g_W_at hk).trans (by rw [g_kind_obj])) (g_cls_at hf.lt) j hf.1 (h.1.2.2.2.2.2.1 _ hf.2.1) (fun x hx => by rw [← hf.2.2]; exact hx) hfin (ty := ty) (v := .int v) (by rw [g_tyok hf.lt j hf.1, hty]) hn hfit (by have := Nat.le_of_ble_eq_true hj; simp; omega) hd (fun H1 locs1 hP hD hS => ?_)
    rw [g_fs_setI hj hz, g_W_set (Δ' := Δ) (I' := upI I k j v) (J' := J) hk rfl rfl g_kind_obj (fun a ha t n => g_kind_upI ha)] at hP hD
    exact kk p e R s m args below meth c H1 locs1 cells slots ls mc ms ⟨h.1, h.2.1, ⟨hP, hD, hS, h.2.2.1.2.2.2⟩, h.2.2.2⟩
theorem g_fs_setJ {n k ci j : Nat} {v : Int64} (hj : Nat.ble (j + 1) n = true) (hz : g_fk ci j = 1) : ((List.range n).map (fun i => g_fv Δ I J k ci i)).set j (.long v) = (List.range n).map (fun i => g_fv Δ I (upJ J k j v) k ci i) := by
  have hj' : j < n := Nat.le_of_ble_eq_true hj
  refine List.ext_getElem? (fun a => ?_)
  by_cases ha : a = j
  · subst ha
    rw [List.getElem?_set_self (by simpa using hj')]
    simp [hj', g_fv, hz, upJ_s]
  · rw [List.getElem?_set_ne (Ne.symm ha)]
    by_cases hn : a < n
    · simp [hn, g_fv, upJ_j ha]
    · simp [show n ≤ a from by omega]
theorem wp_putJ {idx ci j k n a : Nat} {v : Int64} (hd : decode mt.2.1 pc = .ok (.putfield idx, 3)) (hf : FL mt.1.cls idx ci j) (hk : Δ.1[k]? = some (10 + ci, n)) (hj : Nat.ble (j + 1) n = true) (hz : g_fk ci j = 1) (hfin : ((g_cls ci).2.1 j).2.2.2 = false) (ha : Δ.2.2 k = a) (hty : g_ty ci j = .long) (kk : WP Γ mt b (pc + 3) lv rest Δ I (upJ J k j v) Q) : WP Γ mt b pc lv (.long v :: .ref a :: rest) Δ I J Q :=
  fun p e R s m args below meth c H locs cells slots ls mc ms h => by
    subst ha
    refine va_put h.1.1 h.1.2.1 h.1.2.2.2.2.2.1 (g_in hf.lt) (g_ty ci) (g_tyok hf.lt) (g_nm hf.lt) h.1.2.2.2.2.1 h.2.2.2.1.1 h.2.2.1.1 h.2.2.1.2.1 h.2.2.1.2.2.1 k ((g_W_at hk).trans (by rw [g_kind_obj])) (g_cls_at hf.lt) j hf.1 (h.1.2.2.2.2.2.1 _ hf.2.1) (fun x hx => by rw [← hf.2.2]; exact hx) hfin (ty := .long) (v := .long v) (by rw [g_tyok hf.lt j hf.1, hty]) rfl rfl (by have := Nat.le_of_ble_eq_true hj; simp; omega) hd (fun H1 locs1 hP hD hS => ?_)
    rw [g_fs_setJ hj hz, g_W_set (Δ' := Δ) (I' := I) (J' := upJ J k j v) hk rfl rfl g_kind_obj (fun a ha t n => g_kind_upJ ha)] at hP hD
    exact kk p e R s m args below meth c H1 locs1 cells slots ls mc ms ⟨h.1, h.2.1, ⟨hP, hD, hS, h.2.2.1.2.2.2⟩, h.2.2.2⟩
theorem wp_iald {k n a : Nat} {i : Int32} (hd : decode mt.2.1 pc = .ok (.iaload, 1)) (hk : Δ.1[k]? = some (0, n)) (ha : Δ.2.2 k = a) (hin : vp_in i n) (kk : WP Γ mt b (pc + 1) lv (.int (I k i.toNatClampNeg) :: rest) Δ I J Q) : WP Γ mt b pc lv (.int i :: .ref a :: rest) Δ I J Q :=
  fun p e R s m args below meth c H locs cells slots ls mc ms h => by
    subst ha
    exact va_iald h.1.1 h.1.2.1 h.2.2.2.1.1 h.2.2.1.1 k 0 (g_W_at hk) rfl hin hd (kk p e R s m args below meth c H locs cells slots ls mc ms h)
theorem wp_bald {k n a : Nat} {i : Int32} (hd : decode mt.2.1 pc = .ok (.baload, 1)) (hk : Δ.1[k]? = some (2, n)) (ha : Δ.2.2 k = a) (hin : vp_in i n) (kk : WP Γ mt b (pc + 1) lv (.int (I k i.toNatClampNeg) :: rest) Δ I J Q) : WP Γ mt b pc lv (.int i :: .ref a :: rest) Δ I J Q :=
  fun p e R s m args below meth c H locs cells slots ls mc ms h => by
    subst ha
    exact va_bald h.1.1 h.1.2.1 h.2.2.2.1.1 h.2.2.1.1 k 2 (g_W_at hk) rfl hin hd (kk p e R s m args below meth c H locs cells slots ls mc ms h)
theorem wp_zald {k n a : Nat} {i : Int32} (hd : decode mt.2.1 pc = .ok (.baload, 1)) (hk : Δ.1[k]? = some (3, n)) (ha : Δ.2.2 k = a) (hin : vp_in i n) (kk : WP Γ mt b (pc + 1) lv (.int (I k i.toNatClampNeg) :: rest) Δ I J Q) : WP Γ mt b pc lv (.int i :: .ref a :: rest) Δ I J Q :=
  fun p e R s m args below meth c H locs cells slots ls mc ms h => by
    subst ha
    exact va_zald h.1.1 h.1.2.1 h.2.2.2.1.1 h.2.2.1.1 k 3 (g_W_at hk) rfl hin hd (kk p e R s m args below meth c H locs cells slots ls mc ms h)
theorem wp_lald {k n a : Nat} {i : Int32} (hd : decode mt.2.1 pc = .ok (.laload, 1)) (hk : Δ.1[k]? = some (1, n)) (ha : Δ.2.2 k = a) (hin : vp_in i n) (kk : WP Γ mt b (pc + 1) lv (.long (J k i.toNatClampNeg) :: rest) Δ I J Q) : WP Γ mt b pc lv (.int i :: .ref a :: rest) Δ I J Q :=
  fun p e R s m args below meth c H locs cells slots ls mc ms h => by
    subst ha
    exact va_lald h.1.1 h.1.2.1 h.2.2.2.1.1 h.2.2.1.1 k 1 (g_W_at hk) rfl hin hd (kk p e R s m args below meth c H locs cells slots ls mc ms h)
theorem wp_aald {k n a a' : Nat} {i : Int32} (hd : decode mt.2.1 pc = .ok (.aaload, 1)) (hk : Δ.1[k]? = some (4, n)) (ha : Δ.2.2 k = a) (hin : vp_in i n) (ht : Δ.2.1 k i.toNatClampNeg = some a') (kk : WP Γ mt b (pc + 1) lv (.ref a' :: rest) Δ I J Q) : WP Γ mt b pc lv (.int i :: .ref a :: rest) Δ I J Q :=
  fun p e R s m args below meth c H locs cells slots ls mc ms h => by
    subst ha
    have hkk := kk p e R s m args below meth c H locs cells slots ls mc ms h
    have e : va_rf (Δ.2.1 k i.toNatClampNeg) = .ref a' := by rw [ht]; rfl
    rw [← e] at hkk
    exact va_aldq h.1.1 h.1.2.1 h.2.2.2.1.1 h.2.2.1.1 k 4 (g_W_at hk) rfl hin hd hkk
theorem wp_alen {k n a t : Nat} {v : Int32} (hd : decode mt.2.1 pc = .ok (.arraylength, 1)) (hk : Δ.1[k]? = some (t, n)) (ht : t = 0 ∨ t = 1) (ha : Δ.2.2 k = a) (hv : Int32.ofNat n = v) (kk : WP Γ mt b (pc + 1) lv (.int v :: rest) Δ I J Q) : WP Γ mt b pc lv (.ref a :: rest) Δ I J Q :=
  fun p e R s m args below meth c H locs cells slots ls mc ms h => by
    subst ha
    rcases ht with rfl | rfl
    · exact va_alen h.1.1 h.1.2.1 h.2.2.2.1.1 h.2.2.1.1 k 0 (x := (n, .inl (I k))) (g_W_at hk) rfl hv hd (kk p e R s m args below meth c H locs cells slots ls mc ms h)
    · exact va_alen h.1.1 h.1.2.1 h.2.2.2.1.1 h.2.2.1.1 k 1 (x := (n, .inr (.inl (J k)))) (g_W_at hk) rfl hv hd (kk p e R s m args below meth c H locs cells slots ls mc ms h)
theorem wp_iast {k n a : Nat} {i x : Int32} (hd : decode mt.2.1 pc = .ok (.iastore, 1)) (hk : Δ.1[k]? = some (0, n)) (ha : Δ.2.2 k = a) (hin : vp_in i n) (kk : WP Γ mt b (pc + 1) lv rest Δ (upI I k i.toNatClampNeg x) J Q) : WP Γ mt b pc lv (.int x :: .int i :: .ref a :: rest) Δ I J Q :=
  fun p e R s m args below meth c H locs cells slots ls mc ms h => by
    subst ha
    refine va_iast h.1.1 h.1.2.1 h.2.2.2.1.1 h.2.2.1.1 h.2.2.1.2.1 h.2.2.1.2.2.1 k 0 (f := I k) (g_W_at hk) rfl hin hd (fun H1 locs1 hP hD hS => ?_)
    rw [g_W_set (Δ' := Δ) (I' := upI I k i.toNatClampNeg x) (J' := J) hk rfl rfl (by simp [g_kind, upI_k]) (fun a ha t n => g_kind_upI ha)] at hP hD
    exact kk p e R s m args below meth c H1 locs1 cells slots ls mc ms ⟨h.1, h.2.1, ⟨hP, hD, hS, h.2.2.1.2.2.2⟩, h.2.2.2⟩
theorem wp_bast {k n a : Nat} {i x : Int32} (hd : decode mt.2.1 pc = .ok (.bastore, 1)) (hk : Δ.1[k]? = some (2, n)) (ha : Δ.2.2 k = a) (hin : vp_in i n) (kk : WP Γ mt b (pc + 1) lv rest Δ (upI I k i.toNatClampNeg (vp_nar .byte x)) J Q) : WP Γ mt b pc lv (.int x :: .int i :: .ref a :: rest) Δ I J Q :=
  fun p e R s m args below meth c H locs cells slots ls mc ms h => by
    subst ha
    refine va_bast h.1.1 h.1.2.1 h.2.2.2.1.1 h.2.2.1.1 h.2.2.1.2.1 h.2.2.1.2.2.1 k 2 (f := I k) (g_W_at hk) rfl hin hd (fun H1 locs1 hP hD hS => ?_)
    rw [g_W_set (Δ' := Δ) (I' := upI I k i.toNatClampNeg (vp_nar .byte x)) (J' := J) hk rfl rfl (by simp [g_kind, upI_k]) (fun a ha t n => g_kind_upI ha)] at hP hD
    exact kk p e R s m args below meth c H1 locs1 cells slots ls mc ms ⟨h.1, h.2.1, ⟨hP, hD, hS, h.2.2.1.2.2.2⟩, h.2.2.2⟩
theorem wp_zast {k n a : Nat} {i x : Int32} (hd : decode mt.2.1 pc = .ok (.bastore, 1)) (hk : Δ.1[k]? = some (3, n)) (ha : Δ.2.2 k = a) (hin : vp_in i n) (kk : WP Γ mt b (pc + 1) lv rest Δ (upI I k i.toNatClampNeg (vp_nar .boolean x)) J Q) : WP Γ mt b pc lv (.int x :: .int i :: .ref a :: rest) Δ I J Q :=
  fun p e R s m args below meth c H locs cells slots ls mc ms h => by
    subst ha
    refine va_zast h.1.1 h.1.2.1 h.2.2.2.1.1 h.2.2.1.1 h.2.2.1.2.1 h.2.2.1.2.2.1 k 3 (f := I k) (g_W_at hk) rfl hin hd (fun H1 locs1 hP hD hS => ?_)
    rw [g_W_set (Δ' := Δ) (I' := upI I k i.toNatClampNeg (vp_nar .boolean x)) (J' := J) hk rfl rfl (by simp [g_kind, upI_k]) (fun a ha t n => g_kind_upI ha)] at hP hD
    exact kk p e R s m args below meth c H1 locs1 cells slots ls mc ms ⟨h.1, h.2.1, ⟨hP, hD, hS, h.2.2.1.2.2.2⟩, h.2.2.2⟩
theorem wp_last {k n a : Nat} {i : Int32} {x : Int64} (hd : decode mt.2.1 pc = .ok (.lastore, 1)) (hk : Δ.1[k]? = some (1, n)) (ha : Δ.2.2 k = a) (hin : vp_in i n) (kk : WP Γ mt b (pc + 1) lv rest Δ I (upJ J k i.toNatClampNeg x) Q) : WP Γ mt b pc lv (.long x :: .int i :: .ref a :: rest) Δ I J Q :=
  fun p e R s m args below meth c H locs cells slots ls mc ms h => by
    subst ha
    refine va_last h.1.1 h.1.2.1 h.2.2.2.1.1 h.2.2.1.1 h.2.2.1.2.1 h.2.2.1.2.2.1 k 1 (f := J k) (g_W_at hk) rfl hin hd (fun H1 locs1 hP hD hS => ?_)
    rw [g_W_set (Δ' := Δ) (I' := I) (J' := upJ J k i.toNatClampNeg x) hk rfl rfl (by simp [g_kind, upJ_k]) (fun a ha t n => g_kind_upJ ha)] at hP hD
    exact kk p e R s m args below meth c H1 locs1 cells slots ls mc ms ⟨h.1, h.2.1, ⟨hP, hD, hS, h.2.2.1.2.2.2⟩, h.2.2.2⟩
theorem wp_copyi {k0 k1 n0 n1 a0 a1 idx : Nat} {sp dp n : Int32} (hd : decode mt.2.1 pc = .ok (.invokestatic idx, 3)) (hm : Cond.methodLink mt.1.cls idx arraycopyName ∈ lw_good) (hk0 : Δ.1[k0]? = some (0, n0)) (ha0 : Δ.2.2 k0 = a0) (hk1 : Δ.1[k1]? = some (0, n1)) (ha1 : Δ.2.2 k1 = a1)
    (h1 : ¬ sp < 0) (h2 : ¬ dp < 0) (h3 : ¬ n < 0) (h4 : sp.toNatClampNeg + n.toNatClampNeg ≤ n0) (h5 : dp.toNatClampNeg + n.toNatClampNeg ≤ n1) (hfr : 1 ≤ mt.2.2.2.2.1) (hlo : (rest.map fun v => v.category).sum + (nativeFrameWords "java/lang/System" "arraycopy" 5 + 11) ≤ mt.2.2.2.2.2)
    (kk : WP Γ mt b (pc + 3) lv rest Δ (upF I k1 (va_cpy (I k0) (I k1) sp.toNatClampNeg dp.toNatClampNeg n.toNatClampNeg)) J Q) : WP Γ mt b pc lv (.int n :: .int dp :: .ref a1 :: .int sp :: .ref a0 :: rest) Δ I J Q :=
  fun p e R s m args below meth c H locs cells slots ls mc ms h => by
    subst ha0
    subst ha1
    have hW := h.1.2.2.2.2.2.1
    refine va_copyi h.1.1 h.1.2.1 (h.1.2.2.2.1.trans h.2.2.2.2.1.symm) h.1.2.2.2.2.1 (hW _ hm) (hW (.native arraycopyName) (by decide +kernel)) (hW (.static arraycopyName) (by decide +kernel)) (hW (.initialized "java/lang/System") (by decide +kernel)) h.2.2.2.1.1 h.2.2.1.1 h.2.2.1.2.1 h.2.2.1.2.2.1 k0 k1 0 0 (f := I k0) (g := I k1) (ty := .int) (g_W_at hk0) (g_W_at hk1) rfl rfl rfl h1 h2 h3 h4 h5 (fun i _ => rfl) (Nat.le_trans hfr h.2.1.1) (Nat.le_trans hlo h.2.1.2.1) hd (fun H1 locs1 hP hD hS => ?_)
    rw [g_W_set (Δ' := Δ) (I' := upF I k1 (va_cpy (I k0) (I k1) sp.toNatClampNeg dp.toNatClampNeg n.toNatClampNeg)) (J' := J) hk1 rfl rfl (by simp [g_kind, upF_k]) (fun a ha t n => g_kind_upF ha)] at hP hD
    exact kk p e R s m args below meth c H1 locs1 cells slots ls mc ms ⟨h.1, h.2.1, ⟨hP, hD, hS, h.2.2.1.2.2.2⟩, h.2.2.2⟩
theorem wp_ldc {idx : Nat} {v : Int32} (hd : decode mt.2.1 pc = .ok (.ldc idx, 2)) (hw : Cond.constant mt.1.cls idx v ∈ lw_good) (kk : WP Γ mt b (pc + 2) lv (.int v :: rest) Δ I J Q) : WP Γ mt b pc lv rest Δ I J Q :=
  fun p e R s m args below meth c H locs cells slots ls mc ms h => lv_ldc h.1.1 h.1.2.1 h.1.2.2.2.2.1 (h.1.2.2.2.2.2.1 _ hw) hd (kk p e R s m args below meth c H locs cells slots ls mc ms h)
theorem wp_ldcw {idx : Nat} {v : Int32} (hd : decode mt.2.1 pc = .ok (.ldc_w idx, 3)) (hw : Cond.constant mt.1.cls idx v ∈ lw_good) (kk : WP Γ mt b (pc + 3) lv (.int v :: rest) Δ I J Q) : WP Γ mt b pc lv rest Δ I J Q :=
  fun p e R s m args below meth c H locs cells slots ls mc ms h => lv_ldcw h.1.1 h.1.2.1 h.1.2.2.2.2.1 (h.1.2.2.2.2.2.1 _ hw) hd (kk p e R s m args below meth c H locs cells slots ls mc ms h)
theorem wp_ldc2 {idx : Nat} {v : Int64} (hd : decode mt.2.1 pc = .ok (.ldc2_w idx, 3)) (hw : Cond.constantLong mt.1.cls idx v ∈ lw_good) (kk : WP Γ mt b (pc + 3) lv (.long v :: rest) Δ I J Q) : WP Γ mt b pc lv rest Δ I J Q :=
  fun p e R s m args below meth c H locs cells slots ls mc ms h => lv_ldc2 h.1.1 h.1.2.1 h.1.2.2.2.2.1 (h.1.2.2.2.2.2.1 _ hw) hd (kk p e R s m args below meth c H locs cells slots ls mc ms h)
theorem wp_ldcS {idx : Nat} (i : Nat) (hi : i < 5) (hc : mt.1.cls = "ClothPrices$Reader") (hx : (g_sr.getD i (0, "")).1 = idx) (hd : decode mt.2.1 pc = .ok (.ldc idx, 2)) (kk : WP Γ mt b (pc + 2) lv (.ref (Γ.2.2.2.2 (1 + i)) :: rest) Δ I J Q) : WP Γ mt b pc lv rest Δ I J Q :=
  fun p e R s m args below meth c H locs cells slots ls mc ms h => by
    subst hx
    have hZ := h.2.2.2.1.2.2.2.2.2.2.1 i hi
    exact va_ldcS h.1.1 h.1.2.1 (own := "ClothPrices$Reader") (by rw [← hc]; exact h.1.2.2.2.2.1) hZ hd (kk p e R s m args below meth c H locs cells slots ls mc ms h)
theorem wp_places {idx : Nat} (hd : decode mt.2.1 pc = .ok (.getstatic idx, 3)) (hw : Cond.fieldLink mt.1.cls idx "ClothPrices$Trade" "PLACES" "[I" ∈ lw_good) (kk : WP Γ mt b (pc + 3) lv (.ref (Γ.2.2.2.2 0) :: rest) Δ I J Q) : WP Γ mt b pc lv rest Δ I J Q :=
  fun p e R s m args below meth c H locs cells slots ls mc ms h => va_gets h.1.1 h.1.2.1 h.2.2.2.1.2.2.2.1 h.2.2.1.2.2.1 h.1.2.2.2.2.1 (h.1.2.2.2.2.2.1 _ hw) (fun _ hx => hx) hd (kk p e R s m args below meth c H locs cells slots ls mc ms h)
theorem wp_placei {i v : Int32} (hd : decode mt.2.1 pc = .ok (.iaload, 1)) (hin : vp_in i 6) (hv : g_pl i.toNatClampNeg = .int v) (kk : WP Γ mt b (pc + 1) lv (.int v :: rest) Δ I J Q) : WP Γ mt b pc lv (.int i :: .ref (Γ.2.2.2.2 0) :: rest) Δ I J Q :=
  fun p e R s m args below meth c H locs cells slots ls mc ms h => va_ti h.1.1 h.1.2.1 h.2.2.2.1.2.2.2.2.1 h.2.2.1.2.2.1 hin hv hd (kk p e R s m args below meth c H locs cells slots ls mc ms h)
theorem wp_compact {idx : Nat} (hd : decode mt.2.1 pc = .ok (.getstatic idx, 3)) (hw : Cond.fieldLink mt.1.cls idx "java/lang/String" "COMPACT_STRINGS" "Z" ∈ lw_good) (kk : WP Γ mt b (pc + 3) lv (.int 1 :: rest) Δ I J Q) : WP Γ mt b pc lv rest Δ I J Q :=
  fun p e R s m args below meth c H locs cells slots ls mc ms h => va_gets h.1.1 h.1.2.1 h.2.2.2.1.2.2.2.2.2.2.2.1 h.2.2.1.2.2.1 h.1.2.2.2.2.1 (h.1.2.2.2.2.2.1 _ hw) (fun _ hx => hx) hd (kk p e R s m args below meth c H locs cells slots ls mc ms h)
theorem wp_sioobe {idx : Nat} (hd : decode mt.2.1 pc = .ok (.getstatic idx, 3)) (hw : Cond.fieldLink mt.1.cls idx "jdk/internal/util/Preconditions" "SIOOBE_FORMATTER" "Ljava/util/function/BiFunction;" ∈ lw_good) (kk : ∀ r : Option Nat, WP Γ mt b (pc + 3) lv (va_rf r :: rest) Δ I J Q) : WP Γ mt b pc lv rest Δ I J Q :=
  fun p e R s m args below meth c H locs cells slots ls mc ms h => by
    rcases h.2.2.2.1.2.2.2.2.2.2.2.2.1 with hZ | ⟨t, hZ⟩
    · exact va_gets h.1.1 h.1.2.1 hZ h.2.2.1.2.2.1 h.1.2.2.2.2.1 (h.1.2.2.2.2.2.1 _ hw) (fun _ hx => hx) hd (kk none p e R s m args below meth c H locs cells slots ls mc ms h)
    · exact va_gets h.1.1 h.1.2.1 hZ h.2.2.1.2.2.1 h.1.2.2.2.2.1 (h.1.2.2.2.2.2.1 _ hw) (fun _ hx => hx) hd (kk (some t) p e R s m args below meth c H locs cells slots ls mc ms h)
theorem wp_scoder {idx i : Nat} (hi : i < 5) (hd : decode mt.2.1 pc = .ok (.getfield idx, 3)) (hw : Cond.fieldLink mt.1.cls idx "java/lang/String" "coder" "B" ∈ lw_good) (kk : WP Γ mt b (pc + 3) lv (.int 0 :: rest) Δ I J Q) : WP Γ mt b pc lv (.ref (Γ.2.2.2.2 (1 + i)) :: rest) Δ I J Q :=
  fun p e R s m args below meth c H locs cells slots ls mc ms h => vk_getf h.1.1 h.1.2.1 (h.2.2.2.1.2.2.2.2.2.1.1 i hi).2.1 h.2.2.1.2.2.1 h.1.2.2.2.2.1 (h.1.2.2.2.2.2.1 _ hw) (fun _ hx => hx) hd (kk p e R s m args below meth c H locs cells slots ls mc ms h)
theorem wp_svalue {idx i : Nat} (hi : i < 5) (hd : decode mt.2.1 pc = .ok (.getfield idx, 3)) (hw : Cond.fieldLink mt.1.cls idx "java/lang/String" "value" "[B" ∈ lw_good) (kk : WP Γ mt b (pc + 3) lv (.ref (Γ.2.2.2.2 (11 + i)) :: rest) Δ I J Q) : WP Γ mt b pc lv (.ref (Γ.2.2.2.2 (1 + i)) :: rest) Δ I J Q :=
  fun p e R s m args below meth c H locs cells slots ls mc ms h => vk_getf h.1.1 h.1.2.1 (h.2.2.2.1.2.2.2.2.2.1.1 i hi).2.2.1 h.2.2.1.2.2.1 h.1.2.2.2.2.1 (h.1.2.2.2.2.2.1 _ hw) (fun _ hx => hx) hd (kk p e R s m args below meth c H locs cells slots ls mc ms h)
theorem wp_slen {i : Nat} {v : Int32} (hi : i < 5) (hd : decode mt.2.1 pc = .ok (.arraylength, 1)) (hv : Int32.ofNat (g_len.getD i 0) = v) (kk : WP Γ mt b (pc + 1) lv (.int v :: rest) Δ I J Q) : WP Γ mt b pc lv (.ref (Γ.2.2.2.2 (11 + i)) :: rest) Δ I J Q :=
  fun p e R s m args below meth c H locs cells slots ls mc ms h => va_tlen h.1.1 h.1.2.1 (h.2.2.2.1.2.2.2.2.2.1.1 i hi).2.2.2 h.2.2.1.2.2.1 hv hd (kk p e R s m args below meth c H locs cells slots ls mc ms h)
theorem wp_sbyte {i : Nat} {x : Int32} (hi : i < 5) (hd : decode mt.2.1 pc = .ok (.baload, 1)) (hin : vp_in x (g_len.getD i 0)) (kk : WP Γ mt b (pc + 1) lv (.int ((g_byt.getD i []).getD x.toNatClampNeg 0) :: rest) Δ I J Q) : WP Γ mt b pc lv (.int x :: .ref (Γ.2.2.2.2 (11 + i)) :: rest) Δ I J Q :=
  fun p e R s m args below meth c H locs cells slots ls mc ms h => va_tb h.1.1 h.1.2.1 (h.2.2.2.1.2.2.2.2.2.1.1 i hi).2.2.2 h.2.2.1.2.2.1 hin rfl hd (kk p e R s m args below meth c H locs cells slots ls mc ms h)
theorem wp_tableOut {dflt lo hi : Int} {offs : Array Int} {len : Nat} {x : Int32} (tgt : Nat) (hd : decode mt.2.1 pc = .ok (.tableswitch dflt lo hi offs, len)) (hc : x.toInt < lo ∨ hi < x.toInt) (ht : (pc : Int) + dflt = (tgt : Int)) (kk : WP Γ mt b tgt lv rest Δ I J Q) : WP Γ mt b pc lv (.int x :: rest) Δ I J Q :=
  fun p e R s m args below meth c H locs cells slots ls mc ms h => lv_tableOut h.1.1 h.1.2.1 hd hc ht (kk p e R s m args below meth c H locs cells slots ls mc ms h)
theorem wp_tableIn {dflt lo hi : Int} {offs : Array Int} {len : Nat} {x : Int32} {off : Int} (tgt : Nat) (hd : decode mt.2.1 pc = .ok (.tableswitch dflt lo hi offs, len)) (h1 : ¬ x.toInt < lo) (h2 : ¬ hi < x.toInt) (ho : offs[(x.toInt - lo).toNat]? = some off) (ht : (pc : Int) + off = (tgt : Int)) (kk : WP Γ mt b tgt lv rest Δ I J Q) : WP Γ mt b pc lv (.int x :: rest) Δ I J Q :=
  fun p e R s m args below meth c H locs cells slots ls mc ms h => lv_tableIn h.1.1 h.1.2.1 hd h1 h2 ho ht (kk p e R s m args below meth c H locs cells slots ls mc ms h)
theorem wp_lookup {dflt : Int} {ps : Array (Int × Int)} {len : Nat} {x : Int32} {off : Int} (tgt : Nat) (hd : decode mt.2.1 pc = .ok (.lookupswitch dflt ps, len)) (hp : (ps.toList.zip (ps.toList.drop 1)).all (fun (a, next) => a.1 < next.1) = true) (ho : Op.lookupswitch.offset ps.toList dflt x.toInt = off) (ht : (pc : Int) + off = (tgt : Int)) (kk : WP Γ mt b tgt lv rest Δ I J Q) : WP Γ mt b pc lv (.int x :: rest) Δ I J Q :=
  fun p e R s m args below meth c H locs cells slots ls mc ms h => lv_lookup h.1.1 h.1.2.1 hd hp ho ht (kk p e R s m args below meth c H locs cells slots ls mc ms h)
/-! the script -/
theorem wp_scri {i : Int32} (hd : decode mt.2.1 pc = .ok (.iaload, 1)) (hin : vp_in i (Γ.2.2.2.2 21)) (kk : WP Γ mt b (pc + 1) lv (.int (Int32.ofNat (Γ.2.2.2.2 (100 + i.toNatClampNeg))) :: rest) Δ I J Q) : WP Γ mt b pc lv (.int i :: .ref (Γ.2.2.2.2 20) :: rest) Δ I J Q :=
  fun p e R s m args below meth c H locs cells slots ls mc ms h => va_sld h.1.1 h.1.2.1 h.2.2.2.1.2.2.2.2.2.2.2.2.2.1 (Nat.lt_of_lt_of_le h.2.2.2.1.2.2.2.2.2.2.2.2.2.2.1 h.2.2.2.1.2.2.2.2.2.2.2.2.2.2.2) (Nat.not_le.mpr h.2.2.2.1.2.2.2.2.2.2.2.2.2.2.1) h.2.2.1.2.2.1 hin hd (kk p e R s m args below meth c H locs cells slots ls mc ms h)
theorem wp_scrl (hd : decode mt.2.1 pc = .ok (.arraylength, 1)) (kk : WP Γ mt b (pc + 1) lv (.int (Int32.ofNat (Γ.2.2.2.2 21)) :: rest) Δ I J Q) : WP Γ mt b pc lv (.ref (Γ.2.2.2.2 20) :: rest) Δ I J Q :=
  fun p e R s m args below meth c H locs cells slots ls mc ms h => va_slen h.1.1 h.1.2.1 h.2.2.2.1.2.2.2.2.2.2.2.2.2.1 (Nat.lt_of_lt_of_le h.2.2.2.1.2.2.2.2.2.2.2.2.2.2.1 h.2.2.2.1.2.2.2.2.2.2.2.2.2.2.2) (Nat.not_le.mpr h.2.2.2.1.2.2.2.2.2.2.2.2.2.2.1) h.2.2.1.2.2.1 hd (kk p e R s m args below meth c H locs cells slots ls mc ms h)
/-! calls -/
/-- a method's words: its code, its class initialised, its name a plain one, how many arguments -/
def MW (mt : MT) (n : Nat) : Prop := Cond.code mt.1 mt.2.1 mt.2.2.1 mt.2.2.2.1 ∈ lw_good ∧ Cond.initialized mt.1.cls ∈ lw_good ∧ (mt.1.cls ≠ "java/lang/invoke/MethodHandle" ∧ mt.1.cls ≠ "java/lang/invoke/VarHandle") ∧ (parseMethodDescriptor mt.1.desc).map (fun d => d.parameters.length) = some n
def MI (mt : MT) : Prop := Cond.instanceMethod mt.1 ∈ lw_good ∧ Cond.selects mt.1.cls mt.1 mt.1 ∈ lw_good
theorem g_goodw {w : Cond} (h : w ∈ lw_good) : (w.onTables && w.keeps) = true ∨ ∃ ty, w = .arrayClass ty := good_of_word (List.mem_filter.mp h).2
theorem g_GI {l2 : List Cond} (h : ∀ w ∈ l2, w ∈ lw_good) : GoodIn lw_good (l2 ++ lw_good) := fun w hw => by
  have : w ∈ lw_good := by
    rcases List.mem_append.mp hw with q | q
    · exact h w q
    · exact q
  exact ⟨this, g_goodw this⟩
theorem g_call {p : Program} {e : Env} {R : Room} {s : State} {m : MethodId} {args : Array Value} {below : List Frame} {meth : Method} {c : Code} {H : Heap} {locs : List Loc} {cells slots mc ms : Nat} {ls : Array Slot} {st0 : List Value} {a : Array Value} {Q' : QT} {Qs : State → Prop}
    (hr : va_Run p Γ.1 e R s m args below meth c H locs cells slots mc ms (F0 m pc ls st0) rest (g_QW Γ Q' a) (g_A Γ)) (hS : va_S (g_A Γ) s.heap H locs)
    (kk : ∀ (r : Option Value) (Δ' : DT) (I' : IT) (J' : JT) (H1 : Heap) (locs1 : List Loc), Q' r Δ' I' J' → va_P Γ.2.1 vwCl (g_W Γ Δ' I' J') H1 → va_D (g_A Γ) (g_W Γ Δ' I' J') → va_S (g_A Γ) s.heap H1 locs1 → W p Γ.1 e R s m args below meth c H1 locs1 (cells + mc) (slots + ms) Qs (F0 m (pc + 3) ls (r.toList ++ rest))) : W p Γ.1 e R s m args below meth c H locs cells slots Qs (F0 m pc ls st0) := by
  intro T hT X
  obtain ⟨v, st₀, t, T', L, h0, X', hL, e1, e2, ⟨⟨r, Δ', I', J', hv, hq, hP, hD⟩, hz, hk⟩, st⟩ := hr T hT X
  cases hv
  rw [h0] at hz hk
  obtain ⟨t2, a1, b1⟩ := kk _ Δ' I' J' T'.heap (locs ++ L) hq (by rw [e1]; exact hP) hD
    ⟨Nat.le_trans hS.1 (by rw [e1]; exact hz), fun q h1 h2 => by rw [e1, hk q (Nat.lt_of_lt_of_le h1 hS.1) h2]; exact hS.2.1 q h1 h2, fun q hq => by
      rcases List.mem_append.mp hq with h | h
      · exact hS.2.2 q h
      · exact hL q h⟩ T' rfl X'
  exact ⟨t2, st t2 a1, b1⟩
theorem g_pre {s : State} {H : Heap} {locs : List Loc} {vs : List Value} (hP : va_P Γ.2.1 vwCl (g_W Γ Δ I J) H) (hD : va_D (g_A Γ) (g_W Γ Δ I J)) (hS : va_S (g_A Γ) s.heap H locs) (hN : Γ.2.2.1 ≤ s.heap.size) (hA : g_Amb Γ s) : PreS s H (g_Pc Γ vs Δ I J) vs :=
  ⟨g_blind, fun U hU hW => ⟨rfl, by rw [hU]; exact hP, hD, by rw [hU]; exact Nat.le_trans hN hS.1, hA.go hS hU hW⟩⟩
theorem wp_callv {mt' : MT} {b' : Nat × Nat} {idx n : Nat} {As : List Value} {a k ci nn : Nat} {Q' : QT} (hc : CALL Γ mt' b' (.ref a :: As) Δ I J Q') (hd : decode mt.2.1 pc = .ok (.invokevirtual idx, 3)) (hl : Cond.methodLink mt.1.cls idx mt'.1 ∈ lw_good) (hm : MW mt' n) (hi : MI mt') (hk : Δ.1[k]? = some (10 + ci, nn)) (ha : Δ.2.2 k = a) (hci : (vwCl[ci]?).map (fun q => q.1) = some mt'.1.cls)
    (hst : st = As.reverse ++ .ref a :: rest) (hcat : (rest.map fun v => v.category).sum ≤ 8) (hn : As.length = n) (hfr : mt'.2.2.2.2.1 + 1 ≤ mt.2.2.2.2.1) (hlo : 8 + (mt'.2.2.1 + 11) + mt'.2.2.2.2.2 ≤ mt.2.2.2.2.2) (hb : b'.1 ≤ b.1 ∧ b'.2 ≤ b.2)
    (kk : ∀ r Δ' I' J', Q' r Δ' I' J' → WP Γ mt (b.1 - b'.1, b.2 - b'.2) (pc + 3) lv (r.toList ++ rest) Δ' I' J' Q) : WP Γ mt b pc lv st Δ I J Q :=
  fun p e R s m args below meth c H locs cells slots ls mc ms h => by
    subst ha
    have hG : GoodIn lw_good (wsV mt.1.cls idx mt'.1.cls mt'.1 (g_ws mt')) := by
      intro w hw
      have : w ∈ lw_good := by
        simp only [wsV, g_ws, List.mem_append, List.mem_cons, List.not_mem_nil, or_false] at hw
        rcases hw with (e | e | e | e) | e | e
        · rw [e]; exact hl
        · rw [e]; exact hi.1
        · rw [e]; exact hi.2
        · rw [e]; exact hm.2.1
        · rw [e]; exact hm.1
        · exact e
      exact ⟨this, g_goodw this⟩
    obtain ⟨q, hq, hq1⟩ := Option.map_eq_some_iff.mp hci
    have hrecv := va_recv h.2.2.2.1.1 h.2.2.1.1 (ci := ci) (q := q) hq ((g_W_at hk).trans (by rw [g_kind_obj]))
    rw [hq1] at hrecv
    refine g_call (va_runV (As := As) (rest := rest) (C := mt'.1.cls) ⟨h.1.1, h.1.2.1, h.1.2.2.2.1, h.1.2.2.2.2.1, h.1.2.2.2.2.2.1⟩ hc (cwV n h.1.2.2.2.2.2.1 hG rfl rfl rfl ⟨rfl, hm.2.2.1.1, hm.2.2.1.2, hm.2.2.2⟩ ⟨Nat.le_trans hfr h.2.1.1, Nat.le_trans hlo h.2.1.2.1⟩) ⟨g_blind, hrecv, (g_pre h.2.2.1.1 h.2.2.1.2.1 h.2.2.1.2.2.1 h.2.2.1.2.2.2 h.2.2.2.1).2⟩ rfl hn h.2.2.2.2.1 hst (lv_room hcat) hd ⟨by have := h.2.1; omega, by have := h.2.1; omega⟩) h.2.2.1.2.2.1 (fun r Δ' I' J' H1 locs1 hQ hP hD hS => ?_)
    exact kk r Δ' I' J' hQ p e R s m args below meth c H1 locs1 _ _ ls mc ms ⟨h.1, ⟨h.2.1.1, h.2.1.2.1, by have := h.2.1; dsimp only; omega, by have := h.2.1; dsimp only; omega, by have := h.2.1; dsimp only; omega, by have := h.2.1; dsimp only; omega⟩, ⟨hP, hD, hS, h.2.2.1.2.2.2⟩, h.2.2.2⟩
theorem wp_calls {mt' : MT} {b' : Nat × Nat} {idx n : Nat} {As : List Value} {Q' : QT} (hc : CALL Γ mt' b' As Δ I J Q') (hd : decode mt.2.1 pc = .ok (.invokestatic idx, 3)) (hl : Cond.methodLink mt.1.cls idx mt'.1 ∈ lw_good) (hm : MW mt' n) (hi : Cond.static mt'.1 ∈ lw_good)
    (hst : st = As.reverse ++ rest) (hcat : (rest.map fun v => v.category).sum ≤ 8) (hn : As.length = n) (hfr : mt'.2.2.2.2.1 + 1 ≤ mt.2.2.2.2.1) (hlo : 8 + (mt'.2.2.1 + 11) + mt'.2.2.2.2.2 ≤ mt.2.2.2.2.2) (hb : b'.1 ≤ b.1 ∧ b'.2 ≤ b.2)
    (kk : ∀ r Δ' I' J', Q' r Δ' I' J' → WP Γ mt (b.1 - b'.1, b.2 - b'.2) (pc + 3) lv (r.toList ++ rest) Δ' I' J' Q) : WP Γ mt b pc lv st Δ I J Q :=
  fun p e R s m args below meth c H locs cells slots ls mc ms h => by
    have hG : GoodIn lw_good (va_wsS mt.1.cls idx mt'.1 (g_ws mt')) := by
      intro w hw
      have : w ∈ lw_good := by
        simp only [va_wsS, g_ws, List.mem_append, List.mem_cons, List.not_mem_nil, or_false] at hw
        rcases hw with (e | e | e) | e | e
        · rw [e]; exact hl
        · rw [e]; exact hi
        · rw [e]; exact hm.2.1
        · rw [e]; exact hm.1
        · exact e
      exact ⟨this, g_goodw this⟩
    refine g_call (va_runS (As := As) (rest := rest) ⟨h.1.1, h.1.2.1, h.1.2.2.2.1, h.1.2.2.2.2.1, h.1.2.2.2.2.2.1⟩ hc (va_cwS n h.1.2.2.2.2.2.1 hG rfl rfl rfl ⟨hm.2.2.1.1, hm.2.2.1.2, hm.2.2.2⟩ ⟨Nat.le_trans hfr h.2.1.1, Nat.le_trans hlo h.2.1.2.1⟩) (g_pre h.2.2.1.1 h.2.2.1.2.1 h.2.2.1.2.2.1 h.2.2.1.2.2.2 h.2.2.2.1) rfl hn h.2.2.2.2.1 hst (lv_room hcat) hd ⟨by have := h.2.1; omega, by have := h.2.1; omega⟩) h.2.2.1.2.2.1 (fun r Δ' I' J' H1 locs1 hQ hP hD hS => ?_)
    exact kk r Δ' I' J' hQ p e R s m args below meth c H1 locs1 _ _ ls mc ms ⟨h.1, ⟨h.2.1.1, h.2.1.2.1, by have := h.2.1; dsimp only; omega, by have := h.2.1; dsimp only; omega, by have := h.2.1; dsimp only; omega, by have := h.2.1; dsimp only; omega⟩, ⟨hP, hD, hS, h.2.2.1.2.2.2⟩, h.2.2.2⟩
theorem wp_callsN {mt' : MT} {b' : Nat × Nat} {idx n : Nat} {host : String} {As : List Value} {Q' : QT} (hc : CALL Γ mt' b' As Δ I J Q') (hd : decode mt.2.1 pc = .ok (.invokestatic idx, 3)) (hl : (mt.1.cls, idx, mt'.1, host) ∈ g_nest) (hm : MW mt' n) (hi : Cond.static mt'.1 ∈ lw_good)
    (hst : st = As.reverse ++ rest) (hcat : (rest.map fun v => v.category).sum ≤ 8) (hn : As.length = n) (hfr : mt'.2.2.2.2.1 + 1 ≤ mt.2.2.2.2.1) (hlo : 8 + (mt'.2.2.1 + 11) + mt'.2.2.2.2.2 ≤ mt.2.2.2.2.2) (hb : b'.1 ≤ b.1 ∧ b'.2 ≤ b.2)
    (kk : ∀ r Δ' I' J', Q' r Δ' I' J' → WP Γ mt (b.1 - b'.1, b.2 - b'.2) (pc + 3) lv (r.toList ++ rest) Δ' I' J' Q) : WP Γ mt b pc lv st Δ I J Q :=
  fun p e R s m args below meth c H locs cells slots ls mc ms h => by
    have hG : GoodIn lw_good (g_ws mt') := by
      intro w hw
      have : w ∈ lw_good := by
        simp only [g_ws, List.mem_cons] at hw
        rcases hw with e | e
        · rw [e]; exact hm.1
        · exact e
      exact ⟨this, g_goodw this⟩
    have hW := h.1.2.2.2.2.2.1
    refine g_call (va_runSN (As := As) (rest := rest) ⟨h.1.1, h.1.2.1, h.1.2.2.2.1, h.1.2.2.2.2.1, hW⟩ hc ⟨va_cnB n hW hG rfl rfl rfl (h.2.2.2.1.2.1 _ hl) (hW _ hm.2.1) ⟨hm.2.2.1.1, hm.2.2.1.2, hm.2.2.2⟩ ⟨Nat.le_trans hfr h.2.1.1, Nat.le_trans hlo h.2.1.2.1⟩, hW _ hi, trivial⟩ (g_pre h.2.2.1.1 h.2.2.1.2.1 h.2.2.1.2.2.1 h.2.2.1.2.2.2 h.2.2.2.1) rfl hn h.2.2.2.2.1 hst (lv_room hcat) hd ⟨by have := h.2.1; omega, by have := h.2.1; omega⟩) h.2.2.1.2.2.1 (fun r Δ' I' J' H1 locs1 hQ hP hD hS => ?_)
    exact kk r Δ' I' J' hQ p e R s m args below meth c H1 locs1 _ _ ls mc ms ⟨h.1, ⟨h.2.1.1, h.2.1.2.1, by have := h.2.1; dsimp only; omega, by have := h.2.1; dsimp only; omega, by have := h.2.1; dsimp only; omega, by have := h.2.1; dsimp only; omega⟩, ⟨hP, hD, hS, h.2.2.1.2.2.2⟩, h.2.2.2⟩
end RULES2
