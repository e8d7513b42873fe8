/-! rows of WP that make cells, and calls of constructors -/
theorem g_W_push {Γ : GT} {Δ : DT} {I : IT} {J : JT} {N q t n : Nat} (hN : Δ.1.length = N) : g_W Γ (Δ.1 ++ [(t, n)], upF Δ.2.1 N (fun _ => none), upF Δ.2.2 N q) (upF I N (fun _ => 0)) (upF J N (fun _ => 0)) = g_W Γ Δ I J ++ [(q, g_kind Γ (Δ.1 ++ [(t, n)], upF Δ.2.1 N (fun _ => none), upF Δ.2.2 N q) (upF I N (fun _ => 0)) (upF J N (fun _ => 0)) N t n)] := by
  subst hN
  unfold g_W
  rw [List.length_append, List.length_singleton, List.range_succ, List.map_append]
  congr 1
  · refine List.map_congr_left (fun k hk => ?_)
    have hk : k < Δ.1.length := List.mem_range.mp hk
    have hne : k ≠ Δ.1.length := Nat.ne_of_lt hk
    simp only [upF, if_neg hne, g_cell, List.getElem?_append_left hk]
    cases hq : Δ.1[k]? with
    | none => rfl
    | some z => simp only [g_kind, g_fv, upF, if_neg hne]
  · simp [upF, g_cell]
theorem g_def {ci : Nat} (h : ci < 11) : ∀ j, j < (g_cls ci).2.2 → defaultValue (g_ty ci j) = (if g_fk ci j = 0 then .int 0 else if g_fk ci j = 1 then .long 0 else .null) := by
  match ci, h with
  | 0, _ => exact (by decide +kernel : ∀ j, j < 6 → defaultValue (tyX0 j) = (if g_fk 0 j = 0 then .int 0 else if g_fk 0 j = 1 then .long 0 else .null))
  | 1, _ => exact (by decide +kernel : ∀ j, j < 9 → defaultValue (tyX1 j) = (if g_fk 1 j = 0 then .int 0 else if g_fk 1 j = 1 then .long 0 else .null))
  | 2, _ => exact (by decide +kernel : ∀ j, j < 8 → defaultValue (tyX2 j) = (if g_fk 2 j = 0 then .int 0 else if g_fk 2 j = 1 then .long 0 else .null))
  | 3, _ => exact (by decide +kernel : ∀ j, j < 2 → defaultValue (tyX3 j) = (if g_fk 3 j = 0 then .int 0 else if g_fk 3 j = 1 then .long 0 else .null))
  | 4, _ => exact (by decide +kernel : ∀ j, j < 7 → defaultValue (tyX4 j) = (if g_fk 4 j = 0 then .int 0 else if g_fk 4 j = 1 then .long 0 else .null))
  | 5, _ => exact (by decide +kernel : ∀ j, j < 3 → defaultValue (tyX5 j) = (if g_fk 5 j = 0 then .int 0 else if g_fk 5 j = 1 then .long 0 else .null))
  | 6, _ => exact (by decide +kernel : ∀ j, j < 2 → defaultValue (tyX6 j) = (if g_fk 6 j = 0 then .int 0 else if g_fk 6 j = 1 then .long 0 else .null))
  | 7, _ => exact (by decide +kernel : ∀ j, j < 10 → defaultValue (tyX7 j) = (if g_fk 7 j = 0 then .int 0 else if g_fk 7 j = 1 then .long 0 else .null))
  | 8, _ => exact (by decide +kernel : ∀ j, j < 5 → defaultValue (tyX8 j) = (if g_fk 8 j = 0 then .int 0 else if g_fk 8 j = 1 then .long 0 else .null))
  | 9, _ => exact (by decide +kernel : ∀ j, j < 12 → defaultValue (tyX9 j) = (if g_fk 9 j = 0 then .int 0 else if g_fk 9 j = 1 then .long 0 else .null))
  | 10, _ => exact (by decide +kernel : ∀ j, j < 54 → defaultValue (tyX10 j) = (if g_fk 10 j = 0 then .int 0 else if g_fk 10 j = 1 then .long 0 else .null))
  | n + 11, h => exact absurd h (by omega)
section RULES3
variable {Γ : GT} {mt : MT} {b : Nat × Nat} {pc : Nat} {lv : List (Nat × Value)} {st rest : List Value} {Δ : DT} {I : IT} {J : JT} {Q : QT}
theorem wp_new {idx ci n N : Nat} (hd : decode mt.2.1 pc = .ok (.new idx, 3)) (hc : ci < 11) (hn : (g_cls ci).2.2 = n) (hl : Cond.classLink mt.1.cls idx (g_cls ci).1 ∈ lw_good) (hi : Cond.instantiable (g_cls ci).1 (g_cls ci).2.2 ∈ lw_good) (hini : Cond.initialized (g_cls ci).1 ∈ lw_good) (hN : Δ.1.length = N) (hb : 1 ≤ b.1 ∧ n ≤ b.2) (kk : ∀ q : Nat, WP Γ mt (b.1 - 1, b.2 - n) (pc + 3) lv (.ref q :: rest) (Δ.1 ++ [(10 + ci, n)], upF Δ.2.1 N (fun _ => none), upF Δ.2.2 N q) (upF I N (fun _ => 0)) (upF J N (fun _ => 0)) Q) : WP Γ mt b pc lv rest Δ I J Q :=
  fun p e_ R s m args below meth c H locs cells slots ls mc ms h => by
    have hW := h.1.2.2.2.2.2.1
    subst hn
    refine va_new (ci := ci) (N := (g_cls ci).2.2) (fs := (List.range (g_cls ci).2.2).map (fun j => if g_fk ci j = 0 then .int 0 else if g_fk ci j = 1 then .long 0 else .null)) h.1.1 h.1.2.1 hW (g_in hc) (g_ty ci) (g_tyok hc) h.1.2.2.2.2.1 (hW _ hl) (hW _ hi) (hW _ hini) h.2.2.2.1.1 h.2.2.1.1 h.2.2.1.2.1 h.2.2.1.2.2.1 (fun q hq => Nat.le_trans h.2.2.1.2.2.2 hq) (g_cls_at hc) (fun j hj => by rw [g_def hc j hj]; simp [vp_V, hj]) (by have := h.2.1; omega) (by have := h.2.1; omega) hd (fun q H1 hP hD hS => ?_)
    have e : g_W Γ Δ I J ++ [(q, .inr (ci, (List.range (g_cls ci).2.2).map (fun j => if g_fk ci j = 0 then .int 0 else if g_fk ci j = 1 then .long 0 else .null)))] = g_W Γ (Δ.1 ++ [(10 + ci, (g_cls ci).2.2)], upF Δ.2.1 N (fun _ => none), upF Δ.2.2 N q) (upF I N (fun _ => 0)) (upF J N (fun _ => 0)) := by
      rw [g_W_push hN, g_kind_obj]
      simp only [g_fv, upF, if_true, va_rf]
    rw [e] at hP hD
    exact kk q p e_ R s m args below meth c H1 locs _ _ ls mc ms ⟨h.1, ⟨h.2.1.1, h.2.1.2.1, by have := h.2.1; dsimp only; omega, by have := h.2.1; dsimp only; omega, by have := h.2.1; dsimp only; omega, by have := h.2.1; dsimp only; omega⟩, ⟨hP, hD, hS, h.2.2.1.2.2.2⟩, h.2.2.2⟩
theorem wp_newaI {n : Int32} {n' N : Nat} (hd : decode mt.2.1 pc = .ok (.newarray .int, 2)) (hn : ¬ n < 0) (hn' : n.toNatClampNeg = n') (hbig : n' ≤ 60000) (hN : Δ.1.length = N) (hb : 1 ≤ b.1 ∧ n' ≤ b.2) (kk : ∀ q : Nat, WP Γ mt (b.1 - 1, b.2 - n') (pc + 2) lv (.ref q :: rest) (Δ.1 ++ [(0, n')], upF Δ.2.1 N (fun _ => none), upF Δ.2.2 N q) (upF I N (fun _ => 0)) (upF J N (fun _ => 0)) Q) : WP Γ mt b pc lv (.int n :: rest) Δ I J Q :=
  fun p e_ R s m args below meth c H locs cells slots ls mc ms h => by
    have hW := h.1.2.2.2.2.2.1
    have hK := h.2.2.2.1.1
    refine va_newa (atype := .int) (a0 := (n', .inl (fun _ => 0))) h.1.1 h.1.2.1 (show (Cond.arrayClass (newarray.typeOf .int)).before args s = true from hW (.arrayClass .int) (lw_gm (by decide +kernel) rfl)) (ty := .int) rfl hK h.2.2.1.1 h.2.2.1.2.1 h.2.2.1.2.2.1 (fun q hq => Nat.le_trans h.2.2.1.2.2.2 hq) (fun cA => rfl) hn hn' (by simp only [componentBytes]; omega) (by have := h.2.1; omega) (by have := h.2.1; omega) hd (fun q cA H1 hK1 hP hD hS => ?_)
    have ec : cA = Γ.2.2.2.1 0 := by
      have h1 := (hK1.2 5 (cA, .int) rfl).2
      have h2 := (hK.2 0 (Γ.2.2.2.1 0, .int) rfl).2
      simp only [va_RA] at h1 h2
      rw [h2] at h1
      exact (Option.some.inj h1).symm
    subst ec
    have e : g_W Γ Δ I J ++ [(q, .inl (Γ.2.2.2.1 0, n', .inl (fun _ => 0)))] = g_W Γ (Δ.1 ++ [(0, n')], upF Δ.2.1 N (fun _ => none), upF Δ.2.2 N q) (upF I N (fun _ => 0)) (upF J N (fun _ => 0)) := by
      rw [g_W_push hN]
      simp [g_kind, upF]
    rw [e] at hP hD
    exact kk q p e_ R s m args below meth c H1 locs _ _ ls mc ms ⟨h.1, ⟨h.2.1.1, h.2.1.2.1, by have := h.2.1; dsimp only; omega, by have := h.2.1; dsimp only; omega, by have := h.2.1; dsimp only; omega, by have := h.2.1; dsimp only; omega⟩, ⟨hP, hD, hS, h.2.2.1.2.2.2⟩, h.2.2.2⟩
theorem wp_newaJ {n : Int32} {n' N : Nat} (hd : decode mt.2.1 pc = .ok (.newarray .long, 2)) (hn : ¬ n < 0) (hn' : n.toNatClampNeg = n') (hbig : n' ≤ 60000) (hN : Δ.1.length = N) (hb : 1 ≤ b.1 ∧ n' ≤ b.2) (kk : ∀ q : Nat, WP Γ mt (b.1 - 1, b.2 - n') (pc + 2) lv (.ref q :: rest) (Δ.1 ++ [(1, n')], upF Δ.2.1 N (fun _ => none), upF Δ.2.2 N q) (upF I N (fun _ => 0)) (upF J N (fun _ => 0)) Q) : WP Γ mt b pc lv (.int n :: rest) Δ I J Q :=
  fun p e_ R s m args below meth c H locs cells slots ls mc ms h => by
    have hW := h.1.2.2.2.2.2.1
    have hK := h.2.2.2.1.1
    refine va_newa (atype := .long) (a0 := (n', .inr (.inl (fun _ => 0)))) h.1.1 h.1.2.1 (show (Cond.arrayClass (newarray.typeOf .long)).before args s = true from hW (.arrayClass .long) (lw_gm (by decide +kernel) rfl)) (ty := .long) rfl hK h.2.2.1.1 h.2.2.1.2.1 h.2.2.1.2.2.1 (fun q hq => Nat.le_trans h.2.2.1.2.2.2 hq) (fun cA => rfl) hn hn' (by simp only [componentBytes]; omega) (by have := h.2.1; omega) (by have := h.2.1; omega) hd (fun q cA H1 hK1 hP hD hS => ?_)
    have ec : cA = Γ.2.2.2.1 1 := by
      have h1 := (hK1.2 5 (cA, .long) rfl).2
      have h2 := (hK.2 1 (Γ.2.2.2.1 1, .long) rfl).2
      simp only [va_RA] at h1 h2
      rw [h2] at h1
      exact (Option.some.inj h1).symm
    subst ec
    have e : g_W Γ Δ I J ++ [(q, .inl (Γ.2.2.2.1 1, n', .inr (.inl (fun _ => 0))))] = g_W Γ (Δ.1 ++ [(1, n')], upF Δ.2.1 N (fun _ => none), upF Δ.2.2 N q) (upF I N (fun _ => 0)) (upF J N (fun _ => 0)) := by
      rw [g_W_push hN]
      simp [g_kind, upF]
    rw [e] at hP hD
    exact kk q p e_ R s m args below meth c H1 locs _ _ ls mc ms ⟨h.1, ⟨h.2.1.1, h.2.1.2.1, by have := h.2.1; dsimp only; omega, by have := h.2.1; dsimp only; omega, by have := h.2.1; dsimp only; omega, by have := h.2.1; dsimp only; omega⟩, ⟨hP, hD, hS, h.2.2.1.2.2.2⟩, h.2.2.2⟩
theorem wp_newaB {n : Int32} {n' N : Nat} (hd : decode mt.2.1 pc = .ok (.newarray .byte, 2)) (hn : ¬ n < 0) (hn' : n.toNatClampNeg = n') (hbig : n' ≤ 60000) (hN : Δ.1.length = N) (hb : 1 ≤ b.1 ∧ n' ≤ b.2) (kk : ∀ q : Nat, WP Γ mt (b.1 - 1, b.2 - n') (pc + 2) lv (.ref q :: rest) (Δ.1 ++ [(2, n')], upF Δ.2.1 N (fun _ => none), upF Δ.2.2 N q) (upF I N (fun _ => 0)) (upF J N (fun _ => 0)) Q) : WP Γ mt b pc lv (.int n :: rest) Δ I J Q :=
  fun p e_ R s m args below meth c H locs cells slots ls mc ms h => by
    have hW := h.1.2.2.2.2.2.1
    have hK := h.2.2.2.1.1
    refine va_newa (atype := .byte) (a0 := (n', .inl (fun _ => 0))) h.1.1 h.1.2.1 (show (Cond.arrayClass (newarray.typeOf .byte)).before args s = true from hW (.arrayClass .byte) (lw_gm (by decide +kernel) rfl)) (ty := .byte) rfl hK h.2.2.1.1 h.2.2.1.2.1 h.2.2.1.2.2.1 (fun q hq => Nat.le_trans h.2.2.1.2.2.2 hq) (fun cA => rfl) hn hn' (by simp only [componentBytes]; omega) (by have := h.2.1; omega) (by have := h.2.1; omega) hd (fun q cA H1 hK1 hP hD hS => ?_)
    have ec : cA = Γ.2.2.2.1 2 := by
      have h1 := (hK1.2 5 (cA, .byte) rfl).2
      have h2 := (hK.2 2 (Γ.2.2.2.1 2, .byte) rfl).2
      simp only [va_RA] at h1 h2
      rw [h2] at h1
      exact (Option.some.inj h1).symm
    subst ec
    have e : g_W Γ Δ I J ++ [(q, .inl (Γ.2.2.2.1 2, n', .inl (fun _ => 0)))] = g_W Γ (Δ.1 ++ [(2, n')], upF Δ.2.1 N (fun _ => none), upF Δ.2.2 N q) (upF I N (fun _ => 0)) (upF J N (fun _ => 0)) := by
      rw [g_W_push hN]
      simp [g_kind, upF]
    rw [e] at hP hD
    exact kk q p e_ R s m args below meth c H1 locs _ _ ls mc ms ⟨h.1, ⟨h.2.1.1, h.2.1.2.1, by have := h.2.1; dsimp only; omega, by have := h.2.1; dsimp only; omega, by have := h.2.1; dsimp only; omega, by have := h.2.1; dsimp only; omega⟩, ⟨hP, hD, hS, h.2.2.1.2.2.2⟩, h.2.2.2⟩
theorem wp_newaZ {n : Int32} {n' N : Nat} (hd : decode mt.2.1 pc = .ok (.newarray .boolean, 2)) (hn : ¬ n < 0) (hn' : n.toNatClampNeg = n') (hbig : n' ≤ 60000) (hN : Δ.1.length = N) (hb : 1 ≤ b.1 ∧ n' ≤ b.2) (kk : ∀ q : Nat, WP Γ mt (b.1 - 1, b.2 - n') (pc + 2) lv (.ref q :: rest) (Δ.1 ++ [(3, n')], upF Δ.2.1 N (fun _ => none), upF Δ.2.2 N q) (upF I N (fun _ => 0)) (upF J N (fun _ => 0)) Q) : WP Γ mt b pc lv (.int n :: rest) Δ I J Q :=
  fun p e_ R s m args below meth c H locs cells slots ls mc ms h => by
    have hW := h.1.2.2.2.2.2.1
    have hK := h.2.2.2.1.1
    refine va_newa (atype := .boolean) (a0 := (n', .inl (fun _ => 0))) h.1.1 h.1.2.1 (show (Cond.arrayClass (newarray.typeOf .boolean)).before args s = true from hW (.arrayClass .boolean) (lw_gm (by decide +kernel) rfl)) (ty := .boolean) rfl hK h.2.2.1.1 h.2.2.1.2.1 h.2.2.1.2.2.1 (fun q hq => Nat.le_trans h.2.2.1.2.2.2 hq) (fun cA => rfl) hn hn' (by simp only [componentBytes]; omega) (by have := h.2.1; omega) (by have := h.2.1; omega) hd (fun q cA H1 hK1 hP hD hS => ?_)
    have ec : cA = Γ.2.2.2.1 3 := by
      have h1 := (hK1.2 5 (cA, .boolean) rfl).2
      have h2 := (hK.2 3 (Γ.2.2.2.1 3, .boolean) rfl).2
      simp only [va_RA] at h1 h2
      rw [h2] at h1
      exact (Option.some.inj h1).symm
    subst ec
    have e : g_W Γ Δ I J ++ [(q, .inl (Γ.2.2.2.1 3, n', .inl (fun _ => 0)))] = g_W Γ (Δ.1 ++ [(3, n')], upF Δ.2.1 N (fun _ => none), upF Δ.2.2 N q) (upF I N (fun _ => 0)) (upF J N (fun _ => 0)) := by
      rw [g_W_push hN]
      simp [g_kind, upF]
    rw [e] at hP hD
    exact kk q p e_ R s m args below meth c H1 locs _ _ ls mc ms ⟨h.1, ⟨h.2.1.1, h.2.1.2.1, by have := h.2.1; dsimp only; omega, by have := h.2.1; dsimp only; omega, by have := h.2.1; dsimp only; omega, by have := h.2.1; dsimp only; omega⟩, ⟨hP, hD, hS, h.2.2.1.2.2.2⟩, h.2.2.2⟩
theorem wp_anew {n : Int32} {n' N idx : Nat} (hd : decode mt.2.1 pc = .ok (.anewarray idx, 3)) (hl : Cond.classLink mt.1.cls idx "ClothPrices$Course" ∈ lw_good) (hn : ¬ n < 0) (hn' : n.toNatClampNeg = n') (hbig : n' ≤ 60000) (hN : Δ.1.length = N) (hb : 1 ≤ b.1 ∧ n' ≤ b.2) (kk : ∀ q : Nat, WP Γ mt (b.1 - 1, b.2 - n') (pc + 3) lv (.ref q :: rest) (Δ.1 ++ [(4, n')], upF Δ.2.1 N (fun _ => none), upF Δ.2.2 N q) (upF I N (fun _ => 0)) (upF J N (fun _ => 0)) Q) : WP Γ mt b pc lv (.int n :: rest) Δ I J Q :=
  fun p e_ R s m args below meth c H locs cells slots ls mc ms h => by
    have hW := h.1.2.2.2.2.2.1
    have hK := h.2.2.2.1.1
    refine va_newq h.1.1 h.1.2.1 h.1.2.2.2.2.1 (hW _ hl) h.2.2.2.1.2.2.1 hK h.2.2.1.1 h.2.2.1.2.1 h.2.2.1.2.2.1 (fun q hq => Nat.le_trans h.2.2.1.2.2.2 hq) hn hn' (by omega) (by have := h.2.1; omega) (by have := h.2.1; omega) hd (fun q cA H1 hK1 hP hD hS => ?_)
    have ec : cA = Γ.2.2.2.1 4 := by
      obtain ⟨kA, comp, -, -, -, h1⟩ := (hK1.2 5 (cA, .object "ClothPrices$Course") rfl).2
      obtain ⟨kA2, comp2, -, -, -, h2⟩ := (hK.2 4 (Γ.2.2.2.1 4, .object "ClothPrices$Course") rfl).2
      exact Option.some.inj (h1.symm.trans h2)
    subst ec
    have e : g_W Γ Δ I J ++ [(q, .inl (Γ.2.2.2.1 4, n', .inr (.inr (.inr (.inr (fun _ => none))))))] = g_W Γ (Δ.1 ++ [(4, n')], upF Δ.2.1 N (fun _ => none), upF Δ.2.2 N q) (upF I N (fun _ => 0)) (upF J N (fun _ => 0)) := by
      rw [g_W_push hN]
      simp [g_kind, upF]
    rw [e] at hP hD
    exact kk q p e_ R s m args below meth c H1 locs _ _ ls mc ms ⟨h.1, ⟨h.2.1.1, h.2.1.2.1, by have := h.2.1; dsimp only; omega, by have := h.2.1; dsimp only; omega, by have := h.2.1; dsimp only; omega, by have := h.2.1; dsimp only; omega⟩, ⟨hP, hD, hS, h.2.2.1.2.2.2⟩, h.2.2.2⟩
theorem wp_aast {k n a v kv nv : Nat} {i : Int32} (hd : decode mt.2.1 pc = .ok (.aastore, 1)) (hk : Δ.1[k]? = some (4, n)) (ha : Δ.2.2 k = a) (hkv : Δ.1[kv]? = some (10 + 1, nv)) (hv : Δ.2.2 kv = v) (hin : vp_in i n) (kk : WP Γ mt b (pc + 1) lv rest (Δ.1, upR Δ.2.1 k i.toNatClampNeg (some v), Δ.2.2) I J Q) : WP Γ mt b pc lv (.ref v :: .int i :: .ref a :: rest) Δ I J Q :=
  fun p e R s m args below meth c H locs cells slots ls mc ms h => by
    subst ha
    subst hv
    refine va_astq h.1.1 h.1.2.1 h.2.2.2.1.1 h.2.2.1.1 h.2.2.1.2.1 h.2.2.1.2.2.1 k 4 kv 1 (r := (RX1, TX1, 9)) (f := Δ.2.1 k) (g_W_at hk) rfl ((g_W_at hkv).trans (by rw [g_kind_obj])) rfl hin hd (fun H1 locs1 hP hD hS => ?_)
    rw [g_W_set (Δ' := (Δ.1, upR Δ.2.1 k i.toNatClampNeg (some (Δ.2.2 kv)), Δ.2.2)) (I' := I) (J' := J) hk rfl rfl (by simp [g_kind, upR]) (fun a ha t n => g_kind_upR ha)] at hP hD
    exact kk p e R s m args below meth c H1 locs1 cells slots ls mc ms ⟨h.1, h.2.1, ⟨hP, hD, hS, h.2.2.1.2.2.2⟩, h.2.2.2⟩
theorem g_fs_setR {n k ci j v : Nat} (hj : Nat.ble (j + 1) n = true) (hz : g_fk ci j = 2) : ((List.range n).map (fun i => g_fv Δ I J k ci i)).set j (.ref v) = (List.range n).map (fun i => g_fv (Δ.1, upR Δ.2.1 k j (some v), Δ.2.2) I J k ci i) := by
  have hj' : j < n := Nat.le_of_ble_eq_true hj
  refine List.ext_getElem? (fun a => ?_)
  by_cases ha : a = j
  · subst ha
    rw [List.getElem?_set_self (by simpa using hj')]
    simp [hj', g_fv, hz, upR, va_up, va_rf]
  · rw [List.getElem?_set_ne (Ne.symm ha)]
    by_cases hn : a < n
    · simp [hn, g_fv, upR, va_up, ha]
    · simp [show n ≤ a from by omega]
theorem wp_putRF {idx ci j k n a v : Nat} {ty : FieldType} (hd : decode mt.2.1 pc = .ok (.putfield idx, 3)) (hf : FL mt.1.cls idx ci j) (hk : Δ.1[k]? = some (10 + ci, n)) (hj : Nat.ble (j + 1) n = true) (hz : g_fk ci j = 2) (hfin : ((g_cls ci).2.1 j).2.2.2 = true) (hinit : mt.1.name = "<init>") (hcl : (g_cls ci).1 = mt.1.cls) (ha : Δ.2.2 k = a) (hty : g_ty ci j = ty) (hn : narrow ty (.ref v) = .ref v) (hfit : fits ty (.ref v) = true) (kk : WP Γ mt b (pc + 3) lv rest (Δ.1, upR Δ.2.1 k j (some v), Δ.2.2) I J Q) : WP Γ mt b pc lv (.ref v :: .ref a :: rest) Δ I J Q :=
  fun p e R s m args below meth c H locs cells slots ls mc ms h => by
    subst ha
    refine va_putF h.1.1 h.1.2.1 h.1.2.2.2.2.2.1 (g_in hf.lt) (g_ty ci) (g_tyok hf.lt) (g_nm hf.lt) h.1.2.2.2.2.1 h.2.2.2.1.1 h.2.2.1.1 h.2.2.1.2.1 h.2.2.1.2.2.1 k ((g_W_at hk).trans (by rw [g_kind_obj])) (g_cls_at hf.lt) j hf.1 (h.1.2.2.2.2.2.1 _ hf.2.1) (fun x hx => by rw [← hf.2.2]; exact hx) hfin (h.1.2.2.2.2.2.2.2 hinit) (hf.2.2.trans hcl) (ty := ty) (v := .ref v) (by rw [g_tyok hf.lt j hf.1, hty]) hn hfit (by have := Nat.le_of_ble_eq_true hj; simp; omega) hd (fun H1 locs1 hP hD hS => ?_)
    rw [g_fs_setR hj hz, g_W_set (Δ' := (Δ.1, upR Δ.2.1 k j (some v), Δ.2.2)) (I' := I) (J' := J) hk rfl rfl g_kind_obj (fun a ha t n => g_kind_upR ha)] at hP hD
    exact kk p e R s m args below meth c H1 locs1 cells slots ls mc ms ⟨h.1, h.2.1, ⟨hP, hD, hS, h.2.2.1.2.2.2⟩, h.2.2.2⟩
theorem wp_objInit {idx a : Nat} (hd : decode mt.2.1 pc = .ok (.invokespecial idx, 3)) (hl : Cond.methodLink mt.1.cls idx objectInit ∈ lw_good) (hfr : 1 ≤ mt.2.2.2.2.1) (hlo : (rest.map fun v => v.category).sum + 12 ≤ mt.2.2.2.2.2) (kk : WP Γ mt b (pc + 3) lv rest Δ I J Q) : WP Γ mt b pc lv (.ref a :: rest) Δ I J Q :=
  fun p e R s m args below meth c H locs cells slots ls mc ms h => by
    have hW := h.1.2.2.2.2.2.1
    exact W.objInit h.1.1 h.1.2.1 h.1.2.2.2.2.1 (hW _ hl) (hW (.instanceMethod objectInit) (lw_gm (by decide +kernel) rfl)) (hW (.code objectInit ⟨#[0xb1]⟩ 1 none) (lw_gm (by decide +kernel) rfl)) rfl (h.2.2.2.2.1.trans h.1.2.2.2.1.symm) rfl hd (Nat.le_trans hfr h.2.1.1) (by show 2 * 0 + _ + 12 ≤ _; have := h.2.1; omega) (kk p e R s m args below meth c H locs cells slots ls mc ms h)
theorem wp_calli {mt' : MT} {b' : Nat × Nat} {idx n : Nat} {As : List Value} {a : Nat} {Q' : QT} (hc : CALL Γ mt' b' (.ref a :: As) Δ I J Q') (hd : decode mt.2.1 pc = .ok (.invokespecial idx, 3)) (hl : Cond.methodLink mt.1.cls idx mt'.1 ∈ lw_good) (hm : MW mt' n) (hi : Cond.instanceMethod mt'.1 ∈ lw_good) (hname : mt'.1.name = "<init>") (hret : mt'.2.2.2.1 = none)
    (hst : st = As.reverse ++ .ref a :: rest) (hcat : (rest.map fun v => v.category).sum ≤ 8) (hn : As.length = n) (hfr : mt'.2.2.2.2.1 + 1 ≤ mt.2.2.2.2.1) (hlo : 8 + (mt'.2.2.1 + 11) + mt'.2.2.2.2.2 ≤ mt.2.2.2.2.2) (hb : b'.1 ≤ b.1 ∧ b'.2 ≤ b.2)
    (kk : ∀ r Δ' I' J', Q' r Δ' I' J' → WP Γ mt (b.1 - b'.1, b.2 - b'.2) (pc + 3) lv (r.toList ++ rest) Δ' I' J' Q) : WP Γ mt b pc lv st Δ I J Q :=
  fun p e R s m args below meth c H locs cells slots ls mc ms h => by
    have hW := h.1.2.2.2.2.2.1
    have hG : GoodIn lw_good (g_ws mt') := by
      intro w hw
      have : w ∈ lw_good := by
        simp only [g_ws, List.mem_cons] at hw
        rcases hw with e | e
        · rw [e]; exact hm.1
        · exact e
      exact ⟨this, g_goodw this⟩
    obtain ⟨y', by', ml', rt', fr', lo'⟩ := mt'
    dsimp only at hret
    subst hret
    refine g_call (va_runI (As := As) (rest := rest) ⟨h.1.1, h.1.2.1, h.1.2.2.2.1, h.1.2.2.2.2.1, hW⟩ hc (cwI n hW hG rfl rfl rfl (hW _ hm.2.1) (hW _ hl) (hW _ hi) hname ⟨hm.2.2.1.1, hm.2.2.1.2, hm.2.2.2⟩ ⟨Nat.le_trans hfr h.2.1.1, Nat.le_trans hlo h.2.1.2.1⟩) (g_pre h.2.2.1.1 h.2.2.1.2.1 h.2.2.1.2.2.1 h.2.2.1.2.2.2 h.2.2.2.1) rfl hn h.2.2.2.2.1 hst (lv_room hcat) hd ⟨by have := h.2.1; omega, by have := h.2.1; omega⟩) h.2.2.1.2.2.1 (fun r Δ' I' J' H1 locs1 hQ hP hD hS => ?_)
    exact kk r Δ' I' J' hQ p e R s m args below meth c H1 locs1 _ _ ls mc ms ⟨h.1, ⟨h.2.1.1, h.2.1.2.1, by have := h.2.1; dsimp only; omega, by have := h.2.1; dsimp only; omega, by have := h.2.1; dsimp only; omega, by have := h.2.1; dsimp only; omega⟩, ⟨hP, hD, hS, h.2.2.1.2.2.2⟩, h.2.2.2⟩
theorem wp_calliN {mt' : MT} {b' : Nat × Nat} {idx n : Nat} {host : String} {As : List Value} {a : Nat} {Q' : QT} (hc : CALL Γ mt' b' (.ref a :: As) Δ I J Q') (hd : decode mt.2.1 pc = .ok (.invokespecial idx, 3)) (hl : (mt.1.cls, idx, mt'.1, host) ∈ g_nest) (hm : MW mt' n) (hi : Cond.instanceMethod mt'.1 ∈ lw_good) (hname : mt'.1.name = "<init>") (hret : mt'.2.2.2.1 = none)
    (hst : st = As.reverse ++ .ref a :: rest) (hcat : (rest.map fun v => v.category).sum ≤ 8) (hn : As.length = n) (hfr : mt'.2.2.2.2.1 + 1 ≤ mt.2.2.2.2.1) (hlo : 8 + (mt'.2.2.1 + 11) + mt'.2.2.2.2.2 ≤ mt.2.2.2.2.2) (hb : b'.1 ≤ b.1 ∧ b'.2 ≤ b.2)
    (kk : ∀ r Δ' I' J', Q' r Δ' I' J' → WP Γ mt (b.1 - b'.1, b.2 - b'.2) (pc + 3) lv (r.toList ++ rest) Δ' I' J' Q) : WP Γ mt b pc lv st Δ I J Q :=
  fun p e R s m args below meth c H locs cells slots ls mc ms h => by
    have hW := h.1.2.2.2.2.2.1
    have hG : GoodIn lw_good (g_ws mt') := by
      intro w hw
      have : w ∈ lw_good := by
        simp only [g_ws, List.mem_cons] at hw
        rcases hw with e | e
        · rw [e]; exact hm.1
        · exact e
      exact ⟨this, g_goodw this⟩
    obtain ⟨y', by', ml', rt', fr', lo'⟩ := mt'
    dsimp only at hret
    subst hret
    refine g_call (va_runIN (As := As) (rest := rest) ⟨h.1.1, h.1.2.1, h.1.2.2.2.1, h.1.2.2.2.2.1, hW⟩ hc ⟨va_cnB n hW hG rfl rfl rfl (h.2.2.2.1.2.1 _ hl) (hW _ hm.2.1) ⟨hm.2.2.1.1, hm.2.2.1.2, hm.2.2.2⟩ ⟨Nat.le_trans hfr h.2.1.1, Nat.le_trans hlo h.2.1.2.1⟩, hname, hW _ hi⟩ (g_pre h.2.2.1.1 h.2.2.1.2.1 h.2.2.1.2.2.1 h.2.2.1.2.2.2 h.2.2.2.1) rfl hn h.2.2.2.2.1 hst (lv_room hcat) hd ⟨by have := h.2.1; omega, by have := h.2.1; omega⟩) h.2.2.1.2.2.1 (fun r Δ' I' J' H1 locs1 hQ hP hD hS => ?_)
    exact kk r Δ' I' J' hQ p e R s m args below meth c H1 locs1 _ _ ls mc ms ⟨h.1, ⟨h.2.1.1, h.2.1.2.1, by have := h.2.1; dsimp only; omega, by have := h.2.1; dsimp only; omega, by have := h.2.1; dsimp only; omega, by have := h.2.1; dsimp only; omega⟩, ⟨hP, hD, hS, h.2.2.1.2.2.2⟩, h.2.2.2⟩
end RULES3
