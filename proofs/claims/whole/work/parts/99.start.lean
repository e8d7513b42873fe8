theorem wp_budget {Γ : GT} {mt : MT} {b : Nat × Nat} {pc : Nat} {lv : List (Nat × Value)} {st : List Value} {Δ : DT} {I : IT} {J : JT} {Q : QT} (h : WP Γ mt (0, 0) pc lv st Δ I J Q) : WP Γ mt b pc lv st Δ I J Q :=
  fun p e R s m args below meth c H locs cells slots ls mc ms g => h p e R s m args below meth c H locs cells slots ls mc ms ⟨g.1, ⟨g.2.1.1, g.2.1.2.1, by have := g.2.1; dsimp only; omega, by have := g.2.1; dsimp only; omega, by have := g.2.1; dsimp only; omega, by have := g.2.1; dsimp only; omega⟩, g.2.2⟩
theorem WP.mono {Γ : GT} {mt : MT} {b : Nat × Nat} {pc : Nat} {lv : List (Nat × Value)} {st : List Value} {Δ : DT} {I : IT} {J : JT} {Q Q' : QT} (h : WP Γ mt b pc lv st Δ I J Q) (hq : ∀ r Δ' I' J', Q r Δ' I' J' → Q' r Δ' I' J') : WP Γ mt b pc lv st Δ I J Q' :=
  fun p e R s m args below meth c H locs cells slots ls mc ms g T hT X => by
    obtain ⟨t, h1, o, h2, h3, ⟨⟨r, Δ', I', J', e1, e2, e3⟩, e4⟩, e5⟩ := h p e R s m args below meth c H locs cells slots ls mc ms g T hT X
    exact ⟨t, h1, o, h2, h3, ⟨⟨r, Δ', I', J', e1, hq _ _ _ _ e2, e3⟩, e4⟩, e5⟩
theorem wp_fin {Γ : GT} {mt : MT} {b : Nat × Nat} {pc : Nat} {lv : List (Nat × Value)} {st : List Value} {R : Nat → Nat → Option Nat} {ad : Nat → Nat} {I : IT} {J : JT} {Q : QT} (h4 : R 19 = fun j => (RRc 19 j).map ad) (hR : ∀ k t n, LAYc[k]? = some (t, n) → 10 ≤ t → ∀ j, j < n → R k j = (RRc k j).map ad) (h : WP Γ mt b pc lv st (DX ad) I J Q) : WP Γ mt b pc lv st (LAYc, R, ad) I J Q := by
  have e : g_W Γ (LAYc, R, ad) I J = g_W Γ (DX ad) I J := by
    unfold g_W
    refine List.map_congr_left (fun k hk => ?_)
    show (ad k, _) = (ad k, _)
    congr 1
    unfold g_cell
    show (match LAYc[k]? with | some q => _ | none => _) = (match LAYc[k]? with | some q => _ | none => _)
    cases hq : LAYc[k]? with
    | none => rfl
    | some z =>
      obtain ⟨t, n⟩ := z
      show g_kind _ _ _ _ k t n = g_kind _ _ _ _ k t n
      unfold g_kind
      by_cases ht1 : t = 1
      · simp only [if_pos ht1]
      · by_cases ht4 : t = 4
        · have hk19 : k = 19 := (by decide +kernel : ∀ k, k < 88 → ∀ n, n < 3 → LAYc[k]? = some (4, n) → k = 19) k (by have := (List.getElem?_eq_some_iff.mp hq).1; exact this) n (by
            subst ht4
            exact (by decide +kernel : ∀ k, k < 88 → ∀ q ∈ LAYc[k]?, q.1 = 4 → q.2 < 3) k (by have := (List.getElem?_eq_some_iff.mp hq).1; exact this) (4, n) hq rfl) (by rw [hq, ht4])
          subst hk19
          simp only [if_neg ht1, if_pos ht4, h4]
        · by_cases ht : t < 10
          · simp only [if_neg ht1, if_neg ht4, if_pos ht]
          · simp only [if_neg ht1, if_neg ht4, if_neg ht]
            congr 2
            refine List.map_congr_left (fun j hj => ?_)
            unfold g_fv
            show (if _ then _ else if _ then _ else va_rf (R k j)) = (if _ then _ else if _ then _ else va_rf ((RRc k j).map ad))
            rw [hR k t n hq (by omega) j (List.mem_range.mp hj)]
  intro p e' R' s m args below meth c H locs cells slots ls mc ms g
  refine h p e' R' s m args below meth c H locs cells slots ls mc ms ⟨g.1, g.2.1, ?_, g.2.2.2⟩
  rw [← e]
  exact g.2.2.1
set_option maxHeartbeats 16000000 in
set_option maxRecDepth 100000 in
theorem start_wp (Γ : GT) (hL : Γ.2.2.2.2 21 ≤ 3072) : WP Γ mL_law (600000, 7302250) 0 [(0, .ref (Γ.2.2.2.2 20))] [] ([], fun _ _ => none, fun _ => 0) (fun _ _ => 0) (fun _ _ => 0) (fun r _ _ _ => r = some (.int 1)) := by
  obtain ⟨r1, r2, r3, r4, r5, r6, h1, h2, h3, h4, h5, h6, hRel⟩ := pure_ctor
  obtain ⟨If, Jf, hlaw⟩ := pure_law _ _ Γ.2.2.2.2 hRel hL
  refine wp_new (ci := 9) (n := 12) (N := 0) dL_law_0 (by decide) rfl (tb1 20 (by decide +kernel) rfl) (tb1 21 (by decide +kernel) rfl) (tb1 1 (by decide +kernel) rfl) rfl (by decide) (fun q0 => ?_)
  show WP Γ _ (599999, 7302238) _ _ _ (LAYc.take 1, _, _) _ _ _
  refine wp_dup dL_law_3 rfl ?_
  refine wp_calli (mt' := mX9_init) (b' := (54, 2620)) (k_X9_init_1 Γ _ _ _ _ r1 h1 r2 h2 r3 h3 r4 h4 r5 h5) dL_law_4 mlL_9 mwX9_init (tb1 23 (by decide +kernel) rfl) rfl rfl rfl (Nat.le_of_ble_eq_true rfl) rfl (by decide) (by decide) (by decide) (fun r Δ' I' J' hq => ?_)
  obtain ⟨rfl, q1, q2, q3, q4, q5, q6, q7, q8, q9, q10, q11, q12, q13, q14, q15, q16, q17, q18, q19, q20, q21, q22, q23, q24, q25, q26, q27, q28, q29, q30, q31, q32, q33, q34, q35, q36, q37, q38, q39, q40, q41, q42, q43, q44, q45, q46, q47, q48, q49, q50, q51, q52, q53, q54, rfl, rfl, rfl⟩ := hq
  show WP Γ _ (599945, 7299618) _ _ _ (LAYc.take 55, _, _) _ _ _
  refine wp_astore_n (lv' := [(0, _), (1, _)]) dL_law_7 rfl rfl rfl rfl ?_
  refine wp_new (ci := 10) (n := 54) (N := 55) dL_law_8 (by decide) rfl (tb5 15 (by decide +kernel) rfl) (tb5 16 (by decide +kernel) rfl) (tb1 12 (by decide +kernel) rfl) rfl (by decide) (fun q55 => ?_)
  show WP Γ _ (599944, 7299564) _ _ _ (LAYc.take 56, _, _) _ _ _
  refine wp_dup dL_law_11 rfl ?_
  refine wp_calli (mt' := mX10_init) (b' := (32, 8483)) (k_X10_init_56 Γ _ _ _ _ r6 h6) dL_law_12 mlL_12 mwX10_init (tb5 18 (by decide +kernel) rfl) rfl rfl rfl (Nat.le_of_ble_eq_true rfl) rfl (by decide) (by decide) (by decide) (fun r Δ' I' J' hq => ?_)
  obtain ⟨rfl, q56, q57, q58, q59, q60, q61, q62, q63, q64, q65, q66, q67, q68, q69, q70, q71, q72, q73, q74, q75, q76, q77, q78, q79, q80, q81, q82, q83, q84, q85, q86, q87, rfl, rfl, rfl⟩ := hq
  show WP Γ _ (_, _) _ _ _ (LAYc, _, _) _ _ _
  refine wp_astore_n (lv' := [(0, _), (1, _), (2, _)]) dL_law_15 rfl rfl rfl rfl ?_
  refine wp_iconst (v := 0) dL_law_16 (by decide) ?_
  refine wp_istore_n (lv' := [(0, _), (1, _), (2, _), (3, _)]) dL_law_17 rfl rfl rfl rfl ?_
  refine wp_budget ?_
  refine wp_fin ?_ ?_ ?_
  · funext j
    match j with
    | 0 => rfl
    | 1 => rfl
    | j + 2 => rfl
  · intro k t n hk ht j hj
    have hk88 : k < 88 := (List.getElem?_eq_some_iff.mp hk).1
    match k, hk88 with
    | 0, _ =>
      cases hk
      match j, hj with
      | 0, _ => rfl
      | 1, _ => rfl
      | 2, _ => rfl
      | 3, _ => rfl
      | 4, _ => rfl
      | 5, _ => rfl
      | 6, _ => rfl
      | 7, _ => rfl
      | 8, _ => rfl
      | 9, _ => rfl
      | 10, _ => rfl
      | 11, _ => rfl
      | j + 12, hj => exact absurd hj (by omega)
    | 1, _ =>
      cases hk
      match j, hj with
      | 0, _ => rfl
      | 1, _ => rfl
      | j + 2, hj => exact absurd hj (by omega)
    | 2, _ => cases hk; exact absurd ht (by decide)
    | 3, _ =>
      cases hk
      match j, hj with
      | 0, _ => rfl
      | 1, _ => rfl
      | 2, _ => rfl
      | 3, _ => rfl
      | 4, _ => rfl
      | 5, _ => rfl
      | 6, _ => rfl
      | 7, _ => rfl
      | j + 8, hj => exact absurd hj (by omega)
    | 4, _ => cases hk; exact absurd ht (by decide)
    | 5, _ => cases hk; exact absurd ht (by decide)
    | 6, _ => cases hk; exact absurd ht (by decide)
    | 7, _ =>
      cases hk
      match j, hj with
      | 0, _ => rfl
      | 1, _ => rfl
      | 2, _ => rfl
      | 3, _ => rfl
      | 4, _ => rfl
      | 5, _ => rfl
      | 6, _ => rfl
      | j + 7, hj => exact absurd hj (by omega)
    | 8, _ =>
      cases hk
      match j, hj with
      | 0, _ => rfl
      | 1, _ => rfl
      | 2, _ => rfl
      | 3, _ => rfl
      | 4, _ => rfl
      | 5, _ => rfl
      | 6, _ => rfl
      | 7, _ => rfl
      | j + 8, hj => exact absurd hj (by omega)
    | 9, _ => cases hk; exact absurd ht (by decide)
    | 10, _ => cases hk; exact absurd ht (by decide)
    | 11, _ => cases hk; exact absurd ht (by decide)
    | 12, _ =>
      cases hk
      match j, hj with
      | 0, _ => rfl
      | 1, _ => rfl
      | 2, _ => rfl
      | 3, _ => rfl
      | 4, _ => rfl
      | 5, _ => rfl
      | 6, _ => rfl
      | 7, _ => rfl
      | 8, _ => rfl
      | j + 9, hj => exact absurd hj (by omega)
    | 13, _ => cases hk; exact absurd ht (by decide)
    | 14, _ => cases hk; exact absurd ht (by decide)
    | 15, _ => cases hk; exact absurd ht (by decide)
    | 16, _ => cases hk; exact absurd ht (by decide)
    | 17, _ => cases hk; exact absurd ht (by decide)
    | 18, _ => cases hk; exact absurd ht (by decide)
    | 19, _ => cases hk; exact absurd ht (by decide)
    | 20, _ =>
      cases hk
      match j, hj with
      | 0, _ => rfl
      | 1, _ => rfl
      | 2, _ => rfl
      | 3, _ => rfl
      | 4, _ => rfl
      | 5, _ => rfl
      | 6, _ => rfl
      | 7, _ => rfl
      | 8, _ => rfl
      | j + 9, hj => exact absurd hj (by omega)
    | 21, _ => cases hk; exact absurd ht (by decide)
    | 22, _ => cases hk; exact absurd ht (by decide)
    | 23, _ => cases hk; exact absurd ht (by decide)
    | 24, _ => cases hk; exact absurd ht (by decide)
    | 25, _ => cases hk; exact absurd ht (by decide)
    | 26, _ => cases hk; exact absurd ht (by decide)
    | 27, _ =>
      cases hk
      match j, hj with
      | 0, _ => rfl
      | 1, _ => rfl
      | 2, _ => rfl
      | 3, _ => rfl
      | 4, _ => rfl
      | 5, _ => rfl
      | 6, _ => rfl
      | 7, _ => rfl
      | 8, _ => rfl
      | j + 9, hj => exact absurd hj (by omega)
    | 28, _ => cases hk; exact absurd ht (by decide)
    | 29, _ => cases hk; exact absurd ht (by decide)
    | 30, _ => cases hk; exact absurd ht (by decide)
    | 31, _ => cases hk; exact absurd ht (by decide)
    | 32, _ => cases hk; exact absurd ht (by decide)
    | 33, _ => cases hk; exact absurd ht (by decide)
    | 34, _ => cases hk; exact absurd ht (by decide)
    | 35, _ =>
      cases hk
      match j, hj with
      | 0, _ => rfl
      | 1, _ => rfl
      | 2, _ => rfl
      | 3, _ => rfl
      | 4, _ => rfl
      | 5, _ => rfl
      | 6, _ => rfl
      | 7, _ => rfl
      | 8, _ => rfl
      | 9, _ => rfl
      | j + 10, hj => exact absurd hj (by omega)
    | 36, _ => cases hk; exact absurd ht (by decide)
    | 37, _ => cases hk; exact absurd ht (by decide)
    | 38, _ => cases hk; exact absurd ht (by decide)
    | 39, _ => cases hk; exact absurd ht (by decide)
    | 40, _ => cases hk; exact absurd ht (by decide)
    | 41, _ =>
      cases hk
      match j, hj with
      | 0, _ => rfl
      | 1, _ => rfl
      | 2, _ => rfl
      | 3, _ => rfl
      | 4, _ => rfl
      | j + 5, hj => exact absurd hj (by omega)
    | 42, _ => cases hk; exact absurd ht (by decide)
    | 43, _ => cases hk; exact absurd ht (by decide)
    | 44, _ => cases hk; exact absurd ht (by decide)
    | 45, _ => cases hk; exact absurd ht (by decide)
    | 46, _ =>
      cases hk
      match j, hj with
      | 0, _ => rfl
      | 1, _ => rfl
      | 2, _ => rfl
      | j + 3, hj => exact absurd hj (by omega)
    | 47, _ => cases hk; exact absurd ht (by decide)
    | 48, _ =>
      cases hk
      match j, hj with
      | 0, _ => rfl
      | 1, _ => rfl
      | j + 2, hj => exact absurd hj (by omega)
    | 49, _ => cases hk; exact absurd ht (by decide)
    | 50, _ =>
      cases hk
      match j, hj with
      | 0, _ => rfl
      | 1, _ => rfl
      | 2, _ => rfl
      | 3, _ => rfl
      | 4, _ => rfl
      | 5, _ => rfl
      | j + 6, hj => exact absurd hj (by omega)
    | 51, _ => cases hk; exact absurd ht (by decide)
    | 52, _ => cases hk; exact absurd ht (by decide)
    | 53, _ => cases hk; exact absurd ht (by decide)
    | 54, _ => cases hk; exact absurd ht (by decide)
    | 55, _ =>
      cases hk
      match j, hj with
      | 0, _ => rfl
      | 1, _ => rfl
      | 2, _ => rfl
      | 3, _ => rfl
      | 4, _ => rfl
      | 5, _ => rfl
      | 6, _ => rfl
      | 7, _ => rfl
      | 8, _ => rfl
      | 9, _ => rfl
      | 10, _ => rfl
      | 11, _ => rfl
      | 12, _ => rfl
      | 13, _ => rfl
      | 14, _ => rfl
      | 15, _ => rfl
      | 16, _ => rfl
      | 17, _ => rfl
      | 18, _ => rfl
      | 19, _ => rfl
      | 20, _ => rfl
      | 21, _ => rfl
      | 22, _ => rfl
      | 23, _ => rfl
      | 24, _ => rfl
      | 25, _ => rfl
      | 26, _ => rfl
      | 27, _ => rfl
      | 28, _ => rfl
      | 29, _ => rfl
      | 30, _ => rfl
      | 31, _ => rfl
      | 32, _ => rfl
      | 33, _ => rfl
      | 34, _ => rfl
      | 35, _ => rfl
      | 36, _ => rfl
      | 37, _ => rfl
      | 38, _ => rfl
      | 39, _ => rfl
      | 40, _ => rfl
      | 41, _ => rfl
      | 42, _ => rfl
      | 43, _ => rfl
      | 44, _ => rfl
      | 45, _ => rfl
      | 46, _ => rfl
      | 47, _ => rfl
      | 48, _ => rfl
      | 49, _ => rfl
      | 50, _ => rfl
      | 51, _ => rfl
      | 52, _ => rfl
      | 53, _ => rfl
      | j + 54, hj => exact absurd hj (by omega)
    | 56, _ => cases hk; exact absurd ht (by decide)
    | 57, _ => cases hk; exact absurd ht (by decide)
    | 58, _ => cases hk; exact absurd ht (by decide)
    | 59, _ => cases hk; exact absurd ht (by decide)
    | 60, _ => cases hk; exact absurd ht (by decide)
    | 61, _ => cases hk; exact absurd ht (by decide)
    | 62, _ => cases hk; exact absurd ht (by decide)
    | 63, _ => cases hk; exact absurd ht (by decide)
    | 64, _ => cases hk; exact absurd ht (by decide)
    | 65, _ => cases hk; exact absurd ht (by decide)
    | 66, _ => cases hk; exact absurd ht (by decide)
    | 67, _ => cases hk; exact absurd ht (by decide)
    | 68, _ => cases hk; exact absurd ht (by decide)
    | 69, _ => cases hk; exact absurd ht (by decide)
    | 70, _ => cases hk; exact absurd ht (by decide)
    | 71, _ => cases hk; exact absurd ht (by decide)
    | 72, _ => cases hk; exact absurd ht (by decide)
    | 73, _ => cases hk; exact absurd ht (by decide)
    | 74, _ => cases hk; exact absurd ht (by decide)
    | 75, _ => cases hk; exact absurd ht (by decide)
    | 76, _ => cases hk; exact absurd ht (by decide)
    | 77, _ => cases hk; exact absurd ht (by decide)
    | 78, _ => cases hk; exact absurd ht (by decide)
    | 79, _ => cases hk; exact absurd ht (by decide)
    | 80, _ => cases hk; exact absurd ht (by decide)
    | 81, _ => cases hk; exact absurd ht (by decide)
    | 82, _ => cases hk; exact absurd ht (by decide)
    | 83, _ => cases hk; exact absurd ht (by decide)
    | 84, _ => cases hk; exact absurd ht (by decide)
    | 85, _ => cases hk; exact absurd ht (by decide)
    | 86, _ => cases hk; exact absurd ht (by decide)
    | 87, _ => cases hk; exact absurd ht (by decide)
    | k + 88, h => exact absurd h (by omega)
  · exact WP.mono (w_L_law_18 Γ _ FU 0 _ _ (1, If, Jf) hlaw) (fun r Δ' I' J' hq => hq.1)
set_option maxHeartbeats 4000000 in
/-- YOUR PART: from the entry, for every script of at most 3072 ints, the law comes to its end with true -/
theorem whole_start {p : Program} {e : Env} {s : State} {m : MethodId} {below : List Frame} {meth : Method} {c : Code} (l : Launch) {b L : Nat} {xs : Nat → Int32} (hL : L ≤ 3072) (C0 : lw_At p s m meth c b L xs) : W p l e room_1 s m #[Value.ref b] below meth c s.heap [] 0 0 (lw_Z below #[Value.ref b] s) (entryFrame m ([Value.ref b] : List Value).toArray 4) := by
  obtain ⟨Γ, rfl, hN, rfl, rfl, hA⟩ := start_amb l C0
  obtain ⟨hx, hb, hr, hml, hown, hts, hX, hbl, hlocks, hgv⟩ := id C0
  have hl := lv_entry ([.ref (Γ.2.2.2.2 20)]) (n := 4) (Nat.le_of_ble_eq_true rfl)
  rw [lg_entry_eq]
  generalize (lg_sl ([.ref (Γ.2.2.2.2 20)]) ++ List.replicate (4 - (lg_sl ([.ref (Γ.2.2.2.2 20)])).length) Slot.unset).toArray = ls at hl ⊢
  intro T hT X
  obtain ⟨t, h1, o, h2, h3, ⟨⟨r, Δ', I', J', e1, e2, e3⟩, e4⟩, Ls, hF, hfr⟩ := start_wp Γ hL p e room_1 s m #[.ref (Γ.2.2.2.2 20)] below meth c s.heap [] 0 0 ls 600000 7302250 ⟨⟨hx, hb, hr, hml, hown, fun w hw => hts w (List.mem_filter.mp hw).1, hlocks, fun h => absurd h (by decide)⟩, ⟨Nat.le_refl _, Nat.le_refl _, Nat.le_of_ble_eq_true rfl, Nat.le_of_ble_eq_true rfl, Nat.le_of_ble_eq_true rfl, Nat.le_of_ble_eq_true rfl⟩, ⟨fun k q h => by simp [g_W] at h, ⟨fun i j p q h => by simp [g_W] at h, fun k q h => by simp [g_W] at h⟩, va_S.rf, by rw [hN]; exact Nat.le_refl _⟩, hA, hl⟩ T hT X
  subst e2
  refine ⟨t, h1, o, h2, h3, e1, hF.1, hF.2.1, ?_⟩
  exact hF.2.2.weaken (fun x hx hlt => absurd hlt (Nat.not_lt.mpr (by have := hfr x hx; unfold g_A at this; rw [hN] at this; exact this))) (Nat.le_refl _) (Nat.le_refl _)
set_option maxHeartbeats 4000000 in
theorem lw_walk (l : Launch) (b : Addr) (xs : List Int32) : MetFree l x (headSpec (Jvm.Cond.code x code maxLocals ret :: tables_1) room_1) (lw_P b xs) (fun _ _ _ _ _ => True) lw_Q := by
  refine MetFree.of_bodyS (code := code) (maxLocals := maxLocals) (ret := ret) (by decide) ?_ ?_
  · intro args s m h hn
    obtain ⟨meth, c, h1, h2, h3, h4, h5, h6, -, -⟩ := Cond.code_spec hn (atoms_spec (ws := Jvm.Cond.code x code maxLocals ret :: tables_1) h _ List.mem_cons_self)
    exact ⟨meth, c, h1, h2, h3, h4, h5, h6⟩
  · intro p e s m args below meth c s₁ B hml0 hP _
    obtain ⟨rfl, hx, hbd, hgv⟩ := hP
    obtain ⟨scr, harrAt, hlist, hof, hsmall⟩ := hx
    obtain ⟨hcb, hkn, -, -⟩ := State.arrayAt?_spec harrAt
    have hown : s.vm.findClass R_law = some m.cls := findClass_of_methodNamed B.named
    have hts0 : ∀ c ∈ (Jvm.Cond.code x code maxLocals ret :: tables_1), c.before #[Value.ref b] s = true := atoms_spec (ws := Jvm.Cond.code x code maxLocals ret :: tables_1) B.pre
    have hts : ∀ w ∈ lw_tbl, w.before #[Value.ref b] s = true := k2_hts_sels lw_privs (fun w hw => hts0 w (List.mem_cons_of_mem _ hw)) lw_privs_ok
    have hml : c.maxLocals = 4 := B.maxLocals_eq (hts0 _ List.mem_cons_self)
    have X₀ : Stand p l e room_1 s m #[Value.ref b] below meth c s₁ [] 0 0 := Stand.of_body B
    have hh0 : s₁.heap = s.heap := by rw [B.state]; rfl
    have hsz : scr.slots.size = xs.length := by rw [← Array.length_toList, hlist, List.length_map]
    have hval : ∀ j : Nat, j < xs.length → scr.slots[j]? = some (.int (xs.getD j 0)) := fun j hj => by
      rw [← Array.getElem?_toList, hlist]
      simp [hj]
    have hbl : b < s.heap.size := (Array.getElem?_eq_some_iff.mp hcb).1
    have hX : va_X b xs.length (fun j => xs.getD j 0) s s.heap := ⟨scr, hcb, hof, hkn, hsz, hval⟩
    have K : W p l e room_1 s m #[Value.ref b] below meth c s₁.heap [] 0 0 (lw_Z below #[Value.ref b] s) (entryFrame m ([Value.ref b] : List Value).toArray 4) := by
      rw [hh0]
      exact whole_start l hbd ⟨B.exec, B.bytes, B.returns, hml, hown, hts, hX, hbl, B.notSynchronized, hgv⟩
    obtain ⟨t, a1, o, b1, b2, b3⟩ := K s₁ rfl X₀
    exact ⟨t, o, a1, b1, b2, b3⟩
theorem lw_pre_spec {args : Array Value} {s : State} (h : (Jvm.Cond.and given_1 narrow_1).before args s = true) (hr : rest_1_c.before args s = true) : ∃ (b : Addr) (xs : List Int32), lw_P b xs args s := by
  have hs := flat_of_before _ h
  have hq := flat_of_before _ hr
  have hc : (Cond.count 1).before args s = true := hs _ (by decide +kernel)
  have harr : (Cond.arrayOf (.arg 0) .int).before args s = true := hs _ (by decide +kernel)
  have hle : (Cond.le (.length (.arg 0)) (.int 3072)).before args s = true := hs _ (by decide +kernel)
  have hlen : (Cond.isInt (.length (.arg 0))).before args s = true := hq _ (by decide +kernel)
  have hall : (Cond.all (.arg 0) (.isInt (.elem (.arg 0) (.index 0)))).before args s = true := hq _ (by decide +kernel)
  obtain ⟨b, xs, hb, hx⟩ := State.ints_of_pre rfl harr hlen hall
  have hsm : xs.length < 2 ^ 31 := hx.choose_spec.2.2.2
  have hev : (Term.length (.arg 0)).eval args s none [] s = some (.int xs.length.toInt32) := hx.length_eval hb
  have hv := Cond.le_ints hev (show (Term.int 3072).eval args s none [] s = some (.int 3072) from rfl)
  have hd : xs.length.toInt32 ≤ 3072 := by
    simpa [Cond.before, Cond.holds, hv] using hle
  have hN : xs.length ≤ 3072 := (Int32.ofNat_le_ofNat hsm (by decide)).mp (show Int32.ofNat xs.length ≤ Int32.ofNat 3072 from hd)
  exact ⟨b, xs, Cond.one_arg hc (show args[0]? = some (.ref b) from hb), hx, hN, h⟩
theorem lw_comes (l : Launch) : Comes l x (Jvm.Cond.code x code maxLocals ret :: tables_1) room_1 (fun tb e args s => Calls_1 tb e args s ∧ rest_1 tb e args s ∧ Pre_1 tb e args s)
    (fun _ _ args s o t => lw_Q args s o t) := by
  intro p e ha hc hk s m args below hf hfit hheap happ hpre
  obtain ⟨b, xs, hP⟩ := lw_pre_spec hpre.2.2 hpre.2.1
  obtain ⟨k, o, h1, h2, h3, hQ⟩ := lw_walk l b xs p e ha hc hk s m args below hf ((Spec.applies_iff_loose hf).mp happ).1 hP trivial
  exact ⟨k, o, h1, h2, h3, hQ⟩
theorem lw_frame {s t : State} {o : Outcome} {args : Array Value} (h : Framed s o t [] 600000 7302250) :
    Framed s o t (fieldLocs frame_1_writes args s ++ arrayLocs frame_1_arrays args s ++ staticLocs frame_1_statics s) 600000 7302250 := h
theorem lw_limb (L : Cond) (hL : ∀ (args : Array Value) (s t : State), L.after args s (.returned (some (.int 1))) t = true) :
    ArmFor flags0 classFile x code maxLocals ret World_1 tables_1 room_1 Calls_1 rest_1 Pre_1
      (fun tb e a s o t => postC L tb e a s o t ∧ Framed s o t (fieldLocs frame_1_writes a s ++ arrayLocs frame_1_arrays a s ++ staticLocs frame_1_statics s) 600000 7302250) := by
  intro l _ _ _ p e ha hc hk s m args below hf hfit hheap happ hpre
  obtain ⟨k, o, h1, h2, h3, rfl, hF⟩ := lw_comes l p e ha hc hk s m args below hf hfit hheap happ hpre
  exact ⟨k, _, h1, h2, h3, hL args s _, lw_frame hF⟩
theorem i_vc : Claimed_1_1 ∧ Claimed_1_2 := ⟨lw_limb limb_1_1 (fun args s t => by simp [limb_1_1, Cond.after, Cond.holds, Cond.value]), lw_limb limb_1_2 (fun args s t => Cond.after_iff.mpr (by
  first | (rw [show limb_1_2 = Cond.eq .result (.int 1) from rfl, Cond.eq_ints (x := 1) (y := 1) rfl rfl]; simp; done) | (simp [limb_1_2, Cond.value, Term.eval]; done)))⟩
