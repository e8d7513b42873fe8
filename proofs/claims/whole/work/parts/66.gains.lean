/-! prices by the rules, and what a lie gains: the class's side -/
def tl_price (rule : Int32) (W : Nat → Nat → Nat) (r : Nat → Nat) (B s l c : Nat) : Int32 := if rule = 1 then nI (r l) + nI (tr_gn W r B (tr_gl 9 s ++ [l])) - nI (tr_gn W r B (tr_gl 9 s)) else if rule = 2 then nI (r l) + nI (tr_gn W r B (tr_gl 9 s)) - nI (tr_gn W r B (tr_gl l s)) else nI ((W c l + r l) / 2)
theorem nI_m1 {a : Nat} (h : a < 2 ^ 31) : ¬ (-1 : Int32) = nI a := fun q => nI_pos h (by rw [← q]; decide)
theorem side_up {I : IT} {J : JT} {s B : Nat} {W : Nat → Nat → Nat} {r : Nat → Nat} {rule : Int32} {p a v : Nat} (h : tl_St I J s B W r rule p a v) {l : Nat} (hl : l < s) (hla : l ≠ a) {J' : JT} (hT : tr_T J' 40 B W r (tl_side rule a l s)) (hJ : ∀ k, k ≠ 40 → J' k = J k) : tl_St (upI I 35 6 (nI l)) J' s B W r rule p a v := by
  obtain ⟨hI, hS, hT0, hTr, hF, hO⟩ := h
  refine ⟨hI.fr (upI_o (by decide)) (upI_o (by decide)) (upI_o (by decide)), fun c l hc hl => by rw [hJ 38 (by decide)]; exact hS c l hc hl, fun t ht => by rw [hJ 39 (by decide)]; exact hT0 t ht, hTr.fr (upI_o (by decide)) (upI_o (by decide)) (upI_o (by decide)), ?_, Or.inr ⟨l, hl, hla, upI_s, hT⟩⟩
  rw [upI_j (by decide), upI_j (by decide), upI_j (by decide)]; exact hF
theorem side_nm (rule : Int32) {a l s : Nat} (hs : s ≤ 6) (ha : a < s) (hl : l < s) (hla : l ≠ a) : a ∉ tl_side rule a l s ∧ tr_ls (tl_side rule a l s) s 7 := by
  have i1 := tr_fl_ls a 9 s
  have i2 := tr_fl_ls a l s
  unfold tl_side
  split
  · refine ⟨fun q => ?_, fun x hx => ?_, by rw [List.length_cons]; have := i1.2; omega⟩
    · rcases List.mem_cons.mp q with w | w
      · exact hla w.symm
      · exact fl_nm s (by omega) a ha 9 (by omega) w
    · rcases List.mem_cons.mp hx with w | w
      · omega
      · exact i1.1 x w
  · exact ⟨fl_nm s (by omega) a ha l (by omega), i2.1, by have := i2.2; omega⟩
theorem side_sc {I : IT} {J : JT} {s B : Nat} {W : Nat → Nat → Nat} {r : Nat → Nat} {rule : Int32} {p a v : Nat} (h : tl_St I J s B W r rule p a v) {l : Nat} (ha : a < s) (hl : l < s) (hla : l ≠ a) (hT : tr_T J 40 B W r (tl_side rule a l s)) : (f_X7_allBuyers I).bind (fun r51 => (f_X7_withLot_40 r51 (I 35 9) I J).bind fun r58 => some (r58, I, J)) = some (eL (tr_V tr_fX (tl_W s W p a v) (tl_r s r p a v) B (a :: tl_side rule a l s) (tr_S (2 ^ B - 1))), I, J) := by
  obtain ⟨hI, hS, hT0, hTr, hF, hO⟩ := h
  have h6 := hI.1
  have hp := pow_B h6.2.2.2
  obtain ⟨n1, n2⟩ := side_nm rule h6.2.2.1 ha hl hla
  rw [all_ok h6.2.1 h6.2.2.2, Option.bind_some, hF.2.2, wl_40 hI hS (ls := tl_side rule a l s) ⟨n2.1, by have := n2.2; omega⟩ (by omega) ha (fun t ht => tl_T hT n1 t (by omega)), Option.bind_some]
theorem two_ok {I : IT} {J : JT} {s B : Nat} {W : Nat → Nat → Nat} {r : Nat → Nat} {p a v : Nat} (h : tl_St I J s B W r 1 p a v) {l : Nat} (ha : a < s) (hl : l < s) : ∃ x I1 J1, f_X7_scoreWithTwo (nI l) I J = some (x, I1, J1) ∧ f_X7_gainIn x = some (nI (tr_gn (tl_W s W p a v) (tl_r s r p a v) B (tr_gl 9 s ++ [l]))) ∧ tl_St I1 J1 s B W r 1 p a v ∧ (∀ c, c ≠ 35 → I1 c = I c) ∧ J1 47 = J 47 := by
  have h0 := h
  obtain ⟨hI, hS, hT, hTr, hF, hO⟩ := h
  have h6 := hI.1
  have ils := tr_fl_ls a 9 s
  unfold f_X7_scoreWithTwo
  rw [hF.2.2]
  by_cases q : l = a
  · subst q
    rw [if_pos rfl, wlt_ok hI hS (ls := tr_fl l 9 s) ⟨ils.1, by have := ils.2; omega⟩ hl (tl_T hT (fl_nm s (by omega) l ha 9 (by omega))), Option.bind_some]
    exact ⟨_, _, _, rfl, gain_gn h6.2.2.2 hI.wb (pm_two s (by omega) l hl l hl) (pm_s2 s (by omega) l hl), h0, fun _ _ => rfl, rfl⟩
  · rw [if_neg (by rw [nI_eq (by omega) (by omega)]; exact q)]
    have perm : (a :: tl_side 1 a l s).Perm (tr_gl 9 s ++ [l]) := by
      unfold tl_side; rw [if_pos rfl]; exact pm_two s (by omega) a ha l hl
    have g := gain_gn (r := tl_r s r p a v) h6.2.2.2 hI.wb perm (pm_s2 s (by omega) l hl)
    by_cases q2 : I 35 6 = nI l
    · rcases hO with w | ⟨l', l1, l2, l3, l4⟩
      · exact absurd (w.symm.trans q2) (nI_m1 (by omega))
      · have e : l' = l := by rw [l3, nI_eq (by omega) (by omega)] at q2; exact q2
        subst e
        have sc := side_sc h0 ha hl q l4
        rw [if_pos q2, ← hF.2.2, sc]
        exact ⟨_, _, _, rfl, g, h0, fun _ _ => rfl, rfl⟩
    · rw [if_neg q2]
      obtain ⟨J2, b1, b2, b3⟩ := fil2_40 hI hS (v2 := nI a) (v3 := -1) (wo := a) (al := 9) (fun i hi => nI_eq (by omega) (by omega)) (by decide) hl
      have hT2 : tr_T J2 40 B W r (tl_side 1 a l s) := by
        have n1 := (side_nm 1 h6.2.2.1 ha hl q).1
        unfold tl_side at n1 ⊢
        rw [if_pos rfl] at n1 ⊢
        intro t ht
        rw [b2 t ht, tl_V n1]
      have h2 := side_up h0 hl q hT2 b3
      have sc := side_sc h2 ha hl q hT2
      rw [b1, Option.bind_some, sc]
      exact ⟨_, _, _, rfl, g, h2, fun c hc => upI_o hc, b3 47 (by decide)⟩
theorem wout_ok {I : IT} {J : JT} {s B : Nat} {W : Nat → Nat → Nat} {r : Nat → Nat} {p a v : Nat} (h : tl_St I J s B W r 2 p a v) {l : Nat} (ha : a < s) (hl : l < s) : ∃ x I1 J1, f_X7_scoreWithout (nI l) I J = some (x, I1, J1) ∧ f_X7_gainIn x = some (nI (tr_gn (tl_W s W p a v) (tl_r s r p a v) B (tr_gl l s))) ∧ tl_St I1 J1 s B W r 2 p a v ∧ (∀ c, c ≠ 35 → I1 c = I c) ∧ J1 47 = J 47 := by
  have h0 := h
  obtain ⟨hI, hS, hT, hTr, hF, hO⟩ := h
  have h6 := hI.1
  have hp := pow_B h6.2.2.2
  unfold f_X7_scoreWithout
  rw [hF.2.2]
  by_cases q : l = a
  · subst q
    rw [if_pos rfl, all_ok h6.2.1 h6.2.2.2, Option.bind_some, if_pos (inb_nI (show 2 ^ B - 1 < 64 by omega) (by omega)), nI_clamp (by omega), tl_T (s := s) (p := p) (v := v) hT (fl_nm s (by omega) l ha 9 (by omega)) _ (by omega)]
    exact ⟨_, _, _, rfl, gain_gn h6.2.2.2 hI.wb (pm_wa s (by omega) l hl) (pm_s1 s (by omega) l (by omega)), h0, fun _ _ => rfl, rfl⟩
  · rw [if_neg (by rw [nI_eq (by omega) (by omega)]; exact q)]
    have perm : (a :: tl_side 2 a l s).Perm (tr_gl l s) := by
      unfold tl_side; rw [if_neg (by decide)]; exact pm_wo s (by omega) a ha l hl q
    have g := gain_gn (r := tl_r s r p a v) h6.2.2.2 hI.wb perm (pm_s1 s (by omega) l (by omega))
    by_cases q2 : I 35 6 = nI l
    · rcases hO with w | ⟨l', l1, l2, l3, l4⟩
      · exact absurd (w.symm.trans q2) (nI_m1 (by omega))
      · have e : l' = l := by rw [l3, nI_eq (by omega) (by omega)] at q2; exact q2
        subst e
        have sc := side_sc h0 ha hl q l4
        rw [if_pos q2, ← hF.2.2, sc]
        exact ⟨_, _, _, rfl, g, h0, fun _ _ => rfl, rfl⟩
    · rw [if_neg q2]
      obtain ⟨J2, b1, b2, b3⟩ := fill_40 hI hS (v2 := nI a) (v3 := nI l) (wo := a) (al := l) (fun i hi => nI_eq (by omega) (by omega)) (fun i hi => nI_eq (by omega) (by omega))
      have hT2 : tr_T J2 40 B W r (tl_side 2 a l s) := by
        have n1 := (side_nm 2 h6.2.2.1 ha hl q).1
        unfold tl_side at n1 ⊢
        rw [if_neg (by decide)] at n1 ⊢
        intro t ht
        rw [b2 t ht, tl_V n1]
      have h2 := side_up h0 hl q hT2 b3
      have sc := side_sc h2 ha hl q hT2
      rw [b1, Option.bind_some, sc]
      exact ⟨_, _, _, rfl, g, h2, fun c hc => upI_o hc, b3 47 (by decide)⟩
theorem x_gain {W : Nat → Nat → Nat} {r : Nat → Nat} {B s : Nat} (hB : B ≤ 6) (hs : s ≤ 6) (hW : tr_bd W B s) : f_X7_gainIn (eL (tr_X W r B s)) = some (nI (tr_gn W r B (tr_gl 9 s))) := by
  have := gain_gn (r := r) hB hW (List.Perm.refl (tr_gl 9 s)) (pm_s1 s (by omega) 9 (by omega))
  rw [tr_full hB, gl_rg s (by omega)] at this
  rw [gl_rg s (by omega)]
  exact this
theorem price_rule {I : IT} {J : JT} {s B : Nat} {W : Nat → Nat → Nat} {r : Nat → Nat} {rule : Int32} {p a v : Nat} (h : tl_St I J s B W r rule p a v) {l c : Nat} (ha : a < s) (hl : l < s) {v2 : Int32} (h0 : rule = 1 ∨ rule = 2 ∨ (rule = 0 ∧ c < B ∧ v2 = nI c)) : ∃ I1 J1, f_X7_rulePrice (nI l) v2 (eL (tr_X (tl_W s W p a v) (tl_r s r p a v) B s)) I J = some (tl_price rule (tl_W s W p a v) (tl_r s r p a v) B s l c, I1, J1) ∧ tl_St I1 J1 s B W r rule p a v ∧ (∀ c, c ≠ 35 → I1 c = I c) ∧ J1 47 = J 47 := by
  have h1 := h
  obtain ⟨hI, hS, hT, hTr, hF, hO⟩ := h
  have h6 := hI.1
  have xg := x_gain (r := tl_r s r p a v) h6.2.2.2 h6.2.2.1 hI.wb
  unfold f_X7_rulePrice tl_price
  rw [hF.1]
  rcases h0 with rfl | rfl | ⟨rfl, h2, rfl⟩
  · obtain ⟨x, I1, J1, b1, b2, b3⟩ := two_ok h1 ha hl
    rw [if_pos rfl, if_pos (inb_nI (show l < 6 by omega) (by omega)), b1, Option.bind_some, if_pos rfl]
    dsimp only
    rw [b2, Option.bind_some, xg, Option.bind_some, nI_clamp (by omega), (hI.2.1 l hl).1]
    exact ⟨_, _, rfl, b3⟩
  · obtain ⟨x, I1, J1, b1, b2, b3⟩ := wout_ok h1 ha hl
    rw [if_neg (by decide), if_pos rfl, if_pos (inb_nI (show l < 6 by omega) (by omega)), xg, Option.bind_some, b1, Option.bind_some, if_neg (by decide), if_pos rfl]
    dsimp only
    rw [b2, Option.bind_some, nI_clamp (by omega), (hI.2.1 l hl).1]
    exact ⟨_, _, rfl, b3⟩
  · have w1 := hI.2.1 l hl
    have w2 := hI.2.2 c l h2 hl
    rw [if_neg (by decide), if_neg (by decide), if_neg (fun q => nI_m1 (show c < 2 ^ 31 by omega) q.symm), i6, if_pos (inb_nI (show 6 * c + l < 36 by omega) (by omega)), if_pos (inb_nI (show l < 6 by omega) (by omega)), nI_clamp (by omega), nI_clamp (by omega), w1.1, w2.1, nI_add, show (2 : Int32) = nI 2 from rfl, pk_div (by omega) (by omega) (by omega), if_neg (by decide), if_neg (by decide)]
    exact ⟨_, _, rfl, h1, fun _ _ => rfl, rfl⟩
/-- the last lot below i that goes to c -/
def tl_bt (D : Nat → Nat) (c : Nat) : Nat → Nat
  | 0 => 9
  | i + 1 => if D i = c then i else tl_bt D c i
theorem tl_bt_ok {D : Nat → Nat} {c : Nat} : ∀ i, (tl_bt D c i < i ∧ D (tl_bt D c i) = c) ∨ (tl_bt D c i = 9 ∧ ∀ j, j < i → D j ≠ c) := by
  intro i
  induction i with
  | zero => exact Or.inr ⟨rfl, fun j hj => by omega⟩
  | succ i ih =>
    rw [tl_bt]
    by_cases q : D i = c
    · rw [if_pos q]; exact Or.inl ⟨by omega, q⟩
    · rw [if_neg q]
      rcases ih with ⟨h1, h2⟩ | ⟨h1, h2⟩
      · exact Or.inl ⟨by omega, h2⟩
      · refine Or.inr ⟨h1, fun j hj => ?_⟩
        by_cases e : j = i
        · subst e; exact q
        · exact h2 j (by omega)
/-- what p gains if it tells v about lot a -/
def tl_G (rule : Int32) (s B : Nat) (W : Nat → Nat → Nat) (r : Nat → Nat) (p a v : Nat) : Int32 :=
  if p < s then
    if tr_d (tl_W s W p a v) (tl_r s r p a v) B s a = 6 then 0 else tl_price rule (tl_W s W p a v) (tl_r s r p a v) B s a (tr_d (tl_W s W p a v) (tl_r s r p a v) B s a) - nI (r a)
  else
    if tl_bt (tr_d (tl_W s W p a v) (tl_r s r p a v) B s) (p - s) s = 9 then 0 else nI (W (p - s) (tl_bt (tr_d (tl_W s W p a v) (tl_r s r p a v) B s) (p - s) s)) - tl_price rule (tl_W s W p a v) (tl_r s r p a v) B s (tl_bt (tr_d (tl_W s W p a v) (tl_r s r p a v) B s) (p - s) s) (p - s)
theorem dig_eq {d c : Nat} (hd : d ≤ 6) (hc : c < 6) : tr_dig d = nI c ↔ d = c := by
  unfold tr_dig
  by_cases q : d = 6
  · rw [if_pos q]
    exact ⟨fun w => absurd w (nI_m1 (by omega)), fun w => by omega⟩
  · rw [if_neg q, nI_eq (by omega) (by omega)]
theorem lotOf_ok {I : IT} {s B : Nat} {W : Nat → Nat → Nat} {r : Nat → Nat} (hB : B ≤ 6) (hs : s ≤ 6) (hW : tr_bd W B s) (h3 : I 3 0 = nI s) {c : Nat} (hc : c < B) : ∀ d n i, i + d = s → d < n → (∀ j, j < i → tr_d W r B s j ≠ c) → f_X7_lotOf_3 n (nI c) (eL (tr_X W r B s)) (nI i) I = some (if tl_bt (tr_d W r B s) c s = 9 then -1 else nI (tl_bt (tr_d W r B s) c s)) := by
  intro d
  obtain ⟨t1, t2⟩ := tr_d_ok (r := r) hB hs hW
  induction d with
  | zero =>
    intro n i hi hn hj
    obtain ⟨n, rfl⟩ : ∃ m, n = m + 1 := ⟨n - 1, by omega⟩
    obtain rfl : i = s := by omega
    rw [f_X7_lotOf_3, h3, if_pos (nI_le (Nat.le_refl _) (by omega))]
    rcases tl_bt_ok (D := tr_d W r B i) (c := c) i with ⟨h1, h2⟩ | ⟨h1, -⟩
    · exact absurd h2 (hj _ h1)
    · rw [if_pos h1]
  | succ d ih =>
    intro n i hi hn hj
    obtain ⟨n, rfl⟩ : ∃ m, n = m + 1 := ⟨n - 1, by omega⟩
    have hle : tr_d W r B s i ≤ 6 := by rcases t1 i (by omega) with w | w <;> omega
    rw [f_X7_lotOf_3, h3, if_neg (by rw [nI_leI (by omega) (by omega)]; omega), buyer_ok hB hs hW (show i < s by omega), Option.bind_some]
    by_cases q : tr_d W r B s i = c
    · rw [if_pos ((dig_eq hle (by omega)).mpr q)]
      rcases tl_bt_ok (D := tr_d W r B s) (c := c) s with ⟨h1, h2⟩ | ⟨h1, h2⟩
      · have := t2 _ i h1 (by omega) (h2.trans q.symm) (by omega)
        rw [this, if_neg (by omega)]
      · exact absurd q (h2 i (by omega))
    · rw [if_neg (fun w => q ((dig_eq hle (by omega)).mp w)), nI_1]
      exact ih n (i + 1) (by omega) (by omega) (fun j hj' => by
        by_cases e : j = i
        · subst e; exact q
        · exact hj j (by omega))
theorem gains_ok {I : IT} {J : JT} {s B : Nat} {W : Nat → Nat → Nat} {r : Nat → Nat} {rule : Int32} {p a u : Nat} (h : tl_St I J s B W r rule p a u) (hd : Deal s B p a) (hr : rule = 0 ∨ rule = 1 ∨ rule = 2) {v : Nat} (hv : v ≤ 999) : ∃ I1 J1, f_X7_gainsIfTold (nI v) I J = some (tl_G rule s B W r p a v, I1, J1) ∧ tl_St I1 J1 s B W r rule p a v ∧ (∀ c, c ≠ 35 → c ≠ 36 → c ≠ 37 → I1 c = I c) ∧ J1 47 = J 47 := by
  obtain ⟨d1, d2, d3⟩ := id hd
  obtain ⟨I1, J1, a1, a2, a3, a4⟩ := tell_ok h hd hv
  obtain ⟨hI, hS, hT, hTr, hF, hO⟩ := id a2
  have h6 := hI.1
  obtain ⟨t1, t2⟩ := tr_d_ok (r := tl_r s r p a v) h6.2.2.2 h6.2.2.1 hI.wb
  have sel := isSel_ok hTr (show p < 100 by omega) hF.2.1
  unfold f_X7_gainsIfTold tl_G
  rw [a1, Option.bind_some]
  dsimp only
  rw [told_score a2 d2, Option.bind_some, sel, Option.bind_some]
  have fr : ∀ {I2 : IT}, (∀ c, c ≠ 35 → I2 c = I1 c) → ∀ c, c ≠ 35 → c ≠ 36 → c ≠ 37 → I2 c = I c := fun g c c1 c2 c3 => by rw [g c c1, a3 c c2 c3]
  by_cases q : p < s
  · rw [if_pos q, if_neg (by decide), hF.2.2, buyer_ok h6.2.2.2 h6.2.2.1 hI.wb d2, Option.bind_some, if_pos q]
    by_cases q2 : tr_d (tl_W s W p a v) (tl_r s r p a v) B s a = 6
    · rw [if_pos q2, show tr_dig (tr_d (tl_W s W p a v) (tl_r s r p a v) B s a) = -1 from if_pos q2, if_pos rfl]
      exact ⟨_, _, rfl, a2, fun c _ c2 c3 => a3 c c2 c3, a4 47 (by decide)⟩
    · have hlt : tr_d (tl_W s W p a v) (tl_r s r p a v) B s a < B := by rcases t1 a d2 with w | w <;> omega
      rw [if_neg q2, show tr_dig (tr_d (tl_W s W p a v) (tl_r s r p a v) B s a) = nI (tr_d (tl_W s W p a v) (tl_r s r p a v) B s a) from if_neg q2, if_neg (fun w => nI_m1 (show tr_d (tl_W s W p a v) (tl_r s r p a v) B s a < 2 ^ 31 by omega) w.symm)]
      obtain ⟨I2, J2, b1, b2, b3, b4⟩ := price_rule a2 (l := a) (c := tr_d (tl_W s W p a v) (tl_r s r p a v) B s a) (v2 := nI (tr_d (tl_W s W p a v) (tl_r s r p a v) B s a)) d2 d2 (by rcases hr with w | w | w <;> simp [w, hlt])
      rw [b1, Option.bind_some]
      dsimp only
      have e9 := b2.2.2.2.2.1.2.2
      refine ⟨I2, J2, ?_, b2, fr b3, by rw [b4, a4 47 (by decide)]⟩
      rw [if_pos (by rw [e9]; exact inb_nI (show a < 14 by omega) (by omega)), e9, nI_clamp (by omega), (b2.2.2.2.1.2.1 a d2).1]
  · obtain ⟨b, rfl⟩ : ∃ b, p = s + b := ⟨p - s, by omega⟩
    have hb : b < B := by omega
    rw [if_neg q, if_pos rfl, if_neg q, hF.2.1, h6.1, pk_sub (by omega), Nat.add_sub_cancel_left]
    unfold f_X7_lotOf
    have lo := lotOf_ok (r := tl_r s r (s + b) a v) h6.2.2.2 h6.2.2.1 hI.wb h6.1 hb s FU 0 (by omega) (by unfold FU; omega) (fun j hj => by omega)
    rw [nI_0] at lo
    rw [lo, Option.bind_some]
    rcases tl_bt_ok (D := tr_d (tl_W s W (s + b) a v) (tl_r s r (s + b) a v) B s) (c := b) s with ⟨h1, h2⟩ | ⟨h1, h2⟩
    · rw [if_neg (show ¬ tl_bt (tr_d (tl_W s W (s + b) a v) (tl_r s r (s + b) a v) B s) b s = 9 by omega), if_neg (show ¬ tl_bt (tr_d (tl_W s W (s + b) a v) (tl_r s r (s + b) a v) B s) b s = 9 by omega), if_neg (fun w => nI_m1 (show tl_bt (tr_d (tl_W s W (s + b) a v) (tl_r s r (s + b) a v) B s) b s < 2 ^ 31 by omega) w.symm)]
      obtain ⟨I2, J2, b1, b2, b3, b4⟩ := price_rule a2 (l := tl_bt (tr_d (tl_W s W (s + b) a v) (tl_r s r (s + b) a v) B s) b s) (c := b) (v2 := nI b) d2 h1 (by rcases hr with w | w | w <;> simp [w, hb])
      unfold f_X2_worthOf
      rw [i6, if_pos (inb_nI (show 6 * b + tl_bt (tr_d (tl_W s W (s + b) a v) (tl_r s r (s + b) a v) B s) b s < 36 by omega) (by omega)), Option.bind_some, nI_clamp (by omega), (hTr.2.2 b _ hb h1).1, b1, Option.bind_some]
      exact ⟨I2, J2, rfl, b2, fr b3, by rw [b4, a4 47 (by decide)]⟩
    · rw [if_pos h1, if_pos h1, if_pos rfl]
      exact ⟨_, _, rfl, a2, fun c _ c2 c3 => a3 c c2 c3, a4 47 (by decide)⟩
theorem truth_ok {I : IT} {J : JT} {s B : Nat} {W : Nat → Nat → Nat} {r : Nat → Nat} {rule : Int32} {p a u : Nat} (h : tl_St I J s B W r rule p a u) (hd : Deal s B p a) : f_X7_truth I = some (nI (tl_t s W r p a)) ∧ tl_t s W r p a ≤ 999 := by
  obtain ⟨d1, d2, d3⟩ := hd
  obtain ⟨hI, hS, hT, hTr, hF, hO⟩ := h
  have h6 := hI.1
  unfold f_X7_truth tl_t
  rw [isSel_ok hTr (show p < 100 by omega) hF.2.1, Option.bind_some]
  by_cases q : p < s
  · rw [if_pos q, if_pos q, if_neg (by decide), hF.2.2, if_pos (inb_nI (show a < 14 by omega) (by omega)), nI_clamp (by omega), (hTr.2.1 a d2).1]
    exact ⟨rfl, (hTr.2.1 a d2).2⟩
  · obtain ⟨b, rfl⟩ : ∃ b, p = s + b := ⟨p - s, by omega⟩
    unfold f_X2_worthOf
    rw [if_neg q, if_neg q, if_pos rfl, hF.2.1, hF.2.2, h6.1, pk_sub (by omega), Nat.add_sub_cancel_left, i6, if_pos (inb_nI (show 6 * b + a < 36 by omega) (by omega)), nI_clamp (by omega), (hTr.2.2 b a (by omega) d2).1]
    exact ⟨rfl, (hTr.2.2 b a (by omega) d2).2⟩
