/-! what is told instead of the truth: p, about lot a, tells v -/
def tl_W (s : Nat) (W : Nat → Nat → Nat) (p a v c l : Nat) : Nat := if s ≤ p ∧ c = p - s ∧ l = a then v else W c l
def tl_r (s : Nat) (r : Nat → Nat) (p a v l : Nat) : Nat := if p < s ∧ l = a then v else r l
theorem tl_W_o {s : Nat} {W : Nat → Nat → Nat} {p a v c l : Nat} (h : l ≠ a) : tl_W s W p a v c l = W c l := if_neg (fun q => h q.2.2)
theorem tl_r_o {s : Nat} {r : Nat → Nat} {p a v l : Nat} (h : l ≠ a) : tl_r s r p a v l = r l := if_neg (fun q => h q.2)
theorem tl_V {φ : Nat → Nat → Nat → Int} {s : Nat} {W : Nat → Nat → Nat} {r : Nat → Nat} {B p a v : Nat} {ls : List Nat} (h : a ∉ ls) (S : Nat → Bool) : tr_V φ (tl_W s W p a v) (tl_r s r p a v) B ls S = tr_V φ W r B ls S :=
  tr_V_congr ls S (fun l hl => by
    have q : l ≠ a := fun e => h (e ▸ hl)
    exact ⟨tl_r_o q, fun c _ => tl_W_o q⟩)
/-- the row beside: of the lots but a, with l twice or without it -/
def tl_side (rule : Int32) (a l s : Nat) : List Nat := if rule = 1 then l :: tr_fl a 9 s else tr_fl a l s
def tl_St (I : IT) (J : JT) (s B : Nat) (W : Nat → Nat → Nat) (r : Nat → Nat) (rule : Int32) (p a v : Nat) : Prop :=
  tr_In I s B (tl_W s W p a v) (tl_r s r p a v) ∧ tr_Sc J s B (tl_W s W p a v) (tl_r s r p a v) ∧ tr_T J 39 B W r (tr_fl a 9 s) ∧ tr_Tr I s B W r
  ∧ (I 35 7 = rule ∧ I 35 8 = nI p ∧ I 35 9 = nI a) ∧ (I 35 6 = -1 ∨ ∃ l, l < s ∧ l ≠ a ∧ I 35 6 = nI l ∧ tr_T J 40 B W r (tl_side rule a l s))
theorem tr_Tr.fr {I I' : IT} {s B : Nat} {W : Nat → Nat → Nat} {r : Nat → Nat} (h : tr_Tr I s B W r) (h3 : I' 3 = I 3) (h5 : I' 5 = I 5) (h6 : I' 6 = I 6) : tr_Tr I' s B W r := by
  unfold tr_Tr; rw [h3, h5, h6]; exact h
theorem tr_In.fr {I I' : IT} {s B : Nat} {W : Nat → Nat → Nat} {r : Nat → Nat} (h : tr_In I s B W r) (h3 : I' 3 = I 3) (h5 : I' 36 = I 36) (h6 : I' 37 = I 37) : tr_In I' s B W r := by
  unfold tr_In; rw [h3, h5, h6]; exact h
theorem tr_In.cg {I : IT} {s B : Nat} {W W' : Nat → Nat → Nat} {r r' : Nat → Nat} (h : tr_In I s B W r) (h1 : ∀ l, l < s → r' l = r l) (h2 : ∀ c l, c < B → l < s → W' c l = W c l) : tr_In I s B W' r' :=
  ⟨h.1, fun l hl => by rw [h1 l hl]; exact h.2.1 l hl, fun c l hc hl => by rw [h2 c l hc hl]; exact h.2.2 c l hc hl⟩
theorem tr_Sc.cg {J : JT} {s B : Nat} {W W' : Nat → Nat → Nat} {r r' : Nat → Nat} (h : tr_Sc J s B W r) (h1 : ∀ l, l < s → r' l = r l) (h2 : ∀ c l, c < B → l < s → W' c l = W c l) : tr_Sc J s B W' r' :=
  fun c l hc hl => by rw [h c l hc hl]; unfold tr_sc; rw [h1 l hl, h2 c l hc hl]
/-- the truth -/
def tl_t (s : Nat) (W : Nat → Nat → Nat) (r : Nat → Nat) (p a : Nat) : Nat := if p < s then r a else W (p - s) a
theorem tl_tW {s : Nat} {W : Nat → Nat → Nat} {r : Nat → Nat} {p a c l : Nat} : tl_W s W p a (tl_t s W r p a) c l = W c l := by
  unfold tl_W tl_t
  by_cases q : s ≤ p ∧ c = p - s ∧ l = a
  · obtain ⟨q1, rfl, rfl⟩ := q
    rw [if_pos ⟨q1, rfl, rfl⟩, if_neg (by omega)]
  · rw [if_neg q]
theorem tl_tr {s : Nat} {W : Nat → Nat → Nat} {r : Nat → Nat} {p a l : Nat} : tl_r s r p a (tl_t s W r p a) l = r l := by
  unfold tl_r tl_t
  by_cases q : p < s ∧ l = a
  · obtain ⟨q1, rfl⟩ := q
    rw [if_pos ⟨q1, rfl⟩, if_pos q1]
  · rw [if_neg q]
theorem open_ok {I : IT} {J : JT} {s B : Nat} {W : Nat → Nat → Nat} {r : Nat → Nat} (h : tr_Tr I s B W r) (rule : Int32) (p : Nat) {a : Nat} (ha : a < s) : ∃ I1 J1, f_X7_open rule (nI p) (nI a) I J = some (I1, J1) ∧ tl_St I1 J1 s B W r rule p a (tl_t s W r p a) ∧ (∀ c, c ≠ 35 → c ≠ 36 → c ≠ 37 → I1 c = I c) ∧ J1 47 = J 47 := by
  have h6 := h.1
  obtain ⟨I0, hI0⟩ : ∃ I0 : IT, I0 = upI (upI (upI (upI I 35 7 rule) 35 8 (nI p)) 35 9 (nI a)) 35 6 (-1) := ⟨_, rfl⟩
  have f0 : ∀ c, c ≠ 35 → I0 c = I c := fun c hc => by rw [hI0, upI_o hc, upI_o hc, upI_o hc, upI_o hc]
  have g0 : I0 35 7 = rule ∧ I0 35 8 = nI p ∧ I0 35 9 = nI a ∧ I0 35 6 = -1 := by
    rw [hI0]; simp [upI, upd]
  have h0 : tr_Tr I0 s B W r := h.fr (f0 _ (by decide)) (f0 _ (by decide)) (f0 _ (by decide))
  obtain ⟨I1, J1, a1, a2, a3, a4, a5⟩ := load_ok (J := J) h0.1 h0.2.1 h0.2.2
  obtain ⟨J2, b1, b2, b3⟩ := fill_39 a2 a3 (v2 := nI a) (v3 := -1) (wo := a) (al := 9) (fun i hi => nI_eq (by omega) (by omega)) (by decide)
  refine ⟨I1, J2, ?_, ⟨a2.cg (fun l _ => tl_tr) (fun c l _ _ => tl_tW), ?_, b2, h0.fr (a4 _ (by decide) (by decide)) (a4 _ (by decide) (by decide)) (a4 _ (by decide) (by decide)), ?_, ?_⟩, fun c c1 c2 c3 => by rw [a4 c c2 c3, f0 c c1], by rw [b3 47 (by decide), a5 47 (by decide)]⟩
  · unfold f_X7_open
    rw [← hI0, a1, Option.bind_some, b1, Option.bind_some]
  · have : tr_Sc J2 s B W r := fun c l hc hl => by rw [b3 38 (by decide)]; exact a3 c l hc hl
    exact this.cg (fun l _ => tl_tr) (fun c l _ _ => tl_tW)
  · rw [a4 35 (by decide) (by decide)]; exact ⟨g0.1, g0.2.1, g0.2.2.1⟩
  · rw [a4 35 (by decide) (by decide)]; exact Or.inl g0.2.2.2
theorem isSel_ok {I : IT} {s B : Nat} {W : Nat → Nat → Nat} {r : Nat → Nat} (h : tr_Tr I s B W r) {p : Nat} (hp : p < 100) (h8 : I 35 8 = nI p) : f_X7_isSeller I = some (if p < s then 1 else 0) := by
  have h6 := h.1
  unfold f_X7_isSeller
  rw [h6.1, h8]
  by_cases q : p < s
  · rw [if_neg (by rw [nI_leI (by omega) (by omega)]; omega), if_pos q]
  · rw [if_pos (by rw [nI_leI (by omega) (by omega)]; omega), if_neg q]
theorem tell19_ok {I : IT} {s B : Nat} {W : Nat → Nat → Nat} {r : Nat → Nat} (h : tr_In I s B W r) {a : Nat} (ha : a < s) (h9 : I 35 9 = nI a) : ∀ d n c J, c + d = B → d < n → ∃ J', f_X7_tell_19 n (nI c) I J = some (I, J') ∧ (∀ k, k ≠ 38 → J' k = J k) ∧ ∀ c' l', c' < B → l' < s → J' 38 (6 * c' + l') = if c ≤ c' ∧ l' = a then tr_sc W r c' a else J 38 (6 * c' + l') := by
  intro d
  have h6 := h.1
  induction d with
  | zero =>
    intro n c J hc hn
    obtain ⟨n, rfl⟩ : ∃ m, n = m + 1 := ⟨n - 1, by omega⟩
    rw [f_X7_tell_19, h6.2.1, if_pos (by rw [nI_leI (by omega) (by omega)]; omega)]
    exact ⟨J, rfl, fun _ _ => rfl, fun c' l' h1 h2 => by rw [if_neg (by omega)]⟩
  | succ d ih =>
    intro n c J hc hn
    obtain ⟨n, rfl⟩ : ∃ m, n = m + 1 := ⟨n - 1, by omega⟩
    obtain ⟨J', e1, e2, e3⟩ := ih n (c + 1) (upJ J 38 (6 * c + a) (tr_sc W r c a)) (by omega) (by omega)
    refine ⟨J', ?_, fun k hk => by rw [e2 k hk, upJ_o hk], fun c' l' h1 h2 => ?_⟩
    · rw [f_X7_tell_19, h6.2.1, if_neg (by rw [nI_leI (by omega) (by omega)]; omega), h9, put_ok h J (show c < B by omega) ha, Option.bind_some, nI_1, e1]
    · rw [e3 c' l' h1 h2]
      by_cases q : l' = a
      · subst q
        by_cases q2 : c' = c
        · subst q2
          rw [if_neg (by omega), if_pos ⟨Nat.le_refl _, rfl⟩, upJ_s]
        · rw [upJ_j (by omega)]
          by_cases q3 : c ≤ c'
          · rw [if_pos ⟨by omega, rfl⟩, if_pos ⟨q3, rfl⟩]
          · rw [if_neg (by omega), if_neg (by omega)]
      · rw [if_neg (fun w => q w.2), if_neg (fun w => q w.2), upJ_j (by omega)]
theorem tell_ok {I : IT} {J : JT} {s B : Nat} {W : Nat → Nat → Nat} {r : Nat → Nat} {rule : Int32} {p a u : Nat} (h : tl_St I J s B W r rule p a u) (hd : Deal s B p a) {v : Nat} (hv : v ≤ 999) : ∃ I1 J1, f_X7_tell (nI v) I J = some (I1, J1) ∧ tl_St I1 J1 s B W r rule p a v ∧ (∀ c, c ≠ 36 → c ≠ 37 → I1 c = I c) ∧ ∀ k, k ≠ 38 → J1 k = J k := by
  obtain ⟨hI, hS, hT, hTr, hF, hO⟩ := h
  have h6 := hI.1
  obtain ⟨d1, d2, d3⟩ := hd
  unfold f_X7_tell
  rw [isSel_ok hTr (by omega) hF.2.1, Option.bind_some]
  by_cases q : p < s
  · obtain rfl := d3 q
    rw [if_pos q, if_neg (by decide), hF.2.2, if_pos (inb_nI (show p < 6 by omega) (by omega)), nI_clamp (by omega)]
    have f1 : ∀ c, c ≠ 36 → upI I 36 p (nI v) c = I c := fun c hc => upI_o hc
    have hIn : tr_In (upI I 36 p (nI v)) s B (tl_W s W p p v) (tl_r s r p p v) := by
      refine ⟨by rw [f1 3 (by decide)]; exact h6, fun l hl => ?_, fun c l hc hl => ?_⟩
      · by_cases ql : l = p
        · subst ql
          rw [upI_s, show tl_r s r l l v l = v from if_pos ⟨q, rfl⟩]
          exact ⟨rfl, hv⟩
        · rw [upI_j ql, tl_r_o ql]
          have := hI.2.1 l hl
          rw [tl_r_o ql] at this
          exact this
      · rw [f1 37 (by decide)]
        have := hI.2.2 c l hc hl
        rw [show tl_W s W p p u c l = W c l from if_neg (by omega)] at this
        rw [show tl_W s W p p v c l = W c l from if_neg (by omega)]
        exact this
    obtain ⟨J', e1, e2, e3⟩ := tell19_ok hIn d2 (by rw [f1 35 (by decide)]; exact hF.2.2) B FU 0 J (by omega) (by unfold FU; omega)
    refine ⟨_, J', by rw [← nI_0]; exact e1, ⟨hIn, fun c l hc hl => ?_, fun t ht => by rw [e2 39 (by decide)]; exact hT t ht, hTr.fr (f1 _ (by decide)) (f1 _ (by decide)) (f1 _ (by decide)), by rw [f1 35 (by decide)]; exact hF, ?_⟩, fun c c1 _ => f1 c c1, e2⟩
    · rw [e3 c l hc hl]
      by_cases ql : l = p
      · subst ql; rw [if_pos ⟨by omega, rfl⟩]
      · rw [if_neg (fun w => ql w.2), hS c l hc hl]
        unfold tr_sc
        rw [tl_r_o ql, tl_r_o ql, tl_W_o ql, tl_W_o ql]
    · rw [f1 35 (by decide)]
      rcases hO with w | ⟨l, l1, l2, l3, l4⟩
      · exact Or.inl w
      · exact Or.inr ⟨l, l1, l2, l3, fun t ht => by rw [e2 40 (by decide)]; exact l4 t ht⟩
  · obtain ⟨b, rfl⟩ : ∃ b, p = s + b := ⟨p - s, by omega⟩
    have hb : b < B := by omega
    rw [if_neg q, if_pos rfl, hF.2.1, hF.2.2, h6.1, pk_sub (by omega), Nat.add_sub_cancel_left, i6, if_pos (inb_nI (show 6 * b + a < 36 by omega) (by omega)), nI_clamp (by omega)]
    have f1 : ∀ c, c ≠ 37 → upI I 37 (6 * b + a) (nI v) c = I c := fun c hc => upI_o hc
    have hIn : tr_In (upI I 37 (6 * b + a) (nI v)) s B (tl_W s W (s + b) a v) (tl_r s r (s + b) a v) := by
      refine ⟨by rw [f1 3 (by decide)]; exact h6, fun l hl => ?_, fun c l hc hl => ?_⟩
      · rw [f1 36 (by decide), show tl_r s r (s + b) a v l = r l from if_neg (by omega)]
        have := hI.2.1 l hl
        rw [show tl_r s r (s + b) a u l = r l from if_neg (by omega)] at this
        exact this
      · by_cases qc : c = b ∧ l = a
        · obtain ⟨rfl, rfl⟩ := qc
          rw [upI_s, show tl_W s W (s + c) l v c l = v from if_pos ⟨by omega, by omega, rfl⟩]
          exact ⟨rfl, hv⟩
        · rw [upI_j (by omega), show tl_W s W (s + b) a v c l = W c l from if_neg (by omega)]
          have := hI.2.2 c l hc hl
          rw [show tl_W s W (s + b) a u c l = W c l from if_neg (by omega)] at this
          exact this
    rw [f1 35 (by decide), hF.2.2, put_ok hIn J hb d2, Option.bind_some]
    refine ⟨_, _, rfl, ⟨hIn, fun c l hc hl => ?_, fun t ht => by rw [upJ_o (by decide)]; exact hT t ht, hTr.fr (f1 _ (by decide)) (f1 _ (by decide)) (f1 _ (by decide)), by rw [f1 35 (by decide)]; exact hF, ?_⟩, fun c _ c2 => f1 c c2, fun k hk => upJ_o hk⟩
    · by_cases qc : c = b ∧ l = a
      · obtain ⟨rfl, rfl⟩ := qc
        rw [upJ_s]
      · rw [upJ_j (by omega), hS c l hc hl]
        unfold tr_sc
        rw [show tl_W s W (s + b) a v c l = W c l from if_neg (by omega), show tl_W s W (s + b) a u c l = W c l from if_neg (by omega), show tl_r s r (s + b) a v l = r l from if_neg (by omega), show tl_r s r (s + b) a u l = r l from if_neg (by omega)]
    · rw [f1 35 (by decide)]
      rcases hO with w | ⟨l, l1, l2, l3, l4⟩
      · exact Or.inl w
      · exact Or.inr ⟨l, l1, l2, l3, fun t ht => by rw [upJ_o (by decide)]; exact l4 t ht⟩
theorem tl_T {J : JT} {k s B : Nat} {W : Nat → Nat → Nat} {r : Nat → Nat} {p a v : Nat} {ls : List Nat} (h : tr_T J k B W r ls) (ha : a ∉ ls) : tr_T J k B (tl_W s W p a v) (tl_r s r p a v) ls := fun t ht => by rw [h t ht, tl_V ha]
theorem told_score {I : IT} {J : JT} {s B : Nat} {W : Nat → Nat → Nat} {r : Nat → Nat} {rule : Int32} {p a v : Nat} (h : tl_St I J s B W r rule p a v) (ha : a < s) : f_X7_scoreAsTold I J = some (eL (tr_X (tl_W s W p a v) (tl_r s r p a v) B s)) := by
  obtain ⟨hI, hS, hT, hTr, hF, hO⟩ := h
  have h6 := hI.1
  have hp := pow_B h6.2.2.2
  have ils := tr_fl_ls a 9 s
  unfold f_X7_scoreAsTold
  rw [all_ok h6.2.1 h6.2.2.2, Option.bind_some, hF.2.2, wl_39 hI hS (ls := tr_fl a 9 s) ⟨ils.1, by have := ils.2; omega⟩ (by omega) ha (fun t ht => tl_T hT (fl_nm s (by omega) a ha 9 (by omega)) t (by omega)), Option.bind_some, tr_full h6.2.2.2, tr_V_perm tr_fX0 tr_fXa _ _ h6.2.2.2 (pm_one s (by omega) a ha)]
  rfl
theorem wlt27_ok {I : IT} {J : JT} {s B : Nat} {W : Nat → Nat → Nat} {r : Nat → Nat} {ls : List Nat} (h : tr_In I s B W r) (hS : tr_Sc J s B W r) (hls : tr_ls ls s 7) {l : Nat} (hl : l < s) (hT : tr_T J 39 B W r ls) : ∀ d n j, j + d = B → d < n → f_X7_withLotTwice_39_27 n (nI l) (nI (2 ^ B - 1)) (eL (tr_top tr_fX W r (tr_S (2 ^ B - 1)) l (fun c => tr_V tr_fX W r B (l :: ls) (tr_rm (tr_S (2 ^ B - 1)) c)) j)) (nI j) I J = some (eL (tr_V tr_fX W r B (l :: l :: ls) (tr_S (2 ^ B - 1)))) := by
  intro d
  have h6 := h.1
  have hp := pow_B h6.2.2.2
  have lls : tr_ls (l :: ls) s 8 := ⟨fun x hx => by
    rcases List.mem_cons.mp hx with w | w
    · omega
    · exact hls.1 x w, by rw [List.length_cons]; have := hls.2; omega⟩
  induction d with
  | zero =>
    intro n j hj hn
    obtain ⟨n, rfl⟩ : ∃ m, n = m + 1 := ⟨n - 1, by omega⟩
    obtain rfl : j = B := by omega
    rw [f_X7_withLotTwice_39_27, h6.2.1, if_pos (nI_le (Nat.le_refl _) (by omega))]
    conv => rhs; rw [tr_V]
  | succ d ih =>
    intro n j hj hn
    obtain ⟨n, rfl⟩ : ∃ m, n = m + 1 := ⟨n - 1, by omega⟩
    have ih' := ih n (j + 1) (by omega) (by omega)
    have q : (2 ^ B - 1).testBit j = true := by
      have : ∀ B, B < 7 → ∀ j, j < B → (2 ^ B - 1).testBit j = true := by decide
      exact this B (by omega) j (by omega)
    obtain ⟨q1, q2⟩ := sub_ok (2 ^ B - 1) (by omega) j (by omega) q
    have q5 : 2 ^ B - 1 - 2 ^ j ≤ 2 ^ B - 1 := Nat.sub_le _ _
    have p := pl_bd l (by omega)
    have p2 : j * tr_pl l ≤ 6 * 16807 := Nat.mul_le_mul (by omega) p.2
    have hw := (h.2.2 j l (by omega) hl).2
    have bt := tr_top_bd (W := W) (r := r) (S := tr_S (2 ^ B - 1)) (l := l) (f := fun c => tr_V tr_fX W r B (l :: ls) (tr_rm (tr_S (2 ^ B - 1)) c)) (j := j) (by omega) (by omega) (fun c hc => (h.2.2 c l (by omega) hl).2) (fun c => h.bd lls (by omega) _)
    have bv := h.bd lls (by omega) (tr_S (2 ^ B - 1 - 2 ^ j))
    rw [f_X7_withLotTwice_39_27, h6.2.1, if_neg (by rw [nI_leI (by omega) (by omega)]; omega), q1, wl_39 h hS ⟨hls.1, by have := hls.2; omega⟩ (by omega) hl (fun t ht => hT t (by omega)), Option.bind_some, i6, if_pos (inb_nI (show 6 * j + l < 36 by omega) (by omega)), nI_clamp (by omega), hS j l (by omega) hl, Option.bind_some, nI_1, ← ih']
    congr 1
    unfold tr_sc
    rw [tr_top]
    rw [rm_S (by omega) (by omega) q]
    by_cases q3 : r l ≤ W j l
    · have bf : 0 ≤ tr_fX (W j l - r l) 1 (j * tr_pl l) + 1000000 ∧ tr_fX (W j l - r l) 1 (j * tr_pl l) ≤ 1000000000000 := by unfold tr_fX; omega
      rw [if_pos q3, eL_add]
      have ec := eL_lt (a := tr_V tr_fX W r B (l :: ls) (tr_S (2 ^ B - 1 - 2 ^ j)) + tr_fX (W j l - r l) 1 (j * tr_pl l)) (b := tr_top tr_fX W r (tr_S (2 ^ B - 1)) l (fun c => tr_V tr_fX W r B (l :: ls) (tr_rm (tr_S (2 ^ B - 1)) c)) j) (by omega) (by omega) (by omega) (by omega)
      by_cases q4 : tr_top tr_fX W r (tr_S (2 ^ B - 1)) l (fun c => tr_V tr_fX W r B (l :: ls) (tr_rm (tr_S (2 ^ B - 1)) c)) j < tr_V tr_fX W r B (l :: ls) (tr_S (2 ^ B - 1 - 2 ^ j)) + tr_fX (W j l - r l) 1 (j * tr_pl l)
      · rw [if_neg (fun w => by have := ec.mp w; omega), if_pos ⟨q, q3, q4⟩]
      · by_cases q6 : tr_V tr_fX W r B (l :: ls) (tr_S (2 ^ B - 1 - 2 ^ j)) + tr_fX (W j l - r l) 1 (j * tr_pl l) < tr_top tr_fX W r (tr_S (2 ^ B - 1)) l (fun c => tr_V tr_fX W r B (l :: ls) (tr_rm (tr_S (2 ^ B - 1)) c)) j
        · rw [if_pos (ec.mpr q6), if_neg (fun w => q4 w.2.2)]
        · rw [if_neg (fun w => q6 (ec.mp w)), if_neg (fun w => q4 w.2.2)]
          congr 1
          omega
    · rw [if_neg q3, eL_add, if_pos ((eL_lt (by omega) (by omega) (by omega) (by omega)).mpr (by omega)), if_neg (fun w => q3 w.2.1)]
theorem wlt_ok {I : IT} {J : JT} {s B : Nat} {W : Nat → Nat → Nat} {r : Nat → Nat} {ls : List Nat} (h : tr_In I s B W r) (hS : tr_Sc J s B W r) (hls : tr_ls ls s 7) {l : Nat} (hl : l < s) (hT : tr_T J 39 B W r ls) : f_X7_withLotTwice_39 (nI l) I J = some (eL (tr_V tr_fX W r B (l :: l :: ls) (tr_S (2 ^ B - 1)))) := by
  have h6 := h.1
  have hp := pow_B h6.2.2.2
  have p := pl_bd l (by omega)
  have key := wlt27_ok h hS hls hl hT B FU 0 (by omega) (by unfold FU; omega)
  rw [nI_0, tr_top, tr_rm6] at key
  unfold f_X7_withLotTwice_39
  rw [all_ok h6.2.1 h6.2.2.2, Option.bind_some, wl_39 h hS ⟨hls.1, by have := hls.2; omega⟩ (by omega) hl (fun t ht => hT t (by omega)), Option.bind_some, if_pos (inb_nI (show l < 6 by omega) (by omega)), nI_clamp (by omega), pl_nI l (by omega), show (6 : Int32) = nI 6 from rfl, pk_mul, nI_l (by omega), lN_eL, eL_sub, ← key]
  congr 2
  unfold tr_fX
  omega
