/-! span, lie, best lie -/
theorem tl_tWf {s : Nat} {W : Nat → Nat → Nat} {r : Nat → Nat} {p a : Nat} : tl_W s W p a (tl_t s W r p a) = W := by
  funext c l; exact tl_tW
theorem tl_trf {s : Nat} {W : Nat → Nat → Nat} {r : Nat → Nat} {p a : Nat} : tl_r s r p a (tl_t s W r p a) = r := by
  funext l; exact tl_tr
theorem edge_ok {I : IT} {J : JT} {s B : Nat} {W : Nat → Nat → Nat} {r : Nat → Nat} (h : tr_Tr I s B W r) {l : Nat} (hl : l < s) {rule : Int32} (hr : rule = 1 ∨ rule = 2) : ∃ I1 J1, f_X7_edgePrice (nI l) rule I J = some (tl_price rule W r B s l 0, I1, J1) ∧ (∀ c, c ≠ 35 → c ≠ 36 → c ≠ 37 → I1 c = I c) ∧ J1 47 = J 47 := by
  obtain ⟨I1, J1, a1, a2, a3, a4⟩ := open_ok (J := J) h rule l hl
  have sc := told_score a2 hl
  obtain ⟨I2, J2, b1, b2, b3, b4⟩ := price_rule a2 (l := l) (c := 0) (v2 := -1) hl hl (by rcases hr with w | w <;> simp [w])
  rw [tl_tWf, tl_trf] at sc b1
  refine ⟨I2, J2, ?_, fun c c1 c2 c3 => by rw [b3 c c1, a3 c c1 c2 c3], by rw [b4, a4]⟩
  unfold f_X7_edgePrice
  rw [a1, Option.bind_some]
  dsimp only
  rw [sc, Option.bind_some, b1, Option.bind_some]
theorem im_fr {I I1 : IT} {s B : Nat} {W : Nat → Nat → Nat} {r : Nat → Nat} (h : tr_Im I s B W r) (f : ∀ c, c ≠ 35 → c ≠ 36 → c ≠ 37 → I1 c = I c) : tr_Im I1 s B W r :=
  h.fr (by rw [f _ (by decide) (by decide) (by decide)]) (by rw [f _ (by decide) (by decide) (by decide)]) (f _ (by decide) (by decide) (by decide)) (f _ (by decide) (by decide) (by decide))
theorem rel_tl {I I1 I2 : IT} {J J1 : JT} {s b k c w z : Nat} (h : RelA I J s b k c w z) (f : ∀ c, c ≠ 35 → c ≠ 36 → c ≠ 37 → I1 c = I c) (g : tr_FM I1 I2) (hj : J1 47 = J 47) : RelA I2 J1 s b k c w z :=
  relA_fr h (fun c q1 q2 q3 q4 q5 q6 q7 => by rw [g.1 c q4 q5 q6 q7, f c q1 q2 q3]) (fun j hj => by rw [g.2 j hj, f 55 (by decide) (by decide) (by decide)]) hj
theorem relM_tl {I I1 : IT} {s b k : Nat} (h : RelM I s b k) (f : ∀ c, c ≠ 35 → c ≠ 36 → c ≠ 37 → I1 c = I c) : RelM I1 s b k := by
  have f' : ∀ c, c ≠ 35 ∧ c ≠ 36 ∧ c ≠ 37 → I1 c = I c := fun c q => f c q.1 q.2.1 q.2.2
  exact frameM h (by simp +decide [f']) (by simp +decide [f'])
theorem op_span {I : IT} {J : JT} {s b k c w z : Nat} (h : RelA I J s b k c w z) (a1 a2 : Int32) : ∃ r I1 J1 I2, f_X9_span a1 a2 I J = some (r, I1, J1) ∧ f_X10_span a1 a2 I1 = some (r, I2) ∧ RelA I2 J1 s b k c w z := by
  have hM := h.1
  have e := hM.1
  obtain ⟨h1, h2⟩ := relM_Tr hM
  unfold f_X9_span
  rw [hasLotX _ hM, Option.bind_some]
  rcases good_or a1 (n := s) (by omega) with q | ⟨l, hl, rfl⟩
  · refine ⟨-1000001, I, J, I, by rw [b2_bad q, if_pos rfl], ?_, h⟩
    unfold f_X10_span
    rw [isLotM _ hM, Option.bind_some, b2_bad q, if_pos rfl]
  · rw [b2_nI hl (by omega), if_neg (by decide), isW, Option.bind_some]
    by_cases q : 0 ≤ a2 ∧ a2 ≤ 1
    · rw [show b2 (0 ≤ a2 ∧ a2 ≤ 1) = 1 from if_pos q, if_neg (by decide)]
      have ref : ∀ I1 : IT, RelM I1 s b k → f_X10_span (nI l) a2 I1 = (f_X10_spanOf (nI l) a2 I1).bind fun r25 => some (r25.1, r25.2) := by
        intro I1 hM1
        unfold f_X10_span
        rw [isLotM _ hM1, Option.bind_some, b2_nI hl (by omega), if_neg (by decide), in32 (lo := 0) (lo' := 0) (hi := 1) (hi' := 1) (by decide) (by decide), Option.bind_some, show b2 (0 ≤ a2 ∧ a2 ≤ 1) = 1 from if_pos q, if_neg (by decide)]
      obtain ⟨v, hv, rfl⟩ := rng_nI 1 (by omega) q
      by_cases v0 : v = 0
      · subst v0
        obtain ⟨I1, J1, x1, x2, x3⟩ := edge_ok (J := J) h1 hl (rule := 1) (Or.inl rfl)
        obtain ⟨I2, y1, y2⟩ := span_ref (im_fr h2 x2) hl (w := 0) (Or.inl rfl) 0
        rw [if_pos nI_0, x1, Option.bind_some]
        refine ⟨_, I1, J1, I2, rfl, ?_, rel_tl h x2 y2 x3⟩
        rw [ref I1 (relM_tl hM x2), y1]
        rfl
      · obtain rfl : v = 1 := by omega
        obtain ⟨I1, J1, x1, x2, x3⟩ := edge_ok (J := J) h1 hl (rule := 2) (Or.inr rfl)
        obtain ⟨I2, y1, y2⟩ := span_ref (im_fr h2 x2) hl (w := 1) (Or.inr rfl) 0
        rw [if_neg (by decide), x1, Option.bind_some]
        refine ⟨_, I1, J1, I2, rfl, ?_, rel_tl h x2 y2 x3⟩
        rw [ref I1 (relM_tl hM x2), y1]
        rfl
    · rw [show b2 (0 ≤ a2 ∧ a2 ≤ 1) = 0 from if_neg q, if_pos rfl]
      refine ⟨-1000002, I, J, I, rfl, ?_, h⟩
      unfold f_X10_span
      rw [isLotM _ hM, Option.bind_some, b2_nI hl (by omega), if_neg (by decide), in32 (lo := 0) (lo' := 0) (hi := 1) (hi' := 1) (by decide) (by decide), Option.bind_some, show b2 (0 ≤ a2 ∧ a2 ≤ 1) = 0 from if_neg q, if_pos rfl]
theorem rule_ok {a : Int32} (h : 0 ≤ a ∧ a ≤ 2) : a = 0 ∨ a = 1 ∨ a = 2 := by
  obtain ⟨v, hv, rfl⟩ := rng_nI 2 (by omega) h
  have : v = 0 ∨ v = 1 ∨ v = 2 := by omega
  rcases this with rfl | rfl | rfl
  · exact Or.inl rfl
  · exact Or.inr (Or.inl rfl)
  · exact Or.inr (Or.inr rfl)
theorem isRule_ok (a : Int32) : f_X10_isRule a = some (b2 (0 ≤ a ∧ a ≤ 2)) := by
  unfold f_X10_isRule
  rw [in32 (lo := 0) (lo' := 0) (hi := 2) (hi' := 2) (by decide) (by decide), Option.bind_some]
  unfold b2
  split <;> rfl
theorem own_ref {I : IT} {s B : Nat} {W : Nat → Nat → Nat} {r : Nat → Nat} (h : tr_Im I s B W r) {p a : Nat} (hd : Deal s B p a) : (p < s → inbB (nI a) 6 = true ∧ I 56 (nI a).toNatClampNeg = nI (tl_t s W r p a)) ∧ (¬ p < s → inbB ((6 * (nI p - I 55 0)) + nI a) 36 = true ∧ I 58 ((6 * (nI p - I 55 0)) + nI a).toNatClampNeg = nI (tl_t s W r p a)) := by
  have h6 := h.1
  obtain ⟨d1, d2, d3⟩ := hd
  unfold tl_t
  refine ⟨fun q => ?_, fun q => ?_⟩
  · rw [if_pos q, nI_clamp (by omega)]
    exact ⟨inb_nI (by omega) (by omega), (h.2.1 a d2).1⟩
  · rw [if_neg q, h6.1, pk_sub (by omega), i6', nI_clamp (by omega)]
    exact ⟨inb_nI (by omega) (by omega), (h.2.2 (p - s) a (by omega) d2).1⟩
theorem lieOf_ok {I : IT} {s B : Nat} {W : Nat → Nat → Nat} {r : Nat → Nat} (h : tr_Im I s B W r) {p a : Nat} (hd : Deal s B p a) {rule : Int32} (hr : rule = 0 ∨ rule = 1 ∨ rule = 2) {v : Nat} (hv : v ≤ 999) (ht : tl_t s W r p a ≤ 999) : ∃ I', f_X10_lieOf rule (nI p) (nI a) (nI v) I = some (tl_G rule s B W r p a v - tl_G rule s B W r p a (tl_t s W r p a), I') ∧ tr_FM I I' := by
  obtain ⟨o1, o2⟩ := own_ref h hd
  obtain ⟨I1, a1, a2⟩ := gainBy_ok h hd hr hv
  obtain ⟨I2, b1, b2⟩ := gainBy_ok (a2.im h) hd hr ht
  refine ⟨I2, ?_, a2.tr b2⟩
  unfold f_X10_lieOf
  rw [srt_ref h hd.1, Option.bind_some]
  by_cases q : p < s
  · obtain ⟨k1, k2⟩ := o1 q
    rw [if_pos q, if_pos rfl, if_pos k1, k2, a1, Option.bind_some]
    dsimp only
    rw [b1, Option.bind_some]
  · obtain ⟨k1, k2⟩ := o2 q
    rw [if_neg q, if_neg (by decide), if_pos k1, k2, a1, Option.bind_some]
    dsimp only
    rw [b1, Option.bind_some]
theorem op_lie {I : IT} {J : JT} {s b k c w z : Nat} (h : RelA I J s b k c w z) (a1 a2 a3 a4 : Int32) : ∃ r I1 J1 I2, f_X9_lie a1 a2 a3 a4 I J = some (r, I1, J1) ∧ f_X10_lie a1 a2 a3 a4 I1 = some (r, I2) ∧ RelA I2 J1 s b k c w z := by
  have hM := h.1
  have e := hM.1
  obtain ⟨h1, h2⟩ := relM_Tr hM
  unfold f_X9_lie
  rcases dealsX hM a2 a3 with ⟨q, hn⟩ | ⟨p, l, hd, rfl, rfl, q⟩
  · refine ⟨-1000001, I, J, I, by rw [q, Option.bind_some, if_pos rfl], ?_, h⟩
    unfold f_X10_lie
    rw [aboutM0 hM hn, Option.bind_some, if_pos rfl]
  · rw [q, Option.bind_some, if_neg (by decide), isW, Option.bind_some]
    by_cases q1 : 0 ≤ a1 ∧ a1 ≤ 2
    · rw [show b2 (0 ≤ a1 ∧ a1 ≤ 2) = 1 from if_pos q1, if_neg (by decide), isW, Option.bind_some]
      by_cases q2 : 0 ≤ a4 ∧ a4 ≤ 999
      · rw [show b2 (0 ≤ a4 ∧ a4 ≤ 999) = 1 from if_pos q2, if_neg (by decide)]
        obtain ⟨v, hv, ev⟩ := rng_nI 999 (by omega) q2
        have hr := rule_ok q1
        obtain ⟨I1, J1, x1, x2, x3, x4⟩ := open_ok (J := J) h1 a1 p hd.2.1
        obtain ⟨I2, J2, y1, y2, y3, y4⟩ := gains_ok x2 hd hr hv
        obtain ⟨t1, t2⟩ := truth_ok y2 hd
        obtain ⟨I3, J3, z1, z2, z3, z4⟩ := gains_ok y2 hd hr t2
        have fr : ∀ c, c ≠ 35 → c ≠ 36 → c ≠ 37 → I3 c = I c := fun c c1 c2 c3 => by rw [z3 c c1 c2 c3, y3 c c1 c2 c3, x3 c c1 c2 c3]
        obtain ⟨I4, u1, u2⟩ := lieOf_ok (im_fr h2 fr) hd hr hv t2
        refine ⟨tl_G a1 s b (xW I) (xr I) p l v - tl_G a1 s b (xW I) (xr I) p l (tl_t s (xW I) (xr I) p l), I3, J3, I4, ?_, ?_, rel_tl h fr u2 (by rw [z4, y4, x4])⟩
        · rw [x1, Option.bind_some]
          dsimp only
          rw [ev, y1, Option.bind_some]
          dsimp only
          rw [t1, Option.bind_some, z1, Option.bind_some]
        · unfold f_X10_lie
          rw [aboutM (relM_tl hM fr) hd, Option.bind_some, if_neg (by decide), isRule_ok, Option.bind_some, show b2 (0 ≤ a1 ∧ a1 ≤ 2) = 1 from if_pos q1, if_neg (by decide), in32 (lo := 0) (lo' := 0) (hi := 999) (hi' := 999) (by decide) (by decide), Option.bind_some, show b2 (0 ≤ a4 ∧ a4 ≤ 999) = 1 from if_pos q2, if_neg (by decide), ev, u1, Option.bind_some]
      · rw [show b2 (0 ≤ a4 ∧ a4 ≤ 999) = 0 from if_neg q2, if_pos rfl]
        refine ⟨-1000002, I, J, I, rfl, ?_, h⟩
        unfold f_X10_lie
        rw [aboutM hM hd, Option.bind_some, if_neg (by decide), isRule_ok, Option.bind_some, show b2 (0 ≤ a1 ∧ a1 ≤ 2) = 1 from if_pos q1, if_neg (by decide), in32 (lo := 0) (lo' := 0) (hi := 999) (hi' := 999) (by decide) (by decide), Option.bind_some, show b2 (0 ≤ a4 ∧ a4 ≤ 999) = 0 from if_neg q2, if_pos rfl]
    · rw [show b2 (0 ≤ a1 ∧ a1 ≤ 2) = 0 from if_neg q1, if_pos rfl]
      refine ⟨-1000002, I, J, I, rfl, ?_, h⟩
      unfold f_X10_lie
      rw [aboutM hM hd, Option.bind_some, if_neg (by decide), isRule_ok, Option.bind_some, show b2 (0 ≤ a1 ∧ a1 ≤ 2) = 0 from if_neg q1, if_pos rfl]
/-! best lie -/
theorem eI_sub (a b : Int) : eI a - eI b = eI (a - b) := (Int32.ofInt_sub a b).symm
theorem tl_W_bd {s B : Nat} {W : Nat → Nat → Nat} (hW : tr_bd W B s) (p a : Nat) {v : Nat} (hv : v ≤ 999) : tr_bd (tl_W s W p a v) B s := fun c l hc hl => by
  unfold tl_W
  split
  · exact hv
  · exact hW c l hc hl
theorem tl_price_bd {rule : Int32} {s B : Nat} {W : Nat → Nat → Nat} {r : Nat → Nat} (hB : B ≤ 6) (hs : s ≤ 6) (hW : tr_bd W B s) {l c : Nat} (hl : l < s) (hr : r l ≤ 999) (hc : W c l ≤ 999) : ∃ y : Int, -50000 ≤ y ∧ y ≤ 50000 ∧ tl_price rule W r B s l c = eI y := by
  have g1 := gn_bd (r := r) hB hW (ls := tr_gl 9 s ++ [l]) (pm_s2 s (by omega) l hl).2
  have g2 := gn_bd (r := r) hB hW (ls := tr_gl 9 s) (pm_s1 s (by omega) 9 (by omega)).2
  have g3 := gn_bd (r := r) hB hW (ls := tr_gl l s) (pm_s1 s (by omega) l (by omega)).2
  unfold tl_price
  split
  · exact ⟨(r l : Int) + tr_gn W r B (tr_gl 9 s ++ [l]) - tr_gn W r B (tr_gl 9 s), by omega, by omega, by rw [nI_eI, nI_eI, nI_eI, eI_add, eI_sub]⟩
  · split
    · exact ⟨(r l : Int) + tr_gn W r B (tr_gl 9 s) - tr_gn W r B (tr_gl l s), by omega, by omega, by rw [nI_eI, nI_eI, nI_eI, eI_add, eI_sub]⟩
    · exact ⟨((W c l + r l) / 2 : Nat), by omega, by omega, by rw [nI_eI]⟩
theorem tl_G_bd {rule : Int32} {s B : Nat} {W : Nat → Nat → Nat} {r : Nat → Nat} (hB : B ≤ 6) (hs : s ≤ 6) (hW : tr_bd W B s) (hr : ∀ l, l < s → r l ≤ 999) {p a : Nat} (hd : Deal s B p a) {v : Nat} (hv : v ≤ 999) : ∃ y : Int, -60000 ≤ y ∧ y ≤ 60000 ∧ tl_G rule s B W r p a v = eI y := by
  obtain ⟨d1, d2, d3⟩ := hd
  have hW' := tl_W_bd hW p a hv
  have hr' : ∀ l, l < s → tl_r s r p a v l ≤ 999 := fun l hl => by
    unfold tl_r
    split
    · exact hv
    · exact hr l hl
  obtain ⟨t1, t2⟩ := tr_d_ok (r := tl_r s r p a v) hB hs hW'
  unfold tl_G
  split
  · split
    · exact ⟨0, by omega, by omega, rfl⟩
    · rename_i q q2
      have hlt : tr_d (tl_W s W p a v) (tl_r s r p a v) B s a < B := by rcases t1 a d2 with w | w <;> omega
      obtain ⟨y, y1, y2, y3⟩ := tl_price_bd (rule := rule) hB hs hW' (l := a) (c := tr_d (tl_W s W p a v) (tl_r s r p a v) B s a) d2 (hr' a d2) (hW' _ a hlt d2)
      have := hr a d2
      exact ⟨y - r a, by omega, by omega, by rw [y3, nI_eI, eI_sub]⟩
  · split
    · exact ⟨0, by omega, by omega, rfl⟩
    · rename_i q q2
      rcases tl_bt_ok (D := tr_d (tl_W s W p a v) (tl_r s r p a v) B s) (c := p - s) s with ⟨k1, k2⟩ | ⟨k1, k2⟩
      · obtain ⟨m, hm⟩ : ∃ m, m = tl_bt (tr_d (tl_W s W p a v) (tl_r s r p a v) B s) (p - s) s := ⟨_, rfl⟩
        rw [← hm] at k1 ⊢
        obtain ⟨y, y1, y2, y3⟩ := tl_price_bd (rule := rule) hB hs hW' (l := m) (c := p - s) k1 (hr' m k1) (hW' _ m (by omega) k1)
        have := hW (p - s) m (by omega) k1
        exact ⟨W (p - s) m - y, by omega, by omega, by rw [y3, nI_eI, eI_sub]⟩
      · exact absurd k1 q2
def tl_bl (G : Nat → Int32) : Nat → Nat
  | 0 => 0
  | i + 1 => if G (i + 1) ≤ G (tl_bl G i) then tl_bl G i else i + 1
theorem tl_bl_le (G : Nat → Int32) : ∀ i, tl_bl G i ≤ i := by
  intro i
  induction i with
  | zero => exact Nat.le_refl _
  | succ i ih => rw [tl_bl]; split <;> omega
theorem bl63_ok {s B : Nat} {W : Nat → Nat → Nat} {r : Nat → Nat} {rule : Int32} {p a : Nat} (hd : Deal s B p a) (hr : rule = 0 ∨ rule = 1 ∨ rule = 2) (v4 : Int32) : ∀ d n i I J u, i + d = 999 → d < n → tl_St I J s B W r rule p a u → ∃ I' J', f_X9_bestLie_63 n v4 (nI (tl_bl (tl_G rule s B W r p a) i)) (tl_G rule s B W r p a (tl_bl (tl_G rule s B W r p a) i)) (nI (i + 1)) I J = some (if v4 = 0 then nI (tl_bl (tl_G rule s B W r p a) 999) else tl_G rule s B W r p a (tl_bl (tl_G rule s B W r p a) 999) - tl_G rule s B W r p a (tl_t s W r p a), I', J') ∧ (∀ c, c ≠ 35 → c ≠ 36 → c ≠ 37 → I' c = I c) ∧ J' 47 = J 47 := by
  intro d
  induction d with
  | zero =>
    intro n i I J u hi hn h
    obtain ⟨n, rfl⟩ : ∃ m, n = m + 1 := ⟨n - 1, by omega⟩
    obtain rfl : i = 999 := by omega
    rw [f_X9_bestLie_63, if_pos (by decide)]
    by_cases q : v4 = 0
    · rw [if_pos q, if_pos q]
      exact ⟨I, J, rfl, fun _ _ _ _ => rfl, rfl⟩
    · obtain ⟨t1, t2⟩ := truth_ok h hd
      obtain ⟨I3, J3, z1, z2, z3, z4⟩ := gains_ok h hd hr t2
      rw [if_neg q, if_neg q, t1, Option.bind_some, z1, Option.bind_some]
      exact ⟨I3, J3, rfl, z3, z4⟩
  | succ d ih =>
    intro n i I J u hi hn h
    obtain ⟨n, rfl⟩ : ∃ m, n = m + 1 := ⟨n - 1, by omega⟩
    obtain ⟨I3, J3, z1, z2, z3, z4⟩ := gains_ok h hd hr (show i + 1 ≤ 999 by omega)
    obtain ⟨I', J', e1, e2, e3⟩ := ih n (i + 1) I3 J3 _ (by omega) (by omega) z2
    refine ⟨I', J', ?_, fun c c1 c2 c3 => by rw [e2 c c1 c2 c3, z3 c c1 c2 c3], by rw [e3, z4]⟩
    rw [f_X9_bestLie_63, if_neg (by rw [show (999 : Int32) = nI 999 from rfl, nI_ltI (by omega) (by omega)]; omega), z1, Option.bind_some]
    dsimp only
    rw [nI_1, ← e1]
    by_cases q : tl_G rule s B W r p a (i + 1) ≤ tl_G rule s B W r p a (tl_bl (tl_G rule s B W r p a) i)
    · rw [if_pos q, show tl_bl (tl_G rule s B W r p a) (i + 1) = tl_bl (tl_G rule s B W r p a) i from by rw [tl_bl, if_pos q]]
    · rw [if_neg q, show tl_bl (tl_G rule s B W r p a) (i + 1) = i + 1 from by rw [tl_bl, if_neg q]]
theorem bl99_ok {s B : Nat} {W : Nat → Nat → Nat} {r : Nat → Nat} {rule : Int32} {p a : Nat} (hd : Deal s B p a) (hr : rule = 0 ∨ rule = 1 ∨ rule = 2) (v4 : Int32) (ht : tl_t s W r p a ≤ 999) : ∀ d n i I, i + d = 999 → d < n → tr_Im I s B W r → ∃ I', f_X10_bestLie_99 n rule (nI p) (nI a) v4 (tl_G rule s B W r p a (tl_t s W r p a)) (nI (tl_bl (tl_G rule s B W r p a) i)) (tl_G rule s B W r p a (tl_bl (tl_G rule s B W r p a) i) - tl_G rule s B W r p a (tl_t s W r p a)) (nI (i + 1)) I = some (if v4 = 0 then nI (tl_bl (tl_G rule s B W r p a) 999) else tl_G rule s B W r p a (tl_bl (tl_G rule s B W r p a) 999) - tl_G rule s B W r p a (tl_t s W r p a), I') ∧ tr_FM I I' := by
  intro d
  induction d with
  | zero =>
    intro n i I hi hn h
    obtain ⟨n, rfl⟩ : ∃ m, n = m + 1 := ⟨n - 1, by omega⟩
    obtain rfl : i = 999 := by omega
    rw [f_X10_bestLie_99, if_pos (by decide)]
    refine ⟨I, ?_, tr_FM.rf I⟩
    by_cases q : v4 = 0
    · rw [if_pos q, if_pos q]
    · rw [if_neg q, if_neg q]
  | succ d ih =>
    intro n i I hi hn h
    obtain ⟨n, rfl⟩ : ∃ m, n = m + 1 := ⟨n - 1, by omega⟩
    have h6 := h.1
    obtain ⟨I1, z1, z2⟩ := gainBy_ok h hd hr (show i + 1 ≤ 999 by omega)
    obtain ⟨I', e1, e2⟩ := ih n (i + 1) I1 (by omega) (by omega) (z2.im h)
    refine ⟨I', ?_, z2.tr e2⟩
    have hle := tl_bl_le (tl_G rule s B W r p a) i
    have hrl : ∀ l, l < s → r l ≤ 999 := fun l hl => (h.2.1 l hl).2
    obtain ⟨x, x1, x2, x3⟩ := tl_G_bd (rule := rule) h6.2.2.2 h6.2.2.1 h.wb hrl hd (show i + 1 ≤ 999 by omega)
    obtain ⟨y, y1, y2, y3⟩ := tl_G_bd (rule := rule) h6.2.2.2 h6.2.2.1 h.wb hrl hd (show tl_bl (tl_G rule s B W r p a) i ≤ 999 by omega)
    obtain ⟨t, t1, t2, t3⟩ := tl_G_bd (rule := rule) h6.2.2.2 h6.2.2.1 h.wb hrl hd ht
    have key : tl_G rule s B W r p a (i + 1) - tl_G rule s B W r p a (tl_t s W r p a) ≤ tl_G rule s B W r p a (tl_bl (tl_G rule s B W r p a) i) - tl_G rule s B W r p a (tl_t s W r p a) ↔ tl_G rule s B W r p a (i + 1) ≤ tl_G rule s B W r p a (tl_bl (tl_G rule s B W r p a) i) := by
      rw [x3, y3, t3, eI_sub, eI_sub, eI_le (by omega) (by omega) (by omega) (by omega), eI_le (by omega) (by omega) (by omega) (by omega)]
      omega
    rw [f_X10_bestLie_99, if_neg (by rw [show (999 : Int32) = nI 999 from rfl, nI_ltI (by omega) (by omega)]; omega), z1, Option.bind_some]
    dsimp only
    rw [nI_1, ← e1]
    by_cases q : tl_G rule s B W r p a (i + 1) ≤ tl_G rule s B W r p a (tl_bl (tl_G rule s B W r p a) i)
    · rw [if_pos (key.mpr q), if_pos (key.mpr q), show tl_bl (tl_G rule s B W r p a) (i + 1) = tl_bl (tl_G rule s B W r p a) i from by rw [tl_bl, if_pos q]]
    · rw [if_neg (fun w => q (key.mp w)), if_neg (fun w => q (key.mp w)), show tl_bl (tl_G rule s B W r p a) (i + 1) = i + 1 from by rw [tl_bl, if_neg q]]
theorem op_bestLie {I : IT} {J : JT} {s b k c w z : Nat} (h : RelA I J s b k c w z) (a1 a2 a3 a4 : Int32) : ∃ r I1 J1 I2, f_X9_bestLie a1 a2 a3 a4 I J = some (r, I1, J1) ∧ f_X10_bestLie a1 a2 a3 a4 I1 = some (r, I2) ∧ RelA I2 J1 s b k c w z := by
  have hM := h.1
  have e := hM.1
  obtain ⟨h1, h2⟩ := relM_Tr hM
  unfold f_X9_bestLie
  rcases dealsX hM a2 a3 with ⟨q, hn⟩ | ⟨p, l, hd, rfl, rfl, q⟩
  · refine ⟨-1000001, I, J, I, by rw [q, Option.bind_some, if_pos rfl], ?_, h⟩
    unfold f_X10_bestLie
    rw [aboutM0 hM hn, Option.bind_some, if_pos rfl]
  · rw [q, Option.bind_some, if_neg (by decide), isW, Option.bind_some]
    by_cases q1 : 0 ≤ a1 ∧ a1 ≤ 2
    · rw [show b2 (0 ≤ a1 ∧ a1 ≤ 2) = 1 from if_pos q1, if_neg (by decide), isW, Option.bind_some]
      by_cases q2 : 0 ≤ a4 ∧ a4 ≤ 1
      · rw [show b2 (0 ≤ a4 ∧ a4 ≤ 1) = 1 from if_pos q2, if_neg (by decide)]
        have hr := rule_ok q1
        obtain ⟨I1, J1, x1, x2, x3, x4⟩ := open_ok (J := J) h1 a1 p hd.2.1
        obtain ⟨I2, J2, y1, y2, y3, y4⟩ := gains_ok x2 hd hr (show 0 ≤ 999 by omega)
        obtain ⟨t1, t2⟩ := truth_ok y2 hd
        obtain ⟨I3, J3, z1, z3, z4⟩ := bl63_ok hd hr a4 999 FU 0 I2 J2 _ (by omega) (by unfold FU; omega) y2
        have fr : ∀ c, c ≠ 35 → c ≠ 36 → c ≠ 37 → I3 c = I c := fun c c1 c2 c3 => by rw [z3 c c1 c2 c3, y3 c c1 c2 c3, x3 c c1 c2 c3]
        have i3 := im_fr h2 fr
        obtain ⟨I4, u1, u2⟩ := gainBy_ok i3 hd hr t2
        obtain ⟨I5, v1, v2⟩ := gainBy_ok (u2.im i3) hd hr (show 0 ≤ 999 by omega)
        obtain ⟨I6, w1, w2⟩ := bl99_ok hd hr a4 t2 999 FU 0 I5 (by omega) (by unfold FU; omega) (v2.im (u2.im i3))
        rw [tl_bl, nI_0] at z1 w1
        rw [nI_0] at y1 v1
        rw [show nI (0 + 1) = 1 from rfl] at z1 w1
        refine ⟨if a4 = 0 then nI (tl_bl (tl_G a1 s b (xW I) (xr I) p l) 999) else tl_G a1 s b (xW I) (xr I) p l (tl_bl (tl_G a1 s b (xW I) (xr I) p l) 999) - tl_G a1 s b (xW I) (xr I) p l (tl_t s (xW I) (xr I) p l), I3, J3, I6, ?_, ?_, rel_tl h fr ((u2.tr v2).tr w2) (by rw [z4, y4, x4])⟩
        · rw [x1, Option.bind_some]
          dsimp only
          rw [y1, Option.bind_some]
          dsimp only
          rw [z1]
        · obtain ⟨o1, o2⟩ := own_ref i3 hd
          unfold f_X10_bestLie
          rw [aboutM (relM_tl hM fr) hd, Option.bind_some, if_neg (by decide), isRule_ok, Option.bind_some, show b2 (0 ≤ a1 ∧ a1 ≤ 2) = 1 from if_pos q1, if_neg (by decide), in32 (lo := 0) (lo' := 0) (hi := 1) (hi' := 1) (by decide) (by decide), Option.bind_some, show b2 (0 ≤ a4 ∧ a4 ≤ 1) = 1 from if_pos q2, if_neg (by decide), srt_ref i3 hd.1, Option.bind_some]
          by_cases qs : p < s
          · obtain ⟨k1, k2⟩ := o1 qs
            rw [if_pos qs, if_pos rfl, if_pos k1, k2, u1, Option.bind_some]
            dsimp only
            rw [v1, Option.bind_some]
            dsimp only
            rw [w1]
          · obtain ⟨k1, k2⟩ := o2 qs
            rw [if_neg qs, if_neg (by decide), if_pos k1, k2, u1, Option.bind_some]
            dsimp only
            rw [v1, Option.bind_some]
            dsimp only
            rw [w1]
      · rw [show b2 (0 ≤ a4 ∧ a4 ≤ 1) = 0 from if_neg q2, if_pos rfl]
        refine ⟨-1000002, I, J, I, rfl, ?_, h⟩
        unfold f_X10_bestLie
        rw [aboutM hM hd, Option.bind_some, if_neg (by decide), isRule_ok, Option.bind_some, show b2 (0 ≤ a1 ∧ a1 ≤ 2) = 1 from if_pos q1, if_neg (by decide), in32 (lo := 0) (lo' := 0) (hi := 1) (hi' := 1) (by decide) (by decide), Option.bind_some, show b2 (0 ≤ a4 ∧ a4 ≤ 1) = 0 from if_neg q2, if_pos rfl]
    · rw [show b2 (0 ≤ a1 ∧ a1 ≤ 2) = 0 from if_neg q1, if_pos rfl]
      refine ⟨-1000002, I, J, I, rfl, ?_, h⟩
      unfold f_X10_bestLie
      rw [aboutM hM hd, Option.bind_some, if_neg (by decide), isRule_ok, Option.bind_some, show b2 (0 ≤ a1 ∧ a1 ≤ 2) = 0 from if_neg q1, if_pos rfl]
