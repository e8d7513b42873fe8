/-! who buys what at best: the order's figures, and the reference's first choices -/
def tr_X (W : Nat → Nat → Nat) (r : Nat → Nat) (B s : Nat) : Int := tr_V tr_fX W r B (List.range s) (tr_U 0)
def tr_ord (x : Int) : Nat := ((x + 235297) / 235298 * 235298 - x).toNat
def tr_d (W : Nat → Nat → Nat) (r : Nat → Nat) (B s l : Nat) : Nat := tr_ord (tr_X W r B s) / tr_pl l % 7
def tr_dig (c : Nat) : Int32 := if c = 6 then -1 else nI c
def tr_bd (W : Nat → Nat → Nat) (B s : Nat) : Prop := ∀ c l, c < B → l < s → W c l ≤ 999
theorem tr_ordE (k o : Nat) (h : o < 235298) : tr_ord ((k : Int) * 235298 - o) = o := by unfold tr_ord; omega
theorem tr_best {W : Nat → Nat → Nat} {r : Nat → Nat} {B s : Nat} (hB : B ≤ 6) (hs : s ≤ 6) (hW : tr_bd W B s) : ∃ g n, tr_O W r B (List.range s) (tr_U 0) g n (tr_ord (tr_X W r B s)) := by
  obtain ⟨g, n, o, k1, k2, k3, k4, k5, k6, k7⟩ := tr_both hB (ls := List.range s) (W := W) (r := r) (tr_U 0) (fun l hl c hc => hW c l hc (List.mem_range.mp hl)) (by rw [List.length_range]; omega) ((by decide : ∀ s, s < 7 → 6 * tr_sum (List.range s) < 235298) s (by omega))
  have e : tr_ord (tr_X W r B s) = o := by
    unfold tr_X
    rw [k3, show (8 * (g : Int) + n) = ((8 * g + n : Nat) : Int) by omega, tr_ordE _ _ k6]
  exact ⟨g, n, by rw [e]; exact ⟨k1, k2.symm, k7⟩⟩
theorem tr_tail : ∀ l, l < 6 → ∀ d, d < 6 → l + 1 + d ≤ 6 → 6 * tr_sum (List.range' (l + 1) d) < tr_pl l := by decide
theorem tr_hp {W : Nat → Nat → Nat} {r : Nat → Nat} {B s l d : Nat} (hB : B ≤ 6) (hs : s ≤ 6) (hl : l + 1 + d = s) (hW : tr_bd W B s) : ∀ S g n o, tr_R W r B (List.range' (l + 1) d) S g n o → o < tr_pl l := by
  intro S g n o h
  have b := tr_R_bd hB _ _ _ _ _ h (fun l' hl' c hc => hW c l' hc (by rw [List.mem_range'_1] at hl'; omega))
  have := tr_tail l (by omega) d (by omega) (by omega)
  omega
theorem tr_plk : ∀ j, j < 6 → ∀ l, l < j → tr_pl l = tr_pl j * (7 * 7 ^ (j - l - 1)) := by decide
theorem tr_dig_lo {c l j o : Nat} (hj : j < 6) (hl : l < j) : (c * tr_pl l + o) / tr_pl j % 7 = o / tr_pl j % 7 := by
  have p := (pl_bd j hj).1
  rw [tr_plk j hj l hl, show c * (tr_pl j * (7 * 7 ^ (j - l - 1))) = tr_pl j * (7 * (c * 7 ^ (j - l - 1))) from by
    rw [Nat.mul_left_comm, Nat.mul_left_comm c 7], Nat.mul_add_div p, Nat.mul_add_mod]
theorem tr_dig_hi {c l o : Nat} (hc : c ≤ 6) (ho : o < tr_pl l) : (c * tr_pl l + o) / tr_pl l % 7 = c := by
  rw [Nat.mul_comm, Nat.mul_add_div (by omega), Nat.div_eq_of_lt ho, Nat.add_zero, Nat.mod_eq_of_lt (by omega)]
/-- no buyer buys two lots, and who buys may -/
theorem tr_dd {W : Nat → Nat → Nat} {r : Nat → Nat} {B s : Nat} (hB : B ≤ 6) (hs : s ≤ 6) (hW : tr_bd W B s) : ∀ d l S g n o, l + d = s → tr_O W r B (List.range' l d) S g n o → (∀ j, l ≤ j → j < s → tr_ok W r B S (o / tr_pl j % 7) j) ∧ ∀ j k, l ≤ j → j < k → k < s → o / tr_pl j % 7 = o / tr_pl k % 7 → o / tr_pl k % 7 = 6 := by
  intro d
  induction d with
  | zero => intro l S g n o hl h; exact ⟨fun j h1 h2 => by omega, fun j k h1 h2 h3 => by omega⟩
  | succ d ih =>
    intro l S g n o hl h
    rw [List.range'_succ] at h
    obtain ⟨c, g', n', o', rfl, e2, e3, e4, e5, e6⟩ := tr_step hB (tr_hp hB hs (by omega) hW) h
    obtain ⟨a1, a2⟩ := ih (l + 1) _ _ _ _ (by omega) e4
    have hc : c ≤ 6 := by rcases e3 with e3 | ⟨e3, -⟩ <;> omega
    have d0 := tr_dig_hi hc e2
    have d1 : ∀ j, l < j → j < s → (c * tr_pl l + o') / tr_pl j % 7 = o' / tr_pl j % 7 := fun j h1 h2 => tr_dig_lo (by omega) h1
    refine ⟨fun j h1 h2 => ?_, fun j k h1 h2 h3 h4 => ?_⟩
    · by_cases q : j = l
      · subst q; rw [d0]; exact e3
      · rw [d1 j (by omega) h2]
        rcases a1 j (by omega) h2 with w | ⟨w1, w2, w3⟩
        · exact Or.inl w
        · exact Or.inr ⟨w1, (tr_rm_t.mp w2).1, w3⟩
    · rw [d1 k (by omega) h3] at h4 ⊢
      by_cases q : j = l
      · subst q
        rw [d0] at h4
        rcases a1 k (by omega) h3 with w | ⟨w1, w2, w3⟩
        · exact w
        · exact absurd ⟨h4.symm, by omega⟩ (tr_rm_t.mp w2).2
      · rw [d1 j (by omega) (by omega)] at h4
        exact a2 j k (by omega) h2 h3 h4
theorem tr_d_ok {W : Nat → Nat → Nat} {r : Nat → Nat} {B s : Nat} (hB : B ≤ 6) (hs : s ≤ 6) (hW : tr_bd W B s) : (∀ j, j < s → tr_d W r B s j = 6 ∨ tr_d W r B s j < B) ∧ ∀ j k, j < s → k < s → tr_d W r B s j = tr_d W r B s k → tr_d W r B s k ≠ 6 → j = k := by
  obtain ⟨g, n, h⟩ := tr_best (r := r) hB hs hW
  rw [List.range_eq_range'] at h
  obtain ⟨a1, a2⟩ := tr_dd hB hs hW s 0 _ _ _ _ (by omega) h
  refine ⟨fun j hj => ?_, fun j k hj hk h1 h2 => ?_⟩
  · rcases a1 j (by omega) hj with w | ⟨w1, -⟩
    · exact Or.inl w
    · exact Or.inr w1
  · rcases Nat.lt_trichotomy j k with q | q | q
    · exact absurd (a2 j k (by omega) q hk h1) h2
    · exact q
    · have := a2 k j (by omega) q hj h1.symm
      exact absurd (h1 ▸ this) h2
theorem fb34_ok {s B : Nat} {W : Nat → Nat → Nat} {r : Nat → Nat} {m i l : Nat} {ls : List Nat} (hi : i < 6) {t : Nat} (ht : t < 64) : ∀ e n I, e ≤ B → e < n → tr_Rw I s B W r m i l ls → I 74 (64 * i + t) = eI (tr_V tr_fM W r B (l :: ls) (tr_U t)) → ∃ I', f_X10_findBest_34 n (nI t) (nI i) (nI e - 1) I = some I' ∧ (∀ c, c ≠ 75 → I' c = I c) ∧ (∀ j, j ≠ i → I' 75 j = I 75 j) ∧ ((∃ d, d < e ∧ tr_eq W r B ls (tr_U t) l d ∧ (∀ d', d' < d → ¬ tr_eq W r B ls (tr_U t) l d') ∧ I' 75 i = nI d) ∨ ((∀ d, d < e → ¬ tr_eq W r B ls (tr_U t) l d) ∧ I' 75 i = I 75 i)) := by
  intro e
  induction e with
  | zero =>
    intro n I he hn h h74
    obtain ⟨n, rfl⟩ : ∃ m, n = m + 1 := ⟨n - 1, by omega⟩
    rw [f_X10_findBest_34, if_pos (by decide)]
    exact ⟨I, rfl, fun _ _ => rfl, fun _ _ => rfl, Or.inr ⟨fun d hd => by omega, rfl⟩⟩
  | succ e ih =>
    intro n I he hn h h74
    obtain ⟨n, rfl⟩ : ∃ m, n = m + 1 := ⟨n - 1, by omega⟩
    have h6 := h.1.1
    have bb := h.by_bd t (show e < B by omega)
    obtain ⟨h1, e1, e2, e3, e4, e5, e6, e7⟩ := id h
    have bv := h1.bd (ls := l :: ls) (m := 8) ⟨fun l' hl' => by
      rcases List.mem_cons.mp hl' with w | w
      · omega
      · exact e6.1 l' w, by rw [List.length_cons]; have := e6.2; omega⟩ (by omega) (tr_U t)
    have bu := h1.bd e6 (by omega) (tr_rm (tr_U t) e)
    have key : eI (tr_by W r B ls t l e) = eI (tr_V tr_fM W r B (l :: ls) (tr_U t)) ↔ tr_eq W r B ls (tr_U t) l e := by
      rw [eI_eq (by omega) (by omega) (by omega) (by omega)]
      have eU : tr_U t e = true ↔ t.testBit e = false := by simp [tr_U]
      unfold tr_by tr_eq
      rw [eU]
      by_cases q : t.testBit e = false ∧ r l ≤ W e l
      · rw [if_pos q]
        exact ⟨fun w => ⟨q.1, q.2, w⟩, fun w => w.2.2⟩
      · rw [if_neg q]
        exact ⟨fun w => by omega, fun w => absurd ⟨w.1, w.2.1⟩ q⟩
    have run : ∀ x, (f_X10_findBest_34 (n + 1) (nI t) (nI i) (nI (e + 1) - 1) I = f_X10_findBest_34 n (nI t) (nI i) (nI e - 1) (upI I 75 i (if tr_by W r B ls t l e = tr_V tr_fM W r B (l :: ls) (tr_U t) then nI e else I 75 i))) ∨ x := by
      intro x
      left
      rw [f_X10_findBest_34, nI_pred, if_neg (nI_pos (by omega)), by_ok h ht (show e < B by omega), Option.bind_some, show (64 : Int32) = nI 64 from rfl, pk_mul, nI_add, if_pos (inb_nI (show 64 * i + t < 512 by omega) (by omega)), nI_clamp (show 64 * i + t < 2 ^ 31 by omega), h74, if_pos (inb_nI hi (by omega)), if_pos (inb_nI hi (by omega)), if_pos (inb_nI hi (by omega)), nI_clamp (show i < 2 ^ 31 by omega), show nI e + (-1) = nI e - 1 from by rw [Int32.sub_eq_add_neg]]
      by_cases q : tr_by W r B ls t l e = tr_V tr_fM W r B (l :: ls) (tr_U t)
      · rw [if_pos (by rw [q]), if_pos q]
      · rw [if_neg (fun w => q ((eI_eq (by omega) (by omega) (by omega) (by omega)).mp w)), if_neg q]
    have run := (run False).resolve_right id
    rw [run]
    have h' : ∀ v, tr_Rw (upI I 75 i v) s B W r m i l ls := fun v => ⟨h1.fr (by rw [upI_o (by decide)]) (by rw [upI_o (by decide)]) (upI_o (by decide)) (upI_o (by decide)), by rw [upI_o (by decide)]; exact e1, e2, e3, by rw [upI_o (by decide)]; exact e4, e5, e6, fun t ht => by rw [upI_o (by decide)]; exact e7 t ht⟩
    obtain ⟨I', a1, a2, a3, a4⟩ := ih n (upI I 75 i (if tr_by W r B ls t l e = tr_V tr_fM W r B (l :: ls) (tr_U t) then nI e else I 75 i)) (by omega) (by omega) (h' _) (by rw [upI_o (by decide)]; exact h74)
    refine ⟨I', a1, fun c hc => by rw [a2 c hc, upI_o hc], fun j hj => by rw [a3 j hj, upI_j hj], ?_⟩
    rcases a4 with ⟨d, d1, d2, d3, d4⟩ | ⟨d1, d2⟩
    · exact Or.inl ⟨d, by omega, d2, d3, d4⟩
    · rw [upI_s] at d2
      by_cases q : tr_eq W r B ls (tr_U t) l e
      · rw [if_pos ((eI_eq (by omega) (by omega) (by omega) (by omega)).mp (key.mpr q))] at d2
        exact Or.inl ⟨e, by omega, q, d1, d2⟩
      · rw [if_neg (fun w => q (key.mp (by rw [w])))] at d2
        refine Or.inr ⟨fun d hd => ?_, d2⟩
        by_cases q2 : d = e
        · subst q2; exact q
        · exact d1 d (by omega)
theorem drop_rg : ∀ s, s < 7 → ∀ i, i < 7 → (List.range s).drop i = List.range' i (s - i) := by decide
theorem gl_rg : ∀ s, s < 7 → tr_gl 9 s = List.range s := by decide
theorem fb11_ok {s B : Nat} {W : Nat → Nat → Nat} {r : Nat → Nat} (hW : tr_bd W B s) : ∀ d n t l I g k o, l + d = s → d < n → t < 64 → tr_Im I s B W r → tr_Lr I s (List.range s) → (∀ i', i' ≤ s → ∀ t, t < 64 → I 74 (64 * i' + t) = eI (tr_V tr_fM W r B (List.range' i' (s - i')) (tr_U t))) → tr_O W r B (List.range' l d) (tr_U t) g k o → ∃ I', f_X10_findBest_11 n (nI t) (nI l) I = some I' ∧ (∀ c, c ≠ 75 → I' c = I c) ∧ (∀ j, j < l → I' 75 j = I 75 j) ∧ ∀ j, l ≤ j → j < s → I' 75 j = tr_dig (o / tr_pl j % 7) := by
  intro d
  induction d with
  | zero =>
    intro n t l I g k o hl hn ht h hL hr hO
    obtain ⟨n, rfl⟩ : ∃ m, n = m + 1 := ⟨n - 1, by omega⟩
    obtain rfl : l = s := by omega
    rw [f_X10_findBest_11, h.1.1, if_pos (nI_le (Nat.le_refl _) (by have := h.1; omega))]
    exact ⟨I, rfl, fun _ _ => rfl, fun _ _ => rfl, fun j h1 h2 => by omega⟩
  | succ d ih =>
    intro n t l I g k o hl hn ht h hL hr hO
    obtain ⟨n, rfl⟩ : ∃ m, n = m + 1 := ⟨n - 1, by omega⟩
    have h6 := h.1
    have hB := h6.2.2.2
    rw [List.range'_succ] at hO
    obtain ⟨c, g', n', o', rfl, q2, q3, q4, q5, q6⟩ := tr_step hB (tr_hp hB h6.2.2.1 (by omega) hW) hO
    have hc : c ≤ 6 := by rcases q3 with q3 | ⟨q3, -⟩ <;> omega
    have hw : tr_Rw (upI I 75 l (-1)) s B W r s l l (List.range' (l + 1) d) := by
      refine ⟨h.fr (by rw [upI_o (by decide)]) (by rw [upI_o (by decide)]) (upI_o (by decide)) (upI_o (by decide)), by rw [upI_o (by decide)]; have := hL.1; rw [List.length_range] at this; exact this, by omega, by omega, ?_, by omega, ⟨fun l' hl' => by rw [List.mem_range'_1] at hl'; omega, by rw [List.length_range']; omega⟩, fun t ht => ?_⟩
      · rw [upI_o (by decide)]
        exact (hL.2.2 l l (by rw [List.getElem?_range (by omega)])).1
      · rw [upI_o (by decide), hr (l + 1) (by omega) t ht, show s - (l + 1) = d by omega]
    obtain ⟨I1, a1, a2, a3, a4⟩ := fb34_ok (show l < 6 by omega) ht B FU _ (Nat.le_refl _) (by unfold FU; omega) hw (by rw [upI_o (by decide), hr l (by omega) t ht, show s - l = d + 1 by omega, List.range'_succ])
    have a5 : I1 75 l = tr_dig c := by
      unfold tr_dig
      rcases a4 with ⟨e, e1, e2, e3, e4⟩ | ⟨e1, e2⟩
      · rw [e4]
        by_cases q : c = 6
        · exact absurd e2 (q6 e e1 (by omega))
        · rw [if_neg q]
          rcases Nat.lt_trichotomy c e with w | w | w
          · exact absurd (q5 q) (e3 c w)
          · rw [w]
          · exact absurd e2 (q6 e e1 w)
      · rw [e2, upI_s]
        by_cases q : c = 6
        · rw [if_pos q]
        · exact absurd (q5 q) (e1 c (by rcases q3 with w | ⟨w, -⟩ <;> omega))
    have f1 : ∀ c, c ≠ 75 → I1 c = I c := fun c hc => by rw [a2 c hc, upI_o hc]
    have nx : ∀ t', t' < 64 → tr_rm (tr_U t) c = tr_U t' → ∃ I', f_X10_findBest_11 n (nI t') (nI (l + 1)) I1 = some I' ∧ (∀ c, c ≠ 75 → I' c = I1 c) ∧ (∀ j, j < l + 1 → I' 75 j = I1 75 j) ∧ ∀ j, l + 1 ≤ j → j < s → I' 75 j = tr_dig (o' / tr_pl j % 7) := fun t' ht' e => ih n t' (l + 1) I1 g' n' o' (by omega) (by omega) ht' (h.fr (by rw [f1 _ (by decide)]) (by rw [f1 _ (by decide)]) (f1 _ (by decide)) (f1 _ (by decide))) ⟨by rw [f1 _ (by decide)]; exact hL.1, hL.2.1, fun i l hi => by rw [f1 _ (by decide)]; exact hL.2.2 i l hi⟩ (fun i' h1 t ht => by rw [f1 _ (by decide)]; exact hr i' h1 t ht) (by rw [← e]; exact q4)
    have fin : ∀ I' : IT, (∀ c, c ≠ 75 → I' c = I1 c) → (∀ j, j < l + 1 → I' 75 j = I1 75 j) → (∀ j, l + 1 ≤ j → j < s → I' 75 j = tr_dig (o' / tr_pl j % 7)) → (∀ c, c ≠ 75 → I' c = I c) ∧ (∀ j, j < l → I' 75 j = I 75 j) ∧ ∀ j, l ≤ j → j < s → I' 75 j = tr_dig ((c * tr_pl l + o') / tr_pl j % 7) := by
      intro I' b1 b2 b3
      refine ⟨fun c hc => by rw [b1 c hc, f1 c hc], fun j hj => by rw [b2 j (by omega), a3 j (by omega), upI_j (by omega)], fun j h1 h2 => ?_⟩
      by_cases q : j = l
      · subst q; rw [b2 j (by omega), a5, tr_dig_hi hc q2]
      · rw [b3 j (by omega) h2, tr_dig_lo (by omega) (by omega)]
    have e55 : (upI I 75 l (-1)) 55 1 = nI B := by rw [upI_o (by decide)]; exact h6.2.1
    by_cases q : c = 6
    · obtain ⟨I', b1, b2, b3, b4⟩ := nx t ht (by rw [q, tr_rm6])
      refine ⟨I', ?_, fin I' b2 b3 b4⟩
      have a6 : I1 75 l = -1 := by rw [a5]; unfold tr_dig; rw [if_pos q]
      rw [f_X10_findBest_11, h6.1, if_neg (by rw [nI_leI (by omega) (by omega)]; omega), if_pos (inb_nI (show l < 6 by omega) (by omega)), nI_clamp (show l < 2 ^ 31 by omega), e55, a1, Option.bind_some, if_pos (inb_nI (show l < 6 by omega) (by omega)), a6, if_pos (by decide), Int32.or_zero, nI_1, b1]
    · obtain ⟨o1, o2⟩ := or_ok t ht c (by omega)
      obtain ⟨I', b1, b2, b3, b4⟩ := nx (t ||| 2 ^ c) o2 (rm_U t (by omega))
      refine ⟨I', ?_, fin I' b2 b3 b4⟩
      have a6 : I1 75 l = nI c := by rw [a5]; unfold tr_dig; rw [if_neg q]
      rw [f_X10_findBest_11, h6.1, if_neg (by rw [nI_leI (by omega) (by omega)]; omega), if_pos (inb_nI (show l < 6 by omega) (by omega)), nI_clamp (show l < 2 ^ 31 by omega), e55, a1, Option.bind_some, if_pos (inb_nI (show l < 6 by omega) (by omega)), if_pos (inb_nI (show l < 6 by omega) (by omega)), a6, if_neg (nI_pos (by omega)), o1, nI_1, b1]
theorem tr_Im.wb {I : IT} {s B : Nat} {W : Nat → Nat → Nat} {r : Nat → Nat} (h : tr_Im I s B W r) : tr_bd W B s := fun c l hc hl => (h.2.2 c l hc hl).2
theorem tr_In.wb {I : IT} {s B : Nat} {W : Nat → Nat → Nat} {r : Nat → Nat} (h : tr_In I s B W r) : tr_bd W B s := fun c l hc hl => (h.2.2 c l hc hl).2
theorem fb_ok {I : IT} {s B : Nat} {W : Nat → Nat → Nat} {r : Nat → Nat} (h : tr_Im I s B W r) : ∃ I', f_X10_findBest I = some I' ∧ (∀ l, l < s → I' 75 l = tr_dig (tr_d W r B s l)) ∧ I' 74 0 = eI (tr_V tr_fM W r B (List.range s) (tr_U 0)) ∧ tr_FM I I' := by
  have h6 := h.1
  obtain ⟨I1, a1, a2, a3, a4⟩ := gw_ok h (v2 := -1) (wo := 9) (by decide)
  rw [gl_rg s (by omega)] at a1 a2 a3
  obtain ⟨g, k, hO⟩ := tr_best (r := r) h6.2.2.2 h6.2.2.1 h.wb
  rw [List.range_eq_range'] at hO
  obtain ⟨I', b1, b2, b3, b4⟩ := fb11_ok h.wb s FU 0 0 I1 g k _ (by omega) (by unfold FU; omega) (by omega) (a4.im h) a2 (fun i' h1 t ht => by rw [a3 i' (by rw [List.length_range]; exact h1) t ht, drop_rg s (by omega) i' (by omega)]) hO
  refine ⟨I', ?_, fun l hl => b4 l (by omega) hl, ?_, a4.tr ⟨fun c _ _ _ h4 => b2 c h4, fun j _ => by rw [b2 55 (by decide)]⟩⟩
  · unfold f_X10_findBest
    rw [nI_0] at b1
    rw [a1, Option.bind_some, b1]
  · rw [b2 74 (by decide)]
    have := a3 0 (by omega) 0 (by omega)
    rw [Nat.mul_zero, Nat.add_zero, List.drop_zero] at this
    exact this
/-! what a score tells -/
theorem key_ok (k o : Nat) (hk : k ≤ 100000) (ho : o < 235298) : f_X7_keyIn (eL ((k : Int) * 235298 - o)) = some (lN k) := by
  unfold f_X7_keyIn
  rw [show (235298 : Int64) = eL 235298 from rfl, show (1 : Int64) = eL 1 from rfl, eL_add, eL_sub, eL_lN (by omega), show eL 235298 = lN 235298 from rfl, pk_lDiv (by omega) (by omega) (by omega)]
  congr 2
  omega
theorem gain_ok {W : Nat → Nat → Nat} {r : Nat → Nat} {B : Nat} (hB : B ≤ 6) {ls : List Nat} (S : Nat → Bool) (hW : ∀ l ∈ ls, ∀ c, c < B → W c l ≤ 999) (h7 : ls.length ≤ 7) (hs : 6 * tr_sum ls < 235298) : f_X7_gainIn (eL (tr_V tr_fX W r B ls S)) = some (nI ((tr_V tr_fM W r B ls S).toNat / 16)) ∧ f_X7_lotsIn (eL (tr_V tr_fX W r B ls S)) = some (nI ((tr_V tr_fM W r B ls S).toNat % 16)) := by
  obtain ⟨g, n, o, k1, k2, k3, k4, k5, k6, k7⟩ := tr_both hB (W := W) (r := r) S hW h7 hs
  have e : tr_V tr_fX W r B ls S = ((8 * g + n : Nat) : Int) * 235298 - o := by rw [k3]; omega
  unfold f_X7_gainIn f_X7_lotsIn
  rw [e, key_ok _ _ (by omega) k6, Option.bind_some, Option.bind_some, show (8 : Int64) = lN 8 from rfl, pk_lDiv (by omega) (by omega) (by omega), lN_i, k2]
  refine ⟨?_, ?_⟩
  · congr 2; omega
  · rw [lN_mul, lN_sub (by omega), lN_i]
    congr 2; omega
theorem buyer_ok {W : Nat → Nat → Nat} {r : Nat → Nat} {B s : Nat} (hB : B ≤ 6) (hs : s ≤ 6) (hW : tr_bd W B s) {l : Nat} (hl : l < s) (I : IT) : f_X7_buyerIn (eL (tr_X W r B s)) (nI l) I = some (tr_dig (tr_d W r B s l)) := by
  obtain ⟨g, n, o, k1, k2, k3, k4, k5, k6, k7⟩ := tr_both hB (ls := List.range s) (W := W) (r := r) (tr_U 0) (fun l hl c hc => hW c l hc (List.mem_range.mp hl)) (by rw [List.length_range]; omega) ((by decide : ∀ s, s < 7 → 6 * tr_sum (List.range s) < 235298) s (by omega))
  have e : tr_X W r B s = ((8 * g + n : Nat) : Int) * 235298 - o := by unfold tr_X; rw [k3]; omega
  have e2 : tr_d W r B s l = o / tr_pl l % 7 := by unfold tr_d; rw [e, tr_ordE _ _ k6]
  have p := pl_bd l (by omega)
  have e3 : ¬ (nI (tr_pl l)).toInt64 = 0 := by
    rw [nI_l (by omega), show (0 : Int64) = lN 0 from rfl, pk_lEQ (by omega) (by omega)]; omega
  unfold f_X7_buyerIn
  rw [e2, e, key_ok _ _ (by omega) k6, Option.bind_some, if_pos (inb_nI (show l < 6 by omega) (by omega)), nI_clamp (by omega), pl_nI l (by omega), if_pos e3, show (235298 : Int64) = lN 235298 from rfl, lN_mul, lN_eL, eL_sub, show (((8 * g + n) * 235298 : Nat) : Int) - (((8 * g + n : Nat) : Int) * 235298 - o) = (o : Int) by omega, ← lN_eL, nI_l (by omega), pk_lDiv (by omega) (by omega) (by omega), show (7 : Int64) = lN 7 from rfl, pk_lRem (by have := Nat.div_le_self o (tr_pl l); omega) (by omega) (by omega), lN_i, Option.bind_some]
  unfold tr_dig
  have := Nat.mod_lt (o / tr_pl l) (show 0 < 7 by omega)
  by_cases q : o / tr_pl l % 7 = 6
  · rw [if_pos q, q, if_pos (show nI 6 = 6 from rfl)]
  · rw [if_neg q, if_neg (by rw [show (6 : Int32) = nI 6 from rfl, nI_eq (by omega) (by omega)]; exact q)]
theorem tr_full {φ : Nat → Nat → Nat → Int} {W : Nat → Nat → Nat} {r : Nat → Nat} {B : Nat} (hB : B ≤ 6) (ls : List Nat) : tr_V φ W r B ls (tr_S (2 ^ B - 1)) = tr_V φ W r B ls (tr_U 0) :=
  tr_V_S ls _ _ (fun b hb => by
    have : ∀ B, B < 7 → ∀ b, b < B → tr_S (2 ^ B - 1) b = tr_U 0 b := by decide
    exact this B (by omega) b hb)
