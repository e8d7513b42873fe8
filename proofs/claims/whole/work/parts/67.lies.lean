/-! prices by the rules, and what a lie gains: the reference's side; span, lie and best lie -/
theorem i32_as (a b c : Int32) : a + (b - c) = a + b - c := by
  rw [Int32.sub_eq_add_neg, Int32.sub_eq_add_neg, Int32.add_assoc]
theorem span_ref {I : IT} {s B : Nat} {W : Nat → Nat → Nat} {r : Nat → Nat} (h : tr_Im I s B W r) {l : Nat} (hl : l < s) {w : Nat} (hw : w = 0 ∨ w = 1) (c : Nat) : ∃ I', f_X10_spanOf (nI l) (nI w) I = some (tl_price (nI (w + 1)) W r B s l c, I') ∧ tr_FM I I' := by
  have h6 := h.1
  obtain ⟨I1, a1, a2, a3, a4⟩ := gw_ok h (v2 := -1) (wo := 9) (by decide)
  have h1 := a4.im h
  unfold f_X10_spanOf
  rw [a1, Option.bind_some, if_pos (inb_nI (show l < 6 by omega) (by omega))]
  rcases hw with rfl | rfl
  · obtain ⟨I2, b1, b2⟩ := gw2_ok h1 hl
    rw [if_pos nI_0]
    dsimp only
    rw [b1, Option.bind_some, nI_clamp (by omega), (h1.2.1 l hl).1, i32_as]
    exact ⟨I2, rfl, a4.tr b2⟩
  · obtain ⟨I2, b1, b2, b3, b4⟩ := gw_ok h1 (v2 := nI l) (wo := l) (fun i hi => nI_eq (by omega) (by omega))
    rw [if_neg (by decide)]
    dsimp only
    rw [b1, Option.bind_some, nI_clamp (by omega), (h1.2.1 l hl).1, i32_as]
    exact ⟨I2, rfl, a4.tr b4⟩
theorem price_ref {I : IT} {s B : Nat} {W : Nat → Nat → Nat} {r : Nat → Nat} (h : tr_Im I s B W r) {l c : Nat} (hl : l < s) (hc : c < B) (h75 : I 75 l = nI c) {rule : Int32} (hr : rule = 0 ∨ rule = 1 ∨ rule = 2) : ∃ I', f_X10_priceBy rule (nI l) I = some (tl_price rule W r B s l c, I') ∧ tr_FM I I' := by
  have h6 := h.1
  have w1 := h.2.1 l hl
  have w2 := h.2.2 c l hc hl
  unfold f_X10_priceBy
  rcases hr with rfl | rfl | rfl
  · rw [if_pos rfl, if_pos (inb_nI (show l < 6 by omega) (by omega)), nI_clamp (show l < 2 ^ 31 by omega), h75, i6', if_pos (inb_nI (show 6 * c + l < 36 by omega) (by omega)), if_pos (inb_nI (show l < 6 by omega) (by omega)), nI_clamp (by omega), w1.1, w2.1, nI_add, show (2 : Int32) = nI 2 from rfl, pk_div (by omega) (by omega) (by omega)]
    exact ⟨I, rfl, tr_FM.rf I⟩
  · obtain ⟨I1, a1, a2⟩ := span_ref h hl (Or.inl rfl) c
    rw [if_neg (by decide), show (1 : Int32) - 1 = nI 0 from rfl, a1, Option.bind_some]
    exact ⟨I1, rfl, a2⟩
  · obtain ⟨I1, a1, a2⟩ := span_ref h hl (Or.inr rfl) c
    rw [if_neg (by decide), show (2 : Int32) - 1 = nI 1 from rfl, a1, Option.bind_some]
    exact ⟨I1, rfl, a2⟩
/-- which sort p is, for the reference -/
theorem srt_ref {I : IT} {s B : Nat} {W : Nat → Nat → Nat} {r : Nat → Nat} (h : tr_Im I s B W r) {p : Nat} (hp : p < s + B) : f_X10_sortOf (nI p) I = some (if p < s then 0 else 1) := by
  have h6 := h.1
  unfold f_X10_sortOf
  rw [h6.1, h6.2.1, nI_add]
  by_cases q : p < s
  · rw [if_neg (by rw [nI_leI (by omega) (by omega)]; omega), if_pos q]
  · rw [if_pos (by rw [nI_leI (by omega) (by omega)]; omega), if_neg (by rw [nI_leI (by omega) (by omega)]; omega), if_neg q]
def tl_cell (s p a : Nat) : Nat × Nat := if p < s then (56, a) else (58, 6 * (p - s) + a)
theorem tell_ref {I : IT} {s B : Nat} {W : Nat → Nat → Nat} {r : Nat → Nat} (h : tr_Im I s B W r) {p a : Nat} (hd : Deal s B p a) (x : Int32) : f_X10_tell (nI p) (nI a) x I = some (upI I (tl_cell s p a).1 (tl_cell s p a).2 x) := by
  have h6 := h.1
  obtain ⟨d1, d2, d3⟩ := hd
  unfold f_X10_tell tl_cell
  rw [srt_ref h d1, Option.bind_some]
  by_cases q : p < s
  · rw [if_pos q, if_pos q, if_pos rfl, if_pos (inb_nI (show a < 6 by omega) (by omega)), nI_clamp (by omega)]
  · rw [if_neg q, if_neg q, if_neg (by decide), h6.1, pk_sub (by omega), i6', if_pos (inb_nI (show 6 * (p - s) + a < 36 by omega) (by omega)), nI_clamp (by omega)]
theorem told_im {I : IT} {s B : Nat} {W : Nat → Nat → Nat} {r : Nat → Nat} (h : tr_Im I s B W r) {p a : Nat} (hd : Deal s B p a) {v : Nat} (hv : v ≤ 999) : tr_Im (upI I (tl_cell s p a).1 (tl_cell s p a).2 (nI v)) s B (tl_W s W p a v) (tl_r s r p a v) := by
  obtain ⟨d1, d2, d3⟩ := hd
  obtain ⟨h6, h7, h8⟩ := h
  unfold tl_cell
  by_cases q : p < s
  · rw [if_pos q]
    dsimp only
    refine ⟨by rw [upI_o (by decide)]; exact h6, fun l hl => ?_, fun c l hc hl => ?_⟩
    · by_cases e : l = a
      · subst e
        rw [upI_s, show tl_r s r p l v l = v from if_pos ⟨q, rfl⟩]
        exact ⟨rfl, hv⟩
      · rw [upI_j e, tl_r_o e]; exact h7 l hl
    · rw [upI_o (by decide), show tl_W s W p a v c l = W c l from if_neg (by omega)]
      exact h8 c l hc hl
  · rw [if_neg q]
    dsimp only
    refine ⟨by rw [upI_o (by decide)]; exact h6, fun l hl => ?_, fun c l hc hl => ?_⟩
    · rw [upI_o (by decide), show tl_r s r p a v l = r l from if_neg (by omega)]
      exact h7 l hl
    · by_cases e : c = p - s ∧ l = a
      · obtain ⟨rfl, rfl⟩ := e
        rw [upI_s, show tl_W s W p l v (p - s) l = v from if_pos ⟨by omega, rfl, rfl⟩]
        exact ⟨rfl, hv⟩
      · rw [upI_j (by omega), show tl_W s W p a v c l = W c l from if_neg (by omega)]
        exact h8 c l hc hl
/-- told, worked with, told back: only the scratch has changed -/
theorem back_fm {I I1 : IT} {k j : Nat} {x y : Int32} (hk : k = 56 ∨ k = 58) (hy : I k j = y) (h : tr_FM (upI I k j x) I1) : tr_FM I (upI I1 k j y) := by
  have hk5 : k ≠ 55 ∧ k ≠ 73 ∧ k ≠ 74 ∧ k ≠ 75 := by omega
  refine ⟨fun c c1 c2 c3 c4 => ?_, fun i hi => ?_⟩
  · by_cases e : c = k
    · subst e
      funext i
      by_cases e2 : i = j
      · subst e2; rw [upI_s, hy]
      · rw [upI_j e2, h.1 c c1 c2 c3 c4, upI_j e2]
    · rw [upI_o e, h.1 c c1 c2 c3 c4, upI_o e]
  · rw [upI_o (Ne.symm hk5.1), h.2 i hi, upI_o (Ne.symm hk5.1)]
theorem cell_ok {s B p a : Nat} {I : IT} {W : Nat → Nat → Nat} {r : Nat → Nat} (h : tr_Im I s B W r) (hd : Deal s B p a) : ((tl_cell s p a).1 = 56 ∨ (tl_cell s p a).1 = 58) ∧ I (tl_cell s p a).1 (tl_cell s p a).2 = nI (tl_t s W r p a) := by
  obtain ⟨d1, d2, d3⟩ := hd
  unfold tl_cell tl_t
  by_cases q : p < s
  · rw [if_pos q, if_pos q]; exact ⟨Or.inl rfl, (h.2.1 a d2).1⟩
  · rw [if_neg q, if_neg q]; exact ⟨Or.inr rfl, (h.2.2 (p - s) a (by omega) d2).1⟩
/-- what the reference does behind its loop -/
def tl_end (v1 v2 v3 v5 v6 v7 v8 : Int32) (I : IT) : Option (Int32 × IT) :=
  if 0 ≤ v8 then
    (f_X10_priceBy v1 v8 I).bind fun r138 =>
    (f_X10_tell v2 v3 v7 r138.2).bind fun r148 =>
    if 0 ≤ v8 then
      if v5 = 0 then
        if inbB v3 6 = true then some (r138.1 - (r148 56 v3.toNatClampNeg), r148) else none
      else
        if inbB ((6 * v6) + v8) 36 = true then some ((r148 58 ((6 * v6) + v8).toNatClampNeg) - r138.1, r148) else none
    else some (0, r148)
  else
    (f_X10_tell v2 v3 v7 I).bind fun r148 =>
    if 0 ≤ v8 then
      if v5 = 0 then
        if inbB v3 6 = true then some (0 - (r148 56 v3.toNatClampNeg), r148) else none
      else
        if inbB ((6 * v6) + v8) 36 = true then some ((r148 58 ((6 * v6) + v8).toNatClampNeg) - 0, r148) else none
    else some (0, r148)
theorem gb83_s {s n : Nat} {v1 v2 v3 v6 v7 v8 v9 : Int32} {I : IT} : f_X10_gainBy_83 (n + 1) v1 v2 v3 0 v6 v7 v8 v9 I = tl_end v1 v2 v3 0 v6 v7 v8 I := by
  rw [f_X10_gainBy_83]
  unfold tl_end
  by_cases q : I 55 0 ≤ v9
  · rw [if_pos q]
  · rw [if_neg q, if_neg (by decide)]
theorem gb83_b {s c : Nat} {v1 v2 v3 v7 : Int32} {I : IT} {D : Nat → Nat} (hs : s ≤ 6) (hc : c < 6) (h5 : I 55 0 = nI s) (hD : ∀ l, l < s → I 75 l = tr_dig (D l) ∧ D l ≤ 6) : ∀ d n i, i + d = s → d < n → f_X10_gainBy_83 n v1 v2 v3 1 (nI c) v7 (if tl_bt D c i = 9 then -1 else nI (tl_bt D c i)) (nI i) I = tl_end v1 v2 v3 1 (nI c) v7 (if tl_bt D c s = 9 then -1 else nI (tl_bt D c s)) I := by
  intro d
  induction d with
  | zero =>
    intro n i hi hn
    obtain ⟨n, rfl⟩ : ∃ m, n = m + 1 := ⟨n - 1, by omega⟩
    obtain rfl : i = s := by omega
    rw [f_X10_gainBy_83, h5, if_pos (nI_le (Nat.le_refl _) (by omega))]
    rfl
  | succ d ih =>
    intro n i hi hn
    obtain ⟨n, rfl⟩ : ∃ m, n = m + 1 := ⟨n - 1, by omega⟩
    have ih' := ih n (i + 1) (by omega) (by omega)
    obtain ⟨k1, k2⟩ := hD i (by omega)
    rw [f_X10_gainBy_83, h5, if_neg (by rw [nI_leI (by omega) (by omega)]; omega), if_pos rfl, if_pos (inb_nI (show i < 6 by omega) (by omega)), nI_clamp (by omega), k1, nI_1]
    by_cases q : D i = c
    · rw [if_pos ((dig_eq k2 hc).mpr q), ← ih', tl_bt, if_pos q, if_neg (by omega)]
    · rw [if_neg (fun w => q ((dig_eq k2 hc).mp w)), ← ih', tl_bt, if_neg q]
theorem gainBy_ok {I : IT} {s B : Nat} {W : Nat → Nat → Nat} {r : Nat → Nat} (h : tr_Im I s B W r) {p a : Nat} (hd : Deal s B p a) {rule : Int32} (hr : rule = 0 ∨ rule = 1 ∨ rule = 2) {v : Nat} (hv : v ≤ 999) : ∃ I', f_X10_gainBy rule (nI p) (nI a) (nI v) I = some (tl_G rule s B W r p a v, I') ∧ tr_FM I I' := by
  have h6 := h.1
  obtain ⟨d1, d2, d3⟩ := id hd
  have h1 := told_im h hd hv
  obtain ⟨I1, a1, a2, a3, a4⟩ := fb_ok h1
  have h2 := a4.im h1
  obtain ⟨t1, t2⟩ := tr_d_ok (r := tl_r s r p a v) h6.2.2.2 h6.2.2.1 h1.wb
  obtain ⟨c1, c2⟩ := cell_ok h hd
  have te : ∀ (I2 : IT), tr_FM I1 I2 → ∃ I3, f_X10_tell (nI p) (nI a) (nI (tl_t s W r p a)) I2 = some I3 ∧ tr_FM I I3 := fun I2 g =>
    ⟨_, tell_ref (g.im h2) hd _, back_fm c1 c2 (a4.tr g)⟩
  unfold f_X10_gainBy
  rw [srt_ref h d1, Option.bind_some]
  by_cases q : p < s
  · obtain rfl := d3 q
    rw [if_pos q, if_pos rfl, if_pos (inb_nI (show p < 6 by omega) (by omega)), tell_ref h hd, Option.bind_some, a1, Option.bind_some, if_pos rfl, if_pos (inb_nI (show p < 6 by omega) (by omega)), nI_clamp (show p < 2 ^ 31 by omega), a2 p d2, (h.2.1 p d2).1, show FU = 99999 + 1 from rfl, gb83_s (s := s), gb83_s (s := s)]
    have et : nI (r p) = nI (tl_t s W r p p) := by unfold tl_t; rw [if_pos q]
    rw [et]
    unfold tl_G
    rw [if_pos q]
    by_cases q2 : tr_d (tl_W s W p p v) (tl_r s r p p v) B s p = 6
    · obtain ⟨I3, e1, e2⟩ := te I1 (tr_FM.rf I1)
      rw [show tr_dig (tr_d (tl_W s W p p v) (tl_r s r p p v) B s p) = -1 from if_pos q2, if_neg (by decide), if_pos q2]
      unfold tl_end
      rw [if_neg (by decide), e1, Option.bind_some, if_neg (by decide)]
      exact ⟨I3, rfl, e2⟩
    · have hlt : tr_d (tl_W s W p p v) (tl_r s r p p v) B s p < B := by rcases t1 p d2 with w | w <;> omega
      rw [show tr_dig (tr_d (tl_W s W p p v) (tl_r s r p p v) B s p) = nI (tr_d (tl_W s W p p v) (tl_r s r p p v) B s p) from if_neg q2, if_pos (nI_pos' (by omega)), if_neg q2]
      obtain ⟨I2, b1, b2⟩ := price_ref h2 d2 hlt (by rw [a2 p d2]; exact if_neg q2) hr
      obtain ⟨I3, e1, e2⟩ := te I2 b2
      unfold tl_end
      rw [if_pos (nI_pos' (by omega)), b1, Option.bind_some]
      dsimp only
      rw [e1, Option.bind_some, if_pos (nI_pos' (by omega)), if_pos rfl, if_pos (inb_nI (show p < 6 by omega) (by omega)), nI_clamp (by omega), ((e2.im h).2.1 p d2).1]
      exact ⟨I3, rfl, e2⟩
  · obtain ⟨b, rfl⟩ : ∃ b, p = s + b := ⟨p - s, by omega⟩
    have hb : b < B := by omega
    have et : I 58 (6 * b + a) = nI (tl_t s W r (s + b) a) := by unfold tl_t; rw [if_neg q, Nat.add_sub_cancel_left]; exact (h.2.2 b a hb d2).1
    rw [if_neg q, if_neg (by decide), h6.1, pk_sub (by omega), Nat.add_sub_cancel_left, i6', if_pos (inb_nI (show 6 * b + a < 36 by omega) (by omega)), tell_ref h hd, Option.bind_some, a1, Option.bind_some, if_neg (by decide), nI_clamp (by omega), et]
    have lo := gb83_b (v1 := rule) (v2 := nI (s + b)) (v3 := nI a) (v7 := nI (tl_t s W r (s + b) a)) (c := b) h6.2.2.1 (by omega) h2.1.1 (D := tr_d (tl_W s W (s + b) a v) (tl_r s r (s + b) a v) B s) (fun l hl => ⟨a2 l hl, by rcases t1 l hl with w | w <;> omega⟩) s FU 0 (by omega) (by unfold FU; omega)
    rw [tl_bt, if_pos rfl, nI_0] at lo
    rw [lo]
    unfold tl_G
    rw [if_neg q, Nat.add_sub_cancel_left]
    rcases tl_bt_ok (D := tr_d (tl_W s W (s + b) a v) (tl_r s r (s + b) a v) B s) (c := b) s with ⟨k1, k2⟩ | ⟨k1, k2⟩
    · obtain ⟨m, hm⟩ : ∃ m, m = tl_bt (tr_d (tl_W s W (s + b) a v) (tl_r s r (s + b) a v) B s) b s := ⟨_, rfl⟩
      rw [← hm] at k1 k2 ⊢
      rw [if_neg (show ¬ m = 9 by omega), if_neg (show ¬ m = 9 by omega)]
      obtain ⟨I2, b1, b2⟩ := price_ref h2 k1 hb (by rw [a2 m k1, k2]; exact if_neg (by omega)) hr
      obtain ⟨I3, e1, e2⟩ := te I2 b2
      unfold tl_end
      rw [if_pos (nI_pos' (by omega)), b1, Option.bind_some]
      dsimp only
      rw [e1, Option.bind_some, if_pos (nI_pos' (by omega)), if_neg (by decide), i6', if_pos (inb_nI (show 6 * b + m < 36 by omega) (by omega)), nI_clamp (by omega), ((e2.im h).2.2 b m hb k1).1]
      exact ⟨I3, rfl, e2⟩
    · obtain ⟨I3, e1, e2⟩ := te I1 (tr_FM.rf I1)
      rw [if_pos k1, if_pos k1]
      unfold tl_end
      rw [if_neg (by decide), e1, Option.bind_some, if_neg (by decide)]
      exact ⟨I3, rfl, e2⟩
