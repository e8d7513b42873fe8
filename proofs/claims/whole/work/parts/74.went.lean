/-! which sets of lots can sum up to u: the reference; went for -/
theorem wf_pz {f : Nat → Int64} {w : Nat} (z : Int64) (q : Nat) : wf_j (vp_updL f w (f w ||| z)) q = true ↔ (wf_j f q = true ∨ (q / 64 = w ∧ wf_b z (q % 64) = true)) := by
  unfold wf_j
  by_cases e : q / 64 = w
  · rw [e, pk_uLs, wf_or, Bool.or_eq_true]
    exact ⟨fun h => by
      rcases h with h | h
      · exact Or.inl h
      · exact Or.inr ⟨rfl, h⟩, fun h => by
      rcases h with h | h
      · exact Or.inl h
      · exact Or.inr h.2⟩
  · rw [pk_uLn e]
    exact ⟨fun h => Or.inl h, fun h => by
      rcases h with h | h
      · exact h
      · exact absurd h.1 e⟩
theorem am16_ok {set fr wd b : Nat} (hset : set < 64) (hfr : fr < 64) (hne : set ≠ fr) (hw : wd ≤ 15) (hb : b < 64) : ∀ m n J, m ≤ 94 → wd ≤ m → m < n → ∃ J', f_X10_addMoved_16 n (nI set) (nI fr) (nI wd) (nI b) (nI m - 1) J = some J' ∧ (∀ k, k ≠ 80 → J' k = J k) ∧ ∀ q, wf_j (J' 80) q = true ↔ (wf_j (J 80) q = true ∨ (64 * (94 * set) + 64 * wd + b ≤ q ∧ q < 64 * (94 * set + m) ∧ wf_j (J 80) (q - (64 * (94 * set) + 64 * wd + b) + 64 * (94 * fr)) = true)) := by
  intro m
  induction m with
  | zero =>
    intro n J hm hwm hn
    obtain ⟨n, rfl⟩ : ∃ m, n = m + 1 := ⟨n - 1, by omega⟩
    obtain rfl : wd = 0 := by omega
    rw [f_X10_addMoved_16, if_pos (by decide)]
    refine ⟨J, rfl, fun _ _ => rfl, fun q => ⟨fun h => Or.inl h, fun h => ?_⟩⟩
    rcases h with h | h
    · exact h
    · omega
  | succ k ih =>
    intro n J hm hwm hn
    obtain ⟨n, rfl⟩ : ∃ m, n = m + 1 := ⟨n - 1, by omega⟩
    rw [f_X10_addMoved_16, nI_pred]
    by_cases hk : k < wd
    · rw [if_pos (by rw [nI_ltI (by omega) (by omega)]; exact hk)]
      refine ⟨J, rfl, fun _ _ => rfl, fun q => ⟨fun h => Or.inl h, fun h => ?_⟩⟩
      rcases h with h | h
      · exact h
      · omega
    · have step : ∀ z : Int64, (∀ e, e < 64 → (wf_b z e = true ↔ (64 * wd + b ≤ 64 * k + e ∧ wf_j (J 80) (64 * k + e - (64 * wd + b) + 64 * (94 * fr)) = true))) → ∃ J', f_X10_addMoved_16 n (nI set) (nI fr) (nI wd) (nI b) (nI k + (-1)) (upJ J 80 (94 * set + k) (J 80 (94 * set + k) ||| z)) = some J' ∧ (∀ k, k ≠ 80 → J' k = J k) ∧ ∀ q, wf_j (J' 80) q = true ↔ (wf_j (J 80) q = true ∨ (64 * (94 * set) + 64 * wd + b ≤ q ∧ q < 64 * (94 * set + (k + 1)) ∧ wf_j (J 80) (q - (64 * (94 * set) + 64 * wd + b) + 64 * (94 * fr)) = true)) := by
        intro z hz
        obtain ⟨J', a1, a2, a3⟩ := ih n (upJ J 80 (94 * set + k) (J 80 (94 * set + k) ||| z)) (by omega) (by omega) (by omega)
        refine ⟨J', ?_, fun k' hk' => by rw [a2 k' hk', upJ_o hk'], fun q => ?_⟩
        · rw [show nI k + (-1) = nI k - 1 from by rw [Int32.sub_eq_add_neg], a1]
        · rw [a3 q, upJ_k, wf_pz]
          have sr : 64 * (94 * set) + 64 * wd + b ≤ q → q < 64 * (94 * set + (k + 1)) → wf_j (vp_updL (J 80) (94 * set + k) (J 80 (94 * set + k) ||| z)) (q - (64 * (94 * set) + 64 * wd + b) + 64 * (94 * fr)) = wf_j (J 80) (q - (64 * (94 * set) + 64 * wd + b) + 64 * (94 * fr)) := fun h1 h2 => wf_un (by omega)
          constructor
          · rintro ((h | ⟨h1, h2⟩) | ⟨h1, h2, h3⟩)
            · exact Or.inl h
            · obtain ⟨h3, h4⟩ := (hz _ (by omega)).mp h2
              refine Or.inr ⟨by omega, by omega, ?_⟩
              rw [show q - (64 * (94 * set) + 64 * wd + b) + 64 * (94 * fr) = 64 * k + q % 64 - (64 * wd + b) + 64 * (94 * fr) by omega]
              exact h4
            · exact Or.inr ⟨h1, by omega, by rw [← sr h1 (by omega)]; exact h3⟩
          · rintro (h | ⟨h1, h2, h3⟩)
            · exact Or.inl (Or.inl h)
            · by_cases g : q < 64 * (94 * set + k)
              · exact Or.inr ⟨h1, g, by rw [sr h1 h2]; exact h3⟩
              · refine Or.inl (Or.inr ⟨by omega, (hz _ (by omega)).mpr ⟨by omega, ?_⟩⟩)
                rw [show 64 * k + q % 64 - (64 * wd + b) + 64 * (94 * fr) = q - (64 * (94 * set) + 64 * wd + b) + 64 * (94 * fr) by omega]
                exact h3
      rw [if_neg (by rw [nI_ltI (by omega) (by omega)]; exact hk), show (94 : Int32) = nI 94 from rfl, pk_mul, pk_mul, nI_add, nI_add, pk_sub (by omega), if_pos (inb_nI (show 94 * fr + k - wd < 6016 by omega) (by omega)), if_pos (inb_nI (show 94 * set + k < 6016 by omega) (by omega)), if_pos (inb_nI (show 94 * set + k < 6016 by omega) (by omega)), nI_clamp (show 94 * set + k < 2 ^ 31 by omega), nI_clamp (show 94 * fr + k - wd < 2 ^ 31 by omega)]
      have lo : ∀ e, e < 64 → b ≤ e → wf_b (J 80 (94 * fr + k - wd)) (e - b) = wf_j (J 80) (64 * k + e - (64 * wd + b) + 64 * (94 * fr)) := by
        intro e he hbe
        rw [← wf_src (f := J 80) (w := 94 * fr + k - wd) (show e - b < 64 by omega), show 64 * (94 * fr + k - wd) + (e - b) = 64 * k + e - (64 * wd + b) + 64 * (94 * fr) by omega]
      by_cases hb0 : b = 0 ∨ k = wd
      · have e0 : ∀ e, e < 64 → (wf_b ((J 80 (94 * fr + k - wd)) <<< ((nI b).toInt64 &&& 63) ||| 0) e = true ↔ (64 * wd + b ≤ 64 * k + e ∧ wf_j (J 80) (64 * k + e - (64 * wd + b) + 64 * (94 * fr)) = true)) := by
          intro e he
          rw [wf_or, wf_zero, Bool.or_false, wf_shl _ hb, decide_eq_true he, Bool.true_and]
          by_cases g : b ≤ e
          · rw [decide_eq_true g, Bool.true_and, lo e he g]
            exact ⟨fun w => ⟨by omega, w⟩, fun w => w.2⟩
          · rw [decide_eq_false g, Bool.false_and]
            exact ⟨fun w => absurd w (by decide), fun w => by omega⟩
        by_cases hb1 : nI b ≤ 0
        · rw [if_pos hb1]
          exact step _ e0
        · rw [if_neg hb1, if_pos (by
            rcases hb0 with w | w
            · exact absurd (by rw [w]; decide) hb1
            · rw [w]; exact Int32.le_refl _)]
          exact step _ e0
      · have g1 : 0 < b := by omega
        rw [if_neg (nI_nle g1 (by omega)), if_neg (by rw [nI_leI (by omega) (by omega)]; omega), show (1 : Int32) = nI 1 from rfl, pk_sub (by omega), if_pos (inb_nI (show 94 * fr + k - wd - 1 < 6016 by omega) (by omega)), nI_clamp (show 94 * fr + k - wd - 1 < 2 ^ 31 by omega), show (64 : Int32) - nI b = nI (64 - b) from by rw [show (64 : Int32) = nI 64 from rfl, pk_sub (by omega)], Option.bind_some, if_pos (inb_nI (show 94 * set + k < 6016 by omega) (by omega)), if_pos (inb_nI (show 94 * set + k < 6016 by omega) (by omega))]
        refine step _ (fun e he => ?_)
        rw [wf_or, wf_shl _ hb, wf_ush _ (show 64 - b < 64 by omega), decide_eq_true he, Bool.true_and]
        by_cases g : b ≤ e
        · rw [decide_eq_true g, Bool.true_and, lo e he g, wf_hi (show 64 ≤ 64 - b + e by omega), Bool.or_false]
          exact ⟨fun w => ⟨by omega, w⟩, fun w => w.2⟩
        · rw [decide_eq_false g, Bool.false_and, Bool.false_or, ← wf_src (f := J 80) (w := 94 * fr + k - wd - 1) (show 64 - b + e < 64 by omega), show 64 * (94 * fr + k - wd - 1) + (64 - b + e) = 64 * k + e - (64 * wd + b) + 64 * (94 * fr) by omega]
          exact ⟨fun w => ⟨by omega, w⟩, fun w => w.2⟩
/-- bit v of the reference's row -/
def wf_m (J : JT) (row v : Nat) : Prop := wf_j (J 80) (64 * (94 * row) + v) = true
theorem am_ok {set fr v : Nat} (hset : set < 64) (hfr : fr < 64) (hne : set ≠ fr) (hv : v ≤ 999) (J : JT) : ∃ J', f_X10_addMoved (nI set) (nI fr) (nI v) J = some J' ∧ (∀ k, k ≠ 80 → J' k = J k) ∧ ∀ row q, row < 64 → q < 6016 → (wf_m J' row q ↔ (wf_m J row q ∨ (row = set ∧ v ≤ q ∧ wf_m J fr (q - v)))) := by
  obtain ⟨J', a1, a2, a3⟩ := am16_ok hset hfr hne (wd := v / 64) (b := v % 64) (by omega) (by omega) 94 FU J (by omega) (by omega) (by unfold FU; omega)
  refine ⟨J', ?_, a2, fun row q hr hq => ?_⟩
  · unfold f_X10_addMoved
    rw [show (64 : Int32) = nI 64 from rfl, pk_rem (by omega) (by omega) (by omega), pk_div (by omega) (by omega) (by omega)]
    exact a1
  · unfold wf_m
    rw [a3]
    constructor
    · rintro (h | ⟨h1, h2, h3⟩)
      · exact Or.inl h
      · have e : row = set := by omega
        subst e
        refine Or.inr ⟨rfl, by omega, ?_⟩
        rw [show 64 * (94 * fr) + (q - v) = 64 * (94 * row) + q - (64 * (94 * row) + 64 * (v / 64) + v % 64) + 64 * (94 * fr) by omega]
        exact h3
    · rintro (h | ⟨rfl, h2, h3⟩)
      · exact Or.inl h
      · refine Or.inr ⟨by omega, by omega, ?_⟩
        rw [show 64 * (94 * row) + q - (64 * (94 * row) + 64 * (v / 64) + v % 64) + 64 * (94 * fr) = 64 * (94 * fr) + (q - v) by omega]
        exact h3
theorem low_ex : ∀ set, set < 64 → 0 < set → ∃ l, l < 6 ∧ set.testBit l = true ∧ ∀ j, j < l → set.testBit j = false := by decide +kernel
theorem low_lots : ∀ set, set < 64 → ∀ l, l < 6 → set.testBit l = true → (∀ j, j < l → set.testBit j = false) → lots6 set = l :: lots6 (set - 2 ^ l) ∧ set - 2 ^ l < set := by decide +kernel
theorem low_and : ∀ set, set < 64 → ∀ l, l < 6 → set.testBit l = true → (nI set &&& (((1 : Int32) <<< (nI l &&& 31)) ^^^ (-1))) = nI (set - 2 ^ l) := by decide +kernel
theorem fs43_ok {set l : Nat} (hs : set < 64) (hl : l < 6) (h1 : set.testBit l = true) (h2 : ∀ j, j < l → set.testBit j = false) : ∀ d n i, i + d = l → d < n → f_X10_findSums_43 n (nI set) (nI i) = some (nI l) := by
  intro d
  induction d with
  | zero =>
    intro n i hi hn
    obtain ⟨n, rfl⟩ : ∃ m, n = m + 1 := ⟨n - 1, by omega⟩
    obtain rfl : i = l := by omega
    unfold f_X10_findSums_43 f_X10_has
    rw [if_pos ((bit_ok set hs i hl).mpr h1), Option.bind_some, if_neg (by decide)]
  | succ d ih =>
    intro n i hi hn
    obtain ⟨n, rfl⟩ : ∃ m, n = m + 1 := ⟨n - 1, by omega⟩
    have ih' := ih n (i + 1) (by omega) (by omega)
    unfold f_X10_findSums_43 f_X10_has
    rw [if_neg (fun w => by have := (bit_ok set hs i (by omega)).mp w; rw [h2 i (by omega)] at this; exact absurd this (by decide)), Option.bind_some, if_pos rfl, nI_1, ih']
def wf_q (F : Nat → Nat → Prop) (set l v r q : Nat) : Prop := (r < set ∧ reach F (lots6 r) q) ∨ (r = set ∧ ∃ p, 1 ≤ p ∧ p < v ∧ F l p ∧ p ≤ q ∧ reach F (lots6 (set - 2 ^ l)) (q - p))
def wf_Q (F : Nat → Nat → Prop) (J : JT) (set l v : Nat) : Prop := ∀ r q, r < 64 → q < 6016 → (wf_m J r q ↔ wf_q F set l v r q)
theorem fs59_ok {F : Nat → Nat → Prop} {I : IT} (hF : ∀ l v, v ≤ 999 → f_X10_isFit (nI l) (nI v) I = some (cI (F l v))) {set l : Nat} (hs : set < 64) (hl : l < 6) (hb : set.testBit l = true) (h2 : set - 2 ^ l < set) : ∀ d n v J, v + d = 1000 → 1 ≤ v → d < n → wf_Q F J set l v → ∃ J', f_X10_findSums_59 n (nI set) (nI l) (nI v) I J = some J' ∧ (∀ k', k' ≠ 80 → J' k' = J k') ∧ wf_Q F J' set l 1000 := by
  intro d
  induction d with
  | zero =>
    intro n v J hv hv1 hn h
    obtain ⟨n, rfl⟩ : ∃ m, n = m + 1 := ⟨n - 1, by omega⟩
    obtain rfl : v = 1000 := by omega
    rw [f_X10_findSums_59, if_pos (by decide)]
    exact ⟨J, rfl, fun _ _ => rfl, h⟩
  | succ d ih =>
    intro n v J hv hv1 hn h
    obtain ⟨n, rfl⟩ : ∃ m, n = m + 1 := ⟨n - 1, by omega⟩
    rw [f_X10_findSums_59, if_neg (by rw [show (999 : Int32) = nI 999 from rfl, nI_ltI (by omega) (by omega)]; omega), hF _ v (by omega), Option.bind_some, nI_1]
    by_cases f : F l v
    · obtain ⟨J1, a1, a2, a3⟩ := am_ok hs (fr := set - 2 ^ l) (by omega) (by omega) (show v ≤ 999 by omega) J
      have lo : ∀ q, q < 6016 → (wf_m J (set - 2 ^ l) q ↔ reach F (lots6 (set - 2 ^ l)) q) := by
        intro q hq
        rw [h _ q (by omega) hq]
        unfold wf_q
        exact ⟨fun w => by
          rcases w with w | w
          · exact w.2
          · omega, fun w => Or.inl ⟨h2, w⟩⟩
      have h1 : wf_Q F J1 set l (v + 1) := by
        intro r q hr hq
        rw [a3 r q hr hq, h r q hr hq]
        unfold wf_q
        constructor
        · rintro ((w | ⟨w1, p, w3, w4, w5⟩) | ⟨w1, w3, w4⟩)
          · exact Or.inl w
          · exact Or.inr ⟨w1, p, w3, by omega, w5⟩
          · exact Or.inr ⟨w1, v, hv1, by omega, f, w3, (lo _ (by omega)).mp w4⟩
        · rintro (w | ⟨w1, p, w3, w4, w5, w6, w7⟩)
          · exact Or.inl (Or.inl w)
          · by_cases e : p = v
            · subst e
              exact Or.inr ⟨w1, w6, (lo _ (by omega)).mpr w7⟩
            · exact Or.inl (Or.inr ⟨w1, p, w3, by omega, w5, w6, w7⟩)
      obtain ⟨J', b1, b2, b3⟩ := ih n (v + 1) J1 (by omega) (by omega) (by omega) h1
      refine ⟨J', ?_, fun k' hk' => by rw [b2 k' hk', a2 k' hk'], b3⟩
      rw [cI_t f, if_neg (by decide), low_and set hs l hl hb, a1, Option.bind_some, b1]
    · have h1 : wf_Q F J set l (v + 1) := by
        intro r q hr hq
        rw [h r q hr hq]
        unfold wf_q
        constructor
        · rintro (w | ⟨w1, p, w3, w4, w5⟩)
          · exact Or.inl w
          · exact Or.inr ⟨w1, p, w3, by omega, w5⟩
        · rintro (w | ⟨w1, p, w3, w4, w5, w6⟩)
          · exact Or.inl w
          · by_cases e : p = v
            · subst e; exact absurd w5 f
            · exact Or.inr ⟨w1, p, w3, by omega, w5, w6⟩
      obtain ⟨J', b1, b2, b3⟩ := ih n (v + 1) J (by omega) (by omega) (by omega) h1
      exact ⟨J', by rw [cI_f f, if_pos rfl, b1], b2, b3⟩
/-- the rows below set are done, the others empty -/
def wf_D (F : Nat → Nat → Prop) (J : JT) (set : Nat) : Prop := ∀ r q, r < 64 → q < 6016 → (wf_m J r q ↔ (r < set ∧ reach F (lots6 r) q))
theorem fs31_ok {F : Nat → Nat → Prop} {I : IT} (hF : ∀ l v, v ≤ 999 → f_X10_isFit (nI l) (nI v) I = some (cI (F l v))) {s : Nat} (hs : s ≤ 6) (h55 : I 55 0 = nI s) : ∀ d n set J, set + d = 2 ^ s → 1 ≤ set → d < n → wf_D F J set → ∃ J', f_X10_findSums_31 n (nI set) I J = some J' ∧ (∀ k', k' ≠ 80 → J' k' = J k') ∧ wf_D F J' (2 ^ s) := by
  intro d
  have hp := pow_B hs
  induction d with
  | zero =>
    intro n set J hi h1 hn h
    obtain ⟨n, rfl⟩ : ∃ m, n = m + 1 := ⟨n - 1, by omega⟩
    obtain rfl : set = 2 ^ s := by omega
    rw [f_X10_findSums_31, h55, shl_2 s (by omega), if_pos (nI_le (Nat.le_refl _) (by omega))]
    exact ⟨J, rfl, fun _ _ => rfl, h⟩
  | succ d ih =>
    intro n set J hi h1 hn h
    obtain ⟨n, rfl⟩ : ∃ m, n = m + 1 := ⟨n - 1, by omega⟩
    obtain ⟨l, l1, l2, l3⟩ := low_ex set (by omega) (by omega)
    obtain ⟨e1, e2⟩ := low_lots set (by omega) l l1 l2 l3
    have hq : wf_Q F J set l 1 := by
      intro r q hr hq
      rw [h r q hr hq]
      unfold wf_q
      exact ⟨fun w => Or.inl w, fun w => by
        rcases w with w | ⟨-, p, w1, w2, -⟩
        · exact w
        · omega⟩
    obtain ⟨J1, a1, a2, a3⟩ := fs59_ok hF (show set < 64 by omega) l1 l2 e2 999 FU 1 J (by omega) (by omega) (by unfold FU; omega) hq
    have hD : wf_D F J1 (set + 1) := by
      intro r q hr hq
      rw [a3 r q hr hq]
      unfold wf_q
      constructor
      · rintro (⟨w1, w2⟩ | ⟨rfl, p, w3, w4, w5, w6, w7⟩)
        · exact ⟨by omega, w2⟩
        · refine ⟨by omega, ?_⟩
          rw [e1]
          exact ⟨p, q - p, w3, by omega, w5, w7, by omega⟩
      · rintro ⟨w1, w2⟩
        by_cases e : r = set
        · subst e
          rw [e1] at w2
          obtain ⟨p, u, k1, k2, k3, k4, rfl⟩ := w2
          exact Or.inr ⟨rfl, p, k1, by omega, k3, by omega, by rw [Nat.add_sub_cancel_left]; exact k4⟩
        · exact Or.inl ⟨by omega, w2⟩
    obtain ⟨J', b1, b2, b3⟩ := ih n (set + 1) J1 (by omega) (by omega) (by omega) hD
    refine ⟨J', ?_, fun k' hk' => by rw [b2 k' hk', a2 k' hk'], b3⟩
    have f43 := fs43_ok (show set < 64 by omega) l1 l2 l3 l FU 0 (by omega) (by unfold FU; omega)
    rw [nI_0] at f43
    rw [show (nI 1 : Int32) = 1 from rfl] at a1
    rw [f_X10_findSums_31, h55, shl_2 s (by omega), if_neg (by rw [nI_leI (by omega) (by omega)]; omega), f43, Option.bind_some, a1, Option.bind_some, nI_1, b1]
theorem fs2_ok {I : IT} : ∀ d n i J, i + d = 6016 → d < n → ∃ J', f_X10_findSums_2 n (nI i) I J = f_X10_findSums_31 FU 1 I (upJ J' 80 0 1) ∧ (∀ k, k ≠ 80 → J' k = J k) ∧ (∀ j, j < i → J' 80 j = J 80 j) ∧ ∀ j, i ≤ j → j < 6016 → J' 80 j = 0 := by
  intro d
  induction d with
  | zero =>
    intro n i J hi hn
    obtain ⟨n, rfl⟩ : ∃ m, n = m + 1 := ⟨n - 1, by omega⟩
    rw [f_X10_findSums_2, if_pos (by rw [show (6016 : Int32) = nI 6016 from rfl, nI_leI (by omega) (by omega)]; omega)]
    exact ⟨J, rfl, fun _ _ => rfl, fun _ _ => rfl, fun j h1 h2 => by omega⟩
  | succ d ih =>
    intro n i J hi hn
    obtain ⟨n, rfl⟩ : ∃ m, n = m + 1 := ⟨n - 1, by omega⟩
    obtain ⟨J', e1, e2, e3, e4⟩ := ih n (i + 1) (upJ J 80 i 0) (by omega) (by omega)
    refine ⟨J', ?_, fun k hk => by rw [e2 k hk, upJ_o hk], fun j hj => by rw [e3 j (by omega), upJ_j (by omega)], fun j h1 h2 => ?_⟩
    · rw [f_X10_findSums_2, if_neg (by rw [show (6016 : Int32) = nI 6016 from rfl, nI_leI (by omega) (by omega)]; omega), if_pos (inb_nI (show i < 6016 by omega) (by omega)), nI_clamp (by omega), nI_1, e1]
    · by_cases q : j = i
      · subst q; rw [e3 j (by omega), upJ_s]
      · exact e4 j (by omega) h2
theorem fs_ok {F : Nat → Nat → Prop} {I : IT} (hF : ∀ l v, v ≤ 999 → f_X10_isFit (nI l) (nI v) I = some (cI (F l v))) {s : Nat} (hs : s ≤ 6) (h55 : I 55 0 = nI s) (J : JT) : ∃ J', f_X10_findSums I J = some J' ∧ (∀ k', k' ≠ 80 → J' k' = J k') ∧ wf_D F J' (2 ^ s) := by
  have hp := pow_B hs
  obtain ⟨J1, a1, a2, -, a4⟩ := fs2_ok (I := I) 6016 FU 0 J (by omega) (by unfold FU; omega)
  have hD : wf_D F (upJ J1 80 0 1) 1 := by
    intro r q hr hq
    unfold wf_m
    rw [upJ_k]
    by_cases e : (64 * (94 * r) + q) / 64 = 0
    · unfold wf_j
      rw [e, pk_uLs, wf_1, decide_eq_true_eq]
      have e0 : r = 0 := by omega
      subst e0
      constructor
      · intro w
        exact ⟨by omega, (show q = 0 by omega)⟩
      · rintro ⟨-, w⟩
        have : q = 0 := w
        omega
    · rw [wf_un e]
      unfold wf_j
      rw [a4 _ (by omega) (by omega), wf_zero]
      constructor
      · intro w; exact absurd w (by decide)
      · rintro ⟨w1, w2⟩
        obtain rfl : r = 0 := by omega
        have : q = 0 := w2
        omega
  obtain ⟨J', b1, b2, b3⟩ := fs31_ok hF hs h55 (2 ^ s - 1) FU 1 _ (by omega) (by omega) (by unfold FU; omega) hD
  refine ⟨J', ?_, fun k' hk' => by rw [b2 k' hk', upJ_o hk', a2 k' hk'], b3⟩
  unfold f_X10_findSums
  rw [nI_0] at a1
  rw [a1]
  exact b1
theorem len_6 : ∀ set, set < 64 → (lots6 set).length ≤ 6 := by decide +kernel
theorem isSum_ok {F : Nat → Nat → Prop} {J : JT} {s : Nat} (hs : s ≤ 6) (h : wf_D F J (2 ^ s)) {set u : Nat} (hset : set < 2 ^ s) (hu : u ≤ 9999) : f_X10_isSum (nI set) (nI u) J = some (cI (reach F (lots6 set) u)) := by
  have hp := pow_B hs
  have h6 := len_6 set (by omega)
  unfold f_X10_isSum
  by_cases q : 6016 ≤ u
  · rw [if_pos (by rw [show (6016 : Int32) = nI 6016 from rfl, nI_leI (by omega) (by omega)]; exact q), cI_f (fun w => by have := reach_bd _ _ w; omega)]
  · rw [if_neg (by rw [show (6016 : Int32) = nI 6016 from rfl, nI_leI (by omega) (by omega)]; exact q), show (64 : Int32) = nI 64 from rfl, pk_rem (by omega) (by omega) (by omega), pk_div (by omega) (by omega) (by omega), show (94 : Int32) = nI 94 from rfl, pk_mul, nI_add, if_pos (inb_nI (show 94 * set + u / 64 < 6016 by omega) (by omega)), nI_clamp (by omega)]
    have e : lg_cmp ((J 80 (94 * set + u / 64) >>> ((nI (u % 64)).toInt64 &&& 63)) &&& 1) 1 = 0 ↔ reach F (lots6 set) u := by
      have := h set u (by omega) (by omega)
      rw [wf_one, wf_ssh _ (by omega)]
      unfold wf_m wf_j at this
      rw [show (64 * (94 * set) + u) / 64 = 94 * set + u / 64 by omega, show (64 * (94 * set) + u) % 64 = u % 64 by omega] at this
      rw [this]
      exact ⟨fun w => w.2, fun w => ⟨hset, w⟩⟩
    by_cases g : reach F (lots6 set) u
    · rw [if_pos (e.mpr g), cI_t g]
    · rw [if_neg (fun w => g (e.mp w)), cI_f g]
theorem wf44_ok {P : Nat → Prop} {I : IT} {J : JT} {s u : Nat} (hs : s ≤ 6) (h55 : I 55 0 = nI s) (a2 : Int32) (z : Int32) (h : ∀ set, set < 2 ^ s → f_X10_isSum (nI set) (nI u) J = some (cI (P set))) : ∀ d n i, i + d = 2 ^ s → d < n → f_X10_wentFor_44 n (nI u) a2 (nI (wf_n P i)) (wf_a P z i) (nI i) I J = some (if a2 = 0 then nI (wf_n P (2 ^ s)) else if nI (wf_n P (2 ^ s)) = 0 then -1 else wf_a P z (2 ^ s), J) := by
  intro d
  have hp := pow_B hs
  induction d with
  | zero =>
    intro n i hi hn
    obtain ⟨n, rfl⟩ : ∃ m, n = m + 1 := ⟨n - 1, by omega⟩
    obtain rfl : i = 2 ^ s := by omega
    rw [f_X10_wentFor_44, h55, shl_2 s (by omega), if_pos (nI_le (Nat.le_refl _) (by omega))]
    by_cases q : a2 = 0
    · rw [if_pos q, if_pos q]
    · rw [if_neg q, if_neg q]
      by_cases q2 : nI (wf_n P (2 ^ s)) = 0
      · rw [if_pos q2, if_pos q2]
      · rw [if_neg q2, if_neg q2]
  | succ d ih =>
    intro n i hi hn
    obtain ⟨n, rfl⟩ : ∃ m, n = m + 1 := ⟨n - 1, by omega⟩
    have i1 := ih n (i + 1) (by omega) (by omega)
    rw [f_X10_wentFor_44, h55, shl_2 s (by omega), if_neg (by rw [nI_leI (by omega) (by omega)]; omega), h i (by omega), Option.bind_some, nI_1, nI_1, ← i1, wf_n, wf_a]
    by_cases q : P i
    · rw [cI_t q, if_neg (show ¬ (1 : Int32) = 0 by decide), if_pos q, if_pos q]
    · rw [cI_f q, if_pos (show (0 : Int32) = 0 from rfl), if_neg q, if_neg q]
      rfl
theorem and_low : ∀ s, s < 7 → ∀ j, j ≤ 2 ^ s - 1 → j &&& (2 ^ s - 1) = j := by
  intro s hs j hj
  rw [Nat.and_two_pow_sub_one_eq_mod]
  have := Nat.two_pow_pos s
  exact Nat.mod_eq_of_lt (by omega)
theorem op_wentFor {I : IT} {J : JT} {s b k c w z : Nat} (h : RelA I J s b k c w z) (a1 a2 : Int32) : ∃ r I1 J1 J2, f_X9_wentFor a1 a2 I J = some (r, I1, J1) ∧ f_X10_wentFor a1 a2 I1 J1 = some (r, J2) ∧ RelA I1 J2 s b k c w z := by
  have h0 := h
  obtain ⟨hM, hC, hK, hW, hB, hT, hF, hS⟩ := h
  have e := hM.1
  have hp := pow_B e.1
  unfold f_X9_wentFor
  rw [isW, Option.bind_some]
  by_cases q1 : 0 ≤ a1 ∧ a1 ≤ 9999
  · rw [show b2 (0 ≤ a1 ∧ a1 ≤ 9999) = 1 from if_pos q1, if_neg (by decide), isW, Option.bind_some]
    by_cases q2 : 0 ≤ a2 ∧ a2 ≤ 1
    · rw [show b2 (0 ≤ a2 ∧ a2 ≤ 1) = 1 from if_pos q2, if_neg (by decide), hM.2.1.1]
      obtain ⟨u, hu, eu⟩ := rng_nI 9999 (by omega) q1
      obtain ⟨I1, J1, r1, r2, r3, r4, r5⟩ := refresh_ok hM hW hS
      have m1 : RelM I1 s b k := frameM hM (by simp +decide [r4]) (by simp +decide [r4])
      have w1 : RelW I1 s c := frameW hW (by simp +decide [r4]) (by rw [r4 _ (by decide)])
      have hfit : ∀ l v, v ≤ 999 → f_X10_isFit (nI l) (nI v) I1 = some (cI (fitP c (I 42) (I 43) (I 44) (I 45) l v)) := by
        intro l v hv
        have := (can_ok w1 hv (l := l)).2
        unfold FitI at this
        rw [r4 42 (by decide), r4 43 (by decide), r4 44 (by decide), r4 45 (by decide)] at this
        exact this
      obtain ⟨J2, s1, s2, s3⟩ := fs_ok hfit e.1 m1.2.2.1.1 J1
      have cx : ∀ set, set < 2 ^ s → f_X5_canSum (nI set) (nI u) J1 = some (cI (reach (fitP c (I 42) (I 43) (I 44) (I 45)) (lots6 set) u)) := fun set hset => canSum_ok e.1 rfl r2 hset hu
      have cm : ∀ set, set < 2 ^ s → f_X10_isSum (nI set) (nI u) J2 = some (cI (reach (fitP c (I 42) (I 43) (I 44) (I 45)) (lots6 set) u)) := fun set hset => isSum_ok e.1 s3 hset hu
      obtain ⟨x1, x2⟩ := sets_ok e.1 cx (2 ^ s) FU 0 (by omega) (by unfold FU; omega)
      have x3 := wf44_ok (I := I1) e.1 m1.2.2.1.1 a2 (nI (2 ^ s - 1)) cm (2 ^ s) FU 0 (by omega) (by unfold FU; omega)
      obtain ⟨y1, y2, y3⟩ := wf_a_m (fun set => reach (fitP c (I 42) (I 43) (I 44) (I 45)) (lots6 set) u) (2 ^ s - 1) (2 ^ s) (by omega) (by omega) (and_low s (by omega))
      have nle := wf_n_le (fun set => reach (fitP c (I 42) (I 43) (I 44) (I 45)) (lots6 set) u) (2 ^ s)
      obtain ⟨N, hN⟩ : ∃ N, N = wf_n (fun set => reach (fitP c (I 42) (I 43) (I 44) (I 45)) (lots6 set) u) (2 ^ s) := ⟨_, rfl⟩
      rw [← hN] at x1 x3 y2 y3 nle
      have rel : RelA I1 J2 s b k c w z := by
        refine ⟨m1, frameC hC (by simp +decide [r4]) (by simp +decide [r4]), frameK hK (by simp +decide [r4]), w1, frameB hB (by simp +decide [r4]) (by rw [r4 _ (by decide)]), frameT hT (by simp +decide [r4]) (by rw [r4 _ (by decide)]), ?_, Or.inr ⟨r3, ?_⟩⟩
        · rw [r4 55 (by decide), r4 0 (by decide)]; exact hF
        · rw [r4 42 (by decide), r4 43 (by decide), r4 44 (by decide), r4 45 (by decide), s2 47 (by decide)]; exact r2
      have ref : f_X10_wentFor a1 a2 I1 J1 = some (if a2 = 0 then nI N else if nI N = 0 then -1 else wf_a (fun set => reach (fitP c (I 42) (I 43) (I 44) (I 45)) (lots6 set) u) (nI (2 ^ s - 1)) (2 ^ s), J2) := by
        unfold f_X10_wentFor
        rw [in32 (lo := 0) (lo' := 0) (hi := 9999) (hi' := 9999) (by decide) (by decide), Option.bind_some, show b2 (0 ≤ a1 ∧ a1 ≤ 9999) = 1 from if_pos q1, if_neg (by decide), in32 (lo := 0) (lo' := 0) (hi := 1) (hi' := 1) (by decide) (by decide), Option.bind_some, show b2 (0 ≤ a2 ∧ a2 ≤ 1) = 1 from if_pos q2, if_neg (by decide), s1, Option.bind_some, m1.2.2.1.1, shl_2 s (by omega), show nI (2 ^ s) - 1 = nI (2 ^ s - 1) from by rw [show (1 : Int32) = nI 1 from rfl, pk_sub (by omega)], eu]
        rw [nI_0] at x3
        exact x3
      rw [r1, Option.bind_some]
      dsimp only
      rw [m1.2.1.1, eu]
      rw [eu] at ref
      unfold f_X5_setsFor f_X5_lotsInAll
      rw [nI_0] at x1 x2
      have x1' : f_X5_setsFor_5 FU (nI u) (nI s) 0 0 J1 = some (nI N) := x1
      have x2' : f_X5_lotsInAll_5 FU (nI u) (nI s) (-1) 0 J1 = some (wf_a (fun set => reach (fitP c (I 42) (I 43) (I 44) (I 45)) (lots6 set) u) (-1) (2 ^ s)) := x2
      rw [x1', x2', Option.bind_some, Option.bind_some]
      by_cases q3 : a2 = 0
      · rw [if_pos q3] at ref ⊢
        exact ⟨_, I1, J1, J2, rfl, ref, rel⟩
      · rw [if_neg q3] at ref ⊢
        refine ⟨_, I1, J1, J2, rfl, ?_, rel⟩
        rw [ref]
        by_cases n0 : N = 0
        · rw [n0, if_pos nI_0, y3 n0]
        · rw [if_neg (nI_ne0 (by omega) (by omega)), y1, y2 (by omega)]
    · rw [show b2 (0 ≤ a2 ∧ a2 ≤ 1) = 0 from if_neg q2, if_pos rfl]
      refine ⟨-1000002, I, J, J, rfl, ?_, h0⟩
      unfold f_X10_wentFor
      rw [in32 (lo := 0) (lo' := 0) (hi := 9999) (hi' := 9999) (by decide) (by decide), Option.bind_some, show b2 (0 ≤ a1 ∧ a1 ≤ 9999) = 1 from if_pos q1, if_neg (by decide), in32 (lo := 0) (lo' := 0) (hi := 1) (hi' := 1) (by decide) (by decide), Option.bind_some, show b2 (0 ≤ a2 ∧ a2 ≤ 1) = 0 from if_neg q2, if_pos rfl]
  · rw [show b2 (0 ≤ a1 ∧ a1 ≤ 9999) = 0 from if_neg q1, if_pos rfl]
    refine ⟨-1000002, I, J, J, rfl, ?_, h0⟩
    unfold f_X10_wentFor
    rw [in32 (lo := 0) (lo' := 0) (hi := 9999) (hi' := 9999) (by decide) (by decide), Option.bind_some, show b2 (0 ≤ a1 ∧ a1 ≤ 9999) = 0 from if_neg q1, if_pos rfl]
