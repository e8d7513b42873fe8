/-! which sets of lots can sum up to u: the class -/
/-- the lots of a set -/
def lots6 (set : Nat) : List Nat := lotsOf 0 (set % 8) ++ lotsOf 1 (set / 8)
theorem sum_x {F : Nat → Nat → Prop} {J : JT} {c s : Nat} {x42 x43 x44 x45 : Nat → Int32} (hF : F = fitP c x42 x43 x44 x45) (h : SumOK c x42 x43 x44 x45 s (J 47)) {t r v : Nat} (ht : t < 2) (hr : r < 8) (hv : v < 3008) (hl : ∀ l ∈ lotsOf t r, l < s) : wf_x J (8 * t + r) v ↔ reach F (lotsOf t r) v := by
  have key : (J 47 ((8 * t + r) * 47 + v / 64)).toBitVec.getLsbD (v % 64) = true ↔ wf_x J (8 * t + r) v := by
    unfold wf_x wf_j wf_b
    rw [show (64 * (47 * (8 * t + r)) + v) / 64 = (8 * t + r) * 47 + v / 64 by omega, show (64 * (47 * (8 * t + r)) + v) % 64 = v % 64 by omega]
  rw [← key, h t r v ht hr hv, hF]
  exact ⟨fun w => w.2, fun w => ⟨hl, w⟩⟩
theorem len_3 : ∀ t, t < 2 → ∀ r, r < 8 → (lotsOf t r).length ≤ 3 := by decide
theorem bitX {F : Nat → Nat → Prop} {J : JT} {row : Nat} (hrow : row < 16) {ls : List Nat} (h3 : ls.length ≤ 3) (h : ∀ v, v < 3008 → (wf_x J row v ↔ reach F ls v)) {v : Nat} (hv : v ≤ 9999) : f_X5_hasBit (nI (row * 47)) (nI v) J = some (cI (reach F ls v)) := by
  unfold f_X5_hasBit
  rw [if_neg (nI_pos (by omega))]
  by_cases q : 2997 < v
  · rw [if_pos (by rw [show (2997 : Int32) = nI 2997 from rfl, nI_ltI (by omega) (by omega)]; exact q), cI_f (fun w => by have := reach_bd _ _ w; omega)]
  · rw [if_neg (by rw [show (2997 : Int32) = nI 2997 from rfl, nI_ltI (by omega) (by omega)]; exact q), show (64 : Int32) = nI 64 from rfl, pk_div (by omega) (by omega) (by omega), nI_add, if_pos (inb_nI (show row * 47 + v / 64 < 752 by omega) (by omega)), nI_clamp (by omega), pk_mul, pk_sub (by omega), show v - v / 64 * 64 = v % 64 by omega]
    have e : lg_cmp ((((J 47 (row * 47 + v / 64)).toUInt64 >>> ((nI (v % 64)).toInt64.toUInt64 &&& Int64.toUInt64 63)).toInt64) &&& 1) 1 = 0 ↔ reach F ls v := by
      rw [wf_one, wf_ush _ (by omega), Nat.add_zero, ← h v (by omega)]
      unfold wf_x wf_j
      rw [show (64 * (47 * row) + v) / 64 = row * 47 + v / 64 by omega, show (64 * (47 * row) + v) % 64 = v % 64 by omega]
    by_cases g : reach F ls v
    · rw [if_pos (e.mpr g), cI_t g]
    · rw [if_neg (fun w => g (e.mp w)), cI_f g]
theorem can60_ok {J : JT} {lo hi : Int32} {A B : Nat → Prop} {u most : Nat} (hu : u ≤ 9999) (hm : most ≤ u) (hA : ∀ v, v ≤ 9999 → f_X5_hasBit lo (nI v) J = some (cI (A v))) (hB : ∀ v, v ≤ 9999 → f_X5_hasBit hi (nI v) J = some (cI (B v))) : ∀ d n x, x + d = most + 1 → d < n → f_X5_canSum_60 n (nI u) lo hi (nI most) (nI x) J = some (cI (∃ y, x ≤ y ∧ y ≤ most ∧ A y ∧ B (u - y))) := by
  intro d
  induction d with
  | zero =>
    intro n x hx hn
    obtain ⟨n, rfl⟩ : ∃ m, n = m + 1 := ⟨n - 1, by omega⟩
    rw [f_X5_canSum_60, if_pos (by rw [nI_ltI (by omega) (by omega)]; omega), cI_f (by rintro ⟨y, h1, h2, -⟩; omega)]
  | succ d ih =>
    intro n x hx hn
    obtain ⟨n, rfl⟩ : ∃ m, n = m + 1 := ⟨n - 1, by omega⟩
    have ih' := ih n (x + 1) (by omega) (by omega)
    rw [f_X5_canSum_60, if_neg (by rw [nI_ltI (by omega) (by omega)]; omega), hA x (by omega), Option.bind_some, pk_sub (by omega), hB (u - x) (by omega), Option.bind_some, nI_1, ih']
    by_cases a : A x
    · rw [cI_t a, if_neg (by decide)]
      by_cases b : B (u - x)
      · rw [cI_t b, if_neg (by decide), cI_t ⟨x, Nat.le_refl _, by omega, a, b⟩]
      · rw [cI_f b, if_pos rfl]
        congr 1
        refine cI_c ⟨fun ⟨y, h1, h2, h3, h4⟩ => ⟨y, by omega, h2, h3, h4⟩, fun ⟨y, h1, h2, h3, h4⟩ => ⟨y, ?_, h2, h3, h4⟩⟩
        by_cases e : y = x
        · subst e; exact absurd h4 b
        · omega
    · rw [cI_f a, if_pos rfl]
      congr 1
      refine cI_c ⟨fun ⟨y, h1, h2, h3, h4⟩ => ⟨y, by omega, h2, h3, h4⟩, fun ⟨y, h1, h2, h3, h4⟩ => ⟨y, ?_, h2, h3, h4⟩⟩
      by_cases e : y = x
      · subst e; exact absurd h3 a
      · omega
theorem can_end {J : JT} {lo hi : Int32} {u most x : Nat} (hu : u ≤ 9999) (hm : most < x) (hx : x ≤ 9999) (n : Nat) : f_X5_canSum_60 (n + 1) (nI u) lo hi (nI most) (nI x) J = some 0 := by
  rw [f_X5_canSum_60, if_pos (by rw [nI_ltI (by omega) (by omega)]; exact hm)]
theorem min_ok {a u : Nat} (ha : a ≤ 3) (hu : u ≤ 9999) : (if (999 * nI a) < nI u then (999 * nI a) else nI u) = nI (min u (999 * a)) := by
  rw [show (999 : Int32) = nI 999 from rfl, pk_mul]
  by_cases q : 999 * a < u
  · rw [if_pos (by rw [nI_ltI (by omega) (by omega)]; exact q), Nat.min_eq_right (by omega)]
  · rw [if_neg (by rw [nI_ltI (by omega) (by omega)]; exact q), Nat.min_eq_left (by omega)]
theorem max_ok {a u : Nat} (ha : a ≤ 3) (hu : u ≤ 9999) : (if (0 : Int32) < (nI u - (999 * nI a)) then (nI u - (999 * nI a)) else (0 : Int32)) = nI (u - 999 * a) := by
  rw [show (999 : Int32) = nI 999 from rfl, pk_mul]
  by_cases q : 999 * a < u
  · rw [pk_sub (by omega), if_pos (by rw [show (0 : Int32) = nI 0 from rfl, nI_ltI (by omega) (by omega)]; omega)]
  · by_cases q2 : u = 999 * a
    · subst q2; rw [pk_sub (Nat.le_refl _), Nat.sub_self]; rfl
    · have := pk_sneg (a := u) (b := 999 * a) (by omega) (by omega)
      rw [if_neg (by grind), show u - 999 * a = 0 by omega]
      rfl
theorem set_lots : ∀ s, s < 7 → ∀ set, set < 2 ^ s → (∀ l ∈ lotsOf 0 (set % 8), l < s) ∧ (∀ l ∈ lotsOf 1 (set / 8), l < s) := by decide +kernel
theorem canSum_ok {F : Nat → Nat → Prop} {J : JT} {c s : Nat} {x42 x43 x44 x45 : Nat → Int32} (hs : s ≤ 6) (hF : F = fitP c x42 x43 x44 x45) (h : SumOK c x42 x43 x44 x45 s (J 47)) {set u : Nat} (hset : set < 2 ^ s) (hu : u ≤ 9999) : f_X5_canSum (nI set) (nI u) J = some (cI (reach F (lots6 set) u)) := by
  have hp := pow_B hs
  obtain ⟨l1, l2⟩ := set_lots s (by omega) set hset
  have r1 : set % 8 < 8 := Nat.mod_lt _ (by omega)
  have r2 : set / 8 < 8 := by omega
  have n1 := len_3 0 (by omega) (set % 8) r1
  have n2 := len_3 1 (by omega) (set / 8) r2
  have hA : ∀ v, v ≤ 9999 → f_X5_hasBit (nI (set % 8 * 47)) (nI v) J = some (cI (reach F (lotsOf 0 (set % 8)) v)) := fun v hv => bitX (by omega) n1 (fun v hv => by
    have := sum_x hF h (t := 0) (by omega) r1 hv l1
    rw [show 8 * 0 + set % 8 = set % 8 by omega] at this
    exact this) hv
  have hB : ∀ v, v ≤ 9999 → f_X5_hasBit (nI ((8 + set / 8) * 47)) (nI v) J = some (cI (reach F (lotsOf 1 (set / 8)) v)) := fun v hv => bitX (by omega) n2 (fun v hv => by
    have := sum_x hF h (t := 1) (by omega) r2 hv l2
    rw [show 8 * 1 + set / 8 = 8 + set / 8 by omega] at this
    exact this) hv
  have p1 := lots_len 0 (by omega) (set % 8) r1
  have p2 := lots_len 1 (by omega) (set / 8) r2
  unfold f_X5_canSum
  rw [show (8 : Int32) = nI 8 from rfl, pk_rem (by omega) (by omega) (by omega), pk_div (by omega) (by omega) (by omega), popcX (show set % 8 < 16384 by omega), Option.bind_some, popcX (show set / 8 < 16384 by omega), Option.bind_some, ← p1, ← p2, min_ok n1 hu, max_ok n2 hu, nI_add, show (47 : Int32) = nI 47 from rfl, pk_mul, pk_mul]
  have goal : (∃ y, u - 999 * (lotsOf 1 (set / 8)).length ≤ y ∧ y ≤ min u (999 * (lotsOf 0 (set % 8)).length) ∧ reach F (lotsOf 0 (set % 8)) y ∧ reach F (lotsOf 1 (set / 8)) (u - y)) ↔ reach F (lots6 set) u := by
    unfold lots6
    rw [reach_app]
    constructor
    · rintro ⟨y, h1, h2, h3, h4⟩
      exact ⟨y, u - y, h3, h4, by omega⟩
    · rintro ⟨y, w, h3, h4, rfl⟩
      have b1 := reach_bd _ _ h3
      have b2 := reach_bd _ _ h4
      exact ⟨y, by omega, by omega, h3, by rw [Nat.add_sub_cancel_left]; exact h4⟩
  rw [← cI_c goal]
  by_cases q : u - 999 * (lotsOf 1 (set / 8)).length ≤ min u (999 * (lotsOf 0 (set % 8)).length) + 1
  · exact can60_ok hu (by omega) hA hB (min u (999 * (lotsOf 0 (set % 8)).length) + 1 - (u - 999 * (lotsOf 1 (set / 8)).length)) FU _ (by omega) (by unfold FU; omega)
  · rw [show FU = 99999 + 1 from rfl, can_end hu (by omega) (by omega), cI_f (by rintro ⟨y, h1, h2, -⟩; omega)]
/-- how many of the sets below i can, and what they share -/
noncomputable def wf_n (P : Nat → Prop) : Nat → Nat
  | 0 => 0
  | i + 1 => wf_n P i + @ite _ (P i) (Classical.propDecidable _) 1 0
noncomputable def wf_a (P : Nat → Prop) (z : Int32) : Nat → Int32
  | 0 => z
  | i + 1 => @ite _ (P i) (Classical.propDecidable _) (wf_a P z i &&& nI i) (wf_a P z i)
theorem wf_n_le (P : Nat → Prop) : ∀ i, wf_n P i ≤ i := by
  intro i
  induction i with
  | zero => exact Nat.le_refl _
  | succ i ih => rw [wf_n]; split <;> omega
theorem sets_ok {P : Nat → Prop} {J : JT} {s u : Nat} (hs : s ≤ 6) (h : ∀ set, set < 2 ^ s → f_X5_canSum (nI set) (nI u) J = some (cI (P set))) : ∀ d n i, i + d = 2 ^ s → d < n → f_X5_setsFor_5 n (nI u) (nI s) (nI (wf_n P i)) (nI i) J = some (nI (wf_n P (2 ^ s))) ∧ f_X5_lotsInAll_5 n (nI u) (nI s) (wf_a P (-1) i) (nI i) J = some (wf_a P (-1) (2 ^ s)) := by
  intro d
  have hp := pow_B hs
  induction d with
  | zero =>
    intro n i hi hn
    obtain ⟨n, rfl⟩ : ∃ m, n = m + 1 := ⟨n - 1, by omega⟩
    obtain rfl : i = 2 ^ s := by omega
    rw [f_X5_setsFor_5, f_X5_lotsInAll_5, shl_2 s (by omega), if_pos (nI_le (Nat.le_refl _) (by omega)), if_pos (nI_le (Nat.le_refl _) (by omega))]
    exact ⟨rfl, rfl⟩
  | succ d ih =>
    intro n i hi hn
    obtain ⟨n, rfl⟩ : ∃ m, n = m + 1 := ⟨n - 1, by omega⟩
    obtain ⟨i1, i2⟩ := ih n (i + 1) (by omega) (by omega)
    rw [f_X5_setsFor_5, f_X5_lotsInAll_5, shl_2 s (by omega), if_neg (by rw [nI_leI (by omega) (by omega)]; omega), if_neg (by rw [nI_leI (by omega) (by omega)]; omega), h i (by omega), Option.bind_some, Option.bind_some, nI_1, nI_1, ← i1, ← i2, wf_n, wf_a]
    by_cases q : P i
    · rw [cI_t q, if_neg (show ¬ (1 : Int32) = 0 by decide), if_neg (show ¬ (1 : Int32) = 0 by decide), if_pos q, if_pos q]
      exact ⟨rfl, rfl⟩
    · rw [cI_f q, if_pos rfl, if_pos rfl, if_neg q, if_neg q, Int32.add_zero]
      exact ⟨rfl, rfl⟩
theorem wf_a_m (P : Nat → Prop) (m : Nat) : ∀ i, i ≤ m + 1 → m < 2 ^ 30 → (∀ j, j ≤ m → j &&& m = j) → wf_a P (nI m) i = wf_a P (-1) i &&& nI m ∧ (0 < wf_n P i → wf_a P (-1) i &&& nI m = wf_a P (-1) i) ∧ (wf_n P i = 0 → wf_a P (-1) i = -1) := by
  intro i
  induction i with
  | zero =>
    intro _ _ _
    refine ⟨?_, fun h => absurd h (Nat.lt_irrefl 0), fun _ => rfl⟩
    rw [wf_a, wf_a]
    exact (Int32.neg_one_and).symm
  | succ i ih =>
    intro hi hm hj
    obtain ⟨k1, k2, k3⟩ := ih (by omega) hm hj
    rw [wf_a, wf_a, wf_n]
    by_cases q : P i
    · rw [if_pos q, if_pos q, if_pos q, k1]
      have e : (wf_a P (-1) i &&& nI i) &&& nI m = wf_a P (-1) i &&& nI i := by
        rw [Int32.and_assoc, fa_and, hj i (by omega)]
      refine ⟨?_, fun _ => e, fun h => by omega⟩
      rw [Int32.and_assoc, Int32.and_assoc, Int32.and_comm (nI m)]
    · rw [if_neg q, if_neg q, if_neg q, Nat.add_zero]
      exact ⟨k1, k2, k3⟩
