/-! what lots can sum up to: the class's rows -/
theorem reach_bd {F : Nat → Nat → Prop} : ∀ ls v, reach F ls v → v ≤ 999 * ls.length := by
  intro ls
  induction ls with
  | nil => intro v h; rw [show v = 0 from h]; omega
  | cons l ls ih =>
    rintro v ⟨p, u, h1, h2, h3, h4, rfl⟩
    have := ih u h4
    rw [List.length_cons]
    omega
theorem reach_app {F : Nat → Nat → Prop} : ∀ a b v, reach F (a ++ b) v ↔ ∃ u w, reach F a u ∧ reach F b w ∧ v = u + w := by
  intro a
  induction a with
  | nil =>
    intro b v
    rw [List.nil_append]
    constructor
    · intro h; exact ⟨0, v, rfl, h, by omega⟩
    · rintro ⟨u, w, h1, h2, rfl⟩
      rw [show u = 0 from h1, Nat.zero_add]; exact h2
  | cons l a ih =>
    intro b v
    rw [List.cons_append]
    constructor
    · rintro ⟨p, x, h1, h2, h3, h4, rfl⟩
      obtain ⟨u, w, k1, k2, rfl⟩ := (ih b x).mp h4
      exact ⟨p + u, w, ⟨p, u, h1, h2, h3, k1, rfl⟩, k2, by omega⟩
    · rintro ⟨u, w, ⟨p, x, h1, h2, h3, h4, rfl⟩, k2, rfl⟩
      exact ⟨p, x + w, h1, h2, h3, (ih b (x + w)).mpr ⟨x, w, h4, k2, rfl⟩, by omega⟩
theorem reach_one {F : Nat → Nat → Prop} {l v : Nat} : reach F [l] v ↔ 1 ≤ v ∧ v ≤ 999 ∧ F l v := by
  constructor
  · rintro ⟨p, u, h1, h2, h3, h4, rfl⟩
    rw [show u = 0 from h4, Nat.add_zero]
    exact ⟨h1, h2, h3⟩
  · rintro ⟨h1, h2, h3⟩
    exact ⟨v, 0, h1, h2, h3, rfl, rfl⟩
theorem lots_hi : ∀ t, t < 2 → ∀ k, k < 3 → ∀ r, r < 2 ^ k → lotsOf t (r + 2 ^ k) = lotsOf t r ++ [3 * t + k] := by decide
theorem lots_len : ∀ t, t < 2 → ∀ r, r < 8 → (lotsOf t r).length = pN r 14 := by decide
theorem lots_0 : ∀ t, t < 2 → lotsOf t 0 = [] := by decide
theorem shl_2 : ∀ k, k < 31 → ((1 : Int32) <<< (nI k &&& 31)) = nI (2 ^ k) := by decide +kernel
theorem pow_k : ∀ k, k < 3 → 1 ≤ 2 ^ k ∧ 2 ^ k ≤ 4 ∧ 2 ^ (k + 1) = 2 * 2 ^ k := by decide
theorem pc_3 : ∀ r, r < 4 → pN r 14 ≤ 2 := by decide
theorem wd_ok : ∀ p, p < 3 → (if (1 : Int32) < (nI p * 16) then (nI p * 16) else (1 : Int32)) = nI (if p = 0 then 1 else 16 * p) := by decide
theorem ap3_ok {t k v : Nat} (ht : t < 2) (hk : k < 3) (hv : v ≤ 999) : ∀ d n i J, i + d = 2 ^ k → d < n → (∀ r u, r < 2 ^ k → u < 3008 → wf_x J (8 * t + r) u → u ≤ 999 * pN r 14) → ∃ J', f_X5_addPrice_3 n (nI (8 * t)) (nI k) (nI v) (nI i) J = some J' ∧ (∀ k', k' ≠ 47 → J' k' = J k') ∧ ∀ row q, row < 16 → q < 3008 → (wf_x J' row q ↔ (wf_x J row q ∨ (8 * t + 2 ^ k + i ≤ row ∧ row < 8 * t + 2 ^ (k + 1) ∧ v ≤ q ∧ wf_x J (row - 2 ^ k) (q - v)))) := by
  intro d
  obtain ⟨g1, g2, g3⟩ := pow_k k hk
  rw [g3]
  obtain ⟨K, hK⟩ : ∃ K, K = 2 ^ k := ⟨_, rfl⟩
  rw [← hK] at g1 g2 ⊢
  induction d with
  | zero =>
    intro n i J hi hn hs
    obtain ⟨n, rfl⟩ : ∃ m, n = m + 1 := ⟨n - 1, by omega⟩
    rw [f_X5_addPrice_3, shl_2 k (by omega), ← hK, if_pos (by rw [nI_leI (by omega) (by omega)]; omega)]
    refine ⟨J, rfl, fun _ _ => rfl, fun row q h1 h2 => ⟨fun h => Or.inl h, fun h => ?_⟩⟩
    rcases h with h | h
    · exact h
    · omega
  | succ d ih =>
    intro n i J hi hn hs
    obtain ⟨n, rfl⟩ : ∃ m, n = m + 1 := ⟨n - 1, by omega⟩
    have p3 := pc_3 i (by omega)
    obtain ⟨J1, a1, a2, a3⟩ := sh_ok (to := 8 * t + i + K) (fr := 8 * t + i) (wd := if pN i 14 = 0 then 1 else 16 * pN i 14) (v := v) (by omega) (by omega) (by split <;> omega) hv J
    have keep : ∀ row q, row < 16 → q < 3008 → row ≠ 8 * t + i + K → (wf_x J1 row q ↔ wf_x J row q) := fun row q h1 h2 h3 => by
      rw [a3 row q h1 h2]
      exact ⟨fun h => by
        rcases h with h | h
        · exact h
        · exact absurd h.1 h3, fun h => Or.inl h⟩
    obtain ⟨J', b1, b2, b3⟩ := ih n (i + 1) J1 (by omega) (by omega) (fun r u h1 h2 h3 => hs r u h1 h2 ((keep _ u (by omega) h2 (by omega)).mp h3))
    refine ⟨J', ?_, fun k' hk' => by rw [b2 k' hk', a2 k' hk'], fun row q h1 h2 => ?_⟩
    · rw [f_X5_addPrice_3, shl_2 k (by omega), ← hK, if_neg (by rw [nI_leI (by omega) (by omega)]; omega), popcX (show i < 16384 by omega), Option.bind_some, wd_ok _ (by omega), nI_add, nI_add, a1, Option.bind_some, nI_1, b1]
    · rw [b3 row q h1 h2, a3 row q h1 h2]
      constructor
      · rintro ((h | ⟨h, h4, h5, h6⟩) | ⟨h, h4, h5, h6⟩)
        · exact Or.inl h
        · refine Or.inr ⟨by omega, by omega, h4, ?_⟩
          rw [h, show 8 * t + i + K - K = 8 * t + i by omega]; exact h6
        · exact Or.inr ⟨by omega, h4, h5, (keep _ _ (by omega) (by omega) (by omega)).mp h6⟩
      · rintro (h | ⟨h, h4, h5, h6⟩)
        · exact Or.inl (Or.inl h)
        · by_cases g : row = 8 * t + i + K
          · rw [g, show 8 * t + i + K - K = 8 * t + i by omega] at h6
            have := hs i (q - v) (by omega) (by omega) h6
            exact Or.inl (Or.inr ⟨g, h5, by split <;> omega, h6⟩)
          · exact Or.inr ⟨by omega, h4, h5, (keep _ _ (by omega) (by omega) (by omega)).mpr h6⟩
/-- the half t, its lots below k done, lot k up to price v -/
def wf_h (F : Nat → Nat → Prop) (t k v r q : Nat) : Prop := (r < 2 ^ k ∧ reach F (lotsOf t r) q) ∨ (2 ^ k ≤ r ∧ r < 2 ^ (k + 1) ∧ ∃ p, 1 ≤ p ∧ p < v ∧ F (3 * t + k) p ∧ p ≤ q ∧ reach F (lotsOf t (r - 2 ^ k)) (q - p))
def wf_H (F : Nat → Nat → Prop) (J : JT) (t k v : Nat) : Prop := ∀ r q, r < 8 → q < 3008 → (wf_x J (8 * t + r) q ↔ wf_h F t k v r q)
theorem fh28_ok {F : Nat → Nat → Prop} {I : IT} (hF : ∀ l v, v ≤ 999 → f_X8_canBe (nI l) (nI v) I = some (cI (F l v))) {t k : Nat} (ht : t < 2) (hk : k < 3) (v3 : Int32) : ∀ d n v J, v + d = 1000 → 1 ≤ v → d < n → wf_H F J t k v → ∃ J', f_X5_fillHalf_28 n (nI (8 * t)) (nI (3 * t)) v3 (nI k) (nI v) I J = some J' ∧ (∀ k', k' ≠ 47 → J' k' = J k') ∧ wf_H F J' t k 1000 ∧ ∀ row q, row < 16 → q < 3008 → (row < 8 * t ∨ 8 * t + 8 ≤ row) → (wf_x J' row q ↔ wf_x J row q) := by
  intro d
  obtain ⟨g1, g2, g3⟩ := pow_k k hk
  induction d with
  | zero =>
    intro n v J hv hv1 hn h
    obtain ⟨n, rfl⟩ : ∃ m, n = m + 1 := ⟨n - 1, by omega⟩
    obtain rfl : v = 1000 := by omega
    rw [f_X5_fillHalf_28, if_pos (by decide)]
    exact ⟨J, rfl, fun _ _ => rfl, h, fun _ _ _ _ _ => Iff.rfl⟩
  | succ d ih =>
    intro n v J hv hv1 hn h
    obtain ⟨n, rfl⟩ : ∃ m, n = m + 1 := ⟨n - 1, by omega⟩
    rw [f_X5_fillHalf_28, if_neg (by rw [show (999 : Int32) = nI 999 from rfl, nI_ltI (by omega) (by omega)]; omega), nI_add, hF _ v (by omega), Option.bind_some, nI_1]
    by_cases f : F (3 * t + k) v
    · have lo : ∀ r q, r < 2 ^ k → q < 3008 → (wf_x J (8 * t + r) q ↔ reach F (lotsOf t r) q) := by
        intro r q hr hq
        rw [h r q (by omega) hq]
        unfold wf_h
        exact ⟨fun w => by
          rcases w with w | w
          · exact w.2
          · omega, fun w => Or.inl ⟨hr, w⟩⟩
      obtain ⟨J1, a1, a2, a3⟩ := ap3_ok ht hk (show v ≤ 999 by omega) (2 ^ k) FU 0 J (by omega) (by unfold FU; omega) (fun r u hr hu hx => by
        have := reach_bd _ _ ((lo r u hr hu).mp hx)
        rw [lots_len t ht r (by omega)] at this
        exact this)
      rw [nI_0] at a1
      have h1 : wf_H F J1 t k (v + 1) := by
        intro r q hr hq
        rw [a3 (8 * t + r) q (by omega) hq, h r q hr hq]
        unfold wf_h
        constructor
        · rintro ((w | ⟨w1, w2, p, w3, w4, w5⟩) | ⟨w1, w2, w3, w4⟩)
          · exact Or.inl w
          · exact Or.inr ⟨w1, w2, p, w3, by omega, w5⟩
          · refine Or.inr ⟨by omega, by omega, v, hv1, by omega, f, w3, ?_⟩
            rw [show 8 * t + r - 2 ^ k = 8 * t + (r - 2 ^ k) by omega] at w4
            exact (lo _ _ (by omega) (by omega)).mp w4
        · rintro (w | ⟨w1, w2, p, w3, w4, w5, w6, w7⟩)
          · exact Or.inl (Or.inl w)
          · by_cases e : p = v
            · subst e
              refine Or.inr ⟨by omega, by omega, w6, ?_⟩
              rw [show 8 * t + r - 2 ^ k = 8 * t + (r - 2 ^ k) by omega]
              exact (lo _ _ (by omega) (by omega)).mpr w7
            · exact Or.inl (Or.inr ⟨w1, w2, p, w3, by omega, w5, w6, w7⟩)
      obtain ⟨J', b1, b2, b3, b4⟩ := ih n (v + 1) J1 (by omega) (by omega) (by omega) h1
      refine ⟨J', ?_, fun k' hk' => by rw [b2 k' hk', a2 k' hk'], b3, fun row q r1 r2 r3 => ?_⟩
      · rw [cI_t f, if_neg (by decide)]
        unfold f_X5_addPrice
        rw [a1, Option.bind_some, b1]
      · rw [b4 row q r1 r2 r3, a3 row q r1 r2]
        exact ⟨fun w => by
          rcases w with w | w
          · exact w
          · omega, fun w => Or.inl w⟩
    · have h1 : wf_H F J t k (v + 1) := by
        intro r q hr hq
        rw [h r q hr hq]
        unfold wf_h
        constructor
        · rintro (w | ⟨w1, w2, p, w3, w4, w5⟩)
          · exact Or.inl w
          · exact Or.inr ⟨w1, w2, p, w3, by omega, w5⟩
        · rintro (w | ⟨w1, w2, p, w3, w4, w5, w6⟩)
          · exact Or.inl w
          · by_cases e : p = v
            · subst e; exact absurd w5 f
            · exact Or.inr ⟨w1, w2, p, w3, by omega, w5, w6⟩
      obtain ⟨J', b1, b2, b3, b4⟩ := ih n (v + 1) J (by omega) (by omega) (by omega) h1
      exact ⟨J', by rw [cI_f f, if_pos rfl, b1], b2, b3, b4⟩
theorem fh13_ok {F : Nat → Nat → Prop} {I : IT} (hF : ∀ l v, v ≤ 999 → f_X8_canBe (nI l) (nI v) I = some (cI (F l v))) {t m : Nat} (ht : t < 2) (hm : m ≤ 3) : ∀ d n k J, k + d = m → d < n → wf_H F J t k 1 → ∃ J', f_X5_fillHalf_13 n (nI (8 * t)) (nI (3 * t)) (nI m) (nI k) I J = some J' ∧ (∀ k', k' ≠ 47 → J' k' = J k') ∧ wf_H F J' t m 1 ∧ ∀ row q, row < 16 → q < 3008 → (row < 8 * t ∨ 8 * t + 8 ≤ row) → (wf_x J' row q ↔ wf_x J row q) := by
  intro d
  induction d with
  | zero =>
    intro n k J hk hn h
    obtain ⟨n, rfl⟩ : ∃ m, n = m + 1 := ⟨n - 1, by omega⟩
    obtain rfl : k = m := by omega
    rw [f_X5_fillHalf_13, if_pos (nI_le (Nat.le_refl _) (by omega))]
    exact ⟨J, rfl, fun _ _ => rfl, h, fun _ _ _ _ _ => Iff.rfl⟩
  | succ d ih =>
    intro n k J hk hn h
    obtain ⟨n, rfl⟩ : ∃ m, n = m + 1 := ⟨n - 1, by omega⟩
    obtain ⟨g1, g2, g3⟩ := pow_k k (by omega)
    obtain ⟨J1, a1, a2, a3, a4⟩ := fh28_ok hF ht (show k < 3 by omega) (nI m) 999 FU 1 J (by omega) (by omega) (by unfold FU; omega) h
    have h1 : wf_H F J1 t (k + 1) 1 := by
      intro r q hr hq
      rw [a3 r q hr hq]
      unfold wf_h
      constructor
      · rintro (⟨w1, w2⟩ | ⟨w1, w2, p, w3, w4, w5, w6, w7⟩)
        · exact Or.inl ⟨by omega, w2⟩
        · refine Or.inl ⟨w2, ?_⟩
          have e := lots_hi t ht k (by omega) (r - 2 ^ k) (by omega)
          rw [show r - 2 ^ k + 2 ^ k = r by omega] at e
          rw [e, reach_app]
          exact ⟨q - p, p, w7, reach_one.mpr ⟨w3, by omega, w5⟩, by omega⟩
      · rintro (⟨w1, w2⟩ | ⟨w1, w2, p, w3, w4, w5⟩)
        · by_cases e0 : r < 2 ^ k
          · exact Or.inl ⟨e0, w2⟩
          · have e := lots_hi t ht k (by omega) (r - 2 ^ k) (by omega)
            rw [show r - 2 ^ k + 2 ^ k = r by omega] at e
            rw [e, reach_app] at w2
            obtain ⟨u, w, k1, k2, rfl⟩ := w2
            obtain ⟨k3, k4, k5⟩ := reach_one.mp k2
            exact Or.inr ⟨by omega, w1, w, k3, by omega, k5, by omega, by rw [Nat.add_sub_cancel]; exact k1⟩
        · omega
    obtain ⟨J', b1, b2, b3, b4⟩ := ih n (k + 1) J1 (by omega) (by omega) h1
    refine ⟨J', ?_, fun k' hk' => by rw [b2 k' hk', a2 k' hk'], b3, fun row q r1 r2 r3 => by rw [b4 row q r1 r2 r3, a4 row q r1 r2 r3]⟩
    rw [show (nI 1 : Int32) = 1 from rfl] at a1
    rw [f_X5_fillHalf_13, if_neg (by rw [nI_leI (by omega) (by omega)]; omega), if_neg (by rw [show (3 : Int32) = nI 3 from rfl, nI_leI (by omega) (by omega)]; omega), a1, Option.bind_some, nI_1, b1]
theorem wf_1 (i : Nat) : wf_b 1 i = decide (i = 0) := by
  unfold wf_b
  show (1#64).getLsbD i = _
  rw [BitVec.getLsbD_one]
  simp
theorem fh_ok {F : Nat → Nat → Prop} {I : IT} (hF : ∀ l v, v ≤ 999 → f_X8_canBe (nI l) (nI v) I = some (cI (F l v))) {t m : Nat} (ht : t < 2) (hm : m ≤ 3) {J : JT} (h0 : ∀ r q, r < 8 → q < 3008 → ¬ wf_x J (8 * t + r) q) : ∃ J', f_X5_fillHalf (nI (8 * t)) (nI (3 * t)) (nI m) I J = some J' ∧ (∀ k', k' ≠ 47 → J' k' = J k') ∧ wf_H F J' t m 1 ∧ ∀ row q, row < 16 → q < 3008 → (row < 8 * t ∨ 8 * t + 8 ≤ row) → (wf_x J' row q ↔ wf_x J row q) := by
  have keep : ∀ row q, row < 16 → q < 3008 → row ≠ 8 * t → (wf_x (upJ J 47 (8 * t * 47) 1) row q ↔ wf_x J row q) := fun row q h1 h2 h3 => by
    unfold wf_x
    rw [upJ_k, wf_un (by omega)]
  have h1 : wf_H F (upJ J 47 (8 * t * 47) 1) t 0 1 := by
    intro r q hr hq
    unfold wf_h
    by_cases e : r = 0
    · subst e
      rw [lots_0 t ht]
      constructor
      · intro w
        refine Or.inl ⟨by decide, ?_⟩
        unfold wf_x at w
        rw [upJ_k] at w
        by_cases e2 : q / 64 = 0
        · unfold wf_j at w
          rw [show (64 * (47 * (8 * t + 0)) + q) / 64 = 8 * t * 47 by omega, pk_uLs, wf_1, decide_eq_true_eq] at w
          show q = 0
          omega
        · rw [wf_un (by omega)] at w
          exact absurd w (h0 0 q hr hq)
      · rintro (⟨-, w⟩ | ⟨-, -, p, w1, w2, -⟩)
        · rw [show q = 0 from w]
          unfold wf_x wf_j
          rw [upJ_k, show (64 * (47 * (8 * t + 0)) + 0) / 64 = 8 * t * 47 by omega, pk_uLs, wf_1, decide_eq_true_eq]
          omega
        · omega
    · rw [keep (8 * t + r) q (by omega) hq (by omega)]
      constructor
      · intro w; exact absurd w (h0 r q hr hq)
      · rintro (⟨w, -⟩ | ⟨-, -, p, w1, w2, -⟩)
        · exact absurd w (by rw [Nat.pow_zero]; omega)
        · omega
  obtain ⟨J', b1, b2, b3, b4⟩ := fh13_ok hF ht hm m FU 0 _ (by omega) (by unfold FU; omega) h1
  refine ⟨J', ?_, fun k' hk' => by rw [b2 k' hk', upJ_o hk'], b3, fun row q r1 r2 r3 => by rw [b4 row q r1 r2 r3, keep row q r1 r2 (by omega)]⟩
  unfold f_X5_fillHalf
  rw [show (47 : Int32) = nI 47 from rfl, pk_mul, if_pos (inb_nI (show 8 * t * 47 < 752 by omega) (by omega)), nI_clamp (by omega), ← nI_0, b1]
theorem fz_47 : ∀ d n i J, i + d = 752 → d < n → ∃ J', f_J7_fill_d0a16_47_6 n 0 (nI i) 752 J = some J' ∧ (∀ k, k ≠ 47 → J' k = J k) ∧ (∀ j, j < i → J' 47 j = J 47 j) ∧ ∀ j, i ≤ j → j < 752 → J' 47 j = 0 := by
  intro d
  induction d with
  | zero =>
    intro n i J hi hn
    obtain ⟨n, rfl⟩ : ∃ m, n = m + 1 := ⟨n - 1, by omega⟩
    rw [f_J7_fill_d0a16_47_6, if_pos (by rw [show (752 : Int32) = nI 752 from rfl, nI_leI (by omega) (by omega)]; omega)]
    exact ⟨J, rfl, fun _ _ => rfl, fun _ _ => rfl, fun j h1 h2 => by omega⟩
  | succ d ih =>
    intro n i J hi hn
    obtain ⟨n, rfl⟩ : ∃ m, n = m + 1 := ⟨n - 1, by omega⟩
    obtain ⟨J', e1, e2, e3, e4⟩ := ih n (i + 1) (upJ J 47 i 0) (by omega) (by omega)
    refine ⟨J', ?_, fun k hk => by rw [e2 k hk, upJ_o hk], fun j hj => by rw [e3 j (by omega), upJ_j (by omega)], fun j h1 h2 => ?_⟩
    · rw [f_J7_fill_d0a16_47_6, if_neg (by rw [show (752 : Int32) = nI 752 from rfl, nI_leI (by omega) (by omega)]; omega), if_pos (inb_nI (show i < 752 by omega) (by omega)), nI_clamp (by omega), nI_1, e1]
    · by_cases q : j = i
      · subst q; rw [e3 j (by omega), upJ_s]
      · exact e4 j (by omega) h2
theorem half_n : ∀ s, s < 7 → (if (3 : Int32) < nI s then (3 : Int32) else nI s) = nI (min s 3) ∧ (if (0 : Int32) < (nI s - 3) then (nI s - 3) else (0 : Int32)) = nI (s - 3) := by decide
theorem half_s : ∀ s, s < 7 → ∀ r, r < 8 → (r < 2 ^ (min s 3) ↔ ∀ l ∈ lotsOf 0 r, l < s) ∧ (r < 2 ^ (s - 3) ↔ ∀ l ∈ lotsOf 1 r, l < s) := by decide +kernel
theorem refresh_ok {I : IT} {J : JT} {s b k c : Nat} (hM : RelM I s b k) (hW : RelW I s c) (hS : RelS I J s c) : ∃ I1 J1, f_X5_refresh (nI s) I J = some (I1, J1) ∧ SumOK c (I 42) (I 43) (I 44) (I 45) s (J1 47) ∧ I1 46 2 = 0 ∧ (∀ c', c' ≠ 46 → I1 c' = I c') ∧ (∀ k', k' ≠ 47 → J1 k' = J k') := by
  have e := hM.1
  unfold f_X5_refresh
  rcases hS with h | ⟨h, h'⟩
  · rw [h, if_neg (by decide)]
    obtain ⟨J1, a1, a2, -, a4⟩ := fz_47 752 FU 0 J (by omega) (by unfold FU; omega)
    have fr : ∀ c', c' ≠ 46 → upI I 46 2 0 c' = I c' := fun c' hc' => upI_o hc'
    have hW' : RelW (upI I 46 2 0) s c := frameW hW (by simp +decide [fr]) (by rw [fr _ (by decide)])
    have hF : ∀ l v, v ≤ 999 → f_X8_canBe (nI l) (nI v) (upI I 46 2 0) = some (cI (fitP c (I 42) (I 43) (I 44) (I 45) l v)) := by
      intro l v hv
      have := (can_ok hW' hv (l := l)).1
      unfold FitI at this
      rw [fr 42 (by decide), fr 43 (by decide), fr 44 (by decide), fr 45 (by decide)] at this
      exact this
    have z : ∀ row q, row < 16 → q < 3008 → ¬ wf_x J1 row q := by
      intro row q h1 h2
      unfold wf_x wf_j
      rw [a4 _ (by omega) (by omega), wf_zero]
      decide
    obtain ⟨n1, n2⟩ := half_n s (by omega)
    obtain ⟨J2, b1, b2, b3, b4⟩ := fh_ok hF (t := 0) (m := min s 3) (by omega) (by omega) (J := J1) (fun r q h1 h2 => z _ q (by omega) h2)
    obtain ⟨J3, c1, c2, c3, c4⟩ := fh_ok hF (t := 1) (m := s - 3) (by omega) (by omega) (J := J2) (fun r q h1 h2 => by
      rw [b4 _ q (by omega) h2 (by omega)]
      exact z _ q (by omega) h2)
    refine ⟨_, J3, ?_, ?_, upI_s, fr, fun k' hk' => by rw [c2 k' hk', b2 k' hk', a2 k' hk']⟩
    · unfold f_J7_fill_d0a16_47
      rw [nI_0] at a1
      rw [show nI (8 * 0) = 0 from rfl] at b1
      rw [show nI (8 * 1) = 8 from rfl, show nI (3 * 1) = 3 from rfl] at c1
      rw [a1, Option.bind_some, n1, n2, b1, Option.bind_some, c1, Option.bind_some]
    · intro t r v ht hr hv
      have key : (J3 47 ((8 * t + r) * 47 + v / 64)).toBitVec.getLsbD (v % 64) = true ↔ wf_x J3 (8 * t + r) v := by
        unfold wf_x wf_j wf_b
        rw [show (64 * (47 * (8 * t + r)) + v) / 64 = (8 * t + r) * 47 + v / 64 by omega, show (64 * (47 * (8 * t + r)) + v) % 64 = v % 64 by omega]
      rw [key]
      obtain ⟨s1, s2⟩ := half_s s (by omega) r hr
      have : t = 0 ∨ t = 1 := by omega
      rcases this with rfl | rfl
      · rw [c4 (8 * 0 + r) v (by omega) hv (by omega), b3 r v hr hv, ← s1]
        unfold wf_h
        exact ⟨fun w => by
          rcases w with w | ⟨-, -, p, w1, w2, -⟩
          · exact w
          · omega, fun w => Or.inl w⟩
      · rw [c3 r v hr hv, ← s2]
        unfold wf_h
        exact ⟨fun w => by
          rcases w with w | ⟨-, -, p, w1, w2, -⟩
          · exact w
          · omega, fun w => Or.inl w⟩
  · rw [h, if_pos rfl]
    exact ⟨I, J, rfl, h', h, fun _ _ => rfl, fun _ _ => rfl⟩
