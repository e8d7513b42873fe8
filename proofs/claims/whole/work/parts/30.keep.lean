theorem c0 : (0 : Int32).toNatClampNeg = 0 := by decide
theorem c6 : (6 : Int32).toNatClampNeg = 6 := by decide
theorem c14 : (14 : Int32).toNatClampNeg = 14 := by decide
theorem c84 : (84 : Int32).toNatClampNeg = 84 := by decide
theorem cpy_in {f g : Nat → Int32} {n j : Nat} (h : j < n) : va_cpy f g 0 0 n j = f j := by simp [va_cpy, h]
theorem become_20_12 (I : IT) : ∃ I', f_X1_become_20_12 I = some I' ∧ (I' 20 1 = I 12 1 ∧ I' 20 2 = I 12 2) ∧ (∀ p, p < 14 → I' 21 p = I 13 p) ∧ (∀ c, c < 84 → I' 22 c = I 14 c ∧ I' 23 c = I 15 c) ∧ (∀ l, l < 6 → I' 24 l = I 16 l ∧ I' 25 l = I 17 l) ∧ (∀ p, p < 14 → I' 26 p = I 18 p) ∧ (∀ c, c ≠ 20 → c ≠ 21 → c ≠ 22 → c ≠ 23 → c ≠ 24 → c ≠ 25 → c ≠ 26 → I' c = I c) := by
  unfold f_X1_become_20_12
  simp only [Option.bind_some, c0, c6, c14, c84]
  refine ⟨_, rfl, ⟨by simp [upF, upI, upd], by simp [upF, upI, upd]⟩, fun p hp => ?_, fun c hc => ⟨?_, ?_⟩, fun l hl => ⟨?_, ?_⟩, fun p hp => ?_, fun c h0 h1 h2 h3 h4 h5 h6 => ?_⟩
  · simp [upF, upI, upd, cpy_in hp]
  · simp [upF, upI, upd, cpy_in hc]
  · simp [upF, upI, upd, cpy_in hc]
  · simp [upF, upI, upd, cpy_in hl]
  · simp [upF, upI, upd, cpy_in hl]
  · simp [upF, upI, upd, cpy_in hp]
  · simp [upF, upI, h0, h1, h2, h3, h4, h5, h6]
theorem become_27_12 (I : IT) : ∃ I', f_X1_become_27_12 I = some I' ∧ (I' 27 1 = I 12 1 ∧ I' 27 2 = I 12 2) ∧ (∀ p, p < 14 → I' 28 p = I 13 p) ∧ (∀ c, c < 84 → I' 29 c = I 14 c ∧ I' 30 c = I 15 c) ∧ (∀ l, l < 6 → I' 31 l = I 16 l ∧ I' 32 l = I 17 l) ∧ (∀ p, p < 14 → I' 33 p = I 18 p) ∧ (∀ c, c ≠ 27 → c ≠ 28 → c ≠ 29 → c ≠ 30 → c ≠ 31 → c ≠ 32 → c ≠ 33 → I' c = I c) := by
  unfold f_X1_become_27_12
  simp only [Option.bind_some, c0, c6, c14, c84]
  refine ⟨_, rfl, ⟨by simp [upF, upI, upd], by simp [upF, upI, upd]⟩, fun p hp => ?_, fun c hc => ⟨?_, ?_⟩, fun l hl => ⟨?_, ?_⟩, fun p hp => ?_, fun c h0 h1 h2 h3 h4 h5 h6 => ?_⟩
  · simp [upF, upI, upd, cpy_in hp]
  · simp [upF, upI, upd, cpy_in hc]
  · simp [upF, upI, upd, cpy_in hc]
  · simp [upF, upI, upd, cpy_in hl]
  · simp [upF, upI, upd, cpy_in hl]
  · simp [upF, upI, upd, cpy_in hp]
  · simp [upF, upI, h0, h1, h2, h3, h4, h5, h6]
theorem become_12_20 (I : IT) : ∃ I', f_X1_become_20 I = some I' ∧ (I' 12 1 = I 20 1 ∧ I' 12 2 = I 20 2) ∧ (∀ p, p < 14 → I' 13 p = I 21 p) ∧ (∀ c, c < 84 → I' 14 c = I 22 c ∧ I' 15 c = I 23 c) ∧ (∀ l, l < 6 → I' 16 l = I 24 l ∧ I' 17 l = I 25 l) ∧ (∀ p, p < 14 → I' 18 p = I 26 p) ∧ (∀ c, c ≠ 12 → c ≠ 13 → c ≠ 14 → c ≠ 15 → c ≠ 16 → c ≠ 17 → c ≠ 18 → I' c = I c) := by
  unfold f_X1_become_20
  simp only [Option.bind_some, c0, c6, c14, c84]
  refine ⟨_, rfl, ⟨by simp [upF, upI, upd], by simp [upF, upI, upd]⟩, fun p hp => ?_, fun c hc => ⟨?_, ?_⟩, fun l hl => ⟨?_, ?_⟩, fun p hp => ?_, fun c h0 h1 h2 h3 h4 h5 h6 => ?_⟩
  · simp [upF, upI, upd, cpy_in hp]
  · simp [upF, upI, upd, cpy_in hc]
  · simp [upF, upI, upd, cpy_in hc]
  · simp [upF, upI, upd, cpy_in hl]
  · simp [upF, upI, upd, cpy_in hl]
  · simp [upF, upI, upd, cpy_in hp]
  · simp [upF, upI, h0, h1, h2, h3, h4, h5, h6]
theorem become_12_27 (I : IT) : ∃ I', f_X1_become_27 I = some I' ∧ (I' 12 1 = I 27 1 ∧ I' 12 2 = I 27 2) ∧ (∀ p, p < 14 → I' 13 p = I 28 p) ∧ (∀ c, c < 84 → I' 14 c = I 29 c ∧ I' 15 c = I 30 c) ∧ (∀ l, l < 6 → I' 16 l = I 31 l ∧ I' 17 l = I 32 l) ∧ (∀ p, p < 14 → I' 18 p = I 33 p) ∧ (∀ c, c ≠ 12 → c ≠ 13 → c ≠ 14 → c ≠ 15 → c ≠ 16 → c ≠ 17 → c ≠ 18 → I' c = I c) := by
  unfold f_X1_become_27
  simp only [Option.bind_some, c0, c6, c14, c84]
  refine ⟨_, rfl, ⟨by simp [upF, upI, upd], by simp [upF, upI, upd]⟩, fun p hp => ?_, fun c hc => ⟨?_, ?_⟩, fun l hl => ⟨?_, ?_⟩, fun p hp => ?_, fun c h0 h1 h2 h3 h4 h5 h6 => ?_⟩
  · simp [upF, upI, upd, cpy_in hp]
  · simp [upF, upI, upd, cpy_in hc]
  · simp [upF, upI, upd, cpy_in hc]
  · simp [upF, upI, upd, cpy_in hl]
  · simp [upF, upI, upd, cpy_in hl]
  · simp [upF, upI, upd, cpy_in hp]
  · simp [upF, upI, h0, h1, h2, h3, h4, h5, h6]
theorem RC_copy {x13 x14 x15 x16 x17 x18 mh mb mt ms mf mp y13 y14 y15 y16 y17 y18 nh nb nt ns nf np : Nat → Int32} {be se be' se' de te de' te' : Int32} {N : Nat} {hd : Nat → Int32} (h : RC x13 x14 x15 x16 x17 x18 be se be' se' mh mb mt ms mf mp N hd) (hN : N ≤ 14)
    (e1 : de = be ∧ te = se ∧ de' = be' ∧ te' = se') (e13 : ∀ p, p < 14 → y13 p = x13 p ∧ nh p = mh p) (e14 : ∀ c, c < 84 → y14 c = x14 c ∧ y15 c = x15 c ∧ nb c = mb c ∧ nt c = mt c) (e16 : ∀ l, l < 6 → y16 l = x16 l ∧ y17 l = x17 l ∧ ns l = ms l ∧ nf l = mf l) (e18 : ∀ p, p < 14 → y18 p = x18 p ∧ np p = mp p) : RC y13 y14 y15 y16 y17 y18 de te de' te' nh nb nt ns nf np N hd := by
  obtain ⟨h1, h2, h3, h4, h5, h6, h7, h8⟩ := h
  obtain ⟨rfl, rfl, rfl, rfl⟩ := e1
  refine ⟨h1, h2, h3, fun p hp => ?_, fun p hp => ?_, fun c hc => ?_, fun l hl => ?_, fun p hp => ?_⟩
  · rw [(e13 p hp).1, (e13 p hp).2]; exact h4 p hp
  · rw [(e13 p (by omega)).1]; exact h5 p hp
  · obtain ⟨a1, a2, a3, a4⟩ := e14 c hc
    rw [a1, a2, a3, a4]; exact h6 c hc
  · obtain ⟨a1, a2, a3, a4⟩ := e16 l hl
    rw [a1, a2, a3, a4]; exact h7 l hl
  · rw [(e18 p hp).1, (e18 p hp).2]; exact h8 p hp
theorem keepM_22 (a : Int32) {t : Nat} (ht : t ≤ 220) : ∀ (d n i : Nat) (I : IT), i + d = 84 → d < n → ∃ I', f_X10_keep_22 n a (nI t) (nI i) I = f_X10_keep_67 FU a (nI t) 0 I' ∧ (∀ c, c ≠ 86 → I' c = I c) ∧ (∀ j, j < t + 0 + i ∨ (t + 0 + 84 ≤ j ∧ j < t + 84 + i) ∨ t + 84 + 84 ≤ j → I' 86 j = I 86 j) ∧ (∀ k, i ≤ k → k < 84 → I' 86 (t + 0 + k) = I 62 k ∧ I' 86 (t + 84 + k) = I 63 k) := by
  intro d
  induction d with
  | zero =>
    intro n i I hi hn
    obtain ⟨n, rfl⟩ : ∃ q, n = q + 1 := ⟨n - 1, by omega⟩
    obtain rfl : i = 84 := by omega
    exact ⟨I, by rw [f_X10_keep_22, if_pos (by decide)], fun _ _ => rfl, fun _ _ => rfl, fun k h1 h2 => absurd h1 (by omega)⟩
  | succ d ih =>
    intro n i I hi hn
    obtain ⟨n, rfl⟩ : ∃ q, n = q + 1 := ⟨n - 1, by omega⟩
    obtain ⟨I', g1, g2, g3, g4⟩ := ih n (i + 1) (upI (upI I 86 (t + 0 + i) (I 62 i)) 86 (t + 84 + i) (I 63 i)) (by omega) (by omega)
    refine ⟨I', ?_, fun c hc => ?_, fun j hj => ?_, fun k h1 h2 => ?_⟩
    · have ea : nI t + nI i = nI (t + 0 + i) := by rw [nI_add]; rfl
      have eb : nI t + 84 + nI i = nI (t + 84 + i) := by rw [show (84 : Int32) = nI 84 from rfl, nI_add, nI_add]
      have c1 : ¬ (84 : Int32) ≤ nI i := by rw [show (84 : Int32) = nI 84 from rfl, nI_leI (by omega) (by omega)]; omega
      rw [f_X10_keep_22, if_neg c1, ea, eb, if_pos (inb_nI (show i < 84 by omega) (by omega)), if_pos (inb_nI (show t + 0 + i < 440 by omega) (by omega)), if_pos (inb_nI (show i < 84 by omega) (by omega)), if_pos (inb_nI (show t + 84 + i < 440 by omega) (by omega)), nI_clamp (show i < 2 ^ 31 by omega), nI_clamp (show t + 0 + i < 2 ^ 31 by omega), nI_clamp (show t + 84 + i < 2 ^ 31 by omega), nI_1, ← g1]
      rfl
    · rw [g2 c hc]; simp [upI, hc]
    · rw [g3 j (by omega)]
      have n1 : ¬ j = t + i := by omega
      have n2 : ¬ j = t + 84 + i := by omega
      simp [upI, upd, n1, n2]
    · by_cases ck : k = i
      · subst ck
        rw [g3 (t + 0 + k) (by omega), g3 (t + 84 + k) (by omega)]
        simp [upI, upd]
      · have := g4 k (by omega) h2
        rw [this.1, this.2]
        simp [upI]
theorem keepM_67 (a : Int32) {t : Nat} (ht : t ≤ 220) : ∀ (d n i : Nat) (I : IT), i + d = 14 → d < n → ∃ I', f_X10_keep_67 n a (nI t) (nI i) I = f_X10_keep_117 FU a (nI t) 0 I' ∧ (∀ c, c ≠ 86 → I' c = I c) ∧ (∀ j, j < t + 168 + i ∨ (t + 168 + 14 ≤ j ∧ j < t + 182 + i) ∨ t + 182 + 14 ≤ j → I' 86 j = I 86 j) ∧ (∀ k, i ≤ k → k < 14 → I' 86 (t + 168 + k) = I 61 k ∧ I' 86 (t + 182 + k) = I 66 k) := by
  intro d
  induction d with
  | zero =>
    intro n i I hi hn
    obtain ⟨n, rfl⟩ : ∃ q, n = q + 1 := ⟨n - 1, by omega⟩
    obtain rfl : i = 14 := by omega
    exact ⟨I, by rw [f_X10_keep_67, if_pos (by decide)], fun _ _ => rfl, fun _ _ => rfl, fun k h1 h2 => absurd h1 (by omega)⟩
  | succ d ih =>
    intro n i I hi hn
    obtain ⟨n, rfl⟩ : ∃ q, n = q + 1 := ⟨n - 1, by omega⟩
    obtain ⟨I', g1, g2, g3, g4⟩ := ih n (i + 1) (upI (upI I 86 (t + 168 + i) (I 61 i)) 86 (t + 182 + i) (I 66 i)) (by omega) (by omega)
    refine ⟨I', ?_, fun c hc => ?_, fun j hj => ?_, fun k h1 h2 => ?_⟩
    · have ea : nI t + 168 + nI i = nI (t + 168 + i) := by rw [show (168 : Int32) = nI 168 from rfl, nI_add, nI_add]
      have eb : nI t + 182 + nI i = nI (t + 182 + i) := by rw [show (182 : Int32) = nI 182 from rfl, nI_add, nI_add]
      have c1 : ¬ (14 : Int32) ≤ nI i := by rw [show (14 : Int32) = nI 14 from rfl, nI_leI (by omega) (by omega)]; omega
      rw [f_X10_keep_67, if_neg c1, ea, eb, if_pos (inb_nI (show i < 14 by omega) (by omega)), if_pos (inb_nI (show t + 168 + i < 440 by omega) (by omega)), if_pos (inb_nI (show i < 14 by omega) (by omega)), if_pos (inb_nI (show t + 182 + i < 440 by omega) (by omega)), nI_clamp (show i < 2 ^ 31 by omega), nI_clamp (show t + 168 + i < 2 ^ 31 by omega), nI_clamp (show t + 182 + i < 2 ^ 31 by omega), nI_1, ← g1]
      rfl
    · rw [g2 c hc]; simp [upI, hc]
    · rw [g3 j (by omega)]
      have n1 : ¬ j = t + 168 + i := by omega
      have n2 : ¬ j = t + 182 + i := by omega
      simp [upI, upd, n1, n2]
    · by_cases ck : k = i
      · subst ck
        rw [g3 (t + 168 + k) (by omega), g3 (t + 182 + k) (by omega)]
        simp [upI, upd]
      · have := g4 k (by omega) h2
        rw [this.1, this.2]
        simp [upI]
theorem keepM_117 (a : Int32) {t : Nat} (ht : t ≤ 220) : ∀ (d n i : Nat) (I : IT), i + d = 6 → d < n → ∃ I', f_X10_keep_117 n a (nI t) (nI i) I = f_X10_keep_117 1 a (nI t) 6 I' ∧ (∀ c, c ≠ 86 → I' c = I c) ∧ (∀ j, j < t + 196 + i ∨ (t + 196 + 6 ≤ j ∧ j < t + 202 + i) ∨ t + 202 + 6 ≤ j → I' 86 j = I 86 j) ∧ (∀ k, i ≤ k → k < 6 → I' 86 (t + 196 + k) = I 64 k ∧ I' 86 (t + 202 + k) = I 65 k) := by
  intro d
  induction d with
  | zero =>
    intro n i I hi hn
    obtain ⟨n, rfl⟩ : ∃ q, n = q + 1 := ⟨n - 1, by omega⟩
    obtain rfl : i = 6 := by omega
    exact ⟨I, by show f_X10_keep_117 (n + 1) a (nI t) 6 I = f_X10_keep_117 (0 + 1) a (nI t) 6 I; simp only [f_X10_keep_117, if_pos (show (6 : Int32) ≤ 6 by decide)], fun _ _ => rfl, fun _ _ => rfl, fun k h1 h2 => absurd h1 (by omega)⟩
  | succ d ih =>
    intro n i I hi hn
    obtain ⟨n, rfl⟩ : ∃ q, n = q + 1 := ⟨n - 1, by omega⟩
    obtain ⟨I', g1, g2, g3, g4⟩ := ih n (i + 1) (upI (upI I 86 (t + 196 + i) (I 64 i)) 86 (t + 202 + i) (I 65 i)) (by omega) (by omega)
    refine ⟨I', ?_, fun c hc => ?_, fun j hj => ?_, fun k h1 h2 => ?_⟩
    · have ea : nI t + 196 + nI i = nI (t + 196 + i) := by rw [show (196 : Int32) = nI 196 from rfl, nI_add, nI_add]
      have eb : nI t + 202 + nI i = nI (t + 202 + i) := by rw [show (202 : Int32) = nI 202 from rfl, nI_add, nI_add]
      have c1 : ¬ (6 : Int32) ≤ nI i := by rw [show (6 : Int32) = nI 6 from rfl, nI_leI (by omega) (by omega)]; omega
      rw [f_X10_keep_117, if_neg c1, ea, eb, if_pos (inb_nI (show i < 6 by omega) (by omega)), if_pos (inb_nI (show t + 196 + i < 440 by omega) (by omega)), if_pos (inb_nI (show i < 6 by omega) (by omega)), if_pos (inb_nI (show t + 202 + i < 440 by omega) (by omega)), nI_clamp (show i < 2 ^ 31 by omega), nI_clamp (show t + 196 + i < 2 ^ 31 by omega), nI_clamp (show t + 202 + i < 2 ^ 31 by omega), nI_1, ← g1]
      rfl
    · rw [g2 c hc]; simp [upI, hc]
    · rw [g3 j (by omega)]
      have n1 : ¬ j = t + 196 + i := by omega
      have n2 : ¬ j = t + 202 + i := by omega
      simp [upI, upd, n1, n2]
    · by_cases ck : k = i
      · subst ck
        rw [g3 (t + 196 + k) (by omega), g3 (t + 202 + k) (by omega)]
        simp [upI, upd]
      · have := g4 k (by omega) h2
        rw [this.1, this.2]
        simp [upI]
theorem keepM {I : IT} {a : Nat} (ha : a < 2) : ∃ I', f_X10_keep (nI a) I = some (1, I') ∧ (∀ c, c ≠ 86 → c ≠ 87 → I' c = I c) ∧ (I' 87 a = 1 ∧ ∀ j, j ≠ a → I' 87 j = I 87 j) ∧ (∀ j, j < 220 * a ∨ 220 * a + 210 ≤ j → I' 86 j = I 86 j) ∧ (I' 86 (220 * a + 208) = I 55 16 ∧ I' 86 (220 * a + 209) = I 55 17)
    ∧ (∀ k, k < 84 → I' 86 (220 * a + k) = I 62 k ∧ I' 86 (220 * a + 84 + k) = I 63 k) ∧ (∀ k, k < 14 → I' 86 (220 * a + 168 + k) = I 61 k ∧ I' 86 (220 * a + 182 + k) = I 66 k) ∧ (∀ k, k < 6 → I' 86 (220 * a + 196 + k) = I 64 k ∧ I' 86 (220 * a + 202 + k) = I 65 k) := by
  obtain ⟨t, et⟩ : ∃ t, 220 * a = t := ⟨_, rfl⟩
  have ht : t ≤ 220 := by omega
  obtain ⟨I1, g1, g2, g3, g4⟩ := keepM_22 (nI a) ht 84 FU 0 I (by omega) (by unfold FU; omega)
  obtain ⟨I2, k1, k2, k3, k4⟩ := keepM_67 (nI a) ht 14 FU 0 I1 (by omega) (by unfold FU; omega)
  obtain ⟨I3, l1, l2, l3, l4⟩ := keepM_117 (nI a) ht 6 FU 0 I2 (by omega) (by unfold FU; omega)
  have e208 : nI t + 208 = nI (t + 208) := by rw [show (208 : Int32) = nI 208 from rfl, nI_add]
  have e209 : nI t + 209 = nI (t + 209) := by rw [show (209 : Int32) = nI 209 from rfl, nI_add]
  have o : ∀ c, c ≠ 86 → I3 c = I c := fun c hc => by rw [l2 c hc, k2 c hc, g2 c hc]
  refine ⟨upI (upI (upI I3 86 (t + 208) (I 55 16)) 86 (t + 209) (I 55 17)) 87 a 1, ?_, fun c h1 h2 => ?_, ⟨?_, fun j hj => ?_⟩, fun j hj => ?_, ⟨?_, ?_⟩, fun k hk => ⟨?_, ?_⟩, fun k hk => ⟨?_, ?_⟩, fun k hk => ⟨?_, ?_⟩⟩
  · unfold f_X10_keep
    rw [in32 (lo := 0) (lo' := 0) (hi := 1) (hi' := 1) (by decide) (by decide)]
    have c1 : (0 ≤ nI a ∧ nI a ≤ 1) := ⟨nI_pos' (by omega), by rw [show (1 : Int32) = nI 1 from rfl, nI_leI (by omega) (by omega)]; omega⟩
    have e220 : 220 * nI a = nI t := by rw [show (220 : Int32) = nI 220 from rfl, pk_mul, et]
    simp only [b2, if_pos c1, Option.bind_some, if_neg (show ¬ (1 : Int32) = 0 by decide), e220]
    rw [show (0 : Int32) = nI 0 from rfl, g1, show (0 : Int32) = nI 0 from rfl, k1, show (0 : Int32) = nI 0 from rfl, l1, show (1 : Nat) = 0 + 1 from rfl, f_X10_keep_117, if_pos (by decide), e208, e209, if_pos (inb_nI (show t + 208 < 440 by omega) (by omega)), if_pos (inb_nI (show t + 209 < 440 by omega) (by omega)), if_pos (inb_nI ha (by omega)), nI_clamp (show t + 208 < 2 ^ 31 by omega), nI_clamp (show t + 209 < 2 ^ 31 by omega), nI_clamp (show a < 2 ^ 31 by omega)]
    simp only [Option.bind_some]
    rw [show upI I3 86 (t + 208) (I3 55 16) 55 17 = I 55 17 by simp [upI, o 55 (by decide)], o 55 (by decide)]
    rfl
  · simp [upI, h1, h2, o c h1]
  · simp [upI, upd]
  · simp [upI, upd, hj, o 87 (by decide)]
  · have n1 : ¬ j = t + 208 := by omega
    have n2 : ¬ j = t + 209 := by omega
    simp [upI, upd, n1, n2]
    rw [l3 j (by omega), k3 j (by omega), g3 j (by omega)]
  · rw [et]; simp [upI, upd]
  · rw [et]; simp [upI, upd]
  · rw [et]
    have := (g4 k (by omega) hk).1
    have n1 : ¬ t + k = t + 208 := by omega
    have n2 : ¬ t + k = t + 209 := by omega
    simp [upI, upd]
    rw [if_neg (by omega), if_neg (by omega), l3 (t + k) (by omega), k3 (t + k) (by omega)]
    exact this
  · rw [et]
    have := (g4 k (by omega) hk).2
    simp [upI, upd]
    rw [if_neg (by omega), if_neg (by omega), l3 (t + 84 + k) (by omega), k3 (t + 84 + k) (by omega)]
    exact this
  · rw [et]
    have := (k4 k (by omega) hk).1
    simp [upI, upd]
    rw [if_neg (by omega), if_neg (by omega), l3 (t + 168 + k) (by omega), this, g2 61 (by decide)]
  · rw [et]
    have := (k4 k (by omega) hk).2
    simp [upI, upd]
    rw [if_neg (by omega), if_neg (by omega), l3 (t + 182 + k) (by omega), this, g2 66 (by decide)]
  · rw [et]
    have := (l4 k (by omega) hk).1
    simp [upI, upd]
    rw [if_neg (by omega), if_neg (by omega), this, k2 64 (by decide), g2 64 (by decide)]
  · rw [et]
    have := (l4 k (by omega) hk).2
    simp [upI, upd]
    rw [if_neg (by omega), if_neg (by omega), this, k2 65 (by decide), g2 65 (by decide)]
