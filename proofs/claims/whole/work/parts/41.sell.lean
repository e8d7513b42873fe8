def FX (I I' : IT) : Prop := ∀ c, c ≠ 12 → c ≠ 14 → c ≠ 15 → c ≠ 16 → c ≠ 17 → c ≠ 18 → I' c = I c
def FM (I I' : IT) : Prop := (∀ c, c ≠ 55 → c ≠ 62 → c ≠ 63 → c ≠ 64 → c ≠ 65 → c ≠ 66 → I' c = I c) ∧ ∀ j, j ≠ 16 → j ≠ 17 → I' 55 j = I 55 j
theorem clrX {s b k l : Nat} (hN : s + b + k ≤ 14) (hl : l < 6) (a2 a3 : Int32) : ∀ r n p (I : IT), (I 3 0 = nI s ∧ I 3 1 = nI b ∧ I 3 2 = nI k) → p + r = s + b + k → r < n → ∃ n' I', f_X1_sell_17 n (nI l) a2 a3 (nI p) I = f_X1_sell_17 (n' + 1) (nI l) a2 a3 (nI (s + b + k)) I' ∧ (∀ c, c ≠ 14 → I' c = I c) ∧ ∀ q i, i < 6 → I' 14 (6 * q + i) = if i = l ∧ p ≤ q ∧ q < s + b + k then 0 else I 14 (6 * q + i) := by
  intro r
  induction r with
  | zero =>
    intro n p I h3 h1 h2
    obtain ⟨n, rfl⟩ : ∃ q, n = q + 1 := ⟨n - 1, by omega⟩
    obtain rfl : p = s + b + k := by omega
    exact ⟨n, I, rfl, fun _ _ => rfl, fun q i _ => by rw [if_neg (by omega)]⟩
  | succ r ih =>
    intro n p I h3 h1 h2
    obtain ⟨n, rfl⟩ : ∃ q, n = q + 1 := ⟨n - 1, by omega⟩
    have h3' := h3
    obtain ⟨x0, x1, x2⟩ := h3
    obtain ⟨n', I', g1, g2, g3⟩ := ih n (p + 1) (upI I 14 (6 * p + l) 0) (by simpa [upI] using h3') (by omega) (by omega)
    refine ⟨n', I', ?_, fun c hc => ?_, fun q i hi => ?_⟩
    · rw [← g1, f_X1_sell_17]
      unfold f_X2_persons
      rw [x0, x1, x2, nI_add, nI_add, i6, nI_1]
      simp only [Option.bind_some]
      rw [if_neg (by rw [nI_leI (by omega) (by omega)]; omega), if_pos (inb_nI (show 6 * p + l < 84 by omega) (by omega)), nI_clamp (by omega)]
    · rw [g2 c hc]; simp [upI, hc]
    · rw [g3 q i hi]
      simp only [upI, upd, if_true]
      by_cases c : i = l ∧ p + 1 ≤ q ∧ q < s + b + k
      · rw [if_pos c, if_pos (by omega)]
      · rw [if_neg c]
        by_cases c2 : 6 * q + i = 6 * p + l
        · rw [if_pos c2, if_pos (by omega)]
        · rw [if_neg c2, if_neg (by omega)]
theorem clrM {s b k l : Nat} (hN : s + b + k ≤ 14) (hl : l < 6) : ∀ r n p (I : IT), (I 55 0 = nI s ∧ I 55 1 = nI b ∧ I 55 2 = nI k) → p + r = s + b + k → r < n → ∃ I', f_X10_sell_294 n (nI l) (nI p) I = some I' ∧ (∀ c, c ≠ 62 → c ≠ 63 → I' c = I c) ∧ ∀ q i, i < 6 → (I' 62 (6 * q + i) = if i = l ∧ p ≤ q ∧ q < s + b + k then -1 else I 62 (6 * q + i)) ∧ I' 63 (6 * q + i) = if i = l ∧ p ≤ q ∧ q < s + b + k then -1 else I 63 (6 * q + i) := by
  intro r
  induction r with
  | zero =>
    intro n p I h3 h1 h2
    obtain ⟨n, rfl⟩ : ∃ q, n = q + 1 := ⟨n - 1, by omega⟩
    obtain rfl : p = s + b + k := by omega
    obtain ⟨x0, x1, x2⟩ := h3
    rw [f_X10_sell_294]
    unfold f_X10_persons
    rw [x0, x1, x2, nI_add, nI_add]
    simp only [Option.bind_some]
    rw [if_pos (by rw [nI_leI (by omega) (by omega)]; omega)]
    exact ⟨I, rfl, fun _ _ _ => rfl, fun q i _ => ⟨by rw [if_neg (by omega)], by rw [if_neg (by omega)]⟩⟩
  | succ r ih =>
    intro n p I h3 h1 h2
    obtain ⟨n, rfl⟩ : ∃ q, n = q + 1 := ⟨n - 1, by omega⟩
    have h3' := h3
    obtain ⟨x0, x1, x2⟩ := h3
    obtain ⟨I', g1, g2, g3⟩ := ih n (p + 1) (upI (upI I 62 (6 * p + l) (-1)) 63 (6 * p + l) (-1)) (by simpa [upI] using h3') (by omega) (by omega)
    refine ⟨I', ?_, fun c hc hc' => ?_, fun q i hi => ?_⟩
    · rw [← g1, f_X10_sell_294]
      unfold f_X10_persons
      rw [x0, x1, x2, nI_add, nI_add, i6', nI_1]
      simp only [Option.bind_some]
      rw [if_neg (by rw [nI_leI (by omega) (by omega)]; omega), if_pos (inb_nI (show 6 * p + l < 84 by omega) (by omega)), if_pos (inb_nI (show 6 * p + l < 84 by omega) (by omega)), nI_clamp (by omega)]
    · rw [g2 c hc hc']; simp [upI, hc, hc']
    · obtain ⟨k1, k2⟩ := g3 q i hi
      rw [k1, k2]
      simp only [upI, upd, if_true, if_neg (show ¬ 62 = 63 by decide), if_neg (show ¬ 63 = 62 by decide)]
      by_cases c : i = l ∧ p + 1 ≤ q ∧ q < s + b + k
      · rw [if_pos c, if_pos c, if_pos (by omega), if_pos (by omega)]; exact ⟨rfl, rfl⟩
      · rw [if_neg c, if_neg c]
        by_cases c2 : 6 * q + i = 6 * p + l
        · rw [if_pos c2, if_pos c2, if_pos (by omega), if_pos (by omega)]; exact ⟨rfl, rfl⟩
        · rw [if_neg c2, if_neg c2, if_neg (by omega), if_neg (by omega)]; exact ⟨rfl, rfl⟩
/-- who has how much, after a sale -/
def monF (M F : Nat → Int32) (l y : Nat) (v : Int32) : Option Nat → Nat → Int32
  | none, p => if p = l then M p + v else if p = y then M p + v else M p
  | some q, p => if p = l then M p + (v - v * F q / 100) else if p = y then M p + v else if p = q then M p + v * F q / 100 else M p
theorem payX {I : IT} {s b k l w : Nat} (h : RelM I s b k) (hl : l < s) (hw : w < b) (v : Int32) (n : Nat) : ∃ I', f_X1_sell_17 (n + 1) (nI l) (nI w) v (nI (s + b + k)) I = some I' ∧ (∀ c, c ≠ 18 → I' c = I c) ∧ ∀ p, I' 18 p = monF (I 18) (I 5) l (s + w) v (low (hb I l (s + w)) (s + b) k) p := by
  have hM := h
  obtain ⟨⟨e1, e2, e3, -⟩, ⟨x0, x1, x2⟩, -⟩ := h
  have ne : ¬ l = s + w := by omega
  have ne' : ¬ s + w = l := by omega
  rw [f_X1_sell_17]
  unfold f_X2_persons f_X1_brokerOf
  rw [x0, x1, x2, nI_add, nI_add, nI_add]
  simp only [Option.bind_some, inb_nI (show s + w < 14 by omega) (show 14 < 2 ^ 31 by omega), inb_nI (show l < 14 by omega) (show 14 < 2 ^ 31 by omega), if_true, nI_clamp (show s + w < 2 ^ 31 by omega), nI_clamp (show l < 2 ^ 31 by omega)]
  rw [if_pos (by rw [nI_leI (by omega) (by omega)]; omega)]
  obtain ⟨I1, eI⟩ : ∃ I1, upI (upI I 18 (s + w) (I 18 (s + w) + v)) 18 l (upI I 18 (s + w) (I 18 (s + w) + v) 18 l + v) = I1 := ⟨_, rfl⟩
  rw [eI]
  have f1 : ∀ c, c ≠ 18 → I1 c = I c := fun c hc => by rw [← eI]; simp [upI, hc]
  have m1 : ∀ p, I1 18 p = if p = l then I 18 p + v else if p = s + w then I 18 p + v else I 18 p := by
    intro p
    rw [← eI]
    simp only [upI, upd, if_true, if_neg ne]
    by_cases d : p = l
    · rw [if_pos d, if_pos d, d]
    · rw [if_neg d, if_neg d]
      by_cases d2 : p = s + w
      · rw [if_pos d2, if_pos d2, d2]
      · rw [if_neg d2, if_neg d2]
  have hM1 : RelM I1 s b k := frameM hM (by simp +decide [f1]) (by simp +decide [f1])
  have hhb : hb I1 l (s + w) = hb I l (s + w) := by unfold hb; rw [f1 13 (by decide)]
  have bk := brk_go hM1 l (s + w) k FU (s + b) (by omega) (by unfold FU; omega)
  rw [hhb] at bk
  rw [show I1 3 0 = nI s from hM1.2.1.1, show I1 3 1 = nI b from hM1.2.1.2.1, nI_add, bk]
  simp only [Option.bind_some]
  cases eo : low (hb I l (s + w)) (s + b) k with
  | none =>
    refine ⟨I1, ?_, f1, fun p => by rw [m1 p]; rfl⟩
    exact if_pos rfl
  | some q =>
    obtain ⟨q1, q2⟩ := low_in _ _ _ _ eo
    have en : ¬ encO (some q) = -1 := by
      intro e
      have := nI_pos' (n := q) (by omega)
      rw [show nI q = -1 from e] at this
      exact absurd this (by decide)
    rw [if_neg en]
    simp only [encO, inb_nI (show q < 14 by omega) (show 14 < 2 ^ 31 by omega), inb_nI (show l < 14 by omega) (show 14 < 2 ^ 31 by omega), if_true, nI_clamp (show q < 2 ^ 31 by omega), f1 5 (by decide)]
    refine ⟨_, rfl, fun c hc => by simp [upI, hc, f1 c hc], fun p => ?_⟩
    simp only [upI, upd, if_true, monF, if_neg (show ¬ l = q by omega), m1, if_neg (show ¬ q = l by omega), if_neg (show ¬ q = s + w by omega)]
    by_cases d : p = l
    · rw [if_pos d, if_pos d, d]; grind
    · rw [if_neg d, if_neg d, if_neg d]
      by_cases d2 : p = s + w
      · rw [if_pos d2, if_neg (by omega), if_pos d2]
      · rw [if_neg d2, if_neg d2]
        by_cases d3 : p = q
        · rw [if_pos d3, if_pos d3, d3]
        · rw [if_neg d3, if_neg d3]
theorem sellX {I : IT} {s b k l w : Nat} (h : RelM I s b k) (hl : l < s) (hw : w < b) (v : Int32) : ∃ I', f_X1_sell (nI l) (nI w) v I = some I' ∧ (∀ c, c ≠ 14 → c ≠ 16 → c ≠ 17 → c ≠ 18 → I' c = I c) ∧ I' 16 = upd (I 16) l (nI w) ∧ I' 17 = upd (I 17) l v ∧ (∀ q i, i < 6 → I' 14 (6 * q + i) = if i = l ∧ q < s + b + k then 0 else I 14 (6 * q + i)) ∧ ∀ p, I' 18 p = monF (I 18) (I 5) l (s + w) v (low (hb I l (s + w)) (s + b) k) p := by
  have hM := h
  obtain ⟨⟨e1, e2, e3, -⟩, ⟨x0, x1, x2⟩, -⟩ := h
  obtain ⟨I0, e0⟩ : ∃ I0, upI (upI I 16 l (nI w)) 17 l v = I0 := ⟨_, rfl⟩
  have f0 : ∀ c, c ≠ 16 → c ≠ 17 → I0 c = I c := fun c h1 h2 => by rw [← e0]; simp [upI, h1, h2]
  obtain ⟨n', I1, g1, g2, g3⟩ := clrX (s := s) (b := b) (k := k) (l := l) (by omega) (by omega) (nI w) v (s + b + k) FU 0 I0 (by rw [f0 3 (by decide) (by decide)]; exact ⟨x0, x1, x2⟩) (by omega) (by unfold FU; omega)
  have fr : ∀ c, c ≠ 14 → c ≠ 16 → c ≠ 17 → I1 c = I c := fun c h1 h2 h3 => by rw [g2 c h1, f0 c h2 h3]
  have hM1 : RelM I1 s b k := frameM hM (by simp +decide [fr]) (by simp +decide [fr])
  obtain ⟨I2, k1, k2, k3⟩ := payX hM1 hl hw v n'
  refine ⟨I2, ?_, fun c h1 h2 h3 h4 => by rw [k2 c h4, fr c h1 h2 h3], ?_, ?_, fun q i hi => ?_, fun p => ?_⟩
  · unfold f_X1_sell
    rw [nI_0] at g1
    rw [if_pos (inb_nI (show l < 6 by omega) (by omega)), if_pos (inb_nI (show l < 6 by omega) (by omega)), nI_clamp (by omega), e0, g1]
    exact k1
  · rw [k2 16 (by decide), g2 16 (by decide), ← e0]; simp [upI]
  · rw [k2 17 (by decide), g2 17 (by decide), ← e0]; simp [upI]
  · rw [k2 14 (by decide), g3 q i hi, f0 14 (by decide) (by decide)]
    simp only [Nat.zero_le, true_and]
  · have hhb : hb I1 l (s + w) = hb I l (s + w) := by unfold hb; rw [fr 13 (by decide) (by decide) (by decide)]
    rw [k3 p, hhb, fr 18 (by decide) (by decide) (by decide), fr 5 (by decide) (by decide) (by decide)]
