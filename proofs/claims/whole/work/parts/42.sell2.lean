theorem sellM_end {Im : IT} {s b k l w : Nat} (h : RelM Im s b k) (hl : l < s) (hw : w < b) (v : Int32) (I1 : IT) (f1 : ∀ c, c ≠ 66 → I1 c = Im c) : ∃ I', f_X10_sell_294 FU (nI l) 0 (upI (upI I1 64 l (nI (s + w) - I1 55 0)) 65 l v) = some I' ∧ (∀ c, c ≠ 62 → c ≠ 63 → c ≠ 64 → c ≠ 65 → c ≠ 66 → I' c = Im c) ∧ I' 64 = upd (Im 64) l (nI w) ∧ I' 65 = upd (Im 65) l v ∧ (∀ q i, i < 6 → (I' 62 (6 * q + i) = if i = l ∧ q < s + b + k then -1 else Im 62 (6 * q + i)) ∧ I' 63 (6 * q + i) = if i = l ∧ q < s + b + k then -1 else Im 63 (6 * q + i)) ∧ I' 66 = I1 66 := by
  obtain ⟨⟨e1, e2, e3, -⟩, -, ⟨m0, m1, m2⟩, -⟩ := h
  rw [show I1 55 0 = nI s by rw [f1 55 (by decide)]; exact m0, pk_sub (by omega), show s + w - s = w by omega]
  obtain ⟨I', g1, g2, g3⟩ := clrM (s := s) (b := b) (k := k) (l := l) (by omega) (by omega) (s + b + k) FU 0 (upI (upI I1 64 l (nI w)) 65 l v) (by simp [upI, f1 55 (by decide), m0, m1, m2]) (by omega) (by unfold FU; omega)
  refine ⟨I', g1, fun c h1 h2 h3 h4 h5 => ?_, ?_, ?_, fun q i hi => ?_, ?_⟩
  · rw [g2 c h1 h2]; simp [upI, h3, h4, f1 c h5]
  · rw [g2 64 (by decide) (by decide)]; simp [upI, f1 64 (by decide)]
  · rw [g2 65 (by decide) (by decide)]; simp [upI, f1 65 (by decide)]
  · obtain ⟨k1, k2⟩ := g3 q i hi
    rw [k1, k2]
    simp [upI, f1 62 (by decide), f1 63 (by decide)]
  · rw [g2 66 (by decide) (by decide)]; simp [upI]
theorem sellM {Ix Im : IT} {s b k l w : Nat} (h : Rel2 Ix Im s b k) (hl : l < s) (hw : w < b) (v : Int32) : ∃ I', f_X10_sell_142 FU (nI l) v (nI (s + w)) (-1) (nI (s + b + k) - 1) Im = some I' ∧ (∀ c, c ≠ 62 → c ≠ 63 → c ≠ 64 → c ≠ 65 → c ≠ 66 → I' c = Im c) ∧ I' 64 = upd (Im 64) l (nI w) ∧ I' 65 = upd (Im 65) l v ∧ (∀ q i, i < 6 → (I' 62 (6 * q + i) = if i = l ∧ q < s + b + k then -1 else Im 62 (6 * q + i)) ∧ I' 63 (6 * q + i) = if i = l ∧ q < s + b + k then -1 else Im 63 (6 * q + i)) ∧ ∀ p, I' 66 p = monF (Im 66) (Ix 5) l (s + w) v (low (hb Ix l (s + w)) (s + b) k) p := by
  have hR := h
  obtain ⟨hx, hm, hl3, -⟩ := h
  have hm' := hm
  obtain ⟨⟨e1, e2, e3, -⟩, -, ⟨m0, m1, m2⟩, -, -, -, -, -, hf, -⟩ := hm'
  obtain ⟨n', g⟩ := brkM hR l (s + w) (by omega) v k FU (by omega) (by unfold FU; omega)
  rw [Nat.sub_self] at g
  rw [show (-1 : Int32) = encO (low (hb Ix l (s + w)) (s + b + k) 0) from rfl, g, f_X10_sell_142, m0, m1, nI_add]
  have c1 : nI (s + b) - 1 < nI (s + b) := by
    obtain ⟨u, eu⟩ : ∃ u, s + b = u + 1 := ⟨s + b - 1, by omega⟩
    rw [eu, nI_pred, nI_ltI (by omega) (by omega)]; omega
  rw [if_pos c1]
  have ne : ¬ l = s + w := by omega
  have ne' : ¬ s + w = l := by omega
  simp only [inb_nI (show s + w < 14 by omega) (show 14 < 2 ^ 31 by omega), inb_nI (show l < 14 by omega) (show 14 < 2 ^ 31 by omega), inb_nI (show l < 6 by omega) (show 6 < 2 ^ 31 by omega), if_true, nI_clamp (show s + w < 2 ^ 31 by omega), nI_clamp (show l < 2 ^ 31 by omega)]
  cases eo : low (hb Ix l (s + w)) (s + b) k with
  | none =>
    have z1 : ¬ (0 : Int32) ≤ encO none := by decide
    have z2 : encO none < 0 := by decide
    rw [if_neg z1, if_pos z2]
    simp only [Option.bind_some]
    obtain ⟨I1, eI⟩ : ∃ I1, upI (upI Im 66 l (Im 66 l + (v - 0))) 66 (s + w) (upI Im 66 l (Im 66 l + (v - 0)) 66 (s + w) + v) = I1 := ⟨_, rfl⟩
    rw [eI]
    have f1 : ∀ c, c ≠ 66 → I1 c = Im c := fun c hc => by rw [← eI]; simp [upI, hc]
    obtain ⟨I', k1, k2, k3, k4, k5, k6⟩ := sellM_end hm hl hw v I1 f1
    refine ⟨I', k1, k2, k3, k4, k5, fun p => ?_⟩
    rw [k6, ← eI]
    simp only [upI, upd, if_true, if_neg ne', monF]
    by_cases d : p = l
    · rw [if_neg (by omega), if_pos d, if_pos d, d]; grind
    · by_cases d2 : p = s + w
      · rw [if_pos d2, if_neg d, if_pos d2, d2]
      · rw [if_neg d2, if_neg d, if_neg d, if_neg d2]
  | some q =>
    obtain ⟨q1, q2⟩ := low_in _ _ _ _ eo
    have z1 : (0 : Int32) ≤ encO (some q) := nI_pos' (by omega)
    have z2 : ¬ encO (some q) < 0 := nI_pos (by omega)
    have fe := (hf (q - (s + b)) (by omega)).1
    rw [show s + b + (q - (s + b)) = q by omega, hl3 5 (by decide) (by decide)] at fe
    rw [if_pos z1]
    simp only [if_neg z2]
    simp only [encO, pk_sub (show s ≤ q by omega), pk_sub (show b ≤ q - s by omega), show q - s - b = q - (s + b) by omega, inb_nI (show q - (s + b) < 2 by omega) (show 2 < 2 ^ 31 by omega), inb_nI (show q < 14 by omega) (show 14 < 2 ^ 31 by omega), if_true, nI_clamp (show q < 2 ^ 31 by omega), nI_clamp (show q - (s + b) < 2 ^ 31 by omega), fe, Option.bind_some]
    obtain ⟨fee, ef⟩ : ∃ fee, v * Ix 5 q / 100 = fee := ⟨_, rfl⟩
    rw [ef]
    obtain ⟨I1, eI⟩ : ∃ I1, upI (upI (upI Im 66 q (Im 66 q + fee)) 66 l (upI Im 66 q (Im 66 q + fee) 66 l + (v - fee))) 66 (s + w) (upI (upI Im 66 q (Im 66 q + fee)) 66 l (upI Im 66 q (Im 66 q + fee) 66 l + (v - fee)) 66 (s + w) + v) = I1 := ⟨_, rfl⟩
    rw [eI]
    have f1 : ∀ c, c ≠ 66 → I1 c = Im c := fun c hc => by rw [← eI]; simp [upI, hc]
    obtain ⟨I', k1, k2, k3, k4, k5, k6⟩ := sellM_end hm hl hw v I1 f1
    refine ⟨I', k1, k2, k3, k4, k5, fun p => ?_⟩
    rw [k6, ← eI]
    simp only [upI, upd, if_true, if_neg ne', monF, if_neg (show ¬ l = q by omega), if_neg (show ¬ s + w = q by omega), ef]
    by_cases d : p = l
    · rw [if_neg (by omega), if_pos d, if_pos d, d]
    · by_cases d2 : p = s + w
      · rw [if_pos d2, if_neg d, if_pos d2, d2]
      · rw [if_neg d2, if_neg d, if_neg d, if_neg d2]
        by_cases d3 : p = q
        · rw [if_pos d3, if_pos d3, d3]
        · rw [if_neg d3, if_neg d3]
theorem sell2 {Ix Im : IT} {s b k l w : Nat} (h : Rel2 Ix Im s b k) (hl : l < s) (hw : w < b) (v : Int32) : ∃ Ix' Im', f_X1_sell (nI l) (nI w) v Ix = some Ix' ∧ f_X10_sell_142 FU (nI l) v (nI (s + w)) (-1) (nI (s + b + k) - 1) Im = some Im' ∧ Rel2 Ix' Im' s b k ∧ FX Ix Ix' ∧ FM Im Im' := by
  have hR := h
  obtain ⟨hx, hm, hl3, r1, r2, r3, r4, r5, r6, r7, r8⟩ := h
  have e1 := hx.1.1
  have e2 := hx.1.2.1
  obtain ⟨Ix', a1, a2, a3, a4, a5, a6⟩ := sellX hx hl hw v
  obtain ⟨Im', b1, b2, b3, b4, b5, b6⟩ := sellM hR hl hw v
  refine ⟨Ix', Im', a1, b1, ⟨frameM hx (by simp +decide [a2]) (by simp +decide [a2]), frameM hm (by simp +decide [b2]) (by simp +decide [b2]), fun c h1 h2 => by rw [a2 c (by omega) (by omega) (by omega) (by omega), b2 c (by omega) (by omega) (by omega) (by omega) (by omega), hl3 c h1 h2], ?_⟩, fun c _ h2 _ h4 h5 h6 => a2 c h2 h4 h5 h6, fun c _ h2 h3 h4 h5 h6 => b2 c h2 h3 h4 h5 h6, fun j _ _ => by rw [b2 55 (by decide) (by decide) (by decide) (by decide) (by decide)]⟩
  rw [a2 12 (by decide) (by decide) (by decide) (by decide), b2 55 (by decide) (by decide) (by decide) (by decide) (by decide), a2 13 (by decide) (by decide) (by decide) (by decide), b2 61 (by decide) (by decide) (by decide) (by decide) (by decide), a2 4 (by decide) (by decide) (by decide) (by decide)]
  refine ⟨r1, r2, r3, r4, r5, fun c hc => ?_, fun i hi => ?_, fun p hp => ?_⟩
  · rw [a2 15 (by decide) (by decide) (by decide) (by decide)]
    obtain ⟨q, i, hi, rfl⟩ : ∃ q i, i < 6 ∧ c = 6 * q + i := ⟨c / 6, c % 6, by omega, by omega⟩
    rw [a5 q i hi, (b5 q i hi).1, (b5 q i hi).2]
    by_cases d : i = l ∧ q < s + b + k
    · rw [if_pos d, if_pos d]; exact Or.inl ⟨rfl, rfl⟩
    · rw [if_neg d, if_neg d, if_neg d]; exact r6 _ hc
  · rw [a3, a4, b3, b4]
    by_cases d : i = l
    · simp only [upd, if_pos d]
      refine ⟨trivial, ?_, trivial⟩
      have := nI_pos' (n := w) (by omega)
      grind
    · simp only [upd, if_neg d]; exact r7 i hi
  · rw [a6 p, b6 p]
    have := r8 p hp
    cases low (hb Ix l (s + w)) (s + b) k <;> simp only [monF, this]
