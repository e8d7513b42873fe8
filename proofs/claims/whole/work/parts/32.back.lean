theorem backM_35 {t : Nat} (ht : t ≤ 220) : ∀ (d n i : Nat) (I : IT), i + d = 84 → d < n → ∃ I', f_X10_goBack_35 n (nI t) (nI i) I = f_X10_goBack_80 FU (nI t) 0 I' ∧ (∀ c, c ≠ 62 → c ≠ 63 → I' c = I c) ∧ (∀ j, j < i → I' 62 j = I 62 j ∧ I' 63 j = I 63 j) ∧ (∀ k, i ≤ k → k < 84 → I' 62 k = I 86 (t + 0 + k) ∧ I' 63 k = I 86 (t + 84 + k)) := by
  intro d
  induction d with
  | zero =>
    intro n i I hi hn
    obtain ⟨n, rfl⟩ : ∃ q, n = q + 1 := ⟨n - 1, by omega⟩
    obtain rfl : i = 84 := by omega
    exact ⟨I, by rw [f_X10_goBack_35, if_pos (by decide)], fun _ _ _ => rfl, fun _ _ => ⟨rfl, rfl⟩, fun k h1 h2 => absurd h1 (by omega)⟩
  | succ d ih =>
    intro n i I hi hn
    obtain ⟨n, rfl⟩ : ∃ q, n = q + 1 := ⟨n - 1, by omega⟩
    obtain ⟨I', g1, g2, g3, g4⟩ := ih n (i + 1) (upI (upI I 62 i (I 86 (t + 0 + i))) 63 i (I 86 (t + 84 + i))) (by omega) (by omega)
    refine ⟨I', ?_, fun c hc hc2 => ?_, fun j hj => ?_, fun k h1 h2 => ?_⟩
    · have ea : nI t + nI i = nI (t + 0 + i) := by rw [nI_add]; rfl
      have eb : nI t + 84 + nI i = nI (t + 84 + i) := by rw [show (84 : Int32) = nI 84 from rfl, nI_add, nI_add]
      have c1 : ¬ (84 : Int32) ≤ nI i := by rw [show (84 : Int32) = nI 84 from rfl, nI_leI (by omega) (by omega)]; omega
      rw [f_X10_goBack_35, if_neg c1, ea, eb, if_pos (inb_nI (show t + 0 + i < 440 by omega) (by omega)), if_pos (inb_nI (show i < 84 by omega) (by omega)), if_pos (inb_nI (show t + 84 + i < 440 by omega) (by omega)), if_pos (inb_nI (show i < 84 by omega) (by omega)), nI_clamp (show i < 2 ^ 31 by omega), nI_clamp (show t + 0 + i < 2 ^ 31 by omega), nI_clamp (show t + 84 + i < 2 ^ 31 by omega), nI_1, ← g1]
      rfl
    · rw [g2 c hc hc2]; simp [upI, hc, hc2]
    · have := g3 j (by omega)
      rw [this.1, this.2]
      simp [upI, upd, show ¬ j = i by omega]
    · by_cases ck : k = i
      · subst ck
        have := g3 k (by omega)
        rw [this.1, this.2]
        simp [upI, upd]
      · have := g4 k (by omega) h2
        rw [this.1, this.2]
        simp [upI]
theorem backM_80 {t : Nat} (ht : t ≤ 220) : ∀ (d n i : Nat) (I : IT), i + d = 14 → d < n → ∃ I', f_X10_goBack_80 n (nI t) (nI i) I = f_X10_goBack_130 FU (nI t) 0 I' ∧ (∀ c, c ≠ 61 → c ≠ 66 → I' c = I c) ∧ (∀ j, j < i → I' 61 j = I 61 j ∧ I' 66 j = I 66 j) ∧ (∀ k, i ≤ k → k < 14 → I' 61 k = I 86 (t + 168 + k) ∧ I' 66 k = I 86 (t + 182 + k)) := by
  intro d
  induction d with
  | zero =>
    intro n i I hi hn
    obtain ⟨n, rfl⟩ : ∃ q, n = q + 1 := ⟨n - 1, by omega⟩
    obtain rfl : i = 14 := by omega
    exact ⟨I, by rw [f_X10_goBack_80, if_pos (by decide)], fun _ _ _ => rfl, fun _ _ => ⟨rfl, rfl⟩, fun k h1 h2 => absurd h1 (by omega)⟩
  | succ d ih =>
    intro n i I hi hn
    obtain ⟨n, rfl⟩ : ∃ q, n = q + 1 := ⟨n - 1, by omega⟩
    obtain ⟨I', g1, g2, g3, g4⟩ := ih n (i + 1) (upI (upI I 61 i (I 86 (t + 168 + i))) 66 i (I 86 (t + 182 + i))) (by omega) (by omega)
    refine ⟨I', ?_, fun c hc hc2 => ?_, fun j hj => ?_, fun k h1 h2 => ?_⟩
    · have ea : nI t + 168 + nI i = nI (t + 168 + i) := by rw [show (168 : Int32) = nI 168 from rfl, nI_add, nI_add]
      have eb : nI t + 182 + nI i = nI (t + 182 + i) := by rw [show (182 : Int32) = nI 182 from rfl, nI_add, nI_add]
      have c1 : ¬ (14 : Int32) ≤ nI i := by rw [show (14 : Int32) = nI 14 from rfl, nI_leI (by omega) (by omega)]; omega
      rw [f_X10_goBack_80, if_neg c1, ea, eb, if_pos (inb_nI (show t + 168 + i < 440 by omega) (by omega)), if_pos (inb_nI (show i < 14 by omega) (by omega)), if_pos (inb_nI (show t + 182 + i < 440 by omega) (by omega)), if_pos (inb_nI (show i < 14 by omega) (by omega)), nI_clamp (show i < 2 ^ 31 by omega), nI_clamp (show t + 168 + i < 2 ^ 31 by omega), nI_clamp (show t + 182 + i < 2 ^ 31 by omega), nI_1, ← g1]
      rfl
    · rw [g2 c hc hc2]; simp [upI, hc, hc2]
    · have := g3 j (by omega)
      rw [this.1, this.2]
      simp [upI, upd, show ¬ j = i by omega]
    · by_cases ck : k = i
      · subst ck
        have := g3 k (by omega)
        rw [this.1, this.2]
        simp [upI, upd]
      · have := g4 k (by omega) h2
        rw [this.1, this.2]
        simp [upI]
theorem backM_130 {t : Nat} (ht : t ≤ 220) : ∀ (d n i : Nat) (I : IT), i + d = 6 → d < n → ∃ I', f_X10_goBack_130 n (nI t) (nI i) I = f_X10_goBack_130 1 (nI t) 6 I' ∧ (∀ c, c ≠ 64 → c ≠ 65 → I' c = I c) ∧ (∀ j, j < i → I' 64 j = I 64 j ∧ I' 65 j = I 65 j) ∧ (∀ k, i ≤ k → k < 6 → I' 64 k = I 86 (t + 196 + k) ∧ I' 65 k = I 86 (t + 202 + k)) := by
  intro d
  induction d with
  | zero =>
    intro n i I hi hn
    obtain ⟨n, rfl⟩ : ∃ q, n = q + 1 := ⟨n - 1, by omega⟩
    obtain rfl : i = 6 := by omega
    exact ⟨I, by show f_X10_goBack_130 (n + 1) (nI t) 6 I = f_X10_goBack_130 (0 + 1) (nI t) 6 I; simp only [f_X10_goBack_130, if_pos (show (6 : Int32) ≤ 6 by decide)], fun _ _ _ => rfl, fun _ _ => ⟨rfl, rfl⟩, fun k h1 h2 => absurd h1 (by omega)⟩
  | succ d ih =>
    intro n i I hi hn
    obtain ⟨n, rfl⟩ : ∃ q, n = q + 1 := ⟨n - 1, by omega⟩
    obtain ⟨I', g1, g2, g3, g4⟩ := ih n (i + 1) (upI (upI I 64 i (I 86 (t + 196 + i))) 65 i (I 86 (t + 202 + i))) (by omega) (by omega)
    refine ⟨I', ?_, fun c hc hc2 => ?_, fun j hj => ?_, fun k h1 h2 => ?_⟩
    · have ea : nI t + 196 + nI i = nI (t + 196 + i) := by rw [show (196 : Int32) = nI 196 from rfl, nI_add, nI_add]
      have eb : nI t + 202 + nI i = nI (t + 202 + i) := by rw [show (202 : Int32) = nI 202 from rfl, nI_add, nI_add]
      have c1 : ¬ (6 : Int32) ≤ nI i := by rw [show (6 : Int32) = nI 6 from rfl, nI_leI (by omega) (by omega)]; omega
      rw [f_X10_goBack_130, if_neg c1, ea, eb, if_pos (inb_nI (show t + 196 + i < 440 by omega) (by omega)), if_pos (inb_nI (show i < 6 by omega) (by omega)), if_pos (inb_nI (show t + 202 + i < 440 by omega) (by omega)), if_pos (inb_nI (show i < 6 by omega) (by omega)), nI_clamp (show i < 2 ^ 31 by omega), nI_clamp (show t + 196 + i < 2 ^ 31 by omega), nI_clamp (show t + 202 + i < 2 ^ 31 by omega), nI_1, ← g1]
      rfl
    · rw [g2 c hc hc2]; simp [upI, hc, hc2]
    · have := g3 j (by omega)
      rw [this.1, this.2]
      simp [upI, upd, show ¬ j = i by omega]
    · by_cases ck : k = i
      · subst ck
        have := g3 k (by omega)
        rw [this.1, this.2]
        simp [upI, upd]
      · have := g4 k (by omega) h2
        rw [this.1, this.2]
        simp [upI]
theorem backM {I : IT} {a : Nat} (ha : a < 2) (hk : ¬ I 87 a = 0) : ∃ I', f_X10_goBack (nI a) I = some (1, I') ∧ (∀ c, c ≠ 55 → c ≠ 61 → c ≠ 62 → c ≠ 63 → c ≠ 64 → c ≠ 65 → c ≠ 66 → I' c = I c) ∧ (∀ j, j ≠ 16 → j ≠ 17 → I' 55 j = I 55 j) ∧ (I' 55 16 = I 86 (220 * a + 208) ∧ I' 55 17 = I 86 (220 * a + 209))
    ∧ (∀ k, k < 84 → I' 62 k = I 86 (220 * a + k) ∧ I' 63 k = I 86 (220 * a + 84 + k)) ∧ (∀ k, k < 14 → I' 61 k = I 86 (220 * a + 168 + k) ∧ I' 66 k = I 86 (220 * a + 182 + k)) ∧ (∀ k, k < 6 → I' 64 k = I 86 (220 * a + 196 + k) ∧ I' 65 k = I 86 (220 * a + 202 + k)) := by
  obtain ⟨t, et⟩ : ∃ t, 220 * a = t := ⟨_, rfl⟩
  have ht : t ≤ 220 := by omega
  obtain ⟨I1, g1, g2, g3, g4⟩ := backM_35 ht 84 FU 0 I (by omega) (by unfold FU; omega)
  obtain ⟨I2, k1, k2, k3, k4⟩ := backM_80 ht 14 FU 0 I1 (by omega) (by unfold FU; omega)
  obtain ⟨I3, l1, l2, l3, l4⟩ := backM_130 ht 6 FU 0 I2 (by omega) (by unfold FU; omega)
  have e208 : nI t + 208 = nI (t + 208) := by rw [show (208 : Int32) = nI 208 from rfl, nI_add]
  have e209 : nI t + 209 = nI (t + 209) := by rw [show (209 : Int32) = nI 209 from rfl, nI_add]
  have o86 : I3 86 = I 86 := by rw [l2 86 (by decide) (by decide), k2 86 (by decide) (by decide), g2 86 (by decide) (by decide)]
  have o55 : I3 55 = I 55 := by rw [l2 55 (by decide) (by decide), k2 55 (by decide) (by decide), g2 55 (by decide) (by decide)]
  rw [et]
  refine ⟨upI (upI I3 55 16 (I 86 (t + 208))) 55 17 (I 86 (t + 209)), ?_, fun c h0 h1 h2 h3 h4 h5 h6 => ?_, fun j h1 h2 => ?_, ⟨?_, ?_⟩, fun k hk => ⟨?_, ?_⟩, fun k hk => ⟨?_, ?_⟩, fun k hk => ⟨?_, ?_⟩⟩
  · unfold f_X10_goBack
    rw [in32 (lo := 0) (lo' := 0) (hi := 1) (hi' := 1) (by decide) (by decide)]
    have c1 : (0 ≤ nI a ∧ nI a ≤ 1) := ⟨nI_pos' (by omega), by rw [show (1 : Int32) = nI 1 from rfl, nI_leI (by omega) (by omega)]; omega⟩
    have e220 : 220 * nI a = nI t := by rw [show (220 : Int32) = nI 220 from rfl, pk_mul, et]
    simp only [b2, if_pos c1, Option.bind_some, if_neg (show ¬ (1 : Int32) = 0 by decide), e220, inb_nI ha (show 2 < 2 ^ 31 by omega), if_true, nI_clamp (show a < 2 ^ 31 by omega), if_neg hk]
    rw [show (0 : Int32) = nI 0 from rfl, g1, show (0 : Int32) = nI 0 from rfl, k1, show (0 : Int32) = nI 0 from rfl, l1, show (1 : Nat) = 0 + 1 from rfl, f_X10_goBack_130, if_pos (by decide), e208, e209, if_pos (inb_nI (show t + 208 < 440 by omega) (by omega)), if_pos (inb_nI (show t + 209 < 440 by omega) (by omega)), nI_clamp (show t + 208 < 2 ^ 31 by omega), nI_clamp (show t + 209 < 2 ^ 31 by omega)]
    rw [show upI I3 55 16 (I3 86 (t + 208)) 86 (t + 209) = I 86 (t + 209) by simp [upI, o86], o86]
  · simp [upI, h0]
    rw [l2 c h4 h5, k2 c h1 h6, g2 c h2 h3]
  · simp [upI, upd, h1, h2, o55]
  · simp [upI, upd]
  · simp [upI, upd]
  · simp [upI]
    rw [l2 62 (by decide) (by decide), k2 62 (by decide) (by decide), (g4 k (by omega) hk).1]; rfl
  · simp [upI]
    rw [l2 63 (by decide) (by decide), k2 63 (by decide) (by decide), (g4 k (by omega) hk).2]
  · simp [upI]
    rw [l2 61 (by decide) (by decide), (k4 k (by omega) hk).1, g2 86 (by decide) (by decide)]
  · simp [upI]
    rw [l2 66 (by decide) (by decide), (k4 k (by omega) hk).2, g2 86 (by decide) (by decide)]
  · simp [upI]
    rw [(l4 k (by omega) hk).1, k2 86 (by decide) (by decide), g2 86 (by decide) (by decide)]
  · simp [upI]
    rw [(l4 k (by omega) hk).2, k2 86 (by decide) (by decide), g2 86 (by decide) (by decide)]
set_option maxHeartbeats 400000 in
theorem op_goBack {I : IT} {J : JT} {s b k c w z : Nat} (h : RelA I J s b k c w z) (a1 : Int32) : ∃ r I1 I2, f_X9_goBack a1 I = some (r, I1) ∧ f_X10_goBack a1 I1 = some (r, I2) ∧ RelA I2 J s b k c w z := by
  have h0 := h
  obtain ⟨hM, hC, hK, hW, hB, hT, hF, hS⟩ := h
  have hN : s + b + k ≤ 14 := by have := hM.1; omega
  rcases within01 a1 with q | rfl | rfl
  · refine ⟨-1000001, I, I, by unfold f_X9_goBack; simp [isW, q], ?_, h0⟩
    unfold f_X10_goBack
    rw [in32 (lo := 0) (lo' := 0) (hi := 1) (hi' := 1) (by decide) (by decide)]
    simp [q]
  · rcases hK.2.1 with q | ⟨q, hI⟩
    · refine ⟨-1000003, I, I, ?_, ?_, h0⟩
      · unfold f_X9_goBack
        simp [isW, show (0 ≤ nI 0 ∧ nI 0 ≤ 1) by decide, show inbB (nI 0) 2 = true by decide, show (nI 0).toNatClampNeg = 0 by decide, q]
      · have q' : I 87 0 = 0 := by rw [hK.1.1, q]
        unfold f_X10_goBack
        rw [in32 (lo := 0) (lo' := 0) (hi := 1) (hi' := 1) (by decide) (by decide)]
        simp [show (0 ≤ nI 0 ∧ nI 0 ≤ 1) by decide, show inbB (nI 0) 2 = true by decide, show (nI 0).toNatClampNeg = 0 by decide, q']
    · obtain ⟨I1, g1, ⟨g2, g3⟩, g4, g5, g6, g7, g8⟩ := become_12_20 I
      have gI : ∀ c, c ≠ 12 → c ≠ 13 → c ≠ 14 → c ≠ 15 → c ≠ 16 → c ≠ 17 → c ≠ 18 → I1 c = I c := g8
      have hk87 : ¬ I1 87 0 = 0 := by rw [gI 87 (by decide) (by decide) (by decide) (by decide) (by decide) (by decide) (by decide), hK.1.1, q]; decide
      obtain ⟨I2, k1, k2, k3, ⟨k4, k5⟩, k6, k7, k8⟩ := backM (I := I1) (a := 0) (by omega) hk87
      have i86 : I1 86 = I 86 := gI 86 (by decide) (by decide) (by decide) (by decide) (by decide) (by decide) (by decide)
      have fr : ∀ c, c ≠ 55 → c ≠ 61 → c ≠ 62 → c ≠ 63 → c ≠ 64 → c ≠ 65 → c ≠ 66 → c ≠ 12 → c ≠ 13 → c ≠ 14 → c ≠ 15 → c ≠ 16 → c ≠ 17 → c ≠ 18 → I2 c = I c := fun c a0 a1 a2 a3 a4 a5 a6 b0 b1 b2 b3 b4 b5 b6 => by
        rw [k2 c a0 a1 a2 a3 a4 a5 a6, g8 c b0 b1 b2 b3 b4 b5 b6]
      have fr5 : ∀ j, j ≠ 16 → j ≠ 17 → I2 55 j = I 55 j := fun j a b => by rw [k3 j a b, gI 55 (by decide) (by decide) (by decide) (by decide) (by decide) (by decide) (by decide)]
      have f1 : ∀ c, c ≠ 55 → c ≠ 61 → c ≠ 62 → c ≠ 63 → c ≠ 64 → c ≠ 65 → c ≠ 66 → I2 c = I1 c := k2
      refine ⟨1, I1, I2, ?_, k1, ?_, ?_, ?_, ?_, ?_, ?_, ?_, ?_⟩
      · unfold f_X9_goBack
        simp [isW, show (0 ≤ nI 0 ∧ nI 0 ≤ 1) by decide, show inbB (nI 0) 2 = true by decide, show (nI 0).toNatClampNeg = 0 by decide, q, g1]
      · exact frameM hM (by simp +decide [fr]) (by simp +decide [fr5])
      · refine RC_copy hI hN ⟨?_, ?_, ?_, ?_⟩ (fun p hp => ⟨?_, ?_⟩) (fun c hc => ⟨?_, ?_, ?_, ?_⟩) (fun l hl => ⟨?_, ?_, ?_, ?_⟩) (fun p hp => ⟨?_, ?_⟩) |>.congrH (by simp +decide [fr])
        · rw [f1 12 (by decide) (by decide) (by decide) (by decide) (by decide) (by decide) (by decide), g2]
        · rw [f1 12 (by decide) (by decide) (by decide) (by decide) (by decide) (by decide) (by decide), g3]
        · rw [k4, i86]
        · rw [k5, i86]
        · rw [f1 13 (by decide) (by decide) (by decide) (by decide) (by decide) (by decide) (by decide), g4 p hp]
        · rw [(k7 p hp).1, i86]
        · rw [f1 14 (by decide) (by decide) (by decide) (by decide) (by decide) (by decide) (by decide), (g5 c hc).1]
        · rw [f1 15 (by decide) (by decide) (by decide) (by decide) (by decide) (by decide) (by decide), (g5 c hc).2]
        · rw [(k6 c hc).1, i86]
        · rw [(k6 c hc).2, i86]
        · rw [f1 16 (by decide) (by decide) (by decide) (by decide) (by decide) (by decide) (by decide), (g6 l hl).1]
        · rw [f1 17 (by decide) (by decide) (by decide) (by decide) (by decide) (by decide) (by decide), (g6 l hl).2]
        · rw [(k8 l hl).1, i86]
        · rw [(k8 l hl).2, i86]
        · rw [f1 18 (by decide) (by decide) (by decide) (by decide) (by decide) (by decide) (by decide), g7 p hp]
        · rw [(k7 p hp).2, i86]
      · exact frameK hK (by simp +decide [fr])
      · exact frameW hW (by simp +decide [fr]) (by simp +decide [fr5])
      · exact frameB hB (by simp +decide [fr]) (by simp +decide [fr5])
      · exact frameT hT (by simp +decide [fr]) (by simp +decide [fr5])
      · rw [fr5 20 (by decide) (by decide)]; simp +decide [fr]; exact hF
      · exact frameS hS (by simp +decide [fr]) rfl
  · rcases hK.2.2 with q | ⟨q, hI⟩
    · refine ⟨-1000003, I, I, ?_, ?_, h0⟩
      · unfold f_X9_goBack
        simp [isW, show (0 ≤ nI 1 ∧ nI 1 ≤ 1) by decide, show inbB (nI 1) 2 = true by decide, show (nI 1).toNatClampNeg = 1 by decide, q]
      · have q' : I 87 1 = 0 := by rw [hK.1.2, q]
        unfold f_X10_goBack
        rw [in32 (lo := 0) (lo' := 0) (hi := 1) (hi' := 1) (by decide) (by decide)]
        simp [show (0 ≤ nI 1 ∧ nI 1 ≤ 1) by decide, show inbB (nI 1) 2 = true by decide, show (nI 1).toNatClampNeg = 1 by decide, q']
    · obtain ⟨I1, g1, ⟨g2, g3⟩, g4, g5, g6, g7, g8⟩ := become_12_27 I
      have gI : ∀ c, c ≠ 12 → c ≠ 13 → c ≠ 14 → c ≠ 15 → c ≠ 16 → c ≠ 17 → c ≠ 18 → I1 c = I c := g8
      have hk87 : ¬ I1 87 1 = 0 := by rw [gI 87 (by decide) (by decide) (by decide) (by decide) (by decide) (by decide) (by decide), hK.1.2, q]; decide
      obtain ⟨I2, k1, k2, k3, ⟨k4, k5⟩, k6, k7, k8⟩ := backM (I := I1) (a := 1) (by omega) hk87
      have i86 : I1 86 = I 86 := gI 86 (by decide) (by decide) (by decide) (by decide) (by decide) (by decide) (by decide)
      have fr : ∀ c, c ≠ 55 → c ≠ 61 → c ≠ 62 → c ≠ 63 → c ≠ 64 → c ≠ 65 → c ≠ 66 → c ≠ 12 → c ≠ 13 → c ≠ 14 → c ≠ 15 → c ≠ 16 → c ≠ 17 → c ≠ 18 → I2 c = I c := fun c a0 a1 a2 a3 a4 a5 a6 b0 b1 b2 b3 b4 b5 b6 => by
        rw [k2 c a0 a1 a2 a3 a4 a5 a6, g8 c b0 b1 b2 b3 b4 b5 b6]
      have fr5 : ∀ j, j ≠ 16 → j ≠ 17 → I2 55 j = I 55 j := fun j a b => by rw [k3 j a b, gI 55 (by decide) (by decide) (by decide) (by decide) (by decide) (by decide) (by decide)]
      have f1 : ∀ c, c ≠ 55 → c ≠ 61 → c ≠ 62 → c ≠ 63 → c ≠ 64 → c ≠ 65 → c ≠ 66 → I2 c = I1 c := k2
      refine ⟨1, I1, I2, ?_, k1, ?_, ?_, ?_, ?_, ?_, ?_, ?_, ?_⟩
      · unfold f_X9_goBack
        simp [isW, show (0 ≤ nI 1 ∧ nI 1 ≤ 1) by decide, show inbB (nI 1) 2 = true by decide, show (nI 1).toNatClampNeg = 1 by decide, q, g1]
      · exact frameM hM (by simp +decide [fr]) (by simp +decide [fr5])
      · refine RC_copy hI hN ⟨?_, ?_, ?_, ?_⟩ (fun p hp => ⟨?_, ?_⟩) (fun c hc => ⟨?_, ?_, ?_, ?_⟩) (fun l hl => ⟨?_, ?_, ?_, ?_⟩) (fun p hp => ⟨?_, ?_⟩) |>.congrH (by simp +decide [fr])
        · rw [f1 12 (by decide) (by decide) (by decide) (by decide) (by decide) (by decide) (by decide), g2]
        · rw [f1 12 (by decide) (by decide) (by decide) (by decide) (by decide) (by decide) (by decide), g3]
        · rw [k4, i86]
        · rw [k5, i86]
        · rw [f1 13 (by decide) (by decide) (by decide) (by decide) (by decide) (by decide) (by decide), g4 p hp]
        · rw [(k7 p hp).1, i86]
        · rw [f1 14 (by decide) (by decide) (by decide) (by decide) (by decide) (by decide) (by decide), (g5 c hc).1]
        · rw [f1 15 (by decide) (by decide) (by decide) (by decide) (by decide) (by decide) (by decide), (g5 c hc).2]
        · rw [(k6 c hc).1, i86]
        · rw [(k6 c hc).2, i86]
        · rw [f1 16 (by decide) (by decide) (by decide) (by decide) (by decide) (by decide) (by decide), (g6 l hl).1]
        · rw [f1 17 (by decide) (by decide) (by decide) (by decide) (by decide) (by decide) (by decide), (g6 l hl).2]
        · rw [(k8 l hl).1, i86]
        · rw [(k8 l hl).2, i86]
        · rw [f1 18 (by decide) (by decide) (by decide) (by decide) (by decide) (by decide) (by decide), g7 p hp]
        · rw [(k7 p hp).2, i86]
      · exact frameK hK (by simp +decide [fr])
      · exact frameW hW (by simp +decide [fr]) (by simp +decide [fr5])
      · exact frameB hB (by simp +decide [fr]) (by simp +decide [fr5])
      · exact frameT hT (by simp +decide [fr]) (by simp +decide [fr5])
      · rw [fr5 20 (by decide) (by decide)]; simp +decide [fr]; exact hF
      · exact frameS hS (by simp +decide [fr]) rfl
