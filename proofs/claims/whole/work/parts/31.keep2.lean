theorem RC.congrH {x13 x14 x15 x16 x17 x18 mh mb mt ms mf mp : Nat → Int32} {be se be' se' : Int32} {N : Nat} {hd hd' : Nat → Int32} (h : RC x13 x14 x15 x16 x17 x18 be se be' se' mh mb mt ms mf mp N hd) (e : hd' = hd) : RC x13 x14 x15 x16 x17 x18 be se be' se' mh mb mt ms mf mp N hd' := by
  subst e; exact h
theorem within01 (a1 : Int32) : (¬ (0 ≤ a1 ∧ a1 ≤ 1)) ∨ a1 = nI 0 ∨ a1 = nI 1 := by
  by_cases q : 0 ≤ a1 ∧ a1 ≤ 1
  · obtain ⟨v, hv, rfl⟩ := rng_nI (a := a1) 1 (by omega) q
    rcases (show v = 0 ∨ v = 1 by omega) with rfl | rfl
    · exact Or.inr (Or.inl rfl)
    · exact Or.inr (Or.inr rfl)
  · exact Or.inl q
set_option maxHeartbeats 400000 in
theorem op_keep {I : IT} {J : JT} {s b k c w z : Nat} (h : RelA I J s b k c w z) (a1 : Int32) : ∃ r I1 I2, f_X9_keep a1 I = some (r, I1) ∧ f_X10_keep a1 I1 = some (r, I2) ∧ RelA I2 J s b k c w z := by
  have h0 := h
  obtain ⟨hM, hC, hK, hW, hB, hT, hF, hS⟩ := h
  have hN : s + b + k ≤ 14 := by have := hM.1; omega
  rcases within01 a1 with q | rfl | rfl
  · refine ⟨-1000001, I, I, by unfold f_X9_keep; simp [isW, q], ?_, h0⟩
    unfold f_X10_keep
    rw [in32 (lo := 0) (lo' := 0) (hi := 1) (hi' := 1) (by decide) (by decide)]
    simp [q]
  · obtain ⟨I1, g1, ⟨g2, g3⟩, g4, g5, g6, g7, g8⟩ := become_20_12 I
    obtain ⟨I2, k1, k2, ⟨k3, k4⟩, k5, ⟨k6, k7⟩, k8, k9, k10⟩ := keepM (I := upI I1 34 0 1) (a := 0) (by omega)
    have fr : ∀ c, c ≠ 34 → c ≠ 86 → c ≠ 87 → c ≠ 20 → c ≠ 21 → c ≠ 22 → c ≠ 23 → c ≠ 24 → c ≠ 25 → c ≠ 26 → I2 c = I c := fun c a1 a2 a3 b0 b1 b2 b3 b4 b5 b6 => by
      rw [k2 c a2 a3, upI_o a1, g8 c b0 b1 b2 b3 b4 b5 b6]
    have f1 : ∀ c, c ≠ 34 → c ≠ 86 → c ≠ 87 → I2 c = I1 c := fun c a1 a2 a3 => by rw [k2 c a2 a3, upI_o a1]
    have u : ∀ c, c ≠ 34 → upI I1 34 0 1 c = I1 c := fun c hc => upI_o hc
    have gI : ∀ c, c ≠ 20 → c ≠ 21 → c ≠ 22 → c ≠ 23 → c ≠ 24 → c ≠ 25 → c ≠ 26 → I1 c = I c := g8
    refine ⟨1, upI I1 34 0 1, I2, ?_, k1, ?_, ?_, ?_, ?_, ?_, ?_, ?_, ?_⟩
    · unfold f_X9_keep
      simp [isW, show (0 ≤ nI 0 ∧ nI 0 ≤ 1) by decide, show inbB (nI 0) 2 = true by decide, show (nI 0).toNatClampNeg = 0 by decide, g1, show vp_nar .boolean 1 = 1 by decide]
    · exact frameM hM (by simp +decide [fr]) (by simp +decide [fr])
    · exact frameC hC (by simp +decide [fr]) (by simp +decide [fr])
    · obtain ⟨⟨r1, r2⟩, r3, r4⟩ := hK
      have me : RelI I2 (s + b + k) 20 0 := by
        refine RC_copy hC hN ⟨?_, ?_, ?_, ?_⟩ (fun p hp => ⟨?_, ?_⟩) (fun c hc => ⟨?_, ?_, ?_, ?_⟩) (fun l hl => ⟨?_, ?_, ?_, ?_⟩) (fun p hp => ⟨?_, ?_⟩) |>.congrH (by simp +decide [fr])
        · rw [f1 20 (by decide) (by decide) (by decide), g2]
        · rw [f1 20 (by decide) (by decide) (by decide), g3]
        · rw [show 0 + 208 = 220 * 0 + 208 from rfl, k6, u 55 (by decide), gI 55 (by decide) (by decide) (by decide) (by decide) (by decide) (by decide) (by decide)]
        · rw [show 0 + 209 = 220 * 0 + 209 from rfl, k7, u 55 (by decide), gI 55 (by decide) (by decide) (by decide) (by decide) (by decide) (by decide) (by decide)]
        · rw [f1 21 (by decide) (by decide) (by decide), g4 p hp]
        · rw [show 0 + 168 + p = 220 * 0 + 168 + p from rfl, (k9 p hp).1, u 61 (by decide), gI 61 (by decide) (by decide) (by decide) (by decide) (by decide) (by decide) (by decide)]
        · rw [f1 22 (by decide) (by decide) (by decide), (g5 c hc).1]
        · rw [f1 23 (by decide) (by decide) (by decide), (g5 c hc).2]
        · rw [show 0 + c = 220 * 0 + c from rfl, (k8 c hc).1, u 62 (by decide), gI 62 (by decide) (by decide) (by decide) (by decide) (by decide) (by decide) (by decide)]
        · rw [show 0 + 84 + c = 220 * 0 + 84 + c from rfl, (k8 c hc).2, u 63 (by decide), gI 63 (by decide) (by decide) (by decide) (by decide) (by decide) (by decide) (by decide)]
        · rw [f1 24 (by decide) (by decide) (by decide), (g6 l hl).1]
        · rw [f1 25 (by decide) (by decide) (by decide), (g6 l hl).2]
        · rw [show 0 + 196 + l = 220 * 0 + 196 + l from rfl, (k10 l hl).1, u 64 (by decide), gI 64 (by decide) (by decide) (by decide) (by decide) (by decide) (by decide) (by decide)]
        · rw [show 0 + 202 + l = 220 * 0 + 202 + l from rfl, (k10 l hl).2, u 65 (by decide), gI 65 (by decide) (by decide) (by decide) (by decide) (by decide) (by decide) (by decide)]
        · rw [f1 26 (by decide) (by decide) (by decide), g7 p hp]
        · rw [show 0 + 182 + p = 220 * 0 + 182 + p from rfl, (k9 p hp).2, u 66 (by decide), gI 66 (by decide) (by decide) (by decide) (by decide) (by decide) (by decide) (by decide)]
      have e34 : I2 34 0 = 1 ∧ I2 34 1 = I 34 1 := by
        rw [k2 34 (by decide) (by decide)]
        exact ⟨upI_s, by rw [upI_j (by decide), gI 34 (by decide) (by decide) (by decide) (by decide) (by decide) (by decide) (by decide)]⟩
      have e87 : I2 87 0 = 1 ∧ I2 87 1 = I 87 1 := ⟨k3, by rw [k4 1 (by decide), u 87 (by decide), gI 87 (by decide) (by decide) (by decide) (by decide) (by decide) (by decide) (by decide)]⟩
      have e86 : ∀ j, j < 210 → I2 86 (220 + j) = I 86 (220 + j) := fun j hj => by rw [k5 (220 + j) (by omega), u 86 (by decide), gI 86 (by decide) (by decide) (by decide) (by decide) (by decide) (by decide) (by decide)]
      have other : RelI I (s + b + k) 27 220 → RelI I2 (s + b + k) 27 220 := fun hh => by
        refine RC_copy hh hN ⟨?_, ?_, ?_, ?_⟩ (fun p hp => ⟨?_, ?_⟩) (fun c hc => ⟨?_, ?_, ?_, ?_⟩) (fun l hl => ⟨?_, ?_, ?_, ?_⟩) (fun p hp => ⟨?_, ?_⟩) |>.congrH (by simp +decide [fr])
        · simp +decide [fr]
        · simp +decide [fr]
        · exact e86 208 (by omega)
        · exact e86 209 (by omega)
        · simp +decide [fr]
        · show I2 86 (220 + 168 + p) = I 86 (220 + 168 + p); rw [show 220 + 168 + p = 220 + (168 + p) by omega]; exact e86 (168 + p) (by omega)
        · simp +decide [fr]
        · simp +decide [fr]
        · exact e86 c (by omega)
        · show I2 86 (220 + 84 + c) = I 86 (220 + 84 + c); rw [show 220 + 84 + c = 220 + (84 + c) by omega]; exact e86 (84 + c) (by omega)
        · simp +decide [fr]
        · simp +decide [fr]
        · show I2 86 (220 + 196 + l) = I 86 (220 + 196 + l); rw [show 220 + 196 + l = 220 + (196 + l) by omega]; exact e86 (196 + l) (by omega)
        · show I2 86 (220 + 202 + l) = I 86 (220 + 202 + l); rw [show 220 + 202 + l = 220 + (202 + l) by omega]; exact e86 (202 + l) (by omega)
        · simp +decide [fr]
        · show I2 86 (220 + 182 + p) = I 86 (220 + 182 + p); rw [show 220 + 182 + p = 220 + (182 + p) by omega]; exact e86 (182 + p) (by omega)
      refine ⟨⟨?_, ?_⟩, ?_, ?_⟩
      · rw [e87.1, e34.1]
      · rw [e87.2, e34.2]; exact r2
      · exact Or.inr ⟨e34.1, me⟩
      · rw [e34.2]; exact r4.imp id (fun x => ⟨x.1, other x.2⟩)
    · exact frameW hW (by simp +decide [fr]) (by simp +decide [fr])
    · exact frameB hB (by simp +decide [fr]) (by simp +decide [fr])
    · exact frameT hT (by simp +decide [fr]) (by simp +decide [fr])
    · simp +decide [fr]; exact hF
    · exact frameS hS (by simp +decide [fr]) rfl
  · obtain ⟨I1, g1, ⟨g2, g3⟩, g4, g5, g6, g7, g8⟩ := become_27_12 I
    obtain ⟨I2, k1, k2, ⟨k3, k4⟩, k5, ⟨k6, k7⟩, k8, k9, k10⟩ := keepM (I := upI I1 34 1 1) (a := 1) (by omega)
    have fr : ∀ c, c ≠ 34 → c ≠ 86 → c ≠ 87 → c ≠ 27 → c ≠ 28 → c ≠ 29 → c ≠ 30 → c ≠ 31 → c ≠ 32 → c ≠ 33 → I2 c = I c := fun c a1 a2 a3 b0 b1 b2 b3 b4 b5 b6 => by
      rw [k2 c a2 a3, upI_o a1, g8 c b0 b1 b2 b3 b4 b5 b6]
    have f1 : ∀ c, c ≠ 34 → c ≠ 86 → c ≠ 87 → I2 c = I1 c := fun c a1 a2 a3 => by rw [k2 c a2 a3, upI_o a1]
    have u : ∀ c, c ≠ 34 → upI I1 34 1 1 c = I1 c := fun c hc => upI_o hc
    have gI : ∀ c, c ≠ 27 → c ≠ 28 → c ≠ 29 → c ≠ 30 → c ≠ 31 → c ≠ 32 → c ≠ 33 → I1 c = I c := g8
    refine ⟨1, upI I1 34 1 1, I2, ?_, k1, ?_, ?_, ?_, ?_, ?_, ?_, ?_, ?_⟩
    · unfold f_X9_keep
      simp [isW, show (0 ≤ nI 1 ∧ nI 1 ≤ 1) by decide, show inbB (nI 1) 2 = true by decide, show (nI 1).toNatClampNeg = 1 by decide, g1, show vp_nar .boolean 1 = 1 by decide]
    · exact frameM hM (by simp +decide [fr]) (by simp +decide [fr])
    · exact frameC hC (by simp +decide [fr]) (by simp +decide [fr])
    · obtain ⟨⟨r1, r2⟩, r3, r4⟩ := hK
      have me : RelI I2 (s + b + k) 27 220 := by
        refine RC_copy hC hN ⟨?_, ?_, ?_, ?_⟩ (fun p hp => ⟨?_, ?_⟩) (fun c hc => ⟨?_, ?_, ?_, ?_⟩) (fun l hl => ⟨?_, ?_, ?_, ?_⟩) (fun p hp => ⟨?_, ?_⟩) |>.congrH (by simp +decide [fr])
        · rw [f1 27 (by decide) (by decide) (by decide), g2]
        · rw [f1 27 (by decide) (by decide) (by decide), g3]
        · rw [show 220 + 208 = 220 * 1 + 208 from rfl, k6, u 55 (by decide), gI 55 (by decide) (by decide) (by decide) (by decide) (by decide) (by decide) (by decide)]
        · rw [show 220 + 209 = 220 * 1 + 209 from rfl, k7, u 55 (by decide), gI 55 (by decide) (by decide) (by decide) (by decide) (by decide) (by decide) (by decide)]
        · rw [f1 28 (by decide) (by decide) (by decide), g4 p hp]
        · rw [show 220 + 168 + p = 220 * 1 + 168 + p from rfl, (k9 p hp).1, u 61 (by decide), gI 61 (by decide) (by decide) (by decide) (by decide) (by decide) (by decide) (by decide)]
        · rw [f1 29 (by decide) (by decide) (by decide), (g5 c hc).1]
        · rw [f1 30 (by decide) (by decide) (by decide), (g5 c hc).2]
        · rw [show 220 + c = 220 * 1 + c from rfl, (k8 c hc).1, u 62 (by decide), gI 62 (by decide) (by decide) (by decide) (by decide) (by decide) (by decide) (by decide)]
        · rw [show 220 + 84 + c = 220 * 1 + 84 + c from rfl, (k8 c hc).2, u 63 (by decide), gI 63 (by decide) (by decide) (by decide) (by decide) (by decide) (by decide) (by decide)]
        · rw [f1 31 (by decide) (by decide) (by decide), (g6 l hl).1]
        · rw [f1 32 (by decide) (by decide) (by decide), (g6 l hl).2]
        · rw [show 220 + 196 + l = 220 * 1 + 196 + l from rfl, (k10 l hl).1, u 64 (by decide), gI 64 (by decide) (by decide) (by decide) (by decide) (by decide) (by decide) (by decide)]
        · rw [show 220 + 202 + l = 220 * 1 + 202 + l from rfl, (k10 l hl).2, u 65 (by decide), gI 65 (by decide) (by decide) (by decide) (by decide) (by decide) (by decide) (by decide)]
        · rw [f1 33 (by decide) (by decide) (by decide), g7 p hp]
        · rw [show 220 + 182 + p = 220 * 1 + 182 + p from rfl, (k9 p hp).2, u 66 (by decide), gI 66 (by decide) (by decide) (by decide) (by decide) (by decide) (by decide) (by decide)]
      have e34 : I2 34 1 = 1 ∧ I2 34 0 = I 34 0 := by
        rw [k2 34 (by decide) (by decide)]
        exact ⟨upI_s, by rw [upI_j (by decide), gI 34 (by decide) (by decide) (by decide) (by decide) (by decide) (by decide) (by decide)]⟩
      have e87 : I2 87 1 = 1 ∧ I2 87 0 = I 87 0 := ⟨k3, by rw [k4 0 (by decide), u 87 (by decide), gI 87 (by decide) (by decide) (by decide) (by decide) (by decide) (by decide) (by decide)]⟩
      have e86 : ∀ j, j < 210 → I2 86 (0 + j) = I 86 (0 + j) := fun j hj => by rw [k5 (0 + j) (by omega), u 86 (by decide), gI 86 (by decide) (by decide) (by decide) (by decide) (by decide) (by decide) (by decide)]
      have other : RelI I (s + b + k) 20 0 → RelI I2 (s + b + k) 20 0 := fun hh => by
        refine RC_copy hh hN ⟨?_, ?_, ?_, ?_⟩ (fun p hp => ⟨?_, ?_⟩) (fun c hc => ⟨?_, ?_, ?_, ?_⟩) (fun l hl => ⟨?_, ?_, ?_, ?_⟩) (fun p hp => ⟨?_, ?_⟩) |>.congrH (by simp +decide [fr])
        · simp +decide [fr]
        · simp +decide [fr]
        · exact e86 208 (by omega)
        · exact e86 209 (by omega)
        · simp +decide [fr]
        · show I2 86 (0 + 168 + p) = I 86 (0 + 168 + p); rw [show 0 + 168 + p = 0 + (168 + p) by omega]; exact e86 (168 + p) (by omega)
        · simp +decide [fr]
        · simp +decide [fr]
        · exact e86 c (by omega)
        · show I2 86 (0 + 84 + c) = I 86 (0 + 84 + c); rw [show 0 + 84 + c = 0 + (84 + c) by omega]; exact e86 (84 + c) (by omega)
        · simp +decide [fr]
        · simp +decide [fr]
        · show I2 86 (0 + 196 + l) = I 86 (0 + 196 + l); rw [show 0 + 196 + l = 0 + (196 + l) by omega]; exact e86 (196 + l) (by omega)
        · show I2 86 (0 + 202 + l) = I 86 (0 + 202 + l); rw [show 0 + 202 + l = 0 + (202 + l) by omega]; exact e86 (202 + l) (by omega)
        · simp +decide [fr]
        · show I2 86 (0 + 182 + p) = I 86 (0 + 182 + p); rw [show 0 + 182 + p = 0 + (182 + p) by omega]; exact e86 (182 + p) (by omega)
      refine ⟨⟨?_, ?_⟩, ?_, ?_⟩
      · rw [e87.2, e34.2]; exact r1
      · rw [e87.1, e34.1]
      · rw [e34.2]; exact r3.imp id (fun x => ⟨x.1, other x.2⟩)
      · exact Or.inr ⟨e34.1, me⟩
    · exact frameW hW (by simp +decide [fr]) (by simp +decide [fr])
    · exact frameB hB (by simp +decide [fr]) (by simp +decide [fr])
    · exact frameT hT (by simp +decide [fr]) (by simp +decide [fr])
    · simp +decide [fr]; exact hF
    · exact frameS hS (by simp +decide [fr]) rfl
