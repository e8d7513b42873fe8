theorem FX.tr {I I' I'' : IT} (h : FX I I') (h' : FX I' I'') : FX I I'' := fun c h1 h2 h3 h4 h5 h6 => by rw [h' c h1 h2 h3 h4 h5 h6, h c h1 h2 h3 h4 h5 h6]
theorem FM.tr {I I' I'' : IT} (h : FM I I') (h' : FM I' I'') : FM I I'' := ⟨fun c h1 h2 h3 h4 h5 h6 => by rw [h'.1 c h1 h2 h3 h4 h5 h6, h.1 c h1 h2 h3 h4 h5 h6], fun j h1 h2 => by rw [h'.2 j h1 h2, h.2 j h1 h2]⟩
theorem bind2 {Ix Im : IT} {s b k p l : Nat} (h : Rel2 Ix Im s b k) (hp : p < s + b) (hl : l < s) {v : Int32} (hv : 1 ≤ v) : ∃ Ix' Im', f_X1_bind (nI p) (nI l) v Ix = some Ix' ∧ f_X10_bind (nI p) (nI l) v Im = some Im' ∧ Rel2 Ix' Im' s b k ∧ FX Ix Ix' ∧ FM Im Im' := by
  obtain ⟨hx, hm, hl3, r1, r2, r3, r4, r5, r6, r7, r8⟩ := h
  have e1 := hx.1.1
  have e2 := hx.1.2.1
  have e8 : Im 55 8 = Ix 3 3 := by rw [hm.2.2.2.1.2, hl3 3 (by decide) (by decide)]
  obtain ⟨X1, eX⟩ : ∃ X1, upI (upI Ix 14 (6 * p + l) v) 15 (6 * p + l) (Ix 12 1 + Ix 3 3) = X1 := ⟨_, rfl⟩
  obtain ⟨M1, eM⟩ : ∃ M1, upI (upI Im 62 (6 * p + l) v) 63 (6 * p + l) (Im 55 16 + Im 55 8) = M1 := ⟨_, rfl⟩
  have fx : ∀ c, c ≠ 14 → c ≠ 15 → X1 c = Ix c := fun c h1 h2 => by rw [← eX]; simp [upI, h1, h2]
  have fm : ∀ c, c ≠ 62 → c ≠ 63 → M1 c = Im c := fun c h1 h2 => by rw [← eM]; simp [upI, h1, h2]
  have FX1 : FX Ix X1 := fun c _ h2 h3 _ _ _ => fx c h2 h3
  have FM1 : FM Im M1 := ⟨fun c _ h2 h3 _ _ _ => fm c h2 h3, fun j _ _ => by rw [fm 55 (by decide) (by decide)]⟩
  have R1 : Rel2 X1 M1 s b k := by
    refine ⟨frameM hx (by simp +decide [fx]) (by simp +decide [fx]), frameM hm (by simp +decide [fm]) (by simp +decide [fm]), fun c h1 h2 => by rw [fx c (by omega) (by omega), fm c (by omega) (by omega), hl3 c h1 h2], ?_⟩
    rw [fx 12 (by decide) (by decide), fm 55 (by decide) (by decide), fx 13 (by decide) (by decide), fm 61 (by decide) (by decide), fx 4 (by decide) (by decide), fx 16 (by decide) (by decide), fx 17 (by decide) (by decide), fx 18 (by decide) (by decide), fm 64 (by decide) (by decide), fm 65 (by decide) (by decide), fm 66 (by decide) (by decide)]
    refine ⟨r1, r2, r3, r4, r5, fun c hc => ?_, r7, r8⟩
    rw [← eX, ← eM]
    simp only [upI, upd, if_true, if_neg (show ¬ 14 = 15 by decide), if_neg (show ¬ 62 = 63 by decide)]
    by_cases d : c = 6 * p + l
    · simp only [if_pos d]
      exact Or.inr ⟨hv, trivial, by rw [r1, e8]⟩
    · simp only [if_neg d]
      exact r6 c hc
  have bx : f_X1_bind (nI p) (nI l) v Ix = (f_X1_winnerOf (nI l) X1).bind fun r37 => if r37 = ((-1) : Int32) then some X1 else (f_X1_sell (nI l) r37 (X1 14 (6 * l + l)) X1).bind fun r63 => some r63 := by
    unfold f_X1_bind
    simp only [i6, inb_nI (show 6 * p + l < 84 by omega) (show 84 < 2 ^ 31 by omega), inb_nI (show 6 * l + l < 84 by omega) (show 84 < 2 ^ 31 by omega), if_true, nI_clamp (show 6 * p + l < 2 ^ 31 by omega), nI_clamp (show 6 * l + l < 2 ^ 31 by omega)]
    rw [show upI Ix 14 (6 * p + l) v 12 1 = Ix 12 1 by simp [upI], show upI Ix 14 (6 * p + l) v 3 3 = Ix 3 3 by simp [upI], eX]
    rfl
  have bm : f_X10_bind (nI p) (nI l) v Im = (f_X10_sell (nI l) M1).bind fun r34 => some r34 := by
    unfold f_X10_bind
    simp only [i6', inb_nI (show 6 * p + l < 84 by omega) (show 84 < 2 ^ 31 by omega), if_true, nI_clamp (show 6 * p + l < 2 ^ 31 by omega)]
    rw [show upI Im 62 (6 * p + l) v 55 16 = Im 55 16 by simp [upI], show upI Im 62 (6 * p + l) v 55 8 = Im 55 8 by simp [upI], eM]
    rfl
  rw [bx, bm]
  unfold f_X1_winnerOf f_X10_sell
  obtain ⟨g1, g2⟩ := bd2M R1 (show l < 14 by omega) (show l < 6 by omega)
  rw [bd2X X1 (show l < 14 by omega) (show l < 6 by omega), g1, i6, i6']
  simp only [inb_nI (show 6 * l + l < 84 by omega) (show 84 < 2 ^ 31 by omega), if_true, nI_clamp (show 6 * l + l < 2 ^ 31 by omega), Option.bind_some]
  by_cases d : bd X1 l l
  · simp only [cI_t d, if_neg (show ¬ (1 : Int32) = 0 by decide)]
    rw [g2 d]
    rcases win_go R1 hl (X1 14 (6 * l + l)) b FU 0 0 (-1) (-1) (by omega) (by unfold FU; omega) (Or.inl ⟨rfl, rfl, rfl⟩) with ⟨w1, w2⟩ | ⟨w, hw, w1, w2⟩
    · rw [nI_0] at w1 w2
      rw [w1, w2]
      simp only [Option.bind_some, if_true]
      exact ⟨X1, M1, rfl, rfl, R1, FX1, FM1⟩
    · rw [nI_0] at w1 w2
      rw [w1, w2]
      obtain ⟨X2, M2, s1, s2, s3, s4, s5⟩ := sell2 R1 hl hw (X1 14 (6 * l + l))
      have ne : ¬ nI w = -1 := by
        intro e
        have := nI_pos' (n := w) (by omega)
        rw [e] at this
        exact absurd this (by decide)
      simp only [Option.bind_some, if_neg ne]
      rw [s1, s2]
      exact ⟨X2, M2, rfl, rfl, s3, FX1.tr s4, FM1.tr s5⟩
  · simp only [cI_f d, if_true, Option.bind_some]
    exact ⟨X1, M1, rfl, rfl, R1, FX1, FM1⟩
