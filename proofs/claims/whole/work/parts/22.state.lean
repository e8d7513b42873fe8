theorem nar_b (a : Int32) : vp_nar .boolean a = a &&& 1 := rfl
theorem op_beat {I : IT} {J : JT} {s b k c w z : Nat} (h : RelA I J s b k c w z) (a1 : Int32) : ∃ r I1 I2, f_X9_beat a1 I = some (r, I1) ∧ f_X10_beat a1 I1 = some (r, I2) ∧ RelA I2 J s b k c w z := by
  obtain ⟨hM, hC, hK, hW, hB, hT, hF, hS⟩ := h
  unfold f_X9_beat
  simp only [isW, Option.bind_some]
  by_cases q : 1 ≤ a1 ∧ a1 ≤ 99
  · refine ⟨_, _, upI (upI I 12 1 (I 12 1 + a1)) 55 16 (I 55 16 + a1), by simp only [b2, if_pos q]; simp only [if_neg (show ¬ (1 : Int32) = 0 by decide)]; rfl, ?_, ?_⟩
    · unfold f_X10_beat
      rw [in32 (lo := 1) (lo' := 1) (hi := 99) (hi' := 99) (by decide) (by decide)]
      have e : I 55 16 = I 12 1 := hC.1
      simp [b2, q, upI, upd, e]
    · refine ⟨?_, ?_, ?_, ?_, ?_, ?_, ?_, ?_⟩
      · simpa [RelM, upI, upd] using hM
      · have e : I 55 16 = I 12 1 := hC.1
        refine ⟨by simp [upI, upd, e], hC.2⟩
      · simpa [RelK, RelI, RC, upI, upd] using hK
      · simpa [RelW, upI, upd] using hW
      · simpa [RelB, upI, upd] using hB
      · simpa [RelT, upI, upd] using hT
      · simpa [upI, upd] using hF
      · simpa [RelS, upI, upd] using hS
  · refine ⟨_, _, I, by simp only [b2, if_neg q]; rfl, ?_, hM, hC, hK, hW, hB, hT, hF, hS⟩
    unfold f_X10_beat
    rw [in32 (lo := 1) (lo' := 1) (hi := 99) (hi' := 99) (by decide) (by decide)]
    simp [b2, q]
theorem op_seed {I : IT} {J : JT} {s b k c w z : Nat} (h : RelA I J s b k c w z) (a1 : Int32) : ∃ r I1 I2, f_X9_seed a1 I = some (r, I1) ∧ f_X10_seed a1 I1 = some (r, I2) ∧ RelA I2 J s b k c w z := by
  obtain ⟨hM, hC, hK, hW, hB, hT, hF, hS⟩ := h
  have e1 : I 55 17 = I 12 2 := hC.2.1
  unfold f_X9_seed f_X10_seed
  by_cases q : 0 ≤ a1
  · refine ⟨I 12 2, upI I 12 2 a1, upI (upI I 12 2 a1) 55 17 a1, by simp [q], by simp [q, upI, upd, e1], ?_, ?_, ?_, ?_, ?_, ?_, ?_, ?_⟩
    · simpa [RelM, upI, upd] using hM
    · exact ⟨hC.1, by simp [upI, upd], by simpa [upI, upd] using q, hC.2.2.2⟩
    · simpa [RelK, RelI, RC, upI, upd] using hK
    · simpa [RelW, upI, upd] using hW
    · simpa [RelB, upI, upd] using hB
    · simpa [RelT, upI, upd] using hT
    · simpa [upI, upd] using hF
    · simpa [RelS, upI, upd] using hS
  · exact ⟨-1000002, I, I, by simp only [if_neg q], by simp only [if_neg q], hM, hC, hK, hW, hB, hT, hF, hS⟩
theorem op_tear {I : IT} {J : JT} {s b k c w z : Nat} (h : RelA I J s b k c w z) : ∃ r I1 I2, f_X9_tear I = some (r, I1) ∧ f_X10_tear I1 = some (r, I2) ∧ RelA I2 J s b k c 0 z := by
  obtain ⟨hM, hC, hK, hW, hB, hT, hF, hS⟩ := h
  unfold f_X9_tear f_X10_tear
  refine ⟨I 50 1, upI I 50 1 0, upI (upI I 50 1 0) 55 47 0, rfl, by simp [upI, upd, hB.1, hB.2.1], ?_, ?_, ?_, ?_, ?_, ?_, ?_, ?_⟩
  · simpa [RelM, upI, upd] using hM
  · exact hC
  · simpa [RelK, RelI, RC, upI, upd] using hK
  · simpa [RelW, upI, upd] using hW
  · exact ⟨by simp [upI, upd, nI_0], by simp [upI, upd, nI_0], by omega, fun i hi => absurd hi (by omega)⟩
  · simpa [RelT, upI, upd] using hT
  · simpa [upI, upd] using hF
  · simpa [RelS, upI, upd] using hS
theorem op_forget {I : IT} {J : JT} {s b k c w z : Nat} (h : RelA I J s b k c w z) : ∃ r I1 I2, f_X9_forget I = some (r, I1) ∧ f_X10_forget I1 = some (r, I2) ∧ RelA I2 J s b k 0 w z := by
  obtain ⟨hM, hC, hK, hW, hB, hT, hF, hS⟩ := h
  unfold f_X9_forget f_X10_forget
  refine ⟨I 41 0, upI (upI I 41 0 0) 46 2 1, upI (upI (upI I 41 0 0) 46 2 1) 55 40 0, rfl, by simp [upI, upd, hW.1, hW.2.1], ?_, ?_, ?_, ?_, ?_, ?_, ?_, ?_⟩
  · simpa [RelM, upI, upd] using hM
  · exact hC
  · simpa [RelK, RelI, RC, upI, upd] using hK
  · exact ⟨by simp [upI, upd, nI_0], by simp [upI, upd, nI_0], by omega, fun i hi => absurd hi (by omega)⟩
  · simpa [RelB, upI, upd] using hB
  · simpa [RelT, upI, upd] using hT
  · simpa [upI, upd] using hF
  · exact Or.inl (by simp [upI, upd])
theorem nI_lt10 {n m : Nat} (hn : n < 2 ^ 31) (hm : m < 2 ^ 31) (h : n < m) : nI n < nI m := (nI_ltI hn hm).mpr h
theorem appendX {I : IT} {w : Nat} (hw : w < 30) (h : I 50 1 = nI w) (a1 a2 a3 a4 : Int32) : f_X0_append a1 a2 a3 a4 I = some (upI (upI (upI (upI (upI I 51 w a1) 52 w a2) 53 w a3) 54 w a4) 50 1 (nI (w + 1))) := by
  have e : ¬ (30 : Int32) ≤ nI w := by rw [show (30 : Int32) = nI 30 from rfl, nI_leI (by omega) (by omega)]; omega
  have e2 := inb_nI hw (show 30 < 2 ^ 31 by omega)
  have e3 := nI_clamp (show w < 2 ^ 31 by omega)
  unfold f_X0_append
  simp [h, e, e2, e3, upI, upd, nI_1]
theorem op_write {I : IT} {J : JT} {s b k c w z : Nat} (h : RelA I J s b k c w z) (a1 a2 a3 a4 : Int32) : ∃ r I1 I2, f_X9_write a1 a2 a3 a4 I = some (r, I1) ∧ f_X10_write a1 a2 a3 a4 I1 = some (r, I2) ∧ ∃ w', RelA I2 J s b k c w' z := by
  have h0 := h
  obtain ⟨hM, hC, hK, hW, hB, hT, hF, hS⟩ := h
  have e := hM.1
  unfold f_X9_write f_X10_write
  rw [in32 (lo := 0) (lo' := 0) (hi := 9999) (hi' := 9999) (by decide) (by decide), in32 (lo := 1) (lo' := 1) (hi := 999) (hi' := 999) (by decide) (by decide)]
  simp only [isW]
  rcases dealsX hM a2 a3 with ⟨q, hn⟩ | ⟨p, l, hd, rfl, rfl, q⟩
  · exact ⟨_, I, I, by simp [q]; rfl, by simp [aboutM0 hM hn], w, h0⟩
  · by_cases q1 : 0 ≤ a1 ∧ a1 ≤ 9999
    · by_cases q2 : 1 ≤ a4 ∧ a4 ≤ 999
      · obtain ⟨b1, b2', b3, b4⟩ := hB
        by_cases q3 : w < 30
        · have e4 : nI w < 30 := by rw [show (30 : Int32) = nI 30 from rfl]; exact nI_lt10 (by omega) (by omega) q3
          have e5 : ¬ nI w = 30 := by rw [show (30 : Int32) = nI 30 from rfl, nI_eq (by omega) (by omega)]; omega
          have e2 := inb_nI q3 (show 30 < 2 ^ 31 by omega)
          have e3 := nI_clamp (show w < 2 ^ 31 by omega)
          have hM1 : RelM (upI (upI (upI (upI (upI I 51 w a1) 52 w (nI p)) 53 w (nI l)) 54 w a4) 50 1 (nI (w + 1))) s b k := by simpa [RelM, upI, upd] using hM
          refine ⟨nI (w + 1), upI (upI (upI (upI (upI I 51 w a1) 52 w (nI p)) 53 w (nI l)) 54 w a4) 50 1 (nI (w + 1)), upI (upI (upI (upI (upI (upI (upI (upI (upI (upI I 51 w a1) 52 w (nI p)) 53 w (nI l)) 54 w a4) 50 1 (nI (w + 1))) 82 w a1) 83 w (nI p)) 84 w (nI l)) 85 w a4) 55 47 (nI (w + 1)), ?_, ?_, w + 1, ?_⟩
          · simp [q, q1, q2, b1, e4, appendX q3 b1, upI, upd]
          · simp [aboutM hM1 hd, q1, q2, b2', e5, e2, e3, upI, upd, nI_1]
          · refine ⟨?_, hC, ?_, ?_, ⟨by simp [upI, upd], by simp [upI, upd], by omega, fun i hi => ?_⟩, ?_, ?_, ?_⟩
            · simpa [RelM, upI, upd] using hM
            · simpa [RelK, RelI, RC, upI, upd] using hK
            · simpa [RelW, upI, upd] using hW
            · by_cases hiw : i = w
              · subst hiw
                simp [upI, upd]
                exact ⟨p, hd.1, rfl⟩
              · have := b4 i (by omega)
                simpa [upI, upd, hiw] using this
            · simpa [RelT, upI, upd] using hT
            · simpa [upI, upd] using hF
            · simpa [RelS, upI, upd] using hS
        · have hw30 : w = 30 := by omega
          subst hw30
          refine ⟨_, I, I, by simp [q, q1, q2, b1, show ¬ nI 30 < 30 by decide]; rfl, by simp [aboutM hM hd, q1, q2, b2', show nI 30 = 30 from rfl], 30, h0⟩
      · exact ⟨_, I, I, by simp [q, q1, q2]; rfl, by simp [aboutM hM hd, q1, q2], w, h0⟩
    · exact ⟨_, I, I, by simp [q, q1]; rfl, by simp [aboutM hM hd, q1], w, h0⟩
