theorem as2 {Ix Im : IT} {s b k : Nat} (h : Rel2 Ix Im s b k) {p q l o : Nat} (hp : p < s + b + k) (hq : q < s + b + k) (hl : l < s) {a5 : Int32} (ho : (a5 = -1 ∧ o = p) ∨ (a5 = nI o ∧ o < s + b ∧ o ≠ p)) :
    ∃ r, f_X1_maySpeak (nI p) (nI q) (nI l) (nI o) Ix = some r ∧ f_X10_isAsTold (nI p) (nI q) (nI l) a5 Im = some r ∧ (r = 0 ∨ (o < s + b ∧ Ix 16 l = -1)) := by
  obtain ⟨hx, hm, hl3, -, -, -, r4, -, -, r7, -⟩ := h
  obtain ⟨e1, e2, e3, -⟩ := hx.1
  have n10 : ¬ (1 : Int32) = 0 := by decide
  have n01 : ¬ (0 : Int32) = 1 := by decide
  have n02 : ¬ (0 : Int32) = 2 := by decide
  have n12 : ¬ (1 : Int32) = 2 := by decide
  have n20 : ¬ (2 : Int32) = 0 := by decide
  have l20 : ¬ (2 : Int32) ≤ 0 := by decide
  have l21 : ¬ (2 : Int32) ≤ 1 := by decide
  have l22 : (2 : Int32) ≤ 2 := by decide
  obtain ⟨w1, w2, -⟩ := r7 l (by omega)
  have ho14 : o < 14 := by omega
  have sold : Ix 16 l < 0 ↔ Ix 16 l = -1 := by grind
  unfold f_X1_maySpeak f_X1_maySpeakFor f_X1_isSold f_X10_isAsTold
  rw [sortOfX (by omega) hx, sortOfX (by omega) hx, sortOfX (by omega) hx, sortOfM (by omega) hm, sortOfM (by omega) hm, holdsX (by omega), holdsX (by omega)]
  simp only [hasM, inb_nI (show l < 6 by omega) (show 6 < 2 ^ 31 by omega), inb_nI (show p < 14 by omega) (show 14 < 2 ^ 31 by omega), if_true, nI_clamp (show l < 2 ^ 31 by omega), nI_clamp (show p < 2 ^ 31 by omega), Option.bind_some, w1, (r4 p (by omega)).1, sold, nI_eq (show p < 2 ^ 31 by omega) (show o < 2 ^ 31 by omega), nI_eq (show l < 2 ^ 31 by omega) (show o < 2 ^ 31 by omega), nI_eq (show l < 2 ^ 31 by omega) (show q < 2 ^ 31 by omega), nI_eq (show p < 2 ^ 31 by omega) (show l < 2 ^ 31 by omega), nI_eq (show q < 2 ^ 31 by omega) (show l < 2 ^ 31 by omega)]
  by_cases c1 : Ix 16 l = -1
  · by_cases c2 : ((Ix 13 p) >>> (nI q &&& 31)) &&& 1 = 1
    · rcases ho with ⟨rfl, rfl⟩ | ⟨rfl, ho1, ho2⟩
      · by_cases c3 : o < s
        · simp only [c1, c2, b2, srt, c3, if_true, if_false, n10, n01, n02, l20]
          by_cases c4 : l = o
          · subst c4
            simp only [if_true]
            exact ⟨_, rfl, rfl, Or.inr ⟨by omega, trivial⟩⟩
          · simp only [c4, (show ¬ o = l from fun e => c4 e.symm), if_false]
            exact ⟨_, rfl, rfl, Or.inl rfl⟩
        · by_cases c3' : o < s + b
          · simp only [c1, c2, b2, srt, c3, c3', if_true, if_false, n10, n12, l21]
            by_cases c5 : q < s
            · simp only [c5, if_true]
              by_cases c4 : l = q
              · subst c4
                simp only [if_true]
                exact ⟨_, rfl, rfl, Or.inr ⟨trivial, trivial⟩⟩
              · simp only [c4, (show ¬ q = l from fun e => c4 e.symm), if_false]
                exact ⟨_, rfl, rfl, Or.inl rfl⟩
            · have nz : ¬ (if q < s + b then (1 : Int32) else 2) = 0 := by split <;> decide
              simp only [c5, if_false, nz]
              exact ⟨_, rfl, rfl, Or.inr ⟨trivial, trivial⟩⟩
          · simp only [c1, c2, b2, srt, c3, c3', if_true, if_false, n10, l22]
            exact ⟨_, rfl, rfl, Or.inl rfl⟩
      · have ne : ¬ nI o = -1 := by
          intro e
          have := nI_pos' (n := o) (by omega)
          rw [e] at this
          exact absurd this (by decide)
        rw [sortOfM (by omega) hm]
        simp only [nI_eq (show o < 2 ^ 31 by omega) (show l < 2 ^ 31 by omega), Option.bind_some]
        by_cases pb : p < s + b
        · have pz : ¬ srt s b p = 2 := by unfold srt; by_cases c : p < s <;> simp only [c, pb, if_true, if_false] <;> decide
          have pl : ¬ 2 ≤ srt s b p := by unfold srt; by_cases c : p < s <;> simp only [c, pb, if_true, if_false] <;> decide
          simp only [c1, c2, b2, ne, pz, pl, (show ¬ p = o from fun e => ho2 e.symm), if_true, if_false, n10]
          exact ⟨_, rfl, rfl, Or.inl rfl⟩
        · have pz : srt s b p = 2 := by unfold srt; rw [if_neg (by omega), if_neg pb]
          by_cases c6 : ((Ix 13 p) >>> (nI o &&& 31)) &&& 1 = 1
          · simp only [c1, c2, c6, b2, ne, pz, l22, (show ¬ p = o from fun e => ho2 e.symm), if_true, if_false, n10]
            by_cases c3 : o < s
            · simp only [srt, c3, if_true]
              by_cases c4 : l = o
              · subst c4
                simp only [if_true]
                exact ⟨_, rfl, rfl, Or.inr ⟨ho1, trivial⟩⟩
              · simp only [c4, (show ¬ o = l from fun e => c4 e.symm), if_false]
                exact ⟨_, rfl, rfl, Or.inl rfl⟩
            · simp only [srt, c3, ho1, if_true, if_false, n10]
              by_cases c5 : q < s
              · simp only [c5, if_true]
                by_cases c4 : l = q
                · subst c4
                  simp only [if_true]
                  exact ⟨_, rfl, rfl, Or.inr ⟨trivial, trivial⟩⟩
                · simp only [c4, (show ¬ q = l from fun e => c4 e.symm), if_false]
                  exact ⟨_, rfl, rfl, Or.inl rfl⟩
              · have nz : ¬ (if q < s + b then (1 : Int32) else 2) = 0 := by split <;> decide
                simp only [c5, if_false, nz]
                exact ⟨_, rfl, rfl, Or.inr ⟨trivial, trivial⟩⟩
          · simp only [c1, c2, c6, b2, ne, pz, l22, (show ¬ p = o from fun e => ho2 e.symm), if_true, if_false, n10]
            exact ⟨_, rfl, rfl, Or.inl rfl⟩
    · refine ⟨0, ?_, ?_, Or.inl rfl⟩
      · simp only [c1, c2, b2, if_true, if_false, n10]
        rfl
      · simp only [c1, c2, b2, if_true, if_false, n10]
        (repeat' split) <;> rfl
  · refine ⟨0, ?_, ?_, Or.inl rfl⟩
    · simp only [c1, if_false, n10]
      rfl
    · simp only [c1, if_false, n10]
      (repeat' split) <;> rfl
