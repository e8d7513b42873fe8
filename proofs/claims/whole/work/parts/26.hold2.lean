theorem RelA.hand {I : IT} {J : JT} {s b k c w z p q v u : Nat} (h : RelA I J s b k c w z) (hC : RelC (upI (upI (upI (upI I 13 p (nI v)) 61 p (nI v)) 13 q (nI u)) 61 q (nI u)) (s + b + k)) : RelA (upI (upI (upI (upI I 13 p (nI v)) 13 q (nI u)) 61 p (nI v)) 61 q (nI u)) J s b k c w z := by
  obtain ⟨hM, hC0, hK, hW, hB, hT, hF, hS⟩ := h
  refine ⟨?_, ?_, ?_, ?_, ?_, ?_, ?_, ?_⟩
  · simpa [RelM, upI, upd] using hM
  · simpa [RelC, upI, upd] using hC
  · simpa [RelK, RelI, RC, upI, upd] using hK
  · simpa [RelW, upI, upd] using hW
  · simpa [RelB, upI, upd] using hB
  · simpa [RelT, upI, upd] using hT
  · simpa [upI, upd] using hF
  · simpa [RelS, upI, upd] using hS
theorem two_bad {I : IT} {s b k : Nat} (h : RelM I s b k) {a1 a2 : Int32} (hb : Bad a1 (s + b + k) ∨ Bad a2 (s + b + k) ∨ a1 = a2) : f_X10_hold a1 a2 I = some (-1000001, I) ∧ f_X10_loose a1 a2 I = some (-1000001, I) := by
  have e := h.1
  unfold f_X10_hold f_X10_loose
  simp only [isPersonM _ h, Option.bind_some]
  rcases good_or a1 (n := s + b + k) (by omega) with q | ⟨p, hp, rfl⟩
  · simp [b2_bad q]
  · rcases good_or a2 (n := s + b + k) (by omega) with q | ⟨l, hl, rfl⟩
    · simp [b2_bad q, b2_nI hp (show s + b + k < 2 ^ 31 by omega)]
    · have nb : ∀ x, x < s + b + k → ¬ Bad (nI x) (s + b + k) := by
        intro x hx hbx
        rcases hbx with q | q
        · exact nI_pos (by omega) q
        · exact absurd ((nI_leI (by omega) (by omega)).mp q) (by omega)
      rcases hb with q | q | q
      · exact absurd q (nb p hp)
      · exact absurd q (nb l hl)
      · simp [q, b2_nI hl (show s + b + k < 2 ^ 31 by omega)]
set_option maxHeartbeats 400000 in
theorem op_hold {I : IT} {J : JT} {s b k c w z : Nat} (h : RelA I J s b k c w z) (a1 a2 : Int32) : ∃ r I1 I2, f_X9_hold a1 a2 I = some (r, I1) ∧ f_X10_hold a1 a2 I1 = some (r, I2) ∧ RelA I2 J s b k c w z := by
  have h0 := h
  obtain ⟨hM, hC, hK, hW, hB, hT, hF, hS⟩ := h
  have e := hM.1
  unfold f_X9_hold
  rcases twoX hM a1 a2 with ⟨q0, hb⟩ | ⟨p, q, hp, hq, hpq, rfl, rfl, q0⟩
  · exact ⟨-1000001, I, I, by simp [q0], (two_bad hM hb).1, h0⟩
  · obtain ⟨n, hn, en, en'⟩ := heldN hC (show p < 14 by omega)
    obtain ⟨m, hm, em, em'⟩ := heldN hC (show q < 14 by omega)
    obtain ⟨hp1, hp2, hp3, ep, ep'⟩ := handN hM hp
    obtain ⟨hq1, hq2, hq3, eq, eq'⟩ := handN hM hq
    have pc := hC.2.2.2.2.1 p hp
    have qc := hC.2.2.2.2.1 q hq
    rw [en, ep, popcN (by omega) 14 (by omega)] at pc
    rw [em, eq, popcN (by omega) 14 (by omega)] at qc
    have bnd : ∀ x i, pN x i ≤ i := by
      intro x i
      induction i with
      | zero => simp [pN]
      | succ i ih => simp only [pN]; have := Nat.mod_lt (x / 2 ^ i) (show 0 < 2 by decide); omega
    have bn := bnd n 14
    have bm := bnd m 14
    rw [nI_leI (by omega) (by omega)] at pc qc
    have e3 : (nI p = nI q) = (p = q) := propext (nI_eq (by omega) (by omega))
    have sx := sortOfX (show p < 2 ^ 31 by omega) hM
    have sy := sortOfX (show q < 2 ^ 31 by omega) hM
    have mx := sortOfM (show p < 2 ^ 31 by omega) hM
    have my := sortOfM (show q < 2 ^ 31 by omega) hM
    have fx := freeX (show p < 14 by omega) hn en
    have fy := freeX (show q < 14 by omega) hm em
    have gx := freeM (show p < 14 by omega) hn en'
    have gy := freeM (show q < 14 by omega) hm em'
    rw [ep] at fx; rw [eq] at fy; rw [ep'] at gx; rw [eq'] at gy
    have hx := holdsX (I := I) (show p < 14 by omega) (nI q)
    rw [en] at hx
    have zx := sub_pos_nI hp3 pc
    have zy := sub_pos_nI hq3 qc
    have ip := inb_nI (show p < 14 by omega) (show 14 < 2 ^ 31 by omega)
    have iq := inb_nI (show q < 14 by omega) (show 14 < 2 ^ 31 by omega)
    have cp := nI_clamp (show p < 2 ^ 31 by omega)
    have cq := nI_clamp (show q < 2 ^ 31 by omega)
    have two1 := b2_nI hp (show s + b + k < 2 ^ 31 by omega)
    have two2 := b2_nI hq (show s + b + k < 2 ^ 31 by omega)
    simp only [q0, Option.bind_some, if_neg (show ¬ (1 : Int32) = 0 by decide)]
    unfold f_X1_mayHold
    simp only [sx, sy, hx, fx, fy, Option.bind_some]
    by_cases c1 : srt s b p = srt s b q
    · refine ⟨-1000003, I, I, by simp [c1], ?_, h0⟩
      unfold f_X10_hold
      simp [isPersonM _ hM, two1, two2, e3, hpq, mx, my, c1]
    · by_cases c2 : (nI n >>> (nI q &&& 31)) &&& 1 = 1
      · refine ⟨-1000003, I, I, by simp [c1, c2, b2], ?_, h0⟩
        unfold f_X10_hold
        simp [isPersonM _ hM, two1, two2, e3, hpq, mx, my, c1, ip, cp, en', hasM, c2]
      · by_cases c3 : hp1 = pN n 14
        · refine ⟨-1000003, I, I, by simp [c1, c2, b2, zx.1, c3], ?_, h0⟩
          unfold f_X10_hold
          simp [isPersonM _ hM, two1, two2, e3, hpq, mx, my, c1, ip, cp, en', hasM, c2, gx, zx.2, c3]
        · by_cases c4 : hq1 = pN m 14
          · refine ⟨-1000003, I, I, by simp [c1, c2, b2, zx.1, c3, zy.1, c4], ?_, h0⟩
            unfold f_X10_hold
            simp [isPersonM _ hM, two1, two2, e3, hpq, mx, my, c1, ip, cp, en', hasM, c2, gx, zx.2, c3, gy, zy.2, c4]
          · have o1 := pN_or n q 14
            have o2 := pN_or m p 14
            rw [if_pos (show q < 14 by omega)] at o1
            rw [if_pos (show p < 14 by omega)] at o2
            have u1 := or_small hn (show q < 14 by omega)
            have u2 := or_small hm (show p < 14 by omega)
            have b1 := bnd (n ||| 2 ^ q) 14
            have b2' := bnd (m ||| 2 ^ p) 14
            have hqp : ¬ q = p := fun x => hpq x.symm
            refine ⟨1, upI (upI I 13 p (nI (n ||| 2 ^ q))) 13 q (nI (m ||| 2 ^ p)), upI (upI (upI (upI I 13 p (nI (n ||| 2 ^ q))) 13 q (nI (m ||| 2 ^ p))) 61 p (nI (n ||| 2 ^ q))) 61 q (nI (m ||| 2 ^ p)), ?_, ?_, ?_⟩
            · unfold f_X1_join
              simp [c1, c2, b2, zx.1, c3, zy.1, c4, ip, iq, cp, cq, en, sh1 (show q < 14 by omega), sh1 (show p < 14 by omega), fa_or, upI, upd, hqp, em]
            · have hM1 : RelM (upI (upI I 13 p (nI (n ||| 2 ^ q))) 13 q (nI (m ||| 2 ^ p))) s b k := by simpa [RelM, upI, upd] using hM
              have gx1 := freeM (I := upI (upI I 13 p (nI (n ||| 2 ^ q))) 13 q (nI (m ||| 2 ^ p))) (show p < 14 by omega) hn (by simpa [upI] using en')
              have gy1 := freeM (I := upI (upI I 13 p (nI (n ||| 2 ^ q))) 13 q (nI (m ||| 2 ^ p))) (show q < 14 by omega) hm (by simpa [upI] using em')
              unfold f_X10_hold
              simp only [isPersonM _ hM1, two1, two2, sortOfM (show p < 2 ^ 31 by omega) hM1, sortOfM (show q < 2 ^ 31 by omega) hM1, gx1, gy1, Option.bind_some]
              simp [e3, hpq, c1, ip, iq, cp, cq, hasM, c2, sh1 (show q < 14 by omega), sh1 (show p < 14 by omega), fa_or, upI, upd, hqp, en', em', ep', eq', zx.2, zy.2, c3, c4]
            · refine h0.hand ?_
              have r1 := handUp hC (show p < 14 by omega) u1 (fun _ => by rw [ep, nI_leI (by omega) (by omega)]; omega)
              exact handUp r1 (show q < 14 by omega) u2 (fun _ => by simp only [upI]; simp [eq]; rw [nI_leI (by omega) (by omega)]; omega)
