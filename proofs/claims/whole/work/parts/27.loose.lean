theorem pN_le (x : Nat) : ∀ i, pN x i ≤ i := by
  intro i
  induction i with
  | zero => simp [pN]
  | succ i ih => simp only [pN]; have := Nat.mod_lt (x / 2 ^ i) (show 0 < 2 by decide); omega
theorem m1 : (-1 : Int32) = nI 4294967295 := by decide
set_option maxHeartbeats 400000 in
theorem op_loose {I : IT} {J : JT} {s b k c w z : Nat} (h : RelA I J s b k c w z) (a1 a2 : Int32) : ∃ r I1 I2, f_X9_loose a1 a2 I = some (r, I1) ∧ f_X10_loose a1 a2 I1 = some (r, I2) ∧ RelA I2 J s b k c w z := by
  have h0 := h
  obtain ⟨hM, hC, hK, hW, hB, hT, hF, hS⟩ := h
  have e := hM.1
  unfold f_X9_loose
  rcases twoX hM a1 a2 with ⟨q0, hb⟩ | ⟨p, q, hp, hq, hpq, rfl, rfl, q0⟩
  · exact ⟨-1000001, I, I, by simp [q0], (two_bad hM hb).2, h0⟩
  · obtain ⟨n, hn, en, en'⟩ := heldN hC (show p < 14 by omega)
    obtain ⟨m, hm, em, em'⟩ := heldN hC (show q < 14 by omega)
    obtain ⟨hp1, hp2, hp3, ep, ep'⟩ := handN hM hp
    obtain ⟨hq1, hq2, hq3, eq, eq'⟩ := handN hM hq
    have pc := hC.2.2.2.2.1 p hp
    have qc := hC.2.2.2.2.1 q hq
    rw [en, ep, popcN (by omega) 14 (by omega)] at pc
    rw [em, eq, popcN (by omega) 14 (by omega)] at qc
    have bn := pN_le n 14
    have bm := pN_le m 14
    rw [nI_leI (by omega) (by omega)] at pc qc
    have e3 : (nI p = nI q) = (p = q) := propext (nI_eq (by omega) (by omega))
    have hx := holdsX (I := I) (show p < 14 by omega) (nI q)
    rw [en] at hx
    have ip := inb_nI (show p < 14 by omega) (show 14 < 2 ^ 31 by omega)
    have iq := inb_nI (show q < 14 by omega) (show 14 < 2 ^ 31 by omega)
    have cp := nI_clamp (show p < 2 ^ 31 by omega)
    have cq := nI_clamp (show q < 2 ^ 31 by omega)
    have two1 := b2_nI hp (show s + b + k < 2 ^ 31 by omega)
    have two2 := b2_nI hq (show s + b + k < 2 ^ 31 by omega)
    simp only [q0, Option.bind_some, if_neg (show ¬ (1 : Int32) = 0 by decide), hx]
    by_cases c2 : (nI n >>> (nI q &&& 31)) &&& 1 = 1
    · have hqp : ¬ q = p := fun x => hpq x.symm
      have f1 : nI n &&& (nI (2 ^ q) ^^^ (-1)) = nI (n &&& (2 ^ q ^^^ 4294967295)) := by rw [m1, nx_xor, fa_and]
      have f2 : nI m &&& (nI (2 ^ p) ^^^ (-1)) = nI (m &&& (2 ^ p ^^^ 4294967295)) := by rw [m1, nx_xor, fa_and]
      have u1 : n &&& (2 ^ q ^^^ 4294967295) ≤ n := Nat.and_le_left
      have u2 : m &&& (2 ^ p ^^^ 4294967295) ≤ m := Nat.and_le_left
      have o1 := pN_and n (2 ^ q ^^^ 4294967295) 14
      have o2 := pN_and m (2 ^ p ^^^ 4294967295) 14
      have g1 : nI n &&& ~~~nI (2 ^ q) = nI (n &&& (2 ^ q ^^^ 4294967295)) := by rw [← f1]; simp
      have g2 : nI m &&& ~~~nI (2 ^ p) = nI (m &&& (2 ^ p ^^^ 4294967295)) := by rw [← f2]; simp
      generalize hv : n &&& (2 ^ q ^^^ 4294967295) = v at f1 u1 o1 g1
      generalize hu : m &&& (2 ^ p ^^^ 4294967295) = u at f2 u2 o2 g2
      refine ⟨1, upI (upI I 13 p (nI v)) 13 q (nI u), upI (upI (upI (upI I 13 p (nI v)) 13 q (nI u)) 61 p (nI v)) 61 q (nI u), ?_, ?_, ?_⟩
      · unfold f_X1_part
        simp [c2, ip, iq, cp, cq, en, sh1 (show q < 14 by omega), sh1 (show p < 14 by omega), upI, upd, hqp, em, f1, f2, g1, g2]
      · have hM1 : RelM (upI (upI I 13 p (nI v)) 13 q (nI u)) s b k := by simpa [RelM, upI, upd] using hM
        unfold f_X10_loose
        simp only [isPersonM _ hM1, two1, two2, Option.bind_some]
        simp [e3, hpq, ip, iq, cp, cq, hasM, c2, sh1 (show q < 14 by omega), sh1 (show p < 14 by omega), upI, upd, hqp, en', em', f1, f2, g1, g2]
      · refine h0.hand ?_
        have r1 := handUp hC (show p < 14 by omega) (v := v) (by omega) (fun _ => by rw [ep, nI_leI (by omega) (by omega)]; omega)
        exact handUp r1 (show q < 14 by omega) (v := u) (by omega) (fun _ => by simp only [upI]; simp [eq]; rw [nI_leI (by omega) (by omega)]; omega)
    · refine ⟨-1000003, I, I, by simp [c2], ?_, h0⟩
      unfold f_X10_loose
      simp [isPersonM _ hM, two1, two2, e3, hpq, ip, cp, en', hasM, c2]
theorem person_ok {I : IT} {J : JT} {s b k c w z : Nat} (h : RelA I J s b k c w z) (a1 a2 : Int32) : ∃ r, f_X9_person a1 a2 I = some r ∧ f_X10_person a1 a2 I = some r := by
  obtain ⟨hM, hC, hK, hW, hB, hT, hF, hS⟩ := h
  have e := hM.1
  unfold f_X9_person f_X10_person
  simp only [hasPersonX _ hM, isPersonM _ hM, Option.bind_some]
  rcases good_or a1 (n := s + b + k) (by omega) with q | ⟨p, hp, rfl⟩
  · simp [b2_bad q]
  · obtain ⟨n, hn, en, en'⟩ := heldN hC (show p < 14 by omega)
    obtain ⟨hp1, hp2, hp3, ep, ep'⟩ := handN hM hp
    have fx := freeX (show p < 14 by omega) hn en
    have gx := freeM (show p < 14 by omega) hn en'
    rw [ep] at fx; rw [ep'] at gx
    have mo := hC.2.2.2.2.2.2.2 p (by omega)
    have cp := nI_clamp (show p < 2 ^ 31 by omega)
    have lim : ∃ v, I 5 p = v ∧ (if srt s b p = 0 then if inbB (nI p) 6 = true then some (I 56 (nI p).toNatClampNeg) else none else if srt s b p = (1 : Int32) then if inbB (nI p - I 55 0) 6 = true then some (I 57 (nI p - I 55 0).toNatClampNeg) else none else if inbB (nI p - I 55 0 - I 55 1) 2 = true then some (I 59 (nI p - I 55 0 - I 55 1).toNatClampNeg) else none) = some v := by
      refine ⟨I 5 p, rfl, ?_⟩
      rw [hM.2.2.1.1, hM.2.2.1.2.1]
      unfold srt
      by_cases c1 : p < s
      · simp only [if_pos c1, if_true, inb_nI (show p < 6 by omega) (show 6 < 2 ^ 31 by omega), cp, (hM.2.2.2.2.2.2.1 p c1).1]
      · by_cases c2 : p < s + b
        · have := (hM.2.2.2.2.2.2.2.1 (p - s) (by omega)).1
          rw [show s + (p - s) = p by omega] at this
          simp only [if_neg c1, if_pos c2, if_neg (show ¬ (1 : Int32) = 0 by decide), if_true, pk_sub (show s ≤ p by omega), inb_nI (show p - s < 6 by omega) (show 6 < 2 ^ 31 by omega), nI_clamp (show p - s < 2 ^ 31 by omega), this]
        · have := (hM.2.2.2.2.2.2.2.2.1 (p - s - b) (by omega)).1
          rw [show s + b + (p - s - b) = p by omega] at this
          simp only [if_neg c1, if_neg c2, if_neg (show ¬ (2 : Int32) = 0 by decide), if_neg (show ¬ (2 : Int32) = 1 by decide), if_true, pk_sub (show s ≤ p by omega), pk_sub (show b ≤ p - s by omega), inb_nI (show p - s - b < 2 by omega) (show 2 < 2 ^ 31 by omega), nI_clamp (show p - s - b < 2 ^ 31 by omega), this]
    obtain ⟨v, ev, el⟩ := lim
    have ip := inb_nI (show p < 14 by omega) (show 14 < 2 ^ 31 by omega)
    simp only [b2_nI hp (show s + b + k < 2 ^ 31 by omega), sortOfM (show p < 2 ^ 31 by omega) hM, Option.bind_some, if_neg (show ¬ (1 : Int32) = 0 by decide)]
    by_cases c0 : a2 = 0
    · exact ⟨I 4 p, by simp only [if_pos c0, ip, cp, if_true], by simp only [if_pos c0, ip, cp, if_true, ep, ep']⟩
    · by_cases c1 : a2 = 1
      · exact ⟨nI hp1 - nI (pN n 14), by simp only [if_neg c0, if_pos c1, fx, Option.bind_some], by simp only [if_neg c0, if_pos c1, gx, Option.bind_some]⟩
      · by_cases c2 : a2 = 2
        · exact ⟨I 13 p, by simp only [if_neg c0, if_neg c1, if_pos c2, ip, cp, if_true], by simp only [if_neg c0, if_neg c1, if_pos c2, ip, cp, if_true, en, en']⟩
        · by_cases c3 : a2 = 3
          · exact ⟨v, by simp only [if_neg c0, if_neg c1, if_neg c2, if_pos c3, ip, cp, if_true, ev], by rw [if_neg c0, if_neg c1, if_neg c2, if_pos c3]; exact el⟩
          · by_cases c4 : a2 = 4
            · exact ⟨I 18 p, by simp only [if_neg c0, if_neg c1, if_neg c2, if_neg c3, if_pos c4, ip, cp, if_true], by simp only [if_neg c0, if_neg c1, if_neg c2, if_neg c3, if_pos c4, ip, cp, if_true, mo]⟩
            · exact ⟨-1000002, by simp only [if_neg c0, if_neg c1, if_neg c2, if_neg c3, if_neg c4], by simp only [if_neg c0, if_neg c1, if_neg c2, if_neg c3, if_neg c4]⟩
