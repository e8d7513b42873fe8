theorem noteX {I : IT} {c : Nat} (hc : c < 10) (h : I 41 0 = nI c) (a1 a2 a3 a4 : Int32) : f_X8_note a1 a2 a3 a4 I = some (upI (upI (upI (upI (upI I 42 c a1) 43 c a2) 44 c a3) 45 c (vp_nar .boolean a4)) 41 0 (nI (c + 1))) := by
  have e : ¬ (10 : Int32) ≤ nI c := by rw [show (10 : Int32) = nI 10 from rfl, nI_leI (by omega) (by omega)]; omega
  have e2 := inb_nI hc (show 10 < 2 ^ 31 by omega)
  have e3 := nI_clamp (show c < 2 ^ 31 by omega)
  unfold f_X8_note
  simp [h, e, e2, e3, upI, upd, nI_1]
theorem rng_nI {a : Int32} (n : Nat) (hn : n < 2 ^ 31) (h : 0 ≤ a ∧ a ≤ nI n) : ∃ v, v ≤ n ∧ a = nI v := by
  obtain ⟨v, hv, rfl⟩ := nI_of (Int32.not_lt.mpr h.1)
  exact ⟨v, (nI_leI hv hn).mp h.2, rfl⟩
theorem op_seen {I : IT} {J : JT} {s b k c w z : Nat} (h : RelA I J s b k c w z) (a1 a2 a3 a4 : Int32) (h4 : a4 = 0 ∨ a4 = 1) : ∃ r I1 I2, f_X9_seen a1 a2 a3 a4 I = some (r, I1) ∧ f_X10_seen a1 a2 a3 a4 I1 = some (r, I2) ∧ ∃ c', RelA I2 J s b k c' w z := by
  have h0 := h
  obtain ⟨hM, hC, hK, hW, hB, hT, hF, hS⟩ := h
  have e := hM.1
  have hnar : vp_nar .boolean a4 = a4 := by rcases h4 with rfl | rfl <;> rfl
  unfold f_X9_seen f_X10_seen
  rw [in32 (lo := 0) (lo' := 0) (hi := 60) (hi' := 60) (by decide) (by decide), in32 (lo := 0) (lo' := 0) (hi := 9) (hi' := 9) (by decide) (by decide)]
  simp only [isW, hasLotX _ hM, hnar]
  rcases good_or a1 (n := s) (by omega) with q | ⟨l, hl, rfl⟩
  · exact ⟨-1000001, I, I, by simp [b2_bad q], by simp [isLotM _ hM, b2_bad q], c, h0⟩
  · have el := b2_nI hl (show s < 2 ^ 31 by omega)
    by_cases q1 : 0 ≤ a2 ∧ a2 ≤ 60
    · by_cases q2 : 0 ≤ a3 ∧ a3 ≤ 9
      · obtain ⟨b1, b2', b3, b4⟩ := hW
        by_cases q3 : c < 10
        · have e4 : nI c < 10 := by rw [show (10 : Int32) = nI 10 from rfl]; exact nI_lt10 (by omega) (by omega) q3
          have e5 : ¬ nI c = 10 := by rw [show (10 : Int32) = nI 10 from rfl, nI_eq (by omega) (by omega)]; omega
          have e2 := inb_nI q3 (show 10 < 2 ^ 31 by omega)
          have e3 := nI_clamp (show c < 2 ^ 31 by omega)
          have hM1 : RelM (upI (upI (upI (upI (upI (upI I 42 c (nI l)) 43 c a2) 44 c a3) 45 c a4) 41 0 (nI (c + 1))) 46 2 1) s b k := by simpa [RelM, upI, upd] using hM
          refine ⟨nI (c + 1), upI (upI (upI (upI (upI (upI I 42 c (nI l)) 43 c a2) 44 c a3) 45 c a4) 41 0 (nI (c + 1))) 46 2 1, upI (upI (upI (upI (upI (upI (upI (upI (upI (upI (upI I 42 c (nI l)) 43 c a2) 44 c a3) 45 c a4) 41 0 (nI (c + 1))) 46 2 1) 76 c (nI l)) 77 c a2) 78 c a3) 79 c a4) 55 40 (nI (c + 1)), ?_, ?_, c + 1, ?_⟩
          · simp [el, q1, q2, b1, e4, noteX q3 b1, upI, upd, hnar]
          · simp [isLotM _ hM1, el, q1, q2, b2', e5, e2, e3, upI, upd, nI_1]
          · refine ⟨?_, hC, ?_, ⟨by simp [upI, upd], by simp [upI, upd], by omega, fun i hi => ?_⟩, ?_, ?_, ?_, Or.inl (by simp [upI, upd])⟩
            · simpa [RelM, upI, upd] using hM
            · simpa [RelK, RelI, RC, upI, upd] using hK
            · by_cases hiw : i = c
              · subst hiw
                simp [upI, upd]
                exact ⟨⟨l, hl, rfl⟩, rng_nI 60 (by omega) q1, rng_nI 9 (by omega) q2, h4⟩
              · have := b4 i (by omega)
                simpa [upI, upd, hiw] using this
            · simpa [RelB, upI, upd] using hB
            · simpa [RelT, upI, upd] using hT
            · simpa [upI, upd] using hF
        · have hw30 : c = 10 := by omega
          subst hw30
          refine ⟨-1000004, I, I, by simp [el, q1, q2, b1, show ¬ nI 10 < 10 by decide], by simp [isLotM _ hM, el, q1, q2, b2', show nI 10 = 10 from rfl], 10, h0⟩
      · exact ⟨-1000002, I, I, by simp [el, q1, q2], by simp [isLotM _ hM, el, q1, q2], c, h0⟩
    · exact ⟨-1000002, I, I, by simp [el, q1], by simp [isLotM _ hM, el, q1], c, h0⟩
/-! sold lots -/
def soldF (x16 : Nat → Int32) : Nat → Int32
  | 0 => 0
  | n + 1 => soldF x16 n ||| (if x16 n = -1 then 0 else (1 : Int32) <<< (nI n &&& 31))
theorem isSoldX {I : IT} {l : Nat} (h : l < 6) : f_X1_isSold (nI l) I = some (if I 16 l = -1 then 0 else 1) := by
  unfold f_X1_isSold
  simp [inb_nI h, nI_clamp (show l < 2 ^ 31 by omega)]
  split <;> rfl
theorem soldX {I : IT} {s : Nat} (hs : I 3 0 = nI s) (h6 : s ≤ 6) : ∀ (d n l : Nat), l + d = s → d < n → f_X1_soldLots_4 n (soldF (I 16) l) (nI l) I = some (soldF (I 16) s) := by
  intro d
  induction d with
  | zero =>
    intro n l hl hn
    obtain ⟨n, rfl⟩ : ∃ m, n = m + 1 := ⟨n - 1, by omega⟩
    obtain rfl : l = s := by omega
    rw [f_X1_soldLots_4, hs, if_pos (nI_le (Nat.le_refl _) (by omega))]
  | succ d ih =>
    intro n l hl hn
    obtain ⟨n, rfl⟩ : ∃ m, n = m + 1 := ⟨n - 1, by omega⟩
    rw [f_X1_soldLots_4, hs, if_neg (by rw [nI_leI (by omega) (by omega)]; omega), isSoldX (by omega)]
    have := ih n (l + 1) (by omega) (by omega)
    rw [nI_1]
    by_cases c : I 16 l = -1
    · simp [c]
      rw [← this]
      simp [soldF, c]
    · simp [c]
      rw [← this]
      simp [soldF, c]
theorem soldM {I : IT} {s : Nat} (hs : I 55 0 = nI s) (h6 : s ≤ 6) (hx : ∀ l, l < 6 → I 64 l = I 16 l ∧ -1 ≤ I 16 l) : ∀ (d n l : Nat), l + d = s → d < n → f_X10_soldSet_4 n (soldF (I 16) l) (nI l) I = some (soldF (I 16) s) := by
  intro d
  induction d with
  | zero =>
    intro n l hl hn
    obtain ⟨n, rfl⟩ : ∃ m, n = m + 1 := ⟨n - 1, by omega⟩
    obtain rfl : l = s := by omega
    rw [f_X10_soldSet_4, hs, if_pos (nI_le (Nat.le_refl _) (by omega))]
  | succ d ih =>
    intro n l hl hn
    obtain ⟨n, rfl⟩ : ∃ m, n = m + 1 := ⟨n - 1, by omega⟩
    have hxl := hx l (by omega)
    rw [f_X10_soldSet_4, hs, if_neg (by rw [nI_leI (by omega) (by omega)]; omega), if_pos (inb_nI (show l < 6 by omega) (by omega)), nI_clamp (by omega), hxl.1]
    have := ih n (l + 1) (by omega) (by omega)
    rw [nI_1]
    by_cases c : I 16 l = -1
    · rw [if_pos (by rw [c]; decide), ← this]
      simp [soldF, c]
    · rw [if_neg (by grind), ← this]
      simp [soldF, c]
theorem soldX' {I : IT} {s b k : Nat} (h : RelM I s b k) : f_X1_soldLots I = some (soldF (I 16) s) := by
  have e := h.1
  unfold f_X1_soldLots
  have := soldX h.2.1.1 (by omega) s FU 0 (by omega) (by unfold FU; omega)
  simpa [soldF, nI_0] using this
theorem soldM' {I : IT} {s b k N : Nat} (h : RelM I s b k) (hc : RelC I N) : f_X10_soldSet I = some (soldF (I 16) s) := by
  have e := h.1
  unfold f_X10_soldSet
  have := soldM h.2.2.1.1 (by omega) (fun l hl => ⟨(hc.2.2.2.2.2.2.1 l hl).1, (hc.2.2.2.2.2.2.1 l hl).2.1⟩) s FU 0 (by omega) (by unfold FU; omega)
  simpa [soldF, nI_0] using this
theorem told_ok {I : IT} {J : JT} {s b k c w z : Nat} (h : RelA I J s b k c w z) (a1 : Int32) : ∃ r, f_X9_told a1 I = some r ∧ f_X10_told a1 I = some r := by
  obtain ⟨hM, hC, hK, hW, hB, hT, hF, hS⟩ := h
  have x0 := soldX' hM
  have m0 := soldM' hM hC
  obtain ⟨-, ⟨m1, m2, m3⟩, ⟨m4, m5, m6⟩, ⟨-, m7⟩, ⟨-, m8⟩, -⟩ := hM
  have e1 := hC.1
  obtain ⟨w1, w2, -⟩ := hW
  obtain ⟨y1, y2, -⟩ := hB
  obtain ⟨t1, t2, -⟩ := hT
  unfold f_X9_told f_X10_told
  simp only [x0, m0, m1, m2, m3, m4, m5, m6, m7, m8, e1, w1, w2, y1, y2, t1, t2, Option.bind_some, and_self]
  (repeat' split) <;> exact ⟨_, rfl⟩
