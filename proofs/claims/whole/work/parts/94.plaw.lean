/-! the law, call by call -/
theorem law_step (X : Nat → Nat) {I : IT} {J : JT} (h : Rel I J) (n : Nat) {i : Nat} (hL : X 21 ≤ 3072) (hi : i + 6 ≤ X 21) : ∃ I' J', f_L_law_18 X (n + 1) (nI i) I J = f_L_law_18 X n (nI (i + 6)) I' J' ∧ Rel I' J' := by
  obtain ⟨s, b, k, c, w, z, hR⟩ := h
  have ib0 : inbB (nI i) (X 21) = true := inb_nI (by omega) (by omega)
  have ib1 : inbB (nI i + 1) (X 21) = true := by rw [show (1 : Int32) = nI 1 from rfl, nI_add]; exact inb_nI (by omega) (by omega)
  have ib2 : inbB (nI i + 2) (X 21) = true := by rw [show (2 : Int32) = nI 2 from rfl, nI_add]; exact inb_nI (by omega) (by omega)
  have ib3 : inbB (nI i + 3) (X 21) = true := by rw [show (3 : Int32) = nI 3 from rfl, nI_add]; exact inb_nI (by omega) (by omega)
  have ib4 : inbB (nI i + 4) (X 21) = true := by rw [show (4 : Int32) = nI 4 from rfl, nI_add]; exact inb_nI (by omega) (by omega)
  have ib5 : inbB (nI i + 5) (X 21) = true := by rw [show (5 : Int32) = nI 5 from rfl, nI_add]; exact inb_nI (by omega) (by omega)
  have e6 : nI i + 6 = nI (i + 6) := by rw [show (6 : Int32) = nI 6 from rfl, nI_add]
  have c0 : ¬ (Int32.ofNat (X 21) - 6) < nI i := by
    rw [show Int32.ofNat (X 21) = nI (X 21) from rfl, show (6 : Int32) = nI 6 from rfl, pk_sub (by omega), nI_ltI (by omega) (by omega)]
    omega
  rw [f_L_law_18, if_neg c0, if_pos ib0, e6]
  obtain ⟨a1, ha1⟩ : ∃ a : Int32, a = Int32.ofNat (X (100 + (nI i + 1).toNatClampNeg)) := ⟨_, rfl⟩
  rw [← ha1]
  obtain ⟨a2, ha2⟩ : ∃ a : Int32, a = Int32.ofNat (X (100 + (nI i + 2).toNatClampNeg)) := ⟨_, rfl⟩
  rw [← ha2]
  obtain ⟨a3, ha3⟩ : ∃ a : Int32, a = Int32.ofNat (X (100 + (nI i + 3).toNatClampNeg)) := ⟨_, rfl⟩
  rw [← ha3]
  obtain ⟨a4, ha4⟩ : ∃ a : Int32, a = Int32.ofNat (X (100 + (nI i + 4).toNatClampNeg)) := ⟨_, rfl⟩
  rw [← ha4]
  obtain ⟨a5, ha5⟩ : ∃ a : Int32, a = Int32.ofNat (X (100 + (nI i + 5).toNatClampNeg)) := ⟨_, rfl⟩
  rw [← ha5]
  obtain ⟨op, hop⟩ : ∃ a : Int32, a = Int32.ofNat (X (100 + (nI i).toNatClampNeg)) &&& 31 := ⟨_, rfl⟩
  rw [← hop]
  by_cases q0 : op = 0
  · obtain ⟨xx, hxx⟩ : ∃ x : Int64, x = ((a2.toInt64 <<< ((32 : Int32).toInt64 &&& 63)) ||| (a3.toInt64 &&& 4294967295)) := ⟨_, rfl⟩
    rw [if_pos q0, if_pos ib1, if_pos ib2, if_pos ib3]
    rw [← hxx]
    obtain ⟨r, I1, I2, e1, e2, y, e3⟩ := op_feed hR a1 xx
    rw [e1, Option.bind_some, if_pos ib1, if_pos ib2, if_pos ib3]
    dsimp only
    rw [e2, Option.bind_some, if_pos rfl]
    exact ⟨I2, J, rfl, s, b, k, c, w, y, e3⟩
  rw [if_neg q0]
  by_cases q1 : op = 1
  · rw [if_pos q1]
    obtain ⟨r, I1, I2, J2, e1, e2, e3⟩ := op_market hR
    rw [e1, Option.bind_some]
    dsimp only
    rw [e2, Option.bind_some, if_pos rfl]
    exact ⟨I2, J2, rfl, e3⟩
  rw [if_neg q1]
  by_cases q2 : op = 2
  · rw [if_pos q2]
    obtain ⟨r, e1, e2⟩ := fault_ok hR.2.2.2.2.2.2.1
    rw [e1, Option.bind_some, e2, Option.bind_some, if_pos rfl]
    exact ⟨I, J, rfl, s, b, k, c, w, z, hR⟩
  rw [if_neg q2]
  by_cases q3 : op = 3
  · rw [if_pos q3, if_pos ib1]
    obtain ⟨r, e1, e2⟩ := told_ok hR a1
    rw [e1, Option.bind_some, if_pos ib1, e2, Option.bind_some, if_pos rfl]
    exact ⟨I, J, rfl, s, b, k, c, w, z, hR⟩
  rw [if_neg q3]
  by_cases q4 : op = 4
  · rw [if_pos q4, if_pos ib1, if_pos ib2]
    obtain ⟨r, e1, e2⟩ := person_ok hR a1 a2
    rw [e1, Option.bind_some, if_pos ib1, if_pos ib2, e2, Option.bind_some, if_pos rfl]
    exact ⟨I, J, rfl, s, b, k, c, w, z, hR⟩
  rw [if_neg q4]
  by_cases q5 : op = 5
  · rw [if_pos q5, if_pos ib1, if_pos ib2]
    obtain ⟨r, e1, e2⟩ := worth_ok hR.1 a1 a2
    rw [e1, Option.bind_some, if_pos ib1, if_pos ib2, e2, Option.bind_some, if_pos rfl]
    exact ⟨I, J, rfl, s, b, k, c, w, z, hR⟩
  rw [if_neg q5]
  by_cases q6 : op = 6
  · rw [if_pos q6, if_pos ib1, if_pos ib2, if_pos ib3]
    obtain ⟨r, e1, e2⟩ := bound_ok hR.1 hR.2.1 a1 a2 a3
    rw [e1, Option.bind_some, if_pos ib1, if_pos ib2, if_pos ib3, e2, Option.bind_some, if_pos rfl]
    exact ⟨I, J, rfl, s, b, k, c, w, z, hR⟩
  rw [if_neg q6]
  by_cases q7 : op = 7
  · rw [if_pos q7, if_pos ib1, if_pos ib2]
    obtain ⟨r, e1, e2⟩ := lot_ok hR.1 hR.2.1 a1 a2
    rw [e1, Option.bind_some, if_pos ib1, if_pos ib2, e2, Option.bind_some, if_pos rfl]
    exact ⟨I, J, rfl, s, b, k, c, w, z, hR⟩
  rw [if_neg q7]
  by_cases q8 : op = 8
  · rw [if_pos q8, if_pos ib1, if_pos ib2]
    obtain ⟨r, I1, I2, e1, e2, e3⟩ := op_hold hR a1 a2
    rw [e1, Option.bind_some, if_pos ib1, if_pos ib2]
    dsimp only
    rw [e2, Option.bind_some, if_pos rfl]
    exact ⟨I2, J, rfl, s, b, k, c, w, z, e3⟩
  rw [if_neg q8]
  by_cases q9 : op = 9
  · rw [if_pos q9, if_pos ib1, if_pos ib2]
    obtain ⟨r, I1, I2, e1, e2, e3⟩ := op_loose hR a1 a2
    rw [e1, Option.bind_some, if_pos ib1, if_pos ib2]
    dsimp only
    rw [e2, Option.bind_some, if_pos rfl]
    exact ⟨I2, J, rfl, s, b, k, c, w, z, e3⟩
  rw [if_neg q9]
  by_cases q10 : op = 10
  · rw [if_pos q10, if_pos ib1, if_pos ib2, if_pos ib3, if_pos ib4, if_pos ib5]
    obtain ⟨r, I1, I2, e1, e2, y, e3⟩ := op_press hR a1 a2 a3 a4 a5
    rw [e1, Option.bind_some, if_pos ib1, if_pos ib2, if_pos ib3, if_pos ib4, if_pos ib5]
    dsimp only
    rw [e2, Option.bind_some, if_pos rfl]
    exact ⟨I2, J, rfl, s, b, k, c, w, y, e3⟩
  rw [if_neg q10]
  by_cases q11 : op = 11
  · rw [if_pos q11]
    obtain ⟨r, e1, e2⟩ := price_ok hR.2.2.2.2.2.1
    rw [e1, Option.bind_some, e2, Option.bind_some, if_pos rfl]
    exact ⟨I, J, rfl, s, b, k, c, w, z, hR⟩
  rw [if_neg q11]
  by_cases q12 : op = 12
  · rw [if_pos q12, if_pos ib1]
    obtain ⟨r, e1, e2⟩ := twitches_ok a1
    rw [e1, Option.bind_some, if_pos ib1, e2, Option.bind_some, if_pos rfl]
    exact ⟨I, J, rfl, s, b, k, c, w, z, hR⟩
  rw [if_neg q12]
  by_cases q13 : op = 13
  · rw [if_pos q13, if_pos ib1]
    obtain ⟨r, I1, I2, e1, e2, e3⟩ := op_beat hR a1
    rw [e1, Option.bind_some, if_pos ib1]
    dsimp only
    rw [e2, Option.bind_some, if_pos rfl]
    exact ⟨I2, J, rfl, s, b, k, c, w, z, e3⟩
  rw [if_neg q13]
  by_cases q14 : op = 14
  · rw [if_pos q14, if_pos ib1]
    obtain ⟨r, I1, I2, e1, e2, e3⟩ := op_drift hR a1
    rw [e1, Option.bind_some, if_pos ib1]
    dsimp only
    rw [e2, Option.bind_some, if_pos rfl]
    exact ⟨I2, J, rfl, s, b, k, c, w, z, e3⟩
  rw [if_neg q14]
  by_cases q15 : op = 15
  · rw [if_pos q15, if_pos ib1, if_pos ib2, if_pos ib3]
    obtain ⟨r, e1, e2⟩ := bargain_ok hR.1 a1 a2 a3
    rw [e1, Option.bind_some, if_pos ib1, if_pos ib2, if_pos ib3, e2, Option.bind_some, if_pos rfl]
    exact ⟨I, J, rfl, s, b, k, c, w, z, hR⟩
  rw [if_neg q15]
  by_cases q16 : op = 16
  · rw [if_pos q16, if_pos ib1]
    obtain ⟨r, I1, J1, I2, e1, e2, e3⟩ := op_best hR a1
    rw [e1, Option.bind_some, if_pos ib1]
    dsimp only
    rw [e2, Option.bind_some, if_pos rfl]
    exact ⟨I2, J1, rfl, s, b, k, c, w, z, e3⟩
  rw [if_neg q16]
  by_cases q17 : op = 17
  · rw [if_pos q17, if_pos ib1, if_pos ib2]
    obtain ⟨r, I1, J1, I2, e1, e2, e3⟩ := op_span hR a1 a2
    rw [e1, Option.bind_some, if_pos ib1, if_pos ib2]
    dsimp only
    rw [e2, Option.bind_some, if_pos rfl]
    exact ⟨I2, J1, rfl, s, b, k, c, w, z, e3⟩
  rw [if_neg q17]
  by_cases q18 : op = 18
  · rw [if_pos q18, if_pos ib1, if_pos ib2, if_pos ib3, if_pos ib4]
    obtain ⟨r, I1, J1, I2, e1, e2, e3⟩ := op_lie hR a1 a2 a3 a4
    rw [e1, Option.bind_some, if_pos ib1, if_pos ib2, if_pos ib3, if_pos ib4]
    dsimp only
    rw [e2, Option.bind_some, if_pos rfl]
    exact ⟨I2, J1, rfl, s, b, k, c, w, z, e3⟩
  rw [if_neg q18]
  by_cases q19 : op = 19
  · rw [if_pos q19, if_pos ib1, if_pos ib2, if_pos ib3, if_pos ib4]
    obtain ⟨r, I1, J1, I2, e1, e2, e3⟩ := op_bestLie hR a1 a2 a3 a4
    rw [e1, Option.bind_some, if_pos ib1, if_pos ib2, if_pos ib3, if_pos ib4]
    dsimp only
    rw [e2, Option.bind_some, if_pos rfl]
    exact ⟨I2, J1, rfl, s, b, k, c, w, z, e3⟩
  rw [if_neg q19]
  by_cases q20 : op = 20
  · rw [if_pos q20, if_pos ib1, if_pos ib2, if_pos ib3, if_pos ib4]
    by_cases y4 : a4 = 0
    · obtain ⟨r, I1, I2, e1, e2, y, e3⟩ := op_seen hR a1 a2 a3 0 (by decide)
      rw [if_pos y4, e1, Option.bind_some, if_pos ib1, if_pos ib2, if_pos ib3, if_pos ib4, if_pos y4]
      dsimp only
      rw [e2, Option.bind_some, if_pos rfl]
      exact ⟨I2, J, rfl, s, b, k, y, w, z, e3⟩
    · obtain ⟨r, I1, I2, e1, e2, y, e3⟩ := op_seen hR a1 a2 a3 1 (by decide)
      rw [if_neg y4, e1, Option.bind_some, if_pos ib1, if_pos ib2, if_pos ib3, if_pos ib4, if_neg y4]
      dsimp only
      rw [e2, Option.bind_some, if_pos rfl]
      exact ⟨I2, J, rfl, s, b, k, y, w, z, e3⟩
  rw [if_neg q20]
  by_cases q21 : op = 21
  · rw [if_pos q21]
    obtain ⟨r, I1, I2, e1, e2, e3⟩ := op_forget hR
    rw [e1, Option.bind_some]
    dsimp only
    rw [e2, Option.bind_some, if_pos rfl]
    exact ⟨I2, J, rfl, s, b, k, 0, w, z, e3⟩
  rw [if_neg q21]
  by_cases q22 : op = 22
  · rw [if_pos q22, if_pos ib1, if_pos ib2]
    obtain ⟨r, e1, e2⟩ := fits_ok hR.1 hR.2.2.2.1 a1 a2
    rw [e1, Option.bind_some, if_pos ib1, if_pos ib2, e2, Option.bind_some, if_pos rfl]
    exact ⟨I, J, rfl, s, b, k, c, w, z, hR⟩
  rw [if_neg q22]
  by_cases q23 : op = 23
  · rw [if_pos q23, if_pos ib1, if_pos ib2]
    obtain ⟨r, I1, J1, J2, e1, e2, e3⟩ := op_wentFor hR a1 a2
    rw [e1, Option.bind_some, if_pos ib1, if_pos ib2]
    dsimp only
    rw [e2, Option.bind_some, if_pos rfl]
    exact ⟨I1, J2, rfl, s, b, k, c, w, z, e3⟩
  rw [if_neg q23]
  by_cases q24 : op = 24
  · rw [if_pos q24, if_pos ib1]
    obtain ⟨r, I1, I2, e1, e2, e3⟩ := op_meetings hR a1
    rw [e1, Option.bind_some, if_pos ib1]
    dsimp only
    rw [e2, Option.bind_some, if_pos rfl]
    exact ⟨I2, J, rfl, s, b, k, c, w, z, e3⟩
  rw [if_neg q24]
  by_cases q25 : op = 25
  · rw [if_pos q25, if_pos ib1, if_pos ib2, if_pos ib3, if_pos ib4]
    obtain ⟨r, I1, I2, e1, e2, y, e3⟩ := op_write hR a1 a2 a3 a4
    rw [e1, Option.bind_some, if_pos ib1, if_pos ib2, if_pos ib3, if_pos ib4]
    dsimp only
    rw [e2, Option.bind_some, if_pos rfl]
    exact ⟨I2, J, rfl, s, b, k, c, y, z, e3⟩
  rw [if_neg q25]
  by_cases q26 : op = 26
  · rw [if_pos q26]
    obtain ⟨r, I1, I2, e1, e2, e3⟩ := op_tear hR
    rw [e1, Option.bind_some]
    dsimp only
    rw [e2, Option.bind_some, if_pos rfl]
    exact ⟨I2, J, rfl, s, b, k, c, 0, z, e3⟩
  rw [if_neg q26]
  by_cases q27 : op = 27
  · rw [if_pos q27]
    obtain ⟨r, e1, e2⟩ := judge_ok hR.1 hR.2.2.2.2.1
    rw [e1, Option.bind_some, e2, Option.bind_some, if_pos rfl]
    exact ⟨I, J, rfl, s, b, k, c, w, z, hR⟩
  rw [if_neg q27]
  by_cases q28 : op = 28
  · rw [if_pos q28, if_pos ib1]
    obtain ⟨r, I1, I2, e1, e2, e3⟩ := op_seed hR a1
    rw [e1, Option.bind_some, if_pos ib1]
    dsimp only
    rw [e2, Option.bind_some, if_pos rfl]
    exact ⟨I2, J, rfl, s, b, k, c, w, z, e3⟩
  rw [if_neg q28]
  by_cases q29 : op = 29
  · rw [if_pos q29, if_pos ib1]
    obtain ⟨r, I1, I2, e1, e2, e3⟩ := op_keep hR a1
    rw [e1, Option.bind_some, if_pos ib1]
    dsimp only
    rw [e2, Option.bind_some, if_pos rfl]
    exact ⟨I2, J, rfl, s, b, k, c, w, z, e3⟩
  rw [if_neg q29]
  by_cases q30 : op = 30
  · rw [if_pos q30, if_pos ib1]
    obtain ⟨r, I1, I2, e1, e2, e3⟩ := op_goBack hR a1
    rw [e1, Option.bind_some, if_pos ib1]
    dsimp only
    rw [e2, Option.bind_some, if_pos rfl]
    exact ⟨I2, J, rfl, s, b, k, c, w, z, e3⟩
  rw [if_neg q30]
  exact ⟨I, J, rfl, s, b, k, c, w, z, hR⟩
theorem law_go (X : Nat → Nat) (hL : X 21 ≤ 3072) : ∀ d n i I J, Rel I J → X 21 ≤ i + d → i ≤ 4000 → d < n → ∃ I' J', f_L_law_18 X n (nI i) I J = some (1, I', J') := by
  intro d
  induction d using Nat.strongRecOn with
  | ind d ih =>
    intro n i I J h hd hi hn
    obtain ⟨n, rfl⟩ : ∃ m, n = m + 1 := ⟨n - 1, by omega⟩
    by_cases q : i + 6 ≤ X 21
    · obtain ⟨I1, J1, e1, e2⟩ := law_step X h n hL q
      rw [e1]
      exact ih (d - 6) (by omega) n (i + 6) I1 J1 e2 (by omega) (by omega) (by omega)
    · have c0 : (Int32.ofNat (X 21) - 6) < nI i := by
        rw [show Int32.ofNat (X 21) = nI (X 21) from rfl, show (6 : Int32) = nI 6 from rfl, Int32.lt_iff_toInt_lt, pk_sub_toInt (by omega) (by omega), nI_toInt (by omega)]
        omega
      rw [f_L_law_18, if_pos c0]
      exact ⟨I, J, rfl⟩
theorem pure_law (I : IT) (J : JT) (X : Nat → Nat) (h : Rel I J) (hL : X 21 ≤ 3072) : ∃ I' J', f_L_law_18 X FU 0 I J = some (1, I', J') := by
  have := law_go X hL (X 21) FU 0 I J h (by omega) (by omega) (by unfold FU; omega)
  rw [nI_0] at this
  exact this
