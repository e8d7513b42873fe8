/-! the market is taken over: both sides -/
theorem tm65 : ∀ d n i (I : IT), i + d = 6 → d < n → ∃ I', f_X10_takeMarket_65 n (nI i) I = f_X10_takeMarket_103 FU 0 I' ∧ (∀ c, c ≠ 56 → c ≠ 57 → I' c = I c) ∧ (∀ j, j < i → I' 56 j = I 56 j ∧ I' 57 j = I 57 j) ∧ ∀ j, i ≤ j → j < 6 → I' 56 j = I 68 j ∧ I' 57 j = I 69 j := by
  intro d
  induction d with
  | zero =>
    intro n i I h1 h2
    obtain ⟨n, rfl⟩ : ∃ q, n = q + 1 := ⟨n - 1, by omega⟩
    rw [f_X10_takeMarket_65, if_pos (by rw [show (6 : Int32) = nI 6 from rfl, nI_leI (by omega) (by omega)]; omega)]
    exact ⟨I, rfl, fun _ _ _ => rfl, fun _ _ => ⟨rfl, rfl⟩, fun j p1 p2 => absurd p1 (by omega)⟩
  | succ d ih =>
    intro n i I h1 h2
    obtain ⟨n, rfl⟩ : ∃ q, n = q + 1 := ⟨n - 1, by omega⟩
    have cc : inbB (nI i) 6 = true := inb_nI (by omega) (by omega)
    rw [f_X10_takeMarket_65, if_neg (by rw [show (6 : Int32) = nI 6 from rfl, nI_leI (by omega) (by omega)]; omega), if_pos cc, if_pos cc, if_pos cc, if_pos cc, nI_1, nI_clamp (by omega)]
    obtain ⟨I', g1, g2, g3, g4⟩ := ih n (i + 1) (upI (upI I 56 i (I 68 i)) 57 i ((upI I 56 i (I 68 i)) 69 i)) (by omega) (by omega)
    refine ⟨I', g1, fun c hc hc' => by rw [g2 c hc hc', upI_o hc', upI_o hc], fun j hj => ?_, fun j p1 p2 => ?_⟩
    · rw [(g3 j (by omega)).1, (g3 j (by omega)).2, upI_o (by decide), upI_j (by omega), upI_j (by omega), upI_o (by decide)]
      exact ⟨rfl, rfl⟩
    · by_cases e : j = i
      · subst e
        rw [(g3 j (by omega)).1, (g3 j (by omega)).2, upI_o (by decide), upI_s, upI_s, upI_o (by decide)]
        exact ⟨rfl, rfl⟩
      · have := g4 j (by omega) p2
        rw [upI_o (by decide), upI_o (by decide), upI_o (by decide), upI_o (by decide)] at this
        exact this
theorem tm103 : ∀ d n i (I : IT), i + d = 36 → d < n → ∃ I', f_X10_takeMarket_103 n (nI i) I = f_X10_takeMarket_153 FU 0 (upI (upI I' 59 0 (I' 71 0)) 59 1 (I' 71 1)) ∧ (∀ c, c ≠ 58 → I' c = I c) ∧ (∀ j, j < i → I' 58 j = I 58 j) ∧ ∀ j, i ≤ j → j < 36 → I' 58 j = I 70 j := by
  intro d
  induction d with
  | zero =>
    intro n i I h1 h2
    obtain ⟨n, rfl⟩ : ∃ q, n = q + 1 := ⟨n - 1, by omega⟩
    rw [f_X10_takeMarket_103, if_pos (by rw [show (36 : Int32) = nI 36 from rfl, nI_leI (by omega) (by omega)]; omega)]
    refine ⟨I, ?_, fun _ _ => rfl, fun _ _ => rfl, fun j p1 p2 => absurd p1 (by omega)⟩
    rw [show (0 : Int32).toNatClampNeg = 0 from rfl, show (1 : Int32).toNatClampNeg = 1 from rfl, show (upI I 59 0 (I 71 0)) 71 1 = I 71 1 from by rw [upI_o (by decide)]]
  | succ d ih =>
    intro n i I h1 h2
    obtain ⟨n, rfl⟩ : ∃ q, n = q + 1 := ⟨n - 1, by omega⟩
    have cc : inbB (nI i) 36 = true := inb_nI (by omega) (by omega)
    rw [f_X10_takeMarket_103, if_neg (by rw [show (36 : Int32) = nI 36 from rfl, nI_leI (by omega) (by omega)]; omega), if_pos cc, if_pos cc, nI_1, nI_clamp (by omega)]
    obtain ⟨I', g1, g2, g3, g4⟩ := ih n (i + 1) (upI I 58 i (I 70 i)) (by omega) (by omega)
    refine ⟨I', g1, fun c hc => by rw [g2 c hc, upI_o hc], fun j hj => by rw [g3 j (by omega), upI_j (by omega)], fun j p1 p2 => ?_⟩
    by_cases e : j = i
    · subst e; rw [g3 j (by omega), upI_s]
    · rw [g4 j (by omega) p2, upI_o (by decide)]
/-- where the reference has read a person's hands -/
def hd72 (s b p : Nat) : Nat := if p < s then p else if p < s + b then 6 + (p - s) else 12 + (p - s - b)
theorem tm153 {s b k : Nat} (hk : s ≤ 6 ∧ b ≤ 6 ∧ k ≤ 2) : ∀ d n i (I : IT), i + d = s + b + k → d < n → I 55 0 = nI s ∧ I 55 1 = nI b ∧ I 55 2 = nI k → ∃ I', f_X10_takeMarket_153 n (nI i) I = f_X10_bare (upI (upI (upI (upI I' 55 40 0) 55 47 0) 87 0 0) 87 1 0) ∧ (∀ c, c ≠ 60 → I' c = I c) ∧ (∀ j, j < i → I' 60 j = I 60 j) ∧ ∀ j, i ≤ j → j < s + b + k → I' 60 j = I 72 (hd72 s b j) := by
  intro d
  have bs : ∀ x : Option IT, (x.bind fun r => some r) = x := fun x => by cases x <;> rfl
  induction d with
  | zero =>
    intro n i I h1 h2 h5
    obtain ⟨n, rfl⟩ : ∃ q, n = q + 1 := ⟨n - 1, by omega⟩
    rw [f_X10_takeMarket_153]
    unfold f_X10_persons
    rw [h5.1, h5.2.1, h5.2.2, nI_add, nI_add, Option.bind_some, if_pos (by rw [nI_leI (by omega) (by omega)]; omega), bs]
    exact ⟨I, rfl, fun _ _ => rfl, fun _ _ => rfl, fun j p1 p2 => absurd p1 (by omega)⟩
  | succ d ih =>
    intro n i I h1 h2 h5
    obtain ⟨n, rfl⟩ : ∃ q, n = q + 1 := ⟨n - 1, by omega⟩
    have cc : inbB (nI i) 14 = true := inb_nI (by omega) (by omega)
    have go : ∀ v, v = I 72 (hd72 s b i) → ∃ I', f_X10_takeMarket_153 n (nI (i + 1)) (upI I 60 i v) = f_X10_bare (upI (upI (upI (upI I' 55 40 0) 55 47 0) 87 0 0) 87 1 0) ∧ (∀ c, c ≠ 60 → I' c = I c) ∧ (∀ j, j < i → I' 60 j = I 60 j) ∧ ∀ j, i ≤ j → j < s + b + k → I' 60 j = I 72 (hd72 s b j) := by
      intro v hv
      obtain ⟨I', g1, g2, g3, g4⟩ := ih n (i + 1) (upI I 60 i v) (by omega) (by omega) (by rw [upI_o (by decide)]; exact h5)
      refine ⟨I', g1, fun c hc => by rw [g2 c hc, upI_o hc], fun j hj => by rw [g3 j (by omega), upI_j (by omega)], fun j p1 p2 => ?_⟩
      by_cases e : j = i
      · subst e; rw [g3 j (by omega), upI_s, hv]
      · rw [g4 j (by omega) p2, upI_o (by decide)]
    rw [f_X10_takeMarket_153]
    unfold f_X10_persons f_X10_sortOf
    rw [h5.1, h5.2.1, h5.2.2, nI_add, nI_add, Option.bind_some, if_neg (by rw [nI_leI (by omega) (by omega)]; omega)]
    by_cases q : i < s
    · rw [if_neg (by rw [nI_leI (by omega) (by omega)]; omega), Option.bind_some, if_pos rfl, if_pos cc, if_pos cc, nI_clamp (by omega), nI_1]
      exact go _ (by unfold hd72; rw [if_pos q])
    · rw [if_pos (by rw [nI_leI (by omega) (by omega)]; omega)]
      by_cases q2 : i < s + b
      · rw [if_neg (by rw [nI_leI (by omega) (by omega)]; omega), Option.bind_some, if_neg (by decide), if_pos rfl, show (6 : Int32) = nI 6 from rfl, nI_add, pk_sub (by omega), if_pos (inb_nI (show 6 + i - s < 14 by omega) (by omega)), if_pos cc, nI_clamp (by omega), nI_clamp (by omega), nI_1]
        exact go _ (by unfold hd72; rw [if_neg q, if_pos q2, show 6 + i - s = 6 + (i - s) by omega])
      · rw [if_pos (by rw [nI_leI (by omega) (by omega)]; omega), Option.bind_some, if_neg (by decide), if_neg (by decide), show (12 : Int32) = nI 12 from rfl, nI_add, pk_sub (by omega), pk_sub (by omega), if_pos (inb_nI (show 12 + i - s - b < 14 by omega) (by omega)), if_pos cc, nI_clamp (by omega), nI_clamp (by omega), nI_1]
        exact go _ (by unfold hd72; rw [if_neg q, if_neg q2, show 12 + i - s - b = 12 + (i - s - b) by omega])
theorem tm0 (I : IT) : ∃ I0, f_X10_takeMarket I = f_X10_takeMarket_65 FU 0 I0 ∧ (∀ c, c ≠ 55 → I0 c = I c) ∧ (∀ j, j ≠ 0 → j ≠ 1 → j ≠ 2 → j ≠ 8 → j ≠ 9 → I0 55 j = I 55 j) ∧ I0 55 0 = I 55 26 ∧ I0 55 1 = I 55 27 ∧ I0 55 2 = I 55 28 ∧ I0 55 8 = (if 0 ≤ I 55 34 then I 55 34 else 12) ∧ I0 55 9 = (if 0 ≤ I 55 35 then I 55 35 else 2) := by
  have e34 : ∀ a b c : Int32, (upI (upI (upI I 55 0 a) 55 1 b) 55 2 c) 55 34 = I 55 34 := fun a b c => by rw [upI_j (by decide), upI_j (by decide), upI_j (by decide)]
  have e35 : ∀ a b c d : Int32, (upI (upI (upI (upI I 55 0 a) 55 1 b) 55 2 c) 55 8 d) 55 35 = I 55 35 := fun a b c d => by rw [upI_j (by decide), upI_j (by decide), upI_j (by decide), upI_j (by decide)]
  have e27 : ∀ a : Int32, (upI I 55 0 a) 55 27 = I 55 27 := fun a => upI_j (by decide)
  have e28 : ∀ a b : Int32, (upI (upI I 55 0 a) 55 1 b) 55 28 = I 55 28 := fun a b => by rw [upI_j (by decide), upI_j (by decide)]
  have fin : ∀ x y : Int32, (∀ c, c ≠ 55 → (upI (upI (upI (upI (upI I 55 0 (I 55 26)) 55 1 (I 55 27)) 55 2 (I 55 28)) 55 8 x) 55 9 y) c = I c) ∧ (∀ j, j ≠ 0 → j ≠ 1 → j ≠ 2 → j ≠ 8 → j ≠ 9 → (upI (upI (upI (upI (upI I 55 0 (I 55 26)) 55 1 (I 55 27)) 55 2 (I 55 28)) 55 8 x) 55 9 y) 55 j = I 55 j) ∧ (upI (upI (upI (upI (upI I 55 0 (I 55 26)) 55 1 (I 55 27)) 55 2 (I 55 28)) 55 8 x) 55 9 y) 55 0 = I 55 26 ∧ (upI (upI (upI (upI (upI I 55 0 (I 55 26)) 55 1 (I 55 27)) 55 2 (I 55 28)) 55 8 x) 55 9 y) 55 1 = I 55 27 ∧ (upI (upI (upI (upI (upI I 55 0 (I 55 26)) 55 1 (I 55 27)) 55 2 (I 55 28)) 55 8 x) 55 9 y) 55 2 = I 55 28 ∧ (upI (upI (upI (upI (upI I 55 0 (I 55 26)) 55 1 (I 55 27)) 55 2 (I 55 28)) 55 8 x) 55 9 y) 55 8 = x ∧ (upI (upI (upI (upI (upI I 55 0 (I 55 26)) 55 1 (I 55 27)) 55 2 (I 55 28)) 55 8 x) 55 9 y) 55 9 = y := by
    intro x y
    refine ⟨fun c hc => by rw [upI_o hc, upI_o hc, upI_o hc, upI_o hc, upI_o hc], fun j h0 h1 h2 h8 h9 => by rw [upI_j h9, upI_j h8, upI_j h2, upI_j h1, upI_j h0], ?_, ?_, ?_, ?_, upI_s⟩
    · rw [upI_j (by decide), upI_j (by decide), upI_j (by decide), upI_j (by decide), upI_s]
    · rw [upI_j (by decide), upI_j (by decide), upI_j (by decide), upI_s]
    · rw [upI_j (by decide), upI_j (by decide), upI_s]
    · rw [upI_j (by decide), upI_s]
  unfold f_X10_takeMarket
  simp only [e27, e28, e34, e35]
  by_cases q : 0 ≤ I 55 34
  · by_cases q2 : 0 ≤ I 55 35
    · rw [if_pos q, if_pos q2, if_pos q, if_pos q2]
      exact ⟨_, rfl, fin _ _⟩
    · rw [if_pos q, if_neg q2, if_pos q, if_neg q2]
      exact ⟨_, rfl, fin _ _⟩
  · by_cases q2 : 0 ≤ I 55 35
    · rw [if_neg q, if_pos q2, if_neg q, if_pos q2]
      exact ⟨_, rfl, fin _ _⟩
    · rw [if_neg q, if_neg q2, if_neg q, if_neg q2]
      exact ⟨_, rfl, fin _ _⟩
theorem tmk_ok {I : IT} {s b k : Nat} (hk : s ≤ 6 ∧ b ≤ 6 ∧ k ≤ 2) (hn : I 55 26 = nI s ∧ I 55 27 = nI b ∧ I 55 28 = nI k) : ∃ I', f_X10_takeMarket I = some I' ∧ (I' 55 0 = nI s ∧ I' 55 1 = nI b ∧ I' 55 2 = nI k) ∧ I' 55 8 = (if 0 ≤ I 55 34 then I 55 34 else 12) ∧ I' 55 9 = (if 0 ≤ I 55 35 then I 55 35 else 2) ∧ (∀ j, j < 6 → I' 56 j = I 68 j ∧ I' 57 j = I 69 j) ∧ (∀ j, j < 36 → I' 58 j = I 70 j) ∧ (∀ j, j < 2 → I' 59 j = I 71 j) ∧ (∀ p, p < s + b + k → I' 60 p = I 72 (hd72 s b p)) ∧ (I' 55 40 = 0 ∧ I' 55 47 = 0 ∧ I' 87 0 = 0 ∧ I' 87 1 = 0) ∧ I' 55 16 = 0 ∧ (∀ j, j < 14 → I' 61 j = 0 ∧ I' 66 j = 0) ∧ (∀ j, j < 84 → I' 62 j = -1 ∧ I' 63 j = -1) ∧ (∀ j, j < 6 → I' 64 j = -1 ∧ I' 65 j = -1) ∧ (∀ c, c < 55 → I' c = I c) ∧ (∀ j, j ∉ [0, 1, 2, 8, 9, 16, 40, 47] → I' 55 j = I 55 j) := by
  obtain ⟨I0, a1, a2, a3, a4, a5, a6, a7, a8⟩ := tm0 I
  obtain ⟨I1, b1, b2, -, b4⟩ := tm65 6 FU 0 I0 (by omega) (by unfold FU; omega)
  obtain ⟨I2, c1, c2', -, c4⟩ := tm103 36 FU 0 I1 (by omega) (by unfold FU; omega)
  have f2 : ∀ c, c ≠ 55 → c ≠ 56 → c ≠ 57 → c ≠ 58 → I2 c = I c := fun c h1 h2 h3 h4 => by rw [c2' c h4, b2 c h2 h3, a2 c h1]
  have f25 : ∀ j, I2 55 j = I0 55 j := fun j => by rw [c2' 55 (by decide), b2 55 (by decide) (by decide)]
  obtain ⟨I3, hI3⟩ : ∃ I3 : IT, I3 = upI (upI I2 59 0 (I2 71 0)) 59 1 (I2 71 1) := ⟨_, rfl⟩
  have g3 : ∀ c, c ≠ 59 → I3 c = I2 c := fun c hc => by rw [hI3, upI_o hc, upI_o hc]
  obtain ⟨I4, d1, d2, -, d4⟩ := tm153 hk (s + b + k) FU 0 I3 (by omega) (by unfold FU; omega) (by rw [g3 55 (by decide), f25, f25, f25, a4, a5, a6]; exact hn)
  obtain ⟨I5, hI5⟩ : ∃ I5 : IT, I5 = upI (upI (upI (upI I4 55 40 0) 55 47 0) 87 0 0) 87 1 0 := ⟨_, rfl⟩
  have g5 : ∀ c, c ≠ 55 → c ≠ 87 → I5 c = I4 c := fun c h1 h2 => by rw [hI5, upI_o h2, upI_o h2, upI_o h1, upI_o h1]
  have g55 : ∀ j, j ≠ 40 → j ≠ 47 → I5 55 j = I4 55 j := fun j h1 h2 => by rw [hI5, upI_o (by decide), upI_o (by decide), upI_j h2, upI_j h1]
  obtain ⟨I6, e1, e2, e3, e4, e5, e6⟩ := barM_ok I5
  have f45 : ∀ j, I4 55 j = I0 55 j := fun j => by rw [d2 55 (by decide), g3 55 (by decide), f25]
  have h6 : ∀ c, c ≠ 55 → c ≠ 61 → c ≠ 62 → c ≠ 63 → c ≠ 64 → c ≠ 65 → c ≠ 66 → c ≠ 87 → c ≠ 60 → I6 c = I3 c := fun c q0 q1 q2 q3 q4 q5 q6 q7 q8 => by rw [e2 c q0 q1 q2 q3 q4 q5 q6, g5 c q0 q7, d2 c q8]
  rw [nI_0] at b1 c1 d1
  refine ⟨I6, by rw [a1, b1, c1, ← hI3, d1, ← hI5, e1], ⟨?_, ?_, ?_⟩, ?_, ?_, fun j hj => ?_, fun j hj => ?_, fun j hj => ?_, fun p hp => ?_, ⟨?_, ?_, ?_, ?_⟩, e3.1, e4, e5, e6, fun c hc => ?_, fun j hj => ?_⟩
  · rw [e3.2 0 (by decide), g55 0 (by decide) (by decide), f45, a4]; exact hn.1
  · rw [e3.2 1 (by decide), g55 1 (by decide) (by decide), f45, a5]; exact hn.2.1
  · rw [e3.2 2 (by decide), g55 2 (by decide) (by decide), f45, a6]; exact hn.2.2
  · rw [e3.2 8 (by decide), g55 8 (by decide) (by decide), f45, a7]
  · rw [e3.2 9 (by decide), g55 9 (by decide) (by decide), f45, a8]
  · rw [h6 56 (by decide) (by decide) (by decide) (by decide) (by decide) (by decide) (by decide) (by decide) (by decide), h6 57 (by decide) (by decide) (by decide) (by decide) (by decide) (by decide) (by decide) (by decide) (by decide), g3 56 (by decide), g3 57 (by decide), c2' 56 (by decide), c2' 57 (by decide), (b4 j (by omega) hj).1, (b4 j (by omega) hj).2, a2 68 (by decide), a2 69 (by decide)]
    exact ⟨rfl, rfl⟩
  · rw [h6 58 (by decide) (by decide) (by decide) (by decide) (by decide) (by decide) (by decide) (by decide) (by decide), g3 58 (by decide), c4 j (by omega) hj, b2 70 (by decide) (by decide), a2 70 (by decide)]
  · rw [h6 59 (by decide) (by decide) (by decide) (by decide) (by decide) (by decide) (by decide) (by decide) (by decide), hI3]
    have : j = 0 ∨ j = 1 := by omega
    rcases this with rfl | rfl
    · rw [upI_j (by decide), upI_s, f2 71 (by decide) (by decide) (by decide) (by decide)]
    · rw [upI_s, f2 71 (by decide) (by decide) (by decide) (by decide)]
  · rw [e2 60 (by decide) (by decide) (by decide) (by decide) (by decide) (by decide) (by decide), g5 60 (by decide) (by decide), d4 p (by omega) hp, g3 72 (by decide), f2 72 (by decide) (by decide) (by decide) (by decide)]
  · rw [e3.2 40 (by decide), hI5, upI_o (by decide), upI_o (by decide), upI_j (by decide), upI_s]
  · rw [e3.2 47 (by decide), hI5, upI_o (by decide), upI_o (by decide), upI_s]
  · rw [e2 87 (by decide) (by decide) (by decide) (by decide) (by decide) (by decide) (by decide), hI5, upI_j (by decide), upI_s]
  · rw [e2 87 (by decide) (by decide) (by decide) (by decide) (by decide) (by decide) (by decide), hI5, upI_s]
  · rw [h6 c (by omega) (by omega) (by omega) (by omega) (by omega) (by omega) (by omega) (by omega) (by omega), g3 c (by omega), f2 c (by omega) (by omega) (by omega) (by omega)]
  · simp only [List.mem_cons, List.not_mem_nil, or_false, not_or] at hj
    rw [e3.2 j (by omega), g55 j (by omega) (by omega), f45, a3 j (by omega) (by omega) (by omega) (by omega) (by omega)]
/-- the class's market becomes the draft -/
theorem become_ok (I : IT) : ∃ r, f_X2_become_8 I = some r ∧ (∀ j, j < 5 → r 3 j = I 8 j) ∧ (∀ j, j < 14 → r 4 j = I 9 j ∧ r 5 j = I 10 j) ∧ (∀ j, j < 36 → r 6 j = I 11 j) ∧ ∀ c, c ≠ 3 → c ≠ 4 → c ≠ 5 → c ≠ 6 → r c = I c := by
  have e1 : ∀ a : Int32, (upI I 3 0 a) 8 1 = I 8 1 := fun a => by rw [upI_o (by decide)]
  have e2 : ∀ a b : Int32, (upI (upI I 3 0 a) 3 1 b) 8 2 = I 8 2 := fun a b => by rw [upI_o (by decide), upI_o (by decide)]
  have e3 : ∀ a b c : Int32, (upI (upI (upI I 3 0 a) 3 1 b) 3 2 c) 8 3 = I 8 3 := fun a b c => by rw [upI_o (by decide), upI_o (by decide), upI_o (by decide)]
  have e4 : ∀ a b c d : Int32, (upI (upI (upI (upI I 3 0 a) 3 1 b) 3 2 c) 3 3 d) 8 4 = I 8 4 := fun a b c d => by rw [upI_o (by decide), upI_o (by decide), upI_o (by decide), upI_o (by decide)]
  unfold f_X2_become_8
  rw [show (0 : Int32).toNatClampNeg = 0 from rfl, show (14 : Int32).toNatClampNeg = 14 from rfl, show (36 : Int32).toNatClampNeg = 36 from rfl]
  simp only [e1, e2, e3, e4]
  obtain ⟨A, hA⟩ : ∃ A : IT, A = upI (upI (upI (upI (upI I 3 0 (I 8 0)) 3 1 (I 8 1)) 3 2 (I 8 2)) 3 3 (I 8 3)) 3 4 (I 8 4) := ⟨_, rfl⟩
  rw [← hA]
  have fA : ∀ c, c ≠ 3 → A c = I c := fun c hc => by rw [hA, upI_o hc, upI_o hc, upI_o hc, upI_o hc, upI_o hc]
  have vA : ∀ j, j < 5 → A 3 j = I 8 j := by
    intro j hj
    have : j = 0 ∨ j = 1 ∨ j = 2 ∨ j = 3 ∨ j = 4 := by omega
    rw [hA]
    rcases this with rfl | rfl | rfl | rfl | rfl <;> simp [upI, upd]
  obtain ⟨B, hB⟩ : ∃ B : IT, B = upF A 4 (va_cpy (A 9) (A 4) 0 0 14) := ⟨_, rfl⟩
  rw [← hB, Option.bind_some]
  have fB : ∀ c, c ≠ 4 → B c = A c := fun c hc => by rw [hB]; simp [upF, hc]
  obtain ⟨C, hC⟩ : ∃ C : IT, C = upF B 5 (va_cpy (B 10) (B 5) 0 0 14) := ⟨_, rfl⟩
  rw [← hC, Option.bind_some]
  have fC : ∀ c, c ≠ 5 → C c = B c := fun c hc => by rw [hC]; simp [upF, hc]
  obtain ⟨D, hD⟩ : ∃ D : IT, D = upF C 6 (va_cpy (C 11) (C 6) 0 0 36) := ⟨_, rfl⟩
  rw [← hD, Option.bind_some]
  have fD : ∀ c, c ≠ 6 → D c = C c := fun c hc => by rw [hD]; simp [upF, hc]
  refine ⟨D, rfl, fun j hj => ?_, fun j hj => ⟨?_, ?_⟩, fun j hj => ?_, fun c h3 h4 h5 h6 => by rw [fD c h6, fC c h5, fB c h4, fA c h3]⟩
  · rw [fD 3 (by decide), fC 3 (by decide), fB 3 (by decide), vA j hj]
  · rw [fD 4 (by decide), fC 4 (by decide), hB]
    simp only [upF, if_true]
    rw [pk_cpy_in (by omega) (by omega), Nat.zero_add, Nat.sub_zero, fA 9 (by decide)]
  · rw [fD 5 (by decide), hC]
    simp only [upF, if_true]
    rw [pk_cpy_in (by omega) (by omega), Nat.zero_add, Nat.sub_zero, fB 10 (by decide), fA 10 (by decide)]
  · rw [hD]
    simp only [upF, if_true]
    rw [pk_cpy_in (by omega) (by omega), Nat.zero_add, Nat.sub_zero, fC 11 (by decide), fB 11 (by decide), fA 11 (by decide)]
