/-- two worlds, the class's and the reference's, side by side -/
def Rel2 (Ix Im : IT) (s b k : Nat) : Prop := RelM Ix s b k ∧ RelM Im s b k ∧ (∀ c, 3 ≤ c → c ≤ 6 → Im c = Ix c)
  ∧ RC (Ix 13) (Ix 14) (Ix 15) (Ix 16) (Ix 17) (Ix 18) (Ix 12 1) (Ix 12 2) (Im 55 16) (Im 55 17) (Im 61) (Im 62) (Im 63) (Im 64) (Im 65) (Im 66) (s + b + k) (Ix 4)
def bd (I : IT) (p l : Nat) : Prop := 0 < I 14 (6 * p + l) ∧ I 12 1 < I 15 (6 * p + l)
theorem bd2X {p l : Nat} (I : IT) (h1 : p < 14) (h2 : l < 6) : f_X1_isBound (nI p) (nI l) I = some (cI (bd I p l)) := by
  rw [boundX I h1 h2]
  congr 1
  exact cI_i _
theorem bd2M {Ix Im : IT} {s b k : Nat} (h : Rel2 Ix Im s b k) {p l : Nat} (h1 : p < 14) (h2 : l < 6) : f_X10_isBound (nI p) (nI l) Im = some (cI (bd Ix p l)) ∧ (bd Ix p l → Im 62 (6 * p + l) = Ix 14 (6 * p + l)) := by
  obtain ⟨-, -, -, r1, -, -, -, -, r6, -⟩ := h
  have q := r6 (6 * p + l) (by omega)
  rw [boundM Im h1 h2]
  unfold bd
  rcases q with ⟨q1, q2⟩ | ⟨q1, q2, q3⟩
  · rw [q1, q2]
    refine ⟨?_, fun h => absurd h.1 (by decide)⟩
    rw [cI_f (fun h => absurd h.1 (by decide))]
    congr 1
  · rw [q2, q3, r1]
    refine ⟨?_, fun _ => rfl⟩
    congr 1
    rw [← cI_i]
    unfold b2
    grind
theorem left_go {Ix Im : IT} {s b k : Nat} (h : Rel2 Ix Im s b k) {p l : Nat} (hp : p < s + b) (hl : l < s) : ∀ r n i (vx vm : Int32), i + r = s → r < n → ∃ t, f_X1_leftInPurse_20 n (nI p) (nI l) vx (nI i) Ix = some (vx - t) ∧ f_X10_boundBesides_5 n (nI p) (nI l) vm (nI i) Im = some (vm + t) := by
  have hR := h
  obtain ⟨⟨⟨e1, e2, e3, -⟩, ⟨x0, -, -⟩, -⟩, ⟨-, -, ⟨m0, -, -⟩, -⟩, -, -⟩ := h
  intro r
  induction r with
  | zero =>
    intro n i vx vm h1 h2
    obtain ⟨n, rfl⟩ : ∃ q, n = q + 1 := ⟨n - 1, by omega⟩
    have c : nI s ≤ nI i := by rw [nI_leI (by omega) (by omega)]; omega
    rw [f_X1_leftInPurse_20, f_X10_boundBesides_5, x0, m0, if_pos c, if_pos c]
    exact ⟨0, congrArg some (show vx = vx - 0 by grind), congrArg some (show vm = vm + 0 by grind)⟩
  | succ r ih =>
    intro n i vx vm h1 h2
    obtain ⟨n, rfl⟩ : ∃ q, n = q + 1 := ⟨n - 1, by omega⟩
    have c : ¬ nI s ≤ nI i := by rw [nI_leI (by omega) (by omega)]; omega
    obtain ⟨g1, g2⟩ := bd2M hR (show p < 14 by omega) (show i < 6 by omega)
    rw [f_X1_leftInPurse_20, f_X10_boundBesides_5, x0, m0, if_neg c, if_neg c, bd2X Ix (show p < 14 by omega) (show i < 6 by omega), g1, i6, i6', if_pos (inb_nI (show 6 * p + i < 84 by omega) (by omega)), if_pos (inb_nI (show 6 * p + i < 84 by omega) (by omega)), nI_clamp (show 6 * p + i < 2 ^ 31 by omega), nI_1, show vm + 0 = vm by grind]
    simp only [Option.bind_some]
    by_cases d : nI i = nI l
    · rw [if_pos d, if_pos d]; exact ih n (i + 1) vx vm (by omega) (by omega)
    · rw [if_neg d, if_neg d]
      by_cases d2 : bd Ix p i
      · rw [cI_t d2, if_neg (by decide), if_neg (by decide), g2 d2]
        obtain ⟨t, k1, k2⟩ := ih n (i + 1) (vx - Ix 14 (6 * p + i)) (vm + Ix 14 (6 * p + i)) (by omega) (by omega)
        exact ⟨Ix 14 (6 * p + i) + t, by rw [k1]; congr 1; grind, by rw [k2]; congr 1; grind⟩
      · rw [cI_f d2, if_pos rfl, if_pos rfl]; exact ih n (i + 1) vx vm (by omega) (by omega)
theorem may2 {Ix Im : IT} {s b k : Nat} (h : Rel2 Ix Im s b k) {p l : Nat} (hp : p < s + b) (hl : l < s) (v : Int32) (hs : Ix 16 l = -1) : ∃ q, f_X1_mayBind (nI p) (nI l) v Ix = some q ∧ f_X10_canBind (nI p) (nI l) v Im = some q ∧ (q = 0 ∨ q = 1) := by
  have hR := h
  obtain ⟨hx, hm, hl3, r1, -, -, -, -, -, -, r8⟩ := h
  have e1 := hx.1.1
  have e2 := hx.1.2.1
  obtain ⟨g1, g2⟩ := bd2M hR (show p < 14 by omega) (show l < 6 by omega)
  unfold f_X1_mayBind f_X10_canBind f_X1_isSold
  rw [if_pos (inb_nI (show l < 6 by omega) (by omega)), nI_clamp (by omega), if_pos hs, bd2X Ix (show p < 14 by omega) (show l < 6 by omega), g1, sortOfX (by omega) hx, sortOfM (by omega) hm, hm.2.2.1.1]
  simp only [Option.bind_some, if_true]
  by_cases d : bd Ix p l
  · rw [cI_t d, if_neg (by decide), if_neg (by decide)]
    exact ⟨_, rfl, rfl, Or.inl rfl⟩
  · rw [cI_f d, if_pos rfl, if_pos rfl]
    by_cases ps : p < s
    · simp only [srt, if_pos ps, if_neg (show ¬ (0 : Int32) = 1 by decide), if_true]
      exact ⟨_, rfl, rfl, Or.inr rfl⟩
    · obtain ⟨t, k1, k2⟩ := left_go hR hp hl s FU 0 (Ix 5 p - Ix 18 p) 0 (by omega) (by unfold FU; omega)
      rw [nI_0] at k1 k2
      unfold f_X1_leftInPurse f_X10_boundBesides
      simp only [srt, if_neg ps, if_pos hp, if_neg (show ¬ (1 : Int32) = 0 by decide), if_true, inb_nI (show p < 14 by omega) (show 14 < 2 ^ 31 by omega), nI_clamp (show p < 2 ^ 31 by omega), pk_sub (show s ≤ p by omega), inb_nI (show p - s < 6 by omega) (show 6 < 2 ^ 31 by omega), nI_clamp (show p - s < 2 ^ 31 by omega), k1, k2, Option.bind_some]
      have w := (hm.2.2.2.2.2.2.2.1 (p - s) (by omega)).1
      rw [show s + (p - s) = p by omega, hl3 5 (by decide) (by decide)] at w
      rw [w, r8 p (by omega), show Ix 5 p - (0 + t) - Ix 18 p = Ix 5 p - Ix 18 p - t by grind]
      by_cases q : Ix 5 p - Ix 18 p - t < v
      · rw [if_pos q]; exact ⟨_, rfl, rfl, Or.inl rfl⟩
      · rw [if_neg q]; exact ⟨_, rfl, rfl, Or.inr rfl⟩
theorem may2s {Ix : IT} {l : Nat} (hl : l < 6) (a v : Int32) (hs : Ix 16 l ≠ -1) : f_X1_mayBind a (nI l) v Ix = some 0 := by
  unfold f_X1_mayBind f_X1_isSold
  rw [if_pos (inb_nI hl (by omega)), nI_clamp (by omega), if_neg hs]
  rfl
