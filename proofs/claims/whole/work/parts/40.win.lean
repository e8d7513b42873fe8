/-- the winner so far, in both worlds -/
def Win (Ix : IT) (s l : Nat) (v3 v4 vm : Int32) (j : Nat) : Prop := (v3 = 0 ∧ v4 = -1 ∧ vm = -1) ∨ ∃ w, w < j ∧ v4 = nI w ∧ vm = nI (s + w) ∧ v3 = Ix 14 (6 * (s + w) + l) ∧ bd Ix (s + w) l
theorem win_go {Ix Im : IT} {s b k : Nat} (h : Rel2 Ix Im s b k) {l : Nat} (hl : l < s) (v2 : Int32) : ∀ r n j (v3 v4 vm : Int32), j + r = b → r < n → Win Ix s l v3 v4 vm j →
    (f_X1_winnerOf_31 n (nI l) v2 v3 v4 (nI j) Ix = some (-1) ∧ f_X10_sell_27 n (nI l) v2 vm (nI j) Im = some Im) ∨ ∃ w, w < b ∧ f_X1_winnerOf_31 n (nI l) v2 v3 v4 (nI j) Ix = some (nI w) ∧ f_X10_sell_27 n (nI l) v2 vm (nI j) Im = f_X10_sell_142 FU (nI l) v2 (nI (s + w)) (-1) (nI (s + b + k) - 1) Im := by
  have hR := h
  obtain ⟨⟨⟨e1, e2, e3, -⟩, ⟨x0, x1, -⟩, -⟩, ⟨-, -, ⟨m0, m1, m2⟩, -⟩, -, -⟩ := h
  intro r
  induction r with
  | zero =>
    intro n j v3 v4 vm h1 h2 hw
    obtain ⟨n, rfl⟩ : ∃ q, n = q + 1 := ⟨n - 1, by omega⟩
    have c : nI b ≤ nI j := by rw [nI_leI (by omega) (by omega)]; omega
    rw [f_X1_winnerOf_31, f_X10_sell_27, x1, m1, if_pos c, if_pos c]
    rcases hw with ⟨-, rfl, rfl⟩ | ⟨w, hw1, rfl, rfl, -, -⟩
    · left
      rw [if_neg (by decide)]
      exact ⟨rfl, rfl⟩
    · right
      refine ⟨w, by omega, rfl, ?_⟩
      rw [if_pos (nI_pos' (by omega))]
      unfold f_X10_persons
      rw [m0, m1, m2, nI_add, nI_add]
      rfl
  | succ r ih =>
    intro n j v3 v4 vm h1 h2 hw
    obtain ⟨n, rfl⟩ : ∃ q, n = q + 1 := ⟨n - 1, by omega⟩
    have c : ¬ nI b ≤ nI j := by rw [nI_leI (by omega) (by omega)]; omega
    obtain ⟨g1, g2⟩ := bd2M hR (show s + j < 14 by omega) (show l < 6 by omega)
    rw [f_X1_winnerOf_31, f_X10_sell_27, x0, x1, m0, m1, if_neg c, if_neg c, nI_add, i6, i6', bd2X Ix (show s + j < 14 by omega) (show l < 6 by omega), g1, nI_1]
    simp only [Option.bind_some, inb_nI (show 6 * (s + j) + l < 84 by omega) (show 84 < 2 ^ 31 by omega), if_true, nI_clamp (show 6 * (s + j) + l < 2 ^ 31 by omega), if_neg (show ¬ (1 : Int32) = 0 by decide)]
    have keep : Win Ix s l v3 v4 vm (j + 1) := by
      rcases hw with q | ⟨w, hw1, q⟩
      · exact Or.inl q
      · exact Or.inr ⟨w, by omega, q⟩
    by_cases d : bd Ix (s + j) l
    · have d0 := d.1
      rw [g2 d]
      simp only [cI_t d, if_neg (show ¬ (1 : Int32) = 0 by decide)]
      have nxt : Win Ix s l (Ix 14 (6 * (s + j) + l)) (nI j) (nI (s + j)) (j + 1) := Or.inr ⟨j, by omega, rfl, rfl, rfl, d⟩
      by_cases d1 : Ix 14 (6 * (s + j) + l) < v2
      · rw [if_pos d1, if_pos d1]
        exact ih n (j + 1) v3 v4 vm (by omega) (by omega) keep
      · rw [if_neg d1, if_neg d1]
        rcases hw with ⟨rfl, rfl, rfl⟩ | ⟨w, hw1, rfl, rfl, rfl, hb⟩
        · rw [if_neg (show ¬ Ix 14 (6 * (s + j) + l) ≤ 0 by grind), if_pos (by decide)]
          exact ih n (j + 1) _ _ _ (by omega) (by omega) nxt
        · rw [if_neg (show ¬ nI (s + w) < 0 from nI_pos (by omega)), i6']
          simp only [inb_nI (show 6 * (s + w) + l < 84 by omega) (show 84 < 2 ^ 31 by omega), if_true, nI_clamp (show 6 * (s + w) + l < 2 ^ 31 by omega)]
          rw [(bd2M hR (show s + w < 14 by omega) (show l < 6 by omega)).2 hb]
          by_cases d2 : Ix 14 (6 * (s + j) + l) ≤ Ix 14 (6 * (s + w) + l)
          · rw [if_pos d2, if_pos d2]
            exact ih n (j + 1) _ _ _ (by omega) (by omega) keep
          · rw [if_neg d2, if_neg d2]
            exact ih n (j + 1) _ _ _ (by omega) (by omega) nxt
    · simp only [cI_f d, if_true]
      exact ih n (j + 1) v3 v4 vm (by omega) (by omega) keep
/-- the lowest of them -/
noncomputable def low (P : Nat → Prop) : Nat → Nat → Option Nat
  | _, 0 => none
  | i, r + 1 => @ite _ (P i) (Classical.propDecidable _) (some i) (low P (i + 1) r)
theorem low_t {P : Nat → Prop} {i r : Nat} (h : P i) : low P i (r + 1) = some i := if_pos h
theorem low_f {P : Nat → Prop} {i r : Nat} (h : ¬ P i) : low P i (r + 1) = low P (i + 1) r := if_neg h
def encO : Option Nat → Int32
  | none => -1
  | some q => nI q
theorem low_in (P : Nat → Prop) : ∀ r i q, low P i r = some q → i ≤ q ∧ q < i + r := by
  intro r
  induction r with
  | zero => intro i q h; exact absurd h (by simp [low])
  | succ r ih =>
    intro i q h
    by_cases d : P i
    · rw [low_t d] at h
      have := Option.some.inj h
      omega
    · rw [low_f d] at h
      have := ih (i + 1) q h
      omega
/-- p's hands hold both -/
def hb (I : IT) (x y p : Nat) : Prop := ((I 13 p) >>> (nI x &&& 31)) &&& 1 = 1 ∧ ((I 13 p) >>> (nI y &&& 31)) &&& 1 = 1
theorem brk_go {I : IT} {s b k : Nat} (h : RelM I s b k) (x y : Nat) : ∀ r n i, i + r = s + b + k → r < n → f_X1_brokerOf_16 n (nI x) (nI y) (nI i) I = some (encO (low (hb I x y) i r)) := by
  obtain ⟨⟨e1, e2, e3, -⟩, ⟨x0, x1, x2⟩, -⟩ := h
  intro r
  induction r with
  | zero =>
    intro n i h1 h2
    obtain ⟨n, rfl⟩ : ∃ q, n = q + 1 := ⟨n - 1, by omega⟩
    rw [f_X1_brokerOf_16]
    unfold f_X2_persons
    rw [x0, x1, x2, nI_add, nI_add]
    simp only [Option.bind_some]
    rw [if_pos (by rw [nI_leI (by omega) (by omega)]; omega)]
    rfl
  | succ r ih =>
    intro n i h1 h2
    obtain ⟨n, rfl⟩ : ∃ q, n = q + 1 := ⟨n - 1, by omega⟩
    rw [f_X1_brokerOf_16]
    unfold f_X2_persons
    rw [x0, x1, x2, nI_add, nI_add, holdsX (show i < 14 by omega), holdsX (show i < 14 by omega), nI_1]
    simp only [Option.bind_some]
    rw [if_neg (by rw [nI_leI (by omega) (by omega)]; omega)]
    by_cases d1 : ((I 13 i) >>> (nI x &&& 31)) &&& 1 = 1
    · by_cases d2 : ((I 13 i) >>> (nI y &&& 31)) &&& 1 = 1
      · simp only [b2, if_pos d1, if_pos d2, if_neg (show ¬ (1 : Int32) = 0 by decide)]
        rw [low_t ⟨d1, d2⟩]
        rfl
      · simp only [b2, if_pos d1, if_neg d2, if_neg (show ¬ (1 : Int32) = 0 by decide), if_true]
        rw [low_f (fun q => d2 q.2)]
        exact ih n (i + 1) (by omega) (by omega)
    · simp only [b2, if_neg d1, if_true]
      rw [low_f (fun q => d1 q.1)]
      exact ih n (i + 1) (by omega) (by omega)
theorem brkM {Ix Im : IT} {s b k : Nat} (h : Rel2 Ix Im s b k) (x y : Nat) (hs : 0 < s) (v2 : Int32) : ∀ i n, i ≤ k → i < n → ∃ n', f_X10_sell_142 n (nI x) v2 (nI y) (encO (low (hb Ix x y) (s + b + i) (k - i))) (nI (s + b + i) - 1) Im = f_X10_sell_142 (n' + 1) (nI x) v2 (nI y) (encO (low (hb Ix x y) (s + b) k)) (nI (s + b) - 1) Im := by
  obtain ⟨⟨⟨e1, e2, e3, -⟩, -, -⟩, ⟨-, -, ⟨m0, m1, m2⟩, -⟩, -, -, -, -, r4, -⟩ := h
  intro i
  induction i with
  | zero =>
    intro n h1 h2
    obtain ⟨n, rfl⟩ : ∃ q, n = q + 1 := ⟨n - 1, by omega⟩
    exact ⟨n, rfl⟩
  | succ i ih =>
    intro n h1 h2
    obtain ⟨n, rfl⟩ : ∃ q, n = q + 1 := ⟨n - 1, by omega⟩
    obtain ⟨n', g⟩ := ih n (by omega) (by omega)
    refine ⟨n', ?_⟩
    rw [← g]
    rw [show s + b + (i + 1) = s + b + i + 1 by omega, nI_pred]
    obtain ⟨v4, e4⟩ : ∃ v4, encO (low (hb Ix x y) (s + b + i + 1) (k - (i + 1))) = v4 := ⟨_, rfl⟩
    rw [e4, f_X10_sell_142, m0, m1, nI_add, if_neg (by rw [nI_ltI (by omega) (by omega)]; omega), if_pos (inb_nI (show s + b + i < 14 by omega) (by omega)), nI_clamp (by omega), (r4 (s + b + i) (by omega)).1, hasM, hasM, show nI (s + b + i) + (-1) = nI (s + b + i) - 1 by grind]
    simp only [Option.bind_some, if_pos (inb_nI (show s + b + i < 14 by omega) (show 14 < 2 ^ 31 by omega))]
    rw [show k - i = k - (i + 1) + 1 by omega]
    by_cases d1 : ((Ix 13 (s + b + i)) >>> (nI x &&& 31)) &&& 1 = 1
    · by_cases d2 : ((Ix 13 (s + b + i)) >>> (nI y &&& 31)) &&& 1 = 1
      · simp only [b2, if_pos d1, if_pos d2, if_neg (show ¬ (1 : Int32) = 0 by decide)]
        rw [low_t ⟨d1, d2⟩]
        rfl
      · simp only [b2, if_pos d1, if_neg d2, if_neg (show ¬ (1 : Int32) = 0 by decide), if_true]
        rw [low_f (fun q => d2 q.2), e4]
    · simp only [b2, if_neg d1, if_true]
      rw [low_f (fun q => d1 q.1), e4]
