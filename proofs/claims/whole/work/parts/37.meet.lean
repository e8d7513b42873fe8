/-- does buyer j want lot l -/
def wv (I : IT) (l j : Nat) : Int32 := if I 6 (6 * j + l) < I 5 l then 0 else 1
theorem wantX {I0 I : IT} {s b k : Nat} (h : RelM I0 s b k) (hx : ∀ c, c ≠ 49 → c ≠ 81 → I c = I0 c) {l j : Nat} (hl : l < s) (hj : j < b) : f_X3_isWanted (nI l) (nI j) I = some (wv I0 l j) := by
  have e1 := h.1.1
  have e2 := h.1.2.1
  have ew : f_X2_worthOf (nI j) (nI l) I = some (I0 6 (6 * j + l)) := by
    unfold f_X2_worthOf
    rw [i6, if_pos (inb_nI (show 6 * j + l < 36 by omega) (by omega)), nI_clamp (by omega), hx 6 (by decide) (by decide)]
  unfold f_X3_isWanted wv
  rw [if_pos (inb_nI (show l < 14 by omega) (by omega)), ew, nI_clamp (by omega), hx 5 (by decide) (by decide)]
  simp only [Option.bind_some]
  by_cases d : I0 6 (6 * j + l) < I0 5 l
  · rw [if_pos d, if_pos d]
  · rw [if_neg d, if_neg d]
theorem wantM {I0 I : IT} {s b k : Nat} (h : RelM I0 s b k) (hx : ∀ c, c ≠ 49 → c ≠ 81 → I c = I0 c) {l j : Nat} (hl : l < s) (hj : j < b) : f_X10_wantsTo (nI l) (nI j) I = some (wv I0 l j) := by
  obtain ⟨⟨e1, e2, -, -⟩, -, -, -, -, -, hr, -, -, hw⟩ := h
  unfold f_X10_wantsTo wv
  rw [if_pos (inb_nI (show l < 6 by omega) (by omega)), i6', if_pos (inb_nI (show 6 * j + l < 36 by omega) (by omega)), nI_clamp (by omega), nI_clamp (by omega), hx 58 (by decide) (by decide), hx 56 (by decide) (by decide), (hr l hl).1, (hw j l hj hl).1]
  by_cases d : I0 6 (6 * j + l) < I0 5 l
  · rw [if_pos d, if_pos d]
  · rw [if_neg d, if_neg d]
-- by hands
theorem bh_tail {I : IT} {s b k : Nat} (h : RelM I s b k) {p : Nat} (hp : p < s + b) (v1 : Int32) : ∀ r n i (v3 : Int32), i + r = 6 → r < n → (if p < s then b else s) ≤ i → f_X10_byHands_22 n v1 (nI p) v3 (nI i) I = some v3 := by
  obtain ⟨⟨e1, e2, e3, -⟩, -, ⟨m0, m1, -⟩, -⟩ := h
  intro r
  induction r with
  | zero =>
    intro n i v3 h1 h2 h3
    obtain ⟨n, rfl⟩ : ∃ q, n = q + 1 := ⟨n - 1, by omega⟩
    rw [f_X10_byHands_22, if_pos (by rw [show (6 : Int32) = nI 6 from rfl, nI_leI (by omega) (by omega)]; omega)]
  | succ r ih =>
    intro n i v3 h1 h2 h3
    obtain ⟨n, rfl⟩ : ∃ q, n = q + 1 := ⟨n - 1, by omega⟩
    rw [f_X10_byHands_22, if_neg (by rw [show (6 : Int32) = nI 6 from rfl, nI_leI (by omega) (by omega)]; omega), m0, m1, show v3 + 0 = v3 by grind, nI_1]
    simp (disch := omega) only [nI_leI]
    by_cases ps : p < s
    · rw [if_pos ps] at h3
      rw [if_neg (by omega), if_pos h3]
      exact ih n (i + 1) v3 (by omega) (by omega) (by rw [if_pos ps]; omega)
    · rw [if_neg ps] at h3
      rw [if_pos (by omega), if_pos h3]
      exact ih n (i + 1) v3 (by omega) (by omega) (by rw [if_neg ps]; omega)
theorem bh_sell {I : IT} {s b k : Nat} (h : RelM I s b k) {l : Nat} (hl : l < s) (v1 v1' : Int32) : ∀ r n i (v3 : Int32), i + r = b → 6 < n → r + 6 < n → ∃ q, f_X3_byHands_20 n v1 (nI l) v3 (nI i) I = some q ∧ f_X10_byHands_22 n v1' (nI l) v3 (nI i) I = some q := by
  have hM := h
  obtain ⟨⟨e1, e2, e3, -⟩, ⟨x0, x1, -⟩, ⟨m0, m1, -⟩, -⟩ := h
  intro r
  induction r with
  | zero =>
    intro n i v3 h1 h2 h3
    rw [bh_tail hM (show l < s + b by omega) v1' (6 - i) n i v3 (by omega) (by omega) (by rw [if_pos hl]; omega)]
    obtain ⟨n, rfl⟩ : ∃ q, n = q + 1 := ⟨n - 1, by omega⟩
    rw [f_X3_byHands_20, x1, if_pos (by rw [nI_leI (by omega) (by omega)]; omega)]
    exact ⟨_, rfl, rfl⟩
  | succ r ih =>
    intro n i v3 h1 h2 h3
    obtain ⟨n, rfl⟩ : ∃ q, n = q + 1 := ⟨n - 1, by omega⟩
    rw [f_X3_byHands_20, f_X10_byHands_22, x1, m0, m1, show v3 + 0 = v3 by grind, nI_1, wantX hM (fun _ _ _ => rfl) hl (show i < b by omega), wantM hM (fun _ _ _ => rfl) hl (show i < b by omega), show (6 : Int32) = nI 6 from rfl]
    simp (disch := omega) only [nI_leI]
    rw [if_neg (by omega), if_neg (by omega), if_neg (by omega), if_neg (by omega)]
    simp only [Option.bind_some]
    by_cases d : wv I l i = 0
    · rw [if_pos d, if_pos d]; exact ih n (i + 1) _ (by omega) (by omega) (by omega)
    · rw [if_neg d, if_neg d]; exact ih n (i + 1) _ (by omega) (by omega) (by omega)
theorem bh_buy {I : IT} {s b k : Nat} (h : RelM I s b k) {j : Nat} (hj : j < b) (v1 v1' : Int32) : ∀ r n i (v3 : Int32), i + r = s → 6 < n → r + 6 < n → ∃ q, f_X3_byHands_91 n v1 (nI j) v3 (nI i) I = some q ∧ f_X10_byHands_22 n v1' (nI (s + j)) v3 (nI i) I = some q := by
  have hM := h
  obtain ⟨⟨e1, e2, e3, -⟩, ⟨x0, x1, -⟩, ⟨m0, m1, -⟩, -⟩ := h
  intro r
  induction r with
  | zero =>
    intro n i v3 h1 h2 h3
    rw [bh_tail hM (show s + j < s + b by omega) v1' (6 - i) n i v3 (by omega) (by omega) (by rw [if_neg (by omega)]; omega)]
    obtain ⟨n, rfl⟩ : ∃ q, n = q + 1 := ⟨n - 1, by omega⟩
    rw [f_X3_byHands_91, x0, if_pos (by rw [nI_leI (by omega) (by omega)]; omega)]
    exact ⟨_, rfl, rfl⟩
  | succ r ih =>
    intro n i v3 h1 h2 h3
    obtain ⟨n, rfl⟩ : ∃ q, n = q + 1 := ⟨n - 1, by omega⟩
    rw [f_X3_byHands_91, f_X10_byHands_22, x0, m0, m1, show v3 + 0 = v3 by grind, nI_1, pk_sub (by omega), show s + j - s = j by omega, wantX hM (fun _ _ _ => rfl) (show i < s by omega) hj, wantM hM (fun _ _ _ => rfl) (show i < s by omega) hj, show (6 : Int32) = nI 6 from rfl]
    simp (disch := omega) only [nI_leI]
    rw [if_neg (by omega), if_neg (by omega), if_pos (by omega), if_neg (by omega)]
    simp only [Option.bind_some]
    by_cases d : wv I i j = 0
    · rw [if_pos d, if_pos d]; exact ih n (i + 1) _ (by omega) (by omega) (by omega)
    · rw [if_neg d, if_neg d]; exact ih n (i + 1) _ (by omega) (by omega) (by omega)
theorem beats_ok {I : IT} {s b k : Nat} (h : RelM I s b k) {p : Nat} (hp : p < s + b) (r : Int32) : I 60 p = I 4 p ∧ ¬ I 4 p = 0 ∧ f_X3_beatsFor r (nI p) I = some ((r + I 4 p - 1) / I 4 p) := by
  obtain ⟨⟨e1, e2, e3, -⟩, -, -, -, -, hh, -⟩ := h
  obtain ⟨g1, g2⟩ := hh p (by omega)
  unfold f_X3_beatsFor
  rw [if_pos (inb_nI (show p < 14 by omega) (by omega)), nI_clamp (by omega)]
  have e : (if (1 : Int32) < I 4 p then I 4 p else 1) = I 4 p := by
    rcases g2 with g | g <;> rw [g] <;> decide
  have z : ¬ I 4 p = 0 := by rcases g2 with g | g <;> rw [g] <;> decide
  rw [e, if_pos z]
  exact ⟨g1, z, rfl⟩
theorem bh_max (v q : Int32) : (if v < q then q else v) = if q ≤ v then v else q := by grind
theorem bh2 {I : IT} {s b k : Nat} (h : RelM I s b k) : ∀ r n n' i (v1 : Int32), i + r = b → r < n → r < n' → ∃ q, f_X3_byHands_75 n v1 (nI i) I = some q ∧ f_X10_byHands_4 n' v1 (nI (s + i)) I = some q := by
  have hM := h
  obtain ⟨⟨e1, e2, e3, -⟩, ⟨x0, x1, -⟩, ⟨m0, m1, -⟩, -⟩ := h
  intro r
  induction r with
  | zero =>
    intro n n' i v1 h1 h2 h3
    obtain ⟨n, rfl⟩ : ∃ q, n = q + 1 := ⟨n - 1, by omega⟩
    obtain ⟨n', rfl⟩ : ∃ q, n' = q + 1 := ⟨n' - 1, by omega⟩
    rw [f_X3_byHands_75, f_X10_byHands_4, x1, m0, m1, nI_add]
    simp (disch := omega) only [nI_leI]
    rw [if_pos (by omega), if_pos (by omega)]
    exact ⟨_, rfl, rfl⟩
  | succ r ih =>
    intro n n' i v1 h1 h2 h3
    obtain ⟨n, rfl⟩ : ∃ q, n = q + 1 := ⟨n - 1, by omega⟩
    obtain ⟨n', rfl⟩ : ∃ q, n' = q + 1 := ⟨n' - 1, by omega⟩
    obtain ⟨q, g1, g2⟩ := bh_buy hM (show i < b by omega) v1 v1 s FU 0 0 (by omega) (by unfold FU; omega) (by unfold FU; omega)
    obtain ⟨k1, k2, k3⟩ := beats_ok hM (show s + i < s + b by omega) q
    rw [nI_0] at g1 g2
    rw [f_X3_byHands_75, f_X10_byHands_4, x0, x1, m0, m1, nI_add, nI_add, nI_1, nI_1]
    simp (disch := omega) only [nI_leI]
    rw [if_neg (by omega), if_neg (by omega), g1, g2]
    simp only [Option.bind_some, inb_nI (show s + i < 14 by omega) (show 14 < 2 ^ 31 by omega), if_true, nI_clamp (show s + i < 2 ^ 31 by omega)]
    rw [k3, k1, if_pos k2]
    simp only [Option.bind_some]
    rw [bh_max]
    by_cases d : (q + I 4 (s + i) - 1) / I 4 (s + i) ≤ v1
    · rw [if_pos d, if_pos d]; exact ih n n' (i + 1) _ (by omega) (by omega) (by omega)
    · rw [if_neg d, if_neg d]; exact ih n n' (i + 1) _ (by omega) (by omega) (by omega)
theorem bh1 {I : IT} {s b k : Nat} (h : RelM I s b k) : ∀ r n n' i (v1 : Int32), i + r = s → r < n → r + b < n' → ∃ q, f_X3_byHands_4 n v1 (nI i) I = some q ∧ f_X10_byHands_4 n' v1 (nI i) I = some q := by
  have hM := h
  obtain ⟨⟨e1, e2, e3, -⟩, ⟨x0, x1, -⟩, ⟨m0, m1, -⟩, -⟩ := h
  intro r
  induction r with
  | zero =>
    intro n n' i v1 h1 h2 h3
    obtain ⟨n, rfl⟩ : ∃ q, n = q + 1 := ⟨n - 1, by omega⟩
    obtain rfl : i = s := by omega
    obtain ⟨q, g1, g2⟩ := bh2 hM b FU n' 0 v1 (by omega) (by unfold FU; omega) (by omega)
    rw [f_X3_byHands_4, x0]
    simp (disch := omega) only [nI_leI]
    rw [if_pos (by omega)]
    exact ⟨q, g1, g2⟩
  | succ r ih =>
    intro n n' i v1 h1 h2 h3
    obtain ⟨n, rfl⟩ : ∃ q, n = q + 1 := ⟨n - 1, by omega⟩
    obtain ⟨n', rfl⟩ : ∃ q, n' = q + 1 := ⟨n' - 1, by omega⟩
    obtain ⟨q, g1, g2⟩ := bh_sell hM (show i < s by omega) v1 v1 b FU 0 0 (by omega) (by unfold FU; omega) (by unfold FU; omega)
    obtain ⟨k1, k2, k3⟩ := beats_ok hM (show i < s + b by omega) q
    rw [nI_0] at g1 g2
    rw [f_X3_byHands_4, f_X10_byHands_4, x0, m0, m1, nI_add, nI_1]
    simp (disch := omega) only [nI_leI]
    rw [if_neg (by omega), if_neg (by omega), g1, g2]
    simp only [Option.bind_some, inb_nI (show i < 14 by omega) (show 14 < 2 ^ 31 by omega), if_true, nI_clamp (show i < 2 ^ 31 by omega)]
    rw [k3, k1, if_pos k2]
    simp only [Option.bind_some]
    rw [bh_max]
    by_cases d : (q + I 4 i - 1) / I 4 i ≤ v1
    · rw [if_pos d, if_pos d]; exact ih n n' (i + 1) _ (by omega) (by omega) (by omega)
    · rw [if_neg d, if_neg d]; exact ih n n' (i + 1) _ (by omega) (by omega) (by omega)
theorem byHands_ok {I : IT} {s b k : Nat} (h : RelM I s b k) : ∃ q, f_X3_byHands I = some q ∧ f_X10_byHands I = some q := by
  have := h.1
  obtain ⟨q, g1, g2⟩ := bh1 h s FU FU 0 0 (by omega) (by unfold FU; omega) (by unfold FU; omega)
  exact ⟨q, g1, g2⟩
