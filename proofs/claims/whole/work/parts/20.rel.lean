/-! PURE PART. What both systems' cells have to do with one another. Whole numbers that are small stand as nI of a Nat. -/
theorem lgc_lt (x y : Int64) : lg_cmp x y < 0 ↔ x < y := by unfold lg_cmp; grind
theorem lgc_gt (x y : Int64) : 0 < lg_cmp x y ↔ y < x := by unfold lg_cmp; grind
theorem lgc_le (x y : Int64) : lg_cmp x y ≤ 0 ↔ x ≤ y := by unfold lg_cmp; grind
theorem lgc_ge (x y : Int64) : 0 ≤ lg_cmp x y ↔ y ≤ x := by unfold lg_cmp; grind
theorem lgc_eq (x y : Int64) : lg_cmp x y = 0 ↔ x = y := by unfold lg_cmp; grind
theorem w_lt (a b : Int32) : a.toInt64 < b.toInt64 ↔ a < b := by rw [Int64.lt_iff_toInt_lt, Int32.lt_iff_toInt_lt]; simp
theorem w_le (a b : Int32) : a.toInt64 ≤ b.toInt64 ↔ a ≤ b := by rw [Int64.le_iff_toInt_le, Int32.le_iff_toInt_le]; simp
abbrev b2 (P : Prop) [Decidable P] : Int32 := if P then 1 else 0
theorem in32 {a lo hi : Int32} {lo' hi' : Int64} (h1 : lo' = lo.toInt64) (h2 : hi' = hi.toInt64) : f_X10_in a.toInt64 lo' hi' = some (b2 (lo ≤ a ∧ a ≤ hi)) := by
  subst h1; subst h2
  unfold f_X10_in
  simp only [lgc_lt, lgc_gt, w_lt, b2]
  grind
theorem isW (a lo hi : Int32) : f_X9_isWithin a lo hi = some (b2 (lo ≤ a ∧ a ≤ hi)) := by
  unfold f_X9_isWithin b2; grind
/-- a number out of 0 .. n less 1 -/
def Bad (a : Int32) (n : Nat) : Prop := a < 0 ∨ nI n ≤ a
theorem good_or (a : Int32) {n : Nat} (hn : n < 2 ^ 31) : Bad a n ∨ ∃ p, p < n ∧ a = nI p := by
  rcases pk_ix a hn with h | h | h
  · exact Or.inl (Or.inl h)
  · exact Or.inl (Or.inr h)
  · exact Or.inr h
theorem nI_lit (n : Nat) : (OfNat.ofNat n : Int32) = nI n := rfl
theorem nI_nn {n : Nat} (h : n < 2 ^ 31) : ¬ nI n < 0 := nI_pos h
theorem nI_ge0 {n : Nat} (h : n < 2 ^ 31) : 0 ≤ nI n := nI_pos' h
theorem inb_nI {p n : Nat} (h : p < n) (hn : n < 2 ^ 31) : inbB (nI p) n = true := by
  unfold inbB
  exact decide_eq_true (vp_in_nI h hn)
theorem inb_bad {a : Int32} {n : Nat} (h : Bad a n) (hn : n < 2 ^ 31) : ¬ inbB a n = true := by
  intro q
  obtain ⟨j, hj, rfl⟩ := vp_in_of (inb_of q) hn
  rcases h with h | h
  · exact nI_pos (by omega) h
  · exact absurd ((nI_leI hn (by omega)).mp h) (by omega)
/-- the market -/
def RelM (I : IT) (s b k : Nat) : Prop :=
  (s ≤ 6 ∧ b ≤ 6 ∧ k ≤ 2 ∧ (b = 0 ∨ 0 < s)) ∧ (I 3 0 = nI s ∧ I 3 1 = nI b ∧ I 3 2 = nI k) ∧ (I 55 0 = nI s ∧ I 55 1 = nI b ∧ I 55 2 = nI k)
  ∧ ((∃ v, 1 ≤ v ∧ v ≤ 99 ∧ I 3 3 = nI v) ∧ I 55 8 = I 3 3) ∧ ((∃ v, v ≤ 99 ∧ I 3 4 = nI v) ∧ I 55 9 = I 3 4)
  ∧ (∀ p, p < s + b + k → I 60 p = I 4 p ∧ (I 4 p = 1 ∨ I 4 p = 2))
  ∧ (∀ p, p < s → I 56 p = I 5 p ∧ ∃ v, v ≤ 999 ∧ I 5 p = nI v)
  ∧ (∀ j, j < b → I 57 j = I 5 (s + j) ∧ ∃ v, v ≤ 9999 ∧ I 5 (s + j) = nI v)
  ∧ (∀ j, j < k → I 59 j = I 5 (s + b + j) ∧ ∃ v, v ≤ 50 ∧ I 5 (s + b + j) = nI v)
  ∧ (∀ j l, j < b → l < s → I 58 (6 * j + l) = I 6 (6 * j + l) ∧ ∃ v, v ≤ 999 ∧ I 6 (6 * j + l) = nI v)
/-- how many of the n low bits are set, as the reference counts them -/
def popc (v : Int32) : Nat → Int32
  | 0 => 0
  | n + 1 => popc v n + ((v >>> (nI n &&& 31)) &&& 1)
/-- a course: the class's cells, the reference's; N: how many persons; hd: their hands -/
def RC (x13 x14 x15 x16 x17 x18 : Nat → Int32) (be se be' se' : Int32) (mh mb mt ms mf mp : Nat → Int32) (N : Nat) (hd : Nat → Int32) : Prop :=
  be' = be ∧ se' = se ∧ 0 ≤ se
  ∧ (∀ p, p < 14 → mh p = x13 p ∧ 0 ≤ x13 p ∧ x13 p < 16384)
  ∧ (∀ p, p < N → popc (x13 p) 14 ≤ hd p)
  ∧ (∀ c, c < 84 → (x14 c = 0 ∧ mb c = -1) ∨ (1 ≤ x14 c ∧ mb c = x14 c ∧ mt c = x15 c))
  ∧ (∀ l, l < 6 → ms l = x16 l ∧ -1 ≤ x16 l ∧ mf l = x17 l)
  ∧ (∀ p, p < 14 → mp p = x18 p)
def RelC (I : IT) (N : Nat) : Prop := RC (I 13) (I 14) (I 15) (I 16) (I 17) (I 18) (I 12 1) (I 12 2) (I 55 16) (I 55 17) (I 61) (I 62) (I 63) (I 64) (I 65) (I 66) N (I 4)
def RelI (I : IT) (N c at0 : Nat) : Prop := RC (I (c + 1)) (I (c + 2)) (I (c + 3)) (I (c + 4)) (I (c + 5)) (I (c + 6)) (I c 1) (I c 2) (I 86 (at0 + 208)) (I 86 (at0 + 209)) (fun p => I 86 (at0 + 168 + p)) (fun k => I 86 (at0 + k)) (fun k => I 86 (at0 + 84 + k)) (fun l => I 86 (at0 + 196 + l)) (fun l => I 86 (at0 + 202 + l)) (fun p => I 86 (at0 + 182 + p)) N (I 4)
def RelK (I : IT) (N : Nat) : Prop := (I 87 0 = I 34 0 ∧ I 87 1 = I 34 1) ∧ (I 34 0 = 0 ∨ (I 34 0 = 1 ∧ RelI I N 20 0)) ∧ (I 34 1 = 0 ∨ (I 34 1 = 1 ∧ RelI I N 27 220))
/-- what was seen -/
def RelW (I : IT) (s c : Nat) : Prop := I 41 0 = nI c ∧ I 55 40 = nI c ∧ c ≤ 10
  ∧ ∀ i, i < c → (I 76 i = I 42 i ∧ ∃ l, l < s ∧ I 42 i = nI l) ∧ (I 77 i = I 43 i ∧ ∃ v, v ≤ 60 ∧ I 43 i = nI v) ∧ (I 78 i = I 44 i ∧ ∃ v, v ≤ 9 ∧ I 44 i = nI v) ∧ I 79 i = I 45 i ∧ (I 45 i = 0 ∨ I 45 i = 1)
/-- the book -/
def RelB (I : IT) (s b c : Nat) : Prop := I 50 1 = nI c ∧ I 55 47 = nI c ∧ c ≤ 30
  ∧ ∀ i, i < c → (I 82 i = I 51 i ∧ I 83 i = I 52 i ∧ I 84 i = I 53 i ∧ I 85 i = I 54 i) ∧ ∃ p, p < s + b ∧ I 52 i = nI p
/-- the text -/
def RelT (I : IT) (z : Nat) : Prop := I 1 1 = nI z ∧ I 55 19 = nI z ∧ z ≤ 500 ∧ ∀ j, j < z → I 67 j = I 2 j &&& 255
-- validity
theorem hasPersonX (a : Int32) {I : IT} {s b k : Nat} (h : RelM I s b k) : f_X2_hasPerson a I = some (b2 (0 ≤ a ∧ a < nI (s + b + k))) := by
  obtain ⟨-, ⟨h1, h2, h3⟩, -⟩ := h
  unfold f_X2_hasPerson f_X2_persons
  simp only [h1, h2, h3, nI_add, Option.bind_some, b2]
  grind
theorem hasLotX (a : Int32) {I : IT} {s b k : Nat} (h : RelM I s b k) : f_X2_hasLot a I = some (b2 (0 ≤ a ∧ a < nI s)) := by
  obtain ⟨-, ⟨h1, h2, h3⟩, -⟩ := h
  unfold f_X2_hasLot
  simp only [h1, b2]
  grind
theorem hasBuyerX (a : Int32) {I : IT} {s b k : Nat} (h : RelM I s b k) : f_X2_hasBuyer a I = some (b2 (0 ≤ a ∧ a < nI b)) := by
  obtain ⟨-, ⟨h1, h2, h3⟩, -⟩ := h
  unfold f_X2_hasBuyer
  simp only [h2, b2]
  grind
theorem le_pred {a : Int32} {n : Nat} (hn : n < 2 ^ 31) : a ≤ nI n - 1 ↔ a < nI n := by
  rw [Int32.le_iff_toInt_le, Int32.lt_iff_toInt_lt, nI_toInt hn]
  cases n with
  | zero => simp [nI]; omega
  | succ n => rw [nI_pred, nI_toInt (by omega)]; omega
theorem isPersonM (a : Int32) {I : IT} {s b k : Nat} (h : RelM I s b k) : f_X10_isPerson a I = some (b2 (0 ≤ a ∧ a < nI (s + b + k))) := by
  obtain ⟨⟨e1, e2, e3, -⟩, -, ⟨h1, h2, h3⟩, -⟩ := h
  unfold f_X10_isPerson f_X10_persons
  simp only [h1, h2, h3, nI_add, Option.bind_some]
  rw [in32 (lo := 0) (lo' := 0) (hi' := (nI (s + b + k) - 1).toInt64) (by decide) rfl]
  simp only [le_pred (show s + b + k < 2 ^ 31 by omega), Option.bind_some, b2]
  grind
theorem isLotM (a : Int32) {I : IT} {s b k : Nat} (h : RelM I s b k) : f_X10_isLot a I = some (b2 (0 ≤ a ∧ a < nI s)) := by
  obtain ⟨⟨e1, e2, e3, -⟩, -, ⟨h1, h2, h3⟩, -⟩ := h
  unfold f_X10_isLot
  simp only [h1]
  rw [in32 (lo := 0) (lo' := 0) (hi' := (nI s - 1).toInt64) (by decide) rfl]
  simp only [le_pred (show s < 2 ^ 31 by omega), Option.bind_some, b2]
  grind
theorem isBuyerM (a : Int32) {I : IT} {s b k : Nat} (h : RelM I s b k) : f_X10_isBuyer a I = some (b2 (0 ≤ a ∧ a < nI b)) := by
  obtain ⟨⟨e1, e2, e3, -⟩, -, ⟨h1, h2, h3⟩, -⟩ := h
  unfold f_X10_isBuyer
  simp only [h2]
  rw [in32 (lo := 0) (lo' := 0) (hi' := (nI b - 1).toInt64) (by decide) rfl]
  simp only [le_pred (show b < 2 ^ 31 by omega), Option.bind_some, b2]
  grind
theorem b2_bad {a : Int32} {n : Nat} (h : Bad a n) : b2 (0 ≤ a ∧ a < nI n) = 0 := by
  unfold b2 Bad at *; grind
theorem b2_nI {p n : Nat} (h : p < n) (hn : n < 2 ^ 31) : b2 (0 ≤ nI p ∧ nI p < nI n) = 1 := by
  unfold b2
  rw [if_pos ⟨nI_pos' (by omega), (nI_ltI (by omega) hn).mpr h⟩]
/-- sorts, by number -/
def srt (s b p : Nat) : Int32 := if p < s then 0 else if p < s + b then 1 else 2
theorem sortOfX {p : Nat} (hp : p < 2 ^ 31) {I : IT} {s b k : Nat} (h : RelM I s b k) : f_X2_sortOf (nI p) I = some (srt s b p) := by
  obtain ⟨⟨e1, e2, e3, -⟩, ⟨h1, h2, h3⟩, -⟩ := h
  unfold f_X2_sortOf srt
  simp (disch := omega) only [h1, h2, nI_add, nI_leI]
  grind
theorem sortOfM {p : Nat} (hp : p < 2 ^ 31) {I : IT} {s b k : Nat} (h : RelM I s b k) : f_X10_sortOf (nI p) I = some (srt s b p) := by
  obtain ⟨⟨e1, e2, e3, -⟩, -, ⟨h1, h2, h3⟩, -⟩ := h
  unfold f_X10_sortOf srt
  simp (disch := omega) only [h1, h2, nI_add, nI_leI]
  grind
/-- signs of a price PLAIN -/
def sg (v : Nat) : Nat := v / 100 + v / 10 % 10 + v % 10
/-- a price fits what was seen of a lot -/
def fitP (c : Nat) (x42 x43 x44 x45 : Nat → Int32) (l v : Nat) : Prop := ∀ i, i < c → x42 i = nI l → (x45 i ≠ 0 → v % 2 = 0) ∧ (sg (if x45 i = 0 then v else v / 2) : Int) ≤ (x43 i).toInt + (x44 i).toInt ∧ (x43 i).toInt ≤ (sg (if x45 i = 0 then v else v / 2) : Int) + (x44 i).toInt
/-- what lots of a list can sum up to -/
def reach (F : Nat → Nat → Prop) : List Nat → Nat → Prop
  | [], v => v = 0
  | l :: ls, v => ∃ p u, 1 ≤ p ∧ p ≤ 999 ∧ F l p ∧ reach F ls u ∧ v = p + u
def lotsOf (t r : Nat) : List Nat := (List.range 3).filterMap (fun i => if r / 2 ^ i % 2 = 1 then some (3 * t + i) else none)
/-- the class's rows of bits are right -/
def SumOK (c : Nat) (x42 x43 x44 x45 : Nat → Int32) (s : Nat) (j47 : Nat → Int64) : Prop := ∀ t r v, t < 2 → r < 8 → v < 3008 → ((j47 ((8 * t + r) * 47 + v / 64)).toBitVec.getLsbD (v % 64) = true ↔ ((∀ l ∈ lotsOf t r, l < s) ∧ reach (fitP c x42 x43 x44 x45) (lotsOf t r) v))
def RelS (I : IT) (J : JT) (s c : Nat) : Prop := I 46 2 = 1 ∨ (I 46 2 = 0 ∧ SumOK c (I 42) (I 43) (I 44) (I 45) s (J 47))
def RelA (I : IT) (J : JT) (s b k c w z : Nat) : Prop := RelM I s b k ∧ RelC I (s + b + k) ∧ RelK I (s + b + k) ∧ RelW I s c ∧ RelB I s b w ∧ RelT I z ∧ I 55 20 = I 0 11 ∧ RelS I J s c
def Rel (I : IT) (J : JT) : Prop := ∃ s b k c w z, RelA I J s b k c w z
