/-! WHO BUYS WHAT, as mathematics. A choice c is a buyer 0 .. 5, or 6: nobody. W: worths, r: reserves, B: how many buyers, S: who may buy. -/
def tr_pl (l : Nat) : Nat := 7 ^ (5 - l)
def tr_gC (W : Nat → Nat → Nat) (r : Nat → Nat) (c l : Nat) : Nat := if c = 6 then 0 else W c l - r l
def tr_nC (c : Nat) : Nat := if c = 6 then 0 else 1
def tr_rm (S : Nat → Bool) (c : Nat) : Nat → Bool := fun b => S b && !(decide (b = c) && !decide (c = 6))
def tr_ok (W : Nat → Nat → Nat) (r : Nat → Nat) (B : Nat) (S : Nat → Bool) (c l : Nat) : Prop := c = 6 ∨ (c < B ∧ S c = true ∧ r l ≤ W c l)
def tr_R (W : Nat → Nat → Nat) (r : Nat → Nat) (B : Nat) : List Nat → (Nat → Bool) → Nat → Nat → Nat → Prop
  | [], _, g, n, o => g = 0 ∧ n = 0 ∧ o = 0
  | l :: ls, S, g, n, o => ∃ c g' n' o', tr_ok W r B S c l ∧ tr_R W r B ls (tr_rm S c) g' n' o' ∧ g = tr_gC W r c l + g' ∧ n = tr_nC c + n' ∧ o = c * tr_pl l + o'
theorem tr_rm6 (S : Nat → Bool) : tr_rm S 6 = S := by
  funext b; simp [tr_rm]
theorem tr_rm_comm (S : Nat → Bool) (c d : Nat) : tr_rm (tr_rm S c) d = tr_rm (tr_rm S d) c := by
  funext b; simp only [tr_rm]; exact Bool.and_right_comm _ _ _
theorem tr_rm_t {S : Nat → Bool} {c b : Nat} : tr_rm S c b = true ↔ S b = true ∧ ¬ (b = c ∧ c ≠ 6) := by
  simp [tr_rm]
  intro _
  by_cases h : b = c <;> simp [h]
theorem tr_swap {W : Nat → Nat → Nat} {r : Nat → Nat} {B : Nat} (hB : B ≤ 6) {a b : Nat} {ls : List Nat} {S : Nat → Bool} {g n o : Nat} (h : tr_R W r B (a :: b :: ls) S g n o) : tr_R W r B (b :: a :: ls) S g n o := by
  obtain ⟨c, g1, n1, o1, h1, ⟨d, g2, n2, o2, h2, h3, rfl, rfl, rfl⟩, rfl, rfl, rfl⟩ := h
  refine ⟨d, tr_gC W r c a + g2, tr_nC c + n2, c * tr_pl a + o2, ?_, ⟨c, g2, n2, o2, ?_, ?_, rfl, rfl, rfl⟩, ?_, ?_, ?_⟩
  · rcases h2 with h2 | ⟨h2, h4, h5⟩
    · exact Or.inl h2
    · exact Or.inr ⟨h2, (tr_rm_t.mp h4).1, h5⟩
  · rcases h1 with h1 | ⟨h1, h6, h7⟩
    · exact Or.inl h1
    · refine Or.inr ⟨h1, tr_rm_t.mpr ⟨h6, ?_⟩, h7⟩
      rintro ⟨rfl, h8⟩
      rcases h2 with h2 | ⟨h2, h4, h5⟩
      · exact h8 h2
      · exact (tr_rm_t.mp h4).2 ⟨rfl, h8⟩
  · rw [tr_rm_comm]; exact h3
  · omega
  · omega
  · omega
theorem tr_perm {W : Nat → Nat → Nat} {r : Nat → Nat} {B : Nat} (hB : B ≤ 6) {ls ls' : List Nat} (h : ls.Perm ls') : ∀ {S : Nat → Bool} {g n o : Nat}, tr_R W r B ls S g n o → tr_R W r B ls' S g n o := by
  induction h with
  | nil => exact fun h => h
  | cons x _ ih =>
    intro S g n o h
    obtain ⟨c, g1, n1, o1, h1, h2, e1, e2, e3⟩ := h
    exact ⟨c, g1, n1, o1, h1, ih h2, e1, e2, e3⟩
  | swap x y l => exact fun h => tr_swap hB h
  | trans _ _ ih1 ih2 => exact fun h => ih2 (ih1 h)
/-- the top of the choices nobody and 0 .. j less 1; f c: what the other lots bring behind choice c -/
def tr_top (φ : Nat → Nat → Nat → Int) (W : Nat → Nat → Nat) (r : Nat → Nat) (S : Nat → Bool) (l : Nat) (f : Nat → Int) : Nat → Int
  | 0 => f 6 + φ 0 0 (6 * tr_pl l)
  | j + 1 => if S j = true ∧ r l ≤ W j l ∧ tr_top φ W r S l f j < f j + φ (W j l - r l) 1 (j * tr_pl l) then f j + φ (W j l - r l) 1 (j * tr_pl l) else tr_top φ W r S l f j
def tr_V (φ : Nat → Nat → Nat → Int) (W : Nat → Nat → Nat) (r : Nat → Nat) (B : Nat) : List Nat → (Nat → Bool) → Int
  | [], _ => 0
  | l :: ls, S => tr_top φ W r S l (fun c => tr_V φ W r B ls (tr_rm S c)) B
theorem tr_top_max (φ : Nat → Nat → Nat → Int) (W : Nat → Nat → Nat) (r : Nat → Nat) (S : Nat → Bool) (l : Nat) (f : Nat → Int) : ∀ j, j ≤ 6 → (∃ c, tr_ok W r j S c l ∧ tr_top φ W r S l f j = f c + φ (tr_gC W r c l) (tr_nC c) (c * tr_pl l)) ∧ ∀ c, tr_ok W r j S c l → f c + φ (tr_gC W r c l) (tr_nC c) (c * tr_pl l) ≤ tr_top φ W r S l f j := by
  intro j
  induction j with
  | zero =>
    intro _
    refine ⟨⟨6, Or.inl rfl, by simp [tr_top, tr_gC, tr_nC]⟩, ?_⟩
    rintro c (rfl | ⟨h, -⟩)
    · simp [tr_top, tr_gC, tr_nC]
    · omega
  | succ j ih =>
    intro hj
    obtain ⟨⟨c0, h1, h2⟩, h3⟩ := ih (by omega)
    have hj6 : j ≠ 6 := by omega
    have e1 : φ (tr_gC W r j l) (tr_nC j) (j * tr_pl l) = φ (W j l - r l) 1 (j * tr_pl l) := by simp [tr_gC, tr_nC, hj6]
    have up : ∀ c, tr_ok W r j S c l → tr_ok W r (j + 1) S c l := by
      rintro c (h | ⟨h, h'⟩)
      · exact Or.inl h
      · exact Or.inr ⟨by omega, h'⟩
    have dn : ∀ c, tr_ok W r (j + 1) S c l → tr_ok W r j S c l ∨ (c = j ∧ S j = true ∧ r l ≤ W j l) := by
      rintro c (h | ⟨h, h', h''⟩)
      · exact Or.inl (Or.inl h)
      · by_cases q : c = j
        · subst q; exact Or.inr ⟨rfl, h', h''⟩
        · exact Or.inl (Or.inr ⟨by omega, h', h''⟩)
    rw [tr_top]
    by_cases q : S j = true ∧ r l ≤ W j l ∧ tr_top φ W r S l f j < f j + φ (W j l - r l) 1 (j * tr_pl l)
    · rw [if_pos q]
      refine ⟨⟨j, Or.inr ⟨by omega, q.1, q.2.1⟩, by rw [e1]⟩, ?_⟩
      intro c hc
      rcases dn c hc with h | ⟨rfl, -, -⟩
      · exact Int.le_of_lt (Int.lt_of_le_of_lt (h3 c h) q.2.2)
      · rw [e1]; exact Int.le_refl _
    · rw [if_neg q]
      refine ⟨⟨c0, up c0 h1, h2⟩, ?_⟩
      intro c hc
      rcases dn c hc with h | ⟨rfl, h, h'⟩
      · exact h3 c h
      · rw [e1]
        exact Int.not_lt.mp (fun h'' => q ⟨h, h', h''⟩)
theorem tr_V_max {φ : Nat → Nat → Nat → Int} (h0 : φ 0 0 0 = 0) (ha : ∀ a b c a' b' c', φ (a + a') (b + b') (c + c') = φ a b c + φ a' b' c') (W : Nat → Nat → Nat) (r : Nat → Nat) {B : Nat} (hB : B ≤ 6) : ∀ ls S, (∃ g n o, tr_R W r B ls S g n o ∧ φ g n o = tr_V φ W r B ls S) ∧ ∀ g n o, tr_R W r B ls S g n o → φ g n o ≤ tr_V φ W r B ls S := by
  intro ls
  induction ls with
  | nil =>
    intro S
    refine ⟨⟨0, 0, 0, ⟨rfl, rfl, rfl⟩, h0⟩, ?_⟩
    rintro g n o ⟨rfl, rfl, rfl⟩
    exact Int.le_of_eq h0
  | cons l ls ih =>
    intro S
    obtain ⟨⟨c, h1, h2⟩, h3⟩ := tr_top_max φ W r S l (fun c => tr_V φ W r B ls (tr_rm S c)) B hB
    refine ⟨?_, ?_⟩
    · obtain ⟨⟨g, n, o, k1, k2⟩, -⟩ := ih (tr_rm S c)
      refine ⟨tr_gC W r c l + g, tr_nC c + n, c * tr_pl l + o, ⟨c, g, n, o, h1, k1, rfl, rfl, rfl⟩, ?_⟩
      rw [ha, k2, tr_V, h2, Int.add_comm]
    · rintro g n o ⟨d, g', n', o', k1, k2, rfl, rfl, rfl⟩
      have := (ih (tr_rm S d)).2 g' n' o' k2
      have h4 := h3 d k1
      rw [ha, tr_V]
      omega
theorem tr_V_perm {φ : Nat → Nat → Nat → Int} (h0 : φ 0 0 0 = 0) (ha : ∀ a b c a' b' c', φ (a + a') (b + b') (c + c') = φ a b c + φ a' b' c') (W : Nat → Nat → Nat) (r : Nat → Nat) {B : Nat} (hB : B ≤ 6) {ls ls' : List Nat} (h : ls.Perm ls') (S : Nat → Bool) : tr_V φ W r B ls S = tr_V φ W r B ls' S := by
  obtain ⟨⟨g, n, o, k1, k2⟩, k3⟩ := tr_V_max h0 ha W r hB ls S
  obtain ⟨⟨g', n', o', k1', k2'⟩, k3'⟩ := tr_V_max h0 ha W r hB ls' S
  have a1 := k3' _ _ _ (tr_perm hB h k1)
  have a2 := k3 _ _ _ (tr_perm hB h.symm k1')
  omega
theorem tr_top_congr {φ : Nat → Nat → Nat → Int} {W W' : Nat → Nat → Nat} {r r' : Nat → Nat} {S : Nat → Bool} {l : Nat} {f f' : Nat → Int} : ∀ j, (∀ c, f c = f' c) → r l = r' l → (∀ c, c < j → W c l = W' c l) → tr_top φ W r S l f j = tr_top φ W' r' S l f' j := by
  intro j
  induction j with
  | zero => intro h1 h2 h3; rw [tr_top, tr_top, h1]
  | succ j ih =>
    intro h1 h2 h3
    rw [tr_top, tr_top, ih h1 h2 (fun c hc => h3 c (by omega)), h1, h2, h3 j (by omega)]
theorem tr_V_congr {φ : Nat → Nat → Nat → Int} {W W' : Nat → Nat → Nat} {r r' : Nat → Nat} {B : Nat} : ∀ ls S, (∀ l ∈ ls, r l = r' l ∧ ∀ c, c < B → W c l = W' c l) → tr_V φ W r B ls S = tr_V φ W' r' B ls S := by
  intro ls
  induction ls with
  | nil => intro S _; rfl
  | cons l ls ih =>
    intro S h
    rw [tr_V, tr_V]
    have q := h l (List.mem_cons_self ..)
    exact tr_top_congr B (fun c => ih _ (fun l' hl' => h l' (List.mem_cons_of_mem _ hl'))) q.1 q.2
def tr_sum (ls : List Nat) : Nat := (ls.map tr_pl).sum
theorem tr_R_bd {W : Nat → Nat → Nat} {r : Nat → Nat} {B : Nat} (hB : B ≤ 6) : ∀ ls S g n o, tr_R W r B ls S g n o → (∀ l ∈ ls, ∀ c, c < B → W c l ≤ 999) → g ≤ 999 * ls.length ∧ n ≤ ls.length ∧ o ≤ 6 * tr_sum ls := by
  intro ls
  induction ls with
  | nil => rintro S g n o ⟨rfl, rfl, rfl⟩ _; simp
  | cons l ls ih =>
    rintro S g n o ⟨c, g', n', o', h1, h2, rfl, rfl, rfl⟩ h
    obtain ⟨k1, k2, k3⟩ := ih _ _ _ _ h2 (fun l' hl' => h l' (List.mem_cons_of_mem _ hl'))
    have hc : c ≤ 6 := by rcases h1 with h1 | ⟨h1, -⟩ <;> omega
    have e1 : tr_gC W r c l ≤ 999 := by
      unfold tr_gC
      split
      · omega
      · rcases h1 with h1 | ⟨h1, -⟩
        · omega
        · have := h l (List.mem_cons_self ..) c h1; omega
    have e2 : tr_nC c ≤ 1 := by unfold tr_nC; split <;> omega
    have e3 : c * tr_pl l ≤ 6 * tr_pl l := Nat.mul_le_mul_right _ hc
    have e4 : tr_sum (l :: ls) = tr_pl l + tr_sum ls := by simp [tr_sum]
    rw [List.length_cons, e4]
    omega
def tr_fX (g n o : Nat) : Int := (8 * (g : Int) + n) * 235298 - o
def tr_fM (g n _o : Nat) : Int := 16 * (g : Int) + n
theorem tr_fX0 : tr_fX 0 0 0 = 0 := rfl
theorem tr_fM0 : tr_fM 0 0 0 = 0 := rfl
theorem tr_fXa (a b c a' b' c' : Nat) : tr_fX (a + a') (b + b') (c + c') = tr_fX a b c + tr_fX a' b' c' := by unfold tr_fX; omega
theorem tr_fMa (a b c a' b' c' : Nat) : tr_fM (a + a') (b + b') (c + c') = tr_fM a b c + tr_fM a' b' c' := by unfold tr_fM; omega
/-- the best of both sides: one gain, one number of lots; the order of the one is the least -/
theorem tr_both {W : Nat → Nat → Nat} {r : Nat → Nat} {B : Nat} (hB : B ≤ 6) {ls : List Nat} (S : Nat → Bool) (hW : ∀ l ∈ ls, ∀ c, c < B → W c l ≤ 999) (h7 : ls.length ≤ 7) (hs : 6 * tr_sum ls < 235298) : ∃ g n o, tr_R W r B ls S g n o ∧ tr_V tr_fM W r B ls S = 16 * (g : Int) + n ∧ tr_V tr_fX W r B ls S = (8 * (g : Int) + n) * 235298 - o ∧ g ≤ 6993 ∧ n ≤ 7 ∧ o < 235298 ∧ ∀ g' n' o', tr_R W r B ls S g' n' o' → 16 * (g' : Int) + n' = tr_V tr_fM W r B ls S → o ≤ o' := by
  obtain ⟨⟨g, n, o, k1, k2⟩, k3⟩ := tr_V_max tr_fX0 tr_fXa W r hB ls S
  obtain ⟨⟨g', n', o', k1', k2'⟩, k3'⟩ := tr_V_max tr_fM0 tr_fMa W r hB ls S
  have b1 := tr_R_bd hB _ _ _ _ _ k1 hW
  have b2 := tr_R_bd hB _ _ _ _ _ k1' hW
  have a1 := k3' _ _ _ k1
  have a2 := k3 _ _ _ k1'
  rw [← k2] at a2
  rw [← k2'] at a1
  simp only [tr_fX, tr_fM] at a1 a2 k2 k2'
  have e1 : g = g' := by omega
  have e2 : n = n' := by omega
  refine ⟨g, n, o, k1, by omega, by omega, by omega, by omega, by omega, ?_⟩
  intro g2 n2 o2 q1 q2
  have b3 := tr_R_bd hB _ _ _ _ _ q1 hW
  have a3 := k3 _ _ _ q1
  simp only [tr_fX] at a3
  have e3 : g2 = g := by omega
  have e4 : n2 = n := by omega
  subst e3; subst e4
  omega
/-- best by both measures: gain and number first, then the least order -/
def tr_O (W : Nat → Nat → Nat) (r : Nat → Nat) (B : Nat) (ls : List Nat) (S : Nat → Bool) (g n o : Nat) : Prop := tr_R W r B ls S g n o ∧ 16 * (g : Int) + n = tr_V tr_fM W r B ls S ∧ ∀ g' n' o', tr_R W r B ls S g' n' o' → 16 * (g' : Int) + n' = tr_V tr_fM W r B ls S → o ≤ o'
/-- buyer d is as good as any for lot l -/
def tr_eq (W : Nat → Nat → Nat) (r : Nat → Nat) (B : Nat) (ls : List Nat) (S : Nat → Bool) (l d : Nat) : Prop := S d = true ∧ r l ≤ W d l ∧ 16 * ((W d l - r l : Nat) : Int) + 1 + tr_V tr_fM W r B ls (tr_rm S d) = tr_V tr_fM W r B (l :: ls) S
theorem tr_step {W : Nat → Nat → Nat} {r : Nat → Nat} {B : Nat} (hB : B ≤ 6) {l : Nat} {ls : List Nat} {S : Nat → Bool} {g n o : Nat} (hp : ∀ S g n o, tr_R W r B ls S g n o → o < tr_pl l) (h : tr_O W r B (l :: ls) S g n o) : ∃ c g' n' o', o = c * tr_pl l + o' ∧ o' < tr_pl l ∧ tr_ok W r B S c l ∧ tr_O W r B ls (tr_rm S c) g' n' o' ∧ (c ≠ 6 → tr_eq W r B ls S l c) ∧ ∀ d, d < B → d < c → ¬ tr_eq W r B ls S l d := by
  obtain ⟨⟨c, g', n', o', h1, h2, rfl, rfl, rfl⟩, h3, h4⟩ := h
  have hp' := hp _ _ _ _ h2
  obtain ⟨⟨g2, n2, o2, k1, k2⟩, k3⟩ := tr_V_max tr_fM0 tr_fMa W r hB ls (tr_rm S c)
  have a1 := k3 _ _ _ h2
  have a2 := (tr_V_max tr_fM0 tr_fMa W r hB (l :: ls) S).2 _ _ _ ⟨c, g2, n2, o2, h1, k1, rfl, rfl, rfl⟩
  simp only [tr_fM] at a1 a2 k2
  have e1 : 16 * (g' : Int) + n' = tr_V tr_fM W r B ls (tr_rm S c) := by omega
  refine ⟨c, g', n', o', rfl, hp', h1, ⟨h2, e1, ?_⟩, ?_, ?_⟩
  · intro g3 n3 o3 q1 q2
    have := h4 _ _ _ ⟨c, g3, n3, o3, h1, q1, rfl, rfl, rfl⟩ (by omega)
    omega
  · intro hc
    rcases h1 with h1 | ⟨h1, h5, h6⟩
    · exact absurd h1 hc
    · refine ⟨h5, h6, ?_⟩
      rw [← h3, ← e1]
      simp only [tr_gC, tr_nC, if_neg hc]
      omega
  · rintro d hd1 hd2 ⟨q1, q2, q3⟩
    obtain ⟨⟨g3, n3, o3, m1, m2⟩, -⟩ := tr_V_max tr_fM0 tr_fMa W r hB ls (tr_rm S d)
    have hd6 : d ≠ 6 := by omega
    have hp3 := hp _ _ _ _ m1
    simp only [tr_fM] at m2
    have := h4 _ _ _ ⟨d, g3, n3, o3, Or.inr ⟨hd1, q1, q2⟩, m1, rfl, rfl, rfl⟩ (by
      rw [← q3, ← m2]
      simp only [tr_gC, tr_nC, if_neg hd6]
      omega)
    have e2 : (d + 1) * tr_pl l ≤ c * tr_pl l := Nat.mul_le_mul_right _ hd2
    rw [Nat.add_mul, Nat.one_mul] at e2
    omega
