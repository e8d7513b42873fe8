/-! the trade's tables, on the class's side -/
def eL (x : Int) : Int64 := Int64.ofInt x
theorem eL_add (a b : Int) : eL a + eL b = eL (a + b) := (Int64.ofInt_add a b).symm
theorem eL_sub (a b : Int) : eL a - eL b = eL (a - b) := (Int64.ofInt_sub a b).symm
theorem eL_toInt {a : Int} (h : -2 ^ 62 ≤ a) (h' : a < 2 ^ 62) : (eL a).toInt = a := Int64.toInt_ofInt_of_le (by omega) (by omega)
theorem eL_le {a b : Int} (h1 : -2 ^ 62 ≤ a) (h2 : a < 2 ^ 62) (h3 : -2 ^ 62 ≤ b) (h4 : b < 2 ^ 62) : eL a ≤ eL b ↔ a ≤ b := by
  rw [Int64.le_iff_toInt_le, eL_toInt h1 h2, eL_toInt h3 h4]
theorem eL_lt {a b : Int} (h1 : -2 ^ 62 ≤ a) (h2 : a < 2 ^ 62) (h3 : -2 ^ 62 ≤ b) (h4 : b < 2 ^ 62) : eL a < eL b ↔ a < b := by
  rw [Int64.lt_iff_toInt_lt, eL_toInt h1 h2, eL_toInt h3 h4]
theorem lN_eL (n : Nat) : lN n = eL n := (Int64.ofInt_eq_ofNat (n := n)).symm
theorem eL_lN {x : Int} (h : 0 ≤ x) : eL x = lN x.toNat := by rw [lN_eL, Int.toNat_of_nonneg h]
theorem pl_nI : ∀ l, l < 6 → g_plI l = nI (tr_pl l) := by decide
theorem pl_bd : ∀ l, l < 6 → 1 ≤ tr_pl l ∧ tr_pl l ≤ 16807 := by decide
def tr_sc (W : Nat → Nat → Nat) (r : Nat → Nat) (c l : Nat) : Int64 := if r l ≤ W c l then eL (tr_fX (W c l - r l) 1 (c * tr_pl l)) else eL (-1152921504606846976)
/-- the numbers that the trade works with are W and r -/
def tr_In (I : IT) (s B : Nat) (W : Nat → Nat → Nat) (r : Nat → Nat) : Prop := (I 3 0 = nI s ∧ I 3 1 = nI B ∧ s ≤ 6 ∧ B ≤ 6) ∧ (∀ l, l < s → I 36 l = nI (r l) ∧ r l ≤ 999) ∧ ∀ c l, c < B → l < s → I 37 (6 * c + l) = nI (W c l) ∧ W c l ≤ 999
def tr_Sc (J : JT) (s B : Nat) (W : Nat → Nat → Nat) (r : Nat → Nat) : Prop := ∀ c l, c < B → l < s → J 38 (6 * c + l) = tr_sc W r c l
theorem sub_neg {a b : Nat} (ha : a ≤ 999) (hb : b ≤ 999) : (0 : Int32) ≤ nI a - nI b ↔ b ≤ a := by
  constructor
  · intro h
    refine Nat.le_of_not_lt (fun q => ?_)
    have := pk_sneg (a := a) (b := b) (by omega) q
    exact absurd h (Int32.not_le.mpr this)
  · intro h
    rw [pk_sub h]; exact nI_pos' (by omega)
theorem put_ok {I : IT} {s B : Nat} {W : Nat → Nat → Nat} {r : Nat → Nat} (h : tr_In I s B W r) (J : JT) {c l : Nat} (hc : c < B) (hl : l < s) : f_X7_putScore (nI c) (nI l) I J = some (upJ J 38 (6 * c + l) (tr_sc W r c l)) := by
  obtain ⟨⟨-, -, h1, h2⟩, h3, h4⟩ := h
  obtain ⟨a1, a2⟩ := h3 l hl
  obtain ⟨b1, b2⟩ := h4 c l hc hl
  have p := pl_bd l (by omega)
  have p2 : c * tr_pl l ≤ 6 * 16807 := Nat.mul_le_mul (by omega) p.2
  unfold f_X7_putScore
  rw [i6, if_pos (inb_nI (show 6 * c + l < 36 by omega) (by omega)), if_pos (inb_nI (show l < 6 by omega) (by omega)), nI_clamp (show 6 * c + l < 2 ^ 31 by omega), nI_clamp (show l < 2 ^ 31 by omega), a1, b1, if_pos (inb_nI (show l < 6 by omega) (by omega)), if_pos (inb_nI (show 6 * c + l < 36 by omega) (by omega)), pl_nI l (by omega)]
  unfold tr_sc
  by_cases q : r l ≤ W c l
  · rw [if_pos ((sub_neg b2 a2).mpr q), if_pos q, pk_sub q, show (8 : Int32) = nI 8 from rfl, pk_mul, nI_1, pk_mul, nI_l (by omega), nI_l (by omega), show (235298 : Int64) = lN 235298 from rfl, lN_mul, lN_eL, lN_eL, eL_sub]
    rw [show ((((W c l - r l) * 8 + 1) * 235298 : Nat) : Int) - ((c * tr_pl l : Nat) : Int) = tr_fX (W c l - r l) 1 (c * tr_pl l) from by unfold tr_fX; omega]
  · rw [if_neg (fun h => q ((sub_neg b2 a2).mp h)), if_neg q, if_pos (inb_nI (show 6 * c + l < 36 by omega) (by omega))]
    rfl
theorem load51_ok {I : IT} {s B : Nat} {W : Nat → Nat → Nat} {r : Nat → Nat} (h : tr_In I s B W r) {c : Nat} (hc : c < B) : ∀ d n l J, l + d = s → d < n → ∃ J', f_X7_load_51 n (nI c) (nI l) I J = some J' ∧ (∀ k, k ≠ 38 → J' k = J k) ∧ (∀ j, (j < 6 * c + l ∨ 6 * c + s ≤ j) → J' 38 j = J 38 j) ∧ ∀ l', l ≤ l' → l' < s → J' 38 (6 * c + l') = tr_sc W r c l' := by
  intro d
  induction d with
  | zero =>
    intro n l J hl hn
    obtain ⟨n, rfl⟩ : ∃ m, n = m + 1 := ⟨n - 1, by omega⟩
    obtain rfl : l = s := by omega
    rw [f_X7_load_51, h.1.1, if_pos (nI_le (Nat.le_refl _) (by have := h.1; omega))]
    exact ⟨J, rfl, fun _ _ => rfl, fun _ _ => rfl, fun l' h1 h2 => by omega⟩
  | succ d ih =>
    intro n l J hl hn
    obtain ⟨n, rfl⟩ : ∃ m, n = m + 1 := ⟨n - 1, by omega⟩
    have h6 := h.1
    obtain ⟨J', e1, e2, e3, e4⟩ := ih n (l + 1) (upJ J 38 (6 * c + l) (tr_sc W r c l)) (by omega) (by omega)
    refine ⟨J', ?_, ?_, ?_, ?_⟩
    · rw [f_X7_load_51, h.1.1, if_neg (by rw [nI_leI (by omega) (by omega)]; omega), put_ok h J hc (by omega), Option.bind_some, nI_1, e1]
    · intro k hk; rw [e2 k hk, upJ_o hk]
    · intro j hj; rw [e3 j (by omega), upJ_j (by omega)]
    · intro l' h1 h2
      by_cases q : l' = l
      · subst q; rw [e3 _ (by omega), upJ_s]
      · exact e4 l' (by omega) h2
theorem load38_ok {I : IT} {s B : Nat} {W : Nat → Nat → Nat} {r : Nat → Nat} (h : tr_In I s B W r) : ∀ d n c J, c + d = B → d < n → ∃ J', f_X7_load_38 n (nI c) I J = some (I, J') ∧ (∀ k, k ≠ 38 → J' k = J k) ∧ (∀ j, j < 6 * c → J' 38 j = J 38 j) ∧ ∀ c' l', c ≤ c' → c' < B → l' < s → J' 38 (6 * c' + l') = tr_sc W r c' l' := by
  intro d
  have h6 := h.1
  induction d with
  | zero =>
    intro n c J hl hn
    obtain ⟨n, rfl⟩ : ∃ m, n = m + 1 := ⟨n - 1, by omega⟩
    obtain rfl : c = B := by omega
    rw [f_X7_load_38, h.1.2.1, if_pos (nI_le (Nat.le_refl _) (by omega))]
    exact ⟨J, rfl, fun _ _ => rfl, fun _ _ => rfl, fun c' l' h1 h2 => by omega⟩
  | succ d ih =>
    intro n c J hl hn
    obtain ⟨n, rfl⟩ : ∃ m, n = m + 1 := ⟨n - 1, by omega⟩
    obtain ⟨J1, a1, a2, a3, a4⟩ := load51_ok h (show c < B by omega) s FU 0 J (by omega) (by unfold FU; omega)
    obtain ⟨J', e1, e2, e3, e4⟩ := ih n (c + 1) J1 (by omega) (by omega)
    refine ⟨J', ?_, ?_, ?_, ?_⟩
    · rw [nI_0] at a1
      rw [f_X7_load_38, h.1.2.1, if_neg (by rw [nI_leI (by omega) (by omega)]; omega), a1, Option.bind_some, nI_1, e1]
    · intro k hk; rw [e2 k hk, a2 k hk]
    · intro j hj; rw [e3 j (by omega), a3 j (by omega)]
    · intro c' l' h1 h2 h3
      by_cases q : c' = c
      · subst q; rw [e3 _ (by omega), a4 l' (by omega) h3]
      · exact e4 c' l' (by omega) h2 h3
theorem load_ok {I : IT} {J : JT} {s B : Nat} {W : Nat → Nat → Nat} {r : Nat → Nat} (h1 : I 3 0 = nI s ∧ I 3 1 = nI B ∧ s ≤ 6 ∧ B ≤ 6) (h2 : ∀ l, l < s → I 5 l = nI (r l) ∧ r l ≤ 999) (h3 : ∀ c l, c < B → l < s → I 6 (6 * c + l) = nI (W c l) ∧ W c l ≤ 999) : ∃ I' J', f_X7_load I J = some (I', J') ∧ tr_In I' s B W r ∧ tr_Sc J' s B W r ∧ (∀ c, c ≠ 36 → c ≠ 37 → I' c = I c) ∧ ∀ k, k ≠ 38 → J' k = J k := by
  have z6 : (6 : Int32).toNatClampNeg = 6 := rfl
  have z36 : (36 : Int32).toNatClampNeg = 36 := rfl
  have z0 : (0 : Int32).toNatClampNeg = 0 := rfl
  obtain ⟨I1, hI1⟩ : ∃ I1 : IT, I1 = upF I 36 (va_cpy (I 5) (I 36) 0 0 6) := ⟨_, rfl⟩
  obtain ⟨I2, hI2⟩ : ∃ I2 : IT, I2 = upF I1 37 (va_cpy (I1 6) (I1 37) 0 0 36) := ⟨_, rfl⟩
  have f1 : ∀ c, c ≠ 36 → I1 c = I c := fun c hc => by rw [hI1]; simp [upF, hc]
  have f2 : ∀ c, c ≠ 37 → I2 c = I1 c := fun c hc => by rw [hI2]; simp [upF, hc]
  have f3 : ∀ c, c ≠ 36 → c ≠ 37 → I2 c = I c := fun c hc hc' => by rw [f2 c hc', f1 c hc]
  have hin : tr_In I2 s B W r := by
    refine ⟨by rw [f3 3 (by decide) (by decide)]; exact h1, ?_, ?_⟩
    · intro l hl
      rw [f2 36 (by decide), hI1]
      simp only [upF, if_true]
      rw [pk_cpy_in (by omega) (by omega), Nat.zero_add, Nat.sub_zero]
      exact h2 l hl
    · intro c l hc hl
      rw [hI2]
      simp only [upF, if_true]
      rw [pk_cpy_in (by omega) (by omega), Nat.zero_add, Nat.sub_zero, f1 6 (by decide)]
      exact h3 c l hc hl
  obtain ⟨J', a1, a2, a3, a4⟩ := load38_ok hin B FU 0 J (by omega) (by unfold FU; omega)
  refine ⟨I2, J', ?_, hin, fun c l hc hl => a4 c l (by omega) hc hl, f3, a2⟩
  unfold f_X7_load
  rw [z0, z6, z36, ← hI1, Option.bind_some, ← hI2, Option.bind_some, ← nI_0, a1]
/-- a set of buyers as a whole number -/
def tr_S (set : Nat) : Nat → Bool := fun b => set.testBit b
theorem all_ok {I : IT} {B : Nat} (h : I 3 1 = nI B) (hB : B ≤ 6) : f_X7_allBuyers I = some (nI (2 ^ B - 1)) := by
  unfold f_X7_allBuyers
  rw [h]
  exact (by decide : ∀ B, B < 7 → some (((1 : Int32) <<< ((nI B) &&& 31)) - 1) = some (nI (2 ^ B - 1))) B (by omega)
theorem bit_ok : ∀ set, set < 64 → ∀ j, j < 6 → (((((nI set) >>> ((nI j) &&& 31)) &&& 1) = (1 : Int32)) ↔ set.testBit j = true) := by decide +kernel
theorem sub_ok : ∀ set, set < 64 → ∀ j, j < 6 → set.testBit j = true → (nI set - ((1 : Int32) <<< ((nI j) &&& 31))) = nI (set - 2 ^ j) ∧ 2 ^ j ≤ set := by decide +kernel
theorem rm_bits : ∀ set, set < 64 → ∀ j, j < 6 → set.testBit j = true → ∀ b, b < 6 → (set - 2 ^ j).testBit b = (set.testBit b && !(decide (b = j))) := by decide +kernel
theorem hi_bit {set b : Nat} (h : set < 64) (hb : 6 ≤ b) : set.testBit b = false := Nat.testBit_lt_two_pow (Nat.lt_of_lt_of_le h (by rw [show 64 = 2 ^ 6 from rfl]; exact Nat.pow_le_pow_right (by omega) hb))
theorem rm_S {set j : Nat} (h : set < 64) (hj : j < 6) (hb : set.testBit j = true) : tr_rm (tr_S set) j = tr_S (set - 2 ^ j) := by
  funext b
  unfold tr_rm tr_S
  by_cases q : b < 6
  · rw [rm_bits set h j hj hb b q, show decide (j = 6) = false from decide_eq_false (by omega)]
    simp
  · rw [hi_bit h (by omega), hi_bit (Nat.lt_of_le_of_lt (Nat.sub_le _ _) h) (by omega)]
    rfl
theorem pow_B {B : Nat} (h : B ≤ 6) : 1 ≤ 2 ^ B ∧ 2 ^ B ≤ 64 := (by decide : ∀ B, B < 7 → 1 ≤ 2 ^ B ∧ 2 ^ B ≤ 64) B (by omega)
theorem tr_V_bd {W : Nat → Nat → Nat} {r : Nat → Nat} {B : Nat} (hB : B ≤ 6) {ls : List Nat} (S : Nat → Bool) (hW : ∀ l ∈ ls, l < 6 ∧ ∀ c, c < B → W c l ≤ 999) (h8 : ls.length ≤ 8) : -1000000000000 ≤ tr_V tr_fX W r B ls S ∧ tr_V tr_fX W r B ls S ≤ 1000000000000 := by
  obtain ⟨⟨g, n, o, k1, k2⟩, -⟩ := tr_V_max tr_fX0 tr_fXa W r hB ls S
  have b1 := tr_R_bd hB _ _ _ _ _ k1 (fun l hl => (hW l hl).2)
  have b2 : tr_sum ls ≤ 16807 * ls.length := by
    clear k1 k2 b1 h8
    induction ls with
    | nil => simp [tr_sum]
    | cons l ls ih =>
      have e4 : tr_sum (l :: ls) = tr_pl l + tr_sum ls := by simp [tr_sum]
      have e5 := ih (fun l' hl' => hW l' (List.mem_cons_of_mem _ hl'))
      have e6 := pl_bd l (hW l (List.mem_cons_self ..)).1
      rw [e4, List.length_cons]
      omega
  rw [← k2]
  unfold tr_fX
  omega
theorem tr_top_bd {W : Nat → Nat → Nat} {r : Nat → Nat} {S : Nat → Bool} {l : Nat} {f : Nat → Int} {j : Nat} (hj : j ≤ 6) (hl : l < 6) (hW : ∀ c, c < j → W c l ≤ 999) (hf : ∀ c, -1000000000000 ≤ f c ∧ f c ≤ 1000000000000) : -2000000000000 ≤ tr_top tr_fX W r S l f j ∧ tr_top tr_fX W r S l f j ≤ 2000000000000 := by
  obtain ⟨⟨c, h1, h2⟩, -⟩ := tr_top_max tr_fX W r S l f j hj
  have p := pl_bd l hl
  have hc : c ≤ 6 := by rcases h1 with h1 | ⟨h1, -⟩ <;> omega
  have p2 : c * tr_pl l ≤ 6 * 16807 := Nat.mul_le_mul hc p.2
  have e1 : tr_gC W r c l ≤ 999 := by
    unfold tr_gC
    split
    · omega
    · rcases h1 with h1 | ⟨h1, -⟩
      · omega
      · have := hW c h1; omega
  have e2 : tr_nC c ≤ 1 := by unfold tr_nC; split <;> omega
  have e3 := hf c
  rw [h2]
  unfold tr_fX
  omega
/-- row k holds, for each set of buyers, what the lots ls bring -/
def tr_T (J : JT) (k B : Nat) (W : Nat → Nat → Nat) (r : Nat → Nat) (ls : List Nat) : Prop := ∀ set, set < 2 ^ B → J k set = eL (tr_V tr_fX W r B ls (tr_S set))
def tr_ls (ls : List Nat) (s m : Nat) : Prop := (∀ l ∈ ls, l < s) ∧ ls.length ≤ m
theorem tr_In.bd {I : IT} {s B : Nat} {W : Nat → Nat → Nat} {r : Nat → Nat} (h : tr_In I s B W r) {ls : List Nat} {m : Nat} (hl : tr_ls ls s m) (hm : m ≤ 8) (S : Nat → Bool) : -1000000000000 ≤ tr_V tr_fX W r B ls S ∧ tr_V tr_fX W r B ls S ≤ 1000000000000 :=
  tr_V_bd h.1.2.2.2 S (fun l q => ⟨by have := hl.1 l q; have := h.1; omega, fun c hc => (h.2.2 c l hc (hl.1 l q)).2⟩) (by have := hl.2; omega)
/-- behind the lots that lead: which ones a row holds -/
def tr_fl (wo al : Nat) : Nat → List Nat
  | 0 => []
  | i + 1 => if i = wo ∨ i = al then tr_fl wo al i else i :: tr_fl wo al i
theorem tr_fl_ls (wo al : Nat) : ∀ i, tr_ls (tr_fl wo al i) i i := by
  intro i
  induction i with
  | zero => exact ⟨fun l h => absurd h (List.not_mem_nil), Nat.le_refl _⟩
  | succ i ih =>
    rw [tr_fl]
    split
    · exact ⟨fun l h => Nat.lt_succ_of_lt (ih.1 l h), Nat.le_succ_of_le ih.2⟩
    · refine ⟨fun l h => ?_, by rw [List.length_cons]; have := ih.2; omega⟩
      rcases List.mem_cons.mp h with h | h
      · omega
      · exact Nat.lt_succ_of_lt (ih.1 l h)

theorem wl18_39 {I : IT} {J : JT} {s B : Nat} {W : Nat → Nat → Nat} {r : Nat → Nat} {V : (Nat → Bool) → Int} (h : tr_In I s B W r) (hS : tr_Sc J s B W r) (hV : ∀ S, -1000000000000 ≤ V S ∧ V S ≤ 1000000000000) {set l : Nat} (hs : set < 2 ^ B) (hl : l < s) (hT : ∀ t, t ≤ set → J 39 t = eL (V (tr_S t))) : ∀ d n j, j + d = B → d < n → f_X7_withLot_39_18 n (nI set) (nI l) (eL (tr_top tr_fX W r (tr_S set) l (fun c => V (tr_rm (tr_S set) c)) j)) (nI j) I J = some (eL (tr_top tr_fX W r (tr_S set) l (fun c => V (tr_rm (tr_S set) c)) B)) := by
  intro d
  have h6 := h.1
  have hp := pow_B h6.2.2.2
  induction d with
  | zero =>
    intro n j hj hn
    obtain ⟨n, rfl⟩ : ∃ m, n = m + 1 := ⟨n - 1, by omega⟩
    obtain rfl : j = B := by omega
    rw [f_X7_withLot_39_18, h.1.2.1, if_pos (nI_le (Nat.le_refl _) (by omega))]
  | succ d ih =>
    intro n j hj hn
    obtain ⟨n, rfl⟩ : ∃ m, n = m + 1 := ⟨n - 1, by omega⟩
    have ih' := ih n (j + 1) (by omega) (by omega)
    have p := pl_bd l (by omega)
    have p2 : j * tr_pl l ≤ 6 * 16807 := Nat.mul_le_mul (by omega) p.2
    have hw := (h.2.2 j l (by omega) hl).2
    have bt := tr_top_bd (W := W) (r := r) (S := tr_S set) (l := l) (f := fun c => V (tr_rm (tr_S set) c)) (j := j) (by omega) (by omega) (fun c hc => (h.2.2 c l (by omega) hl).2) (fun c => hV _)
    rw [f_X7_withLot_39_18, h.1.2.1, if_neg (by rw [nI_leI (by omega) (by omega)]; omega), nI_1]
    by_cases q : set.testBit j = true
    · obtain ⟨q1, q2⟩ := sub_ok set (by omega) j (by omega) q
      have bv := hV (tr_S (set - 2 ^ j))
      have q5 : set - 2 ^ j ≤ set := Nat.sub_le _ _
      rw [if_pos ((bit_ok set (by omega) j (by omega)).mpr q), q1, if_pos (inb_nI (show set - 2 ^ j < 64 by omega) (by omega)), i6, if_pos (inb_nI (show 6 * j + l < 36 by omega) (by omega)), nI_clamp (by omega), nI_clamp (by omega), hT (set - 2 ^ j) (by omega), hS j l (by omega) hl]
      simp only [lgc_le]
      unfold tr_sc
      by_cases q3 : r l ≤ W j l
      · have bf : 0 ≤ tr_fX (W j l - r l) 1 (j * tr_pl l) + 1000000 ∧ tr_fX (W j l - r l) 1 (j * tr_pl l) ≤ 1000000000000 := by unfold tr_fX; omega
        rw [if_pos q3, eL_add]
        have ec := eL_le (a := V (tr_S (set - 2 ^ j)) + tr_fX (W j l - r l) 1 (j * tr_pl l)) (b := tr_top tr_fX W r (tr_S set) l (fun c => V (tr_rm (tr_S set) c)) j) (by omega) (by omega) (by omega) (by omega)
        by_cases q4 : tr_top tr_fX W r (tr_S set) l (fun c => V (tr_rm (tr_S set) c)) j < V (tr_S (set - 2 ^ j)) + tr_fX (W j l - r l) 1 (j * tr_pl l)
        · rw [if_neg (fun w => by have := ec.mp w; omega), ← ih', show tr_top tr_fX W r (tr_S set) l (fun c => V (tr_rm (tr_S set) c)) (j + 1) = V (tr_S (set - 2 ^ j)) + tr_fX (W j l - r l) 1 (j * tr_pl l) from by
            rw [tr_top]; rw [rm_S (by omega) (by omega) q, if_pos ⟨q, q3, q4⟩]]
        · rw [if_pos (ec.mpr (by omega)), ← ih', show tr_top tr_fX W r (tr_S set) l (fun c => V (tr_rm (tr_S set) c)) (j + 1) = tr_top tr_fX W r (tr_S set) l (fun c => V (tr_rm (tr_S set) c)) j from by
            rw [tr_top]; rw [rm_S (by omega) (by omega) q, if_neg (fun w => q4 w.2.2)]]
      · rw [if_neg q3, eL_add, if_pos ((eL_le (by omega) (by omega) (by omega) (by omega)).mpr (by omega)), ← ih', show tr_top tr_fX W r (tr_S set) l (fun c => V (tr_rm (tr_S set) c)) (j + 1) = tr_top tr_fX W r (tr_S set) l (fun c => V (tr_rm (tr_S set) c)) j from by
            rw [tr_top, if_neg (fun w => q3 w.2.1)]]
    · rw [if_neg (fun w => q ((bit_ok set (by omega) j (by omega)).mp w)), ← ih', show tr_top tr_fX W r (tr_S set) l (fun c => V (tr_rm (tr_S set) c)) (j + 1) = tr_top tr_fX W r (tr_S set) l (fun c => V (tr_rm (tr_S set) c)) j from by
            rw [tr_top, if_neg (fun w => q w.1)]]
theorem wl_39 {I : IT} {J : JT} {s B : Nat} {W : Nat → Nat → Nat} {r : Nat → Nat} {ls : List Nat} (h : tr_In I s B W r) (hS : tr_Sc J s B W r) (hls : tr_ls ls s 8) {set l : Nat} (hs : set < 2 ^ B) (hl : l < s) (hT : ∀ t, t ≤ set → J 39 t = eL (tr_V tr_fX W r B ls (tr_S t))) : f_X7_withLot_39 (nI set) (nI l) I J = some (eL (tr_V tr_fX W r B (l :: ls) (tr_S set))) := by
  have h6 := h.1
  have hp := pow_B h6.2.2.2
  have p := pl_bd l (by omega)
  have key := wl18_39 h hS (V := fun S => tr_V tr_fX W r B ls S) (fun S => h.bd hls (by omega) S) hs hl hT B FU 0 (by omega) (by unfold FU; omega)
  unfold f_X7_withLot_39
  rw [if_pos (inb_nI (show set < 64 by omega) (by omega)), if_pos (inb_nI (show l < 6 by omega) (by omega)), nI_clamp (by omega), nI_clamp (by omega), hT set (Nat.le_refl _), pl_nI l (by omega), show (6 : Int32) = nI 6 from rfl, pk_mul, nI_l (by omega), lN_eL, eL_sub]
  rw [nI_0] at key
  rw [show tr_V tr_fX W r B ls (tr_S set) - ((6 * tr_pl l : Nat) : Int) = tr_top tr_fX W r (tr_S set) l (fun c => tr_V tr_fX W r B ls (tr_rm (tr_S set) c)) 0 from by
    rw [tr_top, tr_rm6]; unfold tr_fX; omega]
  exact key
theorem al5_39 {I : IT} {s B : Nat} {W : Nat → Nat → Nat} {r : Nat → Nat} {ls : List Nat} (h : tr_In I s B W r) (hls : tr_ls ls s 8) {l : Nat} (hl : l < s) : ∀ m n J, m ≤ 2 ^ B → m < n → tr_Sc J s B W r → (∀ t, t < m → J 39 t = eL (tr_V tr_fX W r B ls (tr_S t))) → (∀ t, m ≤ t → t < 2 ^ B → J 39 t = eL (tr_V tr_fX W r B (l :: ls) (tr_S t))) → ∃ J', f_X7_addLot_39_5 n (nI l) (nI m - 1) I J = some J' ∧ tr_T J' 39 B W r (l :: ls) ∧ ∀ k, k ≠ 39 → J' k = J k := by
  intro m
  have h6 := h.1
  have hp := pow_B h6.2.2.2
  induction m with
  | zero =>
    intro n J hm hn hS h1 h2
    obtain ⟨n, rfl⟩ : ∃ m, n = m + 1 := ⟨n - 1, by omega⟩
    rw [f_X7_addLot_39_5, if_pos (by decide)]
    exact ⟨J, rfl, fun t ht => h2 t (by omega) ht, fun _ _ => rfl⟩
  | succ m ih =>
    intro n J hm hn hS h1 h2
    obtain ⟨n, rfl⟩ : ∃ m, n = m + 1 := ⟨n - 1, by omega⟩
    obtain ⟨J', e1, e2, e3⟩ := ih n (upJ J 39 m (eL (tr_V tr_fX W r B (l :: ls) (tr_S m)))) (by omega) (by omega) (fun c l' hc hl' => by rw [upJ_o (by decide)]; exact hS c l' hc hl') (fun t ht => by rw [upJ_j (by omega)]; exact h1 t (by omega)) (fun t ht ht' => by
      by_cases q : t = m
      · subst q; exact upJ_s
      · rw [upJ_j q]; exact h2 t (by omega) ht')
    refine ⟨J', ?_, e2, fun k hk => by rw [e3 k hk, upJ_o hk]⟩
    rw [f_X7_addLot_39_5, nI_pred, if_neg (nI_pos (by omega)), wl_39 h hS hls (by omega) hl (fun t ht => h1 t (by omega)), Option.bind_some, if_pos (inb_nI (show m < 64 by omega) (by omega)), nI_clamp (by omega), show nI m + (-1) = nI m - 1 from by rw [Int32.sub_eq_add_neg], e1]
theorem al_39 {I : IT} {J : JT} {s B : Nat} {W : Nat → Nat → Nat} {r : Nat → Nat} {ls : List Nat} (h : tr_In I s B W r) (hS : tr_Sc J s B W r) (hls : tr_ls ls s 8) {l : Nat} (hl : l < s) (hT : tr_T J 39 B W r ls) : ∃ J', f_X7_addLot_39 (nI l) I J = some J' ∧ tr_T J' 39 B W r (l :: ls) ∧ ∀ k, k ≠ 39 → J' k = J k := by
  have h6 := h.1
  have hp := pow_B h6.2.2.2
  obtain ⟨J', e1, e2⟩ := al5_39 h hls hl (2 ^ B) FU J (Nat.le_refl _) (by unfold FU; omega) hS hT (fun t h1 h2 => by omega)
  refine ⟨J', ?_, e2⟩
  unfold f_X7_addLot_39
  rw [all_ok h6.2.1 h6.2.2.2, Option.bind_some]
  obtain ⟨q, hq⟩ : ∃ q, 2 ^ B = q + 1 := ⟨2 ^ B - 1, by omega⟩
  rw [hq, nI_pred] at e1
  rw [hq, Nat.add_sub_cancel]
  exact e1
theorem fz_39 : ∀ d n i J, i + d = 64 → d < n → ∃ J', f_J7_fill_d0a16_39_6 n 0 (nI i) 64 J = some J' ∧ (∀ k, k ≠ 39 → J' k = J k) ∧ (∀ j, j < i → J' 39 j = J 39 j) ∧ ∀ j, i ≤ j → j < 64 → J' 39 j = 0 := by
  intro d
  induction d with
  | zero =>
    intro n i J hi hn
    obtain ⟨n, rfl⟩ : ∃ m, n = m + 1 := ⟨n - 1, by omega⟩
    rw [f_J7_fill_d0a16_39_6, if_pos (by rw [show (64 : Int32) = nI 64 from rfl, nI_leI (by omega) (by omega)]; omega)]
    exact ⟨J, rfl, fun _ _ => rfl, fun _ _ => rfl, fun j h1 h2 => by omega⟩
  | succ d ih =>
    intro n i J hi hn
    obtain ⟨n, rfl⟩ : ∃ m, n = m + 1 := ⟨n - 1, by omega⟩
    obtain ⟨J', e1, e2, e3, e4⟩ := ih n (i + 1) (upJ J 39 i 0) (by omega) (by omega)
    refine ⟨J', ?_, fun k hk => by rw [e2 k hk, upJ_o hk], fun j hj => by rw [e3 j (by omega), upJ_j (by omega)], fun j h1 h2 => ?_⟩
    · rw [f_J7_fill_d0a16_39_6, if_neg (by rw [show (64 : Int32) = nI 64 from rfl, nI_leI (by omega) (by omega)]; omega), if_pos (inb_nI (show i < 64 by omega) (by omega)), nI_clamp (by omega), nI_1, e1]
    · by_cases q : j = i
      · subst q; rw [e3 j (by omega), upJ_s]
      · exact e4 j (by omega) h2
theorem fl8_39 {I : IT} {s B : Nat} {W : Nat → Nat → Nat} {r : Nat → Nat} (h : tr_In I s B W r) {wo al : Nat} {v2 v3 : Int32} (h2 : ∀ i, i < 6 → (nI i = v2 ↔ i = wo)) (h3 : ∀ i, i < 6 → (nI i = v3 ↔ i = al)) (v4 : Int32) : ∀ d n i J, i + d = s → d < n → tr_Sc J s B W r → tr_T J 39 B W r (tr_fl wo al i) → ∃ n' J', f_X7_fill_39_8 n v2 v3 v4 (nI i) I J = f_X7_fill_39_8 (n' + 1) v2 v3 v4 (nI s) I J' ∧ tr_T J' 39 B W r (tr_fl wo al s) ∧ ∀ k, k ≠ 39 → J' k = J k := by
  intro d
  have h6 := h.1
  induction d with
  | zero =>
    intro n i J hi hn hS hT
    obtain ⟨n, rfl⟩ : ∃ m, n = m + 1 := ⟨n - 1, by omega⟩
    obtain rfl : i = s := by omega
    exact ⟨n, J, rfl, hT, fun _ _ => rfl⟩
  | succ d ih =>
    intro n i J hi hn hS hT
    obtain ⟨n, rfl⟩ : ∃ m, n = m + 1 := ⟨n - 1, by omega⟩
    have ils := tr_fl_ls wo al i
    by_cases q : i = wo ∨ i = al
    · obtain ⟨n', J', e1, e2, e3⟩ := ih n (i + 1) J (by omega) (by omega) hS (by rw [tr_fl, if_pos q]; exact hT)
      refine ⟨n', J', ?_, e2, e3⟩
      rw [f_X7_fill_39_8, h.1.1, if_neg (by rw [nI_leI (by omega) (by omega)]; omega), nI_1, e1]
      by_cases q1 : i = wo
      · rw [if_pos ((h2 i (by omega)).mpr q1)]
      · rw [if_neg (fun w => q1 ((h2 i (by omega)).mp w)), if_pos ((h3 i (by omega)).mpr (by omega))]
    · obtain ⟨J1, a1, a2, a3⟩ := al_39 h hS (ls := tr_fl wo al i) ⟨fun l hl => by have := ils.1 l hl; omega, by have := ils.2; omega⟩ (show i < s by omega) hT
      obtain ⟨n', J', e1, e2, e3⟩ := ih n (i + 1) J1 (by omega) (by omega) (fun c l' hc hl' => by rw [a3 38 (by decide)]; exact hS c l' hc hl') (by rw [tr_fl, if_neg q]; exact a2)
      refine ⟨n', J', ?_, e2, fun k hk => by rw [e3 k hk, a3 k hk]⟩
      rw [f_X7_fill_39_8, h.1.1, if_neg (by rw [nI_leI (by omega) (by omega)]; omega), nI_1, if_neg (fun w => q (Or.inl ((h2 i (by omega)).mp w))), if_neg (fun w => q (Or.inr ((h3 i (by omega)).mp w))), a1, Option.bind_some, e1]
theorem fill_39 {I : IT} {J : JT} {s B : Nat} {W : Nat → Nat → Nat} {r : Nat → Nat} (h : tr_In I s B W r) (hS : tr_Sc J s B W r) {wo al : Nat} {v2 v3 : Int32} (h2 : ∀ i, i < 6 → (nI i = v2 ↔ i = wo)) (h3 : ∀ i, i < 6 → (nI i = v3 ↔ i = al)) : ∃ J', f_X7_fill_39 v2 v3 (-1) I J = some J' ∧ tr_T J' 39 B W r (tr_fl wo al s) ∧ ∀ k, k ≠ 39 → J' k = J k := by
  have h6 := h.1
  have hp := pow_B h6.2.2.2
  obtain ⟨J1, a1, a2, -, a4⟩ := fz_39 64 FU 0 J (by omega) (by unfold FU; omega)
  obtain ⟨n', J', e1, e2, e3⟩ := fl8_39 h h2 h3 (-1) s FU 0 J1 (by omega) (by unfold FU; omega) (fun c l' hc hl' => by rw [a2 38 (by decide)]; exact hS c l' hc hl') (fun t ht => by rw [a4 t (by omega) (by omega)]; rfl)
  refine ⟨J', ?_, e2, fun k hk => by rw [e3 k hk, a2 k hk]⟩
  unfold f_X7_fill_39 f_J7_fill_d0a16_39
  rw [nI_0] at a1 e1
  rw [a1, Option.bind_some, e1, f_X7_fill_39_8, h.1.1, if_pos (nI_le (Nat.le_refl _) (by omega)), if_pos rfl]
theorem fil2_39 {I : IT} {J : JT} {s B : Nat} {W : Nat → Nat → Nat} {r : Nat → Nat} (h : tr_In I s B W r) (hS : tr_Sc J s B W r) {wo al : Nat} {v2 v3 : Int32} (h2 : ∀ i, i < 6 → (nI i = v2 ↔ i = wo)) (h3 : ∀ i, i < 6 → (nI i = v3 ↔ i = al)) {t : Nat} (ht : t < s) : ∃ J', f_X7_fill_39 v2 v3 (nI t) I J = some J' ∧ tr_T J' 39 B W r (t :: tr_fl wo al s) ∧ ∀ k, k ≠ 39 → J' k = J k := by
  have h6 := h.1
  have hp := pow_B h6.2.2.2
  have ils := tr_fl_ls wo al s
  obtain ⟨J1, a1, a2, -, a4⟩ := fz_39 64 FU 0 J (by omega) (by unfold FU; omega)
  obtain ⟨n', J', e1, e2, e3⟩ := fl8_39 h h2 h3 (nI t) s FU 0 J1 (by omega) (by unfold FU; omega) (fun c l' hc hl' => by rw [a2 38 (by decide)]; exact hS c l' hc hl') (fun t ht => by rw [a4 t (by omega) (by omega)]; rfl)
  obtain ⟨J2, b1, b2, b3⟩ := al_39 h (J := J') (fun c l' hc hl' => by rw [e3 38 (by decide), a2 38 (by decide)]; exact hS c l' hc hl') (ls := tr_fl wo al s) ⟨ils.1, by have := ils.2; omega⟩ ht e2
  refine ⟨J2, ?_, b2, fun k hk => by rw [b3 k hk, e3 k hk, a2 k hk]⟩
  unfold f_X7_fill_39 f_J7_fill_d0a16_39
  rw [nI_0] at a1 e1
  rw [a1, Option.bind_some, e1, f_X7_fill_39_8, h.1.1, if_pos (nI_le (Nat.le_refl _) (by omega)), if_neg (by intro q; exact nI_pos (show t < 2 ^ 31 by omega) (by rw [q]; decide)), b1]
  rfl

theorem wl18_40 {I : IT} {J : JT} {s B : Nat} {W : Nat → Nat → Nat} {r : Nat → Nat} {V : (Nat → Bool) → Int} (h : tr_In I s B W r) (hS : tr_Sc J s B W r) (hV : ∀ S, -1000000000000 ≤ V S ∧ V S ≤ 1000000000000) {set l : Nat} (hs : set < 2 ^ B) (hl : l < s) (hT : ∀ t, t ≤ set → J 40 t = eL (V (tr_S t))) : ∀ d n j, j + d = B → d < n → f_X7_withLot_40_18 n (nI set) (nI l) (eL (tr_top tr_fX W r (tr_S set) l (fun c => V (tr_rm (tr_S set) c)) j)) (nI j) I J = some (eL (tr_top tr_fX W r (tr_S set) l (fun c => V (tr_rm (tr_S set) c)) B)) := by
  intro d
  have h6 := h.1
  have hp := pow_B h6.2.2.2
  induction d with
  | zero =>
    intro n j hj hn
    obtain ⟨n, rfl⟩ : ∃ m, n = m + 1 := ⟨n - 1, by omega⟩
    obtain rfl : j = B := by omega
    rw [f_X7_withLot_40_18, h.1.2.1, if_pos (nI_le (Nat.le_refl _) (by omega))]
  | succ d ih =>
    intro n j hj hn
    obtain ⟨n, rfl⟩ : ∃ m, n = m + 1 := ⟨n - 1, by omega⟩
    have ih' := ih n (j + 1) (by omega) (by omega)
    have p := pl_bd l (by omega)
    have p2 : j * tr_pl l ≤ 6 * 16807 := Nat.mul_le_mul (by omega) p.2
    have hw := (h.2.2 j l (by omega) hl).2
    have bt := tr_top_bd (W := W) (r := r) (S := tr_S set) (l := l) (f := fun c => V (tr_rm (tr_S set) c)) (j := j) (by omega) (by omega) (fun c hc => (h.2.2 c l (by omega) hl).2) (fun c => hV _)
    rw [f_X7_withLot_40_18, h.1.2.1, if_neg (by rw [nI_leI (by omega) (by omega)]; omega), nI_1]
    by_cases q : set.testBit j = true
    · obtain ⟨q1, q2⟩ := sub_ok set (by omega) j (by omega) q
      have bv := hV (tr_S (set - 2 ^ j))
      have q5 : set - 2 ^ j ≤ set := Nat.sub_le _ _
      rw [if_pos ((bit_ok set (by omega) j (by omega)).mpr q), q1, if_pos (inb_nI (show set - 2 ^ j < 64 by omega) (by omega)), i6, if_pos (inb_nI (show 6 * j + l < 36 by omega) (by omega)), nI_clamp (by omega), nI_clamp (by omega), hT (set - 2 ^ j) (by omega), hS j l (by omega) hl]
      simp only [lgc_le]
      unfold tr_sc
      by_cases q3 : r l ≤ W j l
      · have bf : 0 ≤ tr_fX (W j l - r l) 1 (j * tr_pl l) + 1000000 ∧ tr_fX (W j l - r l) 1 (j * tr_pl l) ≤ 1000000000000 := by unfold tr_fX; omega
        rw [if_pos q3, eL_add]
        have ec := eL_le (a := V (tr_S (set - 2 ^ j)) + tr_fX (W j l - r l) 1 (j * tr_pl l)) (b := tr_top tr_fX W r (tr_S set) l (fun c => V (tr_rm (tr_S set) c)) j) (by omega) (by omega) (by omega) (by omega)
        by_cases q4 : tr_top tr_fX W r (tr_S set) l (fun c => V (tr_rm (tr_S set) c)) j < V (tr_S (set - 2 ^ j)) + tr_fX (W j l - r l) 1 (j * tr_pl l)
        · rw [if_neg (fun w => by have := ec.mp w; omega), ← ih', show tr_top tr_fX W r (tr_S set) l (fun c => V (tr_rm (tr_S set) c)) (j + 1) = V (tr_S (set - 2 ^ j)) + tr_fX (W j l - r l) 1 (j * tr_pl l) from by
            rw [tr_top]; rw [rm_S (by omega) (by omega) q, if_pos ⟨q, q3, q4⟩]]
        · rw [if_pos (ec.mpr (by omega)), ← ih', show tr_top tr_fX W r (tr_S set) l (fun c => V (tr_rm (tr_S set) c)) (j + 1) = tr_top tr_fX W r (tr_S set) l (fun c => V (tr_rm (tr_S set) c)) j from by
            rw [tr_top]; rw [rm_S (by omega) (by omega) q, if_neg (fun w => q4 w.2.2)]]
      · rw [if_neg q3, eL_add, if_pos ((eL_le (by omega) (by omega) (by omega) (by omega)).mpr (by omega)), ← ih', show tr_top tr_fX W r (tr_S set) l (fun c => V (tr_rm (tr_S set) c)) (j + 1) = tr_top tr_fX W r (tr_S set) l (fun c => V (tr_rm (tr_S set) c)) j from by
            rw [tr_top, if_neg (fun w => q3 w.2.1)]]
    · rw [if_neg (fun w => q ((bit_ok set (by omega) j (by omega)).mp w)), ← ih', show tr_top tr_fX W r (tr_S set) l (fun c => V (tr_rm (tr_S set) c)) (j + 1) = tr_top tr_fX W r (tr_S set) l (fun c => V (tr_rm (tr_S set) c)) j from by
            rw [tr_top, if_neg (fun w => q w.1)]]
theorem wl_40 {I : IT} {J : JT} {s B : Nat} {W : Nat → Nat → Nat} {r : Nat → Nat} {ls : List Nat} (h : tr_In I s B W r) (hS : tr_Sc J s B W r) (hls : tr_ls ls s 8) {set l : Nat} (hs : set < 2 ^ B) (hl : l < s) (hT : ∀ t, t ≤ set → J 40 t = eL (tr_V tr_fX W r B ls (tr_S t))) : f_X7_withLot_40 (nI set) (nI l) I J = some (eL (tr_V tr_fX W r B (l :: ls) (tr_S set))) := by
  have h6 := h.1
  have hp := pow_B h6.2.2.2
  have p := pl_bd l (by omega)
  have key := wl18_40 h hS (V := fun S => tr_V tr_fX W r B ls S) (fun S => h.bd hls (by omega) S) hs hl hT B FU 0 (by omega) (by unfold FU; omega)
  unfold f_X7_withLot_40
  rw [if_pos (inb_nI (show set < 64 by omega) (by omega)), if_pos (inb_nI (show l < 6 by omega) (by omega)), nI_clamp (by omega), nI_clamp (by omega), hT set (Nat.le_refl _), pl_nI l (by omega), show (6 : Int32) = nI 6 from rfl, pk_mul, nI_l (by omega), lN_eL, eL_sub]
  rw [nI_0] at key
  rw [show tr_V tr_fX W r B ls (tr_S set) - ((6 * tr_pl l : Nat) : Int) = tr_top tr_fX W r (tr_S set) l (fun c => tr_V tr_fX W r B ls (tr_rm (tr_S set) c)) 0 from by
    rw [tr_top, tr_rm6]; unfold tr_fX; omega]
  exact key
theorem al5_40 {I : IT} {s B : Nat} {W : Nat → Nat → Nat} {r : Nat → Nat} {ls : List Nat} (h : tr_In I s B W r) (hls : tr_ls ls s 8) {l : Nat} (hl : l < s) : ∀ m n J, m ≤ 2 ^ B → m < n → tr_Sc J s B W r → (∀ t, t < m → J 40 t = eL (tr_V tr_fX W r B ls (tr_S t))) → (∀ t, m ≤ t → t < 2 ^ B → J 40 t = eL (tr_V tr_fX W r B (l :: ls) (tr_S t))) → ∃ J', f_X7_addLot_40_5 n (nI l) (nI m - 1) I J = some J' ∧ tr_T J' 40 B W r (l :: ls) ∧ ∀ k, k ≠ 40 → J' k = J k := by
  intro m
  have h6 := h.1
  have hp := pow_B h6.2.2.2
  induction m with
  | zero =>
    intro n J hm hn hS h1 h2
    obtain ⟨n, rfl⟩ : ∃ m, n = m + 1 := ⟨n - 1, by omega⟩
    rw [f_X7_addLot_40_5, if_pos (by decide)]
    exact ⟨J, rfl, fun t ht => h2 t (by omega) ht, fun _ _ => rfl⟩
  | succ m ih =>
    intro n J hm hn hS h1 h2
    obtain ⟨n, rfl⟩ : ∃ m, n = m + 1 := ⟨n - 1, by omega⟩
    obtain ⟨J', e1, e2, e3⟩ := ih n (upJ J 40 m (eL (tr_V tr_fX W r B (l :: ls) (tr_S m)))) (by omega) (by omega) (fun c l' hc hl' => by rw [upJ_o (by decide)]; exact hS c l' hc hl') (fun t ht => by rw [upJ_j (by omega)]; exact h1 t (by omega)) (fun t ht ht' => by
      by_cases q : t = m
      · subst q; exact upJ_s
      · rw [upJ_j q]; exact h2 t (by omega) ht')
    refine ⟨J', ?_, e2, fun k hk => by rw [e3 k hk, upJ_o hk]⟩
    rw [f_X7_addLot_40_5, nI_pred, if_neg (nI_pos (by omega)), wl_40 h hS hls (by omega) hl (fun t ht => h1 t (by omega)), Option.bind_some, if_pos (inb_nI (show m < 64 by omega) (by omega)), nI_clamp (by omega), show nI m + (-1) = nI m - 1 from by rw [Int32.sub_eq_add_neg], e1]
theorem al_40 {I : IT} {J : JT} {s B : Nat} {W : Nat → Nat → Nat} {r : Nat → Nat} {ls : List Nat} (h : tr_In I s B W r) (hS : tr_Sc J s B W r) (hls : tr_ls ls s 8) {l : Nat} (hl : l < s) (hT : tr_T J 40 B W r ls) : ∃ J', f_X7_addLot_40 (nI l) I J = some J' ∧ tr_T J' 40 B W r (l :: ls) ∧ ∀ k, k ≠ 40 → J' k = J k := by
  have h6 := h.1
  have hp := pow_B h6.2.2.2
  obtain ⟨J', e1, e2⟩ := al5_40 h hls hl (2 ^ B) FU J (Nat.le_refl _) (by unfold FU; omega) hS hT (fun t h1 h2 => by omega)
  refine ⟨J', ?_, e2⟩
  unfold f_X7_addLot_40
  rw [all_ok h6.2.1 h6.2.2.2, Option.bind_some]
  obtain ⟨q, hq⟩ : ∃ q, 2 ^ B = q + 1 := ⟨2 ^ B - 1, by omega⟩
  rw [hq, nI_pred] at e1
  rw [hq, Nat.add_sub_cancel]
  exact e1
theorem fz_40 : ∀ d n i J, i + d = 64 → d < n → ∃ J', f_J7_fill_d0a16_40_6 n 0 (nI i) 64 J = some J' ∧ (∀ k, k ≠ 40 → J' k = J k) ∧ (∀ j, j < i → J' 40 j = J 40 j) ∧ ∀ j, i ≤ j → j < 64 → J' 40 j = 0 := by
  intro d
  induction d with
  | zero =>
    intro n i J hi hn
    obtain ⟨n, rfl⟩ : ∃ m, n = m + 1 := ⟨n - 1, by omega⟩
    rw [f_J7_fill_d0a16_40_6, if_pos (by rw [show (64 : Int32) = nI 64 from rfl, nI_leI (by omega) (by omega)]; omega)]
    exact ⟨J, rfl, fun _ _ => rfl, fun _ _ => rfl, fun j h1 h2 => by omega⟩
  | succ d ih =>
    intro n i J hi hn
    obtain ⟨n, rfl⟩ : ∃ m, n = m + 1 := ⟨n - 1, by omega⟩
    obtain ⟨J', e1, e2, e3, e4⟩ := ih n (i + 1) (upJ J 40 i 0) (by omega) (by omega)
    refine ⟨J', ?_, fun k hk => by rw [e2 k hk, upJ_o hk], fun j hj => by rw [e3 j (by omega), upJ_j (by omega)], fun j h1 h2 => ?_⟩
    · rw [f_J7_fill_d0a16_40_6, if_neg (by rw [show (64 : Int32) = nI 64 from rfl, nI_leI (by omega) (by omega)]; omega), if_pos (inb_nI (show i < 64 by omega) (by omega)), nI_clamp (by omega), nI_1, e1]
    · by_cases q : j = i
      · subst q; rw [e3 j (by omega), upJ_s]
      · exact e4 j (by omega) h2
theorem fl8_40 {I : IT} {s B : Nat} {W : Nat → Nat → Nat} {r : Nat → Nat} (h : tr_In I s B W r) {wo al : Nat} {v2 v3 : Int32} (h2 : ∀ i, i < 6 → (nI i = v2 ↔ i = wo)) (h3 : ∀ i, i < 6 → (nI i = v3 ↔ i = al)) (v4 : Int32) : ∀ d n i J, i + d = s → d < n → tr_Sc J s B W r → tr_T J 40 B W r (tr_fl wo al i) → ∃ n' J', f_X7_fill_40_8 n v2 v3 v4 (nI i) I J = f_X7_fill_40_8 (n' + 1) v2 v3 v4 (nI s) I J' ∧ tr_T J' 40 B W r (tr_fl wo al s) ∧ ∀ k, k ≠ 40 → J' k = J k := by
  intro d
  have h6 := h.1
  induction d with
  | zero =>
    intro n i J hi hn hS hT
    obtain ⟨n, rfl⟩ : ∃ m, n = m + 1 := ⟨n - 1, by omega⟩
    obtain rfl : i = s := by omega
    exact ⟨n, J, rfl, hT, fun _ _ => rfl⟩
  | succ d ih =>
    intro n i J hi hn hS hT
    obtain ⟨n, rfl⟩ : ∃ m, n = m + 1 := ⟨n - 1, by omega⟩
    have ils := tr_fl_ls wo al i
    by_cases q : i = wo ∨ i = al
    · obtain ⟨n', J', e1, e2, e3⟩ := ih n (i + 1) J (by omega) (by omega) hS (by rw [tr_fl, if_pos q]; exact hT)
      refine ⟨n', J', ?_, e2, e3⟩
      rw [f_X7_fill_40_8, h.1.1, if_neg (by rw [nI_leI (by omega) (by omega)]; omega), nI_1, e1]
      by_cases q1 : i = wo
      · rw [if_pos ((h2 i (by omega)).mpr q1)]
      · rw [if_neg (fun w => q1 ((h2 i (by omega)).mp w)), if_pos ((h3 i (by omega)).mpr (by omega))]
    · obtain ⟨J1, a1, a2, a3⟩ := al_40 h hS (ls := tr_fl wo al i) ⟨fun l hl => by have := ils.1 l hl; omega, by have := ils.2; omega⟩ (show i < s by omega) hT
      obtain ⟨n', J', e1, e2, e3⟩ := ih n (i + 1) J1 (by omega) (by omega) (fun c l' hc hl' => by rw [a3 38 (by decide)]; exact hS c l' hc hl') (by rw [tr_fl, if_neg q]; exact a2)
      refine ⟨n', J', ?_, e2, fun k hk => by rw [e3 k hk, a3 k hk]⟩
      rw [f_X7_fill_40_8, h.1.1, if_neg (by rw [nI_leI (by omega) (by omega)]; omega), nI_1, if_neg (fun w => q (Or.inl ((h2 i (by omega)).mp w))), if_neg (fun w => q (Or.inr ((h3 i (by omega)).mp w))), a1, Option.bind_some, e1]
theorem fill_40 {I : IT} {J : JT} {s B : Nat} {W : Nat → Nat → Nat} {r : Nat → Nat} (h : tr_In I s B W r) (hS : tr_Sc J s B W r) {wo al : Nat} {v2 v3 : Int32} (h2 : ∀ i, i < 6 → (nI i = v2 ↔ i = wo)) (h3 : ∀ i, i < 6 → (nI i = v3 ↔ i = al)) : ∃ J', f_X7_fill_40 v2 v3 (-1) I J = some J' ∧ tr_T J' 40 B W r (tr_fl wo al s) ∧ ∀ k, k ≠ 40 → J' k = J k := by
  have h6 := h.1
  have hp := pow_B h6.2.2.2
  obtain ⟨J1, a1, a2, -, a4⟩ := fz_40 64 FU 0 J (by omega) (by unfold FU; omega)
  obtain ⟨n', J', e1, e2, e3⟩ := fl8_40 h h2 h3 (-1) s FU 0 J1 (by omega) (by unfold FU; omega) (fun c l' hc hl' => by rw [a2 38 (by decide)]; exact hS c l' hc hl') (fun t ht => by rw [a4 t (by omega) (by omega)]; rfl)
  refine ⟨J', ?_, e2, fun k hk => by rw [e3 k hk, a2 k hk]⟩
  unfold f_X7_fill_40 f_J7_fill_d0a16_40
  rw [nI_0] at a1 e1
  rw [a1, Option.bind_some, e1, f_X7_fill_40_8, h.1.1, if_pos (nI_le (Nat.le_refl _) (by omega)), if_pos rfl]
theorem fil2_40 {I : IT} {J : JT} {s B : Nat} {W : Nat → Nat → Nat} {r : Nat → Nat} (h : tr_In I s B W r) (hS : tr_Sc J s B W r) {wo al : Nat} {v2 v3 : Int32} (h2 : ∀ i, i < 6 → (nI i = v2 ↔ i = wo)) (h3 : ∀ i, i < 6 → (nI i = v3 ↔ i = al)) {t : Nat} (ht : t < s) : ∃ J', f_X7_fill_40 v2 v3 (nI t) I J = some J' ∧ tr_T J' 40 B W r (t :: tr_fl wo al s) ∧ ∀ k, k ≠ 40 → J' k = J k := by
  have h6 := h.1
  have hp := pow_B h6.2.2.2
  have ils := tr_fl_ls wo al s
  obtain ⟨J1, a1, a2, -, a4⟩ := fz_40 64 FU 0 J (by omega) (by unfold FU; omega)
  obtain ⟨n', J', e1, e2, e3⟩ := fl8_40 h h2 h3 (nI t) s FU 0 J1 (by omega) (by unfold FU; omega) (fun c l' hc hl' => by rw [a2 38 (by decide)]; exact hS c l' hc hl') (fun t ht => by rw [a4 t (by omega) (by omega)]; rfl)
  obtain ⟨J2, b1, b2, b3⟩ := al_40 h (J := J') (fun c l' hc hl' => by rw [e3 38 (by decide), a2 38 (by decide)]; exact hS c l' hc hl') (ls := tr_fl wo al s) ⟨ils.1, by have := ils.2; omega⟩ ht e2
  refine ⟨J2, ?_, b2, fun k hk => by rw [b3 k hk, e3 k hk, a2 k hk]⟩
  unfold f_X7_fill_40 f_J7_fill_d0a16_40
  rw [nI_0] at a1 e1
  rw [a1, Option.bind_some, e1, f_X7_fill_40_8, h.1.1, if_pos (nI_le (Nat.le_refl _) (by omega)), if_neg (by intro q; exact nI_pos (show t < 2 ^ 31 by omega) (by rw [q]; decide)), b1]
  rfl
