/-! the trade as it is told: the class's side -/
def xr (I : IT) (l : Nat) : Nat := (I 5 l).toNatClampNeg
def xW (I : IT) (c l : Nat) : Nat := (I 6 (6 * c + l)).toNatClampNeg
/-- the true numbers stand in the class's market -/
def tr_Tr (I : IT) (s B : Nat) (W : Nat → Nat → Nat) (r : Nat → Nat) : Prop := (I 3 0 = nI s ∧ I 3 1 = nI B ∧ s ≤ 6 ∧ B ≤ 6) ∧ (∀ l, l < s → I 5 l = nI (r l) ∧ r l ≤ 999) ∧ ∀ c l, c < B → l < s → I 6 (6 * c + l) = nI (W c l) ∧ W c l ≤ 999
theorem relM_Tr {I : IT} {s b k : Nat} (h : RelM I s b k) : tr_Tr I s b (xW I) (xr I) ∧ tr_Im I s b (xW I) (xr I) := by
  obtain ⟨e, ⟨m1, m2, -⟩, ⟨m4, m5, -⟩, -, -, -, h5, -, -, h6⟩ := h
  have a : ∀ l, l < s → I 5 l = nI (xr I l) ∧ xr I l ≤ 999 := by
    intro l hl
    obtain ⟨-, v, hv, ev⟩ := h5 l hl
    unfold xr
    rw [ev, nI_clamp (by omega)]
    exact ⟨rfl, hv⟩
  have b' : ∀ c l, c < b → l < s → I 6 (6 * c + l) = nI (xW I c l) ∧ xW I c l ≤ 999 := by
    intro c l hc hl
    obtain ⟨-, v, hv, ev⟩ := h6 c l hc hl
    unfold xW
    rw [ev, nI_clamp (by omega)]
    exact ⟨rfl, hv⟩
  exact ⟨⟨⟨m1, m2, e.1, e.2.1⟩, a, b'⟩, ⟨⟨m4, m5, e.1, e.2.1⟩, fun l hl => by rw [(h5 l hl).1]; exact a l hl, fun c l hc hl => by rw [(h6 c l hc hl).1]; exact b' c l hc hl⟩⟩
theorem relA_fr {I I' : IT} {J J' : JT} {s b k c w z : Nat} (h : RelA I J s b k c w z) (hc : ∀ c, c ≠ 35 → c ≠ 36 → c ≠ 37 → c ≠ 55 → c ≠ 73 → c ≠ 74 → c ≠ 75 → I' c = I c) (h5 : ∀ j, j ≠ 37 → I' 55 j = I 55 j) (hj : J' 47 = J 47) : RelA I' J' s b k c w z := by
  obtain ⟨hM, hC, hK, hW, hB, hT, hF, hS⟩ := h
  have f : ∀ c, c ≠ 35 ∧ c ≠ 36 ∧ c ≠ 37 ∧ c ≠ 55 ∧ c ≠ 73 ∧ c ≠ 74 ∧ c ≠ 75 → I' c = I c := fun c q => hc c q.1 q.2.1 q.2.2.1 q.2.2.2.1 q.2.2.2.2.1 q.2.2.2.2.2.1 q.2.2.2.2.2.2
  refine ⟨frameM hM (by simp +decide [f]) (by simp +decide [h5]), frameC hC (by simp +decide [f]) (by simp +decide [h5]), frameK hK (by simp +decide [f]), frameW hW (by simp +decide [f]) (h5 _ (by decide)), frameB hB (by simp +decide [f]) (h5 _ (by decide)), frameT hT (by simp +decide [f]) (h5 _ (by decide)), ?_, frameS hS (by simp +decide [f]) hj⟩
  rw [h5 20 (by decide), f 0 (by decide)]; exact hF
/-! lists of lots, in another order -/
theorem pm_all : ∀ s, s < 7 → (tr_fl 9 9 s).Perm (List.range s) := by decide +kernel
theorem pm_one : ∀ s, s < 7 → ∀ a, a < s → (a :: tr_fl a 9 s).Perm (List.range s) := by decide +kernel
theorem pm_two : ∀ s, s < 7 → ∀ a, a < s → ∀ l, l < s → (a :: l :: tr_fl a 9 s).Perm (tr_gl 9 s ++ [l]) := by decide +kernel
theorem pm_wo : ∀ s, s < 7 → ∀ a, a < s → ∀ l, l < s → l ≠ a → (a :: tr_fl a l s).Perm (tr_gl l s) := by decide +kernel
theorem pm_wa : ∀ s, s < 7 → ∀ a, a < s → (tr_fl a 9 s).Perm (tr_gl a s) := by decide +kernel
theorem pm_s2 : ∀ s, s < 7 → ∀ l, l < s → 6 * tr_sum (tr_gl 9 s ++ [l]) < 235298 ∧ (tr_gl 9 s ++ [l]).length ≤ 7 ∧ ∀ x ∈ tr_gl 9 s ++ [l], x < s := by decide +kernel
theorem pm_s1 : ∀ s, s < 7 → ∀ l, l < 10 → 6 * tr_sum (tr_gl l s) < 235298 ∧ (tr_gl l s).length ≤ 7 ∧ ∀ x ∈ tr_gl l s, x < s := by decide +kernel
theorem fl_nm : ∀ s, s < 7 → ∀ a, a < s → ∀ l, l < 10 → a ∉ tr_fl a l s := by decide +kernel
theorem gain_gn {W : Nat → Nat → Nat} {r : Nat → Nat} {B s : Nat} (hB : B ≤ 6) (hW : tr_bd W B s) {ls ls' : List Nat} (hp : ls.Perm ls') (h7 : 6 * tr_sum ls' < 235298 ∧ ls'.length ≤ 7 ∧ ∀ x ∈ ls', x < s) : f_X7_gainIn (eL (tr_V tr_fX W r B ls (tr_S (2 ^ B - 1)))) = some (nI (tr_gn W r B ls')) := by
  rw [tr_V_perm tr_fX0 tr_fXa W r hB hp, tr_full hB]
  exact (gain_ok hB (tr_U 0) (fun l hl c hc => hW c l hc (h7.2.2 l hl)) h7.2.1 h7.1).1
theorem gn_bd {W : Nat → Nat → Nat} {r : Nat → Nat} {B s : Nat} (hB : B ≤ 6) (hW : tr_bd W B s) {ls : List Nat} (h7 : ls.length ≤ 7 ∧ ∀ x ∈ ls, x < s) : tr_gn W r B ls ≤ 20000 := by
  have := tr_VM_bd hB (W := W) (r := r) (ls := ls) (tr_U 0) (fun l hl c hc => hW c l hc (h7.2 l hl)) (by omega)
  unfold tr_gn
  omega
theorem score_ok {I : IT} {J : JT} {s B : Nat} {W : Nat → Nat → Nat} {r : Nat → Nat} (h : tr_Tr I s B W r) : ∃ I1 J1, f_X7_scoreOfAll I J = some (eL (tr_X W r B s), I1, J1) ∧ (∀ c, c ≠ 36 → c ≠ 37 → I1 c = I c) ∧ ∀ k, k ≠ 38 → k ≠ 39 → J1 k = J k := by
  obtain ⟨h1, h2, h3⟩ := h
  have hp := pow_B h1.2.2.2
  obtain ⟨I1, J1, a1, a2, a3, a4, a5⟩ := load_ok (J := J) h1 h2 h3
  obtain ⟨J2, b1, b2, b3⟩ := fill_39 a2 a3 (v2 := -1) (v3 := -1) (wo := 9) (al := 9) (by decide) (by decide)
  refine ⟨I1, J2, ?_, a4, fun k k1 k2 => by rw [b3 k k2, a5 k k1]⟩
  unfold f_X7_scoreOfAll
  rw [a1, Option.bind_some, b1, Option.bind_some, all_ok a2.1.2.1 a2.1.2.2.2, Option.bind_some, if_pos (inb_nI (show 2 ^ B - 1 < 64 by omega) (by omega)), nI_clamp (by omega), b2 _ (by omega), tr_full h1.2.2.2, tr_V_perm tr_fX0 tr_fXa W r h1.2.2.2 (pm_all s (by omega))]
  rfl
theorem op_best {I : IT} {J : JT} {s b k c w z : Nat} (h : RelA I J s b k c w z) (a1 : Int32) : ∃ r I1 J1 I2, f_X9_best a1 I J = some (r, I1, J1) ∧ f_X10_best a1 I1 = some (r, I2) ∧ RelA I2 J1 s b k c w z := by
  have hM := h.1
  have e := hM.1
  obtain ⟨h1, h2⟩ := relM_Tr hM
  have m4 := hM.2.2.1.1
  unfold f_X9_best
  rw [hM.2.1.1, show (1 : Int32) + nI s = nI (1 + s) from by rw [show (1 : Int32) = nI 1 from rfl, nI_add], isW, Option.bind_some]
  by_cases q : 0 ≤ a1 ∧ a1 ≤ nI (1 + s)
  · rw [show b2 (0 ≤ a1 ∧ a1 ≤ nI (1 + s)) = 1 from if_pos q, if_neg (by decide)]
    obtain ⟨v, hv, rfl⟩ := rng_nI (1 + s) (by omega) q
    obtain ⟨I1, J1, b1, b2', b3⟩ := score_ok (J := J) h1
    have fr : ∀ c, c ≠ 36 → c ≠ 37 → I1 c = I c := b2'
    have h2' : tr_Im I1 s b (xW I) (xr I) := h2.fr (by rw [fr _ (by decide) (by decide)]) (by rw [fr _ (by decide) (by decide)]) (fr _ (by decide) (by decide)) (fr _ (by decide) (by decide))
    obtain ⟨I2, c1, c2, c3, c4⟩ := fb_ok h2'
    have bb := h2'.bd (ls := List.range s) (m := 7) ⟨fun l hl => List.mem_range.mp hl, by rw [List.length_range]; omega⟩ (by omega) (tr_U 0)
    have rel : RelA I2 J1 s b k c w z := relA_fr h (fun c q1 q2 q3 q4 q5 q6 q7 => by rw [c4.1 c q4 q5 q6 q7, fr c q2 q3]) (fun j hj => by rw [c4.2 j hj, fr _ (by decide) (by decide)]) (b3 47 (by decide) (by decide))
    have g := gain_ok e.2.1 (W := xW I) (r := xr I) (ls := List.range s) (tr_U 0) (fun l hl c hc => h2.wb c l hc (List.mem_range.mp hl)) (by rw [List.length_range]; omega) ((by decide : ∀ s, s < 7 → 6 * tr_sum (List.range s) < 235298) s (by omega))
    have ref : f_X10_best (nI v) I1 = (if nI v = 0 then some ((I2 74 (0 : Int32).toNatClampNeg) / 16, I2) else if nI v = (1 : Int32) then some ((I2 74 (0 : Int32).toNatClampNeg) - (I2 74 (0 : Int32).toNatClampNeg) / 16 * 16, I2) else if inbB (nI v - 2) 6 = true then some (I2 75 (nI v - 2).toNatClampNeg, I2) else none) := by
      unfold f_X10_best
      rw [in32 (lo := 0) (lo' := 0) (hi := nI (1 + s)) (by decide) (by rw [fr _ (by decide) (by decide), m4, show (1 : Int32) = nI 1 from rfl, nI_add]), Option.bind_some, show b2 (0 ≤ nI v ∧ nI v ≤ nI (1 + s)) = 1 from if_pos q, if_neg (by decide), c1, Option.bind_some]
    rw [b1, Option.bind_some]
    dsimp only
    rw [show (0 : Int32).toNatClampNeg = 0 from rfl, c3, eI_nI bb.1] at ref
    by_cases v0 : v = 0
    · subst v0
      rw [if_pos nI_0] at ref ⊢
      refine ⟨_, I1, J1, I2, by rw [show eL (tr_X (xW I) (xr I) b s) = eL (tr_V tr_fX (xW I) (xr I) b (List.range s) (tr_U 0)) from rfl, g.1]; rfl, ?_, rel⟩
      rw [ref, show (16 : Int32) = nI 16 from rfl, pk_div (by omega) (by omega) (by omega)]
    · have n0 : ¬ nI v = 0 := nI_ne0 (by omega) (by omega)
      rw [if_neg n0] at ref ⊢
      by_cases v1 : v = 1
      · subst v1
        rw [if_pos (show nI 1 = 1 from rfl)] at ref ⊢
        refine ⟨_, I1, J1, I2, by rw [show eL (tr_X (xW I) (xr I) b s) = eL (tr_V tr_fX (xW I) (xr I) b (List.range s) (tr_U 0)) from rfl, g.2]; rfl, ?_, rel⟩
        rw [ref, show (16 : Int32) = nI 16 from rfl, pk_rem (by omega) (by omega) (by omega)]
      · have n1 : ¬ nI v = 1 := by rw [show (1 : Int32) = nI 1 from rfl, nI_eq (by omega) (by omega)]; exact v1
        rw [if_neg n1, show (2 : Int32) = nI 2 from rfl, pk_sub (by omega)] at ref ⊢
        rw [if_pos (inb_nI (show v - 2 < 6 by omega) (by omega)), nI_clamp (by omega), c2 (v - 2) (by omega)] at ref
        exact ⟨_, I1, J1, I2, by rw [buyer_ok e.2.1 e.1 h2.wb (show v - 2 < s by omega)]; rfl, ref, rel⟩
  · rw [show b2 (0 ≤ a1 ∧ a1 ≤ nI (1 + s)) = 0 from if_neg q, if_pos rfl]
    refine ⟨-1000002, I, J, I, rfl, ?_, h⟩
    unfold f_X10_best
    rw [in32 (lo := 0) (lo' := 0) (hi := nI (1 + s)) (by decide) (by rw [m4, show (1 : Int32) = nI 1 from rfl, nI_add]), Option.bind_some, show b2 (0 ≤ a1 ∧ a1 ≤ nI (1 + s)) = 0 from if_neg q, if_pos rfl]
