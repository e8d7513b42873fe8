theorem sgX {v : Nat} (hv : v ≤ 999) : f_X9_signsOf (nI v) = some (nI (sg v)) ∧ f_X10_plain (nI v) = some (nI (sg v)) := by
  unfold f_X9_signsOf f_X10_plain sg
  have e1 : nI v / 100 = nI (v / 100) := by rw [show (100 : Int32) = nI 100 from rfl, pk_div (by omega) (by omega) (by omega)]
  have e2 : nI v / 10 = nI (v / 10) := by rw [show (10 : Int32) = nI 10 from rfl, pk_div (by omega) (by omega) (by omega)]
  have e3 : nI (v / 10) - nI (v / 10) / 10 * 10 = nI (v / 10 % 10) := by rw [show (10 : Int32) = nI 10 from rfl, pk_rem (by omega) (by omega) (by omega)]
  have e4 : nI v - nI v / 10 * 10 = nI (v % 10) := by rw [show (10 : Int32) = nI 10 from rfl, pk_rem (by omega) (by omega) (by omega)]
  rw [e4, e2, e3, e1, nI_add, nI_add]
  exact ⟨rfl, rfl⟩
def nearP (x43 x44 x45 : Nat → Int32) (v i : Nat) : Prop := (x45 i ≠ 0 → v % 2 = 0) ∧ (sg (if x45 i = 0 then v else v / 2) : Int) ≤ (x43 i).toInt + (x44 i).toInt ∧ (x43 i).toInt ≤ (sg (if x45 i = 0 then v else v / 2) : Int) + (x44 i).toInt
theorem fitP_near (c : Nat) (x42 x43 x44 x45 : Nat → Int32) (l v : Nat) : fitP c x42 x43 x44 x45 l v ↔ ∀ i, i < c → x42 i = nI l → nearP x43 x44 x45 v i := Iff.rfl
noncomputable def cI (P : Prop) : Int32 := @ite _ P (Classical.propDecidable P) 1 0
theorem cI_t {P : Prop} (h : P) : cI P = 1 := if_pos h
theorem cI_f {P : Prop} (h : ¬ P) : cI P = 0 := if_neg h
theorem cI_c {P Q : Prop} (h : P ↔ Q) : cI P = cI Q := by rw [propext h]
theorem cI_i (P : Prop) [Decidable P] : (if P then (1 : Int32) else 0) = cI P := by
  by_cases h : P
  · rw [if_pos h, cI_t h]
  · rw [if_neg h, cI_f h]
theorem cI_0 (P : Prop) : cI P = 0 ↔ ¬ P := by
  by_cases h : P
  · rw [cI_t h]; simp [h]
  · rw [cI_f h]; simp [h]
theorem absX {g a e : Nat} (hg : g < 100) (ha : a < 100) (he : e < 100) : (nI e < (if 0 ≤ nI g - nI a then nI g - nI a else 0 - (nI g - nI a))) ↔ ¬ ((g : Int) ≤ (a : Int) + e ∧ (a : Int) ≤ (g : Int) + e) := by
  by_cases c : a ≤ g
  · rw [pk_sub c, if_pos (nI_pos' (by omega)), nI_ltI (by omega) (by omega)]; omega
  · rw [if_neg (by have := pk_sneg (a := g) (b := a) (by omega) (by omega); grind), show 0 - (nI g - nI a) = nI a - nI g by grind, pk_sub (by omega), nI_ltI (by omega) (by omega)]; omega
theorem inX {g a e : Nat} (hg : g < 100) (ha : a < 100) (he : e < 100) : (nI a - nI e ≤ nI g ∧ nI g ≤ nI a + nI e) ↔ ((g : Int) ≤ (a : Int) + e ∧ (a : Int) ≤ (g : Int) + e) := by
  rw [Int32.le_iff_toInt_le, pk_sub_toInt (by omega) (by omega), nI_toInt (by omega), nI_add, nI_leI (by omega) (by omega)]; omega
theorem sg_lt {v : Nat} (hv : v ≤ 999) : sg v < 100 := by unfold sg; omega
theorem even32 {v : Nat} (hv : v ≤ 999) : nI v - nI v / 2 * 2 = nI (v % 2) := by rw [show (2 : Int32) = nI 2 from rfl, pk_rem (by omega) (by omega) (by omega)]
theorem half32 {v : Nat} (hv : v ≤ 999) : nI v / 2 = nI (v / 2) := by rw [show (2 : Int32) = nI 2 from rfl, pk_div (by omega) (by omega) (by omega)]
theorem near_ok {I : IT} {s c : Nat} (hW : RelW I s c) {i v : Nat} (hi : i < c) (hv : v ≤ 999) : f_X8_isNear (nI i) (nI v) I = some (cI (nearP (I 43) (I 44) (I 45) v i)) := by
  obtain ⟨-, -, hc, hh⟩ := hW
  obtain ⟨-, ⟨-, a, ha, ea⟩, ⟨-, e, he, ee⟩, -, h45⟩ := hh i hi
  have g1 := sg_lt hv
  have g2 := sg_lt (show v / 2 ≤ 999 by omega)
  unfold f_X8_isNear nearP
  simp only [inb_nI (show i < 10 by omega) (show 10 < 2 ^ 31 by omega), if_true, nI_clamp (show i < 2 ^ 31 by omega), ea, ee, (sgX hv).1, half32 hv, (sgX (show v / 2 ≤ 999 by omega)).1, Option.bind_some, nI_toInt (show a < 2 ^ 31 by omega), nI_toInt (show e < 2 ^ 31 by omega)]
  rcases h45 with h | h
  · simp only [h, if_true, ne_eq, not_true, false_implies, true_and]
    by_cases d : (sg v : Int) ≤ (a : Int) + e ∧ (a : Int) ≤ (sg v : Int) + e
    · rw [if_neg (by rw [absX g1 (by omega) (by omega)]; exact fun q => q d), cI_t d]
    · rw [if_pos (by rw [absX g1 (by omega) (by omega)]; exact d), cI_f d]
  · have z : ¬ (1 : Int32) = 0 := by decide
    have ev := even32 hv
    rw [half32 hv] at ev
    simp only [h, ne_eq, z, if_false, not_false_iff, true_implies, ev]
    by_cases q : v % 2 = 0
    · rw [q, nI_0, if_pos rfl]
      simp only [true_and]
      by_cases d : (sg (v / 2) : Int) ≤ (a : Int) + e ∧ (a : Int) ≤ (sg (v / 2) : Int) + e
      · rw [if_neg (by rw [absX g2 (by omega) (by omega)]; exact fun q => q d), cI_t d]
      · rw [if_pos (by rw [absX g2 (by omega) (by omega)]; exact d), cI_f d]
    · have q1 : v % 2 = 1 := by omega
      rw [q1, if_neg (show ¬ nI 1 = 0 by decide), cI_f (fun h => absurd h.1 (by decide))]
theorem fit_step {I : IT} {s c : Nat} (hW : RelW I s c) {i v l : Nat} (hi : i < c) (hv : v ≤ 999) (n : Nat) (v3 : Int32) : f_X10_isFit_5 (n + 1) (nI l) (nI v) v3 (nI i) I = f_X10_isFit_5 n (nI l) (nI v) (if v3 = 0 then 0 else cI (¬ (I 42 i = nI l ∧ ¬ nearP (I 43) (I 44) (I 45) v i))) (nI (i + 1)) I := by
  obtain ⟨-, h40, hc, hh⟩ := hW
  obtain ⟨⟨q1, -⟩, ⟨q2, a, ha, ea⟩, ⟨q3, e, he, ee⟩, q4, h45⟩ := hh i hi
  have g1 := sg_lt hv
  have g2 := sg_lt (show v / 2 ≤ 999 by omega)
  have c1 : ¬ nI c ≤ nI i := by rw [nI_leI (by omega) (by omega)]; omega
  have z : ¬ (1 : Int32) = 0 := by decide
  have z' : ¬ (0 : Int32) = 1 := by decide
  have ev := even32 hv
  rw [half32 hv] at ev
  rw [f_X10_isFit_5, h40, if_neg c1]
  simp only [inb_nI (show i < 10 by omega) (show 10 < 2 ^ 31 by omega), if_true, nI_clamp (show i < 2 ^ 31 by omega), q1, q2, q3, q4, ea, ee, (sgX hv).2, half32 hv, (sgX (show v / 2 ≤ 999 by omega)).2, Option.bind_some, nI_1, if_neg z, ev]
  rw [in32 rfl rfl, in32 rfl rfl]
  simp only [Option.bind_some, b2]
  unfold nearP
  rw [ea, ee, nI_toInt (show a < 2 ^ 31 by omega), nI_toInt (show e < 2 ^ 31 by omega)]
  rcases h45 with h | h
  · simp only [h, if_true, ne_eq, not_true, false_implies, true_and]
    simp only [inX g1 (show a < 100 by omega) (show e < 100 by omega)]
    by_cases d : (sg v : Int) ≤ (a : Int) + e ∧ (a : Int) ≤ (sg v : Int) + e <;> by_cases d3 : v3 = 0 <;> by_cases d4 : I 42 i = nI l <;> simp only [d, d3, d4, if_true, if_false, if_neg z, if_neg z', cI_t trivial, cI_f not_false, not_true, not_false_iff, and_true, and_false, and_self]
  · simp only [h, ne_eq, z, if_false, not_false_iff, true_implies]
    simp only [inX g2 (show a < 100 by omega) (show e < 100 by omega)]
    by_cases d : (sg (v / 2) : Int) ≤ (a : Int) + e ∧ (a : Int) ≤ (sg (v / 2) : Int) + e
    · by_cases q : v % 2 = 0
      · have qq : ¬ nI 0 = 1 := by decide
        by_cases d3 : v3 = 0 <;> by_cases d4 : I 42 i = nI l <;> simp only [d, q, qq, d3, d4, if_true, if_false, if_neg z, if_neg z', cI_t trivial, cI_f not_false, not_true, not_false_iff, and_true, and_false, and_self, true_and]
      · have q' : v % 2 = 1 := by omega
        have qq : nI 1 = 1 := by decide
        have q0 : ¬ 1 = 0 := by decide
        by_cases d3 : v3 = 0 <;> by_cases d4 : I 42 i = nI l <;> simp only [d, q', qq, q0, d3, d4, if_true, if_false, if_neg z, if_neg z', cI_t trivial, cI_f not_false, not_true, not_false_iff, and_true, and_false, and_self, true_and, false_and]
    · by_cases d3 : v3 = 0 <;> by_cases d4 : I 42 i = nI l <;> simp only [d, d3, d4, if_true, if_false, if_neg z, if_neg z', cI_t trivial, cI_f not_false, not_true, not_false_iff, and_true, and_false, and_self, true_and]
theorem fit_go {I : IT} {s c : Nat} (hW : RelW I s c) {v l : Nat} (hv : v ≤ 999) : ∀ r n i (v3 : Int32), i + r = c → r < n → (v3 = 0 ∨ v3 = 1) → f_X10_isFit_5 n (nI l) (nI v) v3 (nI i) I = some (if v3 = 0 then 0 else cI (∀ j, i ≤ j → j < c → I 42 j = nI l → nearP (I 43) (I 44) (I 45) v j)) := by
  have h40 := hW.2.1
  have hc := hW.2.2.1
  intro r
  induction r with
  | zero =>
    intro n i v3 h1 h2 h3
    obtain ⟨n, rfl⟩ : ∃ q, n = q + 1 := ⟨n - 1, by omega⟩
    have c1 : nI c ≤ nI i := by rw [nI_leI (by omega) (by omega)]; omega
    rw [f_X10_isFit_5, h40, if_pos c1, if_pos h3]
    rw [cI_t (show ∀ j, i ≤ j → j < c → I 42 j = nI l → nearP (I 43) (I 44) (I 45) v j from fun j p1 p2 => absurd p2 (by omega))]
    rcases h3 with rfl | rfl <;> simp
  | succ r ih =>
    intro n i v3 h1 h2 h3
    obtain ⟨n, rfl⟩ : ∃ q, n = q + 1 := ⟨n - 1, by omega⟩
    rw [fit_step hW (by omega) hv]
    have z : ¬ (1 : Int32) = 0 := by decide
    by_cases d3 : v3 = 0
    · rw [if_pos d3, ih n (i + 1) 0 (by omega) (by omega) (Or.inl rfl), if_pos rfl, if_pos d3]
    · rw [if_neg d3, if_neg d3]
      by_cases d : I 42 i = nI l ∧ ¬ nearP (I 43) (I 44) (I 45) v i
      · rw [cI_f (fun q => q d), ih n (i + 1) 0 (by omega) (by omega) (Or.inl rfl), if_pos rfl, cI_f (fun hh => d.2 (hh i (by omega) (by omega) d.1))]
      · rw [cI_t d, ih n (i + 1) 1 (by omega) (by omega) (Or.inr rfl), if_neg z]
        congr 1
        refine cI_c ⟨fun hh j p1 p2 p3 => ?_, fun hh j p1 p2 p3 => hh j (by omega) p2 p3⟩
        by_cases e : j = i
        · subst e
          exact Classical.byContradiction fun q => d ⟨p3, q⟩
        · exact hh j (by omega) p2 p3
theorem can_go {I : IT} {s c : Nat} (hW : RelW I s c) {v l : Nat} (hv : v ≤ 999) : ∀ r n i, i + r = c → r < n → f_X8_canBe_2 n (nI l) (nI v) (nI i) I = some (cI (∀ j, i ≤ j → j < c → I 42 j = nI l → nearP (I 43) (I 44) (I 45) v j)) := by
  have h40 := hW.1
  have hc := hW.2.2.1
  intro r
  induction r with
  | zero =>
    intro n i h1 h2
    obtain ⟨n, rfl⟩ : ∃ q, n = q + 1 := ⟨n - 1, by omega⟩
    have c1 : nI c ≤ nI i := by rw [nI_leI (by omega) (by omega)]; omega
    rw [f_X8_canBe_2, h40, if_pos c1]
    rw [cI_t (show ∀ j, i ≤ j → j < c → I 42 j = nI l → nearP (I 43) (I 44) (I 45) v j from fun j p1 p2 => absurd p2 (by omega))]
  | succ r ih =>
    intro n i h1 h2
    obtain ⟨n, rfl⟩ : ∃ q, n = q + 1 := ⟨n - 1, by omega⟩
    have c1 : ¬ nI c ≤ nI i := by rw [nI_leI (by omega) (by omega)]; omega
    have c2 : ¬ (10 : Int32) ≤ nI i := by rw [show (10 : Int32) = nI 10 from rfl, nI_leI (by omega) (by omega)]; omega
    have z : ¬ (1 : Int32) = 0 := by decide
    rw [f_X8_canBe_2, h40, if_neg c1, if_neg c2, if_pos (inb_nI (by omega) (by omega)), nI_clamp (by omega), near_ok hW (by omega) hv, nI_1]
    simp only [Option.bind_some]
    rw [ih n (i + 1) (by omega) (by omega)]
    by_cases d : I 42 i = nI l
    · rw [if_pos d]
      by_cases e : nearP (I 43) (I 44) (I 45) v i
      · rw [cI_t e, if_neg z]
        congr 1
        refine cI_c ⟨fun hh j p1 p2 p3 => ?_, fun hh j p1 p2 p3 => hh j (by omega) p2 p3⟩
        by_cases ej : j = i
        · subst ej; exact e
        · exact hh j (by omega) p2 p3
      · rw [cI_f e, if_pos rfl, cI_f (fun hh => e (hh i (by omega) (by omega) d))]
    · rw [if_neg d]
      congr 1
      refine cI_c ⟨fun hh j p1 p2 p3 => ?_, fun hh j p1 p2 p3 => hh j (by omega) p2 p3⟩
      by_cases ej : j = i
      · subst ej; exact absurd p3 d
      · exact hh j (by omega) p2 p3
def FitI (I : IT) (c l v : Nat) : Prop := fitP c (I 42) (I 43) (I 44) (I 45) l v
theorem can_ok {I : IT} {s c : Nat} (hW : RelW I s c) {v l : Nat} (hv : v ≤ 999) : f_X8_canBe (nI l) (nI v) I = some (cI (FitI I c l v)) ∧ f_X10_isFit (nI l) (nI v) I = some (cI (FitI I c l v)) := by
  have hc := hW.2.2.1
  have e : (∀ j, 0 ≤ j → j < c → I 42 j = nI l → nearP (I 43) (I 44) (I 45) v j) ↔ FitI I c l v := ⟨fun h j => h j (by omega), fun h j _ => h j⟩
  have h1 := can_go hW hv (l := l) c FU 0 (by omega) (by unfold FU; omega)
  have h2 := fit_go hW hv (l := l) c FU 0 1 (by omega) (by unfold FU; omega) (Or.inr rfl)
  rw [if_neg (show ¬ (1 : Int32) = 0 by decide)] at h2
  rw [nI_0] at h1 h2
  unfold f_X8_canBe f_X10_isFit
  rw [h1, h2]
  rw [cI_c e]
  exact ⟨rfl, rfl⟩
