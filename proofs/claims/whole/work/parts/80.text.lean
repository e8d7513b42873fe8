/-! reading the text: where blanks, letters, figures end -/
def sk (p : Nat → Bool) : Nat → Nat → Nat
  | 0, i => i
  | d + 1, i => if p i = true then sk p d (i + 1) else i
theorem sk_bd (p : Nat → Bool) : ∀ d i, i ≤ sk p d i ∧ sk p d i ≤ i + d := by
  intro d
  induction d with
  | zero => intro i; exact ⟨Nat.le_refl _, Nat.le_refl _⟩
  | succ d ih =>
    intro i
    rw [sk]
    split
    · have := ih (i + 1); omega
    · omega
theorem sk_in (p : Nat → Bool) : ∀ d i j, i ≤ j → j < sk p d i → p j = true := by
  intro d
  induction d with
  | zero => intro i j h1 h2; rw [sk] at h2; omega
  | succ d ih =>
    intro i j h1 h2
    rw [sk] at h2
    by_cases q : p i = true
    · rw [if_pos q] at h2
      by_cases e : j = i
      · rw [e]; exact q
      · exact ih (i + 1) j (by omega) h2
    · rw [if_neg q] at h2; omega
theorem sk_end (p : Nat → Bool) : ∀ d i, sk p d i < i + d → ¬ p (sk p d i) = true := by
  intro d
  induction d with
  | zero => intro i h; rw [sk] at h; omega
  | succ d ih =>
    intro i h
    rw [sk] at h ⊢
    by_cases q : p i = true
    · rw [if_pos q] at h ⊢
      exact ih (i + 1) (by omega)
    · rw [if_neg q]; exact q
def isB (T : Nat → Nat) (i : Nat) : Bool := decide (T i = 32)
def isL (T : Nat → Nat) (i : Nat) : Bool := decide (97 ≤ T i ∧ T i ≤ 122)
def isD (T : Nat → Nat) (i : Nat) : Bool := decide (48 ≤ T i ∧ T i ≤ 57)
/-- the end of blanks, letters, figures from i on -/
def eB (T : Nat → Nat) (z i : Nat) : Nat := sk (isB T) (z - i) i
def eW (T : Nat → Nat) (z i : Nat) : Nat := sk (isL T) (z - i) i
def eD (T : Nat → Nat) (z i : Nat) : Nat := sk (isD T) (z - i) i
/-- the byte at i, for both -/
def byt (T : Nat → Nat) (z i : Nat) : Int32 := if i < z then nI (T i) else -1
/-- the class's text, the reference's text -/
def CT (I : IT) (T : Nat → Nat) (z : Nat) : Prop := z ≤ 500 ∧ I 1 1 = nI z ∧ ∀ j, j < z → I 2 j &&& 255 = nI (T j) ∧ T j < 256
def MTx (I : IT) (T : Nat → Nat) (z : Nat) : Prop := z ≤ 500 ∧ I 55 19 = nI z ∧ ∀ j, j < z → I 67 j = nI (T j) ∧ T j < 256
theorem byteX {I : IT} {T : Nat → Nat} {z i : Nat} (h : CT I T z) (hi : i < 2 ^ 30) : f_X6_byteAt (nI i) I = some (byt T z i) := by
  obtain ⟨h1, h2, h3⟩ := h
  unfold f_X6_byteAt byt
  rw [if_neg (nI_pos (by omega)), h2]
  by_cases q : i < z
  · rw [if_neg (by rw [nI_leI (by omega) (by omega)]; omega), if_neg (by rw [show (500 : Int32) = nI 500 from rfl, nI_leI (by omega) (by omega)]; omega), if_pos (inb_nI (show i < 500 by omega) (by omega)), nI_clamp (by omega), (h3 i q).1, if_pos q]
  · rw [if_pos (by rw [nI_leI (by omega) (by omega)]; omega), if_neg q]
/-- only the place has changed -/
def FP (I I' : IT) : Prop := (∀ c, c ≠ 7 → I' c = I c) ∧ ∀ j, j ≠ 4 → I' 7 j = I 7 j
theorem FP.rf (I : IT) : FP I I := ⟨fun _ _ => rfl, fun _ _ => rfl⟩
theorem FP.tr {I I' I'' : IT} (h : FP I I') (h' : FP I' I'') : FP I I'' := ⟨fun c hc => (h'.1 c hc).trans (h.1 c hc), fun j hj => (h'.2 j hj).trans (h.2 j hj)⟩
theorem FP.up (I : IT) (v : Int32) : FP I (upI I 7 4 v) := ⟨fun _ hc => upI_o hc, fun _ hj => upI_j hj⟩
theorem CT.fr {I I' : IT} {T : Nat → Nat} {z : Nat} (h : CT I T z) (h1 : I' 1 = I 1) (h2 : I' 2 = I 2) : CT I' T z := by
  unfold CT; rw [h1, h2]; exact h
theorem FP.ct {I I' : IT} (h : FP I I') {T : Nat → Nat} {z : Nat} (hc : CT I T z) : CT I' T z := hc.fr (h.1 1 (by decide)) (h.1 2 (by decide))
theorem byt_in {T : Nat → Nat} {z i : Nat} (h : i < z) : byt T z i = nI (T i) := if_pos h
theorem skB0 {T : Nat → Nat} {z : Nat} : ∀ d n i I, CT I T z → I 7 4 = nI i → z - i = d → i < 2 ^ 20 → d < n → ∃ I', f_X4_skipBlanks_0 n I = some I' ∧ I' 7 4 = nI (sk (isB T) d i) ∧ FP I I' := by
  intro d
  induction d with
  | zero =>
    intro n i I h hp hd hi hn
    obtain ⟨n, rfl⟩ : ∃ m, n = m + 1 := ⟨n - 1, by omega⟩
    have hz := h.1
    rw [f_X4_skipBlanks_0, h.2.1, hp, if_pos (by rw [nI_leI (by omega) (by omega)]; omega)]
    exact ⟨I, rfl, hp, FP.rf I⟩
  | succ d ih =>
    intro n i I h hp hd hi hn
    obtain ⟨n, rfl⟩ : ∃ m, n = m + 1 := ⟨n - 1, by omega⟩
    have hz := h.1
    have hT := (h.2.2 i (by omega)).2
    rw [f_X4_skipBlanks_0, h.2.1, hp, if_neg (by rw [nI_leI (by omega) (by omega)]; omega), byteX h (by omega), Option.bind_some, byt_in (by omega), sk]
    by_cases q : T i = 32
    · rw [if_pos (by rw [q]; rfl), if_pos (show isB T i = true from decide_eq_true q), nI_1]
      obtain ⟨I', a1, a2, a3⟩ := ih n (i + 1) (upI I 7 4 (nI (i + 1))) ((FP.up I _).ct h) upI_s (by omega) (by omega) (by omega)
      exact ⟨I', a1, a2, (FP.up I _).tr a3⟩
    · rw [if_neg (by rw [show (32 : Int32) = nI 32 from rfl, nI_eq (by omega) (by omega)]; exact q), if_neg (by unfold isB; rw [decide_eq_true_eq]; exact q)]
      exact ⟨I, rfl, hp, FP.rf I⟩
theorem skipB {I : IT} {T : Nat → Nat} {z i : Nat} (h : CT I T z) (hp : I 7 4 = nI i) (hi : i < 2 ^ 20) : ∃ I', f_X4_skipBlanks I = some I' ∧ I' 7 4 = nI (eB T z i) ∧ FP I I' :=
  skB0 (z - i) FU i I h hp rfl hi (by have := h.1; unfold FU; omega)
theorem skL0 {T : Nat → Nat} {z : Nat} : ∀ d n i I, CT I T z → I 7 4 = nI i → z - i = d → i < 2 ^ 20 → d < n → ∃ I', f_X4_skipLetters_0 n I = some I' ∧ I' 7 4 = nI (sk (isL T) d i) ∧ FP I I' := by
  intro d
  induction d with
  | zero =>
    intro n i I h hp hd hi hn
    obtain ⟨n, rfl⟩ : ∃ m, n = m + 1 := ⟨n - 1, by omega⟩
    have hz := h.1
    rw [f_X4_skipLetters_0, h.2.1, hp, if_pos (by rw [nI_leI (by omega) (by omega)]; omega)]
    exact ⟨I, rfl, hp, FP.rf I⟩
  | succ d ih =>
    intro n i I h hp hd hi hn
    obtain ⟨n, rfl⟩ : ∃ m, n = m + 1 := ⟨n - 1, by omega⟩
    have hz := h.1
    have hT := (h.2.2 i (by omega)).2
    rw [f_X4_skipLetters_0, h.2.1, hp, if_neg (by rw [nI_leI (by omega) (by omega)]; omega), byteX h (by omega), Option.bind_some, byt_in (by omega), sk, isW, Option.bind_some]
    have e : ((97 : Int32) ≤ nI (T i) ∧ nI (T i) ≤ 122) ↔ (97 ≤ T i ∧ T i ≤ 122) := by
      rw [show (97 : Int32) = nI 97 from rfl, show (122 : Int32) = nI 122 from rfl, nI_leI (by omega) (by omega), nI_leI (by omega) (by omega)]
    by_cases q : 97 ≤ T i ∧ T i ≤ 122
    · rw [show b2 ((97 : Int32) ≤ nI (T i) ∧ nI (T i) ≤ 122) = 1 from if_pos (e.mpr q), if_neg (by decide), if_pos (show isL T i = true from decide_eq_true q), nI_1]
      obtain ⟨I', a1, a2, a3⟩ := ih n (i + 1) (upI I 7 4 (nI (i + 1))) ((FP.up I _).ct h) upI_s (by omega) (by omega) (by omega)
      exact ⟨I', a1, a2, (FP.up I _).tr a3⟩
    · rw [show b2 ((97 : Int32) ≤ nI (T i) ∧ nI (T i) ≤ 122) = 0 from if_neg (fun w => q (e.mp w)), if_pos rfl, if_neg (by unfold isL; rw [decide_eq_true_eq]; exact q)]
      exact ⟨I, rfl, hp, FP.rf I⟩
theorem skipL {I : IT} {T : Nat → Nat} {z i : Nat} (h : CT I T z) (hp : I 7 4 = nI i) (hi : i < 2 ^ 20) : ∃ I', f_X4_skipLetters I = some I' ∧ I' 7 4 = nI (eW T z i) ∧ FP I I' :=
  skL0 (z - i) FU i I h hp rfl hi (by have := h.1; unfold FU; omega)
/-- the five words -/
def wd5 : Nat → List Nat
  | 0 => [115, 101, 108, 108, 101, 114]
  | 1 => [98, 117, 121, 101, 114]
  | 2 => [98, 114, 111, 107, 101, 114]
  | 3 => [98, 105, 110, 100, 115]
  | _ => [99, 111, 115, 116]
/-- the word from st to en is word k -/
def wdM (T : Nat → Nat) (st en k : Nat) : Prop := en - st = (wd5 k).length ∧ ∀ i, i < (wd5 k).length → T (st + i) = (wd5 k).getD i 0
theorem lenS0 : f_J0_length_8abf5_s0 = some (nI 6) := by decide
theorem chS0 (I : IT) : ∀ i, i < 6 → f_J0_charAt_5068e_s0 (nI i) I = some (nI ((wd5 0).getD i 0)) := by
  unfold f_J0_charAt_5068e_s0 f_J1_charAt_3b067_v0
  decide
theorem isW0_go {I : IT} {T : Nat → Nat} {z st : Nat} (h : CT I T z) (hst : st + 6 ≤ z) : ∀ d n i, i + d = 6 → d < n → f_X4_isWord_s0_17 n (nI st) (nI i) I = some (cI (∀ j, i ≤ j → j < 6 → T (st + j) = (wd5 0).getD j 0)) := by
  intro d
  have hz := h.1
  induction d with
  | zero =>
    intro n i hi hn
    obtain ⟨n, rfl⟩ : ∃ m, n = m + 1 := ⟨n - 1, by omega⟩
    rw [f_X4_isWord_s0_17, lenS0, Option.bind_some, if_pos (by rw [nI_leI (by omega) (by omega)]; omega), cI_t (fun j h1 h2 => by omega)]
  | succ d ih =>
    intro n i hi hn
    obtain ⟨n, rfl⟩ : ∃ m, n = m + 1 := ⟨n - 1, by omega⟩
    have hT := (h.2.2 (st + i) (by omega)).2
    have hw : (wd5 0).getD i 0 < 256 := (by decide : ∀ i, i < 6 → (wd5 0).getD i 0 < 256) i (by omega)
    rw [f_X4_isWord_s0_17, lenS0, Option.bind_some, if_neg (by rw [nI_leI (by omega) (by omega)]; omega), nI_add, byteX h (by omega), Option.bind_some, byt_in (by omega), chS0 I i (by omega), Option.bind_some, nI_1, ih n (i + 1) (by omega) (by omega)]
    by_cases q : T (st + i) = (wd5 0).getD i 0
    · rw [if_pos (by rw [q])]
      congr 1
      refine cI_c ⟨fun w j h1 h2 => ?_, fun w j h1 h2 => w j (by omega) h2⟩
      by_cases e : j = i
      · subst e; exact q
      · exact w j (by omega) h2
    · rw [if_neg (by rw [nI_eq (by omega) (by omega)]; exact q), cI_f (fun w => q (w i (Nat.le_refl _) (by omega)))]
theorem isW0 {I : IT} {T : Nat → Nat} {z st en : Nat} (h : CT I T z) (hp : I 7 4 = nI en) (h1 : st ≤ en) (h2 : en ≤ z) : f_X4_isWord_s0 (nI st) I = some (cI (wdM T st en 0)) := by
  have hz := h.1
  unfold f_X4_isWord_s0
  rw [lenS0, Option.bind_some, hp, pk_sub h1]
  by_cases q : en - st = 6
  · rw [if_pos (by rw [q])]
    have := isW0_go h (st := st) (by omega) 6 FU 0 (by omega) (by unfold FU; omega)
    rw [nI_0] at this
    rw [this]
    congr 1
    exact cI_c ⟨fun w => ⟨q, fun i hi => w i (by omega) hi⟩, fun w j _ hj => w.2 j hj⟩
  · rw [if_neg (by rw [nI_eq (by omega) (by omega)]; exact q), cI_f (fun w => q w.1)]
theorem lenS1 : f_J0_length_8abf5_s1 = some (nI 5) := by decide
theorem chS1 (I : IT) : ∀ i, i < 5 → f_J0_charAt_5068e_s1 (nI i) I = some (nI ((wd5 1).getD i 0)) := by
  unfold f_J0_charAt_5068e_s1 f_J1_charAt_3b067_v1
  decide
theorem isW1_go {I : IT} {T : Nat → Nat} {z st : Nat} (h : CT I T z) (hst : st + 5 ≤ z) : ∀ d n i, i + d = 5 → d < n → f_X4_isWord_s1_17 n (nI st) (nI i) I = some (cI (∀ j, i ≤ j → j < 5 → T (st + j) = (wd5 1).getD j 0)) := by
  intro d
  have hz := h.1
  induction d with
  | zero =>
    intro n i hi hn
    obtain ⟨n, rfl⟩ : ∃ m, n = m + 1 := ⟨n - 1, by omega⟩
    rw [f_X4_isWord_s1_17, lenS1, Option.bind_some, if_pos (by rw [nI_leI (by omega) (by omega)]; omega), cI_t (fun j h1 h2 => by omega)]
  | succ d ih =>
    intro n i hi hn
    obtain ⟨n, rfl⟩ : ∃ m, n = m + 1 := ⟨n - 1, by omega⟩
    have hT := (h.2.2 (st + i) (by omega)).2
    have hw : (wd5 1).getD i 0 < 256 := (by decide : ∀ i, i < 5 → (wd5 1).getD i 0 < 256) i (by omega)
    rw [f_X4_isWord_s1_17, lenS1, Option.bind_some, if_neg (by rw [nI_leI (by omega) (by omega)]; omega), nI_add, byteX h (by omega), Option.bind_some, byt_in (by omega), chS1 I i (by omega), Option.bind_some, nI_1, ih n (i + 1) (by omega) (by omega)]
    by_cases q : T (st + i) = (wd5 1).getD i 0
    · rw [if_pos (by rw [q])]
      congr 1
      refine cI_c ⟨fun w j h1 h2 => ?_, fun w j h1 h2 => w j (by omega) h2⟩
      by_cases e : j = i
      · subst e; exact q
      · exact w j (by omega) h2
    · rw [if_neg (by rw [nI_eq (by omega) (by omega)]; exact q), cI_f (fun w => q (w i (Nat.le_refl _) (by omega)))]
theorem isW1 {I : IT} {T : Nat → Nat} {z st en : Nat} (h : CT I T z) (hp : I 7 4 = nI en) (h1 : st ≤ en) (h2 : en ≤ z) : f_X4_isWord_s1 (nI st) I = some (cI (wdM T st en 1)) := by
  have hz := h.1
  unfold f_X4_isWord_s1
  rw [lenS1, Option.bind_some, hp, pk_sub h1]
  by_cases q : en - st = 5
  · rw [if_pos (by rw [q])]
    have := isW1_go h (st := st) (by omega) 5 FU 0 (by omega) (by unfold FU; omega)
    rw [nI_0] at this
    rw [this]
    congr 1
    exact cI_c ⟨fun w => ⟨q, fun i hi => w i (by omega) hi⟩, fun w j _ hj => w.2 j hj⟩
  · rw [if_neg (by rw [nI_eq (by omega) (by omega)]; exact q), cI_f (fun w => q w.1)]
theorem lenS2 : f_J0_length_8abf5_s2 = some (nI 6) := by decide
theorem chS2 (I : IT) : ∀ i, i < 6 → f_J0_charAt_5068e_s2 (nI i) I = some (nI ((wd5 2).getD i 0)) := by
  unfold f_J0_charAt_5068e_s2 f_J1_charAt_3b067_v2
  decide
theorem isW2_go {I : IT} {T : Nat → Nat} {z st : Nat} (h : CT I T z) (hst : st + 6 ≤ z) : ∀ d n i, i + d = 6 → d < n → f_X4_isWord_s2_17 n (nI st) (nI i) I = some (cI (∀ j, i ≤ j → j < 6 → T (st + j) = (wd5 2).getD j 0)) := by
  intro d
  have hz := h.1
  induction d with
  | zero =>
    intro n i hi hn
    obtain ⟨n, rfl⟩ : ∃ m, n = m + 1 := ⟨n - 1, by omega⟩
    rw [f_X4_isWord_s2_17, lenS2, Option.bind_some, if_pos (by rw [nI_leI (by omega) (by omega)]; omega), cI_t (fun j h1 h2 => by omega)]
  | succ d ih =>
    intro n i hi hn
    obtain ⟨n, rfl⟩ : ∃ m, n = m + 1 := ⟨n - 1, by omega⟩
    have hT := (h.2.2 (st + i) (by omega)).2
    have hw : (wd5 2).getD i 0 < 256 := (by decide : ∀ i, i < 6 → (wd5 2).getD i 0 < 256) i (by omega)
    rw [f_X4_isWord_s2_17, lenS2, Option.bind_some, if_neg (by rw [nI_leI (by omega) (by omega)]; omega), nI_add, byteX h (by omega), Option.bind_some, byt_in (by omega), chS2 I i (by omega), Option.bind_some, nI_1, ih n (i + 1) (by omega) (by omega)]
    by_cases q : T (st + i) = (wd5 2).getD i 0
    · rw [if_pos (by rw [q])]
      congr 1
      refine cI_c ⟨fun w j h1 h2 => ?_, fun w j h1 h2 => w j (by omega) h2⟩
      by_cases e : j = i
      · subst e; exact q
      · exact w j (by omega) h2
    · rw [if_neg (by rw [nI_eq (by omega) (by omega)]; exact q), cI_f (fun w => q (w i (Nat.le_refl _) (by omega)))]
theorem isW2 {I : IT} {T : Nat → Nat} {z st en : Nat} (h : CT I T z) (hp : I 7 4 = nI en) (h1 : st ≤ en) (h2 : en ≤ z) : f_X4_isWord_s2 (nI st) I = some (cI (wdM T st en 2)) := by
  have hz := h.1
  unfold f_X4_isWord_s2
  rw [lenS2, Option.bind_some, hp, pk_sub h1]
  by_cases q : en - st = 6
  · rw [if_pos (by rw [q])]
    have := isW2_go h (st := st) (by omega) 6 FU 0 (by omega) (by unfold FU; omega)
    rw [nI_0] at this
    rw [this]
    congr 1
    exact cI_c ⟨fun w => ⟨q, fun i hi => w i (by omega) hi⟩, fun w j _ hj => w.2 j hj⟩
  · rw [if_neg (by rw [nI_eq (by omega) (by omega)]; exact q), cI_f (fun w => q w.1)]
theorem lenS3 : f_J0_length_8abf5_s3 = some (nI 5) := by decide
theorem chS3 (I : IT) : ∀ i, i < 5 → f_J0_charAt_5068e_s3 (nI i) I = some (nI ((wd5 3).getD i 0)) := by
  unfold f_J0_charAt_5068e_s3 f_J1_charAt_3b067_v3
  decide
theorem isW3_go {I : IT} {T : Nat → Nat} {z st : Nat} (h : CT I T z) (hst : st + 5 ≤ z) : ∀ d n i, i + d = 5 → d < n → f_X4_isWord_s3_17 n (nI st) (nI i) I = some (cI (∀ j, i ≤ j → j < 5 → T (st + j) = (wd5 3).getD j 0)) := by
  intro d
  have hz := h.1
  induction d with
  | zero =>
    intro n i hi hn
    obtain ⟨n, rfl⟩ : ∃ m, n = m + 1 := ⟨n - 1, by omega⟩
    rw [f_X4_isWord_s3_17, lenS3, Option.bind_some, if_pos (by rw [nI_leI (by omega) (by omega)]; omega), cI_t (fun j h1 h2 => by omega)]
  | succ d ih =>
    intro n i hi hn
    obtain ⟨n, rfl⟩ : ∃ m, n = m + 1 := ⟨n - 1, by omega⟩
    have hT := (h.2.2 (st + i) (by omega)).2
    have hw : (wd5 3).getD i 0 < 256 := (by decide : ∀ i, i < 5 → (wd5 3).getD i 0 < 256) i (by omega)
    rw [f_X4_isWord_s3_17, lenS3, Option.bind_some, if_neg (by rw [nI_leI (by omega) (by omega)]; omega), nI_add, byteX h (by omega), Option.bind_some, byt_in (by omega), chS3 I i (by omega), Option.bind_some, nI_1, ih n (i + 1) (by omega) (by omega)]
    by_cases q : T (st + i) = (wd5 3).getD i 0
    · rw [if_pos (by rw [q])]
      congr 1
      refine cI_c ⟨fun w j h1 h2 => ?_, fun w j h1 h2 => w j (by omega) h2⟩
      by_cases e : j = i
      · subst e; exact q
      · exact w j (by omega) h2
    · rw [if_neg (by rw [nI_eq (by omega) (by omega)]; exact q), cI_f (fun w => q (w i (Nat.le_refl _) (by omega)))]
theorem isW3 {I : IT} {T : Nat → Nat} {z st en : Nat} (h : CT I T z) (hp : I 7 4 = nI en) (h1 : st ≤ en) (h2 : en ≤ z) : f_X4_isWord_s3 (nI st) I = some (cI (wdM T st en 3)) := by
  have hz := h.1
  unfold f_X4_isWord_s3
  rw [lenS3, Option.bind_some, hp, pk_sub h1]
  by_cases q : en - st = 5
  · rw [if_pos (by rw [q])]
    have := isW3_go h (st := st) (by omega) 5 FU 0 (by omega) (by unfold FU; omega)
    rw [nI_0] at this
    rw [this]
    congr 1
    exact cI_c ⟨fun w => ⟨q, fun i hi => w i (by omega) hi⟩, fun w j _ hj => w.2 j hj⟩
  · rw [if_neg (by rw [nI_eq (by omega) (by omega)]; exact q), cI_f (fun w => q w.1)]
theorem lenS4 : f_J0_length_8abf5_s4 = some (nI 4) := by decide
theorem chS4 (I : IT) : ∀ i, i < 4 → f_J0_charAt_5068e_s4 (nI i) I = some (nI ((wd5 4).getD i 0)) := by
  unfold f_J0_charAt_5068e_s4 f_J1_charAt_3b067_v4
  decide
theorem isW4_go {I : IT} {T : Nat → Nat} {z st : Nat} (h : CT I T z) (hst : st + 4 ≤ z) : ∀ d n i, i + d = 4 → d < n → f_X4_isWord_s4_17 n (nI st) (nI i) I = some (cI (∀ j, i ≤ j → j < 4 → T (st + j) = (wd5 4).getD j 0)) := by
  intro d
  have hz := h.1
  induction d with
  | zero =>
    intro n i hi hn
    obtain ⟨n, rfl⟩ : ∃ m, n = m + 1 := ⟨n - 1, by omega⟩
    rw [f_X4_isWord_s4_17, lenS4, Option.bind_some, if_pos (by rw [nI_leI (by omega) (by omega)]; omega), cI_t (fun j h1 h2 => by omega)]
  | succ d ih =>
    intro n i hi hn
    obtain ⟨n, rfl⟩ : ∃ m, n = m + 1 := ⟨n - 1, by omega⟩
    have hT := (h.2.2 (st + i) (by omega)).2
    have hw : (wd5 4).getD i 0 < 256 := (by decide : ∀ i, i < 4 → (wd5 4).getD i 0 < 256) i (by omega)
    rw [f_X4_isWord_s4_17, lenS4, Option.bind_some, if_neg (by rw [nI_leI (by omega) (by omega)]; omega), nI_add, byteX h (by omega), Option.bind_some, byt_in (by omega), chS4 I i (by omega), Option.bind_some, nI_1, ih n (i + 1) (by omega) (by omega)]
    by_cases q : T (st + i) = (wd5 4).getD i 0
    · rw [if_pos (by rw [q])]
      congr 1
      refine cI_c ⟨fun w j h1 h2 => ?_, fun w j h1 h2 => w j (by omega) h2⟩
      by_cases e : j = i
      · subst e; exact q
      · exact w j (by omega) h2
    · rw [if_neg (by rw [nI_eq (by omega) (by omega)]; exact q), cI_f (fun w => q (w i (Nat.le_refl _) (by omega)))]
theorem isW4 {I : IT} {T : Nat → Nat} {z st en : Nat} (h : CT I T z) (hp : I 7 4 = nI en) (h1 : st ≤ en) (h2 : en ≤ z) : f_X4_isWord_s4 (nI st) I = some (cI (wdM T st en 4)) := by
  have hz := h.1
  unfold f_X4_isWord_s4
  rw [lenS4, Option.bind_some, hp, pk_sub h1]
  by_cases q : en - st = 4
  · rw [if_pos (by rw [q])]
    have := isW4_go h (st := st) (by omega) 4 FU 0 (by omega) (by unfold FU; omega)
    rw [nI_0] at this
    rw [this]
    congr 1
    exact cI_c ⟨fun w => ⟨q, fun i hi => w i (by omega) hi⟩, fun w j _ hj => w.2 j hj⟩
  · rw [if_neg (by rw [nI_eq (by omega) (by omega)]; exact q), cI_f (fun w => q w.1)]
/-! faults, numbers, signs: the class -/
/-- the fault behind: the first one stays; f: which, at: where -/
def flt (o f : Int32) : Int32 := if o = 0 then f else o
theorem refX (I : IT) (b : Bool) (k at0 : Int32) : ∃ I', f_X4_refuseIf (if b = true then 1 else 0) k at0 I = some I' ∧ I' 7 3 = (if b = true ∧ I 7 3 = 0 then k else I 7 3) ∧ I' 7 2 = (if b = true ∧ I 7 3 = 0 then at0 else I 7 2) ∧ (∀ c, c ≠ 7 → I' c = I c) ∧ ∀ j, j ≠ 2 → j ≠ 3 → I' 7 j = I 7 j := by
  unfold f_X4_refuseIf
  cases b with
  | false =>
    rw [if_pos (show (if false = true then (1 : Int32) else 0) = 0 from rfl)]
    exact ⟨I, rfl, by rw [if_neg (by simp)], by rw [if_neg (by simp)], fun _ _ => rfl, fun _ _ _ => rfl⟩
  | true =>
    rw [if_neg (show ¬ (if true = true then (1 : Int32) else 0) = 0 by decide)]
    by_cases q : I 7 3 = 0
    · rw [if_pos q]
      refine ⟨_, rfl, ?_, ?_, fun c hc => by rw [upI_o hc, upI_o hc], fun j h2 h3 => by rw [upI_j h2, upI_j h3]⟩
      · rw [if_pos ⟨rfl, q⟩, upI_j (by decide), upI_s]
      · rw [if_pos ⟨rfl, q⟩, upI_s]
    · rw [if_neg q]
      exact ⟨I, rfl, by rw [if_neg (fun w => q w.2)], by rw [if_neg (fun w => q w.2)], fun _ _ => rfl, fun _ _ _ => rfl⟩
/-- place, fault and where may have changed, nothing else -/
def FR (I I' : IT) : Prop := (∀ c, c ≠ 7 → I' c = I c) ∧ ∀ j, j ≠ 2 → j ≠ 3 → j ≠ 4 → I' 7 j = I 7 j
theorem FR.rf (I : IT) : FR I I := ⟨fun _ _ => rfl, fun _ _ _ _ => rfl⟩
theorem FR.tr {I I' I'' : IT} (h : FR I I') (h' : FR I' I'') : FR I I'' := ⟨fun c hc => (h'.1 c hc).trans (h.1 c hc), fun j a b c => (h'.2 j a b c).trans (h.2 j a b c)⟩
theorem FP.fr {I I' : IT} (h : FP I I') : FR I I' := ⟨h.1, fun j _ _ h4 => h.2 j h4⟩
theorem FR.ct {I I' : IT} (h : FR I I') {T : Nat → Nat} {z : Nat} (hc : CT I T z) : CT I' T z := hc.fr (h.1 1 (by decide)) (h.1 2 (by decide))
/-- the value of the first n figures from i on -/
def dV (T : Nat → Nat) (i : Nat) : Nat → Nat
  | 0 => 0
  | n + 1 => dV T i n * 10 + (T (i + n) - 48)
/-- a number's fault: where it stands, its bounds -/
def nF (T : Nat → Nat) (z lo hi i : Nat) : Nat := if eD T z i = i then 1 else if 4 < eD T z i - i ∨ ¬ (lo ≤ dV T i (min (eD T z i - i) 4) ∧ dV T i (min (eD T z i - i) 4) ≤ hi) then 2 else 0
theorem dV_bd {T : Nat → Nat} {i : Nat} : ∀ n, (∀ j, j < n → 48 ≤ T (i + j) ∧ T (i + j) ≤ 57) → dV T i n < 10 ^ n := by
  intro n
  induction n with
  | zero => intro _; rw [dV]; omega
  | succ n ih =>
    intro h
    have h1 := ih (fun j hj => h j (by omega))
    have h2 := h n (by omega)
    rw [dV, Nat.pow_succ]
    omega
theorem dV4 {T : Nat → Nat} {i n : Nat} (hn : n ≤ 4) (h : ∀ j, j < n → 48 ≤ T (i + j) ∧ T (i + j) ≤ 57) : dV T i n ≤ 9999 := by
  have h1 := dV_bd n h
  have h2 : 10 ^ n ≤ 10 ^ 4 := Nat.pow_le_pow_right (by omega) hn
  omega
/-- behind a number's last figure -/
theorem num_end {I : IT} {T : Nat → Nat} {z lo hi st en v : Nat} (hlo : lo ≤ 9999) (hhi : hi ≤ 9999) (hz : z ≤ 500) (h1 : st ≤ en) (h2 : en < 2 ^ 21) (hv : v ≤ 9999) (hp : I 7 4 = nI en) : ∃ I', (if (I 7 4) = nI st then
        (f_X4_refuseIf 1 1 (nI st) I).bind fun r104 =>
        if (4 : Int32) < ((r104 7 4) - nI st) then
          (f_X4_refuseIf 1 2 (nI st) r104).bind fun r135 =>
          some (nI v, r135)
        else
          (f_X9_isWithin (nI v) (nI lo) (nI hi)).bind fun r122 =>
          if r122 = 0 then
            (f_X4_refuseIf 1 2 (nI st) r104).bind fun r135 =>
            some (nI v, r135)
          else
            (f_X4_refuseIf 0 2 (nI st) r104).bind fun r135 =>
            some (nI v, r135)
      else
        (f_X4_refuseIf 0 1 (nI st) I).bind fun r104 =>
        if (4 : Int32) < ((r104 7 4) - nI st) then
          (f_X4_refuseIf 1 2 (nI st) r104).bind fun r135 =>
          some (nI v, r135)
        else
          (f_X9_isWithin (nI v) (nI lo) (nI hi)).bind fun r122 =>
          if r122 = 0 then
            (f_X4_refuseIf 1 2 (nI st) r104).bind fun r135 =>
            some (nI v, r135)
          else
            (f_X4_refuseIf 0 2 (nI st) r104).bind fun r135 =>
            some (nI v, r135)) = some (nI v, I') ∧ I' 7 4 = nI en ∧ FR I I' ∧ I' 7 3 = (if I 7 3 = 0 then nI (if en = st then 1 else if 4 < en - st ∨ ¬ (lo ≤ v ∧ v ≤ hi) then 2 else 0) else I 7 3) ∧ I' 7 2 = (if I 7 3 = 0 ∧ (if en = st then 1 else if 4 < en - st ∨ ¬ (lo ≤ v ∧ v ≤ hi) then 2 else 0) ≠ 0 then nI st else I 7 2) := by
  obtain ⟨I1, a1, a2, a3, a4, a5⟩ := refX I (decide (en = st)) 1 (nI st)
  obtain ⟨I2, d1, d2, d3, d4, d5⟩ := refX I1 (decide (4 < en - st ∨ ¬ (lo ≤ v ∧ v ≤ hi))) 2 (nI st)
  have p1 : I1 7 4 = nI en := by rw [a5 4 (by decide) (by decide), hp]
  have e0 : (4 : Int32) < nI (en - st) ↔ 4 < en - st := by rw [show (4 : Int32) = nI 4 from rfl, nI_ltI (by omega) (by omega)]
  have e1 : (nI lo ≤ nI v ∧ nI v ≤ nI hi) ↔ (lo ≤ v ∧ v ≤ hi) := by rw [nI_leI (by omega) (by omega), nI_leI (by omega) (by omega)]
  refine ⟨I2, ?_, by rw [d5 4 (by decide) (by decide), p1], ⟨fun c hc => by rw [d4 c hc, a4 c hc], fun j h2 h3 h4 => by rw [d5 j h2 h3, a5 j h2 h3]⟩, ?_, ?_⟩
  · have key : (if (4 : Int32) < ((I1 7 4) - nI st) then
          (f_X4_refuseIf 1 2 (nI st) I1).bind fun r135 =>
          some (nI v, r135)
        else
          (f_X9_isWithin (nI v) (nI lo) (nI hi)).bind fun r122 =>
          if r122 = 0 then
            (f_X4_refuseIf 1 2 (nI st) I1).bind fun r135 =>
            some (nI v, r135)
          else
            (f_X4_refuseIf 0 2 (nI st) I1).bind fun r135 =>
            some (nI v, r135)) = some (nI v, I2) := by
      rw [p1, pk_sub h1, isW, Option.bind_some]
      by_cases q : 4 < en - st
      · rw [if_pos (decide_eq_true (Or.inl q))] at d1
        rw [if_pos (e0.mpr q), d1, Option.bind_some]
      · rw [if_neg (fun w => q (e0.mp w))]
        by_cases q2 : lo ≤ v ∧ v ≤ hi
        · rw [if_neg (by rw [decide_eq_true_eq]; exact fun w => w.elim q (fun w => w q2))] at d1
          rw [show b2 (nI lo ≤ nI v ∧ nI v ≤ nI hi) = 1 from if_pos (e1.mpr q2), if_neg (by decide), d1, Option.bind_some]
        · rw [if_pos (decide_eq_true (Or.inr q2))] at d1
          rw [show b2 (nI lo ≤ nI v ∧ nI v ≤ nI hi) = 0 from if_neg (fun w => q2 (e1.mp w)), if_pos rfl, d1, Option.bind_some]
    rw [hp]
    by_cases q : en = st
    · rw [if_pos (decide_eq_true q)] at a1
      rw [if_pos (by rw [q]), a1, Option.bind_some, key]
    · rw [if_neg (by rw [decide_eq_true_eq]; exact q)] at a1
      rw [if_neg (by rw [nI_eq (by omega) (by omega)]; exact q), a1, Option.bind_some, key]
  · rw [d2, a2]
    by_cases q0 : I 7 3 = 0
    · by_cases q : en = st
      · simp [q0, q]
        rfl
      · by_cases q2 : 4 < en - st ∨ ¬ (lo ≤ v ∧ v ≤ hi)
        · simp only [q0, q, q2, decide_true, decide_false, if_true, if_false, and_true, true_and, and_self, Bool.false_eq_true, false_and]
          rfl
        · simp only [q0, q, q2, decide_true, decide_false, if_true, if_false, and_true, true_and, and_self, Bool.false_eq_true, false_and]
          rfl
    · simp [q0]
  · rw [d3, a3, a2]
    by_cases q0 : I 7 3 = 0
    · by_cases q : en = st
      · simp [q0, q]
      · by_cases q2 : 4 < en - st ∨ ¬ (lo ≤ v ∧ v ≤ hi)
        · simp only [q0, q, q2, decide_true, decide_false, if_true, if_false, and_true, true_and, and_self, Bool.false_eq_true, false_and, ne_eq]
          simp
        · simp only [q0, q, q2, decide_true, decide_false, if_true, if_false, and_true, true_and, and_self, Bool.false_eq_true, false_and, ne_eq]
          simp
    · simp [q0]
