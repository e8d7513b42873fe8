/-! the trade's rows, on the reference's side -/
def eI (x : Int) : Int32 := Int32.ofInt x
theorem eI_add (a b : Int) : eI a + eI b = eI (a + b) := (Int32.ofInt_add a b).symm
theorem eI_toInt {a : Int} (h : -2 ^ 30 ≤ a) (h' : a < 2 ^ 30) : (eI a).toInt = a := Int32.toInt_ofInt_of_le (by omega) (by omega)
theorem eI_le {a b : Int} (h1 : -2 ^ 30 ≤ a) (h2 : a < 2 ^ 30) (h3 : -2 ^ 30 ≤ b) (h4 : b < 2 ^ 30) : eI a ≤ eI b ↔ a ≤ b := by
  rw [Int32.le_iff_toInt_le, eI_toInt h1 h2, eI_toInt h3 h4]
theorem eI_eq {a b : Int} (h1 : -2 ^ 30 ≤ a) (h2 : a < 2 ^ 30) (h3 : -2 ^ 30 ≤ b) (h4 : b < 2 ^ 30) : eI a = eI b ↔ a = b := by
  rw [← Int32.toInt_inj, eI_toInt h1 h2, eI_toInt h3 h4]
theorem nI_eI (n : Nat) : nI n = eI n := (Int32.ofInt_eq_ofNat (n := n)).symm
theorem eI_nI {x : Int} (h : 0 ≤ x) : eI x = nI x.toNat := by rw [nI_eI, Int.toNat_of_nonneg h]
def tr_Im (I : IT) (s B : Nat) (W : Nat → Nat → Nat) (r : Nat → Nat) : Prop := (I 55 0 = nI s ∧ I 55 1 = nI B ∧ s ≤ 6 ∧ B ≤ 6) ∧ (∀ l, l < s → I 56 l = nI (r l) ∧ r l ≤ 999) ∧ ∀ c l, c < B → l < s → I 58 (6 * c + l) = nI (W c l) ∧ W c l ≤ 999
/-- who may buy: all but those taken -/
def tr_U (t : Nat) : Nat → Bool := fun b => !t.testBit b
theorem rm_U (t : Nat) {j : Nat} (hj : j < 6) : tr_rm (tr_U t) j = tr_U (t ||| 2 ^ j) := by
  funext b
  unfold tr_rm tr_U
  rw [Nat.testBit_or, Nat.testBit_two_pow, show decide (j = 6) = false from decide_eq_false (by omega), Bool.not_or, Bool.not_false, Bool.and_true, show decide (b = j) = decide (j = b) from by rw [decide_eq_decide]; exact eq_comm]
theorem or_ok : ∀ t, t < 64 → ∀ j, j < 6 → (nI t ||| ((1 : Int32) <<< ((nI j) &&& 31))) = nI (t ||| 2 ^ j) ∧ t ||| 2 ^ j < 64 := by decide +kernel
theorem tr_VM_bd {W : Nat → Nat → Nat} {r : Nat → Nat} {B : Nat} (hB : B ≤ 6) {ls : List Nat} (S : Nat → Bool) (hW : ∀ l ∈ ls, ∀ c, c < B → W c l ≤ 999) (h8 : ls.length ≤ 8) : 0 ≤ tr_V tr_fM W r B ls S ∧ tr_V tr_fM W r B ls S ≤ 200000 := by
  obtain ⟨⟨g, n, o, k1, k2⟩, -⟩ := tr_V_max tr_fM0 tr_fMa W r hB ls S
  have b1 := tr_R_bd hB _ _ _ _ _ k1 hW
  rw [← k2]
  unfold tr_fM
  omega
theorem tr_Im.bd {I : IT} {s B : Nat} {W : Nat → Nat → Nat} {r : Nat → Nat} (h : tr_Im I s B W r) {ls : List Nat} {m : Nat} (hl : tr_ls ls s m) (hm : m ≤ 8) (S : Nat → Bool) : 0 ≤ tr_V tr_fM W r B ls S ∧ tr_V tr_fM W r B ls S ≤ 200000 :=
  tr_VM_bd h.1.2.2.2 S (fun l q c hc => (h.2.2 c l hc (hl.1 l q)).2) (by have := hl.2; omega)
theorem tr_topS {φ : Nat → Nat → Nat → Int} {W : Nat → Nat → Nat} {r : Nat → Nat} {S S' : Nat → Bool} {l : Nat} {f f' : Nat → Int} {m : Nat} (h6 : f 6 = f' 6) (hf : ∀ c, c < m → f c = f' c) (hS : ∀ c, c < m → S c = S' c) : ∀ j, j ≤ m → tr_top φ W r S l f j = tr_top φ W r S' l f' j := by
  intro j
  induction j with
  | zero => intro _; rw [tr_top, tr_top, h6]
  | succ j ih =>
    intro hj
    rw [tr_top, tr_top, ih (by omega), hf j (by omega), hS j (by omega)]
theorem tr_V_S {φ : Nat → Nat → Nat → Int} {W : Nat → Nat → Nat} {r : Nat → Nat} {B : Nat} : ∀ ls (S S' : Nat → Bool), (∀ b, b < B → S b = S' b) → tr_V φ W r B ls S = tr_V φ W r B ls S' := by
  intro ls
  induction ls with
  | nil => intro S S' _; rfl
  | cons l ls ih =>
    intro S S' h
    rw [tr_V, tr_V]
    refine tr_topS (m := B) (ih _ _ (fun b hb => ?_)) (fun c _ => ih _ _ (fun b hb => ?_)) h B (Nat.le_refl _) <;> simp only [tr_rm, h b hb]
/-- what a row of the reference needs: lot l stands at i, row i and 1 is right for ls -/
def tr_Rw (I : IT) (s B : Nat) (W : Nat → Nat → Nat) (r : Nat → Nat) (m i l : Nat) (ls : List Nat) : Prop := tr_Im I s B W r ∧ I 55 37 = nI m ∧ m ≤ 7 ∧ i < m ∧ I 73 i = nI l ∧ l < s ∧ tr_ls ls s 7 ∧ ∀ t, t < 64 → I 74 (64 * (i + 1) + t) = eI (tr_V tr_fM W r B ls (tr_U t))
def tr_by (W : Nat → Nat → Nat) (r : Nat → Nat) (B : Nat) (ls : List Nat) (t l c : Nat) : Int := if t.testBit c = false ∧ r l ≤ W c l then 16 * ((W c l - r l : Nat) : Int) + 1 + tr_V tr_fM W r B ls (tr_rm (tr_U t) c) else -1
theorem by_ok {I : IT} {s B : Nat} {W : Nat → Nat → Nat} {r : Nat → Nat} {m i l : Nat} {ls : List Nat} (h : tr_Rw I s B W r m i l ls) {t c : Nat} (ht : t < 64) (hc : c < B) : f_X10_byBuyer (nI i) (nI t) (nI c) I = some (eI (tr_by W r B ls t l c)) := by
  obtain ⟨⟨⟨-, -, h1, h2⟩, h3, h4⟩, e1, e2, e3, e4, e5, e6, e7⟩ := h
  obtain ⟨a1, a2⟩ := h3 l e5
  obtain ⟨b1, b2⟩ := h4 c l hc e5
  obtain ⟨o1, o2⟩ := or_ok t ht c (by omega)
  have hb := bit_ok t ht c (by omega)
  unfold f_X10_byBuyer f_X10_has tr_by
  rw [if_pos (inb_nI (show i < 7 by omega) (by omega)), nI_clamp (by omega), e4, i6', if_pos (inb_nI (show 6 * c + l < 36 by omega) (by omega)), if_pos (inb_nI (show l < 6 by omega) (by omega)), nI_clamp (by omega), nI_clamp (by omega), a1, b1, o1, Option.bind_some]
  by_cases q : t.testBit c = true
  · rw [if_pos (hb.mpr q), Option.bind_some, if_neg (by decide), if_neg (by rw [q]; simp)]
    rfl
  · have q' : t.testBit c = false := by simpa using q
    rw [if_neg (fun w => q (hb.mp w)), Option.bind_some, if_pos rfl]
    by_cases q2 : r l ≤ W c l
    · rw [if_pos ((sub_neg b2 a2).mpr q2), nI_1, show (64 : Int32) = nI 64 from rfl, pk_mul, nI_add, if_pos (inb_nI (show 64 * (i + 1) + (t ||| 2 ^ c) < 512 by omega) (by omega)), if_pos ⟨q', q2⟩, nI_clamp (by omega), e7 _ o2, pk_sub q2, show (16 : Int32) = nI 16 from rfl, pk_mul, nI_1, nI_eI, eI_add, rm_U t (by omega)]
      rfl
    · rw [if_neg (fun w => q2 ((sub_neg b2 a2).mp w)), if_neg (fun w => q2 w.2)]
      rfl
theorem tr_Rw.by_bd {I : IT} {s B : Nat} {W : Nat → Nat → Nat} {r : Nat → Nat} {m i l : Nat} {ls : List Nat} (h : tr_Rw I s B W r m i l ls) (t : Nat) {c : Nat} (hc : c < B) : -1 ≤ tr_by W r B ls t l c ∧ tr_by W r B ls t l c ≤ 300000 := by
  have b2 := (h.1.2.2 c l hc h.2.2.2.2.2.1).2
  have := h.1.bd h.2.2.2.2.2.2.1 (by omega) (tr_rm (tr_U t) c)
  unfold tr_by
  split <;> omega
theorem tr_top_M {W : Nat → Nat → Nat} {r : Nat → Nat} {B : Nat} {ls : List Nat} {t l j : Nat} (h : 0 ≤ tr_top tr_fM W r (tr_U t) l (fun c => tr_V tr_fM W r B ls (tr_rm (tr_U t) c)) j) : tr_top tr_fM W r (tr_U t) l (fun c => tr_V tr_fM W r B ls (tr_rm (tr_U t) c)) (j + 1) = if tr_by W r B ls t l j ≤ tr_top tr_fM W r (tr_U t) l (fun c => tr_V tr_fM W r B ls (tr_rm (tr_U t) c)) j then tr_top tr_fM W r (tr_U t) l (fun c => tr_V tr_fM W r B ls (tr_rm (tr_U t) c)) j else tr_by W r B ls t l j := by
  rw [tr_top]
  unfold tr_by
  have e : tr_U t j = true ↔ t.testBit j = false := by simp [tr_U]
  have e2 : tr_fM (W j l - r l) 1 (j * tr_pl l) = 16 * ((W j l - r l : Nat) : Int) + 1 := rfl
  rw [e2]
  by_cases q : t.testBit j = false ∧ r l ≤ W j l
  · rw [if_pos q]
    by_cases q2 : tr_top tr_fM W r (tr_U t) l (fun c => tr_V tr_fM W r B ls (tr_rm (tr_U t) c)) j < tr_V tr_fM W r B ls (tr_rm (tr_U t) j) + (16 * ((W j l - r l : Nat) : Int) + 1)
    · rw [if_pos ⟨e.mpr q.1, q.2, q2⟩, if_neg (by omega)]
      omega
    · rw [if_neg (fun w => q2 w.2.2), if_pos (by omega)]
  · rw [if_neg q, if_neg (fun w => q ⟨e.mp w.1, w.2.1⟩), if_pos (by omega)]
theorem tr_top_nn {I : IT} {s B : Nat} {W : Nat → Nat → Nat} {r : Nat → Nat} {m i l : Nat} {ls : List Nat} (h : tr_Rw I s B W r m i l ls) (t : Nat) {j : Nat} (hj : j ≤ B) : 0 ≤ tr_top tr_fM W r (tr_U t) l (fun c => tr_V tr_fM W r B ls (tr_rm (tr_U t) c)) j ∧ tr_top tr_fM W r (tr_U t) l (fun c => tr_V tr_fM W r B ls (tr_rm (tr_U t) c)) j ≤ 300000 := by
  induction j with
  | zero =>
    have := h.1.bd h.2.2.2.2.2.2.1 (by omega) (tr_rm (tr_U t) 6)
    rw [tr_top, show tr_fM 0 0 (6 * tr_pl l) = 0 from rfl]
    omega
  | succ j ih =>
    have h1 := ih (by omega)
    have h2 := h.by_bd t (show j < B by omega)
    rw [tr_top_M h1.1]
    split <;> omega
theorem fr46_ok {I : IT} {s B : Nat} {W : Nat → Nat → Nat} {r : Nat → Nat} {m i l : Nat} {ls : List Nat} (h : tr_Rw I s B W r m i l ls) {t : Nat} (ht : t < 64) : ∀ d n j, j + d = B → d < n → f_X10_findRest_46 n (nI i) (nI t) (eI (tr_top tr_fM W r (tr_U t) l (fun c => tr_V tr_fM W r B ls (tr_rm (tr_U t) c)) j)) (nI j) I = some (eI (tr_V tr_fM W r B (l :: ls) (tr_U t))) := by
  intro d
  have h6 := h.1.1
  have h7 := h.2
  induction d with
  | zero =>
    intro n j hj hn
    obtain ⟨n, rfl⟩ : ∃ m, n = m + 1 := ⟨n - 1, by omega⟩
    obtain rfl : j = B := by omega
    rw [f_X10_findRest_46, h6.2.1, if_pos (nI_le (Nat.le_refl _) (by omega)), tr_V]
  | succ d ih =>
    intro n j hj hn
    obtain ⟨n, rfl⟩ : ∃ m, n = m + 1 := ⟨n - 1, by omega⟩
    have ih' := ih n (j + 1) (by omega) (by omega)
    have b1 := tr_top_nn h t (show j ≤ B by omega)
    have b2 := h.by_bd t (show j < B by omega)
    rw [tr_top_M b1.1] at ih'
    rw [f_X10_findRest_46, h6.2.1, if_neg (by rw [nI_leI (by omega) (by omega)]; omega), h7.1, if_neg (by rw [nI_leI (by omega) (by omega)]; omega), by_ok h ht (show j < B by omega), Option.bind_some, nI_1]
    rw [← ih']
    by_cases q : tr_by W r B ls t l j ≤ tr_top tr_fM W r (tr_U t) l (fun c => tr_V tr_fM W r B ls (tr_rm (tr_U t) c)) j
    · rw [if_pos ((eI_le (by omega) (by omega) (by omega) (by omega)).mpr q), if_pos q]
    · rw [if_neg (fun w => q ((eI_le (by omega) (by omega) (by omega) (by omega)).mp w)), if_neg q]
theorem tr_Im.fr {I I' : IT} {s B : Nat} {W : Nat → Nat → Nat} {r : Nat → Nat} (h : tr_Im I s B W r) (h1 : I' 55 0 = I 55 0) (h2 : I' 55 1 = I 55 1) (h3 : I' 56 = I 56) (h4 : I' 58 = I 58) : tr_Im I' s B W r := by
  unfold tr_Im; rw [h1, h2, h3, h4]; exact h
theorem fr11_ok {s B : Nat} {W : Nat → Nat → Nat} {r : Nat → Nat} {m i l : Nat} {ls : List Nat} : ∀ d n t I, tr_Rw I s B W r m i l ls → t + d = 64 → d < n → ∃ I', f_X10_findRest_11 n (nI i) (nI t) I = some I' ∧ (∀ c, c ≠ 74 → I' c = I c) ∧ (∀ j, (j < 64 * i + t ∨ 64 * i + 64 ≤ j) → I' 74 j = I 74 j) ∧ ∀ t', t ≤ t' → t' < 64 → I' 74 (64 * i + t') = eI (tr_V tr_fM W r B (l :: ls) (tr_U t')) := by
  intro d
  induction d with
  | zero =>
    intro n t I h hj hn
    obtain ⟨n, rfl⟩ : ∃ m, n = m + 1 := ⟨n - 1, by omega⟩
    rw [f_X10_findRest_11, if_pos (by rw [show (64 : Int32) = nI 64 from rfl, nI_leI (by omega) (by omega)]; omega)]
    exact ⟨I, rfl, fun _ _ => rfl, fun _ _ => rfl, fun t' h1 h2 => by omega⟩
  | succ d ih =>
    intro n t I h hj hn
    obtain ⟨n, rfl⟩ : ∃ m, n = m + 1 := ⟨n - 1, by omega⟩
    have h0 := h
    obtain ⟨h1, e1, e2, e3, e4, e5, e6, e7⟩ := h0
    have h6 := h1.1
    have k0 := fr46_ok h (show t < 64 by omega) B FU 0 (by omega) (by unfold FU; omega)
    rw [nI_0, tr_top, tr_rm6, show tr_fM 0 0 (6 * tr_pl l) = 0 from rfl, Int.add_zero] at k0
    have hr : tr_Rw (upI I 74 (64 * i + t) (eI (tr_V tr_fM W r B (l :: ls) (tr_U t)))) s B W r m i l ls := by
      refine ⟨h1.fr (by rw [upI_o (by decide)]) (by rw [upI_o (by decide)]) (upI_o (by decide)) (upI_o (by decide)), by rw [upI_o (by decide)]; exact e1, e2, e3, by rw [upI_o (by decide)]; exact e4, e5, e6, ?_⟩
      intro t' ht'
      rw [upI_j (by omega)]; exact e7 t' ht'
    obtain ⟨I', a1, a2, a3, a4⟩ := ih n (t + 1) _ hr (by omega) (by omega)
    refine ⟨I', ?_, fun c hc => by rw [a2 c hc, upI_o hc], fun j hj => by rw [a3 j (by omega), upI_j (by omega)], fun t' q1 q2 => ?_⟩
    · rw [f_X10_findRest_11, if_neg (by rw [show (64 : Int32) = nI 64 from rfl, nI_leI (by omega) (by omega)]; omega), e1, if_neg (by rw [nI_eq (by omega) (by omega)]; omega), nI_1, show (64 : Int32) = nI 64 from rfl, pk_mul, nI_add, if_pos (inb_nI (show 64 * (i + 1) + t < 512 by omega) (by omega)), nI_clamp (by omega), e7 t (by omega), k0, Option.bind_some, pk_mul, nI_add, if_pos (inb_nI (show 64 * i + t < 512 by omega) (by omega)), nI_clamp (by omega), nI_1, a1]
    · by_cases q : t' = t
      · subst q; rw [a3 _ (by omega), upI_s]
      · exact a4 t' (by omega) q2
theorem fr11_end {s B : Nat} {W : Nat → Nat → Nat} {r : Nat → Nat} {m : Nat} (hm : m ≤ 7) : ∀ d n t I, tr_Im I s B W r → I 55 37 = nI m → t + d = 64 → d < n → ∃ I', f_X10_findRest_11 n (nI m) (nI t) I = some I' ∧ (∀ c, c ≠ 74 → I' c = I c) ∧ (∀ j, (j < 64 * m + t ∨ 64 * m + 64 ≤ j) → I' 74 j = I 74 j) ∧ ∀ t', t ≤ t' → t' < 64 → I' 74 (64 * m + t') = 0 := by
  intro d
  induction d with
  | zero =>
    intro n t I h e1 hj hn
    obtain ⟨n, rfl⟩ : ∃ m, n = m + 1 := ⟨n - 1, by omega⟩
    rw [f_X10_findRest_11, if_pos (by rw [show (64 : Int32) = nI 64 from rfl, nI_leI (by omega) (by omega)]; omega)]
    exact ⟨I, rfl, fun _ _ => rfl, fun _ _ => rfl, fun t' h1 h2 => by omega⟩
  | succ d ih =>
    intro n t I h e1 hj hn
    obtain ⟨n, rfl⟩ : ∃ m, n = m + 1 := ⟨n - 1, by omega⟩
    have h6 := h.1
    have k0 : f_X10_findRest_46 FU (nI m) (nI t) 0 0 I = some 0 := by
      rw [show FU = 99999 + 1 from rfl, f_X10_findRest_46, e1, if_pos (Int32.le_refl (nI m))]
      split <;> rfl
    obtain ⟨I', a1, a2, a3, a4⟩ := ih n (t + 1) (upI I 74 (64 * m + t) 0) (h.fr (by rw [upI_o (by decide)]) (by rw [upI_o (by decide)]) (upI_o (by decide)) (upI_o (by decide))) (by rw [upI_o (by decide)]; exact e1) (by omega) (by omega)
    refine ⟨I', ?_, fun c hc => by rw [a2 c hc, upI_o hc], fun j hj => by rw [a3 j (by omega), upI_j (by omega)], fun t' q1 q2 => ?_⟩
    · rw [f_X10_findRest_11, if_neg (by rw [show (64 : Int32) = nI 64 from rfl, nI_leI (by omega) (by omega)]; omega), e1, if_pos rfl, k0, Option.bind_some, show (64 : Int32) = nI 64 from rfl, pk_mul, nI_add, if_pos (inb_nI (show 64 * m + t < 512 by omega) (by omega)), nI_clamp (by omega), nI_1, a1]
    · by_cases q : t' = t
      · subst q; rw [a3 _ (by omega), upI_s]
      · exact a4 t' (by omega) q2
/-- the reference's row of lots is L -/
def tr_Lr (I : IT) (s : Nat) (L : List Nat) : Prop := I 55 37 = nI L.length ∧ L.length ≤ 7 ∧ ∀ i l, L[i]? = some l → I 73 i = nI l ∧ l < s
theorem fr5_ok {s B : Nat} {W : Nat → Nat → Nat} {r : Nat → Nat} {L : List Nat} : ∀ i n I, tr_Im I s B W r → tr_Lr I s L → i ≤ L.length → i < n → (∀ i', i ≤ i' → i' ≤ L.length → ∀ t, t < 64 → I 74 (64 * i' + t) = eI (tr_V tr_fM W r B (L.drop i') (tr_U t))) → ∃ I', f_X10_findRest_5 n (nI i - 1) I = some I' ∧ (∀ c, c ≠ 74 → I' c = I c) ∧ ∀ i', i' ≤ L.length → ∀ t, t < 64 → I' 74 (64 * i' + t) = eI (tr_V tr_fM W r B (L.drop i') (tr_U t)) := by
  intro i
  induction i with
  | zero =>
    intro n I h hL hi hn hr
    obtain ⟨n, rfl⟩ : ∃ m, n = m + 1 := ⟨n - 1, by omega⟩
    rw [f_X10_findRest_5, if_pos (by decide)]
    exact ⟨I, rfl, fun _ _ => rfl, fun i' h1 => hr i' (by omega) h1⟩
  | succ i ih =>
    intro n I h hL hi hn hr
    obtain ⟨n, rfl⟩ : ∃ m, n = m + 1 := ⟨n - 1, by omega⟩
    have hl := hL.2.1
    have e0 : L[i]? = some L[i] := List.getElem?_eq_getElem (by omega)
    have e1 := hL.2.2 i _ e0
    have e2 : L.drop i = L[i] :: L.drop (i + 1) := List.drop_eq_getElem_cons (by omega)
    have hw : tr_Rw I s B W r L.length i L[i] (L.drop (i + 1)) := by
      refine ⟨h, hL.1, hl, by omega, e1.1, e1.2, ⟨?_, by rw [List.length_drop]; omega⟩, fun t ht => hr (i + 1) (by omega) (by omega) t ht⟩
      intro l hm
      obtain ⟨j, hj⟩ := List.getElem?_of_mem (List.mem_of_mem_drop hm)
      exact (hL.2.2 j l hj).2
    obtain ⟨I1, a1, a2, a3, a4⟩ := fr11_ok 64 FU 0 I hw (by omega) (by unfold FU; omega)
    obtain ⟨I', b1, b2, b3⟩ := ih n I1 (h.fr (by rw [a2 _ (by decide)]) (by rw [a2 _ (by decide)]) (a2 _ (by decide)) (a2 _ (by decide))) ⟨by rw [a2 _ (by decide)]; exact hL.1, hl, fun i' l hi' => by rw [a2 _ (by decide)]; exact hL.2.2 i' l hi'⟩ (by omega) (by omega) (fun i' h1 h2 t ht => by
      by_cases q : i' = i
      · subst q; rw [a4 t (by omega) ht, e2]
      · rw [a3 _ (by omega)]; exact hr i' (by omega) h2 t ht)
    refine ⟨I', ?_, fun c hc => by rw [b2 c hc, a2 c hc], b3⟩
    rw [nI_0] at a1
    rw [f_X10_findRest_5, nI_pred, if_neg (nI_pos (by omega)), a1, Option.bind_some, show nI i + (-1) = nI i - 1 from by rw [Int32.sub_eq_add_neg], b1]
theorem fr_ok {I : IT} {s B : Nat} {W : Nat → Nat → Nat} {r : Nat → Nat} {L : List Nat} (h : tr_Im I s B W r) (hL : tr_Lr I s L) : ∃ I', f_X10_findRest I = some I' ∧ (∀ c, c ≠ 74 → I' c = I c) ∧ ∀ i', i' ≤ L.length → ∀ t, t < 64 → I' 74 (64 * i' + t) = eI (tr_V tr_fM W r B (L.drop i') (tr_U t)) := by
  have hl := hL.2.1
  obtain ⟨I1, a1, a2, a3, a4⟩ := fr11_end (s := s) (B := B) (W := W) (r := r) hl 64 FU 0 I h hL.1 (by omega) (by unfold FU; omega)
  obtain ⟨I', b1, b2, b3⟩ := fr5_ok (L := L) L.length 99999 I1 (h.fr (by rw [a2 _ (by decide)]) (by rw [a2 _ (by decide)]) (a2 _ (by decide)) (a2 _ (by decide))) ⟨by rw [a2 _ (by decide)]; exact hL.1, hl, fun i' l hi' => by rw [a2 _ (by decide)]; exact hL.2.2 i' l hi'⟩ (Nat.le_refl _) (by omega) (fun i' h1 h2 t ht => by
      obtain rfl : i' = L.length := by omega
      rw [a4 t (by omega) ht, List.drop_length]; rfl)
  refine ⟨I', ?_, fun c hc => by rw [b2 c hc, a2 c hc], b3⟩
  unfold f_X10_findRest
  rw [nI_0] at a1
  rw [hL.1, show FU = 99999 + 1 from rfl, f_X10_findRest_5, if_neg (nI_pos (by omega)), a1, Option.bind_some, show nI L.length + (-1) = nI L.length - 1 from by rw [Int32.sub_eq_add_neg], b1]
/-- the lots below i but for one -/
def tr_gl (wo : Nat) : Nat → List Nat
  | 0 => []
  | i + 1 => if i = wo then tr_gl wo i else tr_gl wo i ++ [i]
theorem tr_gl_ls (wo : Nat) : ∀ i, tr_ls (tr_gl wo i) i i := by
  intro i
  induction i with
  | zero => exact ⟨fun l h => absurd h (List.not_mem_nil), Nat.le_refl _⟩
  | succ i ih =>
    rw [tr_gl]
    split
    · exact ⟨fun l h => Nat.lt_succ_of_lt (ih.1 l h), Nat.le_succ_of_le ih.2⟩
    · refine ⟨fun l h => ?_, by rw [List.length_append, List.length_singleton]; have := ih.2; omega⟩
      rcases List.mem_append.mp h with h | h
      · exact Nat.lt_succ_of_lt (ih.1 l h)
      · rw [List.mem_singleton] at h; omega
theorem tr_Lr.push {I : IT} {s : Nat} {L : List Nat} (h : tr_Lr I s L) (h7 : L.length < 7) {l : Nat} (hl : l < s) : tr_Lr (upI (upI I 73 ((I 55 37).toNatClampNeg) (nI l)) 55 37 (((upI I 73 ((I 55 37).toNatClampNeg) (nI l)) 55 37) + 1)) s (L ++ [l]) := by
  obtain ⟨h1, h2, h3⟩ := h
  refine ⟨?_, by rw [List.length_append, List.length_singleton]; omega, ?_⟩
  · rw [upI_s, upI_o (by decide), h1, nI_1, List.length_append, List.length_singleton]
  · intro i l' hi
    rw [upI_o (by decide), h1, nI_clamp (by omega)]
    by_cases q : i < L.length
    · rw [List.getElem?_append_left q] at hi
      rw [upI_j (by omega)]
      exact h3 i l' hi
    · rw [List.getElem?_append_right (by omega)] at hi
      have : i - L.length = 0 := by
        have := (List.getElem?_eq_some_iff.mp hi).1
        rw [List.length_singleton] at this
        omega
      rw [this, List.getElem?_cons_zero, Option.some.injEq] at hi
      subst hi
      obtain rfl : i = L.length := by omega
      rw [upI_s]
      exact ⟨rfl, hl⟩
theorem gw7_ok {s B : Nat} {W : Nat → Nat → Nat} {r : Nat → Nat} {wo : Nat} {v2 : Int32} (h2 : ∀ i, i < 6 → (nI i = v2 ↔ i = wo)) (v1 : Int32) : ∀ d n i I, i + d = s → d < n → tr_Im I s B W r → tr_Lr I s (tr_gl wo i) → ∃ n' I', f_X10_gainWith_7 n v1 v2 (nI i) I = f_X10_gainWith_7 (n' + 1) v1 v2 (nI s) I' ∧ tr_Lr I' s (tr_gl wo s) ∧ (∀ c, c ≠ 55 → c ≠ 73 → I' c = I c) ∧ ∀ j, j ≠ 37 → I' 55 j = I 55 j := by
  intro d
  induction d with
  | zero =>
    intro n i I hi hn h hL
    obtain ⟨n, rfl⟩ : ∃ m, n = m + 1 := ⟨n - 1, by omega⟩
    obtain rfl : i = s := by omega
    exact ⟨n, I, rfl, hL, fun _ _ _ => rfl, fun _ _ => rfl⟩
  | succ d ih =>
    intro n i I hi hn h hL
    obtain ⟨n, rfl⟩ : ∃ m, n = m + 1 := ⟨n - 1, by omega⟩
    have h6 := h.1
    have g1 := tr_gl_ls wo i
    by_cases q : i = wo
    · obtain ⟨n', I', e1, e2, e3⟩ := ih n (i + 1) I (by omega) (by omega) h (by rw [tr_gl, if_pos q]; exact hL)
      refine ⟨n', I', ?_, e2, e3⟩
      rw [f_X10_gainWith_7, h6.1, if_neg (by rw [nI_leI (by omega) (by omega)]; omega), nI_1, e1, if_pos ((h2 i (by omega)).mpr q)]
    · have hp := hL.push (by have := g1.2; omega) (show i < s by omega)
      obtain ⟨n', I', e1, e2, e3, e4⟩ := ih n (i + 1) (upI (upI I 73 ((I 55 37).toNatClampNeg) (nI i)) 55 37 (((upI I 73 ((I 55 37).toNatClampNeg) (nI i)) 55 37) + 1)) (by omega) (by omega) (h.fr (by rw [upI_j (by decide), upI_o (by decide)]) (by rw [upI_j (by decide), upI_o (by decide)]) (by rw [upI_o (by decide), upI_o (by decide)]) (by rw [upI_o (by decide), upI_o (by decide)])) (by rw [tr_gl, if_neg q]; exact hp)
      refine ⟨n', I', ?_, e2, fun c h1 h2 => by rw [e3 c h1 h2, upI_o h1, upI_o h2], fun j hj => by rw [e4 j hj, upI_j hj, upI_o (by decide)]⟩
      rw [f_X10_gainWith_7, h6.1, if_neg (by rw [nI_leI (by omega) (by omega)]; omega), nI_1, if_neg (fun w => q ((h2 i (by omega)).mp w)), ← e1, if_pos (by rw [hL.1]; exact inb_nI (by have := g1.2; omega) (by omega))]
/-- what a row of lots gains -/
def tr_gn (W : Nat → Nat → Nat) (r : Nat → Nat) (B : Nat) (ls : List Nat) : Nat := (tr_V tr_fM W r B ls (tr_U 0)).toNat / 16
def tr_FM (I I' : IT) : Prop := (∀ c, c ≠ 55 → c ≠ 73 → c ≠ 74 → c ≠ 75 → I' c = I c) ∧ ∀ j, j ≠ 37 → I' 55 j = I 55 j
theorem tr_FM.rf (I : IT) : tr_FM I I := ⟨fun _ _ _ _ _ => rfl, fun _ _ => rfl⟩
theorem tr_FM.tr {I I' I'' : IT} (h : tr_FM I I') (h' : tr_FM I' I'') : tr_FM I I'' := ⟨fun c a b d e => (h'.1 c a b d e).trans (h.1 c a b d e), fun j hj => (h'.2 j hj).trans (h.2 j hj)⟩
theorem tr_FM.im {I I' : IT} {s B : Nat} {W : Nat → Nat → Nat} {r : Nat → Nat} (hF : tr_FM I I') (h : tr_Im I s B W r) : tr_Im I' s B W r := h.fr (hF.2 0 (by decide)) (hF.2 1 (by decide)) (hF.1 56 (by decide) (by decide) (by decide) (by decide)) (hF.1 58 (by decide) (by decide) (by decide) (by decide))
theorem gw_fin {I1 I2 : IT} {s B : Nat} {W : Nat → Nat → Nat} {r : Nat → Nat} {L : List Nat} (h : tr_Im I1 s B W r) (hL : tr_Lr I1 s L) (h3 : ∀ i', i' ≤ L.length → ∀ t, t < 64 → I2 74 (64 * i' + t) = eI (tr_V tr_fM W r B (L.drop i') (tr_U t))) : (I2 74 (0 : Int32).toNatClampNeg) / 16 = nI (tr_gn W r B L) ∧ tr_gn W r B L ≤ 20000 := by
  have e := h3 0 (by omega) 0 (by omega)
  have hl := hL.2.1
  have b := h.bd (ls := L) (m := 7) ⟨fun l hm => by
      obtain ⟨j, hj⟩ := List.getElem?_of_mem hm
      exact (hL.2.2 j l hj).2, hl⟩ (by omega) (tr_U 0)
  rw [List.drop_zero, Nat.mul_zero, Nat.add_zero] at e
  rw [show (0 : Int32).toNatClampNeg = 0 from rfl, e, eI_nI b.1, show (16 : Int32) = nI 16 from rfl, pk_div (by omega) (by omega) (by omega)]
  refine ⟨rfl, ?_⟩
  unfold tr_gn
  omega
theorem gw_ok {I : IT} {s B : Nat} {W : Nat → Nat → Nat} {r : Nat → Nat} (h : tr_Im I s B W r) {wo : Nat} {v2 : Int32} (h2 : ∀ i, i < 6 → (nI i = v2 ↔ i = wo)) : ∃ I', f_X10_gainWith (-1) v2 I = some (nI (tr_gn W r B (tr_gl wo s)), I') ∧ tr_Lr I' s (tr_gl wo s) ∧ (∀ i', i' ≤ (tr_gl wo s).length → ∀ t, t < 64 → I' 74 (64 * i' + t) = eI (tr_V tr_fM W r B ((tr_gl wo s).drop i') (tr_U t))) ∧ tr_FM I I' := by
  have h6 := h.1
  have h0 : tr_Im (upI I 55 37 0) s B W r := h.fr (upI_j (by decide)) (upI_j (by decide)) (upI_o (by decide)) (upI_o (by decide))
  obtain ⟨n', I1, e1, e2, e3, e4⟩ := gw7_ok (B := B) (W := W) (r := r) h2 (-1) s FU 0 (upI I 55 37 0) (by omega) (by unfold FU; omega) h0 ⟨by rw [upI_s]; rfl, by rw [tr_gl]; decide, fun i l hi => by rw [tr_gl] at hi; simp at hi⟩
  have h1 : tr_Im I1 s B W r := h0.fr (e4 0 (by decide)) (e4 1 (by decide)) (e3 _ (by decide) (by decide)) (e3 _ (by decide) (by decide))
  obtain ⟨I2, a1, a2, a3⟩ := fr_ok h1 e2
  have fin := gw_fin h1 e2 a3
  refine ⟨I2, ?_, ⟨by rw [a2 _ (by decide)]; exact e2.1, e2.2.1, fun i l hi => by rw [a2 _ (by decide)]; exact e2.2.2 i l hi⟩, a3, ⟨fun c c1 c2 c3 c4 => by rw [a2 c c3, e3 c c1 c2, upI_o c1], fun j hj => by rw [a2 _ (by decide), e4 j hj, upI_j hj]⟩⟩
  unfold f_X10_gainWith
  rw [nI_0] at e1
  rw [e1, f_X10_gainWith_7, h1.1.1, if_pos (nI_le (Nat.le_refl _) (by omega)), if_pos (by decide), a1, Option.bind_some, fin.1]
theorem gw2_ok {I : IT} {s B : Nat} {W : Nat → Nat → Nat} {r : Nat → Nat} (h : tr_Im I s B W r) {l : Nat} (hl : l < s) : ∃ I', f_X10_gainWith (nI l) (-1) I = some (nI (tr_gn W r B (tr_gl 9 s ++ [l])), I') ∧ tr_FM I I' := by
  have h6 := h.1
  have g1 := tr_gl_ls 9 s
  have h0 : tr_Im (upI I 55 37 0) s B W r := h.fr (upI_j (by decide)) (upI_j (by decide)) (upI_o (by decide)) (upI_o (by decide))
  obtain ⟨n', I1, e1, e2, e3, e4⟩ := gw7_ok (B := B) (W := W) (r := r) (v2 := -1) (wo := 9) (by decide) (nI l) s FU 0 (upI I 55 37 0) (by omega) (by unfold FU; omega) h0 ⟨by rw [upI_s]; rfl, by rw [tr_gl]; decide, fun i l hi => by rw [tr_gl] at hi; simp at hi⟩
  have h1 : tr_Im I1 s B W r := h0.fr (e4 0 (by decide)) (e4 1 (by decide)) (e3 _ (by decide) (by decide)) (e3 _ (by decide) (by decide))
  have hp := e2.push (by have := g1.2; omega) hl
  obtain ⟨I2, a1, a2, a3⟩ := fr_ok (I := upI (upI I1 73 ((I1 55 37).toNatClampNeg) (nI l)) 55 37 (((upI I1 73 ((I1 55 37).toNatClampNeg) (nI l)) 55 37) + 1)) (h1.fr (by rw [upI_j (by decide), upI_o (by decide)]) (by rw [upI_j (by decide), upI_o (by decide)]) (by rw [upI_o (by decide), upI_o (by decide)]) (by rw [upI_o (by decide), upI_o (by decide)])) hp
  have fin := gw_fin (I1 := upI (upI I1 73 ((I1 55 37).toNatClampNeg) (nI l)) 55 37 (((upI I1 73 ((I1 55 37).toNatClampNeg) (nI l)) 55 37) + 1)) (h1.fr (by rw [upI_j (by decide), upI_o (by decide)]) (by rw [upI_j (by decide), upI_o (by decide)]) (by rw [upI_o (by decide), upI_o (by decide)]) (by rw [upI_o (by decide), upI_o (by decide)])) hp a3
  refine ⟨I2, ?_, ⟨fun c c1 c2 c3 c4 => by rw [a2 c c3, upI_o c1, upI_o c2, e3 c c1 c2, upI_o c1], fun j hj => by rw [a2 _ (by decide), upI_j hj, upI_o (by decide), e4 j hj, upI_j hj]⟩⟩
  unfold f_X10_gainWith
  rw [nI_0] at e1
  rw [e1, f_X10_gainWith_7, h1.1.1, if_pos (nI_le (Nat.le_refl _) (by omega)), if_neg (nI_pos (by omega)), if_pos (by rw [e2.1]; exact inb_nI (by have := g1.2; omega) (by omega)), a1, Option.bind_some, fin.1]
