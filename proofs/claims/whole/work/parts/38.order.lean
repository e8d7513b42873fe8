def sumN (f : Nat → Nat) : Nat → Nat
  | 0 => 0
  | n + 1 => sumN f n + f n
theorem sumN_pig (f g : Nat → Nat) : ∀ n, (∀ t, t < n → 1 ≤ f t + g t) → n ≤ sumN f n + sumN g n := by
  intro n
  induction n with
  | zero => intro _; omega
  | succ n ih =>
    intro h
    have h1 := ih fun t ht => h t (by omega)
    have h2 := h n (by omega)
    simp only [sumN]
    omega
theorem sumN_c (f g : Nat → Nat) : ∀ n, (∀ t, t < n → f t = g t) → sumN f n = sumN g n := by
  intro n
  induction n with
  | zero => intro _; rfl
  | succ n ih =>
    intro h
    simp only [sumN]
    rw [ih fun t ht => h t (by omega), h n (by omega)]
theorem sumN_up (f g : Nat → Nat) (t0 : Nat) (h0 : g t0 = f t0 + 1) (h : ∀ t, t ≠ t0 → g t = f t) : ∀ n, sumN g n ≤ sumN f n + 1 := by
  have : ∀ n, (n ≤ t0 → sumN g n = sumN f n) ∧ (t0 < n → sumN g n = sumN f n + 1) := by
    intro n
    induction n with
    | zero => exact ⟨fun _ => rfl, fun q => absurd q (by omega)⟩
    | succ n ih =>
      simp only [sumN]
      refine ⟨fun q => ?_, fun q => ?_⟩
      · rw [ih.1 (by omega), h n (by omega)]
      · by_cases e : n = t0
        · subst e; rw [ih.1 (by omega), h0]; omega
        · rw [ih.2 (by omega), h n e]; omega
  intro n
  by_cases c : n ≤ t0
  · rw [(this n).1 c]; omega
  · rw [(this n).2 (by omega)]; omega
/-- both tables hold a; no more than h; -/
def Tab (Ix Im : IT) (N : Nat) (a : Nat → Nat → Nat) (h : Nat → Nat) : Prop := ∀ p t, p < N → t < 11 → Ix 49 (12 * p + t) = nI (a p t) ∧ Im 81 (14 * t + p) = nI (a p t) ∧ a p t ≤ h p
theorem i12 (p t : Nat) : nI p * 12 + nI t = nI (12 * p + t) := by rw [show (12 : Int32) = nI 12 from rfl, pk_mul, nI_add, Nat.mul_comm]
theorem i14 (p t : Nat) : 14 * nI t + nI p = nI (14 * t + p) := by rw [show (14 : Int32) = nI 14 from rfl, pk_mul, nI_add]
theorem handIn {I : IT} {p t : Nat} {h x : Nat} (hp : p < 14) (ht : t < 11) (h4 : I 4 p = nI h) (h49 : I 49 (12 * p + t) = nI x) (hh : h < 3) (hx : x ≤ h) : f_X3_hasHandIn (nI p) (nI t) I = some (if x = h then 0 else 1) := by
  unfold f_X3_hasHandIn
  rw [i12, if_pos (inb_nI (show 12 * p + t < 168 by omega) (by omega)), if_pos (inb_nI hp (by omega)), nI_clamp (by omega), nI_clamp (by omega), h4, h49]
  simp (disch := omega) only [nI_leI]
  by_cases d : x = h
  · rw [if_pos (by omega), if_pos d]
  · rw [if_neg (by omega), if_neg d]
theorem meet_go {I0 Ix Im : IT} {s b k : Nat} (h : RelM I0 s b k) (hx : ∀ c, c ≠ 49 → Ix c = I0 c) (hm : ∀ c, c ≠ 49 → c ≠ 81 → Im c = I0 c) {a : Nat → Nat → Nat} {hd : Nat → Nat} (hT : Tab Ix Im (s + b) a hd)
    (h4 : ∀ p, p < s + b → I0 4 p = nI (hd p) ∧ I0 60 p = nI (hd p) ∧ 1 ≤ hd p ∧ hd p ≤ 2) {l j : Nat} (hl : l < s) (hj : j < b) (hs : sumN (a l) 11 + sumN (a (s + j)) 11 ≤ 10) (v1 : Int32) :
    ∀ r n n' t, t + r = 11 → r < n → r < n' → (∀ t', t' < t → a l t' = hd l ∨ a (s + j) t' = hd (s + j)) →
    ∃ t0, t0 < 11 ∧ a l t0 < hd l ∧ a (s + j) t0 < hd (s + j) ∧ f_X3_meet_2 n (nI l) (nI (s + j)) (nI t) Ix = some (nI t0, upI (upI Ix 49 (12 * l + t0) (nI (a l t0 + 1))) 49 (12 * (s + j) + t0) (nI (a (s + j) t0 + 1))) ∧ f_X10_byOrder_56 n' v1 (nI l) (nI j) (nI t) Im = some (nI t0) := by
  obtain ⟨⟨e1, e2, e3, -⟩, -, ⟨m0, m1, -⟩, -⟩ := h
  intro r
  induction r with
  | zero =>
    intro n n' t h1 h2 h3 hb
    exfalso
    have := sumN_pig (a l) (a (s + j)) 11 fun t ht => by
      have q1 := (h4 l (by omega)).2.2.1
      have q2 := (h4 (s + j) (by omega)).2.2.1
      rcases hb t (by omega) with q | q <;> omega
    omega
  | succ r ih =>
    intro n n' t h1 h2 h3 hb
    obtain ⟨n, rfl⟩ : ∃ q, n = q + 1 := ⟨n - 1, by omega⟩
    obtain ⟨n', rfl⟩ : ∃ q, n' = q + 1 := ⟨n' - 1, by omega⟩
    obtain ⟨al, ml, bl⟩ := hT l t (by omega) (by omega)
    obtain ⟨aj, mj, bj⟩ := hT (s + j) t (by omega) (by omega)
    obtain ⟨hl1, hl2, hl3, hl4⟩ := h4 l (by omega)
    obtain ⟨hj1, hj2, hj3, hj4⟩ := h4 (s + j) (by omega)
    have c11 : ¬ (11 : Int32) ≤ nI t := by rw [show (11 : Int32) = nI 11 from rfl, nI_leI (by omega) (by omega)]; omega
    have k1 := handIn (I := Ix) (show l < 14 by omega) (show t < 11 by omega) (by rw [hx 4 (by decide)]; exact hl1) al (by omega) bl
    have k2 := handIn (I := Ix) (show s + j < 14 by omega) (show t < 11 by omega) (by rw [hx 4 (by decide)]; exact hj1) aj (by omega) bj
    rw [f_X3_meet_2, f_X10_byOrder_56, if_neg c11, k1, k2, nI_1, i14, if_pos (inb_nI (show 14 * t + l < 504 by omega) (by omega)), if_pos (inb_nI (show l < 14 by omega) (by omega)), nI_clamp (show 14 * t + l < 2 ^ 31 by omega), nI_clamp (show l < 2 ^ 31 by omega), ml, hm 60 (by decide) (by decide), hl2, hm 55 (by decide) (by decide), m0, i14, nI_add, nI_add, if_pos (inb_nI (show 14 * t + s + j < 504 by omega) (by omega)), if_pos (inb_nI (show s + j < 14 by omega) (by omega)), nI_clamp (show 14 * t + s + j < 2 ^ 31 by omega), nI_clamp (show s + j < 2 ^ 31 by omega), show 14 * t + s + j = 14 * t + (s + j) by omega, mj, hj2]
    simp (disch := omega) only [nI_eq]
    simp only [Option.bind_some]
    by_cases d : a l t = hd l
    · rw [if_pos d, if_pos rfl, if_pos d]
      exact ih n n' (t + 1) (by omega) (by omega) (by omega) fun t' ht' => by
        by_cases e : t' = t
        · subst e; exact Or.inl d
        · exact hb t' (by omega)
    · rw [if_neg d, if_neg (show ¬ (1 : Int32) = 0 by decide), if_neg d]
      by_cases d2 : a (s + j) t = hd (s + j)
      · rw [if_pos d2, if_pos rfl, if_pos d2]
        exact ih n n' (t + 1) (by omega) (by omega) (by omega) fun t' ht' => by
          by_cases e : t' = t
          · subst e; exact Or.inr d2
          · exact hb t' (by omega)
      · rw [if_neg d2, if_neg (show ¬ (1 : Int32) = 0 by decide), if_neg d2]
        refine ⟨t, by omega, by omega, by omega, ?_, rfl⟩
        have ne : 12 * (s + j) + t ≠ 12 * l + t := by omega
        rw [i12, i12]
        simp only [inb_nI (show 12 * l + t < 168 by omega) (show 168 < 2 ^ 31 by omega), inb_nI (show 12 * (s + j) + t < 168 by omega) (show 168 < 2 ^ 31 by omega), if_true, nI_clamp (show 12 * l + t < 2 ^ 31 by omega), nI_clamp (show 12 * (s + j) + t < 2 ^ 31 by omega), al, nI_1]
        have e : (upI Ix 49 (12 * l + t) (nI (a l t + 1))) 49 (12 * (s + j) + t) = nI (a (s + j) t) := by
          simp only [upI, upd, if_true, if_neg ne, aj]
        rw [e, nI_1]
/-- counts -/
def Cnt (K s b l j : Nat) (a : Nat → Nat → Nat) : Prop := (∀ l', l' < s → l' = l → sumN (a l') K ≤ j) ∧ (∀ l', l' < s → l < l' → sumN (a l') K = 0) ∧ (∀ j', j' < b → sumN (a (s + j')) K ≤ if j' < j then l + 1 else l)
def upA (a : Nat → Nat → Nat) (p1 p2 t0 : Nat) : Nat → Nat → Nat := fun p t => if t = t0 ∧ (p = p1 ∨ p = p2) then a p t + 1 else a p t
theorem upA_sum {a : Nat → Nat → Nat} {p1 p2 t0 p : Nat} (hp : p = p1 ∨ p = p2) (K : Nat) : sumN (upA a p1 p2 t0 p) K ≤ sumN (a p) K + 1 :=
  sumN_up (a p) (upA a p1 p2 t0 p) t0 (if_pos ⟨rfl, hp⟩) (fun t ht => if_neg (fun q => ht q.1)) K
theorem upA_no {a : Nat → Nat → Nat} {p1 p2 t0 p : Nat} (h1 : p ≠ p1) (h2 : p ≠ p2) (K : Nat) : sumN (upA a p1 p2 t0 p) K = sumN (a p) K :=
  sumN_c _ _ K fun t _ => if_neg (fun q => q.2.elim h1 h2)
theorem tab_up {Ix Im : IT} {N : Nat} {a : Nat → Nat → Nat} {h : Nat → Nat} (hT : Tab Ix Im N a h) {p1 p2 t0 : Nat} (hp : p1 ≠ p2) (h1 : a p1 t0 < h p1) (h2 : a p2 t0 < h p2) (ht0 : t0 < 11) (n1 : p1 < 14) (n2 : p2 < 14) (hN : N ≤ 14) :
    Tab (upI (upI Ix 49 (12 * p1 + t0) (nI (a p1 t0 + 1))) 49 (12 * p2 + t0) (nI (a p2 t0 + 1))) (upI (upI Im 81 (14 * t0 + p1) (nI (a p1 t0 + 1))) 81 (14 * t0 + p2) (nI (a p2 t0 + 1))) N (upA a p1 p2 t0) h := by
  intro p t hpN ht
  obtain ⟨w1, w2, w3⟩ := hT p t hpN ht
  simp only [upI, upd, if_true, upA]
  by_cases et : t = t0
  · subst et
    by_cases e2 : p = p2
    · subst e2
      simp only [if_true, true_and, or_true]
      omega
    · by_cases e1 : p = p1
      · subst e1
        rw [if_neg (show ¬ 12 * p + t = 12 * p2 + t by omega), if_neg (show ¬ 14 * t + p = 14 * t + p2 by omega)]
        simp only [if_true, true_and, true_or]
        omega
      · rw [if_neg (show ¬ 12 * p + t = 12 * p2 + t by omega), if_neg (show ¬ 14 * t + p = 14 * t + p2 by omega), if_neg (show ¬ 12 * p + t = 12 * p1 + t by omega), if_neg (show ¬ 14 * t + p = 14 * t + p1 by omega), if_neg (show ¬ (t = t ∧ (p = p1 ∨ p = p2)) from fun q => q.2.elim e1 e2)]
        exact ⟨w1, w2, w3⟩
  · rw [if_neg (show ¬ 12 * p + t = 12 * p2 + t0 by omega), if_neg (show ¬ 14 * t + p = 14 * t0 + p2 by omega), if_neg (show ¬ 12 * p + t = 12 * p1 + t0 by omega), if_neg (show ¬ 14 * t + p = 14 * t0 + p1 by omega), if_neg (show ¬ (t = t0 ∧ (p = p1 ∨ p = p2)) from fun q => et q.1)]
    exact ⟨w1, w2, w3⟩
theorem cnt_up {K s b l j t0 : Nat} {a : Nat → Nat → Nat} (hl : l < s) (h : Cnt K s b l j a) : Cnt K s b l (j + 1) (upA a l (s + j) t0) := by
  obtain ⟨C1, C2, C3⟩ := h
  refine ⟨fun l' p1 p2 => ?_, fun l' p1 p2 => ?_, fun j' p => ?_⟩
  · subst p2
    have := upA_sum (a := a) (p1 := l') (p2 := s + j) (t0 := t0) (Or.inl rfl) K
    have := C1 l' p1 rfl
    omega
  · rw [upA_no (by omega) (by omega)]; exact C2 l' p1 p2
  · have q3 := C3 j' p
    by_cases ej : j' = j
    · subst ej
      have := upA_sum (a := a) (p1 := l) (p2 := s + j') (t0 := t0) (Or.inr rfl) K
      rw [if_neg (by omega)] at q3
      rw [if_pos (by omega)]
      omega
    · rw [upA_no (by omega) (by omega)]
      by_cases q : j' < j
      · rw [if_pos q] at q3; rw [if_pos (by omega)]; exact q3
      · rw [if_neg q] at q3; rw [if_neg (by omega)]; exact q3
theorem cnt_nx {K s b l j : Nat} {a : Nat → Nat → Nat} (h : Cnt K s b l j a) : Cnt K s b l (j + 1) a := by
  obtain ⟨C1, C2, C3⟩ := h
  refine ⟨fun l' p1 p2 => by have := C1 l' p1 p2; omega, C2, fun j' p => ?_⟩
  have := C3 j' p
  by_cases q : j' < j
  · rw [if_pos q] at this; rw [if_pos (by omega)]; omega
  · rw [if_neg q] at this
    by_cases q2 : j' < j + 1
    · rw [if_pos q2]; omega
    · rw [if_neg q2]; omega
theorem order_in {I0 : IT} {s b k : Nat} (h : RelM I0 s b k) {hd : Nat → Nat} (h4 : ∀ p, p < s + b → I0 4 p = nI (hd p) ∧ I0 60 p = nI (hd p) ∧ 1 ≤ hd p ∧ hd p ≤ 2) {l : Nat} (hl : l < s) :
    ∀ r n j (v1 : Int32) Ix Im a, j + r = b → r < n → (∀ c, c ≠ 49 → Ix c = I0 c) → (∀ c, c ≠ 49 → c ≠ 81 → Im c = I0 c) → Tab Ix Im (s + b) a hd → Cnt 11 s b l j a →
    ∃ q Ix' Im' a', f_X3_byOrder_25 n v1 (nI l) (nI j) Ix = some (q, Ix') ∧ f_X10_byOrder_36 n v1 (nI l) (nI j) Im = some (q, Im') ∧ (∀ c, c ≠ 49 → Ix' c = I0 c) ∧ (∀ c, c ≠ 49 → c ≠ 81 → Im' c = I0 c) ∧ Im' 49 = Im 49 ∧ Tab Ix' Im' (s + b) a' hd ∧ Cnt 11 s b l b a' := by
  have hM := h
  obtain ⟨⟨e1, e2, e3, -⟩, ⟨x0, x1, -⟩, ⟨m0, m1, -⟩, -⟩ := h
  intro r
  induction r with
  | zero =>
    intro n j v1 Ix Im a h1 h2 hx hm hT hC
    obtain ⟨n, rfl⟩ : ∃ q, n = q + 1 := ⟨n - 1, by omega⟩
    obtain rfl : j = b := by omega
    have c : nI j ≤ nI j := by rw [nI_leI (by omega) (by omega)]; omega
    rw [f_X3_byOrder_25, f_X10_byOrder_36, hx 3 (by decide), hm 55 (by decide) (by decide), x1, m1, if_pos c, if_pos c]
    exact ⟨_, _, _, a, rfl, rfl, hx, hm, rfl, hT, hC⟩
  | succ r ih =>
    intro n j v1 Ix Im a h1 h2 hx hm hT hC
    obtain ⟨n, rfl⟩ : ∃ q, n = q + 1 := ⟨n - 1, by omega⟩
    have c : ¬ nI b ≤ nI j := by rw [nI_leI (by omega) (by omega)]; omega
    rw [f_X3_byOrder_25, f_X10_byOrder_36, hx 3 (by decide), hm 55 (by decide) (by decide), x0, x1, m1, if_neg c, if_neg c, wantX hM (fun c p1 _ => hx c p1) hl (show j < b by omega), wantM hM hm hl (show j < b by omega), nI_1, nI_add]
    simp only [Option.bind_some]
    by_cases d : wv I0 l j = 0
    · rw [if_pos d, if_pos d]
      exact ih n (j + 1) v1 Ix Im a (by omega) (by omega) hx hm hT (cnt_nx hC)
    · rw [if_neg d, if_neg d]
      have s1 := hC.1 l hl rfl
      have s2 := hC.2.2 j (by omega)
      rw [if_neg (by omega)] at s2
      obtain ⟨t0, ht, b1, b2, g1, g2⟩ := meet_go hM hx hm hT h4 hl (show j < b by omega) (by omega) v1 11 FU FU 0 (by omega) (by unfold FU; omega) (by unfold FU; omega) (fun t' q => absurd q (by omega))
      obtain ⟨al, ml, bl⟩ := hT l t0 (by omega) ht
      obtain ⟨aj, mj, bj⟩ := hT (s + j) t0 (by omega) ht
      have hd1 := (h4 l (by omega)).2.2.2
      have hd2 := (h4 (s + j) (by omega)).2.2.2
      rw [nI_0] at g1 g2
      unfold f_X3_meet
      rw [g1, g2]
      simp only [Option.bind_some]
      have u55 : ∀ x, (upI Im 81 x (Im 81 x + 1)) 55 0 = nI s := fun x => by simp [upI, hm 55 (by decide) (by decide), m0]
      rw [i14]
      simp only [u55]
      rw [show (14 : Int32) * nI t0 + nI s + nI j = nI (14 * t0 + (s + j)) by rw [i14, nI_add, Nat.add_assoc]]
      simp only [inb_nI (show 14 * t0 + l < 504 by omega) (show 504 < 2 ^ 31 by omega), inb_nI (show 14 * t0 + (s + j) < 504 by omega) (show 504 < 2 ^ 31 by omega), if_true, nI_clamp (show 14 * t0 + l < 2 ^ 31 by omega), nI_clamp (show 14 * t0 + (s + j) < 2 ^ 31 by omega), ml, nI_1]
      have ne : 14 * t0 + (s + j) ≠ 14 * t0 + l := by omega
      have e : (upI Im 81 (14 * t0 + l) (nI (a l t0 + 1))) 81 (14 * t0 + (s + j)) = nI (a (s + j) t0) := by simp only [upI, upd, if_true, if_neg ne, mj]
      rw [e, nI_1]
      have mx : (if v1 < nI (t0 + 1) then nI (t0 + 1) else v1) = if nI (t0 + 1) ≤ v1 then v1 else nI (t0 + 1) := bh_max _ _
      rw [mx]
      have nx : ∀ v, ∃ q Ix' Im' a'', f_X3_byOrder_25 n v (nI l) (nI (j + 1)) (upI (upI Ix 49 (12 * l + t0) (nI (a l t0 + 1))) 49 (12 * (s + j) + t0) (nI (a (s + j) t0 + 1))) = some (q, Ix') ∧ f_X10_byOrder_36 n v (nI l) (nI (j + 1)) (upI (upI Im 81 (14 * t0 + l) (nI (a l t0 + 1))) 81 (14 * t0 + (s + j)) (nI (a (s + j) t0 + 1))) = some (q, Im') ∧ (∀ c, c ≠ 49 → Ix' c = I0 c) ∧ (∀ c, c ≠ 49 → c ≠ 81 → Im' c = I0 c) ∧ Im' 49 = Im 49 ∧ Tab Ix' Im' (s + b) a'' hd ∧ Cnt 11 s b l b a'' := by
        intro v
        obtain ⟨q, Ix', Im', a'', z1, z2, z3, z4, z5, z6, z7⟩ := ih n (j + 1) v (upI (upI Ix 49 (12 * l + t0) (nI (a l t0 + 1))) 49 (12 * (s + j) + t0) (nI (a (s + j) t0 + 1))) (upI (upI Im 81 (14 * t0 + l) (nI (a l t0 + 1))) 81 (14 * t0 + (s + j)) (nI (a (s + j) t0 + 1))) (upA a l (s + j) t0) (by omega) (by omega)
          (fun c hc => by simp [upI, hc, hx c hc]) (fun c hc hc' => by simp [upI, hc', hm c hc hc']) (tab_up hT (by omega) b1 b2 ht (by omega) (by omega) (by omega)) (cnt_up hl hC)
        exact ⟨q, Ix', Im', a'', z1, z2, z3, z4, by rw [z5]; simp [upI], z6, z7⟩
      by_cases dd : nI (t0 + 1) ≤ v1
      · rw [if_pos dd, if_pos dd]; exact nx _
      · rw [if_neg dd, if_neg dd]; exact nx _
theorem order_out {I0 : IT} {s b k : Nat} (h : RelM I0 s b k) {hd : Nat → Nat} (h4 : ∀ p, p < s + b → I0 4 p = nI (hd p) ∧ I0 60 p = nI (hd p) ∧ 1 ≤ hd p ∧ hd p ≤ 2) :
    ∀ r n l (v1 : Int32) Ix Im a, l + r = s → r < n → (∀ c, c ≠ 49 → Ix c = I0 c) → (∀ c, c ≠ 49 → c ≠ 81 → Im c = I0 c) → Tab Ix Im (s + b) a hd → Cnt 11 s b l 0 a →
    ∃ q Ix' Im', f_X3_byOrder_12 n v1 (nI l) Ix = some (q, Ix') ∧ f_X10_byOrder_26 n v1 (nI l) Im = some (q, Im') ∧ (∀ c, c ≠ 49 → Ix' c = I0 c) ∧ (∀ c, c ≠ 49 → c ≠ 81 → Im' c = I0 c) := by
  have hM := h
  obtain ⟨⟨e1, e2, e3, -⟩, ⟨x0, x1, -⟩, ⟨m0, m1, -⟩, -⟩ := h
  intro r
  induction r with
  | zero =>
    intro n l v1 Ix Im a h1 h2 hx hm hT hC
    obtain ⟨n, rfl⟩ : ∃ q, n = q + 1 := ⟨n - 1, by omega⟩
    obtain rfl : l = s := by omega
    have c : nI l ≤ nI l := by rw [nI_leI (by omega) (by omega)]; omega
    rw [f_X3_byOrder_12, f_X10_byOrder_26, hx 3 (by decide), hm 55 (by decide) (by decide), x0, m0, if_pos c, if_pos c]
    exact ⟨_, _, _, rfl, rfl, hx, hm⟩
  | succ r ih =>
    intro n l v1 Ix Im a h1 h2 hx hm hT hC
    obtain ⟨n, rfl⟩ : ∃ q, n = q + 1 := ⟨n - 1, by omega⟩
    have c : ¬ nI s ≤ nI l := by rw [nI_leI (by omega) (by omega)]; omega
    obtain ⟨q, Ix', Im', a', g1, g2, g3, g4, -, g6, g7⟩ := order_in hM h4 (show l < s by omega) b FU 0 v1 Ix Im a (by omega) (by unfold FU; omega) hx hm hT hC
    rw [nI_0] at g1 g2
    rw [f_X3_byOrder_12, f_X10_byOrder_26, hx 3 (by decide), hm 55 (by decide) (by decide), x0, m0, if_neg c, if_neg c, g1, g2, nI_1]
    simp only [Option.bind_some]
    refine ih n (l + 1) q Ix' Im' a' (by omega) (by omega) g3 g4 g6 ⟨fun l' p1 p2 => ?_, fun l' p1 p2 => g7.2.1 l' p1 (by omega), fun j' p => ?_⟩
    · have := g7.2.1 l' p1 (by omega)
      omega
    · have := g7.2.2 j' p
      rw [if_pos p] at this
      rw [if_neg (by omega)]
      exact this
theorem fill49 (v : Int32) : ∀ r n i (I : IT), i + r = 168 → r < n → ∃ I', f_J7_fill_53178_49_5 n v (nI i) 168 I = some I' ∧ (∀ c, c ≠ 49 → I' c = I c) ∧ (∀ j, j < i → I' 49 j = I 49 j) ∧ (∀ j, i ≤ j → j < 168 → I' 49 j = v) := by
  intro r
  induction r with
  | zero =>
    intro n i I h1 h2
    obtain ⟨n, rfl⟩ : ∃ q, n = q + 1 := ⟨n - 1, by omega⟩
    rw [f_J7_fill_53178_49_5, if_pos (by rw [show (168 : Int32) = nI 168 from rfl, nI_leI (by omega) (by omega)]; omega)]
    exact ⟨I, rfl, fun _ _ => rfl, fun _ _ => rfl, fun j p1 p2 => absurd p1 (by omega)⟩
  | succ r ih =>
    intro n i I h1 h2
    obtain ⟨n, rfl⟩ : ∃ q, n = q + 1 := ⟨n - 1, by omega⟩
    rw [f_J7_fill_53178_49_5, if_neg (by rw [show (168 : Int32) = nI 168 from rfl, nI_leI (by omega) (by omega)]; omega), if_pos (inb_nI (by omega) (by omega)), nI_1, nI_clamp (by omega)]
    obtain ⟨I', g1, g2, g3, g4⟩ := ih n (i + 1) (upI I 49 i v) (by omega) (by omega)
    refine ⟨I', g1, fun c hc => ?_, fun j hj => ?_, fun j p1 p2 => ?_⟩
    · rw [g2 c hc]; simp [upI, hc]
    · rw [g3 j (by omega)]; simp only [upI, upd, if_true, if_neg (show ¬ j = i by omega)]
    · by_cases e : j = i
      · subst e; rw [g3 j (by omega)]; simp only [upI, upd, if_true]
      · exact g4 j (by omega) p2
theorem fill81 : ∀ r n i (I : IT), i + r = 504 → r < n → ∃ I', f_X10_byOrder_2 n (nI i) I = f_X10_byOrder_26 FU 0 0 I' ∧ (∀ c, c ≠ 81 → I' c = I c) ∧ (∀ j, j < i → I' 81 j = I 81 j) ∧ (∀ j, i ≤ j → j < 504 → I' 81 j = 0) := by
  intro r
  induction r with
  | zero =>
    intro n i I h1 h2
    obtain ⟨n, rfl⟩ : ∃ q, n = q + 1 := ⟨n - 1, by omega⟩
    rw [f_X10_byOrder_2, if_pos (by rw [show (504 : Int32) = nI 504 from rfl, nI_leI (by omega) (by omega)]; omega)]
    exact ⟨I, rfl, fun _ _ => rfl, fun _ _ => rfl, fun j p1 p2 => absurd p1 (by omega)⟩
  | succ r ih =>
    intro n i I h1 h2
    obtain ⟨n, rfl⟩ : ∃ q, n = q + 1 := ⟨n - 1, by omega⟩
    rw [f_X10_byOrder_2, if_neg (by rw [show (504 : Int32) = nI 504 from rfl, nI_leI (by omega) (by omega)]; omega), if_pos (inb_nI (by omega) (by omega)), nI_1, nI_clamp (by omega)]
    obtain ⟨I', g1, g2, g3, g4⟩ := ih n (i + 1) (upI I 81 i 0) (by omega) (by omega)
    refine ⟨I', g1, fun c hc => ?_, fun j hj => ?_, fun j p1 p2 => ?_⟩
    · rw [g2 c hc]; simp [upI, hc]
    · rw [g3 j (by omega)]; simp only [upI, upd, if_true, if_neg (show ¬ j = i by omega)]
    · by_cases e : j = i
      · subst e; rw [g3 j (by omega)]; simp only [upI, upd, if_true]
      · exact g4 j (by omega) p2
theorem sumN_0 : ∀ n, sumN (fun _ => 0) n = 0 := by
  intro n
  induction n with
  | zero => rfl
  | succ n ih => simp only [sumN, ih]
theorem hands_n {I : IT} {s b k : Nat} (h : RelM I s b k) : ∃ hd : Nat → Nat, ∀ p, p < s + b → I 4 p = nI (hd p) ∧ I 60 p = nI (hd p) ∧ 1 ≤ hd p ∧ hd p ≤ 2 := by
  obtain ⟨-, -, -, -, -, hh, -⟩ := h
  refine ⟨fun p => if I 4 p = 1 then 1 else 2, fun p hp => ?_⟩
  obtain ⟨g1, g2⟩ := hh p (by omega)
  rcases g2 with g | g
  · have e : (if I 4 p = 1 then 1 else 2) = 1 := if_pos g
    show I 4 p = nI (if I 4 p = 1 then 1 else 2) ∧ I 60 p = nI (if I 4 p = 1 then 1 else 2) ∧ 1 ≤ (if I 4 p = 1 then 1 else 2) ∧ (if I 4 p = 1 then 1 else 2) ≤ 2
    rw [e, g1, g]; exact ⟨rfl, rfl, by decide, by decide⟩
  · have e : (if I 4 p = 1 then 1 else 2) = 2 := if_neg (by rw [g]; decide)
    show I 4 p = nI (if I 4 p = 1 then 1 else 2) ∧ I 60 p = nI (if I 4 p = 1 then 1 else 2) ∧ 1 ≤ (if I 4 p = 1 then 1 else 2) ∧ (if I 4 p = 1 then 1 else 2) ≤ 2
    rw [e, g1, g]; exact ⟨rfl, rfl, by decide, by decide⟩
theorem byOrder_ok {I : IT} {s b k : Nat} (h : RelM I s b k) : ∃ q I1 I2, f_X3_byOrder I = some (q, I1) ∧ f_X10_byOrder I1 = some (q, I2) ∧ (∀ c, c ≠ 49 → c ≠ 81 → I2 c = I c) := by
  have hM := h
  obtain ⟨⟨e1, e2, e3, -⟩, -⟩ := h
  obtain ⟨hd, h4⟩ := hands_n hM
  obtain ⟨Ix, x1, x2, -, x4⟩ := fill49 0 168 FU 0 I (by omega) (by unfold FU; omega)
  have run : ∀ Im : IT, (∀ c, c ≠ 49 → c ≠ 81 → Im c = I c) → (∀ j, j < 504 → Im 81 j = 0) → ∃ q I1 I2, f_X3_byOrder_12 FU 0 0 Ix = some (q, I1) ∧ f_X10_byOrder_26 FU 0 0 Im = some (q, I2) ∧ (∀ c, c ≠ 49 → I1 c = I c) ∧ (∀ c, c ≠ 49 → c ≠ 81 → I2 c = I c) := by
    intro Im p1 p2
    have := order_out hM h4 s FU 0 0 Ix Im (fun _ _ => 0) (by omega) (by unfold FU; omega) x2 p1
      (fun p t q1 q2 => ⟨by rw [x4 _ (by omega) (by omega)]; rfl, by rw [p2 _ (by omega)]; rfl, Nat.zero_le _⟩)
      ⟨fun _ _ _ => by rw [sumN_0]; omega, fun _ _ _ => sumN_0 11, fun _ _ => by rw [sumN_0]; omega⟩
    exact this
  obtain ⟨q0, I1, -, r1, -, r3, -⟩ := run (fun c => if c = 81 then fun _ => 0 else I c) (fun c _ hc => if_neg hc) (fun j _ => rfl)
  obtain ⟨Im, m1, m2, -, m4⟩ := fill81 504 FU 0 I1 (by omega) (by unfold FU; omega)
  obtain ⟨q, I1', I2, u1, u2, u3, u4⟩ := run Im (fun c p1 p2 => by rw [m2 c p2, r3 c p1]) (fun j hj => m4 j (by omega) hj)
  rw [r1] at u1
  obtain ⟨rfl, rfl⟩ : q0 = q ∧ I1 = I1' := by
    have := Option.some.inj u1
    exact ⟨congrArg Prod.fst this, congrArg Prod.snd this⟩
  refine ⟨q0, I1, I2, ?_, ?_, u4⟩
  · unfold f_X3_byOrder f_J7_fill_53178_49
    rw [nI_0] at x1
    rw [x1]
    exact r1
  · unfold f_X10_byOrder
    rw [nI_0] at m1
    rw [m1]
    exact u2
theorem op_meetings {I : IT} {J : JT} {s b k c w z : Nat} (h : RelA I J s b k c w z) (a1 : Int32) : ∃ r I1 I2, f_X9_meetings a1 I = some (r, I1) ∧ f_X10_meetings a1 I1 = some (r, I2) ∧ RelA I2 J s b k c w z := by
  unfold f_X9_meetings f_X10_meetings
  by_cases c0 : a1 = 0
  · obtain ⟨q, g1, g2⟩ := byHands_ok h.1
    refine ⟨q, I, I, ?_, ?_, h⟩
    · rw [if_pos c0, g1]; rfl
    · rw [if_pos c0, g2]; rfl
  · by_cases c1 : a1 = 1
    · obtain ⟨q, I1, I2, g1, g2, g3⟩ := byOrder_ok h.1
      refine ⟨q, I1, I2, ?_, ?_, ?_⟩
      · rw [if_neg c0, if_pos c1, g1]; rfl
      · rw [if_neg c0, if_pos c1, g2]; rfl
      · obtain ⟨hM, hC, hK, hW, hB, hT, hF, hS⟩ := h
        have fr : ∀ c, c ≠ 49 → c ≠ 81 → I2 c = I c := g3
        refine ⟨frameM hM (by simp +decide [fr]) (by simp +decide [fr]), frameC hC (by simp +decide [fr]) (by simp +decide [fr]), frameK hK (by simp +decide [fr]), frameW hW (by simp +decide [fr]) (by simp +decide [fr]), frameB hB (by simp +decide [fr]) (by simp +decide [fr]), frameT hT (by simp +decide [fr]) (by simp +decide [fr]), ?_, frameS hS (by simp +decide [fr]) rfl⟩
        rw [fr 55 (by decide) (by decide), fr 0 (by decide) (by decide)]
        exact hF
    · exact ⟨_, I, I, by rw [if_neg c0, if_neg c1], by rw [if_neg c0, if_neg c1], h⟩
