/-! the clauses: the reference -/
theorem into68 {I : IT} {T : Nat → Nat} {z i : Nat} (h : MS I T z i) (hi' : i ≤ 700) {lo hi : Nat} (hlo : lo ≤ 9999) (hhi : hi ≤ 9999) {e : Nat} (he : e < 6) : ∃ I', f_X10_into_68 (nI e) (nI lo) (nI hi) I = some (nI (nFlt T z lo hi i).1, I') ∧ (∀ c, c ≠ 55 → c ≠ 68 → I' c = I c) ∧ (∀ j, j ≠ e → I' 68 j = I 68 j) ∧ (∀ j, j ∉ [20, 21, 24, 25] → I' 55 j = I 55 j) ∧ MTx I' T z ∧ ((nFlt T z lo hi i).1 = 0 → MS I' T z (nEnd T z i) ∧ I' 68 e = nI (nVal T z i) ∧ I' 55 20 = I 55 20) ∧ ((nFlt T z lo hi i).1 ≠ 0 → I' 55 20 = nI (nFlt T z lo hi i).2) := by
  obtain ⟨I1, a1, a2, a3, a4, a5⟩ := msNum h hi' hlo hhi
  refine ⟨upI I1 68 e (I1 55 24), ?_, fun c c1 c2 => by rw [upI_o c2, a2.1 c c1], fun j hj => by rw [upI_j hj, a2.1 68 (by decide)], fun j hj => by rw [upI_o (by decide), a2.2 j hj], a3.fr (by rw [upI_o (by decide)]) (upI_o (by decide)), fun q => ?_, fun q => by rw [upI_o (by decide)]; exact a5 q⟩
  · unfold f_X10_into_68
    rw [a1, Option.bind_some, if_pos (inb_nI he (by omega)), nI_clamp (by omega)]
  · obtain ⟨b1, b2, b3⟩ := a4 q
    exact ⟨⟨b1.1.fr (by rw [upI_o (by decide)]) (upI_o (by decide)), by rw [upI_o (by decide)]; exact b1.2⟩, by rw [upI_s, b2], by rw [upI_o (by decide), b3]⟩
theorem into69 {I : IT} {T : Nat → Nat} {z i : Nat} (h : MS I T z i) (hi' : i ≤ 700) {lo hi : Nat} (hlo : lo ≤ 9999) (hhi : hi ≤ 9999) {e : Nat} (he : e < 6) : ∃ I', f_X10_into_69 (nI e) (nI lo) (nI hi) I = some (nI (nFlt T z lo hi i).1, I') ∧ (∀ c, c ≠ 55 → c ≠ 69 → I' c = I c) ∧ (∀ j, j ≠ e → I' 69 j = I 69 j) ∧ (∀ j, j ∉ [20, 21, 24, 25] → I' 55 j = I 55 j) ∧ MTx I' T z ∧ ((nFlt T z lo hi i).1 = 0 → MS I' T z (nEnd T z i) ∧ I' 69 e = nI (nVal T z i) ∧ I' 55 20 = I 55 20) ∧ ((nFlt T z lo hi i).1 ≠ 0 → I' 55 20 = nI (nFlt T z lo hi i).2) := by
  obtain ⟨I1, a1, a2, a3, a4, a5⟩ := msNum h hi' hlo hhi
  refine ⟨upI I1 69 e (I1 55 24), ?_, fun c c1 c2 => by rw [upI_o c2, a2.1 c c1], fun j hj => by rw [upI_j hj, a2.1 69 (by decide)], fun j hj => by rw [upI_o (by decide), a2.2 j hj], a3.fr (by rw [upI_o (by decide)]) (upI_o (by decide)), fun q => ?_, fun q => by rw [upI_o (by decide)]; exact a5 q⟩
  · unfold f_X10_into_69
    rw [a1, Option.bind_some, if_pos (inb_nI he (by omega)), nI_clamp (by omega)]
  · obtain ⟨b1, b2, b3⟩ := a4 q
    exact ⟨⟨b1.1.fr (by rw [upI_o (by decide)]) (upI_o (by decide)), by rw [upI_o (by decide)]; exact b1.2⟩, by rw [upI_s, b2], by rw [upI_o (by decide), b3]⟩
theorem into70 {I : IT} {T : Nat → Nat} {z i : Nat} (h : MS I T z i) (hi' : i ≤ 700) {lo hi : Nat} (hlo : lo ≤ 9999) (hhi : hi ≤ 9999) {e : Nat} (he : e < 36) : ∃ I', f_X10_into_70 (nI e) (nI lo) (nI hi) I = some (nI (nFlt T z lo hi i).1, I') ∧ (∀ c, c ≠ 55 → c ≠ 70 → I' c = I c) ∧ (∀ j, j ≠ e → I' 70 j = I 70 j) ∧ (∀ j, j ∉ [20, 21, 24, 25] → I' 55 j = I 55 j) ∧ MTx I' T z ∧ ((nFlt T z lo hi i).1 = 0 → MS I' T z (nEnd T z i) ∧ I' 70 e = nI (nVal T z i) ∧ I' 55 20 = I 55 20) ∧ ((nFlt T z lo hi i).1 ≠ 0 → I' 55 20 = nI (nFlt T z lo hi i).2) := by
  obtain ⟨I1, a1, a2, a3, a4, a5⟩ := msNum h hi' hlo hhi
  refine ⟨upI I1 70 e (I1 55 24), ?_, fun c c1 c2 => by rw [upI_o c2, a2.1 c c1], fun j hj => by rw [upI_j hj, a2.1 70 (by decide)], fun j hj => by rw [upI_o (by decide), a2.2 j hj], a3.fr (by rw [upI_o (by decide)]) (upI_o (by decide)), fun q => ?_, fun q => by rw [upI_o (by decide)]; exact a5 q⟩
  · unfold f_X10_into_70
    rw [a1, Option.bind_some, if_pos (inb_nI he (by omega)), nI_clamp (by omega)]
  · obtain ⟨b1, b2, b3⟩ := a4 q
    exact ⟨⟨b1.1.fr (by rw [upI_o (by decide)]) (upI_o (by decide)), by rw [upI_o (by decide)]; exact b1.2⟩, by rw [upI_s, b2], by rw [upI_o (by decide), b3]⟩
theorem into71 {I : IT} {T : Nat → Nat} {z i : Nat} (h : MS I T z i) (hi' : i ≤ 700) {lo hi : Nat} (hlo : lo ≤ 9999) (hhi : hi ≤ 9999) {e : Nat} (he : e < 2) : ∃ I', f_X10_into_71 (nI e) (nI lo) (nI hi) I = some (nI (nFlt T z lo hi i).1, I') ∧ (∀ c, c ≠ 55 → c ≠ 71 → I' c = I c) ∧ (∀ j, j ≠ e → I' 71 j = I 71 j) ∧ (∀ j, j ∉ [20, 21, 24, 25] → I' 55 j = I 55 j) ∧ MTx I' T z ∧ ((nFlt T z lo hi i).1 = 0 → MS I' T z (nEnd T z i) ∧ I' 71 e = nI (nVal T z i) ∧ I' 55 20 = I 55 20) ∧ ((nFlt T z lo hi i).1 ≠ 0 → I' 55 20 = nI (nFlt T z lo hi i).2) := by
  obtain ⟨I1, a1, a2, a3, a4, a5⟩ := msNum h hi' hlo hhi
  refine ⟨upI I1 71 e (I1 55 24), ?_, fun c c1 c2 => by rw [upI_o c2, a2.1 c c1], fun j hj => by rw [upI_j hj, a2.1 71 (by decide)], fun j hj => by rw [upI_o (by decide), a2.2 j hj], a3.fr (by rw [upI_o (by decide)]) (upI_o (by decide)), fun q => ?_, fun q => by rw [upI_o (by decide)]; exact a5 q⟩
  · unfold f_X10_into_71
    rw [a1, Option.bind_some, if_pos (inb_nI he (by omega)), nI_clamp (by omega)]
  · obtain ⟨b1, b2, b3⟩ := a4 q
    exact ⟨⟨b1.1.fr (by rw [upI_o (by decide)]) (upI_o (by decide)), by rw [upI_o (by decide)]; exact b1.2⟩, by rw [upI_s, b2], by rw [upI_o (by decide), b3]⟩
theorem into72 {I : IT} {T : Nat → Nat} {z i : Nat} (h : MS I T z i) (hi' : i ≤ 700) {lo hi : Nat} (hlo : lo ≤ 9999) (hhi : hi ≤ 9999) {e : Nat} (he : e < 14) : ∃ I', f_X10_into_72 (nI e) (nI lo) (nI hi) I = some (nI (nFlt T z lo hi i).1, I') ∧ (∀ c, c ≠ 55 → c ≠ 72 → I' c = I c) ∧ (∀ j, j ≠ e → I' 72 j = I 72 j) ∧ (∀ j, j ∉ [20, 21, 24, 25] → I' 55 j = I 55 j) ∧ MTx I' T z ∧ ((nFlt T z lo hi i).1 = 0 → MS I' T z (nEnd T z i) ∧ I' 72 e = nI (nVal T z i) ∧ I' 55 20 = I 55 20) ∧ ((nFlt T z lo hi i).1 ≠ 0 → I' 55 20 = nI (nFlt T z lo hi i).2) := by
  obtain ⟨I1, a1, a2, a3, a4, a5⟩ := msNum h hi' hlo hhi
  refine ⟨upI I1 72 e (I1 55 24), ?_, fun c c1 c2 => by rw [upI_o c2, a2.1 c c1], fun j hj => by rw [upI_j hj, a2.1 72 (by decide)], fun j hj => by rw [upI_o (by decide), a2.2 j hj], a3.fr (by rw [upI_o (by decide)]) (upI_o (by decide)), fun q => ?_, fun q => by rw [upI_o (by decide)]; exact a5 q⟩
  · unfold f_X10_into_72
    rw [a1, Option.bind_some, if_pos (inb_nI he (by omega)), nI_clamp (by omega)]
  · obtain ⟨b1, b2, b3⟩ := a4 q
    exact ⟨⟨b1.1.fr (by rw [upI_o (by decide)]) (upI_o (by decide)), by rw [upI_o (by decide)]; exact b1.2⟩, by rw [upI_s, b2], by rw [upI_o (by decide), b3]⟩
def JL : List Nat := [20, 21, 23, 24, 25, 26, 27, 28, 34, 35]
/-- what reading may change: the class's cells, the reference's -/
def FXc (I I' : IT) : Prop := ∀ c, c ≠ 7 → c ≠ 8 → c ≠ 9 → c ≠ 10 → c ≠ 11 → I' c = I c
def FMc (I I' : IT) : Prop := (∀ c, c ≠ 55 → c ≠ 68 → c ≠ 69 → c ≠ 70 → c ≠ 71 → c ≠ 72 → I' c = I c) ∧ ∀ j, j ∉ JL → I' 55 j = I 55 j
theorem FXc.rf (I : IT) : FXc I I := fun _ _ _ _ _ _ => rfl
theorem FXc.tr {I I' I'' : IT} (h : FXc I I') (h' : FXc I' I'') : FXc I I'' := fun c a b d e f => (h' c a b d e f).trans (h c a b d e f)
theorem FMc.rf (I : IT) : FMc I I := ⟨fun _ _ _ _ _ _ _ => rfl, fun _ _ => rfl⟩
theorem FMc.tr {I I' I'' : IT} (h : FMc I I') (h' : FMc I' I'') : FMc I I'' := ⟨fun c a b d e f g => (h'.1 c a b d e f g).trans (h.1 c a b d e f g), fun j hj => (h'.2 j hj).trans (h.2 j hj)⟩
theorem FR.xc {I I' : IT} (h : FR I I') : FXc I I' := fun c c7 _ _ _ _ => h.1 c c7
theorem FQ.mc {js : List Nat} {I I' : IT} (h : FQ js I I') (hs : ∀ j, j ∈ js → j ∈ JL) : FMc I I' := ⟨fun c c1 _ _ _ _ _ => h.1 c c1, fun j hj => h.2 j (fun q => hj (hs j q))⟩
theorem FMc.mt {I I' : IT} (h : FMc I I') {T : Nat → Nat} {z : Nat} (hc : MTx I T z) : MTx I' T z := hc.fr (h.2 19 (by decide)) (h.1 67 (by decide) (by decide) (by decide) (by decide) (by decide) (by decide))
/-- behind the numbers: the sign -/
def tcE (J : JT) (r : Int32 × IT) : Option (Int32 × IT × JT) :=
  if r.1 = 0 then
    (f_X10_here r.2).bind fun r184 =>
    if r184.1 = (59 : Int32) then
      some (r.1, upI r184.2 55 21 ((r184.2 55 21) + 1), J)
    else
      (f_X10_fails 1 (r184.2 55 21) r184.2).bind fun r198 =>
      some (r198.1, r198.2, J)
  else
    some (r.1, upI r.2 55 21 ((r.2 55 21) + 1), J)
theorem tcE_bad {J : JT} {I : IT} {y : Nat × Nat} (hy : ¬ y.1 = 0) (h4 : y.1 ≤ 4) (h20 : I 55 20 = nI y.2) : ∃ I', tcE J (nI y.1, I) = some (nI y.1, I', J) ∧ I' 55 20 = nI y.2 ∧ FQ [21] I I' := by
  unfold tcE
  dsimp only
  rw [if_neg (nI_ne0 (by omega) (by omega))]
  exact ⟨_, rfl, by rw [upI_j (by decide), h20], FQ.up I _ (by decide)⟩
theorem tcE_ok {J : JT} {I : IT} {T : Nat → Nat} {z i : Nat} (h : MS I T z i) (hi' : i ≤ 700) : ∃ I', tcE J (0, I) = some (nI (sFlt T z 59 i).1, I', J) ∧ FQ [20, 21] I I' ∧ ((sFlt T z 59 i).1 = 0 → MS I' T z (eB T z i + 1) ∧ I' 55 20 = I 55 20 ∧ eB T z i + 1 ≤ z) ∧ ((sFlt T z 59 i).1 ≠ 0 → I' 55 20 = nI (sFlt T z 59 i).2) := by
  obtain ⟨I1, a1, a2, a3, a4⟩ := msSgn h hi' (c := 59) (by omega)
  rw [show (nI 59 : Int32) = 59 from rfl] at a4
  unfold tcE
  dsimp only
  rw [if_pos rfl, a1, Option.bind_some]
  dsimp only
  by_cases q : (sFlt T z 59 i).1 = 0
  · rw [if_pos (a4.mpr q), q, a3.2, nI_1]
    have lt : eB T z i < z := by
      unfold sFlt sF at q
      dsimp only at q
      split at q
      · rename_i w; exact w.1
      · omega
    have f1 := (a2.mo (ks := [20, 21]) (by decide)).tr (FQ.up (js := [20, 21]) I1 (j := 21) (nI (eB T z i + 1)) (by decide))
    exact ⟨_, rfl, f1, fun _ => ⟨⟨f1.mt (by decide) h.1, upI_s⟩, by rw [upI_j (by decide), a2.2 20 (by decide)], by omega⟩, fun w => absurd rfl w⟩
  · have e1 : (sFlt T z 59 i).1 = 1 := by have := sF_le T z 59 (eB T z i); unfold sFlt at q ⊢; dsimp only at q ⊢; omega
    rw [if_neg (fun w => q (a4.mp w)), a3.2, e1]
    exact ⟨upI I1 55 20 (nI (eB T z i)), rfl, (a2.mo (ks := [20, 21]) (by decide)).tr (FQ.up (js := [20, 21]) I1 (j := 20) (nI (eB T z i)) (by decide)), fun w => absurd w (by omega), fun _ => upI_s⟩
theorem selM {I : IT} {T : Nat → Nat} {z i s : Nat} (h : MS I T z i) (hi' : i ≤ 500) (hz : z ≤ 500) (hs : s < 6) (h26 : I 55 26 = nI s) : ∃ I', f_X10_takeSeller I = some (nI (c2 (nFlt T z 0 999 i) (nFlt T z 1 2 (nEnd T z i))).1, I') ∧ FMc I I' ∧ (∀ c, c ≠ 55 → c ≠ 68 → c ≠ 72 → I' c = I c) ∧ (∀ j, j ≠ s → I' 68 j = I 68 j) ∧ (∀ j, j ≠ s → I' 72 j = I 72 j) ∧ (∀ j, j ∉ [20, 21, 24, 25, 26] → I' 55 j = I 55 j) ∧ ((c2 (nFlt T z 0 999 i) (nFlt T z 1 2 (nEnd T z i))).1 = 0 → MS I' T z (nEnd T z (nEnd T z i)) ∧ I' 68 (s) = nI (nVal T z i) ∧ I' 72 (s) = nI (nVal T z (nEnd T z i)) ∧ I' 55 26 = nI (s + 1) ∧ I' 55 20 = I 55 20) ∧ ((c2 (nFlt T z 0 999 i) (nFlt T z 1 2 (nEnd T z i))).1 ≠ 0 → I' 55 20 = nI (c2 (nFlt T z 0 999 i) (nFlt T z 1 2 (nEnd T z i))).2) := by
  have nb := nEnd_bd T z i
  obtain ⟨I1, a1, a2, a3, a4, a5, a6, a7⟩ := into68 h (by omega) (lo := 0) (hi := 999) (by omega) (by omega) (e := s) (by omega)
  have n1 : (nFlt T z 0 999 i).1 ≤ 2 := nF_le ..
  unfold f_X10_takeSeller
  rw [h26]
  rw [show (nI 0 : Int32) = 0 from rfl, show (nI 999 : Int32) = 999 from rfl] at a1
  rw [a1, Option.bind_some]
  dsimp only
  by_cases q : (nFlt T z 0 999 i).1 = 0
  · obtain ⟨b1, b2, b3⟩ := a6 q
    have s1 : I1 55 26 = nI s := by rw [a4 26 (by decide), h26]
    obtain ⟨I2, d1, d2, d3, d4, d5, d6, d7⟩ := into72 b1 (by omega) (lo := 1) (hi := 2) (by omega) (by omega) (e := s) (by omega)
    rw [show (nI 1 : Int32) = 1 from rfl, show (nI 2 : Int32) = 2 from rfl] at d1
    rw [c2_0 q, if_pos (by rw [q]; decide), s1, d1, Option.bind_some]
    dsimp only
    rw [show I2 55 26 = nI s from by rw [d4 26 (by decide), s1], nI_1]
    refine ⟨upI I2 55 26 (nI (s + 1)), rfl, ⟨fun c c1 c2 c3 c4 c5 c6 => by rw [upI_o c1, d2 c c1 c6, a2 c c1 c2], fun j hj => by rw [upI_j (show j ≠ 26 from fun e => hj (by rw [e]; decide)), d4 j (fun e => hj ((by decide : ∀ j ∈ [20, 21, 24, 25], j ∈ JL) j e)), a4 j (fun e => hj ((by decide : ∀ j ∈ [20, 21, 24, 25], j ∈ JL) j e))]⟩, fun c c1 c2 c3 => by rw [upI_o c1, d2 c c1 c3, a2 c c1 c2], fun j hj => by rw [upI_o (by decide), d2 68 (by decide) (by decide), a3 j hj], fun j hj => by rw [upI_o (by decide), d3 j hj, a2 72 (by decide) (by decide)], fun j hj => by rw [upI_j (show j ≠ 26 from fun e => hj (by rw [e]; decide)), d4 j (fun e => hj ((by decide : ∀ j ∈ [20, 21, 24, 25], j ∈ [20, 21, 24, 25, 26]) j e)), a4 j (fun e => hj ((by decide : ∀ j ∈ [20, 21, 24, 25], j ∈ [20, 21, 24, 25, 26]) j e))], fun w => ?_, fun w => ?_⟩
    · obtain ⟨g1, g2, g3⟩ := d6 w
      exact ⟨⟨g1.1.fr (by rw [upI_j (by decide)]) (upI_o (by decide)), by rw [upI_j (by decide)]; exact g1.2⟩, by rw [upI_o (by decide), d2 68 (by decide) (by decide), b2], by rw [upI_o (by decide), g2], upI_s, by rw [upI_j (by decide), g3, b3]⟩
    · rw [upI_j (by decide)]; exact d7 w
  · have s1 : I1 55 26 = nI s := by rw [a4 26 (by decide), h26]
    rw [c2_n q, if_neg (nI_nle (by omega) (by omega)), s1, nI_1]
    refine ⟨upI I1 55 26 (nI (s + 1)), rfl, ⟨fun c c1 c2 c3 c4 c5 c6 => by rw [upI_o c1, a2 c c1 c2], fun j hj => by rw [upI_j (show j ≠ 26 from fun e => hj (by rw [e]; decide)), a4 j (fun e => hj ((by decide : ∀ j ∈ [20, 21, 24, 25], j ∈ JL) j e))]⟩, fun c c1 c2 c3 => by rw [upI_o c1, a2 c c1 c2], fun j hj => by rw [upI_o (by decide), a3 j hj], fun j hj => by rw [upI_o (by decide), a2 72 (by decide) (by decide)], fun j hj => by rw [upI_j (show j ≠ 26 from fun e => hj (by rw [e]; decide)), a4 j (fun e => hj ((by decide : ∀ j ∈ [20, 21, 24, 25], j ∈ [20, 21, 24, 25, 26]) j e))], fun w => absurd w q, fun w => by rw [upI_j (by decide)]; exact a7 w⟩
theorem broM {I : IT} {T : Nat → Nat} {z i s : Nat} (h : MS I T z i) (hi' : i ≤ 500) (hz : z ≤ 500) (hs : s < 2) (h26 : I 55 28 = nI s) : ∃ I', f_X10_takeBroker I = some (nI (c2 (nFlt T z 1 2 i) (nFlt T z 0 50 (nEnd T z i))).1, I') ∧ FMc I I' ∧ (∀ c, c ≠ 55 → c ≠ 72 → c ≠ 71 → I' c = I c) ∧ (∀ j, j ≠ 12 + s → I' 72 j = I 72 j) ∧ (∀ j, j ≠ s → I' 71 j = I 71 j) ∧ (∀ j, j ∉ [20, 21, 24, 25, 28] → I' 55 j = I 55 j) ∧ ((c2 (nFlt T z 1 2 i) (nFlt T z 0 50 (nEnd T z i))).1 = 0 → MS I' T z (nEnd T z (nEnd T z i)) ∧ I' 72 (12 + s) = nI (nVal T z i) ∧ I' 71 (s) = nI (nVal T z (nEnd T z i)) ∧ I' 55 28 = nI (s + 1) ∧ I' 55 20 = I 55 20) ∧ ((c2 (nFlt T z 1 2 i) (nFlt T z 0 50 (nEnd T z i))).1 ≠ 0 → I' 55 20 = nI (c2 (nFlt T z 1 2 i) (nFlt T z 0 50 (nEnd T z i))).2) := by
  have nb := nEnd_bd T z i
  obtain ⟨I1, a1, a2, a3, a4, a5, a6, a7⟩ := into72 h (by omega) (lo := 1) (hi := 2) (by omega) (by omega) (e := 12 + s) (by omega)
  have n1 : (nFlt T z 1 2 i).1 ≤ 2 := nF_le ..
  unfold f_X10_takeBroker
  rw [h26, show (12 : Int32) = nI 12 from rfl, nI_add]
  rw [show (nI 1 : Int32) = 1 from rfl, show (nI 2 : Int32) = 2 from rfl] at a1
  rw [a1, Option.bind_some]
  dsimp only
  by_cases q : (nFlt T z 1 2 i).1 = 0
  · obtain ⟨b1, b2, b3⟩ := a6 q
    have s1 : I1 55 28 = nI s := by rw [a4 28 (by decide), h26]
    obtain ⟨I2, d1, d2, d3, d4, d5, d6, d7⟩ := into71 b1 (by omega) (lo := 0) (hi := 50) (by omega) (by omega) (e := s) (by omega)
    rw [show (nI 0 : Int32) = 0 from rfl, show (nI 50 : Int32) = 50 from rfl] at d1
    rw [c2_0 q, if_pos (by rw [q]; decide), s1, d1, Option.bind_some]
    dsimp only
    rw [show I2 55 28 = nI s from by rw [d4 28 (by decide), s1], nI_1]
    refine ⟨upI I2 55 28 (nI (s + 1)), rfl, ⟨fun c c1 c2 c3 c4 c5 c6 => by rw [upI_o c1, d2 c c1 c5, a2 c c1 c6], fun j hj => by rw [upI_j (show j ≠ 28 from fun e => hj (by rw [e]; decide)), d4 j (fun e => hj ((by decide : ∀ j ∈ [20, 21, 24, 25], j ∈ JL) j e)), a4 j (fun e => hj ((by decide : ∀ j ∈ [20, 21, 24, 25], j ∈ JL) j e))]⟩, fun c c1 c2 c3 => by rw [upI_o c1, d2 c c1 c3, a2 c c1 c2], fun j hj => by rw [upI_o (by decide), d2 72 (by decide) (by decide), a3 j hj], fun j hj => by rw [upI_o (by decide), d3 j hj, a2 71 (by decide) (by decide)], fun j hj => by rw [upI_j (show j ≠ 28 from fun e => hj (by rw [e]; decide)), d4 j (fun e => hj ((by decide : ∀ j ∈ [20, 21, 24, 25], j ∈ [20, 21, 24, 25, 28]) j e)), a4 j (fun e => hj ((by decide : ∀ j ∈ [20, 21, 24, 25], j ∈ [20, 21, 24, 25, 28]) j e))], fun w => ?_, fun w => ?_⟩
    · obtain ⟨g1, g2, g3⟩ := d6 w
      exact ⟨⟨g1.1.fr (by rw [upI_j (by decide)]) (upI_o (by decide)), by rw [upI_j (by decide)]; exact g1.2⟩, by rw [upI_o (by decide), d2 72 (by decide) (by decide), b2], by rw [upI_o (by decide), g2], upI_s, by rw [upI_j (by decide), g3, b3]⟩
    · rw [upI_j (by decide)]; exact d7 w
  · have s1 : I1 55 28 = nI s := by rw [a4 28 (by decide), h26]
    rw [c2_n q, if_neg (nI_nle (by omega) (by omega)), s1, nI_1]
    refine ⟨upI I1 55 28 (nI (s + 1)), rfl, ⟨fun c c1 c2 c3 c4 c5 c6 => by rw [upI_o c1, a2 c c1 c6], fun j hj => by rw [upI_j (show j ≠ 28 from fun e => hj (by rw [e]; decide)), a4 j (fun e => hj ((by decide : ∀ j ∈ [20, 21, 24, 25], j ∈ JL) j e))]⟩, fun c c1 c2 c3 => by rw [upI_o c1, a2 c c1 c2], fun j hj => by rw [upI_o (by decide), a3 j hj], fun j hj => by rw [upI_o (by decide), a2 71 (by decide) (by decide)], fun j hj => by rw [upI_j (show j ≠ 28 from fun e => hj (by rw [e]; decide)), a4 j (fun e => hj ((by decide : ∀ j ∈ [20, 21, 24, 25], j ∈ [20, 21, 24, 25, 28]) j e))], fun w => absurd w q, fun w => by rw [upI_j (by decide)]; exact a7 w⟩
