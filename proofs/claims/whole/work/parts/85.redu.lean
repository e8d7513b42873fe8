/-! the reference's clause, by its word -/
theorem tcN {I I1 : IT} {J J1 : JT} (hw : f_X10_readWord I J = some (I1, J1)) (hc : f_X10_clauseOf J1 = some (-1)) : f_X10_takeClause I J = some (1, upI I1 55 20 (I1 55 21), J1) := by
  unfold f_X10_takeClause
  rw [hw, Option.bind_some]
  dsimp only
  rw [hc, Option.bind_some, if_pos (by decide), if_neg (by decide)]
  rfl
theorem tc0 {I I1 : IT} {J J1 : JT} (hw : f_X10_readWord I J = some (I1, J1)) (hc : f_X10_clauseOf J1 = some 0) : f_X10_takeClause I J = if I1 55 26 = 6 then some (3, upI I1 55 20 (I1 55 21), J1) else if 0 < I1 55 27 + I1 55 28 then some (4, upI I1 55 20 (I1 55 21), J1) else (f_X10_takeSeller (upI I1 55 21 (I1 55 23))).bind (tcE J1) := by
  unfold f_X10_takeClause f_X10_isFull
  rw [hw, Option.bind_some]
  dsimp only
  rw [hc, Option.bind_some, if_neg (show ¬ (0 : Int32) < 0 by decide), if_pos (show (0 : Int32) = 0 from rfl)]
  by_cases q : I1 55 26 = 6
  · rw [if_pos q, if_pos q, Option.bind_some, if_neg (by decide), if_pos (by decide)]
    rfl
  · rw [if_neg q, if_neg q, Option.bind_some, if_pos (show (0 : Int32) = 0 from rfl), if_pos (show (0 : Int32) = 0 from rfl)]
    by_cases q2 : 0 < I1 55 27 + I1 55 28
    · rw [if_pos q2, if_pos q2]
      rfl
    · rw [if_neg q2, if_neg q2, if_neg (show ¬ (0 : Int32) = 1 by decide), if_pos (show (0 : Int32) = 0 from rfl)]
      rfl
theorem tc1 {I I1 : IT} {J J1 : JT} (hw : f_X10_readWord I J = some (I1, J1)) (hc : f_X10_clauseOf J1 = some 1) : f_X10_takeClause I J = if I1 55 27 = 6 then some (3, upI I1 55 20 (I1 55 21), J1) else if I1 55 28 ≤ 0 then (f_X10_takeBuyer (upI I1 55 21 (I1 55 23))).bind (tcE J1) else some (4, upI I1 55 20 (I1 55 21), J1) := by
  unfold f_X10_takeClause f_X10_isFull
  rw [hw, Option.bind_some]
  dsimp only
  rw [hc, Option.bind_some, if_neg (show ¬ (1 : Int32) < 0 by decide), if_neg (show ¬ (1 : Int32) = 0 by decide), if_pos (show (1 : Int32) = 1 from rfl)]
  by_cases q : I1 55 27 = 6
  · rw [if_pos q, if_pos q, Option.bind_some, if_neg (by decide), if_pos (by decide)]
    rfl
  · rw [if_neg q, if_neg q, Option.bind_some, if_pos (show (0 : Int32) = 0 from rfl), if_neg (show ¬ (1 : Int32) = 0 by decide), if_pos (show (1 : Int32) = 1 from rfl)]
    by_cases q2 : I1 55 28 ≤ 0
    · rw [if_pos q2, if_pos q2, if_neg (show ¬ (1 : Int32) = 0 by decide), if_pos (show (1 : Int32) = 1 from rfl)]
      rfl
    · rw [if_neg q2, if_neg q2]
      rfl
theorem tc2 {I I1 : IT} {J J1 : JT} (hw : f_X10_readWord I J = some (I1, J1)) (hc : f_X10_clauseOf J1 = some 2) : f_X10_takeClause I J = if I1 55 28 = 2 then some (3, upI I1 55 20 (I1 55 21), J1) else (f_X10_takeBroker (upI I1 55 21 (I1 55 23))).bind (tcE J1) := by
  unfold f_X10_takeClause f_X10_isFull
  rw [hw, Option.bind_some]
  dsimp only
  rw [hc, Option.bind_some, if_neg (show ¬ (2 : Int32) < 0 by decide), if_neg (show ¬ (2 : Int32) = 0 by decide), if_neg (show ¬ (2 : Int32) = 1 by decide), if_pos (show (2 : Int32) = 2 from rfl)]
  by_cases q : I1 55 28 = 2
  · rw [if_pos q, if_pos q, Option.bind_some, if_neg (by decide), if_pos (by decide)]
    rfl
  · rw [if_neg q, if_neg q, Option.bind_some, if_pos (show (0 : Int32) = 0 from rfl), if_neg (show ¬ (2 : Int32) = 0 by decide), if_neg (show ¬ (2 : Int32) = 1 by decide), if_neg (show ¬ (2 : Int32) = 0 by decide), if_neg (show ¬ (2 : Int32) = 1 by decide), if_pos (show (2 : Int32) = 2 from rfl)]
    rfl
theorem tc3 {I I1 : IT} {J J1 : JT} (hw : f_X10_readWord I J = some (I1, J1)) (hc : f_X10_clauseOf J1 = some 3) : f_X10_takeClause I J = if I1 55 34 < 0 then (f_X10_takeNumber 1 99 (upI I1 55 21 (I1 55 23))).bind (fun r => tcE J1 (r.1, upI r.2 55 34 (r.2 55 24))) else some (3, upI I1 55 20 (I1 55 21), J1) := by
  unfold f_X10_takeClause f_X10_isFull
  rw [hw, Option.bind_some]
  dsimp only
  rw [hc, Option.bind_some, if_neg (show ¬ (3 : Int32) < 0 by decide), if_neg (show ¬ (3 : Int32) = 0 by decide), if_neg (show ¬ (3 : Int32) = 1 by decide), if_neg (show ¬ (3 : Int32) = 2 by decide), if_pos (show (3 : Int32) = 3 from rfl)]
  by_cases q : I1 55 34 < 0
  · rw [if_pos q, if_pos q, Option.bind_some, if_pos (show (0 : Int32) = 0 from rfl), if_neg (show ¬ (3 : Int32) = 0 by decide), if_neg (show ¬ (3 : Int32) = 1 by decide), if_neg (show ¬ (3 : Int32) = 0 by decide), if_neg (show ¬ (3 : Int32) = 1 by decide), if_neg (show ¬ (3 : Int32) = 2 by decide), if_pos (show (3 : Int32) = 3 from rfl)]
    rfl
  · rw [if_neg q, if_neg q, Option.bind_some, if_neg (by decide), if_pos (by decide)]
    rfl
theorem tc4 {I I1 : IT} {J J1 : JT} (hw : f_X10_readWord I J = some (I1, J1)) (hc : f_X10_clauseOf J1 = some 4) : f_X10_takeClause I J = if I1 55 35 < 0 then (f_X10_takeNumber 0 99 (upI I1 55 21 (I1 55 23))).bind (fun r => tcE J1 (r.1, upI r.2 55 35 (r.2 55 24))) else some (3, upI I1 55 20 (I1 55 21), J1) := by
  unfold f_X10_takeClause f_X10_isFull
  rw [hw, Option.bind_some]
  dsimp only
  rw [hc, Option.bind_some, if_neg (show ¬ (4 : Int32) < 0 by decide), if_neg (show ¬ (4 : Int32) = 0 by decide), if_neg (show ¬ (4 : Int32) = 1 by decide), if_neg (show ¬ (4 : Int32) = 2 by decide), if_neg (show ¬ (4 : Int32) = 3 by decide)]
  by_cases q : I1 55 35 < 0
  · rw [if_pos q, if_pos q, Option.bind_some, if_pos (show (0 : Int32) = 0 from rfl), if_neg (show ¬ (4 : Int32) = 0 by decide), if_neg (show ¬ (4 : Int32) = 1 by decide), if_neg (show ¬ (4 : Int32) = 0 by decide), if_neg (show ¬ (4 : Int32) = 1 by decide), if_neg (show ¬ (4 : Int32) = 2 by decide), if_neg (show ¬ (4 : Int32) = 3 by decide)]
    rfl
  · rw [if_neg q, if_neg q, Option.bind_some, if_neg (by decide), if_pos (by decide)]
    rfl
/-! the class's clause, by its word -/
theorem rcK {I I6 : IT} (hl : f_X4_skipLetters I = some I6) {st : Nat} (hs : I 7 4 = nI st) {P0 P1 P2 P3 P4 : Prop} (h0 : f_X4_isWord_s0 (nI st) I6 = some (cI P0)) (h1 : f_X4_isWord_s1 (nI st) I6 = some (cI P1)) (h2 : f_X4_isWord_s2 (nI st) I6 = some (cI P2)) (h3 : f_X4_isWord_s3 (nI st) I6 = some (cI P3)) (h4 : f_X4_isWord_s4 (nI st) I6 = some (cI P4)) : f_X4_readClause I = @ite _ P0 (Classical.propDecidable _) (f_X4_readSeller (nI st) I6) (@ite _ P1 (Classical.propDecidable _) (f_X4_readBuyer (nI st) I6) (@ite _ P2 (Classical.propDecidable _) (f_X4_readBroker (nI st) I6) (@ite _ P3 (Classical.propDecidable _) ((f_X4_refuseIf (I6 7 5) 3 (nI st) I6).bind fun r80 => (f_X4_readNumber 1 99 (upI r80 7 5 1)).bind fun r96 => f_X4_readSign 59 (upI r96.2 8 3 r96.1)) (@ite _ P4 (Classical.propDecidable _) ((f_X4_refuseIf (I6 7 6) 3 (nI st) I6).bind fun r128 => (f_X4_readNumber 0 99 (upI r128 7 6 1)).bind fun r144 => f_X4_readSign 59 (upI r144.2 8 4 r144.1)) (f_X4_refuseIf 1 1 (nI st) I6))))) := by
  have bs : ∀ x : Option IT, (x.bind fun r => some r) = x := fun x => by cases x <;> rfl
  unfold f_X4_readClause
  rw [hl, Option.bind_some, hs, h0, Option.bind_some]
  by_cases q0 : P0
  · rw [cI_t q0, if_neg (by decide), if_pos q0, bs]
  · rw [cI_f q0, if_pos (show (0 : Int32) = 0 from rfl), if_neg q0, h1, Option.bind_some]
    by_cases q1 : P1
    · rw [cI_t q1, if_neg (by decide), if_pos q1, bs]
    · rw [cI_f q1, if_pos (show (0 : Int32) = 0 from rfl), if_neg q1, h2, Option.bind_some]
      by_cases q2 : P2
      · rw [cI_t q2, if_neg (by decide), if_pos q2, bs]
      · rw [cI_f q2, if_pos (show (0 : Int32) = 0 from rfl), if_neg q2, h3, Option.bind_some]
        by_cases q3 : P3
        · rw [cI_t q3, if_neg (by decide), if_pos q3]
          simp only [bs]
        · rw [cI_f q3, if_pos (show (0 : Int32) = 0 from rfl), if_neg q3, h4, Option.bind_some]
          by_cases q4 : P4
          · rw [cI_t q4, if_neg (by decide), if_pos q4]
            simp only [bs]
          · rw [cI_f q4, if_pos (show (0 : Int32) = 0 from rfl), if_neg q4, bs]
