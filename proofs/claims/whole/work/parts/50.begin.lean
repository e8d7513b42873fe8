theorem beg_12 (I : IT) : ∃ r, f_k19_X1_begin I = some r ∧ (∀ c, c ≠ 12 → c ≠ 13 → c ≠ 14 → c ≠ 15 → c ≠ 16 → c ≠ 17 → c ≠ 18 → r c = I c) ∧ (r 12 1 = 0 ∧ ∀ j, j ≠ 1 → r 12 j = I 12 j) ∧ (∀ j, j < 14 → r 13 j = 0) ∧ (∀ j, j < 84 → r 14 j = 0) ∧ (∀ j, j < 84 → r 15 j = 0) ∧ (∀ j, j < 6 → r 16 j = (-1)) ∧ (∀ j, j < 6 → r 17 j = (-1)) ∧ (∀ j, j < 14 → r 18 j = 0) := by
  obtain ⟨J1, a1, b1, d1⟩ := fk_13 0 (upI I 12 1 0)
  obtain ⟨J2, a2, b2, d2⟩ := fk_14 0 J1
  obtain ⟨J3, a3, b3, d3⟩ := fk_15 0 J2
  obtain ⟨J4, a4, b4, d4⟩ := fk_16 (-1) J3
  obtain ⟨J5, a5, b5, d5⟩ := fk_17 (-1) J4
  obtain ⟨J6, a6, b6, d6⟩ := fk_18 0 J5
  refine ⟨J6, ?_, fun c n0 n1 n2 n3 n4 n5 n6 => by rw [b6 c n6, b5 c n5, b4 c n4, b3 c n3, b2 c n2, b1 c n1]; simp [upI, n0], ⟨?_, fun j hj => ?_⟩, fun j hj => by rw [b6 13 (by decide), b5 13 (by decide), b4 13 (by decide), b3 13 (by decide), b2 13 (by decide)]; exact d1 j hj, fun j hj => by rw [b6 14 (by decide), b5 14 (by decide), b4 14 (by decide), b3 14 (by decide)]; exact d2 j hj, fun j hj => by rw [b6 15 (by decide), b5 15 (by decide), b4 15 (by decide)]; exact d3 j hj, fun j hj => by rw [b6 16 (by decide), b5 16 (by decide)]; exact d4 j hj, fun j hj => by rw [b6 17 (by decide)]; exact d5 j hj, fun j hj => by exact d6 j hj⟩
  · unfold f_k19_X1_begin
    rw [a1, Option.bind_some, a2, Option.bind_some, a3, Option.bind_some, a4, Option.bind_some, a5, Option.bind_some, a6, Option.bind_some]
  · rw [b6 12 (by decide), b5 12 (by decide), b4 12 (by decide), b3 12 (by decide), b2 12 (by decide), b1 12 (by decide)]; simp [upI, upd]
  · rw [b6 12 (by decide), b5 12 (by decide), b4 12 (by decide), b3 12 (by decide), b2 12 (by decide), b1 12 (by decide)]; simp [upI, upd, hj]
theorem beg_20 (I : IT) : ∃ r, f_k27_X1_begin_20 I = some r ∧ (∀ c, c ≠ 20 → c ≠ 21 → c ≠ 22 → c ≠ 23 → c ≠ 24 → c ≠ 25 → c ≠ 26 → r c = I c) ∧ (r 20 1 = 0 ∧ ∀ j, j ≠ 1 → r 20 j = I 20 j) ∧ (∀ j, j < 14 → r 21 j = 0) ∧ (∀ j, j < 84 → r 22 j = 0) ∧ (∀ j, j < 84 → r 23 j = 0) ∧ (∀ j, j < 6 → r 24 j = (-1)) ∧ (∀ j, j < 6 → r 25 j = (-1)) ∧ (∀ j, j < 14 → r 26 j = 0) := by
  obtain ⟨J1, a1, b1, d1⟩ := fk_21 0 (upI I 20 1 0)
  obtain ⟨J2, a2, b2, d2⟩ := fk_22 0 J1
  obtain ⟨J3, a3, b3, d3⟩ := fk_23 0 J2
  obtain ⟨J4, a4, b4, d4⟩ := fk_24 (-1) J3
  obtain ⟨J5, a5, b5, d5⟩ := fk_25 (-1) J4
  obtain ⟨J6, a6, b6, d6⟩ := fk_26 0 J5
  refine ⟨J6, ?_, fun c n0 n1 n2 n3 n4 n5 n6 => by rw [b6 c n6, b5 c n5, b4 c n4, b3 c n3, b2 c n2, b1 c n1]; simp [upI, n0], ⟨?_, fun j hj => ?_⟩, fun j hj => by rw [b6 21 (by decide), b5 21 (by decide), b4 21 (by decide), b3 21 (by decide), b2 21 (by decide)]; exact d1 j hj, fun j hj => by rw [b6 22 (by decide), b5 22 (by decide), b4 22 (by decide), b3 22 (by decide)]; exact d2 j hj, fun j hj => by rw [b6 23 (by decide), b5 23 (by decide), b4 23 (by decide)]; exact d3 j hj, fun j hj => by rw [b6 24 (by decide), b5 24 (by decide)]; exact d4 j hj, fun j hj => by rw [b6 25 (by decide)]; exact d5 j hj, fun j hj => by exact d6 j hj⟩
  · unfold f_k27_X1_begin_20
    rw [a1, Option.bind_some, a2, Option.bind_some, a3, Option.bind_some, a4, Option.bind_some, a5, Option.bind_some, a6, Option.bind_some]
  · rw [b6 20 (by decide), b5 20 (by decide), b4 20 (by decide), b3 20 (by decide), b2 20 (by decide), b1 20 (by decide)]; simp [upI, upd]
  · rw [b6 20 (by decide), b5 20 (by decide), b4 20 (by decide), b3 20 (by decide), b2 20 (by decide), b1 20 (by decide)]; simp [upI, upd, hj]
theorem beg_27 (I : IT) : ∃ r, f_k34_X1_begin_27 I = some r ∧ (∀ c, c ≠ 27 → c ≠ 28 → c ≠ 29 → c ≠ 30 → c ≠ 31 → c ≠ 32 → c ≠ 33 → r c = I c) ∧ (r 27 1 = 0 ∧ ∀ j, j ≠ 1 → r 27 j = I 27 j) ∧ (∀ j, j < 14 → r 28 j = 0) ∧ (∀ j, j < 84 → r 29 j = 0) ∧ (∀ j, j < 84 → r 30 j = 0) ∧ (∀ j, j < 6 → r 31 j = (-1)) ∧ (∀ j, j < 6 → r 32 j = (-1)) ∧ (∀ j, j < 14 → r 33 j = 0) := by
  obtain ⟨J1, a1, b1, d1⟩ := fk_28 0 (upI I 27 1 0)
  obtain ⟨J2, a2, b2, d2⟩ := fk_29 0 J1
  obtain ⟨J3, a3, b3, d3⟩ := fk_30 0 J2
  obtain ⟨J4, a4, b4, d4⟩ := fk_31 (-1) J3
  obtain ⟨J5, a5, b5, d5⟩ := fk_32 (-1) J4
  obtain ⟨J6, a6, b6, d6⟩ := fk_33 0 J5
  refine ⟨J6, ?_, fun c n0 n1 n2 n3 n4 n5 n6 => by rw [b6 c n6, b5 c n5, b4 c n4, b3 c n3, b2 c n2, b1 c n1]; simp [upI, n0], ⟨?_, fun j hj => ?_⟩, fun j hj => by rw [b6 28 (by decide), b5 28 (by decide), b4 28 (by decide), b3 28 (by decide), b2 28 (by decide)]; exact d1 j hj, fun j hj => by rw [b6 29 (by decide), b5 29 (by decide), b4 29 (by decide), b3 29 (by decide)]; exact d2 j hj, fun j hj => by rw [b6 30 (by decide), b5 30 (by decide), b4 30 (by decide)]; exact d3 j hj, fun j hj => by rw [b6 31 (by decide), b5 31 (by decide)]; exact d4 j hj, fun j hj => by rw [b6 32 (by decide)]; exact d5 j hj, fun j hj => by exact d6 j hj⟩
  · unfold f_k34_X1_begin_27
    rw [a1, Option.bind_some, a2, Option.bind_some, a3, Option.bind_some, a4, Option.bind_some, a5, Option.bind_some, a6, Option.bind_some]
  · rw [b6 27 (by decide), b5 27 (by decide), b4 27 (by decide), b3 27 (by decide), b2 27 (by decide), b1 27 (by decide)]; simp [upI, upd]
  · rw [b6 27 (by decide), b5 27 (by decide), b4 27 (by decide), b3 27 (by decide), b2 27 (by decide), b1 27 (by decide)]; simp [upI, upd, hj]
