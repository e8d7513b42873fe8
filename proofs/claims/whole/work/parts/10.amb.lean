/-! THE CLAIM OUT OF ONE WALK OF THE LAW'S BODY. Your part is whole_start (and what it stands on); all else here is the same for every law, but numbers. -/
def R_law : String := "ClothPricesLaw"
def lw_P (b : Addr) (xs : List Int32) (args : Array Value) (s : State) : Prop := args = #[.ref b] ∧ s.IntsAt b xs ∧ xs.length ≤ 3072 ∧ (Jvm.Cond.and given_1 narrow_1).before args s = true
def lw_Q (_ : Array Value) (s : State) (o : Outcome) (t : State) : Prop := o = .returned (some (.int 1)) ∧ Framed s o t [] 600000 7302250
def lw_Z (below : List Frame) (a : Array Value) (s : State) : State → Prop := fun t => ∃ o, t.status = .running ∧ Ended t below o ∧ lw_Q a s o t
/-- the law's own end, with 1 on the stack, nothing written that was there before, its room as the claim has it -/
theorem lw_ret {p : Program} {l : Launch} {e : Env} {s : State} {m : MethodId} {below : List Frame} {meth : Method} {c : Code} {b : Nat} (hx : p.tables.exec = Jvm.exec) (hb : c.code = code) (hr : meth.sig.returnType = ret) (hlocks : meth.locks = false) {pc : Nat} {H : Heap} {ls : Array Slot} (hdg : decode code pc = .ok (.ireturn, 1)) : W p l e room_1 s m #[Value.ref b] below meth c H [] 600000 7302250 (lw_Z below #[Value.ref b] s) (F0 m pc ls [.int 1]) := by
  intro T hT X
  obtain ⟨fs, hret, hrun, hended, hW, hframe⟩ := X.leave (v := some (.int 1)) (hlocks := hlocks) (fun h => by rw [hr] at h; cases h)
  have hmeth' : T.vm.method? m = some meth := X.method'
  refine ⟨T.setFrames fs, ?_, .returned (some (.int 1)), hrun, hended, rfl, ⟨_, rfl⟩, hW, hframe⟩
  jvm_step X.here [X.here.top, hx, hb, hdg, hmeth', hr, ret, narrow_b1]
  (try refine ⟨rfl, ?_⟩); (try refine ⟨rfl, ?_⟩)
  first | (intro acts; rw [hret _ acts rfl rfl rfl]) | rw [hret _ _ rfl rfl rfl]
  exact Steps.refl _
/-- what holds at the law's entry: the machine, the code, the tables' words (any of lw_tbl by 'hts w (by decide +kernel)'), the script of L ints xs at the cell b, what the Statement gives of the start (any of its parts by flat_of_before) -/
def lw_At (p : Program) (s : State) (m : MethodId) (meth : Method) (c : Code) (b L : Nat) (xs : Nat → Int32) : Prop :=
  p.tables.exec = Jvm.exec ∧ c.code = code ∧ meth.sig.returnType = ret ∧ c.maxLocals = 4 ∧ s.vm.findClass R_law = some m.cls ∧ (∀ w ∈ lw_tbl, w.before #[Value.ref b] s = true) ∧ va_X b L xs s s.heap ∧ b < s.heap.size ∧ meth.locks = false ∧ (Jvm.Cond.and given_1 narrow_1).before #[Value.ref b] s = true

theorem i32_of (x : Int32) : ∃ n : Nat, Int32.ofNat n = x := ⟨x.toBitVec.toNat, by apply Int32.toBitVec_inj.mp; simp⟩
set_option maxHeartbeats 4000000 in
set_option maxRecDepth 100000 in
theorem start_amb {p : Program} {s : State} {m : MethodId} {meth : Method} {c : Code} (l : Launch) {b L : Nat} {xs : Nat → Int32} (C0 : lw_At p s m meth c b L xs) : ∃ Γ : GT, Γ.1 = l ∧ Γ.2.2.1 = s.heap.size ∧ Γ.2.2.2.2 20 = b ∧ Γ.2.2.2.2 21 = L ∧ g_Amb Γ s := by
  obtain ⟨hx, hb, hr, hml, hown, hts, hX, hbl, hlocks, hgv⟩ := id C0
  have hg := flat_of_before _ hgv
  have hA : ∀ a : Nat, a < s.heap.size → ¬ (fun q : Nat => s.heap.size ≤ q) a := fun a h => Nat.not_le.mpr h
  obtain ⟨c0, i0, hK0⟩ := u_known (C := RX0) (T := TX0) (N := 6) (n := 6) hts (fun w hw => (List.mem_filter.mp (g_in0 w hw)).1) (hts (.instantiable RX0 6) (List.mem_append_right _ (List.mem_append_right _ (List.mem_append_left _ (List.mem_of_getElem? (i := 46) (by decide +kernel))))))
  obtain ⟨c1, i1, hK1⟩ := u_known (C := RX1) (T := TX1) (N := 9) (n := 9) hts (fun w hw => (List.mem_filter.mp (g_in1 w hw)).1) (hts (.instantiable RX1 9) (List.mem_append_right _ (List.mem_append_left _ (List.mem_of_getElem? (i := 144) (by decide +kernel)))))
  obtain ⟨c2, i2, hK2⟩ := u_known (C := RX2) (T := TX2) (N := 8) (n := 8) hts (fun w hw => (List.mem_filter.mp (g_in2 w hw)).1) (hts (.instantiable RX2 8) (List.mem_append_right _ (List.mem_append_left _ (List.mem_of_getElem? (i := 45) (by decide +kernel)))))
  obtain ⟨c3, i3, hK3⟩ := u_known (C := RX3) (T := TX3) (N := 2) (n := 2) hts (fun w hw => (List.mem_filter.mp (g_in3 w hw)).1) (hts (.instantiable RX3 2) (List.mem_append_right _ (List.mem_append_right _ (List.mem_append_left _ (List.mem_of_getElem? (i := 33) (by decide +kernel))))))
  obtain ⟨c4, i4, hK4⟩ := u_known (C := RX4) (T := TX4) (N := 7) (n := 7) hts (fun w hw => (List.mem_filter.mp (g_in4 w hw)).1) (hts (.instantiable RX4 7) (List.mem_append_right _ (List.mem_append_left _ (List.mem_of_getElem? (i := 112) (by decide +kernel)))))
  obtain ⟨c5, i5, hK5⟩ := u_known (C := RX5) (T := TX5) (N := 3) (n := 3) hts (fun w hw => (List.mem_filter.mp (g_in5 w hw)).1) (hts (.instantiable RX5 3) (List.mem_append_right _ (List.mem_append_right _ (List.mem_append_left _ (List.mem_of_getElem? (i := 16) (by decide +kernel))))))
  obtain ⟨c6, i6, hK6⟩ := u_known (C := RX6) (T := TX6) (N := 2) (n := 2) hts (fun w hw => (List.mem_filter.mp (g_in6 w hw)).1) (hts (.instantiable RX6 2) (List.mem_append_right _ (List.mem_append_left _ (List.mem_of_getElem? (i := 29) (by decide +kernel)))))
  obtain ⟨c7, i7, hK7⟩ := u_known (C := RX7) (T := TX7) (N := 10) (n := 10) hts (fun w hw => (List.mem_filter.mp (g_in7 w hw)).1) (hts (.instantiable RX7 10) (List.mem_append_right _ (List.mem_append_left _ (List.mem_of_getElem? (i := 194) (by decide +kernel)))))
  obtain ⟨c8, i8, hK8⟩ := u_known (C := RX8) (T := TX8) (N := 5) (n := 5) hts (fun w hw => (List.mem_filter.mp (g_in8 w hw)).1) (hts (.instantiable RX8 5) (List.mem_append_right _ (List.mem_append_left _ (List.mem_of_getElem? (i := 233) (by decide +kernel)))))
  obtain ⟨c9, i9, hK9⟩ := u_known (C := RX9) (T := TX9) (N := 12) (n := 12) hts (fun w hw => (List.mem_filter.mp (g_in9 w hw)).1) (hts (.instantiable RX9 12) (List.mem_append_right _ (List.mem_append_left _ (List.mem_of_getElem? (i := 21) (by decide +kernel)))))
  obtain ⟨c10, i10, hK10⟩ := u_known (C := RX10) (T := TX10) (N := 54) (n := 54) hts (fun w hw => (List.mem_filter.mp (g_in10 w hw)).1) (hts (.instantiable RX10 54) (List.mem_append_right _ (List.mem_append_right _ (List.mem_append_right _ (List.mem_append_right _ (List.mem_append_right _ (List.mem_append_left _ (List.mem_of_getElem? (i := 16) (by decide +kernel)))))))))
  obtain ⟨dC, dI, hKc⟩ : ∃ (dC : Nat → ClassId) (dI : Nat → Nat → Nat), ∀ (k : Nat) (q : vw_C), vwCl[k]? = some q → u_Kn s q.1 q.2.1 q.2.2 (dC k) (dI k) := by
    refine ⟨fun k => match k with | 0 => c0 | 1 => c1 | 2 => c2 | 3 => c3 | 4 => c4 | 5 => c5 | 6 => c6 | 7 => c7 | 8 => c8 | 9 => c9 | _ => c10, fun k => match k with | 0 => i0 | 1 => i1 | 2 => i2 | 3 => i3 | 4 => i4 | 5 => i5 | 6 => i6 | 7 => i7 | 8 => i8 | 9 => i9 | _ => i10, ?_⟩
    intro k q hq
    match k, hq with
    | 0, hq => cases hq; exact hK0
    | 1, hq => cases hq; exact hK1
    | 2, hq => cases hq; exact hK2
    | 3, hq => cases hq; exact hK3
    | 4, hq => cases hq; exact hK4
    | 5, hq => cases hq; exact hK5
    | 6, hq => cases hq; exact hK6
    | 7, hq => cases hq; exact hK7
    | 8, hq => cases hq; exact hK8
    | 9, hq => cases hq; exact hK9
    | 10, hq => cases hq; exact hK10
    | k + 11, hq => simp [vwCl] at hq
  obtain ⟨aI, kI, pI, eI1, eI2, eI3⟩ := Cond.arrayClass_spec (hts (.arrayClass .int) (by decide +kernel))
  obtain ⟨aJ, kJ, pJ, eJ1, eJ2, eJ3⟩ := Cond.arrayClass_spec (hts (.arrayClass .long) (by decide +kernel))
  obtain ⟨aB, kB, pB, eB1, eB2, eB3⟩ := Cond.arrayClass_spec (hts (.arrayClass .byte) (by decide +kernel))
  obtain ⟨aZ, kZ, pZ, eZ1, eZ2, eZ3⟩ := Cond.arrayClass_spec (hts (.arrayClass .boolean) (by decide +kernel))
  have hAO : va_AO "ClothPrices$Course" s := va_AO.of (hts (.arrayOver (.object "ClothPrices$Course")) (by decide +kernel))
  obtain ⟨pR, aR, kR, eR1, eR2, eR3, eR4, eR5⟩ := Cond.arrayOver_spec hAO
  obtain ⟨pl, hpl, hplT⟩ := va_Tof (args := #[Value.ref b]) (s := s) (tm := .static "ClothPrices$Trade" "PLACES" "[I") (ty := .int) (N := 6) (f := g_pl) (A := fun q : Nat => s.heap.size ≤ q) (by decide) (hg _ (by decide +kernel)) (va_eqt (hg _ (by decide +kernel)))
    (fun j hj => by
      match j, hj with
      | 0, _ => exact va_eqt (hg _ (by decide +kernel))
      | 1, _ => exact va_eqt (hg _ (by decide +kernel))
      | 2, _ => exact va_eqt (hg _ (by decide +kernel))
      | 3, _ => exact va_eqt (hg _ (by decide +kernel))
      | 4, _ => exact va_eqt (hg _ (by decide +kernel))
      | 5, _ => exact va_eqt (hg _ (by decide +kernel))
      | n + 6, h => exact absurd h (by omega)) hA
  obtain ⟨adK, adV, hvS, hvE⟩ := vk_Sof (args := #[Value.ref b]) (s := s) (N := 5) (tm := fun i => Term.string "ClothPrices$Reader" (g_sr.getD i (0, "")).1) (len := g_len) (byt := g_byt) (A := fun q : Nat => s.heap.size ≤ q)
    (by decide)
    (fun i hi => hg _ ((by decide +kernel : ∀ i, i < 5 → Cond.exactly (Term.string "ClothPrices$Reader" (g_sr.getD i (0, "")).1) "java/lang/String" ∈ flatC (Jvm.Cond.and given_1 narrow_1)) i hi))
    (fun i hi => hg _ ((by decide +kernel : ∀ i, i < 5 → Cond.eq (.field (Term.string "ClothPrices$Reader" (g_sr.getD i (0, "")).1) "java/lang/String" "coder" "B") (.int 0) ∈ flatC (Jvm.Cond.and given_1 narrow_1)) i hi))
    (fun i hi => hg _ ((by decide +kernel : ∀ i, i < 5 → Cond.arrayOf (.field (Term.string "ClothPrices$Reader" (g_sr.getD i (0, "")).1) "java/lang/String" "value" "[B") .byte ∈ flatC (Jvm.Cond.and given_1 narrow_1)) i hi))
    (fun i hi => hg _ ((by decide +kernel : ∀ i, i < 5 → Cond.eq (.length (.field (Term.string "ClothPrices$Reader" (g_sr.getD i (0, "")).1) "java/lang/String" "value" "[B")) (.int (Int32.ofNat (g_len.getD i 0))) ∈ flatC (Jvm.Cond.and given_1 narrow_1)) i hi))
    (fun i hi j hj => hg _ ((by decide +kernel : ∀ i, i < 5 → ∀ j, j < g_len.getD i 0 → Cond.eq (.elem (.field (Term.string "ClothPrices$Reader" (g_sr.getD i (0, "")).1) "java/lang/String" "value" "[B") (.int (Int32.ofNat j))) (.int ((g_byt.getD i []).getD j 0)) ∈ flatC (Jvm.Cond.and given_1 narrow_1)) i hi j hj))
    (fun i j hi hj hij => by
      have h := (by decide +kernel : ∀ i, i < 5 → ∀ j, j < 5 → i ≠ j → Cond.not (Cond.eq (Term.string "ClothPrices$Reader" (g_sr.getD i (0, "")).1) (Term.string "ClothPrices$Reader" (g_sr.getD j (0, "")).1)) ∈ flatC (Jvm.Cond.and given_1 narrow_1) ∨ Cond.not (Cond.eq (Term.string "ClothPrices$Reader" (g_sr.getD j (0, "")).1) (Term.string "ClothPrices$Reader" (g_sr.getD i (0, "")).1)) ∈ flatC (Jvm.Cond.and given_1 narrow_1)) i hi j hj hij
      rcases h with h | h
      · exact Or.inl (hg _ h)
      · exact Or.inr (hg _ h)) hA
  obtain ⟨xn, hxn⟩ : ∃ xn : Nat → Nat, ∀ j, Int32.ofNat (xn j) = xs j := ⟨fun j => (i32_of (xs j)).choose, fun j => (i32_of (xs j)).choose_spec⟩
  let xa : Nat → Nat := fun n => if n = 0 then pl else if n ≤ 5 then adK (n - 1) else if n ≤ 15 then adV (n - 11) else if n = 20 then b else if n = 21 then L else xn (n - 100)
  have eK : ∀ i, i < 5 → xa (1 + i) = adK i := fun i hi => by simp only [xa]; rw [if_neg (by omega), if_pos (by omega)]; congr 1; omega
  have eV : ∀ i, i < 5 → xa (11 + i) = adV i := fun i hi => by simp only [xa]; rw [if_neg (by omega), if_neg (by omega), if_pos (by omega)]; congr 1; omega
  have eX : (fun j => Int32.ofNat (xa (100 + j))) = xs := by
    funext j
    simp only [xa]
    rw [if_neg (by omega), if_neg (by omega), if_neg (by omega), if_neg (by omega), if_neg (by omega), show 100 + j - 100 = j by omega]
    exact hxn j
  refine ⟨(l, (dC, dI), s.heap.size, (fun t => match t with | 0 => aI | 1 => aJ | 2 => aB | 3 => aZ | _ => aR), xa), rfl, rfl, rfl, rfl, ?_⟩
  refine ⟨⟨hKc, fun k q hk => ?_⟩, ?_, hAO, ?_, ?_, ?_, ?_, ?_, ?_, ?_, hbl, Nat.le_refl _⟩
  · match k, hk with
    | 0, hk => cases hk; exact ⟨fun n z => ⟨fun k h => (by cases h), kI, eI2, pI, eI3⟩, eI1⟩
    | 1, hk => cases hk; exact ⟨fun n z => ⟨fun k h => (by cases h), kJ, eJ2, pJ, eJ3⟩, eJ1⟩
    | 2, hk => cases hk; exact ⟨fun n z => ⟨fun k h => (by cases h), kB, eB2, pB, eB3⟩, eB1⟩
    | 3, hk => cases hk; exact ⟨fun n z => ⟨fun k h => (by cases h), kZ, eZ2, pZ, eZ3⟩, eZ1⟩
    | 4, hk => cases hk; exact ⟨fun n z => ⟨fun k h => (by cases h), kR, eR3, pR, eR4⟩, kR, pR, eR3, eR4, eR1, eR5⟩
    | k + 5, hk => simp [g_tys] at hk
  · intro q hq
    exact va_Nw.of rfl (hts _ ((by decide +kernel : ∀ q ∈ g_nest, Cond.methodLinkNest q.1 q.2.1 q.2.2.1 q.2.2.2 ∈ lw_tbl) q hq))
  · exact va_Zref (hts (.laysStatic "ClothPrices$Trade" "PLACES" "[I") (by decide +kernel)) (hts (.initialized "ClothPrices$Trade") (by decide +kernel)) hpl hA
  · exact hplT
  · refine ⟨fun i hi => ?_, fun i j hi hj h => hvS.2 i j hi hj ?_⟩
    · show va_O _ (xa (1 + i)) _ _ _ ∧ va_OF _ _ _ _ (xa (1 + i)) _ _ _ ∧ va_OF _ _ _ (.ref (xa (11 + i))) (xa (1 + i)) _ _ _ ∧ va_T _ (xa (11 + i)) _ _ _ _ _
      rw [eK i hi, eV i hi]
      exact hvS.1 i hi
    · have h : xa (1 + i) = xa (1 + j) := h
      rwa [eK i hi, eK j hj] at h
  · intro i hi
    show vk_R _ _ _ (xa (1 + i)) s
    rw [eK i hi]
    exact vk_R.of (hts _ ((by decide +kernel : ∀ i, i < 5 → Cond.stringRef "ClothPrices$Reader" (g_sr.getD i (0, "")).1 (g_sr.getD i (0, "")).2 ∈ lw_tbl) i hi)) (hvE i hi)
  · exact va_Zof (hts (.laysStatic "java/lang/String" "COMPACT_STRINGS" "Z") (by decide +kernel)) (hts (.initialized "java/lang/String") (by decide +kernel)) (va_eqi (hg _ (by decide +kernel))) hA
  · exact va_Zqof (hts (.laysStatic "jdk/internal/util/Preconditions" "SIOOBE_FORMATTER" "Ljava/util/function/BiFunction;") (by decide +kernel)) (hts (.initialized "jdk/internal/util/Preconditions") (by decide +kernel)) (hg _ (by decide +kernel)) hA
  · show va_X (xa 20) (xa 21) (fun j => Int32.ofNat (xa (100 + j))) s s.heap
    rw [eX]
    exact hX
