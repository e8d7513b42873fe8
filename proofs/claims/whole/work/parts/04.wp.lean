/-! WP: a method's walk over ONE world of laid-out cells (own work). GT: launch, class tables, floor of the own heap, class ids of arrays, addresses of constants. DT: layout (kind, size), references, addresses. IT, JT: ints and longs of the cells. MT: a method: name, bytes, locals, answer's type, frames and words that its calls need. -/
abbrev MT : Type := MethodName × ByteArray × Nat × Option FieldType × Nat × Nat
abbrev GT : Type := Launch × va_G × Nat × (Nat → ClassId) × (Nat → Nat)
abbrev DT : Type := List (Nat × Nat) × (Nat → Nat → Option Nat) × (Nat → Nat)
abbrev IT : Type := Nat → Nat → Int32
abbrev JT : Type := Nat → Nat → Int64
abbrev QT : Type := Option Value → DT → IT → JT → Prop
def lw_good : List Cond := lw_tbl.filter goodWord
theorem lw_gm {w : Cond} (h : w ∈ lw_tbl) (hg : goodWord w = true) : w ∈ lw_good := List.mem_filter.mpr ⟨h, hg⟩
def g_A (Γ : GT) : Nat → Prop := fun q => Γ.2.2.1 ≤ q
def g_tys (Γ : GT) : List (ClassId × FieldType) := [(Γ.2.2.2.1 0, .int), (Γ.2.2.2.1 1, .long), (Γ.2.2.2.1 2, .byte), (Γ.2.2.2.1 3, .boolean), (Γ.2.2.2.1 4, .object "ClothPrices$Course")]
def g_fkl : List (List Nat) := [[2, 0, 2, 2, 2, 2], [2, 0, 0, 2, 2, 2, 2, 2, 2], [0, 0, 0, 0, 0, 2, 2, 2], [2, 2], [2, 2, 0, 0, 0, 0, 0], [2, 2, 0], [2, 0], [2, 2, 2, 2, 2, 2, 0, 0, 0, 0], [0, 2, 2, 2, 2], [2, 2, 2, 2, 2, 2, 2, 2, 2, 2, 2, 0], [0, 0, 0, 2, 2, 2, 2, 2, 0, 0, 2, 2, 2, 2, 2, 2, 0, 0, 2, 0, 0, 0, 1, 0, 0, 0, 0, 0, 0, 2, 2, 2, 2, 2, 0, 0, 2, 0, 2, 2, 0, 2, 2, 2, 2, 2, 2, 0, 2, 2, 2, 2, 2, 2]]
def g_fk (ci j : Nat) : Nat := (g_fkl.getD ci []).getD j 0
def g_fv (Δ : DT) (I : IT) (J : JT) (k ci j : Nat) : Value := if g_fk ci j = 0 then .int (I k j) else if g_fk ci j = 1 then .long (J k j) else va_rf (Δ.2.1 k j)
def g_kind (Γ : GT) (Δ : DT) (I : IT) (J : JT) (k t n : Nat) : va_E :=
  if t = 1 then .inl (Γ.2.2.2.1 1, n, .inr (.inl (J k)))
  else if t = 4 then .inl (Γ.2.2.2.1 4, n, .inr (.inr (.inr (.inr (Δ.2.1 k)))))
  else if t < 10 then .inl (Γ.2.2.2.1 t, n, .inl (I k))
  else .inr (t - 10, (List.range n).map (fun j => g_fv Δ I J k (t - 10) j))
def g_cell (Γ : GT) (Δ : DT) (I : IT) (J : JT) (k : Nat) : va_E := match Δ.1[k]? with
  | some q => g_kind Γ Δ I J k q.1 q.2
  | none => .inr (0, [])
def g_W (Γ : GT) (Δ : DT) (I : IT) (J : JT) : va_W := (List.range Δ.1.length).map (fun k => (Δ.2.2 k, g_cell Γ Δ I J k))
def upI (I : IT) (k j : Nat) (v : Int32) : IT := fun a => if a = k then upd (I k) j v else I a
def upJ (J : JT) (k j : Nat) (v : Int64) : JT := fun a => if a = k then vp_updL (J k) j v else J a
def upR (R : Nat → Nat → Option Nat) (k j : Nat) (v : Option Nat) : Nat → Nat → Option Nat := fun a => if a = k then va_up (R k) j v else R a
def upF {α : Type} (I : Nat → α) (k : Nat) (f : α) : Nat → α := fun a => if a = k then f else I a
theorem upI_k {I : IT} {k j : Nat} {v : Int32} : upI I k j v k = upd (I k) j v := by simp [upI]
theorem upI_o {I : IT} {k j a : Nat} {v : Int32} (h : a ≠ k) : upI I k j v a = I a := by simp [upI, h]
theorem upI_s {I : IT} {k j : Nat} {v : Int32} : upI I k j v k j = v := by simp [upI, upd]
theorem upI_j {I : IT} {k j b : Nat} {v : Int32} (h : b ≠ j) : upI I k j v k b = I k b := by simp [upI, upd, h]
theorem upJ_k {J : JT} {k j : Nat} {v : Int64} : upJ J k j v k = vp_updL (J k) j v := by simp [upJ]
theorem upJ_o {J : JT} {k j a : Nat} {v : Int64} (h : a ≠ k) : upJ J k j v a = J a := by simp [upJ, h]
theorem upJ_s {J : JT} {k j : Nat} {v : Int64} : upJ J k j v k j = v := by simp [upJ, vp_updL]
theorem upJ_j {J : JT} {k j b : Nat} {v : Int64} (h : b ≠ j) : upJ J k j v k b = J k b := by simp [upJ, vp_updL, h]
theorem upF_k {α : Type} {I : Nat → α} {k : Nat} {f : α} : upF I k f k = f := by simp [upF]
theorem upF_o {α : Type} {I : Nat → α} {k a : Nat} {f : α} (h : a ≠ k) : upF I k f a = I a := by simp [upF, h]
theorem g_W_at {Γ : GT} {Δ : DT} {I : IT} {J : JT} {k : Nat} {q : Nat × Nat} (h : Δ.1[k]? = some q) : (g_W Γ Δ I J)[k]? = some (Δ.2.2 k, g_kind Γ Δ I J k q.1 q.2) := by
  have hl : k < Δ.1.length := (List.getElem?_eq_some_iff.mp h).1
  have he := (List.getElem?_eq_some_iff.mp h).2
  simp [g_W, hl, g_cell, he]
theorem g_kind_obj {Γ : GT} {Δ : DT} {I : IT} {J : JT} {k ci n : Nat} : g_kind Γ Δ I J k (10 + ci) n = .inr (ci, (List.range n).map (fun j => g_fv Δ I J k ci j)) := by
  have h1 : ¬ (10 + ci = 1) := by omega
  have h4 : ¬ (10 + ci = 4) := by omega
  have h5 : ¬ (10 + ci < 10) := by omega
  simp [g_kind, h1, h4, h5]
theorem g_W_set {Γ : GT} {Δ Δ' : DT} {I I' : IT} {J J' : JT} {k : Nat} {q : Nat × Nat} {e : va_E} (h : Δ.1[k]? = some q) (hl : Δ'.1 = Δ.1) (ha : Δ'.2.2 = Δ.2.2) (he : g_kind Γ Δ' I' J' k q.1 q.2 = e) (ho : ∀ a, a ≠ k → ∀ t n, g_kind Γ Δ' I' J' a t n = g_kind Γ Δ I J a t n) : (g_W Γ Δ I J).set k (Δ.2.2 k, e) = g_W Γ Δ' I' J' := by
  refine List.ext_getElem? (fun a => ?_)
  have hk : k < Δ.1.length := (List.getElem?_eq_some_iff.mp h).1
  by_cases hak : a = k
  · subst hak
    rw [List.getElem?_set_self (by simpa [g_W] using hk), g_W_at (Δ := Δ') (by rw [hl]; exact h), ha, he]
  · rw [List.getElem?_set_ne (Ne.symm hak)]
    cases hq : Δ.1[a]? with
    | none =>
      have : Δ.1.length ≤ a := List.getElem?_eq_none_iff.mp hq
      rw [List.getElem?_eq_none (by simpa [g_W] using this), List.getElem?_eq_none (by simpa [g_W, hl] using this)]
    | some q' => rw [g_W_at hq, g_W_at (Δ := Δ') (by rw [hl]; exact hq), ha, ho a hak]
theorem g_kind_upI {Γ : GT} {Δ : DT} {I : IT} {J : JT} {k j a t n : Nat} {v : Int32} (h : a ≠ k) : g_kind Γ Δ (upI I k j v) J a t n = g_kind Γ Δ I J a t n := by
  simp [g_kind, g_fv, upI_o h]
theorem g_kind_upF {Γ : GT} {Δ : DT} {I : IT} {J : JT} {k a t n : Nat} {f : Nat → Int32} (h : a ≠ k) : g_kind Γ Δ (upF I k f) J a t n = g_kind Γ Δ I J a t n := by
  simp [g_kind, g_fv, upF_o h]
theorem g_kind_upJ {Γ : GT} {Δ : DT} {I : IT} {J : JT} {k j a t n : Nat} {v : Int64} (h : a ≠ k) : g_kind Γ Δ I (upJ J k j v) a t n = g_kind Γ Δ I J a t n := by
  simp [g_kind, g_fv, upJ_o h]
theorem g_kind_upR {Γ : GT} {Δ : DT} {I : IT} {J : JT} {k j a t n : Nat} {v : Option Nat} (h : a ≠ k) : g_kind Γ (Δ.1, upR Δ.2.1 k j v, Δ.2.2) I J a t n = g_kind Γ Δ I J a t n := by
  simp [g_kind, g_fv, upR, h]
/-! what lies outside the own world and stays: classes, constants, links between nest mates -/
def g_nest : List (String × Nat × MethodName × String) := [("ClothPrices", 9, ⟨"ClothPrices$Text", "<init>", "()V"⟩, "ClothPrices"), ("ClothPrices", 58, ⟨"ClothPrices$Watcher", "<init>", "()V"⟩, "ClothPrices"), ("ClothPrices$Reader", 130, ⟨"ClothPrices", "isWithin", "(III)Z"⟩, "ClothPrices"), ("ClothPrices$Text", 27, ⟨"ClothPrices", "isWithin", "(III)Z"⟩, "ClothPrices"), ("ClothPrices$Course", 133, ⟨"ClothPrices", "isWithin", "(III)Z"⟩, "ClothPrices"), ("ClothPrices$Watcher", 33, ⟨"ClothPrices", "signsOf", "(I)I"⟩, "ClothPrices")]
def g_len : List Nat := [6, 5, 6, 5, 4]
def g_byt : List (List Int32) := [[115, 101, 108, 108, 101, 114], [98, 117, 121, 101, 114], [98, 114, 111, 107, 101, 114], [98, 105, 110, 100, 115], [99, 111, 115, 116]]
def g_pl : Nat → Value := fun j => .int (([16807, 2401, 343, 49, 7, 1] : List Int32).getD j 0)
def g_sr : List (Nat × String) := [(56, "seller"), (66, "buyer"), (71, "broker"), (76, "binds"), (91, "cost")]
def g_Amb (Γ : GT) (s : State) : Prop :=
  va_K Γ.2.1 vwCl (g_tys Γ) s ∧ (∀ q ∈ g_nest, va_Nw (.methodLinkNest q.1 q.2.1 q.2.2.1 q.2.2.2) s) ∧ va_AO "ClothPrices$Course" s
  ∧ va_Z "ClothPrices$Trade" "PLACES" "[I" (.ref (Γ.2.2.2.2 0)) (g_A Γ) s s.heap ∧ va_T .int (Γ.2.2.2.2 0) 6 g_pl (g_A Γ) s s.heap
  ∧ vk_S 5 g_len g_byt (fun i => Γ.2.2.2.2 (1 + i)) (fun i => Γ.2.2.2.2 (11 + i)) (g_A Γ) s s.heap
  ∧ (∀ i, i < 5 → vk_R "ClothPrices$Reader" (g_sr.getD i (0, "")).1 (g_sr.getD i (0, "")).2 (Γ.2.2.2.2 (1 + i)) s)
  ∧ va_Z "java/lang/String" "COMPACT_STRINGS" "Z" (.int 1) (g_A Γ) s s.heap ∧ va_Zq "jdk/internal/util/Preconditions" "SIOOBE_FORMATTER" "Ljava/util/function/BiFunction;" (g_A Γ) s s.heap
  ∧ (va_X (Γ.2.2.2.2 20) (Γ.2.2.2.2 21) (fun j => Int32.ofNat (Γ.2.2.2.2 (100 + j))) s s.heap ∧ Γ.2.2.2.2 20 < Γ.2.2.1 ∧ Γ.2.2.1 ≤ s.heap.size)
theorem g_Amb.go {Γ : GT} {s U : State} {H : Heap} {locs : List Loc} (h : g_Amb Γ s) (hS : va_S (g_A Γ) s.heap H locs) (hU : U.heap = H) (hW : s.WarmedH U.vm) : g_Amb Γ U := by
  obtain ⟨h1, h2, h3, h4, h5, h6, h7, h8, h9, h10, h11, h12⟩ := h
  refine ⟨va_K.moved hW.alike h1, fun q hq => va_Nw.warmM hW (h2 q hq), va_AO.moved hW.alike h3, ?_, ?_, ?_, fun i hi => vk_R.warm hW (h7 i hi), ?_, ?_, ?_, h11, by rw [hU]; exact Nat.le_trans h12 hS.1⟩
  · rw [hU]; exact (va_Z.moved hW.alike h4).kept hS.2.1
  · rw [hU]; exact (va_T.moved hW.alike h5).kept hS.2.1
  · rw [hU]; exact (vk_S.moved hW.alike h6).kept hS.2.1
  · rw [hU]; exact (va_Z.moved hW.alike h8).kept hS.2.1
  · rw [hU]; exact (va_Zq.moved hW.alike h9).kept hS.2.1
  · rw [hU]; exact (va_X.moved hW.alike h10).kept (hS.2.1 _ (Nat.lt_of_lt_of_le h11 h12) (Nat.not_le.mpr h11))
theorem g_Amb.same {Γ : GT} {s U : State} (h : g_Amb Γ s) (hv : s.vm = U.vm) (hU : U.heap = s.heap) : g_Amb Γ U := by
  obtain ⟨h1, h2, h3, h4, h5, h6, h7, h8, h9, h10, h11, h12⟩ := h
  have ha : s.vm.Alike U.vm := by rw [hv]; exact Vm.Alike.refl U.vm
  refine ⟨va_K.moved ha h1, fun q hq => va_Nw.same rfl hv (h2 q hq), va_AO.moved ha h3, ?_, ?_, ?_, fun i hi => vk_R.same hv.symm (h7 i hi), ?_, ?_, ?_, h11, by rw [hU]; exact h12⟩
  · rw [hU]; exact va_Z.moved ha h4
  · rw [hU]; exact va_T.moved ha h5
  · rw [hU]; exact vk_S.moved ha h6
  · rw [hU]; exact va_Z.moved ha h8
  · rw [hU]; exact va_Zq.moved ha h9
  · rw [hU]; exact va_X.moved ha h10
/-! the judgement -/
def g_MC (mt : MT) (p : Program) (s : State) (m : MethodId) (args : Array Value) (meth : Method) (c : Code) : Prop :=
  p.tables.exec = Jvm.exec ∧ c.code = mt.2.1 ∧ meth.sig.returnType = mt.2.2.2.1 ∧ c.maxLocals = mt.2.2.1 ∧ s.vm.findClass mt.1.cls = some m.cls ∧ (∀ w ∈ lw_good, w.before args s = true) ∧ meth.locks = false ∧ (mt.1.name = "<init>" → meth.name = "<init>")
def g_QW (Γ : GT) (Q : QT) : Array Value → State → Outcome → State → Prop := fun _ st o t =>
  (∃ (r : Option Value) (Δ : DT) (I : IT) (J : JT), o = .returned r ∧ Q r Δ I J ∧ va_P Γ.2.1 vwCl (g_W Γ Δ I J) t.heap ∧ va_D (g_A Γ) (g_W Γ Δ I J)) ∧ va_F (g_A Γ) st t
def g_CX (Γ : GT) (mt : MT) (b : Nat × Nat) (lv : List (Nat × Value)) (Δ : DT) (I : IT) (J : JT) (p : Program) (R : Room) (s : State) (m : MethodId) (args : Array Value) (meth : Method) (c : Code) (H : Heap) (locs : List Loc) (cells slots : Nat) (ls : Array Slot) (mc ms : Nat) : Prop :=
  g_MC mt p s m args meth c ∧ (mt.2.2.2.2.1 ≤ R.frames ∧ mt.2.2.2.2.2 ≤ R.locals ∧ cells + b.1 ≤ R.cells ∧ slots + b.2 ≤ R.slots ∧ cells + b.1 ≤ mc ∧ slots + b.2 ≤ ms)
  ∧ (va_P Γ.2.1 vwCl (g_W Γ Δ I J) H ∧ va_D (g_A Γ) (g_W Γ Δ I J) ∧ va_S (g_A Γ) s.heap H locs ∧ Γ.2.2.1 ≤ s.heap.size) ∧ g_Amb Γ s ∧ lv_has ls mt.2.2.1 lv
def WP (Γ : GT) (mt : MT) (b : Nat × Nat) (pc : Nat) (lv : List (Nat × Value)) (st : List Value) (Δ : DT) (I : IT) (J : JT) (Q : QT) : Prop :=
  ∀ (p : Program) (e : Env) (R : Room) (s : State) (m : MethodId) (args : Array Value) (below : List Frame) (meth : Method) (c : Code) (H : Heap) (locs : List Loc) (cells slots : Nat) (ls : Array Slot) (mc ms : Nat),
    g_CX Γ mt b lv Δ I J p R s m args meth c H locs cells slots ls mc ms → W p Γ.1 e R s m args below meth c H locs cells slots (MQ below (g_QW Γ Q) args s mc ms (g_A Γ)) (F0 m pc ls st)
abbrev g_ws (mt : MT) : List Cond := .code mt.1 mt.2.1 mt.2.2.1 mt.2.2.2.1 :: lw_good
abbrev g_rm (mt : MT) (b : Nat × Nat) : Room := { frames := mt.2.2.2.2.1, cells := b.1, slots := b.2, locals := mt.2.2.2.2.2 }
def g_Pc (Γ : GT) (vs : List Value) (Δ : DT) (I : IT) (J : JT) : Array Value → State → Prop := va_Pc vs (fun U => va_P Γ.2.1 vwCl (g_W Γ Δ I J) U.heap ∧ va_D (g_A Γ) (g_W Γ Δ I J) ∧ Γ.2.2.1 ≤ U.heap.size ∧ g_Amb Γ U)
def CALL (Γ : GT) (mt : MT) (b : Nat × Nat) (vs : List Value) (Δ : DT) (I : IT) (J : JT) (Q : QT) : Prop :=
  Met Γ.1 mt.1 (g_ws mt) (g_rm mt b) (g_Pc Γ vs Δ I J) (g_QW Γ Q) b.1 b.2 (g_A Γ)
theorem g_blind {Γ : GT} {vs : List Value} {Δ : DT} {I : IT} {J : JT} : FrameBlind (g_Pc Γ vs Δ I J) := fun a U g mk q => by
  obtain ⟨q0, qP, qD, qN, qA⟩ := q
  exact ⟨q0, qP, qD, qN, qA.same rfl rfl⟩
theorem call_of {Γ : GT} {mt : MT} {b : Nat × Nat} {vs : List Value} {Δ : DT} {I : IT} {J : JT} {Q : QT} (hpl : plainName mt.1.cls = true) (hn : (lg_sl vs).length ≤ mt.2.2.1) (h : WP Γ mt b 0 (lv_args 0 vs) [] Δ I J Q) : CALL Γ mt b vs Δ I J Q := by
  refine Met.ofW (cc := mt.2.1) (maxL := mt.2.2.1) (ret := mt.2.2.2.1) hpl rfl ?_
  intro p e s m args below meth c s₁ B hml hv
  obtain ⟨rfl, hP, hD, hN, hA⟩ := hv
  have hts := atoms_spec (ws := g_ws mt) B.pre
  have hown : s.vm.findClass mt.1.cls = some m.cls := findClass_of_methodNamed B.named
  have hname : meth.name = mt.1.name := (name_of_methodNamed B.named B.method).1
  have hl := lv_entry vs (n := mt.2.2.1) hn
  rw [lg_entry_eq]
  generalize (lg_sl vs ++ List.replicate (mt.2.2.1 - (lg_sl vs).length) Slot.unset).toArray = ls at hl ⊢
  exact h p e (headSpec (g_ws mt) (g_rm mt b)).room s m _ below meth c s.heap [] 0 0 ls b.1 b.2 ⟨⟨B.exec, B.bytes, B.returns, hml, hown, fun w hw => hts w (List.mem_cons_of_mem _ hw), B.notSynchronized, fun hi => hname.trans hi⟩, ⟨Nat.le_refl _, Nat.le_refl _, by simp [headSpec], by simp [headSpec], by simp, by simp⟩, ⟨hP, hD, va_S.rf, hN⟩, hA, hl⟩
theorem CALL.mono {Γ : GT} {mt : MT} {b : Nat × Nat} {vs : List Value} {Δ : DT} {I : IT} {J : JT} {Q Q' : QT} (h : CALL Γ mt b vs Δ I J Q) (hq : ∀ r Δ' I' J', Q r Δ' I' J' → Q' r Δ' I' J') : CALL Γ mt b vs Δ I J Q' := by
  intro p e h1 h2 h3 s m args below h4 h5 h6 h7
  obtain ⟨n, o, g1, g2, g3, ⟨⟨r, Δ', I', J', e1, e2, e3⟩, e4⟩, e5⟩ := h p e h1 h2 h3 s m args below h4 h5 h6 h7
  exact ⟨n, o, g1, g2, g3, ⟨⟨r, Δ', I', J', e1, hq _ _ _ _ e2, e3⟩, e4⟩, e5⟩
section RULES
variable {Γ : GT} {mt : MT} {b : Nat × Nat} {pc : Nat} {lv : List (Nat × Value)} {st rest : List Value} {Δ : DT} {I : IT} {J : JT} {Q : QT}
theorem wp_iconst {n : Int} {v : Int32} (hd : decode mt.2.1 pc = .ok (.iconst n, 1)) (hv : Int32.ofInt n = v) (k : WP Γ mt b (pc + 1) lv (.int v :: rest) Δ I J Q) : WP Γ mt b pc lv (rest) Δ I J Q :=
  fun p e R s m args below meth c H locs cells slots ls mc ms h => lv_iconst h.1.1 h.1.2.1 hd hv (k p e R s m args below meth c H locs cells slots ls mc ms h)
theorem wp_bipush {n : Int} {v : Int32} (hd : decode mt.2.1 pc = .ok (.bipush n, 2)) (hv : (Int8.ofInt n).toInt32 = v) (k : WP Γ mt b (pc + 2) lv (.int v :: rest) Δ I J Q) : WP Γ mt b pc lv (rest) Δ I J Q :=
  fun p e R s m args below meth c H locs cells slots ls mc ms h => lv_bipush h.1.1 h.1.2.1 hd hv (k p e R s m args below meth c H locs cells slots ls mc ms h)
theorem wp_sipush {n : Int} {v : Int32} (hd : decode mt.2.1 pc = .ok (.sipush n, 3)) (hv : (Int16.ofInt n).toInt32 = v) (k : WP Γ mt b (pc + 3) lv (.int v :: rest) Δ I J Q) : WP Γ mt b pc lv (rest) Δ I J Q :=
  fun p e R s m args below meth c H locs cells slots ls mc ms h => lv_sipush h.1.1 h.1.2.1 hd hv (k p e R s m args below meth c H locs cells slots ls mc ms h)
theorem wp_lconst {n : Fin 2} {v : Int64} (hd : decode mt.2.1 pc = .ok (.lconst n, 1)) (hv : Int64.ofNat (n : Nat) = v) (k : WP Γ mt b (pc + 1) lv (.long v :: rest) Δ I J Q) : WP Γ mt b pc lv (rest) Δ I J Q :=
  fun p e R s m args below meth c H locs cells slots ls mc ms h => lv_lconst h.1.1 h.1.2.1 hd hv (k p e R s m args below meth c H locs cells slots ls mc ms h)
theorem wp_iadd {x y : Int32} (hd : decode mt.2.1 pc = .ok (.iadd, 1)) (k : WP Γ mt b (pc + 1) lv (.int (x + y) :: rest) Δ I J Q) : WP Γ mt b pc lv (.int y :: .int x :: rest) Δ I J Q :=
  fun p e R s m args below meth c H locs cells slots ls mc ms h => lv_iadd h.1.1 h.1.2.1 hd (k p e R s m args below meth c H locs cells slots ls mc ms h)
theorem wp_isub {x y : Int32} (hd : decode mt.2.1 pc = .ok (.isub, 1)) (k : WP Γ mt b (pc + 1) lv (.int (x - y) :: rest) Δ I J Q) : WP Γ mt b pc lv (.int y :: .int x :: rest) Δ I J Q :=
  fun p e R s m args below meth c H locs cells slots ls mc ms h => lv_isub h.1.1 h.1.2.1 hd (k p e R s m args below meth c H locs cells slots ls mc ms h)
theorem wp_imul {x y : Int32} (hd : decode mt.2.1 pc = .ok (.imul, 1)) (k : WP Γ mt b (pc + 1) lv (.int (x * y) :: rest) Δ I J Q) : WP Γ mt b pc lv (.int y :: .int x :: rest) Δ I J Q :=
  fun p e R s m args below meth c H locs cells slots ls mc ms h => lv_imul h.1.1 h.1.2.1 hd (k p e R s m args below meth c H locs cells slots ls mc ms h)
theorem wp_iand {x y : Int32} (hd : decode mt.2.1 pc = .ok (.iand, 1)) (k : WP Γ mt b (pc + 1) lv (.int (x &&& y) :: rest) Δ I J Q) : WP Γ mt b pc lv (.int y :: .int x :: rest) Δ I J Q :=
  fun p e R s m args below meth c H locs cells slots ls mc ms h => lv_iand h.1.1 h.1.2.1 hd (k p e R s m args below meth c H locs cells slots ls mc ms h)
theorem wp_ior {x y : Int32} (hd : decode mt.2.1 pc = .ok (.ior, 1)) (k : WP Γ mt b (pc + 1) lv (.int (x ||| y) :: rest) Δ I J Q) : WP Γ mt b pc lv (.int y :: .int x :: rest) Δ I J Q :=
  fun p e R s m args below meth c H locs cells slots ls mc ms h => lv_ior h.1.1 h.1.2.1 hd (k p e R s m args below meth c H locs cells slots ls mc ms h)
theorem wp_ixor {x y : Int32} (hd : decode mt.2.1 pc = .ok (.ixor, 1)) (k : WP Γ mt b (pc + 1) lv (.int (x ^^^ y) :: rest) Δ I J Q) : WP Γ mt b pc lv (.int y :: .int x :: rest) Δ I J Q :=
  fun p e R s m args below meth c H locs cells slots ls mc ms h => lv_ixor h.1.1 h.1.2.1 hd (k p e R s m args below meth c H locs cells slots ls mc ms h)
theorem wp_ishl {x y : Int32} (hd : decode mt.2.1 pc = .ok (.ishl, 1)) (k : WP Γ mt b (pc + 1) lv (.int (x <<< (y &&& 31)) :: rest) Δ I J Q) : WP Γ mt b pc lv (.int y :: .int x :: rest) Δ I J Q :=
  fun p e R s m args below meth c H locs cells slots ls mc ms h => lv_ishl h.1.1 h.1.2.1 hd (k p e R s m args below meth c H locs cells slots ls mc ms h)
theorem wp_ishr {x y : Int32} (hd : decode mt.2.1 pc = .ok (.ishr, 1)) (k : WP Γ mt b (pc + 1) lv (.int (x >>> (y &&& 31)) :: rest) Δ I J Q) : WP Γ mt b pc lv (.int y :: .int x :: rest) Δ I J Q :=
  fun p e R s m args below meth c H locs cells slots ls mc ms h => lv_ishr h.1.1 h.1.2.1 hd (k p e R s m args below meth c H locs cells slots ls mc ms h)
theorem wp_idiv {x y : Int32} (hd : decode mt.2.1 pc = .ok (.idiv, 1)) (hne : ¬ y = 0) (k : WP Γ mt b (pc + 1) lv (.int (x / y) :: rest) Δ I J Q) : WP Γ mt b pc lv (.int y :: .int x :: rest) Δ I J Q :=
  fun p e R s m args below meth c H locs cells slots ls mc ms h => lv_idiv h.1.1 h.1.2.1 hd hne (k p e R s m args below meth c H locs cells slots ls mc ms h)
theorem wp_irem {x y : Int32} (hd : decode mt.2.1 pc = .ok (.irem, 1)) (hne : ¬ y = 0) (k : WP Γ mt b (pc + 1) lv (.int (x - x / y * y) :: rest) Δ I J Q) : WP Γ mt b pc lv (.int y :: .int x :: rest) Δ I J Q :=
  fun p e R s m args below meth c H locs cells slots ls mc ms h => lv_irem h.1.1 h.1.2.1 hd hne (k p e R s m args below meth c H locs cells slots ls mc ms h)
theorem wp_ladd {x y : Int64} (hd : decode mt.2.1 pc = .ok (.ladd, 1)) (k : WP Γ mt b (pc + 1) lv (.long (x + y) :: rest) Δ I J Q) : WP Γ mt b pc lv (.long y :: .long x :: rest) Δ I J Q :=
  fun p e R s m args below meth c H locs cells slots ls mc ms h => lv_ladd h.1.1 h.1.2.1 hd (k p e R s m args below meth c H locs cells slots ls mc ms h)
theorem wp_lsub {x y : Int64} (hd : decode mt.2.1 pc = .ok (.lsub, 1)) (k : WP Γ mt b (pc + 1) lv (.long (x - y) :: rest) Δ I J Q) : WP Γ mt b pc lv (.long y :: .long x :: rest) Δ I J Q :=
  fun p e R s m args below meth c H locs cells slots ls mc ms h => lv_lsub h.1.1 h.1.2.1 hd (k p e R s m args below meth c H locs cells slots ls mc ms h)
theorem wp_lmul {x y : Int64} (hd : decode mt.2.1 pc = .ok (.lmul, 1)) (k : WP Γ mt b (pc + 1) lv (.long (x * y) :: rest) Δ I J Q) : WP Γ mt b pc lv (.long y :: .long x :: rest) Δ I J Q :=
  fun p e R s m args below meth c H locs cells slots ls mc ms h => lv_lmul h.1.1 h.1.2.1 hd (k p e R s m args below meth c H locs cells slots ls mc ms h)
theorem wp_land {x y : Int64} (hd : decode mt.2.1 pc = .ok (.land, 1)) (k : WP Γ mt b (pc + 1) lv (.long (x &&& y) :: rest) Δ I J Q) : WP Γ mt b pc lv (.long y :: .long x :: rest) Δ I J Q :=
  fun p e R s m args below meth c H locs cells slots ls mc ms h => lv_land h.1.1 h.1.2.1 hd (k p e R s m args below meth c H locs cells slots ls mc ms h)
theorem wp_lor {x y : Int64} (hd : decode mt.2.1 pc = .ok (.lor, 1)) (k : WP Γ mt b (pc + 1) lv (.long (x ||| y) :: rest) Δ I J Q) : WP Γ mt b pc lv (.long y :: .long x :: rest) Δ I J Q :=
  fun p e R s m args below meth c H locs cells slots ls mc ms h => lv_lor h.1.1 h.1.2.1 hd (k p e R s m args below meth c H locs cells slots ls mc ms h)
theorem wp_ldiv {x y : Int64} (hd : decode mt.2.1 pc = .ok (.ldiv, 1)) (hne : ¬ y = 0) (k : WP Γ mt b (pc + 1) lv (.long (x / y) :: rest) Δ I J Q) : WP Γ mt b pc lv (.long y :: .long x :: rest) Δ I J Q :=
  fun p e R s m args below meth c H locs cells slots ls mc ms h => lv_ldiv h.1.1 h.1.2.1 hd hne (k p e R s m args below meth c H locs cells slots ls mc ms h)
theorem wp_lrem {x y : Int64} (hd : decode mt.2.1 pc = .ok (.lrem, 1)) (hne : ¬ y = 0) (k : WP Γ mt b (pc + 1) lv (.long (x - x / y * y) :: rest) Δ I J Q) : WP Γ mt b pc lv (.long y :: .long x :: rest) Δ I J Q :=
  fun p e R s m args below meth c H locs cells slots ls mc ms h => lv_lrem h.1.1 h.1.2.1 hd hne (k p e R s m args below meth c H locs cells slots ls mc ms h)
theorem wp_ineg {x : Int32} (hd : decode mt.2.1 pc = .ok (.ineg, 1)) (k : WP Γ mt b (pc + 1) lv (.int (-x) :: rest) Δ I J Q) : WP Γ mt b pc lv (.int x :: rest) Δ I J Q :=
  fun p e R s m args below meth c H locs cells slots ls mc ms h => lv_ineg h.1.1 h.1.2.1 hd (k p e R s m args below meth c H locs cells slots ls mc ms h)
theorem wp_i2l {x : Int32} (hd : decode mt.2.1 pc = .ok (.i2l, 1)) (k : WP Γ mt b (pc + 1) lv (.long x.toInt64 :: rest) Δ I J Q) : WP Γ mt b pc lv (.int x :: rest) Δ I J Q :=
  fun p e R s m args below meth c H locs cells slots ls mc ms h => lv_i2l h.1.1 h.1.2.1 hd rfl (k p e R s m args below meth c H locs cells slots ls mc ms h)
theorem wp_l2i {x : Int64} (hd : decode mt.2.1 pc = .ok (.l2i, 1)) (k : WP Γ mt b (pc + 1) lv (.int x.toInt32 :: rest) Δ I J Q) : WP Γ mt b pc lv (.long x :: rest) Δ I J Q :=
  fun p e R s m args below meth c H locs cells slots ls mc ms h => lv_l2i h.1.1 h.1.2.1 hd rfl (k p e R s m args below meth c H locs cells slots ls mc ms h)
theorem wp_i2b {x : Int32} (hd : decode mt.2.1 pc = .ok (.i2b, 1)) (k : WP Γ mt b (pc + 1) lv (.int x.toInt8.toInt32 :: rest) Δ I J Q) : WP Γ mt b pc lv (.int x :: rest) Δ I J Q :=
  fun p e R s m args below meth c H locs cells slots ls mc ms h => lv_i2b h.1.1 h.1.2.1 hd rfl (k p e R s m args below meth c H locs cells slots ls mc ms h)
theorem wp_i2c {x : Int32} (hd : decode mt.2.1 pc = .ok (.i2c, 1)) (k : WP Γ mt b (pc + 1) lv (.int (x.toUInt32 % 65536).toInt32 :: rest) Δ I J Q) : WP Γ mt b pc lv (.int x :: rest) Δ I J Q :=
  fun p e R s m args below meth c H locs cells slots ls mc ms h => lv_i2c h.1.1 h.1.2.1 hd rfl (k p e R s m args below meth c H locs cells slots ls mc ms h)
theorem wp_iushr {x y : Int32} (hd : decode mt.2.1 pc = .ok (.iushr, 1)) (k : WP Γ mt b (pc + 1) lv (.int (x.toUInt32 >>> (y.toUInt32 &&& Int32.toUInt32 31)).toInt32 :: rest) Δ I J Q) : WP Γ mt b pc lv (.int y :: .int x :: rest) Δ I J Q :=
  fun p e R s m args below meth c H locs cells slots ls mc ms h => lv_iushr h.1.1 h.1.2.1 hd rfl (k p e R s m args below meth c H locs cells slots ls mc ms h)
theorem wp_lushr {x : Int64} {y : Int32} (hd : decode mt.2.1 pc = .ok (.lushr, 1)) (k : WP Γ mt b (pc + 1) lv (.long (x.toUInt64 >>> (y.toInt64.toUInt64 &&& Int64.toUInt64 63)).toInt64 :: rest) Δ I J Q) : WP Γ mt b pc lv (.int y :: .long x :: rest) Δ I J Q :=
  fun p e R s m args below meth c H locs cells slots ls mc ms h => lv_lushr h.1.1 h.1.2.1 hd rfl (k p e R s m args below meth c H locs cells slots ls mc ms h)
theorem wp_lshl {x : Int64} {y : Int32} (hd : decode mt.2.1 pc = .ok (.lshl, 1)) (k : WP Γ mt b (pc + 1) lv (.long (x <<< (y.toInt64 &&& 63)) :: rest) Δ I J Q) : WP Γ mt b pc lv (.int y :: .long x :: rest) Δ I J Q :=
  fun p e R s m args below meth c H locs cells slots ls mc ms h => lv_lshl h.1.1 h.1.2.1 hd rfl (k p e R s m args below meth c H locs cells slots ls mc ms h)
theorem wp_lshr {x : Int64} {y : Int32} (hd : decode mt.2.1 pc = .ok (.lshr, 1)) (k : WP Γ mt b (pc + 1) lv (.long (x >>> (y.toInt64 &&& 63)) :: rest) Δ I J Q) : WP Γ mt b pc lv (.int y :: .long x :: rest) Δ I J Q :=
  fun p e R s m args below meth c H locs cells slots ls mc ms h => lv_lshr h.1.1 h.1.2.1 hd rfl (k p e R s m args below meth c H locs cells slots ls mc ms h)
theorem wp_lcmp {x y : Int64} (hd : decode mt.2.1 pc = .ok (.lcmp, 1)) (k : WP Γ mt b (pc + 1) lv (.int (lg_cmp x y) :: rest) Δ I J Q) : WP Γ mt b pc lv (.long y :: .long x :: rest) Δ I J Q :=
  fun p e R s m args below meth c H locs cells slots ls mc ms h => W.lcmp h.1.1 h.1.2.1 hd (k p e R s m args below meth c H locs cells slots ls mc ms h)
theorem wp_dup {v : Value} (hd : decode mt.2.1 pc = .ok (.dup, 1)) (hc : v.category = 1) (k : WP Γ mt b (pc + 1) lv (v :: v :: rest) Δ I J Q) : WP Γ mt b pc lv (v :: rest) Δ I J Q :=
  fun p e R s m args below meth c H locs cells slots ls mc ms h => lv_dup h.1.1 h.1.2.1 hd hc (k p e R s m args below meth c H locs cells slots ls mc ms h)
theorem wp_pop {v : Value} (hd : decode mt.2.1 pc = .ok (.pop, 1)) (hc : v.category = 1) (k : WP Γ mt b (pc + 1) lv (rest) Δ I J Q) : WP Γ mt b pc lv (v :: rest) Δ I J Q :=
  fun p e R s m args below meth c H locs cells slots ls mc ms h => lv_pop h.1.1 h.1.2.1 hd hc (k p e R s m args below meth c H locs cells slots ls mc ms h)
theorem wp_dup2 {v u : Value} (hd : decode mt.2.1 pc = .ok (.dup2, 1)) (hc : v.category = 1) (hc2 : u.category = 1) (k : WP Γ mt b (pc + 1) lv (v :: u :: v :: u :: rest) Δ I J Q) : WP Γ mt b pc lv (v :: u :: rest) Δ I J Q :=
  fun p e R s m args below meth c H locs cells slots ls mc ms h => lv_dup2_11 h.1.1 h.1.2.1 hd hc hc2 (k p e R s m args below meth c H locs cells slots ls mc ms h)
theorem wp_iload_n {k : Fin 4} {x : Int32} (hd : decode mt.2.1 pc = .ok (.iload_n k, 1)) (q : Nat) (hq : lv[q]? = some ((k : Nat), .int x)) (kk : WP Γ mt b (pc + 1) lv (.int x :: rest) Δ I J Q) : WP Γ mt b pc lv rest Δ I J Q :=
  fun p e R s m args below meth c H locs cells slots ls mc ms h => lv_iload_n h.1.1 h.1.2.1 hd rfl (lv_at h.2.2.2.2 q hq) (kk p e R s m args below meth c H locs cells slots ls mc ms h)
theorem wp_iload {k : Nat} {x : Int32} (hd : decode mt.2.1 pc = .ok (.iload k, 2)) (q : Nat) (hq : lv[q]? = some (k, .int x)) (kk : WP Γ mt b (pc + 2) lv (.int x :: rest) Δ I J Q) : WP Γ mt b pc lv rest Δ I J Q :=
  fun p e R s m args below meth c H locs cells slots ls mc ms h => lv_iload h.1.1 h.1.2.1 hd (lv_at h.2.2.2.2 q hq) (kk p e R s m args below meth c H locs cells slots ls mc ms h)
theorem wp_lload_n {k : Fin 4} {x : Int64} (hd : decode mt.2.1 pc = .ok (.lload_n k, 1)) (q : Nat) (hq : lv[q]? = some ((k : Nat), .long x)) (kk : WP Γ mt b (pc + 1) lv (.long x :: rest) Δ I J Q) : WP Γ mt b pc lv rest Δ I J Q :=
  fun p e R s m args below meth c H locs cells slots ls mc ms h => lv_lload_n h.1.1 h.1.2.1 hd rfl (lv_at h.2.2.2.2 q hq) (kk p e R s m args below meth c H locs cells slots ls mc ms h)
theorem wp_lload {k : Nat} {x : Int64} (hd : decode mt.2.1 pc = .ok (.lload k, 2)) (q : Nat) (hq : lv[q]? = some (k, .long x)) (kk : WP Γ mt b (pc + 2) lv (.long x :: rest) Δ I J Q) : WP Γ mt b pc lv rest Δ I J Q :=
  fun p e R s m args below meth c H locs cells slots ls mc ms h => lv_lload h.1.1 h.1.2.1 hd (lv_at h.2.2.2.2 q hq) (kk p e R s m args below meth c H locs cells slots ls mc ms h)
theorem wp_aload_n {k : Fin 4} {x : Nat} (hd : decode mt.2.1 pc = .ok (.aload_n k, 1)) (q : Nat) (hq : lv[q]? = some ((k : Nat), .ref x)) (kk : WP Γ mt b (pc + 1) lv (.ref x :: rest) Δ I J Q) : WP Γ mt b pc lv rest Δ I J Q :=
  fun p e R s m args below meth c H locs cells slots ls mc ms h => lv_aload_n h.1.1 h.1.2.1 hd rfl (lv_at h.2.2.2.2 q hq) (kk p e R s m args below meth c H locs cells slots ls mc ms h)
theorem wp_aload {k : Nat} {x : Nat} (hd : decode mt.2.1 pc = .ok (.aload k, 2)) (q : Nat) (hq : lv[q]? = some (k, .ref x)) (kk : WP Γ mt b (pc + 2) lv (.ref x :: rest) Δ I J Q) : WP Γ mt b pc lv rest Δ I J Q :=
  fun p e R s m args below meth c H locs cells slots ls mc ms h => lv_aload h.1.1 h.1.2.1 hd (lv_at h.2.2.2.2 q hq) (kk p e R s m args below meth c H locs cells slots ls mc ms h)
def l_set (lv : List (Nat × Value)) (i : Nat) (v : Value) : List (Nat × Value) := if lv.any (fun q => q.1 == i) then lv.map (fun q => if q.1 == i then (i, v) else q) else lv ++ [(i, v)]
def l_ok1 (lv : List (Nat × Value)) (i : Nat) : Bool := lv.all (fun q => !(q.1 + 1 == i && q.2.category == 2))
def l_ok2 (lv : List (Nat × Value)) (i : Nat) : Bool := lv.all (fun q => !(q.1 == i + 1) && !(q.1 + 1 == i && q.2.category == 2))
theorem l_set_in {lv : List (Nat × Value)} {i : Nat} {v : Value} {z : Nat × Value} (h : z ∈ l_set lv i v) : z = (i, v) ∨ (z ∈ lv ∧ (z.1 == i) = false) := by
  unfold l_set at h
  split at h
  · obtain ⟨q, hq, e⟩ := List.mem_map.mp h
    by_cases c : (q.1 == i) = true
    · rw [if_pos c] at e; exact Or.inl e.symm
    · rw [if_neg c] at e; subst e; exact Or.inr ⟨hq, by simpa using c⟩
  · next hn =>
    rcases List.mem_append.mp h with h | h
    · refine Or.inr ⟨h, ?_⟩
      cases hz : (z.1 == i) with
      | false => rfl
      | true => exact absurd (List.any_eq_true.mpr ⟨z, h, hz⟩) hn
    · exact Or.inl (List.mem_singleton.mp h)
theorem l_has1 {ls : Array Slot} {nL : Nat} {lv lv' : List (Nat × Value)} {i : Nat} {v : Value} (h : lv_has ls nL ((i, v) :: lv.filter (fun q => !(q.1 == i) && !(q.1 + 1 == i && q.2.category == 2)))) (hok : l_ok1 lv i = true) (hl : l_set lv i v = lv') : lv_has ls nL lv' := by
  subst hl
  refine ⟨h.1, h.2.1, fun z hz => ?_⟩
  rcases l_set_in hz with e | ⟨e1, e2⟩
  · exact h.2.2 z (List.mem_cons.mpr (Or.inl e))
  · exact h.2.2 z (List.mem_cons_of_mem _ (List.mem_filter.mpr ⟨e1, by rw [e2]; simpa using List.all_eq_true.mp hok z e1⟩))
theorem l_has2 {ls : Array Slot} {nL : Nat} {lv lv' : List (Nat × Value)} {i : Nat} {v : Value} (h : lv_has ls nL ((i, v) :: lv.filter (fun q => !(q.1 == i) && (!(q.1 == i + 1) && !(q.1 + 1 == i && q.2.category == 2))))) (hok : l_ok2 lv i = true) (hl : l_set lv i v = lv') : lv_has ls nL lv' := by
  subst hl
  refine ⟨h.1, h.2.1, fun z hz => ?_⟩
  rcases l_set_in hz with e | ⟨e1, e2⟩
  · exact h.2.2 z (List.mem_cons.mpr (Or.inl e))
  · exact h.2.2 z (List.mem_cons_of_mem _ (List.mem_filter.mpr ⟨e1, by rw [e2]; simpa using List.all_eq_true.mp hok z e1⟩))
theorem wp_istore_n {k : Fin 4} {i : Nat} {x : Int32} {lv' : List (Nat × Value)} (hd : decode mt.2.1 pc = .ok (.istore_n k, 1)) (hi : (k : Nat) = i) (hn : Nat.ble (i + 1) mt.2.2.1 = true) (hok : l_ok1 lv i = true) (hl : l_set lv i (.int x) = lv') (kk : WP Γ mt b (pc + 1) lv' rest Δ I J Q) : WP Γ mt b pc lv (.int x :: rest) Δ I J Q :=
  fun p e R s m args below meth c H locs cells slots ls mc ms h => lv_istore_n h.1.1 h.1.2.1 hd hi h.2.2.2.2 (Nat.le_of_ble_eq_true hn) rfl (fun ls hls => kk p e R s m args below meth c H locs cells slots ls mc ms ⟨h.1, h.2.1, h.2.2.1, h.2.2.2.1, l_has1 hls hok hl⟩)
theorem wp_istore {i : Nat} {x : Int32} {lv' : List (Nat × Value)} (hd : decode mt.2.1 pc = .ok (.istore i, 2)) (hn : Nat.ble (i + 1) mt.2.2.1 = true) (hok : l_ok1 lv i = true) (hl : l_set lv i (.int x) = lv') (kk : WP Γ mt b (pc + 2) lv' rest Δ I J Q) : WP Γ mt b pc lv (.int x :: rest) Δ I J Q :=
  fun p e R s m args below meth c H locs cells slots ls mc ms h => lv_istore h.1.1 h.1.2.1 hd h.2.2.2.2 (Nat.le_of_ble_eq_true hn) rfl (fun ls hls => kk p e R s m args below meth c H locs cells slots ls mc ms ⟨h.1, h.2.1, h.2.2.1, h.2.2.2.1, l_has1 hls hok hl⟩)
theorem wp_lstore_n {k : Fin 4} {i : Nat} {x : Int64} {lv' : List (Nat × Value)} (hd : decode mt.2.1 pc = .ok (.lstore_n k, 1)) (hi : (k : Nat) = i) (hn : Nat.ble (i + 2) mt.2.2.1 = true) (hok : l_ok2 lv i = true) (hl : l_set lv i (.long x) = lv') (kk : WP Γ mt b (pc + 1) lv' rest Δ I J Q) : WP Γ mt b pc lv (.long x :: rest) Δ I J Q :=
  fun p e R s m args below meth c H locs cells slots ls mc ms h => lv_lstore_n h.1.1 h.1.2.1 hd hi h.2.2.2.2 (Nat.le_of_ble_eq_true hn) rfl (fun ls hls => kk p e R s m args below meth c H locs cells slots ls mc ms ⟨h.1, h.2.1, h.2.2.1, h.2.2.2.1, l_has2 hls hok hl⟩)
theorem wp_lstore {i : Nat} {x : Int64} {lv' : List (Nat × Value)} (hd : decode mt.2.1 pc = .ok (.lstore i, 2)) (hn : Nat.ble (i + 2) mt.2.2.1 = true) (hok : l_ok2 lv i = true) (hl : l_set lv i (.long x) = lv') (kk : WP Γ mt b (pc + 2) lv' rest Δ I J Q) : WP Γ mt b pc lv (.long x :: rest) Δ I J Q :=
  fun p e R s m args below meth c H locs cells slots ls mc ms h => lv_lstore h.1.1 h.1.2.1 hd h.2.2.2.2 (Nat.le_of_ble_eq_true hn) rfl (fun ls hls => kk p e R s m args below meth c H locs cells slots ls mc ms ⟨h.1, h.2.1, h.2.2.1, h.2.2.2.1, l_has2 hls hok hl⟩)
theorem wp_astore_n {k : Fin 4} {i : Nat} {x : Nat} {lv' : List (Nat × Value)} (hd : decode mt.2.1 pc = .ok (.astore_n k, 1)) (hi : (k : Nat) = i) (hn : Nat.ble (i + 1) mt.2.2.1 = true) (hok : l_ok1 lv i = true) (hl : l_set lv i (.ref x) = lv') (kk : WP Γ mt b (pc + 1) lv' rest Δ I J Q) : WP Γ mt b pc lv (.ref x :: rest) Δ I J Q :=
  fun p e R s m args below meth c H locs cells slots ls mc ms h => lv_astore_n h.1.1 h.1.2.1 hd hi h.2.2.2.2 (Nat.le_of_ble_eq_true hn) rfl (fun ls hls => kk p e R s m args below meth c H locs cells slots ls mc ms ⟨h.1, h.2.1, h.2.2.1, h.2.2.2.1, l_has1 hls hok hl⟩)
theorem wp_astore {i : Nat} {x : Nat} {lv' : List (Nat × Value)} (hd : decode mt.2.1 pc = .ok (.astore i, 2)) (hn : Nat.ble (i + 1) mt.2.2.1 = true) (hok : l_ok1 lv i = true) (hl : l_set lv i (.ref x) = lv') (kk : WP Γ mt b (pc + 2) lv' rest Δ I J Q) : WP Γ mt b pc lv (.ref x :: rest) Δ I J Q :=
  fun p e R s m args below meth c H locs cells slots ls mc ms h => lv_astore h.1.1 h.1.2.1 hd h.2.2.2.2 (Nat.le_of_ble_eq_true hn) rfl (fun ls hls => kk p e R s m args below meth c H locs cells slots ls mc ms ⟨h.1, h.2.1, h.2.2.1, h.2.2.2.1, l_has1 hls hok hl⟩)
theorem wp_iinc {i : Nat} {n : Int} {x v : Int32} {lv' : List (Nat × Value)} (hd : decode mt.2.1 pc = .ok (.iinc i n, 3)) (q : Nat) (hq : lv[q]? = some (i, .int x)) (hv : x + Int32.ofInt n = v) (hn : Nat.ble (i + 1) mt.2.2.1 = true) (hok : l_ok1 lv i = true) (hl : l_set lv i (.int v) = lv') (kk : WP Γ mt b (pc + 3) lv' rest Δ I J Q) : WP Γ mt b pc lv rest Δ I J Q :=
  fun p e R s m args below meth c H locs cells slots ls mc ms h => lv_iinc h.1.1 h.1.2.1 hd h.2.2.2.2 hq hv (Nat.le_of_ble_eq_true hn) rfl (fun ls hls => kk p e R s m args below meth c H locs cells slots ls mc ms ⟨h.1, h.2.1, h.2.2.1, h.2.2.2.1, l_has1 hls hok hl⟩)
theorem wp_sub (lv' : List (Nat × Value)) (hl : ∀ z ∈ lv', z ∈ lv) (kk : WP Γ mt b pc lv' st Δ I J Q) : WP Γ mt b pc lv st Δ I J Q :=
  fun p e R s m args below meth c H locs cells slots ls mc ms h => kk p e R s m args below meth c H locs cells slots ls mc ms ⟨h.1, h.2.1, h.2.2.1, h.2.2.2.1, h.2.2.2.2.1, h.2.2.2.2.2.1, fun z hz => h.2.2.2.2.2.2 z (hl z hz)⟩
theorem wp_goto {off : Int} (tgt : Nat) (hd : decode mt.2.1 pc = .ok (.goto off, 3)) (ht : (pc : Int) + off = (tgt : Int)) (k : WP Γ mt b tgt lv rest Δ I J Q) : WP Γ mt b pc lv rest Δ I J Q :=
  fun p e R s m args below meth c H locs cells slots ls mc ms h => lv_goto h.1.1 h.1.2.1 hd ht (k p e R s m args below meth c H locs cells slots ls mc ms h)
-- IF eq
-- IF ne
-- IF lt
-- IF ge
-- IF gt
-- IF le
theorem wp_if_eq {x : Int32} {off : Int} (tgt : Nat) (hd : decode mt.2.1 pc = .ok (.ifCond .eq off, 3)) (ht : (pc : Int) + off = (tgt : Int)) (kt : x = 0 → WP Γ mt b tgt lv rest Δ I J Q) (kf : ¬ x = 0 → WP Γ mt b (pc + 3) lv rest Δ I J Q) : WP Γ mt b pc lv (.int x :: rest) Δ I J Q :=
  fun p e R s m args below meth c H locs cells slots ls mc ms h => lv_if_eq h.1.1 h.1.2.1 hd ht (fun q => kt q p e R s m args below meth c H locs cells slots ls mc ms h) (fun q => kf q p e R s m args below meth c H locs cells slots ls mc ms h)
theorem wp_icmp_eq {x y : Int32} {off : Int} (tgt : Nat) (hd : decode mt.2.1 pc = .ok (.if_icmp .eq off, 3)) (ht : (pc : Int) + off = (tgt : Int)) (kt : x = y → WP Γ mt b tgt lv rest Δ I J Q) (kf : ¬ x = y → WP Γ mt b (pc + 3) lv rest Δ I J Q) : WP Γ mt b pc lv (.int y :: .int x :: rest) Δ I J Q :=
  fun p e R s m args below meth c H locs cells slots ls mc ms h => lv_icmp_eq h.1.1 h.1.2.1 hd ht (fun q => kt q p e R s m args below meth c H locs cells slots ls mc ms h) (fun q => kf q p e R s m args below meth c H locs cells slots ls mc ms h)
theorem wp_if_ne {x : Int32} {off : Int} (tgt : Nat) (hd : decode mt.2.1 pc = .ok (.ifCond .ne off, 3)) (ht : (pc : Int) + off = (tgt : Int)) (kt : ¬ x = 0 → WP Γ mt b tgt lv rest Δ I J Q) (kf : x = 0 → WP Γ mt b (pc + 3) lv rest Δ I J Q) : WP Γ mt b pc lv (.int x :: rest) Δ I J Q :=
  fun p e R s m args below meth c H locs cells slots ls mc ms h => lv_if_ne h.1.1 h.1.2.1 hd ht (fun q => kt q p e R s m args below meth c H locs cells slots ls mc ms h) (fun q => kf q p e R s m args below meth c H locs cells slots ls mc ms h)
theorem wp_icmp_ne {x y : Int32} {off : Int} (tgt : Nat) (hd : decode mt.2.1 pc = .ok (.if_icmp .ne off, 3)) (ht : (pc : Int) + off = (tgt : Int)) (kt : ¬ x = y → WP Γ mt b tgt lv rest Δ I J Q) (kf : x = y → WP Γ mt b (pc + 3) lv rest Δ I J Q) : WP Γ mt b pc lv (.int y :: .int x :: rest) Δ I J Q :=
  fun p e R s m args below meth c H locs cells slots ls mc ms h => lv_icmp_ne h.1.1 h.1.2.1 hd ht (fun q => kt q p e R s m args below meth c H locs cells slots ls mc ms h) (fun q => kf q p e R s m args below meth c H locs cells slots ls mc ms h)
theorem wp_if_lt {x : Int32} {off : Int} (tgt : Nat) (hd : decode mt.2.1 pc = .ok (.ifCond .lt off, 3)) (ht : (pc : Int) + off = (tgt : Int)) (kt : x < 0 → WP Γ mt b tgt lv rest Δ I J Q) (kf : ¬ x < 0 → WP Γ mt b (pc + 3) lv rest Δ I J Q) : WP Γ mt b pc lv (.int x :: rest) Δ I J Q :=
  fun p e R s m args below meth c H locs cells slots ls mc ms h => lv_if_lt h.1.1 h.1.2.1 hd ht (fun q => kt q p e R s m args below meth c H locs cells slots ls mc ms h) (fun q => kf q p e R s m args below meth c H locs cells slots ls mc ms h)
theorem wp_icmp_lt {x y : Int32} {off : Int} (tgt : Nat) (hd : decode mt.2.1 pc = .ok (.if_icmp .lt off, 3)) (ht : (pc : Int) + off = (tgt : Int)) (kt : x < y → WP Γ mt b tgt lv rest Δ I J Q) (kf : ¬ x < y → WP Γ mt b (pc + 3) lv rest Δ I J Q) : WP Γ mt b pc lv (.int y :: .int x :: rest) Δ I J Q :=
  fun p e R s m args below meth c H locs cells slots ls mc ms h => lv_icmp_lt h.1.1 h.1.2.1 hd ht (fun q => kt q p e R s m args below meth c H locs cells slots ls mc ms h) (fun q => kf q p e R s m args below meth c H locs cells slots ls mc ms h)
theorem wp_if_ge {x : Int32} {off : Int} (tgt : Nat) (hd : decode mt.2.1 pc = .ok (.ifCond .ge off, 3)) (ht : (pc : Int) + off = (tgt : Int)) (kt : 0 ≤ x → WP Γ mt b tgt lv rest Δ I J Q) (kf : ¬ 0 ≤ x → WP Γ mt b (pc + 3) lv rest Δ I J Q) : WP Γ mt b pc lv (.int x :: rest) Δ I J Q :=
  fun p e R s m args below meth c H locs cells slots ls mc ms h => lv_if_ge h.1.1 h.1.2.1 hd ht (fun q => kt q p e R s m args below meth c H locs cells slots ls mc ms h) (fun q => kf q p e R s m args below meth c H locs cells slots ls mc ms h)
theorem wp_icmp_ge {x y : Int32} {off : Int} (tgt : Nat) (hd : decode mt.2.1 pc = .ok (.if_icmp .ge off, 3)) (ht : (pc : Int) + off = (tgt : Int)) (kt : y ≤ x → WP Γ mt b tgt lv rest Δ I J Q) (kf : ¬ y ≤ x → WP Γ mt b (pc + 3) lv rest Δ I J Q) : WP Γ mt b pc lv (.int y :: .int x :: rest) Δ I J Q :=
  fun p e R s m args below meth c H locs cells slots ls mc ms h => lv_icmp_ge h.1.1 h.1.2.1 hd ht (fun q => kt q p e R s m args below meth c H locs cells slots ls mc ms h) (fun q => kf q p e R s m args below meth c H locs cells slots ls mc ms h)
theorem wp_if_gt {x : Int32} {off : Int} (tgt : Nat) (hd : decode mt.2.1 pc = .ok (.ifCond .gt off, 3)) (ht : (pc : Int) + off = (tgt : Int)) (kt : 0 < x → WP Γ mt b tgt lv rest Δ I J Q) (kf : ¬ 0 < x → WP Γ mt b (pc + 3) lv rest Δ I J Q) : WP Γ mt b pc lv (.int x :: rest) Δ I J Q :=
  fun p e R s m args below meth c H locs cells slots ls mc ms h => lv_if_gt h.1.1 h.1.2.1 hd ht (fun q => kt q p e R s m args below meth c H locs cells slots ls mc ms h) (fun q => kf q p e R s m args below meth c H locs cells slots ls mc ms h)
theorem wp_icmp_gt {x y : Int32} {off : Int} (tgt : Nat) (hd : decode mt.2.1 pc = .ok (.if_icmp .gt off, 3)) (ht : (pc : Int) + off = (tgt : Int)) (kt : y < x → WP Γ mt b tgt lv rest Δ I J Q) (kf : ¬ y < x → WP Γ mt b (pc + 3) lv rest Δ I J Q) : WP Γ mt b pc lv (.int y :: .int x :: rest) Δ I J Q :=
  fun p e R s m args below meth c H locs cells slots ls mc ms h => lv_icmp_gt h.1.1 h.1.2.1 hd ht (fun q => kt q p e R s m args below meth c H locs cells slots ls mc ms h) (fun q => kf q p e R s m args below meth c H locs cells slots ls mc ms h)
theorem wp_if_le {x : Int32} {off : Int} (tgt : Nat) (hd : decode mt.2.1 pc = .ok (.ifCond .le off, 3)) (ht : (pc : Int) + off = (tgt : Int)) (kt : x ≤ 0 → WP Γ mt b tgt lv rest Δ I J Q) (kf : ¬ x ≤ 0 → WP Γ mt b (pc + 3) lv rest Δ I J Q) : WP Γ mt b pc lv (.int x :: rest) Δ I J Q :=
  fun p e R s m args below meth c H locs cells slots ls mc ms h => lv_if_le h.1.1 h.1.2.1 hd ht (fun q => kt q p e R s m args below meth c H locs cells slots ls mc ms h) (fun q => kf q p e R s m args below meth c H locs cells slots ls mc ms h)
theorem wp_icmp_le {x y : Int32} {off : Int} (tgt : Nat) (hd : decode mt.2.1 pc = .ok (.if_icmp .le off, 3)) (ht : (pc : Int) + off = (tgt : Int)) (kt : x ≤ y → WP Γ mt b tgt lv rest Δ I J Q) (kf : ¬ x ≤ y → WP Γ mt b (pc + 3) lv rest Δ I J Q) : WP Γ mt b pc lv (.int y :: .int x :: rest) Δ I J Q :=
  fun p e R s m args below meth c H locs cells slots ls mc ms h => lv_icmp_le h.1.1 h.1.2.1 hd ht (fun q => kt q p e R s m args below meth c H locs cells slots ls mc ms h) (fun q => kf q p e R s m args below meth c H locs cells slots ls mc ms h)
theorem wp_ireturn {v : Int32} {ty : FieldType} (hd : decode mt.2.1 pc = .ok (.ireturn, 1)) (hr : mt.2.2.2.1 = some ty) (hn : narrow ty (.int v) = .int v) (hq : Q (some (.int v)) Δ I J) : WP Γ mt b pc lv [.int v] Δ I J Q :=
  fun p e R s m args below meth c H locs cells slots ls mc ms h => W.widen (k := mc) (n := ms) (by have := h.2.1; omega) (by have := h.2.1; omega) (W.zret (ty := ty) h.1.1 h.1.2.1 (h.1.2.2.1.trans hr) hn (fun t ht _ => ⟨⟨_, Δ, I, J, rfl, hq, by rw [ht]; exact h.2.2.1.1, h.2.2.1.2.1⟩, h.2.2.1.2.2.1.F ht⟩) h.2.2.1.2.2.1.2.2 hd h.1.2.2.2.2.2.2.1)
theorem wp_lreturn {v : Int64} (hd : decode mt.2.1 pc = .ok (.lreturn, 1)) (hr : mt.2.2.2.1 = some .long) (hq : Q (some (.long v)) Δ I J) : WP Γ mt b pc lv [.long v] Δ I J Q :=
  fun p e R s m args below meth c H locs cells slots ls mc ms h => W.widen (k := mc) (n := ms) (by have := h.2.1; omega) (by have := h.2.1; omega) (W.lret h.1.1 h.1.2.1 (h.1.2.2.1.trans hr) (fun t ht _ => ⟨⟨_, Δ, I, J, rfl, hq, by rw [ht]; exact h.2.2.1.1, h.2.2.1.2.1⟩, h.2.2.1.2.2.1.F ht⟩) h.2.2.1.2.2.1.2.2 hd h.1.2.2.2.2.2.2.1)
theorem wp_return (hd : decode mt.2.1 pc = .ok (.return_, 1)) (hr : mt.2.2.2.1 = none) (hq : Q none Δ I J) : WP Γ mt b pc lv [] Δ I J Q :=
  fun p e R s m args below meth c H locs cells slots ls mc ms h => W.widen (k := mc) (n := ms) (by have := h.2.1; omega) (by have := h.2.1; omega) (W.vret h.1.1 h.1.2.1 (h.1.2.2.1.trans hr) (fun t ht _ => ⟨⟨_, Δ, I, J, rfl, hq, by rw [ht]; exact h.2.2.1.1, h.2.2.1.2.1⟩, h.2.2.1.2.2.1.F ht⟩) h.2.2.1.2.2.1.2.2 hd h.1.2.2.2.2.2.2.1)
end RULES
