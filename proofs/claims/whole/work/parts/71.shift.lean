/-! the class's and the reference's moves of rows of bits -/
theorem wf_p1 {f : Nat → Int64} {b w : Nat} (hb : b < 64) (x : Int64) (q : Nat) : wf_j (vp_updL f w (f w ||| (x <<< ((nI b).toInt64 &&& 63)))) q = true ↔ (wf_j f q = true ∨ (64 * w + b ≤ q ∧ q < 64 * w + 64 ∧ wf_b x (q - (64 * w + b)) = true)) := by
  rw [wf_step1 hb]
  simp [and_assoc]
theorem wf_p2 {f : Nat → Int64} {b w : Nat} (h0 : 0 < b) (hb : b < 64) (x : Int64) (q : Nat) : wf_j (vp_updL f w (f w ||| (x.toUInt64 >>> ((nI (64 - b)).toInt64.toUInt64 &&& Int64.toUInt64 63)).toInt64)) q = true ↔ (wf_j f q = true ∨ (64 * w ≤ q ∧ q < 64 * w + b ∧ wf_b x (q + 64 - (64 * w + b)) = true)) := by
  rw [wf_step2 h0 hb]
  simp [and_assoc]
theorem wf_src {f : Nat → Int64} {w e : Nat} (h : e < 64) : wf_j f (64 * w + e) = wf_b (f w) e := by
  unfold wf_j
  rw [show (64 * w + e) / 64 = w by omega, show (64 * w + e) % 64 = e by omega]
theorem wf_un {f : Nat → Int64} {w q : Nat} {v : Int64} (h : q / 64 ≠ w) : wf_j (vp_updL f w v) q = wf_j f q := by
  unfold wf_j
  rw [pk_uLn h]
theorem sh37_ok {T F E b wd : Nat} (hb : b < 64) (hE : E ≤ 752) (hF : F + wd ≤ T) (hT0 : T ≤ 1000) (hw : wd ≤ 47) : ∀ d n i J, i + d = wd → d < n → ∃ J', f_X5_shiftInto_37 n (nI wd) (nI T) (nI F) (nI E) (nI b) (nI i) J = some J' ∧ (∀ k, k ≠ 47 → J' k = J k) ∧ ∀ q, wf_j (J' 47) q = true ↔ (wf_j (J 47) q = true ∨ (64 * T + b + 64 * i ≤ q ∧ q < 64 * E ∧ q < 64 * T + b + 64 * wd ∧ wf_j (J 47) (q - (64 * T + b) + 64 * F) = true)) := by
  intro d
  induction d with
  | zero =>
    intro n i J hi hn
    obtain ⟨n, rfl⟩ : ∃ m, n = m + 1 := ⟨n - 1, by omega⟩
    obtain rfl : i = wd := by omega
    rw [f_X5_shiftInto_37, if_pos (nI_le (Nat.le_refl _) (by omega))]
    refine ⟨J, rfl, fun _ _ => rfl, fun q => ⟨fun h => Or.inl h, fun h => ?_⟩⟩
    rcases h with h | h
    · exact h
    · omega
  | succ d ih =>
    intro n i J hi hn
    obtain ⟨n, rfl⟩ : ∃ m, n = m + 1 := ⟨n - 1, by omega⟩
    have c0 : ¬ nI wd ≤ nI i := by rw [nI_leI (by omega) (by omega)]; omega
    by_cases hT : E ≤ T + i
    · rw [f_X5_shiftInto_37, if_neg c0, nI_add]
      refine ⟨J, ?_, fun _ _ => rfl, fun q => ⟨fun h => Or.inl h, fun h => ?_⟩⟩
      · rw [if_pos (by rw [nI_leI (by omega) (by omega)]; exact hT)]
      · rcases h with h | h
        · exact h
        · omega
    · have c1 : ¬ nI E ≤ nI (T + i) := by rw [nI_leI (by omega) (by omega)]; omega
      have src : ∀ J1 : JT, (∀ q, 64 * F ≤ q → q < 64 * (F + wd) → wf_j (J1 47) q = wf_j (J 47) q) → ∀ q, 64 * T + b ≤ q → q < 64 * T + b + 64 * wd → wf_j (J1 47) (q - (64 * T + b) + 64 * F) = wf_j (J 47) (q - (64 * T + b) + 64 * F) := fun J1 h q h1 h2 => h _ (by omega) (by omega)
      have x0 : ∀ q, 64 * (T + i) + b ≤ q → q < 64 * (T + i) + b + 64 → wf_b (J 47 (F + i)) (q - (64 * (T + i) + b)) = wf_j (J 47) (q - (64 * T + b) + 64 * F) := by
        intro q h1 h2
        rw [← wf_src (f := J 47) (w := F + i) (show q - (64 * (T + i) + b) < 64 by omega), show 64 * (F + i) + (q - (64 * (T + i) + b)) = q - (64 * T + b) + 64 * F by omega]
      rw [f_X5_shiftInto_37, if_neg c0, nI_add, if_neg c1, if_pos (inb_nI (show T + i < 752 by omega) (by omega)), nI_add, if_pos (inb_nI (show F + i < 752 by omega) (by omega)), if_pos (inb_nI (show T + i < 752 by omega) (by omega)), nI_clamp (show T + i < 2 ^ 31 by omega), nI_clamp (show F + i < 2 ^ 31 by omega), nI_1, nI_1]
      have p1 : ∀ q, wf_j ((upJ J 47 (T + i) ((J 47 (T + i)) ||| ((J 47 (F + i)) <<< ((nI b).toInt64 &&& 63)))) 47) q = true ↔ (wf_j (J 47) q = true ∨ (64 * (T + i) + b ≤ q ∧ q < 64 * (T + i) + 64 ∧ wf_j (J 47) (q - (64 * T + b) + 64 * F) = true)) := by
        intro q
        rw [upJ_k, wf_p1 hb]
        constructor
        · rintro (h | ⟨h1, h2, h3⟩)
          · exact Or.inl h
          · exact Or.inr ⟨h1, h2, by rw [← x0 q h1 (by omega)]; exact h3⟩
        · rintro (h | ⟨h1, h2, h3⟩)
          · exact Or.inl h
          · exact Or.inr ⟨h1, h2, by rw [x0 q h1 (by omega)]; exact h3⟩
      have s1 : ∀ q, 64 * F ≤ q → q < 64 * (F + wd) → wf_j ((upJ J 47 (T + i) ((J 47 (T + i)) ||| ((J 47 (F + i)) <<< ((nI b).toInt64 &&& 63)))) 47) q = wf_j (J 47) q := fun q h1 h2 => by
        rw [upJ_k, wf_un (by omega)]
      by_cases hb0 : b = 0 ∨ E ≤ T + i + 1
      · have e0 : (if nI b ≤ 0 then f_X5_shiftInto_37 n (nI wd) (nI T) (nI F) (nI E) (nI b) (nI (i + 1)) (upJ J 47 (T + i) ((J 47 (T + i)) ||| ((J 47 (F + i)) <<< ((nI b).toInt64 &&& 63)))) else if nI E ≤ nI (T + i + 1) then f_X5_shiftInto_37 n (nI wd) (nI T) (nI F) (nI E) (nI b) (nI (i + 1)) (upJ J 47 (T + i) ((J 47 (T + i)) ||| ((J 47 (F + i)) <<< ((nI b).toInt64 &&& 63)))) else if inbB (nI (T + i + 1)) 752 = true then if inbB (nI (F + i)) 752 = true then if inbB (nI (T + i + 1)) 752 = true then f_X5_shiftInto_37 n (nI wd) (nI T) (nI F) (nI E) (nI b) (nI (i + 1)) (upJ (upJ J 47 (T + i) ((J 47 (T + i)) ||| ((J 47 (F + i)) <<< ((nI b).toInt64 &&& 63)))) 47 ((nI (T + i + 1)).toNatClampNeg) (((upJ J 47 (T + i) ((J 47 (T + i)) ||| ((J 47 (F + i)) <<< ((nI b).toInt64 &&& 63)))) 47 (nI (T + i + 1)).toNatClampNeg) ||| ((((upJ J 47 (T + i) ((J 47 (T + i)) ||| ((J 47 (F + i)) <<< ((nI b).toInt64 &&& 63)))) 47 (F + i)).toUInt64 >>> ((64 - nI b).toInt64.toUInt64 &&& Int64.toUInt64 63)).toInt64))) else none else none else none) = f_X5_shiftInto_37 n (nI wd) (nI T) (nI F) (nI E) (nI b) (nI (i + 1)) (upJ J 47 (T + i) ((J 47 (T + i)) ||| ((J 47 (F + i)) <<< ((nI b).toInt64 &&& 63)))) := by
          rcases hb0 with h | h
          · rw [if_pos (by rw [h]; decide)]
          · by_cases hb1 : nI b ≤ 0
            · rw [if_pos hb1]
            · rw [if_neg hb1, if_pos (by rw [nI_leI (by omega) (by omega)]; exact h)]
        rw [e0]
        obtain ⟨J', a1, a2, a3⟩ := ih n (i + 1) (upJ J 47 (T + i) ((J 47 (T + i)) ||| ((J 47 (F + i)) <<< ((nI b).toInt64 &&& 63)))) (by omega) (by omega)
        refine ⟨J', a1, fun k hk => by rw [a2 k hk, upJ_o hk], fun q => ?_⟩
        rw [a3 q, p1 q]
        constructor
        · rintro ((h | ⟨h1, h2, h3⟩) | ⟨h1, h2, h3, h4⟩)
          · exact Or.inl h
          · exact Or.inr ⟨by omega, by omega, by omega, h3⟩
          · exact Or.inr ⟨by omega, h2, h3, by rw [← src _ s1 q (by omega) h3]; exact h4⟩
        · rintro (h | ⟨h1, h2, h3, h4⟩)
          · exact Or.inl (Or.inl h)
          · by_cases g : q < 64 * T + b + 64 * (i + 1)
            · exact Or.inl (Or.inr ⟨by omega, by omega, h4⟩)
            · exact Or.inr ⟨by omega, h2, h3, by rw [src _ s1 q (by omega) h3]; exact h4⟩
      · have g1 : 0 < b := by omega
        have g2 : T + i + 1 < E := by omega
        rw [if_neg (nI_nle g1 (by omega)), if_neg (by rw [nI_leI (by omega) (by omega)]; omega), if_pos (inb_nI (show T + i + 1 < 752 by omega) (by omega)), if_pos (inb_nI (show F + i < 752 by omega) (by omega)), if_pos (inb_nI (show T + i + 1 < 752 by omega) (by omega)), nI_clamp (show T + i + 1 < 2 ^ 31 by omega), show (64 : Int32) - nI b = nI (64 - b) from by rw [show (64 : Int32) = nI 64 from rfl, pk_sub (by omega)]]
        obtain ⟨J1, hJ1⟩ : ∃ J1, J1 = upJ J 47 (T + i) ((J 47 (T + i)) ||| ((J 47 (F + i)) <<< ((nI b).toInt64 &&& 63))) := ⟨_, rfl⟩
        rw [← hJ1]
        rw [← hJ1] at p1 s1
        have x1 : J1 47 (F + i) = J 47 (F + i) := by rw [hJ1, upJ_j (by omega)]
        rw [x1]
        have f1 : ∀ k, k ≠ 47 → J1 k = J k := fun k hk => by rw [hJ1, upJ_o hk]
        obtain ⟨J2, hJ2⟩ : ∃ J2, J2 = upJ J1 47 (T + i + 1) (J1 47 (T + i + 1) ||| ((J 47 (F + i)).toUInt64 >>> ((nI (64 - b)).toInt64.toUInt64 &&& Int64.toUInt64 63)).toInt64) := ⟨_, rfl⟩
        rw [← hJ2]
        have f2 : ∀ k, k ≠ 47 → J2 k = J k := fun k hk => by rw [hJ2, upJ_o hk, f1 k hk]
        have p2 : ∀ q, wf_j (J2 47) q = true ↔ (wf_j (J 47) q = true ∨ (64 * (T + i) + b ≤ q ∧ q < 64 * (T + i) + b + 64 ∧ wf_j (J 47) (q - (64 * T + b) + 64 * F) = true)) := by
          intro q
          rw [hJ2, upJ_k, wf_p2 g1 hb, p1 q]
          constructor
          · rintro ((h | ⟨h1, h2, h3⟩) | ⟨h1, h2, h3⟩)
            · exact Or.inl h
            · exact Or.inr ⟨h1, by omega, h3⟩
            · refine Or.inr ⟨by omega, by omega, ?_⟩
              rw [← x0 q (by omega) (by omega), show q - (64 * (T + i) + b) = q + 64 - (64 * (T + i + 1) + b) by omega]
              exact h3
          · rintro (h | ⟨h1, h2, h3⟩)
            · exact Or.inl (Or.inl h)
            · by_cases g : q < 64 * (T + i) + 64
              · exact Or.inl (Or.inr ⟨h1, g, h3⟩)
              · refine Or.inr ⟨by omega, by omega, ?_⟩
                rw [show q + 64 - (64 * (T + i + 1) + b) = q - (64 * (T + i) + b) by omega, x0 q (by omega) (by omega)]
                exact h3
        have s2 : ∀ q, 64 * F ≤ q → q < 64 * (F + wd) → wf_j (J2 47) q = wf_j (J 47) q := fun q h1 h2 => by
          rw [hJ2, upJ_k, wf_un (by omega), s1 q h1 h2]
        obtain ⟨J', a1, a2, a3⟩ := ih n (i + 1) J2 (by omega) (by omega)
        refine ⟨J', a1, fun k hk => by rw [a2 k hk, f2 k hk], fun q => ?_⟩
        rw [a3 q, p2 q]
        constructor
        · rintro ((h | ⟨h1, h2, h3⟩) | ⟨h1, h2, h3, h4⟩)
          · exact Or.inl h
          · exact Or.inr ⟨by omega, by omega, by omega, h3⟩
          · exact Or.inr ⟨by omega, h2, h3, by rw [← src _ s2 q (by omega) h3]; exact h4⟩
        · rintro (h | ⟨h1, h2, h3, h4⟩)
          · exact Or.inl (Or.inl h)
          · by_cases g : q < 64 * T + b + 64 * (i + 1)
            · exact Or.inl (Or.inr ⟨by omega, by omega, h4⟩)
            · exact Or.inr ⟨by omega, h2, h3, by rw [src _ s2 q (by omega) h3]; exact h4⟩
/-- bit v of the class's row -/
def wf_x (J : JT) (row v : Nat) : Prop := wf_j (J 47) (64 * (47 * row) + v) = true
theorem sh_ok {to fr wd v : Nat} (hto : to < 16) (hfr : fr < to) (hw : wd ≤ 47) (hv : v ≤ 999) (J : JT) : ∃ J', f_X5_shiftInto (nI to) (nI fr) (nI wd) (nI v) J = some J' ∧ (∀ k, k ≠ 47 → J' k = J k) ∧ ∀ row q, row < 16 → q < 3008 → (wf_x J' row q ↔ (wf_x J row q ∨ (row = to ∧ v ≤ q ∧ q - v < 64 * wd ∧ wf_x J fr (q - v)))) := by
  obtain ⟨J', a1, a2, a3⟩ := sh37_ok (T := to * 47 + v / 64) (F := fr * 47) (E := to * 47 + 47) (b := v % 64) (wd := wd) (by omega) (by omega) (by omega) (by omega) hw wd FU 0 J (by omega) (by unfold FU; omega)
  refine ⟨J', ?_, a2, fun row q hr hq => ?_⟩
  · unfold f_X5_shiftInto
    rw [show (47 : Int32) = nI 47 from rfl, show (64 : Int32) = nI 64 from rfl, pk_rem (by omega) (by omega) (by omega), pk_mul, pk_mul, pk_div (by omega) (by omega) (by omega), nI_add, nI_add, ← nI_0, a1]
  · unfold wf_x
    rw [a3]
    constructor
    · rintro (h | ⟨h1, h2, h3, h4⟩)
      · exact Or.inl h
      · have e : row = to := by omega
        subst e
        refine Or.inr ⟨rfl, by omega, by omega, ?_⟩
        rw [show 64 * (47 * fr) + (q - v) = 64 * (47 * row) + q - (64 * (row * 47 + v / 64) + v % 64) + 64 * (fr * 47) by omega]
        exact h4
    · rintro (h | ⟨rfl, h2, h3, h4⟩)
      · exact Or.inl h
      · refine Or.inr ⟨by omega, by omega, by omega, ?_⟩
        rw [show 64 * (47 * row) + q - (64 * (row * 47 + v / 64) + v % 64) + 64 * (fr * 47) = 64 * (47 * fr) + (q - v) by omega]
        exact h4
