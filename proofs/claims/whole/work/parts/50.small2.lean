/-! SMALL: the class -/
theorem useful_x {T M : ha_St} (hIR : IR T) {E k : Nat} (hB : BkX T E (lnM M)) (hM : Mk 8 T E (offY M k) (offY M k) (lnM M)) (hW : wc (ha_gA T 228) (offY M k) ≤ 240) : Ok (f_X6_usefulSet 8 6 T) (fun z => ∃ U, z = (nI U, T) ∧ Uf T M E k U) := by
  have hl : xo_ln 230 = 241 ∧ xo_ln 197 = 12 := by decide +kernel
  have hE := hB.2.1
  have fE : 2 ^ E ≤ 2 ^ 12 := Nat.pow_le_pow_right (by omega) hE
  have hM5 : ha_gI T 8 5 = nI (wc (ha_gA T 228) (offY M k)) := hM.1
  unfold f_X6_usefulSet f_X6_usefulSet_J27 f_X6_usefulSet_J61
  refine ok_bind (P := fun z => ∃ U, z = (nI U, T) ∧ U < 2 ^ E ∧ ∀ e, e < E → (U.testBit e = true ↔ ∃ p, p < offY M k ∧ pfB (ha_gA T 228) (offY M k) (ha_gA T 196) (lnM M) e p = true)) ?_ ?_
  · refine ok_for (fun w (v : Int32) => (v, nI w, T)) 0 (wc (ha_gA T 228) (offY M k)) (fun w v => ∃ U, v = nI U ∧ U < 2 ^ E ∧ ∀ e, e < E → (U.testBit e = true ↔ ∃ p, p < offY M k ∧ wc (ha_gA T 228) p < w ∧ pfB (ha_gA T 228) (offY M k) (ha_gA T 196) (lnM M) e p = true)) _ 0 ⟨0, rfl, Nat.two_pow_pos E, fun e he => ⟨fun h => by simp at h, fun h => by obtain ⟨p, -, h, -⟩ := h; omega⟩⟩ (by omega) (by omega) ?_ ?_
    · rintro f w v hw ⟨U, rfl, hU1, hU2⟩ ih
      show Ok (f_X6_usefulSet_L4 8 6 f (nI U) (nI w) T) _
      unfold f_X6_usefulSet_L4
      simp only [pw_nm, nI_1]
      rw [hM5, nI_clamp (show w < 2 ^ 31 by omega)]
      obtain ⟨p, hp1, hp2, hp3⟩ := wc_ex hw
      have m2 : ha_gA T 230 w = nI (fmk (pfB (ha_gA T 228) (offY M k) (ha_gA T 196) (lnM M)) p E) := by rw [← hp3]; exact (hM.2 p hp1 hp2).2
      refine ok_ie (nI_ge hw (by omega)) (ok_b (xr hIR 8 2 100 230) (ok_gd (by rw [hl.1]; exact n_in2 (by omega) (by omega)) ?_))
      rw [m2, n_or]
      refine ih _ ⟨_, rfl, Nat.or_lt_two_pow hU1 (fmk_lt _ _ _), fun e he => ?_⟩
      rw [Nat.testBit_or, Bool.or_eq_true, hU2 e he, fmk_tb, decide_eq_true he, Bool.true_and]
      constructor
      · rintro (⟨q, q1, q2, q3⟩ | q)
        · exact ⟨q, q1, by omega, q3⟩
        · exact ⟨p, hp1, by omega, q⟩
      · rintro ⟨q, q1, q2, q3⟩
        by_cases c : wc (ha_gA T 228) q < w
        · exact Or.inl ⟨q, q1, c, q3⟩
        · right
          have qw : wsB (ha_gA T 228) q = true := by
            unfold pfB at q3
            rw [Bool.and_eq_true] at q3
            exact q3.1
          rw [wc_inj hp2 qw (by omega)]; exact q3
    · rintro f v ⟨U, rfl, hU1, hU2⟩
      show Ok (f_X6_usefulSet_L4 8 6 f (nI U) (nI (wc (ha_gA T 228) (offY M k))) T) _
      unfold f_X6_usefulSet_L4
      rw [hM5]
      refine ok_it (nI_le (Nat.le_refl _) (by omega)) (ok_some ⟨U, rfl, hU1, fun e he => ?_⟩)
      rw [hU2 e he]
      constructor
      · rintro ⟨q, q1, -, q3⟩; exact ⟨q, q1, q3⟩
      · rintro ⟨q, q1, q3⟩
        have qw : wsB (ha_gA T 228) q = true := by
          unfold pfB at q3
          rw [Bool.and_eq_true] at q3
          exact q3.1
        exact ⟨q, q1, wc_st qw q1, q3⟩
  · rintro z ⟨U0, rfl, h01, h02⟩
    refine ok_bind (P := fun z => ∃ U, z = (nI U, T) ∧ Uf T M E k U) ?_ (fun z hz => ok_some hz)
    refine ok_for (fun e (v : Int32) => (v, nI e, T)) 0 E (fun x v => ∃ U, v = nI U ∧ U < 2 ^ E ∧ ∀ e, e < E → (U.testBit e = true ↔ U0.testBit e = true ∧ (x ≤ e ∨ 2 < lnM M e))) _ _ ⟨U0, rfl, h01, fun e he => ⟨fun h => ⟨h, by omega⟩, fun h => h.1⟩⟩ (by omega) (by omega) ?_ ?_
    · rintro f x v hx ⟨U, rfl, hU1, hU2⟩ ih
      obtain ⟨l1, l2, l3, -, -⟩ := hB.2.2 x hx
      show Ok (f_X6_usefulSet_L29 8 6 f (nI U) (nI x) T) _
      unfold f_X6_usefulSet_L29 f_X6_usefulSet_L29_J55
      simp only [pw_nm, nI_1]
      rw [hB.1, nI_clamp (show x < 2 ^ 31 by omega)]
      refine ok_ie (nI_ge hx (by omega)) (ok_b (xr hIR 6 1 100 197) (ok_gd (by rw [hl.2]; exact n_in2 (by omega) (by omega)) ?_))
      rw [l1]
      refine ok_if (fun c => ih _ ⟨U, rfl, hU1, fun e he => ?_⟩) (fun c => ?_)
      · have c : 2 < lnM M x := (nI_ltI (a := 2) (by omega) (by omega)).mp c
        rw [hU2 e he]
        by_cases q : e = x
        · subst q
          exact ⟨fun h => ⟨h.1, Or.inr c⟩, fun h => ⟨h.1, Or.inr c⟩⟩
        · exact ⟨fun h => ⟨h.1, by omega⟩, fun h => ⟨h.1, by omega⟩⟩
      · have c : ¬ 2 < lnM M x := fun q => c (nI_lt (a := 2) q (by omega))
        rw [show (1 : Int32) = nI 1 from rfl, n_shl 1 (by omega), Nat.one_shiftLeft]
        rw [show (-nI 1 : Int32) = -1 from rfl, n_andnot]
        have xle : U ^^^ (U &&& 2 ^ x) < 2 ^ E := Nat.xor_lt_two_pow hU1 (Nat.lt_of_le_of_lt Nat.and_le_left hU1)
        refine ih _ ⟨_, rfl, xle, fun e he => ?_⟩
        rw [Nat.testBit_xor, Nat.testBit_and, Nat.testBit_two_pow]
        by_cases q : e = x
        · subst q
          have : (U.testBit e ^^ (U.testBit e && decide (e = e))) = false := by simp
          rw [this]
          exact ⟨fun h => by simp at h, fun h => by omega⟩
        · have : (U.testBit e ^^ (U.testBit e && decide (x = e))) = U.testBit e := by
            rw [decide_eq_false (fun h => q h.symm)]; simp
          rw [this, hU2 e he]
          exact ⟨fun h => ⟨h.1, by omega⟩, fun h => ⟨h.1, by omega⟩⟩
    · rintro f v ⟨U, rfl, hU1, hU2⟩
      show Ok (f_X6_usefulSet_L29 8 6 f (nI U) (nI E) T) _
      unfold f_X6_usefulSet_L29
      rw [hB.1]
      refine ok_it (nI_le (Nat.le_refl _) (by omega)) (ok_some ⟨U, rfl, hU1, fun e he => ?_⟩)
      rw [hU2 e he, h02 e he]
      exact ⟨fun h => ⟨h.1, by omega⟩, fun h => ⟨h.1, Or.inr h.2⟩⟩
theorem best_x {T M : ha_St} (hIR : IR T) {E k n U : Nat} (hB : BkX T E (lnM M)) (hBM : Bk M E (lnM M)) (hN : offY M k ≤ 488) (hM : Mk 8 T E (offY M k) (offY M k) (lnM M)) (hW : wc (ha_gA T 228) (offY M k) ≤ 240) (hA : ∀ y, y < k → At (ha_gA T 228) (offY M k) (offY M y) (fun j => ha_gA M 66 (60 * y + j)) (ha_gA M 67 y).toInt.toNat) (hen : ∀ e, e < E → ∀ x, x < lnM M e → ha_gA T 196 (12 * e + x) = ha_gA M 64 (12 * e + x)) (hn : n ≤ 12) (hU : U < 2 ^ E) : Ok (f_X6_bestSet_L15i 8 6 (nI n) ha_fu (nI U, 0, 0, 1, T)) (fun z => ∃ b h, z = (nI b, ha_sA T 231 h) ∧ Bs (fun s => csY M E s k) (fun s => pc s E ≤ n ∧ s &&& U = s) (U + 1) b) := by
  have hE := hB.2.1
  have fE : 2 ^ E ≤ 2 ^ 12 := Nat.pow_le_pow_right (by omega) hE
  have hall := fun s => year_all (set := s) hA hB hBM hen
  have cs0 : csY M E 0 k = tsz (ha_gA M 67) k := by
    have := hall 0
    rw [vv_none (fun e p _ c => by unfold fpB_8 at c; simp at c) (offY M k) 0 (by omega)] at this
    omega
  refine ok_for (fun i (v : Int32 × Int32 × ha_St) => (nI U, v.1, v.2.1, nI i, v.2.2)) 1 (U + 1) (fun i v => ∃ b h, v.1 = nI b ∧ v.2.2 = ha_sA T 231 h ∧ v.2.1.toInt = (tsz (ha_gA M 67) k : Int) - csY M E b k ∧ Bs (fun s => csY M E s k) (fun s => pc s E ≤ n ∧ s &&& U = s) i b) _ (0, 0, T) ⟨0, ha_gA T 231, rfl, (st_self T 231).symm, ?_, ?_⟩ (by omega) (by omega) ?_ ?_
  · show (0 : Int32).toInt = _
    rw [z_0, cs0]; omega
  · have p0 : ∀ m, pc 0 m = 0 := by
      intro m
      induction m with
      | zero => rfl
      | succ m ih => show pc 0 m + _ = 0; rw [ih]; simp
    refine ⟨by omega, ⟨by rw [p0]; omega, by simp⟩, fun t ht _ => ?_, fun t ht => by omega⟩
    obtain rfl : t = 0 := by omega
    exact Int.le_refl _
  · rintro f i ⟨v1, v2, S⟩ hi ⟨b, h, r1, r2, r3, r4⟩ ih
    have r1 : v1 = nI b := r1
    have r2 : S = ha_sA T 231 h := r2
    have r3 : v2.toInt = (tsz (ha_gA M 67) k : Int) - csY M E b k := r3
    subst r1; subst r2
    show Ok (f_X6_bestSet_L15 8 6 (nI n) f (nI U) (nI b) v2 (nI i) (ha_sA T 231 h)) _
    unfold f_X6_bestSet_L15 f_X6_bestSet_L15_J63
    simp only [pw_nm, nI_1]
    have iE : i < 2 ^ E := by omega
    have xi : i ^^^ (i &&& U) < 2 ^ E := Nat.xor_lt_two_pow iE (Nat.lt_of_le_of_lt Nat.and_le_left iE)
    rw [n_andnot, bc_eq (show i < 16384 by omega)]
    have skip : ∀ h', ¬ (pc i E ≤ n ∧ i &&& U = i ∧ csY M E i k < csY M E b k) → Ok (f (nI U, nI b, v2, nI (i + 1), ha_sA T 231 h')) (fun z => ∃ b h, z = (nI b, ha_sA T 231 h) ∧ Bs (fun s => csY M E s k) (fun s => pc s E ≤ n ∧ s &&& U = s) (U + 1) b) := by
      intro h' q
      refine ih (nI b, v2, ha_sA T 231 h') ⟨b, h', rfl, rfl, r3, ?_⟩
      obtain ⟨b1, b2, b3, b4⟩ := r4
      refine ⟨by omega, b2, fun t ht hk => ?_, b4⟩
      by_cases w : t = i
      · subst w
        dsimp only
        by_cases c : csY M E t k < csY M E b k
        · exact absurd ⟨hk.1, hk.2, c⟩ q
        · omega
      · exact b3 t (by omega) hk
    refine ok_ie (nI_nlt (by omega) (by omega)) (ok_if (fun c => skip h (fun q => c ?_)) (fun c => ?_))
    · rw [q.2.1, Nat.xor_self]; rfl
    · have c := Classical.not_not.mp c
      rw [← nI_0, nI_eq (by omega) (by omega)] at c
      have sub : i &&& U = i := by
        have : i ^^^ (i ^^^ (i &&& U)) = i ^^^ 0 := by rw [c]
        rw [← Nat.xor_assoc, Nat.xor_self, Nat.zero_xor, Nat.xor_zero] at this
        exact this
      refine ok_b rfl ?_
      have p14 := pc_le i 14
      refine ok_if (fun d => skip h (fun q => ?_)) (fun d => ?_)
      · rw [nI_ltI (by omega) (by omega), pc_ext iE 14 (by omega)] at d
        omega
      · rw [nI_ltI (by omega) (by omega), pc_ext iE 14 (by omega)] at d
        have sv := saving_8 (S := ha_sA T 231 h) (IR_c (X := T) rfl hIR) (E := E) (N := offY M k) (set := i) (ln := lnM M) hB hN hM hW (by omega)
        refine ok_bind sv ?_
        rintro z ⟨h2, rfl, hv⟩
        have hv0 := hv 0 (by omega)
        have hv0 : (h2 0).toInt = vv (fpB_8 T (offY M k) (lnM M) i) (lnM M) E (offY M k) 0 := hv0
        rw [hall i] at hv0
        dsimp only
        rw [st_sAA]
        refine ok_if (fun g => skip h2 (fun q => ?_)) (fun g => ih (nI i, h2 0, ha_sA T 231 h2) ⟨i, h2, rfl, rfl, hv0, ?_⟩)
        · rw [i_le, hv0, r3] at g
          omega
        · rw [i_le, hv0, r3] at g
          obtain ⟨b1, b2, b3, b4⟩ := r4
          refine ⟨by omega, ⟨by omega, sub⟩, fun t ht hk => ?_, fun t ht hk => ?_⟩
          · dsimp only
            by_cases w : t = i
            · rw [w]; exact Int.le_refl _
            · have := b3 t (by omega) hk
              dsimp only at this
              omega
          · dsimp only
            have := b3 t (by omega) hk
            dsimp only at this
            omega
  · rintro f ⟨v1, v2, S⟩ ⟨b, h, r1, r2, r3, r4⟩
    have r1 : v1 = nI b := r1
    have r2 : S = ha_sA T 231 h := r2
    subst r1; subst r2
    show Ok (f_X6_bestSet_L15 8 6 (nI n) f (nI U) (nI b) v2 (nI (U + 1)) (ha_sA T 231 h)) _
    unfold f_X6_bestSet_L15
    exact ok_it (nI_lt (by omega) (by omega)) (ok_some ⟨b, h, rfl, r4⟩)
