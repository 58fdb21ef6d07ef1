/-! ENTRY -/
theorem told_b {f : Nat → Int32} {n : Nat} (hn : 0 < n) : Told f n ↔ (f 0 ≠ 32 ∧ f (n - 1) ≠ 32 ∧ ∀ i, i < n → isL (f i) ∨ (f i = 32 ∧ f (i - 1) ≠ 32)) := by
  have hb : ∀ x : Int32, isL x → x ≠ 32 := by
    intro x h e
    rw [e] at h
    exact absurd h.1 (by decide)
  constructor
  · rintro ⟨-, h1, h2, h3⟩
    refine ⟨hb _ h1, hb _ h2, fun i hi => ?_⟩
    rcases h3 i hi with g | ⟨g1, g2, g3⟩
    · exact Or.inl g
    · exact Or.inr ⟨g1, hb _ g3⟩
  · rintro ⟨h1, h2, h3⟩
    refine ⟨hn, (h3 0 hn).resolve_right (fun g => h1 g.1), (h3 (n - 1) (by omega)).resolve_right (fun g => h2 g.1), fun i hi => ?_⟩
    rcases h3 i hi with g | ⟨g1, g2⟩
    · exact Or.inl g
    · have h0 : 0 < i := by
        rcases Nat.eq_zero_or_pos i with e | e
        · subst e; exact absurd g1 h1
        · exact e
      exact Or.inr ⟨g1, h0, (h3 (i - 1) (by omega)).resolve_right (fun g => g2 g.1)⟩
theorem told_cg {f g : Nat → Int32} {n : Nat} (h : ∀ i, i < n → f i = g i) (hT : Told f n) : Told g n := by
  obtain ⟨h0, h1, h2, h3⟩ := hT
  refine ⟨h0, h 0 h0 ▸ h1, h (n - 1) (by omega) ▸ h2, fun i hi => ?_⟩
  rw [← h i hi]
  rcases h3 i hi with q | ⟨q1, q2, q3⟩
  · exact Or.inl q
  · rw [← h (i - 1) (by omega)]; exact Or.inr ⟨q1, q2, q3⟩
theorem text_x {X : ha_St} (hIR : IR X) {s P : Nat} (hs : ha_gI X 1 1 = nI s) (h4 : s ≤ 440) (hP : P ≤ 440) : Ok (f_X10_isText 1 (nI P) X) (fun z => (z = (1, X) ∧ s ≤ P ∧ Told (ha_gA X 116) s) ∨ (z = (0, X) ∧ ¬ (s ≤ P ∧ Told (ha_gA X 116) s))) := by
  unfold f_X10_isText f_X10_isText_J16 f_X10_isText_J72
  rw [hs]
  refine ok_if (fun c => ok_some (Or.inr ⟨rfl, fun h => ?_⟩)) (fun c => ok_if (fun c2 => ?_) (fun c2 => ok_some (Or.inr ⟨rfl, fun h => ?_⟩)))
  · have := h.2.1
    rw [n_lit1, nI_ltI (by omega) (by omega)] at c
    omega
  · rw [n_lit1, nI_ltI (by omega) (by omega)] at c
    rw [nI_leI (by omega) (by omega)] at c2
    have ht : (ha_gI X 1 1).toInt = s := by rw [hs, nI_toInt (by omega)]
    have := txt_x (nI P) s ha_fu 0 0 X hIR (Or.inl rfl) (by rw [ht, z_0]; omega) (by decide) (by omega) (fu_lt (by omega))
    rw [ht, show ((s : Nat) : Int).toNat = s by omega, show (0 : Int32).toInt.toNat = 0 from rfl, show ((0 : Int32) = 1) = False from by simp, rest_told (by omega)] at this
    by_cases t : Told (ha_gA X 116) s
    · rw [this.1 t]
      simp only [pw_bs, Sum.elim_inl]
      exact ok_gd (Or.inr trivial) (ok_some (Or.inl ⟨rfl, c2, t⟩))
    · rcases this.2 t with e | e
      · rw [e]; simp only [pw_bs, Sum.elim_inl]; exact ok_gd (Or.inl trivial) (ok_some (Or.inr ⟨rfl, fun h => t h.2⟩))
      · rw [e]; exact ok_some (Or.inr ⟨rfl, fun h => t h.2⟩)
  · rw [nI_leI (by omega) (by omega)] at c2
    exact c2 h.1
theorem text_m {M : ha_St} (hIM : IM M) {s P : Nat} (h4 : s ≤ 440) (hP : P ≤ 440) : Ok (f_X12_isTold 0 (nI s) (nI P) M) (fun z => (z = (1, M) ∧ s ≤ P ∧ Told (ha_gA M 2) s) ∨ (z = (0, M) ∧ ¬ (s ≤ P ∧ Told (ha_gA M 2) s))) := by
  unfold f_X12_isTold f_X12_isTold_J33 f_X12_isTold_J86
  refine ok_b (isIn_eq _ _ _) (ok_if (fun c => ok_some (Or.inr ⟨rfl, fun h => ?_⟩)) (fun c => ?_))
  · by_cases g : nI s < 1 ∨ nI P < nI s
    · have := h.2.1
      rw [n_lit1, nI_ltI (by omega) (by omega), nI_ltI (by omega) (by omega)] at g
      omega
    · rw [if_neg g] at c; cases c
  · have g : ¬ (nI s < 1 ∨ nI P < nI s) := by
      intro g; rw [if_pos g] at c; exact c rfl
    rw [n_lit1, nI_ltI (by omega) (by omega), nI_ltI (by omega) (by omega)] at g
    have hl : mo_ln (1 + 1) = 440 := by decide +kernel
    refine ok_b (mr hIM 1 100) (ok_gd (by rw [hl]; decide) ?_)
    refine ok_if (fun c1 => ok_some (Or.inr ⟨rfl, fun h => ?_⟩)) (fun c1 => ?_)
    · exact ((told_b (by omega)).mp h.2).1 c1
    · rw [n_sub1 (by omega)]
      refine ok_b (mr hIM 1 100) (ok_gd (by rw [hl]; exact n_in (by omega) (by omega)) ?_)
      rw [nI_clamp (by omega)]
      refine ok_if (fun c2 => ?_) (fun c2 => ok_some (Or.inr ⟨rfl, fun h => ?_⟩))
      · have key : Ok (f_X12_isTold_L37i 0 (nI s) (nI P) ha_fu (0, M)) (fun z => (z = .inl M ∧ ∀ i, i < s → isL (ha_gA M 2 i) ∨ (ha_gA M 2 i = 32 ∧ ha_gA M 2 (i - 1) ≠ 32)) ∨ (z = .inr (0, M) ∧ ¬ ∀ i, i < s → isL (ha_gA M 2 i) ∨ (ha_gA M 2 i = 32 ∧ ha_gA M 2 (i - 1) ≠ 32))) := by
          refine ok_for (fun i (S : ha_St) => (nI i, S)) 0 s (fun i S => S = M ∧ ∀ j, j < i → isL (ha_gA M 2 j) ∨ (ha_gA M 2 j = 32 ∧ ha_gA M 2 (j - 1) ≠ 32)) _ M ⟨rfl, fun j h => by omega⟩ (by omega) (by omega) ?_ ?_
          · rintro f i S hi ⟨rfl, hS⟩ ih
            show Ok (f_X12_isTold_L37 0 (nI s) (nI P) f (nI i) S) _
            unfold f_X12_isTold_L37 f_X12_isTold_L37_J80 f_X12_isTold_L37_J78
            simp only [pw_nm, nI_1]
            refine ok_ie (nI_ge hi (by omega)) (ok_b (mr hIM 1 100) (ok_gd (by rw [hl]; exact n_in (by omega) (by omega)) (ok_b (isLetter_m _) ?_)))
            rw [nI_clamp (by omega)]
            by_cases hL : 97 ≤ (ha_gA S 2 i).toInt ∧ (ha_gA S 2 i).toInt ≤ 122
            · refine ok_it (by rw [if_pos hL]; decide) (ih S ⟨rfl, fun j hj => ?_⟩)
              by_cases e : j = i
              · subst e; exact Or.inl hL
              · exact hS j (by omega)
            · refine ok_ie (by rw [if_neg hL]; decide) (ok_b (mr hIM 1 100) (ok_gd (by rw [hl]; exact n_in2 (by omega) (by omega)) ?_))
              refine ok_if (fun d => ok_some (Or.inr ⟨rfl, fun h => ?_⟩)) (fun d => ?_)
              · exact d ((h i hi).resolve_left hL).1
              · have d := Classical.not_not.mp d
                have i0 : 1 ≤ i := by
                  rcases Nat.eq_zero_or_pos i with e | e
                  · subst e; exact absurd d c1
                  · exact e
                rw [n_sub1 i0]
                refine ok_b (mr hIM 1 100) (ok_gd (by rw [hl]; exact n_in (by omega) (by omega)) ?_)
                rw [nI_clamp (by omega)]
                refine ok_if (fun d2 => ih S ⟨rfl, fun j hj => ?_⟩) (fun d2 => ok_some (Or.inr ⟨rfl, fun h => ?_⟩))
                · by_cases e : j = i
                  · subst e; exact Or.inr ⟨d, d2⟩
                  · exact hS j (by omega)
                · exact d2 ((h i hi).resolve_left hL).2
          · rintro f S ⟨rfl, hS⟩
            show Ok (f_X12_isTold_L37 0 (nI s) (nI P) f (nI s) S) _
            unfold f_X12_isTold_L37
            exact ok_it (nI_le (Nat.le_refl _) (by omega)) (ok_some (Or.inl ⟨rfl, hS⟩))
        refine ok_bind key (fun z hz => ?_)
        rcases hz with ⟨rfl, h⟩ | ⟨rfl, h⟩
        · exact ok_some (Or.inl ⟨rfl, by omega, (told_b (by omega)).mpr ⟨c1, c2, h⟩⟩)
        · exact ok_some (Or.inr ⟨rfl, fun g => h ((told_b (by omega)).mp g.2).2.2⟩)
      · exact ((told_b (by omega)).mp h.2).2.1 (Classical.not_not.mp c2)
/-- entry e stands in a text at a place -/
theorem isAt_x {X : ha_St} (hIR : IR X) {e l pl sz a L : Nat} (he : e < 12) (hl : ha_gA X 197 e = nI l) (hl2 : l ≤ 12) (hL : xo_ln a = L) (hL2 : L ≤ 1000) (hz : sz ≤ L) (hp : pl ≤ 1000) : Ok (f_X3_isAt 6 (nI e) a (nI pl) (nI sz) X) (fun z => (z = (1, X) ∧ pl + l ≤ sz ∧ ∀ i, i < l → ha_gA X 196 (12 * e + i) = ha_gA X a (pl + i)) ∨ (z = (0, X) ∧ ¬ (pl + l ≤ sz ∧ ∀ i, i < l → ha_gA X 196 (12 * e + i) = ha_gA X a (pl + i)))) := by
  unfold f_X3_isAt f_X3_isAt_J58
  have h7 : xo_ln 197 = 12 ∧ xo_ln 196 = 144 := by decide +kernel
  refine ok_b (xr hIR 6 1 100 197) (ok_gd (by rw [h7.1]; exact n_in he (by omega)) ?_)
  rw [nI_clamp (by omega), hl, nI_add]
  refine ok_if (fun c => ?_) (fun c => ok_some (Or.inr ⟨rfl, fun h => c (nI_le h.1 (by omega))⟩))
  rw [nI_leI (by omega) (by omega)] at c
  have key : Ok (f_X3_isAt_L18i 6 (nI e) a (nI pl) (nI sz) ha_fu (0, X)) (fun z => (z = .inl X ∧ ∀ i, i < l → ha_gA X 196 (12 * e + i) = ha_gA X a (pl + i)) ∨ (z = .inr (0, X) ∧ ¬ ∀ i, i < l → ha_gA X 196 (12 * e + i) = ha_gA X a (pl + i))) := by
    refine ok_for (fun i (S : ha_St) => (nI i, S)) 0 l (fun i S => S = X ∧ ∀ j, j < i → ha_gA X 196 (12 * e + j) = ha_gA X a (pl + j)) _ X ⟨rfl, fun j h => by omega⟩ (by omega) (by omega) ?_ ?_
    · rintro f i S hi ⟨rfl, hS⟩ ih
      show Ok (f_X3_isAt_L18 6 (nI e) a (nI pl) (nI sz) f (nI i) S) _
      unfold f_X3_isAt_L18
      refine ok_b (xr hIR 6 1 100 197) (ok_gd (by rw [h7.1]; exact n_in he (by omega)) ?_)
      rw [nI_clamp (show e < 2 ^ 31 by omega), hl]
      refine ok_ie (nI_ge hi (by omega)) (ok_b (xr hIR 6 0 100 196) ?_)
      rw [show (12 : Int32) = nI 12 from rfl, nI_mul, nI_add, nI_add, nI_1]
      refine ok_gd (by rw [h7.2]; exact n_in (by omega) (by omega)) (ok_gd (by rw [hL]; exact n_in (by omega) (by omega)) ?_)
      rw [nI_clamp (by omega), nI_clamp (by omega), show e * 12 = 12 * e by omega]
      refine ok_if (fun d => ih S ⟨rfl, fun j hj => ?_⟩) (fun d => ok_some (Or.inr ⟨rfl, fun h => d (h i hi)⟩))
      by_cases q : j = i
      · subst q; exact d
      · exact hS j (by omega)
    · rintro f S ⟨rfl, hS⟩
      show Ok (f_X3_isAt_L18 6 (nI e) a (nI pl) (nI sz) f (nI l) S) _
      unfold f_X3_isAt_L18
      refine ok_b (xr hIR 6 1 100 197) (ok_gd (by rw [h7.1]; exact n_in he (by omega)) ?_)
      rw [nI_clamp (show e < 2 ^ 31 by omega), hl]
      exact ok_it (nI_le (Nat.le_refl _) (by omega)) (ok_some (Or.inl ⟨rfl, hS⟩))
  refine ok_bind key (fun z hz => ?_)
  rcases hz with ⟨rfl, h⟩ | ⟨rfl, h⟩
  · exact ok_some (Or.inl ⟨rfl, c, h⟩)
  · exact ok_some (Or.inr ⟨rfl, fun g => h g.2⟩)

def Hs (f g : Nat → Int32) (len : Nat → Int32) (n s : Nat) : Prop := ∃ e, e < n ∧ len e = nI s ∧ ∀ i, i < s → f (12 * e + i) = g i
theorem has_x {X : ha_St} (hIR : IR X) {n s : Nat} (hn : ha_gI X 6 3 = nI n) (hn2 : n ≤ 12) (hs : ha_gI X 1 1 = nI s) (hs2 : s ≤ 12) : Ok (f_X3_has 6 1 X) (fun z => (z = (1, X) ∧ Hs (ha_gA X 196) (ha_gA X 116) (ha_gA X 197) n s) ∨ (z = (0, X) ∧ ¬ Hs (ha_gA X 196) (ha_gA X 116) (ha_gA X 197) n s)) := by
  unfold f_X3_has f_X3_has_J48
  have h7 : xo_ln 197 = 12 ∧ xo_ln 116 = 440 := by decide +kernel
  have key : Ok (f_X3_has_L2i 6 1 ha_fu (0, X)) (fun z => (z = .inr (1, X) ∧ Hs (ha_gA X 196) (ha_gA X 116) (ha_gA X 197) n s) ∨ (z = .inl X ∧ ¬ Hs (ha_gA X 196) (ha_gA X 116) (ha_gA X 197) n s)) := by
    refine ok_for (fun i (S : ha_St) => (nI i, S)) 0 n (fun i S => S = X ∧ ¬ Hs (ha_gA X 196) (ha_gA X 116) (ha_gA X 197) i s) _ X ⟨rfl, fun h => by obtain ⟨e, h, -⟩ := h; omega⟩ (by omega) (by omega) ?_ ?_
    · rintro f i S hi ⟨rfl, hS⟩ ih
      show Ok (f_X3_has_L2 6 1 f (nI i) S) _
      unfold f_X3_has_L2 f_X3_has_L2_J42
      simp only [pw_nm, nI_1, hn, hs]
      refine ok_ie (nI_ge hi (by omega)) (ok_b (xr hIR 6 1 100 197) (ok_gd (by rw [h7.1]; exact n_in (by omega) (by omega)) ?_))
      rw [nI_clamp (by omega)]
      have nx : ¬ (ha_gA S 197 i = nI s ∧ ∀ j, j < s → ha_gA S 196 (12 * i + j) = ha_gA S 116 j) → ¬ Hs (ha_gA S 196) (ha_gA S 116) (ha_gA S 197) (i + 1) s := by
        rintro q ⟨e, e1, e2, e3⟩
        by_cases w : e = i
        · subst w; exact q ⟨e2, e3⟩
        · exact hS ⟨e, by omega, e2, e3⟩
      refine ok_if (fun c => ih S ⟨rfl, nx (fun g => c g.1)⟩) (fun c => ?_)
      have c := Classical.not_not.mp c
      refine ok_b (xr hIR 1 0 100 116) (ok_bind (isAt_x hIR (e := i) (pl := 0) (by omega) c hs2 h7.2 (by omega) (by omega) (by omega)) ?_)
      rintro z (⟨rfl, h1, h2⟩ | ⟨rfl, h⟩)
      · refine ok_ie ne10 (ok_some (Or.inl ⟨rfl, i, hi, c, fun j hj => ?_⟩))
        have := h2 j hj
        rwa [Nat.zero_add] at this
      · refine ok_it rfl (ih S ⟨rfl, nx (fun g => h ⟨by omega, fun j hj => ?_⟩)⟩)
        rw [Nat.zero_add]; exact g.2 j hj
    · rintro f S ⟨rfl, hS⟩
      show Ok (f_X3_has_L2 6 1 f (nI n) S) _
      unfold f_X3_has_L2
      rw [hn]
      exact ok_it (nI_le (Nat.le_refl _) (by omega)) (ok_some (Or.inr ⟨rfl, hS⟩))
  refine ok_bind key (fun z hz => ?_)
  rcases hz with ⟨rfl, h⟩ | ⟨rfl, h⟩
  · exact ok_some (Or.inl ⟨rfl, h⟩)
  · exact ok_some (Or.inr ⟨rfl, h⟩)
theorem has_m {M : ha_St} (hIM : IM M) {n s : Nat} (hn : ha_gI M 0 67 = nI n) (hn2 : n ≤ 12) (hs2 : s ≤ 12) : Ok (f_X12_entry_L33i 0 ha_fu (nI s, 0, M)) (fun z => (z = .inr (-1, M) ∧ Hs (ha_gA M 64) (ha_gA M 2) (ha_gA M 65) n s) ∨ (z = .inl (nI s, M) ∧ ¬ Hs (ha_gA M 64) (ha_gA M 2) (ha_gA M 65) n s)) := by
  have h7 : mo_ln (64 + 1) = 12 ∧ mo_ln (1 + 1) = 440 ∧ mo_ln (63 + 1) = 144 := by decide +kernel
  refine ok_for (fun i (S : ha_St) => (nI s, nI i, S)) 0 n (fun i S => S = M ∧ ¬ Hs (ha_gA M 64) (ha_gA M 2) (ha_gA M 65) i s) _ M ⟨rfl, fun h => by obtain ⟨e, h, -⟩ := h; omega⟩ (by omega) (by omega) ?_ ?_
  · rintro f i S hi ⟨rfl, hS⟩ ih
    show Ok (f_X12_entry_L33 0 f (nI s) (nI i) S) _
    unfold f_X12_entry_L33 f_X12_entry_L33_J56 f_X12_entry_L33_J104
    simp only [pw_nm, nI_1, hn]
    refine ok_ie (nI_ge hi (by omega)) (ok_b (mr hIM 64 100) (ok_gd (by rw [h7.1]; exact n_in (by omega) (by omega)) ?_))
    rw [nI_clamp (by omega)]
    have nx : ¬ (ha_gA S 65 i = nI s ∧ ∀ j, j < s → ha_gA S 64 (12 * i + j) = ha_gA S 2 j) → ¬ Hs (ha_gA S 64) (ha_gA S 2) (ha_gA S 65) (i + 1) s := by
      rintro q ⟨e, e1, e2, e3⟩
      by_cases w : e = i
      · subst w; exact q ⟨e2, e3⟩
      · exact hS ⟨e, by omega, e2, e3⟩
    have key : ∀ b : Int32, (b = 0 ∨ b = 1) → Ok (f_X12_entry_L60i 0 ha_fu (nI s, nI i, b, 0, S)) (fun z => (z = (nI s, nI i, 1, S) ∧ b = 1 ∧ ∀ j, j < s → ha_gA S 64 (12 * i + j) = ha_gA S 2 j) ∨ (z = (nI s, nI i, 0, S) ∧ ¬ (b = 1 ∧ ∀ j, j < s → ha_gA S 64 (12 * i + j) = ha_gA S 2 j))) := by
      intro b hb
      refine ok_for (fun j (z : Int32 × ha_St) => (nI s, nI i, z.1, nI j, z.2)) 0 s (fun j z => z.2 = S ∧ ((z.1 = 1 ∧ b = 1 ∧ ∀ k, k < j → ha_gA S 64 (12 * i + k) = ha_gA S 2 k) ∨ (z.1 = 0 ∧ ¬ (b = 1 ∧ ∀ k, k < s → ha_gA S 64 (12 * i + k) = ha_gA S 2 k)))) _ (b, S) ⟨rfl, ?_⟩ (by omega) (by omega) ?_ ?_
      · rcases hb with rfl | rfl
        · exact Or.inr ⟨rfl, fun h => by cases h.1⟩
        · exact Or.inl ⟨rfl, rfl, fun k hk => by omega⟩
      · rintro f2 j ⟨c, T⟩ hj ⟨h1, h2⟩ ih2
        have h1 : T = S := h1
        subst h1
        show Ok (f_X12_entry_L60 0 f2 (nI s) (nI i) c (nI j) T) _
        unfold f_X12_entry_L60 f_X12_entry_L60_J97
        simp only [pw_nm, nI_1]
        refine ok_ie (nI_ge hj (by omega)) ?_
        rcases h2 with ⟨e1, e2, e3⟩ | ⟨e1, e2⟩
        · have e1 : c = 1 := e1
          subst e1
          refine ok_ie (by decide) (ok_b (mr hIM 63 100) ?_)
          rw [show (12 : Int32) = nI 12 from rfl, nI_mul, nI_add]
          refine ok_gd (by rw [h7.2.2]; exact n_in (by omega) (by omega)) (ok_b (mr hIM 1 100) (ok_gd (by rw [h7.2.1]; exact n_in (by omega) (by omega)) ?_))
          rw [nI_clamp (by omega), nI_clamp (by omega)]
          refine ok_if (fun d => ih2 (0, T) ⟨rfl, Or.inr ⟨rfl, fun g => d (g.2 j hj)⟩⟩) (fun d => ih2 (1, T) ⟨rfl, Or.inl ⟨rfl, e2, fun k hk => ?_⟩⟩)
          by_cases w : k = j
          · subst w; exact Classical.not_not.mp d
          · exact e3 k (by omega)
        · have e1 : c = 0 := e1
          subst e1
          exact ok_it rfl (ok_some (Or.inr ⟨rfl, e2⟩))
      · rintro f2 ⟨c, T⟩ ⟨h1, h2⟩
        have h1 : T = S := h1
        subst h1
        show Ok (f_X12_entry_L60 0 f2 (nI s) (nI i) c (nI s) T) _
        unfold f_X12_entry_L60
        refine ok_it (nI_le (Nat.le_refl _) (by omega)) (ok_some ?_)
        rcases h2 with ⟨e1, e2, e3⟩ | ⟨e1, e2⟩
        · have e1 : c = 1 := e1
          subst e1
          exact Or.inl ⟨rfl, e2, e3⟩
        · have e1 : c = 0 := e1
          subst e1
          exact Or.inr ⟨rfl, e2⟩
    refine ok_if (fun c => ok_bind (key 0 (Or.inl rfl)) ?_) (fun c => ok_bind (key 1 (Or.inr rfl)) ?_)
    · rintro z (⟨rfl, h, -⟩ | ⟨rfl, h⟩)
      · cases h
      · dsimp only
        rw [nI_1]
        exact ok_it rfl (ih S ⟨rfl, nx (fun g => c g.1)⟩)
    · rintro z (⟨rfl, -, h⟩ | ⟨rfl, h⟩)
      · exact ok_ie ne10 (ok_some (Or.inl ⟨rfl, i, hi, Classical.not_not.mp c, h⟩))
      · dsimp only
        rw [nI_1]
        exact ok_it rfl (ih S ⟨rfl, nx (fun g => h ⟨rfl, g.2⟩)⟩)
  · rintro f S ⟨rfl, hS⟩
    show Ok (f_X12_entry_L33 0 f (nI s) (nI n) S) _
    unfold f_X12_entry_L33
    rw [hn]
    exact ok_it (nI_le (Nat.le_refl _) (by omega)) (ok_some (Or.inr ⟨rfl, hS⟩))
