/-! CODE: the model's pieces, and both -/
def qm (f : Nat → Int32) (s : Nat) (en : Nat → Int32) (ln : Nat → Nat) (V : Nat → Int) (i e : Nat) : Bool := bgB f s en ln e i && decide (V i = (ln e : Int) - 2 + V (i + ln e))
theorem first_m {S : ha_St} (hIM : IM S) {E s i : Nat} {ln : Nat → Nat} {V : Nat → Int} (v : Int32) (hB : Bk S E ln) (hs : ha_gI S 0 72 = nI s) (hs6 : s ≤ 60) (hi : i < s) (hV : ∀ p, p ≤ s → (ha_gA S 71 p).toInt = (s : Int) - p - V p) (hVr : ∀ p, p ≤ s → 0 ≤ V p ∧ V p ≤ 100) : Ok (f_X12_code_L75i 0 ha_fu (nI s, v, nI i, 0, S)) (fun z => z = (nI s, v, nI i, nI (ff (qm (ha_gA S 70) s (ha_gA S 64) ln V i) E), S)) := by
  have hl : mo_ln (70 + 1) = 61 ∧ mo_ln (64 + 1) = 12 := by decide +kernel
  have hE := hB.2.1
  generalize hq : qm (ha_gA S 70) s (ha_gA S 64) ln V i = q
  refine ok_for (fun e (_ : Unit) => (nI s, v, nI i, nI e, S)) 0 E (fun e _ => ∀ x, x < e → ¬ q x = true) _ () (fun x h => by omega) (by omega) (by omega) ?_ ?_
  · rintro f e _ he hv ih
    show Ok (f_X12_code_L75 0 f (nI s) v (nI i) (nI e) S) _
    unfold f_X12_code_L75 f_X12_code_L75_J119
    simp only [pw_nm, nI_1]
    rw [hB.1]
    refine ok_ie (nI_ge he (by omega)) (ok_bind (begins_m hIM hB hs hs6 he (by omega)) ?_)
    rintro z rfl
    obtain ⟨l1, l2, l3⟩ := hB.2.2 e he
    have next : ¬ q e = true → Ok (f (nI s, v, nI i, nI (e + 1), S)) (fun z => z = (nI s, v, nI i, nI (ff q E), S)) := by
      intro h
      refine ih () (fun x hx => ?_)
      by_cases w : x = e
      · rw [w]; exact h
      · exact hv x (by omega)
    by_cases c : bgB (ha_gA S 70) s (ha_gA S 64) ln e i = true
    · rw [if_pos c]
      have iN : i + ln e ≤ s := by
        unfold bgB at c
        rw [decide_eq_true_eq] at c
        exact c.1
      dsimp only
      rw [nI_clamp (show e < 2 ^ 31 by omega), nI_clamp (show i < 2 ^ 31 by omega)]
      refine ok_ie ne10 (ok_b (mr hIM 70 100) (ok_b (mr hIM 64 100) ?_))
      have l1' : ha_gA S (64 + 1) e = nI (ln e) := l1
      rw [l1', nI_add, nI_clamp (show i + ln e < 2 ^ 31 by omega)]
      refine ok_gd (by rw [hl.2]; exact n_in2 (by omega) (by omega)) (ok_gd (by rw [hl.1]; exact n_in2 (by omega) (by omega)) (ok_b (mr hIM 70 100) (ok_gd (by rw [hl.1]; exact n_in2 (by omega) (by omega)) ?_)))
      have v1 := hV i (by omega)
      have v2 := hV (i + ln e) iN
      have r1 := hVr (i + ln e) iN
      have w4 : (ha_gA S (70 + 1) (i + ln e) + 2).toInt = (s : Int) - (i + ln e : Nat) - V (i + ln e) + 2 := by
        have z2 : (2 : Int32).toInt = 2 := rfl
        have v2 : (ha_gA S (70 + 1) (i + ln e)).toInt = (s : Int) - (i + ln e : Nat) - V (i + ln e) := v2
        rw [i_add (by rw [z2, v2]; omega) (by rw [z2, v2]; omega), z2, v2]
      have v1 : (ha_gA S (70 + 1) i).toInt = (s : Int) - i - V i := v1
      have qe : q e = true ↔ V i = (ln e : Int) - 2 + V (i + ln e) := by
        rw [← hq]
        unfold qm
        rw [c, Bool.true_and, decide_eq_true_eq]
      refine ok_if (fun d => ok_some ?_) (fun d => next (fun w => d ?_))
      · rw [i_eq, w4, v1] at d
        rw [show ff q E = e from ff_u (by omega) hv (fun _ => qe.mpr (by omega))]
      · have w := qe.mp w
        rw [i_eq, w4, v1]
        omega
    · rw [if_neg c]
      refine ok_it rfl (next (fun w => c ?_))
      rw [← hq] at w
      unfold qm at w
      rw [Bool.and_eq_true] at w
      exact w.1
  · rintro f _ hv
    show Ok (f_X12_code_L75 0 f (nI s) v (nI i) (nI E) S) _
    unfold f_X12_code_L75
    rw [hB.1]
    refine ok_it (nI_le (Nat.le_refl _) (by omega)) (ok_some ?_)
    rw [show ff q E = E from ff_u (Nat.le_refl _) hv (fun h => by omega)]
theorem pieces_m {M : ha_St} (hIM : IM M) {E s : Nat} {ln R : Nat → Nat} {V : Nat → Int} (v : Int32) (hB : Bk M E ln) (hs : ha_gI M 0 72 = nI s) (hs6 : s ≤ 60) (hV : ∀ p, p ≤ s → (ha_gA M 71 p).toInt = (s : Int) - p - V p) (hVr : ∀ p, p ≤ s → 0 ≤ V p ∧ V p ≤ 100) (hR : ∀ i, i < s → R i = ff (qm (ha_gA M 70) s (ha_gA M 64) ln V i) E) : Ok (f_X12_code_L67i 0 ha_fu (nI s, v, 0, ha_sI M 0 73 0)) (fun z => ∃ c h, z = (v, ha_sI (ha_sA M 72 h) 0 73 (nI c)) ∧ pz R ln E c = s ∧ c ≤ 60 ∧ ∀ k, k < c → h k = pce R (ha_gA M 70) E (pz R ln E k)) := by
  have hl : mo_ln (71 + 1) = 60 ∧ mo_ln (69 + 1) = 60 ∧ mo_ln (64 + 1) = 12 := by decide +kernel
  have hE := hB.2.1
  have hl1 : ∀ e, e < E → 1 ≤ ln e := fun e he => (hB.2.2 e he).2.1
  refine ok_wh (fun a => ∃ c h, a = (nI s, v, nI (pz R ln E c), ha_sI (ha_sA M 72 h) 0 73 (nI c)) ∧ pz R ln E c ≤ s ∧ ∀ k, k < c → h k = pce R (ha_gA M 70) E (pz R ln E k)) (fun a => s - a.2.2.1.toNatClampNeg) _ ?_ ha_fu _ ⟨0, ha_gA M 72, by rw [st_self]; rfl, Nat.zero_le _, fun k h => by omega⟩ (fu_lt (by show s - (0 : Int32).toNatClampNeg < 100000; omega))
  rintro f a ⟨c, h, rfl, hps, hh⟩ ih
  have cp := pz_ge (R := R) hl1 c
  have ih : ∀ c' h', pz R ln E c' ≤ s → pz R ln E c < pz R ln E c' → (∀ k, k < c' → h' k = pce R (ha_gA M 70) E (pz R ln E k)) → Ok (f (nI s, v, nI (pz R ln E c'), ha_sI (ha_sA M 72 h') 0 73 (nI c'))) (fun z => ∃ c h, z = (v, ha_sI (ha_sA M 72 h) 0 73 (nI c)) ∧ pz R ln E c = s ∧ c ≤ 60 ∧ ∀ k, k < c → h k = pce R (ha_gA M 70) E (pz R ln E k)) := by
    intro c' h' a1 a2 a3
    refine ih _ ⟨c', h', rfl, a1, a3⟩ ?_
    show s - (nI (pz R ln E c')).toNatClampNeg < s - (nI (pz R ln E c)).toNatClampNeg
    rw [nI_clamp (by omega), nI_clamp (by omega)]
    omega
  show Ok (f_X12_code_L67 0 f (nI s) v (nI (pz R ln E c)) (ha_sI (ha_sA M 72 h) 0 73 (nI c))) _
  have hpc1 : pz R ln E (c + 1) = pz R ln E c + if R (pz R ln E c) < E then ln (R (pz R ln E c)) else 1 := rfl
  have inc := pz_inc (R := R) hl1 c
  generalize hi : pz R ln E c = i at *
  unfold f_X12_code_L67
  refine ok_if (fun q => ?_) (fun q => ?_)
  · rw [nI_leI (by omega) (by omega)] at q
    exact ok_some ⟨c, h, rfl, by omega, by omega, hh⟩
  · rw [nI_leI (by omega) (by omega)] at q
    have his : i < s := by omega
    have hB1 : Bk (ha_sI (ha_sA M 72 h) 0 73 (nI c)) E ln := hB
    have fm := first_m (S := ha_sI (ha_sA M 72 h) 0 73 (nI c)) (IM_c (M := M) rfl hIM) (i := i) v hB1 hs hs6 his hV hVr
    refine ok_b (ok_eq fm) ?_
    have hRi := hR i his
    rw [show ff (qm (ha_gA (ha_sI (ha_sA M 72 h) 0 73 (nI c)) 70) s (ha_gA (ha_sI (ha_sA M 72 h) 0 73 (nI c)) 64) ln V i) E = R i from hRi.symm]
    have rle : R i ≤ E := by rw [hRi]; exact (ff_p _ E).1
    have grow : ∀ k, k < c + 1 → upd h c (pce R (ha_gA M 70) E i) k = pce R (ha_gA M 70) E (pz R ln E k) := by
      intro k hk
      by_cases w : k = c
      · rw [w, pk_us, hi]
      · rw [pk_un w]; exact hh k (by omega)
    have hst : ∀ x : Int32, x = pce R (ha_gA M 70) E i → ha_sI (ha_sA (ha_sI (ha_sA M 72 h) 0 73 (nI c)) (71 + 1) (upd (ha_gA (ha_sI (ha_sA M 72 h) 0 73 (nI c)) (71 + 1)) c x)) 0 73 (nI (c + 1)) = ha_sI (ha_sA M 72 (upd h c (pce R (ha_gA M 70) E i))) 0 73 (nI (c + 1)) := by
      rintro x rfl
      rw [st_cIA, st_sII]
      congr 1
      exact st_sAA _ _ _ _
    unfold f_X12_code_L67_J125 f_X12_code_L67_J156 f_X12_code_L67_J188
    dsimp only
    simp only [pw_nm, st_fI, st_fA]
    have e73 : ha_gI (ha_sI (ha_sA M 72 h) 0 73 (nI c)) 0 73 = nI c := rfl
    have e73' : ∀ u, ha_gI (ha_sA (ha_sI (ha_sA M 72 h) 0 73 (nI c)) (71 + 1) u) 0 73 = nI c := fun u => rfl
    have e67 : ha_gI (ha_sI (ha_sA M 72 h) 0 73 (nI c)) 0 67 = nI E := hB.1
    have e67' : ∀ u w, ha_gI (ha_sI (ha_sA (ha_sI (ha_sA M 72 h) 0 73 (nI c)) (71 + 1) u) 0 73 w) 0 67 = nI E := fun u w => hB.1
    refine ok_b (mr hIM 71 100) ?_
    rw [e73, e67]
    simp only [e73', e67', nI_1]
    rw [nI_clamp (show c < 2 ^ 31 by omega), nI_clamp (show i < 2 ^ 31 by omega), nI_clamp (show R i < 2 ^ 31 by omega)]
    by_cases re : R i < E
    · refine ok_ie (nI_ge re (by omega)) (ok_gd (by rw [hl.1]; exact n_in2 (by omega) (by omega)) (ok_ie (nI_ge re (by omega)) (ok_b (mr hIM 64 100) (ok_gd (by rw [hl.2.2]; exact n_in2 (by omega) (by omega)) ?_))))
      have l1 : ∀ u w, ha_gA (ha_sI (ha_sA (ha_sI (ha_sA M 72 h) 0 73 (nI c)) (71 + 1) u) 0 73 w) (64 + 1) (R i) = nI (ln (R i)) := fun u w => (hB.2.2 (R i) re).1
      rw [l1, nI_add, hst _ (by rw [show pce R (ha_gA M 70) E i = nI (100 + R i) from if_pos re, show (100 : Int32) = nI 100 from rfl, nI_add])]
      have qr := (ff_p (qm (ha_gA M 70) s (ha_gA M 64) ln V i) E).2.2 (by rw [← hRi]; exact re)
      rw [← hRi] at qr
      unfold qm bgB at qr
      rw [Bool.and_eq_true, decide_eq_true_eq] at qr
      have e1 : pz R ln E (c + 1) = i + ln (R i) := by rw [hpc1, if_pos re]
      have := ih (c + 1) (upd h c (pce R (ha_gA M 70) E i)) (by have := qr.1.1; omega) (by omega) grow
      rw [e1] at this
      exact this
    · have rE : R i = E := by omega
      refine ok_it (nI_le (by omega) (by omega)) (ok_b (mr hIM 69 100) (ok_gd (by rw [hl.2.1]; exact n_in2 (by omega) (by omega)) (ok_gd (by rw [hl.1]; exact n_in2 (by omega) (by omega)) (ok_it (nI_le (by omega) (by omega)) ?_))))
      rw [hst _ (show ha_gA (ha_sI (ha_sA M 72 h) 0 73 (nI c)) (69 + 1) i = _ from (show pce R (ha_gA M 70) E i = ha_gA M 70 i from if_neg (by omega)).symm)]
      have e1 : pz R ln E (c + 1) = i + 1 := by rw [hpc1, if_neg (by omega)]
      have := ih (c + 1) (upd h c (pce R (ha_gA M 70) E i)) (by omega) (by omega) grow
      rw [e1] at this
      exact this
theorem copy_m {M : ha_St} (hIM : IM M) {s : Nat} (hs6 : s ≤ 60) : Ok (f_X12_code_L24i 0 ha_fu (nI s, 0, M)) (fun z => ∃ h, z = (nI s, ha_sA M 70 h) ∧ ∀ j, j < s → h j = ha_gA M 2 j) := by
  have hl : mo_ln (1 + 1) = 440 ∧ mo_ln (69 + 1) = 60 := by decide +kernel
  refine ok_for (fun i (S : ha_St) => (nI s, nI i, S)) 0 s (fun i S => ∃ h, S = ha_sA M 70 h ∧ ∀ j, j < i → h j = ha_gA M 2 j) _ M ⟨_, (st_self M 70).symm, fun j h => by omega⟩ (by omega) (by omega) ?_ ?_
  · rintro f i S hi ⟨h, rfl, hh⟩ ih
    show Ok (f_X12_code_L24 0 f (nI s) (nI i) (ha_sA M 70 h)) _
    unfold f_X12_code_L24
    simp only [pw_nm, nI_1, st_fA]
    refine ok_ie (nI_ge hi (by omega)) (ok_b (mr hIM 69 100) (ok_b (mr hIM 1 100) (ok_gd (by rw [hl.1]; exact n_in (by omega) (by omega)) (ok_gd (by rw [hl.2]; exact n_in (by omega) (by omega)) (ih _ ⟨_, st_sAA _ _ _ _, fun j hj => ?_⟩)))))
    rw [nI_clamp (show i < 2 ^ 31 by omega)]
    show upd h i (ha_gA M 2 i) j = _
    by_cases w : j = i
    · rw [w, pk_us]
    · rw [pk_un w]; exact hh j (by omega)
  · rintro f S ⟨h, rfl, hh⟩
    show Ok (f_X12_code_L24 0 f (nI s) (nI s) (ha_sA M 70 h)) _
    unfold f_X12_code_L24
    exact ok_it (nI_le (Nat.le_refl _) (by omega)) (ok_some ⟨h, rfl, hh⟩)
