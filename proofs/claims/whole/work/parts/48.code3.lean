/-! CODE -/
theorem bkX_k {X S : ha_St} {E : Nat} {ln : Nat → Nat} (h : FrK X S) (hB : BkX X E ln) : BkX S E ln := by
  have e1 : ha_gI S 6 3 = ha_gI X 6 3 := h.2.2.1 6 3 (by omega)
  have e2 : ha_gA S 197 = ha_gA X 197 := h.2.2.2 197 (by omega)
  have e3 : ha_gA S 196 = ha_gA X 196 := h.2.2.2 196 (by omega)
  have e4 : ha_gA S 198 = ha_gA X 198 := h.2.2.2 198 (by omega)
  unfold BkX
  rw [e1, e2, e3, e4]
  exact hB
theorem add_7 {S : ha_St} (hIR : IR S) {s : Nat} (h4 : ha_gI S 7 4 = 0) (h7 : ha_gI S 7 7 = 0) (hs : ha_gI S 1 1 = nI s) (hs6 : s ≤ 60) : Ok (f_X6_add 7 1 S) (fun Z => FrK S Z ∧ ha_gI Z 7 4 = nI (s + 1) ∧ ha_gI Z 7 7 = nI s ∧ (∀ i, i < s → ha_gA Z 212 i = ha_gA S 116 i) ∧ ha_gA Z 212 s = 0 ∧ ha_gI Z 0 15 = ha_gI S 0 15) := by
  have hl : xo_ln 212 = 61 ∧ xo_ln 116 = 440 := by decide +kernel
  have g1 : ha_cpOk 0 (nI 0) (nI s) 440 61 := by
    refine ⟨by decide, by decide, nI_pos (by omega), ?_, ?_⟩
    · rw [nI_clamp (by omega)]; show 0 + s ≤ 440; omega
    · rw [nI_clamp (by omega), nI_clamp (by omega)]; omega
  have g2 := n_in (c := 0 + s) (N := 61) (by omega) (by omega)
  unfold f_X6_add
  have h4 : ha_gI S 7 4 = nI 0 := h4
  have h7 : ha_gI S 7 7 = nI 0 := h7
  simp only [pw_nm, pw_bs, xr hIR 7 0 100 212, xr hIR 1 0 100 116, h4, h7, hs, nI_add, nI_1, hl, pw_gd g1, st_II, st_IA, st_fI, st_fA, and_self, and_false, and_true, if_true, reduceIte, Nat.reduceEqDiff, pw_gd g2]
  refine ok_it (nI_le (by omega) (by omega)) (ok_some ⟨?_, ?_, ?_, fun i hi => ?_, ?_, rfl⟩)
  · exact frK_I (frK_I (frK_I (frK_A (frK_I (frK_A (frK_r S) (by omega) _) (by omega) _) (by omega) _) (by omega) _) (by omega) _) (by omega) _
  · show nI (0 + s + 1) = _
    congr 1; omega
  · show nI (0 + s) = _
    congr 1; omega
  · show upd (va_cpy (ha_gA S 116) (ha_gA S 212) 0 (nI 0).toNatClampNeg (nI s).toNatClampNeg) (nI (0 + s)).toNatClampNeg 0 i = _
    rw [nI_clamp (by omega), nI_clamp (by omega), nI_clamp (by omega), pk_un (by omega), pk_cpy_in (by omega) (by omega)]
    congr 1; omega
  · show upd (va_cpy (ha_gA S 116) (ha_gA S 212) 0 (nI 0).toNatClampNeg (nI s).toNatClampNeg) (nI (0 + s)).toNatClampNeg 0 s = _
    rw [nI_clamp (show 0 + s < 2 ^ 31 by omega), show 0 + s = s by omega, pk_us]
theorem e_code {X M : ha_St} (hI : Inv X M) : Agr (f_X11_code 0 X) (f_X12_code 0 M) := by
  have hI := inv_thr 0 hI
  have hT := hI
  obtain ⟨hIR, hIB, hIM, hI1, hI2, hI3, hI4, hI5, hI6, hI7, hI8, hI9, hI10, hI11, hI13, hI14⟩ := hI
  obtain ⟨e1, e2, e3, e4, e5⟩ := hI1
  unfold f_X11_code f_X12_code f_X12_take f_X11_code_J89
  generalize ha_sI M 0 0 0 = M at *
  have hT0 := inv_tp hT 0 (by decide) (by decide)
  obtain ⟨s, s4, hs⟩ := n_of (N := 440) e2 e3
  have hsX : ha_gI X 1 1 = nI s := e1.trans hs
  have hIM0 : IM (ha_sI M 0 2 0) := IM_c (M := M) rfl hIM
  have no : Agr (some (-1, ha_sI X 1 1 0)) (some (-1, ha_sI M 0 2 0)) := agr_mk rfl hT0
  simp only [pw_nm, pw_bs, xr hIR 0 0 10 1, hs]
  have hx := text_x hIR hsX s4 (show 60 ≤ 440 by omega)
  have hm := text_m hIM0 s4 (show 60 ≤ 440 by omega)
  obtain ⟨z, ez, hz⟩ := hx
  obtain ⟨w, ew, hw⟩ := hm
  rw [show (60 : Int32) = nI 60 from rfl, ez, ew]
  simp only [pw_bs]
  have hAt : ha_gA (ha_sI M 0 2 0) 2 = ha_gA X 116 := e4.symm
  rw [hAt] at hw
  by_cases t : s ≤ 60 ∧ Told (ha_gA X 116) s
  · obtain ⟨rfl, -⟩ := hz.resolve_right (fun q => q.2 t)
    obtain ⟨rfl, -⟩ := hw.resolve_right (fun q => q.2 t)
    simp only [n_10, if_false, not_false_eq_true, if_true, xr hIR 0 6 6 7, pw_bs]
    obtain ⟨t1, t2⟩ := t
    obtain ⟨E, hBM, hBX, hen⟩ := book hI9
    -- the class
    unfold f_X6_clear
    simp only [pw_nm, pw_bs]
    have hF1 : FrK X (ha_sI (ha_sI (ha_sI (ha_sI X 7 4 0) 7 5 0) 7 6 0) 7 7 0) := frK_I (frK_I (frK_I (frK_I (frK_r X) (by omega) _) (by omega) _) (by omega) _) (by omega) _
    have f4 : ha_gI (ha_sI (ha_sI (ha_sI (ha_sI X 7 4 0) 7 5 0) 7 6 0) 7 7 0) 7 4 = 0 := rfl
    have f7 : ha_gI (ha_sI (ha_sI (ha_sI (ha_sI X 7 4 0) 7 5 0) 7 6 0) 7 7 0) 7 7 = 0 := rfl
    have f1 : ha_gI (ha_sI (ha_sI (ha_sI (ha_sI X 7 4 0) 7 5 0) 7 6 0) 7 7 0) 1 1 = nI s := hsX
    have f15 : ha_gI (ha_sI (ha_sI (ha_sI (ha_sI X 7 4 0) 7 5 0) 7 6 0) 7 7 0) 0 15 = ha_gI X 0 15 := rfl
    generalize ha_sI (ha_sI (ha_sI (ha_sI X 7 4 0) 7 5 0) 7 6 0) 7 7 0 = X1 at *
    have hIR1 : IR X1 := IR_c (X := X) hF1.1 hIR
    simp only [xr hIR1 0 6 6 7, xr hIR1 0 0 10 1, pw_bs]
    obtain ⟨X2, ex2, hF2, g4, g7, g5, g6, g15⟩ := add_7 hIR1 f4 f7 f1 t1
    rw [ex2]
    have hF2 : FrK X X2 := ⟨hF2.1.trans hF1.1, hF2.2.1.trans hF1.2.1, fun o k c => (hF2.2.2.1 o k c).trans (hF1.2.2.1 o k c), fun a c => (hF2.2.2.2 a c).trans (hF1.2.2.2 a c)⟩
    have g5 : ∀ i, i < s → ha_gA X2 212 i = ha_gA X 116 i := fun i hi => by rw [g5 i hi, hF1.2.2.2 116 (by omega)]
    have hIR2 : IR X2 := IR_c (X := X) hF2.1 hIR
    have hB2 := bkX_k hF2 hBX
    simp only [xr hIR2 0 6 6 7, xr hIR2 0 5 3 6, pw_bs]
    have hat : At (ha_gA X2 212) (s + 1) 0 (ha_gA X 116) s := ⟨fun i hi => by rw [Nat.zero_add]; exact g5 i hi, by rw [Nat.zero_add]; exact g6, by omega, Or.inl rfl, t2⟩
    have cap := at_cap hat t1
    obtain ⟨X3, ex3, hF3, hM3, hW3⟩ := mark_7 hIR2 hB2 g4 (by omega) (fun p hp hw => by
      have := cap.1 p (by omega) (by rw [Nat.zero_add]; exact hw)
      rw [Nat.zero_add] at this
      have z : wc (ha_gA X2 212) 0 = 0 := rfl
      omega)
    rw [ex3]
    have hg3 : ha_gA X3 212 = ha_gA X2 212 := hF3.2.2.2 212 (by omega)
    have hFK3 := frK_P hF2 (Or.inl rfl) hF3
    have hIR3 : IR X3 := IR_c (X := X) hFK3.1 hIR
    have hB3 := bkX_k hFK3 hBX
    rw [← hg3] at hat hW3
    have g73 : ha_gI X3 7 7 = nI s := by rw [hF3.2.2.1 7 7 (by omega)]; exact g7
    unfold f_X3_all
    simp only [xr hIR3 0 6 6 7, xr hIR3 0 5 3 6, pw_bs, hB3.1, g73]
    have hE := hB3.2.1
    have pE : 2 ^ E ≤ 2 ^ 12 := Nat.pow_le_pow_right (by omega) hE
    have pE0 := Nat.two_pow_pos E
    rw [show (1 : Int32) = nI 1 from rfl, n_shl 1 (by omega), Nat.one_shiftLeft, n_sub (show 1 ≤ 2 ^ E by omega)]
    have sx := saving_7 hIR3 (set := 2 ^ E - 1) hB3 (show s + 1 ≤ 61 by omega) hM3 hW3 (by omega)
    obtain ⟨zz, es, hx, rfl, hV⟩ := sx
    rw [es]
    have hfl := fp_l_7 (set := 2 ^ E - 1) (N := s + 1) hB3
    have v0 := fun p => vv_0 (fun p e a b c => (hfl p e a b c).1) p
    have vu : ∀ p, p ≤ s + 1 → vv (fpB_7 X3 (s + 1) (lnM M) (2 ^ E - 1)) (lnM M) E (s + 1) p ≤ 100 := fun p hp => by
      have := vv_ub hfl (s + 1 - p) p (by omega)
      omega
    have hFK4 : FrK X (ha_sA X3 215 hx) := frK_A hFK3 (by omega) _
    have hIR4 : IR (ha_sA X3 215 hx) := IR_c (X := X) hFK4.1 hIR
    have e64 : ∀ i, ha_gA (ha_sI M 0 2 0) 64 i = ha_gA M 64 i := fun i => rfl
    have en3 : ∀ e, e < E → ∀ x, x < lnM M e → ha_gA X3 196 (12 * e + x) = ha_gA M 64 (12 * e + x) := fun e he x hx => by
      rw [hFK3.2.2.2 196 (by omega)]; exact hen e he x hx
    have fit : ∀ i e, i < s → e < E → pfB (ha_gA X3 212) (s + 1) (ha_gA X3 196) (lnM M) e i = bgB (ha_gA X 116) s (ha_gA M 64) (lnM M) e i := fun i e hi he => by
      have := at_fit (en := ha_gA X3 196) (en' := ha_gA M 64) (ln := lnM M) (e := e) hat hi (hB3.2.2 e he).2.2.2.1 (en3 e he)
      rwa [Nat.zero_add] at this
    have c7 := cut_7 (S := ha_sA X3 215 hx) hIR4 (E := E) (s := s) (ln := lnM M) (R := fun i => ff (qx (ha_gA X3 212) (s + 1) (ha_gA X3 196) (lnM M) (vv (fpB_7 X3 (s + 1) (lnM M) (2 ^ E - 1)) (lnM M) E (s + 1)) i) E) hB3 t1 hM3 g73 hW3 hV (fun p hp => ⟨v0 p, vu p hp⟩) (fun i hi => rfl) (fun i e hi he h => by
      have h : pfB (ha_gA X3 212) (s + 1) (ha_gA X3 196) (lnM M) e i = true := h
      rw [fit i e hi he] at h
      unfold bgB at h
      rw [decide_eq_true_eq] at h
      exact h.1)
    obtain ⟨zc, ec, c, hc, rfl, hps, hc6, hpx⟩ := c7
    simp only [pw_bs, xr hIR4 0 6 6 7, xr hIR4 0 5 3 6, xr hIR4 0 8 100 108]
    rw [ec]
    have hFK5 : FrK X (ha_sI (ha_sI (ha_sA (ha_sA X3 215 hx) 108 hc) 0 14 (nI c)) 1 1 0) := frK_I (frK_I (frK_A hFK4 (by omega) _) (by omega) _) (by omega) _
    simp only [pw_bs, st_fI, st_fA, xr hIR3 0 0 10 1]
    -- the model
    obtain ⟨zm, em, hcp, rfl, hcpv⟩ := copy_m hIM0 t1
    rw [em]
    simp only [pw_bs]
    unfold f_X12_code_J47 f_X12_code_J193
    simp only [pw_nm]
    have fw := fewest_m (M := ha_sI (ha_sA (ha_sI M 0 2 0) 70 hcp) 0 72 (nI s)) (IM_c (M := M) rfl hIM) (E := E) (s := s) (set := 4095) (ln := lnM M) hBM rfl t1 (by omega)
    obtain ⟨zf, ef, h71, rfl, hVm⟩ := fw
    rw [show (4095 : Int32) = nI 4095 from rfl, ef]
    simp only [pw_bs]
    have fmE : ∀ i e, fsB (ha_sI (ha_sA (ha_sI M 0 2 0) 70 hcp) 0 72 (nI s)) s (lnM M) 4095 e i = (bgB hcp s (ha_gA M 64) (lnM M) e i && (4095 : Nat).testBit e) := fun i e => rfl
    have hcp2 : ∀ i, i < s → hcp i = ha_gA X 116 i := fun i hi => by rw [hcpv i hi]; exact congrFun hAt i
    have hat2 : At (ha_gA X3 212) (s + 1) 0 hcp s := ⟨fun i hi => by rw [hat.1 i hi, hcp2 i hi], hat.2.1, hat.2.2.1, hat.2.2.2.1, told_cg (fun i hi => (hcp2 i hi).symm) t2⟩
    have fit2 : ∀ i e, i < s → e < E → pfB (ha_gA X3 212) (s + 1) (ha_gA X3 196) (lnM M) e i = bgB hcp s (ha_gA M 64) (lnM M) e i := fun i e hi he => by
      have := at_fit (en := ha_gA X3 196) (en' := ha_gA M 64) (ln := lnM M) (e := e) hat2 hi (hB3.2.2 e he).2.2.2.1 (en3 e he)
      rwa [Nat.zero_add] at this
    have hflm := fs_l (M := ha_sI (ha_sA (ha_sI M 0 2 0) 70 hcp) 0 72 (nI s)) (s := s) (set := 4095) (ln := lnM M) (E := E) hBM
    have tb1 : ∀ e, e < E → (2 ^ E - 1).testBit e = true := fun e he => by rw [Nat.testBit_two_pow_sub_one, decide_eq_true he]
    have tb2 : ∀ e, e < E → (4095 : Nat).testBit e = true := fun e he => by
      have : ∀ e, e < 12 → (4095 : Nat).testBit e = true := by decide
      exact this e (by omega)
    have vE : ∀ i, i ≤ s → vv (fpB_7 X3 (s + 1) (lnM M) (2 ^ E - 1)) (lnM M) E (s + 1) i = vv (fsB (ha_sI (ha_sA (ha_sI M 0 2 0) 70 hcp) 0 72 (nI s)) s (lnM M) 4095) (lnM M) E s i := by
      intro i hi
      have q := at_vv (pt := fpB_7 X3 (s + 1) (lnM M) (2 ^ E - 1)) (tt := fsB (ha_sI (ha_sA (ha_sI M 0 2 0) 70 hcp) 0 72 (nI s)) s (lnM M) 4095) hat2 (E := E) (ln := lnM M) (fun e p he h => ⟨fp_w_7 e p he h, (hB3.2.2 e he).2.1⟩) (fun e i he h => by
        refine ⟨(hB3.2.2 e he).2.1, ?_⟩
        rw [fmE, Bool.and_eq_true] at h
        have h := h.1
        unfold bgB at h
        rw [decide_eq_true_eq] at h
        exact h.1) (fun i hi e he => by
        rw [fmE, Nat.zero_add]
        show (pfB (ha_gA X3 212) (s + 1) (ha_gA X3 196) (lnM M) e i && (2 ^ E - 1).testBit e) = _
        rw [fit2 i e hi he, tb1 e he, tb2 e he]) (s - i) i (by omega)
      rw [Nat.zero_add, Nat.zero_add, vv_N _ _ _ _ (s + 1) (Nat.le_refl _)] at q
      omega
    have u0 := fun p => vv_0 (fun p e a b c => (hflm p e a b c).1) p
    have pm := pieces_m (M := ha_sA (ha_sI (ha_sA (ha_sI M 0 2 0) 70 hcp) 0 72 (nI s)) 71 h71) (IM_c (M := M) rfl hIM) (E := E) (s := s) (ln := lnM M) (R := fun i => ff (qx (ha_gA X3 212) (s + 1) (ha_gA X3 196) (lnM M) (vv (fpB_7 X3 (s + 1) (lnM M) (2 ^ E - 1)) (lnM M) E (s + 1)) i) E) (h71 0) hBM rfl t1 hVm (fun p hp => ⟨u0 p, by rw [← vE p hp]; exact vu p (by omega)⟩) (fun i hi => by
      refine ff_cg (fun e he => ?_)
      show (pfB (ha_gA X3 212) (s + 1) (ha_gA X3 196) (lnM M) e i && _) = (bgB hcp s (ha_gA M 64) (lnM M) e i && _)
      rw [fit2 i e hi he]
      by_cases bg : bgB hcp s (ha_gA M 64) (lnM M) e i = true
      · rw [bg, Bool.true_and, Bool.true_and]
        unfold bgB at bg
        rw [decide_eq_true_eq] at bg
        rw [vE i (by omega), vE (i + lnM M e) bg.1]
      · rw [Bool.eq_false_iff.mpr bg, Bool.false_and, Bool.false_and])
    obtain ⟨zp, ep, c', hc', rfl, hps', hc6', hpm⟩ := pm
    rw [ep]
    simp only [pw_bs]
    obtain rfl : c = c' := pz_u (fun e he => (hB3.2.2 e he).2.1) (hps.trans hps'.symm)
    have hFN : FrN M (ha_sI (ha_sA (ha_sA (ha_sI (ha_sA (ha_sI M 0 2 0) 70 hcp) 0 72 (nI s)) 71 h71) 72 hc') 0 73 (nI c)) := frN_I (frN_A (frN_A (frN_I (frN_A (frN_I (frN_r M) (by omega) _) (by omega) _) (by omega) _) (by omega) _) (by omega) _) (by omega) _
    refine agr_mk ?_ (inv_KN hT hFK5 hFN ⟨rfl, by show (0 : Int) ≤ (0 : Int32).toInt; decide, by show (0 : Int32).toInt ≤ 440; decide, ?_, ?_⟩ ⟨?_, ?_, ?_⟩ ⟨rfl, ?_, ?_, fun k hk => ?_⟩)
    · have a1 := hV 0 (by omega)
      have a2 := hVm 0 (by omega)
      have a1 : (hx 0).toInt = vv (fpB_7 X3 (s + 1) (lnM M) (2 ^ E - 1)) (lnM M) E (s + 1) 0 := a1
      have b1 := v0 0
      have b2 := vu 0 (by omega)
      rw [i_eq, i_sub (by rw [nI_toInt (by omega), a1]; omega) (by rw [nI_toInt (by omega), a1]; omega), nI_toInt (by omega), a1, a2, vE 0 (by omega)]
      omega
    · rw [hFK5.2.2.2 116 (by omega), hFN.2.2 2 (by omega)]; exact e4
    · rw [hFN.2.2 2 (by omega)]; exact e5
    · rw [hFK5.2.2.1 0 12 (by omega), hFN.2.1 11 (by omega)]; exact hI6.1
    · show ha_gI X3 0 15 = _
      rw [hF3.2.2.1 0 15 (by omega), g15, f15, show ha_gI (ha_sI (ha_sA (ha_sA (ha_sI (ha_sA (ha_sI M 0 2 0) 70 hcp) 0 72 (nI s)) 71 h71) 72 hc') 0 73 (nI c)) 0 74 = ha_gI M 0 74 from rfl]
      exact hI6.2.1
    · rw [hFK5.2.2.1 0 16 (by omega), hFN.2.1 82 (by omega)]; exact hI6.2.2
    · show 0 ≤ (nI c).toInt
      rw [nI_toInt (by omega)]; omega
    · show (nI c).toInt ≤ 60
      rw [nI_toInt (by omega)]; omega
    · have hk : (k : Int) < (nI c).toInt := hk
      rw [nI_toInt (by omega)] at hk
      show hc k = hc' k
      have a1 := hpx k (by omega)
      have a2 := hpm k (by omega)
      have pl := pz_mo (R := fun i => ff (qx (ha_gA X3 212) (s + 1) (ha_gA X3 196) (lnM M) (vv (fpB_7 X3 (s + 1) (lnM M) (2 ^ E - 1)) (lnM M) E (s + 1)) i) E) (ln := lnM M) (E := E) (fun e he => (hB3.2.2 e he).2.1) k (c - k)
      rw [show k + (c - k) = c by omega, hps] at pl
      rw [a1, a2]
      unfold pce
      have gg : ∀ i, i < s → ha_gA (ha_sA X3 215 hx) 212 i = ha_gA (ha_sA (ha_sI (ha_sA (ha_sI M 0 2 0) 70 hcp) 0 72 (nI s)) 71 h71) 70 i := fun i hi => by
        show ha_gA X3 212 i = hcp i
        have := hat2.1 i hi
        rwa [Nat.zero_add] at this
      rw [gg _ (by omega)]
  · obtain ⟨rfl, -⟩ := hz.resolve_left (fun q => t q.2)
    obtain ⟨rfl, -⟩ := hw.resolve_left (fun q => t q.2)
    simp only [n_00, if_true, not_true_eq_false, if_false, xr hIR 0 0 10 1, pw_bs]
    exact no
