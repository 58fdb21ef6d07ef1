theorem sby_7 {S : ha_St} (hIR : IR S) {E N p e : Nat} {ln : Nat → Nat} (hB : BkX S E ln) (hM : ha_gI S 7 5 = nI (wc (ha_gA S 212) N)) (hW : wc (ha_gA S 212) N ≤ 30) (he : e < E) (hp : p < N) (hf : pfB (ha_gA S 212) N (ha_gA S 196) ln e p = true) : f_X6_savingBy 7 6 (nI e) (nI (wc (ha_gA S 212) p)) S = some (nI (ln e) - 2 + ha_gA S 215 (wc (ha_gA S 212) (p + ln e)), S) := by
  have hl : xo_ln 215 = 31 ∧ xo_ln 197 = 12 ∧ xo_ln 198 = 12 := by decide +kernel
  have hE := hB.2.1
  obtain ⟨b1, b2, b3, b4, b5⟩ := hB.2.2 e he
  have q := pf_wc b4 hf
  have q2 : p + ln e ≤ N := by
    unfold pfB at hf
    rw [Bool.and_eq_true, decide_eq_true_eq] at hf
    exact hf.2.1
  have q3 := wc_mon (g := ha_gA S 212) q2
  have gE := n_in2 (show e < 12 by omega) (by omega)
  have gW := n_in2 (c := wc (ha_gA S 212) (p + ln e)) (N := 31) (by omega) (by omega)
  unfold f_X6_savingBy
  simp only [pw_nm, pw_bs, xr hIR 6 2 100 198, xr hIR 6 1 100 197, xr hIR 7 3 100 215, hl, nI_clamp (show e < 2 ^ 31 by omega), pw_gd gE, b1, b5, hM, nI_add]
  rw [← q, if_neg (nI_nlt q3 (by omega)), nI_clamp (by omega), pw_gd gW]
def fpB_7 (S : ha_St) (N : Nat) (ln : Nat → Nat) (set : Nat) (e p : Nat) : Bool := pfB (ha_gA S 212) N (ha_gA S 196) ln e p && set.testBit e
theorem fp_l_7 {S : ha_St} {E N set : Nat} {ln : Nat → Nat} (hB : BkX S E ln) : ∀ p e, p < N → e < E → fpB_7 S N ln set e p = true → 1 ≤ ln e ∧ p + ln e ≤ N := by
  intro p e _ he h
  refine ⟨(hB.2.2 e he).2.1, ?_⟩
  unfold fpB_7 pfB at h
  rw [Bool.and_eq_true, Bool.and_eq_true, decide_eq_true_eq] at h
  exact h.1.2.1
theorem fp_w_7 {S : ha_St} {E N set : Nat} {ln : Nat → Nat} : ∀ e p, e < E → fpB_7 S N ln set e p = true → wsB (ha_gA S 212) p = true := by
  intro e p _ h
  unfold fpB_7 pfB at h
  rw [Bool.and_eq_true, Bool.and_eq_true] at h
  exact h.1.1
theorem saving_7 {S : ha_St} (hIR : IR S) {E N set : Nat} {ln : Nat → Nat} (hB : BkX S E ln) (hN : N ≤ 61) (hM : Mk 7 S E N N ln) (hW : wc (ha_gA S 212) N ≤ 30) (hset : set < 2 ^ 20) : Ok (f_X6_saving 7 6 (nI set) S) (fun z => ∃ h, z = (h 0, ha_sA S 215 h) ∧ ∀ p, p ≤ N → (h (wc (ha_gA S 212) p)).toInt = vv (fpB_7 S N ln set) ln E N p) := by
  have hl : xo_ln 215 = 31 ∧ xo_ln 214 = 31 := by decide +kernel
  have hE := hB.2.1
  have hfl := fp_l_7 (set := set) (N := N) hB
  have hfl1 : ∀ p e, p < N → e < E → fpB_7 S N ln set e p = true → 1 ≤ ln e := fun p e a b c => (hfl p e a b c).1
  have h0 := fun p => vv_0 hfl1 p
  have hub : ∀ p, p ≤ N → vv (fpB_7 S N ln set) ln E N p ≤ (N : Int) - p := fun p hp => by
    have := vv_ub hfl (N - p) p (by omega)
    omega
  have gap : ∀ p q, p ≤ q → q ≤ N → wc (ha_gA S 212) q = wc (ha_gA S 212) p → vv (fpB_7 S N ln set) ln E N p = vv (fpB_7 S N ln set) ln E N q := by
    intro p q h1 h2 h3
    have := vv_gap (g := ha_gA S 212) (ft := fpB_7 S N ln set) (ln := ln) (E := E) (N := N) fp_w_7 (q - p) p (by rw [show p + (q - p) = q by omega]; exact h3) (by omega)
    rwa [show p + (q - p) = q by omega] at this
  have hvN := vv_N (fpB_7 S N ln set) ln E N N (Nat.le_refl _)
  have hvs : ∀ p, p < N → vv (fpB_7 S N ln set) ln E N p = vst (fpB_7 S N ln set) ln (vv (fpB_7 S N ln set) ln E N) p E := fun p hp => vv_s hp (fun e he c => hfl1 p e hp he c)
  generalize hV : vv (fpB_7 S N ln set) ln E N = V at *
  obtain ⟨hM5, hM⟩ := hM
  have hM5 : ha_gI S 7 5 = nI (wc (ha_gA S 212) N) := hM5
  have hM : ∀ p, p < N → wsB (ha_gA S 212) p = true → ha_gA S 213 (wc (ha_gA S 212) p) = nI p ∧ ha_gA S 214 (wc (ha_gA S 212) p) = nI (fmk (pfB (ha_gA S 212) N (ha_gA S 196) ln) p E) := hM
  unfold f_X6_saving f_X6_saving_J110
  simp only [pw_nm, st_IA]
  rw [hM5, nI_clamp (show wc (ha_gA S 212) N < 2 ^ 31 by omega)]
  refine ok_b (xr hIR 7 3 100 215) (ok_gd (by rw [hl.1]; exact n_in2 (by omega) (by omega)) ?_)
  refine ok_bind (P := fun T => ∃ h, T = ha_sA S 215 h ∧ ∀ p, p ≤ N → (h (wc (ha_gA S 212) p)).toInt = V p) ?_ ?_
  · refine ok_dn (fun j (T : ha_St) => (nI j - 1, T)) (fun j T => j ≤ wc (ha_gA S 212) N ∧ ∃ h, T = ha_sA S 215 h ∧ ∀ p, p ≤ N → j ≤ wc (ha_gA S 212) p → (h (wc (ha_gA S 212) p)).toInt = V p) _ ?_ ?_ (wc (ha_gA S 212) N) ha_fu _ ⟨Nat.le_refl _, _, rfl, fun p h1 h2 => ?_⟩ (fu_lt (by omega))
    · rintro f i T ⟨his, h, rfl, hh⟩ ih
      obtain ⟨p, hpN, hpw, hpi⟩ := wc_ex (show i < wc (ha_gA S 212) N from his)
      have hp1 := wc_s1 hpw
      show Ok (f_X6_saving_L17 7 6 (nI set) f (nI (i + 1) - 1) (ha_sA S 215 h)) _
      rw [nI_pred]
      unfold f_X6_saving_L17 f_X6_saving_L17_J104
      simp only [pw_nm, st_fA, nI_1]
      rw [nI_clamp (show i + 1 < 2 ^ 31 by omega), nI_clamp (show i < 2 ^ 31 by omega)]
      refine ok_ie (nI_pos (by omega)) (ok_b (xr hIR 7 3 100 215) (ok_b (xr hIR 7 3 100 215) (ok_gd (by rw [hl.1]; exact n_in2 (by omega) (by omega)) (ok_gd (by rw [hl.1]; exact n_in2 (by omega) (by omega)) (ok_b (xr hIR 7 2 100 214) (ok_gd (by rw [hl.2]; exact n_in2 (by omega) (by omega)) ?_))))))
      have e1 : ha_sA (ha_sA S 215 h) 215 (upd (ha_gA (ha_sA S 215 h) 215) i (ha_gA (ha_sA S 215 h) 215 (i + 1))) = ha_sA S 215 (upd h i (h (i + 1))) := st_sAA _ _ _ _
      have e2 : ∀ u, ha_gA (ha_sA S 215 u) 214 i = nI (fmk (pfB (ha_gA S 212) N (ha_gA S 196) ln) p E) := fun u => by
        show ha_gA S 214 i = _
        rw [← hpi]; exact (hM p hpN hpw).2
      rw [e1, e2, n_and]
      have b0 := hh (p + 1) (by omega) (by omega)
      rw [hp1, hpi] at b0
      have fl := fmk_lt (pfB (ha_gA S 212) N (ha_gA S 196) ln) p E
      have fE : 2 ^ E ≤ 2 ^ 12 := Nat.pow_le_pow_right (by omega) hE
      have mle : fmk (pfB (ha_gA S 212) N (ha_gA S 196) ln) p E &&& set ≤ fmk (pfB (ha_gA S 212) N (ha_gA S 196) ln) p E := Nat.and_le_left
      have mtb : ∀ e, e < E → (fmk (pfB (ha_gA S 212) N (ha_gA S 196) ln) p E &&& set).testBit e = fpB_7 S N ln set e p := by
        intro e he
        rw [Nat.testBit_and, fmk_tb, decide_eq_true he, Bool.true_and]
        rfl
      generalize hm : fmk (pfB (ha_gA S 212) N (ha_gA S 196) ln) p E &&& set = m at *
      refine ok_bind (P := fun z => ∃ h, z = (nI i, ha_sA S 215 h) ∧ ∀ q, q ≤ N → i ≤ wc (ha_gA S 212) q → (h (wc (ha_gA S 212) q)).toInt = V q) ?_ ?_
      · have close : ∀ h : Nat → Int32, (∀ k, i + 1 ≤ wc (ha_gA S 212) k → k ≤ N → (h (wc (ha_gA S 212) k)).toInt = V k) → (h i).toInt = V p → ∀ q, q ≤ N → i ≤ wc (ha_gA S 212) q → (h (wc (ha_gA S 212) q)).toInt = V q := by
          intro h c1 c2 q hq hiq
          by_cases w : i + 1 ≤ wc (ha_gA S 212) q
          · exact c1 q w hq
          · have wq : wc (ha_gA S 212) q = i := by omega
            rw [wq, c2]
            have qp : q ≤ p := by
              by_cases z : q ≤ p
              · exact z
              · have := wc_st hpw (show p < q by omega)
                omega
            exact (gap q p qp (by omega) (by omega)).symm
        refine ok_for (fun e (T : ha_St) => (nI i, nI m, nI e, T)) 0 E (fun e T => ∃ h, T = ha_sA S 215 h ∧ (∀ k, i + 1 ≤ wc (ha_gA S 212) k → k ≤ N → (h (wc (ha_gA S 212) k)).toInt = V k) ∧ (h i).toInt = vst (fpB_7 S N ln set) ln V p e) _ _ ⟨_, rfl, fun k h1 h2 => ?_, ?_⟩ (by omega) (by omega) ?_ ?_
        · rw [pk_un (by omega)]; exact hh k h2 h1
        · rw [pk_us]; exact b0
        · rintro f2 e T he ⟨h, rfl, hk, hi⟩ ih2
          obtain ⟨l1, l2, l3, l4, l5⟩ := hB.2.2 e he
          show Ok (f_X6_saving_L48 7 6 (nI set) f2 (nI i) (nI m) (nI e) (ha_sA S 215 h)) _
          unfold f_X6_saving_L48 f_X6_saving_L48_J98
          simp only [pw_nm, st_IA, st_fA, nI_1]
          rw [hB.1, n_bit (by omega) (by omega), n_shr (by omega) (by omega), nI_clamp (show i < 2 ^ 31 by omega), mtb e he]
          refine ok_ie (nI_ge he (by omega)) (ok_if (fun z => ?_) (fun z => ?_))
          · refine ok_some ⟨h, rfl, close h hk ?_⟩
            have sh : m >>> e ≤ m := by rw [Nat.shiftRight_eq_div_pow]; exact Nat.div_le_self _ _
            rw [← nI_0, nI_eq (by omega) (by omega)] at z
            have none : ∀ x, e ≤ x → x < e + (E - e) → ¬ fpB_7 S N ln set x p = true := by
              intro x h1 h2 c
              rw [← mtb x (by omega)] at c
              have : (m >>> e).testBit (x - e) = m.testBit x := by rw [Nat.testBit_shiftRight, show e + (x - e) = x by omega]
              rw [z, c] at this
              simp at this
            rw [hvs p hpN, hi, ← vst_skip (E - e) none, show e + (E - e) = E by omega]
          · have hst : vst (fpB_7 S N ln set) ln V p (e + 1) = if fpB_7 S N ln set e p = true then max (vst (fpB_7 S N ln set) ln V p e) ((ln e : Int) - 2 + V (p + ln e)) else vst (fpB_7 S N ln set) ln V p e := rfl
            by_cases c : fpB_7 S N ln set e p = true
            · rw [if_pos c]
              have hpf : pfB (ha_gA S 212) N (ha_gA S 196) ln e p = true := by
                unfold fpB_7 at c
                rw [Bool.and_eq_true] at c
                exact c.1
              have hF2 : FrP 7 S (ha_sA S 215 h) := frP_A (frP_r 7 S) (by omega) _
              have sb := sby_7 (S := ha_sA S 215 h) (frP_IR hF2 hIR) (E := E) (N := N) (p := p) (e := e) (ln := ln) (bkX_c (Or.inl rfl) hF2 hB) hM5 hW he hpN hpf
              rw [show wc (ha_gA (ha_sA S 215 h) 212) p = i from hpi] at sb
              refine ok_ie ne10 (ok_b (xr hIR 7 3 100 215) (ok_b (xr hIR 7 3 100 215) (ok_gd (by rw [hl.1]; exact n_in2 (by omega) (by omega)) (ok_b sb (ok_gd (by rw [hl.1]; exact n_in2 (by omega) (by omega)) ?_)))))
              obtain ⟨q1, q2⟩ := hfl p e hpN he c
              have wl := pf_wc (g := ha_gA S 212) (en := ha_gA S 196) l4 hpf
              have w1 := hk (p + ln e) (by omega) q2
              have w2 := h0 (p + ln e)
              have w3 := hub (p + ln e) q2
              have w4 : (nI (ln e) - 2 + h (wc (ha_gA S 212) (p + ln e))).toInt = (ln e : Int) - 2 + V (p + ln e) := by
                have z2 : (2 : Int32).toInt = 2 := rfl
                have s1 : (nI (ln e) - 2).toInt = (ln e : Int) - 2 := by
                  rw [i_sub (by rw [nI_toInt (by omega), z2]; omega) (by rw [nI_toInt (by omega), z2]; omega), nI_toInt (by omega), z2]
                rw [i_add (by rw [s1, w1]; omega) (by rw [s1, w1]; omega), s1, w1]
              refine ih2 _ ⟨upd h i (if h i < nI (ln e) - 2 + h (wc (ha_gA S 212) (p + ln e)) then nI (ln e) - 2 + h (wc (ha_gA S 212) (p + ln e)) else h i), st_sAA _ _ _ _, fun k h1 h2 => ?_, ?_⟩
              · rw [pk_un (by omega)]; exact hk k h1 h2
              · rw [pk_us, hst, if_pos c]
                by_cases d : h i < nI (ln e) - 2 + h (wc (ha_gA S 212) (p + ln e))
                · rw [if_pos d, w4]
                  rw [i_lt, w4, hi] at d
                  omega
                · rw [if_neg d, hi]
                  rw [i_lt, w4, hi] at d
                  omega
            · rw [if_neg c]
              refine ok_it rfl (ih2 _ ⟨h, rfl, hk, ?_⟩)
              rw [hst, if_neg c]; exact hi
        · rintro f2 T ⟨h, rfl, hk, hi⟩
          show Ok (f_X6_saving_L48 7 6 (nI set) f2 (nI i) (nI m) (nI E) (ha_sA S 215 h)) _
          unfold f_X6_saving_L48
          simp only [st_IA, hB.1]
          exact ok_it (nI_le (Nat.le_refl _) (by omega)) (ok_some ⟨h, rfl, close h hk (by rw [hvs p hpN]; exact hi)⟩)
      · rintro z ⟨h, rfl, hk⟩
        dsimp only
        rw [← Int32.sub_eq_add_neg]
        exact ih _ ⟨by omega, h, rfl, hk⟩
    · rintro f T ⟨-, h, rfl, hh⟩
      show Ok (f_X6_saving_L17 7 6 (nI set) f (nI 0 - 1) (ha_sA S 215 h)) _
      unfold f_X6_saving_L17
      exact ok_it (by decide) (ok_some ⟨h, rfl, fun p hp => hh p hp (by omega)⟩)
    · have := wc_mon (g := ha_gA S 212) h1
      have e : wc (ha_gA S 212) p = wc (ha_gA S 212) N := by omega
      rw [e, pk_us, z_0, gap p N h1 (Nat.le_refl _) e.symm, hvN]
  · rintro T ⟨h, rfl, hh⟩
    simp only [st_fA]
    exact ok_b (xr hIR 7 3 100 215) (ok_gd (by rw [hl.1]; decide) (ok_some ⟨h, rfl, hh⟩))
theorem sby_8 {S : ha_St} (hIR : IR S) {E N p e : Nat} {ln : Nat → Nat} (hB : BkX S E ln) (hM : ha_gI S 8 5 = nI (wc (ha_gA S 228) N)) (hW : wc (ha_gA S 228) N ≤ 240) (he : e < E) (hp : p < N) (hf : pfB (ha_gA S 228) N (ha_gA S 196) ln e p = true) : f_X6_savingBy 8 6 (nI e) (nI (wc (ha_gA S 228) p)) S = some (nI (ln e) - 2 + ha_gA S 231 (wc (ha_gA S 228) (p + ln e)), S) := by
  have hl : xo_ln 231 = 241 ∧ xo_ln 197 = 12 ∧ xo_ln 198 = 12 := by decide +kernel
  have hE := hB.2.1
  obtain ⟨b1, b2, b3, b4, b5⟩ := hB.2.2 e he
  have q := pf_wc b4 hf
  have q2 : p + ln e ≤ N := by
    unfold pfB at hf
    rw [Bool.and_eq_true, decide_eq_true_eq] at hf
    exact hf.2.1
  have q3 := wc_mon (g := ha_gA S 228) q2
  have gE := n_in2 (show e < 12 by omega) (by omega)
  have gW := n_in2 (c := wc (ha_gA S 228) (p + ln e)) (N := 241) (by omega) (by omega)
  unfold f_X6_savingBy
  simp only [pw_nm, pw_bs, xr hIR 6 2 100 198, xr hIR 6 1 100 197, xr hIR 8 3 100 231, hl, nI_clamp (show e < 2 ^ 31 by omega), pw_gd gE, b1, b5, hM, nI_add]
  rw [← q, if_neg (nI_nlt q3 (by omega)), nI_clamp (by omega), pw_gd gW]
def fpB_8 (S : ha_St) (N : Nat) (ln : Nat → Nat) (set : Nat) (e p : Nat) : Bool := pfB (ha_gA S 228) N (ha_gA S 196) ln e p && set.testBit e
theorem fp_l_8 {S : ha_St} {E N set : Nat} {ln : Nat → Nat} (hB : BkX S E ln) : ∀ p e, p < N → e < E → fpB_8 S N ln set e p = true → 1 ≤ ln e ∧ p + ln e ≤ N := by
  intro p e _ he h
  refine ⟨(hB.2.2 e he).2.1, ?_⟩
  unfold fpB_8 pfB at h
  rw [Bool.and_eq_true, Bool.and_eq_true, decide_eq_true_eq] at h
  exact h.1.2.1
theorem fp_w_8 {S : ha_St} {E N set : Nat} {ln : Nat → Nat} : ∀ e p, e < E → fpB_8 S N ln set e p = true → wsB (ha_gA S 228) p = true := by
  intro e p _ h
  unfold fpB_8 pfB at h
  rw [Bool.and_eq_true, Bool.and_eq_true] at h
  exact h.1.1
theorem saving_8 {S : ha_St} (hIR : IR S) {E N set : Nat} {ln : Nat → Nat} (hB : BkX S E ln) (hN : N ≤ 488) (hM : Mk 8 S E N N ln) (hW : wc (ha_gA S 228) N ≤ 240) (hset : set < 2 ^ 20) : Ok (f_X6_saving 8 6 (nI set) S) (fun z => ∃ h, z = (h 0, ha_sA S 231 h) ∧ ∀ p, p ≤ N → (h (wc (ha_gA S 228) p)).toInt = vv (fpB_8 S N ln set) ln E N p) := by
  have hl : xo_ln 231 = 241 ∧ xo_ln 230 = 241 := by decide +kernel
  have hE := hB.2.1
  have hfl := fp_l_8 (set := set) (N := N) hB
  have hfl1 : ∀ p e, p < N → e < E → fpB_8 S N ln set e p = true → 1 ≤ ln e := fun p e a b c => (hfl p e a b c).1
  have h0 := fun p => vv_0 hfl1 p
  have hub : ∀ p, p ≤ N → vv (fpB_8 S N ln set) ln E N p ≤ (N : Int) - p := fun p hp => by
    have := vv_ub hfl (N - p) p (by omega)
    omega
  have gap : ∀ p q, p ≤ q → q ≤ N → wc (ha_gA S 228) q = wc (ha_gA S 228) p → vv (fpB_8 S N ln set) ln E N p = vv (fpB_8 S N ln set) ln E N q := by
    intro p q h1 h2 h3
    have := vv_gap (g := ha_gA S 228) (ft := fpB_8 S N ln set) (ln := ln) (E := E) (N := N) fp_w_8 (q - p) p (by rw [show p + (q - p) = q by omega]; exact h3) (by omega)
    rwa [show p + (q - p) = q by omega] at this
  have hvN := vv_N (fpB_8 S N ln set) ln E N N (Nat.le_refl _)
  have hvs : ∀ p, p < N → vv (fpB_8 S N ln set) ln E N p = vst (fpB_8 S N ln set) ln (vv (fpB_8 S N ln set) ln E N) p E := fun p hp => vv_s hp (fun e he c => hfl1 p e hp he c)
  generalize hV : vv (fpB_8 S N ln set) ln E N = V at *
  obtain ⟨hM5, hM⟩ := hM
  have hM5 : ha_gI S 8 5 = nI (wc (ha_gA S 228) N) := hM5
  have hM : ∀ p, p < N → wsB (ha_gA S 228) p = true → ha_gA S 229 (wc (ha_gA S 228) p) = nI p ∧ ha_gA S 230 (wc (ha_gA S 228) p) = nI (fmk (pfB (ha_gA S 228) N (ha_gA S 196) ln) p E) := hM
  unfold f_X6_saving f_X6_saving_J110
  simp only [pw_nm, st_IA]
  rw [hM5, nI_clamp (show wc (ha_gA S 228) N < 2 ^ 31 by omega)]
  refine ok_b (xr hIR 8 3 100 231) (ok_gd (by rw [hl.1]; exact n_in2 (by omega) (by omega)) ?_)
  refine ok_bind (P := fun T => ∃ h, T = ha_sA S 231 h ∧ ∀ p, p ≤ N → (h (wc (ha_gA S 228) p)).toInt = V p) ?_ ?_
  · refine ok_dn (fun j (T : ha_St) => (nI j - 1, T)) (fun j T => j ≤ wc (ha_gA S 228) N ∧ ∃ h, T = ha_sA S 231 h ∧ ∀ p, p ≤ N → j ≤ wc (ha_gA S 228) p → (h (wc (ha_gA S 228) p)).toInt = V p) _ ?_ ?_ (wc (ha_gA S 228) N) ha_fu _ ⟨Nat.le_refl _, _, rfl, fun p h1 h2 => ?_⟩ (fu_lt (by omega))
    · rintro f i T ⟨his, h, rfl, hh⟩ ih
      obtain ⟨p, hpN, hpw, hpi⟩ := wc_ex (show i < wc (ha_gA S 228) N from his)
      have hp1 := wc_s1 hpw
      show Ok (f_X6_saving_L17 8 6 (nI set) f (nI (i + 1) - 1) (ha_sA S 231 h)) _
      rw [nI_pred]
      unfold f_X6_saving_L17 f_X6_saving_L17_J104
      simp only [pw_nm, st_fA, nI_1]
      rw [nI_clamp (show i + 1 < 2 ^ 31 by omega), nI_clamp (show i < 2 ^ 31 by omega)]
      refine ok_ie (nI_pos (by omega)) (ok_b (xr hIR 8 3 100 231) (ok_b (xr hIR 8 3 100 231) (ok_gd (by rw [hl.1]; exact n_in2 (by omega) (by omega)) (ok_gd (by rw [hl.1]; exact n_in2 (by omega) (by omega)) (ok_b (xr hIR 8 2 100 230) (ok_gd (by rw [hl.2]; exact n_in2 (by omega) (by omega)) ?_))))))
      have e1 : ha_sA (ha_sA S 231 h) 231 (upd (ha_gA (ha_sA S 231 h) 231) i (ha_gA (ha_sA S 231 h) 231 (i + 1))) = ha_sA S 231 (upd h i (h (i + 1))) := st_sAA _ _ _ _
      have e2 : ∀ u, ha_gA (ha_sA S 231 u) 230 i = nI (fmk (pfB (ha_gA S 228) N (ha_gA S 196) ln) p E) := fun u => by
        show ha_gA S 230 i = _
        rw [← hpi]; exact (hM p hpN hpw).2
      rw [e1, e2, n_and]
      have b0 := hh (p + 1) (by omega) (by omega)
      rw [hp1, hpi] at b0
      have fl := fmk_lt (pfB (ha_gA S 228) N (ha_gA S 196) ln) p E
      have fE : 2 ^ E ≤ 2 ^ 12 := Nat.pow_le_pow_right (by omega) hE
      have mle : fmk (pfB (ha_gA S 228) N (ha_gA S 196) ln) p E &&& set ≤ fmk (pfB (ha_gA S 228) N (ha_gA S 196) ln) p E := Nat.and_le_left
      have mtb : ∀ e, e < E → (fmk (pfB (ha_gA S 228) N (ha_gA S 196) ln) p E &&& set).testBit e = fpB_8 S N ln set e p := by
        intro e he
        rw [Nat.testBit_and, fmk_tb, decide_eq_true he, Bool.true_and]
        rfl
      generalize hm : fmk (pfB (ha_gA S 228) N (ha_gA S 196) ln) p E &&& set = m at *
      refine ok_bind (P := fun z => ∃ h, z = (nI i, ha_sA S 231 h) ∧ ∀ q, q ≤ N → i ≤ wc (ha_gA S 228) q → (h (wc (ha_gA S 228) q)).toInt = V q) ?_ ?_
      · have close : ∀ h : Nat → Int32, (∀ k, i + 1 ≤ wc (ha_gA S 228) k → k ≤ N → (h (wc (ha_gA S 228) k)).toInt = V k) → (h i).toInt = V p → ∀ q, q ≤ N → i ≤ wc (ha_gA S 228) q → (h (wc (ha_gA S 228) q)).toInt = V q := by
          intro h c1 c2 q hq hiq
          by_cases w : i + 1 ≤ wc (ha_gA S 228) q
          · exact c1 q w hq
          · have wq : wc (ha_gA S 228) q = i := by omega
            rw [wq, c2]
            have qp : q ≤ p := by
              by_cases z : q ≤ p
              · exact z
              · have := wc_st hpw (show p < q by omega)
                omega
            exact (gap q p qp (by omega) (by omega)).symm
        refine ok_for (fun e (T : ha_St) => (nI i, nI m, nI e, T)) 0 E (fun e T => ∃ h, T = ha_sA S 231 h ∧ (∀ k, i + 1 ≤ wc (ha_gA S 228) k → k ≤ N → (h (wc (ha_gA S 228) k)).toInt = V k) ∧ (h i).toInt = vst (fpB_8 S N ln set) ln V p e) _ _ ⟨_, rfl, fun k h1 h2 => ?_, ?_⟩ (by omega) (by omega) ?_ ?_
        · rw [pk_un (by omega)]; exact hh k h2 h1
        · rw [pk_us]; exact b0
        · rintro f2 e T he ⟨h, rfl, hk, hi⟩ ih2
          obtain ⟨l1, l2, l3, l4, l5⟩ := hB.2.2 e he
          show Ok (f_X6_saving_L48 8 6 (nI set) f2 (nI i) (nI m) (nI e) (ha_sA S 231 h)) _
          unfold f_X6_saving_L48 f_X6_saving_L48_J98
          simp only [pw_nm, st_IA, st_fA, nI_1]
          rw [hB.1, n_bit (by omega) (by omega), n_shr (by omega) (by omega), nI_clamp (show i < 2 ^ 31 by omega), mtb e he]
          refine ok_ie (nI_ge he (by omega)) (ok_if (fun z => ?_) (fun z => ?_))
          · refine ok_some ⟨h, rfl, close h hk ?_⟩
            have sh : m >>> e ≤ m := by rw [Nat.shiftRight_eq_div_pow]; exact Nat.div_le_self _ _
            rw [← nI_0, nI_eq (by omega) (by omega)] at z
            have none : ∀ x, e ≤ x → x < e + (E - e) → ¬ fpB_8 S N ln set x p = true := by
              intro x h1 h2 c
              rw [← mtb x (by omega)] at c
              have : (m >>> e).testBit (x - e) = m.testBit x := by rw [Nat.testBit_shiftRight, show e + (x - e) = x by omega]
              rw [z, c] at this
              simp at this
            rw [hvs p hpN, hi, ← vst_skip (E - e) none, show e + (E - e) = E by omega]
          · have hst : vst (fpB_8 S N ln set) ln V p (e + 1) = if fpB_8 S N ln set e p = true then max (vst (fpB_8 S N ln set) ln V p e) ((ln e : Int) - 2 + V (p + ln e)) else vst (fpB_8 S N ln set) ln V p e := rfl
            by_cases c : fpB_8 S N ln set e p = true
            · rw [if_pos c]
              have hpf : pfB (ha_gA S 228) N (ha_gA S 196) ln e p = true := by
                unfold fpB_8 at c
                rw [Bool.and_eq_true] at c
                exact c.1
              have hF2 : FrP 8 S (ha_sA S 231 h) := frP_A (frP_r 8 S) (by omega) _
              have sb := sby_8 (S := ha_sA S 231 h) (frP_IR hF2 hIR) (E := E) (N := N) (p := p) (e := e) (ln := ln) (bkX_c (Or.inr rfl) hF2 hB) hM5 hW he hpN hpf
              rw [show wc (ha_gA (ha_sA S 231 h) 228) p = i from hpi] at sb
              refine ok_ie ne10 (ok_b (xr hIR 8 3 100 231) (ok_b (xr hIR 8 3 100 231) (ok_gd (by rw [hl.1]; exact n_in2 (by omega) (by omega)) (ok_b sb (ok_gd (by rw [hl.1]; exact n_in2 (by omega) (by omega)) ?_)))))
              obtain ⟨q1, q2⟩ := hfl p e hpN he c
              have wl := pf_wc (g := ha_gA S 228) (en := ha_gA S 196) l4 hpf
              have w1 := hk (p + ln e) (by omega) q2
              have w2 := h0 (p + ln e)
              have w3 := hub (p + ln e) q2
              have w4 : (nI (ln e) - 2 + h (wc (ha_gA S 228) (p + ln e))).toInt = (ln e : Int) - 2 + V (p + ln e) := by
                have z2 : (2 : Int32).toInt = 2 := rfl
                have s1 : (nI (ln e) - 2).toInt = (ln e : Int) - 2 := by
                  rw [i_sub (by rw [nI_toInt (by omega), z2]; omega) (by rw [nI_toInt (by omega), z2]; omega), nI_toInt (by omega), z2]
                rw [i_add (by rw [s1, w1]; omega) (by rw [s1, w1]; omega), s1, w1]
              refine ih2 _ ⟨upd h i (if h i < nI (ln e) - 2 + h (wc (ha_gA S 228) (p + ln e)) then nI (ln e) - 2 + h (wc (ha_gA S 228) (p + ln e)) else h i), st_sAA _ _ _ _, fun k h1 h2 => ?_, ?_⟩
              · rw [pk_un (by omega)]; exact hk k h1 h2
              · rw [pk_us, hst, if_pos c]
                by_cases d : h i < nI (ln e) - 2 + h (wc (ha_gA S 228) (p + ln e))
                · rw [if_pos d, w4]
                  rw [i_lt, w4, hi] at d
                  omega
                · rw [if_neg d, hi]
                  rw [i_lt, w4, hi] at d
                  omega
            · rw [if_neg c]
              refine ok_it rfl (ih2 _ ⟨h, rfl, hk, ?_⟩)
              rw [hst, if_neg c]; exact hi
        · rintro f2 T ⟨h, rfl, hk, hi⟩
          show Ok (f_X6_saving_L48 8 6 (nI set) f2 (nI i) (nI m) (nI E) (ha_sA S 231 h)) _
          unfold f_X6_saving_L48
          simp only [st_IA, hB.1]
          exact ok_it (nI_le (Nat.le_refl _) (by omega)) (ok_some ⟨h, rfl, close h hk (by rw [hvs p hpN]; exact hi)⟩)
      · rintro z ⟨h, rfl, hk⟩
        dsimp only
        rw [← Int32.sub_eq_add_neg]
        exact ih _ ⟨by omega, h, rfl, hk⟩
    · rintro f T ⟨-, h, rfl, hh⟩
      show Ok (f_X6_saving_L17 8 6 (nI set) f (nI 0 - 1) (ha_sA S 231 h)) _
      unfold f_X6_saving_L17
      exact ok_it (by decide) (ok_some ⟨h, rfl, fun p hp => hh p hp (by omega)⟩)
    · have := wc_mon (g := ha_gA S 228) h1
      have e : wc (ha_gA S 228) p = wc (ha_gA S 228) N := by omega
      rw [e, pk_us, z_0, gap p N h1 (Nat.le_refl _) e.symm, hvN]
  · rintro T ⟨h, rfl, hh⟩
    simp only [st_fA]
    exact ok_b (xr hIR 8 3 100 231) (ok_gd (by rw [hl.1]; decide) (ok_some ⟨h, rfl, hh⟩))
