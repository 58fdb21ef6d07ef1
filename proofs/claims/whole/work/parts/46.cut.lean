/-! CODE: the pieces -/
theorem st_cIA (S : ha_St) (o k : Nat) (v : Int32) (a : Nat) (f : Nat → Int32) : ha_sA (ha_sI S o k v) a f = ha_sI (ha_sA S a f) o k v := rfl
theorem st_sII (S : ha_St) (o k : Nat) (v w : Int32) : ha_sI (ha_sI S o k v) o k w = ha_sI S o k w := by
  have : ∀ a b, (if a = o ∧ b = k then w else if a = o ∧ b = k then v else ha_gI S a b) = if a = o ∧ b = k then w else ha_gI S a b := by
    intro a b
    by_cases h : a = o ∧ b = k
    · rw [if_pos h, if_pos h]
    · rw [if_neg h, if_neg h, if_neg h]
  cases S
  simp only [ha_sI, ha_gI] at *
  congr 1
  funext a b
  exact this a b
def qx (g : Nat → Int32) (N : Nat) (en : Nat → Int32) (ln : Nat → Nat) (V : Nat → Int) (i e : Nat) : Bool := pfB g N en ln e i && decide (V i = (ln e : Int) - 2 + V (i + ln e))
theorem take_7 {S : ha_St} (hIR : IR S) {E N i : Nat} {ln : Nat → Nat} {V : Nat → Int} (hB : BkX S E ln) (hM : Mk 7 S E N N ln) (hW : wc (ha_gA S 212) N ≤ 30) (hi : i < N) (hw : wsB (ha_gA S 212) i = true) (hV : ∀ p, p ≤ N → (ha_gA S 215 (wc (ha_gA S 212) p)).toInt = V p) (hVr : ∀ p, p ≤ N → 0 ≤ V p ∧ V p ≤ 100) : Ok (f_X6_entryToTake 7 6 (nI (wc (ha_gA S 212) i)) S) (fun z => z = ((if ff (qx (ha_gA S 212) N (ha_gA S 196) ln V i) E < E then nI (ff (qx (ha_gA S 212) N (ha_gA S 196) ln V i) E) else -1), S)) := by
  have hl : xo_ln 215 = 31 ∧ xo_ln 214 = 31 := by decide +kernel
  have hE := hB.2.1
  obtain ⟨hM5, hM2⟩ := hM
  have wi := wc_st hw hi
  have f2 : ha_gA S 214 (wc (ha_gA S 212) i) = nI (fmk (pfB (ha_gA S 212) N (ha_gA S 196) ln) i E) := (hM2 i hi hw).2
  have fl := fmk_lt (pfB (ha_gA S 212) N (ha_gA S 196) ln) i E
  have fE : 2 ^ E ≤ 2 ^ 12 := Nat.pow_le_pow_right (by omega) hE
  unfold f_X6_entryToTake f_X6_entryToTake_J47
  generalize hq : qx (ha_gA S 212) N (ha_gA S 196) ln V i = q
  refine ok_bind (P := fun z => (z = .inl S ∧ ff q E = E) ∨ (z = .inr (nI (ff q E), S) ∧ ff q E < E)) ?_ ?_
  · refine ok_for (fun e (_ : Unit) => (nI e, S)) 0 E (fun e _ => ∀ x, x < e → ¬ q x = true) _ () (fun x h => by omega) (by omega) (by omega) ?_ ?_
    · rintro f e _ he hv ih
      show Ok (f_X6_entryToTake_L2 7 6 (nI (wc (ha_gA S 212) i)) f (nI e) S) _
      unfold f_X6_entryToTake_L2 f_X6_entryToTake_L2_J41
      simp only [pw_nm, nI_1]
      rw [hB.1, nI_clamp (show wc (ha_gA S 212) i < 2 ^ 31 by omega)]
      refine ok_ie (nI_ge he (by omega)) (ok_b (xr hIR 7 2 100 214) (ok_gd (by rw [hl.2]; exact n_in2 (by omega) (by omega)) ?_))
      rw [f2, n_bit (by omega) (by omega), fmk_tb, decide_eq_true he, Bool.true_and]
      have next : ¬ q e = true → Ok (f (nI (e + 1), S)) (fun z => (z = .inl S ∧ ff q E = E) ∨ (z = .inr (nI (ff q E), S) ∧ ff q E < E)) := by
        intro h
        refine ih () (fun x hx => ?_)
        by_cases w : x = e
        · rw [w]; exact h
        · exact hv x (by omega)
      by_cases c : pfB (ha_gA S 212) N (ha_gA S 196) ln e i = true
      · rw [if_pos c]
        refine ok_ie ne10 (ok_b (sby_7 hIR hB hM5 hW he hi c) (ok_b (xr hIR 7 3 100 215) (ok_gd (by rw [hl.1]; exact n_in2 (by omega) (by omega)) ?_)))
        obtain ⟨l1, l2, l3, l4, l5⟩ := hB.2.2 e he
        have iN : i + ln e ≤ N := by
          unfold pfB at c
          rw [Bool.and_eq_true, decide_eq_true_eq] at c
          exact c.2.1
        have v1 := hV i (by omega)
        have v2 := hV (i + ln e) iN
        have r1 := hVr (i + ln e) iN
        have w4 : (nI (ln e) - 2 + ha_gA S 215 (wc (ha_gA S 212) (i + ln e))).toInt = (ln e : Int) - 2 + V (i + ln e) := by
          have z2 : (2 : Int32).toInt = 2 := rfl
          have s1 : (nI (ln e) - 2).toInt = (ln e : Int) - 2 := by
            rw [i_sub (by rw [nI_toInt (by omega), z2]; omega) (by rw [nI_toInt (by omega), z2]; omega), nI_toInt (by omega), z2]
          rw [i_add (by rw [s1, v2]; omega) (by rw [s1, v2]; omega), s1, v2]
        have qe : q e = true ↔ V i = (ln e : Int) - 2 + V (i + ln e) := by
          rw [← hq]
          unfold qx
          rw [c, Bool.true_and, decide_eq_true_eq]
        refine ok_if (fun d => next (fun w => d ?_)) (fun d => ok_some (Or.inr ?_))
        · rw [i_eq, w4, v1]; exact (qe.mp w).symm
        · have d := Classical.not_not.mp d
          rw [i_eq, w4, v1] at d
          have : ff q E = e := ff_u (by omega) hv (fun _ => qe.mpr d.symm)
          rw [this]
          exact ⟨rfl, he⟩
      · rw [if_neg c]
        refine ok_it rfl (next (fun w => c ?_))
        rw [← hq] at w
        unfold qx at w
        rw [Bool.and_eq_true] at w
        exact w.1
    · rintro f _ hv
      show Ok (f_X6_entryToTake_L2 7 6 (nI (wc (ha_gA S 212) i)) f (nI E) S) _
      unfold f_X6_entryToTake_L2
      rw [hB.1]
      exact ok_it (nI_le (Nat.le_refl _) (by omega)) (ok_some (Or.inl ⟨rfl, ff_u (Nat.le_refl _) hv (fun h => by omega)⟩))
  · rintro z (⟨rfl, h⟩ | ⟨rfl, h⟩)
    · refine ok_some ?_
      rw [if_neg (by omega)]
    · refine ok_some ?_
      rw [if_pos h]
theorem cut_7 {S : ha_St} (hIR : IR S) {E s : Nat} {ln R : Nat → Nat} {V : Nat → Int} (hB : BkX S E ln) (hs : s ≤ 60) (hM : Mk 7 S E (s + 1) (s + 1) ln) (h77 : ha_gI S 7 7 = nI s) (hW : wc (ha_gA S 212) (s + 1) ≤ 30) (hV : ∀ p, p ≤ s + 1 → (ha_gA S 215 (wc (ha_gA S 212) p)).toInt = V p) (hVr : ∀ p, p ≤ s + 1 → 0 ≤ V p ∧ V p ≤ 100) (hR : ∀ i, i < s → R i = ff (qx (ha_gA S 212) (s + 1) (ha_gA S 196) ln V i) E) (hfit : ∀ i e, i < s → e < E → pfB (ha_gA S 212) (s + 1) (ha_gA S 196) ln e i = true → i + ln e ≤ s) : Ok (f_X6_cut 7 6 108 S) (fun z => ∃ c h, z = (nI c, ha_sA S 108 h) ∧ pz R ln E c = s ∧ c ≤ 60 ∧ ∀ k, k < c → h k = pce R (ha_gA S 212) E (pz R ln E k)) := by
  have hl : xo_ln 213 = 31 ∧ xo_ln 108 = 60 ∧ xo_ln 212 = 61 ∧ xo_ln 197 = 12 ∧ xo_ln 198 = 12 := by decide +kernel
  have hE := hB.2.1
  have hl1 : ∀ e, e < E → 1 ≤ ln e := fun e he => (hB.2.2 e he).2.1
  unfold f_X6_cut f_X6_cut_J130
  refine ok_bind (P := fun z => ∃ c h, z = (nI c, ha_sA S 108 h) ∧ pz R ln E c = s ∧ c ≤ 60 ∧ ∀ k, k < c → h k = pce R (ha_gA S 212) E (pz R ln E k)) ?_ (fun z hz => ok_some hz)
  refine ok_wh (fun a => ∃ c h, a = (nI c, nI (wc (ha_gA S 212) (pz R ln E c)), nI (pz R ln E c), ha_sA S 108 h) ∧ pz R ln E c ≤ s ∧ ∀ k, k < c → h k = pce R (ha_gA S 212) E (pz R ln E k)) (fun a => s - a.2.2.1.toNatClampNeg) _ ?_ ha_fu _ ⟨0, ha_gA S 108, by rw [st_self]; rfl, Nat.zero_le _, fun k h => by omega⟩ (fu_lt (by show s - (0 : Int32).toNatClampNeg < 100000; omega))
  rintro f a ⟨c, h, rfl, hps, hh⟩ ih
  have cp := pz_ge (R := R) hl1 c
  have ih : ∀ c' h', pz R ln E c' ≤ s → pz R ln E c < pz R ln E c' → (∀ k, k < c' → h' k = pce R (ha_gA S 212) E (pz R ln E k)) → Ok (f (nI c', nI (wc (ha_gA S 212) (pz R ln E c')), nI (pz R ln E c'), ha_sA S 108 h')) (fun z => ∃ c h, z = (nI c, ha_sA S 108 h) ∧ pz R ln E c = s ∧ c ≤ 60 ∧ ∀ k, k < c → h k = pce R (ha_gA S 212) E (pz R ln E k)) := by
    intro c' h' a1 a2 a3
    refine ih _ ⟨c', h', rfl, a1, a3⟩ ?_
    show s - (nI (pz R ln E c')).toNatClampNeg < s - (nI (pz R ln E c)).toNatClampNeg
    rw [nI_clamp (by omega), nI_clamp (by omega)]
    omega
  show Ok (f_X6_cut_L8 7 6 108 f (nI c) (nI (wc (ha_gA S 212) (pz R ln E c))) (nI (pz R ln E c)) (ha_sA S 108 h)) _
  have hpc1 : pz R ln E (c + 1) = pz R ln E c + if R (pz R ln E c) < E then ln (R (pz R ln E c)) else 1 := rfl
  have inc := pz_inc (R := R) hl1 c
  generalize hi : pz R ln E c = i at *
  have wiN := wc_mon (g := ha_gA S 212) (show i ≤ s + 1 by omega)
  unfold f_X6_cut_L8
  have hM5 : ha_gI S 7 5 = nI (wc (ha_gA S 212) (s + 1)) := hM.1
  simp only [st_IA, st_fA, h77, hM5, hl.2.1]
  refine ok_if (fun q => ?_) (fun q => ?_)
  · rw [nI_leI (by omega) (by omega)] at q
    exact ok_some ⟨c, h, rfl, by omega, by omega, hh⟩
  · rw [nI_leI (by omega) (by omega)] at q
    have his : i < s := by omega
    refine ok_ie (nI_ge (by omega) (by omega)) ?_
    have grow : ∀ k, k < c + 1 → upd h c (pce R (ha_gA S 212) E i) k = pce R (ha_gA S 212) E (pz R ln E k) := by
      intro k hk
      by_cases w : k = c
      · rw [w, pk_us, hi]
      · rw [pk_un w]; exact hh k (by omega)
    -- no entry
    have none : R i = E → Ok (f_X6_cut_L8_J78 7 6 108 f (nI c) (nI (wc (ha_gA S 212) (i + 1))) (nI i) (-1) (ha_sA S 108 h)) (fun z => ∃ c h, z = (nI c, ha_sA S 108 h) ∧ pz R ln E c = s ∧ c ≤ 60 ∧ ∀ k, k < c → h k = pce R (ha_gA S 212) E (pz R ln E k)) := by
      intro r
      unfold f_X6_cut_L8_J78 f_X6_cut_L8_J101 f_X6_cut_L8_J124
      simp only [pw_nm, st_fA, nI_1]
      rw [nI_clamp (show i < 2 ^ 31 by omega), nI_clamp (show c < 2 ^ 31 by omega)]
      refine ok_ie (fun w => w trivial) (ok_b (xr hIR 7 0 100 212) (ok_gd (by rw [hl.2.2.1]; exact n_in2 (by omega) (by omega)) (ok_gd (by rw [hl.2.1]; exact n_in2 (by omega) (by omega)) (ok_ie (fun w => w trivial) ?_))))
      have e1 : pz R ln E (c + 1) = i + 1 := by rw [hpc1, if_neg (by omega)]
      have := ih (c + 1) (upd h c (pce R (ha_gA S 212) E i)) (by omega) (by omega) grow
      rw [e1] at this
      have e2 : ha_sA (ha_sA S 108 h) 108 (upd (ha_gA (ha_sA S 108 h) 108) c (ha_gA (ha_sA S 108 h) 212 i)) = ha_sA S 108 (upd h c (pce R (ha_gA S 212) E i)) := by
        rw [show pce R (ha_gA S 212) E i = ha_gA S 212 i from if_neg (by omega)]
        exact st_sAA _ _ _ _
      rw [e2]
      exact this
    by_cases ws : wsB (ha_gA S 212) i = true
    · have wi := wc_st ws (show i < s + 1 by omega)
      have m1 : ha_gA S 213 (wc (ha_gA S 212) i) = nI i := (hM.2 i (by omega) ws).1
      have m1' : ha_gA (ha_sA S 108 h) 213 (wc (ha_gA S 212) i) = nI i := m1
      refine ok_ie (nI_ge wi (by omega)) (ok_b (xr hIR 7 1 100 213) ?_)
      rw [nI_clamp (show wc (ha_gA S 212) i < 2 ^ 31 by omega), m1']
      refine ok_gd (by rw [hl.1]; exact n_in2 (by omega) (by omega)) (ok_ie (fun w => w rfl) ?_)
      have tk := take_7 (S := ha_sA S 108 h) (IR_c (X := S) rfl hIR) (E := E) (N := s + 1) (i := i) (ln := ln) (V := V) hB hM hW (by omega) ws hV hVr
      refine ok_b (ok_eq tk) ?_
      have hRi := hR i his
      rw [show ff (qx (ha_gA (ha_sA S 108 h) 212) (s + 1) (ha_gA (ha_sA S 108 h) 196) ln V i) E = R i from hRi.symm]
      by_cases re : R i < E
      · rw [if_pos re]
        obtain ⟨l1, l2, l3, l4, l5⟩ := hB.2.2 (R i) re
        have qr := (ff_p (qx (ha_gA S 212) (s + 1) (ha_gA S 196) ln V i) E).2.2 (by rw [← hRi]; exact re)
        rw [← hRi] at qr
        unfold qx at qr
        rw [Bool.and_eq_true] at qr
        have fl := hfit i (R i) his re qr.1
        have wl := pf_wc (g := ha_gA S 212) (en := ha_gA S 196) l4 qr.1
        dsimp only
        simp only [st_fA]
        rw [nI_clamp (show R i < 2 ^ 31 by omega)]
        refine ok_it (n_m1 (by omega)) (ok_b (xr hIR 6 2 100 198) (ok_gd (by rw [hl.2.2.2.2]; exact n_in2 (by omega) (by omega)) ?_))
        have l5' : ha_gA (ha_sA S 108 h) 198 (R i) = nI (1 + blk (fun j => ha_gA S 196 (12 * R i + j)) (ln (R i))) := l5
        unfold f_X6_cut_L8_J75 f_X6_cut_L8_J78 f_X6_cut_L8_J101 f_X6_cut_L8_J124
        simp only [pw_nm, st_fA, nI_1]
        rw [l5', nI_add, ← wl, nI_clamp (show R i < 2 ^ 31 by omega), nI_clamp (show c < 2 ^ 31 by omega)]
        refine ok_it (n_m1 (by omega)) (ok_gd (by rw [hl.2.1]; exact n_in2 (by omega) (by omega)) (ok_it (n_m1 (by omega)) (ok_b (xr hIR 6 1 100 197) (ok_gd (by rw [hl.2.2.2.1]; exact n_in2 (by omega) (by omega)) ?_))))
        have l1' : ∀ u, ha_gA (ha_sA (ha_sA S 108 h) 108 u) 197 (R i) = nI (ln (R i)) := fun u => l1
        rw [l1', nI_add]
        have e1 : pz R ln E (c + 1) = i + ln (R i) := by rw [hpc1, if_pos re]
        have := ih (c + 1) (upd h c (pce R (ha_gA S 212) E i)) (by omega) (by omega) grow
        rw [e1] at this
        have e2 : ha_sA (ha_sA S 108 h) 108 (upd (ha_gA (ha_sA S 108 h) 108) c ((100 : Int32) + nI (R i))) = ha_sA S 108 (upd h c (pce R (ha_gA S 212) E i)) := by
          rw [show pce R (ha_gA S 212) E i = nI (100 + R i) from if_pos re, show (100 : Int32) = nI 100 from rfl, nI_add]
          exact st_sAA _ _ _ _
        rw [e2]
        exact this
      · rw [if_neg re]
        have rE : R i = E := by
          have := (ff_p (qx (ha_gA S 212) (s + 1) (ha_gA S 196) ln V i) E).1
          rw [← hRi] at this
          omega
        dsimp only
        refine ok_ie (fun w => w rfl) ?_
        unfold f_X6_cut_L8_J75
        simp only [pw_nm, nI_1]
        rw [← wc_s1 ws]
        exact none rE
    · have rE : R i = E := by
        rw [hR i his]
        refine ff_u (Nat.le_refl _) (fun e he w => ?_) (fun w => by omega)
        unfold qx pfB at w
        rw [Bool.and_eq_true, Bool.and_eq_true] at w
        exact ws w.1.1
      have nn := none rE
      rw [wc_s0 ws] at nn
      refine ok_if (fun _ => nn) (fun w => ?_)
      have w : ¬ nI (wc (ha_gA S 212) (s + 1)) ≤ nI (wc (ha_gA S 212) i) := w
      rw [nI_leI (by omega) (by omega)] at w
      obtain ⟨p, hp1, hp2, hp3⟩ := wc_ex (show wc (ha_gA S 212) i < wc (ha_gA S 212) (s + 1) by omega)
      have m1 : ha_gA S 213 (wc (ha_gA S 212) p) = nI p := (hM.2 p hp1 hp2).1
      have m1' : ha_gA (ha_sA S 108 h) 213 (wc (ha_gA S 212) i) = nI p := by rw [← hp3]; exact m1
      refine ok_b (xr hIR 7 1 100 213) ?_
      rw [nI_clamp (show wc (ha_gA S 212) i < 2 ^ 31 by omega), m1']
      refine ok_gd (by rw [hl.1]; exact n_in2 (by omega) (by omega)) (ok_it (fun w => ?_) nn)
      rw [nI_eq (by omega) (by omega)] at w
      rw [w] at hp2
      exact ws hp2
