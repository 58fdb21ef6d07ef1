/-! WHAT ENTRIES SAVE: the model -/
def bgB (f : Nat → Int32) (s : Nat) (en : Nat → Int32) (ln : Nat → Nat) (e i : Nat) : Bool := decide (i + ln e ≤ s ∧ (i = 0 ∨ f (i - 1) = 32) ∧ (i + ln e = s ∨ f (i + ln e) = 32) ∧ ∀ x, x < ln e → f (i + x) = en (12 * e + x))
/-- the book as the model keeps it -/
def Bk (M : ha_St) (E : Nat) (ln : Nat → Nat) : Prop := ha_gI M 0 67 = nI E ∧ E ≤ 12 ∧ ∀ e, e < E → ha_gA M 65 e = nI (ln e) ∧ 1 ≤ ln e ∧ ln e ≤ 12
theorem begins_m {M : ha_St} (hIM : IM M) {E s e i : Nat} {ln : Nat → Nat} (hB : Bk M E ln) (hs : ha_gI M 0 72 = nI s) (hs6 : s ≤ 60) (he : e < E) (hi : i ≤ s) : Ok (f_X12_begins 0 (nI e) (nI i) M) (fun z => z = (if bgB (ha_gA M 70) s (ha_gA M 64) ln e i then 1 else 0, M)) := by
  have hl : mo_ln (64 + 1) = 12 ∧ mo_ln (69 + 1) = 60 ∧ mo_ln (63 + 1) = 144 := by decide +kernel
  obtain ⟨h67, hE, hb⟩ := hB
  obtain ⟨b1, b2, b3⟩ := hb e he
  have no : ¬ (i + ln e ≤ s ∧ (i = 0 ∨ ha_gA M 70 (i - 1) = 32) ∧ (i + ln e = s ∨ ha_gA M 70 (i + ln e) = 32) ∧ ∀ x, x < ln e → ha_gA M 70 (i + x) = ha_gA M 64 (12 * e + x)) → ((0 : Int32), M) = (if bgB (ha_gA M 70) s (ha_gA M 64) ln e i then 1 else 0, M) := by
    intro h
    rw [if_neg (by unfold bgB; rw [decide_eq_true_eq]; exact h)]
  unfold f_X12_begins f_X12_begins_J57
  simp only [pw_nm]
  refine ok_b (mr hIM 64 100) (ok_gd (by rw [hl.1]; exact n_in (by omega) (by omega)) ?_)
  rw [nI_clamp (show e < 2 ^ 31 by omega), b1, nI_add, hs]
  refine ok_if (fun c => ok_some (no (fun h => ?_))) (fun c => ?_)
  · rw [nI_ltI (by omega) (by omega)] at c; omega
  · rw [nI_ltI (by omega) (by omega)] at c
    have mid : (i = 0 ∨ ha_gA M 70 (i - 1) = 32) → Ok (f_X12_begins_J34 0 (nI e) (nI i) (nI (ln e)) M) (fun z => z = (if bgB (ha_gA M 70) s (ha_gA M 64) ln e i then 1 else 0, M)) := by
      intro g
      unfold f_X12_begins_J34 f_X12_begins_J57
      rw [nI_add, hs]
      have fin : (i + ln e = s ∨ ha_gA M 70 (i + ln e) = 32) → Ok (f_X12_begins_J59 0 (nI e) (nI i) (nI (ln e)) M) (fun z => z = (if bgB (ha_gA M 70) s (ha_gA M 64) ln e i then 1 else 0, M)) := by
        intro g2
        unfold f_X12_begins_J59 f_X12_begins_J100
        refine ok_bind (P := fun z => (z = .inl M ∧ ∀ x, x < ln e → ha_gA M 70 (i + x) = ha_gA M 64 (12 * e + x)) ∨ (z = .inr (0, M) ∧ ¬ ∀ x, x < ln e → ha_gA M 70 (i + x) = ha_gA M 64 (12 * e + x))) ?_ ?_
        · refine ok_for (fun x (_ : Unit) => (nI (ln e), nI x, M)) 0 (ln e) (fun x _ => ∀ y, y < x → ha_gA M 70 (i + y) = ha_gA M 64 (12 * e + y)) _ () (fun y h => by omega) (by omega) (by omega) ?_ ?_
          · rintro f x _ hx hv ih
            show Ok (f_X12_begins_L62 0 (nI e) (nI i) f (nI (ln e)) (nI x) M) _
            unfold f_X12_begins_L62
            simp only [pw_nm, nI_1]
            rw [show (12 : Int32) = nI 12 from rfl, nI_mul, nI_add, nI_add, nI_clamp (show i + x < 2 ^ 31 by omega), nI_clamp (show 12 * e + x < 2 ^ 31 by omega)]
            refine ok_ie (nI_ge hx (by omega)) (ok_b (mr hIM 69 100) (ok_gd (by rw [hl.2.1]; exact n_in2 (by omega) (by omega)) (ok_b (mr hIM 63 100) (ok_gd (by rw [hl.2.2]; exact n_in2 (by omega) (by omega)) ?_))))
            refine ok_if (fun d => ih () (fun y hy => ?_)) (fun d => ok_some (Or.inr ⟨rfl, fun h => d (h x hx)⟩))
            by_cases q : y = x
            · rw [q]; exact d
            · exact hv y (by omega)
          · rintro f _ hv
            show Ok (f_X12_begins_L62 0 (nI e) (nI i) f (nI (ln e)) (nI (ln e)) M) _
            unfold f_X12_begins_L62
            exact ok_it (nI_le (Nat.le_refl _) (by omega)) (ok_some (Or.inl ⟨rfl, hv⟩))
        · rintro z (⟨rfl, h⟩ | ⟨rfl, h⟩)
          · refine ok_some ?_
            rw [if_pos (by unfold bgB; rw [decide_eq_true_eq]; exact ⟨by omega, g, g2, h⟩)]
          · exact ok_some (no (fun q => h q.2.2.2))
      refine ok_if (fun d => fin (Or.inl ?_)) (fun d => ?_)
      · rw [nI_leI (by omega) (by omega)] at d; omega
      · rw [nI_leI (by omega) (by omega)] at d
        rw [nI_clamp (show i + ln e < 2 ^ 31 by omega)]
        refine ok_b (mr hIM 69 100) (ok_gd (by rw [hl.2.1]; exact n_in2 (by omega) (by omega)) ?_)
        refine ok_if (fun q => fin (Or.inr q)) (fun q => ok_some (no (fun h => ?_)))
        rcases h.2.2.1 with w | w
        · omega
        · exact q w
    refine ok_if (fun d => mid (Or.inl ?_)) (fun d => ?_)
    · rw [n_lit0, nI_leI (by omega) (by omega)] at d; omega
    · rw [n_lit0, nI_leI (by omega) (by omega)] at d
      rw [n_sub1 (by omega), nI_clamp (show i - 1 < 2 ^ 31 by omega)]
      refine ok_b (mr hIM 69 100) (ok_gd (by rw [hl.2.1]; exact n_in2 (by omega) (by omega)) ?_)
      refine ok_if (fun q => ok_some (no (fun h => ?_))) (fun q => mid (Or.inr (Classical.not_not.mp q)))
      rcases h.2.1 with w | w
      · omega
      · exact q w
/-- entries of a set that begin there -/
def fsB (M : ha_St) (s : Nat) (ln : Nat → Nat) (set : Nat) (e i : Nat) : Bool := bgB (ha_gA M 70) s (ha_gA M 64) ln e i && set.testBit e
theorem fs_l {M : ha_St} {E s set : Nat} {ln : Nat → Nat} (hB : Bk M E ln) : ∀ p e, p < s → e < E → fsB M s ln set e p = true → 1 ≤ ln e ∧ p + ln e ≤ s := by
  intro p e _ he h
  refine ⟨(hB.2.2 e he).2.1, ?_⟩
  unfold fsB bgB at h
  rw [Bool.and_eq_true, decide_eq_true_eq] at h
  exact h.1.1
theorem bk_c {M : ha_St} {E : Nat} {ln : Nat → Nat} (hB : Bk M E ln) (a : Nat) (h : Nat → Int32) (ha : a ≠ 65) : Bk (ha_sA M a h) E ln := ⟨hB.1, hB.2.1, fun e he => by rw [st_AA, if_neg (fun q => ha q.symm)]; exact hB.2.2 e he⟩
theorem fewest_m {M : ha_St} (hIM : IM M) {E s set : Nat} {ln : Nat → Nat} (hB : Bk M E ln) (hs : ha_gI M 0 72 = nI s) (hs6 : s ≤ 60) (hset : set < 2 ^ 20) : Ok (f_X12_fewestBy 0 (nI set) M) (fun z => ∃ h, z = (h 0, ha_sA M 71 h) ∧ ∀ i, i ≤ s → (h i).toInt = (s : Int) - i - vv (fsB M s ln set) ln E s i) := by
  have hl : mo_ln (70 + 1) = 61 ∧ mo_ln (64 + 1) = 12 := by decide +kernel
  have hfl := fs_l (set := set) (s := s) hB
  have hfl1 : ∀ p e, p < s → e < E → fsB M s ln set e p = true → 1 ≤ ln e := fun p e a b c => (hfl p e a b c).1
  have h0 := fun p => vv_0 hfl1 p
  have hub : ∀ p, p ≤ s → vv (fsB M s ln set) ln E s p ≤ (s : Int) - p := fun p hp => by
    have := vv_ub hfl (s - p) p (by omega)
    omega
  generalize hV : vv (fsB M s ln set) ln E s = V at *
  unfold f_X12_fewestBy f_X12_fewestBy_J122
  simp only [pw_nm, st_IA]
  rw [hs, nI_clamp (show s < 2 ^ 31 by omega)]
  refine ok_b (mr hIM 70 100) (ok_gd (by rw [hl.1]; exact n_in2 (by omega) (by omega)) ?_)
  refine ok_bind (P := fun T => ∃ h, T = ha_sA M 71 h ∧ ∀ i, i ≤ s → (h i).toInt = (s : Int) - i - V i) ?_ ?_
  · refine ok_dn (fun j (T : ha_St) => (nI j - 1, T)) (fun j T => j ≤ s ∧ ∃ h, T = ha_sA M 71 h ∧ ∀ i, j ≤ i → i ≤ s → (h i).toInt = (s : Int) - i - V i) _ ?_ ?_ s ha_fu _ ⟨Nat.le_refl _, _, rfl, fun i h1 h2 => ?_⟩ (fu_lt (by omega))
    · rintro f i T ⟨his, h, rfl, hh⟩ ih
      have his : i < s := his
      · show Ok (f_X12_fewestBy_L17 0 (nI set) f (nI (i + 1) - 1) (ha_sA M 71 h)) _
        rw [nI_pred]
        unfold f_X12_fewestBy_L17 f_X12_fewestBy_L17_J116
        simp only [pw_nm, st_fA, nI_1]
        rw [nI_clamp (show i + 1 < 2 ^ 31 by omega), nI_clamp (show i < 2 ^ 31 by omega)]
        refine ok_ie (nI_pos (by omega)) (ok_b (mr hIM 70 100) (ok_b (mr hIM 70 100) (ok_gd (by rw [hl.1]; exact n_in2 (by omega) (by omega)) (ok_gd (by rw [hl.1]; exact n_in2 (by omega) (by omega)) ?_))))
        have e1 : ha_sA (ha_sA M 71 h) (70 + 1) (upd (ha_gA (ha_sA M 71 h) (70 + 1)) i (ha_gA (ha_sA M 71 h) (70 + 1) (i + 1) + 1)) = ha_sA M 71 (upd h i (h (i + 1) + 1)) := st_sAA _ _ _ _
        rw [e1]
        have b0 := hh (i + 1) (by omega) (by omega)
        have v1 := h0 (i + 1)
        have v2 := hub (i + 1) (by omega)
        refine ok_bind (P := fun z => ∃ h, z = (nI i, ha_sA M 71 h) ∧ ∀ k, i ≤ k → k ≤ s → (h k).toInt = (s : Int) - k - V k) ?_ ?_
        · refine ok_for (fun e (T : ha_St) => (nI i, nI e, T)) 0 E (fun e T => ∃ h, T = ha_sA M 71 h ∧ (∀ k, i + 1 ≤ k → k ≤ s → (h k).toInt = (s : Int) - k - V k) ∧ (h i).toInt = (s : Int) - i - vst (fsB M s ln set) ln V i e) _ _ ⟨_, rfl, fun k h1 h2 => ?_, ?_⟩ (by omega) (by have := hB.2.1; omega) ?_ ?_
          · rw [pk_un (by omega)]; exact hh k h1 h2
          · rw [pk_us]
            show _ = (s : Int) - i - V (i + 1)
            rw [i_add (by rw [z_1]; omega) (by rw [z_1]; omega), z_1, b0]
            omega
          · rintro f2 e T he ⟨h, rfl, hk, hi⟩ ih2
            have hE := hB.2.1
            obtain ⟨l1, l2, l3⟩ := hB.2.2 e he
            show Ok (f_X12_fewestBy_L39 0 (nI set) f2 (nI i) (nI e) (ha_sA M 71 h)) _
            unfold f_X12_fewestBy_L39 f_X12_fewestBy_L39_J110
            simp only [pw_nm, st_IA, nI_1]
            rw [hB.1, n_bit (by omega) (by omega)]
            refine ok_ie (nI_ge he (by omega)) ?_
            have hst : vst (fsB M s ln set) ln V i (e + 1) = if fsB M s ln set e i = true then max (vst (fsB M s ln set) ln V i e) ((ln e : Int) - 2 + V (i + ln e)) else vst (fsB M s ln set) ln V i e := rfl
            have skip : ¬ fsB M s ln set e i = true → Ok (f2 (nI i, nI (e + 1), ha_sA M 71 h)) (fun z => ∃ h, z = (nI i, ha_sA M 71 h) ∧ ∀ k, i ≤ k → k ≤ s → (h k).toInt = (s : Int) - k - V k) := by
              intro q
              refine ih2 _ ⟨h, rfl, hk, ?_⟩
              rw [hst, if_neg q]; exact hi
            by_cases tb : set.testBit e = true
            · rw [if_pos tb]
              refine ok_ie (fun q => q rfl) (ok_bind (begins_m (M := ha_sA M 71 h) (IM_c (M := M) rfl hIM) (bk_c hB 71 h (by decide)) hs hs6 he (by omega)) ?_)
              rintro z rfl
              have eb : bgB (ha_gA (ha_sA M 71 h) 70) s (ha_gA (ha_sA M 71 h) 64) ln e i = bgB (ha_gA M 70) s (ha_gA M 64) ln e i := rfl
              rw [eb]
              by_cases bg : bgB (ha_gA M 70) s (ha_gA M 64) ln e i = true
              · rw [if_pos bg]
                have hf : fsB M s ln set e i = true := by unfold fsB; rw [bg, tb]; rfl
                obtain ⟨q1, q2⟩ := hfl i e his he hf
                dsimp only
                simp only [st_fA]
                have l1' : ha_gA (ha_sA M 71 h) (64 + 1) e = nI (ln e) := l1
                rw [nI_clamp (show e < 2 ^ 31 by omega), nI_clamp (show i < 2 ^ 31 by omega)]
                refine ok_ie ne10 (ok_b (mr hIM 70 100) (ok_b (mr hIM 64 100) ?_))
                rw [l1', nI_add, nI_clamp (show i + ln e < 2 ^ 31 by omega)]
                refine ok_gd (by rw [hl.2]; exact n_in2 (by omega) (by omega)) (ok_gd (by rw [hl.1]; exact n_in2 (by omega) (by omega)) (ok_b (mr hIM 70 100) (ok_gd (by rw [hl.1]; exact n_in2 (by omega) (by omega)) ?_)))
                have w1 := hk (i + ln e) (by omega) (by omega)
                have w2 := h0 (i + ln e)
                have w3 := hub (i + ln e) (by omega)
                have w4 : (h (i + ln e) + 2).toInt = (s : Int) - (i + ln e) - V (i + ln e) + 2 := by
                  have z2 : (2 : Int32).toInt = 2 := rfl
                  rw [i_add (by rw [z2, w1]; omega) (by rw [z2, w1]; omega), z2, w1]; omega
                show Ok (if h i ≤ h (i + ln e) + 2 then _ else _) _
                refine ok_if (fun q => ih2 _ ⟨h, rfl, hk, ?_⟩) (fun q => ok_b (mr hIM 70 100) (ok_b (mr hIM 70 100) (ok_b (mr hIM 64 100) ?_)))
                · rw [i_le, hi, w4] at q
                  rw [hst, if_pos hf, hi]
                  omega
                · rw [i_le, hi, w4] at q
                  rw [l1', nI_add, nI_clamp (show i + ln e < 2 ^ 31 by omega)]
                  refine ok_gd (by rw [hl.2]; exact n_in2 (by omega) (by omega)) (ok_gd (by rw [hl.1]; exact n_in2 (by omega) (by omega)) (ok_gd (by rw [hl.1]; exact n_in2 (by omega) (by omega)) (ih2 _ ⟨upd h i (h (i + ln e) + 2), st_sAA _ _ _ _, fun k h1 h2 => ?_, ?_⟩)))
                  · rw [pk_un (by omega)]; exact hk k h1 h2
                  · rw [pk_us, w4, hst, if_pos hf]
                    omega
              · rw [if_neg bg]
                exact ok_it rfl (skip (fun q => bg (by unfold fsB at q; rw [Bool.and_eq_true] at q; exact q.1)))
            · rw [if_neg tb]
              exact ok_it (by decide) (skip (fun q => tb (by unfold fsB at q; rw [Bool.and_eq_true] at q; exact q.2)))
          · rintro f2 T ⟨h, rfl, hk, hi⟩
            have hE := hB.2.1
            show Ok (f_X12_fewestBy_L39 0 (nI set) f2 (nI i) (nI E) (ha_sA M 71 h)) _
            unfold f_X12_fewestBy_L39
            simp only [st_IA, hB.1]
            refine ok_it (nI_le (Nat.le_refl _) (by omega)) (ok_some ⟨h, rfl, fun k h1 h2 => ?_⟩)
            by_cases q : k = i
            · subst q
              rw [hi, ← hV, ← vv_s his (fun e he c => hfl1 k e his he c)]
            · exact hk k (by omega) h2
        · rintro z ⟨h, rfl, hk⟩
          dsimp only
          rw [← Int32.sub_eq_add_neg]
          exact ih _ ⟨by omega, h, rfl, hk⟩
    · rintro f T ⟨-, h, rfl, hh⟩
      show Ok (f_X12_fewestBy_L17 0 (nI set) f (nI 0 - 1) (ha_sA M 71 h)) _
      unfold f_X12_fewestBy_L17
      exact ok_it (by decide) (ok_some ⟨h, rfl, fun i hi => hh i (by omega) hi⟩)
    · obtain rfl : i = s := by omega
      rw [pk_us, z_0, ← hV, vv_N _ _ _ _ _ (Nat.le_refl _)]
      omega
  · rintro T ⟨h, rfl, hh⟩
    simp only [st_fA]
    exact ok_b (mr hIM 70 100) (ok_gd (by rw [hl.1]; decide) (ok_some ⟨h, rfl, hh⟩))
