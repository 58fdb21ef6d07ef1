/-! A PLAY, the model's -/
def FQ (M M' : ha_St) : Prop := ha_gR M' = ha_gR M ∧ (∀ k, k ≠ 0 → ¬ (37 ≤ k ∧ k ≤ 41) → k ≠ 43 → k ≠ 45 → k ≠ 46 → k ≠ 48 → ¬ (53 ≤ k ∧ k ≤ 59) → ha_gI M' 0 k = ha_gI M 0 k) ∧ ∀ a, ¬ (33 ≤ a ∧ a ≤ 37) → a ≠ 48 → ¬ (50 ≤ a ∧ a ≤ 53) → ha_gA M' a = ha_gA M a
theorem FQ_r (M : ha_St) : FQ M M := ⟨rfl, fun _ _ _ _ _ _ _ _ => rfl, fun _ _ _ _ => rfl⟩
theorem FQ_t {M M1 M2 : ha_St} (h : FQ M M1) (g : FQ M1 M2) : FQ M M2 := ⟨g.1.trans h.1, fun k a b c d e f i => (g.2.1 k a b c d e f i).trans (h.2.1 k a b c d e f i), fun x a b c => (g.2.2 x a b c).trans (h.2.2 x a b c)⟩
theorem FQ_s {M M1 : ha_St} (h : FS M M1) : FQ M M1 := ⟨h.1, fun k a b c d e f i => h.2.1 k (by omega) (by omega) (by omega) (by omega) d e, fun a h1 h2 _ => h.2.2 a h1 h2⟩
theorem CM_q {M M1 M0 : ha_St} {m n : Nat} (h : FQ M M1) (hC : CM M M0 m n) : CM M1 M0 m n := by
  obtain ⟨c1, c2, c3, c4, ⟨F, c5, c6⟩, c7⟩ := hC
  exact ⟨IM_c h.1 c1, fun a ha => (h.2.2 a (by omega) (by omega) (by omega)).trans (c2 a ha), by rw [h.2.1 30 (by omega) (by omega) (by omega) (by omega) (by omega) (by omega) (by omega)]; exact c3, by rw [h.2.1 4 (by omega) (by omega) (by omega) (by omega) (by omega) (by omega) (by omega)]; exact c4, ⟨F, c5, by rw [h.2.1 31 (by omega) (by omega) (by omega) (by omega) (by omega) (by omega) (by omega)]; exact c6⟩, c7⟩
theorem fogQ_q {M M1 : ha_St} {g t : Nat} (h : FQ M M1) : fogQ M1 g t ↔ fogQ M g t := by
  unfold fogQ
  rw [h.2.1 31 (by omega) (by omega) (by omega) (by omega) (by omega) (by omega) (by omega), h.2.2 28 (by omega) (by omega) (by omega), h.2.2 29 (by omega) (by omega) (by omega), h.2.2 30 (by omega) (by omega) (by omega)]
theorem nar_b : ∀ j, j < 64 → vp_nar .byte ((nI j).toInt8.toInt32) = nI j := by decide +kernel
theorem nar_i {x : Int32} (h : 0 ≤ x.toInt ∧ x.toInt ≤ 63) : vp_nar .byte (x.toInt8.toInt32) = x := by
  rw [n_tnI h.1]
  exact nar_b _ (by unfold tn; omega)
theorem play_m {M M0 : ha_St} {m n T : Nat} {fg : Nat → Nat → Bool} (hC : CM M M0 m n) (hT : T ≤ 500) (hfg : ∀ tick, 1 ≤ tick → tick ≤ 500 → ∀ g, g < 15 → (fg tick g = true ↔ fogQ M g tick)) : Ok (f_X12_play 0 (nI T) M) (fun z => z.1 = nI (rn M0 m n fg T).2.2.2.2.1 ∧ FQ M z.2 ∧ (∀ q, q ≤ T → ∀ t, t < n → ha_gA z.2 50 (16 * q + t) = (rn M0 m n fg q).1 t) ∧ (∀ j, j < 4 * n → ha_gA z.2 51 j = (rn M0 m n fg T).2.2.1 j) ∧ (∀ t, t < n → ha_gA z.2 52 t = (rn M0 m n fg T).2.1 t) ∧ (∀ k, k < (rn M0 m n fg T).2.2.2.2.1 → ha_gA z.2 53 k = (rn M0 m n fg T).2.2.2.2.2.2 k) ∧ ha_gI z.2 0 53 = nI T ∧ ha_gI z.2 0 54 = nI n ∧ ha_gI z.2 0 55 = nI (rn M0 m n fg T).2.2.2.2.1 ∧ ha_gI z.2 0 56 = out m (rn M0 m n fg T) ∧ ha_gI z.2 0 57 = (rn M0 m n fg T).2.2.2.2.2.1 ∧ ha_gI z.2 0 58 = nI (stl M0 m n fg T) ∧ ha_gI z.2 0 59 = nI (rn M0 m n fg T).2.2.2.1) := by
  have hC0 := hC
  obtain ⟨hIM, hA, h30, h4, -, hm, h3, hn, hPR⟩ := hC
  have hp : ∀ k, k < 3 → PVa M0 k := fun k hk => by
    obtain ⟨X, p, h⟩ := hPR k hk
    exact pr_pva h
  have hli := fun t => li_rn (M := M0) (m := m) (n := n) (fg := fg) hm hp t
  unfold f_X12_play
  rw [pw_nm]
  refine ok_b (isIn_eq _ _ _) ?_
  rw [if_neg (show ¬ (nI T < 0 ∨ (500 : Int32) < nI T) from fun h => h.elim (nI_pos (by omega)) (nI_nlt (a := 500) hT (by omega)))]
  refine ok_it (by decide) ?_
  simp only [pw_nm]
  generalize hM1 : ha_sI (ha_sI (ha_sI M 0 0 0) 0 41 0) 0 43 0 = M1
  have q1 : FQ M M1 := by
    rw [← hM1]
    exact ⟨rfl, fun k a b c d e f i => by rw [st_II, if_neg (by omega), st_II, if_neg (by omega), st_II, if_neg (by omega)], fun _ _ _ _ => rfl⟩
  have n41 : ha_gI M1 0 41 = 0 := by rw [← hM1]; rfl
  have n43 : ha_gI M1 0 43 = 0 := by rw [← hM1]; rfl
  refine ok_bind (begin_m (CM_q q1 hC0)) ?_
  rintro M2 ⟨b1, b2, b3⟩
  refine ok_bind (P := fun Y => FQ M Y ∧ RM Y n (rn M0 m n fg T) ∧ ha_gI Y 0 39 = nI (stl M0 m n fg T) ∧ (∀ q, q ≤ T → ∀ t, t < n → ha_gA Y 50 (16 * q + t) = (rn M0 m n fg q).1 t)) ?_ ?_
  · refine ok_for (fun i (Y : ha_St) => (nI i, Y)) 0 (T + 1) (fun i Y => FQ M Y ∧ ha_gI Y 0 41 = 0 ∧ ha_gI Y 0 43 = 0 ∧ RM Y n (rn M0 m n fg (i - 1)) ∧ ha_gI Y 0 39 = nI (stl M0 m n fg (i - 1)) ∧ (∀ q, q < i → ∀ t, t < n → ha_gA Y 50 (16 * q + t) = (rn M0 m n fg q).1 t)) _ M2 ⟨FQ_t q1 (FQ_s b2), by rw [b2.2.1 41 (by omega) (by omega) (by omega) (by omega) (by omega) (by omega)]; exact n41, by rw [b2.2.1 43 (by omega) (by omega) (by omega) (by omega) (by omega) (by omega)]; exact n43, b1, b3, fun q h => by omega⟩ (by omega) (by omega) ?_ ?_
    · rintro f i Y hi ⟨y1, y2, y3, y4, y5, y6⟩ ih
      show Ok (f_X12_play_L34 0 (nI T) f (nI i) Y) _
      have row : ∀ Z : ha_St, FQ M Z → ha_gI Z 0 41 = 0 → ha_gI Z 0 43 = 0 → RM Z n (rn M0 m n fg i) → ha_gI Z 0 39 = nI (stl M0 m n fg i) → (∀ q, q < i → ∀ t, t < n → ha_gA Z 50 (16 * q + t) = (rn M0 m n fg q).1 t) → Ok (f_X12_play_L34_J48 0 (nI T) f (nI i) Z) (fun Y => FQ M Y ∧ RM Y n (rn M0 m n fg T) ∧ ha_gI Y 0 39 = nI (stl M0 m n fg T) ∧ (∀ q, q ≤ T → ∀ t, t < n → ha_gA Y 50 (16 * q + t) = (rn M0 m n fg q).1 t)) := by
        intro Z z1 z2 z3 z4 z5 z6
        have hCZ := CM_q z1 hC0
        unfold f_X12_play_L34_J48
        have e16 : (16 : Int32) * nI i = nI (16 * i) := nI_mul 16 i
        refine ok_bind (P := fun z => ∃ h, z = (nI i, ha_sA Z 50 h) ∧ (∀ j, j < 16 * i → h j = ha_gA Z 50 j) ∧ ∀ t, t < n → h (16 * i + t) = (rn M0 m n fg i).1 t) ?_ ?_
        · refine ok_fors (fun t (h : Nat → Int32) => (nI i, nI t, ha_sA Z 50 h)) 0 n (fun t h => (∀ j, j < 16 * i → h j = ha_gA Z 50 j) ∧ ∀ u, u < t → h (16 * i + u) = (rn M0 m n fg i).1 u) _ (ha_gA Z 50) (by rw [st_self]; rfl) ⟨fun _ _ => rfl, fun u h => by omega⟩ (by omega) (by omega) ?_ ?_
          · rintro g t h ht ⟨hv1, hv2⟩ ih2
            show Ok (f_X12_play_L50 0 (nI T) g (nI i) (nI t) (ha_sA Z 50 h)) _
            unfold f_X12_play_L50
            rw [show ha_gI (ha_sA Z 50 h) 0 4 = nI n from hCZ.2.2.2.1]
            refine ok_ie (nI_ge ht (by omega)) (ok_b (mA49 (M := ha_sA Z 50 h) hCZ.1) (ok_b (mA32 (M := ha_sA Z 50 h) hCZ.1) (ok_gd (by rw [mL33]; exact n_in (by omega) (by omega)) ?_)))
            rw [e16, nI_add]
            refine ok_gd (by rw [mL50]; exact n_in (by omega) (by omega)) ?_
            simp only [pw_nm, nI_1, st_sAA, nI_clamp (show t < 2 ^ 31 by omega), nI_clamp (show 16 * i + t < 2 ^ 31 by omega)]
            have hs : ha_gA (ha_sA Z 50 h) 33 t = (rn M0 m n fg i).1 t := by rw [st_AA, if_neg (by omega)]; exact z4.1 t ht
            rw [hs, nar_i ((hli i).1 t), st_AA, if_pos rfl]
            refine ih2 _ ⟨fun j hj => ?_, fun u hu => ?_⟩
            · rw [pk_un (by omega)]; exact hv1 j hj
            · by_cases e : u = t
              · rw [e, pk_us]
              · rw [pk_un (by omega)]; exact hv2 u (by omega)
          · rintro g h hv
            show Ok (f_X12_play_L50 0 (nI T) g (nI i) (nI n) (ha_sA Z 50 h)) _
            unfold f_X12_play_L50
            rw [show ha_gI (ha_sA Z 50 h) 0 4 = nI n from hCZ.2.2.2.1]
            exact ok_it (nI_le (Nat.le_refl _) (by omega)) (ok_some ⟨h, rfl, hv⟩)
        · rintro z ⟨h, rfl, h1, h2⟩
          unfold f_X12_play_L34_J82
          simp only [pw_nm, nI_1]
          refine ih _ ⟨FQ_t z1 ⟨rfl, fun _ _ _ _ _ _ _ _ => rfl, fun a _ _ h3 => by rw [st_AA, if_neg (by omega)]⟩, z2, z3, ?_, ?_, fun q hq t ht => ?_⟩
          · rw [show i + 1 - 1 = i by omega]; exact z4
          · rw [show i + 1 - 1 = i by omega]; exact z5
          · rw [st_AA, if_pos rfl]
            by_cases e : q = i
            · rw [e]; exact h2 t ht
            · rw [h1 _ (by omega)]; exact z6 q (by omega) t ht
      unfold f_X12_play_L34
      refine ok_ie (nI_nlt (by omega) (by omega)) ?_
      by_cases c : i = 0
      · subst c
        exact ok_it (by decide) (row Y y1 y2 y3 y4 y5 y6)
      · obtain ⟨q, rfl⟩ : ∃ q, i = q + 1 := ⟨i - 1, by omega⟩
        rw [show q + 1 - 1 = q by omega] at y4 y5
        refine ok_ie (nI_nle (by omega) (by omega)) (ok_bind (step_m (fg := fg (q + 1)) (CM_q y1 hC0) (by omega) (fun g hg => ?_) (hli q) y4) ?_)
        · rw [hfg (q + 1) (by omega) (by omega) g hg]
          unfold MF
          rw [y2, y3, fogQ_q y1]
          have hz : ¬ (0 : Int32) = nI (q + 1) := fun h => nI_ne0 (by omega) (by omega) h.symm
          constructor
          · exact fun h => Or.inr (Or.inr h)
          · rintro (h | h | h)
            · exact absurd h.1 hz
            · exact absurd h.1 hz
            · exact h
        · rintro Z ⟨g1, g2, g3⟩
          refine row Z (FQ_t y1 (FQ_s g2)) ?_ ?_ g1 ?_ (fun r hr t ht => ?_)
          · rw [g2.2.1 41 (by omega) (by omega) (by omega) (by omega) (by omega) (by omega)]; exact y2
          · rw [g2.2.1 43 (by omega) (by omega) (by omega) (by omega) (by omega) (by omega)]; exact y3
          · rcases g3 with ⟨g3, g4⟩ | ⟨g3, g4⟩
            · rw [g4, stl_p g3]
            · rw [g4, y5, stl_n g3]
          · rw [g2.2.2 50 (by omega) (by omega)]; exact y6 r hr t ht
    · rintro f Y ⟨y1, y2, y3, y4, y5, y6⟩
      show Ok (f_X12_play_L34 0 (nI T) f (nI (T + 1)) Y) _
      unfold f_X12_play_L34
      rw [show T + 1 - 1 = T by omega] at y4 y5
      exact ok_it (nI_lt (by omega) (by omega)) (ok_some ⟨y1, y4, y5, fun q hq t ht => y6 q (by omega) t ht⟩)
  · rintro M3 ⟨c1, c2, c3, c4⟩
    generalize hL : rn M0 m n fg T = L at *
    have hI := hli T
    rw [hL] at hI
    have hw := hI.2.2.2.1
    unfold f_X12_play_J88
    simp only [pw_nm]
    have hC3 := CM_q c1 hC0
    generalize hM4 : ha_sI (ha_sI M3 0 53 (nI T)) 0 54 (ha_gI (ha_sI M3 0 53 (nI T)) 0 4) = M4
    have i4 : ∀ k, k ≠ 53 → k ≠ 54 → ha_gI M4 0 k = ha_gI M3 0 k := fun k h1 h2 => by rw [← hM4, st_II, if_neg (by omega), st_II, if_neg (by omega)]
    have a4 : ha_gA M4 = ha_gA M3 := by rw [← hM4]; rfl
    have r4 : ha_gR M4 = ha_gR M3 := by rw [← hM4]; rfl
    have v53 : ha_gI M4 0 53 = nI T := by rw [← hM4]; rfl
    have v54 : ha_gI M4 0 54 = nI n := by rw [← hM4, st_II, if_pos ⟨rfl, rfl⟩, st_II, if_neg (by omega)]; exact hC3.2.2.2.1
    have hI4 : IM M4 := IM_c r4 hC3.1
    obtain ⟨m1, m2, m3, m4, m5, m6⟩ := c2
    refine ok_bind (P := fun Y => ∃ f, Y = ha_sA M4 51 f ∧ ∀ j, j < 64 → f j = ha_gA M3 35 j) ?_ ?_
    · refine ok_fors (fun i (f : Nat → Int32) => (nI i, ha_sA M4 51 f)) 0 64 (fun i f => ∀ j, j < i → f j = ha_gA M3 35 j) _ (ha_gA M4 51) (by rw [st_self]; rfl) (fun u h => by omega) (by omega) (by omega) ?_ ?_
      · rintro g i f hi hv ih
        show Ok (f_X12_play_L103 0 (nI T) g (nI i) (ha_sA M4 51 f)) _
        unfold f_X12_play_L103
        refine ok_ie (show ¬ nI 64 ≤ nI i from nI_ge hi (by omega)) (ok_b (mA50 (M := ha_sA M4 51 f) hI4) (ok_b (mA34 (M := ha_sA M4 51 f) hI4) (ok_gd (by rw [mL35]; exact n_in (by omega) (by omega)) (ok_gd (by rw [mL51]; exact n_in (by omega) (by omega)) ?_))))
        simp only [pw_nm, nI_1, st_sAA, nI_clamp (show i < 2 ^ 31 by omega)]
        refine ih _ (fun j hj => ?_)
        rw [st_AA, if_pos rfl, st_AA, if_neg (by omega), a4]
        by_cases e : j = i
        · rw [e, pk_us]
        · rw [pk_un e]; exact hv j (by omega)
      · rintro g f hv
        show Ok (f_X12_play_L103 0 (nI T) g (nI 64) (ha_sA M4 51 f)) _
        unfold f_X12_play_L103
        exact ok_it (show nI 64 ≤ nI 64 from nI_le (Nat.le_refl _) (by omega)) (ok_some ⟨f, rfl, hv⟩)
    · rintro Y ⟨f51, rfl, h51⟩
      unfold f_X12_play_J127
      refine ok_bind (P := fun Y => ∃ f, Y = ha_sA (ha_sA M4 51 f51) 52 f ∧ ∀ j, j < n → f j = ha_gA M3 36 j) ?_ ?_
      · refine ok_fors (fun i (f : Nat → Int32) => (nI i, ha_sA (ha_sA M4 51 f51) 52 f)) 0 n (fun i f => ∀ j, j < i → f j = ha_gA M3 36 j) _ (ha_gA (ha_sA M4 51 f51) 52) (by rw [st_self]; rfl) (fun u h => by omega) (by omega) (by omega) ?_ ?_
        · rintro g i f hi hv ih
          show Ok (f_X12_play_L129 0 (nI T) g (nI i) (ha_sA (ha_sA M4 51 f51) 52 f)) _
          unfold f_X12_play_L129
          rw [show ha_gI (ha_sA (ha_sA M4 51 f51) 52 f) 0 4 = nI n from (i4 4 (by omega) (by omega)).trans hC3.2.2.2.1]
          refine ok_ie (nI_ge hi (by omega)) (ok_b (mA51 (M := ha_sA (ha_sA M4 51 f51) 52 f) hI4) (ok_b (mA35 (M := ha_sA (ha_sA M4 51 f51) 52 f) hI4) (ok_gd (by rw [mL36]; exact n_in (by omega) (by omega)) (ok_gd (by rw [mL52]; exact n_in (by omega) (by omega)) ?_))))
          simp only [pw_nm, nI_1, st_sAA, nI_clamp (show i < 2 ^ 31 by omega)]
          refine ih _ (fun j hj => ?_)
          rw [st_AA, if_pos rfl, st_AA, if_neg (by omega), st_AA, if_neg (by omega), a4]
          by_cases e : j = i
          · rw [e, pk_us]
          · rw [pk_un e]; exact hv j (by omega)
        · rintro g f hv
          show Ok (f_X12_play_L129 0 (nI T) g (nI n) (ha_sA (ha_sA M4 51 f51) 52 f)) _
          unfold f_X12_play_L129
          rw [show ha_gI (ha_sA (ha_sA M4 51 f51) 52 f) 0 4 = nI n from (i4 4 (by omega) (by omega)).trans hC3.2.2.2.1]
          exact ok_it (nI_le (Nat.le_refl _) (by omega)) (ok_some ⟨f, rfl, hv⟩)
      · rintro Y ⟨f52, rfl, h52⟩
        unfold f_X12_play_J155
        generalize hM6 : ha_sA (ha_sA M4 51 f51) 52 f52 = M6
        have i6 : ∀ k, ha_gI M6 0 k = ha_gI M4 0 k := fun k => by rw [← hM6]; rfl
        have a6 : ∀ a, a ≠ 51 → a ≠ 52 → ha_gA M6 a = ha_gA M3 a := fun a h1 h2 => by rw [← hM6, st_AA, if_neg h2, st_AA, if_neg h1, a4]
        have r6 : ha_gR M6 = ha_gR M3 := by rw [← hM6]; exact r4
        have hI6 : IM M6 := IM_c r6 hC3.1
        have w37 : ha_gI M6 0 37 = nI L.2.2.2.2.1 := by rw [i6, i4 37 (by omega) (by omega)]; exact m5
        refine ok_bind (P := fun Y => ∃ f, Y = ha_sA M6 53 f ∧ ∀ j, j < L.2.2.2.2.1 → f j = ha_gA M3 37 j) ?_ ?_
        · refine ok_fors (fun i (f : Nat → Int32) => (nI i, ha_sA M6 53 f)) 0 L.2.2.2.2.1 (fun i f => ∀ j, j < i → f j = ha_gA M3 37 j) _ (ha_gA M6 53) (by rw [st_self]; rfl) (fun u h => by omega) (by omega) (by omega) ?_ ?_
          · rintro g i f hi hv ih
            show Ok (f_X12_play_L157 0 (nI T) g (nI i) (ha_sA M6 53 f)) _
            unfold f_X12_play_L157
            rw [show ha_gI (ha_sA M6 53 f) 0 37 = nI L.2.2.2.2.1 from w37]
            refine ok_ie (nI_ge hi (by omega)) (ok_b (mA52 (M := ha_sA M6 53 f) hI6) (ok_b (mA36 (M := ha_sA M6 53 f) hI6) (ok_gd (by rw [mL37]; exact n_in (by omega) (by omega)) (ok_gd (by rw [mL53]; exact n_in (by omega) (by omega)) ?_))))
            simp only [pw_nm, nI_1, st_sAA, nI_clamp (show i < 2 ^ 31 by omega)]
            refine ih _ (fun j hj => ?_)
            rw [st_AA, if_pos rfl, st_AA, if_neg (by omega), a6 37 (by omega) (by omega)]
            by_cases e : j = i
            · rw [e, pk_us]
            · rw [pk_un e]; exact hv j (by omega)
          · rintro g f hv
            show Ok (f_X12_play_L157 0 (nI T) g (nI L.2.2.2.2.1) (ha_sA M6 53 f)) _
            unfold f_X12_play_L157
            rw [show ha_gI (ha_sA M6 53 f) 0 37 = nI L.2.2.2.2.1 from w37]
            exact ok_it (nI_le (Nat.le_refl _) (by omega)) (ok_some ⟨f, rfl, hv⟩)
        · rintro Y ⟨f53, rfl, h53⟩
          unfold f_X12_play_J183
          rw [pw_nm, show ha_gI (ha_sA M6 53 f53) 0 37 = nI L.2.2.2.2.1 from w37]
          generalize hM7 : ha_sI (ha_sA M6 53 f53) 0 55 (nI L.2.2.2.2.1) = M7
          have i7 : ∀ k, k ≠ 53 → k ≠ 54 → k ≠ 55 → ha_gI M7 0 k = ha_gI M3 0 k := fun k h1 h2 h3 => by rw [← hM7, st_II, if_neg (by omega), st_IA, i6, i4 k h1 h2]
          have a7 : ∀ a, a ≠ 51 → a ≠ 52 → a ≠ 53 → ha_gA M7 a = ha_gA M3 a := fun a h1 h2 h3 => by rw [← hM7, st_AI, st_AA, if_neg h3, a6 a h1 h2]
          have q7 : FQ M M7 := FQ_t c1 ⟨by rw [← hM7]; exact r6, fun k a b c d e f i => i7 k (by omega) (by omega) (by omega), fun a h1 h2 h3 => a7 a (by omega) (by omega) (by omega)⟩
          have R7 : RM M7 n L := ⟨fun t ht => by rw [a7 33 (by omega) (by omega) (by omega)]; exact m1 t ht, fun t ht => by rw [a7 36 (by omega) (by omega) (by omega)]; exact m2 t ht, fun j hj => by rw [a7 35 (by omega) (by omega) (by omega)]; exact m3 j hj, by rw [i7 38 (by omega) (by omega) (by omega)]; exact m4, by rw [i7 37 (by omega) (by omega) (by omega)]; exact m5, fun k hk => by rw [a7 37 (by omega) (by omega) (by omega)]; exact m6 k hk⟩
          have u53 : ha_gI M7 0 53 = nI T := by rw [← hM7, st_II, if_neg (by omega), st_IA, i6]; exact v53
          have u54 : ha_gI M7 0 54 = nI n := by rw [← hM7, st_II, if_neg (by omega), st_IA, i6]; exact v54
          have u55 : ha_gI M7 0 55 = nI L.2.2.2.2.1 := by rw [← hM7]; rfl
          have x51 : ∀ j, j < 4 * n → ha_gA M7 51 j = L.2.2.1 j := fun j hj => by rw [← hM7, st_AI, st_AA, if_neg (by omega), ← hM6, st_AA, if_neg (by omega), st_AA, if_pos rfl, h51 j (by omega)]; exact m3 j hj
          have x52 : ∀ t, t < n → ha_gA M7 52 t = L.2.1 t := fun t ht => by rw [← hM7, st_AI, st_AA, if_neg (by omega), ← hM6, st_AA, if_pos rfl, h52 t ht]; exact m2 t ht
          have x53 : ∀ k, k < L.2.2.2.2.1 → ha_gA M7 53 k = L.2.2.2.2.2.2 k := fun k hk => by rw [← hM7, st_AI, st_AA, if_pos rfl, h53 k hk]; exact m6 k hk
          have x50 : ha_gA M7 50 = ha_gA M3 50 := a7 50 (by omega) (by omega) (by omega)
          have u39 : ha_gI M7 0 39 = nI (stl M0 m n fg T) := by rw [i7 39 (by omega) (by omega) (by omega)]; exact c3
          refine ok_bind (judg_m (CM_q q7 hC0) R7 hI) ?_
          rintro ⟨jz, JM⟩ ⟨j1, x, j2, j3⟩
          dsimp only at j1 j2 j3 ⊢
          subst j2
          rw [pw_nm]
          have fin : ∀ y : Int32, y = L.2.2.2.2.2.1 → Ok (f_X12_play_J216 0 (nI T) 0 y (ha_sI (ha_sI M7 0 48 x) 0 56 jz)) (fun z => z.1 = nI L.2.2.2.2.1 ∧ FQ M z.2 ∧ (∀ q, q ≤ T → ∀ t, t < n → ha_gA z.2 50 (16 * q + t) = (rn M0 m n fg q).1 t) ∧ (∀ j, j < 4 * n → ha_gA z.2 51 j = L.2.2.1 j) ∧ (∀ t, t < n → ha_gA z.2 52 t = L.2.1 t) ∧ (∀ k, k < L.2.2.2.2.1 → ha_gA z.2 53 k = L.2.2.2.2.2.2 k) ∧ ha_gI z.2 0 53 = nI T ∧ ha_gI z.2 0 54 = nI n ∧ ha_gI z.2 0 55 = nI L.2.2.2.2.1 ∧ ha_gI z.2 0 56 = out m L ∧ ha_gI z.2 0 57 = L.2.2.2.2.2.1 ∧ ha_gI z.2 0 58 = nI (stl M0 m n fg T) ∧ ha_gI z.2 0 59 = nI L.2.2.2.1) := by
            intro y hy
            unfold f_X12_play_J216
            simp only [pw_nm]
            refine ok_some ⟨R7.2.2.2.2.1, FQ_t q7 ⟨rfl, fun k a b c d e f i => ?_, fun _ _ _ _ => rfl⟩, fun q hq t ht => ?_, x51, x52, x53, u53, u54, u55, j1, hy, u39, R7.2.2.2.1⟩
            · rw [st_II, if_neg (by omega), st_II, if_neg (by omega), st_II, if_neg (by omega), st_II, if_neg (by omega), st_II, if_neg (by omega)]
            · show ha_gA M7 50 _ = _
              rw [x50]; exact c4 q hq t ht
          rw [show ha_gI (ha_sI (ha_sI M7 0 48 x) 0 56 jz) 0 56 = jz from rfl]
          by_cases d : L.2.2.2.2.2.1 = -1
          · refine ok_it ?_ ?_
            · rw [j1]
              unfold out
              rw [if_pos d]
              by_cases e : m ≤ L.2.2.2.2.1
              · rw [if_pos e]; decide
              · rw [if_neg e]; decide
            · exact fin _ d.symm
          · refine ok_ie ?_ ?_
            · rw [j1]
              unfold out
              rw [if_neg d]; exact fun h => h rfl
            · exact fin _ (j3 d)
