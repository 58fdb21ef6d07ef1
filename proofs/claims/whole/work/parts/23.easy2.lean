theorem z_0 : (0 : Int32).toInt = 0 := rfl
theorem n_10 : (1 : Int32) = 0 ↔ False := by decide
theorem n_00 : (0 : Int32) = 0 ↔ True := by decide
theorem z_1 : (1 : Int32).toInt = 1 := rfl
theorem z_m1 : (-1 : Int32).toInt = -1 := rfl
theorem z_4 : (4 : Int32).toInt = 4 := rfl
theorem z_3 : (3 : Int32).toInt = 3 := rfl
theorem z_16 : (16 : Int32).toInt = 16 := rfl
theorem z_999 : (999 : Int32).toInt = 999 := rfl
theorem z_440 : (440 : Int32).toInt = 440 := rfl
theorem z_20 : (20 : Int32).toInt = 20 := rfl
theorem z_60 : (60 : Int32).toInt = 60 := rfl
theorem z_500 : (500 : Int32).toInt = 500 := rfl
theorem z_200 : (200 : Int32).toInt = 200 := rfl
theorem e_written {X M : ha_St} (hI : Inv X M) (v : Int32) : Agr (f_X11_written 0 v X) (f_X12_written 0 v M) := by
  have hT := inv_thr 0 hI
  obtain ⟨hIR, hIB, hIM, hI1, hI2, hI3, hI4, hI5, hI6, hI7, hI8, hI9, hI10, hI11, hI13, hI14⟩ := hI
  obtain ⟨e1, hI7⟩ := hI7
  unfold f_X11_written f_X12_written f_X11_written_J29 f_X11_written_J39 f_X12_written_J34 f_X12_written_J35
  simp only [pw_nm, pw_bs, st_fI, st_AI, xr hIR 0 3 7 4, xr hIR 4 0 5 16, xr hIR 16 3 100 359, mr hIM 52 100, show ha_gI (ha_sI M 0 0 0) 0 53 = ha_gI M 0 53 from rfl, show ha_gI (ha_sI M 0 0 0) 0 55 = ha_gI M 0 55 from rfl]
  rcases hI7 with ⟨e2, e3⟩ | ⟨e2, e3, -, -, -, -, -, -, e4, e5, e6, e7, -⟩
  · rw [pw_it e2, e3]
    refine agr_l (fun _ => agr_mk rfl hT) (fun c1 => agr_l (fun _ => agr_mk rfl hT) (fun c2 => ?_))
    rw [i_lt] at c1; rw [i_le] at c2
    exact absurd (by rw [z_0] at *; omega) c2
  · have hne : ¬ ha_gI M 0 53 = -1 := by rw [i_eq, z_m1]; omega
    rw [pw_ie hne, e4]
    refine agr_if (fun _ => agr_mk rfl hT) (fun c1 => agr_if (fun _ => agr_mk rfl hT) (fun c2 => ?_))
    rw [i_lt, z_0] at c1; rw [i_le] at c2
    have hx : xo_ln 359 = 100 := by decide +kernel
    have hm : mo_ln (52 + 1) = 100 := by decide +kernel
    have g1 : ¬ (v < 0 ∨ 100 ≤ v.toNatClampNeg) := by rw [i_lt, z_0, i_cl]; omega
    have g2 : v < nI 100 := by rw [i_lt]; show v.toInt < 100; omega
    rw [hx, hm, pw_it g2, pw_gd g1, pw_gd g1]
    exact agr_mk (e7 _ (by rw [i_cl]; omega)) hT
theorem e_played {X M : ha_St} (hI : Inv X M) (v : Int32) : Agr (f_X11_played 0 v X) (f_X12_played 0 v M) := by
  have hT := inv_thr 0 hI
  obtain ⟨hIR, hIB, hIM, hI1, hI2, hI3, hI4, hI5, hI6, hI7, hI8, hI9, hI10, hI11, hI13, hI14⟩ := hI
  obtain ⟨e1, hI7⟩ := hI7
  unfold f_X11_played f_X12_played
  simp only [pw_nm, pw_bs, xr hIR 0 3 7 4, xr hIR 4 0 5 16, show ha_gI (ha_sI M 0 0 0) 0 53 = ha_gI M 0 53 from rfl, e1]
  rcases hI7 with ⟨e2, e3⟩ | ⟨e2, e3, -, -, -, -, -, -, -, -, -, -, e4, e5, e6, e7⟩
  · rw [pw_ie (by simp [e2]), pw_ie (by simp [e2])]
    exact agr_mk rfl hT
  · refine agr_if (fun _ => ?_) (fun _ => agr_mk rfl hT)
    refine agr_if (fun _ => agr_mk (by simpa [st_II] using e4) hT) (fun _ => ?_)
    refine agr_if (fun _ => agr_mk (by simpa [st_II] using e5) hT) (fun _ => ?_)
    refine agr_if (fun _ => agr_mk (by simpa [st_II] using e6) hT) (fun _ => ?_)
    exact agr_if (fun _ => agr_mk (by simpa [st_II] using e7) hT) (fun _ => agr_mk rfl hT)
theorem e_fogAt {X M : ha_St} (hI : Inv X M) (v w : Int32) : Agr (f_X11_fogAt 0 v w X) (f_X12_fogAt 0 v w M) := by
  have hT := inv_thr 0 hI
  obtain ⟨hIR, hIB, hIM, hI1, hI2, hI3, hI4, hI5, hI6, hI7, hI8, hI9, hI10, hI11, hI13, hI14⟩ := hI
  obtain ⟨e1, e2, e3, e4⟩ := hI8
  unfold f_X11_fogAt f_X12_fogAt f_X11_fogAt_J15 f_X12_fogAt_J17 f_X12_fogAt_J47
  simp only [pw_nm, pw_bs, st_fI, st_AI, xr hIR 0 4 0 5, xr hIR 5 8 100 188, xr hIR 5 9 100 189, mr hIM 60 100, mr hIM 61 100, show ha_gI (ha_sI M 0 0 0) 0 62 = ha_gI M 0 62 from rfl]
  refine agr_if (fun _ => agr_mk rfl hT) (fun c1 => ?_)
  rw [i_lt, z_0] at c1
  have hc : v < ha_gI X 5 10 ↔ v < ha_gI M 0 62 := by
    rcases e1 with e1 | ⟨e1, e5⟩
    · rw [e1]
    · rw [e1, e5, i_lt, i_lt, z_0, z_m1]; omega
  by_cases c2 : v < ha_gI M 0 62
  · rw [pw_it (hc.mpr c2), pw_it c2]
    rw [i_lt] at c2
    have hx : xo_ln 188 = 2 ∧ xo_ln 189 = 2 := by decide +kernel
    have hm : mo_ln (60 + 1) = 2 ∧ mo_ln (61 + 1) = 2 := by decide +kernel
    have g1 : ¬ (v < 0 ∨ 2 ≤ v.toNatClampNeg) := by rw [i_lt, z_0, i_cl]; omega
    have hj := e4 v.toNatClampNeg (by rw [i_cl]; omega)
    rw [hx.1, hx.2, hm.1, hm.2, pw_gd g1, pw_gd g1, pw_gd g1, pw_gd g1]
    by_cases c3 : w = 0
    · rw [pw_it c3, pw_ie (by simp [c3])]
      exact agr_mk hj.1 hT
    · rw [pw_ie c3, pw_it c3]
      by_cases c4 : w = 1
      · rw [pw_it c4, pw_ie (by simp [c4])]
        exact agr_mk hj.2 hT
      · rw [pw_ie c4, pw_it c4]
        exact agr_mk rfl hT
  · rw [pw_ie (fun h => c2 (hc.mp h)), pw_ie c2]
    exact agr_mk rfl hT
theorem hasTower_eq {X : ha_St} (hIR : IR X) (v : Int32) : f_X7_hasTower 4 v X = some (if ha_gI X 4 2 = -1 ∨ v < 0 ∨ ha_gI X 16 4 ≤ v then 0 else 1, X) := by
  unfold f_X7_hasTower f_X7_hasTower_J27 f_X7_hasTower_J28
  simp only [pw_bs, xr hIR 4 0 5 16]
  by_cases h1 : ha_gI X 4 2 = -1
  · simp [h1, ha_gd]
  · by_cases h2 : v < 0
    · simp [h1, h2, ha_gd]
    · by_cases h3 : ha_gI X 16 4 ≤ v
      · simp [h1, h2, h3, ha_gd]
      · simp [h1, h2, h3, ha_gd]
theorem isPlayed_eq (M : ha_St) (v : Int32) : f_X12_isPlayed 0 v M = some (if ha_gI M 0 53 = -1 ∨ v < 0 ∨ ha_gI M 0 54 ≤ v then 0 else 1, M) := by
  unfold f_X12_isPlayed f_X12_isPlayed_J24 f_X12_isPlayed_J25
  by_cases h1 : ha_gI M 0 53 = -1
  · simp [h1, ha_gd]
  · by_cases h2 : v < 0
    · simp [h1, h2, ha_gd]
    · by_cases h3 : ha_gI M 0 54 ≤ v
      · simp [h1, h2, h3, ha_gd]
      · simp [h1, h2, h3, ha_gd]
theorem e_shown {X M : ha_St} (hI : Inv X M) (v w : Int32) : Agr (f_X11_shown 0 v w X) (f_X12_shown 0 v w M) := by
  have hT := inv_thr 0 hI
  obtain ⟨hIR, hIB, hIM, hI1, hI2, hI3, hI4, hI5, hI6, hI7, hI8, hI9, hI10, hI11, hI13, hI14⟩ := hI
  obtain ⟨e1, hI7⟩ := hI7
  unfold f_X11_shown f_X12_shown f_X11_shown_J26 f_X12_shown_J39 f_X12_shown_J40
  simp only [pw_nm, pw_bs, st_fI, st_AI, xr hIR 0 3 7 4, xr hIR 4 1 100 165, mr hIM 49 101, hasTower_eq hIR, isPlayed_eq, isIn_eq, show ha_gI (ha_sI M 0 0 0) 0 53 = ha_gI M 0 53 from rfl, show ha_gI (ha_sI M 0 0 0) 0 54 = ha_gI M 0 54 from rfl, e1]
  rcases hI7 with ⟨e2, e3⟩ | ⟨e2, e3, e4, e5, e6, e7, -⟩
  · simp only [e2, true_or, if_true]
    exact agr_mk rfl hT
  · have hne : ¬ ha_gI M 0 53 = -1 := by rw [i_eq, z_m1]; omega
    rw [e4]
    by_cases c : ha_gI M 0 53 = -1 ∨ v < 0 ∨ ha_gI M 0 54 ≤ v
    · simp only [c, if_true]
      exact agr_mk rfl hT
    · have hv : 0 ≤ v.toInt ∧ v.toInt < (ha_gI M 0 54).toInt := by
        simp only [not_or, i_lt, i_le, z_0] at c
        omega
      simp only [c, if_false]
      simp only [n_10, if_false, if_true, not_false_eq_true]
      by_cases c1 : w < 0
      · simp only [c1, n_10, n_00, true_or, if_true, if_false, not_true_eq_false, not_false_eq_true]
        exact agr_mk rfl hT
      · by_cases c2 : w ≤ ha_gI M 0 53
        · have c3 : ¬ ha_gI M 0 53 < w := by rw [i_lt]; rw [i_le] at c2; omega
          simp only [c1, c2, c3, n_10, n_00, or_self, if_false, if_true, not_true_eq_false, not_false_eq_true]
          rw [i_lt, z_0] at c1; rw [i_le] at c2
          have m1 : (w * 16).toInt = 16 * w.toInt := by rw [i_mul (by rw [z_16]; omega) (by rw [z_16]; omega), z_16]; omega
          have m2 : (16 * w).toInt = 16 * w.toInt := by rw [i_mul (by rw [z_16]; omega) (by rw [z_16]; omega), z_16]
          have a1 : (w * 16 + v).toInt = 16 * w.toInt + v.toInt := by rw [i_add (by rw [m1]; omega) (by rw [m1]; omega), m1]
          have a2 : (16 * w + v).toInt = 16 * w.toInt + v.toInt := by rw [i_add (by rw [m2]; omega) (by rw [m2]; omega), m2]
          have hx : xo_ln 165 = 8016 := by decide +kernel
          have hm : mo_ln (49 + 1) = 8016 := by decide +kernel
          have g1 : ¬ (w * 16 + v < 0 ∨ 8016 ≤ (w * 16 + v).toNatClampNeg) := by rw [i_lt, z_0, i_cl, a1]; omega
          have g2 : ¬ (16 * w + v < 0 ∨ 8016 ≤ (16 * w + v).toNatClampNeg) := by rw [i_lt, z_0, i_cl, a2]; omega
          rw [hx, hm, pw_gd g1, pw_gd g2]
          have h1 : (w * 16 + v).toNatClampNeg = 16 * w.toInt.toNat + v.toInt.toNat := by rw [i_cl, a1]; omega
          have h2 : (16 * w + v).toNatClampNeg = 16 * w.toInt.toNat + v.toInt.toNat := by rw [i_cl, a2]; omega
          rw [h1, h2]
          exact agr_mk (e7 _ _ (by omega) (by omega)) hT
        · have c3 : ha_gI M 0 53 < w := by rw [i_lt]; rw [i_le] at c2; omega
          simp only [c1, c2, c3, n_10, n_00, or_true, if_false, if_true, not_true_eq_false, not_false_eq_true]
          exact agr_mk rfl hT
theorem e_cell {X M : ha_St} (hI : Inv X M) (v w : Int32) : Agr (f_X11_cell 0 v w X) (f_X12_cell 0 v w M) := by
  have hT := inv_thr 0 hI
  obtain ⟨hIR, hIB, hIM, hI1, hI2, hI3, hI4, hI5, hI6, hI7, hI8, hI9, hI10, hI11, hI13, hI14⟩ := hI
  obtain ⟨e1, hI7⟩ := hI7
  unfold f_X11_cell f_X12_cell f_X11_cell_J20 f_X11_cell_J54 f_X12_cell_J22 f_X12_cell_J48
  simp only [pw_nm, pw_bs, st_fI, st_AI, xr hIR 0 3 7 4, xr hIR 4 0 5 16, xr hIR 16 2 100 358, xr hIR 16 1 100 357, mr hIM 50 100, mr hIM 51 100, hasTower_eq hIR, isPlayed_eq, isIn_eq, show ha_gI (ha_sI M 0 0 0) 0 53 = ha_gI M 0 53 from rfl, show ha_gI (ha_sI M 0 0 0) 0 54 = ha_gI M 0 54 from rfl, e1]
  rcases hI7 with ⟨e2, e3⟩ | ⟨e2, e3, e4, e5, e6, -, e7, e8, -⟩
  · simp only [e2, true_or, if_true]
    exact agr_mk rfl hT
  · rw [e4]
    by_cases c : ha_gI M 0 53 = -1 ∨ v < 0 ∨ ha_gI M 0 54 ≤ v
    · simp only [c, if_true]
      exact agr_mk rfl hT
    · have hv : 0 ≤ v.toInt ∧ v.toInt < (ha_gI M 0 54).toInt := by
        simp only [not_or, i_lt, i_le, z_0] at c
        omega
      simp only [c, if_false]
      simp only [n_10, if_false, if_true, not_false_eq_true]
      by_cases c1 : w < 0
      · simp only [c1, n_10, n_00, true_or, if_true, if_false, not_true_eq_false, not_false_eq_true]
        exact agr_mk rfl hT
      · by_cases c2 : w ≤ 4
        · have c3 : ¬ (4 : Int32) < w := by rw [i_lt]; rw [i_le] at c2; omega
          simp only [c1, c2, c3, n_10, n_00, or_self, if_false, if_true, not_true_eq_false, not_false_eq_true]
          rw [i_lt, z_0] at c1; rw [i_le, z_4] at c2
          refine agr_if (fun c4 => ?_) (fun c4 => ?_)
          · rw [i_eq, z_4] at c4
            have m1 : (v * 4).toInt = 4 * v.toInt := by rw [i_mul (by rw [z_4]; omega) (by rw [z_4]; omega), z_4]; omega
            have m2 : (4 * v).toInt = 4 * v.toInt := by rw [i_mul (by rw [z_4]; omega) (by rw [z_4]; omega), z_4]
            have a1 : (v * 4 + w).toInt = 4 * v.toInt + w.toInt := by rw [i_add (by rw [m1]; omega) (by rw [m1]; omega), m1]
            have a2 : (4 * v + w).toInt = 4 * v.toInt + w.toInt := by rw [i_add (by rw [m2]; omega) (by rw [m2]; omega), m2]
            have hx : xo_ln 358 = 64 := by decide +kernel
            have hm : mo_ln (50 + 1) = 64 := by decide +kernel
            have g1 : ¬ (v * 4 + w < 0 ∨ 64 ≤ (v * 4 + w).toNatClampNeg) := by rw [i_lt, z_0, i_cl, a1]; omega
            have g2 : ¬ (4 * v + w < 0 ∨ 64 ≤ (4 * v + w).toNatClampNeg) := by rw [i_lt, z_0, i_cl, a2]; omega
            rw [hx, hm, pw_gd g1, pw_gd g2]
            have h1 : (v * 4 + w).toNatClampNeg = 4 * v.toInt.toNat + w.toInt.toNat := by rw [i_cl, a1]; omega
            have h2 : (4 * v + w).toNatClampNeg = 4 * v.toInt.toNat + w.toInt.toNat := by rw [i_cl, a2]; omega
            rw [h1, h2]
            exact agr_mk (e7 _ _ (by omega) (by omega)) hT
          · have hx : xo_ln 357 = 16 := by decide +kernel
            have hm : mo_ln (51 + 1) = 16 := by decide +kernel
            have g1 : ¬ (v < 0 ∨ 16 ≤ v.toNatClampNeg) := by rw [i_lt, z_0, i_cl]; omega
            rw [hx, hm, pw_gd g1, pw_gd g1]
            exact agr_mk (e8 _ (by rw [i_cl]; omega)) hT
        · have c3 : (4 : Int32) < w := by rw [i_lt]; rw [i_le] at c2; omega
          simp only [c1, c2, c3, n_10, n_00, or_true, if_false, if_true, not_true_eq_false, not_false_eq_true]
          exact agr_mk rfl hT
