/-! DELAY, LOOK -/
theorem inv_frD {X T M : ha_St} (hI : Inv X M) (hF : FrD X T) (h14 : I14 T M) (g : Nat → Int32) : Inv T (ha_sA M 80 g) := by
  obtain ⟨hIR, hIB, hIM, hI1, hI2, hI3, hI4, hI5, hI6, hI7, hI8, hI9, hI10, hI11, hI13, hI14⟩ := hI
  exact ⟨frD_IR hF hIR, frD_IB hF hIB, IM_c (M := M) rfl hIM, I1_c (X := X) (M := M) (hF.2.2.1 1 1 (by omega)) (hF.2.2.2 116 (by omega)) rfl rfl hI1, I2_c (X := X) (M := M) (hF.2.2.1 0 13 (by omega)) (hF.2.2.1 2 5 (by omega)) rfl rfl hI2, I3_c (X := X) (M := M) (hF.2.2.1 2 6 (by omega)) (hF.2.2.2 133 (by omega)) rfl rfl hI3, I4_c (X := X) (M := M) (hF.2.2.1 2 7 (by omega)) (hF.2.2.2 134 (by omega)) rfl rfl rfl rfl hI4, I5_c (X := X) (M := M) (fun p j h1 h2 => hF.2.2.1 p j (by omega)) (fun a h1 h2 => hF.2.2.2 a (by omega)) (by rw [hF.2.1]) hF.1 (fun _ _ => by rw [hF.2.2.2 136 (by omega)]) rfl rfl rfl rfl rfl rfl rfl rfl rfl hI5, I6_c (X := X) (M := M) (hF.2.2.1 0 12 (by omega)) (hF.2.2.1 0 15 (by omega)) (hF.2.2.1 0 16 (by omega)) rfl rfl rfl hI6, I7_c (X := X) (M := M) (hF.2.2.1 4 2 (by omega)) (hF.2.2.1 16 5 (by omega)) (hF.2.2.1 16 4 (by omega)) (hF.2.2.1 4 4 (by omega)) (hF.2.2.1 16 7 (by omega)) (hF.2.2.1 4 3 (by omega)) (hF.2.2.1 16 6 (by omega)) (hF.2.2.2 165 (by omega)) (hF.2.2.2 358 (by omega)) (hF.2.2.2 357 (by omega)) (hF.2.2.2 359 (by omega)) rfl rfl rfl rfl rfl rfl rfl rfl rfl rfl rfl hI7, I8_c (X := X) (M := M) (hF.2.2.1 5 10 (by omega)) (hF.2.2.2 188 (by omega)) (hF.2.2.2 189 (by omega)) rfl rfl rfl hI8, I9_c (X := X) (M := M) (hF.2.2.1 6 3 (by omega)) (hF.2.2.2 197 (by omega)) (hF.2.2.2 196 (by omega)) (hF.2.2.2 198 (by omega)) rfl rfl rfl hI9, I10_c (X := X) (M := M) (hF.2.2.1 0 14 (by omega)) (hF.2.2.2 108 (by omega)) rfl rfl hI10, I11_c (X := X) (M := M) (hF.2.2.1 8 6 (by omega)) (hF.2.2.1 8 4 (by omega)) (hF.2.2.1 8 7 (by omega)) (hF.2.2.2 228 (by omega)) rfl rfl rfl hI11, I13_c (X := X) (M := M) (hF.2.2.1 9 8 (by omega)) (hF.2.2.2 244 (by omega)) (hF.2.2.2 245 (by omega)) (hF.2.2.2 246 (by omega)) (hF.2.2.2 247 (by omega)) rfl rfl rfl rfl rfl rfl rfl hI13, I14_c (X := T) (M := M) rfl rfl rfl (fun _ => rfl) rfl rfl rfl rfl h14⟩
theorem inv_frD0 {X T M : ha_St} (hI : Inv X M) (hF : FrD X T) (h14 : I14 T M) : Inv T M := by
  have := inv_frD hI hF h14 (ha_gA M 80)
  rwa [st_self] at this
/-- both sides weighed alike -/
theorem both_d {X M : ha_St} (hI : Inv X M) {n : Nat} (t : Int32) (hn : ha_gI M 0 4 = nI n) (hn3 : 3 ≤ n) (hn2 : n ≤ 16) : ∃ z T w g, f_X2_fit 9 (nI n) t X = some (z, T) ∧ f_X12_reckon 0 t M = some (w, ha_sA M 80 g) ∧ FrD X T ∧ Inv T (ha_sA M 80 g) ∧ ((z = 0 ∧ w = 0) ∨ (z = 1 ∧ w = 1 ∧ (∀ i j, i ≤ n → j ≤ n → ha_gA T (2000 + i) j = g (17 * i + j)) ∧ ∀ i, i < n → 0 ≤ (g (17 * i + (i + 1)) + g (17 * (i + 1) + i)).toInt)) := by
  have hI0 := hI
  obtain ⟨hIR, hIB, hIM, hI1, hI2, hI3, hI4, hI5, hI6, hI7, hI8, hI9, hI10, hI11, hI13, hI14⟩ := hI
  obtain ⟨⟨z, T⟩, ez, c, hc, hN, hF, h14, hz⟩ := fit_x hIR hIB hI13 hI14 t hn hn3 hn2
  obtain ⟨N, N6, hN8⟩ := n_of (N := 60) hI13.2.1 hI13.2.2.1
  rw [hN8, n_tn (by omega)] at hc
  obtain ⟨⟨w, T2⟩, ew, g, hg, hw⟩ := reckon_m hIM t hN hn hn2 hN8 N6 hc (fun k hk => by
    have := hI13.2.2.2 k (by rw [hN8, nI_toInt (by omega)]; omega)
    exact ⟨this.2.2.2.2.1, this.2.2.2.2.2.1⟩)
  have hg : T2 = ha_sA M 80 g := hg
  subst hg
  refine ⟨z, T, w, g, ez, ew, hF, inv_frD hI0 hF h14 g, ?_⟩
  have hz : (z = 0 ∧ ∀ d, ¬ Fits M n c d) ∨ (z = 1 ∧ Ti M n c (mx T)) := hz
  have hw : (w = 0 ∧ ∀ d, ¬ Fits M n c d) ∨ (w = 1 ∧ Ti M n c (bh g)) := hw
  rcases hz with ⟨z0, z1⟩ | ⟨z0, z1⟩
  · rcases hw with ⟨w0, w1⟩ | ⟨w0, w1⟩
    · exact Or.inl ⟨z0, w0⟩
    · obtain ⟨-, d, hd, -⟩ := w1 0 0 (by omega) (by omega)
      exact absurd hd (z1 d)
  · rcases hw with ⟨w0, w1⟩ | ⟨w0, w1⟩
    · obtain ⟨-, d, hd, -⟩ := z1 0 0 (by omega) (by omega)
      exact absurd hd (w1 d)
    · refine Or.inr ⟨z0, w0, fun i j hi hj => ?_, fun i hi => ?_⟩
      · rw [i_eq]
        exact ti_u z1 w1 hi hj
      · obtain ⟨a1, d, a2, a3⟩ := w1 i (i + 1) (by omega) (by omega)
        obtain ⟨b1, e, b2, b3⟩ := w1 (i + 1) i (by omega) (by omega)
        have c1 := a1 e b2
        have c2 := b1 d a2
        have l1 := (a2.1 i hi)
        have l2 := (b2.1 i hi)
        unfold bh at a3 b3 c1 c2
        rw [i_add (by omega) (by omega)]
        omega
theorem e_delay {X M : ha_St} (hI : Inv X M) (v t w : Int32) : Agr (f_X11_delay 0 v t w X) (f_X12_delay 0 v t w M) := by
  have hI := inv_thr 0 hI
  have hT := hI
  obtain ⟨hIR, hIB, hIM, hI1, hI2, hI3, hI4, hI5, hI6, hI7, hI8, hI9, hI10, hI11, hI13, hI14⟩ := hI
  unfold f_X11_delay f_X12_delay f_X11_delay_J24 f_X12_delay_J28
  generalize ha_sI M 0 0 0 = M at *
  obtain ⟨n, n6, hn⟩ := n_of (N := 16) (by have := hI2.2.2.2.2.1; omega) hI2.2.2.2.2.2
  have n3 : 3 ≤ n := by have := hI2.2.2.2.2.1; rw [hn, nI_toInt (by omega)] at this; omega
  have hnX : ha_gI X 2 5 = nI n := hI2.2.2.2.1.trans hn
  have no : Agr (some (-1, X)) (some (-1, M)) := agr_mk rfl hT
  simp only [pw_nm, pw_bs, xr hIR 0 1 1 2, xr hIR 0 9 2 9, hnX, hn, isIn_eq]
  rw [n_sub1 (by omega)]
  by_cases c1 : v < 0
  · rw [pw_it c1, if_pos (Or.inl c1)]
    simp only [n_00, if_true]
    exact no
  · rw [pw_ie c1]
    obtain ⟨k, hk, rfl⟩ := nI_of c1
    by_cases c2 : n ≤ k
    · rw [pw_it (nI_le c2 hk), if_pos (show nI k < 0 ∨ nI (n - 1) < nI k from Or.inr (nI_lt (by omega) hk))]
      simp only [n_00, if_true]
      exact no
    · rw [pw_ie (nI_ge (by omega) (by omega)), if_neg (show ¬ (nI k < 0 ∨ nI (n - 1) < nI k) from fun h => h.elim (nI_pos hk) (nI_nlt (by omega) (by omega)))]
      simp only [n_10, if_false]
      by_cases c3 : w < 0
      · rw [pw_it c3, if_pos (Or.inl c3)]
        simp only [n_00, not_true_eq_false, if_false]
        exact no
      · rw [pw_ie c3]
        by_cases c4 : w ≤ 1
        · rw [pw_it c4, if_neg (show ¬ (w < 0 ∨ 1 < w) from fun h => h.elim c3 (fun h => by rw [i_lt] at h; rw [i_le] at c4; omega))]
          simp only [n_10, not_false_eq_true, if_true]
          obtain ⟨z, T, q, g, ez, eq, hF, hJ, hzq⟩ := both_d hT t hn n3 n6
          rw [ez, eq]
          simp only [pw_bs]
          have hIRT := hJ.1
          have hIBT := hJ.2.1
          have hIMg := hJ.2.2.1
          rcases hzq with ⟨rfl, rfl⟩ | ⟨rfl, rfl, hE, -⟩
          · simp only [n_00, not_true_eq_false, if_false]
            exact agr_mk rfl hJ
          · simp only [n_10, not_false_eq_true, if_true]
            unfold f_X2_greatest f_X2_least f_X11_delay_J70 f_X12_delay_J75
            have hl : xo_ln 248 = 17 ∧ mo_ln (79 + 1) = 289 := by decide +kernel
            rw [show (17 : Int32) = nI 17 from rfl, nI_mul, nI_add, nI_1, nI_1, nI_mul, nI_add]
            simp only [pw_bs, xr hIRT 0 9 2 9, xr hIRT 9 4 104 248, hl, nI_clamp (show k < 2 ^ 31 by omega), nI_clamp (show k + 1 < 2 ^ 31 by omega), nI_clamp (show 17 * k + k + 1 < 2 ^ 31 by omega), nI_clamp (show 17 * (k + 1) + k < 2 ^ 31 by omega), rowR hIBT (show k < 17 by omega), rowR hIBT (show k + 1 < 17 by omega), rowL k (by omega), rowL (k + 1) (by omega), pw_gd (n_in2 (show k < 17 by omega) (by omega)), pw_gd (n_in2 (show k + 1 < 17 by omega) (by omega)), mr hIMg 79 100, pw_gd (n_in2 (show 17 * k + k + 1 < 289 by omega) (by omega)), pw_gd (n_in2 (show 17 * (k + 1) + k < 289 by omega) (by omega))]
            by_cases c5 : w = 0
            · rw [pw_ie (fun h => h c5), pw_ie (fun h => h c5)]
              refine agr_mk ?_ hJ
              show -ha_gA T (2000 + (k + 1)) k = -g (17 * (k + 1) + k)
              rw [hE (k + 1) k (by omega) (by omega)]
            · rw [pw_it c5, pw_it c5]
              refine agr_mk ?_ hJ
              show ha_gA T (2000 + k) (k + 1) = g (17 * k + (k + 1))
              rw [hE k (k + 1) (by omega) (by omega)]
        · rw [pw_ie c4, if_pos (show w < 0 ∨ 1 < w from Or.inr (by rw [i_le] at c4; rw [i_lt]; omega))]
          simp only [n_00, not_true_eq_false, if_false]
          exact no
/-- the first of the widest -/
def fwd (s : Nat → Int32) : Nat → Nat
  | 0 => 0
  | i + 1 => if s (fwd s i) < s i then i else fwd s i
theorem fwd_le (s : Nat → Int32) : ∀ i, fwd s i ≤ i
  | 0 => Nat.le_refl _
  | i + 1 => by
    have := fwd_le s i
    show (if _ then _ else _) ≤ _
    by_cases c : s (fwd s i) < s i
    · rw [if_pos c]; omega
    · rw [if_neg c]; omega
theorem spread_x {T : ha_St} (hIR : IR T) (hIB : IB T) {i : Nat} (hi : i < 16) : f_X2_spread 9 (nI i) T = some (ha_gA T (2000 + i) (i + 1) + ha_gA T (2000 + (i + 1)) i, T) := by
  have hl : xo_ln 248 = 17 := by decide +kernel
  unfold f_X2_spread f_X2_greatest f_X2_least
  simp only [nI_1, pw_bs, xr hIR 9 4 104 248, hl, nI_clamp (show i < 2 ^ 31 by omega), nI_clamp (show i + 1 < 2 ^ 31 by omega), rowR hIB (show i < 17 by omega), rowR hIB (show i + 1 < 17 by omega), rowL i (by omega), rowL (i + 1) (by omega), pw_gd (n_in2 (show i < 17 by omega) (by omega)), pw_gd (n_in2 (show i + 1 < 17 by omega) (by omega))]
  rw [Int32.sub_neg]
theorem e_look {X M : ha_St} (hI : Inv X M) (t : Int32) : Agr (f_X11_look 0 t X) (f_X12_look 0 t M) := by
  have hI := inv_thr 0 hI
  have hT := hI
  obtain ⟨hIR, hIB, hIM, hI1, hI2, hI3, hI4, hI5, hI6, hI7, hI8, hI9, hI10, hI11, hI13, hI14⟩ := hI
  unfold f_X11_look f_X12_look
  generalize ha_sI M 0 0 0 = M at *
  obtain ⟨n, n6, hn⟩ := n_of (N := 16) (by have := hI2.2.2.2.2.1; omega) hI2.2.2.2.2.2
  have n3 : 3 ≤ n := by have := hI2.2.2.2.2.1; rw [hn, nI_toInt (by omega)] at this; omega
  have hnX : ha_gI X 2 5 = nI n := hI2.2.2.2.1.trans hn
  simp only [pw_nm, pw_bs, xr hIR 0 1 1 2, xr hIR 0 9 2 9, hnX]
  obtain ⟨z, T, q, g, ez, eq, hF, hJ, hzq⟩ := both_d hT t hn n3 n6
  rw [ez, eq]
  simp only [pw_bs]
  have hIRT := hJ.1
  have hIBT := hJ.2.1
  have hIMg := hJ.2.2.1
  rcases hzq with ⟨rfl, rfl⟩ | ⟨rfl, rfl, hE, hS⟩
  · simp only [n_00, not_true_eq_false, if_false]
    exact agr_mk rfl hJ
  · simp only [n_10, not_false_eq_true, if_true]
    have hnT : ha_gI T 2 5 = nI n := by rw [hF.2.2.1 2 5 (by omega)]; exact hnX
    have hl : mo_ln (79 + 1) = 289 := by decide +kernel
    generalize hs : (fun i => g (17 * i + (i + 1)) + g (17 * (i + 1) + i)) = s
    have sx : ∀ i, i < n → f_X2_spread 9 (nI i) T = some (s i, T) := fun i hi => by
      rw [spread_x hIRT hIBT (by omega), hE _ _ (by omega) (by omega), hE _ _ (by omega) (by omega), ← hs]
    have s0 : ∀ i, i < n → 0 ≤ (s i).toInt := fun i hi => by rw [← hs]; exact hS i hi
    have kx : Ok (f_X11_look_L25i 0 t ha_fu (0, 1, T)) (fun z => z = (nI (fwd s n), T)) := by
      refine ok_for (fun i (v : Int32) => (v, nI i, T)) 1 n (fun i v => v = nI (fwd s i)) _ 0 ?_ (by omega) (by omega) ?_ ?_
      · show _ = nI (if _ then 0 else 0)
        by_cases c : s (fwd s 0) < s 0
        · rw [if_pos c]; rfl
        · rw [if_neg c]; rfl
      · rintro f i v hi rfl ih
        show Ok (f_X11_look_L25 0 t f (nI (fwd s i)) (nI i) T) _
        unfold f_X11_look_L25 f_X11_look_L25_J57
        simp only [pw_nm, nI_1, pw_bs, xr hIRT 0 1 1 2, xr hIRT 0 9 2 9, hnT]
        have := fwd_le s i
        refine ok_ie (nI_ge hi (by omega)) ?_
        rw [sx i hi]
        simp only [pw_bs, xr hIRT 0 9 2 9]
        rw [sx (fwd s i) (by omega)]
        simp only [pw_bs]
        refine ok_if (fun c => ih _ ?_) (fun c => ih _ ?_)
        · show _ = nI (if _ then _ else _)
          rw [i_le] at c
          rw [if_neg (by rw [i_lt]; omega)]
        · show _ = nI (if _ then _ else _)
          rw [i_le] at c
          rw [if_pos (by rw [i_lt]; omega)]
      · rintro f v rfl
        show Ok (f_X11_look_L25 0 t f (nI (fwd s n)) (nI n) T) _
        unfold f_X11_look_L25
        simp only [pw_bs, xr hIRT 0 1 1 2, hnT]
        exact ok_it (nI_le (Nat.le_refl _) (by omega)) (ok_some rfl)
    have km : Ok (f_X12_look_L23i 0 t ha_fu (0, -1, 0, ha_sA M 80 g)) (fun z => z = (nI (fwd s n), ha_sA M 80 g)) := by
      refine ok_for (fun i (v : Int32 × Int32) => (v.1, v.2, nI i, ha_sA M 80 g)) 0 n (fun i v => v.1 = nI (fwd s i) ∧ v.2 = if i = 0 then -1 else s (fwd s i)) _ (0, -1) ⟨rfl, rfl⟩ (by omega) (by omega) ?_ ?_
      · rintro f i ⟨v1, v2⟩ hi ⟨h1, h2⟩ ih
        have h1 : v1 = nI (fwd s i) := h1
        have h2 : v2 = if i = 0 then -1 else s (fwd s i) := h2
        show Ok (f_X12_look_L23 0 t f v1 v2 (nI i) (ha_sA M 80 g)) _
        unfold f_X12_look_L23 f_X12_look_L23_J80
        simp only [pw_nm, nI_1, st_IA, st_fA, hn]
        rw [show (17 : Int32) = nI 17 from rfl, nI_mul, nI_add, nI_1, nI_mul, nI_add, nI_clamp (show 17 * i + i + 1 < 2 ^ 31 by omega), nI_clamp (show 17 * (i + 1) + i < 2 ^ 31 by omega)]
        refine ok_ie (nI_ge hi (by omega)) (ok_b (mr hIM 79 100) (ok_gd (by rw [hl]; exact n_in2 (by omega) (by omega)) (ok_b (mr hIM 79 100) (ok_gd (by rw [hl]; exact n_in2 (by omega) (by omega)) ?_))))
        have e : ha_gA (ha_sA M 80 g) (79 + 1) (17 * i + i + 1) + ha_gA (ha_sA M 80 g) (79 + 1) (17 * (i + 1) + i) = s i := by rw [← hs]; rfl
        rw [e]
        have hfs : fwd s (i + 1) = if s (fwd s i) < s i then i else fwd s i := rfl
        by_cases i0 : i = 0
        · subst i0
          rw [if_pos rfl] at h2
          refine ok_it (by rw [h2, i_lt, z_m1]; have := s0 0 hi; omega) (ih (nI 0, s 0) ⟨?_, ?_⟩)
          · rw [hfs]; by_cases c : s (fwd s 0) < s 0 <;> simp [c, fwd]
          · rw [if_neg (by omega), hfs]; by_cases c : s (fwd s 0) < s 0 <;> simp [c, fwd]
        · rw [if_neg i0] at h2
          refine ok_if (fun c => ih (nI i, s i) ⟨?_, ?_⟩) (fun c => ih (v1, v2) ⟨?_, ?_⟩)
          · rw [hfs, if_pos (h2 ▸ c)]
          · rw [if_neg (by omega), hfs, if_pos (h2 ▸ c)]
          · rw [hfs, if_neg (h2 ▸ c)]; exact h1
          · rw [if_neg (by omega), hfs, if_neg (h2 ▸ c)]; exact h2
      · rintro f ⟨v1, v2⟩ ⟨h1, h2⟩
        have h1 : v1 = nI (fwd s n) := h1
        show Ok (f_X12_look_L23 0 t f v1 v2 (nI n) (ha_sA M 80 g)) _
        unfold f_X12_look_L23
        simp only [st_IA, hn]
        exact ok_it (nI_le (Nat.le_refl _) (by omega)) (ok_some (by rw [h1]))
    rw [ok_eq kx, ok_eq km]
    exact agr_mk rfl hJ
