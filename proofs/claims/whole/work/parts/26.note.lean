theorem fits_c {M M1 : ha_St} {n c : Nat} {d : Nat → Int} (h : ∀ k, k < c → ha_gA M1 76 k = ha_gA M 76 k ∧ ha_gA M1 77 k = ha_gA M 77 k ∧ ha_gA M1 78 k = ha_gA M 78 k) : Fits M1 n c d ↔ Fits M n c d := by
  unfold Fits
  refine and_congr Iff.rfl ⟨fun g k hk => ?_, fun g k hk => ?_⟩
  · obtain ⟨h1, h2, h3⟩ := h k hk
    have := g k hk
    rw [h1, h2, h3] at this; exact this
  · obtain ⟨h1, h2, h3⟩ := h k hk
    rw [h1, h2, h3]; exact g k hk
theorem I14_f {X M X1 M1 : ha_St} (a1 : ha_gI X1 9 7 = ha_gI X 9 7) (a2 : ha_gI X1 9 6 = ha_gI X 9 6) (a3 : ha_gI X1 9 5 = ha_gI X 9 5) (a4 : ∀ i, ha_gA X1 (2000 + i) = ha_gA X (2000 + i)) (b1 : (ha_gI M 0 80).toInt ≤ (ha_gI M1 0 80).toInt) (b2 : ∀ k : Nat, (k : Int) < (ha_gI M 0 80).toInt → ha_gA M1 76 k = ha_gA M 76 k ∧ ha_gA M1 77 k = ha_gA M 77 k ∧ ha_gA M1 78 k = ha_gA M 78 k) (h : I14 X M) : I14 X1 M1 := by
  unfold I14 at h ⊢
  simp only [a1, a2, a3, a4]
  refine ⟨h.1, ?_⟩
  rcases h.2 with h | ⟨h1, h2, h3, h4, h5⟩
  · exact Or.inl h
  · refine Or.inr ⟨h1, by omega, h3, h4, ?_⟩
    have key : ∀ n d, Fits M1 n (ha_gI X 9 6).toInt.toNat d ↔ Fits M n (ha_gI X 9 6).toInt.toNat d := fun n d => fits_c (fun k hk => b2 k (by omega))
    simp only [key]
    exact h5
theorem inv_note {X M : ha_St} (hI : Inv X M) (a b c : Int32) (hn : (ha_gI M 0 80).toInt < 60) (h1 : 0 ≤ a.toInt) (h2 : a.toInt ≤ b.toInt) (h3 : b.toInt < (ha_gI M 0 4).toInt) (h4 : 1 ≤ c.toInt) (h5 : c.toInt ≤ 200) : Inv (ha_sI (ha_sA (ha_sA (ha_sA (ha_sA X 244 (upd (ha_gA X 244) (ha_gI M 0 80).toNatClampNeg a)) 245 (upd (ha_gA X 245) (ha_gI M 0 80).toNatClampNeg b)) 246 (upd (ha_gA X 246) (ha_gI M 0 80).toNatClampNeg c)) 247 (upd (ha_gA X 247) (ha_gI M 0 80).toNatClampNeg (ha_gI M 0 3))) 9 8 (ha_gI M 0 80 + 1)) (ha_sI (ha_sA (ha_sA (ha_sA (ha_sA M 76 (upd (ha_gA M 76) (ha_gI M 0 80).toNatClampNeg a)) 77 (upd (ha_gA M 77) (ha_gI M 0 80).toNatClampNeg b)) 78 (upd (ha_gA M 78) (ha_gI M 0 80).toNatClampNeg c)) 79 (upd (ha_gA M 79) (ha_gI M 0 80).toNatClampNeg (ha_gI M 0 3))) 0 80 (ha_gI M 0 80 + 1)) := by
  obtain ⟨hIR, hIB, hIM, hI1, hI2, hI3, hI4, hI5, hI6, hI7, hI8, hI9, hI10, hI11, hI13, hI14⟩ := hI
  obtain ⟨n1, n2, n3, n4⟩ := hI13
  have ha : (ha_gI M 0 80 + 1).toInt = (ha_gI M 0 80).toInt + 1 := by rw [i_add (by rw [z_1]; omega) (by rw [z_1]; omega), z_1]
  exact ⟨IR_c (X := X) rfl hIR, IB_c (X := X) rfl rfl rfl hIB, IM_c (M := M) rfl hIM, I1_c (X := X) (M := M) rfl rfl rfl rfl hI1, I2_c (X := X) (M := M) rfl rfl rfl rfl hI2, I3_c (X := X) (M := M) rfl rfl rfl rfl hI3, I4_c (X := X) (M := M) rfl rfl rfl rfl rfl rfl hI4, I5_c (X := X) (M := M) (fun p j h1 h2 => by (try simp only [st_II, st_IA, st_IR, st_IB]); (repeat rw [if_neg (by omega)])) (fun a h1 h2 => by (try simp only [st_AI, st_AA, st_AR, st_AB]); (repeat rw [if_neg (by omega)])) rfl rfl (fun _ _ => rfl) rfl rfl rfl rfl rfl rfl rfl rfl rfl hI5, I6_c (X := X) (M := M) rfl rfl rfl rfl rfl rfl hI6, I7_c (X := X) (M := M) rfl rfl rfl rfl rfl rfl rfl rfl rfl rfl rfl rfl rfl rfl rfl rfl rfl rfl rfl rfl rfl rfl hI7, I8_c (X := X) (M := M) rfl rfl rfl rfl rfl rfl hI8, I9_c (X := X) (M := M) rfl rfl rfl rfl rfl rfl rfl hI9, I10_c (X := X) (M := M) rfl rfl rfl rfl hI10, I11_c (X := X) (M := M) rfl rfl rfl rfl rfl rfl rfl hI11, ⟨rfl, by show 0 ≤ (ha_gI M 0 80 + 1).toInt; omega, by show (ha_gI M 0 80 + 1).toInt ≤ 60; omega, fun k hk => by
    have hk : (k : Int) < (ha_gI M 0 80 + 1).toInt := hk
    show upd (ha_gA X 244) _ a k = upd (ha_gA M 76) _ a k ∧ upd (ha_gA X 245) _ b k = upd (ha_gA M 77) _ b k ∧ upd (ha_gA X 246) _ c k = upd (ha_gA M 78) _ c k ∧ upd (ha_gA X 247) _ (ha_gI M 0 3) k = upd (ha_gA M 79) _ (ha_gI M 0 3) k ∧ 0 ≤ (upd (ha_gA M 76) _ a k).toInt ∧ (upd (ha_gA M 76) _ a k).toInt ≤ (upd (ha_gA M 77) _ b k).toInt ∧ (upd (ha_gA M 77) _ b k).toInt < (ha_gI M 0 4).toInt ∧ 1 ≤ (upd (ha_gA M 78) _ c k).toInt ∧ (upd (ha_gA M 78) _ c k).toInt ≤ 200 ∧ 0 ≤ (upd (ha_gA M 79) _ (ha_gI M 0 3) k).toInt ∧ (upd (ha_gA M 79) _ (ha_gI M 0 3) k).toInt ≤ (ha_gI M 0 3).toInt ∧ (∀ j : Nat, j < k → (upd (ha_gA M 79) _ (ha_gI M 0 3) j).toInt ≤ (upd (ha_gA M 79) _ (ha_gI M 0 3) k).toInt)
    by_cases hq : k = (ha_gI M 0 80).toNatClampNeg
    · subst hq
      simp only [pk_us]
      refine ⟨trivial, trivial, trivial, trivial, h1, h2, h3, h4, h5, hI2.2.1, Int.le_refl _, fun j hj => ?_⟩
      have hj2 : (j : Int) < (ha_gI M 0 80).toInt := by rw [i_cl] at hj; omega
      rw [pk_un (by omega)]
      exact (n4 j hj2).2.2.2.2.2.2.2.2.2.2.1
    · have hk2 : (k : Int) < (ha_gI M 0 80).toInt := by rw [i_cl] at hq; omega
      obtain ⟨a1, a2, a3, a4, a5, a6, a7, a8, a9, b1, b2, b3⟩ := n4 k hk2
      simp only [pk_un hq]
      refine ⟨a1, a2, a3, a4, a5, a6, a7, a8, a9, b1, b2, fun j hj => ?_⟩
      rw [pk_un (by rw [i_cl] at hq ⊢; omega)]
      exact b3 j hj⟩, I14_f (X := X) (M := M) rfl rfl rfl (fun i => by (try simp only [st_AI, st_AA]); (repeat rw [if_neg (by omega)])) (by show _ ≤ (ha_gI M 0 80 + 1).toInt; omega) (fun k hk => by
    show upd (ha_gA M 76) _ a k = ha_gA M 76 k ∧ upd (ha_gA M 77) _ b k = ha_gA M 77 k ∧ upd (ha_gA M 78) _ c k = ha_gA M 78 k
    have hq : k ≠ (ha_gI M 0 80).toNatClampNeg := by rw [i_cl]; omega
    exact ⟨pk_un hq, pk_un hq, pk_un hq⟩) hI14⟩
theorem e_note {X M : ha_St} (hI : Inv X M) (a b c : Int32) : Agr (f_X11_note 0 a b c X) (f_X12_note 0 a b c M) := by
  have hI := inv_thr 0 hI
  have hT := hI
  obtain ⟨hIR, hIB, hIM, hI1, hI2, hI3, hI4, hI5, hI6, hI7, hI8, hI9, hI10, hI11, hI13, hI14⟩ := hI
  unfold f_X11_note f_X12_note f_X11_note_J44 f_X12_note_J53 f_X2_add
  generalize ha_sI M 0 0 0 = M at *
  obtain ⟨n1, n2, n3, n4⟩ := hI13
  have t1 := hI2.2.2.2.1
  have t2 := hI2.2.2.2.2
  have hsub : (ha_gI M 0 4 - 1).toInt = (ha_gI M 0 4).toInt - 1 := by rw [i_sub (by rw [z_1]; omega) (by rw [z_1]; omega), z_1]
  have hx : xo_ln 244 = 60 ∧ xo_ln 245 = 60 ∧ xo_ln 246 = 60 ∧ xo_ln 247 = 60 := by decide +kernel
  have hm : mo_ln (75 + 1) = 60 ∧ mo_ln (76 + 1) = 60 ∧ mo_ln (77 + 1) = 60 ∧ mo_ln (78 + 1) = 60 := by decide +kernel
  simp only [pw_nm, pw_bs, isIn_eq, xr hIR 0 1 1 2, xr hIR 0 9 2 9, xr hIR 9 0 100 244, xr hIR 9 1 100 245, xr hIR 9 2 100 246, xr hIR 9 3 100 247, mr hIM 75 100, mr hIM 76 100, mr hIM 77 100, mr hIM 78 100, st_fA, st_IA, n1, t1, hI2.1, hx, hm]
  by_cases c0 : ha_gI M 0 80 = 60
  · rw [pw_it c0, pw_it (by rw [c0]; decide)]
    exact agr_mk rfl hT
  · rw [pw_ie c0]
    rw [i_eq, z_60] at c0
    rw [pw_ie (by rw [i_le, z_60]; omega)]
    by_cases c1 : a < 0
    · simp only [c1, true_or, n_00, if_true]
      exact agr_mk rfl hT
    · rw [pw_ie c1]
      by_cases c2 : b < a
      · simp only [c2, true_or, n_00, if_true]
        by_cases c3 : a < 0 ∨ ha_gI M 0 4 - 1 < a
        · simp only [c3, n_00, if_true]
          exact agr_mk rfl hT
        · simp only [c3, n_10, if_false]
          exact agr_mk rfl hT
      · rw [pw_ie c2]
        rw [i_lt, z_0] at c1; rw [i_lt] at c2
        by_cases c3 : ha_gI M 0 4 ≤ b
        · rw [pw_it c3]
          rw [i_le] at c3
          have d2 : b < a ∨ ha_gI M 0 4 - 1 < b := Or.inr (by rw [i_lt, hsub]; omega)
          by_cases c4 : a < 0 ∨ ha_gI M 0 4 - 1 < a
          · simp only [c4, n_00, if_true]
            exact agr_mk rfl hT
          · simp only [c4, d2, n_10, n_00, if_false, if_true]
            exact agr_mk rfl hT
        · rw [pw_ie c3]
          rw [i_le] at c3
          have d1 : ¬ (a < 0 ∨ ha_gI M 0 4 - 1 < a) := by rw [i_lt, i_lt, z_0, hsub]; omega
          have d2 : ¬ (b < a ∨ ha_gI M 0 4 - 1 < b) := by rw [i_lt, i_lt, hsub]; omega
          simp only [d1, d2, n_10, if_false]
          by_cases c5 : c < 1
          · simp only [c5, true_or, n_00, if_true, not_true_eq_false, if_false]
            exact agr_mk rfl hT
          · by_cases c6 : c ≤ 200
            · have d3 : ¬ (c < 1 ∨ 200 < c) := by rw [i_le, z_200] at c6; rw [i_lt, z_1] at c5; rw [i_lt, i_lt, z_1, z_200]; omega
              simp only [d3, n_10, if_false, not_false_eq_true, if_true]
              rw [pw_ie c5, pw_it c6, pw_it (show ha_gI M 0 80 < 60 by rw [i_lt, z_60]; omega)]
              have g1 : ¬ (ha_gI M 0 80 < 0 ∨ 60 ≤ (ha_gI M 0 80).toNatClampNeg) := by rw [i_lt, z_0, i_cl]; omega
              simp only [pw_gd g1, pw_bs]
              rw [i_le, z_200] at c6; rw [i_lt, z_1] at c5
              refine agr_mk ?_ ?_
              · rfl
              · exact inv_note hT a b c (by omega) (by omega) (by omega) (by omega) (by omega) (by omega)
            · have d3 : c < 1 ∨ 200 < c := Or.inr (by rw [i_le, z_200] at c6; rw [i_lt, z_200]; omega)
              simp only [d3, n_00, if_true, not_true_eq_false, if_false]
              rw [pw_ie c5, pw_ie c6]
              exact agr_mk rfl hT
