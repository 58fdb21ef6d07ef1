theorem inv_tp {X M : ha_St} (hI : Inv X M) (v : Int32) (h0 : 0 ≤ v.toInt) (h1 : v.toInt ≤ 440) : Inv (ha_sI X 1 1 v) (ha_sI M 0 2 v) := by
  obtain ⟨hIR, hIB, hIM, hI1, hI2, hI3, hI4, hI5, hI6, hI7, hI8, hI9, hI10, hI11, hI13, hI14⟩ := hI
  exact ⟨IR_c (X := X) rfl hIR, IB_c (X := X) rfl rfl rfl hIB, IM_c (M := M) rfl hIM, ⟨rfl, h0, h1, hI1.2.2.2.1, hI1.2.2.2.2⟩, I2_c (X := X) (M := M) rfl rfl rfl rfl hI2, I3_c (X := X) (M := M) rfl rfl rfl rfl hI3, I4_c (X := X) (M := M) rfl rfl rfl rfl rfl rfl hI4, I5_c (X := X) (M := M) (fun p j h1 h2 => by (try simp only [st_II, st_IA, st_IR, st_IB]); (repeat rw [if_neg (by omega)])) (fun a h1 h2 => by (try simp only [st_AI, st_AA, st_AR, st_AB]); (repeat rw [if_neg (by omega)])) rfl rfl (fun _ _ => rfl) rfl rfl rfl rfl rfl rfl rfl rfl rfl hI5, I6_c (X := X) (M := M) rfl rfl rfl rfl rfl rfl hI6, I7_c (X := X) (M := M) rfl rfl rfl rfl rfl rfl rfl rfl rfl rfl rfl rfl rfl rfl rfl rfl rfl rfl rfl rfl rfl rfl hI7, I8_c (X := X) (M := M) rfl rfl rfl rfl rfl rfl hI8, I9_c (X := X) (M := M) rfl rfl rfl rfl rfl rfl rfl hI9, I10_c (X := X) (M := M) rfl rfl rfl rfl hI10, I11_c (X := X) (M := M) rfl rfl rfl rfl rfl rfl rfl hI11, I13_c (X := X) (M := M) rfl rfl rfl rfl rfl rfl rfl rfl rfl rfl rfl rfl hI13, I14_c (X := X) (M := M) rfl rfl rfl (fun i => by (try simp only [st_AI, st_AA, st_AR, st_AB]); (repeat rw [if_neg (by omega)])) rfl rfl rfl rfl hI14⟩
theorem e_end {X M : ha_St} (hI : Inv X M) (v : Int32) : Agr (f_X11_end 0 v X) (f_X12_end 0 v M) := by
  have hT := inv_thr 0 hI
  have hI0 := hI
  obtain ⟨hIR, hIB, hIM, hI1, hI2, hI3, hI4, hI5, hI6, hI7, hI8, hI9, hI10, hI11, hI13, hI14⟩ := hI
  obtain ⟨e1, e2, e3, e4, e5⟩ := hI1
  unfold f_X11_end f_X12_end f_X11_end_J15 f_X12_end_J17
  simp only [pw_nm, pw_bs, xr hIR 0 0 10 1, e1, show ha_gI (ha_sI M 0 0 0) 0 2 = ha_gI M 0 2 from rfl]
  refine agr_if (fun _ => agr_mk rfl hT) (fun c1 => agr_if (fun c2 => agr_mk rfl ?_) (fun _ => agr_mk rfl hT))
  rw [i_lt, z_0] at c1; rw [i_le] at c2
  exact inv_tp hT v (by omega) (by omega)
theorem e_next {X M : ha_St} (hI : Inv X M) (v : Int32) : Agr (f_X11_next 0 v X) (f_X12_next 0 v M) := by
  have hI := inv_thr 0 hI
  have hT := hI
  obtain ⟨hIR, hIB, hIM, hI1, hI2, hI3, hI4, hI5, hI6, hI7, hI8, hI9, hI10, hI11, hI13, hI14⟩ := hI
  obtain ⟨e1, e2, e3, e4⟩ := hI2
  unfold f_X11_next f_X12_next f_X11_next_J23 f_X12_next_J28
  generalize ha_sI M 0 0 0 = M at *
  simp only [pw_nm, pw_bs, isIn_eq, e1]
  by_cases c1 : v < 0
  · simp only [c1, true_or, n_00, if_true]
    exact agr_mk rfl hT
  · by_cases c2 : (999 : Int32) < v
    · simp only [c1, c2, false_or, n_00, if_true, if_false]
      exact agr_mk rfl hT
    · simp only [c1, c2, or_self, n_10, if_false]
      refine agr_if (fun c3 => agr_mk (by simp [st_II]) ?_) (fun _ => agr_mk rfl hT)
      rw [i_lt, z_0] at c1; rw [i_lt, z_999] at c2; rw [i_le, z_999] at c3
      have ha : (ha_gI M 0 3 + v).toInt = (ha_gI M 0 3).toInt + v.toInt := i_add (by omega) (by omega)
      exact ⟨IR_c (X := X) rfl hIR, IB_c (X := X) rfl rfl rfl hIB, IM_c (M := M) rfl hIM, I1_c (X := X) (M := M) rfl rfl rfl rfl hI1, ⟨rfl, by show 0 ≤ (ha_gI M 0 3 + v).toInt; omega, by show (ha_gI M 0 3 + v).toInt ≤ 999; omega, e4⟩, I3_c (X := X) (M := M) rfl rfl rfl rfl hI3, I4_c (X := X) (M := M) rfl rfl rfl rfl rfl rfl hI4, I5_c (X := X) (M := M) (fun p j h1 h2 => by (try simp only [st_II, st_IA, st_IR, st_IB]); (repeat rw [if_neg (by omega)])) (fun a h1 h2 => by (try simp only [st_AI, st_AA, st_AR, st_AB]); (repeat rw [if_neg (by omega)])) rfl rfl (fun _ _ => rfl) rfl rfl rfl rfl rfl rfl rfl rfl rfl hI5, I6_c (X := X) (M := M) rfl rfl rfl rfl rfl rfl hI6, I7_c (X := X) (M := M) rfl rfl rfl rfl rfl rfl rfl rfl rfl rfl rfl rfl rfl rfl rfl rfl rfl rfl rfl rfl rfl rfl hI7, I8_c (X := X) (M := M) rfl rfl rfl rfl rfl rfl hI8, I9_c (X := X) (M := M) rfl rfl rfl rfl rfl rfl rfl hI9, I10_c (X := X) (M := M) rfl rfl rfl rfl hI10, I11_c (X := X) (M := M) rfl rfl rfl rfl rfl rfl rfl hI11, ⟨hI13.1, hI13.2.1, hI13.2.2.1, fun k hk => by
        obtain ⟨a1, a2, a3, a4, a5, a6, a7, a8, a9, b1, b2, b3⟩ := hI13.2.2.2 k hk
        refine ⟨a1, a2, a3, a4, a5, a6, a7, a8, a9, b1, ?_, b3⟩
        show _ ≤ (ha_gI M 0 3 + v).toInt
        rw [ha]; exact Int.le_trans b2 (by omega)⟩, I14_c (X := X) (M := M) rfl rfl rfl (fun i => by (try simp only [st_AI, st_AA, st_AR, st_AB]); (repeat rw [if_neg (by omega)])) rfl rfl rfl rfl hI14⟩
theorem e_towers {X M : ha_St} (hI : Inv X M) (v : Int32) : Agr (f_X11_towers 0 v X) (f_X12_towers 0 v M) := by
  have hI := inv_thr 0 hI
  have hT := hI
  obtain ⟨hIR, hIB, hIM, hI1, hI2, hI3, hI4, hI5, hI6, hI7, hI8, hI9, hI10, hI11, hI13, hI14⟩ := hI
  unfold f_X11_towers f_X12_towers f_X11_towers_J31 f_X12_towers_J29
  generalize ha_sI M 0 0 0 = M at *
  simp only [pw_nm, pw_bs, isIn_eq, xr hIR 0 1 1 2, xr hIR 0 9 2 9, hI4.1, hI13.1]
  by_cases c1 : v < 3
  · simp only [c1, true_or, n_00, if_true]
    exact agr_mk rfl hT
  · by_cases c2 : (16 : Int32) < v
    · simp only [c1, c2, false_or, n_00, if_true, if_false]
      exact agr_mk rfl hT
    · simp only [c1, c2, or_self, n_10, if_false]
      refine agr_if (fun _ => agr_mk rfl hT) (fun c3 => agr_if (fun c4 => agr_mk rfl ?_) (fun _ => agr_mk rfl hT))
      rw [i_lt, z_3] at c1; rw [i_lt, z_16] at c2; rw [i_lt, z_0] at c3; rw [i_le, z_0] at c4
      obtain ⟨n1, n2, n3, n4⟩ := hI13
      exact ⟨IR_c (X := X) rfl hIR, IB_c (X := X) rfl rfl rfl hIB, IM_c (M := M) rfl hIM, I1_c (X := X) (M := M) rfl rfl rfl rfl hI1, ⟨hI2.1, hI2.2.1, hI2.2.2.1, rfl, by show 3 ≤ v.toInt; omega, by show v.toInt ≤ 16; omega⟩, I3_c (X := X) (M := M) rfl rfl rfl rfl hI3, I4_c (X := X) (M := M) rfl rfl rfl rfl rfl rfl hI4, I5_c (X := X) (M := M) (fun p j h1 h2 => by (try simp only [st_II, st_IA, st_IR, st_IB]); (repeat rw [if_neg (by omega)])) (fun a h1 h2 => by (try simp only [st_AI, st_AA, st_AR, st_AB]); (repeat rw [if_neg (by omega)])) rfl rfl (fun _ _ => rfl) rfl rfl rfl rfl rfl rfl rfl rfl rfl hI5, I6_c (X := X) (M := M) rfl rfl rfl rfl rfl rfl hI6, I7_c (X := X) (M := M) rfl rfl rfl rfl rfl rfl rfl rfl rfl rfl rfl rfl rfl rfl rfl rfl rfl rfl rfl rfl rfl rfl hI7, I8_c (X := X) (M := M) rfl rfl rfl rfl rfl rfl hI8, I9_c (X := X) (M := M) rfl rfl rfl rfl rfl rfl rfl hI9, I10_c (X := X) (M := M) rfl rfl rfl rfl hI10, I11_c (X := X) (M := M) rfl rfl rfl rfl rfl rfl rfl hI11, ⟨n1, n2, n3, fun k hk => absurd hk (by show ¬ _ < (ha_gI M 0 80).toInt; omega)⟩, I14_c (X := X) (M := M) rfl rfl rfl (fun i => by (try simp only [st_AI, st_AA, st_AR, st_AB]); (repeat rw [if_neg (by omega)])) rfl rfl rfl rfl hI14⟩
theorem inv_put {X M : ha_St} (hI : Inv X M) (b : Int32) (h : (ha_gI M 0 2).toInt < 440) (h0 : 0 ≤ b.toInt) (h1 : b.toInt ≤ 255) : Inv (ha_sI (ha_sA X 116 (upd (ha_gA X 116) (ha_gI M 0 2).toNatClampNeg b)) 1 1 (ha_gI M 0 2 + 1)) (ha_sI (ha_sA M 2 (upd (ha_gA M 2) (ha_gI M 0 2).toNatClampNeg b)) 0 2 (ha_gI M 0 2 + 1)) := by
  obtain ⟨hIR, hIB, hIM, hI1, hI2, hI3, hI4, hI5, hI6, hI7, hI8, hI9, hI10, hI11, hI13, hI14⟩ := hI
  obtain ⟨e1, e2, e3, e4, e5⟩ := hI1
  have ha : (ha_gI M 0 2 + 1).toInt = (ha_gI M 0 2).toInt + 1 := by rw [i_add (by rw [z_1]; omega) (by rw [z_1]; omega), z_1]
  exact ⟨IR_c (X := X) rfl hIR, IB_c (X := X) rfl rfl rfl hIB, IM_c (M := M) rfl hIM, ⟨rfl, by show 0 ≤ (ha_gI M 0 2 + 1).toInt; omega, by show (ha_gI M 0 2 + 1).toInt ≤ 440; omega, by show upd (ha_gA X 116) _ b = upd (ha_gA M 2) _ b; rw [e4], fun j => by
    show 0 ≤ (upd (ha_gA M 2) _ b j).toInt ∧ (upd (ha_gA M 2) _ b j).toInt ≤ 255
    by_cases hj : j = (ha_gI M 0 2).toNatClampNeg
    · rw [hj, pk_us]; exact ⟨h0, h1⟩
    · rw [pk_un hj]; exact e5 j⟩, I2_c (X := X) (M := M) rfl rfl rfl rfl hI2, I3_c (X := X) (M := M) rfl rfl rfl rfl hI3, I4_c (X := X) (M := M) rfl rfl rfl rfl rfl rfl hI4, I5_c (X := X) (M := M) (fun p j h1 h2 => by (try simp only [st_II, st_IA, st_IR, st_IB]); (repeat rw [if_neg (by omega)])) (fun a h1 h2 => by (try simp only [st_AI, st_AA, st_AR, st_AB]); (repeat rw [if_neg (by omega)])) rfl rfl (fun _ _ => rfl) rfl rfl rfl rfl rfl rfl rfl rfl rfl hI5, I6_c (X := X) (M := M) rfl rfl rfl rfl rfl rfl hI6, I7_c (X := X) (M := M) rfl rfl rfl rfl rfl rfl rfl rfl rfl rfl rfl rfl rfl rfl rfl rfl rfl rfl rfl rfl rfl rfl hI7, I8_c (X := X) (M := M) rfl rfl rfl rfl rfl rfl hI8, I9_c (X := X) (M := M) rfl rfl rfl rfl rfl rfl rfl hI9, I10_c (X := X) (M := M) rfl rfl rfl rfl hI10, I11_c (X := X) (M := M) rfl rfl rfl rfl rfl rfl rfl hI11, I13_c (X := X) (M := M) rfl rfl rfl rfl rfl rfl rfl rfl rfl rfl rfl rfl hI13, I14_c (X := X) (M := M) rfl rfl rfl (fun i => by (try simp only [st_AI, st_AA, st_AR, st_AB]); (repeat rw [if_neg (by omega)])) rfl rfl rfl rfl hI14⟩
theorem b255 (x : Int32) : 0 ≤ (x &&& 255).toInt ∧ (x &&& 255).toInt ≤ 255 := by
  obtain ⟨j, hj, e⟩ := pk_andE x (m := 255) 8 rfl
  rw [e, nI_toInt (by omega)]
  omega
theorem feed_l (w : Int32) : ∀ (k n : Nat) (v : Int32) (X M : ha_St), v.toInt = 8 * (k : Int) - 8 → k < n → k ≤ 4 → Inv X M → (ha_gI M 0 2).toInt + k ≤ 440 → ∃ X1 M1, f_X10_append_L3i 1 w n (v, X) = some X1 ∧ f_X12_come_L3i 0 w n (v, M) = some M1 ∧ Inv X1 M1 ∧ (ha_gI M1 0 2).toInt = (ha_gI M 0 2).toInt + k := by
  intro k
  induction k with
  | zero =>
    intro n v X M hv hn _ hI hs
    obtain ⟨n, rfl⟩ : ∃ q, n = q + 1 := ⟨n - 1, by omega⟩
    have hc : v < 0 := by rw [i_lt, z_0]; omega
    refine ⟨X, M, ?_, ?_, hI, by omega⟩
    · show f_X10_append_L3 1 w (f_X10_append_L3i 1 w n) v X = some X
      unfold f_X10_append_L3
      rw [pw_it hc]
    · show f_X12_come_L3 0 w (f_X12_come_L3i 0 w n) v M = some M
      unfold f_X12_come_L3
      rw [pw_it hc]
  | succ k ih =>
    intro n v X M hv hn hk4 hI hs
    obtain ⟨n, rfl⟩ : ∃ q, n = q + 1 := ⟨n - 1, by omega⟩
    have hc : ¬ v < 0 := by rw [i_lt, z_0]; omega
    have hI0 := hI
    obtain ⟨hIR, hIB, hIM, hI1, hI2, hI3, hI4, hI5, hI6, hI7, hI8, hI9, hI10, hI11, hI13, hI14⟩ := hI
    obtain ⟨e1, e2, e3, e4, e5⟩ := hI1
    have hb := b255 (ha_ush w v)
    have hx : xo_ln 116 = 440 := by decide +kernel
    have hm : mo_ln (1 + 1) = 440 := by decide +kernel
    have g1 : ¬ (ha_gI M 0 2 < 0 ∨ 440 ≤ (ha_gI M 0 2).toNatClampNeg) := by rw [i_lt, z_0, i_cl]; omega
    have g2 : ¬ (440 : Int32) ≤ ha_gI M 0 2 := by rw [i_le, z_440]; omega
    have z8 : (-8 : Int32).toInt = -8 := rfl
    have hv2 : (v + (-8)).toInt = 8 * (k : Int) - 8 := by rw [i_add (by rw [z8]; omega) (by rw [z8]; omega), z8]; omega
    have ha : (ha_gI M 0 2 + 1).toInt = (ha_gI M 0 2).toInt + 1 := by rw [i_add (by rw [z_1]; omega) (by rw [z_1]; omega), z_1]
    have hput := inv_put hI0 _ (by omega) hb.1 hb.2
    obtain ⟨X1, M1, r1, r2, r3, r4⟩ := ih n (v + (-8)) _ _ hv2 (by omega) (by omega) hput (by show (ha_gI M 0 2 + 1).toInt + k ≤ 440; omega)
    refine ⟨X1, M1, ?_, ?_, r3, by rw [r4]; show (ha_gI M 0 2 + 1).toInt + _ = _; omega⟩
    · show f_X10_append_L3 1 w (f_X10_append_L3i 1 w n) v X = some X1
      unfold f_X10_append_L3
      rw [pw_ie hc]
      simp only [pw_nm, pw_bs, xr hIR 1 0 100 116, e1, hx, st_IA]
      rw [pw_ie g2, pw_gd g1]
      exact r1
    · show f_X12_come_L3 0 w (f_X12_come_L3i 0 w n) v M = some M1
      unfold f_X12_come_L3
      rw [pw_ie hc]
      simp only [pw_nm, pw_bs, mr hIM 1 100, hm, st_IA]
      rw [pw_gd g1]
      exact r2
theorem feed_4 {X M : ha_St} (w : Int32) (hI : Inv X M) (hs : (ha_gI M 0 2).toInt + 4 ≤ 440) : ∃ X1 M1, f_X10_append 1 w X = some X1 ∧ f_X12_come 0 w M = some M1 ∧ Inv X1 M1 ∧ (ha_gI M1 0 2).toInt = (ha_gI M 0 2).toInt + 4 := by
  obtain ⟨X1, M1, r1, r2, r3, r4⟩ := feed_l w 4 ha_fu 24 X M rfl (by decide) (by omega) hI hs
  refine ⟨X1, M1, ?_, ?_, r3, r4⟩
  · unfold f_X10_append f_X10_append_J49
    rw [r1]; rfl
  · unfold f_X12_come f_X12_come_J39
    rw [r2]; rfl
theorem e_feed {X M : ha_St} (hI : Inv X M) (a b c d e : Int32) : Agr (f_X11_feed 0 a b c d e X) (f_X12_feed 0 a b c d e M) := by
  have hT := inv_thr 0 hI
  unfold f_X11_feed f_X12_feed
  generalize ha_sI M 0 0 0 = M at *
  have e0 := hT.2.2.2.1.1
  simp only [pw_nm, pw_bs, xr hT.1 0 0 10 1, e0]
  refine agr_if (fun c1 => ?_) (fun _ => agr_mk rfl hT)
  have h440 := hT.2.2.2.1.2
  rw [i_le, z_440, i_add (by rw [z_20]; omega) (by rw [z_20]; omega), z_20] at c1
  obtain ⟨X1, M1, r1, r2, r3, r4⟩ := feed_4 a hT (by omega)
  rw [r1, r2]; simp only [pw_bs, xr r3.1 0 0 10 1]
  obtain ⟨X2, M2, s1, s2, s3, s4⟩ := feed_4 b r3 (by omega)
  rw [s1, s2]; simp only [pw_bs, xr s3.1 0 0 10 1]
  obtain ⟨X3, M3, t1, t2, t3, t4⟩ := feed_4 c s3 (by omega)
  rw [t1, t2]; simp only [pw_bs, xr t3.1 0 0 10 1]
  obtain ⟨X4, M4, u1, u2, u3, u4⟩ := feed_4 d t3 (by omega)
  rw [u1, u2]; simp only [pw_bs, xr u3.1 0 0 10 1]
  obtain ⟨X5, M5, v1, v2, v3, v4⟩ := feed_4 e u3 (by omega)
  rw [v1, v2]; simp only [pw_bs, xr v3.1 0 0 10 1]
  exact agr_mk v3.2.2.2.1.1 v3
