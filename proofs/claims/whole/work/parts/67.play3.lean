/-! PLAY: the pair -/
theorem inv_ln {X M X1 M1 : ha_St} (hI : Inv X M) (hR : ha_gR X1 = ha_gR X) (hB : ha_gB X1 = ha_gB X) (hi : ∀ o k, o < 16 → o ≠ 4 → o ≠ 5 → ha_gI X1 o k = ha_gI X o k) (ha : ∀ a, a < 135 ∨ (190 ≤ a ∧ a < 356) ∨ 2000 ≤ a → ha_gA X1 a = ha_gA X a) (W : WNx X1) (mR : ha_gR M1 = ha_gR M) (mi : ∀ k, k ≠ 0 → ¬ (37 ≤ k ∧ k ≤ 48) → ¬ (53 ≤ k ∧ k ≤ 59) → k ≠ 62 → ha_gI M1 0 k = ha_gI M 0 k) (ma : ∀ a, ¬ (33 ≤ a ∧ a ≤ 37) → a ≠ 48 → ¬ (50 ≤ a ∧ a ≤ 53) → a ≠ 61 → a ≠ 62 → ha_gA M1 a = ha_gA M a) (h7 : I7 X1 M1) (h8 : I8 X1 M1) : Inv X1 M1 := by
  obtain ⟨hIR, hIB, hIM, hI1, hI2, hI3, hI4, hI5, hI6, hI7, hI8, hI9, hI10, hI11, hI13, hI14⟩ := hI
  have mi' : ∀ k, (1 ≤ k ∧ k ≤ 36) ∨ (63 ≤ k) → ha_gI M1 0 k = ha_gI M 0 k := fun k hk => mi k (by omega) (by omega) (by omega) (by omega)
  have ma' : ∀ a, a ≤ 32 ∨ 63 ≤ a → ha_gA M1 a = ha_gA M a := fun a hk => ma a (by omega) (by omega) (by omega) (by omega) (by omega)
  refine ⟨IR_c hR hIR, IB_c (by rw [hB]) (by rw [hB]) (by rw [hB]) hIB, IM_c mR hIM, I1_c (hi 1 1 (by omega) (by omega) (by omega)) (ha 116 (by omega)) (mi' 2 (by omega)) (ma' 2 (by omega)) hI1, I2_c (hi 0 13 (by omega) (by omega) (by omega)) (hi 2 5 (by omega) (by omega) (by omega)) (mi' 3 (by omega)) (mi' 4 (by omega)) hI2, I3_c (hi 2 6 (by omega) (by omega) (by omega)) (ha 133 (by omega)) (mi' 30 (by omega)) (ma' 27 (by omega)) hI3, I4_c (hi 2 7 (by omega) (by omega) (by omega)) (ha 134 (by omega)) (mi' 31 (by omega)) (ma' 28 (by omega)) (ma' 29 (by omega)) (ma' 30 (by omega)) hI4, I5_c (fun p j h1 h2 => hi p j (by omega) (by omega) (by omega)) (fun a h1 h2 => ha a (by omega)) (by rw [hB]) hR (fun i h => ?_) (ma' 15 (by omega)) (ma' 16 (by omega)) (ma' 17 (by omega)) (ma' 18 (by omega)) (ma' 19 (by omega)) (ma' 20 (by omega)) (ma' 21 (by omega)) (ma' 22 (by omega)) (ma' 23 (by omega)) hI5, I6_c (hi 0 12 (by omega) (by omega) (by omega)) (hi 0 15 (by omega) (by omega) (by omega)) (hi 0 16 (by omega) (by omega) (by omega)) (mi' 11 (by omega)) (mi' 74 (by omega)) (mi' 82 (by omega)) hI6, h7, h8, I9_c (hi 6 3 (by omega) (by omega) (by omega)) (ha 197 (by omega)) (ha 196 (by omega)) (ha 198 (by omega)) (mi' 67 (by omega)) (ma' 65 (by omega)) (ma' 64 (by omega)) hI9, I10_c (hi 0 14 (by omega) (by omega) (by omega)) (ha 108 (by omega)) (mi' 73 (by omega)) (ma' 72 (by omega)) hI10, I11_c (hi 8 6 (by omega) (by omega) (by omega)) (hi 8 4 (by omega) (by omega) (by omega)) (hi 8 7 (by omega) (by omega) (by omega)) (ha 228 (by omega)) (mi' 68 (by omega)) (ma' 67 (by omega)) (ma' 66 (by omega)) hI11, I13_c (hi 9 8 (by omega) (by omega) (by omega)) (ha 244 (by omega)) (ha 245 (by omega)) (ha 246 (by omega)) (ha 247 (by omega)) (mi' 80 (by omega)) (mi' 4 (by omega)) (mi' 3 (by omega)) (ma' 76 (by omega)) (ma' 77 (by omega)) (ma' 78 (by omega)) (ma' 79 (by omega)) hI13, I14_c (hi 9 7 (by omega) (by omega) (by omega)) (hi 9 6 (by omega) (by omega) (by omega)) (hi 9 5 (by omega) (by omega) (by omega)) (fun i => ha _ (by omega)) (mi' 80 (by omega)) (ma' 76 (by omega)) (ma' 77 (by omega)) (ma' 78 (by omega)) hI14⟩
  rcases h with h | h
  · rw [W.1 i h, hI5.2.1 i h]
  · rw [h, W.2, hI5.2.2]
/-- what a line needs of the invariant -/
theorem inv_cx {X M : ha_St} (hI : Inv X M) : ∃ m n, CX X M m ∧ CM M M m n ∧ WNx X ∧ ha_gI X 2 5 = nI n ∧ ∀ tick, 1 ≤ tick → tick ≤ 500 → ∀ g, g < 15 → (bq (ha_gA X 134 tick) g = true ↔ fogQ M g tick) := by
  obtain ⟨hIR, hIB, hIM, hI1, hI2, hI3, hI4, hI5, hI6, hI7, hI8, hI9, hI10, hI11, hI13, hI14⟩ := hI
  obtain ⟨⟨p, q, r, b, p1, p2, d1, d2, d3, d4, d5, d6, d7, l1, u1, l2, u2, l3, u3, l4, u4, l5, u5, n1, n2, n3, n4, n5, n6, R0, R1, R2⟩, w1, w2⟩ := hI5
  obtain ⟨m, hm, em⟩ := n_of (N := 60) hI3.2.1 hI3.2.2.1
  obtain ⟨n, hn, en⟩ := n_of (x := ha_gI M 0 4) (N := 16) (by have := hI2.2.2.2.2.1; omega) hI2.2.2.2.2.2
  obtain ⟨F, hF, eF⟩ := n_of (N := 60) hI4.2.1 hI4.2.2.1
  have hn3 : 3 ≤ n := by have := hI2.2.2.2.2.1; rw [en, nI_toInt (by omega)] at this; omega
  have hP : ∀ k, k < 3 → ∃ p, ha_gB X 132 k = some p ∧ 11 ≤ p ∧ p ≤ 15 ∧ PR X p M k := fun k hk => by
    rcases (show k = 0 ∨ k = 1 ∨ k = 2 by omega) with rfl | rfl | rfl
    · exact ⟨p, d1, l1, u1, R0⟩
    · exact ⟨p1, d2, l2, u2, R1⟩
    · exact ⟨p2, d3, l3, u3, R2⟩
  refine ⟨m, n, ⟨hIR, by rw [hI3.1]; exact em, hm, fun j hj => (hI3.2.2.2 j (by rw [em, nI_toInt (by omega)]; omega)).1, hP⟩, ⟨hIM, fun _ _ => rfl, em, en, ⟨F, hF, eF⟩, hm, hn3, hn, fun k hk => ?_⟩, ⟨w1, w2⟩, by rw [hI2.2.2.2.1]; exact en, fun tick h1 h2 g hg => hI4.2.2.2 tick g h1 h2 (by omega)⟩
  obtain ⟨p, -, -, -, h⟩ := hP k hk
  exact ⟨X, p, h⟩
theorem e_play {X M : ha_St} (hI : Inv X M) (v : Int32) : Agr (f_X11_play 0 v X) (f_X12_play 0 v M) := by
  have hT := inv_thr 0 hI
  obtain ⟨m, n, hC, hM, hW, h25, hfg⟩ := inv_cx hI
  have hm : m ≤ 60 := hC.2.2.1
  have h3 : 3 ≤ n := hM.2.2.2.2.2.2.1
  have hn : n ≤ 16 := hM.2.2.2.2.2.2.2.1
  have hp := cx_pva hC
  by_cases c : v < 0 ∨ (500 : Int32) < v
  · have e1 : f_X11_play 0 v X = some (-1, X) := by
      unfold f_X11_play f_X11_play_J11
      rcases c with c | c
      · rw [pw_it c]
      · rw [pw_ie (by rw [i_lt, z_0]; rw [i_lt, z_500] at c; omega), pw_ie (by rw [i_le, z_500]; rw [i_lt, z_500] at c; omega)]
    have e2 : f_X12_play 0 v M = some (-1, ha_sI M 0 0 0) := by
      unfold f_X12_play
      rw [pw_nm, isIn_eq, pw_bs, if_pos c, pw_ie (fun h => h rfl)]
    rw [e1, e2]
    exact agr_mk rfl hT
  · have hv : 0 ≤ v.toInt ∧ v.toInt ≤ 500 := by
      rw [i_lt, i_lt, z_0, z_500] at c
      omega
    obtain ⟨T, hT5, rfl⟩ := n_of (N := 500) hv.1 hv.2
    refine agr_ok ?_
    unfold f_X11_play
    refine ok_ie (nI_pos (by omega)) (ok_it (show nI T ≤ nI 500 from nI_le hT5 (by omega)) (ok_b (xr hC.1 0 3 7 4) (ok_b (xr hC.1 0 1 1 2) (ok_bind (run_x (fg := fun tick g => bq (ha_gA X 134 tick) g) hC h3 hn h25 hT5 hW (fun _ _ _ _ _ => Iff.rfl)) ?_))))
    rintro Y ⟨y1, y2, y3, y4, y5, y6, y7⟩
    have hIY : IR Y := IR_c y1.1 hC.1
    refine ok_b (xr hIY 0 3 7 4) (ok_b (xr hIY 4 0 5 16) (ok_some ?_))
    refine ok_mono (play_m (fg := fun tick g => bq (ha_gA X 134 tick) g) hM hT5 hfg) ?_
    rintro ⟨z, N⟩ ⟨z1, z2, z3, z4, z5, z6, z7, z8, z9, z10, z11, z12, z13⟩
    dsimp only at z1 z2 z3 z4 z5 z6 z7 z8 z9 z10 z11 z12 z13 ⊢
    have hli := li_rn (n := n) (fg := fun tick g => bq (ha_gA X 134 tick) g) hm hp T
    generalize rn M m n (fun tick g => bq (ha_gA X 134 tick) g) T = L at *
    refine ⟨by rw [z1]; exact y3.2.2.2.2.2.1, ?_⟩
    have hI8 := hI.2.2.2.2.2.2.2.2.2.2.1
    refine inv_ln hI y1.1 y1.2.1 (fun o k h1 h2 h3 => y1.2.2.1 o k h2 (by omega)) (fun a h => y1.2.2.2 a (by omega) (by omega) (by omega) (by omega)) y2 z2.1 (fun k h1 h2 h3 h4 => z2.2.1 k h1 (by omega) (by omega) (by omega) (by omega) (by omega) h3) (fun a h1 h2 h3 h4 h5 => z2.2.2 a h1 h2 h3) ?_ (I8_c (y1.2.2.1 5 10 (by omega) (by omega)) (y1.2.2.2 188 (by omega) (by omega) (by omega) (by omega)) (y1.2.2.2 189 (by omega) (by omega) (by omega) (by omega)) (z2.2.1 62 (by omega) (by omega) (by omega) (by omega) (by omega) (by omega) (by omega)) (z2.2.2 61 (by omega) (by omega) (by omega)) (z2.2.2 62 (by omega) (by omega) (by omega)) hI8)
    have hw := hli.2.2.2.1
    have eT : (nI T).toInt = T := nI_toInt (by omega)
    have en : (nI n).toInt = n := nI_toInt (by omega)
    have ew : (nI L.2.2.2.2.1).toInt = L.2.2.2.2.1 := nI_toInt (by omega)
    refine ⟨by rw [y5, z7], Or.inr ?_⟩
    rw [z7, z8, z9, eT, en, ew]
    refine ⟨by omega, by omega, y3.1, by omega, by omega, fun i t h1 h2 => ?_, fun t c h1 h2 => ?_, fun t h1 => ?_, y3.2.2.2.2.2.1, by omega, by omega, fun k hk => ?_, by rw [y7, z10], by rw [z11]; exact y3.2.2.2.2.2.2.1, by rw [y6, z12], by rw [z13]; exact y3.2.2.2.2.1⟩
    · rw [y4 i (by omega) t (by omega), z3 i (by omega) t (by omega)]
    · rw [z4 _ (by omega)]; exact y3.2.2.2.1 _ (by omega)
    · rw [z5 _ (by omega)]; exact y3.2.2.1 _ (by omega)
    · rw [z6 _ (by omega)]; exact y3.2.2.2.2.2.2.2 rfl _ (by omega)
