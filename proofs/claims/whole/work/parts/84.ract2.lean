/-! AN ACT, ITS KIND FIRST -/
section RDB
variable {q sz nr no na : Nat} {X M Y N : ha_St} {b : Nat → Int32}
theorem PD_w (w : Int32) (h : PD q nr no na Y N) : PD q nr no na Y (ha_sA N 21 (upd (ha_gA N 21) (120 + na) w)) := by
  obtain ⟨p1, p2, p3, p4, p5, p6, p7, p8, p9, p10, p11, p12, pR, pO, pA⟩ := h
  exact ⟨p1, p2, p3, p4, p5, p6, p7, p8, p9, p10, p11, p12, pR, pO, ACs_c (fun g => g) (fun i hi => by rw [st_AA, if_pos rfl, upd_n _ _ (by omega)]) (fun _ _ => rfl) (fun _ _ => rfl) pA⟩
theorem kin_r {k0 v2 v3 v4 w : Int32} (E : RdEnv q X M b sz) (h5 : F5 q X Y) (h6 : F6 M N) (S : SY b sz Y N) (h : PD q nr no na Y N) (ht : ha_gI Y 3 3 ≠ -2) (hna : na < 40) (ha : acR k0 w) (hs : (k0 = 116 ∧ v3 = 1 ∧ v4 = 0 ∧ w = 6) ∨ (k0 ≠ 116 ∧ v3 = 0 ∧ w ≠ 6 ∧ ((v2 = 0 ∧ v4 = 0) ∨ (v2 = 1 ∧ v4 = 1)))) : Tw (f_X9_readAct_J51 3 k0 v2 Y) (f_X12_readAct_J143 0 v3 v4 (nI (120 + na)) 21 (nI (120 + na)) w N) (RO q X M b sz (fun Y' N' => PD q nr no (na + 1) Y' N')) := by
  have hq : 11 ≤ q ∧ q ≤ 15 := ⟨E.1, E.2.1⟩
  have hIR : ∀ {P : ha_St}, F5 q X P → IR P := fun g => IR_c g.2.1 E.2.2.1
  have hP := h
  obtain ⟨p1, p2, p3, p4, p5, p6, p7, p8, p9, p10, p11, p12, pR, pO, pA⟩ := h
  unfold f_X9_readAct_J51 f_X12_readAct_J143
  refine tw_bl (rf_q E h5) (tw_il (show ha_gI Y q 10 < 40 by rw [p8]; exact nI_lt (b := 40) hna (by omega)) ?_)
  refine tw_gr (by rw [ml_a.2.2.2.2.2.2.1]; exact n_in (by omega) (by omega)) (tw_nr ?_)
  rw [nI_clamp (by omega)]
  have h6P : F6 M (ha_sA N 21 (upd (ha_gA N 21) (120 + na) w)) := F6_u h6 (Or.inr (Or.inr ⟨by omega, by omega, by omega⟩)) _
  have hPP := PD_w w hP
  have wP : ha_gA (ha_sA N 21 (upd (ha_gA N 21) (120 + na) w)) 21 (120 + na) = w := by rw [st_AA, if_pos rfl, upd_s]
  have sPP : SY b sz Y (ha_sA N 21 (upd (ha_gA N 21) (120 + na) w)) := SY_n S (fun _ _ _ => rfl) rfl
  generalize ha_sA N 21 (upd (ha_gA N 21) (120 + na) w) = P at h6P hPP wP sPP ⊢
  obtain ⟨Y1, N1, s1, s2, s3, s4, s5⟩ := sg E h5 h6P sPP ht
  have h51 := F5_3 h5 s3
  have h61 := F6_4 h6P s4
  have hP1 := PD_34 hq.1 s3 s4 hPP
  have w1 : ha_gA N1 21 (120 + na) = w := by rw [s4.2.1]; exact wP
  refine tw_bl s1 (tw_br s2 ?_)
  rcases hs with ⟨rfl, rfl, rfl, rfl⟩ | ⟨c1, rfl, c3, c4⟩
  · refine tw_el (fun g => g rfl) (tw_ir rfl ?_)
    unfold f_X12_readAct_J172 f_X12_readAct_J187
    refine tw_ir ne10 (tw_nr (tw_bl (rf_q E h51) ?_))
    have hP1' := hP1
    obtain ⟨r1, r2, r3, r4, r5, r6, r7, r8, r9, r10, r11, r12, rR, rO, rA⟩ := hP1'
    obtain ⟨A, b1, b2, b3, b4, b5, b6, b7, b8, b9, b10, b11⟩ := addAct_x (l := 116) (m := 0) (r := 0) (Y := Y1) (na := na) (hIR h51) hq r8 hna r10
    refine tw_bl b1 (tw_ss (Or.inl ⟨rfl, rfl, ⟨b3.trans h51.1, b2.trans h51.2.1, fun a ha => (b7 a (by omega)).trans (h51.2.2.1 a ha), fun o k c d => (b11 o k (by omega)).trans (h51.2.2.2 o k c d)⟩, F6_s h61 (by omega) _, SY_y (SY_n s5 (fun k k1 k2 => by rw [st_II, if_neg (by omega)]) rfl) (fun k k1 k2 => b11 3 k (by omega)), ?_⟩))
    refine PD_act (l := 116) (m := 0) (r := 0) hP1 hna (b11 q 8 (by omega)) b8 (b11 q 9 (by omega)) b9 (fun g => (b10 g).1) (b11 3 6 (by omega)) b7 b4 b5 b6 (fun _ _ => rfl) (fun _ _ => rfl) (fun _ _ => rfl) (fun _ _ => rfl) ?_ ?_ ?_ ?_
    · rw [st_II, if_pos ⟨rfl, rfl⟩, r9, nI_1]
    · rw [st_II, if_neg (by omega)]
    · rw [st_II, if_neg (by omega)]
    · rw [st_AI, w1]
      exact ⟨ha, (by unfold vaR; decide), (by unfold vaR; decide), fun g => absurd rfl g⟩
  · refine tw_il c1 ?_
    rcases c4 with ⟨rfl, rfl⟩ | ⟨rfl, rfl⟩
    · exact tw_il rfl (tw_ir rfl (sum_r E h51 h61 s5 hP1 hna (by rw [w1]; exact ha) (by rw [w1]; exact c3)))
    · refine tw_el ne10 (tw_er ne10 (tw_br sp_14 ?_))
      unfold f_X12_readKey
      rw [key_m s5.1 (by omega), pw_bs]
      by_cases d : ha_gI Y1 3 3 = 114
      · rw [if_pos (show ha_gI Y1 3 3 = nI (100 + 14) from d), pw_it (n1p (S := N1))]
        obtain ⟨Y2, N2, t1, t2, t3, t4, t5⟩ := sg E h51 h61 s5 (by rw [d]; decide)
        refine tw_il d (tw_bl t1 ?_)
        dsimp only
        rw [t2, pw_bs, pw_bs]
        have h2 := PD_34 hq.1 t3 t4 hP1
        exact tw_ir ne10 (sum_r E (F5_3 h51 t3) (F6_4 h61 t4) t5 h2 hna (by rw [t4.2.1, w1]; exact ha) (by rw [t4.2.1, w1]; exact c3))
      · rw [if_neg (show ¬ ha_gI Y1 3 3 = nI (100 + 14) from d), pw_ie (n0p (S := N1))]
        refine tw_el d (tw_bl (ref_x 1 Y1) (tw_gl (Or.inl rfl) ?_))
        rw [bad_m, pw_bs, pw_gd (Or.inl rfl), pw_bs]
        exact tw_er (fun g => g rfl) (tw_ss (Or.inr ⟨rfl, rfl, fl_1 h51 h61 hq.1 s5 1 (Or.inl rfl)⟩))
theorem j81_r {k0 v1 v2 v2' v3 v4 w : Int32} (E : RdEnv q X M b sz) (h5 : F5 q X Y) (h6 : F6 M N) (S : SY b sz Y N) (h : PD q nr no na Y N) (ht : 0 ≤ (ha_gI Y 3 3).toInt) (ha : acR k0 w) (hs : (k0 = 116 ∧ v3 = 1 ∧ v4 = 0 ∧ w = 6) ∨ (k0 ≠ 116 ∧ v3 = 0 ∧ w ≠ 6 ∧ ((v2 = 0 ∧ v4 = 0) ∨ (v2 = 1 ∧ v4 = 1)))) (hw : (if v1 = 0 then (if v2' = 0 then (if v3 = 0 then (f_X12_readAct_J143 0 v3 v4 (nI (120 + na)) 21 (nI (120 + na)) ((ha_gJ N 0 13).toInt32 - 1) N) else (f_X12_readAct_J143 0 v3 v4 (nI (120 + na)) 21 (nI (120 + na)) 6 N)) else (f_X12_readAct_J143 0 v3 v4 (nI (120 + na)) 21 (nI (120 + na)) 5 N)) else (f_X12_readAct_J143 0 v3 v4 (nI (120 + na)) 21 (nI (120 + na)) 4 N)) = f_X12_readAct_J143 0 v3 v4 (nI (120 + na)) 21 (nI (120 + na)) w N) : Tw (f_X9_readAct_J51 3 k0 v2 Y) (f_X12_readAct_J81 0 v1 v2' v3 v4 N) (RO q X M b sz (fun Y' N' => PD q nr no (na + 1) Y' N')) := by
  have hq : 11 ≤ q ∧ q ≤ 15 := ⟨E.1, E.2.1⟩
  have hIM : IM N := IM_c h6.1 E.2.2.2.2.2.2.2.2.2.1
  have hP := h
  obtain ⟨p1, p2, p3, p4, p5, p6, p7, p8, p9, p10, p11, p12, pR, pO, pA⟩ := h
  unfold f_X12_readAct_J81
  by_cases hna : na < 40
  · refine tw_ir (show ¬ ha_gI N 0 24 = 40 by rw [p9]; exact fun g => by have := (nIeq (b := 40) (by omega) (by omega)).mp g; omega) (tw_nr ?_)
    have x14 : (120 : Int32) + ha_gI N 0 24 = nI (120 + na) := by rw [p9]; exact nI_add 120 na
    rw [x14]
    refine tw_br (mr hIM 20 100) ?_
    rw [hw]
    exact kin_r E h5 h6 S hP (tk_n2 ht) hna ha hs
  · have e40 : na = 40 := by omega
    subst e40
    unfold f_X9_readAct_J51
    refine tw_bl (rf_q E h5) (tw_el (show ¬ ha_gI Y q 10 < 40 by rw [p8]; exact nI_nlt (b := 40) (by omega) (by omega)) (tw_bl (ref_x 2 Y) (tw_gl (Or.inl rfl) ?_)))
    exact tw_er (fun g => g p9) (tw_br (bad_m 2 N) (tw_gr (Or.inl rfl) (tw_ss (Or.inr ⟨rfl, rfl, fl_1 h5 h6 hq.1 S 2 (Or.inr (tk_k1 S.1 ht))⟩))))
/-- a cell's token: the model's word -/
theorem cel_v {tok : Int32} {sz : Nat} {N : ha_St} (h : TKR tok sz N) (hr : 106 ≤ tok.toInt ∧ tok.toInt ≤ 109) : acR tok ((ha_gJ N 0 13).toInt32 - 1) ∧ (ha_gJ N 0 13).toInt32 - 1 ≠ 6 := by
  rcases h with ⟨h, g⟩ | ⟨h, g⟩ | ⟨v, h1, h2, h3, h4⟩ | ⟨s, h1, h2, h3, h4⟩ | ⟨s, h1, h2, h3, h4⟩
  · exact absurd hr (by rw [h]; decide)
  · exact absurd hr (by rw [h]; decide)
  · rw [h2, nI_toInt (by omega)] at hr; omega
  · rw [h2, nI_toInt (by omega)] at hr
    rw [h4, (wk_nm s h1 (by omega) (by omega)).2, h2]
    unfold acR
    rcases (show s = 6 ∨ s = 7 ∨ s = 8 ∨ s = 9 by omega) with rfl | rfl | rfl | rfl <;> decide
  · rw [h2, nI_toInt (by omega)] at hr; omega
theorem act_r (E : RdEnv q X M b sz) (h5 : F5 q X Y) (h6 : F6 M N) (S : SY b sz Y N) (h : PD q nr no na Y N) : Tw (f_X9_readAct 3 Y) (f_X12_readAct 0 N) (RO q X M b sz (fun Y' N' => PD q nr no (na + 1) Y' N')) := by
  have hq : 11 ≤ q ∧ q ≤ 15 := ⟨E.1, E.2.1⟩
  have z106 : (106 : Int32).toInt = 106 := rfl
  have z109 : (109 : Int32).toInt = 109 := rfl
  have z113 : (113 : Int32).toInt = 113 := rfl
  have z115 : (115 : Int32).toInt = 115 := rfl
  have z116 : (116 : Int32).toInt = 116 := rfl
  unfold f_X9_readAct f_X12_readAct f_X9_readAct_J21 f_X9_readAct_J22
  rw [pw_nm]
  refine tw_br sp_13 (tw_br (key_m S.1 (by omega)) (tw_br sp_15 (tw_br (key_m S.1 (by omega)) (tw_br sp_16 (tw_br (key_m S.1 (by omega)) (tw_br (cel_m S.1) ?_))))))
  dsimp only
  generalize ht : ha_gI Y 3 3 = tok
  have n113 : tok = nI (100 + 13) ↔ tok.toInt = 113 := by rw [i_eq, nI_toInt (by omega)]; omega
  have n115 : tok = nI (100 + 15) ↔ tok.toInt = 115 := by rw [i_eq, nI_toInt (by omega)]; omega
  have n116 : tok = nI (100 + 16) ↔ tok.toInt = 116 := by rw [i_eq, nI_toInt (by omega)]; omega
  by_cases c : 106 ≤ tok.toInt ∧ tok.toInt ≤ 109
  · rw [if_neg (show ¬ tok = nI (100 + 13) by rw [n113]; omega), if_neg (show ¬ tok = nI (100 + 15) by rw [n115]; omega), if_neg (show ¬ tok = nI (100 + 16) by rw [n116]; omega), if_pos c]
    refine tw_el (show ¬ tok < 106 by rw [i_lt, z106]; omega) (tw_el (show ¬ (109 : Int32) < tok by rw [i_lt, z109]; omega) (tw_il ne10 ?_))
    refine tw_er (fun g => g rfl) (tw_er (fun g => g rfl) (tw_er (fun g => g rfl) (tw_ir ne10 ?_)))
    have cv := cel_v S.1 (by rw [ht]; exact c)
    rw [ht] at cv
    refine j81_r E h5 h6 S h (by rw [ht]; omega) cv.1 (Or.inr ⟨?_, rfl, cv.2, Or.inr ⟨rfl, rfl⟩⟩) ?_
    · rw [ne_eq, i_eq, z116]; omega
    · rw [pw_it rfl, pw_it rfl, pw_it rfl]
  · rw [if_neg c]
    have left : ∀ (u : Option (Int32 × ha_St)) {w : Option (Int32 × ha_St)} {R : Int32 × ha_St → Int32 × ha_St → Prop}, Tw (if tok = 113 then f_X9_readAct_J51 3 tok 0 Y else if tok = 115 then f_X9_readAct_J51 3 tok 0 Y else if tok = 116 then f_X9_readAct_J51 3 tok 0 Y else (f_X9_refuse 3 1 Y).bind fun z34 => ha_gd ((z34.1 : Int32) = 0 ∨ (z34.1 : Int32) = 1) <| some (z34.1, z34.2)) w R → Tw (if tok < 106 then (if ¬ (0 : Int32) = 0 then f_X9_readAct_J51 3 tok 0 Y else if tok = 113 then f_X9_readAct_J51 3 tok 0 Y else if tok = 115 then f_X9_readAct_J51 3 tok 0 Y else if tok = 116 then f_X9_readAct_J51 3 tok 0 Y else (f_X9_refuse 3 1 Y).bind fun z34 => ha_gd ((z34.1 : Int32) = 0 ∨ (z34.1 : Int32) = 1) <| some (z34.1, z34.2)) else if 109 < tok then (if ¬ (0 : Int32) = 0 then f_X9_readAct_J51 3 tok 0 Y else if tok = 113 then f_X9_readAct_J51 3 tok 0 Y else if tok = 115 then f_X9_readAct_J51 3 tok 0 Y else if tok = 116 then f_X9_readAct_J51 3 tok 0 Y else (f_X9_refuse 3 1 Y).bind fun z34 => ha_gd ((z34.1 : Int32) = 0 ∨ (z34.1 : Int32) = 1) <| some (z34.1, z34.2)) else u) w R := by
      intro u w R hh
      by_cases d : tok < 106
      · exact tw_il d (tw_el (fun g => g rfl) hh)
      · rw [i_lt, z106] at d
        exact tw_el (by rw [i_lt, z106]; exact d) (tw_il (show (109 : Int32) < tok by rw [i_lt, z109]; omega) (tw_el (fun g => g rfl) hh))
    refine left _ ?_
    by_cases c1 : tok.toInt = 113
    · rw [if_pos (n113.mpr c1), if_neg (show ¬ tok = nI (100 + 15) by rw [n115]; omega), if_neg (show ¬ tok = nI (100 + 16) by rw [n116]; omega)]
      refine tw_il (n113.mpr c1) (tw_ir ne10 ?_)
      refine j81_r (w := 4) E h5 h6 S h (by rw [ht]; omega) (Or.inl ⟨n113.mpr c1, rfl⟩) (Or.inr ⟨?_, rfl, by decide, Or.inl ⟨rfl, rfl⟩⟩) ?_
      · rw [ne_eq, i_eq, z116]; omega
      · rw [pw_ie (by decide)]
    · rw [if_neg (show ¬ tok = nI (100 + 13) by rw [n113]; exact c1)]
      refine tw_el (show ¬ tok = 113 by rw [i_eq, z113]; exact c1) (tw_er (fun g => g rfl) ?_)
      by_cases c2 : tok.toInt = 115
      · rw [if_pos (n115.mpr c2), if_neg (show ¬ tok = nI (100 + 16) by rw [n116]; omega)]
        refine tw_il (n115.mpr c2) (tw_ir ne10 ?_)
        refine j81_r (w := 5) E h5 h6 S h (by rw [ht]; omega) (Or.inr (Or.inl ⟨n115.mpr c2, rfl⟩)) (Or.inr ⟨?_, rfl, by decide, Or.inl ⟨rfl, rfl⟩⟩) ?_
        · rw [ne_eq, i_eq, z116]; omega
        · rw [pw_it rfl, pw_ie (by decide)]
      · rw [if_neg (show ¬ tok = nI (100 + 15) by rw [n115]; exact c2)]
        refine tw_el (show ¬ tok = 115 by rw [i_eq, z115]; exact c2) (tw_er (fun g => g rfl) ?_)
        by_cases c3 : tok.toInt = 116
        · rw [if_pos (n116.mpr c3)]
          refine tw_il (n116.mpr c3) (tw_ir ne10 ?_)
          refine j81_r (w := 6) E h5 h6 S h (by rw [ht]; omega) (Or.inr (Or.inr (Or.inl ⟨n116.mpr c3, rfl⟩))) (Or.inl ⟨n116.mpr c3, rfl, rfl, rfl⟩) ?_
          rw [pw_it rfl, pw_it rfl, pw_ie (by decide)]
        · rw [if_neg (show ¬ tok = nI (100 + 16) by rw [n116]; exact c3)]
          refine tw_el (show ¬ tok = 116 by rw [i_eq, z116]; exact c3) (tw_er (fun g => g rfl) (tw_er (fun g => g rfl) ?_))
          exact tw_bl (ref_x 1 Y) (tw_gl (Or.inl rfl) (tw_br (bad_m 1 N) (tw_gr (Or.inl rfl) (tw_ss (Or.inr ⟨rfl, rfl, fl_1 h5 h6 hq.1 S 1 (Or.inl rfl)⟩)))))
end RDB
