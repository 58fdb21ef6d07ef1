/-! ONE ACT READ -/
theorem n1p {S : ha_St} : ¬ ((1, S) : Int32 × ha_St).1 = 0 := ne10
theorem n0p {S : ha_St} : ¬ ¬ ((0, S) : Int32 × ha_St).1 = 0 := fun g => g rfl
section RDA
variable {q sz nr no na : Nat} {X M Y N : ha_St} {b : Nat → Int32}
theorem addAct_x {l m r : Int32} (hI : IR Y) (hq : 11 ≤ q ∧ q ≤ 15) (h9 : ha_gI Y q 10 = nI na) (hno : na < 40) (h11 : ha_gI Y q 11 = 0 ∨ ha_gI Y q 11 = 1) : ∃ A, f_X8_addAct q l m r Y = some A ∧ ha_gR A = ha_gR Y ∧ ha_gB A = ha_gB Y ∧ ha_gA A (105 + 16 * q) = upd (ha_gA Y (105 + 16 * q)) na l ∧ ha_gA A (106 + 16 * q) = upd (ha_gA Y (106 + 16 * q)) na m ∧ ha_gA A (107 + 16 * q) = upd (ha_gA Y (107 + 16 * q)) na r ∧ (∀ a, ¬ (105 + 16 * q ≤ a ∧ a ≤ 107 + 16 * q) → ha_gA A a = ha_gA Y a) ∧ ha_gI A q 10 = nI (na + 1) ∧ (ha_gI A q 11 = 0 ∨ ha_gI A q 11 = 1) ∧ (ha_gI A q 11 = 0 → ha_gI Y q 11 = 0 ∧ m ≠ 103 ∧ r ≠ 103) ∧ ∀ o k, ¬ (o = q ∧ (k = 10 ∨ k = 11)) → ha_gI A o k = ha_gI Y o k := by
  have l2 : xo_ln (105 + 16 * q) = 40 := by have := pgl hq.1 hq.2 5 (by omega); rw [show 100 + 16 * q + 5 = 105 + 16 * q by omega, if_neg (by omega)] at this; exact this
  have l3 : xo_ln (106 + 16 * q) = 40 := by have := pgl hq.1 hq.2 6 (by omega); rw [show 100 + 16 * q + 6 = 106 + 16 * q by omega, if_neg (by omega)] at this; exact this
  have l4 : xo_ln (107 + 16 * q) = 40 := by have := pgl hq.1 hq.2 7 (by omega); rw [show 100 + 16 * q + 7 = 107 + 16 * q by omega, if_neg (by omega)] at this; exact this
  have r2 : ha_rf xo_kd Y q 5 100 = some (105 + 16 * q) := by rw [pgr hI hq.1 hq.2 5 (by omega)]; congr 1; omega
  have r3 : ha_rf xo_kd Y q 6 100 = some (106 + 16 * q) := by rw [pgr hI hq.1 hq.2 6 (by omega)]; congr 1; omega
  have r4 : ha_rf xo_kd Y q 7 100 = some (107 + 16 * q) := by rw [pgr hI hq.1 hq.2 7 (by omega)]; congr 1; omega
  have gd : ∀ n, n = 40 → ¬ (nI na < 0 ∨ n ≤ (nI na).toNatClampNeg) := fun n hn => by rw [hn]; exact n_in hno (by omega)
  have fin : ∀ t : Int32, (t = 0 ∨ t = 1) → (t = 0 → m ≠ 103 ∧ r ≠ 103) → ∃ A, f_X8_addAct_J71 q l m r q (ha_gI Y q 11) t (ha_sI (ha_sA (ha_sA (ha_sA Y (105 + 16 * q) (upd (ha_gA Y (105 + 16 * q)) na l)) (106 + 16 * q) (upd (ha_gA Y (106 + 16 * q)) na m)) (107 + 16 * q) (upd (ha_gA Y (107 + 16 * q)) na r)) q 10 (nI na + 1)) = some A ∧ ha_gR A = ha_gR Y ∧ ha_gB A = ha_gB Y ∧ ha_gA A (105 + 16 * q) = upd (ha_gA Y (105 + 16 * q)) na l ∧ ha_gA A (106 + 16 * q) = upd (ha_gA Y (106 + 16 * q)) na m ∧ ha_gA A (107 + 16 * q) = upd (ha_gA Y (107 + 16 * q)) na r ∧ (∀ a, ¬ (105 + 16 * q ≤ a ∧ a ≤ 107 + 16 * q) → ha_gA A a = ha_gA Y a) ∧ ha_gI A q 10 = nI (na + 1) ∧ (ha_gI A q 11 = 0 ∨ ha_gI A q 11 = 1) ∧ (ha_gI A q 11 = 0 → ha_gI Y q 11 = 0 ∧ m ≠ 103 ∧ r ≠ 103) ∧ ∀ o k, ¬ (o = q ∧ (k = 10 ∨ k = 11)) → ha_gI A o k = ha_gI Y o k := by
    intro t ht1 ht2
    have ho := or01 h11 ht1
    unfold f_X8_addAct_J71 f_X8_addAct_J75
    rw [pw_gd ho.1, pw_nm]
    refine ⟨_, rfl, rfl, rfl, ?_, ?_, ?_, fun a ha => ?_, ?_, ?_, ?_, fun o k hk => ?_⟩
    · rw [st_AI, st_AI, st_AA, if_neg (by omega), st_AA, if_neg (by omega), st_AA, if_pos rfl]
    · rw [st_AI, st_AI, st_AA, if_neg (by omega), st_AA, if_pos rfl]
    · rw [st_AI, st_AI, st_AA, if_pos rfl]
    · rw [st_AI, st_AI, st_AA, if_neg (by omega), st_AA, if_neg (by omega), st_AA, if_neg (by omega)]
    · rw [st_II, if_neg (by omega), st_II, if_pos ⟨rfl, rfl⟩, nI_1]
    · rw [st_II, if_pos ⟨rfl, rfl⟩]; exact ho.1
    · rw [st_II, if_pos ⟨rfl, rfl⟩]; exact fun g => ⟨(ho.2 g).1, ht2 (ho.2 g).2⟩
    · rw [st_II, if_neg (by omega), st_II, if_neg (by omega)]; rfl
  unfold f_X8_addAct f_X8_addAct_J66
  rw [h9, pw_ie (show ¬ (40 : Int32) ≤ nI na from (nI_ge hno (by omega) : ¬ nI 40 ≤ nI na)), r2, pw_bs, pw_gd (gd _ l2), pw_nm, nI_clamp (by omega), st_fA, r3, pw_bs, st_IA, h9, pw_gd (gd _ l3), pw_nm, st_fA, st_fA, r4, pw_bs, st_IA, st_IA, h9, pw_gd (gd _ l4), pw_nm, nI_clamp (by omega), st_AA, if_neg (by omega), st_AA, if_neg (by omega), st_AA, if_neg (by omega), pw_nm, st_IA, st_IA, st_IA, h9, st_II, if_neg (show ¬ (q = q ∧ 11 = 10) by omega), st_IA, st_IA, st_IA]
  by_cases c : m = 103
  · rw [pw_it c]
    exact fin 1 (Or.inr rfl) (fun g => absurd g (by decide))
  · rw [pw_ie c]
    by_cases d : r = 103
    · rw [pw_ie (fun g => g d)]
      exact fin 1 (Or.inr rfl) (fun g => absurd g (by decide))
    · rw [pw_it d]
      exact fin 0 (Or.inl rfl) (fun _ => ⟨c, d⟩)
theorem PD_act {Y' N' : ha_St} {l m r : Int32} (h : PD q nr no na Y N) (hna : na < 40) (y8 : ha_gI Y' q 8 = ha_gI Y q 8) (y9 : ha_gI Y' q 10 = nI (na + 1)) (y10 : ha_gI Y' q 9 = ha_gI Y q 9) (y11 : ha_gI Y' q 11 = 0 ∨ ha_gI Y' q 11 = 1) (yt : ha_gI Y' q 11 = 0 → ha_gI Y q 11 = 0) (y6 : ha_gI Y' 3 6 = ha_gI Y 3 6) (c0 : ∀ a, ¬ (105 + 16 * q ≤ a ∧ a ≤ 107 + 16 * q) → ha_gA Y' a = ha_gA Y a) (c2 : ha_gA Y' (105 + 16 * q) = upd (ha_gA Y (105 + 16 * q)) na l) (c3 : ha_gA Y' (106 + 16 * q) = upd (ha_gA Y (106 + 16 * q)) na m) (c4 : ha_gA Y' (107 + 16 * q) = upd (ha_gA Y (107 + 16 * q)) na r) (n0 : ∀ a, ¬ (21 ≤ a ∧ a ≤ 23) → ha_gA N' a = ha_gA N a) (n18 : ∀ i, i < na → ha_gA N' 21 (120 + i) = ha_gA N 21 (120 + i)) (n19 : ∀ i, i < na → ha_gA N' 22 (120 + i) = ha_gA N 22 (120 + i)) (n20 : ∀ i, i < na → ha_gA N' 23 (120 + i) = ha_gA N 23 (120 + i)) (k24 : ha_gI N' 0 24 = nI (na + 1)) (k23 : ha_gI N' 0 23 = ha_gI N 0 23) (k11 : ha_gI N' 0 11 = ha_gI N 0 11) (hv : AC1 (ha_gI Y' q 11) l m r (ha_gA N' 21 (120 + na)) (ha_gA N' 22 (120 + na)) (ha_gA N' 23 (120 + na))) : PD q nr no (na + 1) Y' N' := by
  obtain ⟨p1, p2, p3, p4, p5, p6, p7, p8, p9, p10, p11, p12, pR, pO, pA⟩ := h
  refine ⟨p1, p2, by omega, y8.trans p4, by rw [n0 15 (by omega)]; exact p5, y10.trans p6, k23.trans p7, y9, k24, y11, y6.trans p11, k11.trans p12, ?_, ?_, ?_⟩
  · rw [c0 _ (by omega), c0 _ (by omega), n0 16 (by omega), n0 17 (by omega)]
    exact RUs_m (Nat.le_refl _) (by omega) pR
  · rw [c0 _ (by omega), c0 _ (by omega), c0 _ (by omega), n0 18 (by omega), n0 19 (by omega), n0 20 (by omega)]
    exact ONs_c yt (fun _ _ => rfl) (fun _ _ => rfl) (fun _ _ => rfl) pO
  · intro i hi
    rw [c2, c3, c4]
    by_cases e : i = na
    · subst e
      rw [upd_s, upd_s, upd_s]
      exact hv
    · rw [upd_n _ _ e, upd_n _ _ e, upd_n _ _ e]
      have o := pA i (by omega)
      rw [n18 i (by omega), n19 i (by omega), n20 i (by omega)]
      exact ⟨o.1, o.2.1, o.2.2.1, fun g => ⟨(o.2.2.2 g).1, (o.2.2.2 g).2.1, (o.2.2.2 g).2.2.1, fun g2 => (o.2.2.2 g).2.2.2 (yt g2)⟩⟩
/-- the sum of an act, and the act's end -/
theorem sum_r {k0 : Int32} (E : RdEnv q X M b sz) (h5 : F5 q X Y) (h6 : F6 M N) (S : SY b sz Y N) (h : PD q nr no na Y N) (hna : na < 40) (ha : acR k0 (ha_gA N 21 (120 + na))) (h6n : ha_gA N 21 (120 + na) ≠ 6) : Tw (f_X9_readAct_J114 3 k0 Y) (f_X12_readAct_J172 0 0 (nI (120 + na)) N) (RO q X M b sz (fun Y' N' => PD q nr no (na + 1) Y' N')) := by
  have hq : 11 ≤ q ∧ q ≤ 15 := ⟨E.1, E.2.1⟩
  have hIM : ∀ {P : ha_St}, F6 M P → IM P := fun g => IM_c g.1 E.2.2.2.2.2.2.2.2.2.1
  have hIR : ∀ {P : ha_St}, F5 q X P → IR P := fun g => IR_c g.2.1 E.2.2.1
  have hP := h
  obtain ⟨p1, p2, p3, p4, p5, p6, p7, p8, p9, p10, p11, p12, pR, pO, pA⟩ := h
  have v0 : vl 0 := by unfold vl; decide
  unfold f_X9_readAct_J114 f_X12_readAct_J172 f_X12_readSum
  refine tw_er (fun g => g rfl) ?_
  obtain ⟨⟨zv, Z⟩, e1, e2, e3⟩ := vlx_r Y
  dsimp only at e2 e3
  subst e2
  refine tw_bl e1 ?_
  rcases e3 with ⟨rfl, hv⟩ | ⟨rfl, hv⟩
  · refine tw_il ne10 (tw_nl ?_)
    obtain ⟨Y1, N1, s1, s2, s3, s4, s5⟩ := sg E h5 (F6_s h6 (k := 25) (by omega) (ha_gI Z 3 3)) (SY_n S (fun k k1 k2 => by rw [st_II, if_neg (by omega)]) rfl) (tk_n2 hv.1)
    have rv : f_X12_readValue 0 N = some (1, N1) := by rw [rv_ok S.1 hv, s2]; rfl
    have h51 := F5_3 h5 s3
    have h61 := F6_4 (F6_s h6 (k := 25) (by omega) (ha_gI Z 3 3)) s4
    have n25 : ha_gI N1 0 25 = ha_gI Z 3 3 := (s4.2.2 25 (by omega)).trans (by rw [st_II, if_pos ⟨rfl, rfl⟩])
    have a1 : ha_gA N1 = ha_gA N := s4.2.1
    have g1 : ∀ k, k ≠ 25 → ¬ (6 ≤ k ∧ k ≤ 10) → ha_gI N1 0 k = ha_gI N 0 k := fun k k1 k2 => by rw [s4.2.2 k k2, st_II, if_neg (by omega)]
    rw [rv, pw_bs, pw_it (n1p (S := N1))]
    dsimp only
    rw [mr (hIM h61) 21 100, pw_bs, pw_gd (by rw [ml_a.2.2.2.2.2.2.2.1]; exact n_in (by omega) (by omega)), pw_nm, n25, nI_clamp (by omega)]
    generalize hP1 : ha_sA N1 22 (upd (ha_gA N1 22) (120 + na) (ha_gI Z 3 3)) = P1
    have h6P : F6 M P1 := by rw [← hP1]; exact F6_u h61 (Or.inr (Or.inr ⟨by omega, by omega, by omega⟩)) _
    have sP : SY b sz Y1 P1 := by rw [← hP1]; exact SY_n s5 (fun _ _ _ => rfl) rfl
    have i1 : ∀ k, ha_gI P1 0 k = ha_gI N1 0 k := fun k => by rw [← hP1]; rfl
    have i2 : ha_gA P1 22 = upd (ha_gA N 22) (120 + na) (ha_gI Z 3 3) := by rw [← hP1, st_AA, if_pos rfl, a1]
    have i3 : ∀ a, a ≠ 22 → ha_gA P1 a = ha_gA N a := fun a ha => by rw [← hP1, st_AA, if_neg ha, a1]
    rw [mr (hIM h6P) 22 100, pw_bs, pw_gd (by rw [ml_a.2.2.2.2.2.2.2.2]; exact n_in2 (by omega) (by omega)), pw_nm]
    generalize hP2 : ha_sA P1 23 (upd (ha_gA P1 23) (120 + na) (-1)) = P2
    have h6Q : F6 M P2 := by rw [← hP2]; exact F6_u h6P (Or.inr (Or.inr ⟨by omega, by omega, by omega⟩)) _
    have sQ : SY b sz Y1 P2 := by rw [← hP2]; exact SY_n sP (fun _ _ _ => rfl) rfl
    have j1 : ∀ k, ha_gI P2 0 k = ha_gI N1 0 k := fun k => by rw [← hP2]; exact i1 k
    have j2 : ha_gA P2 22 = upd (ha_gA N 22) (120 + na) (ha_gI Z 3 3) := by rw [← hP2, st_AA, if_neg (by omega)]; exact i2
    have j3 : ha_gA P2 23 = upd (ha_gA N 23) (120 + na) (-1) := by rw [← hP2, st_AA, if_pos rfl, i3 23 (by omega)]
    have j4 : ∀ a, a ≠ 22 → a ≠ 23 → ha_gA P2 a = ha_gA N a := fun a ha hb => by rw [← hP2, st_AA, if_neg hb]; exact i3 a ha
    -- the end: what was read is put down
    have fin : ∀ (Y' N' : ha_St) (f : Int32), F5 q X Y' → F6 M N' → SY b sz Y' N' → (∀ k, 8 ≤ k → k ≤ 11 → ha_gI Y' q k = ha_gI Z q k) → ha_gI Y' 3 6 = ha_gI Z 3 6 → ha_gA Y' = ha_gA Z → vl f → (∀ a, ¬ (22 ≤ a ∧ a ≤ 23) → ha_gA N' a = ha_gA N a) → ha_gA N' 22 = upd (ha_gA N 22) (120 + na) (ha_gI Z 3 3) → (∀ i, i < na → ha_gA N' 23 (120 + i) = ha_gA N 23 (120 + i)) → ((ha_gA N' 23 (120 + na) = -1 ∧ f = 0) ∨ ha_gA N' 23 (120 + na) = f) → (∀ k, k = 11 ∨ k = 23 ∨ k = 24 → ha_gI N' 0 k = ha_gI N 0 k) → Tw (f_X9_readAct_J175 3 k0 (ha_gI Z 3 3) f Y') (f_X12_readAct_J187 0 N') (RO q X M b sz (fun Y' N' => PD q nr no (na + 1) Y' N')) := by
      intro Y' N' f f5 f6 fS fk f36 fA hf fN f22 f23 fv fk2
      unfold f_X9_readAct_J175 f_X12_readAct_J187
      obtain ⟨A, b1, b2, b3, b4, b5, b6, b7, b8, b9, b10, b11⟩ := addAct_x (l := k0) (m := ha_gI Z 3 3) (r := f) (Y := Y') (na := na) (hIR f5) hq (by rw [fk 10 (by omega) (by omega)]; exact p8) hna (by rw [fk 11 (by omega) (by omega)]; exact p10)
      refine tw_bl (rf_q E f5) (tw_bl b1 (tw_nr (tw_ss (Or.inl ⟨rfl, rfl, ?_, F6_s f6 (by omega) _, ?_, ?_⟩))))
      · exact ⟨b3.trans f5.1, b2.trans f5.2.1, fun a ha => (b7 a (by omega)).trans (f5.2.2.1 a ha), fun o k c d => (b11 o k (by omega)).trans (f5.2.2.2 o k c d)⟩
      · exact SY_y (SY_n fS (fun k k1 k2 => by rw [st_II, if_neg (by omega)]) rfl) (fun k k1 k2 => b11 3 k (by omega))
      · refine PD_act (l := k0) (m := ha_gI Z 3 3) (r := f) hP hna ?_ b8 ?_ b9 ?_ ?_ ?_ ?_ ?_ ?_ ?_ ?_ ?_ ?_ ?_ ?_ ?_ ?_
        · rw [b11 q 8 (by omega)]; exact fk 8 (by omega) (by omega)
        · rw [b11 q 9 (by omega)]; exact fk 9 (by omega) (by omega)
        · rw [← fk 11 (by omega) (by omega)]; exact fun g => (b10 g).1
        · rw [b11 3 6 (by omega)]; exact f36
        · intro a ha
          rw [b7 a ha, fA]
        · rw [b4, fA]
        · rw [b5, fA]
        · rw [b6, fA]
        · intro a ha
          exact fN a (by omega)
        · intro i hi
          rw [st_AI, fN 21 (by omega)]
        · intro i hi
          rw [st_AI, f22, upd_n _ _ (by omega)]
        · intro i hi
          rw [st_AI]; exact f23 i hi
        · rw [st_II, if_pos ⟨rfl, rfl⟩, fk2 24 (by omega), p9, nI_1]
        · rw [st_II, if_neg (by omega)]; exact fk2 23 (by omega)
        · rw [st_II, if_neg (by omega)]; exact fk2 11 (by omega)
        · rw [st_AI, st_AI, st_AI, fN 21 (by omega), f22, upd_s]
          refine ⟨ha, hv, hf, fun _ => ⟨rfl, hv, ?_, fun g => ⟨(b10 g).2.1, ?_⟩⟩⟩
          · rcases fv with ⟨v1, v2⟩ | v1
            · exact Or.inl ⟨v1, v2⟩
            · exact Or.inr ⟨v1.symm, by rw [v1]; exact hf⟩
          · rcases fv with ⟨v1, v2⟩ | v1
            · rw [v1]; decide
            · rw [v1]; exact (b10 g).2.2
    refine tw_bl s1 ?_
    rw [sg_43 sQ.1, pw_bs]
    by_cases c : ha_gI Y1 3 3 = 119
    · rw [if_pos c, pw_it (n1p (S := P2))]
      refine tw_el (fun g => g c) ?_
      obtain ⟨Y2, N2, t1, t2, t3, t4, t5⟩ := sg E h51 h6Q sQ (by rw [c]; decide)
      have h52 := F5_3 h51 t3
      have h62 := F6_4 h6Q t4
      refine tw_bl t1 ?_
      dsimp only
      rw [t2, pw_bs]
      obtain ⟨⟨yv, Z2⟩, f1, f2, f3⟩ := vlx_r Y2
      dsimp only at f2 f3
      subst f2
      refine tw_bl f1 ?_
      rcases f3 with ⟨rfl, hv2⟩ | ⟨rfl, hv2⟩
      · refine tw_il ne10 (tw_nl ?_)
        obtain ⟨Y3, N3, u1, u2, u3, u4, u5⟩ := sg E h52 (F6_s h62 (k := 25) (by omega) (ha_gI Z2 3 3)) (SY_n t5 (fun k k1 k2 => by rw [st_II, if_neg (by omega)]) rfl) (tk_n2 hv2.1)
        have rv2 : f_X12_readValue 0 N2 = some (1, N3) := by rw [rv_ok t5.1 hv2, u2]; rfl
        have h63 := F6_4 (F6_s h62 (k := 25) (by omega) (ha_gI Z2 3 3)) u4
        have m25 : ha_gI N3 0 25 = ha_gI Z2 3 3 := (u4.2.2 25 (by omega)).trans (by rw [st_II, if_pos ⟨rfl, rfl⟩])
        have a3 : ha_gA N3 = ha_gA P2 := u4.2.1.trans (show ha_gA N2 = ha_gA P2 from t4.2.1)
        rw [rv2, pw_bs, pw_it (n1p (S := N3))]
        dsimp only
        rw [mr (hIM h63) 22 100, pw_bs, pw_gd (by rw [ml_a.2.2.2.2.2.2.2.2]; exact n_in2 (by omega) (by omega)), pw_nm, m25]
        refine tw_bl u1 (tw_br rfl (tw_ir ne10 ?_))
        refine fin Y3 _ (ha_gI Z2 3 3) (F5_3 h52 u3) (F6_u h63 (Or.inr (Or.inr ⟨by omega, by omega, by omega⟩)) _) (SY_n u5 (fun _ _ _ => rfl) rfl) (fun k k1 k2 => ?_) ?_ ?_ hv2 (fun a ha => ?_) ?_ (fun i hi => ?_) (Or.inr ?_) (fun k hk => ?_)
        · rw [u3.2.2.2 q k (by omega), t3.2.2.2 q k (by omega), s3.2.2.2 q k (by omega)]
        · rw [u3.2.2.2 3 6 (by omega), t3.2.2.2 3 6 (by omega), s3.2.2.2 3 6 (by omega)]
        · rw [u3.2.2.1, t3.2.2.1, s3.2.2.1]
        · rw [st_AA, if_neg (by omega), a3, j4 a (by omega) (by omega)]
        · rw [st_AA, if_neg (by omega), a3, j2]
        · rw [st_AA, if_pos rfl, upd_n _ _ (by omega), a3, j3, upd_n _ _ (by omega)]
        · rw [st_AA, if_pos rfl, upd_s]
        · rw [st_IA, u4.2.2 k (by omega), st_II, if_neg (by omega), t4.2.2 k (by omega), j1 k, g1 k (by omega) (by omega)]
      · refine tw_el (fun g => g rfl) (tw_bl (ref_x 1 Z2) (tw_gl (Or.inl rfl) ?_))
        rw [rv_no t5.1 hv2, pw_bs, pw_ie (fun g => g rfl), pw_bs, pw_ie (fun g => g rfl)]
        exact tw_ss (Or.inr ⟨rfl, rfl, fl_1 h52 h62 hq.1 t5 1 (Or.inl rfl)⟩)
    · rw [if_neg c, pw_ie (n0p (S := P2)), pw_bs, pw_it (n1p (S := P2))]
      refine tw_il c ?_
      refine fin Y1 P2 0 h51 h6Q sQ (fun k k1 k2 => s3.2.2.2 q k (by omega)) (s3.2.2.2 3 6 (by omega)) s3.2.2.1 v0 (fun a ha => j4 a (by omega) (by omega)) j2 (fun i hi => ?_) (Or.inl ⟨?_, rfl⟩) (fun k hk => ?_)
      · rw [j3, upd_n _ _ (by omega)]
      · rw [j3, upd_s]
      · rw [j1 k, g1 k (by omega) (by omega)]
  · refine tw_el (fun g => g rfl) (tw_bl (ref_x 1 Z) (tw_gl (Or.inl rfl) ?_))
    rw [rv_no S.1 hv, pw_bs, pw_ie (fun g => g rfl), pw_bs, pw_ie (fun g => g rfl)]
    exact tw_ss (Or.inr ⟨rfl, rfl, fl_1 h5 h6 hq.1 S 1 (Or.inl rfl)⟩)
end RDA
