/-! ONE CONDITION READ -/
theorem tw_nl {α β γ : Type} {R : α → β → Prop} {e : γ} {k : γ → Option α} {w : Option β} (g : Tw (k e) w R) : Tw (ha_nm e k) w R := g
theorem tw_nr {α β γ : Type} {R : α → β → Prop} {e : γ} {k : γ → Option β} {w : Option α} (g : Tw w (k e) R) : Tw w (ha_nm e k) R := g
theorem sg_60 {tok : Int32} {sz : Nat} {N : ha_St} (h : TKR tok sz N) : f_X12_isSign 0 60 N = some (if tok = 120 then 1 else 0, N) := by
  have := sgn_m h (s := 3) (by omega)
  rw [show xo_by 0 3 = 60 by decide +kernel] at this
  exact this
theorem sg_61 {tok : Int32} {sz : Nat} {N : ha_St} (h : TKR tok sz N) : f_X12_isSign 0 61 N = some (if tok = 121 then 1 else 0, N) := by
  have := sgn_m h (s := 4) (by omega)
  rw [show xo_by 0 4 = 61 by decide +kernel] at this
  exact this
theorem sg_62 {tok : Int32} {sz : Nat} {N : ha_St} (h : TKR tok sz N) : f_X12_isSign 0 62 N = some (if tok = 122 then 1 else 0, N) := by
  have := sgn_m h (s := 5) (by omega)
  rw [show xo_by 0 5 = 62 by decide +kernel] at this
  exact this
theorem sg_35 {tok : Int32} {sz : Nat} {N : ha_St} (h : TKR tok sz N) : f_X12_isSign 0 35 N = some (if tok = 123 then 1 else 0, N) := by
  have := sgn_m h (s := 6) (by omega)
  rw [show xo_by 0 6 = 35 by decide +kernel] at this
  exact this
theorem sg_43 {tok : Int32} {sz : Nat} {N : ha_St} (h : TKR tok sz N) : f_X12_isSign 0 43 N = some (if tok = 119 then 1 else 0, N) := by
  have := sgn_m h (s := 2) (by omega)
  rw [show xo_by 0 2 = 43 by decide +kernel] at this
  exact this
theorem sg_44 {tok : Int32} {sz : Nat} {N : ha_St} (h : TKR tok sz N) : f_X12_isSign 0 44 N = some (if tok = 118 then 1 else 0, N) := by
  have := sgn_m h (s := 1) (by omega)
  rw [show xo_by 0 1 = 44 by decide +kernel] at this
  exact this
theorem sg_59 {tok : Int32} {sz : Nat} {N : ha_St} (h : TKR tok sz N) : f_X12_isSign 0 59 N = some (if tok = 117 then 1 else 0, N) := by
  have := sgn_m h (s := 0) (by omega)
  rw [show xo_by 0 0 = 59 by decide +kernel] at this
  exact this
/-- the model's sign at a mark of comparing -/
theorem sgn_v {tok : Int32} {sz : Nat} {N : ha_St} (h : TKR tok sz N) (hr : 120 ≤ tok.toInt ∧ tok.toInt ≤ 123) : mkR tok (ha_gI N 0 10) ∧ (tok = 120 ∨ tok = 121 ∨ tok = 122 ∨ tok = 123) := by
  have t : xo_by 0 3 = 60 ∧ xo_by 0 4 = 61 ∧ xo_by 0 5 = 62 ∧ xo_by 0 6 = 35 := by decide +kernel
  rcases h with ⟨h, g⟩ | ⟨h, g⟩ | ⟨v, h1, h2, h3, h4⟩ | ⟨s, h1, h2, h3, h4⟩ | ⟨s, h1, h2, h3, h4⟩
  · exact absurd hr (by rw [h]; decide)
  · exact absurd hr (by rw [h]; decide)
  · rw [h2, nI_toInt (by omega)] at hr; omega
  · rw [h2, nI_toInt (by omega)] at hr; omega
  · rw [h2, nI_toInt (by omega)] at hr
    unfold mkR
    rw [h4, h2]
    rcases (show s = 3 ∨ s = 4 ∨ s = 5 ∨ s = 6 by omega) with rfl | rfl | rfl | rfl
    · rw [t.1]; exact ⟨Or.inl ⟨rfl, rfl⟩, Or.inl rfl⟩
    · rw [t.2.1]; exact ⟨Or.inr (Or.inl ⟨rfl, rfl⟩), Or.inr (Or.inl rfl)⟩
    · rw [t.2.2.1]; exact ⟨Or.inr (Or.inr (Or.inl ⟨rfl, rfl⟩)), Or.inr (Or.inr (Or.inl rfl))⟩
    · rw [t.2.2.2]; exact ⟨Or.inr (Or.inr (Or.inr ⟨rfl, rfl⟩)), Or.inr (Or.inr (Or.inr rfl))⟩
/-- how a piece comes out on both sides -/
def RO (q : Nat) (X M : ha_St) (b : Nat → Int32) (sz : Nat) (G : ha_St → ha_St → Prop) (z w : Int32 × ha_St) : Prop := (z.1 = 1 ∧ w.1 = 1 ∧ F5 q X z.2 ∧ F6 M w.2 ∧ SY b sz z.2 w.2 ∧ G z.2 w.2) ∨ (z.1 = 0 ∧ w.1 = 0 ∧ FL q X M z.2 w.2)
section RDS
variable {q sz nr no na : Nat} {X M Y N : ha_St} {b : Nat → Int32}
theorem PD_one {Y' N' : ha_St} {l m r : Int32} (h : PD q nr no na Y N) (hno : no < 40) (y8 : ha_gI Y' q 8 = ha_gI Y q 8) (y9 : ha_gI Y' q 9 = nI (no + 1)) (y10 : ha_gI Y' q 10 = ha_gI Y q 10) (y11 : ha_gI Y' q 11 = 0 ∨ ha_gI Y' q 11 = 1) (yt : ha_gI Y' q 11 = 0 → ha_gI Y q 11 = 0 ∧ l ≠ 103 ∧ r ≠ 103) (y6 : ha_gI Y' 3 6 = ha_gI Y 3 6) (c0 : ∀ a, ¬ (102 + 16 * q ≤ a ∧ a ≤ 104 + 16 * q) → ha_gA Y' a = ha_gA Y a) (c2 : ha_gA Y' (102 + 16 * q) = upd (ha_gA Y (102 + 16 * q)) no l) (c3 : ha_gA Y' (103 + 16 * q) = upd (ha_gA Y (103 + 16 * q)) no m) (c4 : ha_gA Y' (104 + 16 * q) = upd (ha_gA Y (104 + 16 * q)) no r) (n0 : ∀ a, ¬ (18 ≤ a ∧ a ≤ 20) → ha_gA N' a = ha_gA N a) (n18 : ∀ i, i < no → ha_gA N' 18 (120 + i) = ha_gA N 18 (120 + i)) (n19 : ∀ i, i < no → ha_gA N' 19 (120 + i) = ha_gA N 19 (120 + i)) (n20 : ∀ i, i < no → ha_gA N' 20 (120 + i) = ha_gA N 20 (120 + i)) (k23 : ha_gI N' 0 23 = nI (no + 1)) (k24 : ha_gI N' 0 24 = ha_gI N 0 24) (k11 : ha_gI N' 0 11 = ha_gI N 0 11) (v18 : ha_gA N' 18 (120 + no) = l) (v19 : mkR m (ha_gA N' 19 (120 + no))) (v20 : ha_gA N' 20 (120 + no) = r) (hl : vl l) (hr : vl r) : PD q nr (no + 1) na Y' N' := by
  obtain ⟨p1, p2, p3, p4, p5, p6, p7, p8, p9, p10, p11, p12, pR, pO, pA⟩ := h
  refine ⟨p1, by omega, p3, y8.trans p4, by rw [n0 15 (by omega)]; exact p5, y9, k23, y10.trans p8, k24.trans p9, y11, y6.trans p11, k11.trans p12, ?_, ?_, ?_⟩
  · rw [c0 _ (by omega), c0 _ (by omega), n0 16 (by omega), n0 17 (by omega)]
    exact RUs_m (by omega) (Nat.le_refl _) pR
  · intro i hi
    rw [c2, c3, c4]
    by_cases e : i = no
    · subst e
      rw [upd_s, upd_s, upd_s, v18, v20]
      exact ⟨rfl, v19, rfl, hl, hr, fun g => (yt g).2⟩
    · rw [upd_n _ _ e, upd_n _ _ e, upd_n _ _ e]
      have o := pO i (by omega)
      rw [n18 i (by omega), n19 i (by omega), n20 i (by omega)]
      exact ⟨o.1, o.2.1, o.2.2.1, o.2.2.2.1, o.2.2.2.2.1, fun g => o.2.2.2.2.2 (yt g).1⟩
  · rw [c0 _ (by omega), c0 _ (by omega), c0 _ (by omega), n0 21 (by omega), n0 22 (by omega), n0 23 (by omega)]
    exact ACs_c (fun g => (yt g).1) (fun _ _ => rfl) (fun _ _ => rfl) (fun _ _ => rfl) pA
theorem rf_q (E : RdEnv q X M b sz) (h5 : F5 q X Y) : ha_rf xo_kd Y 3 2 8 = some q := pw_rf (by rw [h5.2.1]; exact E.2.2.2.2.1) (pg_tab q (by have := E.2.1; omega) E.1).1
theorem ml_a : mo_ln 15 = 4 ∧ mo_ln 16 = 80 ∧ mo_ln 17 = 80 ∧ mo_ln 18 = 160 ∧ mo_ln 19 = 160 ∧ mo_ln 20 = 160 ∧ mo_ln 21 = 160 ∧ mo_ln 22 = 160 ∧ mo_ln 23 = 160 := by decide +kernel
theorem one_r (E : RdEnv q X M b sz) (h5 : F5 q X Y) (h6 : F6 M N) (S : SY b sz Y N) (h : PD q nr no na Y N) : Tw (f_X9_readOne 3 Y) (f_X12_readOne 0 N) (RO q X M b sz (fun Y' N' => no < 40 ∧ PD q nr (no + 1) na Y' N')) := by
  have hq : 11 ≤ q ∧ q ≤ 15 := ⟨E.1, E.2.1⟩
  have hIM : ∀ {P : ha_St}, F6 M P → IM P := fun g => IM_c g.1 E.2.2.2.2.2.2.2.2.2.1
  have hIR : ∀ {P : ha_St}, F5 q X P → IR P := fun g => IR_c g.2.1 E.2.2.1
  have hP := h
  obtain ⟨p1, p2, p3, p4, p5, p6, p7, p8, p9, p10, p11, p12, pR, pO, pA⟩ := h
  unfold f_X9_readOne f_X12_readOne
  obtain ⟨⟨zv, Z⟩, e1, e2, e3⟩ := vlx_r Y
  dsimp only at e2 e3
  subst e2
  obtain ⟨⟨zw, W⟩, d1, d2, d3⟩ := vlm_r S.1
  dsimp only at d2 d3
  subst d2
  refine tw_bl e1 (tw_br d1 ?_)
  rcases e3 with ⟨rfl, hv⟩ | ⟨rfl, hv⟩
  · obtain ⟨rfl, -⟩ := d3.resolve_right (fun g => g.2 hv)
    refine tw_il ne10 (tw_ir ne10 (tw_bl (rf_q E h5) ?_))
    by_cases hno : no < 40
    · refine tw_il (show ha_gI Z q 9 < 40 by rw [p6]; exact nI_lt (b := 40) hno (by omega)) (tw_nl ?_)
      refine tw_ir (show ¬ ha_gI W 0 23 = 40 by rw [p7]; exact fun g => by have := (nIeq (b := 40) (by omega) (by omega)).mp g; omega) (tw_nr ?_)
      have x14 : (120 : Int32) + ha_gI W 0 23 = nI (120 + no) := by rw [p7]; exact nI_add 120 no
      rw [x14]
      -- the left value
      obtain ⟨Y1, N1, s1, s2, s3, s4, s5⟩ := sg E h5 (F6_s h6 (k := 25) (by omega) (ha_gI Z 3 3)) (SY_n S (fun k k1 k2 => by rw [st_II, if_neg (by omega)]) rfl) (tk_n2 hv.1)
      have rv : f_X12_readValue 0 W = some (1, N1) := by rw [rv_ok S.1 hv, s2]; rfl
      refine tw_bl s1 (tw_br rv ?_)
      have h51 := F5_3 h5 s3
      have h61 := F6_4 (F6_s h6 (k := 25) (by omega) (ha_gI Z 3 3)) s4
      refine tw_br (mr (hIM h61) 17 100) (tw_gr (by rw [ml_a.2.2.2.1]; exact n_in (by omega) (by omega)) (tw_nr (tw_nl ?_)))
      rw [nI_clamp (by omega)]
      have n25 : ha_gI N1 0 25 = ha_gI Z 3 3 := (s4.2.2 25 (by omega)).trans (by rw [st_II, if_pos ⟨rfl, rfl⟩])
      have a1 : ha_gA N1 = ha_gA W := s4.2.1
      rw [show ha_gI ((1, N1) : Int32 × ha_St).2 0 25 = ha_gI Z 3 3 from n25]
      show Tw _ ((f_X12_isSign 0 60 (ha_sA N1 18 (upd (ha_gA N1 18) (120 + no) (ha_gI Z 3 3)))).bind _) _
      generalize hP1 : ha_sA N1 18 (upd (ha_gA N1 18) (120 + no) (ha_gI Z 3 3)) = P1
      have h6P : F6 M P1 := by rw [← hP1]; exact F6_u h61 (Or.inr (Or.inr ⟨by omega, by omega, by omega⟩)) _
      have sP : SY b sz Y1 P1 := by rw [← hP1]; exact SY_n s5 (fun _ _ _ => rfl) rfl
      have i1 : ∀ k, ha_gI P1 0 k = ha_gI N1 0 k := fun k => by rw [← hP1]; rfl
      have i2 : ha_gA P1 18 = upd (ha_gA W 18) (120 + no) (ha_gI Z 3 3) := by rw [← hP1, st_AA, if_pos rfl, a1]
      have i3 : ∀ a, a ≠ 18 → ha_gA P1 a = ha_gA W a := fun a ha => by rw [← hP1, st_AA, if_neg ha, a1]
      have tP := sP.1
      by_cases hm : 120 ≤ (ha_gI Y1 3 3).toInt ∧ (ha_gI Y1 3 3).toInt ≤ 123
      · have z120 : (120 : Int32).toInt = 120 := rfl
        have z123 : (123 : Int32).toInt = 123 := rfl
        obtain ⟨mk, mm⟩ := sgn_v tP hm
        refine tw_el (show ¬ ha_gI Y1 3 3 < 120 by rw [i_lt, z120]; omega) (tw_il (show ha_gI Y1 3 3 ≤ 123 by rw [i_le, z123]; omega) ?_)
        -- behind the mark
        generalize hP2 : ha_sA P1 19 (upd (ha_gA P1 19) (120 + no) (ha_gI P1 0 10)) = P2
        have h6Q : F6 M P2 := by rw [← hP2]; exact F6_u h6P (Or.inr (Or.inr ⟨by omega, by omega, by omega⟩)) _
        have sQ : SY b sz Y1 P2 := by rw [← hP2]; exact SY_n sP (fun _ _ _ => rfl) rfl
        have j1 : ∀ k, ha_gI P2 0 k = ha_gI N1 0 k := fun k => by rw [← hP2]; exact i1 k
        have j2 : ha_gA P2 18 = upd (ha_gA W 18) (120 + no) (ha_gI Z 3 3) := by rw [← hP2, st_AA, if_neg (by omega)]; exact i2
        have j3 : ha_gA P2 19 = upd (ha_gA W 19) (120 + no) (ha_gI P1 0 10) := by rw [← hP2, st_AA, if_pos rfl, i3 19 (by omega)]
        have j4 : ∀ a, a ≠ 18 → a ≠ 19 → ha_gA P2 a = ha_gA W a := fun a ha hb => by rw [← hP2, st_AA, if_neg hb]; exact i3 a ha
        obtain ⟨Y2, N2, t1, t2, t3, t4, t5⟩ := sg E h51 h6Q sQ (tk_n2 (by omega))
        have h52 := F5_3 h51 t3
        have h62 := F6_4 h6Q t4
        have go : Tw ((f_X9_step 3 Y1).bind fun z12 =>
            (f_X9_isValue 3 z12).bind fun z13 =>
            if ¬ (z13.1 : Int32) = 0 then ((ha_rf xo_kd z13.2 3 2 8).bind fun r15 =>
            (f_X8_addOne r15 (ha_gI Z 3 3) (ha_gI Y1 3 3) ((ha_gI z13.2 3 3)) z13.2).bind fun z16 =>
            (f_X9_step 3 z16).bind fun z17 =>
            some (1, z17)) else
            ((f_X9_refuse 3 1 z13.2).bind fun z18 =>
            ha_gd ((z18.1 : Int32) = 0 ∨ (z18.1 : Int32) = 1) <|
            some (z18.1, z18.2))) (f_X12_readOne_J93 0 (nI (120 + no)) P1) (RO q X M b sz (fun Y' N' => no < 40 ∧ PD q nr (no + 1) na Y' N')) := by
          unfold f_X12_readOne_J93
          refine tw_br (mr (hIM h6P) 18 100) (tw_gr (by rw [ml_a.2.2.2.2.1]; exact n_in (by omega) (by omega)) (tw_nr ?_))
          rw [nI_clamp (by omega), hP2]
          refine tw_bl t1 (tw_br t2 ?_)
          obtain ⟨⟨yv, Z2⟩, f1, f2, f3⟩ := vlx_r Y2
          dsimp only at f2 f3
          subst f2
          refine tw_bl f1 ?_
          rcases f3 with ⟨rfl, hv2⟩ | ⟨rfl, hv2⟩
          · refine tw_il ne10 (tw_bl (rf_q E h52) ?_)
            have q9 : ha_gI Z2 q 9 = nI no := by rw [t3.2.2.2 q 9 (by omega), s3.2.2.2 q 9 (by omega)]; exact p6
            have q11 : ha_gI Z2 q 11 = ha_gI Z q 11 := by rw [t3.2.2.2 q 11 (by omega), s3.2.2.2 q 11 (by omega)]
            obtain ⟨A, b1, b2, b3, b4, b5, b6, b7, b8, b9, b10, b11⟩ := addOne_x (l := ha_gI Z 3 3) (m := ha_gI Y1 3 3) (r := ha_gI Z2 3 3) (hIR h52) hq q9 hno (by rw [q11]; exact p10)
            refine tw_bl b1 ?_
            have h5A : F5 q X A := ⟨b3.trans h52.1, b2.trans h52.2.1, fun a ha => (b7 a (by omega)).trans (h52.2.2.1 a ha), fun o k c d => (b11 o k (by omega)).trans (h52.2.2.2 o k c d)⟩
            have sA : SY b sz A (ha_sI N2 0 25 (ha_gI Z2 3 3)) := SY_y (SY_n t5 (fun k k1 k2 => by rw [st_II, if_neg (by omega)]) rfl) (fun k k1 k2 => b11 3 k (by omega))
            obtain ⟨Y3, N3, u1, u2, u3, u4, u5⟩ := sg E h5A (F6_s h62 (k := 25) (by omega) (ha_gI Z2 3 3)) sA (by rw [b11 3 3 (by omega)]; exact tk_n2 hv2.1)
            have rv2 : f_X12_readValue 0 N2 = some (1, N3) := by rw [rv_ok t5.1 hv2, u2]; rfl
            have h63 := F6_4 (F6_s h62 (k := 25) (by omega) (ha_gI Z2 3 3)) u4
            refine tw_bl u1 (tw_br rv2 (tw_ir ne10 (tw_br (mr (hIM h63) 19 100) (tw_gr (by rw [ml_a.2.2.2.2.2.1]; exact n_in2 (by omega) (by omega)) (tw_nr (tw_nr ?_))))))
            have m25 : ha_gI N3 0 25 = ha_gI Z2 3 3 := (u4.2.2 25 (by omega)).trans (by rw [st_II, if_pos ⟨rfl, rfl⟩])
            have a3 : ha_gA N3 = ha_gA P2 := u4.2.1.trans (show ha_gA N2 = ha_gA P2 from t4.2.1)
            have g3 : ∀ k, k ≠ 25 → ¬ (6 ≤ k ∧ k ≤ 10) → ha_gI N3 0 k = ha_gI W 0 k := fun k k1 k2 => by
              rw [u4.2.2 k k2, st_II, if_neg (by omega), t4.2.2 k k2, j1 k, s4.2.2 k k2, st_II, if_neg (by omega)]
            refine tw_ss (Or.inl ⟨rfl, rfl, F5_3 h5A u3, F6_s (F6_u h63 (Or.inr (Or.inr ⟨by omega, by omega, by omega⟩)) _) (by omega) _, SY_n u5 (fun k k1 k2 => by rw [st_II, if_neg (by omega)]; rfl) rfl, hno, ?_⟩)
            refine PD_one (l := ha_gI Z 3 3) (m := ha_gI Y1 3 3) (r := ha_gI Z2 3 3) hP hno ?_ ?_ ?_ ?_ ?_ ?_ ?_ ?_ ?_ ?_ ?_ ?_ ?_ ?_ ?_ ?_ ?_ ?_ ?_ ?_ hv hv2
            · rw [u3.2.2.2 q 8 (by omega), b11 q 8 (by omega), t3.2.2.2 q 8 (by omega), s3.2.2.2 q 8 (by omega)]
            · rw [u3.2.2.2 q 9 (by omega)]; exact b8
            · rw [u3.2.2.2 q 10 (by omega), b11 q 10 (by omega), t3.2.2.2 q 10 (by omega), s3.2.2.2 q 10 (by omega)]
            · rw [u3.2.2.2 q 11 (by omega)]; exact b9
            · rw [u3.2.2.2 q 11 (by omega), ← q11]; exact b10
            · rw [u3.2.2.2 3 6 (by omega), b11 3 6 (by omega), t3.2.2.2 3 6 (by omega), s3.2.2.2 3 6 (by omega)]
            · intro a ha
              rw [u3.2.2.1, b7 a ha, t3.2.2.1, s3.2.2.1]
            · rw [u3.2.2.1, b4, t3.2.2.1, s3.2.2.1]
            · rw [u3.2.2.1, b5, t3.2.2.1, s3.2.2.1]
            · rw [u3.2.2.1, b6, t3.2.2.1, s3.2.2.1]
            · intro a ha
              rw [st_AI, st_AA, if_neg (by omega), a3, j4 a (by omega) (by omega)]
            · intro i hi
              rw [st_AI, st_AA, if_neg (by omega), a3, j2, upd_n _ _ (by omega)]
            · intro i hi
              rw [st_AI, st_AA, if_neg (by omega), a3, j3, upd_n _ _ (by omega)]
            · intro i hi
              rw [st_AI, st_AA, if_pos rfl]
              show upd (ha_gA N3 20) (120 + no) _ (120 + i) = _
              rw [a3, upd_n _ _ (by omega), j4 20 (by omega) (by omega)]
            · rw [st_II, if_pos ⟨rfl, rfl⟩, st_IA]
              show ha_gI N3 0 23 + 1 = _
              rw [g3 23 (by omega) (by omega), p7, nI_1]
            · rw [st_II, if_neg (by omega), st_IA]
              exact g3 24 (by omega) (by omega)
            · rw [st_II, if_neg (by omega), st_IA]
              exact g3 11 (by omega) (by omega)
            · rw [st_AI, st_AA, if_neg (by omega), a3, j2, upd_s]
            · rw [st_AI, st_AA, if_neg (by omega), a3, j3, upd_s]; exact mk
            · rw [st_AI, st_AA, if_pos rfl]
              show upd (ha_gA N3 20) (120 + no) (ha_gI N3 0 25) (120 + no) = _
              rw [upd_s]; exact m25
          · refine tw_el (fun g => g rfl) (tw_bl (ref_x 1 Z2) (tw_gl (Or.inl rfl) (tw_br (rv_no t5.1 hv2) (tw_er (fun g => g rfl) (tw_ss (Or.inr ⟨rfl, rfl, fl_1 h52 h62 hq.1 t5 1 (Or.inl rfl)⟩))))))
        refine tw_br (sg_60 tP) ?_
        by_cases c1 : ha_gI Y1 3 3 = 120
        · rw [if_pos c1]; exact tw_ir ne10 go
        rw [if_neg c1]
        refine tw_er (fun g => g rfl) (tw_br (sg_61 tP) ?_)
        by_cases c2 : ha_gI Y1 3 3 = 121
        · rw [if_pos c2]; exact tw_ir ne10 go
        rw [if_neg c2]
        refine tw_er (fun g => g rfl) (tw_br (sg_62 tP) ?_)
        by_cases c3 : ha_gI Y1 3 3 = 122
        · rw [if_pos c3]; exact tw_ir ne10 go
        rw [if_neg c3]
        refine tw_er (fun g => g rfl) (tw_br (sg_35 tP) ?_)
        have c4 : ha_gI Y1 3 3 = 123 := by
          rcases mm with e | e | e | e
          · exact absurd e c1
          · exact absurd e c2
          · exact absurd e c3
          · exact e
        rw [if_pos c4]
        exact tw_ir ne10 go
      · have z120 : (120 : Int32).toInt = 120 := rfl
        have z121 : (121 : Int32).toInt = 121 := rfl
        have z122 : (122 : Int32).toInt = 122 := rfl
        have z123 : (123 : Int32).toInt = 123 := rfl
        have hbad : ∀ u : Option (Int32 × ha_St), u = some (0, rfS 1 Y1) → Tw u ((f_X12_isSign 0 60 P1).bind fun z19 =>
            if ¬ (z19.1 : Int32) = 0 then (f_X12_readOne_J93 0 (nI (120 + no)) z19.2) else
            ((f_X12_isSign 0 61 z19.2).bind fun z21 =>
            if ¬ (z21.1 : Int32) = 0 then (f_X12_readOne_J93 0 (nI (120 + no)) z21.2) else
            ((f_X12_isSign 0 62 z21.2).bind fun z23 =>
            if ¬ (z23.1 : Int32) = 0 then (f_X12_readOne_J93 0 (nI (120 + no)) z23.2) else
            ((f_X12_isSign 0 35 z23.2).bind fun z25 =>
            if ¬ (z25.1 : Int32) = 0 then (f_X12_readOne_J93 0 (nI (120 + no)) z25.2) else
            ((f_X12_bad 0 1 z25.2).bind fun z27 =>
            ha_gd ((z27.1 : Int32) = 0 ∨ (z27.1 : Int32) = 1) <|
            some (z27.1, z27.2)))))) (RO q X M b sz (fun Y' N' => no < 40 ∧ PD q nr (no + 1) na Y' N')) := by
          intro u hu
          rw [hu]
          refine tw_br (sg_60 tP) ?_
          rw [if_neg (show ¬ ha_gI Y1 3 3 = 120 by rw [i_eq, z120]; omega)]
          refine tw_er (fun g => g rfl) (tw_br (sg_61 tP) ?_)
          rw [if_neg (show ¬ ha_gI Y1 3 3 = 121 by rw [i_eq, z121]; omega)]
          refine tw_er (fun g => g rfl) (tw_br (sg_62 tP) ?_)
          rw [if_neg (show ¬ ha_gI Y1 3 3 = 122 by rw [i_eq, z122]; omega)]
          refine tw_er (fun g => g rfl) (tw_br (sg_35 tP) ?_)
          rw [if_neg (show ¬ ha_gI Y1 3 3 = 123 by rw [i_eq, z123]; omega)]
          exact tw_er (fun g => g rfl) (tw_br (bad_m 1 P1) (tw_gr (Or.inl rfl) (tw_ss (Or.inr ⟨rfl, rfl, fl_1 h51 h6P hq.1 sP 1 (Or.inl rfl)⟩))))
        have j57 : f_X9_readOne_J57 3 Y1 = some (0, rfS 1 Y1) := by
          unfold f_X9_readOne_J57
          rw [ref_x, pw_bs, pw_gd (Or.inl rfl)]
        by_cases c : ha_gI Y1 3 3 < 120
        · exact tw_il c (hbad _ j57)
        · rw [i_lt, z120] at c
          exact tw_el (by rw [i_lt, z120]; exact c) (tw_el (show ¬ ha_gI Y1 3 3 ≤ 123 by rw [i_le, z123]; omega) (hbad _ j57))
    · have e40 : no = 40 := by omega
      subst e40
      refine tw_el (show ¬ ha_gI Z q 9 < 40 by rw [p6]; exact nI_nlt (b := 40) (by omega) (by omega)) (tw_bl (ref_x 2 Z) (tw_gl (Or.inl rfl) ?_))
      refine tw_er (fun g => g p7) (tw_br (bad_m 2 W) (tw_gr (Or.inl rfl) (tw_ss (Or.inr ⟨rfl, rfl, fl_1 h5 h6 hq.1 S 2 (Or.inr (tk_k1 S.1 hv.1))⟩))))
  · obtain ⟨rfl, -⟩ := d3.resolve_left (fun g => hv g.2)
    exact tw_el (fun g => g rfl) (tw_bl (ref_x 1 Z) (tw_gl (Or.inl rfl) (tw_er (fun g => g rfl) (tw_br (bad_m 1 W) (tw_gr (Or.inl rfl) (tw_ss (Or.inr ⟨rfl, rfl, fl_1 h5 h6 hq.1 S 1 (Or.inl rfl)⟩)))))))
end RDS
