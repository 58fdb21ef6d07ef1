/-! PROGRAM AGREES -/
theorem inv_pg {X M Y N : ha_St} (hI : Inv X M) (rY : IR Y) (bY : ∀ a, a ≠ 132 → ha_gB Y a = ha_gB X a) (aY : ∀ a, ¬ (276 ≤ a ∧ a < 356) → ha_gA Y a = ha_gA X a) (iY : ∀ o k, o ≠ 3 → ¬ (11 ≤ o ∧ o ≤ 15) → ¬ (o = 1 ∧ k = 1) → ¬ (o = 0 ∧ k = 12) → ha_gI Y o k = ha_gI X o k) (y1 : ha_gI Y 1 1 = 0) (rN : ha_gR N = ha_gR M) (aN : ∀ a, ¬ (15 ≤ a ∧ a ≤ 23) → ha_gA N a = ha_gA M a) (iN : ∀ k, k ≠ 0 → k ≠ 2 → ¬ (5 ≤ k ∧ k ≤ 12) → ¬ (23 ≤ k ∧ k ≤ 25) → ha_gI N 0 k = ha_gI M 0 k) (n2 : ha_gI N 0 2 = 0) (y12 : ha_gI Y 0 12 = ha_gI N 0 11) (h5 : I5 Y N) : Inv Y N := by
  obtain ⟨hIR, hIB, hIM, hI1, hI2, hI3, hI4, hI5, hI6, hI7, hI8, hI9, hI10, hI11, hI13, hI14⟩ := hI
  have g2 : I2 Y N := by refine I2_c ?_ ?_ ?_ ?_ hI2 <;> first | exact iY _ _ (by omega) (by omega) (by omega) (by omega) | exact aY _ (by omega) | exact iN _ (by omega) (by omega) (by omega) (by omega) | exact aN _ (by omega)
  have g3 : I3 Y N := by refine I3_c ?_ ?_ ?_ ?_ hI3 <;> first | exact iY _ _ (by omega) (by omega) (by omega) (by omega) | exact aY _ (by omega) | exact iN _ (by omega) (by omega) (by omega) (by omega) | exact aN _ (by omega)
  have g4 : I4 Y N := by refine I4_c ?_ ?_ ?_ ?_ ?_ ?_ hI4 <;> first | exact iY _ _ (by omega) (by omega) (by omega) (by omega) | exact aY _ (by omega) | exact iN _ (by omega) (by omega) (by omega) (by omega) | exact aN _ (by omega)
  have g7 : I7 Y N := by refine I7_c ?_ ?_ ?_ ?_ ?_ ?_ ?_ ?_ ?_ ?_ ?_ ?_ ?_ ?_ ?_ ?_ ?_ ?_ ?_ ?_ ?_ ?_ hI7 <;> first | exact iY _ _ (by omega) (by omega) (by omega) (by omega) | exact aY _ (by omega) | exact iN _ (by omega) (by omega) (by omega) (by omega) | exact aN _ (by omega)
  have g8 : I8 Y N := by refine I8_c ?_ ?_ ?_ ?_ ?_ ?_ hI8 <;> first | exact iY _ _ (by omega) (by omega) (by omega) (by omega) | exact aY _ (by omega) | exact iN _ (by omega) (by omega) (by omega) (by omega) | exact aN _ (by omega)
  have g9 : I9 Y N := by refine I9_c ?_ ?_ ?_ ?_ ?_ ?_ ?_ hI9 <;> first | exact iY _ _ (by omega) (by omega) (by omega) (by omega) | exact aY _ (by omega) | exact iN _ (by omega) (by omega) (by omega) (by omega) | exact aN _ (by omega)
  have g10 : I10 Y N := by refine I10_c ?_ ?_ ?_ ?_ hI10 <;> first | exact iY _ _ (by omega) (by omega) (by omega) (by omega) | exact aY _ (by omega) | exact iN _ (by omega) (by omega) (by omega) (by omega) | exact aN _ (by omega)
  have g11 : I11 Y N := by refine I11_c ?_ ?_ ?_ ?_ ?_ ?_ ?_ hI11 <;> first | exact iY _ _ (by omega) (by omega) (by omega) (by omega) | exact aY _ (by omega) | exact iN _ (by omega) (by omega) (by omega) (by omega) | exact aN _ (by omega)
  have g13 : I13 Y N := by refine I13_c ?_ ?_ ?_ ?_ ?_ ?_ ?_ ?_ ?_ ?_ ?_ ?_ hI13 <;> first | exact iY _ _ (by omega) (by omega) (by omega) (by omega) | exact aY _ (by omega) | exact iN _ (by omega) (by omega) (by omega) (by omega) | exact aN _ (by omega)
  have g14 : I14 Y N := by refine I14_c ?_ ?_ ?_ (fun i => aY _ (by omega)) ?_ ?_ ?_ ?_ hI14 <;> first | exact iY _ _ (by omega) (by omega) (by omega) (by omega) | exact aY _ (by omega) | exact iN _ (by omega) (by omega) (by omega) (by omega) | exact aN _ (by omega)
  have g1 : I1 Y N := by
    obtain ⟨e1, e2, e3, e4, e5⟩ := hI1
    unfold I1
    rw [y1, n2, aY 116 (by omega), aN 2 (by omega)]
    exact ⟨rfl, by decide, by decide, e4, e5⟩
  have g6 : I6 Y N := by
    obtain ⟨e1, e2, e3⟩ := hI6
    refine ⟨y12, ?_, ?_⟩
    · rw [iY 0 15 (by omega) (by omega) (by omega) (by omega), iN 74 (by omega) (by omega) (by omega) (by omega)]; exact e2
    · rw [iY 0 16 (by omega) (by omega) (by omega) (by omega), iN 82 (by omega) (by omega) (by omega) (by omega)]; exact e3
  exact ⟨rY, IB_c (bY 180 (by omega)) (bY 181 (by omega)) (bY 248 (by omega)) hIB, IM_c rN hIM, g1, g2, g3, g4, h5, g6, g7, g8, g9, g10, g11, g13, g14⟩
theorem IR_s {X : ha_St} (h : IR X) {n k : Nat} (hn : xo_ref n k = none) (v : Option Nat) : IR (ha_sR X n k v) := fun o j r hr => by
  rw [st_RR]
  by_cases c : o = n ∧ j = k
  · rw [c.1, c.2, hn] at hr; cases hr
  · rw [if_neg c]; exact h o j r hr
theorem xr_n : xo_ref 3 0 = none ∧ xo_ref 3 2 = none ∧ xo_ref 0 11 = none := by decide +kernel
/-- the programs by number -/
def pF (p p1 p2 : Nat) (j : Nat) : Nat := if j = 0 then p else if j = 1 then p1 else p2
theorem e_program {X M : ha_St} (hI : Inv X M) (v : Int32) : Agr (f_X11_program 0 v X) (f_X12_program 0 v M) := by
  have hT := hI
  obtain ⟨hIR, hIB, hIM, hI1, hI2, hI3, hI4, hI5, hI6, hI7, hI8, hI9, hI10, hI11, hI13, hI14⟩ := hI
  obtain ⟨e1, e2, e3, e4, e5⟩ := hI1
  have z2 : (2 : Int32).toInt = 2 := rfl
  obtain ⟨sz, hsz, hszE⟩ := n_of (N := 440) e2 e3
  unfold f_X11_program f_X12_program f_X12_take
  rw [isIn_eq]
  simp only [pw_nm, pw_bs]
  by_cases hv : v.toInt < 0 ∨ 2 < v.toInt
  · have j98 : f_X11_program_J98 0 v (-1000) X = some (-1000, ha_sI X 1 1 0) := by
      unfold f_X11_program_J98
      rw [xr hIR 0 0 10 1, pw_bs, pw_nm]
    rw [if_pos (show v < 0 ∨ 2 < v by rw [i_lt, i_lt, z_0, z2]; exact hv), pw_ie (show ¬ ¬ (0 : Int32) = 0 from fun g => g rfl)]
    have fin : Agr (some (-1000, ha_sI X 1 1 0)) (some (-1000, ha_sI (ha_sI (ha_sI M 0 0 0) 0 2 0) 0 5 (ha_gI (ha_sI M 0 0 0) 0 2))) := by
      refine agr_mk rfl (inv_pg hT (IR_c (X := X) rfl hIR) (fun _ _ => rfl) (fun _ _ => rfl) (fun o k a c d e => by rw [st_II, if_neg d]) (by rw [st_II, if_pos ⟨rfl, rfl⟩]) rfl (fun _ _ => rfl) (fun k a c d e => by rw [st_II, if_neg (by omega), st_II, if_neg (by omega), st_II, if_neg (by omega)]) (by rw [st_II, if_neg (by omega), st_II, if_pos ⟨rfl, rfl⟩]) (by rw [st_II, if_neg (by omega), st_II, if_neg (by omega), st_II, if_neg (by omega), st_II, if_neg (by omega)]; exact hI6.1) ?_)
      exact I5_c (X := X) (M := M) (fun p j h1 h2 => by rw [st_II, if_neg (by omega)]) (fun a h1 h2 => rfl) rfl rfl (fun _ _ => rfl) rfl rfl rfl rfl rfl rfl rfl rfl rfl hI5
    by_cases c : v < 0
    · rw [pw_it c, j98]; exact fin
    · rw [pw_ie c, pw_it (show (3 : Int32) ≤ v by rw [i_lt, z_0] at c; rw [i_le, z_3]; omega), j98]; exact fin
  · obtain ⟨k, hk, rfl⟩ := n_of (x := v) (N := 2) (by omega) (by omega)
    have hk3 : k < 3 := by omega
    rw [if_neg (show ¬ (nI k < 0 ∨ 2 < nI k) by rw [i_lt, i_lt, z_0, z2]; exact hv), pw_it ne10, pw_ie (nI_pos (by omega)), pw_ie (show ¬ (3 : Int32) ≤ nI k from (nI_ge hk3 (by omega) : ¬ nI 3 ≤ nI k))]
    obtain ⟨⟨p, q, r, bb, p1, p2, d1, d2, d3, d4, d5, d6, d7, l1, u1, l2, u2, l3, u3, l4, u4, l5, u5, n1, n2, n3, n4, n5, n6, R0, R1, R2⟩, w1, w2⟩ := hI5
    have kq : xo_kd q = 8 := (pg_tab q (by omega) l4).1
    rw [xr hIR 0 2 9 3, pw_bs, xr hIR 0 0 10 1, pw_bs, pw_rf d4 kq, pw_bs]
    -- the class's ground
    unfold f_X9_read f_X8_clear
    rw [xr hIR 1 0 100 116, pw_bs, pw_nm, pw_nm, pw_nm, pw_rf (r := q) (show ha_gR (ha_sR (ha_sI (ha_sR X 3 0 (some 116)) 3 1 (ha_gI (ha_sR X 3 0 (some 116)) 1 1)) 3 2 (some q)) 3 2 = some q by rw [st_RR, if_pos ⟨rfl, rfl⟩]) kq, pw_bs, pw_nm, pw_nm, pw_nm, pw_gd (Or.inl rfl), pw_nm, pw_bs, pw_nm, pw_nm, pw_nm]
    generalize hXg : ha_sI (ha_sI (ha_sI (ha_sI (ha_sI (ha_sI (ha_sI (ha_sR (ha_sI (ha_sR X 3 0 (some 116)) 3 1 (ha_gI (ha_sR X 3 0 (some 116)) 1 1)) 3 2 (some q)) q 8 0) q 9 0) q 10 0) q 11 0) 3 5 0) 3 6 0) 3 7 0 = Xg
    have xR : ∀ o j, ¬ (o = 3 ∧ (j = 0 ∨ j = 2)) → ha_gR Xg o j = ha_gR X o j := fun o j ho => by
      rw [← hXg]; simp only [st_RI]; rw [st_RR, if_neg (by omega), st_RI, st_RR, if_neg (by omega)]
    have xR0 : ha_gR Xg 3 0 = some 116 := by rw [← hXg]; simp only [st_RI]; rw [st_RR, if_neg (by omega), st_RI, st_RR, if_pos ⟨rfl, rfl⟩]
    have xR2 : ha_gR Xg 3 2 = some q := by rw [← hXg]; simp only [st_RI]; rw [st_RR, if_pos ⟨rfl, rfl⟩]
    have xB : ha_gB Xg = ha_gB X := by rw [← hXg]; rfl
    have xA : ha_gA Xg = ha_gA X := by rw [← hXg]; rfl
    have xI : ∀ o j, o ≠ 3 → ¬ (o = q ∧ 8 ≤ j ∧ j ≤ 11) → ha_gI Xg o j = ha_gI X o j := fun o j h1 h2 => by
      rw [← hXg]
      repeat (rw [st_II, if_neg (by omega)])
      rw [st_IR, st_II, if_neg (by omega), st_IR]
    have xIR : IR Xg := fun o j rr hr => by
      have hh := hIR o j rr hr
      by_cases c0 : o = 3 ∧ (j = 0 ∨ j = 2)
      · obtain ⟨rfl, rfl | rfl⟩ := c0
        · rw [xr_n.1] at hr; cases hr
        · rw [xr_n.2.1] at hr; cases hr
      · rw [xR o j c0]; exact hh
    have x31 : ha_gI Xg 3 1 = nI sz := by
      rw [← hXg]
      repeat (rw [st_II, if_neg (by omega)])
      rw [st_IR, st_II, if_pos ⟨rfl, rfl⟩, st_IR, e1]; exact hszE
    have x35 : ha_gI Xg 3 5 = nI 0 := by
      rw [← hXg, st_II, if_neg (by omega), st_II, if_neg (by omega), st_II, if_pos ⟨rfl, rfl⟩]; rfl
    have x36 : ha_gI Xg 3 6 = 0 := by
      rw [← hXg, st_II, if_neg (by omega), st_II, if_pos ⟨rfl, rfl⟩]
    have x8 : ha_gI Xg q 8 = 0 ∧ ha_gI Xg q 9 = 0 ∧ ha_gI Xg q 10 = 0 ∧ ha_gI Xg q 11 = 0 := by
      rw [← hXg]
      refine ⟨?_, ?_, ?_, ?_⟩
      · rw [st_II, if_neg (by omega), st_II, if_neg (by omega), st_II, if_neg (by omega), st_II, if_neg (by omega), st_II, if_neg (by omega), st_II, if_neg (by omega), st_II, if_pos ⟨rfl, rfl⟩]
      · rw [st_II, if_neg (by omega), st_II, if_neg (by omega), st_II, if_neg (by omega), st_II, if_neg (by omega), st_II, if_neg (by omega), st_II, if_pos ⟨rfl, rfl⟩]
      · rw [st_II, if_neg (by omega), st_II, if_neg (by omega), st_II, if_neg (by omega), st_II, if_neg (by omega), st_II, if_pos ⟨rfl, rfl⟩]
      · rw [st_II, if_neg (by omega), st_II, if_neg (by omega), st_II, if_neg (by omega), st_II, if_pos ⟨rfl, rfl⟩]
    -- the model's ground
    have n3g : ¬ ((3 : Int32) < 0 ∨ mo_ln 15 ≤ (3 : Int32).toNatClampNeg) := by rw [ml_a.1]; decide
    have c3 : (3 : Int32).toNatClampNeg = 3 := rfl
    rw [show ha_rf mo_kd (ha_sI (ha_sI (ha_sI (ha_sI M 0 0 0) 0 2 0) 0 5 (ha_gI (ha_sI M 0 0 0) 0 2)) 0 11 0) 0 14 100 = some 15 from mr (M := M) hIM 14 100, pw_bs, pw_gd n3g, c3]
    generalize hMg : ha_sI (ha_sI (ha_sI (ha_sA (ha_sI (ha_sI (ha_sI (ha_sI M 0 0 0) 0 2 0) 0 5 (ha_gI (ha_sI M 0 0 0) 0 2)) 0 11 0) 15 (upd (ha_gA (ha_sI (ha_sI (ha_sI (ha_sI M 0 0 0) 0 2 0) 0 5 (ha_gI (ha_sI M 0 0 0) 0 2)) 0 11 0) 15) 3 0)) 0 23 0) 0 24 0) 0 6 0 = Mg
    have mR : ha_gR Mg = ha_gR M := by rw [← hMg]; rfl
    have mA : ∀ a, a ≠ 15 → ha_gA Mg a = ha_gA M a := fun a ha => by rw [← hMg, st_AI, st_AI, st_AI, st_AA, if_neg ha]; rfl
    have mA15 : ha_gA Mg 15 = upd (ha_gA M 15) 3 0 := by rw [← hMg, st_AI, st_AI, st_AI, st_AA, if_pos rfl]; rfl
    have mI : ∀ j, j ≠ 0 → j ≠ 2 → ¬ (5 ≤ j ∧ j ≤ 11) → ¬ (23 ≤ j ∧ j ≤ 24) → ha_gI Mg 0 j = ha_gI M 0 j := fun j h1 h2 h3 h4 => by
      rw [← hMg, st_II, if_neg (by omega), st_II, if_neg (by omega), st_II, if_neg (by omega), st_IA, st_II, if_neg (by omega), st_II, if_neg (by omega), st_II, if_neg (by omega), st_II, if_neg (by omega)]
    have m5 : ha_gI Mg 0 5 = nI sz := by
      rw [← hMg, st_II, if_neg (by omega), st_II, if_neg (by omega), st_II, if_neg (by omega), st_IA, st_II, if_neg (by omega), st_II, if_pos ⟨rfl, rfl⟩, st_II, if_neg (by omega)]
      exact hszE
    have m6 : ha_gI Mg 0 6 = nI 0 := by rw [← hMg, st_II, if_pos ⟨rfl, rfl⟩]; rfl
    have m24 : ha_gI Mg 0 24 = 0 := by rw [← hMg, st_II, if_neg (by omega), st_II, if_pos ⟨rfl, rfl⟩]
    have m23 : ha_gI Mg 0 23 = 0 := by rw [← hMg, st_II, if_neg (by omega), st_II, if_neg (by omega), st_II, if_pos ⟨rfl, rfl⟩]
    have m11 : ha_gI Mg 0 11 = 0 := by rw [← hMg, st_II, if_neg (by omega), st_II, if_neg (by omega), st_II, if_neg (by omega), st_IA, st_II, if_pos ⟨rfl, rfl⟩]
    have m2 : ha_gI Mg 0 2 = 0 := by rw [← hMg, st_II, if_neg (by omega), st_II, if_neg (by omega), st_II, if_neg (by omega), st_IA, st_II, if_neg (by omega), st_II, if_neg (by omega), st_II, if_pos ⟨rfl, rfl⟩]
    have hIMg : IM Mg := IM_c mR hIM
    have E : RdEnv q Xg Mg (ha_gA M 2) sz := ⟨l4, u4, xIR, xR0, xR2, by rw [xA]; exact e4, x31, hsz, e5, hIMg, mA 2 (by omega), m5⟩
    obtain ⟨Y0, s1, s2, s3⟩ := step_x xR0 (E.2.2.2.2.2.1) x31 hsz x35 (Nat.zero_le _) e5
    obtain ⟨N0, s4, s5, s6⟩ := go_m hIMg (mA 2 (by omega)) m5 hsz m6 (Nat.zero_le _)
    have sS := lx_gt hsz s3 s6
    have P0 : PD q 0 0 0 Xg Mg := by
      refine ⟨by omega, by omega, by omega, x8.1, ?_, x8.2.1, m23, x8.2.2.1, m24, Or.inl x8.2.2.2, x36, m11, fun i hi => by omega, fun i hi => by omega, fun i hi => by omega⟩
      rw [mA15, upd_s]; rfl
    obtain ⟨z, w, t1, t2, t3⟩ := rules_l E (nI k) 20 0 0 0 ha_fu ha_fu Y0 N0 (by omega) (by unfold ha_fu; omega) (by unfold ha_fu; omega) (F5_3 (F5_r q Xg) s2) (F6_4 (F6_r Mg) s5) sS (PD_34 l4 s2 s5 P0)
    rw [s1, pw_bs, s4, pw_bs, show ((0, Y0) : Int32 × ha_St) = (nI 0, Y0) from rfl, t1, t2, pw_bs, pw_bs]
    -- the programs that stay
    have pB : ∀ j, j < 3 → ha_gB X 132 j = some (pF p p1 p2 j) ∧ 11 ≤ pF p p1 p2 j ∧ pF p p1 p2 j ≤ 15 ∧ pF p p1 p2 j ≠ q ∧ PR X (pF p p1 p2 j) M j := by
      intro j hj
      rcases (show j = 0 ∨ j = 1 ∨ j = 2 by omega) with rfl | rfl | rfl
      · exact ⟨d1, l1, u1, fun g => n4 g.symm, R0⟩
      · exact ⟨d2, l2, u2, fun g => n5 g.symm, R1⟩
      · exact ⟨d3, l3, u3, fun g => n6 g.symm, R2⟩
    have pD : ∀ i j, i < 3 → j < 3 → i ≠ j → pF p p1 p2 i ≠ pF p p1 p2 j := by
      intro i j hi hj hij
      rcases (show i = 0 ∨ i = 1 ∨ i = 2 by omega) with rfl | rfl | rfl <;> rcases (show j = 0 ∨ j = 1 ∨ j = 2 by omega) with rfl | rfl | rfl
      · exact absurd rfl hij
      · exact n1
      · exact n2
      · exact fun g => n1 g.symm
      · exact absurd rfl hij
      · exact n3
      · exact fun g => n2 g.symm
      · exact fun g => n3 g.symm
      · exact absurd rfl hij
    have keep : ∀ (Y N : ha_St) (j : Nat), j < 3 → F5 q Xg Y → F6 Mg N → PR Y (pF p p1 p2 j) N j := by
      intro Y N j hj h5 h6
      obtain ⟨-, b2, b3, b4, b5⟩ := pB j hj
      refine PR_g (k := j) (fun i => ?_) (fun i hi => ?_) ?_ (fun i hi => ?_) (fun i hi => ?_) (fun a i h1 h2 h3 => ?_) b5
      · rw [h5.2.2.2 _ i (by omega) (by omega), xI _ i (by omega) (by omega)]
      · rw [h5.2.2.1 _ (by omega), xA]
      · rw [h6.2.1 15 j (by omega) (by omega) (by omega), mA15, upd_n _ _ (by omega)]
      · rw [h6.2.1 16 _ (by omega) (by omega) (by omega), mA 16 (by omega)]
      · rw [h6.2.1 17 _ (by omega) (by omega) (by omega), mA 17 (by omega)]
      · rw [h6.2.1 a _ (by omega) (by omega) (by omega), mA a (by omega)]
    have wv : ∀ Y : ha_St, F5 q Xg Y → (∀ i, i < 100 → ha_gA Y 136 i = nI i) ∧ ha_gA Y 136 105 = -1 := by
      intro Y h5
      rw [h5.2.2.1 136 (by omega), xA]
      exact ⟨w1, w2⟩
    rcases t3 with ⟨N', nr, no, na, z1, rfl, f5, f6, fP⟩ | ⟨N', z1, rfl, fF⟩
    · -- taken
      rw [Sum.elim_inl]
      have yIR : IR z.2 := IR_c f5.2.1 xIR
      obtain ⟨⟨ans, Nf⟩, c1, c2, c3', c4, c5, c6, c7, c8⟩ := cpy_m hk3 (IM_c f6.1 hIMg)
      dsimp only at c2 c3' c4 c5 c6 c7 c8
      rw [c1]
      have q11 : ha_gR z.2 0 11 = some q := by rw [f5.2.1, xR 0 11 (by omega)]; exact d4
      have b132 : ha_gB z.2 132 k = some (pF p p1 p2 k) := by rw [f5.1, xB]; exact (pB k hk3).1
      have kP : xo_kd (pF p p1 p2 k) = 8 := (pg_tab _ (by have := (pB k hk3).2.2.1; omega) (pB k hk3).2.1).1
      have ln132 : xo_ln 132 = 3 := by decide +kernel
      rw [xr yIR 0 2 9 3, pw_bs, pw_ie (show ¬ z.1 = 0 by rw [z1]; decide)]
      rw [show ha_rf xo_kd (ha_sI z.2 0 12 (ha_gI z.2 3 6)) 0 11 8 = some q from pw_rf (S := z.2) q11 kq, pw_bs]
      unfold f_X11_program_J63 f_X11_program_J98
      rw [pw_ie (show ¬ z.1 = 0 by rw [z1]; decide)]
      rw [show ha_rf xo_kd (ha_sI z.2 0 12 (ha_gI z.2 3 6)) 0 1 1 = some 2 from xr (X := z.2) yIR 0 1 1 2, pw_bs]
      rw [show ha_rf xo_kd (ha_sI z.2 0 12 (ha_gI z.2 3 6)) 2 0 103 = some 132 from xr (X := z.2) yIR 2 0 103 132, pw_bs]
      rw [pw_gd (by rw [ln132]; exact n_in hk3 (by omega)), nI_clamp (by omega)]
      rw [show ha_rb xo_kd (ha_sI z.2 0 12 (ha_gI z.2 3 6)) 132 k 8 = some (pF p p1 p2 k) from pw_rb (S := z.2) b132 kP, pw_bs]
      rw [pw_bs, show ha_rf xo_kd (ha_sI z.2 0 12 (ha_gI z.2 3 6)) 2 0 103 = some 132 from xr (X := z.2) yIR 2 0 103 132, pw_bs, show ha_rf xo_kd (ha_sI z.2 0 12 (ha_gI z.2 3 6)) 0 11 8 = some q from pw_rf (S := z.2) q11 kq, pw_bs, pw_gd (by rw [ln132]; exact n_in2 hk3 (by omega)), pw_nm, pw_nm]
      generalize hYf : ha_sR (ha_sB (ha_sI z.2 0 12 (ha_gI z.2 3 6)) 132 (va_up (ha_gB (ha_sI z.2 0 12 (ha_gI z.2 3 6)) 132) k (some q))) 0 11 (some (pF p p1 p2 k)) = Yf
      have fR : ∀ o j, ¬ (o = 0 ∧ j = 11) → ha_gR Yf o j = ha_gR z.2 o j := fun o j h => by rw [← hYf, st_RR, if_neg h]; rfl
      have fR11 : ha_gR Yf 0 11 = some (pF p p1 p2 k) := by rw [← hYf, st_RR, if_pos ⟨rfl, rfl⟩]
      have fIR : IR Yf := by rw [← hYf]; exact IR_s (X := ha_sB (ha_sI z.2 0 12 (ha_gI z.2 3 6)) 132 (va_up (ha_gB (ha_sI z.2 0 12 (ha_gI z.2 3 6)) 132) k (some q))) (IR_c (X := z.2) rfl yIR) xr_n.2.2 _
      have fB : ∀ a, a ≠ 132 → ha_gB Yf a = ha_gB z.2 a := fun a ha => by rw [← hYf]; show ha_gB (ha_sB _ _ _) a = _; rw [st_BB, if_neg ha]; rfl
      have fB132 : ha_gB Yf 132 = va_up (ha_gB z.2 132) k (some q) := by rw [← hYf]; show ha_gB (ha_sB _ _ _) 132 = _; rw [st_BB, if_pos rfl]; rfl
      have fA : ha_gA Yf = ha_gA z.2 := by rw [← hYf]; rfl
      have fI : ∀ o j, ¬ (o = 0 ∧ j = 12) → ha_gI Yf o j = ha_gI z.2 o j := fun o j h => by rw [← hYf, st_IR, st_IB, st_II, if_neg h]
      have fI12 : ha_gI Yf 0 12 = ha_gI z.2 3 6 := by rw [← hYf, st_IR, st_IB, st_II, if_pos ⟨rfl, rfl⟩]
      rw [xr fIR 0 0 10 1, pw_bs, pw_nm]
      have hans : ha_gI (ha_sI z.2 0 12 (ha_gI z.2 3 6)) q 8 = ans := by
        rw [st_II, if_neg (by omega), fP.2.2.2.1, c2]; exact fP.2.2.2.2.1.symm
      have gi : ∀ o j, ¬ (o = 0 ∧ j = 12) → ¬ (o = 1 ∧ j = 1) → ha_gI (ha_sI Yf 1 1 0) o j = ha_gI z.2 o j := fun o j h1 h2 => by rw [st_II, if_neg h2, fI o j h1]
      refine agr_mk hans (inv_pg hT (IR_c (X := Yf) rfl fIR) (fun a ha => ?_) (fun a ha => ?_) (fun o j h1 h2 h3 h4 => ?_) (by rw [st_II, if_pos ⟨rfl, rfl⟩]) ?_ (fun a ha => ?_) (fun j h1 h2 h3 h4 => ?_) ?_ ?_ ?_)
      · show ha_gB Yf a = _
        rw [fB a ha, f5.1, xB]
      · show ha_gA Yf a = _
        rw [fA, f5.2.2.1 a (by omega), xA]
      · rw [gi o j h4 h3, f5.2.2.2 o j (by omega) (by omega), xI o j h1 (by omega)]
      · rw [c3', f6.1, mR]
      · rw [c5 a ha]
        funext i
        rw [f6.2.1 a i (by omega) (by omega) (by omega), mA a (by omega)]
      · rw [c4 j, f6.2.2 j (by omega) (by omega), mI j (by omega) (by omega) (by omega) (by omega)]
      · rw [c4 2, f6.2.2 2 (by omega) (by omega), m2]
      · rw [st_II, if_neg (by omega), fI12, c4 11, fP.2.2.2.2.2.2.2.2.2.2.1, fP.2.2.2.2.2.2.2.2.2.2.2.1]
      · -- the programs
        have nw : ∀ j, j < 3 → PR (ha_sI Yf 1 1 0) (if j = k then q else pF p p1 p2 j) Nf j := by
          intro j hj
          by_cases c : j = k
          · subst c
            rw [if_pos rfl]
            refine PR_g (k := 3) (fun i => gi q i (by omega) (by omega)) (fun i hi => ?_) ?_ (fun i hi => ?_) (fun i hi => ?_) (fun a i h1 h2 h3 => ?_) (pd_pr fP)
            · show ha_gA Yf _ = _
              rw [fA]
            · rw [c6, upd_s]
            · rw [c7 16 (by omega), cpf_in _ hi]
            · rw [c7 17 (by omega), cpf_in _ hi]
            · rw [c8 a ⟨h1, h2⟩, cpf_in _ h3]
          · rw [if_neg c]
            obtain ⟨-, b2, b3, b4, -⟩ := pB j hj
            refine PR_g (k := j) (fun i => gi _ i (by omega) (by omega)) (fun i hi => ?_) ?_ (fun i hi => ?_) (fun i hi => ?_) (fun a i h1 h2 h3 => ?_) (keep z.2 N' j hj f5 f6)
            · show ha_gA Yf _ = _
              rw [fA]
            · rw [c6, upd_n _ _ c]
            · rw [c7 16 (by omega), cpf_out _ (by omega)]
            · rw [c7 17 (by omega), cpf_out _ (by omega)]
            · rw [c8 a ⟨h1, h2⟩, cpf_out _ (by omega)]
        have nb : ∀ j, j < 3 → ha_gB (ha_sI Yf 1 1 0) 132 j = some (if j = k then q else pF p p1 p2 j) ∧ 11 ≤ (if j = k then q else pF p p1 p2 j) ∧ (if j = k then q else pF p p1 p2 j) ≤ 15 ∧ pF p p1 p2 k ≠ (if j = k then q else pF p p1 p2 j) := by
          intro j hj
          show ha_gB Yf 132 j = _ ∧ _
          rw [fB132, f5.1, xB]
          by_cases c : j = k
          · subst c
            rw [va_up_self, if_pos rfl]
            exact ⟨rfl, l4, u4, (pB j hj).2.2.2.1⟩
          · rw [va_up_ne _ _ c, if_neg c]
            exact ⟨(pB j hj).1, (pB j hj).2.1, (pB j hj).2.2.1, pD k j hk3 hj (fun g => c g.symm)⟩
        have nd : ∀ i j, i < 3 → j < 3 → i ≠ j → (if i = k then q else pF p p1 p2 i) ≠ (if j = k then q else pF p p1 p2 j) := by
          intro i j hi hj hij
          by_cases ci : i = k
          · rw [if_pos ci, if_neg (by omega)]
            exact fun g => (pB j hj).2.2.2.1 g.symm
          · rw [if_neg ci]
            by_cases cj : j = k
            · rw [if_pos cj]; exact (pB i hi).2.2.2.1
            · rw [if_neg cj]; exact pD i j hi hj hij
        have b0 := nb 0 (by omega)
        have b1 := nb 1 (by omega)
        have b2 := nb 2 (by omega)
        have hw := wv z.2 f5
        refine ⟨⟨_, pF p p1 p2 k, q, 116, _, _, b0.1, b1.1, b2.1, fR11, ?_, ?_, by decide +kernel, b0.2.1, b0.2.2.1, b1.2.1, b1.2.2.1, b2.2.1, b2.2.2.1, (pB k hk3).2.1, (pB k hk3).2.2.1, l4, u4, nd 0 1 (by omega) (by omega) (by omega), nd 0 2 (by omega) (by omega) (by omega), nd 1 2 (by omega) (by omega) (by omega), b0.2.2.2, b1.2.2.2, b2.2.2.2, nw 0 (by omega), nw 1 (by omega), nw 2 (by omega)⟩, ?_, ?_⟩
        · show ha_gR Yf 3 2 = _
          rw [fR 3 2 (by omega), f5.2.1]; exact xR2
        · show ha_gR Yf 3 0 = _
          rw [fR 3 0 (by omega), f5.2.1]; exact xR0
        · show ∀ i, i < 100 → ha_gA Yf 136 i = nI i
          rw [fA]; exact hw.1
        · show ha_gA Yf 136 105 = -1
          rw [fA]; exact hw.2
    · -- refused
      rw [Sum.elim_inr]
      obtain ⟨f5, f6, f36, f37⟩ := fF
      have yIR : IR z.2 := IR_c f5.2.1 xIR
      rw [xr yIR 0 2 9 3, pw_bs, pw_it z1]
      rw [show ha_rf xo_kd (ha_sI z.2 0 12 (ha_gI z.2 3 6)) 0 2 9 = some 3 from xr (X := z.2) yIR 0 2 9 3, pw_bs]
      unfold f_X11_program_J63 f_X11_program_J98
      rw [pw_it z1, show ha_rf xo_kd (ha_sI z.2 0 12 (ha_gI z.2 3 6)) 0 0 10 = some 1 from xr (X := z.2) yIR 0 0 10 1, pw_bs, pw_nm]
      refine agr_mk (by rw [st_II, if_neg (by omega), f37]) (inv_pg hT (IR_c (X := z.2) rfl yIR) (fun a ha => ?_) (fun a ha => ?_) (fun o j h1 h2 h3 h4 => ?_) (by rw [st_II, if_pos ⟨rfl, rfl⟩]) ?_ (fun a ha => ?_) (fun j h1 h2 h3 h4 => ?_) ?_ ?_ ?_)
      · show ha_gB z.2 a = _
        rw [f5.1, xB]
      · show ha_gA z.2 a = _
        rw [f5.2.2.1 a (by omega), xA]
      · rw [st_II, if_neg h3, st_II, if_neg h4, f5.2.2.2 o j (by omega) (by omega), xI o j h1 (by omega)]
      · rw [f6.1, mR]
      · funext i
        rw [f6.2.1 a i (by omega) (by omega) (by omega), mA a (by omega)]
      · rw [f6.2.2 j (by omega) (by omega), mI j (by omega) (by omega) (by omega) (by omega)]
      · rw [f6.2.2 2 (by omega) (by omega), m2]
      · rw [st_II, if_neg (by omega), st_II, if_pos ⟨rfl, rfl⟩, f36]
      · have kp : ∀ j, j < 3 → PR (ha_sI (ha_sI z.2 0 12 (ha_gI z.2 3 6)) 1 1 0) (pF p p1 p2 j) N' j := by
          intro j hj
          obtain ⟨-, b2, b3, b4, -⟩ := pB j hj
          exact PR_g (X := z.2) (M := N') (k := j) (fun i => by rw [st_II, if_neg (by omega), st_II, if_neg (by omega)]) (fun i hi => rfl) rfl (fun i hi => rfl) (fun i hi => rfl) (fun a i h1 h2 h3 => rfl) (keep z.2 N' j hj f5 f6)
        have hw := wv z.2 f5
        have gB : ∀ j, ha_gB (ha_sI (ha_sI z.2 0 12 (ha_gI z.2 3 6)) 1 1 0) 132 j = ha_gB X 132 j := fun j => by show ha_gB z.2 132 j = _; rw [f5.1, xB]
        have gR : ∀ o j, ha_gR (ha_sI (ha_sI z.2 0 12 (ha_gI z.2 3 6)) 1 1 0) o j = ha_gR Xg o j := fun o j => by show ha_gR z.2 o j = _; rw [f5.2.1]
        refine ⟨⟨p, q, q, 116, p1, p2, by rw [gB]; exact d1, by rw [gB]; exact d2, by rw [gB]; exact d3, by rw [gR, xR 0 11 (by omega)]; exact d4, by rw [gR]; exact xR2, by rw [gR]; exact xR0, by decide +kernel, l1, u1, l2, u2, l3, u3, l4, u4, l4, u4, n1, n2, n3, n4, n5, n6, kp 0 (by omega), kp 1 (by omega), kp 2 (by omega)⟩, hw.1, hw.2⟩
