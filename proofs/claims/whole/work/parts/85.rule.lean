/-! A RULE READ -/
section RDC
variable {q sz nr no na : Nat} {X M Y N : ha_St} {b : Nat → Int32}
/-- behind the loop over conditions (or acts): still reading, or refused -/
def LQ (q : Nat) (X M : ha_St) (b : Nat → Int32) (sz : Nat) (v : Int32) (G : ha_St → ha_St → Prop) (z : ha_St ⊕ (Int32 × ha_St)) (w : (Int32 × ha_St) ⊕ (Int32 × ha_St)) : Prop := (∃ Y' N', z = .inl Y' ∧ w = .inl (v, N') ∧ F5 q X Y' ∧ F6 M N' ∧ SY b sz Y' N' ∧ G Y' N') ∨ (∃ Y' N', z = .inr (0, Y') ∧ w = .inr (0, N') ∧ FL q X M Y' N')
theorem ones_l (E : RdEnv q X M b sz) (v : Int32) : ∀ (d no i nx nm : Nat) (Y N : ha_St), no + d = 40 → i ≤ no → d + 2 ≤ nx → d + 1 ≤ nm → F5 q X Y → F6 M N → SY b sz Y N → ha_gI Y 3 3 ≠ -2 → PD q nr no na Y N → Tw (f_X9_readOnes_L19i 3 nx (1, nI i, Y)) (f_X12_readRule_L44i 0 nm (v, N)) (LQ q X M b sz v (fun Y' N' => ∃ no', PD q nr no' na Y' N')) := by
  intro d
  induction d with
  | zero =>
    intro no i nx nm Y N hd hi hx hm h5 h6 S ht h
    obtain ⟨nx, rfl⟩ : ∃ k, nx = k + 1 := ⟨nx - 1, by omega⟩
    obtain ⟨nm, rfl⟩ : ∃ k, nm = k + 1 := ⟨nm - 1, by omega⟩
    show Tw (f_X9_readOnes_L19 3 (f_X9_readOnes_L19i 3 nx) 1 (nI i) Y) (f_X12_readRule_L44 0 (f_X12_readRule_L44i 0 nm) v N) _
    unfold f_X9_readOnes_L19 f_X12_readRule_L44
    refine tw_el (show ¬ (40 : Int32) < nI i from nI_nlt (a := 40) (by omega) (by omega)) (tw_el ne10 ?_)
    obtain ⟨Y1, N1, s1, s2, s3, s4, s5⟩ := sg E h5 h6 S ht
    refine tw_bl s1 (tw_br s2 ?_)
    refine tw_bb (one_r E (F5_3 h5 s3) (F6_4 h6 s4) s5 (PD_34 E.1 s3 s4 h)) ?_
    rintro ⟨z, Z⟩ ⟨w, W⟩ (⟨-, -, -, -, -, e, -⟩ | ⟨e1, e2, e3⟩)
    · omega
    · dsimp only at e1 e2 e3 ⊢
      rw [e1, e2]
      exact tw_el (fun g => g rfl) (tw_er (fun g => g rfl) (tw_ss (Or.inr ⟨Z, W, rfl, rfl, e3⟩)))
  | succ d ih =>
    intro no i nx nm Y N hd hi hx hm h5 h6 S ht h
    obtain ⟨nx, rfl⟩ : ∃ k, nx = k + 1 := ⟨nx - 1, by omega⟩
    obtain ⟨nm, rfl⟩ : ∃ k, nm = k + 1 := ⟨nm - 1, by omega⟩
    show Tw (f_X9_readOnes_L19 3 (f_X9_readOnes_L19i 3 nx) 1 (nI i) Y) (f_X12_readRule_L44 0 (f_X12_readRule_L44i 0 nm) v N) _
    unfold f_X9_readOnes_L19 f_X12_readRule_L44 f_X9_readOnes_L19_J56
    refine tw_el (show ¬ (40 : Int32) < nI i from nI_nlt (a := 40) (by omega) (by omega)) (tw_el ne10 ?_)
    obtain ⟨Y1, N1, s1, s2, s3, s4, s5⟩ := sg E h5 h6 S ht
    refine tw_bl s1 (tw_br s2 ?_)
    refine tw_bb (one_r E (F5_3 h5 s3) (F6_4 h6 s4) s5 (PD_34 E.1 s3 s4 h)) ?_
    rintro ⟨z, Z⟩ ⟨w, W⟩ (⟨e1, e2, e3, e4, e5, e6, e7⟩ | ⟨e1, e2, e3⟩)
    · dsimp only at e1 e2 e3 e4 e5 e7 ⊢
      rw [e1, e2]
      refine tw_il ne10 (tw_ir ne10 (tw_br sp_11 ?_))
      rw [key_m e5.1 (by omega), pw_bs]
      by_cases c : ha_gI Z 3 3 = 111
      · rw [if_pos (show ha_gI Z 3 3 = nI (100 + 11) from c)]
        refine tw_el (fun g => g c) (tw_nl (tw_ir ne10 ?_))
        rw [nI_1]
        exact ih (no + 1) (i + 1) nx nm Z W (by omega) (by omega) (by omega) (by omega) e3 e4 e5 (by rw [c]; decide) e7
      · rw [if_neg (show ¬ ha_gI Z 3 3 = nI (100 + 11) from c)]
        refine tw_il c (tw_nl (tw_er (fun g => g rfl) ?_))
        obtain ⟨nx, rfl⟩ : ∃ k, nx = k + 1 := ⟨nx - 1, by omega⟩
        show Tw (f_X9_readOnes_L19 3 (f_X9_readOnes_L19i 3 nx) 0 (nI i + 1) Z) _ _
        unfold f_X9_readOnes_L19
        have fin : Tw (some (.inl Z) : Option (ha_St ⊕ (Int32 × ha_St))) (some (.inl (v, W)) : Option ((Int32 × ha_St) ⊕ (Int32 × ha_St))) (LQ q X M b sz v (fun Y' N' => ∃ no', PD q nr no' na Y' N')) := tw_ss (Or.inl ⟨Z, W, rfl, rfl, e3, e4, e5, no + 1, e7⟩)
        by_cases k : (40 : Int32) < nI i + 1
        · exact tw_il k fin
        · exact tw_el k (tw_il rfl fin)
    · dsimp only at e1 e2 e3 ⊢
      rw [e1, e2]
      exact tw_el (fun g => g rfl) (tw_er (fun g => g rfl) (tw_ss (Or.inr ⟨Z, W, rfl, rfl, e3⟩)))
theorem acts_l (E : RdEnv q X M b sz) (v : Int32) : ∀ (d na i nx nm : Nat) (Y N : ha_St), na + d = 40 → i ≤ na → d + 2 ≤ nx → d + 1 ≤ nm → F5 q X Y → F6 M N → SY b sz Y N → ha_gI Y 3 3 ≠ -2 → PD q nr no na Y N → Tw (f_X9_readActs_L4i 3 nx (1, nI i, Y)) (f_X12_readRule_L98i 0 nm (v, N)) (LQ q X M b sz v (fun Y' N' => ∃ na', PD q nr no na' Y' N')) := by
  intro d
  induction d with
  | zero =>
    intro na i nx nm Y N hd hi hx hm h5 h6 S ht h
    obtain ⟨nx, rfl⟩ : ∃ k, nx = k + 1 := ⟨nx - 1, by omega⟩
    obtain ⟨nm, rfl⟩ : ∃ k, nm = k + 1 := ⟨nm - 1, by omega⟩
    show Tw (f_X9_readActs_L4 3 (f_X9_readActs_L4i 3 nx) 1 (nI i) Y) (f_X12_readRule_L98 0 (f_X12_readRule_L98i 0 nm) v N) _
    unfold f_X9_readActs_L4 f_X12_readRule_L98
    refine tw_el (show ¬ (40 : Int32) < nI i from nI_nlt (a := 40) (by omega) (by omega)) (tw_el ne10 ?_)
    obtain ⟨Y1, N1, s1, s2, s3, s4, s5⟩ := sg E h5 h6 S ht
    refine tw_bl s1 (tw_br s2 ?_)
    refine tw_bb (act_r E (F5_3 h5 s3) (F6_4 h6 s4) s5 (PD_34 E.1 s3 s4 h)) ?_
    rintro ⟨z, Z⟩ ⟨w, W⟩ (⟨-, -, -, -, -, e⟩ | ⟨e1, e2, e3⟩)
    · have := e.2.2.1
      omega
    · dsimp only at e1 e2 e3 ⊢
      rw [e1, e2]
      exact tw_el (fun g => g rfl) (tw_er (fun g => g rfl) (tw_ss (Or.inr ⟨Z, W, rfl, rfl, e3⟩)))
  | succ d ih =>
    intro na i nx nm Y N hd hi hx hm h5 h6 S ht h
    obtain ⟨nx, rfl⟩ : ∃ k, nx = k + 1 := ⟨nx - 1, by omega⟩
    obtain ⟨nm, rfl⟩ : ∃ k, nm = k + 1 := ⟨nm - 1, by omega⟩
    show Tw (f_X9_readActs_L4 3 (f_X9_readActs_L4i 3 nx) 1 (nI i) Y) (f_X12_readRule_L98 0 (f_X12_readRule_L98i 0 nm) v N) _
    unfold f_X9_readActs_L4 f_X12_readRule_L98 f_X9_readActs_L4_J41
    refine tw_el (show ¬ (40 : Int32) < nI i from nI_nlt (a := 40) (by omega) (by omega)) (tw_el ne10 ?_)
    obtain ⟨Y1, N1, s1, s2, s3, s4, s5⟩ := sg E h5 h6 S ht
    refine tw_bl s1 (tw_br s2 ?_)
    refine tw_bb (act_r E (F5_3 h5 s3) (F6_4 h6 s4) s5 (PD_34 E.1 s3 s4 h)) ?_
    rintro ⟨z, Z⟩ ⟨w, W⟩ (⟨e1, e2, e3, e4, e5, e7⟩ | ⟨e1, e2, e3⟩)
    · dsimp only at e1 e2 e3 e4 e5 e7 ⊢
      rw [e1, e2]
      refine tw_il ne10 (tw_ir ne10 (tw_br (sg_44 e5.1) ?_))
      by_cases c : ha_gI Z 3 3 = 118
      · rw [if_pos c]
        refine tw_el (fun g => g c) (tw_nl (tw_ir ne10 ?_))
        rw [nI_1]
        exact ih (na + 1) (i + 1) nx nm Z W (by omega) (by omega) (by omega) (by omega) e3 e4 e5 (by rw [c]; decide) e7
      · rw [if_neg c]
        refine tw_il c (tw_nl (tw_er (fun g => g rfl) ?_))
        obtain ⟨nx, rfl⟩ : ∃ k, nx = k + 1 := ⟨nx - 1, by omega⟩
        show Tw (f_X9_readActs_L4 3 (f_X9_readActs_L4i 3 nx) 0 (nI i + 1) Z) _ _
        unfold f_X9_readActs_L4
        have fin : Tw (some (.inl Z) : Option (ha_St ⊕ (Int32 × ha_St))) (some (.inl (v, W)) : Option ((Int32 × ha_St) ⊕ (Int32 × ha_St))) (LQ q X M b sz v (fun Y' N' => ∃ na', PD q nr no na' Y' N')) := tw_ss (Or.inl ⟨Z, W, rfl, rfl, e3, e4, e5, na + 1, e7⟩)
        by_cases k : (40 : Int32) < nI i + 1
        · exact tw_il k fin
        · exact tw_el k (tw_il rfl fin)
    · dsimp only at e1 e2 e3 ⊢
      rw [e1, e2]
      exact tw_el (fun g => g rfl) (tw_er (fun g => g rfl) (tw_ss (Or.inr ⟨Z, W, rfl, rfl, e3⟩)))
/-- a rule closed -/
theorem close_x (hI : IR Y) (hq : 11 ≤ q ∧ q ≤ 15) (h8 : ha_gI Y q 8 = nI nr) (hnr : nr < 20) : ∃ A, f_X8_closeRule q Y = some A ∧ ha_gR A = ha_gR Y ∧ ha_gB A = ha_gB Y ∧ ha_gA A (100 + 16 * q) = upd (ha_gA Y (100 + 16 * q)) nr (ha_gI Y q 9) ∧ ha_gA A (101 + 16 * q) = upd (ha_gA Y (101 + 16 * q)) nr (ha_gI Y q 10) ∧ (∀ a, ¬ (100 + 16 * q ≤ a ∧ a ≤ 101 + 16 * q) → ha_gA A a = ha_gA Y a) ∧ ha_gI A q 8 = nI (nr + 1) ∧ ∀ o k, ¬ (o = q ∧ k = 8) → ha_gI A o k = ha_gI Y o k := by
  have l0 : xo_ln (100 + 16 * q) = 20 := by have := pgl hq.1 hq.2 0 (by omega); rw [show 100 + 16 * q + 0 = 100 + 16 * q by omega, if_pos (by omega)] at this; exact this
  have l1 : xo_ln (101 + 16 * q) = 20 := by have := pgl hq.1 hq.2 1 (by omega); rw [show 100 + 16 * q + 1 = 101 + 16 * q by omega, if_pos (by omega)] at this; exact this
  have r0 : ha_rf xo_kd Y q 0 100 = some (100 + 16 * q) := by rw [pgr hI hq.1 hq.2 0 (by omega)]; congr 1
  have r1 : ha_rf xo_kd Y q 1 100 = some (101 + 16 * q) := by rw [pgr hI hq.1 hq.2 1 (by omega)]; congr 1; omega
  have gd : ∀ n, n = 20 → ¬ (nI nr < 0 ∨ n ≤ (nI nr).toNatClampNeg) := fun n hn => by rw [hn]; exact n_in hnr (by omega)
  unfold f_X8_closeRule f_X8_closeRule_J45
  rw [h8, pw_ie (show ¬ (20 : Int32) ≤ nI nr from (nI_ge hnr (by omega) : ¬ nI 20 ≤ nI nr)), r0, pw_bs, pw_gd (gd _ l0), pw_nm, st_fA, r1, pw_bs, st_IA, h8, pw_gd (gd _ l1), pw_nm, pw_nm, nI_clamp (by omega)]
  refine ⟨_, rfl, rfl, rfl, ?_, ?_, fun a ha => ?_, ?_, fun o k hk => ?_⟩
  · rw [st_AI, st_AA, if_neg (by omega), st_AA, if_pos rfl]
  · rw [st_AI, st_AA, if_pos rfl, st_AA, if_neg (by omega), st_IA]
  · rw [st_AI, st_AA, if_neg (by omega), st_AA, if_neg (by omega)]
  · rw [st_II, if_pos ⟨rfl, rfl⟩, st_IA, st_IA, h8, nI_1]
  · rw [st_II, if_neg (by omega)]; rfl
theorem PD_rule {Y' N' : ha_St} (h : PD q nr no na Y N) (hnr : nr < 20) (y8 : ha_gI Y' q 8 = nI (nr + 1)) (yk : ∀ o k, ¬ (o = q ∧ k = 8) → ha_gI Y' o k = ha_gI Y o k) (hq : q ≠ 3) (c0 : ha_gA Y' (100 + 16 * q) = upd (ha_gA Y (100 + 16 * q)) nr (ha_gI Y q 9)) (c1 : ha_gA Y' (101 + 16 * q) = upd (ha_gA Y (101 + 16 * q)) nr (ha_gI Y q 10)) (c2 : ∀ a, ¬ (100 + 16 * q ≤ a ∧ a ≤ 101 + 16 * q) → ha_gA Y' a = ha_gA Y a) (n15 : ha_gA N' 15 3 = nI (nr + 1)) (n16 : ha_gA N' 16 = upd (ha_gA N 16) (60 + nr) (nI no)) (n17 : ha_gA N' 17 = upd (ha_gA N 17) (60 + nr) (nI na)) (n0 : ∀ a, ¬ (15 ≤ a ∧ a ≤ 17) → ha_gA N' a = ha_gA N a) (k0 : ∀ k, k = 11 ∨ k = 23 ∨ k = 24 → ha_gI N' 0 k = ha_gI N 0 k) : PD q (nr + 1) no na Y' N' := by
  obtain ⟨p1, p2, p3, p4, p5, p6, p7, p8, p9, p10, p11, p12, pR, pO, pA⟩ := h
  refine ⟨by omega, p2, p3, y8, n15, (yk q 9 (by omega)).trans p6, (k0 23 (by omega)).trans p7, (yk q 10 (by omega)).trans p8, (k0 24 (by omega)).trans p9, ?_, (yk 3 6 (by omega)).trans p11, (k0 11 (by omega)).trans p12, ?_, ?_, ?_⟩
  · rw [yk q 11 (by omega)]; exact p10
  · have rbo : ∀ (f g : Nat → Int32) (v : Int32) (i : Nat), i ≤ nr → g = upd f (60 + nr) v → rb g 60 i = rb f 60 i := by
      intro f g v i hi hg
      unfold rb
      by_cases e : i = 0
      · rw [if_pos e, if_pos e]
      · rw [if_neg e, if_neg e, hg, upd_n _ _ (by omega)]
    intro i hi
    rw [c0, c1, rbo _ _ _ i (by omega) n16, rbo _ _ _ i (by omega) n17, n16, n17]
    by_cases e : i = nr
    · subst e
      rw [upd_s, upd_s, upd_s, upd_s, p6, p8]
      have bo : rb (ha_gA N 16) 60 i ≤ no ∧ rb (ha_gA N 17) 60 i ≤ na := by
        unfold rb
        by_cases z : i = 0
        · rw [if_pos z, if_pos z]; omega
        · rw [if_neg z, if_neg z]
          have := pR (i - 1) (by omega)
          rw [show 60 + i - 1 = 60 + (i - 1) by omega]
          exact ⟨this.2.2.2.2.1, this.2.2.2.2.2⟩
      rw [nI_toInt (by omega), nI_toInt (by omega)]
      exact ⟨rfl, rfl, bo.1, bo.2, Int.le_refl _, Int.le_refl _⟩
    · rw [upd_n _ _ e, upd_n _ _ e, upd_n _ _ (by omega), upd_n _ _ (by omega)]
      exact pR i (by omega)
  · rw [yk q 11 (by omega), c2 _ (by omega), c2 _ (by omega), c2 _ (by omega), n0 18 (by omega), n0 19 (by omega), n0 20 (by omega)]
    exact pO
  · rw [yk q 11 (by omega), c2 _ (by omega), c2 _ (by omega), c2 _ (by omega), n0 21 (by omega), n0 22 (by omega), n0 23 (by omega)]
    exact pA
/-- the model's acts of a rule, to the rule's end -/
def mAct (v : Int32) (N : ha_St) : Option (Int32 × ha_St) := (f_X12_readRule_L98i 0 ha_fu (v, N)).bind (Sum.elim (fun z => f_X12_readRule_J120 0 z.1 z.2) (fun r => some r))
theorem acts_a (E : RdEnv q X M b sz) (h5 : F5 q X Y) (h6 : F6 M N) (S : SY b sz Y N) (ht : ha_gI Y 3 3 ≠ -2) (h : PD q nr no na Y N) (hnr : nr < 20) : (∃ Y' N', f_X9_readActs 3 Y = some (0, Y') ∧ mAct (nI nr) N = some (0, N') ∧ FL q X M Y' N') ∨ (∃ Y' C N' na', f_X9_readActs 3 Y = some (1, Y') ∧ ha_rf xo_kd Y' 3 2 8 = some q ∧ f_X8_closeRule q Y' = some C ∧ mAct (nI nr) N = some (1, N') ∧ F5 q X C ∧ F6 M N' ∧ SY b sz C N' ∧ PD q (nr + 1) no na' C N') := by
  have hq : 11 ≤ q ∧ q ≤ 15 := ⟨E.1, E.2.1⟩
  have hIM : ∀ {P : ha_St}, F6 M P → IM P := fun g => IM_c g.1 E.2.2.2.2.2.2.2.2.2.1
  have hIR : ∀ {P : ha_St}, F5 q X P → IR P := fun g => IR_c g.2.1 E.2.2.1
  have hna : na ≤ 40 := h.2.2.1
  obtain ⟨z, w, e1, e2, e3⟩ := acts_l E (nI nr) (40 - na) na 0 ha_fu ha_fu Y N (by omega) (by omega) (by unfold ha_fu; omega) (by unfold ha_fu; omega) h5 h6 S ht h
  unfold f_X9_readActs mAct
  rw [show ((1, 0, Y) : Int32 × Int32 × ha_St) = (1, nI 0, Y) from rfl, e1, e2, pw_bs, pw_bs]
  rcases e3 with ⟨Y1, N1, rfl, rfl, g5, g6, gS, na', gP⟩ | ⟨Y1, N1, rfl, rfl, gF⟩
  · rw [Sum.elim_inl, Sum.elim_inl]
    dsimp only
    unfold f_X9_readActs_J48 f_X12_readRule_J120
    rw [sg_59 gS.1, pw_bs]
    by_cases c : ha_gI Y1 3 3 = 117
    · obtain ⟨Y2, N2, t1, t2, t3, t4, t5⟩ := sg E g5 g6 gS (by rw [c]; decide)
      have f5 := F5_3 g5 t3
      have f6 := F6_4 g6 t4
      have fP := PD_34 hq.1 t3 t4 gP
      have fP' := fP
      obtain ⟨p1, p2, p3, p4, p5, p6, p7, p8, p9, p10, p11, p12, pR, pO, pA⟩ := fP'
      obtain ⟨C, b1, b2, b3, b4, b5, b6, b7, b8⟩ := close_x (hIR f5) hq p4 hnr
      rw [pw_it c, t1, pw_bs, if_pos c, pw_it (n1p (S := N1))]
      dsimp only
      rw [t2, pw_bs]
      have e60 : (60 : Int32) + nI nr = nI (60 + nr) := nI_add 60 nr
      rw [e60, mr (hIM f6) 15 100, pw_bs, pw_gd (by rw [ml_a.2.1]; exact n_in (by omega) (by omega)), pw_nm, nI_clamp (by omega), p7]
      generalize hQ1 : ha_sA N2 16 (upd (ha_gA N2 16) (60 + nr) (nI no)) = Q1
      have q6 : F6 M Q1 := by rw [← hQ1]; exact F6_u f6 (Or.inr (Or.inl ⟨Or.inl rfl, by omega⟩)) _
      have qI : ∀ k, ha_gI Q1 0 k = ha_gI N2 0 k := fun k => by rw [← hQ1]; rfl
      have qA : ha_gA Q1 16 = upd (ha_gA N2 16) (60 + nr) (nI no) := by rw [← hQ1, st_AA, if_pos rfl]
      have qB : ∀ a, a ≠ 16 → ha_gA Q1 a = ha_gA N2 a := fun a ha => by rw [← hQ1, st_AA, if_neg ha]
      have qS : SY b sz Y2 Q1 := by rw [← hQ1]; exact SY_n t5 (fun _ _ _ => rfl) rfl
      rw [mr (hIM q6) 16 100, pw_bs, pw_gd (by rw [ml_a.2.2.1]; exact n_in2 (by omega) (by omega)), pw_nm, qI 24, p9]
      generalize hQ2 : ha_sA Q1 17 (upd (ha_gA Q1 17) (60 + nr) (nI na')) = Q2
      have r6 : F6 M Q2 := by rw [← hQ2]; exact F6_u q6 (Or.inr (Or.inl ⟨Or.inr rfl, by omega⟩)) _
      have rI : ∀ k, ha_gI Q2 0 k = ha_gI N2 0 k := fun k => by rw [← hQ2]; exact qI k
      have rA : ha_gA Q2 17 = upd (ha_gA N2 17) (60 + nr) (nI na') := by rw [← hQ2, st_AA, if_pos rfl, qB 17 (by omega)]
      have rA2 : ha_gA Q2 16 = upd (ha_gA N2 16) (60 + nr) (nI no) := by rw [← hQ2, st_AA, if_neg (by omega)]; exact qA
      have rB : ∀ a, a ≠ 16 → a ≠ 17 → ha_gA Q2 a = ha_gA N2 a := fun a ha hb => by rw [← hQ2, st_AA, if_neg hb]; exact qB a ha
      have rS : SY b sz Y2 Q2 := by rw [← hQ2]; exact SY_n qS (fun _ _ _ => rfl) rfl
      have n3 : ¬ ((3 : Int32) < 0 ∨ mo_ln 15 ≤ (3 : Int32).toNatClampNeg) := by rw [ml_a.1]; decide
      have c3 : (3 : Int32).toNatClampNeg = 3 := rfl
      rw [mr (hIM r6) 14 100, pw_bs, pw_gd n3, pw_gd n3, pw_nm, c3]
      refine Or.inr ⟨Y2, C, _, na', rfl, rf_q E f5, b1, rfl, ?_, ?_, ?_, ?_⟩
      · exact ⟨b3.trans f5.1, b2.trans f5.2.1, fun a ha => (b6 a (by omega)).trans (f5.2.2.1 a ha), fun o k c d => (b8 o k (by omega)).trans (f5.2.2.2 o k c d)⟩
      · exact F6_u r6 (Or.inl ⟨rfl, rfl⟩) _
      · exact SY_y (SY_n rS (fun _ _ _ => rfl) rfl) (fun k k1 k2 => b8 3 k (by omega))
      · refine PD_rule fP hnr b7 b8 (by omega) b4 b5 b6 ?_ ?_ ?_ (fun a ha => ?_) (fun k hk => ?_)
        · rw [st_AA, if_pos rfl, upd_s, rB 15 (by omega) (by omega), p5, nI_1]
        · rw [st_AA, if_neg (by omega)]; exact rA2
        · rw [st_AA, if_neg (by omega)]; exact rA
        · rw [st_AA, if_neg (by omega)]; exact rB a (by omega) (by omega)
        · rw [st_IA]; exact rI k
    · rw [pw_ie c, ref_x, pw_bs, pw_gd (Or.inl rfl), if_neg c, pw_ie (n0p (S := N1)), bad_m, pw_bs, pw_gd (Or.inl rfl)]
      exact Or.inl ⟨_, _, rfl, rfl, fl_1 g5 g6 hq.1 gS 1 (Or.inl rfl)⟩
  · rw [Sum.elim_inr, Sum.elim_inr]
    exact Or.inl ⟨Y1, N1, rfl, rfl, gF⟩
theorem ones_a (E : RdEnv q X M b sz) (h5 : F5 q X Y) (h6 : F6 M N) (S : SY b sz Y N) (h : PD q nr no na Y N) (hnr : nr < 20) : (∃ Y' N', f_X9_readOnes 3 Y = some (0, Y') ∧ f_X12_readRule 0 N = some (0, N') ∧ FL q X M Y' N') ∨ (∃ Y' N' no', f_X9_readOnes 3 Y = some (1, Y') ∧ f_X12_readRule 0 N = mAct (nI nr) N' ∧ F5 q X Y' ∧ F6 M N' ∧ SY b sz Y' N' ∧ ha_gI Y' 3 3 ≠ -2 ∧ PD q nr no' na Y' N') := by
  have hq : 11 ≤ q ∧ q ≤ 15 := ⟨E.1, E.2.1⟩
  have hIM : ∀ {P : ha_St}, F6 M P → IM P := fun g => IM_c g.1 E.2.2.2.2.2.2.2.2.2.1
  unfold f_X9_readOnes f_X12_readRule
  rw [sp_10, pw_bs, key_m S.1 (by omega), pw_bs]
  by_cases c : ha_gI Y 3 3 = 110
  · have n3 : ¬ ((3 : Int32) < 0 ∨ mo_ln 15 ≤ (3 : Int32).toNatClampNeg) := by rw [ml_a.1]; decide
    have c3 : (3 : Int32).toNatClampNeg = 3 := rfl
    have hno : no ≤ 40 := h.2.1
    have h15 : ha_gA N 15 3 = nI nr := h.2.2.2.2.1
    obtain ⟨z, w, e1, e2, e3⟩ := ones_l E (nI nr) (40 - no) no 0 ha_fu ha_fu Y N (by omega) (by omega) (by unfold ha_fu; omega) (by unfold ha_fu; omega) h5 h6 S (by rw [c]; decide) h
    rw [if_pos (show ha_gI Y 3 3 = nI (100 + 10) from c), pw_it (n1p (S := N)), pw_it c]
    dsimp only
    rw [mr (hIM h6) 14 100, pw_bs, pw_gd n3, pw_nm, c3, h15, pw_it (show ¬ nI nr = 20 from fun g => by have := (nIeq (b := 20) (by omega) (by omega)).mp g; omega)]
    rw [show ((1, 0, Y) : Int32 × Int32 × ha_St) = (1, nI 0, Y) from rfl, e1, e2, pw_bs, pw_bs]
    rcases e3 with ⟨Y1, N1, rfl, rfl, g5, g6, gS, no', gP⟩ | ⟨Y1, N1, rfl, rfl, gF⟩
    · rw [Sum.elim_inl, Sum.elim_inl]
      dsimp only
      unfold f_X9_readOnes_J63 f_X12_readRule_J75 f_X9_readOnes_J80 f_X9_readOnes_J85
      rw [sp_12, pw_bs, key_m gS.1 (by omega), pw_bs]
      by_cases d : ha_gI Y1 3 3 = 112
      · rw [pw_it d, pw_gd (Or.inr rfl), if_pos (show ha_gI Y1 3 3 = nI (100 + 12) from d), pw_it (n1p (S := N1))]
        exact Or.inr ⟨Y1, N1, no', rfl, rfl, g5, g6, gS, by rw [d]; decide, gP⟩
      · rw [pw_ie d, ref_x, pw_bs, pw_it rfl, pw_gd (Or.inl rfl), if_neg (show ¬ ha_gI Y1 3 3 = nI (100 + 12) from d), pw_ie (n0p (S := N1)), bad_m, pw_bs, pw_gd (Or.inl rfl)]
        exact Or.inl ⟨_, _, rfl, rfl, fl_1 g5 g6 hq.1 gS 1 (Or.inl rfl)⟩
    · rw [Sum.elim_inr, Sum.elim_inr]
      exact Or.inl ⟨Y1, N1, rfl, rfl, gF⟩
  · rw [pw_ie c, ref_x, pw_bs, pw_gd (Or.inl rfl), if_neg (show ¬ ha_gI Y 3 3 = nI (100 + 10) from c), pw_ie (n0p (S := N)), bad_m, pw_bs, pw_gd (Or.inl rfl)]
    exact Or.inl ⟨_, _, rfl, rfl, fl_1 h5 h6 hq.1 S 1 (Or.inl rfl)⟩
end RDC
