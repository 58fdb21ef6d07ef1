theorem far_w {n T V W a : Nat} (h3 : 3 ≤ n) (hW : W = if T < V then T else V) (h1 : W * (n - 1) ≤ a) (h2 : a < V * (n - 1)) {M : ha_St} {m : Nat} (f : Nat → Nat → Bool) : rn M m n (ad f n a) T = rn M m n f T := by
  have c : T < V := Nat.not_le.mp fun h => by
    rw [if_neg (by omega)] at hW
    subst hW
    omega
  rw [if_pos c] at hW
  subst hW
  have : W ≤ a / (n - 1) := (Nat.le_div_iff_mul_le (by omega)).mpr h1
  exact rn_cg _ (fun t t1 t2 => ad_ne (by unfold tk; omega))
theorem e_broken {X M : ha_St} (hI : Inv X M) (v w : Int32) : Agr (f_X11_broken 0 v w X) (f_X12_broken 0 v w M) := by
  have hT0 := inv_thr 0 hI
  obtain ⟨m, n, hC, hM, hW, h25, hfg⟩ := inv_cx hI
  have h3 : 3 ≤ n := hM.2.2.2.2.2.2.1
  have hn16 : n ≤ 16 := hM.2.2.2.2.2.2.2.1
  have h4 : ha_gI M 0 4 = nI n := hM.2.2.2.1
  have bad : (v < 0 ∨ (60 : Int32) < v) ∨ (w < 0 ∨ (10 : Int32) < w) ∨ ¬ n ≤ 8 → f_X11_broken 0 v w X = some (-2, X) ∧ f_X12_broken 0 v w M = some (-2, ha_sI M 0 0 0) := by
    intro h
    constructor
    · unfold f_X11_broken f_X11_broken_J32
      simp only [pw_bs, xr hC.1 0 1 1 2, xr hC.1 0 4 0 5, h25]
      by_cases c1 : v < 0
      · rw [pw_it c1]
      · rw [pw_ie c1]
        by_cases c2 : (60 : Int32) < v
        · rw [pw_it c2]
        · rw [pw_ie c2]
          by_cases c3 : w < 0
          · rw [pw_it c3]
          · rw [pw_ie c3]
            by_cases c4 : (10 : Int32) < w
            · rw [pw_it c4]
            · rw [pw_ie c4]
              have hn : ¬ n ≤ 8 := by
                rcases h with h | h | h
                · exact absurd h (fun g => g.elim c1 c2)
                · exact absurd h (fun g => g.elim c3 c4)
                · exact h
              rw [pw_ie (show ¬ nI n ≤ (8 : Int32) from nI_ge (a := 8) (by omega) (by omega))]
    · unfold f_X12_broken f_X12_broken_J34
      rw [pw_nm, isIn_eq, pw_bs]
      by_cases c1 : v < 0 ∨ (60 : Int32) < v
      · rw [if_pos c1, pw_it rfl]
      · rw [if_neg c1, pw_ie (by decide), isIn_eq, pw_bs]
        by_cases c2 : w < 0 ∨ (10 : Int32) < w
        · rw [if_pos c2, pw_it rfl]
        · rw [if_neg c2, pw_ie (by decide), show ha_gI (ha_sI M 0 0 0) 0 4 = nI n from h4]
          have hn : ¬ n ≤ 8 := by
            rcases h with h | h | h
            · exact absurd h c1
            · exact absurd h c2
            · exact h
          rw [pw_ie (show ¬ nI n ≤ (8 : Int32) from nI_ge (a := 8) (by omega) (by omega))]
  by_cases hb : (v < 0 ∨ (60 : Int32) < v) ∨ (w < 0 ∨ (10 : Int32) < w) ∨ ¬ n ≤ 8
  · rw [(bad hb).1, (bad hb).2]
    exact agr_mk rfl hT0
  · clear bad
    have z10 : (10 : Int32).toInt = 10 := rfl
    have hv : (0 ≤ v.toInt ∧ v.toInt ≤ 60) ∧ (0 ≤ w.toInt ∧ w.toInt ≤ 10) ∧ n ≤ 8 := by
      rw [i_lt, i_lt, i_lt, i_lt, z_0, z_60, z10] at hb
      omega
    obtain ⟨hv1, hv2, hn⟩ := hv
    clear hb
    obtain ⟨T, hT, rfl⟩ := n_of (N := 60) hv1.1 hv1.2
    obtain ⟨V, hV, rfl⟩ := n_of (N := 10) hv2.1 hv2.2
    refine agr_ok ?_
    unfold f_X11_broken
    refine ok_ie (nI_pos (by omega)) (ok_ie (show ¬ nI 60 < nI T from nI_nlt hT (by omega)) (ok_ie (nI_pos (by omega)) (ok_ie (show ¬ nI 10 < nI V from nI_nlt hV (by omega)) (ok_b (xr hC.1 0 1 1 2) ?_))))
    rw [h25]
    refine ok_it (show nI n ≤ nI 8 from nI_le hn (by omega)) (ok_b (xr hC.1 0 4 0 5) (ok_b (xr hC.1 0 1 1 2) (ok_bind (search_x hC hI.2.1 hW h3 hn hT hV h25) ?_)))
    rintro ⟨az, X1⟩ ⟨fd, a, b, Y, s1, s2, s3⟩
    refine ok_some ?_
    dsimp only at s1 s2 s3 ⊢
    generalize hWe : (if T < V then T else V) = W at *
    generalize hfe : (fun (tick g : Nat) => bq (ha_gA X 134 tick) g) = f0 at *
    have hfq : ∀ tick, 1 ≤ tick → tick ≤ 500 → ∀ g, g < 15 → (f0 tick g = true ↔ fogQ M g tick) := fun t t1 t2 g hg => by rw [← hfe]; exact hfg t t1 t2 g hg
    have hWV : W ≤ V := by rw [← hWe]; by_cases c : T < V <;> simp [c]; omega
    have hSN : W * (n - 1) ≤ V * (n - 1) := Nat.mul_le_mul_right _ hWV
    have hN : V * (n - 1) ≤ 70 := Nat.le_trans (Nat.mul_le_mul hV (show n - 1 ≤ 7 by omega)) (by omega)
    have hf0 : FB M (ha_sI M 0 0 0) := ⟨rfl, fun k a b c => by rw [st_II, if_neg (by omega)], fun _ _ _ _ _ => rfl⟩
    have hM0 := CM_b hf0 hM
    -- the model
    have key : Ok (f_X12_broken 0 (nI T) (nI V) M) (fun z => z.1 = az ∧ FB M z.2 ∧ ((fd = 3 ∧ KB M z.2) ∨ (fd < 3 ∧ FM z.2 n fd a b))) := by
      unfold f_X12_broken
      rw [pw_nm]
      refine ok_b (isIn_eq _ _ _) ?_
      rw [if_neg (show ¬ (nI T < 0 ∨ (60 : Int32) < nI T) from fun h => h.elim (nI_pos (by omega)) (nI_nlt (a := 60) hT (by omega)))]
      refine ok_ie (by decide) (ok_b (isIn_eq _ _ _) ?_)
      rw [if_neg (show ¬ (nI V < 0 ∨ (10 : Int32) < nI V) from fun h => h.elim (nI_pos (by omega)) (nI_nlt (a := 10) hV (by omega))), show ha_gI (ha_sI M 0 0 0) 0 4 = nI n from h4]
      refine ok_ie (by decide) (ok_it (show nI n ≤ nI 8 from nI_le hn (by omega)) ?_)
      rw [pw_nm, n_sub1 (by omega), nI_mul]
      refine ok_bind (try0 (f0 := f0) hM0 hT (fun t t1 t2 g hg => by rw [fogQ_b hf0]; exact hfq t t1 t2 g hg)) ?_
      rintro ⟨tz, M1⟩ ⟨t1, t2⟩
      dsimp only at t1 t2 ⊢
      have F1 := FB_t hf0 t1
      have hM1 := CM_b F1 hM
      have hfq1 : ∀ tick, 1 ≤ tick → tick ≤ 500 → ∀ g, g < 15 → (f0 tick g = true ↔ fogQ M1 g tick) := fun t t1 t2 g hg => by rw [fogQ_b F1]; exact hfq t t1 t2 g hg
      have ones : (∀ a, a < W * (n - 1) → out m (rn M m n (ad f0 n a) T) = 0) → out m (rn M m n f0 T) = 0 → ∀ a, a < V * (n - 1) → out m (rn M m n (ad f0 n a) T) = 0 := fun h h0 a ha => by
        by_cases c : a < W * (n - 1)
        · exact h a c
        · rw [far_w h3 hWe.symm (by omega) ha]; exact h0
      have kk : KB M (ha_sI M 0 0 0) := ⟨rfl, rfl, rfl⟩
      rcases s1 with ⟨e1, e2, e3⟩ | ⟨e1, e2, e3, e4, e5, e6⟩ | ⟨e1, e2, e3, e4, e5, e6, e7, e8⟩ | ⟨e1, e2, e3, e4, e5⟩
      · rcases t2 with ⟨-, q, -⟩ | ⟨t2, t3, t4⟩
        · exact absurd q e3
        · rw [t2]
          refine ok_ie (by decide) (ok_some ⟨e1.symm, F1, Or.inr ⟨by omega, ?_⟩⟩)
          rw [e2]
          exact ⟨t4.1, fun h => by omega, fun h => by omega⟩
      · rcases t2 with ⟨t2, -, t4⟩ | ⟨-, q, -⟩
        · rw [t2]
          refine ok_it rfl (ok_bind (blp1 (e := a) (N := V * (n - 1)) (f0 := f0) hM1 hT hn hN (by omega) hfq1 e5 (fun _ => e6)) ?_)
          rintro z ⟨Z, z1, ⟨h, -⟩ | ⟨-, rfl, z3⟩⟩
          · omega
          · refine ok_some ⟨e1.symm, FB_t F1 z1, Or.inr ⟨by omega, ?_⟩⟩
            rw [e2]
            exact ⟨z3.1, z3.2.1, fun h => by omega⟩
        · exact absurd e3 q
      · rcases t2 with ⟨t2, -, t4⟩ | ⟨-, q, -⟩
        · rw [t2]
          have o := ones e4 e3
          refine ok_it rfl (ok_bind (blp1 (e := V * (n - 1)) (N := V * (n - 1)) (f0 := f0) hM1 hT hn hN (Nat.le_refl _) hfq1 o (fun h => by omega)) ?_)
          rintro z ⟨Z, z1, ⟨-, rfl, z3⟩ | ⟨h, -⟩⟩
          · show Ok (f_X12_broken_J86 0 (nI T) (nI V) (nI (V * (n - 1))) Z) _
            have FZ := FB_t F1 z1
            refine ok_mono (blp3 (a := a) (e := b) (f0 := f0) (CM_b FZ hM) hT hn hN (by omega) (fun _ => ⟨e5, by omega⟩) (fun t t1 t2 g hg => by rw [fogQ_b FZ]; exact hfq t t1 t2 g hg) (fun a' b' h1 h2 h3' => ?_) (fun _ => e8)) ?_
            · by_cases c : b' < W * (n - 1)
              · exact e7 a' b' h1 c h3'
              · rw [far_w h3 hWe.symm (by omega) h2]; exact o a' (by omega)
            · rintro ⟨yz, Z2⟩ ⟨y1, ⟨h, -⟩ | ⟨-, y2, y3⟩⟩
              · omega
              · dsimp only at y1 y2 y3 ⊢
                exact ⟨by rw [y2, e1], FB_t FZ y1, Or.inr ⟨by omega, by rw [e2]; exact y3⟩⟩
          · omega
        · exact absurd e3 q
      · rcases t2 with ⟨t2, -, t4⟩ | ⟨-, q, -⟩
        · rw [t2]
          have o := ones e4 e3
          refine ok_it rfl (ok_bind (blp1 (e := V * (n - 1)) (N := V * (n - 1)) (f0 := f0) hM1 hT hn hN (Nat.le_refl _) hfq1 o (fun h => by omega)) ?_)
          rintro z ⟨Z, z1, ⟨-, rfl, z3⟩ | ⟨h, -⟩⟩
          · show Ok (f_X12_broken_J86 0 (nI T) (nI V) (nI (V * (n - 1))) Z) _
            have FZ := FB_t F1 z1
            refine ok_mono (blp3 (a := V * (n - 1)) (e := 0) (f0 := f0) (CM_b FZ hM) hT hn hN (Nat.le_refl _) (fun h => by omega) (fun t t1 t2 g hg => by rw [fogQ_b FZ]; exact hfq t t1 t2 g hg) (fun a' b' h1 h2 h3' => ?_) (fun h => by omega)) ?_
            · by_cases c : b' < W * (n - 1)
              · exact e5 a' b' h1 c
              · rw [far_w h3 hWe.symm (by omega) h2]; exact o a' (by omega)
            · rintro ⟨yz, Z2⟩ ⟨y1, ⟨-, y2, y3⟩ | ⟨h, -⟩⟩
              · dsimp only at y1 y2 y3 ⊢
                exact ⟨by rw [y2, e1], FB_t FZ y1, Or.inl ⟨e2, KB_t (KB_t (KB_t kk t4) z3) y3⟩⟩
              · omega
          · omega
        · exact absurd e3 q
    refine ok_mono key ?_
    rintro ⟨mz, M1⟩ ⟨k1, k2, k3⟩
    dsimp only at k1 k2 k3 ⊢
    refine ⟨k1.symm, ?_⟩
    -- the state
    obtain ⟨b1, b2, b3, b4, b5, b6, b7, b8, b9, b10⟩ := s2
    have hI7 := hI.2.2.2.2.2.2.2.2.2.1
    have hI8 := hI.2.2.2.2.2.2.2.2.2.2.1
    have fin : ∀ Z : ha_St, ha_gR Z = ha_gR Y → ha_gB Z = ha_gB Y → (∀ o k, ¬ (o = 5 ∧ k = 10) → ha_gI Z o k = ha_gI Y o k) → (∀ x, x ≠ 188 → x ≠ 189 → ha_gA Z x = ha_gA Y x) → I8 Z M1 → Inv Z M1 := by
      intro Z r1 r2 r3 r4 r8
      have ri : ∀ o k, o ≠ 5 → o < 17 → ha_gI Z o k = ha_gI X o k := fun o k h1 h2 => (r3 o k (by omega)).trans (b4 o k h1 h2)
      have ra : ∀ x, x < 135 ∨ (137 ≤ x ∧ x < 183) ∨ (190 ≤ x ∧ x ≤ 371) ∨ 2000 ≤ x → ha_gA Z x = ha_gA X x := fun x hx => (r4 x (by omega) (by omega)).trans (b5 x (by omega))
      have mi : ∀ k, k ≠ 0 → ¬ (37 ≤ k ∧ k ≤ 48) → k ≠ 62 → ha_gI M1 0 k = ha_gI M 0 k := k2.2.1
      have mA : ∀ x, 50 ≤ x → x ≤ 53 → ha_gA M1 x = ha_gA M x := fun x h1 h2 => k2.2.2 x (by omega) (by omega) (by omega) (by omega)
      refine inv_ln hI (r1.trans b3.2) (r2.trans b3.1) (fun o k h1 h2 h3 => ri o k h3 (by omega)) (fun x hx => ra x (by omega)) ?_ k2.1 (fun k h1 h2 h3 h4 => mi k h1 h2 h4) (fun x h1 h2 h3 h4 h5 => k2.2.2 x h1 h2 h4 h5) ?_ r8
      · unfold WNx at b2 ⊢
        rw [r4 136 (by omega) (by omega)]; exact b2
      · exact I7_c (ri 4 2 (by omega) (by omega)) (ri 16 5 (by omega) (by omega)) (ri 16 4 (by omega) (by omega)) (ri 4 4 (by omega) (by omega)) (ri 16 7 (by omega) (by omega)) (ri 4 3 (by omega) (by omega)) (ri 16 6 (by omega) (by omega)) (ra 165 (by omega)) (ra 358 (by omega)) (ra 357 (by omega)) (ra 359 (by omega)) (mi 53 (by omega) (by omega) (by omega)) (mi 54 (by omega) (by omega) (by omega)) (mi 55 (by omega) (by omega) (by omega)) (mi 56 (by omega) (by omega) (by omega)) (mi 57 (by omega) (by omega) (by omega)) (mi 58 (by omega) (by omega) (by omega)) (mi 59 (by omega) (by omega) (by omega)) (mA 50 (by omega) (by omega)) (mA 51 (by omega) (by omega)) (mA 52 (by omega) (by omega)) (mA 53 (by omega) (by omega)) hI7
    rcases s3 with ⟨s3, s4⟩ | ⟨s3, f, g, s4, s5, s6⟩
    · rcases k3 with ⟨-, k4⟩ | ⟨k3, -⟩
      · rw [s4]
        exact fin Y rfl rfl (fun _ _ _ => rfl) (fun _ _ _ => rfl) (I8_c b10 (b5 188 (by omega)) (b5 189 (by omega)) k4.1 k4.2.1 k4.2.2 hI8)
      · omega
    · rcases k3 with ⟨k3, -⟩ | ⟨-, k4, k5, k6⟩
      · omega
      · unfold FD1 at s4
        rw [s4]
        refine fin _ rfl rfl (fun o k h => by rw [st_II, if_neg h]; rfl) (fun x h1 h2 => by rw [st_AI, st_AA, if_neg h2, st_AA, if_neg h1]) ⟨Or.inl ?_, ?_, ?_, fun k hk => ?_⟩
        · rw [st_II, if_pos ⟨rfl, rfl⟩, k4]
        · rw [k4, nI_toInt (by omega)]; omega
        · rw [k4, nI_toInt (by omega)]; omega
        · rw [k4, nI_toInt (by omega)] at hk
          rw [st_AI, st_AA, if_neg (by omega), st_AA, if_pos rfl, st_AI, st_AA, if_pos rfl]
          rcases (show k = 0 ∨ k = 1 by omega) with rfl | rfl
          · obtain ⟨p1, p2⟩ := s5 (by omega)
            obtain ⟨q1, q2⟩ := k5 (by omega)
            exact ⟨by rw [p1, q1], by rw [p2, q2]⟩
          · obtain ⟨p1, p2⟩ := s6 (by omega)
            obtain ⟨q1, q2⟩ := k6 (by omega)
            exact ⟨by rw [p1, q1], by rw [p2, q2]⟩
