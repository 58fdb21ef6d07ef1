theorem ntm_eq {b : Int32} (h : 0 ≤ b.toInt ∧ b.toInt ≤ 99) : (if (99 : Int32) < b + 1 then 99 else b + 1) = ntm b true := by
  unfold ntm
  rw [if_pos (show true = true from rfl)]
  have z99 : (99 : Int32).toInt = 99 := rfl
  have ha : (b + 1).toInt = b.toInt + 1 := by rw [i_add (by rw [z_1]; omega) (by rw [z_1]; omega), z_1]
  by_cases d : 99 ≤ b.toInt
  · rw [if_pos d, if_pos (show (99 : Int32) < b + 1 by rw [i_lt, ha, z99]; omega)]
  · rw [if_neg d, if_neg (show ¬ (99 : Int32) < b + 1 by rw [i_lt, ha, z99]; omega)]
/-- a tick of line l in the class -/
theorem move_x {X M : ha_St} {m n l tick : Nat} {more : Int32} {fg : Nat → Bool} {L : LNS} (hC : CX X M m) (hl : isLn l) (hr : n ≤ rom l) (h3 : 3 ≤ n) (htk : tick ≤ 500) (hfg : ∀ g, g < 15 → (bq (ha_gA X 134 tick ||| more) g = false ↔ fg g = false)) (hW : WNx X) (hL : RX X l n L) (hI : LIn M m L) : Ok (f_X1_move 2 l (nI tick) more X) (fun z => ((z.1 = 1 ∧ chg n L (stp M m n fg L)) ∨ (z.1 = 0 ∧ ¬ chg n L (stp M m n fg L))) ∧ RX z.2 l n (stp M m n fg L) ∧ FX X z.2 l ∧ WNx z.2) := by
  have hp := cx_pva hC
  have hIR := hC.1
  have hm : m ≤ 60 := hC.2.2.1
  have hrl := rom_le l
  have hlb : 16 ≤ l := by unfold isLn at hl; omega
  have hx4 : xo_ln 134 = 501 := by decide +kernel
  have hx5 : xo_ln 135 = 16 := by decide +kernel
  have hx6 : xo_ln 136 = 110 := by decide +kernel
  have hx2 : xo_ln 132 = 3 := by decide +kernel
  obtain ⟨l1, l2, l3, l4, l5, l6, l7, l8⟩ := hL
  have hI' := li_stp (n := n) (fg := fg) hm hp hI
  have hTI : ∀ t, TI M m (decide (t = 0)) (decide (t + 1 = n)) (wv M m n fg L t, L.2.2.2) (tws M m n fg L t) := fun t => ti_tws hm hp hI
  unfold f_X1_move
  refine ok_ie (nI_pos (by omega)) (ok_ie (show ¬ nI 500 < nI tick from nI_nlt htk (by omega)) (ok_b (xr hIR 2 2 100 134) (ok_gd (by rw [hx4]; exact n_in (by omega) (by omega)) ?_)))
  rw [nI_clamp (by omega)]
  unfold f_X1_move_J21
  simp only [pw_nm]
  refine ok_b (lr0 hIR hl) (ok_b (xr hIR 2 3 100 135) ?_)
  rw [l1, l5, l6, ll0 hl, hx5]
  refine ok_gd ⟨by decide, by decide, nI_pos (by omega), ?_, ?_⟩ ?_
  · rw [nI_clamp (by omega)]
    show 0 + n ≤ rom l
    omega
  · rw [nI_clamp (by omega)]
    show 0 + n ≤ 16
    omega
  rw [nI_clamp (by omega)]
  generalize hY0 : ha_sA X 135 (va_cpy (ha_gA X (100 + 16 * l)) (ha_gA X 135) (0 : Int32).toNatClampNeg (0 : Int32).toNatClampNeg n) = Y0
  have y0a : ∀ a, a ≠ 135 → ha_gA Y0 a = ha_gA X a := fun a h => by rw [← hY0, st_AA, if_neg h]
  have y0i : ∀ o k, ha_gI Y0 o k = ha_gI X o k := fun o k => by rw [← hY0]; rfl
  have y0h : ∀ u, u < n → ha_gA Y0 135 u = L.1 u := by
    intro u hu
    rw [← hY0, st_AA, if_pos rfl]
    show (if 0 ≤ u ∧ u < 0 + n then ha_gA X (100 + 16 * l) (0 + (u - 0)) else _) = _
    rw [if_pos (by omega), show 0 + (u - 0) = u by omega, l2 u hu]
  have y0f : FX X Y0 l := ⟨by rw [← hY0]; rfl, by rw [← hY0]; rfl, fun o k _ => y0i o k, y0i l 4, fun a h1 _ _ => y0a a h1⟩
  generalize hL' : stp M m n fg L = L' at *
  have hLs : ∀ t, L'.1 t = (tws M m n fg L t).1 102 := fun t => by rw [← hL']; rfl
  have hLt : ∀ t, L'.2.1 t = ntm (L.2.1 t) (decide (L'.1 t = L.1 t)) := fun t => by rw [← hL']; rfl
  have hLc : ∀ t c, c < 4 → L'.2.2.1 (4 * t + c) = (tws M m n fg L t).1 (106 + c) := fun t c h => by rw [← hL']; exact stp_c h
  have hLr : L'.2.2.2.2 = (tws M m n fg L (n - 1)).2.2 := by rw [← hL']; rfl
  refine ok_bind (P := fun z => ∃ v7 Y, z = (nI L.2.2.2.1, nI L.2.2.2.2.1, v7, Y) ∧ RX Y l n L' ∧ FX X Y l ∧ WNx Y ∧ ((v7 = 1 ∧ ∃ u, u < n ∧ chT L L' u) ∨ (v7 = 0 ∧ ∀ u, u < n → ¬ chT L L' u))) ?_ ?_
  · refine ok_for (fun i (z : Int32 × ha_St) => (ha_gA X 134 tick ||| more, nI L.2.2.2.1, nI L.2.2.2.2.1, z.1, nI i, z.2)) 0 n (fun i z => FX X z.2 l ∧ WNx z.2 ∧ (∀ u, u < n → ha_gA z.2 135 u = L.1 u) ∧ (∀ u, u < n → ha_gA z.2 (100 + 16 * l) u = if u < i then L'.1 u else L.1 u) ∧ (∀ u, u < n → ha_gA z.2 (101 + 16 * l) u = if u < i then L'.2.1 u else L.2.1 u) ∧ (∀ j, j < 4 * n → ha_gA z.2 (102 + 16 * l) j = if j < 4 * i then L'.2.2.1 j else L.2.2.1 j) ∧ ha_gI z.2 l 6 = nI (scu L L' i) ∧ (∃ r : Nat × Int32 × (Nat → Int32), (r = if i = n then L'.2.2.2.2 else L.2.2.2.2) ∧ ha_gI z.2 l 5 = nI r.1 ∧ ha_gI z.2 l 7 = r.2.1 ∧ (l = 16 → ∀ k, k < r.1 → ha_gA z.2 (103 + 16 * l) k = r.2.2 k)) ∧ ((z.1 = 1 ∧ ∃ u, u < i ∧ chT L L' u) ∨ (z.1 = 0 ∧ ∀ u, u < i → ¬ chT L L' u))) _ (0, Y0) ?_ (by omega) (by omega) ?_ ?_
    · refine ⟨y0f, ⟨fun i hi => by rw [y0a 136 (by omega)]; exact hW.1 i hi, by rw [y0a 136 (by omega)]; exact hW.2⟩, y0h, fun u hu => ?_, fun u hu => ?_, fun j hj => ?_, ?_, ⟨L.2.2.2.2, by rw [if_neg (by omega)], by rw [y0i]; exact l6, by rw [y0i]; exact l7, fun h k hk => by rw [y0a _ (by omega)]; exact l8 h k hk⟩, Or.inr ⟨rfl, fun u hu => by omega⟩⟩
      · rw [y0a _ (by omega), if_neg (by omega)]; exact l2 u hu
      · rw [y0a _ (by omega), if_neg (by omega)]; exact l3 u hu
      · rw [y0a _ (by omega), if_neg (by omega)]; exact l4 j hj
      · rw [y0i]; exact l5
    · rintro f t ⟨v7, Y⟩ ht ⟨i1, i2, i3, i4, i5, i6, i7, ⟨r, r1, r2, r3, r4⟩, i9⟩ ih
      dsimp only at i1 i2 i3 i4 i5 i6 i7 r2 r3 r4 i9
      rw [if_neg (by omega)] at r1
      subst r1
      have hCY := CX_f hl i1 hC
      have hnY : ha_gI Y l 4 = nI n := i1.2.2.2.1.trans l1
      show Ok (f_X1_move_L60 2 l (nI tick) more f (ha_gA X 134 tick ||| more) (nI L.2.2.2.1) (nI L.2.2.2.2.1) v7 (nI t) Y) _
      -- the time, and on
      have tail : ∀ (v' : Int32) (Z : ha_St), FX Y Z l → WNx Z → ha_gA Z 135 = ha_gA Y 135 → (∀ u, u < n → ha_gA Z (100 + 16 * l) u = if u = t then (tws M m n fg L t).1 102 else ha_gA Y (100 + 16 * l) u) → ha_gA Z (101 + 16 * l) = ha_gA Y (101 + 16 * l) → (∀ j, j < 4 * n → ha_gA Z (102 + 16 * l) j = if 4 * t ≤ j ∧ j < 4 * t + 4 then (tws M m n fg L t).1 (106 + (j - 4 * t)) else ha_gA Y (102 + 16 * l) j) → ha_gI Z l 6 = nI L'.2.2.2.1 → ha_gI Z l 5 = nI (tws M m n fg L t).2.2.1 → ha_gI Z l 7 = (tws M m n fg L t).2.2.2.1 → (l = 16 → ∀ k, k < (tws M m n fg L t).2.2.1 → ha_gA Z (103 + 16 * l) k = (tws M m n fg L t).2.2.2.2 k) → ((v' = 1 ∧ (v7 = 1 ∨ chT L L' t)) ∨ (v' = 0 ∧ v7 = 0 ∧ ¬ chT L L' t)) → Ok (f_X1_move_L60_J131 2 l (nI tick) more f (ha_gA X 134 tick ||| more) (nI L.2.2.2.1) (nI L.2.2.2.2.1) v' (nI t) Z) (fun z => ∃ v7 Y, z = (nI L.2.2.2.1, nI L.2.2.2.2.1, v7, Y) ∧ RX Y l n L' ∧ FX X Y l ∧ WNx Y ∧ ((v7 = 1 ∧ ∃ u, u < n ∧ chT L L' u) ∨ (v7 = 0 ∧ ∀ u, u < n → ¬ chT L L' u))) := by
        intro v' Z z1 z2 z3 z4 z5 z6 z7 z8 z9 z10 z11
        have hIZ : IR Z := IR_c z1.1 hCY.1
        have go : ∀ x : Int32, x = L'.2.1 t → Ok (f_X1_move_L60_J184 2 l (nI tick) more f (ha_gA X 134 tick ||| more) (nI L.2.2.2.1) (nI L.2.2.2.2.1) v' (nI t) (101 + 16 * l) (nI t) x Z) (fun z => ∃ v7 Y, z = (nI L.2.2.2.1, nI L.2.2.2.2.1, v7, Y) ∧ RX Y l n L' ∧ FX X Y l ∧ WNx Y ∧ ((v7 = 1 ∧ ∃ u, u < n ∧ chT L L' u) ∨ (v7 = 0 ∧ ∀ u, u < n → ¬ chT L L' u))) := by
          intro x hx
          unfold f_X1_move_L60_J184
          simp only [pw_nm, nI_1]
          refine ok_gd (by rw [ll1 hl]; exact n_in (by omega) (by omega)) ?_
          rw [nI_clamp (by omega)]
          have za : ∀ a, a ≠ 101 + 16 * l → ha_gA (ha_sA Z (101 + 16 * l) (upd (ha_gA Z (101 + 16 * l)) t x)) a = ha_gA Z a := fun a h => by rw [st_AA, if_neg h]
          refine ih (v', ha_sA Z (101 + 16 * l) (upd (ha_gA Z (101 + 16 * l)) t x)) ⟨FX_t i1 (FX_t z1 ⟨rfl, rfl, fun _ _ _ => rfl, rfl, fun a h1 h2 h3 => by rw [st_AA, if_neg (by omega)]⟩), ?_, fun u hu => ?_, fun u hu => ?_, fun u hu => ?_, fun j hj => ?_, ?_, ⟨(tws M m n fg L t).2.2, ?_, z8, z9, fun h k hk => ?_⟩, ?_⟩
          · exact ⟨fun i hi => by rw [za 136 (by omega)]; exact z2.1 i hi, by rw [za 136 (by omega)]; exact z2.2⟩
          · rw [za 135 (by omega), z3]; exact i3 u hu
          · rw [za _ (by omega), z4 u hu]
            by_cases e : u = t
            · rw [if_pos e, if_pos (by omega), hLs, e]
            · rw [if_neg e, i4 u hu]
              by_cases e2 : u < t
              · rw [if_pos e2, if_pos (by omega)]
              · rw [if_neg e2, if_neg (by omega)]
          · rw [st_AA, if_pos rfl]
            by_cases e : u = t
            · rw [e, pk_us, if_pos (by omega)]; exact hx
            · rw [pk_un e, z5, i5 u hu]
              by_cases e2 : u < t
              · rw [if_pos e2, if_pos (by omega)]
              · rw [if_neg e2, if_neg (by omega)]
          · rw [za _ (by omega), z6 j hj]
            by_cases e : 4 * t ≤ j ∧ j < 4 * t + 4
            · rw [if_pos e, if_pos (by omega), ← hLc t _ (by omega), show 4 * t + (j - 4 * t) = j by omega]
            · rw [if_neg e, i6 j hj]
              by_cases e2 : j < 4 * t
              · rw [if_pos e2, if_pos (by omega)]
              · rw [if_neg e2, if_neg (by omega)]
          · rw [st_IA, z7]
            unfold scu
            rw [if_pos (by omega)]
          · by_cases e : t + 1 = n
            · rw [if_pos e, hLr, show n - 1 = t by omega]
            · rw [if_neg e]
              exact (tws_mid hm hp hI).2 e
          · rw [za _ (by omega)]; exact z10 h k hk
          · dsimp only
            rcases z11 with ⟨q1, q2⟩ | ⟨q1, q2, q3⟩
            · refine Or.inl ⟨q1, ?_⟩
              rcases q2 with q2 | q2
              · rcases i9 with ⟨-, u, hu, hu2⟩ | ⟨q, -⟩
                · exact ⟨u, by omega, hu2⟩
                · rw [q] at q2; exact absurd q2 (by decide)
              · exact ⟨t, by omega, q2⟩
            · refine Or.inr ⟨q1, fun u hu => ?_⟩
              rcases i9 with ⟨q, -⟩ | ⟨-, q⟩
              · rw [q] at q2; exact absurd q2 (by decide)
              · by_cases e : u = t
                · rw [e]; exact q3
                · exact q u (by omega)
        unfold f_X1_move_L60_J131 f_X1_move_L60_J153
        refine ok_b (lr0 hIZ hl) (ok_gd (by rw [ll0 hl]; exact n_in (by omega) (by omega)) (ok_b (xr hIZ 2 3 100 135) (ok_gd (by rw [hx5]; exact n_in (by omega) (by omega)) ?_)))
        rw [nI_clamp (by omega), z4 t ht, if_pos rfl, z3, i3 t ht, ← hLs]
        by_cases c : L'.1 t = L.1 t
        · refine ok_ie (fun h => h c) (ok_b (lr1 hIZ hl) (ok_ie (by decide) (ok_b (lr1 hIZ hl) (ok_gd (by rw [ll1 hl]; exact n_in2 (by omega) (by omega)) ?_))))
          rw [z5, i5 t ht, if_neg (show ¬ t < t by omega)]
          refine go _ ?_
          rw [hLt, show decide (L'.1 t = L.1 t) = true by simp [c]]
          exact ntm_eq (hI.2.1 t)
        · refine ok_it c (ok_b (lr1 hIZ hl) (ok_it rfl (go _ ?_)))
          rw [hLt]
          unfold ntm
          rw [if_neg (by simp [c])]
      unfold f_X1_move_L60
      rw [hnY]
      refine ok_ie (nI_ge ht (by omega)) (ok_bind (see_x (fg := fg) (L := L) hCY hl hr hnY h3 ht hfg i2 i3 (by rw [i5 t ht, if_neg (by omega)]) (fun c hc => by rw [i6 _ (by omega), if_neg (by omega)]) (fun e => by rw [i7]; unfold scu; rw [if_neg (by omega)]) hI.2.2.1) ?_)
      rintro Y1 ⟨w, rfl, hw⟩
      have f1 : FA Y (ha_sA Y 136 w) l := ⟨rfl, rfl, fun _ _ _ => rfl, rfl, fun a h1 h2 => by rw [st_AA, if_neg h1]⟩
      have hC1 := CX_f hl (FA_x f1) hCY
      obtain ⟨p, p1, p2, p3, p4⟩ := hC1.2.2.2.2 (kin n t) (kin_lt n t)
      obtain ⟨R, R1, R2, R3, R4, R5, R6⟩ := pr_all p4
      have hk3 := kin_lt n t
      have hw1 : ∀ c, c < 110 → ha_gA (ha_sA Y 136 w) 136 c = wv M m n fg L t c := fun c hc => by rw [st_AA, if_pos rfl]; exact hw c hc
      refine ok_b (xr hC1.1 2 0 103 132) (ok_b (kind_x hnY h3 (by omega) ht) (ok_gd (by rw [hx2]; exact n_in hk3 (by omega)) (ok_b (pw_rb (by rw [nI_clamp (by omega)]; exact p1) (pg_tab p (by omega) p2).1) (ok_b (xr hC1.1 2 4 100 136) (ok_bind (rule_x hC1.1 p2 p3 R1 R3 R4 R5 hw1) ?_)))))
      have hWN : ∀ Z : ha_St, (∀ c, c < 100 ∨ c = 105 → ha_gA Z 136 c = wv M m n fg L t c) → WNx Z := fun Z hZ => ⟨fun i hi => by rw [hZ i (Or.inl hi)]; unfold wv; rw [if_pos hi], by rw [hZ 105 (Or.inr rfl)]; rfl⟩
      have hfr : frl M (kin n t) (wv M m n fg L t) (tn (ha_gA M 15 (kin n t))) 0 = frl M (kin n t) (wv M m n fg L t) R 0 := by rw [R2, tn_n (by omega)]
      rintro ⟨zr, ZZ⟩ ⟨e1, e2⟩
      dsimp only at e1 e2 ⊢
      subst e1
      rcases e2 with ⟨e2, e3⟩ | ⟨rr, hrr, e2, e3⟩
      · -- no rule
        have hT : tws M m n fg L t = (wv M m n fg L t, L.2.2.2) := by
          unfold tws twr
          dsimp only
          rw [hfr, e3]
        refine ok_it e2 (tail v7 _ (FA_x f1) (hWN _ (fun c hc => hw1 c (by omega))) (by rw [st_AA, if_neg (by omega)]) (fun u hu => ?_) (by rw [st_AA, if_neg (by omega)]) (fun j hj => ?_) ?_ ?_ ?_ (fun h k hk => ?_) ?_)
        · rw [st_AA, if_neg (by omega), hT]
          by_cases e : u = t
          · rw [if_pos e, e, i4 t ht, if_neg (by omega)]; rfl
          · rw [if_neg e]
        · rw [st_AA, if_neg (by omega), hT]
          by_cases e : 4 * t ≤ j ∧ j < 4 * t + 4
          · rw [if_pos e, i6 j hj, if_neg (by omega)]
            dsimp only
            unfold wv
            rw [if_neg (by omega), if_neg (by omega), if_neg (by omega), if_neg (by omega), if_neg (by omega), if_neg (by omega), if_neg (by omega), show 4 * t + (106 + (j - 4 * t) - 106) = j by omega]
          · rw [if_neg e]
        · rw [st_IA, i7]
          unfold scu
          by_cases e : 0 < t
          · rw [if_pos e]
          · rw [if_neg e]
            have : t = 0 := by omega
            subst this
            have : L'.2.2.2.1 = (tws M m n fg L 0).2.1 := by rw [← hL']; rfl
            rw [this, hT]
        · rw [st_IA, hT]; exact r2
        · rw [st_IA, hT]; exact r3
        · rw [hT] at hk ⊢
          rw [st_AA, if_neg (by omega)]; exact r4 h k hk
        · have hnc : ¬ chT L L' t := by
            intro h
            refine h ⟨by rw [hLs, hT]; rfl, fun c hc => ?_⟩
            rw [hLc t c hc, hT]
            dsimp only
            unfold wv
            rw [if_neg (by omega), if_neg (by omega), if_neg (by omega), if_neg (by omega), if_neg (by omega), if_neg (by omega), if_neg (by omega), show 106 + c - 106 = c by omega]
          rcases i9 with ⟨q, -⟩ | ⟨q, -⟩
          · exact Or.inl ⟨q, Or.inl q⟩
          · exact Or.inr ⟨q, q, hnc⟩
      · -- rule rr
        have hT : twr M m (kin n t) (decide (t = 0)) (decide (t + 1 = n)) (wv M m n fg L t, scu L L' t, L.2.2.2.2) = ((tws M m n fg L t).1, L'.2.2.2.1, (tws M m n fg L t).2.2) := by
          have := tws_sc (M := M) (m := m) (n := n) (fg := fg) (L := L) (t := t)
          rw [hL'] at this
          exact this
        have hT2 : acs M m (kin n t) (decide (t = 0)) (decide (t + 1 = n)) (enn (ha_gA M 17) (kin n t) rr - rbn (ha_gA M 17) (kin n t) rr) (rbn (ha_gA M 17) (kin n t) rr) (wv M m n fg L t, scu L L' t, L.2.2.2.2) = ((tws M m n fg L t).1, L'.2.2.2.1, (tws M m n fg L t).2.2) := by
          rw [← hT]
          unfold twr
          dsimp only
          rw [hfr, e3]
        have hsc : scu L L' t ≤ m := by
          unfold scu
          by_cases e : 0 < t
          · rw [if_pos e]; exact hI'.2.2.1
          · rw [if_neg e]; exact hI.2.2.1
        rw [e2]
        refine ok_ie (n_m1 (by omega)) (ok_bind (act_x (s := (wv M m n fg L t, scu L L' t, L.2.2.2.2)) hC1 hl hnY h3 (by omega) ht p2 p3 R1 hrr R4 R6 ⟨hw1, i7, r2, r3, fun h k hk => by rw [st_AA, if_neg (by omega)]; exact r4 h k hk⟩ ⟨fun _ _ => rfl, ?_, Nat.le_refl _, hsc, Nat.le_refl _, hI.2.2.2.1, fun _ => rfl, fun _ => rfl, hI.1 t, hI.2.2.2.2, fun _ => rfl⟩ rfl) ?_)
        · show (if t = 0 then wat M m L.2.2.2.1 else -1) = if decide (t = 0) = true then wat M m (scu L L' t) else -1
          by_cases e : t = 0
          · subst e
            rfl
          · simp [e]
        rw [hT2]
        rintro Y2 ⟨⟨g1, g2, g3, g4, g5⟩, f2⟩
        dsimp only at g1 g2 g3 g4 g5
        have f12 := FA_t f1 f2
        have hIR2 : IR Y2 := IR_c f2.1 hC1.1
        refine ok_bind (keep_x (w := (tws M m n fg L t).1) (a := L.1 t) (cl := fun c => L.2.2.1 (4 * t + c)) hIR2 hl hr ht g1 (by rw [f12.2.2.2.2 135 (by omega) (by omega)]; exact i3 t ht) (fun c hc => by rw [f12.2.2.2.2 _ (by omega) (by omega), i6 _ (by omega), if_neg (by omega)])) ?_
        rintro ⟨z1, Y3⟩ ⟨k1, g, k2, k3⟩
        dsimp only at k1 k2 k3 ⊢
        subst k2
        rw [pw_nm]
        have ya : ∀ a, a ≠ 100 + 16 * l → a ≠ 102 + 16 * l → ha_gA (ha_sA (ha_sA Y2 (100 + 16 * l) (upd (ha_gA Y2 (100 + 16 * l)) t ((tws M m n fg L t).1 102))) (102 + 16 * l) g) a = ha_gA Y2 a := fun a h1 h2 => by rw [st_AA, if_neg h2, st_AA, if_neg h1]
        have hTIt := hTI t
        refine tail _ _ (FX_t (FA_x f12) ⟨rfl, rfl, fun _ _ _ => rfl, rfl, fun a h1 h2 h3 => ya a (by omega) (by omega)⟩) (hWN _ (fun c hc => ?_)) (by rw [ya 135 (by omega) (by omega), f12.2.2.2.2 135 (by omega) (by omega)]) (fun u hu => ?_) (by rw [ya _ (by omega) (by omega), f12.2.2.2.2 _ (by omega) (by omega)]) (fun j hj => ?_) g2 g3 g4 (fun h k hk => ?_) ?_
        · rw [ya 136 (by omega) (by omega), g1 c (by omega)]
          exact hTIt.1 c (by omega)
        · rw [st_AA, if_neg (by omega), st_AA, if_pos rfl]
          by_cases e : u = t
          · rw [if_pos e, e, pk_us]
          · rw [if_neg e, pk_un e, f12.2.2.2.2 _ (by omega) (by omega)]
        · rw [st_AA, if_pos rfl, k3 j, f12.2.2.2.2 _ (by omega) (by omega)]
        · rw [ya _ (by omega) (by omega)]; exact g5 h k hk
        · have hct : chT L L' t ↔ ¬ ((tws M m n fg L t).1 102 = L.1 t ∧ ∀ c, c < 4 → (tws M m n fg L t).1 (106 + c) = L.2.2.1 (4 * t + c)) := by
            unfold chT
            rw [hLs]
            constructor
            · intro h g
              exact h ⟨g.1, fun c hc => by rw [hLc t c hc]; exact g.2 c hc⟩
            · intro h g
              exact h ⟨g.1, fun c hc => by rw [← hLc t c hc]; exact g.2 c hc⟩
          rw [hct]
          rcases k1 with ⟨q1, q2⟩ | ⟨q1, q2⟩
          · rw [q1]
            rcases i9 with ⟨q, -⟩ | ⟨q, -⟩
            · rw [q]; exact Or.inl ⟨by decide, Or.inl rfl⟩
            · rw [q]; exact Or.inr ⟨by decide, rfl, fun h => h q2⟩
          · rw [q1]
            refine Or.inl ⟨?_, Or.inr q2⟩
            rcases i9 with ⟨q, -⟩ | ⟨q, -⟩
            · rw [q]; decide
            · rw [q]; decide
    · rintro f ⟨v7, Y⟩ ⟨i1, i2, i3, i4, i5, i6, i7, ⟨r, r1, r2, r3, r4⟩, i9⟩
      dsimp only at i1 i2 i3 i4 i5 i6 i7 r2 r3 r4 i9
      rw [if_pos rfl] at r1
      subst r1
      show Ok (f_X1_move_L60 2 l (nI tick) more f (ha_gA X 134 tick ||| more) (nI L.2.2.2.1) (nI L.2.2.2.2.1) v7 (nI n) Y) _
      unfold f_X1_move_L60
      rw [i1.2.2.2.1, l1]
      refine ok_it (nI_le (Nat.le_refl _) (by omega)) (ok_some ⟨v7, Y, rfl, ⟨i1.2.2.2.1.trans l1, fun u hu => ?_, fun u hu => ?_, fun j hj => ?_, ?_, r2, r3, r4⟩, i1, i2, i9⟩)
      · rw [i4 u hu, if_pos hu]
      · rw [i5 u hu, if_pos hu]
      · rw [i6 j hj, if_pos hj]
      · rw [i7]
        unfold scu
        rw [if_pos (by omega)]
  · rintro z ⟨v7, Y, rfl, y1, y2, y3, y4⟩
    unfold f_X1_move_J191 f_X1_move_J214 f_X1_move_J219
    dsimp only
    have n1 : L'.2.2.2.1 < 2 ^ 31 := by have := hI'.2.2.1; omega
    have n2 : L.2.2.2.1 < 2 ^ 31 := by have := hI.2.2.1; omega
    have n3 : L'.2.2.2.2.1 < 2 ^ 31 := by have := hI'.2.2.2.1; omega
    have n4 : L.2.2.2.2.1 < 2 ^ 31 := by have := hI.2.2.2.1; omega
    rw [y1.2.2.2.2.1, y1.2.2.2.2.2.1]
    rcases y4 with ⟨q1, q2⟩ | ⟨q1, q2⟩
    · exact ok_it (by rw [q1]; decide) (ok_gd (Or.inr rfl) (ok_some ⟨Or.inl ⟨rfl, Or.inl q2⟩, y1, y2, y3⟩))
    · refine ok_ie (fun h => h q1) ?_
      by_cases c1 : L'.2.2.2.1 = L.2.2.2.1
      · refine ok_ie (fun h => h (by rw [c1])) ?_
        by_cases c2 : L'.2.2.2.2.1 = L.2.2.2.2.1
        · refine ok_it (by rw [c2]) (ok_gd (Or.inl rfl) (ok_some ⟨Or.inr ⟨rfl, ?_⟩, y1, y2, y3⟩))
          rintro (⟨u, hu, hc⟩ | h | h)
          · exact q2 u hu hc
          · exact h c1
          · exact h c2
        · exact ok_ie (fun h => c2 ((nI_eq n3 n4).mp h)) (ok_gd (Or.inr rfl) (ok_some ⟨Or.inl ⟨rfl, Or.inr (Or.inr c2)⟩, y1, y2, y3⟩))
      · exact ok_it (fun h => c1 ((nI_eq n1 n2).mp h)) (ok_gd (Or.inr rfl) (ok_some ⟨Or.inl ⟨rfl, Or.inr (Or.inl c1)⟩, y1, y2, y3⟩))
