/-! THE CLASS: alike, breaks -/
theorem alike_x {X M : ha_St} {m n l l' : Nat} {L L' : LNS} (hC : CX X M m) (hl : isLn l) (hl' : isLn l') (h3 : 3 ≤ n) (hr : n ≤ rom l) (hr' : n ≤ rom l') (hI : LIn M m L) (hI' : LIn M m L') (h : RX X l n L) (h' : RX X l' n L') : Ok (f_X1_alike 2 l l' X) (fun z => z.2 = X ∧ (z.1 = 0 ∨ (z.1 = 1 ∧ ALK M n L L'))) := by
  have hIR := hC.1
  have hm : m ≤ 60 := hC.2.2.1
  have hrl := rom_le l
  have hx2 : xo_ln 132 = 3 := by decide +kernel
  obtain ⟨r1, r2, r3, r4, r5, r6, r7, r8⟩ := h
  obtain ⟨s1, s2, s3, s4, s5, s6, s7, s8⟩ := h'
  have n1 := hI.2.2.1
  have n2 := hI'.2.2.1
  have n3 := hI.2.2.2.1
  have n4 := hI'.2.2.2.1
  have e4 : nI n * 4 = nI (4 * n) := by rw [Nat.mul_comm]; exact nI_mul n 4
  unfold f_X1_alike f_X1_alike_J33
  rw [r5, s5, r6, s6, r7, s7, r1, s1, if_neg (nI_nlt (Nat.le_refl n) (by omega))]
  by_cases c1 : L.2.2.2.1 = L'.2.2.2.1
  · refine ok_ie (fun h => h (by rw [c1])) ?_
    by_cases c2 : L.2.2.2.2.1 = L'.2.2.2.2.1
    · refine ok_ie (fun h => h (by rw [c2])) ?_
      by_cases c3 : L.2.2.2.2.2.1 = L'.2.2.2.2.2.1
      · refine ok_it c3 ?_
        rw [pw_nm]
        refine ok_bind (P := fun z => (z = .inr (0, X)) ∨ (z = .inl (nI n, X) ∧ (∀ t, t < n → L.1 t = L'.1 t) ∧ (∀ t, t < n → NT M (kin n t) ∨ L.2.1 t = L'.2.1 t))) ?_ ?_
        · refine ok_for (fun i (_ : Unit) => (nI n, nI i, X)) 0 n (fun i _ => (∀ t, t < i → L.1 t = L'.1 t) ∧ (∀ t, t < i → NT M (kin n t) ∨ L.2.1 t = L'.2.1 t)) _ () ⟨fun t h => by omega, fun t h => by omega⟩ (by omega) (by omega) ?_ ?_
          · rintro f i - hi ⟨hv1, hv2⟩ ih
            show Ok (f_X1_alike_L50 2 l l' f (nI n) (nI i) X) _
            unfold f_X1_alike_L50 f_X1_alike_L50_J111
            simp only [pw_nm, nI_1]
            refine ok_ie (nI_ge hi (by omega)) (ok_b (lr0 hIR hl) (ok_gd (by rw [ll0 hl]; exact n_in (by omega) (by omega)) (ok_b (lr0 hIR hl') (ok_gd (by rw [ll0 hl']; exact n_in (by omega) (by omega)) ?_))))
            rw [nI_clamp (by omega), r2 i hi, s2 i hi]
            by_cases d : L.1 i = L'.1 i
            · refine ok_it d (ok_b (lr1 hIR hl) (ok_gd (by rw [ll1 hl]; exact n_in2 (by omega) (by omega)) (ok_b (lr1 hIR hl') (ok_gd (by rw [ll1 hl']; exact n_in2 (by omega) (by omega)) ?_))))
              rw [r3 i hi, s3 i hi]
              have sg : ∀ t, t < i + 1 → L.1 t = L'.1 t := fun t ht => by
                by_cases e : t = i
                · rw [e]; exact d
                · exact hv1 t (by omega)
              have go : (NT M (kin n i) ∨ L.2.1 i = L'.2.1 i) → Ok (f (nI n, nI (i + 1), X)) (fun z => (z = .inr (0, X)) ∨ (z = .inl (nI n, X) ∧ (∀ t, t < n → L.1 t = L'.1 t) ∧ (∀ t, t < n → NT M (kin n t) ∨ L.2.1 t = L'.2.1 t))) := fun q => ih () ⟨sg, fun t ht => by
                by_cases e : t = i
                · rw [e]; exact q
                · exact hv2 t (by omega)⟩
              by_cases d2 : L.2.1 i = L'.2.1 i
              · exact ok_it d2 (go (Or.inr d2))
              · obtain ⟨p, p1, p2, p3, p4⟩ := hC.2.2.2.2 (kin n i) (kin_lt n i)
                have hk3 := kin_lt n i
                refine ok_ie d2 (ok_b (xr hIR 2 0 103 132) (ok_b (kind_x r1 h3 (by omega) hi) (ok_gd (by rw [hx2]; exact n_in hk3 (by omega)) (ok_b (pw_rb (by rw [nI_clamp (by omega)]; exact p1) (pg_tab p (by omega) p2).1) ?_))))
                by_cases d3 : ha_gI X p 11 = 0
                · exact ok_it d3 (go (Or.inl ((pr_pb p4).2 d3)))
                · exact ok_ie d3 (ok_some (Or.inl rfl))
            · exact ok_ie d (ok_some (Or.inl rfl))
          · rintro f - hv
            show Ok (f_X1_alike_L50 2 l l' f (nI n) (nI n) X) _
            unfold f_X1_alike_L50
            exact ok_it (nI_le (Nat.le_refl _) (by omega)) (ok_some (Or.inr ⟨rfl, hv⟩))
        · rintro z (rfl | ⟨rfl, hv1, hv2⟩)
          · exact ok_some ⟨rfl, Or.inl rfl⟩
          · show Ok (f_X1_alike_J117 2 l l' (nI n) X) _
            unfold f_X1_alike_J117 f_X1_alike_J153
            refine ok_bind (P := fun z => (z = .inr (0, X)) ∨ (z = .inl X ∧ ∀ j, j < 4 * n → L.2.2.1 j = L'.2.2.1 j)) ?_ ?_
            · refine ok_for (fun i (_ : Unit) => (nI n, nI i, X)) 0 (4 * n) (fun i _ => ∀ j, j < i → L.2.2.1 j = L'.2.2.1 j) _ () (fun t h => by omega) (by omega) (by omega) ?_ ?_
              · rintro f i - hi hv ih
                show Ok (f_X1_alike_L120 2 l l' f (nI n) (nI i) X) _
                unfold f_X1_alike_L120
                simp only [pw_nm, nI_1, e4]
                refine ok_ie (nI_ge hi (by omega)) (ok_b (lr2 hIR hl) (ok_gd (by rw [ll2 hl]; exact n_in (by omega) (by omega)) (ok_b (lr2 hIR hl') (ok_gd (by rw [ll2 hl']; exact n_in (by omega) (by omega)) ?_))))
                rw [nI_clamp (by omega), r4 i hi, s4 i hi]
                by_cases d : L.2.2.1 i = L'.2.2.1 i
                · refine ok_it d (ih () (fun j hj => ?_))
                  by_cases e : j = i
                  · rw [e]; exact d
                  · exact hv j (by omega)
                · exact ok_ie d (ok_some (Or.inl rfl))
              · rintro f - hv
                show Ok (f_X1_alike_L120 2 l l' f (nI n) (nI (4 * n)) X) _
                unfold f_X1_alike_L120
                rw [e4]
                exact ok_it (nI_le (Nat.le_refl _) (by omega)) (ok_some (Or.inr ⟨rfl, hv⟩))
            · rintro z (rfl | ⟨rfl, hv⟩)
              · exact ok_some ⟨rfl, Or.inl rfl⟩
              · exact ok_some ⟨rfl, Or.inr ⟨rfl, c1, c2, c3, hv1, hv2, hv⟩⟩
      · exact ok_ie c3 (ok_some ⟨rfl, Or.inl rfl⟩)
    · exact ok_it (fun h => c2 ((nI_eq (by omega) (by omega)).mp h)) (ok_some ⟨rfl, Or.inl rfl⟩)
  · exact ok_it (fun h => c1 ((nI_eq (by omega) (by omega)).mp h)) (ok_some ⟨rfl, Or.inl rfl⟩)
/-- the breaker's state: M's programs and message, n towers, T ticks, W wide; X0 as it was -/
def SB (X0 X M : ha_St) (m n T W : Nat) : Prop := CX X M m ∧ WNx X ∧ (ha_gB X = ha_gB X0 ∧ ha_gR X = ha_gR X0) ∧ (∀ o k, o ≠ 5 → o < 17 → ha_gI X o k = ha_gI X0 o k) ∧ (∀ a, a < 135 ∨ (137 ≤ a ∧ a < 183) ∨ (188 ≤ a ∧ a ≤ 371) ∨ 2000 ≤ a → ha_gA X a = ha_gA X0 a) ∧ ha_gI X 5 6 = nI T ∧ ha_gI X 5 7 = nI W ∧ ha_gI X 5 5 = nI (W * (n - 1)) ∧ (∀ i, i < W * (n - 1) → ha_gA X 183 i = nI (1 + i / (n - 1)) ∧ ha_gA X 184 i = nI (i % (n - 1))) ∧ ha_gI X 5 10 = ha_gI X0 5 10
theorem SB_f {X0 X X' M : ha_St} {m n T W l : Nat} (hl : isLn l) (h16 : l ≠ 16) (hF : FG X X' l) (hW : WNx X') (h : SB X0 X M m n T W) : SB X0 X' M m n T W := by
  obtain ⟨b1, b2, b3, b4, b5, b6, b7, b8, b9, b10⟩ := h
  have hl2 := hl
  unfold isLn at hl2
  exact ⟨CX_g hl hF b1, hW, ⟨hF.2.1.trans b3.1, hF.1.trans b3.2⟩, fun o k h1 h2 => (hF.2.2.1 o k (by omega)).trans (b4 o k h1 h2), fun a ha => (hF.2.2.2 a (by omega) (by omega) (by omega)).trans (b5 a ha), (hF.2.2.1 5 6 (by omega)).trans b6, (hF.2.2.1 5 7 (by omega)).trans b7, (hF.2.2.1 5 5 (by omega)).trans b8, fun i hi => by rw [hF.2.2.2 183 (by omega) (by omega) (by omega), hF.2.2.2 184 (by omega) (by omega) (by omega)]; exact b9 i hi, (hF.2.2.1 5 10 (by omega)).trans b10⟩
theorem isLn17 : isLn 17 := Or.inr (Or.inl rfl)
theorem isLnc {t : Nat} (h : t ≤ 60) : isLn (20 + t) := Or.inr (Or.inr ⟨by omega, by omega⟩)
theorem isLno {t : Nat} (h : t ≤ 10) : isLn (81 + t) := Or.inr (Or.inr ⟨by omega, by omega⟩)
theorem rom8 {l : Nat} (h : l ≠ 16) : rom l = 8 := by unfold rom; rw [if_neg h]
/-- the calm lines -/
def CAL (X M : ha_St) (m n T : Nat) (f0 : Nat → Nat → Bool) : Prop := ∀ t, t ≤ T → RX X (20 + t) n (rn M m n f0 t)
theorem CAL_f {X X' M : ha_St} {m n T l : Nat} {f0 : Nat → Nat → Bool} (hT : T ≤ 60) (hl : isLn l) (hne : l = 17 ∨ 81 ≤ l) (hF : FG X X' l) (h : CAL X M m n T f0) : CAL X' M m n T f0 := fun t ht => RX_o hl (isLnc (by omega)) (by omega) hF (h t ht)
theorem calm_r {X0 X M : ha_St} {m n T W t : Nat} (h : SB X0 X M m n T W) (hB : IB X0) (ht : t ≤ 60) : ha_rb xo_kd X 180 t 5 = some (20 + t) := pw_rb (by rw [h.2.2.1.1]; exact hB.1 t (by omega)) (ln_all (isLnc ht)).1
theorem once_r {X0 X M : ha_St} {m n T W t : Nat} (h : SB X0 X M m n T W) (hB : IB X0) (ht : t ≤ 10) : ha_rb xo_kd X 181 t 5 = some (81 + t) := pw_rb (by rw [h.2.2.1.1]; exact hB.2.1 t (by omega)) (ln_all (isLno ht)).1
theorem brk_x {X0 X M : ha_St} {m n T W a : Nat} {f0 fg : Nat → Nat → Bool} (hB : IB X0) (hf0 : ∀ tick, tick ≤ 500 → f0 tick = fun g => bq (ha_gA X0 134 tick) g) (h3 : 3 ≤ n) (hn : n ≤ 8) (hT : T ≤ 60) (hw : out m (rn M m n f0 T) = 0) (hS : SB X0 X M m n T W) (hc : CAL X M m n T f0) (ha : a ≤ T) (hfg : ∀ t, a < t → fg t = f0 t) (hR : RX X 17 n (rn M m n fg a)) : Ok (f_X0_breaks 5 2 (nI a) X) (fun z => FG X z.2 17 ∧ WNx z.2 ∧ ((z.1 = 1 ∧ ¬ out m (rn M m n fg T) = 0) ∨ (z.1 = 0 ∧ out m (rn M m n fg T) = 0))) := by
  have hm : m ≤ 60 := hS.1.2.2.1
  have hp := cx_pva hS.1
  have hg := cx_gp hS.1
  have hx0 : xo_ln 180 = 61 := by decide +kernel
  have li := fun (f : Nat → Nat → Bool) t => li_rn (M := M) (m := m) (n := n) (fg := f) hm hp t
  unfold f_X0_breaks
  refine ok_bind (P := fun z => (∃ Y, z = .inr (1, Y) ∧ FG X Y 17 ∧ WNx Y ∧ ¬ out m (rn M m n fg T) = 0) ∨ (∃ Y, z = .inr (0, Y) ∧ FG X Y 17 ∧ WNx Y ∧ out m (rn M m n fg T) = 0) ∨ (∃ Y, z = .inl Y ∧ FG X Y 17 ∧ WNx Y ∧ RX Y 17 n (rn M m n fg T))) ?_ ?_
  · refine ok_for (fun i (Y : ha_St) => (nI i, Y)) a T (fun i Y => a ≤ i ∧ FG X Y 17 ∧ WNx Y ∧ RX Y 17 n (rn M m n fg i)) _ X ⟨Nat.le_refl _, FG_r X 17, hS.2.1, hR⟩ ha (by omega) ?_ ?_
    · rintro f i Y hi ⟨y0, y1, y2, y3⟩ ih
      show Ok (f_X0_breaks_L2 5 2 (nI a) f (nI i) Y) _
      have hSY := SB_f isLn17 (by omega) y1 y2 hS
      have hCY := CAL_f hT isLn17 (Or.inl rfl) y1 hc
      unfold f_X0_breaks_L2
      rw [hSY.2.2.2.2.2.1]
      refine ok_ie (nI_ge hi (by omega)) (ok_b (xr hSY.1.1 5 2 5 17) ?_)
      rw [y3.2.2.2.2.2.2.1]
      by_cases c : (rn M m n fg i).2.2.2.2.2.1 = -1
      · refine ok_it c (ok_b (xr hSY.1.1 5 2 5 17) (ok_b (xr hSY.1.1 5 0 102 180) (ok_gd (by rw [hx0]; exact n_in (by omega) (by omega)) ?_)))
        rw [nI_clamp (by omega)]
        refine ok_b (calm_r hSY hB (by omega)) (ok_bind (alike_x hSY.1 isLn17 (isLnc (by omega)) h3 (by rw [rom8 (by omega)]; exact hn) (by rw [rom8 (by omega)]; exact hn) (li fg i) (li f0 i) y3 (hCY i (by omega))) ?_)
        rintro ⟨zz, Z⟩ ⟨e1, e2⟩
        dsimp only at e1 e2 ⊢
        subst e1
        rcases e2 with e2 | ⟨e2, e3⟩
        · rw [e2]
          refine ok_it rfl (ok_b (xr hSY.1.1 5 2 5 17) ?_)
          rw [nI_1]
          refine ok_bind (move_x (fg := fg (i + 1)) hSY.1 isLn17 (by rw [rom8 (by omega)]; exact hn) h3 (by omega) (fun g hg => ?_) y2 y3 (li fg i)) ?_
          · rw [or_z, hSY.2.2.2.2.1 134 (by omega), hfg (i + 1) (by omega), hf0 (i + 1) (by omega)]
          · rintro ⟨zz, Z2⟩ ⟨-, g2, g3, g4⟩
            dsimp only at g2 g3 g4 ⊢
            rw [pw_nm]
            exact ih Z2 ⟨by omega, FG_t y1 (FX_g g3), g4, g2⟩
        · rw [e2]
          refine ok_ie (by decide) (ok_some (Or.inr (Or.inl ⟨Z, rfl, y1, y2, ?_⟩)))
          have := alk_rn (fg := fg) (fg' := f0) h3 hg T (by omega) (fun t h1 h2 => hfg t (by omega)) e3
          rw [out_alk this]; exact hw
      · refine ok_ie c (ok_some (Or.inl ⟨Y, rfl, y1, y2, ?_⟩))
        have := wa_mono hm hp c T (by omega)
        unfold out
        rw [if_neg this]; decide
    · rintro f Y ⟨y0, y1, y2, y3⟩
      show Ok (f_X0_breaks_L2 5 2 (nI a) f (nI T) Y) _
      have hSY := SB_f isLn17 (by omega) y1 y2 hS
      unfold f_X0_breaks_L2
      rw [hSY.2.2.2.2.2.1]
      exact ok_it (nI_le (Nat.le_refl _) (by omega)) (ok_some (Or.inr (Or.inr ⟨Y, rfl, y1, y2, y3⟩)))
  · rintro z (⟨Y, rfl, y1, y2, y3⟩ | ⟨Y, rfl, y1, y2, y3⟩ | ⟨Y, rfl, y1, y2, y3⟩)
    · exact ok_some ⟨y1, y2, Or.inl ⟨rfl, y3⟩⟩
    · exact ok_some ⟨y1, y2, Or.inr ⟨rfl, y3⟩⟩
    · show Ok (f_X0_breaks_J61 5 2 (nI a) Y) _
      have hSY := SB_f isLn17 (by omega) y1 y2 hS
      unfold f_X0_breaks_J61 f_X0_breaks_J77
      refine ok_b (xr hSY.1.1 5 2 5 17) (ok_b (out_x hSY.1 y3 (li fg T)) ?_)
      dsimp only
      by_cases c : out m (rn M m n fg T) = 0
      · exact ok_it c (ok_gd (Or.inl rfl) (ok_some ⟨y1, y2, Or.inr ⟨rfl, c⟩⟩))
      · exact ok_ie c (ok_gd (Or.inr rfl) (ok_some ⟨y1, y2, Or.inl ⟨rfl, c⟩⟩))
