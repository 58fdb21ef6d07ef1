/-! THE MODEL: a tower's rule -/
theorem RMT_c {M M1 M0 : ha_St} {m t : Nat} {s : TW} (a1 : ha_gA M1 33 t = ha_gA M 33 t) (a2 : ∀ c, c < 4 → ha_gA M1 35 (4 * t + c) = ha_gA M 35 (4 * t + c)) (a3 : ∀ k, ha_gI M1 0 k = ha_gI M 0 k) (a4 : ha_gA M1 36 = ha_gA M 36) (a5 : ha_gA M1 37 = ha_gA M 37) (h : RMT M M0 m t s) : RMT M1 M0 m t s := by
  obtain ⟨r1, r2, r3, r4, r5, r6, r7, r8, r9, r10, r11⟩ := h
  exact ⟨a1.trans r1, fun c hc => (a2 c hc).trans (r2 c hc), (a3 45).trans r3, (a3 46).trans r4, by rw [a4]; exact r5, (a3 38).trans r6, (a3 37).trans r7, fun k hk => by rw [a5]; exact r8 k hk, r9, r10, r11⟩
/-- the rules of tower t, from the row that stands -/
theorem rules_m {M M0 : ha_St} {m n t k se wr0 : Nat} {tick : Int32} {s : TW} (hIM : IM M) (hA : PA M M0) (hm : m ≤ 60) (h30 : ha_gI M 0 30 = nI m) (h4 : ha_gI M 0 4 = nI n) (h3 : 3 ≤ n) (hn : n ≤ 16) (ht : t < n) (hk : k < 3) {X : ha_St} {p : Nat} (hPR : PR X p M0 k) (hR : RMT M M0 m t s) (hT : TI M0 m (decide (t = 0)) (decide (t + 1 = n)) s s) (hse : se ≤ s.2.1) (hwr : wr0 ≤ s.2.2.1) (hH : HC M se wr0 s) : Ok ((f_X12_doRule_L69i 0 (nI t) tick (nI k) ha_fu (0, M)).bind (Sum.elim (fun z => f_X12_doRule_J229 0 (nI t) tick (nI k) z) (fun r => some r))) (fun M' => RMT M' M0 m t (twr M0 m k (decide (t = 0)) (decide (t + 1 = n)) s) ∧ FT M M' t ∧ HC M' se wr0 (twr M0 m k (decide (t = 0)) (decide (t + 1 = n)) s)) := by
  obtain ⟨R, R1, R2, R3, R4, R5, R6⟩ := pr_all hPR
  have e20 : (20 : Int32) * nI k = nI (20 * k) := nI_mul 20 k
  have e40 : (40 : Int32) * nI k = nI (40 * k) := nI_mul 40 k
  have hfr : frl M0 k s.1 (tn (ha_gA M0 15 k)) 0 = frl M0 k s.1 R 0 := by rw [R2, tn_n (by omega)]
  refine ok_bind (P := fun z => (z = .inl M ∧ frl M0 k s.1 R 0 = none) ∨ (∃ M' r, r < R ∧ z = .inr M' ∧ frl M0 k s.1 R 0 = some r ∧ RMT M' M0 m t (acs M0 m k (decide (t = 0)) (decide (t + 1 = n)) (enn (ha_gA M0 17) k r - rbn (ha_gA M0 17) k r) (rbn (ha_gA M0 17) k r) s) ∧ FT M M' t ∧ HC M' se wr0 (acs M0 m k (decide (t = 0)) (decide (t + 1 = n)) (enn (ha_gA M0 17) k r - rbn (ha_gA M0 17) k r) (rbn (ha_gA M0 17) k r) s))) ?_ ?_
  · refine ok_for (fun r (_ : Unit) => (nI r, M)) 0 R (fun r _ => ∀ q, q < r → ¬ rho M0 k s.1 q = true) _ () (fun q h => by omega) (by omega) (by omega) ?_ ?_
    · rintro f r - hr hq ih
      show Ok (f_X12_doRule_L69 0 (nI t) tick (nI k) f (nI r) M) _
      obtain ⟨u1, u2, u3, u4, u5, u6, u7, u8⟩ := R4 r hr
      have hOr := R5 r hr
      have hAr := R6 r hr
      have ih' := ih ()
      have hrho : rho M0 k s.1 r = alo M0 k s.1 (rbn (ha_gA M0 16) k r) (enn (ha_gA M0 16) k r) := rfl
      have hprev : ∀ (a : Nat) (f16 : Nat → Int32), (a = 16 ∨ a = 17) → f16 = ha_gA M0 a → ¬ r = 0 → f16 (20 * k + r - 1) = nI (rbn f16 k r) := by
        intro a f16 ha hf h0
        obtain ⟨q, rfl⟩ : ∃ q, r = q + 1 := ⟨r - 1, by omega⟩
        rw [rbn_s, show 20 * k + (q + 1) - 1 = 20 * k + q by omega, hf]
        rcases ha with rfl | rfl
        · exact (R4 q (by omega)).2.2.1
        · exact (R4 q (by omega)).2.2.2.1
      -- the ones
      have ones : Ok (f_X12_doRule_L69_J103 0 (nI t) tick (nI k) f (nI r) (nI (rbn (ha_gA M0 16) k r)) M) (fun z => (z = .inl M ∧ frl M0 k s.1 R 0 = none) ∨ (∃ M' r, r < R ∧ z = .inr M' ∧ frl M0 k s.1 R 0 = some r ∧ RMT M' M0 m t (acs M0 m k (decide (t = 0)) (decide (t + 1 = n)) (enn (ha_gA M0 17) k r - rbn (ha_gA M0 17) k r) (rbn (ha_gA M0 17) k r) s) ∧ FT M M' t ∧ HC M' se wr0 (acs M0 m k (decide (t = 0)) (decide (t + 1 = n)) (enn (ha_gA M0 17) k r - rbn (ha_gA M0 17) k r) (rbn (ha_gA M0 17) k r) s))) := by
        unfold f_X12_doRule_L69_J103
        refine ok_bind (P := fun z => z = (nI r, if rho M0 k s.1 r = true then 1 else 0, M)) ?_ ?_
        · generalize hb : rbn (ha_gA M0 16) k r = b at *
          generalize he : enn (ha_gA M0 16) k r = e at *
          refine ok_for (fun i (v : Int32) => (nI r, v, nI i, M)) b e (fun i v => b ≤ i ∧ ((v = 1 ∧ ∀ x, x < i → b ≤ x → hol (ha_gA M0 19 (40 * k + x)) (s.1 (tn (ha_gA M0 18 (40 * k + x)))) (s.1 (tn (ha_gA M0 20 (40 * k + x)))) = true) ∨ (v = 0 ∧ ¬ rho M0 k s.1 r = true))) _ 1 ⟨Nat.le_refl _, Or.inl ⟨rfl, fun x h1 h2 => by omega⟩⟩ u5 (by omega) ?_ ?_
          · rintro g i v hi ⟨hbi, hv⟩ ih2
            show Ok (f_X12_doRule_L112 0 (nI t) tick (nI k) g (nI r) v (nI i) M) _
            unfold f_X12_doRule_L112
            refine ok_b (mA15 hIM) ?_
            rw [e20, nI_add, mL16]
            refine ok_gd (n_in (by omega) (by omega)) ?_
            rw [nI_clamp (by omega), hA 16 (by omega), u3]
            refine ok_ie (nI_ge hi (by omega)) ?_
            rcases hv with ⟨rfl, hv⟩ | ⟨rfl, hv⟩
            · refine ok_ie (by decide) ?_
              rw [e40, nI_add]
              refine ok_b (hol_m hIM hA hm h30 hn ht hR hT.2.2.2.1 hk (by omega) (hOr i hi)) ?_
              simp only [pw_nm, nI_1]
              by_cases c : hol (ha_gA M0 19 (40 * k + i)) (s.1 (tn (ha_gA M0 18 (40 * k + i)))) (s.1 (tn (ha_gA M0 20 (40 * k + i)))) = true
              · rw [if_pos c]
                refine ih2 1 ⟨by omega, Or.inl ⟨rfl, fun x h1 h2 => ?_⟩⟩
                by_cases ex : x = i
                · rw [ex]; exact c
                · exact hv x (by omega) h2
              · rw [if_neg c]
                refine ih2 0 ⟨by omega, Or.inr ⟨rfl, fun h => c ?_⟩⟩
                rw [hrho] at h
                unfold alo at h
                exact of_decide_eq_true h i hi hbi
            · refine ok_it rfl (ok_some ?_)
              rw [if_neg hv]
          · rintro g v ⟨hbi, hv⟩
            show Ok (f_X12_doRule_L112 0 (nI t) tick (nI k) g (nI r) v (nI e) M) _
            unfold f_X12_doRule_L112
            refine ok_b (mA15 hIM) ?_
            rw [e20, nI_add, mL16]
            refine ok_gd (n_in (by omega) (by omega)) ?_
            rw [nI_clamp (by omega), hA 16 (by omega), u3]
            refine ok_it (nI_le (Nat.le_refl _) (by omega)) (ok_some ?_)
            rcases hv with ⟨rfl, hv⟩ | ⟨rfl, hv⟩
            · rw [if_pos]
              rw [hrho]
              unfold alo
              exact decide_eq_true hv
            · rw [if_neg hv]
        · rintro z rfl
          unfold f_X12_doRule_L69_J154
          dsimp only
          by_cases c : rho M0 k s.1 r = true
          · rw [if_pos c]
            have hfs : frl M0 k s.1 R 0 = some r := frl_some _ 0 r (by omega) (by omega) (fun q _ h => hq q h) c
            have acts : Ok (f_X12_doRule_L69_J185 0 (nI t) tick (nI k) f (nI r) (nI (rbn (ha_gA M0 17) k r)) M) (fun z => (z = .inl M ∧ frl M0 k s.1 R 0 = none) ∨ (∃ M' r, r < R ∧ z = .inr M' ∧ frl M0 k s.1 R 0 = some r ∧ RMT M' M0 m t (acs M0 m k (decide (t = 0)) (decide (t + 1 = n)) (enn (ha_gA M0 17) k r - rbn (ha_gA M0 17) k r) (rbn (ha_gA M0 17) k r) s) ∧ FT M M' t ∧ HC M' se wr0 (acs M0 m k (decide (t = 0)) (decide (t + 1 = n)) (enn (ha_gA M0 17) k r - rbn (ha_gA M0 17) k r) (rbn (ha_gA M0 17) k r) s))) := by
              unfold f_X12_doRule_L69_J185 f_X12_doRule_L69_J222
              refine ok_bind (P := fun M' => RMT M' M0 m t (acs M0 m k (decide (t = 0)) (decide (t + 1 = n)) (enn (ha_gA M0 17) k r - rbn (ha_gA M0 17) k r) (rbn (ha_gA M0 17) k r) s) ∧ FT M M' t ∧ HC M' se wr0 (acs M0 m k (decide (t = 0)) (decide (t + 1 = n)) (enn (ha_gA M0 17) k r - rbn (ha_gA M0 17) k r) (rbn (ha_gA M0 17) k r) s)) ?_ (fun M' h => ok_some (Or.inr ⟨M', r, hr, rfl, hfs, h⟩))
              generalize hb : rbn (ha_gA M0 17) k r = b at *
              generalize he : enn (ha_gA M0 17) k r = e at *
              refine ok_for (fun i (Y : ha_St) => (nI r, nI i, Y)) b e (fun i Y => RMT Y M0 m t (acs M0 m k (decide (t = 0)) (decide (t + 1 = n)) (i - b) b s) ∧ FT M Y t ∧ HC Y se wr0 (acs M0 m k (decide (t = 0)) (decide (t + 1 = n)) (i - b) b s) ∧ b ≤ i) _ M ⟨by rw [Nat.sub_self]; exact hR, FT_r M t, by rw [Nat.sub_self]; exact hH, Nat.le_refl _⟩ u6 (by omega) ?_ ?_
              · rintro g i Y hi ⟨y1, y2, y3, y4⟩ ih2
                show Ok (f_X12_doRule_L187 0 (nI t) tick (nI k) g (nI r) (nI i) Y) _
                have hIY : IM Y := IM_c y2.1 hIM
                have hAY := FT_pa y2 hA
                have hTI := ti_acs (k := k) hm (i - b) b s (fun j j1 j2 => (acR_r (hAr j (by omega)).1).1) hT
                unfold f_X12_doRule_L187
                refine ok_b (mA16 hIY) ?_
                rw [e20, nI_add, mL17]
                refine ok_gd (n_in (by omega) (by omega)) ?_
                rw [nI_clamp (by omega), hAY 17 (by omega), u4]
                refine ok_ie (nI_ge hi (by omega)) ?_
                rw [e40, nI_add]
                refine ok_bind (act1_m (se := se) (wr0 := wr0) hIY hAY hm ((y2.2.1 30 (by omega) (by omega) (by omega)).trans h30) ((y2.2.1 4 (by omega) (by omega) (by omega)).trans h4) h3 hn ht hk (by omega) (hAr i hi) y1 ⟨hTI.2.2.2.1, hTI.2.2.2.2.2.1, Nat.le_trans hse hTI.2.2.1, Nat.le_trans hwr hTI.2.2.2.2.1⟩ y3) ?_
                rintro Y2 ⟨x1, x2, x3⟩
                simp only [pw_nm, nI_1]
                have hs : acs M0 m k (decide (t = 0)) (decide (t + 1 = n)) (i + 1 - b) b s = ac1 M0 m k (decide (t = 0)) (decide (t + 1 = n)) i (acs M0 m k (decide (t = 0)) (decide (t + 1 = n)) (i - b) b s) := by
                  rw [show i + 1 - b = i - b + 1 by omega, acs_sn, show b + (i - b) = i by omega]
                exact ih2 Y2 ⟨by rw [hs]; exact x1, FT_t y2 x2, by rw [hs]; exact x3, by omega⟩
              · rintro g Y ⟨y1, y2, y3, y4⟩
                show Ok (f_X12_doRule_L187 0 (nI t) tick (nI k) g (nI r) (nI e) Y) _
                have hIY : IM Y := IM_c y2.1 hIM
                have hAY := FT_pa y2 hA
                unfold f_X12_doRule_L187
                refine ok_b (mA16 hIY) ?_
                rw [e20, nI_add, mL17]
                refine ok_gd (n_in (by omega) (by omega)) ?_
                rw [nI_clamp (by omega), hAY 17 (by omega), u4]
                exact ok_it (nI_le (Nat.le_refl _) (by omega)) (ok_some ⟨y1, y2, y3⟩)
            refine ok_it (by decide) ?_
            by_cases c0 : r = 0
            · refine ok_ie (fun h => h (by rw [c0]; rfl)) ?_
              have hz : rbn (ha_gA M0 17) k r = 0 := by unfold rbn; rw [if_pos c0]
              rw [hz] at acts
              exact acts
            · refine ok_it (nI_ne0 (by omega) (by omega)) (ok_b (mA16 hIM) ?_)
              rw [e20, nI_add, n_sub1 (by omega), mL17]
              refine ok_gd (n_in (by omega) (by omega)) ?_
              rw [nI_clamp (by omega), hA 17 (by omega), hprev 17 _ (Or.inr rfl) rfl c0]
              exact acts
          · rw [if_neg c]
            refine ok_ie (by decide) ?_
            simp only [pw_nm, nI_1]
            refine ih' (fun q h => ?_)
            by_cases e2 : q = r
            · rw [e2]; exact c
            · exact hq q (by omega)
      unfold f_X12_doRule_L69
      refine ok_b (mA14 hIM) (ok_gd (by rw [mL15]; exact n_in (by omega) (by omega)) ?_)
      rw [nI_clamp (by omega), hA 15 (by omega), R2]
      refine ok_ie (nI_ge hr (by omega)) ?_
      by_cases c0 : r = 0
      · refine ok_ie (fun h => h (by rw [c0]; rfl)) ?_
        have hz : rbn (ha_gA M0 16) k r = 0 := by unfold rbn; rw [if_pos c0]
        rw [hz] at ones
        exact ones
      · refine ok_it (nI_ne0 (by omega) (by omega)) (ok_b (mA15 hIM) ?_)
        rw [e20, nI_add, n_sub1 (by omega), mL16]
        refine ok_gd (n_in (by omega) (by omega)) ?_
        rw [nI_clamp (by omega), hA 16 (by omega), hprev 16 _ (Or.inl rfl) rfl c0]
        exact ones
    · rintro f - hq
      show Ok (f_X12_doRule_L69 0 (nI t) tick (nI k) f (nI R) M) _
      unfold f_X12_doRule_L69
      refine ok_b (mA14 hIM) (ok_gd (by rw [mL15]; exact n_in (by omega) (by omega)) ?_)
      rw [nI_clamp (by omega), hA 15 (by omega), R2]
      exact ok_it (nI_le (Nat.le_refl _) (by omega)) (ok_some (Or.inl ⟨rfl, frl_none _ 0 (fun q _ h => hq q (by omega))⟩))
  · unfold twr
    rw [hfr]
    rintro z (⟨rfl, h⟩ | ⟨M', r, h1, rfl, h2, h3, h4, h5⟩)
    · rw [h]
      exact ok_some ⟨hR, FT_r M t, hH⟩
    · rw [h2]
      exact ok_some ⟨h3, h4, h5⟩
