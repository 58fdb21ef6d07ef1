/-- one act, in the class -/
theorem act1_x {X M : ha_St} {m n l t p r i k e : Nat} {s : TW} {self : Int32 × ha_St → Option ha_St} {Q : ha_St → Prop} (hC : CX X M m) (hl : isLn l) (hn : ha_gI X l 4 = nI n) (h3 : 3 ≤ n) (hn2 : n ≤ 16) (ht : t < n) (hp1 : 11 ≤ p) (hp2 : p ≤ 15) (hr : r < 20) (he : ha_gA X (101 + 16 * p) r = nI e) (hi : i < e) (he2 : e ≤ 40) (hA : AcX X p M k i) (hT : RT X l s) (hs : s.2.1 ≤ m) (hw : s.2.2.1 ≤ 100) (hz : s.1 0 = 0) (ih : ∀ X', RT X' l (ac1 M m k (decide (t = 0)) (decide (t + 1 = n)) i s) → FA X X' l → Ok (self (nI (i + 1), X')) Q) : Ok (f_X1_act_L8 2 l (nI t) p (nI r) self (nI i) X) Q := by
  have hIR := hC.1
  have hm : m ≤ 60 := hC.2.2.1
  have hmX : ha_gI X 2 6 = nI m := hC.2.1
  obtain ⟨hac, a, b, ha, hb, ha2, hb2, hv⟩ := hA
  obtain ⟨w, se, wr, wa, bk⟩ := s
  obtain ⟨t1, t2, t3, t4, t5⟩ := hT
  dsimp only at t1 t2 t3 t4 t5 hs hw hz
  have hx : xo_ln 136 = 110 := by decide +kernel
  have hx3 : xo_ln 133 = 60 := by decide +kernel
  unfold f_X1_act_L8 f_X1_act_L8_J110 f_X1_act_L8_J170 f_X1_act_L8_J156 f_X1_act_L8_J157 f_X1_act_L8_J214
  refine ok_b (pg1 hIR hp1 hp2) (ok_gd (by rw [pl1 hp1 hp2]; exact n_in hr (by omega)) ?_)
  rw [nI_clamp (by omega), he]
  refine ok_ie (nI_ge hi (by omega)) (ok_b (pg5 hIR hp1 hp2) (ok_gd (by rw [pl5 hp1 hp2]; exact n_in (by omega) (by omega)) ?_))
  rw [pw_nm, nI_clamp (by omega)]
  refine ok_b (xr hIR 2 4 100 136) (ok_b (pg6 hIR hp1 hp2) (ok_gd (by rw [pl6 hp1 hp2]; exact n_in2 (by omega) (by omega)) ?_))
  rw [ha]
  refine ok_gd (by rw [hx]; exact n_in (by omega) (by omega)) (ok_b (xr hIR 2 4 100 136) (ok_b (pg7 hIR hp1 hp2) (ok_gd (by rw [pl7 hp1 hp2]; exact n_in2 (by omega) (by omega)) ?_)))
  rw [hb]
  refine ok_gd (by rw [hx]; exact n_in (by omega) (by omega)) ?_
  rw [pw_nm, nI_clamp (by omega), nI_clamp (by omega), t1 a ha2, t1 b hb2]
  refine ok_b (fm64 _) ?_
  simp only [pw_nm, nI_1]
  have hval : ha_gA M 21 (40 * k + i) ≠ 6 → acv M k i w = (w a + w b) &&& 63 := by
    intro h6
    obtain ⟨v1, v2, v3⟩ := hv h6
    unfold acv
    rw [v1, tn_n (by omega)]
    rcases v2 with ⟨d1, d2⟩ | d1
    · rw [if_pos d1, d2, hz]
    · rw [d1, if_neg (n_m1 (by omega)), tn_n (by omega)]
  have hsh : ∀ (c : Nat) (v : Int32), 102 ≤ c → c < 110 → RT (ha_sA X 136 (upd (ha_gA X 136) c v)) l (upd w c v, se, wr, wa, bk) ∧ FA X (ha_sA X 136 (upd (ha_gA X 136) c v)) l := by
    intro c v c1 c2
    refine ⟨⟨fun q hq => ?_, t2, t3, t4, fun h q hq => ?_⟩, rfl, rfl, fun _ _ _ => rfl, rfl, fun q h1 h2 => by rw [st_AA, if_neg h1]⟩
    · rw [st_AA, if_pos rfl]
      dsimp only
      by_cases e : q = c
      · rw [e, pk_us, pk_us]
      · rw [pk_un e, pk_un e]; exact t1 q hq
    · rw [st_AA, if_neg (by omega)]; exact t5 h q hq
  rcases hac with ⟨e1, e2⟩ | ⟨e1, e2⟩ | ⟨e1, e2⟩ | ⟨e1, e2⟩ | ⟨e1, e2⟩ | ⟨e1, e2⟩ | ⟨e1, e2⟩
  · rw [e1]
    refine ok_ie (by decide) (ok_b (xr hIR 2 4 100 136) (ok_gd (by rw [hx]; decide) ?_))
    have h := hsh 102 ((w a + w b) &&& 63) (by omega) (by omega)
    refine ih _ ?_ h.2
    unfold ac1
    rw [e2, if_neg (by decide), if_pos rfl, hval (by rw [e2]; decide)]
    exact h.1
  · rw [e1]
    refine ok_it (by decide) (ok_ie (by decide) (ok_it (by decide) (ok_ie (by decide) ?_)))
    rw [hn, n_sub1 (by omega)]
    have hq : ac1 M m k (decide (t = 0)) (decide (t + 1 = n)) i (w, se, wr, wa, bk) = if t + 1 = n ∧ wr < 100 then (w, se, wr + 1, (if wa = -1 ∧ ¬ (wr < m ∧ ha_gA M 27 wr = (w a + w b) &&& 63) then nI wr else wa), upd bk wr ((w a + w b) &&& 63)) else (w, se, wr, wa, bk) := by
      unfold ac1
      rw [e2, if_neg (by decide), if_neg (by decide), if_neg (by decide)]
      dsimp only
      rw [hval (by rw [e2]; decide)]
      simp only [decide_eq_true_eq]
    by_cases c1 : t + 1 = n
    · rw [show n - 1 = t by omega]
      refine ok_ie (fun h => h rfl) ?_
      have put : ∀ k0 : Int32, (k0 = 0 ↔ ¬ (wr < m ∧ ha_gA M 27 wr = (w a + w b) &&& 63)) → Ok ((f_X5_put l ((w a + w b) &&& 63) k0 X).bind fun z11 => self (nI (i + 1), z11)) Q := by
        intro k0 hk0
        by_cases c2 : wr < 100
        · refine ok_bind (put_x (bk := bk) hIR hl t3 t4 t5 c2) (fun Y hY => ?_)
          obtain ⟨y1, y2, y3, y4, y5, y6⟩ := hY
          refine ih Y ?_ y1
          rw [hq, if_pos ⟨c1, c2⟩]
          refine ⟨fun c hc => by rw [y2]; exact t1 c hc, y3.trans t2, y4, ?_, y6⟩
          rw [y5]
          dsimp only
          simp only [hk0]
        · have e : f_X5_put l ((w a + w b) &&& 63) k0 X = some X := by
            unfold f_X5_put
            rw [t3, pw_ie (show ¬ nI wr < (100 : Int32) from nI_nlt (b := 100) (by omega) (by omega))]
          rw [e, pw_bs]
          refine ih X ?_ (FA_r X l)
          rw [hq, if_neg (fun h => c2 h.2)]
          exact ⟨t1, t2, t3, t4, t5⟩
      rw [hmX, t3]
      by_cases c2 : wr < m
      · refine ok_ie (nI_ge c2 (by omega)) (ok_b (xr hIR 2 1 100 133) (ok_gd (by rw [hx3]; exact n_in (by omega) (by omega)) ?_))
        rw [nI_clamp (by omega), hC.2.2.2.1 wr c2]
        by_cases c3 : ha_gA M 27 wr = (w a + w b) &&& 63
        · refine ok_ie (fun h => h c3) (put 1 ?_)
          exact ⟨fun h => absurd h (by decide), fun h => absurd ⟨c2, c3⟩ h⟩
        · refine ok_it c3 (put 0 ?_)
          exact ⟨fun _ h => c3 h.2, fun _ => rfl⟩
      · refine ok_it (nI_le (by omega) (by omega)) (put 0 ?_)
        exact ⟨fun _ h => c2 h.1, fun _ => rfl⟩
    · refine ok_it (fun h => ?_) (ok_it (by decide) (ih X ?_ (FA_r X l)))
      · rw [nI_eq (by omega) (by omega)] at h
        omega
      · rw [hq, if_neg (fun h => c1 h.1)]
        exact ⟨t1, t2, t3, t4, t5⟩
  · rw [e1]
    refine ok_it (by decide) (ok_ie (by decide) (ok_it (by decide) (ok_it (by decide) (ok_ie (by decide) ?_))))
    have hq : ac1 M m k (decide (t = 0)) (decide (t + 1 = n)) i (w, se, wr, wa, bk) = if t = 0 ∧ se < m then (upd w 104 (wat M m (se + 1)), se + 1, wr, wa, bk) else (w, se, wr, wa, bk) := by
      unfold ac1
      rw [if_pos e2]
      dsimp only
      simp only [decide_eq_true_eq]
    by_cases c1 : t = 0
    · refine ok_ie (fun h => h (by rw [c1]; rfl)) ?_
      rw [hmX, t2]
      by_cases c2 : se < m
      · refine ok_ie (nI_ge c2 (by omega)) ?_
        have hIR2 : IR (ha_sI X l 6 (nI (se + 1))) := IR_c (X := X) rfl hIR
        have hF : FX X (ha_sI X l 6 (nI (se + 1))) l := ⟨rfl, rfl, fun o k ho => by rw [st_II, if_neg (fun h => ho h.1)], by rw [st_II, if_neg (by omega)], fun _ _ _ _ => rfl⟩
        rw [nI_1]
        refine ok_b (xr hIR2 2 4 100 136) (ok_b (word_x (CX_f hl hF hC) (by rw [st_II, if_pos ⟨rfl, rfl⟩]) (by omega)) (ok_gd (by rw [hx]; decide) ?_))
        refine ih _ ?_ ?_
        · rw [hq, if_pos ⟨c1, c2⟩]
          refine ⟨fun q hq => ?_, ?_, ?_, ?_, fun h q hq => ?_⟩
          · rw [st_AA, if_pos rfl]
            dsimp only
            by_cases e : q = 104
            · rw [e]; exact pk_us.trans pk_us.symm
            · rw [pk_un e]; exact (pk_un e).trans (t1 q hq)
          · dsimp only
            rw [st_IA, st_II, if_pos ⟨rfl, rfl⟩]
          · dsimp only
            rw [st_IA, st_II, if_neg (by omega)]; exact t3
          · dsimp only
            rw [st_IA, st_II, if_neg (by omega)]; exact t4
          · dsimp only at hq ⊢
            rw [st_AA, if_neg (by omega)]; exact t5 h q hq
        · exact ⟨rfl, rfl, fun o k ho => by rw [st_IA, st_II, if_neg (fun h => ho h.1)], by rw [st_IA, st_II, if_neg (by omega)], fun q h1 h2 => by rw [st_AA, if_neg h1]; rfl⟩
      · refine ok_it (nI_le (by omega) (by omega)) (ih X ?_ (FA_r X l))
        rw [hq, if_neg (fun h => c2 h.2)]
        exact ⟨t1, t2, t3, t4, t5⟩
    · refine ok_it (nI_ne0 (by omega) (by omega)) (ih X ?_ (FA_r X l))
      rw [hq, if_neg (fun h => c1 h.1)]
      exact ⟨t1, t2, t3, t4, t5⟩
  · rw [e1]
    refine ok_it (by decide) (ok_ie (by decide) (ok_ie (by decide) (ok_b (xr hIR 2 4 100 136) (ok_gd (by rw [hx]; decide) ?_))))
    have h := hsh 106 ((w a + w b) &&& 63) (by omega) (by omega)
    refine ih _ ?_ h.2
    unfold ac1
    rw [e2, if_neg (by decide), if_neg (by decide), if_pos (by decide), hval (by rw [e2]; decide)]
    exact h.1
  · rw [e1]
    refine ok_it (by decide) (ok_ie (by decide) (ok_ie (by decide) (ok_b (xr hIR 2 4 100 136) (ok_gd (by rw [hx]; decide) ?_))))
    have h := hsh 107 ((w a + w b) &&& 63) (by omega) (by omega)
    refine ih _ ?_ h.2
    unfold ac1
    rw [e2, if_neg (by decide), if_neg (by decide), if_pos (by decide), hval (by rw [e2]; decide)]
    exact h.1
  · rw [e1]
    refine ok_it (by decide) (ok_ie (by decide) (ok_ie (by decide) (ok_b (xr hIR 2 4 100 136) (ok_gd (by rw [hx]; decide) ?_))))
    have h := hsh 108 ((w a + w b) &&& 63) (by omega) (by omega)
    refine ih _ ?_ h.2
    unfold ac1
    rw [e2, if_neg (by decide), if_neg (by decide), if_pos (by decide), hval (by rw [e2]; decide)]
    exact h.1
  · rw [e1]
    refine ok_it (by decide) (ok_ie (by decide) (ok_ie (by decide) (ok_b (xr hIR 2 4 100 136) (ok_gd (by rw [hx]; decide) ?_))))
    have h := hsh 109 ((w a + w b) &&& 63) (by omega) (by omega)
    refine ih _ ?_ h.2
    unfold ac1
    rw [e2, if_neg (by decide), if_neg (by decide), if_pos (by decide), hval (by rw [e2]; decide)]
    exact h.1
/-- the acts of a rule, in the class -/
theorem act_x {X M : ha_St} {m n l t p r k R : Nat} {s : TW} (hC : CX X M m) (hl : isLn l) (hn : ha_gI X l 4 = nI n) (h3 : 3 ≤ n) (hn2 : n ≤ 16) (ht : t < n) (hp1 : 11 ≤ p) (hp2 : p ≤ 15) (hR : R ≤ 20) (hr : r < R) (hu : ∀ q, q < R → RuX X p M k q) (hA : ∀ q, q < R → ∀ x, x < enn (ha_gA M 17) k q → AcX X p M k x) (hT : RT X l s) (hI : TI M m (decide (t = 0)) (decide (t + 1 = n)) s s) (hz : s.1 0 = 0) : Ok (f_X1_act 2 l (nI t) p (nI r) X) (fun X' => RT X' l (acs M m k (decide (t = 0)) (decide (t + 1 = n)) (enn (ha_gA M 17) k r - rbn (ha_gA M 17) k r) (rbn (ha_gA M 17) k r) s) ∧ FA X X' l) := by
  have hIR := hC.1
  have hm : m ≤ 60 := hC.2.2.1
  obtain ⟨u1, u2, u3, u4, u5, u6, u7, u8⟩ := hu r hr
  have hfa : f_X8_firstAct p (nI r) X = some (nI (rbn (ha_gA M 17) k r), X) := by
    unfold f_X8_firstAct f_X8_firstAct_J16
    by_cases c : r = 0
    · rw [c]; rfl
    · obtain ⟨q, rfl⟩ : ∃ q, r = q + 1 := ⟨r - 1, by omega⟩
      rw [pw_ie (nI_nle (by omega) (by omega)), n_sub1 (by omega), show q + 1 - 1 = q by omega]
      simp only [pw_bs, pg1 hIR hp1 hp2]
      rw [pw_gd (by rw [pl1 hp1 hp2]; exact n_in (by omega) (by omega)), nI_clamp (by omega), (hu q (by omega)).2.1, rbn_s]
  unfold f_X1_act
  refine ok_b hfa ?_
  generalize hb : rbn (ha_gA M 17) k r = b at *
  generalize he : enn (ha_gA M 17) k r = e at *
  refine ok_bind (P := fun X' => RT X' l (acs M m k (decide (t = 0)) (decide (t + 1 = n)) (e - b) b s) ∧ FA X X' l) ?_ (fun Y hY => ok_some hY)
  refine ok_for (fun i (Y : ha_St) => (nI i, Y)) b e (fun i Y => RT Y l (acs M m k (decide (t = 0)) (decide (t + 1 = n)) (i - b) b s) ∧ FA X Y l ∧ b ≤ i) _ X ⟨by rw [Nat.sub_self]; exact hT, FA_r X l, Nat.le_refl _⟩ (by omega) (by omega) ?_ ?_
  · rintro f i Y hi ⟨y1, y2, y3⟩ ih
    have hTI := ti_acs (k := k) hm (i - b) b s (fun j j1 j2 => (acR_r (hA r hr j (by omega)).1).1) hI
    have hFX := FA_x y2
    have hlb : 16 ≤ l := by unfold isLn at hl; omega
    have hAi := hA r hr i (by omega)
    refine act1_x (k := k) (e := e) (CX_f hl hFX hC) hl (y2.2.2.2.1.trans hn) h3 hn2 ht hp1 hp2 (by omega) (by rw [y2.2.2.2.2 _ (by omega) (by omega)]; exact u2) hi u8 ?_ y1 hTI.2.2.2.1 hTI.2.2.2.2.2.1 ((hTI.1 0 (by omega)).trans hz) (fun X' x1 x2 => ih X' ⟨?_, FA_t y2 x2, by omega⟩)
    · unfold AcX at hAi ⊢
      rw [y2.2.2.2.2 (105 + 16 * p) (by omega) (by omega), y2.2.2.2.2 (106 + 16 * p) (by omega) (by omega), y2.2.2.2.2 (107 + 16 * p) (by omega) (by omega), y2.2.2.1 p 11 (by omega)]
      exact hAi
    · rw [show i + 1 - b = i - b + 1 by omega, acs_sn, show b + (i - b) = i by omega]
      exact x1
  · rintro f Y ⟨y1, y2, y3⟩
    show Ok (f_X1_act_L8 2 l (nI t) p (nI r) f (nI e) Y) _
    unfold f_X1_act_L8
    have hlb : 16 ≤ l := by unfold isLn at hl; omega
    refine ok_b (pg1 (IR_c y2.1 hIR) hp1 hp2) (ok_gd (by rw [pl1 hp1 hp2]; exact n_in (by omega) (by omega)) ?_)
    rw [nI_clamp (by omega), y2.2.2.2.2 _ (by omega) (by omega), u2]
    exact ok_it (nI_le (Nat.le_refl _) (by omega)) (ok_some ⟨y1, y2⟩)
