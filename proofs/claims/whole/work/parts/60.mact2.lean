/-- one act, in the model -/
theorem act1_m {M M0 : ha_St} {m n t k i se wr0 : Nat} {s : TW} (hIM : IM M) (hA : PA M M0) (hm : m ≤ 60) (h30 : ha_gI M 0 30 = nI m) (h4 : ha_gI M 0 4 = nI n) (h3 : 3 ≤ n) (hn : n ≤ 16) (ht : t < n) (hk : k < 3) (hi : i < 40) {X : ha_St} {p : Nat} (hX : AcX X p M0 k i) (hR : RMT M M0 m t s) (hT : s.2.1 ≤ m ∧ s.2.2.1 ≤ 100 ∧ se ≤ s.2.1 ∧ wr0 ≤ s.2.2.1) (hH : HC M se wr0 s) : Ok (f_X12_act 0 (nI (40 * k + i)) (nI t) M) (fun M' => RMT M' M0 m t (ac1 M0 m k (decide (t = 0)) (decide (t + 1 = n)) i s) ∧ FT M M' t ∧ HC M' se wr0 (ac1 M0 m k (decide (t = 0)) (decide (t + 1 = n)) i s)) := by
  obtain ⟨hac, a, b, -, -, ha2, hb2, hv⟩ := hX
  obtain ⟨hT1, hT2, hT3, hT4⟩ := hT
  have val := fun v (hv : v < 110) => val_m hIM hA hm h30 hn ht hR hT1 hv
  have hRR := hR
  obtain ⟨w, sn, wr, wa, bk⟩ := s
  obtain ⟨r1, r2, r3, r4, r5, r6, r7, r8, r9, r10, r11⟩ := hR
  dsimp only at r1 r2 r3 r4 r5 r6 r7 r8 r9 r10 r11 hT1 hT2 hT3 hT4 val
  have hcl : (nI (40 * k + i)).toNatClampNeg = 40 * k + i := nI_clamp (by omega)
  have g1 : ¬ (nI (40 * k + i) < 0 ∨ 160 ≤ 40 * k + i) := n_in2 (by omega) (by omega)
  have e40 : (4 : Int32) * nI t = nI (4 * t) := nI_mul 4 t
  unfold f_X12_act f_X12_act_J28
  refine ok_b (mA20 hIM) ?_
  rw [mL21, hcl]
  refine ok_gd g1 ?_
  rw [pw_nm, hA 21 (by omega)]
  have h0 : w 0 = 0 := by rw [r9 0 (by omega)]; rfl
  -- the sum
  have sum : ha_gA M0 21 (40 * k + i) ≠ 6 → ∀ (v3 : Int32) (Q : ha_St → Prop), (∀ x y, (x + y) &&& 63 = acv M0 k i w → Ok (f_X12_act_J81 0 (nI (40 * k + i)) (nI t) v3 x y M) Q) → Ok ((ha_rf mo_kd M 0 21 100).bind fun r22 => ha_gd (¬ (nI (40 * k + i) < 0 ∨ mo_ln r22 ≤ 40 * k + i)) <| (f_X12_valueOf 0 (ha_gA M r22 (40 * k + i)) (nI t) M).bind fun z24 => (ha_rf mo_kd z24.2 0 22 100).bind fun r25 => ha_gd (¬ (nI (40 * k + i) < 0 ∨ mo_ln r25 ≤ 40 * k + i)) <| if ¬ ha_gA z24.2 r25 (40 * k + i) = -1 then (ha_rf mo_kd z24.2 0 22 100).bind fun r28 => ha_gd (¬ (nI (40 * k + i) < 0 ∨ mo_ln r28 ≤ 40 * k + i)) <| (f_X12_valueOf 0 (ha_gA z24.2 r28 (40 * k + i)) (nI t) z24.2).bind fun z30 => f_X12_act_J81 0 (nI (40 * k + i)) (nI t) v3 z24.1 z30.1 z30.2 else f_X12_act_J81 0 (nI (40 * k + i)) (nI t) v3 z24.1 0 z24.2) Q := by
    intro h6 v3 Q hK
    obtain ⟨v1, v2, v3⟩ := hv h6
    refine ok_b (mA21 hIM) ?_
    rw [mL22]
    refine ok_gd g1 ?_
    rw [hA 22 (by omega), v1]
    refine ok_b (val a ha2) (ok_b (mA22 hIM) ?_)
    rw [mL23]
    refine ok_gd g1 ?_
    dsimp only
    rw [hA 23 (by omega)]
    have hac : acv M0 k i w = (w a + (if ha_gA M0 23 (40 * k + i) = -1 then 0 else w (tn (ha_gA M0 23 (40 * k + i))))) &&& 63 := by
      unfold acv; rw [v1, tn_n (by omega)]
    rcases v2 with ⟨d1, d2⟩ | d1
    · refine ok_ie (fun h => h d1) (hK _ _ ?_)
      rw [hac, if_pos d1]
    · have hne : ¬ ha_gA M0 23 (40 * k + i) = -1 := by rw [d1]; exact n_m1 (by omega)
      refine ok_it hne (ok_b (mA22 hIM) ?_)
      rw [mL23]
      refine ok_gd g1 ?_
      rw [hA 23 (by omega)]
      rw [d1]
      refine ok_b (val b hb2) (hK _ _ ?_)
      rw [hac, if_neg hne, d1, tn_n (by omega)]
  rcases hac with ⟨-, e2⟩ | ⟨-, e2⟩ | ⟨-, e2⟩ | h7
  · rw [e2]
    refine ok_it (by decide) (sum (by rw [e2]; decide) _ _ (fun x y hxy => ?_))
    unfold f_X12_act_J81 f_X12_act_J168
    rw [pw_nm, hxy]
    refine ok_ie (by decide) (ok_b (mA32 hIM) (ok_gd (by rw [mL33]; exact n_in (by omega) (by omega)) (ok_nm (ok_some ?_))))
    rw [nI_clamp (by omega)]
    have hq : ac1 M0 m k (decide (t = 0)) (decide (t + 1 = n)) i (w, sn, wr, wa, bk) = (upd w 102 (acv M0 k i w), sn, wr, wa, bk) := by
      unfold ac1
      rw [e2, if_neg (by decide), if_pos rfl]
    rw [hq]
    refine ⟨⟨?_, fun c hc => ?_, ?_, ?_, ?_, r6, r7, r8, fun c hc => ?_, ?_, ?_⟩, ⟨rfl, fun _ _ _ _ => rfl, fun x h1 h2 h3 => by rw [st_AA, if_neg h1], fun u hu => by rw [st_AA, if_pos rfl, pk_un hu], fun j hj => rfl⟩, hH⟩
    · dsimp only; rw [st_AA, if_pos rfl]; exact pk_us.trans pk_us.symm
    · dsimp only; rw [pk_un (by omega)]; exact r2 c hc
    · dsimp only; rw [pk_un (by omega)]; exact r3
    · dsimp only; rw [pk_un (by omega)]; exact r4
    · dsimp only; rw [pk_un (by omega)]; exact r5
    · dsimp only; rw [pk_un (by omega)]; exact r9 c hc
    · dsimp only; rw [pk_un (by omega)]; exact r10
    · dsimp only; rw [pk_un (by omega)]; exact r11
  · rw [e2]
    refine ok_it (by decide) (sum (by rw [e2]; decide) _ _ (fun x y hxy => ?_))
    unfold f_X12_act_J81 f_X12_act_J168
    rw [pw_nm, hxy]
    refine ok_it (by decide) (ok_it (by decide) ?_)
    have hq : ac1 M0 m k (decide (t = 0)) (decide (t + 1 = n)) i (w, sn, wr, wa, bk) = if t + 1 = n ∧ wr < 100 then (w, sn, wr + 1, (if wa = -1 ∧ ¬ (wr < m ∧ ha_gA M0 27 wr = acv M0 k i w) then nI wr else wa), upd bk wr (acv M0 k i w)) else (w, sn, wr, wa, bk) := by
      unfold ac1
      rw [e2, if_neg (by decide), if_neg (by decide), if_neg (by decide)]
      simp only [decide_eq_true_eq]
    rw [h4, n_sub1 (by omega), r7]
    by_cases c1 : t + 1 = n
    · refine ok_ie (fun h => h (by rw [show n - 1 = t by omega])) ?_
      by_cases c2 : wr < 100
      · refine ok_ie (show ¬ nI 100 ≤ nI wr from nI_ge c2 (by omega)) (ok_b (mA36 hIM) (ok_gd (by rw [mL37]; exact n_in (by omega) (by omega)) ?_))
        simp only [pw_nm]
        refine ok_gd (Or.inr trivial) (ok_some ?_)
        rw [st_IA, r7, nI_1, nI_clamp (by omega), hq, if_pos ⟨c1, c2⟩]
        refine ⟨⟨r1, r2, r3, r4, r5, r6, rfl, fun q hq => ?_, r9, r10, r11⟩, ⟨rfl, fun q h1 h2 h3 => ?_, fun x h1 h2 h3 => ?_, fun _ _ => rfl, fun _ _ => rfl⟩, Or.inl ⟨rfl, Or.inr (show wr + 1 ≠ wr0 by omega)⟩⟩
        · dsimp only at hq ⊢
          rw [st_AI, st_AI, st_AA, if_pos rfl]
          by_cases e : q = wr
          · rw [e, pk_us, pk_us]
          · rw [pk_un e, pk_un e]; exact r8 q (by omega)
        · rw [st_II, if_neg (by omega), st_II, if_neg (by omega)]; rfl
        · rw [st_AI, st_AI, st_AA, if_neg h3]
      · refine ok_it (show nI 100 ≤ nI wr from nI_le (by omega) (by omega)) (ok_some ?_)
        rw [hq, if_neg (fun h => c2 h.2)]
        exact ⟨hRR, FT_r M t, hH⟩
    · refine ok_it (fun h => ?_) (ok_some ?_)
      · rw [nI_eq (by omega) (by omega)] at h; omega
      · rw [hq, if_neg (fun h => c1 h.1)]
        exact ⟨hRR, FT_r M t, hH⟩
  · rw [e2]
    refine ok_ie (by decide) ?_
    have hq : ac1 M0 m k (decide (t = 0)) (decide (t + 1 = n)) i (w, sn, wr, wa, bk) = if t = 0 ∧ sn < m then (upd w 104 (wat M0 m (sn + 1)), sn + 1, wr, wa, bk) else (w, sn, wr, wa, bk) := by
      unfold ac1
      rw [if_pos e2]
      simp only [decide_eq_true_eq]
    rw [r6, h30]
    by_cases c1 : t = 0
    · refine ok_ie (by rw [c1]; decide) ?_
      by_cases c2 : sn < m
      · refine ok_it (fun h => ?_) ?_
        · rw [nI_eq (by omega) (by omega)] at h; omega
        simp only [pw_nm, nI_1]
        refine ok_gd (Or.inr trivial) (ok_some ?_)
        rw [hq, if_pos ⟨c1, c2⟩]
        refine ⟨⟨?_, fun c hc => ?_, ?_, ?_, ?_, rfl, r7, r8, fun c hc => ?_, ?_, ?_⟩, ⟨rfl, fun q h1 h2 h3 => ?_, fun _ _ _ _ => rfl, fun _ _ => rfl, fun _ _ => rfl⟩, Or.inl ⟨rfl, Or.inl (show sn + 1 ≠ se by omega)⟩⟩
        · dsimp only; rw [pk_un (by omega)]; exact r1
        · dsimp only; rw [pk_un (by omega)]; exact r2 c hc
        · dsimp only; rw [pk_un (by omega)]; exact r3
        · dsimp only; rw [pk_un (by omega)]; exact r4
        · dsimp only; rw [pk_un (by omega)]; exact r5
        · dsimp only; rw [pk_un (by omega)]; exact r9 c hc
        · dsimp only; rw [pk_un (by omega)]; exact r10
        · dsimp only; rw [pk_us, if_pos c1]
        · rw [st_II, if_neg (by omega), st_II, if_neg (by omega)]
      · refine ok_ie (fun h => h ?_) (ok_some ?_)
        · rw [show sn = m by omega]
        · rw [hq, if_neg (fun h => c2 h.2)]
          exact ⟨hRR, FT_r M t, hH⟩
    · refine ok_it (show nI 0 < nI t from nI_lt (by omega) (by omega)) (ok_some ?_)
      rw [hq, if_neg (fun h => c1 h.1)]
      exact ⟨hRR, FT_r M t, hH⟩
  · have hcc : ∃ c, c < 4 ∧ ha_gA M0 21 (40 * k + i) = nI c := by
      rcases h7 with ⟨-, e⟩ | ⟨-, e⟩ | ⟨-, e⟩ | ⟨-, e⟩
      · exact ⟨0, by omega, e⟩
      · exact ⟨1, by omega, e⟩
      · exact ⟨2, by omega, e⟩
      · exact ⟨3, by omega, e⟩
    obtain ⟨c, hc, e2⟩ := hcc
    have n6 : ¬ nI c = 6 := fun h => by have := (nI_eq (a := c) (b := 6) (by omega) (by omega)).mp h; omega
    have n4 : ¬ nI c = 4 := fun h => by have := (nI_eq (a := c) (b := 4) (by omega) (by omega)).mp h; omega
    have hq : ac1 M0 m k (decide (t = 0)) (decide (t + 1 = n)) i (w, sn, wr, wa, bk) = (upd w (106 + c) (acv M0 k i w), sn, wr, wa, bk) := by
      unfold ac1
      rw [e2, if_neg n6, if_neg n4, if_pos (by rw [nI_toInt (by omega)]; omega), tn_n (by omega)]
    rw [e2]
    refine ok_it n6 (sum (by rw [e2]; exact n6) _ _ (fun x y hxy => ?_))
    unfold f_X12_act_J81 f_X12_act_J168
    rw [pw_nm, hxy]
    refine ok_it n4 (ok_ie (show ¬ nI 4 ≤ nI c from nI_ge hc (by omega)) (ok_b (mA34 hIM) ?_))
    rw [e40, nI_add]
    refine ok_gd (by rw [mL35]; exact n_in (by omega) (by omega)) (ok_nm (ok_some ?_))
    rw [nI_clamp (by omega), hq]
    refine ⟨⟨?_, fun q hq => ?_, ?_, ?_, ?_, r6, r7, r8, fun c hc => ?_, ?_, ?_⟩, ⟨rfl, fun _ _ _ _ => rfl, fun x h1 h2 h3 => by rw [st_AA, if_neg h2], fun u hu => rfl, fun j hj => ?_⟩, hH⟩
    · dsimp only; rw [pk_un (by omega)]; exact r1
    · dsimp only
      rw [st_AA, if_pos rfl]
      by_cases e : q = c
      · rw [e]; exact pk_us.trans pk_us.symm
      · rw [pk_un (by omega), pk_un (by omega)]; exact r2 q hq
    · dsimp only; rw [pk_un (by omega)]; exact r3
    · dsimp only; rw [pk_un (by omega)]; exact r4
    · dsimp only; rw [pk_un (by omega)]; exact r5
    · dsimp only; rw [pk_un (by omega)]; exact r9 c hc
    · dsimp only; rw [pk_un (by omega)]; exact r10
    · dsimp only; rw [pk_un (by omega)]; exact r11
    · rw [st_AA, if_pos rfl, pk_un (by omega)]
