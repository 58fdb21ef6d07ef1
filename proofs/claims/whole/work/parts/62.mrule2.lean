/-- gap g is foggy at a tick, told or more -/
def MF (M : ha_St) (tick g : Nat) : Prop := (ha_gI M 0 41 = nI tick ∧ ha_gI M 0 42 = nI g) ∨ (ha_gI M 0 43 = nI tick ∧ ha_gI M 0 44 = nI g) ∨ fogQ M g tick
theorem foggy_m {M : ha_St} {tick g F : Nat} (hIM : IM M) (h31 : ha_gI M 0 31 = nI F) (hF : F ≤ 60) (ht : tick ≤ 500) (hg : g < 100) : Ok (f_X12_isFoggy 0 (nI g) (nI tick) M) (fun z => z.2 = M ∧ ((z.1 = 1 ∧ MF M tick g) ∨ (z.1 = 0 ∧ ¬ MF M tick g))) := by
  have lp : Ok (f_X12_isFoggy_J34 0 (nI g) (nI tick) M) (fun z => z.2 = M ∧ ((z.1 = 1 ∧ fogQ M g tick) ∨ (z.1 = 0 ∧ ¬ fogQ M g tick))) := by
    unfold f_X12_isFoggy_J34 f_X12_isFoggy_J81
    refine ok_bind (P := fun z => (z = .inl M ∧ ¬ fogQ M g tick) ∨ (z = .inr (1, M) ∧ fogQ M g tick)) ?_ ?_
    · refine ok_for (fun i (_ : Unit) => (nI i, M)) 0 F (fun i _ => ∀ k : Nat, k < i → ¬ ((ha_gA M 28 k).toInt = g ∧ (ha_gA M 29 k).toInt ≤ tick ∧ (tick : Int) ≤ (ha_gA M 30 k).toInt)) _ () (fun k h => by omega) (by omega) (by omega) ?_ ?_
      · rintro f i - hi hv ih
        show Ok (f_X12_isFoggy_L36 0 (nI g) (nI tick) f (nI i) M) _
        unfold f_X12_isFoggy_L36 f_X12_isFoggy_L36_J75
        rw [h31]
        simp only [pw_nm, nI_1]
        refine ok_ie (nI_ge hi (by omega)) (ok_b (mA27 hIM) (ok_gd (by rw [mL28]; exact n_in (by omega) (by omega)) ?_))
        rw [nI_clamp (by omega)]
        by_cases c : ha_gA M 28 i = nI g
        · have c' : (ha_gA M 28 i).toInt = g := by rw [c, nI_toInt (by omega)]
          refine ok_ie (fun h => h c) (ok_b (mA28 hIM) (ok_gd (by rw [mL29]; exact n_in2 (by omega) (by omega)) (ok_b (mA29 hIM) (ok_gd (by rw [mL30]; exact n_in2 (by omega) (by omega)) (ok_b (isIn_eq _ _ _) ?_)))))
          by_cases d : nI tick < ha_gA M 29 i ∨ ha_gA M 30 i < nI tick
          · rw [if_pos d]
            refine ok_it rfl (ih () (fun k hk => ?_))
            by_cases e : k = i
            · subst e
              rw [i_lt, i_lt, nI_toInt (by omega)] at d
              omega
            · exact hv k (by omega)
          · rw [if_neg d]
            refine ok_ie (by decide) (ok_some (Or.inr ⟨rfl, i, ?_, c', ?_⟩))
            · rw [h31, nI_toInt (by omega)]; omega
            · rw [i_lt, i_lt, nI_toInt (by omega)] at d
              omega
        · refine ok_it c (ih () (fun k hk => ?_))
          by_cases e : k = i
          · subst e
            rintro ⟨h, -⟩
            refine c ?_
            rw [i_eq, h, nI_toInt (by omega)]
          · exact hv k (by omega)
      · rintro f - hv
        show Ok (f_X12_isFoggy_L36 0 (nI g) (nI tick) f (nI F) M) _
        unfold f_X12_isFoggy_L36
        rw [h31]
        refine ok_it (nI_le (Nat.le_refl _) (by omega)) (ok_some (Or.inl ⟨rfl, ?_⟩))
        rintro ⟨k, h1, h2⟩
        rw [h31, nI_toInt (by omega)] at h1
        exact hv k (by omega) h2
    · rintro z (⟨rfl, h⟩ | ⟨rfl, h⟩)
      · exact ok_some ⟨rfl, Or.inr ⟨rfl, h⟩⟩
      · exact ok_some ⟨rfl, Or.inl ⟨rfl, h⟩⟩
  have l2 : Ok (f_X12_isFoggy_J16 0 (nI g) (nI tick) M) (fun z => z.2 = M ∧ ((z.1 = 1 ∧ ((ha_gI M 0 43 = nI tick ∧ ha_gI M 0 44 = nI g) ∨ fogQ M g tick)) ∨ (z.1 = 0 ∧ ¬ ((ha_gI M 0 43 = nI tick ∧ ha_gI M 0 44 = nI g) ∨ fogQ M g tick)))) := by
    unfold f_X12_isFoggy_J16 f_X12_isFoggy_J32
    by_cases c : ha_gI M 0 43 = nI tick
    · refine ok_ie (fun h => h c) ?_
      by_cases d : ha_gI M 0 44 = nI g
      · exact ok_ie (fun h => h d) (ok_some ⟨rfl, Or.inl ⟨rfl, Or.inl ⟨c, d⟩⟩⟩)
      · refine ok_it d (ok_mono lp (fun z hz => ⟨hz.1, ?_⟩))
        rcases hz.2 with ⟨h1, h2⟩ | ⟨h1, h2⟩
        · exact Or.inl ⟨h1, Or.inr h2⟩
        · exact Or.inr ⟨h1, fun h => h.elim (fun h => d h.2) h2⟩
    · refine ok_it c (ok_mono lp (fun z hz => ⟨hz.1, ?_⟩))
      rcases hz.2 with ⟨h1, h2⟩ | ⟨h1, h2⟩
      · exact Or.inl ⟨h1, Or.inr h2⟩
      · exact Or.inr ⟨h1, fun h => h.elim (fun h => c h.1) h2⟩
  unfold f_X12_isFoggy f_X12_isFoggy_J32
  by_cases c : ha_gI M 0 41 = nI tick
  · refine ok_ie (fun h => h c) ?_
    by_cases d : ha_gI M 0 42 = nI g
    · exact ok_it d (ok_some ⟨rfl, Or.inl ⟨rfl, Or.inl ⟨c, d⟩⟩⟩)
    · refine ok_ie d (ok_mono l2 (fun z hz => ⟨hz.1, ?_⟩))
      rcases hz.2 with ⟨h1, h2⟩ | ⟨h1, h2⟩
      · exact Or.inl ⟨h1, Or.inr h2⟩
      · exact Or.inr ⟨h1, fun h => h.elim (fun h => d h.2) h2⟩
  · refine ok_it c (ok_mono l2 (fun z hz => ⟨hz.1, ?_⟩))
    rcases hz.2 with ⟨h1, h2⟩ | ⟨h1, h2⟩
    · exact Or.inl ⟨h1, Or.inr h2⟩
    · exact Or.inr ⟨h1, fun h => h.elim (fun h => c h.1) h2⟩
/-- the model as it stands around a tick -/
def CM (M M0 : ha_St) (m n : Nat) : Prop := IM M ∧ PA M M0 ∧ ha_gI M 0 30 = nI m ∧ ha_gI M 0 4 = nI n ∧ (∃ F, F ≤ 60 ∧ ha_gI M 0 31 = nI F) ∧ m ≤ 60 ∧ 3 ≤ n ∧ n ≤ 16 ∧ ∀ k, k < 3 → ∃ X p, PR X p M0 k
/-- what a tick leaves alone in the model -/
def FS (M M' : ha_St) : Prop := ha_gR M' = ha_gR M ∧ (∀ k, k ≠ 37 → k ≠ 38 → k ≠ 39 → k ≠ 40 → k ≠ 45 → k ≠ 46 → ha_gI M' 0 k = ha_gI M 0 k) ∧ ∀ a, ¬ (33 ≤ a ∧ a ≤ 37) → a ≠ 48 → ha_gA M' a = ha_gA M a
theorem FS_r (M : ha_St) : FS M M := ⟨rfl, fun _ _ _ _ _ _ _ => rfl, fun _ _ _ => rfl⟩
theorem FS_t {M M1 M2 : ha_St} (h : FS M M1) (g : FS M1 M2) : FS M M2 := ⟨g.1.trans h.1, fun k a b c d e f => (g.2.1 k a b c d e f).trans (h.2.1 k a b c d e f), fun x a b => (g.2.2 x a b).trans (h.2.2 x a b)⟩
theorem CM_f {M M1 M0 : ha_St} {m n : Nat} (h : FS M M1) (hC : CM M M0 m n) : CM M1 M0 m n := by
  obtain ⟨c1, c2, c3, c4, ⟨F, c5, c6⟩, c7⟩ := hC
  exact ⟨IM_c h.1 c1, fun a ha => (h.2.2 a (by omega) (by omega)).trans (c2 a ha), by rw [h.2.1 30 (by omega) (by omega) (by omega) (by omega) (by omega) (by omega)]; exact c3, by rw [h.2.1 4 (by omega) (by omega) (by omega) (by omega) (by omega) (by omega)]; exact c4, ⟨F, c5, by rw [h.2.1 31 (by omega) (by omega) (by omega) (by omega) (by omega) (by omega)]; exact c6⟩, c7⟩
theorem MF_f {M M1 : ha_St} {tick g : Nat} (h : FS M M1) : MF M1 tick g ↔ MF M tick g := by
  have i31 := h.2.1 31 (by omega) (by omega) (by omega) (by omega) (by omega) (by omega)
  have i41 := h.2.1 41 (by omega) (by omega) (by omega) (by omega) (by omega) (by omega)
  have i42 := h.2.1 42 (by omega) (by omega) (by omega) (by omega) (by omega) (by omega)
  have i43 := h.2.1 43 (by omega) (by omega) (by omega) (by omega) (by omega) (by omega)
  have i44 := h.2.1 44 (by omega) (by omega) (by omega) (by omega) (by omega) (by omega)
  have a28 := h.2.2 28 (by omega) (by omega)
  have a29 := h.2.2 29 (by omega) (by omega)
  have a30 := h.2.2 30 (by omega) (by omega)
  unfold MF fogQ
  rw [i31, i41, i42, i43, i44, a28, a29, a30]
/-- tower t's rule, in the model: what changes besides its own cells -/
def FD (M M' : ha_St) (t : Nat) : Prop := ha_gR M' = ha_gR M ∧ (∀ k, k ≠ 37 → k ≠ 38 → k ≠ 40 → k ≠ 45 → k ≠ 46 → ha_gI M' 0 k = ha_gI M 0 k) ∧ (∀ a, a ≠ 33 → a ≠ 35 → a ≠ 37 → ha_gA M' a = ha_gA M a) ∧ (∀ u, u ≠ t → ha_gA M' 33 u = ha_gA M 33 u) ∧ ∀ j, ¬ (4 * t ≤ j ∧ j < 4 * t + 4) → ha_gA M' 35 j = ha_gA M 35 j
theorem rule_m {M M0 : ha_St} {m n t tick se wr0 sc : Nat} {fg : Nat → Bool} {L : LNS} (hC : CM M M0 m n) (htk : tick ≤ 500) (ht : t < n) (hfg : ∀ g, g < 15 → (fg g = true ↔ MF M tick g)) (hI : LIn M0 m L) (hah : ∀ u, u < n → ha_gA M 34 u = L.1 u) (hs : ha_gA M 33 t = L.1 t) (htm : ha_gA M 36 t = L.2.1 t) (hcl : ∀ c, c < 4 → ha_gA M 35 (4 * t + c) = L.2.2.1 (4 * t + c)) (h38 : ha_gI M 0 38 = nI sc) (hsc : sc ≤ m) (hsc0 : t = 0 → sc = L.2.2.2.1) (h37 : ha_gI M 0 37 = nI L.2.2.2.2.1) (hbk : ∀ k, k < L.2.2.2.2.1 → ha_gA M 37 k = L.2.2.2.2.2.2 k) (hse : se ≤ sc) (hwr : wr0 ≤ L.2.2.2.2.1) (hH : HC M se wr0 (wv M0 m n fg L t, sc, L.2.2.2.2)) : Ok (f_X12_doRule 0 (nI t) (nI tick) (nI (kin n t)) M) (fun M' => RMT M' M0 m t (twr M0 m (kin n t) (decide (t = 0)) (decide (t + 1 = n)) (wv M0 m n fg L t, sc, L.2.2.2.2)) ∧ FD M M' t ∧ HC M' se wr0 (twr M0 m (kin n t) (decide (t = 0)) (decide (t + 1 = n)) (wv M0 m n fg L t, sc, L.2.2.2.2))) := by
  obtain ⟨hIM, hA, h30, h4, ⟨F, hF, h31⟩, hm, h3, hn, hPR⟩ := hC
  obtain ⟨X, p, hPR⟩ := hPR (kin n t) (kin_lt n t)
  have fin : ∀ lv rv : Int32, lv = wv M0 m n fg L t 100 → rv = wv M0 m n fg L t 101 → Ok (f_X12_doRule_J63 0 (nI t) (nI tick) (nI (kin n t)) 0 rv (ha_sI M 0 45 lv)) (fun M' => RMT M' M0 m t (twr M0 m (kin n t) (decide (t = 0)) (decide (t + 1 = n)) (wv M0 m n fg L t, sc, L.2.2.2.2)) ∧ FD M M' t ∧ HC M' se wr0 (twr M0 m (kin n t) (decide (t = 0)) (decide (t + 1 = n)) (wv M0 m n fg L t, sc, L.2.2.2.2))) := by
    intro lv rv hlv hrv
    unfold f_X12_doRule_J63
    rw [pw_nm]
    refine ok_mono (rules_m (M := ha_sI (ha_sI M 0 45 lv) 0 46 rv) (M0 := M0) (s := (wv M0 m n fg L t, sc, L.2.2.2.2)) (se := se) (wr0 := wr0) (IM_c (M := M) rfl hIM) (fun a ha => hA a ha) hm h30 h4 h3 hn ht (kin_lt n t) hPR ⟨hs, fun c hc => ?_, hlv, hrv, htm, h38, h37, hbk, fun c hc => ?_, rfl, ?_⟩ ⟨fun _ _ => rfl, ?_, Nat.le_refl _, hsc, Nat.le_refl _, hI.2.2.2.1, fun _ => rfl, fun _ => rfl, hI.1 t, hI.2.2.2.2, fun _ => rfl⟩ hse hwr hH) ?_
    · dsimp only
      unfold wv
      rw [if_neg (by omega), if_neg (by omega), if_neg (by omega), if_neg (by omega), if_neg (by omega), if_neg (by omega), if_neg (by omega), show 106 + c - 106 = c by omega]
      exact hcl c hc
    · dsimp only
      unfold wv
      rw [if_pos hc]
    · show (if t = 0 then wat M0 m L.2.2.2.1 else -1) = if t = 0 then wat M0 m sc else -1
      by_cases e : t = 0
      · rw [hsc0 e]
      · rw [if_neg e, if_neg e]
    · show (if t = 0 then wat M0 m L.2.2.2.1 else -1) = if decide (t = 0) = true then wat M0 m sc else -1
      by_cases e : t = 0
      · rw [hsc0 e]; simp [e]
      · simp [e]
    · rintro M' ⟨h1, h2, h3⟩
      refine ⟨h1, ⟨h2.1, fun k a b c d e => ?_, fun x a b c => h2.2.2.1 x a b c, fun u hu => h2.2.2.2.1 u hu, fun j hj => h2.2.2.2.2 j hj⟩, h3⟩
      rw [h2.2.1 k a b c, st_II, if_neg (by omega), st_II, if_neg (by omega)]
  have rt : ∀ lv : Int32, lv = wv M0 m n fg L t 100 → Ok (f_X12_doRule_J28 0 (nI t) (nI tick) (nI (kin n t)) 0 lv M) (fun M' => RMT M' M0 m t (twr M0 m (kin n t) (decide (t = 0)) (decide (t + 1 = n)) (wv M0 m n fg L t, sc, L.2.2.2.2)) ∧ FD M M' t ∧ HC M' se wr0 (twr M0 m (kin n t) (decide (t = 0)) (decide (t + 1 = n)) (wv M0 m n fg L t, sc, L.2.2.2.2))) := by
    intro lv hlv
    unfold f_X12_doRule_J28 f_X12_doRule_J51
    rw [pw_nm, show ha_gI (ha_sI M 0 45 lv) 0 4 = nI n from h4, n_sub1 (by omega)]
    by_cases c : t + 1 = n
    · refine ok_it (by rw [show n - 1 = t by omega]) (fin lv _ hlv ?_)
      show _ = if t + 1 = n ∨ fg t = true then _ else _
      rw [if_pos (Or.inl c)]
    · refine ok_ie (fun h => by rw [nI_eq (by omega) (by omega)] at h; omega) (ok_bind (foggy_m (M := ha_sI M 0 45 lv) (g := t) (IM_c (M := M) rfl hIM) h31 hF htk (by omega)) ?_)
      rintro ⟨zz, Z⟩ ⟨e1, e2⟩
      dsimp only at e1 e2 ⊢
      subst e1
      have hmf : MF (ha_sI M 0 45 lv) tick t ↔ fg t = true := (hfg t (by omega)).symm
      rw [hmf] at e2
      rcases e2 with ⟨e2, e3⟩ | ⟨e2, e3⟩
      · rw [e2]
        refine ok_ie (by decide) (fin lv _ hlv ?_)
        show _ = if t + 1 = n ∨ fg t = true then _ else _
        rw [if_pos (Or.inr e3)]
      · rw [e2]
        refine ok_it rfl (ok_b (mA33 (M := ha_sI M 0 45 lv) (IM_c (M := M) rfl hIM)) ?_)
        rw [nI_1, mL34]
        refine ok_gd (n_in (by omega) (by omega)) ?_
        rw [nI_clamp (by omega), st_AI, hah (t + 1) (by omega)]
        refine fin lv _ hlv ?_
        show _ = if t + 1 = n ∨ fg t = true then _ else _
        rw [if_neg (fun h => h.elim c e3)]
  unfold f_X12_doRule f_X12_doRule_J16
  by_cases c : t = 0
  · refine ok_it (by rw [c]; rfl) (rt _ ?_)
    show _ = if t = 0 ∨ fg (t - 1) = true then _ else _
    rw [if_pos (Or.inl c)]
  · rw [n_sub1 (by omega)]
    refine ok_ie (nI_ne0 (by omega) (by omega)) (ok_bind (foggy_m (g := t - 1) hIM h31 hF htk (by omega)) ?_)
    rintro ⟨zz, Z⟩ ⟨e1, e2⟩
    dsimp only at e1 e2 ⊢
    subst e1
    have hmf : MF Z tick (t - 1) ↔ fg (t - 1) = true := (hfg (t - 1) (by omega)).symm
    rw [hmf] at e2
    rcases e2 with ⟨e2, e3⟩ | ⟨e2, e3⟩
    · rw [e2]
      refine ok_ie (by decide) (rt _ ?_)
      show _ = if t = 0 ∨ fg (t - 1) = true then _ else _
      rw [if_pos (Or.inr e3)]
    · rw [e2]
      refine ok_it rfl (ok_b (mA33 hIM) ?_)
      rw [mL34]
      refine ok_gd (n_in (by omega) (by omega)) ?_
      rw [nI_clamp (by omega), hah (t - 1) (by omega)]
      refine rt _ ?_
      show _ = if t = 0 ∨ fg (t - 1) = true then _ else _
      rw [if_neg (fun h => h.elim c e3)]
