/-! THE MODEL: a tick -/
theorem ok_fors {α β σ : Type} {F : (α → Option β) → α → Option β} {a0 : α} (g : Nat → σ → α) (i0 N : Nat) (I : Nat → σ → Prop) (Q : β → Prop) (s0 : σ) (e : a0 = g i0 s0) (h0 : I i0 s0) (hi : i0 ≤ N) (hN : N - i0 < 100000) (h1 : ∀ (f : α → Option β) (i : Nat) (s : σ), i < N → I i s → (∀ s', I (i + 1) s' → Ok (f (g (i + 1) s')) Q) → Ok (F f (g i s)) Q) (h2 : ∀ (f : α → Option β) (s : σ), I N s → Ok (F f (g N s)) Q) : Ok (ha_itr F ha_fu a0) Q := by
  rw [e]
  exact ok_for g i0 N I Q s0 h0 hi hN h1 h2
def RM (M : ha_St) (n : Nat) (L : LNS) : Prop := (∀ t, t < n → ha_gA M 33 t = L.1 t) ∧ (∀ t, t < n → ha_gA M 36 t = L.2.1 t) ∧ (∀ j, j < 4 * n → ha_gA M 35 j = L.2.2.1 j) ∧ ha_gI M 0 38 = nI L.2.2.2.1 ∧ ha_gI M 0 37 = nI L.2.2.2.2.1 ∧ ∀ k, k < L.2.2.2.2.1 → ha_gA M 37 k = L.2.2.2.2.2.2 k
def AR (M Y : ha_St) (n : Nat) (L L' : LNS) : Prop := FS M Y ∧ (∀ u, u < n → ha_gA Y 34 u = L.1 u) ∧ (∀ j, j < 4 * n → ha_gA Y 48 j = L.2.2.1 j) ∧ (∀ u, u < n → ha_gA Y 33 u = L'.1 u) ∧ (∀ j, j < 4 * n → ha_gA Y 35 j = L'.2.2.1 j) ∧ ha_gI Y 0 38 = nI L'.2.2.2.1 ∧ ha_gI Y 0 37 = nI L'.2.2.2.2.1 ∧ (∀ k, k < L'.2.2.2.2.1 → ha_gA Y 37 k = L'.2.2.2.2.2.2 k) ∧ ha_gI Y 0 39 = ha_gI M 0 39
theorem AR_c {M Y Y1 : ha_St} {n : Nat} {L L' : LNS} (a1 : ha_gR Y1 = ha_gR Y) (a2 : ∀ k, k ≠ 40 → ha_gI Y1 0 k = ha_gI Y 0 k) (a3 : ∀ a, a ≠ 36 → ha_gA Y1 a = ha_gA Y a) (h : AR M Y n L L') : AR M Y1 n L L' := by
  obtain ⟨h1, h2, h3, h4, h5, h6, h7, h8, h9⟩ := h
  exact ⟨FS_t h1 ⟨a1, fun k _ _ _ h _ _ => a2 k h, fun a h _ => a3 a (by omega)⟩, fun u hu => by rw [a3 34 (by omega)]; exact h2 u hu, fun j hj => by rw [a3 48 (by omega)]; exact h3 j hj, fun u hu => by rw [a3 33 (by omega)]; exact h4 u hu, fun j hj => by rw [a3 35 (by omega)]; exact h5 j hj, (a2 38 (by omega)).trans h6, (a2 37 (by omega)).trans h7, fun k hk => by rw [a3 37 (by omega)]; exact h8 k hk, (a2 39 (by omega)).trans h9⟩
theorem chg_e {n : Nat} {L L' : LNS} : chg n L L' ↔ ((((L'.2.2.2.1 ≠ L.2.2.2.1 ∨ L'.2.2.2.2.1 ≠ L.2.2.2.2.1) ∨ ∃ u, u < n ∧ ¬ L'.1 u = L.1 u)) ∨ ∃ j, j < 4 * n ∧ ¬ L'.2.2.1 j = L.2.2.1 j) := by
  constructor
  · rintro (⟨u, hu, hc⟩ | h | h)
    · by_cases c : L'.1 u = L.1 u
      · refine Or.inr (Classical.byContradiction fun h => hc ⟨c, fun q hq => Classical.byContradiction fun g => h ⟨4 * u + q, by omega, g⟩⟩)
      · exact Or.inl (Or.inr ⟨u, hu, c⟩)
    · exact Or.inl (Or.inl (Or.inl h))
    · exact Or.inl (Or.inl (Or.inr h))
  · rintro (((h | h) | ⟨u, hu, h⟩) | ⟨j, hj, h⟩)
    · exact Or.inr (Or.inl h)
    · exact Or.inr (Or.inr h)
    · exact Or.inl ⟨u, hu, fun g => h g.1⟩
    · refine Or.inl ⟨j / 4, by omega, fun g => h ?_⟩
      have := g.2 (j % 4) (by omega)
      rw [show 4 * (j / 4) + j % 4 = j by omega] at this
      exact this
theorem step_m {M M0 : ha_St} {m n tick : Nat} {fg : Nat → Bool} {L : LNS} (hC : CM M M0 m n) (htk : tick ≤ 500) (hfg : ∀ g, g < 15 → (fg g = true ↔ MF M tick g)) (hI : LIn M0 m L) (hR : RM M n L) : Ok (f_X12_step 0 (nI tick) M) (fun M' => RM M' n (stp M0 m n fg L) ∧ FS M M' ∧ ((chg n L (stp M0 m n fg L) ∧ ha_gI M' 0 39 = nI tick) ∨ (¬ chg n L (stp M0 m n fg L) ∧ ha_gI M' 0 39 = ha_gI M 0 39))) := by
  have hC0 := hC
  obtain ⟨hIM, hA, h30, h4, ⟨F, hF, h31⟩, hm, h3, hn, hPR⟩ := hC
  have hp : ∀ k, k < 3 → PVa M0 k := fun k hk => by
    obtain ⟨X, p, h⟩ := hPR k hk
    exact pr_pva h
  obtain ⟨r1, r2, r3, r4, r5, r6⟩ := hR
  have e4n : (4 : Int32) * nI n = nI (4 * n) := nI_mul 4 n
  have hI' := li_stp (n := n) (fg := fg) hm hp hI
  have hTI : ∀ t, TI M0 m (decide (t = 0)) (decide (t + 1 = n)) (wv M0 m n fg L t, L.2.2.2) (tws M0 m n fg L t) := fun t => ti_tws hm hp hI
  unfold f_X12_step
  refine ok_gd (Or.inl rfl) ?_
  rw [pw_nm]
  generalize hM1 : ha_sI M 0 40 0 = M1
  have i1 : ∀ k, k ≠ 40 → ha_gI M1 0 k = ha_gI M 0 k := fun k hk => by rw [← hM1, st_II, if_neg (by omega)]
  have a1 : ha_gA M1 = ha_gA M := by rw [← hM1]; rfl
  have q1 : ha_gR M1 = ha_gR M := by rw [← hM1]; rfl
  have z1 : ha_gI M1 0 40 = 0 := by rw [← hM1, st_II, if_pos ⟨rfl, rfl⟩]
  -- ahead
  refine ok_bind (P := fun Y => ∃ f, Y = ha_sA M1 34 f ∧ ∀ u, u < n → f u = L.1 u) ?_ ?_
  · refine ok_fors (fun i (f : Nat → Int32) => (nI i, ha_sA M1 34 f)) 0 n (fun i f => ∀ u, u < i → f u = L.1 u) _ (ha_gA M1 34) (by rw [st_self]; rfl) (fun u h => by omega) (by omega) (by omega) ?_ ?_
    · rintro g i f hi hv ih
      show Ok (f_X12_step_L7 0 (nI tick) g (nI i) (ha_sA M1 34 f)) _
      unfold f_X12_step_L7
      have hIY : IM (ha_sA M1 34 f) := IM_c (M := M) q1 hIM
      rw [st_IA, i1 4 (by omega), h4]
      refine ok_ie (nI_ge hi (by omega)) (ok_b (mA33 hIY) (ok_b (mA32 hIY) (ok_gd (by rw [mL33]; exact n_in (by omega) (by omega)) (ok_gd (by rw [mL34]; exact n_in (by omega) (by omega)) ?_))))
      simp only [pw_nm, nI_1, st_sAA, nI_clamp (show i < 2 ^ 31 by omega)]
      refine ih _ (fun u hu => ?_)
      rw [st_AA, if_pos rfl, st_AA, if_neg (by omega), a1]
      by_cases e : u = i
      · rw [e, pk_us, r1 i hi]
      · rw [pk_un e]; exact hv u (by omega)
    · rintro g f hv
      show Ok (f_X12_step_L7 0 (nI tick) g (nI n) (ha_sA M1 34 f)) _
      unfold f_X12_step_L7
      rw [st_IA, i1 4 (by omega), h4]
      exact ok_it (nI_le (Nat.le_refl _) (by omega)) (ok_some ⟨f, rfl, hv⟩)
  rintro M2 ⟨f34, rfl, hf34⟩
  unfold f_X12_step_J33
  refine ok_bind (P := fun Y => ∃ f, Y = ha_sA (ha_sA M1 34 f34) 48 f ∧ ∀ j, j < 4 * n → f j = L.2.2.1 j) ?_ ?_
  · refine ok_fors (fun i (f : Nat → Int32) => (nI i, ha_sA (ha_sA M1 34 f34) 48 f)) 0 (4 * n) (fun i f => ∀ u, u < i → f u = L.2.2.1 u) _ (ha_gA (ha_sA M1 34 f34) 48) (by rw [st_self]; rfl) (fun u h => by omega) (by omega) (by omega) ?_ ?_
    · rintro g i f hi hv ih
      show Ok (f_X12_step_L35 0 (nI tick) g (nI i) (ha_sA (ha_sA M1 34 f34) 48 f)) _
      unfold f_X12_step_L35
      have hIY : IM (ha_sA (ha_sA M1 34 f34) 48 f) := IM_c (M := M) q1 hIM
      rw [st_IA, st_IA, i1 4 (by omega), h4, e4n]
      refine ok_ie (nI_ge hi (by omega)) (ok_b (mA47 hIY) (ok_b (mA34 hIY) (ok_gd (by rw [mL35]; exact n_in (by omega) (by omega)) (ok_gd (by rw [mL48]; exact n_in (by omega) (by omega)) ?_))))
      simp only [pw_nm, nI_1, st_sAA, nI_clamp (show i < 2 ^ 31 by omega)]
      refine ih _ (fun u hu => ?_)
      rw [st_AA, if_pos rfl, st_AA, if_neg (by omega), st_AA, if_neg (by omega), a1]
      by_cases e : u = i
      · rw [e, pk_us, r3 i hi]
      · rw [pk_un e]; exact hv u (by omega)
    · rintro g f hv
      show Ok (f_X12_step_L35 0 (nI tick) g (nI (4 * n)) (ha_sA (ha_sA M1 34 f34) 48 f)) _
      unfold f_X12_step_L35
      rw [st_IA, st_IA, i1 4 (by omega), h4, e4n]
      exact ok_it (nI_le (Nat.le_refl _) (by omega)) (ok_some ⟨f, rfl, hv⟩)
  rintro M3 ⟨f48, rfl, hf48⟩
  unfold f_X12_step_J63
  generalize hM3 : ha_sA (ha_sA M1 34 f34) 48 f48 = M3
  have F3 : FS M M3 := ⟨by rw [← hM3]; exact q1, fun k _ _ _ h _ _ => by rw [← hM3]; exact i1 k h, fun a h1 h2 => by rw [← hM3, st_AA, if_neg h2, st_AA, if_neg (by omega), a1]⟩
  have A3 : ∀ a, a ≠ 34 → a ≠ 48 → ha_gA M3 a = ha_gA M a := fun a h1 h2 => by rw [← hM3, st_AA, if_neg h2, st_AA, if_neg h1, a1]
  have I3 : ∀ k, k ≠ 40 → ha_gI M3 0 k = ha_gI M 0 k := fun k h => by rw [← hM3]; exact i1 k h
  have Z3 : ha_gI M3 0 40 = 0 := by rw [← hM3]; exact z1
  have G34 : ∀ u, u < n → ha_gA M3 34 u = L.1 u := fun u hu => by rw [← hM3, st_AA, if_neg (by omega), st_AA, if_pos rfl]; exact hf34 u hu
  have G48 : ∀ j, j < 4 * n → ha_gA M3 48 j = L.2.2.1 j := fun j hj => by rw [← hM3, st_AA, if_pos rfl]; exact hf48 j hj
  have hsc0 : ∀ t, L.2.2.2.1 ≤ scu L (stp M0 m n fg L) t ∧ scu L (stp M0 m n fg L) t ≤ m := fun t => by
    unfold scu
    by_cases e : 0 < t
    · rw [if_pos e]; exact ⟨(hTI 0).2.2.1, hI'.2.2.1⟩
    · rw [if_neg e]; exact ⟨Nat.le_refl _, hI.2.2.1⟩
  have htsc := fun t => tws_sc (M := M0) (m := m) (n := n) (fg := fg) (L := L) (t := t)
  generalize hL' : stp M0 m n fg L = L' at *
  have hLs : ∀ t, L'.1 t = (tws M0 m n fg L t).1 102 := fun t => by rw [← hL']; rfl
  have hLt : ∀ t, L'.2.1 t = ntm (L.2.1 t) (decide (L'.1 t = L.1 t)) := fun t => by rw [← hL']; rfl
  have hLc : ∀ t c, c < 4 → L'.2.2.1 (4 * t + c) = (tws M0 m n fg L t).1 (106 + c) := fun t c h => by rw [← hL']; exact stp_c h
  have hLr : L'.2.2.2.2 = (tws M0 m n fg L (n - 1)).2.2 := by rw [← hL']; rfl
  -- the rules
  refine ok_bind (P := fun Y => AR M Y n L L' ∧ (∀ u, u < n → ha_gA Y 36 u = L.2.1 u) ∧ ((ha_gI Y 0 40 = 1 ∧ (L'.2.2.2.1 ≠ L.2.2.2.1 ∨ L'.2.2.2.2.1 ≠ L.2.2.2.2.1)) ∨ (ha_gI Y 0 40 = 0 ∧ ¬ (L'.2.2.2.1 ≠ L.2.2.2.1 ∨ L'.2.2.2.2.1 ≠ L.2.2.2.2.1)))) ?_ ?_
  · refine ok_for (fun i (Y : ha_St) => (nI i, Y)) 0 n (fun t Y => FS M Y ∧ (∀ u, u < n → ha_gA Y 34 u = L.1 u) ∧ (∀ j, j < 4 * n → ha_gA Y 48 j = L.2.2.1 j) ∧ (∀ u, u < n → ha_gA Y 33 u = if u < t then L'.1 u else L.1 u) ∧ (∀ u, u < n → ha_gA Y 36 u = L.2.1 u) ∧ (∀ j, j < 4 * n → ha_gA Y 35 j = if j < 4 * t then L'.2.2.1 j else L.2.2.1 j) ∧ ha_gI Y 0 38 = nI (scu L L' t) ∧ ha_gI Y 0 39 = ha_gI M 0 39 ∧ ∃ r : Nat × Int32 × (Nat → Int32), (r = if t = n then L'.2.2.2.2 else L.2.2.2.2) ∧ ha_gI Y 0 37 = nI r.1 ∧ (∀ k, k < r.1 → ha_gA Y 37 k = r.2.2 k) ∧ HC Y L.2.2.2.1 L.2.2.2.2.1 (fun _ => 0, scu L L' t, r)) _ M3 ?_ (by omega) (by omega) ?_ ?_
    · refine ⟨F3, G34, G48, fun u hu => ?_, fun u hu => ?_, fun j hj => ?_, ?_, I3 39 (by omega), L.2.2.2.2, by rw [if_neg (by omega)], ?_, fun k hk => ?_, Or.inr ⟨Z3, ?_, rfl⟩⟩
      · rw [A3 33 (by omega) (by omega), if_neg (by omega)]; exact r1 u hu
      · rw [A3 36 (by omega) (by omega)]; exact r2 u hu
      · rw [A3 35 (by omega) (by omega), if_neg (by omega)]; exact r3 j hj
      · rw [I3 38 (by omega)]; exact r4
      · rw [I3 37 (by omega)]; exact r5
      · rw [A3 37 (by omega) (by omega)]; exact r6 k hk
      · rfl
    · rintro f t Y ht ⟨y1, y2, y3, y4, y5, y6, y7, y8, r, w1, w2, w3, w4⟩ ih
      rw [if_neg (by omega)] at w1
      subst w1
      have hCY := CM_f y1 hC0
      show Ok (f_X12_step_L65 0 (nI tick) f (nI t) Y) _
      have go : Ok (f_X12_step_L65_J99 0 (nI tick) f (nI t) 0 (nI t) (nI tick) (nI (kin n t)) Y) (fun Y => AR M Y n L L' ∧ (∀ u, u < n → ha_gA Y 36 u = L.2.1 u) ∧ ((ha_gI Y 0 40 = 1 ∧ (L'.2.2.2.1 ≠ L.2.2.2.1 ∨ L'.2.2.2.2.1 ≠ L.2.2.2.2.1)) ∨ (ha_gI Y 0 40 = 0 ∧ ¬ (L'.2.2.2.1 ≠ L.2.2.2.1 ∨ L'.2.2.2.2.1 ≠ L.2.2.2.2.1)))) := by
        unfold f_X12_step_L65_J99
        refine ok_bind (rule_m (fg := fg) (L := L) (sc := scu L L' t) (se := L.2.2.2.1) (wr0 := L.2.2.2.2.1) hCY htk ht (fun g hg => (hfg g hg).trans (MF_f y1).symm) hI y2 (by rw [y4 t ht, if_neg (by omega)]) (y5 t ht) (fun c hc => by rw [y6 _ (by omega), if_neg (by omega)]) y7 (hsc0 t).2 (fun e => by unfold scu; rw [if_neg (by omega)]) w2 w3 (hsc0 t).1 (Nat.le_refl _) w4) ?_
        rw [htsc t]
        rintro Y2 ⟨g1, g2, g3⟩
        simp only [pw_nm, nI_1]
        obtain ⟨t1, t2, t3, t4, t5, t6, t7, t8, -⟩ := g1
        dsimp only at t1 t2 t3 t4 t5 t6 t7 t8
        refine ih Y2 ⟨FS_t y1 ⟨g2.1, fun k a b c d e f => g2.2.1 k a b d e f, fun a h1 h2 => g2.2.2.1 a (by omega) (by omega) (by omega)⟩, fun u hu => ?_, fun j hj => ?_, fun u hu => ?_, fun u hu => ?_, fun j hj => ?_, ?_, ?_, (tws M0 m n fg L t).2.2, ?_, t7, t8, ?_⟩
        · rw [g2.2.2.1 34 (by omega) (by omega) (by omega)]; exact y2 u hu
        · rw [g2.2.2.1 48 (by omega) (by omega) (by omega)]; exact y3 j hj
        · by_cases e : u = t
          · rw [e, t1, if_pos (by omega), hLs]
          · rw [g2.2.2.2.1 u e, y4 u hu]
            by_cases e2 : u < t
            · rw [if_pos e2, if_pos (by omega)]
            · rw [if_neg e2, if_neg (by omega)]
        · rw [g2.2.2.1 36 (by omega) (by omega) (by omega)]; exact y5 u hu
        · by_cases e : 4 * t ≤ j ∧ j < 4 * t + 4
          · have h1 := t2 (j - 4 * t) (by omega)
            have h2 := hLc t (j - 4 * t) (by omega)
            rw [show 4 * t + (j - 4 * t) = j by omega] at h1 h2
            rw [h1, if_pos (by omega), h2]
          · rw [g2.2.2.2.2 j e, y6 j hj]
            by_cases e2 : j < 4 * t
            · rw [if_pos e2, if_pos (by omega)]
            · rw [if_neg e2, if_neg (by omega)]
        · rw [t6]
          unfold scu
          rw [if_pos (by omega)]
        · rw [g2.2.1 39 (by omega) (by omega) (by omega) (by omega) (by omega)]; exact y8
        · by_cases e : t + 1 = n
          · rw [if_pos e, hLr, show n - 1 = t by omega]
          · rw [if_neg e]
            exact (tws_mid hm hp hI).2 e
        · have : scu L L' (t + 1) = L'.2.2.2.1 := by unfold scu; rw [if_pos (by omega)]
          rw [this]
          exact g3
      unfold f_X12_step_L65
      rw [hCY.2.2.2.1, n_sub1 (by omega)]
      refine ok_ie (nI_ge ht (by omega)) ?_
      by_cases c : t = 0
      · have hk : kin n t = 0 := by unfold kin; rw [if_pos c]
        rw [hk] at go
        exact ok_ie (fun h => h (by rw [c]; rfl)) go
      · refine ok_it (nI_ne0 (by omega) (by omega)) ?_
        by_cases d : t + 1 = n
        · have hk : kin n t = 1 := by unfold kin; rw [if_neg c, if_pos d]
          rw [hk] at go
          exact ok_ie (fun h => h (by rw [show n - 1 = t by omega])) go
        · have hk : kin n t = 2 := by unfold kin; rw [if_neg c, if_neg d]
          rw [hk] at go
          exact ok_it (fun h => by rw [nI_eq (by omega) (by omega)] at h; omega) go
    · rintro f Y ⟨y1, y2, y3, y4, y5, y6, y7, y8, r, w1, w2, w3, w4⟩
      rw [if_pos rfl] at w1
      subst w1
      show Ok (f_X12_step_L65 0 (nI tick) f (nI n) Y) _
      unfold f_X12_step_L65
      have hsn : scu L L' n = L'.2.2.2.1 := by unfold scu; rw [if_pos (by omega)]
      rw [hsn] at y7 w4
      rw [(CM_f y1 hC0).2.2.2.1]
      refine ok_it (nI_le (Nat.le_refl _) (by omega)) (ok_some ⟨⟨y1, y2, y3, fun u hu => ?_, fun j hj => ?_, y7, w2, w3, y8⟩, y5, ?_⟩)
      · rw [y4 u hu, if_pos hu]
      · rw [y6 j hj, if_pos hj]
      · rcases w4 with ⟨v1, v2⟩ | ⟨v1, v2, v3⟩
        · exact Or.inl ⟨v1, v2⟩
        · exact Or.inr ⟨v1, fun h => h.elim (fun h => h v2) (fun h => h v3)⟩
  · rintro Y0 ⟨b1, b2, b3⟩
    unfold f_X12_step_J108
    -- the times
    refine ok_bind (P := fun Y => AR M Y n L L' ∧ (∀ u, u < n → ha_gA Y 36 u = L'.2.1 u) ∧ ((ha_gI Y 0 40 = 1 ∧ ((L'.2.2.2.1 ≠ L.2.2.2.1 ∨ L'.2.2.2.2.1 ≠ L.2.2.2.2.1) ∨ ∃ u, u < n ∧ ¬ L'.1 u = L.1 u)) ∨ (ha_gI Y 0 40 = 0 ∧ ¬ ((L'.2.2.2.1 ≠ L.2.2.2.1 ∨ L'.2.2.2.2.1 ≠ L.2.2.2.2.1) ∨ ∃ u, u < n ∧ ¬ L'.1 u = L.1 u)))) ?_ ?_
    · refine ok_for (fun i (Y : ha_St) => (nI i, Y)) 0 n (fun i Y => AR M Y n L L' ∧ (∀ u, u < n → ha_gA Y 36 u = if u < i then L'.2.1 u else L.2.1 u) ∧ ((ha_gI Y 0 40 = 1 ∧ ((L'.2.2.2.1 ≠ L.2.2.2.1 ∨ L'.2.2.2.2.1 ≠ L.2.2.2.2.1) ∨ ∃ u, u < i ∧ ¬ L'.1 u = L.1 u)) ∨ (ha_gI Y 0 40 = 0 ∧ ¬ ((L'.2.2.2.1 ≠ L.2.2.2.1 ∨ L'.2.2.2.2.1 ≠ L.2.2.2.2.1) ∨ ∃ u, u < i ∧ ¬ L'.1 u = L.1 u)))) _ Y0 ⟨b1, fun u hu => ?_, ?_⟩ (by omega) (by omega) ?_ ?_
      · rw [if_neg (by omega)]; exact b2 u hu
      · rcases b3 with ⟨v1, v2⟩ | ⟨v1, v2⟩
        · exact Or.inl ⟨v1, Or.inl v2⟩
        · exact Or.inr ⟨v1, fun h => h.elim v2 (fun ⟨u, hu, _⟩ => by omega)⟩
      · rintro f i Y hi ⟨y1, y2, y3⟩ ih
        show Ok (f_X12_step_L110 0 (nI tick) f (nI i) Y) _
        have hCY := CM_f y1.1 hC0
        have go : ∀ Z : ha_St, AR M Z n L L' → ha_gA Z 36 = ha_gA Y 36 → ((ha_gI Z 0 40 = 1 ∧ ((L'.2.2.2.1 ≠ L.2.2.2.1 ∨ L'.2.2.2.2.1 ≠ L.2.2.2.2.1) ∨ ∃ u, u < i + 1 ∧ ¬ L'.1 u = L.1 u)) ∨ (ha_gI Z 0 40 = 0 ∧ ¬ ((L'.2.2.2.1 ≠ L.2.2.2.1 ∨ L'.2.2.2.2.1 ≠ L.2.2.2.2.1) ∨ ∃ u, u < i + 1 ∧ ¬ L'.1 u = L.1 u))) → Ok (f_X12_step_L110_J138 0 (nI tick) f (nI i) Z) (fun Y => AR M Y n L L' ∧ (∀ u, u < n → ha_gA Y 36 u = L'.2.1 u) ∧ ((ha_gI Y 0 40 = 1 ∧ ((L'.2.2.2.1 ≠ L.2.2.2.1 ∨ L'.2.2.2.2.1 ≠ L.2.2.2.2.1) ∨ ∃ u, u < n ∧ ¬ L'.1 u = L.1 u)) ∨ (ha_gI Y 0 40 = 0 ∧ ¬ ((L'.2.2.2.1 ≠ L.2.2.2.1 ∨ L'.2.2.2.2.1 ≠ L.2.2.2.2.1) ∨ ∃ u, u < n ∧ ¬ L'.1 u = L.1 u)))) := by
          intro Z z1 z2 z3
          have hIZ := (CM_f z1.1 hC0).1
          have put : ∀ x : Int32, x = L'.2.1 i → Ok (f_X12_step_L110_J186 0 (nI tick) f (nI i) 36 (nI i) x Z) (fun Y => AR M Y n L L' ∧ (∀ u, u < n → ha_gA Y 36 u = L'.2.1 u) ∧ ((ha_gI Y 0 40 = 1 ∧ ((L'.2.2.2.1 ≠ L.2.2.2.1 ∨ L'.2.2.2.2.1 ≠ L.2.2.2.2.1) ∨ ∃ u, u < n ∧ ¬ L'.1 u = L.1 u)) ∨ (ha_gI Y 0 40 = 0 ∧ ¬ ((L'.2.2.2.1 ≠ L.2.2.2.1 ∨ L'.2.2.2.2.1 ≠ L.2.2.2.2.1) ∨ ∃ u, u < n ∧ ¬ L'.1 u = L.1 u)))) := by
            intro x hx
            unfold f_X12_step_L110_J186
            simp only [pw_nm, nI_1]
            refine ok_gd (by rw [mL36]; exact n_in (by omega) (by omega)) ?_
            rw [nI_clamp (by omega)]
            refine ih _ ⟨AR_c (Y := Z) rfl (fun _ _ => rfl) (fun a h => by rw [st_AA, if_neg h]) z1, fun u hu => ?_, z3⟩
            rw [st_AA, if_pos rfl]
            by_cases e : u = i
            · rw [e, pk_us, if_pos (by omega)]; exact hx
            · rw [pk_un e, z2, y2 u hu]
              by_cases e2 : u < i
              · rw [if_pos e2, if_pos (by omega)]
              · rw [if_neg e2, if_neg (by omega)]
          unfold f_X12_step_L110_J138
          refine ok_b (mA35 hIZ) (ok_b (mA32 hIZ) (ok_gd (by rw [mL33]; exact n_in (by omega) (by omega)) (ok_b (mA33 hIZ) (ok_gd (by rw [mL34]; exact n_in (by omega) (by omega)) ?_))))
          rw [nI_clamp (by omega), z1.2.2.2.1 i hi, z1.2.1 i hi]
          by_cases c : L'.1 i = L.1 i
          · refine ok_it c (ok_b (mA35 hIZ) (ok_gd (by rw [mL36]; exact n_in2 (by omega) (by omega)) ?_))
            rw [z2, y2 i hi, if_neg (show ¬ i < i by omega)]
            have hb := hI.2.1 i
            have z99 : (99 : Int32).toInt = 99 := rfl
            have hl : L'.2.1 i = if 99 ≤ (L.2.1 i).toInt then 99 else L.2.1 i + 1 := by
              rw [hLt, show decide (L'.1 i = L.1 i) = true by simp [c]]
              unfold ntm
              rw [if_pos (show true = true from rfl)]
            by_cases d : 99 ≤ (L.2.1 i).toInt
            · refine ok_it (by rw [i_le, z99]; exact d) (put _ ?_)
              rw [hl, if_pos d]
            · refine ok_ie (by rw [i_le, z99]; exact d) (ok_b (mA35 hIZ) (ok_gd (by rw [mL36]; exact n_in2 (by omega) (by omega)) (put _ ?_)))
              rw [z2, y2 i hi, if_neg (show ¬ i < i by omega), hl, if_neg d]
          · refine ok_ie c (put _ ?_)
            rw [hLt]
            unfold ntm
            rw [if_neg (by simp [c])]
        unfold f_X12_step_L110
        rw [hCY.2.2.2.1]
        refine ok_ie (nI_ge hi (by omega)) (ok_b (mA32 hCY.1) (ok_gd (by rw [mL33]; exact n_in (by omega) (by omega)) (ok_b (mA33 hCY.1) (ok_gd (by rw [mL34]; exact n_in (by omega) (by omega)) ?_))))
        rw [nI_clamp (by omega), y1.2.2.2.1 i hi, y1.2.1 i hi]
        by_cases c : L'.1 i = L.1 i
        · refine ok_it c (go Y y1 rfl ?_)
          rcases y3 with ⟨v1, v2⟩ | ⟨v1, v2⟩
          · exact Or.inl ⟨v1, v2.elim Or.inl (fun ⟨u, hu, h⟩ => Or.inr ⟨u, by omega, h⟩)⟩
          · refine Or.inr ⟨v1, fun h => v2 (h.elim Or.inl (fun ⟨u, hu, h⟩ => Or.inr ⟨u, ?_, h⟩))⟩
            by_cases e : u = i
            · rw [e] at h; exact absurd c h
            · omega
        · refine ok_ie c (ok_gd (Or.inr rfl) ?_)
          rw [pw_nm]
          exact go _ (AR_c (Y := Y) rfl (fun k h => by rw [st_II, if_neg (by omega)]) (fun _ _ => rfl) y1) rfl (Or.inl ⟨rfl, Or.inr ⟨i, by omega, c⟩⟩)
      · rintro f Y ⟨y1, y2, y3⟩
        show Ok (f_X12_step_L110 0 (nI tick) f (nI n) Y) _
        unfold f_X12_step_L110
        rw [(CM_f y1.1 hC0).2.2.2.1]
        exact ok_it (nI_le (Nat.le_refl _) (by omega)) (ok_some ⟨y1, fun u hu => by rw [y2 u hu, if_pos hu], y3⟩)
    · rintro Y1 ⟨c1, c2, c3⟩
      unfold f_X12_step_J193
      refine ok_bind (P := fun Y => AR M Y n L L' ∧ (∀ u, u < n → ha_gA Y 36 u = L'.2.1 u) ∧ ((ha_gI Y 0 40 = 1 ∧ chg n L L') ∨ (ha_gI Y 0 40 = 0 ∧ ¬ chg n L L'))) ?_ ?_
      · rw [chg_e]
        refine ok_for (fun i (Y : ha_St) => (nI i, Y)) 0 (4 * n) (fun i Y => AR M Y n L L' ∧ (∀ u, u < n → ha_gA Y 36 u = L'.2.1 u) ∧ ((ha_gI Y 0 40 = 1 ∧ ((((L'.2.2.2.1 ≠ L.2.2.2.1 ∨ L'.2.2.2.2.1 ≠ L.2.2.2.2.1) ∨ ∃ u, u < n ∧ ¬ L'.1 u = L.1 u)) ∨ ∃ j, j < i ∧ ¬ L'.2.2.1 j = L.2.2.1 j)) ∨ (ha_gI Y 0 40 = 0 ∧ ¬ ((((L'.2.2.2.1 ≠ L.2.2.2.1 ∨ L'.2.2.2.2.1 ≠ L.2.2.2.2.1) ∨ ∃ u, u < n ∧ ¬ L'.1 u = L.1 u)) ∨ ∃ j, j < i ∧ ¬ L'.2.2.1 j = L.2.2.1 j)))) _ Y1 ⟨c1, c2, ?_⟩ (by omega) (by omega) ?_ ?_
        · rcases c3 with ⟨v1, v2⟩ | ⟨v1, v2⟩
          · exact Or.inl ⟨v1, Or.inl v2⟩
          · exact Or.inr ⟨v1, fun h => h.elim v2 (fun ⟨u, hu, _⟩ => by omega)⟩
        · rintro f i Y hi ⟨y1, y2, y3⟩ ih
          show Ok (f_X12_step_L195 0 (nI tick) f (nI i) Y) _
          have hCY := CM_f y1.1 hC0
          unfold f_X12_step_L195 f_X12_step_L195_J225
          simp only [pw_nm, nI_1]
          rw [hCY.2.2.2.1, e4n]
          refine ok_ie (nI_ge hi (by omega)) (ok_b (mA34 hCY.1) (ok_gd (by rw [mL35]; exact n_in (by omega) (by omega)) (ok_b (mA47 hCY.1) (ok_gd (by rw [mL48]; exact n_in (by omega) (by omega)) ?_))))
          rw [nI_clamp (by omega), y1.2.2.2.2.1 i hi, y1.2.2.1 i hi]
          by_cases c : L'.2.2.1 i = L.2.2.1 i
          · refine ok_it c (ih Y ⟨y1, y2, ?_⟩)
            rcases y3 with ⟨v1, v2⟩ | ⟨v1, v2⟩
            · exact Or.inl ⟨v1, v2.elim Or.inl (fun ⟨u, hu, h⟩ => Or.inr ⟨u, by omega, h⟩)⟩
            · refine Or.inr ⟨v1, fun h => v2 (h.elim Or.inl (fun ⟨u, hu, h⟩ => Or.inr ⟨u, ?_, h⟩))⟩
              by_cases e : u = i
              · rw [e] at h; exact absurd c h
              · omega
          · refine ok_ie c (ok_gd (Or.inr trivial) (ih _ ⟨AR_c (Y := Y) rfl (fun k h => by rw [st_II, if_neg (by omega)]) (fun _ _ => rfl) y1, y2, Or.inl ⟨rfl, Or.inr ⟨i, by omega, c⟩⟩⟩))
        · rintro f Y ⟨y1, y2, y3⟩
          show Ok (f_X12_step_L195 0 (nI tick) f (nI (4 * n)) Y) _
          unfold f_X12_step_L195
          rw [(CM_f y1.1 hC0).2.2.2.1, e4n]
          exact ok_it (nI_le (Nat.le_refl _) (by omega)) (ok_some ⟨y1, y2, y3⟩)
      · rintro Y ⟨y1, y2, y3⟩
        unfold f_X12_step_J231 f_X12_step_J243
        obtain ⟨u1, u2, u3, u4, u5, u6, u7, u8, u9⟩ := y1
        rcases y3 with ⟨v1, v2⟩ | ⟨v1, v2⟩
        · refine ok_ie (by rw [v1]; decide) ?_
          rw [pw_nm]
          refine ok_some ⟨⟨u4, y2, u5, u6, u7, u8⟩, FS_t u1 ⟨rfl, fun k _ _ h _ _ _ => by rw [st_II, if_neg (by omega)], fun _ _ _ => rfl⟩, Or.inl ⟨v2, rfl⟩⟩
        · exact ok_it v1 (ok_some ⟨⟨u4, y2, u5, u6, u7, u8⟩, u1, Or.inr ⟨v2, u9⟩⟩)
