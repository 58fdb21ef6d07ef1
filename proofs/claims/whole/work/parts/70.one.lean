/-! THE CLASS: single fogs -/
def tk (n a : Nat) : Nat := 1 + a / (n - 1)
def gp (n a : Nat) : Nat := a % (n - 1)
def ad (f : Nat → Nat → Bool) (n a : Nat) : Nat → Nat → Bool := fun t g => f t g || decide (t = tk n a ∧ g = gp n a)
theorem ad_ne {f : Nat → Nat → Bool} {n a t : Nat} (h : t ≠ tk n a) : ad f n a t = f t := by
  funext g
  unfold ad
  simp [h]
theorem tk_le {n a W : Nat} (h3 : 3 ≤ n) (h : a < W * (n - 1)) : tk n a ≤ W := by
  unfold tk
  have : a / (n - 1) < W := (Nat.div_lt_iff_lt_mul (by omega)).mpr h
  omega
theorem tk_1 (n a : Nat) : 1 ≤ tk n a := Nat.le_add_right 1 _
theorem gp_lt {n a : Nat} (h3 : 3 ≤ n) : gp n a < n - 1 := Nat.mod_lt _ (by omega)
theorem tk_mono {n a b : Nat} (h : a ≤ b) : tk n a ≤ tk n b := by
  unfold tk
  have := Nat.div_le_div_right (c := n - 1) h
  omega
/-- a fog more, in bits -/
theorem fog1 {x : Int32} {f : Nat → Nat → Bool} {n a t : Nat} (h3 : 3 ≤ n) (hn : n ≤ 16) (ht : t = tk n a) (h : ∀ g, g < 15 → (bq x g = false ↔ f t g = false)) : ∀ g, g < 15 → (bq (x ||| ((1 : Int32) <<< (nI (gp n a) &&& 31))) g = false ↔ ad f n a t g = false) := by
  intro g hg
  have hgp := gp_lt (a := a) h3
  rw [bq_or, bq_one _ (by omega) _ (by omega)]
  unfold ad
  rw [Bool.or_eq_false_iff, Bool.or_eq_false_iff, h g hg]
  simp [ht]
theorem tell_x {X : ha_St} {k i : Nat} (hIR : IR X) (hk : k < 2) (hi : i < 70) : f_X0_tell 5 (nI k) (nI i) X = some (ha_sA (ha_sA X 188 (upd (ha_gA X 188) k (ha_gA X 183 i))) 189 (upd (ha_gA X 189) k (ha_gA X 184 i))) := by
  have h1 : xo_ln 183 = 70 ∧ xo_ln 184 = 70 ∧ xo_ln 188 = 2 ∧ xo_ln 189 = 2 := by decide +kernel
  unfold f_X0_tell
  rw [xr hIR 5 8 100 188, pw_bs, xr hIR 5 3 100 183, pw_bs, h1.1, h1.2.2.1, pw_gd (n_in hi (by omega)), pw_gd (n_in hk (by omega)), pw_nm, st_fA, st_fA, xr hIR 5 9 100 189, pw_bs, xr hIR 5 4 100 184, pw_bs, h1.2.1, h1.2.2.2, pw_gd (n_in hi (by omega)), pw_gd (n_in hk (by omega)), pw_nm, nI_clamp (by omega), nI_clamp (by omega), st_AA, if_neg (by omega), st_AA, if_neg (by omega)]
/-- what the breaker found: c fogs -/
def FD1 (Y Z : ha_St) (c : Nat) (f g : Nat → Int32) : Prop := Z = ha_sI (ha_sA (ha_sA Y 188 f) 189 g) 5 10 (nI c)
theorem one_x {X0 X M : ha_St} {m n T W : Nat} {f0 : Nat → Nat → Bool} (hB : IB X0) (hf0 : ∀ tick, tick ≤ 500 → f0 tick = fun g => bq (ha_gA X0 134 tick) g) (h3 : 3 ≤ n) (hn : n ≤ 8) (hT : T ≤ 60) (hW : W ≤ 10) (hWT : W ≤ T) (hw : out m (rn M m n f0 T) = 0) (hS : SB X0 X M m n T W) (hc : CAL X M m n T f0) : Ok (f_X0_oneDoes 5 2 X) (fun z => (z.1 = 0 ∧ FG X z.2 17 ∧ WNx z.2 ∧ ∀ a, a < W * (n - 1) → out m (rn M m n (ad f0 n a) T) = 0) ∨ ∃ a Y f g, z.1 = 1 ∧ a < W * (n - 1) ∧ (∀ b, b < a → out m (rn M m n (ad f0 n b) T) = 0) ∧ ¬ out m (rn M m n (ad f0 n a) T) = 0 ∧ FG X Y 17 ∧ WNx Y ∧ FD1 Y z.2 1 f g ∧ f 0 = nI (tk n a) ∧ g 0 = nI (gp n a)) := by
  have hm : m ≤ 60 := hS.1.2.2.1
  have hp := cx_pva hS.1
  have hN : W * (n - 1) ≤ 70 := Nat.le_trans (Nat.mul_le_mul hW (show n - 1 ≤ 7 by omega)) (by omega)
  have hx : xo_ln 183 = 70 ∧ xo_ln 184 = 70 ∧ xo_ln 180 = 61 := by decide +kernel
  unfold f_X0_oneDoes f_X0_oneDoes_J78
  refine ok_bind (P := fun z => (∃ Y, z = .inl Y ∧ FG X Y 17 ∧ WNx Y ∧ ∀ a, a < W * (n - 1) → out m (rn M m n (ad f0 n a) T) = 0) ∨ ∃ a Y Z f g, z = .inr (1, Z) ∧ a < W * (n - 1) ∧ (∀ b, b < a → out m (rn M m n (ad f0 n b) T) = 0) ∧ ¬ out m (rn M m n (ad f0 n a) T) = 0 ∧ FG X Y 17 ∧ WNx Y ∧ FD1 Y Z 1 f g ∧ f 0 = nI (tk n a) ∧ g 0 = nI (gp n a)) ?_ ?_
  · refine ok_for (fun i (Y : ha_St) => (nI i, Y)) 0 (W * (n - 1)) (fun i Y => FG X Y 17 ∧ WNx Y ∧ ∀ a, a < i → out m (rn M m n (ad f0 n a) T) = 0) _ X ⟨FG_r X 17, hS.2.1, fun a h => by omega⟩ (by omega) (by omega) ?_ ?_
    · rintro f i Y hi ⟨y1, y2, y3⟩ ih
      show Ok (f_X0_oneDoes_L2 5 2 f (nI i) Y) _
      have hSY := SB_f isLn17 (by omega) y1 y2 hS
      have hCY := CAL_f hT isLn17 (Or.inl rfl) y1 hc
      have hIY := hSY.1.1
      obtain ⟨e1, e2⟩ := hSY.2.2.2.2.2.2.2.2.1 i hi
      have t1 := tk_1 n i
      have t2 := tk_le h3 hi
      have g2 := gp_lt (a := i) h3
      unfold f_X0_oneDoes_L2
      rw [hSY.2.2.2.2.2.2.2.1]
      refine ok_ie (nI_ge hi (by omega)) (ok_b (xr hIY 5 3 100 183) (ok_gd (by rw [hx.1]; exact n_in (by omega) (by omega)) ?_))
      rw [pw_nm, nI_clamp (by omega), e1]
      change Ok (Option.bind _ _) _
      rw [show 1 + i / (n - 1) = tk n i from rfl]
      refine ok_b (xr hIY 5 2 5 17) (ok_b (xr hIY 5 0 102 180) ?_)
      rw [n_sub1 (by omega), hx.2.2]
      refine ok_gd (n_in (by omega) (by omega)) ?_
      rw [nI_clamp (by omega)]
      refine ok_b (calm_r hSY hB (by omega)) (ok_bind (take_x hIY isLn17 (isLnc (by omega)) (by omega) (by omega) (by rw [rom8 (by omega)]; exact hn) (by rw [rom8 (by omega)]; exact hn) (hCY (tk n i - 1) (by omega))) ?_)
      rintro Z ⟨z1, z2, z3⟩
      have y2z : WNx Z := by unfold WNx at y2 ⊢; rw [z3]; exact y2
      have hSZ := SB_f isLn17 (by omega) z2 y2z hSY
      refine ok_b (xr hSZ.1.1 5 2 5 17) (ok_b (xr hSZ.1.1 5 4 100 184) (ok_gd (by rw [hx.2.1]; exact n_in2 (by omega) (by omega)) ?_))
      rw [(hSZ.2.2.2.2.2.2.2.2.1 i hi).2, show i % (n - 1) = gp n i from rfl]
      have hrn : rn M m n f0 (tk n i - 1) = rn M m n (ad f0 n i) (tk n i - 1) := rn_cg _ (fun t a b => (ad_ne (by omega)).symm)
      rw [hrn] at z1
      refine ok_bind (move_x (fg := ad f0 n i (tk n i)) hSZ.1 isLn17 (by rw [rom8 (by omega)]; exact hn) h3 (by omega) (fog1 h3 (by omega) rfl (fun g hg => ?_)) y2z z1 (li_rn hm hp _)) ?_
      · rw [hSZ.2.2.2.2.1 134 (by omega), hf0 _ (by omega)]
      rintro ⟨zz, Z2⟩ ⟨-, q2, q3, q4⟩
      dsimp only at q2 q3 q4 ⊢
      have hst : stp M m n (ad f0 n i (tk n i)) (rn M m n (ad f0 n i) (tk n i - 1)) = rn M m n (ad f0 n i) (tk n i) := by
        obtain ⟨u, hu⟩ : ∃ u, tk n i = u + 1 := ⟨tk n i - 1, by omega⟩
        rw [hu]; rfl
      rw [hst] at q2
      have F2 := FG_t z2 (FX_g q3)
      have hS2 := SB_f isLn17 (by omega) F2 q4 hSY
      have hC2 := CAL_f hT isLn17 (Or.inl rfl) F2 hCY
      refine ok_bind (brk_x (fg := ad f0 n i) hB hf0 h3 hn hT hw hS2 hC2 (by omega) (fun t h => ad_ne (by omega)) q2) ?_
      rintro ⟨bz, Z3⟩ ⟨w1, w2, w3⟩
      dsimp only at w1 w2 w3 ⊢
      have F3 := FG_t (FG_t y1 F2) w1
      rcases w3 with ⟨w3, w4⟩ | ⟨w3, w4⟩
      · rw [w3]
        have hS3 := SB_f isLn17 (by omega) F3 w2 hS
        refine ok_ie (by decide) (ok_b (show f_X0_tell 5 0 (nI i) Z3 = _ from tell_x (k := 0) hS3.1.1 (by omega) (by omega)) ?_)
        rw [pw_nm]
        refine ok_some (Or.inr ⟨i, Z3, _, _, _, rfl, hi, y3, w4, F3, w2, rfl, ?_, ?_⟩)
        · rw [pk_us, (hS3.2.2.2.2.2.2.2.2.1 i hi).1]; rfl
        · rw [pk_us, (hS3.2.2.2.2.2.2.2.2.1 i hi).2]; rfl
      · rw [w3]
        refine ok_it rfl ?_
        rw [pw_nm, nI_1]
        refine ih Z3 ⟨F3, w2, fun a ha => ?_⟩
        by_cases e : a = i
        · rw [e]; exact w4
        · exact y3 a (by omega)
    · rintro f Y ⟨y1, y2, y3⟩
      show Ok (f_X0_oneDoes_L2 5 2 f (nI (W * (n - 1))) Y) _
      have hSY := SB_f isLn17 (by omega) y1 y2 hS
      unfold f_X0_oneDoes_L2
      rw [hSY.2.2.2.2.2.2.2.1]
      exact ok_it (nI_le (Nat.le_refl _) (by omega)) (ok_some (Or.inl ⟨Y, rfl, y1, y2, y3⟩))
  · rintro z (⟨Y, rfl, y1, y2, y3⟩ | ⟨a, Y, Z, f, g, rfl, q⟩)
    · exact ok_some (Or.inl ⟨rfl, y1, y2, y3⟩)
    · exact ok_some (Or.inr ⟨a, Y, f, g, rfl, q⟩)
/-- the lines with one fog more -/
def ONC (X M : ha_St) (m n W i : Nat) (f0 : Nat → Nat → Bool) : Prop := ∀ t, tk n i ≤ t → t ≤ W → RX X (81 + t) n (rn M m n (ad f0 n i) t)
theorem once_x {X0 X M : ha_St} {m n T W i : Nat} {f0 : Nat → Nat → Bool} (hB : IB X0) (hf0 : ∀ tick, tick ≤ 500 → f0 tick = fun g => bq (ha_gA X0 134 tick) g) (h3 : 3 ≤ n) (hn : n ≤ 8) (hT : T ≤ 60) (hW : W ≤ 10) (hWT : W ≤ T) (hi : i < W * (n - 1)) (hS : SB X0 X M m n T W) (hc : CAL X M m n T f0) : Ok (f_X0_playOnce 5 2 (nI i) X) (fun Y => SB X0 Y M m n T W ∧ CAL Y M m n T f0 ∧ ONC Y M m n W i f0) := by
  have hm : m ≤ 60 := hS.1.2.2.1
  have hp := cx_pva hS.1
  have hN : W * (n - 1) ≤ 70 := Nat.le_trans (Nat.mul_le_mul hW (show n - 1 ≤ 7 by omega)) (by omega)
  have hx : xo_ln 183 = 70 ∧ xo_ln 184 = 70 ∧ xo_ln 180 = 61 ∧ xo_ln 181 = 11 := by decide +kernel
  have t1 := tk_1 n i
  have t2 := tk_le h3 hi
  unfold f_X0_playOnce f_X0_playOnce_J94
  refine ok_b (xr hS.1.1 5 3 100 183) (ok_gd (by rw [hx.1]; exact n_in (by omega) (by omega)) ?_)
  rw [pw_nm, nI_clamp (by omega), (hS.2.2.2.2.2.2.2.2.1 i hi).1, show 1 + i / (n - 1) = tk n i from rfl]
  refine ok_bind (P := fun Y => SB X0 Y M m n T W ∧ CAL Y M m n T f0 ∧ ONC Y M m n W i f0) ?_ (fun Y h => ok_some h)
  refine ok_for (fun t (Y : ha_St) => (nI (tk n i), nI t, Y)) (tk n i) (W + 1) (fun t Y => tk n i ≤ t ∧ SB X0 Y M m n T W ∧ CAL Y M m n T f0 ∧ ∀ u, tk n i ≤ u → u < t → RX Y (81 + u) n (rn M m n (ad f0 n i) u)) _ X ⟨Nat.le_refl _, hS, hc, fun u a b => by omega⟩ (by omega) (by omega) ?_ ?_
  · rintro f t Y ht ⟨y0, y1, y2, y3⟩ ih
    show Ok (f_X0_playOnce_L10 5 2 (nI i) f (nI (tk n i)) (nI t) Y) _
    have hIY := y1.1.1
    have ht10 : t ≤ 10 := by omega
    -- over and on
    have go : ∀ (l' : Nat), isLn l' → l' ≠ 81 + t → l' ≠ 16 → RX Y l' n (rn M m n (ad f0 n i) (t - 1)) → Ok (f_X0_playOnce_L10_J53 5 2 (nI i) f (nI (tk n i)) (nI t) (81 + t) l' Y) (fun Y => SB X0 Y M m n T W ∧ CAL Y M m n T f0 ∧ ONC Y M m n W i f0) := by
      intro l' hl' hne h16 hR
      unfold f_X0_playOnce_L10_J53
      refine ok_bind (take_x hIY (isLno ht10) hl' hne (by omega) (by rw [rom8 (by omega)]; exact hn) (by rw [rom8 h16]; exact hn) hR) ?_
      rintro Z ⟨z1, z2, z3⟩
      have y2z : WNx Z := by have := y1.2.1; unfold WNx at this ⊢; rw [z3]; exact this
      have hSZ := SB_f (isLno ht10) (by omega) z2 y2z y1
      have hst : stp M m n (ad f0 n i t) (rn M m n (ad f0 n i) (t - 1)) = rn M m n (ad f0 n i) t := by
        obtain ⟨u, rfl⟩ : ∃ u, t = u + 1 := ⟨t - 1, by omega⟩
        rfl
      have mv : ∀ more : Int32, (∀ g, g < 15 → (bq (ha_gA Z 134 t ||| more) g = false ↔ ad f0 n i t g = false)) → Ok (f_X0_playOnce_L10_J84 5 2 (nI i) f (nI (tk n i)) (nI t) 2 (81 + t) (nI t) more Z) (fun Y => SB X0 Y M m n T W ∧ CAL Y M m n T f0 ∧ ONC Y M m n W i f0) := by
        intro more hmo
        unfold f_X0_playOnce_L10_J84
        refine ok_bind (move_x (fg := ad f0 n i t) hSZ.1 (isLno ht10) (by rw [rom8 (by omega)]; exact hn) h3 (by omega) hmo y2z z1 (li_rn hm hp _)) ?_
        rintro ⟨zz, Z2⟩ ⟨-, q2, q3, q4⟩
        dsimp only at q2 q3 q4 ⊢
        rw [hst] at q2
        rw [pw_nm, nI_1]
        have F2 := FG_t z2 (FX_g q3)
        refine ih Z2 ⟨by omega, SB_f (isLno ht10) (by omega) F2 q4 y1, CAL_f hT (isLno ht10) (Or.inr (by omega)) F2 y2, fun u a b => ?_⟩
        by_cases e : u = t
        · rw [e]; exact q2
        · exact RX_o (isLno ht10) (isLno (by omega)) (by omega) F2 (y3 u a (by omega))
      refine ok_b (xr hSZ.1.1 5 1 102 181) (ok_gd (by rw [hx.2.2.2]; exact n_in (by omega) (by omega)) ?_)
      rw [nI_clamp (by omega)]
      refine ok_b (once_r hSZ hB ht10) ?_
      by_cases c : t = tk n i
      · refine ok_ie (fun h => h (by rw [c])) (ok_b (xr hSZ.1.1 5 4 100 184) (ok_gd (by rw [hx.2.1]; exact n_in (by omega) (by omega)) ?_))
        rw [nI_clamp (by omega), (hSZ.2.2.2.2.2.2.2.2.1 i hi).2, show i % (n - 1) = gp n i from rfl]
        refine mv _ (fog1 h3 (by omega) c (fun g hg => ?_))
        rw [hSZ.2.2.2.2.1 134 (by omega), hf0 _ (by omega)]
      · refine ok_it (fun h => c ((nI_eq (by omega) (by omega)).mp h)) (mv 0 (fun g hg => ?_))
        rw [or_z, hSZ.2.2.2.2.1 134 (by omega), ad_ne c, hf0 _ (by omega)]
    unfold f_X0_playOnce_L10
    rw [y1.2.2.2.2.2.2.1]
    refine ok_ie (nI_nlt (by omega) (by omega)) (ok_b (xr hIY 5 1 102 181) (ok_gd (by rw [hx.2.2.2]; exact n_in (by omega) (by omega)) ?_))
    rw [nI_clamp (by omega), n_sub1 (by omega)]
    refine ok_b (once_r y1 hB ht10) ?_
    by_cases c : t = tk n i
    · refine ok_ie (fun h => h (by rw [c])) (ok_b (xr hIY 5 0 102 180) (ok_gd (by rw [hx.2.2.1]; exact n_in (by omega) (by omega)) ?_))
      rw [nI_clamp (by omega)]
      refine ok_b (calm_r y1 hB (by omega)) (go _ (isLnc (by omega)) (by omega) (by omega) ?_)
      have hrn : rn M m n f0 (t - 1) = rn M m n (ad f0 n i) (t - 1) := rn_cg _ (fun t a b => (ad_ne (by omega)).symm)
      rw [← hrn]
      exact y2 _ (by omega)
    · refine ok_it (fun h => c ((nI_eq (by omega) (by omega)).mp h)) (ok_b (xr hIY 5 1 102 181) (ok_gd (by rw [hx.2.2.2]; exact n_in (by omega) (by omega)) ?_))
      rw [nI_clamp (by omega)]
      exact ok_b (once_r y1 hB (by omega)) (go _ (isLno (by omega)) (by omega) (by omega) (y3 _ (by omega) (by omega)))
  · rintro f Y ⟨y0, y1, y2, y3⟩
    show Ok (f_X0_playOnce_L10 5 2 (nI i) f (nI (tk n i)) (nI (W + 1)) Y) _
    unfold f_X0_playOnce_L10
    rw [y1.2.2.2.2.2.2.1]
    exact ok_it (nI_lt (by omega) (by omega)) (ok_some ⟨y1, y2, fun t a b => y3 t a (by omega)⟩)
