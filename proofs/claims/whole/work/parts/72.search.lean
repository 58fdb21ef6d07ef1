/-! THE CLASS: the search -/
def LSI (S Y : ha_St) (n c : Nat) : Prop := ha_gR Y = ha_gR S ∧ ha_gB Y = ha_gB S ∧ (∀ o k, ¬ (o = 5 ∧ k = 5) → ha_gI Y o k = ha_gI S o k) ∧ (∀ a, a ≠ 183 → a ≠ 184 → ha_gA Y a = ha_gA S a) ∧ ha_gI Y 5 5 = nI c ∧ ∀ i, i < c → ha_gA Y 183 i = nI (1 + i / (n - 1)) ∧ ha_gA Y 184 i = nI (i % (n - 1))
theorem list_x {S : ha_St} {n W : Nat} (hIR : IR S) (h3 : 3 ≤ n) (hn : n ≤ 8) (hW : W ≤ 10) (h7 : ha_gI S 5 7 = nI W) : Ok (f_X0_listSingles 5 (nI (n - 1)) S) (fun Y => LSI S Y n (W * (n - 1))) := by
  have hx : xo_ln 183 = 70 ∧ xo_ln 184 = 70 := by decide +kernel
  have hN : W * (n - 1) ≤ 70 := Nat.le_trans (Nat.mul_le_mul hW (show n - 1 ≤ 7 by omega)) (by omega)
  unfold f_X0_listSingles f_X0_listSingles_J76
  rw [pw_nm]
  refine ok_bind (P := fun Y => LSI S Y n (W * (n - 1))) ?_ (fun Y h => ok_some h)
  refine ok_for (fun t (Y : ha_St) => (nI t, Y)) 1 (W + 1) (fun t Y => 1 ≤ t ∧ LSI S Y n ((t - 1) * (n - 1))) _ (ha_sI S 5 5 0) ⟨Nat.le_refl _, rfl, rfl, fun o k h => by rw [st_II, if_neg h], fun _ _ _ => rfl, by rw [st_II, if_pos ⟨rfl, rfl⟩, Nat.sub_self, Nat.zero_mul]; rfl, fun i hi => by rw [Nat.sub_self, Nat.zero_mul] at hi; omega⟩ (by omega) (by omega) ?_ ?_
  · rintro f t Y ht ⟨y0, y1⟩ ih
    show Ok (f_X0_listSingles_L7 5 (nI (n - 1)) f (nI t) Y) _
    unfold f_X0_listSingles_L7
    rw [y1.2.2.1 5 7 (by omega), h7]
    have hle : (t - 1) * (n - 1) + (n - 1) ≤ W * (n - 1) := by
      have : (t - 1 + 1) * (n - 1) ≤ W * (n - 1) := Nat.mul_le_mul_right _ (by omega)
      rw [Nat.add_mul, Nat.one_mul] at this
      exact this
    refine ok_ie (nI_nlt (by omega) (by omega)) (ok_bind (P := fun z => ∃ Z, z = (nI t, Z) ∧ LSI S Z n ((t - 1) * (n - 1) + (n - 1))) ?_ ?_)
    · refine ok_for (fun u (Z : ha_St) => (nI t, nI u, Z)) 0 (n - 1) (fun u Z => LSI S Z n ((t - 1) * (n - 1) + u)) _ Y y1 (by omega) (by omega) ?_ ?_
      · rintro g u Z hu ⟨z1, z2, z3, z4, z5, z6⟩ ih2
        show Ok (f_X0_listSingles_L17 5 (nI (n - 1)) g (nI t) (nI u) Z) _
        have hIZ : IR Z := IR_c z1 hIR
        unfold f_X0_listSingles_L17
        refine ok_ie (nI_ge hu (by omega)) (ok_b (xr hIZ 5 3 100 183) ?_)
        generalize hc : (t - 1) * (n - 1) + u = c at *
        rw [z5, hx.1]
        have k5 : ∀ q : Nat → Int32, ha_gI (ha_sA Z 183 q) 5 5 = nI c := fun _ => z5
        have k6 : ∀ q r : Nat → Int32, ha_gI (ha_sA (ha_sA Z 183 q) 184 r) 5 5 = nI c := fun _ _ => z5
        refine ok_ie (nI_ge (by omega) (by omega)) (ok_b (xr hIZ 5 3 100 183) (ok_gd (by rw [hx.1]; exact n_in (by omega) (by omega)) (ok_nm (ok_b (xr (X := ha_sA Z 183 _) (IR_c (X := Z) rfl hIZ) 5 4 100 184) (ok_gd (by rw [k5, hx.2]; exact n_in (by omega) (by omega)) (ok_nm (ok_nm (ok_nm ?_))))))))
        rw [k6, k5, nI_clamp (by omega), nI_1, nI_1, st_AA, if_neg (by omega)]
        refine ih2 _ ?_
        have hc1 : (t - 1) * (n - 1) + (u + 1) = c + 1 := by omega
        rw [hc1]
        refine ⟨z1, z2, fun o k h => ?_, fun a h1 h2 => ?_, ?_, fun i hi => ?_⟩
        · rw [st_II, if_neg h, st_IA, st_IA]; exact z3 o k h
        · rw [st_AI, st_AA, if_neg h2, st_AA, if_neg h1]; exact z4 a h1 h2
        · rw [st_II, if_pos ⟨rfl, rfl⟩]
        · rw [st_AI, st_AA, if_neg (by omega), st_AA, if_pos rfl, st_AI, st_AA, if_pos rfl]
          by_cases e : i = c
          · have hd : c / (n - 1) = t - 1 := by
              rw [← hc, Nat.add_comm, Nat.add_mul_div_right _ _ (by omega), Nat.div_eq_of_lt hu, Nat.zero_add]
            have hm : c % (n - 1) = u := by
              rw [← hc, Nat.add_comm, Nat.add_mul_mod_self_right, Nat.mod_eq_of_lt hu]
            rw [e, pk_us, pk_us, hd, hm, show 1 + (t - 1) = t by omega]
            exact ⟨rfl, rfl⟩
          · rw [pk_un e, pk_un e]; exact z6 i (by omega)
      · rintro g Z hZ
        show Ok (f_X0_listSingles_L17 5 (nI (n - 1)) g (nI t) (nI (n - 1)) Z) _
        unfold f_X0_listSingles_L17
        exact ok_it (nI_le (Nat.le_refl _) (by omega)) (ok_some ⟨Z, rfl, hZ⟩)
    · rintro z ⟨Z, rfl, hZ⟩
      unfold f_X0_listSingles_L7_J70
      rw [pw_nm, nI_1]
      refine ih Z ⟨by omega, ?_⟩
      have : (t + 1 - 1) * (n - 1) = (t - 1) * (n - 1) + (n - 1) := by
        obtain ⟨q, rfl⟩ : ∃ q, t = q + 1 := ⟨t - 1, by omega⟩
        rw [show q + 1 + 1 - 1 = q + 1 by omega, Nat.add_mul, Nat.one_mul, show q + 1 - 1 = q by omega]
      rw [this]
      exact hZ
  · rintro f Y ⟨y0, y1⟩
    show Ok (f_X0_listSingles_L7 5 (nI (n - 1)) f (nI (W + 1)) Y) _
    unfold f_X0_listSingles_L7
    rw [y1.2.2.1 5 7 (by omega), h7]
    rw [show W + 1 - 1 = W by omega] at y1
    exact ok_it (nI_lt (by omega) (by omega)) (ok_some y1)
theorem calm_x {X0 X M : ha_St} {m n T W : Nat} {f0 : Nat → Nat → Bool} (hB : IB X0) (hf0 : ∀ tick, tick ≤ 500 → f0 tick = fun g => bq (ha_gA X0 134 tick) g) (h3 : 3 ≤ n) (hn : n ≤ 8) (hT : T ≤ 60) (h25 : ha_gI X0 2 5 = nI n) (hS : SB X0 X M m n T W) : Ok (f_X0_playCalm 5 2 X) (fun Y => SB X0 Y M m n T W ∧ CAL Y M m n T f0) := by
  have hm : m ≤ 60 := hS.1.2.2.1
  have hp := cx_pva hS.1
  have hx : xo_ln 180 = 61 := by decide +kernel
  unfold f_X0_playCalm f_X0_playCalm_J59
  refine ok_b (xr hS.1.1 5 0 102 180) (ok_gd (by rw [hx]; decide) (ok_b (show ha_rb xo_kd X 180 0 5 = some 20 from calm_r hS hB (by omega)) ?_))
  rw [hS.2.2.2.1 2 5 (by omega) (by omega), h25]
  refine ok_bind (begin_x hS.1.1 (isLnc (t := 0) (by omega)) (by rw [rom8 (by omega)]; exact hn)) ?_
  rintro Y0 ⟨b1, b2, b3, b4⟩
  have W0 : WNx Y0 := by have := hS.2.1; unfold WNx at this ⊢; rw [b4]; exact this
  have hS0 := SB_f (isLnc (t := 0) (by omega)) (by omega) b2 W0 hS
  refine ok_bind (P := fun Y => SB X0 Y M m n T W ∧ CAL Y M m n T f0) ?_ (fun Y h => ok_some h)
  refine ok_for (fun t (Y : ha_St) => (nI t, Y)) 1 (T + 1) (fun t Y => 1 ≤ t ∧ SB X0 Y M m n T W ∧ ∀ u, u < t → RX Y (20 + u) n (rn M m n f0 u)) _ Y0 ⟨Nat.le_refl _, hS0, fun u hu => ?_⟩ (by omega) (by omega) ?_ ?_
  · have : u = 0 := by omega
    subst this
    exact b1
  · rintro f t Y ht ⟨y0, y1, y2⟩ ih
    show Ok (f_X0_playCalm_L15 5 2 f (nI t) Y) _
    have hIY := y1.1.1
    unfold f_X0_playCalm_L15
    rw [y1.2.2.2.2.2.1, n_sub1 y0]
    refine ok_ie (nI_nlt (by omega) (by omega)) (ok_b (xr hIY 5 0 102 180) (ok_gd (by rw [hx]; exact n_in (by omega) (by omega)) ?_))
    rw [nI_clamp (show t < 2 ^ 31 by omega)]
    refine ok_b (calm_r y1 hB (by omega)) (ok_b (xr hIY 5 0 102 180) (ok_gd (by rw [hx]; exact n_in (by omega) (by omega)) ?_))
    rw [nI_clamp (show t - 1 < 2 ^ 31 by omega)]
    refine ok_b (calm_r y1 hB (by omega)) (ok_bind (take_x hIY (isLnc (by omega)) (isLnc (by omega)) (by omega) (by omega) (by rw [rom8 (by omega)]; exact hn) (by rw [rom8 (by omega)]; exact hn) (y2 (t - 1) (by omega))) ?_)
    rintro Z ⟨z1, z2, z3⟩
    have y2z : WNx Z := by have := y1.2.1; unfold WNx at this ⊢; rw [z3]; exact this
    have hSZ := SB_f (isLnc (by omega)) (by omega) z2 y2z y1
    refine ok_b (xr hSZ.1.1 5 0 102 180) (ok_gd (by rw [hx]; exact n_in2 (by omega) (by omega)) (ok_b (calm_r hSZ hB (by omega)) (ok_bind (move_x (fg := f0 t) hSZ.1 (isLnc (by omega)) (by rw [rom8 (by omega)]; exact hn) h3 (by omega) (fun g hg => ?_) y2z z1 (li_rn hm hp _)) ?_)))
    · rw [or_z, hSZ.2.2.2.2.1 134 (by omega), hf0 _ (by omega)]
    rintro ⟨zz, Z2⟩ ⟨-, q2, q3, q4⟩
    dsimp only at q2 q3 q4 ⊢
    have hst : stp M m n (f0 t) (rn M m n f0 (t - 1)) = rn M m n f0 t := by
      obtain ⟨u, rfl⟩ : ∃ u, t = u + 1 := ⟨t - 1, by omega⟩
      rfl
    rw [hst] at q2
    rw [pw_nm, nI_1]
    have F2 := FG_t z2 (FX_g q3)
    refine ih Z2 ⟨by omega, SB_f (isLnc (by omega)) (by omega) F2 q4 y1, fun u hu => ?_⟩
    by_cases e : u = t
    · rw [e]; exact q2
    · exact RX_o (isLnc (by omega)) (isLnc (by omega)) (by omega) F2 (y2 u (by omega))
  · rintro f Y ⟨y0, y1, y2⟩
    show Ok (f_X0_playCalm_L15 5 2 f (nI (T + 1)) Y) _
    unfold f_X0_playCalm_L15
    rw [y1.2.2.2.2.2.1]
    exact ok_it (nI_lt (by omega) (by omega)) (ok_some ⟨y1, fun t ht => y2 t (by omega)⟩)
/-- what the search comes to -/
def SR (m n T S : Nat) (M : ha_St) (f0 : Nat → Nat → Bool) (ans : Int32) (fd : Nat) (a b : Nat) : Prop :=
  (ans = 0 ∧ fd = 0 ∧ ¬ out m (rn M m n f0 T) = 0) ∨
  (ans = 1 ∧ fd = 1 ∧ out m (rn M m n f0 T) = 0 ∧ a < S ∧ (∀ b, b < a → out m (rn M m n (ad f0 n b) T) = 0) ∧ ¬ out m (rn M m n (ad f0 n a) T) = 0) ∨
  (ans = 2 ∧ fd = 2 ∧ out m (rn M m n f0 T) = 0 ∧ (∀ a, a < S → out m (rn M m n (ad f0 n a) T) = 0) ∧ a < b ∧ b < S ∧ (∀ a' b', a' < b' → b' < S → (a' < a ∨ (a' = a ∧ b' < b)) → out m (rn M m n (ad (ad f0 n a') n b') T) = 0) ∧ ¬ out m (rn M m n (ad (ad f0 n a) n b) T) = 0) ∨
  (ans = -1 ∧ fd = 3 ∧ out m (rn M m n f0 T) = 0 ∧ (∀ a, a < S → out m (rn M m n (ad f0 n a) T) = 0) ∧ ∀ a b, a < b → b < S → out m (rn M m n (ad (ad f0 n a) n b) T) = 0)
theorem search_x {X M : ha_St} {m n T V : Nat} (hC : CX X M m) (hB : IB X) (hW : WNx X) (h3 : 3 ≤ n) (hn : n ≤ 8) (hT : T ≤ 60) (hV : V ≤ 10) (h25 : ha_gI X 2 5 = nI n) : Ok (f_X0_search 5 2 (nI T) (nI V) X) (fun z => ∃ fd a b Y, SR m n T ((if T < V then T else V) * (n - 1)) M (fun tick g => bq (ha_gA X 134 tick) g) z.1 fd a b ∧ SB X Y M m n T (if T < V then T else V) ∧ ((fd = 3 ∧ z.2 = Y) ∨ (fd < 3 ∧ ∃ f g, FD1 Y z.2 fd f g ∧ (1 ≤ fd → f 0 = nI (tk n a) ∧ g 0 = nI (gp n a)) ∧ (2 ≤ fd → f 1 = nI (tk n b) ∧ g 1 = nI (gp n b))))) := by
  have hm : m ≤ 60 := hC.2.2.1
  have hp := cx_pva hC
  have hx : xo_ln 180 = 61 := by decide +kernel
  generalize hW' : (if T < V then T else V) = W
  have w1 : W ≤ 10 := by rw [← hW']; by_cases c : T < V <;> simp [c] <;> omega
  have w2 : W ≤ T := by rw [← hW']; by_cases c : T < V <;> simp [c]; omega
  have hf0 : ∀ tick, tick ≤ 500 → (fun (tick g : Nat) => bq (ha_gA X 134 tick) g) tick = fun g => bq (ha_gA X 134 tick) g := fun _ _ => rfl
  generalize hfe : (fun (tick g : Nat) => bq (ha_gA X 134 tick) g) = f0 at *
  unfold f_X0_search f_X0_search_J88
  simp only [pw_nm]
  rw [if_neg (show ¬ (60 : Int32) < nI T from nI_nlt (a := 60) hT (by omega)), if_neg (show ¬ (10 : Int32) < nI V from nI_nlt (a := 10) hV (by omega))]
  have e6 : ha_gI (ha_sI X 5 6 (nI T)) 5 6 = nI T := by rw [st_II, if_pos ⟨rfl, rfl⟩]
  rw [e6]
  have e7 : (if nI T < nI V then nI T else nI V) = nI W := by
    rw [← hW']
    by_cases c : T < V
    · rw [if_pos (nI_lt c (by omega)), if_pos c]
    · rw [if_neg (nI_nlt (by omega) (by omega)), if_neg c]
  rw [e7]
  generalize hX2 : ha_sI (ha_sI X 5 6 (nI T)) 5 7 (nI W) = X2
  have i2 : ∀ o k, ¬ (o = 5 ∧ (k = 6 ∨ k = 7)) → ha_gI X2 o k = ha_gI X o k := fun o k h => by rw [← hX2, st_II, if_neg (by omega), st_II, if_neg (by omega)]
  have j6 : ha_gI X2 5 6 = nI T := by rw [← hX2, st_II, if_neg (by omega), st_II, if_pos ⟨rfl, rfl⟩]
  have j7 : ha_gI X2 5 7 = nI W := by rw [← hX2, st_II, if_pos ⟨rfl, rfl⟩]
  have a2 : ha_gA X2 = ha_gA X := by rw [← hX2]; rfl
  have r2 : ha_gR X2 = ha_gR X := by rw [← hX2]; rfl
  have b2 : ha_gB X2 = ha_gB X := by rw [← hX2]; rfl
  rw [i2 2 5 (by omega), h25, n_sub1 (by omega)]
  refine ok_bind (list_x (IR_c r2 hC.1) h3 hn w1 j7) ?_
  rintro X3 ⟨l1, l2, l3, l4, l5, l6⟩
  have i3 : ∀ o k, o ≠ 5 → ha_gI X3 o k = ha_gI X o k := fun o k h => (l3 o k (by omega)).trans (i2 o k (by omega))
  have a3 : ∀ a, a ≠ 183 → a ≠ 184 → ha_gA X3 a = ha_gA X a := fun a h1 h2 => by rw [l4 a h1 h2, a2]
  have hS3 : SB X X3 M m n T W := ⟨CX_n (l1.trans r2) (l2.trans b2) (fun o k ho => i3 o k (by omega)) (fun a ha => a3 a (by omega) (by omega)) hC, by unfold WNx at hW ⊢; rw [a3 136 (by omega) (by omega)]; exact hW, ⟨l2.trans b2, l1.trans r2⟩, fun o k h1 h2 => i3 o k h1, fun a ha => a3 a (by omega) (by omega), (l3 5 6 (by omega)).trans j6, (l3 5 7 (by omega)).trans j7, l5, l6, (l3 5 10 (by omega)).trans (i2 5 10 (by omega))⟩
  refine ok_bind (calm_x (f0 := f0) hB (fun t ht => by rw [← hfe]) h3 hn hT h25 hS3) ?_
  rintro X4 ⟨s4, c4⟩
  refine ok_b (xr s4.1.1 5 0 102 180) ?_
  rw [s4.2.2.2.2.2.1, hx]
  refine ok_gd (n_in (by omega) (by omega)) ?_
  rw [nI_clamp (by omega)]
  refine ok_b (calm_r s4 hB hT) (ok_b (out_x s4.1 (c4 T (Nat.le_refl _)) (li_rn hm hp T)) ?_)
  dsimp only
  by_cases c : out m (rn M m n f0 T) = 0
  · refine ok_it c (ok_bind (one_x hB (fun t ht => by rw [← hfe]) h3 hn hT w1 w2 c s4 c4) ?_)
    rintro ⟨oz, Z⟩ hz
    rcases hz with ⟨z1, z2, z3, z4⟩ | ⟨a, Y, f, g, z1, z2, z3, z4, z5, z6, z7, z8, z9⟩
    · dsimp only at z1 z2 z3 z4 ⊢
      rw [z1]
      refine ok_it rfl (ok_bind (two_x hB (fun t ht => by rw [← hfe]) h3 hn hT w1 w2 c z4 (SB_f isLn17 (by omega) z2 z3 s4) (CAL_f hT isLn17 (Or.inl rfl) z2 c4)) ?_)
      rintro ⟨tz, Z2⟩ hz2
      rcases hz2 with ⟨q1, q2, q3⟩ | ⟨a, b, Y, f, g, q1, q2, q3, q4, q5, q6, q7, q8, q9, q10, q11⟩
      · dsimp only at q1 q2 q3 ⊢
        rw [q1]
        exact ok_it rfl (ok_some ⟨3, 0, 0, Z2, Or.inr (Or.inr (Or.inr ⟨rfl, rfl, c, z4, q3⟩)), q2, Or.inl ⟨rfl, rfl⟩⟩)
      · dsimp only at q1 q7 ⊢
        rw [q1]
        exact ok_ie (by decide) (ok_some ⟨2, a, b, Y, Or.inr (Or.inr (Or.inl ⟨rfl, rfl, c, z4, q2, q3, q4, q5⟩)), q6, Or.inr ⟨by omega, f, g, q7, fun _ => ⟨q8, q9⟩, fun _ => ⟨q10, q11⟩⟩⟩)
    · dsimp only at z1 z7 ⊢
      rw [z1]
      exact ok_ie (by decide) (ok_some ⟨1, a, 0, Y, Or.inr (Or.inl ⟨rfl, rfl, c, z2, z3, z4⟩), SB_f isLn17 (by omega) z5 z6 s4, Or.inr ⟨by omega, f, g, z7, fun _ => ⟨z8, z9⟩, fun h => by omega⟩⟩)
  · refine ok_ie c (ok_some ⟨0, 0, 0, X4, Or.inl ⟨rfl, rfl, c⟩, s4, Or.inr ⟨by omega, ha_gA X4 188, ha_gA X4 189, ?_, fun h => by omega, fun h => by omega⟩⟩)
    unfold FD1
    rw [st_self, st_self]
    rfl
