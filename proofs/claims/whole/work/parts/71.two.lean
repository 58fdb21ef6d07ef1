/-! THE CLASS: two fogs -/
theorem both_x {X0 X M : ha_St} {m n T W i j : Nat} {f0 : Nat → Nat → Bool} (hB : IB X0) (hf0 : ∀ tick, tick ≤ 500 → f0 tick = fun g => bq (ha_gA X0 134 tick) g) (h3 : 3 ≤ n) (hn : n ≤ 8) (hT : T ≤ 60) (hW : W ≤ 10) (hWT : W ≤ T) (hij : i < j) (hj : j < W * (n - 1)) (hone : ∀ a, a < W * (n - 1) → out m (rn M m n (ad f0 n a) T) = 0) (hS : SB X0 X M m n T W) (hc : CAL X M m n T f0) (ho : ONC X M m n W i f0) : Ok (f_X0_bothMatter 5 2 (nI i) (nI j) X) (fun z => FG X z.2 17 ∧ WNx z.2 ∧ ((z.1 = 1 ∧ RX z.2 17 n (rn M m n (ad (ad f0 n i) n j) (tk n j))) ∨ (z.1 = 0 ∧ out m (rn M m n (ad (ad f0 n i) n j) T) = 0))) := by
  have hm : m ≤ 60 := hS.1.2.2.1
  have hp := cx_pva hS.1
  have hg := cx_gp hS.1
  have hIX := hS.1.1
  have hN : W * (n - 1) ≤ 70 := Nat.le_trans (Nat.mul_le_mul hW (show n - 1 ≤ 7 by omega)) (by omega)
  have hx : xo_ln 183 = 70 ∧ xo_ln 184 = 70 ∧ xo_ln 180 = 61 ∧ xo_ln 181 = 11 := by decide +kernel
  have li := fun (f : Nat → Nat → Bool) t => li_rn (M := M) (m := m) (n := n) (fg := f) hm hp t
  have t1 := tk_1 n j
  have t2 := tk_le h3 hj
  have t3 := tk_1 n i
  have t4 : tk n i ≤ tk n j := tk_mono (by omega)
  have ei := hS.2.2.2.2.2.2.2.2.1 i (by omega)
  have ej := hS.2.2.2.2.2.2.2.2.1 j hj
  -- behind the later one's tick
  have tail : ∀ (more : Int32) (Z : ha_St), FG X Z 17 → WNx Z → (∀ g, g < 15 → (bq (ha_gA Z 134 (tk n j) ||| more) g = false ↔ ad (ad f0 n i) n j (tk n j) g = false)) → RX Z 17 n (rn M m n (ad (ad f0 n i) n j) (tk n j - 1)) → Ok (f_X0_bothMatter_J104 5 2 (nI i) (nI j) (nI (tk n j)) more Z) (fun z => FG X z.2 17 ∧ WNx z.2 ∧ ((z.1 = 1 ∧ RX z.2 17 n (rn M m n (ad (ad f0 n i) n j) (tk n j))) ∨ (z.1 = 0 ∧ out m (rn M m n (ad (ad f0 n i) n j) T) = 0))) := by
    intro more Z z1 z2 z3 z4
    have hSZ := SB_f isLn17 (by omega) z1 z2 hS
    unfold f_X0_bothMatter_J104 f_X0_bothMatter_J140
    refine ok_b (xr hSZ.1.1 5 2 5 17) (ok_bind (move_x (fg := ad (ad f0 n i) n j (tk n j)) hSZ.1 isLn17 (by rw [rom8 (by omega)]; exact hn) h3 (by omega) z3 z2 z4 (li _ _)) ?_)
    rintro ⟨zz, Y⟩ ⟨-, q2, q3, q4⟩
    dsimp only at q2 q3 q4 ⊢
    have hst : stp M m n (ad (ad f0 n i) n j (tk n j)) (rn M m n (ad (ad f0 n i) n j) (tk n j - 1)) = rn M m n (ad (ad f0 n i) n j) (tk n j) := by
      obtain ⟨u, hu⟩ : ∃ u, tk n j = u + 1 := ⟨tk n j - 1, by omega⟩
      rw [hu]; rfl
    rw [hst] at q2
    have F2 := FG_t z1 (FX_g q3)
    have hSY := SB_f isLn17 (by omega) F2 q4 hS
    refine ok_b (xr hSY.1.1 5 2 5 17) (ok_b (xr hSY.1.1 5 1 102 181) (ok_gd (by rw [hx.2.2.2]; exact n_in (by omega) (by omega)) ?_))
    rw [nI_clamp (by omega)]
    refine ok_b (once_r hSY hB (by omega)) (ok_bind (alike_x hSY.1 isLn17 (isLno (by omega)) h3 (by rw [rom8 (by omega)]; exact hn) (by rw [rom8 (by omega)]; exact hn) (li _ _) (li _ _) q2 (RX_o isLn17 (isLno (by omega)) (by omega) F2 (ho (tk n j) t4 t2))) ?_)
    rintro ⟨az, Y2⟩ ⟨e1, e2⟩
    dsimp only at e1 e2 ⊢
    subst e1
    rcases e2 with e2 | ⟨e2, e3⟩
    · rw [e2]
      exact ok_ie (fun h => h rfl) (ok_gd (Or.inr rfl) (ok_some ⟨F2, q4, Or.inl ⟨rfl, q2⟩⟩))
    · rw [e2]
      refine ok_it (by decide) (ok_gd (Or.inl rfl) (ok_some ⟨F2, q4, Or.inr ⟨rfl, ?_⟩⟩))
      have := alk_rn (fg := ad (ad f0 n i) n j) (fg' := ad f0 n i) h3 hg T (by omega) (fun t h1 h2 => ad_ne (by omega)) e3
      rw [out_alk this]
      exact hone i (by omega)
  unfold f_X0_bothMatter
  refine ok_b (xr hIX 5 3 100 183) (ok_gd (by rw [hx.1]; exact n_in (by omega) (by omega)) ?_)
  rw [pw_nm, nI_clamp (show j < 2 ^ 31 by omega), ej.1, show 1 + j / (n - 1) = tk n j from rfl]
  refine ok_b (xr hIX 5 4 100 184) (ok_gd (by rw [hx.2.1]; exact n_in2 (by omega) (by omega)) ?_)
  rw [pw_nm, ej.2, show j % (n - 1) = gp n j from rfl]
  refine ok_b (xr hIX 5 3 100 183) (ok_gd (by rw [hx.1]; exact n_in (by omega) (by omega)) ?_)
  rw [nI_clamp (show i < 2 ^ 31 by omega), ei.1, show 1 + i / (n - 1) = tk n i from rfl, n_sub1 (by omega)]
  by_cases c : tk n j = tk n i
  · refine ok_ie (fun h => h (by rw [c])) (ok_b (xr hIX 5 2 5 17) (ok_b (xr hIX 5 0 102 180) (ok_gd (by rw [hx.2.2.1]; exact n_in (by omega) (by omega)) ?_)))
    rw [nI_clamp (by omega)]
    refine ok_b (calm_r hS hB (by omega)) (ok_bind (take_x hIX isLn17 (isLnc (by omega)) (by omega) (by omega) (by rw [rom8 (by omega)]; exact hn) (by rw [rom8 (by omega)]; exact hn) (hc (tk n j - 1) (by omega))) ?_)
    rintro Z ⟨z1, z2, z3⟩
    have y2z : WNx Z := by have := hS.2.1; unfold WNx at this ⊢; rw [z3]; exact this
    have hSZ := SB_f isLn17 (by omega) z2 y2z hS
    refine ok_b (xr hSZ.1.1 5 4 100 184) (ok_gd (by rw [hx.2.1]; exact n_in2 (by omega) (by omega)) ?_)
    rw [pw_nm, (hSZ.2.2.2.2.2.2.2.2.1 i (by omega)).2, show i % (n - 1) = gp n i from rfl]
    refine tail _ Z z2 y2z ?_ ?_
    · have b1 := fog1 (f := f0) (n := n) (a := i) (t := tk n j) (x := ha_gA Z 134 (tk n j)) h3 (by omega) c (fun g hg => by rw [hSZ.2.2.2.2.1 134 (by omega), hf0 _ (by omega)])
      have b2 := fog1 (f := ad f0 n i) (n := n) (a := j) (t := tk n j) h3 (by omega) rfl b1
      intro g hg
      rw [← b2 g hg]
      rw [bq_or, bq_or, bq_or, bq_or, Bool.or_comm (bq ((1 : Int32) <<< (nI (gp n j) &&& 31)) g), Bool.or_assoc]
    · have hrn : rn M m n f0 (tk n j - 1) = rn M m n (ad (ad f0 n i) n j) (tk n j - 1) := rn_cg _ (fun t a b => by rw [ad_ne (by omega), ad_ne (by omega)])
      rw [← hrn]
      exact z1
  · refine ok_it (fun h => c ((nI_eq (by omega) (by omega)).mp h)) (ok_b (xr hIX 5 1 102 181) (ok_gd (by rw [hx.2.2.2]; exact n_in (by omega) (by omega)) ?_))
    rw [nI_clamp (by omega)]
    refine ok_b (once_r hS hB (by omega)) (ok_b (xr hIX 5 0 102 180) (ok_gd (by rw [hx.2.2.1]; exact n_in2 (by omega) (by omega)) (ok_b (calm_r hS hB (by omega)) (ok_bind (alike_x hS.1 (isLno (by omega)) (isLnc (by omega)) h3 (by rw [rom8 (by omega)]; exact hn) (by rw [rom8 (by omega)]; exact hn) (li _ _) (li _ _) (ho (tk n j - 1) (by omega) (by omega)) (hc (tk n j - 1) (by omega))) ?_))))
    rintro ⟨az, Y2⟩ ⟨e1, e2⟩
    dsimp only at e1 e2 ⊢
    subst e1
    have hrn : rn M m n (ad f0 n i) (tk n j - 1) = rn M m n (ad (ad f0 n i) n j) (tk n j - 1) := rn_cg _ (fun t a b => (ad_ne (by omega)).symm)
    rcases e2 with e2 | ⟨e2, e3⟩
    · rw [e2]
      refine ok_it rfl (ok_b (xr hIX 5 2 5 17) (ok_b (xr hIX 5 1 102 181) (ok_gd (by rw [hx.2.2.2]; exact n_in2 (by omega) (by omega)) (ok_b (once_r hS hB (by omega)) (ok_bind (take_x hIX isLn17 (isLno (by omega)) (by omega) (by omega) (by rw [rom8 (by omega)]; exact hn) (by rw [rom8 (by omega)]; exact hn) (ho (tk n j - 1) (by omega) (by omega))) ?_)))))
      rintro Z ⟨z1, z2, z3⟩
      have y2z : WNx Z := by have := hS.2.1; unfold WNx at this ⊢; rw [z3]; exact this
      have hSZ := SB_f isLn17 (by omega) z2 y2z hS
      refine tail _ Z z2 y2z (fog1 h3 (by omega) rfl (fun g hg => ?_)) ?_
      · rw [hSZ.2.2.2.2.1 134 (by omega), ad_ne c, hf0 _ (by omega)]
      · rw [← hrn]; exact z1
    · rw [e2]
      refine ok_ie (by decide) (ok_some ⟨FG_r Y2 17, hS.2.1, Or.inr ⟨rfl, ?_⟩⟩)
      have hrj : rn M m n f0 (tk n j - 1) = rn M m n (ad f0 n j) (tk n j - 1) := rn_cg _ (fun t a b => (ad_ne (by omega)).symm)
      rw [hrn, hrj] at e3
      have := alk_rn (fg := ad (ad f0 n i) n j) (fg' := ad f0 n j) h3 hg T (by omega) (fun t h1 h2 => ?_) e3
      · rw [out_alk this]; exact hone j hj
      · funext g
        unfold ad
        have hti : t ≠ tk n i := by omega
        simp [hti]
theorem two_x {X0 X M : ha_St} {m n T W : Nat} {f0 : Nat → Nat → Bool} (hB : IB X0) (hf0 : ∀ tick, tick ≤ 500 → f0 tick = fun g => bq (ha_gA X0 134 tick) g) (h3 : 3 ≤ n) (hn : n ≤ 8) (hT : T ≤ 60) (hW : W ≤ 10) (hWT : W ≤ T) (hw : out m (rn M m n f0 T) = 0) (hone : ∀ a, a < W * (n - 1) → out m (rn M m n (ad f0 n a) T) = 0) (hS : SB X0 X M m n T W) (hc : CAL X M m n T f0) : Ok (f_X0_twoDo 5 2 X) (fun z => (z.1 = 0 ∧ SB X0 z.2 M m n T W ∧ ∀ a b, a < b → b < W * (n - 1) → out m (rn M m n (ad (ad f0 n a) n b) T) = 0) ∨ ∃ a b Y f g, z.1 = 1 ∧ a < b ∧ b < W * (n - 1) ∧ (∀ a' b', a' < b' → b' < W * (n - 1) → (a' < a ∨ (a' = a ∧ b' < b)) → out m (rn M m n (ad (ad f0 n a') n b') T) = 0) ∧ ¬ out m (rn M m n (ad (ad f0 n a) n b) T) = 0 ∧ SB X0 Y M m n T W ∧ FD1 Y z.2 2 f g ∧ f 0 = nI (tk n a) ∧ g 0 = nI (gp n a) ∧ f 1 = nI (tk n b) ∧ g 1 = nI (gp n b)) := by
  have hN : W * (n - 1) ≤ 70 := Nat.le_trans (Nat.mul_le_mul hW (show n - 1 ≤ 7 by omega)) (by omega)
  have hx : xo_ln 183 = 70 := by decide +kernel
  unfold f_X0_twoDo f_X0_twoDo_J83
  refine ok_bind (P := fun z => (∃ Y, z = .inl Y ∧ SB X0 Y M m n T W ∧ ∀ a b, a < b → b < W * (n - 1) → out m (rn M m n (ad (ad f0 n a) n b) T) = 0) ∨ ∃ a b Y Z f g, z = .inr (1, Z) ∧ a < b ∧ b < W * (n - 1) ∧ (∀ a' b', a' < b' → b' < W * (n - 1) → (a' < a ∨ (a' = a ∧ b' < b)) → out m (rn M m n (ad (ad f0 n a') n b') T) = 0) ∧ ¬ out m (rn M m n (ad (ad f0 n a) n b) T) = 0 ∧ SB X0 Y M m n T W ∧ FD1 Y Z 2 f g ∧ f 0 = nI (tk n a) ∧ g 0 = nI (gp n a) ∧ f 1 = nI (tk n b) ∧ g 1 = nI (gp n b)) ?_ ?_
  · refine ok_for (fun i (Y : ha_St) => (nI i, Y)) 0 (W * (n - 1)) (fun i Y => SB X0 Y M m n T W ∧ CAL Y M m n T f0 ∧ ∀ a b, a < b → b < W * (n - 1) → a < i → out m (rn M m n (ad (ad f0 n a) n b) T) = 0) _ X ⟨hS, hc, fun a b _ _ h => by omega⟩ (by omega) (by omega) ?_ ?_
    · rintro f i Y hi ⟨y1, y2, y3⟩ ih
      show Ok (f_X0_twoDo_L2 5 2 f (nI i) Y) _
      unfold f_X0_twoDo_L2
      rw [y1.2.2.2.2.2.2.2.1]
      refine ok_ie (nI_ge hi (by omega)) (ok_bind (once_x hB hf0 h3 hn hT hW hWT hi y1 y2) ?_)
      rintro Y1 ⟨o1, o2, o3⟩
      rw [pw_nm, nI_1]
      refine ok_bind (P := fun z => (∃ Y, z = .inl (nI i, Y) ∧ SB X0 Y M m n T W ∧ CAL Y M m n T f0 ∧ ∀ b, i < b → b < W * (n - 1) → out m (rn M m n (ad (ad f0 n i) n b) T) = 0) ∨ ∃ b Y Z f g, z = .inr (1, Z) ∧ i < b ∧ b < W * (n - 1) ∧ (∀ b', i < b' → b' < b → out m (rn M m n (ad (ad f0 n i) n b') T) = 0) ∧ ¬ out m (rn M m n (ad (ad f0 n i) n b) T) = 0 ∧ SB X0 Y M m n T W ∧ FD1 Y Z 2 f g ∧ f 0 = nI (tk n i) ∧ g 0 = nI (gp n i) ∧ f 1 = nI (tk n b) ∧ g 1 = nI (gp n b)) ?_ ?_
      · refine ok_for (fun j (Y : ha_St) => (nI i, nI j, Y)) (i + 1) (W * (n - 1)) (fun j Y => i < j ∧ FG Y1 Y 17 ∧ WNx Y ∧ ∀ b, i < b → b < j → out m (rn M m n (ad (ad f0 n i) n b) T) = 0) _ Y1 ⟨by omega, FG_r Y1 17, o1.2.1, fun b a1 a2 => by omega⟩ (by omega) (by omega) ?_ ?_
        · rintro f2 j Z hj ⟨z0, z1, z2, z3⟩ ih2
          show Ok (f_X0_twoDo_L20 5 2 f2 (nI i) (nI j) Z) _
          have hSZ := SB_f isLn17 (by omega) z1 z2 o1
          have hCZ := CAL_f hT isLn17 (Or.inl rfl) z1 o2
          have hOZ : ONC Z M m n W i f0 := fun t a b => RX_o isLn17 (isLno (by omega)) (by omega) z1 (o3 t a b)
          unfold f_X0_twoDo_L20 f_X0_twoDo_L20_J71
          simp only [pw_nm, nI_1]
          rw [hSZ.2.2.2.2.2.2.2.1]
          have next : ∀ Z' : ha_St, FG Z Z' 17 → WNx Z' → out m (rn M m n (ad (ad f0 n i) n j) T) = 0 → Ok (f2 (nI i, nI (j + 1), Z')) _ := fun Z' k1 k2 k3 => ih2 Z' ⟨by omega, FG_t z1 k1, k2, fun b a1 a2 => by
            by_cases e : b = j
            · rw [e]; exact k3
            · exact z3 b a1 (by omega)⟩
          refine ok_ie (nI_ge hj (by omega)) (ok_bind (both_x hB hf0 h3 hn hT hW hWT z0 hj hone hSZ hCZ hOZ) ?_)
          rintro ⟨bz, Z2⟩ ⟨w1, w2, w3⟩
          dsimp only at w1 w2 w3 ⊢
          rcases w3 with ⟨w3, w4⟩ | ⟨w3, w4⟩
          · rw [w3]
            have hS2 := SB_f isLn17 (by omega) w1 w2 hSZ
            have hC2 := CAL_f hT isLn17 (Or.inl rfl) w1 hCZ
            have t2 := tk_le h3 hj
            refine ok_ie (by decide) (ok_b (xr hS2.1.1 5 3 100 183) (ok_gd (by rw [hx]; exact n_in (by omega) (by omega)) ?_))
            rw [nI_clamp (by omega), (hS2.2.2.2.2.2.2.2.2.1 j hj).1, show 1 + j / (n - 1) = tk n j from rfl]
            refine ok_bind (brk_x (fg := ad (ad f0 n i) n j) hB hf0 h3 hn hT hw hS2 hC2 (by omega) (fun t h => ?_) w4) ?_
            · have := tk_mono (n := n) (show i ≤ j by omega)
              rw [ad_ne (by omega), ad_ne (by omega)]
            rintro ⟨cz, Z3⟩ ⟨v1, v2, v3⟩
            dsimp only at v1 v2 v3 ⊢
            rcases v3 with ⟨v3, v4⟩ | ⟨v3, v4⟩
            · rw [v3]
              have hS3 := SB_f isLn17 (by omega) v1 v2 hS2
              have a1 := hS3.2.2.2.2.2.2.2.2.1 i hi
              have a2 := hS3.2.2.2.2.2.2.2.2.1 j hj
              refine ok_ie (by decide) (ok_b (show f_X0_tell 5 0 (nI i) Z3 = _ from tell_x (k := 0) hS3.1.1 (by omega) (by omega)) ?_)
              have hI4 : IR (ha_sA (ha_sA Z3 188 (upd (ha_gA Z3 188) 0 (ha_gA Z3 183 i))) 189 (upd (ha_gA Z3 189) 0 (ha_gA Z3 184 i))) := IR_c (X := Z3) rfl hS3.1.1
              refine ok_b (show f_X0_tell 5 1 (nI j) _ = _ from tell_x (k := 1) hI4 (by omega) (by omega)) (ok_some (Or.inr ⟨j, Z3, _, upd (upd (ha_gA Z3 188) 0 (ha_gA Z3 183 i)) 1 (ha_gA Z3 183 j), upd (upd (ha_gA Z3 189) 0 (ha_gA Z3 184 i)) 1 (ha_gA Z3 184 j), rfl, z0, hj, z3, v4, hS3, ?_, ?_, ?_, ?_, ?_⟩))
              · have st_sw : ∀ (S : ha_St) (p q : Nat → Int32), ha_sA (ha_sA S 189 p) 188 q = ha_sA (ha_sA S 188 q) 189 p := fun S p q => by
                  unfold ha_sA
                  simp only [Prod.mk.injEq, true_and, and_true]
                  funext a
                  by_cases e : a = 188
                  · simp [e]
                  · by_cases e2 : a = 189
                    · simp [e2]
                    · simp [e, e2]
                unfold FD1
                rw [st_sw, st_sAA, st_sAA]
                rfl
              · rw [pk_un (by omega), pk_us, a1.1]; rfl
              · rw [pk_un (by omega), pk_us, a1.2]; rfl
              · rw [pk_us, a2.1]; rfl
              · rw [pk_us, a2.2]; rfl
            · rw [v3]
              exact ok_it rfl (next Z3 (FG_t w1 v1) v2 v4)
          · rw [w3]
            exact ok_it rfl (next Z2 w1 w2 w4)
        · rintro f2 Z ⟨z0, z1, z2, z3⟩
          show Ok (f_X0_twoDo_L20 5 2 f2 (nI i) (nI (W * (n - 1))) Z) _
          have hSZ := SB_f isLn17 (by omega) z1 z2 o1
          unfold f_X0_twoDo_L20
          rw [hSZ.2.2.2.2.2.2.2.1]
          exact ok_it (nI_le (Nat.le_refl _) (by omega)) (ok_some (Or.inl ⟨Z, rfl, hSZ, CAL_f hT isLn17 (Or.inl rfl) z1 o2, z3⟩))
      · rintro z (⟨Z, rfl, z1, z2, z3⟩ | ⟨b, Z, Z2, p, q, rfl, z1, z2, z3, z4, z5, z6⟩)
        · show Ok (f_X0_twoDo_L2_J77 5 2 f (nI i) Z) _
          unfold f_X0_twoDo_L2_J77
          rw [pw_nm, nI_1]
          refine ih Z ⟨z1, z2, fun a b h1 h2 h3 => ?_⟩
          by_cases e : a = i
          · rw [e]; exact z3 b (by omega) h2
          · exact y3 a b h1 h2 (by omega)
        · refine ok_some (Or.inr ⟨i, b, Z, Z2, p, q, rfl, z1, z2, fun a' b' h1 h2 h3 => ?_, z4, z5, z6⟩)
          rcases h3 with h3 | ⟨h3, h4⟩
          · exact y3 a' b' h1 h2 h3
          · rw [h3]; exact z3 b' (by omega) h4
    · rintro f Y ⟨y1, y2, y3⟩
      show Ok (f_X0_twoDo_L2 5 2 f (nI (W * (n - 1))) Y) _
      unfold f_X0_twoDo_L2
      rw [y1.2.2.2.2.2.2.2.1]
      exact ok_it (nI_le (Nat.le_refl _) (by omega)) (ok_some (Or.inl ⟨Y, rfl, y1, fun a b h1 h2 => y3 a b h1 h2 (by omega)⟩))
  · rintro z (⟨Y, rfl, q⟩ | ⟨a, b, Y, Z, f, g, rfl, q⟩)
    · exact ok_some (Or.inl ⟨rfl, q⟩)
    · exact ok_some (Or.inr ⟨a, b, Y, f, g, rfl, q⟩)
