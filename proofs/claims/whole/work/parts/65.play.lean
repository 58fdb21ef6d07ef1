/-! A PLAY -/
noncomputable def stl (M : ha_St) (m n : Nat) (fg : Nat → Nat → Bool) : Nat → Nat
  | 0 => 0
  | t + 1 => @ite Nat (chg n (rn M m n fg t) (rn M m n fg (t + 1))) (Classical.propDecidable _) (t + 1) (stl M m n fg t)
theorem stl_p {M : ha_St} {m n : Nat} {fg : Nat → Nat → Bool} {t : Nat} (h : chg n (rn M m n fg t) (rn M m n fg (t + 1))) : stl M m n fg (t + 1) = t + 1 := @if_pos _ (Classical.propDecidable _) h _ _ _
theorem stl_n {M : ha_St} {m n : Nat} {fg : Nat → Nat → Bool} {t : Nat} (h : ¬ chg n (rn M m n fg t) (rn M m n fg (t + 1))) : stl M m n fg (t + 1) = stl M m n fg t := @if_neg _ (Classical.propDecidable _) h _ _ _
def FP (X Y : ha_St) : Prop := ha_gR Y = ha_gR X ∧ ha_gB Y = ha_gB X ∧ (∀ o k, o ≠ 4 → o ≠ 16 → ha_gI Y o k = ha_gI X o k) ∧ ∀ a, a ≠ 135 → a ≠ 136 → a ≠ 165 → ¬ (356 ≤ a ∧ a ≤ 359) → ha_gA Y a = ha_gA X a
theorem FP_t {X X1 X2 : ha_St} (h : FP X X1) (g : FP X1 X2) : FP X X2 := ⟨g.1.trans h.1, g.2.1.trans h.2.1, fun o k a b => (g.2.2.1 o k a b).trans (h.2.2.1 o k a b), fun a h1 h2 h3 h4 => (g.2.2.2 a h1 h2 h3 h4).trans (h.2.2.2 a h1 h2 h3 h4)⟩
theorem FP_g {X X1 : ha_St} (h : FG X X1 16) : FP X X1 := ⟨h.1, h.2.1, fun o k _ b => h.2.2.1 o k b, fun a h1 h2 _ h4 => h.2.2.2 a h1 h2 h4⟩
theorem CX_p {X X1 M : ha_St} {m : Nat} (h : FP X X1) (hC : CX X M m) : CX X1 M m := CX_n h.1 h.2.1 (fun o k ho => h.2.2.1 o k (by omega) (by omega)) (fun a ha => h.2.2.2 a (by omega) (by omega) (by omega) (by omega)) hC
theorem isLn16 : isLn 16 := Or.inl rfl
theorem or_z (x : Int32) : x ||| 0 = x := by
  refine n_ext (fun i hi => ?_)
  rw [Int32.toBitVec_or, BitVec.getLsbD_or]
  simp
theorem run_x {X M : ha_St} {m n T : Nat} {fg : Nat → Nat → Bool} (hC : CX X M m) (h3 : 3 ≤ n) (hn : n ≤ 16) (h25 : ha_gI X 2 5 = nI n) (hT : T ≤ 500) (hW : WNx X) (hfg : ∀ tick, 1 ≤ tick → tick ≤ 500 → ∀ g, g < 15 → (bq (ha_gA X 134 tick) g = false ↔ fg tick g = false)) : Ok (f_X7_run 4 2 (nI T) X) (fun Y => FP X Y ∧ WNx Y ∧ RX Y 16 n (rn M m n fg T) ∧ (∀ q, q ≤ T → ∀ t, t < n → ha_gA Y 165 (16 * q + t) = (rn M m n fg q).1 t) ∧ ha_gI Y 4 2 = nI T ∧ ha_gI Y 4 3 = nI (stl M m n fg T) ∧ ha_gI Y 4 4 = out m (rn M m n fg T)) := by
  have hp := cx_pva hC
  have hm : m ≤ 60 := hC.2.2.1
  have hr : n ≤ rom 16 := hn
  have hx : xo_ln 165 = 8016 := by decide +kernel
  unfold f_X7_run
  simp only [pw_nm]
  generalize hX1 : ha_sI (ha_sI X 4 2 (nI T)) 4 3 0 = X1
  have p1 : FP X X1 := by
    rw [← hX1]
    exact ⟨rfl, rfl, fun o k h1 h2 => by rw [st_II, if_neg (by omega), st_II, if_neg (by omega)], fun _ _ _ _ _ => rfl⟩
  have v1 : ha_gI X1 4 2 = nI T := by rw [← hX1, st_II, if_neg (by omega), st_II, if_pos ⟨rfl, rfl⟩]
  have v2 : ha_gI X1 4 3 = nI 0 := by rw [← hX1, st_II, if_pos ⟨rfl, rfl⟩]; rfl
  have W1 : WNx X1 := by rw [← hX1]; exact hW
  have hC1 := CX_p p1 hC
  refine ok_b (xr hC1.1 4 0 5 16) ?_
  rw [p1.2.2.1 2 5 (by omega) (by omega), h25]
  refine ok_bind (begin_x hC1.1 isLn16 hr) ?_
  rintro X2 ⟨b1, b2, b3, b4⟩
  have p2 := FP_t p1 (FP_g b2)
  have W2 : WNx X2 := by unfold WNx at W1 ⊢; rw [b4]; exact W1
  refine ok_bind (P := fun Y => FP X Y ∧ WNx Y ∧ RX Y 16 n (rn M m n fg T) ∧ (∀ q, q ≤ T → ∀ t, t < n → ha_gA Y 165 (16 * q + t) = (rn M m n fg q).1 t) ∧ ha_gI Y 4 2 = nI T ∧ ha_gI Y 4 3 = nI (stl M m n fg T)) ?_ ?_
  · refine ok_for (fun i (Y : ha_St) => (nI i, Y)) 0 (T + 1) (fun i Y => FP X Y ∧ WNx Y ∧ RX Y 16 n (rn M m n fg (i - 1)) ∧ (∀ q, q < i → ∀ t, t < n → ha_gA Y 165 (16 * q + t) = (rn M m n fg q).1 t) ∧ ha_gI Y 4 2 = nI T ∧ ha_gI Y 4 3 = nI (stl M m n fg (i - 1))) _ X2 ⟨p2, W2, b1, fun q h => by omega, (b2.2.2.1 4 2 (by omega)).trans v1, (b2.2.2.1 4 3 (by omega)).trans v2⟩ (by omega) (by omega) ?_ ?_
    · rintro f i Y hi ⟨y1, y2, y3, y4, y5, y6⟩ ih
      show Ok (f_X7_run_L23 4 2 (nI T) f (nI i) Y) _
      have hCY := CX_p y1 hC
      -- the row of signs, and on
      have row : ∀ Z : ha_St, FP X Z → WNx Z → RX Z 16 n (rn M m n fg i) → (∀ q, q < i → ∀ t, t < n → ha_gA Z 165 (16 * q + t) = (rn M m n fg q).1 t) → ha_gI Z 4 2 = nI T → ha_gI Z 4 3 = nI (stl M m n fg i) → Ok (f_X7_run_L23_J57 4 2 (nI T) f (nI i) Z) (fun Y => FP X Y ∧ WNx Y ∧ RX Y 16 n (rn M m n fg T) ∧ (∀ q, q ≤ T → ∀ t, t < n → ha_gA Y 165 (16 * q + t) = (rn M m n fg q).1 t) ∧ ha_gI Y 4 2 = nI T ∧ ha_gI Y 4 3 = nI (stl M m n fg T)) := by
        intro Z z1 z2 z3 z4 z5 z6
        have hCZ := CX_p z1 hC
        unfold f_X7_run_L23_J57
        refine ok_b (xr hCZ.1 4 0 5 16) (ok_b (lr0 hCZ.1 isLn16) (ok_b (xr hCZ.1 4 1 100 165) (ok_b (xr hCZ.1 4 0 5 16) ?_)))
        have e16 : nI i * 16 = nI (16 * i) := by rw [Nat.mul_comm]; exact nI_mul i 16
        rw [z3.1, e16, hx, ll0 isLn16]
        refine ok_gd ⟨by decide, nI_pos (by omega), nI_pos (by omega), ?_, ?_⟩ ?_
        · rw [nI_clamp (show n < 2 ^ 31 by omega)]
          show 0 + n ≤ rom 16
          omega
        · rw [nI_clamp (show n < 2 ^ 31 by omega), nI_clamp (show 16 * i < 2 ^ 31 by omega)]; omega
        · simp only [pw_nm, nI_1]
          rw [nI_clamp (show n < 2 ^ 31 by omega), nI_clamp (show 16 * i < 2 ^ 31 by omega)]
          generalize hZ1 : ha_sA Z 165 (va_cpy (ha_gA Z (100 + 16 * 16)) (ha_gA Z 165) (0 : Int32).toNatClampNeg (16 * i) n) = Z1
          have ar : ∀ a, a ≠ 165 → ha_gA Z1 a = ha_gA Z a := fun a h => by rw [← hZ1, st_AA, if_neg h]
          have ir : ∀ o k, ha_gI Z1 o k = ha_gI Z o k := fun o k => by rw [← hZ1]; rfl
          refine ih Z1 ⟨FP_t z1 ⟨by rw [← hZ1]; rfl, by rw [← hZ1]; rfl, fun o k _ _ => ir o k, fun a _ _ h _ => ar a h⟩, ?_, ?_, fun q hq t ht => ?_, (ir 4 2).trans z5, (ir 4 3).trans z6⟩
          · unfold WNx at z2 ⊢; rw [ar 136 (by omega)]; exact z2
          · obtain ⟨l1, l2, l3, l4, l5, l6, l7, l8⟩ := z3
            rw [show i + 1 - 1 = i by omega]
            exact ⟨(ir 16 4).trans l1, fun t ht => by rw [ar _ (by omega)]; exact l2 t ht, fun t ht => by rw [ar _ (by omega)]; exact l3 t ht, fun j hj => by rw [ar _ (by omega)]; exact l4 j hj, (ir 16 6).trans l5, (ir 16 5).trans l6, (ir 16 7).trans l7, fun h k hk => by rw [ar _ (by omega)]; exact l8 h k hk⟩
          · rw [← hZ1, st_AA, if_pos rfl]
            show (if 16 * i ≤ 16 * q + t ∧ 16 * q + t < 16 * i + n then ha_gA Z (100 + 16 * 16) (0 + (16 * q + t - 16 * i)) else _) = _
            by_cases e : q = i
            · rw [e, if_pos (by omega), show 0 + (16 * i + t - 16 * i) = t by omega]
              exact z3.2.1 t ht
            · rw [if_neg (by omega)]; exact z4 q (by omega) t ht
      unfold f_X7_run_L23
      refine ok_ie (nI_nlt (by omega) (by omega)) (ok_ie (show ¬ nI 500 < nI i from nI_nlt (by omega) (by omega)) ?_)
      by_cases c : i = 0
      · subst c
        exact ok_it (by decide) (row Y y1 y2 y3 y4 y5 y6)
      · obtain ⟨q, rfl⟩ : ∃ q, i = q + 1 := ⟨i - 1, by omega⟩
        rw [show q + 1 - 1 = q by omega] at y3 y6
        refine ok_ie (nI_nle (by omega) (by omega)) (ok_b (xr hCY.1 4 0 5 16) (ok_bind (move_x (fg := fg (q + 1)) hCY isLn16 hr h3 (by omega) (fun g hg => ?_) y2 y3 (li_rn hm hp q)) ?_))
        · rw [or_z, y1.2.2.2 134 (by omega) (by omega) (by omega) (by omega)]
          exact hfg (q + 1) (by omega) (by omega) g hg
        · rintro ⟨zz, Z⟩ ⟨g1, g2, g3, g4⟩
          dsimp only at g1 g2 g3 g4 ⊢
          have z165 : ∀ r, r < q + 1 → ∀ t, t < n → ha_gA Z 165 (16 * r + t) = (rn M m n fg r).1 t := fun r hr t ht => by rw [g3.2.2.2.2 165 (by omega) (by omega) (by omega)]; exact y4 r hr t ht
          have zp := FP_t y1 (FP_g (FX_g g3))
          rcases g1 with ⟨g1, g5⟩ | ⟨g1, g5⟩
          · rw [g1]
            refine ok_ie (by decide) (row _ (FP_t zp ⟨rfl, rfl, fun o k h1 h2 => by rw [st_II, if_neg (by omega)], fun _ _ _ _ _ => rfl⟩) g4 ?_ z165 ?_ ?_)
            · obtain ⟨l1, l2, l3, l4, l5, l6, l7, l8⟩ := g2
              exact ⟨l1, l2, l3, l4, l5, l6, l7, l8⟩
            · rw [st_II, if_neg (by omega), g3.2.2.1 4 2 (by omega)]; exact y5
            · rw [st_II, if_pos ⟨rfl, rfl⟩, stl_p g5]
          · rw [g1]
            refine ok_it rfl (row Z zp g4 g2 z165 ?_ ?_)
            · rw [g3.2.2.1 4 2 (by omega)]; exact y5
            · rw [g3.2.2.1 4 3 (by omega), y6, stl_n g5]
    · rintro f Y ⟨y1, y2, y3, y4, y5, y6⟩
      show Ok (f_X7_run_L23 4 2 (nI T) f (nI (T + 1)) Y) _
      unfold f_X7_run_L23
      rw [show T + 1 - 1 = T by omega] at y3 y6
      exact ok_it (nI_lt (by omega) (by omega)) (ok_some ⟨y1, y2, y3, fun q hq t ht => y4 q (by omega) t ht, y5, y6⟩)
  · rintro Y ⟨y1, y2, y3, y4, y5, y6⟩
    have hCY := CX_p y1 hC
    unfold f_X7_run_J89
    refine ok_b (xr hCY.1 4 0 5 16) (ok_b (out_x hCY y3 (li_rn hm hp T)) ?_)
    rw [pw_nm]
    refine ok_some ⟨FP_t y1 ⟨rfl, rfl, fun o k h1 h2 => by rw [st_II, if_neg (by omega)], fun _ _ _ _ _ => rfl⟩, y2, ?_, y4, ?_, ?_, ?_⟩
    · obtain ⟨l1, l2, l3, l4, l5, l6, l7, l8⟩ := y3
      exact ⟨l1, l2, l3, l4, l5, l6, l7, l8⟩
    · rw [st_II, if_neg (by omega)]; exact y5
    · rw [st_II, if_neg (by omega)]; exact y6
    · rw [st_II, if_pos ⟨rfl, rfl⟩]
