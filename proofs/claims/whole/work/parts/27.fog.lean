theorem st_sAA (S : ha_St) (n : Nat) (f g : Nat → Int32) : ha_sA (ha_sA S n f) n g = ha_sA S n g := by
  unfold ha_sA
  simp only [Prod.mk.injEq, true_and, and_true]
  funext a
  by_cases h : a = n <;> simp [h]
theorem st_self (S : ha_St) (n : Nat) : ha_sA S n (ha_gA S n) = S := by
  unfold ha_sA ha_gA
  obtain ⟨a, b, c, d, e⟩ := S
  simp only [Prod.mk.injEq, true_and, and_true]
  funext x
  by_cases h : x = n <;> simp [h]
theorem bq_or (x y : Int32) (i : Nat) : bq (x ||| y) i = (bq x i || bq y i) := by simp [bq]
theorem bq_one : ∀ g, g < 31 → ∀ j, j < 31 → bq ((1 : Int32) <<< (nI g &&& 31)) j = decide (j = g) := by decide +kernel
theorem nI_ofI {v : Int32} (h : 0 ≤ v.toInt) : v = nI v.toInt.toNat := by
  have h2 := (i_rg v).2
  rw [i_eq, nI_toInt (by omega)]
  omega
/-- the loop of addFog -/
theorem fog_l (g a b : Int32) (hb : b.toInt ≤ 500) : ∀ (k n : Nat) (v : Int32) (X : ha_St), IR X → v.toInt = b.toInt + 1 - k → 1 ≤ v.toInt → k < n → ∃ f, f_X1_addFog_L3i 2 g a b n (v, X) = some (ha_sA X 134 f) ∧ ∀ t : Nat, f t = if v.toInt ≤ t ∧ (t : Int) ≤ b.toInt then ha_gA X 134 t ||| ((1 : Int32) <<< (g &&& 31)) else ha_gA X 134 t := by
  intro k
  induction k with
  | zero =>
    intro n v X hIR hv h1 hn
    obtain ⟨n, rfl⟩ : ∃ q, n = q + 1 := ⟨n - 1, by omega⟩
    refine ⟨ha_gA X 134, ?_, fun t => by rw [if_neg (by omega)]⟩
    show f_X1_addFog_L3 2 g a b (f_X1_addFog_L3i 2 g a b n) v X = _
    unfold f_X1_addFog_L3
    rw [pw_it (by rw [i_lt]; omega), st_self]
  | succ k ih =>
    intro n v X hIR hv h1 hn
    obtain ⟨n, rfl⟩ : ∃ q, n = q + 1 := ⟨n - 1, by omega⟩
    have hv2 : (v + 1).toInt = v.toInt + 1 := by rw [i_add (by rw [z_1]; omega) (by rw [z_1]; omega), z_1]
    obtain ⟨f, r1, r2⟩ := ih n (v + 1) (ha_sA X 134 (upd (ha_gA X 134) v.toNatClampNeg (ha_gA X 134 v.toNatClampNeg ||| ((1 : Int32) <<< (g &&& 31))))) (IR_c (X := X) rfl hIR) (by omega) (by omega) (by omega)
    refine ⟨f, ?_, fun t => ?_⟩
    · show f_X1_addFog_L3 2 g a b (f_X1_addFog_L3i 2 g a b n) v X = _
      unfold f_X1_addFog_L3
      have hx : xo_ln 134 = 501 := by decide +kernel
      have g1 : ¬ (v < 0 ∨ 501 ≤ v.toNatClampNeg) := by rw [i_lt, z_0, i_cl]; omega
      rw [pw_ie (by rw [i_lt]; omega), pw_ie (by rw [i_lt, z_500]; omega)]
      simp only [pw_nm, pw_bs, xr hIR 2 2 100 134, hx, pw_gd g1]
      rw [r1, st_sAA]
    · rw [r2 t, hv2]
      show (if _ then upd (ha_gA X 134) _ _ t ||| _ else upd (ha_gA X 134) _ _ t) = _
      by_cases ht : t = v.toNatClampNeg
      · subst ht
        rw [pk_us, if_neg (by rw [i_cl]; omega), if_pos (by rw [i_cl]; omega)]
      · rw [pk_un ht]
        have ht' : (t : Int) ≠ v.toInt := by rw [i_cl] at ht; omega
        by_cases h : v.toInt + 1 ≤ t ∧ (t : Int) ≤ b.toInt
        · rw [if_pos h, if_pos (by omega)]
        · rw [if_neg h, if_neg (by omega)]
theorem fogQ_n {M : ha_St} (p a b : Int32) (hn : 0 ≤ (ha_gI M 0 31).toInt) (hn2 : (ha_gI M 0 31).toInt < 60) (g t : Nat) : fogQ (ha_sI (ha_sA (ha_sA (ha_sA M 28 (upd (ha_gA M 28) (ha_gI M 0 31).toNatClampNeg p)) 29 (upd (ha_gA M 29) (ha_gI M 0 31).toNatClampNeg a)) 30 (upd (ha_gA M 30) (ha_gI M 0 31).toNatClampNeg b)) 0 31 (ha_gI M 0 31 + 1)) g t ↔ fogQ M g t ∨ (p.toInt = g ∧ a.toInt ≤ t ∧ (t : Int) ≤ b.toInt) := by
  have ha : (ha_gI M 0 31 + 1).toInt = (ha_gI M 0 31).toInt + 1 := by rw [i_add (by rw [z_1]; omega) (by rw [z_1]; omega), z_1]
  show (∃ k : Nat, (k : Int) < (ha_gI M 0 31 + 1).toInt ∧ (upd (ha_gA M 28) _ p k).toInt = g ∧ (upd (ha_gA M 29) _ a k).toInt ≤ t ∧ (t : Int) ≤ (upd (ha_gA M 30) _ b k).toInt) ↔ _
  constructor
  · rintro ⟨k, h1, h2, h3, h4⟩
    by_cases hk : k = (ha_gI M 0 31).toNatClampNeg
    · subst hk
      rw [pk_us] at h2 h3 h4
      exact Or.inr ⟨h2, h3, h4⟩
    · rw [pk_un hk] at h2 h3 h4
      exact Or.inl ⟨k, by rw [i_cl] at hk; omega, h2, h3, h4⟩
  · rintro (⟨k, h1, h2, h3, h4⟩ | ⟨h2, h3, h4⟩)
    · have hk : k ≠ (ha_gI M 0 31).toNatClampNeg := by rw [i_cl]; omega
      exact ⟨k, by omega, by rw [pk_un hk]; exact h2, by rw [pk_un hk]; exact h3, by rw [pk_un hk]; exact h4⟩
    · exact ⟨(ha_gI M 0 31).toNatClampNeg, by rw [i_cl]; omega, by rw [pk_us]; exact h2, by rw [pk_us]; exact h3, by rw [pk_us]; exact h4⟩
theorem inv_fog {X M : ha_St} (hI : Inv X M) (p a b : Int32) (f : Nat → Int32) (hn : (ha_gI M 0 31).toInt < 60) (h1 : 0 ≤ p.toInt) (h2 : p.toInt < 15) (hf : ∀ t : Nat, f t = if a.toInt ≤ t ∧ (t : Int) ≤ b.toInt then ha_gA X 134 t ||| ((1 : Int32) <<< (p &&& 31)) else ha_gA X 134 t) : Inv (ha_sI (ha_sA X 134 f) 2 7 (ha_gI M 0 31 + 1)) (ha_sI (ha_sA (ha_sA (ha_sA M 28 (upd (ha_gA M 28) (ha_gI M 0 31).toNatClampNeg p)) 29 (upd (ha_gA M 29) (ha_gI M 0 31).toNatClampNeg a)) 30 (upd (ha_gA M 30) (ha_gI M 0 31).toNatClampNeg b)) 0 31 (ha_gI M 0 31 + 1)) := by
  obtain ⟨hIR, hIB, hIM, hI1, hI2, hI3, hI4, hI5, hI6, hI7, hI8, hI9, hI10, hI11, hI13, hI14⟩ := hI
  obtain ⟨e1, e2, e3, e4⟩ := hI4
  have ha : (ha_gI M 0 31 + 1).toInt = (ha_gI M 0 31).toInt + 1 := by rw [i_add (by rw [z_1]; omega) (by rw [z_1]; omega), z_1]
  exact ⟨IR_c (X := X) rfl hIR, IB_c (X := X) rfl rfl rfl hIB, IM_c (M := M) rfl hIM, I1_c (X := X) (M := M) rfl rfl rfl rfl hI1, I2_c (X := X) (M := M) rfl rfl rfl rfl hI2, I3_c (X := X) (M := M) rfl rfl rfl rfl hI3, ⟨rfl, by show 0 ≤ (ha_gI M 0 31 + 1).toInt; omega, by show (ha_gI M 0 31 + 1).toInt ≤ 60; omega, fun t g ht1 ht2 hg => by
    rw [fogQ_n p a b e2 hn]
    show bq (f t) g = true ↔ _
    rw [hf t]
    by_cases h : a.toInt ≤ t ∧ (t : Int) ≤ b.toInt
    · rw [if_pos h, bq_or, Bool.or_eq_true, e4 t g ht1 ht2 hg]
      have hp := nI_ofI h1
      rw [hp, bq_one _ (by omega) _ hg, ← hp, decide_eq_true_eq]
      constructor
      · rintro (h3 | h3)
        · exact Or.inl h3
        · exact Or.inr ⟨by omega, h⟩
      · rintro (h3 | ⟨h3, -⟩)
        · exact Or.inl h3
        · exact Or.inr (by omega)
    · rw [if_neg h, e4 t g ht1 ht2 hg]
      constructor
      · exact Or.inl
      · rintro (h3 | ⟨-, h3⟩)
        · exact h3
        · exact absurd h3 h⟩, I5_c (X := X) (M := M) (fun p j h1 h2 => by (try simp only [st_II, st_IA, st_IR, st_IB]); (repeat rw [if_neg (by omega)])) (fun a h1 h2 => by (try simp only [st_AI, st_AA, st_AR, st_AB]); (repeat rw [if_neg (by omega)])) rfl rfl (fun _ _ => rfl) rfl rfl rfl rfl rfl rfl rfl rfl rfl hI5, I6_c (X := X) (M := M) rfl rfl rfl rfl rfl rfl hI6, I7_c (X := X) (M := M) rfl rfl rfl rfl rfl rfl rfl rfl rfl rfl rfl rfl rfl rfl rfl rfl rfl rfl rfl rfl rfl rfl hI7, I8_c (X := X) (M := M) rfl rfl rfl rfl rfl rfl hI8, I9_c (X := X) (M := M) rfl rfl rfl rfl rfl rfl rfl hI9, I10_c (X := X) (M := M) rfl rfl rfl rfl hI10, I11_c (X := X) (M := M) rfl rfl rfl rfl rfl rfl rfl hI11, I13_c (X := X) (M := M) rfl rfl rfl rfl rfl rfl rfl rfl rfl rfl rfl rfl hI13, I14_c (X := X) (M := M) rfl rfl rfl (fun i => by (try simp only [st_AI, st_AA, st_AR, st_AB]); (repeat rw [if_neg (by omega)])) rfl rfl rfl rfl hI14⟩
theorem e_fog {X M : ha_St} (hI : Inv X M) (p a b : Int32) : Agr (f_X11_fog 0 p a b X) (f_X12_fog 0 p a b M) := by
  have hI := inv_thr 0 hI
  have hT := hI
  obtain ⟨hIR, hIB, hIM, hI1, hI2, hI3, hI4, hI5, hI6, hI7, hI8, hI9, hI10, hI11, hI13, hI14⟩ := hI
  unfold f_X11_fog f_X12_fog f_X11_fog_J46 f_X12_fog_J50 f_X1_addFog f_X1_addFog_J36
  generalize ha_sI M 0 0 0 = M at *
  obtain ⟨e1, e2, e3, e4⟩ := hI4
  have t1 := hI2.2.2.2.1
  have t2 := hI2.2.2.2.2
  have z2 : (2 : Int32).toInt = 2 := rfl
  have hs1 : (ha_gI M 0 4 - 1).toInt = (ha_gI M 0 4).toInt - 1 := by rw [i_sub (by rw [z_1]; omega) (by rw [z_1]; omega), z_1]
  have hs2 : (ha_gI M 0 4 - 2).toInt = (ha_gI M 0 4).toInt - 2 := by rw [i_sub (by rw [z2]; omega) (by rw [z2]; omega), z2]
  have hm : mo_ln (27 + 1) = 60 ∧ mo_ln (28 + 1) = 60 ∧ mo_ln (29 + 1) = 60 := by decide +kernel
  simp only [pw_nm, pw_bs, isIn_eq, xr hIR 0 1 1 2, mr hIM 27 100, mr hIM 28 100, mr hIM 29 100, st_fA, st_IA, e1, t1, hm]
  by_cases c0 : ha_gI M 0 31 = 60
  · rw [pw_it c0, pw_it (by rw [c0]; decide)]
    exact agr_mk rfl hT
  · rw [pw_ie c0]
    rw [i_eq, z_60] at c0
    rw [pw_ie (by rw [i_le, z_60]; omega)]
    by_cases c1 : p < 0
    · simp only [c1, true_or, n_00, if_true]
      exact agr_mk rfl hT
    · rw [pw_ie c1]
      rw [i_lt, z_0] at c1
      by_cases c2 : ha_gI M 0 4 - 1 ≤ p
      · rw [pw_it c2]
        rw [i_le, hs1] at c2
        have d1 : p < 0 ∨ ha_gI M 0 4 - 2 < p := Or.inr (by rw [i_lt, hs2]; omega)
        simp only [d1, n_00, if_true]
        exact agr_mk rfl hT
      · rw [pw_ie c2]
        rw [i_le, hs1] at c2
        have d1 : ¬ (p < 0 ∨ ha_gI M 0 4 - 2 < p) := by rw [i_lt, i_lt, z_0, hs2]; omega
        simp only [d1, n_10, if_false]
        by_cases c3 : a < 1
        · simp only [c3, true_or, n_00, if_true]
          exact agr_mk rfl hT
        · rw [pw_ie c3]
          rw [i_lt, z_1] at c3
          by_cases c4 : b < a
          · simp only [c4, true_or, n_00, if_true, not_true_eq_false, if_false]
            by_cases c5 : a < 1 ∨ 500 < a
            · simp only [c5, n_00, if_true]
              exact agr_mk rfl hT
            · simp only [c5, n_10, if_false]
              exact agr_mk rfl hT
          · rw [pw_ie c4]
            by_cases c5 : b ≤ 500
            · rw [pw_it c5]
              rw [i_lt] at c4; rw [i_le, z_500] at c5
              have d2 : ¬ (a < 1 ∨ 500 < a) := by rw [i_lt, i_lt, z_1, z_500]; omega
              have d3 : ¬ (b < a ∨ 500 < b) := by rw [i_lt, i_lt, z_500]; omega
              simp only [d2, d3, n_10, if_false, not_false_eq_true, if_true]
              have g1 : ¬ (ha_gI M 0 31 < 0 ∨ 60 ≤ (ha_gI M 0 31).toNatClampNeg) := by rw [i_lt, z_0, i_cl]; omega
              simp only [pw_gd g1]
              obtain ⟨f, r1, r2⟩ := fog_l p a b (by omega) (b.toInt + 1 - a.toInt).toNat ha_fu a X hIR (by omega) (by omega) (fu_lt (by omega))
              rw [r1]
              simp only [pw_bs, st_IA, e1]
              exact agr_mk rfl (inv_fog hT p a b f (by omega) (by omega) (by omega) r2)
            · have d3 : b < a ∨ 500 < b := Or.inr (by rw [i_le, z_500] at c5; rw [i_lt, z_500]; omega)
              rw [pw_ie c5]
              by_cases c6 : a < 1 ∨ 500 < a
              · simp only [c6, n_00, if_true]
                exact agr_mk rfl hT
              · simp only [c6, d3, n_00, n_10, if_false, if_true, not_true_eq_false]
                exact agr_mk rfl hT
