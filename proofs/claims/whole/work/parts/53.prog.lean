/-! PROGRAMS as the invariant has them, and the class's line objects -/
theorem rb_s (f : Nat → Int32) (b i : Nat) : rb f b (i + 1) = (f (b + i)).toInt := by
  unfold rb
  rw [if_neg (by omega), show b + (i + 1) - 1 = b + i by omega]
theorem rb_mono {f : Nat → Int32} {b R : Nat} (h : ∀ i : Nat, i < R → rb f b i ≤ (f (b + i)).toInt) : ∀ j r, r < j → j ≤ R → (f (b + r)).toInt ≤ rb f b j
  | 0, _, h1, _ => by omega
  | j + 1, r, h1, h2 => by
    rw [rb_s]
    by_cases e : r = j
    · rw [e]; exact Int.le_refl _
    · exact Int.le_trans (rb_mono h j r (by omega) (by omega)) (h j (by omega))
theorem rb_nn {f : Nat → Int32} {b R : Nat} (h : ∀ i : Nat, i < R → rb f b i ≤ (f (b + i)).toInt) : ∀ i, i < R → 0 ≤ (f (b + i)).toInt
  | 0, h1 => h 0 h1
  | i + 1, h1 => by
    have h2 := h (i + 1) h1
    rw [rb_s] at h2
    exact Int.le_trans (rb_nn h i (by omega)) h2
/-- a rule of a program, here and there -/
def RuX (X : ha_St) (p : Nat) (M : ha_St) (k r : Nat) : Prop := ha_gA X (100 + 16 * p) r = nI (enn (ha_gA M 16) k r) ∧ ha_gA X (101 + 16 * p) r = nI (enn (ha_gA M 17) k r) ∧ ha_gA M 16 (20 * k + r) = nI (enn (ha_gA M 16) k r) ∧ ha_gA M 17 (20 * k + r) = nI (enn (ha_gA M 17) k r) ∧ rbn (ha_gA M 16) k r ≤ enn (ha_gA M 16) k r ∧ rbn (ha_gA M 17) k r ≤ enn (ha_gA M 17) k r ∧ enn (ha_gA M 16) k r ≤ 40 ∧ enn (ha_gA M 17) k r ≤ 40
def OnX (X : ha_St) (p : Nat) (M : ha_St) (k x : Nat) : Prop := ha_gA X (102 + 16 * p) x = nI (tn (ha_gA M 18 (40 * k + x))) ∧ mkR (ha_gA X (103 + 16 * p) x) (ha_gA M 19 (40 * k + x)) ∧ ha_gA X (104 + 16 * p) x = nI (tn (ha_gA M 20 (40 * k + x))) ∧ ha_gA M 18 (40 * k + x) = nI (tn (ha_gA M 18 (40 * k + x))) ∧ ha_gA M 20 (40 * k + x) = nI (tn (ha_gA M 20 (40 * k + x))) ∧ tn (ha_gA M 18 (40 * k + x)) < 110 ∧ tn (ha_gA M 20 (40 * k + x)) < 110 ∧ (ha_gI X p 11 = 0 → tn (ha_gA M 18 (40 * k + x)) ≠ 103 ∧ tn (ha_gA M 20 (40 * k + x)) ≠ 103)
def AcX (X : ha_St) (p : Nat) (M : ha_St) (k x : Nat) : Prop := acR (ha_gA X (105 + 16 * p) x) (ha_gA M 21 (40 * k + x)) ∧ (∃ a b, ha_gA X (106 + 16 * p) x = nI a ∧ ha_gA X (107 + 16 * p) x = nI b ∧ a < 110 ∧ b < 110 ∧ (ha_gA M 21 (40 * k + x) ≠ 6 → ha_gA M 22 (40 * k + x) = nI a ∧ ((ha_gA M 23 (40 * k + x) = -1 ∧ b = 0) ∨ (ha_gA M 23 (40 * k + x) = nI b)) ∧ (ha_gI X p 11 = 0 → a ≠ 103 ∧ b ≠ 103)))
theorem pr_all {X : ha_St} {p : Nat} {M : ha_St} {k : Nat} (h : PR X p M k) : ∃ R, R ≤ 20 ∧ ha_gA M 15 k = nI R ∧ ha_gI X p 8 = nI R ∧ (∀ r, r < R → RuX X p M k r) ∧ (∀ r, r < R → ∀ x, x < enn (ha_gA M 16) k r → OnX X p M k x) ∧ (∀ r, r < R → ∀ x, x < enn (ha_gA M 17) k r → AcX X p M k x) := by
  obtain ⟨h1, h2, h3, h4, h5, h6⟩ := h
  have hR : ((ha_gA M 15 k).toInt.toNat : Int) = (ha_gA M 15 k).toInt := Int.toNat_of_nonneg h2
  have m1 : ∀ i : Nat, i < (ha_gA M 15 k).toInt.toNat → rb (ha_gA M 16) (20 * k) i ≤ (ha_gA M 16 (20 * k + i)).toInt := fun i hi => (h4 i (by omega)).2.2.1
  have m2 : ∀ i : Nat, i < (ha_gA M 15 k).toInt.toNat → rb (ha_gA M 17) (20 * k) i ≤ (ha_gA M 17 (20 * k + i)).toInt := fun i hi => (h4 i (by omega)).2.2.2.1
  refine ⟨(ha_gA M 15 k).toInt.toNat, by omega, nI_ofI h2, h1.trans (nI_ofI h2), fun r hr => ?_, fun r hr x hx => ?_, fun r hr x hx => ?_⟩
  · obtain ⟨a1, a2, a3, a4, a5, a6⟩ := h4 r (by omega)
    have n1 := rb_nn m1 r hr
    have n2 := rb_nn m2 r hr
    refine ⟨a1.trans (n_tnI n1), a2.trans (n_tnI n2), n_tnI n1, n_tnI n2, ?_, ?_, ?_, ?_⟩
    · unfold rbn enn tn
      by_cases c : r = 0
      · rw [if_pos c]; omega
      · rw [if_neg c]
        unfold rb at a3
        rw [if_neg c] at a3
        omega
    · unfold rbn enn tn
      by_cases c : r = 0
      · rw [if_pos c]; omega
      · rw [if_neg c]
        unfold rb at a4
        rw [if_neg c] at a4
        omega
    · unfold enn tn; omega
    · unfold enn tn; omega
  · have hm := rb_mono m1 _ r hr (Nat.le_refl _)
    have n1 := rb_nn m1 r hr
    unfold enn tn at hx
    obtain ⟨a1, a2, a3, a4, a5, a6⟩ := h5 x (by omega)
    unfold vaR at a4 a5
    refine ⟨a1.trans (n_tnI a4.1), a2, a3.trans (n_tnI a5.1), n_tnI a4.1, n_tnI a5.1, by unfold tn; omega, by unfold tn; omega, fun g => ?_⟩
    obtain ⟨b1, b2⟩ := a6 g
    rw [ne_eq, i_eq] at b1 b2
    have z : (103 : Int32).toInt = 103 := rfl
    unfold tn
    omega
  · have hm := rb_mono m2 _ r hr (Nat.le_refl _)
    have n1 := rb_nn m2 r hr
    unfold enn tn at hx
    obtain ⟨a1, a2, a3, a4⟩ := h6 x (by omega)
    unfold vaR at a2 a3
    refine ⟨a1, tn (ha_gA X (106 + 16 * p) x), tn (ha_gA X (107 + 16 * p) x), n_tnI a2.1, n_tnI a3.1, by unfold tn; omega, by unfold tn; omega, fun g => ?_⟩
    obtain ⟨b1, b2, b3, b4⟩ := a4 g
    have z : (103 : Int32).toInt = 103 := rfl
    refine ⟨by rw [← b1]; exact n_tnI a2.1, ?_, fun q => ?_⟩
    · rcases b3 with ⟨c1, c2⟩ | ⟨c1, c2⟩
      · exact Or.inl ⟨c1, by rw [c2]; rfl⟩
      · exact Or.inr (by rw [← c1]; exact n_tnI a3.1)
    · obtain ⟨c1, c2⟩ := b4 q
      rw [ne_eq, i_eq] at c1 c2
      constructor
      · unfold tn; rw [b1]; omega
      · rcases b3 with ⟨d1, d2⟩ | ⟨d1, d2⟩
        · rw [d2]; decide
        · unfold tn; rw [d1]; omega
theorem acR_r {a b : Int32} (h : acR a b) : 0 ≤ b.toInt ∧ b.toInt ≤ 6 := by
  rcases h with ⟨-, rfl⟩ | ⟨-, rfl⟩ | ⟨-, rfl⟩ | ⟨-, rfl⟩ | ⟨-, rfl⟩ | ⟨-, rfl⟩ | ⟨-, rfl⟩ <;> decide
theorem pr_pva {X : ha_St} {p : Nat} {M : ha_St} {k : Nat} (h : PR X p M k) : PVa M k := by
  obtain ⟨R, h1, h2, h3, h4, h5, h6⟩ := pr_all h
  intro r hr j hj
  rw [h2, tn_n (by omega)] at hr
  exact (acR_r (h6 r hr j hj).1).1
/-! the line objects -/
def isLn (l : Nat) : Prop := l = 16 ∨ l = 17 ∨ (20 ≤ l ∧ l ≤ 91)
def rom (l : Nat) : Nat := if l = 16 then 16 else 8
theorem ln_ta : ∀ l, l < 92 → (l = 16 ∨ l = 17 ∨ 20 ≤ l) → xo_kd l = 5 ∧ xo_ref l 0 = some (100 + 16 * l) ∧ xo_ref l 1 = some (101 + 16 * l) ∧ xo_ref l 2 = some (102 + 16 * l) ∧ xo_ref l 3 = some (103 + 16 * l) := by decide +kernel
theorem ln_tb : ∀ l, l < 92 → (l = 16 ∨ l = 17 ∨ 20 ≤ l) → xo_kd (100 + 16 * l) = 100 ∧ xo_kd (101 + 16 * l) = 100 ∧ xo_kd (102 + 16 * l) = 100 ∧ xo_kd (103 + 16 * l) = 100 := by decide +kernel
theorem ln_tc : ∀ l, l < 92 → (l = 16 ∨ l = 17 ∨ 20 ≤ l) → xo_ln (100 + 16 * l) = rom l ∧ xo_ln (101 + 16 * l) = rom l ∧ xo_ln (102 + 16 * l) = 4 * rom l ∧ xo_ln (103 + 16 * l) = (if l = 16 then 100 else 0) := by decide +kernel
theorem ln_all {l : Nat} (h : isLn l) : xo_kd l = 5 ∧ xo_ref l 0 = some (100 + 16 * l) ∧ xo_ref l 1 = some (101 + 16 * l) ∧ xo_ref l 2 = some (102 + 16 * l) ∧ xo_ref l 3 = some (103 + 16 * l) ∧ xo_kd (100 + 16 * l) = 100 ∧ xo_kd (101 + 16 * l) = 100 ∧ xo_kd (102 + 16 * l) = 100 ∧ xo_kd (103 + 16 * l) = 100 ∧ xo_ln (100 + 16 * l) = rom l ∧ xo_ln (101 + 16 * l) = rom l ∧ xo_ln (102 + 16 * l) = 4 * rom l ∧ xo_ln (103 + 16 * l) = (if l = 16 then 100 else 0) := by
  have h1 : l < 92 := by unfold isLn at h; omega
  have h2 : l = 16 ∨ l = 17 ∨ 20 ≤ l := by unfold isLn at h; omega
  have a := ln_ta l h1 h2
  have b := ln_tb l h1 h2
  have c := ln_tc l h1 h2
  exact ⟨a.1, a.2.1, a.2.2.1, a.2.2.2.1, a.2.2.2.2, b.1, b.2.1, b.2.2.1, b.2.2.2, c.1, c.2.1, c.2.2.1, c.2.2.2⟩
theorem lr0 {X : ha_St} (h : IR X) {l : Nat} (hl : isLn l) : ha_rf xo_kd X l 0 100 = some (100 + 16 * l) := xr h l 0 100 (100 + 16 * l) (ln_all hl).2.1 (ln_all hl).2.2.2.2.2.1
theorem lr1 {X : ha_St} (h : IR X) {l : Nat} (hl : isLn l) : ha_rf xo_kd X l 1 100 = some (101 + 16 * l) := xr h l 1 100 (101 + 16 * l) (ln_all hl).2.2.1 (ln_all hl).2.2.2.2.2.2.1
theorem lr2 {X : ha_St} (h : IR X) {l : Nat} (hl : isLn l) : ha_rf xo_kd X l 2 100 = some (102 + 16 * l) := xr h l 2 100 (102 + 16 * l) (ln_all hl).2.2.2.1 (ln_all hl).2.2.2.2.2.2.2.1
theorem lr3 {X : ha_St} (h : IR X) {l : Nat} (hl : isLn l) : ha_rf xo_kd X l 3 100 = some (103 + 16 * l) := xr h l 3 100 (103 + 16 * l) (ln_all hl).2.2.2.2.1 (ln_all hl).2.2.2.2.2.2.2.2.1
theorem ll0 {l : Nat} (hl : isLn l) : xo_ln (100 + 16 * l) = rom l := (ln_all hl).2.2.2.2.2.2.2.2.2.1
theorem ll1 {l : Nat} (hl : isLn l) : xo_ln (101 + 16 * l) = rom l := (ln_all hl).2.2.2.2.2.2.2.2.2.2.1
theorem ll2 {l : Nat} (hl : isLn l) : xo_ln (102 + 16 * l) = 4 * rom l := (ln_all hl).2.2.2.2.2.2.2.2.2.2.2.1
theorem ll3 {l : Nat} (hl : isLn l) : xo_ln (103 + 16 * l) = (if l = 16 then 100 else 0) := (ln_all hl).2.2.2.2.2.2.2.2.2.2.2.2
theorem rom_le (l : Nat) : rom l ≤ 16 := by unfold rom; by_cases h : l = 16 <;> simp [h]
/-- the program objects -/
theorem pg_tab : ∀ p, p < 16 → 11 ≤ p → xo_kd p = 8 ∧ ∀ j, j < 8 → xo_ref p j = some (100 + 16 * p + j) ∧ xo_kd (100 + 16 * p + j) = 100 ∧ xo_ln (100 + 16 * p + j) = (if j < 2 then 20 else 40) := by decide +kernel
theorem pgr {X : ha_St} (h : IR X) {p : Nat} (h1 : 11 ≤ p) (h2 : p ≤ 15) (j : Nat) (hj : j < 8) : ha_rf xo_kd X p j 100 = some (100 + 16 * p + j) := xr h p j 100 (100 + 16 * p + j) ((pg_tab p (by omega) h1).2 j hj).1 ((pg_tab p (by omega) h1).2 j hj).2.1
theorem pgl {p : Nat} (h1 : 11 ≤ p) (h2 : p ≤ 15) (j : Nat) (hj : j < 8) : xo_ln (100 + 16 * p + j) = (if j < 2 then 20 else 40) := ((pg_tab p (by omega) h1).2 j hj).2.2
/-! floorMod by 64 -/
theorem and63 (x : Int32) : (x &&& 63).toInt = x.toInt % 64 := by
  have h1 : (x &&& 63).toBitVec.toNat = x.toBitVec.toNat % 64 := by
    rw [Int32.toBitVec_and, BitVec.toNat_and]
    show x.toBitVec.toNat &&& 63 = _
    exact Nat.and_two_pow_sub_one_eq_mod x.toBitVec.toNat 6
  have h2 : (x &&& 63).toInt = (x &&& 63).toBitVec.toInt := rfl
  have h3 : x.toInt = x.toBitVec.toInt := rfl
  rw [h2, h3, BitVec.toInt_eq_toNat_bmod, BitVec.toInt_eq_toNat_bmod, h1]
  have := x.toBitVec.isLt
  rw [Int.bmod_def, Int.bmod_def]
  split <;> split <;> omega
theorem xor64 (x : Int32) : (0 : Int32) ≤ x ^^^ 64 ↔ 0 ≤ x.toInt := by
  have hm : ∀ y : Int32, 0 ≤ y.toInt ↔ y.toBitVec.msb = false := fun y => by
    have h3 : y.toInt = y.toBitVec.toInt := rfl
    rw [h3, BitVec.toInt_eq_msb_cond]
    have := y.toBitVec.isLt
    cases y.toBitVec.msb <;> simp <;> omega
  rw [i_le, z_0, hm, hm, Int32.toBitVec_xor, BitVec.msb_xor]
  show (x.toBitVec.msb ^^ (BitVec.msb (64#32))) = false ↔ _
  rw [show BitVec.msb (64#32) = false by decide]
  simp
theorem fm64 (x : Int32) : f_J9_floorMod_7cf53 x 64 = some (x &&& 63) := by
  unfold f_J9_floorMod_7cf53 f_J9_floorMod_7cf53_J18
  have hr := i_rg x
  have z : (64 : Int32).toInt = 64 := rfl
  have ht : x.toInt.tdiv 64 = x.toInt / 64 + if 0 ≤ x.toInt ∨ (64 : Int) ∣ x.toInt then 0 else 1 := by
    rw [Int.tdiv_eq_ediv]; rfl
  have hd : (x / 64).toInt = x.toInt.tdiv 64 := by
    rw [Int32.toInt_div, z]
    have h1 : x.toInt.tdiv 64 ≤ 2147483647 ∧ -2147483648 ≤ x.toInt.tdiv 64 := by
      rw [ht]
      split <;> omega
    exact Int.bmod_eq_of_le (by omega) (by omega)
  have hm : (x / 64 * 64).toInt = x.toInt.tdiv 64 * 64 := by
    have hb : -2147483648 ≤ x.toInt.tdiv 64 * 64 ∧ x.toInt.tdiv 64 * 64 < 2147483648 := by
      rw [ht]; split <;> omega
    rw [i_mul (by rw [hd, z]; omega) (by rw [hd, z]; omega), hd, z]
  have hs : (x - x / 64 * 64).toInt = x.toInt - x.toInt.tdiv 64 * 64 := by
    have hb : -64 < x.toInt - x.toInt.tdiv 64 * 64 ∧ x.toInt - x.toInt.tdiv 64 * 64 < 64 := by
      rw [ht]; split <;> omega
    rw [i_sub (by rw [hm]; omega) (by rw [hm]; omega), hm]
  rw [pw_gd (by decide), pw_nm]
  have ha := and63 x
  by_cases c : 0 ≤ x.toInt
  · rw [pw_it ((xor64 x).mpr c)]
    congr 1
    rw [i_eq, hs, ha, ht, if_pos (Or.inl c)]
    omega
  · rw [pw_ie (fun h => c ((xor64 x).mp h))]
    by_cases d : (64 : Int) ∣ x.toInt
    · have e : x - x / 64 * 64 = 0 := by
        rw [i_eq, hs, ht, if_pos (Or.inr d), z_0]
        omega
      rw [pw_it e, e]
      congr 1
      rw [i_eq, ha, z_0]
      omega
    · have e : ¬ x - x / 64 * 64 = 0 := by
        rw [i_eq, hs, ht, if_neg (by omega), z_0]
        omega
      rw [pw_ie e]
      congr 1
      have hq : (x - x / 64 * 64).toInt = x.toInt - (x.toInt / 64 + 1) * 64 := by rw [hs, ht, if_neg (by omega)]
      rw [i_eq, i_add (by rw [hq, z]; omega) (by rw [hq, z]; omega), hq, z, ha]
      omega
