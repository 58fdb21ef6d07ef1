/-! THE FIRST STATE KEEPS THE INVARIANT -/
def bl0 : ha_St := (fun _ _ => 0, fun _ _ => 0, fun _ _ => none, fun _ _ => 0, fun _ _ => none)
def X00 : ha_St := i_X11 bl0
def M00 : ha_St := i_X12 bl0
def xo_N : List Nat := [0] ++ xo_L
def mo_N : List Nat := [0] ++ [2, 15, 16, 17, 18, 19, 20, 21, 22, 23, 27, 28, 29, 30, 33, 34, 35, 36, 37, 48, 50, 51, 52, 53, 61, 62, 64, 65, 66, 67, 70, 71, 72, 76, 77, 78, 79, 80, 82]
theorem i_lns_A {b arr : Nat} {S : ha_St} : ∀ {j : Nat}, ha_gA (i_lns b arr S j) = ha_gA S
  | 0 => rfl
  | j + 1 => by
    show ha_gA (i_X5 (b + j) (i_lns b arr S j)) = _
    exact i_lns_A (j := j)
theorem i_wor_A {S : ha_St} {a : Nat} (ha : a ≠ 136) : ∀ {j : Nat}, ha_gA (i_wor S j) a = ha_gA S a
  | 0 => rfl
  | j + 1 => by
    show ha_gA (ha_sA (i_wor S j) 136 _) a = _
    rw [st_AA, if_neg ha]
    exact i_wor_A ha
theorem i_wor_V {S : ha_St} : ∀ {j i : Nat}, i < j → ha_gA (i_wor S j) 136 i = nI i
  | j + 1, i, hi => by
    show ha_gA (ha_sA (i_wor S j) 136 _) 136 i = _
    rw [st_AA, if_pos rfl]
    by_cases h : i = j
    · rw [h, upd_s]
    · rw [upd_n _ _ h]; exact i_wor_V (by omega)
theorem iA_X9 (S : ha_St) (a : Nat) : ha_gA (i_X9 S) a = ha_gA S a := rfl
theorem iA_X7 (S : ha_St) (a : Nat) : ha_gA (i_X7 S) a = ha_gA S a := rfl
theorem iA_X3 (S : ha_St) (a : Nat) : ha_gA (i_X3 S) a = ha_gA S a := rfl
theorem iA_X6a (S : ha_St) (a : Nat) : ha_gA (i_X6a S) a = ha_gA S a := rfl
theorem iA_X6b (S : ha_St) (a : Nat) : ha_gA (i_X6b S) a = ha_gA S a := rfl
theorem iA_X2 (S : ha_St) (a : Nat) : ha_gA (i_X2 S) a = ha_gA S a := rfl
theorem iA_X4 (S : ha_St) (a : Nat) : ha_gA (i_X4 S) a = ha_gA S a := rfl
theorem iA_X8 (p : Nat) (S : ha_St) (a : Nat) : ha_gA (i_X8 p S) a = ha_gA S a := rfl
theorem iA_X0 (S : ha_St) (a : Nat) : ha_gA (i_X0 S) a = ha_gA S a := by
  unfold i_X0
  rw [i_lns_A, i_lns_A]
  rfl
theorem X00_1 (a : Nat) : ha_gA X00 a = ha_gA (i_X1 (ha_sR (i_X10 bl0) 0 0 (some 1))) a := by
  unfold X00 i_X11
  simp only [st_AI, st_AR, iA_X8, iA_X4, iA_X2, iA_X6b, iA_X6a, iA_X3, iA_X0, iA_X7, iA_X9]
theorem X00_A (a : Nat) (ha : a ≠ 136) : ha_gA X00 a = fun _ => 0 := by
  rw [X00_1]
  unfold i_X1
  rw [st_AI, st_AA, if_neg ha, i_wor_A ha]
  rfl
theorem X00_136 : (∀ i, i < 100 → ha_gA X00 136 i = nI i) ∧ ha_gA X00 136 105 = -1 := by
  rw [X00_1]
  unfold i_X1
  rw [st_AI, st_AA, if_pos rfl]
  exact ⟨fun i hi => by rw [upd_n _ _ (by omega)]; exact i_wor_V hi, by rw [upd_s]⟩
theorem getD_out {α : Type} {l : List α} {i : Nat} {d : α} (h : l.length ≤ i) : l.getD i d = d := by
  rw [List.getD_eq_getElem?_getD, List.getElem?_eq_none h]
  rfl
theorem M00_A (a : Nat) : ha_gA M00 a = fun _ => 0 := rfl
theorem X00_R : ∀ o, o < 100 → ∀ k, k < 16 → (xo_ref o k = none ∨ ha_gR X00 o k = xo_ref o k) := by decide +kernel
theorem X00_B : (∀ j, j < 61 → ha_gB X00 180 j = some (20 + j)) ∧ (∀ j, j < 11 → ha_gB X00 181 j = some (81 + j)) ∧ (∀ j, j < 17 → ha_gB X00 248 j = some (2000 + j)) ∧ (∀ j, j < 3 → ha_gB X00 132 j = some (11 + j)) := by decide +kernel
theorem X00_I : ha_gI X00 1 1 = 0 ∧ ha_gI X00 0 13 = 0 ∧ ha_gI X00 2 5 = 8 ∧ ha_gI X00 2 6 = 0 ∧ ha_gI X00 2 7 = 0 ∧ ha_gI X00 11 8 = 0 ∧ ha_gI X00 12 8 = 0 ∧ ha_gI X00 13 8 = 0 ∧ ha_gI X00 0 12 = 0 ∧ ha_gI X00 0 15 = -1 ∧ ha_gI X00 0 16 = 0 ∧ ha_gI X00 4 2 = -1 ∧ ha_gI X00 16 5 = 0 ∧ ha_gI X00 5 10 = -1 ∧ ha_gI X00 6 3 = 0 ∧ ha_gI X00 0 14 = 0 ∧ ha_gI X00 8 6 = 0 ∧ ha_gI X00 8 4 = 0 ∧ ha_gI X00 8 7 = 0 ∧ ha_gI X00 9 8 = 0 ∧ ha_gI X00 9 7 = 0 ∧ ha_gI X00 9 6 = -1 := by decide +kernel
theorem M00_I : ha_gI M00 0 2 = 0 ∧ ha_gI M00 0 3 = 0 ∧ ha_gI M00 0 4 = 8 ∧ ha_gI M00 0 30 = 0 ∧ ha_gI M00 0 31 = 0 ∧ ha_gI M00 0 11 = 0 ∧ ha_gI M00 0 74 = -1 ∧ ha_gI M00 0 82 = 0 ∧ ha_gI M00 0 53 = -1 ∧ ha_gI M00 0 62 = 0 ∧ ha_gI M00 0 67 = 0 ∧ ha_gI M00 0 73 = 0 ∧ ha_gI M00 0 68 = 0 ∧ ha_gI M00 0 80 = 0 := by decide +kernel
theorem X00_5 : ha_gR X00 0 11 = some 15 ∧ ha_gR X00 3 2 = some 14 ∧ ha_gR X00 3 0 = some 148 ∧ xo_kd 148 = 100 := by decide +kernel
theorem M00_R : ∀ k, k < 83 → (¬ mo_kd (k + 1) < 999 ∨ ha_gR M00 0 k = some (k + 1)) := by decide +kernel
theorem mo_kd_b {x : Nat} (h : mo_kd x < 999) : x < 84 := by
  unfold mo_kd at h
  by_cases h0 : x = 0
  · omega
  · rw [if_neg h0] at h
    refine Nat.lt_of_not_le fun hx => ?_
    rw [getD_out (show mo_mk.length ≤ x - 1 by have : mo_mk.length = 83 := rfl; omega)] at h
    omega
theorem mo_hN : ∀ x, mo_kd x < 999 → x ∈ mo_N := fun x hx => (show ∀ x, x < 84 → mo_kd x < 999 → x ∈ mo_N by decide +kernel) x (mo_kd_b hx) hx
theorem xo_kd_b {x : Nat} (h : xo_kd x < 999) : x < 2017 := by
  unfold xo_kd at h
  refine Nat.lt_of_not_le fun hx => ?_
  rw [if_neg (by omega), if_neg (by omega), if_neg (by omega), if_neg (by omega)] at h
  omega
theorem xo_hN : ∀ x, xo_kd x < 999 → x ∈ xo_N := fun x hx => (show ∀ x, x < 2017 → xo_kd x < 999 → x ∈ xo_N by decide +kernel) x (xo_kd_b hx) hx
theorem xo_ref_b {o k r : Nat} (h : xo_ref o k = some r) : o < 100 ∧ k < 16 := by
  unfold xo_ref at h
  by_cases c1 : o < 100 ∧ k < 16 ∧ ¬ (o = 3 ∧ k = 0) ∧ xo_kd (100 + 16 * o + k) < 999
  · omega
  · rw [if_neg c1] at h
    by_cases c2 : o = 0
    · rw [if_pos c2] at h
      refine ⟨by omega, Nat.lt_of_not_le fun hk => ?_⟩
      rw [getD_out (by simp; omega)] at h
      cases h
    · rw [if_neg c2] at h
      by_cases c3 : o = 4 ∧ k = 0
      · omega
      · rw [if_neg c3] at h
        by_cases c4 : o = 5 ∧ k = 2
        · omega
        · rw [if_neg c4] at h; cases h
theorem PR_0 {p k : Nat} (h1 : ha_gI X00 p 8 = 0) : PR X00 p M00 k := by
  have e : ha_gA M00 15 k = 0 := rfl
  have e2 : (ha_gA M00 15 k).toInt = 0 := by rw [e]; rfl
  have rb0 : ∀ f b, rb f b (ha_gA M00 15 k).toInt.toNat = 0 := fun f b => by rw [e2]; rfl
  refine ⟨h1.trans e.symm, by omega, by omega, fun i hi => by omega, fun i hi => ?_, fun i hi => ?_⟩
  · rw [rb0] at hi; omega
  · rw [rb0] at hi; omega
theorem inv_00 : Inv X00 M00 := by
  obtain ⟨x1, x2, x3, x4, x5, x6, x7, x8, x9, x10, x11, x12, x13, x14, x15, x16, x17, x18, x19, x20, x21, x22⟩ := X00_I
  obtain ⟨m1, m2, m3, m4, m5, m6, m7, m8, m9, m10, m11, m12, m13, m14⟩ := M00_I
  obtain ⟨b1, b2, b3, b4⟩ := X00_B
  obtain ⟨r1, r2, r3, r4⟩ := X00_5
  have z0 : (0 : Int32).toInt = 0 := rfl
  have z8 : (8 : Int32).toInt = 8 := rfl
  refine ⟨?_, ⟨b1, b2, b3⟩, ?_, ?_, ?_, ?_, ?_, ?_, ?_, ?_, ?_, ?_, ?_, ?_, ?_, ?_⟩
  · intro o k r hr
    have hb := xo_ref_b hr
    rcases X00_R o hb.1 k hb.2 with h | h
    · rw [h] at hr; cases hr
    · rw [h]; exact hr
  · intro k hk
    have := mo_kd_b hk
    rcases M00_R k (by omega) with h | h
    · exact absurd hk h
    · exact h
  · refine ⟨x1.trans m1.symm, by rw [m1]; decide, by rw [m1]; decide, ?_, fun j => ?_⟩
    · rw [X00_A 116 (by omega), M00_A]
    · rw [M00_A]; show (0 : Int) ≤ (0 : Int32).toInt ∧ (0 : Int32).toInt ≤ 255; decide
  · exact ⟨x2.trans m2.symm, by rw [m2]; decide, by rw [m2]; decide, x3.trans m3.symm, by rw [m3]; decide, by rw [m3]; decide⟩
  · exact ⟨x4.trans m4.symm, by rw [m4]; decide, by rw [m4]; decide, fun j hj => by rw [m4, z0] at hj; omega⟩
  · refine ⟨x5.trans m5.symm, by rw [m5]; decide, by rw [m5]; decide, fun t g h1 h2 h3 => ?_⟩
    rw [X00_A 134 (by omega)]
    constructor
    · intro h
      have : bq 0 g = false := by unfold bq; simp
      rw [this] at h; cases h
    · rintro ⟨k, hk, -⟩
      rw [m5, z0] at hk; omega
  · refine ⟨⟨11, 15, 14, 148, 12, 13, b4 0 (by omega), b4 1 (by omega), b4 2 (by omega), r1, r2, r3, r4, by omega, by omega, by omega, by omega, by omega, by omega, by omega, by omega, by omega, by omega, by omega, by omega, by omega, by omega, by omega, by omega, PR_0 x6, PR_0 x7, PR_0 x8⟩, X00_136.1, X00_136.2⟩
  · exact ⟨x9.trans m6.symm, x10.trans m7.symm, x11.trans m8.symm⟩
  · exact ⟨x12.trans m9.symm, Or.inl ⟨m9, x13⟩⟩
  · exact ⟨Or.inr ⟨x14, m10⟩, by rw [m10]; decide, by rw [m10]; decide, fun k hk => by rw [m10, z0] at hk; omega⟩
  · exact ⟨x15.trans m11.symm, by rw [m11]; decide, by rw [m11]; decide, fun k hk => by rw [m11, z0] at hk; omega⟩
  · exact ⟨x16.trans m12.symm, by rw [m12]; decide, by rw [m12]; decide, fun k hk => by rw [m12, z0] at hk; omega⟩
  · refine ⟨x17.trans m13.symm, by rw [m13]; decide, by rw [m13]; decide, ?_, ?_, fun k hk => by rw [m13, z0] at hk; omega⟩
    · rw [m13, z0]; exact x18
    · rw [m13, z0]; exact x19
  · exact ⟨x20.trans m14.symm, by rw [m14]; decide, by rw [m14]; decide, fun k hk => by rw [m14, z0] at hk; omega⟩
  · exact ⟨Or.inl x21, Or.inl x22⟩
theorem gw_C0 : gw_C [0] bl0 := fun x _ => ⟨fun k r hr => (by cases hr), fun j r hr => (by cases hr)⟩
theorem gw_B0 : gw_B [0] bl0 := fun x _ => ⟨fun _ => rfl, fun _ => rfl, fun _ => rfl, rfl, rfl⟩
