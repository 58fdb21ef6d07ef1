/-! HILLS -/
def wt (b : Nat → Nat) (i : Nat) : Nat := 256 * b (2 * i) + b (2 * i + 1)
/-- what is reached ahead of hill h, in the class -/
def rx (w : Nat → Nat) (s : Nat) : Nat → Nat
  | 0 => 1
  | h + 1 => if (rx w s h).testBit h then rx w s h ||| (w h &&& s) else rx w s h
/-- and in the model, of k hills -/
def rm (w : Nat → Nat) (s k : Nat) : Nat → Nat
  | 0 => 1
  | h + 1 => if (rm w s k h).testBit h then rm w s k h ||| ((w h &&& (2 ^ k - 2 ^ (h + 1))) &&& s) else rm w s k h
theorem msk {k h j : Nat} (hh : h + 1 ≤ k) : (2 ^ k - 2 ^ (h + 1)).testBit j = decide (h + 1 ≤ j ∧ j < k) := by
  have e : 2 ^ k - 2 ^ (h + 1) = 2 ^ (h + 1) * (2 ^ (k - (h + 1)) - 1) := by
    rw [Nat.mul_sub, ← Nat.pow_add, Nat.mul_one]
    congr 2
    omega
  rw [e, Nat.testBit_two_pow_mul, Nat.testBit_two_pow_sub_one]
  by_cases c : h + 1 ≤ j
  · by_cases d : j < k
    · have : j - (h + 1) < k - (h + 1) := by omega
      simp [c, d, this]
    · have : ¬ j - (h + 1) < k - (h + 1) := by omega
      simp [c, d, this]
  · simp [c]
theorem rx_rm {w : Nat → Nat} {s k : Nat} (hs : s < 2 ^ k) : ∀ h, h ≤ k → ∀ j, h ≤ j → (rx w s h).testBit j = (rm w s k h).testBit j
  | 0, _, _, _ => rfl
  | h + 1, hk, j, hj => by
    have ih := rx_rm (w := w) hs h (by omega)
    show (if (rx w s h).testBit h then rx w s h ||| (w h &&& s) else rx w s h).testBit j = (if (rm w s k h).testBit h then rm w s k h ||| ((w h &&& (2 ^ k - 2 ^ (h + 1))) &&& s) else rm w s k h).testBit j
    rw [ih h (Nat.le_refl _)]
    by_cases c : (rm w s k h).testBit h = true
    · rw [if_pos c, if_pos c, Nat.testBit_or, Nat.testBit_or, ih j (by omega), Nat.testBit_and, Nat.testBit_and, Nat.testBit_and, msk hk]
      by_cases d : j < k
      · simp [hj, d]
      · rw [Nat.testBit_lt_two_pow (Nat.lt_of_lt_of_le hs (Nat.pow_le_pow_right (by omega) (Nat.not_lt.mp d)))]
        simp
    · rw [if_neg c, if_neg c, ih j (by omega)]
theorem rm_last {w : Nat → Nat} {s k : Nat} : (rm w s (k + 1) (k + 1)).testBit k = (rm w s (k + 1) k).testBit k := by
  show (if (rm w s (k + 1) k).testBit k then rm w s (k + 1) k ||| ((w k &&& (2 ^ (k + 1) - 2 ^ (k + 1))) &&& s) else rm w s (k + 1) k).testBit k = _
  by_cases c : (rm w s (k + 1) k).testBit k = true
  · rw [if_pos c, Nat.sub_self]; simp
  · rw [if_neg c]
theorem rx_lt {w : Nat → Nat} {s : Nat} (hw : ∀ i, w i < 2 ^ 16) : ∀ h, rx w s h < 2 ^ 16
  | 0 => by show 1 < 2 ^ 16; decide
  | h + 1 => by
    have ih := rx_lt (s := s) hw h
    show (if _ then _ else _) < _
    by_cases c : (rx w s h).testBit h = true
    · rw [if_pos c]; exact Nat.or_lt_two_pow ih (Nat.lt_of_le_of_lt Nat.and_le_left (hw h))
    · rw [if_neg c]; exact ih
theorem rm_lt {w : Nat → Nat} {s k : Nat} (hw : ∀ i, w i < 2 ^ 16) : ∀ h, rm w s k h < 2 ^ 16
  | 0 => by show 1 < 2 ^ 16; decide
  | h + 1 => by
    have ih := rm_lt (s := s) (k := k) hw h
    show (if _ then _ else _) < _
    by_cases c : (rm w s k h).testBit h = true
    · rw [if_pos c]; exact Nat.or_lt_two_pow ih (Nat.lt_of_le_of_lt Nat.and_le_left (Nat.lt_of_le_of_lt Nat.and_le_left (hw h)))
    · rw [if_neg c]; exact ih
/-- the best of the first i sets; 0: none -/
def hb (g : Nat → Bool) (P : Nat) : Nat → Nat
  | 0 => 0
  | i + 1 => if (hb g P i = 0 ∨ pc (2 * P + 1 + 2 * i) 14 < pc (hb g P i) 14) ∧ g (2 * P + 1 + 2 * i) = true then 2 * P + 1 + 2 * i else hb g P i
theorem hb_s (g : Nat → Bool) (P i : Nat) : hb g P (i + 1) = if (hb g P i = 0 ∨ pc (2 * P + 1 + 2 * i) 14 < pc (hb g P i) 14) ∧ g (2 * P + 1 + 2 * i) = true then 2 * P + 1 + 2 * i else hb g P i := rfl
theorem hb_p {g : Nat → Bool} {P i : Nat} (h : hb g P i = 0 ∨ pc (2 * P + 1 + 2 * i) 14 < pc (hb g P i) 14) (h2 : g (2 * P + 1 + 2 * i) = true) : hb g P (i + 1) = 2 * P + 1 + 2 * i := by rw [hb_s, if_pos ⟨h, h2⟩]
theorem hb_n {g : Nat → Bool} {P i : Nat} (h : ¬ ((hb g P i = 0 ∨ pc (2 * P + 1 + 2 * i) 14 < pc (hb g P i) 14) ∧ g (2 * P + 1 + 2 * i) = true)) : hb g P (i + 1) = hb g P i := by rw [hb_s, if_neg h]
theorem hb_lt {g : Nat → Bool} {P : Nat} (hP : 0 < P) : ∀ i, i ≤ P → hb g P i < 4 * P
  | 0, _ => by show 0 < 4 * P; omega
  | i + 1, h => by
    have := hb_lt (g := g) (P := P) hP i (by omega)
    show (if _ then _ else _) < _
    by_cases c : (hb g P i = 0 ∨ pc (2 * P + 1 + 2 * i) 14 < pc (hb g P i) 14) ∧ g (2 * P + 1 + 2 * i) = true
    · rw [if_pos c]; omega
    · rw [if_neg c]; exact this
def okd (w : Nat → Nat → Nat) (q D s : Nat) : Bool := decide (∀ d, d < D → (rx (w d) s (q + 1)).testBit (q + 1) = true)
theorem comes_x {X : ha_St} (hIR : IR X) {q d s : Nat} {w : Nat → Nat} (hq : q ≤ 12) (hd : d < 8) (hs : s < 2 ^ 16) (hk : ha_gI X 10 1 = nI (q + 2)) (hw : ∀ i, w i < 2 ^ 16) (hX : ∀ i, i < q + 2 → ha_gA X 260 (d * (q + 2) + i) = nI (w i)) : Ok (f_X4_comesThrough 10 (nI s) (nI d) X) (fun z => z = (if (rx w s (q + 1)).testBit (q + 1) then 1 else 0, X)) := by
  unfold f_X4_comesThrough
  have hl : xo_ln 260 = 112 := by decide +kernel
  have hdk : d * (q + 2) ≤ 7 * 14 := Nat.mul_le_mul (by omega) (by omega)
  refine ok_bind (P := fun z => z = (nI (rx w s (q + 1)), X)) ?_ (fun z hz => ?_)
  · refine ok_for (fun i (v : Int32) => (v, nI i, X)) 0 (q + 1) (fun i v => v = nI (rx w s i)) _ 1 rfl (by omega) (by omega) ?_ ?_
    · rintro f i v hi rfl ih
      show Ok (f_X4_comesThrough_L5 10 (nI s) (nI d) f (nI (rx w s i)) (nI i) X) _
      unfold f_X4_comesThrough_L5 f_X4_comesThrough_L5_J44
      have hr := rx_lt (s := s) hw i
      simp only [pw_nm, nI_1, hk]
      rw [n_sub1 (by omega), n_bit (by omega) (by omega)]
      refine ok_ie (nI_ge (by omega) (by omega)) ?_
      by_cases c : (rx w s i).testBit i = true
      · rw [if_pos c]
        refine ok_ie ne10 (ok_b (xr hIR 10 0 100 260) ?_)
        rw [nI_mul, nI_add]
        refine ok_gd (by rw [hl]; exact n_in (by omega) (by omega)) ?_
        rw [nI_clamp (by omega), hX i (by omega), n_and, n_or]
        refine ih _ ?_
        show _ = nI (if _ then _ else _)
        rw [if_pos c]
      · rw [if_neg c]
        refine ok_it rfl (ih _ ?_)
        show _ = nI (if _ then _ else _)
        rw [if_neg c]
    · rintro f v rfl
      show Ok (f_X4_comesThrough_L5 10 (nI s) (nI d) f (nI (rx w s (q + 1))) (nI (q + 1)) X) _
      unfold f_X4_comesThrough_L5
      rw [hk, n_sub1 (by omega)]
      exact ok_it (nI_le (by omega) (by omega)) (ok_some rfl)
  · subst hz
    unfold f_X4_comesThrough_J50 f_X4_comesThrough_J68
    have hr := rx_lt (s := s) hw (q + 1)
    dsimp only
    rw [hk, n_sub1 (by omega), show q + 2 - 1 = q + 1 by omega, n_bit (by omega) (by omega)]
    by_cases c : (rx w s (q + 1)).testBit (q + 1) = true
    · rw [if_pos c]; exact ok_ie ne10 (ok_gd (Or.inr rfl) (ok_some rfl))
    · rw [if_neg c]; exact ok_it rfl (ok_gd (Or.inl rfl) (ok_some rfl))
theorem each_x {X : ha_St} (hIR : IR X) {q D s : Nat} {w : Nat → Nat → Nat} (hq : q ≤ 12) (hD : D ≤ 8) (hs : s < 2 ^ 16) (hk : ha_gI X 10 1 = nI (q + 2)) (hd : ha_gI X 10 2 = nI D) (hw : ∀ d i, w d i < 2 ^ 16) (hX : ∀ d, d < D → ∀ i, i < q + 2 → ha_gA X 260 (d * (q + 2) + i) = nI (w d i)) : Ok (f_X4_doesEachDay 10 (nI s) X) (fun z => z = (if okd w q D s then 1 else 0, X)) := by
  unfold f_X4_doesEachDay f_X4_doesEachDay_J27
  refine ok_bind (P := fun z => (z = .inl X ∧ okd w q D s = true) ∨ (z = .inr (0, X) ∧ ¬ okd w q D s = true)) ?_ ?_
  · refine ok_for (fun i (v : Unit) => (nI i, X)) 0 D (fun i v => ∀ d, d < i → (rx (w d) s (q + 1)).testBit (q + 1) = true) _ () (fun d h => by omega) (by omega) (by omega) ?_ ?_
    · rintro f i v hi hv ih
      show Ok (f_X4_doesEachDay_L2 10 (nI s) f (nI i) X) _
      unfold f_X4_doesEachDay_L2
      simp only [pw_nm, nI_1, hd]
      refine ok_ie (nI_ge hi (by omega)) (ok_bind (comes_x hIR hq (by omega) hs hk (hw i) (hX i hi)) ?_)
      rintro z rfl
      dsimp only
      by_cases c : (rx (w i) s (q + 1)).testBit (q + 1) = true
      · rw [if_pos c]
        refine ok_it ne10 (ih () (fun d h => ?_))
        by_cases e : d = i
        · rw [e]; exact c
        · exact hv d (by omega)
      · rw [if_neg c]
        refine ok_ie (fun h => h rfl) (ok_some (Or.inr ⟨rfl, fun h => c (of_decide_eq_true h i hi)⟩))
    · rintro f v hv
      show Ok (f_X4_doesEachDay_L2 10 (nI s) f (nI D) X) _
      unfold f_X4_doesEachDay_L2
      rw [hd]
      exact ok_it (nI_le (Nat.le_refl _) (by omega)) (ok_some (Or.inl ⟨rfl, decide_eq_true hv⟩))
  · rintro z (⟨rfl, h⟩ | ⟨rfl, h⟩)
    · exact ok_some (by rw [if_pos h])
    · exact ok_some (by rw [if_neg h])
theorem pw2 (q : Nat) : 2 ^ (q + 2) = 4 * 2 ^ q ∧ 2 ^ (q + 1) = 2 * 2 ^ q := by
  constructor
  · rw [Nat.pow_add, Nat.mul_comm]
  · rw [Nat.pow_add, Nat.mul_comm]
theorem few_x {X : ha_St} (hIR : IR X) {q D : Nat} {w : Nat → Nat → Nat} (hq : q ≤ 12) (hD : D ≤ 8) (hk : ha_gI X 10 1 = nI (q + 2)) (hd : ha_gI X 10 2 = nI D) (hw : ∀ d i, w d i < 2 ^ 16) (hX : ∀ d, d < D → ∀ i, i < q + 2 → ha_gA X 260 (d * (q + 2) + i) = nI (w d i)) : Ok (f_X4_fewest 10 X) (fun z => z = (nI (hb (okd w q D) (2 ^ q) (2 ^ q)), X)) := by
  unfold f_X4_fewest f_X4_fewest_J67
  obtain ⟨p2, p1⟩ := pw2 q
  have hP : 2 ^ q ≤ 4096 := Nat.pow_le_pow_right (n := 2) (by omega) hq
  have h0 : (1 : Nat) ||| (1 <<< (q + 1)) = 2 * 2 ^ q + 1 := by
    rw [Nat.or_comm, ← Nat.shiftLeft_add_eq_or_of_lt (by rw [p1]; have := Nat.two_pow_pos q; omega), Nat.one_shiftLeft, p1]
  simp only [pw_nm, hk]
  rw [n_sub1 (by omega), show (1 : Int32) = nI 1 from rfl, n_shl 1 (by omega), n_or, show q + 2 - 1 = q + 1 by omega, h0, nI_add]
  refine ok_bind (P := fun z => z = (nI (hb (okd w q D) (2 ^ q) (2 ^ q)), X)) ?_ (fun z hz => by rw [hz]; exact ok_some rfl)
  generalize hP' : 2 ^ q = P at *
  refine ok_for (fun i (v : Int32 × Int32) => (v.1, v.2, nI (2 * P + 1 + 2 * i), X)) 0 P (fun i v => v.1 = nI (hb (okd w q D) P i) ∧ v.2 = if hb (okd w q D) P i = 0 then nI (q + 2 + 1) else nI (pc (hb (okd w q D) P i) 14)) _ (0, nI (q + 2 + 1)) ⟨rfl, rfl⟩ (by omega) (by omega) ?_ ?_
  · rintro f i ⟨v1, v2⟩ hi ⟨h1, h2⟩ ih
    have h1 : v1 = nI (hb (okd w q D) P i) := h1
    have h2 : v2 = if hb (okd w q D) P i = 0 then nI (q + 2 + 1) else nI (pc (hb (okd w q D) P i) 14) := h2
    show Ok (f_X4_fewest_L23 10 f v1 v2 (nI (2 * P + 1 + 2 * i)) X) _
    unfold f_X4_fewest_L23 f_X4_fewest_L23_J61
    have hst : 2 * P + 1 + 2 * i < 2 ^ (q + 2) := by rw [p2]; omega
    have hpc : pc (2 * P + 1 + 2 * i) 14 ≤ q + 2 := by
      rw [pc_ext hst 14 (by omega)]; exact pc_le _ _
    have hpb := pc_le (hb (okd w q D) P i) 14
    simp only [pw_nm, hk]
    rw [show (1 : Int32) = nI 1 from rfl, n_shl 1 (by omega), Nat.one_shiftLeft, show (2 : Int32) = nI 2 from rfl, nI_add, bc_eq (by omega), p2]
    refine ok_ie (nI_ge (by omega) (by omega)) ?_
    simp only [pw_bs]
    have e1 : 2 * P + 1 + 2 * i + 2 = 2 * P + 1 + 2 * (i + 1) := by omega
    rw [e1]
    by_cases c : hb (okd w q D) P i = 0 ∨ pc (2 * P + 1 + 2 * i) 14 < pc (hb (okd w q D) P i) 14
    · have nl : ¬ v2 ≤ nI (pc (2 * P + 1 + 2 * i) 14) := by
        rw [h2]
        by_cases z : hb (okd w q D) P i = 0
        · rw [if_pos z]; exact nI_ge (by omega) (by omega)
        · rw [if_neg z]; exact nI_ge (c.resolve_left z) (by omega)
      refine ok_ie nl (ok_bind (each_x hIR hq hD (by omega) hk hd hw hX) ?_)
      rintro z rfl
      dsimp only
      by_cases g : okd w q D (2 * P + 1 + 2 * i) = true
      · rw [if_pos g]
        rw [hb_p c g] at ih
        exact ok_ie ne10 (ih (nI (2 * P + 1 + 2 * i), nI (pc (2 * P + 1 + 2 * i) 14)) ⟨rfl, by rw [if_neg (by omega)]⟩)
      · rw [if_neg g]
        rw [hb_n (fun h => g h.2)] at ih
        exact ok_it rfl (ih (v1, v2) ⟨h1, h2⟩)
    · have nl : v2 ≤ nI (pc (2 * P + 1 + 2 * i) 14) := by
        rw [h2, if_neg (fun z => c (Or.inl z))]
        exact nI_le (by omega) (by omega)
      rw [hb_n (fun h => c h.1)] at ih
      exact ok_it nl (ih (v1, v2) ⟨h1, h2⟩)
  · rintro f ⟨v1, v2⟩ ⟨h1, h2⟩
    have h1 : v1 = nI (hb (okd w q D) P P) := h1
    show Ok (f_X4_fewest_L23 10 f v1 v2 (nI (2 * P + 1 + 2 * P)) X) _
    unfold f_X4_fewest_L23
    rw [hk, show (1 : Int32) = nI 1 from rfl, n_shl 1 (by omega), Nat.one_shiftLeft, p2]
    exact ok_it (nI_le (by omega) (by omega)) (ok_some (by rw [h1]))
theorem comes_m {M : ha_St} (hIM : IM M) {q d s : Nat} {w : Nat → Nat} (hq : q ≤ 12) (hd : d < 8) (hs : s < 2 ^ (q + 2)) (hw : ∀ i, w i < 2 ^ 16) (hX : ∀ i, i < q + 2 → ha_gA M 82 (14 * d + i) = nI (w i &&& (2 ^ (q + 2) - 2 ^ (i + 1)))) : Ok (f_X12_comes 0 (nI (q + 2)) (nI d) (nI s) M) (fun z => z = (if (rx w s (q + 1)).testBit (q + 1) then 1 else 0, M)) := by
  unfold f_X12_comes
  have hl : mo_ln (81 + 1) = 112 := by decide +kernel
  refine ok_bind (P := fun z => z = (nI (rm w s (q + 2) (q + 2)), M)) ?_ (fun z hz => ?_)
  · refine ok_for (fun i (v : Int32) => (v, nI i, M)) 0 (q + 2) (fun i v => v = nI (rm w s (q + 2) i)) _ 1 rfl (by omega) (by omega) ?_ ?_
    · rintro f i v hi rfl ih
      show Ok (f_X12_comes_L6 0 (nI (q + 2)) (nI d) (nI s) f (nI (rm w s (q + 2) i)) (nI i) M) _
      unfold f_X12_comes_L6 f_X12_comes_L6_J42
      have hr := rm_lt (s := s) (k := q + 2) hw i
      simp only [pw_nm, nI_1]
      rw [n_bit (by omega) (by omega)]
      refine ok_ie (nI_ge (by omega) (by omega)) ?_
      by_cases c : (rm w s (q + 2) i).testBit i = true
      · rw [if_pos c]
        refine ok_ie (fun h => h rfl) (ok_b (mr hIM 81 100) ?_)
        rw [show (14 : Int32) = nI 14 from rfl, nI_mul, nI_add]
        refine ok_gd (by rw [hl]; exact n_in (by omega) (by omega)) ?_
        rw [nI_clamp (by omega), hX i (by omega), n_and, n_or]
        refine ih _ ?_
        show _ = nI (if _ then _ else _)
        rw [if_pos c]
      · rw [if_neg c]
        refine ok_it (by decide) (ih _ ?_)
        show _ = nI (if _ then _ else _)
        rw [if_neg c]
    · rintro f v rfl
      show Ok (f_X12_comes_L6 0 (nI (q + 2)) (nI d) (nI s) f (nI (rm w s (q + 2) (q + 2))) (nI (q + 2)) M) _
      unfold f_X12_comes_L6
      exact ok_it (nI_le (by omega) (by omega)) (ok_some rfl)
  · subst hz
    unfold f_X12_comes_J48 f_X12_comes_J65
    have hr := rm_lt (s := s) (k := q + 2) hw (q + 2)
    dsimp only
    rw [n_sub1 (by omega), show q + 2 - 1 = q + 1 by omega, n_bit (by omega) (by omega), rm_last, ← rx_rm hs (q + 1) (by omega) (q + 1) (Nat.le_refl _)]
    by_cases c : (rx w s (q + 1)).testBit (q + 1) = true
    · rw [if_pos c]; exact ok_ie (fun h => h rfl) (ok_gd (Or.inr rfl) (ok_some rfl))
    · rw [if_neg c]; exact ok_it (by decide) (ok_gd (Or.inl rfl) (ok_some rfl))
/-- the model's sets, one by one -/
theorem few_m {M : ha_St} (hIM : IM M) {q D : Nat} {w : Nat → Nat → Nat} (hq : q ≤ 12) (hD : D ≤ 8) (hw : ∀ d i, w d i < 2 ^ 16) (hX : ∀ d, d < D → ∀ i, i < q + 2 → ha_gA M 82 (14 * d + i) = nI (w d i &&& (2 ^ (q + 2) - 2 ^ (i + 1)))) : Ok (f_X12_hills_L144i 0 (nI (q + 2)) ha_fu (nI D, -1, 0, 0, M)) (fun z => z = ((if hb (okd w q D) (2 ^ q) (2 ^ q) = 0 then -1 else nI (pc (hb (okd w q D) (2 ^ q) (2 ^ q)) 14)), nI (hb (okd w q D) (2 ^ q) (2 ^ q)), M)) := by
  obtain ⟨p2, p1⟩ := pw2 q
  have hP : 2 ^ q ≤ 4096 := Nat.pow_le_pow_right (n := 2) (by omega) hq
  have hP0 := Nat.two_pow_pos q
  have hor : ∀ i, i < 2 ^ q → (1 ||| (i <<< 1)) ||| (1 <<< (q + 1)) = 2 * 2 ^ q + 1 + 2 * i := by
    intro i hi
    have a : (1 : Nat) ||| (i <<< 1) = 2 * i + 1 := by
      rw [Nat.or_comm, ← Nat.shiftLeft_add_eq_or_of_lt (by decide), Nat.shiftLeft_eq]; omega
    rw [a, Nat.or_comm, ← Nat.shiftLeft_add_eq_or_of_lt (by rw [p1]; omega), Nat.one_shiftLeft, p1]
    omega
  generalize hP' : 2 ^ q = P at *
  refine ok_for (fun i (v : Int32 × Int32) => (nI D, v.1, v.2, nI i, M)) 0 P (fun i v => v.2 = nI (hb (okd w q D) P i) ∧ v.1 = if hb (okd w q D) P i = 0 then -1 else nI (pc (hb (okd w q D) P i) 14)) _ (-1, 0) ⟨rfl, rfl⟩ (by omega) (by omega) ?_ ?_
  · rintro f i ⟨v1, v2⟩ hi ⟨h1, h2⟩ ih
    have h1 : v2 = nI (hb (okd w q D) P i) := h1
    have h2 : v1 = if hb (okd w q D) P i = 0 then -1 else nI (pc (hb (okd w q D) P i) 14) := h2
    show Ok (f_X12_hills_L144 0 (nI (q + 2)) f (nI D) v1 v2 (nI i) M) _
    unfold f_X12_hills_L144
    have hst : 2 * P + 1 + 2 * i < 2 ^ (q + 2) := by rw [p2]; omega
    have hpc : pc (2 * P + 1 + 2 * i) 14 ≤ q + 2 := by
      rw [pc_ext hst 14 (by omega)]; exact pc_le _ _
    have hpb := pc_le (hb (okd w q D) P i) 14
    simp only [pw_nm]
    rw [show (2 : Int32) = nI 2 from rfl, n_sub (by omega), show q + 2 - 2 = q by omega, n_sub1 (by omega), show q + 2 - 1 = q + 1 by omega, show (1 : Int32) = nI 1 from rfl, n_shl 1 (by omega), n_shl i (by omega), n_or, n_shl 1 (by omega), n_or, hor i hi, Nat.one_shiftLeft, hP']
    refine ok_ie (nI_ge (by omega) (by omega)) ?_
    have hst2 : 2 * P + 1 + 2 * i < 2 ^ 16 := by omega
    generalize hss : 2 * P + 1 + 2 * i = s at *
    refine ok_bind (P := fun z => z = (nI D, v1, v2, nI i, nI s, nI (pc s (q + 2)), M)) ?_ ?_
    · refine ok_for (fun j (v : Int32) => (nI D, v1, v2, nI i, nI s, v, nI j, M)) 0 (q + 2) (fun j v => v = nI (pc s j)) _ 0 rfl (by omega) (by omega) ?_ ?_
      · rintro f2 j v hj rfl ih2
        show Ok (f_X12_hills_L174 0 (nI (q + 2)) f2 (nI D) v1 v2 (nI i) (nI s) (nI (pc s j)) (nI j) M) _
        unfold f_X12_hills_L174
        simp only [pw_nm, nI_1]
        rw [n_bit (by omega) (by omega)]
        refine ok_ie (nI_ge hj (by omega)) (ih2 _ ?_)
        show _ = nI (pc s j + _)
        by_cases c : s.testBit j = true
        · rw [if_pos c, if_pos c, nI_1]
        · rw [if_neg c, if_neg c]; exact Int32.add_zero _
      · rintro f2 v rfl
        show Ok (f_X12_hills_L174 0 (nI (q + 2)) f2 (nI D) v1 v2 (nI i) (nI s) (nI (pc s (q + 2))) (nI (q + 2)) M) _
        unfold f_X12_hills_L174
        exact ok_it (nI_le (by omega) (by omega)) (ok_some rfl)
    rintro z rfl
    rw [← pc_ext hst 14 (by omega)]
    have days : ∀ b : Int32, (b = 0 ∨ b = 1) → Ok (f_X12_hills_L221i 0 (nI (q + 2)) ha_fu (nI D, v1, v2, nI i, nI s, nI (pc s 14), b, 0, M)) (fun z => z = (nI D, v1, v2, nI i, nI s, nI (pc s 14), (if b = 1 ∧ okd w q D s = true then 1 else 0), M)) := by
      intro b hb
      refine ok_for (fun j (v : Int32) => (nI D, v1, v2, nI i, nI s, nI (pc s 14), v, nI j, M)) 0 D (fun j v => (v = 1 ∧ b = 1 ∧ ∀ d, d < j → (rx (w d) s (q + 1)).testBit (q + 1) = true) ∨ (v = 0 ∧ ¬ (b = 1 ∧ okd w q D s = true))) _ b ?_ (by omega) (by omega) ?_ ?_
      · rcases hb with rfl | rfl
        · exact Or.inr ⟨rfl, fun h => by cases h.1⟩
        · exact Or.inl ⟨rfl, rfl, fun d h => by omega⟩
      · rintro f2 j v hj hv ih2
        show Ok (f_X12_hills_L221 0 (nI (q + 2)) f2 (nI D) v1 v2 (nI i) (nI s) (nI (pc s 14)) v (nI j) M) _
        unfold f_X12_hills_L221
        simp only [pw_nm, nI_1]
        refine ok_ie (nI_ge hj (by omega)) ?_
        rcases hv with ⟨rfl, e2, e3⟩ | ⟨rfl, e2⟩
        · refine ok_ie ne10 (ok_bind (comes_m hIM hq (by omega) hst (hw j) (hX j hj)) ?_)
          rintro z rfl
          refine ih2 _ ?_
          dsimp only
          by_cases c : (rx (w j) s (q + 1)).testBit (q + 1) = true
          · rw [if_pos c]
            refine Or.inl ⟨rfl, e2, fun d h => ?_⟩
            by_cases e : d = j
            · rw [e]; exact c
            · exact e3 d (by omega)
          · rw [if_neg c]
            exact Or.inr ⟨rfl, fun h => c (of_decide_eq_true h.2 j hj)⟩
        · exact ok_it rfl (ok_some (by rw [if_neg e2]))
      · rintro f2 v hv
        show Ok (f_X12_hills_L221 0 (nI (q + 2)) f2 (nI D) v1 v2 (nI i) (nI s) (nI (pc s 14)) v (nI D) M) _
        unfold f_X12_hills_L221
        refine ok_it (nI_le (Nat.le_refl _) (by omega)) (ok_some ?_)
        rcases hv with ⟨rfl, e2, e3⟩ | ⟨rfl, e2⟩
        · rw [if_pos ⟨e2, decide_eq_true e3⟩]
        · rw [if_neg e2]
    unfold f_X12_hills_L144_J198 f_X12_hills_L144_J211 f_X12_hills_L144_J216 f_X12_hills_L144_J249 f_X12_hills_L144_J265
    dsimp only
    simp only [pw_nm, nI_1]
    have go : Ok ((f_X12_hills_L221i 0 (nI (q + 2)) ha_fu (nI D, v1, v2, nI i, nI s, nI (pc s 14), 1, 0, M)).bind fun z => if ¬z.2.2.2.2.2.2.1 = 0 then f (z.1, z.2.2.2.2.2.1, z.2.2.2.2.1, z.2.2.2.1 + 1, z.2.2.2.2.2.2.2) else f (z.1, z.2.1, z.2.2.1, z.2.2.2.1 + 1, z.2.2.2.2.2.2.2)) (fun z => z = ((if hb (okd w q D) P P = 0 then -1 else nI (pc (hb (okd w q D) P P) 14)), nI (hb (okd w q D) P P), M)) ∨ ¬ (hb (okd w q D) P i = 0 ∨ pc s 14 < pc (hb (okd w q D) P i) 14) := by
      by_cases c : hb (okd w q D) P i = 0 ∨ pc s 14 < pc (hb (okd w q D) P i) 14
      · refine Or.inl (ok_bind (days 1 (Or.inr rfl)) ?_)
        rintro z rfl
        dsimp only
        rw [nI_1]
        by_cases g : okd w q D s = true
        · rw [if_pos (show (1 : Int32) = 1 ∧ okd w q D s = true from ⟨rfl, g⟩)]
          rw [hb_p (by rw [hss]; exact c) (by rw [hss]; exact g), hss] at ih
          exact ok_it ne10 (ih (nI (pc s 14), nI s) ⟨rfl, by rw [if_neg (by omega)]⟩)
        · rw [if_neg (show ¬ ((1 : Int32) = 1 ∧ okd w q D s = true) from fun h => g h.2)]
          rw [hb_n (by rw [hss]; exact fun h => g h.2)] at ih
          exact ok_ie (fun h => h rfl) (ih (v1, v2) ⟨h1, h2⟩)
      · exact Or.inr c
    by_cases c : hb (okd w q D) P i = 0 ∨ pc s 14 < pc (hb (okd w q D) P i) 14
    · have go := go.resolve_right (fun h => h c)
      by_cases z : hb (okd w q D) P i = 0
      · rw [if_pos z] at h2
        exact ok_it h2 go
      · rw [if_neg z] at h2
        refine ok_ie (by rw [h2]; exact n_m1 (by omega)) (ok_ie ?_ go)
        rw [h2]; exact nI_ge (c.resolve_left z) (by omega)
    · have z : ¬ hb (okd w q D) P i = 0 := fun z => c (Or.inl z)
      rw [if_neg z] at h2
      refine ok_ie (by rw [h2]; exact n_m1 (by omega)) (ok_it (by rw [h2]; exact nI_le (by omega) (by omega)) (ok_bind (days 0 (Or.inl rfl)) ?_))
      rintro z rfl
      dsimp only
      rw [nI_1, if_neg (show ¬ ((0 : Int32) = 1 ∧ okd w q D s = true) from fun h => absurd h.1 (by decide))]
      rw [hb_n (by rw [hss]; exact fun h => c h.1)] at ih
      exact ok_ie (fun h => h rfl) (ih (v1, v2) ⟨h1, by rw [if_neg z]; exact h2⟩)
  · rintro f ⟨v1, v2⟩ ⟨h1, h2⟩
    have h1 : v2 = nI (hb (okd w q D) P P) := h1
    have h2 : v1 = if hb (okd w q D) P P = 0 then -1 else nI (pc (hb (okd w q D) P P) 14) := h2
    show Ok (f_X12_hills_L144 0 (nI (q + 2)) f (nI D) v1 v2 (nI P) M) _
    unfold f_X12_hills_L144
    rw [show (2 : Int32) = nI 2 from rfl, n_sub (by omega), show q + 2 - 2 = q by omega, show (1 : Int32) = nI 1 from rfl, n_shl 1 (by omega), Nat.one_shiftLeft, hP']
    exact ok_it (nI_le (Nat.le_refl _) (by omega)) (ok_some (by rw [h1, h2]; rfl))
theorem byt {f : Nat → Int32} {b : Nat → Nat} (hf : ∀ j, f j = nI (b j)) (hb : ∀ j, b j ≤ 255) (i : Nat) : wt b i < 2 ^ 16 := by
  have h1 := hb (2 * i)
  have h2 := hb (2 * i + 1)
  show 256 * b (2 * i) + b (2 * i + 1) < 65536
  omega
theorem take_xL {X : ha_St} (hIR : IR X) {k D N : Nat} {b : Nat → Nat} (hk : k ≤ 14) (hN : D * k = N) (hN2 : N ≤ 112) (hd : ha_gI X 10 2 = nI D) (hf : ∀ j, ha_gA X 116 j = nI (b j)) (hb : ∀ j, b j ≤ 255) : Ok (f_X4_take_L65i 10 1 (nI k) ha_fu (0, X)) (fun z => ∃ h, z = ha_sA X 260 h ∧ ∀ i, i < N → h i = nI (wt b i)) := by
  have h7 : xo_ln 116 = 440 ∧ xo_ln 260 = 112 := by decide +kernel
  refine ok_for (fun i (S : ha_St) => (nI i, S)) 0 N (fun i S => ∃ h, S = ha_sA X 260 h ∧ ∀ j, j < i → h j = nI (wt b j)) _ X ⟨_, (st_self X 260).symm, fun j h => by omega⟩ (by omega) (by omega) ?_ ?_
  · rintro f i S hi ⟨h, rfl, hh⟩ ih
    show Ok (f_X4_take_L65 10 1 (nI k) f (nI i) (ha_sA X 260 h)) _
    unfold f_X4_take_L65
    simp only [pw_nm, nI_1, st_IA, st_fA, hd]
    rw [nI_mul, hN, show (2 : Int32) = nI 2 from rfl, nI_mul, nI_1]
    refine ok_ie (nI_ge hi (by omega)) (ok_b (xr hIR 10 0 100 260) (ok_b (xr hIR 1 0 100 116) (ok_gd (by rw [h7.1]; exact n_in (by omega) (by omega)) (ok_b (xr hIR 1 0 100 116) (ok_gd (by rw [h7.1]; exact n_in (by omega) (by omega)) (ok_gd (by rw [h7.2]; exact n_in (by omega) (by omega)) ?_))))))
    refine ih _ ⟨_, st_sAA _ _ _ _, fun j hj => ?_⟩
    rw [nI_clamp (show i < 2 ^ 31 by omega), nI_clamp (show 2 * i < 2 ^ 31 by omega), nI_clamp (show 2 * i + 1 < 2 ^ 31 by omega)]
    show upd h i (ha_gA X 116 (2 * i) <<< ((8 : Int32) &&& 31) ||| ha_gA X 116 (2 * i + 1)) j = _
    by_cases e : j = i
    · subst e
      rw [pk_us, hf, hf, show (8 : Int32) = nI 8 from rfl, n_shl _ (by omega), n_or, ← Nat.shiftLeft_add_eq_or_of_lt (by have := hb (2 * j + 1); omega), Nat.shiftLeft_eq]
      show nI (b (2 * j) * 2 ^ 8 + b (2 * j + 1)) = nI (256 * b (2 * j) + b (2 * j + 1))
      congr 1; omega
    · rw [pk_un e]; exact hh j (by omega)
  · rintro f S ⟨h, rfl, hh⟩
    show Ok (f_X4_take_L65 10 1 (nI k) f (nI N) (ha_sA X 260 h)) _
    unfold f_X4_take_L65
    simp only [st_IA, hd]
    rw [nI_mul, hN]
    exact ok_it (nI_le (Nat.le_refl _) (by omega)) (ok_some ⟨h, rfl, hh⟩)
theorem sees_m {M : ha_St} (hIM : IM M) {k D : Nat} {b : Nat → Nat} (hk : k ≤ 14) (hD : D ≤ 8) (hf : ∀ j, ha_gA M 2 j = nI (b j)) : Ok (f_X12_hills_L54i 0 (nI k) ha_fu (nI D, 0, M)) (fun z => ∃ h, z = (nI D, ha_sA M 82 h) ∧ ∀ d, d < D → ∀ i, i < k → h (14 * d + i) = nI (wt b (d * k + i) &&& (2 ^ k - 2 ^ (i + 1)))) := by
  have h7 : mo_ln (1 + 1) = 440 ∧ mo_ln (81 + 1) = 112 := by decide +kernel
  refine ok_for (fun d (S : ha_St) => (nI D, nI d, S)) 0 D (fun d S => ∃ h, S = ha_sA M 82 h ∧ ∀ e, e < d → ∀ i, i < k → h (14 * e + i) = nI (wt b (e * k + i) &&& (2 ^ k - 2 ^ (i + 1)))) _ M ⟨_, (st_self M 82).symm, fun j h => by omega⟩ (by omega) (by omega) ?_ ?_
  · rintro f d S hd ⟨h, rfl, hh⟩ ih
    show Ok (f_X12_hills_L54 0 (nI k) f (nI D) (nI d) (ha_sA M 82 h)) _
    unfold f_X12_hills_L54 f_X12_hills_L54_J129
    refine ok_ie (nI_ge hd (by omega)) (ok_bind (P := fun z => ∃ h, z = (nI D, nI d, ha_sA M 82 h) ∧ ∀ e, e < d + 1 → ∀ i, i < k → h (14 * e + i) = nI (wt b (e * k + i) &&& (2 ^ k - 2 ^ (i + 1)))) ?_ ?_)
    · refine ok_for (fun i (S : ha_St) => (nI D, nI d, nI i, S)) 0 k (fun j S => ∃ h, S = ha_sA M 82 h ∧ (∀ e, e < d → ∀ i, i < k → h (14 * e + i) = nI (wt b (e * k + i) &&& (2 ^ k - 2 ^ (i + 1)))) ∧ ∀ i, i < j → h (14 * d + i) = nI (wt b (d * k + i) &&& (2 ^ k - 2 ^ (i + 1)))) _ _ ⟨h, rfl, hh, fun i h => by omega⟩ (by omega) (by omega) ?_ ?_
      · rintro f2 i S hi ⟨h, rfl, hh, hj⟩ ih2
        show Ok (f_X12_hills_L63 0 (nI k) f2 (nI D) (nI d) (nI i) (ha_sA M 82 h)) _
        unfold f_X12_hills_L63
        have hdk : d * k ≤ 7 * 14 := Nat.mul_le_mul (by omega) hk
        simp only [pw_nm, nI_1, st_fA]
        rw [nI_mul, nI_add, show (2 : Int32) = nI 2 from rfl, nI_mul, nI_1, show (14 : Int32) = nI 14 from rfl, nI_mul, nI_add, show (1 : Int32) = nI 1 from rfl, n_shl 1 (by omega), n_shl 2 (by omega), Nat.mul_comm k d]
        refine ok_ie (nI_ge hi (by omega)) (ok_b (mr hIM 81 100) (ok_b (mr hIM 1 100) (ok_gd (by rw [h7.1]; exact n_in (by omega) (by omega)) (ok_b (mr hIM 1 100) (ok_gd (by rw [h7.1]; exact n_in (by omega) (by omega)) (ok_gd (by rw [h7.2]; exact n_in (by omega) (by omega)) ?_))))))
        rw [nI_clamp (show 14 * d + i < 2 ^ 31 by omega), nI_clamp (show 2 * (d * k + i) < 2 ^ 31 by omega), nI_clamp (show 2 * (d * k + i) + 1 < 2 ^ 31 by omega)]
        have hv : nI 256 * ha_gA M 2 (2 * (d * k + i)) + ha_gA M 2 (2 * (d * k + i) + 1) &&& nI (1 <<< k) - nI (2 <<< i) = nI (wt b (d * k + i) &&& (2 ^ k - 2 ^ (i + 1))) := by
          have e2 : 2 <<< i = 2 ^ (i + 1) := by rw [Nat.shiftLeft_eq, Nat.pow_succ, Nat.mul_comm]
          have e3 : 2 ^ (i + 1) ≤ 2 ^ k := Nat.pow_le_pow_right (by omega) hi
          rw [hf, hf, nI_mul, nI_add, Nat.one_shiftLeft, e2, n_sub e3, n_and]
          rfl
        refine ih2 _ ⟨upd h (14 * d + i) (nI (wt b (d * k + i) &&& (2 ^ k - 2 ^ (i + 1)))), ?_, fun e he j hj2 => ?_, fun j hj2 => ?_⟩
        · rw [← hv]
          exact st_sAA M 82 h _
        · rw [pk_un (by omega)]; exact hh e he j hj2
        · by_cases q : j = i
          · rw [q, pk_us]
          · rw [pk_un (by omega)]; exact hj j (by omega)
      · rintro f2 S ⟨h, rfl, hh, hj⟩
        show Ok (f_X12_hills_L63 0 (nI k) f2 (nI D) (nI d) (nI k) (ha_sA M 82 h)) _
        unfold f_X12_hills_L63
        refine ok_it (nI_le (Nat.le_refl _) (by omega)) (ok_some ⟨h, rfl, fun e he i hi => ?_⟩)
        by_cases q : e = d
        · rw [q]; exact hj i hi
        · exact hh e (by omega) i hi
    · rintro z ⟨h, rfl, hh⟩
      dsimp only
      simp only [pw_nm, nI_1]
      exact ih _ ⟨h, rfl, hh⟩
  · rintro f S ⟨h, rfl, hh⟩
    show Ok (f_X12_hills_L54 0 (nI k) f (nI D) (nI D) (ha_sA M 82 h)) _
    unfold f_X12_hills_L54
    exact ok_it (nI_le (Nat.le_refl _) (by omega)) (ok_some ⟨h, rfl, hh⟩)
theorem inv_hx {X M : ha_St} (hI : Inv X M) (u v : Int32) (h h' : Nat → Int32) : Inv (ha_sI (ha_sA (ha_sI (ha_sI X 10 1 u) 10 2 v) 260 h) 1 1 0) (ha_sA (ha_sI M 0 2 0) 82 h') := by
  obtain ⟨hIR, hIB, hIM, hI1, hI2, hI3, hI4, hI5, hI6, hI7, hI8, hI9, hI10, hI11, hI13, hI14⟩ := hI
  obtain ⟨e1, e2, e3, e4, e5⟩ := hI1
  exact ⟨IR_c (X := X) rfl hIR, IB_c (X := X) rfl rfl rfl hIB, IM_c (M := M) rfl hIM, ⟨rfl, by show (0 : Int) ≤ (0 : Int32).toInt; decide, by show (0 : Int32).toInt ≤ 440; decide, e4, e5⟩, I2_c (X := X) (M := M) rfl rfl rfl rfl hI2, I3_c (X := X) (M := M) rfl rfl rfl rfl hI3, I4_c (X := X) (M := M) rfl rfl rfl rfl rfl rfl hI4, I5_c (X := X) (M := M) (fun p j h1 h2 => by (try simp only [st_II, st_IA, st_IR, st_IB]); (repeat rw [if_neg (by omega)])) (fun a h1 h2 => by (try simp only [st_AI, st_AA, st_AR, st_AB]); (repeat rw [if_neg (by omega)])) rfl rfl (fun _ _ => rfl) rfl rfl rfl rfl rfl rfl rfl rfl rfl hI5, I6_c (X := X) (M := M) rfl rfl rfl rfl rfl rfl hI6, I7_c (X := X) (M := M) rfl rfl rfl rfl rfl rfl rfl rfl rfl rfl rfl rfl rfl rfl rfl rfl rfl rfl rfl rfl rfl rfl hI7, I8_c (X := X) (M := M) rfl rfl rfl rfl rfl rfl hI8, I9_c (X := X) (M := M) rfl rfl rfl rfl rfl rfl rfl hI9, I10_c (X := X) (M := M) rfl rfl rfl rfl hI10, I11_c (X := X) (M := M) rfl rfl rfl rfl rfl rfl rfl hI11, I13_c (X := X) (M := M) rfl rfl rfl rfl rfl rfl rfl rfl rfl rfl rfl rfl hI13, I14_c (X := X) (M := M) rfl rfl rfl (fun i => by (try simp only [st_AI, st_AA, st_AR, st_AB]); (repeat rw [if_neg (by omega)])) rfl rfl rfl rfl hI14⟩
theorem inv_hs {X M : ha_St} (hI : Inv X M) (v : Int32) : Inv (ha_sI X 0 16 v) (ha_sI M 0 82 v) := by
  obtain ⟨hIR, hIB, hIM, hI1, hI2, hI3, hI4, hI5, hI6, hI7, hI8, hI9, hI10, hI11, hI13, hI14⟩ := hI
  exact ⟨IR_c (X := X) rfl hIR, IB_c (X := X) rfl rfl rfl hIB, IM_c (M := M) rfl hIM, I1_c (X := X) (M := M) rfl rfl rfl rfl hI1, I2_c (X := X) (M := M) rfl rfl rfl rfl hI2, I3_c (X := X) (M := M) rfl rfl rfl rfl hI3, I4_c (X := X) (M := M) rfl rfl rfl rfl rfl rfl hI4, I5_c (X := X) (M := M) (fun p j h1 h2 => by (try simp only [st_II, st_IA, st_IR, st_IB]); (repeat rw [if_neg (by omega)])) (fun a h1 h2 => by (try simp only [st_AI, st_AA, st_AR, st_AB]); (repeat rw [if_neg (by omega)])) rfl rfl (fun _ _ => rfl) rfl rfl rfl rfl rfl rfl rfl rfl rfl hI5, ⟨hI6.1, hI6.2.1, rfl⟩, I7_c (X := X) (M := M) rfl rfl rfl rfl rfl rfl rfl rfl rfl rfl rfl rfl rfl rfl rfl rfl rfl rfl rfl rfl rfl rfl hI7, I8_c (X := X) (M := M) rfl rfl rfl rfl rfl rfl hI8, I9_c (X := X) (M := M) rfl rfl rfl rfl rfl rfl rfl hI9, I10_c (X := X) (M := M) rfl rfl rfl rfl hI10, I11_c (X := X) (M := M) rfl rfl rfl rfl rfl rfl rfl hI11, I13_c (X := X) (M := M) rfl rfl rfl rfl rfl rfl rfl rfl rfl rfl rfl rfl hI13, I14_c (X := X) (M := M) rfl rfl rfl (fun i => by (try simp only [st_AI, st_AA, st_AR, st_AB]); (repeat rw [if_neg (by omega)])) rfl rfl rfl rfl hI14⟩
theorem e_hills {X M : ha_St} (hI : Inv X M) (v : Int32) : Agr (f_X11_hills 0 v X) (f_X12_hills 0 v M) := by
  have hI := inv_thr 0 hI
  have hT := hI
  obtain ⟨hIR, hIB, hIM, hI1, hI2, hI3, hI4, hI5, hI6, hI7, hI8, hI9, hI10, hI11, hI13, hI14⟩ := hI
  obtain ⟨e1, e2, e3, e4, e5⟩ := hI1
  unfold f_X11_hills f_X12_hills f_X12_take f_X12_hills_J42
  generalize ha_sI M 0 0 0 = M at *
  have hT0 := inv_tp hT 0 (by decide) (by decide)
  obtain ⟨s, s4, hs⟩ := n_of (N := 440) e2 e3
  have hsX : ha_gI X 1 1 = nI s := e1.trans hs
  have hIM0 : IM (ha_sI M 0 2 0) := IM_c (M := M) rfl hIM
  have no : Agr (some (-2, ha_sI X 1 1 0)) (some (-2, ha_sI M 0 2 0)) := agr_mk rfl hT0
  simp only [pw_nm, pw_bs, xr hIR 0 0 10 1, xr hIR 0 10 4 10, hs, isIn_eq]
  unfold f_X4_take f_X4_take_J11 f_X4_take_J49 f_X4_take_J113
  simp only [pw_nm, hsX]
  by_cases c1 : v < 3
  · rw [pw_it c1, if_pos (Or.inl c1)]
    simp only [pw_bs, n_00, not_true_eq_false, if_true, if_false, xr hIR 0 0 10 1]
    exact no
  · rw [pw_ie c1]
    by_cases c2 : v ≤ 14
    · rw [pw_it c2]
      rw [i_lt, z_3] at c1
      rw [i_le, show (14 : Int32).toInt = 14 from rfl] at c2
      obtain ⟨k, k4, rfl⟩ := n_of (N := 14) (show 0 ≤ v.toInt by omega) c2
      rw [nI_toInt (by omega)] at c1
      rw [if_neg (show ¬ (nI k < 3 ∨ 14 < nI k) from fun h => by
        rcases h with h | h
        · rw [i_lt, nI_toInt (by omega), z_3] at h; omega
        · rw [i_lt, nI_toInt (by omega), show (14 : Int32).toInt = 14 from rfl] at h; omega)]
      rw [show (2 : Int32) = nI 2 from rfl, nI_mul, n_div (by omega) (by omega) (by omega), nI_mul]
      have hq : s / (2 * k) ≤ s := Nat.div_le_self _ _
      have hm : s / (2 * k) * (2 * k) ≤ s := Nat.div_mul_le_self _ _
      have hz : ¬ nI (2 * k) = 0 := nI_ne0 (by omega) (by omega)
      rw [n_sub hm, pw_gd hz, pw_gd hz, pw_gd hz]
      simp only [n_10, if_false]
      generalize hD : s / (2 * k) = D at *
      generalize hDk : D * (2 * k) = N at *
      have hN : N ≤ s := by omega
      by_cases c3 : D < 1
      · rw [pw_it (show nI D < 1 from nI_lt (b := 1) c3 (by omega))]
        simp only [pw_bs, n_00, not_true_eq_false, if_false, xr hIR 0 0 10 1]
        by_cases c4 : nI (s - N) = 0
        · rw [pw_ie (fun h => h c4), if_pos (Or.inl (show nI D < 1 from nI_lt (b := 1) c3 (by omega)))]
          exact no
        · rw [pw_it c4]; exact no
      · rw [pw_ie (show ¬ nI D < 1 from nI_nlt (b := 1) (by omega) (by omega))]
        by_cases c5 : 8 < D
        · rw [pw_it (show 8 < nI D from nI_lt (a := 8) c5 (by omega))]
          simp only [pw_bs, n_00, not_true_eq_false, if_false, xr hIR 0 0 10 1]
          by_cases c4 : nI (s - N) = 0
          · rw [pw_ie (fun h => h c4), if_pos (Or.inr (show 8 < nI D from nI_lt (a := 8) c5 (by omega)))]
            exact no
          · rw [pw_it c4]; exact no
        · rw [pw_ie (show ¬ 8 < nI D from nI_nlt (a := 8) (by omega) (by omega))]
          rw [if_neg (show ¬ (nI D < 1 ∨ 8 < nI D) from fun h => h.elim (nI_nlt (b := 1) (by omega) (by omega)) (nI_nlt (a := 8) (by omega) (by omega)))]
          by_cases c4 : N = s
          · rw [pw_it (by rw [c4]), pw_ie (show ¬ ¬ nI (s - N) = 0 from fun h => h (by rw [c4, Nat.sub_self]; rfl))]
            simp only [n_10, not_false_eq_true, if_true]
            obtain ⟨q, rfl⟩ : ∃ q, k = q + 2 := ⟨k - 2, by omega⟩
            have hDq : D * (q + 2) ≤ 8 * 14 := Nat.mul_le_mul (by omega) (by omega)
            have hby : ∀ j, ha_gA X 116 j = nI ((ha_gA X 116 j).toInt.toNat) := fun j => nI_ofI (by rw [e4]; exact (e5 j).1)
            have hbl : ∀ j, (ha_gA X 116 j).toInt.toNat ≤ 255 := fun j => by have := (e5 j).2; rw [e4]; omega
            generalize hbb : (fun j => (ha_gA X 116 j).toInt.toNat) = b at *
            have hby : ∀ j, ha_gA X 116 j = nI (b j) := fun j => by rw [← hbb]; exact hby j
            have hbl : ∀ j, b j ≤ 255 := fun j => by rw [← hbb]; exact hbl j
            obtain ⟨z, ez, h, rfl, hh⟩ := take_xL (X := ha_sI (ha_sI X 10 1 (nI (q + 2))) 10 2 (nI D)) (IR_c (X := X) rfl hIR) (k := q + 2) (D := D) (b := b) (by omega) rfl (by omega) rfl hby hbl
            obtain ⟨w, ew, h', rfl, hh'⟩ := sees_m hIM0 (k := q + 2) (D := D) (b := b) (by omega) (by omega) (fun j => by rw [← hby j]; exact (congrFun e4 j).symm)
            rw [ez, ew]
            have hw : ∀ d i, (fun d i => wt b (d * (q + 2) + i)) d i < 2 ^ 16 := fun d i => byt hby hbl _
            have hT2 := inv_hx hT (nI (q + 2)) (nI D) h h'
            simp only [pw_bs, st_fI, st_fA, xr hIR 0 0 10 1, n_10, not_false_eq_true, if_true, xr hIR 0 10 4 10]
            have fx := few_x (X := ha_sI (ha_sA (ha_sI (ha_sI X 10 1 (nI (q + 2))) 10 2 (nI D)) 260 h) 1 1 0) (q := q) (D := D) hT2.1 (by omega) (by omega) rfl rfl hw (fun d hd i hi => hh _ (by
              have : (d + 1) * (q + 2) ≤ D * (q + 2) := Nat.mul_le_mul_right _ hd
              rw [Nat.add_mul] at this
              omega))
            have fm := few_m (M := ha_sA (ha_sI M 0 2 0) 82 h') (q := q) (D := D) hT2.2.2.1 (by omega) (by omega) hw hh'
            unfold f_X12_hills_J135 f_X12_hills_J271 f_X12_hills_J283
            rw [ok_eq fx, ok_eq fm, pw_gd hz]
            simp only [pw_bs, pw_nm]
            have hP : 2 ^ q ≤ 4096 := Nat.pow_le_pow_right (n := 2) (by omega) (show q ≤ 12 by omega)
            have hbu := hb_lt (g := okd (fun d i => wt b (d * (q + 2) + i)) q D) (P := 2 ^ q) (Nat.two_pow_pos q) (2 ^ q) (Nat.le_refl _)
            generalize hb (okd (fun d i => wt b (d * (q + 2) + i)) q D) (2 ^ q) (2 ^ q) = B at *
            by_cases b0 : B = 0
            · subst b0
              rw [if_pos rfl, pw_it rfl, pw_ie (fun h => h rfl)]
              exact agr_mk rfl hT2
            · rw [if_neg b0, pw_ie (n_m1 (by have := pc_le B 14; omega)), pw_it (nI_ne0 (by omega) (by omega)), bc_eq (by omega)]
              simp only [pw_bs]
              exact agr_mk rfl (inv_hs hT2 (nI B))
          · rw [pw_ie (fun h => c4 ((nI_eq (by omega) (by omega)).mp h)), pw_it (nI_ne0 (by omega) (by omega))]
            simp only [pw_bs, n_00, not_true_eq_false, if_false, xr hIR 0 0 10 1]
            exact no
    · rw [pw_ie c2]
      have : 14 < v := by rw [i_le] at c2; rw [i_lt]; omega
      rw [if_pos (Or.inr this)]
      simp only [pw_bs, n_00, not_true_eq_false, if_true, if_false, xr hIR 0 0 10 1]
      exact no
