/-! SMALL: sums over the texts -/
theorem vtb_cg {ft ft' : Nat → Nat → Bool} {ln : Nat → Nat} {E N : Nat} (h : ∀ e p, e < E → p < N → ft e p = ft' e p) : ∀ r p, vtb ft ln E N r p = vtb ft' ln E N r p
  | 0, _ => rfl
  | r + 1, p => by
    have ih := vtb_cg (ln := ln) h r
    show (if p + (r + 1) = N then vst ft ln (vtb ft ln E N r) p E else vtb ft ln E N r p) = (if p + (r + 1) = N then vst ft' ln (vtb ft' ln E N r) p E else vtb ft' ln E N r p)
    by_cases c : p + (r + 1) = N
    · rw [if_pos c, if_pos c]
      have := vst_cg (ft := ft) (ft' := ft') (ln := ln) (t := vtb ft ln E N r) (t' := vtb ft' ln E N r) (p := p) (p' := p) (C := 0) (by rw [ih]; omega) (E := E) (fun e he => h e p he (by omega)) (fun e _ _ => by rw [ih]; omega)
      omega
    · rw [if_neg c, if_neg c, ih]
theorem vv_cg {ft ft' : Nat → Nat → Bool} {ln : Nat → Nat} {E N : Nat} (h : ∀ e p, e < E → p < N → ft e p = ft' e p) (p : Nat) : vv ft ln E N p = vv ft' ln E N p := vtb_cg h N p
theorem vv_none {ft : Nat → Nat → Bool} {ln : Nat → Nat} {E N : Nat} (h : ∀ e p, e < E → ¬ ft e p = true) : ∀ k p, p + k = N → vv ft ln E N p = 0
  | 0, p, hp => vv_N _ _ _ _ _ (by omega)
  | k + 1, p, hp => by
    rw [vv_s (by omega) (fun e he c => absurd c (h e p he))]
    have := vst_skip (ft := ft) (ln := ln) (t := vv ft ln E N) (p := p) (e := 0) E (fun x _ hx => h x p (by omega))
    rw [Nat.zero_add] at this
    rw [this]
    show vv ft ln E N (p + 1) = 0
    exact vv_none h k (p + 1) (by omega)
theorem bgB_cg {f f' : Nat → Int32} {s : Nat} {en : Nat → Int32} {ln : Nat → Nat} {e i : Nat} (h : ∀ j, j < s → f j = f' j) (hi : i < s) : bgB f s en ln e i = bgB f' s en ln e i := by
  rw [Bool.eq_iff_iff]
  unfold bgB
  rw [decide_eq_true_eq, decide_eq_true_eq]
  have a : f (i - 1) = f' (i - 1) := h _ (by omega)
  rw [a]
  constructor
  · rintro ⟨b1, b2, b3, b4⟩
    refine ⟨b1, b2, ?_, fun x hx => by rw [← h _ (by omega)]; exact b4 x hx⟩
    by_cases c : i + ln e = s
    · exact Or.inl c
    · right
      rw [← h _ (by omega)]
      exact b3.resolve_left c
  · rintro ⟨b1, b2, b3, b4⟩
    refine ⟨b1, b2, ?_, fun x hx => by rw [h _ (by omega)]; exact b4 x hx⟩
    by_cases c : i + ln e = s
    · exact Or.inl c
    · right
      rw [h _ (by omega)]
      exact b3.resolve_left c
/-- entries of a set that begin at a place of the year's text y -/
def tfB (M : ha_St) (y set : Nat) (e i : Nat) : Bool := bgB (fun j => ha_gA M 66 (60 * y + j)) (ha_gA M 67 y).toInt.toNat (ha_gA M 64) (lnM M) e i && set.testBit e
/-- what text y saves, what it takes -/
def svY (M : ha_St) (E set y : Nat) : Int := vv (tfB M y set) (lnM M) E (ha_gA M 67 y).toInt.toNat 0
def csY (M : ha_St) (E set : Nat) : Nat → Int
  | 0 => 0
  | y + 1 => csY M E set y + ((ha_gA M 67 y).toInt.toNat - svY M E set y)
theorem tf_l {M : ha_St} {E y set : Nat} (hB : Bk M E (lnM M)) : ∀ p e, p < (ha_gA M 67 y).toInt.toNat → e < E → tfB M y set e p = true → 1 ≤ lnM M e ∧ p + lnM M e ≤ (ha_gA M 67 y).toInt.toNat := by
  intro p e _ he h
  refine ⟨(hB.2.2 e he).2.1, ?_⟩
  unfold tfB bgB at h
  rw [Bool.and_eq_true, decide_eq_true_eq] at h
  exact h.1.1
theorem svY_r {M : ha_St} {E set y : Nat} (hB : Bk M E (lnM M)) : 0 ≤ svY M E set y ∧ svY M E set y ≤ (ha_gA M 67 y).toInt.toNat := by
  have hl := tf_l (y := y) (set := set) hB
  refine ⟨vv_0 (fun p e a b c => (hl p e a b c).1) 0, ?_⟩
  exact vv_ub hl _ 0 (by omega)
theorem csY_mono {M : ha_St} {E set : Nat} (hB : Bk M E (lnM M)) (y : Nat) : ∀ k, csY M E set y ≤ csY M E set (y + k)
  | 0 => Int.le_refl _
  | k + 1 => by
    have := csY_mono (set := set) hB y k
    have := svY_r (set := set) (y := y + k) hB
    show _ ≤ csY M E set (y + k) + (((ha_gA M 67 (y + k)).toInt.toNat : Int) - svY M E set (y + k))
    omega
theorem csY_r {M : ha_St} {E set : Nat} (hB : Bk M E (lnM M)) : ∀ y, (∀ j, j < y → (ha_gA M 67 j).toInt ≤ 60) → 0 ≤ csY M E set y ∧ csY M E set y ≤ 60 * y
  | 0, _ => ⟨Int.le_refl _, Int.le_refl _⟩
  | y + 1, h => by
    have := csY_r (set := set) hB y (fun j hj => h j (by omega))
    have := svY_r (set := set) (y := y) hB
    have := h y (by omega)
    show 0 ≤ csY M E set y + _ ∧ csY M E set y + _ ≤ _
    omega
theorem csY_cg {M : ha_St} {E a b : Nat} : ∀ k, (∀ y, y < k → svY M E a y = svY M E b y) → csY M E a k = csY M E b k
  | 0, _ => rfl
  | k + 1, h => by
    show csY M E a k + _ = csY M E b k + _
    rw [csY_cg k (fun y hy => h y (by omega)), h k (by omega)]
/-! the year's pages -/
def offY (M : ha_St) (y : Nat) : Nat := tsz (ha_gA M 67) y + y
theorem year_at {X M : ha_St} (h : I11 X M) {k : Nat} (hk : ha_gI M 0 68 = nI k) (hk8 : k ≤ 8) : ha_gI X 8 4 = nI (offY M k) ∧ ha_gI X 8 7 = nI (tsz (ha_gA M 67) k) ∧ offY M k ≤ 488 ∧ (∀ y, y < k → (ha_gA M 67 y).toInt ≤ 60) ∧ ∀ y, y < k → At (ha_gA X 228) (offY M k) (offY M y) (fun j => ha_gA M 66 (60 * y + j)) (ha_gA M 67 y).toInt.toNat := by
  obtain ⟨d1, d2, d3, d4, d5, d6⟩ := h
  rw [hk, n_tn (by omega)] at d4 d5
  have dd := fun y (hy : y < k) => d6 y (by rw [hk, nI_toInt (by omega)]; omega)
  have le : tsz (ha_gA M 67) k ≤ 60 * k := tsz_le (b := 60) (fun y hy => (dd y hy).2.1)
  refine ⟨d4, d5, by unfold offY; omega, fun y hy => (dd y hy).2.1, fun y hy => ?_⟩
  obtain ⟨f1, f2, f3, f4, f5⟩ := dd y hy
  have l2 := tsz_lt (f := ha_gA M 67) hy
  refine ⟨fun i hi => f4 i (by omega), f5, by unfold offY; omega, ?_, f3⟩
  by_cases y0 : y = 0
  · subst y0; exact Or.inl rfl
  · right
    obtain ⟨x, rfl⟩ : ∃ x, y = x + 1 := ⟨y - 1, by omega⟩
    have q := (dd x (by omega)).2.2.2.2
    have e : offY M (x + 1) - 1 = tsz (ha_gA M 67) x + x + (ha_gA M 67 x).toInt.toNat := by
      show tsz (ha_gA M 67) x + _ + (x + 1) - 1 = _
      omega
    rw [e, q]; exact lB_0
theorem off_s (M : ha_St) (y : Nat) : offY M (y + 1) = offY M y + (ha_gA M 67 y).toInt.toNat + 1 := by
  show tsz (ha_gA M 67) y + (ha_gA M 67 y).toInt.toNat + (y + 1) = tsz (ha_gA M 67) y + y + (ha_gA M 67 y).toInt.toNat + 1
  omega
theorem off_ex (M : ha_St) : ∀ k p, p < offY M k → ∃ y i, y < k ∧ i ≤ (ha_gA M 67 y).toInt.toNat ∧ p = offY M y + i
  | 0, p, h => absurd h (Nat.not_lt_zero _)
  | k + 1, p, h => by
    by_cases c : p < offY M k
    · obtain ⟨y, i, h1, h2, h3⟩ := off_ex M k p c
      exact ⟨y, i, by omega, h2, h3⟩
    · rw [off_s] at h
      exact ⟨k, p - offY M k, by omega, by omega, by omega⟩
theorem year_cap {g : Nat → Int32} {M : ha_St} {k N : Nat} (hk8 : k ≤ 8) (h6 : ∀ y, y < k → (ha_gA M 67 y).toInt ≤ 60) (hA : ∀ y, y < k → At g N (offY M y) (fun j => ha_gA M 66 (60 * y + j)) (ha_gA M 67 y).toInt.toNat) : (∀ y, y ≤ k → wc g (offY M y) ≤ 30 * y) ∧ ∀ p, p < offY M k → wsB g p = true → wc g p < 240 := by
  have w : ∀ y, y ≤ k → wc g (offY M y) ≤ 30 * y := by
    intro y
    induction y with
    | zero => intro _; exact Nat.zero_le _
    | succ y ih =>
      intro hy
      have := ih (by omega)
      have := (at_cap (hA y (by omega)) (by have := h6 y (by omega); omega)).2
      rw [off_s]
      omega
  refine ⟨w, fun p hp hw => ?_⟩
  obtain ⟨y, i, h1, h2, rfl⟩ := off_ex M k p hp
  have := (at_cap (hA y h1) (by have := h6 y h1; omega)).1 i h2 hw
  have := w y (by omega)
  omega
/-- the fits on the page are those in the texts -/
theorem year_fit {T M : ha_St} {E k y e i : Nat} (hA : At (ha_gA T 228) (offY M k) (offY M y) (fun j => ha_gA M 66 (60 * y + j)) (ha_gA M 67 y).toInt.toNat) (hB : BkX T E (lnM M)) (hen : ∀ e, e < E → ∀ x, x < lnM M e → ha_gA T 196 (12 * e + x) = ha_gA M 64 (12 * e + x)) (he : e < E) (hi : i < (ha_gA M 67 y).toInt.toNat) : pfB (ha_gA T 228) (offY M k) (ha_gA T 196) (lnM M) e (offY M y + i) = bgB (fun j => ha_gA M 66 (60 * y + j)) (ha_gA M 67 y).toInt.toNat (ha_gA M 64) (lnM M) e i := at_fit hA hi (hB.2.2 e he).2.2.2.1 (hen e he)
theorem year_sum {T M : ha_St} {E k set : Nat} (hA : ∀ y, y < k → At (ha_gA T 228) (offY M k) (offY M y) (fun j => ha_gA M 66 (60 * y + j)) (ha_gA M 67 y).toInt.toNat) (hB : BkX T E (lnM M)) (hBM : Bk M E (lnM M)) (hen : ∀ e, e < E → ∀ x, x < lnM M e → ha_gA T 196 (12 * e + x) = ha_gA M 64 (12 * e + x)) : ∀ y, y ≤ k → vv (fpB_8 T (offY M k) (lnM M) set) (lnM M) E (offY M k) 0 = (tsz (ha_gA M 67) y : Int) - csY M E set y + vv (fpB_8 T (offY M k) (lnM M) set) (lnM M) E (offY M k) (offY M y)
  | 0, _ => by
    show _ = ((0 : Nat) : Int) - 0 + vv (fpB_8 T (offY M k) (lnM M) set) (lnM M) E (offY M k) 0
    omega
  | y + 1, hy => by
    have ih := year_sum (set := set) hA hB hBM hen y (by omega)
    have hl := tf_l (y := y) (set := set) hBM
    have q := at_vv (pt := fpB_8 T (offY M k) (lnM M) set) (tt := tfB M y set) (hA y (by omega)) (E := E) (ln := lnM M) (fun e p he h => ⟨fp_w_8 e p he h, (hB.2.2 e he).2.1⟩) (fun e i he h => by
      refine ⟨(hB.2.2 e he).2.1, ?_⟩
      unfold tfB bgB at h
      rw [Bool.and_eq_true, decide_eq_true_eq] at h
      exact h.1.1) (fun i hi e he => by
      show (pfB (ha_gA T 228) (offY M k) (ha_gA T 196) (lnM M) e (offY M y + i) && set.testBit e) = (bgB _ _ _ _ _ _ && set.testBit e)
      rw [year_fit (hA y (by omega)) hB hen he hi]) (ha_gA M 67 y).toInt.toNat 0 (by omega)
    rw [Nat.add_zero, ← off_s] at q
    rw [ih, q]
    show _ = ((tsz (ha_gA M 67) y + (ha_gA M 67 y).toInt.toNat : Nat) : Int) - (csY M E set y + ((ha_gA M 67 y).toInt.toNat - vv (tfB M y set) (lnM M) E (ha_gA M 67 y).toInt.toNat 0)) + _
    omega
theorem year_all {T M : ha_St} {E k set : Nat} (hA : ∀ y, y < k → At (ha_gA T 228) (offY M k) (offY M y) (fun j => ha_gA M 66 (60 * y + j)) (ha_gA M 67 y).toInt.toNat) (hB : BkX T E (lnM M)) (hBM : Bk M E (lnM M)) (hen : ∀ e, e < E → ∀ x, x < lnM M e → ha_gA T 196 (12 * e + x) = ha_gA M 64 (12 * e + x)) : vv (fpB_8 T (offY M k) (lnM M) set) (lnM M) E (offY M k) 0 = (tsz (ha_gA M 67) k : Int) - csY M E set k := by
  have := year_sum (set := set) hA hB hBM hen k (Nat.le_refl _)
  rw [vv_N _ _ _ _ (offY M k) (Nat.le_refl _)] at this
  omega
/-! sets -/
theorem n_andnot (a b : Nat) : nI a &&& (nI b ^^^ (-1)) = nI (a ^^^ (a &&& b)) := n_ext (fun i hi => by
  have m1 : ∀ i, i < 32 → (-1 : Int32).toBitVec.getLsbD i = true := by decide +kernel
  rw [Int32.toBitVec_and, BitVec.getLsbD_and, Int32.toBitVec_xor, BitVec.getLsbD_xor, n_lsb _ hi, n_lsb _ hi, n_lsb _ hi, m1 i hi, Nat.testBit_xor, Nat.testBit_and]
  cases a.testBit i <;> cases b.testBit i <;> rfl)
theorem pc_and (a b : Nat) : ∀ k, pc (a &&& b) k ≤ pc a k
  | 0 => Nat.le_refl _
  | k + 1 => by
    have := pc_and a b k
    show pc (a &&& b) k + _ ≤ pc a k + _
    rw [Nat.testBit_and]
    by_cases c : a.testBit k = true
    · rw [if_pos c]
      by_cases d : b.testBit k = true
      · rw [c, d]; simp; exact this
      · rw [c, Bool.eq_false_iff.mpr d]; simp; omega
    · rw [Bool.eq_false_iff.mpr c]; simp; exact this
/-- the useful entries of a marked page -/
def Uf (T M : ha_St) (E k U : Nat) : Prop := U < 2 ^ E ∧ ∀ e, e < E → (U.testBit e = true ↔ (∃ p, p < offY M k ∧ pfB (ha_gA T 228) (offY M k) (ha_gA T 196) (lnM M) e p = true) ∧ 2 < lnM M e)
theorem cs_use {T M : ha_St} {E k U a : Nat} (hA : ∀ y, y < k → At (ha_gA T 228) (offY M k) (offY M y) (fun j => ha_gA M 66 (60 * y + j)) (ha_gA M 67 y).toInt.toNat) (hB : BkX T E (lnM M)) (hBM : Bk M E (lnM M)) (hen : ∀ e, e < E → ∀ x, x < lnM M e → ha_gA T 196 (12 * e + x) = ha_gA M 64 (12 * e + x)) (hU : Uf T M E k U) : csY M E (a &&& U) k = csY M E a k := by
  refine csY_cg k (fun y hy => ?_)
  unfold svY
  refine vv_use (fun p e h1 h2 h3 => (tf_l hBM p e h1 h2 h3).1) (fun p e h1 h2 h3 => ?_) (fun p e h1 h2 h3 => ?_) (ha_gA M 67 y).toInt.toNat 0 (by omega)
  · unfold tfB at h3 ⊢
    rw [Bool.and_eq_true, Nat.testBit_and, Bool.and_eq_true] at h3
    rw [Bool.and_eq_true]
    exact ⟨h3.1, h3.2.1⟩
  · unfold tfB at h3 ⊢
    rw [Bool.and_eq_true] at h3
    rw [Bool.and_eq_true, Nat.testBit_and, Bool.and_eq_true]
    by_cases c : 2 < lnM M e
    · left
      refine ⟨h3.1, h3.2, (hU.2 e h2).mpr ⟨⟨offY M y + p, ?_, ?_⟩, c⟩⟩
      · have := (hA y hy).2.2.1
        omega
      · rw [year_fit (hA y hy) hB hen h2 h1]; exact h3.1
    · exact Or.inr (by omega)
/-- the first of the best sets -/
def Bs (c : Nat → Int) (ok : Nat → Prop) (J b : Nat) : Prop := b < J ∧ ok b ∧ (∀ t, t < J → ok t → c b ≤ c t) ∧ ∀ t, t < b → ok t → c b < c t
theorem bs_same {c : Nat → Int} {okA okB : Nat → Prop} {J K U a b : Nat} (hA : Bs c okA J a) (hB : Bs c okB K b) (h1 : ∀ t, okB t ↔ okA t ∧ t &&& U = t) (h2 : ∀ t, okA t → okA (t &&& U)) (h3 : ∀ t, c (t &&& U) = c t) (hK : ∀ t, t < J → t &&& U = t → t < K) (hJ : K ≤ J) : a = b := by
  obtain ⟨a1, a2, a3, a4⟩ := hA
  obtain ⟨b1, b2, b3, b4⟩ := hB
  have sub : a &&& U = a := by
    have le : a &&& U ≤ a := Nat.and_le_left
    by_cases q : a &&& U = a
    · exact q
    · have := a4 (a &&& U) (by omega) (h2 a a2)
      rw [h3] at this
      omega
  have p1 := b3 a (hK a a1 sub) ((h1 a).mpr ⟨a2, sub⟩)
  have p2 := a3 b (by omega) ((h1 b).mp b2).1
  rcases Nat.lt_trichotomy a b with w | w | w
  · have := b4 a w ((h1 a).mpr ⟨a2, sub⟩)
    omega
  · exact w
  · have := a4 b w ((h1 b).mp b2).1
    omega
