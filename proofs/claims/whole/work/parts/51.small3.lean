/-! SMALL: the model -/
def FrT (M S : ha_St) : Prop := ha_gR S = ha_gR M ∧ (∀ k, ¬ k = 72 → ha_gI S 0 k = ha_gI M 0 k) ∧ ∀ a, ¬ (70 ≤ a ∧ a ≤ 71) → ha_gA S a = ha_gA M a
def FrS (M S : ha_St) : Prop := ha_gR S = ha_gR M ∧ (∀ k, ¬ (k = 72 ∨ k = 74) → ha_gI S 0 k = ha_gI M 0 k) ∧ ∀ a, ¬ (70 ≤ a ∧ a ≤ 71) → ha_gA S a = ha_gA M a
theorem frT_t {M S T : ha_St} (h : FrT M S) (g : FrT S T) : FrT M T := ⟨g.1.trans h.1, fun k c => (g.2.1 k c).trans (h.2.1 k c), fun a c => (g.2.2 a c).trans (h.2.2 a c)⟩
theorem frS_T {M S T : ha_St} (h : FrS M S) (g : FrT S T) : FrS M T := ⟨g.1.trans h.1, fun k c => (g.2.1 k (by omega)).trans (h.2.1 k c), fun a c => (g.2.2 a c).trans (h.2.2 a c)⟩
theorem frS_I {M S : ha_St} (h : FrS M S) (v : Int32) : FrS M (ha_sI S 0 74 v) := ⟨h.1, fun k c => by rw [st_II, if_neg (by omega)]; exact h.2.1 k c, h.2.2⟩
theorem frT_r (M : ha_St) : FrT M M := ⟨rfl, fun _ _ => rfl, fun _ _ => rfl⟩
theorem frT_I {M S : ha_St} (h : FrT M S) (v : Int32) : FrT M (ha_sI S 0 72 v) := ⟨h.1, fun k c => by rw [st_II, if_neg (by omega)]; exact h.2.1 k c, h.2.2⟩
theorem frT_A {M S : ha_St} (h : FrT M S) {a : Nat} (ha : 70 ≤ a ∧ a ≤ 71) (f : Nat → Int32) : FrT M (ha_sA S a f) := ⟨h.1, h.2.1, fun b hb => by rw [st_AA, if_neg (by omega)]; exact h.2.2 b hb⟩
theorem frS_N {M S : ha_St} (h : FrS M S) : FrN M S := ⟨h.1, fun k c => h.2.1 k (by omega), fun a c => h.2.2 a (by omega)⟩
theorem frS_Bk {M S : ha_St} {E : Nat} {ln : Nat → Nat} (h : FrS M S) (hB : Bk M E ln) : Bk S E ln := by
  unfold Bk
  rw [h.2.1 67 (by omega), h.2.2 65 (by omega)]
  exact hB
theorem textc_m {S : ha_St} (hIM : IM S) {s y : Nat} (v2 v3 v5 : Int32) (hs : ha_gI S 0 72 = nI s) (hs6 : s ≤ 60) (hy : y < 8) (p1 : Int32) : Ok (f_X12_small_L109i 0 p1 ha_fu (v2, v3, v5, nI y, 0, S)) (fun z => ∃ h, z = (v2, v3, v5, nI y, ha_sA S 70 h) ∧ ∀ j, j < s → h j = ha_gA S 66 (60 * y + j)) := by
  have hl : mo_ln (65 + 1) = 480 ∧ mo_ln (69 + 1) = 60 := by decide +kernel
  refine ok_for (fun i (T : ha_St) => (v2, v3, v5, nI y, nI i, T)) 0 s (fun i T => ∃ h, T = ha_sA S 70 h ∧ ∀ j, j < i → h j = ha_gA S 66 (60 * y + j)) _ S ⟨_, (st_self S 70).symm, fun j h => by omega⟩ (by omega) (by omega) ?_ ?_
  · rintro f i T hi ⟨h, rfl, hh⟩ ih
    show Ok (f_X12_small_L109 0 p1 f v2 v3 v5 (nI y) (nI i) (ha_sA S 70 h)) _
    unfold f_X12_small_L109
    simp only [pw_nm, nI_1, st_fA, st_IA, hs]
    rw [show (60 : Int32) = nI 60 from rfl, nI_mul, nI_add]
    refine ok_ie (nI_ge hi (by omega)) (ok_b (mr hIM 69 100) (ok_b (mr hIM 65 100) (ok_gd (by rw [hl.1]; exact n_in (by omega) (by omega)) (ok_gd (by rw [hl.2]; exact n_in (by omega) (by omega)) (ih _ ⟨_, st_sAA _ _ _ _, fun j hj => ?_⟩)))))
    rw [nI_clamp (show i < 2 ^ 31 by omega), nI_clamp (show 60 * y + i < 2 ^ 31 by omega)]
    show upd h i (ha_gA S 66 (60 * y + i)) j = _
    by_cases w : j = i
    · rw [w, pk_us]
    · rw [pk_un w]; exact hh j (by omega)
  · rintro f T ⟨h, rfl, hh⟩
    show Ok (f_X12_small_L109 0 p1 f v2 v3 v5 (nI y) (nI s) (ha_sA S 70 h)) _
    unfold f_X12_small_L109
    simp only [st_IA, hs]
    exact ok_it (nI_le (Nat.le_refl _) (by omega)) (ok_some ⟨h, rfl, hh⟩)
theorem sum_m {M S : ha_St} (hIM : IM M) {E k set : Nat} (p1 best : Int32) (hB : Bk M E (lnM M)) (hk : ha_gI M 0 68 = nI k) (hk8 : k ≤ 8) (h6 : ∀ y, y < k → 1 ≤ (ha_gA M 67 y).toInt ∧ (ha_gA M 67 y).toInt ≤ 60) (hset : set < 2 ^ 20) (hF : FrS M S) : Ok (f_X12_small_L80i 0 p1 ha_fu (best, nI set, 0, 0, S)) (fun z => ∃ sm T, z = (best, nI set, sm, T) ∧ FrT S T ∧ (sm.toInt = csY M E set k ∨ (best.toInt ≤ sm.toInt ∧ best.toInt ≤ csY M E set k))) := by
  have hl : mo_ln (66 + 1) = 8 := by decide +kernel
  refine ok_for (fun y (v : Int32 × ha_St) => (best, nI set, v.1, nI y, v.2)) 0 k (fun y v => FrT S v.2 ∧ v.1.toInt = csY M E set y) _ (0, S) ⟨frT_r S, z_0⟩ (by omega) (by omega) ?_ ?_
  · rintro f y ⟨sm, T⟩ hy ⟨hT, hsm⟩ ih
    have hT : FrT S T := hT
    have hsm : sm.toInt = csY M E set y := hsm
    show Ok (f_X12_small_L80 0 p1 f best (nI set) sm (nI y) T) _
    unfold f_X12_small_L80 f_X12_small_L80_J144
    have hF2 := frS_T hF hT
    have hIM2 : IM T := IM_c (M := M) hF2.1 hIM
    rw [hF2.2.1 68 (by omega), hk]
    have cr := csY_r (set := set) hB y (fun j hj => (h6 j (by omega)).2)
    refine ok_ie (nI_ge hy (by omega)) (ok_if (fun c => ok_some ⟨sm, T, rfl, hT, Or.inr ?_⟩) (fun c => ?_))
    · rw [i_le] at c
      have := csY_mono (set := set) hB y (k - y)
      rw [show y + (k - y) = k by omega] at this
      omega
    · simp only [pw_nm]
      rw [nI_clamp (show y < 2 ^ 31 by omega)]
      refine ok_b (mr hIM2 66 100) (ok_gd (by rw [hl]; exact n_in2 (by omega) (by omega)) ?_)
      obtain ⟨y1, y2⟩ := h6 y hy
      have e67 : ha_gA T (66 + 1) y = nI (ha_gA M 67 y).toInt.toNat := by
        show ha_gA T 67 y = _
        rw [hF2.2.2 67 (by omega)]
        exact nI_ofI (by omega)
      rw [e67]
      generalize hss : (ha_gA M 67 y).toInt.toNat = s at *
      have s6 : s ≤ 60 := by omega
      refine ok_bind (textc_m (S := ha_sI T 0 72 (nI s)) (IM_c (M := T) rfl hIM2) best (nI set) sm rfl s6 (by omega) p1) ?_
      rintro z ⟨h, rfl, hh⟩
      dsimp only
      have hF3 : FrS M (ha_sA (ha_sI T 0 72 (nI s)) 70 h) := frS_T hF2 (frT_A (frT_I (frT_r T) _) (by omega) _)
      have fw := fewest_m (M := ha_sA (ha_sI T 0 72 (nI s)) 70 h) (IM_c (M := T) rfl hIM2) (E := E) (s := s) (set := set) (ln := lnM M) (frS_Bk hF3 hB) rfl s6 hset
      refine ok_bind fw ?_
      rintro z ⟨h71, rfl, hv⟩
      have hv0 := hv 0 (by omega)
      have e64 : ha_gA T 64 = ha_gA M 64 := hF2.2.2 64 (by omega)
      have e66 : ha_gA T 66 = ha_gA M 66 := hF2.2.2 66 (by omega)
      have eq : vv (fsB (ha_sA (ha_sI T 0 72 (nI s)) 70 h) s (lnM M) set) (lnM M) E s 0 = svY M E set y := by
        unfold svY
        rw [hss]
        refine vv_cg (fun e p he hp => ?_) 0
        unfold fsB tfB
        rw [hss]
        congr 1
        show bgB h s (ha_gA T 64) (lnM M) e p = _
        rw [e64]
        refine bgB_cg (fun j hj => ?_) hp
        rw [hh j hj]
        show ha_gA T 66 (60 * y + j) = _
        rw [e66]
      rw [eq] at hv0
      have sr := svY_r (set := set) (y := y) hB
      rw [hss] at sr
      dsimp only
      rw [nI_1]
      refine ih (sm + h71 0, _) ⟨frT_t hT (frT_A (frT_A (frT_I (frT_r T) _) (by omega) _) (by omega) _), ?_⟩
      show (sm + h71 0).toInt = csY M E set y + (((ha_gA M 67 y).toInt.toNat : Int) - svY M E set y)
      rw [hss]
      rw [i_add (by rw [hsm, hv0]; omega) (by rw [hsm, hv0]; omega), hsm, hv0]
      omega
  · rintro f ⟨sm, T⟩ ⟨hT, hsm⟩
    have hT : FrT S T := hT
    have hsm : sm.toInt = csY M E set k := hsm
    show Ok (f_X12_small_L80 0 p1 f best (nI set) sm (nI k) T) _
    unfold f_X12_small_L80
    rw [(frS_T hF hT).2.1 68 (by omega), hk]
    exact ok_it (nI_le (Nat.le_refl _) (by omega)) (ok_some ⟨sm, T, rfl, hT, Or.inl hsm⟩)
theorem small_m {M : ha_St} (hIM : IM M) {E k n : Nat} (hB : Bk M E (lnM M)) (hk : ha_gI M 0 68 = nI k) (hk8 : k ≤ 8) (h6 : ∀ y, y < k → 1 ≤ (ha_gA M 67 y).toInt ∧ (ha_gA M 67 y).toInt ≤ 60) (hn : n ≤ 12) : Ok (f_X12_small_L23i 0 (nI n) ha_fu (100000, 0, M)) (fun z => ∃ b, z.1.toInt = csY M E b k ∧ FrS M z.2 ∧ ha_gI z.2 0 74 = nI b ∧ Bs (fun s => csY M E s k) (fun s => pc s E ≤ n) (2 ^ E) b) := by
  have hE := hB.2.1
  have fE : 2 ^ E ≤ 2 ^ 12 := Nat.pow_le_pow_right (by omega) hE
  have fE0 := Nat.two_pow_pos E
  have cr := fun s => csY_r (set := s) hB k (fun j hj => (h6 j hj).2)
  have zf : (100000 : Int32).toInt = 100000 := rfl
  refine ok_for (fun j (v : Int32 × ha_St) => (v.1, nI j, v.2)) 0 (2 ^ E) (fun j v => FrS M v.2 ∧ ((j = 0 ∧ v.1 = 100000) ∨ ∃ b, v.1.toInt = csY M E b k ∧ ha_gI v.2 0 74 = nI b ∧ Bs (fun s => csY M E s k) (fun s => pc s E ≤ n) j b)) _ (100000, M) ⟨⟨rfl, fun _ _ => rfl, fun _ _ => rfl⟩, Or.inl ⟨rfl, rfl⟩⟩ (by omega) (by omega) ?_ ?_
  · rintro f j ⟨best, S⟩ hj ⟨hF, hbs⟩ ih
    have hF : FrS M S := hF
    have hbs : (j = 0 ∧ best = 100000) ∨ ∃ b, best.toInt = csY M E b k ∧ ha_gI S 0 74 = nI b ∧ Bs (fun s => csY M E s k) (fun s => pc s E ≤ n) j b := hbs
    show Ok (f_X12_small_L23 0 (nI n) f best (nI j) S) _
    unfold f_X12_small_L23
    have h67 : ha_gI S 0 67 = nI E := by rw [hF.2.1 67 (by omega)]; exact hB.1
    rw [h67, show (1 : Int32) = nI 1 from rfl, n_shl 1 (by omega), Nat.one_shiftLeft]
    refine ok_ie (nI_ge hj (by omega)) (ok_bind (P := fun z => z = (best, nI j, nI (pc j E), S)) ?_ ?_)
    · refine ok_for (fun e (v : Int32) => (best, nI j, v, nI e, S)) 0 E (fun e v => v = nI (pc j e)) _ 0 rfl (by omega) (by omega) ?_ ?_
      · rintro f2 e v he rfl ih2
        show Ok (f_X12_small_L39 0 (nI n) f2 best (nI j) (nI (pc j e)) (nI e) S) _
        unfold f_X12_small_L39
        simp only [pw_nm, nI_1]
        rw [h67, n_bit (by omega) (by omega)]
        refine ok_ie (nI_ge he (by omega)) (ih2 _ ?_)
        show _ = nI (pc j e + _)
        by_cases c : j.testBit e = true
        · rw [if_pos c, if_pos c, nI_1]
        · rw [if_neg c, if_neg c]; exact Int32.add_zero _
      · rintro f2 v rfl
        show Ok (f_X12_small_L39 0 (nI n) f2 best (nI j) (nI (pc j E)) (nI E) S) _
        unfold f_X12_small_L39
        rw [h67]
        exact ok_it (nI_le (Nat.le_refl _) (by omega)) (ok_some rfl)
    rintro z rfl
    have pl := pc_le j E
    unfold f_X12_small_L23_J65 f_X12_small_L23_J160 f_X12_small_L23_J177
    dsimp only
    simp only [pw_nm, nI_1]
    have skip : ∀ T, FrT S T → ¬ (pc j E ≤ n ∧ csY M E j k < best.toInt) → Ok (f (best, nI (j + 1), T)) (fun z => ∃ b, z.1.toInt = csY M E b k ∧ FrS M z.2 ∧ ha_gI z.2 0 74 = nI b ∧ Bs (fun s => csY M E s k) (fun s => pc s E ≤ n) (2 ^ E) b) := by
      intro T hT q
      refine ih (best, T) ⟨frS_T hF hT, ?_⟩
      rcases hbs with ⟨rfl, rfl⟩ | ⟨b, b0, b1, b2, b3, b4, b5⟩
      · exfalso
        have p0 : ∀ m, pc 0 m = 0 := by
          intro m
          induction m with
          | zero => rfl
          | succ m ih => show pc 0 m + _ = 0; rw [ih]; simp
        refine q ⟨by rw [p0]; omega, ?_⟩
        have := cr 0
        rw [zf]; omega
      · refine Or.inr ⟨b, b0, by rw [hT.2.1 74 (by omega)]; exact b1, by omega, b3, fun t ht hk => ?_, b5⟩
        by_cases w : t = j
        · subst w
          dsimp only
          by_cases c : csY M E t k < best.toInt
          · exact absurd ⟨hk, c⟩ q
          · omega
        · exact b4 t (by omega) hk
    refine ok_if (fun c => ok_bind (sum_m hIM (nI n) best hB hk hk8 h6 (show j < 2 ^ 20 by omega) hF) ?_) (fun c => skip S (frT_r S) (fun q => c (nI_le q.1 (by omega))))
    rw [nI_leI (by omega) (by omega)] at c
    rintro z ⟨sm, T, rfl, hT, hs⟩
    dsimp only
    rw [nI_1]
    refine ok_if (fun d => ?_) (fun d => skip T hT (fun q => d ?_))
    · rw [i_lt] at d
      have hs : sm.toInt = csY M E j k := by
        rcases hs with hs | hs
        · exact hs
        · omega
      refine ih (sm, ha_sI T 0 74 (nI j)) ⟨frS_I (frS_T hF hT) _, Or.inr ⟨j, hs, rfl, by omega, c, fun t ht hk => ?_, fun t ht hk => ?_⟩⟩
      · dsimp only
        by_cases w : t = j
        · rw [w]; exact Int.le_refl _
        · rcases hbs with ⟨rfl, rfl⟩ | ⟨b, b0, b1, b2, b3, b4, b5⟩
          · omega
          · have := b4 t (by omega) hk
            dsimp only at this
            omega
      · dsimp only
        rcases hbs with ⟨rfl, rfl⟩ | ⟨b, b0, b1, b2, b3, b4, b5⟩
        · omega
        · have := b4 t (by omega) hk
          dsimp only at this
          omega
    · rw [i_lt]
      rcases hs with hs | hs
      · omega
      · omega
  · rintro f ⟨best, S⟩ ⟨hF, hbs⟩
    have hF : FrS M S := hF
    have hbs : (2 ^ E = 0 ∧ best = 100000) ∨ ∃ b, best.toInt = csY M E b k ∧ ha_gI S 0 74 = nI b ∧ Bs (fun s => csY M E s k) (fun s => pc s E ≤ n) (2 ^ E) b := hbs
    show Ok (f_X12_small_L23 0 (nI n) f best (nI (2 ^ E)) S) _
    unfold f_X12_small_L23
    have h67 : ha_gI S 0 67 = nI E := by rw [hF.2.1 67 (by omega)]; exact hB.1
    rw [h67, show (1 : Int32) = nI 1 from rfl, n_shl 1 (by omega), Nat.one_shiftLeft]
    refine ok_it (nI_le (Nat.le_refl _) (by omega)) (ok_some ?_)
    rcases hbs with ⟨h, -⟩ | ⟨b, b0, b1, b2⟩
    · omega
    · exact ⟨b, b0, hF, b1, b2⟩
theorem e_small {X M : ha_St} (hI : Inv X M) (v : Int32) : Agr (f_X11_small 0 v X) (f_X12_small 0 v M) := by
  have hI := inv_thr 0 hI
  have hT := hI
  obtain ⟨hIR, hIB, hIM, hI1, hI2, hI3, hI4, hI5, hI6, hI7, hI8, hI9, hI10, hI11, hI13, hI14⟩ := hI
  unfold f_X11_small f_X12_small f_X11_small_J10 f_X12_small_J183
  generalize ha_sI M 0 0 0 = M at *
  have no : Agr (some (-1, X)) (some (-1, M)) := agr_mk rfl hT
  simp only [pw_nm, pw_bs, isIn_eq]
  by_cases c1 : v < 0
  · rw [pw_it c1, if_pos (Or.inl c1)]
    simp only [n_00, not_true_eq_false, if_false]
    exact no
  · rw [pw_ie c1]
    by_cases c2 : v ≤ 12
    · rw [pw_it c2, if_neg (show ¬ (v < 0 ∨ 12 < v) from fun h => h.elim c1 (fun h => by rw [i_lt] at h; rw [i_le] at c2; omega))]
      simp only [n_10, not_false_eq_true, if_true]
      rw [i_lt, z_0] at c1
      rw [i_le, show (12 : Int32).toInt = 12 from rfl] at c2
      obtain ⟨n, n12, rfl⟩ := n_of (N := 12) (show 0 ≤ v.toInt by omega) c2
      obtain ⟨E, hBM, hBX, hen⟩ := book hI9
      obtain ⟨k, k8, hk⟩ := n_of (N := 8) hI11.2.1 hI11.2.2.1
      obtain ⟨y4, y7, yN, y6, yA⟩ := year_at hI11 hk k8
      have y6' : ∀ y, y < k → 1 ≤ (ha_gA M 67 y).toInt ∧ (ha_gA M 67 y).toInt ≤ 60 := fun y hy => ⟨(hI11.2.2.2.2.2 y (by rw [hk, nI_toInt (by omega)]; omega)).1, y6 y hy⟩
      have cap := year_cap k8 y6 yA
      have tk : tsz (ha_gA M 67) k ≤ 480 := by
        have := tsz_le (f := ha_gA M 67) (b := 60) (n := k) (fun i hi => y6 i hi)
        omega
      simp only [xr hIR 0 7 6 8, xr hIR 0 5 3 6, pw_bs]
      obtain ⟨T, eT, hF, hMk, hW⟩ := mark_8 hIR hBX y4 yN cap.2
      rw [eT]
      have hIRT := frP_IR hF hIR
      have hg : ha_gA T 228 = ha_gA X 228 := hF.2.2.2 228 (by omega)
      have hBT := bkX_c (Or.inr rfl) hF hBX
      have yAT : ∀ y, y < k → At (ha_gA T 228) (offY M k) (offY M y) (fun j => ha_gA M 66 (60 * y + j)) (ha_gA M 67 y).toInt.toNat := fun y hy => by rw [hg]; exact yA y hy
      rw [← hg] at hW
      have enT : ∀ e, e < E → ∀ x, x < lnM M e → ha_gA T 196 (12 * e + x) = ha_gA M 64 (12 * e + x) := fun e he x hx => by
        rw [hF.2.2.2 196 (by omega)]; exact hen e he x hx
      simp only [xr hIRT 0 7 6 8, xr hIRT 0 5 3 6, pw_bs]
      unfold f_X6_bestSet f_X6_bestSet_J69
      obtain ⟨zu, eu, U, rfl, hU⟩ := useful_x hIRT hBT hMk hW
      rw [eu]
      simp only [pw_bs]
      obtain ⟨zb, eb, b, h, rfl, hb⟩ := best_x hIRT hBT hBM yN hMk hW yAT enT n12 hU.1
      rw [eb]
      simp only [pw_bs, st_fI, st_fA, xr hIRT 0 7 6 8, xr hIRT 0 5 3 6]
      have hE := hBT.2.1
      have fE : 2 ^ E ≤ 2 ^ 12 := Nat.pow_le_pow_right (by omega) hE
      have bU := hb.1
      have hU1 := hU.1
      have sv := saving_8 (S := ha_sI (ha_sA T 231 h) 0 15 (nI b)) (IR_c (X := T) rfl hIRT) (E := E) (N := offY M k) (set := b) (ln := lnM M) hBT yN hMk hW (by omega)
      obtain ⟨zs, es, h2, rfl, hv⟩ := sv
      rw [show ha_gI (ha_sI (ha_sA T 231 h) 0 15 (nI b)) 0 15 = nI b from rfl, es]
      simp only [pw_bs]
      have hv0 := hv 0 (by omega)
      have hv0 : (h2 0).toInt = vv (fpB_8 T (offY M k) (lnM M) b) (lnM M) E (offY M k) 0 := hv0
      rw [year_all yAT hBT hBM enT] at hv0
      obtain ⟨⟨best, L⟩, em, b', m1, hFS, m74, hb'⟩ := small_m hIM hBM hk k8 y6' n12
      rw [em]
      simp only [pw_bs]
      have m1 : best.toInt = csY M E b' k := m1
      have hFS : FrS M L := hFS
      have m74 : ha_gI L 0 74 = nI b' := m74
      obtain rfl : b' = b := bs_same hb' hb (fun t => Iff.rfl) (fun t ht => Nat.le_trans (pc_and t U E) ht) (fun t => cs_use yAT hBT hBM enT hU) (fun t ht hs => by
        have : t &&& U ≤ U := Nat.and_le_right
        omega) (by omega)
      have e87 : ha_gI (ha_sI (ha_sA T 231 h) 0 15 (nI b')) 8 7 = nI (tsz (ha_gA M 67) k) := by
        show ha_gI T 8 7 = _
        rw [hF.2.2.1 8 7 (by omega)]; exact y7
      rw [e87]
      have cr := csY_r (set := b') hBM k (fun j hj => (y6' j hj).2)
      have hFK : FrK X (ha_sA (ha_sI (ha_sA T 231 h) 0 15 (nI b')) 231 h2) := frK_A (frK_I (frK_A (frK_P (frK_r X) (Or.inr rfl) hF) (by omega) _) (by omega) _) (by omega) _
      refine agr_mk ?_ (inv_KN hT hFK (frS_N hFS) ?_ ⟨?_, ?_, ?_⟩ ?_)
      · rw [i_eq, i_sub (by rw [nI_toInt (by omega), hv0]; omega) (by rw [nI_toInt (by omega), hv0]; omega), nI_toInt (by omega), hv0, m1]
        omega
      · refine I1_c (X := X) (M := M) ?_ ?_ ?_ ?_ hI1
        · show ha_gI T 1 1 = _
          exact hF.2.2.1 1 1 (by omega)
        · show ha_gA T 116 = _
          exact hF.2.2.2 116 (by omega)
        · exact hFS.2.1 2 (by omega)
        · exact hFS.2.2 2 (by omega)
      · show ha_gI T 0 12 = _
        rw [hF.2.2.1 0 12 (by omega), hFS.2.1 11 (by omega)]; exact hI6.1
      · show nI b' = _
        exact m74.symm
      · show ha_gI T 0 16 = _
        rw [hF.2.2.1 0 16 (by omega), hFS.2.1 82 (by omega)]; exact hI6.2.2
      · refine I10_c (X := X) (M := M) ?_ ?_ ?_ ?_ hI10
        · show ha_gI T 0 14 = _
          exact hF.2.2.1 0 14 (by omega)
        · show ha_gA T 108 = _
          exact hF.2.2.2 108 (by omega)
        · exact hFS.2.1 73 (by omega)
        · exact hFS.2.2 72 (by omega)
    · rw [pw_ie c2, if_pos (show v < 0 ∨ 12 < v from Or.inr (by rw [i_le] at c2; rw [i_lt]; omega))]
      simp only [n_00, not_true_eq_false, if_false]
      exact no
