/-! DELAYS: the class weighs its notes -/
theorem fits_m {M : ha_St} {n c e : Nat} {d : Nat → Int} (h : Fits M n e d) (hc : c ≤ e) : Fits M n c d := ⟨h.1, fun k hk => h.2 k (by omega)⟩
theorem fits_lim {M : ha_St} {n c : Nat} {d : Nat → Int} (h : Fits M n c d) : ∀ j i, i ≤ j → j ≤ n → ((j : Int) - i) ≤ d j - d i ∧ d j - d i ≤ 9 * ((j : Int) - i)
  | 0, i, hi, _ => by
    obtain rfl : i = 0 := by omega
    omega
  | j + 1, i, hi, hj => by
    by_cases e : i = j + 1
    · subst e; omega
    · have := fits_lim h j i (by omega) (by omega)
      have := h.1 j (by omega)
      omega
theorem ini_so {M : ha_St} {n : Nat} {d : Nat → Int} {c : Nat} (h : Fits M n c d) {i j : Nat} (hi : i ≤ n) (hj : j ≤ n) : d j - d i ≤ ini i j := by
  unfold ini
  by_cases a : i < j
  · rw [if_pos a]; exact (fits_lim h j i (by omega) hj).2
  · rw [if_neg a]
    have := (fits_lim h i j (by omega) hi).1
    omega
theorem cl_cg {n : Nat} {A B : Nat → Nat → Int} (h : ∀ i j, i ≤ n → j ≤ n → B i j = A i j) (hA : Cl n A) : Cl n B := ⟨fun i hi => by rw [h i i hi hi]; exact hA.1 i hi, fun i j k hi hj hk => by rw [h i j hi hj, h i k hi hk, h k j hk hj]; exact hA.2 i j k hi hj hk⟩
theorem nw_le {A : Nat → Nat → Int} {a b : Nat} {c : Int} (i j : Nat) : nw A a b c i j ≤ A i j := by unfold nw; omega
theorem nw_so {A : Nat → Nat → Int} {n a b : Nat} {c : Int} {d : Nat → Int} (ha : a ≤ n) (hb : b ≤ n) (h : ∀ i j, i ≤ n → j ≤ n → d j - d i ≤ A i j) (h2 : d b - d a ≤ c) {i j : Nat} (hi : i ≤ n) (hj : j ≤ n) : d j - d i ≤ nw A a b c i j := by
  have h3 := h i j hi hj
  have h4 := h i a hi ha
  have h5 := h b j hb hj
  unfold nw; omega
/-- the limits hold and are as told by c notes -/
def Gm (M : ha_St) (n c : Nat) (A : Nat → Nat → Int) : Prop := Cl n A ∧ (∀ i j, i ≤ n → j ≤ n → A i j ≤ 144) ∧ Im M n c A ∧ So M n c A
theorem gm_next {M : ha_St} {n c : Nat} {A B : Nat → Nat → Int} (hN : Nt M n (c + 1)) (h : Gm M n c A) (h0 : 0 ≤ (ha_gA M 78 c).toInt + A ((ha_gA M 77 c).toInt.toNat + 1) (ha_gA M 76 c).toInt.toNat) (h1 : 0 ≤ -(ha_gA M 78 c).toInt + nw A (ha_gA M 76 c).toInt.toNat ((ha_gA M 77 c).toInt.toNat + 1) (ha_gA M 78 c).toInt (ha_gA M 76 c).toInt.toNat ((ha_gA M 77 c).toInt.toNat + 1)) (hB : ∀ i j, i ≤ n → j ≤ n → B i j = nw (nw A (ha_gA M 76 c).toInt.toNat ((ha_gA M 77 c).toInt.toNat + 1) (ha_gA M 78 c).toInt) ((ha_gA M 77 c).toInt.toNat + 1) (ha_gA M 76 c).toInt.toNat (-(ha_gA M 78 c).toInt) i j) : Gm M n (c + 1) B := by
  obtain ⟨n1, n2, -, -⟩ := hN c (by omega)
  obtain ⟨g1, g2, g3, g4⟩ := h
  generalize ha' : (ha_gA M 76 c).toInt.toNat = a at *
  generalize hb' : (ha_gA M 77 c).toInt.toNat + 1 = b at *
  generalize hm' : (ha_gA M 78 c).toInt = m at *
  have c1 := nw_cl g1 n1 n2 h0
  have c2 := nw_cl c1 n2 n1 h1
  have le : ∀ i j, i ≤ n → j ≤ n → B i j ≤ A i j := fun i j hi hj => by
    rw [hB i j hi hj]; exact Int.le_trans (nw_le i j) (nw_le i j)
  have e1 := g1.1 a n1
  have e2 := g1.1 b n2
  have e3 := c1.1 a n1
  have e4 := c1.1 b n2
  refine ⟨cl_cg hB c2, fun i j hi hj => Int.le_trans (le i j hi hj) (g2 i j hi hj), ⟨fun i hi => ?_, fun k hk => ?_⟩, fun d hd i j hi hj => ?_⟩
  · have l1 := le i (i + 1) (by omega) (by omega)
    have l2 := le (i + 1) i (by omega) (by omega)
    have := g3.1 i hi
    omega
  · by_cases e : k = c
    · subst e
      rw [ha', hb', hm', hB a b n1 n2, hB b a n2 n1]
      refine ⟨Int.le_trans (nw_le a b) ?_, ?_⟩
      · unfold nw; omega
      · show min _ (nw A a b m b b + -m + nw A a b m a a) ≤ -m
        omega
    · obtain ⟨q1, q2, -, -⟩ := hN k hk
      have l1 := le (ha_gA M 76 k).toInt.toNat ((ha_gA M 77 k).toInt.toNat + 1) q1 q2
      have l2 := le ((ha_gA M 77 k).toInt.toNat + 1) (ha_gA M 76 k).toInt.toNat q2 q1
      have := g3.2 k (by omega)
      omega
  · obtain ⟨f1, f2⟩ := fits_s hd
    rw [ha', hb', hm'] at f2
    rw [hB i j hi hj]
    exact nw_so n2 n1 (fun i j hi hj => nw_so n1 n2 (fun i j hi hj => g4 d f1 i j hi hj) (by omega) hi hj) (by omega) hi hj
/-- what weighing leaves -/
def Wd (X T M : ha_St) (n c e : Nat) : Prop := FrD X T ∧ ha_gI T 9 5 = nI (n + 1) ∧ ha_gI T 9 6 = nI c ∧ ((ha_gI T 9 7 = 0 ∧ Gm M n e (mx T)) ∨ (ha_gI T 9 7 = 1 ∧ ∀ d, ¬ Fits M n c d))
theorem weigh_n {X M T : ha_St} (hIR : IR X) (hIB : IB X) (p1 : Int32) {n c : Nat} (hn : n ≤ 16) (hc : c ≤ 60) (hN : Nt M n c) (hX : ∀ k, k < c → ha_gA X 244 k = ha_gA M 76 k ∧ ha_gA X 245 k = ha_gA M 77 k ∧ ha_gA X 246 k = ha_gA M 78 k ∧ 0 ≤ (ha_gA M 76 k).toInt ∧ 0 ≤ (ha_gA M 77 k).toInt) (hW : Wd X T M n c 0) : Ok (f_X2_weigh_L84i 9 p1 (nI c) ha_fu (0, T)) (fun V => Wd X V M n c c) := by
  have hl : xo_ln 244 = 60 ∧ xo_ln 245 = 60 ∧ xo_ln 246 = 60 := by decide +kernel
  refine ok_for (fun i (T : ha_St) => (nI i, T)) 0 c (fun i V => Wd X V M n c i) _ T hW (by omega) (by omega) ?_ ?_
  · rintro f k V hk ⟨hF, w5, w6, w⟩ ih
    show Ok (f_X2_weigh_L84 9 p1 (nI c) f (nI k) V) _
    unfold f_X2_weigh_L84 f_X2_weigh_L84_J150 f_X2_weigh_L84_J155
    simp only [pw_nm, nI_1]
    refine ok_ie (nI_ge hk (by omega)) ?_
    rcases w with ⟨w7, hG⟩ | ⟨w7, hG⟩
    · refine ok_ie (fun h => h w7) ?_
      have hIR1 := frD_IR hF hIR
      have hIB1 := frD_IB hF hIB
      obtain ⟨x1, x2, x3, x4, x5⟩ := hX k hk
      obtain ⟨q1, q2, q3, q4⟩ := hN k hk
      have a4 : ha_gA V 244 = ha_gA X 244 := hF.2.2.2 244 (by omega)
      have a5 : ha_gA V 245 = ha_gA X 245 := hF.2.2.2 245 (by omega)
      have a6 : ha_gA V 246 = ha_gA X 246 := hF.2.2.2 246 (by omega)
      rw [nI_clamp (show k < 2 ^ 31 by omega)]
      refine ok_b (xr hIR1 9 1 100 245) (ok_gd (by rw [hl.2.1]; exact n_in2 (by omega) (by omega)) (ok_b (xr hIR1 9 0 100 244) (ok_gd (by rw [hl.1]; exact n_in2 (by omega) (by omega)) (ok_b (xr hIR1 9 2 100 246) (ok_gd (by rw [hl.2.2]; exact n_in2 (by omega) (by omega)) ?_)))))
      rw [a4, a5, a6, x1, x2, x3]
      have ea : ha_gA M 76 k = nI (ha_gA M 76 k).toInt.toNat := nI_ofI x4
      have eb : ha_gA M 77 k + 1 = nI ((ha_gA M 77 k).toInt.toNat + 1) := by
        rw [← nI_1, ← nI_ofI x5]
      rw [eb, show f_X2_tighten 9 (ha_gA M 76 k) (nI ((ha_gA M 77 k).toInt.toNat + 1)) (ha_gA M 78 k) V = f_X2_tighten 9 (nI (ha_gA M 76 k).toInt.toNat) (nI ((ha_gA M 77 k).toInt.toNat + 1)) (ha_gA M 78 k) V by rw [← ea]]
      have no : ∀ T2 : ha_St, FrD X T2 → ha_gI T2 9 5 = nI (n + 1) → ha_gI T2 9 6 = nI c → (∀ d, ¬ Fits M n (k + 1) d) → Wd X (ha_sI T2 9 7 1) M n c (k + 1) := fun T2 f2 f5 f6 h => ⟨frD_I f2 (by omega) _, f5, f6, Or.inr ⟨rfl, fun d hd => h d (fits_m hd (by omega))⟩⟩
      refine ok_bind (tight_x hIR1 hIB1 w5 hn q1 q2 ⟨by omega, by omega⟩ hG.1 hG.2.1) ?_
      rintro ⟨z1, T1⟩ (⟨h1, h2, h3⟩ | ⟨h1, h2, h3, h4, h5⟩)
      · have h1 : z1 = 0 := h1
        have h2 : T1 = V := h2
        subst h1; subst h2
        refine ok_it rfl (ok_gd (Or.inr trivial) (ih _ (no _ hF w5 w6 (fun d hd => ?_))))
        obtain ⟨f1, f2⟩ := fits_s hd
        have := hG.2.2.2 d f1 ((ha_gA M 77 k).toInt.toNat + 1) (ha_gA M 76 k).toInt.toNat q2 q1
        omega
      · have h1 : z1 = 1 := h1
        subst h1
        have h3 : FrD V T1 := h3
        have h4 : ∀ o k, ha_gI T1 o k = ha_gI V o k := h4
        have h5 : ∀ i j, i ≤ n → j ≤ n → mx T1 i j = nw (mx V) (ha_gA M 76 k).toInt.toNat ((ha_gA M 77 k).toInt.toNat + 1) (ha_gA M 78 k).toInt i j := h5
        have hF1 := frD_t hF h3
        have hIR2 := frD_IR hF1 hIR
        have hIB2 := frD_IB hF1 hIB
        have b4 : ha_gA T1 244 = ha_gA X 244 := hF1.2.2.2 244 (by omega)
        have b6 : ha_gA T1 246 = ha_gA X 246 := hF1.2.2.2 246 (by omega)
        refine ok_ie ne10 (ok_b (xr hIR2 9 0 100 244) (ok_gd (by rw [hl.1]; exact n_in2 (by omega) (by omega)) (ok_b (xr hIR2 9 2 100 246) (ok_gd (by rw [hl.2.2]; exact n_in2 (by omega) (by omega)) ?_))))
        dsimp only
        rw [b4, b6, x1, x3, show f_X2_tighten 9 (nI ((ha_gA M 77 k).toInt.toNat + 1)) (ha_gA M 76 k) (-ha_gA M 78 k) T1 = f_X2_tighten 9 (nI ((ha_gA M 77 k).toInt.toNat + 1)) (nI (ha_gA M 76 k).toInt.toNat) (-ha_gA M 78 k) T1 by rw [← ea]]
        have hneg : (-ha_gA M 78 k).toInt = -(ha_gA M 78 k).toInt := i_neg (by omega)
        have c1 : Cl n (mx T1) := cl_cg h5 (nw_cl hG.1 q1 q2 h2)
        refine ok_bind (tight_x hIR2 hIB2 (by rw [h4]; exact w5) hn q2 q1 (by rw [hneg]; omega) c1 (fun i j hi hj => by rw [h5 i j hi hj]; exact Int.le_trans (nw_le i j) (hG.2.1 i j hi hj))) ?_
        rw [hneg]
        rintro ⟨z2, T2⟩ (⟨g1, g2, g3⟩ | ⟨g1, g2, g3, g4, g5⟩)
        · have g1 : z2 = 0 := g1
          have g2 : T2 = T1 := g2
          subst g1; subst g2
          refine ok_ie (fun h => h rfl) (ok_gd (Or.inr trivial) (ih _ (no _ hF1 (by rw [h4]; exact w5) (by rw [h4]; exact w6) (fun d hd => ?_))))
          obtain ⟨f1, f2⟩ := fits_s hd
          rw [h5 _ _ q1 q2] at g3
          have := nw_so (A := mx V) q1 q2 (fun i j hi hj => hG.2.2.2 d f1 i j hi hj) (c := (ha_gA M 78 k).toInt) (by omega) q1 q2
          omega
        · have g1 : z2 = 1 := g1
          subst g1
          have g3 : FrD T1 T2 := g3
          have g4 : ∀ o k, ha_gI T2 o k = ha_gI T1 o k := g4
          refine ok_it ne10 (ok_gd (Or.inl trivial) (ih _ ⟨frD_I (frD_t hF1 g3) (by omega) _, ?_, ?_, Or.inl ⟨rfl, ?_⟩⟩))
          · show ha_gI T2 9 5 = _
            rw [g4, h4]; exact w5
          · show ha_gI T2 9 6 = _
            rw [g4, h4]; exact w6
          · rw [h5 _ _ q1 q2] at g2
            refine gm_next (fun j hj => hN j (by omega)) hG h2 g2 (fun i j hi hj => ?_)
            show mx T2 i j = _
            rw [show mx T2 i j = nw (mx T1) ((ha_gA M 77 k).toInt.toNat + 1) (ha_gA M 76 k).toInt.toNat (-(ha_gA M 78 k).toInt) i j from g5 i j hi hj]
            unfold nw
            rw [h5 i j hi hj, h5 i _ hi q2, h5 _ j q1 hj]
            rfl
    · exact ok_it (fun h => by rw [w7] at h; exact absurd h ne10) (ok_some ⟨hF, w5, w6, Or.inr ⟨w7, hG⟩⟩)
  · rintro f V hV
    show Ok (f_X2_weigh_L84 9 p1 (nI c) f (nI c) V) _
    unfold f_X2_weigh_L84
    exact ok_it (nI_le (Nat.le_refl _) (by omega)) (ok_some hV)
theorem weigh_x {X M : ha_St} (hIR : IR X) (hIB : IB X) {n c : Nat} (hn : n ≤ 16) (hc : c ≤ 60) (hN : Nt M n c) (hX : ∀ k, k < c → ha_gA X 244 k = ha_gA M 76 k ∧ ha_gA X 245 k = ha_gA M 77 k ∧ ha_gA X 246 k = ha_gA M 78 k ∧ 0 ≤ (ha_gA M 76 k).toInt ∧ 0 ≤ (ha_gA M 77 k).toInt) : Ok (f_X2_weigh 9 (nI n) (nI c) X) (fun V => Wd X V M n c c) := by
  unfold f_X2_weigh f_X2_weigh_J82 f_X2_weigh_J164
  simp only [pw_nm]
  rw [if_neg (show ¬ (16 : Int32) < nI n from nI_nlt (b := n) (a := 16) (by omega) (by omega)), nI_1]
  refine ok_gd (Or.inl trivial) ?_
  have hF0 : FrD X (ha_sI (ha_sI (ha_sI X 9 5 (nI (n + 1))) 9 6 (nI c)) 9 7 0) := frD_I (frD_I (frD_I (frD_r X) (by omega) _) (by omega) _) (by omega) _
  generalize hS : ha_sI (ha_sI (ha_sI X 9 5 (nI (n + 1))) 9 6 (nI c)) 9 7 0 = S at *
  have s5 : ha_gI S 9 5 = nI (n + 1) := by rw [← hS]; rfl
  have s6 : ha_gI S 9 6 = nI c := by rw [← hS]; rfl
  have s7 : ha_gI S 9 7 = 0 := by rw [← hS]; rfl
  refine ok_bind (weigh_i (frD_IR hF0 hIR) (frD_IB hF0 hIB) (nI n) (nI c) s5 hn) ?_
  rintro T ⟨hF, hI, hm⟩
  refine ok_bind (weigh_n (T := T) hIR hIB (nI n) hn hc hN hX ⟨frD_t hF0 hF, by rw [hI]; exact s5, by rw [hI]; exact s6, Or.inl ⟨by rw [hI]; exact s7, cl_cg hm (ini_cl n), fun i j hi hj => ?_, ⟨fun i hi => ?_, fun k hk => by omega⟩, fun d hd i j hi hj => ?_⟩⟩) (fun V hV => ok_some hV)
  · rw [hm i j hi hj]
    unfold ini
    by_cases a : i < j
    · rw [if_pos a]; omega
    · rw [if_neg a]; omega
  · rw [hm i (i + 1) (by omega) (by omega), hm (i + 1) i (by omega) (by omega)]
    unfold ini
    rw [if_pos (by omega), if_neg (by omega)]
    omega
  · rw [hm i j hi hj]; exact ini_so hd hi hj
/-- c notes are told by day t -/
def Tb (M : ha_St) (t : Int) (N c : Nat) : Prop := c ≤ N ∧ ∀ k, k < N → ((ha_gA M 79 k).toInt ≤ t ↔ k < c)
theorem toldBy_x {X M : ha_St} (hIR : IR X) {N : Nat} (t : Int32) (hN : ha_gI X 9 8 = nI N) (hN2 : N ≤ 60) (hX : ∀ k, k < N → ha_gA X 247 k = ha_gA M 79 k) (hm : ∀ k, k < N → ∀ j, j < k → (ha_gA M 79 j).toInt ≤ (ha_gA M 79 k).toInt) : Ok (f_X2_toldBy 9 t X) (fun z => ∃ c, z = (nI c, X) ∧ Tb M t.toInt N c) := by
  have hl : xo_ln 247 = 60 := by decide +kernel
  unfold f_X2_toldBy f_X2_toldBy_J26
  refine ok_bind (P := fun z => ∃ c, z = (nI c, X) ∧ Tb M t.toInt N c) ?_ (fun z hz => by obtain ⟨c, rfl, hc⟩ := hz; exact ok_some ⟨c, rfl, hc⟩)
  refine ok_for (fun i (_ : Unit) => (nI i, X)) 0 N (fun i _ => ∀ k, k < i → (ha_gA M 79 k).toInt ≤ t.toInt) _ () (fun k h => by omega) (by omega) (by omega) ?_ ?_
  · rintro f i _ hi hv ih
    show Ok (f_X2_toldBy_L2 9 t f (nI i) X) _
    unfold f_X2_toldBy_L2
    simp only [pw_nm, nI_1]
    rw [hN, nI_clamp (show i < 2 ^ 31 by omega)]
    refine ok_ie (nI_ge hi (by omega)) (ok_b (xr hIR 9 3 100 247) (ok_gd (by rw [hl]; exact n_in2 (by omega) (by omega)) ?_))
    rw [hX i hi]
    refine ok_if (fun c => ok_some ⟨i, rfl, by omega, fun k hk => ⟨fun h => ?_, fun h => hv k h⟩⟩) (fun c => ih () (fun k hk => ?_))
    · rw [i_lt] at c
      by_cases e : k < i
      · exact e
      · by_cases e2 : k = i
        · subst e2; omega
        · have := hm k hk i (by omega)
          omega
    · rw [i_lt] at c
      by_cases e : k = i
      · subst e; omega
      · exact hv k (by omega)
  · rintro f _ hv
    show Ok (f_X2_toldBy_L2 9 t f (nI N) X) _
    unfold f_X2_toldBy_L2
    rw [hN]
    exact ok_it (nI_le (Nat.le_refl _) (by omega)) (ok_some ⟨N, rfl, Nat.le_refl _, fun k hk => ⟨fun _ => hk, fun h => hv k h⟩⟩)
/-- what the class knows behind fit -/
def Fk (X T M : ha_St) (n c : Nat) (b : Int32) : Prop := FrD X T ∧ I14 T M ∧ ((b = 0 ∧ ∀ d, ¬ Fits M n c d) ∨ (b = 1 ∧ Ti M n c (mx T)))
theorem fit_x {X M : ha_St} (hIR : IR X) (hIB : IB X) (h13 : I13 X M) (h14 : I14 X M) {n : Nat} (t : Int32) (hn : ha_gI M 0 4 = nI n) (hn3 : 3 ≤ n) (hn2 : n ≤ 16) : Ok (f_X2_fit 9 (nI n) t X) (fun z => ∃ c, Tb M t.toInt (ha_gI M 0 80).toInt.toNat c ∧ Nt M n c ∧ Fk X z.2 M n c z.1) := by
  obtain ⟨d1, d2, d3, d4⟩ := h13
  obtain ⟨N, N6, hN⟩ := n_of (N := 60) d2 d3
  have hNt : (ha_gI M 0 80).toInt.toNat = N := by rw [hN, n_tn (by omega)]
  rw [hNt]
  have dd : ∀ k, k < N → _ := fun k hk => d4 k (by rw [hN, nI_toInt (by omega)]; omega)
  unfold f_X2_fit f_X2_fit_J24 f_X2_fit_J30 f_X2_fit_J42
  refine ok_bind (toldBy_x (M := M) hIR t (d1.trans hN) N6 (fun k hk => (dd k hk).2.2.2.1) (fun k hk j hj => (dd k hk).2.2.2.2.2.2.2.2.2.2.2 j hj)) ?_
  rintro z ⟨c, rfl, hc⟩
  have hNt2 : Nt M n c := fun k hk => by
    obtain ⟨-, -, -, -, q1, q2, q3, q4, q5, -⟩ := dd k (by have := hc.1; omega)
    rw [hn, nI_toInt (by omega)] at q3
    exact ⟨by omega, by omega, q4, q5⟩
  have c60 : c ≤ 60 := by have := hc.1; omega
  have go : Ok ((f_X2_weigh 9 (nI n) (nI c) X).bind fun z3 => if ¬ha_gI z3 9 7 = 0 then ha_gd ((0 : Int32) = 0 ∨ (0 : Int32) = 1) (some ((0 : Int32), z3)) else ha_gd ((1 : Int32) = 0 ∨ (1 : Int32) = 1) (some ((1 : Int32), z3))) (fun z => ∃ c, Tb M t.toInt N c ∧ Nt M n c ∧ Fk X z.2 M n c z.1) := by
    refine ok_bind (weigh_x hIR hIB hn2 c60 hNt2 (fun k hk => by
      obtain ⟨q1, q2, q3, q4, q5, q6, -⟩ := dd k (by have := hc.1; omega)
      exact ⟨q1, q2, q3, q5, by omega⟩)) ?_
    rintro V ⟨hF, w5, w6, w⟩
    have t5 : (ha_gI V 9 5).toInt = n + 1 := by rw [w5, nI_toInt (by omega)]; omega
    have t6 : (ha_gI V 9 6).toInt = c := by rw [w6, nI_toInt (by omega)]
    have u5 : (ha_gI V 9 5).toInt.toNat - 1 = n := by omega
    have u6 : (ha_gI V 9 6).toInt.toNat = c := by omega
    have cN := hc.1
    have hNI : (ha_gI M 0 80).toInt = N := by rw [hN, nI_toInt (by omega)]
    rcases w with ⟨w7, hG⟩ | ⟨w7, hG⟩
    · have hTi := ti_of hNt2 hG.1 hG.2.2.1 hG.2.2.2
      have i14 : I14 V M := ⟨Or.inl w7, Or.inr ⟨by omega, by omega, by omega, by omega, Or.inr ⟨w7, fun i j hi hj => by
        rw [u5, u6]
        exact hTi i j (by omega) (by omega)⟩⟩⟩
      exact ok_ie (fun h => h w7) (ok_gd (Or.inr rfl) (ok_some ⟨c, hc, hNt2, hF, i14, Or.inr ⟨rfl, hTi⟩⟩))
    · have i14 : I14 V M := ⟨Or.inr w7, Or.inr ⟨by omega, by omega, by omega, by omega, Or.inl ⟨w7, by rw [u5, u6]; exact hG⟩⟩⟩
      exact ok_it (fun h => by rw [w7] at h; exact absurd h ne10) (ok_gd (Or.inl rfl) (ok_some ⟨c, hc, hNt2, hF, i14, Or.inl ⟨rfl, hG⟩⟩))
  dsimp only
  refine ok_if (fun _ => go) (fun c1 => ok_if (fun c2 => ?_) (fun _ => go))
  have c1 : nI c = ha_gI X 9 6 := Classical.not_not.mp c1
  rw [nI_1] at c2
  have h14' := h14
  obtain ⟨k1, k2⟩ := h14
  have t5 : (ha_gI X 9 5).toInt = n + 1 := by rw [c2, nI_toInt (by omega)]; omega
  have t6 : (ha_gI X 9 6).toInt = c := by rw [← c1, nI_toInt (by omega)]
  have u5 : (ha_gI X 9 5).toInt.toNat - 1 = n := by omega
  have u6 : (ha_gI X 9 6).toInt.toNat = c := by omega
  rcases k2 with k2 | ⟨-, -, -, -, k2⟩
  · rw [k2, z_m1] at t6; omega
  · rw [u5, u6] at k2
    rcases k2 with ⟨w7, k2⟩ | ⟨w7, k2⟩
    · exact ok_it (fun h => by rw [w7] at h; exact absurd h ne10) (ok_gd (Or.inl rfl) (ok_some ⟨c, hc, hNt2, frD_r X, h14', Or.inl ⟨rfl, k2⟩⟩))
    · exact ok_ie (fun h => h w7) (ok_gd (Or.inr rfl) (ok_some ⟨c, hc, hNt2, frD_r X, h14', Or.inr ⟨rfl, fun i j hi hj => k2 i j (by omega) (by omega)⟩⟩))
