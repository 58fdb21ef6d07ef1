/-! DELAYS: the model's way -/
def bh (h : Nat → Int32) (a b : Nat) : Int := (h (17 * a + b)).toInt
def cnt (S : Nat → Bool) : Nat → Nat
  | 0 => 0
  | m + 1 => cnt S m + if S m then 1 else 0
theorem cnt_le (S : Nat → Bool) : ∀ m, cnt S m ≤ m
  | 0 => Nat.le_refl _
  | m + 1 => by
    have := cnt_le S m
    show cnt S m + _ ≤ _
    by_cases c : S m = true
    · rw [if_pos c]; omega
    · rw [if_neg c]; omega
theorem cnt_or {S T : Nat → Bool} : ∀ {m : Nat}, (∀ x, x < m → ¬ (S x = true ∧ T x = true)) → cnt (fun x => S x || T x) m = cnt S m + cnt T m
  | 0, _ => rfl
  | m + 1, h => by
    have ih := cnt_or (S := S) (T := T) (m := m) (fun x hx => h x (by omega))
    have hm := h m (by omega)
    show cnt (fun x => S x || T x) m + (if (S m || T m) = true then 1 else 0) = cnt S m + (if S m = true then 1 else 0) + (cnt T m + if T m = true then 1 else 0)
    rw [ih]
    cases hs : S m <;> cases ht : T m <;> simp [hs, ht] at hm ⊢ <;> omega
theorem cnt_cg {S T : Nat → Bool} : ∀ {m : Nat}, (∀ x, x < m → S x = T x) → cnt S m = cnt T m
  | 0, _ => rfl
  | m + 1, h => by
    show cnt S m + _ = cnt T m + _
    rw [cnt_cg (m := m) (fun x hx => h x (by omega)), h m (by omega)]
/-- one round of the model's threefold loop -/
def nf (B : Nat → Nat → Int) (m a b : Nat) : Int := if B a m < 100000 ∧ B m b < 100000 then min (B a b) (B a m + B m b) else B a b
/-- behind m rounds -/
def Wm (M : ha_St) (n c m : Nat) (B : Nat → Nat → Int) : Prop := So M n c B ∧ Im M n c B ∧ (∀ a, a ≤ n → B a a = 0) ∧ (∀ a b, a ≤ n → b ≤ n → -(200 * 2 ^ m) ≤ B a b ∧ B a b ≤ 100000) ∧ (∀ a b k, a ≤ n → b ≤ n → k ≤ n → k < m → B a k < 100000 → B k b < 100000 → B a b ≤ B a k + B k b) ∧ ∀ a b, a ≤ n → b ≤ n → B a b < 100000 → ∃ S : Nat → Bool, B a b ≤ 200 * ((cnt S m : Int) + 1) ∧ ∀ x, x < m → S x = true → B a x < 100000 ∧ B x b < 100000
theorem nf_le {B : Nat → Nat → Int} {m : Nat} (a b : Nat) : nf B m a b ≤ B a b := by
  unfold nf
  by_cases c : B a m < 100000 ∧ B m b < 100000
  · rw [if_pos c]; omega
  · rw [if_neg c]; exact Int.le_refl _
theorem nf_r {B : Nat → Nat → Int} {m : Nat} (h : B m m = 0) (b : Nat) : nf B m m b = B m b := by
  unfold nf
  by_cases c : B m m < 100000 ∧ B m b < 100000
  · rw [if_pos c]; omega
  · rw [if_neg c]
theorem nf_c {B : Nat → Nat → Int} {m : Nat} (h : B m m = 0) (a : Nat) : nf B m a m = B a m := by
  unfold nf
  by_cases c : B a m < 100000 ∧ B m m < 100000
  · rw [if_pos c]; omega
  · rw [if_neg c]
theorem wm_so {M : ha_St} {n c m : Nat} {B : Nat → Nat → Int} (hm : m ≤ n) (h : So M n c B) : So M n c (nf B m) := by
  intro d hd i j hi hj
  have h1 := h d hd i j hi hj
  have h2 := h d hd i m hi hm
  have h3 := h d hd m j hm hj
  unfold nf
  by_cases c : B i m < 100000 ∧ B m j < 100000
  · rw [if_pos c]; omega
  · rw [if_neg c]; exact h1
theorem wm_u {M : ha_St} {n c m : Nat} {B : Nat → Nat → Int} (h : Wm M n c m B) (hm : m ≤ 17) {a b : Nat} (ha : a ≤ n) (hb : b ≤ n) (hf : B a b < 100000) : B a b ≤ 3600 := by
  obtain ⟨S, h1, -⟩ := h.2.2.2.2.2 a b ha hb hf
  have := cnt_le S m
  omega
theorem wm_cl {M : ha_St} {n c m : Nat} {B : Nat → Nat → Int} (h : Wm M n c m B) (hm : m ≤ n) (hn : n ≤ 16) (a b k : Nat) (ha : a ≤ n) (hb : b ≤ n) (hk : k ≤ n) (hkm : k < m + 1) (h1 : nf B m a k < 100000) (h2 : nf B m k b < 100000) : nf B m a b ≤ nf B m a k + nf B m k b := by
  have hmm := h.2.2.1 m hm
  have u := fun {a b} (ha : a ≤ n) (hb : b ≤ n) (hf : B a b < 100000) => wm_u h (show m ≤ 17 by omega) ha hb hf
  have cl := h.2.2.2.2.1
  by_cases e : k = m
  · subst e
    rw [nf_c hmm] at h1 ⊢
    rw [nf_r hmm] at h2 ⊢
    unfold nf
    rw [if_pos ⟨h1, h2⟩]
    omega
  · have hkm : k < m := by omega
    have c1 := cl a b k ha hb hk hkm
    have c2 := cl m b k hm hb hk hkm
    have c3 := cl a m k ha hm hk hkm
    have c4 := cl m m k hm hm hk hkm
    have u1 := u ha hk
    have u2 := u hk hb
    have u3 := u ha hm
    have u4 := u hm hb
    have u5 := u hm hk
    have u6 := u hk hm
    unfold nf at h1 h2 ⊢
    by_cases p1 : B a m < 100000 ∧ B m k < 100000
    · rw [if_pos p1] at h1 ⊢
      by_cases p2 : B k m < 100000 ∧ B m b < 100000
      · rw [if_pos p2] at h2 ⊢
        rw [if_pos (show B a m < 100000 ∧ B m b < 100000 from ⟨p1.1, p2.2⟩)]
        have c4 := c4 p1.2 p2.1
        by_cases g1 : B a k ≤ B a m + B m k <;> by_cases g2 : B k b ≤ B k m + B m b
        · have f1 : B a k < 100000 := by have := u3 p1.1; have := u5 p1.2; omega
          have f2 : B k b < 100000 := by have := u6 p2.1; have := u4 p2.2; omega
          have := c1 f1 f2
          omega
        · have f1 : B a k < 100000 := by have := u3 p1.1; have := u5 p1.2; omega
          have := c3 f1 p2.1
          omega
        · have f2 : B k b < 100000 := by have := u6 p2.1; have := u4 p2.2; omega
          have := c2 p1.2 f2
          omega
        · omega
      · rw [if_neg p2] at h2 ⊢
        have c2 := c2 p1.2 h2
        have f4 : B m b < 100000 := by have := u5 p1.2; have := u2 h2; omega
        rw [if_pos (show B a m < 100000 ∧ B m b < 100000 from ⟨p1.1, f4⟩)]
        by_cases g1 : B a k ≤ B a m + B m k
        · have f1 : B a k < 100000 := by have := u3 p1.1; have := u5 p1.2; omega
          have := c1 f1 h2
          omega
        · omega
    · rw [if_neg p1] at h1 ⊢
      by_cases p2 : B k m < 100000 ∧ B m b < 100000
      · rw [if_pos p2] at h2 ⊢
        have c3 := c3 h1 p2.1
        have f3 : B a m < 100000 := by have := u6 p2.1; have := u1 h1; omega
        rw [if_pos (show B a m < 100000 ∧ B m b < 100000 from ⟨f3, p2.2⟩)]
        by_cases g2 : B k b ≤ B k m + B m b
        · have f2 : B k b < 100000 := by have := u6 p2.1; have := u4 p2.2; omega
          have := c1 h1 f2
          omega
        · omega
      · rw [if_neg p2] at h2 ⊢
        have := c1 h1 h2
        have := nf_le (B := B) (m := m) a b
        unfold nf at this
        omega
theorem wm_next {M : ha_St} {n c m : Nat} {B D : Nat → Nat → Int} (hN : Nt M n c) (h : Wm M n c m B) (hm : m ≤ n) (hn : n ≤ 16) (hD : ∀ a b, a ≤ n → b ≤ n → D a b = nf B m a b) (h0 : ∀ a, a ≤ n → 0 ≤ D a a) : Wm M n c (m + 1) D := by
  have hmm := h.2.2.1 m hm
  have hso := wm_so hm h.1
  have hcl := wm_cl h hm hn
  obtain ⟨w1, w2, w3, w4, w5, w6⟩ := h
  have le : ∀ a b, a ≤ n → b ≤ n → D a b ≤ B a b := fun a b ha hb => by rw [hD a b ha hb]; exact nf_le a b
  have u : ∀ {a b}, a ≤ n → b ≤ n → B a b < 100000 → B a b ≤ 3600 := fun ha hb hf => wm_u ⟨w1, w2, w3, w4, w5, w6⟩ (show m ≤ 17 by omega) ha hb hf
  refine ⟨fun d hd i j hi hj => by rw [hD i j hi hj]; exact hso d hd i j hi hj, ⟨fun i hi => ?_, fun k hk => ?_⟩, fun a ha => ?_, fun a b ha hb => ?_, fun a b k ha hb hk hkm f1 f2 => ?_, fun a b ha hb hf => ?_⟩
  · have := w2.1 i hi
    have := le i (i + 1) (by omega) (by omega)
    have := le (i + 1) i (by omega) (by omega)
    omega
  · obtain ⟨q1, q2, -, -⟩ := hN k hk
    have := w2.2 k hk
    have := le _ _ q1 q2
    have := le _ _ q2 q1
    omega
  · have := le a a ha ha
    have := h0 a ha
    have := w3 a ha
    omega
  · have p : (2 : Int) ^ (m + 1) = 2 * 2 ^ m := by rw [Int.pow_succ]; omega
    have q : (0 : Int) < 2 ^ m := Int.pow_pos (by omega)
    have b1 := w4 a b ha hb
    have b2 := w4 a m ha hm
    have b3 := w4 m b hm hb
    have := le a b ha hb
    refine ⟨?_, by omega⟩
    rw [p, hD a b ha hb]
    unfold nf
    by_cases c : B a m < 100000 ∧ B m b < 100000
    · rw [if_pos c]; omega
    · rw [if_neg c]; omega
  · rw [hD a k ha hk] at f1 ⊢
    rw [hD k b hk hb] at f2 ⊢
    rw [hD a b ha hb]
    exact hcl a b k ha hb hk hkm f1 f2
  · by_cases f : B a b < 100000
    · obtain ⟨S, s1, s2⟩ := w6 a b ha hb f
      refine ⟨fun x => S x && decide (x < m), ?_, fun x hx hs => ?_⟩
      · have e : cnt (fun x => S x && decide (x < m)) (m + 1) = cnt S m := by
          show cnt (fun x => S x && decide (x < m)) m + (if (S m && decide (m < m)) = true then 1 else 0) = _
          rw [if_neg (by simp), Nat.add_zero]
          exact cnt_cg (fun x hx => by simp [hx])
        rw [e]
        have := le a b ha hb
        omega
      · have hs' : S x = true ∧ x < m := by simpa using hs
        have g := s2 x hs'.2 hs'.1
        have l1 := le a x ha (by omega)
        have l2 := le x b (by omega) hb
        omega
    · have e := hD a b ha hb
      have p : B a m < 100000 ∧ B m b < 100000 := by
        by_cases p : B a m < 100000 ∧ B m b < 100000
        · exact p
        · exfalso
          unfold nf at e
          rw [if_neg p] at e
          omega
      unfold nf at e
      rw [if_pos p] at e
      obtain ⟨S, s1, s2⟩ := w6 a m ha hm p.1
      obtain ⟨T, t1, t2⟩ := w6 m b hm hb p.2
      have dis : ∀ x, x < m → ¬ (S x = true ∧ T x = true) := by
        rintro x hx ⟨hs, ht⟩
        have g1 := (s2 x hx hs).1
        have g2 := (t2 x hx ht).2
        have := w5 a b x ha hb (by omega) hx g1 g2
        have := u ha (show x ≤ n by omega) g1
        have := u (show x ≤ n by omega) hb g2
        omega
      refine ⟨fun x => (S x || T x) || decide (x = m), ?_, fun x hx hs => ?_⟩
      · have e2 : cnt (fun x => (S x || T x) || decide (x = m)) (m + 1) = cnt S m + cnt T m + 1 := by
          show cnt (fun x => (S x || T x) || decide (x = m)) m + (if ((S m || T m) || decide (m = m)) = true then 1 else 0) = _
          rw [if_pos (by simp), ← cnt_or dis]
          congr 1
          exact cnt_cg (fun x hx => by simp [show ¬ x = m by omega])
        rw [e2]
        omega
      · by_cases xm : x = m
        · subst xm
          have l1 := le a x ha hm
          have l2 := le x b hm hb
          omega
        · have hxm : x < m := by omega
          have hor : S x = true ∨ T x = true := by simpa [xm] using hs
          have key : ∀ a b, a ≤ n → b ≤ n → B a m < 100000 → B m b < 100000 → D a b < 100000 := by
            intro a b ha hb g1 g2
            have := u ha hm g1
            have := u hm hb g2
            rw [hD a b ha hb]
            unfold nf
            rw [if_pos ⟨g1, g2⟩]
            omega
          have l1 := le a x ha (by omega)
          have l2 := le x b (by omega) hb
          rcases hor with hs | ht
          · have g := s2 x hxm hs
            exact ⟨by omega, key x b (by omega) hb g.2 p.2⟩
          · have g := t2 x hxm ht
            exact ⟨key a x ha (by omega) p.1 g.1, by omega⟩
theorem wm_fin {M : ha_St} {n c : Nat} {B : Nat → Nat → Int} (hN : Nt M n c) (hn : n ≤ 16) (h : Wm M n c (n + 1) B) : Ti M n c B := by
  have u : ∀ {a b}, a ≤ n → b ≤ n → B a b < 100000 → B a b ≤ 3600 := fun ha hb hf => wm_u h (show n + 1 ≤ 17 by omega) ha hb hf
  obtain ⟨w1, w2, w3, w4, w5, w6⟩ := h
  have up : ∀ k a, a + k ≤ n → B a (a + k) < 100000 ∧ B (a + k) a < 100000 := by
    intro k
    induction k with
    | zero =>
      intro a ha
      have := w3 a (by omega)
      rw [Nat.add_zero]
      omega
    | succ k ih =>
      intro a ha
      obtain ⟨i1, i2⟩ := ih a (by omega)
      have e := w2.1 (a + k) (by omega)
      rw [show a + (k + 1) = a + k + 1 by omega]
      have c1 := w5 a (a + k + 1) (a + k) (by omega) (by omega) (by omega) (by omega) i1 (by omega)
      have c2 := w5 (a + k + 1) a (a + k) (by omega) (by omega) (by omega) (by omega) (by omega) i2
      have u1 := u (by omega) (by omega) i1
      have u2 := u (by omega) (by omega) i2
      omega
  have fin : ∀ a b, a ≤ n → b ≤ n → B a b < 100000 := by
    intro a b ha hb
    by_cases c : a ≤ b
    · have := (up (b - a) a (by omega)).1
      rwa [show a + (b - a) = b by omega] at this
    · have := (up (a - b) b (by omega)).2
      rwa [show b + (a - b) = a by omega] at this
  exact ti_of hN ⟨w3, fun i j k hi hj hk => w5 i j k hi hj hk (by omega) (fin i k hi hk) (fin k j hk hj)⟩ w2 w1
theorem bh_u {h : Nat → Int32} {a b x y : Nat} {v : Int32} (hb : b ≤ 16) (hy : y ≤ 16) : bh (upd h (17 * a + b) v) x y = if x = a ∧ y = b then v.toInt else bh h x y := by
  unfold bh
  by_cases c : x = a ∧ y = b
  · rw [if_pos c, c.1, c.2, pk_us]
  · rw [if_neg c, pk_un (by omega)]
/-- a limit told to the model -/
def lim (B : Nat → Nat → Int) (a b : Nat) (v : Int) (x y : Nat) : Int := if x = a ∧ y = b then min (B a b) v else B x y
theorem bound_m {M : ha_St} (hIM : IM M) {h : Nat → Int32} {a b : Nat} (ha : a ≤ 16) (hb : b ≤ 16) (v : Int32) : Ok (f_X12_bound 0 (nI a) (nI b) v (ha_sA M 80 h)) (fun T => ∃ g, T = ha_sA M 80 g ∧ ∀ x y, y ≤ 16 → bh g x y = lim (bh h) a b v.toInt x y) := by
  have hl : mo_ln (79 + 1) = 289 := by decide +kernel
  unfold f_X12_bound f_X12_bound_J27
  simp only [pw_nm, st_fA]
  rw [show (17 : Int32) = nI 17 from rfl, nI_mul, nI_add, nI_clamp (show 17 * a + b < 2 ^ 31 by omega)]
  refine ok_b (mr hIM 79 100) (ok_gd (by rw [hl]; exact n_in2 (by omega) (by omega)) ?_)
  have e : ha_gA (ha_sA M 80 h) (79 + 1) = h := rfl
  rw [e]
  refine ok_if (fun c => ok_some ⟨h, rfl, fun x y hy => ?_⟩) (fun c => ok_b (mr hIM 79 100) (ok_gd (by rw [hl]; exact n_in2 (by omega) (by omega)) (ok_some ⟨_, st_sAA _ _ _ _, fun x y hy => ?_⟩)))
  · rw [i_le] at c
    unfold lim
    by_cases q : x = a ∧ y = b
    · rw [if_pos q, q.1, q.2]
      unfold bh; omega
    · rw [if_neg q]
  · rw [i_le] at c
    show bh (upd h (17 * a + b) v) x y = _
    rw [bh_u hb hy]
    unfold lim
    by_cases q : x = a ∧ y = b
    · rw [if_pos q, if_pos q]
      unfold bh; omega
    · rw [if_neg q, if_neg q]
theorem rk_0 {M : ha_St} (hIM : IM M) (t : Int32) : Ok (f_X12_reckon_L2i 0 t ha_fu (0, M)) (fun T => ∃ g, T = ha_sA M 80 g ∧ ∀ a b, a ≤ 16 → b ≤ 16 → bh g a b = if a = b then 0 else 100000) := by
  have hl : mo_ln (79 + 1) = 289 := by decide +kernel
  refine ok_for (fun i (T : ha_St) => (nI i, T)) 0 289 (fun i T => ∃ g, T = ha_sA M 80 g ∧ ∀ k, k < i → g k = if k % 18 = 0 then 0 else 100000) _ M ⟨_, (st_self M 80).symm, fun k hk => by omega⟩ (by omega) (by omega) ?_ ?_
  · rintro f i T hi ⟨g, rfl, hg⟩ ih
    show Ok (f_X12_reckon_L2 0 t f (nI i) (ha_sA M 80 g)) _
    unfold f_X12_reckon_L2 f_X12_reckon_L2_J28
    simp only [pw_nm, st_fA, nI_1]
    rw [show (18 : Int32) = nI 18 from rfl, n_div (by omega) (by omega) (by omega), nI_mul, n_sub (by omega), nI_clamp (show i < 2 ^ 31 by omega)]
    have st : ∀ v : Int32, (v = if i % 18 = 0 then 0 else 100000) → ∃ g', ha_sA (ha_sA M 80 g) (79 + 1) (upd (ha_gA (ha_sA M 80 g) (79 + 1)) i v) = ha_sA M 80 g' ∧ ∀ k, k < i + 1 → g' k = if k % 18 = 0 then 0 else 100000 := by
      intro v hv
      refine ⟨upd g i v, st_sAA _ _ _ _, fun k hk => ?_⟩
      by_cases e : k = i
      · rw [e, pk_us, hv]
      · rw [pk_un e]; exact hg k (by omega)
    refine ok_ie (nI_ge (b := 289) hi (by omega)) (ok_b (mr hIM 79 100) ?_)
    refine ok_if (fun c => ok_gd (by rw [hl]; exact n_in2 (by omega) (by omega)) (ih _ (st _ ?_))) (fun c => ok_gd (by rw [hl]; exact n_in2 (by omega) (by omega)) (ih _ (st _ ?_)))
    · rw [if_neg (fun e => c (by rw [show i - i / 18 * 18 = 0 by omega]; rfl))]
    · have c := Classical.not_not.mp c
      rw [← nI_0, nI_eq (by omega) (by omega)] at c
      rw [if_pos (by omega)]
  · rintro f T ⟨g, rfl, hg⟩
    show Ok (f_X12_reckon_L2 0 t f (nI 289) (ha_sA M 80 g)) _
    unfold f_X12_reckon_L2
    refine ok_it (nI_le (a := 289) (Nat.le_refl _) (by omega)) (ok_some ⟨g, rfl, fun a b ha hb => ?_⟩)
    unfold bh
    rw [hg _ (by omega)]
    by_cases e : a = b
    · rw [if_pos e, if_pos (by omega)]; rfl
    · rw [if_neg e, if_neg (by omega)]; rfl
