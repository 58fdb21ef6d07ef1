/-! DELAYS: the model's loops -/
def Pm (M : ha_St) (n c e k : Nat) (B : Nat → Nat → Int) : Prop := So M n c B ∧ (∀ a, a ≤ n → B a a = 0) ∧ (∀ a b, a ≤ n → b ≤ n → -200 ≤ B a b ∧ B a b ≤ 100000 ∧ (B a b < 100000 → B a b ≤ 200)) ∧ (∀ i, i < e → B i (i + 1) ≤ 9 ∧ B (i + 1) i ≤ -1) ∧ ∀ j, j < k → j < c → B (ha_gA M 76 j).toInt.toNat ((ha_gA M 77 j).toInt.toNat + 1) ≤ (ha_gA M 78 j).toInt ∧ B ((ha_gA M 77 j).toInt.toNat + 1) (ha_gA M 76 j).toInt.toNat ≤ -(ha_gA M 78 j).toInt
theorem pm_lim {M : ha_St} {n c e k : Nat} {B D : Nat → Nat → Int} {a b : Nat} {v : Int} (hN : Nt M n c) (h : Pm M n c e k B) (he : e ≤ n) (ha : a ≤ n) (hb : b ≤ n) (hab : a ≠ b) (hv : -200 ≤ v ∧ v ≤ 200) (hs : ∀ d, Fits M n c d → d b - d a ≤ v) (hD : ∀ x y, x ≤ n → y ≤ n → D x y = lim B a b v x y) : Pm M n c e k D ∧ D a b ≤ v := by
  obtain ⟨p1, p2, p3, p4, p5⟩ := h
  have le : ∀ x y, x ≤ n → y ≤ n → D x y ≤ B x y := by
    intro x y hx hy
    rw [hD x y hx hy]
    unfold lim
    by_cases q : x = a ∧ y = b
    · rw [if_pos q, q.1, q.2]; omega
    · rw [if_neg q]; exact Int.le_refl _
  refine ⟨⟨fun d hd i j hi hj => ?_, fun x hx => ?_, fun x y hx hy => ?_, fun i hi => ?_, fun j hj hjc => ?_⟩, ?_⟩
  · have h1 := p1 d hd i j hi hj
    have h2 := hs d hd
    rw [hD i j hi hj]
    unfold lim
    by_cases q : i = a ∧ j = b
    · rw [if_pos q]
      rw [q.1, q.2] at h1 ⊢
      omega
    · rw [if_neg q]; exact h1
  · rw [hD x x hx hx]
    unfold lim
    rw [if_neg (by omega)]
    exact p2 x hx
  · have h1 := p3 x y hx hy
    rw [hD x y hx hy]
    unfold lim
    by_cases q : x = a ∧ y = b
    · rw [if_pos q]
      rw [q.1, q.2] at h1
      omega
    · rw [if_neg q]; exact h1
  · have h1 := p4 i hi
    have h2 := le i (i + 1) (by omega) (by omega)
    have h3 := le (i + 1) i (by omega) (by omega)
    omega
  · have h1 := p5 j hj hjc
    obtain ⟨q1, q2, -, -⟩ := hN j hjc
    have h2 := le _ _ q1 q2
    have h3 := le _ _ q2 q1
    omega
  · rw [hD a b ha hb]
    unfold lim
    rw [if_pos ⟨rfl, rfl⟩]
    omega
theorem rk_1 {M : ha_St} (hIM : IM M) (t : Int32) {n c : Nat} (hN : Nt M n c) (hn : ha_gI M 0 4 = nI n) (hn2 : n ≤ 16) {g : Nat → Int32} (h : Pm M n c 0 0 (bh g)) : Ok (f_X12_reckon_L37i 0 t ha_fu (0, ha_sA M 80 g)) (fun T => ∃ g, T = ha_sA M 80 g ∧ Pm M n c n 0 (bh g)) := by
  refine ok_for (fun i (T : ha_St) => (nI i, T)) 0 n (fun i T => ∃ g, T = ha_sA M 80 g ∧ Pm M n c i 0 (bh g)) _ _ ⟨g, rfl, h⟩ (by omega) (by omega) ?_ ?_
  · rintro f i T hi ⟨g, rfl, hg⟩ ih
    show Ok (f_X12_reckon_L37 0 t f (nI i) (ha_sA M 80 g)) _
    unfold f_X12_reckon_L37
    simp only [pw_nm, nI_1, st_IA]
    rw [hn]
    refine ok_ie (nI_ge hi (by omega)) (ok_bind (bound_m hIM (by omega) (by omega) 9) ?_)
    rintro T ⟨g1, rfl, hg1⟩
    obtain ⟨q1, q2⟩ := pm_lim hN hg (by omega) (a := i) (b := i + 1) (v := 9) (by omega) (by omega) (by omega) (by omega) (fun d hd => (hd.1 i hi).2) (fun x y hx hy => hg1 x y (by omega))
    refine ok_bind (bound_m hIM (by omega) (by omega) (-1)) ?_
    rintro T ⟨g2, rfl, hg2⟩
    obtain ⟨r1, r2⟩ := pm_lim hN q1 (by omega) (a := i + 1) (b := i) (v := -1) (by omega) (by omega) (by omega) (by omega) (fun d hd => by have := (hd.1 i hi).1; omega) (fun x y hx hy => hg2 x y (by omega))
    refine ih _ ⟨g2, rfl, r1.1, r1.2.1, r1.2.2.1, fun j hj => ?_, r1.2.2.2.2⟩
    by_cases e : j = i
    · subst e
      refine ⟨?_, r2⟩
      rw [hg2 _ _ (by omega)]
      unfold lim
      rw [if_neg (by omega)]
      exact q2
    · exact r1.2.2.2.1 j (by omega)
  · rintro f T ⟨g, rfl, hg⟩
    show Ok (f_X12_reckon_L37 0 t f (nI n) (ha_sA M 80 g)) _
    unfold f_X12_reckon_L37
    simp only [st_IA, hn]
    exact ok_it (nI_le (Nat.le_refl _) (by omega)) (ok_some ⟨g, rfl, hg⟩)
theorem rk_2 {M : ha_St} (hIM : IM M) (t : Int32) {n c N : Nat} (hN : Nt M n c) (hn2 : n ≤ 16) (h80 : ha_gI M 0 80 = nI N) (hN6 : N ≤ 60) (hT : Tb M t.toInt N c) (hp : ∀ k, k < N → 0 ≤ (ha_gA M 76 k).toInt ∧ (ha_gA M 76 k).toInt ≤ (ha_gA M 77 k).toInt) {g : Nat → Int32} (h : Pm M n c n 0 (bh g)) : Ok (f_X12_reckon_L72i 0 t ha_fu (0, ha_sA M 80 g)) (fun T => ∃ g, T = ha_sA M 80 g ∧ Pm M n c n c (bh g)) := by
  have hl : mo_ln (75 + 1) = 60 ∧ mo_ln (76 + 1) = 60 ∧ mo_ln (77 + 1) = 60 ∧ mo_ln (78 + 1) = 60 := by decide +kernel
  refine ok_for (fun i (T : ha_St) => (nI i, T)) 0 N (fun i T => ∃ g, T = ha_sA M 80 g ∧ Pm M n c n i (bh g)) _ _ ⟨g, rfl, h⟩ (by omega) (by omega) ?_ ?_
  · rintro f k T hk ⟨g, rfl, hg⟩ ih
    show Ok (f_X12_reckon_L72 0 t f (nI k) (ha_sA M 80 g)) _
    unfold f_X12_reckon_L72 f_X12_reckon_L72_J142
    simp only [pw_nm, nI_1, st_IA, st_fA]
    rw [h80, nI_clamp (show k < 2 ^ 31 by omega)]
    refine ok_ie (nI_ge hk (by omega)) (ok_b (mr hIM 78 100) (ok_gd (by rw [hl.2.2.2]; exact n_in2 (by omega) (by omega)) ?_))
    have e9 : ha_gA (ha_sA M 80 g) (78 + 1) k = ha_gA M 79 k := rfl
    rw [e9]
    have ht := hT.2 k hk
    refine ok_if (fun q => ?_) (fun q => ih _ ⟨g, rfl, hg.1, hg.2.1, hg.2.2.1, hg.2.2.2.1, fun j hj hjc => ?_⟩)
    · rw [i_le, ht] at q
      obtain ⟨x4, x5⟩ := hp k hk
      obtain ⟨q1, q2, q3, q4⟩ := hN k q
      have ea : ha_gA M 76 k = nI (ha_gA M 76 k).toInt.toNat := nI_ofI x4
      have eb : ha_gA M 77 k + 1 = nI ((ha_gA M 77 k).toInt.toNat + 1) := by
        rw [← nI_1, ← nI_ofI (by omega)]
      have hneg : (-ha_gA M 78 k).toInt = -(ha_gA M 78 k).toInt := i_neg (by omega)
      refine ok_b (mr hIM 75 100) (ok_gd (by rw [hl.1]; exact n_in2 (by omega) (by omega)) (ok_b (mr hIM 76 100) (ok_gd (by rw [hl.2.1]; exact n_in2 (by omega) (by omega)) (ok_b (mr hIM 77 100) (ok_gd (by rw [hl.2.2.1]; exact n_in2 (by omega) (by omega)) ?_)))))
      show Ok ((f_X12_bound 0 (ha_gA M 76 k) (ha_gA M 77 k + 1) (ha_gA M 78 k) (ha_sA M 80 g)).bind _) _
      rw [eb, show f_X12_bound 0 (ha_gA M 76 k) (nI ((ha_gA M 77 k).toInt.toNat + 1)) (ha_gA M 78 k) (ha_sA M 80 g) = f_X12_bound 0 (nI (ha_gA M 76 k).toInt.toNat) (nI ((ha_gA M 77 k).toInt.toNat + 1)) (ha_gA M 78 k) (ha_sA M 80 g) by rw [← ea]]
      refine ok_bind (bound_m hIM (by omega) (by omega) _) ?_
      rintro T ⟨g1, rfl, hg1⟩
      obtain ⟨p1, p2⟩ := pm_lim hN hg (by omega) q1 q2 (by omega) (v := (ha_gA M 78 k).toInt) (by omega) (fun d hd => by have := hd.2 k q; omega) (fun x y hx hy => hg1 x y (by omega))
      simp only [st_fA]
      refine ok_b (mr hIM 76 100) (ok_gd (by rw [hl.2.1]; exact n_in2 (by omega) (by omega)) (ok_b (mr hIM 75 100) (ok_gd (by rw [hl.1]; exact n_in2 (by omega) (by omega)) (ok_b (mr hIM 77 100) (ok_gd (by rw [hl.2.2.1]; exact n_in2 (by omega) (by omega)) ?_)))))
      show Ok ((f_X12_bound 0 (ha_gA M 77 k + 1) (ha_gA M 76 k) (-ha_gA M 78 k) (ha_sA M 80 g1)).bind _) _
      rw [eb, show f_X12_bound 0 (nI ((ha_gA M 77 k).toInt.toNat + 1)) (ha_gA M 76 k) (-ha_gA M 78 k) (ha_sA M 80 g1) = f_X12_bound 0 (nI ((ha_gA M 77 k).toInt.toNat + 1)) (nI (ha_gA M 76 k).toInt.toNat) (-ha_gA M 78 k) (ha_sA M 80 g1) by rw [← ea]]
      refine ok_bind (bound_m hIM (by omega) (by omega) _) ?_
      rintro T ⟨g2, rfl, hg2⟩
      rw [hneg] at hg2
      obtain ⟨r1, r2⟩ := pm_lim hN p1 (by omega) q2 q1 (by omega) (v := -(ha_gA M 78 k).toInt) (by omega) (fun d hd => by have := hd.2 k q; omega) (fun x y hx hy => hg2 x y (by omega))
      refine ih _ ⟨g2, rfl, r1.1, r1.2.1, r1.2.2.1, r1.2.2.2.1, fun j hj hjc => ?_⟩
      by_cases e : j = k
      · subst e
        refine ⟨?_, r2⟩
        rw [hg2 _ _ (by omega)]
        unfold lim
        rw [if_neg (by omega)]
        exact p2
      · exact r1.2.2.2.2 j (by omega) hjc
    · rw [i_le, ht] at q
      exact hg.2.2.2.2 j (by omega) hjc
  · rintro f T ⟨g, rfl, hg⟩
    show Ok (f_X12_reckon_L72 0 t f (nI N) (ha_sA M 80 g)) _
    unfold f_X12_reckon_L72
    simp only [st_IA, h80]
    have cN := hT.1
    exact ok_it (nI_le (Nat.le_refl _) (by omega)) (ok_some ⟨g, rfl, hg.1, hg.2.1, hg.2.2.1, hg.2.2.2.1, fun j hj hjc => hg.2.2.2.2 j (by omega) hjc⟩)
theorem rk_3 {M : ha_St} (hIM : IM M) (t : Int32) {n c m : Nat} (hn : ha_gI M 0 4 = nI n) (hn2 : n ≤ 16) (hm : m ≤ n) {g : Nat → Int32} (h : Wm M n c m (bh g)) : Ok (f_X12_reckon_L160i 0 t ha_fu (nI m, 0, ha_sA M 80 g)) (fun z => ∃ q, z = (nI m, ha_sA M 80 q) ∧ ∀ a b, a ≤ n → b ≤ n → bh q a b = nf (bh g) m a b) := by
  have hl : mo_ln (79 + 1) = 289 := by decide +kernel
  have hmm := h.2.2.1 m hm
  have hp : (2 : Int) ^ m ≤ 2 ^ 16 := by
    have : (2 : Nat) ^ m ≤ 2 ^ 16 := Nat.pow_le_pow_right (by omega) (by omega)
    exact_mod_cast this
  refine ok_for (fun a (T : ha_St) => (nI m, nI a, T)) 0 (n + 1) (fun i T => ∃ q, T = ha_sA M 80 q ∧ ∀ a b, a ≤ n → b ≤ n → bh q a b = if a < i then nf (bh g) m a b else bh g a b) _ _ ⟨g, rfl, fun a b _ _ => by rw [if_neg (by omega)]⟩ (by omega) (by omega) ?_ ?_
  · rintro f i T hi ⟨q, rfl, hq⟩ ih
    show Ok (f_X12_reckon_L160 0 t f (nI m) (nI i) (ha_sA M 80 q)) _
    unfold f_X12_reckon_L160 f_X12_reckon_L160_J255
    simp only [st_IA, hn]
    refine ok_ie (nI_nlt (by omega) (by omega)) (ok_bind (P := fun z => ∃ q, z = (nI m, nI i, ha_sA M 80 q) ∧ ∀ a b, a ≤ n → b ≤ n → bh q a b = if a < i + 1 then nf (bh g) m a b else bh g a b) ?_ ?_)
    · refine ok_for (fun j (T : ha_St) => (nI m, nI i, nI j, T)) 0 (n + 1) (fun j T => ∃ q, T = ha_sA M 80 q ∧ ∀ a b, a ≤ n → b ≤ n → bh q a b = if a < i ∨ (a = i ∧ b < j) then nf (bh g) m a b else bh g a b) _ _ ⟨q, rfl, fun a b ha hb => by rw [hq a b ha hb]; by_cases w : a < i <;> simp [w]⟩ (by omega) (by omega) ?_ ?_
      · rintro f2 j T hj ⟨q, rfl, hq⟩ ih2
        show Ok (f_X12_reckon_L171 0 t f2 (nI m) (nI i) (nI j) (ha_sA M 80 q)) _
        unfold f_X12_reckon_L171 f_X12_reckon_L171_J249
        simp only [st_IA, st_fA, pw_nm, nI_1]
        rw [hn, show (17 : Int32) = nI 17 from rfl, nI_mul, nI_add, nI_mul, nI_add, nI_clamp (show 17 * i + m < 2 ^ 31 by omega), nI_clamp (show 17 * m + j < 2 ^ 31 by omega)]
        refine ok_ie (nI_nlt (by omega) (by omega)) (ok_b (mr hIM 79 100) (ok_gd (by rw [hl]; exact n_in2 (by omega) (by omega)) ?_))
        show Ok (if (100000 : Int32) ≤ q (17 * i + m) then _ else _) _
        have v1 : (q (17 * i + m)).toInt = bh g i m := by
          have := hq i m (by omega) hm
          unfold bh at this ⊢
          rw [this]
          by_cases w : i < i ∨ (i = i ∧ m < j)
          · rw [if_pos w]; exact nf_c (B := bh g) hmm i
          · rw [if_neg w]
        have v2 : (q (17 * m + j)).toInt = bh g m j := by
          have := hq m j hm (by omega)
          unfold bh at this ⊢
          rw [this]
          by_cases w : m < i ∨ (m = i ∧ j < j)
          · rw [if_pos w]; exact nf_r (B := bh g) hmm j
          · rw [if_neg w]
        have v3 : bh q i j = bh g i j := by rw [hq i j (by omega) (by omega), if_neg (by omega)]
        have zf : (100000 : Int32).toInt = 100000 := rfl
        have same : ∀ q', (∀ x y, x ≤ n → y ≤ n → bh q' x y = if x = i ∧ y = j then nf (bh g) m i j else bh q x y) → Ok (f2 (nI m, nI i, nI (j + 1), ha_sA M 80 q')) (fun z => ∃ q, z = (nI m, nI i, ha_sA M 80 q) ∧ ∀ a b, a ≤ n → b ≤ n → bh q a b = if a < i + 1 then nf (bh g) m a b else bh g a b) := by
          intro q' hq'
          refine ih2 _ ⟨q', rfl, fun a b ha hb => ?_⟩
          rw [hq' a b ha hb, hq a b ha hb]
          by_cases w : a = i ∧ b = j
          · rw [if_pos w, if_pos (show a < i ∨ (a = i ∧ b < j + 1) by omega), w.1, w.2]
          · rw [if_neg w]
            by_cases w2 : a < i ∨ (a = i ∧ b < j)
            · rw [if_pos w2, if_pos (show a < i ∨ (a = i ∧ b < j + 1) by omega)]
            · rw [if_neg w2, if_neg (show ¬ (a < i ∨ (a = i ∧ b < j + 1)) by omega)]
        have skip : ¬ (bh g i m < 100000 ∧ bh g m j < 100000) → Ok (f2 (nI m, nI i, nI (j + 1), ha_sA M 80 q)) (fun z => ∃ q, z = (nI m, nI i, ha_sA M 80 q) ∧ ∀ a b, a ≤ n → b ≤ n → bh q a b = if a < i + 1 then nf (bh g) m a b else bh g a b) := by
          intro w
          refine same q (fun x y hx hy => ?_)
          by_cases e : x = i ∧ y = j
          · rw [if_pos e, e.1, e.2, v3]
            unfold nf
            rw [if_neg w]
          · rw [if_neg e]
        refine ok_if (fun c1 => skip ?_) (fun c1 => ok_b (mr hIM 79 100) (ok_gd (by rw [hl]; exact n_in2 (by omega) (by omega)) ?_))
        · rw [i_le, v1, zf] at c1; omega
        · rw [i_le, v1, zf] at c1
          show Ok (if q (17 * m + j) < (100000 : Int32) then _ else _) _
          refine ok_if (fun c2 => ?_) (fun c2 => skip ?_)
          · rw [i_lt, v2, zf] at c2
            refine ok_b (mr hIM 79 100) (ok_gd (by rw [hl]; exact n_in2 (by omega) (by omega)) (ok_b (mr hIM 79 100) (ok_gd (by rw [hl]; exact n_in2 (by omega) (by omega)) ?_)))
            have s : (q (17 * i + m) + q (17 * m + j)).toInt = bh g i m + bh g m j := by
              have b1 := h.2.2.2.1 i m (by omega) hm
              have b2 := h.2.2.2.1 m j hm (by omega)
              rw [i_add (by rw [v1, v2]; omega) (by rw [v1, v2]; omega), v1, v2]
            refine ok_bind (bound_m hIM (by omega) (by omega) _) ?_
            rintro T ⟨q', rfl, hq'⟩
            refine same q' (fun x y hx hy => ?_)
            rw [hq' x y (by omega)]
            unfold lim
            by_cases e : x = i ∧ y = j
            · rw [if_pos e, if_pos e, v3]
              unfold nf
              rw [if_pos (by omega)]
              congr 1
            · rw [if_neg e, if_neg e]
          · rw [i_lt, v2, zf] at c2; omega
      · rintro f2 T ⟨q, rfl, hq⟩
        show Ok (f_X12_reckon_L171 0 t f2 (nI m) (nI i) (nI (n + 1)) (ha_sA M 80 q)) _
        unfold f_X12_reckon_L171
        simp only [st_IA, hn]
        refine ok_it (nI_lt (by omega) (by omega)) (ok_some ⟨q, rfl, fun a b ha hb => ?_⟩)
        rw [hq a b ha hb]
        by_cases w : a < i + 1
        · rw [if_pos w, if_pos (by omega)]
        · rw [if_neg w, if_neg (by omega)]
    · rintro z ⟨q, rfl, hq⟩
      simp only [pw_nm, nI_1]
      exact ih _ ⟨q, rfl, hq⟩
  · rintro f T ⟨q, rfl, hq⟩
    show Ok (f_X12_reckon_L160 0 t f (nI m) (nI (n + 1)) (ha_sA M 80 q)) _
    unfold f_X12_reckon_L160
    simp only [st_IA, hn]
    refine ok_it (nI_lt (by omega) (by omega)) (ok_some ⟨q, rfl, fun a b ha hb => ?_⟩)
    rw [hq a b ha hb, if_pos (by omega)]
theorem rk_4 {M : ha_St} (hIM : IM M) (t : Int32) {n m : Nat} (hn : ha_gI M 0 4 = nI n) (hn2 : n ≤ 16) (q : Nat → Int32) : Ok (f_X12_reckon_L263i 0 t ha_fu (nI m, 0, ha_sA M 80 q)) (fun z => (z = .inl (nI m, ha_sA M 80 q) ∧ ∀ a, a ≤ n → 0 ≤ bh q a a) ∨ (z = .inr (0, ha_sA M 80 q) ∧ ∃ a, a ≤ n ∧ bh q a a < 0)) := by
  have hl : mo_ln (79 + 1) = 289 := by decide +kernel
  refine ok_for (fun a (_ : Unit) => (nI m, nI a, ha_sA M 80 q)) 0 (n + 1) (fun i _ => ∀ a, a < i → 0 ≤ bh q a a) _ () (fun a h => by omega) (by omega) (by omega) ?_ ?_
  · rintro f i _ hi hv ih
    show Ok (f_X12_reckon_L263 0 t f (nI m) (nI i) (ha_sA M 80 q)) _
    unfold f_X12_reckon_L263
    simp only [st_IA, st_fA, pw_nm, nI_1]
    rw [hn, show (18 : Int32) = nI 18 from rfl, nI_mul, nI_clamp (show 18 * i < 2 ^ 31 by omega)]
    refine ok_ie (nI_nlt (by omega) (by omega)) (ok_b (mr hIM 79 100) (ok_gd (by rw [hl]; exact n_in2 (by omega) (by omega)) ?_))
    have e : (ha_gA (ha_sA M 80 q) (79 + 1) (18 * i)).toInt = bh q i i := by
      show (q (18 * i)).toInt = (q (17 * i + i)).toInt
      rw [show 17 * i + i = 18 * i by omega]
    refine ok_if (fun c => ih () (fun a ha => ?_)) (fun c => ok_some (Or.inr ⟨rfl, i, by omega, ?_⟩))
    · rw [i_le, e, z_0] at c
      by_cases w : a = i
      · rw [w]; exact c
      · exact hv a (by omega)
    · rw [i_le, e, z_0] at c
      omega
  · rintro f _ hv
    show Ok (f_X12_reckon_L263 0 t f (nI m) (nI (n + 1)) (ha_sA M 80 q)) _
    unfold f_X12_reckon_L263
    simp only [st_IA, hn]
    exact ok_it (nI_lt (by omega) (by omega)) (ok_some (Or.inl ⟨rfl, fun a ha => hv a (by omega)⟩))
theorem reckon_m {M : ha_St} (hIM : IM M) (t : Int32) {n c N : Nat} (hN : Nt M n c) (hn : ha_gI M 0 4 = nI n) (hn2 : n ≤ 16) (h80 : ha_gI M 0 80 = nI N) (hN6 : N ≤ 60) (hT : Tb M t.toInt N c) (hp : ∀ k, k < N → 0 ≤ (ha_gA M 76 k).toInt ∧ (ha_gA M 76 k).toInt ≤ (ha_gA M 77 k).toInt) : Ok (f_X12_reckon 0 t M) (fun z => ∃ g, z.2 = ha_sA M 80 g ∧ ((z.1 = 0 ∧ ∀ d, ¬ Fits M n c d) ∨ (z.1 = 1 ∧ Ti M n c (bh g)))) := by
  unfold f_X12_reckon f_X12_reckon_J35 f_X12_reckon_J70 f_X12_reckon_J148 f_X12_reckon_J297
  refine ok_bind (rk_0 hIM t) ?_
  rintro T ⟨g, rfl, hg⟩
  refine ok_bind (rk_1 hIM t hN hn hn2 (g := g) ⟨fun d hd i j hi hj => ?_, fun a ha => ?_, fun a b ha hb => ?_, fun i hi => by omega, fun j hj => by omega⟩) ?_
  · rw [hg i j (by omega) (by omega)]
    by_cases e : i = j
    · rw [if_pos e, e]; omega
    · rw [if_neg e]
      have := ini_so hd hi hj
      unfold ini at this
      by_cases w : i < j
      · rw [if_pos w] at this; omega
      · rw [if_neg w] at this; omega
  · rw [hg a a (by omega) (by omega), if_pos rfl]
  · rw [hg a b (by omega) (by omega)]
    by_cases e : a = b
    · rw [if_pos e]; omega
    · rw [if_neg e]; omega
  rintro T ⟨g, rfl, hg⟩
  refine ok_bind (rk_2 hIM t hN hn2 h80 hN6 hT hp hg) ?_
  rintro T ⟨g, rfl, hg⟩
  refine ok_bind (P := fun z => ∃ g, (z = .inl (ha_sA M 80 g) ∧ Ti M n c (bh g)) ∨ (z = .inr (0, ha_sA M 80 g) ∧ ∀ d, ¬ Fits M n c d)) ?_ ?_
  · refine ok_for (fun m (T : ha_St) => (nI m, T)) 0 (n + 1) (fun m T => ∃ g, T = ha_sA M 80 g ∧ Wm M n c m (bh g)) _ _ ⟨g, rfl, hg.1, ⟨hg.2.2.2.1, fun k hk => hg.2.2.2.2 k hk hk⟩, hg.2.1, fun a b ha hb => ?_, fun a b k _ _ _ h => by omega, fun a b ha hb hf => ⟨fun _ => false, ?_, fun x hx => by omega⟩⟩ (by omega) (by omega) ?_ ?_
    · have := hg.2.2.1 a b ha hb
      exact ⟨by omega, by omega⟩
    · have := hg.2.2.1 a b ha hb
      show bh g a b ≤ 200 * (((0 : Nat) : Int) + 1)
      omega
    · rintro f m T hm ⟨g, rfl, hW⟩ ih
      show Ok (f_X12_reckon_L150 0 t f (nI m) (ha_sA M 80 g)) _
      unfold f_X12_reckon_L150 f_X12_reckon_L150_J261 f_X12_reckon_L150_J291
      simp only [st_IA, hn]
      refine ok_ie (nI_nlt (by omega) (by omega)) (ok_bind (rk_3 hIM t hn hn2 (by omega) hW) ?_)
      rintro z ⟨q, rfl, hq⟩
      refine ok_bind (rk_4 hIM t hn hn2 q) ?_
      rintro z (⟨rfl, h0⟩ | ⟨rfl, a, ha, h0⟩)
      · show Ok (f (nI m + 1, ha_sA M 80 q)) _
        rw [nI_1]
        exact ih _ ⟨q, rfl, wm_next hN hW (by omega) hn2 hq h0⟩
      · refine ok_some ⟨q, Or.inr ⟨rfl, fun d hd => ?_⟩⟩
        have := wm_so (show m ≤ n by omega) hW.1 d hd a a ha ha
        rw [← hq a a ha ha] at this
        omega
    · rintro f T ⟨g, rfl, hW⟩
      show Ok (f_X12_reckon_L150 0 t f (nI (n + 1)) (ha_sA M 80 g)) _
      unfold f_X12_reckon_L150
      simp only [st_IA, hn]
      exact ok_it (nI_lt (by omega) (by omega)) (ok_some ⟨g, Or.inl ⟨rfl, wm_fin hN hn2 hW⟩⟩)
  · rintro z ⟨g, ⟨rfl, h⟩ | ⟨rfl, h⟩⟩
    · exact ok_some ⟨g, rfl, Or.inr ⟨rfl, h⟩⟩
    · exact ok_some ⟨g, rfl, Or.inl ⟨rfl, h⟩⟩
