/-! THE READER'S TOKENS, the class's side -/
def lmt (sz : Nat) : Nat := if 400 < sz then 400 else sz
def blk1 (x : Int32) : Prop := x = 32 ∨ x = 10
def isDg (x : Int32) : Prop := 48 ≤ x.toInt ∧ x.toInt ≤ 57
def isAN (x : Int32) : Prop := isL x ∨ isDg x
theorem z_48 : (48 : Int32).toInt = 48 := rfl
theorem z_57 : (57 : Int32).toInt = 57 := rfl
theorem isDigit_x (x : Int32) : Ok (f_X11_isDigit x) (fun z => (z = 1 ∧ isDg x) ∨ (z = 0 ∧ ¬ isDg x)) := by
  unfold f_X11_isDigit f_X11_isDigit_J16 f_X11_isDigit_J17 isDg
  simp only [i_lt, z_48, z_57]
  by_cases h1 : x.toInt < 48
  · rw [pw_it h1]; exact ok_gd (Or.inl trivial) (ok_some (Or.inr ⟨rfl, by omega⟩))
  · by_cases h2 : 57 < x.toInt
    · rw [pw_ie h1, pw_it h2]; exact ok_gd (Or.inl trivial) (ok_some (Or.inr ⟨rfl, by omega⟩))
    · rw [pw_ie h1, pw_ie h2]; exact ok_gd (Or.inr trivial) (ok_some (Or.inl ⟨rfl, by omega⟩))
theorem isDigit_m (x : Int32) : Ok (f_X12_isDigit x) (fun z => (z = 1 ∧ isDg x) ∨ (z = 0 ∧ ¬ isDg x)) := by
  unfold f_X12_isDigit f_X12_isDigit_J16 f_X12_isDigit_J17 isDg
  simp only [i_lt, z_48, z_57]
  by_cases h1 : x.toInt < 48
  · rw [pw_it h1]; exact ok_gd (Or.inl trivial) (ok_some (Or.inr ⟨rfl, by omega⟩))
  · by_cases h2 : 57 < x.toInt
    · rw [pw_ie h1, pw_it h2]; exact ok_gd (Or.inl trivial) (ok_some (Or.inr ⟨rfl, by omega⟩))
    · rw [pw_ie h1, pw_ie h2]; exact ok_gd (Or.inr trivial) (ok_some (Or.inl ⟨rfl, by omega⟩))
theorem isLet_x (x : Int32) : Ok (f_X11_isLetter x) (fun z => (z = 1 ∧ isL x) ∨ (z = 0 ∧ ¬ isL x)) := by
  rw [isLetter_x]
  by_cases c : 97 ≤ x.toInt ∧ x.toInt ≤ 122
  · rw [if_pos c]; exact ok_some (Or.inl ⟨rfl, c⟩)
  · rw [if_neg c]; exact ok_some (Or.inr ⟨rfl, c⟩)
theorem isLet_m (x : Int32) : Ok (f_X12_isLetter x) (fun z => (z = 1 ∧ isL x) ∨ (z = 0 ∧ ¬ isL x)) := by
  rw [isLetter_m]
  by_cases c : 97 ≤ x.toInt ∧ x.toInt ≤ 122
  · rw [if_pos c]; exact ok_some (Or.inl ⟨rfl, c⟩)
  · rw [if_neg c]; exact ok_some (Or.inr ⟨rfl, c⟩)
/-- a mark's code -/
def MT (x tok : Int32) : Prop := (∃ i, i < 7 ∧ x = xo_by 0 i ∧ tok = nI (117 + i)) ∨ (tok = -1 ∧ ∀ i, i < 7 → x ≠ xo_by 0 i)
theorem lat_x (a : Nat) (S : ha_St) : f_J0_isLatin1_aae02 a S = some (1, S) := rfl
theorem len_x0 (S : ha_St) : f_J0_length_8abf5 0 S = some (nI 7, S) := by
  have h : nI (xo_sl 0) >>> ((0 : Int32) &&& 31) = nI 7 := by decide +kernel
  unfold f_J0_length_8abf5 f_J0_coder_7d493 f_J0_coder_7d493_J14
  rw [pw_ie (by decide), pw_gd (by decide), pw_bs]
  rw [h]
theorem len_x1 (S : ha_St) : f_J0_length_8abf5 1 S = some (nI 102, S) := by
  have h : nI (xo_sl 1) >>> ((0 : Int32) &&& 31) = nI 102 := by decide +kernel
  unfold f_J0_length_8abf5 f_J0_coder_7d493 f_J0_coder_7d493_J14
  rw [pw_ie (by decide), pw_gd (by decide), pw_bs]
  rw [h]
theorem byt0 : ∀ j, j < 256 → ((nI j).toUInt32 % 65536).toInt32 = nI j := by decide +kernel
theorem byt1 : ∀ j, j < 256 → ∀ i, i < 7 → (xo_by 0 i = (nI j).toInt8.toInt32 ↔ xo_by 0 i = nI j) := by decide +kernel
theorem mark_x {S : ha_St} {x : Int32} (hx : 0 ≤ x.toInt ∧ x.toInt ≤ 255) : Ok (f_J0_indexOf_0f7a4 0 ((x.toUInt32 % 65536).toInt32) S) (fun z => z.2 = S ∧ ((∃ i, i < 7 ∧ x = xo_by 0 i ∧ z.1 = nI i) ∨ (z.1 = -1 ∧ ∀ i, i < 7 → x ≠ xo_by 0 i))) := by
  obtain ⟨j, hj, rfl⟩ := n_of (N := 255) hx.1 hx.2
  rw [byt0 j (by omega)]
  unfold f_J0_indexOf_0f7a4 f_J0_indexOf_7cf53 f_J0_indexOf_7cf53_J36
  rw [lat_x, pw_bs]
  simp only []
  rw [pw_ie (by decide), len_x0, pw_bs]
  unfold f_J1_indexOf_4cfef f_J1_canEncode_9a6ad f_J1_canEncode_9a6ad_J15 f_J1_canEncode_9a6ad_J16
  rw [pw_ie (nI_pos (by omega)), pw_ie (show ¬ (255 : Int32) < nI j from nI_nlt (a := 255) (by omega) (by omega)), pw_gd (Or.inr rfl), pw_bs, pw_it (by decide)]
  simp only [pw_nm]
  have e7 : (if nI (xo_sl 0) < nI 7 then nI (xo_sl 0) else nI 7) = nI 7 := by decide +kernel
  rw [e7, if_neg (show ¬ (0 : Int32) < 0 by decide), pw_it (show (0 : Int32) < nI 7 by decide)]
  have hl : xo_sl 0 = 7 := rfl
  have core : Ok (f_J1_indexOfChar_4cfef 0 (nI j) 0 (nI 7) S) (fun z => z.2 = S ∧ ((∃ i, i < 7 ∧ nI j = xo_by 0 i ∧ z.1 = nI i) ∨ (z.1 = -1 ∧ ∀ i, i < 7 → nI j ≠ xo_by 0 i))) := by
    unfold f_J1_indexOfChar_4cfef f_J1_indexOfChar_4cfef_J31
    rw [pw_nm]
    refine ok_bind (P := fun z => (z = .inl S ∧ ∀ i, i < 7 → nI j ≠ xo_by 0 i) ∨ (∃ i, i < 7 ∧ nI j = xo_by 0 i ∧ z = .inr (nI i, S))) ?_ ?_
    · refine ok_for (fun i (_ : Unit) => ((nI j).toInt8.toInt32, nI i, S)) 0 7 (fun i _ => ∀ k, k < i → nI j ≠ xo_by 0 k) _ () (fun k h => by omega) (by omega) (by omega) ?_ ?_
      · rintro f i - hi hv ih
        show Ok (f_J1_indexOfChar_4cfef_L7 0 (nI j) 0 (nI 7) f ((nI j).toInt8.toInt32) (nI i) S) _
        unfold f_J1_indexOfChar_4cfef_L7
        refine ok_ie (nI_ge hi (by omega)) (ok_gd (by rw [hl]; exact n_in hi (by omega)) ?_)
        rw [nI_clamp (by omega)]
        by_cases c : xo_by 0 i = nI j
        · exact ok_ie (fun h => h ((byt1 j (by omega) i hi).mpr c)) (ok_some (Or.inr ⟨i, hi, c.symm, rfl⟩))
        · refine ok_it (fun h => c ((byt1 j (by omega) i hi).mp h)) ?_
          rw [pw_nm, nI_1]
          refine ih () (fun k hk => ?_)
          by_cases e : k = i
          · rw [e]; exact fun h => c h.symm
          · exact hv k (by omega)
      · rintro f - hv
        show Ok (f_J1_indexOfChar_4cfef_L7 0 (nI j) 0 (nI 7) f ((nI j).toInt8.toInt32) (nI 7) S) _
        unfold f_J1_indexOfChar_4cfef_L7
        exact ok_it (nI_le (Nat.le_refl _) (by omega)) (ok_some (Or.inl ⟨rfl, hv⟩))
    · rintro z (⟨rfl, h⟩ | ⟨i, h1, h2, rfl⟩)
      · exact ok_some ⟨rfl, Or.inr ⟨rfl, h⟩⟩
      · exact ok_some ⟨rfl, Or.inl ⟨i, h1, h2, rfl⟩⟩
  obtain ⟨⟨z, Z⟩, e, h⟩ := core
  rw [e]
  exact ⟨(z, Z), rfl, h⟩
theorem chr0 : ∀ j, j < 102 → ((((xo_by 1 j &&& 255).toUInt32 % 65536).toInt32) = xo_by 1 j ∧ ((xo_by 1 j).toUInt32 % 65536).toInt32 = xo_by 1 j) := by decide +kernel
theorem char_x {S : ha_St} {j : Nat} (hj : j < 102) : f_J0_charAt_5068e 1 (nI j) S = some (xo_by 1 j, S) := by
  have hl : xo_sl 1 = 102 := rfl
  have h := chr0 j hj
  unfold f_J0_charAt_5068e
  rw [lat_x, pw_bs]
  simp only []
  rw [pw_ie (by decide)]
  unfold f_J1_charAt_3b067 f_J0_checkIndex_df160 f_J3_checkIndex_8e157
  rw [hl, pw_ie (nI_pos (by omega)), pw_it (nI_lt hj (by omega)), pw_bs, pw_bs, pw_gd (n_in hj (by omega)), nI_clamp (by omega), h.1, pw_gd h.2, pw_bs, pw_gd h.2]
/-- the byte at place i of a word of r - q bytes, blanks behind it -/
def cc (b : Nat → Int32) (q r i : Nat) : Int32 := if q + i < r then b (q + i) else 32
def WM (b : Nat → Int32) (q r s : Nat) : Prop := ∀ i, i < 5 → xo_by 1 (6 * s + i) = cc b q r i
/-- a word's or number's code -/
def WT (b : Nat → Int32) (q r : Nat) (tok : Int32) : Prop :=
  (isDg (b q) ∧ ((tok = -1 ∧ ¬ (r - q ≤ 2 ∧ ∀ i, q ≤ i → i < r → isDg (b i))) ∨ (r - q ≤ 2 ∧ (∀ i, q ≤ i → i < r → isDg (b i)) ∧ tok = (if r - q = 1 then b q - 48 else (b q - 48) * 10 + b (q + 1) - 48)))) ∨
  (¬ isDg (b q) ∧ ((tok = -1 ∧ (5 < r - q ∨ ∀ s, s < 17 → ¬ WM b q r s)) ∨ (r - q ≤ 5 ∧ ∃ s, s < 17 ∧ WM b q r s ∧ tok = nI (100 + s))))
/-- what the Reader's step leaves alone -/
def F3 (X Y : ha_St) : Prop := ha_gR Y = ha_gR X ∧ ha_gB Y = ha_gB X ∧ ha_gA Y = ha_gA X ∧ ∀ o k, ¬ (o = 3 ∧ 3 ≤ k ∧ k ≤ 5) → ha_gI Y o k = ha_gI X o k
theorem F3_r (X : ha_St) : F3 X X := ⟨rfl, rfl, rfl, fun _ _ _ => rfl⟩
theorem F3_t {X Y Z : ha_St} (h : F3 X Y) (g : F3 Y Z) : F3 X Z := ⟨g.1.trans h.1, g.2.1.trans h.2.1, g.2.2.1.trans h.2.2.1, fun o k a => (g.2.2.2 o k a).trans (h.2.2.2 o k a)⟩
theorem F3_s (X : ha_St) (k : Nat) (v : Int32) (h : 3 ≤ k ∧ k ≤ 5) : F3 X (ha_sI X 3 k v) := ⟨rfl, rfl, rfl, fun o j a => by rw [st_II, if_neg (by omega)]⟩
section LXX
variable {X : ha_St} {b : Nat → Int32} {sz q r : Nat}
theorem num_x (h0 : ha_gR X 3 0 = some 116) (hb : ha_gA X 116 = b) (h4 : ha_gI X 3 4 = nI q) (h5 : ha_gI X 3 5 = nI r) (hqr : q < r) (hr : r ≤ 440) (hd : isDg (b q)) : Ok (f_X9_numberCode 3 X) (fun z => z.2 = X ∧ WT b q r z.1) := by
  have hx : xo_ln 116 = 440 := by decide +kernel
  have rf : ha_rf xo_kd X 3 0 100 = some 116 := pw_rf h0 (by decide +kernel)
  unfold f_X9_numberCode f_X9_numberCode_J65
  rw [h5, h4, n_sub (by omega)]
  by_cases c : r - q ≤ 2
  · refine ok_it (show nI (r - q) ≤ nI 2 from nI_le c (by omega)) ?_
    rw [pw_nm]
    refine ok_bind (P := fun z => (z = .inr (-1, X) ∧ ¬ (∀ i, q ≤ i → i < r → isDg (b i))) ∨ ((∀ i, q ≤ i → i < r → isDg (b i)) ∧ z = .inl ((if r - q = 1 then b q - 48 else (b q - 48) * 10 + b (q + 1) - 48), X))) ?_ ?_
    · refine ok_for (fun i (v : Int32) => (v, nI i, X)) q r (fun i v => q ≤ i ∧ (∀ k, q ≤ k → k < i → isDg (b k)) ∧ v = (if i - q = 0 then 0 else if i - q = 1 then b q - 48 else (b q - 48) * 10 + b (q + 1) - 48)) _ 0 ⟨Nat.le_refl _, fun k a c => by omega, by rw [if_pos (by omega)]⟩ (by omega) (by omega) ?_ ?_
      · rintro f i v hi ⟨v0, v1, v2⟩ ih
        show Ok (f_X9_numberCode_L22 3 f v (nI i) X) _
        unfold f_X9_numberCode_L22
        rw [h5]
        refine ok_ie (nI_ge hi (by omega)) (ok_b rf (ok_gd (by rw [hx]; exact n_in (by omega) (by omega)) ?_))
        rw [nI_clamp (by omega), hb]
        refine ok_bind (isDigit_x (b i)) ?_
        rintro z (⟨rfl, hz⟩ | ⟨rfl, hz⟩)
        · refine ok_it (by decide) (ok_b rf (ok_gd (by rw [hx]; exact n_in2 (by omega) (by omega)) ?_))
          simp only [pw_nm, nI_1, hb]
          refine ih _ ⟨by omega, fun k a c => ?_, ?_⟩
          · by_cases e : k = i
            · rw [e]; exact hz
            · exact v1 k a (by omega)
          · rw [v2]
            by_cases e : i = q
            · subst e
              rw [if_pos (by omega), if_neg (by omega), if_pos (by omega), show (0 : Int32) * 10 = 0 by decide, Int32.zero_add]
            · rw [if_neg (by omega), if_pos (by omega), if_neg (by omega), if_neg (by omega), show i = q + 1 by omega]
        · exact ok_ie (fun h => h rfl) (ok_some (Or.inl ⟨rfl, fun h => hz (h i v0 hi)⟩))
      · rintro f v ⟨v0, v1, v2⟩
        show Ok (f_X9_numberCode_L22 3 f v (nI r) X) _
        unfold f_X9_numberCode_L22
        rw [h5]
        refine ok_it (nI_le (Nat.le_refl _) (by omega)) (ok_some (Or.inr ⟨v1, ?_⟩))
        rw [v2, if_neg (by omega)]
    · rintro z (⟨rfl, h⟩ | ⟨h, rfl⟩)
      · exact ok_some ⟨rfl, Or.inl ⟨hd, Or.inl ⟨rfl, fun g => h g.2⟩⟩⟩
      · exact ok_some ⟨rfl, Or.inl ⟨hd, Or.inr ⟨c, h, rfl⟩⟩⟩
  · exact ok_ie (show ¬ nI (r - q) ≤ nI 2 from nI_ge (by omega) (by omega)) (ok_some ⟨rfl, Or.inl ⟨hd, Or.inl ⟨rfl, fun g => c g.1⟩⟩⟩)
theorem isw_x {s : Nat} (h0 : ha_gR X 3 0 = some 116) (hb : ha_gA X 116 = b) (h4 : ha_gI X 3 4 = nI q) (h5 : ha_gI X 3 5 = nI r) (hqr : q < r) (hr : r ≤ 440) (hs : s < 17) : Ok (f_X9_isWordAt 3 (nI (6 * s)) X) (fun z => z.2 = X ∧ ((z.1 = 1 ∧ WM b q r s) ∨ (z.1 = 0 ∧ ¬ WM b q r s))) := by
  have hx : xo_ln 116 = 440 := by decide +kernel
  have rf : ha_rf xo_kd X 3 0 100 = some 116 := pw_rf h0 (by decide +kernel)
  unfold f_X9_isWordAt f_X9_isWordAt_J57
  refine ok_bind (P := fun z => (z = .inl X ∧ WM b q r s) ∨ (z = .inr (0, X) ∧ ¬ WM b q r s)) ?_ ?_
  · refine ok_for (fun i (_ : Unit) => (nI i, X)) 0 5 (fun i _ => ∀ k, k < i → xo_by 1 (6 * s + k) = cc b q r k) _ () (fun k h => by omega) (by omega) (by omega) ?_ ?_
    · rintro f i - hi hv ih
      show Ok (f_X9_isWordAt_L2 3 (nI (6 * s)) f (nI i) X) _
      have go : Ok (f_X9_isWordAt_L2_J36 3 (nI (6 * s)) f (nI i) (cc b q r i) X) (fun z => (z = .inl X ∧ WM b q r s) ∨ (z = .inr (0, X) ∧ ¬ WM b q r s)) := by
        unfold f_X9_isWordAt_L2_J36
        rw [nI_add]
        refine ok_b (char_x (by omega)) ?_
        by_cases c : xo_by 1 (6 * s + i) = cc b q r i
        · refine ok_it c ?_
          rw [pw_nm, nI_1]
          refine ih () (fun k hk => ?_)
          by_cases e : k = i
          · rw [e]; exact c
          · exact hv k (by omega)
        · exact ok_ie c (ok_some (Or.inr ⟨rfl, fun h => c (h i hi)⟩))
      unfold f_X9_isWordAt_L2
      rw [h5, h4, nI_add]
      refine ok_ie (show ¬ nI 5 ≤ nI i from nI_ge hi (by omega)) ?_
      unfold cc at go
      by_cases c : q + i < r
      · rw [if_pos c] at go
        refine ok_ie (nI_ge c (by omega)) (ok_b rf (ok_gd (by rw [hx]; exact n_in (by omega) (by omega)) ?_))
        rw [nI_clamp (by omega), hb]
        exact go
      · rw [if_neg c] at go
        exact ok_it (nI_le (by omega) (by omega)) go
    · rintro f - hv
      show Ok (f_X9_isWordAt_L2 3 (nI (6 * s)) f (nI 5) X) _
      unfold f_X9_isWordAt_L2
      exact ok_it (show nI 5 ≤ nI 5 from nI_le (Nat.le_refl _) (by omega)) (ok_some (Or.inl ⟨rfl, hv⟩))
  · rintro z (⟨rfl, h⟩ | ⟨rfl, h⟩)
    · exact ok_some ⟨rfl, Or.inl ⟨rfl, h⟩⟩
    · exact ok_some ⟨rfl, Or.inr ⟨rfl, h⟩⟩
theorem wrd_x (h0 : ha_gR X 3 0 = some 116) (hb : ha_gA X 116 = b) (h4 : ha_gI X 3 4 = nI q) (h5 : ha_gI X 3 5 = nI r) (hqr : q < r) (hr : r ≤ 440) (hd : ¬ isDg (b q)) : Ok (f_X9_wordCode 3 X) (fun z => z.2 = X ∧ WT b q r z.1) := by
  unfold f_X9_wordCode f_X9_wordCode_J51
  rw [h5, h4, n_sub (by omega)]
  by_cases c : r - q ≤ 5
  · refine ok_it (show nI (r - q) ≤ nI 5 from nI_le c (by omega)) ?_
    refine ok_bind (P := fun z => (z = .inl X ∧ ∀ s, s < 17 → ¬ WM b q r s) ∨ (∃ s, s < 17 ∧ WM b q r s ∧ z = .inr (nI (100 + s), X))) ?_ ?_
    · refine ok_for (fun s (_ : Unit) => (nI (100 + s), nI (6 * s), X)) 0 17 (fun i _ => ∀ s, s < i → ¬ WM b q r s) _ () (fun k h => by omega) (by omega) (by omega) ?_ ?_
      · rintro f s - hs hv ih
        show Ok (f_X9_wordCode_L20 3 f (nI (100 + s)) (nI (6 * s)) X) _
        unfold f_X9_wordCode_L20
        refine ok_b (len_x1 X) ?_
        rw [show nI (6 * s) + 6 = nI (6 * s + 6) from nI_add _ 6]
        refine ok_ie (nI_nlt (by omega) (by omega)) (ok_bind (isw_x h0 hb h4 h5 hqr hr hs) ?_)
        rintro ⟨z, Z⟩ ⟨e1, e2⟩
        dsimp only at e1 e2 ⊢
        subst e1
        rcases e2 with ⟨e2, e3⟩ | ⟨e2, e3⟩
        · rw [e2]
          exact ok_ie (by decide) (ok_some (Or.inr ⟨s, hs, e3, rfl⟩))
        · rw [e2]
          refine ok_it rfl ?_
          simp only [pw_nm, nI_1]
          refine ih () (fun k hk => ?_)
          by_cases e : k = s
          · rw [e]; exact e3
          · exact hv k (by omega)
      · rintro f - hv
        show Ok (f_X9_wordCode_L20 3 f (nI (100 + 17)) (nI (6 * 17)) X) _
        unfold f_X9_wordCode_L20
        refine ok_b (len_x1 X) ?_
        exact ok_it (show nI 102 < nI (6 * 17) + 6 by decide) (ok_some (Or.inl ⟨rfl, hv⟩))
    · rintro z (⟨rfl, h⟩ | ⟨s, h1, h2, rfl⟩)
      · exact ok_some ⟨rfl, Or.inr ⟨hd, Or.inl ⟨rfl, Or.inr h⟩⟩⟩
      · exact ok_some ⟨rfl, Or.inr ⟨hd, Or.inr ⟨c, s, h1, h2, rfl⟩⟩⟩
  · exact ok_ie (show ¬ nI (r - q) ≤ nI 5 from nI_ge (by omega) (by omega)) (ok_some ⟨rfl, Or.inr ⟨hd, Or.inl ⟨rfl, Or.inl (by omega)⟩⟩⟩)
end LXX
