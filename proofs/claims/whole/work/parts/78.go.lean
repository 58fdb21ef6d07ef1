/-! THE MODEL'S TOKENS -/
/-- what go leaves alone -/
def F4 (M N : ha_St) : Prop := ha_gR N = ha_gR M ∧ ha_gA N = ha_gA M ∧ ∀ k, ¬ (6 ≤ k ∧ k ≤ 10) → ha_gI N 0 k = ha_gI M 0 k
theorem F4_r (M : ha_St) : F4 M M := ⟨rfl, rfl, fun _ _ => rfl⟩
theorem F4_t {M N P : ha_St} (h : F4 M N) (g : F4 N P) : F4 M P := ⟨g.1.trans h.1, g.2.1.trans h.2.1, fun k a => (g.2.2 k a).trans (h.2.2 k a)⟩
theorem F4_s (M : ha_St) (k : Nat) (v : Int32) (h : 6 ≤ k ∧ k ≤ 10) : F4 M (ha_sI M 0 k v) := ⟨rfl, rfl, fun j a => by rw [st_II, if_neg (by omega)]⟩
theorem F4_j (M : ha_St) (v : Int64) : F4 M (ha_sJ M 0 13 v) := ⟨rfl, rfl, fun _ _ => rfl⟩
/-- the word's number, letter by letter -/
def HW (b : Nat → Int32) (q : Nat) : Nat → Int64
  | 0 => 0
  | k + 1 => 27 * HW b q k + (b (q + k)).toInt64 - 96
def HN (b : Nat → Int32) (q : Nat) : Nat → Int32
  | 0 => 0
  | k + 1 => 10 * HN b q k + b (q + k) - 48
def mn (a k : Nat) : Nat := if a < k then a else k
/-- what go makes of a token: its kind, number, word, sign -/
def GT (b : Nat → Int32) (sz p : Nat) (N : ha_St) : Prop := ∃ q, p ≤ q ∧ (∀ i, p ≤ i → i < q → blk1 (b i)) ∧ ((lmt sz ≤ q ∧ ha_gI N 0 7 = nI (lmt sz) ∧ ((sz ≤ 400 ∧ ha_gI N 0 8 = 0) ∨ (400 < sz ∧ ha_gI N 0 8 = 1))) ∨ (q < lmt sz ∧ ¬ blk1 (b q) ∧ ha_gI N 0 7 = nI q ∧ ∃ r, q < r ∧ r ≤ sz ∧ ha_gI N 0 6 = nI r ∧ ((isAN (b q) ∧ (∀ i, q ≤ i → i < r → isAN (b i)) ∧ (r = sz ∨ ¬ isAN (b r)) ∧ ha_gJ N 0 13 = HW b q (mn (r - q) 5) ∧ ha_gI N 0 9 = HN b q (mn (r - q) 2) ∧ (((¬ (∀ i, q ≤ i → i < r → (isL (b i) ↔ isL (b q))) ∨ (isL (b q) ∧ 5 < r - q) ∨ (¬ isL (b q) ∧ 2 < r - q)) ∧ ha_gI N 0 8 = 1) ∨ ((∀ i, q ≤ i → i < r → (isL (b i) ↔ isL (b q))) ∧ isL (b q) ∧ r - q ≤ 5 ∧ ha_gI N 0 8 = 2) ∨ ((∀ i, q ≤ i → i < r → (isL (b i) ↔ isL (b q))) ∧ ¬ isL (b q) ∧ r - q ≤ 2 ∧ ha_gI N 0 8 = 3))) ∨ (¬ isAN (b q) ∧ r = q + 1 ∧ ha_gI N 0 10 = b q ∧ (((∃ i, i < 7 ∧ b q = xo_by 0 i) ∧ ha_gI N 0 8 = 4) ∨ ((∀ i, i < 7 → b q ≠ xo_by 0 i) ∧ ha_gI N 0 8 = 1))))))
theorem mark_m (x : Int32) : Ok (f_X12_isMark x) (fun z => (z = 1 ∧ ∃ i, i < 7 ∧ x = xo_by 0 i) ∨ (z = 0 ∧ ∀ i, i < 7 → x ≠ xo_by 0 i)) := by
  have t : xo_by 0 0 = 59 ∧ xo_by 0 1 = 44 ∧ xo_by 0 2 = 43 ∧ xo_by 0 3 = 60 ∧ xo_by 0 4 = 61 ∧ xo_by 0 5 = 62 ∧ xo_by 0 6 = 35 := by decide +kernel
  obtain ⟨t0, t1, t2, t3, t4, t5, t6⟩ := t
  unfold f_X12_isMark f_X12_isMark_J42 f_X12_isMark_J47
  have yes : ∀ i, i < 7 → x = xo_by 0 i → Ok (ha_gd ((1 : Int32) = 0 ∨ (1 : Int32) = 1) (some (1 : Int32))) (fun z => (z = 1 ∧ ∃ i, i < 7 ∧ x = xo_by 0 i) ∨ (z = 0 ∧ ∀ i, i < 7 → x ≠ xo_by 0 i)) := fun i hi h => ok_gd (Or.inr rfl) (ok_some (Or.inl ⟨rfl, i, hi, h⟩))
  refine ok_if (fun c => yes 0 (by omega) (by rw [t0]; exact c)) (fun c0 => ok_if (fun c => yes 1 (by omega) (by rw [t1]; exact c)) (fun c1 => ok_if (fun c => yes 2 (by omega) (by rw [t2]; exact c)) (fun c2 => ok_if (fun c => yes 3 (by omega) (by rw [t3]; exact c)) (fun c3 => ok_if (fun c => yes 4 (by omega) (by rw [t4]; exact c)) (fun c4 => ok_if (fun c => yes 5 (by omega) (by rw [t5]; exact c)) (fun c5 => ?_))))))
  by_cases c : x = 35
  · exact ok_ie (fun h => h c) (yes 6 (by omega) (by rw [t6]; exact c))
  · refine ok_it c (ok_gd (Or.inl rfl) (ok_some (Or.inr ⟨rfl, fun i hi => ?_⟩)))
    rcases (show i = 0 ∨ i = 1 ∨ i = 2 ∨ i = 3 ∨ i = 4 ∨ i = 5 ∨ i = 6 by omega) with rfl | rfl | rfl | rfl | rfl | rfl | rfl
    · rw [t0]; exact c0
    · rw [t1]; exact c1
    · rw [t2]; exact c2
    · rw [t3]; exact c3
    · rw [t4]; exact c4
    · rw [t5]; exact c5
    · rw [t6]; exact c
theorem mA1 {M : ha_St} (h : IM M) : ha_rf mo_kd M 0 1 100 = some 2 := mr h 1 100
theorem mL2 : mo_ln 2 = 440 := by decide +kernel
theorem byte_m {M : ha_St} {b : Nat → Int32} {sz i : Nat} (hIM : IM M) (hb : ha_gA M 2 = b) (h5 : ha_gI M 0 5 = nI sz) (hsz : sz ≤ 440) (hi : i ≤ 440) : f_X12_byteAt 0 (nI i) M = some (if i < sz then b i else 0, M) := by
  unfold f_X12_byteAt f_X12_byteAt_J18
  rw [h5]
  by_cases c : i < sz
  · rw [pw_ie (nI_ge c (by omega)), mA1 hIM, pw_bs, pw_gd (by rw [mL2]; exact n_in (by omega) (by omega)), nI_clamp (by omega), hb, if_pos c]
  · rw [pw_it (nI_le (by omega) (by omega)), if_neg c]
theorem an0 : ¬ isL 0 ∧ ¬ isDg 0 := by unfold isL isDg; decide
theorem go_m {M : ha_St} {b : Nat → Int32} {sz p : Nat} (hIM : IM M) (hb : ha_gA M 2 = b) (h5 : ha_gI M 0 5 = nI sz) (hsz : sz ≤ 440) (h6 : ha_gI M 0 6 = nI p) (hp : p ≤ sz) : Ok (f_X12_go 0 M) (fun N => F4 M N ∧ GT b sz p N) := by
  have hlm := lmt_le sz
  have iY : ∀ Y, F4 M Y → IM Y := fun Y hY => IM_c hY.1 hIM
  have bY : ∀ Y, F4 M Y → ha_gA Y 2 = b := fun Y hY => by rw [hY.2.1]; exact hb
  have sY : ∀ Y, F4 M Y → ha_gI Y 0 5 = nI sz := fun Y hY => (hY.2.2 5 (by omega)).trans h5
  unfold f_X12_go
  refine ok_bind (P := fun Y => ∃ q, F4 M Y ∧ ha_gI Y 0 6 = nI q ∧ p ≤ q ∧ q ≤ sz ∧ (∀ i, p ≤ i → i < q → blk1 (b i)) ∧ (q = sz ∨ (q < sz ∧ ¬ blk1 (b q)))) ?_ ?_
  · refine ok_wh (fun Y : ha_St => ∃ q, F4 M Y ∧ ha_gI Y 0 6 = nI q ∧ p ≤ q ∧ q ≤ sz ∧ (∀ i, p ≤ i → i < q → blk1 (b i))) (fun Y => 440 - tn (ha_gI Y 0 6)) _ ?_ ha_fu M ⟨p, F4_r M, h6, Nat.le_refl _, hp, fun i a c => by omega⟩ (fu_lt (by omega))
    rintro f Y ⟨q, y1, y2, y3, y4, y5⟩ ih
    show Ok (f_X12_go_L0 0 f Y) _
    unfold f_X12_go_L0 f_X12_go_L0_J39
    rw [sY Y y1, y2]
    by_cases c : q < sz
    · have go : blk1 (b q) → Ok (ha_nm (ha_sI Y 0 6 (nI q + 1)) fun S47 => f S47) (fun Y => ∃ q, F4 M Y ∧ ha_gI Y 0 6 = nI q ∧ p ≤ q ∧ q ≤ sz ∧ (∀ i, p ≤ i → i < q → blk1 (b i)) ∧ (q = sz ∨ (q < sz ∧ ¬ blk1 (b q)))) := by
        intro hq
        rw [pw_nm, nI_1]
        refine ih _ ⟨q + 1, F4_t y1 (F4_s Y 6 _ (by omega)), by rw [st_II, if_pos ⟨rfl, rfl⟩], by omega, by omega, fun i a d => ?_⟩ ?_
        · by_cases e : i = q
          · rw [e]; exact hq
          · exact y5 i a (by omega)
        · rw [st_II, if_pos ⟨rfl, rfl⟩, y2, tn_n (by omega), tn_n (by omega)]
          omega
      refine ok_ie (nI_ge c (by omega)) (ok_b (mA1 (iY Y y1)) (ok_gd (by rw [mL2]; exact n_in (by omega) (by omega)) ?_))
      rw [nI_clamp (by omega), bY Y y1]
      by_cases d : b q = 32
      · exact ok_it d (go (Or.inl d))
      · refine ok_ie d (ok_b (mA1 (iY Y y1)) (ok_gd (by rw [mL2]; exact n_in2 (by omega) (by omega)) ?_))
        rw [bY Y y1]
        by_cases d2 : b q = 10
        · exact ok_ie (fun h => h d2) (go (Or.inr d2))
        · exact ok_it d2 (ok_some ⟨q, y1, y2, y3, y4, y5, Or.inr ⟨c, fun h => h.elim d d2⟩⟩)
    · exact ok_it (nI_le (by omega) (by omega)) (ok_some ⟨q, y1, y2, y3, y4, y5, Or.inl (by omega)⟩)
  · rintro Y ⟨q, y1, y2, y3, y4, y5, y6⟩
    unfold f_X12_go_J52
    rw [pw_nm, y2]
    generalize hZ : ha_sI Y 0 7 (nI q) = Z
    have z1 : F4 M Z := by rw [← hZ]; exact F4_t y1 (F4_s Y 7 _ (by omega))
    have z6 : ha_gI Z 0 6 = nI q := by rw [← hZ, st_II, if_neg (by omega)]; exact y2
    have z7 : ha_gI Z 0 7 = nI q := by rw [← hZ, st_II, if_pos ⟨rfl, rfl⟩]
    rw [sY Z z1, z7]
    have main : (sz ≤ 400 ∨ q < 400) → Ok (f_X12_go_J93 0 Z) (fun N => F4 M N ∧ GT b sz p N) := by
      intro h4
      have hl : q < sz → q < lmt sz := fun h => by
        unfold lmt
        by_cases c : 400 < sz
        · rw [if_pos c]; omega
        · rw [if_neg c]; exact h
      unfold f_X12_go_J93
      rw [z6, sY Z z1]
      by_cases c : q < sz
      · have hnb : ¬ blk1 (b q) := by
          rcases y6 with y6 | y6
          · omega
          · exact y6.2
        refine ok_it (nI_lt c (by omega)) (ok_b (mA1 (iY Z z1)) (ok_gd (by rw [mL2]; exact n_in (by omega) (by omega)) ?_))
        rw [nI_clamp (by omega), bY Z z1, pw_nm]
        -- letters and digits
        have run : isAN (b q) → Ok (f_X12_go_J166 0 (b q) Z) (fun N => F4 M N ∧ GT b sz p N) := by
          intro han
          unfold f_X12_go_J166
          refine ok_bind (isLet_m (b q)) ?_
          intro fl hfl
          have hflv : (fl = 0 ∨ fl = 1) ∧ (fl = 1 ↔ isL (b q)) := by
            rcases hfl with ⟨rfl, h⟩ | ⟨rfl, h⟩
            · exact ⟨Or.inr rfl, fun _ => h, fun _ => rfl⟩
            · exact ⟨Or.inl rfl, fun g => absurd g (by decide), fun g => absurd g h⟩
          simp only [pw_nm]
          refine ok_bind (P := fun z => ∃ r gd Y, z = (fl, gd, Y) ∧ F4 M Y ∧ ha_gI Y 0 7 = nI q ∧ ha_gI Y 0 6 = nI r ∧ q < r ∧ r ≤ sz ∧ (∀ i, q ≤ i → i < r → isAN (b i)) ∧ (r = sz ∨ ¬ isAN (b r)) ∧ ha_gJ Y 0 13 = HW b q (mn (r - q) 5) ∧ ha_gI Y 0 9 = HN b q (mn (r - q) 2) ∧ ((gd = 1 ∧ ∀ i, q ≤ i → i < r → (isL (b i) ↔ isL (b q))) ∨ (gd = 0 ∧ ¬ ∀ i, q ≤ i → i < r → (isL (b i) ↔ isL (b q))))) ?_ ?_
          · refine ok_wh (fun a : Int32 × Int32 × ha_St => ∃ r, a.1 = fl ∧ F4 M a.2.2 ∧ ha_gI a.2.2 0 7 = nI q ∧ ha_gI a.2.2 0 6 = nI r ∧ q ≤ r ∧ r ≤ sz ∧ (∀ i, q ≤ i → i < r → isAN (b i)) ∧ ha_gJ a.2.2 0 13 = HW b q (mn (r - q) 5) ∧ ha_gI a.2.2 0 9 = HN b q (mn (r - q) 2) ∧ ((a.2.1 = 1 ∧ ∀ i, q ≤ i → i < r → (isL (b i) ↔ isL (b q))) ∨ (a.2.1 = 0 ∧ ¬ ∀ i, q ≤ i → i < r → (isL (b i) ↔ isL (b q))))) (fun a => 440 - tn (ha_gI a.2.2 0 6)) _ ?_ ha_fu _ ⟨q, rfl, F4_t z1 (F4_t (F4_j Z _) (F4_s _ 9 _ (by omega))), by rw [st_II, if_neg (by omega)]; exact z7, by rw [st_II, if_neg (by omega)]; exact z6, Nat.le_refl _, by omega, fun i a d => by omega, by rw [Nat.sub_self]; rfl, by rw [Nat.sub_self]; rfl, Or.inl ⟨rfl, fun i a d => by omega⟩⟩ (fu_lt (by omega))
            rintro f ⟨v2, gd, W⟩ ⟨r, w1, w2, w3, w4, w5, w6, w7, w8, w9, w10⟩ ih
            dsimp only at w1 w2 w3 w4 w8 w9 w10
            subst w1
            show Ok (f_X12_go_L183 0 f v2 gd W) _
            -- one byte more
            have more : r < sz → isAN (b r) → Ok (f_X12_go_L183_J211 0 f v2 gd W) (fun z => ∃ r gd Y, z = (v2, gd, Y) ∧ F4 M Y ∧ ha_gI Y 0 7 = nI q ∧ ha_gI Y 0 6 = nI r ∧ q < r ∧ r ≤ sz ∧ (∀ i, q ≤ i → i < r → isAN (b i)) ∧ (r = sz ∨ ¬ isAN (b r)) ∧ ha_gJ Y 0 13 = HW b q (mn (r - q) 5) ∧ ha_gI Y 0 9 = HN b q (mn (r - q) 2) ∧ ((gd = 1 ∧ ∀ i, q ≤ i → i < r → (isL (b i) ↔ isL (b q))) ∨ (gd = 0 ∧ ¬ ∀ i, q ≤ i → i < r → (isL (b i) ↔ isL (b q))))) := by
              intro hr hra
              unfold f_X12_go_L183_J211 f_X12_go_L183_J239
              refine ok_b (mA1 (iY W w2)) ?_
              rw [w4]
              refine ok_gd (by rw [mL2]; exact n_in (by omega) (by omega)) ?_
              rw [nI_clamp (by omega), bY W w2, pw_nm]
              have next : ∀ g' : Int32, ((g' = 1 ∧ ∀ i, q ≤ i → i < r + 1 → (isL (b i) ↔ isL (b q))) ∨ (g' = 0 ∧ ¬ ∀ i, q ≤ i → i < r + 1 → (isL (b i) ↔ isL (b q)))) → Ok (f_X12_go_L183_J240 0 f v2 (b r) g' W) (fun z => ∃ r gd Y, z = (v2, gd, Y) ∧ F4 M Y ∧ ha_gI Y 0 7 = nI q ∧ ha_gI Y 0 6 = nI r ∧ q < r ∧ r ≤ sz ∧ (∀ i, q ≤ i → i < r → isAN (b i)) ∧ (r = sz ∨ ¬ isAN (b r)) ∧ ha_gJ Y 0 13 = HW b q (mn (r - q) 5) ∧ ha_gI Y 0 9 = HN b q (mn (r - q) 2) ∧ ((gd = 1 ∧ ∀ i, q ≤ i → i < r → (isL (b i) ↔ isL (b q))) ∨ (gd = 0 ∧ ¬ ∀ i, q ≤ i → i < r → (isL (b i) ↔ isL (b q))))) := by
                intro g' hg'
                have fin : ∀ V : ha_St, F4 M V → ha_gI V 0 7 = nI q → ha_gI V 0 6 = nI r → ha_gJ V 0 13 = HW b q (mn (r + 1 - q) 5) → ha_gI V 0 9 = HN b q (mn (r - q) 2) → Ok (f_X12_go_L183_J274 0 f v2 g' (b r) V) (fun z => ∃ r gd Y, z = (v2, gd, Y) ∧ F4 M Y ∧ ha_gI Y 0 7 = nI q ∧ ha_gI Y 0 6 = nI r ∧ q < r ∧ r ≤ sz ∧ (∀ i, q ≤ i → i < r → isAN (b i)) ∧ (r = sz ∨ ¬ isAN (b r)) ∧ ha_gJ Y 0 13 = HW b q (mn (r - q) 5) ∧ ha_gI Y 0 9 = HN b q (mn (r - q) 2) ∧ ((gd = 1 ∧ ∀ i, q ≤ i → i < r → (isL (b i) ↔ isL (b q))) ∨ (gd = 0 ∧ ¬ ∀ i, q ≤ i → i < r → (isL (b i) ↔ isL (b q))))) := by
                  intro V v1 v7 v6 v13 v9
                  have lst : ∀ U : ha_St, F4 M U → ha_gI U 0 7 = nI q → ha_gI U 0 6 = nI r → ha_gJ U 0 13 = HW b q (mn (r + 1 - q) 5) → ha_gI U 0 9 = HN b q (mn (r + 1 - q) 2) → Ok (f_X12_go_L183_J304 0 f v2 g' U) (fun z => ∃ r gd Y, z = (v2, gd, Y) ∧ F4 M Y ∧ ha_gI Y 0 7 = nI q ∧ ha_gI Y 0 6 = nI r ∧ q < r ∧ r ≤ sz ∧ (∀ i, q ≤ i → i < r → isAN (b i)) ∧ (r = sz ∨ ¬ isAN (b r)) ∧ ha_gJ Y 0 13 = HW b q (mn (r - q) 5) ∧ ha_gI Y 0 9 = HN b q (mn (r - q) 2) ∧ ((gd = 1 ∧ ∀ i, q ≤ i → i < r → (isL (b i) ↔ isL (b q))) ∨ (gd = 0 ∧ ¬ ∀ i, q ≤ i → i < r → (isL (b i) ↔ isL (b q))))) := by
                    intro U u1 u7 u6 u13 u9
                    unfold f_X12_go_L183_J304
                    rw [pw_nm, u6, nI_1]
                    refine ih _ ⟨r + 1, rfl, F4_t u1 (F4_s U 6 _ (by omega)), by rw [st_II, if_neg (by omega)]; exact u7, by rw [st_II, if_pos ⟨rfl, rfl⟩], by omega, by omega, fun i a d => ?_, u13, by rw [st_II, if_neg (by omega)]; exact u9, hg'⟩ ?_
                    · by_cases e : i = r
                      · rw [e]; exact hra
                      · exact w7 i a (by omega)
                    · dsimp only
                      rw [st_II, if_pos ⟨rfl, rfl⟩, w4, tn_n (by omega), tn_n (by omega)]
                      omega
                  unfold f_X12_go_L183_J274
                  rw [v6, v7, n_sub (by omega)]
                  by_cases d : r - q < 2
                  · refine ok_ie (show ¬ nI 2 ≤ nI (r - q) from nI_ge d (by omega)) ?_
                    rw [pw_nm]
                    refine lst _ (F4_t v1 (F4_s V 9 _ (by omega))) (by rw [st_II, if_neg (by omega)]; exact v7) (by rw [st_II, if_neg (by omega)]; exact v6) v13 ?_
                    rw [st_II, if_pos ⟨rfl, rfl⟩, v9]
                    have m1 : mn (r - q) 2 = r - q := by unfold mn; rw [if_pos d]
                    have m2 : mn (r + 1 - q) 2 = r - q + 1 := by unfold mn; by_cases e : r + 1 - q < 2 <;> simp [e] <;> omega
                    rw [m1, m2]
                    show _ = 10 * HN b q (r - q) + b (q + (r - q)) - 48
                    rw [show q + (r - q) = r by omega]
                  · refine ok_it (show nI 2 ≤ nI (r - q) from nI_le (by omega) (by omega)) (lst V v1 v7 v6 v13 ?_)
                    rw [v9]
                    unfold mn
                    rw [if_neg (by omega), if_neg (by omega)]
                unfold f_X12_go_L183_J240
                rw [w4, w3, n_sub (by omega)]
                by_cases d : r - q < 5
                · refine ok_ie (show ¬ nI 5 ≤ nI (r - q) from nI_ge d (by omega)) ?_
                  rw [pw_nm]
                  refine fin _ (F4_t w2 (F4_j W _)) w3 w4 ?_ w9
                  rw [st_JJ, if_pos ⟨rfl, rfl⟩, w8]
                  have m1 : mn (r - q) 5 = r - q := by unfold mn; rw [if_pos d]
                  have m2 : mn (r + 1 - q) 5 = r - q + 1 := by unfold mn; by_cases e : r + 1 - q < 5 <;> simp [e] <;> omega
                  rw [m1, m2]
                  show _ = 27 * HW b q (r - q) + (b (q + (r - q))).toInt64 - 96
                  rw [show q + (r - q) = r by omega]
                · refine ok_it (show nI 5 ≤ nI (r - q) from nI_le (by omega) (by omega)) (fin W w2 w3 w4 ?_ w9)
                  rw [w8]
                  unfold mn
                  rw [if_neg (by omega), if_neg (by omega)]
              rcases w10 with ⟨g1, g2⟩ | ⟨g1, g2⟩
              · refine ok_ie (by rw [g1]; decide) (ok_bind (isLet_m (b r)) ?_)
                intro y hy
                have hyy : y = v2 ↔ (isL (b r) ↔ isL (b q)) := by
                  rcases hy with ⟨rfl, hy⟩ | ⟨rfl, hy⟩
                  · constructor
                    · intro h; exact ⟨fun _ => hflv.2.mp h.symm, fun _ => hy⟩
                    · intro h; exact (hflv.2.mpr (h.mp hy)).symm
                  · constructor
                    · intro h; exact ⟨fun g => absurd g hy, fun g => by have := hflv.2.mpr g; rw [← h] at this; exact absurd this (by decide)⟩
                    · intro h
                      rcases hflv.1 with e | e
                      · exact e.symm
                      · exact absurd (h.mpr (hflv.2.mp e)) hy
                by_cases e : y = v2
                · refine ok_ie (fun h => h e) (next 1 (Or.inl ⟨rfl, fun i a d => ?_⟩))
                  by_cases k : i = r
                  · rw [k]; exact hyy.mp e
                  · exact g2 i a (by omega)
                · exact ok_it e (next 0 (Or.inr ⟨rfl, fun h => e (hyy.mpr (h r (by omega) (by omega)))⟩))
              · exact ok_it g1 (next 0 (Or.inr ⟨rfl, fun h => g2 (fun i a d => h i a (by omega))⟩))
            unfold f_X12_go_L183
            have hbt := byte_m (i := r) (iY W w2) (bY W w2) (sY W w2) hsz (by omega)
            rw [w4, hbt, pw_bs]
            have stop : (r = sz ∨ ¬ isAN (b r)) → q < r := fun h => by
              by_cases e : q = r
              · rcases h with h | h
                · omega
                · rw [← e] at h; exact absurd han h
              · omega
            by_cases e : r < sz
            · rw [if_pos e]
              refine ok_bind (isLet_m (b r)) ?_
              rintro u (⟨rfl, hu⟩ | ⟨rfl, hu⟩)
              · exact ok_it (by decide) (more e (Or.inl hu))
              · refine ok_ie (fun h => h rfl) ?_
                dsimp only
                rw [w4, hbt, pw_bs, if_pos e]
                refine ok_bind (isDigit_m (b r)) ?_
                rintro u2 (⟨rfl, hu2⟩ | ⟨rfl, hu2⟩)
                · exact ok_ie (by decide) (more e (Or.inr hu2))
                · have hna : ¬ isAN (b r) := fun h => h.elim hu hu2
                  exact ok_it rfl (ok_some ⟨r, gd, W, rfl, w2, w3, w4, stop (Or.inr hna), w6, w7, Or.inr hna, w8, w9, w10⟩)
            · rw [if_neg e]
              refine ok_bind (isLet_m 0) ?_
              rintro u (⟨rfl, hu⟩ | ⟨rfl, hu⟩)
              · exact absurd hu an0.1
              · refine ok_ie (fun h => h rfl) ?_
                dsimp only
                rw [w4, hbt, pw_bs, if_neg e]
                refine ok_bind (isDigit_m 0) ?_
                rintro u2 (⟨rfl, hu2⟩ | ⟨rfl, hu2⟩)
                · exact absurd hu2 an0.2
                · exact ok_it rfl (ok_some ⟨r, gd, W, rfl, w2, w3, w4, stop (Or.inl (by omega)), w6, w7, Or.inl (by omega), w8, w9, w10⟩)
          · rintro z ⟨r, gd, W, rfl, w2, w3, w4, w5, w6, w7, w7', w8, w9, w10⟩
            unfold f_X12_go_J317 f_X12_go_J343
            dsimp only
            have put : ∀ k : Int32, (((¬ (∀ i, q ≤ i → i < r → (isL (b i) ↔ isL (b q))) ∨ (isL (b q) ∧ 5 < r - q) ∨ (¬ isL (b q) ∧ 2 < r - q)) ∧ k = 1) ∨ ((∀ i, q ≤ i → i < r → (isL (b i) ↔ isL (b q))) ∧ isL (b q) ∧ r - q ≤ 5 ∧ k = 2) ∨ ((∀ i, q ≤ i → i < r → (isL (b i) ↔ isL (b q))) ∧ ¬ isL (b q) ∧ r - q ≤ 2 ∧ k = 3)) → Ok (f_X12_go_J356 0 0 k W) (fun N => F4 M N ∧ GT b sz p N) := by
              intro k hk
              unfold f_X12_go_J356
              rw [pw_nm]
              refine ok_some ⟨F4_t w2 (F4_s W 8 _ (by omega)), q, y3, y5, Or.inr ⟨hl c, hnb, ?_, r, w5, w6, ?_, Or.inl ⟨han, w7, w7', w8, ?_, ?_⟩⟩⟩
              · rw [st_II, if_neg (by omega)]; exact w3
              · rw [st_II, if_neg (by omega)]; exact w4
              · rw [st_II, if_neg (by omega)]; exact w9
              · rw [st_II, if_pos ⟨rfl, rfl⟩]; exact hk
            rcases w10 with ⟨g1, g2⟩ | ⟨g1, g2⟩
            · refine ok_ie (by rw [g1]; decide) ?_
              unfold f_X12_go_J340 f_X12_go_J343
              rw [w4, w3, n_sub (by omega)]
              by_cases d : isL (b q)
              · have f1 : fl = 1 := hflv.2.mpr d
                refine ok_ie (by rw [f1]; decide) ?_
                by_cases e : r - q ≤ 5
                · exact ok_it (show nI (r - q) ≤ nI 5 from nI_le e (by omega)) (ok_ie (by rw [f1]; decide) (put 2 (Or.inr (Or.inl ⟨g2, d, e, rfl⟩))))
                · exact ok_ie (show ¬ nI (r - q) ≤ nI 5 from nI_ge (by omega) (by omega)) (put 1 (Or.inl ⟨Or.inr (Or.inl ⟨d, by omega⟩), rfl⟩))
              · have f1 : fl = 0 := hflv.1.resolve_right (fun h => d (hflv.2.mp h))
                refine ok_it f1 ?_
                by_cases e : r - q ≤ 2
                · exact ok_it (show nI (r - q) ≤ nI 2 from nI_le e (by omega)) (ok_it f1 (put 3 (Or.inr (Or.inr ⟨g2, d, e, rfl⟩))))
                · exact ok_ie (show ¬ nI (r - q) ≤ nI 2 from nI_ge (by omega) (by omega)) (put 1 (Or.inl ⟨Or.inr (Or.inr ⟨d, by omega⟩), rfl⟩))
            · exact ok_it g1 (put 1 (Or.inl ⟨Or.inl g2, rfl⟩))
        refine ok_bind (isLet_m (b q)) ?_
        rintro u (⟨rfl, hu⟩ | ⟨rfl, hu⟩)
        · exact ok_it (by decide) (run (Or.inl hu))
        · refine ok_ie (fun h => h rfl) (ok_bind (isDigit_m (b q)) ?_)
          rintro u2 (⟨rfl, hu2⟩ | ⟨rfl, hu2⟩)
          · exact ok_it (by decide) (run (Or.inr hu2))
          · refine ok_ie (fun h => h rfl) (ok_bind (mark_m (b q)) ?_)
            have hna : ¬ isAN (b q) := fun h => h.elim hu hu2
            have put : ∀ k : Int32, (((∃ i, i < 7 ∧ b q = xo_by 0 i) ∧ k = 4) ∨ ((∀ i, i < 7 → b q ≠ xo_by 0 i) ∧ k = 1)) → Ok (f_X12_go_J147 0 (b q) 0 k Z) (fun N => F4 M N ∧ GT b sz p N) := by
              intro k hk
              unfold f_X12_go_J147
              simp only [pw_nm]
              refine ok_some ⟨F4_t z1 (F4_t (F4_s Z 8 _ (by omega)) (F4_t (F4_s _ 10 _ (by omega)) (F4_s _ 6 _ (by omega)))), q, y3, y5, Or.inr ⟨hl c, hnb, ?_, q + 1, by omega, by omega, ?_, Or.inr ⟨hna, rfl, ?_, ?_⟩⟩⟩
              · rw [st_II, if_neg (by omega), st_II, if_neg (by omega), st_II, if_neg (by omega)]; exact z7
              · rw [st_II, if_pos ⟨rfl, rfl⟩, st_II, if_neg (by omega), st_II, if_neg (by omega), z6, nI_1]
              · rw [st_II, if_neg (by omega), st_II, if_pos ⟨rfl, rfl⟩]
              · rw [st_II, if_neg (by omega), st_II, if_neg (by omega), st_II, if_pos ⟨rfl, rfl⟩]; exact hk
            rintro u3 (⟨rfl, hu3⟩ | ⟨rfl, hu3⟩)
            · exact ok_ie (by decide) (put 4 (Or.inl ⟨hu3, rfl⟩))
            · exact ok_it rfl (put 1 (Or.inr ⟨hu3, rfl⟩))
      · refine ok_ie (nI_nlt (by omega) (by omega)) ?_
        rw [pw_nm]
        have hs4 : sz ≤ 400 := by omega
        have hle : lmt sz = sz := by unfold lmt; rw [if_neg (by omega)]
        refine ok_some ⟨F4_t z1 (F4_s Z 8 _ (by omega)), q, y3, y5, Or.inl ⟨by omega, ?_, Or.inl ⟨hs4, ?_⟩⟩⟩
        · rw [st_II, if_neg (by omega), z7, hle, show q = sz by omega]
        · rw [st_II, if_pos ⟨rfl, rfl⟩]
    by_cases c : sz ≤ 400
    · exact ok_it (show nI sz ≤ nI 400 from nI_le c (by omega)) (main (Or.inl c))
    · refine ok_ie (show ¬ nI sz ≤ nI 400 from nI_ge (by omega) (by omega)) ?_
      by_cases d : q < 400
      · exact ok_it (show nI q < nI 400 from nI_lt d (by omega)) (main (Or.inr d))
      · refine ok_ie (show ¬ nI q < nI 400 from nI_nlt (by omega) (by omega)) ?_
        simp only [pw_nm]
        have hle : lmt sz = 400 := by unfold lmt; rw [if_pos (by omega)]
        refine ok_some ⟨F4_t z1 (F4_t (F4_s Z 7 _ (by omega)) (F4_s _ 8 _ (by omega))), q, y3, y5, Or.inl ⟨by omega, ?_, Or.inr ⟨by omega, ?_⟩⟩⟩
        · rw [st_II, if_neg (by omega), st_II, if_pos ⟨rfl, rfl⟩, hle]; rfl
        · rw [st_II, if_pos ⟨rfl, rfl⟩]
