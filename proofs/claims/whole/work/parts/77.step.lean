/-! the class's step: where the token stands, how far it goes, its code -/
def LX (b : Nat → Int32) (sz p : Nat) (Y : ha_St) : Prop := ∃ q, p ≤ q ∧ (∀ i, p ≤ i → i < q → blk1 (b i)) ∧ ((lmt sz ≤ q ∧ q ≤ sz ∧ ha_gI Y 3 3 = -2 ∧ ha_gI Y 3 4 = nI (lmt sz)) ∨ (q < lmt sz ∧ ¬ blk1 (b q) ∧ ha_gI Y 3 4 = nI q ∧ ∃ r, q < r ∧ r ≤ sz ∧ ha_gI Y 3 5 = nI r ∧ ((isAN (b q) ∧ (∀ i, q ≤ i → i < r → isAN (b i)) ∧ (r = sz ∨ ¬ isAN (b r)) ∧ WT b q r (ha_gI Y 3 3)) ∨ (¬ isAN (b q) ∧ r = q + 1 ∧ MT (b q) (ha_gI Y 3 3)))))
theorem lmt_le (sz : Nat) : lmt sz ≤ sz ∧ lmt sz ≤ 400 := by
  unfold lmt
  by_cases c : 400 < sz
  · rw [if_pos c]; omega
  · rw [if_neg c]; omega
theorem step_x {X : ha_St} {b : Nat → Int32} {sz p : Nat} (h0 : ha_gR X 3 0 = some 116) (hb : ha_gA X 116 = b) (h1 : ha_gI X 3 1 = nI sz) (hsz : sz ≤ 440) (h5 : ha_gI X 3 5 = nI p) (hp : p ≤ sz) (hbr : ∀ j, 0 ≤ (b j).toInt ∧ (b j).toInt ≤ 255) : Ok (f_X9_step 3 X) (fun Y => F3 X Y ∧ LX b sz p Y) := by
  have hx : xo_ln 116 = 440 := by decide +kernel
  have hk : xo_kd 116 = 100 := by decide +kernel
  have hlm := lmt_le sz
  have rfY : ∀ Y, F3 X Y → ha_rf xo_kd Y 3 0 100 = some 116 := fun Y hY => pw_rf (by rw [hY.1]; exact h0) hk
  unfold f_X9_step
  have e31 : (if (400 : Int32) < ha_gI X 3 1 then 400 else ha_gI X 3 1) = nI (lmt sz) := by
    rw [h1]
    unfold lmt
    by_cases c : 400 < sz
    · rw [if_pos (show (400 : Int32) < nI sz from nI_lt (a := 400) c (by omega)), if_pos c]; rfl
    · rw [if_neg (show ¬ (400 : Int32) < nI sz from nI_nlt (a := 400) (by omega) (by omega)), if_neg c]
  rw [e31, pw_nm, pw_nm, h5]
  -- blanks
  refine ok_bind (P := fun z => ∃ q Y, z = (nI (lmt sz), Y) ∧ F3 X Y ∧ ha_gI Y 3 5 = nI p ∧ ha_gI Y 3 4 = nI q ∧ p ≤ q ∧ q ≤ sz ∧ (∀ i, p ≤ i → i < q → blk1 (b i)) ∧ (lmt sz ≤ q ∨ (q < lmt sz ∧ ¬ blk1 (b q)))) ?_ ?_
  · refine ok_wh (fun a : Int32 × ha_St => ∃ q, a.1 = nI (lmt sz) ∧ F3 X a.2 ∧ ha_gI a.2 3 5 = nI p ∧ ha_gI a.2 3 4 = nI q ∧ p ≤ q ∧ q ≤ sz ∧ (∀ i, p ≤ i → i < q → blk1 (b i))) (fun a => 440 - tn (ha_gI a.2 3 4)) _ ?_ ha_fu _ ⟨p, rfl, F3_s X 4 _ (by omega), by rw [st_II, if_neg (by omega)]; exact h5, by rw [st_II, if_pos ⟨rfl, rfl⟩], Nat.le_refl _, hp, fun i a c => by omega⟩ (fu_lt (by omega))
    rintro f ⟨v, Y⟩ ⟨q, y1, y2, y3, y4, y5, y6, y7⟩ ih
    dsimp only at y1 y2 y3 y4
    subst y1
    show Ok (f_X9_step_L19 3 f (nI (lmt sz)) Y) _
    unfold f_X9_step_L19 f_X9_step_L19_J55
    rw [y4]
    by_cases c : q < lmt sz
    · have go : blk1 (b q) → Ok (ha_nm (ha_sI Y 3 4 (nI q + 1)) fun S33 => f (nI (lmt sz), S33)) (fun z => ∃ q Y, z = (nI (lmt sz), Y) ∧ F3 X Y ∧ ha_gI Y 3 5 = nI p ∧ ha_gI Y 3 4 = nI q ∧ p ≤ q ∧ q ≤ sz ∧ (∀ i, p ≤ i → i < q → blk1 (b i)) ∧ (lmt sz ≤ q ∨ (q < lmt sz ∧ ¬ blk1 (b q)))) := by
        intro hq
        rw [pw_nm, nI_1]
        refine ih _ ⟨q + 1, rfl, F3_t y2 (F3_s Y 4 _ (by omega)), by rw [st_II, if_neg (by omega)]; exact y3, by rw [st_II, if_pos ⟨rfl, rfl⟩], by omega, by omega, fun i a d => ?_⟩ ?_
        · by_cases e : i = q
          · rw [e]; exact hq
          · exact y7 i a (by omega)
        · dsimp only
          rw [st_II, if_pos ⟨rfl, rfl⟩, y4, tn_n (by omega), tn_n (by omega)]
          omega
      refine ok_ie (nI_ge c (by omega)) (ok_b (rfY Y y2) (ok_gd (by rw [hx]; exact n_in (by omega) (by omega)) ?_))
      rw [nI_clamp (by omega), y2.2.2.1, hb]
      by_cases d : b q = 32
      · exact ok_it d (go (Or.inl d))
      · refine ok_ie d (ok_b (rfY Y y2) (ok_gd (by rw [hx]; exact n_in2 (by omega) (by omega)) ?_))
        rw [hb]
        by_cases d2 : b q = 10
        · exact ok_ie (fun h => h d2) (go (Or.inr d2))
        · exact ok_it d2 (ok_some ⟨q, Y, rfl, y2, y3, y4, y5, y6, y7, Or.inr ⟨c, fun h => h.elim d d2⟩⟩)
    · exact ok_it (nI_le (by omega) (by omega)) (ok_some ⟨q, Y, rfl, y2, y3, y4, y5, y6, y7, Or.inl (by omega)⟩)
  · rintro z ⟨q, Y, rfl, y1, y2, y3, y4, y5, y6, y7⟩
    unfold f_X9_step_J68
    dsimp only
    rw [y3]
    rcases y7 with y7 | ⟨y7, y8⟩
    · refine ok_ie (nI_nlt y7 (by omega)) ?_
      simp only [pw_nm]
      refine ok_some ⟨F3_t y1 (F3_t (F3_s Y 4 _ (by omega)) (F3_s _ 3 _ (by omega))), q, y4, y6, Or.inl ⟨y7, y5, ?_, ?_⟩⟩
      · rw [st_II, if_pos ⟨rfl, rfl⟩]
      · rw [st_II, if_neg (by omega), st_II, if_pos ⟨rfl, rfl⟩]
    · refine ok_it (nI_lt y7 (by omega)) ?_
      rw [pw_nm]
      -- letters and digits
      refine ok_bind (P := fun Z => F3 X Z ∧ ha_gI Z 3 4 = nI q ∧ ∃ r, ha_gI Z 3 5 = nI r ∧ q ≤ r ∧ r ≤ sz ∧ (∀ i, q ≤ i → i < r → isAN (b i)) ∧ (r = sz ∨ ¬ isAN (b r))) ?_ ?_
      · refine ok_wh (fun Z : ha_St => F3 X Z ∧ ha_gI Z 3 4 = nI q ∧ ∃ r, ha_gI Z 3 5 = nI r ∧ q ≤ r ∧ r ≤ sz ∧ (∀ i, q ≤ i → i < r → isAN (b i))) (fun Z => 440 - tn (ha_gI Z 3 5)) _ ?_ ha_fu _ ⟨F3_t y1 (F3_s Y 5 _ (by omega)), by rw [st_II, if_neg (by omega)]; exact y3, q, by rw [st_II, if_pos ⟨rfl, rfl⟩], Nat.le_refl _, y5, fun i a c => by omega⟩ (fu_lt (by omega))
        rintro f Z ⟨z1, z2, r, z3, z4, z5, z6⟩ ih
        show Ok (f_X9_step_L96 3 f Z) _
        unfold f_X9_step_L96 f_X9_step_L96_J137
        rw [z3, z1.2.2.2 3 1 (by omega), h1]
        by_cases c : r < sz
        · have go : isAN (b r) → Ok (ha_nm (ha_sI Z 3 5 (nI r + 1)) fun S17 => f S17) (fun Z => F3 X Z ∧ ha_gI Z 3 4 = nI q ∧ ∃ r, ha_gI Z 3 5 = nI r ∧ q ≤ r ∧ r ≤ sz ∧ (∀ i, q ≤ i → i < r → isAN (b i)) ∧ (r = sz ∨ ¬ isAN (b r))) := by
            intro hr
            rw [pw_nm, nI_1]
            refine ih _ ⟨F3_t z1 (F3_s Z 5 _ (by omega)), by rw [st_II, if_neg (by omega)]; exact z2, r + 1, by rw [st_II, if_pos ⟨rfl, rfl⟩], by omega, by omega, fun i a d => ?_⟩ ?_
            · by_cases e : i = r
              · rw [e]; exact hr
              · exact z6 i a (by omega)
            · rw [st_II, if_pos ⟨rfl, rfl⟩, z3, tn_n (by omega), tn_n (by omega)]
              omega
          refine ok_ie (nI_ge c (by omega)) (ok_b (rfY Z z1) (ok_gd (by rw [hx]; exact n_in (by omega) (by omega)) ?_))
          rw [nI_clamp (by omega), z1.2.2.1, hb]
          refine ok_bind (isLet_x (b r)) ?_
          rintro u (⟨rfl, hu⟩ | ⟨rfl, hu⟩)
          · exact ok_it (by decide) (go (Or.inl hu))
          · refine ok_ie (fun h => h rfl) (ok_b (rfY Z z1) (ok_gd (by rw [hx]; exact n_in2 (by omega) (by omega)) ?_))
            rw [hb]
            refine ok_bind (isDigit_x (b r)) ?_
            rintro w (⟨rfl, hw⟩ | ⟨rfl, hw⟩)
            · exact ok_ie (by decide) (go (Or.inr hw))
            · exact ok_it rfl (ok_some ⟨z1, z2, r, z3, z4, z5, z6, Or.inr (fun h => h.elim hu hw)⟩)
        · exact ok_it (nI_le (by omega) (by omega)) (ok_some ⟨z1, z2, r, z3, z4, z5, z6, Or.inl (by omega)⟩)
      · rintro Z ⟨z1, z2, r, z3, z4, z5, z6, z7⟩
        unfold f_X9_step_J150
        rw [z3, z2]
        have h0Z : ha_gR Z 3 0 = some 116 := by rw [z1.1]; exact h0
        have hbZ : ha_gA Z 116 = b := by rw [z1.2.2.1]; exact hb
        by_cases c : q < r
        · refine ok_ie (nI_ge c (by omega)) (ok_b (rfY Z z1) (ok_gd (by rw [hx]; exact n_in (by omega) (by omega)) ?_))
          rw [nI_clamp (by omega), hbZ]
          have fin : ∀ tok : Int32, WT b q r tok → Ok (f_X9_step_J188 3 3 tok Z) (fun Y => F3 X Y ∧ LX b sz p Y) := by
            intro tok ht
            unfold f_X9_step_J188
            rw [pw_nm]
            refine ok_some ⟨F3_t z1 (F3_s Z 3 _ (by omega)), q, y4, y6, Or.inr ⟨y7, y8, ?_, r, c, z5, ?_, Or.inl ⟨z6 q (Nat.le_refl _) c, z6, z7, ?_⟩⟩⟩
            · rw [st_II, if_neg (by omega)]; exact z2
            · rw [st_II, if_neg (by omega)]; exact z3
            · rw [st_II, if_pos ⟨rfl, rfl⟩]; exact ht
          refine ok_bind (isDigit_x (b q)) ?_
          rintro u (⟨rfl, hu⟩ | ⟨rfl, hu⟩)
          · refine ok_ie (by decide) (ok_bind (num_x h0Z hbZ z2 z3 c (by omega) hu) ?_)
            rintro ⟨w, W⟩ ⟨e1, e2⟩
            dsimp only at e1 e2 ⊢
            subst e1
            exact fin w e2
          · refine ok_it rfl (ok_bind (wrd_x h0Z hbZ z2 z3 c (by omega) hu) ?_)
            rintro ⟨w, W⟩ ⟨e1, e2⟩
            dsimp only at e1 e2 ⊢
            subst e1
            exact fin w e2
        · have hqr : r = q := by omega
          have hna : ¬ isAN (b q) := by
            rcases z7 with z7 | z7
            · omega
            · rw [← hqr]; exact z7
          refine ok_it (nI_le (by omega) (by omega)) (ok_b (rfY Z z1) (ok_gd (by rw [hx]; exact n_in (by omega) (by omega)) ?_))
          rw [nI_clamp (by omega), hbZ]
          have fin : ∀ tok : Int32, MT (b q) tok → Ok (f_X9_step_J221 3 3 tok Z) (fun Y => F3 X Y ∧ LX b sz p Y) := by
            intro tok ht
            unfold f_X9_step_J221
            simp only [pw_nm]
            refine ok_some ⟨F3_t z1 (F3_t (F3_s Z 3 _ (by omega)) (F3_s _ 5 _ (by omega))), q, y4, y6, Or.inr ⟨y7, y8, ?_, q + 1, by omega, by omega, ?_, Or.inr ⟨hna, rfl, ?_⟩⟩⟩
            · rw [st_II, if_neg (by omega), st_II, if_neg (by omega)]; exact z2
            · rw [st_II, if_pos ⟨rfl, rfl⟩, st_II, if_neg (by omega), z2, nI_1]
            · rw [st_II, if_neg (by omega), st_II, if_pos ⟨rfl, rfl⟩]; exact ht
          refine ok_bind (mark_x (S := Z) (hbr q)) ?_
          rintro ⟨w, W⟩ ⟨e1, e2⟩
          dsimp only at e1 e2 ⊢
          subst e1
          rcases e2 with ⟨i, i1, i2, i3⟩ | ⟨i1, i2⟩
          · rw [i3]
            refine ok_it (show nI 0 ≤ nI i from nI_le (by omega) (by omega)) (fin _ (Or.inl ⟨i, i1, i2, ?_⟩))
            exact nI_add 117 i
          · rw [i1]
            exact ok_ie (by decide) (fin _ (Or.inr ⟨rfl, i2⟩))
