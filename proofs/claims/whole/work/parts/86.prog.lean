/-! A PROGRAM READ -/
section RDP
variable {q sz nr no na : Nat} {X M Y N : ha_St} {b : Nat → Int32}
def PgQ (q : Nat) (X M : ha_St) (z : Int32 × ha_St) (w : ha_St ⊕ (Int32 × ha_St)) : Prop := (∃ N' nr no na, z.1 = 1 ∧ w = .inl N' ∧ F5 q X z.2 ∧ F6 M N' ∧ PD q nr no na z.2 N') ∨ (∃ N', z.1 = 0 ∧ w = .inr (-1 - ha_gI N' 0 12, N') ∧ FL q X M z.2 N')
theorem tk_k0 {tok : Int32} (h : TKR tok sz N) (hv : tok ≠ -2) : ha_gI N 0 8 ≠ 0 := by
  rcases h with ⟨h, g⟩ | ⟨h, g⟩ | ⟨v, h1, h2, h3, h4⟩ | ⟨t, h1, h2, h3, h4⟩ | ⟨t, h1, h2, h3, h4⟩
  · exact absurd h hv
  · rcases g with g | ⟨g, -⟩ <;> rw [g] <;> decide
  · rw [h3]; decide
  · rw [h3]; decide
  · rw [h3]; decide
theorem end_r {k : Int32} (self : ha_St → Option (ha_St ⊕ (Int32 × ha_St))) (E : RdEnv q X M b sz) (h5 : F5 q X Y) (h6 : F6 M N) (S : SY b sz Y N) (h : PD q nr no na Y N) (ht : ha_gI Y 3 3 = -2) : Tw (f_X9_endIsRight 3 Y) (f_X12_program_L57 0 k self N) (PgQ q X M) := by
  have y1 : ha_gI Y 3 1 = nI sz := by rw [h5.2.2.2 3 1 (by omega) (by have := E.1; omega)]; exact E.2.2.2.2.2.2.1
  have hsz := E.2.2.2.2.2.2.2.1
  have hk : (sz ≤ 400 ∧ ha_gI N 0 8 = 0) ∨ (400 < sz ∧ ha_gI N 0 8 = 1) := by
    rcases S.1 with ⟨-, g⟩ | ⟨h, -⟩ | ⟨v, h1, h2, -⟩ | ⟨t, h1, h2, -⟩ | ⟨t, h1, h2, -⟩
    · exact g
    · exact absurd (ht.symm.trans h) (by decide)
    · exact absurd (ht.symm.trans h2) (n_m2 (by omega))
    · exact absurd (ht.symm.trans h2) (n_m2 (by omega))
    · exact absurd (ht.symm.trans h2) (n_m2 (by omega))
  unfold f_X9_endIsRight f_X9_endIsRight_J18 f_X9_endIsRight_J23 f_X12_program_L57
  rw [y1]
  rcases hk with ⟨k1, k2⟩ | ⟨k1, k2⟩
  · exact tw_il (show nI sz ≤ nI 400 from nI_le k1 (by omega)) (tw_gl (Or.inr rfl) (tw_ir k2 (tw_ss (Or.inl ⟨N, nr, no, na, rfl, rfl, h5, h6, h⟩))))
  · refine tw_el (show ¬ nI sz ≤ nI 400 from nI_ge k1 (by omega)) (tw_bl (ref_x 1 Y) (tw_il rfl (tw_gl (Or.inl rfl) (tw_er (by rw [k2]; decide) ?_))))
    have hr : f_X12_readRule 0 N = some (0, bdS 1 N) := by
      unfold f_X12_readRule
      rw [sp_10, pw_bs, key_m S.1 (by omega), pw_bs, if_neg (show ¬ ha_gI Y 3 3 = nI (100 + 10) by rw [ht]; exact n_m2 (by omega)), pw_ie (n0p (S := N)), bad_m, pw_bs, pw_gd (Or.inl rfl)]
    exact tw_br hr (tw_er (fun g => g rfl) (tw_ss (Or.inr ⟨bdS 1 N, rfl, rfl, fl_1 h5 h6 E.1 S 1 (Or.inl rfl)⟩)))
theorem rules_l (E : RdEnv q X M b sz) (k : Int32) : ∀ (d nr no na nx nm : Nat) (Y N : ha_St), nr + d = 20 → d + 1 ≤ nx → d + 1 ≤ nm → F5 q X Y → F6 M N → SY b sz Y N → PD q nr no na Y N → Tw ((f_X9_read_L49i 3 1 q nx (nI nr, Y)).bind (Sum.elim (fun z => f_X9_read_J98 3 1 q z) (fun r => some r))) (f_X12_program_L57i 0 k nm N) (PgQ q X M) := by
  intro d
  induction d with
  | zero =>
    intro nr no na nx nm Y N hd hx hm h5 h6 S h
    obtain ⟨nx, rfl⟩ : ∃ k, nx = k + 1 := ⟨nx - 1, by omega⟩
    obtain ⟨nm, rfl⟩ : ∃ k, nm = k + 1 := ⟨nm - 1, by omega⟩
    obtain rfl : nr = 20 := by omega
    show Tw ((f_X9_read_L49 3 1 q (f_X9_read_L49i 3 1 q nx) (nI 20) Y).bind _) (f_X12_program_L57 0 k (f_X12_program_L57i 0 k nm) N) _
    unfold f_X9_read_L49
    rw [pw_it (show (20 : Int32) ≤ nI 20 by decide), pw_bs, Sum.elim_inl]
    unfold f_X9_read_J98
    by_cases c : ha_gI Y 3 3 = -2
    · rw [pw_ie (fun g => g c)]
      obtain ⟨a, w, e1, e2, e3⟩ := end_r (k := k) (f_X12_program_L57i 0 k nm) E h5 h6 S h c
      rw [e1, e2, pw_bs, pw_gd (by
        rcases e3 with ⟨_, _, _, _, g, -⟩ | ⟨_, g, -⟩
        · exact Or.inr g
        · exact Or.inl g)]
      exact tw_ss e3
    · refine tw_il c ?_
      have n3 : ¬ ((3 : Int32) < 0 ∨ mo_ln 15 ≤ (3 : Int32).toNatClampNeg) := by rw [ml_a.1]; decide
      have c3 : (3 : Int32).toNatClampNeg = 3 := rfl
      have h15 : ha_gA N 15 3 = nI 20 := h.2.2.2.2.1
      have hIM : IM N := IM_c h6.1 E.2.2.2.2.2.2.2.2.2.1
      unfold f_X12_program_L57 f_X9_read_J127
      refine tw_er (tk_k0 S.1 c) ?_
      by_cases e : ha_gI Y 3 3 = 110
      · have hr : f_X12_readRule 0 N = some (0, bdS 2 N) := by
          unfold f_X12_readRule
          rw [sp_10, pw_bs, key_m S.1 (by omega), pw_bs, if_pos (show ha_gI Y 3 3 = nI (100 + 10) from e), pw_it (n1p (S := N))]
          dsimp only
          rw [mr hIM 14 100, pw_bs, pw_gd n3, pw_nm, c3, h15, pw_ie (show ¬ ¬ nI 20 = 20 from fun g => g rfl), bad_m, pw_bs, pw_gd (Or.inl rfl)]
        refine tw_el (fun g => g e) (tw_bl (ref_x 2 Y) (tw_gl (Or.inl rfl) (tw_br hr (tw_er (fun g => g rfl) (tw_ss (Or.inr ⟨bdS 2 N, rfl, rfl, fl_1 h5 h6 E.1 S 2 (Or.inr (tk_k1 S.1 (by rw [e]; decide)))⟩))))))
      · have hr : f_X12_readRule 0 N = some (0, bdS 1 N) := by
          unfold f_X12_readRule
          rw [sp_10, pw_bs, key_m S.1 (by omega), pw_bs, if_neg (show ¬ ha_gI Y 3 3 = nI (100 + 10) from e), pw_ie (n0p (S := N)), bad_m, pw_bs, pw_gd (Or.inl rfl)]
        refine tw_il e (tw_bl (ref_x 1 Y) (tw_gl (Or.inl rfl) (tw_br hr (tw_er (fun g => g rfl) (tw_ss (Or.inr ⟨bdS 1 N, rfl, rfl, fl_1 h5 h6 E.1 S 1 (Or.inl rfl)⟩))))))
  | succ d ih =>
    intro nr no na nx nm Y N hd hx hm h5 h6 S h
    obtain ⟨nx, rfl⟩ : ∃ k, nx = k + 1 := ⟨nx - 1, by omega⟩
    obtain ⟨nm, rfl⟩ : ∃ k, nm = k + 1 := ⟨nm - 1, by omega⟩
    show Tw ((f_X9_read_L49 3 1 q (f_X9_read_L49i 3 1 q nx) (nI nr) Y).bind _) (f_X12_program_L57 0 k (f_X12_program_L57i 0 k nm) N) _
    unfold f_X9_read_L49
    rw [pw_ie (show ¬ (20 : Int32) ≤ nI nr from nI_ge (b := 20) (by omega) (by omega))]
    by_cases c : ha_gI Y 3 3 = -2
    · rw [pw_ie (fun g => g c)]
      obtain ⟨a, w, e1, e2, e3⟩ := end_r (k := k) (f_X12_program_L57i 0 k nm) E h5 h6 S h c
      rw [e1, e2, pw_bs, pw_gd (by
        rcases e3 with ⟨_, _, _, _, g, -⟩ | ⟨_, g, -⟩
        · exact Or.inr g
        · exact Or.inl g), pw_bs, Sum.elim_inr]
      exact tw_ss e3
    · rw [pw_it c]
      unfold f_X12_program_L57 f_X9_read_L49_J83
      refine tw_er (tk_k0 S.1 c) ?_
      rcases ones_a E h5 h6 S h (by omega) with ⟨Y1, N1, e1, e2, e3⟩ | ⟨Y1, N1, no', e1, e2, g5, g6, gS, gt, gP⟩
      · rw [e1, e2, pw_bs, pw_bs, pw_it rfl, pw_bs, Sum.elim_inr]
        exact tw_er (fun g => g rfl) (tw_ss (Or.inr ⟨N1, rfl, rfl, e3⟩))
      · rw [e1, e2, pw_bs, pw_ie (n1p (S := Y1))]
        dsimp only
        rcases acts_a E g5 g6 gS gt gP (by omega) with ⟨Y2, N2, d1, d2, d3⟩ | ⟨Y2, C, N2, na', d1, d2, d3, d4, d5, d6, d7, d8⟩
        · rw [d1, d2, pw_bs, pw_bs, pw_ie (n0p (S := Y2)), pw_bs, Sum.elim_inr]
          exact tw_er (fun g => g rfl) (tw_ss (Or.inr ⟨N2, rfl, rfl, d3⟩))
        · rw [d1, d4, pw_bs, pw_bs, pw_it (n1p (S := Y2))]
          dsimp only
          rw [d2, pw_bs, d3, pw_bs, pw_nm, nI_1]
          exact tw_ir ne10 (ih (nr + 1) no' na' nx nm C N2 (by omega) (by omega) (by omega) d5 d6 d7 d8)
end RDP
