/-! THE CLASS: a tick of a line -/
theorem ac1_se {M : ha_St} {m k i : Nat} {ls : Bool} (w : Nat → Int32) (se se' : Nat) (r : Nat × Int32 × (Nat → Int32)) : ac1 M m k false ls i (w, se', r) = ((ac1 M m k false ls i (w, se, r)).1, se', (ac1 M m k false ls i (w, se, r)).2.2) := by
  unfold ac1
  dsimp only
  by_cases c1 : ha_gA M 21 (40 * k + i) = 6
  · rw [if_pos c1, if_pos c1, if_neg (by simp), if_neg (by simp)]
  · rw [if_neg c1, if_neg c1]
    by_cases c2 : ha_gA M 21 (40 * k + i) = 4
    · rw [if_pos c2, if_pos c2]
    · rw [if_neg c2, if_neg c2]
      by_cases c3 : (ha_gA M 21 (40 * k + i)).toInt < 4
      · rw [if_pos c3, if_pos c3]
      · rw [if_neg c3, if_neg c3]
        by_cases c4 : ls = true ∧ r.1 < 100
        · rw [if_pos c4, if_pos c4]
        · rw [if_neg c4, if_neg c4]
theorem acs_se {M : ha_St} {m k : Nat} {ls : Bool} (se' : Nat) : ∀ (d i : Nat) (s : TW), acs M m k false ls d i (s.1, se', s.2.2) = ((acs M m k false ls d i s).1, se', (acs M m k false ls d i s).2.2)
  | 0, _, _ => rfl
  | d + 1, i, s => by
    show acs M m k false ls d (i + 1) (ac1 M m k false ls i (s.1, se', s.2.2)) = _
    rw [ac1_se s.1 s.2.1 se' s.2.2]
    exact acs_se se' d (i + 1) (ac1 M m k false ls i s)
theorem twr_se {M : ha_St} {m k : Nat} {ls : Bool} (se' : Nat) (s : TW) : twr M m k false ls (s.1, se', s.2.2) = ((twr M m k false ls s).1, se', (twr M m k false ls s).2.2) := by
  unfold twr
  dsimp only
  cases frl M k s.1 (tn (ha_gA M 15 k)) 0 with
  | none => rfl
  | some r => exact acs_se se' _ _ s
/-- how many are sent when tower t acts -/
def scu (L L' : LNS) (t : Nat) : Nat := if 0 < t then L'.2.2.2.1 else L.2.2.2.1
theorem tws_sc {M : ha_St} {m n : Nat} {fg : Nat → Bool} {L : LNS} {t : Nat} : twr M m (kin n t) (decide (t = 0)) (decide (t + 1 = n)) (wv M m n fg L t, scu L (stp M m n fg L) t, L.2.2.2.2) = ((tws M m n fg L t).1, (stp M m n fg L).2.2.2.1, (tws M m n fg L t).2.2) := by
  unfold scu
  by_cases c : t = 0
  · subst c
    rw [if_neg (by omega)]
    rfl
  · rw [if_pos (by omega)]
    unfold tws
    rw [show decide (t = 0) = false by simp [c]]
    exact twr_se _ (wv M m n fg L t, L.2.2.2)
def chT (L L' : LNS) (u : Nat) : Prop := ¬ (L'.1 u = L.1 u ∧ ∀ c, c < 4 → L'.2.2.1 (4 * u + c) = L.2.2.1 (4 * u + c))
def chg (n : Nat) (L L' : LNS) : Prop := (∃ u, u < n ∧ chT L L' u) ∨ L'.2.2.2.1 ≠ L.2.2.2.1 ∨ L'.2.2.2.2.1 ≠ L.2.2.2.2.1
theorem stp_c {M : ha_St} {m n : Nat} {fg : Nat → Bool} {L : LNS} {t c : Nat} (h : c < 4) : (stp M m n fg L).2.2.1 (4 * t + c) = (tws M m n fg L t).1 (106 + c) := by
  show (tws M m n fg L ((4 * t + c) / 4)).1 (106 + (4 * t + c) % 4) = _
  rw [show (4 * t + c) / 4 = t by omega, show (4 * t + c) % 4 = c by omega]
theorem keep_x {X : ha_St} {n l t : Nat} {w cl : Nat → Int32} {a : Int32} (hIR : IR X) (hl : isLn l) (hr : n ≤ rom l) (ht : t < n) (hw : ∀ c, c < 110 → ha_gA X 136 c = w c) (ha : ha_gA X 135 t = a) (hc : ∀ c, c < 4 → ha_gA X (102 + 16 * l) (4 * t + c) = cl c) : Ok (f_X1_keep 2 l (nI t) X) (fun z => ((z.1 = 0 ∧ w 102 = a ∧ ∀ c, c < 4 → w (106 + c) = cl c) ∨ (z.1 = 1 ∧ ¬ (w 102 = a ∧ ∀ c, c < 4 → w (106 + c) = cl c))) ∧ ∃ g, z.2 = ha_sA (ha_sA X (100 + 16 * l) (upd (ha_gA X (100 + 16 * l)) t (w 102))) (102 + 16 * l) g ∧ ∀ j, g j = if 4 * t ≤ j ∧ j < 4 * t + 4 then w (106 + (j - 4 * t)) else ha_gA X (102 + 16 * l) j) := by
  have hrl := rom_le l
  have hx5 : xo_ln 135 = 16 := by decide +kernel
  have hx6 : xo_ln 136 = 110 := by decide +kernel
  have hlb : 16 ≤ l := by unfold isLn at hl; omega
  have h4 : nI t * 4 = nI (4 * t) := by rw [Nat.mul_comm]; exact nI_mul t 4
  have key : ∀ k0 : Int32, ((k0 = 0 ∧ w 102 = a) ∨ (k0 = 1 ∧ ¬ w 102 = a)) → Ok (f_X1_keep_J21 2 l (nI t) k0 X) (fun z => ((z.1 = 0 ∧ w 102 = a ∧ ∀ c, c < 4 → w (106 + c) = cl c) ∨ (z.1 = 1 ∧ ¬ (w 102 = a ∧ ∀ c, c < 4 → w (106 + c) = cl c))) ∧ ∃ g, z.2 = ha_sA (ha_sA X (100 + 16 * l) (upd (ha_gA X (100 + 16 * l)) t (w 102))) (102 + 16 * l) g ∧ ∀ j, g j = if 4 * t ≤ j ∧ j < 4 * t + 4 then w (106 + (j - 4 * t)) else ha_gA X (102 + 16 * l) j) := by
    intro k0 hk0
    unfold f_X1_keep_J21
    refine ok_b (lr0 hIR hl) (ok_b (xr hIR 2 4 100 136) (ok_gd (by rw [hx6]; decide) (ok_gd (by rw [ll0 hl]; exact n_in (by omega) (by omega)) ?_)))
    rw [pw_nm, nI_clamp (by omega)]
    rw [show ha_gA X 136 (102 : Int32).toNatClampNeg = w 102 from hw 102 (by omega)]
    generalize hY : ha_sA X (100 + 16 * l) (upd (ha_gA X (100 + 16 * l)) t (w 102)) = Y
    have y1 : IR Y := by rw [← hY]; exact IR_c (X := X) rfl hIR
    have y2 : ha_gA Y 136 = ha_gA X 136 := by rw [← hY, st_AA, if_neg (by omega)]
    have y3 : ha_gA Y (102 + 16 * l) = ha_gA X (102 + 16 * l) := by rw [← hY, st_AA, if_neg (by omega)]
    refine ok_bind (P := fun z => z.2 = Y ∧ ((z.1 = 0 ∧ w 102 = a ∧ ∀ c, c < 4 → w (106 + c) = cl c) ∨ (z.1 = 1 ∧ ¬ (w 102 = a ∧ ∀ c, c < 4 → w (106 + c) = cl c)))) ?_ ?_
    · refine ok_for (fun c (v : Int32) => (v, nI c, Y)) 0 4 (fun i v => (v = 0 ∧ w 102 = a ∧ ∀ c, c < i → w (106 + c) = cl c) ∨ (v = 1 ∧ ¬ (w 102 = a ∧ ∀ c, c < i → w (106 + c) = cl c))) _ k0 ?_ (by omega) (by omega) ?_ ?_
      · rcases hk0 with ⟨e1, e2⟩ | ⟨e1, e2⟩
        · exact Or.inl ⟨e1, e2, fun c h => by omega⟩
        · exact Or.inr ⟨e1, fun h => e2 h.1⟩
      · rintro f i v hi hv ih
        show Ok (f_X1_keep_L38 2 l (nI t) f v (nI i) Y) _
        unfold f_X1_keep_L38 f_X1_keep_L38_J74
        refine ok_ie (show ¬ nI 4 ≤ nI i from nI_ge hi (by omega)) (ok_b (xr y1 2 4 100 136) ?_)
        rw [show (106 : Int32) + nI i = nI (106 + i) from nI_add 106 i, h4, nI_add]
        refine ok_gd (by rw [hx6]; exact n_in (by omega) (by omega)) (ok_b (lr2 y1 hl) (ok_gd (by rw [ll2 hl]; exact n_in (by omega) (by omega)) ?_))
        rw [nI_clamp (by omega), nI_clamp (by omega), y2, y3, hw _ (by omega), hc i hi]
        simp only [pw_nm, nI_1]
        by_cases c : w (106 + i) = cl i
        · refine ok_it c (ih _ ?_)
          rcases hv with ⟨rfl, e1, e2⟩ | ⟨rfl, e1⟩
          · refine Or.inl ⟨by decide, e1, fun q hq => ?_⟩
            by_cases e : q = i
            · rw [e]; exact c
            · exact e2 q (by omega)
          · exact Or.inr ⟨by decide, fun h => e1 ⟨h.1, fun q hq => h.2 q (by omega)⟩⟩
        · refine ok_ie c (ih _ ?_)
          refine Or.inr ⟨?_, fun h => c (h.2 i (by omega))⟩
          rcases hv with ⟨rfl, _⟩ | ⟨rfl, _⟩ <;> decide
      · rintro f v hv
        show Ok (f_X1_keep_L38 2 l (nI t) f v (nI 4) Y) _
        unfold f_X1_keep_L38
        exact ok_it (show nI 4 ≤ nI 4 from nI_le (Nat.le_refl _) (by omega)) (ok_some ⟨rfl, hv⟩)
    · rintro ⟨v, Z⟩ ⟨e, hv⟩
      dsimp only at e hv
      subst e
      unfold f_X1_keep_J82
      dsimp only
      refine ok_b (xr y1 2 4 100 136) (ok_b (lr2 y1 hl) ?_)
      rw [h4, hx6, ll2 hl]
      refine ok_gd ⟨by decide, nI_pos (by omega), by decide, by decide, ?_⟩ (ok_nm (ok_gd ?_ (ok_some ⟨hv, _, by rw [← hY], fun j => ?_⟩)))
      · rw [nI_clamp (by omega)]
        show 4 * t + 4 ≤ 4 * rom l
        omega
      · rcases hv with h | h
        · exact Or.inl h.1
        · exact Or.inr h.1
      · rw [nI_clamp (by omega), hY, y2, y3]
        show (if 4 * t ≤ j ∧ j < 4 * t + 4 then ha_gA X 136 (106 + (j - 4 * t)) else _) = _
        by_cases c : 4 * t ≤ j ∧ j < 4 * t + 4
        · rw [if_pos c, if_pos c, hw _ (by omega)]
        · rw [if_neg c, if_neg c]
  unfold f_X1_keep
  refine ok_b (xr hIR 2 4 100 136) (ok_gd (by rw [hx6]; decide) (ok_b (xr hIR 2 3 100 135) (ok_gd (by rw [hx5]; exact n_in (by omega) (by omega)) ?_)))
  rw [nI_clamp (by omega), ha, show ha_gA X 136 (102 : Int32).toNatClampNeg = w 102 from hw 102 (by omega)]
  by_cases c : w 102 = a
  · exact ok_it c (key 0 (Or.inl ⟨rfl, c⟩))
  · exact ok_ie c (key 1 (Or.inr ⟨rfl, c⟩))
theorem kind_x {X : ha_St} {l n t : Nat} (hn : ha_gI X l 4 = nI n) (h3 : 3 ≤ n) (hn2 : n ≤ 16) (ht : t < n) : f_X1_kindOf l (nI t) X = some (nI (kin n t), X) := by
  unfold f_X1_kindOf f_X1_kindOf_J21 kin
  rw [hn, n_sub1 (by omega)]
  by_cases c : t = 0
  · rw [c]; rfl
  · rw [pw_it (nI_ne0 (by omega) (by omega)), if_neg c]
    by_cases d : t + 1 = n
    · rw [pw_ie (fun h => h (by rw [show n - 1 = t by omega])), if_pos d]; rfl
    · rw [pw_it (show ¬ nI t = nI (n - 1) from fun h => by rw [nI_eq (by omega) (by omega)] at h; omega), if_neg d]; rfl
theorem kin_lt (n t : Nat) : kin n t < 3 := by
  unfold kin
  by_cases c : t = 0
  · rw [if_pos c]; omega
  · rw [if_neg c]
    by_cases d : t + 1 = n
    · rw [if_pos d]; omega
    · rw [if_neg d]; omega
theorem cx_pva {X M : ha_St} {m : Nat} (h : CX X M m) : ∀ k, k < 3 → PVa M k := fun k hk => by
  obtain ⟨p, -, -, -, hp⟩ := h.2.2.2.2 k hk
  exact pr_pva hp
