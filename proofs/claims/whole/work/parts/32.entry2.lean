/-! ENTRY, YEAR: what they write -/
theorem st_com {S : ha_St} {a b : Nat} (h : a ≠ b) (f g : Nat → Int32) : ha_sA (ha_sA S a f) b g = ha_sA (ha_sA S b g) a f := by
  have : ∀ n, (if n = b then g else if n = a then f else ha_gA S n) = (if n = a then f else if n = b then g else ha_gA S n) := by
    intro n
    by_cases h1 : n = a
    · subst h1; simp [h]
    · simp [h1]
  cases S
  simp only [ha_sA, ha_gA] at *
  rw [funext this]
theorem blk_cg {f g : Nat → Int32} : ∀ {n : Nat}, (∀ i, i < n → f i = g i) → blk f n = blk g n
  | 0, _ => rfl
  | n + 1, h => by
    show blk f n + _ = blk g n + _
    rw [blk_cg (n := n) (fun i hi => h i (by omega)), h n (by omega)]
theorem add_xL {X : ha_St} (hIR : IR X) {k s : Nat} (hk : ha_gI X 6 3 = nI k) (hk2 : k < 12) (hs : ha_gI X 1 1 = nI s) (hs2 : s ≤ 12) (g0 : Nat → Int32) (hg : g0 k = 1) : Ok (f_X3_add_L32i 6 1 ha_fu (0, ha_sA X 198 g0)) (fun z => ∃ g h, z = ha_sA (ha_sA X 198 g) 196 h ∧ (∀ j, h j = if 12 * k ≤ j ∧ j < 12 * k + s then ha_gA X 116 (j - 12 * k) else ha_gA X 196 j) ∧ (∀ j, g j = if j = k then nI (1 + blk (ha_gA X 116) s) else g0 j)) := by
  have h7 : xo_ln 116 = 440 ∧ xo_ln 196 = 144 ∧ xo_ln 198 = 12 := by decide +kernel
  refine ok_for (fun i (S : ha_St) => (nI i, S)) 0 s (fun i S => ∃ g h, S = ha_sA (ha_sA X 198 g) 196 h ∧ (∀ j, h j = if 12 * k ≤ j ∧ j < 12 * k + i then ha_gA X 116 (j - 12 * k) else ha_gA X 196 j) ∧ (∀ j, g j = if j = k then nI (1 + blk (ha_gA X 116) i) else g0 j)) _ (ha_sA X 198 g0) ⟨g0, ha_gA X 196, ?_, fun j => by rw [if_neg (by omega)], fun j => ?_⟩ (by omega) (by omega) ?_ ?_
  · exact (st_self (ha_sA X 198 g0) 196).symm
  · by_cases e : j = k
    · rw [if_pos e, e, hg]; rfl
    · rw [if_neg e]
  · rintro f i S hi ⟨g, h, rfl, hh, hgg⟩ ih
    show Ok (f_X3_add_L32 6 1 f (nI i) (ha_sA (ha_sA X 198 g) 196 h)) _
    unfold f_X3_add_L32 f_X3_add_L32_J84
    simp only [pw_nm, nI_1, st_IA, st_fA, hs, hk]
    refine ok_ie (nI_ge hi (by omega)) (ok_b (xr hIR 6 0 100 196) (ok_b (xr hIR 1 0 100 116) (ok_gd (by rw [h7.1]; exact n_in (by omega) (by omega)) ?_)))
    rw [show (12 : Int32) = nI 12 from rfl, nI_mul, nI_add]
    refine ok_gd (by rw [h7.2.1]; exact n_in (by omega) (by omega)) (ok_b (xr hIR 1 0 100 116) (ok_gd (by rw [h7.1]; exact n_in (by omega) (by omega)) ?_))
    rw [nI_clamp (show k * 12 + i < 2 ^ 31 by omega), nI_clamp (show i < 2 ^ 31 by omega), nI_clamp (show k < 2 ^ 31 by omega), show k * 12 = 12 * k by omega]
    have e1 : ha_gA (ha_sA (ha_sA X 198 g) 196 h) 196 = h := rfl
    have e2 : ∀ u, ha_gA (ha_sA (ha_sA (ha_sA X 198 g) 196 h) 196 u) 116 = ha_gA X 116 := fun u => rfl
    have e3 : ha_gA (ha_sA (ha_sA X 198 g) 196 h) 116 = ha_gA X 116 := rfl
    have e4 : ∀ u, ha_gA (ha_sA (ha_sA (ha_sA X 198 g) 196 h) 196 u) 198 = g := fun u => rfl
    rw [e1, e2, e3]
    have hu : ∀ j, upd h (12 * k + i) (ha_gA X 116 i) j = if 12 * k ≤ j ∧ j < 12 * k + (i + 1) then ha_gA X 116 (j - 12 * k) else ha_gA X 196 j := by
      intro j
      by_cases w : j = 12 * k + i
      · subst w
        rw [pk_us, if_pos (by omega), show 12 * k + i - 12 * k = i by omega]
      · rw [pk_un w, hh j]
        by_cases v : 12 * k ≤ j ∧ j < 12 * k + i
        · rw [if_pos v, if_pos (by omega)]
        · rw [if_neg v, if_neg (by omega)]
    refine ok_if (fun c => ih _ ⟨g, _, st_sAA _ _ _ _, hu, fun j => ?_⟩) (fun c => ?_)
    · rw [hgg j]
      show _ = if j = k then nI (1 + (blk (ha_gA X 116) i + if ha_gA X 116 i = 32 then 1 else 0)) else g0 j
      rw [if_neg c, Nat.add_zero]
    · refine ok_b (xr hIR 6 2 100 198) (ok_gd (by rw [h7.2.2]; exact n_in2 (by omega) (by omega)) (ok_gd (by rw [h7.2.2]; exact n_in2 (by omega) (by omega)) ?_))
      rw [e4, st_sAA]
      refine ih _ ⟨upd g k (g k + 1), _, by rw [st_com (by decide), st_sAA], hu, fun j => ?_⟩
      show upd g k (g k + 1) j = if j = k then nI (1 + (blk (ha_gA X 116) i + if ha_gA X 116 i = 32 then 1 else 0)) else g0 j
      rw [if_pos (Classical.not_not.mp c)]
      by_cases w : j = k
      · subst w
        rw [pk_us, if_pos rfl, hgg j, if_pos rfl, nI_1]
        rfl
      · rw [pk_un w, if_neg w, hgg j, if_neg w]
  · rintro f S ⟨g, h, rfl, hh, hgg⟩
    show Ok (f_X3_add_L32 6 1 f (nI s) (ha_sA (ha_sA X 198 g) 196 h)) _
    unfold f_X3_add_L32
    simp only [st_IA, hs]
    exact ok_it (nI_le (Nat.le_refl _) (by omega)) (ok_some ⟨g, h, rfl, hh, hgg⟩)
theorem add_mL {M : ha_St} (hIM : IM M) {k s : Nat} (hk : ha_gI M 0 67 = nI k) (hk2 : k < 12) (hs2 : s ≤ 12) : Ok (f_X12_entry_L118i 0 ha_fu (nI s, 0, M)) (fun z => ∃ h, z = (nI s, ha_sA M 64 h) ∧ (∀ j, h j = if 12 * k ≤ j ∧ j < 12 * k + s then ha_gA M 2 (j - 12 * k) else ha_gA M 64 j)) := by
  have h7 : mo_ln (1 + 1) = 440 ∧ mo_ln (63 + 1) = 144 := by decide +kernel
  refine ok_for (fun i (S : ha_St) => (nI s, nI i, S)) 0 s (fun i S => ∃ h, S = ha_sA M 64 h ∧ (∀ j, h j = if 12 * k ≤ j ∧ j < 12 * k + i then ha_gA M 2 (j - 12 * k) else ha_gA M 64 j)) _ M ⟨ha_gA M 64, (st_self M 64).symm, fun j => by rw [if_neg (by omega)]⟩ (by omega) (by omega) ?_ ?_
  · rintro f i S hi ⟨h, rfl, hh⟩ ih
    show Ok (f_X12_entry_L118 0 f (nI s) (nI i) (ha_sA M 64 h)) _
    unfold f_X12_entry_L118
    simp only [pw_nm, nI_1, st_IA, st_fA, hk]
    refine ok_ie (nI_ge hi (by omega)) (ok_b (mr hIM 63 100) (ok_b (mr hIM 1 100) (ok_gd (by rw [h7.1]; exact n_in (by omega) (by omega)) ?_)))
    rw [show (12 : Int32) = nI 12 from rfl, nI_mul, nI_add]
    refine ok_gd (by rw [h7.2]; exact n_in (by omega) (by omega)) (ih _ ⟨_, st_sAA _ _ _ _, fun j => ?_⟩)
    rw [nI_clamp (show 12 * k + i < 2 ^ 31 by omega), nI_clamp (show i < 2 ^ 31 by omega)]
    show upd h (12 * k + i) (ha_gA M 2 i) j = _
    by_cases w : j = 12 * k + i
    · subst w
      rw [pk_us, if_pos (by omega), show 12 * k + i - 12 * k = i by omega]
    · rw [pk_un w, hh j]
      by_cases v : 12 * k ≤ j ∧ j < 12 * k + i
      · rw [if_pos v, if_pos (by omega)]
      · rw [if_neg v, if_neg (by omega)]
  · rintro f S ⟨h, rfl, hh⟩
    show Ok (f_X12_entry_L118 0 f (nI s) (nI s) (ha_sA M 64 h)) _
    unfold f_X12_entry_L118
    exact ok_it (nI_le (Nat.le_refl _) (by omega)) (ok_some ⟨h, rfl, hh⟩)
theorem inv_ent {X M : ha_St} (hI : Inv X M) {k s : Nat} (hk : ha_gI M 0 67 = nI k) (hk2 : k < 12) (hs : ha_gI M 0 2 = nI s) (hs2 : s ≤ 12) (hT : Told (ha_gA M 2) s) {g h h' : Nat → Int32} (hh : ∀ j, h j = if 12 * k ≤ j ∧ j < 12 * k + s then ha_gA X 116 (j - 12 * k) else ha_gA X 196 j) (hg : ∀ j, g j = if j = k then nI (1 + blk (ha_gA X 116) s) else ha_gA X 198 j) (hh' : ∀ j, h' j = if 12 * k ≤ j ∧ j < 12 * k + s then ha_gA M 2 (j - 12 * k) else ha_gA M 64 j) : Inv (ha_sI (ha_sI (ha_sA (ha_sA (ha_sA X 198 g) 196 h) 197 (upd (ha_gA X 197) k (nI s))) 6 3 (nI (k + 1))) 1 1 0) (ha_sI (ha_sA (ha_sA (ha_sI M 0 2 0) 64 h') 65 (upd (ha_gA M 65) k (nI s))) 0 67 (nI (k + 1))) := by
  obtain ⟨hIR, hIB, hIM, hI1, hI2, hI3, hI4, hI5, hI6, hI7, hI8, hI9, hI10, hI11, hI13, hI14⟩ := hI
  obtain ⟨e1, e2, e3, e4, e5⟩ := hI1
  have hs0 := hT.1
  obtain ⟨d1, d2, d3, d4⟩ := hI9
  exact ⟨IR_c (X := X) rfl hIR, IB_c (X := X) rfl rfl rfl hIB, IM_c (M := M) rfl hIM, ⟨rfl, by show (0 : Int) ≤ (0 : Int32).toInt; decide, by show (0 : Int32).toInt ≤ 440; decide, e4, e5⟩, I2_c (X := X) (M := M) rfl rfl rfl rfl hI2, I3_c (X := X) (M := M) rfl rfl rfl rfl hI3, I4_c (X := X) (M := M) rfl rfl rfl rfl rfl rfl hI4, I5_c (X := X) (M := M) (fun p j h1 h2 => by (try simp only [st_II, st_IA, st_IR, st_IB]); (repeat rw [if_neg (by omega)])) (fun a h1 h2 => by (try simp only [st_AI, st_AA, st_AR, st_AB]); (repeat rw [if_neg (by omega)])) rfl rfl (fun _ _ => rfl) rfl rfl rfl rfl rfl rfl rfl rfl rfl hI5, I6_c (X := X) (M := M) rfl rfl rfl rfl rfl rfl hI6, I7_c (X := X) (M := M) rfl rfl rfl rfl rfl rfl rfl rfl rfl rfl rfl rfl rfl rfl rfl rfl rfl rfl rfl rfl rfl rfl hI7, I8_c (X := X) (M := M) rfl rfl rfl rfl rfl rfl hI8, ⟨rfl, by show 0 ≤ (nI (k + 1)).toInt; rw [nI_toInt (by omega)]; omega, by show (nI (k + 1)).toInt ≤ 12; rw [nI_toInt (by omega)]; omega, fun e he => by
    have he : (e : Int) < (nI (k + 1)).toInt := he
    rw [nI_toInt (by omega)] at he
    show upd (ha_gA X 197) k (nI s) e = upd (ha_gA M 65) k (nI s) e ∧ 1 ≤ (upd (ha_gA M 65) k (nI s) e).toInt ∧ (upd (ha_gA M 65) k (nI s) e).toInt ≤ 12 ∧ (∀ i : Nat, (i : Int) < (upd (ha_gA M 65) k (nI s) e).toInt → h (12 * e + i) = h' (12 * e + i)) ∧ Told (fun i => h' (12 * e + i)) (upd (ha_gA M 65) k (nI s) e).toInt.toNat ∧ g e = nI (1 + blk (fun i => h' (12 * e + i)) (upd (ha_gA M 65) k (nI s) e).toInt.toNat)
    by_cases w : e = k
    · subst w
      rw [pk_us, pk_us, nI_toInt (by omega), show ((s : Nat) : Int).toNat = s by omega]
      have q : ∀ i, i < s → h' (12 * e + i) = ha_gA M 2 i := fun i hi => by rw [hh', if_pos (by omega), show 12 * e + i - 12 * e = i by omega]
      refine ⟨rfl, by omega, by omega, fun i hi => ?_, told_cg (fun i hi => (q i hi).symm) hT, ?_⟩
      · rw [q i (by omega), hh, if_pos (by omega), show 12 * e + i - 12 * e = i by omega, e4]
      · rw [hg, if_pos rfl, e4, blk_cg q]
    · rw [pk_un w, pk_un w]
      obtain ⟨f1, f2, f3, f4, f5, f6⟩ := d4 e (by rw [hk, nI_toInt (by omega)]; omega)
      have q : ∀ i, i < (ha_gA M 65 e).toInt.toNat → h' (12 * e + i) = ha_gA M 64 (12 * e + i) := fun i hi => by rw [hh', if_neg (by omega)]
      refine ⟨f1, f2, f3, fun i hi => ?_, told_cg (fun i hi => (q i hi).symm) f5, ?_⟩
      · rw [q i (by omega), hh, if_neg (by omega)]; exact f4 i hi
      · rw [hg, if_neg w, f6, blk_cg q]⟩, I10_c (X := X) (M := M) rfl rfl rfl rfl hI10, I11_c (X := X) (M := M) rfl rfl rfl rfl rfl rfl rfl hI11, I13_c (X := X) (M := M) rfl rfl rfl rfl rfl rfl rfl rfl rfl rfl rfl rfl hI13, I14_c (X := X) (M := M) rfl rfl rfl (fun i => by (try simp only [st_AI, st_AA, st_AR, st_AB]); (repeat rw [if_neg (by omega)])) rfl rfl rfl rfl hI14⟩
theorem e_entry {X M : ha_St} (hI : Inv X M) : Agr (f_X11_entry 0 X) (f_X12_entry 0 M) := by
  have hI := inv_thr 0 hI
  have hT := hI
  obtain ⟨hIR, hIB, hIM, hI1, hI2, hI3, hI4, hI5, hI6, hI7, hI8, hI9, hI10, hI11, hI13, hI14⟩ := hI
  obtain ⟨e1, e2, e3, e4, e5⟩ := hI1
  unfold f_X11_entry f_X12_entry f_X12_take f_X11_entry_J42 f_X11_entry_J43 f_X11_entry_J63 f_X12_entry_J29 f_X12_entry_J116 f_X12_entry_J149
  generalize ha_sI M 0 0 0 = M at *
  have hT0 := inv_tp hT 0 (by decide) (by decide)
  obtain ⟨s, s4, hs⟩ := n_of (N := 440) e2 e3
  obtain ⟨k, k4, hk⟩ := n_of (N := 12) hI9.2.1 hI9.2.2.1
  have hsX : ha_gI X 1 1 = nI s := e1.trans hs
  have hkX : ha_gI X 6 3 = nI k := hI9.1.trans hk
  have hIM0 : IM (ha_sI M 0 2 0) := IM_c (M := M) rfl hIM
  have hk0 : ha_gI (ha_sI M 0 2 0) 0 67 = nI k := hk
  have no : Agr (some (-1, ha_sI X 1 1 0)) (some (-1, ha_sI M 0 2 0)) := agr_mk rfl hT0
  simp only [pw_nm, pw_bs, xr hIR 0 0 10 1, hs, hk0]
  have hx := text_x hIR hsX s4 (show 12 ≤ 440 by omega)
  have hm := text_m hIM0 s4 (show 12 ≤ 440 by omega)
  obtain ⟨z, ez, hz⟩ := hx
  obtain ⟨w, ew, hw⟩ := hm
  rw [show (12 : Int32) = nI 12 from rfl, ez, ew]
  simp only [pw_bs]
  have hAt : ha_gA (ha_sI M 0 2 0) 2 = ha_gA X 116 := e4.symm
  rw [hAt] at hw
  by_cases t : s ≤ 12 ∧ Told (ha_gA X 116) s
  · obtain ⟨rfl, -⟩ := hz.resolve_right (fun q => q.2 t)
    obtain ⟨rfl, -⟩ := hw.resolve_right (fun q => q.2 t)
    simp only [n_10, if_false, not_false_eq_true, if_true, xr hIR 0 5 3 6, xr hIR 0 0 10 1, pw_bs, hkX]
    by_cases c : k = 12
    · subst c
      rw [pw_it rfl, pw_it (nI_le (Nat.le_refl _) (by omega))]
      exact no
    · rw [pw_ie (fun q => c ((nI_eq (by omega) (by omega)).mp q)), pw_ie (fun q => c (by have := (nI_leI (by omega) (by omega)).mp q; omega))]
      have hh := has_x hIR hkX k4 hsX t.1
      have gg := has_m hIM0 hk0 k4 t.1
      obtain ⟨z, ez, hz⟩ := hh
      obtain ⟨w, ew, hw⟩ := gg
      rw [ez, ew]
      have hHs : Hs (ha_gA (ha_sI M 0 2 0) 64) (ha_gA (ha_sI M 0 2 0) 2) (ha_gA (ha_sI M 0 2 0) 65) k s ↔ Hs (ha_gA X 196) (ha_gA X 116) (ha_gA X 197) k s := by
        constructor
        · rintro ⟨e, q1, q2, q3⟩
          obtain ⟨f1, f2, f3, f4, f5, f6⟩ := hI9.2.2.2 e (by rw [hk, nI_toInt (by omega)]; omega)
          have q2 : ha_gA M 65 e = nI s := q2
          refine ⟨e, q1, f1.trans q2, fun i hi => ?_⟩
          rw [f4 i (by rw [q2, nI_toInt (by omega)]; omega), e4]; exact q3 i hi
        · rintro ⟨e, q1, q2, q3⟩
          obtain ⟨f1, f2, f3, f4, f5, f6⟩ := hI9.2.2.2 e (by rw [hk, nI_toInt (by omega)]; omega)
          have q2 : ha_gA M 65 e = nI s := f1.symm.trans q2
          refine ⟨e, q1, q2, fun i hi => ?_⟩
          show ha_gA M 64 (12 * e + i) = ha_gA M 2 i
          rw [← f4 i (by rw [q2, nI_toInt (by omega)]; omega), ← e4]; exact q3 i hi
      rw [hHs] at hw
      by_cases H : Hs (ha_gA X 196) (ha_gA X 116) (ha_gA X 197) k s
      · obtain ⟨rfl, -⟩ := hz.resolve_right (fun q => q.2 H)
        obtain ⟨rfl, -⟩ := hw.resolve_right (fun q => q.2 H)
        simp only [pw_bs, n_10, not_false_eq_true, if_true, Sum.elim_inr, xr hIR 0 0 10 1]
        exact no
      · obtain ⟨rfl, -⟩ := hz.resolve_left (fun q => H q.2)
        obtain ⟨rfl, -⟩ := hw.resolve_left (fun q => H q.2)
        simp only [pw_bs, n_00, n_10, not_true_eq_false, if_false, Sum.elim_inl, xr hIR 0 0 10 1, xr hIR 0 5 3 6]
        unfold f_X3_add f_X3_add_J90
        simp only [hkX, hsX]
        have h7 : xo_ln 197 = 12 ∧ xo_ln 198 = 12 ∧ mo_ln (64 + 1) = 12 := by decide +kernel
        rw [pw_ie (fun q => c (by have := (nI_leI (a := 12) (by omega) (by omega)).mp q; omega)), pw_it (show nI s ≤ 12 from nI_le (b := 12) t.1 (by omega))]
        simp only [pw_nm, pw_bs, xr hIR 6 2 100 198, h7, pw_gd (n_in (show k < 12 by omega) (by omega)), nI_clamp (show k < 2 ^ 31 by omega)]
        obtain ⟨z, ez, g, h, rfl, hh, hg⟩ := add_xL hIR hkX (by omega) hsX t.1 (upd (ha_gA X 198) k 1) pk_us
        obtain ⟨w, ew, h', rfl, hh'⟩ := add_mL hIM0 hk0 (by omega) t.1
        rw [ez, ew]
        simp only [pw_bs, st_fA, st_IA, xr hIR 6 1 100 197, hkX, hsX, mr hIM0 64 100, hk0, h7, pw_gd (n_in (show k < 12 by omega) (by omega)), pw_gd (n_in2 (show k < 12 by omega) (by omega)), nI_clamp (show k < 2 ^ 31 by omega), st_II, st_fI, xr hIR 0 0 10 1, nI_1, and_self, if_true]
        refine agr_mk rfl ?_
        exact inv_ent hT hk (by omega) hs t.1 (e4 ▸ t.2) hh (fun j => by
          rw [hg]
          by_cases q : j = k
          · rw [if_pos q, if_pos q]
          · rw [if_neg q, if_neg q, pk_un q]) hh'
  · obtain ⟨rfl, -⟩ := hz.resolve_left (fun q => t q.2)
    obtain ⟨rfl, -⟩ := hw.resolve_left (fun q => t q.2)
    simp only [n_00, if_true, not_true_eq_false, if_false, xr hIR 0 0 10 1, pw_bs]
    by_cases c : nI k = nI 12
    · rw [pw_it c]; exact no
    · rw [pw_ie c]; exact no
theorem year_mL {M : ha_St} (hIM : IM M) {k s : Nat} (hk : ha_gI M 0 68 = nI k) (hk2 : k < 8) (hs2 : s ≤ 60) : Ok (f_X12_year_L33i 0 ha_fu (nI s, 0, M)) (fun z => ∃ h, z = (nI s, ha_sA M 66 h) ∧ (∀ j, h j = if 60 * k ≤ j ∧ j < 60 * k + s then ha_gA M 2 (j - 60 * k) else ha_gA M 66 j)) := by
  have h7 : mo_ln (1 + 1) = 440 ∧ mo_ln (65 + 1) = 480 := by decide +kernel
  refine ok_for (fun i (S : ha_St) => (nI s, nI i, S)) 0 s (fun i S => ∃ h, S = ha_sA M 66 h ∧ (∀ j, h j = if 60 * k ≤ j ∧ j < 60 * k + i then ha_gA M 2 (j - 60 * k) else ha_gA M 66 j)) _ M ⟨ha_gA M 66, (st_self M 66).symm, fun j => by rw [if_neg (by omega)]⟩ (by omega) (by omega) ?_ ?_
  · rintro f i S hi ⟨h, rfl, hh⟩ ih
    show Ok (f_X12_year_L33 0 f (nI s) (nI i) (ha_sA M 66 h)) _
    unfold f_X12_year_L33
    simp only [pw_nm, nI_1, st_IA, st_fA, hk]
    refine ok_ie (nI_ge hi (by omega)) (ok_b (mr hIM 65 100) (ok_b (mr hIM 1 100) (ok_gd (by rw [h7.1]; exact n_in (by omega) (by omega)) ?_)))
    rw [show (60 : Int32) = nI 60 from rfl, nI_mul, nI_add]
    refine ok_gd (by rw [h7.2]; exact n_in (by omega) (by omega)) (ih _ ⟨_, st_sAA _ _ _ _, fun j => ?_⟩)
    rw [nI_clamp (show 60 * k + i < 2 ^ 31 by omega), nI_clamp (show i < 2 ^ 31 by omega)]
    show upd h (60 * k + i) (ha_gA M 2 i) j = _
    by_cases w : j = 60 * k + i
    · subst w
      rw [pk_us, if_pos (by omega), show 60 * k + i - 60 * k = i by omega]
    · rw [pk_un w, hh j]
      by_cases v : 60 * k ≤ j ∧ j < 60 * k + i
      · rw [if_pos v, if_pos (by omega)]
      · rw [if_neg v, if_neg (by omega)]
  · rintro f S ⟨h, rfl, hh⟩
    show Ok (f_X12_year_L33 0 f (nI s) (nI s) (ha_sA M 66 h)) _
    unfold f_X12_year_L33
    exact ok_it (nI_le (Nat.le_refl _) (by omega)) (ok_some ⟨h, rfl, hh⟩)
theorem tsz_cg {f g : Nat → Int32} : ∀ {n : Nat}, (∀ i, i < n → f i = g i) → tsz f n = tsz g n
  | 0, _ => rfl
  | n + 1, h => by
    show tsz f n + _ = tsz g n + _
    rw [tsz_cg (n := n) (fun i hi => h i (by omega)), h n (by omega)]
theorem tsz_le {f : Nat → Int32} {b : Nat} : ∀ {n : Nat}, (∀ i, i < n → (f i).toInt ≤ b) → tsz f n ≤ b * n
  | 0, _ => Nat.le_refl _
  | n + 1, h => by
    show tsz f n + _ ≤ _
    have h1 := tsz_le (n := n) (fun i hi => h i (by omega))
    have h2 := h n (by omega)
    rw [Nat.mul_succ]
    omega
theorem tsz_mono {f : Nat → Int32} {m : Nat} : ∀ {n : Nat}, m ≤ n → tsz f m ≤ tsz f n
  | 0, h => by rw [Nat.le_zero.mp h]; exact Nat.le_refl _
  | n + 1, h => by
    by_cases e : m = n + 1
    · rw [e]; exact Nat.le_refl _
    · exact Nat.le_trans (tsz_mono (n := n) (by omega)) (Nat.le_add_right _ _)
theorem tsz_lt {f : Nat → Int32} {m n : Nat} (h : m < n) : tsz f m + (f m).toInt.toNat ≤ tsz f n := tsz_mono (f := f) (m := m + 1) h
theorem inv_yr {X M : ha_St} (hI : Inv X M) {k s z : Nat} (hk : ha_gI M 0 68 = nI k) (hk2 : k < 8) (hs : ha_gI M 0 2 = nI s) (hs2 : s ≤ 60) (hT : Told (ha_gA M 2) s) (hz : tsz (ha_gA M 67) k = z) {h h' : Nat → Int32} (hh : ∀ j, h j = if z + k ≤ j ∧ j < z + k + s then ha_gA X 116 (j - (z + k)) else if j = z + k + s then 0 else ha_gA X 228 j) (hh' : ∀ j, h' j = if 60 * k ≤ j ∧ j < 60 * k + s then ha_gA M 2 (j - 60 * k) else ha_gA M 66 j) : Inv (ha_sI (ha_sI (ha_sI (ha_sI (ha_sA (ha_sI (ha_sA X 228 (va_cpy (ha_gA X 116) (ha_gA X 228) 0 (z + k) s)) 8 4 (nI (z + k + s))) 228 h) 8 4 (nI (z + k + s + 1))) 8 7 (nI (z + s))) 8 6 (nI (k + 1))) 1 1 0) (ha_sI (ha_sA (ha_sA (ha_sI M 0 2 0) 66 h') 67 (upd (ha_gA M 67) k (nI s))) 0 68 (nI (k + 1))) := by
  obtain ⟨hIR, hIB, hIM, hI1, hI2, hI3, hI4, hI5, hI6, hI7, hI8, hI9, hI10, hI11, hI13, hI14⟩ := hI
  obtain ⟨e1, e2, e3, e4, e5⟩ := hI1
  have hs0 := hT.1
  obtain ⟨d1, d2, d3, d4, d5, d6⟩ := hI11
  have hu : ∀ i, i < k → upd (ha_gA M 67) k (nI s) i = ha_gA M 67 i := fun i hi => pk_un (by omega)
  have ht : tsz (upd (ha_gA M 67) k (nI s)) (k + 1) = z + s := by
    show tsz (upd (ha_gA M 67) k (nI s)) k + (upd (ha_gA M 67) k (nI s) k).toInt.toNat = _
    rw [tsz_cg hu, hz, pk_us, n_tn (by omega)]
  have hkk : (nI (k + 1)).toInt.toNat = k + 1 := n_tn (by omega)
  exact ⟨IR_c (X := X) rfl hIR, IB_c (X := X) rfl rfl rfl hIB, IM_c (M := M) rfl hIM, ⟨rfl, by show (0 : Int) ≤ (0 : Int32).toInt; decide, by show (0 : Int32).toInt ≤ 440; decide, e4, e5⟩, I2_c (X := X) (M := M) rfl rfl rfl rfl hI2, I3_c (X := X) (M := M) rfl rfl rfl rfl hI3, I4_c (X := X) (M := M) rfl rfl rfl rfl rfl rfl hI4, I5_c (X := X) (M := M) (fun p j h1 h2 => by (try simp only [st_II, st_IA, st_IR, st_IB]); (repeat rw [if_neg (by omega)])) (fun a h1 h2 => by (try simp only [st_AI, st_AA, st_AR, st_AB]); (repeat rw [if_neg (by omega)])) rfl rfl (fun _ _ => rfl) rfl rfl rfl rfl rfl rfl rfl rfl rfl hI5, I6_c (X := X) (M := M) rfl rfl rfl rfl rfl rfl hI6, I7_c (X := X) (M := M) rfl rfl rfl rfl rfl rfl rfl rfl rfl rfl rfl rfl rfl rfl rfl rfl rfl rfl rfl rfl rfl rfl hI7, I8_c (X := X) (M := M) rfl rfl rfl rfl rfl rfl hI8, I9_c (X := X) (M := M) rfl rfl rfl rfl rfl rfl rfl hI9, I10_c (X := X) (M := M) rfl rfl rfl rfl hI10, ⟨rfl, by show 0 ≤ (nI (k + 1)).toInt; rw [nI_toInt (by omega)]; omega, by show (nI (k + 1)).toInt ≤ 8; rw [nI_toInt (by omega)]; omega, by
    show nI (z + k + s + 1) = nI (tsz (upd (ha_gA M 67) k (nI s)) (nI (k + 1)).toInt.toNat + (nI (k + 1)).toInt.toNat)
    rw [hkk, ht]; congr 1; omega, by
    show nI (z + s) = nI (tsz (upd (ha_gA M 67) k (nI s)) (nI (k + 1)).toInt.toNat)
    rw [hkk, ht], fun y hy => by
    have hy : (y : Int) < (nI (k + 1)).toInt := hy
    rw [nI_toInt (by omega)] at hy
    show 1 ≤ (upd (ha_gA M 67) k (nI s) y).toInt ∧ (upd (ha_gA M 67) k (nI s) y).toInt ≤ 60 ∧ Told (fun i => h' (60 * y + i)) (upd (ha_gA M 67) k (nI s) y).toInt.toNat ∧ (∀ i : Nat, (i : Int) < (upd (ha_gA M 67) k (nI s) y).toInt → h (tsz (upd (ha_gA M 67) k (nI s)) y + y + i) = h' (60 * y + i)) ∧ h (tsz (upd (ha_gA M 67) k (nI s)) y + y + (upd (ha_gA M 67) k (nI s) y).toInt.toNat) = 0
    rw [tsz_cg (n := y) (fun i hi => hu i (by omega))]
    by_cases w : y = k
    · subst w
      rw [pk_us, nI_toInt (by omega), show ((s : Nat) : Int).toNat = s by omega, hz]
      have q : ∀ i, i < s → h' (60 * y + i) = ha_gA M 2 i := fun i hi => by rw [hh', if_pos (by omega), show 60 * y + i - 60 * y = i by omega]
      refine ⟨by omega, by omega, told_cg (fun i hi => (q i hi).symm) hT, fun i hi => ?_, ?_⟩
      · rw [q i (by omega), hh, if_pos (by omega), show z + y + i - (z + y) = i by omega, e4]
      · rw [hh, if_neg (by omega), if_pos rfl]
    · rw [pk_un w]
      obtain ⟨f1, f2, f3, f4, f5⟩ := d6 y (by rw [hk, nI_toInt (by omega)]; omega)
      have q : ∀ i, i < (ha_gA M 67 y).toInt.toNat → h' (60 * y + i) = ha_gA M 66 (60 * y + i) := fun i hi => by rw [hh', if_neg (by omega)]
      have hlt : tsz (ha_gA M 67) y + (ha_gA M 67 y).toInt.toNat ≤ z := by rw [← hz]; exact tsz_lt (by omega)
      refine ⟨f1, f2, told_cg (fun i hi => (q i hi).symm) f3, fun i hi => ?_, ?_⟩
      · rw [q i (by omega), hh, if_neg (by omega), if_neg (by omega)]; exact f4 i hi
      · rw [hh, if_neg (by omega), if_neg (by omega)]; exact f5⟩, I13_c (X := X) (M := M) rfl rfl rfl rfl rfl rfl rfl rfl rfl rfl rfl rfl hI13, I14_c (X := X) (M := M) rfl rfl rfl (fun i => by (try simp only [st_AI, st_AA, st_AR, st_AB]); (repeat rw [if_neg (by omega)])) rfl rfl rfl rfl hI14⟩
theorem e_year {X M : ha_St} (hI : Inv X M) : Agr (f_X11_year 0 X) (f_X12_year 0 M) := by
  have hI := inv_thr 0 hI
  have hT := hI
  obtain ⟨hIR, hIB, hIM, hI1, hI2, hI3, hI4, hI5, hI6, hI7, hI8, hI9, hI10, hI11, hI13, hI14⟩ := hI
  obtain ⟨e1, e2, e3, e4, e5⟩ := hI1
  unfold f_X11_year f_X12_year f_X12_take f_X11_year_J28 f_X11_year_J29 f_X11_year_J45 f_X11_year_J68 f_X12_year_J29 f_X12_year_J64
  generalize ha_sI M 0 0 0 = M at *
  have hT0 := inv_tp hT 0 (by decide) (by decide)
  obtain ⟨s, s4, hs⟩ := n_of (N := 440) e2 e3
  obtain ⟨k, k4, hk⟩ := n_of (N := 8) hI11.2.1 hI11.2.2.1
  have hsX : ha_gI X 1 1 = nI s := e1.trans hs
  have hkX : ha_gI X 8 6 = nI k := hI11.1.trans hk
  have hIM0 : IM (ha_sI M 0 2 0) := IM_c (M := M) rfl hIM
  have hk0 : ha_gI (ha_sI M 0 2 0) 0 68 = nI k := hk
  have no : Agr (some (-1, ha_sI X 1 1 0)) (some (-1, ha_sI M 0 2 0)) := agr_mk rfl hT0
  simp only [pw_nm, pw_bs, xr hIR 0 0 10 1, hs, hk0]
  have hx := text_x hIR hsX s4 (show 60 ≤ 440 by omega)
  have hm := text_m hIM0 s4 (show 60 ≤ 440 by omega)
  obtain ⟨z, ez, hz⟩ := hx
  obtain ⟨w, ew, hw⟩ := hm
  rw [show (60 : Int32) = nI 60 from rfl, ez, ew]
  simp only [pw_bs]
  have hAt : ha_gA (ha_sI M 0 2 0) 2 = ha_gA X 116 := e4.symm
  rw [hAt] at hw
  by_cases t : s ≤ 60 ∧ Told (ha_gA X 116) s
  · obtain ⟨rfl, -⟩ := hz.resolve_right (fun q => q.2 t)
    obtain ⟨rfl, -⟩ := hw.resolve_right (fun q => q.2 t)
    simp only [n_10, if_false, not_false_eq_true, if_true, xr hIR 0 7 6 8, xr hIR 0 0 10 1, pw_bs, hkX, n_00]
    rw [show (8 : Int32) = nI 8 from rfl]
    by_cases c : k = 8
    · subst c
      rw [pw_it rfl, pw_it (nI_le (Nat.le_refl _) (by omega))]
      exact no
    · rw [pw_ie (fun q => c ((nI_eq (by omega) (by omega)).mp q)), pw_ie (fun q => c (by have := (nI_leI (by omega) (by omega)).mp q; omega))]
      have hn := hI11.2.2.2.1
      have hn7 := hI11.2.2.2.2.1
      have hle : tsz (ha_gA M 67) k ≤ 60 * k := tsz_le (b := 60) (fun i hi => (hI11.2.2.2.2.2 i (by rw [hk, nI_toInt (by omega)]; omega)).2.1)
      rw [hk, n_tn (by omega)] at hn hn7
      generalize hzz : tsz (ha_gA M 67) k = z at *
      have hs0 := t.2.1
      unfold f_X6_add
      have h7 : xo_ln 228 = 488 ∧ xo_ln 116 = 440 ∧ mo_ln (66 + 1) = 8 := by decide +kernel
      have g1 : ha_cpOk 0 (nI (z + k)) (nI s) 440 488 := by
        refine ⟨by decide, nI_pos (by omega), nI_pos (by omega), ?_, ?_⟩
        · rw [nI_clamp (by omega)]; show 0 + s ≤ 440; omega
        · rw [nI_clamp (by omega), nI_clamp (by omega)]; omega
      have g2 := n_in (c := z + k + s) (N := 488) (by omega) (by omega)
      simp only [pw_nm, pw_bs, xr hIR 8 0 100 228, xr hIR 1 0 100 116, hn, hsX, nI_add, nI_1, h7, pw_gd g1, st_II, st_IA, st_fI, st_fA, and_self, and_false, and_true, if_true, reduceIte, Nat.reduceEqDiff, pw_gd g2, hn7, hkX]
      rw [pw_it (nI_le (by omega) (by omega))]
      obtain ⟨w, ew, h', rfl, hh'⟩ := year_mL hIM0 hk0 (by omega) t.1
      rw [ew]
      simp only [pw_bs, n_10, if_false, st_fA, st_IA, st_fI, st_II, hk0, mr hIM0 66 100, h7, pw_gd (n_in (show k < 8 by omega) (by omega)), nI_1, and_self, if_true, xr hIR 0 0 10 1, xr hIR 0 7 6 8, and_false, and_true, reduceIte, Nat.reduceEqDiff, hkX]
      refine agr_mk rfl ?_
      simp only [nI_clamp (show z + k + s < 2 ^ 31 by omega), nI_clamp (show z + k < 2 ^ 31 by omega), nI_clamp (show k < 2 ^ 31 by omega), nI_clamp (show s < 2 ^ 31 by omega)]
      exact inv_yr hT hk (by omega) hs t.1 (e4 ▸ t.2) hzz (fun j => by
        show upd (va_cpy (ha_gA X 116) (ha_gA X 228) 0 (z + k) s) (z + k + s) 0 j = _
        by_cases q : j = z + k + s
        · rw [q, pk_us, if_neg (by omega), if_pos rfl]
        · rw [pk_un q, if_neg q]
          show (if z + k ≤ j ∧ j < z + k + s then ha_gA X 116 (0 + (j - (z + k))) else ha_gA X 228 j) = _
          rw [Nat.zero_add]) hh'
  · obtain ⟨rfl, -⟩ := hz.resolve_left (fun q => t q.2)
    obtain ⟨rfl, -⟩ := hw.resolve_left (fun q => t q.2)
    simp only [n_00, if_true, not_true_eq_false, if_false, xr hIR 0 0 10 1, pw_bs]
    by_cases c : nI k = 8
    · rw [pw_it c]; exact no
    · rw [pw_ie c]; exact no
