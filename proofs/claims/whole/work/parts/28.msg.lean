def okm (f : Nat → Int32) (a b : Nat) : Prop := ∀ i, a ≤ i → i < b → 1 ≤ (f i).toInt ∧ (f i).toInt ≤ 63
theorem okm_s {f : Nat → Int32} {a b : Nat} (h : a < b) : okm f a b ↔ (1 ≤ (f a).toInt ∧ (f a).toInt ≤ 63) ∧ okm f (a + 1) b := by
  constructor
  · intro g
    exact ⟨g a (Nat.le_refl _) h, fun i h1 h2 => g i (by omega) h2⟩
  · rintro ⟨g1, g2⟩ i h1 h2
    by_cases e : i = a
    · subst e; exact g1
    · exact g2 i (by omega) h2
theorem z_64 : (64 : Int32).toInt = 64 := rfl
theorem z_63 : (63 : Int32).toInt = 63 := rfl
theorem msg_x : ∀ (k n : Nat) (v : Int32) (X : ha_St), IR X → v.toInt = (ha_gI X 1 1).toInt - k → 0 ≤ v.toInt → (ha_gI X 1 1).toInt ≤ 60 → k < n → (okm (ha_gA X 116) v.toInt.toNat (ha_gI X 1 1).toInt.toNat → f_X1_takeMessage_L13i 2 1 n (v, X) = some (.inl X)) ∧ (¬ okm (ha_gA X 116) v.toInt.toNat (ha_gI X 1 1).toInt.toNat → f_X1_takeMessage_L13i 2 1 n (v, X) = some (.inr (0, X))) := by
  intro k
  induction k with
  | zero =>
    intro n v X hIR hv h0 hs hn
    obtain ⟨n, rfl⟩ : ∃ q, n = q + 1 := ⟨n - 1, by omega⟩
    have e : f_X1_takeMessage_L13i 2 1 (n + 1) (v, X) = some (.inl X) := by
      show f_X1_takeMessage_L13 2 1 (f_X1_takeMessage_L13i 2 1 n) v X = _
      unfold f_X1_takeMessage_L13
      rw [pw_it (by rw [i_le]; omega)]
    exact ⟨fun _ => e, fun h => absurd (fun i h1 h2 => by omega) h⟩
  | succ k ih =>
    intro n v X hIR hv h0 hs hn
    obtain ⟨n, rfl⟩ : ∃ q, n = q + 1 := ⟨n - 1, by omega⟩
    have hv2 : (v + 1).toInt = v.toInt + 1 := by rw [i_add (by rw [z_1]; omega) (by rw [z_1]; omega), z_1]
    have ih' := ih n (v + 1) X hIR (by omega) (by omega) hs (by omega)
    rw [hv2] at ih'
    rw [okm_s (by omega)]
    rw [show (v.toInt + 1).toNat = v.toInt.toNat + 1 by omega] at ih'
    have hx : xo_ln 116 = 440 := by decide +kernel
    have g1 : ¬ (v < 0 ∨ 440 ≤ v.toNatClampNeg) := by rw [i_lt, z_0, i_cl]; omega
    have e : f_X1_takeMessage_L13i 2 1 (n + 1) (v, X) = if ha_gA X 116 v.toInt.toNat < 1 then some (.inr (0, X)) else if ha_gA X 116 v.toInt.toNat < 64 then f_X1_takeMessage_L13i 2 1 n (v + 1, X) else some (.inr (0, X)) := by
      show f_X1_takeMessage_L13 2 1 (f_X1_takeMessage_L13i 2 1 n) v X = _
      unfold f_X1_takeMessage_L13 f_X1_takeMessage_L13_J42
      rw [pw_ie (by rw [i_le]; omega)]
      simp only [pw_nm, pw_bs, xr hIR 1 0 100 116, hx, pw_gd g1]
      rfl
    rw [e]
    by_cases c1 : ha_gA X 116 v.toInt.toNat < 1
    · rw [pw_it c1]
      rw [i_lt, z_1] at c1
      exact ⟨fun h => absurd h.1.1 (by omega), fun _ => rfl⟩
    · rw [pw_ie c1]
      rw [i_lt, z_1] at c1
      by_cases c2 : ha_gA X 116 v.toInt.toNat < 64
      · rw [pw_it c2]
        rw [i_lt, z_64] at c2
        exact ⟨fun h => ih'.1 h.2, fun h => ih'.2 (fun g => h ⟨⟨by omega, by omega⟩, g⟩)⟩
      · rw [pw_ie c2]
        rw [i_lt, z_64] at c2
        exact ⟨fun h => absurd h.1.2 (by omega), fun _ => rfl⟩
theorem msg_m (w : Int32) (hw : w.toInt ≤ 60) : ∀ (k n : Nat) (v : Int32) (M : ha_St), IM M → v.toInt = w.toInt - k → 0 ≤ v.toInt → k < n → (okm (ha_gA M 2) v.toInt.toNat w.toInt.toNat → f_X12_message_L20i 0 n (w, v, M) = some (.inl (w, M))) ∧ (¬ okm (ha_gA M 2) v.toInt.toNat w.toInt.toNat → f_X12_message_L20i 0 n (w, v, M) = some (.inr (0, M))) := by
  intro k
  induction k with
  | zero =>
    intro n v M hIM hv h0 hn
    obtain ⟨n, rfl⟩ : ∃ q, n = q + 1 := ⟨n - 1, by omega⟩
    have e : f_X12_message_L20i 0 (n + 1) (w, v, M) = some (.inl (w, M)) := by
      show f_X12_message_L20 0 (f_X12_message_L20i 0 n) w v M = _
      unfold f_X12_message_L20
      rw [pw_it (by rw [i_le]; omega)]
    exact ⟨fun _ => e, fun h => absurd (fun i h1 h2 => by omega) h⟩
  | succ k ih =>
    intro n v M hIM hv h0 hn
    obtain ⟨n, rfl⟩ : ∃ q, n = q + 1 := ⟨n - 1, by omega⟩
    have hv2 : (v + 1).toInt = v.toInt + 1 := by rw [i_add (by rw [z_1]; omega) (by rw [z_1]; omega), z_1]
    have ih' := ih n (v + 1) M hIM (by omega) (by omega) (by omega)
    rw [hv2] at ih'
    rw [okm_s (by omega)]
    rw [show (v.toInt + 1).toNat = v.toInt.toNat + 1 by omega] at ih'
    have hx : mo_ln (1 + 1) = 440 := by decide +kernel
    have g1 : ¬ (v < 0 ∨ 440 ≤ v.toNatClampNeg) := by rw [i_lt, z_0, i_cl]; omega
    have e : f_X12_message_L20i 0 (n + 1) (w, v, M) = if ha_gA M 2 v.toInt.toNat < 1 ∨ 63 < ha_gA M 2 v.toInt.toNat then some (.inr (0, M)) else f_X12_message_L20i 0 n (w, v + 1, M) := by
      show f_X12_message_L20 0 (f_X12_message_L20i 0 n) w v M = _
      unfold f_X12_message_L20
      rw [pw_ie (by rw [i_le]; omega)]
      simp only [pw_nm, pw_bs, mr hIM 1 100, hx, pw_gd g1, isIn_eq]
      show _ = if ha_gA M (1 + 1) v.toNatClampNeg < 1 ∨ 63 < ha_gA M (1 + 1) v.toNatClampNeg then _ else _
      by_cases c : ha_gA M (1 + 1) v.toNatClampNeg < 1 ∨ 63 < ha_gA M (1 + 1) v.toNatClampNeg
      · simp only [c, if_true, n_00, not_true_eq_false, if_false]
      · simp only [c, if_false, n_10, not_false_eq_true, if_true]
    rw [e]
    by_cases c1 : ha_gA M 2 v.toInt.toNat < 1 ∨ 63 < ha_gA M 2 v.toInt.toNat
    · rw [pw_it c1]
      rw [i_lt, i_lt, z_1, z_63] at c1
      exact ⟨fun h => absurd h.1 (by omega), fun _ => rfl⟩
    · rw [pw_ie c1]
      rw [i_lt, i_lt, z_1, z_63] at c1
      exact ⟨fun h => ih'.1 h.2, fun h => ih'.2 (fun g => h ⟨⟨by omega, by omega⟩, g⟩)⟩
theorem msg_c (w : Int32) (hw : w.toInt ≤ 60) : ∀ (k n : Nat) (v : Int32) (M : ha_St), IM M → v.toInt = w.toInt - k → 0 ≤ v.toInt → k < n → ∃ f, f_X12_message_L50i 0 n (w, v, M) = some (w, ha_sA M 27 f) ∧ ∀ i : Nat, f i = if v.toInt ≤ i ∧ (i : Int) < w.toInt then ha_gA M 2 i else ha_gA M 27 i := by
  intro k
  induction k with
  | zero =>
    intro n v M hIM hv h0 hn
    obtain ⟨n, rfl⟩ : ∃ q, n = q + 1 := ⟨n - 1, by omega⟩
    refine ⟨ha_gA M 27, ?_, fun i => by rw [if_neg (by omega)]⟩
    show f_X12_message_L50 0 (f_X12_message_L50i 0 n) w v M = _
    unfold f_X12_message_L50
    rw [pw_it (by rw [i_le]; omega), st_self]
  | succ k ih =>
    intro n v M hIM hv h0 hn
    obtain ⟨n, rfl⟩ : ∃ q, n = q + 1 := ⟨n - 1, by omega⟩
    have hv2 : (v + 1).toInt = v.toInt + 1 := by rw [i_add (by rw [z_1]; omega) (by rw [z_1]; omega), z_1]
    obtain ⟨f, r1, r2⟩ := ih n (v + 1) (ha_sA M 27 (upd (ha_gA M 27) v.toNatClampNeg (ha_gA M 2 v.toNatClampNeg))) (IM_c (M := M) rfl hIM) (by omega) (by omega) (by omega)
    refine ⟨f, ?_, fun i => ?_⟩
    · show f_X12_message_L50 0 (f_X12_message_L50i 0 n) w v M = _
      unfold f_X12_message_L50
      have hx : mo_ln (1 + 1) = 440 ∧ mo_ln (26 + 1) = 60 := by decide +kernel
      have g1 : ¬ (v < 0 ∨ 440 ≤ v.toNatClampNeg) := by rw [i_lt, z_0, i_cl]; omega
      have g2 : ¬ (v < 0 ∨ 60 ≤ v.toNatClampNeg) := by rw [i_lt, z_0, i_cl]; omega
      rw [pw_ie (by rw [i_le]; omega)]
      simp only [pw_nm, pw_bs, mr hIM 1 100, mr hIM 26 100, hx, pw_gd g1, pw_gd g2]
      rw [r1, st_sAA]
    · rw [r2 i, hv2]
      show (if _ then ha_gA M 2 i else upd (ha_gA M 27) _ _ i) = _
      by_cases ht : i = v.toNatClampNeg
      · subst ht
        rw [if_neg (by rw [i_cl]; omega), if_pos (by rw [i_cl]; omega), pk_us]
      · rw [pk_un ht]
        have ht' : (i : Int) ≠ v.toInt := by rw [i_cl] at ht; omega
        by_cases h : v.toInt + 1 ≤ i ∧ (i : Int) < w.toInt
        · rw [if_pos h, if_pos (by omega)]
        · rw [if_neg h, if_neg (by omega)]
theorem inv_msg {X M : ha_St} (hI : Inv X M) (f : Nat → Int32) (h : (ha_gI M 0 2).toInt ≤ 60) (hk : okm (ha_gA M 2) 0 (ha_gI M 0 2).toInt.toNat) (hf : ∀ i : Nat, f i = if (0 : Int) ≤ i ∧ (i : Int) < (ha_gI M 0 2).toInt then ha_gA M 2 i else ha_gA M 27 i) : Inv (ha_sI (ha_sI (ha_sA X 133 (va_cpy (ha_gA X 116) (ha_gA X 133) 0 0 (ha_gI M 0 2).toNatClampNeg)) 2 6 (ha_gI M 0 2)) 1 1 0) (ha_sI (ha_sA (ha_sI M 0 2 0) 27 f) 0 30 (ha_gI M 0 2)) := by
  obtain ⟨hIR, hIB, hIM, hI1, hI2, hI3, hI4, hI5, hI6, hI7, hI8, hI9, hI10, hI11, hI13, hI14⟩ := hI
  obtain ⟨e1, e2, e3, e4, e5⟩ := hI1
  exact ⟨IR_c (X := X) rfl hIR, IB_c (X := X) rfl rfl rfl hIB, IM_c (M := M) rfl hIM, ⟨rfl, by show (0 : Int) ≤ (0 : Int32).toInt; decide, by show (0 : Int32).toInt ≤ 440; decide, e4, e5⟩, I2_c (X := X) (M := M) rfl rfl rfl rfl hI2, ⟨rfl, e2, h, fun j hj => by
    have hj : (j : Int) < (ha_gI M 0 2).toInt := hj
    show va_cpy (ha_gA X 116) (ha_gA X 133) 0 0 (ha_gI M 0 2).toNatClampNeg j = f j ∧ 1 ≤ (f j).toInt ∧ (f j).toInt ≤ 63
    rw [hf j, if_pos (by omega), pk_cpy_in (by omega) (by rw [i_cl]; omega), e4]
    have := hk j (by omega) (by omega)
    refine ⟨?_, this⟩
    rw [show 0 + (j - 0) = j by omega]⟩, I4_c (X := X) (M := M) rfl rfl rfl rfl rfl rfl hI4, I5_c (X := X) (M := M) (fun p j h1 h2 => by (try simp only [st_II, st_IA, st_IR, st_IB]); (repeat rw [if_neg (by omega)])) (fun a h1 h2 => by (try simp only [st_AI, st_AA, st_AR, st_AB]); (repeat rw [if_neg (by omega)])) rfl rfl (fun _ _ => rfl) rfl rfl rfl rfl rfl rfl rfl rfl rfl hI5, I6_c (X := X) (M := M) rfl rfl rfl rfl rfl rfl hI6, I7_c (X := X) (M := M) rfl rfl rfl rfl rfl rfl rfl rfl rfl rfl rfl rfl rfl rfl rfl rfl rfl rfl rfl rfl rfl rfl hI7, I8_c (X := X) (M := M) rfl rfl rfl rfl rfl rfl hI8, I9_c (X := X) (M := M) rfl rfl rfl rfl rfl rfl rfl hI9, I10_c (X := X) (M := M) rfl rfl rfl rfl hI10, I11_c (X := X) (M := M) rfl rfl rfl rfl rfl rfl rfl hI11, I13_c (X := X) (M := M) rfl rfl rfl rfl rfl rfl rfl rfl rfl rfl rfl rfl hI13, I14_c (X := X) (M := M) rfl rfl rfl (fun i => by (try simp only [st_AI, st_AA, st_AR, st_AB]); (repeat rw [if_neg (by omega)])) rfl rfl rfl rfl hI14⟩
theorem e_message {X M : ha_St} (hI : Inv X M) : Agr (f_X11_message 0 X) (f_X12_message 0 M) := by
  have hI := inv_thr 0 hI
  have hT := hI
  obtain ⟨hIR, hIB, hIM, hI1, hI2, hI3, hI4, hI5, hI6, hI7, hI8, hI9, hI10, hI11, hI13, hI14⟩ := hI
  obtain ⟨e1, e2, e3, e4, e5⟩ := hI1
  unfold f_X11_message f_X12_message f_X12_take f_X12_message_J48 f_X12_message_J73
  generalize ha_sI M 0 0 0 = M at *
  have hT0 := inv_tp hT 0 (by decide) (by decide)
  simp only [pw_nm, pw_bs, xr hIR 0 1 1 2, xr hIR 0 0 10 1]
  unfold f_X1_takeMessage f_X1_takeMessage_J50
  simp only [pw_nm, e1]
  by_cases c : ha_gI M 0 2 ≤ 60
  · rw [pw_it c, pw_it c]
    rw [i_le, z_60] at c
    have hx := msg_x (ha_gI M 0 2).toInt.toNat ha_fu 0 X hIR (by rw [e1, z_0]; omega) (by decide) (by rw [e1]; omega) (fu_lt (by omega))
    have hm := msg_m (ha_gI M 0 2) c (ha_gI M 0 2).toInt.toNat ha_fu 0 (ha_sI M 0 2 0) (IM_c (M := M) rfl hIM) (by rw [z_0]; omega) (by decide) (fu_lt (by omega))
    rw [e1, e4, z_0] at hx
    rw [z_0] at hm
    by_cases ok : okm (ha_gA M 2) (0 : Int).toNat (ha_gI M 0 2).toInt.toNat
    · rw [hx.1 ok, hm.1 ok]
      obtain ⟨f, r1, r2⟩ := msg_c (ha_gI M 0 2) c (ha_gI M 0 2).toInt.toNat ha_fu 0 (ha_sI M 0 2 0) (IM_c (M := M) rfl hIM) (by rw [z_0]; omega) (by decide) (fu_lt (by omega))
      have hl : xo_ln 116 = 440 ∧ xo_ln 133 = 60 := by decide +kernel
      have hcp : ha_cpOk 0 0 (ha_gI M 0 2) 440 60 := by
        refine ⟨by decide, by decide, by rw [i_lt, z_0]; omega, ?_, ?_⟩
        · rw [i_cl, i_cl, z_0]; omega
        · rw [i_cl, i_cl, z_0]; omega
      simp only [pw_bs, Sum.elim_inl, r1, xr hIR 1 0 100 116, xr hIR 2 1 100 133, e1, hl, pw_gd hcp, st_IA, st_fI, st_fA, xr hIR 0 0 10 1]
      rw [pw_gd (show ((1 : Int32) = 0 ∨ True) from Or.inr trivial)]
      exact agr_mk rfl (inv_msg hT f c ok r2)
    · rw [hx.2 ok, hm.2 ok]
      simp only [pw_bs, Sum.elim_inr, xr hIR 0 0 10 1]
      rw [pw_gd (show (True ∨ (0 : Int32) = 1) from Or.inl trivial)]
      exact agr_mk rfl hT0
  · rw [pw_ie c, pw_ie c]
    simp only [pw_bs, xr hIR 0 0 10 1]
    rw [pw_gd (show (True ∨ (0 : Int32) = 1) from Or.inl trivial)]
    exact agr_mk rfl hT0
