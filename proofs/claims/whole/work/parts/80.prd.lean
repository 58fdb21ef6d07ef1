/-! THE READERS SIDE BY SIDE: both come out, and what holds between them -/
def Tw {α β : Type} (u : Option α) (w : Option β) (R : α → β → Prop) : Prop := ∃ a b, u = some a ∧ w = some b ∧ R a b
section TWO
variable {α β γ δ : Type} {R : α → β → Prop}
theorem tw_ss {a : α} {b : β} (h : R a b) : Tw (some a) (some b) R := ⟨a, b, rfl, rfl, h⟩
theorem tw_bl {x : Option γ} {c : γ} {k : γ → Option α} {w : Option β} (h : x = some c) (g : Tw (k c) w R) : Tw (x.bind k) w R := by rw [h]; exact g
theorem tw_br {x : Option γ} {c : γ} {k : γ → Option β} {u : Option α} (h : x = some c) (g : Tw u (k c) R) : Tw u (x.bind k) R := by rw [h]; exact g
theorem tw_bb {u : Option γ} {w : Option δ} {k : γ → Option α} {j : δ → Option β} {P : γ → δ → Prop} (h : Tw u w P) (g : ∀ a b, P a b → Tw (k a) (j b) R) : Tw (u.bind k) (w.bind j) R := by
  obtain ⟨a, b, e1, e2, hp⟩ := h
  rw [e1, e2]; exact g a b hp
theorem tw_il {c : Prop} [Decidable c] {a b : Option α} {w : Option β} (h : c) (g : Tw a w R) : Tw (if c then a else b) w R := by rw [if_pos h]; exact g
theorem tw_el {c : Prop} [Decidable c] {a b : Option α} {w : Option β} (h : ¬ c) (g : Tw b w R) : Tw (if c then a else b) w R := by rw [if_neg h]; exact g
theorem tw_ir {c : Prop} [Decidable c] {a b : Option β} {w : Option α} (h : c) (g : Tw w a R) : Tw w (if c then a else b) R := by rw [if_pos h]; exact g
theorem tw_er {c : Prop} [Decidable c] {a b : Option β} {w : Option α} (h : ¬ c) (g : Tw w b R) : Tw w (if c then a else b) R := by rw [if_neg h]; exact g
theorem tw_gl {c : Prop} [Decidable c] {a : Option α} {w : Option β} (h : c) (g : Tw a w R) : Tw (ha_gd c a) w R := by rw [pw_gd h]; exact g
theorem tw_gr {c : Prop} [Decidable c] {a : Option β} {w : Option α} (h : c) (g : Tw w a R) : Tw w (ha_gd c a) R := by rw [pw_gd h]; exact g
theorem tw_mono {u : Option α} {w : Option β} {P : α → β → Prop} (h : Tw u w P) (g : ∀ a b, P a b → R a b) : Tw u w R := by
  obtain ⟨a, b, e1, e2, hp⟩ := h
  exact ⟨a, b, e1, e2, g a b hp⟩
end TWO
/-! what the model's questions answer, by the class's token -/
theorem sp_0 : f_X12_spelt 108 101 102 116 0 = some (wk 0) := by decide +kernel
theorem sp_1 : f_X12_spelt 114 105 103 104 116 = some (wk 1) := by decide +kernel
theorem sp_2 : f_X12_spelt 111 119 110 0 0 = some (wk 2) := by decide +kernel
theorem sp_3 : f_X12_spelt 116 105 109 101 0 = some (wk 3) := by decide +kernel
theorem sp_4 : f_X12_spelt 119 111 114 100 0 = some (wk 4) := by decide +kernel
theorem sp_5 : f_X12_spelt 98 108 105 110 100 = some (wk 5) := by decide +kernel
theorem sp_10 : f_X12_spelt 119 104 101 110 0 = some (wk 10) := by decide +kernel
theorem sp_11 : f_X12_spelt 97 110 100 0 0 = some (wk 11) := by decide +kernel
theorem sp_12 : f_X12_spelt 100 111 0 0 0 = some (wk 12) := by decide +kernel
theorem sp_13 : f_X12_spelt 115 104 111 119 0 = some (wk 13) := by decide +kernel
theorem sp_14 : f_X12_spelt 105 115 0 0 0 = some (wk 14) := by decide +kernel
theorem sp_15 : f_X12_spelt 119 114 105 116 101 = some (wk 15) := by decide +kernel
theorem sp_16 : f_X12_spelt 115 101 110 116 0 = some (wk 16) := by decide +kernel
theorem wk_inj : ∀ s, s < 17 → ∀ t, t < 17 → wk s = wk t → s = t := by decide +kernel
theorem bm_inj : ∀ s, s < 7 → ∀ t, t < 7 → xo_by 0 s = xo_by 0 t → s = t := by decide +kernel
theorem wk_cell : ∀ s, s < 17 → ((1 ≤ (wk s).toInt ∧ (wk s).toInt ≤ 4) ↔ (6 ≤ s ∧ s ≤ 9)) := by decide +kernel
theorem n_m2 {a : Nat} (ha : a < 2 ^ 31) : ¬ (-2 : Int32) = nI a := by
  intro h
  have : (-2 : Int32).toInt = (nI a).toInt := by rw [h]
  rw [nI_toInt ha] at this
  have z : (-2 : Int32).toInt = -2 := rfl
  omega
theorem ifz {c : Prop} [Decidable c] : ((if c then (1 : Int32) else 0) = 0) ↔ ¬ c := by
  by_cases h : c
  · rw [if_pos h]; exact ⟨fun g => absurd g (by decide), fun g => absurd h g⟩
  · rw [if_neg h]; exact ⟨fun _ => h, fun _ => rfl⟩
theorem ifo {c : Prop} [Decidable c] : ((if c then (1 : Int32) else 0) = 0 ∨ (if c then (1 : Int32) else 0) = 1) := by
  by_cases h : c
  · rw [if_pos h]; exact Or.inr rfl
  · rw [if_neg h]; exact Or.inl rfl
section TOK
variable {tok : Int32} {sz : Nat} {N : ha_St}
theorem tk_rg (h : TKR tok sz N) : -2 ≤ tok.toInt ∧ tok.toInt ≤ 123 := by
  rcases h with ⟨h, -⟩ | ⟨h, -⟩ | ⟨v, h1, h2, -⟩ | ⟨t, h1, h2, -⟩ | ⟨i, h1, h2, -⟩
  · rw [h]; decide
  · rw [h]; decide
  · rw [h2, nI_toInt (by omega)]; omega
  · rw [h2, nI_toInt (by omega)]; omega
  · rw [h2, nI_toInt (by omega)]; omega
theorem key_i (h : TKR tok sz N) {s : Nat} (hs : s < 17) : (ha_gI N 0 8 = 2 ∧ ha_gJ N 0 13 = wk s) ↔ tok = nI (100 + s) := by
  rcases h with ⟨h, g⟩ | ⟨h, g⟩ | ⟨v, h1, h2, h3, h4⟩ | ⟨t, h1, h2, h3, h4⟩ | ⟨i, h1, h2, h3, h4⟩
  · refine ⟨fun a => ?_, fun a => absurd (h.symm.trans a) (n_m2 (by omega))⟩
    rcases g with ⟨-, g⟩ | ⟨-, g⟩ <;> exact absurd (g.symm.trans a.1) (by decide)
  · refine ⟨fun a => ?_, fun a => absurd (a.symm.trans h) (n_m1 (by omega))⟩
    rcases g with g | ⟨-, g⟩
    · exact absurd (g.symm.trans a.1) (by decide)
    · exact absurd a.2 (g s hs)
  · refine ⟨fun a => absurd (h3.symm.trans a.1) (by decide), fun a => ?_⟩
    have := (nIeq (by omega) (by omega)).mp (h2.symm.trans a)
    omega
  · refine ⟨fun a => ?_, fun a => ?_⟩
    · rw [h2, wk_inj s hs t h1 (a.2.symm.trans h4)]
    · have := (nIeq (by omega) (by omega)).mp (h2.symm.trans a)
      obtain rfl : s = t := by omega
      exact ⟨h3, h4⟩
  · refine ⟨fun a => absurd (h3.symm.trans a.1) (by decide), fun a => ?_⟩
    have := (nIeq (by omega) (by omega)).mp (h2.symm.trans a)
    omega
theorem key_m (h : TKR tok sz N) {s : Nat} (hs : s < 17) : f_X12_isKey 0 (wk s) N = some (if tok = nI (100 + s) then 1 else 0, N) := by
  have k := key_i h hs
  unfold f_X12_isKey f_X12_isKey_J21 f_X12_isKey_J22
  by_cases c : tok = nI (100 + s)
  · obtain ⟨k1, k2⟩ := k.mpr c
    rw [if_pos c, pw_ie (fun g => g k1), pw_ie (fun g => g ((lg_cmp_eq _ _).mpr k2)), pw_gd (Or.inr rfl)]
  · rw [if_neg c]
    by_cases k1 : ha_gI N 0 8 = 2
    · rw [pw_ie (fun g => g k1), pw_it (show ¬ lg_cmp (ha_gJ N 0 13) (wk s) = 0 from fun g => c (k.mp ⟨k1, (lg_cmp_eq _ _).mp g⟩)), pw_gd (Or.inl rfl)]
    · rw [pw_it k1, pw_gd (Or.inl rfl)]
theorem sgn_i (h : TKR tok sz N) {s : Nat} (hs : s < 7) : (ha_gI N 0 8 = 4 ∧ ha_gI N 0 10 = xo_by 0 s) ↔ tok = nI (117 + s) := by
  rcases h with ⟨h, g⟩ | ⟨h, g⟩ | ⟨v, h1, h2, h3, h4⟩ | ⟨t, h1, h2, h3, h4⟩ | ⟨t, h1, h2, h3, h4⟩
  · refine ⟨fun a => ?_, fun a => absurd (h.symm.trans a) (n_m2 (by omega))⟩
    rcases g with ⟨-, g⟩ | ⟨-, g⟩ <;> exact absurd (g.symm.trans a.1) (by decide)
  · refine ⟨fun a => ?_, fun a => absurd (a.symm.trans h) (n_m1 (by omega))⟩
    rcases g with g | ⟨g, -⟩ <;> exact absurd (g.symm.trans a.1) (by decide)
  · refine ⟨fun a => absurd (h3.symm.trans a.1) (by decide), fun a => ?_⟩
    have := (nIeq (by omega) (by omega)).mp (h2.symm.trans a)
    omega
  · refine ⟨fun a => absurd (h3.symm.trans a.1) (by decide), fun a => ?_⟩
    have := (nIeq (by omega) (by omega)).mp (h2.symm.trans a)
    omega
  · refine ⟨fun a => ?_, fun a => ?_⟩
    · rw [h2, bm_inj s hs t h1 (a.2.symm.trans h4)]
    · have := (nIeq (by omega) (by omega)).mp (h2.symm.trans a)
      obtain rfl : s = t := by omega
      exact ⟨h3, h4⟩
theorem sgn_m (h : TKR tok sz N) {s : Nat} (hs : s < 7) : f_X12_isSign 0 (xo_by 0 s) N = some (if tok = nI (117 + s) then 1 else 0, N) := by
  have k := sgn_i h hs
  unfold f_X12_isSign f_X12_isSign_J20 f_X12_isSign_J21
  by_cases c : tok = nI (117 + s)
  · obtain ⟨k1, k2⟩ := k.mpr c
    rw [if_pos c, pw_ie (fun g => g k1), pw_ie (fun g => g k2), pw_gd (Or.inr rfl)]
  · rw [if_neg c]
    by_cases k1 : ha_gI N 0 8 = 4
    · rw [pw_ie (fun g => g k1), pw_it (show ¬ ha_gI N 0 10 = xo_by 0 s from fun g => c (k.mp ⟨k1, g⟩)), pw_gd (Or.inl rfl)]
    · rw [pw_it k1, pw_gd (Or.inl rfl)]
theorem cel_i (h : TKR tok sz N) : (ha_gI N 0 8 = 2 ∧ 1 ≤ (ha_gJ N 0 13).toInt ∧ (ha_gJ N 0 13).toInt ≤ 4) ↔ (106 ≤ tok.toInt ∧ tok.toInt ≤ 109) := by
  rcases h with ⟨h, g⟩ | ⟨h, g⟩ | ⟨v, h1, h2, h3, h4⟩ | ⟨t, h1, h2, h3, h4⟩ | ⟨t, h1, h2, h3, h4⟩
  · refine ⟨fun a => ?_, fun a => absurd a (by rw [h]; decide)⟩
    rcases g with ⟨-, g⟩ | ⟨-, g⟩ <;> exact absurd (g.symm.trans a.1) (by decide)
  · refine ⟨fun a => ?_, fun a => absurd a (by rw [h]; decide)⟩
    rcases g with g | ⟨-, g⟩
    · exact absurd (g.symm.trans a.1) (by decide)
    · have w : ∀ s, 6 ≤ s → s ≤ 9 → (ha_gJ N 0 13).toInt ≠ (wk s).toInt := fun s _ _ e => g s (by omega) (Int64.toInt_inj.mp e)
      have w6 := w 6 (by omega) (by omega)
      have w7 := w 7 (by omega) (by omega)
      have w8 := w 8 (by omega) (by omega)
      have w9 := w 9 (by omega) (by omega)
      have e6 : (wk 6).toInt = 1 := by decide +kernel
      have e7 : (wk 7).toInt = 2 := by decide +kernel
      have e8 : (wk 8).toInt = 3 := by decide +kernel
      have e9 : (wk 9).toInt = 4 := by decide +kernel
      omega
  · refine ⟨fun a => absurd (h3.symm.trans a.1) (by decide), fun a => ?_⟩
    rw [h2, nI_toInt (by omega)] at a
    omega
  · rw [h4, wk_cell t h1, h2, nI_toInt (by omega)]
    exact ⟨fun a => by omega, fun a => ⟨h3, by omega, by omega⟩⟩
  · refine ⟨fun a => absurd (h3.symm.trans a.1) (by decide), fun a => ?_⟩
    rw [h2, nI_toInt (by omega)] at a
    omega
theorem l_lt (a b : Int64) : a < b ↔ a.toInt < b.toInt := Int64.lt_iff_toInt_lt
theorem cel_m (h : TKR tok sz N) : f_X12_isCell 0 N = some (if 106 ≤ tok.toInt ∧ tok.toInt ≤ 109 then 1 else 0, N) := by
  have k := cel_i h
  have e1 : (1 : Int64).toInt = 1 := rfl
  have e4 : (4 : Int64).toInt = 4 := rfl
  unfold f_X12_isCell f_X12_isCell_J32 f_X12_isCell_J33
  simp only [lg_cmp_lt, lg_cmp_gt, l_lt, e1, e4]
  by_cases c : 106 ≤ tok.toInt ∧ tok.toInt ≤ 109
  · obtain ⟨k1, k2, k3⟩ := k.mpr c
    rw [if_pos c, pw_ie (fun g => g k1), pw_ie (by omega), pw_ie (by omega), pw_gd (Or.inr trivial)]
  · rw [if_neg c]
    by_cases k1 : ha_gI N 0 8 = 2
    · rw [pw_ie (fun g => g k1)]
      by_cases k2 : (ha_gJ N 0 13).toInt < 1
      · rw [pw_it k2, pw_gd (Or.inl trivial)]
      · by_cases k3 : 4 < (ha_gJ N 0 13).toInt
        · rw [pw_ie k2, pw_it k3, pw_gd (Or.inl trivial)]
        · exact absurd (k.mp ⟨k1, by omega, by omega⟩) c
    · rw [pw_it k1, pw_gd (Or.inl trivial)]
theorem num_i (h : TKR tok sz N) : ha_gI N 0 8 = 3 ↔ (0 ≤ tok.toInt ∧ tok.toInt < 100) := by
  rcases h with ⟨h, g⟩ | ⟨h, g⟩ | ⟨v, h1, h2, h3, h4⟩ | ⟨t, h1, h2, h3, h4⟩ | ⟨t, h1, h2, h3, h4⟩
  · refine ⟨fun a => ?_, fun a => absurd a (by rw [h]; decide)⟩
    rcases g with ⟨-, g⟩ | ⟨-, g⟩ <;> exact absurd (g.symm.trans a) (by decide)
  · refine ⟨fun a => ?_, fun a => absurd a (by rw [h]; decide)⟩
    rcases g with g | ⟨g, -⟩ <;> exact absurd (g.symm.trans a) (by decide)
  · rw [h2, nI_toInt (by omega)]
    exact ⟨fun _ => by omega, fun _ => h3⟩
  · rw [h2, nI_toInt (by omega)]
    exact ⟨fun a => absurd (h3.symm.trans a) (by decide), fun a => by omega⟩
  · rw [h2, nI_toInt (by omega)]
    exact ⟨fun a => absurd (h3.symm.trans a) (by decide), fun a => by omega⟩
/-- a value -/
def vl (t : Int32) : Prop := 0 ≤ t.toInt ∧ t.toInt < 110
theorem vlm_r (h : TKR tok sz N) : Ok (f_X12_isValue 0 N) (fun z => z.2 = N ∧ ((z.1 = 1 ∧ vl tok) ∨ (z.1 = 0 ∧ ¬ vl tok))) := by
  have lit : ∀ s, s < 10 → tok = nI (100 + s) → vl tok := fun s hs e => by unfold vl; rw [e, nI_toInt (by omega)]; omega
  have j1 : vl tok → Ok (f_X12_isValue_J120 0 1 N) (fun z => z.2 = N ∧ ((z.1 = 1 ∧ vl tok) ∨ (z.1 = 0 ∧ ¬ vl tok))) := by
    intro hv
    unfold f_X12_isValue_J120 f_X12_isValue_J140 f_X12_isValue_J145
    refine ok_if (fun _ => ok_gd (Or.inr rfl) (ok_some ⟨rfl, Or.inl ⟨rfl, hv⟩⟩)) (fun _ => ok_b (cel_m h) ?_)
    refine ok_if (fun _ => ok_gd (Or.inr rfl) (ok_some ⟨rfl, Or.inl ⟨rfl, hv⟩⟩)) (fun _ => ok_ie (by decide) (ok_gd (Or.inr rfl) (ok_some ⟨rfl, Or.inl ⟨rfl, hv⟩⟩)))
  have yes : ∀ s, s < 10 → tok = nI (100 + s) → Ok (f_X12_isValue_J115 0 N) (fun z => z.2 = N ∧ ((z.1 = 1 ∧ vl tok) ∨ (z.1 = 0 ∧ ¬ vl tok))) := fun s hs e => j1 (lit s hs e)
  unfold f_X12_isValue
  refine ok_b sp_0 (ok_b (key_m h (by omega)) (ok_if (fun c => yes 0 (by omega) (Decidable.not_not.mp (fun g => c (ifz.mpr g)))) (fun c0 => ?_)))
  refine ok_b sp_1 (ok_b (key_m h (by omega)) (ok_if (fun c => yes 1 (by omega) (Decidable.not_not.mp (fun g => c (ifz.mpr g)))) (fun c1 => ?_)))
  refine ok_b sp_2 (ok_b (key_m h (by omega)) (ok_if (fun c => yes 2 (by omega) (Decidable.not_not.mp (fun g => c (ifz.mpr g)))) (fun c2 => ?_)))
  refine ok_b sp_3 (ok_b (key_m h (by omega)) (ok_if (fun c => yes 3 (by omega) (Decidable.not_not.mp (fun g => c (ifz.mpr g)))) (fun c3 => ?_)))
  refine ok_b sp_4 (ok_b (key_m h (by omega)) (ok_if (fun c => yes 4 (by omega) (Decidable.not_not.mp (fun g => c (ifz.mpr g)))) (fun c4 => ?_)))
  refine ok_b sp_5 (ok_b (key_m h (by omega)) (ok_if (fun c5 => ?_) (fun c => yes 5 (by omega) (Decidable.not_not.mp (fun g => c (ifz.mpr g))))))
  have n0 := ifz.mp (Decidable.not_not.mp c0)
  have n1 := ifz.mp (Decidable.not_not.mp c1)
  have n2 := ifz.mp (Decidable.not_not.mp c2)
  have n3 := ifz.mp (Decidable.not_not.mp c3)
  have n4 := ifz.mp (Decidable.not_not.mp c4)
  have n5 := ifz.mp c5
  rw [i_eq, nI_toInt (by omega)] at n0 n1 n2 n3 n4 n5
  unfold f_X12_isValue_J120 f_X12_isValue_J140 f_X12_isValue_J145
  refine ok_if (fun d => ok_gd (Or.inr rfl) (ok_some ⟨rfl, Or.inl ⟨rfl, by have := (num_i h).mp d; unfold vl; omega⟩⟩)) (fun d => ok_b (cel_m h) ?_)
  have nd : ¬ (0 ≤ tok.toInt ∧ tok.toInt < 100) := fun g => d ((num_i h).mpr g)
  refine ok_if (fun e => ok_gd (Or.inr rfl) (ok_some ⟨rfl, Or.inl ⟨rfl, ?_⟩⟩)) (fun e => ok_it rfl (ok_gd (Or.inl rfl) (ok_some ⟨rfl, Or.inr ⟨rfl, ?_⟩⟩)))
  · have : 106 ≤ tok.toInt ∧ tok.toInt ≤ 109 := Decidable.not_not.mp (fun g => e (ifz.mpr g))
    unfold vl; omega
  · have : ¬ (106 ≤ tok.toInt ∧ tok.toInt ≤ 109) := ifz.mp (Decidable.not_not.mp e)
    unfold vl; omega
theorem vlx_r (Y : ha_St) : Ok (f_X9_isValue 3 Y) (fun z => z.2 = Y ∧ ((z.1 = 1 ∧ vl (ha_gI Y 3 3)) ∨ (z.1 = 0 ∧ ¬ vl (ha_gI Y 3 3)))) := by
  have z110 : (110 : Int32).toInt = 110 := rfl
  unfold f_X9_isValue f_X9_isValue_J20 f_X9_isValue_J21 vl
  refine ok_if (fun c => ok_gd (Or.inl rfl) (ok_some ⟨rfl, Or.inr ⟨rfl, ?_⟩⟩)) (fun c => ok_if (fun d => ok_gd (Or.inl rfl) (ok_some ⟨rfl, Or.inr ⟨rfl, ?_⟩⟩)) (fun d => ok_gd (Or.inr rfl) (ok_some ⟨rfl, Or.inl ⟨rfl, ?_⟩⟩)))
  · rw [i_lt, z_0] at c; omega
  · rw [i_le, z110] at d; omega
  · rw [i_lt, z_0] at c; rw [i_le, z110] at d; omega
/-- the model's refusal, the class's -/
def bdS (k : Int32) (N : ha_St) : ha_St := ha_sI (ha_sI N 0 11 (if ha_gI N 0 8 = 1 then 1 else k)) 0 12 (ha_gI N 0 7)
def rfS (k : Int32) (Y : ha_St) : ha_St := ha_sI (ha_sI Y 3 6 k) 3 7 (ha_gI Y 3 4)
theorem bad_m (k : Int32) (N : ha_St) : f_X12_bad 0 k N = some (0, bdS k N) := by
  unfold f_X12_bad f_X12_bad_J14 bdS
  by_cases c : ha_gI N 0 8 = 1
  · rw [pw_ie (fun g => g c), if_pos c]; rfl
  · rw [pw_it c, if_neg c]; rfl
theorem ref_x (k : Int32) (Y : ha_St) : f_X9_refuse 3 k Y = some (0, rfS k Y) := rfl
theorem wk_nm : ∀ s, s < 17 → 6 ≤ s → s ≤ 9 → (106 : Int32) + (wk s).toInt32 - 1 = nI (100 + s) ∧ (wk s).toInt32 - 1 = nI (s - 6) := by decide +kernel
theorem rv_ok (h : TKR tok sz N) (hv : vl tok) : f_X12_readValue 0 N = (f_X12_go 0 (ha_sI N 0 25 tok)).bind fun z => some (1, z) := by
  have hl : 0 ≤ tok.toInt ∧ tok.toInt < 110 := hv
  unfold f_X12_readValue f_X12_readValue_J218
  by_cases c : ha_gI N 0 8 = 3
  · rw [pw_ie (fun g => g c), pw_nm]
    rcases h with ⟨h, g⟩ | ⟨h, g⟩ | ⟨v, h1, h2, h3, h4⟩ | ⟨t, h1, h2, h3, h4⟩ | ⟨t, h1, h2, h3, h4⟩
    · rcases g with ⟨-, g⟩ | ⟨-, g⟩ <;> exact absurd (g.symm.trans c) (by decide)
    · rcases g with g | ⟨g, -⟩ <;> exact absurd (g.symm.trans c) (by decide)
    · rw [h4, h2]
    · exact absurd (h3.symm.trans c) (by decide)
    · exact absurd (h3.symm.trans c) (by decide)
  · have hn : ¬ (0 ≤ tok.toInt ∧ tok.toInt < 100) := fun g => c ((num_i h).mpr g)
    rw [pw_it c, cel_m h, pw_bs]
    by_cases d : 106 ≤ tok.toInt ∧ tok.toInt ≤ 109
    · obtain ⟨k1, k2, k3⟩ := (cel_i h).mpr d
      rw [if_pos d, pw_ie (show ¬ (1 : Int32) = 0 by decide), pw_nm]
      rcases h with ⟨h, g⟩ | ⟨h, g⟩ | ⟨v, h1, h2, h3, h4⟩ | ⟨t, h1, h2, h3, h4⟩ | ⟨t, h1, h2, h3, h4⟩
      · exact absurd d (by rw [h]; decide)
      · exact absurd d (by rw [h]; decide)
      · exact absurd (h3.symm.trans k1) (by decide)
      · rw [h2, nI_toInt (by omega)] at d
        show (f_X12_go 0 (ha_sI N 0 25 (106 + (ha_gJ N 0 13).toInt32 - 1))).bind _ = _
        rw [h4, (wk_nm t h1 (by omega) (by omega)).1, h2]
      · exact absurd (h3.symm.trans k1) (by decide)
    · rw [if_neg d, pw_it rfl, sp_0, pw_bs, key_m h (by omega), pw_bs]
      have stp : ∀ (s : Nat) (A B : Option (Int32 × ha_St)), (tok = nI (100 + s) → B = (f_X12_go 0 (ha_sI N 0 25 tok)).bind fun z => some (1, z)) → (¬ tok = nI (100 + s) → A = (f_X12_go 0 (ha_sI N 0 25 tok)).bind fun z => some (1, z)) → (if (if tok = nI (100 + s) then (1 : Int32) else 0) = 0 then A else B) = (f_X12_go 0 (ha_sI N 0 25 tok)).bind fun z => some (1, z) := by
        intro s A B h1 h2
        by_cases e : tok = nI (100 + s)
        · rw [if_pos e, pw_ie (by decide)]; exact h1 e
        · rw [if_neg e, pw_it rfl]; exact h2 e
      refine stp 0 _ _ (fun e => by rw [pw_nm, e]; rfl) (fun e0 => ?_)
      rw [sp_1, pw_bs, key_m h (by omega), pw_bs]
      refine stp 1 _ _ (fun e => by rw [pw_nm, e]; rfl) (fun e1 => ?_)
      rw [sp_2, pw_bs, key_m h (by omega), pw_bs]
      refine stp 2 _ _ (fun e => by rw [pw_nm, e]; rfl) (fun e2 => ?_)
      rw [sp_3, pw_bs, key_m h (by omega), pw_bs]
      refine stp 3 _ _ (fun e => by rw [pw_nm, e]; rfl) (fun e3 => ?_)
      rw [sp_4, pw_bs, key_m h (by omega), pw_bs]
      refine stp 4 _ _ (fun e => by rw [pw_nm, e]; rfl) (fun e4 => ?_)
      rw [sp_5, pw_bs, key_m h (by omega), pw_bs]
      refine stp 5 _ _ (fun e => by rw [pw_nm, e]; rfl) (fun e5 => ?_)
      rw [i_eq, nI_toInt (by omega)] at e0 e1 e2 e3 e4 e5
      omega
theorem rv_no (h : TKR tok sz N) (hv : ¬ vl tok) : f_X12_readValue 0 N = some (0, bdS 1 N) := by
  have ne : ∀ s, s < 10 → ¬ tok = nI (100 + s) := fun s hs e => hv (by unfold vl; rw [e, nI_toInt (by omega)]; omega)
  have hl : ¬ (0 ≤ tok.toInt ∧ tok.toInt < 110) := hv
  unfold f_X12_readValue
  rw [pw_it (show ¬ ha_gI N 0 8 = 3 from fun g => hl (by have := (num_i h).mp g; omega)), cel_m h, pw_bs, if_neg (show ¬ (106 ≤ tok.toInt ∧ tok.toInt ≤ 109) by omega), pw_it rfl]
  rw [sp_0, pw_bs, key_m h (by omega), pw_bs, if_neg (ne 0 (by omega)), pw_it rfl]
  rw [sp_1, pw_bs, key_m h (by omega), pw_bs, if_neg (ne 1 (by omega)), pw_it rfl]
  rw [sp_2, pw_bs, key_m h (by omega), pw_bs, if_neg (ne 2 (by omega)), pw_it rfl]
  rw [sp_3, pw_bs, key_m h (by omega), pw_bs, if_neg (ne 3 (by omega)), pw_it rfl]
  rw [sp_4, pw_bs, key_m h (by omega), pw_bs, if_neg (ne 4 (by omega)), pw_it rfl]
  rw [sp_5, pw_bs, key_m h (by omega), pw_bs, if_neg (ne 5 (by omega)), pw_it rfl]
  rw [bad_m, pw_bs, pw_gd (Or.inl rfl)]
end TOK
