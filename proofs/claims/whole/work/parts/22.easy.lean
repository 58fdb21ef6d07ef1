/-! PAIRS OF METHODS THAT ANSWER ALIKE: those without a loop -/
def Agr (u w : Option (Int32 × ha_St)) : Prop := ∃ a b, u = some a ∧ w = some b ∧ a.1 = b.1 ∧ Inv a.2 b.2
theorem agr_mk {x y : Int32} {X M : ha_St} (h : x = y) (hI : Inv X M) : Agr (some (x, X)) (some (y, M)) := ⟨_, _, rfl, rfl, h, hI⟩
theorem agr_if {c : Prop} [Decidable c] {a b a' b' : Option (Int32 × ha_St)} (h1 : c → Agr a a') (h2 : ¬ c → Agr b b') : Agr (if c then a else b) (if c then a' else b') := by
  by_cases h : c
  · rw [if_pos h, if_pos h]; exact h1 h
  · rw [if_neg h, if_neg h]; exact h2 h
theorem agr_l {c : Prop} [Decidable c] {a b w : Option (Int32 × ha_St)} (h1 : c → Agr a w) (h2 : ¬ c → Agr b w) : Agr (if c then a else b) w := by
  by_cases h : c
  · rw [if_pos h]; exact h1 h
  · rw [if_neg h]; exact h2 h
theorem agr_r {c : Prop} [Decidable c] {a b w : Option (Int32 × ha_St)} (h1 : c → Agr w a) (h2 : ¬ c → Agr w b) : Agr w (if c then a else b) := by
  by_cases h : c
  · rw [if_pos h]; exact h1 h
  · rw [if_neg h]; exact h2 h
theorem pw_it {α : Type} {c : Prop} [Decidable c] (h : c) (a b : α) : (if c then a else b) = a := if_pos h
theorem pw_ie {α : Type} {c : Prop} [Decidable c] (h : ¬ c) (a b : α) : (if c then a else b) = b := if_neg h
theorem isIn_eq (p a b : Int32) : f_X12_isIn p a b = some (if p < a ∨ b < p then 0 else 1) := by
  unfold f_X12_isIn f_X12_isIn_J14 f_X12_isIn_J15
  by_cases h1 : p < a
  · simp [h1, ha_gd]
  · by_cases h2 : b < p
    · simp [h1, h2, ha_gd]
    · simp [h1, h2, ha_gd]
theorem inv_thr {X M : ha_St} (v : Int32) (hI : Inv X M) : Inv X (ha_sI M 0 0 v) := by
  obtain ⟨hIR, hIB, hIM, hI1, hI2, hI3, hI4, hI5, hI6, hI7, hI8, hI9, hI10, hI11, hI13, hI14⟩ := hI
  refine ⟨hIR, hIB, hIM, ?_, ?_, ?_, ?_, ?_, ?_, ?_, ?_, ?_, ?_, ?_, ?_, ?_⟩
  · simpa [I1, st_II, st_AI] using hI1
  · simpa [I2, st_II, st_AI] using hI2
  · simpa [I3, st_II, st_AI] using hI3
  · simpa [I4, fogQ, st_II, st_AI] using hI4
  · simpa [I5, PR, st_II, st_AI] using hI5
  · simpa [I6, st_II, st_AI] using hI6
  · simpa [I7, st_II, st_AI] using hI7
  · simpa [I8, st_II, st_AI] using hI8
  · simpa [I9, st_II, st_AI] using hI9
  · simpa [I10, st_II, st_AI] using hI10
  · simpa [I11, st_II, st_AI] using hI11
  · simpa [I13, st_II, st_AI] using hI13
  · simpa [I14, Fits, st_II, st_AI] using hI14
theorem e_fault {X M : ha_St} (hI : Inv X M) : Agr (f_X11_fault 0 X) (f_X12_fault 0 M) := by
  have hT := inv_thr 0 hI
  obtain ⟨hIR, hIB, hIM, hI1, hI2, hI3, hI4, hI5, hI6, hI7, hI8, hI9, hI10, hI11, hI13, hI14⟩ := hI
  exact agr_mk (by simp [st_II]; exact hI6.1) hT
theorem e_smallSet {X M : ha_St} (hI : Inv X M) : Agr (f_X11_smallSet 0 X) (f_X12_smallSet 0 M) := by
  have hT := inv_thr 0 hI
  obtain ⟨hIR, hIB, hIM, hI1, hI2, hI3, hI4, hI5, hI6, hI7, hI8, hI9, hI10, hI11, hI13, hI14⟩ := hI
  exact agr_mk (by simp [st_II]; exact hI6.2.1) hT
theorem e_hillSet {X M : ha_St} (hI : Inv X M) : Agr (f_X11_hillSet 0 X) (f_X12_hillSet 0 M) := by
  have hT := inv_thr 0 hI
  obtain ⟨hIR, hIB, hIM, hI1, hI2, hI3, hI4, hI5, hI6, hI7, hI8, hI9, hI10, hI11, hI13, hI14⟩ := hI
  exact agr_mk (by simp [st_II]; exact hI6.2.2) hT
theorem e_count {X M : ha_St} (hI : Inv X M) (v : Int32) : Agr (f_X11_count 0 v X) (f_X12_count 0 v M) := by
  have hT := inv_thr 0 hI
  obtain ⟨hIR, hIB, hIM, hI1, hI2, hI3, hI4, hI5, hI6, hI7, hI8, hI9, hI10, hI11, hI13, hI14⟩ := hI
  unfold f_X11_count f_X12_count
  simp only [pw_nm, pw_bs, xr hIR 0 1 1 2, xr hIR 0 5 3 6, xr hIR 0 9 2 9, xr hIR 0 0 10 1]
  refine agr_if (fun _ => agr_mk (by simp [st_II]; exact hI2.1) hT) (fun _ => ?_)
  refine agr_if (fun _ => agr_mk (by simp [st_II]; exact hI2.2.2.2.1) hT) (fun _ => ?_)
  refine agr_if (fun _ => agr_mk (by simp [st_II]; exact hI4.1) hT) (fun _ => ?_)
  refine agr_if (fun _ => agr_mk (by simp [st_II]; exact hI9.1) hT) (fun _ => ?_)
  refine agr_if (fun _ => agr_mk (by simp [st_II]; exact hI13.1) hT) (fun _ => ?_)
  refine agr_if (fun _ => agr_mk (by simp [st_II]; exact hI3.1) hT) (fun _ => ?_)
  exact agr_if (fun _ => agr_mk (by simp [st_II]; exact hI1.1) hT) (fun _ => agr_mk rfl hT)
theorem e_piece {X M : ha_St} (hI : Inv X M) (v : Int32) : Agr (f_X11_piece 0 v X) (f_X12_piece 0 v M) := by
  have hT := inv_thr 0 hI
  obtain ⟨hIR, hIB, hIM, hI1, hI2, hI3, hI4, hI5, hI6, hI7, hI8, hI9, hI10, hI11, hI13, hI14⟩ := hI
  obtain ⟨e1, e2, e3, e4⟩ := hI10
  unfold f_X11_piece f_X12_piece f_X11_piece_J21 f_X11_piece_J31 f_X12_piece_J26 f_X12_piece_J27
  simp only [pw_nm, pw_bs, st_fI, st_AI, xr hIR 0 8 100 108, mr hIM 71 100, e1, show ha_gI (ha_sI M 0 0 0) 0 73 = ha_gI M 0 73 from rfl]
  refine agr_if (fun _ => agr_mk rfl hT) (fun c1 => agr_if (fun _ => agr_mk rfl hT) (fun c2 => ?_))
  rw [i_lt] at c1; rw [i_le] at c2
  have z0 : (0 : Int32).toInt = 0 := rfl
  have hv : 0 ≤ v.toInt ∧ v.toInt < 60 := ⟨by omega, by omega⟩
  have hx : xo_ln 108 = 60 := by decide +kernel
  have hm : mo_ln (71 + 1) = 60 := by decide +kernel
  have g1 : ¬ (v < 0 ∨ 60 ≤ v.toNatClampNeg) := by rw [i_lt, i_cl]; omega
  have g2 : v < nI 60 := by rw [i_lt]; show v.toInt < 60; omega
  rw [hx, hm, pw_it g2, pw_gd g1, pw_gd g1]
  refine agr_mk ?_ hT
  exact e4 _ (by rw [i_cl]; omega)
