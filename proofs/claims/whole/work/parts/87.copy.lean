/-! THE MODEL'S COPYING, AND THE PROGRAMS IN THE INVARIANT -/
theorem PR_g {X M X1 M1 : ha_St} {p k k1 : Nat} (a1 : ∀ j, ha_gI X1 p j = ha_gI X p j) (a2 : ∀ j, j < 8 → ha_gA X1 (100 + 16 * p + j) = ha_gA X (100 + 16 * p + j)) (b1 : ha_gA M1 15 k1 = ha_gA M 15 k) (b2 : ∀ i, i < 20 → ha_gA M1 16 (20 * k1 + i) = ha_gA M 16 (20 * k + i)) (b3 : ∀ i, i < 20 → ha_gA M1 17 (20 * k1 + i) = ha_gA M 17 (20 * k + i)) (b4 : ∀ a i, 18 ≤ a → a ≤ 23 → i < 40 → ha_gA M1 a (40 * k1 + i) = ha_gA M a (40 * k + i)) (h : PR X p M k) : PR X1 p M1 k1 := by
  have c0 : ha_gA X1 (100 + 16 * p) = ha_gA X (100 + 16 * p) := a2 0 (by omega)
  have c1 : ha_gA X1 (101 + 16 * p) = ha_gA X (101 + 16 * p) := by have := a2 1 (by omega); rw [show 100 + 16 * p + 1 = 101 + 16 * p by omega] at this; exact this
  have c2 : ha_gA X1 (102 + 16 * p) = ha_gA X (102 + 16 * p) := by have := a2 2 (by omega); rw [show 100 + 16 * p + 2 = 102 + 16 * p by omega] at this; exact this
  have c3 : ha_gA X1 (103 + 16 * p) = ha_gA X (103 + 16 * p) := by have := a2 3 (by omega); rw [show 100 + 16 * p + 3 = 103 + 16 * p by omega] at this; exact this
  have c4 : ha_gA X1 (104 + 16 * p) = ha_gA X (104 + 16 * p) := by have := a2 4 (by omega); rw [show 100 + 16 * p + 4 = 104 + 16 * p by omega] at this; exact this
  have c5 : ha_gA X1 (105 + 16 * p) = ha_gA X (105 + 16 * p) := by have := a2 5 (by omega); rw [show 100 + 16 * p + 5 = 105 + 16 * p by omega] at this; exact this
  have c6 : ha_gA X1 (106 + 16 * p) = ha_gA X (106 + 16 * p) := by have := a2 6 (by omega); rw [show 100 + 16 * p + 6 = 106 + 16 * p by omega] at this; exact this
  have c7 : ha_gA X1 (107 + 16 * p) = ha_gA X (107 + 16 * p) := by have := a2 7 (by omega); rw [show 100 + 16 * p + 7 = 107 + 16 * p by omega] at this; exact this
  obtain ⟨h1, h2, h3, h4, h5, h6⟩ := h
  have rE : ∀ (f g : Nat → Int32), (∀ i, i < 20 → g (20 * k1 + i) = f (20 * k + i)) → ∀ i, i ≤ 20 → rb g (20 * k1) i = rb f (20 * k) i := by
    intro f g hfg i hi
    unfold rb
    by_cases e : i = 0
    · rw [if_pos e, if_pos e]
    · rw [if_neg e, if_neg e, show 20 * k1 + i - 1 = 20 * k1 + (i - 1) by omega, show 20 * k + i - 1 = 20 * k + (i - 1) by omega, hfg (i - 1) (by omega)]
  have r40 : rb (ha_gA M 16) (20 * k) (ha_gA M 15 k).toInt.toNat ≤ 40 ∧ rb (ha_gA M 17) (20 * k) (ha_gA M 15 k).toInt.toNat ≤ 40 := by
    unfold rb
    by_cases e : (ha_gA M 15 k).toInt.toNat = 0
    · rw [if_pos e, if_pos e]; omega
    · rw [if_neg e, if_neg e]
      have := h4 ((ha_gA M 15 k).toInt.toNat - 1) (by omega)
      rw [show 20 * k + (ha_gA M 15 k).toInt.toNat - 1 = 20 * k + ((ha_gA M 15 k).toInt.toNat - 1) by omega]
      exact ⟨this.2.2.2.2.1, this.2.2.2.2.2⟩
  unfold PR
  rw [a1, a1, b1, c0, c1, c2, c3, c4, c5, c6, c7, rE _ _ b2 _ (by omega), rE _ _ b3 _ (by omega)]
  refine ⟨h1, h2, h3, fun i hi => ?_, fun i hi => ?_, fun i hi => ?_⟩
  · rw [b2 i (by omega), b3 i (by omega), rE _ _ b2 i (by omega), rE _ _ b3 i (by omega)]
    exact h4 i hi
  · rw [b4 18 i (by omega) (by omega) (by omega), b4 19 i (by omega) (by omega) (by omega), b4 20 i (by omega) (by omega) (by omega)]
    exact h5 i hi
  · rw [b4 21 i (by omega) (by omega) (by omega), b4 22 i (by omega) (by omega) (by omega), b4 23 i (by omega) (by omega) (by omega)]
    exact h6 i hi
theorem pd_pr {q nr no na : Nat} {Y N : ha_St} (h : PD q nr no na Y N) : PR Y q N 3 := by
  obtain ⟨p1, p2, p3, p4, p5, p6, p7, p8, p9, p10, p11, p12, pR, pO, pA⟩ := h
  have e : (ha_gA N 15 3).toInt = nr := by rw [p5, nI_toInt (by omega)]
  have bo : ∀ i, i ≤ nr → rb (ha_gA N 16) 60 i ≤ no ∧ rb (ha_gA N 17) 60 i ≤ na := by
    intro i hi
    unfold rb
    by_cases z : i = 0
    · rw [if_pos z, if_pos z]; omega
    · rw [if_neg z, if_neg z]
      have := pR (i - 1) (by omega)
      rw [show 60 + i - 1 = 60 + (i - 1) by omega]
      exact ⟨this.2.2.2.2.1, this.2.2.2.2.2⟩
  refine ⟨p4.trans p5.symm, by omega, by omega, fun i hi => ?_, fun i hi => ?_, fun i hi => ?_⟩
  · have := pR i (by omega)
    exact ⟨this.1, this.2.1, this.2.2.1, this.2.2.2.1, by have := this.2.2.2.2.1; show (ha_gA N 16 (60 + i)).toInt ≤ 40; omega, by have := this.2.2.2.2.2; show (ha_gA N 17 (60 + i)).toInt ≤ 40; omega⟩
  · have hi' : (i : Int) < rb (ha_gA N 16) 60 (ha_gA N 15 3).toInt.toNat := hi
    have := (bo (ha_gA N 15 3).toInt.toNat (by omega)).1
    exact pO i (by omega)
  · have hi' : (i : Int) < rb (ha_gA N 17) 60 (ha_gA N 15 3).toInt.toNat := hi
    have := (bo (ha_gA N 15 3).toInt.toNat (by omega)).2
    exact pA i (by omega)
/-- n places copied from s on to t on -/
def cpf (f : Nat → Int32) (s t n : Nat) : Nat → Int32 := fun j => if t ≤ j ∧ j < t + n then f (s + (j - t)) else f j
theorem cpf_0 (f : Nat → Int32) (s t : Nat) : cpf f s t 0 = f := by
  funext j
  unfold cpf
  rw [if_neg (by omega)]
theorem cpf_s {f g : Nat → Int32} {s t i : Nat} (h : t + i < s) (hg : g = cpf f s t i) : upd g (t + i) (g (s + i)) = cpf f s t (i + 1) := by
  subst hg
  funext j
  have e : cpf f s t i (s + i) = f (s + i) := by unfold cpf; rw [if_neg (by omega)]
  rw [e]
  by_cases c : j = t + i
  · subst c
    rw [upd_s]
    unfold cpf
    rw [if_pos (by omega), show s + (t + i - t) = s + i by omega]
  · rw [upd_n _ _ c]
    unfold cpf
    by_cases d : t ≤ j ∧ j < t + i
    · rw [if_pos d, if_pos (by omega)]
    · rw [if_neg d, if_neg (by omega)]
theorem cpf_in (f : Nat → Int32) {s t n i : Nat} (h : i < n) : cpf f s t n (t + i) = f (s + i) := by
  unfold cpf
  rw [if_pos (by omega), show s + (t + i - t) = s + i by omega]
theorem cpf_out (f : Nat → Int32) {s t n j : Nat} (h : ¬ (t ≤ j ∧ j < t + n)) : cpf f s t n j = f j := if_neg h
def CP1 (k i : Nat) (N S : ha_St) : Prop := ha_gR S = ha_gR N ∧ (∀ j, ha_gI S 0 j = ha_gI N 0 j) ∧ (∀ a, ¬ (16 ≤ a ∧ a ≤ 17) → ha_gA S a = ha_gA N a) ∧ ∀ a, 16 ≤ a ∧ a ≤ 17 → ha_gA S a = cpf (ha_gA N a) 60 (20 * k) i
def CP2 (k i : Nat) (N S : ha_St) : Prop := ha_gR S = ha_gR N ∧ (∀ j, ha_gI S 0 j = ha_gI N 0 j) ∧ (∀ a, ¬ (18 ≤ a ∧ a ≤ 23) → ha_gA S a = ha_gA N a) ∧ ∀ a, 18 ≤ a ∧ a ≤ 23 → ha_gA S a = cpf (ha_gA N a) 120 (40 * k) i

theorem cp_1 {k : Nat} {N : ha_St} (hk : k < 3) (hIM : IM N) : Ok (f_X12_program_L92i 0 (nI k) ha_fu (0, N)) (fun S => CP1 k 20 N S) := by
  refine ok_for (fun i (S : ha_St) => (nI i, S)) 0 20 (fun i S => CP1 k i N S) _ N ⟨rfl, fun _ => rfl, fun _ _ => rfl, fun a _ => (cpf_0 _ _ _).symm⟩ (by omega) (by omega) ?_ ?_
  · rintro f i S hi ⟨h1, h2, h3, h4⟩ ih
    show Ok (f_X12_program_L92 0 (nI k) f (nI i) S) _
    unfold f_X12_program_L92
    have e1 : (60 : Int32) + nI i = nI (60 + i) := nI_add 60 i
    have e2 : (20 : Int32) * nI k + nI i = nI (20 * k + i) := by rw [show (20 : Int32) * nI k = nI (20 * k) from nI_mul 20 k]; exact nI_add _ _
    rw [e1, e2, nI_clamp (by omega), nI_clamp (by omega), nI_1]
    refine ok_ie (show ¬ nI 20 ≤ nI i from nI_ge hi (by omega)) ?_
    have hS : IM S := IM_c h1 hIM
    rw [mr hS 15 100, pw_bs, pw_bs, pw_gd (by rw [ml_a.2.1]; exact n_in2 (by omega) (by omega)), pw_gd (by rw [ml_a.2.1]; exact n_in2 (by omega) (by omega)), pw_nm]
    generalize g1 : ha_sA S 16 (upd (ha_gA S 16) (20 * k + i) (ha_gA S 16 (60 + i))) = S1
    have hS1 : IM S1 := by rw [← g1]; exact hS
    have k1 : ∀ a, a ≠ 16 → ha_gA S1 a = ha_gA S a := fun a ha => by rw [← g1, st_AA, if_neg ha]
    have v1 : ha_gA S1 16 = upd (ha_gA S 16) (20 * k + i) (ha_gA S 16 (60 + i)) := by rw [← g1, st_AA, if_pos rfl]
    have j1 : ∀ j, ha_gI S1 0 j = ha_gI S 0 j := fun j => by rw [← g1]; rfl
    have r1 : ha_gR S1 = ha_gR S := by rw [← g1]; rfl
    rw [mr hS1 16 100, pw_bs, pw_bs, pw_gd (by rw [ml_a.2.2.1]; exact n_in2 (by omega) (by omega)), pw_gd (by rw [ml_a.2.2.1]; exact n_in2 (by omega) (by omega)), pw_nm]
    generalize g2 : ha_sA S1 17 (upd (ha_gA S1 17) (20 * k + i) (ha_gA S1 17 (60 + i))) = S2
    have hS2 : IM S2 := by rw [← g2]; exact hS1
    have k2 : ∀ a, a ≠ 17 → ha_gA S2 a = ha_gA S1 a := fun a ha => by rw [← g2, st_AA, if_neg ha]
    have v2 : ha_gA S2 17 = upd (ha_gA S1 17) (20 * k + i) (ha_gA S1 17 (60 + i)) := by rw [← g2, st_AA, if_pos rfl]
    have j2 : ∀ j, ha_gI S2 0 j = ha_gI S1 0 j := fun j => by rw [← g2]; rfl
    have r2 : ha_gR S2 = ha_gR S1 := by rw [← g2]; rfl
    rw [pw_nm]
    refine ih S2 ⟨?_, fun j => ?_, fun a ha => ?_, fun a ha => ?_⟩
    · rw [r2, r1, h1]
    · rw [j2, j1, h2]
    · rw [k2 a (by omega), k1 a (by omega), h3 a ha]
    · rcases (show a = 16 ∨ a = 17 by omega) with rfl | rfl
      · rw [k2 16 (by omega), v1]
        exact cpf_s (by omega) (h4 16 (by omega))
      · rw [v2, k1 17 (by omega)]
        exact cpf_s (by omega) (h4 17 (by omega))
  · rintro f S hS
    show Ok (f_X12_program_L92 0 (nI k) f (nI 20) S) _
    unfold f_X12_program_L92
    exact ok_it (show nI 20 ≤ nI 20 from nI_le (Nat.le_refl _) (by omega)) (ok_some hS)
theorem cp_2 {k : Nat} {N : ha_St} (hk : k < 3) (hIM : IM N) : Ok (f_X12_program_L146i 0 (nI k) ha_fu (0, N)) (fun S => CP2 k 40 N S) := by
  refine ok_for (fun i (S : ha_St) => (nI i, S)) 0 40 (fun i S => CP2 k i N S) _ N ⟨rfl, fun _ => rfl, fun _ _ => rfl, fun a _ => (cpf_0 _ _ _).symm⟩ (by omega) (by omega) ?_ ?_
  · rintro f i S hi ⟨h1, h2, h3, h4⟩ ih
    show Ok (f_X12_program_L146 0 (nI k) f (nI i) S) _
    unfold f_X12_program_L146
    have e1 : (120 : Int32) + nI i = nI (120 + i) := nI_add 120 i
    have e2 : (40 : Int32) * nI k + nI i = nI (40 * k + i) := by rw [show (40 : Int32) * nI k = nI (40 * k) from nI_mul 40 k]; exact nI_add _ _
    rw [e1, e2, nI_clamp (by omega), nI_clamp (by omega), nI_1]
    refine ok_ie (show ¬ nI 40 ≤ nI i from nI_ge hi (by omega)) ?_
    have hS : IM S := IM_c h1 hIM
    rw [mr hS 17 100, pw_bs, pw_bs, pw_gd (by rw [ml_a.2.2.2.1]; exact n_in2 (by omega) (by omega)), pw_gd (by rw [ml_a.2.2.2.1]; exact n_in2 (by omega) (by omega)), pw_nm]
    generalize g1 : ha_sA S 18 (upd (ha_gA S 18) (40 * k + i) (ha_gA S 18 (120 + i))) = S1
    have hS1 : IM S1 := by rw [← g1]; exact hS
    have k1 : ∀ a, a ≠ 18 → ha_gA S1 a = ha_gA S a := fun a ha => by rw [← g1, st_AA, if_neg ha]
    have v1 : ha_gA S1 18 = upd (ha_gA S 18) (40 * k + i) (ha_gA S 18 (120 + i)) := by rw [← g1, st_AA, if_pos rfl]
    have j1 : ∀ j, ha_gI S1 0 j = ha_gI S 0 j := fun j => by rw [← g1]; rfl
    have r1 : ha_gR S1 = ha_gR S := by rw [← g1]; rfl
    rw [mr hS1 18 100, pw_bs, pw_bs, pw_gd (by rw [ml_a.2.2.2.2.1]; exact n_in2 (by omega) (by omega)), pw_gd (by rw [ml_a.2.2.2.2.1]; exact n_in2 (by omega) (by omega)), pw_nm]
    generalize g2 : ha_sA S1 19 (upd (ha_gA S1 19) (40 * k + i) (ha_gA S1 19 (120 + i))) = S2
    have hS2 : IM S2 := by rw [← g2]; exact hS1
    have k2 : ∀ a, a ≠ 19 → ha_gA S2 a = ha_gA S1 a := fun a ha => by rw [← g2, st_AA, if_neg ha]
    have v2 : ha_gA S2 19 = upd (ha_gA S1 19) (40 * k + i) (ha_gA S1 19 (120 + i)) := by rw [← g2, st_AA, if_pos rfl]
    have j2 : ∀ j, ha_gI S2 0 j = ha_gI S1 0 j := fun j => by rw [← g2]; rfl
    have r2 : ha_gR S2 = ha_gR S1 := by rw [← g2]; rfl
    rw [mr hS2 19 100, pw_bs, pw_bs, pw_gd (by rw [ml_a.2.2.2.2.2.1]; exact n_in2 (by omega) (by omega)), pw_gd (by rw [ml_a.2.2.2.2.2.1]; exact n_in2 (by omega) (by omega)), pw_nm]
    generalize g3 : ha_sA S2 20 (upd (ha_gA S2 20) (40 * k + i) (ha_gA S2 20 (120 + i))) = S3
    have hS3 : IM S3 := by rw [← g3]; exact hS2
    have k3 : ∀ a, a ≠ 20 → ha_gA S3 a = ha_gA S2 a := fun a ha => by rw [← g3, st_AA, if_neg ha]
    have v3 : ha_gA S3 20 = upd (ha_gA S2 20) (40 * k + i) (ha_gA S2 20 (120 + i)) := by rw [← g3, st_AA, if_pos rfl]
    have j3 : ∀ j, ha_gI S3 0 j = ha_gI S2 0 j := fun j => by rw [← g3]; rfl
    have r3 : ha_gR S3 = ha_gR S2 := by rw [← g3]; rfl
    rw [mr hS3 20 100, pw_bs, pw_bs, pw_gd (by rw [ml_a.2.2.2.2.2.2.1]; exact n_in2 (by omega) (by omega)), pw_gd (by rw [ml_a.2.2.2.2.2.2.1]; exact n_in2 (by omega) (by omega)), pw_nm]
    generalize g4 : ha_sA S3 21 (upd (ha_gA S3 21) (40 * k + i) (ha_gA S3 21 (120 + i))) = S4
    have hS4 : IM S4 := by rw [← g4]; exact hS3
    have k4 : ∀ a, a ≠ 21 → ha_gA S4 a = ha_gA S3 a := fun a ha => by rw [← g4, st_AA, if_neg ha]
    have v4 : ha_gA S4 21 = upd (ha_gA S3 21) (40 * k + i) (ha_gA S3 21 (120 + i)) := by rw [← g4, st_AA, if_pos rfl]
    have j4 : ∀ j, ha_gI S4 0 j = ha_gI S3 0 j := fun j => by rw [← g4]; rfl
    have r4 : ha_gR S4 = ha_gR S3 := by rw [← g4]; rfl
    rw [mr hS4 21 100, pw_bs, pw_bs, pw_gd (by rw [ml_a.2.2.2.2.2.2.2.1]; exact n_in2 (by omega) (by omega)), pw_gd (by rw [ml_a.2.2.2.2.2.2.2.1]; exact n_in2 (by omega) (by omega)), pw_nm]
    generalize g5 : ha_sA S4 22 (upd (ha_gA S4 22) (40 * k + i) (ha_gA S4 22 (120 + i))) = S5
    have hS5 : IM S5 := by rw [← g5]; exact hS4
    have k5 : ∀ a, a ≠ 22 → ha_gA S5 a = ha_gA S4 a := fun a ha => by rw [← g5, st_AA, if_neg ha]
    have v5 : ha_gA S5 22 = upd (ha_gA S4 22) (40 * k + i) (ha_gA S4 22 (120 + i)) := by rw [← g5, st_AA, if_pos rfl]
    have j5 : ∀ j, ha_gI S5 0 j = ha_gI S4 0 j := fun j => by rw [← g5]; rfl
    have r5 : ha_gR S5 = ha_gR S4 := by rw [← g5]; rfl
    rw [mr hS5 22 100, pw_bs, pw_bs, pw_gd (by rw [ml_a.2.2.2.2.2.2.2.2]; exact n_in2 (by omega) (by omega)), pw_gd (by rw [ml_a.2.2.2.2.2.2.2.2]; exact n_in2 (by omega) (by omega)), pw_nm]
    generalize g6 : ha_sA S5 23 (upd (ha_gA S5 23) (40 * k + i) (ha_gA S5 23 (120 + i))) = S6
    have hS6 : IM S6 := by rw [← g6]; exact hS5
    have k6 : ∀ a, a ≠ 23 → ha_gA S6 a = ha_gA S5 a := fun a ha => by rw [← g6, st_AA, if_neg ha]
    have v6 : ha_gA S6 23 = upd (ha_gA S5 23) (40 * k + i) (ha_gA S5 23 (120 + i)) := by rw [← g6, st_AA, if_pos rfl]
    have j6 : ∀ j, ha_gI S6 0 j = ha_gI S5 0 j := fun j => by rw [← g6]; rfl
    have r6 : ha_gR S6 = ha_gR S5 := by rw [← g6]; rfl
    rw [pw_nm]
    refine ih S6 ⟨?_, fun j => ?_, fun a ha => ?_, fun a ha => ?_⟩
    · rw [r6, r5, r4, r3, r2, r1, h1]
    · rw [j6, j5, j4, j3, j2, j1, h2]
    · rw [k6 a (by omega), k5 a (by omega), k4 a (by omega), k3 a (by omega), k2 a (by omega), k1 a (by omega), h3 a ha]
    · rcases (show a = 18 ∨ a = 19 ∨ a = 20 ∨ a = 21 ∨ a = 22 ∨ a = 23 by omega) with rfl | rfl | rfl | rfl | rfl | rfl
      · rw [k6 18 (by omega), k5 18 (by omega), k4 18 (by omega), k3 18 (by omega), k2 18 (by omega), v1]
        exact cpf_s (by omega) (h4 18 (by omega))
      · rw [k6 19 (by omega), k5 19 (by omega), k4 19 (by omega), k3 19 (by omega), v2, k1 19 (by omega)]
        exact cpf_s (by omega) (h4 19 (by omega))
      · rw [k6 20 (by omega), k5 20 (by omega), k4 20 (by omega), v3, k2 20 (by omega), k1 20 (by omega)]
        exact cpf_s (by omega) (h4 20 (by omega))
      · rw [k6 21 (by omega), k5 21 (by omega), v4, k3 21 (by omega), k2 21 (by omega), k1 21 (by omega)]
        exact cpf_s (by omega) (h4 21 (by omega))
      · rw [k6 22 (by omega), v5, k4 22 (by omega), k3 22 (by omega), k2 22 (by omega), k1 22 (by omega)]
        exact cpf_s (by omega) (h4 22 (by omega))
      · rw [v6, k5 23 (by omega), k4 23 (by omega), k3 23 (by omega), k2 23 (by omega), k1 23 (by omega)]
        exact cpf_s (by omega) (h4 23 (by omega))
  · rintro f S hS
    show Ok (f_X12_program_L146 0 (nI k) f (nI 40) S) _
    unfold f_X12_program_L146
    exact ok_it (show nI 40 ≤ nI 40 from nI_le (Nat.le_refl _) (by omega)) (ok_some hS)
theorem cpy_m {k : Nat} {N : ha_St} (hk : k < 3) (hIM : IM N) : Ok (f_X12_program_J78 0 (nI k) N) (fun z => z.1 = ha_gA N 15 3 ∧ ha_gR z.2 = ha_gR N ∧ (∀ j, ha_gI z.2 0 j = ha_gI N 0 j) ∧ (∀ a, ¬ (15 ≤ a ∧ a ≤ 23) → ha_gA z.2 a = ha_gA N a) ∧ ha_gA z.2 15 = upd (ha_gA N 15) k (ha_gA N 15 3) ∧ (∀ a, 16 ≤ a ∧ a ≤ 17 → ha_gA z.2 a = cpf (ha_gA N a) 60 (20 * k) 20) ∧ ∀ a, 18 ≤ a ∧ a ≤ 23 → ha_gA z.2 a = cpf (ha_gA N a) 120 (40 * k) 40) := by
  have n3 : ¬ ((3 : Int32) < 0 ∨ mo_ln 15 ≤ (3 : Int32).toNatClampNeg) := by rw [ml_a.1]; decide
  have c3 : (3 : Int32).toNatClampNeg = 3 := rfl
  unfold f_X12_program_J78 f_X12_program_J144 f_X12_program_J278
  rw [mr hIM 14 100, pw_bs, pw_bs, pw_gd n3, pw_gd (by rw [ml_a.1]; exact n_in (by omega) (by omega)), pw_nm, c3, nI_clamp (by omega)]
  generalize hP : ha_sA N 15 (upd (ha_gA N 15) k (ha_gA N 15 3)) = P
  have pA : ha_gA P 15 = upd (ha_gA N 15) k (ha_gA N 15 3) := by rw [← hP, st_AA, if_pos rfl]
  have pB : ∀ a, a ≠ 15 → ha_gA P a = ha_gA N a := fun a ha => by rw [← hP, st_AA, if_neg ha]
  have pI : ∀ j, ha_gI P 0 j = ha_gI N 0 j := fun j => by rw [← hP]; rfl
  have pR : ha_gR P = ha_gR N := by rw [← hP]; rfl
  have hPM : IM P := IM_c pR hIM
  refine ok_bind (cp_1 hk hPM) ?_
  rintro S ⟨s1, s2, s3, s4⟩
  refine ok_bind (cp_2 hk (IM_c s1 hPM)) ?_
  rintro T ⟨t1, t2, t3, t4⟩
  refine ok_b (mr (IM_c t1 (IM_c s1 hPM)) 14 100) (ok_gd (by rw [ml_a.1]; exact n_in2 (by omega) (by omega)) (ok_some ⟨?_, ?_, fun j => ?_, fun a ha => ?_, ?_, fun a ha => ?_, fun a ha => ?_⟩))
  · show ha_gA T 15 k = _
    rw [t3 15 (by omega), s3 15 (by omega), pA, upd_s]
  · show ha_gR T = _
    rw [t1, s1, pR]
  · show ha_gI T 0 j = _
    rw [t2, s2, pI]
  · show ha_gA T a = _
    rw [t3 a (by omega), s3 a (by omega), pB a (by omega)]
  · show ha_gA T 15 = _
    rw [t3 15 (by omega), s3 15 (by omega), pA]
  · show ha_gA T a = _
    rw [t3 a (by omega), s4 a ha, pB a (by omega)]
  · show ha_gA T a = _
    rw [t4 a ha, s3 a (by omega), pB a (by omega)]
