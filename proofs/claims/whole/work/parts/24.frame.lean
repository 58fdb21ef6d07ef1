/-! FRAMES: what each group of the invariant reads -/
theorem IR_c {X X1 : ha_St} (a1 : ha_gR X1 = ha_gR X) (h : IR X) : IR X1 := fun o k r hr => by rw [a1]; exact h o k r hr
theorem IB_c {X X1 : ha_St} (a1 : ha_gB X1 180 = ha_gB X 180) (a2 : ha_gB X1 181 = ha_gB X 181) (a3 : ha_gB X1 248 = ha_gB X 248) (h : IB X) : IB X1 := by
  unfold IB at h ⊢
  rw [a1, a2, a3]; exact h
theorem IM_c {M M1 : ha_St} (a1 : ha_gR M1 = ha_gR M) (h : IM M) : IM M1 := fun k hk => by rw [a1]; exact h k hk
theorem PR_c {X M X1 M1 : ha_St} {p k : Nat} (a1 : ∀ j, ha_gI X1 p j = ha_gI X p j) (a2 : ∀ j, j < 8 → ha_gA X1 (100 + 16 * p + j) = ha_gA X (100 + 16 * p + j)) (b1 : ha_gA M1 15 = ha_gA M 15) (b2 : ha_gA M1 16 = ha_gA M 16) (b3 : ha_gA M1 17 = ha_gA M 17) (b4 : ha_gA M1 18 = ha_gA M 18) (b5 : ha_gA M1 19 = ha_gA M 19) (b6 : ha_gA M1 20 = ha_gA M 20) (b7 : ha_gA M1 21 = ha_gA M 21) (b8 : ha_gA M1 22 = ha_gA M 22) (b9 : ha_gA M1 23 = ha_gA M 23) (h : PR X p M k) : PR X1 p M1 k := by
  have c0 := a2 0 (by omega)
  have c1 : ha_gA X1 (101 + 16 * p) = ha_gA X (101 + 16 * p) := by have := a2 1 (by omega); rw [show 100 + 16 * p + 1 = 101 + 16 * p by omega] at this; exact this
  have c2 : ha_gA X1 (102 + 16 * p) = ha_gA X (102 + 16 * p) := by have := a2 2 (by omega); rw [show 100 + 16 * p + 2 = 102 + 16 * p by omega] at this; exact this
  have c3 : ha_gA X1 (103 + 16 * p) = ha_gA X (103 + 16 * p) := by have := a2 3 (by omega); rw [show 100 + 16 * p + 3 = 103 + 16 * p by omega] at this; exact this
  have c4 : ha_gA X1 (104 + 16 * p) = ha_gA X (104 + 16 * p) := by have := a2 4 (by omega); rw [show 100 + 16 * p + 4 = 104 + 16 * p by omega] at this; exact this
  have c5 : ha_gA X1 (105 + 16 * p) = ha_gA X (105 + 16 * p) := by have := a2 5 (by omega); rw [show 100 + 16 * p + 5 = 105 + 16 * p by omega] at this; exact this
  have c6 : ha_gA X1 (106 + 16 * p) = ha_gA X (106 + 16 * p) := by have := a2 6 (by omega); rw [show 100 + 16 * p + 6 = 106 + 16 * p by omega] at this; exact this
  have c7 : ha_gA X1 (107 + 16 * p) = ha_gA X (107 + 16 * p) := by have := a2 7 (by omega); rw [show 100 + 16 * p + 7 = 107 + 16 * p by omega] at this; exact this
  have c0 : ha_gA X1 (100 + 16 * p) = ha_gA X (100 + 16 * p) := c0
  unfold PR at h ⊢
  simp only [a1, c0, c1, c2, c3, c4, c5, c6, c7, b1, b2, b3, b4, b5, b6, b7, b8, b9]
  exact h
theorem I5_c {X M X1 M1 : ha_St} (a1 : ∀ p j, 11 ≤ p → p ≤ 15 → ha_gI X1 p j = ha_gI X p j) (a2 : ∀ a, 276 ≤ a → a < 356 → ha_gA X1 a = ha_gA X a) (a3 : ha_gB X1 132 = ha_gB X 132) (a4 : ha_gR X1 = ha_gR X) (a5 : ∀ i, i < 100 ∨ i = 105 → ha_gA X1 136 i = ha_gA X 136 i) (b1 : ha_gA M1 15 = ha_gA M 15) (b2 : ha_gA M1 16 = ha_gA M 16) (b3 : ha_gA M1 17 = ha_gA M 17) (b4 : ha_gA M1 18 = ha_gA M 18) (b5 : ha_gA M1 19 = ha_gA M 19) (b6 : ha_gA M1 20 = ha_gA M 20) (b7 : ha_gA M1 21 = ha_gA M 21) (b8 : ha_gA M1 22 = ha_gA M 22) (b9 : ha_gA M1 23 = ha_gA M 23) (h : I5 X M) : I5 X1 M1 := by
  obtain ⟨⟨p, q, r, b, p1, p2, d1, d2, d3, d4, d5, d6, d7, l1, u1, l2, u2, l3, u3, l4, u4, l5, u5, n1, n2, n3, n4, n5, n6, R0, R1, R2⟩, w1, w2⟩ := h
  have key : ∀ x k, 11 ≤ x → x ≤ 15 → PR X x M k → PR X1 x M1 k := fun x k h1 h2 hp => PR_c (fun j => a1 x j h1 h2) (fun j hj => a2 _ (by omega) (by omega)) b1 b2 b3 b4 b5 b6 b7 b8 b9 hp
  refine ⟨⟨p, q, r, b, p1, p2, by rw [a3]; exact d1, by rw [a3]; exact d2, by rw [a3]; exact d3, by rw [a4]; exact d4, by rw [a4]; exact d5, by rw [a4]; exact d6, d7, l1, u1, l2, u2, l3, u3, l4, u4, l5, u5, n1, n2, n3, n4, n5, n6, key _ _ l1 u1 R0, key _ _ l2 u2 R1, key _ _ l3 u3 R2⟩, fun i hi => by rw [a5 i (Or.inl hi)]; exact w1 i hi, by rw [a5 105 (Or.inr rfl)]; exact w2⟩
theorem I1_c {X M X1 M1 : ha_St} (a1 : ha_gI X1 1 1 = ha_gI X 1 1) (a2 : ha_gA X1 116 = ha_gA X 116) (a3 : ha_gI M1 0 2 = ha_gI M 0 2) (a4 : ha_gA M1 2 = ha_gA M 2) (h : I1 X M) : I1 X1 M1 := by
  simp only [I1, a1, a2, a3, a4] at h ⊢
  exact h
theorem I2_c {X M X1 M1 : ha_St} (a1 : ha_gI X1 0 13 = ha_gI X 0 13) (a2 : ha_gI X1 2 5 = ha_gI X 2 5) (a3 : ha_gI M1 0 3 = ha_gI M 0 3) (a4 : ha_gI M1 0 4 = ha_gI M 0 4) (h : I2 X M) : I2 X1 M1 := by
  simp only [I2, a1, a2, a3, a4] at h ⊢
  exact h
theorem I3_c {X M X1 M1 : ha_St} (a1 : ha_gI X1 2 6 = ha_gI X 2 6) (a2 : ha_gA X1 133 = ha_gA X 133) (a3 : ha_gI M1 0 30 = ha_gI M 0 30) (a4 : ha_gA M1 27 = ha_gA M 27) (h : I3 X M) : I3 X1 M1 := by
  simp only [I3, a1, a2, a3, a4] at h ⊢
  exact h
theorem I4_c {X M X1 M1 : ha_St} (a1 : ha_gI X1 2 7 = ha_gI X 2 7) (a2 : ha_gA X1 134 = ha_gA X 134) (a3 : ha_gI M1 0 31 = ha_gI M 0 31) (a4 : ha_gA M1 28 = ha_gA M 28) (a5 : ha_gA M1 29 = ha_gA M 29) (a6 : ha_gA M1 30 = ha_gA M 30) (h : I4 X M) : I4 X1 M1 := by
  simp only [I4, fogQ, a1, a2, a3, a4, a5, a6] at h ⊢
  exact h
theorem I6_c {X M X1 M1 : ha_St} (a1 : ha_gI X1 0 12 = ha_gI X 0 12) (a2 : ha_gI X1 0 15 = ha_gI X 0 15) (a3 : ha_gI X1 0 16 = ha_gI X 0 16) (a4 : ha_gI M1 0 11 = ha_gI M 0 11) (a5 : ha_gI M1 0 74 = ha_gI M 0 74) (a6 : ha_gI M1 0 82 = ha_gI M 0 82) (h : I6 X M) : I6 X1 M1 := by
  simp only [I6, a1, a2, a3, a4, a5, a6] at h ⊢
  exact h
theorem I7_c {X M X1 M1 : ha_St} (a1 : ha_gI X1 4 2 = ha_gI X 4 2) (a2 : ha_gI X1 16 5 = ha_gI X 16 5) (a3 : ha_gI X1 16 4 = ha_gI X 16 4) (a4 : ha_gI X1 4 4 = ha_gI X 4 4) (a5 : ha_gI X1 16 7 = ha_gI X 16 7) (a6 : ha_gI X1 4 3 = ha_gI X 4 3) (a7 : ha_gI X1 16 6 = ha_gI X 16 6) (a8 : ha_gA X1 165 = ha_gA X 165) (a9 : ha_gA X1 358 = ha_gA X 358) (a10 : ha_gA X1 357 = ha_gA X 357) (a11 : ha_gA X1 359 = ha_gA X 359) (a12 : ha_gI M1 0 53 = ha_gI M 0 53) (a13 : ha_gI M1 0 54 = ha_gI M 0 54) (a14 : ha_gI M1 0 55 = ha_gI M 0 55) (a15 : ha_gI M1 0 56 = ha_gI M 0 56) (a16 : ha_gI M1 0 57 = ha_gI M 0 57) (a17 : ha_gI M1 0 58 = ha_gI M 0 58) (a18 : ha_gI M1 0 59 = ha_gI M 0 59) (a19 : ha_gA M1 50 = ha_gA M 50) (a20 : ha_gA M1 51 = ha_gA M 51) (a21 : ha_gA M1 52 = ha_gA M 52) (a22 : ha_gA M1 53 = ha_gA M 53) (h : I7 X M) : I7 X1 M1 := by
  simp only [I7, a1, a2, a3, a4, a5, a6, a7, a8, a9, a10, a11, a12, a13, a14, a15, a16, a17, a18, a19, a20, a21, a22] at h ⊢
  exact h
theorem I8_c {X M X1 M1 : ha_St} (a1 : ha_gI X1 5 10 = ha_gI X 5 10) (a2 : ha_gA X1 188 = ha_gA X 188) (a3 : ha_gA X1 189 = ha_gA X 189) (a4 : ha_gI M1 0 62 = ha_gI M 0 62) (a5 : ha_gA M1 61 = ha_gA M 61) (a6 : ha_gA M1 62 = ha_gA M 62) (h : I8 X M) : I8 X1 M1 := by
  simp only [I8, a1, a2, a3, a4, a5, a6] at h ⊢
  exact h
theorem I9_c {X M X1 M1 : ha_St} (a1 : ha_gI X1 6 3 = ha_gI X 6 3) (a2 : ha_gA X1 197 = ha_gA X 197) (a3 : ha_gA X1 196 = ha_gA X 196) (a4 : ha_gA X1 198 = ha_gA X 198) (a5 : ha_gI M1 0 67 = ha_gI M 0 67) (a6 : ha_gA M1 65 = ha_gA M 65) (a7 : ha_gA M1 64 = ha_gA M 64) (h : I9 X M) : I9 X1 M1 := by
  simp only [I9, a1, a2, a3, a4, a5, a6, a7] at h ⊢
  exact h
theorem I10_c {X M X1 M1 : ha_St} (a1 : ha_gI X1 0 14 = ha_gI X 0 14) (a2 : ha_gA X1 108 = ha_gA X 108) (a3 : ha_gI M1 0 73 = ha_gI M 0 73) (a4 : ha_gA M1 72 = ha_gA M 72) (h : I10 X M) : I10 X1 M1 := by
  simp only [I10, a1, a2, a3, a4] at h ⊢
  exact h
theorem I11_c {X M X1 M1 : ha_St} (a1 : ha_gI X1 8 6 = ha_gI X 8 6) (a2 : ha_gI X1 8 4 = ha_gI X 8 4) (a3 : ha_gI X1 8 7 = ha_gI X 8 7) (a4 : ha_gA X1 228 = ha_gA X 228) (a5 : ha_gI M1 0 68 = ha_gI M 0 68) (a6 : ha_gA M1 67 = ha_gA M 67) (a7 : ha_gA M1 66 = ha_gA M 66) (h : I11 X M) : I11 X1 M1 := by
  simp only [I11, a1, a2, a3, a4, a5, a6, a7] at h ⊢
  exact h
theorem I13_c {X M X1 M1 : ha_St} (a1 : ha_gI X1 9 8 = ha_gI X 9 8) (a2 : ha_gA X1 244 = ha_gA X 244) (a3 : ha_gA X1 245 = ha_gA X 245) (a4 : ha_gA X1 246 = ha_gA X 246) (a5 : ha_gA X1 247 = ha_gA X 247) (a6 : ha_gI M1 0 80 = ha_gI M 0 80) (a7 : ha_gI M1 0 4 = ha_gI M 0 4) (a8 : ha_gI M1 0 3 = ha_gI M 0 3) (a9 : ha_gA M1 76 = ha_gA M 76) (a10 : ha_gA M1 77 = ha_gA M 77) (a11 : ha_gA M1 78 = ha_gA M 78) (a12 : ha_gA M1 79 = ha_gA M 79) (h : I13 X M) : I13 X1 M1 := by
  simp only [I13, a1, a2, a3, a4, a5, a6, a7, a8, a9, a10, a11, a12] at h ⊢
  exact h
theorem I14_c {X M X1 M1 : ha_St} (a1 : ha_gI X1 9 7 = ha_gI X 9 7) (a2 : ha_gI X1 9 6 = ha_gI X 9 6) (a3 : ha_gI X1 9 5 = ha_gI X 9 5) (a4 : ∀ i, ha_gA X1 (2000 + i) = ha_gA X (2000 + i)) (a5 : ha_gI M1 0 80 = ha_gI M 0 80) (a6 : ha_gA M1 76 = ha_gA M 76) (a7 : ha_gA M1 77 = ha_gA M 77) (a8 : ha_gA M1 78 = ha_gA M 78) (h : I14 X M) : I14 X1 M1 := by
  simp only [I14, Fits, a1, a2, a3, a4, a5, a6, a7, a8] at h ⊢
  exact h
