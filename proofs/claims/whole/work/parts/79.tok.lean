/-! TOKENS, here and there -/
def wkt : List Int64 := [240023, 9748424, 11570, 400577, 464134, 1306021, 1, 2, 3, 4, 458690, 1111, 123, 380237, 262, 12584543, 378020]
def wk (s : Nat) : Int64 := wkt.getD s 0
def wki : List Int := [240023, 9748424, 11570, 400577, 464134, 1306021, 1, 2, 3, 4, 458690, 1111, 123, 380237, 262, 12584543, 378020]
theorem wk_i : ∀ s, s < 17 → (wk s).toInt = wki.getD s 0 := by decide +kernel
/-- the word's number as a number -/
def HI (b : Nat → Int32) (q : Nat) : Nat → Int
  | 0 => 0
  | k + 1 => 27 * HI b q k + (b (q + k)).toInt - 96
theorem HW_i {b : Nat → Int32} {q : Nat} : ∀ k, k ≤ 5 → (∀ i, i < k → isL (b (q + i))) → (HW b q k).toInt = HI b q k ∧ 0 ≤ HI b q k ∧ HI b q k < 27 ^ k
  | 0, _, _ => ⟨rfl, Int.le_refl _, (by decide : (0 : Int) < 27 ^ 0)⟩
  | k + 1, hk, hl => by
    obtain ⟨h1, h2, h3⟩ := HW_i k (by omega) (fun i hi => hl i (by omega))
    have hb := hl k (by omega)
    unfold isL at hb
    have hp : (27 : Int) ^ k ≤ 531441 := by
      rcases (show k = 0 ∨ k = 1 ∨ k = 2 ∨ k = 3 ∨ k = 4 by omega) with rfl | rfl | rfl | rfl | rfl <;> decide
    have hp1 : (27 : Int) ^ (k + 1) = 27 * 27 ^ k := by rw [Int.pow_succ]; omega
    have e27 : (27 : Int64).toInt = 27 := rfl
    have e96 : (96 : Int64).toInt = 96 := rfl
    have a1 : (27 * HW b q k).toInt = 27 * HI b q k := by
      rw [Int64.toInt_mul, e27, h1]
      exact Int.bmod_eq_of_le (by omega) (by omega)
    have a2 : ((b (q + k)).toInt64).toInt = (b (q + k)).toInt := Int32.toInt_toInt64 _
    have a3 : (27 * HW b q k + (b (q + k)).toInt64).toInt = 27 * HI b q k + (b (q + k)).toInt := by
      rw [Int64.toInt_add, a1, a2]
      exact Int.bmod_eq_of_le (by omega) (by omega)
    show (27 * HW b q k + (b (q + k)).toInt64 - 96).toInt = 27 * HI b q k + (b (q + k)).toInt - 96 ∧ 0 ≤ 27 * HI b q k + (b (q + k)).toInt - 96 ∧ 27 * HI b q k + (b (q + k)).toInt - 96 < 27 ^ (k + 1)
    refine ⟨?_, by omega, by rw [hp1]; omega⟩
    rw [Int64.toInt_sub, a3, e96]
    exact Int.bmod_eq_of_le (by omega) (by omega)
def tbi : List (List Int) := [[108, 101, 102, 116, 32], [114, 105, 103, 104, 116], [111, 119, 110, 32, 32], [116, 105, 109, 101, 32], [119, 111, 114, 100, 32], [98, 108, 105, 110, 100], [97, 32, 32, 32, 32], [98, 32, 32, 32, 32], [99, 32, 32, 32, 32], [100, 32, 32, 32, 32], [119, 104, 101, 110, 32], [97, 110, 100, 32, 32], [100, 111, 32, 32, 32], [115, 104, 111, 119, 32], [105, 115, 32, 32, 32], [119, 114, 105, 116, 101], [115, 101, 110, 116, 32]]
theorem tb_i : ∀ s, s < 17 → ∀ i, i < 5 → (xo_by 1 (6 * s + i)).toInt = (tbi.getD s []).getD i 0 := by decide +kernel
theorem wl1 {x0 : Int} (h0 : 97 ≤ x0 ∧ x0 ≤ 122) (s : Nat) (hs : s < 17) : ((tbi.getD s []).getD 0 0 = x0 ∧ (tbi.getD s []).getD 1 0 = 32 ∧ (tbi.getD s []).getD 2 0 = 32 ∧ (tbi.getD s []).getD 3 0 = 32 ∧ (tbi.getD s []).getD 4 0 = 32) ↔ 27 * (0) + x0 - 96 = wki.getD s 0 := by
  rcases (show s = 0 ∨ s = 1 ∨ s = 2 ∨ s = 3 ∨ s = 4 ∨ s = 5 ∨ s = 6 ∨ s = 7 ∨ s = 8 ∨ s = 9 ∨ s = 10 ∨ s = 11 ∨ s = 12 ∨ s = 13 ∨ s = 14 ∨ s = 15 ∨ s = 16 by omega) with rfl | rfl | rfl | rfl | rfl | rfl | rfl | rfl | rfl | rfl | rfl | rfl | rfl | rfl | rfl | rfl | rfl <;> simp only [tbi, wki, List.getD_cons_zero, List.getD_cons_succ] <;> exact ⟨fun ⟨a0, a1, a2, a3, a4⟩ => by omega, fun h => ⟨by first | omega | trivial, by first | omega | trivial, by first | omega | trivial, by first | omega | trivial, by first | omega | trivial⟩⟩
theorem wl2 {x0 x1 : Int} (h0 : 97 ≤ x0 ∧ x0 ≤ 122) (h1 : 97 ≤ x1 ∧ x1 ≤ 122) (s : Nat) (hs : s < 17) : ((tbi.getD s []).getD 0 0 = x0 ∧ (tbi.getD s []).getD 1 0 = x1 ∧ (tbi.getD s []).getD 2 0 = 32 ∧ (tbi.getD s []).getD 3 0 = 32 ∧ (tbi.getD s []).getD 4 0 = 32) ↔ 27 * (27 * (0) + x0 - 96) + x1 - 96 = wki.getD s 0 := by
  rcases (show s = 0 ∨ s = 1 ∨ s = 2 ∨ s = 3 ∨ s = 4 ∨ s = 5 ∨ s = 6 ∨ s = 7 ∨ s = 8 ∨ s = 9 ∨ s = 10 ∨ s = 11 ∨ s = 12 ∨ s = 13 ∨ s = 14 ∨ s = 15 ∨ s = 16 by omega) with rfl | rfl | rfl | rfl | rfl | rfl | rfl | rfl | rfl | rfl | rfl | rfl | rfl | rfl | rfl | rfl | rfl <;> simp only [tbi, wki, List.getD_cons_zero, List.getD_cons_succ] <;> exact ⟨fun ⟨a0, a1, a2, a3, a4⟩ => by omega, fun h => ⟨by first | omega | trivial, by first | omega | trivial, by first | omega | trivial, by first | omega | trivial, by first | omega | trivial⟩⟩
theorem wl3 {x0 x1 x2 : Int} (h0 : 97 ≤ x0 ∧ x0 ≤ 122) (h1 : 97 ≤ x1 ∧ x1 ≤ 122) (h2 : 97 ≤ x2 ∧ x2 ≤ 122) (s : Nat) (hs : s < 17) : ((tbi.getD s []).getD 0 0 = x0 ∧ (tbi.getD s []).getD 1 0 = x1 ∧ (tbi.getD s []).getD 2 0 = x2 ∧ (tbi.getD s []).getD 3 0 = 32 ∧ (tbi.getD s []).getD 4 0 = 32) ↔ 27 * (27 * (27 * (0) + x0 - 96) + x1 - 96) + x2 - 96 = wki.getD s 0 := by
  rcases (show s = 0 ∨ s = 1 ∨ s = 2 ∨ s = 3 ∨ s = 4 ∨ s = 5 ∨ s = 6 ∨ s = 7 ∨ s = 8 ∨ s = 9 ∨ s = 10 ∨ s = 11 ∨ s = 12 ∨ s = 13 ∨ s = 14 ∨ s = 15 ∨ s = 16 by omega) with rfl | rfl | rfl | rfl | rfl | rfl | rfl | rfl | rfl | rfl | rfl | rfl | rfl | rfl | rfl | rfl | rfl <;> simp only [tbi, wki, List.getD_cons_zero, List.getD_cons_succ] <;> exact ⟨fun ⟨a0, a1, a2, a3, a4⟩ => by omega, fun h => ⟨by first | omega | trivial, by first | omega | trivial, by first | omega | trivial, by first | omega | trivial, by first | omega | trivial⟩⟩
theorem wl4 {x0 x1 x2 x3 : Int} (h0 : 97 ≤ x0 ∧ x0 ≤ 122) (h1 : 97 ≤ x1 ∧ x1 ≤ 122) (h2 : 97 ≤ x2 ∧ x2 ≤ 122) (h3 : 97 ≤ x3 ∧ x3 ≤ 122) (s : Nat) (hs : s < 17) : ((tbi.getD s []).getD 0 0 = x0 ∧ (tbi.getD s []).getD 1 0 = x1 ∧ (tbi.getD s []).getD 2 0 = x2 ∧ (tbi.getD s []).getD 3 0 = x3 ∧ (tbi.getD s []).getD 4 0 = 32) ↔ 27 * (27 * (27 * (27 * (0) + x0 - 96) + x1 - 96) + x2 - 96) + x3 - 96 = wki.getD s 0 := by
  rcases (show s = 0 ∨ s = 1 ∨ s = 2 ∨ s = 3 ∨ s = 4 ∨ s = 5 ∨ s = 6 ∨ s = 7 ∨ s = 8 ∨ s = 9 ∨ s = 10 ∨ s = 11 ∨ s = 12 ∨ s = 13 ∨ s = 14 ∨ s = 15 ∨ s = 16 by omega) with rfl | rfl | rfl | rfl | rfl | rfl | rfl | rfl | rfl | rfl | rfl | rfl | rfl | rfl | rfl | rfl | rfl <;> simp only [tbi, wki, List.getD_cons_zero, List.getD_cons_succ] <;> exact ⟨fun ⟨a0, a1, a2, a3, a4⟩ => by omega, fun h => ⟨by first | omega | trivial, by first | omega | trivial, by first | omega | trivial, by first | omega | trivial, by first | omega | trivial⟩⟩
theorem wl5 {x0 x1 x2 x3 x4 : Int} (h0 : 97 ≤ x0 ∧ x0 ≤ 122) (h1 : 97 ≤ x1 ∧ x1 ≤ 122) (h2 : 97 ≤ x2 ∧ x2 ≤ 122) (h3 : 97 ≤ x3 ∧ x3 ≤ 122) (h4 : 97 ≤ x4 ∧ x4 ≤ 122) (s : Nat) (hs : s < 17) : ((tbi.getD s []).getD 0 0 = x0 ∧ (tbi.getD s []).getD 1 0 = x1 ∧ (tbi.getD s []).getD 2 0 = x2 ∧ (tbi.getD s []).getD 3 0 = x3 ∧ (tbi.getD s []).getD 4 0 = x4) ↔ 27 * (27 * (27 * (27 * (27 * (0) + x0 - 96) + x1 - 96) + x2 - 96) + x3 - 96) + x4 - 96 = wki.getD s 0 := by
  rcases (show s = 0 ∨ s = 1 ∨ s = 2 ∨ s = 3 ∨ s = 4 ∨ s = 5 ∨ s = 6 ∨ s = 7 ∨ s = 8 ∨ s = 9 ∨ s = 10 ∨ s = 11 ∨ s = 12 ∨ s = 13 ∨ s = 14 ∨ s = 15 ∨ s = 16 by omega) with rfl | rfl | rfl | rfl | rfl | rfl | rfl | rfl | rfl | rfl | rfl | rfl | rfl | rfl | rfl | rfl | rfl <;> simp only [tbi, wki, List.getD_cons_zero, List.getD_cons_succ] <;> exact ⟨fun ⟨a0, a1, a2, a3, a4⟩ => by omega, fun h => ⟨by first | omega | trivial, by first | omega | trivial, by first | omega | trivial, by first | omega | trivial, by first | omega | trivial⟩⟩
/-- a word of letters is the table's s-th just when its number is -/
theorem wm_hw {b : Nat → Int32} {q r s : Nat} (h1 : q < r) (h5 : r - q ≤ 5) (hl : ∀ i, q ≤ i → i < r → isL (b i)) (hs : s < 17) : WM b q r s ↔ HW b q (r - q) = wk s := by
  have hL : ∀ i, i < r - q → isL (b (q + i)) := fun i hi => hl (q + i) (by omega) (by omega)
  have e1 : HW b q (r - q) = wk s ↔ HI b q (r - q) = wki.getD s 0 := by
    rw [← wk_i s hs, ← (HW_i (r - q) h5 hL).1]
    exact Int64.toInt_inj.symm
  have z32 : (32 : Int32).toInt = 32 := rfl
  have e2 : WM b q r s ↔ ∀ i, i < 5 → (tbi.getD s []).getD i 0 = (if q + i < r then (b (q + i)).toInt else 32) := by
    constructor
    · intro h i hi
      rw [← tb_i s hs i hi, h i hi]
      unfold cc
      by_cases c : q + i < r
      · rw [if_pos c, if_pos c]
      · rw [if_neg c, if_neg c]; rfl
    · intro h i hi
      have := h i hi
      rw [← tb_i s hs i hi] at this
      unfold cc
      by_cases c : q + i < r
      · rw [if_pos c] at this ⊢
        rw [i_eq]; exact this
      · rw [if_neg c] at this ⊢
        rw [i_eq, z32]; exact this
  rw [e1, e2]
  have h0 := hL 0 (by omega)
  have unf : (∀ i, i < 5 → (tbi.getD s []).getD i 0 = (if q + i < r then (b (q + i)).toInt else 32)) ↔ ((tbi.getD s []).getD 0 0 = (if q + 0 < r then (b (q + 0)).toInt else 32) ∧ (tbi.getD s []).getD 1 0 = (if q + 1 < r then (b (q + 1)).toInt else 32) ∧ (tbi.getD s []).getD 2 0 = (if q + 2 < r then (b (q + 2)).toInt else 32) ∧ (tbi.getD s []).getD 3 0 = (if q + 3 < r then (b (q + 3)).toInt else 32) ∧ (tbi.getD s []).getD 4 0 = (if q + 4 < r then (b (q + 4)).toInt else 32)) := by
    constructor
    · intro h
      exact ⟨h 0 (by omega), h 1 (by omega), h 2 (by omega), h 3 (by omega), h 4 (by omega)⟩
    · rintro ⟨a0, a1, a2, a3, a4⟩ i hi
      rcases (show i = 0 ∨ i = 1 ∨ i = 2 ∨ i = 3 ∨ i = 4 by omega) with rfl | rfl | rfl | rfl | rfl
      · exact a0
      · exact a1
      · exact a2
      · exact a3
      · exact a4
  rw [unf]
  rcases (show r - q = 1 ∨ r - q = 2 ∨ r - q = 3 ∨ r - q = 4 ∨ r - q = 5 by omega) with e | e | e | e | e
  · rw [e, if_pos (by omega), if_neg (by omega), if_neg (by omega), if_neg (by omega), if_neg (by omega)]
    exact wl1 h0 s hs
  · rw [e, if_pos (by omega), if_pos (by omega), if_neg (by omega), if_neg (by omega), if_neg (by omega)]
    exact wl2 h0 (hL 1 (by omega)) s hs
  · rw [e, if_pos (by omega), if_pos (by omega), if_pos (by omega), if_neg (by omega), if_neg (by omega)]
    exact wl3 h0 (hL 1 (by omega)) (hL 2 (by omega)) s hs
  · rw [e, if_pos (by omega), if_pos (by omega), if_pos (by omega), if_pos (by omega), if_neg (by omega)]
    exact wl4 h0 (hL 1 (by omega)) (hL 2 (by omega)) (hL 3 (by omega)) s hs
  · rw [e, if_pos (by omega), if_pos (by omega), if_pos (by omega), if_pos (by omega), if_pos (by omega)]
    exact wl5 h0 (hL 1 (by omega)) (hL 2 (by omega)) (hL 3 (by omega)) (hL 4 (by omega)) s hs
/-- the table's words have letters or blanks alone -/
theorem tb_nd : ∀ s, s < 17 → ∀ i, i < 5 → ¬ (48 ≤ (xo_by 1 (6 * s + i)).toInt ∧ (xo_by 1 (6 * s + i)).toInt ≤ 57) := by decide +kernel
/-- token tok of the class, and what the model holds -/
def TKR (tok : Int32) (sz : Nat) (N : ha_St) : Prop :=
  (tok = -2 ∧ ((sz ≤ 400 ∧ ha_gI N 0 8 = 0) ∨ (400 < sz ∧ ha_gI N 0 8 = 1))) ∨
  (tok = -1 ∧ (ha_gI N 0 8 = 1 ∨ (ha_gI N 0 8 = 2 ∧ ∀ s, s < 17 → ha_gJ N 0 13 ≠ wk s))) ∨
  (∃ v, v < 100 ∧ tok = nI v ∧ ha_gI N 0 8 = 3 ∧ ha_gI N 0 9 = nI v) ∨
  (∃ s, s < 17 ∧ tok = nI (100 + s) ∧ ha_gI N 0 8 = 2 ∧ ha_gJ N 0 13 = wk s) ∨
  (∃ i, i < 7 ∧ tok = nI (117 + i) ∧ ha_gI N 0 8 = 4 ∧ ha_gI N 0 10 = xo_by 0 i)
/-- the two readers stand at one token -/
def SY (b : Nat → Int32) (sz : Nat) (Y N : ha_St) : Prop := TKR (ha_gI Y 3 3) sz N ∧ ha_gI Y 3 4 = ha_gI N 0 7 ∧ (∃ a, a ≤ 400 ∧ ha_gI Y 3 4 = nI a) ∧ (ha_gI Y 3 3 ≠ -2 → ∃ p, p ≤ sz ∧ ha_gI Y 3 5 = nI p ∧ ha_gI N 0 6 = nI p)
theorem lx_gt {b : Nat → Int32} {sz p : Nat} {Y N : ha_St} (hsz : sz ≤ 440) (h : LX b sz p Y) (g : GT b sz p N) : SY b sz Y N := by
  obtain ⟨q, q1, q2, q3⟩ := h
  obtain ⟨t, t1, t2, t3⟩ := g
  have hlm := lmt_le sz
  rcases q3 with ⟨q3, q4, q5, q6⟩ | ⟨q3, q4, q5, r, q6, q7, q8, q9⟩
  · rcases t3 with ⟨t3, t4, t5⟩ | ⟨t3, t4, -⟩
    · exact ⟨Or.inl ⟨q5, t5⟩, by rw [q6, t4], ⟨lmt sz, hlm.2, q6⟩, fun h => absurd q5 h⟩
    · exact absurd (q2 t t1 (by omega)) t4
  · rcases t3 with ⟨t3, -⟩ | ⟨t3, t4, t5, r', t6, t7, t8, t9⟩
    · exact absurd (t2 q q1 (by omega)) q4
    · have hqt : q = t := by
        rcases Nat.lt_trichotomy q t with h | h | h
        · exact absurd (t2 q q1 h) q4
        · exact h
        · exact absurd (q2 t t1 h) t4
      subst hqt
      have pos : r = r' → ((ha_gI Y 3 3) ≠ -2 → ∃ p, p ≤ sz ∧ ha_gI Y 3 5 = nI p ∧ ha_gI N 0 6 = nI p) := fun e _ => ⟨r, q7, q8, by rw [e]; exact t8⟩
      rcases q9 with ⟨a1, a2, a3, a4⟩ | ⟨a1, a2, a3⟩
      · rcases t9 with ⟨b1, b2, b3, b4, b5, b6⟩ | ⟨b1, -⟩
        · have hrr : r = r' := by
            rcases Nat.lt_trichotomy r r' with h | h | h
            · rcases a3 with a3 | a3
              · omega
              · exact absurd (b2 r (by omega) h) a3
            · exact h
            · rcases b3 with b3 | b3
              · omega
              · exact absurd (a2 r' (by omega) h) b3
          subst hrr
          refine ⟨?_, by rw [q5, t5], ⟨q, by omega, q5⟩, pos rfl⟩
          have dl : ∀ i, isDg (b i) → ¬ isL (b i) := fun i h g => by unfold isDg at h; unfold isL at g; omega
          rcases a4 with ⟨c1, c2⟩ | ⟨c1, c2⟩
          · -- a number
            have hnl := dl q c1
            rcases c2 with ⟨c2, c3⟩ | ⟨c2, c3, c4⟩
            · refine Or.inr (Or.inl ⟨c2, ?_⟩)
              rcases b6 with ⟨-, b6⟩ | ⟨-, b7, -⟩ | ⟨b7, -, b8, -⟩
              · exact Or.inl b6
              · exact absurd b7 hnl
              · refine absurd ⟨b8, fun i i1 i2 => ?_⟩ c3
                rcases a2 i i1 i2 with h | h
                · exact absurd ((b7 i i1 i2).mp h) hnl
                · exact h
            · rcases b6 with ⟨b6, -⟩ | ⟨-, b7, -⟩ | ⟨-, -, -, b8⟩
              · rcases b6 with b6 | b6 | b6
                · exact absurd (fun i i1 i2 => ⟨fun h => absurd h (dl i (c3 i i1 i2)), fun h => absurd h hnl⟩) b6
                · exact absurd b6.1 hnl
                · omega
              · exact absurd b7 hnl
              · have hm : mn (r - q) 2 = r - q := by unfold mn; by_cases e : r - q < 2 <;> simp [e]; omega
                rw [hm] at b5
                have d0 := c3 q (Nat.le_refl _) q6
                unfold isDg at d0
                by_cases e : r - q = 1
                · rw [if_pos e] at c4
                  rw [e] at b5
                  have v0 : (b q - 48).toInt = (b q).toInt - 48 := by rw [i_sub (by rw [z_48]; omega) (by rw [z_48]; omega), z_48]
                  refine Or.inr (Or.inr (Or.inl ⟨tn (b q - 48), by unfold tn; omega, ?_, b8, ?_⟩))
                  · rw [c4]; exact n_tnI (by omega)
                  · rw [b5]
                    show 10 * (0 : Int32) + b (q + 0) - 48 = _
                    rw [show (10 : Int32) * 0 = 0 by decide, Int32.zero_add, Nat.add_zero]
                    exact n_tnI (by omega)
                · rw [if_neg e] at c4
                  rw [show r - q = 2 by omega] at b5
                  have d1 := c3 (q + 1) (by omega) (by omega)
                  unfold isDg at d1
                  have z10 : (10 : Int32).toInt = 10 := rfl
                  have v0 : (b q - 48).toInt = (b q).toInt - 48 := by rw [i_sub (by rw [z_48]; omega) (by rw [z_48]; omega), z_48]
                  have v1 : ((b q - 48) * 10).toInt = ((b q).toInt - 48) * 10 := by rw [i_mul (by rw [v0, z10]; omega) (by rw [v0, z10]; omega), v0, z10]
                  have v2 : ((b q - 48) * 10 + b (q + 1)).toInt = ((b q).toInt - 48) * 10 + (b (q + 1)).toInt := by rw [i_add (by rw [v1]; omega) (by rw [v1]; omega), v1]
                  have v3 : ((b q - 48) * 10 + b (q + 1) - 48).toInt = ((b q).toInt - 48) * 10 + (b (q + 1)).toInt - 48 := by rw [i_sub (by rw [v2, z_48]; omega) (by rw [v2, z_48]; omega), v2, z_48]
                  refine Or.inr (Or.inr (Or.inl ⟨tn ((b q - 48) * 10 + b (q + 1) - 48), by unfold tn; omega, ?_, b8, ?_⟩))
                  · rw [c4]; exact n_tnI (by omega)
                  · rw [b5]
                    show 10 * (10 * (0 : Int32) + b (q + 0) - 48) + b (q + 1) - 48 = _
                    rw [show (10 : Int32) * 0 = 0 by decide, Int32.zero_add, Nat.add_zero, Int32.mul_comm]
                    exact n_tnI (by omega)
          · -- a word
            have hl : isL (b q) := a1.resolve_right c1
            have key : r - q ≤ 5 → (∀ i, q ≤ i → i < r → (isL (b i) ↔ isL (b q))) → ∀ s, s < 17 → (WM b q r s ↔ ha_gJ N 0 13 = wk s) := fun h5 hu s hs => by
              have hm : mn (r - q) 5 = r - q := by unfold mn; by_cases e : r - q < 5 <;> simp [e]; omega
              rw [wm_hw q6 h5 (fun i i1 i2 => (hu i i1 i2).mpr hl) hs, b4, hm]
            rcases c2 with ⟨c2, c3⟩ | ⟨c2, s, c3, c4, c5⟩
            · refine Or.inr (Or.inl ⟨c2, ?_⟩)
              rcases b6 with ⟨-, b6⟩ | ⟨b7, -, b8, b9⟩ | ⟨-, b7, -⟩
              · exact Or.inl b6
              · refine Or.inr ⟨b9, fun s hs h => ?_⟩
                rcases c3 with c3 | c3
                · omega
                · exact c3 s hs ((key b8 b7 s hs).mpr h)
              · exact absurd hl b7
            · rcases b6 with ⟨b6, -⟩ | ⟨b7, -, b8, b9⟩ | ⟨-, b7, -⟩
              · rcases b6 with b6 | b6 | b6
                · refine absurd (fun i i1 i2 => ⟨fun _ => hl, fun _ => ?_⟩) b6
                  rcases a2 i i1 i2 with h | h
                  · exact h
                  · have w := c4 (i - q) (by omega)
                    have n := tb_nd s c3 (i - q) (by omega)
                    rw [w] at n
                    unfold cc at n
                    rw [if_pos (by omega), show q + (i - q) = i by omega] at n
                    exact absurd h n
                · omega
                · exact absurd hl b6.1
              · exact Or.inr (Or.inr (Or.inr (Or.inl ⟨s, c3, c5, b9, (key b8 b7 s c3).mp c4⟩)))
              · exact absurd hl b7
        · exact absurd a1 b1
      · rcases t9 with ⟨b1, -⟩ | ⟨b1, b2, b3, b4⟩
        · exact absurd b1 a1
        · refine ⟨?_, by rw [q5, t5], ⟨q, by omega, q5⟩, pos (by omega)⟩
          rcases a3 with ⟨i, i1, i2, i3⟩ | ⟨i1, i2⟩
          · rcases b4 with ⟨-, b4⟩ | ⟨b4, -⟩
            · exact Or.inr (Or.inr (Or.inr (Or.inr ⟨i, i1, i3, b4, by rw [b3, i2]⟩)))
            · exact absurd i2 (b4 i i1)
          · rcases b4 with ⟨⟨i, j1, j2⟩, -⟩ | ⟨-, b4⟩
            · exact absurd j2 (i2 i j1)
            · exact Or.inr (Or.inl ⟨i1, Or.inl b4⟩)
