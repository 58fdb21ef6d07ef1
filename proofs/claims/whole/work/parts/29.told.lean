/-! TEXTS: letters with single blanks between -/
theorem z_97 : (97 : Int32).toInt = 97 := rfl
theorem z_122 : (122 : Int32).toInt = 122 := rfl
theorem z_32 : (32 : Int32).toInt = 32 := rfl
theorem isLetter_x (x : Int32) : f_X11_isLetter x = some (if 97 ≤ x.toInt ∧ x.toInt ≤ 122 then 1 else 0) := by
  unfold f_X11_isLetter f_X11_isLetter_J16 f_X11_isLetter_J17
  simp only [i_lt, z_97, z_122]
  by_cases h1 : x.toInt < 97
  · rw [pw_it h1, if_neg (by omega)]; rfl
  · by_cases h2 : 122 < x.toInt
    · rw [pw_ie h1, pw_it h2, if_neg (by omega)]; rfl
    · rw [pw_ie h1, pw_ie h2, if_pos (by omega)]; rfl
theorem isLetter_m (x : Int32) : f_X12_isLetter x = some (if 97 ≤ x.toInt ∧ x.toInt ≤ 122 then 1 else 0) := by
  unfold f_X12_isLetter f_X12_isLetter_J16 f_X12_isLetter_J17
  simp only [i_lt, z_97, z_122]
  by_cases h1 : x.toInt < 97
  · rw [pw_it h1, if_neg (by omega)]; rfl
  · by_cases h2 : 122 < x.toInt
    · rw [pw_ie h1, pw_it h2, if_neg (by omega)]; rfl
    · rw [pw_ie h1, pw_ie h2, if_pos (by omega)]; rfl
/-- the rest of a text of n bytes from i on is told, the byte ahead being a letter (b) or not; its last byte is a letter -/
def Rest (f : Nat → Int32) (n i : Nat) (b : Prop) : Prop := (∀ j, i ≤ j → j < n → isL (f j) ∨ (f j = 32 ∧ ((j = i ∧ b) ∨ (i < j ∧ isL (f (j - 1)))))) ∧ ((i = n ∧ b) ∨ (i < n ∧ isL (f (n - 1))))
theorem rest_n {f : Nat → Int32} {n : Nat} {b : Prop} : Rest f n n b ↔ b := by
  constructor
  · rintro ⟨-, h | h⟩
    · exact h.2
    · omega
  · intro h
    exact ⟨fun j h1 h2 => by omega, Or.inl ⟨rfl, h⟩⟩
theorem rest_s {f : Nat → Int32} {n i : Nat} {b : Prop} (hi : i < n) : Rest f n i b ↔ (isL (f i) ∧ Rest f n (i + 1) True) ∨ (¬ isL (f i) ∧ f i = 32 ∧ b ∧ Rest f n (i + 1) False) := by
  constructor
  · rintro ⟨h1, h2⟩
    have hl : isL (f (n - 1)) := by
      rcases h2 with h2 | h2
      · omega
      · exact h2.2
    by_cases c : isL (f i)
    · refine Or.inl ⟨c, fun j a1 a2 => ?_, ?_⟩
      · rcases h1 j (by omega) a2 with g | ⟨g1, g2 | g2⟩
        · exact Or.inl g
        · omega
        · by_cases e : j = i + 1
          · exact Or.inr ⟨g1, Or.inl ⟨e, trivial⟩⟩
          · exact Or.inr ⟨g1, Or.inr ⟨by omega, g2.2⟩⟩
      · by_cases e : i + 1 = n
        · exact Or.inl ⟨e, trivial⟩
        · exact Or.inr ⟨by omega, hl⟩
    · rcases h1 i (Nat.le_refl _) hi with g | ⟨g1, g2 | g2⟩
      · exact absurd g c
      · refine Or.inr ⟨c, g1, g2.2, fun j a1 a2 => ?_, ?_⟩
        · rcases h1 j (by omega) a2 with g | ⟨g3, g4 | g4⟩
          · exact Or.inl g
          · omega
          · by_cases e : j = i + 1
            · subst e
              exact absurd g4.2 c
            · exact Or.inr ⟨g3, Or.inr ⟨by omega, g4.2⟩⟩
        · by_cases e : i + 1 = n
          · have : n - 1 = i := by omega
            rw [this] at hl
            exact absurd hl c
          · exact Or.inr ⟨by omega, hl⟩
      · omega
  · rintro (⟨c, h1, h2⟩ | ⟨c, g1, g2, h1, h2⟩)
    · refine ⟨fun j a1 a2 => ?_, Or.inr ⟨hi, ?_⟩⟩
      · by_cases e : j = i
        · subst e; exact Or.inl c
        · rcases h1 j (by omega) a2 with g | ⟨g3, g4 | g4⟩
          · exact Or.inl g
          · refine Or.inr ⟨g3, Or.inr ⟨by omega, ?_⟩⟩
            rw [g4.1, Nat.add_sub_cancel]; exact c
          · exact Or.inr ⟨g3, Or.inr ⟨by omega, g4.2⟩⟩
      · rcases h2 with h2 | h2
        · rw [← h2.1, Nat.add_sub_cancel]; exact c
        · exact h2.2
    · refine ⟨fun j a1 a2 => ?_, Or.inr ⟨hi, ?_⟩⟩
      · by_cases e : j = i
        · subst e; exact Or.inr ⟨g1, Or.inl ⟨rfl, g2⟩⟩
        · rcases h1 j (by omega) a2 with g | ⟨g3, g4 | g4⟩
          · exact Or.inl g
          · exact absurd g4.2 id
          · exact Or.inr ⟨g3, Or.inr ⟨by omega, g4.2⟩⟩
      · rcases h2 with h2 | h2
        · exact absurd h2.2 id
        · exact h2.2
theorem rest_told {f : Nat → Int32} {n : Nat} (h : 0 < n) : Rest f n 0 False ↔ Told f n := by
  constructor
  · rintro ⟨h1, h2⟩
    refine ⟨h, ?_, ?_, fun i hi => ?_⟩
    · rcases h1 0 (Nat.le_refl _) h with g | ⟨-, g | g⟩
      · exact g
      · exact absurd g.2 id
      · omega
    · rcases h2 with h2 | h2
      · omega
      · exact h2.2
    · rcases h1 i (Nat.zero_le _) hi with g | ⟨g1, g | g⟩
      · exact Or.inl g
      · exact absurd g.2 id
      · exact Or.inr ⟨g1, g⟩
  · rintro ⟨-, h1, h2, h3⟩
    refine ⟨fun j _ hj => ?_, Or.inr ⟨h, h2⟩⟩
    rcases h3 j hj with g | ⟨g1, g2, g3⟩
    · exact Or.inl g
    · exact Or.inr ⟨g1, Or.inr ⟨g2, g3⟩⟩
/-- the class's loop: its end tells whether the last byte was a letter -/
theorem txt_x (p : Int32) : ∀ (k n : Nat) (b v : Int32) (X : ha_St), IR X → (b = 0 ∨ b = 1) → v.toInt = (ha_gI X 1 1).toInt - k → 0 ≤ v.toInt → (ha_gI X 1 1).toInt ≤ 440 → k < n → (Rest (ha_gA X 116) (ha_gI X 1 1).toInt.toNat v.toInt.toNat (b = 1) → f_X10_isText_L22i 1 p n (b, v, X) = some (.inl (1, X))) ∧ (¬ Rest (ha_gA X 116) (ha_gI X 1 1).toInt.toNat v.toInt.toNat (b = 1) → f_X10_isText_L22i 1 p n (b, v, X) = some (.inl (0, X)) ∨ f_X10_isText_L22i 1 p n (b, v, X) = some (.inr (0, X))) := by
  intro k
  induction k with
  | zero =>
    intro n b v X hIR hb hv h0 hs hn
    obtain ⟨n, rfl⟩ : ∃ q, n = q + 1 := ⟨n - 1, by omega⟩
    have e : f_X10_isText_L22i 1 p (n + 1) (b, v, X) = some (.inl (b, X)) := by
      show f_X10_isText_L22 1 p (f_X10_isText_L22i 1 p n) b v X = _
      unfold f_X10_isText_L22
      rw [pw_it (by rw [i_le]; omega)]
    rw [e, show (ha_gI X 1 1).toInt.toNat = v.toInt.toNat by omega, rest_n]
    refine ⟨fun h => by rw [h], fun h => ?_⟩
    rcases hb with hb | hb
    · rw [hb]; exact Or.inl rfl
    · exact absurd hb h
  | succ k ih =>
    intro n b v X hIR hb hv h0 hs hn
    obtain ⟨n, rfl⟩ : ∃ q, n = q + 1 := ⟨n - 1, by omega⟩
    have hv2 : (v + 1).toInt = v.toInt + 1 := by rw [i_add (by rw [z_1]; omega) (by rw [z_1]; omega), z_1]
    have hx : xo_ln 116 = 440 := by decide +kernel
    have g1 : ¬ (v < 0 ∨ 440 ≤ v.toNatClampNeg) := by rw [i_lt, z_0, i_cl]; omega
    have e : f_X10_isText_L22i 1 p (n + 1) (b, v, X) = if 97 ≤ (ha_gA X 116 v.toNatClampNeg).toInt ∧ (ha_gA X 116 v.toNatClampNeg).toInt ≤ 122 then f_X10_isText_L22i 1 p n (1, v + 1, X) else if b = 0 then some (.inr (0, X)) else if ha_gA X 116 v.toNatClampNeg = 32 then f_X10_isText_L22i 1 p n (0, v + 1, X) else some (.inr (0, X)) := by
      show f_X10_isText_L22 1 p (f_X10_isText_L22i 1 p n) b v X = _
      unfold f_X10_isText_L22 f_X10_isText_L22_J61 f_X10_isText_L22_J63
      rw [pw_ie (by rw [i_le]; omega)]
      simp only [pw_nm, pw_bs, xr hIR 1 0 100 116, hx, pw_gd g1, isLetter_x]
      by_cases c : 97 ≤ (ha_gA X 116 v.toNatClampNeg).toInt ∧ (ha_gA X 116 v.toNatClampNeg).toInt ≤ 122
      · simp only [c, and_self, if_true, n_10, not_false_eq_true]
      · simp only [c, if_false, n_00, not_true_eq_false]
    rw [e, rest_s (by omega)]
    have i1 := ih n 1 (v + 1) X hIR (Or.inr rfl) (by omega) (by omega) hs (by omega)
    have i0 := ih n 0 (v + 1) X hIR (Or.inl rfl) (by omega) (by omega) hs (by omega)
    rw [hv2, show (v.toInt + 1).toNat = v.toInt.toNat + 1 by omega] at i1 i0
    have hcl : v.toNatClampNeg = v.toInt.toNat := i_cl v
    rw [hcl]
    by_cases c : 97 ≤ (ha_gA X 116 v.toInt.toNat).toInt ∧ (ha_gA X 116 v.toInt.toNat).toInt ≤ 122
    · have hL : isL (ha_gA X 116 v.toInt.toNat) := c
      rw [if_pos c]
      have t1 : Rest (ha_gA X 116) (ha_gI X 1 1).toInt.toNat (v.toInt.toNat + 1) ((1 : Int32) = 1) ↔ Rest (ha_gA X 116) (ha_gI X 1 1).toInt.toNat (v.toInt.toNat + 1) True := by simp
      rw [t1] at i1
      refine ⟨fun h => ?_, fun h => ?_⟩
      · rcases h with h | h
        · exact i1.1 h.2
        · exact absurd hL h.1
      · exact i1.2 (fun g => h (Or.inl ⟨hL, g⟩))
    · have hL : ¬ isL (ha_gA X 116 v.toInt.toNat) := c
      rw [if_neg c]
      have t0 : Rest (ha_gA X 116) (ha_gI X 1 1).toInt.toNat (v.toInt.toNat + 1) ((0 : Int32) = 1) ↔ Rest (ha_gA X 116) (ha_gI X 1 1).toInt.toNat (v.toInt.toNat + 1) False := by simp
      rw [t0] at i0
      by_cases c1 : b = 0
      · rw [if_pos c1]
        refine ⟨fun h => ?_, fun h => Or.inr rfl⟩
        rcases h with h | h
        · exact absurd h.1 hL
        · exact absurd (c1 ▸ h.2.2.1) (by decide)
      · rw [if_neg c1]
        have b1 : b = 1 := hb.resolve_left c1
        by_cases c2 : ha_gA X 116 v.toInt.toNat = 32
        · rw [if_pos c2]
          refine ⟨fun h => ?_, fun h => ?_⟩
          · rcases h with h | h
            · exact absurd h.1 hL
            · exact i0.1 h.2.2.2
          · exact i0.2 (fun g => h (Or.inr ⟨hL, c2, b1, g⟩))
        · rw [if_neg c2]
          refine ⟨fun h => ?_, fun h => Or.inr rfl⟩
          rcases h with h | h
          · exact absurd h.1 hL
          · exact absurd h.2.1 c2
