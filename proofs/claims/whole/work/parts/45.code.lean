/-! CODE -/
def FrK (X S : ha_St) : Prop := ha_gR S = ha_gR X ∧ ha_gB S = ha_gB X ∧ (∀ o k, ¬ (o = 7 ∨ (o = 8 ∧ k = 5) ∨ (o = 0 ∧ (k = 14 ∨ k = 15)) ∨ (o = 1 ∧ k = 1)) → ha_gI S o k = ha_gI X o k) ∧ ∀ a, ¬ ((212 ≤ a ∧ a ≤ 215) ∨ (229 ≤ a ∧ a ≤ 231) ∨ a = 108) → ha_gA S a = ha_gA X a
def FrN (M S : ha_St) : Prop := ha_gR S = ha_gR M ∧ (∀ k, ¬ (k = 72 ∨ k = 73 ∨ k = 74 ∨ k = 2) → ha_gI S 0 k = ha_gI M 0 k) ∧ ∀ a, ¬ (70 ≤ a ∧ a ≤ 72) → ha_gA S a = ha_gA M a
theorem frK_r (X : ha_St) : FrK X X := ⟨rfl, rfl, fun _ _ _ => rfl, fun _ _ => rfl⟩
theorem frN_r (X : ha_St) : FrN X X := ⟨rfl, fun _ _ => rfl, fun _ _ => rfl⟩
theorem frK_I {X S : ha_St} (h : FrK X S) {o k : Nat} (hk : o = 7 ∨ (o = 8 ∧ k = 5) ∨ (o = 0 ∧ (k = 14 ∨ k = 15)) ∨ (o = 1 ∧ k = 1)) (v : Int32) : FrK X (ha_sI S o k v) := ⟨h.1, h.2.1, fun o' k' c => by rw [st_II, if_neg (by omega)]; exact h.2.2.1 o' k' c, h.2.2.2⟩
theorem frK_A {X S : ha_St} (h : FrK X S) {a : Nat} (ha : (212 ≤ a ∧ a ≤ 215) ∨ (229 ≤ a ∧ a ≤ 231) ∨ a = 108) (f : Nat → Int32) : FrK X (ha_sA S a f) := ⟨h.1, h.2.1, h.2.2.1, fun b hb => by rw [st_AA, if_neg (by omega)]; exact h.2.2.2 b hb⟩
theorem frK_P {X S T : ha_St} (h : FrK X S) {P : Nat} (hP : P = 7 ∨ P = 8) (g : FrP P S T) : FrK X T := ⟨g.1.trans h.1, g.2.1.trans h.2.1, fun o k c => (g.2.2.1 o k (by omega)).trans (h.2.2.1 o k c), fun a c => (g.2.2.2 a (by omega)).trans (h.2.2.2 a c)⟩
theorem frN_I {M S : ha_St} (h : FrN M S) {k : Nat} (hk : k = 72 ∨ k = 73 ∨ k = 74 ∨ k = 2) (v : Int32) : FrN M (ha_sI S 0 k v) := ⟨h.1, fun k' c => by rw [st_II, if_neg (by omega)]; exact h.2.1 k' c, h.2.2⟩
theorem frN_A {M S : ha_St} (h : FrN M S) {a : Nat} (ha : 70 ≤ a ∧ a ≤ 72) (f : Nat → Int32) : FrN M (ha_sA S a f) := ⟨h.1, h.2.1, fun b hb => by rw [st_AA, if_neg (by omega)]; exact h.2.2 b hb⟩
theorem frN_t {M S T : ha_St} (h : FrN M S) (g : FrN S T) : FrN M T := ⟨g.1.trans h.1, fun k c => (g.2.1 k c).trans (h.2.1 k c), fun a c => (g.2.2 a c).trans (h.2.2 a c)⟩
theorem inv_KN {X Z M L : ha_St} (hI : Inv X M) (hF : FrK X Z) (hG : FrN M L) (n1 : I1 Z L) (n6 : I6 Z L) (n10 : I10 Z L) : Inv Z L := by
  obtain ⟨hIR, hIB, hIM, hI1, hI2, hI3, hI4, hI5, hI6, hI7, hI8, hI9, hI10, hI11, hI13, hI14⟩ := hI
  exact ⟨IR_c (X := X) hF.1 hIR, IB_c (X := X) (by rw [hF.2.1]) (by rw [hF.2.1]) (by rw [hF.2.1]) hIB, IM_c (M := M) hG.1 hIM, n1, I2_c (X := X) (M := M) (hF.2.2.1 0 13 (by omega)) (hF.2.2.1 2 5 (by omega)) (hG.2.1 3 (by omega)) (hG.2.1 4 (by omega)) hI2, I3_c (X := X) (M := M) (hF.2.2.1 2 6 (by omega)) (hF.2.2.2 133 (by omega)) (hG.2.1 30 (by omega)) (hG.2.2 27 (by omega)) hI3, I4_c (X := X) (M := M) (hF.2.2.1 2 7 (by omega)) (hF.2.2.2 134 (by omega)) (hG.2.1 31 (by omega)) (hG.2.2 28 (by omega)) (hG.2.2 29 (by omega)) (hG.2.2 30 (by omega)) hI4, I5_c (X := X) (M := M) (fun p j h1 h2 => hF.2.2.1 p j (by omega)) (fun a h1 h2 => hF.2.2.2 a (by omega)) (by rw [hF.2.1]) hF.1 (fun _ _ => by rw [hF.2.2.2 136 (by omega)]) (hG.2.2 15 (by omega)) (hG.2.2 16 (by omega)) (hG.2.2 17 (by omega)) (hG.2.2 18 (by omega)) (hG.2.2 19 (by omega)) (hG.2.2 20 (by omega)) (hG.2.2 21 (by omega)) (hG.2.2 22 (by omega)) (hG.2.2 23 (by omega)) hI5, n6, I7_c (X := X) (M := M) (hF.2.2.1 4 2 (by omega)) (hF.2.2.1 16 5 (by omega)) (hF.2.2.1 16 4 (by omega)) (hF.2.2.1 4 4 (by omega)) (hF.2.2.1 16 7 (by omega)) (hF.2.2.1 4 3 (by omega)) (hF.2.2.1 16 6 (by omega)) (hF.2.2.2 165 (by omega)) (hF.2.2.2 358 (by omega)) (hF.2.2.2 357 (by omega)) (hF.2.2.2 359 (by omega)) (hG.2.1 53 (by omega)) (hG.2.1 54 (by omega)) (hG.2.1 55 (by omega)) (hG.2.1 56 (by omega)) (hG.2.1 57 (by omega)) (hG.2.1 58 (by omega)) (hG.2.1 59 (by omega)) (hG.2.2 50 (by omega)) (hG.2.2 51 (by omega)) (hG.2.2 52 (by omega)) (hG.2.2 53 (by omega)) hI7, I8_c (X := X) (M := M) (hF.2.2.1 5 10 (by omega)) (hF.2.2.2 188 (by omega)) (hF.2.2.2 189 (by omega)) (hG.2.1 62 (by omega)) (hG.2.2 61 (by omega)) (hG.2.2 62 (by omega)) hI8, I9_c (X := X) (M := M) (hF.2.2.1 6 3 (by omega)) (hF.2.2.2 197 (by omega)) (hF.2.2.2 196 (by omega)) (hF.2.2.2 198 (by omega)) (hG.2.1 67 (by omega)) (hG.2.2 65 (by omega)) (hG.2.2 64 (by omega)) hI9, n10, I11_c (X := X) (M := M) (hF.2.2.1 8 6 (by omega)) (hF.2.2.1 8 4 (by omega)) (hF.2.2.1 8 7 (by omega)) (hF.2.2.2 228 (by omega)) (hG.2.1 68 (by omega)) (hG.2.2 67 (by omega)) (hG.2.2 66 (by omega)) hI11, I13_c (X := X) (M := M) (hF.2.2.1 9 8 (by omega)) (hF.2.2.2 244 (by omega)) (hF.2.2.2 245 (by omega)) (hF.2.2.2 246 (by omega)) (hF.2.2.2 247 (by omega)) (hG.2.1 80 (by omega)) (hG.2.1 4 (by omega)) (hG.2.1 3 (by omega)) (hG.2.2 76 (by omega)) (hG.2.2 77 (by omega)) (hG.2.2 78 (by omega)) (hG.2.2 79 (by omega)) hI13, I14_c (X := X) (M := M) (hF.2.2.1 9 7 (by omega)) (hF.2.2.1 9 6 (by omega)) (hF.2.2.1 9 5 (by omega)) (fun i => hF.2.2.2 (2000 + i) (by omega)) (hG.2.1 80 (by omega)) (hG.2.2 76 (by omega)) (hG.2.2 77 (by omega)) (hG.2.2 78 (by omega)) hI14⟩
/-- the books of the two are one -/
def lnM (M : ha_St) (e : Nat) : Nat := (ha_gA M 65 e).toInt.toNat
theorem book {X M : ha_St} (h9 : I9 X M) : ∃ E, Bk M E (lnM M) ∧ BkX X E (lnM M) ∧ ∀ e, e < E → ∀ x, x < lnM M e → ha_gA X 196 (12 * e + x) = ha_gA M 64 (12 * e + x) := by
  obtain ⟨d1, d2, d3, d4⟩ := h9
  obtain ⟨E, E1, hE⟩ := n_of (N := 12) d2 d3
  have dd := fun e (he : e < E) => d4 e (by rw [hE, nI_toInt (by omega)]; omega)
  have en : ∀ e, e < E → ∀ x, x < lnM M e → ha_gA X 196 (12 * e + x) = ha_gA M 64 (12 * e + x) := fun e he x hx => by
    have := dd e he
    unfold lnM at hx
    exact this.2.2.2.1 x (by omega)
  refine ⟨E, ⟨hE, E1, fun e he => ?_⟩, ⟨d1.trans hE, E1, fun e he => ?_⟩, en⟩
  · obtain ⟨f1, f2, f3, f4, f5, f6⟩ := dd e he
    refine ⟨nI_ofI (by omega), ?_, ?_⟩
    · unfold lnM; omega
    · unfold lnM; omega
  · obtain ⟨f1, f2, f3, f4, f5, f6⟩ := dd e he
    refine ⟨f1.trans (nI_ofI (by omega)), ?_, ?_, told_cg (fun x hx => (en e he x hx).symm) f5, ?_⟩
    · unfold lnM; omega
    · unfold lnM; omega
    · rw [f6]
      congr 2
      exact (blk_cg (fun x hx => en e he x hx)).symm
/-! the first of some entries -/
def ff (q : Nat → Bool) : Nat → Nat
  | 0 => 0
  | n + 1 => if ff q n < n then ff q n else if q n = true then n else n + 1
theorem ff_p (q : Nat → Bool) : ∀ E, ff q E ≤ E ∧ (∀ e, e < ff q E → ¬ q e = true) ∧ (ff q E < E → q (ff q E) = true)
  | 0 => ⟨Nat.le_refl _, fun e h => absurd h (Nat.not_lt_zero _), fun h => absurd h (Nat.not_lt_zero _)⟩
  | n + 1 => by
    obtain ⟨a, b, c⟩ := ff_p q n
    have e : ff q (n + 1) = if ff q n < n then ff q n else if q n = true then n else n + 1 := rfl
    by_cases h : ff q n < n
    · rw [e, if_pos h]; exact ⟨by omega, b, fun _ => c h⟩
    · have hn : ff q n = n := by omega
      rw [hn] at b
      by_cases d : q n = true
      · rw [e, if_neg h, if_pos d]; exact ⟨by omega, b, fun _ => d⟩
      · rw [e, if_neg h, if_neg d]
        refine ⟨Nat.le_refl _, fun x hx => ?_, fun z => by omega⟩
        by_cases w : x = n
        · rw [w]; exact d
        · exact b x (by omega)
theorem ff_u {q : Nat → Bool} {E r : Nat} (h1 : r ≤ E) (h2 : ∀ e, e < r → ¬ q e = true) (h3 : r < E → q r = true) : ff q E = r := by
  obtain ⟨a, b, c⟩ := ff_p q E
  rcases Nat.lt_trichotomy (ff q E) r with w | w | w
  · exact absurd (c (by omega)) (h2 _ w)
  · exact w
  · exact absurd (h3 (by omega)) (b _ w)
theorem ff_cg {q r : Nat → Bool} {E : Nat} (h : ∀ e, e < E → q e = r e) : ff q E = ff r E := by
  obtain ⟨a, b, c⟩ := ff_p r E
  exact ff_u a (fun e he => by rw [h e (by omega)]; exact b e he) (fun w => by rw [h _ w]; exact c w)
/-- the places of the pieces -/
def pz (R : Nat → Nat) (ln : Nat → Nat) (E : Nat) : Nat → Nat
  | 0 => 0
  | c + 1 => pz R ln E c + if R (pz R ln E c) < E then ln (R (pz R ln E c)) else 1
def pce (R : Nat → Nat) (f : Nat → Int32) (E i : Nat) : Int32 := if R i < E then nI (100 + R i) else f i
theorem pz_inc {R ln : Nat → Nat} {E : Nat} (h : ∀ e, e < E → 1 ≤ ln e) (c : Nat) : pz R ln E c < pz R ln E (c + 1) := by
  show _ < pz R ln E c + _
  by_cases w : R (pz R ln E c) < E
  · rw [if_pos w]; have := h _ w; omega
  · rw [if_neg w]; omega
theorem pz_ge {R ln : Nat → Nat} {E : Nat} (h : ∀ e, e < E → 1 ≤ ln e) : ∀ c, c ≤ pz R ln E c
  | 0 => Nat.zero_le _
  | c + 1 => by have := pz_ge (R := R) h c; have := pz_inc (R := R) h c; omega
theorem pz_mo {R ln : Nat → Nat} {E : Nat} (h : ∀ e, e < E → 1 ≤ ln e) (c : Nat) : ∀ k, pz R ln E c + k ≤ pz R ln E (c + k)
  | 0 => Nat.le_refl _
  | k + 1 => by have := pz_mo (R := R) h c k; have := pz_inc (R := R) h (c + k); rw [show c + (k + 1) = c + k + 1 by omega]; omega
theorem pz_u {R ln : Nat → Nat} {E c d : Nat} (h : ∀ e, e < E → 1 ≤ ln e) (e : pz R ln E c = pz R ln E d) : c = d := by
  rcases Nat.lt_trichotomy c d with w | w | w
  · have := pz_mo (R := R) h c (d - c); rw [show c + (d - c) = d by omega] at this; omega
  · exact w
  · have := pz_mo (R := R) h d (c - d); rw [show d + (c - d) = c by omega] at this; omega
