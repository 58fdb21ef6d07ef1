/-! A TEXT ON A PAGE -/
theorem lB_32 : ¬ lB 32 = true := by decide
theorem lB_0 : ¬ lB 0 = true := by decide
/-- text f of s bytes stands at off on page g of N bytes -/
def At (g : Nat → Int32) (N off : Nat) (f : Nat → Int32) (s : Nat) : Prop := (∀ i, i < s → g (off + i) = f i) ∧ g (off + s) = 0 ∧ off + s + 1 ≤ N ∧ (off = 0 ∨ ¬ lB (g (off - 1)) = true) ∧ Told f s
theorem told_l {f : Nat → Int32} {s i : Nat} (h : Told f s) (hi : i < s) (hb : ¬ lB (f i) = true) : f i = 32 := by
  rcases h.2.2.2 i hi with q | q
  · exact absurd ((isL_lB _).mpr q) hb
  · exact q.1
theorem told_0 {f : Nat → Int32} {s i : Nat} (h : Told f s) (hi : i < s) : f i ≠ 0 := by
  intro c
  rcases h.2.2.2 i hi with q | q
  · rw [c] at q; exact absurd q.1 (by decide)
  · rw [c] at q; exact absurd q.1 (by decide)
theorem at_ws {g f : Nat → Int32} {N off s : Nat} (h : At g N off f s) {i : Nat} (hi : i < s) : wsB g (off + i) = true ↔ (lB (f i) = true ∧ (i = 0 ∨ f (i - 1) = 32)) := by
  obtain ⟨h1, h2, h3, h4, h5⟩ := h
  unfold wsB
  rw [h1 i hi, Bool.and_eq_true, Bool.or_eq_true, decide_eq_true_eq, Bool.not_eq_true']
  constructor
  · rintro ⟨a, b⟩
    refine ⟨a, ?_⟩
    by_cases c : i = 0
    · exact Or.inl c
    · refine Or.inr (told_l h5 (by omega) ?_)
      rcases b with b | b
      · omega
      · rw [show off + i - 1 = off + (i - 1) by omega, h1 (i - 1) (by omega)] at b
        rw [b]; decide
  · rintro ⟨a, b⟩
    refine ⟨a, ?_⟩
    by_cases c : i = 0
    · subst c
      rcases h4 with q | q
      · exact Or.inl (by omega)
      · rw [Nat.add_zero]; exact Or.inr (Bool.eq_false_iff.mpr q)
    · have b := b.resolve_left c
      right
      rw [show off + i - 1 = off + (i - 1) by omega, h1 (i - 1) (by omega), b]
      exact Bool.eq_false_iff.mpr lB_32
theorem at_fit {g f en en' : Nat → Int32} {N off s e i : Nat} {ln : Nat → Nat} (h : At g N off f s) (hi : i < s) (hT : Told (fun x => en (12 * e + x)) (ln e)) (hen : ∀ x, x < ln e → en (12 * e + x) = en' (12 * e + x)) : pfB g N en ln e (off + i) = bgB f s en' ln e i := by
  have hw := at_ws h hi
  have h' := h
  obtain ⟨h1, h2, h3, h4, h5⟩ := h
  have t0 := hT.1
  rw [Bool.eq_iff_iff]
  unfold pfB bgB
  rw [Bool.and_eq_true, decide_eq_true_eq, decide_eq_true_eq, hw]
  constructor
  · rintro ⟨⟨a1, a2⟩, b1, b2, b3⟩
    have fit : i + ln e ≤ s := by
      by_cases c : i + ln e ≤ s
      · exact c
      · exfalso
        have q := b2 (s - i) (by omega)
        rw [show off + i + (s - i) = off + s by omega, h2] at q
        exact told_0 hT (show s - i < ln e by omega) q
    refine ⟨fit, a2, ?_, fun x hx => ?_⟩
    · by_cases c : i + ln e = s
      · exact Or.inl c
      · refine Or.inr (told_l h5 (by omega) ?_)
        rcases b3 with b3 | b3
        · omega
        · rw [show off + i + ln e = off + (i + ln e) by omega, h1 _ (by omega)] at b3
          exact b3
    · have q := b2 x hx
      rw [show off + i + x = off + (i + x) by omega, h1 _ (by omega)] at q
      rw [← q, hen x hx]
  · rintro ⟨c1, c2, c3, c4⟩
    have c40 := c4 0 t0
    have l0 : lB (f i) = true := by
      rw [Nat.add_zero] at c40
      rw [c40, ← hen 0 t0]
      exact (isL_lB _).mpr hT.2.1
    refine ⟨⟨l0, c2⟩, by omega, fun x hx => ?_, Or.inr ?_⟩
    · rw [show off + i + x = off + (i + x) by omega, h1 _ (by omega), c4 x hx, hen x hx]
    · rw [show off + i + ln e = off + (i + ln e) by omega]
      rcases c3 with c3 | c3
      · rw [c3, h2]; exact lB_0
      · by_cases d : i + ln e = s
        · rw [d, h2]; exact lB_0
        · rw [h1 _ (by omega), c3]; exact lB_32
/-- what is saved on the page from a place in a text on -/
theorem at_vv {g f : Nat → Int32} {N off s E : Nat} {ln : Nat → Nat} {pt tt : Nat → Nat → Bool} (h : At g N off f s) (hp : ∀ e p, e < E → pt e p = true → wsB g p = true ∧ 1 ≤ ln e) (ht : ∀ e i, e < E → tt e i = true → 1 ≤ ln e ∧ i + ln e ≤ s) (he : ∀ i, i < s → ∀ e, e < E → pt e (off + i) = tt e i) : ∀ k i, i + k = s → vv pt ln E N (off + i) = vv tt ln E s i + vv pt ln E N (off + s + 1) := by
  have hN := h.2.2.1
  have last : vv pt ln E N (off + s) = vv pt ln E N (off + s + 1) := by
    refine vv_gap (g := g) (fun e p a b => (hp e p a b).1) 1 (off + s) (wc_s0 ?_) (by omega)
    unfold wsB
    rw [h.2.1, Bool.eq_false_iff.mpr lB_0]
    simp
  intro k
  induction k using Nat.strongRecOn with
  | ind k ih =>
    intro i hi
    by_cases c : i < s
    · rw [vv_s (show off + i < N by omega) (fun e a b => (hp e _ a b).2), vv_s c (fun e a b => (ht e i a b).1)]
      refine vst_cg ?_ (fun e a => he i c e a) (fun e a b => ?_)
      · have := ih (k - 1) (by omega) (i + 1) (by omega)
        rw [show off + i + 1 = off + (i + 1) by omega]; exact this
      · rw [he i c e a] at b
        have q := ht e i a b
        have := ih (k - ln e) (by omega) (i + ln e) (by omega)
        rw [show off + i + ln e = off + (i + ln e) by omega]; exact this
    · obtain rfl : i = s := by omega
      rw [last, vv_N _ _ _ _ _ (Nat.le_refl _)]
      omega
/-- how many words there are ahead of a place in a text -/
theorem at_wc {g f : Nat → Int32} {N off s : Nat} (h : At g N off f s) : ∀ i, i ≤ s → 2 * wc g (off + i) ≤ 2 * wc g off + i + 1 ∧ ((i = 0 ∨ ¬ lB (f (i - 1)) = true) → 2 * wc g (off + i) ≤ 2 * wc g off + i)
  | 0, _ => ⟨by rw [Nat.add_zero]; omega, fun _ => by rw [Nat.add_zero]; omega⟩
  | i + 1, hi => by
    obtain ⟨a, b⟩ := at_wc h i (by omega)
    rw [show off + (i + 1) = off + i + 1 by omega]
    by_cases w : wsB g (off + i) = true
    · have q := (at_ws h (show i < s by omega)).mp w
      have b := b (by
        rcases q.2 with z | z
        · exact Or.inl z
        · right; rw [z]; exact lB_32)
      rw [wc_s1 w]
      refine ⟨by omega, fun c => ?_⟩
      rcases c with c | c
      · omega
      · rw [show i + 1 - 1 = i by omega] at c
        exact absurd q.1 c
    · rw [wc_s0 w]
      refine ⟨by omega, fun _ => by omega⟩
theorem at_cap {g f : Nat → Int32} {N off s : Nat} (h : At g N off f s) (hs : s ≤ 60) : (∀ i, i ≤ s → wsB g (off + i) = true → wc g (off + i) < wc g off + 30) ∧ wc g (off + s + 1) ≤ wc g off + 30 := by
  have hz : ¬ wsB g (off + s) = true := by
    unfold wsB
    rw [h.2.1, Bool.eq_false_iff.mpr lB_0]
    simp
  constructor
  · intro i hi w
    by_cases c : i = s
    · subst c; exact absurd w hz
    · have q := (at_ws h (show i < s by omega)).mp w
      have := (at_wc h i hi).2 (by
        rcases q.2 with z | z
        · exact Or.inl z
        · right; rw [z]; exact lB_32)
      omega
  · rw [wc_s0 hz]
    have := (at_wc h s (Nat.le_refl _)).1
    omega
