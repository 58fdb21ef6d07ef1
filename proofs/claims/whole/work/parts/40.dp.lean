/-! WHAT ENTRIES SAVE: the tables -/
def vst (ft : Nat → Nat → Bool) (ln : Nat → Nat) (t : Nat → Int) (p : Nat) : Nat → Int
  | 0 => t (p + 1)
  | e + 1 => if ft e p = true then max (vst ft ln t p e) ((ln e : Int) - 2 + t (p + ln e)) else vst ft ln t p e
def vtb (ft : Nat → Nat → Bool) (ln : Nat → Nat) (E N : Nat) : Nat → Nat → Int
  | 0, _ => 0
  | r + 1, p => if p + (r + 1) = N then vst ft ln (vtb ft ln E N r) p E else vtb ft ln E N r p
/-- the most that is saved from place p on, in a text of N bytes -/
def vv (ft : Nat → Nat → Bool) (ln : Nat → Nat) (E N : Nat) (p : Nat) : Int := vtb ft ln E N N p
theorem vst_cg {ft ft' : Nat → Nat → Bool} {ln : Nat → Nat} {t t' : Nat → Int} {p p' : Nat} {C : Int} (h1 : t (p + 1) = t' (p' + 1) + C) : ∀ {E : Nat}, (∀ e, e < E → ft e p = ft' e p') → (∀ e, e < E → ft e p = true → t (p + ln e) = t' (p' + ln e) + C) → vst ft ln t p E = vst ft' ln t' p' E + C
  | 0, _, _ => h1
  | e + 1, h2, h3 => by
    have ih := vst_cg h1 (E := e) (fun x hx => h2 x (by omega)) (fun x hx => h3 x (by omega))
    show (if ft e p = true then _ else _) = (if ft' e p' = true then _ else _) + C
    rw [← h2 e (by omega)]
    by_cases c : ft e p = true
    · rw [if_pos c, if_pos c, ih, h3 e (by omega) c]; omega
    · rw [if_neg c, if_neg c, ih]
theorem vst_ge {ft : Nat → Nat → Bool} {ln : Nat → Nat} {t : Nat → Int} {p : Nat} : ∀ E, t (p + 1) ≤ vst ft ln t p E
  | 0 => Int.le_refl _
  | e + 1 => by
    have ih := vst_ge (ft := ft) (ln := ln) (t := t) (p := p) e
    show _ ≤ (if ft e p = true then _ else _)
    by_cases c : ft e p = true
    · rw [if_pos c]; omega
    · rw [if_neg c]; exact ih
theorem vst_ub {ft : Nat → Nat → Bool} {ln : Nat → Nat} {t : Nat → Int} {p : Nat} {B : Int} (h1 : t (p + 1) ≤ B) : ∀ {E : Nat}, (∀ e, e < E → ft e p = true → (ln e : Int) - 2 + t (p + ln e) ≤ B) → vst ft ln t p E ≤ B
  | 0, _ => h1
  | e + 1, h => by
    have ih := vst_ub h1 (E := e) (fun x hx => h x (by omega))
    show (if ft e p = true then _ else _) ≤ _
    by_cases c : ft e p = true
    · rw [if_pos c]
      have := h e (by omega) c
      omega
    · rw [if_neg c]; exact ih
theorem vtb_s {ft : Nat → Nat → Bool} {ln : Nat → Nat} {E N p : Nat} : ∀ r k, N ≤ p + r → vtb ft ln E N (r + k) p = vtb ft ln E N r p
  | r, 0, _ => rfl
  | r, k + 1, h => by
    show (if p + (r + k + 1) = N then _ else vtb ft ln E N (r + k) p) = _
    rw [if_neg (by omega), vtb_s r k h]
theorem vtb_v {ft : Nat → Nat → Bool} {ln : Nat → Nat} {E N p r : Nat} (h : N ≤ p + r) (hr : r ≤ N) : vtb ft ln E N r p = vv ft ln E N p := by
  have := vtb_s (ft := ft) (ln := ln) (E := E) (N := N) (p := p) r (N - r) h
  rw [show r + (N - r) = N by omega] at this
  exact this.symm
theorem vv_N (ft : Nat → Nat → Bool) (ln : Nat → Nat) (E N p : Nat) (h : N ≤ p) : vv ft ln E N p = 0 := by
  rw [← vtb_v (r := 0) (by omega) (by omega)]
  rfl
theorem vv_s {ft : Nat → Nat → Bool} {ln : Nat → Nat} {E N p : Nat} (hp : p < N) (hl : ∀ e, e < E → ft e p = true → 1 ≤ ln e) : vv ft ln E N p = vst ft ln (vv ft ln E N) p E := by
  rw [← vtb_v (r := N - p - 1 + 1) (by omega) (by omega)]
  show (if p + (N - p - 1 + 1) = N then vst ft ln (vtb ft ln E N (N - p - 1)) p E else _) = _
  rw [if_pos (by omega)]
  have := vst_cg (ft := ft) (ft' := ft) (ln := ln) (t := vtb ft ln E N (N - p - 1)) (t' := vv ft ln E N) (p := p) (p' := p) (C := 0) (by rw [vtb_v (by omega) (by omega)]; omega) (E := E) (fun _ _ => rfl) (fun e he c => by
    have := hl e he c
    rw [vtb_v (by omega) (by omega)]; omega)
  omega
theorem vv_mono {ft : Nat → Nat → Bool} {ln : Nat → Nat} {E N : Nat} (hl : ∀ p e, p < N → e < E → ft e p = true → 1 ≤ ln e) (p : Nat) : vv ft ln E N (p + 1) ≤ vv ft ln E N p := by
  by_cases c : p < N
  · rw [vv_s c (hl p · c)]; exact vst_ge E
  · rw [vv_N _ _ _ _ _ (by omega), vv_N _ _ _ _ p (by omega)]; exact Int.le_refl _
theorem vv_mon {ft : Nat → Nat → Bool} {ln : Nat → Nat} {E N : Nat} (hl : ∀ p e, p < N → e < E → ft e p = true → 1 ≤ ln e) (p : Nat) : ∀ k, vv ft ln E N (p + k) ≤ vv ft ln E N p
  | 0 => Int.le_refl _
  | k + 1 => Int.le_trans (vv_mono hl (p + k)) (vv_mon hl p k)
theorem vv_0 {ft : Nat → Nat → Bool} {ln : Nat → Nat} {E N : Nat} (hl : ∀ p e, p < N → e < E → ft e p = true → 1 ≤ ln e) (p : Nat) : 0 ≤ vv ft ln E N p := by
  have := vv_mon hl p N
  rw [vv_N _ _ _ _ (p + N) (by omega)] at this
  exact this
theorem vv_ub {ft : Nat → Nat → Bool} {ln : Nat → Nat} {E N : Nat} (hl : ∀ p e, p < N → e < E → ft e p = true → 1 ≤ ln e ∧ p + ln e ≤ N) : ∀ k p, p + k = N → vv ft ln E N p ≤ k := by
  intro k
  induction k using Nat.strongRecOn with
  | ind k ih =>
    intro p hp
    by_cases c : p < N
    · rw [vv_s c (fun e he h => (hl p e c he h).1)]
      refine vst_ub ?_ (fun e he h => ?_)
      · have := ih (k - 1) (by omega) (p + 1) (by omega)
        omega
      · have q := hl p e c he h
        have := ih (k - ln e) (by omega) (p + ln e) (by omega)
        omega
    · rw [vv_N _ _ _ _ _ (by omega)]; omega
/-- entries that save nothing may go -/
theorem vv_use {ft gt : Nat → Nat → Bool} {ln : Nat → Nat} {E N : Nat} (hl : ∀ p e, p < N → e < E → ft e p = true → 1 ≤ ln e) (hs : ∀ p e, p < N → e < E → gt e p = true → ft e p = true) (hu : ∀ p e, p < N → e < E → ft e p = true → gt e p = true ∨ ln e ≤ 2) : ∀ k p, p + k = N → vv gt ln E N p = vv ft ln E N p := by
  intro k
  induction k using Nat.strongRecOn with
  | ind k ih =>
    intro p hp
    by_cases c : p < N
    · rw [vv_s c (fun e he h => hl p e c he h), vv_s c (fun e he h => hl p e c he (hs p e c he h))]
      have i1 := ih (k - 1) (by omega) (p + 1) (by omega)
      have key : ∀ e, e ≤ E → vst gt ln (vv gt ln E N) p e = vst ft ln (vv ft ln E N) p e := by
        intro e
        induction e with
        | zero => intro _; exact i1
        | succ e ihe =>
          intro he
          have ie := ihe (by omega)
          show (if gt e p = true then _ else _) = (if ft e p = true then _ else _)
          have val : 1 ≤ ln e → vv gt ln E N (p + ln e) = vv ft ln E N (p + ln e) := by
            intro h1
            by_cases q : p + ln e ≤ N
            · exact ih (k - ln e) (by omega) (p + ln e) (by omega)
            · rw [vv_N _ _ _ _ _ (by omega), vv_N _ _ _ _ _ (by omega)]
          by_cases d : ft e p = true
          · rw [if_pos d]
            by_cases d2 : gt e p = true
            · rw [if_pos d2, ie, val (hl p e c (by omega) d)]
            · rw [if_neg d2, ie]
              have l2 := (hu p e c (by omega) d).resolve_left d2
              have l1 := hl p e c (by omega) d
              have g1 := vst_ge (ft := ft) (ln := ln) (t := vv ft ln E N) (p := p) e
              have m1 := vv_mon hl (p + 1) (ln e - 1)
              rw [show p + 1 + (ln e - 1) = p + ln e by omega] at m1
              omega
          · rw [if_neg d, if_neg (fun q => d (hs p e c (by omega) q)), ie]
      exact key E (Nat.le_refl _)
    · rw [vv_N _ _ _ _ _ (by omega), vv_N _ _ _ _ _ (by omega)]
/-! words -/
def lB (x : Int32) : Bool := decide (97 ≤ x.toInt ∧ x.toInt ≤ 122)
def wsB (g : Nat → Int32) (p : Nat) : Bool := lB (g p) && (decide (p = 0) || !(lB (g (p - 1))))
def wc (g : Nat → Int32) : Nat → Nat
  | 0 => 0
  | p + 1 => wc g p + if wsB g p = true then 1 else 0
theorem wc_mono {g : Nat → Int32} (p : Nat) : ∀ k, wc g p ≤ wc g (p + k)
  | 0 => Nat.le_refl _
  | k + 1 => Nat.le_trans (wc_mono p k) (Nat.le_add_right _ _)
theorem wc_mon {g : Nat → Int32} {p q : Nat} (h : p ≤ q) : wc g p ≤ wc g q := by
  have := wc_mono (g := g) p (q - p)
  rwa [show p + (q - p) = q by omega] at this
theorem wc_st {g : Nat → Int32} {p q : Nat} (hp : wsB g p = true) (h : p < q) : wc g p < wc g q := by
  have := wc_mon (g := g) (p := p + 1) (q := q) h
  have e : wc g (p + 1) = wc g p + 1 := by show wc g p + _ = _; rw [if_pos hp]
  omega
theorem wc_inj {g : Nat → Int32} {p q : Nat} (hp : wsB g p = true) (hq : wsB g q = true) (h : wc g p = wc g q) : p = q := by
  rcases Nat.lt_trichotomy p q with c | c | c
  · have := wc_st hp c; omega
  · exact c
  · have := wc_st hq c; omega
theorem wc_ex {g : Nat → Int32} : ∀ {N w : Nat}, w < wc g N → ∃ p, p < N ∧ wsB g p = true ∧ wc g p = w
  | 0, w, h => by exact absurd h (Nat.not_lt_zero _)
  | N + 1, w, h => by
    by_cases c : w < wc g N
    · obtain ⟨p, h1, h2, h3⟩ := wc_ex c
      exact ⟨p, by omega, h2, h3⟩
    · have h : w < wc g N + _ := h
      by_cases d : wsB g N = true
      · rw [if_pos d] at h
        exact ⟨N, by omega, d, by omega⟩
      · rw [if_neg d] at h; omega
/-- nothing begins between: the table stays -/
theorem vv_gap {g : Nat → Int32} {ft : Nat → Nat → Bool} {ln : Nat → Nat} {E N : Nat} (hw : ∀ e p, e < E → ft e p = true → wsB g p = true) : ∀ k p, wc g (p + k) = wc g p → p + k ≤ N → vv ft ln E N p = vv ft ln E N (p + k)
  | 0, _, _, _ => rfl
  | k + 1, p, h, hN => by
    have a := wc_mon (g := g) (p := p) (q := p + k) (by omega)
    have b := wc_mon (g := g) (p := p + k) (q := p + (k + 1)) (by omega)
    have ih := vv_gap (g := g) (ft := ft) (ln := ln) (E := E) (N := N) hw k p (by omega) (by omega)
    rw [ih]
    have hn : wsB g (p + k) ≠ true := by
      intro c
      have e : wc g (p + k + 1) = wc g (p + k) + 1 := by show wc g (p + k) + _ = _; rw [if_pos c]
      rw [show p + (k + 1) = p + k + 1 by omega] at h
      omega
    have nf : ∀ e, e < E → ft e (p + k) ≠ true := fun e he c => hn (hw e (p + k) he c)
    rw [vv_s (by omega) (fun e he c => absurd c (nf e he))]
    have : ∀ e, e ≤ E → vst ft ln (vv ft ln E N) (p + k) e = vv ft ln E N (p + k + 1) := by
      intro e
      induction e with
      | zero => intro _; rfl
      | succ e ihe =>
        intro he
        show (if ft e (p + k) = true then _ else _) = _
        rw [if_neg (nf e (by omega)), ihe (by omega)]
    exact this E (Nat.le_refl _)
/-- the set of entries that fit, as bits -/
def fmk (ft : Nat → Nat → Bool) (p : Nat) : Nat → Nat
  | 0 => 0
  | e + 1 => fmk ft p e ||| if ft e p = true then 1 <<< e else 0
theorem fmk_lt (ft : Nat → Nat → Bool) (p : Nat) : ∀ E, fmk ft p E < 2 ^ E
  | 0 => by show 0 < 2 ^ 0; decide
  | e + 1 => by
    have ih := fmk_lt ft p e
    have h2 : 2 ^ e < 2 ^ (e + 1) := Nat.pow_lt_pow_right (by omega) (by omega)
    refine Nat.or_lt_two_pow (by omega) ?_
    by_cases c : ft e p = true
    · rw [if_pos c, Nat.one_shiftLeft]; exact h2
    · rw [if_neg c]; omega
theorem fmk_tb (ft : Nat → Nat → Bool) (p : Nat) : ∀ E e, (fmk ft p E).testBit e = (decide (e < E) && ft e p)
  | 0, e => by show (0 : Nat).testBit e = _; simp
  | E + 1, e => by
    show (fmk ft p E ||| _).testBit e = _
    rw [Nat.testBit_or, fmk_tb ft p E e]
    by_cases c : ft E p = true
    · rw [if_pos c, Nat.one_shiftLeft, Nat.testBit_two_pow]
      by_cases d : e = E
      · subst d; simp [c]
      · have : decide (E = e) = false := by simp; omega
        rw [this]
        by_cases q : e < E
        · simp [q, show e < E + 1 by omega]
        · simp [q, show ¬ e < E + 1 by omega]
    · rw [if_neg c]
      by_cases d : e = E
      · subst d; simp [c]
      · by_cases q : e < E
        · simp [q, show e < E + 1 by omega]
        · simp [q, show ¬ e < E + 1 by omega]
