/-! WHAT ENTRIES SAVE: the class -/
def pfB (g : Nat → Int32) (N : Nat) (en : Nat → Int32) (ln : Nat → Nat) (e p : Nat) : Bool := wsB g p && decide (p + ln e ≤ N ∧ (∀ i, i < ln e → en (12 * e + i) = g (p + i)) ∧ (N ≤ p + ln e ∨ ¬ lB (g (p + ln e)) = true))
def BkX (X : ha_St) (E : Nat) (ln : Nat → Nat) : Prop := ha_gI X 6 3 = nI E ∧ E ≤ 12 ∧ ∀ e, e < E → ha_gA X 197 e = nI (ln e) ∧ 1 ≤ ln e ∧ ln e ≤ 12 ∧ Told (fun i => ha_gA X 196 (12 * e + i)) (ln e) ∧ ha_gA X 198 e = nI (1 + blk (fun i => ha_gA X 196 (12 * e + i)) (ln e))
theorem isL_lB (x : Int32) : lB x = true ↔ isL x := by unfold lB isL; rw [decide_eq_true_eq]
theorem isLetter_b (x : Int32) : f_X11_isLetter x = some (if lB x = true then 1 else 0) := by
  rw [isLetter_x]
  congr 1
  by_cases c : 97 ≤ x.toInt ∧ x.toInt ≤ 122
  · rw [if_pos c, if_pos ((isL_lB x).mpr c)]
  · rw [if_neg c, if_neg (fun q => c ((isL_lB x).mp q))]
theorem wc_s1 {g : Nat → Int32} {p : Nat} (h : wsB g p = true) : wc g (p + 1) = wc g p + 1 := by show wc g p + _ = _; rw [if_pos h]
theorem wc_s0 {g : Nat → Int32} {p : Nat} (h : ¬ wsB g p = true) : wc g (p + 1) = wc g p := by show wc g p + _ = _; rw [if_neg h, Nat.add_zero]
theorem vst_skip {ft : Nat → Nat → Bool} {ln : Nat → Nat} {t : Nat → Int} {p e : Nat} : ∀ k, (∀ x, e ≤ x → x < e + k → ¬ ft x p = true) → vst ft ln t p (e + k) = vst ft ln t p e
  | 0, _ => rfl
  | k + 1, h => by
    show (if ft (e + k) p = true then _ else vst ft ln t p (e + k)) = _
    rw [if_neg (h (e + k) (by omega) (by omega)), vst_skip k (fun x h1 h2 => h x h1 (by omega))]
/-- an entry's words in the text -/
theorem pf_wc {g en : Nat → Int32} {N e p : Nat} {ln : Nat → Nat} (hT : Told (fun i => en (12 * e + i)) (ln e)) (h : pfB g N en ln e p = true) : wc g (p + ln e) = wc g p + (1 + blk (fun i => en (12 * e + i)) (ln e)) := by
  unfold pfB at h
  rw [Bool.and_eq_true, decide_eq_true_eq] at h
  obtain ⟨h1, h2, h3, h4⟩ := h
  obtain ⟨t0, t1, t2, t3⟩ := hT
  have b32 : ∀ x : Int32, isL x → x ≠ 32 := by
    intro x h e
    rw [e] at h
    exact absurd h.1 (by decide)
  have key : ∀ j, j + 1 ≤ ln e → wc g (p + (j + 1)) = wc g p + (1 + blk (fun i => en (12 * e + i)) j) := by
    intro j
    induction j with
    | zero =>
      intro _
      rw [show p + (0 + 1) = p + 1 by omega, wc_s1 h1]
      rfl
    | succ j ih =>
      intro hj
      have ih := ih (by omega)
      have a := h3 j (by omega)
      have b := h3 (j + 1) (by omega)
      rw [show p + (j + 1 + 1) = p + (j + 1) + 1 by omega]
      show _ = wc g p + (1 + (blk (fun i => en (12 * e + i)) j + if en (12 * e + j) = 32 then 1 else 0))
      by_cases c : en (12 * e + j) = 32
      · rw [if_pos c]
        have hl : isL (en (12 * e + (j + 1))) := by
          rcases t3 (j + 1) (by omega) with q | ⟨q1, q2, q3⟩
          · exact q
          · have q3 : isL (en (12 * e + (j + 1 - 1))) := q3
            rw [show j + 1 - 1 = j by omega, c] at q3
            exact absurd q3.1 (by decide)
        have w : wsB g (p + (j + 1)) = true := by
          unfold wsB
          rw [← b, (isL_lB _).mpr hl, show p + (j + 1) - 1 = p + j by omega, ← a, c]
          simp
          decide
        rw [wc_s1 w, ih]
        omega
      · rw [if_neg c]
        have hl : isL (en (12 * e + j)) := by
          rcases t3 j (by omega) with q | q
          · exact q
          · exact absurd q.1 c
        have w : ¬ wsB g (p + (j + 1)) = true := by
          unfold wsB
          rw [show p + (j + 1) - 1 = p + j by omega, ← a, (isL_lB _).mpr hl]
          simp
        rw [wc_s0 w, ih]
        omega
  have hk := key (ln e - 1) (by omega)
  rw [show ln e - 1 + 1 = ln e by omega] at hk
  rw [hk]
  have : blk (fun i => en (12 * e + i)) (ln e) = blk (fun i => en (12 * e + i)) (ln e - 1) := by
    have e1 : ln e = (ln e - 1) + 1 := by omega
    rw [show blk (fun i => en (12 * e + i)) (ln e) = blk (fun i => en (12 * e + i)) ((ln e - 1) + 1) by rw [← e1]]
    show blk (fun i => en (12 * e + i)) (ln e - 1) + (if en (12 * e + (ln e - 1)) = 32 then 1 else 0) = _
    rw [if_neg (b32 _ t2)]
    omega
  rw [this]
def FrP (P : Nat) (X S : ha_St) : Prop := ha_gR S = ha_gR X ∧ ha_gB S = ha_gB X ∧ (∀ o k, ¬ (o = P ∧ k = 5) → ha_gI S o k = ha_gI X o k) ∧ ∀ a, ¬ (101 + 16 * P ≤ a ∧ a ≤ 103 + 16 * P) → ha_gA S a = ha_gA X a
theorem frP_r (P : Nat) (X : ha_St) : FrP P X X := ⟨rfl, rfl, fun _ _ _ => rfl, fun _ _ => rfl⟩
theorem frP_t {P : Nat} {X S T : ha_St} (h : FrP P X S) (g : FrP P S T) : FrP P X T := ⟨g.1.trans h.1, g.2.1.trans h.2.1, fun o k c => (g.2.2.1 o k c).trans (h.2.2.1 o k c), fun a c => (g.2.2.2 a c).trans (h.2.2.2 a c)⟩
theorem frP_A {P : Nat} {X S : ha_St} (h : FrP P X S) {a : Nat} (ha : 101 + 16 * P ≤ a ∧ a ≤ 103 + 16 * P) (f : Nat → Int32) : FrP P X (ha_sA S a f) := ⟨h.1, h.2.1, h.2.2.1, fun b hb => by rw [st_AA, if_neg (by omega)]; exact h.2.2.2 b hb⟩
theorem frP_I {P : Nat} {X S : ha_St} (h : FrP P X S) (v : Int32) : FrP P X (ha_sI S P 5 v) := ⟨h.1, h.2.1, fun o j c => by rw [st_II, if_neg (by omega)]; exact h.2.2.1 o j c, h.2.2.2⟩
theorem frP_IR {P : Nat} {X S : ha_St} (h : FrP P X S) (hIR : IR X) : IR S := IR_c (X := X) h.1 hIR
theorem bkX_c {P : Nat} {X S : ha_St} {E : Nat} {ln : Nat → Nat} (hP : P = 7 ∨ P = 8) (h : FrP P X S) (hB : BkX X E ln) : BkX S E ln := by
  have e1 : ha_gI S 6 3 = ha_gI X 6 3 := h.2.2.1 6 3 (by omega)
  have e2 : ha_gA S 197 = ha_gA X 197 := h.2.2.2 197 (by omega)
  have e3 : ha_gA S 196 = ha_gA X 196 := h.2.2.2 196 (by omega)
  have e4 : ha_gA S 198 = ha_gA X 198 := h.2.2.2 198 (by omega)
  unfold BkX
  rw [e1, e2, e3, e4]
  exact hB
theorem fitting_x {S : ha_St} (hIR : IR S) {E N p a L : Nat} {ln : Nat → Nat} (hB : BkX S E ln) (hL : xo_ln a = L) (hL2 : L ≤ 1000) (hN : N ≤ L) (hp : p < N) (hw : wsB (ha_gA S a) p = true) : Ok (f_X3_fittingAt 6 a (nI p) (nI N) S) (fun z => z = (nI (fmk (pfB (ha_gA S a) N (ha_gA S 196) ln) p E), S)) := by
  have hl : xo_ln 197 = 12 := by decide +kernel
  have hE := hB.2.1
  unfold f_X3_fittingAt f_X3_fittingAt_J69
  refine ok_bind (P := fun z => z = (nI (fmk (pfB (ha_gA S a) N (ha_gA S 196) ln) p E), S)) ?_ (fun z hz => by rw [hz]; exact ok_some rfl)
  refine ok_for (fun e (v : Int32) => (v, nI e, S)) 0 E (fun e v => v = nI (fmk (pfB (ha_gA S a) N (ha_gA S 196) ln) p e)) _ 0 rfl (by omega) (by omega) ?_ ?_
  · rintro f e v he rfl ih
    obtain ⟨b1, b2, b3, b4, b5⟩ := hB.2.2 e he
    show Ok (f_X3_fittingAt_L6 6 a (nI p) (nI N) f _ (nI e) S) _
    unfold f_X3_fittingAt_L6 f_X3_fittingAt_L6_J63 f_X3_fittingAt_L6_J54 f_X3_fittingAt_L6_J63
    simp only [pw_nm, nI_1]
    rw [hB.1]
    have hs : fmk (pfB (ha_gA S a) N (ha_gA S 196) ln) p (e + 1) = fmk (pfB (ha_gA S a) N (ha_gA S 196) ln) p e ||| if pfB (ha_gA S a) N (ha_gA S 196) ln e p = true then 1 <<< e else 0 := rfl
    have no : ¬ pfB (ha_gA S a) N (ha_gA S 196) ln e p = true → Ok (f (nI (fmk (pfB (ha_gA S a) N (ha_gA S 196) ln) p e), nI (e + 1), S)) (fun z => z = (nI (fmk (pfB (ha_gA S a) N (ha_gA S 196) ln) p E), S)) := by
      intro q
      refine ih _ ?_
      rw [hs, if_neg q, Nat.or_zero]
    have yes : pfB (ha_gA S a) N (ha_gA S 196) ln e p = true → Ok (f (nI (fmk (pfB (ha_gA S a) N (ha_gA S 196) ln) p e) ||| (1 : Int32) <<< (nI e &&& 31), nI (e + 1), S)) (fun z => z = (nI (fmk (pfB (ha_gA S a) N (ha_gA S 196) ln) p E), S)) := by
      intro q
      refine ih _ ?_
      rw [hs, if_pos q, show (1 : Int32) = nI 1 from rfl, n_shl 1 (by omega), n_or]
    refine ok_ie (nI_ge he (by omega)) (ok_b (xr hIR 6 1 100 197) (ok_gd (by rw [hl]; exact n_in (by omega) (by omega)) (ok_bind (isAt_x hIR (by omega) b1 b3 hL hL2 hN (by omega)) ?_)))
    rw [nI_clamp (show e < 2 ^ 31 by omega), b1, nI_add]
    rintro z (⟨rfl, h1, h2⟩ | ⟨rfl, h⟩)
    · refine ok_ie ne10 (ok_if (fun c => yes ?_) (fun c => ?_))
      · rw [nI_leI (by omega) (by omega)] at c
        unfold pfB
        rw [hw, Bool.true_and, decide_eq_true_eq]
        exact ⟨h1, h2, Or.inl c⟩
      · rw [nI_leI (by omega) (by omega)] at c
        rw [nI_clamp (show p + ln e < 2 ^ 31 by omega)]
        refine ok_gd (by rw [hL]; exact n_in2 (by omega) (by omega)) (ok_b (isLetter_b _) ?_)
        by_cases d : lB (ha_gA S a (p + ln e)) = true
        · rw [if_pos d]
          refine ok_it ne10 (no (fun q => ?_))
          unfold pfB at q
          rw [hw, Bool.true_and, decide_eq_true_eq] at q
          rcases q.2.2 with w | w
          · omega
          · exact w d
        · rw [if_neg d]
          refine ok_ie (fun h => h rfl) (yes ?_)
          unfold pfB
          rw [hw, Bool.true_and, decide_eq_true_eq]
          exact ⟨h1, h2, Or.inr d⟩
    · refine ok_it rfl (no (fun q => h ?_))
      unfold pfB at q
      rw [hw, Bool.true_and, decide_eq_true_eq] at q
      exact ⟨q.1, q.2.1⟩
  · rintro f v rfl
    show Ok (f_X3_fittingAt_L6 6 a (nI p) (nI N) f _ (nI E) S) _
    unfold f_X3_fittingAt_L6
    rw [hB.1]
    exact ok_it (nI_le (Nat.le_refl _) (by omega)) (ok_some rfl)
/-- a page is marked -/
def Mk (P : Nat) (S : ha_St) (E N i : Nat) (ln : Nat → Nat) : Prop := ha_gI S P 5 = nI (wc (ha_gA S (100 + 16 * P)) i) ∧ ∀ p, p < i → wsB (ha_gA S (100 + 16 * P)) p = true → ha_gA S (101 + 16 * P) (wc (ha_gA S (100 + 16 * P)) p) = nI p ∧ ha_gA S (102 + 16 * P) (wc (ha_gA S (100 + 16 * P)) p) = nI (fmk (pfB (ha_gA S (100 + 16 * P)) N (ha_gA S 196) ln) p E)
theorem mark_7 {X : ha_St} (hIR : IR X) {E N : Nat} {ln : Nat → Nat} (hB : BkX X E ln) (hN : ha_gI X 7 4 = nI N) (hN2 : N ≤ 61) (hcap : ∀ p, p < N → wsB (ha_gA X 212) p = true → wc (ha_gA X 212) p < 30) : Ok (f_X6_mark 7 6 X) (fun T => FrP 7 X T ∧ Mk 7 T E N N ln ∧ wc (ha_gA X 212) N ≤ 30) := by
  have hl : xo_ln 212 = 61 ∧ xo_ln 213 = 31 ∧ xo_ln 214 = 31 := by decide +kernel
  have hwN : ∀ n, n ≤ N → wc (ha_gA X 212) n ≤ 30 := by
    intro n
    induction n with
    | zero => intro _; exact Nat.zero_le _
    | succ n ih =>
      intro h
      have := ih (by omega)
      by_cases c : wsB (ha_gA X 212) n = true
      · have := hcap n (by omega) c
        rw [wc_s1 c]; omega
      · rw [wc_s0 c]; exact this
  unfold f_X6_mark f_X6_mark_J107
  simp only [pw_nm]
  refine ok_bind (P := fun T => FrP 7 X T ∧ Mk 7 T E N N ln) ?_ (fun T hT => ok_some ⟨hT.1, hT.2, hwN N (Nat.le_refl _)⟩)
  refine ok_for (fun i (T : ha_St) => (nI i, T)) 0 N (fun i T => FrP 7 X T ∧ Mk 7 T E N i ln) _ _ ⟨frP_I (frP_r 7 X) 0, rfl, fun p h => by omega⟩ (by omega) (by omega) ?_ ?_
  · rintro f i T hi ⟨hF, hM5, hM⟩ ih
    have hg : ha_gA T 212 = ha_gA X 212 := hF.2.2.2 212 (by omega)
    have hIR1 := frP_IR hF hIR
    have hB1 := bkX_c (Or.inl rfl) hF hB
    have hN1 : ha_gI T 7 4 = nI N := by rw [hF.2.2.1 7 4 (by omega)]; exact hN
    have hM5 : ha_gI T 7 5 = nI (wc (ha_gA T 212) i) := hM5
    have hM : ∀ p, p < i → wsB (ha_gA T 212) p = true → ha_gA T 213 (wc (ha_gA T 212) p) = nI p ∧ ha_gA T 214 (wc (ha_gA T 212) p) = nI (fmk (pfB (ha_gA T 212) N (ha_gA T 196) ln) p E) := hM
    have wi := hwN i (by omega)
    rw [← hg] at wi
    show Ok (f_X6_mark_L7 7 6 f (nI i) T) _
    unfold f_X6_mark_L7 f_X6_mark_L7_J59 f_X6_mark_L7_J101
    simp only [pw_nm, nI_1]
    rw [hN1, hM5]
    refine ok_ie (nI_ge hi (by omega)) (ok_b (xr hIR1 7 1 100 213) ?_)
    rw [hl.2.1, n_sub1 (by omega), nI_clamp (show i < 2 ^ 31 by omega), nI_clamp (show wc (ha_gA T 212) i < 2 ^ 31 by omega)]
    have stay : ¬ wsB (ha_gA T 212) i = true → Ok (f (nI (i + 1), T)) (fun T => FrP 7 X T ∧ Mk 7 T E N N ln) := by
      intro q
      refine ih T ⟨hF, ?_, fun p hp hw => ?_⟩
      · show ha_gI T 7 5 = nI (wc (ha_gA T 212) (i + 1))
        rw [wc_s0 q]; exact hM5
      · by_cases e : p = i
        · subst e; exact absurd hw q
        · exact hM p (by omega) hw
    refine ok_if (fun c => ?_) (fun c => ?_)
    · rw [nI_leI (by omega) (by omega)] at c
      have full : ∀ p, i ≤ p → p < N → ¬ wsB (ha_gA T 212) p = true := by
        intro p h1 h2 q
        have a := hcap p h2 (by rw [← hg]; exact q)
        have b := wc_mon (g := ha_gA X 212) h1
        rw [← hg] at a b
        omega
      have ends : ∀ k, i + k ≤ N → wc (ha_gA T 212) (i + k) = wc (ha_gA T 212) i := by
        intro k
        induction k with
        | zero => intro _; rfl
        | succ k ihk =>
          intro h
          rw [show i + (k + 1) = i + k + 1 by omega, wc_s0 (full (i + k) (by omega) (by omega)), ihk (by omega)]
      refine ok_some ⟨hF, ?_, fun p hp hw => ?_⟩
      · show ha_gI T 7 5 = nI (wc (ha_gA T 212) N)
        rw [hM5, ← ends (N - i) (by omega), show i + (N - i) = N by omega]
      · by_cases e : p < i
        · exact hM p e hw
        · exact absurd hw (full p (by omega) hp)
    · rw [nI_leI (by omega) (by omega)] at c
      refine ok_b (xr hIR1 7 0 100 212) (ok_gd (by rw [hl.1]; exact n_in2 (by omega) (by omega)) (ok_b (isLetter_b _) ?_))
      by_cases lt : lB (ha_gA T 212 i) = true
      · rw [if_pos lt]
        refine ok_ie ne10 ?_
        have go : wsB (ha_gA T 212) i = true → Ok ((ha_rf xo_kd T 7 1 100).bind fun r3 => ha_gd (¬(nI (wc (ha_gA T 212) i) < 0 ∨ xo_ln r3 ≤ wc (ha_gA T 212) i)) ((ha_rf xo_kd (ha_sA T r3 (upd (ha_gA T r3) (wc (ha_gA T 212) i) (nI i))) 7 2 100).bind fun r6 => (ha_rf xo_kd (ha_sA T r3 (upd (ha_gA T r3) (wc (ha_gA T 212) i) (nI i))) 7 0 100).bind fun r7 => (f_X3_fittingAt 6 r7 (nI i) (ha_gI (ha_sA T r3 (upd (ha_gA T r3) (wc (ha_gA T 212) i) (nI i))) 7 4) (ha_sA T r3 (upd (ha_gA T r3) (wc (ha_gA T 212) i) (nI i)))).bind fun z8 => ha_gd (¬(ha_gI (ha_sA T r3 (upd (ha_gA T r3) (wc (ha_gA T 212) i) (nI i))) 7 5 < 0 ∨ xo_ln r6 ≤ (ha_gI (ha_sA T r3 (upd (ha_gA T r3) (wc (ha_gA T 212) i) (nI i))) 7 5).toNatClampNeg)) (f (nI (i + 1), ha_sI (ha_sA z8.2 r6 (upd (ha_gA z8.2 r6) (ha_gI (ha_sA T r3 (upd (ha_gA T r3) (wc (ha_gA T 212) i) (nI i))) 7 5).toNatClampNeg z8.1)) 7 5 (ha_gI (ha_sA z8.2 r6 (upd (ha_gA z8.2 r6) (ha_gI (ha_sA T r3 (upd (ha_gA T r3) (wc (ha_gA T 212) i) (nI i))) 7 5).toNatClampNeg z8.1)) 7 5 + 1))))) (fun T => FrP 7 X T ∧ Mk 7 T E N N ln) := by
          intro q
          refine ok_b (xr hIR1 7 1 100 213) (ok_gd (by rw [hl.2.1]; exact n_in2 (by omega) (by omega)) ?_)
          simp only [st_fA, st_IA, hN1, hM5]
          rw [nI_clamp (show wc (ha_gA T 212) i < 2 ^ 31 by omega)]
          refine ok_b (xr hIR1 7 2 100 214) (ok_b (xr hIR1 7 0 100 212) ?_)
          have hF2 : FrP 7 X (ha_sA T 213 (upd (ha_gA T 213) (wc (ha_gA T 212) i) (nI i))) := frP_A hF (by omega) _
          have ft := fitting_x (S := ha_sA T 213 (upd (ha_gA T 213) (wc (ha_gA T 212) i) (nI i))) (frP_IR hF2 hIR) (E := E) (N := N) (p := i) (a := 212) (ln := ln) (bkX_c (Or.inl rfl) hF2 hB) hl.1 (by omega) hN2 hi q
          rw [ok_eq ft]
          refine ok_b rfl (ok_gd (by rw [hl.2.2]; exact n_in2 (by omega) (by omega)) ?_)
          simp only [st_IA, hM5, nI_1]
          refine ih _ ⟨frP_I (frP_A hF2 (by omega) _) _, ?_, fun p hp hw => ?_⟩
          · show nI (wc (ha_gA T 212) i + 1) = nI (wc (ha_gA T 212) (i + 1))
            rw [wc_s1 q]
          · have hw : wsB (ha_gA T 212) p = true := hw
            show upd (ha_gA T 213) (wc (ha_gA T 212) i) (nI i) (wc (ha_gA T 212) p) = nI p ∧ upd (ha_gA T 214) (wc (ha_gA T 212) i) (nI (fmk (pfB (ha_gA T 212) N (ha_gA T 196) ln) i E)) (wc (ha_gA T 212) p) = nI (fmk (pfB (ha_gA T 212) N (ha_gA T 196) ln) p E)
            by_cases e : p = i
            · subst e
              rw [pk_us, pk_us]
              exact ⟨rfl, rfl⟩
            · have := wc_st hw (show p < i by omega)
              rw [pk_un (by omega), pk_un (by omega)]
              exact hM p (by omega) hw
        refine ok_if (fun d => go ?_) (fun d => ?_)
        · rw [← nI_0, nI_eq (by omega) (by omega)] at d
          subst d
          unfold wsB
          rw [lt]; rfl
        · have i1 : 1 ≤ i := by
            rcases Nat.eq_zero_or_pos i with z | z
            · subst z; exact absurd rfl d
            · exact z
          rw [n_sub1 i1, nI_clamp (show i - 1 < 2 ^ 31 by omega)]
          refine ok_b (xr hIR1 7 0 100 212) (ok_gd (by rw [hl.1]; exact n_in2 (by omega) (by omega)) (ok_b (isLetter_b _) ?_))
          by_cases lp : lB (ha_gA T 212 (i - 1)) = true
          · rw [if_pos lp]
            refine ok_it ne10 (stay ?_)
            unfold wsB
            rw [lp, decide_eq_false (by omega)]
            simp
          · rw [if_neg lp]
            refine ok_ie (fun h => h rfl) (go ?_)
            unfold wsB
            rw [lt, Bool.eq_false_iff.mpr lp]
            simp
      · rw [if_neg lt]
        refine ok_it rfl (stay ?_)
        unfold wsB
        rw [Bool.eq_false_iff.mpr lt]
        simp
  · rintro f T ⟨hF, hM⟩
    have hN1 : ha_gI T 7 4 = nI N := by rw [hF.2.2.1 7 4 (by omega)]; exact hN
    show Ok (f_X6_mark_L7 7 6 f (nI N) T) _
    unfold f_X6_mark_L7
    rw [hN1]
    exact ok_it (nI_le (Nat.le_refl _) (by omega)) (ok_some ⟨hF, hM⟩)
theorem mark_8 {X : ha_St} (hIR : IR X) {E N : Nat} {ln : Nat → Nat} (hB : BkX X E ln) (hN : ha_gI X 8 4 = nI N) (hN2 : N ≤ 488) (hcap : ∀ p, p < N → wsB (ha_gA X 228) p = true → wc (ha_gA X 228) p < 240) : Ok (f_X6_mark 8 6 X) (fun T => FrP 8 X T ∧ Mk 8 T E N N ln ∧ wc (ha_gA X 228) N ≤ 240) := by
  have hl : xo_ln 228 = 488 ∧ xo_ln 229 = 241 ∧ xo_ln 230 = 241 := by decide +kernel
  have hwN : ∀ n, n ≤ N → wc (ha_gA X 228) n ≤ 240 := by
    intro n
    induction n with
    | zero => intro _; exact Nat.zero_le _
    | succ n ih =>
      intro h
      have := ih (by omega)
      by_cases c : wsB (ha_gA X 228) n = true
      · have := hcap n (by omega) c
        rw [wc_s1 c]; omega
      · rw [wc_s0 c]; exact this
  unfold f_X6_mark f_X6_mark_J107
  simp only [pw_nm]
  refine ok_bind (P := fun T => FrP 8 X T ∧ Mk 8 T E N N ln) ?_ (fun T hT => ok_some ⟨hT.1, hT.2, hwN N (Nat.le_refl _)⟩)
  refine ok_for (fun i (T : ha_St) => (nI i, T)) 0 N (fun i T => FrP 8 X T ∧ Mk 8 T E N i ln) _ _ ⟨frP_I (frP_r 8 X) 0, rfl, fun p h => by omega⟩ (by omega) (by omega) ?_ ?_
  · rintro f i T hi ⟨hF, hM5, hM⟩ ih
    have hg : ha_gA T 228 = ha_gA X 228 := hF.2.2.2 228 (by omega)
    have hIR1 := frP_IR hF hIR
    have hB1 := bkX_c (Or.inr rfl) hF hB
    have hN1 : ha_gI T 8 4 = nI N := by rw [hF.2.2.1 8 4 (by omega)]; exact hN
    have hM5 : ha_gI T 8 5 = nI (wc (ha_gA T 228) i) := hM5
    have hM : ∀ p, p < i → wsB (ha_gA T 228) p = true → ha_gA T 229 (wc (ha_gA T 228) p) = nI p ∧ ha_gA T 230 (wc (ha_gA T 228) p) = nI (fmk (pfB (ha_gA T 228) N (ha_gA T 196) ln) p E) := hM
    have wi := hwN i (by omega)
    rw [← hg] at wi
    show Ok (f_X6_mark_L7 8 6 f (nI i) T) _
    unfold f_X6_mark_L7 f_X6_mark_L7_J59 f_X6_mark_L7_J101
    simp only [pw_nm, nI_1]
    rw [hN1, hM5]
    refine ok_ie (nI_ge hi (by omega)) (ok_b (xr hIR1 8 1 100 229) ?_)
    rw [hl.2.1, n_sub1 (by omega), nI_clamp (show i < 2 ^ 31 by omega), nI_clamp (show wc (ha_gA T 228) i < 2 ^ 31 by omega)]
    have stay : ¬ wsB (ha_gA T 228) i = true → Ok (f (nI (i + 1), T)) (fun T => FrP 8 X T ∧ Mk 8 T E N N ln) := by
      intro q
      refine ih T ⟨hF, ?_, fun p hp hw => ?_⟩
      · show ha_gI T 8 5 = nI (wc (ha_gA T 228) (i + 1))
        rw [wc_s0 q]; exact hM5
      · by_cases e : p = i
        · subst e; exact absurd hw q
        · exact hM p (by omega) hw
    refine ok_if (fun c => ?_) (fun c => ?_)
    · rw [nI_leI (by omega) (by omega)] at c
      have full : ∀ p, i ≤ p → p < N → ¬ wsB (ha_gA T 228) p = true := by
        intro p h1 h2 q
        have a := hcap p h2 (by rw [← hg]; exact q)
        have b := wc_mon (g := ha_gA X 228) h1
        rw [← hg] at a b
        omega
      have ends : ∀ k, i + k ≤ N → wc (ha_gA T 228) (i + k) = wc (ha_gA T 228) i := by
        intro k
        induction k with
        | zero => intro _; rfl
        | succ k ihk =>
          intro h
          rw [show i + (k + 1) = i + k + 1 by omega, wc_s0 (full (i + k) (by omega) (by omega)), ihk (by omega)]
      refine ok_some ⟨hF, ?_, fun p hp hw => ?_⟩
      · show ha_gI T 8 5 = nI (wc (ha_gA T 228) N)
        rw [hM5, ← ends (N - i) (by omega), show i + (N - i) = N by omega]
      · by_cases e : p < i
        · exact hM p e hw
        · exact absurd hw (full p (by omega) hp)
    · rw [nI_leI (by omega) (by omega)] at c
      refine ok_b (xr hIR1 8 0 100 228) (ok_gd (by rw [hl.1]; exact n_in2 (by omega) (by omega)) (ok_b (isLetter_b _) ?_))
      by_cases lt : lB (ha_gA T 228 i) = true
      · rw [if_pos lt]
        refine ok_ie ne10 ?_
        have go : wsB (ha_gA T 228) i = true → Ok ((ha_rf xo_kd T 8 1 100).bind fun r3 => ha_gd (¬(nI (wc (ha_gA T 228) i) < 0 ∨ xo_ln r3 ≤ wc (ha_gA T 228) i)) ((ha_rf xo_kd (ha_sA T r3 (upd (ha_gA T r3) (wc (ha_gA T 228) i) (nI i))) 8 2 100).bind fun r6 => (ha_rf xo_kd (ha_sA T r3 (upd (ha_gA T r3) (wc (ha_gA T 228) i) (nI i))) 8 0 100).bind fun r7 => (f_X3_fittingAt 6 r7 (nI i) (ha_gI (ha_sA T r3 (upd (ha_gA T r3) (wc (ha_gA T 228) i) (nI i))) 8 4) (ha_sA T r3 (upd (ha_gA T r3) (wc (ha_gA T 228) i) (nI i)))).bind fun z8 => ha_gd (¬(ha_gI (ha_sA T r3 (upd (ha_gA T r3) (wc (ha_gA T 228) i) (nI i))) 8 5 < 0 ∨ xo_ln r6 ≤ (ha_gI (ha_sA T r3 (upd (ha_gA T r3) (wc (ha_gA T 228) i) (nI i))) 8 5).toNatClampNeg)) (f (nI (i + 1), ha_sI (ha_sA z8.2 r6 (upd (ha_gA z8.2 r6) (ha_gI (ha_sA T r3 (upd (ha_gA T r3) (wc (ha_gA T 228) i) (nI i))) 8 5).toNatClampNeg z8.1)) 8 5 (ha_gI (ha_sA z8.2 r6 (upd (ha_gA z8.2 r6) (ha_gI (ha_sA T r3 (upd (ha_gA T r3) (wc (ha_gA T 228) i) (nI i))) 8 5).toNatClampNeg z8.1)) 8 5 + 1))))) (fun T => FrP 8 X T ∧ Mk 8 T E N N ln) := by
          intro q
          refine ok_b (xr hIR1 8 1 100 229) (ok_gd (by rw [hl.2.1]; exact n_in2 (by omega) (by omega)) ?_)
          simp only [st_fA, st_IA, hN1, hM5]
          rw [nI_clamp (show wc (ha_gA T 228) i < 2 ^ 31 by omega)]
          refine ok_b (xr hIR1 8 2 100 230) (ok_b (xr hIR1 8 0 100 228) ?_)
          have hF2 : FrP 8 X (ha_sA T 229 (upd (ha_gA T 229) (wc (ha_gA T 228) i) (nI i))) := frP_A hF (by omega) _
          have ft := fitting_x (S := ha_sA T 229 (upd (ha_gA T 229) (wc (ha_gA T 228) i) (nI i))) (frP_IR hF2 hIR) (E := E) (N := N) (p := i) (a := 228) (ln := ln) (bkX_c (Or.inr rfl) hF2 hB) hl.1 (by omega) hN2 hi q
          rw [ok_eq ft]
          refine ok_b rfl (ok_gd (by rw [hl.2.2]; exact n_in2 (by omega) (by omega)) ?_)
          simp only [st_IA, hM5, nI_1]
          refine ih _ ⟨frP_I (frP_A hF2 (by omega) _) _, ?_, fun p hp hw => ?_⟩
          · show nI (wc (ha_gA T 228) i + 1) = nI (wc (ha_gA T 228) (i + 1))
            rw [wc_s1 q]
          · have hw : wsB (ha_gA T 228) p = true := hw
            show upd (ha_gA T 229) (wc (ha_gA T 228) i) (nI i) (wc (ha_gA T 228) p) = nI p ∧ upd (ha_gA T 230) (wc (ha_gA T 228) i) (nI (fmk (pfB (ha_gA T 228) N (ha_gA T 196) ln) i E)) (wc (ha_gA T 228) p) = nI (fmk (pfB (ha_gA T 228) N (ha_gA T 196) ln) p E)
            by_cases e : p = i
            · subst e
              rw [pk_us, pk_us]
              exact ⟨rfl, rfl⟩
            · have := wc_st hw (show p < i by omega)
              rw [pk_un (by omega), pk_un (by omega)]
              exact hM p (by omega) hw
        refine ok_if (fun d => go ?_) (fun d => ?_)
        · rw [← nI_0, nI_eq (by omega) (by omega)] at d
          subst d
          unfold wsB
          rw [lt]; rfl
        · have i1 : 1 ≤ i := by
            rcases Nat.eq_zero_or_pos i with z | z
            · subst z; exact absurd rfl d
            · exact z
          rw [n_sub1 i1, nI_clamp (show i - 1 < 2 ^ 31 by omega)]
          refine ok_b (xr hIR1 8 0 100 228) (ok_gd (by rw [hl.1]; exact n_in2 (by omega) (by omega)) (ok_b (isLetter_b _) ?_))
          by_cases lp : lB (ha_gA T 228 (i - 1)) = true
          · rw [if_pos lp]
            refine ok_it ne10 (stay ?_)
            unfold wsB
            rw [lp, decide_eq_false (by omega)]
            simp
          · rw [if_neg lp]
            refine ok_ie (fun h => h rfl) (go ?_)
            unfold wsB
            rw [lt, Bool.eq_false_iff.mpr lp]
            simp
      · rw [if_neg lt]
        refine ok_it rfl (stay ?_)
        unfold wsB
        rw [Bool.eq_false_iff.mpr lt]
        simp
  · rintro f T ⟨hF, hM⟩
    have hN1 : ha_gI T 8 4 = nI N := by rw [hF.2.2.1 8 4 (by omega)]; exact hN
    show Ok (f_X6_mark_L7 8 6 f (nI N) T) _
    unfold f_X6_mark_L7
    rw [hN1]
    exact ok_it (nI_le (Nat.le_refl _) (by omega)) (ok_some ⟨hF, hM⟩)
