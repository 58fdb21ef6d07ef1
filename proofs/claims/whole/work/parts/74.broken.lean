/-! BROKEN: the model's tries and loops, the pair -/
theorem n_mod {a d : Nat} (ha : a < 2 ^ 31) (hd : d < 2 ^ 31) (h0 : 0 < d) : nI a - nI a / nI d * nI d = nI (a % d) := by
  rw [n_div ha hd h0, nI_mul, n_sub (Nat.div_mul_le_self a d), Nat.mod_def, Nat.mul_comm]
def FM (N : ha_St) (n c a b : Nat) : Prop := ha_gI N 0 62 = nI c ∧ (1 ≤ c → ha_gA N 61 0 = nI (tk n a) ∧ ha_gA N 62 0 = nI (gp n a)) ∧ (2 ≤ c → ha_gA N 61 1 = nI (tk n b) ∧ ha_gA N 62 1 = nI (gp n b))
def TR (M M0 : ha_St) (m n T : Nat) (fg : Nat → Nat → Bool) (c a b : Nat) (z : Int32 × ha_St) : Prop := FB M z.2 ∧ ((z.1 = 0 ∧ out m (rn M0 m n fg T) = 0 ∧ KB M z.2) ∨ (z.1 = 1 ∧ ¬ out m (rn M0 m n fg T) = 0 ∧ FM z.2 n c a b))
/-- the fogs more, set -/
def SET (M : ha_St) (x y z : Int32) : ha_St := ha_sI (ha_sI (ha_sI M 0 41 x) 0 42 y) 0 43 z
theorem set_b (M : ha_St) (x y z : Int32) : FB M (SET M x y z) := ⟨rfl, fun k a b c => by unfold SET; rw [st_II, if_neg (by omega), st_II, if_neg (by omega), st_II, if_neg (by omega)], fun _ _ _ _ _ => rfl⟩
theorem set_mf (M : ha_St) (x y z w : Int32) (t g : Nat) : MF (ha_sI (SET M x y z) 0 44 w) t g ↔ (x = nI t ∧ y = nI g) ∨ (z = nI t ∧ w = nI g) ∨ fogQ M g t := by
  unfold MF
  have h1 : fogQ (ha_sI (SET M x y z) 0 44 w) g t ↔ fogQ M g t := Iff.rfl
  rw [h1]
  exact Iff.rfl
theorem try_s {M M0 : ha_St} {m n T c a b : Nat} {fg : Nat → Nat → Bool} {p1 p2 x y z w : Int32} (hC : CM M M0 m n) (hT : T ≤ 60) (hfg : ∀ tick, 1 ≤ tick → tick ≤ 500 → ∀ g, g < 15 → (fg tick g = true ↔ (x = nI tick ∧ y = nI g) ∨ (z = nI tick ∧ w = nI g) ∨ fogQ M g tick)) (hc : (if (0 : Int32) ≤ p1 then (if (0 : Int32) ≤ p2 then 2 else 1) else 0) = nI c) (h1 : 1 ≤ c → x = nI (tk n a) ∧ y = nI (gp n a)) (h2 : 2 ≤ c → z = nI (tk n b) ∧ w = nI (gp n b)) : Ok (f_X12_breaks_J81 0 p1 p2 (nI T) 0 w (SET M x y z)) (TR M M0 m n T fg c a b) := by
  refine ok_mono (try_m (fg := fg) (CM_b (set_b M x y z) hC) hT (fun tick t1 t2 g hg => by rw [set_mf]; exact hfg tick t1 t2 g hg)) ?_
  rintro ⟨zz, Z⟩ ⟨q1, q2⟩
  dsimp only at q1 q2
  refine ⟨FB_t (set_b M x y z) q1, ?_⟩
  rcases q2 with ⟨q2, q3, q4⟩ | ⟨q2, q3, q4, q5, q6, q7, q8⟩
  · exact Or.inl ⟨q2, q3, KB_t ⟨rfl, rfl, rfl⟩ q4⟩
  · refine Or.inr ⟨q2, q3, by rw [q4]; exact hc, fun h => ?_, fun h => ?_⟩
    · obtain ⟨e1, e2⟩ := h1 h
      exact ⟨by rw [q5, ← e1]; rfl, by rw [q6, ← e2]; rfl⟩
    · obtain ⟨e1, e2⟩ := h2 h
      exact ⟨by rw [q7, ← e1]; rfl, by rw [q8, ← e2]⟩
section TRS
variable {M M0 : ha_St} {m n T : Nat} {f0 : Nat → Nat → Bool}
theorem try0 (hC : CM M M0 m n) (hT : T ≤ 60) (hf : ∀ tick, 1 ≤ tick → tick ≤ 500 → ∀ g, g < 15 → (f0 tick g = true ↔ fogQ M g tick)) : Ok (f_X12_breaks 0 (-1) (-1) (nI T) M) (TR M M0 m n T f0 0 0 0) := by
  have z0 : ∀ t : Nat, 1 ≤ t → t ≤ 500 → ¬ (0 : Int32) = nI t := fun t h1 h2 h => nI_ne0 (by omega) (by omega) h.symm
  unfold f_X12_breaks f_X12_breaks_J19 f_X12_breaks_J39 f_X12_breaks_J61
  refine ok_ie (by decide) (ok_nm (ok_ie (by decide) (ok_nm (ok_ie (by decide) (ok_nm (ok_ie (by decide) ?_))))))
  refine try_s (x := 0) (y := 0) (z := 0) hC hT (fun tick t1 t2 g hg => ?_) rfl (fun h => by omega) (fun h => by omega)
  rw [hf tick t1 t2 g hg]
  constructor
  · exact fun h => Or.inr (Or.inr h)
  · rintro (h | h | h)
    · exact absurd h.1 (z0 tick t1 t2)
    · exact absurd h.1 (z0 tick t1 t2)
    · exact h
theorem nIeq {a b : Nat} (ha : a ≤ 600) (hb : b ≤ 600) : nI a = nI b ↔ b = a := by
  rw [nI_eq (by omega) (by omega)]
  exact eq_comm
theorem try1 {a : Nat} (hC : CM M M0 m n) (hT : T ≤ 60) (hn : n ≤ 8) (ha : a < 70) (hf : ∀ tick, 1 ≤ tick → tick ≤ 500 → ∀ g, g < 15 → (f0 tick g = true ↔ fogQ M g tick)) : Ok (f_X12_breaks 0 (nI a) (-1) (nI T) M) (TR M M0 m n T (ad f0 n a) 1 a 0) := by
  have z0 : ∀ t : Nat, 1 ≤ t → t ≤ 500 → ¬ (0 : Int32) = nI t := fun t h1 h2 h => nI_ne0 (by omega) (by omega) h.symm
  have h3 : 3 ≤ n := hC.2.2.2.2.2.2.1
  have h4 : ha_gI M 0 4 = nI n := hC.2.2.2.1
  have hd : a / (n - 1) ≤ a := Nat.div_le_self _ _
  have e1 : (1 : Int32) + nI a / nI (n - 1) = nI (tk n a) := by rw [n_div (by omega) (by omega) (by omega)]; exact nI_add 1 _
  have e2 : nI a - nI a / nI (n - 1) * nI (n - 1) = nI (gp n a) := n_mod (by omega) (by omega) (by omega)
  unfold f_X12_breaks f_X12_breaks_J19 f_X12_breaks_J39 f_X12_breaks_J61
  refine ok_it (show nI 0 ≤ nI a from nI_le (by omega) (by omega)) ?_
  rw [h4, n_sub1 (by omega), e1]
  refine ok_gd (nI_ne0 (by omega) (by omega)) (ok_nm (ok_it (show nI 0 ≤ nI a from nI_le (by omega) (by omega)) ?_))
  rw [show ha_gI (ha_sI M 0 41 (nI (tk n a))) 0 4 = nI n from h4, n_sub1 (by omega), e2]
  refine ok_gd (nI_ne0 (by omega) (by omega)) (ok_nm (ok_ie (by decide) (ok_nm (ok_ie (by decide) ?_))))
  refine try_s (x := nI (tk n a)) (y := nI (gp n a)) (z := 0) hC hT (fun tick t1 t2 g hg => ?_) ?_ (fun h => ⟨rfl, rfl⟩) (fun h => by omega)
  · have hg2 := gp_lt (a := a) h3
    have ht2 : tk n a ≤ 71 := by unfold tk; omega
    unfold ad
    rw [Bool.or_eq_true, hf tick t1 t2 g hg, decide_eq_true_eq, nIeq (by omega) (by omega), nIeq (by omega) (by omega)]
    constructor
    · rintro (h | h)
      · exact Or.inr (Or.inr h)
      · exact Or.inl h
    · rintro (h | h | h)
      · exact Or.inr h
      · exact absurd h.1 (z0 tick t1 t2)
      · exact Or.inl h
  · rw [if_pos (show (0 : Int32) ≤ nI a from nI_le (a := 0) (by omega) (by omega)), if_neg (by decide)]; rfl
theorem try2 {a b : Nat} (hC : CM M M0 m n) (hT : T ≤ 60) (hn : n ≤ 8) (ha : a < 70) (hb : b < 70) (hf : ∀ tick, 1 ≤ tick → tick ≤ 500 → ∀ g, g < 15 → (f0 tick g = true ↔ fogQ M g tick)) : Ok (f_X12_breaks 0 (nI a) (nI b) (nI T) M) (TR M M0 m n T (ad (ad f0 n a) n b) 2 a b) := by
  have h3 : 3 ≤ n := hC.2.2.2.2.2.2.1
  have h4 : ha_gI M 0 4 = nI n := hC.2.2.2.1
  have hd : a / (n - 1) ≤ a := Nat.div_le_self _ _
  have hd2 : b / (n - 1) ≤ b := Nat.div_le_self _ _
  have e1 : ∀ a, a < 70 → (1 : Int32) + nI a / nI (n - 1) = nI (tk n a) := fun a ha => by rw [n_div (by omega) (by omega) (by omega)]; exact nI_add 1 _
  have e2 : ∀ a, a < 70 → nI a - nI a / nI (n - 1) * nI (n - 1) = nI (gp n a) := fun a ha => n_mod (by omega) (by omega) (by omega)
  unfold f_X12_breaks f_X12_breaks_J19 f_X12_breaks_J39 f_X12_breaks_J61
  refine ok_it (show nI 0 ≤ nI a from nI_le (by omega) (by omega)) ?_
  rw [h4, n_sub1 (by omega), e1 a ha]
  refine ok_gd (nI_ne0 (by omega) (by omega)) (ok_nm (ok_it (show nI 0 ≤ nI a from nI_le (by omega) (by omega)) ?_))
  rw [show ha_gI (ha_sI M 0 41 (nI (tk n a))) 0 4 = nI n from h4, n_sub1 (by omega), e2 a ha]
  refine ok_gd (nI_ne0 (by omega) (by omega)) (ok_nm (ok_it (show nI 0 ≤ nI b from nI_le (by omega) (by omega)) ?_))
  rw [show ha_gI (ha_sI (ha_sI M 0 41 (nI (tk n a))) 0 42 (nI (gp n a))) 0 4 = nI n from h4, n_sub1 (by omega), e1 b hb]
  refine ok_gd (nI_ne0 (by omega) (by omega)) (ok_nm (ok_it (show nI 0 ≤ nI b from nI_le (by omega) (by omega)) ?_))
  rw [show ha_gI (ha_sI (ha_sI (ha_sI M 0 41 (nI (tk n a))) 0 42 (nI (gp n a))) 0 43 (nI (tk n b))) 0 4 = nI n from h4, n_sub1 (by omega), e2 b hb]
  refine ok_gd (nI_ne0 (by omega) (by omega)) ?_
  refine try_s (x := nI (tk n a)) (y := nI (gp n a)) (z := nI (tk n b)) hC hT (fun tick t1 t2 g hg => ?_) ?_ (fun h => ⟨rfl, rfl⟩) (fun h => ⟨rfl, rfl⟩)
  · have hg2 := gp_lt (a := a) h3
    have hg3 := gp_lt (a := b) h3
    have ht2 : tk n a ≤ 71 := by unfold tk; omega
    have ht3 : tk n b ≤ 71 := by unfold tk; omega
    unfold ad
    rw [Bool.or_eq_true, Bool.or_eq_true, hf tick t1 t2 g hg, decide_eq_true_eq, decide_eq_true_eq, nIeq (by omega) (by omega), nIeq (by omega) (by omega), nIeq (by omega) (by omega), nIeq (by omega) (by omega)]
    constructor
    · rintro ((h | h) | h)
      · exact Or.inr (Or.inr h)
      · exact Or.inl h
      · exact Or.inr (Or.inl h)
    · rintro (h | h | h)
      · exact Or.inl (Or.inr h)
      · exact Or.inr h
      · exact Or.inl (Or.inl h)
  · rw [if_pos (show (0 : Int32) ≤ nI a from nI_le (a := 0) (by omega) (by omega)), if_pos (show (0 : Int32) ≤ nI b from nI_le (a := 0) (by omega) (by omega))]; rfl
/-- the loop over single fogs: up to the first that does, or through -/
theorem blp1 {p2 : Int32} {N e : Nat} (hC : CM M M0 m n) (hT : T ≤ 60) (hn : n ≤ 8) (hN : N ≤ 70) (he : e ≤ N) (hf : ∀ tick, 1 ≤ tick → tick ≤ 500 → ∀ g, g < 15 → (f0 tick g = true ↔ fogQ M g tick)) (hw : ∀ a, a < e → out m (rn M0 m n (ad f0 n a) T) = 0) (hh : e < N → ¬ out m (rn M0 m n (ad f0 n e) T) = 0) : Ok (f_X12_broken_L61i 0 (nI T) p2 ha_fu (nI N, 0, M)) (fun z => ∃ Y, FB M Y ∧ ((e = N ∧ z = .inl (nI N, Y) ∧ KB M Y) ∨ (e < N ∧ z = .inr (1, Y) ∧ FM Y n 1 e 0))) := by
  refine ok_for (fun i (Y : ha_St) => (nI N, nI i, Y)) 0 e (fun i Y => FB M Y ∧ KB M Y) _ M ⟨FB_r M, rfl, rfl, rfl⟩ (by omega) (by omega) ?_ ?_
  · rintro f i Y hi ⟨y1, y2⟩ ih
    show Ok (f_X12_broken_L61 0 (nI T) p2 f (nI N) (nI i) Y) _
    unfold f_X12_broken_L61
    refine ok_ie (nI_ge (by omega) (by omega)) (ok_bind (try1 (a := i) (f0 := f0) (CM_b y1 hC) hT hn (by omega) (fun t t1 t2 g hg => by rw [fogQ_b y1]; exact hf t t1 t2 g hg)) ?_)
    rintro ⟨zz, Z⟩ ⟨q1, q2⟩
    dsimp only at q1 q2 ⊢
    rcases q2 with ⟨q2, q3, q4⟩ | ⟨q2, q3, q4⟩
    · rw [q2]
      refine ok_it rfl ?_
      rw [pw_nm, nI_1]
      exact ih Z ⟨FB_t y1 q1, KB_t y2 q4⟩
    · exact absurd (hw i hi) q3
  · rintro f Y ⟨y1, y2⟩
    show Ok (f_X12_broken_L61 0 (nI T) p2 f (nI N) (nI e) Y) _
    unfold f_X12_broken_L61
    by_cases c : e < N
    · refine ok_ie (nI_ge c (by omega)) (ok_bind (try1 (a := e) (f0 := f0) (CM_b y1 hC) hT hn (by omega) (fun t t1 t2 g hg => by rw [fogQ_b y1]; exact hf t t1 t2 g hg)) ?_)
      rintro ⟨zz, Z⟩ ⟨q1, q2⟩
      dsimp only at q1 q2 ⊢
      rcases q2 with ⟨q2, q3, q4⟩ | ⟨q2, q3, q4⟩
      · exact absurd q3 (hh c)
      · rw [q2]
        exact ok_ie (by decide) (ok_some ⟨Z, FB_t y1 q1, Or.inr ⟨c, rfl, q4⟩⟩)
    · exact ok_it (nI_le (by omega) (by omega)) (ok_some ⟨Y, y1, Or.inl ⟨by omega, rfl, y2⟩⟩)
/-- the inner loop of two -/
theorem blp2 {p2 : Int32} {N a e : Nat} (hC : CM M M0 m n) (hT : T ≤ 60) (hn : n ≤ 8) (hN : N ≤ 70) (ha : a < N) (hae : a < e) (he : e ≤ N) (hf : ∀ tick, 1 ≤ tick → tick ≤ 500 → ∀ g, g < 15 → (f0 tick g = true ↔ fogQ M g tick)) (hw : ∀ b, a < b → b < e → out m (rn M0 m n (ad (ad f0 n a) n b) T) = 0) (hh : e < N → ¬ out m (rn M0 m n (ad (ad f0 n a) n e) T) = 0) : Ok (f_X12_broken_L101i 0 (nI T) p2 ha_fu (nI N, nI a, nI (a + 1), M)) (fun z => ∃ Y, FB M Y ∧ ((e = N ∧ z = .inl (nI N, nI a, Y) ∧ KB M Y) ∨ (e < N ∧ z = .inr (2, Y) ∧ FM Y n 2 a e))) := by
  refine ok_for (fun i (Y : ha_St) => (nI N, nI a, nI i, Y)) (a + 1) e (fun i Y => a < i ∧ FB M Y ∧ KB M Y) _ M ⟨by omega, FB_r M, rfl, rfl, rfl⟩ (by omega) (by omega) ?_ ?_
  · rintro f i Y hi ⟨y0, y1, y2⟩ ih
    show Ok (f_X12_broken_L101 0 (nI T) p2 f (nI N) (nI a) (nI i) Y) _
    unfold f_X12_broken_L101
    refine ok_ie (nI_ge (by omega) (by omega)) (ok_bind (try2 (a := a) (b := i) (f0 := f0) (CM_b y1 hC) hT hn (by omega) (by omega) (fun t t1 t2 g hg => by rw [fogQ_b y1]; exact hf t t1 t2 g hg)) ?_)
    rintro ⟨zz, Z⟩ ⟨q1, q2⟩
    dsimp only at q1 q2 ⊢
    rcases q2 with ⟨q2, q3, q4⟩ | ⟨q2, q3, q4⟩
    · rw [q2]
      refine ok_it rfl ?_
      rw [pw_nm, nI_1]
      exact ih Z ⟨by omega, FB_t y1 q1, KB_t y2 q4⟩
    · exact absurd (hw i y0 hi) q3
  · rintro f Y ⟨y0, y1, y2⟩
    show Ok (f_X12_broken_L101 0 (nI T) p2 f (nI N) (nI a) (nI e) Y) _
    unfold f_X12_broken_L101
    by_cases c : e < N
    · refine ok_ie (nI_ge c (by omega)) (ok_bind (try2 (a := a) (b := e) (f0 := f0) (CM_b y1 hC) hT hn (by omega) (by omega) (fun t t1 t2 g hg => by rw [fogQ_b y1]; exact hf t t1 t2 g hg)) ?_)
      rintro ⟨zz, Z⟩ ⟨q1, q2⟩
      dsimp only at q1 q2 ⊢
      rcases q2 with ⟨q2, q3, q4⟩ | ⟨q2, q3, q4⟩
      · exact absurd q3 (hh c)
      · rw [q2]
        exact ok_ie (by decide) (ok_some ⟨Z, FB_t y1 q1, Or.inr ⟨c, rfl, q4⟩⟩)
    · exact ok_it (nI_le (by omega) (by omega)) (ok_some ⟨Y, y1, Or.inl ⟨by omega, rfl, y2⟩⟩)
/-- the outer loop of two: up to the row of the first pair, or through -/
theorem blp3 {p2 : Int32} {N a e : Nat} (hC : CM M M0 m n) (hT : T ≤ 60) (hn : n ≤ 8) (hN : N ≤ 70) (ha : a ≤ N) (hae : a < N → a < e ∧ e < N) (hf : ∀ tick, 1 ≤ tick → tick ≤ 500 → ∀ g, g < 15 → (f0 tick g = true ↔ fogQ M g tick)) (hw : ∀ a' b', a' < b' → b' < N → (a' < a ∨ (a' = a ∧ b' < e)) → out m (rn M0 m n (ad (ad f0 n a') n b') T) = 0) (hh : a < N → ¬ out m (rn M0 m n (ad (ad f0 n a) n e) T) = 0) : Ok (f_X12_broken_J86 0 (nI T) p2 (nI N) M) (fun z => FB M z.2 ∧ ((a = N ∧ z.1 = -1 ∧ KB M z.2) ∨ (a < N ∧ z.1 = 2 ∧ FM z.2 n 2 a e))) := by
  unfold f_X12_broken_J86 f_X12_broken_J133
  refine ok_bind (P := fun z => ∃ Y, FB M Y ∧ ((a = N ∧ z = .inl Y ∧ KB M Y) ∨ (a < N ∧ z = .inr (2, Y) ∧ FM Y n 2 a e))) ?_ ?_
  · refine ok_for (fun i (Y : ha_St) => (nI N, nI i, Y)) 0 a (fun i Y => FB M Y ∧ KB M Y) _ M ⟨FB_r M, rfl, rfl, rfl⟩ (by omega) (by omega) ?_ ?_
    · rintro f i Y hi ⟨y1, y2⟩ ih
      show Ok (f_X12_broken_L89 0 (nI T) p2 f (nI N) (nI i) Y) _
      unfold f_X12_broken_L89
      refine ok_ie (nI_ge (by omega) (by omega)) ?_
      rw [pw_nm, nI_1]
      refine ok_bind (blp2 (a := i) (e := N) (f0 := f0) (CM_b y1 hC) hT hn hN (by omega) (by omega) (Nat.le_refl _) (fun t t1 t2 g hg => by rw [fogQ_b y1]; exact hf t t1 t2 g hg) (fun b b1 b2 => hw i b b1 b2 (Or.inl hi)) (fun h => by omega)) ?_
      rintro z ⟨Z, z1, ⟨-, rfl, z3⟩ | ⟨h, -⟩⟩
      · show Ok (f_X12_broken_L89_J127 0 (nI T) p2 f (nI N) (nI i) Z) _
        unfold f_X12_broken_L89_J127
        rw [pw_nm, nI_1]
        exact ih Z ⟨FB_t y1 z1, KB_t y2 z3⟩
      · omega
    · rintro f Y ⟨y1, y2⟩
      show Ok (f_X12_broken_L89 0 (nI T) p2 f (nI N) (nI a) Y) _
      unfold f_X12_broken_L89
      by_cases c : a < N
      · obtain ⟨c1, c2⟩ := hae c
        refine ok_ie (nI_ge c (by omega)) ?_
        rw [pw_nm, nI_1]
        refine ok_bind (blp2 (a := a) (e := e) (f0 := f0) (CM_b y1 hC) hT hn hN c c1 (by omega) (fun t t1 t2 g hg => by rw [fogQ_b y1]; exact hf t t1 t2 g hg) (fun b b1 b2 => hw a b b1 (by omega) (Or.inr ⟨rfl, b2⟩)) (fun _ => hh c)) ?_
        rintro z ⟨Z, z1, ⟨h, -⟩ | ⟨-, rfl, z3⟩⟩
        · omega
        · exact ok_some ⟨Z, FB_t y1 z1, Or.inr ⟨c, rfl, z3⟩⟩
      · exact ok_it (nI_le (by omega) (by omega)) (ok_some ⟨Y, y1, Or.inl ⟨by omega, rfl, y2⟩⟩)
  · rintro z ⟨Y, y1, ⟨y2, rfl, y3⟩ | ⟨y2, rfl, y3⟩⟩
    · exact ok_some ⟨y1, Or.inl ⟨y2, rfl, y3⟩⟩
    · exact ok_some ⟨y1, Or.inr ⟨y2, rfl, y3⟩⟩
end TRS
