/-! THE MODEL: broken -/
def FB (M M' : ha_St) : Prop := ha_gR M' = ha_gR M ∧ (∀ k, k ≠ 0 → ¬ (37 ≤ k ∧ k ≤ 48) → k ≠ 62 → ha_gI M' 0 k = ha_gI M 0 k) ∧ ∀ a, ¬ (33 ≤ a ∧ a ≤ 37) → a ≠ 48 → a ≠ 61 → a ≠ 62 → ha_gA M' a = ha_gA M a
theorem FB_r (M : ha_St) : FB M M := ⟨rfl, fun _ _ _ _ => rfl, fun _ _ _ _ _ => rfl⟩
theorem FB_t {M M1 M2 : ha_St} (h : FB M M1) (g : FB M1 M2) : FB M M2 := ⟨g.1.trans h.1, fun k a b c => (g.2.1 k a b c).trans (h.2.1 k a b c), fun x a b c d => (g.2.2 x a b c d).trans (h.2.2 x a b c d)⟩
theorem FB_s {M M1 : ha_St} (h : FS M M1) : FB M M1 := ⟨h.1, fun k a b c => h.2.1 k (by omega) (by omega) (by omega) (by omega) (by omega) (by omega), fun a h1 h2 _ _ => h.2.2 a h1 h2⟩
theorem CM_b {M M1 M0 : ha_St} {m n : Nat} (h : FB M M1) (hC : CM M M0 m n) : CM M1 M0 m n := by
  obtain ⟨c1, c2, c3, c4, ⟨F, c5, c6⟩, c7⟩ := hC
  exact ⟨IM_c h.1 c1, fun a ha => (h.2.2 a (by omega) (by omega) (by omega) (by omega)).trans (c2 a ha), by rw [h.2.1 30 (by omega) (by omega) (by omega)]; exact c3, by rw [h.2.1 4 (by omega) (by omega) (by omega)]; exact c4, ⟨F, c5, by rw [h.2.1 31 (by omega) (by omega) (by omega)]; exact c6⟩, c7⟩
theorem fogQ_b {M M1 : ha_St} {g t : Nat} (h : FB M M1) : fogQ M1 g t ↔ fogQ M g t := by
  unfold fogQ
  rw [h.2.1 31 (by omega) (by omega) (by omega), h.2.2 28 (by omega) (by omega) (by omega) (by omega), h.2.2 29 (by omega) (by omega) (by omega) (by omega), h.2.2 30 (by omega) (by omega) (by omega) (by omega)]
/-- what was found stays -/
def KB (M M' : ha_St) : Prop := ha_gI M' 0 62 = ha_gI M 0 62 ∧ ha_gA M' 61 = ha_gA M 61 ∧ ha_gA M' 62 = ha_gA M 62
theorem KB_t {M M1 M2 : ha_St} (h : KB M M1) (g : KB M1 M2) : KB M M2 := ⟨g.1.trans h.1, g.2.1.trans h.2.1, g.2.2.trans h.2.2⟩
theorem KB_s {M M1 : ha_St} (h : FS M M1) : KB M M1 := ⟨h.2.1 62 (by omega) (by omega) (by omega) (by omega) (by omega) (by omega), h.2.2 61 (by omega) (by omega), h.2.2 62 (by omega) (by omega)⟩
theorem whole_m {M M0 : ha_St} {m n T : Nat} {fg : Nat → Nat → Bool} (hC : CM M M0 m n) (hT : T ≤ 60) (hfg : ∀ tick, 1 ≤ tick → tick ≤ 500 → ∀ g, g < 15 → (fg tick g = true ↔ MF M tick g)) : Ok (f_X12_isWhole 0 (nI T) M) (fun z => (∃ Y x, FS M Y ∧ z.2 = ha_sI Y 0 48 x) ∧ ((z.1 = 1 ∧ out m (rn M0 m n fg T) = 0) ∨ (z.1 = 0 ∧ ¬ out m (rn M0 m n fg T) = 0))) := by
  have hm : m ≤ 60 := hC.2.2.2.2.2.1
  have hp : ∀ k, k < 3 → PVa M0 k := fun k hk => by
    obtain ⟨X, p, h⟩ := hC.2.2.2.2.2.2.2.2 k hk
    exact pr_pva h
  have hli := fun t => li_rn (M := M0) (m := m) (n := n) (fg := fg) hm hp t
  unfold f_X12_isWhole
  refine ok_bind (begin_m hC) ?_
  rintro M1 ⟨b1, b2, -⟩
  refine ok_bind (P := fun Y => FS M Y ∧ RM Y n (rn M0 m n fg T)) ?_ ?_
  · refine ok_for (fun t (Y : ha_St) => (nI t, Y)) 1 (T + 1) (fun t Y => 1 ≤ t ∧ FS M Y ∧ RM Y n (rn M0 m n fg (t - 1))) _ M1 ⟨Nat.le_refl _, b2, b1⟩ (by omega) (by omega) ?_ ?_
    · rintro f t Y ht ⟨y0, y1, y2⟩ ih
      show Ok (f_X12_isWhole_L6 0 (nI T) f (nI t) Y) _
      unfold f_X12_isWhole_L6
      refine ok_ie (nI_nlt (by omega) (by omega)) (ok_bind (step_m (fg := fg t) (CM_f y1 hC) (by omega) (fun g hg => by rw [MF_f y1]; exact hfg t y0 (by omega) g hg) (hli _) y2) ?_)
      rintro Z ⟨z1, z2, -⟩
      rw [pw_nm, nI_1]
      refine ih Z ⟨by omega, FS_t y1 z2, ?_⟩
      have hst : stp M0 m n (fg t) (rn M0 m n fg (t - 1)) = rn M0 m n fg t := by
        obtain ⟨u, rfl⟩ : ∃ u, t = u + 1 := ⟨t - 1, by omega⟩
        rfl
      rw [hst] at z1
      rw [show t + 1 - 1 = t by omega]
      exact z1
    · rintro f Y ⟨y0, y1, y2⟩
      show Ok (f_X12_isWhole_L6 0 (nI T) f (nI (T + 1)) Y) _
      unfold f_X12_isWhole_L6
      rw [show T + 1 - 1 = T by omega] at y2
      exact ok_it (nI_lt (by omega) (by omega)) (ok_some ⟨y1, y2⟩)
  · rintro Y ⟨y1, y2⟩
    unfold f_X12_isWhole_J22 f_X12_isWhole_J34
    refine ok_bind (judg_m (CM_f y1 hC) y2 (hli T)) ?_
    rintro ⟨jz, Z⟩ ⟨j1, x, j2, -⟩
    dsimp only at j1 j2 ⊢
    rw [j1]
    by_cases c : out m (rn M0 m n fg T) = 0
    · exact ok_ie (fun h => h c) (ok_gd (Or.inr rfl) (ok_some ⟨⟨Y, x, y1, j2⟩, Or.inl ⟨rfl, c⟩⟩))
    · exact ok_it c (ok_gd (Or.inl rfl) (ok_some ⟨⟨Y, x, y1, j2⟩, Or.inr ⟨rfl, c⟩⟩))
/-- a try, once the fogs more are set but the last place -/
theorem try_m {M M0 : ha_St} {m n T : Nat} {fg : Nat → Nat → Bool} {p1 p2 x : Int32} (hC : CM M M0 m n) (hT : T ≤ 60) (hfg : ∀ tick, 1 ≤ tick → tick ≤ 500 → ∀ g, g < 15 → (fg tick g = true ↔ MF (ha_sI M 0 44 x) tick g)) : Ok (f_X12_breaks_J81 0 p1 p2 (nI T) 0 x M) (fun z => FB M z.2 ∧ ((z.1 = 0 ∧ out m (rn M0 m n fg T) = 0 ∧ KB M z.2) ∨ (z.1 = 1 ∧ ¬ out m (rn M0 m n fg T) = 0 ∧ ha_gI z.2 0 62 = (if (0 : Int32) ≤ p1 then (if (0 : Int32) ≤ p2 then 2 else 1) else 0) ∧ ha_gA z.2 61 0 = ha_gI M 0 41 ∧ ha_gA z.2 62 0 = ha_gI M 0 42 ∧ ha_gA z.2 61 1 = ha_gI M 0 43 ∧ ha_gA z.2 62 1 = x))) := by
  have hx : mo_ln 61 = 2 ∧ mo_ln 62 = 2 := by decide +kernel
  have f44 : FB M (ha_sI M 0 44 x) := ⟨rfl, fun k a b c => by rw [st_II, if_neg (by omega)], fun _ _ _ _ _ => rfl⟩
  unfold f_X12_breaks_J81
  rw [pw_nm]
  refine ok_bind (whole_m (fg := fg) (CM_b f44 hC) hT hfg) ?_
  rintro ⟨wz, Z⟩ ⟨⟨Y, y, w1, w2⟩, w3⟩
  dsimp only at w2 w3 ⊢
  subst w2
  have F2 : FB M (ha_sI Y 0 48 y) := FB_t (FB_t f44 (FB_s w1)) ⟨rfl, fun k a b c => by rw [st_II, if_neg (by omega)], fun _ _ _ _ _ => rfl⟩
  have v : ∀ k, 41 ≤ k → k ≤ 44 → ha_gI (ha_sI Y 0 48 y) 0 k = ha_gI (ha_sI M 0 44 x) 0 k := fun k h1 h2 => by rw [st_II, if_neg (by omega)]; exact w1.2.1 k (by omega) (by omega) (by omega) (by omega) (by omega) (by omega)
  have hIZ : IM (ha_sI Y 0 48 y) := (CM_b F2 hC).1
  rcases w3 with ⟨w3, w4⟩ | ⟨w3, w4⟩
  · rw [w3]
    refine ok_ie (by decide) (ok_some ⟨F2, Or.inl ⟨rfl, w4, ?_⟩⟩)
    have := KB_s w1
    exact ⟨this.1, this.2.1, this.2.2⟩
  · rw [w3]
    refine ok_it rfl (ok_b (mr hIZ 60 100) (ok_gd (by rw [show mo_ln (60 + 1) = 2 from hx.1]; decide) (ok_nm ?_)))
    refine ok_b (mr (M := ha_sA (ha_sI Y 0 48 y) (60 + 1) _) hIZ 61 100) (ok_gd (by rw [show mo_ln (61 + 1) = 2 from hx.2]; decide) (ok_nm ?_))
    refine ok_b (mr (M := ha_sA (ha_sA (ha_sI Y 0 48 y) (60 + 1) _) (61 + 1) _) hIZ 60 100) (ok_gd (by rw [show mo_ln (60 + 1) = 2 from hx.1]; decide) (ok_nm ?_))
    refine ok_b (mr (M := ha_sA (ha_sA (ha_sA (ha_sI Y 0 48 y) (60 + 1) _) (61 + 1) _) (60 + 1) _) hIZ 61 100) (ok_gd (by rw [show mo_ln (61 + 1) = 2 from hx.2]; decide) (ok_nm ?_))
    unfold f_X12_breaks_J156
    simp only [pw_nm, Nat.reduceAdd, st_IA, v 41 (by omega) (by omega), v 42 (by omega) (by omega), v 43 (by omega) (by omega), v 44 (by omega) (by omega)]
    have fin : ∀ (c : Int32) (G : ha_St), ha_gR G = ha_gR (ha_sI Y 0 48 y) → (∀ k, ha_gI G 0 k = ha_gI (ha_sI Y 0 48 y) 0 k) → (∀ a, a ≠ 61 → a ≠ 62 → ha_gA G a = ha_gA (ha_sI Y 0 48 y) a) → ha_gA G 61 0 = ha_gI M 0 41 → ha_gA G 62 0 = ha_gI M 0 42 → ha_gA G 61 1 = ha_gI M 0 43 → ha_gA G 62 1 = x → c = (if (0 : Int32) ≤ p1 then (if (0 : Int32) ≤ p2 then 2 else 1) else 0) → Ok (some ((1 : Int32), ha_sI G 0 62 c)) (fun z => FB M z.2 ∧ ((z.1 = 0 ∧ out m (rn M0 m n fg T) = 0 ∧ KB M z.2) ∨ (z.1 = 1 ∧ ¬ out m (rn M0 m n fg T) = 0 ∧ ha_gI z.2 0 62 = (if (0 : Int32) ≤ p1 then (if (0 : Int32) ≤ p2 then 2 else 1) else 0) ∧ ha_gA z.2 61 0 = ha_gI M 0 41 ∧ ha_gA z.2 62 0 = ha_gI M 0 42 ∧ ha_gA z.2 61 1 = ha_gI M 0 43 ∧ ha_gA z.2 62 1 = x))) := by
      intro c G g1 g2 g3 g4 g5 g6 g7 g8
      exact ok_some ⟨FB_t F2 ⟨g1, fun k a b e => by rw [st_II, if_neg (by omega)]; exact g2 k, fun a _ _ h3 h4 => g3 a h3 h4⟩, Or.inr ⟨rfl, w4, by rw [st_II, if_pos ⟨rfl, rfl⟩]; exact g8, g4, g5, g6, g7⟩⟩
    by_cases c1 : (0 : Int32) ≤ p1
    · refine ok_it c1 ?_
      by_cases c2 : (0 : Int32) ≤ p2
      · refine ok_it c2 (fin 2 _ rfl (fun _ => rfl) (fun a h1 h2 => ?_) rfl rfl rfl rfl (by rw [if_pos c1, if_pos c2]))
        rw [st_AA, if_neg h2, st_AA, if_neg h1, st_AA, if_neg h2, st_AA, if_neg h1]
      · refine ok_ie c2 (fin 1 _ rfl (fun _ => rfl) (fun a h1 h2 => ?_) rfl rfl rfl rfl (by rw [if_pos c1, if_neg c2]))
        rw [st_AA, if_neg h2, st_AA, if_neg h1, st_AA, if_neg h2, st_AA, if_neg h1]
    · refine ok_ie c1 (fin 0 _ rfl (fun _ => rfl) (fun a h1 h2 => ?_) rfl rfl rfl rfl (by rw [if_neg c1]))
      rw [st_AA, if_neg h2, st_AA, if_neg h1, st_AA, if_neg h2, st_AA, if_neg h1]
