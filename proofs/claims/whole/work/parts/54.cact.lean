/-! THE CLASS: one tower's acts -/
theorem pg0 {X : ha_St} (h : IR X) {p : Nat} (h1 : 11 ≤ p) (h2 : p ≤ 15) : ha_rf xo_kd X p 0 100 = some (100 + 16 * p) := pgr h h1 h2 0 (by omega)
theorem pl0 {p : Nat} (h1 : 11 ≤ p) (h2 : p ≤ 15) : xo_ln (100 + 16 * p) = 20 := pgl h1 h2 0 (by omega)
theorem pg1 {X : ha_St} (h : IR X) {p : Nat} (h1 : 11 ≤ p) (h2 : p ≤ 15) : ha_rf xo_kd X p 1 100 = some (101 + 16 * p) := by have := pgr h h1 h2 1 (by omega); rwa [show 100 + 16 * p + 1 = 101 + 16 * p by omega] at this
theorem pl1 {p : Nat} (h1 : 11 ≤ p) (h2 : p ≤ 15) : xo_ln (101 + 16 * p) = 20 := by have := pgl h1 h2 1 (by omega); rwa [show 100 + 16 * p + 1 = 101 + 16 * p by omega] at this
theorem pg2 {X : ha_St} (h : IR X) {p : Nat} (h1 : 11 ≤ p) (h2 : p ≤ 15) : ha_rf xo_kd X p 2 100 = some (102 + 16 * p) := by have := pgr h h1 h2 2 (by omega); rwa [show 100 + 16 * p + 2 = 102 + 16 * p by omega] at this
theorem pl2 {p : Nat} (h1 : 11 ≤ p) (h2 : p ≤ 15) : xo_ln (102 + 16 * p) = 40 := by have := pgl h1 h2 2 (by omega); rwa [show 100 + 16 * p + 2 = 102 + 16 * p by omega] at this
theorem pg3 {X : ha_St} (h : IR X) {p : Nat} (h1 : 11 ≤ p) (h2 : p ≤ 15) : ha_rf xo_kd X p 3 100 = some (103 + 16 * p) := by have := pgr h h1 h2 3 (by omega); rwa [show 100 + 16 * p + 3 = 103 + 16 * p by omega] at this
theorem pl3 {p : Nat} (h1 : 11 ≤ p) (h2 : p ≤ 15) : xo_ln (103 + 16 * p) = 40 := by have := pgl h1 h2 3 (by omega); rwa [show 100 + 16 * p + 3 = 103 + 16 * p by omega] at this
theorem pg4 {X : ha_St} (h : IR X) {p : Nat} (h1 : 11 ≤ p) (h2 : p ≤ 15) : ha_rf xo_kd X p 4 100 = some (104 + 16 * p) := by have := pgr h h1 h2 4 (by omega); rwa [show 100 + 16 * p + 4 = 104 + 16 * p by omega] at this
theorem pl4 {p : Nat} (h1 : 11 ≤ p) (h2 : p ≤ 15) : xo_ln (104 + 16 * p) = 40 := by have := pgl h1 h2 4 (by omega); rwa [show 100 + 16 * p + 4 = 104 + 16 * p by omega] at this
theorem pg5 {X : ha_St} (h : IR X) {p : Nat} (h1 : 11 ≤ p) (h2 : p ≤ 15) : ha_rf xo_kd X p 5 100 = some (105 + 16 * p) := by have := pgr h h1 h2 5 (by omega); rwa [show 100 + 16 * p + 5 = 105 + 16 * p by omega] at this
theorem pl5 {p : Nat} (h1 : 11 ≤ p) (h2 : p ≤ 15) : xo_ln (105 + 16 * p) = 40 := by have := pgl h1 h2 5 (by omega); rwa [show 100 + 16 * p + 5 = 105 + 16 * p by omega] at this
theorem pg6 {X : ha_St} (h : IR X) {p : Nat} (h1 : 11 ≤ p) (h2 : p ≤ 15) : ha_rf xo_kd X p 6 100 = some (106 + 16 * p) := by have := pgr h h1 h2 6 (by omega); rwa [show 100 + 16 * p + 6 = 106 + 16 * p by omega] at this
theorem pl6 {p : Nat} (h1 : 11 ≤ p) (h2 : p ≤ 15) : xo_ln (106 + 16 * p) = 40 := by have := pgl h1 h2 6 (by omega); rwa [show 100 + 16 * p + 6 = 106 + 16 * p by omega] at this
theorem pg7 {X : ha_St} (h : IR X) {p : Nat} (h1 : 11 ≤ p) (h2 : p ≤ 15) : ha_rf xo_kd X p 7 100 = some (107 + 16 * p) := by have := pgr h h1 h2 7 (by omega); rwa [show 100 + 16 * p + 7 = 107 + 16 * p by omega] at this
theorem pl7 {p : Nat} (h1 : 11 ≤ p) (h2 : p ≤ 15) : xo_ln (107 + 16 * p) = 40 := by have := pgl h1 h2 7 (by omega); rwa [show 100 + 16 * p + 7 = 107 + 16 * p by omega] at this

/-- what a move of line l leaves alone -/
def FX (X X' : ha_St) (l : Nat) : Prop := ha_gR X' = ha_gR X ∧ ha_gB X' = ha_gB X ∧ (∀ o k, o ≠ l → ha_gI X' o k = ha_gI X o k) ∧ ha_gI X' l 4 = ha_gI X l 4 ∧ ∀ a, a ≠ 135 → a ≠ 136 → ¬ (100 + 16 * l ≤ a ∧ a ≤ 103 + 16 * l) → ha_gA X' a = ha_gA X a
theorem FX_r (X : ha_St) (l : Nat) : FX X X l := ⟨rfl, rfl, fun _ _ _ => rfl, rfl, fun _ _ _ _ => rfl⟩
theorem FX_t {X X1 X2 : ha_St} {l : Nat} (h : FX X X1 l) (g : FX X1 X2 l) : FX X X2 l := ⟨g.1.trans h.1, g.2.1.trans h.2.1, fun o k ho => (g.2.2.1 o k ho).trans (h.2.2.1 o k ho), g.2.2.2.1.trans h.2.2.2.1, fun a h1 h2 h3 => (g.2.2.2.2 a h1 h2 h3).trans (h.2.2.2.2 a h1 h2 h3)⟩
/-- what the acts of a tower of line l leave alone -/
def FA (X X' : ha_St) (l : Nat) : Prop := ha_gR X' = ha_gR X ∧ ha_gB X' = ha_gB X ∧ (∀ o k, o ≠ l → ha_gI X' o k = ha_gI X o k) ∧ ha_gI X' l 4 = ha_gI X l 4 ∧ ∀ a, a ≠ 136 → a ≠ 103 + 16 * l → ha_gA X' a = ha_gA X a
theorem FA_r (X : ha_St) (l : Nat) : FA X X l := ⟨rfl, rfl, fun _ _ _ => rfl, rfl, fun _ _ _ => rfl⟩
theorem FA_t {X X1 X2 : ha_St} {l : Nat} (h : FA X X1 l) (g : FA X1 X2 l) : FA X X2 l := ⟨g.1.trans h.1, g.2.1.trans h.2.1, fun o k ho => (g.2.2.1 o k ho).trans (h.2.2.1 o k ho), g.2.2.2.1.trans h.2.2.2.1, fun a h1 h2 => (g.2.2.2.2 a h1 h2).trans (h.2.2.2.2 a h1 h2)⟩
theorem FA_x {X X1 : ha_St} {l : Nat} (h : FA X X1 l) : FX X X1 l := ⟨h.1, h.2.1, h.2.2.1, h.2.2.2.1, fun a h1 h2 h3 => h.2.2.2.2 a h2 (by omega)⟩
def CX (X M : ha_St) (m : Nat) : Prop := IR X ∧ ha_gI X 2 6 = nI m ∧ m ≤ 60 ∧ (∀ j, j < m → ha_gA X 133 j = ha_gA M 27 j) ∧ ∀ k, k < 3 → ∃ p, ha_gB X 132 k = some p ∧ 11 ≤ p ∧ p ≤ 15 ∧ PR X p M k
theorem CX_f {X X1 M : ha_St} {m l : Nat} (hl : isLn l) (h : FX X X1 l) (hC : CX X M m) : CX X1 M m := by
  obtain ⟨f1, f2, f3, f4, f5⟩ := h
  obtain ⟨c1, c2, c3, c4, c5⟩ := hC
  unfold isLn at hl
  refine ⟨IR_c f1 c1, by rw [f3 2 6 (by omega)]; exact c2, c3, fun j hj => by rw [f5 133 (by omega) (by omega) (by omega)]; exact c4 j hj, fun k hk => ?_⟩
  obtain ⟨p, d1, d2, d3, d4⟩ := c5 k hk
  exact ⟨p, by rw [f2]; exact d1, d2, d3, PR_c (fun j => f3 p j (by omega)) (fun j hj => f5 _ (by omega) (by omega) (by omega)) rfl rfl rfl rfl rfl rfl rfl rfl rfl d4⟩
/-- the acts' state in the class -/
def RT (X : ha_St) (l : Nat) (s : TW) : Prop := (∀ c, c < 110 → ha_gA X 136 c = s.1 c) ∧ ha_gI X l 6 = nI s.2.1 ∧ ha_gI X l 5 = nI s.2.2.1 ∧ ha_gI X l 7 = s.2.2.2.1 ∧ (l = 16 → ∀ k, k < s.2.2.1 → ha_gA X (103 + 16 * l) k = s.2.2.2.2 k)
theorem word_x {X M : ha_St} {m l se : Nat} (hC : CX X M m) (h : ha_gI X l 6 = nI se) (hs : se ≤ m) : f_X1_wordOf 2 l X = some (wat M m se, X) := by
  obtain ⟨c1, c2, c3, c4, c5⟩ := hC
  unfold f_X1_wordOf f_X1_wordOf_J24 wat
  have hx : xo_ln 133 = 60 := by decide +kernel
  rw [c2, h]
  by_cases c : se < m
  · rw [pw_ie (nI_ge c (by omega)), if_pos c]
    simp only [pw_bs, xr c1 2 1 100 133]
    rw [pw_gd (by rw [hx]; exact n_in (by omega) (by omega)), nI_clamp (by omega), c4 se c]
  · rw [pw_it (nI_le (by omega) (by omega)), if_neg c]
theorem put_x {X : ha_St} {l wr : Nat} {wa v k0 : Int32} {bk : Nat → Int32} (hIR : IR X) (hl : isLn l) (h5 : ha_gI X l 5 = nI wr) (h7 : ha_gI X l 7 = wa) (hb : l = 16 → ∀ k, k < wr → ha_gA X (103 + 16 * l) k = bk k) (hw : wr < 100) : Ok (f_X5_put l v k0 X) (fun X' => FA X X' l ∧ ha_gA X' 136 = ha_gA X 136 ∧ ha_gI X' l 6 = ha_gI X l 6 ∧ ha_gI X' l 5 = nI (wr + 1) ∧ ha_gI X' l 7 = (if wa = -1 ∧ k0 = 0 then nI wr else wa) ∧ (l = 16 → ∀ k, k < wr + 1 → ha_gA X' (103 + 16 * l) k = upd bk wr v k)) := by
  have key : ∀ Y : ha_St, FA X Y l → ha_gA Y 136 = ha_gA X 136 → ha_gI Y l 6 = ha_gI X l 6 → ha_gI Y l 5 = nI wr → ha_gI Y l 7 = wa → (l = 16 → ∀ k, k < wr + 1 → ha_gA Y (103 + 16 * l) k = upd bk wr v k) → Ok (f_X5_put_J32 l v k0 Y) (fun X' => FA X X' l ∧ ha_gA X' 136 = ha_gA X 136 ∧ ha_gI X' l 6 = ha_gI X l 6 ∧ ha_gI X' l 5 = nI (wr + 1) ∧ ha_gI X' l 7 = (if wa = -1 ∧ k0 = 0 then nI wr else wa) ∧ (l = 16 → ∀ k, k < wr + 1 → ha_gA X' (103 + 16 * l) k = upd bk wr v k)) := by
    intro Y y1 y2 y3 y4 y5 y6
    unfold f_X5_put_J32 f_X5_put_J52
    simp only [pw_nm]
    have fin : ∀ Z : ha_St, FA Y Z l → ha_gA Z = ha_gA Y → ha_gI Z l 6 = ha_gI Y l 6 → ha_gI Z l 5 = nI wr → ha_gI Z l 7 = (if wa = -1 ∧ k0 = 0 then nI wr else wa) → Ok (some (ha_sI Z l 5 (ha_gI Z l 5 + 1))) (fun X' => FA X X' l ∧ ha_gA X' 136 = ha_gA X 136 ∧ ha_gI X' l 6 = ha_gI X l 6 ∧ ha_gI X' l 5 = nI (wr + 1) ∧ ha_gI X' l 7 = (if wa = -1 ∧ k0 = 0 then nI wr else wa) ∧ (l = 16 → ∀ k, k < wr + 1 → ha_gA X' (103 + 16 * l) k = upd bk wr v k)) := by
      intro Z z1 z2 z3 z4 z5
      refine ok_some ⟨FA_t y1 (FA_t z1 ⟨rfl, rfl, fun o k ho => ?_, ?_, fun _ _ _ => rfl⟩), ?_, ?_, ?_, ?_, fun h k hk => ?_⟩
      · rw [st_II, if_neg (fun h => ho h.1)]
      · rw [st_II, if_neg (by omega)]
      · rw [st_AI, z2, y2]
      · rw [st_II, if_neg (by omega), z3, y3]
      · rw [st_II, if_pos ⟨rfl, rfl⟩, z4, nI_1]
      · rw [st_II, if_neg (by omega), z5]
      · rw [st_AI, z2]; exact y6 h k hk
    by_cases c1 : k0 = 0
    · rw [pw_ie (fun h => h c1)]
      by_cases c2 : wa = -1
      · rw [y5, pw_ie (fun h => h c2)]
        refine fin _ ⟨rfl, rfl, fun o k ho => ?_, ?_, fun _ _ _ => rfl⟩ rfl ?_ ?_ ?_
        · rw [st_II, if_neg (fun h => ho h.1)]
        · rw [st_II, if_neg (by omega)]
        · rw [st_II, if_neg (by omega)]
        · rw [st_II, if_neg (by omega), y4]
        · rw [st_II, if_pos ⟨rfl, rfl⟩, if_pos ⟨c2, c1⟩, y4]
      · rw [y5, pw_it c2]
        exact fin Y (FA_r Y l) rfl rfl y4 (by rw [if_neg (fun h => c2 h.1), y5])
    · rw [pw_it c1]
      exact fin Y (FA_r Y l) rfl rfl y4 (by rw [if_neg (fun h => c1 h.2), y5])
  unfold f_X5_put
  rw [h5]
  refine ok_it (show nI wr < nI 100 from nI_lt hw (by omega)) (ok_b (lr3 hIR hl) ?_)
  rw [ll3 hl]
  by_cases c : l = 16
  · rw [if_pos c]
    refine ok_ie (nI_ge hw (by omega)) (ok_b (lr3 hIR hl) (ok_gd ?_ (ok_nm (key _ ?_ ?_ ?_ ?_ ?_ ?_))))
    · rw [ll3 hl, if_pos c]; exact n_in (by omega) (by omega)
    · exact ⟨rfl, rfl, fun o k ho => rfl, rfl, fun a h1 h2 => by rw [st_AA, if_neg h2]⟩
    · rw [st_AA, if_neg (by omega)]
    · rfl
    · exact h5
    · exact h7
    · intro _ k hk
      rw [st_AA, if_pos rfl, nI_clamp (by omega)]
      by_cases e : k = wr
      · rw [e, pk_us, pk_us]
      · rw [pk_un e, pk_un e]; exact hb c k (by omega)
  · rw [if_neg c]
    exact ok_it (nI_le (by omega) (by omega)) (key X (FA_r X l) rfl rfl h5 h7 (fun h => absurd h c))
