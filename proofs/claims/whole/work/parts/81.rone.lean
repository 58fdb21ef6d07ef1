/-! WHILE THEY READ: what stays, and how far the two programs are alike -/
def F5 (q : Nat) (X Y : ha_St) : Prop := ha_gB Y = ha_gB X ∧ ha_gR Y = ha_gR X ∧ (∀ a, ¬ (100 + 16 * q ≤ a ∧ a < 108 + 16 * q) → ha_gA Y a = ha_gA X a) ∧ ∀ o k, ¬ (o = 3 ∧ 3 ≤ k ∧ k ≤ 7) → ¬ (o = q ∧ 8 ≤ k ∧ k ≤ 11) → ha_gI Y o k = ha_gI X o k
def F6 (M N : ha_St) : Prop := ha_gR N = ha_gR M ∧ (∀ a i, ¬ (a = 15 ∧ i = 3) → ¬ ((a = 16 ∨ a = 17) ∧ 60 ≤ i) → ¬ (18 ≤ a ∧ a ≤ 23 ∧ 120 ≤ i) → ha_gA N a i = ha_gA M a i) ∧ ∀ k, ¬ (6 ≤ k ∧ k ≤ 12) → ¬ (23 ≤ k ∧ k ≤ 25) → ha_gI N 0 k = ha_gI M 0 k
theorem F5_r (q : Nat) (X : ha_St) : F5 q X X := ⟨rfl, rfl, fun _ _ => rfl, fun _ _ _ _ => rfl⟩
theorem F6_r (M : ha_St) : F6 M M := ⟨rfl, fun _ _ _ _ _ => rfl, fun _ _ _ => rfl⟩
theorem F5_3 {q : Nat} {X Y Z : ha_St} (h : F5 q X Y) (g : F3 Y Z) : F5 q X Z := ⟨g.2.1.trans h.1, g.1.trans h.2.1, fun a ha => by rw [g.2.2.1]; exact h.2.2.1 a ha, fun o k a b => (g.2.2.2 o k (by omega)).trans (h.2.2.2 o k a b)⟩
theorem F6_4 {M N P : ha_St} (h : F6 M N) (g : F4 N P) : F6 M P := ⟨g.1.trans h.1, fun a i c d e => by rw [g.2.1]; exact h.2.1 a i c d e, fun k a b => (g.2.2 k (by omega)).trans (h.2.2 k a b)⟩
theorem F6_s {M N : ha_St} (h : F6 M N) {k : Nat} (hk : 23 ≤ k ∧ k ≤ 25 ∨ 6 ≤ k ∧ k ≤ 12) (v : Int32) : F6 M (ha_sI N 0 k v) := ⟨h.1, h.2.1, fun j a b => by rw [st_II, if_neg (by omega)]; exact h.2.2 j a b⟩
theorem upd_s (f : Nat → Int32) (k : Nat) (x : Int32) : upd f k x k = x := if_pos rfl
theorem upd_n (f : Nat → Int32) {k j : Nat} (x : Int32) (h : j ≠ k) : upd f k x j = f j := if_neg h
theorem F6_u {M N : ha_St} (h : F6 M N) {a i : Nat} (hk : (a = 15 ∧ i = 3) ∨ ((a = 16 ∨ a = 17) ∧ 60 ≤ i) ∨ (18 ≤ a ∧ a ≤ 23 ∧ 120 ≤ i)) (v : Int32) : F6 M (ha_sA N a (upd (ha_gA N a) i v)) := ⟨h.1, fun c j d e f => by
  rw [st_AA]
  by_cases g : c = a
  · subst g
    rw [if_pos rfl]
    by_cases g2 : j = i
    · subst g2; omega
    · rw [upd_n _ _ g2]; exact h.2.1 c j d e f
  · rw [if_neg g]; exact h.2.1 c j d e f, h.2.2⟩
/-- the ones, the acts, the rules' ends -/
def ONs (t : Int32) (a b c d e f : Nat → Int32) (n : Nat) : Prop := ∀ i, i < n → a i = d (120 + i) ∧ mkR (b i) (e (120 + i)) ∧ c i = f (120 + i) ∧ vaR (d (120 + i)) ∧ vaR (f (120 + i)) ∧ (t = 0 → d (120 + i) ≠ 103 ∧ f (120 + i) ≠ 103)
def AC1 (t a b c d e f : Int32) : Prop := acR a d ∧ vaR b ∧ vaR c ∧ (d ≠ 6 → b = e ∧ vaR e ∧ ((f = -1 ∧ c = 0) ∨ (c = f ∧ vaR f)) ∧ (t = 0 → e ≠ 103 ∧ f ≠ 103))
def ACs (t : Int32) (a b c d e f : Nat → Int32) (n : Nat) : Prop := ∀ i, i < n → AC1 t (a i) (b i) (c i) (d (120 + i)) (e (120 + i)) (f (120 + i))
def RUs (a b d e : Nat → Int32) (n no na : Nat) : Prop := ∀ i, i < n → a i = d (60 + i) ∧ b i = e (60 + i) ∧ rb d 60 i ≤ (d (60 + i)).toInt ∧ rb e 60 i ≤ (e (60 + i)).toInt ∧ (d (60 + i)).toInt ≤ no ∧ (e (60 + i)).toInt ≤ na
def PD (q nr no na : Nat) (Y N : ha_St) : Prop :=
  nr ≤ 20 ∧ no ≤ 40 ∧ na ≤ 40 ∧ ha_gI Y q 8 = nI nr ∧ ha_gA N 15 3 = nI nr ∧ ha_gI Y q 9 = nI no ∧ ha_gI N 0 23 = nI no ∧ ha_gI Y q 10 = nI na ∧ ha_gI N 0 24 = nI na ∧ (ha_gI Y q 11 = 0 ∨ ha_gI Y q 11 = 1) ∧ ha_gI Y 3 6 = 0 ∧ ha_gI N 0 11 = 0 ∧
  RUs (ha_gA Y (100 + 16 * q)) (ha_gA Y (101 + 16 * q)) (ha_gA N 16) (ha_gA N 17) nr no na ∧
  ONs (ha_gI Y q 11) (ha_gA Y (102 + 16 * q)) (ha_gA Y (103 + 16 * q)) (ha_gA Y (104 + 16 * q)) (ha_gA N 18) (ha_gA N 19) (ha_gA N 20) no ∧
  ACs (ha_gI Y q 11) (ha_gA Y (105 + 16 * q)) (ha_gA Y (106 + 16 * q)) (ha_gA Y (107 + 16 * q)) (ha_gA N 21) (ha_gA N 22) (ha_gA N 23) na
theorem ONs_c {t t' : Int32} {a b c d e f d' e' f' : Nat → Int32} {n : Nat} (ht : t' = 0 → t = 0) (h1 : ∀ i, i < n → d' (120 + i) = d (120 + i)) (h2 : ∀ i, i < n → e' (120 + i) = e (120 + i)) (h3 : ∀ i, i < n → f' (120 + i) = f (120 + i)) (h : ONs t a b c d e f n) : ONs t' a b c d' e' f' n := fun i hi => by
  rw [h1 i hi, h2 i hi, h3 i hi]
  have := h i hi
  exact ⟨this.1, this.2.1, this.2.2.1, this.2.2.2.1, this.2.2.2.2.1, fun g => this.2.2.2.2.2 (ht g)⟩
theorem ACs_c {t t' : Int32} {a b c d e f d' e' f' : Nat → Int32} {n : Nat} (ht : t' = 0 → t = 0) (h1 : ∀ i, i < n → d' (120 + i) = d (120 + i)) (h2 : ∀ i, i < n → e' (120 + i) = e (120 + i)) (h3 : ∀ i, i < n → f' (120 + i) = f (120 + i)) (h : ACs t a b c d e f n) : ACs t' a b c d' e' f' n := fun i hi => by
  rw [h1 i hi, h2 i hi, h3 i hi]
  have := h i hi
  exact ⟨this.1, this.2.1, this.2.2.1, fun g => ⟨(this.2.2.2 g).1, (this.2.2.2 g).2.1, (this.2.2.2 g).2.2.1, fun g2 => (this.2.2.2 g).2.2.2 (ht g2)⟩⟩
theorem RUs_m {a b d e : Nat → Int32} {n no na no' na' : Nat} (h1 : no ≤ no') (h2 : na ≤ na') (h : RUs a b d e n no na) : RUs a b d e n no' na' := fun i hi => by
  have := h i hi
  exact ⟨this.1, this.2.1, this.2.2.1, this.2.2.2.1, by omega, by omega⟩
/-- the ground under the reading -/
def RdEnv (q : Nat) (X M : ha_St) (b : Nat → Int32) (sz : Nat) : Prop := 11 ≤ q ∧ q ≤ 15 ∧ IR X ∧ ha_gR X 3 0 = some 116 ∧ ha_gR X 3 2 = some q ∧ ha_gA X 116 = b ∧ ha_gI X 3 1 = nI sz ∧ sz ≤ 440 ∧ (∀ j, 0 ≤ (b j).toInt ∧ (b j).toInt ≤ 255) ∧ IM M ∧ ha_gA M 2 = b ∧ ha_gI M 0 5 = nI sz
theorem SY_n {b : Nat → Int32} {sz : Nat} {Y N N' : ha_St} (h : SY b sz Y N) (a1 : ∀ k, 6 ≤ k → k ≤ 10 → ha_gI N' 0 k = ha_gI N 0 k) (a2 : ha_gJ N' 0 13 = ha_gJ N 0 13) : SY b sz Y N' := by
  unfold SY TKR at h ⊢
  rw [a1 6 (by omega) (by omega), a1 7 (by omega) (by omega), a1 8 (by omega) (by omega), a1 9 (by omega) (by omega), a1 10 (by omega) (by omega), a2]
  exact h
theorem SY_y {b : Nat → Int32} {sz : Nat} {Y Y' N : ha_St} (h : SY b sz Y N) (a1 : ∀ k, 3 ≤ k → k ≤ 5 → ha_gI Y' 3 k = ha_gI Y 3 k) : SY b sz Y' N := by
  unfold SY at h ⊢
  rw [a1 3 (by omega) (by omega), a1 4 (by omega) (by omega), a1 5 (by omega) (by omega)]
  exact h
section RDR
variable {q sz nr no na : Nat} {X M Y N : ha_St} {b : Nat → Int32}
/-- one token on, on both sides -/
theorem sg (E : RdEnv q X M b sz) (h5 : F5 q X Y) (h6 : F6 M N) (S : SY b sz Y N) (ht : ha_gI Y 3 3 ≠ -2) : ∃ Y' N', f_X9_step 3 Y = some Y' ∧ f_X12_go 0 N = some N' ∧ F3 Y Y' ∧ F4 N N' ∧ SY b sz Y' N' := by
  obtain ⟨E1, E2, E3, E4, E5, E6, E7, E8, E9, E10, E11, E12⟩ := E
  obtain ⟨p, p1, p2, p3⟩ := S.2.2.2 ht
  have y0 : ha_gR Y 3 0 = some 116 := by rw [h5.2.1]; exact E4
  have y1 : ha_gA Y 116 = b := by rw [h5.2.2.1 116 (by omega)]; exact E6
  have y2 : ha_gI Y 3 1 = nI sz := by rw [h5.2.2.2 3 1 (by omega) (by omega)]; exact E7
  have n0 : IM N := IM_c h6.1 E10
  have n1 : ha_gA N 2 = b := by
    rw [← E11]
    funext i
    exact h6.2.1 2 i (by omega) (by omega) (by omega)
  have n2 : ha_gI N 0 5 = nI sz := (h6.2.2 5 (by omega) (by omega)).trans E12
  obtain ⟨Y', e1, g1, g2⟩ := step_x y0 y1 y2 E8 p2 p1 E9
  obtain ⟨N', e2, g3, g4⟩ := go_m n0 n1 n2 E8 p3 p1
  exact ⟨Y', N', e1, e2, g1, g3, lx_gt E8 g2 g4⟩
theorem PD_34 {Y' N' : ha_St} (hq : 11 ≤ q) (g3 : F3 Y Y') (g4 : F4 N N') (h : PD q nr no na Y N) : PD q nr no na Y' N' := by
  unfold PD at h ⊢
  rw [g3.2.2.1, g4.2.1, g3.2.2.2 q 8 (by omega), g3.2.2.2 q 9 (by omega), g3.2.2.2 q 10 (by omega), g3.2.2.2 q 11 (by omega), g3.2.2.2 3 6 (by omega), g4.2.2 23 (by omega), g4.2.2 24 (by omega), g4.2.2 11 (by omega)]
  exact h
/-- both have refused alike -/
def FL (q : Nat) (X M Y N : ha_St) : Prop := F5 q X Y ∧ F6 M N ∧ ha_gI Y 3 6 = ha_gI N 0 11 ∧ ha_gI Y 3 7 = ha_gI N 0 12
theorem fl_1 (h5 : F5 q X Y) (h6 : F6 M N) (hq : 11 ≤ q) (S : SY b sz Y N) (k : Int32) (hk : k = 1 ∨ ha_gI N 0 8 ≠ 1) : FL q X M (rfS k Y) (bdS k N) := by
  refine ⟨⟨h5.1, h5.2.1, h5.2.2.1, fun o j a c => ?_⟩, F6_s (F6_s h6 (by omega) _) (by omega) _, ?_, ?_⟩
  · unfold rfS
    rw [st_II, if_neg (by omega), st_II, if_neg (by omega)]
    exact h5.2.2.2 o j a c
  · unfold rfS bdS
    rw [st_II, if_neg (by omega), st_II, if_pos ⟨rfl, rfl⟩, st_II, if_neg (by omega), st_II, if_pos ⟨rfl, rfl⟩]
    by_cases d : ha_gI N 0 8 = 1
    · rw [if_pos d]; exact hk.resolve_right (fun g => g d)
    · rw [if_neg d]
  · unfold rfS bdS
    rw [st_II, if_pos ⟨rfl, rfl⟩, st_II, if_pos ⟨rfl, rfl⟩]
    exact S.2.1
/-- a value's token isn't wrong to the model -/
theorem tk_k1 {tok : Int32} (h : TKR tok sz N) (hv : 0 ≤ tok.toInt) : ha_gI N 0 8 ≠ 1 := by
  rcases h with ⟨h, g⟩ | ⟨h, g⟩ | ⟨v, h1, h2, h3, h4⟩ | ⟨t, h1, h2, h3, h4⟩ | ⟨t, h1, h2, h3, h4⟩
  · exact absurd hv (by rw [h]; decide)
  · exact absurd hv (by rw [h]; decide)
  · rw [h3]; decide
  · rw [h3]; decide
  · rw [h3]; decide
theorem tk_n2 {t : Int32} (h : 0 ≤ t.toInt) : t ≠ -2 := fun e => absurd h (by rw [e]; decide)
theorem or01 {a c : Int32} (ha : a = 0 ∨ a = 1) (hc : c = 0 ∨ c = 1) : ((a ||| c) = 0 ∨ (a ||| c) = 1) ∧ ((a ||| c) = 0 → a = 0 ∧ c = 0) := by
  rcases ha with rfl | rfl <;> rcases hc with rfl | rfl <;> decide
/-- one more of the conditions -/
theorem addOne_x {l m r : Int32} (hI : IR Y) (hq : 11 ≤ q ∧ q ≤ 15) (h9 : ha_gI Y q 9 = nI no) (hno : no < 40) (h11 : ha_gI Y q 11 = 0 ∨ ha_gI Y q 11 = 1) : ∃ A, f_X8_addOne q l m r Y = some A ∧ ha_gR A = ha_gR Y ∧ ha_gB A = ha_gB Y ∧ ha_gA A (102 + 16 * q) = upd (ha_gA Y (102 + 16 * q)) no l ∧ ha_gA A (103 + 16 * q) = upd (ha_gA Y (103 + 16 * q)) no m ∧ ha_gA A (104 + 16 * q) = upd (ha_gA Y (104 + 16 * q)) no r ∧ (∀ a, ¬ (102 + 16 * q ≤ a ∧ a ≤ 104 + 16 * q) → ha_gA A a = ha_gA Y a) ∧ ha_gI A q 9 = nI (no + 1) ∧ (ha_gI A q 11 = 0 ∨ ha_gI A q 11 = 1) ∧ (ha_gI A q 11 = 0 → ha_gI Y q 11 = 0 ∧ l ≠ 103 ∧ r ≠ 103) ∧ ∀ o k, ¬ (o = q ∧ (k = 9 ∨ k = 11)) → ha_gI A o k = ha_gI Y o k := by
  have l2 : xo_ln (102 + 16 * q) = 40 := by have := pgl hq.1 hq.2 2 (by omega); rw [show 100 + 16 * q + 2 = 102 + 16 * q by omega, if_neg (by omega)] at this; exact this
  have l3 : xo_ln (103 + 16 * q) = 40 := by have := pgl hq.1 hq.2 3 (by omega); rw [show 100 + 16 * q + 3 = 103 + 16 * q by omega, if_neg (by omega)] at this; exact this
  have l4 : xo_ln (104 + 16 * q) = 40 := by have := pgl hq.1 hq.2 4 (by omega); rw [show 100 + 16 * q + 4 = 104 + 16 * q by omega, if_neg (by omega)] at this; exact this
  have r2 : ha_rf xo_kd Y q 2 100 = some (102 + 16 * q) := by rw [pgr hI hq.1 hq.2 2 (by omega)]; congr 1; omega
  have r3 : ha_rf xo_kd Y q 3 100 = some (103 + 16 * q) := by rw [pgr hI hq.1 hq.2 3 (by omega)]; congr 1; omega
  have r4 : ha_rf xo_kd Y q 4 100 = some (104 + 16 * q) := by rw [pgr hI hq.1 hq.2 4 (by omega)]; congr 1; omega
  have gd : ∀ n, n = 40 → ¬ (nI no < 0 ∨ n ≤ (nI no).toNatClampNeg) := fun n hn => by rw [hn]; exact n_in hno (by omega)
  have fin : ∀ t : Int32, (t = 0 ∨ t = 1) → (t = 0 → l ≠ 103 ∧ r ≠ 103) → ∃ A, f_X8_addOne_J71 q l m r q (ha_gI Y q 11) t (ha_sI (ha_sA (ha_sA (ha_sA Y (102 + 16 * q) (upd (ha_gA Y (102 + 16 * q)) no l)) (103 + 16 * q) (upd (ha_gA Y (103 + 16 * q)) no m)) (104 + 16 * q) (upd (ha_gA Y (104 + 16 * q)) no r)) q 9 (nI no + 1)) = some A ∧ ha_gR A = ha_gR Y ∧ ha_gB A = ha_gB Y ∧ ha_gA A (102 + 16 * q) = upd (ha_gA Y (102 + 16 * q)) no l ∧ ha_gA A (103 + 16 * q) = upd (ha_gA Y (103 + 16 * q)) no m ∧ ha_gA A (104 + 16 * q) = upd (ha_gA Y (104 + 16 * q)) no r ∧ (∀ a, ¬ (102 + 16 * q ≤ a ∧ a ≤ 104 + 16 * q) → ha_gA A a = ha_gA Y a) ∧ ha_gI A q 9 = nI (no + 1) ∧ (ha_gI A q 11 = 0 ∨ ha_gI A q 11 = 1) ∧ (ha_gI A q 11 = 0 → ha_gI Y q 11 = 0 ∧ l ≠ 103 ∧ r ≠ 103) ∧ ∀ o k, ¬ (o = q ∧ (k = 9 ∨ k = 11)) → ha_gI A o k = ha_gI Y o k := by
    intro t ht1 ht2
    have ho := or01 h11 ht1
    unfold f_X8_addOne_J71 f_X8_addOne_J75
    rw [pw_gd ho.1, pw_nm]
    refine ⟨_, rfl, rfl, rfl, ?_, ?_, ?_, fun a ha => ?_, ?_, ?_, ?_, fun o k hk => ?_⟩
    · rw [st_AI, st_AI, st_AA, if_neg (by omega), st_AA, if_neg (by omega), st_AA, if_pos rfl]
    · rw [st_AI, st_AI, st_AA, if_neg (by omega), st_AA, if_pos rfl]
    · rw [st_AI, st_AI, st_AA, if_pos rfl]
    · rw [st_AI, st_AI, st_AA, if_neg (by omega), st_AA, if_neg (by omega), st_AA, if_neg (by omega)]
    · rw [st_II, if_neg (by omega), st_II, if_pos ⟨rfl, rfl⟩, nI_1]
    · rw [st_II, if_pos ⟨rfl, rfl⟩]; exact ho.1
    · rw [st_II, if_pos ⟨rfl, rfl⟩]; exact fun g => ⟨(ho.2 g).1, ht2 (ho.2 g).2⟩
    · rw [st_II, if_neg (by omega), st_II, if_neg (by omega)]; rfl
  unfold f_X8_addOne f_X8_addOne_J66
  rw [h9, pw_ie (show ¬ (40 : Int32) ≤ nI no from (nI_ge hno (by omega) : ¬ nI 40 ≤ nI no)), r2, pw_bs, pw_gd (gd _ l2), pw_nm, nI_clamp (by omega), st_fA, r3, pw_bs, st_IA, h9, pw_gd (gd _ l3), pw_nm, st_fA, st_fA, r4, pw_bs, st_IA, st_IA, h9, pw_gd (gd _ l4), pw_nm, nI_clamp (by omega), st_AA, if_neg (by omega), st_AA, if_neg (by omega), st_AA, if_neg (by omega), pw_nm, st_IA, st_IA, st_IA, h9, st_II, if_neg (show ¬ (q = q ∧ 11 = 9) by omega), st_IA, st_IA, st_IA]
  by_cases c : l = 103
  · rw [pw_it c]
    exact fin 1 (Or.inr rfl) (fun g => absurd g (by decide))
  · rw [pw_ie c]
    by_cases d : r = 103
    · rw [pw_ie (fun g => g d)]
      exact fin 1 (Or.inr rfl) (fun g => absurd g (by decide))
    · rw [pw_it d]
      exact fin 0 (Or.inl rfl) (fun _ => ⟨c, d⟩)
end RDR
