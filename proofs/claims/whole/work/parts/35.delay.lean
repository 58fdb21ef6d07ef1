/-! DELAYS: closed matrices -/
def Cl (n : Nat) (A : Nat → Nat → Int) : Prop := (∀ i, i ≤ n → A i i = 0) ∧ ∀ i j k, i ≤ n → j ≤ n → k ≤ n → A i j ≤ A i k + A k j
def Im (M : ha_St) (n c : Nat) (A : Nat → Nat → Int) : Prop := (∀ i, i < n → A i (i + 1) ≤ 9 ∧ A (i + 1) i ≤ -1) ∧ ∀ k, k < c → A (ha_gA M 76 k).toInt.toNat ((ha_gA M 77 k).toInt.toNat + 1) ≤ (ha_gA M 78 k).toInt ∧ A ((ha_gA M 77 k).toInt.toNat + 1) (ha_gA M 76 k).toInt.toNat ≤ -(ha_gA M 78 k).toInt
def So (M : ha_St) (n c : Nat) (A : Nat → Nat → Int) : Prop := ∀ d, Fits M n c d → ∀ i j, i ≤ n → j ≤ n → d j - d i ≤ A i j
def Ti (M : ha_St) (n c : Nat) (A : Nat → Nat → Int) : Prop := ∀ i j, i ≤ n → j ≤ n → (∀ d, Fits M n c d → d j - d i ≤ A i j) ∧ ∃ d, Fits M n c d ∧ d j - d i = A i j
/-- where the notes lie -/
def Nt (M : ha_St) (n c : Nat) : Prop := ∀ k, k < c → (ha_gA M 76 k).toInt.toNat ≤ n ∧ (ha_gA M 77 k).toInt.toNat + 1 ≤ n ∧ 1 ≤ (ha_gA M 78 k).toInt ∧ (ha_gA M 78 k).toInt ≤ 200
theorem ti_of {M : ha_St} {n c : Nat} {A : Nat → Nat → Int} (hN : Nt M n c) (h1 : Cl n A) (h2 : Im M n c A) (h3 : So M n c A) : Ti M n c A := by
  intro i j hi hj
  refine ⟨fun d hd => h3 d hd i j hi hj, fun k => A i k, ⟨fun k hk => ?_, fun k hk => ?_⟩, ?_⟩
  · have a := h1.2 i (k + 1) k hi (by omega) (by omega)
    have b := h1.2 i k (k + 1) hi (by omega) (by omega)
    have e := h2.1 k hk
    dsimp only
    omega
  · obtain ⟨n1, n2, -, -⟩ := hN k hk
    have e := h2.2 k hk
    have a := h1.2 i ((ha_gA M 77 k).toInt.toNat + 1) (ha_gA M 76 k).toInt.toNat hi n2 n1
    have b := h1.2 i (ha_gA M 76 k).toInt.toNat ((ha_gA M 77 k).toInt.toNat + 1) hi n1 n2
    dsimp only
    omega
  · have := h1.1 i hi
    dsimp only
    omega
theorem ti_u {M : ha_St} {n c : Nat} {A B : Nat → Nat → Int} (hA : Ti M n c A) (hB : Ti M n c B) {i j : Nat} (hi : i ≤ n) (hj : j ≤ n) : A i j = B i j := by
  obtain ⟨a1, d, a2, a3⟩ := hA i j hi hj
  obtain ⟨b1, e, b2, b3⟩ := hB i j hi hj
  have h1 := b1 d a2
  have h2 := a1 e b2
  omega
/-! the class: one limit more -/
def mx (S : ha_St) (i j : Nat) : Int := (ha_gA S (2000 + i) j).toInt
/-- the states of weighing: what else stays -/
def FrD (X S : ha_St) : Prop := ha_gR S = ha_gR X ∧ ha_gB S = ha_gB X ∧ (∀ o k, ¬ (o = 9 ∧ 5 ≤ k ∧ k ≤ 7) → ha_gI S o k = ha_gI X o k) ∧ ∀ a, a < 2000 ∨ 2017 ≤ a → ha_gA S a = ha_gA X a
theorem frD_r (X : ha_St) : FrD X X := ⟨rfl, rfl, fun _ _ _ => rfl, fun _ _ => rfl⟩
theorem frD_t {X S T : ha_St} (h : FrD X S) (g : FrD S T) : FrD X T := ⟨g.1.trans h.1, g.2.1.trans h.2.1, fun o k c => (g.2.2.1 o k c).trans (h.2.2.1 o k c), fun a c => (g.2.2.2 a c).trans (h.2.2.2 a c)⟩
theorem frD_A {X S : ha_St} (h : FrD X S) {a : Nat} (ha : 2000 ≤ a ∧ a < 2017) (f : Nat → Int32) : FrD X (ha_sA S a f) := ⟨h.1, h.2.1, h.2.2.1, fun b hb => by rw [st_AA, if_neg (by omega)]; exact h.2.2.2 b hb⟩
theorem frD_I {X S : ha_St} (h : FrD X S) {k : Nat} (hk : 5 ≤ k ∧ k ≤ 7) (v : Int32) : FrD X (ha_sI S 9 k v) := ⟨h.1, h.2.1, fun o j c => by rw [st_II, if_neg (by omega)]; exact h.2.2.1 o j c, h.2.2.2⟩
theorem rowR {S : ha_St} (hIB : IB S) {i : Nat} (hi : i < 17) : ha_rb xo_kd S 248 i 100 = some (2000 + i) := pw_rb (hIB.2.2 i hi) (by
  have : ∀ i, i < 17 → xo_kd (2000 + i) = 100 := by decide +kernel
  exact this i hi)
theorem rowL : ∀ i, i < 17 → xo_ln (2000 + i) = 17 := by decide +kernel
/-- what tighten makes of A -/
def nw (A : Nat → Nat → Int) (a b : Nat) (c : Int) (i j : Nat) : Int := min (A i j) (A i a + c + A b j)
theorem nw_a {A : Nat → Nat → Int} {a b : Nat} {c : Int} (h : 0 ≤ c + A b a) (i : Nat) : nw A a b c i a = A i a := by
  unfold nw; omega
theorem nw_b {A : Nat → Nat → Int} {a b : Nat} {c : Int} (h : 0 ≤ c + A b a) (j : Nat) : nw A a b c b j = A b j := by
  unfold nw; omega
theorem nw_cl {n : Nat} {A : Nat → Nat → Int} {a b : Nat} {c : Int} (hA : Cl n A) (ha : a ≤ n) (hb : b ≤ n) (h : 0 ≤ c + A b a) : Cl n (nw A a b c) := by
  constructor
  · intro i hi
    have e := hA.1 i hi
    have t := hA.2 b a i hb ha hi
    unfold nw; omega
  · intro i j k hi hj hk
    have t1 := hA.2 i j k hi hj hk
    have t2 := hA.2 i a k hi ha hk
    have t3 := hA.2 b j k hb hj hk
    have t4 := hA.2 b a k hb ha hk
    unfold nw; omega
theorem tight_x {S : ha_St} (hIR : IR S) (hIB : IB S) {n a b : Nat} {c : Int32} (hE : ha_gI S 9 5 = nI (n + 1)) (hn : n ≤ 16) (ha : a ≤ n) (hb : b ≤ n) (hc : -200 ≤ c.toInt ∧ c.toInt ≤ 200) (hA : Cl n (mx S)) (hu : ∀ i j, i ≤ n → j ≤ n → mx S i j ≤ 144) : Ok (f_X2_tighten 9 (nI a) (nI b) c S) (fun z => (z.1 = 0 ∧ z.2 = S ∧ c.toInt + mx S b a < 0) ∨ (z.1 = 1 ∧ 0 ≤ c.toInt + mx S b a ∧ FrD S z.2 ∧ (∀ o k, ha_gI z.2 o k = ha_gI S o k) ∧ ∀ i j, i ≤ n → j ≤ n → mx z.2 i j = nw (mx S) a b c.toInt i j)) := by
  have hl : xo_ln 248 = 17 := by decide +kernel
  have hlow : ∀ i j, i ≤ n → j ≤ n → -144 ≤ mx S i j := by
    intro i j hi hj
    have := hA.2 i i j hi hi hj
    have := hA.1 i hi
    have := hu j i hj hi
    omega
  unfold f_X2_tighten f_X2_tighten_J109
  refine ok_b (xr hIR 9 4 104 248) (ok_gd (by rw [hl]; exact n_in (by omega) (by omega)) ?_)
  rw [nI_clamp (show a < 2 ^ 31 by omega), nI_clamp (show b < 2 ^ 31 by omega)]
  refine ok_b (rowR hIB (by omega)) (ok_gd (by rw [rowL a (by omega)]; exact n_in2 (by omega) (by omega)) ?_)
  refine ok_if (fun c1 => ?_) (fun c1 => ?_)
  · refine ok_b (xr hIR 9 4 104 248) (ok_gd (by rw [hl]; exact n_in2 (by omega) (by omega)) (ok_b (rowR hIB (by omega)) (ok_gd (by rw [rowL b (by omega)]; exact n_in2 (by omega) (by omega)) ?_)))
    have sb : (c + ha_gA S (2000 + b) a).toInt = c.toInt + mx S b a := by
      have h1 := hu b a hb ha
      have h2 := hlow b a hb ha
      unfold mx at h1 h2 ⊢
      exact i_add (by omega) (by omega)
    refine ok_if (fun c2 => ?_) (fun c2 => ok_some (Or.inl ⟨rfl, rfl, by rw [i_le, sb, z_0] at c2; omega⟩))
    rw [i_le, sb, z_0] at c2
    refine ok_bind (P := fun T => FrD S T ∧ (∀ o k, ha_gI T o k = ha_gI S o k) ∧ ∀ i j, i ≤ n → j ≤ n → mx T i j = nw (mx S) a b c.toInt i j) ?_ (fun T hT => ok_some (Or.inr ⟨rfl, c2, hT⟩))
    refine ok_for (fun i (T : ha_St) => (nI i, T)) 0 (n + 1) (fun i T => FrD S T ∧ (∀ o k, ha_gI T o k = ha_gI S o k) ∧ ∀ x j, x ≤ n → j ≤ n → mx T x j = if x < i then nw (mx S) a b c.toInt x j else mx S x j) _ S ⟨frD_r S, fun _ _ => rfl, fun x j _ _ => by rw [if_neg (by omega)]⟩ (by omega) (by omega) ?_ ?_
    · rintro f i T hi ⟨hF, hII, hm⟩ ih
      show Ok (f_X2_tighten_L32 9 (nI a) (nI b) c f (nI i) T) _
      unfold f_X2_tighten_L32 f_X2_tighten_L32_J103
      rw [hII, hE]
      refine ok_ie (nI_ge hi (by omega)) (ok_bind (P := fun z => z.1 = nI i ∧ FrD S z.2 ∧ (∀ o k, ha_gI z.2 o k = ha_gI S o k) ∧ ∀ x j, x ≤ n → j ≤ n → mx z.2 x j = if x < i + 1 then nw (mx S) a b c.toInt x j else mx S x j) ?_ ?_)
      · have hIR1 : IR T := IR_c (X := S) hF.1 hIR
        have hIB1 : IB T := IB_c (X := S) (by rw [hF.2.1]) (by rw [hF.2.1]) (by rw [hF.2.1]) hIB
        refine ok_for (fun j (T : ha_St) => (nI i, nI j, T)) 0 (n + 1) (fun j V => FrD S V ∧ (∀ o k, ha_gI V o k = ha_gI S o k) ∧ ∀ x y, x ≤ n → y ≤ n → mx V x y = if x < i ∨ (x = i ∧ y < j) then nw (mx S) a b c.toInt x y else mx S x y) _ T ⟨hF, hII, fun x y hx hy => by rw [hm x y hx hy]; by_cases q : x < i <;> simp [q]⟩ (by omega) (by omega) ?_ ?_
        · rintro f2 j V hj ⟨hF2, hII2, hm2⟩ ih2
          have hIR2 : IR V := IR_c (X := S) hF2.1 hIR
          have hIB2 : IB V := IB_c (X := S) (by rw [hF2.2.1]) (by rw [hF2.2.1]) (by rw [hF2.2.1]) hIB
          show Ok (f_X2_tighten_L44 9 (nI a) (nI b) c f2 (nI i) (nI j) V) _
          unfold f_X2_tighten_L44
          rw [hII2, hE]
          rw [nI_clamp (show a < 2 ^ 31 by omega), nI_clamp (show b < 2 ^ 31 by omega), nI_clamp (show i < 2 ^ 31 by omega), nI_clamp (show j < 2 ^ 31 by omega)]
          refine ok_ie (nI_ge hj (by omega)) (ok_b (xr hIR2 9 4 104 248) (ok_gd (by rw [hl]; exact n_in2 (by omega) (by omega)) (ok_b (rowR hIB2 (by omega)) (ok_b (xr hIR2 9 4 104 248) (ok_gd (by rw [hl]; exact n_in2 (by omega) (by omega)) (ok_b (rowR hIB2 (by omega)) (ok_gd (by rw [rowL i (by omega)]; exact n_in2 (by omega) (by omega)) (ok_b (xr hIR2 9 4 104 248) (ok_gd (by rw [hl]; exact n_in2 (by omega) (by omega)) (ok_b (rowR hIB2 (by omega)) (ok_gd (by rw [rowL i (by omega)]; exact n_in2 (by omega) (by omega)) (ok_b (xr hIR2 9 4 104 248) (ok_gd (by rw [hl]; exact n_in2 (by omega) (by omega)) (ok_b (rowR hIB2 (by omega)) (ok_gd (by rw [rowL b (by omega)]; exact n_in2 (by omega) (by omega)) (ok_gd (by rw [rowL i (by omega)]; exact n_in2 (by omega) (by omega)) ?_))))))))))))))))
          simp only [pw_nm, nI_1]
          have v1 : mx V i a = mx S i a := by
            rw [hm2 i a (by omega) ha]
            by_cases q : i < i ∨ (i = i ∧ a < j)
            · rw [if_pos q, nw_a c2]
            · rw [if_neg q]
          have v2 : mx V b j = mx S b j := by
            rw [hm2 b j hb (by omega)]
            by_cases q : b < i ∨ (b = i ∧ j < j)
            · rw [if_pos q, nw_b c2]
            · rw [if_neg q]
          have v3 : mx V i j = mx S i j := by rw [hm2 i j (by omega) (by omega), if_neg (by omega)]
          have l1 := hu i a (by omega) ha
          have l2 := hlow i a (by omega) ha
          have l3 := hu b j hb (by omega)
          have l4 := hlow b j hb (by omega)
          have s1 : (ha_gA V (2000 + i) a + c).toInt = mx S i a + c.toInt := by
            rw [← v1] at l1 l2 ⊢
            unfold mx at l1 l2 ⊢
            exact i_add (by omega) (by omega)
          have s2 : (ha_gA V (2000 + i) a + c + ha_gA V (2000 + b) j).toInt = mx S i a + c.toInt + mx S b j := by
            have hv2 : (ha_gA V (2000 + b) j).toInt = mx S b j := v2
            rw [i_add (by rw [s1, hv2]; omega) (by rw [s1, hv2]; omega), s1, hv2]
          refine ih2 _ ⟨frD_A hF2 (by omega) _, fun o k => hII2 o k, fun x y hx hy => ?_⟩
          by_cases q : x = i
          · subst q
            have e : mx (ha_sA V (2000 + x) (upd (ha_gA V (2000 + x)) j (if ha_gA V (2000 + x) a + c + ha_gA V (2000 + b) j < ha_gA V (2000 + x) j then ha_gA V (2000 + x) a + c + ha_gA V (2000 + b) j else ha_gA V (2000 + x) j))) x y = (upd (ha_gA V (2000 + x)) j (if ha_gA V (2000 + x) a + c + ha_gA V (2000 + b) j < ha_gA V (2000 + x) j then ha_gA V (2000 + x) a + c + ha_gA V (2000 + b) j else ha_gA V (2000 + x) j) y).toInt := by
              unfold mx; rw [st_AA, if_pos rfl]
            rw [e]
            by_cases w : y = j
            · subst w
              rw [pk_us, if_pos (show x < x ∨ (x = x ∧ y < y + 1) by omega)]
              unfold nw
              have v3' : (ha_gA V (2000 + x) y).toInt = mx S x y := v3
              by_cases z : ha_gA V (2000 + x) a + c + ha_gA V (2000 + b) y < ha_gA V (2000 + x) y
              · rw [if_pos z, s2]
                rw [i_lt, s2, v3'] at z
                omega
              · rw [if_neg z, v3']
                rw [i_lt, s2, v3'] at z
                omega
            · rw [pk_un w]
              have := hm2 x y hx hy
              unfold mx at this ⊢
              rw [this]
              by_cases z : x < x ∨ (x = x ∧ y < j)
              · rw [if_pos z, if_pos (by omega)]
              · rw [if_neg z, if_neg (by omega)]
          · have e : ∀ g, mx (ha_sA V (2000 + i) g) x y = mx V x y := fun g => by
              unfold mx; rw [st_AA, if_neg (by omega)]
            rw [e, hm2 x y hx hy]
            by_cases z : x < i ∨ (x = i ∧ y < j)
            · rw [if_pos z, if_pos (by omega)]
            · rw [if_neg z, if_neg (by omega)]
        · rintro f2 V ⟨hF2, hII2, hm2⟩
          show Ok (f_X2_tighten_L44 9 (nI a) (nI b) c f2 (nI i) (nI (n + 1)) V) _
          unfold f_X2_tighten_L44
          rw [hII2, hE]
          refine ok_it (nI_le (Nat.le_refl _) (by omega)) (ok_some ⟨rfl, hF2, hII2, fun x y hx hy => ?_⟩)
          rw [hm2 x y hx hy]
          by_cases z : x < i + 1
          · rw [if_pos z, if_pos (by omega)]
          · rw [if_neg z, if_neg (by omega)]
      · rintro ⟨w, V⟩ ⟨h1, h2⟩
        have h1 : w = nI i := h1
        subst h1
        simp only [pw_nm, nI_1]
        exact ih V h2
    · rintro f T ⟨hF, hII, hm⟩
      show Ok (f_X2_tighten_L32 9 (nI a) (nI b) c f (nI (n + 1)) T) _
      unfold f_X2_tighten_L32
      rw [hII, hE]
      refine ok_it (nI_le (Nat.le_refl _) (by omega)) (ok_some ⟨hF, hII, fun i j hi hj => ?_⟩)
      rw [hm i j hi hj, if_pos (by omega)]
  · rw [i_lt] at c1
    have c1 : ¬ c.toInt < mx S a b := c1
    have t1 := hA.2 b b a hb hb ha
    have t2 := hA.1 b hb
    refine ok_some (Or.inr ⟨rfl, by omega, frD_r S, fun _ _ => rfl, fun i j hi hj => ?_⟩)
    have t3 := hA.2 i j a hi hj ha
    have t4 := hA.2 a j b ha hj hb
    dsimp only
    unfold nw
    omega
theorem fits_s {M : ha_St} {n c : Nat} {d : Nat → Int} (h : Fits M n (c + 1) d) : Fits M n c d ∧ d ((ha_gA M 77 c).toInt.toNat + 1) - d (ha_gA M 76 c).toInt.toNat = (ha_gA M 78 c).toInt := ⟨⟨h.1, fun k hk => h.2 k (by omega)⟩, h.2 c (by omega)⟩
theorem frD_IR {X S : ha_St} (h : FrD X S) (hIR : IR X) : IR S := IR_c (X := X) h.1 hIR
theorem frD_IB {X S : ha_St} (h : FrD X S) (hIB : IB X) : IB S := IB_c (X := X) (by rw [h.2.1]) (by rw [h.2.1]) (by rw [h.2.1]) hIB
/-- the first limits -/
def ini (i j : Nat) : Int := if i < j then 9 * ((j : Int) - i) else (j : Int) - i
theorem ini_cl (n : Nat) : Cl n ini := by
  constructor
  · intro i _
    unfold ini; rw [if_neg (by omega)]; omega
  · intro i j k _ _ _
    unfold ini
    by_cases a : i < j <;> by_cases b : i < k <;> by_cases c : k < j <;> simp only [a, b, c, if_true, if_false] <;> omega
theorem weigh_i {S : ha_St} (hIR : IR S) (hIB : IB S) {n : Nat} (p1 p2 : Int32) (hE : ha_gI S 9 5 = nI (n + 1)) (hn : n ≤ 16) : Ok (f_X2_weigh_L24i 9 p1 p2 ha_fu (0, S)) (fun T => FrD S T ∧ (∀ o k, ha_gI T o k = ha_gI S o k) ∧ ∀ i j, i ≤ n → j ≤ n → mx T i j = ini i j) := by
  have hl : xo_ln 248 = 17 := by decide +kernel
  refine ok_for (fun i (T : ha_St) => (nI i, T)) 0 (n + 1) (fun i T => FrD S T ∧ (∀ o k, ha_gI T o k = ha_gI S o k) ∧ ∀ x j, x < i → j ≤ n → mx T x j = ini x j) _ S ⟨frD_r S, fun _ _ => rfl, fun x j h _ => by omega⟩ (by omega) (by omega) ?_ ?_
  · rintro f i T hi ⟨hF, hII, hm⟩ ih
    show Ok (f_X2_weigh_L24 9 p1 p2 f (nI i) T) _
    unfold f_X2_weigh_L24 f_X2_weigh_L24_J76
    rw [hII, hE]
    refine ok_ie (nI_ge hi (by omega)) (ok_bind (P := fun z => z.1 = nI i ∧ FrD S z.2 ∧ (∀ o k, ha_gI z.2 o k = ha_gI S o k) ∧ ∀ x j, x < i + 1 → j ≤ n → mx z.2 x j = ini x j) ?_ ?_)
    · refine ok_for (fun j (T : ha_St) => (nI i, nI j, T)) 0 (n + 1) (fun j V => FrD S V ∧ (∀ o k, ha_gI V o k = ha_gI S o k) ∧ (∀ x y, x < i → y ≤ n → mx V x y = ini x y) ∧ ∀ y, y < j → mx V i y = ini i y) _ T ⟨hF, hII, hm, fun y h => by omega⟩ (by omega) (by omega) ?_ ?_
      · rintro f2 j V hj ⟨hF2, hII2, hm2, hr⟩ ih2
        have hIR2 := frD_IR hF2 hIR
        have hIB2 := frD_IB hF2 hIB
        show Ok (f_X2_weigh_L35 9 p1 p2 f2 (nI i) (nI j) V) _
        unfold f_X2_weigh_L35 f_X2_weigh_L35_J68
        simp only [pw_nm, nI_1]
        rw [hII2, hE, nI_clamp (show i < 2 ^ 31 by omega), nI_clamp (show j < 2 ^ 31 by omega)]
        have st : ∀ v : Int32, v.toInt = ini i j → Ok (f2 (nI i, nI (j + 1), ha_sA V (2000 + i) (upd (ha_gA V (2000 + i)) j v))) (fun z => z.1 = nI i ∧ FrD S z.2 ∧ (∀ o k, ha_gI z.2 o k = ha_gI S o k) ∧ ∀ x j, x < i + 1 → j ≤ n → mx z.2 x j = ini x j) := by
          intro v hv
          refine ih2 _ ⟨frD_A hF2 (by omega) _, fun o k => hII2 o k, fun x y hx hy => ?_, fun y hy => ?_⟩
          · unfold mx; rw [st_AA, if_neg (by omega)]; exact hm2 x y hx hy
          · unfold mx
            rw [st_AA, if_pos rfl]
            by_cases w : y = j
            · rw [w, pk_us]; exact hv
            · rw [pk_un w]; exact hr y (by omega)
        have sub : (nI j - nI i).toInt = (j : Int) - i := by
          rw [i_sub (by rw [nI_toInt (by omega), nI_toInt (by omega)]; omega) (by rw [nI_toInt (by omega), nI_toInt (by omega)]; omega), nI_toInt (by omega), nI_toInt (by omega)]
        refine ok_ie (nI_ge hj (by omega)) (ok_b (xr hIR2 9 4 104 248) (ok_gd (by rw [hl]; exact n_in2 (by omega) (by omega)) (ok_b (rowR hIB2 (by omega)) ?_)))
        refine ok_if (fun c => ok_gd (by rw [rowL i (by omega)]; exact n_in2 (by omega) (by omega)) (st _ ?_)) (fun c => ok_gd (by rw [rowL i (by omega)]; exact n_in2 (by omega) (by omega)) (st _ ?_))
        · rw [nI_leI (by omega) (by omega)] at c
          rw [Int32.mul_one, sub]
          unfold ini; rw [if_neg (by omega)]
        · rw [nI_leI (by omega) (by omega)] at c
          have z9 : (9 : Int32).toInt = 9 := rfl
          rw [i_mul (by rw [sub, z9]; omega) (by rw [sub, z9]; omega), sub, z9]
          unfold ini; rw [if_pos (by omega)]; omega
      · rintro f2 V ⟨hF2, hII2, hm2, hr⟩
        show Ok (f_X2_weigh_L35 9 p1 p2 f2 (nI i) (nI (n + 1)) V) _
        unfold f_X2_weigh_L35
        rw [hII2, hE]
        refine ok_it (nI_le (Nat.le_refl _) (by omega)) (ok_some ⟨rfl, hF2, hII2, fun x y hx hy => ?_⟩)
        by_cases q : x = i
        · rw [q]; exact hr y (by omega)
        · exact hm2 x y (by omega) hy
    · rintro ⟨w, V⟩ ⟨h1, h2⟩
      have h1 : w = nI i := h1
      subst h1
      simp only [pw_nm, nI_1]
      exact ih V h2
  · rintro f T ⟨hF, hII, hm⟩
    show Ok (f_X2_weigh_L24 9 p1 p2 f (nI (n + 1)) T) _
    unfold f_X2_weigh_L24
    rw [hII, hE]
    exact ok_it (nI_le (Nat.le_refl _) (by omega)) (ok_some ⟨hF, hII, fun i j hi hj => hm i j (by omega) hj⟩)
