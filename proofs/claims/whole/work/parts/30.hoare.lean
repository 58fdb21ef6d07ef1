/-! WHAT COMES OUT, AND WHAT HOLDS OF IT -/
def Ok {β : Type} (x : Option β) (Q : β → Prop) : Prop := ∃ b, x = some b ∧ Q b
theorem ok_some {β : Type} {b : β} {Q : β → Prop} (h : Q b) : Ok (some b) Q := ⟨b, rfl, h⟩
theorem ok_if {β : Type} {c : Prop} [Decidable c] {a b : Option β} {Q : β → Prop} (h1 : c → Ok a Q) (h2 : ¬ c → Ok b Q) : Ok (if c then a else b) Q := by
  by_cases h : c
  · rw [if_pos h]; exact h1 h
  · rw [if_neg h]; exact h2 h
theorem ok_it {β : Type} {c : Prop} [Decidable c] {a b : Option β} {Q : β → Prop} (h : c) (h1 : Ok a Q) : Ok (if c then a else b) Q := by rw [if_pos h]; exact h1
theorem ok_ie {β : Type} {c : Prop} [Decidable c] {a b : Option β} {Q : β → Prop} (h : ¬ c) (h1 : Ok b Q) : Ok (if c then a else b) Q := by rw [if_neg h]; exact h1
theorem ok_bind {α β : Type} {x : Option α} {k : α → Option β} {P : α → Prop} {Q : β → Prop} (h : Ok x P) (h2 : ∀ a, P a → Ok (k a) Q) : Ok (x.bind k) Q := by
  obtain ⟨a, e, hp⟩ := h
  rw [e]; exact h2 a hp
theorem ok_b {α β : Type} {x : Option α} {a : α} {k : α → Option β} {Q : β → Prop} (h : x = some a) (h2 : Ok (k a) Q) : Ok (x.bind k) Q := by rw [h]; exact h2
theorem ok_gd {β : Type} {c : Prop} [Decidable c] {x : Option β} {Q : β → Prop} (h : c) (h1 : Ok x Q) : Ok (ha_gd c x) Q := by rw [pw_gd h]; exact h1
theorem ok_nm {α β : Type} {e : α} {k : α → Option β} {Q : β → Prop} (h : Ok (k e) Q) : Ok (ha_nm e k) Q := h
theorem ok_mono {β : Type} {x : Option β} {P Q : β → Prop} (h : Ok x P) (h2 : ∀ b, P b → Q b) : Ok x Q := by
  obtain ⟨b, e, hp⟩ := h
  exact ⟨b, e, h2 b hp⟩
theorem ok_eq {β : Type} {x : Option β} {b : β} (h : Ok x (fun z => z = b)) : x = some b := by
  obtain ⟨a, e, rfl⟩ := h
  exact e
theorem ok_of {β : Type} {x : Option β} {b : β} (h : x = some b) : Ok x (fun z => z = b) := ⟨b, h, rfl⟩
/-- a loop that counts up -/
theorem ok_up {α β σ : Type} {F : (α → Option β) → α → Option β} (g : Nat → σ → α) (N : Nat) (I : Nat → σ → Prop) (Q : β → Prop) (h1 : ∀ (f : α → Option β) (i : Nat) (s : σ), i < N → I i s → (∀ s', I (i + 1) s' → Ok (f (g (i + 1) s')) Q) → Ok (F f (g i s)) Q) (h2 : ∀ (f : α → Option β) (s : σ), I N s → Ok (F f (g N s)) Q) : ∀ (k n i : Nat) (s : σ), i + k = N → I i s → k < n → Ok (ha_itr F n (g i s)) Q := by
  intro k
  induction k with
  | zero =>
    intro n i s h hI hn
    obtain ⟨n, rfl⟩ : ∃ q, n = q + 1 := ⟨n - 1, by omega⟩
    obtain rfl : i = N := by omega
    exact h2 _ s hI
  | succ k ih =>
    intro n i s h hI hn
    obtain ⟨n, rfl⟩ : ∃ q, n = q + 1 := ⟨n - 1, by omega⟩
    exact h1 _ i s (by omega) hI (fun s' hs' => ih n (i + 1) s' (by omega) hs' (by omega))
/-- the loop begun at i0, with the fuel of all loops -/
theorem ok_for {α β σ : Type} {F : (α → Option β) → α → Option β} (g : Nat → σ → α) (i0 N : Nat) (I : Nat → σ → Prop) (Q : β → Prop) (s0 : σ) (h0 : I i0 s0) (hi : i0 ≤ N) (hN : N - i0 < 100000) (h1 : ∀ (f : α → Option β) (i : Nat) (s : σ), i < N → I i s → (∀ s', I (i + 1) s' → Ok (f (g (i + 1) s')) Q) → Ok (F f (g i s)) Q) (h2 : ∀ (f : α → Option β) (s : σ), I N s → Ok (F f (g N s)) Q) : Ok (ha_itr F ha_fu (g i0 s0)) Q := ok_up g N I Q h1 h2 (N - i0) ha_fu i0 s0 (by omega) h0 (fu_lt hN)
/-- a loop that counts down from N: at i there are i rounds left -/
theorem ok_dn {α β σ : Type} {F : (α → Option β) → α → Option β} (g : Nat → σ → α) (I : Nat → σ → Prop) (Q : β → Prop) (h1 : ∀ (f : α → Option β) (i : Nat) (s : σ), I (i + 1) s → (∀ s', I i s' → Ok (f (g i s')) Q) → Ok (F f (g (i + 1) s)) Q) (h2 : ∀ (f : α → Option β) (s : σ), I 0 s → Ok (F f (g 0 s)) Q) : ∀ (i n : Nat) (s : σ), I i s → i < n → Ok (ha_itr F n (g i s)) Q := by
  intro i
  induction i with
  | zero =>
    intro n s hI hn
    obtain ⟨n, rfl⟩ : ∃ q, n = q + 1 := ⟨n - 1, by omega⟩
    exact h2 _ s hI
  | succ i ih =>
    intro n s hI hn
    obtain ⟨n, rfl⟩ : ∃ q, n = q + 1 := ⟨n - 1, by omega⟩
    exact h1 _ i s hI (fun s' hs' => ih n s' hs' (by omega))
/-- a loop by a measure -/
theorem ok_wh {α β : Type} {F : (α → Option β) → α → Option β} (I : α → Prop) (μ : α → Nat) (Q : β → Prop) (h1 : ∀ (f : α → Option β) (a : α), I a → (∀ a', I a' → μ a' < μ a → Ok (f a') Q) → Ok (F f a) Q) (n : Nat) (a : α) (hI : I a) (hn : μ a < n) : Ok (ha_itr F n a) Q := pw_loop I μ (fun _ b => Q b) h1 n a hI hn
theorem agr_ok {u w : Option (Int32 × ha_St)} (h : Ok u (fun a => Ok w (fun b => a.1 = b.1 ∧ Inv a.2 b.2))) : Agr u w := by
  obtain ⟨a, e, b, e2, h1, h2⟩ := h
  exact ⟨a, b, e, e2, h1, h2⟩
/-! numbers out of ints -/
theorem n_of {x : Int32} {N : Nat} (h : 0 ≤ x.toInt) (h2 : x.toInt ≤ N) : ∃ n, n ≤ N ∧ x = nI n := ⟨x.toInt.toNat, by omega, nI_ofI h⟩
theorem nI_mul (a b : Nat) : nI a * nI b = nI (a * b) := (Int32.ofNat_mul a b).symm
theorem n_sub {a b : Nat} (h : b ≤ a) : nI a - nI b = nI (a - b) := by
  have : nI a = nI (a - b) + nI b := by rw [nI_add, Nat.sub_add_cancel h]
  rw [this, Int32.add_sub_cancel]
theorem n_sub1 {a : Nat} (h : 1 ≤ a) : nI a - 1 = nI (a - 1) := n_sub h
theorem n_tn {n : Nat} (h : n < 2 ^ 31) : (nI n).toInt.toNat = n := by rw [nI_toInt h]; omega
theorem n_lit1 : (1 : Int32) = nI 1 := rfl
theorem n_lit0 : (0 : Int32) = nI 0 := rfl
/-- the guard of an index -/
theorem n_in {c N : Nat} (h : c < N) (hN : c < 2 ^ 31) : ¬ (nI c < 0 ∨ N ≤ (nI c).toNatClampNeg) := by
  rw [nI_clamp hN]
  rintro (g | g)
  · exact nI_pos hN g
  · omega
theorem n_in2 {c N : Nat} (h : c < N) (hN : c < 2 ^ 31) : ¬ (nI c < 0 ∨ N ≤ c) := by
  rintro (g | g)
  · exact nI_pos hN g
  · omega
theorem ne10 : ¬ (1 : Int32) = 0 := by decide
