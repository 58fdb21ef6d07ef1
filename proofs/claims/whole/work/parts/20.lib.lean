/-! READING A STORE BEHIND WRITES -/
theorem st_II (S : ha_St) (n k : Nat) (v : Int32) (a b : Nat) : ha_gI (ha_sI S n k v) a b = if a = n ∧ b = k then v else ha_gI S a b := rfl
theorem st_IJ (S : ha_St) (n k : Nat) (v : Int64) (a b : Nat) : ha_gI (ha_sJ S n k v) a b = ha_gI S a b := rfl
theorem st_IR (S : ha_St) (n k : Nat) (v : Option Nat) (a b : Nat) : ha_gI (ha_sR S n k v) a b = ha_gI S a b := rfl
theorem st_IA (S : ha_St) (n : Nat) (f : Nat → Int32) (a b : Nat) : ha_gI (ha_sA S n f) a b = ha_gI S a b := rfl
theorem st_IB (S : ha_St) (n : Nat) (f : Nat → Option Nat) (a b : Nat) : ha_gI (ha_sB S n f) a b = ha_gI S a b := rfl
theorem st_JI (S : ha_St) (n k : Nat) (v : Int32) (a b : Nat) : ha_gJ (ha_sI S n k v) a b = ha_gJ S a b := rfl
theorem st_JJ (S : ha_St) (n k : Nat) (v : Int64) (a b : Nat) : ha_gJ (ha_sJ S n k v) a b = if a = n ∧ b = k then v else ha_gJ S a b := rfl
theorem st_JR (S : ha_St) (n k : Nat) (v : Option Nat) (a b : Nat) : ha_gJ (ha_sR S n k v) a b = ha_gJ S a b := rfl
theorem st_JA (S : ha_St) (n : Nat) (f : Nat → Int32) (a b : Nat) : ha_gJ (ha_sA S n f) a b = ha_gJ S a b := rfl
theorem st_JB (S : ha_St) (n : Nat) (f : Nat → Option Nat) (a b : Nat) : ha_gJ (ha_sB S n f) a b = ha_gJ S a b := rfl
theorem st_RI (S : ha_St) (n k : Nat) (v : Int32) (a b : Nat) : ha_gR (ha_sI S n k v) a b = ha_gR S a b := rfl
theorem st_RJ (S : ha_St) (n k : Nat) (v : Int64) (a b : Nat) : ha_gR (ha_sJ S n k v) a b = ha_gR S a b := rfl
theorem st_RR (S : ha_St) (n k : Nat) (v : Option Nat) (a b : Nat) : ha_gR (ha_sR S n k v) a b = if a = n ∧ b = k then v else ha_gR S a b := rfl
theorem st_RA (S : ha_St) (n : Nat) (f : Nat → Int32) (a b : Nat) : ha_gR (ha_sA S n f) a b = ha_gR S a b := rfl
theorem st_RB (S : ha_St) (n : Nat) (f : Nat → Option Nat) (a b : Nat) : ha_gR (ha_sB S n f) a b = ha_gR S a b := rfl
theorem st_AI (S : ha_St) (n k : Nat) (v : Int32) (a : Nat) : ha_gA (ha_sI S n k v) a = ha_gA S a := rfl
theorem st_AJ (S : ha_St) (n k : Nat) (v : Int64) (a : Nat) : ha_gA (ha_sJ S n k v) a = ha_gA S a := rfl
theorem st_AR (S : ha_St) (n k : Nat) (v : Option Nat) (a : Nat) : ha_gA (ha_sR S n k v) a = ha_gA S a := rfl
theorem st_AA (S : ha_St) (n : Nat) (f : Nat → Int32) (a : Nat) : ha_gA (ha_sA S n f) a = if a = n then f else ha_gA S a := rfl
theorem st_AB (S : ha_St) (n : Nat) (f : Nat → Option Nat) (a : Nat) : ha_gA (ha_sB S n f) a = ha_gA S a := rfl
theorem st_BI (S : ha_St) (n k : Nat) (v : Int32) (a : Nat) : ha_gB (ha_sI S n k v) a = ha_gB S a := rfl
theorem st_BJ (S : ha_St) (n k : Nat) (v : Int64) (a : Nat) : ha_gB (ha_sJ S n k v) a = ha_gB S a := rfl
theorem st_BR (S : ha_St) (n k : Nat) (v : Option Nat) (a : Nat) : ha_gB (ha_sR S n k v) a = ha_gB S a := rfl
theorem st_BA (S : ha_St) (n : Nat) (f : Nat → Int32) (a : Nat) : ha_gB (ha_sA S n f) a = ha_gB S a := rfl
theorem st_BB (S : ha_St) (n : Nat) (f : Nat → Option Nat) (a : Nat) : ha_gB (ha_sB S n f) a = if a = n then f else ha_gB S a := rfl
theorem st_fI (kd : Nat → Nat) (S : ha_St) (n k : Nat) (v : Int32) (a b c : Nat) : ha_rf kd (ha_sI S n k v) a b c = ha_rf kd S a b c := rfl
theorem st_fJ (kd : Nat → Nat) (S : ha_St) (n k : Nat) (v : Int64) (a b c : Nat) : ha_rf kd (ha_sJ S n k v) a b c = ha_rf kd S a b c := rfl
theorem st_fA (kd : Nat → Nat) (S : ha_St) (n : Nat) (f : Nat → Int32) (a b c : Nat) : ha_rf kd (ha_sA S n f) a b c = ha_rf kd S a b c := rfl
theorem st_fB (kd : Nat → Nat) (S : ha_St) (n : Nat) (f : Nat → Option Nat) (a b c : Nat) : ha_rf kd (ha_sB S n f) a b c = ha_rf kd S a b c := rfl
theorem st_bI (kd : Nat → Nat) (S : ha_St) (n k : Nat) (v : Int32) (a b c : Nat) : ha_rb kd (ha_sI S n k v) a b c = ha_rb kd S a b c := rfl
theorem st_bJ (kd : Nat → Nat) (S : ha_St) (n k : Nat) (v : Int64) (a b c : Nat) : ha_rb kd (ha_sJ S n k v) a b c = ha_rb kd S a b c := rfl
theorem st_bR (kd : Nat → Nat) (S : ha_St) (n k : Nat) (v : Option Nat) (a b c : Nat) : ha_rb kd (ha_sR S n k v) a b c = ha_rb kd S a b c := rfl
theorem st_bA (kd : Nat → Nat) (S : ha_St) (n : Nat) (f : Nat → Int32) (a b c : Nat) : ha_rb kd (ha_sA S n f) a b c = ha_rb kd S a b c := rfl
/-! pure words -/
theorem pw_nm {α β : Type} (e : α) (k : α → β) : ha_nm e k = k e := rfl
theorem pw_bs {α β : Type} (e : α) (k : α → Option β) : (some e).bind k = k e := rfl
theorem pw_gd {β : Type} {c : Prop} [Decidable c] (h : c) (x : Option β) : ha_gd c x = x := if_pos h
theorem pw_rf {kd : Nat → Nat} {S : ha_St} {n k ci r : Nat} (h : ha_gR S n k = some r) (hk : kd r = ci) : ha_rf kd S n k ci = some r := by simp [ha_rf, h, hk]
theorem pw_rb {kd : Nat → Nat} {S : ha_St} {n j ci r : Nat} (h : ha_gB S n j = some r) (hk : kd r = ci) : ha_rb kd S n j ci = some r := by simp [ha_rb, h, hk]
/-- a loop that comes out goes on coming out with more fuel -/
theorem pw_more {α β : Type} {F : (α → Option β) → α → Option β} (hF : ∀ f g : α → Option β, (∀ a b, f a = some b → g a = some b) → ∀ a b, F f a = some b → F g a = some b) : ∀ (n : Nat) (a : α) (b : β), ha_itr F n a = some b → ha_itr F (n + 1) a = some b
  | 0, _, _, h => by cases h
  | n + 1, a, b, h => hF _ _ (pw_more hF n) a b h
/-- a loop by a measure: what F does with a loop that does right where the measure is less -/
theorem pw_loop {α β : Type} {F : (α → Option β) → α → Option β} (I : α → Prop) (μ : α → Nat) (P : α → β → Prop) (hs : ∀ (f : α → Option β) (a : α), I a → (∀ a', I a' → μ a' < μ a → ∃ b, f a' = some b ∧ P a' b) → ∃ b, F f a = some b ∧ P a b) : ∀ (n : Nat) (a : α), I a → μ a < n → ∃ b, ha_itr F n a = some b ∧ P a b := by
  intro n
  induction n with
  | zero => intro a _ h; exact absurd h (Nat.not_lt_zero _)
  | succ n ih =>
    intro a hI hμ
    exact hs _ a hI (fun a' h1 h2 => ih a' h1 (by omega))
theorem fu_lt {m : Nat} (h : m < 100000) : m < ha_fu := h
/-! numbers -/
theorem i_lt (a b : Int32) : a < b ↔ a.toInt < b.toInt := Int32.lt_iff_toInt_lt
theorem i_le (a b : Int32) : a ≤ b ↔ a.toInt ≤ b.toInt := Int32.le_iff_toInt_le
theorem i_eq (a b : Int32) : a = b ↔ a.toInt = b.toInt := Int32.toInt_inj.symm
theorem i_cl (a : Int32) : a.toNatClampNeg = a.toInt.toNat := rfl
theorem i_rg (a : Int32) : -2147483648 ≤ a.toInt ∧ a.toInt < 2147483648 := ⟨by have := a.le_toInt; simpa using this, by have := a.toInt_lt; simpa using this⟩
theorem i_add {a b : Int32} (h : -2147483648 ≤ a.toInt + b.toInt) (h2 : a.toInt + b.toInt < 2147483648) : (a + b).toInt = a.toInt + b.toInt := by
  rw [Int32.toInt_add]
  exact Int.bmod_eq_of_le (by omega) (by omega)
theorem i_sub {a b : Int32} (h : -2147483648 ≤ a.toInt - b.toInt) (h2 : a.toInt - b.toInt < 2147483648) : (a - b).toInt = a.toInt - b.toInt := by
  rw [Int32.toInt_sub]
  exact Int.bmod_eq_of_le (by omega) (by omega)
theorem i_mul {a b : Int32} (h : -2147483648 ≤ a.toInt * b.toInt) (h2 : a.toInt * b.toInt < 2147483648) : (a * b).toInt = a.toInt * b.toInt := by
  rw [Int32.toInt_mul]
  exact Int.bmod_eq_of_le (by omega) (by omega)
theorem i_neg {a : Int32} (h : -2147483648 < a.toInt) : (-a).toInt = -a.toInt := by
  have h2 := (i_rg a).2
  rw [Int32.toInt_neg]
  exact Int.bmod_eq_of_le (by omega) (by omega)
