/-! THE LINE OF TOWERS, purely -/
abbrev TW : Type := (Nat → Int32) × Nat × Nat × Int32 × (Nat → Int32)
abbrev LNS : Type := (Nat → Int32) × (Nat → Int32) × (Nat → Int32) × Nat × Nat × Int32 × (Nat → Int32)
def tn (x : Int32) : Nat := x.toInt.toNat
theorem tn_n {n : Nat} (h : n < 2 ^ 31) : tn (nI n) = n := by unfold tn; rw [nI_toInt h]; omega
theorem tn_cl (x : Int32) : x.toNatClampNeg = tn x := rfl
theorem n_tnI {x : Int32} (h : 0 ≤ x.toInt) : x = nI (tn x) := nI_ofI h
def hol (g a b : Int32) : Bool := if g = 60 then decide (a < b) else if g = 61 then decide (a = b) else if g = 62 then decide (b < a) else decide (¬ a = b)
def alo (M : ha_St) (k : Nat) (w : Nat → Int32) (i j : Nat) : Bool := decide (∀ x, x < j → i ≤ x → hol (ha_gA M 19 (40 * k + x)) (w (tn (ha_gA M 18 (40 * k + x)))) (w (tn (ha_gA M 20 (40 * k + x)))) = true)
def rbn (f : Nat → Int32) (k r : Nat) : Nat := if r = 0 then 0 else tn (f (20 * k + r - 1))
def enn (f : Nat → Int32) (k r : Nat) : Nat := tn (f (20 * k + r))
theorem rbn_s (f : Nat → Int32) (k r : Nat) : rbn f k (r + 1) = enn f k r := by
  unfold rbn enn
  rw [if_neg (by omega), show 20 * k + (r + 1) - 1 = 20 * k + r by omega]
/-- rule r of program k holds by the row w -/
def rho (M : ha_St) (k : Nat) (w : Nat → Int32) (r : Nat) : Bool := alo M k w (rbn (ha_gA M 16) k r) (enn (ha_gA M 16) k r)
def frl (M : ha_St) (k : Nat) (w : Nat → Int32) : Nat → Nat → Option Nat
  | 0, _ => none
  | d + 1, r => if rho M k w r = true then some r else frl M k w d (r + 1)
theorem frl_some {M : ha_St} {k : Nat} {w : Nat → Int32} : ∀ (d r0 r : Nat), r0 ≤ r → r < r0 + d → (∀ q, r0 ≤ q → q < r → ¬ rho M k w q = true) → rho M k w r = true → frl M k w d r0 = some r
  | 0, r0, r, h1, h2, _, _ => by omega
  | d + 1, r0, r, h1, h2, h3, h4 => by
    show (if rho M k w r0 = true then some r0 else frl M k w d (r0 + 1)) = some r
    by_cases e : r0 = r
    · subst e; rw [if_pos h4]
    · rw [if_neg (h3 r0 (Nat.le_refl _) (by omega))]
      exact frl_some d (r0 + 1) r (by omega) (by omega) (fun q a b => h3 q (by omega) b) h4
theorem frl_none {M : ha_St} {k : Nat} {w : Nat → Int32} : ∀ (d r0 : Nat), (∀ q, r0 ≤ q → q < r0 + d → ¬ rho M k w q = true) → frl M k w d r0 = none
  | 0, _, _ => rfl
  | d + 1, r0, h3 => by
    show (if rho M k w r0 = true then some r0 else frl M k w d (r0 + 1)) = none
    rw [if_neg (h3 r0 (Nat.le_refl _) (by omega))]
    exact frl_none d (r0 + 1) (fun q a b => h3 q (by omega) (by omega))
theorem frl_lt {M : ha_St} {k : Nat} {w : Nat → Int32} : ∀ (d r0 r : Nat), frl M k w d r0 = some r → r0 ≤ r ∧ r < r0 + d
  | 0, _, _, h => by cases h
  | d + 1, r0, r, h => by
    have h : (if rho M k w r0 = true then some r0 else frl M k w d (r0 + 1)) = some r := h
    by_cases c : rho M k w r0 = true
    · rw [if_pos c] at h
      cases h
      omega
    · rw [if_neg c] at h
      have := frl_lt d (r0 + 1) r h
      omega
theorem frl_cg {M : ha_St} {k : Nat} {w w' : Nat → Int32} : ∀ (d r0 : Nat), (∀ q, r0 ≤ q → q < r0 + d → rho M k w q = rho M k w' q) → frl M k w d r0 = frl M k w' d r0
  | 0, _, _ => rfl
  | d + 1, r0, h3 => by
    show (if rho M k w r0 = true then some r0 else frl M k w d (r0 + 1)) = (if rho M k w' r0 = true then some r0 else frl M k w' d (r0 + 1))
    rw [h3 r0 (Nat.le_refl _) (by omega), frl_cg d (r0 + 1) (fun q a b => h3 q (by omega) (by omega))]
def wat (M : ha_St) (m s : Nat) : Int32 := if s < m then ha_gA M 27 s else -1
def acv (M : ha_St) (k i : Nat) (w : Nat → Int32) : Int32 := (w (tn (ha_gA M 22 (40 * k + i))) + (if ha_gA M 23 (40 * k + i) = -1 then 0 else w (tn (ha_gA M 23 (40 * k + i))))) &&& 63
/-- one act: of the first tower (fs), of the last one (ls) -/
def ac1 (M : ha_St) (m k : Nat) (fs ls : Bool) (i : Nat) (s : TW) : TW :=
  if ha_gA M 21 (40 * k + i) = 6 then (if fs = true ∧ s.2.1 < m then (upd s.1 104 (wat M m (s.2.1 + 1)), s.2.1 + 1, s.2.2) else s)
  else if ha_gA M 21 (40 * k + i) = 4 then (upd s.1 102 (acv M k i s.1), s.2)
  else if (ha_gA M 21 (40 * k + i)).toInt < 4 then (upd s.1 (106 + tn (ha_gA M 21 (40 * k + i))) (acv M k i s.1), s.2)
  else if ls = true ∧ s.2.2.1 < 100 then (s.1, s.2.1, s.2.2.1 + 1, (if s.2.2.2.1 = -1 ∧ ¬ (s.2.2.1 < m ∧ ha_gA M 27 s.2.2.1 = acv M k i s.1) then nI s.2.2.1 else s.2.2.2.1), upd s.2.2.2.2 s.2.2.1 (acv M k i s.1))
  else s
def acs (M : ha_St) (m k : Nat) (fs ls : Bool) : Nat → Nat → TW → TW
  | 0, _, s => s
  | d + 1, i, s => acs M m k fs ls d (i + 1) (ac1 M m k fs ls i s)
theorem acs_sn {M : ha_St} {m k : Nat} {fs ls : Bool} : ∀ (d i : Nat) (s : TW), acs M m k fs ls (d + 1) i s = ac1 M m k fs ls (i + d) (acs M m k fs ls d i s)
  | 0, _, _ => rfl
  | d + 1, i, s => by
    show acs M m k fs ls (d + 1) (i + 1) (ac1 M m k fs ls i s) = _
    rw [acs_sn d (i + 1)]
    show ac1 M m k fs ls (i + 1 + d) _ = ac1 M m k fs ls (i + (d + 1)) _
    rw [show i + 1 + d = i + (d + 1) by omega]
    rfl
def twr (M : ha_St) (m k : Nat) (fs ls : Bool) (s : TW) : TW :=
  match frl M k s.1 (tn (ha_gA M 15 k)) 0 with
  | none => s
  | some r => acs M m k fs ls (enn (ha_gA M 17) k r - rbn (ha_gA M 17) k r) (rbn (ha_gA M 17) k r) s
/-- the row of values of tower t, ahead of its acts -/
def wv (M : ha_St) (m n : Nat) (fg : Nat → Bool) (L : LNS) (t c : Nat) : Int32 :=
  if c < 100 then nI c
  else if c = 100 then (if t = 0 ∨ fg (t - 1) = true then -1 else L.1 (t - 1))
  else if c = 101 then (if t + 1 = n ∨ fg t = true then -1 else L.1 (t + 1))
  else if c = 102 then L.1 t
  else if c = 103 then L.2.1 t
  else if c = 104 then (if t = 0 then wat M m L.2.2.2.1 else -1)
  else if c = 105 then -1
  else L.2.2.1 (4 * t + (c - 106))
def kin (n t : Nat) : Nat := if t = 0 then 0 else if t + 1 = n then 1 else 2
def tws (M : ha_St) (m n : Nat) (fg : Nat → Bool) (L : LNS) (t : Nat) : TW := twr M m (kin n t) (decide (t = 0)) (decide (t + 1 = n)) (wv M m n fg L t, L.2.2.2)
def ntm (b : Int32) (c : Bool) : Int32 := if c = true then (if 99 ≤ b.toInt then 99 else b + 1) else 0
def stp (M : ha_St) (m n : Nat) (fg : Nat → Bool) (L : LNS) : LNS :=
  (fun t => (tws M m n fg L t).1 102, fun t => ntm (L.2.1 t) (decide ((tws M m n fg L t).1 102 = L.1 t)), fun j => (tws M m n fg L (j / 4)).1 (106 + j % 4), (tws M m n fg L 0).2.1, (tws M m n fg L (n - 1)).2.2)
def lini : LNS := (fun _ => 0, fun _ => 0, fun _ => 0, 0, 0, -1, fun _ => 0)
/-- the line behind tick t, by the fog fg tick gap -/
def rn (M : ha_St) (m n : Nat) (fg : Nat → Nat → Bool) : Nat → LNS
  | 0 => lini
  | t + 1 => stp M m n (fg (t + 1)) (rn M m n fg t)
/-! what holds of a tower's row and of a line -/
def WAp (M : ha_St) (m : Nat) (r : Nat × Int32 × (Nat → Int32)) : Prop := (r.2.1 = -1 ∧ r.1 ≤ m ∧ ∀ j, j < r.1 → r.2.2 j = ha_gA M 27 j) ∨ (∃ j, j < r.1 ∧ r.2.1 = nI j ∧ j ≤ m ∧ (∀ i, i < j → r.2.2 i = ha_gA M 27 i) ∧ ¬ (j < m ∧ r.2.2 j = ha_gA M 27 j))
def TI (M : ha_St) (m : Nat) (fs ls : Bool) (s0 s : TW) : Prop := (∀ c, c < 102 ∨ c = 103 ∨ c = 105 → s.1 c = s0.1 c) ∧ (s.1 104 = if fs = true then wat M m s.2.1 else -1) ∧ s0.2.1 ≤ s.2.1 ∧ s.2.1 ≤ m ∧ s0.2.2.1 ≤ s.2.2.1 ∧ s.2.2.1 ≤ 100 ∧ (¬ fs = true → s.2.1 = s0.2.1) ∧ (¬ ls = true → s.2.2 = s0.2.2) ∧ (0 ≤ (s.1 102).toInt ∧ (s.1 102).toInt ≤ 63) ∧ WAp M m s.2.2 ∧ (¬ s0.2.2.2.1 = -1 → s.2.2.2.1 = s0.2.2.2.1)
theorem b63 (x : Int32) : 0 ≤ (x &&& 63).toInt ∧ (x &&& 63).toInt ≤ 63 := by
  obtain ⟨j, hj, e⟩ := pk_andE x (m := 63) 6 rfl
  rw [e, nI_toInt (by omega)]
  omega
theorem acv_r (M : ha_St) (k i : Nat) (w : Nat → Int32) : 0 ≤ (acv M k i w).toInt ∧ (acv M k i w).toInt ≤ 63 := b63 _
theorem ti_ac {M : ha_St} {m k : Nat} {fs ls : Bool} {i : Nat} {s0 s : TW} (hm : m ≤ 60) (ha : 0 ≤ (ha_gA M 21 (40 * k + i)).toInt) (h : TI M m fs ls s0 s) : TI M m fs ls s0 (ac1 M m k fs ls i s) := by
  obtain ⟨w, se, wr, wa, bk⟩ := s
  obtain ⟨h1, h2, h3, h4, h5, h6, h7, h8, h9, h10, h11⟩ := h
  dsimp only at h1 h2 h3 h4 h5 h6 h7 h8 h9 h10 h11
  unfold ac1
  dsimp only
  have hv := acv_r M k i w
  by_cases c1 : ha_gA M 21 (40 * k + i) = 6
  · rw [if_pos c1]
    by_cases c2 : fs = true ∧ se < m
    · rw [if_pos c2]
      refine ⟨fun c hc => ?_, ?_, by dsimp only; omega, by dsimp only; omega, h5, h6, fun h => absurd c2.1 h, h8, ?_, h10, h11⟩
      · dsimp only
        rw [pk_un (by omega)]
        exact h1 c hc
      · dsimp only
        rw [pk_us, if_pos c2.1]
      · dsimp only
        rw [pk_un (by omega)]
        exact h9
    · rw [if_neg c2]
      exact ⟨h1, h2, h3, h4, h5, h6, h7, h8, h9, h10, h11⟩
  · rw [if_neg c1]
    by_cases c2 : ha_gA M 21 (40 * k + i) = 4
    · rw [if_pos c2]
      refine ⟨fun c hc => ?_, ?_, h3, h4, h5, h6, h7, h8, ?_, h10, h11⟩
      · dsimp only
        rw [pk_un (by omega)]
        exact h1 c hc
      · dsimp only
        rw [pk_un (by omega)]
        exact h2
      · dsimp only
        rw [pk_us]
        exact hv
    · rw [if_neg c2]
      by_cases c3 : (ha_gA M 21 (40 * k + i)).toInt < 4
      · rw [if_pos c3]
        refine ⟨fun c hc => ?_, ?_, h3, h4, h5, h6, h7, h8, ?_, h10, h11⟩
        · dsimp only
          rw [pk_un (by omega)]
          exact h1 c hc
        · dsimp only
          rw [pk_un (by omega)]
          exact h2
        · dsimp only
          rw [pk_un (by omega)]
          exact h9
      · rw [if_neg c3]
        by_cases c4 : ls = true ∧ wr < 100
        · rw [if_pos c4]
          refine ⟨h1, h2, h3, h4, by dsimp only; omega, by dsimp only; omega, h7, fun h => absurd c4.1 h, h9, ?_, fun h => ?_⟩
          · rcases h10 with ⟨a1, a2, a3⟩ | ⟨j, a1, a2, a3, a4, a5⟩
            · dsimp only at a1 a2 a3
              by_cases c5 : wr < m ∧ ha_gA M 27 wr = acv M k i w
              · refine Or.inl ⟨?_, ?_, fun j hj => ?_⟩
                · dsimp only
                  rw [if_neg (fun h => h.2 c5)]
                  exact a1
                · dsimp only
                  omega
                · dsimp only at hj ⊢
                  by_cases e : j = wr
                  · rw [e, pk_us]; exact c5.2.symm
                  · rw [pk_un e]; exact a3 j (by omega)
              · refine Or.inr ⟨wr, ?_, ?_, a2, fun j hj => ?_, ?_⟩
                · dsimp only; omega
                · dsimp only
                  rw [if_pos ⟨a1, c5⟩]
                · dsimp only at hj ⊢
                  rw [pk_un (by omega)]; exact a3 j (by omega)
                · dsimp only
                  rw [pk_us]
                  exact fun h => c5 ⟨h.1, h.2.symm⟩
            · dsimp only at a1 a2 a3 a4 a5
              have hne : ¬ wa = -1 := by rw [a2]; exact n_m1 (by omega)
              refine Or.inr ⟨j, ?_, ?_, a3, fun q hq => ?_, ?_⟩
              · dsimp only; omega
              · dsimp only
                rw [if_neg (fun h => hne h.1)]
                exact a2
              · dsimp only at hq ⊢
                rw [pk_un (by omega)]; exact a4 q hq
              · dsimp only
                rw [pk_un (by omega)]
                exact a5
          · have := h11 h
            dsimp only
            rw [if_neg (fun g => h (this ▸ g.1))]
            exact this
        · rw [if_neg c4]
          exact ⟨h1, h2, h3, h4, h5, h6, h7, h8, h9, h10, h11⟩
theorem ti_acs {M : ha_St} {m k : Nat} {fs ls : Bool} {s0 : TW} (hm : m ≤ 60) : ∀ (d i : Nat) (s : TW), (∀ j, i ≤ j → j < i + d → 0 ≤ (ha_gA M 21 (40 * k + j)).toInt) → TI M m fs ls s0 s → TI M m fs ls s0 (acs M m k fs ls d i s)
  | 0, _, _, _, h => h
  | d + 1, i, s, ha, h => ti_acs hm d (i + 1) _ (fun j a b => ha j (by omega) (by omega)) (ti_ac hm (ha i (Nat.le_refl _) (by omega)) h)
/-- the acts of program k are such -/
def PVa (M : ha_St) (k : Nat) : Prop := ∀ r, r < tn (ha_gA M 15 k) → ∀ j, j < enn (ha_gA M 17) k r → 0 ≤ (ha_gA M 21 (40 * k + j)).toInt
theorem ti_twr {M : ha_St} {m k : Nat} {fs ls : Bool} {s : TW} (hm : m ≤ 60) (hp : PVa M k) (h : TI M m fs ls s s) : TI M m fs ls s (twr M m k fs ls s) := by
  unfold twr
  cases e : frl M k s.1 (tn (ha_gA M 15 k)) 0 with
  | none => exact h
  | some r =>
    have := frl_lt _ _ _ e
    exact ti_acs hm _ _ _ (fun j a b => hp r (by omega) j (by omega)) h
def LIn (M : ha_St) (m : Nat) (L : LNS) : Prop := (∀ t, 0 ≤ (L.1 t).toInt ∧ (L.1 t).toInt ≤ 63) ∧ (∀ t, 0 ≤ (L.2.1 t).toInt ∧ (L.2.1 t).toInt ≤ 99) ∧ L.2.2.2.1 ≤ m ∧ L.2.2.2.2.1 ≤ 100 ∧ WAp M m L.2.2.2.2
theorem ti_tws {M : ha_St} {m n : Nat} {fg : Nat → Bool} {L : LNS} {t : Nat} (hm : m ≤ 60) (hp : ∀ k, k < 3 → PVa M k) (h : LIn M m L) : TI M m (decide (t = 0)) (decide (t + 1 = n)) (wv M m n fg L t, L.2.2.2) (tws M m n fg L t) := by
  obtain ⟨h1, h2, h3, h4, h5⟩ := h
  refine ti_twr hm (hp _ ?_) ⟨fun _ _ => rfl, ?_, Nat.le_refl _, h3, Nat.le_refl _, h4, fun _ => rfl, fun _ => rfl, ?_, h5, fun _ => rfl⟩
  · unfold kin
    by_cases c : t = 0
    · rw [if_pos c]; omega
    · rw [if_neg c]
      by_cases d : t + 1 = n
      · rw [if_pos d]; omega
      · rw [if_neg d]; omega
  · show (if t = 0 then wat M m L.2.2.2.1 else -1) = _
    by_cases c : t = 0
    · simp [c]
    · simp [c]
  · exact h1 t
theorem ntm_r {b : Int32} {c : Bool} (h : 0 ≤ b.toInt ∧ b.toInt ≤ 99) : 0 ≤ (ntm b c).toInt ∧ (ntm b c).toInt ≤ 99 := by
  unfold ntm
  by_cases d : c = true
  · rw [if_pos d]
    by_cases e : 99 ≤ b.toInt
    · rw [if_pos e]; decide
    · rw [if_neg e, i_add (by rw [z_1]; omega) (by rw [z_1]; omega), z_1]; omega
  · rw [if_neg d]; decide
theorem li_stp {M : ha_St} {m n : Nat} {fg : Nat → Bool} {L : LNS} (hm : m ≤ 60) (hp : ∀ k, k < 3 → PVa M k) (h : LIn M m L) : LIn M m (stp M m n fg L) := by
  have hT : ∀ t, TI M m (decide (t = 0)) (decide (t + 1 = n)) (wv M m n fg L t, L.2.2.2) (tws M m n fg L t) := fun t => ti_tws hm hp h
  obtain ⟨h1, h2, h3, h4, h5⟩ := h
  exact ⟨fun t => (hT t).2.2.2.2.2.2.2.2.1, fun t => ntm_r (h2 t), (hT 0).2.2.2.1, (hT (n - 1)).2.2.2.2.2.1, (hT (n - 1)).2.2.2.2.2.2.2.2.2.1⟩
theorem li_ini (M : ha_St) (m : Nat) : LIn M m lini := ⟨fun _ => (by decide : (0 : Int) ≤ (0 : Int32).toInt ∧ (0 : Int32).toInt ≤ 63), fun _ => (by decide : (0 : Int) ≤ (0 : Int32).toInt ∧ (0 : Int32).toInt ≤ 99), Nat.zero_le _, by decide, Or.inl ⟨rfl, Nat.zero_le _, fun j hj => absurd hj (Nat.not_lt_zero _)⟩⟩
theorem li_rn {M : ha_St} {m n : Nat} {fg : Nat → Nat → Bool} (hm : m ≤ 60) (hp : ∀ k, k < 3 → PVa M k) : ∀ t, LIn M m (rn M m n fg t)
  | 0 => li_ini M m
  | t + 1 => li_stp hm hp (li_rn hm hp t)
/-- the towers in between leave alone what is the first one's and the last one's -/
theorem tws_mid {M : ha_St} {m n : Nat} {fg : Nat → Bool} {L : LNS} {t : Nat} (hm : m ≤ 60) (hp : ∀ k, k < 3 → PVa M k) (h : LIn M m L) : (t ≠ 0 → (tws M m n fg L t).2.1 = L.2.2.2.1) ∧ (t + 1 ≠ n → (tws M m n fg L t).2.2 = L.2.2.2.2) := by
  have hT := ti_tws (n := n) (fg := fg) (t := t) hm hp h
  exact ⟨fun c => hT.2.2.2.2.2.2.1 (by simp [c]), fun c => hT.2.2.2.2.2.2.2.1 (by simp [c])⟩
