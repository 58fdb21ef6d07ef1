/-! THE CLASS: which rule holds, what a tower sees, what it keeps -/
theorem hol_x {a b x g : Int32} (h : mkR x g) : f_X8_holds a x b = some (if hol g a b = true then 1 else 0) := by
  unfold f_X8_holds f_X8_holds_J38 f_X8_holds_J49 f_X8_holds_J60 f_X8_holds_J71 hol
  simp only [pw_nm]
  rcases h with ⟨rfl, rfl⟩ | ⟨rfl, rfl⟩ | ⟨rfl, rfl⟩ | ⟨rfl, rfl⟩
  · rw [pw_it rfl, pw_it rfl]
    by_cases c : a < b
    · rw [pw_ie (by rw [i_le]; rw [i_lt] at c; omega), if_pos (by simp [c])]; rfl
    · rw [pw_it (by rw [i_le]; rw [i_lt] at c; omega), if_neg (by simp [c])]; rfl
  · rw [if_neg (show ¬ (121 : Int32) = 120 by decide), if_pos (show (121 : Int32) = 121 from rfl), if_neg (show ¬ (61 : Int32) = 60 by decide), if_pos (show (61 : Int32) = 61 from rfl)]
    by_cases c : a = b
    · rw [pw_ie (fun h => h c), if_pos (by simp [c])]; rfl
    · rw [pw_it c, if_neg (by simp [c])]; rfl
  · rw [if_neg (show ¬ (122 : Int32) = 120 by decide), if_neg (show ¬ (122 : Int32) = 121 by decide), if_pos (show (122 : Int32) = 122 from rfl), if_neg (show ¬ (62 : Int32) = 60 by decide), if_neg (show ¬ (62 : Int32) = 61 by decide), if_pos (show (62 : Int32) = 62 from rfl)]
    by_cases c : b < a
    · rw [pw_ie (by rw [i_le]; rw [i_lt] at c; omega), if_pos (by simp [c])]; rfl
    · rw [pw_it (by rw [i_le]; rw [i_lt] at c; omega), if_neg (by simp [c])]; rfl
  · rw [if_neg (show ¬ (123 : Int32) = 120 by decide), if_neg (show ¬ (123 : Int32) = 121 by decide), if_neg (show ¬ (123 : Int32) = 122 by decide), if_neg (show ¬ (35 : Int32) = 60 by decide), if_neg (show ¬ (35 : Int32) = 61 by decide), if_neg (show ¬ (35 : Int32) = 62 by decide)]
    by_cases c : a = b
    · rw [pw_it c, if_neg (by simp [c])]; rfl
    · rw [pw_ie c, if_pos (by simp [c])]; rfl
theorem rule_x {X M : ha_St} {p k R : Nat} {w : Nat → Int32} (hIR : IR X) (hp1 : 11 ≤ p) (hp2 : p ≤ 15) (hR : R ≤ 20) (h8 : ha_gI X p 8 = nI R) (hu : ∀ q, q < R → RuX X p M k q) (hO : ∀ q, q < R → ∀ x, x < enn (ha_gA M 16) k q → OnX X p M k x) (hw : ∀ c, c < 110 → ha_gA X 136 c = w c) : Ok (f_X8_firstRuleThatHolds p 136 X) (fun z => z.2 = X ∧ ((z.1 = -1 ∧ frl M k w R 0 = none) ∨ ∃ r, r < R ∧ z.1 = nI r ∧ frl M k w R 0 = some r)) := by
  have hx : xo_ln 136 = 110 := by decide +kernel
  unfold f_X8_firstRuleThatHolds
  refine ok_bind (P := fun z => (z = .inl X ∧ frl M k w R 0 = none) ∨ (∃ r, r < R ∧ z = .inr (nI r, X) ∧ frl M k w R 0 = some r)) ?_ ?_
  · refine ok_for (fun r (_ : Unit) => (nI (rbn (ha_gA M 16) k r), nI r, X)) 0 R (fun r _ => ∀ q, q < r → ¬ rho M k w q = true) _ () (fun q h => by omega) (by omega) (by omega) ?_ ?_
    · rintro f r - hr hq ih
      show Ok (f_X8_firstRuleThatHolds_L4 p 136 f (nI (rbn (ha_gA M 16) k r)) (nI r) X) _
      unfold f_X8_firstRuleThatHolds_L4
      obtain ⟨u1, u2, u3, u4, u5, u6, u7, u8⟩ := hu r hr
      have hOr := hO r hr
      have hrs : rbn (ha_gA M 16) k (r + 1) = enn (ha_gA M 16) k r := rbn_s _ _ _
      have ih' := ih ()
      have hrho : rho M k w r = alo M k w (rbn (ha_gA M 16) k r) (enn (ha_gA M 16) k r) := rfl
      rw [hrs] at ih'
      generalize hb : rbn (ha_gA M 16) k r = b at *
      generalize he : enn (ha_gA M 16) k r = e at *
      rw [h8]
      refine ok_ie (nI_ge hr (by omega)) (ok_bind (P := fun z => z = (nI r, if rho M k w r = true then 1 else 0, X)) ?_ ?_)
      · refine ok_for (fun i (v : Int32) => (nI i, nI r, v, X)) b e (fun i v => b ≤ i ∧ ((v = 1 ∧ ∀ x, x < i → b ≤ x → hol (ha_gA M 19 (40 * k + x)) (w (tn (ha_gA M 18 (40 * k + x)))) (w (tn (ha_gA M 20 (40 * k + x)))) = true) ∨ (v = 0 ∧ ¬ rho M k w r = true))) _ 1 ⟨Nat.le_refl _, Or.inl ⟨rfl, fun x h1 h2 => by omega⟩⟩ u5 (by omega) ?_ ?_
        · rintro g i v hi ⟨hbi, hv⟩ ih2
          show Ok (f_X8_firstRuleThatHolds_L15 p 136 g (nI i) (nI r) v X) _
          unfold f_X8_firstRuleThatHolds_L15
          refine ok_b (pg0 hIR hp1 hp2) (ok_gd (by rw [pl0 hp1 hp2]; exact n_in (by omega) (by omega)) ?_)
          rw [nI_clamp (by omega), u1]
          refine ok_ie (nI_ge hi (by omega)) ?_
          rcases hv with ⟨rfl, hv⟩ | ⟨rfl, hv⟩
          · obtain ⟨o1, o2, o3, o4, o5, o6, o7, o8⟩ := hOr i hi
            refine ok_ie (by decide) (ok_b (pg2 hIR hp1 hp2) (ok_gd (by rw [pl2 hp1 hp2]; exact n_in (by omega) (by omega)) ?_))
            rw [nI_clamp (show i < 2 ^ 31 by omega), o1]
            refine ok_gd (by rw [hx]; exact n_in (by omega) (by omega)) (ok_b (pg3 hIR hp1 hp2) (ok_gd (by rw [pl3 hp1 hp2]; exact n_in2 (by omega) (by omega)) (ok_b (pg4 hIR hp1 hp2) (ok_gd (by rw [pl4 hp1 hp2]; exact n_in2 (by omega) (by omega)) ?_))))
            rw [o3]
            refine ok_gd (by rw [hx]; exact n_in (by omega) (by omega)) ?_
            rw [nI_clamp (by omega), nI_clamp (by omega), hw _ o6, hw _ o7]
            refine ok_b (hol_x o2) ?_
            rw [pw_nm, nI_1]
            by_cases c : hol (ha_gA M 19 (40 * k + i)) (w (tn (ha_gA M 18 (40 * k + i)))) (w (tn (ha_gA M 20 (40 * k + i)))) = true
            · rw [if_pos c]
              refine ih2 1 ⟨by omega, Or.inl ⟨rfl, fun x h1 h2 => ?_⟩⟩
              by_cases ex : x = i
              · rw [ex]; exact c
              · exact hv x (by omega) h2
            · rw [if_neg c]
              refine ih2 0 ⟨by omega, Or.inr ⟨rfl, fun h => c ?_⟩⟩
              rw [hrho] at h
              unfold alo at h
              exact of_decide_eq_true h i hi hbi
          · refine ok_it rfl (ok_some ?_)
            rw [if_neg hv]
        · rintro g v ⟨hbi, hv⟩
          show Ok (f_X8_firstRuleThatHolds_L15 p 136 g (nI e) (nI r) v X) _
          unfold f_X8_firstRuleThatHolds_L15
          refine ok_b (pg0 hIR hp1 hp2) (ok_gd (by rw [pl0 hp1 hp2]; exact n_in (by omega) (by omega)) ?_)
          rw [nI_clamp (by omega), u1]
          refine ok_it (nI_le (Nat.le_refl _) (by omega)) (ok_some ?_)
          rcases hv with ⟨rfl, hv⟩ | ⟨rfl, hv⟩
          · rw [if_pos]
            rw [hrho]
            unfold alo
            exact decide_eq_true hv
          · rw [if_neg hv]
      · rintro z rfl
        unfold f_X8_firstRuleThatHolds_L4_J63
        dsimp only
        by_cases c : rho M k w r = true
        · rw [if_pos c]
          exact ok_ie (by decide) (ok_some (Or.inr ⟨r, hr, rfl, frl_some _ 0 r (by omega) (by omega) (fun q _ h => hq q h) c⟩))
        · rw [if_neg c]
          refine ok_it rfl (ok_b (pg0 hIR hp1 hp2) (ok_gd (by rw [pl0 hp1 hp2]; exact n_in (by omega) (by omega)) ?_))
          simp only [pw_nm, nI_1]
          rw [nI_clamp (by omega), u1]
          refine ih' (fun q h => ?_)
          by_cases e2 : q = r
          · rw [e2]; exact c
          · exact hq q (by omega)
    · rintro f - hq
      show Ok (f_X8_firstRuleThatHolds_L4 p 136 f (nI (rbn (ha_gA M 16) k R)) (nI R) X) _
      unfold f_X8_firstRuleThatHolds_L4
      rw [h8]
      exact ok_it (nI_le (Nat.le_refl _) (by omega)) (ok_some (Or.inl ⟨rfl, frl_none _ 0 (fun q _ h => hq q (by omega))⟩))
  · rintro z (⟨rfl, h⟩ | ⟨r, h1, rfl, h2⟩)
    · exact ok_some ⟨rfl, Or.inl ⟨rfl, h⟩⟩
    · exact ok_some ⟨rfl, Or.inr ⟨r, h1, rfl, h2⟩⟩
/-- the fog's bits -/
theorem bq_sh (x : Int32) {g : Nat} (hg : g < 31) : (x >>> (nI g &&& 31)) &&& 1 = 0 ↔ bq x g = false := by
  have h0 : ∀ i, ((x >>> (nI g &&& 31)) &&& 1).toBitVec.getLsbD i = (decide (i = 0) && bq x g) := by
    intro i
    rw [Int32.toBitVec_and, BitVec.getLsbD_and, Int32.toBitVec_shiftRight]
    show ((x.toBitVec.sshiftRight ((nI g &&& 31).toBitVec.smod 32).toNat).getLsbD i && (1#32).getLsbD i) = _
    rw [n_sc g (by omega), BitVec.getLsbD_sshiftRight, BitVec.getLsbD_one]
    by_cases c : i = 0
    · subst c
      simp [bq, show g < 32 by omega]
    · simp [c]
  constructor
  · intro h
    have := h0 0
    rw [h] at this
    simpa using this.symm
  · intro h
    refine n_ext (fun i hi => ?_)
    rw [h0 i, h]
    simp
/-- a line in the class -/
def RX (X : ha_St) (l n : Nat) (L : LNS) : Prop := ha_gI X l 4 = nI n ∧ (∀ t, t < n → ha_gA X (100 + 16 * l) t = L.1 t) ∧ (∀ t, t < n → ha_gA X (101 + 16 * l) t = L.2.1 t) ∧ (∀ j, j < 4 * n → ha_gA X (102 + 16 * l) j = L.2.2.1 j) ∧ ha_gI X l 6 = nI L.2.2.2.1 ∧ ha_gI X l 5 = nI L.2.2.2.2.1 ∧ ha_gI X l 7 = L.2.2.2.2.2.1 ∧ (l = 16 → ∀ k, k < L.2.2.2.2.1 → ha_gA X (103 + 16 * l) k = L.2.2.2.2.2.2 k)
def WNx (X : ha_St) : Prop := (∀ i, i < 100 → ha_gA X 136 i = nI i) ∧ ha_gA X 136 105 = -1
/-- what tower t sees -/
theorem see_x {X M : ha_St} {m n l t : Nat} {fog : Int32} {fg : Nat → Bool} {L : LNS} (hC : CX X M m) (hl : isLn l) (hr : n ≤ rom l) (hn : ha_gI X l 4 = nI n) (h3 : 3 ≤ n) (ht : t < n) (hfg : ∀ g, g < 15 → (bq fog g = false ↔ fg g = false)) (hW : WNx X) (ha : ∀ u, u < n → ha_gA X 135 u = L.1 u) (htm : ha_gA X (101 + 16 * l) t = L.2.1 t) (hc : ∀ c, c < 4 → ha_gA X (102 + 16 * l) (4 * t + c) = L.2.2.1 (4 * t + c)) (hs : t = 0 → ha_gI X l 6 = nI L.2.2.2.1) (hs2 : L.2.2.2.1 ≤ m) : Ok (f_X1_see 2 l (nI t) fog X) (fun X' => ∃ f, X' = ha_sA X 136 f ∧ ∀ c, c < 110 → f c = wv M m n fg L t c) := by
  have hIR := hC.1
  have hrl := rom_le l
  have hx5 : xo_ln 135 = 16 := by decide +kernel
  have hx6 : xo_ln 136 = 110 := by decide +kernel
  have hlb : 16 ≤ l := by unfold isLn at hl; omega
  -- the tail
  have tail : ∀ (W : Nat → Int32) (v : Int32), v = wv M m n fg L t 101 → (∀ c, c < 100 ∨ c = 105 → W c = ha_gA X 136 c) → W 100 = wv M m n fg L t 100 → Ok (f_X1_see_J93 2 l (nI t) fog 136 101 v (ha_sA X 136 W)) (fun X' => ∃ f, X' = ha_sA X 136 f ∧ ∀ c, c < 110 → f c = wv M m n fg L t c) := by
    intro W v hv hWc hW1
    have fin : ∀ (W4 : Nat → Int32) (x : Int32), x = wv M m n fg L t 104 → (∀ c, c < 104 ∨ c = 105 → W4 c = wv M m n fg L t c) → Ok (f_X1_see_J139 2 l (nI t) fog 136 104 x (ha_sA X 136 W4)) (fun X' => ∃ f, X' = ha_sA X 136 f ∧ ∀ c, c < 110 → f c = wv M m n fg L t c) := by
      intro W4 x hx hW4
      unfold f_X1_see_J139
      simp only [pw_nm, st_sAA, st_fA]
      refine ok_gd (by rw [hx6]; decide) (ok_b (lr2 hIR hl) (ok_b (xr hIR 2 4 100 136) ?_))
      have h4 : nI t * 4 = nI (4 * t) := by rw [Nat.mul_comm]; exact nI_mul t 4
      rw [h4, hx6, ll2 hl]
      refine ok_gd ⟨nI_pos (by omega), by decide, by decide, ?_, ?_⟩ (ok_some ⟨_, st_sAA _ _ _ _, fun c hcc => ?_⟩)
      · rw [nI_clamp (by omega)]
        show 4 * t + 4 ≤ 4 * rom l
        omega
      · decide
      · rw [st_AA, if_neg (by omega), st_AA, if_pos rfl, st_AA, if_pos rfl, nI_clamp (by omega)]
        show (if 106 ≤ c ∧ c < 106 + 4 then ha_gA X (102 + 16 * l) (4 * t + (c - 106)) else upd W4 104 x c) = _
        by_cases d : 106 ≤ c
        · rw [if_pos (by omega), hc _ (by omega)]
          unfold wv
          rw [if_neg (by omega), if_neg (by omega), if_neg (by omega), if_neg (by omega), if_neg (by omega), if_neg (by omega), if_neg (by omega)]
        · rw [if_neg (by omega)]
          by_cases e : c = 104
          · rw [e, pk_us]; exact hx
          · rw [pk_un e]; exact hW4 c (by omega)
    unfold f_X1_see_J93
    simp only [pw_nm, st_sAA, st_fA]
    refine ok_gd (by rw [hx6]; decide) (ok_b (xr hIR 2 4 100 136) (ok_b (xr hIR 2 3 100 135) (ok_gd (by rw [hx5]; exact n_in (by omega) (by omega)) (ok_gd (by rw [hx6]; decide) (ok_b (xr hIR 2 4 100 136) (ok_b (lr1 hIR hl) (ok_gd (by rw [ll1 hl]; exact n_in (by omega) (by omega)) (ok_gd (by rw [hx6]; decide) (ok_b (xr hIR 2 4 100 136) ?_)))))))))
    simp only [st_AA, if_true, st_sAA, nI_clamp (show t < 2 ^ 31 by omega), if_neg (show ¬ 135 = 136 by omega), if_neg (show ¬ 101 + 16 * l = 136 by omega), ha t ht, htm]
    have hrow : ∀ c, c < 104 ∨ c = 105 → upd (upd (upd W (101 : Int32).toNatClampNeg v) (102 : Int32).toNatClampNeg (L.1 t)) (103 : Int32).toNatClampNeg (L.2.1 t) c = wv M m n fg L t c := by
      intro c hcc
      show upd (upd (upd W 101 v) 102 (L.1 t)) 103 (L.2.1 t) c = _
      by_cases d3 : c = 103
      · rw [d3, pk_us]; rfl
      · rw [pk_un d3]
        by_cases d2 : c = 102
        · rw [d2, pk_us]; rfl
        · rw [pk_un d2]
          by_cases d1 : c = 101
          · rw [d1, pk_us, hv]
          · rw [pk_un d1]
            by_cases d0 : c = 100
            · rw [d0]; exact hW1
            · rw [hWc c (by omega)]
              unfold wv
              by_cases d5 : c = 105
              · rw [d5]; exact hW.2
              · rw [if_pos (by omega)]; exact hW.1 c (by omega)
    by_cases c0 : t = 0
    · refine ok_ie (fun h => h (by rw [c0]; rfl)) ?_
      have hF : FX X (ha_sA X 136 (upd (upd (upd W (101 : Int32).toNatClampNeg v) (102 : Int32).toNatClampNeg (L.1 t)) (103 : Int32).toNatClampNeg (L.2.1 t))) l := ⟨rfl, rfl, fun _ _ _ => rfl, rfl, fun a h1 h2 _ => by rw [st_AA, if_neg h2]⟩
      refine ok_b (word_x (CX_f hl hF hC) (show ha_gI X l 6 = _ from hs c0) hs2) (fin _ _ ?_ hrow)
      show _ = if t = 0 then _ else _
      rw [if_pos c0]
    · refine ok_it (nI_ne0 (by omega) (by omega)) (fin _ _ ?_ hrow)
      show _ = if t = 0 then _ else _
      rw [if_neg c0]
  -- the right one
  have rght : ∀ (v5 : Int32) (x : Int32), x = wv M m n fg L t 100 → (v5 = 0 ∨ v5 = 1) → (v5 = 0 ↔ (t + 1 = n ∨ fg t = true)) → Ok (f_X1_see_J69 2 l (nI t) fog v5 136 100 x X) (fun X' => ∃ f, X' = ha_sA X 136 f ∧ ∀ c, c < 110 → f c = wv M m n fg L t c) := by
    intro v5 x hx hv0 hv5
    unfold f_X1_see_J69
    simp only [pw_nm, st_fA]
    refine ok_gd (by rw [hx6]; decide) (ok_b (xr hIR 2 4 100 136) ?_)
    have hq1 : ∀ c, c < 100 ∨ c = 105 → upd (ha_gA X 136) (100 : Int32).toNatClampNeg x c = ha_gA X 136 c := fun c hcc => pk_un (show c ≠ 100 by omega)
    have hq2 : upd (ha_gA X 136) (100 : Int32).toNatClampNeg x 100 = wv M m n fg L t 100 := by rw [← hx]; exact pk_us
    by_cases c : v5 = 0
    · refine ok_it c (tail _ _ ?_ hq1 hq2)
      show _ = if t + 1 = n ∨ fg t = true then _ else _
      rw [if_pos (hv5.mp c)]
    · refine ok_ie c (ok_b (xr hIR 2 3 100 135) ?_)
      have hnn : ¬ (t + 1 = n ∨ fg t = true) := fun h => c (hv5.mpr h)
      rw [nI_1]
      refine ok_gd (by rw [hx5]; exact n_in (by omega) (by omega)) ?_
      rw [nI_clamp (by omega), st_AA, if_neg (by omega), ha _ (by omega)]
      refine tail _ _ ?_ hq1 hq2
      show _ = if t + 1 = n ∨ fg t = true then _ else _
      rw [if_neg hnn]
  -- the left one
  have left : ∀ (v4 k0 : Int32), (v4 = 0 ∨ v4 = 1) → (v4 = 0 ↔ (t = 0 ∨ fg (t - 1) = true)) → (k0 = 0 ∨ k0 = 1) → (k0 = 0 ↔ (t + 1 = n ∨ fg t = true)) → Ok (f_X1_see_J44 2 l (nI t) fog v4 k0 X) (fun X' => ∃ f, X' = ha_sA X 136 f ∧ ∀ c, c < 110 → f c = wv M m n fg L t c) := by
    intro v4 k0 hv0 hv4 hk0 hk
    unfold f_X1_see_J44
    refine ok_b (xr hIR 2 4 100 136) ?_
    by_cases c : v4 = 0
    · refine ok_it c (rght k0 _ ?_ hk0 hk)
      show _ = if t = 0 ∨ fg (t - 1) = true then _ else _
      rw [if_pos (hv4.mp c)]
    · refine ok_ie c (ok_b (xr hIR 2 3 100 135) ?_)
      have hnn : ¬ (t = 0 ∨ fg (t - 1) = true) := fun h => c (hv4.mpr h)
      rw [n_sub1 (by omega)]
      refine ok_gd (by rw [hx5]; exact n_in (by omega) (by omega)) ?_
      rw [nI_clamp (by omega), ha _ (by omega)]
      refine rght k0 _ ?_ hk0 hk
      show _ = if t = 0 ∨ fg (t - 1) = true then _ else _
      rw [if_neg hnn]
  have rs : ∀ (v4 : Int32), (v4 = 0 ∨ v4 = 1) → (v4 = 0 ↔ (t = 0 ∨ fg (t - 1) = true)) → Ok (f_X1_see_J19 2 l (nI t) fog v4 X) (fun X' => ∃ f, X' = ha_sA X 136 f ∧ ∀ c, c < 110 → f c = wv M m n fg L t c) := by
    intro v4 hv0 hv4
    unfold f_X1_see_J19 f_X1_see_J43
    rw [hn, n_sub1 (by omega)]
    by_cases c : t + 1 = n
    · refine ok_it (nI_le (by omega) (by omega)) (left v4 0 hv0 hv4 (Or.inl rfl) ?_)
      exact ⟨fun _ => Or.inl c, fun _ => rfl⟩
    · refine ok_ie (nI_ge (by omega) (by omega)) ?_
      by_cases d : fg t = true
      · refine ok_it (fun h => ?_) (left v4 0 hv0 hv4 (Or.inl rfl) ⟨fun _ => Or.inr d, fun _ => rfl⟩)
        rw [bq_sh _ (by omega), hfg t (by omega), d] at h
        cases h
      · refine ok_ie (fun h => h ?_) (left v4 1 hv0 hv4 (Or.inr rfl) ⟨fun h => absurd h (by decide), fun h => absurd h (by simp [c, d])⟩)
        rw [bq_sh _ (by omega), hfg t (by omega)]
        simpa using d
  unfold f_X1_see f_X1_see_J18
  by_cases c : t = 0
  · exact ok_it (by rw [c]; decide) (rs 0 (Or.inl rfl) ⟨fun _ => Or.inl c, fun _ => rfl⟩)
  · refine ok_ie (nI_nle (by omega) (by omega)) ?_
    rw [n_sub1 (by omega)]
    by_cases d : fg (t - 1) = true
    · refine ok_it (fun h => ?_) (rs 0 (Or.inl rfl) ⟨fun _ => Or.inr d, fun _ => rfl⟩)
      rw [bq_sh _ (by omega), hfg _ (by omega), d] at h
      cases h
    · refine ok_ie (fun h => h ?_) (rs 1 (Or.inr rfl) ⟨fun h => absurd h (by decide), fun h => absurd h (by simp [c, d])⟩)
      rw [bq_sh _ (by omega), hfg _ (by omega)]
      simpa using d
