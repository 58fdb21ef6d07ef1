/-! LINES THAT GO ON ALIKE, purely -/
/-- the program asks for no time -/
def NT (M : ha_St) (k : Nat) : Prop := (∀ r, r < tn (ha_gA M 15 k) → ∀ x, x < enn (ha_gA M 16) k r → tn (ha_gA M 18 (40 * k + x)) ≠ 103 ∧ tn (ha_gA M 20 (40 * k + x)) ≠ 103) ∧ ∀ r, r < tn (ha_gA M 15 k) → ∀ x, x < enn (ha_gA M 17) k r → ha_gA M 21 (40 * k + x) ≠ 6 → tn (ha_gA M 22 (40 * k + x)) ≠ 103 ∧ (¬ ha_gA M 23 (40 * k + x) = -1 → tn (ha_gA M 23 (40 * k + x)) ≠ 103)
/-- its values are codes -/
def PB (M : ha_St) (k : Nat) : Prop := (∀ r, r < tn (ha_gA M 15 k) → ∀ x, x < enn (ha_gA M 16) k r → tn (ha_gA M 18 (40 * k + x)) < 110 ∧ tn (ha_gA M 20 (40 * k + x)) < 110) ∧ ∀ r, r < tn (ha_gA M 15 k) → ∀ x, x < enn (ha_gA M 17) k r → ha_gA M 21 (40 * k + x) ≠ 6 → tn (ha_gA M 22 (40 * k + x)) < 110 ∧ (¬ ha_gA M 23 (40 * k + x) = -1 → tn (ha_gA M 23 (40 * k + x)) < 110)
theorem pr_pb {X M : ha_St} {p k : Nat} (h : PR X p M k) : PB M k ∧ (ha_gI X p 11 = 0 → NT M k) := by
  obtain ⟨R, h1, h2, h3, h4, h5, h6⟩ := pr_all h
  have hR : tn (ha_gA M 15 k) = R := by rw [h2, tn_n (by omega)]
  unfold PB NT
  rw [hR]
  refine ⟨⟨fun r hr x hx => ?_, fun r hr x hx g => ?_⟩, fun q => ⟨fun r hr x hx => ?_, fun r hr x hx g => ?_⟩⟩
  · obtain ⟨-, -, -, -, -, o6, o7, -⟩ := h5 r hr x hx
    exact ⟨o6, o7⟩
  · obtain ⟨-, a, b, -, -, ha, hb, hv⟩ := h6 r hr x hx
    obtain ⟨v1, v2, -⟩ := hv g
    refine ⟨by rw [v1, tn_n (by omega)]; exact ha, fun hne => ?_⟩
    rcases v2 with ⟨d1, -⟩ | d1
    · exact absurd d1 hne
    · rw [d1, tn_n (by omega)]; exact hb
  · exact (h5 r hr x hx).2.2.2.2.2.2.2 q
  · obtain ⟨-, a, b, -, -, ha, hb, hv⟩ := h6 r hr x hx
    obtain ⟨v1, v2, v3⟩ := hv g
    obtain ⟨w1, w2⟩ := v3 q
    refine ⟨by rw [v1, tn_n (by omega)]; exact w1, fun hne => ?_⟩
    rcases v2 with ⟨d1, -⟩ | d1
    · exact absurd d1 hne
    · rw [d1, tn_n (by omega)]; exact w2
def TQ (e : Prop) (s s' : TW) : Prop := (∀ c, c < 110 → c ≠ 103 → s.1 c = s'.1 c) ∧ (e ∨ s.1 103 = s'.1 103) ∧ s.2.1 = s'.2.1 ∧ s.2.2.1 = s'.2.2.1 ∧ s.2.2.2.1 = s'.2.2.2.1
theorem tq_at {e : Prop} {s s' : TW} (h : TQ e s s') {c : Nat} (h1 : c < 110) (h2 : e → c ≠ 103) : s.1 c = s'.1 c := by
  by_cases d : c = 103
  · rcases h.2.1 with g | g
    · exact absurd d (h2 g)
    · rw [d]; exact g
  · exact h.1 c h1 d
theorem rho_cg {M : ha_St} {k r : Nat} {s s' : TW} (hb : PB M k) (h : TQ (NT M k) s s') (hr : r < tn (ha_gA M 15 k)) : rho M k s.1 r = rho M k s'.1 r := by
  unfold rho alo
  have : ∀ x, x < enn (ha_gA M 16) k r → (hol (ha_gA M 19 (40 * k + x)) (s.1 (tn (ha_gA M 18 (40 * k + x)))) (s.1 (tn (ha_gA M 20 (40 * k + x)))) = hol (ha_gA M 19 (40 * k + x)) (s'.1 (tn (ha_gA M 18 (40 * k + x)))) (s'.1 (tn (ha_gA M 20 (40 * k + x))))) := fun x hx => by
    rw [tq_at h (hb.1 r hr x hx).1 (fun e => (e.1 r hr x hx).1), tq_at h (hb.1 r hr x hx).2 (fun e => (e.1 r hr x hx).2)]
  refine decide_eq_decide.mpr ⟨fun g x h1 h2 => ?_, fun g x h1 h2 => ?_⟩
  · rw [← this x h1]; exact g x h1 h2
  · rw [this x h1]; exact g x h1 h2
theorem ac1_cg {M : ha_St} {m k i : Nat} {fs ls : Bool} {e : Prop} {s s' : TW} (hv : ha_gA M 21 (40 * k + i) ≠ 6 → acv M k i s.1 = acv M k i s'.1) (ha : ha_gA M 21 (40 * k + i) ≠ 6 → 0 ≤ (ha_gA M 21 (40 * k + i)).toInt) (h : TQ e s s') : TQ e (ac1 M m k fs ls i s) (ac1 M m k fs ls i s') := by
  obtain ⟨w, se, wr, wa, bk⟩ := s
  obtain ⟨w', se', wr', wa', bk'⟩ := s'
  obtain ⟨h1, h2, h3, h4, h5⟩ := h
  dsimp only at h1 h2 h3 h4 h5 hv
  subst h3; subst h4; subst h5
  unfold ac1
  dsimp only
  have up : ∀ (c : Nat) (x : Int32), c ≠ 103 → TQ e (upd w c x, se, wr, wa, bk) (upd w' c x, se, wr, wa, bk') := fun c x hc => by
    refine ⟨fun q q1 q2 => ?_, ?_, rfl, rfl, rfl⟩
    · dsimp only
      by_cases d : q = c
      · rw [d, pk_us, pk_us]
      · rw [pk_un d, pk_un d]; exact h1 q q1 q2
    · dsimp only
      rw [pk_un (Ne.symm hc), pk_un (Ne.symm hc)]; exact h2
  by_cases c1 : ha_gA M 21 (40 * k + i) = 6
  · rw [if_pos c1, if_pos c1]
    by_cases c2 : fs = true ∧ se < m
    · rw [if_pos c2, if_pos c2]
      obtain ⟨g1, g2, -⟩ := up 104 (wat M m (se + 1)) (by omega)
      exact ⟨g1, g2, rfl, rfl, rfl⟩
    · rw [if_neg c2, if_neg c2]
      exact ⟨h1, h2, rfl, rfl, rfl⟩
  · rw [if_neg c1, if_neg c1, hv c1]
    by_cases c2 : ha_gA M 21 (40 * k + i) = 4
    · rw [if_pos c2, if_pos c2]; exact up 102 _ (by omega)
    · rw [if_neg c2, if_neg c2]
      by_cases c3 : (ha_gA M 21 (40 * k + i)).toInt < 4
      · rw [if_pos c3, if_pos c3]; exact up _ _ (by omega)
      · rw [if_neg c3, if_neg c3]
        by_cases c4 : ls = true ∧ wr < 100
        · rw [if_pos c4, if_pos c4]; exact ⟨h1, h2, rfl, rfl, rfl⟩
        · rw [if_neg c4, if_neg c4]; exact ⟨h1, h2, rfl, rfl, rfl⟩
theorem acs_cg {M : ha_St} {m k r : Nat} {fs ls : Bool} (hb : PB M k) (ha : PVa M k) (hr : r < tn (ha_gA M 15 k)) : ∀ (d i : Nat) (s s' : TW), i + d ≤ enn (ha_gA M 17) k r → TQ (NT M k) s s' → TQ (NT M k) (acs M m k fs ls d i s) (acs M m k fs ls d i s')
  | 0, _, _, _, _, h => h
  | d + 1, i, s, s', hd, h => by
    refine acs_cg hb ha hr d (i + 1) _ _ (by omega) (ac1_cg (fun h6 => ?_) (fun _ => ha r hr i (by omega)) h)
    unfold acv
    have b := hb.2 r hr i (by omega) h6
    rw [tq_at h b.1 (fun e => (e.2 r hr i (by omega) h6).1)]
    by_cases c : ha_gA M 23 (40 * k + i) = -1
    · rw [if_pos c, if_pos c]
    · rw [if_neg c, if_neg c, tq_at h (b.2 c) (fun e => (e.2 r hr i (by omega) h6).2 c)]
theorem twr_cg {M : ha_St} {m k : Nat} {fs ls : Bool} {s s' : TW} (hb : PB M k) (ha : PVa M k) (hu : ∀ r, r < tn (ha_gA M 15 k) → rbn (ha_gA M 17) k r ≤ enn (ha_gA M 17) k r) (h : TQ (NT M k) s s') : TQ (NT M k) (twr M m k fs ls s) (twr M m k fs ls s') := by
  unfold twr
  rw [frl_cg (w := s.1) (w' := s'.1) _ 0 (fun q _ hq => rho_cg hb h (by omega))]
  cases e : frl M k s'.1 (tn (ha_gA M 15 k)) 0 with
  | none => exact h
  | some r =>
    have := frl_lt _ _ _ e
    have := hu r (by omega)
    exact acs_cg (r := r) hb ha (by omega) _ _ _ _ (by omega) h
/-- all that is asked of the programs -/
def GP (M : ha_St) : Prop := ∀ k, k < 3 → PB M k ∧ PVa M k ∧ ∀ r, r < tn (ha_gA M 15 k) → rbn (ha_gA M 17) k r ≤ enn (ha_gA M 17) k r
theorem cx_gp {X M : ha_St} {m : Nat} (h : CX X M m) : GP M := fun k hk => by
  obtain ⟨p, -, -, -, hp⟩ := h.2.2.2.2 k hk
  refine ⟨(pr_pb hp).1, pr_pva hp, fun r hr => ?_⟩
  obtain ⟨R, h1, h2, h3, h4, h5, h6⟩ := pr_all hp
  rw [h2, tn_n (by omega)] at hr
  exact (h4 r hr).2.2.2.2.2.1
def ALK (M : ha_St) (n : Nat) (L L' : LNS) : Prop := L.2.2.2.1 = L'.2.2.2.1 ∧ L.2.2.2.2.1 = L'.2.2.2.2.1 ∧ L.2.2.2.2.2.1 = L'.2.2.2.2.2.1 ∧ (∀ t, t < n → L.1 t = L'.1 t) ∧ (∀ t, t < n → NT M (kin n t) ∨ L.2.1 t = L'.2.1 t) ∧ ∀ j, j < 4 * n → L.2.2.1 j = L'.2.2.1 j
theorem alk_stp {M : ha_St} {m n : Nat} {fg : Nat → Bool} {L L' : LNS} (h3 : 3 ≤ n) (hg : GP M) (h : ALK M n L L') : ALK M n (stp M m n fg L) (stp M m n fg L') := by
  obtain ⟨a1, a2, a3, a4, a5, a6⟩ := h
  have key : ∀ t, t < n → TQ (NT M (kin n t)) (tws M m n fg L t) (tws M m n fg L' t) := fun t ht => by
    obtain ⟨g1, g2, g3⟩ := hg (kin n t) (kin_lt n t)
    refine twr_cg g1 g2 g3 ⟨fun c hc hne => ?_, a5 t ht, a1, a2, a3⟩
    dsimp only
    unfold wv
    by_cases d : c < 100
    · rw [if_pos d, if_pos d]
    · rw [if_neg d, if_neg d]
      by_cases d0 : c = 100
      · rw [if_pos d0, if_pos d0]
        by_cases q : t = 0 ∨ fg (t - 1) = true
        · rw [if_pos q, if_pos q]
        · rw [if_neg q, if_neg q]; exact a4 _ (by omega)
      · rw [if_neg d0, if_neg d0]
        by_cases d1 : c = 101
        · rw [if_pos d1, if_pos d1]
          by_cases q : t + 1 = n ∨ fg t = true
          · rw [if_pos q, if_pos q]
          · rw [if_neg q, if_neg q]; exact a4 _ (by omega)
        · rw [if_neg d1, if_neg d1]
          by_cases d2 : c = 102
          · rw [if_pos d2, if_pos d2]; exact a4 t ht
          · rw [if_neg d2, if_neg d2, if_neg hne, if_neg hne]
            by_cases d4 : c = 104
            · rw [if_pos d4, if_pos d4, a1]
            · rw [if_neg d4, if_neg d4]
              by_cases d5 : c = 105
              · rw [if_pos d5, if_pos d5]
              · rw [if_neg d5, if_neg d5]; exact a6 _ (by omega)
  refine ⟨(key 0 (by omega)).2.2.1, (key (n - 1) (by omega)).2.2.2.1, (key (n - 1) (by omega)).2.2.2.2, fun t ht => (key t ht).1 102 (by omega) (by omega), fun t ht => ?_, fun j hj => (key (j / 4) (by omega)).1 (106 + j % 4) (by omega) (by omega)⟩
  rcases a5 t ht with g | g
  · exact Or.inl g
  · refine Or.inr ?_
    show ntm (L.2.1 t) (decide ((tws M m n fg L t).1 102 = L.1 t)) = ntm (L'.2.1 t) (decide ((tws M m n fg L' t).1 102 = L'.1 t))
    rw [g, a4 t ht, (key t ht).1 102 (by omega) (by omega)]
theorem alk_r (M : ha_St) (n : Nat) (L : LNS) : ALK M n L L := ⟨rfl, rfl, rfl, fun _ _ => rfl, fun _ _ => Or.inr rfl, fun _ _ => rfl⟩
theorem alk_rn {M : ha_St} {m n : Nat} {fg fg' : Nat → Nat → Bool} (h3 : 3 ≤ n) (hg : GP M) {a : Nat} : ∀ b, a ≤ b → (∀ t, a < t → t ≤ b → fg t = fg' t) → ALK M n (rn M m n fg a) (rn M m n fg' a) → ALK M n (rn M m n fg b) (rn M m n fg' b)
  | 0, h1, _, h => by
    have : a = 0 := by omega
    subst this
    exact h
  | b + 1, h1, h2, h => by
    by_cases c : a = b + 1
    · subst c; exact h
    · have ih := alk_rn h3 hg b (by omega) (fun t x y => h2 t x (by omega)) h
      show ALK M n (stp M m n (fg (b + 1)) (rn M m n fg b)) (stp M m n (fg' (b + 1)) (rn M m n fg' b))
      rw [h2 (b + 1) (by omega) (by omega)]
      exact alk_stp h3 hg ih
theorem rn_cg {M : ha_St} {m n : Nat} {fg fg' : Nat → Nat → Bool} : ∀ b, (∀ t, 1 ≤ t → t ≤ b → fg t = fg' t) → rn M m n fg b = rn M m n fg' b
  | 0, _ => rfl
  | b + 1, h => by
    show stp M m n (fg (b + 1)) (rn M m n fg b) = stp M m n (fg' (b + 1)) (rn M m n fg' b)
    rw [h (b + 1) (by omega) (by omega), rn_cg b (fun t x y => h t x (by omega))]
theorem wa_mono {M : ha_St} {m n : Nat} {fg : Nat → Nat → Bool} (hm : m ≤ 60) (hp : ∀ k, k < 3 → PVa M k) {a : Nat} (h : ¬ (rn M m n fg a).2.2.2.2.2.1 = -1) : ∀ b, a ≤ b → ¬ (rn M m n fg b).2.2.2.2.2.1 = -1
  | 0, h1 => by
    have : a = 0 := by omega
    subst this
    exact h
  | b + 1, h1 => by
    by_cases c : a = b + 1
    · subst c; exact h
    · have ih := wa_mono hm hp h b (by omega)
      have hT := ti_tws (n := n) (fg := fg (b + 1)) (t := n - 1) hm hp (li_rn (n := n) (fg := fg) hm hp b)
      have := hT.2.2.2.2.2.2.2.2.2.2 ih
      show ¬ (tws M m n (fg (b + 1)) (rn M m n fg b) (n - 1)).2.2.2.1 = -1
      rw [this]
      exact ih
theorem out_alk {M : ha_St} {m n : Nat} {L L' : LNS} (h : ALK M n L L') : out m L = out m L' := by
  unfold out
  rw [h.2.1, h.2.2.1]
/-! the class: like lines, a line taken over -/
theorem RX_o {X X' : ha_St} {l l' n : Nat} {L : LNS} (hl : isLn l) (hl' : isLn l') (hne : l' ≠ l) (hF : FG X X' l) (h : RX X l' n L) : RX X' l' n L := by
  unfold isLn at hl hl'
  obtain ⟨r1, r2, r3, r4, r5, r6, r7, r8⟩ := h
  have a : ∀ j, j < 4 → ha_gA X' (100 + j + 16 * l') = ha_gA X (100 + j + 16 * l') := fun j hj => hF.2.2.2 _ (by omega) (by omega) (by omega)
  have a0 := a 0 (by omega)
  have a1 := a 1 (by omega)
  have a2 := a 2 (by omega)
  have a3 := a 3 (by omega)
  exact ⟨(hF.2.2.1 l' 4 hne).trans r1, fun t ht => by rw [a0]; exact r2 t ht, fun t ht => by rw [a1]; exact r3 t ht, fun j hj => by rw [a2]; exact r4 j hj, (hF.2.2.1 l' 6 hne).trans r5, (hF.2.2.1 l' 5 hne).trans r6, (hF.2.2.1 l' 7 hne).trans r7, fun h k hk => by rw [a3]; exact r8 h k hk⟩
theorem take_x {X : ha_St} {l l' n : Nat} {L : LNS} (hIR : IR X) (hl : isLn l) (hl' : isLn l') (hne : l' ≠ l) (h16 : l ≠ 16) (hr : n ≤ rom l) (hr' : n ≤ rom l') (h : RX X l' n L) : Ok (f_X5_takeOver l l' X) (fun X' => RX X' l n L ∧ FG X X' l ∧ ha_gA X' 136 = ha_gA X 136) := by
  have hrl := rom_le l
  have hb1 : 16 ≤ l := by unfold isLn at hl; omega
  have hb2 : 16 ≤ l' := by unfold isLn at hl'; omega
  obtain ⟨r1, r2, r3, r4, r5, r6, r7, r8⟩ := h
  unfold f_X5_takeOver
  refine ok_b (lr0 hIR hl) ?_
  rw [ll0 hl, r1, if_neg (nI_nlt hr (by omega))]
  simp only [pw_nm, st_fI, st_fA]
  have e4 : nI n * 4 = nI (4 * n) := by rw [Nat.mul_comm]; exact nI_mul n 4
  refine ok_b (lr0 hIR hl') (ok_b (lr0 hIR hl) ?_)
  rw [ll0 hl, ll0 hl']
  simp only [st_II, st_IA, if_true, and_self, e4, nI_clamp (show n < 2 ^ 31 by omega), nI_clamp (show 4 * n < 2 ^ 31 by omega)]
  refine ok_gd ⟨by decide, by decide, nI_pos (by omega), ?_, ?_⟩ (ok_b (lr1 hIR hl') (ok_b (lr1 hIR hl) ?_))
  · rw [nI_clamp (by omega)]; show 0 + n ≤ rom l'; omega
  · rw [nI_clamp (by omega)]; show 0 + n ≤ rom l; omega
  rw [ll1 hl, ll1 hl']
  refine ok_gd ⟨by decide, by decide, nI_pos (by omega), ?_, ?_⟩ (ok_b (lr2 hIR hl') (ok_b (lr2 hIR hl) ?_))
  · rw [nI_clamp (by omega)]; show 0 + n ≤ rom l'; omega
  · rw [nI_clamp (by omega)]; show 0 + n ≤ rom l; omega
  rw [ll2 hl, ll2 hl']
  refine ok_gd ⟨by decide, by decide, nI_pos (by omega), ?_, ?_⟩ (ok_some ?_)
  · rw [nI_clamp (by omega)]; show 0 + 4 * n ≤ 4 * rom l'; omega
  · rw [nI_clamp (by omega)]; show 0 + 4 * n ≤ 4 * rom l; omega
  have cp : ∀ (f g : Nat → Int32) (N j : Nat), j < N → va_cpy f g (0 : Int32).toNatClampNeg (0 : Int32).toNatClampNeg N j = f j := fun f g N j hj => by
    show (if 0 ≤ j ∧ j < 0 + N then f (0 + (j - 0)) else g j) = f j
    rw [if_pos (by omega), show 0 + (j - 0) = j by omega]
  refine ⟨⟨?_, fun t ht => ?_, fun t ht => ?_, fun j hj => ?_, ?_, ?_, ?_, fun e => absurd e h16⟩, ⟨rfl, rfl, fun o k ho => ?_, fun a h1 h2 h3 => ?_⟩, ?_⟩
  · simp only [st_II, st_IA]
    rw [if_neg (by omega), if_neg (by omega), if_neg (by omega), if_pos ⟨trivial, trivial⟩]
  · simp only [st_AI, st_AA]
    rw [if_neg (by omega), if_neg (by omega), if_pos trivial, cp _ _ _ _ ht]
    exact r2 t ht
  · simp only [st_AI, st_AA]
    rw [if_neg (by omega), if_pos trivial, cp _ _ _ _ ht, if_neg (by omega)]
    exact r3 t ht
  · simp only [st_AI, st_AA]
    rw [if_pos trivial, cp _ _ _ _ hj, if_neg (by omega), if_neg (by omega)]
    exact r4 j hj
  · simp only [st_II, st_IA]
    rw [if_neg (by omega), if_pos ⟨trivial, trivial⟩, if_neg (by omega), if_neg (by omega)]
    exact r5
  · simp only [st_II, st_IA]
    rw [if_neg (by omega), if_neg (by omega), if_pos ⟨trivial, trivial⟩, if_neg (by omega)]
    exact r6
  · simp only [st_II, st_IA]
    rw [if_pos ⟨trivial, trivial⟩, if_neg (by omega), if_neg (by omega), if_neg (by omega)]
    exact r7
  · simp only [st_II, st_IA]
    rw [if_neg (fun h => ho h.1), if_neg (fun h => ho h.1), if_neg (fun h => ho h.1), if_neg (fun h => ho h.1)]
  · simp only [st_AI, st_AA]
    rw [if_neg (by omega), if_neg (by omega), if_neg (by omega)]
  · simp only [st_AI, st_AA]
    rw [if_neg (by omega), if_neg (by omega), if_neg (by omega)]
