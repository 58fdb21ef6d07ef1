/-! BEGINNING A LINE, AND WHAT CAME OF IT -/
def FG (X X' : ha_St) (l : Nat) : Prop := ha_gR X' = ha_gR X ∧ ha_gB X' = ha_gB X ∧ (∀ o k, o ≠ l → ha_gI X' o k = ha_gI X o k) ∧ ∀ a, a ≠ 135 → a ≠ 136 → ¬ (100 + 16 * l ≤ a ∧ a ≤ 103 + 16 * l) → ha_gA X' a = ha_gA X a
theorem FX_g {X X' : ha_St} {l : Nat} (h : FX X X' l) : FG X X' l := ⟨h.1, h.2.1, h.2.2.1, h.2.2.2.2⟩
theorem FG_r (X : ha_St) (l : Nat) : FG X X l := FX_g (FX_r X l)
theorem FG_t {X X1 X2 : ha_St} {l : Nat} (h : FG X X1 l) (g : FG X1 X2 l) : FG X X2 l := ⟨g.1.trans h.1, g.2.1.trans h.2.1, fun o k ho => (g.2.2.1 o k ho).trans (h.2.2.1 o k ho), fun a h1 h2 h3 => (g.2.2.2 a h1 h2 h3).trans (h.2.2.2 a h1 h2 h3)⟩
theorem CX_n {X X1 M : ha_St} {m : Nat} (f1 : ha_gR X1 = ha_gR X) (f2 : ha_gB X1 = ha_gB X) (f3 : ∀ o k, o = 2 ∨ (11 ≤ o ∧ o ≤ 15) → ha_gI X1 o k = ha_gI X o k) (f5 : ∀ a, a = 133 ∨ (276 ≤ a ∧ a < 356) → ha_gA X1 a = ha_gA X a) (hC : CX X M m) : CX X1 M m := by
  obtain ⟨c1, c2, c3, c4, c5⟩ := hC
  refine ⟨IR_c f1 c1, by rw [f3 2 6 (by omega)]; exact c2, c3, fun j hj => by rw [f5 133 (by omega)]; exact c4 j hj, fun k hk => ?_⟩
  obtain ⟨p, d1, d2, d3, d4⟩ := c5 k hk
  exact ⟨p, by rw [f2]; exact d1, d2, d3, PR_c (fun j => f3 p j (by omega)) (fun j hj => f5 _ (by omega)) rfl rfl rfl rfl rfl rfl rfl rfl rfl d4⟩
theorem CX_g {X X1 M : ha_St} {m l : Nat} (hl : isLn l) (h : FG X X1 l) (hC : CX X M m) : CX X1 M m := by
  unfold isLn at hl
  exact CX_n h.1 h.2.1 (fun o k ho => h.2.2.1 o k (by omega)) (fun a ha => h.2.2.2 a (by omega) (by omega) (by omega)) hC
theorem fill_x {S : ha_St} {a : Nat} {v : Int32} (h : xo_ln a ≤ 100) : Ok (f_J7_fill_53178 a v S) (fun S' => ∃ f, S' = ha_sA S a f ∧ ∀ j, j < xo_ln a → f j = v) := by
  unfold f_J7_fill_53178
  rw [pw_nm]
  refine ok_bind (P := fun S' => ∃ f, S' = ha_sA S a f ∧ ∀ j, j < xo_ln a → f j = v) ?_ (fun z hz => ok_some hz)
  refine ok_fors (fun i (f : Nat → Int32) => (nI i, nI (xo_ln a), ha_sA S a f)) 0 (xo_ln a) (fun i f => ∀ j, j < i → f j = v) _ (ha_gA S a) (by rw [st_self]; rfl) (fun u h => by omega) (by omega) (by omega) ?_ ?_
  · rintro g i f hi hv ih
    show Ok (f_J7_fill_53178_L5 a v g (nI i) (nI (xo_ln a)) (ha_sA S a f)) _
    unfold f_J7_fill_53178_L5
    refine ok_ie (nI_ge hi (by omega)) (ok_gd (n_in hi (by omega)) ?_)
    simp only [pw_nm, nI_1, st_sAA, nI_clamp (show i < 2 ^ 31 by omega)]
    refine ih _ (fun j hj => ?_)
    rw [st_AA, if_pos rfl]
    by_cases e : j = i
    · rw [e, pk_us]
    · rw [pk_un e]; exact hv j (by omega)
  · rintro g f hv
    show Ok (f_J7_fill_53178_L5 a v g (nI (xo_ln a)) (nI (xo_ln a)) (ha_sA S a f)) _
    unfold f_J7_fill_53178_L5
    exact ok_it (nI_le (Nat.le_refl _) (by omega)) (ok_some ⟨f, rfl, hv⟩)
theorem begin_x {X : ha_St} {l n : Nat} (hIR : IR X) (hl : isLn l) (hr : n ≤ rom l) : Ok (f_X5_begin l (nI n) X) (fun X' => RX X' l n lini ∧ FG X X' l ∧ ha_gA X' 135 = ha_gA X 135 ∧ ha_gA X' 136 = ha_gA X 136) := by
  have hrl := rom_le l
  have hlb : 16 ≤ l := by unfold isLn at hl; omega
  unfold f_X5_begin
  refine ok_b (lr0 hIR hl) ?_
  rw [ll0 hl, if_neg (nI_nlt (by omega) (by omega))]
  simp only [pw_nm]
  have h1 : IR (ha_sI X l 4 (nI n)) := IR_c (X := X) rfl hIR
  refine ok_b (lr0 h1 hl) (ok_bind (fill_x (by rw [ll0 hl]; omega)) ?_)
  rintro Y1 ⟨f1, rfl, g1⟩
  have h2 : IR (ha_sA (ha_sI X l 4 (nI n)) (100 + 16 * l) f1) := IR_c (X := X) rfl hIR
  refine ok_b (lr1 h2 hl) (ok_bind (fill_x (by rw [ll1 hl]; omega)) ?_)
  rintro Y2 ⟨f2, rfl, g2⟩
  have h3 : IR (ha_sA (ha_sA (ha_sI X l 4 (nI n)) (100 + 16 * l) f1) (101 + 16 * l) f2) := IR_c (X := X) rfl hIR
  refine ok_b (lr2 h3 hl) (ok_bind (fill_x (by rw [ll2 hl]; omega)) ?_)
  rintro Y3 ⟨f3, rfl, g3⟩
  rw [ll0 hl] at g1
  rw [ll1 hl] at g2
  rw [ll2 hl] at g3
  refine ok_some ⟨⟨?_, fun t ht => ?_, fun t ht => ?_, fun j hj => ?_, ?_, ?_, ?_, fun h k hk => absurd hk (Nat.not_lt_zero _)⟩, ⟨rfl, rfl, fun o k ho => ?_, fun a h1 h2 h3 => ?_⟩, ?_, ?_⟩
  · simp only [st_II, st_IA]
    rw [if_neg (by omega), if_neg (by omega), if_neg (by omega), if_pos ⟨trivial, trivial⟩]
  · simp only [st_AI, st_AA]
    rw [if_neg (by omega), if_neg (by omega), if_pos trivial]
    exact g1 t (by omega)
  · simp only [st_AI, st_AA]
    rw [if_neg (by omega), if_pos trivial]
    exact g2 t (by omega)
  · simp only [st_AI, st_AA]
    rw [if_pos trivial]
    exact g3 j (by omega)
  · simp only [st_II, st_IA]
    rw [if_neg (by omega), if_pos ⟨trivial, trivial⟩]
    rfl
  · simp only [st_II, st_IA]
    rw [if_neg (by omega), if_neg (by omega), if_pos ⟨trivial, trivial⟩]
    rfl
  · simp only [st_II, st_IA]
    rw [if_pos ⟨trivial, trivial⟩]
    rfl
  · simp only [st_II, st_IA]
    rw [if_neg (fun h => ho h.1), if_neg (fun h => ho h.1), if_neg (fun h => ho h.1), if_neg (fun h => ho h.1)]
  · simp only [st_AI, st_AA]
    rw [if_neg (by omega), if_neg (by omega), if_neg (by omega)]
  · simp only [st_AI, st_AA]
    rw [if_neg (by omega), if_neg (by omega), if_neg (by omega)]
  · simp only [st_AI, st_AA]
    rw [if_neg (by omega), if_neg (by omega), if_neg (by omega)]
/-- whole, short, wrong -/
def out (m : Nat) (L : LNS) : Int32 := if L.2.2.2.2.2.1 = -1 then (if m ≤ L.2.2.2.2.1 then 0 else 1) else 2
theorem out_x {X M : ha_St} {m l n : Nat} {L : LNS} (hC : CX X M m) (hL : RX X l n L) (hI : LIn M m L) : f_X1_outcome 2 l X = some (out m L, X) := by
  have hm : m ≤ 60 := hC.2.2.1
  have hw := hI.2.2.2.1
  unfold f_X1_outcome f_X1_outcome_J26 out
  rw [hL.2.2.2.2.2.2.1, hC.2.1, hL.2.2.2.2.2.1]
  by_cases c : L.2.2.2.2.2.1 = -1
  · rw [pw_it c, if_pos c]
    by_cases d : m ≤ L.2.2.2.2.1
    · rw [pw_it (nI_le d (by omega)), if_pos d]
    · rw [pw_ie (nI_ge (by omega) (by omega)), if_neg d]
  · rw [pw_ie c, if_neg c]
theorem judg_m {M M0 : ha_St} {m n : Nat} {L : LNS} (hC : CM M M0 m n) (hR : RM M n L) (hI : LIn M0 m L) : Ok (f_X12_judged 0 M) (fun z => z.1 = out m L ∧ ∃ x, z.2 = ha_sI M 0 48 x ∧ (¬ L.2.2.2.2.2.1 = -1 → x = L.2.2.2.2.2.1)) := by
  obtain ⟨hIM, hA, h30, h4, -, hm, h3, hn, -⟩ := hC
  obtain ⟨r1, r2, r3, r4, r5, r6⟩ := hR
  obtain ⟨-, -, -, hw, hWA⟩ := hI
  -- where it ends
  have hex : ∃ e, e ≤ L.2.2.2.2.1 ∧ e ≤ m ∧ (∀ i, i < e → L.2.2.2.2.2.2 i = ha_gA M0 27 i) ∧ (e < L.2.2.2.2.1 → e < m → ¬ L.2.2.2.2.2.2 e = ha_gA M0 27 e) ∧ ((L.2.2.2.2.2.1 = -1 ∧ e = L.2.2.2.2.1) ∨ (¬ L.2.2.2.2.2.1 = -1 ∧ e < L.2.2.2.2.1 ∧ L.2.2.2.2.2.1 = nI e)) := by
    rcases hWA with ⟨a1, a2, a3⟩ | ⟨j, a1, a2, a3, a4, a5⟩
    · exact ⟨_, Nat.le_refl _, a2, a3, fun h => by omega, Or.inl ⟨a1, rfl⟩⟩
    · exact ⟨j, by omega, a3, a4, fun _ h g => a5 ⟨h, g⟩, Or.inr ⟨by rw [a2]; exact n_m1 (by omega), a1, a2⟩⟩
  obtain ⟨e, e1, e2, e3, e4, e5⟩ := hex
  unfold f_X12_judged
  refine ok_bind (P := fun z => z = (nI e, M)) ?_ ?_
  · refine ok_for (fun i (_ : Unit) => (nI i, M)) 0 e (fun _ _ => True) _ () trivial (by omega) (by omega) ?_ ?_
    · rintro f i - hi - ih
      show Ok (f_X12_judged_L2 0 f (nI i) M) _
      unfold f_X12_judged_L2
      rw [r5, h30]
      refine ok_ie (nI_ge (by omega) (by omega)) (ok_ie (nI_ge (by omega) (by omega)) (ok_b (mA36 hIM) (ok_gd (by rw [mL37]; exact n_in (by omega) (by omega)) (ok_b (mA26 hIM) (ok_gd (by rw [mL27]; exact n_in (by omega) (by omega)) ?_)))))
      rw [nI_clamp (by omega), r6 i (by omega), hA 27 (by omega), e3 i hi]
      refine ok_ie (fun h => h rfl) ?_
      rw [pw_nm, nI_1]
      exact ih () trivial
    · rintro f - -
      show Ok (f_X12_judged_L2 0 f (nI e) M) _
      unfold f_X12_judged_L2
      rw [r5, h30]
      by_cases c : e < L.2.2.2.2.1
      · refine ok_ie (nI_ge c (by omega)) ?_
        by_cases d : e < m
        · refine ok_ie (nI_ge d (by omega)) (ok_b (mA36 hIM) (ok_gd (by rw [mL37]; exact n_in (by omega) (by omega)) (ok_b (mA26 hIM) (ok_gd (by rw [mL27]; exact n_in (by omega) (by omega)) ?_))))
          rw [nI_clamp (by omega), r6 e c, hA 27 (by omega)]
          exact ok_it (e4 c d) (ok_some rfl)
        · exact ok_it (nI_le (by omega) (by omega)) (ok_some rfl)
      · exact ok_it (nI_le (by omega) (by omega)) (ok_some rfl)
  · rintro z rfl
    unfold f_X12_judged_J39 f_X12_judged_J70 out
    dsimp only
    rw [pw_nm, show ha_gI (ha_sI M 0 48 (nI e)) 0 37 = nI L.2.2.2.2.1 from r5, show ha_gI (ha_sI M 0 48 (nI e)) 0 30 = nI m from h30]
    rcases e5 with ⟨f1, f2⟩ | ⟨f1, f2, f3⟩
    · rw [if_pos f1]
      refine ok_it (nI_le (by omega) (by omega)) ?_
      by_cases d : m ≤ L.2.2.2.2.1
      · rw [if_pos d]
        exact ok_ie (fun h => h (by rw [show L.2.2.2.2.1 = m by omega])) (ok_some ⟨rfl, nI e, rfl, fun h => absurd f1 h⟩)
      · rw [if_neg d]
        exact ok_it (fun h => by rw [nI_eq (by omega) (by omega)] at h; omega) (ok_some ⟨rfl, nI e, rfl, fun h => absurd f1 h⟩)
    · rw [if_neg f1]
      exact ok_ie (nI_ge f2 (by omega)) (ok_some ⟨rfl, nI e, rfl, fun _ => f3.symm⟩)
theorem begin_m {M M0 : ha_St} {m n : Nat} (hC : CM M M0 m n) : Ok (f_X12_begin 0 M) (fun M' => RM M' n lini ∧ FS M M' ∧ ha_gI M' 0 39 = 0) := by
  have hC0 := hC
  obtain ⟨hIM, hA, h30, h4, -, hm, h3, hn, -⟩ := hC
  unfold f_X12_begin
  refine ok_bind (P := fun Y => FS M Y ∧ (∀ t, t < n → ha_gA Y 33 t = 0) ∧ (∀ t, t < n → ha_gA Y 36 t = 0)) ?_ ?_
  · refine ok_for (fun i (Y : ha_St) => (nI i, Y)) 0 n (fun i Y => FS M Y ∧ (∀ t, t < i → ha_gA Y 33 t = 0) ∧ (∀ t, t < i → ha_gA Y 36 t = 0)) _ M ⟨FS_r M, fun t h => by omega, fun t h => by omega⟩ (by omega) (by omega) ?_ ?_
    · rintro f i Y hi ⟨y1, y2, y3⟩ ih
      show Ok (f_X12_begin_L2 0 f (nI i) Y) _
      have hCY := CM_f y1 hC0
      unfold f_X12_begin_L2
      rw [hCY.2.2.2.1]
      simp only [pw_nm, nI_1, st_fA]
      refine ok_ie (nI_ge hi (by omega)) (ok_b (mA32 hCY.1) (ok_gd (by rw [mL33]; exact n_in (by omega) (by omega)) (ok_b (mA35 hCY.1) (ok_gd (by rw [mL36]; exact n_in (by omega) (by omega)) ?_))))
      rw [nI_clamp (by omega), st_AA, if_neg (by omega)]
      refine ih _ ⟨FS_t y1 ⟨rfl, fun _ _ _ _ _ _ _ => rfl, fun a h1 h2 => by rw [st_AA, if_neg (by omega), st_AA, if_neg (by omega)]⟩, fun t ht => ?_, fun t ht => ?_⟩
      · rw [st_AA, if_neg (by omega), st_AA, if_pos rfl]
        by_cases e : t = i
        · rw [e, pk_us]
        · rw [pk_un e]; exact y2 t (by omega)
      · rw [st_AA, if_pos rfl]
        by_cases e : t = i
        · rw [e, pk_us]
        · rw [pk_un e]; exact y3 t (by omega)
    · rintro f Y ⟨y1, y2, y3⟩
      show Ok (f_X12_begin_L2 0 f (nI n) Y) _
      unfold f_X12_begin_L2
      rw [(CM_f y1 hC0).2.2.2.1]
      exact ok_it (nI_le (Nat.le_refl _) (by omega)) (ok_some ⟨y1, y2, y3⟩)
  · rintro Y ⟨y1, y2, y3⟩
    unfold f_X12_begin_J30
    have hIY := (CM_f y1 hC0).1
    refine ok_bind (P := fun Z => ∃ f, Z = ha_sA Y 35 f ∧ ∀ j, j < 64 → f j = 0) ?_ ?_
    · refine ok_fors (fun i (f : Nat → Int32) => (nI i, ha_sA Y 35 f)) 0 64 (fun i f => ∀ j, j < i → f j = 0) _ (ha_gA Y 35) (by rw [st_self]; rfl) (fun u h => by omega) (by omega) (by omega) ?_ ?_
      · rintro g i f hi hv ih
        show Ok (f_X12_begin_L32 0 g (nI i) (ha_sA Y 35 f)) _
        unfold f_X12_begin_L32
        refine ok_ie (show ¬ nI 64 ≤ nI i from nI_ge hi (by omega)) (ok_b (mA34 (M := ha_sA Y 35 f) hIY) (ok_gd (by rw [mL35]; exact n_in hi (by omega)) ?_))
        simp only [pw_nm, nI_1, st_sAA, nI_clamp (show i < 2 ^ 31 by omega)]
        refine ih _ (fun j hj => ?_)
        rw [st_AA, if_pos rfl]
        by_cases e : j = i
        · rw [e, pk_us]
        · rw [pk_un e]; exact hv j (by omega)
      · rintro g f hv
        show Ok (f_X12_begin_L32 0 g (nI 64) (ha_sA Y 35 f)) _
        unfold f_X12_begin_L32
        exact ok_it (show nI 64 ≤ nI 64 from nI_le (Nat.le_refl _) (by omega)) (ok_some ⟨f, rfl, hv⟩)
    · rintro Z ⟨f, rfl, hf⟩
      unfold f_X12_begin_J51
      simp only [pw_nm]
      refine ok_some ⟨⟨y2, y3, fun j hj => ?_, rfl, rfl, fun k hk => absurd hk (Nat.not_lt_zero _)⟩, FS_t y1 ⟨rfl, fun k a b c d e g => ?_, fun a h1 h2 => ?_⟩, rfl⟩
      · show ha_gA (ha_sA Y 35 f) 35 j = 0
        rw [st_AA, if_pos rfl]; exact hf j (by omega)
      · rw [st_II, if_neg (by omega), st_II, if_neg (by omega), st_II, if_neg (by omega), st_IA]
      · show ha_gA (ha_sA Y 35 f) a = _
        rw [st_AA, if_neg (by omega)]
