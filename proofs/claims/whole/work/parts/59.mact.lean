/-! THE MODEL: one tower's acts -/
theorem mA14 {M : ha_St} (h : IM M) : ha_rf mo_kd M 0 14 100 = some 15 := mr h 14 100
theorem mL15 : mo_ln 15 = 4 := by decide +kernel
theorem mA15 {M : ha_St} (h : IM M) : ha_rf mo_kd M 0 15 100 = some 16 := mr h 15 100
theorem mL16 : mo_ln 16 = 80 := by decide +kernel
theorem mA16 {M : ha_St} (h : IM M) : ha_rf mo_kd M 0 16 100 = some 17 := mr h 16 100
theorem mL17 : mo_ln 17 = 80 := by decide +kernel
theorem mA17 {M : ha_St} (h : IM M) : ha_rf mo_kd M 0 17 100 = some 18 := mr h 17 100
theorem mL18 : mo_ln 18 = 160 := by decide +kernel
theorem mA18 {M : ha_St} (h : IM M) : ha_rf mo_kd M 0 18 100 = some 19 := mr h 18 100
theorem mL19 : mo_ln 19 = 160 := by decide +kernel
theorem mA19 {M : ha_St} (h : IM M) : ha_rf mo_kd M 0 19 100 = some 20 := mr h 19 100
theorem mL20 : mo_ln 20 = 160 := by decide +kernel
theorem mA20 {M : ha_St} (h : IM M) : ha_rf mo_kd M 0 20 100 = some 21 := mr h 20 100
theorem mL21 : mo_ln 21 = 160 := by decide +kernel
theorem mA21 {M : ha_St} (h : IM M) : ha_rf mo_kd M 0 21 100 = some 22 := mr h 21 100
theorem mL22 : mo_ln 22 = 160 := by decide +kernel
theorem mA22 {M : ha_St} (h : IM M) : ha_rf mo_kd M 0 22 100 = some 23 := mr h 22 100
theorem mL23 : mo_ln 23 = 160 := by decide +kernel
theorem mA26 {M : ha_St} (h : IM M) : ha_rf mo_kd M 0 26 100 = some 27 := mr h 26 100
theorem mL27 : mo_ln 27 = 60 := by decide +kernel
theorem mA27 {M : ha_St} (h : IM M) : ha_rf mo_kd M 0 27 100 = some 28 := mr h 27 100
theorem mL28 : mo_ln 28 = 60 := by decide +kernel
theorem mA28 {M : ha_St} (h : IM M) : ha_rf mo_kd M 0 28 100 = some 29 := mr h 28 100
theorem mL29 : mo_ln 29 = 60 := by decide +kernel
theorem mA29 {M : ha_St} (h : IM M) : ha_rf mo_kd M 0 29 100 = some 30 := mr h 29 100
theorem mL30 : mo_ln 30 = 60 := by decide +kernel
theorem mA32 {M : ha_St} (h : IM M) : ha_rf mo_kd M 0 32 100 = some 33 := mr h 32 100
theorem mL33 : mo_ln 33 = 16 := by decide +kernel
theorem mA33 {M : ha_St} (h : IM M) : ha_rf mo_kd M 0 33 100 = some 34 := mr h 33 100
theorem mL34 : mo_ln 34 = 16 := by decide +kernel
theorem mA34 {M : ha_St} (h : IM M) : ha_rf mo_kd M 0 34 100 = some 35 := mr h 34 100
theorem mL35 : mo_ln 35 = 64 := by decide +kernel
theorem mA35 {M : ha_St} (h : IM M) : ha_rf mo_kd M 0 35 100 = some 36 := mr h 35 100
theorem mL36 : mo_ln 36 = 16 := by decide +kernel
theorem mA36 {M : ha_St} (h : IM M) : ha_rf mo_kd M 0 36 100 = some 37 := mr h 36 100
theorem mL37 : mo_ln 37 = 100 := by decide +kernel
theorem mA47 {M : ha_St} (h : IM M) : ha_rf mo_kd M 0 47 100 = some 48 := mr h 47 100
theorem mL48 : mo_ln 48 = 64 := by decide +kernel
theorem mA49 {M : ha_St} (h : IM M) : ha_rf mo_kd M 0 49 101 = some 50 := mr h 49 101
theorem mL50 : mo_ln 50 = 8016 := by decide +kernel
theorem mA50 {M : ha_St} (h : IM M) : ha_rf mo_kd M 0 50 100 = some 51 := mr h 50 100
theorem mL51 : mo_ln 51 = 64 := by decide +kernel
theorem mA51 {M : ha_St} (h : IM M) : ha_rf mo_kd M 0 51 100 = some 52 := mr h 51 100
theorem mL52 : mo_ln 52 = 16 := by decide +kernel
theorem mA52 {M : ha_St} (h : IM M) : ha_rf mo_kd M 0 52 100 = some 53 := mr h 52 100
theorem mL53 : mo_ln 53 = 100 := by decide +kernel

/-- the programs and the message, as they were at first -/
def PA (M M0 : ha_St) : Prop := ∀ a, (15 ≤ a ∧ a ≤ 23) ∨ a = 27 → ha_gA M a = ha_gA M0 a
def RMT (M M0 : ha_St) (m t : Nat) (s : TW) : Prop := ha_gA M 33 t = s.1 102 ∧ (∀ c, c < 4 → ha_gA M 35 (4 * t + c) = s.1 (106 + c)) ∧ ha_gI M 0 45 = s.1 100 ∧ ha_gI M 0 46 = s.1 101 ∧ ha_gA M 36 t = s.1 103 ∧ ha_gI M 0 38 = nI s.2.1 ∧ ha_gI M 0 37 = nI s.2.2.1 ∧ (∀ k, k < s.2.2.1 → ha_gA M 37 k = s.2.2.2.2 k) ∧ (∀ c, c < 100 → s.1 c = nI c) ∧ s.1 105 = -1 ∧ s.1 104 = (if t = 0 then wat M0 m s.2.1 else -1)
/-- what a tower's acts leave alone in the model -/
def FT (M M' : ha_St) (t : Nat) : Prop := ha_gR M' = ha_gR M ∧ (∀ k, k ≠ 37 → k ≠ 38 → k ≠ 40 → ha_gI M' 0 k = ha_gI M 0 k) ∧ (∀ a, a ≠ 33 → a ≠ 35 → a ≠ 37 → ha_gA M' a = ha_gA M a) ∧ (∀ u, u ≠ t → ha_gA M' 33 u = ha_gA M 33 u) ∧ ∀ j, ¬ (4 * t ≤ j ∧ j < 4 * t + 4) → ha_gA M' 35 j = ha_gA M 35 j
theorem FT_r (M : ha_St) (t : Nat) : FT M M t := ⟨rfl, fun _ _ _ _ => rfl, fun _ _ _ _ => rfl, fun _ _ => rfl, fun _ _ => rfl⟩
theorem FT_t {M M1 M2 : ha_St} {t : Nat} (h : FT M M1 t) (g : FT M1 M2 t) : FT M M2 t := ⟨g.1.trans h.1, fun k a b c => (g.2.1 k a b c).trans (h.2.1 k a b c), fun x a b c => (g.2.2.1 x a b c).trans (h.2.2.1 x a b c), fun u hu => (g.2.2.2.1 u hu).trans (h.2.2.2.1 u hu), fun j hj => (g.2.2.2.2 j hj).trans (h.2.2.2.2 j hj)⟩
theorem FT_pa {M M1 M0 : ha_St} {t : Nat} (h : FT M M1 t) (g : PA M M0) : PA M1 M0 := fun a ha => (h.2.2.1 a (by omega) (by omega) (by omega)).trans (g a ha)
/-- whether anything was sent or written since the tick began -/
def HC (M : ha_St) (se wr : Nat) (s : TW) : Prop := (ha_gI M 0 40 = 1 ∧ (s.2.1 ≠ se ∨ s.2.2.1 ≠ wr)) ∨ (ha_gI M 0 40 = 0 ∧ s.2.1 = se ∧ s.2.2.1 = wr)
theorem val_m {M M0 : ha_St} {m n t v : Nat} {s : TW} (hIM : IM M) (hA : PA M M0) (hm : m ≤ 60) (h30 : ha_gI M 0 30 = nI m) (hn : n ≤ 16) (ht : t < n) (hR : RMT M M0 m t s) (hs : s.2.1 ≤ m) (hv : v < 110) : f_X12_valueOf 0 (nI v) (nI t) M = some (s.1 v, M) := by
  obtain ⟨r1, r2, r3, r4, r5, r6, r7, r8, r9, r10, r11⟩ := hR
  unfold f_X12_valueOf f_X12_valueOf_J115 f_X12_valueOf_J116
  by_cases c : v < 100
  · rw [pw_ie (show ¬ (100 : Int32) ≤ nI v from nI_ge (b := 100) c (by omega)), r9 v c]
  · rw [pw_it (show (100 : Int32) ≤ nI v from nI_le (a := 100) (by omega) (by omega))]
    by_cases c2 : v < 106
    · rw [pw_it (show nI v < (106 : Int32) from nI_lt (b := 106) c2 (by omega)), pw_nm]
      have hv6 : v = 100 ∨ v = 101 ∨ v = 102 ∨ v = 103 ∨ v = 104 ∨ v = 105 := by omega
      rcases hv6 with rfl | rfl | rfl | rfl | rfl | rfl
      · rw [if_pos (by decide), r3]
      · rw [if_neg (by decide), if_pos (by decide), r4]
      · rw [if_neg (by decide), if_neg (by decide), if_pos (by decide), mA32 hIM, pw_bs, pw_gd (by rw [mL33]; exact n_in (by omega) (by omega)), nI_clamp (by omega), r1]
      · rw [if_neg (by decide), if_neg (by decide), if_neg (by decide), if_pos (by decide), mA35 hIM, pw_bs, pw_gd (by rw [mL36]; exact n_in (by omega) (by omega)), nI_clamp (by omega), r5]
      · rw [if_neg (by decide), if_neg (by decide), if_neg (by decide), if_neg (by decide), if_pos (by decide), r11]
        by_cases c3 : t = 0
        · rw [if_neg (show ¬ ¬ nI t = 0 from fun h => h (by rw [c3]; rfl)), if_pos c3, h30, r6]
          unfold wat
          by_cases c4 : s.2.1 < m
          · rw [if_neg (nI_ge c4 (by omega)), if_pos c4, mA26 hIM, pw_bs, pw_gd (by rw [mL27]; exact n_in (by omega) (by omega)), nI_clamp (by omega), hA 27 (by omega)]
          · rw [if_pos (nI_le (by omega) (by omega)), if_neg c4]
        · rw [if_pos (nI_ne0 (by omega) (by omega)), if_neg c3]
      · rw [if_neg (by decide), if_neg (by decide), if_neg (by decide), if_neg (by decide), if_neg (by decide), r10]
    · rw [pw_ie (show ¬ nI v < (106 : Int32) from nI_nlt (b := 106) (by omega) (by omega)), mA34 hIM, pw_bs]
      have e : (4 : Int32) * nI t + nI v - 106 = nI (4 * t + (v - 106)) := by
        rw [show (4 : Int32) * nI t = nI (4 * t) from nI_mul 4 t, nI_add, show (106 : Int32) = nI 106 from rfl, n_sub (by omega), show 4 * t + v - 106 = 4 * t + (v - 106) by omega]
      rw [e, pw_gd (by rw [mL35]; exact n_in (by omega) (by omega)), nI_clamp (by omega), r2 _ (by omega), show 106 + (v - 106) = v by omega]
theorem hol_m {M M0 : ha_St} {m n t k x : Nat} {s : TW} (hIM : IM M) (hA : PA M M0) (hm : m ≤ 60) (h30 : ha_gI M 0 30 = nI m) (hn : n ≤ 16) (ht : t < n) (hR : RMT M M0 m t s) (hs : s.2.1 ≤ m) (hk : k < 3) (hx : x < 40) {X : ha_St} {p : Nat} (hO : OnX X p M0 k x) : f_X12_holds 0 (nI (40 * k + x)) (nI t) M = some (if hol (ha_gA M0 19 (40 * k + x)) (s.1 (tn (ha_gA M0 18 (40 * k + x)))) (s.1 (tn (ha_gA M0 20 (40 * k + x)))) = true then 1 else 0, M) := by
  obtain ⟨o1, o2, o3, o4, o5, o6, o7, o8⟩ := hO
  unfold f_X12_holds f_X12_holds_J67 f_X12_holds_J79 f_X12_holds_J91 f_X12_holds_J103
  have hcl : (nI (40 * k + x)).toNatClampNeg = 40 * k + x := nI_clamp (by omega)
  have g1 : ¬ (nI (40 * k + x) < 0 ∨ 160 ≤ (nI (40 * k + x)).toNatClampNeg) := n_in (by omega) (by omega)
  have v1 : f_X12_valueOf 0 (ha_gA M 18 (40 * k + x)) (nI t) M = some (s.1 (tn (ha_gA M0 18 (40 * k + x))), M) := by
    rw [hA 18 (by omega), o4, tn_n (by omega)]; exact val_m hIM hA hm h30 hn ht hR hs o6
  have v2 : f_X12_valueOf 0 (ha_gA M 20 (40 * k + x)) (nI t) M = some (s.1 (tn (ha_gA M0 20 (40 * k + x))), M) := by
    rw [hA 20 (by omega), o5, tn_n (by omega)]; exact val_m hIM hA hm h30 hn ht hR hs o7
  rw [mA17 hIM, pw_bs, mL18, pw_gd g1, hcl, v1, pw_bs]
  dsimp only
  rw [mA19 hIM, pw_bs, mL20, v2]
  rw [hcl] at g1
  rw [pw_gd g1, pw_bs]
  dsimp only
  rw [mA18 hIM, pw_bs, mL19, pw_gd g1, pw_nm, hA 19 (by omega)]
  generalize s.1 (tn (ha_gA M0 18 (40 * k + x))) = a
  generalize s.1 (tn (ha_gA M0 20 (40 * k + x))) = b
  have h2 : ∃ y, mkR y (ha_gA M0 19 (40 * k + x)) := ⟨_, o2⟩
  generalize ha_gA M0 19 (40 * k + x) = g at h2
  unfold hol
  obtain ⟨y, h2⟩ := h2
  rcases h2 with ⟨-, rfl⟩ | ⟨-, rfl⟩ | ⟨-, rfl⟩ | ⟨-, rfl⟩
  · rw [pw_it rfl, pw_it rfl]
    by_cases c : a < b
    · rw [pw_ie (by rw [i_le]; rw [i_lt] at c; omega), if_pos (by simp [c])]; rfl
    · rw [pw_it (by rw [i_le]; rw [i_lt] at c; omega), if_neg (by simp [c])]; rfl
  · rw [if_neg (show ¬ (61 : Int32) = 60 by decide), if_pos (show (61 : Int32) = 61 from rfl), if_neg (show ¬ (61 : Int32) = 60 by decide), if_pos (show (61 : Int32) = 61 from rfl)]
    by_cases c : a = b
    · rw [pw_ie (fun h => h c), if_pos (by simp [c])]; rfl
    · rw [pw_it c, if_neg (by simp [c])]; rfl
  · rw [if_neg (show ¬ (62 : Int32) = 60 by decide), if_neg (show ¬ (62 : Int32) = 61 by decide), if_pos (show (62 : Int32) = 62 from rfl), if_neg (show ¬ (62 : Int32) = 60 by decide), if_neg (show ¬ (62 : Int32) = 61 by decide), if_pos (show (62 : Int32) = 62 from rfl)]
    by_cases c : b < a
    · rw [pw_ie (by rw [i_le]; rw [i_lt] at c; omega), if_pos (by simp [c])]; rfl
    · rw [pw_it (by rw [i_le]; rw [i_lt] at c; omega), if_neg (by simp [c])]; rfl
  · rw [if_neg (show ¬ (35 : Int32) = 60 by decide), if_neg (show ¬ (35 : Int32) = 61 by decide), if_neg (show ¬ (35 : Int32) = 62 by decide), if_neg (show ¬ (35 : Int32) = 60 by decide), if_neg (show ¬ (35 : Int32) = 61 by decide), if_neg (show ¬ (35 : Int32) = 62 by decide)]
    by_cases c : a = b
    · rw [pw_it c, if_neg (by simp [c])]; rfl
    · rw [pw_ie c, if_pos (by simp [c])]; rfl
