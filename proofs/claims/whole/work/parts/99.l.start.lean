/-! WHAT HOLDS AT THE LAW'S ENTRY: words, classes, arrays' classes, strings, statics -/
def vy_pl : List (Nat × Nat) := [(1, 23), (5, 79), (5, 88), (5, 90), (5, 93), (5, 95), (5, 80), (5, 81), (1, 33), (1, 34), (5, 82), (5, 87), (5, 91), (5, 111), (5, 69), (5, 112), (5, 71), (5, 113), (5, 73), (5, 83), (5, 85), (5, 75), (5, 107), (5, 108), (5, 110), (5, 75), (5, 98), (5, 99), (5, 100), (5, 101), (5, 101), (5, 102), (5, 103), (5, 104), (5, 104), (5, 105), (5, 106), (5, 107), (5, 97), (5, 58), (5, 66), (5, 67), (5, 68), (5, 70), (5, 72), (5, 74), (5, 78), (5, 77), (5, 76)]
def vy_tb (k : Nat) : List Cond := if k = 1 then tables_1_1 else tables_1_5
theorem vy_pe : (vy_at.filter goodWord).map some = vy_pl.map (fun q => (vy_tb q.1)[q.2]?) := by decide +kernel
theorem vy_tt {k : Nat} {w : Cond} (h : w ∈ vy_tb k) : w ∈ lw_tbl := by
  unfold vy_tb at h
  by_cases hk : k = 1
  · rw [if_pos hk] at h; exact lwt_1 h
  · rw [if_neg hk] at h; exact lwt_5 h
theorem vy_in : ∀ w ∈ vy_at.filter goodWord, w ∈ lw_tbl := by
  intro w hw
  have h : some w ∈ (vy_at.filter goodWord).map some := List.mem_map_of_mem hw
  rw [vy_pe] at h
  obtain ⟨q, -, hq⟩ := List.mem_map.mp h
  exact vy_tt (List.mem_of_getElem? hq)
theorem wsL_law_in : ∀ w ∈ wsL_law, w ∈ lw_tbl := List.forall_mem_append.mpr ⟨wsL_law_in0, vy_in⟩
section LWT
variable {s : State} {b : Nat}
theorem lw_K (hts : ∀ w ∈ lw_tbl, w.before #[Value.ref b] s = true) : ∃ (D : va_G) (cs : Nat → ClassId), va_K D vwCl (ha_tys cs) s := by
  have ts : ∀ w ∈ wsL_law, w.before #[Value.ref b] s = true := fun w h => hts w (wsL_law_in w h)
  have h : ∀ c : Nat, ∃ d : ClassId × (Nat → Nat), ∀ q : vw_C, vwCl[c]? = some q → u_Kn s q.1 q.2.1 q.2.2 d.1 d.2 := by
    intro c
    match c with
    | 0 =>
      obtain ⟨cC, iS, h⟩ := u_known ts lw_uX0 (hts (.instantiable RX0 11) (lwt_2 (List.mem_of_getElem? (i := 19) rfl)))
      refine ⟨(cC, iS), fun q hq => ?_⟩
      obtain rfl : (RX0, TX0, 11) = q := Option.some.inj hq
      exact h
    | 1 =>
      obtain ⟨cC, iS, h⟩ := u_known ts lw_uX1 (hts (.instantiable RX1 8) (lwt_1 (List.mem_of_getElem? (i := 61) rfl)))
      refine ⟨(cC, iS), fun q hq => ?_⟩
      obtain rfl : (RX1, TX1, 8) = q := Option.some.inj hq
      exact h
    | 2 =>
      obtain ⟨cC, iS, h⟩ := u_known ts lw_uX2 (hts (.instantiable RX2 9) (lwt_2 (List.mem_of_getElem? (i := 121) rfl)))
      refine ⟨(cC, iS), fun q hq => ?_⟩
      obtain rfl : (RX2, TX2, 9) = q := Option.some.inj hq
      exact h
    | 3 =>
      obtain ⟨cC, iS, h⟩ := u_known ts lw_uX3 (hts (.instantiable RX3 4) (lwt_2 (List.mem_of_getElem? (i := 65) rfl)))
      refine ⟨(cC, iS), fun q hq => ?_⟩
      obtain rfl : (RX3, TX3, 4) = q := Option.some.inj hq
      exact h
    | 4 =>
      obtain ⟨cC, iS, h⟩ := u_known ts lw_uX4 (hts (.instantiable RX4 3) (lwt_2 (List.mem_of_getElem? (i := 158) rfl)))
      refine ⟨(cC, iS), fun q hq => ?_⟩
      obtain rfl : (RX4, TX4, 3) = q := Option.some.inj hq
      exact h
    | 5 =>
      obtain ⟨cC, iS, h⟩ := u_known ts lw_uX5 (hts (.instantiable RX5 8) (lwt_1 (List.mem_of_getElem? (i := 191) rfl)))
      refine ⟨(cC, iS), fun q hq => ?_⟩
      obtain rfl : (RX5, TX5, 8) = q := Option.some.inj hq
      exact h
    | 6 =>
      obtain ⟨cC, iS, h⟩ := u_known ts lw_uX6 (hts (.instantiable RX6 8) (lwt_2 (List.mem_of_getElem? (i := 88) rfl)))
      refine ⟨(cC, iS), fun q hq => ?_⟩
      obtain rfl : (RX6, TX6, 8) = q := Option.some.inj hq
      exact h
    | 7 =>
      obtain ⟨cC, iS, h⟩ := u_known ts lw_uX7 (hts (.instantiable RX7 5) (lwt_1 (List.mem_of_getElem? (i := 185) rfl)))
      refine ⟨(cC, iS), fun q hq => ?_⟩
      obtain rfl : (RX7, TX7, 5) = q := Option.some.inj hq
      exact h
    | 8 =>
      obtain ⟨cC, iS, h⟩ := u_known ts lw_uX8 (hts (.instantiable RX8 12) (lwt_1 (List.mem_of_getElem? (i := 68) rfl)))
      refine ⟨(cC, iS), fun q hq => ?_⟩
      obtain rfl : (RX8, TX8, 12) = q := Option.some.inj hq
      exact h
    | 9 =>
      obtain ⟨cC, iS, h⟩ := u_known ts lw_uX9 (hts (.instantiable RX9 8) (lwt_1 (List.mem_of_getElem? (i := 150) rfl)))
      refine ⟨(cC, iS), fun q hq => ?_⟩
      obtain rfl : (RX9, TX9, 8) = q := Option.some.inj hq
      exact h
    | 10 =>
      obtain ⟨cC, iS, h⟩ := u_known ts lw_uX10 (hts (.instantiable RX10 2) (lwt_1 (List.mem_of_getElem? (i := 36) rfl)))
      refine ⟨(cC, iS), fun q hq => ?_⟩
      obtain rfl : (RX10, TX10, 2) = q := Option.some.inj hq
      exact h
    | 11 =>
      obtain ⟨cC, iS, h⟩ := u_known ts lw_uX11 (hts (.instantiable RX11 17) (lwt_1 (List.mem_of_getElem? (i := 28) rfl)))
      refine ⟨(cC, iS), fun q hq => ?_⟩
      obtain rfl : (RX11, TX11, 17) = q := Option.some.inj hq
      exact h
    | 12 =>
      obtain ⟨cC, iS, h⟩ := u_known ts lw_uX12 (hts (.instantiable RX12 83) (lwt_5 (List.mem_of_getElem? (i := 124) rfl)))
      refine ⟨(cC, iS), fun q hq => ?_⟩
      obtain rfl : (RX12, TX12, 83) = q := Option.some.inj hq
      exact h
    | n + 13 => exact ⟨(0, fun _ => 0), fun q hq => by simp [vwCl] at hq⟩
  generalize hdd : (fun c => Classical.choose (h c)) = d
  have hd : ∀ (c : Nat) (q : vw_C), vwCl[c]? = some q → u_Kn s q.1 q.2.1 q.2.2 (d c).1 (d c).2 := fun c => by
    rw [← hdd]
    exact Classical.choose_spec (h c)
  obtain ⟨c0, k0, p0, a1, a2, a3⟩ := Cond.arrayClass_spec (hts (.arrayClass .int) (lwt_1 (List.mem_of_getElem? (i := 59) rfl)))
  obtain ⟨c1, k1, p1, b1, b2, b3⟩ := Cond.arrayClass_spec (hts (.arrayClass .byte) (lwt_3 (List.mem_of_getElem? (i := 191) rfl)))
  obtain ⟨p2, c2, k2, d1, -, d3, d4, d5⟩ := Cond.arrayOver_spec (hts (.arrayOver (.object "HillArms$Line")) (lwt_2 (List.mem_of_getElem? (i := 25) rfl)))
  obtain ⟨p3, c3, k3, e1, -, e3, e4, e5⟩ := Cond.arrayOver_spec (hts (.arrayOver (.object "HillArms$Program")) (lwt_1 (List.mem_of_getElem? (i := 67) rfl)))
  obtain ⟨p4, c4, k4, f1, f2, f3, f4⟩ := ny_over (hts (.arrayOver (.array .int)) (lwt_2 (List.mem_of_getElem? (i := 127) rfl)))
  refine ⟨(fun c => (d c).1, fun c => (d c).2), fun k => if k = 100 then c0 else if k = 101 then c1 else if k = 102 then c2 else if k = 103 then c3 else c4, fun c q hq => hd c q hq, fun k q hk => ?_⟩
  match k with
  | 0 =>
    obtain rfl : (c0, FieldType.int) = q := Option.some.inj hk
    exact ⟨fun n z => ⟨fun k h => (by cases h), k0, a2, p0, a3⟩, a1⟩
  | 1 =>
    obtain rfl : (c1, FieldType.byte) = q := Option.some.inj hk
    exact ⟨fun n z => ⟨fun k h => (by cases h), k1, b2, p1, b3⟩, b1⟩
  | 2 =>
    obtain rfl : (c2, FieldType.object "HillArms$Line") = q := Option.some.inj hk
    exact ⟨fun n z => ⟨fun k h => (by cases h), k2, d3, p2, d4⟩, k2, p2, d3, d4, d1, d5⟩
  | 3 =>
    obtain rfl : (c3, FieldType.object "HillArms$Program") = q := Option.some.inj hk
    exact ⟨fun n z => ⟨fun k h => (by cases h), k3, e3, p3, e4⟩, k3, p3, e3, e4, e1, e5⟩
  | 4 =>
    obtain rfl : (c4, FieldType.array .int) = q := Option.some.inj hk
    exact ⟨fun n z => ⟨fun k h => (by cases h), k4, f2, p4, f3⟩, f4⟩
  | n + 5 => exact absurd hk (by simp [ha_tys])
theorem lw_N (hts : ∀ w ∈ lw_tbl, w.before #[Value.ref b] s = true) : ct_N s :=
  ⟨va_Nw.of rfl (hts (.methodLinkNest RX1 30 yX8_init "HillArms") (lwt_1 (List.mem_of_getElem? (i := 69) rfl))), va_Nw.of rfl (hts (.methodLinkNest RX9 17 yX8_init "HillArms") (lwt_1 (List.mem_of_getElem? (i := 156) rfl))), va_Nw.of rfl (hts (.methodLinkNest RX11 9 yX10_init "HillArms") (lwt_1 (List.mem_of_getElem? (i := 37) rfl))), va_Nw.of rfl (hts (.methodLinkNest RX11 32 yX7_init "HillArms") (lwt_1 (List.mem_of_getElem? (i := 186) rfl))), va_Nw.of rfl (hts (.methodLinkNest RX11 46 yX3_init "HillArms") (lwt_2 (List.mem_of_getElem? (i := 66) rfl))), va_Nw.of rfl (hts (.methodLinkNest RX11 69 yX2_init "HillArms") (lwt_2 (List.mem_of_getElem? (i := 122) rfl))), va_Nw.of rfl (hts (.methodLinkNest RX11 76 yX4_init "HillArms") (lwt_2 (List.mem_of_getElem? (i := 159) rfl))), va_Nw.of rfl (hts (.methodLinkNest RX11 83 yX8_init "HillArms") (lwt_2 (List.mem_of_getElem? (i := 174) rfl))), va_AO.of (hts (.arrayOver (.object "HillArms$Line")) (lwt_2 (List.mem_of_getElem? (i := 25) rfl))), va_AO.of (hts (.arrayOver (.object "HillArms$Program")) (lwt_1 (List.mem_of_getElem? (i := 67) rfl))), va_AOA.of (hts (.arrayOver (.array .int)) (lwt_2 (List.mem_of_getElem? (i := 127) rfl)))⟩
def sb_fl : List Cond := flatC (Jvm.Cond.and given_1 narrow_1)
def sb_t (i : Nat) : Term := if i = 0 then .string RX9 109 else .string RX9 117
def sb_p (i : Nat) : Nat := if i = 0 then 130 else 24
theorem sb_ex : ∀ i, i < 2 → sb_fl[sb_p i]? = some (.exactly (sb_t i) "java/lang/String") := by decide +kernel
theorem sb_co : ∀ i, i < 2 → sb_fl[sb_p i + 1]? = some (.eq (.field (sb_t i) "java/lang/String" "coder" "B") (.int 0)) := by decide +kernel
theorem sb_ar : ∀ i, i < 2 → sb_fl[sb_p i + 2]? = some (.arrayOf (.field (sb_t i) "java/lang/String" "value" "[B") .byte) := by decide +kernel
theorem sb_le : ∀ i, i < 2 → sb_fl[sb_p i + 3]? = some (.eq (.length (.field (sb_t i) "java/lang/String" "value" "[B")) (.int (Int32.ofNat (([7, 102] : List Nat).getD i 0)))) := by decide +kernel
theorem sb_el : ∀ i, i < 2 → ∀ j, j < ([7, 102] : List Nat).getD i 0 → sb_fl[sb_p i + 4 + j]? = some (.eq (.elem (.field (sb_t i) "java/lang/String" "value" "[B") (.int (Int32.ofNat j))) (.int ((xo_byt.getD i []).getD j 0))) := by decide +kernel
theorem sb_ne : sb_fl[141]? = some (.not (.eq (sb_t 1) (sb_t 0))) := by decide +kernel
theorem sb_st : sb_fl[4]? = some (.eq (.static "java/lang/String" "COMPACT_STRINGS" "Z") (.int 1)) ∧ sb_fl[5]? = some (.isRef (.static "jdk/internal/util/Preconditions" "SIOOBE_FORMATTER" "Ljava/util/function/BiFunction;")) ∧ sb_fl[9]? = some (.isRef (.static Bundle.tN "UNASSIGNED_STACK" Bundle.steD)) ∧ sb_fl[10]? = some (.isRef (.static Bundle.tN "SUPPRESSED_SENTINEL" Bundle.listD)) ∧ sb_fl[142]? = some (.exactly (.string RX11 244) "java/lang/String") := by decide +kernel
theorem lw_Z0 (hts : ∀ w ∈ lw_tbl, w.before #[Value.ref b] s = true) (hgv : (Jvm.Cond.and given_1 narrow_1).before #[Value.ref b] s = true) : ∃ adK adV : Nat → Nat, xo_Z adK adV (fun q => s.heap.size ≤ q) s := by
  have hs : ∀ c ∈ sb_fl, c.before #[Value.ref b] s = true := flat_of_before _ hgv
  have hA : ∀ a : Nat, a < s.heap.size → ¬ s.heap.size ≤ a := fun a h => Nat.not_le.mpr h
  obtain ⟨adK, adV, hS, hE⟩ := vk_Sof (args := #[Value.ref b]) (N := 2) (tm := sb_t) (len := [7, 102]) (byt := xo_byt) (A := fun q => s.heap.size ≤ q) (by decide) (fun i hi => hs _ (List.mem_of_getElem? (sb_ex i hi))) (fun i hi => hs _ (List.mem_of_getElem? (sb_co i hi))) (fun i hi => hs _ (List.mem_of_getElem? (sb_ar i hi))) (fun i hi => hs _ (List.mem_of_getElem? (sb_le i hi))) (fun i hi j hj => hs _ (List.mem_of_getElem? (sb_el i hi j hj))) (fun i j hi hj hne => by
    have h1 : i = 0 ∨ i = 1 := by omega
    have h2 : j = 0 ∨ j = 1 := by omega
    rcases h1 with rfl | rfl <;> rcases h2 with rfl | rfl
    · exact absurd rfl hne
    · exact Or.inr (hs _ (List.mem_of_getElem? sb_ne))
    · exact Or.inl (hs _ (List.mem_of_getElem? sb_ne))
    · exact absurd rfl hne) hA
  refine ⟨adK, adV, ⟨va_Nw.of rfl (hts (.methodLinkNest RX9 96 yX11_isLetter "HillArms") (lwt_3 (List.mem_of_getElem? (i := 26) rfl))), va_Nw.of rfl (hts (.methodLinkNest RX9 99 yX11_isDigit "HillArms") (lwt_3 (List.mem_of_getElem? (i := 29) rfl))), va_Nw.of rfl (hts (.methodLinkNest RX10 19 yX11_isLetter "HillArms") (lwt_4 (List.mem_of_getElem? (i := 123) rfl))), va_Nw.of rfl (hts (.methodLinkNest RX6 48 yX11_isLetter "HillArms") (lwt_4 (List.mem_of_getElem? (i := 153) rfl))), va_Nw.of rfl (hts (.methodLinkNest RX3 35 yX11_isLetter "HillArms") (lwt_4 (List.mem_of_getElem? (i := 158) rfl)))⟩, hS, ?_, ?_, ?_, ?_⟩
  · exact vk_R.of (hts (.stringRef RX9 109 ";,+<=>#") (lwt_3 (List.mem_of_getElem? (i := 93) rfl))) (hE 0 (by decide))
  · exact vk_R.of (hts (.stringRef RX9 117 "left  right own   time  word  blind a     b     c     d     when  and   do    show  is    write sent  ") (lwt_3 (List.mem_of_getElem? (i := 40) rfl))) (hE 1 (by decide))
  · exact va_Zof (hts (.laysStatic "java/lang/String" "COMPACT_STRINGS" "Z") (lwt_3 (List.mem_of_getElem? (i := 50) rfl))) (hts (.initialized "java/lang/String") (lwt_1 (List.mem_of_getElem? (i := 15) rfl))) (va_eqt (hs _ (List.mem_of_getElem? sb_st.1))) hA
  · exact va_Zqof (hts (.laysStatic "jdk/internal/util/Preconditions" "SIOOBE_FORMATTER" "Ljava/util/function/BiFunction;") (lwt_3 (List.mem_of_getElem? (i := 70) rfl))) (hts (.initialized "jdk/internal/util/Preconditions") (lwt_1 (List.mem_of_getElem? (i := 17) rfl))) (hs _ (List.mem_of_getElem? sb_st.2.1)) hA
theorem lw_Y0 (hts : ∀ w ∈ lw_tbl, w.before #[Value.ref b] s = true) (hgv : (Jvm.Cond.and given_1 narrow_1).before #[Value.ref b] s = true) : ∃ sa : Nat, rz (fun q => s.heap.size ≤ q) sa s := by
  have hs : ∀ c ∈ sb_fl, c.before #[Value.ref b] s = true := flat_of_before _ hgv
  have hA : ∀ a : Nat, a < s.heap.size → ¬ s.heap.size ≤ a := fun a h => Nat.not_le.mpr h
  obtain ⟨sa, cc, cA, kA, q1, -⟩ := Cond.exactly_spec (args := #[Value.ref b]) (first := s) (o := none) (s := s) (idx := []) (t := .string RX11 244) (cls := "java/lang/String") (hs _ (List.mem_of_getElem? sb_st.2.2.2.2))
  exact ⟨sa, vk_R.of (hts (.stringRef RX11 244 "signs, towers or odds not as told") (lwt_5 (List.mem_of_getElem? (i := 96) rfl))) q1, vx_Zqof (hts (.laysStatic Bundle.tN "UNASSIGNED_STACK" Bundle.steD) (lwt_5 (List.mem_of_getElem? (i := 84) rfl))) (hts (.initialized Bundle.tN) (lwt_1 (List.mem_of_getElem? (i := 23) rfl))) (hs _ (List.mem_of_getElem? sb_st.2.2.1)) hA, vx_Zqof (hts (.laysStatic Bundle.tN "SUPPRESSED_SENTINEL" Bundle.listD) (lwt_5 (List.mem_of_getElem? (i := 86) rfl))) (hts (.initialized Bundle.tN) (lwt_1 (List.mem_of_getElem? (i := 23) rfl))) (hs _ (List.mem_of_getElem? sb_st.2.2.2.1)) hA, va_Nw.of rfl (hts (.castable "java/util/NoSuchElementException" "java/util/NoSuchElementException") (lwt_5 (List.mem_of_getElem? (i := 59) rfl))), va_Nw.of rfl (hts (.declares (Bundle.initS "java/lang/RuntimeException")) (lwt_5 (List.mem_of_getElem? (i := 61) rfl))), va_Nw.of rfl (hts (.declares (Bundle.initS "java/lang/Exception")) (lwt_5 (List.mem_of_getElem? (i := 63) rfl))), va_Nw.of rfl (hts (.declares (Bundle.initS Bundle.tN)) (lwt_5 (List.mem_of_getElem? (i := 65) rfl)))⟩
end LWT
