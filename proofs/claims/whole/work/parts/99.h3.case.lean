/-! THE LAW'S CASES, group 3 -/
section LWK3
variable {p : Program} {l : Launch} {e : Env} {s : State} {m : MethodId} {below : List Frame} {meth : Method} {c : Code} {H : Heap} {locs : List Loc} {cells slots : Nat} {Q : State → Prop}
variable {ls : Array Slot} {b L i : Nat} {xs : Nat → Int32} {D : va_G} {cs : Nat → ClassId} {cO : ClassId} {adx adm adK adV : Nat → Nat} {o sa : Nat} {X M : ha_St} {f : Nat → Int64}
theorem lw_k22 (F : lwF p s m meth c b L xs D cs cO adx adm adK adV o sa) (G : lwM s D cs cO adx adm o X M f H locs) (hI : Inv X M) (hL : L ≤ 3072) (hi : i + 6 ≤ L) (hsz : ls.size = 8) (h0 : ls[0]? = some (.val (.ref b))) (h1 : ls[1]? = some (.val (.ref (adx 0)))) (h2 : ls[2]? = some (.val (.ref (adm 0)))) (h4 : ls[4]? = some (.val (.int (nI i)))) (hr : cells ≤ 601024 ∧ slots ≤ 7293034)
    (kk : ∀ (X1 M1 : ha_St) (H1 : Heap) (locs1 : List Loc), Inv X1 M1 → lwM s D cs cO adx adm o X1 M1 f H1 locs1 → W p l e room_1 s m #[Value.ref b] below meth c H1 locs1 cells slots Q (F0 m 1006 ls [])) : W p l e room_1 s m #[Value.ref b] below meth c H locs cells slots Q (F0 m 820 ls []) := by
  obtain ⟨⟨z1, X1⟩, ⟨z2, M1⟩, hx, hm, hz, hI1⟩ := e_note hI (xs (i + 1)) (xs (i + 2)) (xs (i + 3))
  have hz : z1 = z2 := hz
  subst hz
  refine lv_aload_n F.ex F.hb dL_law_820 rfl h1 ?_
  refine lw_arg F G.S hL h0 h4 (k := 1) (by omega) (by decide) dL_law_821 dL_law_822 dL_law_824 dL_law_825 dL_law_826 ?_
  refine lw_arg F G.S hL h0 h4 (k := 2) (by omega) (by decide) dL_law_827 dL_law_828 dL_law_830 dL_law_831 dL_law_832 ?_
  refine lw_arg F G.S hL h0 h4 (k := 3) (by omega) (by decide) dL_law_833 dL_law_834 dL_law_836 dL_law_837 dL_law_838 ?_
  refine lw_callX (As := [.int (xs (i + 1)), .int (xs (i + 2)), .int (xs (i + 3))]) (rest := []) (z := z1) (X1 := X1) F G (c_X11_note (p0 := 0) (out := (z1, X1)) xo_Zok xo_hN (fun U h => h) rfl hx) (cwV (R := room_1) 3 F.ts gL_law_X11_note (rm := ({ frames := 1, cells := 0, slots := 0, locals := 24 } : Room)) (mc := 0) (ms := 0) rfl rfl rfl (by decide +kernel) ⟨Nat.le_of_ble_eq_true rfl, Nat.le_of_ble_eq_true rfl⟩) rfl hsz rfl (Nat.le_of_ble_eq_true rfl) dL_law_839 hr (fun H1 locs1 G1 => ?_)
  refine lv_aload_n F.ex F.hb dL_law_842 rfl h2 ?_
  refine lw_arg F G1.S hL h0 h4 (k := 1) (by omega) (by decide) dL_law_843 dL_law_844 dL_law_846 dL_law_847 dL_law_848 ?_
  refine lw_arg F G1.S hL h0 h4 (k := 2) (by omega) (by decide) dL_law_849 dL_law_850 dL_law_852 dL_law_853 dL_law_854 ?_
  refine lw_arg F G1.S hL h0 h4 (k := 3) (by omega) (by decide) dL_law_855 dL_law_856 dL_law_858 dL_law_859 dL_law_860 ?_
  refine lw_callM (As := [.int (xs (i + 1)), .int (xs (i + 2)), .int (xs (i + 3))]) (rest := [.int z1]) (z := z1) (M1 := M1) F G1 (c_X12_note (p0 := 0) (out := (z1, M1)) tr_Zok mo_hN rfl hm) (cwV (R := room_1) 3 F.ts gL_law_X12_note (rm := ({ frames := 1, cells := 0, slots := 0, locals := 22 } : Room)) (mc := 0) (ms := 0) rfl rfl rfl (by decide +kernel) ⟨Nat.le_of_ble_eq_true rfl, Nat.le_of_ble_eq_true rfl⟩) rfl hsz rfl (Nat.le_of_ble_eq_true rfl) dL_law_861 hr (fun H2 locs2 G2 => ?_)
  exact lv_icmp_eq (tgt := 1006) F.ex F.hb dL_law_864 (by decide) (fun _ => kk X1 M1 H2 locs2 hI1 G2) (fun h => absurd rfl h)
theorem lw_k23 (F : lwF p s m meth c b L xs D cs cO adx adm adK adV o sa) (G : lwM s D cs cO adx adm o X M f H locs) (hI : Inv X M) (hL : L ≤ 3072) (hi : i + 6 ≤ L) (hsz : ls.size = 8) (h0 : ls[0]? = some (.val (.ref b))) (h1 : ls[1]? = some (.val (.ref (adx 0)))) (h2 : ls[2]? = some (.val (.ref (adm 0)))) (h4 : ls[4]? = some (.val (.int (nI i)))) (hr : cells ≤ 601024 ∧ slots ≤ 7293034)
    (kk : ∀ (X1 M1 : ha_St) (H1 : Heap) (locs1 : List Loc), Inv X1 M1 → lwM s D cs cO adx adm o X1 M1 f H1 locs1 → W p l e room_1 s m #[Value.ref b] below meth c H1 locs1 cells slots Q (F0 m 1006 ls [])) : W p l e room_1 s m #[Value.ref b] below meth c H locs cells slots Q (F0 m 869 ls []) := by
  obtain ⟨⟨z1, X1⟩, ⟨z2, M1⟩, hx, hm, hz, hI1⟩ := e_delay hI (xs (i + 1)) (xs (i + 2)) (xs (i + 3))
  have hz : z1 = z2 := hz
  subst hz
  refine lv_aload_n F.ex F.hb dL_law_869 rfl h1 ?_
  refine lw_arg F G.S hL h0 h4 (k := 1) (by omega) (by decide) dL_law_870 dL_law_871 dL_law_873 dL_law_874 dL_law_875 ?_
  refine lw_arg F G.S hL h0 h4 (k := 2) (by omega) (by decide) dL_law_876 dL_law_877 dL_law_879 dL_law_880 dL_law_881 ?_
  refine lw_arg F G.S hL h0 h4 (k := 3) (by omega) (by decide) dL_law_882 dL_law_883 dL_law_885 dL_law_886 dL_law_887 ?_
  refine lw_callX (As := [.int (xs (i + 1)), .int (xs (i + 2)), .int (xs (i + 3))]) (rest := []) (z := z1) (X1 := X1) F G (c_X11_delay (p0 := 0) (out := (z1, X1)) xo_Zok xo_hN (fun U h => h) rfl hx) (cwV (R := room_1) 3 F.ts gL_law_X11_delay (rm := ({ frames := 4, cells := 0, slots := 0, locals := 93 } : Room)) (mc := 0) (ms := 0) rfl rfl rfl (by decide +kernel) ⟨Nat.le_of_ble_eq_true rfl, Nat.le_of_ble_eq_true rfl⟩) rfl hsz rfl (Nat.le_of_ble_eq_true rfl) dL_law_888 hr (fun H1 locs1 G1 => ?_)
  refine lv_aload_n F.ex F.hb dL_law_891 rfl h2 ?_
  refine lw_arg F G1.S hL h0 h4 (k := 1) (by omega) (by decide) dL_law_892 dL_law_893 dL_law_895 dL_law_896 dL_law_897 ?_
  refine lw_arg F G1.S hL h0 h4 (k := 2) (by omega) (by decide) dL_law_898 dL_law_899 dL_law_901 dL_law_902 dL_law_903 ?_
  refine lw_arg F G1.S hL h0 h4 (k := 3) (by omega) (by decide) dL_law_904 dL_law_905 dL_law_907 dL_law_908 dL_law_909 ?_
  refine lw_callM (As := [.int (xs (i + 1)), .int (xs (i + 2)), .int (xs (i + 3))]) (rest := [.int z1]) (z := z1) (M1 := M1) F G1 (c_X12_delay (p0 := 0) (out := (z1, M1)) tr_Zok mo_hN rfl hm) (cwV (R := room_1) 3 F.ts gL_law_X12_delay (rm := ({ frames := 2, cells := 0, slots := 0, locals := 47 } : Room)) (mc := 0) (ms := 0) rfl rfl rfl (by decide +kernel) ⟨Nat.le_of_ble_eq_true rfl, Nat.le_of_ble_eq_true rfl⟩) rfl hsz rfl (Nat.le_of_ble_eq_true rfl) dL_law_910 hr (fun H2 locs2 G2 => ?_)
  exact lv_icmp_eq (tgt := 1006) F.ex F.hb dL_law_913 (by decide) (fun _ => kk X1 M1 H2 locs2 hI1 G2) (fun h => absurd rfl h)
theorem lw_k24 (F : lwF p s m meth c b L xs D cs cO adx adm adK adV o sa) (G : lwM s D cs cO adx adm o X M f H locs) (hI : Inv X M) (hL : L ≤ 3072) (hi : i + 6 ≤ L) (hsz : ls.size = 8) (h0 : ls[0]? = some (.val (.ref b))) (h1 : ls[1]? = some (.val (.ref (adx 0)))) (h2 : ls[2]? = some (.val (.ref (adm 0)))) (h4 : ls[4]? = some (.val (.int (nI i)))) (hr : cells ≤ 601024 ∧ slots ≤ 7293034)
    (kk : ∀ (X1 M1 : ha_St) (H1 : Heap) (locs1 : List Loc), Inv X1 M1 → lwM s D cs cO adx adm o X1 M1 f H1 locs1 → W p l e room_1 s m #[Value.ref b] below meth c H1 locs1 cells slots Q (F0 m 1006 ls [])) : W p l e room_1 s m #[Value.ref b] below meth c H locs cells slots Q (F0 m 918 ls []) := by
  obtain ⟨⟨z1, X1⟩, ⟨z2, M1⟩, hx, hm, hz, hI1⟩ := e_look hI (xs (i + 1))
  have hz : z1 = z2 := hz
  subst hz
  refine lv_aload_n F.ex F.hb dL_law_918 rfl h1 ?_
  refine lw_arg F G.S hL h0 h4 (k := 1) (by omega) (by decide) dL_law_919 dL_law_920 dL_law_922 dL_law_923 dL_law_924 ?_
  refine lw_callX (As := [.int (xs (i + 1))]) (rest := []) (z := z1) (X1 := X1) F G (c_X11_look (p0 := 0) (out := (z1, X1)) xo_Zok xo_hN (fun U h => h) rfl hx) (cwV (R := room_1) 1 F.ts gL_law_X11_look (rm := ({ frames := 4, cells := 0, slots := 0, locals := 93 } : Room)) (mc := 0) (ms := 0) rfl rfl rfl (by decide +kernel) ⟨Nat.le_of_ble_eq_true rfl, Nat.le_of_ble_eq_true rfl⟩) rfl hsz rfl (Nat.le_of_ble_eq_true rfl) dL_law_925 hr (fun H1 locs1 G1 => ?_)
  refine lv_aload_n F.ex F.hb dL_law_928 rfl h2 ?_
  refine lw_arg F G1.S hL h0 h4 (k := 1) (by omega) (by decide) dL_law_929 dL_law_930 dL_law_932 dL_law_933 dL_law_934 ?_
  refine lw_callM (As := [.int (xs (i + 1))]) (rest := [.int z1]) (z := z1) (M1 := M1) F G1 (c_X12_look (p0 := 0) (out := (z1, M1)) tr_Zok mo_hN rfl hm) (cwV (R := room_1) 1 F.ts gL_law_X12_look (rm := ({ frames := 2, cells := 0, slots := 0, locals := 47 } : Room)) (mc := 0) (ms := 0) rfl rfl rfl (by decide +kernel) ⟨Nat.le_of_ble_eq_true rfl, Nat.le_of_ble_eq_true rfl⟩) rfl hsz rfl (Nat.le_of_ble_eq_true rfl) dL_law_935 hr (fun H2 locs2 G2 => ?_)
  exact lv_icmp_eq (tgt := 1006) F.ex F.hb dL_law_938 (by decide) (fun _ => kk X1 M1 H2 locs2 hI1 G2) (fun h => absurd rfl h)
theorem lw_k25 (F : lwF p s m meth c b L xs D cs cO adx adm adK adV o sa) (G : lwM s D cs cO adx adm o X M f H locs) (hI : Inv X M) (hL : L ≤ 3072) (hi : i + 6 ≤ L) (hsz : ls.size = 8) (h0 : ls[0]? = some (.val (.ref b))) (h1 : ls[1]? = some (.val (.ref (adx 0)))) (h2 : ls[2]? = some (.val (.ref (adm 0)))) (h4 : ls[4]? = some (.val (.int (nI i)))) (hr : cells ≤ 601024 ∧ slots ≤ 7293034)
    (kk : ∀ (X1 M1 : ha_St) (H1 : Heap) (locs1 : List Loc), Inv X1 M1 → lwM s D cs cO adx adm o X1 M1 f H1 locs1 → W p l e room_1 s m #[Value.ref b] below meth c H1 locs1 cells slots Q (F0 m 1006 ls [])) : W p l e room_1 s m #[Value.ref b] below meth c H locs cells slots Q (F0 m 943 ls []) := by
  obtain ⟨⟨z1, X1⟩, ⟨z2, M1⟩, hx, hm, hz, hI1⟩ := e_hills hI (xs (i + 1))
  have hz : z1 = z2 := hz
  subst hz
  refine lv_aload_n F.ex F.hb dL_law_943 rfl h1 ?_
  refine lw_arg F G.S hL h0 h4 (k := 1) (by omega) (by decide) dL_law_944 dL_law_945 dL_law_947 dL_law_948 dL_law_949 ?_
  refine lw_callX (As := [.int (xs (i + 1))]) (rest := []) (z := z1) (X1 := X1) F G (c_X11_hills (p0 := 0) (out := (z1, X1)) xo_Zok xo_hN (fun U h => h) rfl hx) (cwV (R := room_1) 1 F.ts gL_law_X11_hills (rm := ({ frames := 3, cells := 0, slots := 0, locals := 70 } : Room)) (mc := 0) (ms := 0) rfl rfl rfl (by decide +kernel) ⟨Nat.le_of_ble_eq_true rfl, Nat.le_of_ble_eq_true rfl⟩) rfl hsz rfl (Nat.le_of_ble_eq_true rfl) dL_law_950 hr (fun H1 locs1 G1 => ?_)
  refine lv_aload_n F.ex F.hb dL_law_953 rfl h2 ?_
  refine lw_arg F G1.S hL h0 h4 (k := 1) (by omega) (by decide) dL_law_954 dL_law_955 dL_law_957 dL_law_958 dL_law_959 ?_
  refine lw_callM (As := [.int (xs (i + 1))]) (rest := [.int z1]) (z := z1) (M1 := M1) F G1 (c_X12_hills (p0 := 0) (out := (z1, M1)) tr_Zok mo_hN rfl hm) (cwV (R := room_1) 1 F.ts gL_law_X12_hills (rm := ({ frames := 1, cells := 0, slots := 0, locals := 25 } : Room)) (mc := 0) (ms := 0) rfl rfl rfl (by decide +kernel) ⟨Nat.le_of_ble_eq_true rfl, Nat.le_of_ble_eq_true rfl⟩) rfl hsz rfl (Nat.le_of_ble_eq_true rfl) dL_law_960 hr (fun H2 locs2 G2 => ?_)
  exact lv_icmp_eq (tgt := 1006) F.ex F.hb dL_law_963 (by decide) (fun _ => kk X1 M1 H2 locs2 hI1 G2) (fun h => absurd rfl h)
theorem lw_k26 (F : lwF p s m meth c b L xs D cs cO adx adm adK adV o sa) (G : lwM s D cs cO adx adm o X M f H locs) (hI : Inv X M) (hL : L ≤ 3072) (hi : i + 6 ≤ L) (hsz : ls.size = 8) (h0 : ls[0]? = some (.val (.ref b))) (h1 : ls[1]? = some (.val (.ref (adx 0)))) (h2 : ls[2]? = some (.val (.ref (adm 0)))) (h4 : ls[4]? = some (.val (.int (nI i)))) (hr : cells ≤ 601024 ∧ slots ≤ 7293034)
    (kk : ∀ (X1 M1 : ha_St) (H1 : Heap) (locs1 : List Loc), Inv X1 M1 → lwM s D cs cO adx adm o X1 M1 f H1 locs1 → W p l e room_1 s m #[Value.ref b] below meth c H1 locs1 cells slots Q (F0 m 1006 ls [])) : W p l e room_1 s m #[Value.ref b] below meth c H locs cells slots Q (F0 m 968 ls []) := by
  obtain ⟨⟨z1, X1⟩, ⟨z2, M1⟩, hx, hm, hz, hI1⟩ := e_hillSet hI 
  have hz : z1 = z2 := hz
  subst hz
  refine lv_aload_n F.ex F.hb dL_law_968 rfl h1 ?_
  refine lw_callX (As := []) (rest := []) (z := z1) (X1 := X1) F G (c_X11_hillSet (p0 := 0) (out := (z1, X1)) xo_Zok xo_hN (fun U h => h) rfl hx) (cwV (R := room_1) 0 F.ts gL_law_X11_hillSet (rm := ({ frames := 0, cells := 0, slots := 0, locals := 0 } : Room)) (mc := 0) (ms := 0) rfl rfl rfl (by decide +kernel) ⟨Nat.le_of_ble_eq_true rfl, Nat.le_of_ble_eq_true rfl⟩) rfl hsz rfl (Nat.le_of_ble_eq_true rfl) dL_law_969 hr (fun H1 locs1 G1 => ?_)
  refine lv_aload_n F.ex F.hb dL_law_972 rfl h2 ?_
  refine lw_callM (As := []) (rest := [.int z1]) (z := z1) (M1 := M1) F G1 (c_X12_hillSet (p0 := 0) (out := (z1, M1)) tr_Zok mo_hN rfl hm) (cwV (R := room_1) 0 F.ts gL_law_X12_hillSet (rm := ({ frames := 0, cells := 0, slots := 0, locals := 0 } : Room)) (mc := 0) (ms := 0) rfl rfl rfl (by decide +kernel) ⟨Nat.le_of_ble_eq_true rfl, Nat.le_of_ble_eq_true rfl⟩) rfl hsz rfl (Nat.le_of_ble_eq_true rfl) dL_law_973 hr (fun H2 locs2 G2 => ?_)
  exact lv_icmp_eq (tgt := 1006) F.ex F.hb dL_law_976 (by decide) (fun _ => kk X1 M1 H2 locs2 hI1 G2) (fun h => absurd rfl h)
theorem lw_k27 (F : lwF p s m meth c b L xs D cs cO adx adm adK adV o sa) (G : lwM s D cs cO adx adm o X M f H locs) (hI : Inv X M) (hL : L ≤ 3072) (hi : i + 6 ≤ L) (hsz : ls.size = 8) (h0 : ls[0]? = some (.val (.ref b))) (h1 : ls[1]? = some (.val (.ref (adx 0)))) (h2 : ls[2]? = some (.val (.ref (adm 0)))) (h4 : ls[4]? = some (.val (.int (nI i)))) (hr : cells ≤ 601024 ∧ slots ≤ 7293034)
    (kk : ∀ (X1 M1 : ha_St) (H1 : Heap) (locs1 : List Loc), Inv X1 M1 → lwM s D cs cO adx adm o X1 M1 f H1 locs1 → W p l e room_1 s m #[Value.ref b] below meth c H1 locs1 cells slots Q (F0 m 1006 ls [])) : W p l e room_1 s m #[Value.ref b] below meth c H locs cells slots Q (F0 m 981 ls []) := by
  obtain ⟨⟨z1, X1⟩, ⟨z2, M1⟩, hx, hm, hz, hI1⟩ := e_count hI (xs (i + 1))
  have hz : z1 = z2 := hz
  subst hz
  refine lv_aload_n F.ex F.hb dL_law_981 rfl h1 ?_
  refine lw_arg F G.S hL h0 h4 (k := 1) (by omega) (by decide) dL_law_982 dL_law_983 dL_law_985 dL_law_986 dL_law_987 ?_
  refine lw_callX (As := [.int (xs (i + 1))]) (rest := []) (z := z1) (X1 := X1) F G (c_X11_count (p0 := 0) (out := (z1, X1)) xo_Zok xo_hN (fun U h => h) rfl hx) (cwV (R := room_1) 1 F.ts gL_law_X11_count (rm := ({ frames := 0, cells := 0, slots := 0, locals := 0 } : Room)) (mc := 0) (ms := 0) rfl rfl rfl (by decide +kernel) ⟨Nat.le_of_ble_eq_true rfl, Nat.le_of_ble_eq_true rfl⟩) rfl hsz rfl (Nat.le_of_ble_eq_true rfl) dL_law_988 hr (fun H1 locs1 G1 => ?_)
  refine lv_aload_n F.ex F.hb dL_law_991 rfl h2 ?_
  refine lw_arg F G1.S hL h0 h4 (k := 1) (by omega) (by decide) dL_law_992 dL_law_993 dL_law_995 dL_law_996 dL_law_997 ?_
  refine lw_callM (As := [.int (xs (i + 1))]) (rest := [.int z1]) (z := z1) (M1 := M1) F G1 (c_X12_count (p0 := 0) (out := (z1, M1)) tr_Zok mo_hN rfl hm) (cwV (R := room_1) 1 F.ts gL_law_X12_count (rm := ({ frames := 0, cells := 0, slots := 0, locals := 0 } : Room)) (mc := 0) (ms := 0) rfl rfl rfl (by decide +kernel) ⟨Nat.le_of_ble_eq_true rfl, Nat.le_of_ble_eq_true rfl⟩) rfl hsz rfl (Nat.le_of_ble_eq_true rfl) dL_law_998 hr (fun H2 locs2 G2 => ?_)
  exact lv_icmp_eq (tgt := 1006) F.ex F.hb dL_law_1001 (by decide) (fun _ => kk X1 M1 H2 locs2 hI1 G2) (fun h => absurd rfl h)
end LWK3
