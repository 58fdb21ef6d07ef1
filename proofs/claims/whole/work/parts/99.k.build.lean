/-! THE LAW FROM ITS ENTRY: the two constructors, the array out, the loop -/
theorem lw_in1 : ∀ w ∈ wsL_law0_r1, w ∈ wsL_law := fun w h => (List.mem_append_left _ (List.mem_append_left _ (List.mem_append_left _ (List.mem_append_left _ (List.mem_append_left _ (List.mem_append_left _ (List.mem_append_left _ (List.mem_append_left _ (List.mem_append_left _ (List.mem_append_left _ (List.mem_append_left _ (List.mem_append_left _ (List.mem_append_left _ (List.mem_append_left _ (List.mem_append_left _ (List.mem_append_left _ h))))))))))))))))
theorem lw_in7 : ∀ w ∈ wsL_law0_r7, w ∈ wsL_law := fun w h => (List.mem_append_left _ (List.mem_append_left _ (List.mem_append_left _ (List.mem_append_left _ (List.mem_append_left _ (List.mem_append_left _ (List.mem_append_left _ (List.mem_append_left _ (List.mem_append_left _ (List.mem_append_left _ (List.mem_append_left _ (List.mem_append_left _ (List.mem_append_left _ (List.mem_append_left _ (List.mem_append_left _ (List.mem_append_right _ (List.mem_append_right _ (List.mem_append_right _ (List.mem_append_right _ (List.mem_append_right _ (List.mem_append_right _ (List.mem_append_left _ h))))))))))))))))))))))
theorem lw_uX11 : ∀ w ∈ u_ws RX11 TX11 17, w ∈ wsL_law := fun w h => (List.mem_append_left _ (List.mem_append_left _ (List.mem_append_left _ (List.mem_append_left _ (List.mem_append_left _ (List.mem_append_left _ (List.mem_append_left _ (List.mem_append_left _ (List.mem_append_left _ (List.mem_append_left _ (List.mem_append_left _ (List.mem_append_left _ (List.mem_append_left _ (List.mem_append_left _ (List.mem_append_right _ h)))))))))))))))
theorem lw_uX12 : ∀ w ∈ u_ws RX12 TX12 83, w ∈ wsL_law := fun w h => (List.mem_append_left _ (List.mem_append_left _ (List.mem_append_left _ (List.mem_append_left _ (List.mem_append_left _ (List.mem_append_left _ (List.mem_append_left _ (List.mem_append_left _ (List.mem_append_left _ (List.mem_append_left _ (List.mem_append_left _ (List.mem_append_left _ (List.mem_append_left _ (List.mem_append_right _ h))))))))))))))
theorem lw_uX10 : ∀ w ∈ u_ws RX10 TX10 2, w ∈ wsL_law := fun w h => (List.mem_append_left _ (List.mem_append_left _ (List.mem_append_left _ (List.mem_append_left _ (List.mem_append_left _ (List.mem_append_left _ (List.mem_append_left _ (List.mem_append_left _ (List.mem_append_left _ (List.mem_append_left _ (List.mem_append_left _ (List.mem_append_left _ (List.mem_append_right _ h)))))))))))))
theorem lw_uX1 : ∀ w ∈ u_ws RX1 TX1 8, w ∈ wsL_law := fun w h => (List.mem_append_left _ (List.mem_append_left _ (List.mem_append_left _ (List.mem_append_left _ (List.mem_append_left _ (List.mem_append_left _ (List.mem_append_left _ (List.mem_append_left _ (List.mem_append_left _ (List.mem_append_left _ (List.mem_append_left _ (List.mem_append_right _ h))))))))))))
theorem lw_uX9 : ∀ w ∈ u_ws RX9 TX9 8, w ∈ wsL_law := fun w h => (List.mem_append_left _ (List.mem_append_left _ (List.mem_append_left _ (List.mem_append_left _ (List.mem_append_left _ (List.mem_append_left _ (List.mem_append_left _ (List.mem_append_left _ (List.mem_append_left _ (List.mem_append_left _ (List.mem_append_right _ h)))))))))))
theorem lw_uX7 : ∀ w ∈ u_ws RX7 TX7 5, w ∈ wsL_law := fun w h => (List.mem_append_left _ (List.mem_append_left _ (List.mem_append_left _ (List.mem_append_left _ (List.mem_append_left _ (List.mem_append_left _ (List.mem_append_left _ (List.mem_append_left _ (List.mem_append_left _ (List.mem_append_right _ h))))))))))
theorem lw_uX0 : ∀ w ∈ u_ws RX0 TX0 11, w ∈ wsL_law := fun w h => (List.mem_append_left _ (List.mem_append_left _ (List.mem_append_left _ (List.mem_append_left _ (List.mem_append_left _ (List.mem_append_left _ (List.mem_append_left _ (List.mem_append_left _ (List.mem_append_right _ h)))))))))
theorem lw_uX3 : ∀ w ∈ u_ws RX3 TX3 4, w ∈ wsL_law := fun w h => (List.mem_append_left _ (List.mem_append_left _ (List.mem_append_left _ (List.mem_append_left _ (List.mem_append_left _ (List.mem_append_left _ (List.mem_append_left _ (List.mem_append_right _ h))))))))
theorem lw_uX6 : ∀ w ∈ u_ws RX6 TX6 8, w ∈ wsL_law := fun w h => (List.mem_append_left _ (List.mem_append_left _ (List.mem_append_left _ (List.mem_append_left _ (List.mem_append_left _ (List.mem_append_left _ (List.mem_append_right _ h)))))))
theorem lw_uX2 : ∀ w ∈ u_ws RX2 TX2 9, w ∈ wsL_law := fun w h => (List.mem_append_left _ (List.mem_append_left _ (List.mem_append_left _ (List.mem_append_left _ (List.mem_append_left _ (List.mem_append_right _ h))))))
theorem lw_uX4 : ∀ w ∈ u_ws RX4 TX4 3, w ∈ wsL_law := fun w h => (List.mem_append_left _ (List.mem_append_left _ (List.mem_append_left _ (List.mem_append_left _ (List.mem_append_right _ h)))))
theorem lw_uX8 : ∀ w ∈ u_ws RX8 TX8 12, w ∈ wsL_law := fun w h => (List.mem_append_left _ (List.mem_append_left _ (List.mem_append_left _ (List.mem_append_right _ h))))
theorem lw_uX5 : ∀ w ∈ u_ws RX5 TX5 8, w ∈ wsL_law := fun w h => (List.mem_append_left _ (List.mem_append_left _ (List.mem_append_right _ h)))
theorem lw_nil {D : va_G} {cs : Nat → ClassId} {ad kd ln : Nat → Nat} {H : Heap} : gw_G D cs ad kd ln [] bl0 H.size H H [] :=
  ⟨fun k q h => (by simp [ha_wl] at h), ⟨fun i j p q h => (by simp [ha_wl] at h), fun k q h => (by simp [ha_wl] at h)⟩, va_S.rf, (fun x hx => nomatch hx), fun x _ => ⟨fun _ => rfl, fun _ => rfl, fun _ => rfl, rfl, rfl⟩, Nat.le_refl _⟩
theorem gw_low {D : va_G} {cs : Nat → ClassId} {ad kd ln : Nat → Nat} {N : List Nat} {S : ha_St} {z0 : Nat} {H0 H : Heap} {locs : List Loc} (G : gw_G D cs ad kd ln N S z0 H0 H locs) {n : Nat} (hn : n ∈ N) : z0 ≤ ad n ∧ ad n < H.size := by
  obtain ⟨k, hk⟩ := ha_wl_get (cs := cs) (ad := ad) (kd := kd) (ln := ln) (S := S) hn
  exact ⟨G.2.1.2 k _ hk, (G.1 k _ hk).lt⟩
theorem gw_DA {D : va_G} {cs : Nat → ClassId} {ad kd ln : Nat → Nat} {N : List Nat} {S : ha_St} {z0 : Nat} {H0 H : Heap} {locs : List Loc} (G : gw_G D cs ad kd ln N S z0 H0 H locs) : va_D (ha_A ad N) (ha_wl cs ad kd ln N S) := by
  refine ⟨G.2.1.1, fun k q hk => ?_⟩
  unfold ha_wl at hk
  rw [List.getElem?_map] at hk
  obtain ⟨n, hn, e⟩ := Option.map_eq_some_iff.mp hk
  exact ⟨n, List.mem_of_getElem? hn, by rw [← e]⟩
section LWB
variable {p : Program} {l : Launch} {e : Env} {R : Room} {s : State} {m : MethodId} {args : Array Value} {below : List Frame} {meth : Method} {c : Code} {H H0 : Heap} {locs : List Loc} {cells slots : Nat} {Q : State → Prop}
variable {cc : ByteArray} {pc : Nat} {ls : Array Slot} {rest st : List Value} {D : va_G} {z0 : Nat}
variable {cs : Nat → ClassId} {ad kd ln : Nat → Nat} {N L : List Nat} {S S1 : ha_St} {own : String} {index : Nat}
variable {y : MethodName} {bytes : ByteArray} {maxL nL nn mc ms : Nat} {ws : List Cond} {rm : Room} {Ts : List Cond} {As : List Value} {b : Nat}
theorem lw_init (F : CallFix p m c cc nL s args Ts own) (hK : va_K D vwCl (ha_tys cs) s) (hN0 : ct_N s) (G : gw_G D cs ad kd ln N S z0 H0 H locs) (hM : ct_Met l D cs ad kd ln N z0 y ws rm (.ref b :: As) S L S1 mc ms) (cw : CallB R s args own index y bytes maxL none ws rm mc ms nn ∧ y.name = "<init>" ∧ (Cond.instanceMethod y).before args s = true) (hlen : As.length = nn) (hsz : ls.size = nL) (hst : st = As.reverse ++ .ref b :: rest) (hw : (rest.map fun v => v.category).sum ≤ 8) (hdg : decode cc pc = .ok (.invokespecial index, 3)) (hr : cells + mc ≤ R.cells ∧ slots + ms ≤ R.slots)
    (kk : ∀ (ad1 : Nat → Nat) (H1 : Heap) (locs1 : List Loc), (∀ y, y ∈ N → ad1 y = ad y) → gw_G D cs ad1 kd ln (N ++ L) S1 z0 H0 H1 locs1 → W p l e R s m args below meth c H1 locs1 (cells + mc) (slots + ms) Q (F0 m (pc + 3) ls rest)) : W p l e R s m args below meth c H locs cells slots Q (F0 m pc ls st) := by
  subst hst
  refine va_callv (va_runI (As := As) (rest := rest) F hM cw ⟨ct_blind, fun U hU hW => ⟨rfl, by rw [hU]; exact G.1, G.2.1, va_K.moved hW.alike hK, by rw [hU]; exact Nat.le_trans G.2.2.2.2.2 G.2.2.1.1, hN0.warm hW, G.2.2.2.1, G.2.2.2.2.1⟩⟩ rfl hlen hsz rfl (lv_room hw) hdg hr) G.2.2.1 (fun q _ h => h) (fun q h => h) (fun u t H1 locs1 ht hvm hq hB hz1 hk1 hS1 => ?_)
  rw [ht] at hB
  exact kk u H1 locs1 hq.1 ⟨hB.1, hB.2, hS1, hq.2.1, hq.2.2, G.2.2.2.2.2⟩
end LWB
section LWS
variable {p : Program} {l : Launch} {e : Env} {s : State} {m : MethodId} {below : List Frame} {meth : Method} {c : Code} {Q : State → Prop}
variable {b L : Nat} {xs : Nat → Int32} {D : va_G} {cs : Nat → ClassId} {adK adV : Nat → Nat} {sa : Nat}
set_option maxHeartbeats 2000000 in
theorem lw_run (hst : l.stackTraces = false) (ex : p.tables.exec = Jvm.exec) (hb : c.code = cL_law) (ml : c.maxLocals = 8) (own : s.vm.findClass RL = some m.cls) (ts : ∀ w ∈ wsL_law, w.before #[Value.ref b] s = true) (hX : va_X b L xs s s.heap) (bl : b < s.heap.size) (K : va_K D vwCl (ha_tys cs) s) (hN0 : ct_N s) (Z : xo_Z adK adV (fun q => s.heap.size ≤ q) s) (Y : rz (fun q => s.heap.size ≤ q) sa s) (hL : L ≤ 3072)
    (fin : ∀ (ls1 : Array Slot) (H1 : Heap) (locs1 : List Loc) (c1 s1 : Nat), va_S (fun q => s.heap.size ≤ q) s.heap H1 locs1 → c1 ≤ 601024 → s1 ≤ 7293034 → W p l e room_1 s m #[Value.ref b] below meth c H1 locs1 c1 s1 Q (F0 m 1012 ls1 [])) : W p l e room_1 s m #[Value.ref b] below meth c s.heap [] 0 0 Q (entryFrame m ([Value.ref b] : List Value).toArray 8) := by
  have F : CallFix p m c cL_law 8 s #[Value.ref b] wsL_law RL := ⟨ex, hb, ml, own, ts⟩
  have t1 : ∀ w ∈ wsL_law0_r1, w.before #[Value.ref b] s = true := fun w h => ts w (lw_in1 w h)
  have t7 : ∀ w ∈ wsL_law0_r7, w.before #[Value.ref b] s = true := fun w h => ts w (lw_in7 w h)
  have hl := lv_entry ([Value.ref b]) (n := 8) (Nat.le_of_ble_eq_true rfl)
  rw [lg_entry_eq]
  generalize (lg_sl ([Value.ref b]) ++ List.replicate (8 - (lg_sl ([Value.ref b])).length) Slot.unset).toArray = ls at hl ⊢
  have hl : lv_has ls 8 [(0, .ref b)] := hl
  have G0 : gw_G D cs (fun _ => 0) xo_kd xo_ln [] bl0 s.heap.size s.heap s.heap [] := lw_nil
  refine gw_new (ci := 11) (Ts := wsL_law) ex hb ts lw_uX11 tyX11 tyX11_ok own (t1 (.classLink RL 8 RX11) (List.mem_of_getElem? (i := 0) rfl)) (t1 (.instantiable RX11 17) (List.mem_of_getElem? (i := 1) rfl)) (t1 (.initialized RX11) (List.mem_of_getElem? (i := 2) rfl)) K G0 (n := 0) (fun h => nomatch h) rfl (by decide) rfl rfl df_X11 (Nat.le_of_ble_eq_true rfl) (Nat.le_of_ble_eq_true rfl) dL_law_0 (fun ad1 H1 _ G1 => ?_)
  have G1 : gw_G D cs ad1 xo_kd xo_ln [0] bl0 s.heap.size s.heap H1 [] := G1
  refine lv_dup ex hb dL_law_3 rfl ?_
  refine lw_init (As := []) (rest := [.ref (ad1 0)]) (b := ad1 0) (L := xo_L) F K hN0 G1 ct_X11 (cwI (R := room_1) 0 ts gL_law_X11_init (rm := ({ frames := 3, cells := 474, slots := 17431, locals := 55 } : Room)) (mc := 474) (ms := 17431) rfl rfl rfl (t1 (.initialized RX11) (List.mem_of_getElem? (i := 2) rfl)) (t1 (.methodLink RL 15 yX11_init) (by decide +kernel)) (t1 (.instanceMethod yX11_init) (by decide +kernel)) rfl (by decide +kernel) ⟨Nat.le_of_ble_eq_true rfl, Nat.le_of_ble_eq_true rfl⟩) rfl hl.1 rfl (Nat.le_of_ble_eq_true rfl) dL_law_4 ⟨Nat.le_of_ble_eq_true rfl, Nat.le_of_ble_eq_true rfl⟩ (fun adx H2 locs2 a2 G2 => ?_)
  have G2 : gw_G D cs adx xo_kd xo_ln xo_N X00 s.heap.size s.heap H2 locs2 := G2
  rw [← a2 0 List.mem_cons_self]
  refine lv_astore_n (lv' := [(1, .ref (adx 0)), (0, .ref b)]) ex hb dL_law_7 rfl hl (by decide) rfl (fun ls hl => ?_)
  refine va_forget G2.2.2.1.2.2 ?_
  have G3 : gw_G D cs (fun _ => 0) mo_kd mo_ln [] bl0 H2.size H2 H2 [] := lw_nil
  refine gw_new (ci := 12) (Ts := wsL_law) ex hb ts lw_uX12 tyX12 tyX12_ok own (t1 (.classLink RL 16 RX12) (List.mem_of_getElem? (i := 3) rfl)) (t1 (.instantiable RX12 83) (List.mem_of_getElem? (i := 4) rfl)) (t1 (.initialized RX12) (List.mem_of_getElem? (i := 5) rfl)) K G3 (n := 0) (fun h => nomatch h) rfl (by decide) rfl rfl df_X12 (Nat.le_of_ble_eq_true rfl) (Nat.le_of_ble_eq_true rfl) dL_law_8 (fun ad4 H4 _ G4 => ?_)
  have G4 : gw_G D cs ad4 mo_kd mo_ln [0] bl0 H2.size H2 H4 [] := G4
  refine lv_dup ex hb dL_law_11 rfl ?_
  refine lw_init (As := []) (rest := [.ref (ad4 0)]) (b := ad4 0) (L := [2, 15, 16, 17, 18, 19, 20, 21, 22, 23, 27, 28, 29, 30, 33, 34, 35, 36, 37, 48, 50, 51, 52, 53, 61, 62, 64, 65, 66, 67, 70, 71, 72, 76, 77, 78, 79, 80, 82]) F K hN0 G4 (ct_X12 List.mem_cons_self (by decide +kernel)) (cwI (R := room_1) 0 ts gL_law_X12_init (rm := ({ frames := 1, cells := 39, slots := 11746, locals := 12 } : Room)) (mc := 39) (ms := 11746) rfl rfl rfl (t1 (.initialized RX12) (List.mem_of_getElem? (i := 5) rfl)) (t7 (.methodLink RL 18 yX12_init) (by decide +kernel)) (t7 (.instanceMethod yX12_init) (by decide +kernel)) rfl (by decide +kernel) ⟨Nat.le_of_ble_eq_true rfl, Nat.le_of_ble_eq_true rfl⟩) rfl hl.1 rfl (Nat.le_of_ble_eq_true rfl) dL_law_12 ⟨Nat.le_of_ble_eq_true rfl, Nat.le_of_ble_eq_true rfl⟩ (fun adm H5 locs5 a5 G5 => ?_)
  have G5 : gw_G D cs adm mo_kd mo_ln mo_N M00 H2.size H2 H5 locs5 := G5
  rw [← a5 0 List.mem_cons_self]
  refine lv_astore_n (lv' := [(2, .ref (adm 0)), (1, .ref (adx 0)), (0, .ref b)]) ex hb dL_law_15 rfl hl (by decide) rfl (fun ls hl => ?_)
  have z1 : s.heap.size ≤ H2.size := G2.2.2.1.1
  have z2 : H2.size ≤ H5.size := G5.2.2.1.1
  refine va_forget (fun q hq => Nat.le_trans z1 (G5.2.2.1.2.2 q hq)) ?_
  refine lv_iconst (v := 1) ex hb dL_law_16 (by decide) ?_
  refine va_newa (atype := .long) (ty := .long) (ws := []) (A := fun q => H5.size ≤ q) (H0 := H5) (n := 1) (N' := 1) (a0 := (1, .inr (.inl (fun _ => 0)))) ex hb (t1 (.arrayClass .long) (List.mem_of_getElem? (i := 6) rfl)) rfl K (fun k q h => (by simp at h)) ⟨fun i j p q h => (by simp at h), fun k q h => (by simp at h)⟩ va_S.rf (fun q h => h) (fun cA => vp_cell_l cA 1 _) (by decide) (by decide) (by decide) (Nat.le_of_ble_eq_true rfl) (Nat.le_of_ble_eq_true rfl) dL_law_17 (fun o cO H6 hK6 hP6 hD6 hS6 => ?_)
  have z3 : H5.size ≤ o := hD6.2 0 _ rfl
  refine lv_astore_n (lv' := [(3, .ref o), (2, .ref (adm 0)), (1, .ref (adx 0)), (0, .ref b)]) ex hb dL_law_19 rfl hl (by decide) rfl (fun ls hl => ?_)
  refine lv_iconst (v := nI 0) ex hb dL_law_20 (by decide) ?_
  refine lv_istore (lv' := [(4, .int (nI 0)), (3, .ref o), (2, .ref (adm 0)), (1, .ref (adx 0)), (0, .ref b)]) ex hb dL_law_21 hl (by decide) rfl (fun ls hl => ?_)
  have k2 : ∀ q : Nat, q < H2.size → H6[q]? = H2[q]? := fun q hq => by
    rw [hS6.2.1 q (by omega) (by omega)]
    exact G5.2.2.1.2.1 q hq (Nat.not_le.mpr hq)
  have k5 : ∀ q : Nat, q < H5.size → H6[q]? = H5[q]? := fun q hq => hS6.2.1 q hq (Nat.not_le.mpr hq)
  have FF : lwF p s m meth c b L xs D cs cO adx adm adK adV o sa :=
    ⟨ex, hb, ml, own, ts, hX, bl, K, hK6.sub [5] rfl, Z, Y, fun n hn => (gw_low G2 hn).1, fun n hn => Nat.le_trans z1 (gw_low G5 hn).1, by omega, fun n k hn hk h => (by have h1 := (gw_low G2 hn).2; have h2 := (gw_low G5 hk).1; omega), fun n hn h => (by have h1 := (gw_low G2 hn).2; omega), fun n hn h => (by have h1 := (gw_low G5 hn).2; omega)⟩
  have GG : lwM s D cs cO adx adm o X00 M00 (fun _ => 0) H6 [] :=
    ⟨G2.1.kept (fun k q hk => k2 q.1 (G2.1 k q hk).lt), gw_DA G2, G5.1.kept (fun k q hk => k5 q.1 (G5.1 k q hk).lt), gw_DA G5, hP6, Nat.le_trans z1 (Nat.le_trans z2 hS6.1), fun q h1 h2 => by rw [k2 q (by omega)]; exact G2.2.2.1.2.1 q h1 h2, fun q hq => nomatch hq⟩
  exact lw_loop hst FF hL fin L 0 _ _ ls X00 M00 (fun _ => 0) H6 [] (by omega) (by omega) hl inv_00 GG (by omega) (by omega)
end LWS
