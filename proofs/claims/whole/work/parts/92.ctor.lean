/-! CONSTRUCTORS' CONTRACTS, and calls of them -/
def ct_N (U : State) : Prop := va_Nw (.methodLinkNest RX1 30 yX8_init "HillArms") U ∧ va_Nw (.methodLinkNest RX9 17 yX8_init "HillArms") U ∧ va_Nw (.methodLinkNest RX11 9 yX10_init "HillArms") U ∧ va_Nw (.methodLinkNest RX11 32 yX7_init "HillArms") U ∧ va_Nw (.methodLinkNest RX11 46 yX3_init "HillArms") U ∧ va_Nw (.methodLinkNest RX11 69 yX2_init "HillArms") U ∧ va_Nw (.methodLinkNest RX11 76 yX4_init "HillArms") U ∧ va_Nw (.methodLinkNest RX11 83 yX8_init "HillArms") U ∧ va_AO "HillArms$Line" U ∧ va_AO "HillArms$Program" U ∧ va_AOA .int U
theorem ct_N.warm {s U : State} (hW : s.WarmedH U.vm) (h : ct_N s) : ct_N U := by
  obtain ⟨h1, h2, h3, h4, h5, h6, h7, h8, h9, h10, h11⟩ := h
  exact ⟨va_Nw.warmM hW h1, va_Nw.warmM hW h2, va_Nw.warmM hW h3, va_Nw.warmM hW h4, va_Nw.warmM hW h5, va_Nw.warmM hW h6, va_Nw.warmM hW h7, va_Nw.warmM hW h8, va_AO.moved hW.alike h9, va_AO.moved hW.alike h10, va_AOA.moved hW.alike h11⟩
theorem ct_N.calling {U : State} (h : ct_N U) (g : JFrame) (mk : MethodId) (a : Array Value) : ct_N (U.calling g mk a) := by
  obtain ⟨h1, h2, h3, h4, h5, h6, h7, h8, h9, h10, h11⟩ := h
  exact ⟨va_Nw.same rfl rfl h1, va_Nw.same rfl rfl h2, va_Nw.same rfl rfl h3, va_Nw.same rfl rfl h4, va_Nw.same rfl rfl h5, va_Nw.same rfl rfl h6, va_Nw.same rfl rfl h7, va_Nw.same rfl rfl h8, va_AO.moved (Vm.Alike.refl U.vm) h9, va_AO.moved (Vm.Alike.refl U.vm) h10, va_AOA.moved (Vm.Alike.refl U.vm) h11⟩
def ct_G (D : va_G) (cs : Nat → ClassId) (ad kd ln : Nat → Nat) (N : List Nat) (S : ha_St) (z0 : Nat) (U : State) : Prop := va_P D vwCl (ha_wl cs ad kd ln N S) U.heap ∧ va_D (fun q => z0 ≤ q) (ha_wl cs ad kd ln N S) ∧ va_K D vwCl (ha_tys cs) U ∧ z0 ≤ U.heap.size ∧ ct_N U ∧ gw_C N S ∧ gw_B N S
abbrev ct_Met (l : Launch) (D : va_G) (cs : Nat → ClassId) (ad kd ln : Nat → Nat) (N : List Nat) (z0 : Nat) (y : MethodName) (ws : List Cond) (rm : Room) (av : List Value) (S : ha_St) (L : List Nat) (S1 : ha_St) (mc ms : Nat) : Prop := Met l y ws rm (va_Pc av (ct_G D cs ad kd ln N S z0)) (va_Qv (fun (ad1 : Nat → Nat) => (∀ y, y ∈ N → ad1 y = ad y) ∧ gw_C (N ++ L) S1 ∧ gw_B (N ++ L) S1) (fun ad1 t => va_P D vwCl (ha_wl cs ad1 kd ln (N ++ L) S1) t.heap ∧ va_D (fun q => z0 ≤ q) (ha_wl cs ad1 kd ln (N ++ L) S1)) (fun q => z0 ≤ q)) mc ms (fun q => z0 ≤ q)
theorem gw_nin {x : Nat} {N L : List Nat} (h1 : x ∉ N) (h2 : x ∉ L) : x ∉ N ++ L := fun h => (List.mem_append.mp h).elim h1 h2
section CTC
variable {p : Program} {l : Launch} {e : Env} {R : Room} {s : State} {m : MethodId} {args : Array Value} {below : List Frame} {meth : Method} {c : Code} {H : Heap} {locs : List Loc} {cells slots : Nat} {Q : State → Prop}
variable {cc : ByteArray} {pc : Nat} {ls : Array Slot} {rest st : List Value} {D : va_G} {z0 : Nat}
variable {cs : Nat → ClassId} {ad kd ln : Nat → Nat} {N L : List Nat} {S S1 : ha_St} {own : String} {index ci k n : Nat}
variable {y : MethodName} {bytes : ByteArray} {maxL nL nn mc ms : Nat} {ws : List Cond} {rm : Room} {Ts : List Cond} {As : List Value} {b : Nat}
theorem ct_blind {av : List Value} : FrameBlind (va_Pc av (ct_G D cs ad kd ln N S z0)) := fun a U g mk h => ⟨h.1, h.2.1, h.2.2.1, va_K.moved (u := U) (U := U.calling g mk a) (Vm.Alike.refl U.vm) h.2.2.2.1, h.2.2.2.2.1, h.2.2.2.2.2.1.calling g mk a, h.2.2.2.2.2.2⟩
theorem ct_pre {av : List Value} (hK : va_K D vwCl (ha_tys cs) s) (hN0 : ct_N s) (G : gw_G D cs ad kd ln N S z0 s.heap H locs) (U : State) (hU : U.heap = H) (hW : s.WarmedH U.vm) : va_Pc av (ct_G D cs ad kd ln N S z0) av.toArray U :=
  ⟨rfl, by rw [hU]; exact G.1, G.2.1, va_K.moved hW.alike hK, by rw [hU]; exact Nat.le_trans G.2.2.2.2.2 G.2.2.1.1, hN0.warm hW, G.2.2.2.1, G.2.2.2.2.1⟩
theorem gw_call (F : CallFix p m c cc nL s args Ts own) (hK : va_K D vwCl (ha_tys cs) s) (hN0 : ct_N s) (G : gw_G D cs ad kd ln N S z0 s.heap H locs) (hM : ct_Met l D cs ad kd ln N z0 y ws rm (.ref b :: As) S L S1 mc ms) (cw : CallB R s args own index y bytes maxL none ws rm mc ms nn ∧ y.name = "<init>" ∧ (Cond.instanceMethod y).before args s = true) (hlen : As.length = nn) (hsz : ls.size = nL) (hst : st = As.reverse ++ .ref b :: rest) (hw : (rest.map fun v => v.category).sum ≤ 8) (hdg : decode cc pc = .ok (.invokespecial index, 3)) (hr : cells + mc ≤ R.cells ∧ slots + ms ≤ R.slots)
    (kk : ∀ (ad1 : Nat → Nat) (H1 : Heap) (locs1 : List Loc), (∀ y, y ∈ N → ad1 y = ad y) → gw_G D cs ad1 kd ln (N ++ L) S1 z0 s.heap H1 locs1 → W p l e R s m args below meth c H1 locs1 (cells + mc) (slots + ms) Q (F0 m (pc + 3) ls rest)) : W p l e R s m args below meth c H locs cells slots Q (F0 m pc ls st) := by
  subst hst
  refine va_callv (va_runI (As := As) (rest := rest) F hM cw ⟨ct_blind, fun U hU hW => ct_pre hK hN0 G U hU hW⟩ rfl hlen hsz rfl (lv_room hw) hdg hr) G.2.2.1 (fun q _ h => h) (fun q h => h) (fun u t H1 locs1 ht hvm hq hB hz1 hk1 hS1 => ?_)
  rw [ht] at hB
  exact kk u H1 locs1 hq.1 ⟨hB.1, hB.2, hS1, hq.2.1, hq.2.2, G.2.2.2.2.2⟩
theorem gw_callN {host : String} (F : CallFix p m c cc nL s args Ts own) (hK : va_K D vwCl (ha_tys cs) s) (hN0 : ct_N s) (G : gw_G D cs ad kd ln N S z0 s.heap H locs) (hM : ct_Met l D cs ad kd ln N z0 y ws rm (.ref b :: As) S L S1 mc ms) (cw : va_CN R s args own index y host bytes maxL none ws rm mc ms nn ∧ y.name = "<init>" ∧ (Cond.instanceMethod y).before args s = true) (hlen : As.length = nn) (hsz : ls.size = nL) (hst : st = As.reverse ++ .ref b :: rest) (hw : (rest.map fun v => v.category).sum ≤ 8) (hdg : decode cc pc = .ok (.invokespecial index, 3)) (hr : cells + mc ≤ R.cells ∧ slots + ms ≤ R.slots)
    (kk : ∀ (ad1 : Nat → Nat) (H1 : Heap) (locs1 : List Loc), (∀ y, y ∈ N → ad1 y = ad y) → gw_G D cs ad1 kd ln (N ++ L) S1 z0 s.heap H1 locs1 → W p l e R s m args below meth c H1 locs1 (cells + mc) (slots + ms) Q (F0 m (pc + 3) ls rest)) : W p l e R s m args below meth c H locs cells slots Q (F0 m pc ls st) := by
  subst hst
  refine va_callv (va_runIN (As := As) (rest := rest) F hM cw ⟨ct_blind, fun U hU hW => ct_pre hK hN0 G U hU hW⟩ rfl hlen hsz rfl (lv_room hw) hdg hr) G.2.2.1 (fun q _ h => h) (fun q h => h) (fun u t H1 locs1 ht hvm hq hB hz1 hk1 hS1 => ?_)
  rw [ht] at hB
  exact kk u H1 locs1 hq.1 ⟨hB.1, hB.2, hS1, hq.2.1, hq.2.2, G.2.2.2.2.2⟩
theorem gw_ret {ad0 : Nat → Nat} {N1 : List Nat} (hexec : p.tables.exec = Jvm.exec) (hb : c.code = cc) (hr : meth.sig.returnType = none) (hlocks : meth.locks = false) (a : ∀ y, y ∈ N → ad y = ad0 y) (G : gw_G D cs ad kd ln N1 S1 z0 s.heap H locs) (hN : N1 = N ++ L) (hdg : decode cc pc = .ok (.return_, 1)) : W p l e R s m args below meth c H locs cells slots (MQ below (va_Qv (fun (ad1 : Nat → Nat) => (∀ y, y ∈ N → ad1 y = ad0 y) ∧ gw_C (N ++ L) S1 ∧ gw_B (N ++ L) S1) (fun ad1 t => va_P D vwCl (ha_wl cs ad1 kd ln (N ++ L) S1) t.heap ∧ va_D (fun q => z0 ≤ q) (ha_wl cs ad1 kd ln (N ++ L) S1)) (fun q => z0 ≤ q)) args s cells slots (fun q => z0 ≤ q)) (F0 m pc ls []) := by
  subst hN
  exact W.vret hexec hb hr (fun t ht hW => ⟨⟨ad, rfl, ⟨a, G.2.2.2.1, G.2.2.2.2.1⟩, by rw [ht]; exact G.1, G.2.1⟩, G.2.2.1.F ht⟩) G.2.2.1.2.2 hdg hlocks
theorem gw_alen {q : Nat} (hexec : p.tables.exec = Jvm.exec) (hb : c.code = cc) (hK : va_K D vwCl (ha_tys cs) s) (G : gw_G D cs ad kd ln N S z0 s.heap H locs) (hn : n ∈ N) (hkd : kd n = ci) (h1 : 100 ≤ ci) (h2 : ci < 105) (eq : ad n = q) (hdg : decode cc pc = .ok (.arraylength, 1))
    (kk : W p l e R s m args below meth c H locs cells slots Q (F0 m (pc + 1) ls (.int (nI (ln n)) :: rest))) : W p l e R s m args below meth c H locs cells slots Q (F0 m pc ls (.ref q :: rest)) := by
  subst eq
  have ek : ha_wl cs ad (fun x => if x ∈ N then kd x else 999) ln N S = ha_wl cs ad kd ln N S := by
    unfold ha_wl
    apply List.map_congr_left
    intro x hx
    simp [ha_cell, hx]
  have hP := G.1
  rw [← ek] at hP
  exact ha_alen hexec hb hK hP (fun x hx => by
    by_cases h : x ∈ N
    · exact h
    · rw [if_neg h] at hx; omega) (n := n) (ci := ci) (by show (if n ∈ N then kd n else 999) = ci; rw [if_pos hn]; exact hkd) h1 h2 hdg kk
theorem gw_mna (hexec : p.tables.exec = Jvm.exec) (hb : c.code = cc) (hown : s.vm.findClass own = some m.cls) (hclink : (Cond.classLink own index "[[I").before args s = true) (hover : va_AOA .int s) (harr : (Cond.arrayClass .int).before args s = true) (hK : va_K D vwCl (ha_tys cs) s) (G : gw_G D cs ad kd ln N S z0 s.heap H locs) (h1 : 248 ∉ N) (h2 : ∀ i, i < 17 → 2000 + i ∉ N) (k1 : kd 248 = 104) (k2 : ∀ i, i < 17 → kd (2000 + i) = 100) (l1 : ln 248 = 17) (l2 : ∀ i, i < 17 → ln (2000 + i) = 17) (hcells : cells + (1 + 17) ≤ R.cells) (hslots : slots + (17 + 17 * 17) ≤ R.slots) (hdg : decode cc pc = .ok (.multianewarray index 2, 4))
    (kk : ∀ (ad1 : Nat → Nat) (H1 : Heap), (∀ y, y ∈ N → ad1 y = ad y) → gw_G D cs ad1 kd ln (N ++ (248 :: (List.range 17).map (fun i => 2000 + i))) (ha_sB S 248 (fun i => if i < 17 then some (2000 + i) else none)) z0 s.heap H1 locs → W p l e R s m args below meth c H1 locs (cells + 1 + 17) (slots + 17 + 17 * 17) Q (F0 m (pc + 4) ls (.ref (ad1 248) :: rest))) : W p l e R s m args below meth c H locs cells slots Q (F0 m pc ls (.int 17 :: .int 17 :: rest)) := by
  obtain ⟨hP, hD, hS, hC, hB, hz⟩ := G
  have hcy : s.vm.findClass (FieldType.array .int).toString = some (cs 100) := ra_fc (hK.2 0 (cs 100, .int) rfl).2
  have hP0 : va_P D vwCl (ha_wl cs ad kd ln N S ++ va_pl [] (fun _ => .inl (cs 100, 0, .inl (fun _ => 0)))) H := by rw [show va_pl [] (fun _ => (.inl (cs 100, 0, .inl (fun _ => 0)) : va_E)) = [] from rfl, List.append_nil]; exact hP
  have hD0 : va_D (fun q => z0 ≤ q) (ha_wl cs ad kd ln N S ++ va_pl [] (fun _ => .inl (cs 100, 0, .inl (fun _ => 0)))) := by rw [show va_pl [] (fun _ => (.inl (cs 100, 0, .inl (fun _ => 0)) : va_E)) = [] from rfl, List.append_nil]; exact hD
  refine va_mna (ty := .int) (N' := 17) (K' := 17) (z := (17, .inl (fun _ => 0))) hexec hb hown hclink hover harr hcy hK hP0 hD0 hS (fun q h => Nat.le_trans hz h) (by decide) (by decide) rfl rfl (by decide) (by decide) (by decide) rfl rfl hcells hslots (fun c => rfl) hdg (fun q r cA H1 hr1 hr2 hK1 hP1 hD1 hS1 => ?_)
  have hc : cA = cs 104 := gw_cid (t0 := 4) hK rfl hK1
  subst hc
  have a1 : ∀ y, y ∈ N → (fun x => if x = 248 then q else if 2000 ≤ x ∧ x < 2017 then r (x - 2000) else ad x) y = ad y := fun y hy => by
    show (if y = 248 then q else if 2000 ≤ y ∧ y < 2017 then r (y - 2000) else ad y) = ad y
    have n1 : ¬ y = 248 := fun h => h1 (by rw [← h]; exact hy)
    have n2 : ¬ (2000 ≤ y ∧ y < 2017) := fun h => h2 (y - 2000) (by omega) (by rw [show 2000 + (y - 2000) = y by omega]; exact hy)
    rw [if_neg n1, if_neg n2]
  have e : ha_wl cs (fun x => if x = 248 then q else if 2000 ≤ x ∧ x < 2017 then r (x - 2000) else ad x) kd ln (N ++ (248 :: (List.range 17).map (fun i => 2000 + i))) (ha_sB S 248 (fun i => if i < 17 then some (2000 + i) else none)) = (ha_wl cs ad kd ln N S ++ [(q, .inl (cs 104, 17, .inr (.inr (.inr (.inr (fun i => if i < 17 then some (r i) else none))))))]) ++ va_pl ([] ++ (List.range 17).map r) (vr_up (fun _ => .inl (cs 100, 0, .inl (fun _ => 0))) ((List.range 17).map r) (.inl (cs 100, (17, .inl (fun _ => 0))))) := by
    have w0 := gw_wl0 (cs := cs) (kd := kd) (ln := ln) a1 hC
    have hs : ∀ x, x ≠ 248 → ha_cell cs (fun x => if x = 248 then q else if 2000 ≤ x ∧ x < 2017 then r (x - 2000) else ad x) kd ln (ha_sB S 248 (fun i => if i < 17 then some (2000 + i) else none)) x = ha_cell cs (fun x => if x = 248 then q else if 2000 ≤ x ∧ x < 2017 then r (x - 2000) else ad x) kd ln S x := fun x hx => ha_cell_eq x (fun _ => rfl) (fun _ => rfl) (fun _ => rfl) rfl (by rw [st_BB, if_neg hx])
    have w1 : ha_wl cs (fun x => if x = 248 then q else if 2000 ≤ x ∧ x < 2017 then r (x - 2000) else ad x) kd ln N (ha_sB S 248 (fun i => if i < 17 then some (2000 + i) else none)) = ha_wl cs ad kd ln N S := by
      rw [← w0]
      unfold ha_wl
      apply List.map_congr_left
      intro x hx
      rw [hs x (fun h => h1 (h ▸ hx))]
    have w2 : ha_wl cs (fun x => if x = 248 then q else if 2000 ≤ x ∧ x < 2017 then r (x - 2000) else ad x) kd ln ((List.range 17).map (fun i => 2000 + i)) (ha_sB S 248 (fun i => if i < 17 then some (2000 + i) else none)) = va_pl ((List.range 17).map r) (vr_up (fun _ => .inl (cs 100, 0, .inl (fun _ => 0))) ((List.range 17).map r) (.inl (cs 100, (17, .inl (fun _ => 0))))) := by
      unfold ha_wl va_pl
      rw [List.map_map, List.map_map]
      apply List.map_congr_left
      intro i hi
      have hi : i < 17 := List.mem_range.mp hi
      have b := hB (2000 + i) (h2 i hi)
      show (_, _) = (_, _)
      rw [vr_up_in (List.mem_map.mpr ⟨i, List.mem_range.mpr hi, rfl⟩)]
      show (_, ha_cell cs _ kd ln (ha_sB S 248 (fun i => if i < 17 then some (2000 + i) else none)) (2000 + i)) = _
      rw [hs (2000 + i) (by omega), ha_cell_i (k2 i hi) (by omega) (by omega), l2 i hi, b.2.2.2.1]
      show (if 2000 + i = 248 then q else if 2000 ≤ 2000 + i ∧ 2000 + i < 2017 then r (2000 + i - 2000) else ad (2000 + i), _) = _
      rw [if_neg (by omega), if_pos (by omega), show 2000 + i - 2000 = i by omega]
    have w3 : ha_cell cs (fun x => if x = 248 then q else if 2000 ≤ x ∧ x < 2017 then r (x - 2000) else ad x) kd ln (ha_sB S 248 (fun i => if i < 17 then some (2000 + i) else none)) 248 = .inl (cs 104, 17, .inr (.inr (.inr (.inr (fun i => if i < 17 then some (r i) else none))))) := by
      rw [ha_cell_q k1 (by omega) (by omega), l1, st_BB, if_pos rfl]
      congr 8
      funext i
      by_cases hi : i < 17
      · rw [if_pos hi, if_pos hi, Option.map_some]
        show some (if 2000 + i = 248 then q else if 2000 ≤ 2000 + i ∧ 2000 + i < 2017 then r (2000 + i - 2000) else ad (2000 + i)) = _
        rw [if_neg (by omega), if_pos (by omega), show 2000 + i - 2000 = i by omega]
      · rw [if_neg hi, if_neg hi]; rfl
    have w4 : ha_wl cs (fun x => if x = 248 then q else if 2000 ≤ x ∧ x < 2017 then r (x - 2000) else ad x) kd ln [248] (ha_sB S 248 (fun i => if i < 17 then some (2000 + i) else none)) = [(q, .inl (cs 104, 17, .inr (.inr (.inr (.inr (fun i => if i < 17 then some (r i) else none))))))] := by
      show [(_, _)] = _
      rw [w3]
      rfl
    rw [List.nil_append, ← w1, ← w2, ← w4]
    unfold ha_wl
    rw [← List.map_append, ← List.map_append, List.append_assoc]
    rfl
  rw [← e] at hP1 hD1
  have hC1 : gw_C (N ++ (248 :: (List.range 17).map (fun i => 2000 + i))) (ha_sB S 248 (fun i => if i < 17 then some (2000 + i) else none)) := fun x hx => by
    have h0 := gw_Ca hC hB (248 :: (List.range 17).map (fun i => 2000 + i)) x hx
    refine ⟨h0.1, fun j t ht => ?_⟩
    rw [st_BB] at ht
    by_cases c1 : x = 248
    · rw [if_pos c1] at ht
      by_cases hj : j < 17
      · rw [if_pos hj] at ht
        cases ht
        exact List.mem_append_right _ (List.mem_cons_of_mem _ (List.mem_map.mpr ⟨j, List.mem_range.mpr hj, rfl⟩))
      · rw [if_neg hj] at ht; cases ht
    · rw [if_neg c1] at ht; exact h0.2 j t ht
  have w := kk _ H1 a1 ⟨hP1, hD1, hS1, hC1, gw_BB (gw_Ba hB _) (List.mem_append_right _ List.mem_cons_self), hz⟩
  exact w
end CTC
