/-! CONTRACTS OVER A WORLD BY NAMES, and calls -/
def ha_Zok (A : Nat → Prop) (Z : State → Prop) : Prop := (∀ (U : State) (g : JFrame) (mk : MethodId) (a : Array Value), Z U → Z (U.calling g mk a)) ∧ ∀ (s U : State), Z s → s.WarmedH U.vm → (∀ q : Nat, q < s.heap.size → ¬ A q → U.heap[q]? = s.heap[q]?) → Z U
def ha_G (D : va_G) (cs : Nat → ClassId) (ad kd ln : Nat → Nat) (N : List Nat) (Z : State → Prop) (S : ha_St) (U : State) : Prop := va_P D vwCl (ha_wl cs ad kd ln N S) U.heap ∧ va_D (ha_A ad N) (ha_wl cs ad kd ln N S) ∧ va_K D vwCl (ha_tys cs) U ∧ Z U
def ha_H (D : va_G) (cs : Nat → ClassId) (ad kd ln : Nat → Nat) (N : List Nat) (S : ha_St) (t : State) : Prop := va_P D vwCl (ha_wl cs ad kd ln N S) t.heap ∧ va_D (ha_A ad N) (ha_wl cs ad kd ln N S)
abbrev ha_Ci (l : Launch) (D : va_G) (cs : Nat → ClassId) (ad kd ln : Nat → Nat) (N : List Nat) (Z : State → Prop) (y : MethodName) (ws : List Cond) (rm : Room) (av : List Value) (S : ha_St) (z : Int32) (S1 : ha_St) : Prop := Met l y ws rm (va_Pc av (ha_G D cs ad kd ln N Z S)) (va_Qi (fun (r : Int32) (_ : Unit) => r = z) (fun _ => ha_H D cs ad kd ln N S1) (ha_A ad N)) 0 0 (ha_A ad N)
abbrev ha_Cl (l : Launch) (D : va_G) (cs : Nat → ClassId) (ad kd ln : Nat → Nat) (N : List Nat) (Z : State → Prop) (y : MethodName) (ws : List Cond) (rm : Room) (av : List Value) (S : ha_St) (z : Int64) (S1 : ha_St) : Prop := Met l y ws rm (va_Pc av (ha_G D cs ad kd ln N Z S)) (va_Ql (fun (r : Int64) (_ : Unit) => r = z) (fun _ => ha_H D cs ad kd ln N S1) (ha_A ad N)) 0 0 (ha_A ad N)
abbrev ha_Cv (l : Launch) (D : va_G) (cs : Nat → ClassId) (ad kd ln : Nat → Nat) (N : List Nat) (Z : State → Prop) (y : MethodName) (ws : List Cond) (rm : Room) (av : List Value) (S : ha_St) (S1 : ha_St) : Prop := Met l y ws rm (va_Pc av (ha_G D cs ad kd ln N Z S)) (va_Qv (fun (_ : Unit) => True) (fun _ => ha_H D cs ad kd ln N S1) (ha_A ad N)) 0 0 (ha_A ad N)
section HAC
variable {p : Program} {l : Launch} {e : Env} {R : Room} {s : State} {m : MethodId} {args : Array Value} {below : List Frame} {meth : Method} {c : Code} {H : Heap} {locs : List Loc} {cells slots : Nat} {Q : State → Prop}
variable {cc : ByteArray} {pc : Nat} {ls : Array Slot} {rest st : List Value} {D : va_G}
variable {cs : Nat → ClassId} {ad kd ln : Nat → Nat} {N : List Nat} {S S1 : ha_St} {own : String} {index ci n : Nat} {Z : State → Prop}
variable {y : MethodName} {bytes : ByteArray} {maxL nL nn : Nat} {ret : Option FieldType} {ws : List Cond} {rm : Room} {Ts : List Cond} {C : String} {As : List Value}
theorem ha_blind {av : List Value} (hZ : ha_Zok (ha_A ad N) Z) : FrameBlind (va_Pc av (ha_G D cs ad kd ln N Z S)) := fun a U g mk h => ⟨h.1, h.2.1, h.2.2.1, va_K.moved (u := U) (U := U.calling g mk a) (Vm.Alike.refl U.vm) h.2.2.2.1, hZ.1 U g mk a h.2.2.2.2⟩
theorem ha_pre {av : List Value} (hZ : ha_Zok (ha_A ad N) Z) (hK : va_K D vwCl (ha_tys cs) s) (hz : Z s) (hP : va_P D vwCl (ha_wl cs ad kd ln N S) H) (hD : va_D (ha_A ad N) (ha_wl cs ad kd ln N S)) (hS : va_S (ha_A ad N) s.heap H locs) (U : State) (hU : U.heap = H) (hW : s.WarmedH U.vm) : va_Pc av (ha_G D cs ad kd ln N Z S) av.toArray U :=
  ⟨rfl, by rw [hU]; exact hP, hD, va_K.moved hW.alike hK, hZ.2 s U hz hW (fun q h1 h2 => by rw [hU]; exact hS.2.1 q h1 h2)⟩
theorem ha_recv {T : u_T} {Nf : Nat} (hK : va_K D vwCl (ha_tys cs) s) (hP : va_P D vwCl (ha_wl cs ad kd ln N S) H) (hN : ∀ x, kd x < 999 → x ∈ N) (hkd : kd n = ci) (hci : ci < 100) (hc : vwCl[ci]? = some (C, T, Nf)) : ∃ cell : Cell, H[ad n]? = some cell ∧ cell.vm.isStatics = false ∧ s.vm.findClass C = some cell.cls := by
  have hn : n ∈ N := hN n (by omega)
  obtain ⟨j, hj⟩ := ha_wl_get (cs := cs) (ad := ad) (kd := kd) (ln := ln) (S := S) hn
  rw [ha_cell_o hkd hci] at hj
  exact va_recv hK hP (ci := ci) (q0 := j) hc hj
theorem ha_callVi {T : u_T} {Nf : Nat} {z : Int32} (hZ : ha_Zok (ha_A ad N) Z) (F : CallFix p m c cc nL s args Ts own) (hK : va_K D vwCl (ha_tys cs) s) (hz : Z s) (hP : va_P D vwCl (ha_wl cs ad kd ln N S) H) (hD : va_D (ha_A ad N) (ha_wl cs ad kd ln N S)) (hS : va_S (ha_A ad N) s.heap H locs) (hM : ha_Ci l D cs ad kd ln N Z y ws rm (.ref (ad n) :: As) S z S1) (cw : CallW R s args own C index y bytes maxL ret ws rm 0 0 nn) (hN : ∀ x, kd x < 999 → x ∈ N) (hkd : kd n = ci) (hci : ci < 100) (hc : vwCl[ci]? = some (C, T, Nf)) (hlen : As.length = nn) (hsz : ls.size = nL) (hst : st = As.reverse ++ .ref (ad n) :: rest) (hw : (rest.map fun v => v.category).sum ≤ 8) (hdg : decode cc pc = .ok (.invokevirtual index, 3)) (hr : cells + 0 ≤ R.cells ∧ slots + 0 ≤ R.slots)
    (kk : ∀ (H1 : Heap) (locs1 : List Loc), va_P D vwCl (ha_wl cs ad kd ln N S1) H1 → va_D (ha_A ad N) (ha_wl cs ad kd ln N S1) → va_S (ha_A ad N) s.heap H1 locs1 → W p l e R s m args below meth c H1 locs1 cells slots Q (F0 m (pc + 3) ls (.int z :: rest))) : W p l e R s m args below meth c H locs cells slots Q (F0 m pc ls st) := by
  subst hst
  refine va_calli (va_runV (As := As) (rest := rest) F hM cw ⟨ha_blind hZ, ha_recv hK hP hN hkd hci hc, fun U hU hW => ha_pre hZ hK hz hP hD hS U hU hW⟩ rfl hlen hsz rfl (lv_room hw) hdg hr) hS (fun q _ h => h) (fun q h => h) (fun r u t H1 locs1 ht hvm hq hB hz1 hk1 hS1 => ?_)
  subst hq
  obtain ⟨hP1, hD1⟩ := hB
  rw [ht] at hP1
  exact kk H1 locs1 hP1 hD1 hS1
theorem ha_callVl {T : u_T} {Nf : Nat} {z : Int64} (hZ : ha_Zok (ha_A ad N) Z) (F : CallFix p m c cc nL s args Ts own) (hK : va_K D vwCl (ha_tys cs) s) (hz : Z s) (hP : va_P D vwCl (ha_wl cs ad kd ln N S) H) (hD : va_D (ha_A ad N) (ha_wl cs ad kd ln N S)) (hS : va_S (ha_A ad N) s.heap H locs) (hM : ha_Cl l D cs ad kd ln N Z y ws rm (.ref (ad n) :: As) S z S1) (cw : CallW R s args own C index y bytes maxL ret ws rm 0 0 nn) (hN : ∀ x, kd x < 999 → x ∈ N) (hkd : kd n = ci) (hci : ci < 100) (hc : vwCl[ci]? = some (C, T, Nf)) (hlen : As.length = nn) (hsz : ls.size = nL) (hst : st = As.reverse ++ .ref (ad n) :: rest) (hw : (rest.map fun v => v.category).sum ≤ 8) (hdg : decode cc pc = .ok (.invokevirtual index, 3)) (hr : cells + 0 ≤ R.cells ∧ slots + 0 ≤ R.slots)
    (kk : ∀ (H1 : Heap) (locs1 : List Loc), va_P D vwCl (ha_wl cs ad kd ln N S1) H1 → va_D (ha_A ad N) (ha_wl cs ad kd ln N S1) → va_S (ha_A ad N) s.heap H1 locs1 → W p l e R s m args below meth c H1 locs1 cells slots Q (F0 m (pc + 3) ls (.long z :: rest))) : W p l e R s m args below meth c H locs cells slots Q (F0 m pc ls st) := by
  subst hst
  refine va_calll (va_runV (As := As) (rest := rest) F hM cw ⟨ha_blind hZ, ha_recv hK hP hN hkd hci hc, fun U hU hW => ha_pre hZ hK hz hP hD hS U hU hW⟩ rfl hlen hsz rfl (lv_room hw) hdg hr) hS (fun q _ h => h) (fun q h => h) (fun r u t H1 locs1 ht hvm hq hB hz1 hk1 hS1 => ?_)
  subst hq
  obtain ⟨hP1, hD1⟩ := hB
  rw [ht] at hP1
  exact kk H1 locs1 hP1 hD1 hS1
theorem ha_callVv {T : u_T} {Nf : Nat} (hZ : ha_Zok (ha_A ad N) Z) (F : CallFix p m c cc nL s args Ts own) (hK : va_K D vwCl (ha_tys cs) s) (hz : Z s) (hP : va_P D vwCl (ha_wl cs ad kd ln N S) H) (hD : va_D (ha_A ad N) (ha_wl cs ad kd ln N S)) (hS : va_S (ha_A ad N) s.heap H locs) (hM : ha_Cv l D cs ad kd ln N Z y ws rm (.ref (ad n) :: As) S S1) (cw : CallW R s args own C index y bytes maxL ret ws rm 0 0 nn) (hN : ∀ x, kd x < 999 → x ∈ N) (hkd : kd n = ci) (hci : ci < 100) (hc : vwCl[ci]? = some (C, T, Nf)) (hlen : As.length = nn) (hsz : ls.size = nL) (hst : st = As.reverse ++ .ref (ad n) :: rest) (hw : (rest.map fun v => v.category).sum ≤ 8) (hdg : decode cc pc = .ok (.invokevirtual index, 3)) (hr : cells + 0 ≤ R.cells ∧ slots + 0 ≤ R.slots)
    (kk : ∀ (H1 : Heap) (locs1 : List Loc), va_P D vwCl (ha_wl cs ad kd ln N S1) H1 → va_D (ha_A ad N) (ha_wl cs ad kd ln N S1) → va_S (ha_A ad N) s.heap H1 locs1 → W p l e R s m args below meth c H1 locs1 cells slots Q (F0 m (pc + 3) ls rest)) : W p l e R s m args below meth c H locs cells slots Q (F0 m pc ls st) := by
  subst hst
  refine va_callv (va_runV (As := As) (rest := rest) F hM cw ⟨ha_blind hZ, ha_recv hK hP hN hkd hci hc, fun U hU hW => ha_pre hZ hK hz hP hD hS U hU hW⟩ rfl hlen hsz rfl (lv_room hw) hdg hr) hS (fun q _ h => h) (fun q h => h) (fun u t H1 locs1 ht hvm hq hB hz1 hk1 hS1 => ?_)
  obtain ⟨hP1, hD1⟩ := hB
  rw [ht] at hP1
  exact kk H1 locs1 hP1 hD1 hS1
theorem ha_callSi {z : Int32} (hZ : ha_Zok (ha_A ad N) Z) (F : CallFix p m c cc nL s args Ts own) (hK : va_K D vwCl (ha_tys cs) s) (hz : Z s) (hP : va_P D vwCl (ha_wl cs ad kd ln N S) H) (hD : va_D (ha_A ad N) (ha_wl cs ad kd ln N S)) (hS : va_S (ha_A ad N) s.heap H locs) (hM : ha_Ci l D cs ad kd ln N Z y ws rm As S z S1) (cw : CallB R s args own index y bytes maxL ret ws rm 0 0 nn ∧ (Cond.static y).before args s = true) (hlen : As.length = nn) (hsz : ls.size = nL) (hst : st = As.reverse ++ rest) (hw : (rest.map fun v => v.category).sum ≤ 8) (hdg : decode cc pc = .ok (.invokestatic index, 3)) (hr : cells + 0 ≤ R.cells ∧ slots + 0 ≤ R.slots)
    (kk : ∀ (H1 : Heap) (locs1 : List Loc), va_P D vwCl (ha_wl cs ad kd ln N S1) H1 → va_D (ha_A ad N) (ha_wl cs ad kd ln N S1) → va_S (ha_A ad N) s.heap H1 locs1 → W p l e R s m args below meth c H1 locs1 cells slots Q (F0 m (pc + 3) ls (.int z :: rest))) : W p l e R s m args below meth c H locs cells slots Q (F0 m pc ls st) := by
  subst hst
  refine va_calli (va_runS (As := As) (rest := rest) F hM cw ⟨ha_blind hZ, fun U hU hW => ha_pre hZ hK hz hP hD hS U hU hW⟩ rfl hlen hsz rfl (lv_room hw) hdg hr) hS (fun q _ h => h) (fun q h => h) (fun r u t H1 locs1 ht hvm hq hB hz1 hk1 hS1 => ?_)
  subst hq
  obtain ⟨hP1, hD1⟩ := hB
  rw [ht] at hP1
  exact kk H1 locs1 hP1 hD1 hS1
theorem ha_callSl {z : Int64} (hZ : ha_Zok (ha_A ad N) Z) (F : CallFix p m c cc nL s args Ts own) (hK : va_K D vwCl (ha_tys cs) s) (hz : Z s) (hP : va_P D vwCl (ha_wl cs ad kd ln N S) H) (hD : va_D (ha_A ad N) (ha_wl cs ad kd ln N S)) (hS : va_S (ha_A ad N) s.heap H locs) (hM : ha_Cl l D cs ad kd ln N Z y ws rm As S z S1) (cw : CallB R s args own index y bytes maxL ret ws rm 0 0 nn ∧ (Cond.static y).before args s = true) (hlen : As.length = nn) (hsz : ls.size = nL) (hst : st = As.reverse ++ rest) (hw : (rest.map fun v => v.category).sum ≤ 8) (hdg : decode cc pc = .ok (.invokestatic index, 3)) (hr : cells + 0 ≤ R.cells ∧ slots + 0 ≤ R.slots)
    (kk : ∀ (H1 : Heap) (locs1 : List Loc), va_P D vwCl (ha_wl cs ad kd ln N S1) H1 → va_D (ha_A ad N) (ha_wl cs ad kd ln N S1) → va_S (ha_A ad N) s.heap H1 locs1 → W p l e R s m args below meth c H1 locs1 cells slots Q (F0 m (pc + 3) ls (.long z :: rest))) : W p l e R s m args below meth c H locs cells slots Q (F0 m pc ls st) := by
  subst hst
  refine va_calll (va_runS (As := As) (rest := rest) F hM cw ⟨ha_blind hZ, fun U hU hW => ha_pre hZ hK hz hP hD hS U hU hW⟩ rfl hlen hsz rfl (lv_room hw) hdg hr) hS (fun q _ h => h) (fun q h => h) (fun r u t H1 locs1 ht hvm hq hB hz1 hk1 hS1 => ?_)
  subst hq
  obtain ⟨hP1, hD1⟩ := hB
  rw [ht] at hP1
  exact kk H1 locs1 hP1 hD1 hS1
theorem ha_callSv (hZ : ha_Zok (ha_A ad N) Z) (F : CallFix p m c cc nL s args Ts own) (hK : va_K D vwCl (ha_tys cs) s) (hz : Z s) (hP : va_P D vwCl (ha_wl cs ad kd ln N S) H) (hD : va_D (ha_A ad N) (ha_wl cs ad kd ln N S)) (hS : va_S (ha_A ad N) s.heap H locs) (hM : ha_Cv l D cs ad kd ln N Z y ws rm As S S1) (cw : CallB R s args own index y bytes maxL ret ws rm 0 0 nn ∧ (Cond.static y).before args s = true) (hlen : As.length = nn) (hsz : ls.size = nL) (hst : st = As.reverse ++ rest) (hw : (rest.map fun v => v.category).sum ≤ 8) (hdg : decode cc pc = .ok (.invokestatic index, 3)) (hr : cells + 0 ≤ R.cells ∧ slots + 0 ≤ R.slots)
    (kk : ∀ (H1 : Heap) (locs1 : List Loc), va_P D vwCl (ha_wl cs ad kd ln N S1) H1 → va_D (ha_A ad N) (ha_wl cs ad kd ln N S1) → va_S (ha_A ad N) s.heap H1 locs1 → W p l e R s m args below meth c H1 locs1 cells slots Q (F0 m (pc + 3) ls rest)) : W p l e R s m args below meth c H locs cells slots Q (F0 m pc ls st) := by
  subst hst
  refine va_callv (va_runS (As := As) (rest := rest) F hM cw ⟨ha_blind hZ, fun U hU hW => ha_pre hZ hK hz hP hD hS U hU hW⟩ rfl hlen hsz rfl (lv_room hw) hdg hr) hS (fun q _ h => h) (fun q h => h) (fun u t H1 locs1 ht hvm hq hB hz1 hk1 hS1 => ?_)
  obtain ⟨hP1, hD1⟩ := hB
  rw [ht] at hP1
  exact kk H1 locs1 hP1 hD1 hS1
theorem ha_callNi {host : String} {z : Int32} (hZ : ha_Zok (ha_A ad N) Z) (F : CallFix p m c cc nL s args Ts own) (hK : va_K D vwCl (ha_tys cs) s) (hz : Z s) (hP : va_P D vwCl (ha_wl cs ad kd ln N S) H) (hD : va_D (ha_A ad N) (ha_wl cs ad kd ln N S)) (hS : va_S (ha_A ad N) s.heap H locs) (hM : ha_Ci l D cs ad kd ln N Z y ws rm As S z S1) (cw : va_CN R s args own index y host bytes maxL ret ws rm 0 0 nn ∧ (Cond.static y).before args s = true ∧ True) (hlen : As.length = nn) (hsz : ls.size = nL) (hst : st = As.reverse ++ rest) (hw : (rest.map fun v => v.category).sum ≤ 8) (hdg : decode cc pc = .ok (.invokestatic index, 3)) (hr : cells + 0 ≤ R.cells ∧ slots + 0 ≤ R.slots)
    (kk : ∀ (H1 : Heap) (locs1 : List Loc), va_P D vwCl (ha_wl cs ad kd ln N S1) H1 → va_D (ha_A ad N) (ha_wl cs ad kd ln N S1) → va_S (ha_A ad N) s.heap H1 locs1 → W p l e R s m args below meth c H1 locs1 cells slots Q (F0 m (pc + 3) ls (.int z :: rest))) : W p l e R s m args below meth c H locs cells slots Q (F0 m pc ls st) := by
  subst hst
  refine va_calli (va_runSN (As := As) (rest := rest) F hM cw ⟨ha_blind hZ, fun U hU hW => ha_pre hZ hK hz hP hD hS U hU hW⟩ rfl hlen hsz rfl (lv_room hw) hdg hr) hS (fun q _ h => h) (fun q h => h) (fun r u t H1 locs1 ht hvm hq hB hz1 hk1 hS1 => ?_)
  subst hq
  obtain ⟨hP1, hD1⟩ := hB
  rw [ht] at hP1
  exact kk H1 locs1 hP1 hD1 hS1
/-- the ends -/
theorem ha_reti {z : Int32} (hexec : p.tables.exec = Jvm.exec) (hb : c.code = cc) (hr : meth.sig.returnType = some .int) (hlocks : meth.locks = false) (hP : va_P D vwCl (ha_wl cs ad kd ln N S) H) (hD : va_D (ha_A ad N) (ha_wl cs ad kd ln N S)) (hS : va_S (ha_A ad N) s.heap H locs) (hdg : decode cc pc = .ok (.ireturn, 1)) {z1 : Int32} {S1 : ha_St} (h1 : z = z1) (h2 : S = S1) : W p l e R s m args below meth c H locs cells slots (MQ below (va_Qi (fun (r : Int32) (_ : Unit) => r = z1) (fun _ => ha_H D cs ad kd ln N S1) (ha_A ad N)) args s cells slots (ha_A ad N)) (F0 m pc ls [.int z]) := by
  subst h1; subst h2
  exact W.iret hexec hb hr (fun t ht hW => ⟨⟨z, (), rfl, rfl, by rw [ht]; exact hP, hD⟩, hS.F ht⟩) hS.2.2 hdg hlocks
theorem ha_retz {z : Int32} (hexec : p.tables.exec = Jvm.exec) (hb : c.code = cc) (hr : meth.sig.returnType = some .boolean) (hlocks : meth.locks = false) (hP : va_P D vwCl (ha_wl cs ad kd ln N S) H) (hD : va_D (ha_A ad N) (ha_wl cs ad kd ln N S)) (hS : va_S (ha_A ad N) s.heap H locs) (hdg : decode cc pc = .ok (.ireturn, 1)) (hz : z = 0 ∨ z = 1) {z1 : Int32} {S1 : ha_St} (h1 : z = z1) (h2 : S = S1) : W p l e R s m args below meth c H locs cells slots (MQ below (va_Qi (fun (r : Int32) (_ : Unit) => r = z1) (fun _ => ha_H D cs ad kd ln N S1) (ha_A ad N)) args s cells slots (ha_A ad N)) (F0 m pc ls [.int z]) := by
  subst h1; subst h2
  exact W.zret hexec hb hr (by rcases hz with rfl | rfl <;> rfl) (fun t ht hW => ⟨⟨z, (), rfl, rfl, by rw [ht]; exact hP, hD⟩, hS.F ht⟩) hS.2.2 hdg hlocks
theorem ha_retl {z : Int64} (hexec : p.tables.exec = Jvm.exec) (hb : c.code = cc) (hr : meth.sig.returnType = some .long) (hlocks : meth.locks = false) (hP : va_P D vwCl (ha_wl cs ad kd ln N S) H) (hD : va_D (ha_A ad N) (ha_wl cs ad kd ln N S)) (hS : va_S (ha_A ad N) s.heap H locs) (hdg : decode cc pc = .ok (.lreturn, 1)) {z1 : Int64} {S1 : ha_St} (h1 : z = z1) (h2 : S = S1) : W p l e R s m args below meth c H locs cells slots (MQ below (va_Ql (fun (r : Int64) (_ : Unit) => r = z1) (fun _ => ha_H D cs ad kd ln N S1) (ha_A ad N)) args s cells slots (ha_A ad N)) (F0 m pc ls [.long z]) := by
  subst h1; subst h2
  exact W.lret hexec hb hr (fun t ht hW => ⟨⟨z, (), rfl, rfl, by rw [ht]; exact hP, hD⟩, hS.F ht⟩) hS.2.2 hdg hlocks
theorem ha_retv (hexec : p.tables.exec = Jvm.exec) (hb : c.code = cc) (hr : meth.sig.returnType = none) (hlocks : meth.locks = false) (hP : va_P D vwCl (ha_wl cs ad kd ln N S) H) (hD : va_D (ha_A ad N) (ha_wl cs ad kd ln N S)) (hS : va_S (ha_A ad N) s.heap H locs) (hdg : decode cc pc = .ok (.return_, 1)) {S1 : ha_St} (h2 : S = S1) : W p l e R s m args below meth c H locs cells slots (MQ below (va_Qv (fun (_ : Unit) => True) (fun _ => ha_H D cs ad kd ln N S1) (ha_A ad N)) args s cells slots (ha_A ad N)) (F0 m pc ls []) := by
  subst h2
  exact W.vret hexec hb hr (fun t ht hW => ⟨⟨(), rfl, trivial, by rw [ht]; exact hP, hD⟩, hS.F ht⟩) hS.2.2 hdg hlocks
end HAC
