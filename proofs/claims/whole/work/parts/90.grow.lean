/-! WORLDS THAT GROW: what constructors need -/
/-- the references of the names in N stay in N; outside N the store is blank -/
def gw_C (N : List Nat) (S : ha_St) : Prop := ∀ n, n ∈ N → (∀ k r, ha_gR S n k = some r → r ∈ N) ∧ ∀ j r, ha_gB S n j = some r → r ∈ N
def gw_B (N : List Nat) (S : ha_St) : Prop := ∀ n, n ∉ N → (∀ k, ha_gI S n k = 0) ∧ (∀ k, ha_gJ S n k = 0) ∧ (∀ k, ha_gR S n k = none) ∧ ha_gA S n = (fun _ => 0) ∧ ha_gB S n = (fun _ => none)
section GWP
variable {cs : Nat → ClassId} {ad kd ln : Nat → Nat} {N : List Nat} {S : ha_St} {n q : Nat}
theorem gw_Ca (hC : gw_C N S) (hB : gw_B N S) (L : List Nat) : gw_C (N ++ L) S := fun x hx => by
  by_cases h : x ∈ N
  · exact ⟨fun k r hr => List.mem_append_left _ ((hC x h).1 k r hr), fun j r hr => List.mem_append_left _ ((hC x h).2 j r hr)⟩
  · have b := hB x h
    exact ⟨fun k r hr => (by rw [b.2.2.1 k] at hr; cases hr), fun j r hr => (by rw [b.2.2.2.2] at hr; cases hr)⟩
theorem gw_Ba (hB : gw_B N S) (L : List Nat) : gw_B (N ++ L) S := fun x hx => hB x (fun h => hx (List.mem_append_left _ h))
theorem gw_CR (hC : gw_C N S) {o k r : Nat} (hr : r ∈ N) : gw_C N (ha_sR S o k (some r)) := fun x hx => ⟨fun j t ht => by
  rw [st_RR] at ht
  by_cases c : x = o ∧ j = k
  · rw [if_pos c] at ht; cases ht; exact hr
  · rw [if_neg c] at ht; exact (hC x hx).1 j t ht, fun j t ht => (hC x hx).2 j t ht⟩
theorem gw_BR (hB : gw_B N S) {o k : Nat} {v : Option Nat} (ho : o ∈ N) : gw_B N (ha_sR S o k v) := fun x hx => by
  have b := hB x hx
  refine ⟨b.1, b.2.1, fun j => ?_, b.2.2.2.1, b.2.2.2.2⟩
  rw [st_RR, if_neg (fun c => hx (by rw [c.1]; exact ho))]
  exact b.2.2.1 j
theorem gw_CI (hC : gw_C N S) {o k : Nat} {v : Int32} : gw_C N (ha_sI S o k v) := fun x hx => hC x hx
theorem gw_BI (hB : gw_B N S) {o k : Nat} {v : Int32} (ho : o ∈ N) : gw_B N (ha_sI S o k v) := fun x hx => by
  have b := hB x hx
  refine ⟨fun j => ?_, b.2.1, b.2.2.1, b.2.2.2.1, b.2.2.2.2⟩
  rw [st_II, if_neg (fun c => hx (by rw [c.1]; exact ho))]
  exact b.1 j
theorem gw_CA (hC : gw_C N S) {o : Nat} {f : Nat → Int32} : gw_C N (ha_sA S o f) := fun x hx => hC x hx
theorem gw_BA (hB : gw_B N S) {o : Nat} {f : Nat → Int32} (ho : o ∈ N) : gw_B N (ha_sA S o f) := fun x hx => by
  have b := hB x hx
  refine ⟨b.1, b.2.1, b.2.2.1, ?_, b.2.2.2.2⟩
  rw [st_AA, if_neg (fun c => hx (by rw [c]; exact ho))]
  exact b.2.2.2.1
theorem gw_CB (hC : gw_C N S) {o i r : Nat} (ho : o ∈ N) (hr : r ∈ N) : gw_C N (ha_sB S o (va_up (ha_gB S o) i (some r))) := fun x hx => ⟨fun j t ht => (hC x hx).1 j t ht, fun j t ht => by
  rw [st_BB] at ht
  by_cases c : x = o
  · rw [if_pos c] at ht
    by_cases d : j = i
    · rw [d, va_up_self] at ht; cases ht; exact hr
    · rw [va_up_ne _ _ d] at ht; exact (hC o ho).2 j t ht
  · rw [if_neg c] at ht; exact (hC x hx).2 j t ht⟩
theorem gw_BB (hB : gw_B N S) {o : Nat} {f : Nat → Option Nat} (ho : o ∈ N) : gw_B N (ha_sB S o f) := fun x hx => by
  have b := hB x hx
  refine ⟨b.1, b.2.1, b.2.2.1, b.2.2.2.1, ?_⟩
  rw [st_BB, if_neg (fun c => hx (by rw [c]; exact ho))]
  exact b.2.2.2.2
theorem gw_cell {x : Nat} {ad1 : Nat → Nat} (h1 : ∀ y, y ∈ N → ad1 y = ad y) (hx : x ∈ N) (hC : gw_C N S) : ha_cell cs ad1 kd ln S x = ha_cell cs ad kd ln S x := by
  have hv : ∀ ci, ha_val ad1 S x ci = ha_val ad S x ci := fun ci => funext fun k => by
    unfold ha_val
    cases hr : ha_gR S x k with
    | none => rfl
    | some r => rw [Option.map_some, Option.map_some, h1 r ((hC x hx).1 k r hr)]
  have hb : (fun j => (ha_gB S x j).map ad1) = fun j => (ha_gB S x j).map ad := funext fun j => by
    cases hr : ha_gB S x j with
    | none => rfl
    | some r => rw [Option.map_some, Option.map_some, h1 r ((hC x hx).2 j r hr)]
  unfold ha_cell
  rw [hv, hb]
theorem gw_wl0 {ad1 : Nat → Nat} (h1 : ∀ y, y ∈ N → ad1 y = ad y) (hC : gw_C N S) : ha_wl cs ad1 kd ln N S = ha_wl cs ad kd ln N S := by
  unfold ha_wl
  apply List.map_congr_left
  intro x hx
  rw [h1 x hx, gw_cell h1 hx hC]
theorem gw_wl (hn : n ∉ N) (hC : gw_C N S) : ha_wl cs (va_up ad n q) kd ln (N ++ [n]) S = ha_wl cs ad kd ln N S ++ [(q, ha_cell cs (va_up ad n q) kd ln S n)] := by
  have h1 : ∀ y, y ∈ N → va_up ad n q y = ad y := fun y hy => va_up_ne _ _ (fun h => hn (h ▸ hy))
  have h2 := gw_wl0 (cs := cs) (kd := kd) (ln := ln) h1 hC
  unfold ha_wl at h2 ⊢
  rw [List.map_append, h2]
  simp [va_up_self]
theorem gw_upN (hn : n ∉ N) : ∀ y, y ∈ N → va_up ad n q y = ad y := fun y hy => va_up_ne _ _ (fun h => hn (h ▸ hy))
end GWP
theorem ra_fc {U : State} {cA : ClassId} {ty : FieldType} (h : va_RA U cA ty) : U.vm.findClass ("[" ++ ty.toString) = some cA := by
  cases ty <;> first | exact h | exact h.choose_spec.choose_spec.2.2.2
def gw_G (D : va_G) (cs : Nat → ClassId) (ad kd ln : Nat → Nat) (N : List Nat) (S : ha_St) (z0 : Nat) (H0 H : Heap) (locs : List Loc) : Prop := va_P D vwCl (ha_wl cs ad kd ln N S) H ∧ va_D (fun q => z0 ≤ q) (ha_wl cs ad kd ln N S) ∧ va_S (fun q => z0 ≤ q) H0 H locs ∧ gw_C N S ∧ gw_B N S ∧ z0 ≤ H0.size
/-- a final field -/
def ha_FpF (s : State) (args : Array Value) (own : String) (index ci k code : Nat) (ty : FieldType) : Prop := ∃ (C : String) (T : u_T) (Nf : Nat) (Ts : List Cond) (ty0 : Nat → FieldType), vwCl[ci]? = some (C, T, Nf) ∧ ci < 100 ∧ k < Nf ∧ ha_nf ci = Nf ∧ ha_fc ci k = code ∧ (∀ w ∈ Ts, w.before args s = true) ∧ (∀ w ∈ u_ws C T Nf, w ∈ Ts) ∧ (Cond.fieldLink own index (T k).1 (T k).2.1 (T k).2.2.1).before args s = true ∧ (∀ k, k < Nf → parseFieldDescriptor (T k).2.2.1 = some (ty0 k)) ∧ (∀ a, a < Nf → ∀ b, b < Nf → a ≠ b → (T a).2.1 ≠ (T b).2.1) ∧ (T k).2.2.2 = true ∧ (T k).1 = own ∧ parseFieldDescriptor (T k).2.2.1 = some ty
section GWR
variable {p : Program} {l : Launch} {e : Env} {R : Room} {s : State} {m : MethodId} {args : Array Value} {below : List Frame} {meth : Method} {c : Code} {H : Heap} {locs : List Loc} {cells slots : Nat} {Q : State → Prop}
variable {cc : ByteArray} {pc : Nat} {ls : Array Slot} {rest : List Value} {D : va_G} {H0 : Heap} {z0 : Nat}
variable {cs : Nat → ClassId} {ad kd ln : Nat → Nat} {N : List Nat} {S : ha_St} {own : String} {index ci k n : Nat}
theorem gw_cid {t0 : Nat} {c0 cA : ClassId} {ty : FieldType} (hK : va_K D vwCl (ha_tys cs) s) (ht : (ha_tys cs)[t0]? = some (c0, ty)) (hK1 : va_K D vwCl (ha_tys cs ++ [(cA, ty)]) s) : cA = c0 := by
  have h1 := ra_fc (hK.2 t0 _ ht).2
  have h2 := ra_fc (hK1.2 5 (cA, ty) rfl).2
  exact Option.some.inj (h2.symm.trans h1)
theorem gw_newi (hexec : p.tables.exec = Jvm.exec) (hb : c.code = cc) (harr : (Cond.arrayClass .int).before args s = true) (hK : va_K D vwCl (ha_tys cs) s) (G : gw_G D cs ad kd ln N S z0 H0 H locs) {n L : Nat} (hn : n ∉ N) (hkd : kd n = 100) (hln : ln n = L) {v : Int32} (hv : ¬ v < 0) (hvL : v.toNatClampNeg = L) (hbytes : L * componentBytes .int ≤ 536870912) (hcells : cells + 1 ≤ R.cells) (hslots : slots + L ≤ R.slots) (hdg : decode cc pc = .ok (.newarray .int, 2))
    (kk : ∀ (ad1 : Nat → Nat) (H1 : Heap), (∀ y, y ∈ N → ad1 y = ad y) → gw_G D cs ad1 kd ln (N ++ [n]) S z0 H0 H1 locs → W p l e R s m args below meth c H1 locs (cells + 1) (slots + L) Q (F0 m (pc + 2) ls (.ref (ad1 n) :: rest))) : W p l e R s m args below meth c H locs cells slots Q (F0 m pc ls (.int v :: rest)) := by
  obtain ⟨hP, hD, hS, hC, hB, hz⟩ := G
  have ha : ∀ cA : ClassId, vp_cell cA (L, .inl (fun _ => 0)) = arrV cA L (fun _ => defaultValue .int) := fun cA => vp_cell_i cA L _
  refine va_newa (atype := .int) (ty := .int) (n := v) (N' := L) (a0 := (L, .inl (fun _ => 0))) hexec hb harr rfl hK hP hD hS (fun q h => Nat.le_trans hz h) ha hv hvL hbytes hcells hslots hdg (fun q cA H1 hK1 hP1 hD1 hS1 => ?_)
  have hc : cA = cs 100 := gw_cid (t0 := 0) hK rfl hK1
  subst hc
  have e : ha_wl cs (va_up ad n q) kd ln (N ++ [n]) S = ha_wl cs ad kd ln N S ++ [(q, .inl (cs 100, L, .inl (fun _ => 0)))] := by
    rw [gw_wl hn hC, ha_cell_i hkd (by omega) (by omega), hln, (hB n hn).2.2.2.1]
  rw [← e] at hP1 hD1
  have w := kk (va_up ad n q) H1 (gw_upN hn) ⟨hP1, hD1, hS1, gw_Ca hC hB _, gw_Ba hB _, hz⟩
  rw [va_up_self] at w
  exact w
theorem gw_newb (hexec : p.tables.exec = Jvm.exec) (hb : c.code = cc) (harr : (Cond.arrayClass .byte).before args s = true) (hK : va_K D vwCl (ha_tys cs) s) (G : gw_G D cs ad kd ln N S z0 H0 H locs) {n L : Nat} (hn : n ∉ N) (hkd : kd n = 101) (hln : ln n = L) {v : Int32} (hv : ¬ v < 0) (hvL : v.toNatClampNeg = L) (hbytes : L * componentBytes .byte ≤ 536870912) (hcells : cells + 1 ≤ R.cells) (hslots : slots + L ≤ R.slots) (hdg : decode cc pc = .ok (.newarray .byte, 2))
    (kk : ∀ (ad1 : Nat → Nat) (H1 : Heap), (∀ y, y ∈ N → ad1 y = ad y) → gw_G D cs ad1 kd ln (N ++ [n]) S z0 H0 H1 locs → W p l e R s m args below meth c H1 locs (cells + 1) (slots + L) Q (F0 m (pc + 2) ls (.ref (ad1 n) :: rest))) : W p l e R s m args below meth c H locs cells slots Q (F0 m pc ls (.int v :: rest)) := by
  obtain ⟨hP, hD, hS, hC, hB, hz⟩ := G
  have ha : ∀ cA : ClassId, vp_cell cA (L, .inl (fun _ => 0)) = arrV cA L (fun _ => defaultValue .byte) := fun cA => vp_cell_i cA L _
  refine va_newa (atype := .byte) (ty := .byte) (n := v) (N' := L) (a0 := (L, .inl (fun _ => 0))) hexec hb harr rfl hK hP hD hS (fun q h => Nat.le_trans hz h) ha hv hvL hbytes hcells hslots hdg (fun q cA H1 hK1 hP1 hD1 hS1 => ?_)
  have hc : cA = cs 101 := gw_cid (t0 := 1) hK rfl hK1
  subst hc
  have e : ha_wl cs (va_up ad n q) kd ln (N ++ [n]) S = ha_wl cs ad kd ln N S ++ [(q, .inl (cs 101, L, .inl (fun _ => 0)))] := by
    rw [gw_wl hn hC, ha_cell_i hkd (by omega) (by omega), hln, (hB n hn).2.2.2.1]
  rw [← e] at hP1 hD1
  have w := kk (va_up ad n q) H1 (gw_upN hn) ⟨hP1, hD1, hS1, gw_Ca hC hB _, gw_Ba hB _, hz⟩
  rw [va_up_self] at w
  exact w
theorem gw_newq {t0 kq : Nat} {C : String} (hexec : p.tables.exec = Jvm.exec) (hb : c.code = cc) (hown : s.vm.findClass own = some m.cls) (hclink : (Cond.classLink own index C).before args s = true) (hover : va_AO C s) (hK : va_K D vwCl (ha_tys cs) s) (G : gw_G D cs ad kd ln N S z0 H0 H locs) {n L : Nat} (hn : n ∉ N) (hkd : kd n = kq) (h1 : ¬ kq < 102) (ht : (ha_tys cs)[t0]? = some (cs kq, .object C)) (hln : ln n = L) {v : Int32} (hv : ¬ v < 0) (hvL : v.toNatClampNeg = L) (hbytes : L * 4 ≤ 536870912) (hcells : cells + 1 ≤ R.cells) (hslots : slots + L ≤ R.slots) (hdg : decode cc pc = .ok (.anewarray index, 3))
    (kk : ∀ (ad1 : Nat → Nat) (H1 : Heap), (∀ y, y ∈ N → ad1 y = ad y) → gw_G D cs ad1 kd ln (N ++ [n]) S z0 H0 H1 locs → W p l e R s m args below meth c H1 locs (cells + 1) (slots + L) Q (F0 m (pc + 3) ls (.ref (ad1 n) :: rest))) : W p l e R s m args below meth c H locs cells slots Q (F0 m pc ls (.int v :: rest)) := by
  obtain ⟨hP, hD, hS, hC, hB, hz⟩ := G
  refine va_newq hexec hb hown hclink hover hK hP hD hS (fun q h => Nat.le_trans hz h) hv hvL hbytes hcells hslots hdg (fun q cA H1 hK1 hP1 hD1 hS1 => ?_)
  have hc : cA = cs kq := gw_cid (t0 := t0) hK ht hK1
  subst hc
  have e : ha_wl cs (va_up ad n q) kd ln (N ++ [n]) S = ha_wl cs ad kd ln N S ++ [(q, .inl (cs kq, L, .inr (.inr (.inr (.inr (fun _ => none))))))] := by
    rw [gw_wl hn hC, ha_cell_q hkd (by omega) h1, hln, (hB n hn).2.2.2.2]
    rfl
  rw [← e] at hP1 hD1
  have w := kk (va_up ad n q) H1 (gw_upN hn) ⟨hP1, hD1, hS1, gw_Ca hC hB _, gw_Ba hB _, hz⟩
  rw [va_up_self] at w
  exact w
theorem gw_new {C : String} {T : u_T} {Nf : Nat} {Ts : List Cond} (hexec : p.tables.exec = Jvm.exec) (hb : c.code = cc) (hts : ∀ w ∈ Ts, w.before args s = true) (hin : ∀ w ∈ u_ws C T Nf, w ∈ Ts) (ty : Nat → FieldType) (hty : ∀ k, k < Nf → parseFieldDescriptor (T k).2.2.1 = some (ty k)) (hown : s.vm.findClass own = some m.cls) (hcl : (Cond.classLink own index C).before args s = true) (hinst : (Cond.instantiable C Nf).before args s = true) (hini : (Cond.initialized C).before args s = true)
    (hK : va_K D vwCl (ha_tys cs) s) (G : gw_G D cs ad kd ln N S z0 H0 H locs) {n : Nat} (hn : n ∉ N) (hkd : kd n = ci) (hci : ci < 100) (hc : vwCl[ci]? = some (C, T, Nf)) (hnf : ha_nf ci = Nf) (hdf : ∀ j, j < Nf → defaultValue (ty j) = (if ha_fc ci j = 0 then .int 0 else if ha_fc ci j = 1 then .null else .long 0)) (hcells : cells + 1 ≤ R.cells) (hslots : slots + Nf ≤ R.slots) (hdg : decode cc pc = .ok (.new index, 3))
    (kk : ∀ (ad1 : Nat → Nat) (H1 : Heap), (∀ y, y ∈ N → ad1 y = ad y) → gw_G D cs ad1 kd ln (N ++ [n]) S z0 H0 H1 locs → W p l e R s m args below meth c H1 locs (cells + 1) (slots + Nf) Q (F0 m (pc + 3) ls (.ref (ad1 n) :: rest))) : W p l e R s m args below meth c H locs cells slots Q (F0 m pc ls rest) := by
  obtain ⟨hP, hD, hS, hC, hB, hz⟩ := G
  have b := hB n hn
  refine va_new (ci := ci) (fs := (List.range Nf).map (fun j => if ha_fc ci j = 0 then .int 0 else if ha_fc ci j = 1 then .null else .long 0)) hexec hb hts hin ty hty hown hcl hinst hini hK hP hD hS (fun q h => Nat.le_trans hz h) hc (fun j hj => by rw [hdf j hj]; unfold vp_V; simp [hj]) hcells hslots hdg (fun q H1 hP1 hD1 hS1 => ?_)
  have e : ha_wl cs (va_up ad n q) kd ln (N ++ [n]) S = ha_wl cs ad kd ln N S ++ [(q, .inr (ci, (List.range Nf).map (fun j => if ha_fc ci j = 0 then .int 0 else if ha_fc ci j = 1 then .null else .long 0)))] := by
    rw [gw_wl hn hC, ha_cell_o hkd hci, hnf]
    have hv : ha_val (va_up ad n q) S n ci = fun j => if ha_fc ci j = 0 then .int 0 else if ha_fc ci j = 1 then .null else .long 0 := funext fun j => by
      unfold ha_val
      rw [b.1 j, b.2.1 j, b.2.2.1 j]
      rfl
    rw [hv]
  rw [← e] at hP1 hD1
  have w := kk (va_up ad n q) H1 (gw_upN hn) ⟨hP1, hD1, hS1, gw_Ca hC hB _, gw_Ba hB _, hz⟩
  rw [va_up_self] at w
  exact w
theorem gw_putrF {r h q : Nat} {ty : FieldType} (hexec : p.tables.exec = Jvm.exec) (hb : c.code = cc) (hown : s.vm.findClass own = some m.cls) (hin2 : meth.name = "<init>") (hK : va_K D vwCl (ha_tys cs) s) (G : gw_G D cs ad kd ln N S z0 H0 H locs) (hF : ha_FpF s args own index ci k 1 ty) (hn : n ∈ N) (hkd : kd n = ci) (hrn : r ∈ N) (eh : ad n = h) (eq : ad r = q) (hnr : narrow ty (.ref q) = .ref q) (hft : fits ty (.ref q) = true) (hdg : decode cc pc = .ok (.putfield index, 3))
    (kk : ∀ (H1 : Heap) (locs1 : List Loc), gw_G D cs ad kd ln N (ha_sR S n k (some r)) z0 H0 H1 locs1 → W p l e R s m args below meth c H1 locs1 cells slots Q (F0 m (pc + 3) ls rest)) : W p l e R s m args below meth c H locs cells slots Q (F0 m pc ls (.ref q :: .ref h :: rest)) := by
  subst eh; subst eq
  obtain ⟨hP, hD, hS, hC, hB, hz⟩ := G
  obtain ⟨C, T, Nf, Ts, ty0, hc, hci, hk, hnf, hfc, hts, hin, hlink, hty, hnm, hfin, hdecl, hd⟩ := hF
  obtain ⟨j, hj⟩ := ha_wl_get (cs := cs) (ad := ad) (kd := kd) (ln := ln) (S := S) hn
  rw [ha_cell_o hkd hci, hnf] at hj
  refine va_putF hexec hb hts hin ty0 hty hnm hown hK hP hD hS j hj hc k hk hlink (fun _ h => h) hfin hin2 hdecl hd hnr hft (by simpa using hk) hdg fun H1 locs1 hP1 hD1 hS1 => ?_
  have e : (ha_wl cs ad kd ln N S).set j (ad n, .inr (ci, ((List.range Nf).map (ha_val ad S n ci)).set k (.ref (ad r)))) = ha_wl cs ad kd ln N (ha_sR S n k (some r)) := by
    refine ha_wl_set hD hn hj ?_ (fun x hx => ha_cell_eq x (fun _ => rfl) (fun _ => rfl) (fun j => by simp [ha_gR, ha_sR, hx]) rfl rfl)
    rw [ha_cell_o hkd hci, hnf, ha_vals hk (S1 := ha_sR S n k (some r)) (by simp [ha_val, hfc, ha_gR, ha_sR, va_rf]) (fun j hj => by simp [ha_val, ha_gI, ha_gR, ha_gJ, ha_sR, hj])]
  rw [e] at hP1 hD1
  exact kk H1 locs1 ⟨hP1, hD1, hS1, gw_CR hC hrn, gw_BR hB hn, hz⟩
theorem gw_putr {r h q : Nat} {ty : FieldType} (hexec : p.tables.exec = Jvm.exec) (hb : c.code = cc) (hown : s.vm.findClass own = some m.cls) (hK : va_K D vwCl (ha_tys cs) s) (G : gw_G D cs ad kd ln N S z0 H0 H locs) (hF : ha_Fp s args own index ci k 1 ty) (hn : n ∈ N) (hkd : kd n = ci) (hrn : r ∈ N) (eh : ad n = h) (eq : ad r = q) (hnr : narrow ty (.ref q) = .ref q) (hft : fits ty (.ref q) = true) (hdg : decode cc pc = .ok (.putfield index, 3))
    (kk : ∀ (H1 : Heap) (locs1 : List Loc), gw_G D cs ad kd ln N (ha_sR S n k (some r)) z0 H0 H1 locs1 → W p l e R s m args below meth c H1 locs1 cells slots Q (F0 m (pc + 3) ls rest)) : W p l e R s m args below meth c H locs cells slots Q (F0 m pc ls (.ref q :: .ref h :: rest)) := by
  subst eh; subst eq
  obtain ⟨hP, hD, hS, hC, hB, hz⟩ := G
  obtain ⟨C, T, Nf, Ts, ty0, hc, hci, hk, hnf, hfc, hts, hin, hlink, hty, hnm, hfin, hd⟩ := hF
  obtain ⟨j, hj⟩ := ha_wl_get (cs := cs) (ad := ad) (kd := kd) (ln := ln) (S := S) hn
  rw [ha_cell_o hkd hci, hnf] at hj
  refine va_put hexec hb hts hin ty0 hty hnm hown hK hP hD hS j hj hc k hk hlink (fun _ h => h) hfin hd hnr hft (by simpa using hk) hdg fun H1 locs1 hP1 hD1 hS1 => ?_
  have e : (ha_wl cs ad kd ln N S).set j (ad n, .inr (ci, ((List.range Nf).map (ha_val ad S n ci)).set k (.ref (ad r)))) = ha_wl cs ad kd ln N (ha_sR S n k (some r)) := by
    refine ha_wl_set hD hn hj ?_ (fun x hx => ha_cell_eq x (fun _ => rfl) (fun _ => rfl) (fun j => by simp [ha_gR, ha_sR, hx]) rfl rfl)
    rw [ha_cell_o hkd hci, hnf, ha_vals hk (S1 := ha_sR S n k (some r)) (by simp [ha_val, hfc, ha_gR, ha_sR, va_rf]) (fun j hj => by simp [ha_val, ha_gI, ha_gR, ha_gJ, ha_sR, hj])]
  rw [e] at hP1 hD1
  exact kk H1 locs1 ⟨hP1, hD1, hS1, gw_CR hC hrn, gw_BR hB hn, hz⟩
theorem gw_puti {h : Nat} {v : Int32} (hexec : p.tables.exec = Jvm.exec) (hb : c.code = cc) (hown : s.vm.findClass own = some m.cls) (hK : va_K D vwCl (ha_tys cs) s) (G : gw_G D cs ad kd ln N S z0 H0 H locs) (hF : ha_Fp s args own index ci k 0 .int) (hn : n ∈ N) (hkd : kd n = ci) (eh : ad n = h) (hdg : decode cc pc = .ok (.putfield index, 3))
    (kk : ∀ (H1 : Heap) (locs1 : List Loc), gw_G D cs ad kd ln N (ha_sI S n k v) z0 H0 H1 locs1 → W p l e R s m args below meth c H1 locs1 cells slots Q (F0 m (pc + 3) ls rest)) : W p l e R s m args below meth c H locs cells slots Q (F0 m pc ls (.int v :: .ref h :: rest)) := by
  subst eh
  obtain ⟨hP, hD, hS, hC, hB, hz⟩ := G
  obtain ⟨C, T, Nf, Ts, ty0, hc, hci, hk, hnf, hfc, hts, hin, hlink, hty, hnm, hfin, hd⟩ := hF
  obtain ⟨j, hj⟩ := ha_wl_get (cs := cs) (ad := ad) (kd := kd) (ln := ln) (S := S) hn
  rw [ha_cell_o hkd hci, hnf] at hj
  refine va_put hexec hb hts hin ty0 hty hnm hown hK hP hD hS j hj hc k hk hlink (fun _ h => h) hfin hd (v := .int v) rfl rfl (by simpa using hk) hdg fun H1 locs1 hP1 hD1 hS1 => ?_
  have e : (ha_wl cs ad kd ln N S).set j (ad n, .inr (ci, ((List.range Nf).map (ha_val ad S n ci)).set k (.int v))) = ha_wl cs ad kd ln N (ha_sI S n k v) := by
    refine ha_wl_set hD hn hj ?_ (fun x hx => ha_cell_eq x (fun j => by simp [ha_gI, ha_sI, hx]) (fun _ => rfl) (fun _ => rfl) rfl rfl)
    rw [ha_cell_o hkd hci, hnf, ha_vals hk (S1 := ha_sI S n k v) (by simp [ha_val, hfc, ha_gI, ha_sI]) (fun j hj => by simp [ha_val, ha_gI, ha_gR, ha_gJ, ha_sI, hj])]
  rw [e] at hP1 hD1
  exact kk H1 locs1 ⟨hP1, hD1, hS1, gw_CI hC, gw_BI hB hn, hz⟩
theorem gw_getr {r h : Nat} (hexec : p.tables.exec = Jvm.exec) (hb : c.code = cc) (hown : s.vm.findClass own = some m.cls) (hK : va_K D vwCl (ha_tys cs) s) (G : gw_G D cs ad kd ln N S z0 H0 H locs) (hF : ha_Fk s args own index ci k 1) (hn : n ∈ N) (hkd : kd n = ci) (eh : ad n = h) (hr : ha_gR S n k = some r) (hdg : decode cc pc = .ok (.getfield index, 3))
    (kk : W p l e R s m args below meth c H locs cells slots Q (F0 m (pc + 3) ls (.ref (ad r) :: rest))) : W p l e R s m args below meth c H locs cells slots Q (F0 m pc ls (.ref h :: rest)) := by
  subst eh
  obtain ⟨C, T, Nf, Ts, hc, hci, hk, hnf, hfc, hts, hin, hlink⟩ := hF
  obtain ⟨j, hj⟩ := ha_wl_get (cs := cs) (ad := ad) (kd := kd) (ln := ln) (S := S) hn
  rw [ha_cell_o hkd hci, hnf] at hj
  refine va_get hexec hb hts hin hown hK G.1 j hj hc k hk hlink (fun _ h => h) (v := .ref (ad r)) ?_ hdg kk
  simp [ha_val, hfc, hk, hr, va_rf]
theorem gw_iast {i x : Int32} {q : Nat} (hexec : p.tables.exec = Jvm.exec) (hb : c.code = cc) (hK : va_K D vwCl (ha_tys cs) s) (G : gw_G D cs ad kd ln N S z0 H0 H locs) (hn : n ∈ N) (hkd : kd n = 100) (eq : ad n = q) (hin : vp_in i (ln n)) (hdg : decode cc pc = .ok (.iastore, 1))
    (kk : ∀ (H1 : Heap) (locs1 : List Loc), gw_G D cs ad kd ln N (ha_sA S n (upd (ha_gA S n) i.toNatClampNeg x)) z0 H0 H1 locs1 → W p l e R s m args below meth c H1 locs1 cells slots Q (F0 m (pc + 1) ls rest)) : W p l e R s m args below meth c H locs cells slots Q (F0 m pc ls (.int x :: .int i :: .ref q :: rest)) := by
  subst eq
  obtain ⟨hP, hD, hS, hC, hB, hz⟩ := G
  obtain ⟨j, hj⟩ := ha_wl_get (cs := cs) (ad := ad) (kd := kd) (ln := ln) (S := S) hn
  rw [ha_cell_i hkd (by omega) (by omega)] at hj
  refine va_iast hexec hb hK hP hD hS j 0 hj rfl hin hdg fun H1 locs1 hP1 hD1 hS1 => ?_
  rw [ha_sAq hD hn hj hkd (by omega) (by omega)] at hP1 hD1
  exact kk H1 locs1 ⟨hP1, hD1, hS1, gw_CA hC, gw_BA hB hn, hz⟩
theorem gw_aast {t0 kq r q v : Nat} {C : String} {T : u_T} {Nf : Nat} {i : Int32} (hexec : p.tables.exec = Jvm.exec) (hb : c.code = cc) (hK : va_K D vwCl (ha_tys cs) s) (G : gw_G D cs ad kd ln N S z0 H0 H locs) (hn : n ∈ N) (hkd : kd n = kq) (h1 : ¬ kq < 102) (ht : (ha_tys cs)[t0]? = some (cs kq, .object C)) (hrn : r ∈ N) (hr : kd r = ci) (hci : ci < 100) (hc : vwCl[ci]? = some (C, T, Nf)) (eq : ad n = q) (ev : ad r = v) (hin : vp_in i (ln n)) (hdg : decode cc pc = .ok (.aastore, 1))
    (kk : ∀ (H1 : Heap) (locs1 : List Loc), gw_G D cs ad kd ln N (ha_sB S n (va_up (ha_gB S n) i.toNatClampNeg (some r))) z0 H0 H1 locs1 → W p l e R s m args below meth c H1 locs1 cells slots Q (F0 m (pc + 1) ls rest)) : W p l e R s m args below meth c H locs cells slots Q (F0 m pc ls (.ref v :: .int i :: .ref q :: rest)) := by
  subst eq; subst ev
  obtain ⟨hP, hD, hS, hC, hB, hz⟩ := G
  obtain ⟨j, hj⟩ := ha_wl_get (cs := cs) (ad := ad) (kd := kd) (ln := ln) (S := S) hn
  rw [ha_cell_q hkd (by omega) h1] at hj
  obtain ⟨j0, hj0⟩ := ha_wl_get (cs := cs) (ad := ad) (kd := kd) (ln := ln) (S := S) hrn
  rw [ha_cell_o hr hci] at hj0
  refine va_astq hexec hb hK hP hD hS j t0 j0 ci hj (r := (C, T, Nf)) ht hj0 hc hin hdg fun H1 locs1 hP1 hD1 hS1 => ?_
  have e : (ha_wl cs ad kd ln N S).set j (ad n, .inl (cs kq, ln n, .inr (.inr (.inr (.inr (va_up (fun j => (ha_gB S n j).map ad) i.toNatClampNeg (some (ad r)))))))) = ha_wl cs ad kd ln N (ha_sB S n (va_up (ha_gB S n) i.toNatClampNeg (some r))) := by
    refine ha_wl_set hD hn hj ?_ (fun x hx => ha_cell_eq x (fun _ => rfl) (fun _ => rfl) (fun _ => rfl) rfl (by simp [ha_gB, ha_sB, hx]))
    rw [ha_cell_q hkd (by omega) h1]
    have : (fun j => (ha_gB (ha_sB S n (va_up (ha_gB S n) i.toNatClampNeg (some r))) n j).map ad) = va_up (fun j => (ha_gB S n j).map ad) i.toNatClampNeg (some (ad r)) := by
      funext j
      by_cases hji : j = i.toNatClampNeg
      · simp [ha_gB, ha_sB, va_up, hji]
      · simp [ha_gB, ha_sB, va_up, hji]
    rw [this]
  rw [e] at hP1 hD1
  exact kk H1 locs1 ⟨hP1, hD1, hS1, gw_CB hC hn hrn, gw_BB hB hn, hz⟩
end GWR
