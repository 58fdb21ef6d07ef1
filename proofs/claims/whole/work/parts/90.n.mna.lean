/-! OWN ROW for 'multianewarray' of two dimensions: the outer array, then the inner ones, each laid into it at once -/
/-- the state behind i inner arrays -/
def ny_F (T : State) (cA cI : ClassId) (N K : Nat) (v : Value) : Nat → State
  | 0 => T.pushCell (arrV cA N (fun _ => .null))
  | i + 1 => ((ny_F T cA cI N K v i).pushCell (arrV cI K (fun _ => v))).setCell T.heap.size (arrV cA N (fun j => va_rf (if j < i + 1 then some (T.heap.size + 1 + j) else none)))
theorem ny_F_vm (T : State) (cA cI : ClassId) (N K : Nat) (v : Value) : ∀ i : Nat, (ny_F T cA cI N K v i).vm = T.vm
  | 0 => rfl
  | i + 1 => ny_F_vm T cA cI N K v i
theorem ny_F_size (T : State) (cA cI : ClassId) (N K : Nat) (v : Value) : ∀ i : Nat, (ny_F T cA cI N K v i).heap.size = T.heap.size + 1 + i
  | 0 => by
    show (T.heap.push _).size = _
    rw [Array.size_push]
  | i + 1 => by
    show (((ny_F T cA cI N K v i).heap.push _).setIfInBounds _ _).size = _
    rw [Array.size_setIfInBounds, Array.size_push, ny_F_size T cA cI N K v i]
    omega
theorem ny_F_old (T : State) (cA cI : ClassId) (N K : Nat) (v : Value) {x : Nat} (hx : x < T.heap.size) : ∀ i : Nat, (ny_F T cA cI N K v i).heap[x]? = T.heap[x]?
  | 0 => State.heap_pushCell_of_lt _ _ hx
  | i + 1 => by
    have h0 := ny_F_size T cA cI N K v i
    have hlt : x < (ny_F T cA cI N K v i).heap.size := by omega
    have hne : T.heap.size ≠ x := by omega
    have h1 : ((ny_F T cA cI N K v i).pushCell (arrV cI K (fun _ => v))).heap[x]? = (ny_F T cA cI N K v i).heap[x]? := State.heap_pushCell_of_lt _ _ hlt
    exact (State.heap_setCell_other (a := T.heap.size) (b := x) hne).trans (h1.trans (ny_F_old T cA cI N K v hx i))
theorem ny_F_out (T : State) (cA cI : ClassId) (N K : Nat) (v : Value) : ∀ i : Nat, (ny_F T cA cI N K v i).heap[T.heap.size]? = some (arrV cA N (fun j => va_rf (if j < i then some (T.heap.size + 1 + j) else none)))
  | 0 => by
    have h : (ny_F T cA cI N K v 0).heap[T.heap.size]? = some (arrV cA N (fun _ => .null)) := State.heap_pushCell_size _ _
    rw [h]
    refine congrArg some (congrArg (arrV cA N) (funext fun j => ?_))
    rw [if_neg (Nat.not_lt_zero j)]
    rfl
  | i + 1 => by
    have h0 := ny_F_size T cA cI N K v i
    have hlt : T.heap.size < (ny_F T cA cI N K v i).heap.size := by omega
    have h1 : ((ny_F T cA cI N K v i).pushCell (arrV cI K (fun _ => v))).heap[T.heap.size]? = (ny_F T cA cI N K v i).heap[T.heap.size]? := State.heap_pushCell_of_lt _ _ hlt
    exact State.heap_setCell_self (h1.trans (ny_F_out T cA cI N K v i))
theorem ny_F_row (T : State) (cA cI : ClassId) (N K : Nat) (v : Value) : ∀ i j : Nat, j < i → (ny_F T cA cI N K v i).heap[T.heap.size + 1 + j]? = some (arrV cI K (fun _ => v))
  | 0, j, hj => absurd hj (Nat.not_lt_zero j)
  | i + 1, j, hj => by
    have h0 := ny_F_size T cA cI N K v i
    have hne : T.heap.size ≠ T.heap.size + 1 + j := by omega
    refine (State.heap_setCell_other (a := T.heap.size) (b := T.heap.size + 1 + j) hne).trans ?_
    by_cases e : j < i
    · have hlt : T.heap.size + 1 + j < (ny_F T cA cI N K v i).heap.size := by omega
      exact (State.heap_pushCell_of_lt _ _ hlt).trans (ny_F_row T cA cI N K v i j e)
    · obtain rfl : j = i := by omega
      rw [← h0]
      exact State.heap_pushCell_size _ _
theorem ny_upd (h0 i : Nat) : updV (fun j => va_rf (if j < i then some (h0 + 1 + j) else none)) i (.ref (h0 + 1 + i)) = fun j => va_rf (if j < i + 1 then some (h0 + 1 + j) else none) := by
  funext j
  by_cases e : j = i
  · subst e
    simp [updV, va_rf]
  · by_cases h : j < i
    · simp [updV, e, h, Nat.lt_succ_of_lt h]
    · simp [updV, e, h, show ¬ j < i + 1 by omega]
/-- an array class over arrays: what the word says -/
theorem ny_over {args : Array Value} {first s : State} {o : Option Outcome} {idx : List Nat} {t : FieldType} (h : (Cond.arrayOver (.array t)).holds args first o s idx = true) :
    ∃ (comp cA : ClassId) (kA : Class), s.vm.findClass (FieldType.array t).toString = some comp ∧ s.vm.classes[cA]? = some kA ∧ kA.kind = .array comp (.array t) ∧ s.vm.findClass ("[" ++ (FieldType.array t).toString) = some cA := by
  simp only [Cond.holds, Cond.value, beq_iff_eq] at h
  rcases hc : s.vm.findClass (FieldType.array t).toString with _ | comp
  · simp [hc] at h
  · simp only [hc, Option.bind_some, Option.bind_eq_some_iff, Option.map_eq_some_iff] at h
    obtain ⟨cA, hi, kA, hk, hb⟩ := h
    obtain ⟨hlt, hq, -⟩ := Array.findIdx?_eq_some_iff_getElem.mp hi
    obtain ⟨_, hkk⟩ := Array.getElem?_eq_some_iff.mp hk
    rw [hkk] at hq
    refine ⟨comp, cA, kA, rfl, hk, ?_⟩
    generalize kA.kind = kd at hb hq
    cases kd with
    | array c9 t9 =>
      simp only [Bool.and_eq_true, decide_eq_true_eq] at hb
      simp only [beq_iff_eq] at hq
      exact ⟨by rw [hq, hb.1], hb.2⟩
    | _ => simp at hb
section NYM
variable {p : Program} {l : Launch} {e : Env} {R : Room} {s : State} {m : MethodId} {args : Array Value} {below : List Frame} {meth : Method} {c : Code} {T : State} {locs : List Loc} {cells slots : Nat}
theorem ny_F_stand (X : Stand p l e R s m args below meth c T locs cells slots) (cA cI : ClassId) (N K : Nat) (v : Value) : ∀ i : Nat, Stand p l e R s m args below meth c (ny_F T cA cI N K v i) locs (cells + 1 + i) (slots + N + i * K)
  | 0 => by
    have h := X.pushed (arrV cA N (fun _ => .null))
    rw [arrV_size] at h
    rw [Nat.zero_mul]
    exact h
  | i + 1 => by
    have h0 := ny_F_size T cA cI N K v i
    have h1 := (ny_F_stand X cA cI N K v i).pushed (arrV cI K (fun _ => v))
    rw [arrV_size] at h1
    have hlt : T.heap.size < (ny_F T cA cI N K v i).heap.size := by omega
    have h2 : ((ny_F T cA cI N K v i).pushCell (arrV cI K (fun _ => v))).heap[T.heap.size]? = some (arrV cA N (fun j => va_rf (if j < i then some (T.heap.size + 1 + j) else none))) := (State.heap_pushCell_of_lt _ _ hlt).trans (ny_F_out T cA cI N K v i)
    have h3 := h1.stored h2 i (.ref (T.heap.size + 1 + i))
    rw [arrV_store, ny_upd] at h3
    have h4 := h3.forget (fun y hy => by
      rw [List.mem_singleton] at hy
      rw [hy]
      exact X.same.2.1)
    rw [Nat.succ_mul, ← Nat.add_assoc (slots + N)]
    exact h4
theorem ny_make1 {E : CtlPost} {d : Bool} {acts : List Action} {S : State} {cI : ClassId} {kI : Class} {cm : ClassId} {ty : FieldType} {k : Int32} {Q : Addr → Pre} (hk : S.vm.classes[cI]? = some kI) (hkind : kI.kind = .array cm ty) (hn : ¬ k < 0)
    (hlimit : ¬ k.toNatClampNeg > e.platform.arrayLengthLimit) (hheap : ¬ k.toNatClampNeg * componentBytes ty > e.platform.maxHeapBytes) (hcells : S.heap.size < e.platform.maxCells) (hslots : S.slotsUsed + k.toNatClampNeg ≤ e.platform.maxSlots) (hfit : fits ty (defaultValue ty) = true)
    (hq : ∀ acts', Q S.heap.size d acts' (S.pushCell (arrV cI k.toNatClampNeg (fun _ => defaultValue ty)))) : wp (Jvm.Op.multianewarray.make cI [k]) Q E e d acts S := by
  rw [Jvm.Op.multianewarray.make]
  simp only [wp_bind', hn, if_false, wp_pure', W.theClass, hk, Option.some.injEq, exists_eq_left', hkind]
  refine W.newArray_of hk hkind hlimit hheap hcells hslots hfit (fun acts' => ?_)
  have h := hq acts'
  rw [← arrV_new] at h
  exact h
theorem ny_loop (X : Stand p l e R s m args below meth c T locs cells slots) {E : CtlPost} {d : Bool} {acts : List Action} {f : JFrame} {cA cI cm : ClassId} {kA kI : Class} {ty : FieldType} {k : Int32} {N : Nat} {Q : PUnit → Pre}
    (hkA : T.vm.classes[cA]? = some kA) (hkindA : kA.kind = .array cI (.array ty)) (hkI : T.vm.classes[cI]? = some kI) (hkindI : kI.kind = .array cm ty) (hk : ¬ k < 0)
    (hl2 : ¬ k.toNatClampNeg > e.platform.arrayLengthLimit) (hh2 : ¬ k.toNatClampNeg * componentBytes ty > e.platform.maxHeapBytes) (hdf : fits ty (defaultValue ty) = true)
    (hcells : cells + (1 + N) ≤ R.cells) (hslots : slots + (N + N * k.toNatClampNeg) ≤ R.slots)
    (hq : ∀ d' acts', Q PUnit.unit d' acts' ((ny_F T cA cI N k.toNatClampNeg (defaultValue ty) N).setTop f)) :
    wp (forIn (List.range' 0 N) PUnit.unit (fun (i : Nat) (_ : PUnit) => do
      let a ← Jvm.Op.multianewarray.make cI [k]
      writeLoc T.heap.size i (.ref a)
      Pure.pure (ForInStep.yield PUnit.unit))) Q E e d acts ((ny_F T cA cI N k.toNatClampNeg (defaultValue ty) 0).setTop f) := by
  refine wp_forIn_inv (fun rest s' => ∃ i : Nat, i ≤ N ∧ rest = List.range' i (N - i) ∧ s' = (ny_F T cA cI N k.toNatClampNeg (defaultValue ty) i).setTop f) _ _ ⟨0, Nat.zero_le _, rfl, rfl⟩ (fun x rest s' d' acts' Q' hI hQ' => ?_) (fun s' d' acts' hI => ?_)
  · obtain ⟨i, hi, hr, rfl⟩ := hI
    have hlt : i < N := by
      by_cases h : i < N
      · exact h
      · rw [show N - i = 0 by omega] at hr
        cases hr
    rw [show N - i = (N - (i + 1)) + 1 by omega, List.range'_succ] at hr
    obtain ⟨rfl, rfl⟩ := List.cons.inj hr
    have h0 := ny_F_size T cA cI N k.toNatClampNeg (defaultValue ty) x
    have XF := ny_F_stand X cA cI N k.toNatClampNeg (defaultValue ty) x
    have hmul : (x + 1) * k.toNatClampNeg ≤ N * k.toNatClampNeg := Nat.mul_le_mul_right _ hlt
    rw [Nat.succ_mul] at hmul
    obtain ⟨h1, h2⟩ := XF.roomAbove (a := 1) (b := k.toNatClampNeg) (by omega) (by omega)
    have hlt2 : T.heap.size < (ny_F T cA cI N k.toNatClampNeg (defaultValue ty) x).heap.size := by omega
    have hvmF := ny_F_vm T cA cI N k.toNatClampNeg (defaultValue ty) x
    have hout := ny_F_out T cA cI N k.toNatClampNeg (defaultValue ty) x
    have hnext : ∀ a : Nat, a = T.heap.size + 1 + x → ((((ny_F T cA cI N k.toNatClampNeg (defaultValue ty) x).setTop f).pushCell (arrV cI k.toNatClampNeg (fun _ => defaultValue ty))).setCell T.heap.size ((arrV cA N (fun j => va_rf (if j < x then some (T.heap.size + 1 + j) else none))).setSlot x (.ref a))) = (ny_F T cA cI N k.toNatClampNeg (defaultValue ty) (x + 1)).setTop f := fun a ha => by
      rw [ha, arrV_store, ny_upd]
      rfl
    simp only [wp_bind', wp_pure']
    refine ny_make1 (S := (ny_F T cA cI N k.toNatClampNeg (defaultValue ty) x).setTop f) (by rw [State.vm_setTop, hvmF]; exact hkI) hkindI hk hl2 hh2 h1 h2 hdf (fun acts1 => ?_)
    rw [wp_bind', W.writeLoc]
    refine ⟨_, (State.heap_pushCell_of_lt (ny_F T cA cI N k.toNatClampNeg (defaultValue ty) x) _ hlt2).trans hout, (fun h => by cases h), (by rw [arrV_size]; exact hlt), ?_, (by rw [wp_pure']; exact hQ' _ _ _ ⟨x + 1, hlt, rfl, hnext _ h0⟩)⟩
    have hk9 : (ny_F T cA cI N k.toNatClampNeg (defaultValue ty) x).vm.classes[cA]? = some kA := by rw [hvmF]; exact hkA
    simp [State.fitsSlot, State.slotType?, arrV, hk9, hkindA, fits]
  · obtain ⟨i, hi, hr, rfl⟩ := hI
    have hN : i = N := by
      by_cases h : i < N
      · rw [show N - i = (N - (i + 1)) + 1 by omega, List.range'_succ] at hr
        cases hr
      · omega
    rw [hN]
    exact hq _ _
theorem ny_make2 (X : Stand p l e R s m args below meth c T locs cells slots) {E : CtlPost} {d : Bool} {acts : List Action} {f : JFrame} {cA cI cm : ClassId} {kA kI : Class} {ty : FieldType} {n k : Int32} {Q : Addr → Pre}
    (hkA : T.vm.classes[cA]? = some kA) (hkindA : kA.kind = .array cI (.array ty)) (hkI : T.vm.classes[cI]? = some kI) (hkindI : kI.kind = .array cm ty) (hn : ¬ n < 0) (hk : ¬ k < 0)
    (hb1 : n.toNatClampNeg * 4 ≤ 536870912) (hb2 : k.toNatClampNeg * componentBytes ty ≤ 536870912) (hb3 : k.toNatClampNeg ≤ 536870912) (hdf : fits ty (defaultValue ty) = true)
    (hcells : cells + (1 + n.toNatClampNeg) ≤ R.cells) (hslots : slots + (n.toNatClampNeg + n.toNatClampNeg * k.toNatClampNeg) ≤ R.slots)
    (hq : ∀ d' acts', Q T.heap.size d' acts' ((ny_F T cA cI n.toNatClampNeg k.toNatClampNeg (defaultValue ty) n.toNatClampNeg).setTop f)) : wp (Jvm.Op.multianewarray.make cA [n, k]) Q E e d acts (T.setTop f) := by
  have hl1 : ¬ n.toNatClampNeg > e.platform.arrayLengthLimit := by rw [Launch.admits_arrayLengthLimit X.admits]; omega
  have hl2 : ¬ k.toNatClampNeg > e.platform.arrayLengthLimit := by rw [Launch.admits_arrayLengthLimit X.admits]; omega
  have hh1 : ¬ n.toNatClampNeg * componentBytes (.array ty) > e.platform.maxHeapBytes := by rw [Launch.admits_maxHeapBytes X.admits]; show ¬ n.toNatClampNeg * 4 > 536870912; omega
  have hh2 : ¬ k.toNatClampNeg * componentBytes ty > e.platform.maxHeapBytes := by rw [Launch.admits_maxHeapBytes X.admits]; omega
  have hfind : List.find? (fun x : Int32 => decide (x < 0)) [k] = none := by simp [List.find?, hk]
  obtain ⟨hr1, hr2⟩ := X.roomAbove (a := 1) (b := n.toNatClampNeg) (by omega) (by omega)
  rw [Jvm.Op.multianewarray.make]
  simp only [wp_bind', hn, if_false, wp_pure', W.theClass, State.vm_setTop, hkA, Option.some.injEq, exists_eq_left', hkindA]
  refine W.newArray_of (s := T.setTop f) hkA hkindA hl1 hh1 (by show T.heap.size < _; omega) hr2 rfl (fun acts1 => ?_)
  rw [show (T.setTop f).pushCell { cls := cA, slots := Array.replicate n.toNatClampNeg .null } = (ny_F T cA cI n.toNatClampNeg k.toNatClampNeg (defaultValue ty) 0).setTop f from by rw [arrV_new]; rfl]
  simp only [hfind, ite_self, wp_bind', Std.Legacy.Range.forIn_eq_forIn_range']
  have hsz : (Std.Legacy.Range.mk 0 n.toNatClampNeg 1 (by decide)).size = n.toNatClampNeg := by simp [Std.Legacy.Range.size]
  rw [hsz]
  refine ny_loop X hkA hkindA hkI hkindI hk hl2 hh2 hdf hcells hslots (fun d' acts' => ?_)
  rw [wp_pure']
  exact hq d' acts'
theorem ny_mna (X : Stand p l e R s m args below meth c T locs cells slots) (hexec : p.tables.exec = Jvm.exec) {own : String} {index : Nat} {ty : FieldType} (hown : s.vm.findClass own = some m.cls) (hclink : (Cond.classLink own index ("[" ++ (FieldType.array ty).toString)).before args s = true)
    (hover : (Cond.arrayOver (.array ty)).before args s = true) (harr : (Cond.arrayClass ty).before args s = true) {g : JFrame} (hg : g.method = m) (hdg : decode c.code g.pc = .ok (.multianewarray index 2, 4)) {n k : Int32} {rest : List Value} (hstack : g.stack = .int k :: .int n :: rest)
    (hn : ¬ n < 0) (hk : ¬ k < 0) (hb1 : n.toNatClampNeg * 4 ≤ 536870912) (hb2 : k.toNatClampNeg * componentBytes ty ≤ 536870912) (hb3 : k.toNatClampNeg ≤ 536870912) (hdf : fits ty (defaultValue ty) = true)
    (hcells : cells + (1 + n.toNatClampNeg) ≤ R.cells) (hslots : slots + (n.toNatClampNeg + n.toNatClampNeg * k.toNatClampNeg) ≤ R.slots) :
    ∃ (vm₁ : Vm) (cA cI : ClassId), s.vm.findClass ("[" ++ (FieldType.array ty).toString) = some cA ∧ s.vm.findClass (FieldType.array ty).toString = some cI ∧ (∃ kA : Class, s.vm.classes[cA]? = some kA ∧ kA.kind = .array cI (.array ty)) ∧
      Stand p l e R s m args below meth c (T.setVm vm₁) locs cells slots ∧
      ∀ target, Steps p.tables e below ((ny_F (T.setVm vm₁) cA cI n.toNatClampNeg k.toNatClampNeg (defaultValue ty) n.toNatClampNeg).setTop { g with pc := g.pc + 4, stack := .ref T.heap.size :: rest }) target → Steps p.tables e below (T.setTop g) target := by
  subst hg
  have hpl : e.platform.magicAccessors = ({} : Platform).magicAccessors := by rw [X.admits.platform]
  obtain ⟨cI, cA, kA, hcI, hkA, hkindA, hfA⟩ := ny_over hover
  obtain ⟨c9, kI, cm, hc9, hkI, hkindI⟩ := Cond.arrayClass_spec harr
  have hc8 : s.vm.findClass (FieldType.array ty).toString = some c9 := hc9
  cases Option.some.inj (hcI.symm.trans hc8)
  obtain ⟨cc, hfcc, hcl⟩ := Cond.classLink_spec hown hclink e.platform hpl
  cases Option.some.inj (hfA.symm.trans hfcc)
  obtain ⟨hg₁, hwarm₁, -⟩ := State.classEntry (e := e) X.warmed hcl
  have hsz : (T.vm.noted g.method.cls index (.cls cA)).classes.size ≤ T.vm.classes.size := Nat.le_of_eq (Vm.size_noted _ _ _ _)
  generalize T.vm.noted g.method.cls index (.cls cA) = vm₁ at hg₁ hwarm₁ hsz
  have hal := hwarm₁.alike
  obtain ⟨kA₁, hkA₁, heA⟩ := hal.2.2 _ _ hkA
  obtain ⟨kI₁, hkI₁, heI⟩ := hal.2.2 _ _ hkI
  have hkindA₁ : kA₁.kind = .array cI (.array ty) := by rw [heA]; exact hkindA
  have hkindI₁ : kI₁.kind = .array cm ty := by rw [heI]; exact hkindI
  have X₁ := X.noted hwarm₁
  refine ⟨vm₁, cA, cI, hfA, hcI, ⟨kA, hkA, hkindA⟩, X₁, fun target hrest => ?_⟩
  refine Steps.instr (c := c) X.here ?_
  rw [hdg]
  show wpRun (p.tables.exec (.multianewarray index 2)) _ _ e (T.setTop g)
  rw [hexec]
  show wp (Jvm.Op.multianewarray.sem index 2) _ _ e false [] (T.setTop g)
  rw [Jvm.Op.multianewarray.sem, wp_bind']
  refine (W.resolveClassAt_links (mm := g.method) (State.method?_setTop g X.here.top) (c := cA) (vm' := vm₁) hg₁ hsz).mpr ?_
  rw [State.setVm_setTop, wp_bind']
  refine (Jvm.Op.popN_top (s := T.setVm vm₁) (f := g) X₁.here.top (args := [.int n, .int k]) (rest := rest) hstack).mpr ?_
  simp only [List.mapM, List.mapM.loop, wp_bind', wp_pure', List.reverse_cons, List.reverse_nil, List.nil_append, List.cons_append]
  refine ny_make2 X₁ hkA₁ hkindA₁ hkI₁ hkindI₁ hn hk hb1 hb2 hb3 hdf hcells hslots (fun d' acts' => ?_)
  rw [wp_bind', W.mark, W.pushRef]
  refine ⟨_, State.topJava?_setTop' _ (ny_F_stand X₁ cA cI n.toNatClampNeg k.toNatClampNeg (defaultValue ty) n.toNatClampNeg).here.top, fun acts => ?_⟩
  rw [State.setTop_setTop, afterInstr_ok]
  exact hrest
end NYM
