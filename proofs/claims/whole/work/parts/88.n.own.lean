/-! OWN ROWS for what the printed rows take of the shelf of laws that no round compiles over -/
section NYC
variable {p : Program} {l : Launch} {e : Env} {R : Room} {s : State} {m : MethodId} {args : Array Value} {below : List Frame} {meth : Method} {c : Code} {T : State} {locs : List Loc} {cells slots : Nat}
/-- the first row of the table covers the place and names a class that links, cold or warm: the search ends there and leaves the note of the class -/
theorem ny_finds {S : State} {g : JFrame} {q : Addr} {x : ExceptionTableEntry} {suf : List ExceptionTableEntry} {cc : ClassId} {ce : Cell} (hm : S.vm.method? g.method = some meth) (hc : meth.code = some c) (hsplit : c.exceptionTable.toList = x :: suf)
    (hx : covers x g.pc = true) (h0 : x.catchType ≠ 0) (hl : S.vm.ClassLinks e.platform g.method.cls x.catchType cc) (hcell : S.heap[q]? = some ce) (hobj : ∀ k, ce.vm ≠ .statics k) (hk : ∃ k, S.vm.classes[ce.cls]? = some k) (hfit : S.vm.assignable ce.cls cc = true)
    {Q : Handler → Pre} {E : CtlPost} {d : Bool} {acts : List Action} (h : Q (.found x.handlerPc) d acts (S.setVm (S.vm.noted g.method.cls x.catchType (.cls cc)))) : wp (findHandler g q) Q E e d acts S := by
  obtain ⟨dk, cf, nm, ck, hd, -, -, -, -, hck, -, -⟩ := hl.here
  have hal : S.vm.Alike (S.vm.noted g.method.cls x.catchType (.cls cc)) := (Vm.Alike.refl S.vm).noted _ _ _
  have hsz : (S.vm.noted g.method.cls x.catchType (.cls cc)).classes.size ≤ S.vm.classes.size := Nat.le_of_eq (Vm.size_noted _ _ _ _)
  obtain ⟨ha, ht⟩ := (resolveClass_links e.toSetting hl).op (op := VmOp.resolveClass g.method.cls x.catchType) rfl
  generalize S.vm.noted g.method.cls x.catchType (.cls cc) = vm' at h hal hsz ha ht
  obtain ⟨k9, hk9⟩ := hk
  obtain ⟨k8, hk8, -⟩ := hal.2.2 _ _ hk9
  obtain ⟨k7, hk7, -⟩ := hal.2.2 _ _ hck
  have hfit' : vm'.assignable ce.cls cc = true := by rw [hal.assignable]; exact hfit
  rw [W.findHandler_eq hm hc, hsplit]
  simp only [covers] at hx
  have hszT : (VmOp.tables (VmOp.resolveClass g.method.cls x.catchType) e S.vm).classes.size ≤ S.vm.classes.size := by rw [ht]; exact hsz
  simp [findHandler.go, hx, h0, ha, ht, hsz, hcell, hobj, hk8, hk7, hfit', VmOp.dirties, VmOp.acts]
  exact h
/-- a throw that the first row of the method's own table takes: the walk goes on at its handler -/
theorem ny_caught (X : Stand p l e R s m args below meth c T locs cells slots) (q : Addr) {g : JFrame} (hg : g.method = m) {ce : Cell} {cc : ClassId} (hcell : T.heap[q]? = some ce) (hv : ce.vm = .none) (hk : ∃ k, s.vm.classes[ce.cls]? = some k)
    {x : ExceptionTableEntry} {suf : List ExceptionTableEntry} (hsplit : c.exceptionTable.toList = x :: suf) (hx : covers x g.pc = true) (h0 : x.catchType ≠ 0) (hl : s.vm.ClassLinks e.platform m.cls x.catchType cc) (hasg : s.vm.assignable ce.cls cc = true) :
    ∃ vm' : Vm, Stand p l e R s m args below meth c (T.setVm vm') locs cells slots ∧ ∀ t, Steps p.tables e below ((T.setVm vm').setTop { g with pc := x.handlerPc, stack := [.ref q] }) t → Steps p.tables e below ((T.setTop g).pushFrame (.throwing q)) t := by
  subst hg
  have hal := X.warmed.alike
  have hT5 := X.warmed.classLinks hl
  obtain ⟨dk, _, _, kt, hd, _, _, _, _, hkt, _, hopen⟩ := hl.here
  have hW' := X.warmed.noted hd hopen (State.rightAt_cls hl)
  obtain ⟨k9, hk9⟩ := hk
  obtain ⟨k8, hk8, -⟩ := hal.2.2 _ _ hk9
  have hfit : T.vm.assignable ce.cls cc = true := by rw [hal.assignable]; exact hasg
  refine ⟨T.vm.noted g.method.cls x.catchType (.cls cc), X.noted hW', fun t ht => ?_⟩
  obtain ⟨g₀, hg₀⟩ := Option.isSome_iff_exists.mp X.here.top
  obtain ⟨r, hr⟩ := State.topJava?_eq_some.mp hg₀
  obtain ⟨hgo, hw⟩ := X.here.throwing q
  refine Steps.head hgo hw ?_
  rw [stepThread_throwing (frames_entered X.here.top _)]
  have hvm : ((T.setTop g).pushFrame (.throwing q)).vm = T.vm := Stand.throwing_vm T g q
  have hhp : ((T.setTop g).pushFrame (.throwing q)).heap = T.heap := Stand.throwing_heap T g q
  have hend : ∀ (vm' : Vm) (fs : List Frame), (((T.setTop g).pushFrame (.throwing q)).setVm vm').setFrames fs = (T.setVm vm').setFrames fs := fun vm' fs => by
    show (((T.setTop g).pushFrame (.throwing q)).setFrames fs).setVm vm' = (T.setFrames fs).setVm vm'
    rw [State.pushFrame, State.setFrames_setFrames, State.setTop_of_frames _ hr, State.setFrames_setFrames]
  have hr' : ∀ vm' : Vm, (T.setVm vm').frames = .java g₀ :: r := fun _ => hr
  rw [State.setTop_of_frames _ (hr' _), ← hend] at ht
  rw [hr]
  generalize hS : (T.setTop g).pushFrame (.throwing q) = S at hvm hhp ht ⊢
  simp only [stepThrowing, searchFrame, vmDo, List.tail_cons]
  generalize hr : Sem.go _ e false [] S = res
  obtain ⟨as, rfl, ha⟩ := Sem.eq_ok_of hr (a := Handler.found x.handlerPc) (s' := S.setVm (T.vm.noted g.method.cls x.catchType (.cls cc))) (acts' := [])
    (by
      rw [wp_bind']
      refine ny_finds (meth := meth) (c := c) (x := x) (suf := suf) (cc := cc) (ce := ce) (by rw [hvm]; exact X.method') X.code hsplit hx h0 (by rw [hvm]; exact hT5) (by rw [hhp]; exact hcell) (fun k hk => by rw [hv] at hk; cases hk) (by rw [hvm]; exact ⟨k8, hk8⟩) (by rw [hvm]; exact hfit) ?_
      simp [hvm])
  exact ht
end NYC
