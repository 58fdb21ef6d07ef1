/-! THE LAW'S WORLD: the class's object, the model's object, the array out; calls into the two worlds -/
theorem xo_Z_kept {A : Nat → Prop} {adK adV : Nat → Nat} {s U : State} (h : xo_Z adK adV A s) (hW : s.WarmedH U.vm) (hq : ∀ q : Nat, q < s.heap.size → ¬ A q → U.heap[q]? = s.heap[q]?) : xo_Z adK adV A U := by
  obtain ⟨⟨a1, a2, a3, a4, a5⟩, b1, b2, b3, b4, b5⟩ := h
  exact ⟨⟨va_Nw.warmM hW a1, va_Nw.warmM hW a2, va_Nw.warmM hW a3, va_Nw.warmM hW a4, va_Nw.warmM hW a5⟩, vk_S.moved hW.alike (b1.kept hq), vk_R.warm hW b2, vk_R.warm hW b3, va_Z.moved hW.alike (b4.kept hq), va_Zq.moved hW.alike (b5.kept hq)⟩
theorem xo_Z_narrow {A B : Nat → Prop} {adK adV : Nat → Nat} {U : State} (h : xo_Z adK adV A U) (hAB : ∀ q, B q → A q) : xo_Z adK adV B U := by
  obtain ⟨a, b1, b2, b3, b4, b5⟩ := h
  exact ⟨a, b1.narrow hAB, b2, b3, b4.narrow hAB, b5.narrow hAB⟩
theorem xo_Zok {A : Nat → Prop} {adK adV : Nat → Nat} : ha_Zok A (xo_Z adK adV A) :=
  ⟨fun U g mk a h => xo_Z_kept (U := U.calling g mk a) h (State.WarmedH.refl U) (fun _ _ _ => rfl), fun _ _ h hW hq => xo_Z_kept h hW hq⟩
theorem tr_Zok {A : Nat → Prop} : ha_Zok A (fun _ => True) := ⟨fun _ _ _ _ _ => trivial, fun _ _ _ _ _ => trivial⟩
/-- what stays through the law's walk -/
def lwF (p : Program) (s : State) (m : MethodId) (meth : Method) (c : Code) (b L : Nat) (xs : Nat → Int32) (D : va_G) (cs : Nat → ClassId) (cO : ClassId) (adx adm adK adV : Nat → Nat) (o sa : Nat) : Prop := (p.tables.exec = Jvm.exec) ∧ (c.code = cL_law) ∧ (c.maxLocals = 8) ∧ (s.vm.findClass RL = some m.cls) ∧ (∀ w ∈ wsL_law, w.before #[Value.ref b] s = true) ∧ (va_X b L xs s s.heap) ∧ (b < s.heap.size) ∧ (va_K D vwCl (ha_tys cs) s) ∧ (va_K D vwCl [(cO, .long)] s) ∧ (xo_Z adK adV (fun q => s.heap.size ≤ q) s) ∧ (rz (fun q => s.heap.size ≤ q) sa s) ∧ (∀ n, n ∈ xo_N → s.heap.size ≤ adx n) ∧ (∀ n, n ∈ mo_N → s.heap.size ≤ adm n) ∧ (s.heap.size ≤ o) ∧ (∀ n k, n ∈ xo_N → k ∈ mo_N → adx n ≠ adm k) ∧ (∀ n, n ∈ xo_N → adx n ≠ o) ∧ (∀ n, n ∈ mo_N → adm n ≠ o)
theorem lwF.ex {p : Program} {s : State} {m : MethodId} {meth : Method} {c : Code} {b L : Nat} {xs : Nat → Int32} {D : va_G} {cs : Nat → ClassId} {cO : ClassId} {adx adm adK adV : Nat → Nat} {o sa : Nat} (F : lwF p s m meth c b L xs D cs cO adx adm adK adV o sa) : p.tables.exec = Jvm.exec := F.1
theorem lwF.hb {p : Program} {s : State} {m : MethodId} {meth : Method} {c : Code} {b L : Nat} {xs : Nat → Int32} {D : va_G} {cs : Nat → ClassId} {cO : ClassId} {adx adm adK adV : Nat → Nat} {o sa : Nat} (F : lwF p s m meth c b L xs D cs cO adx adm adK adV o sa) : c.code = cL_law := F.2.1
theorem lwF.ml {p : Program} {s : State} {m : MethodId} {meth : Method} {c : Code} {b L : Nat} {xs : Nat → Int32} {D : va_G} {cs : Nat → ClassId} {cO : ClassId} {adx adm adK adV : Nat → Nat} {o sa : Nat} (F : lwF p s m meth c b L xs D cs cO adx adm adK adV o sa) : c.maxLocals = 8 := F.2.2.1
theorem lwF.own {p : Program} {s : State} {m : MethodId} {meth : Method} {c : Code} {b L : Nat} {xs : Nat → Int32} {D : va_G} {cs : Nat → ClassId} {cO : ClassId} {adx adm adK adV : Nat → Nat} {o sa : Nat} (F : lwF p s m meth c b L xs D cs cO adx adm adK adV o sa) : s.vm.findClass RL = some m.cls := F.2.2.2.1
theorem lwF.ts {p : Program} {s : State} {m : MethodId} {meth : Method} {c : Code} {b L : Nat} {xs : Nat → Int32} {D : va_G} {cs : Nat → ClassId} {cO : ClassId} {adx adm adK adV : Nat → Nat} {o sa : Nat} (F : lwF p s m meth c b L xs D cs cO adx adm adK adV o sa) : ∀ w ∈ wsL_law, w.before #[Value.ref b] s = true := F.2.2.2.2.1
theorem lwF.X {p : Program} {s : State} {m : MethodId} {meth : Method} {c : Code} {b L : Nat} {xs : Nat → Int32} {D : va_G} {cs : Nat → ClassId} {cO : ClassId} {adx adm adK adV : Nat → Nat} {o sa : Nat} (F : lwF p s m meth c b L xs D cs cO adx adm adK adV o sa) : va_X b L xs s s.heap := F.2.2.2.2.2.1
theorem lwF.bl {p : Program} {s : State} {m : MethodId} {meth : Method} {c : Code} {b L : Nat} {xs : Nat → Int32} {D : va_G} {cs : Nat → ClassId} {cO : ClassId} {adx adm adK adV : Nat → Nat} {o sa : Nat} (F : lwF p s m meth c b L xs D cs cO adx adm adK adV o sa) : b < s.heap.size := F.2.2.2.2.2.2.1
theorem lwF.K {p : Program} {s : State} {m : MethodId} {meth : Method} {c : Code} {b L : Nat} {xs : Nat → Int32} {D : va_G} {cs : Nat → ClassId} {cO : ClassId} {adx adm adK adV : Nat → Nat} {o sa : Nat} (F : lwF p s m meth c b L xs D cs cO adx adm adK adV o sa) : va_K D vwCl (ha_tys cs) s := F.2.2.2.2.2.2.2.1
theorem lwF.KO {p : Program} {s : State} {m : MethodId} {meth : Method} {c : Code} {b L : Nat} {xs : Nat → Int32} {D : va_G} {cs : Nat → ClassId} {cO : ClassId} {adx adm adK adV : Nat → Nat} {o sa : Nat} (F : lwF p s m meth c b L xs D cs cO adx adm adK adV o sa) : va_K D vwCl [(cO, .long)] s := F.2.2.2.2.2.2.2.2.1
theorem lwF.Z {p : Program} {s : State} {m : MethodId} {meth : Method} {c : Code} {b L : Nat} {xs : Nat → Int32} {D : va_G} {cs : Nat → ClassId} {cO : ClassId} {adx adm adK adV : Nat → Nat} {o sa : Nat} (F : lwF p s m meth c b L xs D cs cO adx adm adK adV o sa) : xo_Z adK adV (fun q => s.heap.size ≤ q) s := F.2.2.2.2.2.2.2.2.2.1
theorem lwF.Y {p : Program} {s : State} {m : MethodId} {meth : Method} {c : Code} {b L : Nat} {xs : Nat → Int32} {D : va_G} {cs : Nat → ClassId} {cO : ClassId} {adx adm adK adV : Nat → Nat} {o sa : Nat} (F : lwF p s m meth c b L xs D cs cO adx adm adK adV o sa) : rz (fun q => s.heap.size ≤ q) sa s := F.2.2.2.2.2.2.2.2.2.2.1
theorem lwF.ax {p : Program} {s : State} {m : MethodId} {meth : Method} {c : Code} {b L : Nat} {xs : Nat → Int32} {D : va_G} {cs : Nat → ClassId} {cO : ClassId} {adx adm adK adV : Nat → Nat} {o sa : Nat} (F : lwF p s m meth c b L xs D cs cO adx adm adK adV o sa) : ∀ n, n ∈ xo_N → s.heap.size ≤ adx n := F.2.2.2.2.2.2.2.2.2.2.2.1
theorem lwF.am {p : Program} {s : State} {m : MethodId} {meth : Method} {c : Code} {b L : Nat} {xs : Nat → Int32} {D : va_G} {cs : Nat → ClassId} {cO : ClassId} {adx adm adK adV : Nat → Nat} {o sa : Nat} (F : lwF p s m meth c b L xs D cs cO adx adm adK adV o sa) : ∀ n, n ∈ mo_N → s.heap.size ≤ adm n := F.2.2.2.2.2.2.2.2.2.2.2.2.1
theorem lwF.ao {p : Program} {s : State} {m : MethodId} {meth : Method} {c : Code} {b L : Nat} {xs : Nat → Int32} {D : va_G} {cs : Nat → ClassId} {cO : ClassId} {adx adm adK adV : Nat → Nat} {o sa : Nat} (F : lwF p s m meth c b L xs D cs cO adx adm adK adV o sa) : s.heap.size ≤ o := F.2.2.2.2.2.2.2.2.2.2.2.2.2.1
theorem lwF.xm {p : Program} {s : State} {m : MethodId} {meth : Method} {c : Code} {b L : Nat} {xs : Nat → Int32} {D : va_G} {cs : Nat → ClassId} {cO : ClassId} {adx adm adK adV : Nat → Nat} {o sa : Nat} (F : lwF p s m meth c b L xs D cs cO adx adm adK adV o sa) : ∀ n k, n ∈ xo_N → k ∈ mo_N → adx n ≠ adm k := F.2.2.2.2.2.2.2.2.2.2.2.2.2.2.1
theorem lwF.xo {p : Program} {s : State} {m : MethodId} {meth : Method} {c : Code} {b L : Nat} {xs : Nat → Int32} {D : va_G} {cs : Nat → ClassId} {cO : ClassId} {adx adm adK adV : Nat → Nat} {o sa : Nat} (F : lwF p s m meth c b L xs D cs cO adx adm adK adV o sa) : ∀ n, n ∈ xo_N → adx n ≠ o := F.2.2.2.2.2.2.2.2.2.2.2.2.2.2.2.1
theorem lwF.mo {p : Program} {s : State} {m : MethodId} {meth : Method} {c : Code} {b L : Nat} {xs : Nat → Int32} {D : va_G} {cs : Nat → ClassId} {cO : ClassId} {adx adm adK adV : Nat → Nat} {o sa : Nat} (F : lwF p s m meth c b L xs D cs cO adx adm adK adV o sa) : ∀ n, n ∈ mo_N → adm n ≠ o := F.2.2.2.2.2.2.2.2.2.2.2.2.2.2.2.2
/-- what moves -/
def lwM (s : State) (D : va_G) (cs : Nat → ClassId) (cO : ClassId) (adx adm : Nat → Nat) (o : Nat) (X M : ha_St) (f : Nat → Int64) (H : Heap) (locs : List Loc) : Prop := (va_P D vwCl (ha_wl cs adx xo_kd xo_ln xo_N X) H) ∧ (va_D (ha_A adx xo_N) (ha_wl cs adx xo_kd xo_ln xo_N X)) ∧ (va_P D vwCl (ha_wl cs adm mo_kd mo_ln mo_N M) H) ∧ (va_D (ha_A adm mo_N) (ha_wl cs adm mo_kd mo_ln mo_N M)) ∧ (va_P D vwCl [(o, .inl (cO, 1, .inr (.inl f)))] H) ∧ (va_S (fun q => s.heap.size ≤ q) s.heap H locs)
theorem lwM.Px {s : State} {D : va_G} {cs : Nat → ClassId} {cO : ClassId} {adx adm : Nat → Nat} {o : Nat} {X M : ha_St} {f : Nat → Int64} {H : Heap} {locs : List Loc} (F : lwM s D cs cO adx adm o X M f H locs) : va_P D vwCl (ha_wl cs adx xo_kd xo_ln xo_N X) H := F.1
theorem lwM.Dx {s : State} {D : va_G} {cs : Nat → ClassId} {cO : ClassId} {adx adm : Nat → Nat} {o : Nat} {X M : ha_St} {f : Nat → Int64} {H : Heap} {locs : List Loc} (F : lwM s D cs cO adx adm o X M f H locs) : va_D (ha_A adx xo_N) (ha_wl cs adx xo_kd xo_ln xo_N X) := F.2.1
theorem lwM.Pm {s : State} {D : va_G} {cs : Nat → ClassId} {cO : ClassId} {adx adm : Nat → Nat} {o : Nat} {X M : ha_St} {f : Nat → Int64} {H : Heap} {locs : List Loc} (F : lwM s D cs cO adx adm o X M f H locs) : va_P D vwCl (ha_wl cs adm mo_kd mo_ln mo_N M) H := F.2.2.1
theorem lwM.Dm {s : State} {D : va_G} {cs : Nat → ClassId} {cO : ClassId} {adx adm : Nat → Nat} {o : Nat} {X M : ha_St} {f : Nat → Int64} {H : Heap} {locs : List Loc} (F : lwM s D cs cO adx adm o X M f H locs) : va_D (ha_A adm mo_N) (ha_wl cs adm mo_kd mo_ln mo_N M) := F.2.2.2.1
theorem lwM.Po {s : State} {D : va_G} {cs : Nat → ClassId} {cO : ClassId} {adx adm : Nat → Nat} {o : Nat} {X M : ha_St} {f : Nat → Int64} {H : Heap} {locs : List Loc} (F : lwM s D cs cO adx adm o X M f H locs) : va_P D vwCl [(o, .inl (cO, 1, .inr (.inl f)))] H := F.2.2.2.2.1
theorem lwM.S {s : State} {D : va_G} {cs : Nat → ClassId} {cO : ClassId} {adx adm : Nat → Nat} {o : Nat} {X M : ha_St} {f : Nat → Int64} {H : Heap} {locs : List Loc} (F : lwM s D cs cO adx adm o X M f H locs) : va_S (fun q => s.heap.size ≤ q) s.heap H locs := F.2.2.2.2.2
section LWC
variable {p : Program} {l : Launch} {e : Env} {s : State} {m : MethodId} {below : List Frame} {meth : Method} {c : Code} {H : Heap} {locs : List Loc} {cells slots : Nat} {Q : State → Prop}
variable {pc : Nat} {ls : Array Slot} {rest st : List Value} {b L : Nat} {xs : Nat → Int32} {D : va_G} {cs : Nat → ClassId} {cO : ClassId} {adx adm adK adV : Nat → Nat} {o sa : Nat}
variable {X M X1 M1 : ha_St} {f : Nat → Int64} {index : Nat} {y : MethodName} {bytes : ByteArray} {maxL nn : Nat} {ret : Option FieldType} {ws : List Cond} {rm : Room} {As : List Value} {z : Int32}
theorem lwF.ix (F : lwF p s m meth c b L xs D cs cO adx adm adK adV o sa) {q : Nat} (h : ha_A adx xo_N q) : s.heap.size ≤ q := by
  obtain ⟨n, h1, rfl⟩ := h
  exact F.ax n h1
theorem lwF.im (F : lwF p s m meth c b L xs D cs cO adx adm adK adV o sa) {q : Nat} (h : ha_A adm mo_N q) : s.heap.size ≤ q := by
  obtain ⟨n, h1, rfl⟩ := h
  exact F.am n h1
theorem lwF.fix (F : lwF p s m meth c b L xs D cs cO adx adm adK adV o sa) : CallFix p m c cL_law 8 s #[Value.ref b] wsL_law RL := ⟨F.ex, F.hb, F.ml, F.own, F.ts⟩
theorem lwM.newX {H1 : Heap} {locs1 : List Loc} (F : lwF p s m meth c b L xs D cs cO adx adm adK adV o sa) (G : lwM s D cs cO adx adm o X M f H locs) (hP : va_P D vwCl (ha_wl cs adx xo_kd xo_ln xo_N X1) H1) (hD : va_D (ha_A adx xo_N) (ha_wl cs adx xo_kd xo_ln xo_N X1)) (hk : ∀ q : Nat, q < H.size → ¬ ha_A adx xo_N q → H1[q]? = H[q]?) (hS : va_S (fun q => s.heap.size ≤ q) s.heap H1 locs1) : lwM s D cs cO adx adm o X1 M f H1 locs1 :=
  ⟨hP, hD, G.Pm.kept (fun k q hq => hk q.1 (G.Pm k q hq).lt (fun h => by
      obtain ⟨n, h1, h2⟩ := h
      obtain ⟨n', h3, h4⟩ := G.Dm.2 k q hq
      exact F.xm n n' h1 h3 (h2.symm.trans h4))), G.Dm, G.Po.kept (fun k q hq => hk q.1 (G.Po k q hq).lt (fun h => by
      obtain ⟨n, h1, h2⟩ := h
      have h3 : q.1 = o := one_D.2 k q hq
      exact F.xo n h1 (h2.symm.trans h3))), hS⟩
theorem lwM.newM {H1 : Heap} {locs1 : List Loc} (F : lwF p s m meth c b L xs D cs cO adx adm adK adV o sa) (G : lwM s D cs cO adx adm o X M f H locs) (hP : va_P D vwCl (ha_wl cs adm mo_kd mo_ln mo_N M1) H1) (hD : va_D (ha_A adm mo_N) (ha_wl cs adm mo_kd mo_ln mo_N M1)) (hk : ∀ q : Nat, q < H.size → ¬ ha_A adm mo_N q → H1[q]? = H[q]?) (hS : va_S (fun q => s.heap.size ≤ q) s.heap H1 locs1) : lwM s D cs cO adx adm o X M1 f H1 locs1 :=
  ⟨G.Px.kept (fun k q hq => hk q.1 (G.Px k q hq).lt (fun h => by
      obtain ⟨n, h1, h2⟩ := h
      obtain ⟨n', h3, h4⟩ := G.Dx.2 k q hq
      exact F.xm n' n h3 h1 (h4.symm.trans h2))), G.Dx, hP, hD, G.Po.kept (fun k q hq => hk q.1 (G.Po k q hq).lt (fun h => by
      obtain ⟨n, h1, h2⟩ := h
      have h3 : q.1 = o := one_D.2 k q hq
      exact F.mo n h1 (h2.symm.trans h3))), hS⟩
theorem lw_callX (F : lwF p s m meth c b L xs D cs cO adx adm adK adV o sa) (G : lwM s D cs cO adx adm o X M f H locs) (hM : ha_Ci l D cs adx xo_kd xo_ln xo_N (xo_Z adK adV (ha_A adx xo_N)) y ws rm (.ref (adx 0) :: As) X z X1) (cw : CallW room_1 s #[Value.ref b] RL RX11 index y bytes maxL ret ws rm 0 0 nn) (hlen : As.length = nn) (hsz : ls.size = 8) (hst : st = As.reverse ++ .ref (adx 0) :: rest) (hw : (rest.map fun v => v.category).sum ≤ 8) (hdg : decode cL_law pc = .ok (.invokevirtual index, 3)) (hr : cells ≤ 601024 ∧ slots ≤ 7293034)
    (kk : ∀ (H1 : Heap) (locs1 : List Loc), lwM s D cs cO adx adm o X1 M f H1 locs1 → W p l e room_1 s m #[Value.ref b] below meth c H1 locs1 cells slots Q (F0 m (pc + 3) ls (.int z :: rest))) : W p l e room_1 s m #[Value.ref b] below meth c H locs cells slots Q (F0 m pc ls st) := by
  subst hst
  refine va_calli (va_runV (As := As) (rest := rest) F.fix hM cw ⟨ha_blind xo_Zok, ha_recv (n := 0) (ci := 11) F.K G.Px xo_hN rfl (by decide) rfl, fun U hU hW => ⟨rfl, by rw [hU]; exact G.Px, G.Dx, va_K.moved hW.alike F.K, xo_Z_narrow (xo_Z_kept F.Z hW (fun q h1 h2 => by rw [hU]; exact G.S.2.1 q h1 h2)) (fun q h => F.ix h)⟩⟩ rfl hlen hsz rfl (lv_room hw) hdg hr) G.S (fun q _ h => F.ix h) (fun q h => F.ix h) (fun r u t H1 locs1 ht hvm hq hB hz1 hk1 hS1 => ?_)
  subst hq
  obtain ⟨hP1, hD1⟩ := hB
  rw [ht] at hP1
  exact kk H1 locs1 (lwM.newX F G hP1 hD1 hk1 hS1)
theorem lw_callM (F : lwF p s m meth c b L xs D cs cO adx adm adK adV o sa) (G : lwM s D cs cO adx adm o X M f H locs) (hM : ha_Ci l D cs adm mo_kd mo_ln mo_N (fun _ => True) y ws rm (.ref (adm 0) :: As) M z M1) (cw : CallW room_1 s #[Value.ref b] RL RX12 index y bytes maxL ret ws rm 0 0 nn) (hlen : As.length = nn) (hsz : ls.size = 8) (hst : st = As.reverse ++ .ref (adm 0) :: rest) (hw : (rest.map fun v => v.category).sum ≤ 8) (hdg : decode cL_law pc = .ok (.invokevirtual index, 3)) (hr : cells ≤ 601024 ∧ slots ≤ 7293034)
    (kk : ∀ (H1 : Heap) (locs1 : List Loc), lwM s D cs cO adx adm o X M1 f H1 locs1 → W p l e room_1 s m #[Value.ref b] below meth c H1 locs1 cells slots Q (F0 m (pc + 3) ls (.int z :: rest))) : W p l e room_1 s m #[Value.ref b] below meth c H locs cells slots Q (F0 m pc ls st) := by
  subst hst
  refine va_calli (va_runV (As := As) (rest := rest) F.fix hM cw ⟨ha_blind tr_Zok, ha_recv (n := 0) (ci := 12) F.K G.Pm mo_hN rfl (by decide) rfl, fun U hU hW => ⟨rfl, by rw [hU]; exact G.Pm, G.Dm, va_K.moved hW.alike F.K, trivial⟩⟩ rfl hlen hsz rfl (lv_room hw) hdg hr) G.S (fun q _ h => F.im h) (fun q h => F.im h) (fun r u t H1 locs1 ht hvm hq hB hz1 hk1 hS1 => ?_)
  subst hq
  obtain ⟨hP1, hD1⟩ := hB
  rw [ht] at hP1
  exact kk H1 locs1 (lwM.newM F G hP1 hD1 hk1 hS1)
theorem lw_callMl {zl : Int64} (F : lwF p s m meth c b L xs D cs cO adx adm adK adV o sa) (G : lwM s D cs cO adx adm o X M f H locs) (hM : ha_Cl l D cs adm mo_kd mo_ln mo_N (fun _ => True) y ws rm (.ref (adm 0) :: As) M zl M1) (cw : CallW room_1 s #[Value.ref b] RL RX12 index y bytes maxL ret ws rm 0 0 nn) (hlen : As.length = nn) (hsz : ls.size = 8) (hst : st = As.reverse ++ .ref (adm 0) :: rest) (hw : (rest.map fun v => v.category).sum ≤ 8) (hdg : decode cL_law pc = .ok (.invokevirtual index, 3)) (hr : cells ≤ 601024 ∧ slots ≤ 7293034)
    (kk : ∀ (H1 : Heap) (locs1 : List Loc), lwM s D cs cO adx adm o X M1 f H1 locs1 → W p l e room_1 s m #[Value.ref b] below meth c H1 locs1 cells slots Q (F0 m (pc + 3) ls (.long zl :: rest))) : W p l e room_1 s m #[Value.ref b] below meth c H locs cells slots Q (F0 m pc ls st) := by
  subst hst
  refine va_calll (va_runV (As := As) (rest := rest) F.fix hM cw ⟨ha_blind tr_Zok, ha_recv (n := 0) (ci := 12) F.K G.Pm mo_hN rfl (by decide) rfl, fun U hU hW => ⟨rfl, by rw [hU]; exact G.Pm, G.Dm, va_K.moved hW.alike F.K, trivial⟩⟩ rfl hlen hsz rfl (lv_room hw) hdg hr) G.S (fun q _ h => F.im h) (fun q h => F.im h) (fun r u t H1 locs1 ht hvm hq hB hz1 hk1 hS1 => ?_)
  subst hq
  obtain ⟨hP1, hD1⟩ := hB
  rw [ht] at hP1
  exact kk H1 locs1 (lwM.newM F G hP1 hD1 hk1 hS1)
/-- script[i + k] -/
theorem lw_arg (F : lwF p s m meth c b L xs D cs cO adx adm adK adV o sa) (hS : va_S (fun q => s.heap.size ≤ q) s.heap H locs) (hL : L ≤ 3072) {i : Nat} (h0 : ls[0]? = some (.val (.ref b))) (h4 : ls[4]? = some (.val (.int (nI i)))) {k : Nat} {kz : Int} (hk : i + k < L) (hkz : Int32.ofInt kz = nI k) (d0 : decode cL_law pc = .ok (.aload_n 0, 1)) (d1 : decode cL_law (pc + 1) = .ok (.iload 4, 2)) (d3 : decode cL_law (pc + 3) = .ok (.iconst kz, 1)) (d4 : decode cL_law (pc + 4) = .ok (.iadd, 1)) (d5 : decode cL_law (pc + 5) = .ok (.iaload, 1))
    (kk : W p l e room_1 s m #[Value.ref b] below meth c H locs cells slots Q (F0 m (pc + 6) ls (.int (xs (i + k)) :: rest))) : W p l e room_1 s m #[Value.ref b] below meth c H locs cells slots Q (F0 m pc ls rest) := by
  refine lv_aload_n F.ex F.hb d0 rfl h0 ?_
  refine lv_iload F.ex F.hb d1 h4 ?_
  refine lv_iconst (v := nI k) F.ex F.hb d3 hkz ?_
  refine lv_iadd F.ex F.hb d4 ?_
  rw [nI_add]
  refine va_sld F.ex F.hb F.X F.bl (Nat.not_le.mpr F.bl) hS (nI_in hk (by omega)) d5 ?_
  rw [nI_clamp (by omega)]
  exact kk
end LWC
