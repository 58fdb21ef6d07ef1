/-! THE STORE: what the named cells of a world hold; a world is a list of names, their addresses by 'ad', their kinds by 'kd', the arrays' lengths by 'ln' -/
abbrev ha_St : Type := (Nat → Nat → Int32) × (Nat → Nat → Int64) × (Nat → Nat → Option Nat) × (Nat → Nat → Int32) × (Nat → Nat → Option Nat)
def ha_gI (S : ha_St) (n k : Nat) : Int32 := S.1 n k
def ha_gJ (S : ha_St) (n k : Nat) : Int64 := S.2.1 n k
def ha_gR (S : ha_St) (n k : Nat) : Option Nat := S.2.2.1 n k
def ha_gA (S : ha_St) (n : Nat) : Nat → Int32 := S.2.2.2.1 n
def ha_gB (S : ha_St) (n : Nat) : Nat → Option Nat := S.2.2.2.2 n
def ha_sI (S : ha_St) (n k : Nat) (v : Int32) : ha_St := (fun a b => if a = n ∧ b = k then v else S.1 a b, S.2)
def ha_sJ (S : ha_St) (n k : Nat) (v : Int64) : ha_St := (S.1, fun a b => if a = n ∧ b = k then v else S.2.1 a b, S.2.2)
def ha_sR (S : ha_St) (n k : Nat) (v : Option Nat) : ha_St := (S.1, S.2.1, fun a b => if a = n ∧ b = k then v else S.2.2.1 a b, S.2.2.2)
def ha_sA (S : ha_St) (n : Nat) (f : Nat → Int32) : ha_St := (S.1, S.2.1, S.2.2.1, fun a => if a = n then f else S.2.2.2.1 a, S.2.2.2.2)
def ha_sB (S : ha_St) (n : Nat) (f : Nat → Option Nat) : ha_St := (S.1, S.2.1, S.2.2.1, S.2.2.2.1, fun a => if a = n then f else S.2.2.2.2 a)
/-- the fields' kinds, class by class: 0 an int (or truth), 1 a reference, 2 a long -/
def ha_ft : List (List Nat) := [[1, 1, 1, 1, 1, 0, 0, 0, 1, 1, 0], [1, 1, 1, 1, 1, 0, 0, 0], [1, 1, 1, 1, 1, 0, 0, 0, 0], [1, 1, 1, 0], [1, 0, 0], [1, 1, 1, 1, 0, 0, 0, 0], [1, 1, 1, 1, 0, 0, 0, 0], [1, 1, 0, 0, 0], [1, 1, 1, 1, 1, 1, 1, 1, 0, 0, 0, 0], [1, 0, 1, 0, 0, 0, 0, 0], [1, 0], [1, 1, 1, 1, 1, 1, 1, 1, 1, 1, 1, 1, 0, 0, 0, 0, 0], [0, 1, 0, 0, 0, 0, 0, 0, 0, 0, 0, 0, 0, 2, 1, 1, 1, 1, 1, 1, 1, 1, 1, 0, 0, 0, 1, 1, 1, 1, 0, 0, 1, 1, 1, 1, 1, 0, 0, 0, 0, 0, 0, 0, 0, 0, 0, 1, 0, 1, 1, 1, 1, 0, 0, 0, 0, 0, 0, 0, 1, 1, 0, 1, 1, 1, 1, 0, 0, 1, 1, 1, 0, 0, 0, 1, 1, 1, 1, 1, 0, 1, 0]]
def ha_fc (ci k : Nat) : Nat := (ha_ft.getD ci []).getD k 0
def ha_nf (ci : Nat) : Nat := (ha_ft.getD ci []).length
def ha_val (ad : Nat → Nat) (S : ha_St) (n ci k : Nat) : Value := if ha_fc ci k = 0 then .int (ha_gI S n k) else if ha_fc ci k = 1 then va_rf ((ha_gR S n k).map ad) else .long (ha_gJ S n k)
/-- kinds below 100: an object of that class; 100 an int array, 101 a byte array, from 102 on arrays of references -/
def ha_cell (cs : Nat → ClassId) (ad kd ln : Nat → Nat) (S : ha_St) (n : Nat) : va_E :=
  if kd n < 100 then .inr (kd n, (List.range (ha_nf (kd n))).map (ha_val ad S n (kd n)))
  else if kd n < 102 then .inl (cs (kd n), ln n, .inl (ha_gA S n))
  else .inl (cs (kd n), ln n, .inr (.inr (.inr (.inr (fun j => (ha_gB S n j).map ad)))))
def ha_wl (cs : Nat → ClassId) (ad kd ln : Nat → Nat) (N : List Nat) (S : ha_St) : va_W := N.map (fun n => (ad n, ha_cell cs ad kd ln S n))
def ha_tys (cs : Nat → ClassId) : List (ClassId × FieldType) := [(cs 100, .int), (cs 101, .byte), (cs 102, .object "HillArms$Line"), (cs 103, .object "HillArms$Program"), (cs 104, .array .int)]
def ha_A (ad : Nat → Nat) (N : List Nat) : Nat → Prop := fun q => ∃ n, n ∈ N ∧ q = ad n
/-- a reference field's cell, of the kind ci -/
def ha_rf (kd : Nat → Nat) (S : ha_St) (n k ci : Nat) : Option Nat := (ha_gR S n k).bind fun r => if kd r = ci then some r else none
/-- a reference array's cell, of the kind ci -/
def ha_rb (kd : Nat → Nat) (S : ha_St) (n j ci : Nat) : Option Nat := (ha_gB S n j).bind fun r => if kd r = ci then some r else none
theorem ha_rf_some {kd : Nat → Nat} {S : ha_St} {n k ci r : Nat} (h : ha_rf kd S n k ci = some r) : ha_gR S n k = some r ∧ kd r = ci := by
  unfold ha_rf at h
  cases hr : ha_gR S n k with
  | none => rw [hr] at h; cases h
  | some x =>
    rw [hr] at h
    by_cases hk : kd x = ci
    · simp [hk] at h; subst h; exact ⟨rfl, hk⟩
    · simp [hk] at h
theorem ha_rb_some {kd : Nat → Nat} {S : ha_St} {n j ci r : Nat} (h : ha_rb kd S n j ci = some r) : ha_gB S n j = some r ∧ kd r = ci := by
  unfold ha_rb at h
  cases hr : ha_gB S n j with
  | none => rw [hr] at h; cases h
  | some x =>
    rw [hr] at h
    by_cases hk : kd x = ci
    · simp [hk] at h; subst h; exact ⟨rfl, hk⟩
    · simp [hk] at h
/-! the words of the pure side -/
def ha_nm {α β : Type} (e : α) (k : α → β) : β := k e
def ha_gd {β : Type} (c : Prop) [Decidable c] (x : Option β) : Option β := if c then x else none
/-- a loop: F with itself behind it, at most n times round -/
def ha_itr {α β : Type} (F : (α → Option β) → α → Option β) : Nat → α → Option β
  | 0, _ => none
  | n + 1, a => F (ha_itr F n) a
def ha_fu : Nat := 100000
theorem ha_itr_0 {α β : Type} {F : (α → Option β) → α → Option β} {a : α} : ha_itr F 0 a = none := rfl
theorem ha_itr_s {α β : Type} {F : (α → Option β) → α → Option β} {n : Nat} {a : α} : ha_itr F (n + 1) a = F (ha_itr F n) a := rfl
theorem ha_it {β γ : Type} {c : Prop} [Decidable c] {A B : Option β} {k : β → Option γ} {r : Option γ} (h : (if c then A else B).bind k = r) (hc : c) : A.bind k = r := by rwa [if_pos hc] at h
theorem ha_if {β γ : Type} {c : Prop} [Decidable c] {A B : Option β} {k : β → Option γ} {r : Option γ} (h : (if c then A else B).bind k = r) (hc : ¬ c) : B.bind k = r := by rwa [if_neg hc] at h
theorem ha_gds {β γ : Type} {c : Prop} [Decidable c] {A : Option β} {k : β → Option γ} {r : γ} (h : (ha_gd c A).bind k = some r) : c ∧ A.bind k = some r := by
  unfold ha_gd at h
  by_cases hc : c
  · rw [if_pos hc] at h; exact ⟨hc, h⟩
  · rw [if_neg hc] at h; cases h
theorem ha_nms {α β γ : Type} {e x : α} {f : α → Option β} {k : β → Option γ} {r : Option γ} (h : (ha_nm e f).bind k = r) (hx : x = e) : (f x).bind k = r := by subst hx; exact h
theorem ha_bds {α β γ : Type} {e : Option α} {f : α → Option β} {k : β → Option γ} {r : γ} (h : (e.bind f).bind k = some r) : ∃ x, e = some x ∧ (f x).bind k = some r := by
  cases e with
  | none => cases h
  | some x => exact ⟨x, rfl, h⟩
theorem ha_as {α β γ : Type} {e : Option α} {f : α → Option β} {k : β → Option γ} {r : Option γ} (h : (e.bind f).bind k = r) : e.bind (fun x => (f x).bind k) = r := by
  cases e with
  | none => exact h
  | some x => exact h
theorem ha_rt {β : Type} {e : Option β} {r : β} (h : e = some r) : e.bind some = some r := by rw [h]; rfl
/-! the world's cells -/
section HAW
variable {cs : Nat → ClassId} {ad kd ln : Nat → Nat} {N : List Nat} {S S1 : ha_St}
theorem ha_wl_get {n : Nat} (hn : n ∈ N) : ∃ k : Nat, (ha_wl cs ad kd ln N S)[k]? = some (ad n, ha_cell cs ad kd ln S n) := by
  obtain ⟨k, hk⟩ := List.getElem?_of_mem hn
  exact ⟨k, by simp [ha_wl, hk]⟩
theorem ha_wl_set {A : Nat → Prop} (hD : va_D A (ha_wl cs ad kd ln N S)) {n k : Nat} {e0 e : va_E} (hn : n ∈ N) (hk : (ha_wl cs ad kd ln N S)[k]? = some (ad n, e0)) (he : ha_cell cs ad kd ln S1 n = e) (ho : ∀ x, x ≠ n → ha_cell cs ad kd ln S1 x = ha_cell cs ad kd ln S x) : (ha_wl cs ad kd ln N S).set k (ad n, e) = ha_wl cs ad kd ln N S1 := by
  obtain ⟨k2, hk2⟩ := List.getElem?_of_mem hn
  have h2 : (ha_wl cs ad kd ln N S)[k2]? = some (ad n, ha_cell cs ad kd ln S n) := by simp [ha_wl, hk2]
  have hkk : k = k2 := hD.1 k k2 _ _ hk h2 rfl
  subst hkk
  apply List.ext_getElem?
  intro j
  by_cases hj : j = k
  · subst hj
    rw [List.getElem?_set_self (List.getElem?_eq_some_iff.mp hk).1]
    simp [ha_wl, hk2, he]
  · rw [List.getElem?_set_ne (Ne.symm hj)]
    simp only [ha_wl, List.getElem?_map]
    cases hm : N[j]? with
    | none => rfl
    | some x =>
      have hne : x ≠ n := by
        intro e; subst e
        have h3 : (ha_wl cs ad kd ln N S)[j]? = some (ad x, ha_cell cs ad kd ln S x) := by simp [ha_wl, hm]
        exact hj (hD.1 j k _ _ h3 hk rfl)
      simp [ho x hne]
theorem ha_cell_o {n ci : Nat} (hkd : kd n = ci) (hci : ci < 100) : ha_cell cs ad kd ln S n = .inr (ci, (List.range (ha_nf ci)).map (ha_val ad S n ci)) := by simp [ha_cell, hkd, hci]
theorem ha_cell_i {n ci : Nat} (hkd : kd n = ci) (h1 : ¬ ci < 100) (h2 : ci < 102) : ha_cell cs ad kd ln S n = .inl (cs ci, ln n, .inl (ha_gA S n)) := by simp [ha_cell, hkd, h1, h2]
theorem ha_cell_q {n ci : Nat} (hkd : kd n = ci) (h1 : ¬ ci < 100) (h2 : ¬ ci < 102) : ha_cell cs ad kd ln S n = .inl (cs ci, ln n, .inr (.inr (.inr (.inr (fun j => (ha_gB S n j).map ad))))) := by simp [ha_cell, hkd, h1, h2]
theorem ha_cell_eq (n : Nat) (hI : ∀ k, ha_gI S1 n k = ha_gI S n k) (hJ : ∀ k, ha_gJ S1 n k = ha_gJ S n k) (hR : ∀ k, ha_gR S1 n k = ha_gR S n k) (hA : ha_gA S1 n = ha_gA S n) (hB : ha_gB S1 n = ha_gB S n) : ha_cell cs ad kd ln S1 n = ha_cell cs ad kd ln S n := by
  have hv : ∀ ci, ha_val ad S1 n ci = ha_val ad S n ci := fun ci => funext fun k => by simp [ha_val, hI, hJ, hR]
  simp [ha_cell, hv, hA, hB]
theorem ha_vals {n ci k Nf : Nat} {v : Value} (hl : k < Nf) (hv : ha_val ad S1 n ci k = v) (ho : ∀ j, j ≠ k → ha_val ad S1 n ci j = ha_val ad S n ci j) : ((List.range Nf).map (ha_val ad S n ci)).set k v = (List.range Nf).map (ha_val ad S1 n ci) := by
  apply List.ext_getElem?
  intro j
  by_cases hj : j = k
  · subst hj
    rw [List.getElem?_set_self (by simpa using hl)]
    simp [hl, hv]
  · rw [List.getElem?_set_ne (Ne.symm hj)]
    simp only [List.getElem?_map]
    by_cases hjl : j < Nf
    · simp [hjl, ho j hj]
    · simp [hjl]
end HAW
/-- how a field of a class of the world is reached from a method of 'own': slot k of class ci, kind 'code' -/
def ha_Fk (s : State) (args : Array Value) (own : String) (index ci k code : Nat) : Prop := ∃ (C : String) (T : u_T) (Nf : Nat) (Ts : List Cond), vwCl[ci]? = some (C, T, Nf) ∧ ci < 100 ∧ k < Nf ∧ ha_nf ci = Nf ∧ ha_fc ci k = code ∧ (∀ w ∈ Ts, w.before args s = true) ∧ (∀ w ∈ u_ws C T Nf, w ∈ Ts) ∧ (Cond.fieldLink own index (T k).1 (T k).2.1 (T k).2.2.1).before args s = true
/-- .. and written -/
def ha_Fp (s : State) (args : Array Value) (own : String) (index ci k code : Nat) (ty : FieldType) : Prop := ∃ (C : String) (T : u_T) (Nf : Nat) (Ts : List Cond) (ty0 : Nat → FieldType), vwCl[ci]? = some (C, T, Nf) ∧ ci < 100 ∧ k < Nf ∧ ha_nf ci = Nf ∧ ha_fc ci k = code ∧ (∀ w ∈ Ts, w.before args s = true) ∧ (∀ w ∈ u_ws C T Nf, w ∈ Ts) ∧ (Cond.fieldLink own index (T k).1 (T k).2.1 (T k).2.2.1).before args s = true ∧ (∀ k, k < Nf → parseFieldDescriptor (T k).2.2.1 = some (ty0 k)) ∧ (∀ a, a < Nf → ∀ b, b < Nf → a ≠ b → (T a).2.1 ≠ (T b).2.1) ∧ (T k).2.2.2 = false ∧ parseFieldDescriptor (T k).2.2.1 = some ty
section HAR
variable {p : Program} {l : Launch} {e : Env} {R : Room} {s : State} {m : MethodId} {args : Array Value} {below : List Frame} {meth : Method} {c : Code} {H : Heap} {locs : List Loc} {cells slots : Nat} {Q : State → Prop}
variable {cc : ByteArray} {pc : Nat} {ls : Array Slot} {rest : List Value} {D : va_G} {tys : List (ClassId × FieldType)} {H0 : Heap} {A : Nat → Prop}
variable {cs : Nat → ClassId} {ad kd ln : Nat → Nat} {N : List Nat} {S : ha_St} {own : String} {index ci k n : Nat}
theorem ha_geti (hexec : p.tables.exec = Jvm.exec) (hb : c.code = cc) (hown : s.vm.findClass own = some m.cls) (hK : va_K D vwCl tys s) (hP : va_P D vwCl (ha_wl cs ad kd ln N S) H) (hF : ha_Fk s args own index ci k 0) (hN : ∀ x, kd x < 999 → x ∈ N) (hkd : kd n = ci) (hdg : decode cc pc = .ok (.getfield index, 3))
    (kk : W p l e R s m args below meth c H locs cells slots Q (F0 m (pc + 3) ls (.int (ha_gI S n k) :: rest))) : W p l e R s m args below meth c H locs cells slots Q (F0 m pc ls (.ref (ad n) :: rest)) := by
  obtain ⟨C, T, Nf, Ts, hc, hci, hk, hnf, hfc, hts, hin, hlink⟩ := hF
  have hn : n ∈ N := hN n (by omega)
  obtain ⟨j, hj⟩ := ha_wl_get (cs := cs) (ad := ad) (kd := kd) (ln := ln) (S := S) hn
  rw [ha_cell_o hkd hci, hnf] at hj
  refine va_get hexec hb hts hin hown hK hP j hj hc k hk hlink (fun _ h => h) (v := .int (ha_gI S n k)) ?_ hdg kk
  simp [ha_val, hfc, hk]
theorem ha_getj (hexec : p.tables.exec = Jvm.exec) (hb : c.code = cc) (hown : s.vm.findClass own = some m.cls) (hK : va_K D vwCl tys s) (hP : va_P D vwCl (ha_wl cs ad kd ln N S) H) (hF : ha_Fk s args own index ci k 2) (hN : ∀ x, kd x < 999 → x ∈ N) (hkd : kd n = ci) (hdg : decode cc pc = .ok (.getfield index, 3))
    (kk : W p l e R s m args below meth c H locs cells slots Q (F0 m (pc + 3) ls (.long (ha_gJ S n k) :: rest))) : W p l e R s m args below meth c H locs cells slots Q (F0 m pc ls (.ref (ad n) :: rest)) := by
  obtain ⟨C, T, Nf, Ts, hc, hci, hk, hnf, hfc, hts, hin, hlink⟩ := hF
  have hn : n ∈ N := hN n (by omega)
  obtain ⟨j, hj⟩ := ha_wl_get (cs := cs) (ad := ad) (kd := kd) (ln := ln) (S := S) hn
  rw [ha_cell_o hkd hci, hnf] at hj
  refine va_get hexec hb hts hin hown hK hP j hj hc k hk hlink (fun _ h => h) (v := .long (ha_gJ S n k)) ?_ hdg kk
  simp [ha_val, hfc, hk]
theorem ha_getr (hexec : p.tables.exec = Jvm.exec) (hb : c.code = cc) (hown : s.vm.findClass own = some m.cls) (hK : va_K D vwCl tys s) (hP : va_P D vwCl (ha_wl cs ad kd ln N S) H) (hF : ha_Fk s args own index ci k 1) (hN : ∀ x, kd x < 999 → x ∈ N) (hkd : kd n = ci) {r : Nat} (hr : ha_gR S n k = some r) (hdg : decode cc pc = .ok (.getfield index, 3))
    (kk : W p l e R s m args below meth c H locs cells slots Q (F0 m (pc + 3) ls (.ref (ad r) :: rest))) : W p l e R s m args below meth c H locs cells slots Q (F0 m pc ls (.ref (ad n) :: rest)) := by
  obtain ⟨C, T, Nf, Ts, hc, hci, hk, hnf, hfc, hts, hin, hlink⟩ := hF
  have hn : n ∈ N := hN n (by omega)
  obtain ⟨j, hj⟩ := ha_wl_get (cs := cs) (ad := ad) (kd := kd) (ln := ln) (S := S) hn
  rw [ha_cell_o hkd hci, hnf] at hj
  refine va_get hexec hb hts hin hown hK hP j hj hc k hk hlink (fun _ h => h) (v := .ref (ad r)) ?_ hdg kk
  simp [ha_val, hfc, hk, hr, va_rf]
theorem ha_putV (hexec : p.tables.exec = Jvm.exec) (hb : c.code = cc) (hown : s.vm.findClass own = some m.cls) (hK : va_K D vwCl tys s) (hP : va_P D vwCl (ha_wl cs ad kd ln N S) H) (hD : va_D A (ha_wl cs ad kd ln N S)) (hS0 : va_S A H0 H locs) {code : Nat} {ty : FieldType} (hF : ha_Fp s args own index ci k code ty) (hN : ∀ x, kd x < 999 → x ∈ N) (hkd : kd n = ci) {v : Value} (hnr : narrow ty v = v) (hft : fits ty v = true) {S1 : ha_St} (hv : ha_fc ci k = code → ha_val ad S1 n ci k = v) (ho : ∀ j, j ≠ k → ha_val ad S1 n ci j = ha_val ad S n ci j) (hq : ∀ x, x ≠ n → ha_cell cs ad kd ln S1 x = ha_cell cs ad kd ln S x) (hdg : decode cc pc = .ok (.putfield index, 3))
    (kk : ∀ (H1 : Heap) (locs1 : List Loc), va_P D vwCl (ha_wl cs ad kd ln N S1) H1 → va_D A (ha_wl cs ad kd ln N S1) → va_S A H0 H1 locs1 → W p l e R s m args below meth c H1 locs1 cells slots Q (F0 m (pc + 3) ls rest)) : W p l e R s m args below meth c H locs cells slots Q (F0 m pc ls (v :: .ref (ad n) :: rest)) := by
  obtain ⟨C, T, Nf, Ts, ty0, hc, hci, hk, hnf, hfc, hts, hin, hlink, hty, hnm, hfin, hd⟩ := hF
  have hn : n ∈ N := hN n (by omega)
  obtain ⟨j, hj⟩ := ha_wl_get (cs := cs) (ad := ad) (kd := kd) (ln := ln) (S := S) hn
  rw [ha_cell_o hkd hci, hnf] at hj
  refine va_put hexec hb hts hin ty0 hty hnm hown hK hP hD hS0 j hj hc k hk hlink (fun _ h => h) hfin hd hnr hft (by simpa using hk) hdg fun H1 locs1 hP1 hD1 hS1 => ?_
  have e : (ha_wl cs ad kd ln N S).set j (ad n, .inr (ci, ((List.range Nf).map (ha_val ad S n ci)).set k v)) = ha_wl cs ad kd ln N S1 := by
    refine ha_wl_set hD hn hj ?_ hq
    rw [ha_cell_o hkd hci, hnf, ha_vals hk (hv hfc) ho]
  rw [e] at hP1 hD1
  exact kk H1 locs1 hP1 hD1 hS1
theorem ha_puti (hexec : p.tables.exec = Jvm.exec) (hb : c.code = cc) (hown : s.vm.findClass own = some m.cls) (hK : va_K D vwCl tys s) (hP : va_P D vwCl (ha_wl cs ad kd ln N S) H) (hD : va_D A (ha_wl cs ad kd ln N S)) (hS0 : va_S A H0 H locs) (hF : ha_Fp s args own index ci k 0 .int) (hN : ∀ x, kd x < 999 → x ∈ N) (hkd : kd n = ci) {v : Int32} (hdg : decode cc pc = .ok (.putfield index, 3))
    (kk : ∀ (S1 : ha_St) (H1 : Heap) (locs1 : List Loc), S1 = ha_sI S n k v → va_P D vwCl (ha_wl cs ad kd ln N S1) H1 → va_D A (ha_wl cs ad kd ln N S1) → va_S A H0 H1 locs1 → W p l e R s m args below meth c H1 locs1 cells slots Q (F0 m (pc + 3) ls rest)) : W p l e R s m args below meth c H locs cells slots Q (F0 m pc ls (.int v :: .ref (ad n) :: rest)) := by
  refine ha_putV hexec hb hown hK hP hD hS0 hF hN hkd rfl rfl (S1 := ha_sI S n k v) (fun h => by simp [ha_val, h, ha_gI, ha_sI]) (fun j hj => by simp [ha_val, ha_gI, ha_gR, ha_gJ, ha_sI, hj]) (fun x hx => ha_cell_eq x (fun j => by simp [ha_gI, ha_sI, hx]) (fun _ => rfl) (fun _ => rfl) rfl rfl) hdg fun H1 locs1 hP1 hD1 hS1 => kk _ H1 locs1 rfl hP1 hD1 hS1
theorem ha_putz (hexec : p.tables.exec = Jvm.exec) (hb : c.code = cc) (hown : s.vm.findClass own = some m.cls) (hK : va_K D vwCl tys s) (hP : va_P D vwCl (ha_wl cs ad kd ln N S) H) (hD : va_D A (ha_wl cs ad kd ln N S)) (hS0 : va_S A H0 H locs) (hF : ha_Fp s args own index ci k 0 .boolean) (hN : ∀ x, kd x < 999 → x ∈ N) (hkd : kd n = ci) {v : Int32} (hz : v = 0 ∨ v = 1) (hdg : decode cc pc = .ok (.putfield index, 3))
    (kk : ∀ (S1 : ha_St) (H1 : Heap) (locs1 : List Loc), S1 = ha_sI S n k v → va_P D vwCl (ha_wl cs ad kd ln N S1) H1 → va_D A (ha_wl cs ad kd ln N S1) → va_S A H0 H1 locs1 → W p l e R s m args below meth c H1 locs1 cells slots Q (F0 m (pc + 3) ls rest)) : W p l e R s m args below meth c H locs cells slots Q (F0 m pc ls (.int v :: .ref (ad n) :: rest)) := by
  refine ha_putV hexec hb hown hK hP hD hS0 hF hN hkd (by rcases hz with rfl | rfl <;> rfl) (by rcases hz with rfl | rfl <;> rfl) (S1 := ha_sI S n k v) (fun h => by simp [ha_val, h, ha_gI, ha_sI]) (fun j hj => by simp [ha_val, ha_gI, ha_gR, ha_gJ, ha_sI, hj]) (fun x hx => ha_cell_eq x (fun j => by simp [ha_gI, ha_sI, hx]) (fun _ => rfl) (fun _ => rfl) rfl rfl) hdg fun H1 locs1 hP1 hD1 hS1 => kk _ H1 locs1 rfl hP1 hD1 hS1
theorem ha_putj (hexec : p.tables.exec = Jvm.exec) (hb : c.code = cc) (hown : s.vm.findClass own = some m.cls) (hK : va_K D vwCl tys s) (hP : va_P D vwCl (ha_wl cs ad kd ln N S) H) (hD : va_D A (ha_wl cs ad kd ln N S)) (hS0 : va_S A H0 H locs) (hF : ha_Fp s args own index ci k 2 .long) (hN : ∀ x, kd x < 999 → x ∈ N) (hkd : kd n = ci) {v : Int64} (hdg : decode cc pc = .ok (.putfield index, 3))
    (kk : ∀ (S1 : ha_St) (H1 : Heap) (locs1 : List Loc), S1 = ha_sJ S n k v → va_P D vwCl (ha_wl cs ad kd ln N S1) H1 → va_D A (ha_wl cs ad kd ln N S1) → va_S A H0 H1 locs1 → W p l e R s m args below meth c H1 locs1 cells slots Q (F0 m (pc + 3) ls rest)) : W p l e R s m args below meth c H locs cells slots Q (F0 m pc ls (.long v :: .ref (ad n) :: rest)) := by
  refine ha_putV hexec hb hown hK hP hD hS0 hF hN hkd rfl rfl (S1 := ha_sJ S n k v) (fun h => by simp [ha_val, h, ha_gJ, ha_sJ]) (fun j hj => by simp [ha_val, ha_gI, ha_gR, ha_gJ, ha_sJ, hj]) (fun x hx => ha_cell_eq x (fun _ => rfl) (fun j => by simp [ha_gJ, ha_sJ, hx]) (fun _ => rfl) rfl rfl) hdg fun H1 locs1 hP1 hD1 hS1 => kk _ H1 locs1 rfl hP1 hD1 hS1
theorem ha_putr (hexec : p.tables.exec = Jvm.exec) (hb : c.code = cc) (hown : s.vm.findClass own = some m.cls) (hK : va_K D vwCl tys s) (hP : va_P D vwCl (ha_wl cs ad kd ln N S) H) (hD : va_D A (ha_wl cs ad kd ln N S)) (hS0 : va_S A H0 H locs) {ty : FieldType} (hF : ha_Fp s args own index ci k 1 ty) (hN : ∀ x, kd x < 999 → x ∈ N) (hkd : kd n = ci) {r : Nat} (hnr : narrow ty (.ref (ad r)) = .ref (ad r)) (hft : fits ty (.ref (ad r)) = true) (hdg : decode cc pc = .ok (.putfield index, 3))
    (kk : ∀ (S1 : ha_St) (H1 : Heap) (locs1 : List Loc), S1 = ha_sR S n k (some r) → va_P D vwCl (ha_wl cs ad kd ln N S1) H1 → va_D A (ha_wl cs ad kd ln N S1) → va_S A H0 H1 locs1 → W p l e R s m args below meth c H1 locs1 cells slots Q (F0 m (pc + 3) ls rest)) : W p l e R s m args below meth c H locs cells slots Q (F0 m pc ls (.ref (ad r) :: .ref (ad n) :: rest)) := by
  refine ha_putV hexec hb hown hK hP hD hS0 hF hN hkd hnr hft (S1 := ha_sR S n k (some r)) (fun h => by simp [ha_val, h, ha_gR, ha_sR, va_rf]) (fun j hj => by simp [ha_val, ha_gI, ha_gR, ha_gJ, ha_sR, hj]) (fun x hx => ha_cell_eq x (fun _ => rfl) (fun _ => rfl) (fun j => by simp [ha_gR, ha_sR, hx]) rfl rfl) hdg fun H1 locs1 hP1 hD1 hS1 => kk _ H1 locs1 rfl hP1 hD1 hS1
/-! arrays -/
theorem ha_iald (hexec : p.tables.exec = Jvm.exec) (hb : c.code = cc) (hK : va_K D vwCl (ha_tys cs) s) (hP : va_P D vwCl (ha_wl cs ad kd ln N S) H) (hN : ∀ x, kd x < 999 → x ∈ N) (hkd : kd n = 100) {i : Int32} (hin : vp_in i (ln n)) (hdg : decode cc pc = .ok (.iaload, 1))
    (kk : W p l e R s m args below meth c H locs cells slots Q (F0 m (pc + 1) ls (.int (ha_gA S n i.toNatClampNeg) :: rest))) : W p l e R s m args below meth c H locs cells slots Q (F0 m pc ls (.int i :: .ref (ad n) :: rest)) := by
  have hn : n ∈ N := hN n (by omega)
  obtain ⟨j, hj⟩ := ha_wl_get (cs := cs) (ad := ad) (kd := kd) (ln := ln) (S := S) hn
  rw [ha_cell_i hkd (by omega) (by omega)] at hj
  exact va_iald hexec hb hK hP j 0 hj rfl hin hdg kk
theorem ha_bald (hexec : p.tables.exec = Jvm.exec) (hb : c.code = cc) (hK : va_K D vwCl (ha_tys cs) s) (hP : va_P D vwCl (ha_wl cs ad kd ln N S) H) (hN : ∀ x, kd x < 999 → x ∈ N) (hkd : kd n = 101) {i : Int32} (hin : vp_in i (ln n)) (hdg : decode cc pc = .ok (.baload, 1))
    (kk : W p l e R s m args below meth c H locs cells slots Q (F0 m (pc + 1) ls (.int (ha_gA S n i.toNatClampNeg) :: rest))) : W p l e R s m args below meth c H locs cells slots Q (F0 m pc ls (.int i :: .ref (ad n) :: rest)) := by
  have hn : n ∈ N := hN n (by omega)
  obtain ⟨j, hj⟩ := ha_wl_get (cs := cs) (ad := ad) (kd := kd) (ln := ln) (S := S) hn
  rw [ha_cell_i hkd (by omega) (by omega)] at hj
  exact va_bald hexec hb hK hP j 1 hj rfl hin hdg kk
theorem ha_sAq (hD : va_D A (ha_wl cs ad kd ln N S)) {j : Nat} {e0 : va_E} (hn : n ∈ N) (hj : (ha_wl cs ad kd ln N S)[j]? = some (ad n, e0)) (hkd : kd n = ci) (h1 : ¬ ci < 100) (h2 : ci < 102) (f : Nat → Int32) : (ha_wl cs ad kd ln N S).set j (ad n, .inl (cs ci, ln n, .inl f)) = ha_wl cs ad kd ln N (ha_sA S n f) := by
  refine ha_wl_set hD hn hj ?_ (fun x hx => ha_cell_eq x (fun _ => rfl) (fun _ => rfl) (fun _ => rfl) (by simp [ha_gA, ha_sA, hx]) rfl)
  rw [ha_cell_i hkd h1 h2]
  simp [ha_gA, ha_sA]
theorem ha_iast (hexec : p.tables.exec = Jvm.exec) (hb : c.code = cc) (hK : va_K D vwCl (ha_tys cs) s) (hP : va_P D vwCl (ha_wl cs ad kd ln N S) H) (hD : va_D A (ha_wl cs ad kd ln N S)) (hS0 : va_S A H0 H locs) (hN : ∀ x, kd x < 999 → x ∈ N) (hkd : kd n = 100) {i x : Int32} (hin : vp_in i (ln n)) (hdg : decode cc pc = .ok (.iastore, 1))
    (kk : ∀ (S1 : ha_St) (H1 : Heap) (locs1 : List Loc), S1 = ha_sA S n (upd (ha_gA S n) i.toNatClampNeg x) → va_P D vwCl (ha_wl cs ad kd ln N S1) H1 → va_D A (ha_wl cs ad kd ln N S1) → va_S A H0 H1 locs1 → W p l e R s m args below meth c H1 locs1 cells slots Q (F0 m (pc + 1) ls rest)) : W p l e R s m args below meth c H locs cells slots Q (F0 m pc ls (.int x :: .int i :: .ref (ad n) :: rest)) := by
  have hn : n ∈ N := hN n (by omega)
  obtain ⟨j, hj⟩ := ha_wl_get (cs := cs) (ad := ad) (kd := kd) (ln := ln) (S := S) hn
  rw [ha_cell_i hkd (by omega) (by omega)] at hj
  refine va_iast hexec hb hK hP hD hS0 j 0 hj rfl hin hdg fun H1 locs1 hP1 hD1 hS1 => ?_
  rw [ha_sAq hD hn hj hkd (by omega) (by omega)] at hP1 hD1
  exact kk _ H1 locs1 rfl hP1 hD1 hS1
theorem ha_bast (hexec : p.tables.exec = Jvm.exec) (hb : c.code = cc) (hK : va_K D vwCl (ha_tys cs) s) (hP : va_P D vwCl (ha_wl cs ad kd ln N S) H) (hD : va_D A (ha_wl cs ad kd ln N S)) (hS0 : va_S A H0 H locs) (hN : ∀ x, kd x < 999 → x ∈ N) (hkd : kd n = 101) {i x : Int32} (hin : vp_in i (ln n)) (hdg : decode cc pc = .ok (.bastore, 1))
    (kk : ∀ (S1 : ha_St) (H1 : Heap) (locs1 : List Loc), S1 = ha_sA S n (upd (ha_gA S n) i.toNatClampNeg (vp_nar .byte x)) → va_P D vwCl (ha_wl cs ad kd ln N S1) H1 → va_D A (ha_wl cs ad kd ln N S1) → va_S A H0 H1 locs1 → W p l e R s m args below meth c H1 locs1 cells slots Q (F0 m (pc + 1) ls rest)) : W p l e R s m args below meth c H locs cells slots Q (F0 m pc ls (.int x :: .int i :: .ref (ad n) :: rest)) := by
  have hn : n ∈ N := hN n (by omega)
  obtain ⟨j, hj⟩ := ha_wl_get (cs := cs) (ad := ad) (kd := kd) (ln := ln) (S := S) hn
  rw [ha_cell_i hkd (by omega) (by omega)] at hj
  refine va_bast hexec hb hK hP hD hS0 j 1 hj rfl hin hdg fun H1 locs1 hP1 hD1 hS1 => ?_
  rw [ha_sAq hD hn hj hkd (by omega) (by omega)] at hP1 hD1
  exact kk _ H1 locs1 rfl hP1 hD1 hS1
theorem ha_aald (hexec : p.tables.exec = Jvm.exec) (hb : c.code = cc) (hK : va_K D vwCl (ha_tys cs) s) (hP : va_P D vwCl (ha_wl cs ad kd ln N S) H) (hN : ∀ x, kd x < 999 → x ∈ N) (hkd : kd n = ci) (hci : ci = 102 ∨ ci = 103) {i : Int32} (hin : vp_in i (ln n)) {r : Nat} (hr : ha_gB S n i.toNatClampNeg = some r) (hdg : decode cc pc = .ok (.aaload, 1))
    (kk : W p l e R s m args below meth c H locs cells slots Q (F0 m (pc + 1) ls (.ref (ad r) :: rest))) : W p l e R s m args below meth c H locs cells slots Q (F0 m pc ls (.int i :: .ref (ad n) :: rest)) := by
  have hn : n ∈ N := hN n (by omega)
  obtain ⟨j, hj⟩ := ha_wl_get (cs := cs) (ad := ad) (kd := kd) (ln := ln) (S := S) hn
  rw [ha_cell_q hkd (by omega) (by omega)] at hj
  rcases hci with rfl | rfl
  · refine va_aldq hexec hb hK hP j 2 (C := "HillArms$Line") hj rfl hin hdg ?_
    rw [hr]; exact kk
  · refine va_aldq hexec hb hK hP j 3 (C := "HillArms$Program") hj rfl hin hdg ?_
    rw [hr]; exact kk
theorem ha_alen (hexec : p.tables.exec = Jvm.exec) (hb : c.code = cc) (hK : va_K D vwCl (ha_tys cs) s) (hP : va_P D vwCl (ha_wl cs ad kd ln N S) H) (hN : ∀ x, kd x < 999 → x ∈ N) (hkd : kd n = ci) (h1 : 100 ≤ ci) (h2 : ci < 105) (hdg : decode cc pc = .ok (.arraylength, 1))
    (kk : W p l e R s m args below meth c H locs cells slots Q (F0 m (pc + 1) ls (.int (nI (ln n)) :: rest))) : W p l e R s m args below meth c H locs cells slots Q (F0 m pc ls (.ref (ad n) :: rest)) := by
  have hn : n ∈ N := hN n (by omega)
  obtain ⟨j, hj⟩ := ha_wl_get (cs := cs) (ad := ad) (kd := kd) (ln := ln) (S := S) hn
  have ht : ∃ ty, (ha_tys cs)[ci - 100]? = some (cs ci, ty) := by
    rcases (show ci = 100 ∨ ci = 101 ∨ ci = 102 ∨ ci = 103 ∨ ci = 104 by omega) with rfl | rfl | rfl | rfl | rfl <;> exact ⟨_, rfl⟩
  obtain ⟨ty, ht⟩ := ht
  by_cases h3 : ci < 102
  · rw [ha_cell_i hkd (by omega) h3] at hj
    exact va_alen hexec hb hK hP j (ci - 100) hj ht rfl hdg kk
  · rw [ha_cell_q hkd (by omega) h3] at hj
    exact va_alen hexec hb hK hP j (ci - 100) hj ht rfl hdg kk
end HAR
