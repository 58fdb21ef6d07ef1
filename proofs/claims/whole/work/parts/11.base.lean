/-! THE TWO WORLDS' NAMES. The class: objects 0 HillArms, 1 Tape, 2 Crew, 3 Reader, 4 Play, 5 Breaker, 6 Entries, 7 coded, 8 yearPages, 9 Delays, 10 HillDays, 11..13 the crew's programs, 14 the reader's first, 15 spare, 16 the play's line, 17 tried, 20..80 calm, 81..91 once; the array of object o's slot k is 100 + 16 o + k; the rows of Delays.most are 2000 .. 2016. The model: 0 itself, its slot k's array k + 1. -/
def ha_ush (x y : Int32) : Int32 := (x.toUInt32 >>> (y.toUInt32 &&& Int32.toUInt32 31)).toInt32
def xo_ob : List Nat := [11, 10, 1, 9, 7, 0, 3, 6, 6, 2, 4, 8, 8, 8, 8, 8, 5, 5, 999, 999, 5, 5, 5, 5, 5, 5, 5, 5, 5, 5, 5, 5, 5, 5, 5, 5, 5, 5, 5, 5, 5, 5, 5, 5, 5, 5, 5, 5, 5, 5, 5, 5, 5, 5, 5, 5, 5, 5, 5, 5, 5, 5, 5, 5, 5, 5, 5, 5, 5, 5, 5, 5, 5, 5, 5, 5, 5, 5, 5, 5, 5, 5, 5, 5, 5, 5, 5, 5, 5, 5, 5, 5]
def xo_at : List (List Nat) := [[102, 102, 999, 100, 100, 999, 999, 999, 100, 100, 999], [103, 100, 100, 100, 100, 999, 999, 999], [100, 100, 100, 100, 104, 999, 999, 999, 999], [100, 100, 100, 999], [100, 999, 999], [100, 100, 100, 100, 999, 999, 999, 999], [100, 100, 100, 100, 999, 999, 999, 999], [999, 100, 999, 999, 999], [100, 100, 100, 100, 100, 100, 100, 100, 999, 999, 999, 999], [100, 999, 999, 999, 999, 999, 999, 999], [100, 999], [999, 999, 999, 999, 999, 999, 999, 999, 100, 999, 999, 999, 999, 999, 999, 999, 999], [999, 100, 999, 999, 999, 999, 999, 999, 999, 999, 999, 999, 999, 999, 100, 100, 100, 100, 100, 100, 100, 100, 100, 999, 999, 999, 100, 100, 100, 100, 999, 999, 100, 100, 100, 100, 100, 999, 999, 999, 999, 999, 999, 999, 999, 999, 999, 100, 999, 101, 100, 100, 100, 999, 999, 999, 999, 999, 999, 999, 100, 100, 999, 100, 100, 100, 100, 999, 999, 100, 100, 100, 999, 999, 999, 100, 100, 100, 100, 100, 999, 100, 999]]
def xo_lt : List (List Nat) := [[0, 0, 0, 0, 0, 0, 0, 0, 60], [440], [3, 60, 501, 16, 110], [0], [0, 8016], [61, 11, 0, 70, 70, 0, 0, 0, 2, 2], [144, 12, 12], [61, 31, 31, 31], [488, 241, 241, 241], [60, 60, 60, 60, 17], [112], [20, 20, 40, 40, 40, 40, 40, 40], [20, 20, 40, 40, 40, 40, 40, 40], [20, 20, 40, 40, 40, 40, 40, 40], [20, 20, 40, 40, 40, 40, 40, 40], [20, 20, 40, 40, 40, 40, 40, 40], [16, 16, 64, 100], [8, 8, 32, 0], [], [], [8, 8, 32, 0], [8, 8, 32, 0], [8, 8, 32, 0], [8, 8, 32, 0], [8, 8, 32, 0], [8, 8, 32, 0], [8, 8, 32, 0], [8, 8, 32, 0], [8, 8, 32, 0], [8, 8, 32, 0], [8, 8, 32, 0], [8, 8, 32, 0], [8, 8, 32, 0], [8, 8, 32, 0], [8, 8, 32, 0], [8, 8, 32, 0], [8, 8, 32, 0], [8, 8, 32, 0], [8, 8, 32, 0], [8, 8, 32, 0], [8, 8, 32, 0], [8, 8, 32, 0], [8, 8, 32, 0], [8, 8, 32, 0], [8, 8, 32, 0], [8, 8, 32, 0], [8, 8, 32, 0], [8, 8, 32, 0], [8, 8, 32, 0], [8, 8, 32, 0], [8, 8, 32, 0], [8, 8, 32, 0], [8, 8, 32, 0], [8, 8, 32, 0], [8, 8, 32, 0], [8, 8, 32, 0], [8, 8, 32, 0], [8, 8, 32, 0], [8, 8, 32, 0], [8, 8, 32, 0], [8, 8, 32, 0], [8, 8, 32, 0], [8, 8, 32, 0], [8, 8, 32, 0], [8, 8, 32, 0], [8, 8, 32, 0], [8, 8, 32, 0], [8, 8, 32, 0], [8, 8, 32, 0], [8, 8, 32, 0], [8, 8, 32, 0], [8, 8, 32, 0], [8, 8, 32, 0], [8, 8, 32, 0], [8, 8, 32, 0], [8, 8, 32, 0], [8, 8, 32, 0], [8, 8, 32, 0], [8, 8, 32, 0], [8, 8, 32, 0], [8, 8, 32, 0], [8, 8, 32, 0], [8, 8, 32, 0], [8, 8, 32, 0], [8, 8, 32, 0], [8, 8, 32, 0], [8, 8, 32, 0], [8, 8, 32, 0], [8, 8, 32, 0], [8, 8, 32, 0], [8, 8, 32, 0], [8, 8, 32, 0]]
def xo_kd (n : Nat) : Nat := if n < 100 then xo_ob.getD n 999 else if n < 1600 then (xo_at.getD (xo_ob.getD ((n - 100) / 16) 999) []).getD ((n - 100) % 16) 999 else if n < 2000 then 999 else if n < 2017 then 100 else 999
def xo_ln (n : Nat) : Nat := if n < 100 then 0 else if n < 1600 then (xo_lt.getD ((n - 100) / 16) []).getD ((n - 100) % 16) 0 else if n < 2000 then 0 else if n < 2017 then 17 else 0
def mo_mk : List Nat := [999, 100, 999, 999, 999, 999, 999, 999, 999, 999, 999, 999, 999, 999, 100, 100, 100, 100, 100, 100, 100, 100, 100, 999, 999, 999, 100, 100, 100, 100, 999, 999, 100, 100, 100, 100, 100, 999, 999, 999, 999, 999, 999, 999, 999, 999, 999, 100, 999, 101, 100, 100, 100, 999, 999, 999, 999, 999, 999, 999, 100, 100, 999, 100, 100, 100, 100, 999, 999, 100, 100, 100, 999, 999, 999, 100, 100, 100, 100, 100, 999, 100, 999]
def mo_ml : List Nat := [0, 440, 0, 0, 0, 0, 0, 0, 0, 0, 0, 0, 0, 0, 4, 80, 80, 160, 160, 160, 160, 160, 160, 0, 0, 0, 60, 60, 60, 60, 0, 0, 16, 16, 64, 16, 100, 0, 0, 0, 0, 0, 0, 0, 0, 0, 0, 64, 0, 8016, 64, 16, 100, 0, 0, 0, 0, 0, 0, 0, 2, 2, 0, 144, 12, 480, 8, 0, 0, 60, 61, 60, 0, 0, 0, 60, 60, 60, 60, 289, 0, 112, 0]
def mo_kd (n : Nat) : Nat := if n = 0 then 12 else mo_mk.getD (n - 1) 999
def mo_ln (n : Nat) : Nat := if n = 0 then 0 else mo_ml.getD (n - 1) 0
/-- the two constants' lengths, signs, places -/
def xo_sl (i : Nat) : Nat := [7, 102].getD i 0
/-! what the class's methods ask of the machine beside the tables' words: links between nest mates, the Reader's two String constants -/
def xo_byt : List (List Int32) := [[59, 44, 43, 60, 61, 62, 35], [108, 101, 102, 116, 32, 32, 114, 105, 103, 104, 116, 32, 111, 119, 110, 32, 32, 32, 116, 105, 109, 101, 32, 32, 119, 111, 114, 100, 32, 32, 98, 108, 105, 110, 100, 32, 97, 32, 32, 32, 32, 32, 98, 32, 32, 32, 32, 32, 99, 32, 32, 32, 32, 32, 100, 32, 32, 32, 32, 32, 119, 104, 101, 110, 32, 32, 97, 110, 100, 32, 32, 32, 100, 111, 32, 32, 32, 32, 115, 104, 111, 119, 32, 32, 105, 115, 32, 32, 32, 32, 119, 114, 105, 116, 101, 32, 115, 101, 110, 116, 32, 32]]
def xo_by (i j : Nat) : Int32 := (xo_byt.getD i []).getD j 0
def xo_NL (U : State) : Prop := va_Nw (.methodLinkNest RX9 96 yX11_isLetter "HillArms") U ∧ va_Nw (.methodLinkNest RX9 99 yX11_isDigit "HillArms") U ∧ va_Nw (.methodLinkNest RX10 19 yX11_isLetter "HillArms") U ∧ va_Nw (.methodLinkNest RX6 48 yX11_isLetter "HillArms") U ∧ va_Nw (.methodLinkNest RX3 35 yX11_isLetter "HillArms") U
def xo_St (adK adV : Nat → Nat) (A : Nat → Prop) (U : State) : Prop := vk_S 2 [7, 102] xo_byt adK adV A U U.heap ∧ vk_R RX9 109 ";,+<=>#" (adK 0) U ∧ vk_R RX9 117 "left  right own   time  word  blind a     b     c     d     when  and   do    show  is    write sent  " (adK 1) U ∧ va_Z "java/lang/String" "COMPACT_STRINGS" "Z" (.int 1) A U U.heap ∧ va_Zq "jdk/internal/util/Preconditions" "SIOOBE_FORMATTER" "Ljava/util/function/BiFunction;" A U U.heap
def xo_Z (adK adV : Nat → Nat) (A : Nat → Prop) (U : State) : Prop := xo_NL U ∧ xo_St adK adV A U
theorem xo_nl_X9_96 {adK adV : Nat → Nat} {A : Nat → Prop} {U : State} (h : xo_Z adK adV A U) : va_Nw (.methodLinkNest RX9 96 yX11_isLetter "HillArms") U := h.1.1
theorem xo_nl_X9_99 {adK adV : Nat → Nat} {A : Nat → Prop} {U : State} (h : xo_Z adK adV A U) : va_Nw (.methodLinkNest RX9 99 yX11_isDigit "HillArms") U := h.1.2.1
theorem xo_nl_X10_19 {adK adV : Nat → Nat} {A : Nat → Prop} {U : State} (h : xo_Z adK adV A U) : va_Nw (.methodLinkNest RX10 19 yX11_isLetter "HillArms") U := h.1.2.2.1
theorem xo_nl_X6_48 {adK adV : Nat → Nat} {A : Nat → Prop} {U : State} (h : xo_Z adK adV A U) : va_Nw (.methodLinkNest RX6 48 yX11_isLetter "HillArms") U := h.1.2.2.2.1
theorem xo_nl_X3_35 {adK adV : Nat → Nat} {A : Nat → Prop} {U : State} (h : xo_Z adK adV A U) : va_Nw (.methodLinkNest RX3 35 yX11_isLetter "HillArms") U := h.1.2.2.2.2
abbrev ha_cpOk (sp dp n : Int32) (l0 l1 : Nat) : Prop := ¬ sp < 0 ∧ ¬ dp < 0 ∧ ¬ n < 0 ∧ sp.toNatClampNeg + n.toNatClampNeg ≤ l0 ∧ dp.toNatClampNeg + n.toNatClampNeg ≤ l1
section HAB
variable {p : Program} {l : Launch} {e : Env} {R : Room} {s : State} {m : MethodId} {args : Array Value} {below : List Frame} {meth : Method} {c : Code} {H : Heap} {locs : List Loc} {cells slots : Nat} {Q : State → Prop}
variable {cc : ByteArray} {pc : Nat} {ls : Array Slot} {rest : List Value} {D : va_G} {H0 : Heap} {A : Nat → Prop}
variable {cs : Nat → ClassId} {ad kd ln : Nat → Nat} {N : List Nat} {S : ha_St} {own : String} {index ci k n : Nat}
theorem ha_tsin (hexec : p.tables.exec = Jvm.exec) (hb : c.code = cc) {dflt lo hi : Int} {offs : Array Int} {len : Nat} {x : Int32} {off : Int} {tgt : Nat} (hdg : decode cc pc = .ok (.tableswitch dflt lo hi offs, len)) (v : Int32) (hv : x = v) (h1 : ¬ v.toInt < lo ∧ ¬ hi < v.toInt) (ho : offs[(v.toInt - lo).toNat]? = some off) (ht : (pc : Int) + off = (tgt : Int))
    (k : W p l e R s m args below meth c H locs cells slots Q (F0 m tgt ls rest)) : W p l e R s m args below meth c H locs cells slots Q (F0 m pc ls (.int x :: rest)) := by
  subst hv
  exact lv_tableIn hexec hb hdg h1.1 h1.2 ho ht k
theorem ha_lsin (hexec : p.tables.exec = Jvm.exec) (hb : c.code = cc) {dflt : Int} {ps : Array (Int × Int)} {len : Nat} {x : Int32} {off : Int} {tgt : Nat} (hdg : decode cc pc = .ok (.lookupswitch dflt ps, len)) (hp : (ps.toList.zip (ps.toList.drop 1)).all (fun (a, next) => a.1 < next.1) = true) (v : Int32) (hv : x = v) (ho : Op.lookupswitch.offset ps.toList dflt v.toInt = off) (ht : (pc : Int) + off = (tgt : Int))
    (k : W p l e R s m args below meth c H locs cells slots Q (F0 m tgt ls rest)) : W p l e R s m args below meth c H locs cells slots Q (F0 m pc ls (.int x :: rest)) := by
  subst hv
  exact lv_lookup hexec hb hdg hp ho ht k
theorem ha_copy (hexec : p.tables.exec = Jvm.exec) (hb : c.code = cc) (hml : c.maxLocals = ls.size) (hown : s.vm.findClass own = some m.cls) (hlink : (Cond.methodLink own index arraycopyName).before args s = true) (hnat : (Cond.native arraycopyName).before args s = true) (hstat : (Cond.static arraycopyName).before args s = true) (hini : (Cond.initialized "java/lang/System").before args s = true)
    (hK : va_K D vwCl (ha_tys cs) s) (hP : va_P D vwCl (ha_wl cs ad kd ln N S) H) (hD : va_D A (ha_wl cs ad kd ln N S)) (hS0 : va_S A H0 H locs) (hN : ∀ x, kd x < 999 → x ∈ N) {a0 : Nat} (h0 : kd a0 = 100) (hkd : kd n = 100) {sp dp q : Int32} (hok : ha_cpOk sp dp q (ln a0) (ln n)) (hframes : 1 ≤ R.frames) (hlocals : (rest.map fun v => v.category).sum + (nativeFrameWords "java/lang/System" "arraycopy" 5 + 11) ≤ R.locals) (hdg : decode cc pc = .ok (.invokestatic index, 3))
    (kk : ∀ (S1 : ha_St) (H1 : Heap) (locs1 : List Loc), S1 = ha_sA S n (va_cpy (ha_gA S a0) (ha_gA S n) sp.toNatClampNeg dp.toNatClampNeg q.toNatClampNeg) → va_P D vwCl (ha_wl cs ad kd ln N S1) H1 → va_D A (ha_wl cs ad kd ln N S1) → va_S A H0 H1 locs1 → W p l e R s m args below meth c H1 locs1 cells slots Q (F0 m (pc + 3) ls rest)) : W p l e R s m args below meth c H locs cells slots Q (F0 m pc ls (.int q :: .int dp :: .ref (ad n) :: .int sp :: .ref (ad a0) :: rest)) := by
  have hn : n ∈ N := hN n (by omega)
  have hn0 : a0 ∈ N := hN a0 (by omega)
  obtain ⟨j, hj⟩ := ha_wl_get (cs := cs) (ad := ad) (kd := kd) (ln := ln) (S := S) hn
  rw [ha_cell_i hkd (by omega) (by omega)] at hj
  obtain ⟨j0, hj0⟩ := ha_wl_get (cs := cs) (ad := ad) (kd := kd) (ln := ln) (S := S) hn0
  rw [ha_cell_i h0 (by omega) (by omega)] at hj0
  obtain ⟨k1, k2, k3, k4, k5⟩ := hok
  refine va_copyi hexec hb hml hown hlink hnat hstat hini hK hP hD hS0 j0 j 0 0 (ty := .int) hj0 hj rfl rfl rfl k1 k2 k3 k4 k5 (fun _ _ => rfl) hframes hlocals hdg fun H1 locs1 hP1 hD1 hS1 => ?_
  rw [ha_sAq hD hn hj hkd (by omega) (by omega)] at hP1 hD1
  exact kk _ H1 locs1 rfl hP1 hD1 hS1
theorem ha_aalr (hexec : p.tables.exec = Jvm.exec) (hb : c.code = cc) (hK : va_K D vwCl (ha_tys cs) s) (hP : va_P D vwCl (ha_wl cs ad kd ln N S) H) (hN : ∀ x, kd x < 999 → x ∈ N) (hkd : kd n = 104) {i : Int32} (hin : vp_in i (ln n)) {r : Nat} (hr : ha_gB S n i.toNatClampNeg = some r) (hdg : decode cc pc = .ok (.aaload, 1))
    (kk : W p l e R s m args below meth c H locs cells slots Q (F0 m (pc + 1) ls (.ref (ad r) :: rest))) : W p l e R s m args below meth c H locs cells slots Q (F0 m pc ls (.int i :: .ref (ad n) :: rest)) := by
  have hn : n ∈ N := hN n (by omega)
  obtain ⟨j, hj⟩ := ha_wl_get (cs := cs) (ad := ad) (kd := kd) (ln := ln) (S := S) hn
  rw [ha_cell_q hkd (by omega) (by omega)] at hj
  have hlt : i.toNatClampNeg < ln n := Nat.not_le.mp fun q => hin (Or.inr q)
  have hty : (ha_tys cs)[4]? = some (cs 104, .array .int) := rfl
  refine W.aald (v := .ref (ad r)) hexec hb (hP j _ hj) ((hK.2 4 _ hty).1 (ln n) (fun j => va_rf ((ha_gB S n j).map ad))) rfl (fun q => by cases q) (by show ¬ (i < 0 ∨ (arrV _ _ _).slots.size ≤ _); rw [arrV_size]; exact hin) (by show (arrV _ _ _).slots[_]? = _; rw [arrV_read _ _ hlt]; show some (va_rf (Option.map ad (ha_gB S n i.toNatClampNeg))) = _; rw [hr]; rfl) rfl rfl hdg kk
theorem ha_aast {T : u_T} {C : String} {Nf : Nat} (hexec : p.tables.exec = Jvm.exec) (hb : c.code = cc) (hK : va_K D vwCl (ha_tys cs) s) (hP : va_P D vwCl (ha_wl cs ad kd ln N S) H) (hD : va_D A (ha_wl cs ad kd ln N S)) (hS0 : va_S A H0 H locs) (hN : ∀ x, kd x < 999 → x ∈ N) (hkd : kd n = 103) {r : Nat} (hr : kd r = 8) (hc : vwCl[8]? = some ("HillArms$Program", T, Nf)) {i : Int32} (hin : vp_in i (ln n)) (hdg : decode cc pc = .ok (.aastore, 1))
    (kk : ∀ (S1 : ha_St) (H1 : Heap) (locs1 : List Loc), S1 = ha_sB S n (va_up (ha_gB S n) i.toNatClampNeg (some r)) → va_P D vwCl (ha_wl cs ad kd ln N S1) H1 → va_D A (ha_wl cs ad kd ln N S1) → va_S A H0 H1 locs1 → W p l e R s m args below meth c H1 locs1 cells slots Q (F0 m (pc + 1) ls rest)) : W p l e R s m args below meth c H locs cells slots Q (F0 m pc ls (.ref (ad r) :: .int i :: .ref (ad n) :: rest)) := by
  have hn : n ∈ N := hN n (by omega)
  have hrn : r ∈ N := hN r (by omega)
  obtain ⟨j, hj⟩ := ha_wl_get (cs := cs) (ad := ad) (kd := kd) (ln := ln) (S := S) hn
  rw [ha_cell_q hkd (by omega) (by omega)] at hj
  obtain ⟨j0, hj0⟩ := ha_wl_get (cs := cs) (ad := ad) (kd := kd) (ln := ln) (S := S) hrn
  rw [ha_cell_o hr (by omega)] at hj0
  refine va_astq hexec hb hK hP hD hS0 j 3 j0 8 hj (r := ("HillArms$Program", T, Nf)) rfl hj0 hc hin hdg fun H1 locs1 hP1 hD1 hS1 => ?_
  have e : (ha_wl cs ad kd ln N S).set j (ad n, .inl (cs 103, ln n, .inr (.inr (.inr (.inr (va_up (fun j => (ha_gB S n j).map ad) i.toNatClampNeg (some (ad r)))))))) = ha_wl cs ad kd ln N (ha_sB S n (va_up (ha_gB S n) i.toNatClampNeg (some r))) := by
    refine ha_wl_set hD hn hj ?_ (fun x hx => ha_cell_eq x (fun _ => rfl) (fun _ => rfl) (fun _ => rfl) rfl (by simp [ha_gB, ha_sB, hx]))
    rw [ha_cell_q hkd (by omega) (by omega)]
    have : (fun j => (ha_gB (ha_sB S n (va_up (ha_gB S n) i.toNatClampNeg (some r))) n j).map ad) = va_up (fun j => (ha_gB S n j).map ad) i.toNatClampNeg (some (ad r)) := by
      funext j
      by_cases hji : j = i.toNatClampNeg
      · simp [ha_gB, ha_sB, va_up, hji]
      · simp [ha_gB, ha_sB, va_up, hji]
    rw [this]
  rw [e] at hP1 hD1
  exact kk _ H1 locs1 rfl hP1 hD1 hS1
theorem ha_callRi {Z : State → Prop} {S1 : ha_St} {y : MethodName} {bytes : ByteArray} {maxL nL nn : Nat} {ret : Option FieldType} {ws : List Cond} {rm : Room} {Ts : List Cond} {C : String} {As st : List Value} {b : Nat} {z : Int32} (hZ : ha_Zok (ha_A ad N) Z) (F : CallFix p m c cc nL s args Ts own) (hK : va_K D vwCl (ha_tys cs) s) (hz : Z s) (hP : va_P D vwCl (ha_wl cs ad kd ln N S) H) (hD : va_D (ha_A ad N) (ha_wl cs ad kd ln N S)) (hS : va_S (ha_A ad N) s.heap H locs) (hM : ha_Ci l D cs ad kd ln N Z y ws rm (.ref b :: As) S z S1) (cw : CallW R s args own C index y bytes maxL ret ws rm 0 0 nn) (hrecv : ∃ cell : Cell, H[b]? = some cell ∧ cell.vm.isStatics = false ∧ s.vm.findClass C = some cell.cls) (hlen : As.length = nn) (hsz : ls.size = nL) (hst : st = As.reverse ++ .ref b :: rest) (hw : (rest.map fun v => v.category).sum ≤ 8) (hdg : decode cc pc = .ok (.invokevirtual index, 3)) (hr : cells + 0 ≤ R.cells ∧ slots + 0 ≤ R.slots)
    (kk : ∀ (H1 : Heap) (locs1 : List Loc), va_P D vwCl (ha_wl cs ad kd ln N S1) H1 → va_D (ha_A ad N) (ha_wl cs ad kd ln N S1) → va_S (ha_A ad N) s.heap H1 locs1 → W p l e R s m args below meth c H1 locs1 cells slots Q (F0 m (pc + 3) ls (.int z :: rest))) : W p l e R s m args below meth c H locs cells slots Q (F0 m pc ls st) := by
  subst hst
  refine va_calli (va_runV (As := As) (rest := rest) F hM cw ⟨ha_blind hZ, hrecv, fun U hU hW => ha_pre hZ hK hz hP hD hS U hU hW⟩ rfl hlen hsz rfl (lv_room hw) hdg hr) hS (fun q _ h => h) (fun q h => h) (fun r u t H1 locs1 ht hvm hq hB hz1 hk1 hS1 => ?_)
  subst hq
  obtain ⟨hP1, hD1⟩ := hB
  rw [ht] at hP1
  exact kk H1 locs1 hP1 hD1 hS1
theorem ha_retn {ty : FieldType} {z : Int32} (hexec : p.tables.exec = Jvm.exec) (hb : c.code = cc) (hr : meth.sig.returnType = some ty) (hlocks : meth.locks = false) (hP : va_P D vwCl (ha_wl cs ad kd ln N S) H) (hD : va_D (ha_A ad N) (ha_wl cs ad kd ln N S)) (hS : va_S (ha_A ad N) s.heap H locs) (hdg : decode cc pc = .ok (.ireturn, 1)) (hn : narrow ty (.int z) = .int z) {z1 : Int32} {S1 : ha_St} (h1 : z = z1) (h2 : S = S1) : W p l e R s m args below meth c H locs cells slots (MQ below (va_Qi (fun (r : Int32) (_ : Unit) => r = z1) (fun _ => ha_H D cs ad kd ln N S1) (ha_A ad N)) args s cells slots (ha_A ad N)) (F0 m pc ls [.int z]) := by
  subst h1; subst h2
  exact W.zret hexec hb hr hn (fun t ht hW => ⟨⟨z, (), rfl, rfl, by rw [ht]; exact hP, hD⟩, hS.F ht⟩) hS.2.2 hdg hlocks
end HAB
