def f_J3_checkIndex_8e157 (p0 p1 : Int32) : Option Int32 := if p0 < 0 then none else if p0 < p1 then some p0 else none
def f_J0_checkIndex_df160 (p0 p1 : Int32) : Option Unit := (f_J3_checkIndex_8e157 p0 p1).bind fun _ => some ()
theorem ha_e1 {α β : Type} {a : α} {b : β} {o : α × β} (h : (a, b) = o) : a = o.1 := congrArg Prod.fst h
theorem ha_e2 {α β : Type} {a : α} {b : β} {o : α × β} (h : (a, b) = o) : b = o.2 := congrArg Prod.snd h
def f_X10_append_J49 (p0 : Nat) (p1 : Int32)  (S : ha_St) : Option (ha_St) :=
  some S
def f_X10_append_L3 (p0 : Nat) (p1 : Int32) (self : (Int32 × ha_St) → Option (ha_St)) (v2 : Int32) (S : ha_St) : Option (ha_St) :=
  if (v2 : Int32) < 0 then (some S) else
  (if (440 : Int32) ≤ (ha_gI S p0 1) then (some S) else
  ((ha_rf xo_kd S p0 0 100).bind fun r3 =>
  ha_gd (¬ (((ha_gI S p0 1) : Int32) < 0 ∨ xo_ln r3 ≤ ((ha_gI S p0 1) : Int32).toNatClampNeg)) <|
  ha_nm (ha_sA S r3 (upd (ha_gA S r3) ((ha_gI S p0 1) : Int32).toNatClampNeg (((ha_ush p1 v2) : Int32) &&& 255))) fun S5 =>
  ha_nm (ha_sI S5 p0 1 (((ha_gI S5 p0 1) : Int32) + 1)) fun S6 =>
  ha_nm ((v2 : Int32) + (-8)) fun x7 =>
  self (x7, S6)))
def f_X10_append_L3i (p0 : Nat) (p1 : Int32) : Nat → (Int32 × ha_St) → Option (ha_St) := ha_itr (fun self z => f_X10_append_L3 p0 p1 self z.1 z.2)
def f_X10_append (p0 : Nat) (p1 : Int32) (S : ha_St) : Option (ha_St) :=
  (f_X10_append_L3i p0 p1 ha_fu (24, S)).bind (fun z => f_X10_append_J49 p0 p1  z)

def f_X11_feed (p0 : Nat) (p1 : Int32) (p2 : Int32) (p3 : Int32) (p4 : Int32) (p5 : Int32) (S : ha_St) : Option (Int32 × ha_St) :=
  (ha_rf xo_kd S p0 0 10).bind fun r1 =>
  if ((((ha_gI S r1 1) : Int32) + 20) : Int32) ≤ 440 then ((ha_rf xo_kd S p0 0 10).bind fun r3 =>
  (f_X10_append r3 p1 S).bind fun z4 =>
  (ha_rf xo_kd z4 p0 0 10).bind fun r5 =>
  (f_X10_append r5 p2 z4).bind fun z6 =>
  (ha_rf xo_kd z6 p0 0 10).bind fun r7 =>
  (f_X10_append r7 p3 z6).bind fun z8 =>
  (ha_rf xo_kd z8 p0 0 10).bind fun r9 =>
  (f_X10_append r9 p4 z8).bind fun z10 =>
  (ha_rf xo_kd z10 p0 0 10).bind fun r11 =>
  (f_X10_append r11 p5 z10).bind fun z12 =>
  (ha_rf xo_kd z12 p0 0 10).bind fun r13 =>
  some ((ha_gI z12 r13 1), z12)) else
  (some ((-1), S))

def f_X11_end_J15 (p0 : Nat) (p1 : Int32)  (S : ha_St) : Option (Int32 × ha_St) :=
  some (0, S)
def f_X11_end (p0 : Nat) (p1 : Int32) (S : ha_St) : Option (Int32 × ha_St) :=
  if (p1 : Int32) < 0 then (f_X11_end_J15 p0 p1  S) else
  ((ha_rf xo_kd S p0 0 10).bind fun r2 =>
  if (p1 : Int32) ≤ (ha_gI S r2 1) then ((ha_rf xo_kd S p0 0 10).bind fun r4 =>
  ha_nm (ha_sI S r4 1 p1) fun S5 =>
  some (1, S5)) else
  (f_X11_end_J15 p0 p1  S))

def f_X11_next_J23 (p0 : Nat) (p1 : Int32)  (S : ha_St) : Option (Int32 × ha_St) :=
  some ((-1), S)
def f_X11_next (p0 : Nat) (p1 : Int32) (S : ha_St) : Option (Int32 × ha_St) :=
  if (p1 : Int32) < 0 then (f_X11_next_J23 p0 p1  S) else
  (if (999 : Int32) < p1 then (f_X11_next_J23 p0 p1  S) else
  (if ((((ha_gI S p0 13) : Int32) + p1) : Int32) ≤ 999 then (ha_nm (ha_sI S p0 13 (((ha_gI S p0 13) : Int32) + p1)) fun S4 =>
  some ((ha_gI S4 p0 13), S4)) else
  (f_X11_next_J23 p0 p1  S)))

def f_X11_towers_J31 (p0 : Nat) (p1 : Int32)  (S : ha_St) : Option (Int32 × ha_St) :=
  some (0, S)
def f_X11_towers (p0 : Nat) (p1 : Int32) (S : ha_St) : Option (Int32 × ha_St) :=
  if (p1 : Int32) < 3 then (f_X11_towers_J31 p0 p1  S) else
  (if (16 : Int32) < p1 then (f_X11_towers_J31 p0 p1  S) else
  ((ha_rf xo_kd S p0 1 1).bind fun r3 =>
  if (0 : Int32) < (ha_gI S r3 7) then (f_X11_towers_J31 p0 p1  S) else
  ((ha_rf xo_kd S p0 9 2).bind fun r5 =>
  if ((ha_gI S r5 8) : Int32) ≤ 0 then ((ha_rf xo_kd S p0 1 1).bind fun r7 =>
  ha_nm (ha_sI S r7 5 p1) fun S8 =>
  some (1, S8)) else
  (f_X11_towers_J31 p0 p1  S))))

def f_X8_clear (p0 : Nat) (S : ha_St) : Option (ha_St) :=
  ha_nm (ha_sI S p0 8 0) fun S1 =>
  ha_nm (ha_sI S1 p0 9 0) fun S2 =>
  ha_nm (ha_sI S2 p0 10 0) fun S3 =>
  ha_gd ((0 : Int32) = 0 ∨ (0 : Int32) = 1) <|
  ha_nm (ha_sI S3 p0 11 0) fun S4 =>
  some S4

def f_X11_isLetter_J17 (p0 : Int32) (k0 : Int32) : Option (Int32) :=
  ha_gd ((k0 : Int32) = 0 ∨ (k0 : Int32) = 1) <|
  some k0
def f_X11_isLetter_J16 (p0 : Int32)  : Option (Int32) :=
  f_X11_isLetter_J17 p0 0
def f_X11_isLetter (p0 : Int32) : Option (Int32) :=
  if (p0 : Int32) < 97 then (f_X11_isLetter_J16 p0 ) else
  (if (122 : Int32) < p0 then (f_X11_isLetter_J16 p0 ) else
  (f_X11_isLetter_J17 p0 1))

def f_X11_isDigit_J17 (p0 : Int32) (k0 : Int32) : Option (Int32) :=
  ha_gd ((k0 : Int32) = 0 ∨ (k0 : Int32) = 1) <|
  some k0
def f_X11_isDigit_J16 (p0 : Int32)  : Option (Int32) :=
  f_X11_isDigit_J17 p0 0
def f_X11_isDigit (p0 : Int32) : Option (Int32) :=
  if (p0 : Int32) < 48 then (f_X11_isDigit_J16 p0 ) else
  (if (57 : Int32) < p0 then (f_X11_isDigit_J16 p0 ) else
  (f_X11_isDigit_J17 p0 1))

def f_X9_numberCode_J65 (p0 : Nat) (v1 : Int32) (S : ha_St) : Option (Int32 × ha_St) :=
  some (v1, S)
def f_X9_numberCode_L22 (p0 : Nat) (self : (Int32 × Int32 × ha_St) → Option ((Int32 × ha_St) ⊕ (Int32 × ha_St))) (v1 : Int32) (v2 : Int32) (S : ha_St) : Option ((Int32 × ha_St) ⊕ (Int32 × ha_St)) :=
  if ((ha_gI S p0 5) : Int32) ≤ v2 then (some (.inl (v1, S))) else
  ((ha_rf xo_kd S p0 0 100).bind fun r4 =>
  ha_gd (¬ ((v2 : Int32) < 0 ∨ xo_ln r4 ≤ (v2 : Int32).toNatClampNeg)) <|
  (f_X11_isDigit ((ha_gA S r4 (v2 : Int32).toNatClampNeg))).bind fun z6 =>
  if ¬ (z6 : Int32) = 0 then ((ha_rf xo_kd S p0 0 100).bind fun r8 =>
  ha_gd (¬ ((v2 : Int32) < 0 ∨ xo_ln r8 ≤ (v2 : Int32).toNatClampNeg)) <|
  ha_nm (((((((v1 : Int32) * 10) : Int32) + (ha_gA S r8 (v2 : Int32).toNatClampNeg)) : Int32) - 48) : Int32) fun x10 =>
  ha_nm ((v2 : Int32) + 1) fun x11 =>
  self (x10, x11, S)) else
  (some (.inr ((-1), S))))
def f_X9_numberCode_L22i (p0 : Nat) : Nat → (Int32 × Int32 × ha_St) → Option ((Int32 × ha_St) ⊕ (Int32 × ha_St)) := ha_itr (fun self z => f_X9_numberCode_L22 p0 self z.1 z.2.1 z.2.2)
def f_X9_numberCode (p0 : Nat) (S : ha_St) : Option (Int32 × ha_St) :=
  if ((((ha_gI S p0 5) : Int32) - (ha_gI S p0 4)) : Int32) ≤ 2 then (ha_nm ((ha_gI S p0 4) : Int32) fun x2 =>
  (f_X9_numberCode_L22i p0 ha_fu (0, x2, S)).bind (Sum.elim (fun z => f_X9_numberCode_J65 p0 z.1 z.2) (fun r => some r))) else
  (some ((-1), S))

def f_J0_coder_7d493_J14 (p0 : Nat) (k0 : Int32) (S : ha_St) : Option (Int32 × ha_St) :=
  ha_gd ((k0 : Int32).toInt8.toInt32 = k0) <|
  some (k0, S)
def f_J0_coder_7d493 (p0 : Nat) (S : ha_St) : Option (Int32 × ha_St) :=
  if (1 : Int32) = 0 then (f_J0_coder_7d493_J14 p0 1 S) else
  (f_J0_coder_7d493_J14 p0 0 S)

def f_J0_length_8abf5 (p0 : Nat) (S : ha_St) : Option (Int32 × ha_St) :=
  (f_J0_coder_7d493 p0 S).bind fun z1 =>
  some ((((nI (xo_sl p0)) : Int32) >>> ((z1.1 : Int32) &&& 31)), z1.2)

def f_J0_isLatin1_aae02_J18 (p0 : Nat) (k0 : Int32) (S : ha_St) : Option (Int32 × ha_St) :=
  ha_gd ((k0 : Int32) = 0 ∨ (k0 : Int32) = 1) <|
  some (k0, S)
def f_J0_isLatin1_aae02_J17 (p0 : Nat)  (S : ha_St) : Option (Int32 × ha_St) :=
  f_J0_isLatin1_aae02_J18 p0 0 S
def f_J0_isLatin1_aae02 (p0 : Nat) (S : ha_St) : Option (Int32 × ha_St) :=
  if (1 : Int32) = 0 then (f_J0_isLatin1_aae02_J17 p0  S) else
  (if ¬ (0 : Int32) = 0 then (f_J0_isLatin1_aae02_J17 p0  S) else
  (f_J0_isLatin1_aae02_J18 p0 1 S))

def f_J1_charAt_3b067 (p0 : Nat) (p1 : Int32) (S : ha_St) : Option (Int32 × ha_St) :=
  (f_J0_checkIndex_df160 p1 ((nI (xo_sl p0)))).bind fun z1 =>
  ha_gd (¬ ((p1 : Int32) < 0 ∨ xo_sl p0 ≤ (p1 : Int32).toNatClampNeg)) <|
  ha_gd (((((((((xo_by p0 (p1 : Int32).toNatClampNeg) : Int32) &&& 255) : Int32).toUInt32 % 65536).toInt32) : Int32).toUInt32 % 65536).toInt32 = ((((((xo_by p0 (p1 : Int32).toNatClampNeg) : Int32) &&& 255) : Int32).toUInt32 % 65536).toInt32)) <|
  some (((((((xo_by p0 (p1 : Int32).toNatClampNeg) : Int32) &&& 255) : Int32).toUInt32 % 65536).toInt32), S)

def f_J0_charAt_5068e (p0 : Nat) (p1 : Int32) (S : ha_St) : Option (Int32 × ha_St) :=
  (f_J0_isLatin1_aae02 p0 S).bind fun z1 =>
  if (z1.1 : Int32) = 0 then (none) else
  ((f_J1_charAt_3b067 p0 p1 z1.2).bind fun z3 =>
  ha_gd (((z3.1 : Int32).toUInt32 % 65536).toInt32 = z3.1) <|
  some (z3.1, z3.2))

def f_X9_isWordAt_J57 (p0 : Nat) (p1 : Int32)  (S : ha_St) : Option (Int32 × ha_St) :=
  some (1, S)
def f_X9_isWordAt_L2_J36 (p0 : Nat) (p1 : Int32) (self : (Int32 × ha_St) → Option ((ha_St) ⊕ (Int32 × ha_St))) (v2 : Int32) (k0 : Int32) (S : ha_St) : Option ((ha_St) ⊕ (Int32 × ha_St)) :=
  (f_J0_charAt_5068e 1 (((p1 : Int32) + v2)) S).bind fun z1 =>
  if (z1.1 : Int32) = k0 then (ha_nm ((v2 : Int32) + 1) fun x3 =>
  self (x3, z1.2)) else
  (some (.inr (0, z1.2)))
def f_X9_isWordAt_L2 (p0 : Nat) (p1 : Int32) (self : (Int32 × ha_St) → Option ((ha_St) ⊕ (Int32 × ha_St))) (v2 : Int32) (S : ha_St) : Option ((ha_St) ⊕ (Int32 × ha_St)) :=
  if (5 : Int32) ≤ v2 then (some (.inl S)) else
  (if ((ha_gI S p0 5) : Int32) ≤ (((ha_gI S p0 4) : Int32) + v2) then (f_X9_isWordAt_L2_J36 p0 p1 self v2 32 S) else
  ((ha_rf xo_kd S p0 0 100).bind fun r6 =>
  ha_gd (¬ (((((ha_gI S p0 4) : Int32) + v2) : Int32) < 0 ∨ xo_ln r6 ≤ ((((ha_gI S p0 4) : Int32) + v2) : Int32).toNatClampNeg)) <|
  f_X9_isWordAt_L2_J36 p0 p1 self v2 ((ha_gA S r6 ((((ha_gI S p0 4) : Int32) + v2) : Int32).toNatClampNeg)) S))
def f_X9_isWordAt_L2i (p0 : Nat) (p1 : Int32) : Nat → (Int32 × ha_St) → Option ((ha_St) ⊕ (Int32 × ha_St)) := ha_itr (fun self z => f_X9_isWordAt_L2 p0 p1 self z.1 z.2)
def f_X9_isWordAt (p0 : Nat) (p1 : Int32) (S : ha_St) : Option (Int32 × ha_St) :=
  (f_X9_isWordAt_L2i p0 p1 ha_fu (0, S)).bind (Sum.elim (fun z => f_X9_isWordAt_J57 p0 p1  z) (fun r => some r))

def f_X9_wordCode_J51 (p0 : Nat)  (S : ha_St) : Option (Int32 × ha_St) :=
  some ((-1), S)
def f_X9_wordCode_L20 (p0 : Nat) (self : (Int32 × Int32 × ha_St) → Option ((ha_St) ⊕ (Int32 × ha_St))) (v1 : Int32) (v2 : Int32) (S : ha_St) : Option ((ha_St) ⊕ (Int32 × ha_St)) :=
  (f_J0_length_8abf5 1 S).bind fun z2 =>
  if (z2.1 : Int32) < ((v2 : Int32) + 6) then (some (.inl z2.2)) else
  ((f_X9_isWordAt p0 v2 z2.2).bind fun z4 =>
  if (z4.1 : Int32) = 0 then (ha_nm ((v1 : Int32) + 1) fun x6 =>
  ha_nm ((v2 : Int32) + 6) fun x7 =>
  self (x6, x7, z4.2)) else
  (some (.inr (v1, z4.2))))
def f_X9_wordCode_L20i (p0 : Nat) : Nat → (Int32 × Int32 × ha_St) → Option ((ha_St) ⊕ (Int32 × ha_St)) := ha_itr (fun self z => f_X9_wordCode_L20 p0 self z.1 z.2.1 z.2.2)
def f_X9_wordCode (p0 : Nat) (S : ha_St) : Option (Int32 × ha_St) :=
  if ((((ha_gI S p0 5) : Int32) - (ha_gI S p0 4)) : Int32) ≤ 5 then ((f_X9_wordCode_L20i p0 ha_fu (100, 0, S)).bind (Sum.elim (fun z => f_X9_wordCode_J51 p0  z) (fun r => some r))) else
  (some ((-1), S))

def f_J1_canEncode_9a6ad_J16 (p0 : Int32) (k0 : Int32) : Option (Int32) :=
  ha_gd ((k0 : Int32) = 0 ∨ (k0 : Int32) = 1) <|
  some k0
def f_J1_canEncode_9a6ad_J15 (p0 : Int32)  : Option (Int32) :=
  f_J1_canEncode_9a6ad_J16 p0 0
def f_J1_canEncode_9a6ad (p0 : Int32) : Option (Int32) :=
  if (p0 : Int32) < 0 then (f_J1_canEncode_9a6ad_J15 p0 ) else
  (if (255 : Int32) < p0 then (f_J1_canEncode_9a6ad_J15 p0 ) else
  (f_J1_canEncode_9a6ad_J16 p0 1))

def f_J1_indexOfChar_4cfef_J31 (p0 : Nat) (p1 : Int32) (p2 : Int32) (p3 : Int32)  (S : ha_St) : Option (Int32 × ha_St) :=
  some ((-1), S)
def f_J1_indexOfChar_4cfef_L7 (p0 : Nat) (p1 : Int32) (p2 : Int32) (p3 : Int32) (self : (Int32 × Int32 × ha_St) → Option ((ha_St) ⊕ (Int32 × ha_St))) (v4 : Int32) (v5 : Int32) (S : ha_St) : Option ((ha_St) ⊕ (Int32 × ha_St)) :=
  if (p3 : Int32) ≤ v5 then (some (.inl S)) else
  (ha_gd (¬ ((v5 : Int32) < 0 ∨ xo_sl p0 ≤ (v5 : Int32).toNatClampNeg)) <|
  if ¬ ((xo_by p0 (v5 : Int32).toNatClampNeg) : Int32) = v4 then (ha_nm ((v5 : Int32) + 1) fun x5 =>
  self (v4, x5, S)) else
  (some (.inr (v5, S))))
def f_J1_indexOfChar_4cfef_L7i (p0 : Nat) (p1 : Int32) (p2 : Int32) (p3 : Int32) : Nat → (Int32 × Int32 × ha_St) → Option ((ha_St) ⊕ (Int32 × ha_St)) := ha_itr (fun self z => f_J1_indexOfChar_4cfef_L7 p0 p1 p2 p3 self z.1 z.2.1 z.2.2)
def f_J1_indexOfChar_4cfef (p0 : Nat) (p1 : Int32) (p2 : Int32) (p3 : Int32) (S : ha_St) : Option (Int32 × ha_St) :=
  ha_nm (((p1 : Int32).toInt8.toInt32) : Int32) fun x1 =>
  (f_J1_indexOfChar_4cfef_L7i p0 p1 p2 p3 ha_fu (x1, p2, S)).bind (Sum.elim (fun z => f_J1_indexOfChar_4cfef_J31 p0 p1 p2 p3  z) (fun r => some r))

def f_J1_indexOf_4cfef (p0 : Nat) (p1 : Int32) (p2 : Int32) (p3 : Int32) (S : ha_St) : Option (Int32 × ha_St) :=
  (f_J1_canEncode_9a6ad p1).bind fun z1 =>
  if ¬ (z1 : Int32) = 0 then (ha_nm ((if (p2 : Int32) < 0 then 0 else p2) : Int32) fun x3 =>
  ha_nm ((if ((nI (xo_sl p0)) : Int32) < p3 then (nI (xo_sl p0)) else p3) : Int32) fun x4 =>
  if (x3 : Int32) < x4 then ((f_J1_indexOfChar_4cfef p0 p1 x3 x4 S).bind fun z6 =>
  some (z6.1, z6.2)) else
  (some ((-1), S))) else
  (some ((-1), S))

def f_J0_indexOf_7cf53_J36 (p0 : Nat) (p1 : Int32) (p2 : Int32) (k0 : Int32) (S : ha_St) : Option (Int32 × ha_St) :=
  some (k0, S)
def f_J0_indexOf_7cf53 (p0 : Nat) (p1 : Int32) (p2 : Int32) (S : ha_St) : Option (Int32 × ha_St) :=
  (f_J0_isLatin1_aae02 p0 S).bind fun z1 =>
  if (z1.1 : Int32) = 0 then (none) else
  ((f_J0_length_8abf5 p0 z1.2).bind fun z3 =>
  (f_J1_indexOf_4cfef p0 p1 p2 z3.1 z3.2).bind fun z4 =>
  f_J0_indexOf_7cf53_J36 p0 p1 p2 z4.1 z4.2)

def f_J0_indexOf_0f7a4 (p0 : Nat) (p1 : Int32) (S : ha_St) : Option (Int32 × ha_St) :=
  (f_J0_indexOf_7cf53 p0 p1 0 S).bind fun z1 =>
  some (z1.1, z1.2)

def f_X9_step_J221 (p0 : Nat) (k0 : Nat) (k1 : Int32) (S : ha_St) : Option (ha_St) :=
  ha_nm (ha_sI S k0 3 k1) fun S1 =>
  ha_nm (ha_sI S1 p0 5 (((ha_gI S1 p0 4) : Int32) + 1)) fun S2 =>
  some S2
def f_X9_step_J188 (p0 : Nat) (k0 : Nat) (k1 : Int32) (S : ha_St) : Option (ha_St) :=
  ha_nm (ha_sI S k0 3 k1) fun S3 =>
  some S3
def f_X9_step_J150 (p0 : Nat)  (S : ha_St) : Option (ha_St) :=
  if ((ha_gI S p0 5) : Int32) ≤ (ha_gI S p0 4) then ((ha_rf xo_kd S p0 0 100).bind fun r5 =>
  ha_gd (¬ (((ha_gI S p0 4) : Int32) < 0 ∨ xo_ln r5 ≤ ((ha_gI S p0 4) : Int32).toNatClampNeg)) <|
  (f_J0_indexOf_0f7a4 0 (((((ha_gA S r5 ((ha_gI S p0 4) : Int32).toNatClampNeg) : Int32).toUInt32 % 65536).toInt32)) S).bind fun z7 =>
  if (0 : Int32) ≤ z7.1 then (f_X9_step_J221 p0 p0 (((117 : Int32) + z7.1)) z7.2) else
  (f_X9_step_J221 p0 p0 (-1) z7.2)) else
  ((ha_rf xo_kd S p0 0 100).bind fun r9 =>
  ha_gd (¬ (((ha_gI S p0 4) : Int32) < 0 ∨ xo_ln r9 ≤ ((ha_gI S p0 4) : Int32).toNatClampNeg)) <|
  (f_X11_isDigit ((ha_gA S r9 ((ha_gI S p0 4) : Int32).toNatClampNeg))).bind fun z11 =>
  if (z11 : Int32) = 0 then ((f_X9_wordCode p0 S).bind fun z13 =>
  f_X9_step_J188 p0 p0 z13.1 z13.2) else
  ((f_X9_numberCode p0 S).bind fun z14 =>
  f_X9_step_J188 p0 p0 z14.1 z14.2))
def f_X9_step_L96_J137 (p0 : Nat) (self : (ha_St) → Option (ha_St))  (S : ha_St) : Option (ha_St) :=
  ha_nm (ha_sI S p0 5 (((ha_gI S p0 5) : Int32) + 1)) fun S17 =>
  self S17
def f_X9_step_L96 (p0 : Nat) (self : (ha_St) → Option (ha_St))  (S : ha_St) : Option (ha_St) :=
  if ((ha_gI S p0 1) : Int32) ≤ (ha_gI S p0 5) then (some S) else
  ((ha_rf xo_kd S p0 0 100).bind fun r19 =>
  ha_gd (¬ (((ha_gI S p0 5) : Int32) < 0 ∨ xo_ln r19 ≤ ((ha_gI S p0 5) : Int32).toNatClampNeg)) <|
  (f_X11_isLetter ((ha_gA S r19 ((ha_gI S p0 5) : Int32).toNatClampNeg))).bind fun z21 =>
  if ¬ (z21 : Int32) = 0 then (f_X9_step_L96_J137 p0 self  S) else
  ((ha_rf xo_kd S p0 0 100).bind fun r23 =>
  ha_gd (¬ (((ha_gI S p0 5) : Int32) < 0 ∨ xo_ln r23 ≤ ((ha_gI S p0 5) : Int32).toNatClampNeg)) <|
  (f_X11_isDigit ((ha_gA S r23 ((ha_gI S p0 5) : Int32).toNatClampNeg))).bind fun z25 =>
  if (z25 : Int32) = 0 then (some S) else
  (f_X9_step_L96_J137 p0 self  S)))
def f_X9_step_L96i (p0 : Nat) : Nat → (ha_St) → Option (ha_St) := ha_itr (fun self z => f_X9_step_L96 p0 self z)
def f_X9_step_J68 (p0 : Nat) (v1 : Int32) (S : ha_St) : Option (ha_St) :=
  if ((ha_gI S p0 4) : Int32) < v1 then (ha_nm (ha_sI S p0 5 (ha_gI S p0 4)) fun S16 =>
  (f_X9_step_L96i p0 ha_fu S16).bind (fun z => f_X9_step_J150 p0  z)) else
  (ha_nm (ha_sI S p0 4 v1) fun S29 =>
  ha_nm (ha_sI S29 p0 3 (-2)) fun S30 =>
  some S30)
def f_X9_step_L19_J55 (p0 : Nat) (self : (Int32 × ha_St) → Option (Int32 × ha_St)) (v1 : Int32) (S : ha_St) : Option (Int32 × ha_St) :=
  ha_nm (ha_sI S p0 4 (((ha_gI S p0 4) : Int32) + 1)) fun S33 =>
  self (v1, S33)
def f_X9_step_L19 (p0 : Nat) (self : (Int32 × ha_St) → Option (Int32 × ha_St)) (v1 : Int32) (S : ha_St) : Option (Int32 × ha_St) :=
  if (v1 : Int32) ≤ (ha_gI S p0 4) then (some (v1, S)) else
  ((ha_rf xo_kd S p0 0 100).bind fun r35 =>
  ha_gd (¬ (((ha_gI S p0 4) : Int32) < 0 ∨ xo_ln r35 ≤ ((ha_gI S p0 4) : Int32).toNatClampNeg)) <|
  if ((ha_gA S r35 ((ha_gI S p0 4) : Int32).toNatClampNeg) : Int32) = 32 then (f_X9_step_L19_J55 p0 self v1 S) else
  ((ha_rf xo_kd S p0 0 100).bind fun r38 =>
  ha_gd (¬ (((ha_gI S p0 4) : Int32) < 0 ∨ xo_ln r38 ≤ ((ha_gI S p0 4) : Int32).toNatClampNeg)) <|
  if ¬ ((ha_gA S r38 ((ha_gI S p0 4) : Int32).toNatClampNeg) : Int32) = 10 then (some (v1, S)) else
  (f_X9_step_L19_J55 p0 self v1 S)))
def f_X9_step_L19i (p0 : Nat) : Nat → (Int32 × ha_St) → Option (Int32 × ha_St) := ha_itr (fun self z => f_X9_step_L19 p0 self z.1 z.2)
def f_X9_step (p0 : Nat) (S : ha_St) : Option (ha_St) :=
  ha_nm ((if (400 : Int32) < (ha_gI S p0 1) then 400 else (ha_gI S p0 1)) : Int32) fun x31 =>
  ha_nm (ha_sI S p0 4 (ha_gI S p0 5)) fun S32 =>
  (f_X9_step_L19i p0 ha_fu (x31, S32)).bind (fun z => f_X9_step_J68 p0 z.1 z.2)

def f_X9_refuse (p0 : Nat) (p1 : Int32) (S : ha_St) : Option (Int32 × ha_St) :=
  ha_nm (ha_sI S p0 6 p1) fun S1 =>
  ha_nm (ha_sI S1 p0 7 (ha_gI S1 p0 4)) fun S2 =>
  some (0, S2)

def f_X9_endIsRight_J23 (p0 : Nat) (k0 : Int32) (S : ha_St) : Option (Int32 × ha_St) :=
  ha_gd ((k0 : Int32) = 0 ∨ (k0 : Int32) = 1) <|
  some (k0, S)
def f_X9_endIsRight_J18 (p0 : Nat)  (S : ha_St) : Option (Int32 × ha_St) :=
  f_X9_endIsRight_J23 p0 1 S
def f_X9_endIsRight (p0 : Nat) (S : ha_St) : Option (Int32 × ha_St) :=
  if ((ha_gI S p0 1) : Int32) ≤ 400 then (f_X9_endIsRight_J18 p0  S) else
  ((f_X9_refuse p0 1 S).bind fun z3 =>
  if (z3.1 : Int32) = 0 then (f_X9_endIsRight_J23 p0 0 z3.2) else
  (f_X9_endIsRight_J18 p0  z3.2))

def f_X9_isValue_J21 (p0 : Nat) (k0 : Int32) (S : ha_St) : Option (Int32 × ha_St) :=
  ha_gd ((k0 : Int32) = 0 ∨ (k0 : Int32) = 1) <|
  some (k0, S)
def f_X9_isValue_J20 (p0 : Nat)  (S : ha_St) : Option (Int32 × ha_St) :=
  f_X9_isValue_J21 p0 0 S
def f_X9_isValue (p0 : Nat) (S : ha_St) : Option (Int32 × ha_St) :=
  if ((ha_gI S p0 3) : Int32) < 0 then (f_X9_isValue_J20 p0  S) else
  (if (110 : Int32) ≤ (ha_gI S p0 3) then (f_X9_isValue_J20 p0  S) else
  (f_X9_isValue_J21 p0 1 S))

def f_X8_addOne_J75 (p0 : Nat) (p1 : Int32) (p2 : Int32) (p3 : Int32)  (S : ha_St) : Option (ha_St) :=
  some S
def f_X8_addOne_J71 (p0 : Nat) (p1 : Int32) (p2 : Int32) (p3 : Int32) (k0 : Nat) (k1 : Int32) (k2 : Int32) (S : ha_St) : Option (ha_St) :=
  ha_gd ((((k1 : Int32) ||| k2) : Int32) = 0 ∨ (((k1 : Int32) ||| k2) : Int32) = 1) <|
  ha_nm (ha_sI S k0 11 ((k1 : Int32) ||| k2)) fun S1 =>
  f_X8_addOne_J75 p0 p1 p2 p3  S1
def f_X8_addOne_J66 (p0 : Nat) (p1 : Int32) (p2 : Int32) (p3 : Int32) (k0 : Nat) (k1 : Int32) (S : ha_St) : Option (ha_St) :=
  f_X8_addOne_J71 p0 p1 p2 p3 k0 k1 1 S
def f_X8_addOne (p0 : Nat) (p1 : Int32) (p2 : Int32) (p3 : Int32) (S : ha_St) : Option (ha_St) :=
  if (40 : Int32) ≤ (ha_gI S p0 9) then (f_X8_addOne_J75 p0 p1 p2 p3  S) else
  ((ha_rf xo_kd S p0 2 100).bind fun r4 =>
  ha_gd (¬ (((ha_gI S p0 9) : Int32) < 0 ∨ xo_ln r4 ≤ ((ha_gI S p0 9) : Int32).toNatClampNeg)) <|
  ha_nm (ha_sA S r4 (upd (ha_gA S r4) ((ha_gI S p0 9) : Int32).toNatClampNeg p1)) fun S6 =>
  (ha_rf xo_kd S6 p0 3 100).bind fun r7 =>
  ha_gd (¬ (((ha_gI S6 p0 9) : Int32) < 0 ∨ xo_ln r7 ≤ ((ha_gI S6 p0 9) : Int32).toNatClampNeg)) <|
  ha_nm (ha_sA S6 r7 (upd (ha_gA S6 r7) ((ha_gI S6 p0 9) : Int32).toNatClampNeg p2)) fun S9 =>
  (ha_rf xo_kd S9 p0 4 100).bind fun r10 =>
  ha_gd (¬ (((ha_gI S9 p0 9) : Int32) < 0 ∨ xo_ln r10 ≤ ((ha_gI S9 p0 9) : Int32).toNatClampNeg)) <|
  ha_nm (ha_sA S9 r10 (upd (ha_gA S9 r10) ((ha_gI S9 p0 9) : Int32).toNatClampNeg p3)) fun S12 =>
  ha_nm (ha_sI S12 p0 9 (((ha_gI S12 p0 9) : Int32) + 1)) fun S13 =>
  if (p1 : Int32) = 103 then (f_X8_addOne_J66 p0 p1 p2 p3 p0 ((ha_gI S13 p0 11)) S13) else
  (if ¬ (p3 : Int32) = 103 then (f_X8_addOne_J71 p0 p1 p2 p3 p0 ((ha_gI S13 p0 11)) 0 S13) else
  (f_X8_addOne_J66 p0 p1 p2 p3 p0 ((ha_gI S13 p0 11)) S13)))

def f_X9_readOne_J57 (p0 : Nat)  (S : ha_St) : Option (Int32 × ha_St) :=
  (f_X9_refuse p0 1 S).bind fun z1 =>
  ha_gd ((z1.1 : Int32) = 0 ∨ (z1.1 : Int32) = 1) <|
  some (z1.1, z1.2)
def f_X9_readOne (p0 : Nat) (S : ha_St) : Option (Int32 × ha_St) :=
  (f_X9_isValue p0 S).bind fun z3 =>
  if ¬ (z3.1 : Int32) = 0 then ((ha_rf xo_kd z3.2 p0 2 8).bind fun r5 =>
  if ((ha_gI z3.2 r5 9) : Int32) < 40 then (ha_nm ((ha_gI z3.2 p0 3) : Int32) fun x7 =>
  (f_X9_step p0 z3.2).bind fun z8 =>
  ha_nm ((ha_gI z8 p0 3) : Int32) fun x9 =>
  if (x9 : Int32) < 120 then (f_X9_readOne_J57 p0  z8) else
  (if (x9 : Int32) ≤ 123 then ((f_X9_step p0 z8).bind fun z12 =>
  (f_X9_isValue p0 z12).bind fun z13 =>
  if ¬ (z13.1 : Int32) = 0 then ((ha_rf xo_kd z13.2 p0 2 8).bind fun r15 =>
  (f_X8_addOne r15 x7 x9 ((ha_gI z13.2 p0 3)) z13.2).bind fun z16 =>
  (f_X9_step p0 z16).bind fun z17 =>
  some (1, z17)) else
  ((f_X9_refuse p0 1 z13.2).bind fun z18 =>
  ha_gd ((z18.1 : Int32) = 0 ∨ (z18.1 : Int32) = 1) <|
  some (z18.1, z18.2))) else
  (f_X9_readOne_J57 p0  z8))) else
  ((f_X9_refuse p0 2 z3.2).bind fun z20 =>
  ha_gd ((z20.1 : Int32) = 0 ∨ (z20.1 : Int32) = 1) <|
  some (z20.1, z20.2))) else
  ((f_X9_refuse p0 1 z3.2).bind fun z22 =>
  ha_gd ((z22.1 : Int32) = 0 ∨ (z22.1 : Int32) = 1) <|
  some (z22.1, z22.2))

def f_X9_readOnes_J85 (p0 : Nat) (k0 : Int32) (S : ha_St) : Option (Int32 × ha_St) :=
  ha_gd ((k0 : Int32) = 0 ∨ (k0 : Int32) = 1) <|
  some (k0, S)
def f_X9_readOnes_J80 (p0 : Nat)  (S : ha_St) : Option (Int32 × ha_St) :=
  f_X9_readOnes_J85 p0 1 S
def f_X9_readOnes_J63 (p0 : Nat)  (S : ha_St) : Option (Int32 × ha_St) :=
  if ((ha_gI S p0 3) : Int32) = 112 then (f_X9_readOnes_J80 p0  S) else
  ((f_X9_refuse p0 1 S).bind fun z3 =>
  if (z3.1 : Int32) = 0 then (f_X9_readOnes_J85 p0 0 z3.2) else
  (f_X9_readOnes_J80 p0  z3.2))
def f_X9_readOnes_L19_J56 (p0 : Nat) (self : (Int32 × Int32 × ha_St) → Option ((ha_St) ⊕ (Int32 × ha_St))) (v2 : Int32) (k0 : Int32) (S : ha_St) : Option ((ha_St) ⊕ (Int32 × ha_St)) :=
  ha_nm ((v2 : Int32) + 1) fun x6 =>
  self (k0, x6, S)
def f_X9_readOnes_L19 (p0 : Nat) (self : (Int32 × Int32 × ha_St) → Option ((ha_St) ⊕ (Int32 × ha_St))) (v1 : Int32) (v2 : Int32) (S : ha_St) : Option ((ha_St) ⊕ (Int32 × ha_St)) :=
  if (40 : Int32) < v2 then (some (.inl S)) else
  (if (v1 : Int32) = 0 then (some (.inl S)) else
  ((f_X9_step p0 S).bind fun z9 =>
  (f_X9_readOne p0 z9).bind fun z10 =>
  if ¬ (z10.1 : Int32) = 0 then (if ¬ ((ha_gI z10.2 p0 3) : Int32) = 111 then (f_X9_readOnes_L19_J56 p0 self v2 0 z10.2) else
  (f_X9_readOnes_L19_J56 p0 self v2 1 z10.2)) else
  (some (.inr (0, z10.2)))))
def f_X9_readOnes_L19i (p0 : Nat) : Nat → (Int32 × Int32 × ha_St) → Option ((ha_St) ⊕ (Int32 × ha_St)) := ha_itr (fun self z => f_X9_readOnes_L19 p0 self z.1 z.2.1 z.2.2)
def f_X9_readOnes (p0 : Nat) (S : ha_St) : Option (Int32 × ha_St) :=
  if ((ha_gI S p0 3) : Int32) = 110 then ((f_X9_readOnes_L19i p0 ha_fu (1, 0, S)).bind (Sum.elim (fun z => f_X9_readOnes_J63 p0  z) (fun r => some r))) else
  ((f_X9_refuse p0 1 S).bind fun z15 =>
  ha_gd ((z15.1 : Int32) = 0 ∨ (z15.1 : Int32) = 1) <|
  some (z15.1, z15.2))

def f_X8_addAct_J75 (p0 : Nat) (p1 : Int32) (p2 : Int32) (p3 : Int32)  (S : ha_St) : Option (ha_St) :=
  some S
def f_X8_addAct_J71 (p0 : Nat) (p1 : Int32) (p2 : Int32) (p3 : Int32) (k0 : Nat) (k1 : Int32) (k2 : Int32) (S : ha_St) : Option (ha_St) :=
  ha_gd ((((k1 : Int32) ||| k2) : Int32) = 0 ∨ (((k1 : Int32) ||| k2) : Int32) = 1) <|
  ha_nm (ha_sI S k0 11 ((k1 : Int32) ||| k2)) fun S1 =>
  f_X8_addAct_J75 p0 p1 p2 p3  S1
def f_X8_addAct_J66 (p0 : Nat) (p1 : Int32) (p2 : Int32) (p3 : Int32) (k0 : Nat) (k1 : Int32) (S : ha_St) : Option (ha_St) :=
  f_X8_addAct_J71 p0 p1 p2 p3 k0 k1 1 S
def f_X8_addAct (p0 : Nat) (p1 : Int32) (p2 : Int32) (p3 : Int32) (S : ha_St) : Option (ha_St) :=
  if (40 : Int32) ≤ (ha_gI S p0 10) then (f_X8_addAct_J75 p0 p1 p2 p3  S) else
  ((ha_rf xo_kd S p0 5 100).bind fun r4 =>
  ha_gd (¬ (((ha_gI S p0 10) : Int32) < 0 ∨ xo_ln r4 ≤ ((ha_gI S p0 10) : Int32).toNatClampNeg)) <|
  ha_nm (ha_sA S r4 (upd (ha_gA S r4) ((ha_gI S p0 10) : Int32).toNatClampNeg p1)) fun S6 =>
  (ha_rf xo_kd S6 p0 6 100).bind fun r7 =>
  ha_gd (¬ (((ha_gI S6 p0 10) : Int32) < 0 ∨ xo_ln r7 ≤ ((ha_gI S6 p0 10) : Int32).toNatClampNeg)) <|
  ha_nm (ha_sA S6 r7 (upd (ha_gA S6 r7) ((ha_gI S6 p0 10) : Int32).toNatClampNeg p2)) fun S9 =>
  (ha_rf xo_kd S9 p0 7 100).bind fun r10 =>
  ha_gd (¬ (((ha_gI S9 p0 10) : Int32) < 0 ∨ xo_ln r10 ≤ ((ha_gI S9 p0 10) : Int32).toNatClampNeg)) <|
  ha_nm (ha_sA S9 r10 (upd (ha_gA S9 r10) ((ha_gI S9 p0 10) : Int32).toNatClampNeg p3)) fun S12 =>
  ha_nm (ha_sI S12 p0 10 (((ha_gI S12 p0 10) : Int32) + 1)) fun S13 =>
  if (p2 : Int32) = 103 then (f_X8_addAct_J66 p0 p1 p2 p3 p0 ((ha_gI S13 p0 11)) S13) else
  (if ¬ (p3 : Int32) = 103 then (f_X8_addAct_J71 p0 p1 p2 p3 p0 ((ha_gI S13 p0 11)) 0 S13) else
  (f_X8_addAct_J66 p0 p1 p2 p3 p0 ((ha_gI S13 p0 11)) S13)))

def f_X9_readAct_J175 (p0 : Nat) (v1 : Int32) (v3 : Int32) (v4 : Int32) (S : ha_St) : Option (Int32 × ha_St) :=
  (ha_rf xo_kd S p0 2 8).bind fun r1 =>
  (f_X8_addAct r1 v1 v3 v4 S).bind fun z2 =>
  some (1, z2)
def f_X9_readAct_J114 (p0 : Nat) (v1 : Int32) (S : ha_St) : Option (Int32 × ha_St) :=
  (f_X9_isValue p0 S).bind fun z3 =>
  if ¬ (z3.1 : Int32) = 0 then (ha_nm ((ha_gI z3.2 p0 3) : Int32) fun x5 =>
  (f_X9_step p0 z3.2).bind fun z6 =>
  if ¬ ((ha_gI z6 p0 3) : Int32) = 119 then (f_X9_readAct_J175 p0 v1 x5 0 z6) else
  ((f_X9_step p0 z6).bind fun z8 =>
  (f_X9_isValue p0 z8).bind fun z9 =>
  if ¬ (z9.1 : Int32) = 0 then (ha_nm ((ha_gI z9.2 p0 3) : Int32) fun x11 =>
  (f_X9_step p0 z9.2).bind fun z12 =>
  f_X9_readAct_J175 p0 v1 x5 x11 z12) else
  ((f_X9_refuse p0 1 z9.2).bind fun z13 =>
  ha_gd ((z13.1 : Int32) = 0 ∨ (z13.1 : Int32) = 1) <|
  some (z13.1, z13.2)))) else
  ((f_X9_refuse p0 1 z3.2).bind fun z15 =>
  ha_gd ((z15.1 : Int32) = 0 ∨ (z15.1 : Int32) = 1) <|
  some (z15.1, z15.2))
def f_X9_readAct_J51 (p0 : Nat) (v1 : Int32) (v2 : Int32) (S : ha_St) : Option (Int32 × ha_St) :=
  (ha_rf xo_kd S p0 2 8).bind fun r17 =>
  if ((ha_gI S r17 10) : Int32) < 40 then ((f_X9_step p0 S).bind fun z19 =>
  if ¬ (v1 : Int32) = 116 then (if (v2 : Int32) = 0 then (f_X9_readAct_J114 p0 v1 z19) else
  (if ((ha_gI z19 p0 3) : Int32) = 114 then ((f_X9_step p0 z19).bind fun z23 =>
  f_X9_readAct_J114 p0 v1 z23) else
  ((f_X9_refuse p0 1 z19).bind fun z24 =>
  ha_gd ((z24.1 : Int32) = 0 ∨ (z24.1 : Int32) = 1) <|
  some (z24.1, z24.2)))) else
  ((ha_rf xo_kd z19 p0 2 8).bind fun r26 =>
  (f_X8_addAct r26 v1 0 0 z19).bind fun z27 =>
  some (1, z27))) else
  ((f_X9_refuse p0 2 S).bind fun z28 =>
  ha_gd ((z28.1 : Int32) = 0 ∨ (z28.1 : Int32) = 1) <|
  some (z28.1, z28.2))
def f_X9_readAct_J22 (p0 : Nat) (v1 : Int32) (k0 : Int32) (S : ha_St) : Option (Int32 × ha_St) :=
  if ¬ (k0 : Int32) = 0 then (f_X9_readAct_J51 p0 v1 k0 S) else
  (if (v1 : Int32) = 113 then (f_X9_readAct_J51 p0 v1 k0 S) else
  (if (v1 : Int32) = 115 then (f_X9_readAct_J51 p0 v1 k0 S) else
  (if (v1 : Int32) = 116 then (f_X9_readAct_J51 p0 v1 k0 S) else
  ((f_X9_refuse p0 1 S).bind fun z34 =>
  ha_gd ((z34.1 : Int32) = 0 ∨ (z34.1 : Int32) = 1) <|
  some (z34.1, z34.2)))))
def f_X9_readAct_J21 (p0 : Nat) (v1 : Int32) (S : ha_St) : Option (Int32 × ha_St) :=
  f_X9_readAct_J22 p0 v1 0 S
def f_X9_readAct (p0 : Nat) (S : ha_St) : Option (Int32 × ha_St) :=
  ha_nm ((ha_gI S p0 3) : Int32) fun x36 =>
  if (x36 : Int32) < 106 then (f_X9_readAct_J21 p0 x36 S) else
  (if (109 : Int32) < x36 then (f_X9_readAct_J21 p0 x36 S) else
  (f_X9_readAct_J22 p0 x36 1 S))

def f_X9_readActs_J48 (p0 : Nat)  (S : ha_St) : Option (Int32 × ha_St) :=
  if ((ha_gI S p0 3) : Int32) = 117 then ((f_X9_step p0 S).bind fun z2 =>
  some (1, z2)) else
  ((f_X9_refuse p0 1 S).bind fun z3 =>
  ha_gd ((z3.1 : Int32) = 0 ∨ (z3.1 : Int32) = 1) <|
  some (z3.1, z3.2))
def f_X9_readActs_L4_J41 (p0 : Nat) (self : (Int32 × Int32 × ha_St) → Option ((ha_St) ⊕ (Int32 × ha_St))) (v2 : Int32) (k0 : Int32) (S : ha_St) : Option ((ha_St) ⊕ (Int32 × ha_St)) :=
  ha_nm ((v2 : Int32) + 1) fun x5 =>
  self (k0, x5, S)
def f_X9_readActs_L4 (p0 : Nat) (self : (Int32 × Int32 × ha_St) → Option ((ha_St) ⊕ (Int32 × ha_St))) (v1 : Int32) (v2 : Int32) (S : ha_St) : Option ((ha_St) ⊕ (Int32 × ha_St)) :=
  if (40 : Int32) < v2 then (some (.inl S)) else
  (if (v1 : Int32) = 0 then (some (.inl S)) else
  ((f_X9_step p0 S).bind fun z8 =>
  (f_X9_readAct p0 z8).bind fun z9 =>
  if ¬ (z9.1 : Int32) = 0 then (if ¬ ((ha_gI z9.2 p0 3) : Int32) = 118 then (f_X9_readActs_L4_J41 p0 self v2 0 z9.2) else
  (f_X9_readActs_L4_J41 p0 self v2 1 z9.2)) else
  (some (.inr (0, z9.2)))))
def f_X9_readActs_L4i (p0 : Nat) : Nat → (Int32 × Int32 × ha_St) → Option ((ha_St) ⊕ (Int32 × ha_St)) := ha_itr (fun self z => f_X9_readActs_L4 p0 self z.1 z.2.1 z.2.2)
def f_X9_readActs (p0 : Nat) (S : ha_St) : Option (Int32 × ha_St) :=
  (f_X9_readActs_L4i p0 ha_fu (1, 0, S)).bind (Sum.elim (fun z => f_X9_readActs_J48 p0  z) (fun r => some r))

def f_X8_closeRule_J45 (p0 : Nat)  (S : ha_St) : Option (ha_St) :=
  some S
def f_X8_closeRule (p0 : Nat) (S : ha_St) : Option (ha_St) :=
  if (20 : Int32) ≤ (ha_gI S p0 8) then (f_X8_closeRule_J45 p0  S) else
  ((ha_rf xo_kd S p0 0 100).bind fun r2 =>
  ha_gd (¬ (((ha_gI S p0 8) : Int32) < 0 ∨ xo_ln r2 ≤ ((ha_gI S p0 8) : Int32).toNatClampNeg)) <|
  ha_nm (ha_sA S r2 (upd (ha_gA S r2) ((ha_gI S p0 8) : Int32).toNatClampNeg (ha_gI S p0 9))) fun S4 =>
  (ha_rf xo_kd S4 p0 1 100).bind fun r5 =>
  ha_gd (¬ (((ha_gI S4 p0 8) : Int32) < 0 ∨ xo_ln r5 ≤ ((ha_gI S4 p0 8) : Int32).toNatClampNeg)) <|
  ha_nm (ha_sA S4 r5 (upd (ha_gA S4 r5) ((ha_gI S4 p0 8) : Int32).toNatClampNeg (ha_gI S4 p0 10))) fun S7 =>
  ha_nm (ha_sI S7 p0 8 (((ha_gI S7 p0 8) : Int32) + 1)) fun S8 =>
  f_X8_closeRule_J45 p0  S8)

def f_X9_read_J127 (p0 : Nat) (p1 : Nat) (p2 : Nat) (k0 : Nat) (k1 : Int32) (S : ha_St) : Option (Int32 × ha_St) :=
  (f_X9_refuse k0 k1 S).bind fun z1 =>
  ha_gd ((z1.1 : Int32) = 0 ∨ (z1.1 : Int32) = 1) <|
  some (z1.1, z1.2)
def f_X9_read_J98 (p0 : Nat) (p1 : Nat) (p2 : Nat)  (S : ha_St) : Option (Int32 × ha_St) :=
  if ¬ ((ha_gI S p0 3) : Int32) = (-2) then (if ¬ ((ha_gI S p0 3) : Int32) = 110 then (f_X9_read_J127 p0 p1 p2 p0 1 S) else
  (f_X9_read_J127 p0 p1 p2 p0 2 S)) else
  ((f_X9_endIsRight p0 S).bind fun z5 =>
  ha_gd ((z5.1 : Int32) = 0 ∨ (z5.1 : Int32) = 1) <|
  some (z5.1, z5.2))
def f_X9_read_L49_J83 (p0 : Nat) (p1 : Nat) (p2 : Nat) (self : (Int32 × ha_St) → Option ((ha_St) ⊕ (Int32 × ha_St)))  (S : ha_St) : Option ((ha_St) ⊕ (Int32 × ha_St)) :=
  some (.inr (0, S))
def f_X9_read_L49 (p0 : Nat) (p1 : Nat) (p2 : Nat) (self : (Int32 × ha_St) → Option ((ha_St) ⊕ (Int32 × ha_St))) (v3 : Int32) (S : ha_St) : Option ((ha_St) ⊕ (Int32 × ha_St)) :=
  if (20 : Int32) ≤ v3 then (some (.inl S)) else
  (if ¬ ((ha_gI S p0 3) : Int32) = (-2) then ((f_X9_readOnes p0 S).bind fun z19 =>
  if (z19.1 : Int32) = 0 then (f_X9_read_L49_J83 p0 p1 p2 self  z19.2) else
  ((f_X9_readActs p0 z19.2).bind fun z21 =>
  if ¬ (z21.1 : Int32) = 0 then ((ha_rf xo_kd z21.2 p0 2 8).bind fun r23 =>
  (f_X8_closeRule r23 z21.2).bind fun z24 =>
  ha_nm ((v3 : Int32) + 1) fun x25 =>
  self (x25, z24)) else
  (f_X9_read_L49_J83 p0 p1 p2 self  z21.2))) else
  ((f_X9_endIsRight p0 S).bind fun z26 =>
  ha_gd ((z26.1 : Int32) = 0 ∨ (z26.1 : Int32) = 1) <|
  some (.inr (z26.1, z26.2))))
def f_X9_read_L49i (p0 : Nat) (p1 : Nat) (p2 : Nat) : Nat → (Int32 × ha_St) → Option ((ha_St) ⊕ (Int32 × ha_St)) := ha_itr (fun self z => f_X9_read_L49 p0 p1 p2 self z.1 z.2)
def f_X9_read (p0 : Nat) (p1 : Nat) (p2 : Nat) (S : ha_St) : Option (Int32 × ha_St) :=
  (ha_rf xo_kd S p1 0 100).bind fun r7 =>
  ha_nm (ha_sR S p0 0 (some r7)) fun S8 =>
  ha_nm (ha_sI S8 p0 1 (ha_gI S8 p1 1)) fun S9 =>
  ha_nm (ha_sR S9 p0 2 (some p2)) fun S10 =>
  (ha_rf xo_kd S10 p0 2 8).bind fun r11 =>
  (f_X8_clear r11 S10).bind fun z12 =>
  ha_nm (ha_sI z12 p0 5 0) fun S13 =>
  ha_nm (ha_sI S13 p0 6 0) fun S14 =>
  ha_nm (ha_sI S14 p0 7 0) fun S15 =>
  (f_X9_step p0 S15).bind fun z16 =>
  (f_X9_read_L49i p0 p1 p2 ha_fu (0, z16)).bind (Sum.elim (fun z => f_X9_read_J98 p0 p1 p2  z) (fun r => some r))

def f_X11_program_J98 (p0 : Nat) (p1 : Int32) (v2 : Int32) (S : ha_St) : Option (Int32 × ha_St) :=
  (ha_rf xo_kd S p0 0 10).bind fun r1 =>
  ha_nm (ha_sI S r1 1 0) fun S2 =>
  some (v2, S2)
def f_X11_program_J63 (p0 : Nat) (p1 : Int32) (v3 : Int32) (k0 : Int32) (S : ha_St) : Option (Int32 × ha_St) :=
  if (v3 : Int32) = 0 then (f_X11_program_J98 p0 p1 k0 S) else
  ((ha_rf xo_kd S p0 1 1).bind fun r4 =>
  (ha_rf xo_kd S r4 0 103).bind fun r5 =>
  ha_gd (¬ ((p1 : Int32) < 0 ∨ xo_ln r5 ≤ (p1 : Int32).toNatClampNeg)) <|
  (ha_rb xo_kd S r5 (p1 : Int32).toNatClampNeg 8).bind fun r7 =>
  (ha_rf xo_kd S p0 1 1).bind fun r8 =>
  (ha_rf xo_kd S r8 0 103).bind fun r9 =>
  (ha_rf xo_kd S p0 11 8).bind fun r10 =>
  ha_gd (¬ ((p1 : Int32) < 0 ∨ xo_ln r9 ≤ (p1 : Int32).toNatClampNeg)) <|
  ha_nm (ha_sB S r9 (va_up (ha_gB S r9) (p1 : Int32).toNatClampNeg (some r10))) fun S12 =>
  ha_nm (ha_sR S12 p0 11 (some r7)) fun S13 =>
  f_X11_program_J98 p0 p1 k0 S13)
def f_X11_program (p0 : Nat) (p1 : Int32) (S : ha_St) : Option (Int32 × ha_St) :=
  if (p1 : Int32) < 0 then (f_X11_program_J98 p0 p1 (-1000) S) else
  (if (3 : Int32) ≤ p1 then (f_X11_program_J98 p0 p1 (-1000) S) else
  ((ha_rf xo_kd S p0 2 9).bind fun r16 =>
  (ha_rf xo_kd S p0 0 10).bind fun r17 =>
  (ha_rf xo_kd S p0 11 8).bind fun r18 =>
  (f_X9_read r16 r17 r18 S).bind fun z19 =>
  (ha_rf xo_kd z19.2 p0 2 9).bind fun r20 =>
  ha_nm (ha_sI z19.2 p0 12 (ha_gI z19.2 r20 6)) fun S21 =>
  if (z19.1 : Int32) = 0 then ((ha_rf xo_kd S21 p0 2 9).bind fun r23 =>
  f_X11_program_J63 p0 p1 z19.1 ((((-1) : Int32) - (ha_gI S21 r23 7))) S21) else
  ((ha_rf xo_kd S21 p0 11 8).bind fun r24 =>
  f_X11_program_J63 p0 p1 z19.1 ((ha_gI S21 r24 8)) S21)))

def f_X11_fault (p0 : Nat) (S : ha_St) : Option (Int32 × ha_St) :=
  some ((ha_gI S p0 12), S)

def f_X1_takeMessage_J50 (p0 : Nat) (p1 : Nat)  (S : ha_St) : Option (Int32 × ha_St) :=
  (ha_rf xo_kd S p1 0 100).bind fun r1 =>
  (ha_rf xo_kd S p0 1 100).bind fun r2 =>
  ha_gd (ha_cpOk (0) (0) ((ha_gI S p1 1)) (xo_ln r1) (xo_ln r2)) <|
  ha_nm (ha_sA S r2 (va_cpy (ha_gA S r1) (ha_gA S r2) (0 : Int32).toNatClampNeg (0 : Int32).toNatClampNeg ((ha_gI S p1 1) : Int32).toNatClampNeg)) fun S4 =>
  ha_nm (ha_sI S4 p0 6 (ha_gI S4 p1 1)) fun S5 =>
  some (1, S5)
def f_X1_takeMessage_L13_J42 (p0 : Nat) (p1 : Nat) (self : (Int32 × ha_St) → Option ((ha_St) ⊕ (Int32 × ha_St)))  (S : ha_St) : Option ((ha_St) ⊕ (Int32 × ha_St)) :=
  some (.inr (0, S))
def f_X1_takeMessage_L13 (p0 : Nat) (p1 : Nat) (self : (Int32 × ha_St) → Option ((ha_St) ⊕ (Int32 × ha_St))) (v2 : Int32) (S : ha_St) : Option ((ha_St) ⊕ (Int32 × ha_St)) :=
  if ((ha_gI S p1 1) : Int32) ≤ v2 then (some (.inl S)) else
  ((ha_rf xo_kd S p1 0 100).bind fun r8 =>
  ha_gd (¬ ((v2 : Int32) < 0 ∨ xo_ln r8 ≤ (v2 : Int32).toNatClampNeg)) <|
  if ((ha_gA S r8 (v2 : Int32).toNatClampNeg) : Int32) < 1 then (f_X1_takeMessage_L13_J42 p0 p1 self  S) else
  ((ha_rf xo_kd S p1 0 100).bind fun r11 =>
  ha_gd (¬ ((v2 : Int32) < 0 ∨ xo_ln r11 ≤ (v2 : Int32).toNatClampNeg)) <|
  if ((ha_gA S r11 (v2 : Int32).toNatClampNeg) : Int32) < 64 then (ha_nm ((v2 : Int32) + 1) fun x14 =>
  self (x14, S)) else
  (f_X1_takeMessage_L13_J42 p0 p1 self  S)))
def f_X1_takeMessage_L13i (p0 : Nat) (p1 : Nat) : Nat → (Int32 × ha_St) → Option ((ha_St) ⊕ (Int32 × ha_St)) := ha_itr (fun self z => f_X1_takeMessage_L13 p0 p1 self z.1 z.2)
def f_X1_takeMessage (p0 : Nat) (p1 : Nat) (S : ha_St) : Option (Int32 × ha_St) :=
  if ((ha_gI S p1 1) : Int32) ≤ 60 then ((f_X1_takeMessage_L13i p0 p1 ha_fu (0, S)).bind (Sum.elim (fun z => f_X1_takeMessage_J50 p0 p1  z) (fun r => some r))) else
  (some (0, S))

def f_X11_message (p0 : Nat) (S : ha_St) : Option (Int32 × ha_St) :=
  (ha_rf xo_kd S p0 1 1).bind fun r1 =>
  (ha_rf xo_kd S p0 0 10).bind fun r2 =>
  (f_X1_takeMessage r1 r2 S).bind fun z3 =>
  (ha_rf xo_kd z3.2 p0 0 10).bind fun r4 =>
  ha_nm (ha_sI z3.2 r4 1 0) fun S5 =>
  ha_gd ((z3.1 : Int32) = 0 ∨ (z3.1 : Int32) = 1) <|
  some (z3.1, S5)

def f_X1_addFog_J36 (p0 : Nat) (p1 : Int32) (p2 : Int32) (p3 : Int32)  (S : ha_St) : Option (Int32 × ha_St) :=
  ha_nm (ha_sI S p0 7 (((ha_gI S p0 7) : Int32) + 1)) fun S1 =>
  some ((((ha_gI S1 p0 7) : Int32) - 1), S1)
def f_X1_addFog_L3 (p0 : Nat) (p1 : Int32) (p2 : Int32) (p3 : Int32) (self : (Int32 × ha_St) → Option (ha_St)) (v4 : Int32) (S : ha_St) : Option (ha_St) :=
  if (p3 : Int32) < v4 then (some S) else
  (if (500 : Int32) < v4 then (some S) else
  ((ha_rf xo_kd S p0 2 100).bind fun r4 =>
  ha_gd (¬ ((v4 : Int32) < 0 ∨ xo_ln r4 ≤ (v4 : Int32).toNatClampNeg)) <|
  ha_gd (¬ ((v4 : Int32) < 0 ∨ xo_ln r4 ≤ (v4 : Int32).toNatClampNeg)) <|
  ha_nm (ha_sA S r4 (upd (ha_gA S r4) (v4 : Int32).toNatClampNeg (((ha_gA S r4 (v4 : Int32).toNatClampNeg) : Int32) ||| ((1 : Int32) <<< ((p1 : Int32) &&& 31))))) fun S7 =>
  ha_nm ((v4 : Int32) + 1) fun x8 =>
  self (x8, S7)))
def f_X1_addFog_L3i (p0 : Nat) (p1 : Int32) (p2 : Int32) (p3 : Int32) : Nat → (Int32 × ha_St) → Option (ha_St) := ha_itr (fun self z => f_X1_addFog_L3 p0 p1 p2 p3 self z.1 z.2)
def f_X1_addFog (p0 : Nat) (p1 : Int32) (p2 : Int32) (p3 : Int32) (S : ha_St) : Option (Int32 × ha_St) :=
  (f_X1_addFog_L3i p0 p1 p2 p3 ha_fu (p2, S)).bind (fun z => f_X1_addFog_J36 p0 p1 p2 p3  z)

def f_X11_fog_J46 (p0 : Nat) (p1 : Int32) (p2 : Int32) (p3 : Int32)  (S : ha_St) : Option (Int32 × ha_St) :=
  some ((-1), S)
def f_X11_fog (p0 : Nat) (p1 : Int32) (p2 : Int32) (p3 : Int32) (S : ha_St) : Option (Int32 × ha_St) :=
  (ha_rf xo_kd S p0 1 1).bind fun r1 =>
  if (60 : Int32) ≤ (ha_gI S r1 7) then (f_X11_fog_J46 p0 p1 p2 p3  S) else
  (if (p1 : Int32) < 0 then (f_X11_fog_J46 p0 p1 p2 p3  S) else
  ((ha_rf xo_kd S p0 1 1).bind fun r4 =>
  if ((((ha_gI S r4 5) : Int32) - 1) : Int32) ≤ p1 then (f_X11_fog_J46 p0 p1 p2 p3  S) else
  (if (p2 : Int32) < 1 then (f_X11_fog_J46 p0 p1 p2 p3  S) else
  (if (p3 : Int32) < p2 then (f_X11_fog_J46 p0 p1 p2 p3  S) else
  (if (p3 : Int32) ≤ 500 then ((ha_rf xo_kd S p0 1 1).bind fun r9 =>
  (f_X1_addFog r9 p1 p2 p3 S).bind fun z10 =>
  some (z10.1, z10.2)) else
  (f_X11_fog_J46 p0 p1 p2 p3  S))))))

def f_J7_fill_53178_J20 (p0 : Nat) (p1 : Int32)  (S : ha_St) : Option (ha_St) :=
  some S
def f_J7_fill_53178_L5 (p0 : Nat) (p1 : Int32) (self : (Int32 × Int32 × ha_St) → Option (ha_St)) (v2 : Int32) (v3 : Int32) (S : ha_St) : Option (ha_St) :=
  if (v3 : Int32) ≤ v2 then (some S) else
  (ha_gd (¬ ((v2 : Int32) < 0 ∨ xo_ln p0 ≤ (v2 : Int32).toNatClampNeg)) <|
  ha_nm (ha_sA S p0 (upd (ha_gA S p0) (v2 : Int32).toNatClampNeg p1)) fun S4 =>
  ha_nm ((v2 : Int32) + 1) fun x5 =>
  self (x5, v3, S4))
def f_J7_fill_53178_L5i (p0 : Nat) (p1 : Int32) : Nat → (Int32 × Int32 × ha_St) → Option (ha_St) := ha_itr (fun self z => f_J7_fill_53178_L5 p0 p1 self z.1 z.2.1 z.2.2)
def f_J7_fill_53178 (p0 : Nat) (p1 : Int32) (S : ha_St) : Option (ha_St) :=
  ha_nm ((nI (xo_ln p0)) : Int32) fun x1 =>
  (f_J7_fill_53178_L5i p0 p1 ha_fu (0, x1, S)).bind (fun z => f_J7_fill_53178_J20 p0 p1  z)

def f_X5_begin (p0 : Nat) (p1 : Int32) (S : ha_St) : Option (ha_St) :=
  (ha_rf xo_kd S p0 0 100).bind fun r1 =>
  ha_nm (ha_sI S p0 4 (if ((nI (xo_ln r1)) : Int32) < p1 then (nI (xo_ln r1)) else p1)) fun S2 =>
  (ha_rf xo_kd S2 p0 0 100).bind fun r3 =>
  (f_J7_fill_53178 r3 0 S2).bind fun z4 =>
  (ha_rf xo_kd z4 p0 1 100).bind fun r5 =>
  (f_J7_fill_53178 r5 0 z4).bind fun z6 =>
  (ha_rf xo_kd z6 p0 2 100).bind fun r7 =>
  (f_J7_fill_53178 r7 0 z6).bind fun z8 =>
  ha_nm (ha_sI z8 p0 5 0) fun S9 =>
  ha_nm (ha_sI S9 p0 6 0) fun S10 =>
  ha_nm (ha_sI S10 p0 7 (-1)) fun S11 =>
  some S11

def f_X1_wordOf_J24 (p0 : Nat) (p1 : Nat) (k0 : Int32) (S : ha_St) : Option (Int32 × ha_St) :=
  some (k0, S)
def f_X1_wordOf (p0 : Nat) (p1 : Nat) (S : ha_St) : Option (Int32 × ha_St) :=
  if ((ha_gI S p0 6) : Int32) ≤ (ha_gI S p1 6) then (f_X1_wordOf_J24 p0 p1 (-1) S) else
  ((ha_rf xo_kd S p0 1 100).bind fun r2 =>
  ha_gd (¬ (((ha_gI S p1 6) : Int32) < 0 ∨ xo_ln r2 ≤ ((ha_gI S p1 6) : Int32).toNatClampNeg)) <|
  f_X1_wordOf_J24 p0 p1 ((ha_gA S r2 ((ha_gI S p1 6) : Int32).toNatClampNeg)) S)

def f_X1_see_J139 (p0 : Nat) (p1 : Nat) (p2 : Int32) (p3 : Int32) (k0 : Nat) (k1 : Int32) (k2 : Int32) (S : ha_St) : Option (ha_St) :=
  ha_gd (¬ ((k1 : Int32) < 0 ∨ xo_ln k0 ≤ (k1 : Int32).toNatClampNeg)) <|
  ha_nm (ha_sA S k0 (upd (ha_gA S k0) (k1 : Int32).toNatClampNeg k2)) fun S2 =>
  (ha_rf xo_kd S2 p1 2 100).bind fun r3 =>
  (ha_rf xo_kd S2 p0 4 100).bind fun r4 =>
  ha_gd (ha_cpOk (((p2 : Int32) * 4)) (106) (4) (xo_ln r3) (xo_ln r4)) <|
  ha_nm (ha_sA S2 r4 (va_cpy (ha_gA S2 r3) (ha_gA S2 r4) (((p2 : Int32) * 4) : Int32).toNatClampNeg (106 : Int32).toNatClampNeg (4 : Int32).toNatClampNeg)) fun S6 =>
  some S6
def f_X1_see_J93 (p0 : Nat) (p1 : Nat) (p2 : Int32) (p3 : Int32) (k0 : Nat) (k1 : Int32) (k2 : Int32) (S : ha_St) : Option (ha_St) :=
  ha_gd (¬ ((k1 : Int32) < 0 ∨ xo_ln k0 ≤ (k1 : Int32).toNatClampNeg)) <|
  ha_nm (ha_sA S k0 (upd (ha_gA S k0) (k1 : Int32).toNatClampNeg k2)) fun S8 =>
  (ha_rf xo_kd S8 p0 4 100).bind fun r9 =>
  (ha_rf xo_kd S8 p0 3 100).bind fun r10 =>
  ha_gd (¬ ((p2 : Int32) < 0 ∨ xo_ln r10 ≤ (p2 : Int32).toNatClampNeg)) <|
  ha_gd (¬ ((102 : Int32) < 0 ∨ xo_ln r9 ≤ (102 : Int32).toNatClampNeg)) <|
  ha_nm (ha_sA S8 r9 (upd (ha_gA S8 r9) (102 : Int32).toNatClampNeg (ha_gA S8 r10 (p2 : Int32).toNatClampNeg))) fun S13 =>
  (ha_rf xo_kd S13 p0 4 100).bind fun r14 =>
  (ha_rf xo_kd S13 p1 1 100).bind fun r15 =>
  ha_gd (¬ ((p2 : Int32) < 0 ∨ xo_ln r15 ≤ (p2 : Int32).toNatClampNeg)) <|
  ha_gd (¬ ((103 : Int32) < 0 ∨ xo_ln r14 ≤ (103 : Int32).toNatClampNeg)) <|
  ha_nm (ha_sA S13 r14 (upd (ha_gA S13 r14) (103 : Int32).toNatClampNeg (ha_gA S13 r15 (p2 : Int32).toNatClampNeg))) fun S18 =>
  (ha_rf xo_kd S18 p0 4 100).bind fun r19 =>
  if ¬ (p2 : Int32) = 0 then (f_X1_see_J139 p0 p1 p2 p3 r19 104 (-1) S18) else
  ((f_X1_wordOf p0 p1 S18).bind fun z21 =>
  f_X1_see_J139 p0 p1 p2 p3 r19 104 z21.1 z21.2)
def f_X1_see_J69 (p0 : Nat) (p1 : Nat) (p2 : Int32) (p3 : Int32) (v5 : Int32) (k0 : Nat) (k1 : Int32) (k2 : Int32) (S : ha_St) : Option (ha_St) :=
  ha_gd (¬ ((k1 : Int32) < 0 ∨ xo_ln k0 ≤ (k1 : Int32).toNatClampNeg)) <|
  ha_nm (ha_sA S k0 (upd (ha_gA S k0) (k1 : Int32).toNatClampNeg k2)) fun S23 =>
  (ha_rf xo_kd S23 p0 4 100).bind fun r24 =>
  if (v5 : Int32) = 0 then (f_X1_see_J93 p0 p1 p2 p3 r24 101 (-1) S23) else
  ((ha_rf xo_kd S23 p0 3 100).bind fun r26 =>
  ha_gd (¬ ((((p2 : Int32) + 1) : Int32) < 0 ∨ xo_ln r26 ≤ (((p2 : Int32) + 1) : Int32).toNatClampNeg)) <|
  f_X1_see_J93 p0 p1 p2 p3 r24 101 ((ha_gA S23 r26 (((p2 : Int32) + 1) : Int32).toNatClampNeg)) S23)
def f_X1_see_J44 (p0 : Nat) (p1 : Nat) (p2 : Int32) (p3 : Int32) (v4 : Int32) (k0 : Int32) (S : ha_St) : Option (ha_St) :=
  (ha_rf xo_kd S p0 4 100).bind fun r28 =>
  if (v4 : Int32) = 0 then (f_X1_see_J69 p0 p1 p2 p3 k0 r28 100 (-1) S) else
  ((ha_rf xo_kd S p0 3 100).bind fun r30 =>
  ha_gd (¬ ((((p2 : Int32) - 1) : Int32) < 0 ∨ xo_ln r30 ≤ (((p2 : Int32) - 1) : Int32).toNatClampNeg)) <|
  f_X1_see_J69 p0 p1 p2 p3 k0 r28 100 ((ha_gA S r30 (((p2 : Int32) - 1) : Int32).toNatClampNeg)) S)
def f_X1_see_J43 (p0 : Nat) (p1 : Nat) (p2 : Int32) (p3 : Int32) (v4 : Int32) (S : ha_St) : Option (ha_St) :=
  f_X1_see_J44 p0 p1 p2 p3 v4 0 S
def f_X1_see_J19 (p0 : Nat) (p1 : Nat) (p2 : Int32) (p3 : Int32) (k0 : Int32) (S : ha_St) : Option (ha_St) :=
  if ((((ha_gI S p1 4) : Int32) - 1) : Int32) ≤ p2 then (f_X1_see_J43 p0 p1 p2 p3 k0 S) else
  (if ¬ (((((p3 : Int32) >>> ((p2 : Int32) &&& 31)) : Int32) &&& 1) : Int32) = 0 then (f_X1_see_J43 p0 p1 p2 p3 k0 S) else
  (f_X1_see_J44 p0 p1 p2 p3 k0 1 S))
def f_X1_see_J18 (p0 : Nat) (p1 : Nat) (p2 : Int32) (p3 : Int32)  (S : ha_St) : Option (ha_St) :=
  f_X1_see_J19 p0 p1 p2 p3 0 S
def f_X1_see (p0 : Nat) (p1 : Nat) (p2 : Int32) (p3 : Int32) (S : ha_St) : Option (ha_St) :=
  if (p2 : Int32) ≤ 0 then (f_X1_see_J18 p0 p1 p2 p3  S) else
  (if ¬ (((((p3 : Int32) >>> ((((p2 : Int32) - 1) : Int32) &&& 31)) : Int32) &&& 1) : Int32) = 0 then (f_X1_see_J18 p0 p1 p2 p3  S) else
  (f_X1_see_J19 p0 p1 p2 p3 1 S))

def f_X1_kindOf_J21 (p0 : Nat) (p1 : Int32) (k0 : Int32) (S : ha_St) : Option (Int32 × ha_St) :=
  some (k0, S)
def f_X1_kindOf (p0 : Nat) (p1 : Int32) (S : ha_St) : Option (Int32 × ha_St) :=
  if ¬ (p1 : Int32) = 0 then (if ¬ (p1 : Int32) = (((ha_gI S p0 4) : Int32) - 1) then (f_X1_kindOf_J21 p0 p1 2 S) else
  (f_X1_kindOf_J21 p0 p1 1 S)) else
  (some (0, S))

def f_X8_holds_J71 (p0 : Int32) (p1 : Int32) (p2 : Int32) (k0 : Int32) : Option (Int32) :=
  ha_gd ((k0 : Int32) = 0 ∨ (k0 : Int32) = 1) <|
  some k0
def f_X8_holds_J60 (p0 : Int32) (p1 : Int32) (p2 : Int32) (k0 : Int32) : Option (Int32) :=
  ha_gd ((k0 : Int32) = 0 ∨ (k0 : Int32) = 1) <|
  some k0
def f_X8_holds_J49 (p0 : Int32) (p1 : Int32) (p2 : Int32) (k0 : Int32) : Option (Int32) :=
  ha_gd ((k0 : Int32) = 0 ∨ (k0 : Int32) = 1) <|
  some k0
def f_X8_holds_J38 (p0 : Int32) (p1 : Int32) (p2 : Int32) (k0 : Int32) : Option (Int32) :=
  ha_gd ((k0 : Int32) = 0 ∨ (k0 : Int32) = 1) <|
  some k0
def f_X8_holds (p0 : Int32) (p1 : Int32) (p2 : Int32) : Option (Int32) :=
  ha_nm (p1 : Int32) fun xs =>
  if xs = 120 then (if (p2 : Int32) ≤ p0 then (f_X8_holds_J38 p0 p1 p2 0) else
  (f_X8_holds_J38 p0 p1 p2 1)) else
  (if xs = 121 then (if ¬ (p0 : Int32) = p2 then (f_X8_holds_J49 p0 p1 p2 0) else
  (f_X8_holds_J49 p0 p1 p2 1)) else
  (if xs = 122 then (if (p0 : Int32) ≤ p2 then (f_X8_holds_J60 p0 p1 p2 0) else
  (f_X8_holds_J60 p0 p1 p2 1)) else
  (if (p0 : Int32) = p2 then (f_X8_holds_J71 p0 p1 p2 0) else
  (f_X8_holds_J71 p0 p1 p2 1))))

def f_X8_firstRuleThatHolds_J83 (p0 : Nat) (p1 : Nat)  (S : ha_St) : Option (Int32 × ha_St) :=
  some ((-1), S)
def f_X8_firstRuleThatHolds_L4_J63 (p0 : Nat) (p1 : Nat) (self : (Int32 × Int32 × ha_St) → Option ((ha_St) ⊕ (Int32 × ha_St))) (v3 : Int32) (v4 : Int32) (S : ha_St) : Option ((ha_St) ⊕ (Int32 × ha_St)) :=
  if (v4 : Int32) = 0 then ((ha_rf xo_kd S p0 0 100).bind fun r2 =>
  ha_gd (¬ ((v3 : Int32) < 0 ∨ xo_ln r2 ≤ (v3 : Int32).toNatClampNeg)) <|
  ha_nm ((ha_gA S r2 (v3 : Int32).toNatClampNeg) : Int32) fun x4 =>
  ha_nm ((v3 : Int32) + 1) fun x5 =>
  self (x4, x5, S)) else
  (some (.inr (v3, S)))
def f_X8_firstRuleThatHolds_L15 (p0 : Nat) (p1 : Nat) (self : (Int32 × Int32 × Int32 × ha_St) → Option (Int32 × Int32 × ha_St)) (v2 : Int32) (v3 : Int32) (v4 : Int32) (S : ha_St) : Option (Int32 × Int32 × ha_St) :=
  (ha_rf xo_kd S p0 0 100).bind fun r7 =>
  ha_gd (¬ ((v3 : Int32) < 0 ∨ xo_ln r7 ≤ (v3 : Int32).toNatClampNeg)) <|
  if ((ha_gA S r7 (v3 : Int32).toNatClampNeg) : Int32) ≤ v2 then (some (v3, v4, S)) else
  (if (v4 : Int32) = 0 then (some (v3, v4, S)) else
  ((ha_rf xo_kd S p0 2 100).bind fun r11 =>
  ha_gd (¬ ((v2 : Int32) < 0 ∨ xo_ln r11 ≤ (v2 : Int32).toNatClampNeg)) <|
  ha_gd (¬ (((ha_gA S r11 (v2 : Int32).toNatClampNeg) : Int32) < 0 ∨ xo_ln p1 ≤ ((ha_gA S r11 (v2 : Int32).toNatClampNeg) : Int32).toNatClampNeg)) <|
  (ha_rf xo_kd S p0 3 100).bind fun r14 =>
  ha_gd (¬ ((v2 : Int32) < 0 ∨ xo_ln r14 ≤ (v2 : Int32).toNatClampNeg)) <|
  (ha_rf xo_kd S p0 4 100).bind fun r16 =>
  ha_gd (¬ ((v2 : Int32) < 0 ∨ xo_ln r16 ≤ (v2 : Int32).toNatClampNeg)) <|
  ha_gd (¬ (((ha_gA S r16 (v2 : Int32).toNatClampNeg) : Int32) < 0 ∨ xo_ln p1 ≤ ((ha_gA S r16 (v2 : Int32).toNatClampNeg) : Int32).toNatClampNeg)) <|
  (f_X8_holds ((ha_gA S p1 ((ha_gA S r11 (v2 : Int32).toNatClampNeg) : Int32).toNatClampNeg)) ((ha_gA S r14 (v2 : Int32).toNatClampNeg)) ((ha_gA S p1 ((ha_gA S r16 (v2 : Int32).toNatClampNeg) : Int32).toNatClampNeg))).bind fun z19 =>
  ha_nm ((v2 : Int32) + 1) fun x20 =>
  self (x20, v3, z19, S)))
def f_X8_firstRuleThatHolds_L15i (p0 : Nat) (p1 : Nat) : Nat → (Int32 × Int32 × Int32 × ha_St) → Option (Int32 × Int32 × ha_St) := ha_itr (fun self z => f_X8_firstRuleThatHolds_L15 p0 p1 self z.1 z.2.1 z.2.2.1 z.2.2.2)
def f_X8_firstRuleThatHolds_L4 (p0 : Nat) (p1 : Nat) (self : (Int32 × Int32 × ha_St) → Option ((ha_St) ⊕ (Int32 × ha_St))) (v2 : Int32) (v3 : Int32) (S : ha_St) : Option ((ha_St) ⊕ (Int32 × ha_St)) :=
  if ((ha_gI S p0 8) : Int32) ≤ v3 then (some (.inl S)) else
  ((f_X8_firstRuleThatHolds_L15i p0 p1 ha_fu (v2, v3, 1, S)).bind (fun z => f_X8_firstRuleThatHolds_L4_J63 p0 p1 self z.1 z.2.1 z.2.2))
def f_X8_firstRuleThatHolds_L4i (p0 : Nat) (p1 : Nat) : Nat → (Int32 × Int32 × ha_St) → Option ((ha_St) ⊕ (Int32 × ha_St)) := ha_itr (fun self z => f_X8_firstRuleThatHolds_L4 p0 p1 self z.1 z.2.1 z.2.2)
def f_X8_firstRuleThatHolds (p0 : Nat) (p1 : Nat) (S : ha_St) : Option (Int32 × ha_St) :=
  (f_X8_firstRuleThatHolds_L4i p0 p1 ha_fu (0, 0, S)).bind (Sum.elim (fun z => f_X8_firstRuleThatHolds_J83 p0 p1  z) (fun r => some r))

def f_X8_firstAct_J16 (p0 : Nat) (p1 : Int32) (k0 : Int32) (S : ha_St) : Option (Int32 × ha_St) :=
  some (k0, S)
def f_X8_firstAct (p0 : Nat) (p1 : Int32) (S : ha_St) : Option (Int32 × ha_St) :=
  if (p1 : Int32) ≤ 0 then (f_X8_firstAct_J16 p0 p1 0 S) else
  ((ha_rf xo_kd S p0 1 100).bind fun r2 =>
  ha_gd (¬ ((((p1 : Int32) - 1) : Int32) < 0 ∨ xo_ln r2 ≤ (((p1 : Int32) - 1) : Int32).toNatClampNeg)) <|
  f_X8_firstAct_J16 p0 p1 ((ha_gA S r2 (((p1 : Int32) - 1) : Int32).toNatClampNeg)) S)

def f_J9_floorMod_7cf53_J18 (p0 : Int32) (p1 : Int32) (v2 : Int32) : Option (Int32) :=
  some v2
def f_J9_floorMod_7cf53 (p0 : Int32) (p1 : Int32) : Option (Int32) :=
  ha_gd (¬ (p1 : Int32) = 0) <|
  ha_nm (((p0 : Int32) - p0 / p1 * p1) : Int32) fun x2 =>
  if (0 : Int32) ≤ ((p0 : Int32) ^^^ p1) then (f_J9_floorMod_7cf53_J18 p0 p1 x2) else
  (if (x2 : Int32) = 0 then (f_J9_floorMod_7cf53_J18 p0 p1 x2) else
  (some ((x2 : Int32) + p1)))

def f_X5_put_J52 (p0 : Nat) (p1 : Int32) (p2 : Int32)  (S : ha_St) : Option (ha_St) :=
  ha_nm (ha_sI S p0 5 (((ha_gI S p0 5) : Int32) + 1)) fun S1 =>
  some S1
def f_X5_put_J32 (p0 : Nat) (p1 : Int32) (p2 : Int32)  (S : ha_St) : Option (ha_St) :=
  if ¬ (p2 : Int32) = 0 then (f_X5_put_J52 p0 p1 p2  S) else
  (if ¬ ((ha_gI S p0 7) : Int32) = (-1) then (f_X5_put_J52 p0 p1 p2  S) else
  (ha_nm (ha_sI S p0 7 (ha_gI S p0 5)) fun S4 =>
  f_X5_put_J52 p0 p1 p2  S4))
def f_X5_put (p0 : Nat) (p1 : Int32) (p2 : Int32) (S : ha_St) : Option (ha_St) :=
  if ((ha_gI S p0 5) : Int32) < 100 then ((ha_rf xo_kd S p0 3 100).bind fun r6 =>
  if ((nI (xo_ln r6)) : Int32) ≤ (ha_gI S p0 5) then (f_X5_put_J32 p0 p1 p2  S) else
  ((ha_rf xo_kd S p0 3 100).bind fun r8 =>
  ha_gd (¬ (((ha_gI S p0 5) : Int32) < 0 ∨ xo_ln r8 ≤ ((ha_gI S p0 5) : Int32).toNatClampNeg)) <|
  ha_nm (ha_sA S r8 (upd (ha_gA S r8) ((ha_gI S p0 5) : Int32).toNatClampNeg p1)) fun S10 =>
  f_X5_put_J32 p0 p1 p2  S10)) else
  (some S)

def f_X1_act_J220 (p0 : Nat) (p1 : Nat) (p2 : Int32) (p3 : Nat) (p4 : Int32)  (S : ha_St) : Option (ha_St) :=
  some S
def f_X1_act_L8_J214 (p0 : Nat) (p1 : Nat) (p2 : Int32) (p3 : Nat) (p4 : Int32) (self : (Int32 × ha_St) → Option (ha_St)) (v5 : Int32) (S : ha_St) : Option (ha_St) :=
  ha_nm ((v5 : Int32) + 1) fun x2 =>
  self (x2, S)
def f_X1_act_L8_J170 (p0 : Nat) (p1 : Nat) (p2 : Int32) (p3 : Nat) (p4 : Int32) (self : (Int32 × ha_St) → Option (ha_St)) (v5 : Int32) (v6 : Int32) (S : ha_St) : Option (ha_St) :=
  if ¬ (v6 : Int32) = 116 then (f_X1_act_L8_J214 p0 p1 p2 p3 p4 self v5 S) else
  (if ¬ (p2 : Int32) = 0 then (f_X1_act_L8_J214 p0 p1 p2 p3 p4 self v5 S) else
  (if ((ha_gI S p0 6) : Int32) ≤ (ha_gI S p1 6) then (f_X1_act_L8_J214 p0 p1 p2 p3 p4 self v5 S) else
  (ha_nm (ha_sI S p1 6 (((ha_gI S p1 6) : Int32) + 1)) fun S6 =>
  (ha_rf xo_kd S6 p0 4 100).bind fun r7 =>
  (f_X1_wordOf p0 p1 S6).bind fun z8 =>
  ha_gd (¬ ((104 : Int32) < 0 ∨ xo_ln r7 ≤ (104 : Int32).toNatClampNeg)) <|
  ha_nm (ha_sA z8.2 r7 (upd (ha_gA z8.2 r7) (104 : Int32).toNatClampNeg z8.1)) fun S10 =>
  f_X1_act_L8_J214 p0 p1 p2 p3 p4 self v5 S10)))
def f_X1_act_L8_J157 (p0 : Nat) (p1 : Nat) (p2 : Int32) (p3 : Nat) (p4 : Int32) (self : (Int32 × ha_St) → Option (ha_St)) (v5 : Int32) (v8 : Int32) (k0 : Int32) (S : ha_St) : Option (ha_St) :=
  (f_X5_put p1 v8 k0 S).bind fun z11 =>
  f_X1_act_L8_J214 p0 p1 p2 p3 p4 self v5 z11
def f_X1_act_L8_J156 (p0 : Nat) (p1 : Nat) (p2 : Int32) (p3 : Nat) (p4 : Int32) (self : (Int32 × ha_St) → Option (ha_St)) (v5 : Int32) (v8 : Int32) (S : ha_St) : Option (ha_St) :=
  f_X1_act_L8_J157 p0 p1 p2 p3 p4 self v5 v8 0 S
def f_X1_act_L8_J110 (p0 : Nat) (p1 : Nat) (p2 : Int32) (p3 : Nat) (p4 : Int32) (self : (Int32 × ha_St) → Option (ha_St)) (v5 : Int32) (v6 : Int32) (v8 : Int32) (S : ha_St) : Option (ha_St) :=
  if ¬ (v6 : Int32) = 115 then (f_X1_act_L8_J170 p0 p1 p2 p3 p4 self v5 v6 S) else
  (if ¬ (p2 : Int32) = (((ha_gI S p1 4) : Int32) - 1) then (f_X1_act_L8_J170 p0 p1 p2 p3 p4 self v5 v6 S) else
  (if ((ha_gI S p0 6) : Int32) ≤ (ha_gI S p1 5) then (f_X1_act_L8_J156 p0 p1 p2 p3 p4 self v5 v8 S) else
  ((ha_rf xo_kd S p0 1 100).bind fun r15 =>
  ha_gd (¬ (((ha_gI S p1 5) : Int32) < 0 ∨ xo_ln r15 ≤ ((ha_gI S p1 5) : Int32).toNatClampNeg)) <|
  if ¬ ((ha_gA S r15 ((ha_gI S p1 5) : Int32).toNatClampNeg) : Int32) = v8 then (f_X1_act_L8_J156 p0 p1 p2 p3 p4 self v5 v8 S) else
  (f_X1_act_L8_J157 p0 p1 p2 p3 p4 self v5 v8 1 S))))
def f_X1_act_L8 (p0 : Nat) (p1 : Nat) (p2 : Int32) (p3 : Nat) (p4 : Int32) (self : (Int32 × ha_St) → Option (ha_St)) (v5 : Int32) (S : ha_St) : Option (ha_St) :=
  (ha_rf xo_kd S p3 1 100).bind fun r18 =>
  ha_gd (¬ ((p4 : Int32) < 0 ∨ xo_ln r18 ≤ (p4 : Int32).toNatClampNeg)) <|
  if ((ha_gA S r18 (p4 : Int32).toNatClampNeg) : Int32) ≤ v5 then (some S) else
  ((ha_rf xo_kd S p3 5 100).bind fun r21 =>
  ha_gd (¬ ((v5 : Int32) < 0 ∨ xo_ln r21 ≤ (v5 : Int32).toNatClampNeg)) <|
  ha_nm ((ha_gA S r21 (v5 : Int32).toNatClampNeg) : Int32) fun x23 =>
  (ha_rf xo_kd S p0 4 100).bind fun r24 =>
  (ha_rf xo_kd S p3 6 100).bind fun r25 =>
  ha_gd (¬ ((v5 : Int32) < 0 ∨ xo_ln r25 ≤ (v5 : Int32).toNatClampNeg)) <|
  ha_gd (¬ (((ha_gA S r25 (v5 : Int32).toNatClampNeg) : Int32) < 0 ∨ xo_ln r24 ≤ ((ha_gA S r25 (v5 : Int32).toNatClampNeg) : Int32).toNatClampNeg)) <|
  (ha_rf xo_kd S p0 4 100).bind fun r28 =>
  (ha_rf xo_kd S p3 7 100).bind fun r29 =>
  ha_gd (¬ ((v5 : Int32) < 0 ∨ xo_ln r29 ≤ (v5 : Int32).toNatClampNeg)) <|
  ha_gd (¬ (((ha_gA S r29 (v5 : Int32).toNatClampNeg) : Int32) < 0 ∨ xo_ln r28 ≤ ((ha_gA S r29 (v5 : Int32).toNatClampNeg) : Int32).toNatClampNeg)) <|
  ha_nm ((((ha_gA S r24 ((ha_gA S r25 (v5 : Int32).toNatClampNeg) : Int32).toNatClampNeg) : Int32) + (ha_gA S r28 ((ha_gA S r29 (v5 : Int32).toNatClampNeg) : Int32).toNatClampNeg)) : Int32) fun x32 =>
  (f_J9_floorMod_7cf53 x32 64).bind fun z33 =>
  if ¬ (x23 : Int32) = 113 then (if (x23 : Int32) < 106 then (f_X1_act_L8_J110 p0 p1 p2 p3 p4 self v5 x23 z33 S) else
  (if (109 : Int32) < x23 then (f_X1_act_L8_J110 p0 p1 p2 p3 p4 self v5 x23 z33 S) else
  ((ha_rf xo_kd S p0 4 100).bind fun r37 =>
  ha_gd (¬ ((x23 : Int32) < 0 ∨ xo_ln r37 ≤ (x23 : Int32).toNatClampNeg)) <|
  ha_nm (ha_sA S r37 (upd (ha_gA S r37) (x23 : Int32).toNatClampNeg z33)) fun S39 =>
  f_X1_act_L8_J214 p0 p1 p2 p3 p4 self v5 S39))) else
  ((ha_rf xo_kd S p0 4 100).bind fun r40 =>
  ha_gd (¬ ((102 : Int32) < 0 ∨ xo_ln r40 ≤ (102 : Int32).toNatClampNeg)) <|
  ha_nm (ha_sA S r40 (upd (ha_gA S r40) (102 : Int32).toNatClampNeg z33)) fun S42 =>
  f_X1_act_L8_J214 p0 p1 p2 p3 p4 self v5 S42))
def f_X1_act_L8i (p0 : Nat) (p1 : Nat) (p2 : Int32) (p3 : Nat) (p4 : Int32) : Nat → (Int32 × ha_St) → Option (ha_St) := ha_itr (fun self z => f_X1_act_L8 p0 p1 p2 p3 p4 self z.1 z.2)
def f_X1_act (p0 : Nat) (p1 : Nat) (p2 : Int32) (p3 : Nat) (p4 : Int32) (S : ha_St) : Option (ha_St) :=
  (f_X8_firstAct p3 p4 S).bind fun z1 =>
  (f_X1_act_L8i p0 p1 p2 p3 p4 ha_fu (z1.1, z1.2)).bind (fun z => f_X1_act_J220 p0 p1 p2 p3 p4  z)

def f_X1_keep_J82 (p0 : Nat) (p1 : Nat) (p2 : Int32) (v3 : Int32) (S : ha_St) : Option (Int32 × ha_St) :=
  (ha_rf xo_kd S p0 4 100).bind fun r1 =>
  (ha_rf xo_kd S p1 2 100).bind fun r2 =>
  ha_gd (ha_cpOk (106) (((p2 : Int32) * 4)) (4) (xo_ln r1) (xo_ln r2)) <|
  ha_nm (ha_sA S r2 (va_cpy (ha_gA S r1) (ha_gA S r2) (106 : Int32).toNatClampNeg (((p2 : Int32) * 4) : Int32).toNatClampNeg (4 : Int32).toNatClampNeg)) fun S4 =>
  ha_gd ((v3 : Int32) = 0 ∨ (v3 : Int32) = 1) <|
  some (v3, S4)
def f_X1_keep_L38_J74 (p0 : Nat) (p1 : Nat) (p2 : Int32) (self : (Int32 × Int32 × ha_St) → Option (Int32 × ha_St)) (v4 : Int32) (k0 : Int32) (k1 : Int32) (S : ha_St) : Option (Int32 × ha_St) :=
  ha_nm (((k0 : Int32) ||| k1) : Int32) fun x11 =>
  ha_nm ((v4 : Int32) + 1) fun x12 =>
  self (x11, x12, S)
def f_X1_keep_L38 (p0 : Nat) (p1 : Nat) (p2 : Int32) (self : (Int32 × Int32 × ha_St) → Option (Int32 × ha_St)) (v3 : Int32) (v4 : Int32) (S : ha_St) : Option (Int32 × ha_St) :=
  if (4 : Int32) ≤ v4 then (some (v3, S)) else
  ((ha_rf xo_kd S p0 4 100).bind fun r14 =>
  ha_gd (¬ ((((106 : Int32) + v4) : Int32) < 0 ∨ xo_ln r14 ≤ (((106 : Int32) + v4) : Int32).toNatClampNeg)) <|
  (ha_rf xo_kd S p1 2 100).bind fun r16 =>
  ha_gd (¬ ((((((p2 : Int32) * 4) : Int32) + v4) : Int32) < 0 ∨ xo_ln r16 ≤ (((((p2 : Int32) * 4) : Int32) + v4) : Int32).toNatClampNeg)) <|
  if ((ha_gA S r14 (((106 : Int32) + v4) : Int32).toNatClampNeg) : Int32) = (ha_gA S r16 (((((p2 : Int32) * 4) : Int32) + v4) : Int32).toNatClampNeg) then (f_X1_keep_L38_J74 p0 p1 p2 self v4 v3 0 S) else
  (f_X1_keep_L38_J74 p0 p1 p2 self v4 v3 1 S))
def f_X1_keep_L38i (p0 : Nat) (p1 : Nat) (p2 : Int32) : Nat → (Int32 × Int32 × ha_St) → Option (Int32 × ha_St) := ha_itr (fun self z => f_X1_keep_L38 p0 p1 p2 self z.1 z.2.1 z.2.2)
def f_X1_keep_J21 (p0 : Nat) (p1 : Nat) (p2 : Int32) (k0 : Int32) (S : ha_St) : Option (Int32 × ha_St) :=
  (ha_rf xo_kd S p1 0 100).bind fun r6 =>
  (ha_rf xo_kd S p0 4 100).bind fun r7 =>
  ha_gd (¬ ((102 : Int32) < 0 ∨ xo_ln r7 ≤ (102 : Int32).toNatClampNeg)) <|
  ha_gd (¬ ((p2 : Int32) < 0 ∨ xo_ln r6 ≤ (p2 : Int32).toNatClampNeg)) <|
  ha_nm (ha_sA S r6 (upd (ha_gA S r6) (p2 : Int32).toNatClampNeg (ha_gA S r7 (102 : Int32).toNatClampNeg))) fun S10 =>
  (f_X1_keep_L38i p0 p1 p2 ha_fu (k0, 0, S10)).bind (fun z => f_X1_keep_J82 p0 p1 p2 z.1 z.2)
def f_X1_keep (p0 : Nat) (p1 : Nat) (p2 : Int32) (S : ha_St) : Option (Int32 × ha_St) :=
  (ha_rf xo_kd S p0 4 100).bind fun r21 =>
  ha_gd (¬ ((102 : Int32) < 0 ∨ xo_ln r21 ≤ (102 : Int32).toNatClampNeg)) <|
  (ha_rf xo_kd S p0 3 100).bind fun r23 =>
  ha_gd (¬ ((p2 : Int32) < 0 ∨ xo_ln r23 ≤ (p2 : Int32).toNatClampNeg)) <|
  if ((ha_gA S r21 (102 : Int32).toNatClampNeg) : Int32) = (ha_gA S r23 (p2 : Int32).toNatClampNeg) then (f_X1_keep_J21 p0 p1 p2 0 S) else
  (f_X1_keep_J21 p0 p1 p2 1 S)

def f_X1_move_J219 (p0 : Nat) (p1 : Nat) (p2 : Int32) (p3 : Int32) (k0 : Int32) (S : ha_St) : Option (Int32 × ha_St) :=
  ha_gd ((k0 : Int32) = 0 ∨ (k0 : Int32) = 1) <|
  some (k0, S)
def f_X1_move_J214 (p0 : Nat) (p1 : Nat) (p2 : Int32) (p3 : Int32)  (S : ha_St) : Option (Int32 × ha_St) :=
  f_X1_move_J219 p0 p1 p2 p3 1 S
def f_X1_move_J191 (p0 : Nat) (p1 : Nat) (p2 : Int32) (p3 : Int32) (v5 : Int32) (v6 : Int32) (v7 : Int32) (S : ha_St) : Option (Int32 × ha_St) :=
  if ¬ (v7 : Int32) = 0 then (f_X1_move_J214 p0 p1 p2 p3  S) else
  (if ¬ ((ha_gI S p1 6) : Int32) = v5 then (f_X1_move_J214 p0 p1 p2 p3  S) else
  (if ((ha_gI S p1 5) : Int32) = v6 then (f_X1_move_J219 p0 p1 p2 p3 0 S) else
  (f_X1_move_J214 p0 p1 p2 p3  S)))
def f_X1_move_L60_J184 (p0 : Nat) (p1 : Nat) (p2 : Int32) (p3 : Int32) (self : (Int32 × Int32 × Int32 × Int32 × Int32 × ha_St) → Option (Int32 × Int32 × Int32 × ha_St)) (v4 : Int32) (v5 : Int32) (v6 : Int32) (v7 : Int32) (v8 : Int32) (k0 : Nat) (k1 : Int32) (k2 : Int32) (S : ha_St) : Option (Int32 × Int32 × Int32 × ha_St) :=
  ha_gd (¬ ((k1 : Int32) < 0 ∨ xo_ln k0 ≤ (k1 : Int32).toNatClampNeg)) <|
  ha_nm (ha_sA S k0 (upd (ha_gA S k0) (k1 : Int32).toNatClampNeg k2)) fun S13 =>
  ha_nm ((v8 : Int32) + 1) fun x14 =>
  self (v4, v5, v6, v7, x14, S13)
def f_X1_move_L60_J153 (p0 : Nat) (p1 : Nat) (p2 : Int32) (p3 : Int32) (self : (Int32 × Int32 × Int32 × Int32 × Int32 × ha_St) → Option (Int32 × Int32 × Int32 × ha_St)) (v4 : Int32) (v5 : Int32) (v6 : Int32) (v7 : Int32) (v8 : Int32) (k0 : Int32) (S : ha_St) : Option (Int32 × Int32 × Int32 × ha_St) :=
  (ha_rf xo_kd S p1 1 100).bind fun r15 =>
  if (k0 : Int32) = 0 then (f_X1_move_L60_J184 p0 p1 p2 p3 self v4 v5 v6 v7 v8 r15 v8 0 S) else
  ((ha_rf xo_kd S p1 1 100).bind fun r17 =>
  ha_gd (¬ ((v8 : Int32) < 0 ∨ xo_ln r17 ≤ (v8 : Int32).toNatClampNeg)) <|
  f_X1_move_L60_J184 p0 p1 p2 p3 self v4 v5 v6 v7 v8 r15 v8 ((if (99 : Int32) < (((ha_gA S r17 (v8 : Int32).toNatClampNeg) : Int32) + 1) then 99 else (((ha_gA S r17 (v8 : Int32).toNatClampNeg) : Int32) + 1))) S)
def f_X1_move_L60_J131 (p0 : Nat) (p1 : Nat) (p2 : Int32) (p3 : Int32) (self : (Int32 × Int32 × Int32 × Int32 × Int32 × ha_St) → Option (Int32 × Int32 × Int32 × ha_St)) (v4 : Int32) (v5 : Int32) (v6 : Int32) (v7 : Int32) (v8 : Int32) (S : ha_St) : Option (Int32 × Int32 × Int32 × ha_St) :=
  (ha_rf xo_kd S p1 0 100).bind fun r19 =>
  ha_gd (¬ ((v8 : Int32) < 0 ∨ xo_ln r19 ≤ (v8 : Int32).toNatClampNeg)) <|
  (ha_rf xo_kd S p0 3 100).bind fun r21 =>
  ha_gd (¬ ((v8 : Int32) < 0 ∨ xo_ln r21 ≤ (v8 : Int32).toNatClampNeg)) <|
  if ¬ ((ha_gA S r19 (v8 : Int32).toNatClampNeg) : Int32) = (ha_gA S r21 (v8 : Int32).toNatClampNeg) then (f_X1_move_L60_J153 p0 p1 p2 p3 self v4 v5 v6 v7 v8 0 S) else
  (f_X1_move_L60_J153 p0 p1 p2 p3 self v4 v5 v6 v7 v8 1 S)
def f_X1_move_L60 (p0 : Nat) (p1 : Nat) (p2 : Int32) (p3 : Int32) (self : (Int32 × Int32 × Int32 × Int32 × Int32 × ha_St) → Option (Int32 × Int32 × Int32 × ha_St)) (v4 : Int32) (v5 : Int32) (v6 : Int32) (v7 : Int32) (v8 : Int32) (S : ha_St) : Option (Int32 × Int32 × Int32 × ha_St) :=
  if ((ha_gI S p1 4) : Int32) ≤ v8 then (some (v5, v6, v7, S)) else
  ((f_X1_see p0 p1 v8 v4 S).bind fun z25 =>
  (ha_rf xo_kd z25 p0 0 103).bind fun r26 =>
  (f_X1_kindOf p1 v8 z25).bind fun z27 =>
  ha_gd (¬ ((z27.1 : Int32) < 0 ∨ xo_ln r26 ≤ (z27.1 : Int32).toNatClampNeg)) <|
  (ha_rb xo_kd z27.2 r26 (z27.1 : Int32).toNatClampNeg 8).bind fun r29 =>
  (ha_rf xo_kd z27.2 p0 4 100).bind fun r30 =>
  (f_X8_firstRuleThatHolds r29 r30 z27.2).bind fun z31 =>
  if (z31.1 : Int32) = (-1) then (f_X1_move_L60_J131 p0 p1 p2 p3 self v4 v5 v6 v7 v8 z31.2) else
  ((f_X1_act p0 p1 v8 r29 z31.1 z31.2).bind fun z33 =>
  (f_X1_keep p0 p1 v8 z33).bind fun z34 =>
  ha_nm (((v7 : Int32) ||| z34.1) : Int32) fun x35 =>
  f_X1_move_L60_J131 p0 p1 p2 p3 self v4 v5 v6 x35 v8 z34.2))
def f_X1_move_L60i (p0 : Nat) (p1 : Nat) (p2 : Int32) (p3 : Int32) : Nat → (Int32 × Int32 × Int32 × Int32 × Int32 × ha_St) → Option (Int32 × Int32 × Int32 × ha_St) := ha_itr (fun self z => f_X1_move_L60 p0 p1 p2 p3 self z.1 z.2.1 z.2.2.1 z.2.2.2.1 z.2.2.2.2.1 z.2.2.2.2.2)
def f_X1_move_J21 (p0 : Nat) (p1 : Nat) (p2 : Int32) (p3 : Int32) (k0 : Int32) (S : ha_St) : Option (Int32 × ha_St) :=
  ha_nm (((k0 : Int32) ||| p3) : Int32) fun x5 =>
  ha_nm ((ha_gI S p1 6) : Int32) fun x6 =>
  ha_nm ((ha_gI S p1 5) : Int32) fun x7 =>
  (ha_rf xo_kd S p1 0 100).bind fun r8 =>
  (ha_rf xo_kd S p0 3 100).bind fun r9 =>
  ha_gd (ha_cpOk (0) (0) ((ha_gI S p1 4)) (xo_ln r8) (xo_ln r9)) <|
  ha_nm (ha_sA S r9 (va_cpy (ha_gA S r8) (ha_gA S r9) (0 : Int32).toNatClampNeg (0 : Int32).toNatClampNeg ((ha_gI S p1 4) : Int32).toNatClampNeg)) fun S11 =>
  (f_X1_move_L60i p0 p1 p2 p3 ha_fu (x5, x6, x7, 0, 0, S11)).bind (fun z => f_X1_move_J191 p0 p1 p2 p3 z.1 z.2.1 z.2.2.1 z.2.2.2)
def f_X1_move_J20 (p0 : Nat) (p1 : Nat) (p2 : Int32) (p3 : Int32)  (S : ha_St) : Option (Int32 × ha_St) :=
  f_X1_move_J21 p0 p1 p2 p3 0 S
def f_X1_move (p0 : Nat) (p1 : Nat) (p2 : Int32) (p3 : Int32) (S : ha_St) : Option (Int32 × ha_St) :=
  if (p2 : Int32) < 0 then (f_X1_move_J20 p0 p1 p2 p3  S) else
  (if (500 : Int32) < p2 then (f_X1_move_J20 p0 p1 p2 p3  S) else
  ((ha_rf xo_kd S p0 2 100).bind fun r40 =>
  ha_gd (¬ ((p2 : Int32) < 0 ∨ xo_ln r40 ≤ (p2 : Int32).toNatClampNeg)) <|
  f_X1_move_J21 p0 p1 p2 p3 ((ha_gA S r40 (p2 : Int32).toNatClampNeg)) S))

def f_X1_outcome_J26 (p0 : Nat) (p1 : Nat) (k0 : Int32) (S : ha_St) : Option (Int32 × ha_St) :=
  some (k0, S)
def f_X1_outcome (p0 : Nat) (p1 : Nat) (S : ha_St) : Option (Int32 × ha_St) :=
  if ((ha_gI S p1 7) : Int32) = (-1) then (if ((ha_gI S p0 6) : Int32) ≤ (ha_gI S p1 5) then (f_X1_outcome_J26 p0 p1 0 S) else
  (f_X1_outcome_J26 p0 p1 1 S)) else
  (some (2, S))

def f_X7_run_J89 (p0 : Nat) (p1 : Nat) (p2 : Int32)  (S : ha_St) : Option (ha_St) :=
  (ha_rf xo_kd S p0 0 5).bind fun r1 =>
  (f_X1_outcome p1 r1 S).bind fun z2 =>
  ha_nm (ha_sI z2.2 p0 4 z2.1) fun S3 =>
  some S3
def f_X7_run_L23_J57 (p0 : Nat) (p1 : Nat) (p2 : Int32) (self : (Int32 × ha_St) → Option (ha_St)) (v3 : Int32) (S : ha_St) : Option (ha_St) :=
  (ha_rf xo_kd S p0 0 5).bind fun r8 =>
  (ha_rf xo_kd S r8 0 100).bind fun r9 =>
  (ha_rf xo_kd S p0 1 100).bind fun r10 =>
  (ha_rf xo_kd S p0 0 5).bind fun r11 =>
  ha_gd (ha_cpOk (0) (((v3 : Int32) * 16)) ((ha_gI S r11 4)) (xo_ln r9) (xo_ln r10)) <|
  ha_nm (ha_sA S r10 (va_cpy (ha_gA S r9) (ha_gA S r10) (0 : Int32).toNatClampNeg (((v3 : Int32) * 16) : Int32).toNatClampNeg ((ha_gI S r11 4) : Int32).toNatClampNeg)) fun S13 =>
  ha_nm ((v3 : Int32) + 1) fun x14 =>
  self (x14, S13)
def f_X7_run_L23 (p0 : Nat) (p1 : Nat) (p2 : Int32) (self : (Int32 × ha_St) → Option (ha_St)) (v3 : Int32) (S : ha_St) : Option (ha_St) :=
  if (p2 : Int32) < v3 then (some S) else
  (if (500 : Int32) < v3 then (some S) else
  (if (v3 : Int32) ≤ 0 then (f_X7_run_L23_J57 p0 p1 p2 self v3 S) else
  ((ha_rf xo_kd S p0 0 5).bind fun r18 =>
  (f_X1_move p1 r18 v3 0 S).bind fun z19 =>
  if (z19.1 : Int32) = 0 then (f_X7_run_L23_J57 p0 p1 p2 self v3 z19.2) else
  (ha_nm (ha_sI z19.2 p0 3 v3) fun S21 =>
  f_X7_run_L23_J57 p0 p1 p2 self v3 S21))))
def f_X7_run_L23i (p0 : Nat) (p1 : Nat) (p2 : Int32) : Nat → (Int32 × ha_St) → Option (ha_St) := ha_itr (fun self z => f_X7_run_L23 p0 p1 p2 self z.1 z.2)
def f_X7_run (p0 : Nat) (p1 : Nat) (p2 : Int32) (S : ha_St) : Option (ha_St) :=
  ha_nm (ha_sI S p0 2 p2) fun S4 =>
  ha_nm (ha_sI S4 p0 3 0) fun S5 =>
  (ha_rf xo_kd S5 p0 0 5).bind fun r6 =>
  (f_X5_begin r6 ((ha_gI S5 p1 5)) S5).bind fun z7 =>
  (f_X7_run_L23i p0 p1 p2 ha_fu (0, z7)).bind (fun z => f_X7_run_J89 p0 p1 p2  z)

def f_X11_play_J11 (p0 : Nat) (p1 : Int32)  (S : ha_St) : Option (Int32 × ha_St) :=
  some ((-1), S)
def f_X11_play (p0 : Nat) (p1 : Int32) (S : ha_St) : Option (Int32 × ha_St) :=
  if (p1 : Int32) < 0 then (f_X11_play_J11 p0 p1  S) else
  (if (p1 : Int32) ≤ 500 then ((ha_rf xo_kd S p0 3 7).bind fun r3 =>
  (ha_rf xo_kd S p0 1 1).bind fun r4 =>
  (f_X7_run r3 r4 p1 S).bind fun z5 =>
  (ha_rf xo_kd z5 p0 3 7).bind fun r6 =>
  (ha_rf xo_kd z5 r6 0 5).bind fun r7 =>
  some ((ha_gI z5 r7 5), z5)) else
  (f_X11_play_J11 p0 p1  S))

def f_X7_hasTower_J28 (p0 : Nat) (p1 : Int32) (k0 : Int32) (S : ha_St) : Option (Int32 × ha_St) :=
  ha_gd ((k0 : Int32) = 0 ∨ (k0 : Int32) = 1) <|
  some (k0, S)
def f_X7_hasTower_J27 (p0 : Nat) (p1 : Int32)  (S : ha_St) : Option (Int32 × ha_St) :=
  f_X7_hasTower_J28 p0 p1 0 S
def f_X7_hasTower (p0 : Nat) (p1 : Int32) (S : ha_St) : Option (Int32 × ha_St) :=
  if ((ha_gI S p0 2) : Int32) = (-1) then (f_X7_hasTower_J27 p0 p1  S) else
  (if (p1 : Int32) < 0 then (f_X7_hasTower_J27 p0 p1  S) else
  ((ha_rf xo_kd S p0 0 5).bind fun r4 =>
  if ((ha_gI S r4 4) : Int32) ≤ p1 then (f_X7_hasTower_J27 p0 p1  S) else
  (f_X7_hasTower_J28 p0 p1 1 S)))

def f_X11_shown_J26 (p0 : Nat) (p1 : Int32) (p2 : Int32)  (S : ha_St) : Option (Int32 × ha_St) :=
  some ((-1), S)
def f_X11_shown (p0 : Nat) (p1 : Int32) (p2 : Int32) (S : ha_St) : Option (Int32 × ha_St) :=
  (ha_rf xo_kd S p0 3 7).bind fun r1 =>
  (f_X7_hasTower r1 p1 S).bind fun z2 =>
  if (z2.1 : Int32) = 0 then (f_X11_shown_J26 p0 p1 p2  z2.2) else
  (if (p2 : Int32) < 0 then (f_X11_shown_J26 p0 p1 p2  z2.2) else
  ((ha_rf xo_kd z2.2 p0 3 7).bind fun r5 =>
  if (p2 : Int32) ≤ (ha_gI z2.2 r5 2) then ((ha_rf xo_kd z2.2 p0 3 7).bind fun r7 =>
  (ha_rf xo_kd z2.2 r7 1 100).bind fun r8 =>
  ha_gd (¬ ((((((p2 : Int32) * 16) : Int32) + p1) : Int32) < 0 ∨ xo_ln r8 ≤ (((((p2 : Int32) * 16) : Int32) + p1) : Int32).toNatClampNeg)) <|
  some ((ha_gA z2.2 r8 (((((p2 : Int32) * 16) : Int32) + p1) : Int32).toNatClampNeg), z2.2)) else
  (f_X11_shown_J26 p0 p1 p2  z2.2)))

def f_X11_cell_J54 (p0 : Nat) (p1 : Int32) (p2 : Int32) (k0 : Int32) (S : ha_St) : Option (Int32 × ha_St) :=
  some (k0, S)
def f_X11_cell_J20 (p0 : Nat) (p1 : Int32) (p2 : Int32)  (S : ha_St) : Option (Int32 × ha_St) :=
  some ((-1), S)
def f_X11_cell (p0 : Nat) (p1 : Int32) (p2 : Int32) (S : ha_St) : Option (Int32 × ha_St) :=
  (ha_rf xo_kd S p0 3 7).bind fun r1 =>
  (f_X7_hasTower r1 p1 S).bind fun z2 =>
  if (z2.1 : Int32) = 0 then (f_X11_cell_J20 p0 p1 p2  z2.2) else
  (if (p2 : Int32) < 0 then (f_X11_cell_J20 p0 p1 p2  z2.2) else
  (if (p2 : Int32) ≤ 4 then ((ha_rf xo_kd z2.2 p0 3 7).bind fun r6 =>
  (ha_rf xo_kd z2.2 r6 0 5).bind fun r7 =>
  if ¬ (p2 : Int32) = 4 then ((ha_rf xo_kd z2.2 r7 2 100).bind fun r9 =>
  ha_gd (¬ ((((((p1 : Int32) * 4) : Int32) + p2) : Int32) < 0 ∨ xo_ln r9 ≤ (((((p1 : Int32) * 4) : Int32) + p2) : Int32).toNatClampNeg)) <|
  f_X11_cell_J54 p0 p1 p2 ((ha_gA z2.2 r9 (((((p1 : Int32) * 4) : Int32) + p2) : Int32).toNatClampNeg)) z2.2) else
  ((ha_rf xo_kd z2.2 r7 1 100).bind fun r11 =>
  ha_gd (¬ ((p1 : Int32) < 0 ∨ xo_ln r11 ≤ (p1 : Int32).toNatClampNeg)) <|
  f_X11_cell_J54 p0 p1 p2 ((ha_gA z2.2 r11 (p1 : Int32).toNatClampNeg)) z2.2)) else
  (f_X11_cell_J20 p0 p1 p2  z2.2)))

def f_X11_written_J39 (p0 : Nat) (p1 : Int32) (k0 : Int32) (S : ha_St) : Option (Int32 × ha_St) :=
  some (k0, S)
def f_X11_written_J29 (p0 : Nat) (p1 : Int32)  (S : ha_St) : Option (Int32 × ha_St) :=
  f_X11_written_J39 p0 p1 (-1) S
def f_X11_written (p0 : Nat) (p1 : Int32) (S : ha_St) : Option (Int32 × ha_St) :=
  (ha_rf xo_kd S p0 3 7).bind fun r1 =>
  (ha_rf xo_kd S r1 0 5).bind fun r2 =>
  if (p1 : Int32) < 0 then (f_X11_written_J29 p0 p1  S) else
  (if ((ha_gI S r2 5) : Int32) ≤ p1 then (f_X11_written_J29 p0 p1  S) else
  ((ha_rf xo_kd S r2 3 100).bind fun r5 =>
  if (p1 : Int32) < (nI (xo_ln r5)) then ((ha_rf xo_kd S r2 3 100).bind fun r7 =>
  ha_gd (¬ ((p1 : Int32) < 0 ∨ xo_ln r7 ≤ (p1 : Int32).toNatClampNeg)) <|
  f_X11_written_J39 p0 p1 ((ha_gA S r7 (p1 : Int32).toNatClampNeg)) S) else
  (f_X11_written_J29 p0 p1  S)))

def f_X11_played (p0 : Nat) (p1 : Int32) (S : ha_St) : Option (Int32 × ha_St) :=
  (ha_rf xo_kd S p0 3 7).bind fun r1 =>
  if ¬ ((ha_gI S r1 2) : Int32) = (-1) then (ha_nm (p1 : Int32) fun xs =>
  if xs = 0 then ((ha_rf xo_kd S p0 3 7).bind fun r3 =>
  some ((ha_gI S r3 4), S)) else
  (if xs = 1 then ((ha_rf xo_kd S p0 3 7).bind fun r4 =>
  (ha_rf xo_kd S r4 0 5).bind fun r5 =>
  some ((ha_gI S r5 7), S)) else
  (if xs = 2 then ((ha_rf xo_kd S p0 3 7).bind fun r6 =>
  some ((ha_gI S r6 3), S)) else
  (if xs = 3 then ((ha_rf xo_kd S p0 3 7).bind fun r7 =>
  (ha_rf xo_kd S r7 0 5).bind fun r8 =>
  some ((ha_gI S r8 6), S)) else
  (some ((-1), S)))))) else
  (some ((-1), S))

def f_X0_listSingles_J76 (p0 : Nat) (p1 : Int32)  (S : ha_St) : Option (ha_St) :=
  some S
def f_X0_listSingles_L7_J70 (p0 : Nat) (p1 : Int32) (self : (Int32 × ha_St) → Option (ha_St)) (v2 : Int32) (S : ha_St) : Option (ha_St) :=
  ha_nm ((v2 : Int32) + 1) fun x2 =>
  self (x2, S)
def f_X0_listSingles_L17 (p0 : Nat) (p1 : Int32) (self : (Int32 × Int32 × ha_St) → Option (Int32 × ha_St)) (v2 : Int32) (v3 : Int32) (S : ha_St) : Option (Int32 × ha_St) :=
  if (p1 : Int32) ≤ v3 then (some (v2, S)) else
  ((ha_rf xo_kd S p0 3 100).bind fun r5 =>
  if ((nI (xo_ln r5)) : Int32) ≤ (ha_gI S p0 5) then (some (v2, S)) else
  ((ha_rf xo_kd S p0 3 100).bind fun r7 =>
  ha_gd (¬ (((ha_gI S p0 5) : Int32) < 0 ∨ xo_ln r7 ≤ ((ha_gI S p0 5) : Int32).toNatClampNeg)) <|
  ha_nm (ha_sA S r7 (upd (ha_gA S r7) ((ha_gI S p0 5) : Int32).toNatClampNeg v2)) fun S9 =>
  (ha_rf xo_kd S9 p0 4 100).bind fun r10 =>
  ha_gd (¬ (((ha_gI S9 p0 5) : Int32) < 0 ∨ xo_ln r10 ≤ ((ha_gI S9 p0 5) : Int32).toNatClampNeg)) <|
  ha_nm (ha_sA S9 r10 (upd (ha_gA S9 r10) ((ha_gI S9 p0 5) : Int32).toNatClampNeg v3)) fun S12 =>
  ha_nm (ha_sI S12 p0 5 (((ha_gI S12 p0 5) : Int32) + 1)) fun S13 =>
  ha_nm ((v3 : Int32) + 1) fun x14 =>
  self (v2, x14, S13)))
def f_X0_listSingles_L17i (p0 : Nat) (p1 : Int32) : Nat → (Int32 × Int32 × ha_St) → Option (Int32 × ha_St) := ha_itr (fun self z => f_X0_listSingles_L17 p0 p1 self z.1 z.2.1 z.2.2)
def f_X0_listSingles_L7 (p0 : Nat) (p1 : Int32) (self : (Int32 × ha_St) → Option (ha_St)) (v2 : Int32) (S : ha_St) : Option (ha_St) :=
  if ((ha_gI S p0 7) : Int32) < v2 then (some S) else
  ((f_X0_listSingles_L17i p0 p1 ha_fu (v2, 0, S)).bind (fun z => f_X0_listSingles_L7_J70 p0 p1 self z.1 z.2))
def f_X0_listSingles_L7i (p0 : Nat) (p1 : Int32) : Nat → (Int32 × ha_St) → Option (ha_St) := ha_itr (fun self z => f_X0_listSingles_L7 p0 p1 self z.1 z.2)
def f_X0_listSingles (p0 : Nat) (p1 : Int32) (S : ha_St) : Option (ha_St) :=
  ha_nm (ha_sI S p0 5 0) fun S1 =>
  (f_X0_listSingles_L7i p0 p1 ha_fu (1, S1)).bind (fun z => f_X0_listSingles_J76 p0 p1  z)

def f_X5_takeOver (p0 : Nat) (p1 : Nat) (S : ha_St) : Option (ha_St) :=
  (ha_rf xo_kd S p0 0 100).bind fun r1 =>
  ha_nm (ha_sI S p0 4 (if ((nI (xo_ln r1)) : Int32) < (ha_gI S p1 4) then (nI (xo_ln r1)) else (ha_gI S p1 4))) fun S2 =>
  (ha_rf xo_kd S2 p1 0 100).bind fun r3 =>
  (ha_rf xo_kd S2 p0 0 100).bind fun r4 =>
  ha_gd (ha_cpOk (0) (0) ((ha_gI S2 p0 4)) (xo_ln r3) (xo_ln r4)) <|
  ha_nm (ha_sA S2 r4 (va_cpy (ha_gA S2 r3) (ha_gA S2 r4) (0 : Int32).toNatClampNeg (0 : Int32).toNatClampNeg ((ha_gI S2 p0 4) : Int32).toNatClampNeg)) fun S6 =>
  (ha_rf xo_kd S6 p1 1 100).bind fun r7 =>
  (ha_rf xo_kd S6 p0 1 100).bind fun r8 =>
  ha_gd (ha_cpOk (0) (0) ((ha_gI S6 p0 4)) (xo_ln r7) (xo_ln r8)) <|
  ha_nm (ha_sA S6 r8 (va_cpy (ha_gA S6 r7) (ha_gA S6 r8) (0 : Int32).toNatClampNeg (0 : Int32).toNatClampNeg ((ha_gI S6 p0 4) : Int32).toNatClampNeg)) fun S10 =>
  (ha_rf xo_kd S10 p1 2 100).bind fun r11 =>
  (ha_rf xo_kd S10 p0 2 100).bind fun r12 =>
  ha_gd (ha_cpOk (0) (0) ((((ha_gI S10 p0 4) : Int32) * 4)) (xo_ln r11) (xo_ln r12)) <|
  ha_nm (ha_sA S10 r12 (va_cpy (ha_gA S10 r11) (ha_gA S10 r12) (0 : Int32).toNatClampNeg (0 : Int32).toNatClampNeg ((((ha_gI S10 p0 4) : Int32) * 4) : Int32).toNatClampNeg)) fun S14 =>
  ha_nm (ha_sI S14 p0 5 (ha_gI S14 p1 5)) fun S15 =>
  ha_nm (ha_sI S15 p0 6 (ha_gI S15 p1 6)) fun S16 =>
  ha_nm (ha_sI S16 p0 7 (ha_gI S16 p1 7)) fun S17 =>
  some S17

def f_X0_playCalm_J59 (p0 : Nat) (p1 : Nat)  (S : ha_St) : Option (ha_St) :=
  some S
def f_X0_playCalm_L15 (p0 : Nat) (p1 : Nat) (self : (Int32 × ha_St) → Option (ha_St)) (v2 : Int32) (S : ha_St) : Option (ha_St) :=
  if ((ha_gI S p0 6) : Int32) < v2 then (some S) else
  ((ha_rf xo_kd S p0 0 102).bind fun r6 =>
  ha_gd (¬ ((v2 : Int32) < 0 ∨ xo_ln r6 ≤ (v2 : Int32).toNatClampNeg)) <|
  (ha_rb xo_kd S r6 (v2 : Int32).toNatClampNeg 5).bind fun r8 =>
  (ha_rf xo_kd S p0 0 102).bind fun r9 =>
  ha_gd (¬ ((((v2 : Int32) - 1) : Int32) < 0 ∨ xo_ln r9 ≤ (((v2 : Int32) - 1) : Int32).toNatClampNeg)) <|
  (ha_rb xo_kd S r9 (((v2 : Int32) - 1) : Int32).toNatClampNeg 5).bind fun r11 =>
  (f_X5_takeOver r8 r11 S).bind fun z12 =>
  (ha_rf xo_kd z12 p0 0 102).bind fun r13 =>
  ha_gd (¬ ((v2 : Int32) < 0 ∨ xo_ln r13 ≤ (v2 : Int32).toNatClampNeg)) <|
  (ha_rb xo_kd z12 r13 (v2 : Int32).toNatClampNeg 5).bind fun r15 =>
  (f_X1_move p1 r15 v2 0 z12).bind fun z16 =>
  ha_nm ((v2 : Int32) + 1) fun x17 =>
  self (x17, z16.2))
def f_X0_playCalm_L15i (p0 : Nat) (p1 : Nat) : Nat → (Int32 × ha_St) → Option (ha_St) := ha_itr (fun self z => f_X0_playCalm_L15 p0 p1 self z.1 z.2)
def f_X0_playCalm (p0 : Nat) (p1 : Nat) (S : ha_St) : Option (ha_St) :=
  (ha_rf xo_kd S p0 0 102).bind fun r1 =>
  ha_gd (¬ ((0 : Int32) < 0 ∨ xo_ln r1 ≤ (0 : Int32).toNatClampNeg)) <|
  (ha_rb xo_kd S r1 (0 : Int32).toNatClampNeg 5).bind fun r3 =>
  (f_X5_begin r3 ((ha_gI S p1 5)) S).bind fun z4 =>
  (f_X0_playCalm_L15i p0 p1 ha_fu (1, z4)).bind (fun z => f_X0_playCalm_J59 p0 p1  z)

def f_X1_alike_J153 (p0 : Nat) (p1 : Nat) (p2 : Nat)  (S : ha_St) : Option (Int32 × ha_St) :=
  some (1, S)
def f_X1_alike_L120 (p0 : Nat) (p1 : Nat) (p2 : Nat) (self : (Int32 × Int32 × ha_St) → Option ((ha_St) ⊕ (Int32 × ha_St))) (v3 : Int32) (v4 : Int32) (S : ha_St) : Option ((ha_St) ⊕ (Int32 × ha_St)) :=
  if (((v3 : Int32) * 4) : Int32) ≤ v4 then (some (.inl S)) else
  ((ha_rf xo_kd S p1 2 100).bind fun r2 =>
  ha_gd (¬ ((v4 : Int32) < 0 ∨ xo_ln r2 ≤ (v4 : Int32).toNatClampNeg)) <|
  (ha_rf xo_kd S p2 2 100).bind fun r4 =>
  ha_gd (¬ ((v4 : Int32) < 0 ∨ xo_ln r4 ≤ (v4 : Int32).toNatClampNeg)) <|
  if ((ha_gA S r2 (v4 : Int32).toNatClampNeg) : Int32) = (ha_gA S r4 (v4 : Int32).toNatClampNeg) then (ha_nm ((v4 : Int32) + 1) fun x7 =>
  self (v3, x7, S)) else
  (some (.inr (0, S))))
def f_X1_alike_L120i (p0 : Nat) (p1 : Nat) (p2 : Nat) : Nat → (Int32 × Int32 × ha_St) → Option ((ha_St) ⊕ (Int32 × ha_St)) := ha_itr (fun self z => f_X1_alike_L120 p0 p1 p2 self z.1 z.2.1 z.2.2)
def f_X1_alike_J117 (p0 : Nat) (p1 : Nat) (p2 : Nat) (v3 : Int32) (S : ha_St) : Option (Int32 × ha_St) :=
  (f_X1_alike_L120i p0 p1 p2 ha_fu (v3, 0, S)).bind (Sum.elim (fun z => f_X1_alike_J153 p0 p1 p2  z) (fun r => some r))
def f_X1_alike_J33 (p0 : Nat) (p1 : Nat) (p2 : Nat)  (S : ha_St) : Option (Int32 × ha_St) :=
  some (0, S)
def f_X1_alike_L50_J111 (p0 : Nat) (p1 : Nat) (p2 : Nat) (self : (Int32 × Int32 × ha_St) → Option ((Int32 × ha_St) ⊕ (Int32 × ha_St))) (v3 : Int32) (v4 : Int32) (S : ha_St) : Option ((Int32 × ha_St) ⊕ (Int32 × ha_St)) :=
  ha_nm ((v4 : Int32) + 1) fun x14 =>
  self (v3, x14, S)
def f_X1_alike_L50 (p0 : Nat) (p1 : Nat) (p2 : Nat) (self : (Int32 × Int32 × ha_St) → Option ((Int32 × ha_St) ⊕ (Int32 × ha_St))) (v3 : Int32) (v4 : Int32) (S : ha_St) : Option ((Int32 × ha_St) ⊕ (Int32 × ha_St)) :=
  if (v3 : Int32) ≤ v4 then (some (.inl (v3, S))) else
  ((ha_rf xo_kd S p1 0 100).bind fun r16 =>
  ha_gd (¬ ((v4 : Int32) < 0 ∨ xo_ln r16 ≤ (v4 : Int32).toNatClampNeg)) <|
  (ha_rf xo_kd S p2 0 100).bind fun r18 =>
  ha_gd (¬ ((v4 : Int32) < 0 ∨ xo_ln r18 ≤ (v4 : Int32).toNatClampNeg)) <|
  if ((ha_gA S r16 (v4 : Int32).toNatClampNeg) : Int32) = (ha_gA S r18 (v4 : Int32).toNatClampNeg) then ((ha_rf xo_kd S p1 1 100).bind fun r21 =>
  ha_gd (¬ ((v4 : Int32) < 0 ∨ xo_ln r21 ≤ (v4 : Int32).toNatClampNeg)) <|
  (ha_rf xo_kd S p2 1 100).bind fun r23 =>
  ha_gd (¬ ((v4 : Int32) < 0 ∨ xo_ln r23 ≤ (v4 : Int32).toNatClampNeg)) <|
  if ((ha_gA S r21 (v4 : Int32).toNatClampNeg) : Int32) = (ha_gA S r23 (v4 : Int32).toNatClampNeg) then (f_X1_alike_L50_J111 p0 p1 p2 self v3 v4 S) else
  ((ha_rf xo_kd S p0 0 103).bind fun r26 =>
  (f_X1_kindOf p1 v4 S).bind fun z27 =>
  ha_gd (¬ ((z27.1 : Int32) < 0 ∨ xo_ln r26 ≤ (z27.1 : Int32).toNatClampNeg)) <|
  (ha_rb xo_kd z27.2 r26 (z27.1 : Int32).toNatClampNeg 8).bind fun r29 =>
  if ((ha_gI z27.2 r29 11) : Int32) = 0 then (f_X1_alike_L50_J111 p0 p1 p2 self v3 v4 z27.2) else
  (some (.inr (0, z27.2))))) else
  (some (.inr (0, S))))
def f_X1_alike_L50i (p0 : Nat) (p1 : Nat) (p2 : Nat) : Nat → (Int32 × Int32 × ha_St) → Option ((Int32 × ha_St) ⊕ (Int32 × ha_St)) := ha_itr (fun self z => f_X1_alike_L50 p0 p1 p2 self z.1 z.2.1 z.2.2)
def f_X1_alike (p0 : Nat) (p1 : Nat) (p2 : Nat) (S : ha_St) : Option (Int32 × ha_St) :=
  if ¬ ((ha_gI S p1 6) : Int32) = (ha_gI S p2 6) then (f_X1_alike_J33 p0 p1 p2  S) else
  (if ¬ ((ha_gI S p1 5) : Int32) = (ha_gI S p2 5) then (f_X1_alike_J33 p0 p1 p2  S) else
  (if ((ha_gI S p1 7) : Int32) = (ha_gI S p2 7) then (ha_nm ((if ((ha_gI S p2 4) : Int32) < (ha_gI S p1 4) then (ha_gI S p2 4) else (ha_gI S p1 4)) : Int32) fun x13 =>
  (f_X1_alike_L50i p0 p1 p2 ha_fu (x13, 0, S)).bind (Sum.elim (fun z => f_X1_alike_J117 p0 p1 p2 z.1 z.2) (fun r => some r))) else
  (f_X1_alike_J33 p0 p1 p2  S)))

def f_X0_breaks_J77 (p0 : Nat) (p1 : Nat) (p2 : Int32) (k0 : Int32) (S : ha_St) : Option (Int32 × ha_St) :=
  ha_gd ((k0 : Int32) = 0 ∨ (k0 : Int32) = 1) <|
  some (k0, S)
def f_X0_breaks_J61 (p0 : Nat) (p1 : Nat) (p2 : Int32)  (S : ha_St) : Option (Int32 × ha_St) :=
  (ha_rf xo_kd S p0 2 5).bind fun r2 =>
  (f_X1_outcome p1 r2 S).bind fun z3 =>
  if (z3.1 : Int32) = 0 then (f_X0_breaks_J77 p0 p1 p2 0 z3.2) else
  (f_X0_breaks_J77 p0 p1 p2 1 z3.2)
def f_X0_breaks_L2 (p0 : Nat) (p1 : Nat) (p2 : Int32) (self : (Int32 × ha_St) → Option ((ha_St) ⊕ (Int32 × ha_St))) (v3 : Int32) (S : ha_St) : Option ((ha_St) ⊕ (Int32 × ha_St)) :=
  if ((ha_gI S p0 6) : Int32) ≤ v3 then (some (.inl S)) else
  ((ha_rf xo_kd S p0 2 5).bind fun r6 =>
  if ((ha_gI S r6 7) : Int32) = (-1) then ((ha_rf xo_kd S p0 2 5).bind fun r8 =>
  (ha_rf xo_kd S p0 0 102).bind fun r9 =>
  ha_gd (¬ ((v3 : Int32) < 0 ∨ xo_ln r9 ≤ (v3 : Int32).toNatClampNeg)) <|
  (ha_rb xo_kd S r9 (v3 : Int32).toNatClampNeg 5).bind fun r11 =>
  (f_X1_alike p1 r8 r11 S).bind fun z12 =>
  if (z12.1 : Int32) = 0 then ((ha_rf xo_kd z12.2 p0 2 5).bind fun r14 =>
  (f_X1_move p1 r14 (((v3 : Int32) + 1)) 0 z12.2).bind fun z15 =>
  ha_nm ((v3 : Int32) + 1) fun x16 =>
  self (x16, z15.2)) else
  (some (.inr (0, z12.2)))) else
  (some (.inr (1, S))))
def f_X0_breaks_L2i (p0 : Nat) (p1 : Nat) (p2 : Int32) : Nat → (Int32 × ha_St) → Option ((ha_St) ⊕ (Int32 × ha_St)) := ha_itr (fun self z => f_X0_breaks_L2 p0 p1 p2 self z.1 z.2)
def f_X0_breaks (p0 : Nat) (p1 : Nat) (p2 : Int32) (S : ha_St) : Option (Int32 × ha_St) :=
  (f_X0_breaks_L2i p0 p1 p2 ha_fu (p2, S)).bind (Sum.elim (fun z => f_X0_breaks_J61 p0 p1 p2  z) (fun r => some r))

def f_X0_tell (p0 : Nat) (p1 : Int32) (p2 : Int32) (S : ha_St) : Option (ha_St) :=
  (ha_rf xo_kd S p0 8 100).bind fun r1 =>
  (ha_rf xo_kd S p0 3 100).bind fun r2 =>
  ha_gd (¬ ((p2 : Int32) < 0 ∨ xo_ln r2 ≤ (p2 : Int32).toNatClampNeg)) <|
  ha_gd (¬ ((p1 : Int32) < 0 ∨ xo_ln r1 ≤ (p1 : Int32).toNatClampNeg)) <|
  ha_nm (ha_sA S r1 (upd (ha_gA S r1) (p1 : Int32).toNatClampNeg (ha_gA S r2 (p2 : Int32).toNatClampNeg))) fun S5 =>
  (ha_rf xo_kd S5 p0 9 100).bind fun r6 =>
  (ha_rf xo_kd S5 p0 4 100).bind fun r7 =>
  ha_gd (¬ ((p2 : Int32) < 0 ∨ xo_ln r7 ≤ (p2 : Int32).toNatClampNeg)) <|
  ha_gd (¬ ((p1 : Int32) < 0 ∨ xo_ln r6 ≤ (p1 : Int32).toNatClampNeg)) <|
  ha_nm (ha_sA S5 r6 (upd (ha_gA S5 r6) (p1 : Int32).toNatClampNeg (ha_gA S5 r7 (p2 : Int32).toNatClampNeg))) fun S10 =>
  some S10

def f_X0_oneDoes_J78 (p0 : Nat) (p1 : Nat)  (S : ha_St) : Option (Int32 × ha_St) :=
  some (0, S)
def f_X0_oneDoes_L2 (p0 : Nat) (p1 : Nat) (self : (Int32 × ha_St) → Option ((ha_St) ⊕ (Int32 × ha_St))) (v2 : Int32) (S : ha_St) : Option ((ha_St) ⊕ (Int32 × ha_St)) :=
  if ((ha_gI S p0 5) : Int32) ≤ v2 then (some (.inl S)) else
  ((ha_rf xo_kd S p0 3 100).bind fun r2 =>
  ha_gd (¬ ((v2 : Int32) < 0 ∨ xo_ln r2 ≤ (v2 : Int32).toNatClampNeg)) <|
  ha_nm ((ha_gA S r2 (v2 : Int32).toNatClampNeg) : Int32) fun x4 =>
  (ha_rf xo_kd S p0 2 5).bind fun r5 =>
  (ha_rf xo_kd S p0 0 102).bind fun r6 =>
  ha_gd (¬ ((((x4 : Int32) - 1) : Int32) < 0 ∨ xo_ln r6 ≤ (((x4 : Int32) - 1) : Int32).toNatClampNeg)) <|
  (ha_rb xo_kd S r6 (((x4 : Int32) - 1) : Int32).toNatClampNeg 5).bind fun r8 =>
  (f_X5_takeOver r5 r8 S).bind fun z9 =>
  (ha_rf xo_kd z9 p0 2 5).bind fun r10 =>
  (ha_rf xo_kd z9 p0 4 100).bind fun r11 =>
  ha_gd (¬ ((v2 : Int32) < 0 ∨ xo_ln r11 ≤ (v2 : Int32).toNatClampNeg)) <|
  (f_X1_move p1 r10 x4 (((1 : Int32) <<< (((ha_gA z9 r11 (v2 : Int32).toNatClampNeg) : Int32) &&& 31))) z9).bind fun z13 =>
  (f_X0_breaks p0 p1 x4 z13.2).bind fun z14 =>
  if (z14.1 : Int32) = 0 then (ha_nm ((v2 : Int32) + 1) fun x16 =>
  self (x16, z14.2)) else
  ((f_X0_tell p0 0 v2 z14.2).bind fun z17 =>
  ha_nm (ha_sI z17 p0 10 1) fun S18 =>
  some (.inr (1, S18))))
def f_X0_oneDoes_L2i (p0 : Nat) (p1 : Nat) : Nat → (Int32 × ha_St) → Option ((ha_St) ⊕ (Int32 × ha_St)) := ha_itr (fun self z => f_X0_oneDoes_L2 p0 p1 self z.1 z.2)
def f_X0_oneDoes (p0 : Nat) (p1 : Nat) (S : ha_St) : Option (Int32 × ha_St) :=
  (f_X0_oneDoes_L2i p0 p1 ha_fu (0, S)).bind (Sum.elim (fun z => f_X0_oneDoes_J78 p0 p1  z) (fun r => some r))

def f_X0_playOnce_J94 (p0 : Nat) (p1 : Nat) (p2 : Int32)  (S : ha_St) : Option (ha_St) :=
  some S
def f_X0_playOnce_L10_J84 (p0 : Nat) (p1 : Nat) (p2 : Int32) (self : (Int32 × Int32 × ha_St) → Option (ha_St)) (v3 : Int32) (v4 : Int32) (k0 : Nat) (k1 : Nat) (k2 : Int32) (k3 : Int32) (S : ha_St) : Option (ha_St) :=
  (f_X1_move k0 k1 k2 k3 S).bind fun z4 =>
  ha_nm ((v4 : Int32) + 1) fun x5 =>
  self (v3, x5, z4.2)
def f_X0_playOnce_L10_J53 (p0 : Nat) (p1 : Nat) (p2 : Int32) (self : (Int32 × Int32 × ha_St) → Option (ha_St)) (v3 : Int32) (v4 : Int32) (k0 : Nat) (k1 : Nat) (S : ha_St) : Option (ha_St) :=
  (f_X5_takeOver k0 k1 S).bind fun z6 =>
  (ha_rf xo_kd z6 p0 1 102).bind fun r7 =>
  ha_gd (¬ ((v4 : Int32) < 0 ∨ xo_ln r7 ≤ (v4 : Int32).toNatClampNeg)) <|
  (ha_rb xo_kd z6 r7 (v4 : Int32).toNatClampNeg 5).bind fun r9 =>
  if ¬ (v4 : Int32) = v3 then (f_X0_playOnce_L10_J84 p0 p1 p2 self v3 v4 p1 r9 v4 0 z6) else
  ((ha_rf xo_kd z6 p0 4 100).bind fun r11 =>
  ha_gd (¬ ((p2 : Int32) < 0 ∨ xo_ln r11 ≤ (p2 : Int32).toNatClampNeg)) <|
  f_X0_playOnce_L10_J84 p0 p1 p2 self v3 v4 p1 r9 v4 (((1 : Int32) <<< (((ha_gA z6 r11 (p2 : Int32).toNatClampNeg) : Int32) &&& 31))) z6)
def f_X0_playOnce_L10 (p0 : Nat) (p1 : Nat) (p2 : Int32) (self : (Int32 × Int32 × ha_St) → Option (ha_St)) (v3 : Int32) (v4 : Int32) (S : ha_St) : Option (ha_St) :=
  if ((ha_gI S p0 7) : Int32) < v4 then (some S) else
  ((ha_rf xo_kd S p0 1 102).bind fun r14 =>
  ha_gd (¬ ((v4 : Int32) < 0 ∨ xo_ln r14 ≤ (v4 : Int32).toNatClampNeg)) <|
  (ha_rb xo_kd S r14 (v4 : Int32).toNatClampNeg 5).bind fun r16 =>
  if ¬ (v4 : Int32) = v3 then ((ha_rf xo_kd S p0 1 102).bind fun r18 =>
  ha_gd (¬ ((((v4 : Int32) - 1) : Int32) < 0 ∨ xo_ln r18 ≤ (((v4 : Int32) - 1) : Int32).toNatClampNeg)) <|
  (ha_rb xo_kd S r18 (((v4 : Int32) - 1) : Int32).toNatClampNeg 5).bind fun r20 =>
  f_X0_playOnce_L10_J53 p0 p1 p2 self v3 v4 r16 r20 S) else
  ((ha_rf xo_kd S p0 0 102).bind fun r21 =>
  ha_gd (¬ ((((v4 : Int32) - 1) : Int32) < 0 ∨ xo_ln r21 ≤ (((v4 : Int32) - 1) : Int32).toNatClampNeg)) <|
  (ha_rb xo_kd S r21 (((v4 : Int32) - 1) : Int32).toNatClampNeg 5).bind fun r23 =>
  f_X0_playOnce_L10_J53 p0 p1 p2 self v3 v4 r16 r23 S))
def f_X0_playOnce_L10i (p0 : Nat) (p1 : Nat) (p2 : Int32) : Nat → (Int32 × Int32 × ha_St) → Option (ha_St) := ha_itr (fun self z => f_X0_playOnce_L10 p0 p1 p2 self z.1 z.2.1 z.2.2)
def f_X0_playOnce (p0 : Nat) (p1 : Nat) (p2 : Int32) (S : ha_St) : Option (ha_St) :=
  (ha_rf xo_kd S p0 3 100).bind fun r1 =>
  ha_gd (¬ ((p2 : Int32) < 0 ∨ xo_ln r1 ≤ (p2 : Int32).toNatClampNeg)) <|
  ha_nm ((ha_gA S r1 (p2 : Int32).toNatClampNeg) : Int32) fun x3 =>
  (f_X0_playOnce_L10i p0 p1 p2 ha_fu (x3, x3, S)).bind (fun z => f_X0_playOnce_J94 p0 p1 p2  z)

def f_X0_bothMatter_J140 (p0 : Nat) (p1 : Nat) (p2 : Int32) (p3 : Int32) (k0 : Int32) (S : ha_St) : Option (Int32 × ha_St) :=
  ha_gd ((k0 : Int32) = 0 ∨ (k0 : Int32) = 1) <|
  some (k0, S)
def f_X0_bothMatter_J104 (p0 : Nat) (p1 : Nat) (p2 : Int32) (p3 : Int32) (v4 : Int32) (v5 : Int32) (S : ha_St) : Option (Int32 × ha_St) :=
  (ha_rf xo_kd S p0 2 5).bind fun r2 =>
  (f_X1_move p1 r2 v4 v5 S).bind fun z3 =>
  (ha_rf xo_kd z3.2 p0 2 5).bind fun r4 =>
  (ha_rf xo_kd z3.2 p0 1 102).bind fun r5 =>
  ha_gd (¬ ((v4 : Int32) < 0 ∨ xo_ln r5 ≤ (v4 : Int32).toNatClampNeg)) <|
  (ha_rb xo_kd z3.2 r5 (v4 : Int32).toNatClampNeg 5).bind fun r7 =>
  (f_X1_alike p1 r4 r7 z3.2).bind fun z8 =>
  if ¬ (z8.1 : Int32) = 0 then (f_X0_bothMatter_J140 p0 p1 p2 p3 0 z8.2) else
  (f_X0_bothMatter_J140 p0 p1 p2 p3 1 z8.2)
def f_X0_bothMatter (p0 : Nat) (p1 : Nat) (p2 : Int32) (p3 : Int32) (S : ha_St) : Option (Int32 × ha_St) :=
  (ha_rf xo_kd S p0 3 100).bind fun r10 =>
  ha_gd (¬ ((p3 : Int32) < 0 ∨ xo_ln r10 ≤ (p3 : Int32).toNatClampNeg)) <|
  ha_nm ((ha_gA S r10 (p3 : Int32).toNatClampNeg) : Int32) fun x12 =>
  (ha_rf xo_kd S p0 4 100).bind fun r13 =>
  ha_gd (¬ ((p3 : Int32) < 0 ∨ xo_ln r13 ≤ (p3 : Int32).toNatClampNeg)) <|
  ha_nm (((1 : Int32) <<< (((ha_gA S r13 (p3 : Int32).toNatClampNeg) : Int32) &&& 31)) : Int32) fun x15 =>
  (ha_rf xo_kd S p0 3 100).bind fun r16 =>
  ha_gd (¬ ((p2 : Int32) < 0 ∨ xo_ln r16 ≤ (p2 : Int32).toNatClampNeg)) <|
  if ¬ (x12 : Int32) = (ha_gA S r16 (p2 : Int32).toNatClampNeg) then ((ha_rf xo_kd S p0 1 102).bind fun r19 =>
  ha_gd (¬ ((((x12 : Int32) - 1) : Int32) < 0 ∨ xo_ln r19 ≤ (((x12 : Int32) - 1) : Int32).toNatClampNeg)) <|
  (ha_rb xo_kd S r19 (((x12 : Int32) - 1) : Int32).toNatClampNeg 5).bind fun r21 =>
  (ha_rf xo_kd S p0 0 102).bind fun r22 =>
  ha_gd (¬ ((((x12 : Int32) - 1) : Int32) < 0 ∨ xo_ln r22 ≤ (((x12 : Int32) - 1) : Int32).toNatClampNeg)) <|
  (ha_rb xo_kd S r22 (((x12 : Int32) - 1) : Int32).toNatClampNeg 5).bind fun r24 =>
  (f_X1_alike p1 r21 r24 S).bind fun z25 =>
  if (z25.1 : Int32) = 0 then ((ha_rf xo_kd z25.2 p0 2 5).bind fun r27 =>
  (ha_rf xo_kd z25.2 p0 1 102).bind fun r28 =>
  ha_gd (¬ ((((x12 : Int32) - 1) : Int32) < 0 ∨ xo_ln r28 ≤ (((x12 : Int32) - 1) : Int32).toNatClampNeg)) <|
  (ha_rb xo_kd z25.2 r28 (((x12 : Int32) - 1) : Int32).toNatClampNeg 5).bind fun r30 =>
  (f_X5_takeOver r27 r30 z25.2).bind fun z31 =>
  f_X0_bothMatter_J104 p0 p1 p2 p3 x12 x15 z31) else
  (some (0, z25.2))) else
  ((ha_rf xo_kd S p0 2 5).bind fun r32 =>
  (ha_rf xo_kd S p0 0 102).bind fun r33 =>
  ha_gd (¬ ((((x12 : Int32) - 1) : Int32) < 0 ∨ xo_ln r33 ≤ (((x12 : Int32) - 1) : Int32).toNatClampNeg)) <|
  (ha_rb xo_kd S r33 (((x12 : Int32) - 1) : Int32).toNatClampNeg 5).bind fun r35 =>
  (f_X5_takeOver r32 r35 S).bind fun z36 =>
  (ha_rf xo_kd z36 p0 4 100).bind fun r37 =>
  ha_gd (¬ ((p2 : Int32) < 0 ∨ xo_ln r37 ≤ (p2 : Int32).toNatClampNeg)) <|
  ha_nm (((x15 : Int32) ||| ((1 : Int32) <<< (((ha_gA z36 r37 (p2 : Int32).toNatClampNeg) : Int32) &&& 31))) : Int32) fun x39 =>
  f_X0_bothMatter_J104 p0 p1 p2 p3 x12 x39 z36)

def f_X0_twoDo_J83 (p0 : Nat) (p1 : Nat)  (S : ha_St) : Option (Int32 × ha_St) :=
  some (0, S)
def f_X0_twoDo_L2_J77 (p0 : Nat) (p1 : Nat) (self : (Int32 × ha_St) → Option ((ha_St) ⊕ (Int32 × ha_St))) (v2 : Int32) (S : ha_St) : Option ((ha_St) ⊕ (Int32 × ha_St)) :=
  ha_nm ((v2 : Int32) + 1) fun x1 =>
  self (x1, S)
def f_X0_twoDo_L20_J71 (p0 : Nat) (p1 : Nat) (self : (Int32 × Int32 × ha_St) → Option ((Int32 × ha_St) ⊕ (Int32 × ha_St))) (v2 : Int32) (v3 : Int32) (S : ha_St) : Option ((Int32 × ha_St) ⊕ (Int32 × ha_St)) :=
  ha_nm ((v3 : Int32) + 1) fun x5 =>
  self (v2, x5, S)
def f_X0_twoDo_L20 (p0 : Nat) (p1 : Nat) (self : (Int32 × Int32 × ha_St) → Option ((Int32 × ha_St) ⊕ (Int32 × ha_St))) (v2 : Int32) (v3 : Int32) (S : ha_St) : Option ((Int32 × ha_St) ⊕ (Int32 × ha_St)) :=
  if ((ha_gI S p0 5) : Int32) ≤ v3 then (some (.inl (v2, S))) else
  ((f_X0_bothMatter p0 p1 v2 v3 S).bind fun z7 =>
  if (z7.1 : Int32) = 0 then (f_X0_twoDo_L20_J71 p0 p1 self v2 v3 z7.2) else
  ((ha_rf xo_kd z7.2 p0 3 100).bind fun r9 =>
  ha_gd (¬ ((v3 : Int32) < 0 ∨ xo_ln r9 ≤ (v3 : Int32).toNatClampNeg)) <|
  (f_X0_breaks p0 p1 ((ha_gA z7.2 r9 (v3 : Int32).toNatClampNeg)) z7.2).bind fun z11 =>
  if (z11.1 : Int32) = 0 then (f_X0_twoDo_L20_J71 p0 p1 self v2 v3 z11.2) else
  ((f_X0_tell p0 0 v2 z11.2).bind fun z13 =>
  (f_X0_tell p0 1 v3 z13).bind fun z14 =>
  ha_nm (ha_sI z14 p0 10 2) fun S15 =>
  some (.inr (1, S15)))))
def f_X0_twoDo_L20i (p0 : Nat) (p1 : Nat) : Nat → (Int32 × Int32 × ha_St) → Option ((Int32 × ha_St) ⊕ (Int32 × ha_St)) := ha_itr (fun self z => f_X0_twoDo_L20 p0 p1 self z.1 z.2.1 z.2.2)
def f_X0_twoDo_L2 (p0 : Nat) (p1 : Nat) (self : (Int32 × ha_St) → Option ((ha_St) ⊕ (Int32 × ha_St))) (v2 : Int32) (S : ha_St) : Option ((ha_St) ⊕ (Int32 × ha_St)) :=
  if ((ha_gI S p0 5) : Int32) ≤ v2 then (some (.inl S)) else
  ((f_X0_playOnce p0 p1 v2 S).bind fun z3 =>
  ha_nm (((v2 : Int32) + 1) : Int32) fun x4 =>
  (f_X0_twoDo_L20i p0 p1 ha_fu (v2, x4, z3)).bind (Sum.elim (fun z => f_X0_twoDo_L2_J77 p0 p1 self z.1 z.2) (fun r => some (.inr r))))
def f_X0_twoDo_L2i (p0 : Nat) (p1 : Nat) : Nat → (Int32 × ha_St) → Option ((ha_St) ⊕ (Int32 × ha_St)) := ha_itr (fun self z => f_X0_twoDo_L2 p0 p1 self z.1 z.2)
def f_X0_twoDo (p0 : Nat) (p1 : Nat) (S : ha_St) : Option (Int32 × ha_St) :=
  (f_X0_twoDo_L2i p0 p1 ha_fu (0, S)).bind (Sum.elim (fun z => f_X0_twoDo_J83 p0 p1  z) (fun r => some r))

def f_X0_search_J88 (p0 : Nat) (p1 : Nat) (p2 : Int32) (p3 : Int32) (k0 : Int32) (S : ha_St) : Option (Int32 × ha_St) :=
  some (k0, S)
def f_X0_search (p0 : Nat) (p1 : Nat) (p2 : Int32) (p3 : Int32) (S : ha_St) : Option (Int32 × ha_St) :=
  ha_nm (ha_sI S p0 6 (if (60 : Int32) < p2 then 60 else p2)) fun S1 =>
  ha_nm (ha_sI S1 p0 7 (if ((ha_gI S1 p0 6) : Int32) < (if (10 : Int32) < p3 then 10 else p3) then (ha_gI S1 p0 6) else (if (10 : Int32) < p3 then 10 else p3))) fun S2 =>
  (f_X0_listSingles p0 ((((ha_gI S2 p1 5) : Int32) - 1)) S2).bind fun z3 =>
  (f_X0_playCalm p0 p1 z3).bind fun z4 =>
  (ha_rf xo_kd z4 p0 0 102).bind fun r5 =>
  ha_gd (¬ (((ha_gI z4 p0 6) : Int32) < 0 ∨ xo_ln r5 ≤ ((ha_gI z4 p0 6) : Int32).toNatClampNeg)) <|
  (ha_rb xo_kd z4 r5 ((ha_gI z4 p0 6) : Int32).toNatClampNeg 5).bind fun r7 =>
  (f_X1_outcome p1 r7 z4).bind fun z8 =>
  if (z8.1 : Int32) = 0 then ((f_X0_oneDoes p0 p1 z8.2).bind fun z10 =>
  if (z10.1 : Int32) = 0 then ((f_X0_twoDo p0 p1 z10.2).bind fun z12 =>
  if (z12.1 : Int32) = 0 then (f_X0_search_J88 p0 p1 p2 p3 (-1) z12.2) else
  (f_X0_search_J88 p0 p1 p2 p3 2 z12.2)) else
  (some (1, z10.2))) else
  (ha_nm (ha_sI z8.2 p0 10 0) fun S14 =>
  some (0, S14))

def f_X11_broken_J32 (p0 : Nat) (p1 : Int32) (p2 : Int32)  (S : ha_St) : Option (Int32 × ha_St) :=
  some ((-2), S)
def f_X11_broken (p0 : Nat) (p1 : Int32) (p2 : Int32) (S : ha_St) : Option (Int32 × ha_St) :=
  if (p1 : Int32) < 0 then (f_X11_broken_J32 p0 p1 p2  S) else
  (if (60 : Int32) < p1 then (f_X11_broken_J32 p0 p1 p2  S) else
  (if (p2 : Int32) < 0 then (f_X11_broken_J32 p0 p1 p2  S) else
  (if (10 : Int32) < p2 then (f_X11_broken_J32 p0 p1 p2  S) else
  ((ha_rf xo_kd S p0 1 1).bind fun r5 =>
  if ((ha_gI S r5 5) : Int32) ≤ 8 then ((ha_rf xo_kd S p0 4 0).bind fun r7 =>
  (ha_rf xo_kd S p0 1 1).bind fun r8 =>
  (f_X0_search r7 r8 p1 p2 S).bind fun z9 =>
  some (z9.1, z9.2)) else
  (f_X11_broken_J32 p0 p1 p2  S)))))

def f_X11_fogAt_J15 (p0 : Nat) (p1 : Int32) (p2 : Int32)  (S : ha_St) : Option (Int32 × ha_St) :=
  some ((-1), S)
def f_X11_fogAt (p0 : Nat) (p1 : Int32) (p2 : Int32) (S : ha_St) : Option (Int32 × ha_St) :=
  if (p1 : Int32) < 0 then (f_X11_fogAt_J15 p0 p1 p2  S) else
  ((ha_rf xo_kd S p0 4 0).bind fun r2 =>
  if (p1 : Int32) < (ha_gI S r2 10) then (ha_nm (p2 : Int32) fun xs =>
  if xs = 0 then ((ha_rf xo_kd S p0 4 0).bind fun r4 =>
  (ha_rf xo_kd S r4 8 100).bind fun r5 =>
  ha_gd (¬ ((p1 : Int32) < 0 ∨ xo_ln r5 ≤ (p1 : Int32).toNatClampNeg)) <|
  some ((ha_gA S r5 (p1 : Int32).toNatClampNeg), S)) else
  (if xs = 1 then ((ha_rf xo_kd S p0 4 0).bind fun r7 =>
  (ha_rf xo_kd S r7 9 100).bind fun r8 =>
  ha_gd (¬ ((p1 : Int32) < 0 ∨ xo_ln r8 ≤ (p1 : Int32).toNatClampNeg)) <|
  some ((ha_gA S r8 (p1 : Int32).toNatClampNeg), S)) else
  (some ((-1), S)))) else
  (f_X11_fogAt_J15 p0 p1 p2  S))

def f_X10_isText_J72 (p0 : Nat) (p1 : Int32) (v2 : Int32) (S : ha_St) : Option (Int32 × ha_St) :=
  ha_gd ((v2 : Int32) = 0 ∨ (v2 : Int32) = 1) <|
  some (v2, S)
def f_X10_isText_J16 (p0 : Nat) (p1 : Int32)  (S : ha_St) : Option (Int32 × ha_St) :=
  some (0, S)
def f_X10_isText_L22_J63 (p0 : Nat) (p1 : Int32) (self : (Int32 × Int32 × ha_St) → Option ((Int32 × ha_St) ⊕ (Int32 × ha_St))) (v3 : Int32) (v4 : Int32) (S : ha_St) : Option ((Int32 × ha_St) ⊕ (Int32 × ha_St)) :=
  ha_nm ((v3 : Int32) + 1) fun x4 =>
  self (v4, x4, S)
def f_X10_isText_L22_J61 (p0 : Nat) (p1 : Int32) (self : (Int32 × Int32 × ha_St) → Option ((Int32 × ha_St) ⊕ (Int32 × ha_St)))  (S : ha_St) : Option ((Int32 × ha_St) ⊕ (Int32 × ha_St)) :=
  some (.inr (0, S))
def f_X10_isText_L22 (p0 : Nat) (p1 : Int32) (self : (Int32 × Int32 × ha_St) → Option ((Int32 × ha_St) ⊕ (Int32 × ha_St))) (v2 : Int32) (v3 : Int32) (S : ha_St) : Option ((Int32 × ha_St) ⊕ (Int32 × ha_St)) :=
  if ((ha_gI S p0 1) : Int32) ≤ v3 then (some (.inl (v2, S))) else
  ((ha_rf xo_kd S p0 0 100).bind fun r6 =>
  ha_gd (¬ ((v3 : Int32) < 0 ∨ xo_ln r6 ≤ (v3 : Int32).toNatClampNeg)) <|
  (f_X11_isLetter ((ha_gA S r6 (v3 : Int32).toNatClampNeg))).bind fun z8 =>
  if ¬ (z8 : Int32) = 0 then (f_X10_isText_L22_J63 p0 p1 self v3 z8 S) else
  (if (v2 : Int32) = 0 then (f_X10_isText_L22_J61 p0 p1 self  S) else
  ((ha_rf xo_kd S p0 0 100).bind fun r11 =>
  ha_gd (¬ ((v3 : Int32) < 0 ∨ xo_ln r11 ≤ (v3 : Int32).toNatClampNeg)) <|
  if ((ha_gA S r11 (v3 : Int32).toNatClampNeg) : Int32) = 32 then (f_X10_isText_L22_J63 p0 p1 self v3 z8 S) else
  (f_X10_isText_L22_J61 p0 p1 self  S))))
def f_X10_isText_L22i (p0 : Nat) (p1 : Int32) : Nat → (Int32 × Int32 × ha_St) → Option ((Int32 × ha_St) ⊕ (Int32 × ha_St)) := ha_itr (fun self z => f_X10_isText_L22 p0 p1 self z.1 z.2.1 z.2.2)
def f_X10_isText (p0 : Nat) (p1 : Int32) (S : ha_St) : Option (Int32 × ha_St) :=
  if ((ha_gI S p0 1) : Int32) < 1 then (f_X10_isText_J16 p0 p1  S) else
  (if ((ha_gI S p0 1) : Int32) ≤ p1 then ((f_X10_isText_L22i p0 p1 ha_fu (0, 0, S)).bind (Sum.elim (fun z => f_X10_isText_J72 p0 p1 z.1 z.2) (fun r => some r))) else
  (f_X10_isText_J16 p0 p1  S))

def f_X3_isAt_J58 (p0 : Nat) (p1 : Int32) (p2 : Nat) (p3 : Int32) (p4 : Int32)  (S : ha_St) : Option (Int32 × ha_St) :=
  some (1, S)
def f_X3_isAt_L18 (p0 : Nat) (p1 : Int32) (p2 : Nat) (p3 : Int32) (p4 : Int32) (self : (Int32 × ha_St) → Option ((ha_St) ⊕ (Int32 × ha_St))) (v5 : Int32) (S : ha_St) : Option ((ha_St) ⊕ (Int32 × ha_St)) :=
  (ha_rf xo_kd S p0 1 100).bind fun r4 =>
  ha_gd (¬ ((p1 : Int32) < 0 ∨ xo_ln r4 ≤ (p1 : Int32).toNatClampNeg)) <|
  if ((ha_gA S r4 (p1 : Int32).toNatClampNeg) : Int32) ≤ v5 then (some (.inl S)) else
  ((ha_rf xo_kd S p0 0 100).bind fun r7 =>
  ha_gd (¬ ((((((p1 : Int32) * 12) : Int32) + v5) : Int32) < 0 ∨ xo_ln r7 ≤ (((((p1 : Int32) * 12) : Int32) + v5) : Int32).toNatClampNeg)) <|
  ha_gd (¬ ((((p3 : Int32) + v5) : Int32) < 0 ∨ xo_ln p2 ≤ (((p3 : Int32) + v5) : Int32).toNatClampNeg)) <|
  if ((ha_gA S r7 (((((p1 : Int32) * 12) : Int32) + v5) : Int32).toNatClampNeg) : Int32) = (ha_gA S p2 (((p3 : Int32) + v5) : Int32).toNatClampNeg) then (ha_nm ((v5 : Int32) + 1) fun x11 =>
  self (x11, S)) else
  (some (.inr (0, S))))
def f_X3_isAt_L18i (p0 : Nat) (p1 : Int32) (p2 : Nat) (p3 : Int32) (p4 : Int32) : Nat → (Int32 × ha_St) → Option ((ha_St) ⊕ (Int32 × ha_St)) := ha_itr (fun self z => f_X3_isAt_L18 p0 p1 p2 p3 p4 self z.1 z.2)
def f_X3_isAt (p0 : Nat) (p1 : Int32) (p2 : Nat) (p3 : Int32) (p4 : Int32) (S : ha_St) : Option (Int32 × ha_St) :=
  (ha_rf xo_kd S p0 1 100).bind fun r1 =>
  ha_gd (¬ ((p1 : Int32) < 0 ∨ xo_ln r1 ≤ (p1 : Int32).toNatClampNeg)) <|
  if (((p3 : Int32) + (ha_gA S r1 (p1 : Int32).toNatClampNeg)) : Int32) ≤ p4 then ((f_X3_isAt_L18i p0 p1 p2 p3 p4 ha_fu (0, S)).bind (Sum.elim (fun z => f_X3_isAt_J58 p0 p1 p2 p3 p4  z) (fun r => some r))) else
  (some (0, S))

def f_X3_has_J48 (p0 : Nat) (p1 : Nat)  (S : ha_St) : Option (Int32 × ha_St) :=
  some (0, S)
def f_X3_has_L2_J42 (p0 : Nat) (p1 : Nat) (self : (Int32 × ha_St) → Option ((ha_St) ⊕ (Int32 × ha_St))) (v2 : Int32) (S : ha_St) : Option ((ha_St) ⊕ (Int32 × ha_St)) :=
  ha_nm ((v2 : Int32) + 1) fun x1 =>
  self (x1, S)
def f_X3_has_L2 (p0 : Nat) (p1 : Nat) (self : (Int32 × ha_St) → Option ((ha_St) ⊕ (Int32 × ha_St))) (v2 : Int32) (S : ha_St) : Option ((ha_St) ⊕ (Int32 × ha_St)) :=
  if ((ha_gI S p0 3) : Int32) ≤ v2 then (some (.inl S)) else
  ((ha_rf xo_kd S p0 1 100).bind fun r3 =>
  ha_gd (¬ ((v2 : Int32) < 0 ∨ xo_ln r3 ≤ (v2 : Int32).toNatClampNeg)) <|
  if ¬ ((ha_gA S r3 (v2 : Int32).toNatClampNeg) : Int32) = (ha_gI S p1 1) then (f_X3_has_L2_J42 p0 p1 self v2 S) else
  ((ha_rf xo_kd S p1 0 100).bind fun r6 =>
  (f_X3_isAt p0 v2 r6 0 ((ha_gI S p1 1)) S).bind fun z7 =>
  if (z7.1 : Int32) = 0 then (f_X3_has_L2_J42 p0 p1 self v2 z7.2) else
  (some (.inr (1, z7.2)))))
def f_X3_has_L2i (p0 : Nat) (p1 : Nat) : Nat → (Int32 × ha_St) → Option ((ha_St) ⊕ (Int32 × ha_St)) := ha_itr (fun self z => f_X3_has_L2 p0 p1 self z.1 z.2)
def f_X3_has (p0 : Nat) (p1 : Nat) (S : ha_St) : Option (Int32 × ha_St) :=
  (f_X3_has_L2i p0 p1 ha_fu (0, S)).bind (Sum.elim (fun z => f_X3_has_J48 p0 p1  z) (fun r => some r))

def f_X3_add_J90 (p0 : Nat) (p1 : Nat)  (S : ha_St) : Option (Int32 × ha_St) :=
  (ha_rf xo_kd S p0 1 100).bind fun r1 =>
  ha_gd (¬ (((ha_gI S p0 3) : Int32) < 0 ∨ xo_ln r1 ≤ ((ha_gI S p0 3) : Int32).toNatClampNeg)) <|
  ha_nm (ha_sA S r1 (upd (ha_gA S r1) ((ha_gI S p0 3) : Int32).toNatClampNeg (ha_gI S p1 1))) fun S3 =>
  ha_nm (ha_sI S3 p0 3 (((ha_gI S3 p0 3) : Int32) + 1)) fun S4 =>
  some ((((ha_gI S4 p0 3) : Int32) - 1), S4)
def f_X3_add_J18 (p0 : Nat) (p1 : Nat)  (S : ha_St) : Option (Int32 × ha_St) :=
  some ((-1), S)
def f_X3_add_L32_J84 (p0 : Nat) (p1 : Nat) (self : (Int32 × ha_St) → Option (ha_St)) (v2 : Int32) (S : ha_St) : Option (ha_St) :=
  ha_nm ((v2 : Int32) + 1) fun x10 =>
  self (x10, S)
def f_X3_add_L32 (p0 : Nat) (p1 : Nat) (self : (Int32 × ha_St) → Option (ha_St)) (v2 : Int32) (S : ha_St) : Option (ha_St) :=
  if ((ha_gI S p1 1) : Int32) ≤ v2 then (some S) else
  ((ha_rf xo_kd S p0 0 100).bind fun r12 =>
  (ha_rf xo_kd S p1 0 100).bind fun r13 =>
  ha_gd (¬ ((v2 : Int32) < 0 ∨ xo_ln r13 ≤ (v2 : Int32).toNatClampNeg)) <|
  ha_gd (¬ (((((((ha_gI S p0 3) : Int32) * 12) : Int32) + v2) : Int32) < 0 ∨ xo_ln r12 ≤ ((((((ha_gI S p0 3) : Int32) * 12) : Int32) + v2) : Int32).toNatClampNeg)) <|
  ha_nm (ha_sA S r12 (upd (ha_gA S r12) ((((((ha_gI S p0 3) : Int32) * 12) : Int32) + v2) : Int32).toNatClampNeg (ha_gA S r13 (v2 : Int32).toNatClampNeg))) fun S16 =>
  (ha_rf xo_kd S16 p1 0 100).bind fun r17 =>
  ha_gd (¬ ((v2 : Int32) < 0 ∨ xo_ln r17 ≤ (v2 : Int32).toNatClampNeg)) <|
  if ¬ ((ha_gA S16 r17 (v2 : Int32).toNatClampNeg) : Int32) = 32 then (f_X3_add_L32_J84 p0 p1 self v2 S16) else
  ((ha_rf xo_kd S16 p0 2 100).bind fun r20 =>
  ha_gd (¬ (((ha_gI S16 p0 3) : Int32) < 0 ∨ xo_ln r20 ≤ ((ha_gI S16 p0 3) : Int32).toNatClampNeg)) <|
  ha_gd (¬ (((ha_gI S16 p0 3) : Int32) < 0 ∨ xo_ln r20 ≤ ((ha_gI S16 p0 3) : Int32).toNatClampNeg)) <|
  ha_nm (ha_sA S16 r20 (upd (ha_gA S16 r20) ((ha_gI S16 p0 3) : Int32).toNatClampNeg (((ha_gA S16 r20 ((ha_gI S16 p0 3) : Int32).toNatClampNeg) : Int32) + 1))) fun S23 =>
  f_X3_add_L32_J84 p0 p1 self v2 S23))
def f_X3_add_L32i (p0 : Nat) (p1 : Nat) : Nat → (Int32 × ha_St) → Option (ha_St) := ha_itr (fun self z => f_X3_add_L32 p0 p1 self z.1 z.2)
def f_X3_add (p0 : Nat) (p1 : Nat) (S : ha_St) : Option (Int32 × ha_St) :=
  if (12 : Int32) ≤ (ha_gI S p0 3) then (f_X3_add_J18 p0 p1  S) else
  (if ((ha_gI S p1 1) : Int32) ≤ 12 then ((ha_rf xo_kd S p0 2 100).bind fun r7 =>
  ha_gd (¬ (((ha_gI S p0 3) : Int32) < 0 ∨ xo_ln r7 ≤ ((ha_gI S p0 3) : Int32).toNatClampNeg)) <|
  ha_nm (ha_sA S r7 (upd (ha_gA S r7) ((ha_gI S p0 3) : Int32).toNatClampNeg 1)) fun S9 =>
  (f_X3_add_L32i p0 p1 ha_fu (0, S9)).bind (fun z => f_X3_add_J90 p0 p1  z)) else
  (f_X3_add_J18 p0 p1  S))

def f_X11_entry_J63 (p0 : Nat) (k0 : Int32) (S : ha_St) : Option (Int32 × ha_St) :=
  (ha_rf xo_kd S p0 0 10).bind fun r1 =>
  ha_nm (ha_sI S r1 1 0) fun S2 =>
  some (k0, S2)
def f_X11_entry_J43 (p0 : Nat) (k0 : Int32) (S : ha_St) : Option (Int32 × ha_St) :=
  if (k0 : Int32) = 0 then (f_X11_entry_J63 p0 (-1) S) else
  ((ha_rf xo_kd S p0 5 3).bind fun r4 =>
  (ha_rf xo_kd S p0 0 10).bind fun r5 =>
  (f_X3_add r4 r5 S).bind fun z6 =>
  f_X11_entry_J63 p0 z6.1 z6.2)
def f_X11_entry_J42 (p0 : Nat)  (S : ha_St) : Option (Int32 × ha_St) :=
  f_X11_entry_J43 p0 0 S
def f_X11_entry (p0 : Nat) (S : ha_St) : Option (Int32 × ha_St) :=
  (ha_rf xo_kd S p0 0 10).bind fun r7 =>
  (f_X10_isText r7 12 S).bind fun z8 =>
  if (z8.1 : Int32) = 0 then (f_X11_entry_J42 p0  z8.2) else
  ((ha_rf xo_kd z8.2 p0 5 3).bind fun r10 =>
  if (12 : Int32) ≤ (ha_gI z8.2 r10 3) then (f_X11_entry_J42 p0  z8.2) else
  ((ha_rf xo_kd z8.2 p0 5 3).bind fun r12 =>
  (ha_rf xo_kd z8.2 p0 0 10).bind fun r13 =>
  (f_X3_has r12 r13 z8.2).bind fun z14 =>
  if ¬ (z14.1 : Int32) = 0 then (f_X11_entry_J42 p0  z14.2) else
  (f_X11_entry_J43 p0 1 z14.2)))

def f_X6_clear (p0 : Nat) (S : ha_St) : Option (ha_St) :=
  ha_nm (ha_sI S p0 4 0) fun S1 =>
  ha_nm (ha_sI S1 p0 5 0) fun S2 =>
  ha_nm (ha_sI S2 p0 6 0) fun S3 =>
  ha_nm (ha_sI S3 p0 7 0) fun S4 =>
  some S4

def f_X6_add (p0 : Nat) (p1 : Nat) (S : ha_St) : Option (ha_St) :=
  (ha_rf xo_kd S p0 0 100).bind fun r1 =>
  if ((((((ha_gI S p0 4) : Int32) + (ha_gI S p1 1)) : Int32) + 1) : Int32) ≤ (nI (xo_ln r1)) then ((ha_rf xo_kd S p1 0 100).bind fun r3 =>
  (ha_rf xo_kd S p0 0 100).bind fun r4 =>
  ha_gd (ha_cpOk (0) ((ha_gI S p0 4)) ((ha_gI S p1 1)) (xo_ln r3) (xo_ln r4)) <|
  ha_nm (ha_sA S r4 (va_cpy (ha_gA S r3) (ha_gA S r4) (0 : Int32).toNatClampNeg ((ha_gI S p0 4) : Int32).toNatClampNeg ((ha_gI S p1 1) : Int32).toNatClampNeg)) fun S6 =>
  ha_nm (ha_sI S6 p0 4 (((ha_gI S6 p0 4) : Int32) + (ha_gI S6 p1 1))) fun S7 =>
  (ha_rf xo_kd S7 p0 0 100).bind fun r8 =>
  ha_gd (¬ (((ha_gI S7 p0 4) : Int32) < 0 ∨ xo_ln r8 ≤ ((ha_gI S7 p0 4) : Int32).toNatClampNeg)) <|
  ha_nm (ha_sA S7 r8 (upd (ha_gA S7 r8) ((ha_gI S7 p0 4) : Int32).toNatClampNeg 0)) fun S10 =>
  ha_nm (ha_sI S10 p0 4 (((ha_gI S10 p0 4) : Int32) + 1)) fun S11 =>
  ha_nm (ha_sI S11 p0 7 (((ha_gI S11 p0 7) : Int32) + (ha_gI S11 p1 1))) fun S12 =>
  ha_nm (ha_sI S12 p0 6 (((ha_gI S12 p0 6) : Int32) + 1)) fun S13 =>
  some S13) else
  (some S)

def f_X3_fittingAt_J69 (p0 : Nat) (p1 : Nat) (p2 : Int32) (p3 : Int32) (v4 : Int32) (S : ha_St) : Option (Int32 × ha_St) :=
  some (v4, S)
def f_X3_fittingAt_L6_J63 (p0 : Nat) (p1 : Nat) (p2 : Int32) (p3 : Int32) (self : (Int32 × Int32 × ha_St) → Option (Int32 × ha_St)) (v4 : Int32) (v5 : Int32) (S : ha_St) : Option (Int32 × ha_St) :=
  ha_nm ((v5 : Int32) + 1) fun x1 =>
  self (v4, x1, S)
def f_X3_fittingAt_L6_J54 (p0 : Nat) (p1 : Nat) (p2 : Int32) (p3 : Int32) (self : (Int32 × Int32 × ha_St) → Option (Int32 × ha_St)) (v4 : Int32) (v5 : Int32) (S : ha_St) : Option (Int32 × ha_St) :=
  ha_nm (((v4 : Int32) ||| ((1 : Int32) <<< ((v5 : Int32) &&& 31))) : Int32) fun x2 =>
  f_X3_fittingAt_L6_J63 p0 p1 p2 p3 self x2 v5 S
def f_X3_fittingAt_L6 (p0 : Nat) (p1 : Nat) (p2 : Int32) (p3 : Int32) (self : (Int32 × Int32 × ha_St) → Option (Int32 × ha_St)) (v4 : Int32) (v5 : Int32) (S : ha_St) : Option (Int32 × ha_St) :=
  if ((ha_gI S p0 3) : Int32) ≤ v5 then (some (v4, S)) else
  ((ha_rf xo_kd S p0 1 100).bind fun r4 =>
  ha_gd (¬ ((v5 : Int32) < 0 ∨ xo_ln r4 ≤ (v5 : Int32).toNatClampNeg)) <|
  ha_nm (((p2 : Int32) + (ha_gA S r4 (v5 : Int32).toNatClampNeg)) : Int32) fun x6 =>
  (f_X3_isAt p0 v5 p1 p2 p3 S).bind fun z7 =>
  if (z7.1 : Int32) = 0 then (f_X3_fittingAt_L6_J63 p0 p1 p2 p3 self v4 v5 z7.2) else
  (if (p3 : Int32) ≤ x6 then (f_X3_fittingAt_L6_J54 p0 p1 p2 p3 self v4 v5 z7.2) else
  (ha_gd (¬ ((x6 : Int32) < 0 ∨ xo_ln p1 ≤ (x6 : Int32).toNatClampNeg)) <|
  (f_X11_isLetter ((ha_gA z7.2 p1 (x6 : Int32).toNatClampNeg))).bind fun z11 =>
  if ¬ (z11 : Int32) = 0 then (f_X3_fittingAt_L6_J63 p0 p1 p2 p3 self v4 v5 z7.2) else
  (f_X3_fittingAt_L6_J54 p0 p1 p2 p3 self v4 v5 z7.2))))
def f_X3_fittingAt_L6i (p0 : Nat) (p1 : Nat) (p2 : Int32) (p3 : Int32) : Nat → (Int32 × Int32 × ha_St) → Option (Int32 × ha_St) := ha_itr (fun self z => f_X3_fittingAt_L6 p0 p1 p2 p3 self z.1 z.2.1 z.2.2)
def f_X3_fittingAt (p0 : Nat) (p1 : Nat) (p2 : Int32) (p3 : Int32) (S : ha_St) : Option (Int32 × ha_St) :=
  (f_X3_fittingAt_L6i p0 p1 p2 p3 ha_fu (0, 0, S)).bind (fun z => f_X3_fittingAt_J69 p0 p1 p2 p3 z.1 z.2)

def f_X6_mark_J107 (p0 : Nat) (p1 : Nat)  (S : ha_St) : Option (ha_St) :=
  some S
def f_X6_mark_L7_J101 (p0 : Nat) (p1 : Nat) (self : (Int32 × ha_St) → Option (ha_St)) (v2 : Int32) (S : ha_St) : Option (ha_St) :=
  ha_nm ((v2 : Int32) + 1) fun x2 =>
  self (x2, S)
def f_X6_mark_L7_J59 (p0 : Nat) (p1 : Nat) (self : (Int32 × ha_St) → Option (ha_St)) (v2 : Int32) (S : ha_St) : Option (ha_St) :=
  (ha_rf xo_kd S p0 1 100).bind fun r3 =>
  ha_gd (¬ (((ha_gI S p0 5) : Int32) < 0 ∨ xo_ln r3 ≤ ((ha_gI S p0 5) : Int32).toNatClampNeg)) <|
  ha_nm (ha_sA S r3 (upd (ha_gA S r3) ((ha_gI S p0 5) : Int32).toNatClampNeg v2)) fun S5 =>
  (ha_rf xo_kd S5 p0 2 100).bind fun r6 =>
  (ha_rf xo_kd S5 p0 0 100).bind fun r7 =>
  (f_X3_fittingAt p1 r7 v2 ((ha_gI S5 p0 4)) S5).bind fun z8 =>
  ha_gd (¬ (((ha_gI S5 p0 5) : Int32) < 0 ∨ xo_ln r6 ≤ ((ha_gI S5 p0 5) : Int32).toNatClampNeg)) <|
  ha_nm (ha_sA z8.2 r6 (upd (ha_gA z8.2 r6) ((ha_gI S5 p0 5) : Int32).toNatClampNeg z8.1)) fun S10 =>
  ha_nm (ha_sI S10 p0 5 (((ha_gI S10 p0 5) : Int32) + 1)) fun S11 =>
  f_X6_mark_L7_J101 p0 p1 self v2 S11
def f_X6_mark_L7 (p0 : Nat) (p1 : Nat) (self : (Int32 × ha_St) → Option (ha_St)) (v2 : Int32) (S : ha_St) : Option (ha_St) :=
  if ((ha_gI S p0 4) : Int32) ≤ v2 then (some S) else
  ((ha_rf xo_kd S p0 1 100).bind fun r13 =>
  if ((((nI (xo_ln r13)) : Int32) - 1) : Int32) ≤ (ha_gI S p0 5) then (some S) else
  ((ha_rf xo_kd S p0 0 100).bind fun r15 =>
  ha_gd (¬ ((v2 : Int32) < 0 ∨ xo_ln r15 ≤ (v2 : Int32).toNatClampNeg)) <|
  (f_X11_isLetter ((ha_gA S r15 (v2 : Int32).toNatClampNeg))).bind fun z17 =>
  if (z17 : Int32) = 0 then (f_X6_mark_L7_J101 p0 p1 self v2 S) else
  (if (v2 : Int32) = 0 then (f_X6_mark_L7_J59 p0 p1 self v2 S) else
  ((ha_rf xo_kd S p0 0 100).bind fun r20 =>
  ha_gd (¬ ((((v2 : Int32) - 1) : Int32) < 0 ∨ xo_ln r20 ≤ (((v2 : Int32) - 1) : Int32).toNatClampNeg)) <|
  (f_X11_isLetter ((ha_gA S r20 (((v2 : Int32) - 1) : Int32).toNatClampNeg))).bind fun z22 =>
  if ¬ (z22 : Int32) = 0 then (f_X6_mark_L7_J101 p0 p1 self v2 S) else
  (f_X6_mark_L7_J59 p0 p1 self v2 S)))))
def f_X6_mark_L7i (p0 : Nat) (p1 : Nat) : Nat → (Int32 × ha_St) → Option (ha_St) := ha_itr (fun self z => f_X6_mark_L7 p0 p1 self z.1 z.2)
def f_X6_mark (p0 : Nat) (p1 : Nat) (S : ha_St) : Option (ha_St) :=
  ha_nm (ha_sI S p0 5 0) fun S1 =>
  (f_X6_mark_L7i p0 p1 ha_fu (0, S1)).bind (fun z => f_X6_mark_J107 p0 p1  z)

def f_X3_all (p0 : Nat) (S : ha_St) : Option (Int32 × ha_St) :=
  some (((((1 : Int32) <<< (((ha_gI S p0 3) : Int32) &&& 31)) : Int32) - 1), S)

def f_X6_savingBy (p0 : Nat) (p1 : Nat) (p2 : Int32) (p3 : Int32) (S : ha_St) : Option (Int32 × ha_St) :=
  (ha_rf xo_kd S p1 2 100).bind fun r1 =>
  ha_gd (¬ ((p2 : Int32) < 0 ∨ xo_ln r1 ≤ (p2 : Int32).toNatClampNeg)) <|
  ha_nm ((if ((ha_gI S p0 5) : Int32) < ((p3 : Int32) + (ha_gA S r1 (p2 : Int32).toNatClampNeg)) then (ha_gI S p0 5) else ((p3 : Int32) + (ha_gA S r1 (p2 : Int32).toNatClampNeg))) : Int32) fun x3 =>
  (ha_rf xo_kd S p1 1 100).bind fun r4 =>
  ha_gd (¬ ((p2 : Int32) < 0 ∨ xo_ln r4 ≤ (p2 : Int32).toNatClampNeg)) <|
  (ha_rf xo_kd S p0 3 100).bind fun r6 =>
  ha_gd (¬ ((x3 : Int32) < 0 ∨ xo_ln r6 ≤ (x3 : Int32).toNatClampNeg)) <|
  some ((((((ha_gA S r4 (p2 : Int32).toNatClampNeg) : Int32) - 2) : Int32) + (ha_gA S r6 (x3 : Int32).toNatClampNeg)), S)

def f_X6_saving_J110 (p0 : Nat) (p1 : Nat) (p2 : Int32)  (S : ha_St) : Option (Int32 × ha_St) :=
  (ha_rf xo_kd S p0 3 100).bind fun r1 =>
  ha_gd (¬ ((0 : Int32) < 0 ∨ xo_ln r1 ≤ (0 : Int32).toNatClampNeg)) <|
  some ((ha_gA S r1 (0 : Int32).toNatClampNeg), S)
def f_X6_saving_L17_J104 (p0 : Nat) (p1 : Nat) (p2 : Int32) (self : (Int32 × ha_St) → Option (ha_St)) (v3 : Int32) (S : ha_St) : Option (ha_St) :=
  ha_nm ((v3 : Int32) + (-1)) fun x7 =>
  self (x7, S)
def f_X6_saving_L48_J98 (p0 : Nat) (p1 : Nat) (p2 : Int32) (self : (Int32 × Int32 × Int32 × ha_St) → Option (Int32 × ha_St)) (v3 : Int32) (v4 : Int32) (v5 : Int32) (S : ha_St) : Option (Int32 × ha_St) :=
  ha_nm ((v5 : Int32) + 1) fun x17 =>
  self (v3, v4, x17, S)
def f_X6_saving_L48 (p0 : Nat) (p1 : Nat) (p2 : Int32) (self : (Int32 × Int32 × Int32 × ha_St) → Option (Int32 × ha_St)) (v3 : Int32) (v4 : Int32) (v5 : Int32) (S : ha_St) : Option (Int32 × ha_St) :=
  if ((ha_gI S p1 3) : Int32) ≤ v5 then (some (v3, S)) else
  (if (((v4 : Int32) >>> ((v5 : Int32) &&& 31)) : Int32) = 0 then (some (v3, S)) else
  (if (((((v4 : Int32) >>> ((v5 : Int32) &&& 31)) : Int32) &&& 1) : Int32) = 0 then (f_X6_saving_L48_J98 p0 p1 p2 self v3 v4 v5 S) else
  ((ha_rf xo_kd S p0 3 100).bind fun r21 =>
  (ha_rf xo_kd S p0 3 100).bind fun r22 =>
  ha_gd (¬ ((v3 : Int32) < 0 ∨ xo_ln r22 ≤ (v3 : Int32).toNatClampNeg)) <|
  (f_X6_savingBy p0 p1 v5 v3 S).bind fun z24 =>
  ha_gd (¬ ((v3 : Int32) < 0 ∨ xo_ln r21 ≤ (v3 : Int32).toNatClampNeg)) <|
  ha_nm (ha_sA z24.2 r21 (upd (ha_gA z24.2 r21) (v3 : Int32).toNatClampNeg (if ((ha_gA S r22 (v3 : Int32).toNatClampNeg) : Int32) < z24.1 then z24.1 else (ha_gA S r22 (v3 : Int32).toNatClampNeg)))) fun S26 =>
  f_X6_saving_L48_J98 p0 p1 p2 self v3 v4 v5 S26)))
def f_X6_saving_L48i (p0 : Nat) (p1 : Nat) (p2 : Int32) : Nat → (Int32 × Int32 × Int32 × ha_St) → Option (Int32 × ha_St) := ha_itr (fun self z => f_X6_saving_L48 p0 p1 p2 self z.1 z.2.1 z.2.2.1 z.2.2.2)
def f_X6_saving_L17 (p0 : Nat) (p1 : Nat) (p2 : Int32) (self : (Int32 × ha_St) → Option (ha_St)) (v3 : Int32) (S : ha_St) : Option (ha_St) :=
  if (v3 : Int32) < 0 then (some S) else
  ((ha_rf xo_kd S p0 3 100).bind fun r9 =>
  (ha_rf xo_kd S p0 3 100).bind fun r10 =>
  ha_gd (¬ ((((v3 : Int32) + 1) : Int32) < 0 ∨ xo_ln r10 ≤ (((v3 : Int32) + 1) : Int32).toNatClampNeg)) <|
  ha_gd (¬ ((v3 : Int32) < 0 ∨ xo_ln r9 ≤ (v3 : Int32).toNatClampNeg)) <|
  ha_nm (ha_sA S r9 (upd (ha_gA S r9) (v3 : Int32).toNatClampNeg (ha_gA S r10 (((v3 : Int32) + 1) : Int32).toNatClampNeg))) fun S13 =>
  (ha_rf xo_kd S13 p0 2 100).bind fun r14 =>
  ha_gd (¬ ((v3 : Int32) < 0 ∨ xo_ln r14 ≤ (v3 : Int32).toNatClampNeg)) <|
  ha_nm ((((ha_gA S13 r14 (v3 : Int32).toNatClampNeg) : Int32) &&& p2) : Int32) fun x16 =>
  (f_X6_saving_L48i p0 p1 p2 ha_fu (v3, x16, 0, S13)).bind (fun z => f_X6_saving_L17_J104 p0 p1 p2 self z.1 z.2))
def f_X6_saving_L17i (p0 : Nat) (p1 : Nat) (p2 : Int32) : Nat → (Int32 × ha_St) → Option (ha_St) := ha_itr (fun self z => f_X6_saving_L17 p0 p1 p2 self z.1 z.2)
def f_X6_saving (p0 : Nat) (p1 : Nat) (p2 : Int32) (S : ha_St) : Option (Int32 × ha_St) :=
  (ha_rf xo_kd S p0 3 100).bind fun r3 =>
  ha_gd (¬ (((ha_gI S p0 5) : Int32) < 0 ∨ xo_ln r3 ≤ ((ha_gI S p0 5) : Int32).toNatClampNeg)) <|
  ha_nm (ha_sA S r3 (upd (ha_gA S r3) ((ha_gI S p0 5) : Int32).toNatClampNeg 0)) fun S5 =>
  ha_nm ((((ha_gI S5 p0 5) : Int32) - 1) : Int32) fun x6 =>
  (f_X6_saving_L17i p0 p1 p2 ha_fu (x6, S5)).bind (fun z => f_X6_saving_J110 p0 p1 p2  z)

def f_X6_entryToTake_J47 (p0 : Nat) (p1 : Nat) (p2 : Int32)  (S : ha_St) : Option (Int32 × ha_St) :=
  some ((-1), S)
def f_X6_entryToTake_L2_J41 (p0 : Nat) (p1 : Nat) (p2 : Int32) (self : (Int32 × ha_St) → Option ((ha_St) ⊕ (Int32 × ha_St))) (v3 : Int32) (S : ha_St) : Option ((ha_St) ⊕ (Int32 × ha_St)) :=
  ha_nm ((v3 : Int32) + 1) fun x1 =>
  self (x1, S)
def f_X6_entryToTake_L2 (p0 : Nat) (p1 : Nat) (p2 : Int32) (self : (Int32 × ha_St) → Option ((ha_St) ⊕ (Int32 × ha_St))) (v3 : Int32) (S : ha_St) : Option ((ha_St) ⊕ (Int32 × ha_St)) :=
  if ((ha_gI S p1 3) : Int32) ≤ v3 then (some (.inl S)) else
  ((ha_rf xo_kd S p0 2 100).bind fun r3 =>
  ha_gd (¬ ((p2 : Int32) < 0 ∨ xo_ln r3 ≤ (p2 : Int32).toNatClampNeg)) <|
  if ((((((ha_gA S r3 (p2 : Int32).toNatClampNeg) : Int32) >>> ((v3 : Int32) &&& 31)) : Int32) &&& 1) : Int32) = 0 then (f_X6_entryToTake_L2_J41 p0 p1 p2 self v3 S) else
  ((f_X6_savingBy p0 p1 v3 p2 S).bind fun z6 =>
  (ha_rf xo_kd z6.2 p0 3 100).bind fun r7 =>
  ha_gd (¬ ((p2 : Int32) < 0 ∨ xo_ln r7 ≤ (p2 : Int32).toNatClampNeg)) <|
  if ¬ (z6.1 : Int32) = (ha_gA z6.2 r7 (p2 : Int32).toNatClampNeg) then (f_X6_entryToTake_L2_J41 p0 p1 p2 self v3 z6.2) else
  (some (.inr (v3, z6.2)))))
def f_X6_entryToTake_L2i (p0 : Nat) (p1 : Nat) (p2 : Int32) : Nat → (Int32 × ha_St) → Option ((ha_St) ⊕ (Int32 × ha_St)) := ha_itr (fun self z => f_X6_entryToTake_L2 p0 p1 p2 self z.1 z.2)
def f_X6_entryToTake (p0 : Nat) (p1 : Nat) (p2 : Int32) (S : ha_St) : Option (Int32 × ha_St) :=
  (f_X6_entryToTake_L2i p0 p1 p2 ha_fu (0, S)).bind (Sum.elim (fun z => f_X6_entryToTake_J47 p0 p1 p2  z) (fun r => some r))

def f_X6_cut_J130 (p0 : Nat) (p1 : Nat) (p2 : Nat) (v3 : Int32) (S : ha_St) : Option (Int32 × ha_St) :=
  some (v3, S)
def f_X6_cut_L8_J124 (p0 : Nat) (p1 : Nat) (p2 : Nat) (self : (Int32 × Int32 × Int32 × ha_St) → Option (Int32 × ha_St)) (v3 : Int32) (v4 : Int32) (k0 : Int32) (k1 : Int32) (S : ha_St) : Option (Int32 × ha_St) :=
  ha_nm (((k0 : Int32) + k1) : Int32) fun x1 =>
  self (v3, v4, x1, S)
def f_X6_cut_L8_J101 (p0 : Nat) (p1 : Nat) (p2 : Nat) (self : (Int32 × Int32 × Int32 × ha_St) → Option (Int32 × ha_St)) (v3 : Int32) (v4 : Int32) (v5 : Int32) (v6 : Int32) (k0 : Nat) (k1 : Int32) (k2 : Int32) (S : ha_St) : Option (Int32 × ha_St) :=
  ha_gd (¬ ((k1 : Int32) < 0 ∨ xo_ln k0 ≤ (k1 : Int32).toNatClampNeg)) <|
  ha_nm (ha_sA S k0 (upd (ha_gA S k0) (k1 : Int32).toNatClampNeg k2)) fun S3 =>
  ha_nm ((v3 : Int32) + 1) fun x4 =>
  if ¬ (v6 : Int32) = (-1) then ((ha_rf xo_kd S3 p1 1 100).bind fun r6 =>
  ha_gd (¬ ((v6 : Int32) < 0 ∨ xo_ln r6 ≤ (v6 : Int32).toNatClampNeg)) <|
  f_X6_cut_L8_J124 p0 p1 p2 self x4 v4 v5 ((ha_gA S3 r6 (v6 : Int32).toNatClampNeg)) S3) else
  (f_X6_cut_L8_J124 p0 p1 p2 self x4 v4 v5 1 S3)
def f_X6_cut_L8_J78 (p0 : Nat) (p1 : Nat) (p2 : Nat) (self : (Int32 × Int32 × Int32 × ha_St) → Option (Int32 × ha_St)) (v3 : Int32) (v4 : Int32) (v5 : Int32) (v6 : Int32) (S : ha_St) : Option (Int32 × ha_St) :=
  if ¬ (v6 : Int32) = (-1) then (f_X6_cut_L8_J101 p0 p1 p2 self v3 v4 v5 v6 p2 v3 (((100 : Int32) + v6)) S) else
  ((ha_rf xo_kd S p0 0 100).bind fun r9 =>
  ha_gd (¬ ((v5 : Int32) < 0 ∨ xo_ln r9 ≤ (v5 : Int32).toNatClampNeg)) <|
  f_X6_cut_L8_J101 p0 p1 p2 self v3 v4 v5 v6 p2 v3 ((ha_gA S r9 (v5 : Int32).toNatClampNeg)) S)
def f_X6_cut_L8_J75 (p0 : Nat) (p1 : Nat) (p2 : Nat) (self : (Int32 × Int32 × Int32 × ha_St) → Option (Int32 × ha_St)) (v3 : Int32) (v5 : Int32) (v6 : Int32) (k0 : Int32) (k1 : Int32) (S : ha_St) : Option (Int32 × ha_St) :=
  ha_nm (((k0 : Int32) + k1) : Int32) fun x11 =>
  f_X6_cut_L8_J78 p0 p1 p2 self v3 x11 v5 v6 S
def f_X6_cut_L8 (p0 : Nat) (p1 : Nat) (p2 : Nat) (self : (Int32 × Int32 × Int32 × ha_St) → Option (Int32 × ha_St)) (v3 : Int32) (v4 : Int32) (v5 : Int32) (S : ha_St) : Option (Int32 × ha_St) :=
  if ((ha_gI S p0 7) : Int32) ≤ v5 then (some (v3, S)) else
  (if ((nI (xo_ln p2)) : Int32) ≤ v3 then (some (v3, S)) else
  (if ((ha_gI S p0 5) : Int32) ≤ v4 then (f_X6_cut_L8_J78 p0 p1 p2 self v3 v4 v5 (-1) S) else
  ((ha_rf xo_kd S p0 1 100).bind fun r15 =>
  ha_gd (¬ ((v4 : Int32) < 0 ∨ xo_ln r15 ≤ (v4 : Int32).toNatClampNeg)) <|
  if ¬ ((ha_gA S r15 (v4 : Int32).toNatClampNeg) : Int32) = v5 then (f_X6_cut_L8_J78 p0 p1 p2 self v3 v4 v5 (-1) S) else
  ((f_X6_entryToTake p0 p1 v4 S).bind fun z18 =>
  if ¬ (z18.1 : Int32) = (-1) then ((ha_rf xo_kd z18.2 p1 2 100).bind fun r20 =>
  ha_gd (¬ ((z18.1 : Int32) < 0 ∨ xo_ln r20 ≤ (z18.1 : Int32).toNatClampNeg)) <|
  f_X6_cut_L8_J75 p0 p1 p2 self v3 v5 z18.1 v4 ((ha_gA z18.2 r20 (z18.1 : Int32).toNatClampNeg)) z18.2) else
  (f_X6_cut_L8_J75 p0 p1 p2 self v3 v5 z18.1 v4 1 z18.2)))))
def f_X6_cut_L8i (p0 : Nat) (p1 : Nat) (p2 : Nat) : Nat → (Int32 × Int32 × Int32 × ha_St) → Option (Int32 × ha_St) := ha_itr (fun self z => f_X6_cut_L8 p0 p1 p2 self z.1 z.2.1 z.2.2.1 z.2.2.2)
def f_X6_cut (p0 : Nat) (p1 : Nat) (p2 : Nat) (S : ha_St) : Option (Int32 × ha_St) :=
  (f_X6_cut_L8i p0 p1 p2 ha_fu (0, 0, 0, S)).bind (fun z => f_X6_cut_J130 p0 p1 p2 z.1 z.2)

def f_X11_code_J89 (p0 : Nat) (v1 : Int32) (S : ha_St) : Option (Int32 × ha_St) :=
  (ha_rf xo_kd S p0 0 10).bind fun r1 =>
  ha_nm (ha_sI S r1 1 0) fun S2 =>
  some (v1, S2)
def f_X11_code (p0 : Nat) (S : ha_St) : Option (Int32 × ha_St) :=
  (ha_rf xo_kd S p0 0 10).bind fun r3 =>
  (f_X10_isText r3 60 S).bind fun z4 =>
  if (z4.1 : Int32) = 0 then (f_X11_code_J89 p0 (-1) z4.2) else
  ((ha_rf xo_kd z4.2 p0 6 6).bind fun r6 =>
  (f_X6_clear r6 z4.2).bind fun z7 =>
  (ha_rf xo_kd z7 p0 6 6).bind fun r8 =>
  (ha_rf xo_kd z7 p0 0 10).bind fun r9 =>
  (f_X6_add r8 r9 z7).bind fun z10 =>
  (ha_rf xo_kd z10 p0 6 6).bind fun r11 =>
  (ha_rf xo_kd z10 p0 5 3).bind fun r12 =>
  (f_X6_mark r11 r12 z10).bind fun z13 =>
  (ha_rf xo_kd z13 p0 6 6).bind fun r14 =>
  (ha_rf xo_kd z13 p0 6 6).bind fun r15 =>
  (ha_rf xo_kd z13 p0 5 3).bind fun r16 =>
  (ha_rf xo_kd z13 p0 5 3).bind fun r17 =>
  (f_X3_all r17 z13).bind fun z18 =>
  (f_X6_saving r15 r16 z18.1 z18.2).bind fun z19 =>
  ha_nm ((((ha_gI z13 r14 7) : Int32) - z19.1) : Int32) fun x20 =>
  (ha_rf xo_kd z19.2 p0 6 6).bind fun r21 =>
  (ha_rf xo_kd z19.2 p0 5 3).bind fun r22 =>
  (ha_rf xo_kd z19.2 p0 8 100).bind fun r23 =>
  (f_X6_cut r21 r22 r23 z19.2).bind fun z24 =>
  ha_nm (ha_sI z24.2 p0 14 z24.1) fun S25 =>
  f_X11_code_J89 p0 x20 S25)

def f_X11_piece_J31 (p0 : Nat) (p1 : Int32) (k0 : Int32) (S : ha_St) : Option (Int32 × ha_St) :=
  some (k0, S)
def f_X11_piece_J21 (p0 : Nat) (p1 : Int32)  (S : ha_St) : Option (Int32 × ha_St) :=
  f_X11_piece_J31 p0 p1 (-1) S
def f_X11_piece (p0 : Nat) (p1 : Int32) (S : ha_St) : Option (Int32 × ha_St) :=
  if (p1 : Int32) < 0 then (f_X11_piece_J21 p0 p1  S) else
  (if ((ha_gI S p0 14) : Int32) ≤ p1 then (f_X11_piece_J21 p0 p1  S) else
  ((ha_rf xo_kd S p0 8 100).bind fun r3 =>
  if (p1 : Int32) < (nI (xo_ln r3)) then ((ha_rf xo_kd S p0 8 100).bind fun r5 =>
  ha_gd (¬ ((p1 : Int32) < 0 ∨ xo_ln r5 ≤ (p1 : Int32).toNatClampNeg)) <|
  f_X11_piece_J31 p0 p1 ((ha_gA S r5 (p1 : Int32).toNatClampNeg)) S) else
  (f_X11_piece_J21 p0 p1  S)))

def f_X11_year_J68 (p0 : Nat) (k0 : Int32) (S : ha_St) : Option (Int32 × ha_St) :=
  some (k0, S)
def f_X11_year_J45 (p0 : Nat) (v1 : Int32) (S : ha_St) : Option (Int32 × ha_St) :=
  (ha_rf xo_kd S p0 0 10).bind fun r1 =>
  ha_nm (ha_sI S r1 1 0) fun S2 =>
  if (v1 : Int32) = 0 then (f_X11_year_J68 p0 (-1) S2) else
  ((ha_rf xo_kd S2 p0 7 6).bind fun r4 =>
  f_X11_year_J68 p0 ((ha_gI S2 r4 6)) S2)
def f_X11_year_J29 (p0 : Nat) (k0 : Int32) (S : ha_St) : Option (Int32 × ha_St) :=
  if (k0 : Int32) = 0 then (f_X11_year_J45 p0 k0 S) else
  ((ha_rf xo_kd S p0 7 6).bind fun r6 =>
  (ha_rf xo_kd S p0 0 10).bind fun r7 =>
  (f_X6_add r6 r7 S).bind fun z8 =>
  f_X11_year_J45 p0 k0 z8)
def f_X11_year_J28 (p0 : Nat)  (S : ha_St) : Option (Int32 × ha_St) :=
  f_X11_year_J29 p0 0 S
def f_X11_year (p0 : Nat) (S : ha_St) : Option (Int32 × ha_St) :=
  (ha_rf xo_kd S p0 0 10).bind fun r9 =>
  (f_X10_isText r9 60 S).bind fun z10 =>
  if (z10.1 : Int32) = 0 then (f_X11_year_J28 p0  z10.2) else
  ((ha_rf xo_kd z10.2 p0 7 6).bind fun r12 =>
  if (8 : Int32) ≤ (ha_gI z10.2 r12 6) then (f_X11_year_J28 p0  z10.2) else
  (f_X11_year_J29 p0 1 z10.2))

def f_X6_usefulSet_J61 (p0 : Nat) (p1 : Nat) (v2 : Int32) (S : ha_St) : Option (Int32 × ha_St) :=
  some (v2, S)
def f_X6_usefulSet_L29_J55 (p0 : Nat) (p1 : Nat) (self : (Int32 × Int32 × ha_St) → Option (Int32 × ha_St)) (v2 : Int32) (v3 : Int32) (S : ha_St) : Option (Int32 × ha_St) :=
  ha_nm ((v3 : Int32) + 1) fun x1 =>
  self (v2, x1, S)
def f_X6_usefulSet_L29 (p0 : Nat) (p1 : Nat) (self : (Int32 × Int32 × ha_St) → Option (Int32 × ha_St)) (v2 : Int32) (v3 : Int32) (S : ha_St) : Option (Int32 × ha_St) :=
  if ((ha_gI S p1 3) : Int32) ≤ v3 then (some (v2, S)) else
  ((ha_rf xo_kd S p1 1 100).bind fun r3 =>
  ha_gd (¬ ((v3 : Int32) < 0 ∨ xo_ln r3 ≤ (v3 : Int32).toNatClampNeg)) <|
  if (2 : Int32) < (ha_gA S r3 (v3 : Int32).toNatClampNeg) then (f_X6_usefulSet_L29_J55 p0 p1 self v2 v3 S) else
  (ha_nm (((v2 : Int32) &&& ((((1 : Int32) <<< ((v3 : Int32) &&& 31)) : Int32) ^^^ (-1))) : Int32) fun x6 =>
  f_X6_usefulSet_L29_J55 p0 p1 self x6 v3 S))
def f_X6_usefulSet_L29i (p0 : Nat) (p1 : Nat) : Nat → (Int32 × Int32 × ha_St) → Option (Int32 × ha_St) := ha_itr (fun self z => f_X6_usefulSet_L29 p0 p1 self z.1 z.2.1 z.2.2)
def f_X6_usefulSet_J27 (p0 : Nat) (p1 : Nat) (v2 : Int32) (S : ha_St) : Option (Int32 × ha_St) :=
  (f_X6_usefulSet_L29i p0 p1 ha_fu (v2, 0, S)).bind (fun z => f_X6_usefulSet_J61 p0 p1 z.1 z.2)
def f_X6_usefulSet_L4 (p0 : Nat) (p1 : Nat) (self : (Int32 × Int32 × ha_St) → Option (Int32 × ha_St)) (v2 : Int32) (v3 : Int32) (S : ha_St) : Option (Int32 × ha_St) :=
  if ((ha_gI S p0 5) : Int32) ≤ v3 then (some (v2, S)) else
  ((ha_rf xo_kd S p0 2 100).bind fun r10 =>
  ha_gd (¬ ((v3 : Int32) < 0 ∨ xo_ln r10 ≤ (v3 : Int32).toNatClampNeg)) <|
  ha_nm (((v2 : Int32) ||| (ha_gA S r10 (v3 : Int32).toNatClampNeg)) : Int32) fun x12 =>
  ha_nm ((v3 : Int32) + 1) fun x13 =>
  self (x12, x13, S))
def f_X6_usefulSet_L4i (p0 : Nat) (p1 : Nat) : Nat → (Int32 × Int32 × ha_St) → Option (Int32 × ha_St) := ha_itr (fun self z => f_X6_usefulSet_L4 p0 p1 self z.1 z.2.1 z.2.2)
def f_X6_usefulSet (p0 : Nat) (p1 : Nat) (S : ha_St) : Option (Int32 × ha_St) :=
  (f_X6_usefulSet_L4i p0 p1 ha_fu (0, 0, S)).bind (fun z => f_X6_usefulSet_J27 p0 p1 z.1 z.2)

def f_J6_bitCount_0f7a4 (p0 : Int32) : Option (Int32) :=
  ha_nm (((p0 : Int32) - (((ha_ush p0 1) : Int32) &&& 1431655765)) : Int32) fun x1 =>
  ha_nm (((((x1 : Int32) &&& 858993459) : Int32) + (((ha_ush x1 2) : Int32) &&& 858993459)) : Int32) fun x2 =>
  ha_nm (((((x2 : Int32) + (ha_ush x2 4)) : Int32) &&& 252645135) : Int32) fun x3 =>
  ha_nm (((x3 : Int32) + (ha_ush x3 8)) : Int32) fun x4 =>
  ha_nm (((x4 : Int32) + (ha_ush x4 16)) : Int32) fun x5 =>
  some ((x5 : Int32) &&& 63)

def f_X6_bestSet_J69 (p0 : Nat) (p1 : Nat) (p2 : Int32) (v4 : Int32) (S : ha_St) : Option (Int32 × ha_St) :=
  some (v4, S)
def f_X6_bestSet_L15_J63 (p0 : Nat) (p1 : Nat) (p2 : Int32) (self : (Int32 × Int32 × Int32 × Int32 × ha_St) → Option (Int32 × ha_St)) (v3 : Int32) (v4 : Int32) (v5 : Int32) (v6 : Int32) (S : ha_St) : Option (Int32 × ha_St) :=
  ha_nm ((v6 : Int32) + 1) fun x2 =>
  self (v3, v4, v5, x2, S)
def f_X6_bestSet_L15 (p0 : Nat) (p1 : Nat) (p2 : Int32) (self : (Int32 × Int32 × Int32 × Int32 × ha_St) → Option (Int32 × ha_St)) (v3 : Int32) (v4 : Int32) (v5 : Int32) (v6 : Int32) (S : ha_St) : Option (Int32 × ha_St) :=
  if (v3 : Int32) < v6 then (some (v4, S)) else
  (if ¬ (((v6 : Int32) &&& ((v3 : Int32) ^^^ (-1))) : Int32) = 0 then (f_X6_bestSet_L15_J63 p0 p1 p2 self v3 v4 v5 v6 S) else
  ((f_J6_bitCount_0f7a4 v6).bind fun z5 =>
  if (p2 : Int32) < z5 then (f_X6_bestSet_L15_J63 p0 p1 p2 self v3 v4 v5 v6 S) else
  ((f_X6_saving p0 p1 v6 S).bind fun z7 =>
  if (z7.1 : Int32) ≤ v5 then (f_X6_bestSet_L15_J63 p0 p1 p2 self v3 v4 v5 v6 z7.2) else
  (f_X6_bestSet_L15_J63 p0 p1 p2 self v3 v6 z7.1 v6 z7.2))))
def f_X6_bestSet_L15i (p0 : Nat) (p1 : Nat) (p2 : Int32) : Nat → (Int32 × Int32 × Int32 × Int32 × ha_St) → Option (Int32 × ha_St) := ha_itr (fun self z => f_X6_bestSet_L15 p0 p1 p2 self z.1 z.2.1 z.2.2.1 z.2.2.2.1 z.2.2.2.2)
def f_X6_bestSet (p0 : Nat) (p1 : Nat) (p2 : Int32) (S : ha_St) : Option (Int32 × ha_St) :=
  (f_X6_usefulSet p0 p1 S).bind fun z1 =>
  (f_X6_bestSet_L15i p0 p1 p2 ha_fu (z1.1, 0, 0, 1, z1.2)).bind (fun z => f_X6_bestSet_J69 p0 p1 p2 z.1 z.2)

def f_X11_small_J10 (p0 : Nat) (p1 : Int32)  (S : ha_St) : Option (Int32 × ha_St) :=
  some ((-1), S)
def f_X11_small (p0 : Nat) (p1 : Int32) (S : ha_St) : Option (Int32 × ha_St) :=
  if (p1 : Int32) < 0 then (f_X11_small_J10 p0 p1  S) else
  (if (p1 : Int32) ≤ 12 then ((ha_rf xo_kd S p0 7 6).bind fun r3 =>
  (ha_rf xo_kd S p0 5 3).bind fun r4 =>
  (f_X6_mark r3 r4 S).bind fun z5 =>
  (ha_rf xo_kd z5 p0 7 6).bind fun r6 =>
  (ha_rf xo_kd z5 p0 5 3).bind fun r7 =>
  (f_X6_bestSet r6 r7 p1 z5).bind fun z8 =>
  ha_nm (ha_sI z8.2 p0 15 z8.1) fun S9 =>
  (ha_rf xo_kd S9 p0 7 6).bind fun r10 =>
  (ha_rf xo_kd S9 p0 7 6).bind fun r11 =>
  (ha_rf xo_kd S9 p0 5 3).bind fun r12 =>
  (f_X6_saving r11 r12 ((ha_gI S9 p0 15)) S9).bind fun z13 =>
  some ((((ha_gI S9 r10 7) : Int32) - z13.1), z13.2)) else
  (f_X11_small_J10 p0 p1  S))

def f_X11_smallSet (p0 : Nat) (S : ha_St) : Option (Int32 × ha_St) :=
  some ((ha_gI S p0 15), S)

def f_X2_add (p0 : Nat) (p1 : Int32) (p2 : Int32) (p3 : Int32) (p4 : Int32) (S : ha_St) : Option (Int32 × ha_St) :=
  if ((ha_gI S p0 8) : Int32) < 60 then ((ha_rf xo_kd S p0 0 100).bind fun r2 =>
  ha_gd (¬ (((ha_gI S p0 8) : Int32) < 0 ∨ xo_ln r2 ≤ ((ha_gI S p0 8) : Int32).toNatClampNeg)) <|
  ha_nm (ha_sA S r2 (upd (ha_gA S r2) ((ha_gI S p0 8) : Int32).toNatClampNeg p1)) fun S4 =>
  (ha_rf xo_kd S4 p0 1 100).bind fun r5 =>
  ha_gd (¬ (((ha_gI S4 p0 8) : Int32) < 0 ∨ xo_ln r5 ≤ ((ha_gI S4 p0 8) : Int32).toNatClampNeg)) <|
  ha_nm (ha_sA S4 r5 (upd (ha_gA S4 r5) ((ha_gI S4 p0 8) : Int32).toNatClampNeg p2)) fun S7 =>
  (ha_rf xo_kd S7 p0 2 100).bind fun r8 =>
  ha_gd (¬ (((ha_gI S7 p0 8) : Int32) < 0 ∨ xo_ln r8 ≤ ((ha_gI S7 p0 8) : Int32).toNatClampNeg)) <|
  ha_nm (ha_sA S7 r8 (upd (ha_gA S7 r8) ((ha_gI S7 p0 8) : Int32).toNatClampNeg p3)) fun S10 =>
  (ha_rf xo_kd S10 p0 3 100).bind fun r11 =>
  ha_gd (¬ (((ha_gI S10 p0 8) : Int32) < 0 ∨ xo_ln r11 ≤ ((ha_gI S10 p0 8) : Int32).toNatClampNeg)) <|
  ha_nm (ha_sA S10 r11 (upd (ha_gA S10 r11) ((ha_gI S10 p0 8) : Int32).toNatClampNeg p4)) fun S13 =>
  ha_nm (ha_sI S13 p0 8 (((ha_gI S13 p0 8) : Int32) + 1)) fun S14 =>
  some ((((ha_gI S14 p0 8) : Int32) - 1), S14)) else
  (some ((-1), S))

def f_X11_note_J44 (p0 : Nat) (p1 : Int32) (p2 : Int32) (p3 : Int32)  (S : ha_St) : Option (Int32 × ha_St) :=
  some ((-1), S)
def f_X11_note (p0 : Nat) (p1 : Int32) (p2 : Int32) (p3 : Int32) (S : ha_St) : Option (Int32 × ha_St) :=
  (ha_rf xo_kd S p0 9 2).bind fun r1 =>
  if (60 : Int32) ≤ (ha_gI S r1 8) then (f_X11_note_J44 p0 p1 p2 p3  S) else
  (if (p1 : Int32) < 0 then (f_X11_note_J44 p0 p1 p2 p3  S) else
  (if (p2 : Int32) < p1 then (f_X11_note_J44 p0 p1 p2 p3  S) else
  ((ha_rf xo_kd S p0 1 1).bind fun r5 =>
  if ((ha_gI S r5 5) : Int32) ≤ p2 then (f_X11_note_J44 p0 p1 p2 p3  S) else
  (if (p3 : Int32) < 1 then (f_X11_note_J44 p0 p1 p2 p3  S) else
  (if (p3 : Int32) ≤ 200 then ((ha_rf xo_kd S p0 9 2).bind fun r9 =>
  (f_X2_add r9 p1 p2 p3 ((ha_gI S p0 13)) S).bind fun z10 =>
  some (z10.1, z10.2)) else
  (f_X11_note_J44 p0 p1 p2 p3  S))))))

def f_X2_toldBy_J26 (p0 : Nat) (p1 : Int32) (v2 : Int32) (S : ha_St) : Option (Int32 × ha_St) :=
  some (v2, S)
def f_X2_toldBy_L2 (p0 : Nat) (p1 : Int32) (self : (Int32 × ha_St) → Option (Int32 × ha_St)) (v2 : Int32) (S : ha_St) : Option (Int32 × ha_St) :=
  if ((ha_gI S p0 8) : Int32) ≤ v2 then (some (v2, S)) else
  ((ha_rf xo_kd S p0 3 100).bind fun r2 =>
  ha_gd (¬ ((v2 : Int32) < 0 ∨ xo_ln r2 ≤ (v2 : Int32).toNatClampNeg)) <|
  if (p1 : Int32) < (ha_gA S r2 (v2 : Int32).toNatClampNeg) then (some (v2, S)) else
  (ha_nm ((v2 : Int32) + 1) fun x5 =>
  self (x5, S)))
def f_X2_toldBy_L2i (p0 : Nat) (p1 : Int32) : Nat → (Int32 × ha_St) → Option (Int32 × ha_St) := ha_itr (fun self z => f_X2_toldBy_L2 p0 p1 self z.1 z.2)
def f_X2_toldBy (p0 : Nat) (p1 : Int32) (S : ha_St) : Option (Int32 × ha_St) :=
  (f_X2_toldBy_L2i p0 p1 ha_fu (0, S)).bind (fun z => f_X2_toldBy_J26 p0 p1 z.1 z.2)

def f_X2_tighten_J109 (p0 : Nat) (p1 : Int32) (p2 : Int32) (p3 : Int32)  (S : ha_St) : Option (Int32 × ha_St) :=
  some (1, S)
def f_X2_tighten_L32_J103 (p0 : Nat) (p1 : Int32) (p2 : Int32) (p3 : Int32) (self : (Int32 × ha_St) → Option (ha_St)) (v4 : Int32) (S : ha_St) : Option (ha_St) :=
  ha_nm ((v4 : Int32) + 1) fun x11 =>
  self (x11, S)
def f_X2_tighten_L44 (p0 : Nat) (p1 : Int32) (p2 : Int32) (p3 : Int32) (self : (Int32 × Int32 × ha_St) → Option (Int32 × ha_St)) (v4 : Int32) (v5 : Int32) (S : ha_St) : Option (Int32 × ha_St) :=
  if ((ha_gI S p0 5) : Int32) ≤ v5 then (some (v4, S)) else
  ((ha_rf xo_kd S p0 4 104).bind fun r14 =>
  ha_gd (¬ ((v4 : Int32) < 0 ∨ xo_ln r14 ≤ (v4 : Int32).toNatClampNeg)) <|
  (ha_rb xo_kd S r14 (v4 : Int32).toNatClampNeg 100).bind fun r16 =>
  (ha_rf xo_kd S p0 4 104).bind fun r17 =>
  ha_gd (¬ ((v4 : Int32) < 0 ∨ xo_ln r17 ≤ (v4 : Int32).toNatClampNeg)) <|
  (ha_rb xo_kd S r17 (v4 : Int32).toNatClampNeg 100).bind fun r19 =>
  ha_gd (¬ ((v5 : Int32) < 0 ∨ xo_ln r19 ≤ (v5 : Int32).toNatClampNeg)) <|
  (ha_rf xo_kd S p0 4 104).bind fun r21 =>
  ha_gd (¬ ((v4 : Int32) < 0 ∨ xo_ln r21 ≤ (v4 : Int32).toNatClampNeg)) <|
  (ha_rb xo_kd S r21 (v4 : Int32).toNatClampNeg 100).bind fun r23 =>
  ha_gd (¬ ((p1 : Int32) < 0 ∨ xo_ln r23 ≤ (p1 : Int32).toNatClampNeg)) <|
  (ha_rf xo_kd S p0 4 104).bind fun r25 =>
  ha_gd (¬ ((p2 : Int32) < 0 ∨ xo_ln r25 ≤ (p2 : Int32).toNatClampNeg)) <|
  (ha_rb xo_kd S r25 (p2 : Int32).toNatClampNeg 100).bind fun r27 =>
  ha_gd (¬ ((v5 : Int32) < 0 ∨ xo_ln r27 ≤ (v5 : Int32).toNatClampNeg)) <|
  ha_gd (¬ ((v5 : Int32) < 0 ∨ xo_ln r16 ≤ (v5 : Int32).toNatClampNeg)) <|
  ha_nm (ha_sA S r16 (upd (ha_gA S r16) (v5 : Int32).toNatClampNeg (if ((((((ha_gA S r23 (p1 : Int32).toNatClampNeg) : Int32) + p3) : Int32) + (ha_gA S r27 (v5 : Int32).toNatClampNeg)) : Int32) < (ha_gA S r19 (v5 : Int32).toNatClampNeg) then (((((ha_gA S r23 (p1 : Int32).toNatClampNeg) : Int32) + p3) : Int32) + (ha_gA S r27 (v5 : Int32).toNatClampNeg)) else (ha_gA S r19 (v5 : Int32).toNatClampNeg)))) fun S30 =>
  ha_nm ((v5 : Int32) + 1) fun x31 =>
  self (v4, x31, S30))
def f_X2_tighten_L44i (p0 : Nat) (p1 : Int32) (p2 : Int32) (p3 : Int32) : Nat → (Int32 × Int32 × ha_St) → Option (Int32 × ha_St) := ha_itr (fun self z => f_X2_tighten_L44 p0 p1 p2 p3 self z.1 z.2.1 z.2.2)
def f_X2_tighten_L32 (p0 : Nat) (p1 : Int32) (p2 : Int32) (p3 : Int32) (self : (Int32 × ha_St) → Option (ha_St)) (v4 : Int32) (S : ha_St) : Option (ha_St) :=
  if ((ha_gI S p0 5) : Int32) ≤ v4 then (some S) else
  ((f_X2_tighten_L44i p0 p1 p2 p3 ha_fu (v4, 0, S)).bind (fun z => f_X2_tighten_L32_J103 p0 p1 p2 p3 self z.1 z.2))
def f_X2_tighten_L32i (p0 : Nat) (p1 : Int32) (p2 : Int32) (p3 : Int32) : Nat → (Int32 × ha_St) → Option (ha_St) := ha_itr (fun self z => f_X2_tighten_L32 p0 p1 p2 p3 self z.1 z.2)
def f_X2_tighten (p0 : Nat) (p1 : Int32) (p2 : Int32) (p3 : Int32) (S : ha_St) : Option (Int32 × ha_St) :=
  (ha_rf xo_kd S p0 4 104).bind fun r1 =>
  ha_gd (¬ ((p1 : Int32) < 0 ∨ xo_ln r1 ≤ (p1 : Int32).toNatClampNeg)) <|
  (ha_rb xo_kd S r1 (p1 : Int32).toNatClampNeg 100).bind fun r3 =>
  ha_gd (¬ ((p2 : Int32) < 0 ∨ xo_ln r3 ≤ (p2 : Int32).toNatClampNeg)) <|
  if (p3 : Int32) < (ha_gA S r3 (p2 : Int32).toNatClampNeg) then ((ha_rf xo_kd S p0 4 104).bind fun r6 =>
  ha_gd (¬ ((p2 : Int32) < 0 ∨ xo_ln r6 ≤ (p2 : Int32).toNatClampNeg)) <|
  (ha_rb xo_kd S r6 (p2 : Int32).toNatClampNeg 100).bind fun r8 =>
  ha_gd (¬ ((p1 : Int32) < 0 ∨ xo_ln r8 ≤ (p1 : Int32).toNatClampNeg)) <|
  if (0 : Int32) ≤ ((p3 : Int32) + (ha_gA S r8 (p1 : Int32).toNatClampNeg)) then ((f_X2_tighten_L32i p0 p1 p2 p3 ha_fu (0, S)).bind (fun z => f_X2_tighten_J109 p0 p1 p2 p3  z)) else
  (some (0, S))) else
  (some (1, S))

def f_X2_weigh_J164 (p0 : Nat) (p1 : Int32) (p2 : Int32)  (S : ha_St) : Option (ha_St) :=
  some S
def f_X2_weigh_L84_J155 (p0 : Nat) (p1 : Int32) (p2 : Int32) (self : (Int32 × ha_St) → Option (ha_St)) (v3 : Int32) (k0 : Nat) (k1 : Int32) (S : ha_St) : Option (ha_St) :=
  ha_gd ((k1 : Int32) = 0 ∨ (k1 : Int32) = 1) <|
  ha_nm (ha_sI S k0 7 k1) fun S1 =>
  ha_nm ((v3 : Int32) + 1) fun x3 =>
  self (x3, S1)
def f_X2_weigh_L84_J150 (p0 : Nat) (p1 : Int32) (p2 : Int32) (self : (Int32 × ha_St) → Option (ha_St)) (v3 : Int32) (k0 : Nat) (S : ha_St) : Option (ha_St) :=
  f_X2_weigh_L84_J155 p0 p1 p2 self v3 k0 1 S
def f_X2_weigh_L84 (p0 : Nat) (p1 : Int32) (p2 : Int32) (self : (Int32 × ha_St) → Option (ha_St)) (v3 : Int32) (S : ha_St) : Option (ha_St) :=
  if (p2 : Int32) ≤ v3 then (some S) else
  (if ¬ ((ha_gI S p0 7) : Int32) = 0 then (some S) else
  ((ha_rf xo_kd S p0 1 100).bind fun r6 =>
  ha_gd (¬ ((v3 : Int32) < 0 ∨ xo_ln r6 ≤ (v3 : Int32).toNatClampNeg)) <|
  ha_nm ((((ha_gA S r6 (v3 : Int32).toNatClampNeg) : Int32) + 1) : Int32) fun x8 =>
  (ha_rf xo_kd S p0 0 100).bind fun r9 =>
  ha_gd (¬ ((v3 : Int32) < 0 ∨ xo_ln r9 ≤ (v3 : Int32).toNatClampNeg)) <|
  (ha_rf xo_kd S p0 2 100).bind fun r11 =>
  ha_gd (¬ ((v3 : Int32) < 0 ∨ xo_ln r11 ≤ (v3 : Int32).toNatClampNeg)) <|
  (f_X2_tighten p0 ((ha_gA S r9 (v3 : Int32).toNatClampNeg)) x8 ((ha_gA S r11 (v3 : Int32).toNatClampNeg)) S).bind fun z13 =>
  if (z13.1 : Int32) = 0 then (f_X2_weigh_L84_J150 p0 p1 p2 self v3 p0 z13.2) else
  ((ha_rf xo_kd z13.2 p0 0 100).bind fun r15 =>
  ha_gd (¬ ((v3 : Int32) < 0 ∨ xo_ln r15 ≤ (v3 : Int32).toNatClampNeg)) <|
  (ha_rf xo_kd z13.2 p0 2 100).bind fun r17 =>
  ha_gd (¬ ((v3 : Int32) < 0 ∨ xo_ln r17 ≤ (v3 : Int32).toNatClampNeg)) <|
  (f_X2_tighten p0 x8 ((ha_gA z13.2 r15 (v3 : Int32).toNatClampNeg)) ((-(ha_gA z13.2 r17 (v3 : Int32).toNatClampNeg))) z13.2).bind fun z19 =>
  if ¬ (z19.1 : Int32) = 0 then (f_X2_weigh_L84_J155 p0 p1 p2 self v3 p0 0 z19.2) else
  (f_X2_weigh_L84_J150 p0 p1 p2 self v3 p0 z19.2))))
def f_X2_weigh_L84i (p0 : Nat) (p1 : Int32) (p2 : Int32) : Nat → (Int32 × ha_St) → Option (ha_St) := ha_itr (fun self z => f_X2_weigh_L84 p0 p1 p2 self z.1 z.2)
def f_X2_weigh_J82 (p0 : Nat) (p1 : Int32) (p2 : Int32)  (S : ha_St) : Option (ha_St) :=
  (f_X2_weigh_L84i p0 p1 p2 ha_fu (0, S)).bind (fun z => f_X2_weigh_J164 p0 p1 p2  z)
def f_X2_weigh_L24_J76 (p0 : Nat) (p1 : Int32) (p2 : Int32) (self : (Int32 × ha_St) → Option (ha_St)) (v3 : Int32) (S : ha_St) : Option (ha_St) :=
  ha_nm ((v3 : Int32) + 1) fun x27 =>
  self (x27, S)
def f_X2_weigh_L35_J68 (p0 : Nat) (p1 : Int32) (p2 : Int32) (self : (Int32 × Int32 × ha_St) → Option (Int32 × ha_St)) (v3 : Int32) (v4 : Int32) (k0 : Nat) (k1 : Int32) (k2 : Int32) (k3 : Int32) (S : ha_St) : Option (Int32 × ha_St) :=
  ha_gd (¬ ((k1 : Int32) < 0 ∨ xo_ln k0 ≤ (k1 : Int32).toNatClampNeg)) <|
  ha_nm (ha_sA S k0 (upd (ha_gA S k0) (k1 : Int32).toNatClampNeg ((k2 : Int32) * k3))) fun S30 =>
  ha_nm ((v4 : Int32) + 1) fun x31 =>
  self (v3, x31, S30)
def f_X2_weigh_L35 (p0 : Nat) (p1 : Int32) (p2 : Int32) (self : (Int32 × Int32 × ha_St) → Option (Int32 × ha_St)) (v3 : Int32) (v4 : Int32) (S : ha_St) : Option (Int32 × ha_St) :=
  if ((ha_gI S p0 5) : Int32) ≤ v4 then (some (v3, S)) else
  ((ha_rf xo_kd S p0 4 104).bind fun r33 =>
  ha_gd (¬ ((v3 : Int32) < 0 ∨ xo_ln r33 ≤ (v3 : Int32).toNatClampNeg)) <|
  (ha_rb xo_kd S r33 (v3 : Int32).toNatClampNeg 100).bind fun r35 =>
  if (v4 : Int32) ≤ v3 then (f_X2_weigh_L35_J68 p0 p1 p2 self v3 v4 r35 v4 (((v4 : Int32) - v3)) 1 S) else
  (f_X2_weigh_L35_J68 p0 p1 p2 self v3 v4 r35 v4 (((v4 : Int32) - v3)) 9 S))
def f_X2_weigh_L35i (p0 : Nat) (p1 : Int32) (p2 : Int32) : Nat → (Int32 × Int32 × ha_St) → Option (Int32 × ha_St) := ha_itr (fun self z => f_X2_weigh_L35 p0 p1 p2 self z.1 z.2.1 z.2.2)
def f_X2_weigh_L24 (p0 : Nat) (p1 : Int32) (p2 : Int32) (self : (Int32 × ha_St) → Option (ha_St)) (v3 : Int32) (S : ha_St) : Option (ha_St) :=
  if ((ha_gI S p0 5) : Int32) ≤ v3 then (some S) else
  ((f_X2_weigh_L35i p0 p1 p2 ha_fu (v3, 0, S)).bind (fun z => f_X2_weigh_L24_J76 p0 p1 p2 self z.1 z.2))
def f_X2_weigh_L24i (p0 : Nat) (p1 : Int32) (p2 : Int32) : Nat → (Int32 × ha_St) → Option (ha_St) := ha_itr (fun self z => f_X2_weigh_L24 p0 p1 p2 self z.1 z.2)
def f_X2_weigh (p0 : Nat) (p1 : Int32) (p2 : Int32) (S : ha_St) : Option (ha_St) :=
  ha_nm (ha_sI S p0 5 (((if (16 : Int32) < p1 then 16 else p1) : Int32) + 1)) fun S23 =>
  ha_nm (ha_sI S23 p0 6 p2) fun S24 =>
  ha_gd ((0 : Int32) = 0 ∨ (0 : Int32) = 1) <|
  ha_nm (ha_sI S24 p0 7 0) fun S25 =>
  (f_X2_weigh_L24i p0 p1 p2 ha_fu (0, S25)).bind (fun z => f_X2_weigh_J82 p0 p1 p2  z)

def f_X2_fit_J42 (p0 : Nat) (p1 : Int32) (p2 : Int32) (k0 : Int32) (S : ha_St) : Option (Int32 × ha_St) :=
  ha_gd ((k0 : Int32) = 0 ∨ (k0 : Int32) = 1) <|
  some (k0, S)
def f_X2_fit_J30 (p0 : Nat) (p1 : Int32) (p2 : Int32)  (S : ha_St) : Option (Int32 × ha_St) :=
  if ¬ ((ha_gI S p0 7) : Int32) = 0 then (f_X2_fit_J42 p0 p1 p2 0 S) else
  (f_X2_fit_J42 p0 p1 p2 1 S)
def f_X2_fit_J24 (p0 : Nat) (p1 : Int32) (p2 : Int32) (v3 : Int32) (S : ha_St) : Option (Int32 × ha_St) :=
  (f_X2_weigh p0 p1 v3 S).bind fun z3 =>
  f_X2_fit_J30 p0 p1 p2  z3
def f_X2_fit (p0 : Nat) (p1 : Int32) (p2 : Int32) (S : ha_St) : Option (Int32 × ha_St) :=
  (f_X2_toldBy p0 p2 S).bind fun z4 =>
  if ¬ (z4.1 : Int32) = (ha_gI z4.2 p0 6) then (f_X2_fit_J24 p0 p1 p2 z4.1 z4.2) else
  (if ((ha_gI z4.2 p0 5) : Int32) = ((p1 : Int32) + 1) then (f_X2_fit_J30 p0 p1 p2  z4.2) else
  (f_X2_fit_J24 p0 p1 p2 z4.1 z4.2))

def f_X2_least (p0 : Nat) (p1 : Int32) (S : ha_St) : Option (Int32 × ha_St) :=
  (ha_rf xo_kd S p0 4 104).bind fun r1 =>
  ha_gd (¬ ((((p1 : Int32) + 1) : Int32) < 0 ∨ xo_ln r1 ≤ (((p1 : Int32) + 1) : Int32).toNatClampNeg)) <|
  (ha_rb xo_kd S r1 (((p1 : Int32) + 1) : Int32).toNatClampNeg 100).bind fun r3 =>
  ha_gd (¬ ((p1 : Int32) < 0 ∨ xo_ln r3 ≤ (p1 : Int32).toNatClampNeg)) <|
  some ((-(ha_gA S r3 (p1 : Int32).toNatClampNeg)), S)

def f_X2_greatest (p0 : Nat) (p1 : Int32) (S : ha_St) : Option (Int32 × ha_St) :=
  (ha_rf xo_kd S p0 4 104).bind fun r1 =>
  ha_gd (¬ ((p1 : Int32) < 0 ∨ xo_ln r1 ≤ (p1 : Int32).toNatClampNeg)) <|
  (ha_rb xo_kd S r1 (p1 : Int32).toNatClampNeg 100).bind fun r3 =>
  ha_gd (¬ ((((p1 : Int32) + 1) : Int32) < 0 ∨ xo_ln r3 ≤ (((p1 : Int32) + 1) : Int32).toNatClampNeg)) <|
  some ((ha_gA S r3 (((p1 : Int32) + 1) : Int32).toNatClampNeg), S)

def f_X11_delay_J70 (p0 : Nat) (p1 : Int32) (p2 : Int32) (p3 : Int32) (k0 : Int32) (S : ha_St) : Option (Int32 × ha_St) :=
  some (k0, S)
def f_X11_delay_J24 (p0 : Nat) (p1 : Int32) (p2 : Int32) (p3 : Int32)  (S : ha_St) : Option (Int32 × ha_St) :=
  some ((-1), S)
def f_X11_delay (p0 : Nat) (p1 : Int32) (p2 : Int32) (p3 : Int32) (S : ha_St) : Option (Int32 × ha_St) :=
  if (p1 : Int32) < 0 then (f_X11_delay_J24 p0 p1 p2 p3  S) else
  ((ha_rf xo_kd S p0 1 1).bind fun r2 =>
  if ((ha_gI S r2 5) : Int32) ≤ p1 then (f_X11_delay_J24 p0 p1 p2 p3  S) else
  (if (p3 : Int32) < 0 then (f_X11_delay_J24 p0 p1 p2 p3  S) else
  (if (p3 : Int32) ≤ 1 then ((ha_rf xo_kd S p0 9 2).bind fun r6 =>
  (ha_rf xo_kd S p0 1 1).bind fun r7 =>
  (f_X2_fit r6 ((ha_gI S r7 5)) p2 S).bind fun z8 =>
  if ¬ (z8.1 : Int32) = 0 then (if ¬ (p3 : Int32) = 0 then ((ha_rf xo_kd z8.2 p0 9 2).bind fun r11 =>
  (f_X2_greatest r11 p1 z8.2).bind fun z12 =>
  f_X11_delay_J70 p0 p1 p2 p3 z12.1 z12.2) else
  ((ha_rf xo_kd z8.2 p0 9 2).bind fun r13 =>
  (f_X2_least r13 p1 z8.2).bind fun z14 =>
  f_X11_delay_J70 p0 p1 p2 p3 z14.1 z14.2)) else
  (some ((-2), z8.2))) else
  (f_X11_delay_J24 p0 p1 p2 p3  S))))

def f_X2_spread (p0 : Nat) (p1 : Int32) (S : ha_St) : Option (Int32 × ha_St) :=
  (f_X2_greatest p0 p1 S).bind fun z1 =>
  (f_X2_least p0 p1 z1.2).bind fun z2 =>
  some (((z1.1 : Int32) - z2.1), z2.2)

def f_X11_look_J63 (p0 : Nat) (p1 : Int32) (v2 : Int32) (S : ha_St) : Option (Int32 × ha_St) :=
  some (v2, S)
def f_X11_look_L25_J57 (p0 : Nat) (p1 : Int32) (self : (Int32 × Int32 × ha_St) → Option (Int32 × ha_St)) (v2 : Int32) (v3 : Int32) (S : ha_St) : Option (Int32 × ha_St) :=
  ha_nm ((v3 : Int32) + 1) fun x5 =>
  self (v2, x5, S)
def f_X11_look_L25 (p0 : Nat) (p1 : Int32) (self : (Int32 × Int32 × ha_St) → Option (Int32 × ha_St)) (v2 : Int32) (v3 : Int32) (S : ha_St) : Option (Int32 × ha_St) :=
  (ha_rf xo_kd S p0 1 1).bind fun r6 =>
  if ((ha_gI S r6 5) : Int32) ≤ v3 then (some (v2, S)) else
  ((ha_rf xo_kd S p0 9 2).bind fun r8 =>
  (f_X2_spread r8 v3 S).bind fun z9 =>
  (ha_rf xo_kd z9.2 p0 9 2).bind fun r10 =>
  (f_X2_spread r10 v2 z9.2).bind fun z11 =>
  if (z9.1 : Int32) ≤ z11.1 then (f_X11_look_L25_J57 p0 p1 self v2 v3 z11.2) else
  (f_X11_look_L25_J57 p0 p1 self v3 v3 z11.2))
def f_X11_look_L25i (p0 : Nat) (p1 : Int32) : Nat → (Int32 × Int32 × ha_St) → Option (Int32 × ha_St) := ha_itr (fun self z => f_X11_look_L25 p0 p1 self z.1 z.2.1 z.2.2)
def f_X11_look (p0 : Nat) (p1 : Int32) (S : ha_St) : Option (Int32 × ha_St) :=
  (ha_rf xo_kd S p0 9 2).bind fun r1 =>
  (ha_rf xo_kd S p0 1 1).bind fun r2 =>
  (f_X2_fit r1 ((ha_gI S r2 5)) p1 S).bind fun z3 =>
  if ¬ (z3.1 : Int32) = 0 then ((f_X11_look_L25i p0 p1 ha_fu (0, 1, z3.2)).bind (fun z => f_X11_look_J63 p0 p1 z.1 z.2)) else
  (some ((-2), z3.2))

def f_X4_take_J113 (p0 : Nat) (p1 : Nat) (p2 : Int32)  (S : ha_St) : Option (Int32 × ha_St) :=
  some (1, S)
def f_X4_take_J49 (p0 : Nat) (p1 : Nat) (p2 : Int32)  (S : ha_St) : Option (Int32 × ha_St) :=
  some (0, S)
def f_X4_take_J11 (p0 : Nat) (p1 : Nat) (p2 : Int32)  (S : ha_St) : Option (Int32 × ha_St) :=
  some (0, S)
def f_X4_take_L65 (p0 : Nat) (p1 : Nat) (p2 : Int32) (self : (Int32 × ha_St) → Option (ha_St)) (v5 : Int32) (S : ha_St) : Option (ha_St) :=
  if ((((ha_gI S p0 2) : Int32) * p2) : Int32) ≤ v5 then (some S) else
  ((ha_rf xo_kd S p0 0 100).bind fun r12 =>
  (ha_rf xo_kd S p1 0 100).bind fun r13 =>
  ha_gd (¬ ((((2 : Int32) * v5) : Int32) < 0 ∨ xo_ln r13 ≤ (((2 : Int32) * v5) : Int32).toNatClampNeg)) <|
  (ha_rf xo_kd S p1 0 100).bind fun r15 =>
  ha_gd (¬ ((((((2 : Int32) * v5) : Int32) + 1) : Int32) < 0 ∨ xo_ln r15 ≤ (((((2 : Int32) * v5) : Int32) + 1) : Int32).toNatClampNeg)) <|
  ha_gd (¬ ((v5 : Int32) < 0 ∨ xo_ln r12 ≤ (v5 : Int32).toNatClampNeg)) <|
  ha_nm (ha_sA S r12 (upd (ha_gA S r12) (v5 : Int32).toNatClampNeg (((((ha_gA S r13 (((2 : Int32) * v5) : Int32).toNatClampNeg) : Int32) <<< ((8 : Int32) &&& 31)) : Int32) ||| (ha_gA S r15 (((((2 : Int32) * v5) : Int32) + 1) : Int32).toNatClampNeg)))) fun S18 =>
  ha_nm ((v5 : Int32) + 1) fun x19 =>
  self (x19, S18))
def f_X4_take_L65i (p0 : Nat) (p1 : Nat) (p2 : Int32) : Nat → (Int32 × ha_St) → Option (ha_St) := ha_itr (fun self z => f_X4_take_L65 p0 p1 p2 self z.1 z.2)
def f_X4_take (p0 : Nat) (p1 : Nat) (p2 : Int32) (S : ha_St) : Option (Int32 × ha_St) :=
  if (p2 : Int32) < 3 then (f_X4_take_J11 p0 p1 p2  S) else
  (if (p2 : Int32) ≤ 14 then (ha_nm (((2 : Int32) * p2) : Int32) fun x3 =>
  ha_gd (¬ (x3 : Int32) = 0) <|
  ha_nm ((((ha_gI S p1 1) : Int32) / x3) : Int32) fun x5 =>
  if (x5 : Int32) < 1 then (f_X4_take_J49 p0 p1 p2  S) else
  (if (8 : Int32) < x5 then (f_X4_take_J49 p0 p1 p2  S) else
  (if (((x5 : Int32) * x3) : Int32) = (ha_gI S p1 1) then (ha_nm (ha_sI S p0 1 p2) fun S9 =>
  ha_nm (ha_sI S9 p0 2 x5) fun S10 =>
  (f_X4_take_L65i p0 p1 p2 ha_fu (0, S10)).bind (fun z => f_X4_take_J113 p0 p1 p2  z)) else
  (f_X4_take_J49 p0 p1 p2  S)))) else
  (f_X4_take_J11 p0 p1 p2  S))

def f_X4_comesThrough_J68 (p0 : Nat) (p1 : Int32) (p2 : Int32) (k0 : Int32) (S : ha_St) : Option (Int32 × ha_St) :=
  ha_gd ((k0 : Int32) = 0 ∨ (k0 : Int32) = 1) <|
  some (k0, S)
def f_X4_comesThrough_J50 (p0 : Nat) (p1 : Int32) (p2 : Int32) (v3 : Int32) (S : ha_St) : Option (Int32 × ha_St) :=
  if (((((v3 : Int32) >>> (((((ha_gI S p0 1) : Int32) - 1) : Int32) &&& 31)) : Int32) &&& 1) : Int32) = 0 then (f_X4_comesThrough_J68 p0 p1 p2 0 S) else
  (f_X4_comesThrough_J68 p0 p1 p2 1 S)
def f_X4_comesThrough_L5_J44 (p0 : Nat) (p1 : Int32) (p2 : Int32) (self : (Int32 × Int32 × ha_St) → Option (Int32 × ha_St)) (v3 : Int32) (v4 : Int32) (S : ha_St) : Option (Int32 × ha_St) :=
  ha_nm ((v4 : Int32) + 1) fun x3 =>
  self (v3, x3, S)
def f_X4_comesThrough_L5 (p0 : Nat) (p1 : Int32) (p2 : Int32) (self : (Int32 × Int32 × ha_St) → Option (Int32 × ha_St)) (v3 : Int32) (v4 : Int32) (S : ha_St) : Option (Int32 × ha_St) :=
  if ((((ha_gI S p0 1) : Int32) - 1) : Int32) ≤ v4 then (some (v3, S)) else
  (if (((((v3 : Int32) >>> ((v4 : Int32) &&& 31)) : Int32) &&& 1) : Int32) = 0 then (f_X4_comesThrough_L5_J44 p0 p1 p2 self v3 v4 S) else
  ((ha_rf xo_kd S p0 0 100).bind fun r6 =>
  ha_gd (¬ ((((((p2 : Int32) * (ha_gI S p0 1)) : Int32) + v4) : Int32) < 0 ∨ xo_ln r6 ≤ (((((p2 : Int32) * (ha_gI S p0 1)) : Int32) + v4) : Int32).toNatClampNeg)) <|
  ha_nm (((v3 : Int32) ||| (((ha_gA S r6 (((((p2 : Int32) * (ha_gI S p0 1)) : Int32) + v4) : Int32).toNatClampNeg) : Int32) &&& p1)) : Int32) fun x8 =>
  f_X4_comesThrough_L5_J44 p0 p1 p2 self x8 v4 S))
def f_X4_comesThrough_L5i (p0 : Nat) (p1 : Int32) (p2 : Int32) : Nat → (Int32 × Int32 × ha_St) → Option (Int32 × ha_St) := ha_itr (fun self z => f_X4_comesThrough_L5 p0 p1 p2 self z.1 z.2.1 z.2.2)
def f_X4_comesThrough (p0 : Nat) (p1 : Int32) (p2 : Int32) (S : ha_St) : Option (Int32 × ha_St) :=
  (f_X4_comesThrough_L5i p0 p1 p2 ha_fu (1, 0, S)).bind (fun z => f_X4_comesThrough_J50 p0 p1 p2 z.1 z.2)

def f_X4_doesEachDay_J27 (p0 : Nat) (p1 : Int32)  (S : ha_St) : Option (Int32 × ha_St) :=
  some (1, S)
def f_X4_doesEachDay_L2 (p0 : Nat) (p1 : Int32) (self : (Int32 × ha_St) → Option ((ha_St) ⊕ (Int32 × ha_St))) (v2 : Int32) (S : ha_St) : Option ((ha_St) ⊕ (Int32 × ha_St)) :=
  if ((ha_gI S p0 2) : Int32) ≤ v2 then (some (.inl S)) else
  ((f_X4_comesThrough p0 p1 v2 S).bind fun z2 =>
  if ¬ (z2.1 : Int32) = 0 then (ha_nm ((v2 : Int32) + 1) fun x4 =>
  self (x4, z2.2)) else
  (some (.inr (0, z2.2))))
def f_X4_doesEachDay_L2i (p0 : Nat) (p1 : Int32) : Nat → (Int32 × ha_St) → Option ((ha_St) ⊕ (Int32 × ha_St)) := ha_itr (fun self z => f_X4_doesEachDay_L2 p0 p1 self z.1 z.2)
def f_X4_doesEachDay (p0 : Nat) (p1 : Int32) (S : ha_St) : Option (Int32 × ha_St) :=
  (f_X4_doesEachDay_L2i p0 p1 ha_fu (0, S)).bind (Sum.elim (fun z => f_X4_doesEachDay_J27 p0 p1  z) (fun r => some r))

def f_X4_fewest_J67 (p0 : Nat) (v2 : Int32) (S : ha_St) : Option (Int32 × ha_St) :=
  some (v2, S)
def f_X4_fewest_L23_J61 (p0 : Nat) (self : (Int32 × Int32 × Int32 × ha_St) → Option (Int32 × ha_St)) (v2 : Int32) (v3 : Int32) (v4 : Int32) (S : ha_St) : Option (Int32 × ha_St) :=
  ha_nm ((v4 : Int32) + 2) fun x3 =>
  self (v2, v3, x3, S)
def f_X4_fewest_L23 (p0 : Nat) (self : (Int32 × Int32 × Int32 × ha_St) → Option (Int32 × ha_St)) (v2 : Int32) (v3 : Int32) (v4 : Int32) (S : ha_St) : Option (Int32 × ha_St) :=
  if (((1 : Int32) <<< (((ha_gI S p0 1) : Int32) &&& 31)) : Int32) ≤ v4 then (some (v2, S)) else
  ((f_J6_bitCount_0f7a4 v4).bind fun z5 =>
  if (v3 : Int32) ≤ z5 then (f_X4_fewest_L23_J61 p0 self v2 v3 v4 S) else
  ((f_X4_doesEachDay p0 v4 S).bind fun z7 =>
  if (z7.1 : Int32) = 0 then (f_X4_fewest_L23_J61 p0 self v2 v3 v4 z7.2) else
  ((f_J6_bitCount_0f7a4 v4).bind fun z9 =>
  f_X4_fewest_L23_J61 p0 self v4 z9 v4 z7.2)))
def f_X4_fewest_L23i (p0 : Nat) : Nat → (Int32 × Int32 × Int32 × ha_St) → Option (Int32 × ha_St) := ha_itr (fun self z => f_X4_fewest_L23 p0 self z.1 z.2.1 z.2.2.1 z.2.2.2)
def f_X4_fewest (p0 : Nat) (S : ha_St) : Option (Int32 × ha_St) :=
  ha_nm (((1 : Int32) ||| ((1 : Int32) <<< (((((ha_gI S p0 1) : Int32) - 1) : Int32) &&& 31))) : Int32) fun x1 =>
  ha_nm ((((ha_gI S p0 1) : Int32) + 1) : Int32) fun x2 =>
  (f_X4_fewest_L23i p0 ha_fu (0, x2, x1, S)).bind (fun z => f_X4_fewest_J67 p0 z.1 z.2)

def f_X11_hills (p0 : Nat) (p1 : Int32) (S : ha_St) : Option (Int32 × ha_St) :=
  (ha_rf xo_kd S p0 10 4).bind fun r1 =>
  (ha_rf xo_kd S p0 0 10).bind fun r2 =>
  (f_X4_take r1 r2 p1 S).bind fun z3 =>
  (ha_rf xo_kd z3.2 p0 0 10).bind fun r4 =>
  ha_nm (ha_sI z3.2 r4 1 0) fun S5 =>
  if ¬ (z3.1 : Int32) = 0 then ((ha_rf xo_kd S5 p0 10 4).bind fun r7 =>
  (f_X4_fewest r7 S5).bind fun z8 =>
  if ¬ (z8.1 : Int32) = 0 then (ha_nm (ha_sI z8.2 p0 16 z8.1) fun S10 =>
  (f_J6_bitCount_0f7a4 z8.1).bind fun z11 =>
  some (z11, S10)) else
  (some ((-1), z8.2))) else
  (some ((-2), S5))

def f_X11_hillSet (p0 : Nat) (S : ha_St) : Option (Int32 × ha_St) :=
  some ((ha_gI S p0 16), S)

def f_X11_count (p0 : Nat) (p1 : Int32) (S : ha_St) : Option (Int32 × ha_St) :=
  ha_nm (p1 : Int32) fun xs =>
  if xs = 0 then (some ((ha_gI S p0 13), S)) else
  (if xs = 1 then ((ha_rf xo_kd S p0 1 1).bind fun r1 =>
  some ((ha_gI S r1 5), S)) else
  (if xs = 2 then ((ha_rf xo_kd S p0 1 1).bind fun r2 =>
  some ((ha_gI S r2 7), S)) else
  (if xs = 3 then ((ha_rf xo_kd S p0 5 3).bind fun r3 =>
  some ((ha_gI S r3 3), S)) else
  (if xs = 4 then ((ha_rf xo_kd S p0 9 2).bind fun r4 =>
  some ((ha_gI S r4 8), S)) else
  (if xs = 5 then ((ha_rf xo_kd S p0 1 1).bind fun r5 =>
  some ((ha_gI S r5 6), S)) else
  (if xs = 6 then ((ha_rf xo_kd S p0 0 10).bind fun r6 =>
  some ((ha_gI S r6 1), S)) else
  (some ((-1), S))))))))

def f_X12_thrown (p0 : Nat) (S : ha_St) : Option (Int32 × ha_St) :=
  some ((ha_gI S p0 0), S)

def f_X12_come_J39 (p0 : Nat) (p1 : Int32)  (S : ha_St) : Option (ha_St) :=
  some S
def f_X12_come_L3 (p0 : Nat) (p1 : Int32) (self : (Int32 × ha_St) → Option (ha_St)) (v2 : Int32) (S : ha_St) : Option (ha_St) :=
  if (v2 : Int32) < 0 then (some S) else
  ((ha_rf mo_kd S p0 1 100).bind fun r2 =>
  ha_gd (¬ (((ha_gI S p0 2) : Int32) < 0 ∨ mo_ln r2 ≤ ((ha_gI S p0 2) : Int32).toNatClampNeg)) <|
  ha_nm (ha_sA S r2 (upd (ha_gA S r2) ((ha_gI S p0 2) : Int32).toNatClampNeg (((ha_ush p1 v2) : Int32) &&& 255))) fun S4 =>
  ha_nm (ha_sI S4 p0 2 (((ha_gI S4 p0 2) : Int32) + 1)) fun S5 =>
  ha_nm ((v2 : Int32) + (-8)) fun x6 =>
  self (x6, S5))
def f_X12_come_L3i (p0 : Nat) (p1 : Int32) : Nat → (Int32 × ha_St) → Option (ha_St) := ha_itr (fun self z => f_X12_come_L3 p0 p1 self z.1 z.2)
def f_X12_come (p0 : Nat) (p1 : Int32) (S : ha_St) : Option (ha_St) :=
  (f_X12_come_L3i p0 p1 ha_fu (24, S)).bind (fun z => f_X12_come_J39 p0 p1  z)

def f_X12_feed (p0 : Nat) (p1 : Int32) (p2 : Int32) (p3 : Int32) (p4 : Int32) (p5 : Int32) (S : ha_St) : Option (Int32 × ha_St) :=
  ha_nm (ha_sI S p0 0 0) fun S1 =>
  if ((((ha_gI S1 p0 2) : Int32) + 20) : Int32) ≤ 440 then ((f_X12_come p0 p1 S1).bind fun z3 =>
  (f_X12_come p0 p2 z3).bind fun z4 =>
  (f_X12_come p0 p3 z4).bind fun z5 =>
  (f_X12_come p0 p4 z5).bind fun z6 =>
  (f_X12_come p0 p5 z6).bind fun z7 =>
  some ((ha_gI z7 p0 2), z7)) else
  (some ((-1), S1))

def f_X12_end_J17 (p0 : Nat) (p1 : Int32)  (S : ha_St) : Option (Int32 × ha_St) :=
  some (0, S)
def f_X12_end (p0 : Nat) (p1 : Int32) (S : ha_St) : Option (Int32 × ha_St) :=
  ha_nm (ha_sI S p0 0 0) fun S1 =>
  if (p1 : Int32) < 0 then (f_X12_end_J17 p0 p1  S1) else
  (if (p1 : Int32) ≤ (ha_gI S1 p0 2) then (ha_nm (ha_sI S1 p0 2 p1) fun S4 =>
  some (1, S4)) else
  (f_X12_end_J17 p0 p1  S1))

def f_X12_take (p0 : Nat) (S : ha_St) : Option (Int32 × ha_St) :=
  ha_nm ((ha_gI S p0 2) : Int32) fun x1 =>
  ha_nm (ha_sI S p0 2 0) fun S2 =>
  some (x1, S2)

def f_X12_isIn_J15 (p0 : Int32) (p1 : Int32) (p2 : Int32) (k0 : Int32) : Option (Int32) :=
  ha_gd ((k0 : Int32) = 0 ∨ (k0 : Int32) = 1) <|
  some k0
def f_X12_isIn_J14 (p0 : Int32) (p1 : Int32) (p2 : Int32)  : Option (Int32) :=
  f_X12_isIn_J15 p0 p1 p2 0
def f_X12_isIn (p0 : Int32) (p1 : Int32) (p2 : Int32) : Option (Int32) :=
  if (p0 : Int32) < p1 then (f_X12_isIn_J14 p0 p1 p2 ) else
  (if (p2 : Int32) < p0 then (f_X12_isIn_J14 p0 p1 p2 ) else
  (f_X12_isIn_J15 p0 p1 p2 1))

def f_X12_next_J28 (p0 : Nat) (p1 : Int32)  (S : ha_St) : Option (Int32 × ha_St) :=
  some ((-1), S)
def f_X12_next (p0 : Nat) (p1 : Int32) (S : ha_St) : Option (Int32 × ha_St) :=
  ha_nm (ha_sI S p0 0 0) fun S1 =>
  (f_X12_isIn p1 0 999).bind fun z2 =>
  if (z2 : Int32) = 0 then (f_X12_next_J28 p0 p1  S1) else
  (if ((((ha_gI S1 p0 3) : Int32) + p1) : Int32) ≤ 999 then (ha_nm (ha_sI S1 p0 3 (((ha_gI S1 p0 3) : Int32) + p1)) fun S5 =>
  some ((ha_gI S5 p0 3), S5)) else
  (f_X12_next_J28 p0 p1  S1))

def f_X12_towers_J29 (p0 : Nat) (p1 : Int32)  (S : ha_St) : Option (Int32 × ha_St) :=
  some (0, S)
def f_X12_towers (p0 : Nat) (p1 : Int32) (S : ha_St) : Option (Int32 × ha_St) :=
  ha_nm (ha_sI S p0 0 0) fun S1 =>
  (f_X12_isIn p1 3 16).bind fun z2 =>
  if (z2 : Int32) = 0 then (f_X12_towers_J29 p0 p1  S1) else
  (if (0 : Int32) < (ha_gI S1 p0 31) then (f_X12_towers_J29 p0 p1  S1) else
  (if ((ha_gI S1 p0 80) : Int32) ≤ 0 then (ha_nm (ha_sI S1 p0 4 p1) fun S6 =>
  some (1, S6)) else
  (f_X12_towers_J29 p0 p1  S1)))

def f_X12_byteAt_J18 (p0 : Nat) (p1 : Int32) (k0 : Int32) (S : ha_St) : Option (Int32 × ha_St) :=
  some (k0, S)
def f_X12_byteAt (p0 : Nat) (p1 : Int32) (S : ha_St) : Option (Int32 × ha_St) :=
  if ((ha_gI S p0 5) : Int32) ≤ p1 then (f_X12_byteAt_J18 p0 p1 0 S) else
  ((ha_rf mo_kd S p0 1 100).bind fun r2 =>
  ha_gd (¬ ((p1 : Int32) < 0 ∨ mo_ln r2 ≤ (p1 : Int32).toNatClampNeg)) <|
  f_X12_byteAt_J18 p0 p1 ((ha_gA S r2 (p1 : Int32).toNatClampNeg)) S)

def f_X12_isDigit_J17 (p0 : Int32) (k0 : Int32) : Option (Int32) :=
  ha_gd ((k0 : Int32) = 0 ∨ (k0 : Int32) = 1) <|
  some k0
def f_X12_isDigit_J16 (p0 : Int32)  : Option (Int32) :=
  f_X12_isDigit_J17 p0 0
def f_X12_isDigit (p0 : Int32) : Option (Int32) :=
  if (p0 : Int32) < 48 then (f_X12_isDigit_J16 p0 ) else
  (if (57 : Int32) < p0 then (f_X12_isDigit_J16 p0 ) else
  (f_X12_isDigit_J17 p0 1))

def f_X12_isLetter_J17 (p0 : Int32) (k0 : Int32) : Option (Int32) :=
  ha_gd ((k0 : Int32) = 0 ∨ (k0 : Int32) = 1) <|
  some k0
def f_X12_isLetter_J16 (p0 : Int32)  : Option (Int32) :=
  f_X12_isLetter_J17 p0 0
def f_X12_isLetter (p0 : Int32) : Option (Int32) :=
  if (p0 : Int32) < 97 then (f_X12_isLetter_J16 p0 ) else
  (if (122 : Int32) < p0 then (f_X12_isLetter_J16 p0 ) else
  (f_X12_isLetter_J17 p0 1))

def f_X12_isMark_J47 (p0 : Int32) (k0 : Int32) : Option (Int32) :=
  ha_gd ((k0 : Int32) = 0 ∨ (k0 : Int32) = 1) <|
  some k0
def f_X12_isMark_J42 (p0 : Int32)  : Option (Int32) :=
  f_X12_isMark_J47 p0 1
def f_X12_isMark (p0 : Int32) : Option (Int32) :=
  if (p0 : Int32) = 59 then (f_X12_isMark_J42 p0 ) else
  (if (p0 : Int32) = 44 then (f_X12_isMark_J42 p0 ) else
  (if (p0 : Int32) = 43 then (f_X12_isMark_J42 p0 ) else
  (if (p0 : Int32) = 60 then (f_X12_isMark_J42 p0 ) else
  (if (p0 : Int32) = 61 then (f_X12_isMark_J42 p0 ) else
  (if (p0 : Int32) = 62 then (f_X12_isMark_J42 p0 ) else
  (if ¬ (p0 : Int32) = 35 then (f_X12_isMark_J47 p0 0) else
  (f_X12_isMark_J42 p0 )))))))

def f_X12_go_J356 (p0 : Nat) (k0 : Nat) (k1 : Int32) (S : ha_St) : Option (ha_St) :=
  ha_nm (ha_sI S k0 8 k1) fun S1 =>
  some S1
def f_X12_go_J343 (p0 : Nat) (k0 : Nat) (S : ha_St) : Option (ha_St) :=
  f_X12_go_J356 p0 k0 1 S
def f_X12_go_J340 (p0 : Nat) (v2 : Int32) (k0 : Nat) (k1 : Int32) (k2 : Int32) (S : ha_St) : Option (ha_St) :=
  if (k1 : Int32) ≤ k2 then (if (v2 : Int32) = 0 then (f_X12_go_J356 p0 k0 3 S) else
  (f_X12_go_J356 p0 k0 2 S)) else
  (f_X12_go_J343 p0 k0 S)
def f_X12_go_J317 (p0 : Nat) (v2 : Int32) (v3 : Int32) (S : ha_St) : Option (ha_St) :=
  if (v3 : Int32) = 0 then (f_X12_go_J343 p0 p0 S) else
  (if (v2 : Int32) = 0 then (f_X12_go_J340 p0 v2 p0 ((((ha_gI S p0 6) : Int32) - (ha_gI S p0 7))) 2 S) else
  (f_X12_go_J340 p0 v2 p0 ((((ha_gI S p0 6) : Int32) - (ha_gI S p0 7))) 5 S))
def f_X12_go_L183_J304 (p0 : Nat) (self : (Int32 × Int32 × ha_St) → Option (Int32 × Int32 × ha_St)) (v2 : Int32) (v3 : Int32) (S : ha_St) : Option (Int32 × Int32 × ha_St) :=
  ha_nm (ha_sI S p0 6 (((ha_gI S p0 6) : Int32) + 1)) fun S9 =>
  self (v2, v3, S9)
def f_X12_go_L183_J274 (p0 : Nat) (self : (Int32 × Int32 × ha_St) → Option (Int32 × Int32 × ha_St)) (v2 : Int32) (v3 : Int32) (v4 : Int32) (S : ha_St) : Option (Int32 × Int32 × ha_St) :=
  if (2 : Int32) ≤ (((ha_gI S p0 6) : Int32) - (ha_gI S p0 7)) then (f_X12_go_L183_J304 p0 self v2 v3 S) else
  (ha_nm (ha_sI S p0 9 ((((((10 : Int32) * (ha_gI S p0 9)) : Int32) + v4) : Int32) - 48)) fun S11 =>
  f_X12_go_L183_J304 p0 self v2 v3 S11)
def f_X12_go_L183_J240 (p0 : Nat) (self : (Int32 × Int32 × ha_St) → Option (Int32 × Int32 × ha_St)) (v2 : Int32) (v4 : Int32) (k0 : Int32) (S : ha_St) : Option (Int32 × Int32 × ha_St) :=
  if (5 : Int32) ≤ (((ha_gI S p0 6) : Int32) - (ha_gI S p0 7)) then (f_X12_go_L183_J274 p0 self v2 k0 v4 S) else
  (ha_nm (ha_sJ S p0 13 ((((((27 : Int64) * (ha_gJ S p0 13)) : Int64) + ((v4 : Int32).toInt64)) : Int64) - 96)) fun S13 =>
  f_X12_go_L183_J274 p0 self v2 k0 v4 S13)
def f_X12_go_L183_J239 (p0 : Nat) (self : (Int32 × Int32 × ha_St) → Option (Int32 × Int32 × ha_St)) (v2 : Int32) (v4 : Int32) (S : ha_St) : Option (Int32 × Int32 × ha_St) :=
  f_X12_go_L183_J240 p0 self v2 v4 0 S
def f_X12_go_L183_J211 (p0 : Nat) (self : (Int32 × Int32 × ha_St) → Option (Int32 × Int32 × ha_St)) (v2 : Int32) (v3 : Int32) (S : ha_St) : Option (Int32 × Int32 × ha_St) :=
  (ha_rf mo_kd S p0 1 100).bind fun r14 =>
  ha_gd (¬ (((ha_gI S p0 6) : Int32) < 0 ∨ mo_ln r14 ≤ ((ha_gI S p0 6) : Int32).toNatClampNeg)) <|
  ha_nm ((ha_gA S r14 ((ha_gI S p0 6) : Int32).toNatClampNeg) : Int32) fun x16 =>
  if (v3 : Int32) = 0 then (f_X12_go_L183_J239 p0 self v2 x16 S) else
  ((f_X12_isLetter x16).bind fun z18 =>
  if ¬ (z18 : Int32) = v2 then (f_X12_go_L183_J239 p0 self v2 x16 S) else
  (f_X12_go_L183_J240 p0 self v2 x16 1 S))
def f_X12_go_L183 (p0 : Nat) (self : (Int32 × Int32 × ha_St) → Option (Int32 × Int32 × ha_St)) (v2 : Int32) (v3 : Int32) (S : ha_St) : Option (Int32 × Int32 × ha_St) :=
  (f_X12_byteAt p0 ((ha_gI S p0 6)) S).bind fun z20 =>
  (f_X12_isLetter z20.1).bind fun z21 =>
  if ¬ (z21 : Int32) = 0 then (f_X12_go_L183_J211 p0 self v2 v3 z20.2) else
  ((f_X12_byteAt p0 ((ha_gI z20.2 p0 6)) z20.2).bind fun z23 =>
  (f_X12_isDigit z23.1).bind fun z24 =>
  if (z24 : Int32) = 0 then (some (v2, v3, z23.2)) else
  (f_X12_go_L183_J211 p0 self v2 v3 z23.2))
def f_X12_go_L183i (p0 : Nat) : Nat → (Int32 × Int32 × ha_St) → Option (Int32 × Int32 × ha_St) := ha_itr (fun self z => f_X12_go_L183 p0 self z.1 z.2.1 z.2.2)
def f_X12_go_J166 (p0 : Nat) (v1 : Int32) (S : ha_St) : Option (ha_St) :=
  (f_X12_isLetter v1).bind fun z6 =>
  ha_nm (ha_sJ S p0 13 0) fun S7 =>
  ha_nm (ha_sI S7 p0 9 0) fun S8 =>
  (f_X12_go_L183i p0 ha_fu (z6, 1, S8)).bind (fun z => f_X12_go_J317 p0 z.1 z.2.1 z.2.2)
def f_X12_go_J147 (p0 : Nat) (v1 : Int32) (k0 : Nat) (k1 : Int32) (S : ha_St) : Option (ha_St) :=
  ha_nm (ha_sI S k0 8 k1) fun S28 =>
  ha_nm (ha_sI S28 p0 10 v1) fun S29 =>
  ha_nm (ha_sI S29 p0 6 (((ha_gI S29 p0 6) : Int32) + 1)) fun S30 =>
  some S30
def f_X12_go_J93 (p0 : Nat)  (S : ha_St) : Option (ha_St) :=
  if ((ha_gI S p0 6) : Int32) < (ha_gI S p0 5) then ((ha_rf mo_kd S p0 1 100).bind fun r32 =>
  ha_gd (¬ (((ha_gI S p0 6) : Int32) < 0 ∨ mo_ln r32 ≤ ((ha_gI S p0 6) : Int32).toNatClampNeg)) <|
  ha_nm ((ha_gA S r32 ((ha_gI S p0 6) : Int32).toNatClampNeg) : Int32) fun x34 =>
  (f_X12_isLetter x34).bind fun z35 =>
  if ¬ (z35 : Int32) = 0 then (f_X12_go_J166 p0 x34 S) else
  ((f_X12_isDigit x34).bind fun z37 =>
  if ¬ (z37 : Int32) = 0 then (f_X12_go_J166 p0 x34 S) else
  ((f_X12_isMark x34).bind fun z39 =>
  if (z39 : Int32) = 0 then (f_X12_go_J147 p0 x34 p0 1 S) else
  (f_X12_go_J147 p0 x34 p0 4 S)))) else
  (ha_nm (ha_sI S p0 8 0) fun S41 =>
  some S41)
def f_X12_go_J52 (p0 : Nat)  (S : ha_St) : Option (ha_St) :=
  ha_nm (ha_sI S p0 7 (ha_gI S p0 6)) fun S42 =>
  if ((ha_gI S42 p0 5) : Int32) ≤ 400 then (f_X12_go_J93 p0  S42) else
  (if ((ha_gI S42 p0 7) : Int32) < 400 then (f_X12_go_J93 p0  S42) else
  (ha_nm (ha_sI S42 p0 7 400) fun S45 =>
  ha_nm (ha_sI S45 p0 8 1) fun S46 =>
  some S46))
def f_X12_go_L0_J39 (p0 : Nat) (self : (ha_St) → Option (ha_St))  (S : ha_St) : Option (ha_St) :=
  ha_nm (ha_sI S p0 6 (((ha_gI S p0 6) : Int32) + 1)) fun S47 =>
  self S47
def f_X12_go_L0 (p0 : Nat) (self : (ha_St) → Option (ha_St))  (S : ha_St) : Option (ha_St) :=
  if ((ha_gI S p0 5) : Int32) ≤ (ha_gI S p0 6) then (some S) else
  ((ha_rf mo_kd S p0 1 100).bind fun r49 =>
  ha_gd (¬ (((ha_gI S p0 6) : Int32) < 0 ∨ mo_ln r49 ≤ ((ha_gI S p0 6) : Int32).toNatClampNeg)) <|
  if ((ha_gA S r49 ((ha_gI S p0 6) : Int32).toNatClampNeg) : Int32) = 32 then (f_X12_go_L0_J39 p0 self  S) else
  ((ha_rf mo_kd S p0 1 100).bind fun r52 =>
  ha_gd (¬ (((ha_gI S p0 6) : Int32) < 0 ∨ mo_ln r52 ≤ ((ha_gI S p0 6) : Int32).toNatClampNeg)) <|
  if ¬ ((ha_gA S r52 ((ha_gI S p0 6) : Int32).toNatClampNeg) : Int32) = 10 then (some S) else
  (f_X12_go_L0_J39 p0 self  S)))
def f_X12_go_L0i (p0 : Nat) : Nat → (ha_St) → Option (ha_St) := ha_itr (fun self z => f_X12_go_L0 p0 self z)
def f_X12_go (p0 : Nat) (S : ha_St) : Option (ha_St) :=
  (f_X12_go_L0i p0 ha_fu S).bind (fun z => f_X12_go_J52 p0  z)

def f_X12_spelt_J81 (p0 : Int32) (p1 : Int32) (p2 : Int32) (p3 : Int32) (p4 : Int32) (k0 : Int64) : Option (Int64) :=
  some k0
def f_X12_spelt_J57 (p0 : Int32) (p1 : Int32) (p2 : Int32) (p3 : Int32) (p4 : Int32) (v5 : Int64) : Option (Int64) :=
  if (p4 : Int32) ≤ 0 then (f_X12_spelt_J81 p0 p1 p2 p3 p4 v5) else
  (f_X12_spelt_J81 p0 p1 p2 p3 p4 (((((((27 : Int64) * v5) : Int64) + ((p4 : Int32).toInt64)) : Int64) - 96)))
def f_X12_spelt_J38 (p0 : Int32) (p1 : Int32) (p2 : Int32) (p3 : Int32) (p4 : Int32) (v5 : Int64) : Option (Int64) :=
  if (p3 : Int32) ≤ 0 then (f_X12_spelt_J57 p0 p1 p2 p3 p4 v5) else
  (ha_nm (((((((27 : Int64) * v5) : Int64) + ((p3 : Int32).toInt64)) : Int64) - 96) : Int64) fun x3 =>
  f_X12_spelt_J57 p0 p1 p2 p3 p4 x3)
def f_X12_spelt (p0 : Int32) (p1 : Int32) (p2 : Int32) (p3 : Int32) (p4 : Int32) : Option (Int64) :=
  ha_nm (((((((27 : Int64) * ((((p0 : Int32).toInt64) : Int64) - 96)) : Int64) + ((p1 : Int32).toInt64)) : Int64) - 96) : Int64) fun x4 =>
  if (p2 : Int32) ≤ 0 then (f_X12_spelt_J38 p0 p1 p2 p3 p4 x4) else
  (ha_nm (((((((27 : Int64) * x4) : Int64) + ((p2 : Int32).toInt64)) : Int64) - 96) : Int64) fun x6 =>
  f_X12_spelt_J38 p0 p1 p2 p3 p4 x6)

def f_X12_isKey_J22 (p0 : Nat) (p1 : Int64) (k0 : Int32) (S : ha_St) : Option (Int32 × ha_St) :=
  ha_gd ((k0 : Int32) = 0 ∨ (k0 : Int32) = 1) <|
  some (k0, S)
def f_X12_isKey_J21 (p0 : Nat) (p1 : Int64)  (S : ha_St) : Option (Int32 × ha_St) :=
  f_X12_isKey_J22 p0 p1 0 S
def f_X12_isKey (p0 : Nat) (p1 : Int64) (S : ha_St) : Option (Int32 × ha_St) :=
  if ¬ ((ha_gI S p0 8) : Int32) = 2 then (f_X12_isKey_J21 p0 p1  S) else
  (if ¬ ((lg_cmp (ha_gJ S p0 13) p1) : Int32) = 0 then (f_X12_isKey_J21 p0 p1  S) else
  (f_X12_isKey_J22 p0 p1 1 S))

def f_X12_bad_J14 (p0 : Nat) (p1 : Int32) (k0 : Nat) (k1 : Int32) (S : ha_St) : Option (Int32 × ha_St) :=
  ha_nm (ha_sI S k0 11 k1) fun S1 =>
  ha_nm (ha_sI S1 p0 12 (ha_gI S1 p0 7)) fun S2 =>
  some (0, S2)
def f_X12_bad (p0 : Nat) (p1 : Int32) (S : ha_St) : Option (Int32 × ha_St) :=
  if ¬ ((ha_gI S p0 8) : Int32) = 1 then (f_X12_bad_J14 p0 p1 p0 p1 S) else
  (f_X12_bad_J14 p0 p1 p0 1 S)

def f_X12_isSign_J21 (p0 : Nat) (p1 : Int32) (k0 : Int32) (S : ha_St) : Option (Int32 × ha_St) :=
  ha_gd ((k0 : Int32) = 0 ∨ (k0 : Int32) = 1) <|
  some (k0, S)
def f_X12_isSign_J20 (p0 : Nat) (p1 : Int32)  (S : ha_St) : Option (Int32 × ha_St) :=
  f_X12_isSign_J21 p0 p1 0 S
def f_X12_isSign (p0 : Nat) (p1 : Int32) (S : ha_St) : Option (Int32 × ha_St) :=
  if ¬ ((ha_gI S p0 8) : Int32) = 4 then (f_X12_isSign_J20 p0 p1  S) else
  (if ¬ ((ha_gI S p0 10) : Int32) = p1 then (f_X12_isSign_J20 p0 p1  S) else
  (f_X12_isSign_J21 p0 p1 1 S))

def f_X12_readKey (p0 : Nat) (p1 : Int64) (S : ha_St) : Option (Int32 × ha_St) :=
  (f_X12_isKey p0 p1 S).bind fun z1 =>
  if ¬ (z1.1 : Int32) = 0 then ((f_X12_go p0 z1.2).bind fun z3 =>
  some (1, z3)) else
  ((f_X12_bad p0 1 z1.2).bind fun z4 =>
  ha_gd ((z4.1 : Int32) = 0 ∨ (z4.1 : Int32) = 1) <|
  some (z4.1, z4.2))

def f_X12_isCell_J33 (p0 : Nat) (k0 : Int32) (S : ha_St) : Option (Int32 × ha_St) :=
  ha_gd ((k0 : Int32) = 0 ∨ (k0 : Int32) = 1) <|
  some (k0, S)
def f_X12_isCell_J32 (p0 : Nat)  (S : ha_St) : Option (Int32 × ha_St) :=
  f_X12_isCell_J33 p0 0 S
def f_X12_isCell (p0 : Nat) (S : ha_St) : Option (Int32 × ha_St) :=
  if ¬ ((ha_gI S p0 8) : Int32) = 2 then (f_X12_isCell_J32 p0  S) else
  (if ((lg_cmp (ha_gJ S p0 13) 1) : Int32) < 0 then (f_X12_isCell_J32 p0  S) else
  (if (0 : Int32) < (lg_cmp (ha_gJ S p0 13) 4) then (f_X12_isCell_J32 p0  S) else
  (f_X12_isCell_J33 p0 1 S)))

def f_X12_readValue_J218 (p0 : Nat)  (S : ha_St) : Option (Int32 × ha_St) :=
  (f_X12_go p0 S).bind fun z1 =>
  some (1, z1)
def f_X12_readValue (p0 : Nat) (S : ha_St) : Option (Int32 × ha_St) :=
  if ¬ ((ha_gI S p0 8) : Int32) = 3 then ((f_X12_isCell p0 S).bind fun z3 =>
  if (z3.1 : Int32) = 0 then ((f_X12_spelt 108 101 102 116 0).bind fun z5 =>
  (f_X12_isKey p0 z5 z3.2).bind fun z6 =>
  if (z6.1 : Int32) = 0 then ((f_X12_spelt 114 105 103 104 116).bind fun z8 =>
  (f_X12_isKey p0 z8 z6.2).bind fun z9 =>
  if (z9.1 : Int32) = 0 then ((f_X12_spelt 111 119 110 0 0).bind fun z11 =>
  (f_X12_isKey p0 z11 z9.2).bind fun z12 =>
  if (z12.1 : Int32) = 0 then ((f_X12_spelt 116 105 109 101 0).bind fun z14 =>
  (f_X12_isKey p0 z14 z12.2).bind fun z15 =>
  if (z15.1 : Int32) = 0 then ((f_X12_spelt 119 111 114 100 0).bind fun z17 =>
  (f_X12_isKey p0 z17 z15.2).bind fun z18 =>
  if (z18.1 : Int32) = 0 then ((f_X12_spelt 98 108 105 110 100).bind fun z20 =>
  (f_X12_isKey p0 z20 z18.2).bind fun z21 =>
  if (z21.1 : Int32) = 0 then ((f_X12_bad p0 1 z21.2).bind fun z23 =>
  ha_gd ((z23.1 : Int32) = 0 ∨ (z23.1 : Int32) = 1) <|
  some (z23.1, z23.2)) else
  (ha_nm (ha_sI z21.2 p0 25 105) fun S25 =>
  f_X12_readValue_J218 p0  S25)) else
  (ha_nm (ha_sI z18.2 p0 25 104) fun S26 =>
  f_X12_readValue_J218 p0  S26)) else
  (ha_nm (ha_sI z15.2 p0 25 103) fun S27 =>
  f_X12_readValue_J218 p0  S27)) else
  (ha_nm (ha_sI z12.2 p0 25 102) fun S28 =>
  f_X12_readValue_J218 p0  S28)) else
  (ha_nm (ha_sI z9.2 p0 25 101) fun S29 =>
  f_X12_readValue_J218 p0  S29)) else
  (ha_nm (ha_sI z6.2 p0 25 100) fun S30 =>
  f_X12_readValue_J218 p0  S30)) else
  (ha_nm (ha_sI z3.2 p0 25 ((((106 : Int32) + (((ha_gJ z3.2 p0 13) : Int64).toInt32)) : Int32) - 1)) fun S31 =>
  f_X12_readValue_J218 p0  S31)) else
  (ha_nm (ha_sI S p0 25 (ha_gI S p0 9)) fun S32 =>
  f_X12_readValue_J218 p0  S32)

def f_X12_isValue_J145 (p0 : Nat) (k0 : Int32) (S : ha_St) : Option (Int32 × ha_St) :=
  ha_gd ((k0 : Int32) = 0 ∨ (k0 : Int32) = 1) <|
  some (k0, S)
def f_X12_isValue_J140 (p0 : Nat)  (S : ha_St) : Option (Int32 × ha_St) :=
  f_X12_isValue_J145 p0 1 S
def f_X12_isValue_J120 (p0 : Nat) (k0 : Int32) (S : ha_St) : Option (Int32 × ha_St) :=
  if ((ha_gI S p0 8) : Int32) = 3 then (f_X12_isValue_J140 p0  S) else
  ((f_X12_isCell p0 S).bind fun z3 =>
  if ¬ (z3.1 : Int32) = 0 then (f_X12_isValue_J140 p0  z3.2) else
  (if (k0 : Int32) = 0 then (f_X12_isValue_J145 p0 0 z3.2) else
  (f_X12_isValue_J140 p0  z3.2)))
def f_X12_isValue_J115 (p0 : Nat)  (S : ha_St) : Option (Int32 × ha_St) :=
  f_X12_isValue_J120 p0 1 S
def f_X12_isValue (p0 : Nat) (S : ha_St) : Option (Int32 × ha_St) :=
  (f_X12_spelt 108 101 102 116 0).bind fun z6 =>
  (f_X12_isKey p0 z6 S).bind fun z7 =>
  if ¬ (z7.1 : Int32) = 0 then (f_X12_isValue_J115 p0  z7.2) else
  ((f_X12_spelt 114 105 103 104 116).bind fun z9 =>
  (f_X12_isKey p0 z9 z7.2).bind fun z10 =>
  if ¬ (z10.1 : Int32) = 0 then (f_X12_isValue_J115 p0  z10.2) else
  ((f_X12_spelt 111 119 110 0 0).bind fun z12 =>
  (f_X12_isKey p0 z12 z10.2).bind fun z13 =>
  if ¬ (z13.1 : Int32) = 0 then (f_X12_isValue_J115 p0  z13.2) else
  ((f_X12_spelt 116 105 109 101 0).bind fun z15 =>
  (f_X12_isKey p0 z15 z13.2).bind fun z16 =>
  if ¬ (z16.1 : Int32) = 0 then (f_X12_isValue_J115 p0  z16.2) else
  ((f_X12_spelt 119 111 114 100 0).bind fun z18 =>
  (f_X12_isKey p0 z18 z16.2).bind fun z19 =>
  if ¬ (z19.1 : Int32) = 0 then (f_X12_isValue_J115 p0  z19.2) else
  ((f_X12_spelt 98 108 105 110 100).bind fun z21 =>
  (f_X12_isKey p0 z21 z19.2).bind fun z22 =>
  if (z22.1 : Int32) = 0 then (f_X12_isValue_J120 p0 0 z22.2) else
  (f_X12_isValue_J115 p0  z22.2))))))

def f_X12_readOne_J93 (p0 : Nat) (v1 : Int32) (S : ha_St) : Option (Int32 × ha_St) :=
  (ha_rf mo_kd S p0 18 100).bind fun r1 =>
  ha_gd (¬ ((v1 : Int32) < 0 ∨ mo_ln r1 ≤ (v1 : Int32).toNatClampNeg)) <|
  ha_nm (ha_sA S r1 (upd (ha_gA S r1) (v1 : Int32).toNatClampNeg (ha_gI S p0 10))) fun S3 =>
  (f_X12_go p0 S3).bind fun z4 =>
  (f_X12_readValue p0 z4).bind fun z5 =>
  if ¬ (z5.1 : Int32) = 0 then ((ha_rf mo_kd z5.2 p0 19 100).bind fun r7 =>
  ha_gd (¬ ((v1 : Int32) < 0 ∨ mo_ln r7 ≤ (v1 : Int32).toNatClampNeg)) <|
  ha_nm (ha_sA z5.2 r7 (upd (ha_gA z5.2 r7) (v1 : Int32).toNatClampNeg (ha_gI z5.2 p0 25))) fun S9 =>
  ha_nm (ha_sI S9 p0 23 (((ha_gI S9 p0 23) : Int32) + 1)) fun S10 =>
  some (1, S10)) else
  (some (0, z5.2))
def f_X12_readOne (p0 : Nat) (S : ha_St) : Option (Int32 × ha_St) :=
  (f_X12_isValue p0 S).bind fun z11 =>
  if ¬ (z11.1 : Int32) = 0 then (if ¬ ((ha_gI z11.2 p0 23) : Int32) = 40 then (ha_nm (((120 : Int32) + (ha_gI z11.2 p0 23)) : Int32) fun x14 =>
  (f_X12_readValue p0 z11.2).bind fun z15 =>
  (ha_rf mo_kd z15.2 p0 17 100).bind fun r16 =>
  ha_gd (¬ ((x14 : Int32) < 0 ∨ mo_ln r16 ≤ (x14 : Int32).toNatClampNeg)) <|
  ha_nm (ha_sA z15.2 r16 (upd (ha_gA z15.2 r16) (x14 : Int32).toNatClampNeg (ha_gI z15.2 p0 25))) fun S18 =>
  (f_X12_isSign p0 60 S18).bind fun z19 =>
  if ¬ (z19.1 : Int32) = 0 then (f_X12_readOne_J93 p0 x14 z19.2) else
  ((f_X12_isSign p0 61 z19.2).bind fun z21 =>
  if ¬ (z21.1 : Int32) = 0 then (f_X12_readOne_J93 p0 x14 z21.2) else
  ((f_X12_isSign p0 62 z21.2).bind fun z23 =>
  if ¬ (z23.1 : Int32) = 0 then (f_X12_readOne_J93 p0 x14 z23.2) else
  ((f_X12_isSign p0 35 z23.2).bind fun z25 =>
  if ¬ (z25.1 : Int32) = 0 then (f_X12_readOne_J93 p0 x14 z25.2) else
  ((f_X12_bad p0 1 z25.2).bind fun z27 =>
  ha_gd ((z27.1 : Int32) = 0 ∨ (z27.1 : Int32) = 1) <|
  some (z27.1, z27.2)))))) else
  ((f_X12_bad p0 2 z11.2).bind fun z29 =>
  ha_gd ((z29.1 : Int32) = 0 ∨ (z29.1 : Int32) = 1) <|
  some (z29.1, z29.2))) else
  ((f_X12_bad p0 1 z11.2).bind fun z31 =>
  ha_gd ((z31.1 : Int32) = 0 ∨ (z31.1 : Int32) = 1) <|
  some (z31.1, z31.2))

def f_X12_readSum (p0 : Nat) (p1 : Int32) (S : ha_St) : Option (Int32 × ha_St) :=
  (f_X12_readValue p0 S).bind fun z1 =>
  if ¬ (z1.1 : Int32) = 0 then ((ha_rf mo_kd z1.2 p0 21 100).bind fun r3 =>
  ha_gd (¬ ((p1 : Int32) < 0 ∨ mo_ln r3 ≤ (p1 : Int32).toNatClampNeg)) <|
  ha_nm (ha_sA z1.2 r3 (upd (ha_gA z1.2 r3) (p1 : Int32).toNatClampNeg (ha_gI z1.2 p0 25))) fun S5 =>
  (ha_rf mo_kd S5 p0 22 100).bind fun r6 =>
  ha_gd (¬ ((p1 : Int32) < 0 ∨ mo_ln r6 ≤ (p1 : Int32).toNatClampNeg)) <|
  ha_nm (ha_sA S5 r6 (upd (ha_gA S5 r6) (p1 : Int32).toNatClampNeg (-1))) fun S8 =>
  (f_X12_isSign p0 43 S8).bind fun z9 =>
  if ¬ (z9.1 : Int32) = 0 then ((f_X12_go p0 z9.2).bind fun z11 =>
  (f_X12_readValue p0 z11).bind fun z12 =>
  if ¬ (z12.1 : Int32) = 0 then ((ha_rf mo_kd z12.2 p0 22 100).bind fun r14 =>
  ha_gd (¬ ((p1 : Int32) < 0 ∨ mo_ln r14 ≤ (p1 : Int32).toNatClampNeg)) <|
  ha_nm (ha_sA z12.2 r14 (upd (ha_gA z12.2 r14) (p1 : Int32).toNatClampNeg (ha_gI z12.2 p0 25))) fun S16 =>
  some (1, S16)) else
  (some (0, z12.2))) else
  (some (1, z9.2))) else
  (some (0, z1.2))

def f_X12_readAct_J187 (p0 : Nat)  (S : ha_St) : Option (Int32 × ha_St) :=
  ha_nm (ha_sI S p0 24 (((ha_gI S p0 24) : Int32) + 1)) fun S1 =>
  some (1, S1)
def f_X12_readAct_J172 (p0 : Nat) (v3 : Int32) (v5 : Int32) (S : ha_St) : Option (Int32 × ha_St) :=
  if ¬ (v3 : Int32) = 0 then (f_X12_readAct_J187 p0  S) else
  ((f_X12_readSum p0 v5 S).bind fun z3 =>
  if ¬ (z3.1 : Int32) = 0 then (f_X12_readAct_J187 p0  z3.2) else
  (some (0, z3.2)))
def f_X12_readAct_J143 (p0 : Nat) (v3 : Int32) (v4 : Int32) (v5 : Int32) (k0 : Nat) (k1 : Int32) (k2 : Int32) (S : ha_St) : Option (Int32 × ha_St) :=
  ha_gd (¬ ((k1 : Int32) < 0 ∨ mo_ln k0 ≤ (k1 : Int32).toNatClampNeg)) <|
  ha_nm (ha_sA S k0 (upd (ha_gA S k0) (k1 : Int32).toNatClampNeg k2)) fun S6 =>
  (f_X12_go p0 S6).bind fun z7 =>
  if (v4 : Int32) = 0 then (f_X12_readAct_J172 p0 v3 v5 z7) else
  ((f_X12_spelt 105 115 0 0 0).bind fun z9 =>
  (f_X12_readKey p0 z9 z7).bind fun z10 =>
  if ¬ (z10.1 : Int32) = 0 then (f_X12_readAct_J172 p0 v3 v5 z10.2) else
  (some (0, z10.2)))
def f_X12_readAct_J81 (p0 : Nat) (v1 : Int32) (v2 : Int32) (v3 : Int32) (v4 : Int32) (S : ha_St) : Option (Int32 × ha_St) :=
  if ¬ ((ha_gI S p0 24) : Int32) = 40 then (ha_nm (((120 : Int32) + (ha_gI S p0 24)) : Int32) fun x13 =>
  (ha_rf mo_kd S p0 20 100).bind fun r14 =>
  if (v1 : Int32) = 0 then (if (v2 : Int32) = 0 then (if (v3 : Int32) = 0 then (f_X12_readAct_J143 p0 v3 v4 x13 r14 x13 ((((((ha_gJ S p0 13) : Int64).toInt32) : Int32) - 1)) S) else
  (f_X12_readAct_J143 p0 v3 v4 x13 r14 x13 6 S)) else
  (f_X12_readAct_J143 p0 v3 v4 x13 r14 x13 5 S)) else
  (f_X12_readAct_J143 p0 v3 v4 x13 r14 x13 4 S)) else
  ((f_X12_bad p0 2 S).bind fun z18 =>
  ha_gd ((z18.1 : Int32) = 0 ∨ (z18.1 : Int32) = 1) <|
  some (z18.1, z18.2))
def f_X12_readAct (p0 : Nat) (S : ha_St) : Option (Int32 × ha_St) :=
  (f_X12_spelt 115 104 111 119 0).bind fun z20 =>
  (f_X12_isKey p0 z20 S).bind fun z21 =>
  (f_X12_spelt 119 114 105 116 101).bind fun z22 =>
  (f_X12_isKey p0 z22 z21.2).bind fun z23 =>
  (f_X12_spelt 115 101 110 116 0).bind fun z24 =>
  (f_X12_isKey p0 z24 z23.2).bind fun z25 =>
  (f_X12_isCell p0 z25.2).bind fun z26 =>
  if ¬ (z21.1 : Int32) = 0 then (f_X12_readAct_J81 p0 z21.1 z23.1 z25.1 z26.1 z26.2) else
  (if ¬ (z23.1 : Int32) = 0 then (f_X12_readAct_J81 p0 z21.1 z23.1 z25.1 z26.1 z26.2) else
  (if ¬ (z25.1 : Int32) = 0 then (f_X12_readAct_J81 p0 z21.1 z23.1 z25.1 z26.1 z26.2) else
  (if ¬ (z26.1 : Int32) = 0 then (f_X12_readAct_J81 p0 z21.1 z23.1 z25.1 z26.1 z26.2) else
  ((f_X12_bad p0 1 z26.2).bind fun z31 =>
  ha_gd ((z31.1 : Int32) = 0 ∨ (z31.1 : Int32) = 1) <|
  some (z31.1, z31.2)))))

def f_X12_readRule_J120 (p0 : Nat) (v1 : Int32) (S : ha_St) : Option (Int32 × ha_St) :=
  (f_X12_isSign p0 59 S).bind fun z1 =>
  if ¬ (z1.1 : Int32) = 0 then ((f_X12_go p0 z1.2).bind fun z3 =>
  (ha_rf mo_kd z3 p0 15 100).bind fun r4 =>
  ha_gd (¬ ((((60 : Int32) + v1) : Int32) < 0 ∨ mo_ln r4 ≤ (((60 : Int32) + v1) : Int32).toNatClampNeg)) <|
  ha_nm (ha_sA z3 r4 (upd (ha_gA z3 r4) (((60 : Int32) + v1) : Int32).toNatClampNeg (ha_gI z3 p0 23))) fun S6 =>
  (ha_rf mo_kd S6 p0 16 100).bind fun r7 =>
  ha_gd (¬ ((((60 : Int32) + v1) : Int32) < 0 ∨ mo_ln r7 ≤ (((60 : Int32) + v1) : Int32).toNatClampNeg)) <|
  ha_nm (ha_sA S6 r7 (upd (ha_gA S6 r7) (((60 : Int32) + v1) : Int32).toNatClampNeg (ha_gI S6 p0 24))) fun S9 =>
  (ha_rf mo_kd S9 p0 14 100).bind fun r10 =>
  ha_gd (¬ ((3 : Int32) < 0 ∨ mo_ln r10 ≤ (3 : Int32).toNatClampNeg)) <|
  ha_gd (¬ ((3 : Int32) < 0 ∨ mo_ln r10 ≤ (3 : Int32).toNatClampNeg)) <|
  ha_nm (ha_sA S9 r10 (upd (ha_gA S9 r10) (3 : Int32).toNatClampNeg (((ha_gA S9 r10 (3 : Int32).toNatClampNeg) : Int32) + 1))) fun S13 =>
  some (1, S13)) else
  ((f_X12_bad p0 1 z1.2).bind fun z14 =>
  ha_gd ((z14.1 : Int32) = 0 ∨ (z14.1 : Int32) = 1) <|
  some (z14.1, z14.2))
def f_X12_readRule_L98 (p0 : Nat) (self : (Int32 × ha_St) → Option ((Int32 × ha_St) ⊕ (Int32 × ha_St))) (v1 : Int32) (S : ha_St) : Option ((Int32 × ha_St) ⊕ (Int32 × ha_St)) :=
  (f_X12_go p0 S).bind fun z19 =>
  (f_X12_readAct p0 z19).bind fun z20 =>
  if ¬ (z20.1 : Int32) = 0 then ((f_X12_isSign p0 44 z20.2).bind fun z22 =>
  if ¬ (z22.1 : Int32) = 0 then (self (v1, z22.2)) else
  (some (.inl (v1, z22.2)))) else
  (some (.inr (0, z20.2)))
def f_X12_readRule_L98i (p0 : Nat) : Nat → (Int32 × ha_St) → Option ((Int32 × ha_St) ⊕ (Int32 × ha_St)) := ha_itr (fun self z => f_X12_readRule_L98 p0 self z.1 z.2)
def f_X12_readRule_J75 (p0 : Nat) (v1 : Int32) (S : ha_St) : Option (Int32 × ha_St) :=
  (f_X12_spelt 100 111 0 0 0).bind fun z16 =>
  (f_X12_isKey p0 z16 S).bind fun z17 =>
  if ¬ (z17.1 : Int32) = 0 then ((f_X12_readRule_L98i p0 ha_fu (v1, z17.2)).bind (Sum.elim (fun z => f_X12_readRule_J120 p0 z.1 z.2) (fun r => some r))) else
  ((f_X12_bad p0 1 z17.2).bind fun z26 =>
  ha_gd ((z26.1 : Int32) = 0 ∨ (z26.1 : Int32) = 1) <|
  some (z26.1, z26.2))
def f_X12_readRule_L44 (p0 : Nat) (self : (Int32 × ha_St) → Option ((Int32 × ha_St) ⊕ (Int32 × ha_St))) (v1 : Int32) (S : ha_St) : Option ((Int32 × ha_St) ⊕ (Int32 × ha_St)) :=
  (f_X12_go p0 S).bind fun z35 =>
  (f_X12_readOne p0 z35).bind fun z36 =>
  if ¬ (z36.1 : Int32) = 0 then ((f_X12_spelt 97 110 100 0 0).bind fun z38 =>
  (f_X12_isKey p0 z38 z36.2).bind fun z39 =>
  if ¬ (z39.1 : Int32) = 0 then (self (v1, z39.2)) else
  (some (.inl (v1, z39.2)))) else
  (some (.inr (0, z36.2)))
def f_X12_readRule_L44i (p0 : Nat) : Nat → (Int32 × ha_St) → Option ((Int32 × ha_St) ⊕ (Int32 × ha_St)) := ha_itr (fun self z => f_X12_readRule_L44 p0 self z.1 z.2)
def f_X12_readRule (p0 : Nat) (S : ha_St) : Option (Int32 × ha_St) :=
  (f_X12_spelt 119 104 101 110 0).bind fun z28 =>
  (f_X12_isKey p0 z28 S).bind fun z29 =>
  if ¬ (z29.1 : Int32) = 0 then ((ha_rf mo_kd z29.2 p0 14 100).bind fun r31 =>
  ha_gd (¬ ((3 : Int32) < 0 ∨ mo_ln r31 ≤ (3 : Int32).toNatClampNeg)) <|
  ha_nm ((ha_gA z29.2 r31 (3 : Int32).toNatClampNeg) : Int32) fun x33 =>
  if ¬ (x33 : Int32) = 20 then ((f_X12_readRule_L44i p0 ha_fu (x33, z29.2)).bind (Sum.elim (fun z => f_X12_readRule_J75 p0 z.1 z.2) (fun r => some r))) else
  ((f_X12_bad p0 2 z29.2).bind fun z43 =>
  ha_gd ((z43.1 : Int32) = 0 ∨ (z43.1 : Int32) = 1) <|
  some (z43.1, z43.2))) else
  ((f_X12_bad p0 1 z29.2).bind fun z45 =>
  ha_gd ((z45.1 : Int32) = 0 ∨ (z45.1 : Int32) = 1) <|
  some (z45.1, z45.2))

def f_X12_program_J278 (p0 : Nat) (p1 : Int32)  (S : ha_St) : Option (Int32 × ha_St) :=
  (ha_rf mo_kd S p0 14 100).bind fun r1 =>
  ha_gd (¬ ((p1 : Int32) < 0 ∨ mo_ln r1 ≤ (p1 : Int32).toNatClampNeg)) <|
  some ((ha_gA S r1 (p1 : Int32).toNatClampNeg), S)
def f_X12_program_L146 (p0 : Nat) (p1 : Int32) (self : (Int32 × ha_St) → Option (ha_St)) (v2 : Int32) (S : ha_St) : Option (ha_St) :=
  if (40 : Int32) ≤ v2 then (some S) else
  ((ha_rf mo_kd S p0 17 100).bind fun r4 =>
  (ha_rf mo_kd S p0 17 100).bind fun r5 =>
  ha_gd (¬ ((((120 : Int32) + v2) : Int32) < 0 ∨ mo_ln r5 ≤ (((120 : Int32) + v2) : Int32).toNatClampNeg)) <|
  ha_gd (¬ ((((((40 : Int32) * p1) : Int32) + v2) : Int32) < 0 ∨ mo_ln r4 ≤ (((((40 : Int32) * p1) : Int32) + v2) : Int32).toNatClampNeg)) <|
  ha_nm (ha_sA S r4 (upd (ha_gA S r4) (((((40 : Int32) * p1) : Int32) + v2) : Int32).toNatClampNeg (ha_gA S r5 (((120 : Int32) + v2) : Int32).toNatClampNeg))) fun S8 =>
  (ha_rf mo_kd S8 p0 18 100).bind fun r9 =>
  (ha_rf mo_kd S8 p0 18 100).bind fun r10 =>
  ha_gd (¬ ((((120 : Int32) + v2) : Int32) < 0 ∨ mo_ln r10 ≤ (((120 : Int32) + v2) : Int32).toNatClampNeg)) <|
  ha_gd (¬ ((((((40 : Int32) * p1) : Int32) + v2) : Int32) < 0 ∨ mo_ln r9 ≤ (((((40 : Int32) * p1) : Int32) + v2) : Int32).toNatClampNeg)) <|
  ha_nm (ha_sA S8 r9 (upd (ha_gA S8 r9) (((((40 : Int32) * p1) : Int32) + v2) : Int32).toNatClampNeg (ha_gA S8 r10 (((120 : Int32) + v2) : Int32).toNatClampNeg))) fun S13 =>
  (ha_rf mo_kd S13 p0 19 100).bind fun r14 =>
  (ha_rf mo_kd S13 p0 19 100).bind fun r15 =>
  ha_gd (¬ ((((120 : Int32) + v2) : Int32) < 0 ∨ mo_ln r15 ≤ (((120 : Int32) + v2) : Int32).toNatClampNeg)) <|
  ha_gd (¬ ((((((40 : Int32) * p1) : Int32) + v2) : Int32) < 0 ∨ mo_ln r14 ≤ (((((40 : Int32) * p1) : Int32) + v2) : Int32).toNatClampNeg)) <|
  ha_nm (ha_sA S13 r14 (upd (ha_gA S13 r14) (((((40 : Int32) * p1) : Int32) + v2) : Int32).toNatClampNeg (ha_gA S13 r15 (((120 : Int32) + v2) : Int32).toNatClampNeg))) fun S18 =>
  (ha_rf mo_kd S18 p0 20 100).bind fun r19 =>
  (ha_rf mo_kd S18 p0 20 100).bind fun r20 =>
  ha_gd (¬ ((((120 : Int32) + v2) : Int32) < 0 ∨ mo_ln r20 ≤ (((120 : Int32) + v2) : Int32).toNatClampNeg)) <|
  ha_gd (¬ ((((((40 : Int32) * p1) : Int32) + v2) : Int32) < 0 ∨ mo_ln r19 ≤ (((((40 : Int32) * p1) : Int32) + v2) : Int32).toNatClampNeg)) <|
  ha_nm (ha_sA S18 r19 (upd (ha_gA S18 r19) (((((40 : Int32) * p1) : Int32) + v2) : Int32).toNatClampNeg (ha_gA S18 r20 (((120 : Int32) + v2) : Int32).toNatClampNeg))) fun S23 =>
  (ha_rf mo_kd S23 p0 21 100).bind fun r24 =>
  (ha_rf mo_kd S23 p0 21 100).bind fun r25 =>
  ha_gd (¬ ((((120 : Int32) + v2) : Int32) < 0 ∨ mo_ln r25 ≤ (((120 : Int32) + v2) : Int32).toNatClampNeg)) <|
  ha_gd (¬ ((((((40 : Int32) * p1) : Int32) + v2) : Int32) < 0 ∨ mo_ln r24 ≤ (((((40 : Int32) * p1) : Int32) + v2) : Int32).toNatClampNeg)) <|
  ha_nm (ha_sA S23 r24 (upd (ha_gA S23 r24) (((((40 : Int32) * p1) : Int32) + v2) : Int32).toNatClampNeg (ha_gA S23 r25 (((120 : Int32) + v2) : Int32).toNatClampNeg))) fun S28 =>
  (ha_rf mo_kd S28 p0 22 100).bind fun r29 =>
  (ha_rf mo_kd S28 p0 22 100).bind fun r30 =>
  ha_gd (¬ ((((120 : Int32) + v2) : Int32) < 0 ∨ mo_ln r30 ≤ (((120 : Int32) + v2) : Int32).toNatClampNeg)) <|
  ha_gd (¬ ((((((40 : Int32) * p1) : Int32) + v2) : Int32) < 0 ∨ mo_ln r29 ≤ (((((40 : Int32) * p1) : Int32) + v2) : Int32).toNatClampNeg)) <|
  ha_nm (ha_sA S28 r29 (upd (ha_gA S28 r29) (((((40 : Int32) * p1) : Int32) + v2) : Int32).toNatClampNeg (ha_gA S28 r30 (((120 : Int32) + v2) : Int32).toNatClampNeg))) fun S33 =>
  ha_nm ((v2 : Int32) + 1) fun x34 =>
  self (x34, S33))
def f_X12_program_L146i (p0 : Nat) (p1 : Int32) : Nat → (Int32 × ha_St) → Option (ha_St) := ha_itr (fun self z => f_X12_program_L146 p0 p1 self z.1 z.2)
def f_X12_program_J144 (p0 : Nat) (p1 : Int32)  (S : ha_St) : Option (Int32 × ha_St) :=
  (f_X12_program_L146i p0 p1 ha_fu (0, S)).bind (fun z => f_X12_program_J278 p0 p1  z)
def f_X12_program_L92 (p0 : Nat) (p1 : Int32) (self : (Int32 × ha_St) → Option (ha_St)) (v2 : Int32) (S : ha_St) : Option (ha_St) :=
  if (20 : Int32) ≤ v2 then (some S) else
  ((ha_rf mo_kd S p0 15 100).bind fun r43 =>
  (ha_rf mo_kd S p0 15 100).bind fun r44 =>
  ha_gd (¬ ((((60 : Int32) + v2) : Int32) < 0 ∨ mo_ln r44 ≤ (((60 : Int32) + v2) : Int32).toNatClampNeg)) <|
  ha_gd (¬ ((((((20 : Int32) * p1) : Int32) + v2) : Int32) < 0 ∨ mo_ln r43 ≤ (((((20 : Int32) * p1) : Int32) + v2) : Int32).toNatClampNeg)) <|
  ha_nm (ha_sA S r43 (upd (ha_gA S r43) (((((20 : Int32) * p1) : Int32) + v2) : Int32).toNatClampNeg (ha_gA S r44 (((60 : Int32) + v2) : Int32).toNatClampNeg))) fun S47 =>
  (ha_rf mo_kd S47 p0 16 100).bind fun r48 =>
  (ha_rf mo_kd S47 p0 16 100).bind fun r49 =>
  ha_gd (¬ ((((60 : Int32) + v2) : Int32) < 0 ∨ mo_ln r49 ≤ (((60 : Int32) + v2) : Int32).toNatClampNeg)) <|
  ha_gd (¬ ((((((20 : Int32) * p1) : Int32) + v2) : Int32) < 0 ∨ mo_ln r48 ≤ (((((20 : Int32) * p1) : Int32) + v2) : Int32).toNatClampNeg)) <|
  ha_nm (ha_sA S47 r48 (upd (ha_gA S47 r48) (((((20 : Int32) * p1) : Int32) + v2) : Int32).toNatClampNeg (ha_gA S47 r49 (((60 : Int32) + v2) : Int32).toNatClampNeg))) fun S52 =>
  ha_nm ((v2 : Int32) + 1) fun x53 =>
  self (x53, S52))
def f_X12_program_L92i (p0 : Nat) (p1 : Int32) : Nat → (Int32 × ha_St) → Option (ha_St) := ha_itr (fun self z => f_X12_program_L92 p0 p1 self z.1 z.2)
def f_X12_program_J78 (p0 : Nat) (p1 : Int32)  (S : ha_St) : Option (Int32 × ha_St) :=
  (ha_rf mo_kd S p0 14 100).bind fun r37 =>
  (ha_rf mo_kd S p0 14 100).bind fun r38 =>
  ha_gd (¬ ((3 : Int32) < 0 ∨ mo_ln r38 ≤ (3 : Int32).toNatClampNeg)) <|
  ha_gd (¬ ((p1 : Int32) < 0 ∨ mo_ln r37 ≤ (p1 : Int32).toNatClampNeg)) <|
  ha_nm (ha_sA S r37 (upd (ha_gA S r37) (p1 : Int32).toNatClampNeg (ha_gA S r38 (3 : Int32).toNatClampNeg))) fun S41 =>
  (f_X12_program_L92i p0 p1 ha_fu (0, S41)).bind (fun z => f_X12_program_J144 p0 p1  z)
def f_X12_program_L57 (p0 : Nat) (p1 : Int32) (self : (ha_St) → Option ((ha_St) ⊕ (Int32 × ha_St)))  (S : ha_St) : Option ((ha_St) ⊕ (Int32 × ha_St)) :=
  if ((ha_gI S p0 8) : Int32) = 0 then (some (.inl S)) else
  ((f_X12_readRule p0 S).bind fun z70 =>
  if ¬ (z70.1 : Int32) = 0 then (self z70.2) else
  (some (.inr ((((-1) : Int32) - (ha_gI z70.2 p0 12)), z70.2))))
def f_X12_program_L57i (p0 : Nat) (p1 : Int32) : Nat → (ha_St) → Option ((ha_St) ⊕ (Int32 × ha_St)) := ha_itr (fun self z => f_X12_program_L57 p0 p1 self z)
def f_X12_program (p0 : Nat) (p1 : Int32) (S : ha_St) : Option (Int32 × ha_St) :=
  ha_nm (ha_sI S p0 0 0) fun S56 =>
  (f_X12_take p0 S56).bind fun z57 =>
  ha_nm (ha_sI z57.2 p0 5 z57.1) fun S58 =>
  (f_X12_isIn p1 0 2).bind fun z59 =>
  if ¬ (z59 : Int32) = 0 then (ha_nm (ha_sI S58 p0 11 0) fun S61 =>
  (ha_rf mo_kd S61 p0 14 100).bind fun r62 =>
  ha_gd (¬ ((3 : Int32) < 0 ∨ mo_ln r62 ≤ (3 : Int32).toNatClampNeg)) <|
  ha_nm (ha_sA S61 r62 (upd (ha_gA S61 r62) (3 : Int32).toNatClampNeg 0)) fun S64 =>
  ha_nm (ha_sI S64 p0 23 0) fun S65 =>
  ha_nm (ha_sI S65 p0 24 0) fun S66 =>
  ha_nm (ha_sI S66 p0 6 0) fun S67 =>
  (f_X12_go p0 S67).bind fun z68 =>
  (f_X12_program_L57i p0 p1 ha_fu z68).bind (Sum.elim (fun z => f_X12_program_J78 p0 p1  z) (fun r => some r))) else
  (some ((-1000), S58))

def f_X12_fault (p0 : Nat) (S : ha_St) : Option (Int32 × ha_St) :=
  ha_nm (ha_sI S p0 0 0) fun S1 =>
  some ((ha_gI S1 p0 11), S1)

def f_X12_message_J73 (p0 : Nat) (v1 : Int32) (S : ha_St) : Option (Int32 × ha_St) :=
  ha_nm (ha_sI S p0 30 v1) fun S1 =>
  some (1, S1)
def f_X12_message_L50 (p0 : Nat) (self : (Int32 × Int32 × ha_St) → Option (Int32 × ha_St)) (v1 : Int32) (v2 : Int32) (S : ha_St) : Option (Int32 × ha_St) :=
  if (v1 : Int32) ≤ v2 then (some (v1, S)) else
  ((ha_rf mo_kd S p0 26 100).bind fun r3 =>
  (ha_rf mo_kd S p0 1 100).bind fun r4 =>
  ha_gd (¬ ((v2 : Int32) < 0 ∨ mo_ln r4 ≤ (v2 : Int32).toNatClampNeg)) <|
  ha_gd (¬ ((v2 : Int32) < 0 ∨ mo_ln r3 ≤ (v2 : Int32).toNatClampNeg)) <|
  ha_nm (ha_sA S r3 (upd (ha_gA S r3) (v2 : Int32).toNatClampNeg (ha_gA S r4 (v2 : Int32).toNatClampNeg))) fun S7 =>
  ha_nm ((v2 : Int32) + 1) fun x8 =>
  self (v1, x8, S7))
def f_X12_message_L50i (p0 : Nat) : Nat → (Int32 × Int32 × ha_St) → Option (Int32 × ha_St) := ha_itr (fun self z => f_X12_message_L50 p0 self z.1 z.2.1 z.2.2)
def f_X12_message_J48 (p0 : Nat) (v1 : Int32) (S : ha_St) : Option (Int32 × ha_St) :=
  (f_X12_message_L50i p0 ha_fu (v1, 0, S)).bind (fun z => f_X12_message_J73 p0 z.1 z.2)
def f_X12_message_L20 (p0 : Nat) (self : (Int32 × Int32 × ha_St) → Option ((Int32 × ha_St) ⊕ (Int32 × ha_St))) (v1 : Int32) (v2 : Int32) (S : ha_St) : Option ((Int32 × ha_St) ⊕ (Int32 × ha_St)) :=
  if (v1 : Int32) ≤ v2 then (some (.inl (v1, S))) else
  ((ha_rf mo_kd S p0 1 100).bind fun r15 =>
  ha_gd (¬ ((v2 : Int32) < 0 ∨ mo_ln r15 ≤ (v2 : Int32).toNatClampNeg)) <|
  (f_X12_isIn ((ha_gA S r15 (v2 : Int32).toNatClampNeg)) 1 63).bind fun z17 =>
  if ¬ (z17 : Int32) = 0 then (ha_nm ((v2 : Int32) + 1) fun x19 =>
  self (v1, x19, S)) else
  (some (.inr (0, S))))
def f_X12_message_L20i (p0 : Nat) : Nat → (Int32 × Int32 × ha_St) → Option ((Int32 × ha_St) ⊕ (Int32 × ha_St)) := ha_itr (fun self z => f_X12_message_L20 p0 self z.1 z.2.1 z.2.2)
def f_X12_message (p0 : Nat) (S : ha_St) : Option (Int32 × ha_St) :=
  ha_nm (ha_sI S p0 0 0) fun S11 =>
  (f_X12_take p0 S11).bind fun z12 =>
  if (z12.1 : Int32) ≤ 60 then ((f_X12_message_L20i p0 ha_fu (z12.1, 0, z12.2)).bind (Sum.elim (fun z => f_X12_message_J48 p0 z.1 z.2) (fun r => some r))) else
  (some (0, z12.2))

def f_X12_fog_J50 (p0 : Nat) (p1 : Int32) (p2 : Int32) (p3 : Int32)  (S : ha_St) : Option (Int32 × ha_St) :=
  some ((-1), S)
def f_X12_fog (p0 : Nat) (p1 : Int32) (p2 : Int32) (p3 : Int32) (S : ha_St) : Option (Int32 × ha_St) :=
  ha_nm (ha_sI S p0 0 0) fun S1 =>
  if ((ha_gI S1 p0 31) : Int32) = 60 then (f_X12_fog_J50 p0 p1 p2 p3  S1) else
  ((f_X12_isIn p1 0 ((((ha_gI S1 p0 4) : Int32) - 2))).bind fun z3 =>
  if (z3 : Int32) = 0 then (f_X12_fog_J50 p0 p1 p2 p3  S1) else
  ((f_X12_isIn p2 1 500).bind fun z5 =>
  if (z5 : Int32) = 0 then (f_X12_fog_J50 p0 p1 p2 p3  S1) else
  ((f_X12_isIn p3 p2 500).bind fun z7 =>
  if ¬ (z7 : Int32) = 0 then ((ha_rf mo_kd S1 p0 27 100).bind fun r9 =>
  ha_gd (¬ (((ha_gI S1 p0 31) : Int32) < 0 ∨ mo_ln r9 ≤ ((ha_gI S1 p0 31) : Int32).toNatClampNeg)) <|
  ha_nm (ha_sA S1 r9 (upd (ha_gA S1 r9) ((ha_gI S1 p0 31) : Int32).toNatClampNeg p1)) fun S11 =>
  (ha_rf mo_kd S11 p0 28 100).bind fun r12 =>
  ha_gd (¬ (((ha_gI S11 p0 31) : Int32) < 0 ∨ mo_ln r12 ≤ ((ha_gI S11 p0 31) : Int32).toNatClampNeg)) <|
  ha_nm (ha_sA S11 r12 (upd (ha_gA S11 r12) ((ha_gI S11 p0 31) : Int32).toNatClampNeg p2)) fun S14 =>
  (ha_rf mo_kd S14 p0 29 100).bind fun r15 =>
  ha_gd (¬ (((ha_gI S14 p0 31) : Int32) < 0 ∨ mo_ln r15 ≤ ((ha_gI S14 p0 31) : Int32).toNatClampNeg)) <|
  ha_nm (ha_sA S14 r15 (upd (ha_gA S14 r15) ((ha_gI S14 p0 31) : Int32).toNatClampNeg p3)) fun S17 =>
  ha_nm (ha_sI S17 p0 31 (((ha_gI S17 p0 31) : Int32) + 1)) fun S18 =>
  some ((((ha_gI S18 p0 31) : Int32) - 1), S18)) else
  (f_X12_fog_J50 p0 p1 p2 p3  S1))))

def f_X12_isFoggy_J81 (p0 : Nat) (p1 : Int32) (p2 : Int32)  (S : ha_St) : Option (Int32 × ha_St) :=
  some (0, S)
def f_X12_isFoggy_L36_J75 (p0 : Nat) (p1 : Int32) (p2 : Int32) (self : (Int32 × ha_St) → Option ((ha_St) ⊕ (Int32 × ha_St))) (v3 : Int32) (S : ha_St) : Option ((ha_St) ⊕ (Int32 × ha_St)) :=
  ha_nm ((v3 : Int32) + 1) fun x1 =>
  self (x1, S)
def f_X12_isFoggy_L36 (p0 : Nat) (p1 : Int32) (p2 : Int32) (self : (Int32 × ha_St) → Option ((ha_St) ⊕ (Int32 × ha_St))) (v3 : Int32) (S : ha_St) : Option ((ha_St) ⊕ (Int32 × ha_St)) :=
  if ((ha_gI S p0 31) : Int32) ≤ v3 then (some (.inl S)) else
  ((ha_rf mo_kd S p0 27 100).bind fun r3 =>
  ha_gd (¬ ((v3 : Int32) < 0 ∨ mo_ln r3 ≤ (v3 : Int32).toNatClampNeg)) <|
  if ¬ ((ha_gA S r3 (v3 : Int32).toNatClampNeg) : Int32) = p1 then (f_X12_isFoggy_L36_J75 p0 p1 p2 self v3 S) else
  ((ha_rf mo_kd S p0 28 100).bind fun r6 =>
  ha_gd (¬ ((v3 : Int32) < 0 ∨ mo_ln r6 ≤ (v3 : Int32).toNatClampNeg)) <|
  (ha_rf mo_kd S p0 29 100).bind fun r8 =>
  ha_gd (¬ ((v3 : Int32) < 0 ∨ mo_ln r8 ≤ (v3 : Int32).toNatClampNeg)) <|
  (f_X12_isIn p2 ((ha_gA S r6 (v3 : Int32).toNatClampNeg)) ((ha_gA S r8 (v3 : Int32).toNatClampNeg))).bind fun z10 =>
  if (z10 : Int32) = 0 then (f_X12_isFoggy_L36_J75 p0 p1 p2 self v3 S) else
  (some (.inr (1, S)))))
def f_X12_isFoggy_L36i (p0 : Nat) (p1 : Int32) (p2 : Int32) : Nat → (Int32 × ha_St) → Option ((ha_St) ⊕ (Int32 × ha_St)) := ha_itr (fun self z => f_X12_isFoggy_L36 p0 p1 p2 self z.1 z.2)
def f_X12_isFoggy_J34 (p0 : Nat) (p1 : Int32) (p2 : Int32)  (S : ha_St) : Option (Int32 × ha_St) :=
  (f_X12_isFoggy_L36i p0 p1 p2 ha_fu (0, S)).bind (Sum.elim (fun z => f_X12_isFoggy_J81 p0 p1 p2  z) (fun r => some r))
def f_X12_isFoggy_J32 (p0 : Nat) (p1 : Int32) (p2 : Int32)  (S : ha_St) : Option (Int32 × ha_St) :=
  some (1, S)
def f_X12_isFoggy_J16 (p0 : Nat) (p1 : Int32) (p2 : Int32)  (S : ha_St) : Option (Int32 × ha_St) :=
  if ¬ ((ha_gI S p0 43) : Int32) = p2 then (f_X12_isFoggy_J34 p0 p1 p2  S) else
  (if ¬ ((ha_gI S p0 44) : Int32) = p1 then (f_X12_isFoggy_J34 p0 p1 p2  S) else
  (f_X12_isFoggy_J32 p0 p1 p2  S))
def f_X12_isFoggy (p0 : Nat) (p1 : Int32) (p2 : Int32) (S : ha_St) : Option (Int32 × ha_St) :=
  if ¬ ((ha_gI S p0 41) : Int32) = p2 then (f_X12_isFoggy_J16 p0 p1 p2  S) else
  (if ((ha_gI S p0 42) : Int32) = p1 then (f_X12_isFoggy_J32 p0 p1 p2  S) else
  (f_X12_isFoggy_J16 p0 p1 p2  S))

def f_X12_valueOf_J116 (p0 : Nat) (p1 : Int32) (p2 : Int32) (k0 : Int32) (S : ha_St) : Option (Int32 × ha_St) :=
  some (k0, S)
def f_X12_valueOf_J115 (p0 : Nat) (p1 : Int32) (p2 : Int32)  (S : ha_St) : Option (Int32 × ha_St) :=
  f_X12_valueOf_J116 p0 p1 p2 (-1) S
def f_X12_valueOf (p0 : Nat) (p1 : Int32) (p2 : Int32) (S : ha_St) : Option (Int32 × ha_St) :=
  if (100 : Int32) ≤ p1 then (if (p1 : Int32) < 106 then (ha_nm (p1 : Int32) fun xs =>
  if xs = 100 then (some ((ha_gI S p0 45), S)) else
  (if xs = 101 then (some ((ha_gI S p0 46), S)) else
  (if xs = 102 then ((ha_rf mo_kd S p0 32 100).bind fun r3 =>
  ha_gd (¬ ((p2 : Int32) < 0 ∨ mo_ln r3 ≤ (p2 : Int32).toNatClampNeg)) <|
  some ((ha_gA S r3 (p2 : Int32).toNatClampNeg), S)) else
  (if xs = 103 then ((ha_rf mo_kd S p0 35 100).bind fun r5 =>
  ha_gd (¬ ((p2 : Int32) < 0 ∨ mo_ln r5 ≤ (p2 : Int32).toNatClampNeg)) <|
  some ((ha_gA S r5 (p2 : Int32).toNatClampNeg), S)) else
  (if xs = 104 then (if ¬ (p2 : Int32) = 0 then (f_X12_valueOf_J115 p0 p1 p2  S) else
  (if ((ha_gI S p0 30) : Int32) ≤ (ha_gI S p0 38) then (f_X12_valueOf_J115 p0 p1 p2  S) else
  ((ha_rf mo_kd S p0 26 100).bind fun r9 =>
  ha_gd (¬ (((ha_gI S p0 38) : Int32) < 0 ∨ mo_ln r9 ≤ ((ha_gI S p0 38) : Int32).toNatClampNeg)) <|
  f_X12_valueOf_J116 p0 p1 p2 ((ha_gA S r9 ((ha_gI S p0 38) : Int32).toNatClampNeg)) S))) else
  (some ((-1), S))))))) else
  ((ha_rf mo_kd S p0 34 100).bind fun r11 =>
  ha_gd (¬ ((((((((4 : Int32) * p2) : Int32) + p1) : Int32) - 106) : Int32) < 0 ∨ mo_ln r11 ≤ (((((((4 : Int32) * p2) : Int32) + p1) : Int32) - 106) : Int32).toNatClampNeg)) <|
  some ((ha_gA S r11 (((((((4 : Int32) * p2) : Int32) + p1) : Int32) - 106) : Int32).toNatClampNeg), S))) else
  (some (p1, S))

def f_X12_holds_J103 (p0 : Nat) (p1 : Int32) (p2 : Int32) (k0 : Int32) (S : ha_St) : Option (Int32 × ha_St) :=
  ha_gd ((k0 : Int32) = 0 ∨ (k0 : Int32) = 1) <|
  some (k0, S)
def f_X12_holds_J91 (p0 : Nat) (p1 : Int32) (p2 : Int32) (k0 : Int32) (S : ha_St) : Option (Int32 × ha_St) :=
  ha_gd ((k0 : Int32) = 0 ∨ (k0 : Int32) = 1) <|
  some (k0, S)
def f_X12_holds_J79 (p0 : Nat) (p1 : Int32) (p2 : Int32) (k0 : Int32) (S : ha_St) : Option (Int32 × ha_St) :=
  ha_gd ((k0 : Int32) = 0 ∨ (k0 : Int32) = 1) <|
  some (k0, S)
def f_X12_holds_J67 (p0 : Nat) (p1 : Int32) (p2 : Int32) (k0 : Int32) (S : ha_St) : Option (Int32 × ha_St) :=
  ha_gd ((k0 : Int32) = 0 ∨ (k0 : Int32) = 1) <|
  some (k0, S)
def f_X12_holds (p0 : Nat) (p1 : Int32) (p2 : Int32) (S : ha_St) : Option (Int32 × ha_St) :=
  (ha_rf mo_kd S p0 17 100).bind fun r5 =>
  ha_gd (¬ ((p1 : Int32) < 0 ∨ mo_ln r5 ≤ (p1 : Int32).toNatClampNeg)) <|
  (f_X12_valueOf p0 ((ha_gA S r5 (p1 : Int32).toNatClampNeg)) p2 S).bind fun z7 =>
  (ha_rf mo_kd z7.2 p0 19 100).bind fun r8 =>
  ha_gd (¬ ((p1 : Int32) < 0 ∨ mo_ln r8 ≤ (p1 : Int32).toNatClampNeg)) <|
  (f_X12_valueOf p0 ((ha_gA z7.2 r8 (p1 : Int32).toNatClampNeg)) p2 z7.2).bind fun z10 =>
  (ha_rf mo_kd z10.2 p0 18 100).bind fun r11 =>
  ha_gd (¬ ((p1 : Int32) < 0 ∨ mo_ln r11 ≤ (p1 : Int32).toNatClampNeg)) <|
  ha_nm ((ha_gA z10.2 r11 (p1 : Int32).toNatClampNeg) : Int32) fun xs =>
  if xs = 60 then (if (z10.1 : Int32) ≤ z7.1 then (f_X12_holds_J67 p0 p1 p2 0 z10.2) else
  (f_X12_holds_J67 p0 p1 p2 1 z10.2)) else
  (if xs = 61 then (if ¬ (z7.1 : Int32) = z10.1 then (f_X12_holds_J79 p0 p1 p2 0 z10.2) else
  (f_X12_holds_J79 p0 p1 p2 1 z10.2)) else
  (if xs = 62 then (if (z7.1 : Int32) ≤ z10.1 then (f_X12_holds_J91 p0 p1 p2 0 z10.2) else
  (f_X12_holds_J91 p0 p1 p2 1 z10.2)) else
  (if (z7.1 : Int32) = z10.1 then (f_X12_holds_J103 p0 p1 p2 0 z10.2) else
  (f_X12_holds_J103 p0 p1 p2 1 z10.2))))

def f_X12_act_J168 (p0 : Nat) (p1 : Int32) (p2 : Int32)  (S : ha_St) : Option (ha_St) :=
  some S
def f_X12_act_J81 (p0 : Nat) (p1 : Int32) (p2 : Int32) (v3 : Int32) (k0 : Int32) (k1 : Int32) (S : ha_St) : Option (ha_St) :=
  ha_nm (((((k0 : Int32) + k1) : Int32) &&& 63) : Int32) fun x1 =>
  if ¬ (v3 : Int32) = 4 then (if (4 : Int32) ≤ v3 then (if ¬ (p2 : Int32) = (((ha_gI S p0 4) : Int32) - 1) then (f_X12_act_J168 p0 p1 p2  S) else
  (if (100 : Int32) ≤ (ha_gI S p0 37) then (f_X12_act_J168 p0 p1 p2  S) else
  ((ha_rf mo_kd S p0 36 100).bind fun r6 =>
  ha_gd (¬ (((ha_gI S p0 37) : Int32) < 0 ∨ mo_ln r6 ≤ ((ha_gI S p0 37) : Int32).toNatClampNeg)) <|
  ha_nm (ha_sA S r6 (upd (ha_gA S r6) ((ha_gI S p0 37) : Int32).toNatClampNeg x1)) fun S8 =>
  ha_nm (ha_sI S8 p0 37 (((ha_gI S8 p0 37) : Int32) + 1)) fun S9 =>
  ha_gd ((1 : Int32) = 0 ∨ (1 : Int32) = 1) <|
  ha_nm (ha_sI S9 p0 40 1) fun S10 =>
  f_X12_act_J168 p0 p1 p2  S10))) else
  ((ha_rf mo_kd S p0 34 100).bind fun r12 =>
  ha_gd (¬ ((((((4 : Int32) * p2) : Int32) + v3) : Int32) < 0 ∨ mo_ln r12 ≤ (((((4 : Int32) * p2) : Int32) + v3) : Int32).toNatClampNeg)) <|
  ha_nm (ha_sA S r12 (upd (ha_gA S r12) (((((4 : Int32) * p2) : Int32) + v3) : Int32).toNatClampNeg x1)) fun S14 =>
  f_X12_act_J168 p0 p1 p2  S14)) else
  ((ha_rf mo_kd S p0 32 100).bind fun r15 =>
  ha_gd (¬ ((p2 : Int32) < 0 ∨ mo_ln r15 ≤ (p2 : Int32).toNatClampNeg)) <|
  ha_nm (ha_sA S r15 (upd (ha_gA S r15) (p2 : Int32).toNatClampNeg x1)) fun S17 =>
  f_X12_act_J168 p0 p1 p2  S17)
def f_X12_act_J28 (p0 : Nat) (p1 : Int32) (p2 : Int32)  (S : ha_St) : Option (ha_St) :=
  some S
def f_X12_act (p0 : Nat) (p1 : Int32) (p2 : Int32) (S : ha_St) : Option (ha_St) :=
  (ha_rf mo_kd S p0 20 100).bind fun r18 =>
  ha_gd (¬ ((p1 : Int32) < 0 ∨ mo_ln r18 ≤ (p1 : Int32).toNatClampNeg)) <|
  ha_nm ((ha_gA S r18 (p1 : Int32).toNatClampNeg) : Int32) fun x20 =>
  if ¬ (x20 : Int32) = 6 then ((ha_rf mo_kd S p0 21 100).bind fun r22 =>
  ha_gd (¬ ((p1 : Int32) < 0 ∨ mo_ln r22 ≤ (p1 : Int32).toNatClampNeg)) <|
  (f_X12_valueOf p0 ((ha_gA S r22 (p1 : Int32).toNatClampNeg)) p2 S).bind fun z24 =>
  (ha_rf mo_kd z24.2 p0 22 100).bind fun r25 =>
  ha_gd (¬ ((p1 : Int32) < 0 ∨ mo_ln r25 ≤ (p1 : Int32).toNatClampNeg)) <|
  if ¬ ((ha_gA z24.2 r25 (p1 : Int32).toNatClampNeg) : Int32) = (-1) then ((ha_rf mo_kd z24.2 p0 22 100).bind fun r28 =>
  ha_gd (¬ ((p1 : Int32) < 0 ∨ mo_ln r28 ≤ (p1 : Int32).toNatClampNeg)) <|
  (f_X12_valueOf p0 ((ha_gA z24.2 r28 (p1 : Int32).toNatClampNeg)) p2 z24.2).bind fun z30 =>
  f_X12_act_J81 p0 p1 p2 x20 z24.1 z30.1 z30.2) else
  (f_X12_act_J81 p0 p1 p2 x20 z24.1 0 z24.2)) else
  (if (0 : Int32) < p2 then (f_X12_act_J28 p0 p1 p2  S) else
  (if ¬ ((ha_gI S p0 38) : Int32) = (ha_gI S p0 30) then (ha_nm (ha_sI S p0 38 (((ha_gI S p0 38) : Int32) + 1)) fun S33 =>
  ha_gd ((1 : Int32) = 0 ∨ (1 : Int32) = 1) <|
  ha_nm (ha_sI S33 p0 40 1) fun S34 =>
  some S34) else
  (f_X12_act_J28 p0 p1 p2  S)))

def f_X12_doRule_J229 (p0 : Nat) (p1 : Int32) (p2 : Int32) (p3 : Int32)  (S : ha_St) : Option (ha_St) :=
  some S
def f_X12_doRule_L69_J222 (p0 : Nat) (p1 : Int32) (p2 : Int32) (p3 : Int32) (self : (Int32 × ha_St) → Option ((ha_St) ⊕ (ha_St)))  (S : ha_St) : Option ((ha_St) ⊕ (ha_St)) :=
  some (.inr S)
def f_X12_doRule_L187 (p0 : Nat) (p1 : Int32) (p2 : Int32) (p3 : Int32) (self : (Int32 × Int32 × ha_St) → Option (ha_St)) (v4 : Int32) (v7 : Int32) (S : ha_St) : Option (ha_St) :=
  (ha_rf mo_kd S p0 16 100).bind fun r2 =>
  ha_gd (¬ ((((((20 : Int32) * p3) : Int32) + v4) : Int32) < 0 ∨ mo_ln r2 ≤ (((((20 : Int32) * p3) : Int32) + v4) : Int32).toNatClampNeg)) <|
  if ((ha_gA S r2 (((((20 : Int32) * p3) : Int32) + v4) : Int32).toNatClampNeg) : Int32) ≤ v7 then (some S) else
  ((f_X12_act p0 (((((40 : Int32) * p3) : Int32) + v7)) p1 S).bind fun z5 =>
  ha_nm ((v7 : Int32) + 1) fun x6 =>
  self (v4, x6, z5))
def f_X12_doRule_L187i (p0 : Nat) (p1 : Int32) (p2 : Int32) (p3 : Int32) : Nat → (Int32 × Int32 × ha_St) → Option (ha_St) := ha_itr (fun self z => f_X12_doRule_L187 p0 p1 p2 p3 self z.1 z.2.1 z.2.2)
def f_X12_doRule_L69_J185 (p0 : Nat) (p1 : Int32) (p2 : Int32) (p3 : Int32) (self : (Int32 × ha_St) → Option ((ha_St) ⊕ (ha_St))) (v4 : Int32) (k0 : Int32) (S : ha_St) : Option ((ha_St) ⊕ (ha_St)) :=
  (f_X12_doRule_L187i p0 p1 p2 p3 ha_fu (v4, k0, S)).bind (fun z => f_X12_doRule_L69_J222 p0 p1 p2 p3 self  z)
def f_X12_doRule_L69_J154 (p0 : Nat) (p1 : Int32) (p2 : Int32) (p3 : Int32) (self : (Int32 × ha_St) → Option ((ha_St) ⊕ (ha_St))) (v4 : Int32) (v6 : Int32) (S : ha_St) : Option ((ha_St) ⊕ (ha_St)) :=
  if ¬ (v6 : Int32) = 0 then (if ¬ (v4 : Int32) = 0 then ((ha_rf mo_kd S p0 16 100).bind fun r11 =>
  ha_gd (¬ ((((((((20 : Int32) * p3) : Int32) + v4) : Int32) - 1) : Int32) < 0 ∨ mo_ln r11 ≤ (((((((20 : Int32) * p3) : Int32) + v4) : Int32) - 1) : Int32).toNatClampNeg)) <|
  f_X12_doRule_L69_J185 p0 p1 p2 p3 self v4 ((ha_gA S r11 (((((((20 : Int32) * p3) : Int32) + v4) : Int32) - 1) : Int32).toNatClampNeg)) S) else
  (f_X12_doRule_L69_J185 p0 p1 p2 p3 self v4 0 S)) else
  (ha_nm ((v4 : Int32) + 1) fun x13 =>
  self (x13, S))
def f_X12_doRule_L112 (p0 : Nat) (p1 : Int32) (p2 : Int32) (p3 : Int32) (self : (Int32 × Int32 × Int32 × ha_St) → Option (Int32 × Int32 × ha_St)) (v4 : Int32) (v6 : Int32) (v7 : Int32) (S : ha_St) : Option (Int32 × Int32 × ha_St) :=
  (ha_rf mo_kd S p0 15 100).bind fun r14 =>
  ha_gd (¬ ((((((20 : Int32) * p3) : Int32) + v4) : Int32) < 0 ∨ mo_ln r14 ≤ (((((20 : Int32) * p3) : Int32) + v4) : Int32).toNatClampNeg)) <|
  if ((ha_gA S r14 (((((20 : Int32) * p3) : Int32) + v4) : Int32).toNatClampNeg) : Int32) ≤ v7 then (some (v4, v6, S)) else
  (if (v6 : Int32) = 0 then (some (v4, v6, S)) else
  ((f_X12_holds p0 (((((40 : Int32) * p3) : Int32) + v7)) p1 S).bind fun z18 =>
  ha_nm ((v7 : Int32) + 1) fun x19 =>
  self (v4, z18.1, x19, z18.2)))
def f_X12_doRule_L112i (p0 : Nat) (p1 : Int32) (p2 : Int32) (p3 : Int32) : Nat → (Int32 × Int32 × Int32 × ha_St) → Option (Int32 × Int32 × ha_St) := ha_itr (fun self z => f_X12_doRule_L112 p0 p1 p2 p3 self z.1 z.2.1 z.2.2.1 z.2.2.2)
def f_X12_doRule_L69_J103 (p0 : Nat) (p1 : Int32) (p2 : Int32) (p3 : Int32) (self : (Int32 × ha_St) → Option ((ha_St) ⊕ (ha_St))) (v4 : Int32) (k0 : Int32) (S : ha_St) : Option ((ha_St) ⊕ (ha_St)) :=
  (f_X12_doRule_L112i p0 p1 p2 p3 ha_fu (v4, 1, k0, S)).bind (fun z => f_X12_doRule_L69_J154 p0 p1 p2 p3 self z.1 z.2.1 z.2.2)
def f_X12_doRule_L69 (p0 : Nat) (p1 : Int32) (p2 : Int32) (p3 : Int32) (self : (Int32 × ha_St) → Option ((ha_St) ⊕ (ha_St))) (v4 : Int32) (S : ha_St) : Option ((ha_St) ⊕ (ha_St)) :=
  (ha_rf mo_kd S p0 14 100).bind fun r22 =>
  ha_gd (¬ ((p3 : Int32) < 0 ∨ mo_ln r22 ≤ (p3 : Int32).toNatClampNeg)) <|
  if ((ha_gA S r22 (p3 : Int32).toNatClampNeg) : Int32) ≤ v4 then (some (.inl S)) else
  (if ¬ (v4 : Int32) = 0 then ((ha_rf mo_kd S p0 15 100).bind fun r26 =>
  ha_gd (¬ ((((((((20 : Int32) * p3) : Int32) + v4) : Int32) - 1) : Int32) < 0 ∨ mo_ln r26 ≤ (((((((20 : Int32) * p3) : Int32) + v4) : Int32) - 1) : Int32).toNatClampNeg)) <|
  f_X12_doRule_L69_J103 p0 p1 p2 p3 self v4 ((ha_gA S r26 (((((((20 : Int32) * p3) : Int32) + v4) : Int32) - 1) : Int32).toNatClampNeg)) S) else
  (f_X12_doRule_L69_J103 p0 p1 p2 p3 self v4 0 S))
def f_X12_doRule_L69i (p0 : Nat) (p1 : Int32) (p2 : Int32) (p3 : Int32) : Nat → (Int32 × ha_St) → Option ((ha_St) ⊕ (ha_St)) := ha_itr (fun self z => f_X12_doRule_L69 p0 p1 p2 p3 self z.1 z.2)
def f_X12_doRule_J63 (p0 : Nat) (p1 : Int32) (p2 : Int32) (p3 : Int32) (k0 : Nat) (k1 : Int32) (S : ha_St) : Option (ha_St) :=
  ha_nm (ha_sI S k0 46 k1) fun S1 =>
  (f_X12_doRule_L69i p0 p1 p2 p3 ha_fu (0, S1)).bind (Sum.elim (fun z => f_X12_doRule_J229 p0 p1 p2 p3  z) (fun r => some r))
def f_X12_doRule_J51 (p0 : Nat) (p1 : Int32) (p2 : Int32) (p3 : Int32) (k0 : Nat) (S : ha_St) : Option (ha_St) :=
  f_X12_doRule_J63 p0 p1 p2 p3 k0 (-1) S
def f_X12_doRule_J28 (p0 : Nat) (p1 : Int32) (p2 : Int32) (p3 : Int32) (k0 : Nat) (k1 : Int32) (S : ha_St) : Option (ha_St) :=
  ha_nm (ha_sI S k0 45 k1) fun S30 =>
  if (p1 : Int32) = (((ha_gI S30 p0 4) : Int32) - 1) then (f_X12_doRule_J51 p0 p1 p2 p3 p0 S30) else
  ((f_X12_isFoggy p0 p1 p2 S30).bind fun z32 =>
  if (z32.1 : Int32) = 0 then ((ha_rf mo_kd z32.2 p0 33 100).bind fun r34 =>
  ha_gd (¬ ((((p1 : Int32) + 1) : Int32) < 0 ∨ mo_ln r34 ≤ (((p1 : Int32) + 1) : Int32).toNatClampNeg)) <|
  f_X12_doRule_J63 p0 p1 p2 p3 p0 ((ha_gA z32.2 r34 (((p1 : Int32) + 1) : Int32).toNatClampNeg)) z32.2) else
  (f_X12_doRule_J51 p0 p1 p2 p3 p0 z32.2))
def f_X12_doRule_J16 (p0 : Nat) (p1 : Int32) (p2 : Int32) (p3 : Int32) (k0 : Nat) (S : ha_St) : Option (ha_St) :=
  f_X12_doRule_J28 p0 p1 p2 p3 k0 (-1) S
def f_X12_doRule (p0 : Nat) (p1 : Int32) (p2 : Int32) (p3 : Int32) (S : ha_St) : Option (ha_St) :=
  if (p1 : Int32) = 0 then (f_X12_doRule_J16 p0 p1 p2 p3 p0 S) else
  ((f_X12_isFoggy p0 (((p1 : Int32) - 1)) p2 S).bind fun z37 =>
  if (z37.1 : Int32) = 0 then ((ha_rf mo_kd z37.2 p0 33 100).bind fun r39 =>
  ha_gd (¬ ((((p1 : Int32) - 1) : Int32) < 0 ∨ mo_ln r39 ≤ (((p1 : Int32) - 1) : Int32).toNatClampNeg)) <|
  f_X12_doRule_J28 p0 p1 p2 p3 p0 ((ha_gA z37.2 r39 (((p1 : Int32) - 1) : Int32).toNatClampNeg)) z37.2) else
  (f_X12_doRule_J16 p0 p1 p2 p3 p0 z37.2))

def f_X12_step_J243 (p0 : Nat) (p1 : Int32)  (S : ha_St) : Option (ha_St) :=
  some S
def f_X12_step_J231 (p0 : Nat) (p1 : Int32)  (S : ha_St) : Option (ha_St) :=
  if ((ha_gI S p0 40) : Int32) = 0 then (f_X12_step_J243 p0 p1  S) else
  (ha_nm (ha_sI S p0 39 p1) fun S2 =>
  f_X12_step_J243 p0 p1  S2)
def f_X12_step_L195_J225 (p0 : Nat) (p1 : Int32) (self : (Int32 × ha_St) → Option (ha_St)) (v2 : Int32) (S : ha_St) : Option (ha_St) :=
  ha_nm ((v2 : Int32) + 1) fun x3 =>
  self (x3, S)
def f_X12_step_L195 (p0 : Nat) (p1 : Int32) (self : (Int32 × ha_St) → Option (ha_St)) (v2 : Int32) (S : ha_St) : Option (ha_St) :=
  if (((4 : Int32) * (ha_gI S p0 4)) : Int32) ≤ v2 then (some S) else
  ((ha_rf mo_kd S p0 34 100).bind fun r5 =>
  ha_gd (¬ ((v2 : Int32) < 0 ∨ mo_ln r5 ≤ (v2 : Int32).toNatClampNeg)) <|
  (ha_rf mo_kd S p0 47 100).bind fun r7 =>
  ha_gd (¬ ((v2 : Int32) < 0 ∨ mo_ln r7 ≤ (v2 : Int32).toNatClampNeg)) <|
  if ((ha_gA S r5 (v2 : Int32).toNatClampNeg) : Int32) = (ha_gA S r7 (v2 : Int32).toNatClampNeg) then (f_X12_step_L195_J225 p0 p1 self v2 S) else
  (ha_gd ((1 : Int32) = 0 ∨ (1 : Int32) = 1) <|
  ha_nm (ha_sI S p0 40 1) fun S10 =>
  f_X12_step_L195_J225 p0 p1 self v2 S10))
def f_X12_step_L195i (p0 : Nat) (p1 : Int32) : Nat → (Int32 × ha_St) → Option (ha_St) := ha_itr (fun self z => f_X12_step_L195 p0 p1 self z.1 z.2)
def f_X12_step_J193 (p0 : Nat) (p1 : Int32)  (S : ha_St) : Option (ha_St) :=
  (f_X12_step_L195i p0 p1 ha_fu (0, S)).bind (fun z => f_X12_step_J231 p0 p1  z)
def f_X12_step_L110_J186 (p0 : Nat) (p1 : Int32) (self : (Int32 × ha_St) → Option (ha_St)) (v2 : Int32) (k0 : Nat) (k1 : Int32) (k2 : Int32) (S : ha_St) : Option (ha_St) :=
  ha_gd (¬ ((k1 : Int32) < 0 ∨ mo_ln k0 ≤ (k1 : Int32).toNatClampNeg)) <|
  ha_nm (ha_sA S k0 (upd (ha_gA S k0) (k1 : Int32).toNatClampNeg k2)) fun S15 =>
  ha_nm ((v2 : Int32) + 1) fun x16 =>
  self (x16, S15)
def f_X12_step_L110_J138 (p0 : Nat) (p1 : Int32) (self : (Int32 × ha_St) → Option (ha_St)) (v2 : Int32) (S : ha_St) : Option (ha_St) :=
  (ha_rf mo_kd S p0 35 100).bind fun r17 =>
  (ha_rf mo_kd S p0 32 100).bind fun r18 =>
  ha_gd (¬ ((v2 : Int32) < 0 ∨ mo_ln r18 ≤ (v2 : Int32).toNatClampNeg)) <|
  (ha_rf mo_kd S p0 33 100).bind fun r20 =>
  ha_gd (¬ ((v2 : Int32) < 0 ∨ mo_ln r20 ≤ (v2 : Int32).toNatClampNeg)) <|
  if ((ha_gA S r18 (v2 : Int32).toNatClampNeg) : Int32) = (ha_gA S r20 (v2 : Int32).toNatClampNeg) then ((ha_rf mo_kd S p0 35 100).bind fun r23 =>
  ha_gd (¬ ((v2 : Int32) < 0 ∨ mo_ln r23 ≤ (v2 : Int32).toNatClampNeg)) <|
  if (99 : Int32) ≤ (ha_gA S r23 (v2 : Int32).toNatClampNeg) then (f_X12_step_L110_J186 p0 p1 self v2 r17 v2 99 S) else
  ((ha_rf mo_kd S p0 35 100).bind fun r26 =>
  ha_gd (¬ ((v2 : Int32) < 0 ∨ mo_ln r26 ≤ (v2 : Int32).toNatClampNeg)) <|
  f_X12_step_L110_J186 p0 p1 self v2 r17 v2 ((((ha_gA S r26 (v2 : Int32).toNatClampNeg) : Int32) + 1)) S)) else
  (f_X12_step_L110_J186 p0 p1 self v2 r17 v2 0 S)
def f_X12_step_L110 (p0 : Nat) (p1 : Int32) (self : (Int32 × ha_St) → Option (ha_St)) (v2 : Int32) (S : ha_St) : Option (ha_St) :=
  if ((ha_gI S p0 4) : Int32) ≤ v2 then (some S) else
  ((ha_rf mo_kd S p0 32 100).bind fun r29 =>
  ha_gd (¬ ((v2 : Int32) < 0 ∨ mo_ln r29 ≤ (v2 : Int32).toNatClampNeg)) <|
  (ha_rf mo_kd S p0 33 100).bind fun r31 =>
  ha_gd (¬ ((v2 : Int32) < 0 ∨ mo_ln r31 ≤ (v2 : Int32).toNatClampNeg)) <|
  if ((ha_gA S r29 (v2 : Int32).toNatClampNeg) : Int32) = (ha_gA S r31 (v2 : Int32).toNatClampNeg) then (f_X12_step_L110_J138 p0 p1 self v2 S) else
  (ha_gd ((1 : Int32) = 0 ∨ (1 : Int32) = 1) <|
  ha_nm (ha_sI S p0 40 1) fun S34 =>
  f_X12_step_L110_J138 p0 p1 self v2 S34))
def f_X12_step_L110i (p0 : Nat) (p1 : Int32) : Nat → (Int32 × ha_St) → Option (ha_St) := ha_itr (fun self z => f_X12_step_L110 p0 p1 self z.1 z.2)
def f_X12_step_J108 (p0 : Nat) (p1 : Int32)  (S : ha_St) : Option (ha_St) :=
  (f_X12_step_L110i p0 p1 ha_fu (0, S)).bind (fun z => f_X12_step_J193 p0 p1  z)
def f_X12_step_L65_J99 (p0 : Nat) (p1 : Int32) (self : (Int32 × ha_St) → Option (ha_St)) (v2 : Int32) (k0 : Nat) (k1 : Int32) (k2 : Int32) (k3 : Int32) (S : ha_St) : Option (ha_St) :=
  (f_X12_doRule k0 k1 k2 k3 S).bind fun z38 =>
  ha_nm ((v2 : Int32) + 1) fun x39 =>
  self (x39, z38)
def f_X12_step_L65 (p0 : Nat) (p1 : Int32) (self : (Int32 × ha_St) → Option (ha_St)) (v2 : Int32) (S : ha_St) : Option (ha_St) :=
  if ((ha_gI S p0 4) : Int32) ≤ v2 then (some S) else
  (if ¬ (v2 : Int32) = 0 then (if ¬ (v2 : Int32) = (((ha_gI S p0 4) : Int32) - 1) then (f_X12_step_L65_J99 p0 p1 self v2 p0 v2 p1 2 S) else
  (f_X12_step_L65_J99 p0 p1 self v2 p0 v2 p1 1 S)) else
  (f_X12_step_L65_J99 p0 p1 self v2 p0 v2 p1 0 S))
def f_X12_step_L65i (p0 : Nat) (p1 : Int32) : Nat → (Int32 × ha_St) → Option (ha_St) := ha_itr (fun self z => f_X12_step_L65 p0 p1 self z.1 z.2)
def f_X12_step_J63 (p0 : Nat) (p1 : Int32)  (S : ha_St) : Option (ha_St) :=
  (f_X12_step_L65i p0 p1 ha_fu (0, S)).bind (fun z => f_X12_step_J108 p0 p1  z)
def f_X12_step_L35 (p0 : Nat) (p1 : Int32) (self : (Int32 × ha_St) → Option (ha_St)) (v2 : Int32) (S : ha_St) : Option (ha_St) :=
  if (((4 : Int32) * (ha_gI S p0 4)) : Int32) ≤ v2 then (some S) else
  ((ha_rf mo_kd S p0 47 100).bind fun r46 =>
  (ha_rf mo_kd S p0 34 100).bind fun r47 =>
  ha_gd (¬ ((v2 : Int32) < 0 ∨ mo_ln r47 ≤ (v2 : Int32).toNatClampNeg)) <|
  ha_gd (¬ ((v2 : Int32) < 0 ∨ mo_ln r46 ≤ (v2 : Int32).toNatClampNeg)) <|
  ha_nm (ha_sA S r46 (upd (ha_gA S r46) (v2 : Int32).toNatClampNeg (ha_gA S r47 (v2 : Int32).toNatClampNeg))) fun S50 =>
  ha_nm ((v2 : Int32) + 1) fun x51 =>
  self (x51, S50))
def f_X12_step_L35i (p0 : Nat) (p1 : Int32) : Nat → (Int32 × ha_St) → Option (ha_St) := ha_itr (fun self z => f_X12_step_L35 p0 p1 self z.1 z.2)
def f_X12_step_J33 (p0 : Nat) (p1 : Int32)  (S : ha_St) : Option (ha_St) :=
  (f_X12_step_L35i p0 p1 ha_fu (0, S)).bind (fun z => f_X12_step_J63 p0 p1  z)
def f_X12_step_L7 (p0 : Nat) (p1 : Int32) (self : (Int32 × ha_St) → Option (ha_St)) (v2 : Int32) (S : ha_St) : Option (ha_St) :=
  if ((ha_gI S p0 4) : Int32) ≤ v2 then (some S) else
  ((ha_rf mo_kd S p0 33 100).bind fun r57 =>
  (ha_rf mo_kd S p0 32 100).bind fun r58 =>
  ha_gd (¬ ((v2 : Int32) < 0 ∨ mo_ln r58 ≤ (v2 : Int32).toNatClampNeg)) <|
  ha_gd (¬ ((v2 : Int32) < 0 ∨ mo_ln r57 ≤ (v2 : Int32).toNatClampNeg)) <|
  ha_nm (ha_sA S r57 (upd (ha_gA S r57) (v2 : Int32).toNatClampNeg (ha_gA S r58 (v2 : Int32).toNatClampNeg))) fun S61 =>
  ha_nm ((v2 : Int32) + 1) fun x62 =>
  self (x62, S61))
def f_X12_step_L7i (p0 : Nat) (p1 : Int32) : Nat → (Int32 × ha_St) → Option (ha_St) := ha_itr (fun self z => f_X12_step_L7 p0 p1 self z.1 z.2)
def f_X12_step (p0 : Nat) (p1 : Int32) (S : ha_St) : Option (ha_St) :=
  ha_gd ((0 : Int32) = 0 ∨ (0 : Int32) = 1) <|
  ha_nm (ha_sI S p0 40 0) fun S54 =>
  (f_X12_step_L7i p0 p1 ha_fu (0, S54)).bind (fun z => f_X12_step_J33 p0 p1  z)

def f_X12_begin_J51 (p0 : Nat)  (S : ha_St) : Option (ha_St) :=
  ha_nm (ha_sI S p0 37 0) fun S1 =>
  ha_nm (ha_sI S1 p0 38 0) fun S2 =>
  ha_nm (ha_sI S2 p0 39 0) fun S3 =>
  some S3
def f_X12_begin_L32 (p0 : Nat) (self : (Int32 × ha_St) → Option (ha_St)) (v1 : Int32) (S : ha_St) : Option (ha_St) :=
  if (64 : Int32) ≤ v1 then (some S) else
  ((ha_rf mo_kd S p0 34 100).bind fun r5 =>
  ha_gd (¬ ((v1 : Int32) < 0 ∨ mo_ln r5 ≤ (v1 : Int32).toNatClampNeg)) <|
  ha_nm (ha_sA S r5 (upd (ha_gA S r5) (v1 : Int32).toNatClampNeg 0)) fun S7 =>
  ha_nm ((v1 : Int32) + 1) fun x8 =>
  self (x8, S7))
def f_X12_begin_L32i (p0 : Nat) : Nat → (Int32 × ha_St) → Option (ha_St) := ha_itr (fun self z => f_X12_begin_L32 p0 self z.1 z.2)
def f_X12_begin_J30 (p0 : Nat)  (S : ha_St) : Option (ha_St) :=
  (f_X12_begin_L32i p0 ha_fu (0, S)).bind (fun z => f_X12_begin_J51 p0  z)
def f_X12_begin_L2 (p0 : Nat) (self : (Int32 × ha_St) → Option (ha_St)) (v1 : Int32) (S : ha_St) : Option (ha_St) :=
  if ((ha_gI S p0 4) : Int32) ≤ v1 then (some S) else
  ((ha_rf mo_kd S p0 32 100).bind fun r12 =>
  ha_gd (¬ ((v1 : Int32) < 0 ∨ mo_ln r12 ≤ (v1 : Int32).toNatClampNeg)) <|
  ha_nm (ha_sA S r12 (upd (ha_gA S r12) (v1 : Int32).toNatClampNeg 0)) fun S14 =>
  (ha_rf mo_kd S14 p0 35 100).bind fun r15 =>
  ha_gd (¬ ((v1 : Int32) < 0 ∨ mo_ln r15 ≤ (v1 : Int32).toNatClampNeg)) <|
  ha_nm (ha_sA S14 r15 (upd (ha_gA S14 r15) (v1 : Int32).toNatClampNeg 0)) fun S17 =>
  ha_nm ((v1 : Int32) + 1) fun x18 =>
  self (x18, S17))
def f_X12_begin_L2i (p0 : Nat) : Nat → (Int32 × ha_St) → Option (ha_St) := ha_itr (fun self z => f_X12_begin_L2 p0 self z.1 z.2)
def f_X12_begin (p0 : Nat) (S : ha_St) : Option (ha_St) :=
  (f_X12_begin_L2i p0 ha_fu (0, S)).bind (fun z => f_X12_begin_J30 p0  z)

def f_X12_judged_J70 (p0 : Nat) (k0 : Int32) (S : ha_St) : Option (Int32 × ha_St) :=
  some (k0, S)
def f_X12_judged_J39 (p0 : Nat) (v1 : Int32) (S : ha_St) : Option (Int32 × ha_St) :=
  ha_nm (ha_sI S p0 48 v1) fun S1 =>
  if ((ha_gI S1 p0 37) : Int32) ≤ v1 then (if ¬ ((ha_gI S1 p0 37) : Int32) = (ha_gI S1 p0 30) then (f_X12_judged_J70 p0 1 S1) else
  (f_X12_judged_J70 p0 0 S1)) else
  (some (2, S1))
def f_X12_judged_L2 (p0 : Nat) (self : (Int32 × ha_St) → Option (Int32 × ha_St)) (v1 : Int32) (S : ha_St) : Option (Int32 × ha_St) :=
  if ((ha_gI S p0 37) : Int32) ≤ v1 then (some (v1, S)) else
  (if ((ha_gI S p0 30) : Int32) ≤ v1 then (some (v1, S)) else
  ((ha_rf mo_kd S p0 36 100).bind fun r6 =>
  ha_gd (¬ ((v1 : Int32) < 0 ∨ mo_ln r6 ≤ (v1 : Int32).toNatClampNeg)) <|
  (ha_rf mo_kd S p0 26 100).bind fun r8 =>
  ha_gd (¬ ((v1 : Int32) < 0 ∨ mo_ln r8 ≤ (v1 : Int32).toNatClampNeg)) <|
  if ¬ ((ha_gA S r6 (v1 : Int32).toNatClampNeg) : Int32) = (ha_gA S r8 (v1 : Int32).toNatClampNeg) then (some (v1, S)) else
  (ha_nm ((v1 : Int32) + 1) fun x11 =>
  self (x11, S))))
def f_X12_judged_L2i (p0 : Nat) : Nat → (Int32 × ha_St) → Option (Int32 × ha_St) := ha_itr (fun self z => f_X12_judged_L2 p0 self z.1 z.2)
def f_X12_judged (p0 : Nat) (S : ha_St) : Option (Int32 × ha_St) :=
  (f_X12_judged_L2i p0 ha_fu (0, S)).bind (fun z => f_X12_judged_J39 p0 z.1 z.2)

def f_X12_play_J216 (p0 : Nat) (p1 : Int32) (k0 : Nat) (k1 : Int32) (S : ha_St) : Option (Int32 × ha_St) :=
  ha_nm (ha_sI S k0 57 k1) fun S1 =>
  ha_nm (ha_sI S1 p0 58 (ha_gI S1 p0 39)) fun S2 =>
  ha_nm (ha_sI S2 p0 59 (ha_gI S2 p0 38)) fun S3 =>
  some ((ha_gI S3 p0 37), S3)
def f_X12_play_J183 (p0 : Nat) (p1 : Int32)  (S : ha_St) : Option (Int32 × ha_St) :=
  ha_nm (ha_sI S p0 55 (ha_gI S p0 37)) fun S4 =>
  (f_X12_judged p0 S4).bind fun z5 =>
  ha_nm (ha_sI z5.2 p0 56 z5.1) fun S6 =>
  if ¬ ((ha_gI S6 p0 56) : Int32) = 2 then (f_X12_play_J216 p0 p1 p0 (-1) S6) else
  (f_X12_play_J216 p0 p1 p0 ((ha_gI S6 p0 48)) S6)
def f_X12_play_L157 (p0 : Nat) (p1 : Int32) (self : (Int32 × ha_St) → Option (ha_St)) (v2 : Int32) (S : ha_St) : Option (ha_St) :=
  if ((ha_gI S p0 37) : Int32) ≤ v2 then (some S) else
  ((ha_rf mo_kd S p0 52 100).bind fun r9 =>
  (ha_rf mo_kd S p0 36 100).bind fun r10 =>
  ha_gd (¬ ((v2 : Int32) < 0 ∨ mo_ln r10 ≤ (v2 : Int32).toNatClampNeg)) <|
  ha_gd (¬ ((v2 : Int32) < 0 ∨ mo_ln r9 ≤ (v2 : Int32).toNatClampNeg)) <|
  ha_nm (ha_sA S r9 (upd (ha_gA S r9) (v2 : Int32).toNatClampNeg (ha_gA S r10 (v2 : Int32).toNatClampNeg))) fun S13 =>
  ha_nm ((v2 : Int32) + 1) fun x14 =>
  self (x14, S13))
def f_X12_play_L157i (p0 : Nat) (p1 : Int32) : Nat → (Int32 × ha_St) → Option (ha_St) := ha_itr (fun self z => f_X12_play_L157 p0 p1 self z.1 z.2)
def f_X12_play_J155 (p0 : Nat) (p1 : Int32)  (S : ha_St) : Option (Int32 × ha_St) :=
  (f_X12_play_L157i p0 p1 ha_fu (0, S)).bind (fun z => f_X12_play_J183 p0 p1  z)
def f_X12_play_L129 (p0 : Nat) (p1 : Int32) (self : (Int32 × ha_St) → Option (ha_St)) (v2 : Int32) (S : ha_St) : Option (ha_St) :=
  if ((ha_gI S p0 4) : Int32) ≤ v2 then (some S) else
  ((ha_rf mo_kd S p0 51 100).bind fun r18 =>
  (ha_rf mo_kd S p0 35 100).bind fun r19 =>
  ha_gd (¬ ((v2 : Int32) < 0 ∨ mo_ln r19 ≤ (v2 : Int32).toNatClampNeg)) <|
  ha_gd (¬ ((v2 : Int32) < 0 ∨ mo_ln r18 ≤ (v2 : Int32).toNatClampNeg)) <|
  ha_nm (ha_sA S r18 (upd (ha_gA S r18) (v2 : Int32).toNatClampNeg (ha_gA S r19 (v2 : Int32).toNatClampNeg))) fun S22 =>
  ha_nm ((v2 : Int32) + 1) fun x23 =>
  self (x23, S22))
def f_X12_play_L129i (p0 : Nat) (p1 : Int32) : Nat → (Int32 × ha_St) → Option (ha_St) := ha_itr (fun self z => f_X12_play_L129 p0 p1 self z.1 z.2)
def f_X12_play_J127 (p0 : Nat) (p1 : Int32)  (S : ha_St) : Option (Int32 × ha_St) :=
  (f_X12_play_L129i p0 p1 ha_fu (0, S)).bind (fun z => f_X12_play_J155 p0 p1  z)
def f_X12_play_L103 (p0 : Nat) (p1 : Int32) (self : (Int32 × ha_St) → Option (ha_St)) (v2 : Int32) (S : ha_St) : Option (ha_St) :=
  if (64 : Int32) ≤ v2 then (some S) else
  ((ha_rf mo_kd S p0 50 100).bind fun r29 =>
  (ha_rf mo_kd S p0 34 100).bind fun r30 =>
  ha_gd (¬ ((v2 : Int32) < 0 ∨ mo_ln r30 ≤ (v2 : Int32).toNatClampNeg)) <|
  ha_gd (¬ ((v2 : Int32) < 0 ∨ mo_ln r29 ≤ (v2 : Int32).toNatClampNeg)) <|
  ha_nm (ha_sA S r29 (upd (ha_gA S r29) (v2 : Int32).toNatClampNeg (ha_gA S r30 (v2 : Int32).toNatClampNeg))) fun S33 =>
  ha_nm ((v2 : Int32) + 1) fun x34 =>
  self (x34, S33))
def f_X12_play_L103i (p0 : Nat) (p1 : Int32) : Nat → (Int32 × ha_St) → Option (ha_St) := ha_itr (fun self z => f_X12_play_L103 p0 p1 self z.1 z.2)
def f_X12_play_J88 (p0 : Nat) (p1 : Int32)  (S : ha_St) : Option (Int32 × ha_St) :=
  ha_nm (ha_sI S p0 53 p1) fun S26 =>
  ha_nm (ha_sI S26 p0 54 (ha_gI S26 p0 4)) fun S27 =>
  (f_X12_play_L103i p0 p1 ha_fu (0, S27)).bind (fun z => f_X12_play_J127 p0 p1  z)
def f_X12_play_L34_J82 (p0 : Nat) (p1 : Int32) (self : (Int32 × ha_St) → Option (ha_St)) (v2 : Int32) (S : ha_St) : Option (ha_St) :=
  ha_nm ((v2 : Int32) + 1) fun x43 =>
  self (x43, S)
def f_X12_play_L50 (p0 : Nat) (p1 : Int32) (self : (Int32 × Int32 × ha_St) → Option (Int32 × ha_St)) (v2 : Int32) (v3 : Int32) (S : ha_St) : Option (Int32 × ha_St) :=
  if ((ha_gI S p0 4) : Int32) ≤ v3 then (some (v2, S)) else
  ((ha_rf mo_kd S p0 49 101).bind fun r45 =>
  (ha_rf mo_kd S p0 32 100).bind fun r46 =>
  ha_gd (¬ ((v3 : Int32) < 0 ∨ mo_ln r46 ≤ (v3 : Int32).toNatClampNeg)) <|
  ha_gd (¬ ((((((16 : Int32) * v2) : Int32) + v3) : Int32) < 0 ∨ mo_ln r45 ≤ (((((16 : Int32) * v2) : Int32) + v3) : Int32).toNatClampNeg)) <|
  ha_nm (ha_sA S r45 (upd (ha_gA S r45) (((((16 : Int32) * v2) : Int32) + v3) : Int32).toNatClampNeg (vp_nar .byte (((ha_gA S r46 (v3 : Int32).toNatClampNeg) : Int32).toInt8.toInt32)))) fun S49 =>
  ha_nm ((v3 : Int32) + 1) fun x50 =>
  self (v2, x50, S49))
def f_X12_play_L50i (p0 : Nat) (p1 : Int32) : Nat → (Int32 × Int32 × ha_St) → Option (Int32 × ha_St) := ha_itr (fun self z => f_X12_play_L50 p0 p1 self z.1 z.2.1 z.2.2)
def f_X12_play_L34_J48 (p0 : Nat) (p1 : Int32) (self : (Int32 × ha_St) → Option (ha_St)) (v2 : Int32) (S : ha_St) : Option (ha_St) :=
  (f_X12_play_L50i p0 p1 ha_fu (v2, 0, S)).bind (fun z => f_X12_play_L34_J82 p0 p1 self z.1 z.2)
def f_X12_play_L34 (p0 : Nat) (p1 : Int32) (self : (Int32 × ha_St) → Option (ha_St)) (v2 : Int32) (S : ha_St) : Option (ha_St) :=
  if (p1 : Int32) < v2 then (some S) else
  (if (v2 : Int32) ≤ 0 then (f_X12_play_L34_J48 p0 p1 self v2 S) else
  ((f_X12_step p0 v2 S).bind fun z55 =>
  f_X12_play_L34_J48 p0 p1 self v2 z55))
def f_X12_play_L34i (p0 : Nat) (p1 : Int32) : Nat → (Int32 × ha_St) → Option (ha_St) := ha_itr (fun self z => f_X12_play_L34 p0 p1 self z.1 z.2)
def f_X12_play (p0 : Nat) (p1 : Int32) (S : ha_St) : Option (Int32 × ha_St) :=
  ha_nm (ha_sI S p0 0 0) fun S37 =>
  (f_X12_isIn p1 0 500).bind fun z38 =>
  if ¬ (z38 : Int32) = 0 then (ha_nm (ha_sI S37 p0 41 0) fun S40 =>
  ha_nm (ha_sI S40 p0 43 0) fun S41 =>
  (f_X12_begin p0 S41).bind fun z42 =>
  (f_X12_play_L34i p0 p1 ha_fu (0, z42)).bind (fun z => f_X12_play_J88 p0 p1  z)) else
  (some ((-1), S37))

def f_X12_isPlayed_J25 (p0 : Nat) (p1 : Int32) (k0 : Int32) (S : ha_St) : Option (Int32 × ha_St) :=
  ha_gd ((k0 : Int32) = 0 ∨ (k0 : Int32) = 1) <|
  some (k0, S)
def f_X12_isPlayed_J24 (p0 : Nat) (p1 : Int32)  (S : ha_St) : Option (Int32 × ha_St) :=
  f_X12_isPlayed_J25 p0 p1 0 S
def f_X12_isPlayed (p0 : Nat) (p1 : Int32) (S : ha_St) : Option (Int32 × ha_St) :=
  if ((ha_gI S p0 53) : Int32) = (-1) then (f_X12_isPlayed_J24 p0 p1  S) else
  (if (p1 : Int32) < 0 then (f_X12_isPlayed_J24 p0 p1  S) else
  (if ((ha_gI S p0 54) : Int32) ≤ p1 then (f_X12_isPlayed_J24 p0 p1  S) else
  (f_X12_isPlayed_J25 p0 p1 1 S)))

def f_X12_shown_J40 (p0 : Nat) (p1 : Int32) (p2 : Int32) (k0 : Int32) (S : ha_St) : Option (Int32 × ha_St) :=
  some (k0, S)
def f_X12_shown_J39 (p0 : Nat) (p1 : Int32) (p2 : Int32)  (S : ha_St) : Option (Int32 × ha_St) :=
  f_X12_shown_J40 p0 p1 p2 (-1) S
def f_X12_shown (p0 : Nat) (p1 : Int32) (p2 : Int32) (S : ha_St) : Option (Int32 × ha_St) :=
  ha_nm (ha_sI S p0 0 0) fun S1 =>
  (f_X12_isPlayed p0 p1 S1).bind fun z2 =>
  if (z2.1 : Int32) = 0 then (f_X12_shown_J39 p0 p1 p2  z2.2) else
  ((f_X12_isIn p2 0 ((ha_gI z2.2 p0 53))).bind fun z4 =>
  if (z4 : Int32) = 0 then (f_X12_shown_J39 p0 p1 p2  z2.2) else
  ((ha_rf mo_kd z2.2 p0 49 101).bind fun r6 =>
  ha_gd (¬ ((((((16 : Int32) * p2) : Int32) + p1) : Int32) < 0 ∨ mo_ln r6 ≤ (((((16 : Int32) * p2) : Int32) + p1) : Int32).toNatClampNeg)) <|
  f_X12_shown_J40 p0 p1 p2 ((ha_gA z2.2 r6 (((((16 : Int32) * p2) : Int32) + p1) : Int32).toNatClampNeg)) z2.2))

def f_X12_cell_J48 (p0 : Nat) (p1 : Int32) (p2 : Int32) (k0 : Int32) (S : ha_St) : Option (Int32 × ha_St) :=
  some (k0, S)
def f_X12_cell_J22 (p0 : Nat) (p1 : Int32) (p2 : Int32)  (S : ha_St) : Option (Int32 × ha_St) :=
  some ((-1), S)
def f_X12_cell (p0 : Nat) (p1 : Int32) (p2 : Int32) (S : ha_St) : Option (Int32 × ha_St) :=
  ha_nm (ha_sI S p0 0 0) fun S1 =>
  (f_X12_isPlayed p0 p1 S1).bind fun z2 =>
  if (z2.1 : Int32) = 0 then (f_X12_cell_J22 p0 p1 p2  z2.2) else
  ((f_X12_isIn p2 0 4).bind fun z4 =>
  if ¬ (z4 : Int32) = 0 then (if ¬ (p2 : Int32) = 4 then ((ha_rf mo_kd z2.2 p0 50 100).bind fun r7 =>
  ha_gd (¬ ((((((4 : Int32) * p1) : Int32) + p2) : Int32) < 0 ∨ mo_ln r7 ≤ (((((4 : Int32) * p1) : Int32) + p2) : Int32).toNatClampNeg)) <|
  f_X12_cell_J48 p0 p1 p2 ((ha_gA z2.2 r7 (((((4 : Int32) * p1) : Int32) + p2) : Int32).toNatClampNeg)) z2.2) else
  ((ha_rf mo_kd z2.2 p0 51 100).bind fun r9 =>
  ha_gd (¬ ((p1 : Int32) < 0 ∨ mo_ln r9 ≤ (p1 : Int32).toNatClampNeg)) <|
  f_X12_cell_J48 p0 p1 p2 ((ha_gA z2.2 r9 (p1 : Int32).toNatClampNeg)) z2.2)) else
  (f_X12_cell_J22 p0 p1 p2  z2.2))

def f_X12_written_J35 (p0 : Nat) (p1 : Int32) (k0 : Int32) (S : ha_St) : Option (Int32 × ha_St) :=
  some (k0, S)
def f_X12_written_J34 (p0 : Nat) (p1 : Int32)  (S : ha_St) : Option (Int32 × ha_St) :=
  f_X12_written_J35 p0 p1 (-1) S
def f_X12_written (p0 : Nat) (p1 : Int32) (S : ha_St) : Option (Int32 × ha_St) :=
  ha_nm (ha_sI S p0 0 0) fun S1 =>
  if ((ha_gI S1 p0 53) : Int32) = (-1) then (f_X12_written_J34 p0 p1  S1) else
  (if (p1 : Int32) < 0 then (f_X12_written_J34 p0 p1  S1) else
  (if ((ha_gI S1 p0 55) : Int32) ≤ p1 then (f_X12_written_J34 p0 p1  S1) else
  ((ha_rf mo_kd S1 p0 52 100).bind fun r5 =>
  ha_gd (¬ ((p1 : Int32) < 0 ∨ mo_ln r5 ≤ (p1 : Int32).toNatClampNeg)) <|
  f_X12_written_J35 p0 p1 ((ha_gA S1 r5 (p1 : Int32).toNatClampNeg)) S1)))

def f_X12_played (p0 : Nat) (p1 : Int32) (S : ha_St) : Option (Int32 × ha_St) :=
  ha_nm (ha_sI S p0 0 0) fun S1 =>
  if ¬ ((ha_gI S1 p0 53) : Int32) = (-1) then (ha_nm (p1 : Int32) fun xs =>
  if xs = 0 then (some ((ha_gI S1 p0 56), S1)) else
  (if xs = 1 then (some ((ha_gI S1 p0 57), S1)) else
  (if xs = 2 then (some ((ha_gI S1 p0 58), S1)) else
  (if xs = 3 then (some ((ha_gI S1 p0 59), S1)) else
  (some ((-1), S1)))))) else
  (some ((-1), S1))

def f_X12_isWhole_J34 (p0 : Nat) (p1 : Int32) (k0 : Int32) (S : ha_St) : Option (Int32 × ha_St) :=
  ha_gd ((k0 : Int32) = 0 ∨ (k0 : Int32) = 1) <|
  some (k0, S)
def f_X12_isWhole_J22 (p0 : Nat) (p1 : Int32)  (S : ha_St) : Option (Int32 × ha_St) :=
  (f_X12_judged p0 S).bind fun z2 =>
  if ¬ (z2.1 : Int32) = 0 then (f_X12_isWhole_J34 p0 p1 0 z2.2) else
  (f_X12_isWhole_J34 p0 p1 1 z2.2)
def f_X12_isWhole_L6 (p0 : Nat) (p1 : Int32) (self : (Int32 × ha_St) → Option (ha_St)) (v2 : Int32) (S : ha_St) : Option (ha_St) :=
  if (p1 : Int32) < v2 then (some S) else
  ((f_X12_step p0 v2 S).bind fun z6 =>
  ha_nm ((v2 : Int32) + 1) fun x7 =>
  self (x7, z6))
def f_X12_isWhole_L6i (p0 : Nat) (p1 : Int32) : Nat → (Int32 × ha_St) → Option (ha_St) := ha_itr (fun self z => f_X12_isWhole_L6 p0 p1 self z.1 z.2)
def f_X12_isWhole (p0 : Nat) (p1 : Int32) (S : ha_St) : Option (Int32 × ha_St) :=
  (f_X12_begin p0 S).bind fun z4 =>
  (f_X12_isWhole_L6i p0 p1 ha_fu (1, z4)).bind (fun z => f_X12_isWhole_J22 p0 p1  z)

def f_X12_breaks_J156 (p0 : Nat) (p1 : Int32) (p2 : Int32) (p3 : Int32) (k0 : Nat) (k1 : Int32) (S : ha_St) : Option (Int32 × ha_St) :=
  ha_nm (ha_sI S k0 62 k1) fun S1 =>
  some (1, S1)
def f_X12_breaks_J81 (p0 : Nat) (p1 : Int32) (p2 : Int32) (p3 : Int32) (k0 : Nat) (k1 : Int32) (S : ha_St) : Option (Int32 × ha_St) :=
  ha_nm (ha_sI S k0 44 k1) fun S2 =>
  (f_X12_isWhole p0 p3 S2).bind fun z3 =>
  if (z3.1 : Int32) = 0 then ((ha_rf mo_kd z3.2 p0 60 100).bind fun r5 =>
  ha_gd (¬ ((0 : Int32) < 0 ∨ mo_ln r5 ≤ (0 : Int32).toNatClampNeg)) <|
  ha_nm (ha_sA z3.2 r5 (upd (ha_gA z3.2 r5) (0 : Int32).toNatClampNeg (ha_gI z3.2 p0 41))) fun S7 =>
  (ha_rf mo_kd S7 p0 61 100).bind fun r8 =>
  ha_gd (¬ ((0 : Int32) < 0 ∨ mo_ln r8 ≤ (0 : Int32).toNatClampNeg)) <|
  ha_nm (ha_sA S7 r8 (upd (ha_gA S7 r8) (0 : Int32).toNatClampNeg (ha_gI S7 p0 42))) fun S10 =>
  (ha_rf mo_kd S10 p0 60 100).bind fun r11 =>
  ha_gd (¬ ((1 : Int32) < 0 ∨ mo_ln r11 ≤ (1 : Int32).toNatClampNeg)) <|
  ha_nm (ha_sA S10 r11 (upd (ha_gA S10 r11) (1 : Int32).toNatClampNeg (ha_gI S10 p0 43))) fun S13 =>
  (ha_rf mo_kd S13 p0 61 100).bind fun r14 =>
  ha_gd (¬ ((1 : Int32) < 0 ∨ mo_ln r14 ≤ (1 : Int32).toNatClampNeg)) <|
  ha_nm (ha_sA S13 r14 (upd (ha_gA S13 r14) (1 : Int32).toNatClampNeg (ha_gI S13 p0 44))) fun S16 =>
  if (0 : Int32) ≤ p1 then (if (0 : Int32) ≤ p2 then (f_X12_breaks_J156 p0 p1 p2 p3 p0 2 S16) else
  (f_X12_breaks_J156 p0 p1 p2 p3 p0 1 S16)) else
  (f_X12_breaks_J156 p0 p1 p2 p3 p0 0 S16)) else
  (some (0, z3.2))
def f_X12_breaks_J61 (p0 : Nat) (p1 : Int32) (p2 : Int32) (p3 : Int32) (k0 : Nat) (k1 : Int32) (S : ha_St) : Option (Int32 × ha_St) :=
  ha_nm (ha_sI S k0 43 k1) fun S19 =>
  if (0 : Int32) ≤ p2 then (ha_gd (¬ ((((ha_gI S19 p0 4) : Int32) - 1) : Int32) = 0) <|
  f_X12_breaks_J81 p0 p1 p2 p3 p0 (((p2 : Int32) - p2 / (((ha_gI S19 p0 4) : Int32) - 1) * (((ha_gI S19 p0 4) : Int32) - 1))) S19) else
  (f_X12_breaks_J81 p0 p1 p2 p3 p0 0 S19)
def f_X12_breaks_J39 (p0 : Nat) (p1 : Int32) (p2 : Int32) (p3 : Int32) (k0 : Nat) (k1 : Int32) (S : ha_St) : Option (Int32 × ha_St) :=
  ha_nm (ha_sI S k0 42 k1) fun S22 =>
  if (0 : Int32) ≤ p2 then (ha_gd (¬ ((((ha_gI S22 p0 4) : Int32) - 1) : Int32) = 0) <|
  f_X12_breaks_J61 p0 p1 p2 p3 p0 (((1 : Int32) + ((p2 : Int32) / (((ha_gI S22 p0 4) : Int32) - 1)))) S22) else
  (f_X12_breaks_J61 p0 p1 p2 p3 p0 0 S22)
def f_X12_breaks_J19 (p0 : Nat) (p1 : Int32) (p2 : Int32) (p3 : Int32) (k0 : Nat) (k1 : Int32) (S : ha_St) : Option (Int32 × ha_St) :=
  ha_nm (ha_sI S k0 41 k1) fun S25 =>
  if (0 : Int32) ≤ p1 then (ha_gd (¬ ((((ha_gI S25 p0 4) : Int32) - 1) : Int32) = 0) <|
  f_X12_breaks_J39 p0 p1 p2 p3 p0 (((p1 : Int32) - p1 / (((ha_gI S25 p0 4) : Int32) - 1) * (((ha_gI S25 p0 4) : Int32) - 1))) S25) else
  (f_X12_breaks_J39 p0 p1 p2 p3 p0 0 S25)
def f_X12_breaks (p0 : Nat) (p1 : Int32) (p2 : Int32) (p3 : Int32) (S : ha_St) : Option (Int32 × ha_St) :=
  if (0 : Int32) ≤ p1 then (ha_gd (¬ ((((ha_gI S p0 4) : Int32) - 1) : Int32) = 0) <|
  f_X12_breaks_J19 p0 p1 p2 p3 p0 (((1 : Int32) + ((p1 : Int32) / (((ha_gI S p0 4) : Int32) - 1)))) S) else
  (f_X12_breaks_J19 p0 p1 p2 p3 p0 0 S)

def f_X12_broken_J133 (p0 : Nat) (p1 : Int32) (p2 : Int32)  (S : ha_St) : Option (Int32 × ha_St) :=
  some ((-1), S)
def f_X12_broken_L89_J127 (p0 : Nat) (p1 : Int32) (p2 : Int32) (self : (Int32 × Int32 × ha_St) → Option ((ha_St) ⊕ (Int32 × ha_St))) (v3 : Int32) (v4 : Int32) (S : ha_St) : Option ((ha_St) ⊕ (Int32 × ha_St)) :=
  ha_nm ((v4 : Int32) + 1) fun x1 =>
  self (v3, x1, S)
def f_X12_broken_L101 (p0 : Nat) (p1 : Int32) (p2 : Int32) (self : (Int32 × Int32 × Int32 × ha_St) → Option ((Int32 × Int32 × ha_St) ⊕ (Int32 × ha_St))) (v3 : Int32) (v4 : Int32) (v5 : Int32) (S : ha_St) : Option ((Int32 × Int32 × ha_St) ⊕ (Int32 × ha_St)) :=
  if (v3 : Int32) ≤ v5 then (some (.inl (v3, v4, S))) else
  ((f_X12_breaks p0 v4 v5 p1 S).bind fun z5 =>
  if (z5.1 : Int32) = 0 then (ha_nm ((v5 : Int32) + 1) fun x7 =>
  self (v3, v4, x7, z5.2)) else
  (some (.inr (2, z5.2))))
def f_X12_broken_L101i (p0 : Nat) (p1 : Int32) (p2 : Int32) : Nat → (Int32 × Int32 × Int32 × ha_St) → Option ((Int32 × Int32 × ha_St) ⊕ (Int32 × ha_St)) := ha_itr (fun self z => f_X12_broken_L101 p0 p1 p2 self z.1 z.2.1 z.2.2.1 z.2.2.2)
def f_X12_broken_L89 (p0 : Nat) (p1 : Int32) (p2 : Int32) (self : (Int32 × Int32 × ha_St) → Option ((ha_St) ⊕ (Int32 × ha_St))) (v3 : Int32) (v4 : Int32) (S : ha_St) : Option ((ha_St) ⊕ (Int32 × ha_St)) :=
  if (v3 : Int32) ≤ v4 then (some (.inl S)) else
  (ha_nm (((v4 : Int32) + 1) : Int32) fun x3 =>
  (f_X12_broken_L101i p0 p1 p2 ha_fu (v3, v4, x3, S)).bind (Sum.elim (fun z => f_X12_broken_L89_J127 p0 p1 p2 self z.1 z.2.1 z.2.2) (fun r => some (.inr r))))
def f_X12_broken_L89i (p0 : Nat) (p1 : Int32) (p2 : Int32) : Nat → (Int32 × Int32 × ha_St) → Option ((ha_St) ⊕ (Int32 × ha_St)) := ha_itr (fun self z => f_X12_broken_L89 p0 p1 p2 self z.1 z.2.1 z.2.2)
def f_X12_broken_J86 (p0 : Nat) (p1 : Int32) (p2 : Int32) (v3 : Int32) (S : ha_St) : Option (Int32 × ha_St) :=
  (f_X12_broken_L89i p0 p1 p2 ha_fu (v3, 0, S)).bind (Sum.elim (fun z => f_X12_broken_J133 p0 p1 p2  z) (fun r => some r))
def f_X12_broken_J34 (p0 : Nat) (p1 : Int32) (p2 : Int32)  (S : ha_St) : Option (Int32 × ha_St) :=
  some ((-2), S)
def f_X12_broken_L61 (p0 : Nat) (p1 : Int32) (p2 : Int32) (self : (Int32 × Int32 × ha_St) → Option ((Int32 × ha_St) ⊕ (Int32 × ha_St))) (v3 : Int32) (v4 : Int32) (S : ha_St) : Option ((Int32 × ha_St) ⊕ (Int32 × ha_St)) :=
  if (v3 : Int32) ≤ v4 then (some (.inl (v3, S))) else
  ((f_X12_breaks p0 v4 (-1) p1 S).bind fun z22 =>
  if (z22.1 : Int32) = 0 then (ha_nm ((v4 : Int32) + 1) fun x24 =>
  self (v3, x24, z22.2)) else
  (some (.inr (1, z22.2))))
def f_X12_broken_L61i (p0 : Nat) (p1 : Int32) (p2 : Int32) : Nat → (Int32 × Int32 × ha_St) → Option ((Int32 × ha_St) ⊕ (Int32 × ha_St)) := ha_itr (fun self z => f_X12_broken_L61 p0 p1 p2 self z.1 z.2.1 z.2.2)
def f_X12_broken (p0 : Nat) (p1 : Int32) (p2 : Int32) (S : ha_St) : Option (Int32 × ha_St) :=
  ha_nm (ha_sI S p0 0 0) fun S12 =>
  (f_X12_isIn p1 0 60).bind fun z13 =>
  if (z13 : Int32) = 0 then (f_X12_broken_J34 p0 p1 p2  S12) else
  ((f_X12_isIn p2 0 10).bind fun z15 =>
  if (z15 : Int32) = 0 then (f_X12_broken_J34 p0 p1 p2  S12) else
  (if ((ha_gI S12 p0 4) : Int32) ≤ 8 then (ha_nm (((p2 : Int32) * (((ha_gI S12 p0 4) : Int32) - 1)) : Int32) fun x18 =>
  (f_X12_breaks p0 (-1) (-1) p1 S12).bind fun z19 =>
  if (z19.1 : Int32) = 0 then ((f_X12_broken_L61i p0 p1 p2 ha_fu (x18, 0, z19.2)).bind (Sum.elim (fun z => f_X12_broken_J86 p0 p1 p2 z.1 z.2) (fun r => some r))) else
  (some (0, z19.2))) else
  (f_X12_broken_J34 p0 p1 p2  S12)))

def f_X12_fogAt_J47 (p0 : Nat) (p1 : Int32) (p2 : Int32) (k0 : Int32) (S : ha_St) : Option (Int32 × ha_St) :=
  some (k0, S)
def f_X12_fogAt_J17 (p0 : Nat) (p1 : Int32) (p2 : Int32)  (S : ha_St) : Option (Int32 × ha_St) :=
  some ((-1), S)
def f_X12_fogAt (p0 : Nat) (p1 : Int32) (p2 : Int32) (S : ha_St) : Option (Int32 × ha_St) :=
  ha_nm (ha_sI S p0 0 0) fun S1 =>
  if (p1 : Int32) < 0 then (f_X12_fogAt_J17 p0 p1 p2  S1) else
  (if (p1 : Int32) < (ha_gI S1 p0 62) then (if ¬ (p2 : Int32) = 0 then (if ¬ (p2 : Int32) = 1 then (f_X12_fogAt_J47 p0 p1 p2 (-1) S1) else
  ((ha_rf mo_kd S1 p0 61 100).bind fun r6 =>
  ha_gd (¬ ((p1 : Int32) < 0 ∨ mo_ln r6 ≤ (p1 : Int32).toNatClampNeg)) <|
  f_X12_fogAt_J47 p0 p1 p2 ((ha_gA S1 r6 (p1 : Int32).toNatClampNeg)) S1)) else
  ((ha_rf mo_kd S1 p0 60 100).bind fun r8 =>
  ha_gd (¬ ((p1 : Int32) < 0 ∨ mo_ln r8 ≤ (p1 : Int32).toNatClampNeg)) <|
  f_X12_fogAt_J47 p0 p1 p2 ((ha_gA S1 r8 (p1 : Int32).toNatClampNeg)) S1)) else
  (f_X12_fogAt_J17 p0 p1 p2  S1))

def f_X12_isTold_J86 (p0 : Nat) (p1 : Int32) (p2 : Int32)  (S : ha_St) : Option (Int32 × ha_St) :=
  some (1, S)
def f_X12_isTold_J33 (p0 : Nat) (p1 : Int32) (p2 : Int32)  (S : ha_St) : Option (Int32 × ha_St) :=
  some (0, S)
def f_X12_isTold_L37_J80 (p0 : Nat) (p1 : Int32) (p2 : Int32) (self : (Int32 × ha_St) → Option ((ha_St) ⊕ (Int32 × ha_St))) (v3 : Int32) (S : ha_St) : Option ((ha_St) ⊕ (Int32 × ha_St)) :=
  ha_nm ((v3 : Int32) + 1) fun x9 =>
  self (x9, S)
def f_X12_isTold_L37_J78 (p0 : Nat) (p1 : Int32) (p2 : Int32) (self : (Int32 × ha_St) → Option ((ha_St) ⊕ (Int32 × ha_St)))  (S : ha_St) : Option ((ha_St) ⊕ (Int32 × ha_St)) :=
  some (.inr (0, S))
def f_X12_isTold_L37 (p0 : Nat) (p1 : Int32) (p2 : Int32) (self : (Int32 × ha_St) → Option ((ha_St) ⊕ (Int32 × ha_St))) (v3 : Int32) (S : ha_St) : Option ((ha_St) ⊕ (Int32 × ha_St)) :=
  if (p1 : Int32) ≤ v3 then (some (.inl S)) else
  ((ha_rf mo_kd S p0 1 100).bind fun r11 =>
  ha_gd (¬ ((v3 : Int32) < 0 ∨ mo_ln r11 ≤ (v3 : Int32).toNatClampNeg)) <|
  (f_X12_isLetter ((ha_gA S r11 (v3 : Int32).toNatClampNeg))).bind fun z13 =>
  if ¬ (z13 : Int32) = 0 then (f_X12_isTold_L37_J80 p0 p1 p2 self v3 S) else
  ((ha_rf mo_kd S p0 1 100).bind fun r15 =>
  ha_gd (¬ ((v3 : Int32) < 0 ∨ mo_ln r15 ≤ (v3 : Int32).toNatClampNeg)) <|
  if ¬ ((ha_gA S r15 (v3 : Int32).toNatClampNeg) : Int32) = 32 then (f_X12_isTold_L37_J78 p0 p1 p2 self  S) else
  ((ha_rf mo_kd S p0 1 100).bind fun r18 =>
  ha_gd (¬ ((((v3 : Int32) - 1) : Int32) < 0 ∨ mo_ln r18 ≤ (((v3 : Int32) - 1) : Int32).toNatClampNeg)) <|
  if ¬ ((ha_gA S r18 (((v3 : Int32) - 1) : Int32).toNatClampNeg) : Int32) = 32 then (f_X12_isTold_L37_J80 p0 p1 p2 self v3 S) else
  (f_X12_isTold_L37_J78 p0 p1 p2 self  S))))
def f_X12_isTold_L37i (p0 : Nat) (p1 : Int32) (p2 : Int32) : Nat → (Int32 × ha_St) → Option ((ha_St) ⊕ (Int32 × ha_St)) := ha_itr (fun self z => f_X12_isTold_L37 p0 p1 p2 self z.1 z.2)
def f_X12_isTold (p0 : Nat) (p1 : Int32) (p2 : Int32) (S : ha_St) : Option (Int32 × ha_St) :=
  (f_X12_isIn p1 1 p2).bind fun z1 =>
  if (z1 : Int32) = 0 then (f_X12_isTold_J33 p0 p1 p2  S) else
  ((ha_rf mo_kd S p0 1 100).bind fun r3 =>
  ha_gd (¬ ((0 : Int32) < 0 ∨ mo_ln r3 ≤ (0 : Int32).toNatClampNeg)) <|
  if ((ha_gA S r3 (0 : Int32).toNatClampNeg) : Int32) = 32 then (f_X12_isTold_J33 p0 p1 p2  S) else
  ((ha_rf mo_kd S p0 1 100).bind fun r6 =>
  ha_gd (¬ ((((p1 : Int32) - 1) : Int32) < 0 ∨ mo_ln r6 ≤ (((p1 : Int32) - 1) : Int32).toNatClampNeg)) <|
  if ¬ ((ha_gA S r6 (((p1 : Int32) - 1) : Int32).toNatClampNeg) : Int32) = 32 then ((f_X12_isTold_L37i p0 p1 p2 ha_fu (0, S)).bind (Sum.elim (fun z => f_X12_isTold_J86 p0 p1 p2  z) (fun r => some r))) else
  (f_X12_isTold_J33 p0 p1 p2  S)))

def f_X12_entry_J149 (p0 : Nat) (v1 : Int32) (S : ha_St) : Option (Int32 × ha_St) :=
  (ha_rf mo_kd S p0 64 100).bind fun r1 =>
  ha_gd (¬ (((ha_gI S p0 67) : Int32) < 0 ∨ mo_ln r1 ≤ ((ha_gI S p0 67) : Int32).toNatClampNeg)) <|
  ha_nm (ha_sA S r1 (upd (ha_gA S r1) ((ha_gI S p0 67) : Int32).toNatClampNeg v1)) fun S3 =>
  ha_nm (ha_sI S3 p0 67 (((ha_gI S3 p0 67) : Int32) + 1)) fun S4 =>
  some ((((ha_gI S4 p0 67) : Int32) - 1), S4)
def f_X12_entry_L118 (p0 : Nat) (self : (Int32 × Int32 × ha_St) → Option (Int32 × ha_St)) (v1 : Int32) (v2 : Int32) (S : ha_St) : Option (Int32 × ha_St) :=
  if (v1 : Int32) ≤ v2 then (some (v1, S)) else
  ((ha_rf mo_kd S p0 63 100).bind fun r6 =>
  (ha_rf mo_kd S p0 1 100).bind fun r7 =>
  ha_gd (¬ ((v2 : Int32) < 0 ∨ mo_ln r7 ≤ (v2 : Int32).toNatClampNeg)) <|
  ha_gd (¬ ((((((12 : Int32) * (ha_gI S p0 67)) : Int32) + v2) : Int32) < 0 ∨ mo_ln r6 ≤ (((((12 : Int32) * (ha_gI S p0 67)) : Int32) + v2) : Int32).toNatClampNeg)) <|
  ha_nm (ha_sA S r6 (upd (ha_gA S r6) (((((12 : Int32) * (ha_gI S p0 67)) : Int32) + v2) : Int32).toNatClampNeg (ha_gA S r7 (v2 : Int32).toNatClampNeg))) fun S10 =>
  ha_nm ((v2 : Int32) + 1) fun x11 =>
  self (v1, x11, S10))
def f_X12_entry_L118i (p0 : Nat) : Nat → (Int32 × Int32 × ha_St) → Option (Int32 × ha_St) := ha_itr (fun self z => f_X12_entry_L118 p0 self z.1 z.2.1 z.2.2)
def f_X12_entry_J116 (p0 : Nat) (v1 : Int32) (S : ha_St) : Option (Int32 × ha_St) :=
  (f_X12_entry_L118i p0 ha_fu (v1, 0, S)).bind (fun z => f_X12_entry_J149 p0 z.1 z.2)
def f_X12_entry_J29 (p0 : Nat)  (S : ha_St) : Option (Int32 × ha_St) :=
  some ((-1), S)
def f_X12_entry_L33_J104 (p0 : Nat) (self : (Int32 × Int32 × ha_St) → Option ((Int32 × ha_St) ⊕ (Int32 × ha_St))) (v1 : Int32) (v2 : Int32) (v3 : Int32) (S : ha_St) : Option ((Int32 × ha_St) ⊕ (Int32 × ha_St)) :=
  if (v3 : Int32) = 0 then (ha_nm ((v2 : Int32) + 1) fun x20 =>
  self (v1, x20, S)) else
  (some (.inr ((-1), S)))
def f_X12_entry_L60_J97 (p0 : Nat) (self : (Int32 × Int32 × Int32 × Int32 × ha_St) → Option (Int32 × Int32 × Int32 × ha_St)) (v1 : Int32) (v2 : Int32) (v4 : Int32) (k0 : Int32) (S : ha_St) : Option (Int32 × Int32 × Int32 × ha_St) :=
  ha_nm ((v4 : Int32) + 1) fun x21 =>
  self (v1, v2, k0, x21, S)
def f_X12_entry_L60 (p0 : Nat) (self : (Int32 × Int32 × Int32 × Int32 × ha_St) → Option (Int32 × Int32 × Int32 × ha_St)) (v1 : Int32) (v2 : Int32) (v3 : Int32) (v4 : Int32) (S : ha_St) : Option (Int32 × Int32 × Int32 × ha_St) :=
  if (v1 : Int32) ≤ v4 then (some (v1, v2, v3, S)) else
  (if (v3 : Int32) = 0 then (some (v1, v2, v3, S)) else
  ((ha_rf mo_kd S p0 63 100).bind fun r24 =>
  ha_gd (¬ ((((((12 : Int32) * v2) : Int32) + v4) : Int32) < 0 ∨ mo_ln r24 ≤ (((((12 : Int32) * v2) : Int32) + v4) : Int32).toNatClampNeg)) <|
  (ha_rf mo_kd S p0 1 100).bind fun r26 =>
  ha_gd (¬ ((v4 : Int32) < 0 ∨ mo_ln r26 ≤ (v4 : Int32).toNatClampNeg)) <|
  if ¬ ((ha_gA S r24 (((((12 : Int32) * v2) : Int32) + v4) : Int32).toNatClampNeg) : Int32) = (ha_gA S r26 (v4 : Int32).toNatClampNeg) then (f_X12_entry_L60_J97 p0 self v1 v2 v4 0 S) else
  (f_X12_entry_L60_J97 p0 self v1 v2 v4 1 S)))
def f_X12_entry_L60i (p0 : Nat) : Nat → (Int32 × Int32 × Int32 × Int32 × ha_St) → Option (Int32 × Int32 × Int32 × ha_St) := ha_itr (fun self z => f_X12_entry_L60 p0 self z.1 z.2.1 z.2.2.1 z.2.2.2.1 z.2.2.2.2)
def f_X12_entry_L33_J56 (p0 : Nat) (self : (Int32 × Int32 × ha_St) → Option ((Int32 × ha_St) ⊕ (Int32 × ha_St))) (v1 : Int32) (v2 : Int32) (k0 : Int32) (S : ha_St) : Option ((Int32 × ha_St) ⊕ (Int32 × ha_St)) :=
  (f_X12_entry_L60i p0 ha_fu (v1, v2, k0, 0, S)).bind (fun z => f_X12_entry_L33_J104 p0 self z.1 z.2.1 z.2.2.1 z.2.2.2)
def f_X12_entry_L33 (p0 : Nat) (self : (Int32 × Int32 × ha_St) → Option ((Int32 × ha_St) ⊕ (Int32 × ha_St))) (v1 : Int32) (v2 : Int32) (S : ha_St) : Option ((Int32 × ha_St) ⊕ (Int32 × ha_St)) :=
  if ((ha_gI S p0 67) : Int32) ≤ v2 then (some (.inl (v1, S))) else
  ((ha_rf mo_kd S p0 64 100).bind fun r32 =>
  ha_gd (¬ ((v2 : Int32) < 0 ∨ mo_ln r32 ≤ (v2 : Int32).toNatClampNeg)) <|
  if ¬ ((ha_gA S r32 (v2 : Int32).toNatClampNeg) : Int32) = v1 then (f_X12_entry_L33_J56 p0 self v1 v2 0 S) else
  (f_X12_entry_L33_J56 p0 self v1 v2 1 S))
def f_X12_entry_L33i (p0 : Nat) : Nat → (Int32 × Int32 × ha_St) → Option ((Int32 × ha_St) ⊕ (Int32 × ha_St)) := ha_itr (fun self z => f_X12_entry_L33 p0 self z.1 z.2.1 z.2.2)
def f_X12_entry (p0 : Nat) (S : ha_St) : Option (Int32 × ha_St) :=
  ha_nm (ha_sI S p0 0 0) fun S14 =>
  (f_X12_take p0 S14).bind fun z15 =>
  if ((ha_gI z15.2 p0 67) : Int32) = 12 then (f_X12_entry_J29 p0  z15.2) else
  ((f_X12_isTold p0 z15.1 12 z15.2).bind fun z17 =>
  if ¬ (z17.1 : Int32) = 0 then ((f_X12_entry_L33i p0 ha_fu (z15.1, 0, z17.2)).bind (Sum.elim (fun z => f_X12_entry_J116 p0 z.1 z.2) (fun r => some r))) else
  (f_X12_entry_J29 p0  z17.2))

def f_X12_begins_J100 (p0 : Nat) (p1 : Int32) (p2 : Int32)  (S : ha_St) : Option (Int32 × ha_St) :=
  some (1, S)
def f_X12_begins_L62 (p0 : Nat) (p1 : Int32) (p2 : Int32) (self : (Int32 × Int32 × ha_St) → Option ((ha_St) ⊕ (Int32 × ha_St))) (v3 : Int32) (v4 : Int32) (S : ha_St) : Option ((ha_St) ⊕ (Int32 × ha_St)) :=
  if (v3 : Int32) ≤ v4 then (some (.inl S)) else
  ((ha_rf mo_kd S p0 69 100).bind fun r2 =>
  ha_gd (¬ ((((p2 : Int32) + v4) : Int32) < 0 ∨ mo_ln r2 ≤ (((p2 : Int32) + v4) : Int32).toNatClampNeg)) <|
  (ha_rf mo_kd S p0 63 100).bind fun r4 =>
  ha_gd (¬ ((((((12 : Int32) * p1) : Int32) + v4) : Int32) < 0 ∨ mo_ln r4 ≤ (((((12 : Int32) * p1) : Int32) + v4) : Int32).toNatClampNeg)) <|
  if ((ha_gA S r2 (((p2 : Int32) + v4) : Int32).toNatClampNeg) : Int32) = (ha_gA S r4 (((((12 : Int32) * p1) : Int32) + v4) : Int32).toNatClampNeg) then (ha_nm ((v4 : Int32) + 1) fun x7 =>
  self (v3, x7, S)) else
  (some (.inr (0, S))))
def f_X12_begins_L62i (p0 : Nat) (p1 : Int32) (p2 : Int32) : Nat → (Int32 × Int32 × ha_St) → Option ((ha_St) ⊕ (Int32 × ha_St)) := ha_itr (fun self z => f_X12_begins_L62 p0 p1 p2 self z.1 z.2.1 z.2.2)
def f_X12_begins_J59 (p0 : Nat) (p1 : Int32) (p2 : Int32) (v3 : Int32) (S : ha_St) : Option (Int32 × ha_St) :=
  (f_X12_begins_L62i p0 p1 p2 ha_fu (v3, 0, S)).bind (Sum.elim (fun z => f_X12_begins_J100 p0 p1 p2  z) (fun r => some r))
def f_X12_begins_J57 (p0 : Nat) (p1 : Int32) (p2 : Int32)  (S : ha_St) : Option (Int32 × ha_St) :=
  some (0, S)
def f_X12_begins_J34 (p0 : Nat) (p1 : Int32) (p2 : Int32) (v3 : Int32) (S : ha_St) : Option (Int32 × ha_St) :=
  if ((ha_gI S p0 72) : Int32) ≤ ((p2 : Int32) + v3) then (f_X12_begins_J59 p0 p1 p2 v3 S) else
  ((ha_rf mo_kd S p0 69 100).bind fun r11 =>
  ha_gd (¬ ((((p2 : Int32) + v3) : Int32) < 0 ∨ mo_ln r11 ≤ (((p2 : Int32) + v3) : Int32).toNatClampNeg)) <|
  if ((ha_gA S r11 (((p2 : Int32) + v3) : Int32).toNatClampNeg) : Int32) = 32 then (f_X12_begins_J59 p0 p1 p2 v3 S) else
  (f_X12_begins_J57 p0 p1 p2  S))
def f_X12_begins (p0 : Nat) (p1 : Int32) (p2 : Int32) (S : ha_St) : Option (Int32 × ha_St) :=
  (ha_rf mo_kd S p0 64 100).bind fun r14 =>
  ha_gd (¬ ((p1 : Int32) < 0 ∨ mo_ln r14 ≤ (p1 : Int32).toNatClampNeg)) <|
  ha_nm ((ha_gA S r14 (p1 : Int32).toNatClampNeg) : Int32) fun x16 =>
  if ((ha_gI S p0 72) : Int32) < ((p2 : Int32) + x16) then (f_X12_begins_J57 p0 p1 p2  S) else
  (if (p2 : Int32) ≤ 0 then (f_X12_begins_J34 p0 p1 p2 x16 S) else
  ((ha_rf mo_kd S p0 69 100).bind fun r19 =>
  ha_gd (¬ ((((p2 : Int32) - 1) : Int32) < 0 ∨ mo_ln r19 ≤ (((p2 : Int32) - 1) : Int32).toNatClampNeg)) <|
  if ¬ ((ha_gA S r19 (((p2 : Int32) - 1) : Int32).toNatClampNeg) : Int32) = 32 then (f_X12_begins_J57 p0 p1 p2  S) else
  (f_X12_begins_J34 p0 p1 p2 x16 S)))

def f_X12_fewestBy_J122 (p0 : Nat) (p1 : Int32)  (S : ha_St) : Option (Int32 × ha_St) :=
  (ha_rf mo_kd S p0 70 100).bind fun r1 =>
  ha_gd (¬ ((0 : Int32) < 0 ∨ mo_ln r1 ≤ (0 : Int32).toNatClampNeg)) <|
  some ((ha_gA S r1 (0 : Int32).toNatClampNeg), S)
def f_X12_fewestBy_L17_J116 (p0 : Nat) (p1 : Int32) (self : (Int32 × ha_St) → Option (ha_St)) (v2 : Int32) (S : ha_St) : Option (ha_St) :=
  ha_nm ((v2 : Int32) + (-1)) fun x7 =>
  self (x7, S)
def f_X12_fewestBy_L39_J110 (p0 : Nat) (p1 : Int32) (self : (Int32 × Int32 × ha_St) → Option (Int32 × ha_St)) (v2 : Int32) (v3 : Int32) (S : ha_St) : Option (Int32 × ha_St) :=
  ha_nm ((v3 : Int32) + 1) fun x14 =>
  self (v2, x14, S)
def f_X12_fewestBy_L39 (p0 : Nat) (p1 : Int32) (self : (Int32 × Int32 × ha_St) → Option (Int32 × ha_St)) (v2 : Int32) (v3 : Int32) (S : ha_St) : Option (Int32 × ha_St) :=
  if ((ha_gI S p0 67) : Int32) ≤ v3 then (some (v2, S)) else
  (if ¬ (((((p1 : Int32) >>> ((v3 : Int32) &&& 31)) : Int32) &&& 1) : Int32) = 1 then (f_X12_fewestBy_L39_J110 p0 p1 self v2 v3 S) else
  ((f_X12_begins p0 v3 v2 S).bind fun z17 =>
  if (z17.1 : Int32) = 0 then (f_X12_fewestBy_L39_J110 p0 p1 self v2 v3 z17.2) else
  ((ha_rf mo_kd z17.2 p0 70 100).bind fun r19 =>
  (ha_rf mo_kd z17.2 p0 64 100).bind fun r20 =>
  ha_gd (¬ ((v3 : Int32) < 0 ∨ mo_ln r20 ≤ (v3 : Int32).toNatClampNeg)) <|
  ha_gd (¬ ((((v2 : Int32) + (ha_gA z17.2 r20 (v3 : Int32).toNatClampNeg)) : Int32) < 0 ∨ mo_ln r19 ≤ (((v2 : Int32) + (ha_gA z17.2 r20 (v3 : Int32).toNatClampNeg)) : Int32).toNatClampNeg)) <|
  (ha_rf mo_kd z17.2 p0 70 100).bind fun r23 =>
  ha_gd (¬ ((v2 : Int32) < 0 ∨ mo_ln r23 ≤ (v2 : Int32).toNatClampNeg)) <|
  if ((ha_gA z17.2 r23 (v2 : Int32).toNatClampNeg) : Int32) ≤ (((ha_gA z17.2 r19 (((v2 : Int32) + (ha_gA z17.2 r20 (v3 : Int32).toNatClampNeg)) : Int32).toNatClampNeg) : Int32) + 2) then (f_X12_fewestBy_L39_J110 p0 p1 self v2 v3 z17.2) else
  ((ha_rf mo_kd z17.2 p0 70 100).bind fun r26 =>
  (ha_rf mo_kd z17.2 p0 70 100).bind fun r27 =>
  (ha_rf mo_kd z17.2 p0 64 100).bind fun r28 =>
  ha_gd (¬ ((v3 : Int32) < 0 ∨ mo_ln r28 ≤ (v3 : Int32).toNatClampNeg)) <|
  ha_gd (¬ ((((v2 : Int32) + (ha_gA z17.2 r28 (v3 : Int32).toNatClampNeg)) : Int32) < 0 ∨ mo_ln r27 ≤ (((v2 : Int32) + (ha_gA z17.2 r28 (v3 : Int32).toNatClampNeg)) : Int32).toNatClampNeg)) <|
  ha_gd (¬ ((v2 : Int32) < 0 ∨ mo_ln r26 ≤ (v2 : Int32).toNatClampNeg)) <|
  ha_nm (ha_sA z17.2 r26 (upd (ha_gA z17.2 r26) (v2 : Int32).toNatClampNeg (((ha_gA z17.2 r27 (((v2 : Int32) + (ha_gA z17.2 r28 (v3 : Int32).toNatClampNeg)) : Int32).toNatClampNeg) : Int32) + 2))) fun S32 =>
  f_X12_fewestBy_L39_J110 p0 p1 self v2 v3 S32))))
def f_X12_fewestBy_L39i (p0 : Nat) (p1 : Int32) : Nat → (Int32 × Int32 × ha_St) → Option (Int32 × ha_St) := ha_itr (fun self z => f_X12_fewestBy_L39 p0 p1 self z.1 z.2.1 z.2.2)
def f_X12_fewestBy_L17 (p0 : Nat) (p1 : Int32) (self : (Int32 × ha_St) → Option (ha_St)) (v2 : Int32) (S : ha_St) : Option (ha_St) :=
  if (v2 : Int32) < 0 then (some S) else
  ((ha_rf mo_kd S p0 70 100).bind fun r9 =>
  (ha_rf mo_kd S p0 70 100).bind fun r10 =>
  ha_gd (¬ ((((v2 : Int32) + 1) : Int32) < 0 ∨ mo_ln r10 ≤ (((v2 : Int32) + 1) : Int32).toNatClampNeg)) <|
  ha_gd (¬ ((v2 : Int32) < 0 ∨ mo_ln r9 ≤ (v2 : Int32).toNatClampNeg)) <|
  ha_nm (ha_sA S r9 (upd (ha_gA S r9) (v2 : Int32).toNatClampNeg (((ha_gA S r10 (((v2 : Int32) + 1) : Int32).toNatClampNeg) : Int32) + 1))) fun S13 =>
  (f_X12_fewestBy_L39i p0 p1 ha_fu (v2, 0, S13)).bind (fun z => f_X12_fewestBy_L17_J116 p0 p1 self z.1 z.2))
def f_X12_fewestBy_L17i (p0 : Nat) (p1 : Int32) : Nat → (Int32 × ha_St) → Option (ha_St) := ha_itr (fun self z => f_X12_fewestBy_L17 p0 p1 self z.1 z.2)
def f_X12_fewestBy (p0 : Nat) (p1 : Int32) (S : ha_St) : Option (Int32 × ha_St) :=
  (ha_rf mo_kd S p0 70 100).bind fun r3 =>
  ha_gd (¬ (((ha_gI S p0 72) : Int32) < 0 ∨ mo_ln r3 ≤ ((ha_gI S p0 72) : Int32).toNatClampNeg)) <|
  ha_nm (ha_sA S r3 (upd (ha_gA S r3) ((ha_gI S p0 72) : Int32).toNatClampNeg 0)) fun S5 =>
  ha_nm ((((ha_gI S5 p0 72) : Int32) - 1) : Int32) fun x6 =>
  (f_X12_fewestBy_L17i p0 p1 ha_fu (x6, S5)).bind (fun z => f_X12_fewestBy_J122 p0 p1  z)

def f_X12_code_J193 (p0 : Nat) (v2 : Int32) (S : ha_St) : Option (Int32 × ha_St) :=
  some (v2, S)
def f_X12_code_L67_J188 (p0 : Nat) (self : (Int32 × Int32 × Int32 × ha_St) → Option (Int32 × ha_St)) (v1 : Int32) (v2 : Int32) (k0 : Int32) (k1 : Int32) (S : ha_St) : Option (Int32 × ha_St) :=
  ha_nm (((k0 : Int32) + k1) : Int32) fun x4 =>
  self (v1, v2, x4, S)
def f_X12_code_L67_J156 (p0 : Nat) (self : (Int32 × Int32 × Int32 × ha_St) → Option (Int32 × ha_St)) (v1 : Int32) (v2 : Int32) (v3 : Int32) (v4 : Int32) (k0 : Nat) (k1 : Int32) (k2 : Int32) (S : ha_St) : Option (Int32 × ha_St) :=
  ha_gd (¬ ((k1 : Int32) < 0 ∨ mo_ln k0 ≤ (k1 : Int32).toNatClampNeg)) <|
  ha_nm (ha_sA S k0 (upd (ha_gA S k0) (k1 : Int32).toNatClampNeg k2)) fun S6 =>
  ha_nm (ha_sI S6 p0 73 (((ha_gI S6 p0 73) : Int32) + 1)) fun S7 =>
  if ((ha_gI S7 p0 67) : Int32) ≤ v4 then (f_X12_code_L67_J188 p0 self v1 v2 v3 1 S7) else
  ((ha_rf mo_kd S7 p0 64 100).bind fun r9 =>
  ha_gd (¬ ((v4 : Int32) < 0 ∨ mo_ln r9 ≤ (v4 : Int32).toNatClampNeg)) <|
  f_X12_code_L67_J188 p0 self v1 v2 v3 ((ha_gA S7 r9 (v4 : Int32).toNatClampNeg)) S7)
def f_X12_code_L67_J125 (p0 : Nat) (self : (Int32 × Int32 × Int32 × ha_St) → Option (Int32 × ha_St)) (v1 : Int32) (v2 : Int32) (v3 : Int32) (v4 : Int32) (S : ha_St) : Option (Int32 × ha_St) :=
  (ha_rf mo_kd S p0 71 100).bind fun r11 =>
  if ((ha_gI S p0 67) : Int32) ≤ v4 then ((ha_rf mo_kd S p0 69 100).bind fun r13 =>
  ha_gd (¬ ((v3 : Int32) < 0 ∨ mo_ln r13 ≤ (v3 : Int32).toNatClampNeg)) <|
  f_X12_code_L67_J156 p0 self v1 v2 v3 v4 r11 ((ha_gI S p0 73)) ((ha_gA S r13 (v3 : Int32).toNatClampNeg)) S) else
  (f_X12_code_L67_J156 p0 self v1 v2 v3 v4 r11 ((ha_gI S p0 73)) (((100 : Int32) + v4)) S)
def f_X12_code_L75_J119 (p0 : Nat) (self : (Int32 × Int32 × Int32 × Int32 × ha_St) → Option (Int32 × Int32 × Int32 × Int32 × ha_St)) (v1 : Int32) (v2 : Int32) (v3 : Int32) (v4 : Int32) (S : ha_St) : Option (Int32 × Int32 × Int32 × Int32 × ha_St) :=
  ha_nm ((v4 : Int32) + 1) fun x16 =>
  self (v1, v2, v3, x16, S)
def f_X12_code_L75 (p0 : Nat) (self : (Int32 × Int32 × Int32 × Int32 × ha_St) → Option (Int32 × Int32 × Int32 × Int32 × ha_St)) (v1 : Int32) (v2 : Int32) (v3 : Int32) (v4 : Int32) (S : ha_St) : Option (Int32 × Int32 × Int32 × Int32 × ha_St) :=
  if ((ha_gI S p0 67) : Int32) ≤ v4 then (some (v1, v2, v3, v4, S)) else
  ((f_X12_begins p0 v4 v3 S).bind fun z18 =>
  if (z18.1 : Int32) = 0 then (f_X12_code_L75_J119 p0 self v1 v2 v3 v4 z18.2) else
  ((ha_rf mo_kd z18.2 p0 70 100).bind fun r20 =>
  (ha_rf mo_kd z18.2 p0 64 100).bind fun r21 =>
  ha_gd (¬ ((v4 : Int32) < 0 ∨ mo_ln r21 ≤ (v4 : Int32).toNatClampNeg)) <|
  ha_gd (¬ ((((v3 : Int32) + (ha_gA z18.2 r21 (v4 : Int32).toNatClampNeg)) : Int32) < 0 ∨ mo_ln r20 ≤ (((v3 : Int32) + (ha_gA z18.2 r21 (v4 : Int32).toNatClampNeg)) : Int32).toNatClampNeg)) <|
  (ha_rf mo_kd z18.2 p0 70 100).bind fun r24 =>
  ha_gd (¬ ((v3 : Int32) < 0 ∨ mo_ln r24 ≤ (v3 : Int32).toNatClampNeg)) <|
  if ((((ha_gA z18.2 r20 (((v3 : Int32) + (ha_gA z18.2 r21 (v4 : Int32).toNatClampNeg)) : Int32).toNatClampNeg) : Int32) + 2) : Int32) = (ha_gA z18.2 r24 (v3 : Int32).toNatClampNeg) then (some (v1, v2, v3, v4, z18.2)) else
  (f_X12_code_L75_J119 p0 self v1 v2 v3 v4 z18.2)))
def f_X12_code_L75i (p0 : Nat) : Nat → (Int32 × Int32 × Int32 × Int32 × ha_St) → Option (Int32 × Int32 × Int32 × Int32 × ha_St) := ha_itr (fun self z => f_X12_code_L75 p0 self z.1 z.2.1 z.2.2.1 z.2.2.2.1 z.2.2.2.2)
def f_X12_code_L67 (p0 : Nat) (self : (Int32 × Int32 × Int32 × ha_St) → Option (Int32 × ha_St)) (v1 : Int32) (v2 : Int32) (v3 : Int32) (S : ha_St) : Option (Int32 × ha_St) :=
  if (v1 : Int32) ≤ v3 then (some (v2, S)) else
  ((f_X12_code_L75i p0 ha_fu (v1, v2, v3, 0, S)).bind (fun z => f_X12_code_L67_J125 p0 self z.1 z.2.1 z.2.2.1 z.2.2.2.1 z.2.2.2.2))
def f_X12_code_L67i (p0 : Nat) : Nat → (Int32 × Int32 × Int32 × ha_St) → Option (Int32 × ha_St) := ha_itr (fun self z => f_X12_code_L67 p0 self z.1 z.2.1 z.2.2.1 z.2.2.2)
def f_X12_code_J47 (p0 : Nat) (v1 : Int32) (S : ha_St) : Option (Int32 × ha_St) :=
  ha_nm (ha_sI S p0 72 v1) fun S1 =>
  (f_X12_fewestBy p0 4095 S1).bind fun z2 =>
  ha_nm (ha_sI z2.2 p0 73 0) fun S3 =>
  (f_X12_code_L67i p0 ha_fu (v1, z2.1, 0, S3)).bind (fun z => f_X12_code_J193 p0 z.1 z.2)
def f_X12_code_L24 (p0 : Nat) (self : (Int32 × Int32 × ha_St) → Option (Int32 × ha_St)) (v1 : Int32) (v2 : Int32) (S : ha_St) : Option (Int32 × ha_St) :=
  if (v1 : Int32) ≤ v2 then (some (v1, S)) else
  ((ha_rf mo_kd S p0 69 100).bind fun r36 =>
  (ha_rf mo_kd S p0 1 100).bind fun r37 =>
  ha_gd (¬ ((v2 : Int32) < 0 ∨ mo_ln r37 ≤ (v2 : Int32).toNatClampNeg)) <|
  ha_gd (¬ ((v2 : Int32) < 0 ∨ mo_ln r36 ≤ (v2 : Int32).toNatClampNeg)) <|
  ha_nm (ha_sA S r36 (upd (ha_gA S r36) (v2 : Int32).toNatClampNeg (ha_gA S r37 (v2 : Int32).toNatClampNeg))) fun S40 =>
  ha_nm ((v2 : Int32) + 1) fun x41 =>
  self (v1, x41, S40))
def f_X12_code_L24i (p0 : Nat) : Nat → (Int32 × Int32 × ha_St) → Option (Int32 × ha_St) := ha_itr (fun self z => f_X12_code_L24 p0 self z.1 z.2.1 z.2.2)
def f_X12_code (p0 : Nat) (S : ha_St) : Option (Int32 × ha_St) :=
  ha_nm (ha_sI S p0 0 0) fun S31 =>
  (f_X12_take p0 S31).bind fun z32 =>
  (f_X12_isTold p0 z32.1 60 z32.2).bind fun z33 =>
  if ¬ (z33.1 : Int32) = 0 then ((f_X12_code_L24i p0 ha_fu (z32.1, 0, z33.2)).bind (fun z => f_X12_code_J47 p0 z.1 z.2)) else
  (some ((-1), z33.2))

def f_X12_piece_J27 (p0 : Nat) (p1 : Int32) (k0 : Int32) (S : ha_St) : Option (Int32 × ha_St) :=
  some (k0, S)
def f_X12_piece_J26 (p0 : Nat) (p1 : Int32)  (S : ha_St) : Option (Int32 × ha_St) :=
  f_X12_piece_J27 p0 p1 (-1) S
def f_X12_piece (p0 : Nat) (p1 : Int32) (S : ha_St) : Option (Int32 × ha_St) :=
  ha_nm (ha_sI S p0 0 0) fun S1 =>
  if (p1 : Int32) < 0 then (f_X12_piece_J26 p0 p1  S1) else
  (if ((ha_gI S1 p0 73) : Int32) ≤ p1 then (f_X12_piece_J26 p0 p1  S1) else
  ((ha_rf mo_kd S1 p0 71 100).bind fun r4 =>
  ha_gd (¬ ((p1 : Int32) < 0 ∨ mo_ln r4 ≤ (p1 : Int32).toNatClampNeg)) <|
  f_X12_piece_J27 p0 p1 ((ha_gA S1 r4 (p1 : Int32).toNatClampNeg)) S1))

def f_X12_year_J64 (p0 : Nat) (v1 : Int32) (S : ha_St) : Option (Int32 × ha_St) :=
  (ha_rf mo_kd S p0 66 100).bind fun r1 =>
  ha_gd (¬ (((ha_gI S p0 68) : Int32) < 0 ∨ mo_ln r1 ≤ ((ha_gI S p0 68) : Int32).toNatClampNeg)) <|
  ha_nm (ha_sA S r1 (upd (ha_gA S r1) ((ha_gI S p0 68) : Int32).toNatClampNeg v1)) fun S3 =>
  ha_nm (ha_sI S3 p0 68 (((ha_gI S3 p0 68) : Int32) + 1)) fun S4 =>
  some ((ha_gI S4 p0 68), S4)
def f_X12_year_J29 (p0 : Nat)  (S : ha_St) : Option (Int32 × ha_St) :=
  some ((-1), S)
def f_X12_year_L33 (p0 : Nat) (self : (Int32 × Int32 × ha_St) → Option (Int32 × ha_St)) (v1 : Int32) (v2 : Int32) (S : ha_St) : Option (Int32 × ha_St) :=
  if (v1 : Int32) ≤ v2 then (some (v1, S)) else
  ((ha_rf mo_kd S p0 65 100).bind fun r11 =>
  (ha_rf mo_kd S p0 1 100).bind fun r12 =>
  ha_gd (¬ ((v2 : Int32) < 0 ∨ mo_ln r12 ≤ (v2 : Int32).toNatClampNeg)) <|
  ha_gd (¬ ((((((60 : Int32) * (ha_gI S p0 68)) : Int32) + v2) : Int32) < 0 ∨ mo_ln r11 ≤ (((((60 : Int32) * (ha_gI S p0 68)) : Int32) + v2) : Int32).toNatClampNeg)) <|
  ha_nm (ha_sA S r11 (upd (ha_gA S r11) (((((60 : Int32) * (ha_gI S p0 68)) : Int32) + v2) : Int32).toNatClampNeg (ha_gA S r12 (v2 : Int32).toNatClampNeg))) fun S15 =>
  ha_nm ((v2 : Int32) + 1) fun x16 =>
  self (v1, x16, S15))
def f_X12_year_L33i (p0 : Nat) : Nat → (Int32 × Int32 × ha_St) → Option (Int32 × ha_St) := ha_itr (fun self z => f_X12_year_L33 p0 self z.1 z.2.1 z.2.2)
def f_X12_year (p0 : Nat) (S : ha_St) : Option (Int32 × ha_St) :=
  ha_nm (ha_sI S p0 0 0) fun S5 =>
  (f_X12_take p0 S5).bind fun z6 =>
  if ((ha_gI z6.2 p0 68) : Int32) = 8 then (f_X12_year_J29 p0  z6.2) else
  ((f_X12_isTold p0 z6.1 60 z6.2).bind fun z8 =>
  if ¬ (z8.1 : Int32) = 0 then ((f_X12_year_L33i p0 ha_fu (z6.1, 0, z8.2)).bind (fun z => f_X12_year_J64 p0 z.1 z.2)) else
  (f_X12_year_J29 p0  z8.2))

def f_X12_small_J183 (p0 : Nat) (p1 : Int32) (v2 : Int32) (S : ha_St) : Option (Int32 × ha_St) :=
  some (v2, S)
def f_X12_small_L23_J177 (p0 : Nat) (p1 : Int32) (self : (Int32 × Int32 × ha_St) → Option (Int32 × ha_St)) (v2 : Int32) (v3 : Int32) (S : ha_St) : Option (Int32 × ha_St) :=
  ha_nm ((v3 : Int32) + 1) fun x4 =>
  self (v2, x4, S)
def f_X12_small_L23_J160 (p0 : Nat) (p1 : Int32) (self : (Int32 × Int32 × ha_St) → Option (Int32 × ha_St)) (v2 : Int32) (v3 : Int32) (v5 : Int32) (S : ha_St) : Option (Int32 × ha_St) :=
  if (v5 : Int32) < v2 then (ha_nm (ha_sI S p0 74 v3) fun S6 =>
  f_X12_small_L23_J177 p0 p1 self v5 v3 S6) else
  (f_X12_small_L23_J177 p0 p1 self v2 v3 S)
def f_X12_small_L80_J144 (p0 : Nat) (p1 : Int32) (self : (Int32 × Int32 × Int32 × Int32 × ha_St) → Option (Int32 × Int32 × Int32 × ha_St)) (v2 : Int32) (v3 : Int32) (v5 : Int32) (v6 : Int32) (S : ha_St) : Option (Int32 × Int32 × Int32 × ha_St) :=
  (f_X12_fewestBy p0 v3 S).bind fun z8 =>
  ha_nm (((v5 : Int32) + z8.1) : Int32) fun x9 =>
  ha_nm ((v6 : Int32) + 1) fun x10 =>
  self (v2, v3, x9, x10, z8.2)
def f_X12_small_L109 (p0 : Nat) (p1 : Int32) (self : (Int32 × Int32 × Int32 × Int32 × Int32 × ha_St) → Option (Int32 × Int32 × Int32 × Int32 × ha_St)) (v2 : Int32) (v3 : Int32) (v5 : Int32) (v6 : Int32) (v7 : Int32) (S : ha_St) : Option (Int32 × Int32 × Int32 × Int32 × ha_St) :=
  if ((ha_gI S p0 72) : Int32) ≤ v7 then (some (v2, v3, v5, v6, S)) else
  ((ha_rf mo_kd S p0 69 100).bind fun r17 =>
  (ha_rf mo_kd S p0 65 100).bind fun r18 =>
  ha_gd (¬ ((((((60 : Int32) * v6) : Int32) + v7) : Int32) < 0 ∨ mo_ln r18 ≤ (((((60 : Int32) * v6) : Int32) + v7) : Int32).toNatClampNeg)) <|
  ha_gd (¬ ((v7 : Int32) < 0 ∨ mo_ln r17 ≤ (v7 : Int32).toNatClampNeg)) <|
  ha_nm (ha_sA S r17 (upd (ha_gA S r17) (v7 : Int32).toNatClampNeg (ha_gA S r18 (((((60 : Int32) * v6) : Int32) + v7) : Int32).toNatClampNeg))) fun S21 =>
  ha_nm ((v7 : Int32) + 1) fun x22 =>
  self (v2, v3, v5, v6, x22, S21))
def f_X12_small_L109i (p0 : Nat) (p1 : Int32) : Nat → (Int32 × Int32 × Int32 × Int32 × Int32 × ha_St) → Option (Int32 × Int32 × Int32 × Int32 × ha_St) := ha_itr (fun self z => f_X12_small_L109 p0 p1 self z.1 z.2.1 z.2.2.1 z.2.2.2.1 z.2.2.2.2.1 z.2.2.2.2.2)
def f_X12_small_L80 (p0 : Nat) (p1 : Int32) (self : (Int32 × Int32 × Int32 × Int32 × ha_St) → Option (Int32 × Int32 × Int32 × ha_St)) (v2 : Int32) (v3 : Int32) (v5 : Int32) (v6 : Int32) (S : ha_St) : Option (Int32 × Int32 × Int32 × ha_St) :=
  if ((ha_gI S p0 68) : Int32) ≤ v6 then (some (v2, v3, v5, S)) else
  (if (v2 : Int32) ≤ v5 then (some (v2, v3, v5, S)) else
  ((ha_rf mo_kd S p0 66 100).bind fun r13 =>
  ha_gd (¬ ((v6 : Int32) < 0 ∨ mo_ln r13 ≤ (v6 : Int32).toNatClampNeg)) <|
  ha_nm (ha_sI S p0 72 (ha_gA S r13 (v6 : Int32).toNatClampNeg)) fun S15 =>
  (f_X12_small_L109i p0 p1 ha_fu (v2, v3, v5, v6, 0, S15)).bind (fun z => f_X12_small_L80_J144 p0 p1 self z.1 z.2.1 z.2.2.1 z.2.2.2.1 z.2.2.2.2)))
def f_X12_small_L80i (p0 : Nat) (p1 : Int32) : Nat → (Int32 × Int32 × Int32 × Int32 × ha_St) → Option (Int32 × Int32 × Int32 × ha_St) := ha_itr (fun self z => f_X12_small_L80 p0 p1 self z.1 z.2.1 z.2.2.1 z.2.2.2.1 z.2.2.2.2)
def f_X12_small_L23_J65 (p0 : Nat) (p1 : Int32) (self : (Int32 × Int32 × ha_St) → Option (Int32 × ha_St)) (v2 : Int32) (v3 : Int32) (v4 : Int32) (S : ha_St) : Option (Int32 × ha_St) :=
  if (v4 : Int32) ≤ p1 then ((f_X12_small_L80i p0 p1 ha_fu (v2, v3, 0, 0, S)).bind (fun z => f_X12_small_L23_J160 p0 p1 self z.1 z.2.1 z.2.2.1 z.2.2.2)) else
  (f_X12_small_L23_J177 p0 p1 self v2 v3 S)
def f_X12_small_L39 (p0 : Nat) (p1 : Int32) (self : (Int32 × Int32 × Int32 × Int32 × ha_St) → Option (Int32 × Int32 × Int32 × ha_St)) (v2 : Int32) (v3 : Int32) (v4 : Int32) (v5 : Int32) (S : ha_St) : Option (Int32 × Int32 × Int32 × ha_St) :=
  if ((ha_gI S p0 67) : Int32) ≤ v5 then (some (v2, v3, v4, S)) else
  (ha_nm (((v4 : Int32) + ((((v3 : Int32) >>> ((v5 : Int32) &&& 31)) : Int32) &&& 1)) : Int32) fun x29 =>
  ha_nm ((v5 : Int32) + 1) fun x30 =>
  self (v2, v3, x29, x30, S))
def f_X12_small_L39i (p0 : Nat) (p1 : Int32) : Nat → (Int32 × Int32 × Int32 × Int32 × ha_St) → Option (Int32 × Int32 × Int32 × ha_St) := ha_itr (fun self z => f_X12_small_L39 p0 p1 self z.1 z.2.1 z.2.2.1 z.2.2.2.1 z.2.2.2.2)
def f_X12_small_L23 (p0 : Nat) (p1 : Int32) (self : (Int32 × Int32 × ha_St) → Option (Int32 × ha_St)) (v2 : Int32) (v3 : Int32) (S : ha_St) : Option (Int32 × ha_St) :=
  if (((1 : Int32) <<< (((ha_gI S p0 67) : Int32) &&& 31)) : Int32) ≤ v3 then (some (v2, S)) else
  ((f_X12_small_L39i p0 p1 ha_fu (v2, v3, 0, 0, S)).bind (fun z => f_X12_small_L23_J65 p0 p1 self z.1 z.2.1 z.2.2.1 z.2.2.2))
def f_X12_small_L23i (p0 : Nat) (p1 : Int32) : Nat → (Int32 × Int32 × ha_St) → Option (Int32 × ha_St) := ha_itr (fun self z => f_X12_small_L23 p0 p1 self z.1 z.2.1 z.2.2)
def f_X12_small (p0 : Nat) (p1 : Int32) (S : ha_St) : Option (Int32 × ha_St) :=
  ha_nm (ha_sI S p0 0 0) fun S1 =>
  (f_X12_isIn p1 0 12).bind fun z2 =>
  if ¬ (z2 : Int32) = 0 then ((f_X12_small_L23i p0 p1 ha_fu (100000, 0, S1)).bind (fun z => f_X12_small_J183 p0 p1 z.1 z.2)) else
  (some ((-1), S1))

def f_X12_smallSet (p0 : Nat) (S : ha_St) : Option (Int32 × ha_St) :=
  ha_nm (ha_sI S p0 0 0) fun S1 =>
  some ((ha_gI S1 p0 74), S1)

def f_X12_right_J83 (p0 : Nat) (p1 : Int32) (p2 : Int32) (p3 : Int32) (v4 : Int64) (S : ha_St) : Option (Int64 × ha_St) :=
  some (v4, S)
def f_X12_right_L57 (p0 : Nat) (p1 : Int32) (p2 : Int32) (p3 : Int32) (self : (Int64 × Int32 × ha_St) → Option (Int64 × ha_St)) (v4 : Int64) (v6 : Int32) (S : ha_St) : Option (Int64 × ha_St) :=
  if (((p1 : Int32) * p2) : Int32) ≤ v6 then (some (v4, S)) else
  (ha_gd (¬ (((p3 : Int32).toInt64) : Int64) = 0) <|
  ha_nm (((((v4 : Int64) * ((((p3 : Int32) - 1) : Int32).toInt64)) : Int64) / ((p3 : Int32).toInt64)) : Int64) fun x5 =>
  ha_nm ((v6 : Int32) + 1) fun x6 =>
  self (x5, x6, S))
def f_X12_right_L57i (p0 : Nat) (p1 : Int32) (p2 : Int32) (p3 : Int32) : Nat → (Int64 × Int32 × ha_St) → Option (Int64 × ha_St) := ha_itr (fun self z => f_X12_right_L57 p0 p1 p2 p3 self z.1 z.2.1 z.2.2)
def f_X12_right_J37 (p0 : Nat) (p1 : Int32) (p2 : Int32) (p3 : Int32) (k0 : Nat) (k1 : Int32) (S : ha_St) : Option (Int64 × ha_St) :=
  ha_nm (ha_sI S k0 0 k1) fun S1 =>
  if ((ha_gI S1 p0 0) : Int32) ≤ 0 then ((f_X12_right_L57i p0 p1 p2 p3 ha_fu (1000000000000000, 0, S1)).bind (fun z => f_X12_right_J83 p0 p1 p2 p3 z.1 z.2)) else
  (some (0, S1))
def f_X12_right_J36 (p0 : Nat) (p1 : Int32) (p2 : Int32) (p3 : Int32) (k0 : Nat) (S : ha_St) : Option (Int64 × ha_St) :=
  f_X12_right_J37 p0 p1 p2 p3 k0 1 S
def f_X12_right (p0 : Nat) (p1 : Int32) (p2 : Int32) (p3 : Int32) (S : ha_St) : Option (Int64 × ha_St) :=
  (f_X12_isIn p1 1 60).bind fun z9 =>
  if (z9 : Int32) = 0 then (f_X12_right_J36 p0 p1 p2 p3 p0 S) else
  ((f_X12_isIn p2 1 16).bind fun z11 =>
  if (z11 : Int32) = 0 then (f_X12_right_J36 p0 p1 p2 p3 p0 S) else
  ((f_X12_isIn p3 2 2000).bind fun z13 =>
  if (z13 : Int32) = 0 then (f_X12_right_J36 p0 p1 p2 p3 p0 S) else
  (f_X12_right_J37 p0 p1 p2 p3 p0 0 S)))

def f_X12_note_J53 (p0 : Nat) (p1 : Int32) (p2 : Int32) (p3 : Int32)  (S : ha_St) : Option (Int32 × ha_St) :=
  some ((-1), S)
def f_X12_note (p0 : Nat) (p1 : Int32) (p2 : Int32) (p3 : Int32) (S : ha_St) : Option (Int32 × ha_St) :=
  ha_nm (ha_sI S p0 0 0) fun S1 =>
  if ((ha_gI S1 p0 80) : Int32) = 60 then (f_X12_note_J53 p0 p1 p2 p3  S1) else
  ((f_X12_isIn p1 0 ((((ha_gI S1 p0 4) : Int32) - 1))).bind fun z3 =>
  if (z3 : Int32) = 0 then (f_X12_note_J53 p0 p1 p2 p3  S1) else
  ((f_X12_isIn p2 p1 ((((ha_gI S1 p0 4) : Int32) - 1))).bind fun z5 =>
  if (z5 : Int32) = 0 then (f_X12_note_J53 p0 p1 p2 p3  S1) else
  ((f_X12_isIn p3 1 200).bind fun z7 =>
  if ¬ (z7 : Int32) = 0 then ((ha_rf mo_kd S1 p0 75 100).bind fun r9 =>
  ha_gd (¬ (((ha_gI S1 p0 80) : Int32) < 0 ∨ mo_ln r9 ≤ ((ha_gI S1 p0 80) : Int32).toNatClampNeg)) <|
  ha_nm (ha_sA S1 r9 (upd (ha_gA S1 r9) ((ha_gI S1 p0 80) : Int32).toNatClampNeg p1)) fun S11 =>
  (ha_rf mo_kd S11 p0 76 100).bind fun r12 =>
  ha_gd (¬ (((ha_gI S11 p0 80) : Int32) < 0 ∨ mo_ln r12 ≤ ((ha_gI S11 p0 80) : Int32).toNatClampNeg)) <|
  ha_nm (ha_sA S11 r12 (upd (ha_gA S11 r12) ((ha_gI S11 p0 80) : Int32).toNatClampNeg p2)) fun S14 =>
  (ha_rf mo_kd S14 p0 77 100).bind fun r15 =>
  ha_gd (¬ (((ha_gI S14 p0 80) : Int32) < 0 ∨ mo_ln r15 ≤ ((ha_gI S14 p0 80) : Int32).toNatClampNeg)) <|
  ha_nm (ha_sA S14 r15 (upd (ha_gA S14 r15) ((ha_gI S14 p0 80) : Int32).toNatClampNeg p3)) fun S17 =>
  (ha_rf mo_kd S17 p0 78 100).bind fun r18 =>
  ha_gd (¬ (((ha_gI S17 p0 80) : Int32) < 0 ∨ mo_ln r18 ≤ ((ha_gI S17 p0 80) : Int32).toNatClampNeg)) <|
  ha_nm (ha_sA S17 r18 (upd (ha_gA S17 r18) ((ha_gI S17 p0 80) : Int32).toNatClampNeg (ha_gI S17 p0 3))) fun S20 =>
  ha_nm (ha_sI S20 p0 80 (((ha_gI S20 p0 80) : Int32) + 1)) fun S21 =>
  some ((((ha_gI S21 p0 80) : Int32) - 1), S21)) else
  (f_X12_note_J53 p0 p1 p2 p3  S1))))

def f_X12_bound_J27 (p0 : Nat) (p1 : Int32) (p2 : Int32) (p3 : Int32)  (S : ha_St) : Option (ha_St) :=
  some S
def f_X12_bound (p0 : Nat) (p1 : Int32) (p2 : Int32) (p3 : Int32) (S : ha_St) : Option (ha_St) :=
  (ha_rf mo_kd S p0 79 100).bind fun r1 =>
  ha_gd (¬ ((((((17 : Int32) * p1) : Int32) + p2) : Int32) < 0 ∨ mo_ln r1 ≤ (((((17 : Int32) * p1) : Int32) + p2) : Int32).toNatClampNeg)) <|
  if ((ha_gA S r1 (((((17 : Int32) * p1) : Int32) + p2) : Int32).toNatClampNeg) : Int32) ≤ p3 then (f_X12_bound_J27 p0 p1 p2 p3  S) else
  ((ha_rf mo_kd S p0 79 100).bind fun r4 =>
  ha_gd (¬ ((((((17 : Int32) * p1) : Int32) + p2) : Int32) < 0 ∨ mo_ln r4 ≤ (((((17 : Int32) * p1) : Int32) + p2) : Int32).toNatClampNeg)) <|
  ha_nm (ha_sA S r4 (upd (ha_gA S r4) (((((17 : Int32) * p1) : Int32) + p2) : Int32).toNatClampNeg p3)) fun S6 =>
  f_X12_bound_J27 p0 p1 p2 p3  S6)

def f_X12_reckon_J297 (p0 : Nat) (p1 : Int32)  (S : ha_St) : Option (Int32 × ha_St) :=
  some (1, S)
def f_X12_reckon_L150_J291 (p0 : Nat) (p1 : Int32) (self : (Int32 × ha_St) → Option ((ha_St) ⊕ (Int32 × ha_St))) (v2 : Int32) (S : ha_St) : Option ((ha_St) ⊕ (Int32 × ha_St)) :=
  ha_nm ((v2 : Int32) + 1) fun x1 =>
  self (x1, S)
def f_X12_reckon_L263 (p0 : Nat) (p1 : Int32) (self : (Int32 × Int32 × ha_St) → Option ((Int32 × ha_St) ⊕ (Int32 × ha_St))) (v2 : Int32) (v3 : Int32) (S : ha_St) : Option ((Int32 × ha_St) ⊕ (Int32 × ha_St)) :=
  if ((ha_gI S p0 4) : Int32) < v3 then (some (.inl (v2, S))) else
  ((ha_rf mo_kd S p0 79 100).bind fun r3 =>
  ha_gd (¬ ((((18 : Int32) * v3) : Int32) < 0 ∨ mo_ln r3 ≤ (((18 : Int32) * v3) : Int32).toNatClampNeg)) <|
  if (0 : Int32) ≤ (ha_gA S r3 (((18 : Int32) * v3) : Int32).toNatClampNeg) then (ha_nm ((v3 : Int32) + 1) fun x6 =>
  self (v2, x6, S)) else
  (some (.inr (0, S))))
def f_X12_reckon_L263i (p0 : Nat) (p1 : Int32) : Nat → (Int32 × Int32 × ha_St) → Option ((Int32 × ha_St) ⊕ (Int32 × ha_St)) := ha_itr (fun self z => f_X12_reckon_L263 p0 p1 self z.1 z.2.1 z.2.2)
def f_X12_reckon_L150_J261 (p0 : Nat) (p1 : Int32) (self : (Int32 × ha_St) → Option ((ha_St) ⊕ (Int32 × ha_St))) (v2 : Int32) (S : ha_St) : Option ((ha_St) ⊕ (Int32 × ha_St)) :=
  (f_X12_reckon_L263i p0 p1 ha_fu (v2, 0, S)).bind (Sum.elim (fun z => f_X12_reckon_L150_J291 p0 p1 self z.1 z.2) (fun r => some (.inr r)))
def f_X12_reckon_L160_J255 (p0 : Nat) (p1 : Int32) (self : (Int32 × Int32 × ha_St) → Option (Int32 × ha_St)) (v2 : Int32) (v3 : Int32) (S : ha_St) : Option (Int32 × ha_St) :=
  ha_nm ((v3 : Int32) + 1) fun x10 =>
  self (v2, x10, S)
def f_X12_reckon_L171_J249 (p0 : Nat) (p1 : Int32) (self : (Int32 × Int32 × Int32 × ha_St) → Option (Int32 × Int32 × ha_St)) (v2 : Int32) (v3 : Int32) (v4 : Int32) (S : ha_St) : Option (Int32 × Int32 × ha_St) :=
  ha_nm ((v4 : Int32) + 1) fun x12 =>
  self (v2, v3, x12, S)
def f_X12_reckon_L171 (p0 : Nat) (p1 : Int32) (self : (Int32 × Int32 × Int32 × ha_St) → Option (Int32 × Int32 × ha_St)) (v2 : Int32) (v3 : Int32) (v4 : Int32) (S : ha_St) : Option (Int32 × Int32 × ha_St) :=
  if ((ha_gI S p0 4) : Int32) < v4 then (some (v2, v3, S)) else
  ((ha_rf mo_kd S p0 79 100).bind fun r14 =>
  ha_gd (¬ ((((((17 : Int32) * v3) : Int32) + v2) : Int32) < 0 ∨ mo_ln r14 ≤ (((((17 : Int32) * v3) : Int32) + v2) : Int32).toNatClampNeg)) <|
  if (100000 : Int32) ≤ (ha_gA S r14 (((((17 : Int32) * v3) : Int32) + v2) : Int32).toNatClampNeg) then (f_X12_reckon_L171_J249 p0 p1 self v2 v3 v4 S) else
  ((ha_rf mo_kd S p0 79 100).bind fun r17 =>
  ha_gd (¬ ((((((17 : Int32) * v2) : Int32) + v4) : Int32) < 0 ∨ mo_ln r17 ≤ (((((17 : Int32) * v2) : Int32) + v4) : Int32).toNatClampNeg)) <|
  if ((ha_gA S r17 (((((17 : Int32) * v2) : Int32) + v4) : Int32).toNatClampNeg) : Int32) < 100000 then ((ha_rf mo_kd S p0 79 100).bind fun r20 =>
  ha_gd (¬ ((((((17 : Int32) * v3) : Int32) + v2) : Int32) < 0 ∨ mo_ln r20 ≤ (((((17 : Int32) * v3) : Int32) + v2) : Int32).toNatClampNeg)) <|
  (ha_rf mo_kd S p0 79 100).bind fun r22 =>
  ha_gd (¬ ((((((17 : Int32) * v2) : Int32) + v4) : Int32) < 0 ∨ mo_ln r22 ≤ (((((17 : Int32) * v2) : Int32) + v4) : Int32).toNatClampNeg)) <|
  (f_X12_bound p0 v3 v4 ((((ha_gA S r20 (((((17 : Int32) * v3) : Int32) + v2) : Int32).toNatClampNeg) : Int32) + (ha_gA S r22 (((((17 : Int32) * v2) : Int32) + v4) : Int32).toNatClampNeg))) S).bind fun z24 =>
  f_X12_reckon_L171_J249 p0 p1 self v2 v3 v4 z24) else
  (f_X12_reckon_L171_J249 p0 p1 self v2 v3 v4 S)))
def f_X12_reckon_L171i (p0 : Nat) (p1 : Int32) : Nat → (Int32 × Int32 × Int32 × ha_St) → Option (Int32 × Int32 × ha_St) := ha_itr (fun self z => f_X12_reckon_L171 p0 p1 self z.1 z.2.1 z.2.2.1 z.2.2.2)
def f_X12_reckon_L160 (p0 : Nat) (p1 : Int32) (self : (Int32 × Int32 × ha_St) → Option (Int32 × ha_St)) (v2 : Int32) (v3 : Int32) (S : ha_St) : Option (Int32 × ha_St) :=
  if ((ha_gI S p0 4) : Int32) < v3 then (some (v2, S)) else
  ((f_X12_reckon_L171i p0 p1 ha_fu (v2, v3, 0, S)).bind (fun z => f_X12_reckon_L160_J255 p0 p1 self z.1 z.2.1 z.2.2))
def f_X12_reckon_L160i (p0 : Nat) (p1 : Int32) : Nat → (Int32 × Int32 × ha_St) → Option (Int32 × ha_St) := ha_itr (fun self z => f_X12_reckon_L160 p0 p1 self z.1 z.2.1 z.2.2)
def f_X12_reckon_L150 (p0 : Nat) (p1 : Int32) (self : (Int32 × ha_St) → Option ((ha_St) ⊕ (Int32 × ha_St))) (v2 : Int32) (S : ha_St) : Option ((ha_St) ⊕ (Int32 × ha_St)) :=
  if ((ha_gI S p0 4) : Int32) < v2 then (some (.inl S)) else
  ((f_X12_reckon_L160i p0 p1 ha_fu (v2, 0, S)).bind (fun z => f_X12_reckon_L150_J261 p0 p1 self z.1 z.2))
def f_X12_reckon_L150i (p0 : Nat) (p1 : Int32) : Nat → (Int32 × ha_St) → Option ((ha_St) ⊕ (Int32 × ha_St)) := ha_itr (fun self z => f_X12_reckon_L150 p0 p1 self z.1 z.2)
def f_X12_reckon_J148 (p0 : Nat) (p1 : Int32)  (S : ha_St) : Option (Int32 × ha_St) :=
  (f_X12_reckon_L150i p0 p1 ha_fu (0, S)).bind (Sum.elim (fun z => f_X12_reckon_J297 p0 p1  z) (fun r => some r))
def f_X12_reckon_L72_J142 (p0 : Nat) (p1 : Int32) (self : (Int32 × ha_St) → Option (ha_St)) (v2 : Int32) (S : ha_St) : Option (ha_St) :=
  ha_nm ((v2 : Int32) + 1) fun x31 =>
  self (x31, S)
def f_X12_reckon_L72 (p0 : Nat) (p1 : Int32) (self : (Int32 × ha_St) → Option (ha_St)) (v2 : Int32) (S : ha_St) : Option (ha_St) :=
  if ((ha_gI S p0 80) : Int32) ≤ v2 then (some S) else
  ((ha_rf mo_kd S p0 78 100).bind fun r33 =>
  ha_gd (¬ ((v2 : Int32) < 0 ∨ mo_ln r33 ≤ (v2 : Int32).toNatClampNeg)) <|
  if ((ha_gA S r33 (v2 : Int32).toNatClampNeg) : Int32) ≤ p1 then ((ha_rf mo_kd S p0 75 100).bind fun r36 =>
  ha_gd (¬ ((v2 : Int32) < 0 ∨ mo_ln r36 ≤ (v2 : Int32).toNatClampNeg)) <|
  (ha_rf mo_kd S p0 76 100).bind fun r38 =>
  ha_gd (¬ ((v2 : Int32) < 0 ∨ mo_ln r38 ≤ (v2 : Int32).toNatClampNeg)) <|
  (ha_rf mo_kd S p0 77 100).bind fun r40 =>
  ha_gd (¬ ((v2 : Int32) < 0 ∨ mo_ln r40 ≤ (v2 : Int32).toNatClampNeg)) <|
  (f_X12_bound p0 ((ha_gA S r36 (v2 : Int32).toNatClampNeg)) ((((ha_gA S r38 (v2 : Int32).toNatClampNeg) : Int32) + 1)) ((ha_gA S r40 (v2 : Int32).toNatClampNeg)) S).bind fun z42 =>
  (ha_rf mo_kd z42 p0 76 100).bind fun r43 =>
  ha_gd (¬ ((v2 : Int32) < 0 ∨ mo_ln r43 ≤ (v2 : Int32).toNatClampNeg)) <|
  (ha_rf mo_kd z42 p0 75 100).bind fun r45 =>
  ha_gd (¬ ((v2 : Int32) < 0 ∨ mo_ln r45 ≤ (v2 : Int32).toNatClampNeg)) <|
  (ha_rf mo_kd z42 p0 77 100).bind fun r47 =>
  ha_gd (¬ ((v2 : Int32) < 0 ∨ mo_ln r47 ≤ (v2 : Int32).toNatClampNeg)) <|
  (f_X12_bound p0 ((((ha_gA z42 r43 (v2 : Int32).toNatClampNeg) : Int32) + 1)) ((ha_gA z42 r45 (v2 : Int32).toNatClampNeg)) ((-(ha_gA z42 r47 (v2 : Int32).toNatClampNeg))) z42).bind fun z49 =>
  f_X12_reckon_L72_J142 p0 p1 self v2 z49) else
  (f_X12_reckon_L72_J142 p0 p1 self v2 S))
def f_X12_reckon_L72i (p0 : Nat) (p1 : Int32) : Nat → (Int32 × ha_St) → Option (ha_St) := ha_itr (fun self z => f_X12_reckon_L72 p0 p1 self z.1 z.2)
def f_X12_reckon_J70 (p0 : Nat) (p1 : Int32)  (S : ha_St) : Option (Int32 × ha_St) :=
  (f_X12_reckon_L72i p0 p1 ha_fu (0, S)).bind (fun z => f_X12_reckon_J148 p0 p1  z)
def f_X12_reckon_L37 (p0 : Nat) (p1 : Int32) (self : (Int32 × ha_St) → Option (ha_St)) (v2 : Int32) (S : ha_St) : Option (ha_St) :=
  if ((ha_gI S p0 4) : Int32) ≤ v2 then (some S) else
  ((f_X12_bound p0 v2 (((v2 : Int32) + 1)) 9 S).bind fun z53 =>
  (f_X12_bound p0 (((v2 : Int32) + 1)) v2 (-1) z53).bind fun z54 =>
  ha_nm ((v2 : Int32) + 1) fun x55 =>
  self (x55, z54))
def f_X12_reckon_L37i (p0 : Nat) (p1 : Int32) : Nat → (Int32 × ha_St) → Option (ha_St) := ha_itr (fun self z => f_X12_reckon_L37 p0 p1 self z.1 z.2)
def f_X12_reckon_J35 (p0 : Nat) (p1 : Int32)  (S : ha_St) : Option (Int32 × ha_St) :=
  (f_X12_reckon_L37i p0 p1 ha_fu (0, S)).bind (fun z => f_X12_reckon_J70 p0 p1  z)
def f_X12_reckon_L2_J28 (p0 : Nat) (p1 : Int32) (self : (Int32 × ha_St) → Option (ha_St)) (v2 : Int32) (k0 : Nat) (k1 : Int32) (k2 : Int32) (S : ha_St) : Option (ha_St) :=
  ha_gd (¬ ((k1 : Int32) < 0 ∨ mo_ln k0 ≤ (k1 : Int32).toNatClampNeg)) <|
  ha_nm (ha_sA S k0 (upd (ha_gA S k0) (k1 : Int32).toNatClampNeg k2)) fun S59 =>
  ha_nm ((v2 : Int32) + 1) fun x60 =>
  self (x60, S59)
def f_X12_reckon_L2 (p0 : Nat) (p1 : Int32) (self : (Int32 × ha_St) → Option (ha_St)) (v2 : Int32) (S : ha_St) : Option (ha_St) :=
  if (289 : Int32) ≤ v2 then (some S) else
  ((ha_rf mo_kd S p0 79 100).bind fun r62 =>
  if ¬ (((v2 : Int32) - v2 / 18 * 18) : Int32) = 0 then (f_X12_reckon_L2_J28 p0 p1 self v2 r62 v2 100000 S) else
  (f_X12_reckon_L2_J28 p0 p1 self v2 r62 v2 0 S))
def f_X12_reckon_L2i (p0 : Nat) (p1 : Int32) : Nat → (Int32 × ha_St) → Option (ha_St) := ha_itr (fun self z => f_X12_reckon_L2 p0 p1 self z.1 z.2)
def f_X12_reckon (p0 : Nat) (p1 : Int32) (S : ha_St) : Option (Int32 × ha_St) :=
  (f_X12_reckon_L2i p0 p1 ha_fu (0, S)).bind (fun z => f_X12_reckon_J35 p0 p1  z)

def f_X12_delay_J75 (p0 : Nat) (p1 : Int32) (p2 : Int32) (p3 : Int32) (k0 : Int32) (S : ha_St) : Option (Int32 × ha_St) :=
  some (k0, S)
def f_X12_delay_J28 (p0 : Nat) (p1 : Int32) (p2 : Int32) (p3 : Int32)  (S : ha_St) : Option (Int32 × ha_St) :=
  some ((-1), S)
def f_X12_delay (p0 : Nat) (p1 : Int32) (p2 : Int32) (p3 : Int32) (S : ha_St) : Option (Int32 × ha_St) :=
  ha_nm (ha_sI S p0 0 0) fun S1 =>
  (f_X12_isIn p1 0 ((((ha_gI S1 p0 4) : Int32) - 1))).bind fun z2 =>
  if (z2 : Int32) = 0 then (f_X12_delay_J28 p0 p1 p2 p3  S1) else
  ((f_X12_isIn p3 0 1).bind fun z4 =>
  if ¬ (z4 : Int32) = 0 then ((f_X12_reckon p0 p2 S1).bind fun z6 =>
  if ¬ (z6.1 : Int32) = 0 then (if ¬ (p3 : Int32) = 0 then ((ha_rf mo_kd z6.2 p0 79 100).bind fun r9 =>
  ha_gd (¬ ((((((((17 : Int32) * p1) : Int32) + p1) : Int32) + 1) : Int32) < 0 ∨ mo_ln r9 ≤ (((((((17 : Int32) * p1) : Int32) + p1) : Int32) + 1) : Int32).toNatClampNeg)) <|
  f_X12_delay_J75 p0 p1 p2 p3 ((ha_gA z6.2 r9 (((((((17 : Int32) * p1) : Int32) + p1) : Int32) + 1) : Int32).toNatClampNeg)) z6.2) else
  ((ha_rf mo_kd z6.2 p0 79 100).bind fun r11 =>
  ha_gd (¬ ((((((17 : Int32) * ((p1 : Int32) + 1)) : Int32) + p1) : Int32) < 0 ∨ mo_ln r11 ≤ (((((17 : Int32) * ((p1 : Int32) + 1)) : Int32) + p1) : Int32).toNatClampNeg)) <|
  f_X12_delay_J75 p0 p1 p2 p3 ((-(ha_gA z6.2 r11 (((((17 : Int32) * ((p1 : Int32) + 1)) : Int32) + p1) : Int32).toNatClampNeg))) z6.2)) else
  (some ((-2), z6.2))) else
  (f_X12_delay_J28 p0 p1 p2 p3  S1))

def f_X12_look_J86 (p0 : Nat) (p1 : Int32) (v2 : Int32) (S : ha_St) : Option (Int32 × ha_St) :=
  some (v2, S)
def f_X12_look_L23_J80 (p0 : Nat) (p1 : Int32) (self : (Int32 × Int32 × Int32 × ha_St) → Option (Int32 × ha_St)) (v2 : Int32) (v3 : Int32) (v4 : Int32) (S : ha_St) : Option (Int32 × ha_St) :=
  ha_nm ((v4 : Int32) + 1) fun x4 =>
  self (v2, v3, x4, S)
def f_X12_look_L23 (p0 : Nat) (p1 : Int32) (self : (Int32 × Int32 × Int32 × ha_St) → Option (Int32 × ha_St)) (v2 : Int32) (v3 : Int32) (v4 : Int32) (S : ha_St) : Option (Int32 × ha_St) :=
  if ((ha_gI S p0 4) : Int32) ≤ v4 then (some (v2, S)) else
  ((ha_rf mo_kd S p0 79 100).bind fun r6 =>
  ha_gd (¬ ((((((((17 : Int32) * v4) : Int32) + v4) : Int32) + 1) : Int32) < 0 ∨ mo_ln r6 ≤ (((((((17 : Int32) * v4) : Int32) + v4) : Int32) + 1) : Int32).toNatClampNeg)) <|
  (ha_rf mo_kd S p0 79 100).bind fun r8 =>
  ha_gd (¬ ((((((17 : Int32) * ((v4 : Int32) + 1)) : Int32) + v4) : Int32) < 0 ∨ mo_ln r8 ≤ (((((17 : Int32) * ((v4 : Int32) + 1)) : Int32) + v4) : Int32).toNatClampNeg)) <|
  ha_nm ((((ha_gA S r6 (((((((17 : Int32) * v4) : Int32) + v4) : Int32) + 1) : Int32).toNatClampNeg) : Int32) + (ha_gA S r8 (((((17 : Int32) * ((v4 : Int32) + 1)) : Int32) + v4) : Int32).toNatClampNeg)) : Int32) fun x10 =>
  if (v3 : Int32) < x10 then (f_X12_look_L23_J80 p0 p1 self v4 x10 v4 S) else
  (f_X12_look_L23_J80 p0 p1 self v2 v3 v4 S))
def f_X12_look_L23i (p0 : Nat) (p1 : Int32) : Nat → (Int32 × Int32 × Int32 × ha_St) → Option (Int32 × ha_St) := ha_itr (fun self z => f_X12_look_L23 p0 p1 self z.1 z.2.1 z.2.2.1 z.2.2.2)
def f_X12_look (p0 : Nat) (p1 : Int32) (S : ha_St) : Option (Int32 × ha_St) :=
  ha_nm (ha_sI S p0 0 0) fun S1 =>
  (f_X12_reckon p0 p1 S1).bind fun z2 =>
  if ¬ (z2.1 : Int32) = 0 then ((f_X12_look_L23i p0 p1 ha_fu (0, (-1), 0, z2.2)).bind (fun z => f_X12_look_J86 p0 p1 z.1 z.2)) else
  (some ((-2), z2.2))

def f_X12_comes_J65 (p0 : Nat) (p1 : Int32) (p2 : Int32) (p3 : Int32) (k0 : Int32) (S : ha_St) : Option (Int32 × ha_St) :=
  ha_gd ((k0 : Int32) = 0 ∨ (k0 : Int32) = 1) <|
  some (k0, S)
def f_X12_comes_J48 (p0 : Nat) (p1 : Int32) (p2 : Int32) (p3 : Int32) (v4 : Int32) (S : ha_St) : Option (Int32 × ha_St) :=
  if ¬ (((((v4 : Int32) >>> ((((p1 : Int32) - 1) : Int32) &&& 31)) : Int32) &&& 1) : Int32) = 1 then (f_X12_comes_J65 p0 p1 p2 p3 0 S) else
  (f_X12_comes_J65 p0 p1 p2 p3 1 S)
def f_X12_comes_L6_J42 (p0 : Nat) (p1 : Int32) (p2 : Int32) (p3 : Int32) (self : (Int32 × Int32 × ha_St) → Option (Int32 × ha_St)) (v4 : Int32) (v5 : Int32) (S : ha_St) : Option (Int32 × ha_St) :=
  ha_nm ((v5 : Int32) + 1) fun x3 =>
  self (v4, x3, S)
def f_X12_comes_L6 (p0 : Nat) (p1 : Int32) (p2 : Int32) (p3 : Int32) (self : (Int32 × Int32 × ha_St) → Option (Int32 × ha_St)) (v4 : Int32) (v5 : Int32) (S : ha_St) : Option (Int32 × ha_St) :=
  if (p1 : Int32) ≤ v5 then (some (v4, S)) else
  (if ¬ (((((v4 : Int32) >>> ((v5 : Int32) &&& 31)) : Int32) &&& 1) : Int32) = 1 then (f_X12_comes_L6_J42 p0 p1 p2 p3 self v4 v5 S) else
  ((ha_rf mo_kd S p0 81 100).bind fun r6 =>
  ha_gd (¬ ((((((14 : Int32) * p2) : Int32) + v5) : Int32) < 0 ∨ mo_ln r6 ≤ (((((14 : Int32) * p2) : Int32) + v5) : Int32).toNatClampNeg)) <|
  ha_nm (((v4 : Int32) ||| (((ha_gA S r6 (((((14 : Int32) * p2) : Int32) + v5) : Int32).toNatClampNeg) : Int32) &&& p3)) : Int32) fun x8 =>
  f_X12_comes_L6_J42 p0 p1 p2 p3 self x8 v5 S))
def f_X12_comes_L6i (p0 : Nat) (p1 : Int32) (p2 : Int32) (p3 : Int32) : Nat → (Int32 × Int32 × ha_St) → Option (Int32 × ha_St) := ha_itr (fun self z => f_X12_comes_L6 p0 p1 p2 p3 self z.1 z.2.1 z.2.2)
def f_X12_comes (p0 : Nat) (p1 : Int32) (p2 : Int32) (p3 : Int32) (S : ha_St) : Option (Int32 × ha_St) :=
  (f_X12_comes_L6i p0 p1 p2 p3 ha_fu (1, 0, S)).bind (fun z => f_X12_comes_J48 p0 p1 p2 p3 z.1 z.2)

def f_X12_hills_J283 (p0 : Nat) (p1 : Int32) (v4 : Int32) (S : ha_St) : Option (Int32 × ha_St) :=
  some (v4, S)
def f_X12_hills_J271 (p0 : Nat) (p1 : Int32) (v4 : Int32) (v5 : Int32) (S : ha_St) : Option (Int32 × ha_St) :=
  if (v4 : Int32) = (-1) then (f_X12_hills_J283 p0 p1 v4 S) else
  (ha_nm (ha_sI S p0 82 v5) fun S2 =>
  f_X12_hills_J283 p0 p1 v4 S2)
def f_X12_hills_L144_J265 (p0 : Nat) (p1 : Int32) (self : (Int32 × Int32 × Int32 × Int32 × ha_St) → Option (Int32 × Int32 × ha_St)) (v3 : Int32) (v4 : Int32) (v5 : Int32) (v6 : Int32) (S : ha_St) : Option (Int32 × Int32 × ha_St) :=
  ha_nm ((v6 : Int32) + 1) fun x3 =>
  self (v3, v4, v5, x3, S)
def f_X12_hills_L144_J249 (p0 : Nat) (p1 : Int32) (self : (Int32 × Int32 × Int32 × Int32 × ha_St) → Option (Int32 × Int32 × ha_St)) (v3 : Int32) (v4 : Int32) (v5 : Int32) (v6 : Int32) (v7 : Int32) (v8 : Int32) (v9 : Int32) (S : ha_St) : Option (Int32 × Int32 × ha_St) :=
  if ¬ (v9 : Int32) = 0 then (f_X12_hills_L144_J265 p0 p1 self v3 v8 v7 v6 S) else
  (f_X12_hills_L144_J265 p0 p1 self v3 v4 v5 v6 S)
def f_X12_hills_L221 (p0 : Nat) (p1 : Int32) (self : (Int32 × Int32 × Int32 × Int32 × Int32 × Int32 × Int32 × Int32 × ha_St) → Option (Int32 × Int32 × Int32 × Int32 × Int32 × Int32 × Int32 × ha_St)) (v3 : Int32) (v4 : Int32) (v5 : Int32) (v6 : Int32) (v7 : Int32) (v8 : Int32) (v9 : Int32) (v10 : Int32) (S : ha_St) : Option (Int32 × Int32 × Int32 × Int32 × Int32 × Int32 × Int32 × ha_St) :=
  if (v3 : Int32) ≤ v10 then (some (v3, v4, v5, v6, v7, v8, v9, S)) else
  (if (v9 : Int32) = 0 then (some (v3, v4, v5, v6, v7, v8, v9, S)) else
  ((f_X12_comes p0 p1 v10 v7 S).bind fun z7 =>
  ha_nm ((v10 : Int32) + 1) fun x8 =>
  self (v3, v4, v5, v6, v7, v8, z7.1, x8, z7.2)))
def f_X12_hills_L221i (p0 : Nat) (p1 : Int32) : Nat → (Int32 × Int32 × Int32 × Int32 × Int32 × Int32 × Int32 × Int32 × ha_St) → Option (Int32 × Int32 × Int32 × Int32 × Int32 × Int32 × Int32 × ha_St) := ha_itr (fun self z => f_X12_hills_L221 p0 p1 self z.1 z.2.1 z.2.2.1 z.2.2.2.1 z.2.2.2.2.1 z.2.2.2.2.2.1 z.2.2.2.2.2.2.1 z.2.2.2.2.2.2.2.1 z.2.2.2.2.2.2.2.2)
def f_X12_hills_L144_J216 (p0 : Nat) (p1 : Int32) (self : (Int32 × Int32 × Int32 × Int32 × ha_St) → Option (Int32 × Int32 × ha_St)) (v3 : Int32) (v4 : Int32) (v5 : Int32) (v6 : Int32) (v7 : Int32) (v8 : Int32) (k0 : Int32) (S : ha_St) : Option (Int32 × Int32 × ha_St) :=
  (f_X12_hills_L221i p0 p1 ha_fu (v3, v4, v5, v6, v7, v8, k0, 0, S)).bind (fun z => f_X12_hills_L144_J249 p0 p1 self z.1 z.2.1 z.2.2.1 z.2.2.2.1 z.2.2.2.2.1 z.2.2.2.2.2.1 z.2.2.2.2.2.2.1 z.2.2.2.2.2.2.2)
def f_X12_hills_L144_J211 (p0 : Nat) (p1 : Int32) (self : (Int32 × Int32 × Int32 × Int32 × ha_St) → Option (Int32 × Int32 × ha_St)) (v3 : Int32) (v4 : Int32) (v5 : Int32) (v6 : Int32) (v7 : Int32) (v8 : Int32) (S : ha_St) : Option (Int32 × Int32 × ha_St) :=
  f_X12_hills_L144_J216 p0 p1 self v3 v4 v5 v6 v7 v8 1 S
def f_X12_hills_L144_J198 (p0 : Nat) (p1 : Int32) (self : (Int32 × Int32 × Int32 × Int32 × ha_St) → Option (Int32 × Int32 × ha_St)) (v3 : Int32) (v4 : Int32) (v5 : Int32) (v6 : Int32) (v7 : Int32) (v8 : Int32) (S : ha_St) : Option (Int32 × Int32 × ha_St) :=
  if (v4 : Int32) = (-1) then (f_X12_hills_L144_J211 p0 p1 self v3 v4 v5 v6 v7 v8 S) else
  (if (v4 : Int32) ≤ v8 then (f_X12_hills_L144_J216 p0 p1 self v3 v4 v5 v6 v7 v8 0 S) else
  (f_X12_hills_L144_J211 p0 p1 self v3 v4 v5 v6 v7 v8 S))
def f_X12_hills_L174 (p0 : Nat) (p1 : Int32) (self : (Int32 × Int32 × Int32 × Int32 × Int32 × Int32 × Int32 × ha_St) → Option (Int32 × Int32 × Int32 × Int32 × Int32 × Int32 × ha_St)) (v3 : Int32) (v4 : Int32) (v5 : Int32) (v6 : Int32) (v7 : Int32) (v8 : Int32) (v9 : Int32) (S : ha_St) : Option (Int32 × Int32 × Int32 × Int32 × Int32 × Int32 × ha_St) :=
  if (p1 : Int32) ≤ v9 then (some (v3, v4, v5, v6, v7, v8, S)) else
  (ha_nm (((v8 : Int32) + ((((v7 : Int32) >>> ((v9 : Int32) &&& 31)) : Int32) &&& 1)) : Int32) fun x16 =>
  ha_nm ((v9 : Int32) + 1) fun x17 =>
  self (v3, v4, v5, v6, v7, x16, x17, S))
def f_X12_hills_L174i (p0 : Nat) (p1 : Int32) : Nat → (Int32 × Int32 × Int32 × Int32 × Int32 × Int32 × Int32 × ha_St) → Option (Int32 × Int32 × Int32 × Int32 × Int32 × Int32 × ha_St) := ha_itr (fun self z => f_X12_hills_L174 p0 p1 self z.1 z.2.1 z.2.2.1 z.2.2.2.1 z.2.2.2.2.1 z.2.2.2.2.2.1 z.2.2.2.2.2.2.1 z.2.2.2.2.2.2.2)
def f_X12_hills_L144 (p0 : Nat) (p1 : Int32) (self : (Int32 × Int32 × Int32 × Int32 × ha_St) → Option (Int32 × Int32 × ha_St)) (v3 : Int32) (v4 : Int32) (v5 : Int32) (v6 : Int32) (S : ha_St) : Option (Int32 × Int32 × ha_St) :=
  if (((1 : Int32) <<< ((((p1 : Int32) - 2) : Int32) &&& 31)) : Int32) ≤ v6 then (some (v4, v5, S)) else
  (ha_nm (((((1 : Int32) ||| ((v6 : Int32) <<< ((1 : Int32) &&& 31))) : Int32) ||| ((1 : Int32) <<< ((((p1 : Int32) - 1) : Int32) &&& 31))) : Int32) fun x14 =>
  (f_X12_hills_L174i p0 p1 ha_fu (v3, v4, v5, v6, x14, 0, 0, S)).bind (fun z => f_X12_hills_L144_J198 p0 p1 self z.1 z.2.1 z.2.2.1 z.2.2.2.1 z.2.2.2.2.1 z.2.2.2.2.2.1 z.2.2.2.2.2.2))
def f_X12_hills_L144i (p0 : Nat) (p1 : Int32) : Nat → (Int32 × Int32 × Int32 × Int32 × ha_St) → Option (Int32 × Int32 × ha_St) := ha_itr (fun self z => f_X12_hills_L144 p0 p1 self z.1 z.2.1 z.2.2.1 z.2.2.2.1 z.2.2.2.2)
def f_X12_hills_J135 (p0 : Nat) (p1 : Int32) (v3 : Int32) (S : ha_St) : Option (Int32 × ha_St) :=
  (f_X12_hills_L144i p0 p1 ha_fu (v3, (-1), 0, 0, S)).bind (fun z => f_X12_hills_J271 p0 p1 z.1 z.2.1 z.2.2)
def f_X12_hills_J42 (p0 : Nat) (p1 : Int32)  (S : ha_St) : Option (Int32 × ha_St) :=
  some ((-2), S)
def f_X12_hills_L54_J129 (p0 : Nat) (p1 : Int32) (self : (Int32 × Int32 × ha_St) → Option (Int32 × ha_St)) (v3 : Int32) (v4 : Int32) (S : ha_St) : Option (Int32 × ha_St) :=
  ha_nm ((v4 : Int32) + 1) fun x33 =>
  self (v3, x33, S)
def f_X12_hills_L63 (p0 : Nat) (p1 : Int32) (self : (Int32 × Int32 × Int32 × ha_St) → Option (Int32 × Int32 × ha_St)) (v3 : Int32) (v4 : Int32) (v5 : Int32) (S : ha_St) : Option (Int32 × Int32 × ha_St) :=
  if (p1 : Int32) ≤ v5 then (some (v3, v4, S)) else
  (ha_nm (((2 : Int32) * ((((p1 : Int32) * v4) : Int32) + v5)) : Int32) fun x36 =>
  (ha_rf mo_kd S p0 81 100).bind fun r37 =>
  (ha_rf mo_kd S p0 1 100).bind fun r38 =>
  ha_gd (¬ ((x36 : Int32) < 0 ∨ mo_ln r38 ≤ (x36 : Int32).toNatClampNeg)) <|
  (ha_rf mo_kd S p0 1 100).bind fun r40 =>
  ha_gd (¬ ((((x36 : Int32) + 1) : Int32) < 0 ∨ mo_ln r40 ≤ (((x36 : Int32) + 1) : Int32).toNatClampNeg)) <|
  ha_gd (¬ ((((((14 : Int32) * v4) : Int32) + v5) : Int32) < 0 ∨ mo_ln r37 ≤ (((((14 : Int32) * v4) : Int32) + v5) : Int32).toNatClampNeg)) <|
  ha_nm (ha_sA S r37 (upd (ha_gA S r37) (((((14 : Int32) * v4) : Int32) + v5) : Int32).toNatClampNeg ((((((256 : Int32) * (ha_gA S r38 (x36 : Int32).toNatClampNeg)) : Int32) + (ha_gA S r40 (((x36 : Int32) + 1) : Int32).toNatClampNeg)) : Int32) &&& ((((1 : Int32) <<< ((p1 : Int32) &&& 31)) : Int32) - ((2 : Int32) <<< ((v5 : Int32) &&& 31)))))) fun S43 =>
  ha_nm ((v5 : Int32) + 1) fun x44 =>
  self (v3, v4, x44, S43))
def f_X12_hills_L63i (p0 : Nat) (p1 : Int32) : Nat → (Int32 × Int32 × Int32 × ha_St) → Option (Int32 × Int32 × ha_St) := ha_itr (fun self z => f_X12_hills_L63 p0 p1 self z.1 z.2.1 z.2.2.1 z.2.2.2)
def f_X12_hills_L54 (p0 : Nat) (p1 : Int32) (self : (Int32 × Int32 × ha_St) → Option (Int32 × ha_St)) (v3 : Int32) (v4 : Int32) (S : ha_St) : Option (Int32 × ha_St) :=
  if (v3 : Int32) ≤ v4 then (some (v3, S)) else
  ((f_X12_hills_L63i p0 p1 ha_fu (v3, v4, 0, S)).bind (fun z => f_X12_hills_L54_J129 p0 p1 self z.1 z.2.1 z.2.2))
def f_X12_hills_L54i (p0 : Nat) (p1 : Int32) : Nat → (Int32 × Int32 × ha_St) → Option (Int32 × ha_St) := ha_itr (fun self z => f_X12_hills_L54 p0 p1 self z.1 z.2.1 z.2.2)
def f_X12_hills (p0 : Nat) (p1 : Int32) (S : ha_St) : Option (Int32 × ha_St) :=
  ha_nm (ha_sI S p0 0 0) fun S22 =>
  (f_X12_take p0 S22).bind fun z23 =>
  (f_X12_isIn p1 3 14).bind fun z24 =>
  if (z24 : Int32) = 0 then (f_X12_hills_J42 p0 p1  z23.2) else
  (ha_gd (¬ (((2 : Int32) * p1) : Int32) = 0) <|
  if ¬ (((z23.1 : Int32) - z23.1 / ((2 : Int32) * p1) * ((2 : Int32) * p1)) : Int32) = 0 then (f_X12_hills_J42 p0 p1  z23.2) else
  (ha_gd (¬ (((2 : Int32) * p1) : Int32) = 0) <|
  (f_X12_isIn (((z23.1 : Int32) / ((2 : Int32) * p1))) 1 8).bind fun z29 =>
  if ¬ (z29 : Int32) = 0 then (ha_gd (¬ (((2 : Int32) * p1) : Int32) = 0) <|
  ha_nm (((z23.1 : Int32) / ((2 : Int32) * p1)) : Int32) fun x32 =>
  (f_X12_hills_L54i p0 p1 ha_fu (x32, 0, z23.2)).bind (fun z => f_X12_hills_J135 p0 p1 z.1 z.2)) else
  (f_X12_hills_J42 p0 p1  z23.2)))

def f_X12_hillSet (p0 : Nat) (S : ha_St) : Option (Int32 × ha_St) :=
  ha_nm (ha_sI S p0 0 0) fun S1 =>
  some ((ha_gI S1 p0 82), S1)

def f_X12_count (p0 : Nat) (p1 : Int32) (S : ha_St) : Option (Int32 × ha_St) :=
  ha_nm (ha_sI S p0 0 0) fun S1 =>
  ha_nm (p1 : Int32) fun xs =>
  if xs = 0 then (some ((ha_gI S1 p0 3), S1)) else
  (if xs = 1 then (some ((ha_gI S1 p0 4), S1)) else
  (if xs = 2 then (some ((ha_gI S1 p0 31), S1)) else
  (if xs = 3 then (some ((ha_gI S1 p0 67), S1)) else
  (if xs = 4 then (some ((ha_gI S1 p0 80), S1)) else
  (if xs = 5 then (some ((ha_gI S1 p0 30), S1)) else
  (if xs = 6 then (some ((ha_gI S1 p0 2), S1)) else
  (some ((-1), S1))))))))
