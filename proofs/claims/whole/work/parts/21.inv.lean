/-! WHAT HOLDS BETWEEN THE CALLS -/
/-- the class's references that never change -/
def xo_ref (o k : Nat) : Option Nat :=
  if o < 100 ∧ k < 16 ∧ ¬ (o = 3 ∧ k = 0) ∧ xo_kd (100 + 16 * o + k) < 999 then some (100 + 16 * o + k)
  else if o = 0 then [some 1, some 2, some 3, some 4, some 5, some 6, some 7, some 8, none, some 9, some 10].getD k none
  else if o = 4 ∧ k = 0 then some 16 else if o = 5 ∧ k = 2 then some 17 else none
def IR (X : ha_St) : Prop := ∀ o k r, xo_ref o k = some r → ha_gR X o k = some r
def IB (X : ha_St) : Prop := (∀ j, j < 61 → ha_gB X 180 j = some (20 + j)) ∧ (∀ j, j < 11 → ha_gB X 181 j = some (81 + j)) ∧ (∀ j, j < 17 → ha_gB X 248 j = some (2000 + j))
def IM (M : ha_St) : Prop := ∀ k, mo_kd (k + 1) < 999 → ha_gR M 0 k = some (k + 1)
theorem xr {X : ha_St} (h : IR X) (o k ci r : Nat) (h1 : xo_ref o k = some r := by decide +kernel) (h2 : xo_kd r = ci := by decide +kernel) : ha_rf xo_kd X o k ci = some r := pw_rf (h o k r h1) h2
theorem mr {M : ha_St} (h : IM M) (k ci : Nat) (h1 : mo_kd (k + 1) = ci := by decide +kernel) (h2 : ci < 999 := by decide +kernel) : ha_rf mo_kd M 0 k ci = some (k + 1) := pw_rf (h k (by omega)) h1
/-- the tape -/
def I1 (X M : ha_St) : Prop := ha_gI X 1 1 = ha_gI M 0 2 ∧ 0 ≤ (ha_gI M 0 2).toInt ∧ (ha_gI M 0 2).toInt ≤ 440 ∧ ha_gA X 116 = ha_gA M 2 ∧ ∀ j, 0 ≤ (ha_gA M 2 j).toInt ∧ (ha_gA M 2 j).toInt ≤ 255
/-- today, towers -/
def I2 (X M : ha_St) : Prop := ha_gI X 0 13 = ha_gI M 0 3 ∧ 0 ≤ (ha_gI M 0 3).toInt ∧ (ha_gI M 0 3).toInt ≤ 999 ∧ ha_gI X 2 5 = ha_gI M 0 4 ∧ 3 ≤ (ha_gI M 0 4).toInt ∧ (ha_gI M 0 4).toInt ≤ 16
/-- the message -/
def I3 (X M : ha_St) : Prop := ha_gI X 2 6 = ha_gI M 0 30 ∧ 0 ≤ (ha_gI M 0 30).toInt ∧ (ha_gI M 0 30).toInt ≤ 60 ∧ ∀ j : Nat, (j : Int) < (ha_gI M 0 30).toInt → ha_gA X 133 j = ha_gA M 27 j ∧ 1 ≤ (ha_gA M 27 j).toInt ∧ (ha_gA M 27 j).toInt ≤ 63
/-- a bit -/
def bq (x : Int32) (g : Nat) : Bool := x.toBitVec.getLsbD g
/-- gap g is told foggy at tick t -/
def fogQ (M : ha_St) (g t : Nat) : Prop := ∃ k : Nat, (k : Int) < (ha_gI M 0 31).toInt ∧ (ha_gA M 28 k).toInt = g ∧ (ha_gA M 29 k).toInt ≤ t ∧ (t : Int) ≤ (ha_gA M 30 k).toInt
/-- the fog -/
def I4 (X M : ha_St) : Prop := ha_gI X 2 7 = ha_gI M 0 31 ∧ 0 ≤ (ha_gI M 0 31).toInt ∧ (ha_gI M 0 31).toInt ≤ 60 ∧ ∀ t g : Nat, 1 ≤ t → t ≤ 500 → g < 31 → (bq (ha_gA X 134 t) g = true ↔ fogQ M g t)
/-- the marks and acts of a program, here and there -/
def mkR (a b : Int32) : Prop := (a = 120 ∧ b = 60) ∨ (a = 121 ∧ b = 61) ∨ (a = 122 ∧ b = 62) ∨ (a = 123 ∧ b = 35)
def acR (a b : Int32) : Prop := (a = 113 ∧ b = 4) ∨ (a = 115 ∧ b = 5) ∨ (a = 116 ∧ b = 6) ∨ (a = 106 ∧ b = 0) ∨ (a = 107 ∧ b = 1) ∨ (a = 108 ∧ b = 2) ∨ (a = 109 ∧ b = 3)
def vaR (a : Int32) : Prop := 0 ≤ a.toInt ∧ a.toInt < 110
/-- where the ones (acts) of rule i begin -/
def rb (f : Nat → Int32) (b i : Nat) : Int := if i = 0 then 0 else (f (b + i - 1)).toInt
/-- program object p is the model's program k -/
def PR (X : ha_St) (p : Nat) (M : ha_St) (k : Nat) : Prop :=
  ha_gI X p 8 = ha_gA M 15 k ∧ 0 ≤ (ha_gA M 15 k).toInt ∧ (ha_gA M 15 k).toInt ≤ 20 ∧
  (∀ i : Nat, (i : Int) < (ha_gA M 15 k).toInt → ha_gA X (100 + 16 * p) i = ha_gA M 16 (20 * k + i) ∧ ha_gA X (101 + 16 * p) i = ha_gA M 17 (20 * k + i) ∧ rb (ha_gA M 16) (20 * k) i ≤ (ha_gA M 16 (20 * k + i)).toInt ∧ rb (ha_gA M 17) (20 * k) i ≤ (ha_gA M 17 (20 * k + i)).toInt ∧ (ha_gA M 16 (20 * k + i)).toInt ≤ 40 ∧ (ha_gA M 17 (20 * k + i)).toInt ≤ 40) ∧
  (∀ i : Nat, (i : Int) < rb (ha_gA M 16) (20 * k) (ha_gA M 15 k).toInt.toNat → ha_gA X (102 + 16 * p) i = ha_gA M 18 (40 * k + i) ∧ mkR (ha_gA X (103 + 16 * p) i) (ha_gA M 19 (40 * k + i)) ∧ ha_gA X (104 + 16 * p) i = ha_gA M 20 (40 * k + i) ∧ vaR (ha_gA M 18 (40 * k + i)) ∧ vaR (ha_gA M 20 (40 * k + i)) ∧ (ha_gI X p 11 = 0 → ha_gA M 18 (40 * k + i) ≠ 103 ∧ ha_gA M 20 (40 * k + i) ≠ 103)) ∧
  (∀ i : Nat, (i : Int) < rb (ha_gA M 17) (20 * k) (ha_gA M 15 k).toInt.toNat → acR (ha_gA X (105 + 16 * p) i) (ha_gA M 21 (40 * k + i)) ∧ vaR (ha_gA X (106 + 16 * p) i) ∧ vaR (ha_gA X (107 + 16 * p) i) ∧ (ha_gA M 21 (40 * k + i) ≠ 6 → ha_gA X (106 + 16 * p) i = ha_gA M 22 (40 * k + i) ∧ vaR (ha_gA M 22 (40 * k + i)) ∧ ((ha_gA M 23 (40 * k + i) = -1 ∧ ha_gA X (107 + 16 * p) i = 0) ∨ (ha_gA X (107 + 16 * p) i = ha_gA M 23 (40 * k + i) ∧ vaR (ha_gA M 23 (40 * k + i)))) ∧ (ha_gI X p 11 = 0 → ha_gA M 22 (40 * k + i) ≠ 103 ∧ ha_gA M 23 (40 * k + i) ≠ 103)))
/-- the programs, the values' row -/
def I5 (X M : ha_St) : Prop := (∃ p q r b : Nat, ∃ p1 p2 : Nat, ha_gB X 132 0 = some p ∧ ha_gB X 132 1 = some p1 ∧ ha_gB X 132 2 = some p2 ∧ ha_gR X 0 11 = some q ∧ ha_gR X 3 2 = some r ∧ ha_gR X 3 0 = some b ∧ xo_kd b = 100 ∧ 11 ≤ p ∧ p ≤ 15 ∧ 11 ≤ p1 ∧ p1 ≤ 15 ∧ 11 ≤ p2 ∧ p2 ≤ 15 ∧ 11 ≤ q ∧ q ≤ 15 ∧ 11 ≤ r ∧ r ≤ 15 ∧ p ≠ p1 ∧ p ≠ p2 ∧ p1 ≠ p2 ∧ q ≠ p ∧ q ≠ p1 ∧ q ≠ p2 ∧ PR X p M 0 ∧ PR X p1 M 1 ∧ PR X p2 M 2) ∧ (∀ i, i < 100 → ha_gA X 136 i = nI i) ∧ ha_gA X 136 105 = -1
/-- the latest fault, small set, hill set -/
def I6 (X M : ha_St) : Prop := ha_gI X 0 12 = ha_gI M 0 11 ∧ ha_gI X 0 15 = ha_gI M 0 74 ∧ ha_gI X 0 16 = ha_gI M 0 82
/-- the latest play -/
def I7 (X M : ha_St) : Prop := ha_gI X 4 2 = ha_gI M 0 53 ∧ ((ha_gI M 0 53 = -1 ∧ ha_gI X 16 5 = 0) ∨ (0 ≤ (ha_gI M 0 53).toInt ∧ (ha_gI M 0 53).toInt ≤ 500 ∧ ha_gI X 16 4 = ha_gI M 0 54 ∧ 3 ≤ (ha_gI M 0 54).toInt ∧ (ha_gI M 0 54).toInt ≤ 16 ∧
  (∀ i t : Nat, (i : Int) ≤ (ha_gI M 0 53).toInt → (t : Int) < (ha_gI M 0 54).toInt → ha_gA X 165 (16 * i + t) = ha_gA M 50 (16 * i + t)) ∧
  (∀ t c : Nat, (t : Int) < (ha_gI M 0 54).toInt → c < 4 → ha_gA X 358 (4 * t + c) = ha_gA M 51 (4 * t + c)) ∧ (∀ t : Nat, (t : Int) < (ha_gI M 0 54).toInt → ha_gA X 357 t = ha_gA M 52 t) ∧
  ha_gI X 16 5 = ha_gI M 0 55 ∧ 0 ≤ (ha_gI M 0 55).toInt ∧ (ha_gI M 0 55).toInt ≤ 100 ∧ (∀ k : Nat, (k : Int) < (ha_gI M 0 55).toInt → ha_gA X 359 k = ha_gA M 53 k) ∧
  ha_gI X 4 4 = ha_gI M 0 56 ∧ ha_gI X 16 7 = ha_gI M 0 57 ∧ ha_gI X 4 3 = ha_gI M 0 58 ∧ ha_gI X 16 6 = ha_gI M 0 59))
/-- the latest broken -/
def I8 (X M : ha_St) : Prop := (ha_gI X 5 10 = ha_gI M 0 62 ∨ (ha_gI X 5 10 = -1 ∧ ha_gI M 0 62 = 0)) ∧ 0 ≤ (ha_gI M 0 62).toInt ∧ (ha_gI M 0 62).toInt ≤ 2 ∧ ∀ k : Nat, (k : Int) < (ha_gI M 0 62).toInt → ha_gA X 188 k = ha_gA M 61 k ∧ ha_gA X 189 k = ha_gA M 62 k
/-- words: letters, single blanks between -/
def isL (x : Int32) : Prop := 97 ≤ x.toInt ∧ x.toInt ≤ 122
def Told (f : Nat → Int32) (n : Nat) : Prop := 0 < n ∧ isL (f 0) ∧ isL (f (n - 1)) ∧ ∀ i, i < n → isL (f i) ∨ (f i = 32 ∧ 0 < i ∧ isL (f (i - 1)))
/-- how many blanks stand ahead of place n -/
def blk (f : Nat → Int32) : Nat → Nat
  | 0 => 0
  | n + 1 => blk f n + if f n = 32 then 1 else 0
/-- the book's entries -/
def I9 (X M : ha_St) : Prop := ha_gI X 6 3 = ha_gI M 0 67 ∧ 0 ≤ (ha_gI M 0 67).toInt ∧ (ha_gI M 0 67).toInt ≤ 12 ∧ ∀ e : Nat, (e : Int) < (ha_gI M 0 67).toInt → ha_gA X 197 e = ha_gA M 65 e ∧ 1 ≤ (ha_gA M 65 e).toInt ∧ (ha_gA M 65 e).toInt ≤ 12 ∧ (∀ i : Nat, (i : Int) < (ha_gA M 65 e).toInt → ha_gA X 196 (12 * e + i) = ha_gA M 64 (12 * e + i)) ∧ Told (fun i => ha_gA M 64 (12 * e + i)) (ha_gA M 65 e).toInt.toNat ∧ ha_gA X 198 e = nI (1 + blk (fun i => ha_gA M 64 (12 * e + i)) (ha_gA M 65 e).toInt.toNat)
/-- the latest pieces -/
def I10 (X M : ha_St) : Prop := ha_gI X 0 14 = ha_gI M 0 73 ∧ 0 ≤ (ha_gI M 0 73).toInt ∧ (ha_gI M 0 73).toInt ≤ 60 ∧ ∀ k : Nat, (k : Int) < (ha_gI M 0 73).toInt → ha_gA X 108 k = ha_gA M 72 k
/-- the sum of the first n texts' sizes -/
def tsz (f : Nat → Int32) : Nat → Nat
  | 0 => 0
  | n + 1 => tsz f n + (f n).toInt.toNat
/-- the year's texts -/
def I11 (X M : ha_St) : Prop := ha_gI X 8 6 = ha_gI M 0 68 ∧ 0 ≤ (ha_gI M 0 68).toInt ∧ (ha_gI M 0 68).toInt ≤ 8 ∧ ha_gI X 8 4 = nI (tsz (ha_gA M 67) (ha_gI M 0 68).toInt.toNat + (ha_gI M 0 68).toInt.toNat) ∧ ha_gI X 8 7 = nI (tsz (ha_gA M 67) (ha_gI M 0 68).toInt.toNat) ∧ ∀ y : Nat, (y : Int) < (ha_gI M 0 68).toInt → 1 ≤ (ha_gA M 67 y).toInt ∧ (ha_gA M 67 y).toInt ≤ 60 ∧ Told (fun i => ha_gA M 66 (60 * y + i)) (ha_gA M 67 y).toInt.toNat ∧ (∀ i : Nat, (i : Int) < (ha_gA M 67 y).toInt → ha_gA X 228 (tsz (ha_gA M 67) y + y + i) = ha_gA M 66 (60 * y + i)) ∧ ha_gA X 228 (tsz (ha_gA M 67) y + y + (ha_gA M 67 y).toInt.toNat) = 0
/-- the notes -/
def I13 (X M : ha_St) : Prop := ha_gI X 9 8 = ha_gI M 0 80 ∧ 0 ≤ (ha_gI M 0 80).toInt ∧ (ha_gI M 0 80).toInt ≤ 60 ∧ ∀ k : Nat, (k : Int) < (ha_gI M 0 80).toInt → ha_gA X 244 k = ha_gA M 76 k ∧ ha_gA X 245 k = ha_gA M 77 k ∧ ha_gA X 246 k = ha_gA M 78 k ∧ ha_gA X 247 k = ha_gA M 79 k ∧ 0 ≤ (ha_gA M 76 k).toInt ∧ (ha_gA M 76 k).toInt ≤ (ha_gA M 77 k).toInt ∧ (ha_gA M 77 k).toInt < (ha_gI M 0 4).toInt ∧ 1 ≤ (ha_gA M 78 k).toInt ∧ (ha_gA M 78 k).toInt ≤ 200 ∧ 0 ≤ (ha_gA M 79 k).toInt ∧ (ha_gA M 79 k).toInt ≤ (ha_gI M 0 3).toInt ∧ (∀ j : Nat, j < k → (ha_gA M 79 j).toInt ≤ (ha_gA M 79 k).toInt)
/-- delays' limits: d fits the first c notes over n towers (places 0 .. n) -/
def Fits (M : ha_St) (n c : Nat) (d : Nat → Int) : Prop := (∀ i, i < n → 1 ≤ d (i + 1) - d i ∧ d (i + 1) - d i ≤ 9) ∧ ∀ k, k < c → d ((ha_gA M 77 k).toInt.toNat + 1) - d (ha_gA M 76 k).toInt.toNat = (ha_gA M 78 k).toInt
/-- what the class keeps weighed: for the towers and the notes as they were then -/
def I14 (X M : ha_St) : Prop := (ha_gI X 9 7 = 0 ∨ ha_gI X 9 7 = 1) ∧ (ha_gI X 9 6 = -1 ∨ (0 ≤ (ha_gI X 9 6).toInt ∧ (ha_gI X 9 6).toInt ≤ (ha_gI M 0 80).toInt ∧ 4 ≤ (ha_gI X 9 5).toInt ∧ (ha_gI X 9 5).toInt ≤ 17 ∧ ((ha_gI X 9 7 = 1 ∧ (∀ d, ¬ Fits M ((ha_gI X 9 5).toInt.toNat - 1) (ha_gI X 9 6).toInt.toNat d)) ∨ (ha_gI X 9 7 = 0 ∧ ∀ i j : Nat, (i : Int) < (ha_gI X 9 5).toInt → (j : Int) < (ha_gI X 9 5).toInt → (∀ d, Fits M ((ha_gI X 9 5).toInt.toNat - 1) (ha_gI X 9 6).toInt.toNat d → d j - d i ≤ (ha_gA X (2000 + i) j).toInt) ∧ (∃ d, Fits M ((ha_gI X 9 5).toInt.toNat - 1) (ha_gI X 9 6).toInt.toNat d ∧ d j - d i = (ha_gA X (2000 + i) j).toInt)))))
def Inv (X M : ha_St) : Prop := IR X ∧ IB X ∧ IM M ∧ I1 X M ∧ I2 X M ∧ I3 X M ∧ I4 X M ∧ I5 X M ∧ I6 X M ∧ I7 X M ∧ I8 X M ∧ I9 X M ∧ I10 X M ∧ I11 X M ∧ I13 X M ∧ I14 X M
