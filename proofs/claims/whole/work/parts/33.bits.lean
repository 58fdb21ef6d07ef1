/-! BITS OF NUMBERS -/
theorem n_ext {x y : Int32} (h : ∀ i, i < 32 → x.toBitVec.getLsbD i = y.toBitVec.getLsbD i) : x = y := Int32.toBitVec_inj.mp (BitVec.eq_of_getLsbD_eq (fun i hi => h i hi))
theorem n_lsb (a : Nat) {i : Nat} (hi : i < 32) : (nI a).toBitVec.getLsbD i = a.testBit i := by
  show (BitVec.ofNat 32 a).getLsbD i = _
  rw [BitVec.getLsbD_ofNat]; simp [hi]
theorem n_and (a b : Nat) : nI a &&& nI b = nI (a &&& b) := n_ext (fun i hi => by rw [Int32.toBitVec_and, BitVec.getLsbD_and, n_lsb _ hi, n_lsb _ hi, n_lsb _ hi, Nat.testBit_and])
theorem n_or (a b : Nat) : nI a ||| nI b = nI (a ||| b) := n_ext (fun i hi => by rw [Int32.toBitVec_or, BitVec.getLsbD_or, n_lsb _ hi, n_lsb _ hi, n_lsb _ hi, Nat.testBit_or])
theorem n_sc : ∀ n, n < 32 → ((nI n &&& 31).toBitVec.smod 32).toNat = n := by decide +kernel
theorem n_shl (a : Nat) {h : Nat} (hh : h < 32) : nI a <<< (nI h &&& 31) = nI (a <<< h) := n_ext (fun i hi => by
  rw [Int32.toBitVec_shiftLeft]
  show ((nI a).toBitVec <<< ((nI h &&& 31).toBitVec.smod 32).toNat).getLsbD i = _
  rw [n_sc h hh, BitVec.getLsbD_shiftLeft, n_lsb _ hi, Nat.testBit_shiftLeft]
  by_cases c : i < h
  · simp [c, Nat.not_le.mpr c]
  · rw [n_lsb a (i := i - h) (by omega)]
    simp [c, hi, Nat.not_lt.mp c])
theorem n_shr {a h : Nat} (ha : a < 2 ^ 31) (hh : h < 32) : nI a >>> (nI h &&& 31) = nI (a >>> h) := n_ext (fun i hi => by
  rw [Int32.toBitVec_shiftRight]
  show ((nI a).toBitVec.sshiftRight ((nI h &&& 31).toBitVec.smod 32).toNat).getLsbD i = _
  have hm : (nI a).toBitVec.msb = false := by
    rw [BitVec.msb_eq_getLsbD_last, n_lsb a (by omega), Nat.testBit_lt_two_pow ha]
  rw [n_sc h hh, BitVec.getLsbD_sshiftRight, n_lsb _ hi, Nat.testBit_shiftRight, hm]
  by_cases c : h + i < 32
  · rw [n_lsb a c]; simp [c, hi]
  · have : a.testBit (h + i) = false := Nat.testBit_lt_two_pow (Nat.lt_of_lt_of_le ha (Nat.pow_le_pow_right (by omega) (by omega)))
    simp [c, hi, this])
theorem n_tb (a h : Nat) : (a >>> h) &&& 1 = if a.testBit h then 1 else 0 := by
  rw [Nat.testBit_eq_decide_div_mod_eq, Nat.and_one_is_mod, Nat.shiftRight_eq_div_pow]
  generalize a / 2 ^ h = z
  by_cases c : z % 2 = 1
  · simp [c]
  · simp [c]; omega
theorem n_bit {a h : Nat} (ha : a < 2 ^ 31) (hh : h < 32) : nI a >>> (nI h &&& 31) &&& 1 = if a.testBit h then 1 else 0 := by
  rw [n_shr ha hh]
  show nI (a >>> h) &&& nI 1 = _
  rw [n_and, n_tb]
  by_cases c : a.testBit h = true
  · rw [if_pos c, if_pos c]; rfl
  · rw [if_neg c, if_neg c]; rfl
theorem n_div {a b : Nat} (ha : a < 2 ^ 31) (hb : b < 2 ^ 31) (h0 : 0 < b) : nI a / nI b = nI (a / b) := by
  have hq : a / b ≤ a := Nat.div_le_self a b
  rw [i_eq, Int32.toInt_div, nI_toInt ha, nI_toInt hb, nI_toInt (by omega)]
  rw [← Int.ofNat_tdiv]
  generalize a / b = q at *
  exact Int.bmod_eq_of_le (by omega) (by omega)
theorem n_m1 {a : Nat} (ha : a < 2 ^ 31) : ¬ nI a = -1 := by
  rw [i_eq, nI_toInt ha, z_m1]; omega
/-- how many of the first k bits are set -/
def pc (s : Nat) : Nat → Nat
  | 0 => 0
  | k + 1 => pc s k + if s.testBit k then 1 else 0
theorem pc_le (s : Nat) : ∀ k, pc s k ≤ k
  | 0 => Nat.le_refl _
  | k + 1 => by
    have := pc_le s k
    show pc s k + _ ≤ _
    by_cases c : s.testBit k = true
    · rw [if_pos c]; omega
    · rw [if_neg c]; omega
theorem pc_ext {s k : Nat} (h : s < 2 ^ k) : ∀ m, k ≤ m → pc s m = pc s k
  | 0, hm => by rw [Nat.le_zero.mp hm]
  | m + 1, hm => by
    by_cases e : k = m + 1
    · rw [e]
    · show pc s m + _ = _
      rw [pc_ext h m (by omega), if_neg, Nat.add_zero]
      rw [Nat.testBit_lt_two_pow (Nat.lt_of_lt_of_le h (Nat.pow_le_pow_right (by omega) (by omega)))]
      decide
def bcN (s : Nat) : Nat :=
  let x1 := s - ((s / 2) &&& 1431655765)
  let x2 := (x1 &&& 858993459) + ((x1 / 4) &&& 858993459)
  let x3 := (x2 + x2 / 16) &&& 252645135
  let x4 := x3 + x3 / 256
  let x5 := x4 + x4 / 65536
  x5 &&& 63
theorem bcN_0 : ∀ a, a < 8 → ∀ b, b < 128 → bcN (0 + 128 * a + b) = pc (0 + 128 * a + b) 14 := by decide +kernel
theorem bcN_1 : ∀ a, a < 8 → ∀ b, b < 128 → bcN (1024 + 128 * a + b) = pc (1024 + 128 * a + b) 14 := by decide +kernel
theorem bcN_2 : ∀ a, a < 8 → ∀ b, b < 128 → bcN (2048 + 128 * a + b) = pc (2048 + 128 * a + b) 14 := by decide +kernel
theorem bcN_3 : ∀ a, a < 8 → ∀ b, b < 128 → bcN (3072 + 128 * a + b) = pc (3072 + 128 * a + b) 14 := by decide +kernel
theorem bcN_4 : ∀ a, a < 8 → ∀ b, b < 128 → bcN (4096 + 128 * a + b) = pc (4096 + 128 * a + b) 14 := by decide +kernel
theorem bcN_5 : ∀ a, a < 8 → ∀ b, b < 128 → bcN (5120 + 128 * a + b) = pc (5120 + 128 * a + b) 14 := by decide +kernel
theorem bcN_6 : ∀ a, a < 8 → ∀ b, b < 128 → bcN (6144 + 128 * a + b) = pc (6144 + 128 * a + b) 14 := by decide +kernel
theorem bcN_7 : ∀ a, a < 8 → ∀ b, b < 128 → bcN (7168 + 128 * a + b) = pc (7168 + 128 * a + b) 14 := by decide +kernel
theorem bcN_8 : ∀ a, a < 8 → ∀ b, b < 128 → bcN (8192 + 128 * a + b) = pc (8192 + 128 * a + b) 14 := by decide +kernel
theorem bcN_9 : ∀ a, a < 8 → ∀ b, b < 128 → bcN (9216 + 128 * a + b) = pc (9216 + 128 * a + b) 14 := by decide +kernel
theorem bcN_10 : ∀ a, a < 8 → ∀ b, b < 128 → bcN (10240 + 128 * a + b) = pc (10240 + 128 * a + b) 14 := by decide +kernel
theorem bcN_11 : ∀ a, a < 8 → ∀ b, b < 128 → bcN (11264 + 128 * a + b) = pc (11264 + 128 * a + b) 14 := by decide +kernel
theorem bcN_12 : ∀ a, a < 8 → ∀ b, b < 128 → bcN (12288 + 128 * a + b) = pc (12288 + 128 * a + b) 14 := by decide +kernel
theorem bcN_13 : ∀ a, a < 8 → ∀ b, b < 128 → bcN (13312 + 128 * a + b) = pc (13312 + 128 * a + b) 14 := by decide +kernel
theorem bcN_14 : ∀ a, a < 8 → ∀ b, b < 128 → bcN (14336 + 128 * a + b) = pc (14336 + 128 * a + b) 14 := by decide +kernel
theorem bcN_15 : ∀ a, a < 8 → ∀ b, b < 128 → bcN (15360 + 128 * a + b) = pc (15360 + 128 * a + b) 14 := by decide +kernel
theorem bcN_eq {s : Nat} (h : s < 16384) : bcN s = pc s 14 := by
  have e : s = 1024 * (s / 1024) + 128 * (s % 1024 / 128) + s % 128 := by omega
  have ha : s % 1024 / 128 < 8 := by omega
  have hb : s % 128 < 128 := by omega
  have hc : s / 1024 < 16 := by omega
  rw [e]
  generalize s % 1024 / 128 = a at *
  generalize s % 128 = b at *
  generalize s / 1024 = c at *
  clear e
  obtain rfl | rfl | rfl | rfl | rfl | rfl | rfl | rfl | rfl | rfl | rfl | rfl | rfl | rfl | rfl | rfl : c = 0 ∨ c = 1 ∨ c = 2 ∨ c = 3 ∨ c = 4 ∨ c = 5 ∨ c = 6 ∨ c = 7 ∨ c = 8 ∨ c = 9 ∨ c = 10 ∨ c = 11 ∨ c = 12 ∨ c = 13 ∨ c = 14 ∨ c = 15 := by omega
  · exact bcN_0 a ha b hb
  · exact bcN_1 a ha b hb
  · exact bcN_2 a ha b hb
  · exact bcN_3 a ha b hb
  · exact bcN_4 a ha b hb
  · exact bcN_5 a ha b hb
  · exact bcN_6 a ha b hb
  · exact bcN_7 a ha b hb
  · exact bcN_8 a ha b hb
  · exact bcN_9 a ha b hb
  · exact bcN_10 a ha b hb
  · exact bcN_11 a ha b hb
  · exact bcN_12 a ha b hb
  · exact bcN_13 a ha b hb
  · exact bcN_14 a ha b hb
  · exact bcN_15 a ha b hb
theorem n_ush {a : Nat} (k : Nat) (hk : k < 32) (ha : a < 2 ^ 31) : ha_ush (nI a) (nI k) = nI (a / 2 ^ k) := pk_ushrN (by omega) (nI k) k (by
  have : ∀ n, n < 32 → (((nI n).toUInt32 &&& Int32.toUInt32 31).toBitVec % 32).toNat = n := by decide +kernel
  exact this k hk)
theorem bc_N {s : Nat} (h : s < 2 ^ 20) : f_J6_bitCount_0f7a4 (nI s) = some (nI (bcN s)) := by
  unfold f_J6_bitCount_0f7a4
  simp only [pw_nm]
  have le1 : (s / 2) &&& 1431655765 ≤ s := Nat.le_trans Nat.and_le_left (Nat.div_le_self _ _)
  have lb : ∀ x : Nat, (x &&& 252645135) ≤ 252645135 := fun x => Nat.and_le_right
  have la : ∀ x : Nat, (x &&& 858993459) ≤ x := fun x => Nat.and_le_left
  rw [show (1 : Int32) = nI 1 from rfl, n_ush 1 (by omega) (by omega), show (1431655765 : Int32) = nI 1431655765 from rfl, n_and, show s / 2 ^ 1 = s / 2 from rfl, n_sub le1]
  have h1 : s - ((s / 2) &&& 1431655765) < 2 ^ 20 := by omega
  unfold bcN
  generalize s - ((s / 2) &&& 1431655765) = x1 at *
  rw [show (2 : Int32) = nI 2 from rfl, n_ush 2 (by omega) (by omega), show (858993459 : Int32) = nI 858993459 from rfl, n_and, n_and, nI_add, show x1 / 2 ^ 2 = x1 / 4 from rfl]
  have h2 : (x1 &&& 858993459) + ((x1 / 4) &&& 858993459) < 2 ^ 21 := by
    have := la x1
    have := la (x1 / 4)
    omega
  dsimp only
  generalize (x1 &&& 858993459) + ((x1 / 4) &&& 858993459) = x2 at *
  rw [show (4 : Int32) = nI 4 from rfl, n_ush 4 (by omega) (by omega), nI_add, show (252645135 : Int32) = nI 252645135 from rfl, n_and, show x2 / 2 ^ 4 = x2 / 16 from rfl]
  have h3 := lb (x2 + x2 / 16)
  generalize (x2 + x2 / 16) &&& 252645135 = x3 at *
  rw [show (8 : Int32) = nI 8 from rfl, n_ush 8 (by omega) (by omega), nI_add, show x3 / 2 ^ 8 = x3 / 256 from rfl]
  have h4 : x3 + x3 / 256 < 2 ^ 30 := by omega
  generalize x3 + x3 / 256 = x4 at *
  rw [show (16 : Int32) = nI 16 from rfl, n_ush 16 (by omega) (by omega), nI_add, show x4 / 2 ^ 16 = x4 / 65536 from rfl, show (63 : Int32) = nI 63 from rfl, n_and]
theorem bc_eq {s : Nat} (h : s < 16384) : f_J6_bitCount_0f7a4 (nI s) = some (nI (pc s 14)) := by
  rw [bc_N (by omega), bcN_eq h]
