/-! LONGS AS NUMBERS: a row's place packs type, key and two fields -/
section LA1
def pL (n : Nat) : Int64 := Int64.ofNat n
theorem pL_bv (n : Nat) : (pL n).toBitVec = BitVec.ofNat 64 n := rfl
theorem pL_add (a b : Nat) : pL a + pL b = pL (a + b) := by
  apply Int64.toBitVec_inj.mp
  rw [Int64.toBitVec_add, pL_bv, pL_bv, pL_bv, BitVec.ofNat_add]
theorem pL_mul (a b : Nat) : pL a * pL b = pL (a * b) := by
  apply Int64.toBitVec_inj.mp
  rw [Int64.toBitVec_mul, pL_bv, pL_bv, pL_bv]
  apply BitVec.eq_of_toNat_eq
  simp [BitVec.toNat_mul]
theorem pL_and {a : Nat} (m : Nat) (h : a < 2 ^ 64) (hm : m ≤ 63) : pL a &&& pL (2 ^ m - 1) = pL (a % 2 ^ m) := by
  apply Int64.toBitVec_inj.mp
  rw [Int64.toBitVec_and, pL_bv, pL_bv, pL_bv]
  apply BitVec.eq_of_toNat_eq
  have h2 : 2 ^ m ≤ 2 ^ 63 := Nat.pow_le_pow_right (by omega) hm
  have h3 : a % 2 ^ m < 2 ^ m := Nat.mod_lt _ (Nat.two_pow_pos m)
  rw [BitVec.toNat_and, BitVec.toNat_ofNat, BitVec.toNat_ofNat, BitVec.toNat_ofNat, Nat.mod_eq_of_lt h, Nat.mod_eq_of_lt (by omega : 2 ^ m - 1 < 2 ^ 64), Nat.mod_eq_of_lt (by omega : a % 2 ^ m < 2 ^ 64), Nat.and_two_pow_sub_one_eq_mod]
theorem pL_inj {a b : Nat} (ha : a < 2 ^ 63) (hb : b < 2 ^ 63) (h : pL a = pL b) : a = b := by
  have h1 := congrArg (fun x : Int64 => x.toBitVec.toNat) h
  simp only [pL_bv, BitVec.toNat_ofNat] at h1
  omega
theorem pL_i32 {a : Nat} : (pL a).toInt32 = nI a := by
  apply Int32.toBitVec_inj.mp
  show (BitVec.ofNat 64 a).signExtend 32 = BitVec.ofNat 32 a
  rw [BitVec.signExtend_eq_setWidth_of_le _ (by omega)]
  apply BitVec.eq_of_toNat_eq
  rw [BitVec.toNat_setWidth, BitVec.toNat_ofNat, BitVec.toNat_ofNat]
  omega
theorem nI_i64 {a : Nat} (h : a < 2 ^ 31) : (nI a).toInt64 = pL a := by
  apply Int64.toInt_inj.mp
  rw [Int32.toInt_toInt64, nI_toInt h]
  unfold pL
  rw [Int64.toInt_ofNat_of_lt (by omega)]
theorem pL_shr {a : Nat} (s : Nat) (h : a < 2 ^ 63) (hs : s ≤ 63) : pL a >>> ((nI s).toInt64 &&& 63) = pL (a / 2 ^ s) := by
  have e : (nI s).toInt64 &&& 63 = pL s := by
    rw [nI_i64 (by omega), show (63 : Int64) = pL (2 ^ 6 - 1) from rfl, pL_and 6 (by omega) (by omega), Nat.mod_eq_of_lt (by omega)]
  rw [e]
  apply Int64.toBitVec_inj.mp
  rw [Int64.toBitVec_shiftRight, pL_bv, pL_bv, pL_bv, BitVec.sshiftRight_eq']
  have hm : (BitVec.ofNat 64 a).msb = false := BitVec.msb_eq_false_iff_two_mul_lt.mpr (by rw [BitVec.toNat_ofNat]; omega)
  have e1 : ((BitVec.ofNat 64 s).smod 64).toNat = s := by
    have m1 : (BitVec.ofNat 64 s).msb = false := BitVec.msb_eq_false_iff_two_mul_lt.mpr (by rw [BitVec.toNat_ofNat]; omega)
    have m2 : (64 : BitVec 64).msb = false := by decide
    rw [BitVec.smod_eq, m1, m2]
    show (BitVec.ofNat 64 s % 64).toNat = s
    rw [BitVec.toNat_umod, BitVec.toNat_ofNat]
    show s % 2 ^ 64 % 64 = s
    omega
  rw [e1, BitVec.sshiftRight_eq_of_msb_false hm]
  apply BitVec.eq_of_toNat_eq
  rw [BitVec.toNat_ushiftRight, BitVec.toNat_ofNat, BitVec.toNat_ofNat, Nat.shiftRight_eq_div_pow, Nat.mod_eq_of_lt (by omega)]
  have : a / 2 ^ s ≤ a := Nat.div_le_self _ _
  rw [Nat.mod_eq_of_lt (by omega)]
/-- a place packed, its type and its fields told -/
def pk (t k f g : Nat) : Nat := t + 16 * k + 16384 * f + 16777216 * g
theorem pq_lt {t k f g : Nat} (ht : t < 16) (hk : k < 1024) (hf : f < 1024) (hg : g < 1024) : pk t k f g < 2 ^ 34 := by
  unfold pk
  omega
theorem pq_t {t k f g : Nat} (ht : t < 16) : pk t k f g % 2 ^ 4 = t := by
  unfold pk
  omega
theorem pq_f {t k f g : Nat} (ht : t < 16) (hk : k < 1024) (hf : f < 1024) (hg : g < 1024) : pk t k f g / 2 ^ 4 % 2 ^ 10 = k ∧ pk t k f g / 2 ^ 14 % 2 ^ 10 = f ∧ pk t k f g / 2 ^ 24 % 2 ^ 10 = g := by
  unfold pk
  omega
theorem ndiv {a b : Nat} (ha : a < 2 ^ 31) (hb : b < 2 ^ 31) : nI a / nI b = nI (a / b) := by
  apply Int32.toInt_inj.mp
  have hd : a / b ≤ a := Nat.div_le_self _ _
  rw [Int32.toInt_div, nI_toInt ha, nI_toInt hb, nI_toInt (by omega)]
  rw [show ((a : Int).tdiv (b : Int)) = ((a / b : Nat) : Int) from rfl]
  revert hd
  generalize a / b = q
  intro hd
  exact Int.bmod_eq_of_le (by omega) (by omega)
theorem nmul {a b : Nat} : nI a * nI b = nI (a * b) := (Int32.ofNat_mul a b).symm
theorem nadd {a b : Nat} : nI a + nI b = nI (a + b) := (Int32.ofNat_add a b).symm
theorem nsub {a b : Nat} (h : b ≤ a) : nI a - nI b = nI (a - b) := by
  have e : nI a = nI (a - b) + nI b := by rw [nadd]; congr 1; omega
  rw [e]
  apply Int32.toBitVec_inj.mp
  rw [Int32.toBitVec_sub, Int32.toBitVec_add, BitVec.add_sub_cancel]
theorem nmod {a b : Nat} (ha : a < 2 ^ 31) (hb : b < 2 ^ 31) : nI a - nI a / nI b * nI b = nI (a % b) := by
  rw [ndiv ha hb, nmul, nsub (Nat.div_mul_le_self a b)]
  congr 1
  have := Nat.div_add_mod a b
  rw [Nat.mul_comm] at this
  omega
end LA1
