-- ===== ints and longs by whole numbers =====
def zI (z : Int) : Int32 := Int32.ofInt z
def zL (z : Int) : Int64 := Int64.ofInt z
def rI (z : Int) : Prop := -2147483648 ≤ z ∧ z < 2147483648
def rL (z : Int) : Prop := -9223372036854775808 ≤ z ∧ z < 9223372036854775808
theorem zI_n (n : Nat) : zI (n : Int) = nI n := rfl
theorem zL_n (n : Nat) : zL (n : Int) = lN n := rfl
theorem zI_add (a b : Int) : zI a + zI b = zI (a + b) := (Int32.ofInt_add a b).symm
theorem zI_sub (a b : Int) : zI a - zI b = zI (a - b) := (Int32.ofInt_sub a b).symm
theorem zI_mul (a b : Int) : zI a * zI b = zI (a * b) := (Int32.ofInt_mul a b).symm
theorem zI_neg (a : Int) : -zI a = zI (-a) := (Int32.ofInt_neg a).symm
theorem zL_add (a b : Int) : zL a + zL b = zL (a + b) := (Int64.ofInt_add a b).symm
theorem zL_sub (a b : Int) : zL a - zL b = zL (a - b) := (Int64.ofInt_sub a b).symm
theorem zL_mul (a b : Int) : zL a * zL b = zL (a * b) := (Int64.ofInt_mul a b).symm
theorem zI_t {a : Int} (h : rI a) : (zI a).toInt = a := Int32.toInt_ofInt_of_le h.1 h.2
theorem zL_t {a : Int} (h : rL a) : (zL a).toInt = a := Int64.toInt_ofInt_of_le h.1 h.2
theorem zI_of (x : Int32) : x = zI x.toInt ∧ rI x.toInt := ⟨(Int32.ofInt_toInt x).symm, Int32.le_toInt x, Int32.toInt_lt x⟩
theorem zI_lt {a b : Int} (ha : rI a) (hb : rI b) : zI a < zI b ↔ a < b := by rw [Int32.lt_iff_toInt_lt, zI_t ha, zI_t hb]
theorem zI_le {a b : Int} (ha : rI a) (hb : rI b) : zI a ≤ zI b ↔ a ≤ b := by rw [Int32.le_iff_toInt_le, zI_t ha, zI_t hb]
theorem zI_eq {a b : Int} (ha : rI a) (hb : rI b) : zI a = zI b ↔ a = b := by rw [← Int32.toInt_inj, zI_t ha, zI_t hb]
theorem zL_lt {a b : Int} (ha : rL a) (hb : rL b) : zL a < zL b ↔ a < b := by rw [Int64.lt_iff_toInt_lt, zL_t ha, zL_t hb]
theorem zL_le {a b : Int} (ha : rL a) (hb : rL b) : zL a ≤ zL b ↔ a ≤ b := by rw [Int64.le_iff_toInt_le, zL_t ha, zL_t hb]
theorem zL_eq {a b : Int} (ha : rL a) (hb : rL b) : zL a = zL b ↔ a = b := by rw [← Int64.toInt_inj, zL_t ha, zL_t hb]
theorem zIL {a : Int} (h : rI a) : (zI a).toInt64 = zL a := Int64.toInt_inj.mp (by rw [Int32.toInt_toInt64, zI_t h, zL_t ⟨by have := h.1; omega, by have := h.2; omega⟩])
theorem zLI (a : Int) : (zL a).toInt32 = zI a := Int64.toInt32_ofInt
theorem zI_bv (a : Int) : (zI a).toBitVec.toNat = (a % 4294967296).toNat := by
  show (BitVec.ofInt 32 a).toNat = _
  rw [BitVec.toNat_ofInt]
  rfl
theorem zL_bv (a : Int) : (zL a).toBitVec.toNat = (a % 18446744073709551616).toNat := by
  show (BitVec.ofInt 64 a).toNat = _
  rw [BitVec.toNat_ofInt]
  rfl
theorem zI_and30 (a : Int) : zI a &&& 1073741823 = zI (a % 1073741824) := by
  rw [pk_and (zI a) 30 (by decide), zI_bv]
  have h : ((a % 4294967296).toNat % 2 ^ 30 : Nat) = (a % 1073741824).toNat := by omega
  rw [h, ← zI_n]
  congr 1
  omega
theorem zI_shr30 {a : Int} (h : rI a) : zI a >>> ((30 : Int32) &&& 31) = zI (a / 1073741824) := by
  apply Int32.toInt_inj.mp
  rw [pk_shr (zI a) _ 30 (by decide), zI_t h, Int.shiftRight_eq_div_pow, zI_t]
  · rfl
  · have h1 := h.1
    have h2 := h.2
    constructor <;> omega
theorem zL_and30 (a : Int) : zL a &&& 1073741823 = zL (a % 1073741824) := by
  apply Int64.toBitVec_inj.mp
  apply BitVec.eq_of_toNat_eq
  rw [Int64.toBitVec_and, BitVec.toNat_and, zL_bv, zL_bv]
  have e : (1073741823 : Int64).toBitVec.toNat = 2 ^ 30 - 1 := by decide
  rw [e, Nat.and_two_pow_sub_one_eq_mod]
  omega
theorem zL_shr30 {a : Int} (h : rL a) : zL a >>> ((30 : Int32).toInt64 &&& 63) = zL (a / 1073741824) := by
  apply Int64.toInt_inj.mp
  have e : (zL a >>> ((30 : Int32).toInt64 &&& 63)).toInt = (zL a).toInt >>> 30 := by
    show (zL a >>> ((30 : Int32).toInt64 &&& 63)).toBitVec.toInt = _
    rw [Int64.toBitVec_shiftRight, BitVec.sshiftRight_eq', BitVec.toInt_sshiftRight]
    rfl
  rw [e, zL_t h, Int.shiftRight_eq_div_pow, zL_t]
  · rfl
  · have h1 := h.1
    have h2 := h.2
    constructor <;> omega
theorem zI_rem {a b : Int} (ha : rI a) (hb : rI b) (h0 : 0 < b) : zI a - zI a / zI b * zI b = zI (a.tmod b) := by
  have hd : zI a / zI b = zI (a.tdiv b) := by
    apply Int32.toInt_inj.mp
    rw [Int32.toInt_div_of_ne_right _ _ (fun h => by
      have := (zI_eq hb (b := -1) ⟨by decide, by decide⟩).mp (h.trans (by decide))
      omega), zI_t ha, zI_t hb, zI_t]
    have h1 := ha.1
    have h2 := ha.2
    rcases Int.lt_or_le a 0 with h | h
    · have e : a.tdiv b = -((-a).tdiv b) := by rw [Int.neg_tdiv]; omega
      have h3 : 0 ≤ (-a).tdiv b := Int.tdiv_nonneg (by omega) (by omega)
      have h4 : (-a).tdiv b ≤ -a := Int.tdiv_le_self _ (by omega)
      rw [e]
      constructor <;> omega
    · have h3 : 0 ≤ a.tdiv b := Int.tdiv_nonneg h (by omega)
      have h4 : a.tdiv b ≤ a := Int.tdiv_le_self _ h
      constructor <;> omega
  rw [hd, zI_mul, zI_sub]
  congr 1
  have := Int.tmod_add_mul_tdiv a b
  rw [Int.mul_comm] at this
  omega
theorem z_0 : (0 : Int32) = zI 0 := rfl
theorem z_1 : (1 : Int32) = zI 1 := rfl
theorem z_m1 : (-1 : Int32) = zI (-1) := by decide
theorem rI_n {n : Nat} (h : n < 2147483648) : rI (n : Int) := ⟨by omega, by omega⟩
