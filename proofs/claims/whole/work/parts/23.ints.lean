/-! ===== machine ints as integers ===== -/
def iI (z : Int) : Int32 := Int32.ofInt z
theorem iI_nI (n : Nat) : nI n = iI (n : Int) := Int32.ofInt_eq_ofNat.symm
theorem iI_lit (n : Nat) : (OfNat.ofNat n : Int32) = iI (n : Int) := iI_nI n
theorem iI_0 : (0 : Int32) = iI 0 := iI_lit 0
theorem iI_1 : (1 : Int32) = iI 1 := iI_lit 1
theorem iI_m1 : (-1 : Int32) = iI (-1) := (by rw [iI_lit 1]; exact Int32.neg_ofInt)
theorem iI_add (a b : Int) : iI a + iI b = iI (a + b) := (Int32.ofInt_add a b).symm
theorem iI_sub (a b : Int) : iI a - iI b = iI (a - b) := (Int32.ofInt_sub a b).symm
theorem iI_mul (a b : Int) : iI a * iI b = iI (a * b) := (Int32.ofInt_mul a b).symm
theorem iI_neg (a : Int) : - iI a = iI (-a) := Int32.neg_ofInt
theorem iI_toInt {z : Int} (h1 : -2147483648 ≤ z) (h2 : z < 2147483648) : (iI z).toInt = z := Int32.toInt_ofInt_of_le (by omega) (by omega)
theorem iI_self (x : Int32) : iI x.toInt = x := Int32.ofInt_toInt x
theorem iI_of (x : Int32) : ∃ z : Int, -2147483648 ≤ z ∧ z < 2147483648 ∧ x = iI z := ⟨x.toInt, by have := x.le_toInt; omega, by have := x.toInt_lt; omega, (iI_self x).symm⟩
theorem iI_lt {a b : Int} (h1 : -2147483648 ≤ a) (h2 : a < 2147483648) (h3 : -2147483648 ≤ b) (h4 : b < 2147483648) : (iI a < iI b) = (a < b) := by rw [Int32.lt_iff_toInt_lt, iI_toInt h1 h2, iI_toInt h3 h4]
theorem iI_le {a b : Int} (h1 : -2147483648 ≤ a) (h2 : a < 2147483648) (h3 : -2147483648 ≤ b) (h4 : b < 2147483648) : (iI a ≤ iI b) = (a ≤ b) := by rw [Int32.le_iff_toInt_le, iI_toInt h1 h2, iI_toInt h3 h4]
theorem iI_eq {a b : Int} (h1 : -2147483648 ≤ a) (h2 : a < 2147483648) (h3 : -2147483648 ≤ b) (h4 : b < 2147483648) : (iI a = iI b) = (a = b) := by
  apply propext
  constructor
  · intro h
    rw [← iI_toInt h1 h2, ← iI_toInt h3 h4, h]
  · intro h
    rw [h]
theorem iI_nat {z : Int} (h1 : -2147483648 ≤ z) (h2 : z < 2147483648) : (iI z).toNatClampNeg = z.toNat := by
  rw [← Int32.toNat_toInt, iI_toInt h1 h2]
theorem ixo_iI {α : Type} {z : Int} {N : Nat} {x : Option α} (h0 : 0 ≤ z) (h : z < N) (hN : z < 2147483648) : ixo (iI z) N x = x := by
  unfold ixo
  rw [iI_0, if_neg (by rw [iI_lt (by omega) hN (by omega) (by omega)]; omega), iI_nat (by omega) hN, if_neg (by omega)]
theorem bno_s {α β : Type} (a : α) (k : α → Option β) : bno (some a) k = k a := rfl
theorem bno_n {α β : Type} (k : α → Option β) : bno none k = none := rfl
theorem lt_e {α β : Type} (a : α) (k : α → Option β) : lt a k = k a := rfl
theorem b2i_0 (b : Bool) : (b2i b = 0) = (b = false) := by cases b <;> simp [b2i] <;> decide
theorem b2i_i0 (b : Bool) : (b2i b = iI 0) = (b = false) := b2i_0 b
theorem if_b {α : Type} (b : Bool) (x y : α) : (if b2i b = 0 then x else y) = if b then y else x := by cases b <;> rfl
theorem i2b_b (b : Bool) : i2b (b2i b) = some b := by cases b <;> rfl
theorem cmp_0 (x y : Int64) : (lg_cmp x y = 0) = (x = y) := propext (lg_cmp_eq x y)

/-! ===== bits of a long ===== -/
def lb (x : Int64) (i : Nat) : Bool := x.toBitVec.getLsbD i
theorem lb_and (x y : Int64) (i : Nat) : lb (x &&& y) i = (lb x i && lb y i) := by unfold lb; rw [Int64.toBitVec_and, BitVec.getLsbD_and]
theorem lb_or (x y : Int64) (i : Nat) : lb (x ||| y) i = (lb x i || lb y i) := by unfold lb; rw [Int64.toBitVec_or, BitVec.getLsbD_or]
theorem lb_xor (x y : Int64) (i : Nat) : lb (x ^^^ y) i = (lb x i ^^ lb y i) := by unfold lb; rw [Int64.toBitVec_xor, BitVec.getLsbD_xor]
theorem lb_m1 : ∀ i, i < 64 → lb (-1) i = true := by decide +kernel
theorem lb_not {x : Int64} {i : Nat} (h : i < 64) : lb (x ^^^ (-1)) i = !lb x i := by rw [lb_xor, lb_m1 i h]; simp
theorem lb_big {x : Int64} {i : Nat} (h : 64 ≤ i) : lb x i = false := BitVec.getLsbD_of_ge _ _ h
theorem lb_zero (i : Nat) : lb 0 i = false := BitVec.getLsbD_zero
theorem lb_ext {x y : Int64} (h : ∀ i, i < 64 → lb x i = lb y i) : x = y := Int64.toBitVec_inj.mp (BitVec.eq_of_getLsbD_eq (fun i hi => h i hi))
theorem lb_eq0 (x : Int64) : (x = 0) = (∀ i, i < 64 → lb x i = false) := by
  apply propext
  constructor
  · intro h i _
    rw [h, lb_zero]
  · intro h
    exact lb_ext (fun i hi => by rw [h i hi, lb_zero])
theorem lsh_c : ∀ k, k < 64 → (((nI k).toInt64 &&& 63).toBitVec.smod 64).toNat = k := by decide +kernel
theorem lush_c : ∀ k, k < 64 → (((nI k).toInt64.toUInt64 &&& Int64.toUInt64 63).toBitVec % 64).toNat = k := by decide +kernel
theorem lb_shl {x : Int64} {k i : Nat} (hk : k < 64) (hi : i < 64) : lb (lshl x (nI k)) i = (decide (k ≤ i) && lb x (i - k)) := by
  unfold lb lshl
  rw [Int64.toBitVec_shiftLeft, BitVec.shiftLeft_eq', lsh_c k hk, BitVec.getLsbD_shiftLeft]
  by_cases h : k ≤ i
  · have : ¬ i < k := by omega
    simp [h, hi, this]
  · have : i < k := by omega
    simp [h, this]
theorem lb_shr {x : Int64} {k : Nat} (hk : k < 64) (i : Nat) : lb (lush x (nI k)) i = lb x (k + i) := by
  unfold lb lush
  show ((x.toUInt64 >>> ((nI k).toInt64.toUInt64 &&& Int64.toUInt64 63)).toBitVec).getLsbD i = _
  rw [UInt64.toBitVec_shiftRight, BitVec.ushiftRight_eq', lush_c k hk, BitVec.getLsbD_ushiftRight]
  rfl
theorem lb_bit0 (x : Int64) : (x &&& 1 = 0) = (lb x 0 = false) := by
  rw [lb_eq0]
  apply propext
  have h1 : ∀ i, i < 64 → lb 1 i = decide (i = 0) := by decide +kernel
  constructor
  · intro h
    have := h 0 (by omega)
    rw [lb_and, h1 0 (by omega)] at this
    simpa using this
  · intro h i hi
    rw [lb_and, h1 i hi]
    by_cases e : i = 0
    · rw [e, h]
      rfl
    · simp [e]
theorem L0 : (0 : Int32) = iI 0 := iI_lit 0
theorem L1 : (1 : Int32) = iI 1 := iI_lit 1
theorem L2 : (2 : Int32) = iI 2 := iI_lit 2
theorem L3 : (3 : Int32) = iI 3 := iI_lit 3
theorem L4 : (4 : Int32) = iI 4 := iI_lit 4
theorem L5 : (5 : Int32) = iI 5 := iI_lit 5
theorem L6 : (6 : Int32) = iI 6 := iI_lit 6
theorem L7 : (7 : Int32) = iI 7 := iI_lit 7
theorem L8 : (8 : Int32) = iI 8 := iI_lit 8
theorem L10 : (10 : Int32) = iI 10 := iI_lit 10
theorem L15 : (15 : Int32) = iI 15 := iI_lit 15
theorem L16 : (16 : Int32) = iI 16 := iI_lit 16
theorem L17 : (17 : Int32) = iI 17 := iI_lit 17
theorem L20 : (20 : Int32) = iI 20 := iI_lit 20
theorem L24 : (24 : Int32) = iI 24 := iI_lit 24
theorem L30 : (30 : Int32) = iI 30 := iI_lit 30
theorem L31 : (31 : Int32) = iI 31 := iI_lit 31
theorem L32 : (32 : Int32) = iI 32 := iI_lit 32
theorem L49 : (49 : Int32) = iI 49 := iI_lit 49
theorem L63 : (63 : Int32) = iI 63 := iI_lit 63
theorem L64 : (64 : Int32) = iI 64 := iI_lit 64
theorem L128 : (128 : Int32) = iI 128 := iI_lit 128
theorem L255 : (255 : Int32) = iI 255 := iI_lit 255
theorem L257 : (257 : Int32) = iI 257 := iI_lit 257
theorem L306 : (306 : Int32) = iI 306 := iI_lit 306
theorem L355 : (355 : Int32) = iI 355 := iI_lit 355
theorem L371 : (371 : Int32) = iI 371 := iI_lit 371
theorem L373 : (373 : Int32) = iI 373 := iI_lit 373
theorem L400 : (400 : Int32) = iI 400 := iI_lit 400
theorem L401 : (401 : Int32) = iI 401 := iI_lit 401
theorem L1119 : (1119 : Int32) = iI 1119 := iI_lit 1119
theorem L1274 : (1274 : Int32) = iI 1274 := iI_lit 1274
theorem L1492 : (1492 : Int32) = iI 1492 := iI_lit 1492
theorem L416 : (416 : Int32) = iI 416 := iI_lit 416
theorem L26 : (26 : Int32) = iI 26 := iI_lit 26
theorem L2940 : (2940 : Int32) = iI 2940 := iI_lit 2940
theorem L4096 : (4096 : Int32) = iI 4096 := iI_lit 4096
theorem i0_add (x : Int32) : (0 : Int32) + x = x := Int32.zero_add x
theorem iI_lt0 {a : Int} (h1 : -2147483648 ≤ a) (h2 : a < 2147483648) : (iI a < 0) = (a < 0) := by rw [iI_0, iI_lt h1 h2 (by omega) (by omega)]
theorem iI_0lt {a : Int} (h1 : -2147483648 ≤ a) (h2 : a < 2147483648) : (0 < iI a) = (0 < a) := by rw [iI_0, iI_lt (by omega) (by omega) h1 h2]
theorem iI_le0 {a : Int} (h1 : -2147483648 ≤ a) (h2 : a < 2147483648) : (iI a ≤ 0) = (a ≤ 0) := by rw [iI_0, iI_le h1 h2 (by omega) (by omega)]
theorem iI_0le {a : Int} (h1 : -2147483648 ≤ a) (h2 : a < 2147483648) : (0 ≤ iI a) = (0 ≤ a) := by rw [iI_0, iI_le (by omega) (by omega) h1 h2]
theorem iI_eq0 {a : Int} (h1 : -2147483648 ≤ a) (h2 : a < 2147483648) : (iI a = 0) = (a = 0) := by rw [iI_0, iI_eq h1 h2 (by omega) (by omega)]
