/-! ===== numbers: Int32 as nI of a Nat, or m1 ===== -/
theorem zlit (n : Nat) : (OfNat.ofNat n : Int32) = nI n := Int32.toInt_inj.mp rfl
def m1 : Int32 := -1
theorem zneg : -nI 1 = m1 := Int32.toInt_inj.mp rfl
theorem zm1 : (-1 : Int32) = m1 := Int32.toInt_inj.mp rfl
theorem m1_toInt : m1.toInt = -1 := by decide
theorem m1_lt {k : Nat} (h : k < 2 ^ 31) : (m1 < nI k) = True := by
  rw [Int32.lt_iff_toInt_lt, nI_toInt h, m1_toInt]; simp <;> omega
theorem m1_le {k : Nat} (h : k < 2 ^ 31) : (m1 ≤ nI k) = True := by
  rw [Int32.le_iff_toInt_le, nI_toInt h, m1_toInt]; simp <;> omega
theorem lt_m1 {k : Nat} (h : k < 2 ^ 31) : (nI k < m1) = False := by
  rw [Int32.lt_iff_toInt_lt, nI_toInt h, m1_toInt]; simp <;> omega
theorem le_m1 {k : Nat} (h : k < 2 ^ 31) : (nI k ≤ m1) = False := by
  rw [Int32.le_iff_toInt_le, nI_toInt h, m1_toInt]; simp <;> omega
theorem ne_m1 {k : Nat} (h : k < 2 ^ 31) : (nI k = m1) = False := by
  rw [← Int32.toInt_inj, nI_toInt h, m1_toInt]; simp <;> omega
theorem m1_ne {k : Nat} (h : k < 2 ^ 31) : (m1 = nI k) = False := by
  rw [← Int32.toInt_inj, nI_toInt h, m1_toInt]; simp <;> omega
theorem m1_ltm : (m1 < m1) = False := by simp [Int32.lt_iff_toInt_lt]
theorem m1_lem : (m1 ≤ m1) = True := by simp [Int32.le_iff_toInt_le]
theorem m1_add1 : m1 + nI 1 = nI 0 := by decide
theorem add_m1 (k : Nat) : nI (k + 1) + m1 = nI k := pk_m1 k
theorem inB_m1 (n : Nat) : inB m1 n = false := by
  unfold inB
  rw [show decide (0 ≤ m1) = false by decide]
  rfl
theorem zsub1 {a b : Nat} (h : b ≤ a) : nI a - nI b = nI (a - b) := pk_sub h
theorem sub_m {a : Nat} : nI a - nI (a + 1) = m1 := by
  apply Int32.toBitVec_inj.mp
  apply BitVec.eq_of_toInt_eq
  simp only [nI, m1]
  have key : ∀ z : Int, (z - (z + 1)).bmod 4294967296 = -1 := fun z => by rw [show z - (z + 1) = -1 by omega]; decide
  simp
  exact key _
theorem mask31 {k : Nat} (h : k < 32) : nI k &&& nI 31 = nI k := by
  rw [pk_andN (by omega) 5 (by decide), Nat.mod_eq_of_lt (by omega)]
theorem smod32 : ∀ k : Fin 32, ((nI k.val).toBitVec.smod 32).toNat = k.val := by decide +kernel
theorem zshl {a k : Nat} (hk : k < 32) (h : a * 2 ^ k < 2 ^ 32) : nI a <<< (nI k &&& nI 31) = nI (a * 2 ^ k) := by
  rw [mask31 hk]
  exact pk_shlN _ k (smod32 ⟨k, hk⟩) h
theorem zshr {a k : Nat} (hk : k < 32) (h : a < 2 ^ 31) : nI a >>> (nI k &&& nI 31) = nI (a / 2 ^ k) := by
  rw [mask31 hk]
  exact pk_shrN h _ k (smod32 ⟨k, hk⟩)
theorem zor (a b : Nat) : nI a ||| nI b = nI (a ||| b) := by
  apply Int32.toBitVec_inj.mp
  apply BitVec.eq_of_toNat_eq
  simp [nI, Nat.or_mod_two_pow]
theorem zand (a b : Nat) : nI a &&& nI b = nI (a &&& b) := by
  apply Int32.toBitVec_inj.mp
  apply BitVec.eq_of_toNat_eq
  simp [nI, Nat.and_mod_two_pow]
theorem zxor (a b : Nat) : nI a ^^^ nI b = nI (a ^^^ b) := by
  apply Int32.toBitVec_inj.mp
  apply BitVec.eq_of_toNat_eq
  simp [nI, Nat.xor_mod_two_pow]
/-! longs -/
theorem zlitL (n : Nat) : (OfNat.ofNat n : Int64) = lN n := Int64.toInt_inj.mp rfl
def mL : Int64 := -1
theorem znegL : -lN 1 = mL := Int64.toInt_inj.mp rfl
theorem m1_l : m1.toInt64 = mL := by decide
theorem mL_toInt : mL.toInt = -1 := by decide
theorem mL_lt {k : Nat} (h : k < 2 ^ 63) : (mL < lN k) = True := by
  rw [Int64.lt_iff_toInt_lt, pk_lT h, mL_toInt]; simp <;> omega
theorem lt_mL {k : Nat} (h : k < 2 ^ 63) : (lN k < mL) = False := by
  rw [Int64.lt_iff_toInt_lt, pk_lT h, mL_toInt]; simp <;> omega
theorem lt0_l (x : Int32) : (x.toInt64 < 0) = (x < 0) := by
  rw [Int64.lt_iff_toInt_lt, Int32.lt_iff_toInt_lt]
  simp
