/-! ===== small methods ===== -/
theorem zshl2 {a k : Nat} (hk : k < 32) (h : a * 2 ^ k < 2 ^ 32) : nI a <<< nI (k &&& 31) = nI (a * 2 ^ k) := by
  rw [← zand]
  exact zshl hk h
theorem zshr2 {a k : Nat} (hk : k < 32) (h : a < 2 ^ 31) : nI a >>> nI (k &&& 31) = nI (a / 2 ^ k) := by
  rw [← zand]
  exact zshr hk h
theorem zone {k : Nat} (hk : k < 31) : nI 1 <<< nI (k &&& 31) = nI (2 ^ k) := by
  have h2 : 2 ^ k < 2 ^ 31 := Nat.pow_lt_pow_right (by decide) hk
  have := zshl2 (a := 1) (k := k) (by omega) (by omega)
  simpa using this
def pcn (a : Nat) : Nat → Nat
  | 0 => 0
  | k + 1 => pcn a k + (if a.testBit k then 1 else 0)
/-- how many of the first eight bits are set -/
def pcnt (a : Nat) : Nat := pcn a 8
theorem pcn_le (a : Nat) : ∀ k, pcn a k ≤ k
  | 0 => Nat.le_refl 0
  | k + 1 => by have := pcn_le a k; simp only [pcn]; split <;> omega
theorem pcnt_le (a : Nat) : pcnt a ≤ 8 := pcn_le a 8
theorem bit_and (a k : Nat) : a / 2 ^ k &&& 1 = (a.testBit k).toNat := by
  rw [Nat.and_one_is_mod, Nat.testBit_eq_decide_div_mod_eq]
  by_cases h : a / 2 ^ k % 2 = 1
  · simp [h]
  · have : a / 2 ^ k % 2 = 0 := by omega
    simp [this]
theorem LP_has_s {Y : Ly} {h : Hp} {a k : Nat} (ha : a < 2 ^ 31) (hk : k < 32) : LP_has Y (nI a) (nI k) h = some (a.testBit k) := by
  unfold LP_has
  simp (disch := omega) only [zlit, zshr2, zand, bit_and]
  cases a.testBit k <;> simp (disch := omega) [nI_eq]
theorem M_has_s {Y : Ly} {h : Hp} {a k : Nat} (ha : a < 2 ^ 31) (hk : k < 32) : M_has Y (nI a) (nI k) h = some (a.testBit k) := by
  unfold M_has
  simp (disch := omega) only [zlit, zshr2, zand, bit_and]
  cases a.testBit k <;> simp (disch := omega) [nI_eq]
theorem M_sizeOf_s {Y : Ly} {h : Hp} {a : Nat} (ha : a < 2 ^ 31) : M_sizeOf Y (nI a) h = some (nI (pcnt a)) := by
  have key : ∀ (k i F : Nat), 8 = i + k → k < F → M_sizeOf_L4 Y (nI a) h F (nI (pcn a i)) (nI i) = some (nI (pcn a 8)) := by
    intro k
    induction k with
    | zero =>
      intro i F hk hF
      obtain ⟨F, rfl⟩ : ∃ F', F = F' + 1 := ⟨F - 1, by omega⟩
      have : i = 8 := by omega
      subst this
      unfold M_sizeOf_L4
      simp (disch := omega) only [zlit, nI_leI, Nat.le_refl, if_true]
    | succ k ih =>
      intro i F hk hF
      obtain ⟨F, rfl⟩ : ∃ F', F = F' + 1 := ⟨F - 1, by omega⟩
      unfold M_sizeOf_L4
      simp (disch := omega) only [zlit, nI_leI, M_has_s, bind_s, nI_add]
      rw [if_neg (by omega)]
      have := ih (i + 1) F (by omega) (by omega)
      by_cases hb : a.testBit i = true
      · rw [if_pos hb]
        simpa [pcn, hb] using this
      · rw [if_neg hb]
        simpa [pcn, hb] using this
  unfold M_sizeOf
  have := key 8 0 FU (by omega) (by unfold FU; omega)
  simpa [pcn, zlit, pcnt] using this
def Y00 : Ly := ([], fun _ => 0, fun _ => 0, (fun _ => 0, fun _ _ => 0), fun _ => 0)
def h00 : Hp := (fun _ _ => 0, fun _ _ => 0, fun _ _ => 0, fun _ _ => 0, fun _ _ => 0, fun _ _ => 0)
def bcE (x : Int32) : Int32 := (J_bitCount Y00 x h00).getD 0
theorem bcE_all : ∀ a : Fin 256, bcE (nI a.val) = nI (pcnt a.val) := by decide +kernel
theorem J_bitCount_s {Y : Ly} {h : Hp} {a : Nat} (ha : a < 256) : J_bitCount Y (nI a) h = some (nI (pcnt a)) := by
  have e : J_bitCount Y (nI a) h = some (bcE (nI a)) := rfl
  rw [e, bcE_all ⟨a, ha⟩]
theorem M_isIn_s {Y : Ly} {h : Hp} {a b c : Int64} : M_isIn Y a b c h = some (decide (b ≤ a) && decide (a ≤ c)) := by
  unfold M_isIn
  by_cases h1 : a < b
  · rw [if_pos h1]
    have : ¬ b ≤ a := by rw [Int64.lt_iff_toInt_lt] at h1; rw [Int64.le_iff_toInt_le]; omega
    simp [this]
  · rw [if_neg h1]
    have h1' : b ≤ a := by rw [Int64.lt_iff_toInt_lt] at h1; rw [Int64.le_iff_toInt_le]; omega
    by_cases h2 : c < a
    · rw [if_pos h2]
      have : ¬ a ≤ c := by rw [Int64.lt_iff_toInt_lt] at h2; rw [Int64.le_iff_toInt_le]; omega
      simp [this]
    · rw [if_neg h2]
      have h2' : a ≤ c := by rw [Int64.lt_iff_toInt_lt] at h2; rw [Int64.le_iff_toInt_le]; omega
      simp [h1', h2']
/-- an int is below 0, or at least n, or a number below n: as a test -/
def isAt (x : Int32) (n : Nat) : Bool := decide (0 ≤ x) && decide (x < nI n)
theorem isAt_ex {x : Int32} {n : Nat} (hn : n < 2 ^ 31) (h : isAt x n = true) : ∃ j, j < n ∧ x = nI j := by
  simp only [isAt, Bool.and_eq_true, decide_eq_true_eq] at h
  rcases pk_ix x hn with q | q | q
  · rw [Int32.lt_iff_toInt_lt] at q; rw [Int32.le_iff_toInt_le] at h; omega
  · rw [Int32.le_iff_toInt_le] at q; rw [Int32.lt_iff_toInt_lt] at h; omega
  · exact q
theorem isAt_nI {j n : Nat} (h : j < n) (hn : n < 2 ^ 31) : isAt (nI j) n = true := by
  simp only [isAt, Bool.and_eq_true, decide_eq_true_eq]
  exact ⟨nI_pos' (by omega), nI_lt h hn⟩
theorem isIn_at {x : Int32} {n : Nat} (hn : n < 2 ^ 31) : (decide ((0 : Int64) ≤ x.toInt64) && decide (x.toInt64 ≤ (nI n - 1).toInt64)) = isAt x n := by
  have e1 : ((0 : Int64) ≤ x.toInt64) = (0 ≤ x) := by
    rw [Int64.le_iff_toInt_le, Int32.le_iff_toInt_le]; simp
  have e3 : (nI n - 1).toInt = (n : Int) - 1 := by
    cases n with
    | zero => decide
    | succ k => rw [nI_pred, nI_toInt (by omega)]; omega
  have e2 : (x.toInt64 ≤ (nI n - 1).toInt64) = (x < nI n) := by
    rw [Int64.le_iff_toInt_le, Int32.lt_iff_toInt_lt, nI_toInt hn, Int32.toInt_toInt64, Int32.toInt_toInt64, e3]
    apply propext
    omega
  unfold isAt
  simp only [e1, e2]
