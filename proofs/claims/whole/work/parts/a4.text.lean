/-! ===== tokens of a text ===== -/
/-! rows wb_tb to wb_or: pasted from kit/laws/BITS.to-paste -/
theorem wb_tb (n : Nat) : (lN n).toBitVec = BitVec.ofNat 64 n := rfl
theorem wb_inj {a b : Int64} (h : a.toBitVec = b.toBitVec) : a = b := Int64.toBitVec_inj.mp h
theorem wb_c : ∀ k, k < 64 → ((nI k).toInt64 &&& 63) = lN k := by decide +kernel
theorem wb_sm : ∀ k, k < 64 → (BitVec.ofNat 64 k).smod 64 = BitVec.ofNat 64 k := by decide +kernel
theorem wb_shl (n : Nat) {k : Nat} (hk : k < 64) : lN n <<< ((nI k).toInt64 &&& 63) = lN (n * 2 ^ k) := by
  rw [wb_c k hk]
  apply wb_inj
  rw [Int64.toBitVec_shiftLeft, wb_tb, wb_tb, wb_tb, wb_sm k hk]
  apply BitVec.eq_of_toNat_eq
  rw [BitVec.shiftLeft_eq', BitVec.toNat_shiftLeft, BitVec.toNat_ofNat, BitVec.toNat_ofNat, BitVec.toNat_ofNat, Nat.mod_eq_of_lt (show k < 2 ^ 64 by omega), Nat.shiftLeft_eq, Nat.mul_mod, Nat.mod_mod, ← Nat.mul_mod]
theorem wb_or {a b : Nat} (ha : a < 2 ^ 64) (hb : b < 2 ^ 64) : lN a ||| lN b = lN (a ||| b) := by
  apply wb_inj
  rw [Int64.toBitVec_or, wb_tb, wb_tb, wb_tb]
  apply BitVec.eq_of_toNat_eq
  rw [BitVec.toNat_or, BitVec.toNat_ofNat, BitVec.toNat_ofNat, BitVec.toNat_ofNat, Nat.mod_eq_of_lt ha, Nat.mod_eq_of_lt hb, Nat.mod_eq_of_lt (Nat.or_lt_two_pow ha hb)]
def byt (v : Int32) : Nat := (v &&& 255).toNatClampNeg
def sofN (b : Nat) : Nat := if 97 ≤ b ∧ b ≤ 122 then 1 else if 48 ≤ b ∧ b ≤ 57 then 2 else if b = 10 ∨ b = 32 then 4 else if b = 59 ∨ b = 60 ∨ b = 62 ∨ b = 61 then 3 else 5
def byO (v : Int32) : Prop := ∃ z : Int8, v = z.toInt32
theorem by_all : ∀ k : Fin 256, To_sortOf Y00 (Int8.ofBitVec (BitVec.ofNat 8 k.val)).toInt32 h00 = some (nI (sofN (byt (Int8.ofBitVec (BitVec.ofNat 8 k.val)).toInt32))) ∧ ((Int8.ofBitVec (BitVec.ofNat 8 k.val)).toInt32 &&& 255) = nI (byt (Int8.ofBitVec (BitVec.ofNat 8 k.val)).toInt32) ∧ byt (Int8.ofBitVec (BitVec.ofNat 8 k.val)).toInt32 < 256 ∧
    (byt (Int8.ofBitVec (BitVec.ofNat 8 k.val)).toInt32 < 128 → (Int8.ofBitVec (BitVec.ofNat 8 k.val)).toInt32 = nI (byt (Int8.ofBitVec (BitVec.ofNat 8 k.val)).toInt32)) := by decide +kernel
theorem by_s {v : Int32} (hv : byO v) : (∀ Y h, To_sortOf Y v h = some (nI (sofN (byt v)))) ∧ (v &&& 255) = nI (byt v) ∧ byt v < 256 ∧ (byt v < 128 → v = nI (byt v)) := by
  obtain ⟨z, rfl⟩ := hv
  have e : z = Int8.ofBitVec (BitVec.ofNat 8 z.toBitVec.toNat) := by
    rw [BitVec.ofNat_toNat, BitVec.setWidth_eq]
    rfl
  have q := by_all ⟨z.toBitVec.toNat, z.toBitVec.isLt⟩
  simp only at q
  rw [← e] at q
  exact ⟨fun Y h => q.1, q.2⟩
/-- as far as f holds -/
def til (f : Nat → Bool) (n : Nat) : Nat → Nat → Nat
  | 0, p => p
  | k + 1, p => if p < n ∧ f p = true then til f n k (p + 1) else p
theorem til_ge (f : Nat → Bool) (n : Nat) : ∀ k p, p ≤ til f n k p := by
  intro k
  induction k with
  | zero => intro p; exact Nat.le_refl _
  | succ k ih =>
    intro p
    rw [til]
    split
    · exact Nat.le_trans (Nat.le_succ p) (ih (p + 1))
    · exact Nat.le_refl _
theorem til_le (f : Nat → Bool) (n : Nat) : ∀ k p, p ≤ n → til f n k p ≤ n := by
  intro k
  induction k with
  | zero => intro p h; exact h
  | succ k ih =>
    intro p h
    rw [til]
    split
    · next q => exact ih (p + 1) (by omega)
    · exact h
theorem til_all (f : Nat → Bool) (n : Nat) : ∀ k p i, p ≤ i → i < til f n k p → f i = true := by
  intro k
  induction k with
  | zero => intro p i h1 h2; exact absurd h2 (by rw [til]; omega)
  | succ k ih =>
    intro p i h1 h2
    rw [til] at h2
    by_cases q : p < n ∧ f p = true
    · rw [if_pos q] at h2
      by_cases e : i = p
      · rw [e]; exact q.2
      · exact ih (p + 1) i (by omega) h2
    · rw [if_neg q] at h2; omega
section TX
variable (T : Nat → Int32) (n : Nat)
def BB (i : Nat) : Nat := byt (T i)
def tS (p : Nat) : Nat := til (fun q => sofN (BB T q) == 4) n n p
def tR (p : Nat) : Nat := if tS T n p < n then sofN (BB T (tS T n p)) else 0
def tE (p : Nat) : Nat := if tS T n p < n then (if tR T n p = 1 ∨ tR T n p = 2 then til (fun q => sofN (BB T q) == tR T n p) n n (tS T n p + 1) else tS T n p + 1) else tS T n p
def tK (p : Nat) : Nat := if tR T n p = 2 ∧ 4 < tE T n p - tS T n p then 5 else tR T n p
def nF (s : Nat) : Nat → Nat
  | 0 => 0
  | k + 1 => nF s k * 10 + (BB T (s + k) - 48)
def wF (s : Nat) : Nat → Nat
  | 0 => 0
  | k + 1 => wF s k * 32 + (BB T (s + k) - 96)
def tN (p : Nat) : Nat := nF T (tS T n p) (tE T n p - tS T n p)
def tW (p : Nat) : Nat := if tR T n p = 1 ∧ tE T n p - tS T n p ≤ 8 then wF T (tS T n p) (tE T n p - tS T n p) else 0
end TX
/-- the words that are no names -/
def KW : Nat → Nat
  | 0 => 20579973
  | 1 => 6600748
  | 2 => 677454
  | 3 => 15492
  | 4 => 611717
  | 5 => 655
  | 6 => 81387
  | 7 => 215533
  | 8 => 446287027
  | 9 => 211223941
  | 10 => 271828
  | 11 => 52
  | 12 => 307
  | 13 => 89
  | 14 => 609259698
  | 15 => 15931570
  | 16 => 3657363
  | 17 => 21148051
  | 18 => 24170600
  | 19 => 256952467
  | 20 => 6958759667
  | 21 => 75204
  | 22 => 13090405
  | 23 => 99724
  | 24 => 8033907
  | 25 => 762030
  | 26 => 146885
  | 27 => 398548
  | 28 => 409072
  | 29 => 5572
  | 30 => 643568
  | _ => 0
def kI (w : Nat) : Option Nat := scan (fun i _ => decide (KW i = w)) none 31
def tI (T : Nat → Int32) (n p : Nat) : Option Nat := if tR T n p = 1 ∧ tE T n p - tS T n p ≤ 8 then kI (tW T n p) else none
