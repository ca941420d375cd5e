/-! ===== the class: a book looked at ===== -/
def barP (c : Nat → Int32) (b pl t L : Nat) : Nat → Bool
  | 0 => false
  | n + 1 => barP c b pl t L n || hbar c b pl t L n
theorem barG_P (c : Nat → Int32) (b pl t L : Nat) : ∀ k i, (barP c b pl t L i || barG c b pl t L k i) = barP c b pl t L (i + k) := by
  intro k
  induction k with
  | zero => intro i; simp [barG]
  | succ k ih =>
    intro i
    have := ih (i + 1)
    rw [show i + (k + 1) = i + 1 + k by omega, ← this]
    simp [barG, barP, Bool.or_assoc]
theorem barred_P (c : Nat → Int32) (b pl t L : Nat) : barred c b pl t L = barP c b pl t L (cN c 5) := by
  have := barG_P c b pl t L (cN c 5) 0
  simpa [barP, barred] using this
section LC
variable {Y : Ly} {h : Hp} {s x : Nat} {c : Nat → Int32}
theorem Sh_hintPart_s (S : CS Y h x) (hs : isO Y 4 s) (R : RS h s c) (V : VB c) {i j : Nat} (hi : i < cN c 5) (hj : j < 4) : Sh_hintPart Y s (nI i) (nI j) h = some (c (222 + 12 * j + i)) := by
  have l5 := VC_l5 V
  have rH := R.2.2.2.1 i hi
  unfold Sh_hintPart
  rw [R.1.2.2.2.2.2.1, VC_e5 V]
  simp (disch := omega) only [zlit, pk_mul, nI_add, nI_ltI, nI_leI, cl412 S hs, inB_nI, if_true, nI_clamp]
  rw [if_neg (by omega), if_neg (by omega), if_neg (by omega), if_pos (by omega)]
  rcases (show j = 0 ∨ j = 1 ∨ j = 2 ∨ j = 3 by omega) with rfl | rfl | rfl | rfl
  · rw [show i * 4 + 0 = 4 * i by omega, rH.1]
  · rw [show i * 4 + 1 = 4 * i + 1 by omega, rH.2.1]
  · rw [show i * 4 + 2 = 4 * i + 2 by omega, rH.2.2.1]
  · rw [show i * 4 + 3 = 4 * i + 3 by omega, rH.2.2.2]
end LC
