/-! ===== hints ===== -/
/-- hint i is of book b at place pl by a reader not in L and tells another turn than t -/
def hbar (c : Nat → Int32) (b pl t L i : Nat) : Bool := (cN c (222 + i) == b && (cN c (234 + i) == pl && !L.testBit (cN c (258 + i)))) && !(cN c (246 + i) == t)
def barG (c : Nat → Int32) (b pl t L : Nat) : Nat → Nat → Bool
  | 0, _ => false
  | k + 1, i => hbar c b pl t L i || barG c b pl t L k (i + 1)
def barred (c : Nat → Int32) (b pl t L : Nat) : Bool := barG c b pl t L (cN c 5) 0
section BM
variable {Y : Ly} {h : Hp} {m : Nat} {c : Nat → Int32}
theorem M_isBarred_s (S : MS Y h m) (B : MB h m 0 c) (V : VB c) {b pl t L : Nat} (hb : b < 64) (hpl : pl < 64) (ht : t < 64) (hL : L < 2 ^ 31) : M_isBarred Y m (nI b) (nI pl) (nI t) (nI L) h = some (barred c b pl t L) := by
  have l5 := VC_l5 V
  have key : ∀ (k i F : Nat), cN c 5 = i + k → k < F → M_isBarred_L3 Y m (nI b) (nI pl) (nI t) (nI L) h F (nI i) = some (barG c b pl t L k i) := by
    intro k
    induction k with
    | zero =>
      intro i F hk hF
      obtain ⟨F, rfl⟩ : ∃ F', F = F' + 1 := ⟨F - 1, by omega⟩
      unfold M_isBarred_L3
      simp (disch := omega) only [zlit, nI_clamp, ml1220 S, inB_nI, MB0 B, if_true, VC_e5 V, nI_leI, barG]
      rw [if_pos (by omega)]
    | succ k ih =>
      intro i F hk hF
      obtain ⟨F, rfl⟩ : ∃ F', F = F' + 1 := ⟨F - 1, by omega⟩
      have hH := V.2.2.2.2.2.2.1 i (by omega)
      have l2 := VC_l2 V
      have l1 := VC_l1 V
      have l4 := VC_l4 V
      have a1 := hH.1.2
      have a2 := hH.2.1.1.2
      have a2' := ((V.2.2.2.2.1 _ a1).2.1.1.2)
      have a3 := hH.2.2.1.2
      have a4 := hH.2.2.2.2
      have ihh := ih (i + 1) F (by omega) (by omega)
      unfold M_isBarred_L3 M_isBarred_J67 M_isBarred_J68
      simp (disch := omega) only [zlit, nI_add, nI_clamp, ml1220 S, inB_nI, MB0 B, if_true, VC_e5 V, nI_leI, barG, hH.1.1, hH.2.1.1.1, hH.2.2.1.1, hH.2.2.2.1, nI_eq, M_has_s, bind_s, ihh, hbar]
      rw [if_neg (by omega)]
      by_cases e1 : cN c (222 + i) = b
      · by_cases e2 : cN c (234 + i) = pl
        · by_cases e3 : L.testBit (cN c (258 + i)) = true
          · simp [e1, e2, e3]
          · by_cases e4 : cN c (246 + i) = t
            · simp [e1, e2, e3, e4]
            · simp [e1, e2, e3, e4]
        · simp [e1, e2]
      · simp [e1]
  unfold M_isBarred
  have := key (cN c 5) 0 FU (by omega) (by unfold FU; omega)
  simpa [zlit, barred] using this
end BM
