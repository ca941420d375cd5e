/-! ===== how many endings ===== -/
def esum (c : Nat → Int32) (g : Nat → Int64) (ok : Nat → Bool) (s : Nat) : Nat → Int64
  | 0 => 0
  | n + 1 => esum c g ok s n + (if c (18 + 8 * s + n) = m1 ∨ ok n = false then 0 else g (cN c (18 + 8 * s + n)))
/-- in how many ways the last r places can go on from a state -/
def ES (c : Nat → Int32) (b L : Nat) : Nat → Nat → Int64
  | 0, s => if (cN c 8).testBit s then 1 else 0
  | r + 1, s => esum c (ES c b L r) (fun t => !barred c b (cN c (88 + b) - r) t L) s (cN c 1)
def ecnt (c : Nat → Int32) (b L : Nat) : Int64 := if place c b = m1 then 0 else ES c b L (cN c (88 + b)) (place c b).toNatClampNeg
section EM
variable {Y : Ly} {h : Hp} {m : Nat} {c : Nat → Int32}
theorem M_lE84 (S : MS Y h m) (B : MB h m 0 c) (V : VB c) {b p s L : Nat} {k71 : Int32 → Hp → Option (Int64 × Hp)} (hb : b < 6) (hp : p < 7) (hs : s < 8) (hL : L < 2 ^ 31) {G : Nat → Int64} (hG : ∀ q, q < 8 → hAl h (hGr h 1225 m) (8 * (p + 1) + q) = G q) :
    ∀ (k i F : Nat) (acc : Int64), cN c 1 = i + k → k < F → acc = esum c G (fun t => !barred c b p t L) s i → M_laysEndings_L84 Y m (nI b) (nI L) (nI p) (nI s) h k71 F acc (nI i) = k71 (nI (s + 1)) (hTl h (hGr h 1225 m) (8 * p + s) (esum c G (fun t => !barred c b p t L) s (cN c 1))) := by
  have l1 := VC_l1 V
  have l0 := VC_l0 V
  intro k
  induction k with
  | zero =>
    intro i F acc hk hF ha
    obtain ⟨F, rfl⟩ : ∃ F', F = F' + 1 := ⟨F - 1, by omega⟩
    unfold M_laysEndings_L84
    simp (disch := omega) only [zlit, nI_add, pk_mul, nI_clamp, ml1220 S, ml1225 S, inB_nI, MB0 B, if_true, VC_e1 V, nI_leI, letH_e]
    rw [if_pos (by omega), ha, show i = cN c 1 by omega]
  | succ k ih =>
    intro i F acc hk hF ha
    obtain ⟨F, rfl⟩ : ∃ F', F = F' + 1 := ⟨F - 1, by omega⟩
    have ihh := fun a (e : a = _) => ih (i + 1) F a (by omega) (by omega) e
    unfold M_laysEndings_L84
    rcases V.2.2.2.1 s i hs (by omega) with q | ⟨_, _, q1, q2⟩
    · simp (disch := omega) only [zlit, nI_add, pk_mul, nI_clamp, ml1220 S, ml1225 S, inB_nI, MB0 B, if_true, VC_e1 V, nI_leI, q, m1_lt]
      rw [if_neg (by omega)]
      exact ihh _ (by rw [ha]; simp [esum, q])
    · simp (disch := omega) only [zlit, nI_add, pk_mul, nI_clamp, ml1220 S, ml1225 S, inB_nI, MB0 B, if_true, VC_e1 V, nI_leI, q1, nI_ltI, M_isBarred_s S B V, bind_s]
      rw [if_neg (by omega), if_neg (by omega)]
      have qn : ¬ c (18 + 8 * s + i) = m1 := by rw [q1, ne_m1 (by omega)]; exact fun z => z
      by_cases hbar : barred c b p i L = true
      · rw [if_pos hbar]
        exact ihh _ (by rw [ha]; simp [esum, hbar])
      · rw [if_neg hbar]
        exact ihh _ (by rw [ha, hG _ (by omega)]; simp [esum, qn, hbar])
end EM
