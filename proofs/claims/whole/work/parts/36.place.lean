/-! ===== where a book's pages lead ===== -/
def plF (c : Nat → Int32) (b : Nat) : Nat → Nat → Int32 → Int32
  | 0, _, st => st
  | k + 1, p, st => if st = m1 then m1 else plF c b k (p + 1) (c (18 + 8 * st.toNatClampNeg + cN c (106 + 10 * b + p)))
/-- the state behind all pages, or m1 -/
def place (c : Nat → Int32) (b : Nat) : Int32 := plF c b (cN c (94 + b)) 0 (c (82 + b))
def stOk (c : Nat → Int32) (x : Int32) : Prop := x = m1 ∨ ∃ k, k < cN c 0 ∧ x = nI k
theorem VR_ok {c : Nat → Int32} (V : VB c) {s t : Nat} (hs : s < 8) (ht : t < 8) : stOk c (c (18 + 8 * s + t)) := by
  rcases V.2.2.2.1 s t hs ht with q | ⟨_, _, q⟩
  · exact Or.inl q
  · exact Or.inr ⟨_, q.2, q.1⟩
theorem plF_m1 (c : Nat → Int32) (b : Nat) : ∀ k p, plF c b k p m1 = m1
  | 0, _ => rfl
  | k + 1, p => by simp [plF]
theorem plF_ok {c : Nat → Int32} (V : VB c) {b : Nat} (hb : b < cN c 2) : ∀ (k p : Nat) (st : Int32), p + k ≤ cN c (94 + b) → stOk c st → stOk c (plF c b k p st) := by
  intro k
  induction k with
  | zero => intro p st _ h; exact h
  | succ k ih =>
    intro p st hp hs
    have l0 := VC_l0 V
    have l1 := VC_l1 V
    unfold plF
    rcases hs with rfl | ⟨j, hj, rfl⟩
    · rw [if_pos rfl]; exact Or.inl rfl
    · rw [if_neg (by rw [ne_m1 (by omega)]; exact fun q => q), nI_clamp (by omega)]
      have hpg := (V.2.2.2.2.1 b hb).2.2.2.2 p (by omega)
      exact ih (p + 1) _ (by omega) (VR_ok V (by omega) (by have := hpg.2; omega))
theorem place_ok {c : Nat → Int32} (V : VB c) {b : Nat} (hb : b < cN c 2) : stOk c (place c b) := by
  have hK := V.2.2.2.2.1 b hb
  exact plF_ok V hb _ 0 _ (by omega) (Or.inr ⟨_, hK.1.2, hK.1.1⟩)
section PM
variable {Y : Ly} {h : Hp} {m : Nat} {c : Nat → Int32}
theorem M_placeOf_s (S : MS Y h m) (B : MB h m 0 c) (V : VB c) {b : Nat} (hb : b < cN c 2) : M_placeOf Y m (nI b) h = some (place c b) := by
  have l0 := VC_l0 V
  have l1 := VC_l1 V
  have l2 := VC_l2 V
  have hK := V.2.2.2.2.1 b hb
  have l94 := hK.2.2.1.2
  have key : ∀ (k p F : Nat) (st : Int32), cN c (94 + b) = p + k → k < F → stOk c st → M_placeOf_L12 Y m (nI b) h F st (nI p) = some (plF c b k p st) := by
    intro k
    induction k with
    | zero =>
      intro p F st hk hF hs
      obtain ⟨F, rfl⟩ : ∃ F', F = F' + 1 := ⟨F - 1, by omega⟩
      unfold M_placeOf_L12
      simp (disch := omega) only [zlit, nI_add, pk_mul, nI_clamp, ml1220 S, inB_nI, MB0 B, if_true, hK.2.2.1.1, nI_leI, plF]
      rw [if_pos (by omega)]
    | succ k ih =>
      intro p F st hk hF hs
      obtain ⟨F, rfl⟩ : ∃ F', F = F' + 1 := ⟨F - 1, by omega⟩
      have hpg := hK.2.2.2.2 p (by omega)
      have lpg := hpg.2
      unfold M_placeOf_L12
      rcases hs with rfl | ⟨s, hs, rfl⟩
      · simp (disch := omega) only [zlit, nI_add, pk_mul, nI_clamp, ml1220 S, inB_nI, MB0 B, if_true, hK.2.2.1.1, nI_leI, plF, m1_lt]
        rw [if_neg (by omega)]
      · simp (disch := omega) only [zlit, nI_add, pk_mul, nI_clamp, ml1220 S, inB_nI, MB0 B, if_true, hK.2.2.1.1, nI_leI, plF, hpg.1, nI_ltI, ne_m1, if_false]
        rw [if_neg (by omega), if_neg (by omega)]
        exact ih (p + 1) F _ (by omega) (by omega) (VR_ok V (by omega) (by omega))
  unfold M_placeOf
  simp (disch := omega) only [zlit, nI_add, nI_clamp, ml1220 S, inB_nI, MB0 B, if_true]
  exact key _ 0 FU _ (by omega) (by unfold FU; omega) (Or.inr ⟨_, hK.1.2, hK.1.1⟩)
end PM
section PC
variable {Y : Ly} {h : Hp} {s x : Nat} {c : Nat → Int32}
theorem St_leadsTo_s (S : CS Y h x) (T : Ty Y h) (hs : isO Y 4 s) (R : RS h s c) (V : VB c) {i j : Nat} (hi : i < cN c 0) (hj : j < cN c 1) : St_leadsTo Y (hGr h 400 s) (nI i) (nI j) h = some (c (18 + 8 * i + j)) := by
  have l0 := VC_l0 V
  have l1 := VC_l1 V
  have ho := T.1 400 6 rfl s hs
  unfold St_leadsTo
  rw [R.1.1, R.1.2.1, VC_e0 V, VC_e1 V]
  simp (disch := omega) only [zlit, pk_mul, nI_add, nI_ltI, nI_leI, cl601 S ho, inB_nI, if_true, nI_clamp]
  rw [if_neg (by omega), if_neg (by omega), if_neg (by omega), if_pos (by omega), R.2.1.2.1 (i * 8 + j) (by omega) (by omega)]
  congr 2
  omega
theorem Sh_placeOf_s (S : CS Y h x) (T : Ty Y h) (hs : isO Y 4 s) (R : RS h s c) (V : VB c) {b : Nat} (hb : b < cN c 2) : Sh_placeOf Y s (nI b) h = some (place c b) := by
  have l0 := VC_l0 V
  have l1 := VC_l1 V
  have l2 := VC_l2 V
  have hK := V.2.2.2.2.1 b hb
  have l94 := hK.2.2.1.2
  have rK := R.2.2.1 b hb
  have key : ∀ (k p F : Nat) (st : Int32), cN c (94 + b) = p + k → k < F → stOk c st → Sh_placeOf_L19 Y s (nI b) h F st (nI p) = some (plF c b k p st) := by
    intro k
    induction k with
    | zero =>
      intro p F st hk hF hst
      obtain ⟨F, rfl⟩ : ∃ F', F = F' + 1 := ⟨F - 1, by omega⟩
      unfold Sh_placeOf_L19
      simp (disch := omega) only [nI_clamp, cl408 S hs, inB_nI, if_true, rK.2.2.1, hK.2.2.1.1, nI_leI, plF]
      rw [if_pos (by omega)]
    | succ k ih =>
      intro p F st hk hF hst
      obtain ⟨F, rfl⟩ : ∃ F', F = F' + 1 := ⟨F - 1, by omega⟩
      have hpg := hK.2.2.2.2 p (by omega)
      have lpg := hpg.2
      have rpg := rK.2.2.2.2.2 p (by omega)
      unfold Sh_placeOf_L19
      rcases hst with rfl | ⟨t, ht, rfl⟩
      · simp (disch := omega) only [zlit, zneg, nI_clamp, cl408 S hs, inB_nI, if_true, rK.2.2.1, hK.2.2.1.1, nI_leI, plF]
        rw [if_neg (by omega)]
      · simp (disch := omega) only [zlit, zneg, nI_add, pk_mul, nI_clamp, cl408 S hs, cl409 S hs, inB_nI, if_true, rK.2.2.1, hK.2.2.1.1, nI_leI, plF, ne_m1, if_false]
        rw [if_neg (by omega), show b * 10 + p = 10 * b + p by omega, rpg, hpg.1, St_leadsTo_s S T hs R V ht hpg.2, bind_s]
        exact ih (p + 1) F _ (by omega) (by omega) (VR_ok V (by omega) (by omega))
  unfold Sh_placeOf
  rw [Sh_hasBook_s R V, isAt_nI hb (by omega), bind_s, if_pos rfl]
  simp (disch := omega) only [nI_clamp, cl406 S hs, inB_nI, if_true, rK.1]
  exact key _ 0 FU _ (by omega) (by unfold FU; omega) (Or.inr ⟨_, hK.1.2, hK.1.1⟩)
end PC
