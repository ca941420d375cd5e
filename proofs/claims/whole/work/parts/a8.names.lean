/-! ===== names looked up ===== -/
def fnd (p : Nat → Bool) : Nat → Nat → Option Nat
  | 0, _ => none
  | k + 1, i => if p i then some i else fnd p k (i + 1)
theorem fnd_some {p : Nat → Bool} : ∀ k i j, fnd p k i = some j → i ≤ j ∧ j < i + k ∧ p j = true := by
  intro k
  induction k with
  | zero => intro i j h; cases h
  | succ k ih =>
    intro i j h
    rw [fnd] at h
    by_cases e : p i = true
    · rw [if_pos e] at h
      have := Option.some.inj h
      subst this
      exact ⟨by omega, by omega, e⟩
    · rw [if_neg e] at h
      have := ih _ _ h
      exact ⟨by omega, by omega, this.2.2⟩
theorem fnd_none {p : Nat → Bool} : ∀ k i, fnd p k i = none → ∀ j, i ≤ j → j < i + k → p j = false := by
  intro k
  induction k with
  | zero => intro i _ j h1 h2; omega
  | succ k ih =>
    intro i h j h1 h2
    rw [fnd] at h
    by_cases e : p i = true
    · rw [if_pos e] at h; cases h
    · rw [if_neg e] at h
      by_cases z : j = i
      · rw [z]; simpa using e
      · exact ih _ h j (by omega) (by omega)
theorem fnd_congr {p q : Nat → Bool} : ∀ k i, (∀ j, i ≤ j → j < i + k → p j = q j) → fnd p k i = fnd q k i := by
  intro k
  induction k with
  | zero => intro i _; rfl
  | succ k ih =>
    intro i H
    rw [fnd, fnd, H i (by omega) (by omega), ih (i + 1) (fun j h1 h2 => H j (by omega) (by omega))]
/-- the number of a name among those of a sort -/
def nmF (c : Nat → Int32) (w : Nat → Int64) (so : Nat) (v : Int64) : Option Nat := fnd (fun k => decide (w (8 * so + k) = v)) (cN c (manyI so)) 0
theorem nmF_some {c : Nat → Int32} {w : Nat → Int64} {so k : Nat} {v : Int64} (h : nmF c w so v = some k) : k < cN c (manyI so) ∧ w (8 * so + k) = v := by
  have := fnd_some _ _ _ h
  exact ⟨by omega, by simpa using this.2.2⟩
theorem nmF_none {c : Nat → Int32} {w : Nat → Int64} {so k : Nat} {v : Int64} (h : nmF c w so v = none) (hk : k < cN c (manyI so)) : w (8 * so + k) ≠ v := by
  have := fnd_none _ _ h k (Nat.zero_le _) (by omega)
  simpa using this
theorem nmF_congr {c c' : Nat → Int32} {w w' : Nat → Int64} {so : Nat} {v : Int64} (h : cN c' (manyI so) = cN c (manyI so)) (hw : ∀ k, k < cN c (manyI so) → w' (8 * so + k) = w (8 * so + k)) : nmF c' w' so v = nmF c w so v := by
  unfold nmF
  rw [h]
  exact fnd_congr _ _ (fun j _ hj => by rw [hw j (by omega)])
theorem kind_inj : ∀ a : Fin 7, ∀ b : Fin 7, kindOf a.val = kindOf b.val → a.val = b.val := by decide
theorem kind_lt : ∀ a : Fin 7, kindOf a.val < 31 := by decide
theorem many_lt {so : Nat} (h : so < 7) : manyI so < 8 := by unfold manyI; split <;> omega
section NM
variable {Y : Ly} {h : Hp} {x s m : Nat} {c : Nat → Int32} {w : Nat → Int64}
theorem numberOf_s (S : CS Y h x) (os : isO Y 4 s) (R : RN h s c w) (hT : nmT c ≤ 50) (V : VN c w) {so : Nat} (hso : so < 7) (v : Int64) : Sh_numberOf Y s v (nI (kindOf so)) h = some (on (nmF c w so v)) := by
  unfold Sh_numberOf
  have kl := kind_lt ⟨so, hso⟩
  simp only at kl
  have hit : ∀ i, i < nmT c → hAl h (hGr h 403 s) i = v → hAi h (hGr h 404 s) i = nI (kindOf so) → ∃ k, k < cN c (manyI so) ∧ w (8 * so + k) = v ∧ hAi h (hGr h 405 s) i = nI k := by
    intro i hi h1 h2
    obtain ⟨so', k', a1, a2, a3, a4, a5⟩ := R.2.1 i hi
    rw [h2] at a4
    have kl' := kind_lt ⟨so', a1⟩
    simp only at kl'
    have e0 : kindOf so = kindOf so' := (nI_eq (by omega) (by omega)).mp a4
    have e := kind_inj ⟨so, hso⟩ ⟨so', a1⟩ e0
    simp only at e
    subst e
    exact ⟨k', a2, a3.symm.trans h1, a5⟩
  refine upl (Q := fun q => q = some (on (nmF c w so v))) (fun F i (_ : Unit) => Sh_numberOf_L3 Y s v (nI (kindOf so)) h F (nI i)) (nmT c) (fun i _ => ∀ j, j < i → ¬ (hAl h (hGr h 403 s) j = v ∧ hAi h (hGr h 404 s) j = nI (kindOf so))) ?_ ?_ (nmT c) 0 () FU (by omega) (by unfold FU; omega) (fun j hj => absurd hj (by omega))
  · intro F i _ hi hI
    show Sh_numberOf_L3 Y s v (nI (kindOf so)) h (F + 1) (nI i) = _ ∨ ∃ s' : Unit, Sh_numberOf_L3 Y s v (nI (kindOf so)) h (F + 1) (nI i) = Sh_numberOf_L3 Y s v (nI (kindOf so)) h F (nI (i + 1)) ∧ _
    rw [Sh_numberOf_L3, R.1, if_neg (nI_ge hi (by omega)), cl403 S os, cl404 S os, cl405 S os, if_pos (inB_nI (by omega) (by omega)), if_pos (inB_nI (by omega) (by omega)), if_pos (inB_nI (by omega) (by omega)), nI_clamp (by omega), nI_1]
    by_cases z1 : hAl h (hGr h 403 s) i = v
    · rw [if_pos z1]
      by_cases z2 : hAi h (hGr h 404 s) i = nI (kindOf so)
      · left
        rw [if_pos z2]
        obtain ⟨k, k1, k2, k3⟩ := hit i hi z1 z2
        rw [k3]
        cases e : nmF c w so v with
        | none => exact absurd k2 (nmF_none e k1)
        | some k' =>
          obtain ⟨b1, b2⟩ := nmF_some e
          have := (V so k so k' hso k1 hso b1 (k2.trans b2.symm)).2
          rw [this]; rfl
      · rw [if_neg z2]
        exact Or.inr ⟨(), rfl, fun j hj => by
          by_cases e : j = i
          · rw [e]; exact fun q => z2 q.2
          · exact hI j (by omega)⟩
    · rw [if_neg z1]
      exact Or.inr ⟨(), rfl, fun j hj => by
        by_cases e : j = i
        · rw [e]; exact fun q => z1 q.1
        · exact hI j (by omega)⟩
  · intro F _ hI
    show Sh_numberOf_L3 Y s v (nI (kindOf so)) h (F + 1) (nI (nmT c)) = _
    rw [Sh_numberOf_L3, R.1, if_pos (nI_le (Nat.le_refl _) (by omega))]
    cases e : nmF c w so v with
    | none => rfl
    | some k =>
      obtain ⟨b1, b2⟩ := nmF_some e
      obtain ⟨i, i1, i2, i3, _⟩ := R.2.2 so k hso b1
      exact absurd ⟨i2.trans b2, i3⟩ (hI i i1)
def TKN (c : Nat → Int32) (w : Nat → Int64) (v : Int64) : Prop := ∃ so k, so < 7 ∧ k < cN c (manyI so) ∧ w (8 * so + k) = v
theorem hasName_s (S : CS Y h x) (os : isO Y 4 s) (R : RN h s c w) (hT : nmT c ≤ 50) (v : Int64) : (TKN c w v → Sh_hasName Y s v h = some true) ∧ (¬ TKN c w v → Sh_hasName Y s v h = some false) := by
  have key : (Sh_hasName Y s v h = some true ∧ TKN c w v) ∨ (Sh_hasName Y s v h = some false ∧ ¬ TKN c w v) := by
    unfold Sh_hasName
    refine upl (Q := fun q => (q = some true ∧ TKN c w v) ∨ (q = some false ∧ ¬ TKN c w v)) (fun F i (_ : Unit) => Sh_hasName_L2 Y s v h F (nI i)) (nmT c) (fun i _ => ∀ j, j < i → hAl h (hGr h 403 s) j ≠ v) ?_ ?_ (nmT c) 0 () FU (by omega) (by unfold FU; omega) (fun j hj => absurd hj (by omega))
    · intro F i _ hi hI
      show ((Sh_hasName_L2 Y s v h (F + 1) (nI i) = _ ∧ _) ∨ (Sh_hasName_L2 Y s v h (F + 1) (nI i) = _ ∧ _)) ∨ ∃ s' : Unit, Sh_hasName_L2 Y s v h (F + 1) (nI i) = Sh_hasName_L2 Y s v h F (nI (i + 1)) ∧ _
      rw [Sh_hasName_L2, R.1, if_neg (nI_ge hi (by omega)), cl403 S os, if_pos (inB_nI (by omega) (by omega)), nI_clamp (by omega), nI_1]
      by_cases z1 : hAl h (hGr h 403 s) i = v
      · rw [if_pos z1]
        obtain ⟨so', k', a1, a2, a3, _⟩ := R.2.1 i hi
        exact Or.inl (Or.inl ⟨rfl, so', k', a1, a2, a3.symm.trans z1⟩)
      · rw [if_neg z1]
        exact Or.inr ⟨(), rfl, fun j hj => by
          by_cases e : j = i
          · rw [e]; exact z1
          · exact hI j (by omega)⟩
    · intro F _ hI
      show (Sh_hasName_L2 Y s v h (F + 1) (nI (nmT c)) = _ ∧ _) ∨ (Sh_hasName_L2 Y s v h (F + 1) (nI (nmT c)) = _ ∧ _)
      rw [Sh_hasName_L2, R.1, if_pos (nI_le (Nat.le_refl _) (by omega))]
      refine Or.inr ⟨rfl, fun ⟨so, k, a1, a2, a3⟩ => ?_⟩
      obtain ⟨i, i1, i2, _⟩ := R.2.2 so k a1 a2
      exact hI i i1 (i2.trans a3)
  rcases key with ⟨k1, k2⟩ | ⟨k1, k2⟩
  · exact ⟨fun _ => k1, fun n => absurd k2 n⟩
  · exact ⟨fun n => absurd n k2, fun _ => k1⟩
/-- block j of the reference, its names -/
def BN (h : Hp) (m j : Nat) (c : Nat → Int32) (w : Nat → Int64) : Prop := ∀ so, so < 7 → hAi h (hGr h 1220 m) (576 * j + manyI so) = nI (cN c (manyI so)) ∧ cN c (manyI so) ≤ 8 ∧ ∀ k, k < cN c (manyI so) → hAl h (hGr h 1222 m) (56 * j + 8 * so + k) = w (8 * so + k)
theorem named_s (S : MS Y h m) {j : Nat} (hj : j ≤ 4) (B : BN h m j c w) {so : Nat} (hso : so < 7) : M_named Y m (nI j) (nI so) h = some (on (nmF c w so (hGl h 1219 m))) := by
  obtain ⟨b1, b2, b3⟩ := B so hso
  have ml := many_lt hso
  have mo : M_manyOf Y (nI so) h = some (nI (manyI so)) := by
    unfold M_manyOf manyI
    by_cases z : so < 5
    · rw [if_neg (show ¬ (5 : Int32) ≤ nI so from nI_ge (b := 5) z (by omega)), if_pos z]
    · rw [if_pos (show (5 : Int32) ≤ nI so from nI_le (a := 5) (by omega) (by omega)), if_neg z, nI_1]
  unfold M_named
  have key : ∀ k i F, cN c (manyI so) = i + k → k < F → M_named_L2 Y m (nI j) (nI so) h F (nI i) = some (on (fnd (fun k => decide (w (8 * so + k) = hGl h 1219 m)) k i)) := by
    intro k
    induction k with
    | zero =>
      intro i F h1 hF
      obtain ⟨F, rfl⟩ : ∃ F', F = F' + 1 := ⟨F - 1, by omega⟩
      rw [M_named_L2, mo, bind_s, show (576 : Int32) * nI j + nI (manyI so) = nI (576 * j + manyI so) by simp only [zlit, pk_mul, nI_add], ml1220 S, if_pos (inB_nI (by omega) (by omega)), nI_clamp (by omega), b1, if_pos (nI_le (by omega) (by omega))]
      rfl
    | succ k ih =>
      intro i F h1 hF
      obtain ⟨F, rfl⟩ : ∃ F', F = F' + 1 := ⟨F - 1, by omega⟩
      rw [M_named_L2, mo, bind_s, show (576 : Int32) * nI j + nI (manyI so) = nI (576 * j + manyI so) by simp only [zlit, pk_mul, nI_add], ml1220 S, if_pos (inB_nI (by omega) (by omega)), nI_clamp (by omega), b1, if_neg (nI_ge (by omega) (by omega)), show (56 : Int32) * nI j + 8 * nI so + nI i = nI (56 * j + 8 * so + i) by simp only [zlit, pk_mul, nI_add], ml1222 S, if_pos (inB_nI (by omega) (by omega)), nI_clamp (by omega), b3 i (by omega), nI_1, fnd]
      by_cases z : w (8 * so + i) = hGl h 1219 m
      · rw [if_pos z, if_pos (by simpa using z)]; rfl
      · rw [if_neg z, if_neg (by simpa using z)]
        exact ih (i + 1) F (by omega) (by omega)
  exact key (cN c (manyI so)) 0 FU (by omega) (by unfold FU; omega)
theorem isTaken_s (S : MS Y h m) (B : BN h m 4 c w) : (TKN c w (hGl h 1219 m) → M_isTaken Y m h = some true) ∧ (¬ TKN c w (hGl h 1219 m) → M_isTaken Y m h = some false) := by
  have key : (M_isTaken Y m h = some true ∧ TKN c w (hGl h 1219 m)) ∨ (M_isTaken Y m h = some false ∧ ¬ TKN c w (hGl h 1219 m)) := by
    unfold M_isTaken
    refine upl (Q := fun q => (q = some true ∧ TKN c w (hGl h 1219 m)) ∨ (q = some false ∧ ¬ TKN c w (hGl h 1219 m))) (fun F i (_ : Unit) => M_isTaken_L2 Y m h F (nI i)) 7 (fun i _ => ∀ so, so < i → nmF c w so (hGl h 1219 m) = none) ?_ ?_ 7 0 () FU (by omega) (by unfold FU; omega) (fun j hj => absurd hj (by omega))
    · intro F i _ hi hI
      show ((M_isTaken_L2 Y m h (F + 1) (nI i) = _ ∧ _) ∨ (M_isTaken_L2 Y m h (F + 1) (nI i) = _ ∧ _)) ∨ ∃ s' : Unit, M_isTaken_L2 Y m h (F + 1) (nI i) = M_isTaken_L2 Y m h F (nI (i + 1)) ∧ _
      have b2 := (B i hi).2.1
      rw [M_isTaken_L2, if_neg (show ¬ (7 : Int32) ≤ nI i from nI_ge (b := 7) hi (by omega)), show (4 : Int32) = nI 4 from rfl, named_s S (Nat.le_refl 4) B hi, bind_s, nI_1]
      cases e : nmF c w i (hGl h 1219 m) with
      | none =>
        right
        refine ⟨(), by rw [if_pos (show on none < 0 by decide)], fun so hso => ?_⟩
        by_cases z : so = i
        · rw [z]; exact e
        · exact hI so (by omega)
      | some k =>
        left; left
        obtain ⟨q1, q2⟩ := nmF_some e
        rw [if_neg (show ¬ on (some k) < 0 from nI_pos (by omega))]
        exact ⟨rfl, i, k, hi, q1, q2⟩
    · intro F _ hI
      show (M_isTaken_L2 Y m h (F + 1) (nI 7) = _ ∧ _) ∨ (M_isTaken_L2 Y m h (F + 1) (nI 7) = _ ∧ _)
      rw [M_isTaken_L2, if_pos (show (7 : Int32) ≤ nI 7 by decide)]
      exact Or.inr ⟨rfl, fun ⟨so, k, a1, a2, a3⟩ => nmF_none (hI so a1) a2 a3⟩
  rcases key with ⟨k1, k2⟩ | ⟨k1, k2⟩
  · exact ⟨fun _ => k1, fun n => absurd k2 n⟩
  · exact ⟨fun n => absurd n k2, fun _ => k1⟩
end NM
theorem kI_all : ∀ i : Fin 31, kI (KW i.val) = some i.val := by decide +kernel
theorem scan_kw {W : Nat} : ∀ n i, scan (fun j _ => decide (KW j = W)) none n = some i → i < n ∧ KW i = W := by
  intro n
  induction n with
  | zero => intro i h; cases h
  | succ n ih =>
    intro i h
    rw [scan] at h
    by_cases e : KW n = W
    · rw [if_pos (by simpa using e)] at h
      have := Option.some.inj h
      subst this
      exact ⟨by omega, e⟩
    · rw [if_neg (by simpa using e)] at h
      have := ih i h
      exact ⟨by omega, this.2⟩
theorem kI_iff {W i : Nat} : kI W = some i ↔ i < 31 ∧ KW i = W := by
  constructor
  · exact scan_kw 31 i
  · rintro ⟨h1, rfl⟩
    exact kI_all ⟨i, h1⟩
