/-! ===== endings as numbers; the least odd; who must lie ===== -/
def esn (c : Nat → Int32) (g : Nat → Nat) (ok : Nat → Bool) (s : Nat) : Nat → Nat
  | 0 => 0
  | n + 1 => esn c g ok s n + (if c (18 + 8 * s + n) = m1 ∨ ok n = false then 0 else g (cN c (18 + 8 * s + n)))
def ESn (c : Nat → Int32) (b L : Nat) : Nat → Nat → Nat
  | 0, s => if (cN c 8).testBit s then 1 else 0
  | r + 1, s => esn c (ESn c b L r) (fun t => !barred c b (cN c (88 + b) - r) t L) s (cN c 1)
def ecn (c : Nat → Int32) (b L : Nat) : Nat := if place c b = m1 then 0 else ESn c b L (cN c (88 + b)) (place c b).toNatClampNeg
theorem esum_n {c : Nat → Int32} {g : Nat → Int64} {g' : Nat → Nat} {ok : Nat → Bool} {s : Nat} (hg : ∀ q, g q = lN (g' q)) : ∀ n, esum c g ok s n = lN (esn c g' ok s n) := by
  intro n
  induction n with
  | zero => rfl
  | succ n ih =>
    rw [esum, esn, ih, ← lN_add]
    split
    · rfl
    · rw [hg]
theorem ES_n (c : Nat → Int32) (b L : Nat) : ∀ r s, ES c b L r s = lN (ESn c b L r s) := by
  intro r
  induction r with
  | zero =>
    intro s
    rw [ES, ESn]
    split <;> rfl
  | succ r ih =>
    intro s
    exact esum_n (fun q => ih q) _
theorem ecnt_n (c : Nat → Int32) (b L : Nat) : ecnt c b L = lN (ecn c b L) := by
  unfold ecnt ecn
  split
  · rfl
  · exact ES_n c b L _ _
theorem esn_le {c : Nat → Int32} {g : Nat → Nat} {ok : Nat → Bool} {s M : Nat} (hg : ∀ q, g q ≤ M) : ∀ n, esn c g ok s n ≤ n * M := by
  intro n
  induction n with
  | zero => simp [esn]
  | succ n ih =>
    rw [esn]
    have h1 := hg (cN c (18 + 8 * s + n))
    have h2 : (n + 1) * M = n * M + M := Nat.succ_mul n M
    rw [h2]
    by_cases q : c (18 + 8 * s + n) = m1 ∨ ok n = false
    · rw [if_pos q]; omega
    · rw [if_neg q]; omega
theorem ESn_le {c : Nat → Int32} (V : VB c) (b L : Nat) : ∀ r s, ESn c b L r s ≤ 8 ^ r := by
  intro r
  induction r with
  | zero =>
    intro s
    rw [ESn]
    split <;> simp
  | succ r ih =>
    intro s
    have l1 := VC_l1 V
    have h1 : ESn c b L (r + 1) s ≤ cN c 1 * 8 ^ r := esn_le (fun q => ih q) _
    have h2 : cN c 1 * 8 ^ r ≤ 8 * 8 ^ r := Nat.mul_le_mul_right _ (by omega)
    rw [Nat.pow_succ]
    omega
theorem ecn_le {c : Nat → Int32} (V : VB c) {b : Nat} (hb : b < cN c 2) (L : Nat) : ecn c b L ≤ 262144 := by
  have l88 := (V.2.2.2.2.1 b hb).2.1.1.2
  unfold ecn
  split
  · omega
  · have h1 := ESn_le V b L (cN c (88 + b)) (place c b).toNatClampNeg
    have h2 : 8 ^ cN c (88 + b) ≤ 8 ^ 6 := Nat.pow_le_pow_right (by decide) (by omega)
    have h3 : (8 : Nat) ^ 6 = 262144 := by decide
    omega
/-! the least, and the first that has it -/
def mnF (v : Nat → Option Nat) : Nat → Option Nat
  | 0 => none
  | n + 1 => match v n with
    | none => mnF v n
    | some w => match mnF v n with
      | none => some w
      | some u => if w < u then some w else some u
def arF (v : Nat → Option Nat) : Nat → Option Nat
  | 0 => none
  | n + 1 => match v n with
    | none => arF v n
    | some w => match mnF v n with
      | none => some n
      | some u => if w < u then some n else arF v n
theorem mnF_none {v : Nat → Option Nat} : ∀ n, mnF v n = none ↔ ∀ t, t < n → v t = none := by
  intro n
  induction n with
  | zero => simp [mnF]
  | succ n ih =>
    constructor
    · intro h t ht
      rw [mnF] at h
      cases hv : v n with
      | none =>
        rw [hv] at h
        by_cases e : t = n
        · rw [e]; exact hv
        · exact ih.mp h t (by omega)
      | some w =>
        rw [hv] at h
        exfalso
        cases hm : mnF v n with
        | none => rw [hm] at h; cases h
        | some u =>
          rw [hm] at h
          simp only at h
          split at h <;> cases h
    · intro h
      rw [mnF, h n (by omega)]
      exact ih.mpr (fun t ht => h t (by omega))
theorem mnF_le {v : Nat → Option Nat} {M : Nat} : ∀ n, (∀ t, t < n → ∀ w, v t = some w → w ≤ M) → ∀ w, mnF v n = some w → w ≤ M := by
  intro n
  induction n with
  | zero => intro _ w h; cases h
  | succ n ih =>
    intro H w h
    have ih' := ih (fun t ht => H t (by omega))
    rw [mnF] at h
    cases hv : v n with
    | none => rw [hv] at h; exact ih' w h
    | some u =>
      have hu := H n (by omega) u hv
      rw [hv] at h
      simp only at h
      cases hm : mnF v n with
      | none => rw [hm] at h; simp only [Option.some.injEq] at h; omega
      | some z =>
        have hz := ih' z hm
        rw [hm] at h
        simp only at h
        split at h <;> (simp only [Option.some.injEq] at h; omega)
/-- what the first with the least is -/
theorem arF_spec {v : Nat → Option Nat} : ∀ n u, mnF v n = some u → ∃ f, arF v n = some f ∧ f < n ∧ v f = some u ∧ (∀ t, t < f → v t ≠ some u) ∧ ∀ t, t < n → ∀ w, v t = some w → u ≤ w := by
  intro n
  induction n with
  | zero => intro u h; cases h
  | succ n ih =>
    intro u h
    rw [mnF] at h
    rw [arF]
    cases hv : v n with
    | none =>
      rw [hv] at h
      obtain ⟨f, h1, h2, h3, h4, h5⟩ := ih u h
      refine ⟨f, h1, by omega, h3, h4, fun t ht w hw => ?_⟩
      by_cases e : t = n
      · subst e; rw [hv] at hw; cases hw
      · exact h5 t (by omega) w hw
    | some w =>
      rw [hv] at h
      simp only at h ⊢
      cases hm : mnF v n with
      | none =>
        rw [hm] at h
        simp only [Option.some.injEq] at h
        have hn := (mnF_none n).mp hm
        refine ⟨n, rfl, by omega, by rw [hv, h], fun t ht => (by rw [hn t ht]; exact fun z => by cases z), fun t ht w' hw' => ?_⟩
        by_cases e : t = n
        · subst e; rw [hv] at hw'; cases hw'; omega
        · rw [hn t (by omega)] at hw'; cases hw'
      | some z =>
        rw [hm] at h
        simp only at h ⊢
        obtain ⟨f, h1, h2, h3, h4, h5⟩ := ih z hm
        by_cases q : w < z
        · rw [if_pos q] at h ⊢
          simp only [Option.some.injEq] at h
          refine ⟨n, rfl, by omega, by rw [hv, h], fun t ht hw => ?_, fun t ht w' hw' => ?_⟩
          · have := h5 t ht u hw; omega
          · by_cases e : t = n
            · subst e; rw [hv] at hw'; cases hw'; omega
            · have := h5 t (by omega) w' hw'; omega
        · rw [if_neg q] at h ⊢
          simp only [Option.some.injEq] at h
          refine ⟨f, h1, by omega, by rw [h3, h], fun t ht hw => ?_, fun t ht w' hw' => ?_⟩
          · exact h4 t ht (by rw [hw, h])
          · by_cases e : t = n
            · subst e; rw [hv] at hw'; cases hw'; omega
            · have := h5 t (by omega) w' hw'; omega
def vlF (c : Nat → Int32) (g : Nat → Option Nat) (ok : Nat → Bool) (s t : Nat) : Option Nat :=
  if c (18 + 8 * s + t) = m1 ∨ ok t = false then none else (g (cN c (18 + 8 * s + t))).map (fun r => r + cN c (10 + t))
def LSo (c : Nat → Int32) (b L : Nat) : Nat → Nat → Option Nat
  | 0, s => if (cN c 8).testBit s then some 0 else none
  | r + 1, s => mnF (vlF c (LSo c b L r) (fun t => !barred c b (cN c (88 + b) - r) t L) s) (cN c 1)
theorem LSo_le {c : Nat → Int32} (V : VB c) (b L : Nat) : ∀ r s w, LSo c b L r s = some w → w ≤ 9 * r := by
  intro r
  induction r with
  | zero =>
    intro s w h
    rw [LSo] at h
    split at h
    · simp only [Option.some.injEq] at h; omega
    · cases h
  | succ r ih =>
    intro s w h
    refine mnF_le (M := 9 * (r + 1)) _ (fun t ht w' hw' => ?_) w h
    unfold vlF at hw'
    split at hw'
    · cases hw'
    · cases hl : LSo c b L r (cN c (18 + 8 * s + t)) with
      | none => rw [hl] at hw'; cases hw'
      | some z =>
        rw [hl] at hw'
        simp only [Option.map_some, Option.some.injEq] at hw'
        have h1 := ih _ z hl
        have h2 := (V.2.2.1 t ht).2
        omega
theorem esn_0 {c : Nat → Int32} {g : Nat → Nat} {g' : Nat → Option Nat} {ok : Nat → Bool} {s : Nat} (hg : ∀ q, g q = 0 ↔ g' q = none) : ∀ n, esn c g ok s n = 0 ↔ mnF (vlF c g' ok s) n = none := by
  intro n
  rw [mnF_none]
  induction n with
  | zero => simp [esn]
  | succ n ih =>
    rw [esn]
    constructor
    · intro h t ht
      by_cases e : t = n
      · subst e
        unfold vlF
        split
        · rfl
        · next q =>
          rw [if_neg q] at h
          have : g (cN c (18 + 8 * s + t)) = 0 := by omega
          rw [(hg _).mp this]; rfl
      · exact (ih.mp (by omega)) t (by omega)
    · intro h
      have h1 := ih.mpr (fun t ht => h t (by omega))
      have h2 := h n (by omega)
      rw [h1]
      unfold vlF at h2
      split at h2
      · next q => rw [if_pos q]
      · next q =>
        rw [if_neg q]
        have : g' (cN c (18 + 8 * s + n)) = none := by
          cases hh : g' (cN c (18 + 8 * s + n)) with
          | none => rfl
          | some z => rw [hh] at h2; cases h2
        rw [(hg _).mpr this]
theorem ES_LS (c : Nat → Int32) (b L : Nat) : ∀ r s, ESn c b L r s = 0 ↔ LSo c b L r s = none := by
  intro r
  induction r with
  | zero =>
    intro s
    rw [ESn, LSo]
    split <;> simp
  | succ r ih => intro s; exact esn_0 (fun q => ih q) _
def bestO (c : Nat → Int32) (b : Nat) : Option Nat := if place c b = m1 then none else LSo c b (cN c 9) (cN c (88 + b)) (place c b).toNatClampNeg
theorem best_none (c : Nat → Int32) (b : Nat) : ecn c b (cN c 9) = 0 ↔ bestO c b = none := by
  unfold ecn bestO
  by_cases h : place c b = m1
  · rw [if_pos h, if_pos h]; simp
  · rw [if_neg h, if_neg h]; exact ES_LS c b _ _ _
/-! who must lie -/
theorem barP_iff (c : Nat → Int32) (b pl t L : Nat) : ∀ n, barP c b pl t L n = true ↔ ∃ i, i < n ∧ hbar c b pl t L i = true := by
  intro n
  induction n with
  | zero => simp [barP]
  | succ n ih =>
    rw [barP, Bool.or_eq_true, ih]
    constructor
    · rintro (⟨i, h1, h2⟩ | h)
      · exact ⟨i, by omega, h2⟩
      · exact ⟨n, by omega, h⟩
    · rintro ⟨i, h1, h2⟩
      by_cases e : i = n
      · subst e; exact Or.inr h2
      · exact Or.inl ⟨i, by omega, h2⟩
/-- readers who gave hints of a book -/
def spkF (c : Nat → Int32) (b : Nat) : Nat → Nat
  | 0 => 0
  | n + 1 => spkF c b n ||| (if cN c (222 + n) = b then 2 ^ cN c (258 + n) else 0)
def spk (c : Nat → Int32) (b : Nat) : Nat := spkF c b (cN c 5)
theorem spkF_in (c : Nat → Int32) (b : Nat) : ∀ n i, i < n → cN c (222 + i) = b → (spkF c b n).testBit (cN c (258 + i)) = true := by
  intro n
  induction n with
  | zero => intro i hi; omega
  | succ n ih =>
    intro i hi hb
    rw [spkF, Nat.testBit_or]
    by_cases e : i = n
    · subst e
      rw [if_pos hb, Nat.testBit_two_pow_self]; simp
    · rw [ih i (by omega) hb]; rfl
theorem spkF_lt {c : Nat → Int32} {R : Nat} (b : Nat) : ∀ n, (∀ i, i < n → cN c (258 + i) < R) → spkF c b n < 2 ^ R := by
  intro n
  induction n with
  | zero => intro _; exact Nat.two_pow_pos _
  | succ n ih =>
    intro H
    rw [spkF]
    apply Nat.or_lt_two_pow (ih (fun i hi => H i (by omega)))
    split
    · exact Nat.pow_lt_pow_right (by decide) (H n (by omega))
    · exact Nat.two_pow_pos _
theorem bar_mono {c : Nat → Int32} {b pl t L L' : Nat} (h : ∀ i, i < cN c 5 → cN c (222 + i) = b → L.testBit (cN c (258 + i)) = true → L'.testBit (cN c (258 + i)) = true) : barred c b pl t L' = true → barred c b pl t L = true := by
  rw [barred_P, barred_P, barP_iff, barP_iff]
  rintro ⟨i, h1, h2⟩
  refine ⟨i, h1, ?_⟩
  simp only [hbar, Bool.and_eq_true, beq_iff_eq, Bool.not_eq_true'] at h2 ⊢
  refine ⟨⟨h2.1.1, h2.1.2.1, ?_⟩, h2.2⟩
  cases hL : L.testBit (cN c (258 + i)) with
  | false => rfl
  | true =>
    have := h i h1 h2.1.1 hL
    rw [h2.1.2.2] at this
    cases this
theorem esn_mono {c : Nat → Int32} {g g' : Nat → Nat} {ok ok' : Nat → Bool} {s : Nat} (hg : ∀ q, g q ≤ g' q) (ho : ∀ t, ok t = true → ok' t = true) : ∀ n, esn c g ok s n ≤ esn c g' ok' s n := by
  intro n
  induction n with
  | zero => exact Nat.le_refl _
  | succ n ih =>
    rw [esn, esn]
    have := hg (cN c (18 + 8 * s + n))
    by_cases q : c (18 + 8 * s + n) = m1 ∨ ok n = false
    · rw [if_pos q]; omega
    · rw [if_neg q, if_neg]
      · omega
      · rintro (h1 | h1)
        · exact q (Or.inl h1)
        · cases hq : ok n with
          | false => exact q (Or.inr hq)
          | true => rw [ho n hq] at h1; cases h1
theorem ESn_mono {c : Nat → Int32} {b L L' : Nat} (h : ∀ i, i < cN c 5 → cN c (222 + i) = b → L.testBit (cN c (258 + i)) = true → L'.testBit (cN c (258 + i)) = true) : ∀ r s, ESn c b L r s ≤ ESn c b L' r s := by
  intro r
  induction r with
  | zero => intro s; exact Nat.le_refl _
  | succ r ih =>
    intro s
    refine esn_mono (fun q => ih q) (fun t ht => ?_) _
    cases hb : barred c b (cN c (88 + b) - r) t L' with
    | false => rfl
    | true => rw [bar_mono h hb] at ht; cases ht
theorem ecn_mono {c : Nat → Int32} {b L L' : Nat} (h : ∀ i, i < cN c 5 → cN c (222 + i) = b → L.testBit (cN c (258 + i)) = true → L'.testBit (cN c (258 + i)) = true) : ecn c b L ≤ ecn c b L' := by
  unfold ecn
  split
  · exact Nat.le_refl _
  · exact ESn_mono h _ _
theorem ecn_and (c : Nat → Int32) (b L : Nat) : ecn c b (L &&& spk c b) = ecn c b L := by
  apply Nat.le_antisymm
  · exact ecn_mono (fun i _ _ hl => by rw [Nat.testBit_and, Bool.and_eq_true] at hl; exact hl.1)
  · refine ecn_mono (fun i hi hb hl => ?_)
    rw [Nat.testBit_and, hl, spk, spkF_in c b _ i hi hb]; rfl
theorem ecn_spk (c : Nat → Int32) (b L : Nat) : ecn c b L ≤ ecn c b (spk c b) :=
  ecn_mono (fun i hi hb _ => spkF_in c b _ i hi hb)
