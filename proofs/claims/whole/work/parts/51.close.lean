/-! ===== what follows, again and again ===== -/
def sub (a b : Nat) : Prop := ∀ i, a.testBit i = true → b.testBit i = true
theorem sub_rf (a : Nat) : sub a a := fun _ h => h
theorem sub_tr {a b d : Nat} (h1 : sub a b) (h2 : sub b d) : sub a d := fun i h => h2 i (h1 i h)
theorem sub_or {a b d : Nat} : sub (a ||| b) d ↔ sub a d ∧ sub b d := by
  constructor
  · intro H
    exact ⟨fun i hi => H i (by rw [Nat.testBit_or, hi]; rfl), fun i hi => H i (by rw [Nat.testBit_or, hi]; simp)⟩
  · intro H i hi
    rw [Nat.testBit_or, Bool.or_eq_true] at hi
    rcases hi with q | q
    · exact H.1 i q
    · exact H.2 i q
theorem sub_l (a b : Nat) : sub a (a ||| b) := fun i hi => by rw [Nat.testBit_or, hi]; rfl
theorem sub_r (a b : Nat) : sub b (a ||| b) := fun i hi => by rw [Nat.testBit_or, hi]; simp
theorem sub_0 (a : Nat) : sub 0 a := fun i hi => by simp at hi
theorem sub_anti {a b : Nat} (h1 : sub a b) (h2 : sub b a) : a = b := by
  apply Nat.eq_of_testBit_eq
  intro i
  by_cases h : a.testBit i = true
  · rw [h, h1 i h]
  · by_cases h' : b.testBit i = true
    · exact absurd (h2 i h') h
    · simp only [Bool.not_eq_true] at h h'
      rw [h, h']
theorem pcn_sub {a b : Nat} (h : sub a b) : ∀ k, pcn a k ≤ pcn b k := by
  intro k
  induction k with
  | zero => exact Nat.le_refl _
  | succ k ih =>
    simp only [pcn]
    by_cases q : a.testBit k = true
    · rw [if_pos q, if_pos (h k q)]; omega
    · rw [if_neg q]; omega
theorem pcn_ss {a b : Nat} (h : sub a b) : ∀ k i, i < k → a.testBit i = false → b.testBit i = true → pcn a k < pcn b k := by
  intro k
  induction k with
  | zero => intro i hi; omega
  | succ k ih =>
    intro i hi h1 h2
    simp only [pcn]
    by_cases e : i = k
    · subst e
      have := pcn_sub h i
      rw [h1, if_neg (by decide), if_pos h2]; omega
    · have := ih i (by omega) h1 h2
      by_cases q : a.testBit k = true
      · rw [if_pos q, if_pos (h k q)]; omega
      · rw [if_neg q]; omega
theorem sub_ne {a b n : Nat} (h : sub a b) (hb : b < 2 ^ n) (ne : a ≠ b) : pcn a n < pcn b n := by
  have : ∃ i, a.testBit i = false ∧ b.testBit i = true := by
    apply Classical.byContradiction
    intro H
    apply ne
    refine sub_anti h (fun i hi => ?_)
    apply Classical.byContradiction
    intro q
    exact H ⟨i, by simpa using q, hi⟩
  obtain ⟨i, h1, h2⟩ := this
  have hi : i < n := by
    apply Classical.byContradiction
    intro q
    have : b.testBit i = false := Nat.testBit_lt_two_pow (Nat.lt_of_lt_of_le hb (Nat.pow_le_pow_right (by decide) (by omega)))
    rw [this] at h2
    cases h2
  exact pcn_ss h n i hi h1 h2
theorem pcn_full {a n : Nat} (h : pcn a n = n) : ∀ i, i < n → a.testBit i = true := by
  induction n with
  | zero => intro i hi; omega
  | succ n ih =>
    have h1 := pcn_le a n
    simp only [pcn] at h
    by_cases q : a.testBit n = true
    · rw [if_pos q] at h
      intro i hi
      by_cases e : i = n
      · rw [e]; exact q
      · exact ih (by omega) i (by omega)
    · rw [if_neg q] at h; omega
theorem unio_bit (f : Nat → Nat) (a : Nat) : ∀ n i, (unio f a n).testBit i = true ↔ ∃ k, k < n ∧ a.testBit k = true ∧ (f k).testBit i = true := by
  intro n
  induction n with
  | zero => intro i; simp [unio]
  | succ n ih =>
    intro i
    rw [unio, Nat.testBit_or, Bool.or_eq_true, ih]
    constructor
    · rintro (⟨k, h1, h2, h3⟩ | h)
      · exact ⟨k, by omega, h2, h3⟩
      · by_cases q : a.testBit n = true
        · rw [if_pos q] at h
          exact ⟨n, by omega, q, h⟩
        · rw [if_neg q] at h; simp at h
    · rintro ⟨k, h1, h2, h3⟩
      by_cases e : k = n
      · subst e
        right
        rw [if_pos h2]; exact h3
      · exact Or.inl ⟨k, by omega, h2, h3⟩
def jst (f : Nat → Nat) (n x : Nat) : Nat := x ||| unio f x n
def itr (g : Nat → Nat) : Nat → Nat → Nat
  | 0, x => x
  | k + 1, x => g (itr g k x)
def gsF (f : Nat → Nat) (x : Nat) : Nat → Nat
  | 0 => x
  | k + 1 => gsF f x k ||| (if (gsF f x k).testBit k then f k else 0)
def closed (f : Nat → Nat) (n z : Nat) : Prop := ∀ k, k < n → z.testBit k = true → sub (f k) z
theorem jst_closed {f : Nat → Nat} {n z : Nat} : jst f n z = z ↔ closed f n z := by
  constructor
  · intro e k hk hz i hi
    have : (jst f n z).testBit i = true := by
      rw [jst, Nat.testBit_or, (unio_bit f z n i).mpr ⟨k, hk, hz, hi⟩]; simp
    rw [e] at this; exact this
  · intro H
    refine sub_anti ?_ (sub_l _ _)
    rw [jst, sub_or]
    refine ⟨sub_rf _, fun i hi => ?_⟩
    obtain ⟨k, h1, h2, h3⟩ := (unio_bit f z n i).mp hi
    exact H k h1 h2 i h3
theorem itr_lt {f : Nat → Nat} {n M x : Nat} (hf : ∀ i, i < n → f i < 2 ^ M) (hx : x < 2 ^ M) : ∀ k, itr (jst f n) k x < 2 ^ M := by
  have hu : ∀ z m, m ≤ n → unio f z m < 2 ^ M := by
    intro z m
    induction m with
    | zero => intro _; exact Nat.two_pow_pos M
    | succ m ih =>
      intro hm
      rw [unio]
      apply Nat.or_lt_two_pow (ih (by omega))
      split
      · exact hf m (by omega)
      · exact Nat.two_pow_pos M
  intro k
  induction k with
  | zero => exact hx
  | succ k ih => exact Nat.or_lt_two_pow ih (hu _ n (Nat.le_refl _))
theorem itr_grow {f : Nat → Nat} {n x : Nat} (hf : ∀ i, i < n → f i < 2 ^ n) (hx : x < 2 ^ n) : ∀ k, closed f n (itr (jst f n) k x) ∨ k ≤ pcn (itr (jst f n) k x) n := by
  intro k
  induction k with
  | zero => right; omega
  | succ k ih =>
    by_cases h : closed f n (itr (jst f n) k x)
    · left
      have := jst_closed.mpr h
      show closed f n (jst f n (itr (jst f n) k x))
      rw [this]; exact h
    · rcases ih with q | q
      · exact absurd q h
      · right
        have ne : itr (jst f n) k x ≠ jst f n (itr (jst f n) k x) := fun e => h (jst_closed.mp e.symm)
        have : pcn (itr (jst f n) k x) n < pcn (jst f n (itr (jst f n) k x)) n := sub_ne (sub_l (itr (jst f n) k x) (unio f (itr (jst f n) k x) n)) (n := n) (itr_lt hf hx (k + 1)) ne
        show k + 1 ≤ pcn (jst f n (itr (jst f n) k x)) n
        omega
theorem itr_closed {f : Nat → Nat} {n x : Nat} (hf : ∀ i, i < n → f i < 2 ^ n) (hx : x < 2 ^ n) : closed f n (itr (jst f n) n x) := by
  rcases itr_grow hf hx n with h | h
  · exact h
  · have hle := pcn_le (itr (jst f n) n x) n
    have full := pcn_full (show pcn (itr (jst f n) n x) n = n by omega)
    intro k hk _ i hi
    apply full
    apply Classical.byContradiction
    intro q
    have : (f k).testBit i = false := Nat.testBit_lt_two_pow (Nat.lt_of_lt_of_le (hf k hk) (Nat.pow_le_pow_right (by decide) (by omega)))
    rw [this] at hi
    cases hi
theorem itr_fix {g : Nat → Nat} {x : Nat} {k : Nat} (h : g (itr g k x) = itr g k x) : ∀ d, itr g (k + d) x = itr g k x := by
  intro d
  induction d with
  | zero => rfl
  | succ d ih =>
    show g (itr g (k + d) x) = _
    rw [ih, h]
theorem gsF_mono (f : Nat → Nat) (x : Nat) : ∀ d k, sub (gsF f x k) (gsF f x (k + d)) := by
  intro d
  induction d with
  | zero => intro k; exact sub_rf _
  | succ d ih =>
    intro k
    exact sub_tr (ih k) (sub_l _ _)
theorem gsF_up {f : Nat → Nat} {n x z : Nat} (hz : closed f n z) (hx : sub x z) : ∀ k, k ≤ n → sub (gsF f x k) z := by
  intro k
  induction k with
  | zero => intro _; exact hx
  | succ k ih =>
    intro hk
    have h1 := ih (by omega)
    rw [gsF, sub_or]
    refine ⟨h1, ?_⟩
    split
    · next q => exact hz k (by omega) (h1 k q)
    · exact sub_0 _
theorem gsF_jst (f : Nat → Nat) (n x y : Nat) (hxy : sub x y) : sub (jst f n x) (gsF f y n) := by
  rw [jst, sub_or]
  have h0 : sub x (gsF f y n) := by
    have := gsF_mono f y n 0
    rw [Nat.zero_add] at this
    exact sub_tr hxy this
  refine ⟨h0, fun i hi => ?_⟩
  obtain ⟨k, h1, h2, h3⟩ := (unio_bit f x n i).mp hi
  have m1 := gsF_mono f y k 0
  rw [Nat.zero_add] at m1
  have b1 : (gsF f y k).testBit k = true := m1 k (hxy k h2)
  have m2 := gsF_mono f y (n - (k + 1)) (k + 1)
  rw [show k + 1 + (n - (k + 1)) = n by omega] at m2
  apply m2
  rw [gsF, Nat.testBit_or, if_pos b1, h3]; simp
theorem gs_eq {f : Nat → Nat} {n x : Nat} (hf : ∀ i, i < n → f i < 2 ^ n) (hx : x < 2 ^ n) : itr (fun y => gsF f y n) n x = itr (jst f n) n x := by
  refine sub_anti ?_ ?_
  · have hz := itr_closed hf hx
    have h0 : ∀ k, sub x (itr (jst f n) k x) := by
      intro k
      induction k with
      | zero => exact sub_rf _
      | succ k ih => exact sub_tr ih (sub_l _ _)
    have : ∀ k, sub (itr (fun y => gsF f y n) k x) (itr (jst f n) n x) := by
      intro k
      induction k with
      | zero => exact h0 n
      | succ k ih => exact gsF_up hz ih n (Nat.le_refl _)
    exact this n
  · have : ∀ k, sub (itr (jst f n) k x) (itr (fun y => gsF f y n) k x) := by
      intro k
      induction k with
      | zero => exact sub_rf _
      | succ k ih => exact gsF_jst f n _ _ ih
    exact this n
