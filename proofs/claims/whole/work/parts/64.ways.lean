/-! ===== in how many ways all books can have one ===== -/
theorem zcom (a b : Nat) : nI a &&& (nI b ^^^ (-1)) = nI (a &&& (b ^^^ 4294967295)) := by
  rw [show (-1 : Int32) = nI 4294967295 by decide, zxor, zand]
theorem clr_bit : ∀ a : Fin 256, ∀ k : Fin 8, a.val.testBit k.val = true → a.val &&& (2 ^ k.val ^^^ 4294967295) = a.val - 2 ^ k.val := by decide +kernel
theorem com_bit : ∀ g : Fin 256, ∀ k : Fin 8, (255 - g.val).testBit k.val = !g.val.testBit k.val := by decide +kernel
theorem or_bit : ∀ g : Fin 256, ∀ k : Fin 8, g.val.testBit k.val = false → (g.val ||| 2 ^ k.val) = g.val + 2 ^ k.val ∧ pcnt (g.val ||| 2 ^ k.val) = pcnt g.val + 1 ∧ g.val + 2 ^ k.val < 256 := by decide +kernel
theorem free_bit {f g i : Nat} (hi : i < 8) : (f &&& (g ^^^ 4294967295)).testBit i = (f.testBit i && !g.testBit i) := by
  rw [Nat.testBit_and, Nat.testBit_xor, show (4294967295 : Nat) = 2 ^ 32 - 1 from rfl, Nat.testBit_two_pow_sub_one]
  simp [show i < 32 by omega]
def wr (fit : Nat → Nat) (n F : Nat) : Nat → Nat → Nat
  | 0, _ => 1
  | r + 1, left => sm (fun f => if (fit (n - (r + 1)) &&& left).testBit f then wr fit n F r (left - 2 ^ f) else 0) F
theorem sm_diff {f g : Nat → Nat} {j : Nat} : ∀ n, j < n → (∀ i, i < n → i ≠ j → f i = g i) → sm f n + g j = sm g n + f j := by
  intro n
  induction n with
  | zero => intro h; omega
  | succ n ih =>
    intro hj H
    rw [sm, sm]
    by_cases e : j = n
    · subst e
      rw [sm_congr j (fun i hi => H i (by omega) (by omega))]
      omega
    · have := ih (by omega) (fun i hi hne => H i (by omega) hne)
      rw [H n (by omega) (by omega)]
      omega
theorem sm_zero {f : Nat → Nat} : ∀ n, (∀ i, i < n → f i = 0) → sm f n = 0 := by
  intro n
  induction n with
  | zero => intro _; rfl
  | succ n ih => intro H; rw [sm, ih (fun i hi => H i (by omega)), H n (by omega)]
theorem sm_mul {f : Nat → Nat} (a : Nat) : ∀ n, sm (fun i => a * f i) n = a * sm f n := by
  intro n
  induction n with
  | zero => rfl
  | succ n ih => rw [sm, sm, ih, Nat.mul_add]
theorem sm_ge {f : Nat → Nat} : ∀ n i, i < n → f i ≤ sm f n := by
  intro n
  induction n with
  | zero => intro i h; omega
  | succ n ih =>
    intro i hi
    rw [sm]
    by_cases e : i = n
    · subst e; omega
    · have := ih i (by omega); omega
def updN (f : Nat → Nat) (k v : Nat) : Nat → Nat := fun j => if j = k then v else f j
def gOut (A : Nat → Nat) (gv free : Nat) : Nat → Nat → Nat
  | 0 => A
  | f + 1 => if free.testBit f then updN (gOut A gv free f) (gv ||| 2 ^ f) (gOut A gv free f (gv ||| 2 ^ f) + A gv) else gOut A gv free f
theorem gOut_sum {A ρ : Nat → Nat} {gv free N : Nat} : ∀ F, (∀ f, f < F → free.testBit f = true → gv ||| 2 ^ f < N) → sm (fun g => gOut A gv free F g * ρ g) N = sm (fun g => A g * ρ g) N + A gv * sm (fun f => if free.testBit f then ρ (gv ||| 2 ^ f) else 0) F := by
  intro F
  induction F with
  | zero => intro _; rfl
  | succ F ih =>
    intro H
    have ih' := ih (fun f hf => H f (by omega))
    by_cases q : free.testBit F = true
    · have hlt := H F (by omega) q
      have d := sm_diff (f := fun g => gOut A gv free (F + 1) g * ρ g) (g := fun g => gOut A gv free F g * ρ g) N hlt (fun i _ hne => by
        show gOut A gv free (F + 1) i * ρ i = _
        rw [gOut, if_pos q, updN, if_neg hne])
      have e1 : gOut A gv free (F + 1) (gv ||| 2 ^ F) = gOut A gv free F (gv ||| 2 ^ F) + A gv := by rw [gOut, if_pos q, updN, if_pos rfl]
      rw [e1, Nat.add_mul] at d
      rw [sm, if_pos q, Nat.mul_add]
      omega
    · have e1 : gOut A gv free (F + 1) = gOut A gv free F := by rw [gOut, if_neg q]
      rw [e1, ih', sm, if_neg q, Nat.add_zero]
theorem gOut_other {A : Nat → Nat} {gv free i : Nat} : ∀ F, (∀ f, f < F → free.testBit f = true → i ≠ gv ||| 2 ^ f) → gOut A gv free F i = A i := by
  intro F
  induction F with
  | zero => intro _; rfl
  | succ F ih =>
    intro H
    rw [gOut]
    by_cases q : free.testBit F = true
    · rw [if_pos q, updN, if_neg (H F (by omega) q)]
      exact ih (fun f hf => H f (by omega))
    · rw [if_neg q]
      exact ih (fun f hf => H f (by omega))
def co (k cur : Nat) (r1 r2 : Nat → Nat) (g : Nat) : Nat := if pcnt g = k then (if cur ≤ g then r1 g else 0) else if pcnt g = k + 1 then r2 g else 0
/-- what holds within a round -/
def JW (fit : Nat → Nat) (n F k cur : Nat) (A : Nat → Nat) : Prop := (∀ g, g < 2 ^ F → k + 1 < pcnt g → A g = 0) ∧ sm (fun g => A g * co k cur (fun _ => 8) (fun _ => 1) g) (2 ^ F) ≤ 8 ^ (k + 1) ∧
  sm (fun g => A g * co k cur (fun g => wr fit n F (n - k) (255 - g)) (fun g => wr fit n F (n - (k + 1)) (255 - g)) g) (2 ^ F) = wr fit n F n 255
theorem co_next {k cur : Nat} {r1 r2 A : Nat → Nat} {N : Nat} (hc : cur < N) (hk : pcnt cur = k) : sm (fun g => A g * co k cur r1 r2 g) N = sm (fun g => A g * co k (cur + 1) r1 r2 g) N + A cur * r1 cur := by
  have d := sm_diff (f := fun g => A g * co k cur r1 r2 g) (g := fun g => A g * co k (cur + 1) r1 r2 g) N hc (fun i _ hne => by
    have : co k cur r1 r2 i = co k (cur + 1) r1 r2 i := by
      unfold co
      by_cases q : cur ≤ i
      · rw [if_pos q, if_pos (show cur + 1 ≤ i by omega)]
      · rw [if_neg q, if_neg (show ¬ cur + 1 ≤ i by omega)]
    simp only [this])
  have e1 : co k cur r1 r2 cur = r1 cur := by unfold co; rw [if_pos hk, if_pos (Nat.le_refl _)]
  have e2 : co k (cur + 1) r1 r2 cur = 0 := by unfold co; rw [if_pos hk, if_neg (by omega)]
  rw [e1, e2, Nat.mul_zero, Nat.add_zero] at d
  exact d
theorem co_skip {k cur : Nat} {r1 r2 A : Nat → Nat} {N : Nat} (hk : pcnt cur ≠ k) : sm (fun g => A g * co k cur r1 r2 g) N = sm (fun g => A g * co k (cur + 1) r1 r2 g) N := by
  refine sm_congr N (fun i _ => ?_)
  have : co k cur r1 r2 i = co k (cur + 1) r1 r2 i := by
    unfold co
    by_cases e : i = cur
    · subst e; rw [if_neg hk, if_neg hk]
    · by_cases q : cur ≤ i
      · rw [if_pos q, if_pos (show cur + 1 ≤ i by omega)]
      · rw [if_neg q, if_neg (show ¬ cur + 1 ≤ i by omega)]
  rw [this]
theorem JW_skip {fit : Nat → Nat} {n F k cur : Nat} {A : Nat → Nat} (hk : pcnt cur ≠ k) (J : JW fit n F k cur A) : JW fit n F k (cur + 1) A :=
  ⟨J.1, by rw [← co_skip hk]; exact J.2.1, by rw [← co_skip hk]; exact J.2.2⟩
theorem JW_zero {fit : Nat → Nat} {n F k cur : Nat} {A : Nat → Nat} (hc : cur < 2 ^ F) (hk : pcnt cur = k) (h0 : A cur = 0) (J : JW fit n F k cur A) : JW fit n F k (cur + 1) A := by
  refine ⟨J.1, ?_, ?_⟩
  · have := J.2.1
    rw [co_next hc hk, h0, Nat.zero_mul, Nat.add_zero] at this
    exact this
  · have := J.2.2
    rw [co_next hc hk, h0, Nat.zero_mul, Nat.add_zero] at this
    exact this
theorem JW_give {fit : Nat → Nat} {n F k cur : Nat} {A : Nat → Nat} (hF : F ≤ 8) (hkn : k < n) (hc : cur < 2 ^ F) (hk : pcnt cur = k) (J : JW fit n F k cur A) : JW fit n F k (cur + 1) (gOut A cur (fit k &&& (cur ^^^ 4294967295)) F) := by
  have hF2 : 2 ^ F ≤ 256 := pow_le8 (by omega)
  have fb : ∀ f, f < F → (fit k &&& (cur ^^^ 4294967295)).testBit f = true → cur.testBit f = false ∧ (fit k).testBit f = true := by
    intro f hf h
    rw [free_bit (by omega), Bool.and_eq_true, Bool.not_eq_true'] at h
    exact ⟨h.2, h.1⟩
  have ob : ∀ f, f < F → (fit k &&& (cur ^^^ 4294967295)).testBit f = true → (cur ||| 2 ^ f) = cur + 2 ^ f ∧ pcnt (cur ||| 2 ^ f) = k + 1 ∧ cur ||| 2 ^ f < 2 ^ F := by
    intro f hf h
    have := or_bit ⟨cur, by omega⟩ ⟨f, by omega⟩ (fb f hf h).1
    simp only at this
    exact ⟨this.1, by rw [this.2.1, hk], Nat.or_lt_two_pow hc (Nat.pow_lt_pow_right (by decide) hf)⟩
  have cs : ∀ (r1 r2 : Nat → Nat) f, f < F → (fit k &&& (cur ^^^ 4294967295)).testBit f = true → co k (cur + 1) r1 r2 (cur ||| 2 ^ f) = r2 (cur ||| 2 ^ f) := by
    intro r1 r2 f hf h
    have := (ob f hf h).2.1
    unfold co
    rw [if_neg (by omega), if_pos this]
  have gs := fun (r1 r2 : Nat → Nat) => gOut_sum (A := A) (ρ := co k (cur + 1) r1 r2) (gv := cur) (free := fit k &&& (cur ^^^ 4294967295)) (N := 2 ^ F) F (fun f hf h => (ob f hf h).2.2)
  refine ⟨fun g hg h => ?_, ?_, ?_⟩
  · rw [gOut_other F (fun f hf hq e => by have := (ob f hf hq).2.1; rw [← e] at this; omega)]
    exact J.1 g hg h
  · rw [gs]
    have h1 := J.2.1
    rw [co_next hc hk] at h1
    have h2 : sm (fun f => if (fit k &&& (cur ^^^ 4294967295)).testBit f = true then co k (cur + 1) (fun _ => 8) (fun _ => 1) (cur ||| 2 ^ f) else 0) F ≤ F * 1 := sm_le F (fun f hf => by
      by_cases q : (fit k &&& (cur ^^^ 4294967295)).testBit f = true
      · rw [if_pos q, cs _ _ f hf q]; exact Nat.le_refl _
      · rw [if_neg q]; omega)
    have h3 := Nat.mul_le_mul_left (A cur) (show sm (fun f => if (fit k &&& (cur ^^^ 4294967295)).testBit f = true then co k (cur + 1) (fun _ => 8) (fun _ => 1) (cur ||| 2 ^ f) else 0) F ≤ 8 by omega)
    omega
  · rw [gs]
    have h1 := J.2.2
    rw [co_next hc hk] at h1
    rw [← h1]
    congr 2
    rw [show n - k = (n - (k + 1)) + 1 by omega, wr, show n - (n - (k + 1) + 1) = k by omega]
    refine sm_congr F (fun f hf => ?_)
    have eqb : (fit k &&& (255 - cur)).testBit f = (fit k &&& (cur ^^^ 4294967295)).testBit f := by
      rw [free_bit (by omega), Nat.testBit_and]
      have := com_bit ⟨cur, by omega⟩ ⟨f, by omega⟩
      simp only at this
      rw [this]
    rw [eqb]
    by_cases q : (fit k &&& (cur ^^^ 4294967295)).testBit f = true
    · rw [if_pos q, if_pos q, cs _ _ f hf q, (ob f hf q).1]
      congr 1
      omega
    · rw [if_neg q, if_neg q]
theorem JW_round {fit : Nat → Nat} {n F k : Nat} {A : Nat → Nat} (J : JW fit n F k (2 ^ F) A) : JW fit n F (k + 1) 0 A := by
  have e : ∀ (r1 r2 r3 : Nat → Nat) g, g < 2 ^ F → A g * co (k + 1) 0 r2 r3 g = A g * co k (2 ^ F) r1 r2 g := by
    intro r1 r2 r3 g hg
    unfold co
    by_cases h1 : pcnt g = k + 1
    · rw [if_pos h1, if_pos (by omega), if_neg (by omega), if_pos h1]
    · rw [if_neg h1]
      by_cases h2 : pcnt g = k + 1 + 1
      · rw [J.1 g hg (by omega)]; simp
      · rw [if_neg h2]
        by_cases h3 : pcnt g = k
        · rw [if_pos h3, if_neg (by omega)]
        · rw [if_neg h3, if_neg h1]
  refine ⟨fun g hg h => J.1 g hg (by omega), ?_, ?_⟩
  · have h1 := J.2.1
    have h2 : sm (fun g => A g * co (k + 1) 0 (fun _ => 8) (fun _ => 1) g) (2 ^ F) = 8 * sm (fun g => A g * co k (2 ^ F) (fun _ => 8) (fun _ => 1) g) (2 ^ F) := by
      rw [← sm_mul]
      refine sm_congr _ (fun g hg => ?_)
      rw [← e (fun _ => 8) (fun _ => 1) (fun _ => 1) g hg]
      unfold co
      by_cases q1 : pcnt g = k + 1
      · rw [if_pos q1, if_pos (by omega), if_pos q1, if_pos (by omega)]
        show A g * 8 = 8 * (A g * 1)
        omega
      · rw [if_neg q1, if_neg q1]
        by_cases q2 : pcnt g = k + 1 + 1
        · rw [J.1 g hg (by omega)]; simp
        · rw [if_neg q2]; simp
    rw [h2, Nat.pow_succ]
    omega
  · rw [sm_congr _ (fun g hg => e (fun g => wr fit n F (n - k) (255 - g)) (fun g => wr fit n F (n - (k + 1)) (255 - g)) (fun g => wr fit n F (n - (k + 1 + 1)) (255 - g)) g hg)]
    exact J.2.2
theorem JW_start {fit : Nat → Nat} {n F : Nat} {A : Nat → Nat} (h0 : A 0 = 1) (hA : ∀ g, g < 2 ^ F → g ≠ 0 → A g = 0) : JW fit n F 0 0 A := by
  have s : ∀ ρ : Nat → Nat, sm (fun g => A g * ρ g) (2 ^ F) = ρ 0 := by
    intro ρ
    have d := sm_diff (f := fun g => A g * ρ g) (g := fun _ => 0) (j := 0) (2 ^ F) (Nat.two_pow_pos F) (fun i hi hne => by simp only [hA i hi hne, Nat.zero_mul])
    rw [sm_zero _ (fun _ _ => rfl)] at d
    rw [h0] at d
    omega
  have p0 : pcnt 0 = 0 := by decide
  refine ⟨fun g hg h => hA g hg (fun z => by subst z; omega), ?_, ?_⟩
  · rw [s]; unfold co; rw [if_pos p0, if_pos (Nat.le_refl _)]; decide
  · rw [s]; unfold co; rw [if_pos p0, if_pos (Nat.le_refl _)]; rfl
theorem JW_end {fit : Nat → Nat} {n F : Nat} {A : Nat → Nat} (J : JW fit n F n 0 A) : sm (fun g => if pcnt g = n then A g else 0) (2 ^ F) = wr fit n F n 255 ∨ ∃ g, g < 2 ^ F ∧ pcnt g = n + 1 ∧ A g ≠ 0 := by
  by_cases h : ∃ g, g < 2 ^ F ∧ pcnt g = n + 1 ∧ A g ≠ 0
  · exact Or.inr h
  · left
    rw [← J.2.2]
    refine sm_congr _ (fun g hg => ?_)
    unfold co
    by_cases q : pcnt g = n
    · rw [if_pos q, if_pos q, if_pos (Nat.zero_le _)]
      show A g = A g * wr fit n F (n - n) (255 - g)
      rw [Nat.sub_self]
      exact (Nat.mul_one _).symm
    · rw [if_neg q, if_neg q]
      by_cases q2 : pcnt g = n + 1
      · have : A g = 0 := Classical.byContradiction (fun z => h ⟨g, hg, q2, z⟩)
        rw [this]; simp
      · rw [if_neg q2]; simp
theorem JW_le {fit : Nat → Nat} {n F k cur : Nat} {A : Nat → Nat} (J : JW fit n F k cur A) {g : Nat} (hg : g < 2 ^ F) (hk : pcnt g = k) (hc : cur ≤ g) : A g * 8 ≤ 8 ^ (k + 1) := by
  have := sm_ge (f := fun g => A g * co k cur (fun _ => 8) (fun _ => 1) g) (2 ^ F) g hg
  rw [show co k cur (fun _ => 8) (fun _ => 1) g = 8 by unfold co; rw [if_pos hk, if_pos hc]] at this
  exact Nat.le_trans this J.2.1
