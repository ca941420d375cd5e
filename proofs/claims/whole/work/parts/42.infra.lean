/-! ===== loops, folds, frames ===== -/
theorem upl {σ R : Type} {Q : Option R → Prop} (f : Nat → Nat → σ → Option R) (n : Nat) (I : Nat → σ → Prop)
    (step : ∀ F i s, i < n → I i s → Q (f (F + 1) i s) ∨ ∃ s', f (F + 1) i s = f F (i + 1) s' ∧ I (i + 1) s')
    (fin : ∀ F s, I n s → Q (f (F + 1) n s)) : ∀ (k i : Nat) (s : σ) (F : Nat), n = i + k → k < F → I i s → Q (f F i s) := by
  intro k
  induction k with
  | zero =>
    intro i s F hk hF hI
    obtain ⟨F, rfl⟩ : ∃ F', F = F' + 1 := ⟨F - 1, by omega⟩
    have : i = n := by omega
    subst this
    exact fin F s hI
  | succ k ih =>
    intro i s F hk hF hI
    obtain ⟨F, rfl⟩ : ∃ F', F = F' + 1 := ⟨F - 1, by omega⟩
    rcases step F i s (by omega) hI with q | ⟨s', e, hI'⟩
    · exact q
    · rw [e]
      exact ih (i + 1) s' F (by omega) (by omega) hI'
/-- a loop that counts down: the rounds left -/
theorem dnl {σ R : Type} {Q : Option R → Prop} (f : Nat → Nat → σ → Option R) (I : Nat → σ → Prop)
    (step : ∀ F i s, I (i + 1) s → Q (f (F + 1) (i + 1) s) ∨ ∃ s', f (F + 1) (i + 1) s = f F i s' ∧ I i s')
    (fin : ∀ F s, I 0 s → Q (f (F + 1) 0 s)) : ∀ (i : Nat) (s : σ) (F : Nat), i < F → I i s → Q (f F i s) := by
  intro i
  induction i with
  | zero =>
    intro s F hF hI
    obtain ⟨F, rfl⟩ : ∃ F', F = F' + 1 := ⟨F - 1, by omega⟩
    exact fin F s hI
  | succ i ih =>
    intro s F hF hI
    obtain ⟨F, rfl⟩ : ∃ F', F = F' + 1 := ⟨F - 1, by omega⟩
    rcases step F i s hI with q | ⟨s', e, hI'⟩
    · exact q
    · rw [e]
      exact ih s' F (by omega) hI'
/-- places that go down to -1 -/
def dn : Nat → Int32
  | 0 => m1
  | k + 1 => nI k
theorem dn_s (k : Nat) : nI k + m1 = dn k := by
  cases k with
  | zero => decide
  | succ k => exact add_m1 k
theorem dn_sub (k : Nat) : nI k - nI 1 = dn k := by
  cases k with
  | zero => decide
  | succ k => exact nI_pred k
/-- the set of those below n with p -/
def mk (p : Nat → Bool) : Nat → Nat
  | 0 => 0
  | n + 1 => mk p n ||| (if p n then 2 ^ n else 0)
theorem mk_bit (p : Nat → Bool) : ∀ n i, (mk p n).testBit i = (decide (i < n) && p i) := by
  intro n
  induction n with
  | zero => intro i; simp [mk]
  | succ n ih =>
    intro i
    rw [mk, Nat.testBit_or, ih]
    by_cases e : i = n
    · subst e
      by_cases q : p i = true
      · simp [q]
      · simp [q]
    · have e1 : (if p n = true then 2 ^ n else 0).testBit i = false := by
        split
        · rw [Nat.testBit_two_pow]; simp; omega
        · simp
      rw [e1]
      by_cases q : i < n
      · simp [q, show i < n + 1 by omega]
      · simp [q, show ¬ i < n + 1 by omega]
theorem mk_lt (p : Nat → Bool) : ∀ n, mk p n < 2 ^ n := by
  intro n
  induction n with
  | zero => simp [mk]
  | succ n ih =>
    rw [mk]
    apply Nat.or_lt_two_pow
    · rw [Nat.pow_succ]; omega
    · split
      · rw [Nat.pow_succ]; have := Nat.two_pow_pos n; omega
      · exact Nat.two_pow_pos _
theorem mk_congr {p q : Nat → Bool} : ∀ n, (∀ i, i < n → p i = q i) → mk p n = mk q n := by
  intro n
  induction n with
  | zero => intro _; rfl
  | succ n ih =>
    intro H
    rw [mk, mk, ih (fun i hi => H i (by omega)), H n (by omega)]
theorem pow_le8 {k : Nat} (h : k < 9) : 2 ^ k ≤ 256 := Nat.le_trans (Nat.pow_le_pow_right (by decide) (by omega)) (by decide : 2 ^ 8 ≤ 256)
theorem pow_le6 {k : Nat} (h : k < 7) : 2 ^ k ≤ 64 := Nat.le_trans (Nat.pow_le_pow_right (by decide) (by omega)) (by decide : 2 ^ 6 ≤ 64)
theorem mk_lt8 (p : Nat → Bool) {n : Nat} (h : n < 9) : mk p n < 256 := Nat.lt_of_lt_of_le (mk_lt p n) (pow_le8 h)
/-- sums -/
def sm (f : Nat → Nat) : Nat → Nat
  | 0 => 0
  | n + 1 => sm f n + f n
theorem sm_le {f : Nat → Nat} {m : Nat} : ∀ n, (∀ i, i < n → f i ≤ m) → sm f n ≤ n * m := by
  intro n
  induction n with
  | zero => intro _; simp [sm]
  | succ n ih =>
    intro H
    have h1 := ih (fun i hi => H i (by omega))
    have h2 := H n (by omega)
    rw [sm, Nat.succ_mul]
    omega
theorem sm_congr {f g : Nat → Nat} : ∀ n, (∀ i, i < n → f i = g i) → sm f n = sm g n := by
  intro n
  induction n with
  | zero => intro _; rfl
  | succ n ih =>
    intro H
    rw [sm, sm, ih (fun i hi => H i (by omega)), H n (by omega)]
/-- the latest one kept -/
def scan (q : Nat → Option Nat → Bool) (o : Option Nat) : Nat → Option Nat
  | 0 => o
  | n + 1 => if q n (scan q o n) then some n else scan q o n
theorem scan_congr {q r : Nat → Option Nat → Bool} {o : Option Nat} : ∀ n, (∀ i, i < n → q i (scan q o i) = r i (scan q o i)) → scan q o n = scan r o n := by
  intro n
  induction n with
  | zero => intro _; rfl
  | succ n ih =>
    intro H
    have h1 := ih (fun i hi => H i (by omega))
    rw [scan, scan, H n (by omega), h1]
def on : Option Nat → Int32
  | none => m1
  | some k => nI k
theorem scan_lt {q : Nat → Option Nat → Bool} {o : Option Nat} {M : Nat} (ho : ∀ k, o = some k → k < M) : ∀ n, n ≤ M → ∀ k, scan q o n = some k → k < M := by
  intro n
  induction n with
  | zero => intro _ k hk; exact ho k hk
  | succ n ih =>
    intro hn k hk
    rw [scan] at hk
    split at hk
    · cases hk; omega
    · exact ih (by omega) k hk
/-- scratch rows of the class: those of Endings (below 100), Fitting (below 200), Life (below 300) -/
def scrA (Y : Ly) (n : Nat) (h : Hp) (A : Nat) : Prop := ∃ f o, f < n ∧ cArr f = true ∧ isO Y (f / 100) o ∧ A = hGr h f o
def Qf (Y : Ly) (n : Nat) (h h' : Hp) : Prop := (∀ f a, n ≤ f → hGi h' f a = hGi h f a) ∧ (∀ f a, hGl h' f a = hGl h f a) ∧ (∀ f a, f ≠ 5 → hGr h' f a = hGr h f a) ∧
  (∀ A i, ¬ scrA Y n h A → hAi h' A i = hAi h A i ∧ hAl h' A i = hAl h A i) ∧ (∀ A i, hAr h' A i = hAr h A i) ∧ (Ty Y h → Ty Y h')
theorem scrA_eq {Y : Ly} {n : Nat} {h h' : Hp} (e : ∀ f a, f ≠ 5 → hGr h' f a = hGr h f a) (A : Nat) : scrA Y n h' A = scrA Y n h A := by
  apply propext
  constructor
  · rintro ⟨f, o, h1, h2, h3, h4⟩
    refine ⟨f, o, h1, h2, h3, ?_⟩
    rw [h4, e]
    intro q; subst q; revert h2; decide
  · rintro ⟨f, o, h1, h2, h3, h4⟩
    refine ⟨f, o, h1, h2, h3, ?_⟩
    rw [h4, e]
    intro q; subst q; revert h2; decide
theorem Qf_rf (Y : Ly) (n : Nat) (h : Hp) : Qf Y n h h := ⟨fun _ _ _ => rfl, fun _ _ => rfl, fun _ _ _ => rfl, fun _ _ _ => ⟨rfl, rfl⟩, fun _ _ => rfl, fun t => t⟩
theorem Qf_mono {Y : Ly} {n m : Nat} {h h1 : Hp} (A : Qf Y n h h1) (l : n ≤ m) : Qf Y m h h1 :=
  ⟨fun f a hf => A.1 f a (by omega), A.2.1, A.2.2.1, fun B i hn => A.2.2.2.1 B i (fun ⟨f, o, h1, h2⟩ => hn ⟨f, o, by omega, h2⟩), A.2.2.2.2.1, A.2.2.2.2.2⟩
theorem Qf_tr {Y : Ly} {n : Nat} {h h1 h2 : Hp} (A : Qf Y n h h1) (B : Qf Y n h1 h2) : Qf Y n h h2 := by
  refine ⟨fun f a hf => (B.1 f a hf).trans (A.1 f a hf), fun f a => (B.2.1 f a).trans (A.2.1 f a), fun f a hf => (B.2.2.1 f a hf).trans (A.2.2.1 f a hf), fun a i hn => ?_, fun a i => (B.2.2.2.2.1 a i).trans (A.2.2.2.2.1 a i), fun t => B.2.2.2.2.2 (A.2.2.2.2.2 t)⟩
  have h1' := A.2.2.2.1 a i hn
  have h2' := B.2.2.2.1 a i (by rw [scrA_eq A.2.2.1]; exact hn)
  exact ⟨h2'.1.trans h1'.1, h2'.2.trans h1'.2⟩
theorem Qf_wi {Y : Ly} {n : Nat} {h : Hp} {f o : Nat} {g : Nat → Int32} (hf : f < n) (hc : cArr f = true) (ho : isO Y (f / 100) o) : Qf Y n h (hWi h (hGr h f o) g) := by
  refine ⟨fun _ _ _ => rfl, fun _ _ => rfl, fun _ _ _ => rfl, fun A i hn => ⟨?_, rfl⟩, fun _ _ => rfl, fun t => t⟩
  rw [ai_wi, if_neg]
  intro q
  exact hn ⟨f, o, hf, hc, ho, q⟩
theorem Qf_wl {Y : Ly} {n : Nat} {h : Hp} {f o : Nat} {g : Nat → Int64} (hf : f < n) (hc : cArr f = true) (ho : isO Y (f / 100) o) : Qf Y n h (hWl h (hGr h f o) g) := by
  refine ⟨fun _ _ _ => rfl, fun _ _ => rfl, fun _ _ _ => rfl, fun A i hn => ⟨rfl, ?_⟩, fun _ _ => rfl, fun t => t⟩
  rw [al_wl, if_neg]
  intro q
  exact hn ⟨f, o, hf, hc, ho, q⟩
theorem zk_lt {f : Nat} (hf : f < 300) : zk f = false := by
  by_cases h : zk f = true
  · exfalso
    unfold zk at h
    split at h <;> first | omega | (exact absurd h (by decide))
  · simpa using h
theorem Qf_si {Y : Ly} {n : Nat} {h : Hp} {f o : Nat} {v : Int32} (hf : f < n) (hn : n ≤ 300 := by decide) : Qf Y n h (hSi h f o v) := by
  refine ⟨fun g a hg => ?_, fun _ _ => rfl, fun _ _ _ => rfl, fun A i hn => ⟨rfl, rfl⟩, fun _ _ => rfl, fun t => Ty_si t (Or.inl (zk_lt (by omega)))⟩
  rw [gi_si, if_neg (by omega)]
theorem Qf_s5 {Y : Ly} {n : Nat} {h : Hp} {o v : Nat} (hv : Ty Y h → isO Y 6 v) : Qf Y n h (hSr h 5 o v) := by
  refine ⟨fun _ _ _ => rfl, fun _ _ => rfl, fun f a hf => ?_, fun A i hn => ⟨rfl, rfl⟩, fun _ _ => rfl, fun t => Ty_sr t (kt := 6) rfl (hv t)⟩
  rw [gr_sr, if_neg (by omega)]
theorem cArr_fin {f : Nat} (hf : cArr f = true) : f ≠ 5 ∧ cFin f = true := by
  simp only [cArr, Bool.or_eq_true, beq_iff_eq, bne_iff_ne, ne_eq] at hf
  simp only [cFin, Bool.not_eq_true', Bool.or_eq_false_iff, beq_eq_false_iff_ne, ne_eq]
  refine ⟨?_, ?_, ?_, ?_, ?_, ?_⟩ <;> (intro q; subst q; revert hf; decide)
theorem CS_Q {Y : Ly} {n : Nat} {h h' : Hp} {x : Nat} (H : CS Y h x) (q : Qf Y n h h') : CS Y h' x :=
  CS_congr H (fun f a hf => q.2.2.1 f a (by intro e; subst e; revert hf; decide))
/-- a row that isn't scratch -/
theorem nscr {Y : Ly} {n : Nat} {h : Hp} {x f o : Nat} (H : CS Y h x) (hf : n ≤ f) (hc : cArr f = true) (ho : isO Y (f / 100) o) : ¬ scrA Y n h (hGr h f o) := by
  rintro ⟨g, p, h1, h2, h3, h4⟩
  have := (H.2.2.2.1 f g o p hc h2 ho h3 h4).1
  omega
theorem Qf_ai {Y : Ly} {n : Nat} {h h' : Hp} {x f o : Nat} (q : Qf Y n h h') (H : CS Y h x) (hf : n ≤ f) (hc : cArr f = true) (ho : isO Y (f / 100) o) (i : Nat) : hAi h' (hGr h f o) i = hAi h (hGr h f o) i := (q.2.2.2.1 _ i (nscr H hf hc ho)).1
theorem Qf_al {Y : Ly} {n : Nat} {h h' : Hp} {x f o : Nat} (q : Qf Y n h h') (H : CS Y h x) (hf : n ≤ f) (hc : cArr f = true) (ho : isO Y (f / 100) o) (i : Nat) : hAl h' (hGr h f o) i = hAl h (hGr h f o) i := (q.2.2.2.1 _ i (nscr H hf hc ho)).2
theorem cFin_5 {f : Nat} (h : cFin f = true) : f ≠ 5 := by intro e; subst e; revert h; decide
theorem sameS_Q {Y : Ly} {n : Nat} {h h' : Hp} {x s : Nat} (H : CS Y h x) (T : Ty Y h) (hs : isO Y 4 s) (q : Qf Y n h h') (hn : n ≤ 300) : sameS h h' s := by
  have o6 := T.1 400 6 rfl s hs
  have o1 := T.1 401 3 rfl s hs
  have o2 := T.1 402 3 rfl s hs
  have go : ∀ f o, 300 ≤ f → cArr f = true → isO Y (f / 100) o → ∀ i, hAi h' (hGr h f o) i = hAi h (hGr h f o) i := fun f o h1 h2 h3 i => Qf_ai q H (by omega) h2 h3 i
  refine ⟨fun f a hf => ?_, fun f a hf => q.2.2.1 f a (cFin_5 hf), go 600 _ (by decide) rfl o6, go 601 _ (by decide) rfl o6, go 602 _ (by decide) rfl o6, go 603 _ (by decide) rfl o6, fun f i l1 l2 => ?_, fun f i l1 l2 => ?_⟩
  · refine q.1 f a ?_
    simp only [rsF, Bool.or_eq_true, beq_iff_eq] at hf
    omega
  · refine go f s (by omega) ?_ (by rw [show f / 100 = 4 by omega]; exact hs) i
    rcases (show f = 406 ∨ f = 407 ∨ f = 408 ∨ f = 409 ∨ f = 410 ∨ f = 411 ∨ f = 412 by omega) with e | e | e | e | e | e | e <;> (subst e; rfl)
  · rcases (show f = 300 ∨ f = 301 by omega) with e | e <;> subst e
    · exact ⟨go 300 _ (by decide) rfl o1 i, go 300 _ (by decide) rfl o2 i⟩
    · exact ⟨go 301 _ (by decide) rfl o1 i, go 301 _ (by decide) rfl o2 i⟩
theorem RS_Q {Y : Ly} {n : Nat} {h h' : Hp} {x s : Nat} {c : Nat → Int32} (H : CS Y h x) (T : Ty Y h) (hs : isO Y 4 s) (q : Qf Y n h h') (hn : n ≤ 300) (R : RS h s c) : RS h' s c := RS_same (sameS_Q H T hs q hn) R
