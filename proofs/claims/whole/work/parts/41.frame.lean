/-! ===== what a shelf's picture rests on ===== -/
def rsF (f : Nat) : Bool := f == 604 || (f == 605 || (f == 415 || (f == 607 || (f == 416 || (f == 418 || (f == 302 || (f == 606 || f == 417)))))))
/-- heaps alike in what the picture of the shelf s reads -/
def sameS (h h' : Hp) (s : Nat) : Prop := (∀ f a, rsF f = true → hGi h' f a = hGi h f a) ∧ (∀ f a, cFin f = true → hGr h' f a = hGr h f a) ∧
  (∀ i, hAi h' (hGr h 600 (hGr h 400 s)) i = hAi h (hGr h 600 (hGr h 400 s)) i) ∧ (∀ i, hAi h' (hGr h 601 (hGr h 400 s)) i = hAi h (hGr h 601 (hGr h 400 s)) i) ∧ (∀ i, hAi h' (hGr h 602 (hGr h 400 s)) i = hAi h (hGr h 602 (hGr h 400 s)) i) ∧ (∀ i, hAi h' (hGr h 603 (hGr h 400 s)) i = hAi h (hGr h 603 (hGr h 400 s)) i) ∧
  (∀ f i, 406 ≤ f → f ≤ 412 → hAi h' (hGr h f s) i = hAi h (hGr h f s) i) ∧
  (∀ f i, 300 ≤ f → f ≤ 301 → hAi h' (hGr h f (hGr h 401 s)) i = hAi h (hGr h f (hGr h 401 s)) i ∧ hAi h' (hGr h f (hGr h 402 s)) i = hAi h (hGr h f (hGr h 402 s)) i)
theorem RS_same {h h' : Hp} {s : Nat} {c : Nat → Int32} (E : sameS h h' s) (R : RS h s c) : RS h' s c := by
  obtain ⟨e1, e2, a0, a1, a2, a3, ab, al⟩ := E
  have r4 := e2 400 s rfl
  have r5 := e2 401 s rfl
  have r6 := e2 402 s rfl
  refine ⟨?_, ?_, ?_, ?_, ?_⟩
  · unfold RC
    rw [r4, r5, r6, e1 604 _ rfl, e1 605 _ rfl, e1 415 _ rfl, e1 607 _ rfl, e1 416 _ rfl, e1 418 _ rfl, e1 302 _ rfl, e1 302 _ rfl, e1 606 _ rfl, e1 417 _ rfl]
    exact R.1
  · unfold RO
    rw [r4, e2 600 _ rfl, e2 601 _ rfl, e2 602 _ rfl, e2 603 _ rfl]
    simp only [a0, a1, a2, a3]
    exact R.2.1
  · unfold RK
    rw [e2 406 _ rfl, e2 407 _ rfl, e2 408 _ rfl, e2 409 _ rfl, e2 410 _ rfl, e2 411 _ rfl]
    simp only [fun i => ab 406 i (by decide) (by decide), fun i => ab 407 i (by decide) (by decide), fun i => ab 408 i (by decide) (by decide), fun i => ab 409 i (by decide) (by decide), fun i => ab 410 i (by decide) (by decide), fun i => ab 411 i (by decide) (by decide)]
    exact R.2.2.1
  · unfold RH
    rw [e2 412 _ rfl]
    simp only [fun i => ab 412 i (by decide) (by decide)]
    exact R.2.2.2.1
  · unfold RL
    rw [r5, r6, e2 300 _ rfl, e2 301 _ rfl, e2 300 _ rfl, e2 301 _ rfl]
    simp only [fun i => (al 300 i (by decide) (by decide)).1, fun i => (al 301 i (by decide) (by decide)).1, fun i => (al 300 i (by decide) (by decide)).2, fun i => (al 301 i (by decide) (by decide)).2]
    exact R.2.2.2.2
theorem sameS_rf (h : Hp) (s : Nat) : sameS h h s := ⟨fun _ _ _ => rfl, fun _ _ _ => rfl, fun _ => rfl, fun _ => rfl, fun _ => rfl, fun _ => rfl, fun _ _ _ _ => rfl, fun _ _ _ _ => ⟨rfl, rfl⟩⟩
theorem sameS_tr {h h1 h2 : Hp} {s : Nat} (A : sameS h h1 s) (B : sameS h1 h2 s) : sameS h h2 s := by
  obtain ⟨e1, e2, a0, a1, a2, a3, ab, al⟩ := A
  obtain ⟨f1, f2, b0, b1, b2, b3, bb, bl⟩ := B
  have r4 := e2 400 s rfl
  have r5 := e2 401 s rfl
  have r6 := e2 402 s rfl
  refine ⟨fun f a hf => (f1 f a hf).trans (e1 f a hf), fun f a hf => (f2 f a hf).trans (e2 f a hf), fun i => ?_, fun i => ?_, fun i => ?_, fun i => ?_, fun f i l1 l2 => ?_, fun f i l1 l2 => ?_⟩
  · have := b0 i; rw [r4, e2 600 _ rfl] at this; exact this.trans (a0 i)
  · have := b1 i; rw [r4, e2 601 _ rfl] at this; exact this.trans (a1 i)
  · have := b2 i; rw [r4, e2 602 _ rfl] at this; exact this.trans (a2 i)
  · have := b3 i; rw [r4, e2 603 _ rfl] at this; exact this.trans (a3 i)
  · have hf : cFin f = true := by
      simp only [cFin, Bool.not_eq_true', Bool.or_eq_false_iff, beq_eq_false_iff_ne, ne_eq]
      omega
    have := bb f i l1 l2; rw [e2 f _ hf] at this; exact this.trans (ab f i l1 l2)
  · have hf : cFin f = true := by
      simp only [cFin, Bool.not_eq_true', Bool.or_eq_false_iff, beq_eq_false_iff_ne, ne_eq]
      omega
    have := bl f i l1 l2
    rw [r5, r6, e2 f _ hf, e2 f _ hf] at this
    exact ⟨this.1.trans (al f i l1 l2).1, this.2.trans (al f i l1 l2).2⟩
