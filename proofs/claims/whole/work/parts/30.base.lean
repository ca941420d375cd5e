theorem gi_si (h : Hp) (f a : Nat) (v : Int32) (x y : Nat) : hGi (hSi h f a v) x y = if x = f ∧ y = a then v else hGi h x y := rfl
theorem gi_sl (h : Hp) (f a : Nat) (v : Int64) (x y : Nat) : hGi (hSl h f a v) x y = hGi h x y := rfl
theorem gi_sr (h : Hp) (f a v : Nat) (x y : Nat) : hGi (hSr h f a v) x y = hGi h x y := rfl
theorem gi_ti (h : Hp) (f a : Nat) (v : Int32) (x y : Nat) : hGi (hTi h f a v) x y = hGi h x y := rfl
theorem gi_tl (h : Hp) (f a : Nat) (v : Int64) (x y : Nat) : hGi (hTl h f a v) x y = hGi h x y := rfl
theorem gi_tr (h : Hp) (f a v : Nat) (x y : Nat) : hGi (hTr h f a v) x y = hGi h x y := rfl
theorem gi_ci (h : Hp) (a0 sp a dp k : Nat) (x y : Nat) : hGi (hCi h a0 sp a dp k) x y = hGi h x y := rfl
theorem gi_cl (h : Hp) (a0 sp a dp k : Nat) (x y : Nat) : hGi (hCl h a0 sp a dp k) x y = hGi h x y := rfl
theorem gl_si (h : Hp) (f a : Nat) (v : Int32) (x y : Nat) : hGl (hSi h f a v) x y = hGl h x y := rfl
theorem gl_sl (h : Hp) (f a : Nat) (v : Int64) (x y : Nat) : hGl (hSl h f a v) x y = if x = f ∧ y = a then v else hGl h x y := rfl
theorem gl_sr (h : Hp) (f a v : Nat) (x y : Nat) : hGl (hSr h f a v) x y = hGl h x y := rfl
theorem gl_ti (h : Hp) (f a : Nat) (v : Int32) (x y : Nat) : hGl (hTi h f a v) x y = hGl h x y := rfl
theorem gl_tl (h : Hp) (f a : Nat) (v : Int64) (x y : Nat) : hGl (hTl h f a v) x y = hGl h x y := rfl
theorem gl_tr (h : Hp) (f a v : Nat) (x y : Nat) : hGl (hTr h f a v) x y = hGl h x y := rfl
theorem gl_ci (h : Hp) (a0 sp a dp k : Nat) (x y : Nat) : hGl (hCi h a0 sp a dp k) x y = hGl h x y := rfl
theorem gl_cl (h : Hp) (a0 sp a dp k : Nat) (x y : Nat) : hGl (hCl h a0 sp a dp k) x y = hGl h x y := rfl
theorem gr_si (h : Hp) (f a : Nat) (v : Int32) (x y : Nat) : hGr (hSi h f a v) x y = hGr h x y := rfl
theorem gr_sl (h : Hp) (f a : Nat) (v : Int64) (x y : Nat) : hGr (hSl h f a v) x y = hGr h x y := rfl
theorem gr_sr (h : Hp) (f a v : Nat) (x y : Nat) : hGr (hSr h f a v) x y = if x = f ∧ y = a then v else hGr h x y := rfl
theorem gr_ti (h : Hp) (f a : Nat) (v : Int32) (x y : Nat) : hGr (hTi h f a v) x y = hGr h x y := rfl
theorem gr_tl (h : Hp) (f a : Nat) (v : Int64) (x y : Nat) : hGr (hTl h f a v) x y = hGr h x y := rfl
theorem gr_tr (h : Hp) (f a v : Nat) (x y : Nat) : hGr (hTr h f a v) x y = hGr h x y := rfl
theorem gr_ci (h : Hp) (a0 sp a dp k : Nat) (x y : Nat) : hGr (hCi h a0 sp a dp k) x y = hGr h x y := rfl
theorem gr_cl (h : Hp) (a0 sp a dp k : Nat) (x y : Nat) : hGr (hCl h a0 sp a dp k) x y = hGr h x y := rfl
theorem ai_si (h : Hp) (f a : Nat) (v : Int32) (x y : Nat) : hAi (hSi h f a v) x y = hAi h x y := rfl
theorem ai_sl (h : Hp) (f a : Nat) (v : Int64) (x y : Nat) : hAi (hSl h f a v) x y = hAi h x y := rfl
theorem ai_sr (h : Hp) (f a v : Nat) (x y : Nat) : hAi (hSr h f a v) x y = hAi h x y := rfl
theorem ai_ti (h : Hp) (f a : Nat) (v : Int32) (x y : Nat) : hAi (hTi h f a v) x y = if x = f ∧ y = a then v else hAi h x y := rfl
theorem ai_tl (h : Hp) (f a : Nat) (v : Int64) (x y : Nat) : hAi (hTl h f a v) x y = hAi h x y := rfl
theorem ai_tr (h : Hp) (f a v : Nat) (x y : Nat) : hAi (hTr h f a v) x y = hAi h x y := rfl
theorem ai_ci (h : Hp) (a0 sp a dp k : Nat) (x y : Nat) : hAi (hCi h a0 sp a dp k) x y = if x = a then va_cpy (hAi h a0) (hAi h a) sp dp k y else hAi h x y := rfl
theorem ai_cl (h : Hp) (a0 sp a dp k : Nat) (x y : Nat) : hAi (hCl h a0 sp a dp k) x y = hAi h x y := rfl
theorem al_si (h : Hp) (f a : Nat) (v : Int32) (x y : Nat) : hAl (hSi h f a v) x y = hAl h x y := rfl
theorem al_sl (h : Hp) (f a : Nat) (v : Int64) (x y : Nat) : hAl (hSl h f a v) x y = hAl h x y := rfl
theorem al_sr (h : Hp) (f a v : Nat) (x y : Nat) : hAl (hSr h f a v) x y = hAl h x y := rfl
theorem al_ti (h : Hp) (f a : Nat) (v : Int32) (x y : Nat) : hAl (hTi h f a v) x y = hAl h x y := rfl
theorem al_tl (h : Hp) (f a : Nat) (v : Int64) (x y : Nat) : hAl (hTl h f a v) x y = if x = f ∧ y = a then v else hAl h x y := rfl
theorem al_tr (h : Hp) (f a v : Nat) (x y : Nat) : hAl (hTr h f a v) x y = hAl h x y := rfl
theorem al_ci (h : Hp) (a0 sp a dp k : Nat) (x y : Nat) : hAl (hCi h a0 sp a dp k) x y = hAl h x y := rfl
theorem al_cl (h : Hp) (a0 sp a dp k : Nat) (x y : Nat) : hAl (hCl h a0 sp a dp k) x y = if x = a then va_cpy (hAl h a0) (hAl h a) sp dp k y else hAl h x y := rfl
theorem ar_si (h : Hp) (f a : Nat) (v : Int32) (x y : Nat) : hAr (hSi h f a v) x y = hAr h x y := rfl
theorem ar_sl (h : Hp) (f a : Nat) (v : Int64) (x y : Nat) : hAr (hSl h f a v) x y = hAr h x y := rfl
theorem ar_sr (h : Hp) (f a v : Nat) (x y : Nat) : hAr (hSr h f a v) x y = hAr h x y := rfl
theorem ar_ti (h : Hp) (f a : Nat) (v : Int32) (x y : Nat) : hAr (hTi h f a v) x y = hAr h x y := rfl
theorem ar_tl (h : Hp) (f a : Nat) (v : Int64) (x y : Nat) : hAr (hTl h f a v) x y = hAr h x y := rfl
theorem ar_tr (h : Hp) (f a v : Nat) (x y : Nat) : hAr (hTr h f a v) x y = if x = f ∧ y = a then v else hAr h x y := rfl
theorem ar_ci (h : Hp) (a0 sp a dp k : Nat) (x y : Nat) : hAr (hCi h a0 sp a dp k) x y = hAr h x y := rfl
theorem ar_cl (h : Hp) (a0 sp a dp k : Nat) (x y : Nat) : hAr (hCl h a0 sp a dp k) x y = hAr h x y := rfl
theorem gz_si (h : Hp) (f a : Nat) (v : Int32) (x y : Nat) : hGz (hSi h f a v) x y = if x = f ∧ y = a then v == 1 else hGz h x y := by unfold hGz; rw [gi_si]; split <;> rfl
theorem gz_sl (h : Hp) (f a : Nat) (v : Int64) (x y : Nat) : hGz (hSl h f a v) x y = hGz h x y := rfl
theorem gz_sr (h : Hp) (f a v : Nat) (x y : Nat) : hGz (hSr h f a v) x y = hGz h x y := rfl
theorem gz_ti (h : Hp) (f a : Nat) (v : Int32) (x y : Nat) : hGz (hTi h f a v) x y = hGz h x y := rfl
theorem gz_tl (h : Hp) (f a : Nat) (v : Int64) (x y : Nat) : hGz (hTl h f a v) x y = hGz h x y := rfl
theorem gz_tr (h : Hp) (f a v : Nat) (x y : Nat) : hGz (hTr h f a v) x y = hGz h x y := rfl
theorem gz_ci (h : Hp) (a0 sp a dp k : Nat) (x y : Nat) : hGz (hCi h a0 sp a dp k) x y = hGz h x y := rfl
theorem gz_cl (h : Hp) (a0 sp a dp k : Nat) (x y : Nat) : hGz (hCl h a0 sp a dp k) x y = hGz h x y := rfl
theorem b2i_1 (b : Bool) : (b2i b == 1) = b := by cases b <;> rfl
theorem bind_s {α β : Type} (x : α) (f : α → Option β) : (some x).bind f = f x := rfl
theorem letH_e {α : Type} (h : Hp) (k : Hp → Option α) : letH h k = k h := rfl
theorem FU_pos {n : Nat} (h : n < 4000000) : ∃ F, FU = n + 1 + F := ⟨4000000 - (n + 1), by unfold FU; omega⟩
theorem inB_nI {i n : Nat} (h : i < n) (hn : n < 2 ^ 31) : inB (nI i) n = true := by
  simp only [inB, Bool.and_eq_true, decide_eq_true_eq]
  exact ⟨nI_pos' (by omega), by rw [nI_clamp (by omega)]; exact h⟩
/-- a counting loop: n rounds, then the end -/
def iter {σ : Type} (g : Nat → σ → σ) : Nat → σ → σ
  | 0, s => s
  | n + 1, s => g n (iter g n s)
theorem run_loop {σ R : Type} (f : Nat → Int32 → σ → Option R) (n : Nat) (g : Nat → σ → σ) (fin : σ → Option R) (I : Nat → σ → Prop)
    (hs : ∀ F i s, i < n → I i s → f (F + 1) (nI i) s = f F (nI (i + 1)) (g i s)) (hI : ∀ i s, i < n → I i s → I (i + 1) (g i s)) (he : ∀ F s, I n s → f (F + 1) (nI n) s = fin s) :
    ∀ (m i : Nat) (s : σ) (F : Nat), n = i + m → I i s → n - i < F → (∀ s', s' = iter (fun k t => g (i + k) t) m s → f F (nI i) s = fin s') := by
  intro m
  induction m with
  | zero =>
    intro i s F hn hi hF s' hs'
    have : i = n := by omega
    subst this
    obtain ⟨F', rfl⟩ : ∃ F', F = F' + 1 := ⟨F - 1, by omega⟩
    rw [hs']
    exact he F' s hi
  | succ m ih =>
    intro i s F hn hi hF s' hs'
    obtain ⟨F', rfl⟩ : ∃ F', F = F' + 1 := ⟨F - 1, by omega⟩
    rw [hs F' i s (by omega) hi]
    refine ih (i + 1) (g i s) F' (by omega) (hI i s (by omega) hi) (by omega) s' ?_
    rw [hs']
    clear ih hs' hs he hI hF hi
    have key : ∀ m : Nat, iter (fun k t => g (i + k) t) (m + 1) s = iter (fun k t => g (i + 1 + k) t) m (g i s) := by
      intro m
      induction m with
      | zero => simp [iter]
      | succ m ih2 =>
        rw [iter, ih2, iter]
        congr 1
        omega
    exact key m
