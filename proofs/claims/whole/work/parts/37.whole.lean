/-! ===== a whole row replaced ===== -/
def hWi (h : Hp) (A : Nat) (g : Nat → Int32) : Hp := (h.1, h.2.1, h.2.2.1, up1 h.2.2.2.1 A g, h.2.2.2.2)
def hWl (h : Hp) (A : Nat) (g : Nat → Int64) : Hp := (h.1, h.2.1, h.2.2.1, h.2.2.2.1, up1 h.2.2.2.2.1 A g, h.2.2.2.2.2)
theorem gi_wi (h : Hp) (A : Nat) (g : Nat → Int32) (x y : Nat) : hGi (hWi h A g) x y = hGi h x y := rfl
theorem gl_wi (h : Hp) (A : Nat) (g : Nat → Int32) (x y : Nat) : hGl (hWi h A g) x y = hGl h x y := rfl
theorem gr_wi (h : Hp) (A : Nat) (g : Nat → Int32) (x y : Nat) : hGr (hWi h A g) x y = hGr h x y := rfl
theorem gz_wi (h : Hp) (A : Nat) (g : Nat → Int32) (x y : Nat) : hGz (hWi h A g) x y = hGz h x y := rfl
theorem al_wi (h : Hp) (A : Nat) (g : Nat → Int32) (x y : Nat) : hAl (hWi h A g) x y = hAl h x y := rfl
theorem ar_wi (h : Hp) (A : Nat) (g : Nat → Int32) (x y : Nat) : hAr (hWi h A g) x y = hAr h x y := rfl
theorem ai_wi (h : Hp) (A : Nat) (g : Nat → Int32) (x y : Nat) : hAi (hWi h A g) x y = if x = A then g y else hAi h x y := rfl
theorem gi_wl (h : Hp) (A : Nat) (g : Nat → Int64) (x y : Nat) : hGi (hWl h A g) x y = hGi h x y := rfl
theorem gl_wl (h : Hp) (A : Nat) (g : Nat → Int64) (x y : Nat) : hGl (hWl h A g) x y = hGl h x y := rfl
theorem gr_wl (h : Hp) (A : Nat) (g : Nat → Int64) (x y : Nat) : hGr (hWl h A g) x y = hGr h x y := rfl
theorem gz_wl (h : Hp) (A : Nat) (g : Nat → Int64) (x y : Nat) : hGz (hWl h A g) x y = hGz h x y := rfl
theorem ai_wl (h : Hp) (A : Nat) (g : Nat → Int64) (x y : Nat) : hAi (hWl h A g) x y = hAi h x y := rfl
theorem ar_wl (h : Hp) (A : Nat) (g : Nat → Int64) (x y : Nat) : hAr (hWl h A g) x y = hAr h x y := rfl
theorem al_wl (h : Hp) (A : Nat) (g : Nat → Int64) (x y : Nat) : hAl (hWl h A g) x y = if x = A then g y else hAl h x y := rfl
theorem up1_self {β : Type} (g : Nat → Nat → β) (A : Nat) : up1 g A (g A) = g := by
  funext p q
  unfold up1
  split
  · next e => rw [e]
  · rfl
theorem wi_self (h : Hp) (A : Nat) : hWi h A (hAi h A) = h := by
  unfold hWi hAi
  rw [up1_self]
theorem wl_self (h : Hp) (A : Nat) : hWl h A (hAl h A) = h := by
  unfold hWl hAl
  rw [up1_self]
theorem ti_wi (h : Hp) (A : Nat) (g : Nat → Int32) (i : Nat) (v : Int32) : hTi (hWi h A g) A i v = hWi h A (upd g i v) := by
  have : up2 (up1 h.2.2.2.1 A g) A i v = up1 h.2.2.2.1 A (upd g i v) := by
    funext p q
    by_cases e1 : p = A <;> by_cases e2 : q = i <;> simp [up2, up1, upd, e1, e2]
  unfold hTi hWi
  rw [this]
theorem tl_wl (h : Hp) (A : Nat) (g : Nat → Int64) (i : Nat) (v : Int64) : hTl (hWl h A g) A i v = hWl h A (vp_updL g i v) := by
  have : up2 (up1 h.2.2.2.2.1 A g) A i v = up1 h.2.2.2.2.1 A (vp_updL g i v) := by
    funext p q
    by_cases e1 : p = A <;> by_cases e2 : q = i <;> simp [up2, up1, vp_updL, e1, e2]
  unfold hTl hWl
  rw [this]
theorem wi_wi (h : Hp) (A : Nat) (g g' : Nat → Int32) : hWi (hWi h A g) A g' = hWi h A g' := by
  have : up1 (up1 h.2.2.2.1 A g) A g' = up1 h.2.2.2.1 A g' := by
    funext p q
    by_cases e1 : p = A <;> simp [up1, e1]
  unfold hWi
  rw [this]
theorem wl_wl (h : Hp) (A : Nat) (g g' : Nat → Int64) : hWl (hWl h A g) A g' = hWl h A g' := by
  have : up1 (up1 h.2.2.2.2.1 A g) A g' = up1 h.2.2.2.2.1 A g' := by
    funext p q
    by_cases e1 : p = A <;> simp [up1, e1]
  unfold hWl
  rw [this]
theorem ti_w (h : Hp) (A i : Nat) (v : Int32) : hTi h A i v = hWi h A (upd (hAi h A) i v) := by
  have := ti_wi h A (hAi h A) i v
  rwa [wi_self] at this
theorem tl_w (h : Hp) (A i : Nat) (v : Int64) : hTl h A i v = hWl h A (vp_updL (hAl h A) i v) := by
  have := tl_wl h A (hAl h A) i v
  rwa [wl_self] at this
theorem ci_w (h : Hp) (a0 sp a dp k : Nat) : hCi h a0 sp a dp k = hWi h a (va_cpy (hAi h a0) (hAi h a) sp dp k) := rfl
theorem cl_w (h : Hp) (a0 sp a dp k : Nat) : hCl h a0 sp a dp k = hWl h a (va_cpy (hAl h a0) (hAl h a) sp dp k) := rfl
/-- Arrays.fill -/
theorem J_fillI_s {Y : Ly} {h : Hp} {A : Nat} {v : Int32} (hl : lnY Y A < 4000000) : ∃ g : Nat → Int32, J_fillI Y A v h = some (hWi h A g) ∧ ∀ i, i < lnY Y A → g i = v := by
  have key : ∀ (k i F : Nat) (g : Nat → Int32), lnY Y A = i + k → k < F → (∀ j, j < i → g j = v) → ∃ g' : Nat → Int32, J_fillI_L5 Y A v (nI (lnY Y A)) F (nI i) (hWi h A g) = some (hWi h A g') ∧ ∀ j, j < lnY Y A → g' j = v := by
    intro k
    induction k with
    | zero =>
      intro i F g hk hF hg
      obtain ⟨F, rfl⟩ : ∃ F', F = F' + 1 := ⟨F - 1, by omega⟩
      unfold J_fillI_L5
      rw [if_pos (nI_le (by omega) (by omega))]
      exact ⟨g, rfl, fun j hj => hg j (by omega)⟩
    | succ k ih =>
      intro i F g hk hF hg
      obtain ⟨F, rfl⟩ : ∃ F', F = F' + 1 := ⟨F - 1, by omega⟩
      unfold J_fillI_L5
      rw [if_neg (nI_ge (by omega) (by omega)), if_pos (inB_nI (by omega) (by omega)), letH_e, nI_clamp (by omega), ti_wi, nI_1]
      refine ih (i + 1) F _ (by omega) (by omega) (fun j hj => ?_)
      unfold upd
      split
      · rfl
      · exact hg j (by omega)
  unfold J_fillI
  have := key (lnY Y A) 0 FU (hAi h A) (by omega) (by unfold FU; omega) (fun j hj => absurd hj (by omega))
  rw [wi_self] at this
  exact this
theorem J_fillL_s {Y : Ly} {h : Hp} {A : Nat} {v : Int64} (hl : lnY Y A < 4000000) : ∃ g : Nat → Int64, J_fillL Y A v h = some (hWl h A g) ∧ ∀ i, i < lnY Y A → g i = v := by
  have key : ∀ (k i F : Nat) (g : Nat → Int64), lnY Y A = i + k → k < F → (∀ j, j < i → g j = v) → ∃ g' : Nat → Int64, J_fillL_L6 Y A v (nI (lnY Y A)) F (nI i) (hWl h A g) = some (hWl h A g') ∧ ∀ j, j < lnY Y A → g' j = v := by
    intro k
    induction k with
    | zero =>
      intro i F g hk hF hg
      obtain ⟨F, rfl⟩ : ∃ F', F = F' + 1 := ⟨F - 1, by omega⟩
      unfold J_fillL_L6
      rw [if_pos (nI_le (by omega) (by omega))]
      exact ⟨g, rfl, fun j hj => hg j (by omega)⟩
    | succ k ih =>
      intro i F g hk hF hg
      obtain ⟨F, rfl⟩ : ∃ F', F = F' + 1 := ⟨F - 1, by omega⟩
      unfold J_fillL_L6
      rw [if_neg (nI_ge (by omega) (by omega)), if_pos (inB_nI (by omega) (by omega)), letH_e, nI_clamp (by omega), tl_wl, nI_1]
      refine ih (i + 1) F _ (by omega) (by omega) (fun j hj => ?_)
      unfold vp_updL
      split
      · rfl
      · exact hg j (by omega)
  unfold J_fillL
  have := key (lnY Y A) 0 FU (hAl h A) (by omega) (by unfold FU; omega) (fun j hj => absurd hj (by omega))
  rw [wl_self] at this
  exact this
