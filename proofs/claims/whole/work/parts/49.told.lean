/-! ===== what is told of a shelf ===== -/
def anyI (v : Int32) : Int32 × Int32 := if v = m1 then (m1, nI 8) else (v, nI 0)
theorem CQ_anyI {Y : Ly} {x : Nat} {h h' : Hp} {v : Int32} (q : Cf Y h h') : CQ Y x h ((LP_giveIfAny Y x v h').bind fun q => some (q.1, q.2)) (anyI v).1 (anyI v).2 := by
  unfold LP_giveIfAny anyI
  by_cases e : v = m1
  · rw [if_pos (show v = -1 from e), if_pos e]
    exact CQ_fail q
  · rw [if_neg (show ¬ v = -1 from e), if_neg e]
    exact CQ_give q
def numI (v : Int32) : Prop := v = m1 ∨ ∃ k, k < 2 ^ 31 ∧ v = nI k
theorem stOk.n {c : Nat → Int32} {v : Int32} (V : VB c) (h : stOk c v) : numI v := by
  rcases h with e | ⟨k, hk, e⟩
  · exact Or.inl e
  · exact Or.inr ⟨k, by have := VC_l0 V; omega, e⟩
theorem numI_0 {v : Int32} (hv : numI v) : (0 ≤ v) ↔ v ≠ m1 := by
  rcases hv with rfl | ⟨k, hk, rfl⟩
  · simp; decide
  · have := nI_pos' hk
    have h2 := ne_m1 hk
    simp [this, h2]
theorem mQ_anyI {Y : Ly} {m : Nat} {h h' : Hp} {v : Int32} (hv : numI v) (q : Mg Y m (mst h m) h') :
    mQ Y m h (if 0 ≤ v then some (v, h') else (M_refuse Y m 8 h').bind fun q => some (q.1, q.2)) (anyI v).1 (anyI v).2 := by
  unfold anyI
  by_cases e : v = m1
  · rw [if_neg (fun z => (numI_0 hv).mp z e), if_pos e]
    exact mQ_r q
  · rw [if_pos ((numI_0 hv).mpr e), if_neg e]
    exact mQ_e q
def rcnt (c : Nat → Int32) : Nat := sm (fun i => if c (18 + i) = m1 then 0 else 1) 64
def bndS (c : Nat → Int32) : Nat := mk (fun b => decide (c (100 + b) ≠ m1)) (cN c 2)
def mv (c : Nat → Int32) (k : Nat) : Int32 := if k < 8 then c k else if k = 8 then nI (rcnt c) else if k = 9 then c 8 else if k = 10 then nI (bndS c) else c 9
def spMany (c : Nat → Int32) (w : Int32) : Int32 × Int32 := if isAt w 12 then (mv c w.toNatClampNeg, nI 0) else (m1, nI 5)
def spRule (c : Nat → Int32) (s t : Int32) : Int32 × Int32 := if isAt s (cN c 0) && isAt t (cN c 1) then anyI (c (18 + 8 * s.toNatClampNeg + t.toNatClampNeg)) else (m1, nI 2)
def spOdd (c : Nat → Int32) (t : Int32) : Int32 × Int32 := if isAt t (cN c 1) then (c (10 + t.toNatClampNeg), nI 0) else (m1, nI 2)
def brkF (c : Nat → Int32) (b : Nat) : Nat → Nat → Nat → Int32
  | 0, _, _ => m1
  | k + 1, p, st => if c (18 + 8 * st + cN c (106 + 10 * b + p)) = m1 then nI p else brkF c b k (p + 1) (cN c (18 + 8 * st + cN c (106 + 10 * b + p)))
def brk (c : Nat → Int32) (b : Nat) : Int32 := brkF c b (cN c (94 + b)) 0 (cN c (82 + b))
def spBook (c : Nat → Int32) (b w : Int32) : Int32 × Int32 := if isAt b (cN c 2) then
    (if isAt w 6 then (if w = nI 0 then (c (82 + b.toNatClampNeg), nI 0) else if w = nI 1 then (c (94 + b.toNatClampNeg), nI 0) else if w = nI 2 then (c (88 + b.toNatClampNeg), nI 0)
      else if w = nI 3 then anyI (place c b.toNatClampNeg) else if w = nI 4 then anyI (brk c b.toNatClampNeg) else anyI (c (100 + b.toNatClampNeg))) else (m1, nI 5)) else (m1, nI 2)
def spPage (c : Nat → Int32) (b p : Int32) : Int32 × Int32 := if isAt b (cN c 2) then (if isAt p (cN c (94 + b.toNatClampNeg)) then (c (106 + 10 * b.toNatClampNeg + p.toNatClampNeg), nI 0) else (m1, nI 8)) else (m1, nI 2)
def spFinale (c : Nat → Int32) (f p : Int32) : Int32 × Int32 := if isAt f (cN c 3) then (if isAt (p - 1) (cN c (166 + f.toNatClampNeg)) then (c (174 + 6 * f.toNatClampNeg + (p - 1).toNatClampNeg), nI 0) else (m1, nI 8)) else (m1, nI 2)
def spHint (c : Nat → Int32) (i w : Int32) : Int32 × Int32 := if isAt i (cN c 5) && isAt w 4 then (c (222 + 12 * w.toNatClampNeg + i.toNatClampNeg), nI 0) else (m1, nI 5)
def spLot (c : Nat → Int32) (n a b : Nat) (i w : Int32) : Int32 × Int32 := if isAt i n then (if w = nI 0 then (c (a + i.toNatClampNeg), nI 0) else if w = nI 1 then (c (b + i.toNatClampNeg), nI 0) else (m1, nI 5)) else (m1, nI 2)
def odf (c : Nat → Int32) (f : Nat) : Nat := sm (fun k => cN c (10 + cN c (174 + 6 * f + k))) (cN c (166 + f))
def spOddness (c : Nat → Int32) (f : Int32) : Int32 × Int32 := if isAt f (cN c 3) then (nI (odf c f.toNatClampNeg), nI 0) else (m1, nI 2)
theorem odf_le {c : Nat → Int32} (V : VB c) {f : Nat} (hf : f < cN c 3) : odf c f ≤ 60 := by
  have hF := V.2.2.2.2.2.1 f hf
  have l := hF.1.1.2
  have h1 : odf c f ≤ cN c (166 + f) * 10 := sm_le _ (fun k hk => by
    have h2 := (hF.2 k hk).2
    have h3 := (V.2.2.1 _ h2).2
    omega)
  omega
theorem brk_pl {c : Nat → Int32} (V : VB c) {b : Nat} (hb : b < cN c 2) : ∀ k p st, p + k ≤ cN c (94 + b) → st < cN c 0 → ((plF c b k p (nI st) = m1) ↔ (brkF c b k p st ≠ m1)) ∧ numI (brkF c b k p st) := by
  have l0 := VC_l0 V
  have l1 := VC_l1 V
  have hK := V.2.2.2.2.1 b hb
  have l94 := hK.2.2.1.2
  intro k
  induction k with
  | zero =>
    intro p st hp hs
    refine ⟨?_, Or.inl rfl⟩
    simp only [plF, brkF]
    rw [ne_m1 (by omega)]
    simp
  | succ k ih =>
    intro p st hp hs
    have lpg := (hK.2.2.2.2 p (by omega)).2
    simp only [plF, brkF]
    simp (disch := omega) only [ne_m1, if_false, nI_clamp]
    rcases V.2.2.2.1 st (cN c (106 + 10 * b + p)) (by omega) (by omega) with q | ⟨_, _, q1, q2⟩
    · rw [if_pos q, q, plF_m1]
      refine ⟨?_, Or.inr ⟨p, by omega, rfl⟩⟩
      rw [ne_eq, ne_m1 (by omega)]; simp
    · have qn : ¬ c (18 + 8 * st + cN c (106 + 10 * b + p)) = m1 := by rw [q1, ne_m1 (by omega)]; exact fun z => z
      rw [if_neg qn, q1]
      have := ih (p + 1) (cN c (18 + 8 * st + cN c (106 + 10 * b + p))) (by omega) q2
      exact this
section SC
variable {Y : Ly} {h : Hp} {x s : Nat} {c : Nat → Int32}
theorem St_leadsTo_g (X : CX Y h x s c) {i j : Nat} (hi : i < 8) (hj : j < 8) : St_leadsTo Y (hGr h 400 s) (nI i) (nI j) h = some (c (18 + 8 * i + j)) := by
  have V := X.2.2.2.2
  have l0 := VC_l0 V
  have l1 := VC_l1 V
  by_cases h1 : i < cN c 0
  · by_cases h2 : j < cN c 1
    · exact St_leadsTo_s X.1 X.2.1 X.2.2.1 X.2.2.2.1 V h1 h2
    · rcases V.2.2.2.1 i j hi hj with q | ⟨_, q, _⟩
      · unfold St_leadsTo
        rw [X.2.2.2.1.1.1, X.2.2.2.1.1.2.1, VC_e0 V, VC_e1 V]
        simp (disch := omega) only [zlit, zneg, nI_ltI, nI_leI]
        rw [if_neg (by omega), if_neg (by omega), if_neg (by omega), if_neg (by omega), q]
      · omega
  · rcases V.2.2.2.1 i j hi hj with q | ⟨q, _, _⟩
    · unfold St_leadsTo
      rw [X.2.2.2.1.1.1, VC_e0 V]
      simp (disch := omega) only [zlit, zneg, nI_ltI, nI_leI]
      rw [if_neg (by omega), if_pos (by omega), q]
    · omega
theorem St_countRules_s (X : CX Y h x s c) : St_countRules Y (hGr h 400 s) h = some (nI (rcnt c)) := by
  unfold St_countRules
  refine upl (Q := fun r => r = some (nI (rcnt c))) (fun F i (_ : Unit) => St_countRules_L4 Y (hGr h 400 s) h F (nI (sm (fun i => if c (18 + i) = m1 then 0 else 1) i)) (nI i)) 64 (fun _ _ => True) ?_ ?_ 64 0 () FU (by omega) (by unfold FU; omega) trivial
  · intro F i _ hi _
    right
    refine ⟨(), ?_, trivial⟩
    show St_countRules_L4 Y (hGr h 400 s) h (F + 1) _ (nI i) = St_countRules_L4 Y (hGr h 400 s) h F (nI (sm (fun i => if c (18 + i) = m1 then 0 else 1) (i + 1))) (nI (i + 1))
    rw [St_countRules_L4]
    simp (disch := omega) only [zlit, zneg, nI_leI]
    rw [if_neg (by omega), pk_rem (by omega) (by omega) (by omega), pk_div (by omega) (by omega) (by omega), St_leadsTo_g X (by omega) (by omega), bind_s, show 18 + 8 * (i / 8) + i % 8 = 18 + i by omega]
    simp (disch := omega) only [nI_add, sm]
    split <;> rfl
  · intro F _ _
    show St_countRules_L4 Y (hGr h 400 s) h (F + 1) _ (nI 64) = _
    rw [St_countRules_L4, if_pos (by decide)]
    rfl
theorem Sh_finished_s (X : CX Y h x s c) : Sh_finished Y s h = some (nI (bndS c)) := by
  have V := X.2.2.2.2
  have l2 := VC_l2 V
  unfold Sh_finished
  refine upl (Q := fun r => r = some (nI (bndS c))) (fun F i (_ : Unit) => Sh_finished_L4 Y s h F (nI (mk (fun b => decide (c (100 + b) ≠ m1)) i)) (nI i)) (cN c 2) (fun _ _ => True) ?_ ?_ (cN c 2) 0 () FU (by omega) (by unfold FU; omega) trivial
  · intro F i _ hi _
    right
    refine ⟨(), ?_, trivial⟩
    show Sh_finished_L4 Y s h (F + 1) _ (nI i) = Sh_finished_L4 Y s h F (nI (mk (fun b => decide (c (100 + b) ≠ m1)) (i + 1))) (nI (i + 1))
    rw [Sh_finished_L4, X.2.2.2.1.1.2.2.1, VC_e2 V, if_neg (nI_ge hi (by omega)), cl410 X.1 X.2.2.1, if_pos (inB_nI (by omega) (by omega)), nI_clamp (by omega), (X.2.2.2.1.2.2.1 i hi).2.2.2.1]
    simp (disch := omega) only [zlit, zneg, zand, zone, zor, nI_add, mk]
    by_cases q : c (100 + i) = m1
    · rw [if_pos q, if_neg (by simpa using q)]
    · rw [if_neg q, if_pos (by simpa using q)]
  · intro F _ _
    show Sh_finished_L4 Y s h (F + 1) _ (nI (cN c 2)) = _
    rw [Sh_finished_L4, X.2.2.2.1.1.2.2.1, VC_e2 V, if_pos (nI_le (Nat.le_refl _) (by omega))]
    rfl
theorem Sh_breakOf_s (X : CX Y h x s c) {b : Nat} (hb : b < cN c 2) : Sh_breakOf Y s (nI b) h = some (brk c b) := by
  have V := X.2.2.2.2
  have l0 := VC_l0 V
  have l1 := VC_l1 V
  have l2 := VC_l2 V
  have hs := X.2.2.1
  have hK := V.2.2.2.2.1 b hb
  have l94 := hK.2.2.1.2
  have rK := X.2.2.2.1.2.2.1 b hb
  unfold Sh_breakOf
  rw [Sh_hasBook_s X.2.2.2.1 V, isAt_nI hb (by omega), bind_s, if_pos rfl]
  simp (disch := omega) only [nI_clamp, cl406 X.1 hs, inB_nI, if_true, rK.1, hK.1.1]
  refine upl (Q := fun r => r = some (brk c b)) (fun F p st => Sh_breakOf_L19 Y s (nI b) h F (nI st) (nI p)) (cN c (94 + b)) (fun p st => st < cN c 0 ∧ brkF c b (cN c (94 + b) - p) p st = brk c b) ?_ ?_ (cN c (94 + b)) 0 (cN c (82 + b)) FU (by omega) (by unfold FU; omega) ⟨hK.1.2, rfl⟩
  · intro F p st hp hI
    show Sh_breakOf_L19 Y s (nI b) h (F + 1) (nI st) (nI p) = _ ∨ ∃ s', Sh_breakOf_L19 Y s (nI b) h (F + 1) (nI st) (nI p) = Sh_breakOf_L19 Y s (nI b) h F (nI s') (nI (p + 1)) ∧ _
    have hpg := hK.2.2.2.2 p hp
    have lpg := hpg.2
    have rpg := rK.2.2.2.2.2 p hp
    rw [Sh_breakOf_L19]
    simp (disch := omega) only [zlit, zneg, nI_add, pk_mul, nI_clamp, cl408 X.1 hs, cl409 X.1 hs, inB_nI, if_true, rK.2.2.1, hK.2.2.1.1, nI_leI]
    rw [if_neg (by omega), show b * 10 + p = 10 * b + p by omega, rpg, hpg.1, St_leadsTo_g X (by omega) (by omega), bind_s]
    have e1 : brkF c b (cN c (94 + b) - p) p st = if c (18 + 8 * st + cN c (106 + 10 * b + p)) = m1 then nI p else brkF c b (cN c (94 + b) - (p + 1)) (p + 1) (cN c (18 + 8 * st + cN c (106 + 10 * b + p))) := by
      rw [show cN c (94 + b) - p = (cN c (94 + b) - (p + 1)) + 1 by omega]
      rfl
    rw [hI.2] at e1
    rcases V.2.2.2.1 st (cN c (106 + 10 * b + p)) (by omega) (by omega) with q | ⟨_, _, q1, q2⟩
    · left
      rw [if_pos q, e1, if_pos q]
    · right
      have qn : ¬ c (18 + 8 * st + cN c (106 + 10 * b + p)) = m1 := by rw [q1, ne_m1 (by omega)]; exact fun z => z
      rw [if_neg qn]
      refine ⟨cN c (18 + 8 * st + cN c (106 + 10 * b + p)), by rw [← q1], q2, ?_⟩
      rw [e1, if_neg qn]
  · intro F st hI
    show Sh_breakOf_L19 Y s (nI b) h (F + 1) (nI st) (nI (cN c (94 + b))) = _
    rw [Sh_breakOf_L19]
    simp (disch := omega) only [zlit, zneg, nI_clamp, cl408 X.1 hs, inB_nI, if_true, rK.2.2.1, hK.2.2.1.1, nI_leI]
    rw [if_pos (by omega), ← hI.2, Nat.sub_self]
    rfl
end SC
section SCT
variable {Y : Ly} {h : Hp} {x : Nat} {c : Nat → Int32}
theorem isAt_no {w : Int32} {n k : Nat} (hn : n < 2 ^ 31) (h : isAt w n = false) (hk : k < n) : ¬ w = nI k := by
  intro e
  rw [e, isAt_nI hk hn] at h
  cases h

theorem LP_many_q (X : CT Y h x c) (w : Int32) : CQ Y x h (LP_many Y x w h) (spMany c w).1 (spMany c w).2 := by
  unfold LP_many spMany
  have RC := X.2.2.2.1.1
  rcases isAt_cases w (n := 12) (by omega) with q | ⟨j, hj, rfl, q⟩
  · rw [q]
    simp only [zlit]
    rw [if_neg (isAt_no (k := 0) (by omega) q (by omega)), if_neg (isAt_no (k := 1) (by omega) q (by omega)), if_neg (isAt_no (k := 2) (by omega) q (by omega)), if_neg (isAt_no (k := 3) (by omega) q (by omega)), if_neg (isAt_no (k := 4) (by omega) q (by omega)), if_neg (isAt_no (k := 5) (by omega) q (by omega)), if_neg (isAt_no (k := 6) (by omega) q (by omega)), if_neg (isAt_no (k := 7) (by omega) q (by omega)), if_neg (isAt_no (k := 8) (by omega) q (by omega)), if_neg (isAt_no (k := 9) (by omega) q (by omega)), if_neg (isAt_no (k := 10) (by omega) q (by omega)), if_neg (isAt_no (k := 11) (by omega) q (by omega))]
    exact CQ_fail (Cf_rf Y h)
  · rw [q, if_pos rfl, nI_clamp (by omega), RC.1, RC.2.1, RC.2.2.1, RC.2.2.2.1, RC.2.2.2.2.1, RC.2.2.2.2.2.1, RC.2.2.2.2.2.2.1, RC.2.2.2.2.2.2.2.1, RC.2.2.2.2.2.2.2.2.1, RC.2.2.2.2.2.2.2.2.2, St_countRules_s X, bind_s, Sh_finished_s X, bind_s]
    rcases (show j = 0 ∨ j = 1 ∨ j = 2 ∨ j = 3 ∨ j = 4 ∨ j = 5 ∨ j = 6 ∨ j = 7 ∨ j = 8 ∨ j = 9 ∨ j = 10 ∨ j = 11 by omega) with rfl | rfl | rfl | rfl | rfl | rfl | rfl | rfl | rfl | rfl | rfl | rfl
    · rw [if_pos (by decide)]
      exact CQ_give (Cf_rf Y h)
    · rw [if_neg (by decide), if_pos (by decide)]
      exact CQ_give (Cf_rf Y h)
    · rw [if_neg (by decide), if_neg (by decide), if_pos (by decide)]
      exact CQ_give (Cf_rf Y h)
    · rw [if_neg (by decide), if_neg (by decide), if_neg (by decide), if_pos (by decide)]
      exact CQ_give (Cf_rf Y h)
    · rw [if_neg (by decide), if_neg (by decide), if_neg (by decide), if_neg (by decide), if_pos (by decide)]
      exact CQ_give (Cf_rf Y h)
    · rw [if_neg (by decide), if_neg (by decide), if_neg (by decide), if_neg (by decide), if_neg (by decide), if_pos (by decide)]
      exact CQ_give (Cf_rf Y h)
    · rw [if_neg (by decide), if_neg (by decide), if_neg (by decide), if_neg (by decide), if_neg (by decide), if_neg (by decide), if_pos (by decide)]
      exact CQ_give (Cf_rf Y h)
    · rw [if_neg (by decide), if_neg (by decide), if_neg (by decide), if_neg (by decide), if_neg (by decide), if_neg (by decide), if_neg (by decide), if_pos (by decide)]
      exact CQ_give (Cf_rf Y h)
    · rw [if_neg (by decide), if_neg (by decide), if_neg (by decide), if_neg (by decide), if_neg (by decide), if_neg (by decide), if_neg (by decide), if_neg (by decide), if_pos (by decide)]
      exact CQ_give (Cf_rf Y h)
    · rw [if_neg (by decide), if_neg (by decide), if_neg (by decide), if_neg (by decide), if_neg (by decide), if_neg (by decide), if_neg (by decide), if_neg (by decide), if_neg (by decide), if_pos (by decide)]
      exact CQ_give (Cf_rf Y h)
    · rw [if_neg (by decide), if_neg (by decide), if_neg (by decide), if_neg (by decide), if_neg (by decide), if_neg (by decide), if_neg (by decide), if_neg (by decide), if_neg (by decide), if_neg (by decide), if_pos (by decide)]
      exact CQ_give (Cf_rf Y h)
    · rw [if_neg (by decide), if_neg (by decide), if_neg (by decide), if_neg (by decide), if_neg (by decide), if_neg (by decide), if_neg (by decide), if_neg (by decide), if_neg (by decide), if_neg (by decide), if_neg (by decide), if_pos (by decide)]
      exact CQ_give (Cf_rf Y h)
theorem LP_rule_q (X : CT Y h x c) (s t : Int32) : CQ Y x h (LP_rule Y x s t h) (spRule c s t).1 (spRule c s t).2 := by
  have V := X.2.2.2.2
  have l0 := VC_l0 V
  have l1 := VC_l1 V
  unfold LP_rule spRule
  rw [St_hasState_s X.2.2.2.1 V, bind_s, St_hasTurn_s X.2.2.2.1 V, bind_s]
  rcases isAt_cases s (n := cN c 0) (by omega) with q | ⟨j, hj, rfl, q⟩
  · rw [q]; exact CQ_fail (Cf_rf Y h)
  · rw [q, if_pos rfl]
    rcases isAt_cases t (n := cN c 1) (by omega) with q2 | ⟨k, hk, rfl, q2⟩
    · rw [q2]; exact CQ_fail (Cf_rf Y h)
    · rw [q2, if_pos rfl, nI_clamp (by omega), nI_clamp (by omega), St_leadsTo_g X (by omega) (by omega), bind_s]
      exact CQ_anyI (Cf_rf Y h)
theorem St_oddOf_s {s : Nat} (X : CX Y h x s c) {t : Nat} (ht : t < cN c 1) : St_oddOf Y (hGr h 400 s) (nI t) h = some (nI (cN c (10 + t))) := by
  have V := X.2.2.2.2
  have l1 := VC_l1 V
  have hs6 := X.2.1.1 400 6 rfl s X.2.2.1
  unfold St_oddOf
  rw [St_hasTurn_s X.2.2.2.1 V, isAt_nI ht (by omega), bind_s, if_pos rfl, cl600 X.1 hs6, if_pos (inB_nI (by omega) (by omega)), nI_clamp (by omega), X.2.2.2.1.2.1.1 t ht, (V.2.2.1 t ht).1]
theorem St_oddOf_m {s : Nat} (X : CX Y h x s c) : St_oddOf Y (hGr h 400 s) m1 h = some (nI 0) := by
  have V := X.2.2.2.2
  unfold St_oddOf
  rw [St_hasTurn_s X.2.2.2.1 V, show isAt m1 (cN c 1) = false by unfold isAt; rw [show decide ((0 : Int32) ≤ m1) = false by decide]; rfl]
  rfl
theorem LP_odd_q (X : CT Y h x c) (t : Int32) : CQ Y x h (LP_odd Y x t h) (spOdd c t).1 (spOdd c t).2 := by
  have V := X.2.2.2.2
  have l1 := VC_l1 V
  unfold LP_odd spOdd
  rw [St_hasTurn_s X.2.2.2.1 V, bind_s]
  rcases isAt_cases t (n := cN c 1) (by omega) with q2 | ⟨k, hk, rfl, q2⟩
  · rw [q2]; exact CQ_fail (Cf_rf Y h)
  · rw [q2, if_pos rfl, if_pos rfl, nI_clamp (by omega), St_oddOf_s X hk, bind_s, (V.2.2.1 k hk).1]
    exact CQ_give (Cf_rf Y h)
theorem LP_book_q (X : CT Y h x c) (b w : Int32) : CQ Y x h (LP_book Y x b w h) (spBook c b w).1 (spBook c b w).2 := by
  have V := X.2.2.2.2
  have l2 := VC_l2 V
  have hs := X.2.2.1
  unfold LP_book spBook
  rw [Sh_hasBook_s X.2.2.2.1 V, bind_s]
  rcases isAt_cases b (n := cN c 2) (by omega) with q | ⟨j, hj, rfl, q⟩
  · rw [q]; exact CQ_fail (Cf_rf Y h)
  · have rK := X.2.2.2.1.2.2.1 j hj
    rw [q, if_pos rfl, if_pos rfl, nI_clamp (by omega), cl406 X.1 hs, cl407 X.1 hs, cl408 X.1 hs, cl410 X.1 hs, inB_nI (show j < 6 by omega) (by omega), if_pos rfl, if_pos rfl, if_pos rfl, if_pos rfl, rK.1, rK.2.1, rK.2.2.1, rK.2.2.2.1, Sh_placeOf_s X.1 X.2.1 hs X.2.2.2.1 V hj, bind_s, Sh_breakOf_s X hj, bind_s]
    simp only [zlit]
    rcases isAt_cases w (n := 6) (by omega) with q2 | ⟨k, hk, rfl, q2⟩
    · rw [q2, if_neg (isAt_no (k := 0) (by omega) q2 (by omega)), if_neg (isAt_no (k := 1) (by omega) q2 (by omega)), if_neg (isAt_no (k := 2) (by omega) q2 (by omega)), if_neg (isAt_no (k := 3) (by omega) q2 (by omega)), if_neg (isAt_no (k := 4) (by omega) q2 (by omega)), if_neg (isAt_no (k := 5) (by omega) q2 (by omega))]
      exact CQ_fail (Cf_rf Y h)
    · rw [q2, if_pos rfl]
      rcases (show k = 0 ∨ k = 1 ∨ k = 2 ∨ k = 3 ∨ k = 4 ∨ k = 5 by omega) with rfl | rfl | rfl | rfl | rfl | rfl
      · simp (decide := true) only [if_true, if_false]
        exact CQ_give (Cf_rf Y h)
      · simp (decide := true) only [if_true, if_false]
        exact CQ_give (Cf_rf Y h)
      · simp (decide := true) only [if_true, if_false]
        exact CQ_give (Cf_rf Y h)
      · simp (decide := true) only [if_true, if_false]
        exact CQ_anyI (Cf_rf Y h)
      · simp (decide := true) only [if_true, if_false]
        exact CQ_anyI (Cf_rf Y h)
      · simp (decide := true) only [if_true, if_false]
        exact CQ_anyI (Cf_rf Y h)
theorem LP_page_q (X : CT Y h x c) (b p : Int32) : CQ Y x h (LP_page Y x b p h) (spPage c b p).1 (spPage c b p).2 := by
  have V := X.2.2.2.2
  have l2 := VC_l2 V
  have hs := X.2.2.1
  unfold LP_page spPage Sh_turnOnPage
  rw [Sh_hasBook_s X.2.2.2.1 V, bind_s]
  rcases isAt_cases b (n := cN c 2) (by omega) with q | ⟨j, hj, rfl, q⟩
  · rw [q]; exact CQ_fail (Cf_rf Y h)
  · have rK := X.2.2.2.1.2.2.1 j hj
    have hK := V.2.2.2.2.1 j hj
    have l94 := hK.2.2.1.2
    rw [q, if_pos rfl, if_pos rfl, nI_clamp (by omega), bind_s, if_pos rfl, cl408 X.1 hs, inB_nI (show j < 6 by omega) (by omega), if_pos rfl, rK.2.2.1, hK.2.2.1.1]
    rcases isAt_cases p (n := cN c (94 + j)) (by omega) with q2 | ⟨k, hk, rfl, q2⟩
    · rw [q2]
      have : (if p < 0 then some (-1) else if p < nI (cN c (94 + j)) then if inB (nI j * 10 + p) (lnY Y (hGr h 409 (hGr h 1109 x))) = true then some (hAi h (hGr h 409 (hGr h 1109 x)) (nI j * 10 + p).toNatClampNeg) else none else some (-1)) = some m1 := by
        by_cases e1 : p < 0
        · rw [if_pos e1]; rfl
        · rw [if_neg e1]
          have : ¬ p < nI (cN c (94 + j)) := by
            intro e2
            obtain ⟨i, hi, rfl⟩ := nI_of e1
            rw [nI_ltI hi (by omega)] at e2
            rw [isAt_nI e2 (by omega)] at q2
            cases q2
          rw [if_neg this]; rfl
      rw [this, bind_s]
      have e := CQ_anyI (Y := Y) (x := x) (v := m1) (Cf_rf Y h)
      exact e
    · rw [q2, if_pos rfl, nI_clamp (by omega)]
      have hpg := hK.2.2.2.2 k hk
      have lpg := hpg.2
      have l1 := VC_l1 V
      simp (disch := omega) only [zlit, zneg, nI_add, pk_mul, nI_ltI, cl409 X.1 hs, inB_nI, if_true, nI_clamp]
      rw [if_neg (by omega), if_pos hk, show j * 10 + k = 10 * j + k by omega, rK.2.2.2.2.2 k hk, bind_s, hpg.1]
      have e := CQ_anyI (Y := Y) (x := x) (v := nI (cN c (106 + 10 * j + k))) (Cf_rf Y h)
      unfold anyI at e
      rw [if_neg (by rw [ne_m1 (by omega)]; exact fun z => z)] at e
      exact e
theorem St_tIF_no {s : Nat} (X : CX Y h x s c) {f : Nat} {p : Int32} (hf : f < cN c 3) (hp : isAt p (cN c (166 + f)) = false) : St_turnInFinale Y (hGr h 400 s) (nI f) p h = some m1 := by
  have V := X.2.2.2.2
  have l3 := VC_l3 V
  have hF := V.2.2.2.2.2.1 f hf
  have l166 := hF.1.1.2
  have hs6 := X.2.1.1 400 6 rfl s X.2.2.1
  have rF := X.2.2.2.1.2.1.2.2 f hf
  unfold St_turnInFinale
  rw [St_hasFinale_s X.2.2.2.1 V, isAt_nI hf (by omega), bind_s, if_pos rfl]
  by_cases e1 : p < 0
  · rw [if_pos e1]; rfl
  · rw [if_neg e1, cl602 X.1 hs6, if_pos (inB_nI (by omega) (by omega)), nI_clamp (by omega), rF.1, hF.1.1.1, if_neg]
    · rfl
    · intro e2
      obtain ⟨i, hi, rfl⟩ := nI_of e1
      rw [nI_ltI hi (by omega)] at e2
      rw [isAt_nI e2 (by omega)] at hp
      cases hp
theorem LP_finale_q (X : CT Y h x c) (f p : Int32) : CQ Y x h (LP_finale Y x f p h) (spFinale c f p).1 (spFinale c f p).2 := by
  have V := X.2.2.2.2
  have l3 := VC_l3 V
  unfold LP_finale spFinale
  rw [St_hasFinale_s X.2.2.2.1 V, bind_s]
  rcases isAt_cases f (n := cN c 3) (by omega) with q | ⟨j, hj, rfl, q⟩
  · rw [q]; exact CQ_fail (Cf_rf Y h)
  · have hF := V.2.2.2.2.2.1 j hj
    have l166 := hF.1.1.2
    rw [q, if_pos rfl, if_pos rfl, nI_clamp (by omega)]
    rcases isAt_cases (p - 1) (n := cN c (166 + j)) (by omega) with q2 | ⟨k, hk, e, q2⟩
    · rw [q2, St_tIF_no X hj q2, bind_s]
      exact CQ_anyI (Y := Y) (x := x) (v := m1) (Cf_rf Y h)
    · rw [q2, if_pos rfl, e, nI_clamp (by omega), St_turnInFinale_s X hj (by omega), if_pos hk, bind_s, (hF.2 k hk).1]
      have l1 := VC_l1 V
      have := (hF.2 k hk).2
      have e := CQ_anyI (Y := Y) (x := x) (v := nI (cN c (174 + 6 * j + k))) (Cf_rf Y h)
      unfold anyI at e
      rw [if_neg (by rw [ne_m1 (by omega)]; exact fun z => z)] at e
      exact e
theorem LP_hint_q (X : CT Y h x c) (i w : Int32) : CQ Y x h (LP_hint Y x i w h) (spHint c i w).1 (spHint c i w).2 := by
  have V := X.2.2.2.2
  have l5 := VC_l5 V
  unfold LP_hint spHint
  rw [X.2.2.2.1.1.2.2.2.2.2.1, VC_e5 V]
  rcases isAt_cases i (n := cN c 5) (by omega) with q | ⟨j, hj, rfl, q⟩
  · rw [q]
    by_cases e1 : i < 0
    · rw [if_pos e1]; exact CQ_fail (Cf_rf Y h)
    · rw [if_neg e1]
      have e2 : nI (cN c 5) ≤ i := by
        obtain ⟨k, hk, rfl⟩ := nI_of e1
        rw [nI_leI (by omega) hk]
        apply Nat.le_of_not_lt
        intro e2
        rw [isAt_nI e2 (by omega)] at q
        cases q
      rw [if_pos e2]; exact CQ_fail (Cf_rf Y h)
  · rw [q, if_neg (nI_pos (by omega)), if_neg (nI_ge hj (by omega))]
    rcases isAt_cases w (n := 4) (by omega) with q2 | ⟨k, hk, rfl, q2⟩
    · rw [q2]
      by_cases e1 : w < 0
      · rw [if_pos e1]; exact CQ_fail (Cf_rf Y h)
      · rw [if_neg e1, if_neg]
        · exact CQ_fail (Cf_rf Y h)
        · intro e2
          obtain ⟨k, hk, rfl⟩ := nI_of e1
          simp only [zlit] at e2
          rw [nI_ltI hk (by omega)] at e2
          rw [isAt_nI e2 (by omega)] at q2
          cases q2
    · rw [q2, if_neg (nI_pos (by omega)), if_pos (show nI k < 4 from (nI_lt hk (by decide) : nI k < nI 4)), Sh_hintPart_s X.1 X.2.2.1 X.2.2.2.1 V hj hk, bind_s]
      simp only [Bool.and_self, if_true]
      rw [nI_clamp (by omega), nI_clamp (by omega)]
      exact CQ_give (Cf_rf Y h)
theorem LP_lotPart_q (X : CT Y h x c) {l n a b M : Nat} (hn : hGi h 302 l = nI n) (hM : n ≤ M) (hM2 : M < 9) (h0 : lnY Y (hGr h 300 l) = M) (h1 : lnY Y (hGr h 301 l) = M) (r0 : ∀ o, o < n → hAi h (hGr h 300 l) o = c (a + o) ∧ hAi h (hGr h 301 l) o = c (b + o)) (i w : Int32) : CQ Y x h ((LP_lotPart Y x l i w h).bind fun q => some (q.1, q.2)) (spLot c n a b i w).1 (spLot c n a b i w).2 := by
  unfold LP_lotPart spLot
  rw [show Lo_hasOne Y l i h = some (isAt i n) by unfold Lo_hasOne; rw [hn]; exact has_s, bind_s]
  rcases isAt_cases i (n := n) (by omega) with q | ⟨j, hj, rfl, q⟩
  · rw [q]; exact CQ_fail (Cf_rf Y h)
  · rw [q, if_pos rfl, if_pos rfl, h0, h1, inB_nI (show j < M by omega) (by omega), if_pos rfl, if_pos rfl, nI_clamp (by omega), (r0 j hj).1, (r0 j hj).2]
    simp only [zlit]
    by_cases e1 : w = nI 0
    · rw [if_pos e1, if_pos e1]; exact CQ_give (Cf_rf Y h)
    · rw [if_neg e1, if_neg e1]
      by_cases e2 : w = nI 1
      · rw [if_pos e2, if_pos e2]; exact CQ_give (Cf_rf Y h)
      · rw [if_neg e2, if_neg e2]; exact CQ_fail (Cf_rf Y h)
theorem LP_offer_q (X : CT Y h x c) (i w : Int32) : CQ Y x h (LP_offer Y x i w h) (spLot c (cN c 6) 270 276 i w).1 (spLot c (cN c 6) 270 276 i w).2 := by
  have V := X.2.2.2.2
  have l6 := VC_l6 V
  have S3 := X.1.2.2.1 _ X.2.2.1
  unfold LP_offer
  exact LP_lotPart_q X (M := 6) (by rw [X.2.2.2.1.1.2.2.2.2.2.2.1, VC_e6 V]) (by omega) (by omega) S3.1.1 S3.1.2 (fun o ho => X.2.2.2.1.2.2.2.2.1 o ho) i w
theorem LP_watch_q (X : CT Y h x c) (i w : Int32) : CQ Y x h (LP_watch Y x i w h) (spLot c (cN c 7) 282 290 i w).1 (spLot c (cN c 7) 282 290 i w).2 := by
  have V := X.2.2.2.2
  have l7 := VC_l7 V
  have S3 := X.1.2.2.1 _ X.2.2.1
  unfold LP_watch
  exact LP_lotPart_q X (M := 8) (by rw [X.2.2.2.1.1.2.2.2.2.2.2.2.1, VC_e7 V]) (by omega) (by omega) S3.2.1 S3.2.2 (fun o ho => X.2.2.2.1.2.2.2.2.2 o ho) i w
theorem sm_cut {f : Nat → Nat} {n : Nat} : ∀ k, sm (fun i => if i < n then f i else 0) (n + k) = sm f n := by
  intro k
  induction k with
  | zero => exact sm_congr n (fun i hi => by simp [hi])
  | succ k ih =>
    rw [show n + (k + 1) = (n + k) + 1 by omega, sm, ih]
    rw [if_neg (by omega), Nat.add_zero]
theorem St_sumOdd_s {s : Nat} (X : CX Y h x s c) {f : Nat} (hf : f < cN c 3) : St_sumOdd Y (hGr h 400 s) (nI f) h = some (nI (odf c f)) := by
  have V := X.2.2.2.2
  have hF := V.2.2.2.2.2.1 f hf
  have l166 := hF.1.1.2
  unfold St_sumOdd
  refine upl (Q := fun r => r = some (nI (odf c f))) (fun F i (_ : Unit) => St_sumOdd_L4 Y (hGr h 400 s) (nI f) h F (nI (sm (fun k => if k < cN c (166 + f) then cN c (10 + cN c (174 + 6 * f + k)) else 0) i)) (nI i)) 6 (fun _ _ => True) ?_ ?_ 6 0 () FU (by omega) (by unfold FU; omega) trivial
  · intro F i _ hi _
    right
    refine ⟨(), ?_, trivial⟩
    show St_sumOdd_L4 Y (hGr h 400 s) (nI f) h (F + 1) _ (nI i) = St_sumOdd_L4 Y (hGr h 400 s) (nI f) h F (nI (sm (fun k => if k < cN c (166 + f) then cN c (10 + cN c (174 + 6 * f + k)) else 0) (i + 1))) (nI (i + 1))
    rw [St_sumOdd_L4]
    simp (disch := omega) only [zlit, nI_leI]
    rw [if_neg (by omega), St_turnInFinale_s X hf (by omega), bind_s]
    simp only [sm]
    by_cases q : i < cN c (166 + f)
    · rw [if_pos q, if_pos q, St_oddOf_s X (hF.2 i q).2, bind_s, nI_add, nI_add]
    · rw [if_neg q, if_neg q, St_oddOf_m X, bind_s, nI_add, nI_add]
  · intro F _ _
    show St_sumOdd_L4 Y (hGr h 400 s) (nI f) h (F + 1) _ (nI 6) = _
    rw [St_sumOdd_L4, if_pos (by decide)]
    have := sm_cut (f := fun k => cN c (10 + cN c (174 + 6 * f + k))) (n := cN c (166 + f)) (6 - cN c (166 + f))
    rw [show cN c (166 + f) + (6 - cN c (166 + f)) = 6 by omega] at this
    rw [this]
    rfl
theorem LP_oddness_q (X : CT Y h x c) (f : Int32) : CQ Y x h (LP_oddness Y x f h) (spOddness c f).1 (spOddness c f).2 := by
  have V := X.2.2.2.2
  have l3 := VC_l3 V
  unfold LP_oddness spOddness
  rw [St_hasFinale_s X.2.2.2.1 V, bind_s]
  rcases isAt_cases f (n := cN c 3) (by omega) with q | ⟨j, hj, rfl, q⟩
  · rw [q]; exact CQ_fail (Cf_rf Y h)
  · rw [q, if_pos rfl, if_pos rfl, nI_clamp (by omega), St_sumOdd_s X hj, bind_s]
    exact CQ_give (Cf_rf Y h)
end SCT
