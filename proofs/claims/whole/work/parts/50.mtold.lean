/-! ===== the reference: what is told of a shelf ===== -/
theorem isIn_c {x : Int32} {n : Nat} {k : Int64} (hn : n < 2 ^ 31) (hk : (nI n - 1).toInt64 = k) : (decide ((0 : Int64) ≤ x.toInt64) && decide (x.toInt64 ≤ k)) = isAt x n := by
  rw [← hk]; exact isIn_at hn
theorem isIn_1 {x : Int32} {n : Nat} (hn : n < 2 ^ 31) : (decide ((1 : Int64) ≤ x.toInt64) && decide (x.toInt64 ≤ (nI n).toInt64)) = isAt (x - 1) n := by
  have h1 := Int32.toInt_lt x
  have h2 := Int32.le_toInt x
  have e3 : ((1 : Int64) ≤ x.toInt64) = (1 ≤ x.toInt) := by
    rw [Int64.le_iff_toInt_le, Int32.toInt_toInt64]; rfl
  have e4 : (x.toInt64 ≤ (nI n).toInt64) = (x.toInt ≤ n) := by
    rw [Int64.le_iff_toInt_le, Int32.toInt_toInt64, Int32.toInt_toInt64, nI_toInt hn]
  have e5 : (x - 1).toInt = (x.toInt - 1).bmod (2 ^ 32) := by
    rw [Int32.toInt_sub]; rfl
  unfold isAt
  have e6 : ((0 : Int32) ≤ x - 1) = (0 ≤ (x.toInt - 1).bmod (2 ^ 32)) := by
    rw [Int32.le_iff_toInt_le, e5]; rfl
  have e7 : (x - 1 < nI n) = ((x.toInt - 1).bmod (2 ^ 32) < n) := by
    rw [Int32.lt_iff_toInt_lt, e5, nI_toInt hn]
  simp only [e3, e4, e6, e7]
  by_cases hm : x.toInt = -2 ^ 31
  · rw [hm]
    have : ((-2 ^ 31 : Int) - 1).bmod (2 ^ 32) = 2 ^ 31 - 1 := by decide
    rw [this]
    have a1 : ¬ (1 ≤ (-2 ^ 31 : Int)) := by decide
    have a2 : ¬ ((2 ^ 31 - 1 : Int) < n) := by omega
    simp [a2]
    omega
  · have : (x.toInt - 1).bmod (2 ^ 32) = x.toInt - 1 := by
      rw [Int.bmod_eq_of_le] <;> omega
    rw [this]
    by_cases a1 : 1 ≤ x.toInt <;> by_cases a2 : x.toInt ≤ n
    · simp [a1, a2]; omega
    · simp [a1, a2]; omega
    · simp [a1]
    · simp [a1]
section SM
variable {Y : Ly} {h : Hp} {m : Nat} {c : Nat → Int32}
theorem M_rules_s (X : MX Y h m c) : M_rules Y m h = some (nI (rcnt c)) := by
  obtain ⟨S, B, V⟩ := X
  unfold M_rules
  refine upl (Q := fun r => r = some (nI (rcnt c))) (fun F i (_ : Unit) => M_rules_L4 Y m h F (nI (sm (fun i => if c (18 + i) = m1 then 0 else 1) i)) (nI i)) 64 (fun _ _ => True) ?_ ?_ 64 0 () FU (by omega) (by unfold FU; omega) trivial
  · intro F i _ hi _
    right
    refine ⟨(), ?_, trivial⟩
    show M_rules_L4 Y m h (F + 1) _ (nI i) = M_rules_L4 Y m h F (nI (sm (fun i => if c (18 + i) = m1 then 0 else 1) (i + 1))) (nI (i + 1))
    have ok := (VR_ok V (s := i / 8) (t := i % 8) (by omega) (by omega)).n V
    rw [show 18 + 8 * (i / 8) + i % 8 = 18 + i by omega] at ok
    rw [M_rules_L4]
    simp (disch := omega) only [zlit, nI_add, ml1220 S, inB_nI, if_true, nI_clamp, MB0 B, nI_leI, sm]
    rw [if_neg (by omega)]
    by_cases q : c (18 + i) = m1
    · rw [if_neg (show ¬ nI 0 ≤ c (18 + i) from fun z => (numI_0 ok).mp z q), if_pos q]
    · rw [if_pos (show nI 0 ≤ c (18 + i) from (numI_0 ok).mpr q), if_neg q]
  · intro F _ _
    show M_rules_L4 Y m h (F + 1) _ (nI 64) = _
    rw [M_rules_L4, if_pos (by decide)]
    rfl
theorem bd_ok (V : VB c) {b : Nat} (hb : b < cN c 2) : numI (c (100 + b)) := by
  rcases (V.2.2.2.2.1 b hb).2.2.2.1 with e | e
  · exact Or.inl e
  · exact Or.inr ⟨_, by have := VC_l3 V; have := e.2; omega, e.1⟩
theorem M_bound_s (X : MX Y h m c) : M_bound Y m h = some (nI (bndS c)) := by
  obtain ⟨S, B, V⟩ := X
  have l2 := VC_l2 V
  unfold M_bound
  refine upl (Q := fun r => r = some (nI (bndS c))) (fun F i (_ : Unit) => M_bound_L4 Y m h F (nI (mk (fun b => decide (c (100 + b) ≠ m1)) i)) (nI i)) (cN c 2) (fun _ _ => True) ?_ ?_ (cN c 2) 0 () FU (by omega) (by unfold FU; omega) trivial
  · intro F i _ hi _
    right
    refine ⟨(), ?_, trivial⟩
    show M_bound_L4 Y m h (F + 1) _ (nI i) = M_bound_L4 Y m h F (nI (mk (fun b => decide (c (100 + b) ≠ m1)) (i + 1))) (nI (i + 1))
    rw [M_bound_L4]
    simp (disch := omega) only [zlit, nI_add, ml1220 S, inB_nI, if_true, nI_clamp, MB0 B, VC_e2 V, nI_leI, zand, zone, zor, mk]
    rw [if_neg (by omega)]
    by_cases q : c (100 + i) = m1
    · rw [if_neg (show ¬ nI 0 ≤ c (100 + i) from fun z => (numI_0 (bd_ok V hi)).mp z q), if_neg (by simpa using q)]
    · rw [if_pos (show nI 0 ≤ c (100 + i) from (numI_0 (bd_ok V hi)).mpr q), if_pos (by simpa using q)]
  · intro F _ _
    show M_bound_L4 Y m h (F + 1) _ (nI (cN c 2)) = _
    rw [M_bound_L4]
    simp (disch := omega) only [zlit, ml1220 S, inB_nI, if_true, nI_clamp, MB0 B, VC_e2 V, nI_leI]
    rw [if_pos (by omega)]
    rfl
theorem M_many_q (X : MX Y h m c) (w : Int32) : mQ Y m h (M_many Y m w h) (spMany c w).1 (spMany c w).2 := by
  have X0 := mX0 X
  have V := X.2.2
  have S := X0.1
  have B := X0.2.1
  unfold M_many spMany
  simp only [letH_e]
  rw [show hSi (hSi h 1201 m 0) 1200 m 0 = mst h m from rfl, M_isIn_s, bind_s, isIn_c (n := 12) (by omega) (by decide)]
  rcases isAt_cases w (n := 12) (by omega) with q | ⟨j, hj, rfl, q⟩
  · rw [q]; exact mQ_r (Mg_rf _ _ _)
  · rw [q, if_pos rfl, if_pos rfl, nI_clamp (by omega), M_rules_s X0, bind_s, M_bound_s X0, bind_s]
    by_cases j8 : j < 8
    · simp (disch := omega) only [zlit, nI_leI, ml1220 S, inB_nI, if_true, MB0 B, nI_clamp, mv]
      rw [if_neg (by omega), if_pos j8]
      exact mQ_e (Mg_rf _ _ _)
    · rcases (show j = 8 ∨ j = 9 ∨ j = 10 ∨ j = 11 by omega) with rfl | rfl | rfl | rfl
      · rw [if_pos (by decide), if_pos (by decide)]; exact mQ_e (Mg_rf _ _ _)
      · rw [if_pos (by decide), if_neg (by decide), if_pos (by decide)]
        simp (disch := omega) only [zlit, ml1220 S, inB_nI, if_true, MB0 B, nI_clamp]
        exact mQ_e (Mg_rf _ _ _)
      · rw [if_pos (by decide), if_neg (by decide), if_neg (by decide), if_pos (by decide)]; exact mQ_e (Mg_rf _ _ _)
      · rw [if_pos (by decide), if_neg (by decide), if_neg (by decide), if_neg (by decide)]
        simp (disch := omega) only [zlit, ml1220 S, inB_nI, if_true, MB0 B, nI_clamp]
        exact mQ_e (Mg_rf _ _ _)
theorem M_rule_q (X : MX Y h m c) (s t : Int32) : mQ Y m h (M_rule Y m s t h) (spRule c s t).1 (spRule c s t).2 := by
  have X0 := mX0 X
  have V := X.2.2
  have S := X0.1
  have B := X0.2.1
  have l0 := VC_l0 V
  have l1 := VC_l1 V
  unfold M_rule spRule
  simp only [letH_e]
  rw [show hSi (hSi h 1201 m 0) 1200 m 0 = mst h m from rfl, M_isStateAt_s S B V, bind_s, M_isTurnAt_s S B V, bind_s]
  rcases isAt_cases s (n := cN c 0) (by omega) with q | ⟨j, hj, rfl, q⟩
  · rw [q]; exact mQ_r (Mg_rf _ _ _)
  · rw [q, if_pos rfl]
    rcases isAt_cases t (n := cN c 1) (by omega) with q2 | ⟨k, hk, rfl, q2⟩
    · rw [q2]; exact mQ_r (Mg_rf _ _ _)
    · rw [q2, if_pos rfl, nI_clamp (by omega), nI_clamp (by omega), show (18 + 8 * nI j + nI k) = nI (18 + 8 * j + k) by simp only [zlit, nI_add, pk_mul], ml1220 S, if_pos (inB_nI (by omega) (by omega)), nI_clamp (by omega), MB0 B (by omega)]
      exact mQ_anyI ((VR_ok V (by omega) (by omega)).n V) (Mg_rf _ _ _)
theorem M_odd_q (X : MX Y h m c) (t : Int32) : mQ Y m h (M_odd Y m t h) (spOdd c t).1 (spOdd c t).2 := by
  have X0 := mX0 X
  have V := X.2.2
  have S := X0.1
  have B := X0.2.1
  have l1 := VC_l1 V
  unfold M_odd spOdd
  simp only [letH_e]
  rw [show hSi (hSi h 1201 m 0) 1200 m 0 = mst h m from rfl, M_isTurnAt_s S B V, bind_s]
  rcases isAt_cases t (n := cN c 1) (by omega) with q2 | ⟨k, hk, rfl, q2⟩
  · rw [q2]; exact mQ_r (Mg_rf _ _ _)
  · rw [q2, if_pos rfl, if_pos rfl]
    simp (disch := omega) only [zlit, nI_add, ml1220 S, inB_nI, if_true, MB0 B, nI_clamp]
    exact mQ_e (Mg_rf _ _ _)
theorem M_goesTo_s (X : MX Y h m c) {b : Nat} (hb : b < cN c 2) (hp : place c b = m1) : M_goesTo Y m (nI b) h = some (brk c b) := by
  obtain ⟨S, B, V⟩ := X
  have l0 := VC_l0 V
  have l1 := VC_l1 V
  have l2 := VC_l2 V
  have hK := V.2.2.2.2.1 b hb
  have l94 := hK.2.2.1.2
  unfold M_goesTo
  simp (disch := omega) only [zlit, nI_add, nI_clamp, ml1220 S, inB_nI, if_true, MB0 B, hK.1.1]
  have hb0 : brk c b ≠ m1 := by
    have := (brk_pl V hb (cN c (94 + b)) 0 (cN c (82 + b)) (by omega) hK.1.2).1
    rw [← hK.1.1] at this
    exact this.mp hp
  refine upl (Q := fun r => r = some (brk c b)) (fun F p st => M_goesTo_L12 Y m (nI b) h F (nI st) (nI p)) (cN c (94 + b)) (fun p st => st < cN c 0 ∧ brkF c b (cN c (94 + b) - p) p st = brk c b) ?_ ?_ (cN c (94 + b)) 0 (cN c (82 + b)) FU (by omega) (by unfold FU; omega) ⟨hK.1.2, rfl⟩
  · intro F p st hp hI
    show M_goesTo_L12 Y m (nI b) h (F + 1) (nI st) (nI p) = _ ∨ ∃ s', M_goesTo_L12 Y m (nI b) h (F + 1) (nI st) (nI p) = M_goesTo_L12 Y m (nI b) h F (nI s') (nI (p + 1)) ∧ _
    have hpg := hK.2.2.2.2 p hp
    have lpg := hpg.2
    rw [M_goesTo_L12]
    simp (disch := omega) only [zlit, nI_add, pk_mul, nI_clamp, ml1220 S, inB_nI, if_true, MB0 B, hK.2.2.1.1, nI_leI, hpg.1]
    rw [if_neg (by omega)]
    have e1 : brkF c b (cN c (94 + b) - p) p st = if c (18 + 8 * st + cN c (106 + 10 * b + p)) = m1 then nI p else brkF c b (cN c (94 + b) - (p + 1)) (p + 1) (cN c (18 + 8 * st + cN c (106 + 10 * b + p))) := by
      rw [show cN c (94 + b) - p = (cN c (94 + b) - (p + 1)) + 1 by omega]
      rfl
    rw [hI.2] at e1
    rcases V.2.2.2.1 st (cN c (106 + 10 * b + p)) (by omega) (by omega) with q | ⟨_, _, q1, q2⟩
    · left
      rw [q, if_neg (by decide), e1, if_pos q]
    · right
      have qn : ¬ c (18 + 8 * st + cN c (106 + 10 * b + p)) = m1 := by rw [q1, ne_m1 (by omega)]; exact fun z => z
      rw [q1, if_pos (nI_le (by omega) (by omega))]
      refine ⟨_, rfl, q2, ?_⟩
      rw [e1, if_neg qn]
  · intro F st hI
    have := hI.2
    rw [Nat.sub_self] at this
    exact absurd this.symm hb0
theorem M_book_q (X : MX Y h m c) (b w : Int32) : mQ Y m h (M_book Y m b w h) (spBook c b w).1 (spBook c b w).2 := by
  have X0 := mX0 X
  have V := X.2.2
  have S := X0.1
  have B := X0.2.1
  have l2 := VC_l2 V
  unfold M_book spBook
  simp only [letH_e]
  rw [show hSi (hSi h 1201 m 0) 1200 m 0 = mst h m from rfl, M_isBookAt_s S B V, bind_s, M_isIn_s, bind_s, isIn_c (n := 6) (by omega) (by decide)]
  rcases isAt_cases b (n := cN c 2) (by omega) with q | ⟨j, hj, rfl, q⟩
  · rw [q]; exact mQ_r (Mg_rf _ _ _)
  · have hK := V.2.2.2.2.1 j hj
    rw [q, if_pos rfl, if_pos rfl, nI_clamp (by omega)]
    rcases isAt_cases w (n := 6) (by omega) with q2 | ⟨k, hk, rfl, q2⟩
    · rw [q2]; exact mQ_r (Mg_rf _ _ _)
    · rw [q2, if_pos rfl, if_pos rfl, M_placeOf_s S B V hj, bind_s, bind_s, show (82 : Int32) + nI j = nI (82 + j) from nI_add 82 j, show (94 : Int32) + nI j = nI (94 + j) from nI_add 94 j, show (88 : Int32) + nI j = nI (88 + j) from nI_add 88 j, show (100 : Int32) + nI j = nI (100 + j) from nI_add 100 j, ml1220 S, inB_nI (show 82 + j < 2880 by omega) (by omega), inB_nI (show 94 + j < 2880 by omega) (by omega), inB_nI (show 88 + j < 2880 by omega) (by omega), inB_nI (show 100 + j < 2880 by omega) (by omega), nI_clamp (show 82 + j < 2 ^ 31 by omega), nI_clamp (show 94 + j < 2 ^ 31 by omega), nI_clamp (show 88 + j < 2 ^ 31 by omega), nI_clamp (show 100 + j < 2 ^ 31 by omega), MB0 B (show 82 + j < 576 by omega), MB0 B (show 94 + j < 576 by omega), MB0 B (show 88 + j < 576 by omega), MB0 B (show 100 + j < 576 by omega)]
      rcases (show k = 0 ∨ k = 1 ∨ k = 2 ∨ k = 3 ∨ k = 4 ∨ k = 5 by omega) with rfl | rfl | rfl | rfl | rfl | rfl
      · simp (decide := true) only [if_true, if_false]
        exact mQ_e (Mg_rf _ _ _)
      · simp (decide := true) only [if_true, if_false]
        exact mQ_e (Mg_rf _ _ _)
      · simp (decide := true) only [if_true, if_false]
        exact mQ_e (Mg_rf _ _ _)
      · simp (decide := true) only [if_true, if_false]
        exact mQ_anyI ((place_ok V hj).n V) (Mg_rf _ _ _)
      · simp (decide := true) only [if_true, if_false]
        have bp := brk_pl V hj (cN c (94 + j)) 0 (cN c (82 + j)) (by omega) hK.1.2
        rw [← hK.1.1] at bp
        by_cases e : place c j = m1
        · rw [if_neg (fun z => (numI_0 ((place_ok V hj).n V)).mp z e), M_goesTo_s X0 hj e, bind_s]
          exact mQ_anyI bp.2 (Mg_rf _ _ _)
        · rw [if_pos ((numI_0 ((place_ok V hj).n V)).mpr e)]
          have : brk c j = m1 := Classical.byContradiction (fun z => e (bp.1.mpr z))
          rw [this]
          exact mQ_r (Mg_rf _ _ _)
      · simp (decide := true) only [if_true, if_false]
        exact mQ_anyI (bd_ok V hj) (Mg_rf _ _ _)
theorem M_page_q (X : MX Y h m c) (b p : Int32) : mQ Y m h (M_page Y m b p h) (spPage c b p).1 (spPage c b p).2 := by
  have X0 := mX0 X
  have V := X.2.2
  have S := X0.1
  have B := X0.2.1
  have l2 := VC_l2 V
  unfold M_page spPage
  simp only [letH_e]
  rw [show hSi (hSi h 1201 m 0) 1200 m 0 = mst h m from rfl, M_isBookAt_s S B V, bind_s]
  rcases isAt_cases b (n := cN c 2) (by omega) with q | ⟨j, hj, rfl, q⟩
  · rw [q]; exact mQ_r (Mg_rf _ _ _)
  · have hK := V.2.2.2.2.1 j hj
    have l94 := hK.2.2.1.2
    rw [q, if_pos rfl, if_pos rfl, nI_clamp (by omega), show (94 : Int32) + nI j = nI (94 + j) from nI_add 94 j, ml1220 S, if_pos (inB_nI (by omega) (by omega)), nI_clamp (by omega), MB0 B (by omega), hK.2.2.1.1, M_isIn_s, bind_s, isIn_at (by omega)]
    rcases isAt_cases p (n := cN c (94 + j)) (by omega) with q2 | ⟨k, hk, rfl, q2⟩
    · rw [q2]; exact mQ_r (Mg_rf _ _ _)
    · rw [q2, if_pos rfl, if_pos rfl]
      simp (disch := omega) only [zlit, nI_add, pk_mul, inB_nI, if_true, MB0 B, nI_clamp]
      exact mQ_e (Mg_rf _ _ _)
theorem M_finale_q (X : MX Y h m c) (f p : Int32) : mQ Y m h (M_finale Y m f p h) (spFinale c f p).1 (spFinale c f p).2 := by
  have X0 := mX0 X
  have V := X.2.2
  have S := X0.1
  have B := X0.2.1
  have l3 := VC_l3 V
  unfold M_finale spFinale
  simp only [letH_e]
  rw [show hSi (hSi h 1201 m 0) 1200 m 0 = mst h m from rfl, M_isFinaleAt_s S B V, bind_s]
  rcases isAt_cases f (n := cN c 3) (by omega) with q | ⟨j, hj, rfl, q⟩
  · rw [q]; exact mQ_r (Mg_rf _ _ _)
  · have hF := V.2.2.2.2.2.1 j hj
    have l166 := hF.1.1.2
    rw [q, if_pos rfl, if_pos rfl, nI_clamp (by omega), show (166 : Int32) + nI j = nI (166 + j) from nI_add 166 j, ml1220 S, if_pos (inB_nI (by omega) (by omega)), nI_clamp (by omega), MB0 B (by omega), hF.1.1.1, M_isIn_s, bind_s, isIn_1 (by omega)]
    rcases isAt_cases (p - 1) (n := cN c (166 + j)) (by omega) with q2 | ⟨k, hk, e, q2⟩
    · rw [q2]; exact mQ_r (Mg_rf _ _ _)
    · have ep : p = nI (k + 1) := by
        have : p = (p - 1) + 1 := by rw [Int32.sub_add_cancel]
        rw [this, e, nI_1]
      rw [q2, if_pos rfl, if_pos rfl, e, nI_clamp (by omega), ep, show (174 + 6 * nI j + nI (k + 1)) - 1 = nI (174 + 6 * j + k) by simp only [zlit, nI_add, pk_mul]; rw [show 174 + 6 * j + (k + 1) = (174 + 6 * j + k) + 1 by omega]; exact nI_pred _, if_pos (inB_nI (by omega) (by omega)), nI_clamp (by omega), MB0 B (by omega)]
      exact mQ_e (Mg_rf _ _ _)
theorem M_hint_q (X : MX Y h m c) (i w : Int32) : mQ Y m h (M_hint Y m i w h) (spHint c i w).1 (spHint c i w).2 := by
  have X0 := mX0 X
  have V := X.2.2
  have S := X0.1
  have B := X0.2.1
  have l5 := VC_l5 V
  unfold M_hint spHint
  simp only [letH_e]
  rw [show hSi (hSi h 1201 m 0) 1200 m 0 = mst h m from rfl, ml1220 S, if_pos (show inB 5 2880 = true from inB_nI (i := 5) (by omega) (by omega)), show hAi (mst h m) (hGr (mst h m) 1220 m) (Int32.toNatClampNeg 5) = c 5 from MB0 B (i := 5) (by omega), VC_e5 V, M_isIn_s, bind_s, isIn_at (by omega), M_isIn_s, bind_s, isIn_c (n := 4) (by omega) (by decide)]
  rcases isAt_cases i (n := cN c 5) (by omega) with q | ⟨j, hj, rfl, q⟩
  · rw [q]; exact mQ_r (Mg_rf _ _ _)
  · rw [q, if_pos rfl]
    rcases isAt_cases w (n := 4) (by omega) with q2 | ⟨k, hk, rfl, q2⟩
    · rw [q2]; exact mQ_r (Mg_rf _ _ _)
    · rw [q2, if_pos rfl]
      simp (disch := omega) only [zlit, nI_add, pk_mul, inB_nI, if_true, MB0 B, nI_clamp, Bool.and_self]
      exact mQ_e (Mg_rf _ _ _)

theorem M_offer_q (X : MX Y h m c) (i w : Int32) : mQ Y m h (M_offer Y m i w h) (spLot c (cN c 6) 270 276 i w).1 (spLot c (cN c 6) 270 276 i w).2 := by
  have X0 := mX0 X
  have V := X.2.2
  have S := X0.1
  have B := X0.2.1
  have l5 := VC_l6 V
  unfold M_offer spLot
  simp only [letH_e]
  rw [show hSi (hSi h 1201 m 0) 1200 m 0 = mst h m from rfl, ml1220 S, if_pos (show inB 6 2880 = true from inB_nI (i := 6) (by omega) (by omega)), show hAi (mst h m) (hGr (mst h m) 1220 m) (Int32.toNatClampNeg 6) = c 6 from MB0 B (i := 6) (by omega), VC_e6 V, M_isIn_s, bind_s, isIn_at (by omega)]
  rcases isAt_cases i (n := cN c 6) (by omega) with q | ⟨j, hj, rfl, q⟩
  · rw [q]; exact mQ_r (Mg_rf _ _ _)
  · rw [q, if_pos rfl, if_pos rfl]
    simp (disch := omega) only [zlit, nI_add, inB_nI, if_true, MB0 B, nI_clamp]
    by_cases e1 : w = nI 0
    · rw [if_pos e1, if_pos e1]; exact mQ_e (Mg_rf _ _ _)
    · rw [if_neg e1, if_neg e1]
      by_cases e2 : w = nI 1
      · rw [if_pos e2, if_pos e2]; exact mQ_e (Mg_rf _ _ _)
      · rw [if_neg e2, if_neg e2]; exact mQ_r (Mg_rf _ _ _)
theorem M_watch_q (X : MX Y h m c) (i w : Int32) : mQ Y m h (M_watch Y m i w h) (spLot c (cN c 7) 282 290 i w).1 (spLot c (cN c 7) 282 290 i w).2 := by
  have X0 := mX0 X
  have V := X.2.2
  have S := X0.1
  have B := X0.2.1
  have l5 := VC_l7 V
  unfold M_watch spLot
  simp only [letH_e]
  rw [show hSi (hSi h 1201 m 0) 1200 m 0 = mst h m from rfl, ml1220 S, if_pos (show inB 7 2880 = true from inB_nI (i := 7) (by omega) (by omega)), show hAi (mst h m) (hGr (mst h m) 1220 m) (Int32.toNatClampNeg 7) = c 7 from MB0 B (i := 7) (by omega), VC_e7 V, M_isIn_s, bind_s, isIn_at (by omega)]
  rcases isAt_cases i (n := cN c 7) (by omega) with q | ⟨j, hj, rfl, q⟩
  · rw [q]; exact mQ_r (Mg_rf _ _ _)
  · rw [q, if_pos rfl, if_pos rfl]
    simp (disch := omega) only [zlit, nI_add, inB_nI, if_true, MB0 B, nI_clamp]
    by_cases e1 : w = nI 0
    · rw [if_pos e1, if_pos e1]; exact mQ_e (Mg_rf _ _ _)
    · rw [if_neg e1, if_neg e1]
      by_cases e2 : w = nI 1
      · rw [if_pos e2, if_pos e2]; exact mQ_e (Mg_rf _ _ _)
      · rw [if_neg e2, if_neg e2]; exact mQ_r (Mg_rf _ _ _)
theorem M_oddOf_s (X : MX Y h m c) {f : Nat} (hf : f < cN c 3) : M_oddOf Y m (nI f) h = some (nI (odf c f)) := by
  obtain ⟨S, B, V⟩ := X
  have l1 := VC_l1 V
  have l3 := VC_l3 V
  have hF := V.2.2.2.2.2.1 f hf
  have l166 := hF.1.1.2
  unfold M_oddOf
  refine upl (Q := fun r => r = some (nI (odf c f))) (fun F i (_ : Unit) => M_oddOf_L4 Y m (nI f) h F (nI (sm (fun k => cN c (10 + cN c (174 + 6 * f + k))) i)) (nI i)) (cN c (166 + f)) (fun _ _ => True) ?_ ?_ (cN c (166 + f)) 0 () FU (by omega) (by unfold FU; omega) trivial
  · intro F i _ hi _
    right
    refine ⟨(), ?_, trivial⟩
    show M_oddOf_L4 Y m (nI f) h (F + 1) _ (nI i) = M_oddOf_L4 Y m (nI f) h F (nI (sm (fun k => cN c (10 + cN c (174 + 6 * f + k))) (i + 1))) (nI (i + 1))
    have hk := hF.2 i hi
    have hk2 := hk.2
    have ho := V.2.2.1 _ hk2
    rw [M_oddOf_L4]
    simp (disch := omega) only [zlit, nI_add, pk_mul, ml1220 S, inB_nI, if_true, MB0 B, nI_clamp, hF.1.1.1, nI_leI, hk.1, ho.1, sm]
    rw [if_neg (by omega)]
  · intro F _ _
    show M_oddOf_L4 Y m (nI f) h (F + 1) _ (nI (cN c (166 + f))) = _
    rw [M_oddOf_L4]
    simp (disch := omega) only [zlit, nI_add, ml1220 S, inB_nI, if_true, MB0 B, nI_clamp, hF.1.1.1, nI_leI]
    rw [if_pos (by omega)]
    rfl
theorem M_oddness_q (X : MX Y h m c) (f : Int32) : mQ Y m h (M_oddness Y m f h) (spOddness c f).1 (spOddness c f).2 := by
  have X0 := mX0 X
  have V := X.2.2
  have S := X0.1
  have B := X0.2.1
  have l3 := VC_l3 V
  unfold M_oddness spOddness
  simp only [letH_e]
  rw [show hSi (hSi h 1201 m 0) 1200 m 0 = mst h m from rfl, M_isFinaleAt_s S B V, bind_s]
  rcases isAt_cases f (n := cN c 3) (by omega) with q | ⟨j, hj, rfl, q⟩
  · rw [q]; exact mQ_r (Mg_rf _ _ _)
  · rw [q, if_pos rfl, if_pos rfl, nI_clamp (by omega), M_oddOf_s X0 hj, bind_s]
    exact mQ_e (Mg_rf _ _ _)
end SM
