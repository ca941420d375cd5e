/-! ===== watches: the class; the calls of offers and watches ===== -/
section WC
variable {Y : Ly} {h : Hp} {x s : Nat} {c : Nat → Int32}
theorem Lo_howOftenIn_s (X : CX Y h x s c) {a b : Nat} (ha : a < 2 ^ 31) (hb : b < 32) : Lo_howOftenIn Y (hGr h 402 s) (nI a) (nI b) h = some (nI (gcnt c a b)) := by
  obtain ⟨e, ⟨M, m1', m2', m3, m4⟩, r⟩ := LT_w X
  unfold Lo_howOftenIn
  refine upl (Q := fun r => r = some (nI (gcnt c a b))) (fun F i (_ : Unit) => Lo_howOftenIn_L5 Y (hGr h 402 s) (nI a) (nI b) h F (nI (sm (fun i => if a.testBit i && (cN c (290 + i)).testBit b then 1 else 0) i)) (nI i)) (cN c 7) (fun _ _ => True) ?_ ?_ (cN c 7) 0 () FU (by omega) (by unfold FU; omega) trivial
  · intro F i _ hi _
    right
    refine ⟨(), ?_, trivial⟩
    have r2 := (r i hi).2.2
    show Lo_howOftenIn_L5 Y (hGr h 402 s) (nI a) (nI b) h (F + 1) _ (nI i) = Lo_howOftenIn_L5 Y (hGr h 402 s) (nI a) (nI b) h F (nI (sm (fun i => if a.testBit i && (cN c (290 + i)).testBit b then 1 else 0) (i + 1))) (nI (i + 1))
    rw [Lo_howOftenIn_L5, e, m4]
    simp (disch := omega) only [zlit, nI_leI, LP_has_s, bind_s, inB_nI, if_true, nI_clamp, (r i hi).2.1, nI_add, sm]
    rw [if_neg (by omega)]
    by_cases q1 : a.testBit i = true
    · rw [if_pos q1]
      by_cases q2 : (cN c (290 + i)).testBit b = true
      · rw [if_pos q2, if_pos (by rw [q1, q2]; rfl)]
      · rw [if_neg q2, if_neg (by rw [q1]; simpa using q2)]
    · rw [if_neg q1, if_neg (by simp [q1])]
  · intro F _ _
    show Lo_howOftenIn_L5 Y (hGr h 402 s) (nI a) (nI b) h (F + 1) _ (nI (cN c 7)) = _
    rw [Lo_howOftenIn_L5, e, if_pos (nI_le (Nat.le_refl _) (by omega))]
    rfl
theorem gcnt_le {c : Nat → Int32} (V : VB c) (a b : Nat) : gcnt c a b ≤ 8 := by
  have l7 := VC_l7 V
  have : gcnt c a b ≤ cN c 7 * 1 := sm_le (cN c 7) (fun i hi => by split <;> omega)
  omega
theorem Sh_guardsAll_s (X : CX Y h x s c) {a g : Nat} (ha : a < 2 ^ 31) (hg : g < 2 ^ 31) : Sh_guardsAll Y s (nI a) (nI g) h = some (gdB c g a) := by
  have V := X.2.2.2.2
  have l2 := VC_l2 V
  unfold Sh_guardsAll
  refine upl (Q := fun r => r = some (gdB c g a)) (fun F i (_ : Unit) => Sh_guardsAll_L2 Y s (nI a) (nI g) h F (nI i)) (cN c 2) (fun i _ => alln (fun b => decide (g ≤ gcnt c a b)) i = true) ?_ ?_ (cN c 2) 0 () FU (by omega) (by unfold FU; omega) rfl
  · intro F i _ hi hI
    have hgc := gcnt_le V a i
    show Sh_guardsAll_L2 Y s (nI a) (nI g) h (F + 1) (nI i) = _ ∨ ∃ _ : Unit, Sh_guardsAll_L2 Y s (nI a) (nI g) h (F + 1) (nI i) = Sh_guardsAll_L2 Y s (nI a) (nI g) h F (nI (i + 1)) ∧ _
    rw [Sh_guardsAll_L2, X.2.2.2.1.1.2.2.1, VC_e2 V, if_neg (nI_ge hi (by omega)), Lo_howOftenIn_s X ha (by omega), bind_s, nI_1]
    simp (disch := omega) only [nI_leI]
    by_cases q : g ≤ gcnt c a i
    · right
      rw [if_pos q]
      exact ⟨(), rfl, by simp only [alln, hI, Bool.true_and]; simpa using q⟩
    · left
      rw [if_neg q]
      have : ¬ gdB c g a = true := by
        unfold gdB
        rw [alln_iff]
        intro H
        have := H i hi
        simp at this
        exact q this
      rw [Bool.not_eq_true] at this
      rw [this]
  · intro F _ hI
    show Sh_guardsAll_L2 Y s (nI a) (nI g) h (F + 1) (nI (cN c 2)) = _
    rw [Sh_guardsAll_L2, X.2.2.2.1.1.2.2.1, VC_e2 V, if_pos (nI_le (Nat.le_refl _) (by omega))]
    unfold gdB
    rw [hI]
theorem Sh_bestWatches_s (X : CX Y h x s c) {g : Nat} (hg : g < 2 ^ 31) : Sh_bestWatches Y s (nI g) h = some (on (grdS c g)) := by
  have V := X.2.2.2.2
  have l7 := VC_l7 V
  have p7 := pow_le8 l7
  let q : Nat → Option Nat → Bool := fun a o => (match o with | none => true | some k => chp c 282 (cN c 7) a k) && gdB c g a
  unfold Sh_bestWatches
  refine upl (Q := fun r => r = some (on (grdS c g))) (fun F i (_ : Unit) => Sh_bestWatches_L4 Y s (nI g) h F (on (scan q none i)) (nI i)) (2 ^ cN c 7) (fun _ _ => True) ?_ ?_ (2 ^ cN c 7) 0 () FU (by omega) (by unfold FU; omega) trivial
  · intro F i _ hi _
    right
    refine ⟨(), ?_, trivial⟩
    have hl := scan_lt (q := q) (o := none) (M := 2 ^ cN c 7) (fun k hk => by cases hk) i (by omega)
    show Sh_bestWatches_L4 Y s (nI g) h (F + 1) (on (scan q none i)) (nI i) = Sh_bestWatches_L4 Y s (nI g) h F (on (scan q none (i + 1))) (nI (i + 1))
    rw [Sh_bestWatches_L4, (LT_w X).1, Sh_guardsAll_s X (by omega) hg]
    simp (disch := omega) only [bind_s, zlit, zneg, zand, zone, nI_leI, nI_add, scan]
    rw [if_neg (by omega)]
    show _ = Sh_bestWatches_L4 Y s (nI g) h F (on (if ((match scan q none i with | none => true | some k => chp c 282 (cN c 7) i k) && gdB c g i) = true then some i else scan q none i)) (nI (i + 1))
    cases hsc : scan q none i with
    | none =>
      rw [if_pos (show on none = m1 from rfl)]
      cases gdB c g i <;> simp [on]
    | some k =>
      have hk := hl k hsc
      have nk : ¬ nI k = m1 := by rw [ne_m1 (by omega)]; exact fun z => z
      rw [show on (some k) = nI k from rfl, if_neg nk, Lo_isCheaper_s (LT_w X) (by omega) (by omega) (by omega), bind_s]
      by_cases c1 : chp c 282 (cN c 7) i k = true
      · by_cases c2 : gdB c g i = true
        · rw [if_pos c1, if_pos c2]; simp [c1, c2, on]
        · rw [if_pos c1, if_neg c2]; simp [c2, on]
      · rw [if_neg c1]; simp [c1, on]
  · intro F _ _
    show Sh_bestWatches_L4 Y s (nI g) h (F + 1) (on (scan q none (2 ^ cN c 7))) (nI (2 ^ cN c 7)) = _
    rw [Sh_bestWatches_L4, (LT_w X).1]
    simp (disch := omega) only [zlit, zand, zone, nI_leI]
    rw [if_pos (by omega)]
    rfl
theorem gcnt_all (c : Nat → Int32) {w : Nat} (hw : w = cN c 7) (hw2 : w < 9) (b : Nat) : gcnt c (2 ^ w - 1) b = gcnt c 255 b := by
  unfold gcnt
  refine sm_congr _ (fun i hi => ?_)
  rw [Nat.testBit_two_pow_sub_one, show (255 : Nat) = 2 ^ 8 - 1 from rfl, Nat.testBit_two_pow_sub_one]
  simp [show i < w by omega, show i < 8 by omega]
theorem Sh_leastGuarded_s (X : CX Y h x s c) : Sh_leastGuarded Y s h = some (on (barS c)) := by
  have V := X.2.2.2.2
  have l2 := VC_l2 V
  have l7 := VC_l7 V
  have p7 := pow_le8 l7
  have p7' := Nat.two_pow_pos (cN c 7)
  let q : Nat → Option Nat → Bool := fun b o => match o with | none => true | some k => decide (gcnt c 255 b < gcnt c 255 k)
  have ho : ∀ i, i ≤ cN c 2 → ∀ k, scan q none i = some k → k < cN c 2 := fun i hi => scan_lt (fun k hk => by cases hk) i hi
  unfold Sh_leastGuarded
  rw [(LT_w X).1]
  simp (disch := omega) only [zlit, zneg, zand, zone, pk_sub]
  refine upl (Q := fun r => r = some (on (barS c))) (fun F i (l3 : Nat) => Sh_leastGuarded_L20 Y s (nI (2 ^ cN c 7 - 1)) h F (on (scan q none i)) (nI l3) (nI i)) (cN c 2) (fun i l3 => l3 = match scan q none i with | none => 9 | some k => gcnt c 255 k) ?_ ?_ (cN c 2) 0 9 FU (by omega) (by unfold FU; omega) rfl
  · intro F i l3 hi hI
    right
    have hgc := gcnt_le V 255 i
    show ∃ s', Sh_leastGuarded_L20 Y s (nI (2 ^ cN c 7 - 1)) h (F + 1) (on (scan q none i)) (nI l3) (nI i) = Sh_leastGuarded_L20 Y s (nI (2 ^ cN c 7 - 1)) h F (on (scan q none (i + 1))) (nI s') (nI (i + 1)) ∧ _
    rw [Sh_leastGuarded_L20, X.2.2.2.1.1.2.2.1, VC_e2 V, if_neg (nI_ge hi (by omega)), Lo_howOftenIn_s X (by omega) (by omega), bind_s, nI_1, gcnt_all c rfl l7]
    have e1 : scan q none (i + 1) = if (match scan q none i with | none => true | some k => decide (gcnt c 255 i < gcnt c 255 k)) = true then some i else scan q none i := rfl
    rw [e1]
    cases hsc : scan q none i with
    | none =>
      rw [hsc] at hI
      simp only at hI
      rw [hI, if_neg (nI_ge (by omega) (by omega))]
      refine ⟨gcnt c 255 i, ?_, ?_⟩
      · simp [on]
      · simp
    | some k =>
      rw [hsc] at hI
      simp only at hI
      have hgk := gcnt_le V 255 k
      rw [hI]
      simp (disch := omega) only [nI_leI]
      by_cases c1 : gcnt c 255 i < gcnt c 255 k
      · rw [if_neg (by omega)]
        refine ⟨gcnt c 255 i, ?_, ?_⟩
        · simp [c1, on]
        · simp [c1]
      · rw [if_pos (by omega)]
        refine ⟨gcnt c 255 k, ?_, ?_⟩
        · simp [c1, on]
        · simp [c1]
  · intro F l3 hI
    show Sh_leastGuarded_L20 Y s (nI (2 ^ cN c 7 - 1)) h (F + 1) (on (scan q none (cN c 2))) (nI l3) (nI (cN c 2)) = _
    rw [Sh_leastGuarded_L20, X.2.2.2.1.1.2.2.1, VC_e2 V, if_pos (nI_le (Nat.le_refl _) (by omega))]
    rfl
end WC
/-- a number between, told by two tests -/
theorem isAt_neg {w : Int32} {n : Nat} (hn : n < 2 ^ 31) (h : isAt w n = false) (h0 : ¬ w < 0) : nI n ≤ w := by
  obtain ⟨i, hi, rfl⟩ := nI_of h0
  rw [nI_leI hn hi]
  apply Nat.le_of_not_lt
  intro q
  rw [isAt_nI q hn] at h
  cases h
section WCT
variable {Y : Ly} {h : Hp} {x : Nat} {c : Nat → Int32}
theorem LP_known_q (X : CT Y h x c) (a : Int32) : CQ Y x h (LP_known Y x a h) (spKnown c a).1 (spKnown c a).2 := by
  have V := X.2.2.2.2
  have l6 := VC_l6 V
  have p6 := pow_le6 l6
  unfold LP_known spKnown
  rw [(LT_o X).1]
  simp (disch := omega) only [zlit, zand, zone]
  rcases isAt_cases a (n := 2 ^ cN c 6) (by omega) with q | ⟨j, hj, rfl, q⟩
  · rw [q]
    by_cases e1 : a < nI 0
    · rw [if_pos e1]; exact CQ_fail (Cf_rf Y h)
    · have := isAt_neg (by omega) q e1
      rw [if_neg e1, if_neg (by rw [Int32.lt_iff_toInt_lt]; rw [Int32.le_iff_toInt_le] at this; omega)]
      exact CQ_fail (Cf_rf Y h)
  · rw [q, if_pos rfl, if_neg (nI_nlt (by omega) (by omega)), if_pos (nI_lt hj (by omega)), nI_clamp (by omega), Sh_knownBy_s X (by omega), bind_s]
    exact CQ_give (Cf_rf Y h)
theorem le999 {a : Int32} (h : nI 1000 ≤ a) : ¬ a ≤ nI 999 := by
  rw [Int32.le_iff_toInt_le] at h ⊢
  rw [nI_toInt (by omega)] at h ⊢
  omega
theorem LP_buySet_q (X : CT Y h x c) (a : Int32) : CQ Y x h (LP_buySet Y x a h) (spBuySet c a).1 (spBuySet c a).2 := by
  unfold LP_buySet spBuySet
  simp only [zlit]
  rcases isAt_cases a (n := 1000) (by omega) with q | ⟨j, hj, rfl, q⟩
  · rw [q]
    by_cases e1 : a < nI 0
    · rw [if_pos e1]; exact CQ_fail (Cf_rf Y h)
    · rw [if_neg e1, if_neg (le999 (isAt_neg (by omega) q e1))]
      exact CQ_fail (Cf_rf Y h)
  · rw [q, if_pos rfl, if_neg (nI_nlt (by omega) (by omega)), if_pos (nI_le (by omega) (by omega)), nI_clamp (by omega), Sh_bestOffers_s X hj, bind_s]
    exact CQ_give (Cf_rf Y h)
theorem buyS_lt {c : Nat → Int32} (V : VB c) (u : Nat) : buyS c u < 64 := by
  have p6 := pow_le6 (VC_l6 V)
  have := scanN_lt (q := fun a o => decide (cstS c 270 (cN c 6) a ≤ u) && betB c a o) (o := 0) (M := 2 ^ cN c 6) (Nat.two_pow_pos _) _ (Nat.le_refl _)
  unfold buyS
  omega
theorem LP_buy_q (X : CT Y h x c) (a : Int32) : CQ Y x h (LP_buy Y x a h) (spBuy c a).1 (spBuy c a).2 := by
  have V := X.2.2.2.2
  have p2 := pow_le6 (VC_l2 V)
  unfold LP_buy spBuy
  simp only [zlit]
  rcases isAt_cases a (n := 1000) (by omega) with q | ⟨j, hj, rfl, q⟩
  · rw [q]
    by_cases e1 : a < nI 0
    · rw [if_pos e1]; exact CQ_fail (Cf_rf Y h)
    · rw [if_neg e1, if_neg (le999 (isAt_neg (by omega) q e1))]
      exact CQ_fail (Cf_rf Y h)
  · have hb := buyS_lt V j
    have hk := kn_lt V (buyS c j)
    rw [q, if_pos rfl, if_neg (nI_nlt (by omega) (by omega)), if_pos (nI_le (by omega) (by omega)), nI_clamp (by omega), Sh_bestOffers_s X hj, bind_s, Sh_knownBy_s X (by omega), bind_s, J_bitCount_s (by omega), bind_s]
    exact CQ_give (Cf_rf Y h)
theorem anyP_on {o : Option Nat} (ho : ∀ k, o = some k → k < 2 ^ 31) : anyI (on o) = anyP o := by
  unfold anyI
  cases o with
  | none => simp [on, anyP]
  | some k =>
    have nk : ¬ nI k = m1 := by rw [ne_m1 (ho k rfl)]; exact fun z => z
    rw [if_neg (show ¬ on (some k) = m1 from nk)]
    rfl
theorem chpS_lt {c : Nat → Int32} (V : VB c) : ∀ k, chpS c = some k → k < 801 := by
  intro k hk
  have l6 := VC_l6 V
  exact scanV_lt _ (fun i _ => by have := cstS_le (c := c) (k := 270) (n := cN c 6) (a := i) (by omega) (fun o ho => ((offs V).1 o ho).1); omega) k hk
theorem grdS_lt {c : Nat → Int32} (V : VB c) (g : Nat) : ∀ k, grdS c g = some k → k < 256 := by
  intro k hk
  have p7 := pow_le8 (VC_l7 V)
  have := scan_lt (M := 2 ^ cN c 7) (fun k hk => by cases hk) _ (Nat.le_refl _) k hk
  omega
theorem barS_lt {c : Nat → Int32} (V : VB c) : ∀ k, barS c = some k → k < cN c 2 := fun k hk => scan_lt (fun k hk => by cases hk) _ (Nat.le_refl _) k hk
theorem LP_cheapest_q (X : CT Y h x c) : CQ Y x h (LP_cheapest Y x h) (anyP (chpS c)).1 (anyP (chpS c)).2 := by
  unfold LP_cheapest
  rw [Sh_leastCost_s X, bind_s]
  exact CQ_any (Cf_rf Y h) (fun k hk => by have := chpS_lt X.2.2.2.2 k hk; omega)
theorem LP_barest_q (X : CT Y h x c) : CQ Y x h (LP_barest Y x h) (anyP (barS c)).1 (anyP (barS c)).2 := by
  unfold LP_barest
  rw [Sh_leastGuarded_s X, bind_s]
  exact CQ_any (Cf_rf Y h) (fun k hk => by have := barS_lt X.2.2.2.2 k hk; have := VC_l2 X.2.2.2.2; omega)
theorem g_cases (g : Int32) : (isAt (g - 1) 3 = false ∧ (g < nI 1 ∨ (¬ g < nI 1 ∧ ¬ g ≤ nI 3))) ∨ ∃ j, j < 3 ∧ g - 1 = nI j ∧ g = nI (j + 1) ∧ isAt (g - 1) 3 = true := by
  rcases isAt_cases (g - 1) (n := 3) (by omega) with q | ⟨j, hj, e, q⟩
  · left
    refine ⟨q, ?_⟩
    by_cases h1 : g < nI 1
    · exact Or.inl h1
    · refine Or.inr ⟨h1, fun h3 => ?_⟩
      have hp : ¬ g < 0 := by
        intro z
        apply h1
        rw [Int32.lt_iff_toInt_lt] at z ⊢
        rw [nI_toInt (by omega)]
        have : (0 : Int32).toInt = 0 := by decide
        omega
      obtain ⟨i, hi, rfl⟩ := nI_of hp
      rw [nI_ltI hi (by omega)] at h1
      rw [nI_leI hi (by omega)] at h3
      obtain ⟨i, rfl⟩ : ∃ i', i = i' + 1 := ⟨i - 1, by omega⟩
      rw [nI_pred, isAt_nI (by omega) (by omega)] at q
      cases q
  · right
    refine ⟨j, hj, e, ?_, q⟩
    have : g = (g - 1) + 1 := by rw [Int32.sub_add_cancel]
    rw [this, e, nI_1]
theorem LP_guardSet_q (X : CT Y h x c) (g : Int32) : CQ Y x h (LP_guardSet Y x g h) (spGuardSet c g).1 (spGuardSet c g).2 := by
  unfold LP_guardSet spGuardSet
  rcases g_cases g with ⟨q, e1 | ⟨e1, e2⟩⟩ | ⟨j, hj, e1, e2, q⟩
  · rw [q, if_pos (show g < 1 from e1)]; exact CQ_fail (Cf_rf Y h)
  · rw [q, if_neg (show ¬ g < 1 from e1), if_neg (show ¬ g ≤ 3 from e2)]; exact CQ_fail (Cf_rf Y h)
  · rw [q, if_pos rfl, e1, nI_clamp (by omega), e2, if_neg (show ¬ nI (j + 1) < 1 from nI_nlt (b := 1) (by omega) (by omega)), if_pos (show nI (j + 1) ≤ 3 from nI_le (b := 3) (by omega) (by omega)), Sh_bestWatches_s X (by omega), bind_s]
    exact CQ_any (Cf_rf Y h) (fun k hk => by have := grdS_lt X.2.2.2.2 _ k hk; omega)
theorem LP_guard_q (X : CT Y h x c) (g : Int32) : CQ Y x h (LP_guard Y x g h) (spGuard c g).1 (spGuard c g).2 := by
  have V := X.2.2.2.2
  have l7 := VC_l7 V
  unfold LP_guard spGuard
  rcases g_cases g with ⟨q, e1 | ⟨e1, e2⟩⟩ | ⟨j, hj, e1, e2, q⟩
  · rw [q, if_pos (show g < 1 from e1)]; exact CQ_fail (Cf_rf Y h)
  · rw [q, if_neg (show ¬ g < 1 from e1), if_neg (show ¬ g ≤ 3 from e2)]; exact CQ_fail (Cf_rf Y h)
  · rw [q, if_pos rfl, e1, nI_clamp (by omega), e2, if_neg (show ¬ nI (j + 1) < 1 from nI_nlt (b := 1) (by omega) (by omega)), if_pos (show nI (j + 1) ≤ 3 from nI_le (b := 3) (by omega) (by omega)), Sh_bestWatches_s X (by omega), bind_s]
    have hl := grdS_lt V (j + 1)
    cases hsc : grdS c (j + 1) with
    | none =>
      rw [if_pos (show on none = -1 from rfl)]
      exact CQ_anyI (v := m1) (Cf_rf Y h)
    | some k =>
      have hk := hl k hsc
      have h1 : cstS c 282 (cN c 7) k ≤ 800 := cstS_le (by omega) (fun o ho => ((offs V).2.1 o ho).1)
      have nk : ¬ nI k = m1 := by rw [ne_m1 (by omega)]; exact fun z => z
      rw [if_neg (show ¬ on (some k) = -1 from nk), show on (some k) = nI k from rfl, Lo_costOfSet_s (LT_w X) (by omega), bind_s]
      have := CQ_any (Y := Y) (x := x) (o := some (cstS c 282 (cN c 7) k)) (Cf_rf Y h) (fun i hi => by cases hi; omega)
      exact this
end WCT
