/-! ===== next, may ===== -/
def mxF (f : Nat → Nat) : Nat → Nat
  | 0 => 0
  | n + 1 => if f n < mxF f n then mxF f n else f n
theorem mxF_lt {f : Nat → Nat} {M : Nat} (hM : 0 < M) : ∀ n, (∀ i, i < n → f i < M) → mxF f n < M := by
  intro n
  induction n with
  | zero => intro _; exact hM
  | succ n ih =>
    intro H
    rw [mxF]
    have := ih (fun i hi => H i (by omega))
    have := H n (by omega)
    split <;> omega
def mx (c : Nat → Int32) (b p : Nat) : Nat := mxF (HV c b p) (cN c 1)
def nxQ (c : Nat → Int32) (b p : Nat) (o : Option Nat) : Bool := match o with
  | none => true
  | some k => decide (mx c b p < mx c b k)
def nxS (c : Nat → Int32) (b n : Nat) : Option Nat := scan (nxQ c b) none n
def fewO (c : Nat → Int32) (b : Nat) (o : Option Nat) : Nat := match o with
  | none => 0
  | some k => mx c b k
def plus1 (o : Option Nat) : Int32 := match o with
  | none => m1
  | some k => nI (k + 1)
theorem mx_lt {c : Nat → Int32} (V : VB c) {b p : Nat} (hb : b < cN c 2) (hp : p < cN c (88 + b)) : mx c b p < 2 ^ 60 := mxF_lt (by decide) _ (fun t _ => HV_le V hb hp t)
theorem nxS_lt (c : Nat → Int32) (b n : Nat) : ∀ k, nxS c b n = some k → k < n := fun k hk => scan_lt (fun k hk => by cases hk) n (Nat.le_refl _) k hk
theorem nxS_some (c : Nat → Int32) (b n : Nat) (hn : 0 < n) : ∃ k, nxS c b n = some k := by
  have : ∀ n, 0 < n → ∃ k, scan (nxQ c b) none n = some k := by
    intro n
    induction n with
    | zero => intro h; omega
    | succ n ih =>
      intro _
      rw [scan]
      by_cases q : 0 < n
      · obtain ⟨k, hk⟩ := ih q
        rw [hk]
        split
        · exact ⟨n, rfl⟩
        · exact ⟨k, rfl⟩
      · have : n = 0 := by omega
        subst this
        exact ⟨0, rfl⟩
  exact this n hn
theorem lmax {a q : Nat} (ha : a < 2 ^ 60) (hq : q < 2 ^ 60) : (if lN q < lN a then lN a else lN q) = lN (if q < a then a else q) := by
  by_cases h : q < a
  · rw [if_pos ((pk_lLT (by omega) (by omega)).mpr h), if_pos h]
  · rw [if_neg (fun z => h ((pk_lLT (by omega) (by omega)).mp z)), if_neg h]
section NC
variable {Y : Ly} {h : Hp} {s x e : Nat} {c : Nat → Int32} {b : Nat}
theorem En_mostTelling_s (X : CX Y h x s c) (he : isO Y 0 e) (K : LK h e s c b (cN c 9)) (hb : b < cN c 2)
    (hB : ∀ p st, p ≤ cN c (88 + b) → st < cN c 0 → hAl h (hGr h 2 e) (8 * p + st) = lN (BFn c b p st)) (hE : ∀ q st, q ≤ cN c (88 + b) → st < cN c 0 → hAl h (hGr h 3 e) (8 * q + st) = ES c b (cN c 9) (cN c (88 + b) - q) st) :
    En_mostTelling Y e h = some (on (nxS c b (cN c (88 + b)))) := by
  have V := X.2.2.2.2
  have l1 := VC_l1 V
  have l88 := (V.2.2.2.2.1 b hb).2.1.1.2
  have l22 : ∀ (p : Nat) (l1' : Int32) (few : Int64) (k7 : Int32 → Int64 → Int32 → Option Int32), p < cN c (88 + b) → En_mostTelling_L22 Y e l1' few (nI p) h k7 FU 0 0 = if l1' = -1 then k7 (nI p) (lN (mx c b p)) (nI (p + 1)) else if few ≤ lN (mx c b p) then k7 l1' few (nI (p + 1)) else k7 (nI p) (lN (mx c b p)) (nI (p + 1)) := by
    intro p l1' few k7 hp
    refine upl (Q := fun r => r = if l1' = -1 then k7 (nI p) (lN (mx c b p)) (nI (p + 1)) else if few ≤ lN (mx c b p) then k7 l1' few (nI (p + 1)) else k7 (nI p) (lN (mx c b p)) (nI (p + 1))) (fun F t (_ : Unit) => En_mostTelling_L22 Y e l1' few (nI p) h k7 F (lN (mxF (HV c b p) t)) (nI t)) (cN c 1) (fun _ _ => True) ?_ ?_ (cN c 1) 0 () FU (by omega) (by unfold FU; omega) trivial
    · intro F t _ ht _
      right
      refine ⟨(), ?_, trivial⟩
      show En_mostTelling_L22 Y e l1' few (nI p) h k7 (F + 1) (lN (mxF (HV c b p) t)) (nI t) = En_mostTelling_L22 Y e l1' few (nI p) h k7 F (lN (mxF (HV c b p) (t + 1))) (nI (t + 1))
      have a1 := mxF_lt (f := HV c b p) (M := 2 ^ 60) (by decide) t (fun i _ => HV_le V hb hp i)
      have a2 := HV_le V hb hp t
      rw [En_mostTelling_L22, K.1, X.2.2.2.1.1.2.1, VC_e1 V, if_neg (nI_ge ht (by omega)), En_countWith_s X he K hb hp ht hB hE, bind_s, nI_1, lmax a1 a2]
      rfl
    · intro F _ _
      show En_mostTelling_L22 Y e l1' few (nI p) h k7 (F + 1) _ (nI (cN c 1)) = _
      rw [En_mostTelling_L22, K.1, X.2.2.2.1.1.2.1, VC_e1 V, if_pos (nI_le (Nat.le_refl _) (by omega)), nI_1]
      rfl
  unfold En_mostTelling
  refine upl (Q := fun r => r = some (on (nxS c b (cN c (88 + b))))) (fun F p (_ : Unit) => En_mostTelling_L7 Y e h F (on (nxS c b p)) (lN (fewO c b (nxS c b p))) (nI p)) (cN c (88 + b)) (fun _ _ => True) ?_ ?_ (cN c (88 + b)) 0 () FU (by omega) (by unfold FU; omega) trivial
  · intro F p _ hp _
    right
    refine ⟨(), ?_, trivial⟩
    show En_mostTelling_L7 Y e h (F + 1) (on (nxS c b p)) (lN (fewO c b (nxS c b p))) (nI p) = En_mostTelling_L7 Y e h F (on (nxS c b (p + 1))) (lN (fewO c b (nxS c b (p + 1)))) (nI (p + 1))
    have es : nxS c b (p + 1) = if nxQ c b p (nxS c b p) = true then some p else nxS c b p := rfl
    have hl := nxS_lt c b p
    have a1 := mx_lt V hb hp
    rw [En_mostTelling_L7, K.2.1, if_neg (nI_ge hp (by omega)), l22 _ _ _ _ hp, es]
    cases hsc : nxS c b p with
    | none => rw [if_pos (show on none = -1 from rfl)]; rfl
    | some k =>
      have hk := hl k hsc
      have a2 := mx_lt V hb (show k < cN c (88 + b) by omega)
      have nk : ¬ nI k = m1 := by rw [ne_m1 (by omega)]; exact fun z => z
      rw [if_neg (show ¬ on (some k) = -1 from nk), show fewO c b (some k) = mx c b k from rfl, show nxQ c b p (some k) = decide (mx c b p < mx c b k) from rfl]
      by_cases q : mx c b p < mx c b k
      · rw [if_neg (fun z => by rw [pk_lLE (by omega) (by omega)] at z; omega), if_pos (by simpa using q)]; rfl
      · rw [if_pos ((pk_lLE (by omega) (by omega)).mpr (by omega)), if_neg (by simpa using q)]; rfl
  · intro F _ _
    show En_mostTelling_L7 Y e h (F + 1) _ _ (nI (cN c (88 + b))) = _
    rw [En_mostTelling_L7, K.2.1, if_pos (nI_le (Nat.le_refl _) (by omega))]
end NC
def spNext (c : Nat → Int32) (b : Int32) : Int32 × Int32 := if isAt b (cN c 2) then (if 2 ≤ ecn c b.toNatClampNeg (cN c 9) then (plus1 (nxS c b.toNatClampNeg (cN c (88 + b.toNatClampNeg))), nI 0) else (m1, nI 8)) else (m1, nI 2)
def maySet (c : Nat → Int32) (b p : Nat) : Nat := mk (fun t => decide (0 < HV c b p t)) (cN c 1)
def spMay (c : Nat → Int32) (b p : Int32) : Int32 × Int32 := if isAt b (cN c 2) then (if isAt (p - 1) (cN c (88 + b.toNatClampNeg)) then (nI (maySet c b.toNatClampNeg (p - 1).toNatClampNeg), nI 0) else (m1, nI 5)) else (m1, nI 2)
section NCT
variable {Y : Ly} {h : Hp} {x : Nat} {c : Nat → Int32}
/-- behind countOf and countBefore -/
theorem both_s (X : CT Y h x c) {j : Nat} (hj : j < cN c 2) : ∃ h1 g, En_countOf Y (hGr h 1105 x) (hGr h 1109 x) (nI j) (hGi h 417 (hGr h 1109 x)) h = some (ecnt c j (cN c 9), h1) ∧ Qf Y 100 h h1 ∧ En_countBefore Y (hGr h1 1105 x) h1 = some (hWl h1 (hGr h1 2 (hGr h1 1105 x)) g) ∧ CT Y (hWl h1 (hGr h1 2 (hGr h1 1105 x)) g) x c ∧ Cf Y h (hWl h1 (hGr h1 2 (hGr h1 1105 x)) g) ∧ hGi (hWl h1 (hGr h1 2 (hGr h1 1105 x)) g) 1112 x = hGi h 1112 x ∧
    (∀ p t, p < cN c (88 + j) → t < cN c 1 → En_countWith Y (hGr (hWl h1 (hGr h1 2 (hGr h1 1105 x)) g) 1105 x) (nI p) (nI t) (hWl h1 (hGr h1 2 (hGr h1 1105 x)) g) = some (lN (HV c j p t))) ∧ En_mostTelling Y (hGr (hWl h1 (hGr h1 2 (hGr h1 1105 x)) g) 1105 x) (hWl h1 (hGr h1 2 (hGr h1 1105 x)) g) = some (on (nxS c j (cN c (88 + j)))) := by
  have V := X.2.2.2.2
  have l9 := V.2.1.2.2
  have p9 := pow_le6 (VC_l4 V)
  rw [X.2.2.2.1.1.2.2.2.2.2.2.2.2.2, V.2.1.2.1]
  obtain ⟨h1, e1, q1, K1, E1⟩ := En_countOf_s (L := cN c 9) X X.e hj (by omega)
  have X1 : CT Y h1 x c := CT_C X (Cf_Q q1)
  have r5 : hGr h1 1105 x = hGr h 1105 x := q1.2.2.1 1105 x (by decide)
  have r9 : hGr h1 1109 x = hGr h 1109 x := q1.2.2.1 1109 x (by decide)
  rw [← r5, ← r9] at K1
  rw [← r5] at E1
  obtain ⟨g, e2, B1⟩ := En_countBefore_s X1 X1.e K1 hj
  have ne : hGr h1 3 (hGr h1 1105 x) ≠ hGr h1 2 (hGr h1 1105 x) := fun z => by
    have := (X1.1.2.2.2.1 3 2 _ _ rfl rfl X1.e X1.e z).1
    omega
  have q2 : Qf Y 100 h1 (hWl h1 (hGr h1 2 (hGr h1 1105 x)) g) := Qf_wl (by decide) rfl X1.e
  have X2 : CT Y (hWl h1 (hGr h1 2 (hGr h1 1105 x)) g) x c := CT_C X1 (Cf_Q q2)
  have K2 : LK (hWl h1 (hGr h1 2 (hGr h1 1105 x)) g) (hGr h1 1105 x) (hGr h1 1109 x) c j (cN c 9) := K1
  have B2 : ∀ p st, p ≤ cN c (88 + j) → st < cN c 0 → hAl (hWl h1 (hGr h1 2 (hGr h1 1105 x)) g) (hGr (hWl h1 (hGr h1 2 (hGr h1 1105 x)) g) 2 (hGr h1 1105 x)) (8 * p + st) = lN (BFn c j p st) := by
    intro p st h1 h2
    rw [gr_wl, al_wl, if_pos rfl]; exact B1 p st h1 h2
  have E2 : ∀ q st, q ≤ cN c (88 + j) → st < cN c 0 → hAl (hWl h1 (hGr h1 2 (hGr h1 1105 x)) g) (hGr (hWl h1 (hGr h1 2 (hGr h1 1105 x)) g) 3 (hGr h1 1105 x)) (8 * q + st) = ES c j (cN c 9) (cN c (88 + j) - q) st := by
    intro q st h1 h2
    rw [gr_wl, al_wl, if_neg ne]; exact E1 q st h1 h2
  refine ⟨h1, g, e1, q1, e2, X2, Cf_tr (Cf_Q q1) (Cf_Q q2), ?_, fun p t hp ht => En_countWith_s X2 X1.e K2 hj hp ht B2 E2, En_mostTelling_s X2 X1.e K2 hj B2 E2⟩
  rw [gi_wl]; exact q1.1 1112 x (by decide)
theorem LP_next_q (X : CT Y h x c) (b : Int32) : CQ Y x h (LP_next Y x b h) (spNext c b).1 (spNext c b).2 := by
  have V := X.2.2.2.2
  have l2 := VC_l2 V
  unfold LP_next spNext
  rw [Sh_hasBook_s X.2.2.2.1 V, bind_s]
  rcases isAt_cases b (n := cN c 2) (by omega) with q | ⟨j, hj, rfl, q⟩
  · rw [q]; exact CQ_fail (Cf_rf Y h)
  · have hK := V.2.2.2.2.1 j hj
    have l88 := hK.2.1.1.2
    rw [q, if_pos rfl, if_pos rfl, nI_clamp (by omega)]
    obtain ⟨h1, g, e1, q1, e2, X2, c2, s2, _, e4⟩ := both_s X hj
    have el := ecn_le V hj (cN c 9)
    rw [e1, bind_s]
    simp only [ecnt_n]
    by_cases q2 : 2 ≤ ecn c j (cN c 9)
    · rw [if_pos (show (2 : Int64) ≤ lN (ecn c j (cN c 9)) from (pk_lLE (a := 2) (by omega) (by omega)).mpr q2), if_pos q2, e2, bind_s, e4, bind_s]
      obtain ⟨k, hk⟩ := nxS_some c j (cN c (88 + j)) hK.2.1.2
      rw [hk, show on (some k) + 1 = nI (k + 1) from nI_1 k]
      exact CQ_give c2
    · rw [if_neg (show ¬ (2 : Int64) ≤ lN (ecn c j (cN c 9)) from fun z => q2 ((pk_lLE (a := 2) (by omega) (by omega)).mp z)), if_neg q2]
      exact CQ_fail (Cf_Q q1)
theorem LP_may_q (X : CT Y h x c) (b p : Int32) : CQ Y x h (LP_may Y x b p h) (spMay c b p).1 (spMay c b p).2 := by
  have V := X.2.2.2.2
  have l1 := VC_l1 V
  have l2 := VC_l2 V
  unfold LP_may spMay
  rw [LP_why_s X, bind_s]
  rcases isAt_cases b (n := cN c 2) (by omega) with q | ⟨j, hj, rfl, q⟩
  · rw [show whyP c b p = nI 2 by unfold whyP; rw [q]; rfl, q, if_neg (show ¬ nI 2 = 0 by decide)]; exact CQ_fail (Cf_rf Y h)
  · have l88 := (V.2.2.2.2.1 j hj).2.1.1.2
    rcases p_cases p (n := cN c (88 + j)) (by omega) with ⟨q2, _⟩ | ⟨i, hi, p1, p2, q2⟩
    · rw [show whyP c (nI j) p = nI 5 by unfold whyP; rw [q, if_pos rfl, nI_clamp (by omega), q2]; rfl, q, if_pos rfl, nI_clamp (by omega), q2, if_neg (show ¬ nI 5 = 0 by decide)]; exact CQ_fail (Cf_rf Y h)
    · rw [show whyP c (nI j) p = nI 0 by unfold whyP; rw [q, if_pos rfl, nI_clamp (by omega), q2]; rfl, q, if_pos rfl, nI_clamp (by omega), q2, if_pos (show nI 0 = 0 from rfl), if_pos rfl, p1, nI_clamp (by omega)]
      obtain ⟨h1, g, e1, q1, e2, X2, c2, s2, e3, _⟩ := both_s X hj
      rw [e1, bind_s, e2, bind_s]
      generalize hWl h1 (hGr h1 2 (hGr h1 1105 x)) g = h2 at X2 c2 s2 e3
      refine upl (Q := fun r => CQ Y x h r (nI (maySet c j i)) (nI 0)) (fun F t (_ : Unit) => LP_may_L50 Y x p h2 F (nI (mk (fun t => decide (0 < HV c j i t)) t)) (nI t)) (cN c 1) (fun _ _ => True) ?_ ?_ (cN c 1) 0 () FU (by omega) (by unfold FU; omega) trivial
      · intro F t _ ht _
        right
        refine ⟨(), ?_, trivial⟩
        show LP_may_L50 Y x p h2 (F + 1) _ (nI t) = LP_may_L50 Y x p h2 F (nI (mk (fun t => decide (0 < HV c j i t)) (t + 1))) (nI (t + 1))
        have hv := HV_le V hj hi t
        rw [LP_may_L50, X2.2.2.2.1.1.2.1, VC_e1 V, if_neg (nI_ge ht (by omega)), p1, e3 i t hi ht, bind_s]
        simp (disch := omega) only [zlit, zand, zone, zor, nI_add, mk]
        by_cases c3 : 0 < HV c j i t
        · rw [if_neg (fun z => by rw [lN_pos (by omega)] at z; omega), if_pos (by simpa using c3)]
        · rw [if_pos ((lN_pos (by omega)).mpr (by omega)), if_neg (by simpa using c3), Nat.or_zero]
      · intro F _ _
        show CQ Y x h (LP_may_L50 Y x p h2 (F + 1) _ (nI (cN c 1))) _ _
        rw [LP_may_L50, X2.2.2.2.1.1.2.1, VC_e1 V, if_pos (nI_le (Nat.le_refl _) (by omega))]
        exact CQ_give c2
end NCT
section NM
variable {Y : Ly} {h : Hp} {m : Nat} {c : Nat → Int32}
theorem M_next_q (X : MX Y h m c) (b : Int32) : mQ Y m h (M_next Y m b h) (spNext c b).1 (spNext c b).2 := by
  have X0 := mX0 X
  have V := X.2.2
  have l1 := VC_l1 V
  have l2 := VC_l2 V
  unfold M_next spNext
  simp only [letH_e]
  rw [show hSi (hSi h 1201 m 0) 1200 m 0 = mst h m from rfl, M_isBookAt_s X0.1 X0.2.1 V, bind_s]
  rcases isAt_cases b (n := cN c 2) (by omega) with q | ⟨j, hj, rfl, q⟩
  · rw [q]; exact mQ_r (Mg_rf _ _ _)
  · have hK := V.2.2.2.2.1 j hj
    have l88 := hK.2.1.1.2
    rw [q, if_pos rfl, if_pos rfl, nI_clamp (by omega)]
    obtain ⟨h1, e1, q1⟩ := M_endingsOf_s X0 hj
    have X1 := MX_M X0 q1.1
    have el := ecn_le V hj (cN c 9)
    rw [e1, bind_s]
    simp only [ecnt_n]
    by_cases q2 : 2 ≤ ecn c j (cN c 9)
    · rw [if_pos (show (2 : Int64) ≤ lN (ecn c j (cN c 9)) from (pk_lLE (a := 2) (by omega) (by omega)).mpr q2), if_pos q2]
      obtain ⟨h2, e2, m2, t2⟩ := M_laysTurns_s X1 hj
      have X2 := MX_M X1 m2.1
      have S := X2.1
      have B := X2.2.1
      rw [e2, bind_s]
      have l75 : ∀ (p : Nat) (l2' : Int32) (few : Int64) (k55 : Int32 → Int64 → Int32 → Option (Int32 × Hp)), p < cN c (88 + j) → M_next_L75 Y m (nI j) l2' few (nI (p + 1)) h2 k55 FU 0 0 = if l2' < 0 then k55 (nI (p + 1)) (lN (mx c j p)) (nI (p + 1 + 1)) else if lN (mx c j p) < few then k55 (nI (p + 1)) (lN (mx c j p)) (nI (p + 1 + 1)) else k55 l2' few (nI (p + 1 + 1)) := by
        intro p l2' few k55 hp
        refine upl (Q := fun r => r = if l2' < 0 then k55 (nI (p + 1)) (lN (mx c j p)) (nI (p + 1 + 1)) else if lN (mx c j p) < few then k55 (nI (p + 1)) (lN (mx c j p)) (nI (p + 1 + 1)) else k55 l2' few (nI (p + 1 + 1))) (fun F t (_ : Unit) => M_next_L75 Y m (nI j) l2' few (nI (p + 1)) h2 k55 F (lN (mxF (HV c j p) t)) (nI t)) (cN c 1) (fun _ _ => True) ?_ ?_ (cN c 1) 0 () FU (by omega) (by unfold FU; omega) trivial
        · intro F t _ ht _
          right
          refine ⟨(), ?_, trivial⟩
          show M_next_L75 Y m (nI j) l2' few (nI (p + 1)) h2 k55 (F + 1) (lN (mxF (HV c j p) t)) (nI t) = M_next_L75 Y m (nI j) l2' few (nI (p + 1)) h2 k55 F (lN (mxF (HV c j p) (t + 1))) (nI (t + 1))
          have a1 := mxF_lt (f := HV c j p) (M := 2 ^ 60) (by decide) t (fun i _ => HV_le V hj hp i)
          have a2 := HV_le V hj hp t
          rw [M_next_L75]
          simp (disch := omega) only [zlit, nI_add, pk_mul, ml1220 S, ml1226 S, inB_nI, if_true, nI_clamp, MB0 B, VC_e1 V, nI_leI]
          rw [if_neg (by omega), t2 p t hp ht, lmax a1 a2]
          rfl
        · intro F _ _
          show M_next_L75 Y m (nI j) l2' few (nI (p + 1)) h2 k55 (F + 1) _ (nI (cN c 1)) = _
          rw [M_next_L75]
          simp (disch := omega) only [zlit, nI_add, ml1220 S, inB_nI, if_true, nI_clamp, MB0 B, VC_e1 V, nI_leI]
          rw [if_pos (by omega)]
          rfl
      refine upl (Q := fun r => mQ Y m h r (plus1 (nxS c j (cN c (88 + j)))) (nI 0)) (fun F p (_ : Unit) => M_next_L55 Y m (nI j) h2 F (plus1 (nxS c j p)) (lN (fewO c j (nxS c j p))) (nI (p + 1))) (cN c (88 + j)) (fun _ _ => True) ?_ ?_ (cN c (88 + j)) 0 () FU (by omega) (by unfold FU; omega) trivial
      · intro F p _ hp _
        right
        refine ⟨(), ?_, trivial⟩
        show M_next_L55 Y m (nI j) h2 (F + 1) (plus1 (nxS c j p)) (lN (fewO c j (nxS c j p))) (nI (p + 1)) = M_next_L55 Y m (nI j) h2 F (plus1 (nxS c j (p + 1))) (lN (fewO c j (nxS c j (p + 1)))) (nI (p + 1 + 1))
        have es : nxS c j (p + 1) = if nxQ c j p (nxS c j p) = true then some p else nxS c j p := rfl
        have hl := nxS_lt c j p
        have a1 := mx_lt V hj hp
        rw [M_next_L55, l75 _ _ _ _ hp, es]
        simp (disch := omega) only [zlit, nI_add, ml1220 S, inB_nI, if_true, nI_clamp, MB0 B, hK.2.1.1.1, nI_ltI]
        rw [if_neg (by omega)]
        cases hsc : nxS c j p with
        | none => rw [if_pos (show plus1 none < nI 0 by decide)]; rfl
        | some k =>
          have hk := hl k hsc
          have a2 := mx_lt V hj (show k < cN c (88 + j) by omega)
          rw [if_neg (show ¬ plus1 (some k) < nI 0 from nI_pos (by omega)), show fewO c j (some k) = mx c j k from rfl, show nxQ c j p (some k) = decide (mx c j p < mx c j k) from rfl]
          by_cases q : mx c j p < mx c j k
          · rw [if_pos ((pk_lLT (by omega) (by omega)).mpr q), if_pos (by simpa using q)]; rfl
          · rw [if_neg (fun z => q ((pk_lLT (by omega) (by omega)).mp z)), if_neg (by simpa using q)]; rfl
      · intro F _ _
        show mQ Y m h (M_next_L55 Y m (nI j) h2 (F + 1) _ _ (nI (cN c (88 + j) + 1))) _ _
        rw [M_next_L55]
        simp (disch := omega) only [zlit, nI_add, ml1220 S, inB_nI, if_true, nI_clamp, MB0 B, hK.2.1.1.1, nI_ltI]
        rw [if_pos (by omega)]
        exact mQ_e (Mg_tr q1 m2)
    · rw [if_neg (show ¬ (2 : Int64) ≤ lN (ecn c j (cN c 9)) from fun z => q2 ((pk_lLE (a := 2) (by omega) (by omega)).mp z)), if_neg q2]
      exact mQ_r q1
theorem M_may_q (X : MX Y h m c) (b p : Int32) : mQ Y m h (M_may Y m b p h) (spMay c b p).1 (spMay c b p).2 := by
  have X0 := mX0 X
  have V := X.2.2
  have l1 := VC_l1 V
  have l2 := VC_l2 V
  unfold M_may spMay
  simp only [letH_e]
  rw [show hSi (hSi h 1201 m 0) 1200 m 0 = mst h m from rfl, M_isBookAt_s X0.1 X0.2.1 V, bind_s]
  rcases isAt_cases b (n := cN c 2) (by omega) with q | ⟨j, hj, rfl, q⟩
  · rw [q]; exact mQ_r (Mg_rf _ _ _)
  · have l88 := (V.2.2.2.2.1 j hj).2.1.1.2
    rw [q, if_pos rfl, if_pos rfl, nI_clamp (by omega), M_isPlace_s X0 hj, bind_s]
    rcases p_cases p (n := cN c (88 + j)) (by omega) with ⟨q2, _⟩ | ⟨i, hi, p1, p2, q2⟩
    · rw [q2]; exact mQ_r (Mg_rf _ _ _)
    · rw [q2, if_pos rfl, if_pos rfl, p1, nI_clamp (by omega), p2]
      obtain ⟨h2, e2, m2, t2⟩ := M_laysTurns_s X0 hj
      have X2 := MX_M X0 m2.1
      have S := X2.1
      have B := X2.2.1
      rw [e2, bind_s]
      refine upl (Q := fun r => mQ Y m h r (nI (maySet c j i)) (nI 0)) (fun F t (_ : Unit) => M_may_L49 Y m (nI (i + 1)) h2 F (nI (mk (fun t => decide (0 < HV c j i t)) t)) (nI t)) (cN c 1) (fun _ _ => True) ?_ ?_ (cN c 1) 0 () FU (by omega) (by unfold FU; omega) trivial
      · intro F t _ ht _
        right
        refine ⟨(), ?_, trivial⟩
        show M_may_L49 Y m (nI (i + 1)) h2 (F + 1) _ (nI t) = M_may_L49 Y m (nI (i + 1)) h2 F (nI (mk (fun t => decide (0 < HV c j i t)) (t + 1))) (nI (t + 1))
        have hv := HV_le V hj hi t
        rw [M_may_L49]
        simp (disch := omega) only [zlit, nI_add, pk_mul, ml1220 S, ml1226 S, inB_nI, if_true, nI_clamp, MB0 B, VC_e1 V, nI_leI, zand, zone, zor, mk]
        rw [if_neg (by omega), t2 i t hi ht]
        by_cases c3 : 0 < HV c j i t
        · rw [if_neg (fun z => by rw [lN_pos (by omega)] at z; omega), if_pos (by simpa using c3)]
        · rw [if_pos ((lN_pos (by omega)).mpr (by omega)), if_neg (by simpa using c3)]
      · intro F _ _
        show mQ Y m h (M_may_L49 Y m (nI (i + 1)) h2 (F + 1) _ (nI (cN c 1))) _ _
        rw [M_may_L49]
        simp (disch := omega) only [zlit, ml1220 S, inB_nI, if_true, nI_clamp, MB0 B, VC_e1 V, nI_leI]
        rw [if_pos (by omega)]
        exact mQ_e m2
end NM
