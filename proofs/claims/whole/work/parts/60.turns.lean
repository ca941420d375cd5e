/-! ===== how many endings have a turn at a place: the class ===== -/
def inT (c : Nat → Int32) (b p s n q v : Nat) : Nat := sm (fun t => if c (18 + 8 * s + t) = nI q ∧ barred c b (p + 1) t (cN c 9) = false then v else 0) n
def BFn (c : Nat → Int32) (b : Nat) : Nat → Nat → Nat
  | 0, s => if place c b = nI s then 1 else 0
  | p + 1, q => sm (fun s => inT c b p s (cN c 1) q (BFn c b p s)) 8
def HV (c : Nat → Int32) (b p t : Nat) : Nat := sm (fun s => if c (18 + 8 * s + t) = m1 ∨ barred c b (p + 1) t (cN c 9) = true then 0 else BFn c b p s * ESn c b (cN c 9) (cN c (88 + b) - (p + 1)) (cN c (18 + 8 * s + t))) 8
theorem BFn_le {c : Nat → Int32} (V : VB c) (b : Nat) : ∀ p s, BFn c b p s ≤ 64 ^ p := by
  have l1 := VC_l1 V
  intro p
  induction p with
  | zero =>
    intro s
    rw [BFn]
    split <;> simp
  | succ p ih =>
    intro q
    have h1 : ∀ s, s < 8 → inT c b p s (cN c 1) q (BFn c b p s) ≤ 8 * 64 ^ p := by
      intro s _
      have h2 : inT c b p s (cN c 1) q (BFn c b p s) ≤ cN c 1 * 64 ^ p := sm_le _ (fun t _ => by
        have := ih s
        split <;> omega)
      have h3 : cN c 1 * 64 ^ p ≤ 8 * 64 ^ p := Nat.mul_le_mul_right _ (by omega)
      omega
    have h4 : BFn c b (p + 1) q ≤ 8 * (8 * 64 ^ p) := sm_le 8 h1
    rw [Nat.pow_succ]
    omega
theorem HV_le {c : Nat → Int32} (V : VB c) {b p : Nat} (hb : b < cN c 2) (hp : p < cN c (88 + b)) (t : Nat) : HV c b p t < 2 ^ 60 := by
  have l88 := (V.2.2.2.2.1 b hb).2.1.1.2
  have h0 : 64 ^ p ≤ 64 ^ 5 := Nat.pow_le_pow_right (by decide) (by omega)
  have h1 : ∀ r, r ≤ 6 → 8 ^ r ≤ 8 ^ 6 := fun r hr => Nat.pow_le_pow_right (by decide) hr
  have h2 : HV c b p t ≤ 8 * (64 ^ 5 * 8 ^ 6) := sm_le 8 (fun s _ => by
    split
    · exact Nat.zero_le _
    · exact Nat.mul_le_mul (Nat.le_trans (BFn_le V b p s) h0) (Nat.le_trans (ESn_le V b _ _ _) (h1 _ (by omega))))
  have h3 : 8 * (64 ^ 5 * 8 ^ 6) < 2 ^ 60 := by decide
  omega
theorem sm_cut8 {f : Nat → Nat} {n : Nat} (hn : n ≤ 8) (h0 : ∀ i, n ≤ i → i < 8 → f i = 0) : sm f n = sm f 8 := by
  have : ∀ d, n + d ≤ 8 → sm f (n + d) = sm f n := by
    intro d
    induction d with
    | zero => intro _; rfl
    | succ d ih =>
      intro hd
      rw [show n + (d + 1) = (n + d) + 1 by omega, sm, ih (by omega), h0 (n + d) (by omega) (by omega)]
      rfl
  have := this (8 - n) (by omega)
  rw [show n + (8 - n) = 8 by omega] at this
  exact this.symm
/-- a sum gone on with in one cell -/
def pr (c : Nat → Int32) (b p st t q : Nat) : Nat := sm (fun s => inT c b p s (cN c 1) q (BFn c b p s)) st + inT c b p st t q (BFn c b p st)
theorem pr_next (c : Nat → Int32) (b p st q : Nat) : pr c b p st (cN c 1) q = pr c b p (st + 1) 0 q := by
  unfold pr
  rw [sm]
  rfl
theorem VR_ge {c : Nat → Int32} (V : VB c) {s t : Nat} (hs : s < 8) (ht : t < 8) (h : cN c 0 ≤ s) : c (18 + 8 * s + t) = m1 := by
  rcases V.2.2.2.1 s t hs ht with q | ⟨q, _⟩
  · exact q
  · omega
theorem inT_ge {c : Nat → Int32} (V : VB c) {b p s q v : Nat} (hs : s < 8) (hq : q < 2 ^ 31) (h : cN c 0 ≤ s) : ∀ n, n ≤ 8 → inT c b p s n q v = 0 := by
  intro n
  induction n with
  | zero => intro _; rfl
  | succ n ih =>
    intro hn
    show inT c b p s n q v + (if c (18 + 8 * s + n) = nI q ∧ barred c b (p + 1) n (cN c 9) = false then v else 0) = 0
    rw [ih (by omega), if_neg]
    rintro ⟨z, _⟩
    rw [VR_ge V hs (by omega) h, m1_ne hq] at z
    exact z
theorem pr_end {c : Nat → Int32} (V : VB c) {b p q : Nat} (hq : q < 2 ^ 31) : pr c b p (cN c 0) 0 q = BFn c b (p + 1) q := by
  have l0 := VC_l0 V
  have l1 := VC_l1 V
  unfold pr
  rw [show inT c b p (cN c 0) 0 q (BFn c b p (cN c 0)) = 0 from rfl, Nat.add_zero, BFn]
  exact sm_cut8 (by omega) (fun i h1 h2 => inT_ge V h2 hq h1 _ (by omega))
section TC
variable {Y : Ly} {h : Hp} {s x e : Nat} {c : Nat → Int32} {b : Nat}
theorem En_spread_s (X : CX Y h x s c) (he : isO Y 0 e) (K : LK h e s c b (cN c 9)) (hb : b < cN c 2) {p st : Nat} (hp : p < cN c (88 + b)) (hst : st < cN c 0) {g : Nat → Int64}
    (hv : g (8 * p + st) = lN (BFn c b p st)) (hg : ∀ q, q < 8 → g (8 * (p + 1) + q) = lN (pr c b p st 0 q)) :
    ∃ g', En_spread Y e (nI p) (nI st) (hWl h (hGr h 2 e) g) = some (hWl h (hGr h 2 e) g') ∧ (∀ j, ¬ (8 * (p + 1) ≤ j ∧ j < 8 * (p + 1) + 8) → g' j = g j) ∧ ∀ q, q < 8 → g' (8 * (p + 1) + q) = lN (pr c b p st (cN c 1) q) := by
  have V := X.2.2.2.2
  have l0 := VC_l0 V
  have l1 := VC_l1 V
  have l88 := (V.2.2.2.2.1 b hb).2.1.1.2
  unfold En_spread
  refine upl (Q := fun r => ∃ g', r = some (hWl h (hGr h 2 e) g') ∧ (∀ j, ¬ (8 * (p + 1) ≤ j ∧ j < 8 * (p + 1) + 8) → g' j = g j) ∧ ∀ q, q < 8 → g' (8 * (p + 1) + q) = lN (pr c b p st (cN c 1) q)) (fun F t g' => En_spread_L2 Y e (nI p) (nI st) F (nI t) (hWl h (hGr h 2 e) g')) (cN c 1) (fun t g' => (∀ j, ¬ (8 * (p + 1) ≤ j ∧ j < 8 * (p + 1) + 8) → g' j = g j) ∧ ∀ q, q < 8 → g' (8 * (p + 1) + q) = lN (pr c b p st t q)) ?_ ?_ (cN c 1) 0 g FU (by omega) (by unfold FU; omega) ⟨fun _ _ => rfl, hg⟩
  · intro F t g' ht hI
    right
    have X' : CX Y (hWl h (hGr h 2 e) g') x s c := X
    have K' : LK (hWl h (hGr h 2 e) g') e s c b (cN c 9) := K
    have prs : ∀ q, pr c b p st (t + 1) q = pr c b p st t q + (if c (18 + 8 * st + t) = nI q ∧ barred c b (p + 1) t (cN c 9) = false then BFn c b p st else 0) := by
      intro q
      exact (Nat.add_assoc _ _ _).symm
    show ∃ s', En_spread_L2 Y e (nI p) (nI st) (F + 1) (nI t) (hWl h (hGr h 2 e) g') = En_spread_L2 Y e (nI p) (nI st) F (nI (t + 1)) (hWl h (hGr h 2 e) s') ∧ _
    rw [En_spread_L2, K'.1, X'.2.2.2.1.1.2.1, VC_e1 V, if_neg (nI_ge ht (by omega)), En_stepTo_s X' he K' hb hp hst ht, bind_s, nI_1]
    unfold stp
    by_cases hbb : barred c b (p + 1) t (cN c 9) = true
    · rw [if_pos hbb, if_pos (show m1 = -1 from rfl)]
      refine ⟨g', rfl, hI.1, fun q hq => ?_⟩
      rw [prs, if_neg (by rw [hbb]; simp), Nat.add_zero]; exact hI.2 q hq
    · rw [if_neg hbb]
      rw [Bool.not_eq_true] at hbb
      rcases V.2.2.2.1 st t (by omega) (by omega) with q | ⟨_, _, q1, q2⟩
      · rw [if_pos (show c (18 + 8 * st + t) = -1 from q)]
        refine ⟨g', rfl, hI.1, fun r hr => ?_⟩
        rw [prs, if_neg (by rw [q, m1_ne (by omega)]; simp), Nat.add_zero]; exact hI.2 r hr
      · have qn : ¬ c (18 + 8 * st + t) = -1 := by rw [q1, zm1, ne_m1 (by omega)]; exact fun z => z
        rw [if_neg qn, q1]
        simp (disch := omega) only [zlit, nI_add, pk_mul, cl2 X'.1 he, inB_nI, if_true, nI_clamp, letH_e]
        rw [gr_wl, al_wl, al_wl, if_pos rfl, if_pos rfl, tl_wl]
        have e1 : (p + 1) * 8 + cN c (18 + 8 * st + t) = 8 * (p + 1) + cN c (18 + 8 * st + t) := by omega
        refine ⟨_, rfl, fun j hj => ?_, fun r hr => ?_⟩
        · rw [pk_uLn (by omega)]; exact hI.1 j hj
        · rw [prs]
          by_cases ee : r = cN c (18 + 8 * st + t)
          · rw [ee, e1, pk_uLs, hI.2 _ (by omega), show p * 8 + st = 8 * p + st by omega, hI.1 _ (by omega), hv, lN_add, if_pos ⟨q1, hbb⟩]
          · rw [pk_uLn (by omega), hI.2 r hr, if_neg, Nat.add_zero]
            rintro ⟨z, _⟩
            rw [q1, nI_eq (by omega) (by omega)] at z
            omega
  · intro F g' hI
    have X' : CX Y (hWl h (hGr h 2 e) g') x s c := X
    have K' : LK (hWl h (hGr h 2 e) g') e s c b (cN c 9) := K
    show ∃ g'', En_spread_L2 Y e (nI p) (nI st) (F + 1) (nI (cN c 1)) (hWl h (hGr h 2 e) g') = _ ∧ _
    rw [En_spread_L2, K'.1, X'.2.2.2.1.1.2.1, VC_e1 V, if_pos (nI_le (Nat.le_refl _) (by omega))]
    exact ⟨g', rfl, hI⟩
theorem En_countBefore_s (X : CX Y h x s c) (he : isO Y 0 e) (K : LK h e s c b (cN c 9)) (hb : b < cN c 2) : ∃ g, En_countBefore Y e h = some (hWl h (hGr h 2 e) g) ∧ ∀ p st, p ≤ cN c (88 + b) → st < cN c 0 → g (8 * p + st) = lN (BFn c b p st) := by
  have V := X.2.2.2.2
  have l0 := VC_l0 V
  have l1 := VC_l1 V
  have l88 := (V.2.2.2.2.1 b hb).2.1.1.2
  generalize hn : cN c (88 + b) = n at *
  have K' : ∀ g, LK (hWl h (hGr h 2 e) g) e s c b (cN c 9) := fun g => K
  have X' : ∀ g, CX Y (hWl h (hGr h 2 e) g) x s c := fun g => X
  obtain ⟨g0, f1, f2⟩ := J_fillL_s (Y := Y) (h := h) (A := hGr h 2 e) (v := 0) (by rw [cl2 X.1 he]; decide)
  rw [cl2 X.1 he] at f2
  have l46 : ∀ (p : Nat) (g : Nat → Int64) (k36 : Int32 → Hp → Option Hp), p < n → (∀ q st, q ≤ p → st < 8 → g (8 * q + st) = lN (BFn c b q st)) → (∀ q st, p < q → q ≤ n → st < 8 → g (8 * q + st) = 0) →
      ∃ g', En_countBefore_L46 Y e (nI p) k36 FU 0 (hWl h (hGr h 2 e) g) = k36 (nI (p + 1)) (hWl h (hGr h 2 e) g') ∧ (∀ q st, q ≤ p + 1 → st < 8 → g' (8 * q + st) = lN (BFn c b q st)) ∧ (∀ q st, p + 1 < q → q ≤ n → st < 8 → g' (8 * q + st) = 0) := by
    intro p g k36 hp hg1 hg2
    refine upl (Q := fun r => ∃ g', r = k36 (nI (p + 1)) (hWl h (hGr h 2 e) g') ∧ (∀ q st, q ≤ p + 1 → st < 8 → g' (8 * q + st) = lN (BFn c b q st)) ∧ (∀ q st, p + 1 < q → q ≤ n → st < 8 → g' (8 * q + st) = 0)) (fun F st g => En_countBefore_L46 Y e (nI p) k36 F (nI st) (hWl h (hGr h 2 e) g)) (cN c 0) (fun st g => (∀ q st, q ≤ p → st < 8 → g (8 * q + st) = lN (BFn c b q st)) ∧ (∀ q, q < 8 → g (8 * (p + 1) + q) = lN (pr c b p st 0 q)) ∧ (∀ q st, p + 1 < q → q ≤ n → st < 8 → g (8 * q + st) = 0)) ?_ ?_ (cN c 0) 0 g FU (by omega) (by unfold FU; omega) ⟨hg1, fun q hq => by rw [hg2 (p + 1) q (by omega) (by omega) hq]; rfl, fun q st h1 h2 h3 => hg2 q st (by omega) h2 h3⟩
    · intro F st g hst ⟨i1, i2, i3⟩
      right
      obtain ⟨g', s1, s2, s3⟩ := En_spread_s X he K hb (p := p) (by omega) hst (i1 p st (by omega) (by omega)) i2
      refine ⟨g', ?_, fun q z h1 h2 => by rw [s2 _ (by omega)]; exact i1 q z h1 h2, fun q hq => by rw [s3 q hq, pr_next], fun q z h1 h2 h3 => by rw [s2 _ (by omega)]; exact i3 q z h1 h2 h3⟩
      show En_countBefore_L46 Y e (nI p) k36 (F + 1) (nI st) (hWl h (hGr h 2 e) g) = _
      rw [En_countBefore_L46, (K' g).1, (X' g).2.2.2.1.1.1, VC_e0 V, if_neg (nI_ge hst (by omega)), s1, bind_s, nI_1]
    · intro F g ⟨i1, i2, i3⟩
      show ∃ g', En_countBefore_L46 Y e (nI p) k36 (F + 1) (nI (cN c 0)) (hWl h (hGr h 2 e) g) = _ ∧ _
      rw [En_countBefore_L46, (K' g).1, (X' g).2.2.2.1.1.1, VC_e0 V, if_pos (nI_le (Nat.le_refl _) (by omega)), nI_1]
      refine ⟨g, rfl, fun q st h1 h2 => ?_, i3⟩
      by_cases ee : q = p + 1
      · rw [ee, i2 st h2, pr_end V (by omega)]
      · exact i1 q st (by omega) h2
  have l36 : ∀ g, (∀ st, st < 8 → g st = lN (BFn c b 0 st)) → (∀ q st, 0 < q → q ≤ n → st < 8 → g (8 * q + st) = 0) → ∃ g', En_countBefore_L36 Y e FU 0 (hWl h (hGr h 2 e) g) = some (hWl h (hGr h 2 e) g') ∧ ∀ p st, p ≤ n → st < cN c 0 → g' (8 * p + st) = lN (BFn c b p st) := by
    intro g hg1 hg2
    refine upl (Q := fun r => ∃ g', r = some (hWl h (hGr h 2 e) g') ∧ ∀ p st, p ≤ n → st < cN c 0 → g' (8 * p + st) = lN (BFn c b p st)) (fun F p g => En_countBefore_L36 Y e F (nI p) (hWl h (hGr h 2 e) g)) n (fun p g => (∀ q st, q ≤ p → st < 8 → g (8 * q + st) = lN (BFn c b q st)) ∧ (∀ q st, p < q → q ≤ n → st < 8 → g (8 * q + st) = 0)) ?_ ?_ n 0 g FU (by omega) (by unfold FU; omega) ⟨fun q st h1 h2 => by rw [show q = 0 by omega, show 8 * 0 + st = st by omega]; exact hg1 st h2, fun q st h1 h2 h3 => hg2 q st h1 h2 h3⟩
    · intro F p g hp ⟨i1, i2⟩
      right
      obtain ⟨g', s1, s2, s3⟩ := l46 p g (En_countBefore_L36 Y e F) hp i1 i2
      refine ⟨g', ?_, s2, s3⟩
      show En_countBefore_L36 Y e (F + 1) (nI p) (hWl h (hGr h 2 e) g) = _
      rw [En_countBefore_L36, (K' g).2.1, hn, if_neg (nI_ge hp (by omega))]
      exact s1
    · intro F g ⟨i1, _⟩
      show ∃ g', En_countBefore_L36 Y e (F + 1) (nI n) (hWl h (hGr h 2 e) g) = _ ∧ _
      rw [En_countBefore_L36, (K' g).2.1, hn, if_pos (nI_le (Nat.le_refl _) (by omega))]
      exact ⟨g, rfl, fun p st h1 h2 => i1 p st h1 (by omega)⟩
  unfold En_countBefore En_countBefore_J34
  rw [f1, bind_s, (K' g0).2.2.1]
  rcases place_ok V hb with q | ⟨k, hk, q⟩
  · rw [q, if_pos (by decide)]
    refine l36 g0 (fun st hst => ?_) (fun q st h1 h2 h3 => f2 _ (by omega))
    rw [f2 st (by omega), BFn, q, if_neg (by rw [m1_ne (by omega)]; exact fun z => z)]; rfl
  · rw [q]
    simp (disch := omega) only [zlit, nI_ltI, nI_leI, gr_wl, cl2 X.1 he, inB_nI, if_true, nI_clamp, letH_e, tl_wl]
    rw [if_neg (by omega), if_neg (by omega)]
    refine l36 _ (fun st hst => ?_) (fun q st h1 h2 h3 => ?_)
    · rw [BFn, q]
      by_cases ee : st = k
      · rw [ee, pk_uLs, if_pos rfl]; rfl
      · rw [pk_uLn ee, f2 st (by omega), if_neg]
        · rfl
        · rw [nI_eq (by omega) (by omega)]; omega
    · rw [pk_uLn (by omega)]; exact f2 _ (by omega)
theorem En_countWith_s (X : CX Y h x s c) (he : isO Y 0 e) (K : LK h e s c b (cN c 9)) (hb : b < cN c 2) {p t : Nat} (hp : p < cN c (88 + b)) (ht : t < cN c 1)
    (hB : ∀ p st, p ≤ cN c (88 + b) → st < cN c 0 → hAl h (hGr h 2 e) (8 * p + st) = lN (BFn c b p st)) (hE : ∀ q st, q ≤ cN c (88 + b) → st < cN c 0 → hAl h (hGr h 3 e) (8 * q + st) = ES c b (cN c 9) (cN c (88 + b) - q) st) :
    En_countWith Y e (nI p) (nI t) h = some (lN (HV c b p t)) := by
  have V := X.2.2.2.2
  have l0 := VC_l0 V
  have l1 := VC_l1 V
  have l88 := (V.2.2.2.2.1 b hb).2.1.1.2
  unfold En_countWith
  let f : Nat → Nat := fun s => if c (18 + 8 * s + t) = m1 ∨ barred c b (p + 1) t (cN c 9) = true then 0 else BFn c b p s * ESn c b (cN c 9) (cN c (88 + b) - (p + 1)) (cN c (18 + 8 * s + t))
  have hHV : HV c b p t = sm f (cN c 0) := (sm_cut8 (by omega) (fun i h1 h2 => by
    show (if _ then _ else _) = 0
    rw [if_pos (Or.inl (VR_ge V h2 (by omega) h1))])).symm
  rw [hHV]
  refine upl (Q := fun r => r = some (lN (sm f (cN c 0)))) (fun F i (_ : Unit) => En_countWith_L5 Y e (nI p) (nI t) h F (lN (sm f i)) (nI i)) (cN c 0) (fun _ _ => True) ?_ ?_ (cN c 0) 0 () FU (by omega) (by unfold FU; omega) trivial
  · intro F i _ hi _
    right
    refine ⟨(), ?_, trivial⟩
    show En_countWith_L5 Y e (nI p) (nI t) h (F + 1) (lN (sm f i)) (nI i) = En_countWith_L5 Y e (nI p) (nI t) h F (lN (sm f i + f i)) (nI (i + 1))
    have hf : f i = if c (18 + 8 * i + t) = m1 ∨ barred c b (p + 1) t (cN c 9) = true then 0 else BFn c b p i * ESn c b (cN c 9) (cN c (88 + b) - (p + 1)) (cN c (18 + 8 * i + t)) := rfl
    rw [En_countWith_L5, K.1, X.2.2.2.1.1.1, VC_e0 V, if_neg (nI_ge hi (by omega)), En_stepTo_s X he K hb hp hi ht, bind_s, nI_1, hf]
    unfold stp
    by_cases hbb : barred c b (p + 1) t (cN c 9) = true
    · rw [if_pos hbb, if_pos (show m1 = -1 from rfl), if_pos (Or.inr hbb)]
      rfl
    · rw [if_neg hbb]
      rcases V.2.2.2.1 i t (by omega) (by omega) with q | ⟨_, _, q1, q2⟩
      · rw [if_pos (show c (18 + 8 * i + t) = -1 from q), if_pos (Or.inl q)]
        rfl
      · have qn : ¬ c (18 + 8 * i + t) = -1 := by rw [q1, zm1, ne_m1 (by omega)]; exact fun z => z
        have hno : ¬ (c (18 + 8 * i + t) = m1 ∨ barred c b (p + 1) t (cN c 9) = true) := fun z => z.elim (fun w => qn w) hbb
        rw [if_neg qn, if_neg hno, q1]
        simp (disch := omega) only [zlit, nI_add, pk_mul, cl2 X.1 he, cl3 X.1 he, inB_nI, if_true, nI_clamp]
        rw [show p * 8 + i = 8 * p + i by omega, show (p + 1) * 8 + cN c (18 + 8 * i + t) = 8 * (p + 1) + cN c (18 + 8 * i + t) by omega, hB p i (by omega) hi, hE (p + 1) _ (by omega) q2, ES_n, lN_mul, lN_add]
  · intro F _ _
    show En_countWith_L5 Y e (nI p) (nI t) h (F + 1) _ (nI (cN c 0)) = _
    rw [En_countWith_L5, K.1, X.2.2.2.1.1.1, VC_e0 V, if_pos (nI_le (Nat.le_refl _) (by omega))]
end TC
