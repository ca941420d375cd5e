/-! ===== the class: endings counted, finales that fit ===== -/
def stp (c : Nat → Int32) (b L pl st t : Nat) : Int32 := if barred c b pl t L then m1 else c (18 + 8 * st + t)
theorem stp_ok {c : Nat → Int32} (V : VB c) {b L pl st t : Nat} (hs : st < 8) (ht : t < 8) : stOk c (stp c b L pl st t) := by
  unfold stp
  split
  · exact Or.inl rfl
  · exact VR_ok V hs ht
def isF (c : Nat → Int32) (x : Int32) : Bool := if x = m1 then false else (cN c 8).testBit x.toNatClampNeg
def wlk (c : Nat → Int32) (b L : Nat) (row : Nat → Nat) : Nat → Nat → Int32 → Int32
  | 0, _, st => st
  | k + 1, p, st => if st = m1 then m1 else wlk c b L row k (p + 1) (stp c b L (p + 1) st.toNatClampNeg (row p))
theorem wlk_m1 (c : Nat → Int32) (b L : Nat) (row : Nat → Nat) : ∀ k p, wlk c b L row k p m1 = m1
  | 0, _ => rfl
  | k + 1, p => by simp [wlk]
def leadsB (c : Nat → Int32) (b L : Nat) (row : Nat → Nat) : Bool := isF c (wlk c b L row (cN c (88 + b)) 0 (place c b))
def fitB (c : Nat → Int32) (L b f : Nat) : Bool := decide (cN c (166 + f) = cN c (88 + b)) && leadsB c b L (fun k => cN c (174 + 6 * f + k))
def fitS (c : Nat → Int32) (L b : Nat) : Nat := mk (fitB c L b) (cN c 3)
section CC
variable {Y : Ly} {h : Hp} {s x e : Nat} {c : Nat → Int32} {b L : Nat}
theorem LK_wi (X : CX Y h x s c) (he : isO Y 0 e) (K : LK h e s c b L) {f : Nat} {g : Nat → Int32} (h0 : f ≠ 0) (hf : cArr f = true) (hf2 : f / 100 = 0) : LK (hWi h (hGr h f e) g) e s c b L := by
  refine ⟨K.1, K.2.1, K.2.2.1, fun p hp => ?_⟩
  obtain ⟨k, k1, k2, k3⟩ := K.2.2.2 p hp
  refine ⟨k, k1, ?_, k3⟩
  rw [ai_wi, gr_wi, if_neg]
  · exact k2
  · intro q
    have := (X.1.2.2.2.1 0 f e e rfl hf he (by rw [hf2]; exact he) q).1
    omega
theorem St_leadsTo_m1 {a : Nat} {t : Int32} : St_leadsTo Y a m1 t h = some m1 := by
  unfold St_leadsTo
  simp (disch := omega) only [zlit, zneg, m1_lt, if_true]
theorem St_isFinal_s (X : CX Y h x s c) {y : Int32} (hy : stOk c y) : St_isFinal Y (hGr h 400 s) y h = some (isF c y) := by
  have V := X.2.2.2.2
  have l0 := VC_l0 V
  have p0 := pow_le8 l0
  have l8 := V.2.1.1.2
  unfold St_isFinal isF
  rw [St_hasState_s X.2.2.2.1 V, bind_s]
  rcases hy with rfl | ⟨k, hk, rfl⟩
  · rw [show isAt m1 (cN c 0) = false by unfold isAt; rw [show decide ((0 : Int32) ≤ m1) = false by decide]; rfl]
    simp
  · rw [isAt_nI hk (by omega), if_pos rfl, X.2.2.2.1.1.2.2.2.2.2.2.2.2.1, V.2.1.1.1, LP_has_s (by omega) (by omega), bind_s]
    simp (disch := omega) only [ne_m1, if_false, nI_clamp]
    cases (cN c 8).testBit k <;> rfl
theorem En_stepTo_s (X : CX Y h x s c) (he : isO Y 0 e) (K : LK h e s c b L) (hb : b < cN c 2) {p st t : Nat} (hp : p < cN c (88 + b)) (hst : st < cN c 0) (ht : t < cN c 1) :
    En_stepTo Y e (nI p) (nI st) (nI t) h = some (stp c b L (p + 1) st t) := by
  have V := X.2.2.2.2
  have l1 := VC_l1 V
  have l88 := (V.2.2.2.2.1 b hb).2.1.1.2
  obtain ⟨k, k1, k2, k3⟩ := K.2.2.2 p hp
  unfold En_stepTo
  rw [K.2.1, cl0 X.1 he, K.1]
  simp (disch := omega) only [zlit, zneg, nI_ltI, nI_leI, inB_nI, if_true, nI_clamp, k2, LP_has_s, bind_s]
  rw [if_neg (by omega), if_neg (by omega), k3 t (by omega), St_leadsTo_s X.1 X.2.1 X.2.2.1 X.2.2.2.1 V hst ht, bind_s]
  unfold stp
  cases barred c b (p + 1) t L <;> simp [ht]
theorem En_stepTo_m (X : CX Y h x s c) (he : isO Y 0 e) (K : LK h e s c b L) (hb : b < cN c 2) {p t : Nat} (hp : p < cN c (88 + b)) (ht : t < 8) : En_stepTo Y e (nI p) m1 (nI t) h = some m1 := by
  have V := X.2.2.2.2
  have l88 := (V.2.2.2.2.1 b hb).2.1.1.2
  obtain ⟨k, k1, k2, k3⟩ := K.2.2.2 p hp
  unfold En_stepTo
  rw [K.2.1, cl0 X.1 he]
  simp (disch := omega) only [zlit, zneg, nI_ltI, nI_leI, inB_nI, if_true, nI_clamp, k2, LP_has_s, bind_s, St_leadsTo_m1]
  rw [if_neg (by omega), if_neg (by omega)]
  split <;> rfl
theorem En_sumAfter_s (X : CX Y h x s c) (he : isO Y 0 e) (K : LK h e s c b L) (hb : b < cN c 2) {p st : Nat} (hp : p < cN c (88 + b)) (hst : st < cN c 0) {G : Nat → Int64} (hG : ∀ q, q < cN c 0 → hAl h (hGr h 3 e) (8 * (p + 1) + q) = G q) :
    En_sumAfter Y e (nI p) (nI st) h = some (esum c G (fun t => !barred c b (p + 1) t L) st (cN c 1)) := by
  have V := X.2.2.2.2
  have l0 := VC_l0 V
  have l1 := VC_l1 V
  have l88 := (V.2.2.2.2.1 b hb).2.1.1.2
  unfold En_sumAfter
  refine upl (Q := fun r => r = some (esum c G (fun t => !barred c b (p + 1) t L) st (cN c 1))) (fun F i a => En_sumAfter_L5 Y e (nI p) (nI st) h F a (nI i)) (cN c 1) (fun i a => a = esum c G (fun t => !barred c b (p + 1) t L) st i) ?_ ?_ (cN c 1) 0 0 FU (by omega) (by unfold FU; omega) rfl
  · intro F i a hi hI
    right
    show ∃ s', En_sumAfter_L5 Y e (nI p) (nI st) h (F + 1) a (nI i) = En_sumAfter_L5 Y e (nI p) (nI st) h F s' (nI (i + 1)) ∧ _
    rw [En_sumAfter_L5, K.1, X.2.2.2.1.1.2.1, VC_e1 V, if_neg (nI_ge hi (by omega)), En_stepTo_s X he K hb hp hst hi, bind_s]
    unfold stp
    by_cases hbb : barred c b (p + 1) i L = true
    · rw [if_pos hbb]
      simp only [zlit, zneg, if_true, nI_add]
      refine ⟨_, rfl, ?_⟩
      rw [hI]; simp [esum, hbb, ← nI_0]
    · rw [if_neg hbb]
      rcases V.2.2.2.1 st i (by omega) (by omega) with q | ⟨_, _, q1, q2⟩
      · rw [q]
        simp only [zlit, zneg, if_true, nI_add]
        refine ⟨_, rfl, ?_⟩
        rw [hI]; simp [esum, q]
      · have qn : ¬ c (18 + 8 * st + i) = m1 := by rw [q1, ne_m1 (by omega)]; exact fun z => z
        rw [q1]
        simp (disch := omega) only [zlit, zneg, ne_m1, if_false, nI_add, pk_mul, cl3 X.1 he, inB_nI, if_true, nI_clamp]
        refine ⟨_, rfl, ?_⟩
        rw [show (p + 1) * 8 + cN c (18 + 8 * st + i) = 8 * (p + 1) + cN c (18 + 8 * st + i) by omega, hG _ q2, hI]
        simp [esum, qn, hbb]
  · intro F a hI
    show En_sumAfter_L5 Y e (nI p) (nI st) h (F + 1) a (nI (cN c 1)) = _
    rw [En_sumAfter_L5, K.1, X.2.2.2.1.1.2.1, VC_e1 V, if_pos (nI_le (Nat.le_refl _) (by omega)), hI]
theorem ES_in (c : Nat → Int32) (b L : Nat) {n p st : Nat} (hn : n = cN c (88 + b)) (hp : p < n) : ES c b L (n - p) st = esum c (ES c b L (n - (p + 1))) (fun t => !barred c b (p + 1) t L) st (cN c 1) := by
  rw [show n - p = (n - (p + 1)) + 1 by omega]
  show esum c (ES c b L (n - (p + 1))) (fun t => !barred c b (cN c (88 + b) - (n - (p + 1))) t L) st (cN c 1) = _
  rw [show cN c (88 + b) - (n - (p + 1)) = p + 1 by omega]
theorem En_countOf_s (X : CX Y h x s c) (he : isO Y 0 e) (hb : b < cN c 2) (hL : L < 2 ^ 31) : ∃ h', En_countOf Y e s (nI b) (nI L) h = some (ecnt c b L, h') ∧ Qf Y 100 h h' ∧ LK h' e s c b L ∧ ∀ q st, q ≤ cN c (88 + b) → st < cN c 0 → hAl h' (hGr h' 3 e) (8 * q + st) = ES c b L (cN c (88 + b) - q) st := by
  have V := X.2.2.2.2
  have l0 := VC_l0 V
  have l1 := VC_l1 V
  have l88 := (V.2.2.2.2.1 b hb).2.1.1.2
  obtain ⟨h1, e1, q1, K1⟩ := En_lookAt_s X he hb hL
  have X1 := CX_Q X q1
  unfold En_countOf
  rw [e1, bind_s]
  generalize hn : cN c (88 + b) = n at *
  have hA : ∀ g, (Qf Y 100 h (hWl h1 (hGr h1 3 e) g)) := fun g => Qf_tr q1 (Qf_wl (by decide) rfl he)
  have K' : ∀ g, LK (hWl h1 (hGr h1 3 e) g) e s c b L := fun g => K1
  have X' : ∀ g, CX Y (hWl h1 (hGr h1 3 e) g) x s c := fun g => CX_Q X (hA g)
  have l76 : ∀ (i : Nat) (g0 : Nat → Int64) (k68 : Int32 → Hp → Option (Int64 × Hp)), i < n → (∀ q st, i < q → q ≤ n → st < cN c 0 → g0 (8 * q + st) = ES c b L (n - q) st) →
      ∃ g', En_countOf_L76 Y e (nI i) k68 FU 0 (hWl h1 (hGr h1 3 e) g0) = k68 (nI i + m1) (hWl h1 (hGr h1 3 e) g') ∧ (∀ q st, i ≤ q → q ≤ n → st < cN c 0 → g' (8 * q + st) = ES c b L (n - q) st) := by
    intro i g0 k68 hi hg0
    refine upl (Q := fun r => ∃ g', r = k68 (nI i + m1) (hWl h1 (hGr h1 3 e) g') ∧ (∀ q st, i ≤ q → q ≤ n → st < cN c 0 → g' (8 * q + st) = ES c b L (n - q) st)) (fun F j g => En_countOf_L76 Y e (nI i) k68 F (nI j) (hWl h1 (hGr h1 3 e) g)) (cN c 0)
      (fun j g => (∀ q st, i < q → q ≤ n → st < cN c 0 → g (8 * q + st) = ES c b L (n - q) st) ∧ ∀ st, st < j → g (8 * i + st) = ES c b L (n - i) st) ?_ ?_ (cN c 0) 0 g0 FU (by omega) (by unfold FU; omega) ⟨hg0, fun st hst => absurd hst (by omega)⟩
    · intro F j g hj hI
      right
      show ∃ s', En_countOf_L76 Y e (nI i) k68 (F + 1) (nI j) (hWl h1 (hGr h1 3 e) g) = En_countOf_L76 Y e (nI i) k68 F (nI (j + 1)) (hWl h1 (hGr h1 3 e) s') ∧ _
      rw [En_countOf_L76, (K' g).1, (X' g).2.2.2.1.1.1, VC_e0 V, if_neg (nI_ge hj (by omega))]
      rw [En_sumAfter_s (X' g) he (K' g) hb (by omega) hj (G := ES c b L (n - (i + 1))) (fun q hq => by rw [gr_wl, al_wl, if_pos rfl]; exact hI.1 (i + 1) q (by omega) (by omega) hq), bind_s]
      simp (disch := omega) only [zlit, nI_add, pk_mul, cl3 (X' g).1 he, inB_nI, if_true, nI_clamp, letH_e]
      rw [gr_wl, tl_wl]
      refine ⟨_, rfl, fun q st h1 h2 h3 => ?_, fun st hst => ?_⟩
      · rw [pk_uLn (by omega)]; exact hI.1 q st h1 h2 h3
      · by_cases q : st = j
        · rw [q, show 8 * i + j = i * 8 + j by omega, pk_uLs, ES_in c b L hn.symm hi]
        · rw [pk_uLn (by omega)]; exact hI.2 st (by omega)
    · intro F g hI
      show ∃ g', En_countOf_L76 Y e (nI i) k68 (F + 1) (nI (cN c 0)) (hWl h1 (hGr h1 3 e) g) = _ ∧ _
      rw [En_countOf_L76, (K' g).1, (X' g).2.2.2.1.1.1, VC_e0 V, if_pos (nI_le (Nat.le_refl _) (by omega))]
      refine ⟨g, rfl, fun q st h1 h2 h3 => ?_⟩
      by_cases e : q = i
      · subst e; exact hI.2 st h3
      · exact hI.1 q st (by omega) h2 h3
  have l68 : ∀ g, (∀ st, st < cN c 0 → g (8 * n + st) = ES c b L 0 st) → ∃ h', En_countOf_L68 Y e FU (dn n) (hWl h1 (hGr h1 3 e) g) = some (ecnt c b L, h') ∧ Qf Y 100 h h' ∧ LK h' e s c b L ∧ ∀ q st, q ≤ n → st < cN c 0 → hAl h' (hGr h' 3 e) (8 * q + st) = ES c b L (n - q) st := by
    intro g hg
    refine dnl (Q := fun r => ∃ h', r = some (ecnt c b L, h') ∧ Qf Y 100 h h' ∧ LK h' e s c b L ∧ ∀ q st, q ≤ n → st < cN c 0 → hAl h' (hGr h' 3 e) (8 * q + st) = ES c b L (n - q) st) (fun F i g => En_countOf_L68 Y e F (dn i) (hWl h1 (hGr h1 3 e) g))
      (fun i g => i ≤ n ∧ ∀ q st, i ≤ q → q ≤ n → st < cN c 0 → g (8 * q + st) = ES c b L (n - q) st) ?_ ?_ n g FU (by unfold FU; omega) ⟨Nat.le_refl _, fun q st h1 h2 h3 => ?_⟩
    · intro F i g hI
      right
      obtain ⟨g', e1, e2⟩ := l76 i g (En_countOf_L68 Y e F) (by omega) (fun q st h1 h2 h3 => hI.2 q st (by omega) h2 h3)
      refine ⟨g', ?_, by omega, e2⟩
      show En_countOf_L68 Y e (F + 1) (nI i) (hWl h1 (hGr h1 3 e) g) = _
      rw [En_countOf_L68, if_neg (nI_pos (by omega)), e1, dn_s]
    · intro F g hI
      refine ⟨_, ?_, hA g, K' g, fun q st h1 h2 => by rw [gr_wl, al_wl, if_pos rfl]; exact hI.2 q st (by omega) h1 h2⟩
      show En_countOf_L68 Y e (F + 1) m1 (hWl h1 (hGr h1 3 e) g) = _
      rw [En_countOf_L68, if_pos (by decide), (K' g).2.2.1]
      unfold ecnt
      rcases place_ok V hb with q | ⟨k, hk, q⟩
      · rw [q, if_pos (by decide), if_pos rfl]
      · rw [q]
        simp (disch := omega) only [zlit, nI_ltI, ne_m1, if_false, gr_wl, cl3 X1.1 he, inB_nI, if_true, nI_clamp, al_wl]
        rw [if_neg (by omega), if_pos (by omega)]
        have := hI.2 0 k (by omega) (by omega) hk
        rw [show 8 * 0 + k = k by omega, Nat.sub_zero] at this
        rw [this, hn]
    · rw [show q = n by omega, Nat.sub_self]; exact hg st h3
  have key := upl (Q := fun r => ∃ h', r = some (ecnt c b L, h') ∧ Qf Y 100 h h' ∧ LK h' e s c b L ∧ ∀ q st, q ≤ n → st < cN c 0 → hAl h' (hGr h' 3 e) (8 * q + st) = ES c b L (n - q) st) (fun F i g => En_countOf_L10 Y e F (nI i) (hWl h1 (hGr h1 3 e) g)) (cN c 0)
    (fun i g => ∀ st, st < i → g (8 * n + st) = ES c b L 0 st) ?_ ?_ (cN c 0) 0 (hAl h1 (hGr h1 3 e)) FU (by omega) (by unfold FU; omega) (fun st hst => absurd hst (by omega))
  · simp only [wl_self] at key
    exact key
  · intro F i g hi hI
    right
    show ∃ s', En_countOf_L10 Y e (F + 1) (nI i) (hWl h1 (hGr h1 3 e) g) = En_countOf_L10 Y e F (nI (i + 1)) (hWl h1 (hGr h1 3 e) s') ∧ _
    rw [En_countOf_L10, (K' g).1, (X' g).2.2.2.1.1.1, VC_e0 V, if_neg (nI_ge hi (by omega)), St_isFinal_s (X' g) (Or.inr ⟨i, hi, rfl⟩), bind_s, (K' g).2.1, hn]
    simp (disch := omega) only [zlit, nI_add, pk_mul, cl3 (X' g).1 he, inB_nI, if_true, nI_clamp, letH_e]
    have hv : isF c (nI i) = (cN c 8).testBit i := by
      unfold isF
      simp (disch := omega) only [ne_m1, if_false, nI_clamp]
    rw [hv, gr_wl]
    have st : ∀ v : Int64, v = ES c b L 0 i → ∀ q, q < i + 1 → vp_updL g (n * 8 + i) v (8 * n + q) = ES c b L 0 q := by
      intro v hv q hq
      by_cases e : q = i
      · rw [e, show 8 * n + i = n * 8 + i by omega, pk_uLs]; exact hv
      · rw [pk_uLn (by omega)]; exact hI q (by omega)
    by_cases hbt : (cN c 8).testBit i = true
    · rw [if_pos hbt, tl_wl]
      exact ⟨_, rfl, st 1 (by simp [ES, hbt])⟩
    · rw [if_neg hbt, tl_wl]
      exact ⟨_, rfl, st 0 (by simp [ES, hbt])⟩
  · intro F g hI
    show ∃ h', En_countOf_L10 Y e (F + 1) (nI (cN c 0)) (hWl h1 (hGr h1 3 e) g) = _ ∧ _
    rw [En_countOf_L10, (K' g).1, (X' g).2.2.2.1.1.1, VC_e0 V, if_pos (nI_le (Nat.le_refl _) (by omega)), (K' g).2.1, hn]
    simp only [zlit, dn_sub]
    exact l68 g hI
end CC
