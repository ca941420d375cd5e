/-! ===== offers, watches: the class ===== -/
def cstS (c : Nat → Int32) (k n a : Nat) : Nat := sm (fun i => if a.testBit i then cN c (k + i) else 0) n
def kn (c : Nat → Int32) (a : Nat) : Nat := itr (jst (fun b => cN c (298 + b)) (cN c 2)) (cN c 2) (unio (fun i => cN c (276 + i)) a (cN c 6))
def chp (c : Nat → Int32) (k n a b : Nat) : Bool := decide (cstS c k n a < cstS c k n b) || (decide (cstS c k n a = cstS c k n b) && decide (pcnt a < pcnt b))
def betB (c : Nat → Int32) (a b : Nat) : Bool := decide (pcnt (kn c b) < pcnt (kn c a)) || (decide (pcnt (kn c a) = pcnt (kn c b)) && chp c 270 (cN c 6) a b)
def scanN (q : Nat → Nat → Bool) (o : Nat) : Nat → Nat
  | 0 => o
  | n + 1 => if q n (scanN q o n) then n else scanN q o n
theorem scanN_lt {q : Nat → Nat → Bool} {o M : Nat} (ho : o < M) : ∀ n, n ≤ M → scanN q o n < M := by
  intro n
  induction n with
  | zero => intro _; exact ho
  | succ n ih =>
    intro hn
    rw [scanN]
    split
    · omega
    · exact ih (by omega)
def scanV (v : Nat → Nat) (q : Nat → Option Nat → Bool) : Nat → Option Nat
  | 0 => none
  | n + 1 => if q n (scanV v q n) then some (v n) else scanV v q n
theorem scanV_lt {v : Nat → Nat} {q : Nat → Option Nat → Bool} {M : Nat} : ∀ n, (∀ i, i < n → v i < M) → ∀ k, scanV v q n = some k → k < M := by
  intro n
  induction n with
  | zero => intro _ k hk; cases hk
  | succ n ih =>
    intro hv k hk
    rw [scanV] at hk
    split at hk
    · cases hk; exact hv n (by omega)
    · exact ih (fun i hi => hv i (by omega)) k hk
def buyS (c : Nat → Int32) (much : Nat) : Nat := scanN (fun a o => decide (cstS c 270 (cN c 6) a ≤ much) && betB c a o) 0 (2 ^ cN c 6)
def chpS (c : Nat → Int32) : Option Nat := scanV (cstS c 270 (cN c 6)) (fun a o => (match o with | none => true | some k => decide (cstS c 270 (cN c 6) a < k)) && decide (kn c a = 2 ^ cN c 2 - 1)) (2 ^ cN c 6)
def gcnt (c : Nat → Int32) (a b : Nat) : Nat := sm (fun i => if a.testBit i && (cN c (290 + i)).testBit b then 1 else 0) (cN c 7)
def gdB (c : Nat → Int32) (g a : Nat) : Bool := alln (fun b => decide (g ≤ gcnt c a b)) (cN c 2)
def grdS (c : Nat → Int32) (g : Nat) : Option Nat := scan (fun a o => (match o with | none => true | some k => chp c 282 (cN c 7) a k) && gdB c g a) none (2 ^ cN c 7)
def barS (c : Nat → Int32) : Option Nat := scan (fun b o => match o with | none => true | some k => decide (gcnt c 255 b < gcnt c 255 k)) none (cN c 2)
def spKnown (c : Nat → Int32) (a : Int32) : Int32 × Int32 := if isAt a (2 ^ cN c 6) then (nI (kn c a.toNatClampNeg), nI 0) else (m1, nI 5)
def spBuy (c : Nat → Int32) (a : Int32) : Int32 × Int32 := if isAt a 1000 then (nI (pcnt (kn c (buyS c a.toNatClampNeg))), nI 0) else (m1, nI 5)
def spBuySet (c : Nat → Int32) (a : Int32) : Int32 × Int32 := if isAt a 1000 then (nI (buyS c a.toNatClampNeg), nI 0) else (m1, nI 5)
def paidP (c : Nat → Int32) : Option Nat → Int32 × Int32
  | none => (m1, nI 8)
  | some k => (nI (cstS c 282 (cN c 7) k), nI 0)
def spGuard (c : Nat → Int32) (g : Int32) : Int32 × Int32 := if isAt (g - 1) 3 then paidP c (grdS c ((g - 1).toNatClampNeg + 1)) else (m1, nI 5)
def spGuardSet (c : Nat → Int32) (g : Int32) : Int32 × Int32 := if isAt (g - 1) 3 then anyP (grdS c ((g - 1).toNatClampNeg + 1)) else (m1, nI 5)
theorem cstS_le {c : Nat → Int32} {k n a : Nat} (hn : n < 9) (hc : ∀ o, o < n → cN c (k + o) < 100) : cstS c k n a ≤ 800 := by
  have : cstS c k n a ≤ n * 99 := sm_le n (fun i hi => by have := hc i hi; split <;> omega)
  omega
theorem offs {c : Nat → Int32} (V : VB c) : (∀ o, o < cN c 6 → cN c (270 + o) < 100 ∧ cN c (276 + o) < 2 ^ cN c 2) ∧ (∀ k, k < cN c 7 → cN c (282 + k) < 100 ∧ cN c (290 + k) < 2 ^ cN c 2) ∧ ∀ b, b < cN c 2 → cN c (298 + b) < 2 ^ cN c 2 := by
  have := V.2.2.2.2.2.2.2
  exact ⟨fun o ho => ⟨(this.1 o ho).1.2, (this.1 o ho).2.2⟩, fun o ho => ⟨(this.2.1 o ho).1.2, (this.2.1 o ho).2.2⟩, fun b hb => (this.2.2 b hb).2⟩
theorem unio_lt2 {f : Nat → Nat} {a M : Nat} : ∀ n, (∀ i, i < n → f i < 2 ^ M) → unio f a n < 2 ^ M := by
  intro n
  induction n with
  | zero => intro _; exact Nat.two_pow_pos M
  | succ n ih =>
    intro hf
    rw [unio]
    apply Nat.or_lt_two_pow (ih (fun i hi => hf i (by omega)))
    split
    · exact hf n (by omega)
    · exact Nat.two_pow_pos M
theorem kn_lt {c : Nat → Int32} (V : VB c) (a : Nat) : kn c a < 2 ^ cN c 2 := by
  unfold kn
  exact itr_lt (offs V).2.2 (unio_lt2 _ (fun i hi => ((offs V).1 i hi).2)) _
def LT (Y : Ly) (h : Hp) (l : Nat) (c : Nat → Int32) (n a b : Nat) : Prop := hGi h 302 l = nI n ∧ (∃ M, n ≤ M ∧ M < 9 ∧ lnY Y (hGr h 300 l) = M ∧ lnY Y (hGr h 301 l) = M) ∧ ∀ o, o < n → (hAi h (hGr h 300 l) o = nI (cN c (a + o)) ∧ cN c (a + o) < 100) ∧ hAi h (hGr h 301 l) o = nI (cN c (b + o)) ∧ cN c (b + o) < 64
theorem LT_o {Y : Ly} {h : Hp} {x s : Nat} {c : Nat → Int32} (X : CX Y h x s c) : LT Y h (hGr h 401 s) c (cN c 6) 270 276 := by
  have V := X.2.2.2.2
  have l6 := VC_l6 V
  have p2 := pow_le6 (VC_l2 V)
  have S3 := X.1.2.2.1 _ X.2.2.1
  refine ⟨by rw [X.2.2.2.1.1.2.2.2.2.2.2.1, VC_e6 V], ⟨6, by omega, by omega, S3.1.1, S3.1.2⟩, fun o ho => ?_⟩
  have r := X.2.2.2.1.2.2.2.2.1 o ho
  have v := V.2.2.2.2.2.2.2.1 o ho
  have v2 := v.2.2
  exact ⟨⟨by rw [r.1, v.1.1], v.1.2⟩, by rw [r.2, v.2.1], by omega⟩
theorem LT_w {Y : Ly} {h : Hp} {x s : Nat} {c : Nat → Int32} (X : CX Y h x s c) : LT Y h (hGr h 402 s) c (cN c 7) 282 290 := by
  have V := X.2.2.2.2
  have l7 := VC_l7 V
  have p2 := pow_le6 (VC_l2 V)
  have S3 := X.1.2.2.1 _ X.2.2.1
  refine ⟨by rw [X.2.2.2.1.1.2.2.2.2.2.2.2.1, VC_e7 V], ⟨8, by omega, by omega, S3.2.1, S3.2.2⟩, fun o ho => ?_⟩
  have r := X.2.2.2.1.2.2.2.2.2 o ho
  have v := V.2.2.2.2.2.2.2.2.1 o ho
  have v2 := v.2.2
  exact ⟨⟨by rw [r.1, v.1.1], v.1.2⟩, by rw [r.2, v.2.1], by omega⟩
section OC
variable {Y : Ly} {h : Hp} {x s l n ka kb : Nat} {c : Nat → Int32}
theorem Lo_costOfSet_s (L : LT Y h l c n ka kb) {a : Nat} (ha : a < 2 ^ 31) : Lo_costOfSet Y l (nI a) h = some (nI (cstS c ka n a)) := by
  obtain ⟨e, ⟨M, m1', m2', m3, m4⟩, r⟩ := L
  unfold Lo_costOfSet
  refine upl (Q := fun r => r = some (nI (cstS c ka n a))) (fun F i (_ : Unit) => Lo_costOfSet_L4 Y l (nI a) h F (nI (cstS c ka i a)) (nI i)) n (fun _ _ => True) ?_ ?_ n 0 () FU (by omega) (by unfold FU; omega) trivial
  · intro F i _ hi _
    right
    refine ⟨(), ?_, trivial⟩
    show Lo_costOfSet_L4 Y l (nI a) h (F + 1) (nI (cstS c ka i a)) (nI i) = Lo_costOfSet_L4 Y l (nI a) h F (nI (cstS c ka (i + 1) a)) (nI (i + 1))
    rw [Lo_costOfSet_L4, e, m3]
    simp (disch := omega) only [zlit, nI_leI, LP_has_s, bind_s, inB_nI, if_true, nI_clamp, (r i hi).1.1, nI_add]
    rw [if_neg (by omega)]
    show _ = Lo_costOfSet_L4 Y l (nI a) h F (nI (cstS c ka i a + if a.testBit i = true then cN c (ka + i) else 0)) (nI (i + 1))
    by_cases q : a.testBit i = true
    · rw [if_pos q, if_pos q]
    · rw [if_neg q, if_neg q]
  · intro F _ _
    show Lo_costOfSet_L4 Y l (nI a) h (F + 1) (nI (cstS c ka n a)) (nI n) = _
    rw [Lo_costOfSet_L4, e, if_pos (nI_le (Nat.le_refl _) (by omega))]
theorem Lo_booksOfSet_s (L : LT Y h l c n ka kb) {a : Nat} (ha : a < 2 ^ 31) : Lo_booksOfSet Y l (nI a) h = some (nI (unio (fun i => cN c (kb + i)) a n)) := by
  obtain ⟨e, ⟨M, m1', m2', m3, m4⟩, r⟩ := L
  unfold Lo_booksOfSet
  refine upl (Q := fun r => r = some (nI (unio (fun i => cN c (kb + i)) a n))) (fun F i (_ : Unit) => Lo_booksOfSet_L4 Y l (nI a) h F (nI (unio (fun i => cN c (kb + i)) a i)) (nI i)) n (fun _ _ => True) ?_ ?_ n 0 () FU (by omega) (by unfold FU; omega) trivial
  · intro F i _ hi _
    right
    refine ⟨(), ?_, trivial⟩
    show Lo_booksOfSet_L4 Y l (nI a) h (F + 1) (nI (unio (fun i => cN c (kb + i)) a i)) (nI i) = Lo_booksOfSet_L4 Y l (nI a) h F (nI (unio (fun i => cN c (kb + i)) a (i + 1))) (nI (i + 1))
    rw [Lo_booksOfSet_L4, e, m4]
    simp (disch := omega) only [zlit, nI_leI, LP_has_s, bind_s, inB_nI, if_true, nI_clamp, (r i hi).2.1, nI_add, zor, unio]
    rw [if_neg (by omega)]
    by_cases q : a.testBit i = true
    · rw [if_pos q, if_pos q]
    · rw [if_neg q, if_neg q]
  · intro F _ _
    show Lo_booksOfSet_L4 Y l (nI a) h (F + 1) _ (nI n) = _
    rw [Lo_booksOfSet_L4, e, if_pos (nI_le (Nat.le_refl _) (by omega))]
theorem sub_lt0 {a b : Nat} (ha : a < 2 ^ 30) (hb : b < 2 ^ 30) : (nI a - nI b < nI 0) ↔ a < b := by
  rw [Int32.lt_iff_toInt_lt, pk_sub_toInt ha hb, nI_toInt (by omega)]
  omega
theorem sub_0lt {a b : Nat} (ha : a < 2 ^ 30) (hb : b < 2 ^ 30) : (nI 0 < nI a - nI b) ↔ b < a := by
  rw [Int32.lt_iff_toInt_lt, pk_sub_toInt ha hb, nI_toInt (by omega)]
  omega
theorem sub_0le {a b : Nat} (ha : a < 2 ^ 30) (hb : b < 2 ^ 30) : (nI 0 ≤ nI a - nI b) ↔ b ≤ a := by
  rw [Int32.le_iff_toInt_le, pk_sub_toInt ha hb, nI_toInt (by omega)]
  omega
theorem sub_eq0 {a b : Nat} (ha : a < 2 ^ 30) (hb : b < 2 ^ 30) : (nI a - nI b = nI 0) ↔ a = b := by
  rw [← Int32.toInt_inj, pk_sub_toInt ha hb, nI_toInt (by omega)]
  omega
theorem Lo_isCheaper_s (L : LT Y h l c n ka kb) (hn : n < 9) {a b : Nat} (ha : a < 256) (hb : b < 256) : Lo_isCheaper Y l (nI a) (nI b) h = some (chp c ka n a b) := by
  have h1 : cstS c ka n a ≤ 800 := cstS_le hn (fun o ho => (L.2.2 o ho).1.2)
  have h2 : cstS c ka n b ≤ 800 := cstS_le hn (fun o ho => (L.2.2 o ho).1.2)
  have hf := LP_isFewer_s (Y := Y) (h := h) (a := a) (o := some b) ha (fun k hk => by cases hk; exact hb)
  simp only [on] at hf
  unfold Lo_isCheaper chp
  rw [Lo_costOfSet_s L (by omega), bind_s, Lo_costOfSet_s L (by omega), bind_s, hf, bind_s]
  simp (disch := omega) only [zlit, sub_lt0, sub_eq0, fewer]
  by_cases q1 : cstS c ka n a < cstS c ka n b
  · rw [if_pos q1]; simp [q1]
  · rw [if_neg q1]
    by_cases q2 : cstS c ka n a = cstS c ka n b
    · rw [if_pos q2]
      by_cases q3 : pcnt a < pcnt b
      · simp [q2, q3]
      · simp [q1, q3]
    · rw [if_neg q2]; simp [q1, q2]
theorem Sh_knownBy_s (X : CX Y h x s c) {a : Nat} (ha : a < 2 ^ 31) : Sh_knownBy Y s (nI a) h = some (nI (kn c a)) := by
  have V := X.2.2.2.2
  have l2 := VC_l2 V
  have p2 := pow_le6 l2
  have hs := X.2.2.1
  have hx : unio (fun i => cN c (276 + i)) a (cN c 6) < 2 ^ cN c 2 := unio_lt2 _ (fun i hi => ((offs V).1 i hi).2)
  have hf := (offs V).2.2
  have kne : kn c a = itr (fun y => gsF (fun b => cN c (298 + b)) y (cN c 2)) (cN c 2) (unio (fun i => cN c (276 + i)) a (cN c 6)) := (gs_eq hf hx).symm
  have glt : ∀ y, y < 2 ^ cN c 2 → ∀ k, k ≤ cN c 2 → gsF (fun b => cN c (298 + b)) y k < 2 ^ cN c 2 := by
    intro y hy k
    induction k with
    | zero => intro _; exact hy
    | succ k ih =>
      intro hk
      rw [gsF]
      apply Nat.or_lt_two_pow (ih (by omega))
      split
      · exact hf k (by omega)
      · exact Nat.two_pow_pos _
  unfold Sh_knownBy
  rw [Lo_booksOfSet_s (LT_o X) ha, bind_s]
  have l22 : ∀ (y : Nat) (l3 : Int32) (k11 : Int32 → Int32 → Option Int32), y < 2 ^ cN c 2 → Sh_knownBy_L22 Y s l3 h k11 FU (nI y) 0 = k11 (nI (gsF (fun b => cN c (298 + b)) y (cN c 2))) (l3 + 1) := by
    intro y l3 k11 hy
    refine upl (Q := fun r => r = k11 (nI (gsF (fun b => cN c (298 + b)) y (cN c 2))) (l3 + 1)) (fun F i (_ : Unit) => Sh_knownBy_L22 Y s l3 h k11 F (nI (gsF (fun b => cN c (298 + b)) y i)) (nI i)) (cN c 2) (fun _ _ => True) ?_ ?_ (cN c 2) 0 () FU (by omega) (by unfold FU; omega) trivial
    · intro F i _ hi _
      right
      refine ⟨(), ?_, trivial⟩
      have hg := glt y hy i (by omega)
      show Sh_knownBy_L22 Y s l3 h k11 (F + 1) (nI (gsF (fun b => cN c (298 + b)) y i)) (nI i) = Sh_knownBy_L22 Y s l3 h k11 F (nI (gsF (fun b => cN c (298 + b)) y (i + 1))) (nI (i + 1))
      rw [Sh_knownBy_L22, X.2.2.2.1.1.2.2.1, VC_e2 V, cl411 X.1 hs]
      simp (disch := omega) only [zlit, nI_leI, LP_has_s, bind_s, inB_nI, if_true, nI_clamp, (X.2.2.2.1.2.2.1 i hi).2.2.2.2.1, (V.2.2.2.2.2.2.2.2.2 i hi).1, nI_add, zor, gsF]
      rw [if_neg (by omega)]
      by_cases q : (gsF (fun b => cN c (298 + b)) y i).testBit i = true
      · rw [if_pos q, if_pos q]
      · rw [if_neg q, if_neg q]
    · intro F _ _
      show Sh_knownBy_L22 Y s l3 h k11 (F + 1) _ (nI (cN c 2)) = _
      rw [Sh_knownBy_L22, X.2.2.2.1.1.2.2.1, VC_e2 V, if_pos (nI_le (Nat.le_refl _) (by omega))]
  refine upl (Q := fun r => r = some (nI (kn c a))) (fun F i y => Sh_knownBy_L11 Y s h F (nI y) (nI i)) (cN c 2) (fun i y => y < 2 ^ cN c 2 ∧ y = itr (fun y => gsF (fun b => cN c (298 + b)) y (cN c 2)) i (unio (fun i => cN c (276 + i)) a (cN c 6))) ?_ ?_ (cN c 2) 0 _ FU (by omega) (by unfold FU; omega) ⟨hx, rfl⟩
  · intro F i y hi hI
    right
    refine ⟨gsF (fun b => cN c (298 + b)) y (cN c 2), ?_, glt y hI.1 _ (Nat.le_refl _), by rw [hI.2]; rfl⟩
    show Sh_knownBy_L11 Y s h (F + 1) (nI y) (nI i) = _
    rw [Sh_knownBy_L11, X.2.2.2.1.1.2.2.1, VC_e2 V, if_neg (nI_ge hi (by omega)), l22 y _ _ hI.1, nI_1]
  · intro F y hI
    show Sh_knownBy_L11 Y s h (F + 1) (nI y) (nI (cN c 2)) = _
    rw [Sh_knownBy_L11, X.2.2.2.1.1.2.2.1, VC_e2 V, if_pos (nI_le (Nat.le_refl _) (by omega)), kne, hI.2]
theorem Sh_isBetterBuy_s (X : CX Y h x s c) {a b : Nat} (ha : a < 256) (hb : b < 256) : Sh_isBetterBuy Y s (nI a) (nI b) h = some (betB c a b) := by
  have V := X.2.2.2.2
  have p2 := pow_le6 (VC_l2 V)
  have l6 := VC_l6 V
  have k1 := kn_lt V a
  have k2 := kn_lt V b
  have q1 := pcnt_le (kn c a)
  have q2 := pcnt_le (kn c b)
  unfold Sh_isBetterBuy betB
  rw [Sh_knownBy_s X (by omega), bind_s, J_bitCount_s (by omega), bind_s, Sh_knownBy_s X (by omega), bind_s, J_bitCount_s (by omega), bind_s, Lo_isCheaper_s (LT_o X) (by omega) ha hb, bind_s]
  simp (disch := omega) only [zlit, sub_0lt, sub_eq0]
  by_cases c1 : pcnt (kn c b) < pcnt (kn c a)
  · rw [if_pos c1]; simp [c1]
  · rw [if_neg c1]
    by_cases c2 : pcnt (kn c a) = pcnt (kn c b)
    · rw [if_pos c2]
      cases chp c 270 (cN c 6) a b <;> simp [c2]
    · rw [if_neg c2]; simp [c1, c2]
theorem Sh_bestOffers_s (X : CX Y h x s c) {u : Nat} (hu : u < 1000) : Sh_bestOffers Y s (nI u) h = some (nI (buyS c u)) := by
  have V := X.2.2.2.2
  have l6 := VC_l6 V
  have p6 := pow_le6 l6
  have p6' := Nat.two_pow_pos (cN c 6)
  let q : Nat → Nat → Bool := fun a o => decide (cstS c 270 (cN c 6) a ≤ u) && betB c a o
  have q0 : scanN q 0 1 = 0 := by
    show (if q 0 0 = true then 0 else 0) = 0
    split <;> rfl
  unfold Sh_bestOffers
  have key := upl (Q := fun r => r = some (nI (buyS c u))) (fun F i (_ : Unit) => Sh_bestOffers_L4 Y s (nI u) h F (nI (scanN q 0 i)) (nI i)) (2 ^ cN c 6) (fun _ _ => True) ?_ ?_ (2 ^ cN c 6 - 1) 1 () FU (by omega) (by unfold FU; omega) trivial
  · simp only [q0] at key
    exact key
  · intro F i _ hi _
    right
    refine ⟨(), ?_, trivial⟩
    have hl := scanN_lt (q := q) (o := 0) (M := 2 ^ cN c 6) (by omega) i (by omega)
    have h1 : cstS c 270 (cN c 6) i ≤ 800 := cstS_le (by omega) (fun o ho => ((offs V).1 o ho).1)
    show Sh_bestOffers_L4 Y s (nI u) h (F + 1) (nI (scanN q 0 i)) (nI i) = Sh_bestOffers_L4 Y s (nI u) h F (nI (scanN q 0 (i + 1))) (nI (i + 1))
    rw [Sh_bestOffers_L4, (LT_o X).1, Lo_costOfSet_s (LT_o X) (by omega), bind_s, Sh_isBetterBuy_s X (by omega) (by omega), bind_s]
    simp (disch := omega) only [zlit, zand, zone, nI_leI, nI_ltI, nI_add, scanN]
    rw [if_neg (by omega)]
    show _ = Sh_bestOffers_L4 Y s (nI u) h F (nI (if (decide (cstS c 270 (cN c 6) i ≤ u) && betB c i (scanN q 0 i)) = true then i else scanN q 0 i)) (nI (i + 1))
    by_cases c1 : cstS c 270 (cN c 6) i ≤ u
    · rw [if_neg (by omega)]
      cases betB c i (scanN q 0 i) <;> simp [c1]
    · rw [if_pos (by omega)]; simp [c1]
  · intro F _ _
    show Sh_bestOffers_L4 Y s (nI u) h (F + 1) (nI (scanN q 0 (2 ^ cN c 6))) (nI (2 ^ cN c 6)) = _
    rw [Sh_bestOffers_L4, (LT_o X).1]
    simp (disch := omega) only [zlit, zand, zone, nI_leI]
    rw [if_pos (by omega)]
    rfl
theorem Sh_leastCost_s (X : CX Y h x s c) : Sh_leastCostToKnowAll Y s h = some (on (chpS c)) := by
  have V := X.2.2.2.2
  have l2 := VC_l2 V
  have l6 := VC_l6 V
  have p2 := pow_le6 l2
  have p2' := Nat.two_pow_pos (cN c 2)
  have p6 := pow_le6 l6
  have hc : ∀ i, cstS c 270 (cN c 6) i ≤ 800 := fun i => cstS_le (by omega) (fun o ho => ((offs V).1 o ho).1)
  let q : Nat → Option Nat → Bool := fun a o => (match o with | none => true | some k => decide (cstS c 270 (cN c 6) a < k)) && decide (kn c a = 2 ^ cN c 2 - 1)
  unfold Sh_leastCostToKnowAll
  refine upl (Q := fun r => r = some (on (chpS c))) (fun F i (_ : Unit) => Sh_leastCostToKnowAll_L4 Y s h F (on (scanV (cstS c 270 (cN c 6)) q i)) (nI i)) (2 ^ cN c 6) (fun _ _ => True) ?_ ?_ (2 ^ cN c 6) 0 () FU (by omega) (by unfold FU; omega) trivial
  · intro F i _ hi _
    right
    refine ⟨(), ?_, trivial⟩
    have hl := scanV_lt (v := cstS c 270 (cN c 6)) (q := q) (M := 801) i (fun j hj => by have := hc j; omega)
    have hci := hc i
    have k1 := kn_lt V i
    show Sh_leastCostToKnowAll_L4 Y s h (F + 1) (on (scanV (cstS c 270 (cN c 6)) q i)) (nI i) = Sh_leastCostToKnowAll_L4 Y s h F (on (scanV (cstS c 270 (cN c 6)) q (i + 1))) (nI (i + 1))
    rw [Sh_leastCostToKnowAll_L4, (LT_o X).1, Lo_costOfSet_s (LT_o X) (by omega), bind_s, Sh_knownBy_s X (by omega)]
    unfold Sh_allBooks
    rw [X.2.2.2.1.1.2.2.1, VC_e2 V]
    simp (disch := omega) only [bind_s, zlit, zneg, zand, zone, nI_leI, nI_add, pk_sub, nI_eq, scanV]
    rw [if_neg (by omega)]
    show _ = Sh_leastCostToKnowAll_L4 Y s h F (on (if ((match scanV (cstS c 270 (cN c 6)) q i with | none => true | some k => decide (cstS c 270 (cN c 6) i < k)) && decide (kn c i = 2 ^ cN c 2 - 1)) = true then some (cstS c 270 (cN c 6) i) else scanV (cstS c 270 (cN c 6)) q i)) (nI (i + 1))
    cases hsc : scanV (cstS c 270 (cN c 6)) q i with
    | none =>
      rw [if_pos (show on none = m1 from rfl)]
      by_cases c2 : kn c i = 2 ^ cN c 2 - 1
      · rw [if_pos c2]; simp [c2, on]
      · rw [if_neg c2]; simp [c2]
    | some k =>
      have hk := hl k hsc
      have nk : ¬ nI k = m1 := by rw [ne_m1 (by omega)]; exact fun z => z
      rw [show on (some k) = nI k from rfl, if_neg nk]
      simp (disch := omega) only [nI_leI]
      by_cases c3 : cstS c 270 (cN c 6) i < k
      · rw [if_neg (show ¬ k ≤ cstS c 270 (cN c 6) i by omega)]
        by_cases c2 : kn c i = 2 ^ cN c 2 - 1
        · rw [if_pos c2]; simp [c2, c3, on]
        · rw [if_neg c2]; simp [c2, on]
      · rw [if_pos (show k ≤ cstS c 270 (cN c 6) i by omega)]; simp [c3, on]
  · intro F _ _
    show Sh_leastCostToKnowAll_L4 Y s h (F + 1) (on (scanV (cstS c 270 (cN c 6)) q (2 ^ cN c 6))) (nI (2 ^ cN c 6)) = _
    rw [Sh_leastCostToKnowAll_L4, (LT_o X).1]
    simp (disch := omega) only [zlit, zand, zone, nI_leI]
    rw [if_pos (by omega)]
    rfl
end OC
