/-! ===== calls that only ask ===== -/
def Cf (Y : Ly) (h h' : Hp) : Prop := (∀ f a, 300 ≤ f → f ≠ 1112 → hGi h' f a = hGi h f a) ∧ (∀ f a, hGl h' f a = hGl h f a) ∧ (∀ f a, f ≠ 5 → hGr h' f a = hGr h f a) ∧
  (∀ A i, ¬ scrA Y 300 h A → hAi h' A i = hAi h A i ∧ hAl h' A i = hAl h A i) ∧ (∀ A i, hAr h' A i = hAr h A i) ∧ (Ty Y h → Ty Y h')
theorem Cf_Q {Y : Ly} {n : Nat} {h h' : Hp} (q : Qf Y n h h') (hn : n ≤ 300 := by decide) : Cf Y h h' := by
  have q' := Qf_mono q hn
  exact ⟨fun f a h1 _ => q'.1 f a h1, q'.2⟩
theorem Cf_rf (Y : Ly) (h : Hp) : Cf Y h h := Cf_Q (Qf_rf Y 300 h)
theorem Cf_tr {Y : Ly} {h h1 h2 : Hp} (A : Cf Y h h1) (B : Cf Y h1 h2) : Cf Y h h2 := by
  refine ⟨fun f a hf hn => (B.1 f a hf hn).trans (A.1 f a hf hn), fun f a => (B.2.1 f a).trans (A.2.1 f a), fun f a hf => (B.2.2.1 f a hf).trans (A.2.2.1 f a hf), fun a i hn => ?_, fun a i => (B.2.2.2.2.1 a i).trans (A.2.2.2.2.1 a i), fun t => B.2.2.2.2.2 (A.2.2.2.2.2 t)⟩
  have h1' := A.2.2.2.1 a i hn
  have h2' := B.2.2.2.1 a i (by rw [scrA_eq A.2.2.1]; exact hn)
  exact ⟨h2'.1.trans h1'.1, h2'.2.trans h1'.2⟩
theorem Cf_si {Y : Ly} {h : Hp} {x : Nat} {v : Int32} : Cf Y h (hSi h 1112 x v) := by
  refine ⟨fun g a hg hn => ?_, fun _ _ => rfl, fun _ _ _ => rfl, fun A i hn => ⟨rfl, rfl⟩, fun _ _ => rfl, fun t => Ty_si t (Or.inl rfl)⟩
  rw [gi_si, if_neg (by omega)]
theorem sameS_C {Y : Ly} {h h' : Hp} {x s : Nat} (H : CS Y h x) (T : Ty Y h) (hs : isO Y 4 s) (q : Cf Y h h') : sameS h h' s := by
  have o6 := T.1 400 6 rfl s hs
  have o1 := T.1 401 3 rfl s hs
  have o2 := T.1 402 3 rfl s hs
  have go : ∀ f o, 300 ≤ f → cArr f = true → isO Y (f / 100) o → ∀ i, hAi h' (hGr h f o) i = hAi h (hGr h f o) i := fun f o h1 h2 h3 i => (q.2.2.2.1 _ i (nscr H h1 h2 h3)).1
  refine ⟨fun f a hf => ?_, fun f a hf => q.2.2.1 f a (cFin_5 hf), go 600 _ (by decide) rfl o6, go 601 _ (by decide) rfl o6, go 602 _ (by decide) rfl o6, go 603 _ (by decide) rfl o6, fun f i l1 l2 => ?_, fun f i l1 l2 => ?_⟩
  · simp only [rsF, Bool.or_eq_true, beq_iff_eq] at hf
    exact q.1 f a (by omega) (by omega)
  · refine go f s (by omega) ?_ (by rw [show f / 100 = 4 by omega]; exact hs) i
    rcases (show f = 406 ∨ f = 407 ∨ f = 408 ∨ f = 409 ∨ f = 410 ∨ f = 411 ∨ f = 412 by omega) with e | e | e | e | e | e | e <;> (subst e; rfl)
  · rcases (show f = 300 ∨ f = 301 by omega) with e | e <;> subst e
    · exact ⟨go 300 _ (by decide) rfl o1 i, go 300 _ (by decide) rfl o2 i⟩
    · exact ⟨go 301 _ (by decide) rfl o1 i, go 301 _ (by decide) rfl o2 i⟩
/-- the class as a whole, its shelf being c -/
def CT (Y : Ly) (h : Hp) (x : Nat) (c : Nat → Int32) : Prop := CX Y h x (hGr h 1109 x) c
theorem CX_C {Y : Ly} {h h' : Hp} {x s : Nat} {c : Nat → Int32} (X : CX Y h x s c) (q : Cf Y h h') : CX Y h' x s c :=
  ⟨CS_congr X.1 (fun f a hf => q.2.2.1 f a (cFin_5 hf)), q.2.2.2.2.2 X.2.1, X.2.2.1, RS_same (sameS_C X.1 X.2.1 X.2.2.1 q) X.2.2.2.1, X.2.2.2.2⟩
theorem CT_C {Y : Ly} {h h' : Hp} {x : Nat} {c : Nat → Int32} (X : CT Y h x c) (q : Cf Y h h') : CT Y h' x c := by
  unfold CT
  rw [q.2.2.1 1109 x (by decide)]
  exact CX_C X q
theorem CT.e {Y : Ly} {h : Hp} {x : Nat} {c : Nat → Int32} (X : CT Y h x c) : isO Y 0 (hGr h 1105 x) := X.2.1.1 1105 0 rfl x X.1.1
theorem CT.f {Y : Ly} {h : Hp} {x : Nat} {c : Nat → Int32} (X : CT Y h x c) : isO Y 1 (hGr h 1106 x) := X.2.1.1 1106 1 rfl x X.1.1
def CQ {α : Type} (Y : Ly) (x : Nat) (h : Hp) (r : Option (α × Hp)) (v : α) (st : Int32) : Prop := ∃ h', r = some (v, h') ∧ Cf Y h h' ∧ hGi h' 1112 x = st
def mQ {α : Type} (Y : Ly) (m : Nat) (h : Hp) (r : Option (α × Hp)) (v : α) (st : Int32) : Prop := ∃ h', r = some (v, h') ∧ Mf Y m h h' ∧ hGi h' 1200 m = st
theorem CQ_fail {Y : Ly} {x : Nat} {h h' : Hp} {k : Int32} (q : Cf Y h h') : CQ Y x h ((LP_fail Y x k h').bind fun q => some (q.1, q.2)) m1 k :=
  ⟨hSi h' 1112 x k, rfl, Cf_tr q Cf_si, by rw [gi_si, if_pos ⟨rfl, rfl⟩]⟩
theorem CQ_give {Y : Ly} {x : Nat} {h h' : Hp} {v : Int32} (q : Cf Y h h') : CQ Y x h ((LP_give Y x v h').bind fun q => some (q.1, q.2)) v (nI 0) :=
  ⟨hSi h' 1112 x 0, rfl, Cf_tr q Cf_si, by rw [gi_si, if_pos ⟨rfl, rfl⟩]; rfl⟩
def anyP : Option Nat → Int32 × Int32
  | none => (m1, nI 8)
  | some k => (nI k, nI 0)
def sizeP : Option Nat → Int32 × Int32
  | none => (m1, nI 8)
  | some k => (nI (pcnt k), nI 0)
theorem CQ_any {Y : Ly} {x : Nat} {h h' : Hp} {o : Option Nat} (q : Cf Y h h') (ho : ∀ k, o = some k → k < 2 ^ 31) : CQ Y x h ((LP_giveIfAny Y x (on o) h').bind fun q => some (q.1, q.2)) (anyP o).1 (anyP o).2 := by
  unfold LP_giveIfAny
  cases o with
  | none =>
    rw [if_pos (show on none = -1 from rfl)]
    exact CQ_fail q
  | some k =>
    rw [if_neg (by simp only [zlit, zneg, on, ne_m1 (ho k rfl)]; exact fun z => z)]
    exact CQ_give q
theorem CQ_size {Y : Ly} {x : Nat} {h h' : Hp} {o : Option Nat} (q : Cf Y h h') (ho : ∀ k, o = some k → k < 256) : CQ Y x h ((LP_giveSize Y x (on o) h').bind fun q => some (q.1, q.2)) (sizeP o).1 (sizeP o).2 := by
  unfold LP_giveSize
  cases o with
  | none =>
    rw [if_pos (show on none = -1 from rfl)]
    exact CQ_fail q
  | some k =>
    have := ho k rfl
    rw [if_neg (by simp only [zlit, zneg, on, ne_m1 (show k < 2 ^ 31 by omega)]; exact fun z => z)]
    simp only [on]
    rw [J_bitCount_s this, bind_s]
    exact CQ_give q
theorem mQ_ref {Y : Ly} {m : Nat} {h h' : Hp} {k : Int32} (q : Mf Y m h h') : mQ Y m h ((M_refuse Y m k h').bind fun q => some (q.1, q.2)) m1 k :=
  ⟨hSi h' 1200 m k, rfl, Mf_tr q Mf_0, by rw [gi_si, if_pos ⟨rfl, rfl⟩]⟩
def mst (h : Hp) (m : Nat) : Hp := hSi (hSi h 1201 m 0) 1200 m 0
theorem mst_f {Y : Ly} {h : Hp} {m : Nat} : Mf Y m h (mst h m) := Mf_tr Mf_1 Mf_0
theorem mst_0 {h : Hp} {m : Nat} : hGi (mst h m) 1200 m = nI 0 := by unfold mst; rw [gi_si, if_pos ⟨rfl, rfl⟩]; rfl
theorem mQ_end {α : Type} {Y : Ly} {m : Nat} {h h' : Hp} {v : α} (q : Mf Y m (mst h m) h') (e : hGi h' 1200 m = hGi (mst h m) 1200 m) : mQ Y m h (some (v, h')) v (nI 0) :=
  ⟨h', rfl, Mf_tr mst_f q, by rw [e, mst_0]⟩
theorem mQ_any {Y : Ly} {m : Nat} {h h' : Hp} {o : Option Nat} (q : Mf Y m (mst h m) h') (e : hGi h' 1200 m = hGi (mst h m) 1200 m) (ho : ∀ k, o = some k → k < 2 ^ 31) :
    mQ Y m h (if 0 ≤ on o then some (on o, h') else (M_refuse Y m 8 h').bind fun q => some (q.1, q.2)) (anyP o).1 (anyP o).2 := by
  cases o with
  | none => rw [if_neg (by decide)]; exact mQ_ref (Mf_tr mst_f q)
  | some k => rw [if_pos (show 0 ≤ on (some k) from nI_pos' (ho k rfl))]; exact mQ_end q e
theorem mQ_size {Y : Ly} {m : Nat} {h h' : Hp} {o : Option Nat} (q : Mf Y m (mst h m) h') (e : hGi h' 1200 m = hGi (mst h m) 1200 m) (ho : ∀ k, o = some k → k < 2 ^ 31) :
    mQ Y m h (if 0 ≤ on o then (M_sizeOf Y (on o) h').bind fun q5 => some (q5, h') else (M_refuse Y m 8 h').bind fun q => some (q.1, q.2)) (sizeP o).1 (sizeP o).2 := by
  cases o with
  | none => rw [if_neg (by decide)]; exact mQ_ref (Mf_tr mst_f q)
  | some k =>
    rw [if_pos (show 0 ≤ on (some k) from nI_pos' (ho k rfl))]
    simp only [on]
    rw [M_sizeOf_s (ho k rfl), bind_s]
    exact mQ_end q e
theorem clS_lt {c : Nat → Int32} (V : VB c) : ∀ k, clS c = some k → k < 256 := by
  intro k hk
  have := pow_le6 (VC_l2 V)
  have := scan_lt (M := 2 ^ cN c 2) (fun k hk => by cases hk) _ (Nat.le_refl _) k hk
  omega
theorem fnS_lt {c : Nat → Int32} (V : VB c) : ∀ k, fnS c = some k → k < 256 := by
  intro k hk
  have := pow_le8 (VC_l3 V)
  have := scan_lt (M := 2 ^ cN c 3) (fun k hk => by cases hk) _ (Nat.le_refl _) k hk
  omega
/-- a number of a book, or none -/
theorem isAt_cases (x : Int32) {n : Nat} (hn : n < 2 ^ 31) : isAt x n = false ∨ ∃ j, j < n ∧ x = nI j ∧ isAt x n = true := by
  by_cases h : isAt x n = true
  · obtain ⟨j, h1, h2⟩ := isAt_ex hn h
    exact Or.inr ⟨j, h1, h2, h⟩
  · exact Or.inl (by simpa using h)
section QC
variable {Y : Ly} {h : Hp} {x : Nat} {c : Nat → Int32}
def spFinalesOf (c : Nat → Int32) (b : Int32) : Int32 × Int32 := if isAt b (cN c 2) then (nI (fitS c (cN c 9) b.toNatClampNeg), nI 0) else (m1, nI 2)
theorem LP_finalesOf_q (X : CT Y h x c) (b : Int32) : CQ Y x h (LP_finalesOf Y x b h) (spFinalesOf c b).1 (spFinalesOf c b).2 := by
  have V := X.2.2.2.2
  have l2 := VC_l2 V
  unfold LP_finalesOf spFinalesOf
  rw [Sh_hasBook_s X.2.2.2.1 V, bind_s]
  rcases isAt_cases b (n := cN c 2) (by omega) with q | ⟨j, hj, rfl, q⟩
  · rw [q]; exact CQ_fail (Cf_rf Y h)
  · rw [q, if_pos rfl, if_pos rfl, nI_clamp (by omega)]
    obtain ⟨h', e1, e2⟩ := En_fittingFinales_s X X.e hj
    rw [e1, bind_s]
    exact CQ_give (Cf_Q e2)
def spFits (c : Nat → Int32) (b f : Int32) : Int32 × Int32 := if isAt b (cN c 2) && isAt f (cN c 3) then (if fitB c (cN c 9) b.toNatClampNeg f.toNatClampNeg then nI 1 else nI 0, nI 0) else (m1, nI 2)
theorem LP_fits_q (X : CT Y h x c) (b f : Int32) : CQ Y x h (LP_fits Y x b f h) (spFits c b f).1 (spFits c b f).2 := by
  have V := X.2.2.2.2
  have l2 := VC_l2 V
  have l3 := VC_l3 V
  unfold LP_fits spFits
  rw [Sh_hasBook_s X.2.2.2.1 V, bind_s, St_hasFinale_s X.2.2.2.1 V, bind_s]
  rcases isAt_cases b (n := cN c 2) (by omega) with q | ⟨j, hj, rfl, q⟩
  · rw [q]; exact CQ_fail (Cf_rf Y h)
  · rw [q, if_pos rfl]
    rcases isAt_cases f (n := cN c 3) (by omega) with q2 | ⟨k, hk, rfl, q2⟩
    · rw [q2]; exact CQ_fail (Cf_rf Y h)
    · rw [q2, if_pos rfl, nI_clamp (by omega), nI_clamp (by omega)]
      obtain ⟨h', e1, e2⟩ := En_fittingFinales_s X X.e hj
      have fl := fitS_lt V (cN c 9) j
      rw [e1, bind_s, LP_has_s (by show fitS c (cN c 9) j < 2 ^ 31; omega) (by omega), bind_s]
      have : (fitS c (cN c 9) j).testBit k = fitB c (cN c 9) j k := by rw [fitS, mk_bit]; simp [hk]
      rw [this]
      cases fitB c (cN c 9) j k
      · exact CQ_give (Cf_Q e2)
      · exact CQ_give (Cf_Q e2)
def spBooksOf (c : Nat → Int32) (f : Int32) : Int32 × Int32 := if isAt f (cN c 3) then (nI (mk (fun b => fitB c (cN c 9) b f.toNatClampNeg) (cN c 2)), nI 0) else (m1, nI 2)
theorem LP_booksOf_q (X : CT Y h x c) (f : Int32) : CQ Y x h (LP_booksOf Y x f h) (spBooksOf c f).1 (spBooksOf c f).2 := by
  have V := X.2.2.2.2
  have l3 := VC_l3 V
  unfold LP_booksOf spBooksOf
  rw [St_hasFinale_s X.2.2.2.1 V, bind_s]
  rcases isAt_cases f (n := cN c 3) (by omega) with q2 | ⟨k, hk, rfl, q2⟩
  · rw [q2]; exact CQ_fail (Cf_rf Y h)
  · rw [q2, if_pos rfl, if_pos rfl, nI_clamp (by omega)]
    obtain ⟨h', e1, e2, e3⟩ := Fi_lookAt_s X X.e X.f
    have X' := CT_C X (Cf_Q e2)
    rw [e1, bind_s, e2.2.2.1 1106 x (by decide), Fi_booksFor_s X' X.f e3 (by omega), bind_s]
    have : mk (fun b => (fitS c (cN c 9) b).testBit k) (cN c 2) = mk (fun b => fitB c (cN c 9) b k) (cN c 2) := mk_congr _ (fun i hi => by rw [fitS, mk_bit]; simp [hk])
    rw [this]
    exact CQ_give (Cf_Q e2)
theorem LP_clash_q (X : CT Y h x c) : CQ Y x h (LP_clash Y x h) (sizeP (clS c)).1 (sizeP (clS c)).2 := by
  unfold LP_clash
  obtain ⟨h', e1, e2, e3⟩ := Fi_lookAt_s X X.e X.f
  have X' := CT_C X (Cf_Q e2)
  rw [e1, bind_s, e2.2.2.1 1106 x (by decide), Fi_leastClash_s X' X.f e3, bind_s]
  exact CQ_size (Cf_Q e2) (clS_lt X.2.2.2.2)
theorem LP_clashSet_q (X : CT Y h x c) : CQ Y x h (LP_clashSet Y x h) (anyP (clS c)).1 (anyP (clS c)).2 := by
  unfold LP_clashSet
  obtain ⟨h', e1, e2, e3⟩ := Fi_lookAt_s X X.e X.f
  have X' := CT_C X (Cf_Q e2)
  rw [e1, bind_s, e2.2.2.1 1106 x (by decide), Fi_leastClash_s X' X.f e3, bind_s]
  exact CQ_any (Cf_Q e2) (fun k hk => by have := clS_lt X.2.2.2.2 k hk; omega)
theorem LP_finish_q (X : CT Y h x c) : CQ Y x h (LP_finish Y x h) (sizeP (fnS c)).1 (sizeP (fnS c)).2 := by
  unfold LP_finish
  obtain ⟨h', e1, e2, e3⟩ := Fi_lookAt_s X X.e X.f
  have X' := CT_C X (Cf_Q e2)
  rw [e1, bind_s, e2.2.2.1 1106 x (by decide), Fi_fewestFinales_s X' X.f e3, bind_s]
  exact CQ_size (Cf_Q e2) (fnS_lt X.2.2.2.2)
theorem LP_finishSet_q (X : CT Y h x c) : CQ Y x h (LP_finishSet Y x h) (anyP (fnS c)).1 (anyP (fnS c)).2 := by
  unfold LP_finishSet
  obtain ⟨h', e1, e2, e3⟩ := Fi_lookAt_s X X.e X.f
  have X' := CT_C X (Cf_Q e2)
  rw [e1, bind_s, e2.2.2.1 1106 x (by decide), Fi_fewestFinales_s X' X.f e3, bind_s]
  exact CQ_any (Cf_Q e2) (fun k hk => by have := fnS_lt X.2.2.2.2 k hk; omega)
def spEndings (c : Nat → Int32) (b : Int32) : Int64 × Int32 := if isAt b (cN c 2) then (ecnt c b.toNatClampNeg (cN c 9), nI 0) else (mL, nI 2)
theorem LP_endings_q (X : CT Y h x c) (b : Int32) : CQ Y x h (LP_endings Y x b h) (spEndings c b).1 (spEndings c b).2 := by
  have V := X.2.2.2.2
  have l2 := VC_l2 V
  have l9 := V.2.1.2.2
  have p9 := pow_le6 (VC_l4 V)
  unfold LP_endings spEndings
  rw [Sh_hasBook_s X.2.2.2.1 V, bind_s]
  rcases isAt_cases b (n := cN c 2) (by omega) with q | ⟨j, hj, rfl, q⟩
  · rw [q]
    exact ⟨hSi h 1112 x 2, rfl, Cf_si, by rw [gi_si, if_pos ⟨rfl, rfl⟩]; rfl⟩
  · rw [q, if_pos rfl, if_pos rfl, nI_clamp (by omega), letH_e]
    have X4 := CT_C X (Cf_si (x := x) (v := 0))
    rw [X4.2.2.2.1.1.2.2.2.2.2.2.2.2.2, V.2.1.2.1]
    obtain ⟨h', e1, e2, _⟩ := En_countOf_s (L := cN c 9) X4 X4.e hj (by omega)
    rw [e1, bind_s]
    exact ⟨h', rfl, Cf_tr Cf_si (Cf_Q e2), by rw [e2.1 1112 x (by decide), gi_si, if_pos ⟨rfl, rfl⟩]; rfl⟩
def hopS (c : Nat → Int32) : Nat := mk (fun b => decide (ecnt c b (cN c 9) = 0)) (cN c 2)
theorem LP_hopeless_q (X : CT Y h x c) : CQ Y x h (LP_hopeless Y x h) (nI (hopS c)) (nI 0) := by
  have V := X.2.2.2.2
  have l2 := VC_l2 V
  have l9 := V.2.1.2.2
  have p9 := pow_le6 (VC_l4 V)
  unfold LP_hopeless
  refine upl (Q := fun r => CQ Y x h r (nI (hopS c)) (nI 0)) (fun F i hh => LP_hopeless_L4 Y x F (nI (mk (fun b => decide (ecnt c b (cN c 9) = 0)) i)) (nI i) hh) (cN c 2) (fun i hh => Qf Y 300 h hh) ?_ ?_ (cN c 2) 0 h FU (by omega) (by unfold FU; omega) (Qf_rf Y 300 h)
  · intro F i hh hi hI
    right
    have Xh := CT_C X (Cf_Q hI)
    obtain ⟨h', e1, e2, _⟩ := En_countOf_s (L := cN c 9) Xh Xh.e hi (by omega)
    refine ⟨h', ?_, Qf_tr hI (Qf_mono e2 (by decide))⟩
    show LP_hopeless_L4 Y x (F + 1) _ (nI i) hh = LP_hopeless_L4 Y x F (nI (mk (fun b => decide (ecnt c b (cN c 9) = 0)) (i + 1))) (nI (i + 1)) h'
    rw [LP_hopeless_L4, Xh.2.2.2.1.1.2.2.1, VC_e2 V, if_neg (nI_ge hi (by omega)), Xh.2.2.2.1.1.2.2.2.2.2.2.2.2.2, V.2.1.2.1, e1, bind_s]
    simp (disch := omega) only [zlit, zand, zone, zor, nI_add, mk]
    by_cases q : ecnt c i (cN c 9) = 0
    · rw [if_pos q, if_pos (by simpa using q)]
    · rw [if_neg q, if_neg (by simpa using q), Nat.or_zero]
  · intro F hh hI
    have Xh := CT_C X (Cf_Q hI)
    show CQ Y x h (LP_hopeless_L4 Y x (F + 1) _ (nI (cN c 2)) hh) _ _
    rw [LP_hopeless_L4, Xh.2.2.2.1.1.2.2.1, VC_e2 V, if_pos (nI_le (Nat.le_refl _) (by omega))]
    exact CQ_give (Cf_Q hI)
end QC
