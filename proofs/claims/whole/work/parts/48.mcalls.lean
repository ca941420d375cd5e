/-! ===== the reference: calls that only ask ===== -/
def Mg (Y : Ly) (m : Nat) (h h' : Hp) : Prop := Mf Y m h h' ∧ hGi h' 1200 m = hGi h 1200 m
theorem Mg_rf (Y : Ly) (m : Nat) (h : Hp) : Mg Y m h h := ⟨Mf_rf Y m h, rfl⟩
theorem Mg_tr {Y : Ly} {m : Nat} {h h1 h2 : Hp} (A : Mg Y m h h1) (B : Mg Y m h1 h2) : Mg Y m h h2 := ⟨Mf_tr A.1 B.1, B.2.trans A.2⟩
theorem Mg_wi {Y : Ly} {m f : Nat} {h : Hp} {g : Nat → Int32} (S : MS Y h m) (hf : mscr f = true) (hl : mLen f ≠ 0) : Mg Y m h (hWi h (hGr h f m) g) := ⟨Mf_wi S hf hl, rfl⟩
theorem Mg_wl {Y : Ly} {m f : Nat} {h : Hp} {g : Nat → Int64} (S : MS Y h m) (hf : mscr f = true) (hl : mLen f ≠ 0) : Mg Y m h (hWl h (hGr h f m) g) := ⟨Mf_wl S hf hl, rfl⟩
def FM (h : Hp) (m : Nat) (c : Nat → Int32) : Prop := ∀ b, b < cN c 2 → hAi h (hGr h 1232 m) b = nI (fitS c (cN c 9) b)
section QM
variable {Y : Ly} {h : Hp} {m : Nat} {c : Nat → Int32}
theorem M_laysFits_s (X : MX Y h m c) : ∃ h', M_laysFits Y m h = some h' ∧ Mg Y m h h' ∧ FM h' m c := by
  obtain ⟨S, B, V⟩ := X
  have l2 := VC_l2 V
  unfold M_laysFits
  have hA : ∀ g, Mg Y m h (hWi h (hGr h 1232 m) g) := fun g => Mg_wi S rfl (by decide)
  have key := upl (Q := fun r => ∃ h', r = some h' ∧ Mg Y m h h' ∧ FM h' m c) (fun F i g => M_laysFits_L2 Y m F (nI i) (hWi h (hGr h 1232 m) g)) (cN c 2) (fun i g => ∀ b, b < i → g b = nI (fitS c (cN c 9) b)) ?_ ?_ (cN c 2) 0 (hAi h (hGr h 1232 m)) FU (by omega) (by unfold FU; omega) (fun b hb => absurd hb (by omega))
  · simp only [wi_self] at key
    exact key
  · intro F i g hi hI
    right
    have Xg := MX_M ⟨S, B, V⟩ (hA g).1
    show ∃ s', M_laysFits_L2 Y m (F + 1) (nI i) (hWi h (hGr h 1232 m) g) = M_laysFits_L2 Y m F (nI (i + 1)) (hWi h (hGr h 1232 m) s') ∧ _
    rw [M_laysFits_L2]
    simp (disch := omega) only [zlit, nI_add, ml1220 Xg.1, ml1232 Xg.1, inB_nI, if_true, nI_clamp, MB0 Xg.2.1, VC_e2 V, nI_leI, M_finalesFor_s Xg hi, bind_s, letH_e]
    rw [if_neg (by omega), gr_wi, ti_wi]
    refine ⟨_, rfl, fun b hb => ?_⟩
    by_cases q : b = i
    · rw [q, pk_us]
    · rw [pk_un q]; exact hI b (by omega)
  · intro F g hI
    have Xg := MX_M ⟨S, B, V⟩ (hA g).1
    show ∃ h', M_laysFits_L2 Y m (F + 1) (nI (cN c 2)) (hWi h (hGr h 1232 m) g) = _ ∧ _
    rw [M_laysFits_L2]
    simp (disch := omega) only [zlit, ml1220 Xg.1, inB_nI, if_true, nI_clamp, MB0 Xg.2.1, VC_e2 V, nI_leI]
    rw [if_pos (by omega)]
    refine ⟨_, rfl, hA g, fun b hb => ?_⟩
    rw [gr_wi, ai_wi, if_pos rfl]
    exact hI b hb
theorem M_fitsOf_s (X : MX Y h m c) (K : FM h m c) {a : Nat} (ha : a < 256) : M_fitsOf Y m (nI a) h = some (nI (unio (fitS c (cN c 9)) a (cN c 2))) := by
  obtain ⟨S, B, V⟩ := X
  have l2 := VC_l2 V
  unfold M_fitsOf
  refine upl (Q := fun r => r = some (nI (unio (fitS c (cN c 9)) a (cN c 2)))) (fun F i (_ : Unit) => M_fitsOf_L4 Y m (nI a) h F (nI (unio (fitS c (cN c 9)) a i)) (nI i)) (cN c 2) (fun _ _ => True) ?_ ?_ (cN c 2) 0 () FU (by omega) (by unfold FU; omega) trivial
  · intro F i _ hi _
    right
    refine ⟨(), ?_, trivial⟩
    show M_fitsOf_L4 Y m (nI a) h (F + 1) (nI (unio (fitS c (cN c 9)) a i)) (nI i) = M_fitsOf_L4 Y m (nI a) h F (nI (unio (fitS c (cN c 9)) a (i + 1))) (nI (i + 1))
    rw [M_fitsOf_L4]
    simp (disch := omega) only [zlit, nI_add, ml1220 S, ml1232 S, inB_nI, if_true, nI_clamp, MB0 B, VC_e2 V, nI_leI, M_has_s, bind_s, K i hi, zor, unio]
    rw [if_neg (by omega)]
    cases a.testBit i <;> simp
  · intro F _ _
    show M_fitsOf_L4 Y m (nI a) h (F + 1) _ (nI (cN c 2)) = _
    rw [M_fitsOf_L4]
    simp (disch := omega) only [zlit, ml1220 S, inB_nI, if_true, nI_clamp, MB0 B, VC_e2 V, nI_leI]
    rw [if_pos (by omega)]
theorem M_allBooks_s (X : MX Y h m c) : M_allBooks Y m h = some (nI (2 ^ cN c 2 - 1)) := by
  obtain ⟨S, B, V⟩ := X
  have l2 := VC_l2 V
  have p2' := Nat.two_pow_pos (cN c 2)
  unfold M_allBooks
  simp (disch := omega) only [zlit, ml1220 S, inB_nI, if_true, nI_clamp, MB0 B, VC_e2 V, zand, zone, pk_sub]
theorem M_clashing_s (X : MX Y h m c) : ∃ h', M_clashing Y m h = some (on (clS c), h') ∧ Mg Y m h h' := by
  have V := X.2.2
  have l2 := VC_l2 V
  have p2 := pow_le6 l2
  have p2' := Nat.two_pow_pos (cN c 2)
  unfold M_clashing
  obtain ⟨h1, e1, e2, K⟩ := M_laysFits_s X
  have X1 := MX_M X e2.1
  rw [e1, bind_s]
  refine ⟨h1, ?_, e2⟩
  let q : Nat → Option Nat → Bool := fun a o => fewer a o && decide (pcnt (unio (fitS c (cN c 9)) a (cN c 2)) < pcnt a)
  have q0 : scan q none 1 = none := by
    show (if (fewer 0 none && decide (pcnt (unio (fitS c (cN c 9)) 0 (cN c 2)) < pcnt 0)) = true then some 0 else none) = none
    rw [show pcnt 0 = 0 by decide]; simp
  have key := upl (Q := fun r => r = some (on (clS c), h1)) (fun F i (_ : Unit) => M_clashing_L8 Y m h1 F (on (scan q none i)) (nI i)) (2 ^ cN c 2) (fun _ _ => True) ?_ ?_ (2 ^ cN c 2 - 1) 1 () FU (by omega) (by unfold FU; omega) trivial
  · simp only [q0] at key
    exact key
  · intro F i _ hi _
    right
    refine ⟨(), ?_, trivial⟩
    have hl := scan_lt (q := q) (o := none) (M := 2 ^ cN c 2) (fun k hk => by cases hk) i (by omega)
    have hu : pcnt (unio (fitS c (cN c 9)) i (cN c 2)) ≤ 8 := pcnt_le _
    have hu2 : unio (fitS c (cN c 9)) i (cN c 2) < 256 := unio_lt (M := 8) (fun i => fitS_lt V (cN c 9) i) _
    have hi8 := pcnt_le i
    show M_clashing_L8 Y m h1 (F + 1) (on (scan q none i)) (nI i) = M_clashing_L8 Y m h1 F (on (scan q none (i + 1))) (nI (i + 1))
    rw [M_clashing_L8, M_allBooks_s X1, bind_s, if_neg (nI_nlt (by omega) (by omega)), M_fitsOf_s X1 K (by omega), bind_s, M_sizeOf_s (by omega), bind_s, M_sizeOf_s (by omega), bind_s]
    simp (disch := omega) only [zlit, nI_leI, nI_add, scan, bind_s]
    show (if pcnt i ≤ pcnt (unio (fitS c (cN c 9)) i (cN c 2)) then _ else _) = M_clashing_L8 Y m h1 F (on (if (fewer i (scan q none i) && decide (pcnt (unio (fitS c (cN c 9)) i (cN c 2)) < pcnt i)) = true then some i else scan q none i)) (nI (i + 1))
    by_cases c2 : pcnt (unio (fitS c (cN c 9)) i (cN c 2)) < pcnt i
    · rw [if_neg (by omega)]
      cases hsc : scan q none i with
      | none =>
        rw [if_pos (show on none < nI 0 by decide)]
        simp [fewer, c2, on]
      | some k =>
        have hk := hl k hsc
        have hk8 := pcnt_le k
        rw [if_neg (show ¬ on (some k) < nI 0 from nI_pos (by omega))]
        simp only [on]
        rw [M_sizeOf_s (by omega), bind_s]
        simp (disch := omega) only [nI_leI]
        by_cases c3 : pcnt i < pcnt k
        · rw [if_neg (by omega)]; simp [fewer, c2, c3]
        · rw [if_pos (by omega)]; simp [fewer, c3]
    · rw [if_pos (by omega)]; simp [c2]
  · intro F _ _
    show M_clashing_L8 Y m h1 (F + 1) (on (scan q none (2 ^ cN c 2))) (nI (2 ^ cN c 2)) = _
    rw [M_clashing_L8, M_allBooks_s X1, bind_s, if_pos (nI_lt (by omega) (by omega))]
    rfl
theorem M_fin43 (X : MX Y h m c) (K : FM h m c) {a : Nat} {l1 : Int32} {k8 : Int32 → Int32 → Option (Int32 × Hp)} (ha : a < 256) :
    M_finishing_L43 Y m l1 (nI a) h k8 FU true 0 = if alln (srv c a) (cN c 2) = true then k8 (nI a) (nI (a + 1)) else k8 l1 (nI (a + 1)) := by
  obtain ⟨S, B, V⟩ := X
  have l2 := VC_l2 V
  refine upl (Q := fun r => r = if alln (srv c a) (cN c 2) = true then k8 (nI a) (nI (a + 1)) else k8 l1 (nI (a + 1))) (fun F i (_ : Unit) => M_finishing_L43 Y m l1 (nI a) h k8 F (alln (srv c a) i) (nI i)) (cN c 2) (fun _ _ => True) ?_ ?_ (cN c 2) 0 () FU (by omega) (by unfold FU; omega) trivial
  · intro F i _ hi _
    right
    refine ⟨(), ?_, trivial⟩
    have hb : fitS c (cN c 9) i &&& a < 2 ^ 31 := Nat.lt_of_le_of_lt Nat.and_le_right (by omega)
    show M_finishing_L43 Y m l1 (nI a) h k8 (F + 1) (alln (srv c a) i) (nI i) = M_finishing_L43 Y m l1 (nI a) h k8 F (alln (srv c a) (i + 1)) (nI (i + 1))
    rw [M_finishing_L43]
    simp (disch := omega) only [zlit, nI_add, ml1220 S, ml1232 S, inB_nI, if_true, nI_clamp, MB0 B, VC_e2 V, nI_leI, K i hi, zand, nI_eq, alln]
    rw [if_neg (by omega)]
    by_cases q1 : alln (srv c a) i = true
    · rw [if_pos q1, q1]
      by_cases q2 : fitS c (cN c 9) i &&& a = 0
      · rw [if_pos q2]; simp [srv, q2]
      · rw [if_neg q2]; simp [srv, q2]
    · rw [if_neg q1]
      rw [Bool.not_eq_true] at q1
      rw [q1]; rfl
  · intro F _ _
    show M_finishing_L43 Y m l1 (nI a) h k8 (F + 1) (alln (srv c a) (cN c 2)) (nI (cN c 2)) = _
    rw [M_finishing_L43]
    simp (disch := omega) only [zlit, nI_add, ml1220 S, inB_nI, if_true, nI_clamp, MB0 B, VC_e2 V, nI_leI]
    rw [if_pos (by omega)]
theorem M_finishing_s (X : MX Y h m c) : ∃ h', M_finishing Y m h = some (on (fnS c), h') ∧ Mg Y m h h' := by
  have V := X.2.2
  have l3 := VC_l3 V
  have p2 := pow_le8 l3
  have p2' := Nat.two_pow_pos (cN c 3)
  unfold M_finishing
  obtain ⟨h1, e1, e2, K⟩ := M_laysFits_s X
  have X1 := MX_M X e2.1
  rw [e1, bind_s]
  refine ⟨h1, ?_, e2⟩
  let q : Nat → Option Nat → Bool := fun a o => fewer a o && alln (srv c a) (cN c 2)
  refine upl (Q := fun r => r = some (on (fnS c), h1)) (fun F i (_ : Unit) => M_finishing_L8 Y m h1 F (on (scan q none i)) (nI i)) (2 ^ cN c 3) (fun _ _ => True) ?_ ?_ (2 ^ cN c 3) 0 () FU (by omega) (by unfold FU; omega) trivial
  · intro F i _ hi _
    right
    refine ⟨(), ?_, trivial⟩
    have hl := scan_lt (q := q) (o := none) (M := 2 ^ cN c 3) (fun k hk => by cases hk) i (by omega)
    have hi8 := pcnt_le i
    show M_finishing_L8 Y m h1 (F + 1) (on (scan q none i)) (nI i) = M_finishing_L8 Y m h1 F (on (scan q none (i + 1))) (nI (i + 1))
    rw [M_finishing_L8]
    unfold M_finishing_J38
    simp (disch := omega) only [M_fin43 X1 K]
    simp (disch := omega) only [zlit, nI_leI, nI_add, scan, bind_s, ml1220 X1.1, inB_nI, if_true, nI_clamp, MB0 X1.2.1, VC_e3 V, zand, zone, M_sizeOf_s]
    rw [if_neg (by omega)]
    show (if on (scan q none i) < nI 0 then _ else _) = M_finishing_L8 Y m h1 F (on (if (fewer i (scan q none i) && alln (srv c i) (cN c 2)) = true then some i else scan q none i)) (nI (i + 1))
    cases hsc : scan q none i with
    | none =>
      rw [if_pos (show on none < nI 0 by decide)]
      by_cases c2 : alln (srv c i) (cN c 2) = true
      · rw [if_pos c2]; simp [fewer, c2, on]
      · rw [if_neg c2]; simp [c2]
    | some k =>
      have hk := hl k hsc
      have hk8 := pcnt_le k
      rw [if_neg (show ¬ on (some k) < nI 0 from nI_pos (by omega))]
      simp only [on]
      rw [M_sizeOf_s (by omega), bind_s]
      simp (disch := omega) only [nI_ltI]
      by_cases c3 : pcnt i < pcnt k
      · rw [if_pos c3]
        by_cases c2 : alln (srv c i) (cN c 2) = true
        · rw [if_pos c2]; simp [fewer, c2, c3]
        · rw [if_neg c2]; simp [c2]
      · rw [if_neg c3]; simp [fewer, c3]
  · intro F _ _
    show M_finishing_L8 Y m h1 (F + 1) (on (scan q none (2 ^ cN c 3))) (nI (2 ^ cN c 3)) = _
    rw [M_finishing_L8]
    simp (disch := omega) only [zlit, nI_leI, ml1220 X1.1, inB_nI, if_true, nI_clamp, MB0 X1.2.1, VC_e3 V, zand, zone]
    rw [if_pos (by omega)]
    rfl
theorem M_endingsOf_s (X : MX Y h m c) {b : Nat} (hb : b < cN c 2) : ∃ h', M_endingsOf Y m (nI b) h = some (ecnt c b (cN c 9), h') ∧ Mg Y m h h' := by
  obtain ⟨S, B, V⟩ := X
  have l9 := V.2.1.2.2
  have p9 := pow_le6 (VC_l4 V)
  obtain ⟨g, e1, _⟩ := M_laysEndings_s (L := cN c 9) S B V hb (by omega)
  unfold M_endingsOf
  simp (disch := omega) only [zlit, ml1220 S, inB_nI, if_true, nI_clamp, MB0 B, V.2.1.2.1]
  rw [e1, bind_s]
  exact ⟨_, rfl, Mg_wl S rfl (by decide)⟩
theorem mX0 (X : MX Y h m c) : MX Y (mst h m) m c := MX_M X mst_f
theorem mQ_e {α : Type} {h' : Hp} {v : α} (q : Mg Y m (mst h m) h') : mQ Y m h (some (v, h')) v (nI 0) := mQ_end q.1 q.2
theorem mQ_r {h' : Hp} {k : Int32} (q : Mg Y m (mst h m) h') : mQ Y m h ((M_refuse Y m k h').bind fun q => some (q.1, q.2)) m1 k := mQ_ref (Mf_tr mst_f q.1)
theorem M_finalesOf_q (X : MX Y h m c) (b : Int32) : mQ Y m h (M_finalesOf Y m b h) (spFinalesOf c b).1 (spFinalesOf c b).2 := by
  have X0 := mX0 X
  have l2 := VC_l2 X.2.2
  unfold M_finalesOf spFinalesOf
  simp only [letH_e]
  show mQ Y m h ((M_isBookAt Y m b (mst h m)).bind _) _ _
  rw [M_isBookAt_s X0.1 X0.2.1 X0.2.2, bind_s]
  rcases isAt_cases b (n := cN c 2) (by omega) with q | ⟨j, hj, rfl, q⟩
  · rw [q]; exact mQ_r (Mg_rf _ _ _)
  · rw [q, if_pos rfl, if_pos rfl, nI_clamp (by omega)]
    show mQ Y m h ((M_finalesFor Y m (nI j) (mst h m)).bind _) _ _
    rw [M_finalesFor_s X0 hj, bind_s]
    exact mQ_e (Mg_rf _ _ _)
theorem M_fits_q (X : MX Y h m c) (b f : Int32) : mQ Y m h (M_fits Y m b f h) (spFits c b f).1 (spFits c b f).2 := by
  have X0 := mX0 X
  have l2 := VC_l2 X.2.2
  have l3 := VC_l3 X.2.2
  unfold M_fits spFits
  simp only [letH_e]
  rw [show hSi (hSi h 1201 m 0) 1200 m 0 = mst h m from rfl, M_isBookAt_s X0.1 X0.2.1 X0.2.2, bind_s, M_isFinaleAt_s X0.1 X0.2.1 X0.2.2, bind_s]
  rcases isAt_cases b (n := cN c 2) (by omega) with q | ⟨j, hj, rfl, q⟩
  · rw [q]; exact mQ_r (Mg_rf _ _ _)
  · rw [q, if_pos rfl]
    rcases isAt_cases f (n := cN c 3) (by omega) with q2 | ⟨k, hk, rfl, q2⟩
    · rw [q2]; exact mQ_r (Mg_rf _ _ _)
    · rw [q2, if_pos rfl, nI_clamp (by omega), nI_clamp (by omega), M_isFit_s X0 hj hk, bind_s]
      cases fitB c (cN c 9) j k
      · exact mQ_e (Mg_rf _ _ _)
      · exact mQ_e (Mg_rf _ _ _)
theorem M_booksOf_q (X : MX Y h m c) (f : Int32) : mQ Y m h (M_booksOf Y m f h) (spBooksOf c f).1 (spBooksOf c f).2 := by
  have X0 := mX0 X
  have V := X.2.2
  have l2 := VC_l2 X.2.2
  have l3 := VC_l3 X.2.2
  unfold M_booksOf spBooksOf
  simp only [letH_e]
  rw [show hSi (hSi h 1201 m 0) 1200 m 0 = mst h m from rfl, M_isFinaleAt_s X0.1 X0.2.1 X0.2.2, bind_s]
  rcases isAt_cases f (n := cN c 3) (by omega) with q2 | ⟨k, hk, rfl, q2⟩
  · rw [q2]; exact mQ_r (Mg_rf _ _ _)
  · rw [q2, if_pos rfl, if_pos rfl, nI_clamp (by omega)]
    have key : M_booksOf_L28 Y m (nI k) (mst h m) FU 0 0 = some (nI (mk (fun b => fitB c (cN c 9) b k) (cN c 2)), mst h m) := by
      refine upl (Q := fun r => r = some (nI (mk (fun b => fitB c (cN c 9) b k) (cN c 2)), mst h m)) (fun F i (_ : Unit) => M_booksOf_L28 Y m (nI k) (mst h m) F (nI (mk (fun b => fitB c (cN c 9) b k) i)) (nI i)) (cN c 2) (fun _ _ => True) ?_ ?_ (cN c 2) 0 () FU (by omega) (by unfold FU; omega) trivial
      · intro F i _ hi _
        right
        refine ⟨(), ?_, trivial⟩
        show M_booksOf_L28 Y m (nI k) (mst h m) (F + 1) _ (nI i) = M_booksOf_L28 Y m (nI k) (mst h m) F (nI (mk (fun b => fitB c (cN c 9) b k) (i + 1))) (nI (i + 1))
        rw [M_booksOf_L28]
        simp (disch := omega) only [zlit, nI_add, ml1220 X0.1, inB_nI, if_true, nI_clamp, MB0 X0.2.1, VC_e2 V, nI_leI, M_isFit_s X0 hi hk, bind_s, zand, zone, zor, mk]
        rw [if_neg (by omega)]
        by_cases q : fitB c (cN c 9) i k = true
        · rw [if_pos q, if_pos q]
        · rw [if_neg q, if_neg q]
      · intro F _ _
        show M_booksOf_L28 Y m (nI k) (mst h m) (F + 1) _ (nI (cN c 2)) = _
        rw [M_booksOf_L28]
        simp (disch := omega) only [zlit, ml1220 X0.1, inB_nI, if_true, nI_clamp, MB0 X0.2.1, VC_e2 V, nI_leI]
        rw [if_pos (by omega)]
    rw [key]
    exact mQ_e (Mg_rf _ _ _)
theorem M_clash_q (X : MX Y h m c) : mQ Y m h (M_clash Y m h) (sizeP (clS c)).1 (sizeP (clS c)).2 := by
  obtain ⟨h', e1, e2⟩ := M_clashing_s (mX0 X)
  unfold M_clash
  simp only [letH_e]
  rw [show hSi (hSi h 1201 m 0) 1200 m 0 = mst h m from rfl, e1, bind_s]
  exact mQ_size e2.1 e2.2 (fun k hk => by have := clS_lt X.2.2 k hk; omega)
theorem M_clashSet_q (X : MX Y h m c) : mQ Y m h (M_clashSet Y m h) (anyP (clS c)).1 (anyP (clS c)).2 := by
  obtain ⟨h', e1, e2⟩ := M_clashing_s (mX0 X)
  unfold M_clashSet
  simp only [letH_e]
  rw [show hSi (hSi h 1201 m 0) 1200 m 0 = mst h m from rfl, e1, bind_s]
  exact mQ_any e2.1 e2.2 (fun k hk => by have := clS_lt X.2.2 k hk; omega)
theorem M_finish_q (X : MX Y h m c) : mQ Y m h (M_finish Y m h) (sizeP (fnS c)).1 (sizeP (fnS c)).2 := by
  obtain ⟨h', e1, e2⟩ := M_finishing_s (mX0 X)
  unfold M_finish
  simp only [letH_e]
  rw [show hSi (hSi h 1201 m 0) 1200 m 0 = mst h m from rfl, e1, bind_s]
  exact mQ_size e2.1 e2.2 (fun k hk => by have := fnS_lt X.2.2 k hk; omega)
theorem M_finishSet_q (X : MX Y h m c) : mQ Y m h (M_finishSet Y m h) (anyP (fnS c)).1 (anyP (fnS c)).2 := by
  obtain ⟨h', e1, e2⟩ := M_finishing_s (mX0 X)
  unfold M_finishSet
  simp only [letH_e]
  rw [show hSi (hSi h 1201 m 0) 1200 m 0 = mst h m from rfl, e1, bind_s]
  exact mQ_any e2.1 e2.2 (fun k hk => by have := fnS_lt X.2.2 k hk; omega)
theorem M_endings_q (X : MX Y h m c) (b : Int32) : mQ Y m h (M_endings Y m b h) (spEndings c b).1 (spEndings c b).2 := by
  have X0 := mX0 X
  have l2 := VC_l2 X.2.2
  unfold M_endings spEndings
  simp only [letH_e]
  rw [show hSi (hSi h 1201 m 0) 1200 m 0 = mst h m from rfl, M_isBookAt_s X0.1 X0.2.1 X0.2.2, bind_s]
  rcases isAt_cases b (n := cN c 2) (by omega) with q | ⟨j, hj, rfl, q⟩
  · rw [q]
    exact ⟨hSi (mst h m) 1200 m 2, rfl, Mf_tr mst_f Mf_0, by rw [gi_si, if_pos ⟨rfl, rfl⟩]; rfl⟩
  · rw [q, if_pos rfl, if_pos rfl, nI_clamp (by omega)]
    obtain ⟨h', e1, e2⟩ := M_endingsOf_s X0 hj
    rw [e1, bind_s]
    exact mQ_e e2
theorem M_hopeless_q (X : MX Y h m c) : mQ Y m h (M_hopeless Y m h) (nI (hopS c)) (nI 0) := by
  have X0 := mX0 X
  have V := X.2.2
  have l2 := VC_l2 V
  unfold M_hopeless
  simp only [letH_e]
  rw [show hSi (hSi h 1201 m 0) 1200 m 0 = mst h m from rfl]
  refine upl (Q := fun r => mQ Y m h r (nI (hopS c)) (nI 0)) (fun F i hh => M_hopeless_L14 Y m F (nI (mk (fun b => decide (ecnt c b (cN c 9) = 0)) i)) (nI i) hh) (cN c 2) (fun i hh => Mg Y m (mst h m) hh) ?_ ?_ (cN c 2) 0 (mst h m) FU (by omega) (by unfold FU; omega) (Mg_rf _ _ _)
  · intro F i hh hi hI
    right
    have Xh := MX_M X0 hI.1
    obtain ⟨h', e1, e2⟩ := M_endingsOf_s Xh hi
    refine ⟨h', ?_, Mg_tr hI e2⟩
    show M_hopeless_L14 Y m (F + 1) _ (nI i) hh = M_hopeless_L14 Y m F (nI (mk (fun b => decide (ecnt c b (cN c 9) = 0)) (i + 1))) (nI (i + 1)) h'
    rw [M_hopeless_L14]
    simp (disch := omega) only [zlit, nI_add, ml1220 Xh.1, inB_nI, if_true, nI_clamp, MB0 Xh.2.1, VC_e2 V, nI_leI, e1, bind_s, zand, zone, zor, mk]
    rw [if_neg (by omega)]
    by_cases q : ecnt c i (cN c 9) = 0
    · rw [if_pos q, if_pos (by simpa using q)]
    · rw [if_neg q, if_neg (by simpa using q), Nat.or_zero]
  · intro F hh hI
    have Xh := MX_M X0 hI.1
    show mQ Y m h (M_hopeless_L14 Y m (F + 1) _ (nI (cN c 2)) hh) _ _
    rw [M_hopeless_L14]
    simp (disch := omega) only [zlit, ml1220 Xh.1, inB_nI, if_true, nI_clamp, MB0 Xh.2.1, VC_e2 V, nI_leI]
    rw [if_pos (by omega)]
    exact mQ_e hI
end QM
