/-! ===== offers, watches: the reference ===== -/
section OM
variable {Y : Ly} {h : Hp} {m : Nat} {c : Nat → Int32}
theorem M_costOf_s (X : MX Y h m c) {a : Nat} (ha : a < 2 ^ 31) : M_costOf Y m (nI a) h = some (nI (cstS c 270 (cN c 6) a)) := by
  obtain ⟨S, B, V⟩ := X
  have l := VC_l6 V
  unfold M_costOf
  refine upl (Q := fun r => r = some (nI (cstS c 270 (cN c 6) a))) (fun F i (_ : Unit) => M_costOf_L4 Y m (nI a) h F (nI (cstS c 270 i a)) (nI i)) (cN c 6) (fun _ _ => True) ?_ ?_ (cN c 6) 0 () FU (by omega) (by unfold FU; omega) trivial
  · intro F i _ hi _
    right
    refine ⟨(), ?_, trivial⟩
    have v := V.2.2.2.2.2.2.2.1 i hi
    show M_costOf_L4 Y m (nI a) h (F + 1) (nI (cstS c 270 i a)) (nI i) = M_costOf_L4 Y m (nI a) h F (nI (cstS c 270 (i + 1) a)) (nI (i + 1))
    rw [M_costOf_L4]
    simp (disch := omega) only [zlit, nI_add, ml1220 S, inB_nI, if_true, nI_clamp, MB0 B, VC_e6 V, nI_leI, M_has_s, bind_s, v.1.1]
    rw [if_neg (by omega)]
    show _ = M_costOf_L4 Y m (nI a) h F (nI (cstS c 270 i a + if a.testBit i = true then cN c (270 + i) else 0)) (nI (i + 1))
    by_cases q : a.testBit i = true
    · rw [if_pos q, if_pos q]
    · rw [if_neg q, if_neg q]
  · intro F _ _
    show M_costOf_L4 Y m (nI a) h (F + 1) (nI (cstS c 270 (cN c 6) a)) (nI (cN c 6)) = _
    rw [M_costOf_L4]
    simp (disch := omega) only [zlit, ml1220 S, inB_nI, if_true, nI_clamp, MB0 B, VC_e6 V, nI_leI]
    rw [if_pos (by omega)]
theorem M_paidFor_s (X : MX Y h m c) {a : Nat} (ha : a < 2 ^ 31) : M_paidFor Y m (nI a) h = some (nI (cstS c 282 (cN c 7) a)) := by
  obtain ⟨S, B, V⟩ := X
  have l := VC_l7 V
  unfold M_paidFor
  refine upl (Q := fun r => r = some (nI (cstS c 282 (cN c 7) a))) (fun F i (_ : Unit) => M_paidFor_L4 Y m (nI a) h F (nI (cstS c 282 i a)) (nI i)) (cN c 7) (fun _ _ => True) ?_ ?_ (cN c 7) 0 () FU (by omega) (by unfold FU; omega) trivial
  · intro F i _ hi _
    right
    refine ⟨(), ?_, trivial⟩
    have v := V.2.2.2.2.2.2.2.2.1 i hi
    show M_paidFor_L4 Y m (nI a) h (F + 1) (nI (cstS c 282 i a)) (nI i) = M_paidFor_L4 Y m (nI a) h F (nI (cstS c 282 (i + 1) a)) (nI (i + 1))
    rw [M_paidFor_L4]
    simp (disch := omega) only [zlit, nI_add, ml1220 S, inB_nI, if_true, nI_clamp, MB0 B, VC_e7 V, nI_leI, M_has_s, bind_s, v.1.1]
    rw [if_neg (by omega)]
    show _ = M_paidFor_L4 Y m (nI a) h F (nI (cstS c 282 i a + if a.testBit i = true then cN c (282 + i) else 0)) (nI (i + 1))
    by_cases q : a.testBit i = true
    · rw [if_pos q, if_pos q]
    · rw [if_neg q, if_neg q]
  · intro F _ _
    show M_paidFor_L4 Y m (nI a) h (F + 1) (nI (cstS c 282 (cN c 7) a)) (nI (cN c 7)) = _
    rw [M_paidFor_L4]
    simp (disch := omega) only [zlit, ml1220 S, inB_nI, if_true, nI_clamp, MB0 B, VC_e7 V, nI_leI]
    rw [if_pos (by omega)]
theorem M_kn58 (X : MX Y h m c) {y k : Nat} {k48 : Int32 → Int32 → Option Int32} (hy : y < 2 ^ cN c 2) : M_knownBy_L58 Y m (nI y) h k48 FU (nI y) 0 = k48 (nI (jst (fun b => cN c (298 + b)) (cN c 2) y)) (nI y) := by
  obtain ⟨S, B, V⟩ := X
  have l2 := VC_l2 V
  have p2 := pow_le6 l2
  have key := upl (Q := fun r => r = k48 (nI (jst (fun b => cN c (298 + b)) (cN c 2) y)) (nI y)) (fun F i (_ : Unit) => M_knownBy_L58 Y m (nI y) h k48 F (nI (y ||| unio (fun b => cN c (298 + b)) y i)) (nI i)) (cN c 2) (fun _ _ => True) ?_ ?_ (cN c 2) 0 () FU (by omega) (by unfold FU; omega) trivial
  · simp only [unio, Nat.or_zero] at key
    exact key
  · intro F i _ hi _
    right
    refine ⟨(), ?_, trivial⟩
    have v := V.2.2.2.2.2.2.2.2.2 i hi
    show M_knownBy_L58 Y m (nI y) h k48 (F + 1) _ (nI i) = M_knownBy_L58 Y m (nI y) h k48 F (nI (y ||| unio (fun b => cN c (298 + b)) y (i + 1))) (nI (i + 1))
    rw [M_knownBy_L58]
    simp (disch := omega) only [zlit, nI_add, ml1220 S, inB_nI, if_true, nI_clamp, MB0 B, VC_e2 V, nI_leI, M_has_s, bind_s, v.1, zor, unio]
    rw [if_neg (by omega)]
    by_cases q : y.testBit i = true
    · rw [if_pos q, if_pos q, Nat.or_assoc]
    · rw [if_neg q, if_neg q, Nat.or_assoc]
  · intro F _ _
    show M_knownBy_L58 Y m (nI y) h k48 (F + 1) _ (nI (cN c 2)) = _
    rw [M_knownBy_L58]
    simp (disch := omega) only [zlit, ml1220 S, inB_nI, if_true, nI_clamp, MB0 B, VC_e2 V, nI_leI]
    rw [if_pos (by omega)]
    rfl
theorem M_knownBy_s (X : MX Y h m c) {a : Nat} (ha : a < 2 ^ 31) : M_knownBy Y m (nI a) h = some (nI (kn c a)) := by
  have V := X.2.2
  have S := X.1
  have B := X.2.1
  have l2 := VC_l2 V
  have l6 := VC_l6 V
  have p2 := pow_le6 l2
  have hx : unio (fun i => cN c (276 + i)) a (cN c 6) < 2 ^ cN c 2 := unio_lt2 _ (fun i hi => ((offs V).1 i hi).2)
  have hf := (offs V).2.2
  have it : ∀ k, itr (jst (fun b => cN c (298 + b)) (cN c 2)) k (unio (fun i => cN c (276 + i)) a (cN c 6)) < 2 ^ cN c 2 := fun k => itr_lt hf hx k
  have hcl := jst_closed.mpr (itr_closed hf hx)
  have l48 : M_knownBy_L48 Y m h FU (nI (unio (fun i => cN c (276 + i)) a (cN c 6))) m1 = some (nI (kn c a)) := by
    unfold kn
    generalize unio (fun i => cN c (276 + i)) a (cN c 6) = x0 at hx it hcl
    obtain ⟨F0, hF0⟩ : ∃ F0, FU = (F0 + cN c 2 + 2) + 1 := ⟨FU - cN c 2 - 3, by unfold FU; omega⟩
    rw [hF0, M_knownBy_L48, if_neg (by rw [ne_m1 (by omega)]; exact fun z => z), M_kn58 (k := 0) X hx]
    refine upl (Q := fun r => r = some (nI (itr (jst (fun b => cN c (298 + b)) (cN c 2)) (cN c 2) x0))) (fun F i (_ : Unit) => M_knownBy_L48 Y m h F (nI (itr (jst (fun b => cN c (298 + b)) (cN c 2)) (i + 1) x0)) (nI (itr (jst (fun b => cN c (298 + b)) (cN c 2)) i x0))) (cN c 2) (fun _ _ => True) ?_ ?_ (cN c 2) 0 () (F0 + cN c 2 + 2) (by omega) (by omega) trivial
    · intro F i _ hi _
      have i1 := it i
      have i2 := it (i + 1)
      by_cases q : itr (jst (fun b => cN c (298 + b)) (cN c 2)) (i + 1) x0 = itr (jst (fun b => cN c (298 + b)) (cN c 2)) i x0
      · left
        show M_knownBy_L48 Y m h (F + 1) _ _ = _
        rw [M_knownBy_L48, q, if_pos rfl]
        have := itr_fix (g := jst (fun b => cN c (298 + b)) (cN c 2)) (x := x0) (k := i) q (cN c 2 - i)
        rw [show i + (cN c 2 - i) = cN c 2 by omega] at this
        rw [this]
      · right
        refine ⟨(), ?_, trivial⟩
        show M_knownBy_L48 Y m h (F + 1) _ _ = _
        rw [M_knownBy_L48, if_neg (by rw [nI_eq (by omega) (by omega)]; exact q), M_kn58 (k := 0) X i2]
        rfl
    · intro F _ _
      show M_knownBy_L48 Y m h (F + 1) (nI (itr (jst (fun b => cN c (298 + b)) (cN c 2)) (cN c 2 + 1) x0)) (nI (itr (jst (fun b => cN c (298 + b)) (cN c 2)) (cN c 2) x0)) = _
      have : itr (jst (fun b => cN c (298 + b)) (cN c 2)) (cN c 2 + 1) x0 = itr (jst (fun b => cN c (298 + b)) (cN c 2)) (cN c 2) x0 := hcl
      rw [M_knownBy_L48, this, if_pos rfl]
  unfold M_knownBy
  refine upl (Q := fun r => r = some (nI (kn c a))) (fun F i (_ : Unit) => M_knownBy_L4 Y m (nI a) h F (nI (unio (fun i => cN c (276 + i)) a i)) (nI i)) (cN c 6) (fun _ _ => True) ?_ ?_ (cN c 6) 0 () FU (by omega) (by unfold FU; omega) trivial
  · intro F i _ hi _
    right
    refine ⟨(), ?_, trivial⟩
    have v := V.2.2.2.2.2.2.2.1 i hi
    show M_knownBy_L4 Y m (nI a) h (F + 1) _ (nI i) = M_knownBy_L4 Y m (nI a) h F (nI (unio (fun i => cN c (276 + i)) a (i + 1))) (nI (i + 1))
    rw [M_knownBy_L4]
    simp (disch := omega) only [zlit, nI_add, ml1220 S, inB_nI, if_true, nI_clamp, MB0 B, VC_e6 V, nI_leI, M_has_s, bind_s, v.2.1, zor, unio]
    rw [if_neg (by omega)]
    by_cases q : a.testBit i = true
    · rw [if_pos q, if_pos q]
    · rw [if_neg q, if_neg q]
  · intro F _ _
    show M_knownBy_L4 Y m (nI a) h (F + 1) _ (nI (cN c 6)) = _
    rw [M_knownBy_L4]
    simp (disch := omega) only [zlit, zneg, ml1220 S, inB_nI, if_true, nI_clamp, MB0 B, VC_e6 V, nI_leI]
    rw [if_pos (by omega)]
    exact l48
theorem M_isBetter_s (X : MX Y h m c) {a b : Nat} (ha : a < 256) (hb : b < 256) : M_isBetter Y m (nI a) (nI b) h = some (betB c a b) := by
  have V := X.2.2
  have p2 := pow_le6 (VC_l2 V)
  have l6 := VC_l6 V
  have k1 := kn_lt V a
  have k2 := kn_lt V b
  have q1 := pcnt_le (kn c a)
  have q2 := pcnt_le (kn c b)
  have q3 := pcnt_le a
  have q4 := pcnt_le b
  have h1 : cstS c 270 (cN c 6) a ≤ 800 := cstS_le (by omega) (fun o ho => ((offs V).1 o ho).1)
  have h2 : cstS c 270 (cN c 6) b ≤ 800 := cstS_le (by omega) (fun o ho => ((offs V).1 o ho).1)
  unfold M_isBetter betB chp
  simp (disch := omega) only [M_knownBy_s X, bind_s, M_sizeOf_s, M_costOf_s X, zlit, sub_eq0, sub_0le, sub_le0, nI_leI]
  by_cases c1 : pcnt (kn c a) = pcnt (kn c b)
  · rw [if_pos c1]
    by_cases c2 : cstS c 270 (cN c 6) a = cstS c 270 (cN c 6) b
    · rw [if_pos c2]
      by_cases c3 : pcnt a < pcnt b
      · rw [if_neg (by omega)]; simp [c1, c2, c3]
      · rw [if_pos (by omega)]; simp [c1, c2, c3]
    · rw [if_neg c2]
      by_cases c3 : cstS c 270 (cN c 6) a < cstS c 270 (cN c 6) b
      · rw [if_neg (by omega)]; simp [c1, c3]
      · rw [if_pos (by omega)]; simp [c1, c2, c3]
  · rw [if_neg c1]
    by_cases c3 : pcnt (kn c b) < pcnt (kn c a)
    · rw [if_neg (by omega)]; simp [c3]
    · rw [if_pos (by omega)]; simp [c1, c3]
theorem M_allOffers_s (X : MX Y h m c) : M_allOffers Y m h = some (nI (2 ^ cN c 6 - 1)) := by
  obtain ⟨S, B, V⟩ := X
  have l2 := VC_l6 V
  have p2' := Nat.two_pow_pos (cN c 6)
  unfold M_allOffers
  simp (disch := omega) only [zlit, ml1220 S, inB_nI, if_true, nI_clamp, MB0 B, VC_e6 V, zand, zone, pk_sub]
theorem M_buying_s (X : MX Y h m c) {u : Nat} (hu : u < 1000) : M_buying Y m (nI u) h = some (nI (buyS c u)) := by
  have V := X.2.2
  have l6 := VC_l6 V
  have p6 := pow_le6 l6
  have p6' := Nat.two_pow_pos (cN c 6)
  let q : Nat → Nat → Bool := fun a o => decide (cstS c 270 (cN c 6) a ≤ u) && betB c a o
  have q0 : scanN q 0 1 = 0 := by
    show (if q 0 0 = true then 0 else 0) = 0
    split <;> rfl
  unfold M_buying
  have key := upl (Q := fun r => r = some (nI (buyS c u))) (fun F i (_ : Unit) => M_buying_L4 Y m (nI u) h F (nI (scanN q 0 i)) (nI i)) (2 ^ cN c 6) (fun _ _ => True) ?_ ?_ (2 ^ cN c 6 - 1) 1 () FU (by omega) (by unfold FU; omega) trivial
  · simp only [q0] at key
    exact key
  · intro F i _ hi _
    right
    refine ⟨(), ?_, trivial⟩
    have hl := scanN_lt (q := q) (o := 0) (M := 2 ^ cN c 6) (by omega) i (by omega)
    have h1 : cstS c 270 (cN c 6) i ≤ 800 := cstS_le (by omega) (fun o ho => ((offs V).1 o ho).1)
    show M_buying_L4 Y m (nI u) h (F + 1) (nI (scanN q 0 i)) (nI i) = M_buying_L4 Y m (nI u) h F (nI (scanN q 0 (i + 1))) (nI (i + 1))
    rw [M_buying_L4, M_allOffers_s X, bind_s, M_costOf_s X (by omega), bind_s, M_isBetter_s X (by omega) (by omega), bind_s]
    simp (disch := omega) only [zlit, nI_ltI, nI_add, scanN]
    rw [if_neg (by omega)]
    show _ = M_buying_L4 Y m (nI u) h F (nI (if (decide (cstS c 270 (cN c 6) i ≤ u) && betB c i (scanN q 0 i)) = true then i else scanN q 0 i)) (nI (i + 1))
    by_cases c1 : cstS c 270 (cN c 6) i ≤ u
    · rw [if_neg (by omega)]
      by_cases c2 : betB c i (scanN q 0 i) = true
      · rw [if_pos c2]; simp [c1, c2]
      · rw [if_neg c2]; simp [c2]
    · rw [if_pos (by omega)]; simp [c1]
  · intro F _ _
    show M_buying_L4 Y m (nI u) h (F + 1) (nI (scanN q 0 (2 ^ cN c 6))) (nI (2 ^ cN c 6)) = _
    rw [M_buying_L4, M_allOffers_s X, bind_s, if_pos (nI_lt (by omega) (by omega))]
    rfl
theorem M_known_q (X : MX Y h m c) (a : Int32) : mQ Y m h (M_known Y m a h) (spKnown c a).1 (spKnown c a).2 := by
  have X0 := mX0 X
  have V := X.2.2
  have p6 := pow_le6 (VC_l6 V)
  have p6' := Nat.two_pow_pos (cN c 6)
  unfold M_known spKnown
  simp only [letH_e]
  rw [show hSi (hSi h 1201 m 0) 1200 m 0 = mst h m from rfl, M_allOffers_s X0, bind_s, M_isIn_s, bind_s, isIn_c (n := 2 ^ cN c 6) (by omega) (by rw [show (1 : Int32) = nI 1 from rfl, pk_sub (by omega)])]
  rcases isAt_cases a (n := 2 ^ cN c 6) (by omega) with q | ⟨j, hj, rfl, q⟩
  · rw [q]; exact mQ_r (Mg_rf _ _ _)
  · rw [q, if_pos rfl, if_pos rfl, nI_clamp (by omega), M_knownBy_s X0 (by omega), bind_s]
    exact mQ_e (Mg_rf _ _ _)
theorem M_buySet_q (X : MX Y h m c) (a : Int32) : mQ Y m h (M_buySet Y m a h) (spBuySet c a).1 (spBuySet c a).2 := by
  have X0 := mX0 X
  unfold M_buySet spBuySet
  simp only [letH_e]
  rw [show hSi (hSi h 1201 m 0) 1200 m 0 = mst h m from rfl, M_isIn_s, bind_s, isIn_c (n := 1000) (by omega) (by decide)]
  rcases isAt_cases a (n := 1000) (by omega) with q | ⟨j, hj, rfl, q⟩
  · rw [q]; exact mQ_r (Mg_rf _ _ _)
  · rw [q, if_pos rfl, if_pos rfl, nI_clamp (by omega), M_buying_s X0 hj, bind_s]
    exact mQ_e (Mg_rf _ _ _)
theorem M_buy_q (X : MX Y h m c) (a : Int32) : mQ Y m h (M_buy Y m a h) (spBuy c a).1 (spBuy c a).2 := by
  have X0 := mX0 X
  have V := X.2.2
  have p2 := pow_le6 (VC_l2 V)
  unfold M_buy spBuy
  simp only [letH_e]
  rw [show hSi (hSi h 1201 m 0) 1200 m 0 = mst h m from rfl, M_isIn_s, bind_s, isIn_c (n := 1000) (by omega) (by decide)]
  rcases isAt_cases a (n := 1000) (by omega) with q | ⟨j, hj, rfl, q⟩
  · rw [q]; exact mQ_r (Mg_rf _ _ _)
  · have hb := buyS_lt V j
    have hk := kn_lt V (buyS c j)
    rw [q, if_pos rfl, if_pos rfl, nI_clamp (by omega), M_buying_s X0 hj, bind_s, M_knownBy_s X0 (by omega), bind_s, M_sizeOf_s (by omega), bind_s]
    exact mQ_e (Mg_rf _ _ _)
theorem M_cheapest_q (X : MX Y h m c) : mQ Y m h (M_cheapest Y m h) (anyP (chpS c)).1 (anyP (chpS c)).2 := by
  have X0 := mX0 X
  have V := X.2.2
  have l2 := VC_l2 V
  have l6 := VC_l6 V
  have p2 := pow_le6 l2
  have p2' := Nat.two_pow_pos (cN c 2)
  have p6 := pow_le6 l6
  have p6' := Nat.two_pow_pos (cN c 6)
  have hc : ∀ i, cstS c 270 (cN c 6) i ≤ 800 := fun i => cstS_le (by omega) (fun o ho => ((offs V).1 o ho).1)
  let q : Nat → Option Nat → Bool := fun a o => (match o with | none => true | some k => decide (cstS c 270 (cN c 6) a < k)) && decide (kn c a = 2 ^ cN c 2 - 1)
  unfold M_cheapest
  simp only [letH_e]
  rw [show hSi (hSi h 1201 m 0) 1200 m 0 = mst h m from rfl]
  refine upl (Q := fun r => mQ Y m h r (anyP (chpS c)).1 (anyP (chpS c)).2) (fun F i (_ : Unit) => M_cheapest_L14 Y m (mst h m) F (on (scanV (cstS c 270 (cN c 6)) q i)) (nI i)) (2 ^ cN c 6) (fun _ _ => True) ?_ ?_ (2 ^ cN c 6) 0 () FU (by omega) (by unfold FU; omega) trivial
  · intro F i _ hi _
    right
    refine ⟨(), ?_, trivial⟩
    have hl := scanV_lt (v := cstS c 270 (cN c 6)) (q := q) (M := 801) i (fun j hj => by have := hc j; omega)
    have hci := hc i
    have k1 := kn_lt V i
    show M_cheapest_L14 Y m (mst h m) (F + 1) (on (scanV (cstS c 270 (cN c 6)) q i)) (nI i) = M_cheapest_L14 Y m (mst h m) F (on (scanV (cstS c 270 (cN c 6)) q (i + 1))) (nI (i + 1))
    rw [M_cheapest_L14, M_allOffers_s X0, bind_s, if_neg (nI_nlt (by omega) (by omega)), M_knownBy_s X0 (by omega), bind_s, M_allBooks_s X0, bind_s, M_costOf_s X0 (by omega)]
    simp (disch := omega) only [bind_s, zlit, nI_add, nI_eq, scanV]
    show _ = M_cheapest_L14 Y m (mst h m) F (on (if ((match scanV (cstS c 270 (cN c 6)) q i with | none => true | some k => decide (cstS c 270 (cN c 6) i < k)) && decide (kn c i = 2 ^ cN c 2 - 1)) = true then some (cstS c 270 (cN c 6) i) else scanV (cstS c 270 (cN c 6)) q i)) (nI (i + 1))
    by_cases c2 : kn c i = 2 ^ cN c 2 - 1
    · rw [if_pos c2]
      cases hsc : scanV (cstS c 270 (cN c 6)) q i with
      | none =>
        rw [if_pos (show on none < nI 0 by decide)]; simp [c2, on]
      | some k =>
        have hk := hl k hsc
        rw [if_neg (show ¬ on (some k) < nI 0 from nI_pos (by omega)), show on (some k) = nI k from rfl]
        simp (disch := omega) only [nI_leI]
        by_cases c3 : cstS c 270 (cN c 6) i < k
        · rw [if_neg (show ¬ k ≤ cstS c 270 (cN c 6) i by omega)]; simp [c2, c3, on]
        · rw [if_pos (show k ≤ cstS c 270 (cN c 6) i by omega)]; simp [c3, on]
    · rw [if_neg c2]; simp [c2]
  · intro F _ _
    show mQ Y m h (M_cheapest_L14 Y m (mst h m) (F + 1) (on (scanV (cstS c 270 (cN c 6)) q (2 ^ cN c 6))) (nI (2 ^ cN c 6))) _ _
    rw [M_cheapest_L14, M_allOffers_s X0, bind_s, if_pos (nI_lt (by omega) (by omega))]
    exact mQ_any (o := chpS c) (Mf_rf _ _ _) rfl (fun k hk => by have := chpS_lt V k hk; omega)
theorem M_guardsOf_s (X : MX Y h m c) {a b : Nat} (ha : a < 2 ^ 31) (hb : b < 32) : M_guardsOf Y m (nI b) (nI a) h = some (nI (gcnt c a b)) := by
  obtain ⟨S, B, V⟩ := X
  have l := VC_l7 V
  have p2 := pow_le6 (VC_l2 V)
  unfold M_guardsOf
  refine upl (Q := fun r => r = some (nI (gcnt c a b))) (fun F i (_ : Unit) => M_guardsOf_L5 Y m (nI b) (nI a) h F (nI (sm (fun i => if a.testBit i && (cN c (290 + i)).testBit b then 1 else 0) i)) (nI i)) (cN c 7) (fun _ _ => True) ?_ ?_ (cN c 7) 0 () FU (by omega) (by unfold FU; omega) trivial
  · intro F i _ hi _
    right
    refine ⟨(), ?_, trivial⟩
    have v := V.2.2.2.2.2.2.2.2.1 i hi
    have v2 := v.2.2
    show M_guardsOf_L5 Y m (nI b) (nI a) h (F + 1) _ (nI i) = M_guardsOf_L5 Y m (nI b) (nI a) h F (nI (sm (fun i => if a.testBit i && (cN c (290 + i)).testBit b then 1 else 0) (i + 1))) (nI (i + 1))
    rw [M_guardsOf_L5]
    simp (disch := omega) only [zlit, nI_add, ml1220 S, inB_nI, if_true, nI_clamp, MB0 B, VC_e7 V, nI_leI, M_has_s, bind_s, v.2.1, sm]
    rw [if_neg (by omega)]
    by_cases q1 : a.testBit i = true
    · rw [if_pos q1]
      by_cases q2 : (cN c (290 + i)).testBit b = true
      · rw [if_pos q2, if_pos (by rw [q1, q2]; rfl)]
      · rw [if_neg q2, if_neg (by rw [q1]; simpa using q2)]
    · rw [if_neg q1, if_neg (by simp [q1])]
  · intro F _ _
    show M_guardsOf_L5 Y m (nI b) (nI a) h (F + 1) _ (nI (cN c 7)) = _
    rw [M_guardsOf_L5]
    simp (disch := omega) only [zlit, ml1220 S, inB_nI, if_true, nI_clamp, MB0 B, VC_e7 V, nI_leI]
    rw [if_pos (by omega)]
    rfl
def chO (c : Nat → Int32) (a : Nat) (o : Option Nat) : Bool := match o with
  | none => true
  | some k => chp c 282 (cN c 7) a k
theorem M_gd23 (X : MX Y h m c) {g a : Nat} {o : Option Nat} {k4 : Int32 → Int32 → Option Int32} (ha : a < 256) (hg : g < 2 ^ 30) (ho : ∀ k, o = some k → k < 256) :
    M_guarding_L23 Y m (nI g) (on o) (nI a) h k4 FU true 0 = if (chO c a o && gdB c g a) = true then k4 (nI a) (nI (a + 1)) else k4 (on o) (nI (a + 1)) := by
  have V := X.2.2
  have S := X.1
  have B := X.2.1
  have l2 := VC_l2 V
  have l7 := VC_l7 V
  have hc : ∀ i, cstS c 282 (cN c 7) i ≤ 800 := fun i => cstS_le (by omega) (fun o ho => ((offs V).2.1 o ho).1)
  refine upl (Q := fun r => r = if (chO c a o && gdB c g a) = true then k4 (nI a) (nI (a + 1)) else k4 (on o) (nI (a + 1))) (fun F i (_ : Unit) => M_guarding_L23 Y m (nI g) (on o) (nI a) h k4 F (alln (fun b => decide (g ≤ gcnt c a b)) i) (nI i)) (cN c 2) (fun _ _ => True) ?_ ?_ (cN c 2) 0 () FU (by omega) (by unfold FU; omega) trivial
  · intro F i _ hi _
    right
    refine ⟨(), ?_, trivial⟩
    have hgc := gcnt_le V a i
    show M_guarding_L23 Y m (nI g) (on o) (nI a) h k4 (F + 1) (alln (fun b => decide (g ≤ gcnt c a b)) i) (nI i) = M_guarding_L23 Y m (nI g) (on o) (nI a) h k4 F (alln (fun b => decide (g ≤ gcnt c a b)) (i + 1)) (nI (i + 1))
    rw [M_guarding_L23, M_guardsOf_s X (by omega) (by omega)]
    simp (disch := omega) only [bind_s, zlit, nI_add, ml1220 S, inB_nI, if_true, nI_clamp, MB0 B, VC_e2 V, nI_leI, nI_ltI, alln]
    rw [if_neg (by omega)]
    by_cases q1 : alln (fun b => decide (g ≤ gcnt c a b)) i = true
    · rw [if_pos q1, q1]
      by_cases q2 : g ≤ gcnt c a i
      · rw [if_neg (by omega)]; simp [q2]
      · rw [if_pos (by omega)]; simp [q2]
    · rw [if_neg q1]
      rw [Bool.not_eq_true] at q1
      rw [q1]; rfl
  · intro F _ _
    have ha8 := pcnt_le a
    have h1 := hc a
    show M_guarding_L23 Y m (nI g) (on o) (nI a) h k4 (F + 1) (gdB c g a) (nI (cN c 2)) = _
    rw [M_guarding_L23]
    simp (disch := omega) only [zlit, zneg, nI_add, ml1220 S, inB_nI, if_true, nI_clamp, MB0 B, VC_e2 V, nI_leI]
    rw [if_pos (by omega)]
    unfold M_guarding_J90
    by_cases q1 : gdB c g a = true
    · rw [if_pos q1, q1]
      cases o with
      | none =>
        rw [if_neg (show ¬ nI 0 ≤ on none by decide), if_pos (show m1 < 0 by decide)]; simp [chO, zlit, nI_add]
      | some k =>
        have hk := ho k rfl
        have hk8 := pcnt_le k
        have h2 := hc k
        rw [if_pos (show nI 0 ≤ on (some k) from nI_pos' (by omega)), show on (some k) = nI k from rfl, M_paidFor_s X (by omega), bind_s, M_paidFor_s X (by omega), bind_s]
        simp (disch := omega) only [zlit, sub_lt0, sub_eq0, M_sizeOf_s, bind_s, nI_leI, nI_add]
        by_cases c1 : cstS c 282 (cN c 7) a < cstS c 282 (cN c 7) k
        · rw [if_pos c1]; simp [chO, chp, c1]
        · rw [if_neg c1]
          by_cases c2 : cstS c 282 (cN c 7) a = cstS c 282 (cN c 7) k
          · rw [if_pos c2]
            by_cases c3 : pcnt a < pcnt k
            · rw [if_neg (by omega)]; simp [chO, chp, c2, c3]
            · rw [if_pos (by omega)]; simp [chO, chp, c1, c3]
          · rw [if_neg c2]; simp [chO, chp, c1, c2]
    · rw [if_neg q1]; simp [q1]
theorem M_guarding_s (X : MX Y h m c) {g : Nat} (hg : g < 2 ^ 30) : M_guarding Y m (nI g) h = some (on (grdS c g)) := by
  have V := X.2.2
  have l7 := VC_l7 V
  have p7 := pow_le8 l7
  let q : Nat → Option Nat → Bool := fun a o => (match o with | none => true | some k => chp c 282 (cN c 7) a k) && gdB c g a
  unfold M_guarding
  refine upl (Q := fun r => r = some (on (grdS c g))) (fun F i (_ : Unit) => M_guarding_L4 Y m (nI g) h F (on (scan q none i)) (nI i)) (2 ^ cN c 7) (fun _ _ => True) ?_ ?_ (2 ^ cN c 7) 0 () FU (by omega) (by unfold FU; omega) trivial
  · intro F i _ hi _
    right
    refine ⟨(), ?_, trivial⟩
    have hl := scan_lt (q := q) (o := none) (M := 2 ^ cN c 7) (fun k hk => by cases hk) i (by omega)
    show M_guarding_L4 Y m (nI g) h (F + 1) (on (scan q none i)) (nI i) = M_guarding_L4 Y m (nI g) h F (on (scan q none (i + 1))) (nI (i + 1))
    rw [M_guarding_L4, M_gd23 X (by omega) hg (fun k hk => by have := hl k hk; omega)]
    simp (disch := omega) only [zlit, zand, zone, nI_leI, ml1220 X.1, inB_nI, if_true, nI_clamp, MB0 X.2.1, VC_e7 V, scan]
    rw [if_neg (by omega)]
    show (if q i (scan q none i) = true then _ else _) = M_guarding_L4 Y m (nI g) h F (on (if q i (scan q none i) = true then some i else scan q none i)) (nI (i + 1))
    split <;> rfl
  · intro F _ _
    show M_guarding_L4 Y m (nI g) h (F + 1) (on (scan q none (2 ^ cN c 7))) (nI (2 ^ cN c 7)) = _
    rw [M_guarding_L4]
    simp (disch := omega) only [zlit, zand, zone, nI_leI, ml1220 X.1, inB_nI, if_true, nI_clamp, MB0 X.2.1, VC_e7 V]
    rw [if_pos (by omega)]
    rfl
theorem isIn_3 {g : Int32} : (decide ((1 : Int64) ≤ g.toInt64) && decide (g.toInt64 ≤ 3)) = isAt (g - 1) 3 := isIn_1 (n := 3) (by omega)
theorem M_guardSet_q (X : MX Y h m c) (g : Int32) : mQ Y m h (M_guardSet Y m g h) (spGuardSet c g).1 (spGuardSet c g).2 := by
  have X0 := mX0 X
  unfold M_guardSet spGuardSet
  simp only [letH_e]
  rw [show hSi (hSi h 1201 m 0) 1200 m 0 = mst h m from rfl, M_isIn_s, bind_s, isIn_3]
  rcases g_cases g with ⟨q, _⟩ | ⟨j, hj, e1, e2, q⟩
  · rw [q]; exact mQ_r (Mg_rf _ _ _)
  · rw [q, if_pos rfl, if_pos rfl, e1, nI_clamp (by omega), e2, M_guarding_s X0 (by omega), bind_s]
    exact mQ_any (Mf_rf _ _ _) rfl (fun k hk => by have := grdS_lt X.2.2 _ k hk; omega)
theorem M_guard_q (X : MX Y h m c) (g : Int32) : mQ Y m h (M_guard Y m g h) (spGuard c g).1 (spGuard c g).2 := by
  have X0 := mX0 X
  unfold M_guard spGuard
  simp only [letH_e]
  rw [show hSi (hSi h 1201 m 0) 1200 m 0 = mst h m from rfl, M_isIn_s, bind_s, isIn_3]
  rcases g_cases g with ⟨q, _⟩ | ⟨j, hj, e1, e2, q⟩
  · rw [q]; exact mQ_r (Mg_rf _ _ _)
  · rw [q, if_pos rfl, if_pos rfl, e1, nI_clamp (by omega), e2, M_guarding_s X0 (by omega), bind_s]
    have hl := grdS_lt X.2.2 (j + 1)
    cases hsc : grdS c (j + 1) with
    | none =>
      rw [if_neg (show ¬ 0 ≤ on none by decide)]
      exact mQ_r (Mg_rf _ _ _)
    | some k =>
      have hk := hl k hsc
      rw [if_pos (show 0 ≤ on (some k) from nI_pos' (by omega)), show on (some k) = nI k from rfl, M_paidFor_s X0 (by omega), bind_s]
      exact mQ_e (Mg_rf _ _ _)
theorem M_barest_q (X : MX Y h m c) : mQ Y m h (M_barest Y m h) (anyP (barS c)).1 (anyP (barS c)).2 := by
  have X0 := mX0 X
  have V := X.2.2
  have l2 := VC_l2 V
  let q : Nat → Option Nat → Bool := fun b o => match o with | none => true | some k => decide (gcnt c 255 b < gcnt c 255 k)
  have ho : ∀ i, i ≤ cN c 2 → ∀ k, scan q none i = some k → k < cN c 2 := fun i hi => scan_lt (fun k hk => by cases hk) i hi
  unfold M_barest
  simp only [letH_e]
  rw [show hSi (hSi h 1201 m 0) 1200 m 0 = mst h m from rfl]
  refine upl (Q := fun r => mQ Y m h r (anyP (barS c)).1 (anyP (barS c)).2) (fun F i (_ : Unit) => M_barest_L14 Y m (mst h m) F (on (scan q none i)) (nI i)) (cN c 2) (fun _ _ => True) ?_ ?_ (cN c 2) 0 () FU (by omega) (by unfold FU; omega) trivial
  · intro F i _ hi _
    right
    refine ⟨(), ?_, trivial⟩
    have hgc := gcnt_le V 255 i
    show M_barest_L14 Y m (mst h m) (F + 1) (on (scan q none i)) (nI i) = M_barest_L14 Y m (mst h m) F (on (scan q none (i + 1))) (nI (i + 1))
    have e1 : scan q none (i + 1) = if (match scan q none i with | none => true | some k => decide (gcnt c 255 i < gcnt c 255 k)) = true then some i else scan q none i := rfl
    rw [M_barest_L14, e1]
    simp (disch := omega) only [zlit, nI_add, ml1220 X0.1, inB_nI, if_true, nI_clamp, MB0 X0.2.1, VC_e2 V, nI_leI]
    rw [if_neg (by omega)]
    cases hsc : scan q none i with
    | none =>
      rw [if_pos (show on none < nI 0 by decide)]; simp [on]
    | some k =>
      have hk := ho i (by omega) k hsc
      have hgk := gcnt_le V 255 k
      rw [if_neg (show ¬ on (some k) < nI 0 from nI_pos (by omega)), show on (some k) = nI k from rfl, M_guardsOf_s X0 (by omega) (by omega), bind_s, M_guardsOf_s X0 (by omega) (by omega), bind_s]
      simp (disch := omega) only [nI_leI]
      by_cases c1 : gcnt c 255 i < gcnt c 255 k
      · rw [if_neg (show ¬ gcnt c 255 k ≤ gcnt c 255 i by omega)]; simp [c1, on]
      · rw [if_pos (show gcnt c 255 k ≤ gcnt c 255 i by omega)]; simp [c1, on]
  · intro F _ _
    show mQ Y m h (M_barest_L14 Y m (mst h m) (F + 1) (on (scan q none (cN c 2))) (nI (cN c 2))) _ _
    rw [M_barest_L14]
    simp (disch := omega) only [zlit, ml1220 X0.1, inB_nI, if_true, nI_clamp, MB0 X0.2.1, VC_e2 V, nI_leI]
    rw [if_pos (by omega)]
    exact mQ_any (o := barS c) (Mf_rf _ _ _) rfl (fun k hk => by have := barS_lt V k hk; omega)
end OM
