/-! ===== close, call, loose, bind ===== -/
theorem ti_self (h : Hp) (A i : Nat) {v : Int32} (e : hAi h A i = v) : hTi h A i v = h := by
  have : up2 h.2.2.2.1 A i v = h.2.2.2.1 := by
    funext p q
    by_cases z : p = A ∧ q = i
    · simp only [up2, z, if_true, and_self]
      rw [← e]; rfl
    · simp only [up2, z, if_false]
  unfold hTi
  rw [this]
def bfS (c : Nat → Int32) : Nat → Nat
  | 0 => 0
  | n + 1 => bfS c n ||| (if c (100 + n) = m1 then 0 else 2 ^ cN c (100 + n))
theorem bfS_bit (c : Nat → Int32) (f : Nat) : ∀ n, (bfS c n).testBit f = true ↔ ∃ b, b < n ∧ c (100 + b) ≠ m1 ∧ cN c (100 + b) = f := by
  intro n
  induction n with
  | zero => simp [bfS]
  | succ n ih =>
    rw [bfS, Nat.testBit_or, Bool.or_eq_true, ih]
    constructor
    · rintro (⟨b, h1, h2, h3⟩ | h)
      · exact ⟨b, by omega, h2, h3⟩
      · by_cases q : c (100 + n) = m1
        · rw [if_pos q] at h; simp at h
        · rw [if_neg q, Nat.testBit_two_pow] at h
          exact ⟨n, by omega, q, by simpa using h⟩
    · rintro ⟨b, h1, h2, h3⟩
      by_cases e : b = n
      · subst e
        right
        rw [if_neg h2, Nat.testBit_two_pow]
        simpa using h3
      · exact Or.inl ⟨b, by omega, h2, h3⟩
theorem bfS_lt {c : Nat → Int32} (V : VB c) : ∀ n, n ≤ cN c 2 → bfS c n < 2 ^ 8 := by
  have l3 := VC_l3 V
  intro n
  induction n with
  | zero => intro _; simp [bfS]
  | succ n ih =>
    intro hn
    rw [bfS]
    apply Nat.or_lt_two_pow (ih (by omega))
    split
    · decide
    · next q =>
      rcases (V.2.2.2.2.1 n (by omega)).2.2.2.1 with e | e
      · exact absurd e q
      · have := e.2
        exact Nat.pow_lt_pow_right (by decide) (by omega)
section BdC
variable {Y : Ly} {h : Hp} {x s m : Nat} {c : Nat → Int32}
theorem Sh_boundFinales_s (X : CX Y h x s c) : Sh_boundFinales Y s h = some (nI (bfS c (cN c 2))) := by
  have V := X.2.2.2.2
  have l2 := VC_l2 V
  have l3 := VC_l3 V
  unfold Sh_boundFinales
  refine upl (Q := fun r => r = some (nI (bfS c (cN c 2)))) (fun F i (_ : Unit) => Sh_boundFinales_L4 Y s h F (nI (bfS c i)) (nI i)) (cN c 2) (fun _ _ => True) ?_ ?_ (cN c 2) 0 () FU (by omega) (by unfold FU; omega) trivial
  · intro F i _ hi _
    right
    refine ⟨(), ?_, trivial⟩
    show Sh_boundFinales_L4 Y s h (F + 1) (nI (bfS c i)) (nI i) = Sh_boundFinales_L4 Y s h F (nI (bfS c (i + 1))) (nI (i + 1))
    rw [Sh_boundFinales_L4, X.2.2.2.1.1.2.2.1, VC_e2 V, if_neg (nI_ge hi (by omega)), cl410 X.1 X.2.2.1, if_pos (inB_nI (by omega) (by omega)), if_pos (inB_nI (by omega) (by omega)), nI_clamp (by omega), (X.2.2.2.1.2.2.1 i hi).2.2.2.1, bfS]
    rcases (V.2.2.2.2.1 i hi).2.2.2.1 with q | q
    · rw [q]
      simp (disch := omega) only [zlit, zneg, zor, nI_add, if_true]
    · have ql := q.2
      have nm : ¬ c (100 + i) = m1 := by rw [q.1, ne_m1 (by omega)]; exact fun z => z
      rw [if_neg (show ¬ c (100 + i) = -1 from nm), if_neg nm, q.1]
      simp (disch := omega) only [zlit, zand, zone, zor, nI_add]
  · intro F _ _
    show Sh_boundFinales_L4 Y s h (F + 1) _ (nI (cN c 2)) = _
    rw [Sh_boundFinales_L4, X.2.2.2.1.1.2.2.1, VC_e2 V, if_pos (nI_le (Nat.le_refl _) (by omega))]
theorem Sh_canTake_s (X : CX Y h x s c) {b f F : Nat} (hb : b < cN c 2) (hf : f < 32) (hF : F < 2 ^ 31) : Sh_canTake Y s (nI b) (nI f) (nI F) h = some (decide (c (100 + b) = m1) && (!(bfS c (cN c 2)).testBit f && F.testBit f)) := by
  have V := X.2.2.2.2
  have l2 := VC_l2 V
  have bl := bfS_lt V (cN c 2) (Nat.le_refl _)
  unfold Sh_canTake
  rw [Sh_hasBook_s X.2.2.2.1 V, isAt_nI hb (by omega), bind_s, if_pos rfl, cl410 X.1 X.2.2.1, if_pos (inB_nI (by omega) (by omega)), nI_clamp (by omega), (X.2.2.2.1.2.2.1 b hb).2.2.2.1, Sh_boundFinales_s X, bind_s, LP_has_s (by omega) hf, bind_s, LP_has_s hF hf, bind_s]
  by_cases q : c (100 + b) = m1
  · rw [if_pos (show c (100 + b) = -1 from q)]
    cases (bfS c (cN c 2)).testBit f <;> cases F.testBit f <;> simp [q]
  · rw [if_neg (show ¬ c (100 + b) = -1 from q)]; simp [q]
theorem M_holderOf_s (X : MX Y h m c) {f : Nat} (hf : f < 2 ^ 31) : ∃ v, M_holderOf Y m (nI f) h = some v ∧ (0 ≤ v ↔ (bfS c (cN c 2)).testBit f = true) := by
  obtain ⟨S, B, V⟩ := X
  have l2 := VC_l2 V
  unfold M_holderOf
  refine upl (Q := fun r => ∃ v, r = some v ∧ (0 ≤ v ↔ (bfS c (cN c 2)).testBit f = true)) (fun F i (_ : Unit) => M_holderOf_L2 Y m (nI f) h F (nI i)) (cN c 2) (fun i _ => (bfS c i).testBit f = false) ?_ ?_ (cN c 2) 0 () FU (by omega) (by unfold FU; omega) (by simp [bfS])
  · intro F i _ hi hI
    show (∃ v, M_holderOf_L2 Y m (nI f) h (F + 1) (nI i) = some v ∧ _) ∨ ∃ _ : Unit, M_holderOf_L2 Y m (nI f) h (F + 1) (nI i) = M_holderOf_L2 Y m (nI f) h F (nI (i + 1)) ∧ _
    rw [M_holderOf_L2]
    simp (disch := omega) only [zlit, nI_add, ml1220 S, inB_nI, if_true, nI_clamp, MB0 B, VC_e2 V, nI_leI]
    rw [if_neg (by omega)]
    by_cases q : c (100 + i) = nI f
    · left
      rw [if_pos q]
      refine ⟨nI i, rfl, ?_⟩
      have hb : (bfS c (cN c 2)).testBit f = true := (bfS_bit c f _).mpr ⟨i, hi, by rw [q, ne_eq, ne_m1 hf]; simp, by unfold cN; rw [q, nI_clamp hf]⟩
      simp only [hb, iff_true]
      exact nI_pos' (by omega)
    · right
      rw [if_neg q]
      refine ⟨(), rfl, ?_⟩
      cases hb : (bfS c (i + 1)).testBit f with
      | false => rfl
      | true =>
        obtain ⟨b, h1, h2, h3⟩ := (bfS_bit c f _).mp hb
        by_cases e : b = i
        · subst e
          rcases (V.2.2.2.2.1 b hi).2.2.2.1 with w | w
          · exact absurd w h2
          · exact absurd (by rw [w.1, h3]) q
        · have := (bfS_bit c f i).mpr ⟨b, by omega, h2, h3⟩
          rw [hI] at this
          cases this
  · intro F _ hI
    show ∃ v, M_holderOf_L2 Y m (nI f) h (F + 1) (nI (cN c 2)) = some v ∧ _
    rw [M_holderOf_L2]
    simp (disch := omega) only [zlit, ml1220 S, inB_nI, if_true, nI_clamp, MB0 B, VC_e2 V, nI_leI]
    rw [if_pos (by omega)]
    refine ⟨_, rfl, ?_⟩
    rw [hI]
    simp
    decide
theorem M_binds_s (X : MX Y h m c) {b f : Nat} (hb : b < cN c 2) (hf : f < cN c 3) : M_binds Y m (nI b) (nI f) h = some (if (decide (c (100 + b) = m1) && (!(bfS c (cN c 2)).testBit f && (fitS c (cN c 9) b).testBit f)) = true then (true, hTi h (hGr h 1220 m) (100 + b) (nI f)) else (false, h)) := by
  have V := X.2.2
  have S := X.1
  have B := X.2.1
  have l2 := VC_l2 V
  have l3 := VC_l3 V
  obtain ⟨v, e1, e2⟩ := M_holderOf_s X (f := f) (by omega)
  unfold M_binds
  have ef : (fitS c (cN c 9) b).testBit f = fitB c (cN c 9) b f := by rw [fitS, mk_bit]; simp [hf]
  rw [show (100 : Int32) + nI b = nI (100 + b) from nI_add 100 b, ml1220 S, if_pos (inB_nI (by omega) (by omega)), if_pos (inB_nI (by omega) (by omega)), nI_clamp (by omega), MB0 B (by omega), e1, bind_s, M_isFit_s X hb hf, bind_s, letH_e, ef]
  by_cases q : c (100 + b) = m1
  · rw [if_neg (fun z => (numI_0 (bd_ok V hb)).mp z q)]
    by_cases q2 : (bfS c (cN c 2)).testBit f = true
    · rw [if_pos (e2.mpr q2)]; simp [q2]
    · rw [if_neg (fun z => q2 (e2.mp z))]
      cases fitB c (cN c 9) b f <;> simp [q, q2]
  · rw [if_pos ((numI_0 (bd_ok V hb)).mpr q)]; simp [q]
end BdC
section JB
variable {Yc Ym : Ly} {hc hm : Hp} {x m : Nat} {kw : Nat → Int64}
theorem b2i_eq (a b : Bool) : (b2i a = b2i b) ↔ a = b := by cases a <;> cases b <;> decide
theorem so_close (J : JJ Yc Ym hc x hm m kw) (s : Int32) (is : Bool) : SO Yc Ym x m kw (LP_close Yc x s is hc) (M_close Ym m s is hm) := by
  obtain ⟨g, RC, RM, V⟩ := J
  have X := RC.ct V
  have X0 := mX0 (RM.mx V)
  have Vb := X0.2.2
  have l0 := VC_l0 Vb
  have p0 := pow_le8 l0
  have l8 := Vb.2.1.1.2
  unfold LP_close M_close
  simp only [letH_e]
  rw [St_hasState_s X.2.2.2.1 Vb, bind_s, show hSi (hSi hm 1201 m 0) 1200 m 0 = mst hm m from rfl, M_isStateAt_s X0.1 X0.2.1 Vb, bind_s]
  rcases isAt_cases s (n := cN (sC g 0) 0) (by omega) with q | ⟨i, hi, rfl, q⟩
  · rw [q]; exact SO_q RC RM V (CQ_ref (Cf_rf Yc hc)) (mQ_no mst_f)
  · have e8 : hAi (mst hm m) (hGr (mst hm m) 1220 m) (Int32.toNatClampNeg 8) = nI (cN (sC g 0) 8) := by rw [← Vb.2.1.1.1]; exact MB0 X0.2.1 (i := 8) (by omega)
    have i8 : inB 8 2880 = true := by decide
    have hF : isF (sC g 0) (nI i) = (cN (sC g 0) 8).testBit i := by
      unfold isF
      simp (disch := omega) only [ne_m1, if_false, nI_clamp]
    have sh : (1 : Int32) <<< (nI i &&& 31) = nI (2 ^ i) := by
      have := zone (k := i) (by omega)
      simp only [zlit, zand]
      exact this
    rw [q, if_pos rfl, if_pos rfl, St_isFinal_s X (Or.inr ⟨i, hi, rfl⟩), bind_s, ml1220 X0.1, if_pos i8, if_pos i8, if_pos i8, e8, M_has_s (by omega) (by omega), bind_s, hF, X.2.2.2.1.1.2.2.2.2.2.2.2.2.1, Vb.2.1.1.1, sh, zxor]
    by_cases z : (cN (sC g 0) 8).testBit i = is
    · rw [if_pos ((b2i_eq _ _).mpr z), if_pos ((b2i_eq _ _).mpr z)]
      exact SO_q RC RM V (CQ_ref (Cf_rf Yc hc)) (mQ_no mst_f)
    · rw [if_neg (fun w => z ((b2i_eq _ _).mp w)), if_neg (fun w => z ((b2i_eq _ _).mp w))]
      refine SO_fld (k0 := 8) (f0 := 606) (c' := upd (sC g 0) 8 (nI (cN (sC g 0) 8 ^^^ 2 ^ i))) (h2 := mst hm m) RC RM V updh ?_ mst_f mst_0 (Or.inl ⟨rfl, rfl, rfl⟩) (by rw [pk_us]; rfl) (by rw [pk_us]; rfl)
      refine VB_set (k0 := 8) (by unfold mayK; omega) updh Vb (fun e => nB_us (Nat.xor_lt_two_pow l8 (Nat.pow_lt_pow_right (by decide) hi)) (by omega)) (fun e => by omega) (fun t' ht' e => by omega) (fun s' t' h1 h2 e => by omega) (fun b hb e => by omega)
theorem so_call (J : JJ Yc Ym hc x hm m kw) (r : Int32) (is : Bool) : SO Yc Ym x m kw (LP_call Yc x r is hc) (M_call Ym m r is hm) := by
  obtain ⟨g, RC, RM, V⟩ := J
  have X := RC.ct V
  have X0 := mX0 (RM.mx V)
  have Vb := X0.2.2
  have l4 := VC_l4 Vb
  have p4 := pow_le6 l4
  have l9 := Vb.2.1.2.2
  have e4 : hAi (mst hm m) (hGr (mst hm m) 1220 m) (Int32.toNatClampNeg 4) = nI (cN (sC g 0) 4) := by rw [← VC_e4 Vb]; exact MB0 X0.2.1 (i := 4) (by omega)
  have i4 : inB 4 2880 = true := by decide
  have e9 : hAi (mst hm m) (hGr (mst hm m) 1220 m) (Int32.toNatClampNeg 9) = nI (cN (sC g 0) 9) := by rw [← Vb.2.1.2.1]; exact MB0 X0.2.1 (i := 9) (by omega)
  have i9 : inB 9 2880 = true := by decide
  unfold LP_call M_call
  simp only [letH_e]
  rw [Sh_hasReader_s X.2.2.2.1 Vb, bind_s, show hSi (hSi hm 1201 m 0) 1200 m 0 = mst hm m from rfl, ml1220 X0.1, if_pos i4, e4, M_isIn_s, bind_s, isIn_at (by omega)]
  rcases isAt_cases r (n := cN (sC g 0) 4) (by omega) with q | ⟨i, hi, rfl, q⟩
  · rw [q]; exact SO_q RC RM V (CQ_ref (Cf_rf Yc hc)) (mQ_no mst_f)
  · have sh : (1 : Int32) <<< (nI i &&& 31) = nI (2 ^ i) := by
      have := zone (k := i) (by omega)
      simp only [zlit, zand]
      exact this
    rw [q, if_pos rfl, if_pos rfl, if_pos i9, if_pos i9, if_pos i9, e9, X.2.2.2.1.1.2.2.2.2.2.2.2.2.2, Vb.2.1.2.1, LP_has_s (by omega) (by omega), bind_s, M_has_s (by omega) (by omega), bind_s, sh, zxor]
    by_cases z : (cN (sC g 0) 9).testBit i = is
    · rw [if_pos ((b2i_eq _ _).mpr z), if_pos ((b2i_eq _ _).mpr z)]
      exact SO_q RC RM V (CQ_ref (Cf_rf Yc hc)) (mQ_no mst_f)
    · rw [if_neg (fun w => z ((b2i_eq _ _).mp w)), if_neg (fun w => z ((b2i_eq _ _).mp w))]
      refine SO_fld (k0 := 9) (f0 := 417) (c' := upd (sC g 0) 9 (nI (cN (sC g 0) 9 ^^^ 2 ^ i))) (h2 := mst hm m) RC RM V updh ?_ mst_f mst_0 (Or.inr ⟨rfl, rfl, rfl⟩) (by rw [pk_us]; rfl) (by rw [pk_us]; rfl)
      refine VB_set (k0 := 9) (by unfold mayK; omega) updh Vb (fun e => by omega) (fun e => nB_us (Nat.xor_lt_two_pow l9 (Nat.pow_lt_pow_right (by decide) hi)) (by omega)) (fun t' ht' e => by omega) (fun s' t' h1 h2 e => by omega) (fun b hb e => by omega)
theorem VB_bd {c : Nat → Int32} {b : Nat} {w : Int32} (V : VB c) (hb : b < cN c 2) (hw : w = m1 ∨ ∃ f, f < cN c 3 ∧ w = nI f) : VB (upd c (100 + b) w) := by
  have l1 := VC_l1 V
  have l2 := VC_l2 V
  have l3 := VC_l3 V
  refine VB_set (k0 := 100 + b) (by unfold mayK; omega) updh V (fun e => by omega) (fun e => by omega) (fun t' ht' e => by omega) (fun s' t' h1 h2 e => by omega) (fun b' hb' e => ?_)
  rw [show b' = b by omega]
  rcases hw with e | ⟨f, hf, e⟩
  · left; rw [pk_us]; exact e
  · right; rw [e]; exact nB_us hf (by omega)
theorem so_loose (J : JJ Yc Ym hc x hm m kw) (b : Int32) : SO Yc Ym x m kw (LP_loose Yc x b hc) (M_loose Ym m b hm) := by
  obtain ⟨g, RC, RM, V⟩ := J
  have X := RC.ct V
  have X0 := mX0 (RM.mx V)
  have Vb := X0.2.2
  have l2 := VC_l2 Vb
  have l3 := VC_l3 Vb
  unfold LP_loose M_loose
  simp only [letH_e]
  rw [Sh_hasBook_s X.2.2.2.1 Vb, bind_s, show hSi (hSi hm 1201 m 0) 1200 m 0 = mst hm m from rfl, M_isBookAt_s X0.1 X0.2.1 Vb, bind_s]
  rcases isAt_cases b (n := cN (sC g 0) 2) (by omega) with q | ⟨j, hj, rfl, q⟩
  · rw [q]; exact SO_q RC RM V (CQ_fail (Cf_rf Yc hc)) (mQ_r (Mg_rf _ _ _))
  · rw [q, if_pos rfl, if_pos rfl, cl410 X.1 X.2.2.1, if_pos (inB_nI (by omega) (by omega)), if_pos (inB_nI (by omega) (by omega)), nI_clamp (by omega), (X.2.2.2.1.2.2.1 j hj).2.2.2.1, show (100 : Int32) + nI j = nI (100 + j) from nI_add 100 j, ml1220 X0.1, if_pos (inB_nI (by omega) (by omega)), if_pos (inB_nI (by omega) (by omega)), nI_clamp (by omega), MB0 X0.2.1 (by omega)]
    rcases (Vb.2.2.2.2.1 j hj).2.2.2.1 with z | z
    · rw [z, ti_self hc _ _ (show _ = -1 from ((X.2.2.2.1.2.2.1 j hj).2.2.2.1).trans z), if_neg (by decide)]
      exact SO_q RC RM V (CQ_anyI (v := m1) (Cf_rf Yc hc)) (mQ_r (Mg_rf _ _ _))
    · have zl := z.2
      rw [z.1, if_pos (nI_pos' (by omega))]
      have e1 : ∀ h1 : Hp, ((LP_giveIfAny Yc x (nI (cN (sC g 0) (100 + j))) h1).bind fun q11 => some (q11.1, q11.2)) = some (nI (cN (sC g 0) (100 + j)), hSi h1 1112 x 0) := by
        intro h1
        unfold LP_giveIfAny
        rw [if_neg (show ¬ nI (cN (sC g 0) (100 + j)) = -1 by rw [zm1, ne_m1 (by omega)]; exact fun w => w)]
        rfl
      rw [e1]
      exact SO_arr (k0 := 100 + j) (i0 := j) (f0 := 410) (c' := upd (sC g 0) (100 + j) m1) (h1 := hc) (h2 := mst hm m) RC RM V updh (VB_bd Vb hj (Or.inl rfl)) (Cf_rf Yc hc) mst_f mst_0 (Or.inr (Or.inr ⟨rfl, rfl, rfl, by omega⟩)) (by rw [pk_us]; rfl) (by rw [pk_us]; rfl)
theorem so_bind (J : JJ Yc Ym hc x hm m kw) (b f : Int32) : SO Yc Ym x m kw (LP_bind Yc x b f hc) (M_bind Ym m b f hm) := by
  obtain ⟨g, RC, RM, V⟩ := J
  have X := RC.ct V
  have X0 := mX0 (RM.mx V)
  have Vb := X0.2.2
  have l2 := VC_l2 Vb
  have l3 := VC_l3 Vb
  unfold LP_bind M_bind
  simp only [letH_e]
  rw [Sh_hasBook_s X.2.2.2.1 Vb, bind_s, St_hasFinale_s X.2.2.2.1 Vb, bind_s, show hSi (hSi hm 1201 m 0) 1200 m 0 = mst hm m from rfl, M_isBookAt_s X0.1 X0.2.1 Vb, bind_s, M_isFinaleAt_s X0.1 X0.2.1 Vb, bind_s]
  rcases isAt_cases b (n := cN (sC g 0) 2) (by omega) with q | ⟨j, hj, rfl, q⟩
  · rw [q]; exact SO_q RC RM V (CQ_ref (Cf_rf Yc hc)) (mQ_no mst_f)
  · rw [q, if_pos rfl, if_pos rfl]
    rcases isAt_cases f (n := cN (sC g 0) 3) (by omega) with q2 | ⟨k, hk, rfl, q2⟩
    · rw [q2]; exact SO_q RC RM V (CQ_ref (Cf_rf Yc hc)) (mQ_no mst_f)
    · obtain ⟨h1, e1, e2⟩ := En_fittingFinales_s X X.e hj
      have c1 := Cf_Q e2
      have X1 := CT_C X c1
      have fl := fitS_lt Vb (cN (sC g 0) 9) j
      have r9 : hGr h1 1109 x = hGr hc 1109 x := e2.2.2.1 1109 x (by decide)
      rw [q2, if_pos rfl, if_pos rfl, e1, bind_s, ← r9, Sh_canTake_s X1 hj (by omega) (by omega), bind_s, M_binds_s X0 hj hk, bind_s]
      by_cases z : (decide (sC g 0 (100 + j) = m1) && (!(bfS (sC g 0) (cN (sC g 0) 2)).testBit k && (fitS (sC g 0) (cN (sC g 0) 9) j).testBit k)) = true
      · rw [if_pos z, if_pos z, if_pos rfl, cl410 X1.1 X1.2.2.1, if_pos (inB_nI (by omega) (by omega)), nI_clamp (by omega)]
        exact SO_arr (k0 := 100 + j) (i0 := j) (f0 := 410) (c' := upd (sC g 0) (100 + j) (nI k)) (h1 := h1) (h2 := mst hm m) RC RM V updh (VB_bd Vb hj (Or.inr ⟨k, hk, rfl⟩)) c1 mst_f mst_0 (Or.inr (Or.inr ⟨rfl, rfl, rfl, by omega⟩)) (by rw [pk_us]; rfl) (by rw [pk_us])
      · rw [if_neg z, if_neg z, if_neg (show ¬ (false, mst hm m).1 = true from fun w => by cases w)]
        exact SO_q RC RM V (CQ_ref c1) (v := false) (st := nI 9) ⟨hSi (mst hm m) 1200 m 9, rfl, Mf_tr mst_f Mf_0, by rw [gi_si, if_pos ⟨rfl, rfl⟩]; rfl⟩
end JB
