/-! ===== strange, close, lead, call, loose ===== -/
theorem RC_hc {h : Hp} {s k0 : Nat} {c c' : Nat → Int32} (hk : 10 ≤ k0) (hc : ∀ i, i ≠ k0 → c' i = c i) (R : RC h s c) : RC h s c' := by
  unfold RC at R ⊢
  rw [hc 0 (by omega), hc 1 (by omega), hc 2 (by omega), hc 3 (by omega), hc 4 (by omega), hc 5 (by omega), hc 6 (by omega), hc 7 (by omega), hc 8 (by omega), hc 9 (by omega)]
  exact R
theorem RS_arr {Y : Ly} {h : Hp} {x s f0 o0 i0 k0 : Nat} {c c' : Nat → Int32} (X : CX Y h x s c) (hc : ∀ i, i ≠ k0 → c' i = c i)
    (hf : (f0 = 600 ∧ o0 = hGr h 400 s ∧ k0 = 10 + i0 ∧ i0 < 8) ∨ (f0 = 601 ∧ o0 = hGr h 400 s ∧ k0 = 18 + i0 ∧ i0 < 64) ∨ (f0 = 410 ∧ o0 = s ∧ k0 = 100 + i0 ∧ i0 < 6)) : RS (hWi h (hGr h f0 o0) (upd (hAi h (hGr h f0 o0)) i0 (c' k0))) s c' ∧ mayK k0 := by
  have o4 := X.2.2.1
  have o6 := X.2.1.1 400 6 rfl s o4
  have o1 := X.2.1.1 401 3 rfl s o4
  have o2 := X.2.1.1 402 3 rfl s o4
  have hk : mayK k0 := by unfold mayK; omega
  have of : cArr f0 = true ∧ isO Y (f0 / 100) o0 := by
    rcases hf with ⟨e1, e2, _⟩ | ⟨e1, e2, _⟩ | ⟨e1, e2, _⟩ <;> subst e1 <;> subst e2
    · exact ⟨rfl, o6⟩
    · exact ⟨rfl, o6⟩
    · exact ⟨rfl, o4⟩
  have ne : ∀ f o i, cArr f = true → isO Y (f / 100) o → f ≠ f0 → hAi (hWi h (hGr h f0 o0) (upd (hAi h (hGr h f0 o0)) i0 (c' k0))) (hGr h f o) i = hAi h (hGr h f o) i := by
    intro f o i h1 h2 h3
    rw [ai_wi, if_neg]
    intro z
    exact h3 (X.1.2.2.2.1 f f0 o o0 h1 of.1 h2 of.2 z).1
  have eq : ∀ i, hAi (hWi h (hGr h f0 o0) (upd (hAi h (hGr h f0 o0)) i0 (c' k0))) (hGr h f0 o0) i = if i = i0 then c' k0 else hAi h (hGr h f0 o0) i := by
    intro i
    rw [ai_wi, if_pos rfl, upd]
  have rc : RC (hWi h (hGr h f0 o0) (upd (hAi h (hGr h f0 o0)) i0 (c' k0))) s c' := RC_hc (h := h) (by omega) hc X.2.2.2.1.1
  refine ⟨RS_set hk hc X.2.2.2.2 X.2.2.2.1 (fun _ _ _ => rfl) rc (fun t ht => ?_) (fun i hi => ?_) (fun i => ne 602 _ i rfl o6 (by omega)) (fun i => ne 603 _ i rfl o6 (by omega)) (fun b hb => ?_) (fun f i h1 h2 h3 => ?_) (fun f i h1 h2 => ?_), hk⟩
  · rcases hf with ⟨e1, e2, e3, e4⟩ | ⟨e1, e2, e3, e4⟩ | ⟨e1, e2, e3, e4⟩
    · rw [← e1, ← e2, eq]
      by_cases z : t = i0
      · rw [if_pos z, if_pos (by omega)]
      · rw [if_neg z, if_neg (by omega)]
    · rw [ne 600 _ t rfl o6 (by omega), if_neg (by omega)]
    · rw [ne 600 _ t rfl o6 (by omega), if_neg (by omega)]
  · rcases hf with ⟨e1, e2, e3, e4⟩ | ⟨e1, e2, e3, e4⟩ | ⟨e1, e2, e3, e4⟩
    · rw [ne 601 _ i rfl o6 (by omega), if_neg (by omega)]
    · rw [← e1, ← e2, eq]
      by_cases z : i = i0
      · rw [if_pos z, if_pos (by omega)]
      · rw [if_neg z, if_neg (by omega)]
    · rw [ne 601 _ i rfl o6 (by omega), if_neg (by omega)]
  · rcases hf with ⟨e1, e2, e3, e4⟩ | ⟨e1, e2, e3, e4⟩ | ⟨e1, e2, e3, e4⟩
    · rw [ne 410 _ b rfl o4 (by omega), if_neg (by omega)]
    · rw [ne 410 _ b rfl o4 (by omega), if_neg (by omega)]
    · rw [← e1, ← e2, eq]
      by_cases z : b = i0
      · rw [if_pos z, if_pos (by omega)]
      · rw [if_neg z, if_neg (by omega)]
  · have cf : cArr f = true := by
      rcases (show f = 406 ∨ f = 407 ∨ f = 408 ∨ f = 409 ∨ f = 410 ∨ f = 411 ∨ f = 412 by omega) with e | e | e | e | e | e | e <;> (subst e; rfl)
    exact ne f _ i cf (by rw [show f / 100 = 4 by omega]; exact o4) (by omega)
  · rcases (show f = 300 ∨ f = 301 by omega) with e | e <;> subst e
    · exact ⟨ne 300 _ i rfl o1 (by omega), ne 300 _ i rfl o2 (by omega)⟩
    · exact ⟨ne 301 _ i rfl o1 (by omega), ne 301 _ i rfl o2 (by omega)⟩
theorem RS_fld {Y : Ly} {h : Hp} {x s f0 o0 k0 : Nat} {c c' : Nat → Int32} (X : CX Y h x s c) (hc : ∀ i, i ≠ k0 → c' i = c i)
    (hf : (f0 = 606 ∧ o0 = hGr h 400 s ∧ k0 = 8) ∨ (f0 = 417 ∧ o0 = s ∧ k0 = 9)) : RS (hSi h f0 o0 (c' k0)) s c' ∧ mayK k0 := by
  have hk : mayK k0 := by unfold mayK; omega
  have R := X.2.2.2.1
  refine ⟨RS_set (h := h) hk hc X.2.2.2.2 R (fun _ _ _ => rfl) ?_ (fun t ht => ?_) (fun i hi => ?_) (fun i => rfl) (fun i => rfl) (fun b hb => ?_) (fun f i h1 h2 h3 => rfl) (fun f i h1 h2 => ⟨rfl, rfl⟩), hk⟩
  · have r := R.1
    unfold RC at r ⊢
    simp only [gr_si]
    rw [gi_si, if_neg (by omega), gi_si, if_neg (by omega), gi_si, if_neg (by omega), gi_si, if_neg (by omega), gi_si, if_neg (by omega), gi_si, if_neg (by omega), gi_si, if_neg (by omega), gi_si, if_neg (by omega), gi_si, gi_si, hc 0 (by omega), hc 1 (by omega), hc 2 (by omega), hc 3 (by omega), hc 4 (by omega), hc 5 (by omega), hc 6 (by omega), hc 7 (by omega)]
    rcases hf with ⟨e1, e2, e3⟩ | ⟨e1, e2, e3⟩
    · rw [if_pos ⟨e1.symm, e2.symm⟩, if_neg (by omega), hc 9 (by omega), e3]
      exact ⟨r.1, r.2.1, r.2.2.1, r.2.2.2.1, r.2.2.2.2.1, r.2.2.2.2.2.1, r.2.2.2.2.2.2.1, r.2.2.2.2.2.2.2.1, rfl, r.2.2.2.2.2.2.2.2.2⟩
    · rw [if_neg (by omega), if_pos ⟨e1.symm, e2.symm⟩, hc 8 (by omega), e3]
      exact ⟨r.1, r.2.1, r.2.2.1, r.2.2.2.1, r.2.2.2.2.1, r.2.2.2.2.2.1, r.2.2.2.2.2.2.1, r.2.2.2.2.2.2.2.1, r.2.2.2.2.2.2.2.2.1, rfl⟩
  · rw [if_neg (by omega)]; rfl
  · rw [if_neg (by omega)]; rfl
  · rw [if_neg (by omega)]; rfl
section JC
variable {Yc Ym : Ly} {hc hm : Hp} {x m : Nat} {kw : Nat → Int64}
theorem SO_arr {α : Type} {g : Sg} {rc rm : Option (α × Hp)} {v : α} {h1 h2 : Hp} {f0 o0 i0 k0 : Nat} {c' : Nat → Int32} (RC : CR Yc hc x kw g) (RM : MR Ym hm m g) (V : VG g) (hh : ∀ i, i ≠ k0 → c' i = sC g 0 i) (V' : VB c') (c1 : Cf Yc hc h1) (m2 : Mf Ym m hm h2) (s2 : hGi h2 1200 m = nI 0)
    (hf : (f0 = 600 ∧ o0 = hGr h1 400 (hGr h1 1109 x) ∧ k0 = 10 + i0 ∧ i0 < 8) ∨ (f0 = 601 ∧ o0 = hGr h1 400 (hGr h1 1109 x) ∧ k0 = 18 + i0 ∧ i0 < 64) ∨ (f0 = 410 ∧ o0 = hGr h1 1109 x ∧ k0 = 100 + i0 ∧ i0 < 6))
    (e1 : rc = some (v, hSi (hTi h1 (hGr h1 f0 o0) i0 (c' k0)) 1112 x 0)) (e2 : rm = some (v, hTi h2 (hGr h2 1220 m) k0 (c' k0))) : SO Yc Ym x m kw rc rm := by
  have R1 := CR_C RC V c1
  have X1 := R1.ct V
  obtain ⟨rs, hk⟩ := RS_arr (f0 := f0) (o0 := o0) X1 hh hf
  have R2 := CR_arr R1 V hk hh (hf.elim (fun z => Or.inl ⟨Or.inl z.1, z.2.1⟩) (fun z => z.elim (fun z => Or.inl ⟨Or.inr z.1, z.2.1⟩) (fun z => Or.inr ⟨z.1, z.2.1⟩))) rs
  have V2 : VG (wC0 g c') := VG_c0 V hk hh V'
  have R3 := CR_C R2 V2 (Cf_si (x := x) (v := 0))
  rw [gi_si, if_pos ⟨rfl, rfl⟩] at R3
  have M1 := MR_M RM m2
  rw [s2] at M1
  have M2 := MR_cell (c' := c') M1 hk hh
  refine ⟨v, _, _, e1, e2, wSt (wC0 g c') (nI 0), ?_, M2, V2⟩
  rw [ti_w]
  exact R3
theorem SO_fld {α : Type} {g : Sg} {rc rm : Option (α × Hp)} {v : α} {h2 : Hp} {f0 o0 k0 : Nat} {c' : Nat → Int32} (RC : CR Yc hc x kw g) (RM : MR Ym hm m g) (V : VG g) (hh : ∀ i, i ≠ k0 → c' i = sC g 0 i) (V' : VB c') (m2 : Mf Ym m hm h2) (s2 : hGi h2 1200 m = nI 0)
    (hf : (f0 = 606 ∧ o0 = hGr hc 400 (hGr hc 1109 x) ∧ k0 = 8) ∨ (f0 = 417 ∧ o0 = hGr hc 1109 x ∧ k0 = 9))
    (e1 : rc = some (v, hSi (hSi hc f0 o0 (c' k0)) 1112 x 0)) (e2 : rm = some (v, hTi h2 (hGr h2 1220 m) k0 (c' k0))) : SO Yc Ym x m kw rc rm := by
  have X1 := RC.ct V
  obtain ⟨rs, hk⟩ := RS_fld (f0 := f0) (o0 := o0) X1 hh hf
  have R2 := CR_fld RC V hk hh (hf.elim (fun z => Or.inl ⟨z.1, z.2.1⟩) (fun z => Or.inr ⟨z.1, z.2.1⟩)) rs
  have V2 : VG (wC0 g c') := VG_c0 V hk hh V'
  have R3 := CR_C R2 V2 (Cf_si (x := x) (v := 0))
  rw [gi_si, if_pos ⟨rfl, rfl⟩] at R3
  have M1 := MR_M RM m2
  rw [s2] at M1
  have M2 := MR_cell (c' := c') M1 hk hh
  exact ⟨v, _, _, e1, e2, wSt (wC0 g c') (nI 0), R3, M2, V2⟩
theorem updh {c : Nat → Int32} {k : Nat} {v : Int32} : ∀ i, i ≠ k → upd c k v i = c i := fun _ h => pk_un h
theorem cN_us {c : Nat → Int32} {k n : Nat} (hn : n < 2 ^ 31) : cN (upd c k (nI n)) k = n := by unfold cN; rw [pk_us, nI_clamp hn]
theorem nB_us {c : Nat → Int32} {k n M : Nat} (hn : n < M) (hM : M ≤ 2 ^ 31) : nB (upd c k (nI n)) k M := ⟨by rw [pk_us, cN_us (by omega)], by rw [cN_us (by omega)]; exact hn⟩
theorem so_strange (J : JJ Yc Ym hc x hm m kw) (t o : Int32) : SO Yc Ym x m kw (LP_strange Yc x t o hc) (M_strange Ym m t o hm) := by
  obtain ⟨g, RC, RM, V⟩ := J
  have X := RC.ct V
  have X0 := mX0 (RM.mx V)
  have Vb := X0.2.2
  have l1 := VC_l1 Vb
  unfold LP_strange M_strange
  simp only [letH_e]
  rw [St_hasTurn_s X.2.2.2.1 Vb, bind_s, show hSi (hSi hm 1201 m 0) 1200 m 0 = mst hm m from rfl, M_isTurnAt_s X0.1 X0.2.1 Vb, bind_s, M_isIn_s, bind_s, isIn_c (n := 10) (by omega) (by decide)]
  rcases isAt_cases t (n := cN (sC g 0) 1) (by omega) with q | ⟨k, hk, rfl, q⟩
  · rw [q]; exact SO_q RC RM V (CQ_ref (Cf_rf Yc hc)) (mQ_no mst_f)
  · rw [q, if_pos rfl, if_pos rfl]
    rcases isAt_cases o (n := 10) (by omega) with q2 | ⟨j, hj, rfl, q2⟩
    · rw [q2]
      have hn : (if o < 0 then (LP_refuse Yc x 5 hc).bind fun q6 => some (q6.1, q6.2) else if o ≤ 9 then (if inB (nI k) (lnY Yc (hGr hc 600 (hGr hc 400 (hGr hc 1109 x)))) = true then (LP_agree Yc x (hTi hc (hGr hc 600 (hGr hc 400 (hGr hc 1109 x))) (Int32.toNatClampNeg (nI k)) o)).bind fun q13 => some (q13.1, q13.2) else none) else (LP_refuse Yc x 5 hc).bind fun q14 => some (q14.1, q14.2)) = (LP_refuse Yc x 5 hc).bind fun q6 => some (q6.1, q6.2) := by
        by_cases e1 : o < 0
        · rw [if_pos e1]
        · have := isAt_neg (by omega) q2 e1
          rw [if_neg e1, if_neg]
          intro z
          have z' : o ≤ nI 9 := z
          rw [Int32.le_iff_toInt_le, nI_toInt (by omega)] at z'
          rw [Int32.le_iff_toInt_le, nI_toInt (by omega)] at this
          omega
      rw [hn]
      exact SO_q RC RM V (CQ_ref (Cf_rf Yc hc)) (mQ_no mst_f)
    · have o6 := X.2.1.1 400 6 rfl _ X.2.2.1
      rw [q2, if_pos rfl, if_neg (nI_pos (by omega)), if_pos (show nI j ≤ 9 from nI_le (b := 9) (by omega) (by omega)), cl600 X.1 o6, if_pos (inB_nI (by omega) (by omega)), nI_clamp (by omega), show (10 : Int32) + nI k = nI (10 + k) from nI_add 10 k, ml1220 X0.1, if_pos (inB_nI (by omega) (by omega)), nI_clamp (by omega)]
      refine SO_arr (k0 := 10 + k) (i0 := k) (f0 := 600) (c' := upd (sC g 0) (10 + k) (nI j)) (h1 := hc) (h2 := mst hm m) RC RM V updh ?_ (Cf_rf Yc hc) mst_f mst_0 (Or.inl ⟨rfl, rfl, rfl, by omega⟩) (by rw [pk_us]; rfl) (by rw [pk_us])
      exact VB_set (k0 := 10 + k) (by unfold mayK; omega) updh Vb (fun e => by omega) (fun e => by omega) (fun t' ht' e => by rw [show t' = k by omega]; exact nB_us hj (by omega)) (fun s t' h1 h2 e => by omega) (fun b hb e => by omega)
theorem so_lead (J : JJ Yc Ym hc x hm m kw) (s t o : Int32) : SO Yc Ym x m kw (LP_lead Yc x s t o hc) (M_lead Ym m s t o hm) := by
  obtain ⟨g, RC, RM, V⟩ := J
  have X := RC.ct V
  have X0 := mX0 (RM.mx V)
  have Vb := X0.2.2
  have l0 := VC_l0 Vb
  have l1 := VC_l1 Vb
  have o6 := X.2.1.1 400 6 rfl _ X.2.2.1
  unfold LP_lead M_lead
  simp only [letH_e]
  rw [St_hasState_s X.2.2.2.1 Vb, bind_s, St_hasTurn_s X.2.2.2.1 Vb, bind_s, St_hasState_s X.2.2.2.1 Vb, bind_s, show hSi (hSi hm 1201 m 0) 1200 m 0 = mst hm m from rfl, M_isStateAt_s X0.1 X0.2.1 Vb, bind_s, M_isTurnAt_s X0.1 X0.2.1 Vb, bind_s, M_isStateAt_s X0.1 X0.2.1 Vb, bind_s]
  rcases isAt_cases s (n := cN (sC g 0) 0) (by omega) with q | ⟨i, hi, rfl, q⟩
  · rw [q]; exact SO_q RC RM V (CQ_ref (Cf_rf Yc hc)) (mQ_no mst_f)
  · rw [q, if_pos rfl, if_pos rfl]
    rcases isAt_cases t (n := cN (sC g 0) 1) (by omega) with q2 | ⟨k, hk, rfl, q2⟩
    · rw [q2]; exact SO_q RC RM V (CQ_ref (Cf_rf Yc hc)) (mQ_no mst_f)
    · rw [q2, if_pos rfl, if_pos rfl]
      have fin : ∀ w : Int32, w = o → (w = m1 ∨ ∃ j, j < cN (sC g 0) 0 ∧ w = nI j) → SO Yc Ym x m kw ((St_setRule Yc (hGr hc 400 (hGr hc 1109 x)) (nI i) (nI k) o hc).bind fun q8 => (LP_agree Yc x q8).bind fun q9 => some (q9.1, q9.2)) (M_lead_J45 Ym m (nI i) (nI k) o (mst hm m)) := by
        intro w hw hv
        subst hw
        have e1 : St_setRule Yc (hGr hc 400 (hGr hc 1109 x)) (nI i) (nI k) w hc = some (hTi hc (hGr hc 601 (hGr hc 400 (hGr hc 1109 x))) (8 * i + k) w) := by
          unfold St_setRule
          rw [St_hasState_s X.2.2.2.1 Vb, bind_s, q, if_pos rfl, St_hasTurn_s X.2.2.2.1 Vb, bind_s, q2, if_pos rfl, St_hasState_s X.2.2.2.1 Vb, bind_s, show nI i * 8 + nI k = nI (8 * i + k) by simp only [zlit, pk_mul, nI_add]; rw [show i * 8 + k = 8 * i + k by omega], cl601 X.1 o6, if_pos (inB_nI (by omega) (by omega)), letH_e, nI_clamp (by omega)]
          rcases hv with e | ⟨j, hj, e⟩
          · rw [if_pos (show w = -1 from e)]
          · rw [if_neg (show ¬ w = -1 by rw [e, zm1, ne_m1 (by omega)]; exact fun z => z), e, isAt_nI hj (by omega), if_pos rfl]
        have e2 : M_lead_J45 Ym m (nI i) (nI k) w (mst hm m) = some (true, hTi (mst hm m) (hGr (mst hm m) 1220 m) (18 + (8 * i + k)) w) := by
          unfold M_lead_J45
          rw [show 18 + 8 * nI i + nI k = nI (18 + (8 * i + k)) by simp only [zlit, pk_mul, nI_add]; rw [show 18 + 8 * i + k = 18 + (8 * i + k) by omega], ml1220 X0.1, if_pos (inB_nI (by omega) (by omega)), letH_e, nI_clamp (by omega)]
        rw [e1, bind_s, e2]
        refine SO_arr (k0 := 18 + (8 * i + k)) (i0 := 8 * i + k) (f0 := 601) (c' := upd (sC g 0) (18 + (8 * i + k)) w) (h1 := hc) (h2 := mst hm m) RC RM V updh ?_ (Cf_rf Yc hc) mst_f mst_0 (Or.inr (Or.inl ⟨rfl, rfl, rfl, by omega⟩)) (by rw [pk_us]; rfl) (by rw [pk_us])
        refine VB_set (k0 := 18 + (8 * i + k)) (by unfold mayK; omega) updh Vb (fun e => by omega) (fun e => by omega) (fun t' ht' e => by omega) (fun s' t' h1 h2 e => ?_) (fun b hb e => by omega)
        have es : s' = i := by omega
        have et : t' = k := by omega
        subst es
        subst et
        rw [show 18 + 8 * s' + t' = 18 + (8 * s' + t') by omega]
        rcases hv with e | ⟨j, hj, e⟩
        · left; rw [pk_us]; exact e
        · right
          refine ⟨hi, hk, ?_⟩
          rw [e]; exact nB_us hj (by omega)
      by_cases e : o = -1
      · rw [if_pos e, if_pos e]
        exact fin o rfl (Or.inl e)
      · rw [if_neg e, if_neg e]
        rcases isAt_cases o (n := cN (sC g 0) 0) (by omega) with q3 | ⟨j, hj, e3, q3⟩
        · rw [q3]; exact SO_q RC RM V (CQ_ref (Cf_rf Yc hc)) (mQ_no mst_f)
        · rw [q3, if_pos rfl, if_pos rfl]
          exact fin o rfl (Or.inr ⟨j, hj, e3⟩)
end JC
