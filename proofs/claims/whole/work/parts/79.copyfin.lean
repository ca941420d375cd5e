/-! ===== copyFinale ===== -/
def fNum (tn : Nat → Nat → Int64) (c : Nat → Int32) (f t i : Nat) : Nat → Nat → Int64 := fun t' k => if t' = t ∧ k < i then (c (174 + 6 * f + k)).toInt64 else tn t' k
theorem fNum_0 {tn : Nat → Nat → Int64} {c : Nat → Int32} {f t : Nat} : fNum tn c f t 0 = tn := by
  funext t' k
  rw [fNum, if_neg (by omega)]
theorem fNum_s {tn : Nat → Nat → Int64} {c : Nat → Int32} {f t i : Nat} : wNum (fNum tn c f t i) t i (c (174 + 6 * f + i)).toInt64 = fNum tn c f t (i + 1) := by
  funext t' k
  rw [wNum, fNum, fNum]
  by_cases e : t' = t ∧ k = i
  · rw [if_pos e, if_pos (by omega), e.2]
  · rw [if_neg e]
    by_cases w : t' = t ∧ k < i
    · rw [if_pos w, if_pos (by omega)]
    · rw [if_neg w, if_neg (by omega)]
theorem cutV_small : ∀ s, s < 4 → ∀ v, v < 8 → cutV (nI s) (nI v).toInt64 = (nI v).toInt64 := by decide
theorem M_isTray_s {Y : Ly} {h : Hp} {m : Nat} (t : Int32) : M_isTray Y m t h = some (isAt t 4) := by
  unfold M_isTray
  rw [M_isIn_s, bind_s, ← isIn_at (x := t) (n := 4) (by omega)]
  rfl
section CF
variable {Yc Ym : Ly} {hc hm : Hp} {x m : Nat} {kw : Nat → Int64} {g : Sg}
theorem LP_copy_s (R : CR Yc hc x kw g) (V : VG g) {f t n s : Nat} (ht : t < 4) (hf : f < cN (sC g 0) 3) (hn : n ≤ 60) (hs : s < 4) (h3 : hGi hc 803 (trA hc x t) = nI n) (h2 : hGi hc 802 (trA hc x t) = nI s) (hl : cN (sC g 0) (166 + f) ≤ n) :
    ∃ hh, LP_copyFinale_L81 Yc x (nI f) (trA hc x t) (nI (cN (sC g 0) (166 + f))) FU 0 hc = some (nI (cN (sC g 0) (166 + f)), hh) ∧ CR Yc hh x kw (wSt (wTr g (sTs g) (sTm g) (fNum (sTn g) (sC g 0) f t (cN (sC g 0) (166 + f)))) (nI 0)) := by
  have X := R.ct V
  have hF := X.2.2.2.2.2.2.2.2.2.1 f hf
  have l1 := VC_l1 X.2.2.2.2
  have l166 := hF.1.1.2
  have key := upl (Q := fun r => ∃ hh, r = some (nI (cN (sC g 0) (166 + f)), hh) ∧ CR Yc hh x kw (wSt (wTr g (sTs g) (sTm g) (fNum (sTn g) (sC g 0) f t (cN (sC g 0) (166 + f)))) (nI 0)))
    (fun F i gg => LP_copyFinale_L81 Yc x (nI f) (trA hc x t) (nI (cN (sC g 0) (166 + f))) F (nI i) (hWl hc (hGr hc 800 (trA hc x t)) gg)) (cN (sC g 0) (166 + f))
    (fun i gg => CR Yc (hWl hc (hGr hc 800 (trA hc x t)) gg) x kw (wTr g (sTs g) (sTm g) (fNum (sTn g) (sC g 0) f t i))) ?_ ?_ (cN (sC g 0) (166 + f)) 0 (hAl hc (hGr hc 800 (trA hc x t))) FU (by omega) (by unfold FU; omega) (by rw [wl_self, fNum_0]; exact R)
  · simp only [wl_self] at key
    exact key
  · intro F i gg hi hI
    right
    show ∃ s', LP_copyFinale_L81 Yc x (nI f) (trA hc x t) (nI (cN (sC g 0) (166 + f))) (F + 1) (nI i) _ = LP_copyFinale_L81 Yc x (nI f) (trA hc x t) (nI (cN (sC g 0) (166 + f))) F (nI (i + 1)) (hWl _ _ s') ∧ _
    have X' := hI.ct V
    have o8 := hI.o8 ht
    have tA : trA (hWl hc (hGr hc 800 (trA hc x t)) gg) x t = trA hc x t := rfl
    rw [tA] at o8
    have e1 := St_turnInFinale_s X' (f := f) (k := i) hf (by omega)
    rw [show sC (wTr g (sTs g) (sTm g) (fNum (sTn g) (sC g 0) f t i)) = sC g from rfl, if_pos hi, ← (hF.2 i hi).1] at e1
    have C1 := CR_num hI V (i := i) ht (sC g 0 (174 + 6 * f + i)).toInt64
    rw [tA, gr_wl, tl_wl, show sTn (wTr g (sTs g) (sTm g) (fNum (sTn g) (sC g 0) f t i)) = fNum (sTn g) (sC g 0) f t i from rfl, fNum_s] at C1
    have e2 : cutV (nI s) (sC g 0 (174 + 6 * f + i)).toInt64 = (sC g 0 (174 + 6 * f + i)).toInt64 := by
      rw [(hF.2 i hi).1]
      exact cutV_small s hs _ (by have := (hF.2 i hi).2; omega)
    rw [LP_copyFinale_L81, if_neg (nI_ge hi (by omega)), e1, bind_s]
    unfold Tr_put
    rw [show (1 : Int32) = nI 1 from rfl, Tr_hasAll_s (h := hWl hc (hGr hc 800 (trA hc x t)) gg) (n := n) (k := 1) hn h3 (by omega), bind_s, isAt_ex1 hn, isAt_nI (by omega) (by omega), if_pos rfl, Tr_cut_s (h := hWl hc (hGr hc 800 (trA hc x t)) gg) (s := nI s) h2, bind_s, e2, gr_wl, cl800 R.1 o8, if_pos (inB_nI (by omega) (by omega)), nI_clamp (by omega), letH_e, bind_s, tl_wl, nI_add]
    exact ⟨_, rfl, C1⟩
  · intro F gg hI
    show ∃ hh, LP_copyFinale_L81 Yc x (nI f) (trA hc x t) (nI (cN (sC g 0) (166 + f))) (F + 1) (nI (cN (sC g 0) (166 + f))) _ = _ ∧ _
    rw [LP_copyFinale_L81, if_pos (nI_le (Nat.le_refl _) (by omega))]
    have C2 := CR_C hI V (Cf_si (x := x) (v := 0))
    rw [gi_si, if_pos ⟨rfl, rfl⟩] at C2
    exact ⟨_, rfl, C2⟩
theorem M_copy_s (R : MR Ym hm m g) (V : VG g) {f t : Nat} (ht : t < 4) (hf : f < cN (sC g 0) 3) :
    ∃ hh, M_copyFinale_L80 Ym m (nI f) (nI t) FU 0 hm = some (nI (cN (sC g 0) (166 + f)), hh) ∧ MR Ym hh m (wTr g (sTs g) (sTm g) (fNum (sTn g) (sC g 0) f t (cN (sC g 0) (166 + f)))) := by
  have X := R.mx V
  have l3 := VC_l3 X.2.2
  have hF := X.2.2.2.2.2.2.2.1 f hf
  have l1 := VC_l1 X.2.2
  have l166 := hF.1.1.2
  have key := upl (Q := fun r => ∃ hh, r = some (nI (cN (sC g 0) (166 + f)), hh) ∧ MR Ym hh m (wTr g (sTs g) (sTm g) (fNum (sTn g) (sC g 0) f t (cN (sC g 0) (166 + f)))))
    (fun F i gg => M_copyFinale_L80 Ym m (nI f) (nI t) F (nI i) (hWl hm (hGr hm 1206 m) gg)) (cN (sC g 0) (166 + f))
    (fun i gg => MR Ym (hWl hm (hGr hm 1206 m) gg) m (wTr g (sTs g) (sTm g) (fNum (sTn g) (sC g 0) f t i))) ?_ ?_ (cN (sC g 0) (166 + f)) 0 (hAl hm (hGr hm 1206 m)) FU (by omega) (by unfold FU; omega) (by rw [wl_self, fNum_0]; exact R)
  · simp only [wl_self] at key
    exact key
  · intro F i gg hi hI
    right
    show ∃ s', M_copyFinale_L80 Ym m (nI f) (nI t) (F + 1) (nI i) _ = M_copyFinale_L80 Ym m (nI f) (nI t) F (nI (i + 1)) (hWl _ _ s') ∧ _
    have C1 := MR_num hI ht (i := i) (by omega) (sC g 0 (174 + 6 * f + i)).toInt64
    rw [gr_wl, tl_wl, show sTn (wTr g (sTs g) (sTm g) (fNum (sTn g) (sC g 0) f t i)) = fNum (sTn g) (sC g 0) f t i from rfl, fNum_s] at C1
    rw [M_copyFinale_L80, show (166 : Int32) + nI f = nI (166 + f) by simp only [zlit, nI_add], show (174 : Int32) + 6 * nI f + nI i = nI (174 + 6 * f + i) by simp only [zlit, pk_mul, nI_add], show (60 : Int32) * nI t + nI i = nI (60 * t + i) by simp only [zlit, pk_mul, nI_add], gr_wl, gr_wl, ml1220 R.1, ml1206 R.1, if_pos (inB_nI (by omega) (by omega)), nI_clamp (by omega), nI_clamp (by omega), nI_clamp (by omega), ai_wl, ai_wl, MB0 X.2.1 (by omega), MB0 X.2.1 (by omega), hF.1.1.1, if_neg (nI_ge hi (by omega)), if_pos (inB_nI (by omega) (by omega)), if_pos (inB_nI (by omega) (by omega)), letH_e, tl_wl, nI_1]
    exact ⟨_, rfl, C1⟩
  · intro F gg hI
    show ∃ hh, M_copyFinale_L80 Ym m (nI f) (nI t) (F + 1) (nI (cN (sC g 0) (166 + f))) _ = _ ∧ _
    rw [M_copyFinale_L80, show (166 : Int32) + nI f = nI (166 + f) by simp only [zlit, nI_add], gr_wl, ml1220 R.1, if_pos (inB_nI (by omega) (by omega)), nI_clamp (by omega), ai_wl, MB0 X.2.1 (by omega), if_pos (show sC g 0 (166 + f) ≤ nI (cN (sC g 0) (166 + f)) by rw [hF.1.1.1]; exact nI_le (Nat.le_refl _) (by omega)), if_pos (inB_nI (by omega) (by omega))]
    exact ⟨_, by rw [← hF.1.1.1], hI⟩
theorem so_copyFinale (J : JJ Yc Ym hc x hm m kw) (f t : Int32) : SO Yc Ym x m kw (LP_copyFinale Yc x f t hc) (M_copyFinale Ym m f t hm) := by
  obtain ⟨g, RC, RM, V⟩ := J
  have R0 := MR_M RM (mst_f (Y := Ym) (h := hm) (m := m))
  rw [mst_0] at R0
  have X := RC.ct V
  have X0 := R0.mx V
  have l3 := VC_l3 X.2.2.2.2
  unfold LP_copyFinale M_copyFinale
  simp only [letH_e]
  rw [LP_trayAt_s RC, bind_s, show hSi (hSi hm 1201 m 0) 1200 m 0 = mst hm m from rfl, M_isTray_s, bind_s]
  have rf : ∀ k : Int32, SO Yc Ym x m kw ((LP_fail Yc x k hc).bind fun q5 => some (q5.1, q5.2)) ((M_refuse Ym m k (mst hm m)).bind fun q => some (q.1, q.2)) := fun k => SO_q RC RM V (CQ_fail (Cf_rf Yc hc)) (mQ_ref mst_f)
  rcases isAt_cases t (n := 4) (by omega) with q | ⟨j, hj, rfl, q⟩
  · rw [q]; exact rf 1
  rw [q, if_pos rfl, if_pos rfl, nI_clamp (by omega)]
  simp only
  rw [St_hasFinale_s X.2.2.2.1 X.2.2.2.2, bind_s, M_isFinaleAt_s X0.1 X0.2.1 X0.2.2, bind_s, show sC (wSt g (nI 0)) = sC g from rfl]
  rcases isAt_cases f (n := cN (sC g 0) 3) (by omega) with q2 | ⟨i, hi, rfl, q2⟩
  · rw [q2]; exact rf 2
  have hF := X.2.2.2.2.2.2.2.2.2.1 i hi
  have l166 := hF.1.1.2
  have hs6 := X.2.1.1 400 6 rfl _ X.2.2.1
  have rF := X.2.2.2.1.2.1.2.2 i hi
  rw [q2, if_pos rfl, if_pos rfl, show (166 : Int32) + nI i = nI (166 + i) by simp only [zlit, nI_add], ml1205 R0.1, ml1220 R0.1, cl602 X.1 hs6, if_pos (inB_nI (by omega) (by omega)), if_pos (inB_nI (by omega) (by omega)), if_pos (inB_nI (by omega) (by omega)), if_pos (inB_nI (by omega) (by omega)), (R0.2.2.2.1 j hj).2.1, nI_clamp (by omega), nI_clamp (by omega), MB0 X0.2.1 (by omega), rF.1, show sC (wSt g (nI 0)) = sC g from rfl, show sTm (wSt g (nI 0)) = sTm g from rfl, hF.1.1.1]
  rcases tr_cases RC hj with ⟨a1, a2⟩ | ⟨n, s, a1, a2, a3, a4, a5, a6, a7, a8⟩
  · rw [a1, a2, if_neg (show ¬ (0 : Int32) ≤ m1 by decide), if_neg (show ¬ false = true by decide)]; exact rf 3
  rw [a3, a5, a6, if_pos rfl, if_pos (nI_pos' (by omega))]
  by_cases e : cN (sC g 0) (166 + i) ≤ n
  · have le := nI_le e (show n < 2 ^ 31 by omega)
    rw [if_pos le, if_pos le]
    obtain ⟨h1, C1, C2⟩ := LP_copy_s RC V hj hi a1 a2 a6 a7 e
    obtain ⟨h2, M1, M2⟩ := M_copy_s R0 V hj hi
    rw [C1, show M_copyFinale_L80 Ym m (nI i) (nI j) FU 0 (mst hm m) = _ from M1]
    exact ⟨_, _, _, rfl, rfl, _, C2, M2, V⟩
  · have le : ¬ nI (cN (sC g 0) (166 + i)) ≤ nI n := by rw [nI_leI (by omega) (by omega)]; exact e
    rw [if_neg le, if_neg le]; exact rf 4
end CF
