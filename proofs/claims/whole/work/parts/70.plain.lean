/-! ===== status, top, bottom, fault, lived, chance ===== -/
def SP {α : Type} (Yc Ym : Ly) (hc : Hp) (x m : Nat) (kw : Nat → Int64) (rc : Option α) (rm : Option (α × Hp)) : Prop := ∃ v hm, rc = some v ∧ rm = some (v, hm) ∧ JJ Yc Ym hc x hm m kw
theorem wSt_self (g : Sg) : wSt g (sSt g) = g := rfl
section JP
variable {Yc Ym : Ly} {hc hm : Hp} {x m : Nat} {kw : Nat → Int64}
theorem MR_1 {g : Sg} (RM : MR Ym hm m g) : MR Ym (hSi hm 1201 m 0) m g := by
  have := MR_M RM (Mf_1 (m := m) (a := m) (v := 0))
  rw [gi_si, if_neg (by omega), RM.2.2.2.2.2.2.1, wSt_self] at this
  exact this
theorem so_status (J : JJ Yc Ym hc x hm m kw) : SP Yc Ym hc x m kw (LP_status Yc x hc) (M_status Ym m hm) := by
  obtain ⟨g, RC, RM, V⟩ := J
  refine ⟨sSt g, _, ?_, ?_, g, RC, MR_1 RM, V⟩
  · unfold LP_status; rw [RC.2.2.2.2.2.2.1.1]
  · unfold M_status; rw [letH_e, (MR_1 RM).2.2.2.2.2.2.1]
theorem so_top (J : JJ Yc Ym hc x hm m kw) : SP Yc Ym hc x m kw (LP_top Yc x hc) (M_top Ym m hm) := by
  obtain ⟨g, RC, RM, V⟩ := J
  refine ⟨sTo g, _, ?_, ?_, g, RC, MR_1 RM, V⟩
  · unfold LP_top; rw [RC.2.2.2.2.2.2.1.2.2.2.2.1]
  · unfold M_top; rw [letH_e, (MR_1 RM).2.2.2.2.2.2.2.2.2.2.1]
theorem so_bottom (J : JJ Yc Ym hc x hm m kw) : SP Yc Ym hc x m kw (LP_bottom Yc x hc) (M_bottom Ym m hm) := by
  obtain ⟨g, RC, RM, V⟩ := J
  refine ⟨sBo g, _, ?_, ?_, g, RC, MR_1 RM, V⟩
  · unfold LP_bottom; rw [RC.2.2.2.2.2.2.1.2.2.2.2.2]
  · unfold M_bottom; rw [letH_e, (MR_1 RM).2.2.2.2.2.2.2.2.2.2.2]
theorem so_fault (J : JJ Yc Ym hc x hm m kw) (w : Int32) : SP Yc Ym hc x m kw (LP_fault Yc x w hc) (M_fault Ym m w hm) := by
  obtain ⟨g, RC, RM, V⟩ := J
  have R1 := MR_1 RM
  unfold LP_fault M_fault
  rw [letH_e, RC.2.2.2.2.2.2.1.2.1, RC.2.2.2.2.2.2.1.2.2.1, R1.2.2.2.2.2.2.2.1, R1.2.2.2.2.2.2.2.2.1]
  by_cases e0 : w = 0
  · rw [if_pos e0, if_pos e0]; exact ⟨_, _, rfl, rfl, g, RC, R1, V⟩
  · rw [if_neg e0, if_neg e0]
    by_cases e1 : w = 1
    · rw [if_pos e1, if_pos e1]; exact ⟨_, _, rfl, rfl, g, RC, R1, V⟩
    · rw [if_neg e1, if_neg e1]; exact ⟨_, _, rfl, rfl, g, RC, R1, V⟩
def lvV (o : Option (Nat → Int32)) (i : Nat) : Int32 := match o with
  | none => m1
  | some f => f i
def spLived (g : Sg) (w : Int32) : Int32 × Int32 := if isAt w 5 then anyI (lvV (sLv g) w.toNatClampNeg) else (m1, nI 5)
theorem LP_lived_q {g : Sg} (RC : CR Yc hc x kw g) (w : Int32) : CQ Yc x hc (LP_lived Yc x w hc) (spLived g w).1 (spLived g w).2 := by
  unfold LP_lived spLived
  rcases isAt_cases w (n := 5) (by omega) with q | ⟨j, hj, rfl, q⟩
  · rw [q]
    by_cases e1 : w < 0
    · rw [if_pos e1]; exact CQ_fail (Cf_rf Yc hc)
    · have := isAt_neg (by omega) q e1
      rw [if_neg e1, if_neg (show ¬ w < 5 from fun z => by
        have z' : w < nI 5 := z
        rw [Int32.lt_iff_toInt_lt] at z'; rw [Int32.le_iff_toInt_le] at this; omega)]
      exact CQ_fail (Cf_rf Yc hc)
  · rw [q, if_pos rfl, if_neg (nI_pos (by omega)), if_pos (show nI j < 5 from nI_lt (b := 5) hj (by omega)), cl1108 RC.1 RC.1.1, if_pos (inB_nI (by omega) (by omega)), nI_clamp (by omega), show hAi hc (hGr hc 1108 x) j = lvV (sLv g) j from RC.2.2.2.2.2.1 j hj]
    exact CQ_anyI (Cf_rf Yc hc)
theorem M_lived_q {g : Sg} (RM : MR Ym hm m g) (V : VG g) (w : Int32) : mQ Ym m hm (M_lived Ym m w hm) (spLived g w).1 (spLived g w).2 := by
  have R0 := MR_M RM (mst_f (Y := Ym) (h := hm) (m := m))
  unfold M_lived spLived
  simp only [letH_e]
  rw [show hSi (hSi hm 1201 m 0) 1200 m 0 = mst hm m from rfl, M_isIn_s, bind_s, isIn_c (n := 5) (by omega) (by decide)]
  rcases isAt_cases w (n := 5) (by omega) with q | ⟨j, hj, rfl, q⟩
  · rw [q]; exact mQ_r (Mg_rf _ _ _)
  · rw [q, if_pos rfl, if_pos rfl, nI_clamp (by omega), ml1234 R0.1, if_pos (inB_nI (by omega) (by omega))]
    rcases R0.2.2.2.2.2.1 with ⟨e1, e2⟩ | ⟨f, e1, e2, e3⟩
    · rw [show hGz (mst hm m) 1235 m = false by unfold hGz; rw [e2]; rfl, show sLv g = none from e1]
      exact mQ_r (Mg_rf _ _ _)
    · rw [show hGz (mst hm m) 1235 m = true by unfold hGz; rw [e2]; rfl, show sLv g = some f from e1, if_pos rfl, e3 j hj]
      have nm := (V.2.2.2.2 f e1 j hj).2
      have : anyI (lvV (some f) j) = (f j, nI 0) := by unfold anyI lvV; rw [if_neg nm]
      rw [this]
      exact mQ_e (Mg_rf _ _ _)
theorem so_lived (J : JJ Yc Ym hc x hm m kw) (w : Int32) : SO Yc Ym x m kw (LP_lived Yc x w hc) (M_lived Ym m w hm) := by
  obtain ⟨g, RC, RM, V⟩ := J
  exact SO_q RC RM V (LP_lived_q RC w) (M_lived_q RM V w)
/-- a fraction is told -/
theorem CR_fr {g : Sg} {a b : Int64} (RC : CR Yc hc x kw g) : CR Yc (hSl (hSl hc 1113 x a) 1114 x b) x kw (wFr g (a, b)) := by
  obtain ⟨r1, r2, s, t, p, l, ⟨c1, c2, c3, c4, c5, c6⟩, k⟩ := RC
  refine ⟨CS_congr r1 (fun f a _ => rfl), r2, s, t, p, l, ⟨c1, c2, c3, c4, ?_, ?_⟩, k⟩
  · rw [gl_sl, if_neg (by omega), gl_sl, if_pos ⟨rfl, rfl⟩]; rfl
  · rw [gl_sl, if_pos ⟨rfl, rfl⟩]; rfl
theorem MR_fr {g : Sg} {a b : Int64} (RM : MR Ym hm m g) : MR Ym (hSl (hSl hm 1202 m a) 1203 m b) m (wFr g (a, b)) := by
  obtain ⟨r1, r2, bb, t, p, l, c1, c2, c3, c4, c5, c6⟩ := RM
  refine ⟨MS_congr r1 (fun f => rfl), r2, bb, t, p, l, c1, c2, c3, c4, ?_, ?_⟩
  · rw [gl_sl, if_neg (by omega), gl_sl, if_pos ⟨rfl, rfl⟩]; rfl
  · rw [gl_sl, if_pos ⟨rfl, rfl⟩]; rfl
theorem SO_f {g : Sg} {rc rm : Option (Bool × Hp)} {v : Bool} {st : Int32} {fr : Option (Int64 × Int64)} (RC : CR Yc hc x kw g) (RM : MR Ym hm m g) (V : VG g) (qc : CQF Yc x hc rc v st fr) (qm : mQF Ym m hm rm v st fr) : SO Yc Ym x m kw rc rm := by
  cases fr with
  | none => exact SO_q RC RM V qc qm
  | some q =>
    obtain ⟨h1, e1, c1⟩ := qc
    obtain ⟨h2, e2, c2, s2⟩ := qm
    refine ⟨v, _, _, e1, e2, wFr (wSt g st) q, ?_, ?_, V⟩
    · have a1 := CR_C RC V c1
      have a2 := CR_fr (a := q.1) (b := q.2) a1
      have a3 := CR_C a2 V (Cf_si (x := x) (v := st))
      rw [gi_si, if_pos ⟨rfl, rfl⟩] at a3
      exact a3
    · have a1 := MR_M RM c2
      rw [s2] at a1
      exact MR_fr a1
theorem so_chance (J : JJ Yc Ym hc x hm m kw) (b p t : Int32) : SO Yc Ym x m kw (LP_chance Yc x b p t hc) (M_chance Ym m b p t hm) := by
  obtain ⟨g, RC, RM, V⟩ := J
  exact SO_f RC RM V (LP_chance_q (RC.ct V) b p t) (M_chance_q (RM.mx V) b p t)
end JP
