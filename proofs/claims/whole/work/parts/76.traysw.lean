/-! ===== write, tray ===== -/
def cutV (s : Int32) (v : Int64) : Int64 := if s = 0 then Int32.toInt64 (Int8.toInt32 (Int32.toInt8 (Int64.toInt32 v))) else if s = 1 then Int32.toInt64 (Int16.toInt32 (Int32.toInt16 (Int64.toInt32 v))) else if s = 2 then Int32.toInt64 (Int64.toInt32 v) else v
theorem Tr_cut_s {Y : Ly} {h : Hp} {T : Nat} {s : Int32} {v : Int64} (h2 : hGi h 802 T = s) : Tr_cut Y T v h = some (cutV s v) := by
  unfold Tr_cut cutV
  rw [h2]
  by_cases e0 : s = 0
  · rw [if_pos e0, if_pos e0]
  · rw [if_neg e0, if_neg e0]
    by_cases e1 : s = 1
    · rw [if_pos e1, if_pos e1]
    · rw [if_neg e1, if_neg e1]
      by_cases e2 : s = 2
      · rw [if_pos e2, if_pos e2]
      · rw [if_neg e2, if_neg e2]
theorem M_cut_s {Y : Ly} {h : Hp} {s : Int32} {v : Int64} : M_cut Y s v h = some (cutV s v) := by
  unfold M_cut cutV
  by_cases e0 : s = 0
  · rw [if_pos e0, if_pos e0]
  · rw [if_neg e0, if_neg e0]
    by_cases e1 : s = 1
    · rw [if_pos e1, if_pos e1]
    · rw [if_neg e1, if_neg e1]
      by_cases e2 : s = 2
      · rw [if_pos e2, if_pos e2]
      · rw [if_neg e2, if_neg e2]
def wNum (tn : Nat → Nat → Int64) (j i : Nat) (v : Int64) : Nat → Nat → Int64 := fun t k => if t = j ∧ k = i then v else tn t k
section TW
variable {Yc Ym : Ly} {hc hm : Hp} {x m : Nat} {kw : Nat → Int64} {g : Sg}
theorem trI (R : CR Yc hc x kw g) {t j : Nat} (ht : t < 4) (hj : j < 4) : (hGr hc 800 (trA hc x t) = hGr hc 800 (trA hc x j)) ↔ t = j := by
  constructor
  · intro z
    exact R.2.2.2.1.1 t j ht hj (R.1.2.2.2.1 800 800 _ _ rfl rfl (R.o8 ht) (R.o8 hj) z).2
  · intro z; rw [z]
/-- one number of a tray -/
theorem CR_num (R : CR Yc hc x kw g) (V : VG g) {j i : Nat} (hj : j < 4) (v : Int64) : CR Yc (hTl hc (hGr hc 800 (trA hc x j)) i v) x kw (wTr g (sTs g) (sTm g) (wNum (sTn g) j i v)) := by
  refine CR_tr R V (fun _ _ => rfl) (fun _ _ => rfl) (fun _ _ _ => rfl) (fun _ _ => rfl) (fun _ _ => rfl) (fun A k hA => ?_) (Ty_tl R.2.1) ⟨R.2.2.2.1.1, fun t ht => ?_⟩
  · rw [al_tl, if_neg (fun z => hA j hj z.1)]
  · rcases R.2.2.2.1.2 t ht with q | ⟨n, s, a1, a2, a3, a4, a5, a6, a7, a8⟩
    · exact Or.inl q
    · refine Or.inr ⟨n, s, a1, a2, a3, a4, a5, a6, a7, fun k hk => ?_⟩
      show hAl (hTl hc (hGr hc 800 (trA hc x j)) i v) (hGr hc 800 (trA hc x t)) k = wNum (sTn g) j i v t k
      rw [al_tl, wNum]
      by_cases e : t = j ∧ k = i
      · rw [if_pos ⟨(trI R ht hj).mpr e.1, e.2⟩, if_pos e]
      · rw [if_neg (fun z => e ⟨(trI R ht hj).mp z.1, z.2⟩), if_neg e]; exact a8 k hk
theorem MR_num (R : MR Ym hm m g) {j i : Nat} (hj : j < 4) (hi : i < 60) (v : Int64) : MR Ym (hTl hm (hGr hm 1206 m) (60 * j + i) v) m (wTr g (sTs g) (sTm g) (wNum (sTn g) j i v)) := by
  refine MR_tr R (fun _ _ => rfl) (fun _ _ => rfl) (fun _ _ => rfl) (fun _ _ _ _ _ => rfl) (fun f k h1 h2 => ?_) (Ty_tl R.2.1) (fun t ht => ⟨(R.2.2.2.1 t ht).1, (R.2.2.2.1 t ht).2.1, fun k hk => ?_⟩)
  · rw [al_tl, if_neg (fun z => h2 (R.1.2.2 f 1206 h1 (by decide) z.1))]
  · rw [al_tl, wNum]
    by_cases e : t = j ∧ k = i
    · rw [if_pos ⟨rfl, by rw [e.1, e.2]⟩, if_pos e]
    · rw [if_neg (fun z => e (by omega)), if_neg e]; exact (R.2.2.2.1 t ht).2.2 k hk
theorem VG_tr {ts tm : Nat → Int32} {tn : Nat → Nat → Int64} (V : VG g) : VG (wTr g ts tm tn) := V
theorem so_write (J : JJ Yc Ym hc x hm m kw) (t p : Int32) (v : Int64) : SO Yc Ym x m kw (LP_write Yc x t p v hc) (M_write Ym m t p v hm) := by
  obtain ⟨g, RC, RM, V⟩ := J
  have R1 := MR_1 RM
  unfold LP_write M_write
  rw [LP_trayAt_s RC, bind_s, LP_whyNoPlace_s RC, bind_s, letH_e, M_placed_s R1 RC, bind_s, letH_e, M_b0]
  by_cases h0 : plW g t p = nI 0
  · obtain ⟨j, n, s, i, hj, hn, hs, hi, rfl, rfl, b1, b2, b3, b4, b5⟩ := plW_0 RC h0
    have o8 := RC.o8 hj
    have R3 := MR_M R1 (Mf_0 (Y := Ym) (m := m) (h := hSi hm 1201 m 0) (a := m) (v := nI 0))
    rw [M_b0] at R3
    rw [isAt_nI hj (by omega), if_pos rfl, h0, nI_clamp (by omega), if_pos (show nI 0 ≤ 0 by decide)]
    simp only
    rw [if_pos (show nI 0 = 0 from rfl)]
    unfold Tr_put
    rw [show (1 : Int32) = nI 1 from rfl, Tr_hasAll_s (n := n) hn b3 (by omega), bind_s, isAt_ex1 hn, isAt_nI hi (by omega), if_pos rfl, Tr_cut_s b4, bind_s, cl800 RC.1 o8, if_pos (inB_nI (by omega) (by omega)), nI_clamp (by omega), letH_e, bind_s, ml1204 R3.1, if_pos (inB_nI (by omega) (by omega)), (R3.2.2.2.1 j hj).1, show sTs (wSt g (nI 0)) j = nI s from b2, M_cut_s, bind_s, show (60 : Int32) * nI j + nI i = nI (60 * j + i) by simp only [zlit, pk_mul, nI_add], ml1206 R3.1, if_pos (inB_nI (by omega) (by omega)), nI_clamp (by omega), letH_e]
    have C1 := CR_num RC V (i := i) hj (cutV (nI s) v)
    have C2 := CR_C C1 V (Cf_si (x := x) (v := 0))
    rw [gi_si, if_pos ⟨rfl, rfl⟩] at C2
    have M1 := MR_num R3 hj (show i < 60 by omega) (cutV (nI s) v)
    exact ⟨true, _, _, rfl, rfl, _, C2, M1, V⟩
  · refine SO_q (v := false) (st := plW g t p) RC RM V ?_ ?_
    · have hr : ∀ o : Option Nat, CQ Yc x hc (match o with | none => (LP_refuse Yc x (plW g t p) hc).bind fun q6 => some (q6.1, q6.2) | some a4 => if plW g t p = 0 then (Tr_put Yc a4 p v hc).bind fun q8 => (LP_agree Yc x q8).bind fun q9 => some (q9.1, q9.2) else (LP_refuse Yc x (plW g t p) hc).bind fun q10 => some (q10.1, q10.2)) false (plW g t p) := by
        intro o
        cases o with
        | none => exact CQ_ref (Cf_rf Yc hc)
        | some a =>
          simp only
          rw [if_neg (show ¬ plW g t p = 0 from h0)]
          exact CQ_ref (Cf_rf Yc hc)
      exact hr _
    · rw [if_neg (plW_pos g t p h0)]
      exact ⟨_, rfl, Mf_tr Mf_1 Mf_0, M_b0⟩
end TW
