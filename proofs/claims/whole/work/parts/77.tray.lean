/-! ===== tray ===== -/
def zNum (tn : Nat → Nat → Int64) (j n : Nat) : Nat → Nat → Int64 := fun t k => if t = j ∧ k < n then 0 else tn t k
section TL
variable {Yc Ym : Ly} {hc hm : Hp} {x m : Nat} {kw : Nat → Int64} {g : Sg}
theorem CR_lay (R : CR Yc hc x kw g) (V : VG g) {j n s : Nat} (hj : j < 4) (hn : n ≤ 60) (hs : s < 4) {g0 : Nat → Int64} (h0 : ∀ i, i < 60 → g0 i = 0) :
    CR Yc (hWl (hSi (hSi (hSi hc 801 (trA hc x j) 1) 802 (trA hc x j) (nI s)) 803 (trA hc x j) (nI n)) (hGr hc 800 (trA hc x j)) g0) x kw (wTr g (upd (sTs g) j (nI s)) (upd (sTm g) j (nI n)) (zNum (sTn g) j n)) := by
  refine CR_tr R V (fun _ _ => rfl) (fun _ _ => rfl) (fun f a hf => ?_) (fun _ _ => rfl) (fun _ _ => rfl) (fun A k hA => ?_) ?_ ⟨R.2.2.2.1.1, fun t ht => ?_⟩
  · rw [gi_wl, gi_si, if_neg (by omega), gi_si, if_neg (by omega), gi_si, if_neg (by omega)]
  · rw [al_wl, if_neg (hA j hj)]; rfl
  · exact Ty_si (Ty_si (Ty_si R.2.1 (Or.inr (Or.inr rfl))) (Or.inl rfl)) (Or.inl rfl)
  · by_cases e : t = j
    · subst e
      refine Or.inr ⟨n, s, hn, hs, pk_us, pk_us, ?_, ?_, ?_, fun i hi => ?_⟩
      · show hGi (hWl _ _ _) 801 (trA hc x t) = 1
        rw [gi_wl, gi_si, if_neg (by omega), gi_si, if_neg (by omega), gi_si, if_pos ⟨rfl, rfl⟩]
      · show hGi (hWl _ _ _) 803 (trA hc x t) = nI n
        rw [gi_wl, gi_si, if_pos ⟨rfl, rfl⟩]
      · show hGi (hWl _ _ _) 802 (trA hc x t) = nI s
        rw [gi_wl, gi_si, if_neg (by omega), gi_si, if_pos ⟨rfl, rfl⟩]
      · show hAl (hWl _ (hGr hc 800 (trA hc x t)) g0) (hGr hc 800 (trA hc x t)) i = zNum (sTn g) t n t i
        rw [al_wl, if_pos rfl, h0 i (by omega), zNum, if_pos ⟨rfl, hi⟩]
    · have nT : trA hc x t ≠ trA hc x j := fun z => e (R.2.2.2.1.1 t j ht hj z)
      have gi : ∀ f, hGi (hWl (hSi (hSi (hSi hc 801 (trA hc x j) 1) 802 (trA hc x j) (nI s)) 803 (trA hc x j) (nI n)) (hGr hc 800 (trA hc x j)) g0) f (trA hc x t) = hGi hc f (trA hc x t) := by
        intro f
        rw [gi_wl, gi_si, if_neg (fun z => nT z.2), gi_si, if_neg (fun z => nT z.2), gi_si, if_neg (fun z => nT z.2)]
      rcases R.2.2.2.1.2 t ht with ⟨q1, q2⟩ | ⟨n', s', a1, a2, a3, a4, a5, a6, a7, a8⟩
      · exact Or.inl ⟨(pk_un e).trans q1, (gi 801).trans q2⟩
      · refine Or.inr ⟨n', s', a1, a2, (pk_un e).trans a3, (pk_un e).trans a4, (gi 801).trans a5, (gi 803).trans a6, (gi 802).trans a7, fun i hi => ?_⟩
        show hAl (hWl _ (hGr hc 800 (trA hc x j)) g0) (hGr hc 800 (trA hc x t)) i = zNum (sTn g) j n t i
        rw [al_wl, if_neg (fun z => e ((trI R ht hj).mp z)), zNum, if_neg (fun z => e z.1)]
        exact a8 i hi
theorem so_tray (J : JJ Yc Ym hc x hm m kw) (t s n : Int32) : SO Yc Ym x m kw (LP_tray Yc x t s n hc) (M_tray Ym m t s n hm) := by
  obtain ⟨g, RC, RM, V⟩ := J
  have R0 := MR_M RM (mst_f (Y := Ym) (h := hm) (m := m))
  rw [mst_0] at R0
  unfold LP_tray M_tray
  simp only [letH_e]
  rw [LP_trayAt_s RC, bind_s, show hSi (hSi hm 1201 m 0) 1200 m 0 = mst hm m from rfl]
  have rf : ∀ k : Int32, SO Yc Ym x m kw ((LP_refuse Yc x k hc).bind fun q5 => some (q5.1, q5.2)) ((M_no Ym m k (mst hm m)).bind fun q => some (q.1, q.2)) := fun k => SO_q RC RM V (CQ_ref (Cf_rf Yc hc)) (mQ_no mst_f)
  have n4 : ∀ z : Int32, isAt z 4 = false → ¬ z < 0 → (4 : Int32) ≤ z ∧ ¬ z < 4 ∧ ¬ z ≤ 3 := by
    intro z h1 h2
    have h3 := isAt_neg (by omega) h1 h2
    refine ⟨h3, ?_, ?_⟩
    · intro w
      have w' : z < nI 4 := w
      rw [Int32.lt_iff_toInt_lt] at w'
      rw [Int32.le_iff_toInt_le] at h3
      omega
    · intro w
      have w' : z ≤ nI 3 := w
      rw [Int32.le_iff_toInt_le, nI_toInt (by omega)] at w'
      rw [Int32.le_iff_toInt_le, nI_toInt (by omega)] at h3
      omega
  rcases isAt_cases t (n := 4) (by omega) with q | ⟨j, hj, rfl, q⟩
  · rw [q]
    by_cases e1 : t < 0
    · rw [if_pos e1]; exact rf 1
    · rw [if_neg e1, if_pos (n4 t q e1).1]; exact rf 1
  · rw [q, if_pos rfl, nI_clamp (by omega), if_neg (nI_pos (by omega)), if_neg (show ¬ (4 : Int32) ≤ nI j from nI_ge (b := 4) hj (by omega))]
    simp only
    rcases isAt_cases s (n := 4) (by omega) with q2 | ⟨k, hk, rfl, q2⟩
    · by_cases e1 : s < 0
      · rw [if_pos e1, if_pos e1]; exact rf 1
      · rw [if_neg e1, if_neg e1, if_neg (n4 s q2 e1).2.1, if_neg (n4 s q2 e1).2.2]; exact rf 1
    · rw [if_neg (nI_pos (by omega)), if_neg (nI_pos (by omega)), if_pos (show nI k < 4 from nI_lt (b := 4) hk (by omega)), if_pos (show nI k ≤ 3 from nI_le (b := 3) (by omega) (by omega))]
      by_cases e6 : n ≤ 60
      · rw [if_pos e6, if_pos e6]
        by_cases e0 : 0 ≤ n
        · rw [if_pos e0, if_pos e0]
          obtain ⟨z, hz, rfl⟩ := nI_of (x := n) (fun w => by rw [Int32.lt_iff_toInt_lt] at w; rw [Int32.le_iff_toInt_le] at e0; omega)
          have hz6 : z ≤ 60 := by
            have e6' : nI z ≤ nI 60 := e6
            rw [nI_leI hz (by omega)] at e6'
            exact e6'
          have o8 := RC.o8 hj
          unfold Tr_lay
          simp only [letH_e]
          obtain ⟨g0, f1, f2⟩ := J_fillL_s (Y := Yc) (h := hSi (hSi (hSz hc 801 (trA hc x j) true) 802 (trA hc x j) (nI k)) 803 (trA hc x j) (nI z)) (A := hGr hc 800 (trA hc x j)) (v := 0) (by rw [cl800 RC.1 o8]; decide)
          rw [cl800 RC.1 o8] at f2
          rw [show hGr (hSi (hSi (hSz hc 801 (trA hc x j) true) 802 (trA hc x j) (nI k)) 803 (trA hc x j) (nI z)) 800 (trA hc x j) = hGr hc 800 (trA hc x j) from rfl, f1, bind_s, bind_s]
          have C1 := CR_lay RC V hj hz6 hk f2
          have C2 := CR_C C1 V (Cf_si (x := x) (v := 0))
          rw [gi_si, if_pos ⟨rfl, rfl⟩] at C2
          rw [ml1204 R0.1, if_pos (inB_nI (by omega) (by omega)), show lnY Ym (hGr (hTi (mst hm m) (hGr (mst hm m) 1204 m) j (nI k)) 1205 m) = 4 from ml1205 R0.1, if_pos (inB_nI (by omega) (by omega))]
          have n45 : hGr (mst hm m) 1204 m ≠ hGr (mst hm m) 1205 m := MS_ne R0.1 (by decide) (by decide) (by decide)
          -- the reference's numbers
          have key := upl (Q := fun r => ∃ hh, r = some (true, hh) ∧ MR Ym hh m (wTr (wSt g (nI 0)) (upd (sTs g) j (nI k)) (upd (sTm g) j (nI z)) (zNum (sTn g) j z))) (fun F i gg => M_tray_L74 Ym m (nI j) (nI z) F (nI i) (hWl (hTi (hTi (mst hm m) (hGr (mst hm m) 1204 m) j (nI k)) (hGr (mst hm m) 1205 m) j (nI z)) (hGr (mst hm m) 1206 m) gg)) z (fun i gg => ∀ t' k', t' < 4 → k' < 60 → gg (60 * t' + k') = zNum (sTn g) j i t' k') ?_ ?_ z 0 (hAl (hTi (hTi (mst hm m) (hGr (mst hm m) 1204 m) j (nI k)) (hGr (mst hm m) 1205 m) j (nI z)) (hGr (mst hm m) 1206 m)) FU (by omega) (by unfold FU; omega) (fun t' k' h1 h2 => by rw [zNum, if_neg (by omega)]; exact (R0.2.2.2.1 t' h1).2.2 k' h2)
          · simp only [wl_self] at key
            obtain ⟨hh, k1, k2⟩ := key
            refine ⟨true, _, hh, rfl, k1, _, C2, ?_, V⟩
            exact k2
          · intro F i gg hi hI
            right
            show ∃ s', M_tray_L74 Ym m (nI j) (nI z) (F + 1) (nI i) _ = M_tray_L74 Ym m (nI j) (nI z) F (nI (i + 1)) (hWl _ _ s') ∧ _
            rw [M_tray_L74, if_neg (nI_ge hi (by omega)), show (60 : Int32) * nI j + nI i = nI (60 * j + i) by simp only [zlit, pk_mul, nI_add], gr_wl, gr_ti, gr_ti, ml1206 R0.1, if_pos (inB_nI (by omega) (by omega)), letH_e, nI_clamp (by omega), tl_wl, nI_1]
            refine ⟨_, rfl, fun t' k' h1 h2 => ?_⟩
            by_cases e : t' = j ∧ k' = i
            · rw [e.1, e.2, pk_uLs, zNum, if_pos ⟨rfl, by omega⟩]
            · rw [pk_uLn (by omega), hI t' k' h1 h2, zNum, zNum]
              by_cases w : t' = j ∧ k' < i
              · rw [if_pos w, if_pos (by omega)]
              · rw [if_neg w, if_neg (by omega)]
          · intro F gg hI
            show ∃ hh, M_tray_L74 Ym m (nI j) (nI z) (F + 1) (nI z) _ = some (true, hh) ∧ _
            rw [M_tray_L74, if_pos (nI_le (Nat.le_refl _) (by omega))]
            refine ⟨_, rfl, MR_tr R0 (fun _ _ => rfl) (fun _ _ => rfl) (fun _ _ => rfl) (fun f i h1 h2 h3 => ?_) (fun f i h1 h2 => ?_) R0.2.1 (fun t' ht' => ⟨?_, ?_, fun i hi => ?_⟩)⟩
            · rw [ai_wl, ai_ti, if_neg (fun w => h3 (R0.1.2.2 f 1205 h1 (by decide) w.1)), ai_ti, if_neg (fun w => h2 (R0.1.2.2 f 1204 h1 (by decide) w.1))]
            · rw [al_wl, if_neg (fun w => h2 (R0.1.2.2 f 1206 h1 (by decide) w))]; rfl
            · rw [ai_wl, ai_ti, if_neg (fun w => n45 w.1), ai_ti]
              by_cases e : t' = j
              · rw [if_pos ⟨rfl, e⟩, e, pk_us]
              · rw [if_neg (fun w => e w.2), pk_un e]; exact (R0.2.2.2.1 t' ht').1
            · rw [ai_wl, ai_ti]
              by_cases e : t' = j
              · rw [if_pos ⟨rfl, e⟩, e, pk_us]
              · rw [if_neg (fun w => e w.2), pk_un e, ai_ti, if_neg (fun w => n45 w.1.symm)]; exact (R0.2.2.2.1 t' ht').2.1
            · rw [al_wl, if_pos rfl]; exact hI t' i ht' hi
        · rw [if_neg e0, if_neg e0]; exact rf 6
      · rw [if_neg e6, if_neg e6]; exact rf 5
end TL
