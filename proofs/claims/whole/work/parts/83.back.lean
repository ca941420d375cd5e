/-! ===== back ===== -/
section BK
variable {Yc Ym : Ly} {hc hm : Hp} {x m : Nat} {kw : Nat → Int64} {g : Sg}
def bkH (h : Hp) (x k : Nat) : Hp := hSr (hTr (hSi h 1117 x (nI (k - 1))) (hGr h 1104 x) (k - 1) (hGr h 1109 x)) 1109 x (hAr h (hGr h 1104 x) (k - 1))
def swB (k i : Nat) : Nat := if i = 0 then k else if i = k then 0 else i
theorem bk_sh {k : Nat} (h1 : 1 ≤ k) (h3 : k ≤ 3) {i : Nat} (hi : i < 6) : shA (bkH hc x k) x i = shA hc x (swB k i) := by
  have g4 : hGr (bkH hc x k) 1104 x = hGr hc 1104 x := by unfold bkH; rw [gr_sr, if_neg (by omega)]; rfl
  have g10 : hGr (bkH hc x k) 1110 x = hGr hc 1110 x := by unfold bkH; rw [gr_sr, if_neg (by omega)]; rfl
  have g9 : hGr (bkH hc x k) 1109 x = hAr hc (hGr hc 1104 x) (k - 1) := by unfold bkH; rw [gr_sr, if_pos ⟨rfl, rfl⟩]
  have ga : ∀ j, hAr (bkH hc x k) (hGr hc 1104 x) j = if j = k - 1 then hGr hc 1109 x else hAr hc (hGr hc 1104 x) j := by
    intro j
    unfold bkH
    rw [ar_sr, ar_tr]
    by_cases e : j = k - 1
    · rw [if_pos ⟨rfl, e⟩, if_pos e]
    · rw [if_neg (fun z => e z.2), if_neg e]; rfl
  unfold shA swB
  rw [g4, g10, g9, ga]
  by_cases e0 : i = 0
  · rw [if_pos e0, if_pos e0, if_neg (by omega), if_neg (by omega)]
  · rw [if_neg e0, if_neg e0]
    by_cases e4 : i = 4
    · rw [if_pos e4, if_neg (show ¬ i = k by omega), if_neg e0, if_pos e4]
    · rw [if_neg e4]
      by_cases ek : i = k
      · rw [if_pos (by omega), if_pos ek, if_pos rfl]
      · rw [if_neg (by omega), if_neg ek, if_neg e0, if_neg e4]
theorem bk_wk {k : Nat} (h1 : 1 ≤ k) (h3 : k ≤ 3) {i : Nat} (hi : i < 6) : wkA (bkH hc x k) x i = wkA hc x (swB k i) := by
  have g11 : hGr (bkH hc x k) 1111 x = hGr hc 1111 x := by unfold bkH; rw [gr_sr, if_neg (by omega)]; rfl
  have g13 : ∀ s, hGr (bkH hc x k) 413 s = hGr hc 413 s := by intro s; unfold bkH; rw [gr_sr, if_neg (by omega)]; rfl
  unfold wkA
  rw [g11, g13, bk_sh h1 h3 hi]
  by_cases e : i = 5
  · rw [if_pos e, if_pos (by unfold swB; rw [if_neg (by omega), if_neg (by omega)]; exact e)]
  · rw [if_neg e, if_neg]
    unfold swB
    split
    · omega
    · split
      · omega
      · omega
theorem swB_inj {k i j : Nat} (e : swB k i = swB k j) : i = j := by
  unfold swB at e
  split at e <;> split at e <;> (try split at e) <;> (try split at e) <;> omega
theorem swB_lt {k i n : Nat} (hk : k < n) (hi : i < n) : swB k i < n := by
  unfold swB
  split
  · exact hk
  · split
    · omega
    · exact hi
theorem CR_bk (R : CR Yc hc x kw g) (V : VG g) (hk : 0 < sK g) : CR Yc (bkH hc x (sK g)) x kw (wBk g) := by
  have hx := R.1.1
  have k3 := V.1
  have gr : ∀ f a, f ≠ 1109 → hGr (bkH hc x (sK g)) f a = hGr hc f a := by
    intro f a hf
    unfold bkH
    rw [gr_sr, if_neg (fun z => hf z.1)]; rfl
  have gi : ∀ f a, f ≠ 1117 → hGi (bkH hc x (sK g)) f a = hGi hc f a := by
    intro f a hf
    show hGi (hSi hc 1117 x (nI (sK g - 1))) f a = hGi hc f a
    rw [gi_si, if_neg (fun z => hf z.1)]
  have tr : ∀ t, trA (bkH hc x (sK g)) x t = trA hc x t := by
    intro t
    unfold trA
    rw [gr 1100 x (by decide)]
    unfold bkH
    rw [ar_sr, ar_tr, if_neg (fun z => absurd (R.1.2.2.2.1 1100 1104 x x rfl rfl hx hx z.1).1 (by decide))]
    rfl
  have sh := fun i (hi : i < 6) => bk_sh (hc := hc) (x := x) hk k3 hi
  have wk := fun i (hi : i < 6) => bk_wk (hc := hc) (x := x) hk k3 hi
  obtain ⟨r1, r2, ⟨s1, s2, s3⟩, ⟨t1, t2⟩, p, l, ⟨c1, c2, c3, c4, c5, c6⟩, kk⟩ := R
  have R : CR Yc hc x kw g := ⟨r1, r2, ⟨s1, s2, s3⟩, ⟨t1, t2⟩, p, l, ⟨c1, c2, c3, c4, c5, c6⟩, kk⟩
  have o4k : isO Yc 4 (hAr hc (hGr hc 1104 x) (sK g - 1)) := by
    have := R.o4 (i := sK g) (by omega)
    unfold shA at this
    rw [if_neg (by omega), if_neg (by omega)] at this
    exact this
  have ty : Ty Yc (bkH hc x (sK g)) := Ty_sr (kt := 4) (Ty_tr23 (Ty_si r2 (Or.inl rfl)) (r2.1 1104 23 rfl x hx) (r2.1 1109 4 rfl x hx)) rfl o4k
  refine ⟨CS_congr r1 (fun f a hf => gr f a (fun z => by subst z; cases hf)), ty, ⟨fun i j hi hj e => ?_, fun i j hi hj e => ?_, fun j hj => ?_⟩, ⟨fun i j hi hj => by rw [tr, tr]; exact t1 i j hi hj, fun t ht => ?_⟩, ?_, ?_, ?_, ?_⟩
  · rw [sh i (by omega), sh j (by omega)] at e
    exact swB_inj (s1 _ _ (swB_lt (by omega) hi) (swB_lt (by omega) hj) e)
  · rw [wk i hi, wk j hj] at e
    exact swB_inj (s2 _ _ (swB_lt (by omega) hi) (swB_lt (by omega) hj) e)
  · have hj' : j ≤ sK g - 1 := hj
    rw [sh j (by omega), wk j (by omega)]
    have q := s3 (swB (sK g) j) (by unfold swB; split <;> (try split) <;> omega)
    have eC : sC (wBk g) j = sC g (swB (sK g) j) ∧ sW (wBk g) j = sW g (swB (sK g) j) := by
      show (if j = 0 then sC g (sK g) else sC g j) = _ ∧ (if j = 0 then sW g (sK g) else sW g j) = _
      unfold swB
      by_cases e : j = 0
      · rw [if_pos e, if_pos e, if_pos e]; exact ⟨rfl, rfl⟩
      · rw [if_neg e, if_neg e, if_neg e, if_neg (by omega)]; exact ⟨rfl, rfl⟩
    rw [eC.1, eC.2]
    refine ⟨RS_same ⟨fun f a hf => gi f a ?_, fun f a hf => gr f a (fun z => by subst z; cases hf), fun i => rfl, fun i => rfl, fun i => rfl, fun i => rfl, fun f i _ _ => rfl, fun f i _ _ => ⟨rfl, rfl⟩⟩ q.1, RN_eq q.2.1 (gi 414 _ (by omega)) (fun i => by rw [gr 403 _ (by decide)]; rfl) (fun i => by rw [gr 404 _ (by decide)]; rfl) (fun i => by rw [gr 405 _ (by decide)]; rfl), RW_eq q.2.2 (fun f h1 h2 => gi f _ (by omega)) (fun f h1 h2 => by rw [gr f _ (by omega)]; rfl)⟩
    simp only [rsF, Bool.or_eq_true, beq_iff_eq] at hf
    omega
  · rw [tr, gi 801 _ (by decide), gi 802 _ (by decide), gi 803 _ (by decide), gr 800 _ (by decide)]
    exact t2 t ht
  · unfold TPc
    rw [gr 1101 x (by decide), gi 702 _ (by decide), gr 700 _ (by decide)]
    exact p
  · unfold LVc
    rw [gr 1108 x (by decide)]
    exact l
  · refine ⟨by rw [gi 1112 _ (by decide)]; exact c1, by rw [gi 1115 _ (by decide)]; exact c2, by rw [gi 1116 _ (by decide)]; exact c3, ?_, c5, c6⟩
    show hGi (hSi hc 1117 x (nI (sK g - 1))) 1117 x = nI (sK g - 1)
    rw [gi_si, if_pos ⟨rfl, rfl⟩]
  · rw [gr 1101 x (by decide), gr 701 _ (by decide)]
    exact kk
theorem so_back (J : JJ Yc Ym hc x hm m kw) : SO Yc Ym x m kw (LP_back Yc x hc) (M_back Ym m hm) := by
  obtain ⟨g, RC, RM, V⟩ := J
  have R0 := MR_M RM (mst_f (Y := Ym) (h := hm) (m := m))
  rw [mst_0] at R0
  have k3 := V.1
  have c4 : hGi hc 1117 x = nI (sK g) := RC.2.2.2.2.2.2.1.2.2.2.1
  by_cases hk : 0 < sK g
  · obtain ⟨hh, M1, M2⟩ := M_back_s R0 V hk
    have M1' : M_back Ym m hm = some (nI (sK g - 1), hh) := M1
    unfold LP_back LP_markAt
    rw [c4, show (1 : Int32) = nI 1 from rfl, pk_sub (b := 1) hk, if_neg (nI_pos (by omega)), if_pos (show nI (sK g - 1) < 3 from nI_lt (b := 3) (by omega) (by omega)), cl1104 RC.1 RC.1.1, if_pos (inB_nI (by omega) (by omega)), bind_s, nI_clamp (by omega), M1']
    simp only
    have e : hGi (hSi hc 1117 x (nI (sK g - 1))) 1117 x = nI (sK g - 1) := by rw [gi_si, if_pos ⟨rfl, rfl⟩]
    rw [letH_e, e, gr_si, cl1104 RC.1 RC.1.1, if_pos (inB_nI (by omega) (by omega)), letH_e, letH_e, nI_clamp (by omega)]
    have C1 := CR_bk RC V hk
    have C2 := CR_C C1 (VG_bk V) (Cf_si (x := x) (v := 0))
    rw [gi_si, if_pos ⟨rfl, rfl⟩] at C2
    refine ⟨_, _, _, rfl, ?_, _, C2, M2, VG_bk V⟩
    rw [gi_sr, gi_tr, gi_si, if_pos ⟨rfl, rfl⟩]
  · have k0 : sK g = 0 := by omega
    refine SO_q (v := m1) (st := 8) RC RM V ?_ ?_
    · unfold LP_back LP_markAt
      rw [c4, k0, if_pos (show nI 0 - 1 < 0 by decide), bind_s]
      exact CQ_fail (Cf_rf Yc hc)
    · unfold M_back
      rw [letH_e, letH_e, show hSi (hSi hm 1201 m 0) 1200 m 0 = mst hm m from rfl, R0.2.2.2.2.2.2.2.2.2.1, show sK (wSt g (nI 0)) = 0 from k0, if_pos (show nI 0 = 0 from rfl)]
      exact mQ_ref mst_f
end BK
