/-! ===== weeks ===== -/
def wkC (c c4 : Nat → Int32) (S : Nat) (i : Nat) : Int32 := if i = 304 then nI 1 else if i = 305 then nI S else if 306 ≤ i ∧ i < 306 + 9 * S then c4 i else c i
section WKF
variable {Yc Ym : Ly} {hc hm h h' : Hp} {x m s t n R S : Nat} {kw : Nat → Int64} {g : Sg} {P : Nat → Prop} {c c4 : Nat → Int32} {w : Nat → Int64}
theorem wkC_o {i : Nat} (hi : i < 304) : wkC c c4 S i = c i := by unfold wkC; rw [if_neg (by omega), if_neg (by omega), if_neg (by omega)]
theorem wkC_n {i : Nat} (hi : i < 304) : cN (wkC c c4 S) i = cN c i := cN_cell (wkC_o hi)
theorem wkC_k (V : VB c) : keepC c (wkC c c4 S) := by
  have l7 := VC_l7 V
  exact keepC_of V (fun i => 304 ≤ i) (fun i hi => wkC_o (by omega)) (fun i hi => by omega)
theorem wkC_VB (V : VB c) : VB (wkC c c4 S) := by
  have l2 := VC_l2 V
  obtain ⟨v0, v1, v2, v3, v4, v5, v6, v7⟩ := V.1
  have cells : ∀ {i k' : Nat}, i < 304 → nB c i k' → nB (wkC c c4 S) i k' := fun h1 h => nB_cell (wkC_o h1) h
  have e : ∀ {i : Nat}, i < 304 → cN (wkC c c4 S) i = cN c i := fun hi => wkC_n hi
  refine VB_gen V (fun i hi => by rw [e (by omega)]; exact Nat.le_refl _) ⟨cells (by decide) v0, cells (by decide) v1, cells (by decide) v2, cells (by decide) v3, cells (by decide) v4, cells (by decide) v5, cells (by decide) v6, cells (by decide) v7⟩ ⟨?_, ?_⟩ (wkC_k V) (VR_mono V.2.2.2.1 (fun i hi => wkC_o (by omega)) (by rw [e (by decide)]; exact Nat.le_refl _) (by rw [e (by decide)]; exact Nat.le_refl _)) (fun t h1 h2 => ?_) (fun b h1 h2 => ?_) (fun f h1 h2 => ?_) (fun i h1 h2 => ?_) (fun i h1 h2 => ?_) (fun i h1 h2 => ?_) (fun b hb => ?_)
  · rw [e (by decide)]; exact cells (by decide) V.2.1.1
  · rw [e (by decide)]; exact cells (by decide) V.2.1.2
  · rw [e (by decide)] at h2; omega
  · rw [e (by decide)] at h2; omega
  · rw [e (by decide)] at h2; omega
  · rw [e (by decide)] at h2; omega
  · rw [e (by decide)] at h2; omega
  · rw [e (by decide)] at h2; omega
  · rw [e (by decide)] at hb ⊢
    exact cells (by omega) (V.2.2.2.2.2.2.2.2.2 b hb)
theorem wkC_VN (N : VN c w) : VN (wkC c c4 S) w := VN_cnt (fun so hso => by have := many_lt hso; exact wkC_n (by omega)) N
theorem wkC_RN (N : RN h s c w) : RN h s (wkC c c4 S) w := RN_cnt (fun so hso => by have := many_lt hso; exact wkC_n (by omega)) N
theorem wkC_RS (V : VB c) (R' : RS h s c) : RS h s (wkC c c4 S) := by
  have l1 := VC_l1 V
  have l2 := VC_l2 V
  have l3 := VC_l3 V
  have l5 := VC_l5 V
  have l6 := VC_l6 V
  have l7 := VC_l7 V
  have e : ∀ {i : Nat}, i < 304 → cN (wkC c c4 S) i = cN c i := fun hi => wkC_n hi
  have r := R'.1
  have o : ∀ i, i < 10 → c i = wkC c c4 S i := fun i hi => (wkC_o (by omega)).symm
  refine ⟨⟨r.1.trans (o 0 (by decide)), r.2.1.trans (o 1 (by decide)), r.2.2.1.trans (o 2 (by decide)), r.2.2.2.1.trans (o 3 (by decide)), r.2.2.2.2.1.trans (o 4 (by decide)), r.2.2.2.2.2.1.trans (o 5 (by decide)), r.2.2.2.2.2.2.1.trans (o 6 (by decide)), r.2.2.2.2.2.2.2.1.trans (o 7 (by decide)), r.2.2.2.2.2.2.2.2.1.trans (o 8 (by decide)), r.2.2.2.2.2.2.2.2.2.trans (o 9 (by decide))⟩, ⟨fun t ht => ?_, fun i hi hn => ?_, fun f hf => ?_⟩, fun b hb => ?_, fun i hi => ?_, fun o ho => ?_, fun o ho => ?_⟩
  · rw [e (by decide)] at ht
    rw [wkC_o (by omega)]; exact R'.2.1.1 t ht
  · rw [e (by decide)] at hn
    rw [wkC_o (by omega)]; exact R'.2.1.2.1 i hi hn
  · rw [e (by decide)] at hf
    have q := (V.2.2.2.2.2.1 f hf).1.1.2
    rw [wkC_o (by omega), e (by omega)]
    exact ⟨(R'.2.1.2.2 f hf).1, fun k hk => by rw [wkC_o (by omega)]; exact (R'.2.1.2.2 f hf).2 k hk⟩
  · rw [e (by decide)] at hb
    have q := (V.2.2.2.2.1 b hb).2.2.1.2
    rw [wkC_o (by omega), wkC_o (by omega), wkC_o (by omega), wkC_o (by omega), wkC_o (by omega), e (by omega)]
    obtain ⟨p1, p2, p3, p4, p5, p6⟩ := R'.2.2.1 b hb
    exact ⟨p1, p2, p3, p4, p5, fun p hp => by rw [wkC_o (by omega)]; exact p6 p hp⟩
  · rw [e (by decide)] at hi
    rw [wkC_o (by omega), wkC_o (by omega), wkC_o (by omega), wkC_o (by omega)]; exact R'.2.2.2.1 i hi
  · rw [e (by decide)] at ho
    rw [wkC_o (by omega), wkC_o (by omega)]; exact R'.2.2.2.2.1 o ho
  · rw [e (by decide)] at ho
    rw [wkC_o (by omega), wkC_o (by omega)]; exact R'.2.2.2.2.2 o ho
/-- the shelf as it stands, with its rules' cells as they are -/
def cLd (h : Hp) (s : Nat) (c : Nat → Int32) (i : Nat) : Int32 := if 18 ≤ i ∧ i < 82 then hAi h (hGr h 601 (hGr h 400 s)) (i - 18) else c i
theorem cLd_o {i : Nat} (hi : ¬ (18 ≤ i ∧ i < 82)) : cLd h s c i = c i := if_neg hi
theorem RF_ld (V : VB c) (R' : RS h s c) : RF h s (cLd h s c) := by
  have l1 := VC_l1 V
  have e : ∀ {i : Nat}, ¬ (18 ≤ i ∧ i < 82) → cN (cLd h s c) i = cN c i := fun hi => cN_cell (cLd_o hi)
  have r := R'.1
  have o : ∀ i, i < 10 → c i = cLd h s c i := fun i hi => (cLd_o (by omega)).symm
  refine ⟨⟨r.1.trans (o 0 (by decide)), r.2.1.trans (o 1 (by decide)), r.2.2.1.trans (o 2 (by decide)), r.2.2.2.1.trans (o 3 (by decide)), r.2.2.2.2.1.trans (o 4 (by decide)), r.2.2.2.2.2.1.trans (o 5 (by decide)), r.2.2.2.2.2.2.1.trans (o 6 (by decide)), r.2.2.2.2.2.2.2.1.trans (o 7 (by decide)), r.2.2.2.2.2.2.2.2.1.trans (o 8 (by decide)), r.2.2.2.2.2.2.2.2.2.trans (o 9 (by decide))⟩, ⟨fun t ht => ?_, fun i hi => ?_, fun f hf => ?_⟩, fun b hb => ?_, fun i hi => ?_, fun o ho => ?_, fun o ho => ?_⟩
  · rw [e (by decide)] at ht
    rw [cLd_o (by omega)]; exact R'.2.1.1 t ht
  · unfold cLd
    rw [if_pos (by omega), Nat.add_sub_cancel_left]
  · rw [e (by decide)] at hf
    rw [cLd_o (by omega), e (by omega)]
    exact ⟨(R'.2.1.2.2 f hf).1, fun k hk => by rw [cLd_o (by omega)]; exact (R'.2.1.2.2 f hf).2 k hk⟩
  · rw [e (by decide)] at hb
    rw [cLd_o (by omega), cLd_o (by omega), cLd_o (by omega), cLd_o (by omega), cLd_o (by omega), e (by omega)]
    obtain ⟨p1, p2, p3, p4, p5, p6⟩ := R'.2.2.1 b hb
    exact ⟨p1, p2, p3, p4, p5, fun p hp => by rw [cLd_o (by omega)]; exact p6 p hp⟩
  · rw [e (by decide)] at hi
    rw [cLd_o (by omega), cLd_o (by omega), cLd_o (by omega), cLd_o (by omega)]; exact R'.2.2.2.1 i hi
  · rw [e (by decide)] at ho
    rw [cLd_o (by omega), cLd_o (by omega)]; exact R'.2.2.2.2.1 o ho
  · rw [e (by decide)] at ho
    rw [cLd_o (by omega), cLd_o (by omega)]; exact R'.2.2.2.2.2 o ho
theorem VG_cw (V : VG g) (B : VB c) (N : VN c (sW g 0)) : VG (wC0 g c) := by
  refine ⟨V.1, fun j hj => ?_, V.2.2⟩
  show VB (if j = 0 then c else sC g j) ∧ VN (if j = 0 then c else sC g j) (sW g j)
  by_cases e : j = 0
  · rw [if_pos e, e]; exact ⟨B, N⟩
  · rw [if_neg e]; exact V.2.1 j hj
/-! the class's weeks change places -/
def swW (h : Hp) (x : Nat) : Hp := hSr (hSr h 413 (hGr h 1109 x) (hGr h 1111 x)) 1111 x (hGr h 413 (hGr h 1109 x))
theorem sww_gr {f y : Nat} (h1 : f ≠ 413) (h2 : f ≠ 1111) : hGr (swW h x) f y = hGr h f y := by
  unfold swW
  rw [gr_sr, if_neg (fun z => h2 z.1), gr_sr, if_neg (fun z => h1 z.1)]
theorem sww_sh (i : Nat) : shA (swW h x) x i = shA h x i := by
  unfold shA
  rw [sww_gr (by decide) (by decide), sww_gr (by decide) (by decide), sww_gr (by decide) (by decide)]
  rfl
theorem sww_wk (inj : ∀ i j, i < 5 → j < 5 → shA h x i = shA h x j → i = j) {i : Nat} (hi : i < 6) : wkA (swW h x) x i = wkA h x (swB 5 i) := by
  have g11 : hGr (swW h x) 1111 x = hGr h 413 (hGr h 1109 x) := by unfold swW; rw [gr_sr, if_pos ⟨rfl, rfl⟩]
  have g13 : ∀ y, hGr (swW h x) 413 y = if y = hGr h 1109 x then hGr h 1111 x else hGr h 413 y := by
    intro y
    unfold swW
    rw [gr_sr, if_neg (by omega), gr_sr]
    by_cases z : y = hGr h 1109 x
    · rw [if_pos ⟨rfl, z⟩, if_pos z]
    · rw [if_neg (fun q => z q.2), if_neg z]
  have s0 : shA h x 0 = hGr h 1109 x := by unfold shA; rw [if_pos rfl]
  unfold wkA
  rw [g11, g13, sww_sh]
  unfold swB
  by_cases e0 : i = 0
  · rw [if_neg (by omega), if_pos (show shA h x i = hGr h 1109 x by rw [e0]; exact s0), if_pos e0, if_pos rfl]
  · rw [if_neg (show ¬ (if i = 0 then 5 else if i = 5 then 0 else i) = 5 by rw [if_neg e0]; split <;> omega)]
    by_cases e5 : i = 5
    · rw [if_pos e5, if_neg e0, if_pos e5, s0]
    · rw [if_neg e5, if_neg e0, if_neg e5, if_neg]
      rw [← s0]
      exact fun z => e0 (inj i 0 (by omega) (by decide) z)
theorem CR_sww (R' : CR Yc h x kw g) (V : VG g) (hc : ∀ i, i < 304 → c i = sC g 0 i) (q1 : RS h (shA h x 0) c) (q3 : RW h (wkA h x 5) c) : CR Yc (swW h x) x kw (wC0 g c) := by
  have hx := R'.1.1
  have k3 := V.1
  have o4 := R'.o4 (i := 0) (by decide)
  have s0 : shA h x 0 = hGr h 1109 x := by unfold shA; rw [if_pos rfl]
  rw [s0] at o4
  obtain ⟨r1, r2, ⟨s1, s2, s3⟩, ⟨t1, t2⟩, p, l, ⟨c1, c2, c3, c4, c5, c6⟩, kk⟩ := R'
  have ty : Ty Yc (swW h x) := Ty_sr (kt := 9) (Ty_sr (kt := 9) r2 rfl (r2.1 1111 9 rfl x hx)) rfl (r2.1 413 9 rfl _ o4)
  have tr : ∀ t, trA (swW h x) x t = trA h x t := by
    intro t
    unfold trA
    rw [sww_gr (by decide) (by decide)]
    rfl
  refine ⟨CS_congr r1 (fun f a hf => sww_gr (fun z => by subst z; cases hf) (fun z => by subst z; cases hf)), ty, ⟨fun i j hi hj e => ?_, fun i j hi hj e => ?_, fun j hj => ?_⟩, ⟨fun i j hi hj => by rw [tr, tr]; exact t1 i j hi hj, fun t ht => ?_⟩, ?_, ?_, ⟨c1, c2, c3, c4, c5, c6⟩, ?_⟩
  · rw [sww_sh, sww_sh] at e
    exact s1 i j hi hj e
  · rw [sww_wk s1 hi, sww_wk s1 hj] at e
    exact swB_inj (s2 _ _ (swB_lt (by omega) hi) (swB_lt (by omega) hj) e)
  · have hj' : j ≤ sK g := hj
    rw [sww_sh, sww_wk s1 (by omega)]
    have q : RS h (shA h x j) (if j = 0 then c else sC g j) ∧ RN h (shA h x j) (if j = 0 then c else sC g j) (sW g j) ∧ RW h (wkA h x (swB 5 j)) (if j = 0 then c else sC g j) := by
      unfold swB
      by_cases e : j = 0
      · rw [if_pos e, if_pos e, e]
        exact ⟨q1, RN_cnt (fun so hso => by have := many_lt hso; exact cN_cell (hc _ (by omega))) (s3 0 (by omega)).2.1, q3⟩
      · rw [if_neg e, if_neg e, if_neg (show ¬ j = 5 by omega)]; exact s3 j hj'
    show RS _ _ (if j = 0 then c else sC g j) ∧ RN _ _ (if j = 0 then c else sC g j) (sW g j) ∧ RW _ _ (if j = 0 then c else sC g j)
    refine ⟨RS_same (h := h) ⟨fun f a hf => rfl, fun f a hf => sww_gr (fun z => by subst z; cases hf) (fun z => by subst z; cases hf), fun i => rfl, fun i => rfl, fun i => rfl, fun i => rfl, fun f i _ _ => rfl, fun f i _ _ => ⟨rfl, rfl⟩⟩ q.1, RN_eq (h := h) q.2.1 rfl (fun i => by rw [sww_gr (by decide) (by decide)]; rfl) (fun i => by rw [sww_gr (by decide) (by decide)]; rfl) (fun i => by rw [sww_gr (by decide) (by decide)]; rfl), RW_eq (h := h) q.2.2 (fun f h1 h2 => rfl) (fun f h1 h2 => by rw [sww_gr (by omega) (by omega)]; rfl)⟩
  · rw [tr, sww_gr (by decide) (by decide)]
    exact t2 t ht
  · unfold TPc
    rw [sww_gr (by decide) (by decide), sww_gr (by decide) (by decide)]
    exact p
  · unfold LVc
    rw [sww_gr (by decide) (by decide)]
    exact l
  · rw [sww_gr (by decide) (by decide), sww_gr (by decide) (by decide)]
    exact kk
theorem sww_7 : hGi (swW h x) 907 (hGr (swW h x) 413 (hGr (swW h x) 1109 x)) = hGi h 907 (hGr h 1111 x) := by
  have g9 : hGr (swW h x) 1109 x = hGr h 1109 x := sww_gr (by decide) (by decide)
  have g13 : hGr (swW h x) 413 (hGr h 1109 x) = hGr h 1111 x := by unfold swW; rw [gr_sr, if_neg (by omega), gr_sr, if_pos ⟨rfl, rfl⟩]
  rw [g9, g13]
  rfl
/-- the class's end: the weeks taken -/
theorem wk_c1 (R1 : CR Yc h x kw g) (V1 : VG g) (V0 : VB (sC g 0)) (hR : R ≤ 60) (hS : S ≤ 30) (e5 : hGi h 905 (hGr h 1111 x) = 1) (e6 : hGi h 906 (hGr h 1111 x) = nI R) (e7 : hGi h 907 (hGr h 1111 x) = nI S)
    (Q : SQ (hAi h (hGr h 900 (hGr h 1111 x))) (hAi h (hGr h 901 (hGr h 1111 x))) (hAi h (hGr h 902 (hGr h 1111 x))) (hAi h (hGr h 903 (hGr h 1111 x))) (hAi h (hGr h 904 (hGr h 1111 x))) (mxC (sC g 0) c4) S 3 0 R 0 S) :
    ∃ h', ((LP_keepFault Yc x true h).bind fun q12 => if true = true then letH (hSr q12 413 (hGr q12 1109 x) (hGr q12 1111 x)) fun h18 => letH (hSr h18 1111 x (hGr q12 413 (hGr q12 1109 x))) fun h19 => (LP_give Yc x (hGi h19 907 (hGr h19 413 (hGr h19 1109 x))) h19).bind fun q22 => some (q22.1, q22.2) else (LP_fail Yc x 10 q12).bind fun q23 => some (q23.1, q23.2)) = some (nI S, h') ∧ CR Yc h' x kw (wSt (wC0 (wFt g 0 (-1)) (wkC (sC g 0) c4 S)) 0) := by
  have R2 : CR Yc (ftH h x 0 (-1)) x kw (wFt g 0 (-1)) := CR_ft R1 0 (-1)
  have V2 := VG_ft (a := 0) (b := -1) V1
  have s0 : shA (ftH h x 0 (-1)) x 0 = shA h x 0 := rfl
  have a1 : RS (ftH h x 0 (-1)) (shA (ftH h x 0 (-1)) x 0) (wkC (sC g 0) c4 S) := by rw [s0]; exact ft_rs (wkC_RS V0 (R1.2.2.1.2.2 0 (Nat.zero_le _)).1)
  have e4 : wkA (ftH h x 0 (-1)) x 5 = hGr h 1111 x := by
    unfold wkA
    rw [if_pos rfl, ft_gr]
  have a3 : RW (ftH h x 0 (-1)) (wkA (ftH h x 0 (-1)) x 5) (wkC (sC g 0) c4 S) := by
    rw [e4]
    refine Or.inr ⟨?_, (ft_gi (by decide)).trans e5, R, S, hR, hS, (ft_gi (by decide)).trans e6, (ft_gi (by decide)).trans e7, ?_, ?_⟩
    · unfold wkC; rw [if_pos rfl]
    · unfold wkC; rw [if_neg (by decide), if_pos rfl]
    · refine SQ_up S 64 _ _ _ _ _ (by omega) (SQ_c _ _ _ _ _ _ (fun i h1 h2 => ?_) ((wkC_n (by decide)).trans mx_2.symm) ((wkC_n (by decide)).trans mx_3.symm) ((wkC_n (by decide)).trans mx_4.symm) Q)
      rw [mx_i h1]
      unfold wkC
      rw [if_neg (by omega), if_neg (by omega), if_pos ⟨h1, h2⟩]
  have R3 := CR_sww R2 V2 (fun i hi => wkC_o hi) a1 a3
  have R4 := CR_C R3 (VG_cw V2 (wkC_VB V0) (wkC_VN (V1.2.1 0 (Nat.zero_le _)).2)) (Cf_si (x := x) (v := 0))
  rw [gi_si, if_pos ⟨rfl, rfl⟩] at R4
  have e15 : hGi (swW (ftH h x 0 (-1)) x) 907 (hGr (swW (ftH h x 0 (-1)) x) 413 (hGr (swW (ftH h x 0 (-1)) x) 1109 x)) = nI S := by
    rw [sww_7, ft_gr, ft_gi (by decide)]
    exact e7
  refine ⟨_, ?_, R4⟩
  rw [kf_t, bind_s, if_pos rfl, letH_e, letH_e, show hSr (hSr (ftH h x 0 (-1)) 413 (hGr (ftH h x 0 (-1)) 1109 x) (hGr (ftH h x 0 (-1)) 1111 x)) 1111 x (hGr (ftH h x 0 (-1)) 413 (hGr (ftH h x 0 (-1)) 1109 x)) = swW (ftH h x 0 (-1)) x from rfl, e15]
  rfl
/-- the reference's end: the weeks taken -/
theorem wk_m1 (R' : MR Ym h m g) (V : VG g) (hS : S ≤ 30) (z : hGi h 1212 m = 0) (e24 : hGi h 1224 m = nI S) (b4 : ∀ i, i < 576 → hAi h (hGr h 1220 m) (2304 + i) = c4 i) : ∃ h', M_weeks_J50 Ym m h = some (nI S, h') ∧ MR Ym h' m (wC0 (wFt g 0 (-1)) (wkC (sC g 0) c4 S)) := by
  have N := MR_ft R' 0 (-1)
  have v3 := V.1
  -- the heap behind isWell
  have W : ∀ h1 : Hp, MR Ym h1 m (wFt g 0 (-1)) → hGi h1 1224 m = nI S → (∀ i, i < 576 → hAi h1 (hGr h1 1220 m) (2304 + i) = c4 i) → ∃ h', (if inB 304 (lnY Ym (hGr h1 1220 m)) = true then letH (hTi h1 (hGr h1 1220 m) (Int32.toNatClampNeg 304) 1) fun h12 => if inB 305 (lnY Ym (hGr h12 1220 m)) = true then letH (hTi h12 (hGr h12 1220 m) (Int32.toNatClampNeg 305) (hGi h12 1224 m)) fun h15 => M_weeks_L82 Ym m FU 0 h15 else none else none) = some (nI S, h') ∧ MR Ym h' m (wC0 (wFt g 0 (-1)) (wkC (sC g 0) c4 S)) := by
    intro h1 N1 f24 f4
    have S1 := N1.1
    have lp : ∀ g0 : Nat → Int32, ∃ G, M_weeks_L82 Ym m FU 0 (hWi h1 (hGr h1 1220 m) g0) = some (nI S, hWi h1 (hGr h1 1220 m) G) ∧ ∀ k, G k = if 306 ≤ k ∧ k < 306 + 9 * S then g0 (2304 + k) else g0 k := by
      intro g0
      refine upl (Q := fun r => ∃ G, r = some (nI S, hWi h1 (hGr h1 1220 m) G) ∧ ∀ k, G k = if 306 ≤ k ∧ k < 306 + 9 * S then g0 (2304 + k) else g0 k)
        (fun F i gg => M_weeks_L82 Ym m F (nI i) (hWi h1 (hGr h1 1220 m) gg)) (9 * S)
        (fun i gg => ∀ k, gg k = if 306 ≤ k ∧ k < 306 + i then g0 (2304 + k) else g0 k) ?_ ?_ (9 * S) 0 g0 FU (by omega) (by unfold FU; omega) (fun k => by rw [if_neg (by omega)])
      · intro F i gg hi hI
        right
        show ∃ s', M_weeks_L82 Ym m (F + 1) (nI i) _ = M_weeks_L82 Ym m F (nI (i + 1)) (hWi _ _ s') ∧ _
        rw [M_weeks_L82, gi_wi, f24, show (9 : Int32) * nI S = nI (9 * S) by rw [zlit, pk_mul], if_neg (nI_ge hi (by omega)), show (2610 : Int32) + nI i = nI (2610 + i) by rw [zlit, nI_add], show (306 : Int32) + nI i = nI (306 + i) by rw [zlit, nI_add], gr_wi, ml1220 S1, if_pos (inB_nI (by omega) (by omega)), if_pos (inB_nI (by omega) (by omega)), letH_e, nI_clamp (by omega), nI_clamp (by omega), ai_wi, if_pos rfl, ti_wi, nI_1]
        refine ⟨_, rfl, fun k => ?_⟩
        by_cases e : k = 306 + i
        · rw [e, pk_us, hI (2610 + i), if_neg (by omega), if_pos (by omega), show 2304 + (306 + i) = 2610 + i by omega]
        · rw [pk_un e, hI k]
          by_cases q : 306 ≤ k ∧ k < 306 + i
          · rw [if_pos q, if_pos (by omega)]
          · rw [if_neg q, if_neg (by omega)]
      · intro F gg hI
        show ∃ G, M_weeks_L82 Ym m (F + 1) (nI (9 * S)) _ = _ ∧ _
        rw [M_weeks_L82, gi_wi, f24, show (9 : Int32) * nI S = nI (9 * S) by rw [zlit, pk_mul], if_pos (Int32.le_refl _)]
        exact ⟨gg, rfl, hI⟩
    obtain ⟨G, l1, l2⟩ := lp (upd (upd (hAi h1 (hGr h1 1220 m)) 304 1) 305 (nI S))
    have c304 : Int32.toNatClampNeg 304 = 304 := rfl
    have c305 : Int32.toNatClampNeg 305 = 305 := rfl
    have eh : hTi (hTi h1 (hGr h1 1220 m) 304 1) (hGr h1 1220 m) 305 (nI S) = hWi h1 (hGr h1 1220 m) (upd (upd (hAi h1 (hGr h1 1220 m)) 304 1) 305 (nI S)) := by
      have e1 := ti_wi h1 (hGr h1 1220 m) (hAi h1 (hGr h1 1220 m)) 304 1
      rw [wi_self] at e1
      rw [e1, ti_wi]
    have M1 := MR_bl (G := G) (W := hAl h1 (hGr h1 1222 m)) (C' := fun j => if j = 0 then wkC (sC g 0) c4 S else sC g j) (W' := sW g) (K' := sK g) N1 (fun j hj => ⟨fun i hi => ?_, fun i hi => (N1.2.2.1 j hj).2 i hi⟩)
    · have eW : hWl (hWi h1 (hGr h1 1220 m) G) (hGr h1 1222 m) (hAl h1 (hGr h1 1222 m)) = hWi h1 (hGr h1 1220 m) G := wl_self (hWi h1 (hGr h1 1220 m) G) (hGr h1 1222 m)
      rw [eW, si_self (show hGi (hWi h1 (hGr h1 1220 m) G) 1223 m = nI (sK g) from N1.2.2.2.2.2.2.2.2.2.1)] at M1
      refine ⟨_, ?_, M1⟩
      rw [ml1220 S1, if_pos (by decide), letH_e, gr_ti, ml1220 S1, if_pos (by decide), letH_e, c304, c305, gi_ti, f24, eh, l1]
    · rw [l2]
      show _ = (if j = 0 then wkC (sC g 0) c4 S else sC g j) i
      by_cases e : j = 0
      · rw [if_pos e, e]
        unfold wkC
        rw [show 576 * 0 + i = i by omega]
        by_cases q : 306 ≤ i ∧ i < 306 + 9 * S
        · rw [if_pos q, if_neg (by omega), if_neg (by omega), if_pos q, pk_un (by omega), pk_un (by omega)]
          exact f4 i hi
        · rw [if_neg q]
          by_cases q4 : i = 304
          · rw [if_pos q4, q4, pk_un (by decide), pk_us]; rfl
          · rw [if_neg q4]
            by_cases q5 : i = 305
            · rw [if_pos q5, q5, pk_us]
            · rw [if_neg q5, if_neg q, pk_un q5, pk_un q4]
              exact MB0 (N1.2.2.1 0 (Nat.zero_le _)).1 hi
      · rw [if_neg e, if_neg (by omega), pk_un (by omega), pk_un (by omega)]
        exact (N1.2.2.1 j hj).1 i hi
  unfold M_weeks_J50
  rw [isWell_t z, bind_s, if_pos rfl]
  refine W _ N ?_ (fun i hi => b4 i hi)
  rw [gi_si, if_neg (by omega), gi_si, if_neg (by omega)]
  exact e24
theorem wk_m2 (R' : MR Ym h m g) {k a : Nat} (B : BF h m k a) : ∃ h', M_weeks_J50 Ym m h = some (-1, h') ∧ MR Ym h' m (wSt (wFt g (nI k) (nI a)) 10) := by
  obtain ⟨h', e1, R2⟩ := well_2 R' B
  unfold M_weeks_J50
  rw [e1, bind_s, if_neg bff]
  exact ⟨h', rfl, R2⟩
theorem wq_w (g : Sg) (tp : Nat → Int32) (a b : Int32) (c : Nat → Int32) : wC0 (wFt (wTp (wSt g (nI 0)) 0 tp) a b) c = wSt (wC0 (wFt (wTp g 0 tp) a b) c) 0 := by
  obtain ⟨g1, g2, g3, g4, g5, g6, g7, g8, g9, g10, g11, g12, g13, g14⟩ := g
  rfl
theorem off_weeks (R' : CR Yc hc x kw g) (V : VG g) : offG Yc hc x g (fun a => a = hGr hc 1111 x ∨ a = hGr hc 1103 x) := by
  have hx := R'.1.1
  have T := R'.2.1
  have k3 := V.1
  have ow : isO Yc 9 (hGr hc 1111 x) := T.1 1111 9 rfl x hx
  have orr : isO Yc 10 (hGr hc 1103 x) := T.1 1103 10 rfl x hx
  have kd : ∀ k a, isO Yc k a → k ≠ 9 → k ≠ 10 → ¬ (a = hGr hc 1111 x ∨ a = hGr hc 1103 x) := by
    rintro k a ha k9 k10 (e | e)
    · exact isO_ne ha ow k9 e
    · exact isO_ne ha orr k10 e
  refine ⟨fun j hj => ?_, fun a ha => kd 8 a ha (by decide) (by decide), kd 11 x hx (by decide) (by decide), kd 7 _ R'.o7 (by decide) (by decide)⟩
  have oj := R'.o4 (i := j) (by omega)
  refine ⟨kd 4 _ oj (by decide) (by decide), kd 6 _ (T.1 400 6 rfl _ oj) (by decide) (by decide), kd 3 _ (T.1 401 3 rfl _ oj) (by decide) (by decide), kd 3 _ (T.1 402 3 rfl _ oj) (by decide) (by decide), ?_⟩
  have o9 := R'.o9 (i := j) (by omega)
  have w5 : wkA hc x 5 = hGr hc 1111 x := by unfold wkA; rw [if_pos rfl]
  rintro (e | e)
  · rw [← w5] at e
    have := R'.2.2.1.2.1 j 5 (by omega) (by omega) e
    omega
  · exact isO_ne o9 orr (by decide) e
def wkH (h : Hp) (wk wr : Nat) : Hp := hSi (hSi (hSi (hSi (hSi h 905 wk 0) 906 wk 0) 907 wk 0) 905 wk 1) 1001 wr 0
theorem wkH_s {wk wr : Nat} : hGi (wkH h wk wr) 905 wk = 1 ∧ hGi (wkH h wk wr) 906 wk = 0 ∧ hGi (wkH h wk wr) 907 wk = 0 ∧ hGi (wkH h wk wr) 1001 wr = 0 := by
  unfold wkH
  refine ⟨?_, ?_, ?_, ?_⟩
  · rw [gi_si, if_neg (by omega), gi_si, if_pos ⟨rfl, rfl⟩]
  · rw [gi_si, if_neg (by omega), gi_si, if_neg (by omega), gi_si, if_neg (by omega), gi_si, if_pos ⟨rfl, rfl⟩]
  · rw [gi_si, if_neg (by omega), gi_si, if_neg (by omega), gi_si, if_pos ⟨rfl, rfl⟩]
  · rw [gi_si, if_pos ⟨rfl, rfl⟩]
theorem wkH_K {wk wr : Nat} : Kg Yc (fun a => a = wk ∨ a = wr) h (wkH h wk wr) := by
  have si : ∀ {h1 : Hp} {f a : Nat} {v : Int32}, v = 0 ∨ v = 1 → (a = wk ∨ a = wr) → Kg Yc (fun a => a = wk ∨ a = wr) h h1 → Kg Yc (fun a => a = wk ∨ a = wr) h (hSi h1 f a v) := fun hv p K => Kg_tr K (Kg_of (Kf_si (Or.inr hv)) p)
  exact si (Or.inl rfl) (Or.inr rfl) (si (Or.inr rfl) (Or.inl rfl) (si (Or.inl rfl) (Or.inl rfl) (si (Or.inl rfl) (Or.inl rfl) (Kg_of (Kf_si (Or.inr (Or.inl rfl))) (Or.inl rfl)))))
theorem so_weeks (J : JJ Yc Ym hc x hm m kw) (hkw : ∀ i, i < 31 → kw i = lN (KW i)) (v : Int32) : SO Yc Ym x m kw (LP_weeks Yc x v hc) (M_weeks Ym m v hm) := by
  obtain ⟨g, RC, RM, V⟩ := J
  have R0 := MR_M RM (mst_f (Y := Ym) (h := hm) (m := m))
  rw [mst_0] at R0
  have hl := V.2.2.1
  have e7 : hGi hc 702 (hGr hc 1101 x) = nI (sTl g) := RC.2.2.2.2.1.1
  have e8 : hGi (mst hm m) 1208 m = nI (sTl g) := R0.2.2.2.2.1.1
  unfold LP_weeks M_weeks M_starts
  rw [letH_e, letH_e, show hSi (hSi hm 1201 m 0) 1200 m 0 = mst hm m from rfl, e7, e8]
  have no5 : ((M_no Ym m 5 (mst hm m)).bind fun q2 => some (q2.1, q2.2)) = some (false, hSi (mst hm m) 1200 m 5) := rfl
  have mq5 : mQ Ym m hm (some ((-1 : Int32), hSi (mst hm m) 1200 m 5)) m1 5 := ⟨_, rfl, Mf_tr mst_f Mf_0, by rw [gi_si, if_pos ⟨rfl, rfl⟩]⟩
  by_cases n0 : v < 0
  · rw [if_pos n0, if_pos n0, no5, bind_s, if_neg bff]
    exact SO_q RC RM V (CQ_fail (Cf_rf Yc hc)) mq5
  rcases pk_ix v (n := sTl g + 1) (by omega) with q | q | ⟨k, hk, rfl⟩
  · exact absurd q n0
  · have h1 : nI (sTl g) < v := by rw [Int32.lt_iff_toInt_lt, nI_toInt (by omega)]; rw [Int32.le_iff_toInt_le, nI_toInt (by omega)] at q; omega
    rw [if_neg n0, if_neg n0, if_pos h1, if_pos h1, no5, bind_s, if_neg bff]
    exact SO_q RC RM V (CQ_fail (Cf_rf Yc hc)) mq5
  have nk : ¬ nI (sTl g) < nI k := fun z => by have := (nI_ltI (a := sTl g) (b := k) (by omega) (by omega)).mp z; omega
  rcases Nat.lt_or_ge 300 k with k3 | k3
  · have n3 : ¬ nI k ≤ 300 := fun z => by have := (nI_leI (a := k) (b := 300) (by omega) (by decide)).mp z; omega
    rw [if_neg n0, if_neg n0, if_neg nk, if_neg nk, if_neg n3, if_neg n3, no5, bind_s, if_neg bff]
    exact SO_q RC RM V (CQ_fail (Cf_rf Yc hc)) mq5
  have hx := RC.1.1
  have S0 := RC.1
  have Tt := RC.2.1
  have k9 : k ≤ 900 := by omega
  have e0 : shA hc x 0 = hGr hc 1109 x := by unfold shA; rw [if_pos rfl]
  have os : isO Yc 4 (hGr hc 1109 x) := by rw [← e0]; exact RC.o4 (by decide)
  have ot := RC.o7
  have ow : isO Yc 9 (hGr hc 1111 x) := Tt.1 1111 9 rfl x hx
  have orr : isO Yc 10 (hGr hc 1103 x) := Tt.1 1103 10 rfl x hx
  have ne : hGr hc 1111 x ≠ hGr hc 1103 x := isO_ne ow orr (by decide)
  have OF := off_weeks RC V
  obtain ⟨v5, v6, v7, v1⟩ := wkH_s (h := hc) (wk := hGr hc 1111 x) (wr := hGr hc 1103 x)
  have K1 : Kg Yc (fun a => a = hGr hc 1111 x ∨ a = hGr hc 1103 x) hc (wkH hc (hGr hc 1111 x) (hGr hc 1103 x)) := wkH_K
  have c1 : (We_empty Yc (hGr hc 1111 x) hc).bind (fun q1 => letH (hSz q1 905 (hGr hc 1111 x) true) fun h2 => letH (hSi h2 1001 (hGr hc 1103 x) 0) fun h3 => (To_begin Yc (hGr hc 1101 x) (nI k) h3).bind fun q4 => WR_readWeeks_L23 Yc (hGr hc 1103 x) (hGr hc 1101 x) (hGr hc 1109 x) (hGr hc 1111 x) FU 0 q4) = (To_begin Yc (hGr hc 1101 x) (nI k) (wkH hc (hGr hc 1111 x) (hGr hc 1103 x))).bind fun q4 => WR_readWeeks_L23 Yc (hGr hc 1103 x) (hGr hc 1101 x) (hGr hc 1109 x) (hGr hc 1111 x) FU 0 q4 := by
    unfold We_empty
    rw [letH_e, letH_e, letH_e, bind_s, letH_e, letH_e]
    rfl
  generalize eh1 : wkH hc (hGr hc 1111 x) (hGr hc 1103 x) = h1 at v5 v6 v7 v1 K1 c1
  have g1 : ∀ f a, hGr h1 f a = hGr hc f a := K1.2.2.1
  have S1 := Kg_cs K1 S0
  have T1 : Ty Yc h1 := K1.2.2.2.2.2 Tt
  have a7 := Kg_ai K1 S0 OF.2.2.2 (f := 700) rfl ot
  have a71 := Kg_ai K1 S0 OF.2.2.2 (f := 701) rfl ot
  obtain ⟨h2, b1, b2, b3, b4, b5, b6⟩ := begin_s (T := sTp g) (n := k) S1 ot k9 (fun i hi => ⟨by rw [g1, a7.1]; exact RC.2.2.2.2.1.2 i (by omega), tx_by V (by omega) hi⟩) (fun i hi => by rw [g1, a71.2]; exact (RC.2.2.2.2.2.2.2 i hi).trans (hkw i hi))
  obtain ⟨k1, d1, d2, d3, d4⟩ := m_begin (T := sTp g) (n := k) R0.1 k9 (fun i hi => ⟨R0.2.2.2.2.1.2 i (by have : sTl (wSt g (nI 0)) = sTl g := rfl; omega), tx_by V (by omega) hi⟩)
  have Sk : MS Ym k1 m := MS_congr (h := mst hm m) R0.1 (fun f => d2.gr f m)
  have KW0 : Kw Yc (fun a => a = hGr hc 1111 x ∨ a = hGr hc 1103 x) (hGr hc 1101 x) hc (hSi h1 702 (hGr hc 1101 x) 0) := Kw_tr (Kw_g K1) (Kw_si rfl)
  have aft : ∀ {h3 : Hp}, Kp Yc (fun a => a = hGr hc 1111 x ∨ a = hGr hc 1103 x) (hGr hc 1101 x) (hSi h1 702 (hGr hc 1101 x) 0) h3 → CR Yc h3 x kw (wTp g 0 (sTp g)) := by
    intro h3 K
    refine CR_kp RC V OF (Kw_tr KW0 (Kw_p K)) ?_
    rw [K.1 702 _ OF.2.2.2 (fun z => by omega), gi_si, if_pos ⟨rfl, rfl⟩]
    rfl
  have CR2 := aft (b3 _)
  have g2 : ∀ f a, hGr h2 f a = hGr hc f a := fun f a => ((b3 (fun _ => False)).2.2.1 f a).trans (g1 f a)
  have e2 : shA h2 x 0 = hGr hc 1109 x := by unfold shA; rw [if_pos rfl, g2]
  have s30 := CR2.2.2.1.2.2 0 (Nat.zero_le _)
  rw [e2] at s30
  have C : PC Yc x (hGr hc 1101 x) (hGr hc 1109 x) k (sTp g) (fun a => a = hGr hc 1111 x ∨ a = hGr hc 1103 x) (hSi h1 702 (hGr hc 1101 x) 0) h2 0 (cLd h2 (hGr hc 1109 x) (sC g 0)) (sC g 0) (sW g 0) := ⟨b3 _, CR2.1, CR2.2.1, b2, RF_ld (V.2.1 0 (Nat.zero_le _)).1 s30.1, s30.2.1⟩
  have nt : ∀ {k' y : Nat}, isO Yc k' y → k' ≠ 7 → y ≠ hGr hc 1101 x := fun hy hk => isO_ne hy ot hk
  have w5 : hGi h2 905 (hGr hc 1111 x) = 1 := (b5 905 _ (fun z => nt ow (by decide) z.1)).trans v5
  have w6 : hGi h2 906 (hGr hc 1111 x) = nI 0 := (b5 906 _ (fun z => nt ow (by decide) z.1)).trans v6
  have w7 : hGi h2 907 (hGr hc 1111 x) = nI 0 := (b5 907 _ (fun z => nt ow (by decide) z.1)).trans v7
  have w1 : hGi h2 1001 (hGr hc 1103 x) = nI 0 := (b5 1001 _ (fun z => nt orr (by decide) z.1)).trans v1
  have M0 : PM Ym m k (sTp g) (mbH (mst hm m) m k) k1 0 (fun i => hAi k1 (hGr k1 1220 m) (2304 + i)) (fun i => hAl k1 (hGr k1 1222 m) (224 + i)) := ⟨Mp_m d2, Sk, d3, d4, fun i _ => rfl, fun i _ => rfl⟩
  have M1 := PM_24 M0 0
  have N : NQ (sC g 0) (sC g 0) (sW g 0) := ⟨(V.2.1 0 (Nat.zero_le _)).1.1, (V.2.1 0 (Nat.zero_le _)).2, nmT_le (V.2.1 0 (Nat.zero_le _)).1.1⟩
  have B0 : BN (mbH (mst hm m) m k) m 0 (sC g 0) (sW g 0) := by
    intro so hso
    obtain ⟨q1, q2⟩ := cnt8 N.1 hso
    have ml := many_lt hso
    obtain ⟨r1, r2⟩ := R0.2.2.1 0 (Nat.zero_le _)
    refine ⟨(r1 (manyI so) (by omega)).trans q1, q2, fun i hi => ?_⟩
    have := r2 (8 * so + i) (by omega)
    rw [show 56 * 0 + (8 * so + i) = 56 * 0 + 8 * so + i by omega] at this
    exact this
  have X : WX Yc Ym x (hGr hc 1101 x) (hGr hc 1109 x) (hGr hc 1111 x) (hGr hc 1103 x) m k (sTp g) (fun a => a = hGr hc 1111 x ∨ a = hGr hc 1103 x) (hSi h1 702 (hGr hc 1101 x) 0) (mbH (mst hm m) m k) (cLd h2 (hGr hc 1109 x) (sC g 0)) (sC g 0) (sW g 0) (fun i => hAl k1 (hGr k1 1222 m) (224 + i)) := ⟨os, ot, ow, orr, Or.inl rfl, Or.inr rfl, N, B0, k3⟩
  have FUn : FU = 4000000 := rfl
  have E := wk_all X ne (k + 1) 0 (by omega) 0 FU FU h2 _ 0 0 _ ⟨C, M1, ⟨by rw [gi_si, if_pos ⟨rfl, rfl⟩]; rfl, w5⟩, w6, w7, w1⟩ ⟨by omega, by omega, by omega⟩ (Nat.le_refl _) (by omega) (by omega)
  rw [if_neg n0, if_neg n0, if_neg nk, if_neg nk, if_pos (show nI k ≤ 300 from nI_le (b := 300) k3 (by decide)), if_pos (show nI k ≤ 300 from nI_le (b := 300) k3 (by decide)), letH_e, letH_e, letH_e, letH_e, show M_advance Ym m (hSi (hSi (hSi (hSi (mst hm m) 1209 m (nI k)) 1208 m 0) 1216 m 0) 1212 m 0) = some k1 from d1, bind_s, bind_s, if_pos rfl, letH_e]
  unfold WR_readWeeks
  rw [c1, b1, bind_s]
  rcases E with ⟨hc', hm', p', R', S', c4', y1, y2, ⟨C', M', ⟨y24, y5⟩, y6, y7, _⟩, ⟨d1', d2', _⟩, _, _, _, ySQ⟩ | ⟨hc', hm', kk, aa, y1, y2, F, F'⟩
  · have y1' : WR_readWeeks_L23 Yc (hGr hc 1103 x) (hGr hc 1101 x) (hGr hc 1109 x) (hGr hc 1111 x) FU 0 h2 = some (true, hc') := y1
    have r : ∀ f y, hGr hc' f y = hGr hc f y := fun f y => (C'.1.2.2.1 f y).trans (g1 f y)
    have r0 : ∀ f y, hGr (hSi h1 702 (hGr hc 1101 x) 0) f y = hGr hc f y := fun f y => g1 f y
    rw [show S' - 0 = S' by omega, r0, r0, r0, r0, r0] at ySQ
    obtain ⟨hz, z1, z2⟩ := wk_c1 (R := R') (S := S') (c4 := c4') (aft C'.1) (VG_tp V) (V.2.1 0 (Nat.zero_le _)).1 (by omega) d2' (by rw [r]; exact y5) (by rw [r]; exact y6) (by rw [r]; exact y7) (by rw [r, r, r, r, r, r]; exact ySQ)
    obtain ⟨mz, x1, x2⟩ := wk_m1 (S := S') (MR_mp (MR_tp (n := k) (tp := sTp g) R0) (VG_tp V) M'.1) (VG_tp V) d2' M'.2.2.2.1 y24 M'.2.2.2.2.1
    have x2' : MR Ym mz m (wC0 (wFt (wTp (wSt g (nI 0)) 0 (sTp g)) 0 (-1)) (wkC (sC g 0) c4' S')) := x2
    rw [wq_w] at x2'
    rw [y1', bind_s, z1, y2, x1]
    have Vz : VG (wC0 (wFt (wTp g 0 (sTp g)) 0 (-1)) (wkC (sC g 0) c4' S')) := VG_cw (VG_ft (VG_tp V)) (wkC_VB (V.2.1 0 (Nat.zero_le _)).1) (wkC_VN (V.2.1 0 (Nat.zero_le _)).2)
    exact ⟨nI S', hz, mz, rfl, rfl, _, z2, x2', VG_st Vz⟩
  · have y1' : WR_readWeeks_L23 Yc (hGr hc 1103 x) (hGr hc 1101 x) (hGr hc 1109 x) (hGr hc 1111 x) FU 0 h2 = some (false, hc') := y1
    have e01 : hGr hc' 1101 x = hGr hc 1101 x := (F.1.2.2.1 1101 x).trans (g1 1101 x)
    obtain ⟨q9, z1, z2⟩ := sh_c2 (aft F.1) (VG_tp V) (k := kk) (a := aa) (by rw [e01]; exact F.2)
    obtain ⟨mz, x1, x2⟩ := wk_m2 (MR_mp (MR_tp (n := k) (tp := sTp g) R0) (VG_tp V) F'.1) F'.2.2
    rw [wq_bad] at x2
    rw [y1', bind_s, z1, bind_s, if_neg bff, y2, x1]
    exact ⟨-1, _, mz, rfl, rfl, _, z2, x2, VG_st (VG_ft (VG_tp V))⟩
end WKF
