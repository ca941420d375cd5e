/-! ===== weeks: all steps ===== -/
section STA
variable {Yc Ym : Ly} {x t s wk wr m n : Nat} {T : Nat → Int32} {P : Nat → Prop} {hc0 hm0 hc hm h : Hp} {p R S d d' : Nat} {cL c c4 : Nat → Int32} {w w4 : Nat → Int64}
variable {F i D kk j G : Nat} {rec : Nat → Int32 → Hp → Option Hp}
theorem stW_o {o : Option Nat} (ho : ∀ k, o = some k → k < 31) (h1 : ∀ j, o = some j → ¬ (j = 21 ∨ j = 22 ∨ j = 23 ∨ j = 24 ∨ j = 30 ∨ j = 25 ∨ j = 28)) : stW o = -1 := by
  cases o with
  | none => rfl
  | some k =>
    have h31 := ho k rfl
    have h2 := h1 k rfl
    have q : ∀ i : Fin 31, ¬ (i.val = 21 ∨ i.val = 22 ∨ i.val = 23 ∨ i.val = 24 ∨ i.val = 30 ∨ i.val = 25 ∨ i.val = 28) → stW (some i.val) = -1 := by decide
    exact q ⟨k, h31⟩ h2
theorem rr_told (M : PM Ym m n T hm0 h p c4 w4) (hS : S < 30) (v : c4 (306 + 9 * S) = nI kk) (hk : kk = 0 ∨ kk = 1 ∨ kk = 3) : M_readRest Ym m (nI (2304 + (306 + 9 * S))) h = M_readRest_J67 Ym m (nI (2304 + (306 + 9 * S))) (nI kk) (nI 2) false m (nI (2304 + (306 + 9 * S)) + 1) (hGr h 1220 m) h := by
  have v0 := (M.2.2.2.2.1 (306 + 9 * S) (by omega)).trans v
  unfold M_readRest
  rw [ml1220 M.2.1, if_pos (inB_nI (by omega) (by decide)), nI_clamp (by omega), v0]
  rcases hk with e | e | e <;> subst e
  · rw [if_neg (by decide), if_neg (by decide), if_neg (by decide), if_neg (by decide)]; rfl
  · rw [if_neg (by decide), if_neg (by decide), if_neg (by decide), if_neg (by decide)]; rfl
  · rw [if_neg (by decide), if_neg (by decide), if_neg (by decide), if_neg (by decide)]; rfl
theorem rr_call (M : PM Ym m n T hm0 h p c4 w4) (hS : S < 30) (v : c4 (306 + 9 * S) = nI 2) : M_readRest Ym m (nI (2304 + (306 + 9 * S))) h = M_readRest_J67 Ym m (nI (2304 + (306 + 9 * S))) (nI 2) (nI 4) false m (nI (2304 + (306 + 9 * S)) + 1) (hGr h 1220 m) h := by
  have v0 := (M.2.2.2.2.1 (306 + 9 * S) (by omega)).trans v
  unfold M_readRest
  rw [ml1220 M.2.1, if_pos (inB_nI (by omega) (by decide)), nI_clamp (by omega), v0, if_neg (by decide), if_neg (by decide), if_neg (by decide), if_pos (show nI 2 = 2 from rfl)]
  rfl
theorem rr_stop (M : PM Ym m n T hm0 h p c4 w4) (hS : S < 30) (v : c4 (306 + 9 * S) = nI 6) : M_readRest Ym m (nI (2304 + (306 + 9 * S))) h = some h := by
  have v0 := (M.2.2.2.2.1 (306 + 9 * S) (by omega)).trans v
  unfold M_readRest
  rw [ml1220 M.2.1, if_pos (inB_nI (by omega) (by decide)), nI_clamp (by omega), v0, if_neg (by decide), if_neg (by decide), if_pos (show (4 : Int32) ≤ nI 6 by decide)]
theorem rr_loop (M : PM Ym m n T hm0 h p c4 w4) (hS : S < 30) (v : c4 (306 + 9 * S) = nI 5) : M_readRest Ym m (nI (2304 + (306 + 9 * S))) h = (M_count Ym m 1 99 h).bind fun q5 => if inB (nI (2304 + (306 + 9 * S)) + 1) (lnY Ym (hGr h 1220 m)) = true then letH (hTi q5.2 (hGr h 1220 m) (Int32.toNatClampNeg (nI (2304 + (306 + 9 * S)) + 1)) q5.1) fun h7 => some h7 else none := by
  have v0 := (M.2.2.2.2.1 (306 + 9 * S) (by omega)).trans v
  have i0 : inB (nI (2304 + (306 + 9 * S))) (lnY Ym (hGr h 1220 m)) = true := by rw [ml1220 M.2.1]; exact inB_nI (by omega) (by decide)
  have c0 : Int32.toNatClampNeg (nI (2304 + (306 + 9 * S))) = 2304 + (306 + 9 * S) := nI_clamp (by omega)
  unfold M_readRest
  rw [if_pos i0, c0, v0, if_pos (show nI 5 = 5 from rfl)]
theorem rr_when (M : PM Ym m n T hm0 h p c4 w4) (hS : S < 30) (v : c4 (306 + 9 * S) = nI 4) : M_readRest Ym m (nI (2304 + (306 + 9 * S))) h = M_readTest Ym m (nI (2304 + (306 + 9 * S))) h := by
  have v0 := (M.2.2.2.2.1 (306 + 9 * S) (by omega)).trans v
  unfold M_readRest
  rw [ml1220 M.2.1, if_pos (inB_nI (by omega) (by decide)), nI_clamp (by omega), v0, if_neg (by decide), if_pos (show nI 4 = 4 from rfl), bo_one]
/-- the class: which step -/
theorem cs_step (e8 : hGi hc 708 t = nI j) (hj : j < 31) : WR_readStep Yc wr t s wk hc = (To_advance Yc t hc).bind fun q1 =>
    if j = 21 then WR_readBind Yc wr t s wk q1 else if j = 22 then WR_readAbout Yc wr t s wk (nI j) 6 q1 else if j = 23 then WR_readAbout Yc wr t s wk (nI j) 14 q1 else if j = 24 then WR_readAbout Yc wr t s wk (nI j) 6 q1 else if j = 25 then WR_readTest Yc wr t s wk q1 else if j = 28 then WR_readLoop Yc wr t wk q1 else (We_addRow Yc wk (nI j) (-1) 0 0 q1).bind fun q14 => some (true, q14) := by
  have n8 : ∀ k, k < 31 → (nI j = nI k ↔ j = k) := fun k hk => nI_eq (by omega) (by omega)
  have i21 : (nI j = 21) ↔ j = 21 := n8 21 (by decide)
  have i22 : (nI j = 22) ↔ j = 22 := n8 22 (by decide)
  have i23 : (nI j = 23) ↔ j = 23 := n8 23 (by decide)
  have i24 : (nI j = 24) ↔ j = 24 := n8 24 (by decide)
  have i25 : (nI j = 25) ↔ j = 25 := n8 25 (by decide)
  have i28 : (nI j = 28) ↔ j = 28 := n8 28 (by decide)
  unfold WR_readStep
  rw [e8]
  simp only [i21, i22, i23, i24, i25, i28, bo_pair]
/-- one step, whichever -/
theorem st_one (X : WX Yc Ym x t s wk wr m n T P hc0 hm0 cL c w w4) (ne : wk ≠ wr) (W : WS Yc Ym x t s wk wr m n T P hc0 hm0 cL c w w4 hc hm p R S d c4) (wd : WD R S d) (hi : i ≤ p) (hF : n - p < F + 1) (z0 : tK T n p ≠ 0) (z29 : tI T n p ≠ some 29)
    (HS : d < 3 → ∀ hc2 hm2 p2 c42, p < p2 → WS Yc Ym x t s wk wr m n T P hc0 hm0 cL c w w4 hc2 hm2 p2 (R + 1) (S + 1) (d + 1) c42 → WD (R + 1) (S + 1) (d + 1) → ∀ F2 i2, i2 ≤ p2 → n - p2 < F2 →
      SOS Yc Ym x t s wk wr m n T P hc0 hm0 cL c w w4 rec (nI d) (nI (2304 + (306 + 9 * S))) hc2 p2 (R + 1) (S + 1) (d + 1) c42 F2 i2 (M_readStep_L140 Ym rec m (nI d) true (nI (2304 + (306 + 9 * S))) FU hm2)) :
    SO1 Yc Ym x t s wk wr m n T P hc0 hm0 cL c w w4 hc p R S d c4 (F + 1) i (M_readStep_b Ym rec m (nI d) hm) := by
  have e8 : ∀ j, tI T n p = some j → hGi hc 708 t = nI j := fun j z => by rw [W.1.2.2.2.1.2.2.2.2.2.1, z]; rfl
  by_cases z21 : tI T n p = some 21
  · refine st_row (kk := 0) X W wd hi z21 (by decide) rfl (Or.inl (by decide)) (WR_readBind Yc wr t s wk) (by rw [cs_step (e8 _ z21) (by decide)]; rfl) (fun hS hR hcA k1 CA M1 g6 g7 g1 => ?_)
    rw [rr_told M1 hS (pk_us ..) (Or.inl rfl)]
    exact HO_mo (hd_bind X ne CA M1 g6 g7 g1 hS hR) (fun B cc e0 e2 e3 e4 Q => Or.inl ⟨(e0 _ (by omega) (by omega)).trans (pk_us ..), Q.1, Q.2.1, Q.2.2.1, by rw [e2]; exact Q.2.2.2.1, by rw [e3]; exact Q.2.2.2.2⟩)
  by_cases z22 : tI T n p = some 22
  · refine st_row (kk := 1) X W wd hi z22 (by decide) rfl (Or.inl (by decide)) (WR_readAbout Yc wr t s wk (nI 22) (nI (kindOf 2))) (by rw [cs_step (e8 _ z22) (by decide)]; rfl) (fun hS hR hcA k1 CA M1 g6 g7 g1 => ?_)
    rw [rr_told M1 hS (pk_us ..) (Or.inr (Or.inl rfl))]
    exact HO_mo (hd_told (kk := 1) (so := 2) (wd := 22) X ne CA M1 g6 g7 g1 hS hR (by decide) (by decide) (by decide)) (fun B cc e0 e2 e3 e4 Q => Or.inr (Or.inl ⟨(e0 _ (by omega) (by omega)).trans (pk_us ..), Q.1, Q.2.1, by rw [e2]; exact Q.2.2⟩))
  by_cases z23 : tI T n p = some 23
  · refine st_row (kk := 2) X W wd hi z23 (by decide) rfl (Or.inl (by decide)) (WR_readAbout Yc wr t s wk (nI 23) (nI (kindOf 4))) (by rw [cs_step (e8 _ z23) (by decide)]; rfl) (fun hS hR hcA k1 CA M1 g6 g7 g1 => ?_)
    rw [rr_call M1 hS (pk_us ..)]
    exact HO_mo (hd_told (kk := 2) (so := 4) (wd := 23) X ne CA M1 g6 g7 g1 hS hR (by decide) (by decide) (by decide)) (fun B cc e0 e2 e3 e4 Q => Or.inr (Or.inr (Or.inl ⟨(e0 _ (by omega) (by omega)).trans (pk_us ..), Q.1, Q.2.1, by rw [e4]; exact Q.2.2⟩)))
  by_cases z24 : tI T n p = some 24
  · refine st_row (kk := 3) X W wd hi z24 (by decide) rfl (Or.inl (by decide)) (WR_readAbout Yc wr t s wk (nI 24) (nI (kindOf 2))) (by rw [cs_step (e8 _ z24) (by decide)]; rfl) (fun hS hR hcA k1 CA M1 g6 g7 g1 => ?_)
    rw [rr_told M1 hS (pk_us ..) (Or.inr (Or.inr rfl))]
    exact HO_mo (hd_told (kk := 3) (so := 2) (wd := 24) X ne CA M1 g6 g7 g1 hS hR (by decide) (by decide) (by decide)) (fun B cc e0 e2 e3 e4 Q => Or.inr (Or.inr (Or.inr (Or.inl ⟨(e0 _ (by omega) (by omega)).trans (pk_us ..), Q.1, Q.2.1, by rw [e2]; exact Q.2.2⟩))))
  by_cases z30 : tI T n p = some 30
  · refine st_row (kk := 6) X W wd hi z30 (by decide) rfl (Or.inr rfl) (fun q1 => (We_addRow Yc wk 30 (-1) 0 0 q1).bind fun q14 => some (true, q14)) (by rw [cs_step (e8 _ z30) (by decide)]; rfl) (fun hS hR hcA k1 CA M1 g6 g7 g1 => ?_)
    rw [rr_stop M1 hS (pk_us ..)]
    exact HO_mo (hd_stop X ne CA M1 g6 g7 g1 hR) (fun B cc e0 e2 e3 e4 Q => Or.inr (Or.inr (Or.inr (Or.inr ⟨(e0 _ (by omega) (by omega)).trans (pk_us ..), Q⟩))))
  by_cases z25 : tI T n p = some 25
  · refine st_blk (kk := 4) X ne W wd hi hF z25 (by decide) rfl (Or.inl rfl) (WR_readTest Yc wr t s wk) (by rw [cs_step (e8 _ z25) (by decide)]; rfl) (fun hS hR hd hcA k1 CA M1 g6 g7 g1 => ?_) HS
    rw [rr_when M1 hS (pk_us ..)]
    refine HO_mo (hd_test X ne CA M1 g6 g7 g1 hS hR hd) (fun B cc e0 e2 e3 e4 Q => ?_)
    have k4 : cc (306 + 9 * S) = nI 4 := (e0 _ (by omega) (by omega)).trans (pk_us ..)
    rcases Q with Q | Q | Q
    · exact Or.inr (Or.inl ⟨k4, Q.1, Q.2.1, Q.2.2.1, by rw [e2]; exact Q.2.2.2⟩)
    · exact Or.inr (Or.inr (Or.inl ⟨k4, Q.1, Q.2.1, Q.2.2.1, Q.2.2.2.1, Q.2.2.2.2.1, Q.2.2.2.2.2⟩))
    · exact Or.inr (Or.inr (Or.inr ⟨k4, Q.1, Q.2.1, Q.2.2.1, Q.2.2.2.1, Q.2.2.2.2.1, by rw [e2]; exact Q.2.2.2.2.2.1, Q.2.2.2.2.2.2.1, Q.2.2.2.2.2.2.2⟩))
  by_cases z28 : tI T n p = some 28
  · refine st_blk (kk := 5) X ne W wd hi hF z28 (by decide) rfl (Or.inr rfl) (WR_readLoop Yc wr t wk) (by rw [cs_step (e8 _ z28) (by decide)]; rfl) (fun hS hR hd hcA k1 CA M1 g6 g7 g1 => ?_) HS
    rw [rr_loop M1 hS (pk_us ..)]
    exact HO_mo (hd_loop X ne CA M1 g6 g7 g1 hS hR hd) (fun B cc e0 e2 e3 e4 Q => Or.inl ⟨(e0 _ (by omega) (by omega)).trans (pk_us ..), Q.1, Q.2.1, Q.2.2.1, Q.2.2.2⟩)
  have zz : ∀ j, tI T n p = some j → ¬ (j = 21 ∨ j = 22 ∨ j = 23 ∨ j = 24 ∨ j = 30 ∨ j = 25 ∨ j = 28) := by
    rintro j z (e | e | e | e | e | e | e) <;> subst e <;> contradiction
  exact st_no W X.2.2.2.2.2.2.2.2 hi z0 z29 zz (stW_o (fun k hk => tI_lt hk) zz)
theorem tI_n0 (z : tK T n p = 0) : tI T n p = none := by
  cases q : tI T n p with
  | none => rfl
  | some k => have := tI_0 q; omega
/-- the steps of a block, by the steps one by one -/
theorem sq_all (X : WX Yc Ym x t s wk wr m n T P hc0 hm0 cL c w w4) {l4 : Int32} (hd : d < 3)
    (ST : ∀ p' i' F' hc' hm' R' S' c4', p ≤ p' → WS Yc Ym x t s wk wr m n T P hc0 hm0 cL c w w4 hc' hm' p' R' S' (d + 1) c4' → WD R' S' (d + 1) → i' ≤ p' → n - p' < F' → tK T n p' ≠ 0 → tI T n p' ≠ some 29 → SO1 Yc Ym x t s wk wr m n T P hc0 hm0 cL c w w4 hc' p' R' S' (d + 1) c4' F' i' (M_readStep Ym (D + 1) m (nI (d + 1)) hm')) :
    ∀ K p2, p ≤ p2 → n - p2 < K → ∀ hc2 hm2 R2 S2 c42 F2 i2 G, WS Yc Ym x t s wk wr m n T P hc0 hm0 cL c w w4 hc2 hm2 p2 R2 S2 (d + 1) c42 → WD R2 S2 (d + 1) → i2 ≤ p2 → n - p2 < F2 → n - p2 + 1 < G →
      SOS Yc Ym x t s wk wr m n T P hc0 hm0 cL c w w4 (M_readStep Ym (D + 1)) (nI d) l4 hc2 p2 R2 S2 (d + 1) c42 F2 i2 (M_readStep_L140 Ym (M_readStep Ym (D + 1)) m (nI d) true l4 G hm2) := by
  intro K
  induction K with
  | zero => intro p2 _ h1; omega
  | succ K ih =>
    intro p2 hp hK hc2 hm2 R2 S2 c42 F2 i2 G W wd hi hF hG
    obtain ⟨G, rfl⟩ : ∃ q, G = q + 2 := ⟨G - 2, by omega⟩
    obtain ⟨F2, rfl⟩ : ∃ q, F2 = q + 1 := ⟨F2 - 1, by omega⟩
    obtain ⟨C, M, ⟨e24, e05⟩, e6, e7, e1⟩ := W
    have pn := C.2.2.2.1.2.1
    have n3 : n ≤ 300 := X.2.2.2.2.2.2.2.2
    rw [M_readStep_L140, if_pos rfl, if_pos M.2.2.2.1, isEnd_s M.2.2.1, bind_s]
    by_cases z29 : tI T n p2 = some 29
    · rw [if_pos (decide_eq_true z29)]
      refine Or.inl ⟨hc2, hm2, p2, R2, S2, c42, F2 + 1, i2, rfl, rfl, ⟨C, M, ⟨e24, e05⟩, e6, e7, e1⟩, wd, Nat.le_refl _, rfl, Nat.le_refl _, ⟨fun _ _ _ _ _ => rfl, fun _ _ => rfl, fun _ _ => rfl⟩, Nat.le_refl _, Nat.le_refl _, SQ_nl _ _ _ _, z29⟩
    · rw [decide_eq_false z29, if_neg bff, nI_1]
      by_cases z0 : tK T n p2 = 0
      · have lp := lp_out (s := s) (wk := wk) (wr := wr) (F := F2) (i := i2) C.2.2.2.1 (by omega) z0
        obtain ⟨h1, a1, a2, a3⟩ := c_blame C.2.2.2.1 2
        have wn : stW (tI T n p2) = -1 := by rw [tI_n0 z0]; rfl
        obtain ⟨k1, b1, b2⟩ := rs_none (rec := M_readStep Ym D) M wn (nI (d + 1))
        have d3 := wd.2.2
        rw [show M_readStep Ym (D + 1) m (nI (d + 1)) hm2 = some k1 from b1, bind_s, bad_140 b2]
        refine Or.inr ⟨h1, k1, _, _, ?_, rfl, FCc_k C a2 a3, b2⟩
        rw [lp]
        unfold WR_readWeeks_J102
        rw [e1, if_neg (show ¬ nI (d + 1) = 0 from fun q => by have := (nI_eq (b := 0) (by omega) (by decide)).mp q; omega), show To_blame Yc t 2 hc2 = some (false, h1) from a1, bind_s, if_neg fne]
      · rcases ST p2 i2 (F2 + 1) hc2 hm2 R2 S2 c42 hp ⟨C, M, ⟨e24, e05⟩, e6, e7, e1⟩ wd hi hF z0 z29 with ⟨hc3, hm3, p3, R3, S3, c43, F3, i3, x1, x2, x3, x4, x5, x6, x7, ⟨x8, x9, x10⟩, x11, x12, x13⟩ | ⟨hc3, hm3, k, a, x1, x2, F1, F4⟩
        · have pn3 := x3.1.2.2.2.1.2.1
          rw [x2, bind_s]
          rcases ih p3 (by omega) (by omega) hc3 hm3 R3 S3 c43 F3 i3 (G + 1) x3 x4 (by omega) (by omega) (by omega) with ⟨hc4, hm4, p4, R4, S4, c44, F4, i4, y1, y2, y3, y4, y5, y6, y7, ⟨y8, y9, y10⟩, y11, y12, y13, y14⟩ | ⟨hc4, hm4, k, a, y1, y2, F1, F5⟩
          · refine Or.inl ⟨hc4, hm4, p4, R4, S4, c44, F4, i4, x1.trans y1, y2, y3, y4, by omega, by omega, by omega, ⟨fun f i h1 h2 hi => (y8 f i h1 h2 (by omega)).trans (x8 f i h1 h2 hi), fun j hj => (y9 j hj).trans (x9 j hj), fun i hi => (y10 i (by omega)).trans (x10 i hi)⟩, by omega, by omega, ?_, y14⟩
            have q1 := SQ_ag _ _ _ _ _ _ (fun i hi => ⟨y8 900 i (by decide) (by decide) hi, y8 901 i (by decide) (by decide) hi, y8 902 i (by decide) (by decide) hi, y8 903 i (by decide) (by decide) hi, y8 904 i (by decide) (by decide) hi⟩) x13
            have q2 := SQ_c (c' := mxC c c44) _ _ _ _ _ _ (fun i h1 h2 => by rw [mx_i h1, mx_i h1]; exact y10 i h2) (mx_2.trans mx_2.symm) (mx_3.trans mx_3.symm) (mx_4.trans mx_4.symm) q1
            have q3 := SQ_app y13 y12 y11 _ _ _ q2
            rw [show S3 - S2 + (S4 - S3) = S4 - S2 by omega] at q3
            exact q3
          · exact Or.inr ⟨hc4, hm4, k, a, x1.trans y1, y2, F1, F5⟩
        · rw [x2, bind_s, bad_140 F4]
          exact Or.inr ⟨hc3, hm3, k, a, x1, rfl, F1, F4⟩
theorem stp_all (X : WX Yc Ym x t s wk wr m n T P hc0 hm0 cL c w w4) (ne : wk ≠ wr) : ∀ K p, n - p < K → ∀ d D i F hc hm R S c4, WS Yc Ym x t s wk wr m n T P hc0 hm0 cL c w w4 hc hm p R S d c4 → WD R S d → i ≤ p → n - p < F → 3 - d < D → tK T n p ≠ 0 → tI T n p ≠ some 29 → SO1 Yc Ym x t s wk wr m n T P hc0 hm0 cL c w w4 hc p R S d c4 F i (M_readStep Ym D m (nI d) hm) := by
  intro K
  induction K with
  | zero => intro p h1; omega
  | succ K ih =>
    intro p hK d D i F hc hm R S c4 W wd hi hF hD z0 z29
    obtain ⟨D, rfl⟩ : ∃ q, D = q + 1 := ⟨D - 1, by omega⟩
    obtain ⟨F, rfl⟩ : ∃ q, F = q + 1 := ⟨F - 1, by omega⟩
    have n3 : n ≤ 300 := X.2.2.2.2.2.2.2.2
    have pn := W.1.2.2.2.1.2.1
    refine st_one (rec := M_readStep Ym D) X ne W wd hi hF z0 z29 (fun hd hc2 hm2 p2 c42 hp2 W2 wd2 F2 i2 hi2 hF2 => ?_)
    obtain ⟨D, rfl⟩ : ∃ q, D = q + 1 := ⟨D - 1, by omega⟩
    have p2n := W2.1.2.2.2.1.2.1
    refine sq_all (p := p2) X hd (fun p' i' F' hc' hm' R' S' c4' hp' W' wd' hi' hF' z0' z29' => ih p' ?_ (d + 1) (D + 1) i' F' hc' hm' R' S' c4' W' wd' hi' hF' (by omega) z0' z29') (n - p2 + 1) p2 (Nat.le_refl _) (by omega) hc2 hm2 _ _ c42 F2 i2 FU W2 wd2 hi2 hF2 (by unfold FU; omega)
    omega
/-- the whole text -/
theorem wk_all (X : WX Yc Ym x t s wk wr m n T P hc0 hm0 cL c w w4) (ne : wk ≠ wr) : ∀ K p, n - p < K → ∀ i F G hc hm R S c4, WS Yc Ym x t s wk wr m n T P hc0 hm0 cL c w w4 hc hm p R S 0 c4 → WD R S 0 → i ≤ p → n - p < F → n - p + 1 < G →
    (∃ hc' hm' p' R' S' c4', WR_readWeeks_L23 Yc wr t s wk F (nI i) hc = some (true, hc') ∧ M_weeks_L28 Ym m G hm = M_weeks_J50 Ym m hm' ∧ WS Yc Ym x t s wk wr m n T P hc0 hm0 cL c w w4 hc' hm' p' R' S' 0 c4' ∧ WD R' S' 0 ∧ WE wk wr hc0 hc hc' c4 c4' R S 0 ∧ R ≤ R' ∧ S ≤ S' ∧ SQ (hAi hc' (hGr hc0 900 wk)) (hAi hc' (hGr hc0 901 wk)) (hAi hc' (hGr hc0 902 wk)) (hAi hc' (hGr hc0 903 wk)) (hAi hc' (hGr hc0 904 wk)) (mxC c c4') (S' - S) 3 R R' S S') ∨
    ∃ hc' hm' k a, WR_readWeeks_L23 Yc wr t s wk F (nI i) hc = some (false, hc') ∧ M_weeks_L28 Ym m G hm = M_weeks_J50 Ym m hm' ∧ FCc Yc t P hc0 hc' k a ∧ FMm Ym m hm0 hm' k a := by
  intro K
  induction K with
  | zero => intro p h1; omega
  | succ K ih =>
    intro p hK i F G hc hm R S c4 W wd hi hF hG
    obtain ⟨G, rfl⟩ : ∃ q, G = q + 2 := ⟨G - 2, by omega⟩
    obtain ⟨F, rfl⟩ : ∃ q, F = q + 1 := ⟨F - 1, by omega⟩
    have W0 := W
    obtain ⟨C, M, ⟨e24, e05⟩, e6, e7, e1⟩ := W
    have pn := C.2.2.2.1.2.1
    have n3 : n ≤ 300 := X.2.2.2.2.2.2.2.2
    rw [M_weeks_L28, if_pos M.2.2.2.1, M.2.2.1.2.2.1]
    by_cases z0 : tK T n p = 0
    · have lp := lp_out (s := s) (wk := wk) (wr := wr) (F := F) (i := i) C.2.2.2.1 (by omega) z0
      rw [if_pos (mk0.mpr z0)]
      refine Or.inl ⟨hc, hm, p, R, S, c4, ?_, rfl, W0, wd, ⟨fun _ _ _ _ _ => rfl, fun _ _ => rfl, fun _ _ => rfl⟩, Nat.le_refl _, Nat.le_refl _, SQ_nl _ _ _ _⟩
      rw [lp]
      unfold WR_readWeeks_J102
      rw [e1, if_pos (show nI 0 = 0 from rfl)]
    · rw [if_neg (fun z => z0 (mk0.mp z))]
      by_cases z29 : tI T n p = some 29
      · have lpe := lp_end (s := s) (wk := wk) (wr := wr) (F := F) (i := i) C.2.2.2.1 (by omega) z29
        obtain ⟨h1, a1, a2, a3⟩ := c_blame C.2.2.2.1 2
        have wn : stW (tI T n p) = -1 := by rw [z29]; rfl
        obtain ⟨k1, b1, b2⟩ := rs_none (rec := M_readStep Ym 5) M wn 0
        rw [show M_readStep Ym 6 m 0 hm = some k1 from b1, bind_s, M_weeks_L28, if_neg (nz_b b2)]
        refine Or.inr ⟨h1, k1, _, _, ?_, rfl, FCc_k C a2 a3, b2⟩
        rw [lpe]
        unfold WR_readEnd
        rw [e1, if_pos (show nI 0 < 1 by decide), show To_blame Yc t 2 hc = some (false, h1) from a1, bind_s, bind_s, if_neg fne]
      · rcases stp_all X ne (n - p + 1) p (by omega) 0 6 i (F + 1) hc hm R S c4 W0 wd hi hF (by decide) z0 z29 with ⟨hc3, hm3, p3, R3, S3, c43, F3, i3, x1, x2, x3, x4, x5, x6, x7, ⟨x8, x9, x10⟩, x11, x12, x13⟩ | ⟨hc3, hm3, k, a, x1, x2, F1, F4⟩
        · have pn3 := x3.1.2.2.2.1.2.1
          rw [show M_readStep Ym 6 m 0 hm = some hm3 from x2, bind_s]
          rcases ih p3 (by omega) i3 F3 (G + 1) hc3 hm3 R3 S3 c43 x3 x4 (by omega) (by omega) (by omega) with ⟨hc4, hm4, p4, R4, S4, c44, y1, y2, y3, y4, ⟨y8, y9, y10⟩, y11, y12, y13⟩ | ⟨hc4, hm4, k, a, y1, y2, F1, F5⟩
          · refine Or.inl ⟨hc4, hm4, p4, R4, S4, c44, x1.trans y1, y2, y3, y4, ⟨fun f i h1 h2 hi => (y8 f i h1 h2 (by omega)).trans (x8 f i h1 h2 hi), fun j hj => (y9 j hj).trans (x9 j hj), fun i hi => (y10 i (by omega)).trans (x10 i hi)⟩, by omega, by omega, ?_⟩
            have q1 := SQ_ag _ _ _ _ _ _ (fun i hi => ⟨y8 900 i (by decide) (by decide) hi, y8 901 i (by decide) (by decide) hi, y8 902 i (by decide) (by decide) hi, y8 903 i (by decide) (by decide) hi, y8 904 i (by decide) (by decide) hi⟩) x13
            have q2 := SQ_c (c' := mxC c c44) _ _ _ _ _ _ (fun i h1 h2 => by rw [mx_i h1, mx_i h1]; exact y10 i h2) (mx_2.trans mx_2.symm) (mx_3.trans mx_3.symm) (mx_4.trans mx_4.symm) q1
            have q3 := SQ_app y13 y12 y11 _ _ _ q2
            rw [show S3 - S + (S4 - S3) = S4 - S by omega] at q3
            exact q3
          · exact Or.inr ⟨hc4, hm4, k, a, x1.trans y1, y2, F1, F5⟩
        · rw [show M_readStep Ym 6 m 0 hm = some hm3 from x2, bind_s, M_weeks_L28, if_neg (nz_b F4)]
          exact Or.inr ⟨hc3, hm3, k, a, x1, rfl, F1, F4⟩
end STA
