/-! ===== weeks: a step, and all steps of a block ===== -/
section STQ
variable {Yc Ym : Ly} {x t s wk wr m n : Nat} {T : Nat → Int32} {P : Nat → Prop} {hc0 hm0 hc hm h : Hp} {p R S d d' : Nat} {cL c c4 : Nat → Int32} {w w4 : Nat → Int64}
variable {F i D kk j : Nat} {rec : Nat → Int32 → Hp → Option Hp}
theorem FU_s : ∃ G, FU = G + 1 := ⟨4000000 - 1, by unfold FU; omega⟩
/-- a step of one row -/
theorem st_row (X : WX Yc Ym x t s wk wr m n T P hc0 hm0 cL c w w4) (W : WS Yc Ym x t s wk wr m n T P hc0 hm0 cL c w w4 hc hm p R S d c4) (wd : WD R S d) (hi : i ≤ p) (z : tI T n p = some j) (hj : j = 21 ∨ j = 22 ∨ j = 23 ∨ j = 24 ∨ j = 30) (hk : stW (some j) = nI kk) (hkk : kk < 4 ∨ kk = 6)
    (fc : Hp → Option (Bool × Hp)) (hstep : WR_readStep Yc wr t s wk hc = (To_advance Yc t hc).bind fc)
    (H : S < 30 → R < 60 → ∀ hcA k1, PC Yc x t s n T P hc0 hcA (tE T n p) cL c w → PM Ym m n T hm0 k1 (tE T n p) (upd c4 (306 + 9 * S) (nI kk)) w4 → hGi hcA 906 wk = nI R → hGi hcA 907 wk = nI S → hGi hcA 1001 wr = nI d →
      HO Yc Ym x t s wk wr m n T P hc0 hm0 cL c w w4 hcA k1 (tE T n p) R S d d (upd c4 (306 + 9 * S) (nI kk)) (fun A cc => rowOk (A 900) (A 901) (A 902) (A 903) cc R S) (fc hcA) (M_readRest Ym m (nI (2304 + (306 + 9 * S))) k1)) :
    SO1 Yc Ym x t s wk wr m n T P hc0 hm0 cL c w w4 hc p R S d c4 (F + 1) i (M_readStep_b Ym rec m (nI d) hm) := by
  obtain ⟨C, M, ⟨e24, e05⟩, e6, e7, e1⟩ := W
  obtain ⟨w1, w2, w3⟩ := wd
  have pn := C.2.2.2.1.2.1
  have n3 : n ≤ 300 := X.2.2.2.2.2.2.2.2
  have zk := tI_0 z
  have hp1 := tE_gt (T := T) pn (show tK T n p ≠ 0 by omega)
  have kk7 : kk < 7 := by omega
  have rb : M_readStep_b Ym rec m (nI d) hm = M_readStep_J29 Ym rec m (nI d) (nI kk) false hm := by
    unfold M_readStep_b
    rw [stepWord_s M.2.2.1, bind_s, z, hk, if_neg (show ¬ nI kk = 4 from fun q => by have := (nI_eq (b := 4) (by omega) (by decide)).mp q; omega), if_neg (show ¬ nI kk = 5 from fun q => by have := (nI_eq (b := 5) (by omega) (by decide)).mp q; omega)]
    unfold M_readStep_J20
    rw [if_pos (nI_pos' (by omega))]
  have lp := lp_step (s := s) (wk := wk) (wr := wr) (F := F) (i := i) C.2.2.2.1 (by omega) (by omega) (show tI T n p ≠ some 29 from fun q => by rw [z] at q; have := Option.some.inj q; omega)
  obtain ⟨mt, mf⟩ := may_no (wr := wr) C.2.2.2.1 e7 z hj
  rw [rb]
  by_cases hS : S < 30
  · obtain ⟨hcA, k1, a1, a2, a3, M1, e241, er⟩ := rs_on (kk := kk) (d := d) (rec := rec) M C.2.2.2.1 e24 hS false (fun q => by cases q)
    have CA := PC_k C a2 a3
    rcases H hS (by omega) hcA k1 CA M1 ((tk_fr a2 906 wk (by omega)).trans e6) ((tk_fr a2 907 wk (by omega)).trans e7) ((tk_fr a2 1001 wr (by omega)).trans e1) with ⟨hc', hm', p', c4', b1, b2, C2, M2, hp2, ⟨f24, f05⟩, g6, g7, g1, gA, gS, _, gc, Q⟩ | ⟨hc', hm', k, a, b1, b2, F1, F2⟩
    · obtain ⟨bb, s1, s2⟩ := wj_semi (⟨C2.2.2.2.1, M2.2.2.1, M2.2.2.2.1⟩ : JT Yc Ym t m n T hc' hm' p')
      rcases s2 with ⟨zs, h3, k3, s3, s4, s5, s6, s7⟩ | ⟨h3, k3, k, a, s3, s4, s5, s6, F1, F2⟩
      · have C3 := PC_k C2 s5 s7.1
        have M3 := PM_k M2 s6 s7.2.1 s7.2.2
        have M4 := PM_w M3 (k := 314 + 9 * S) (v := nI (S + 1)) (by omega)
        have k24 : hGi k3 1224 m = nI (S + 1) := (s6.1 1224 m (by omega)).trans (f24.trans e241)
        have hE := tE_bd T C2.2.2.2.1.2.1
        have hg := tS_ge T n p'
        have l8 := lk S 8
        refine Or.inl ⟨h3, hTi k3 (hGr k3 1220 m) (2304 + (314 + 9 * S)) (nI (S + 1)), tE T n p', R + 1, S + 1, upd c4' (314 + 9 * S) (nI (S + 1)), F, i + 1, ?_, ?_, ⟨C3, M4, ⟨k24, (tk_fr s5 905 wk (by omega)).trans (f05.trans ((tk_fr a2 905 wk (by omega)).trans e05))⟩, (tk_fr s5 906 wk (by omega)).trans g6, (tk_fr s5 907 wk (by omega)).trans g7, (tk_fr s5 1001 wr (by omega)).trans g1⟩, ⟨by omega, by omega, w3⟩, by omega, by omega, by omega, ⟨fun f i h1 h2 hi => ?_, fun j hj => ?_, fun i hi => ?_⟩, by omega, by omega, ?_⟩
        · rw [lp, mt hS, bind_s, if_pos rfl, hstep, a1, bind_s, b1, bind_s, if_pos rfl, s3, bind_s, if_pos rfl]
        · obtain ⟨G, hG⟩ := FU_s
          rw [er, b2, bind_s, s1, bind_s, s4, bind_s, hG, M_readStep_L140, if_neg (by decide)]
          unfold M_readStep_J168
          rw [if_neg (by decide), show nI (2304 + (306 + 9 * S)) + 8 = nI (2304 + (314 + 9 * S)) from l8, ml1220 M3.2.1, if_pos (inB_nI (by omega) (by decide)), letH_e, nI_clamp (by omega), k24]
        · rw [s5.ai, gA f i h1 h2 hi, a2.ai]
        · rw [s5.ai, gS j hj, a2.ai]
        · rw [pk_un (by omega), gc i (by omega), pk_un (by omega)]
        · have Q' : rowOk (hAi hc' (hGr hc0 900 wk)) (hAi hc' (hGr hc0 901 wk)) (hAi hc' (hGr hc0 902 wk)) (hAi hc' (hGr hc0 903 wk)) (mxC c c4') R S := Q
          rw [s5.ai, show S + 1 - S = 0 + 1 by omega]
          refine Or.inr ⟨by omega, by omega, Or.inl ⟨rowOk_c (fun k hk => ?_) (mx_2.trans mx_2.symm) (mx_3.trans mx_3.symm) (mx_4.trans mx_4.symm) Q', ?_, rfl, rfl⟩⟩
          · rw [mx_i (by omega), mx_i (by omega), pk_un (by omega)]
          · rw [mx_i (by omega), pk_us]
      · have F3 := FMm_k M2 s6 F2
        obtain ⟨G, hG⟩ := FU_s
        obtain ⟨h', e', F4⟩ := bad_168 (rec := rec) hS F3 false
        refine Or.inr ⟨h3, h', k, a, ?_, ?_, FCc_k C2 s5 F1, F4⟩
        · rw [lp, mt hS, bind_s, if_pos rfl, hstep, a1, bind_s, b1, bind_s, if_pos rfl, s3, bind_s, if_neg fne]
        · rw [er, b2, bind_s, s1, bind_s, s4, bind_s, hG, bad_140 F3, e']
    · obtain ⟨h', e', F4⟩ := bad_rest (rec := rec) hS F2 (nI d) false
      refine Or.inr ⟨hc', h', k, a, ?_, ?_, F1, F4⟩
      · rw [lp, mt hS, bind_s, if_pos rfl, hstep, a1, bind_s, b1, bind_s, if_neg fne]
      · rw [er, b2, bind_s, e']
  · have s30 : S = 30 := by omega
    obtain ⟨h1, a1, a2, a3⟩ := mf s30
    obtain ⟨k1, b1, b2⟩ := rs_full (rec := rec) M (e24.trans (by rw [s30])) (nI d) (nI kk) false
    exact Or.inr ⟨h1, k1, _, _, by rw [lp, a1, bind_s, if_neg fne], b1, FCc_k C a2 a3, b2⟩
/-- a step that begins a block -/
theorem st_blk (X : WX Yc Ym x t s wk wr m n T P hc0 hm0 cL c w w4) (ne : wk ≠ wr) (W : WS Yc Ym x t s wk wr m n T P hc0 hm0 cL c w w4 hc hm p R S d c4) (wd : WD R S d) (hi : i ≤ p) (hF : n - p < F + 1) (z : tI T n p = some j) (hj : j = 25 ∨ j = 28) (hk : stW (some j) = nI kk) (hkk : kk = 4 ∨ kk = 5)
    (fc : Hp → Option (Bool × Hp)) (hstep : WR_readStep Yc wr t s wk hc = (To_advance Yc t hc).bind fc)
    (H : S < 30 → R < 60 → d < 3 → ∀ hcA k1, PC Yc x t s n T P hc0 hcA (tE T n p) cL c w → PM Ym m n T hm0 k1 (tE T n p) (upd c4 (306 + 9 * S) (nI kk)) w4 → hGi hcA 906 wk = nI R → hGi hcA 907 wk = nI S → hGi hcA 1001 wr = nI d →
      HO Yc Ym x t s wk wr m n T P hc0 hm0 cL c w w4 hcA k1 (tE T n p) R S d (d + 1) (upd c4 (306 + 9 * S) (nI kk)) (fun A cc => blkOk (A 900) (A 901) (A 902) (A 903) cc R S) (fc hcA) (M_readRest Ym m (nI (2304 + (306 + 9 * S))) k1))
    (HS : d < 3 → ∀ hc2 hm2 p2 c42, p < p2 → WS Yc Ym x t s wk wr m n T P hc0 hm0 cL c w w4 hc2 hm2 p2 (R + 1) (S + 1) (d + 1) c42 → WD (R + 1) (S + 1) (d + 1) → ∀ F2 i2, i2 ≤ p2 → n - p2 < F2 →
      SOS Yc Ym x t s wk wr m n T P hc0 hm0 cL c w w4 rec (nI d) (nI (2304 + (306 + 9 * S))) hc2 p2 (R + 1) (S + 1) (d + 1) c42 F2 i2 (M_readStep_L140 Ym rec m (nI d) true (nI (2304 + (306 + 9 * S))) FU hm2)) :
    SO1 Yc Ym x t s wk wr m n T P hc0 hm0 cL c w w4 hc p R S d c4 (F + 1) i (M_readStep_b Ym rec m (nI d) hm) := by
  obtain ⟨C, M, ⟨e24, e05⟩, e6, e7, e1⟩ := W
  obtain ⟨w1, w2, w3⟩ := wd
  have X' := X
  obtain ⟨os, ot, ow, or_, pw, pr, N, B0, n3⟩ := X'
  have pn := C.2.2.2.1.2.1
  have zk := tI_0 z
  have hp1 := tE_gt (T := T) pn (show tK T n p ≠ 0 by omega)
  have rb : M_readStep_b Ym rec m (nI d) hm = M_readStep_J29 Ym rec m (nI d) (nI kk) true hm := by
    unfold M_readStep_b
    rw [stepWord_s M.2.2.1, bind_s, z, hk]
    unfold M_readStep_J15 M_readStep_J20
    rcases hkk with e | e <;> subst e
    · rw [if_pos (show nI 4 = 4 from rfl), if_pos (nI_pos' (by omega))]
    · rw [if_neg (show ¬ nI 5 = 4 by decide), if_pos (show nI 5 = 5 from rfl), if_pos (nI_pos' (by omega))]
  have lp := lp_step (s := s) (wk := wk) (wr := wr) (F := F) (i := i) C.2.2.2.1 (by omega) (by omega) (show tI T n p ≠ some 29 from fun q => by rw [z] at q; have := Option.some.inj q; omega)
  obtain ⟨mt, mf, md⟩ := may_bl C.2.2.2.1 e7 e1 z hj
  rw [rb]
  by_cases hS : S < 30
  · by_cases hd : d < 3
    · obtain ⟨hcA, k1, a1, a2, a3, M1, e241, er⟩ := rs_on (kk := kk) (d := d) (rec := rec) M C.2.2.2.1 e24 hS true (fun _ => hd)
      have CA := PC_k C a2 a3
      rcases H hS (by omega) hd hcA k1 CA M1 ((tk_fr a2 906 wk (by omega)).trans e6) ((tk_fr a2 907 wk (by omega)).trans e7) ((tk_fr a2 1001 wr (by omega)).trans e1) with ⟨hc', hm', p', c4', b1, b2, C2, M2, hp2, ⟨f24, f05⟩, g6, g7, g1, gA, gS, gd, gc, Q⟩ | ⟨hc', hm', k, a, b1, b2, F1, F2⟩
      · obtain ⟨bb, s1, s2⟩ := wj_semi (⟨C2.2.2.2.1, M2.2.2.1, M2.2.2.2.1⟩ : JT Yc Ym t m n T hc' hm' p')
        rcases s2 with ⟨zs, h3, k3, s3, s4, s5, s6, s7⟩ | ⟨h3, k3, k, a, s3, s4, s5, s6, F1, F2⟩
        · have C3 := PC_k C2 s5 s7.1
          have M3 := PM_k M2 s6 s7.2.1 s7.2.2
          have k24 : hGi k3 1224 m = nI (S + 1) := (s6.1 1224 m (by omega)).trans (f24.trans e241)
          have hE := tE_bd T C2.2.2.2.1.2.1
          have hg := tS_ge T n p'
          have l8 := lk S 8
          have W3 : WS Yc Ym x t s wk wr m n T P hc0 hm0 cL c w w4 h3 k3 (tE T n p') (R + 1) (S + 1) (d + 1) c4' := ⟨C3, M3, ⟨k24, (tk_fr s5 905 wk (by omega)).trans (f05.trans ((tk_fr a2 905 wk (by omega)).trans e05))⟩, (tk_fr s5 906 wk (by omega)).trans g6, (tk_fr s5 907 wk (by omega)).trans g7, (tk_fr s5 1001 wr (by omega)).trans g1⟩
          have lp1 : WR_readWeeks_L23 Yc wr t s wk (F + 1) (nI i) hc = WR_readWeeks_L23 Yc wr t s wk F (nI (i + 1)) h3 := by rw [lp, mt hS hd, bind_s, if_pos rfl, hstep, a1, bind_s, b1, bind_s, if_pos rfl, s3, bind_s, if_pos rfl]
          have er1 : M_readStep_J29 Ym rec m (nI d) (nI kk) true hm = M_readStep_L140 Ym rec m (nI d) true (nI (2304 + (306 + 9 * S))) FU k3 := by rw [er, b2, bind_s, s1, bind_s, s4, bind_s]
          rcases HS hd h3 k3 _ c4' (by omega) W3 ⟨by omega, by omega, by omega⟩ F (i + 1) (by omega) (by omega) with ⟨hc4, hm4, p4, R4, S4, c44, F4, i4, y1, y2, ⟨C4, M4, ⟨y24, y05⟩, y6, y7, y01⟩, ⟨wd1, wd2, wd3⟩, yp, yF, yi, ⟨yA, yS, yc⟩, yR, yT, ySQ, y29⟩ | ⟨hc4, hm4, k, a, y1, y2, F1, F2⟩
          · have pn4 := C4.2.2.2.1.2.1
            have hp4 := tE_gt (T := T) pn4 (show tK T n p4 ≠ 0 by rw [tI_0 y29]; decide)
            have hE4 := tE_bd T pn4
            obtain ⟨F5, rfl⟩ : ∃ q, F4 = q + 1 := ⟨F4 - 1, by omega⟩
            have lpe := lp_end (s := s) (wk := wk) (wr := wr) (F := F5) (i := i4) C4.2.2.2.1 (by omega) y29
            -- the class takes the open row off, and closes it
            have K5 : Kf Yc wr hc4 (hSi hc4 1001 wr (nI d)) := Kf_si (Or.inl rfl)
            have C5 := PC_own C4 K5 pr 10 or_ (Or.inr rfl) os ot
            have v6 : hGi (hSi hc4 1001 wr (nI d)) 906 wk = nI R4 := by rw [gi_si, if_neg (by omega)]; exact y6
            have v7 : hGi (hSi hc4 1001 wr (nI d)) 907 wk = nI S4 := by rw [gi_si, if_neg (by omega)]; exact y7
            have vs : hAi (hSi hc4 1001 wr (nI d)) (hGr (hSi hc4 1001 wr (nI d)) 1000 wr) d = nI R := by
              rw [← gr0 C5 1000 wr]
              show hAi hc4 (hGr hc0 1000 wr) d = nI R
              rw [yS d (by omega), s5.ai]
              exact gd rfl
            have cr := closeRow_s (S := S4) (q := R) C5.2.1 ow v6 v7 (by omega) (by omega)
            have K6 := cl_kf (h := hSi hc4 1001 wr (nI d)) (R := R4) (S := S4) (q := R) ow
            have C6 := PC_own C5 K6 pw 9 ow (Or.inl rfl) os ot
            obtain ⟨t1, t2, t3, t4, t5⟩ := cl_ai (h := hSi hc4 1001 wr (nI d)) (R := R4) (S := S4) (q := R) C5.2.1 ow (by omega)
            rw [← gr0 C5 900 wk] at t1
            rw [← gr0 C5 904 wk] at t2 t3 t5
            obtain ⟨u6, u7⟩ := cl_67 (h := hSi hc4 1001 wr (nI d)) (wk := wk) (R := R4) (S := S4) (q := R)
            have u1 : hGi (clH (hSi hc4 1001 wr (nI d)) wk R4 S4 R) 1001 wr = nI d := by rw [K6.1 1001 wr (fun z => ne z.symm), gi_si, if_pos ⟨rfl, rfl⟩]
            have ust : ∀ j, hAi (clH (hSi hc4 1001 wr (nI d)) wk R4 S4 R) (hGr hc0 1000 wr) j = hAi hc4 (hGr hc0 1000 wr) j := fun j => by
              rw [gr0 C5 1000 wr, (Kf_ai K6 C5.2.1 (fun z => ne z.symm) rfl or_).1]
              rfl
            obtain ⟨h7, k7, x1, x2, x3, x4, x5⟩ := wj_adv (⟨C6.2.2.2.1, M4.2.2.1, M4.2.2.2.1⟩ : JT Yc Ym t m n T _ hm4 p4)
            have C7 := PC_k C6 x3 x5.1
            have M7 := PM_k M4 x4 x5.2.1 x5.2.2
            have mt4 : M_must Ym m true hm4 = some k7 := by
              unfold M_must
              rw [M4.2.2.2.1, if_pos (by decide), if_pos rfl, x2, bind_s]
            have re : WR_readEnd Yc wr t wk hc4 = (To_passSemicolon Yc t h7).bind fun q9 => some (q9.1, q9.2) := by
              unfold WR_readEnd
              rw [y01, if_neg (show ¬ nI (d + 1) < 1 from fun q => by have := (nI_ltI (a := d + 1) (b := 1) (by omega) (by decide)).mp q; omega), if_pos (show nI (d + 1) ≤ 3 from nI_le (b := 3) (by omega) (by decide)), show nI (d + 1) - 1 = nI d from pk_sub (a := d + 1) (b := 1) (by omega), letH_e, show hGi (hSi hc4 1001 wr (nI d)) 1001 wr = nI d from by rw [gi_si, if_pos ⟨rfl, rfl⟩], cl1000 C5.2.1 or_, if_pos (inB_nI (by omega) (by decide)), nI_clamp (by omega), vs, cr, bind_s, x1, bind_s]
            obtain ⟨b8, n1, n2⟩ := wj_semi x5
            have j168 : ∀ k9, M_must Ym m b8 k7 = some k9 → hGr k9 1220 m = hGr k7 1220 m → M_readStep_J168 Ym rec m true (nI (2304 + (306 + 9 * S))) hm4 = (if inB (nI (2304 + (314 + 9 * S))) (lnY Ym (hGr k9 1220 m)) = true then letH (hTi k9 (hGr k9 1220 m) (Int32.toNatClampNeg (nI (2304 + (314 + 9 * S)))) (hGi k9 1224 m)) fun h31 => some h31 else none) := by
              intro k9 q1 _
              unfold M_readStep_J168
              rw [if_pos rfl, isEnd_s M4.2.2.1, bind_s, decide_eq_true y29, mt4, bind_s, n1, bind_s, q1, bind_s, show nI (2304 + (306 + 9 * S)) + 8 = nI (2304 + (314 + 9 * S)) from l8]
            rcases n2 with ⟨zs2, h8, k8, n3', n4, n5, n6, n7⟩ | ⟨h8, k8, k, a, n3', n4, n5, n6, F1, F2⟩
            · have C8 := PC_k C7 n5 n7.1
              have M8 := PM_k M7 n6 n7.2.1 n7.2.2
              have M9 := PM_w M8 (k := 314 + 9 * S) (v := nI S4) (by omega)
              have k824 : hGi k8 1224 m = nI S4 := (n6.1 1224 m (by omega)).trans ((x4.1 1224 m (by omega)).trans y24)
              have k805 : hGi h8 905 wk = 1 := by
                rw [tk_fr n5 905 wk (by omega), tk_fr x3 905 wk (by omega)]
                show hGi (arH (hSi hc4 1001 wr (nI d)) wk R4 S4 29 (-1) 0 0) 905 wk = 1
                rw [ar_gi (by omega), gi_si, if_neg (by omega)]
                exact y05
              have hE7 := tE_bd T C7.2.2.2.1.2.1
              have hg7 := tS_ge T n (tE T n p4)
              have eA : hAi h8 = hAi (clH (hSi hc4 1001 wr (nI d)) wk R4 S4 R) := n5.ai.trans x3.ai
              have rA : ∀ g i, 900 ≤ g → g ≤ 903 → i ≠ R4 → hAi h8 (hGr hc0 g wk) i = hAi hc4 (hGr hc0 g wk) i := fun g i q1 q2 q3 => by
                rw [eA, gr0 C5 g wk, t4 g i q1 q2 q3]
                rfl
              have rP : ∀ i, i ≠ R4 → i ≠ R → hAi h8 (hGr hc0 904 wk) i = hAi hc4 (hGr hc0 904 wk) i := fun i q1 q2 => by
                rw [eA, t5 i q1 q2]
                rfl
              refine Or.inl ⟨h8, hTi k8 (hGr k8 1220 m) (2304 + (314 + 9 * S)) (nI S4), tE T n (tE T n p4), R4 + 1, S4, upd c44 (314 + 9 * S) (nI S4), F5, i4 + 1, ?_, ?_, ⟨C8, M9, ⟨k824, k805⟩, ?_, ?_, ?_⟩, ⟨by omega, by omega, w3⟩, by omega, by omega, by omega, ⟨fun f i h1 h2 hi => ?_, fun j hj => ?_, fun i hi => ?_⟩, by omega, by omega, ?_⟩
              · rw [lp1, y1, lpe, re, n3', bind_s, bind_s, if_pos rfl]
              · rw [er1, y2, j168 k8 n4 (n6.gr 1220 m), ml1220 M8.2.1, if_pos (inB_nI (by omega) (by decide)), letH_e, nI_clamp (by omega), k824]
              · exact (tk_fr n5 906 wk (by omega)).trans ((tk_fr x3 906 wk (by omega)).trans u6)
              · exact (tk_fr n5 907 wk (by omega)).trans ((tk_fr x3 907 wk (by omega)).trans u7)
              · exact (tk_fr n5 1001 wr (by omega)).trans ((tk_fr x3 1001 wr (by omega)).trans u1)
              · have e4 : hAi h8 (hGr hc0 f wk) i = hAi hc4 (hGr hc0 f wk) i := by
                  by_cases q : f = 904
                  · rw [q]; exact rP i (by omega) (by omega)
                  · exact rA f i h1 (by omega) (by omega)
                rw [e4, yA f i h1 h2 (by omega), s5.ai, gA f i h1 h2 hi, a2.ai]
              · rw [eA, ust j, yS j (by omega), s5.ai, gS j hj, a2.ai]
              · rw [pk_un (by omega), yc i (by omega), gc i (by omega), pk_un (by omega)]
              · have Q' : blkOk (hAi hc' (hGr hc0 900 wk)) (hAi hc' (hGr hc0 901 wk)) (hAi hc' (hGr hc0 902 wk)) (hAi hc' (hGr hc0 903 wk)) (mxC c c4') R S := Q
                have er4 : ∀ g, 900 ≤ g → g ≤ 903 → hAi h8 (hGr hc0 g wk) R = hAi hc' (hGr hc0 g wk) R := fun g q1 q2 => by rw [rA g R q1 q2 (by omega), yA g R q1 (by omega) (by omega), s5.ai]
                have cI : ∀ i, 306 ≤ i → i < 314 + 9 * S → mxC c (upd c44 (314 + 9 * S) (nI S4)) i = mxC c c4' i := fun i q1 q2 => by rw [mx_i q1, mx_i q1, pk_un (by omega), yc i (by omega)]
                rw [show S4 - S = (S4 - (S + 1)) + 1 by omega]
                refine Or.inr ⟨by omega, by omega, Or.inr ⟨blkOk_ag (er4 900 (by decide) (by decide)) (er4 901 (by decide) (by decide)) (er4 902 (by decide) (by decide)) (er4 903 (by decide) (by decide)) (blkOk_c (fun k hk => cI _ (by omega) (by omega)) (mx_2.trans mx_2.symm) Q'), by omega, R4, S4, by omega, by omega, by omega, Nat.le_refl _, ?_, ?_, ?_, ?_, ?_, SQ_nl _ _ _ _⟩⟩
                · rw [mx_i (by omega), pk_us]
                · rw [eA]; exact t3
                · rw [eA]; exact t1
                · rw [eA]; exact t2
                · rw [show 3 - d - 1 = 3 - (d + 1) by omega]
                  exact SQ_ag2 _ _ _ _ _ _ (fun i q1 q2 => ⟨rA 900 i (by decide) (by decide) (by omega), rA 901 i (by decide) (by decide) (by omega), rA 902 i (by decide) (by decide) (by omega), rA 903 i (by decide) (by decide) (by omega), rP i (by omega) (by omega)⟩) (SQ_cl (a0 := S + 1) _ _ _ _ _ _ (Nat.le_refl _) (fun i q1 q2 => by rw [mx_i (by omega), mx_i (by omega), pk_un (by omega)]) (mx_2.trans mx_2.symm) (mx_3.trans mx_3.symm) (mx_4.trans mx_4.symm) ySQ)
            · have F3 := FMm_k M7 n6 F2
              have F6 := FMm_w F3 (j := 314 + 9 * S) (v := hGi k8 1224 m)
              refine Or.inr ⟨h8, _, k, a, ?_, ?_, FCc_k C7 n5 F1, F6⟩
              · rw [lp1, y1, lpe, re, n3', bind_s, bind_s, if_neg fne]
              · rw [er1, y2, j168 k8 n4 (n6.gr 1220 m), ml1220 F3.2.1, if_pos (inB_nI (by omega) (by decide)), letH_e, nI_clamp (by omega)]
          · obtain ⟨h', e', F4'⟩ := bad_168 (rec := rec) hS F2 true
            exact Or.inr ⟨hc4, h', k, a, lp1.trans y1, er1.trans (y2.trans e'), F1, F4'⟩
        · have F3 := FMm_k M2 s6 F2
          obtain ⟨G, hG⟩ := FU_s
          obtain ⟨h', e', F4⟩ := bad_168 (rec := rec) hS F3 true
          refine Or.inr ⟨h3, h', k, a, ?_, ?_, FCc_k C2 s5 F1, F4⟩
          · rw [lp, mt hS hd, bind_s, if_pos rfl, hstep, a1, bind_s, b1, bind_s, if_pos rfl, s3, bind_s, if_neg fne]
          · rw [er, b2, bind_s, s1, bind_s, s4, bind_s, hG, bad_140 F3, e']
      · obtain ⟨h', e', F4⟩ := bad_rest (rec := rec) hS F2 (nI d) true
        refine Or.inr ⟨hc', h', k, a, ?_, ?_, F1, F4⟩
        · rw [lp, mt hS hd, bind_s, if_pos rfl, hstep, a1, bind_s, b1, bind_s, if_neg fne]
        · rw [er, b2, bind_s, e']
    · have d3 : d = 3 := by omega
      obtain ⟨h1, a1, a2, a3⟩ := md hS d3
      obtain ⟨k1, b1, b2⟩ := rs_deep (rec := rec) M e24 hS (nI kk)
      exact Or.inr ⟨h1, k1, _, _, by rw [lp, a1, bind_s, if_neg fne], by rw [d3]; exact b1, FCc_k C a2 a3, b2⟩
  · have s30 : S = 30 := by omega
    obtain ⟨h1, a1, a2, a3⟩ := mf s30
    obtain ⟨k1, b1, b2⟩ := rs_full (rec := rec) M (e24.trans (by rw [s30])) (nI d) (nI kk) true
    exact Or.inr ⟨h1, k1, _, _, by rw [lp, a1, bind_s, if_neg fne], b1, FCc_k C a2 a3, b2⟩
/-- no step's word -/
theorem st_no (W : WS Yc Ym x t s wk wr m n T P hc0 hm0 cL c w w4 hc hm p R S d c4) (n3 : n ≤ 300) (hi : i ≤ p) (z0 : tK T n p ≠ 0) (z29 : tI T n p ≠ some 29) (z : ∀ j, tI T n p = some j → ¬ (j = 21 ∨ j = 22 ∨ j = 23 ∨ j = 24 ∨ j = 30 ∨ j = 25 ∨ j = 28)) (hw : stW (tI T n p) = -1) :
    SO1 Yc Ym x t s wk wr m n T P hc0 hm0 cL c w w4 hc p R S d c4 (F + 1) i (M_readStep_b Ym rec m (nI d) hm) := by
  obtain ⟨C, M, ⟨e24, e05⟩, e6, e7, e1⟩ := W
  have pn := C.2.2.2.1.2.1
  have lp := lp_step (s := s) (wk := wk) (wr := wr) (F := F) (i := i) C.2.2.2.1 (by omega) z0 z29
  obtain ⟨h1, a1, a2, a3⟩ := may_el (wr := wr) (wk := wk) C.2.2.2.1 z
  obtain ⟨k1, b1, b2⟩ := rs_none (rec := rec) M hw (nI d)
  exact Or.inr ⟨h1, k1, _, _, by rw [lp, a1, bind_s, if_neg fne], b1, FCc_k C a2 a3, b2⟩
end STQ
