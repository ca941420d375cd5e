/-! ===== a finale read ===== -/
section RFJ
variable {Yc Ym : Ly} {x t s rd m n : Nat} {T : Nat → Int32} {P : Nat → Prop} {hc0 hm0 hc hm h : Hp} {p p0 : Nat} {c c' : Nat → Int32} {w : Nat → Int64} {k L : Nat}
theorem fin_b {kk aa : Nat} (hk : k < 8) (F : FMm Ym m hm0 h kk aa) : ∃ h', ((M_readFinale_J27 Ym m (nI k) h).bind fun q13 => (M_isSign Ym m 59 q13).bind fun q14 => M_must Ym m q14 q13) = some h' ∧ FMm Ym m hm0 h' kk aa := by
  have j2 : (2470 : Int32) + nI k = nI (2304 + (166 + k)) := by rw [zlit, nI_add, show 2470 + k = 2304 + (166 + k) by omega]
  have F4 := FMm_w F (j := 166 + k) (v := 0)
  unfold M_readFinale_J27
  rw [m_readTurns_b F.2.2, bind_s, j2, ml1220 F.2.1, if_pos (inB_nI (by omega) (by decide)), letH_e, nI_clamp (by omega), if_neg (nz_b F4), bind_s, semi_bad F4]
  exact ⟨_, rfl, F4⟩
theorem PM_wz {z : Nat} {v : Int32} (C : PM Ym m n T hm0 h p c w) (hk : k < 576) (hz : z = 2304 + k) : PM Ym m n T hm0 (hTi h (hGr h 1220 m) z v) p (upd c k v) w := by
  rw [hz]
  exact PM_w C hk
theorem r_finale (C : PC Yc x t s n T P hc0 hc p c c w) (M : PM Ym m n T hm0 hm p c w) (G : GB c w) (os : isO Yc 4 s) (ot : isO Yc 7 t) (ord : isO Yc 5 rd) (prd : P rd) (hP : ∀ a, shR hc0 s a → P a) (z1 : tI T n p = some 9) :
    OC Yc Ym x t s m n T P hc0 hm0 p (SR_readFinale Yc rd t s hc) ((M_readFinale Ym m hm).bind fun q13 => (M_isSign Ym m 59 q13).bind fun q14 => M_must Ym m q14 q13) := by
  have zK := tI_0 z1
  have Vb := G.1
  have l1 := VC_l1 Vb
  have l3 := VC_l3 Vb
  have g0 : ∀ {h c' cn' w'} {p' : Nat}, PC Yc x t s n T P hc0 h p' c' cn' w' → hGi h 607 (hGr h 400 s) = c' 3 := fun A => A.2.2.2.2.1.1.2.2.2.1
  have i2307 : inB 2307 2880 = true := by decide
  have FUn : ∃ q, FU = q + 8 := ⟨4000000 - 8, rfl⟩
  unfold SR_readFinale
  rw [g0 C, VC_e3 Vb]
  by_cases h8 : cN c 3 < 8
  · obtain ⟨h1, a1, a2, a3, _⟩ := TC_adv C.2.2.2.1
    have C1 := PC_k C a2 a3
    have N := c_new C1 os ot (hP s (Or.inl rfl)) Vb.1 G.2.1 (so := 3) (by decide) rfl h8
    have NM := m_new M Vb.1 (so := 3) (by decide) rfl h8
    rw [if_pos (show nI (cN c 3) < 8 from nI_lt (b := 8) h8 (by omega)), a1, bind_s, g0 C1, VC_e3 Vb]
    unfold M_readFinale
    by_cases ok : newOk T n (tE T n p) c w
    · obtain ⟨h2, e1, C2⟩ := N.1 ok
      obtain ⟨k2, f1, M2⟩ := NM.1 ok
      have hp1 := tE_gt (T := T) C.2.2.2.1.2.1 (by omega)
      have hp2 := tE_gt (T := T) C1.2.2.2.1.2.1 (isNm_0 ok.1)
      have Vn2 := VN_new G.2.1 (so := 3) (k := cN c 3) (v := lN (tW T n (tE T n p))) (by decide) h8 rfl (fun so' h1 => (cnt8 Vb.1 h1).2) ok.2
      have C3 := rd_zero (z := nI 0) C2 os ot ord prd
      have s501 : hGi (hSi h2 501 rd (nI 0)) 501 rd = nI 0 := by rw [gi_si, if_pos ⟨rfl, rfl⟩]
      rw [show To_passNew Yc t s 9 (nI (cN c 3)) h1 = some (true, h2) from e1, bind_s, if_pos rfl, show M_readNew Ym m 3 8 hm = some (nI (cN c 3), k2) from f1, bind_s, if_pos M2.2.2.2.1, M2.2.2.1.2.2.1]
      unfold SR_readTurns
      rw [letH_e]
      by_cases k1 : tK T n (tE T n (tE T n p)) = 1
      · rw [if_pos (mk1.mpr k1)]
        have NQ1 : NQ c (upd c 3 (nI (cN c 3 + 1))) (vp_updL w (8 * 3 + cN c 3) (lN (tW T n (tE T n p)))) := by
          refine ⟨Vb.1, Vn2, ?_⟩
          have e50 := nmT_up (so := 3) (k := cN c 3) (c := c) (by decide) (by omega) rfl
          have l50 := nmT_lt Vb.1 (so := 3) (by decide) h8
          have e51 : nmT (upd c 3 (nI (cN c 3 + 1))) = nmT c + 1 := e50.1
          omega
        have e1' : cN (upd c 3 (nI (cN c 3 + 1))) 1 = cN c 1 := cN_cell (pk_un (by decide))
        have J := j_turns (Yc := Yc) (Ym := Ym) (x := x) (hc0 := hc0) (hm0 := hm0) (T := T) (B := 174 + 6 * cN c 3) (mx := 6) (c := c) (P := P) c os ot ord prd NQ1 e1' (by omega) (by omega) (by decide) FU 0 FU (Nat.zero_le _) (by have : FU = 4000000 := rfl; omega) (by have : FU = 4000000 := rfl; omega) _ k2 _ c C3 M2 s501 (fun j _ => rfl) (fun j hj => absurd hj (by omega))
        have jb : (2478 : Int32) + 6 * nI (cN c 3) = nI (2304 + (174 + 6 * cN c 3)) := by rw [zlit 2478, zlit 6, pk_mul, nI_add, show 2478 + 6 * cN c 3 = 2304 + (174 + 6 * cN c 3) by omega]
        have j2 : (2470 : Int32) + nI (cN c 3) = nI (2304 + (166 + cN c 3)) := by rw [zlit, nI_add, show 2470 + cN c 3 = 2304 + (166 + cN c 3) by omega]
        unfold M_readFinale_J27 M_readTurns
        rw [jb, j2]
        rcases J with ⟨hc', hm', p', cm', L, r1, r2, C4, M4, r5, r6, r7, r8, r9, r10, r11, r12⟩ | ⟨hc', hm', kk, aa, r1, r2, F, F'⟩ | ⟨hc', hm', p', cm', L, r1, r2, F, M4, r5, r6⟩
        · have hL : 1 ≤ L := r9 k1
          have w0 : cm' 3 = nI (cN c 3) := (r11 3 (by omega)).trans (VC_e3 Vb)
          have M5 := PM_w M4 (k := 166 + cN c 3) (v := nI L) (by omega)
          have M6 := PM_w1 M5 (k := 3) (v := cN c 3) (z := Int32.toNatClampNeg 2307) (by decide) (by rw [pk_un (by omega)]; exact w0) rfl
          have hcc : ∀ i, ¬ (i = 3 ∨ i = 166 + cN c 3 ∨ (174 + 6 * cN c 3 ≤ i ∧ i < 174 + 6 * cN c 3 + L)) → upd (upd cm' (166 + cN c 3) (nI L)) 3 (nI (cN c 3 + 1)) i = c i := fun i hi => by rw [pk_un (by omega), pk_un (by omega)]; exact r11 i (by omega)
          have w3 : upd (upd cm' (166 + cN c 3) (nI L)) 3 (nI (cN c 3 + 1)) 3 = nI (cN c 3 + 1) := pk_us ..
          have wl : upd (upd cm' (166 + cN c 3) (nI L)) 3 (nI (cN c 3 + 1)) (166 + cN c 3) = nI L := by rw [pk_un (by omega), pk_us]
          have wv : ∀ j, j < L → upd (upd cm' (166 + cN c 3) (nI L)) 3 (nI (cN c 3 + 1)) (174 + 6 * cN c 3 + j) = cm' (174 + 6 * cN c 3 + j) := fun j hj => by rw [pk_un (by omega), pk_un (by omega)]
          obtain ⟨G', K⟩ := fin_gb G rfl h8 ⟨hL, r8⟩ hcc w3 wl (fun j hj => nB_cell (wv j hj) (r12 j hj).2) Vn2
          have o6 : isO Yc 6 (hGr hc' 400 s) := C4.2.2.1.1 400 6 rfl s os
          have RS1 := fin_rs C4.2.1 C4.2.2.1 os ord C4.2.2.2.2.1 Vb rfl h8 ⟨hL, r8⟩ hcc w3 wl (fun j hj => ((r12 j hj).1).trans (wv j hj).symm) K
          have Kf1 : Kf Yc (hGr hc' 400 s) hc' (fnH hc' (hGr hc' 400 s) (hGr hc' 500 rd) (cN c 3) L) := fin_kf o6
          have N1 : RN (fnH hc' (hGr hc' 400 s) (hGr hc' 500 rd) (cN c 3) L) s (upd (upd cm' (166 + cN c 3) (nI L)) 3 (nI (cN c 3 + 1))) (vp_updL w (8 * 3 + cN c 3) (lN (tW T n (tE T n p)))) := by
            refine RN_cnt (c := upd c 3 (nI (cN c 3 + 1))) (fun so hso => ?_) (RN_o C4.2.1 os (isO_ne os o6 (by decide)) Kf1 C4.2.2.2.2.2)
            by_cases z : so = 3
            · subst z
              rw [show manyI 3 = 3 from rfl, cN_us (by omega), cN_us (by omega)]
            · have m1' : manyI so ≠ 3 := fun q => z (many_inj (b := 3) q)
              have ml := many_lt hso
              rw [cN_cell (hcc _ (show ¬ (manyI so = 3 ∨ manyI so = 166 + cN c 3 ∨ (174 + 6 * cN c 3 ≤ manyI so ∧ manyI so < 174 + 6 * cN c 3 + L)) by omega)), cN_cell (pk_un m1')]
          have r400 : hGr hc' 400 s = hGr hc0 400 s := C4.1.2.2.1 400 s
          have Cb := PC_f C4 Kf1 (by rw [r400]; exact hP _ (Or.inr (Or.inl rfl))) (isO_ne o6 ot (by decide)) ot RS1 N1
          have g24 : hGr k2 1220 m = hGr hm' 1220 m := (M2.1.2.2.1 1220 m).trans (M4.1.2.2.1 1220 m).symm
          rw [show SR_readTurns_L8 Yc rd t s 6 FU 0 (hSi h2 501 rd 0) = some (true, hc') from r1, bind_s, if_pos rfl, r10, if_neg (show ¬ nI L = 0 from fun q => by have := (nI_eq (b := 0) (by omega) (by omega)).mp q; omega), addFin_s C4.2.1 o6 ord h8 r8 ((g0 C4).trans (VC_e3 Vb)), bind_s, show M_readTurns_L2 Ym m (nI (2304 + (174 + 6 * cN c 3))) 6 FU 0 k2 = some (nI L, hm') from r2, bind_s, g24, ml1220 M4.2.1, if_pos (inB_nI (by omega) (by decide)), letH_e, nI_clamp (by omega), if_pos M5.2.2.2.1, ml1220 M5.2.1, if_pos i2307, if_pos i2307, letH_e, bind_s]
          exact fin_semi Cb M6 G' (by omega)
        · have g24 : hGr k2 1220 m = hGr hm' 1220 m := (M2.1.2.2.1 1220 m).trans (F'.1.2.2.1 1220 m).symm
          have F4 := FMm_w F' (j := 166 + cN c 3) (v := 0)
          rw [show SR_readTurns_L8 Yc rd t s 6 FU 0 (hSi h2 501 rd 0) = some (false, hc') from r1, bind_s, if_neg fne, show M_readTurns_L2 Ym m (nI (2304 + (174 + 6 * cN c 3))) 6 FU 0 k2 = some (0, hm') from r2, bind_s, g24, ml1220 F'.2.1, if_pos (inB_nI (by omega) (by decide)), letH_e, nI_clamp (by omega), if_neg (nz_b F4), bind_s, semi_bad F4]
          exact OC_f F F4
        · have g24 : hGr k2 1220 m = hGr hm' 1220 m := (M2.1.2.2.1 1220 m).trans (M4.1.2.2.1 1220 m).symm
          have M5 := PM_w M4 (k := 166 + cN c 3) (v := nI L) (by omega)
          have M6 := PM_wz (z := Int32.toNatClampNeg 2307) (v := hAi (hTi hm' (hGr hm' 1220 m) (2304 + (166 + cN c 3)) (nI L)) (hGr (hTi hm' (hGr hm' 1220 m) (2304 + (166 + cN c 3)) (nI L)) 1220 m) (Int32.toNatClampNeg 2307) + 1) M5 (k := 3) (by decide) rfl
          obtain ⟨k9, d1, d2, d3⟩ := m_must_f (Y := Ym) M6.2.2.1 M6.2.2.2.1
          rw [show SR_readTurns_L8 Yc rd t s 6 FU 0 (hSi h2 501 rd 0) = some (false, hc') from r1, bind_s, if_neg fne, show M_readTurns_L2 Ym m (nI (2304 + (174 + 6 * cN c 3))) 6 FU 0 k2 = some (nI L, hm') from r2, bind_s, g24, ml1220 M4.2.1, if_pos (inB_nI (by omega) (by decide)), letH_e, nI_clamp (by omega), if_pos M5.2.2.2.1, ml1220 M5.2.1, if_pos i2307, if_pos i2307, letH_e, bind_s, m_sign M6.2.2.1, r5, bind_s]
          exact Or.inr ⟨hc', k9, _, _, rfl, d1, F, FMm_k M6 d2 d3⟩
      · obtain ⟨k3, b1, b2, b3⟩ := m_amiss (Y := Ym) M2.2.2.1 M2.2.2.2.1
        have F' := FMm_k M2 b2 b3
        obtain ⟨hb', e', F2⟩ := fin_b h8 F'
        have C4 := C3.2.2.2.1
        obtain ⟨q, hq⟩ := FUn
        rw [if_neg (fun q => k1 (mk1.mp q)), show M_amiss Ym m k2 = some k3 from b1, bind_s]
        have cls : ∃ hx, ((SR_readTurns_L8 Yc rd t s 6 FU 0 (hSi h2 501 rd 0)).bind fun q7 => if q7.1 = true then if hGi q7.2 501 rd = 0 then (To_blame Yc t 2 q7.2).bind fun q10 => some (q10.1, q10.2) else (St_addFinale Yc (hGr q7.2 400 s) (hGr q7.2 500 rd) (hGi q7.2 501 rd) q7.2).bind fun q13 => (To_passSemicolon Yc t q13).bind fun q14 => some (q14.1, q14.2) else some (false, q7.2)) = some (false, hx) ∧ FCc Yc t P hc0 hx (flt T n (tE T n (tE T n p)) 2) (tS T n (tE T n (tE T n p))) := by
          rw [hq, SR_readTurns_L8, if_neg (show ¬ (10 : Int32) < 0 by decide), c_isSemi (show TC Yc (hSi h2 501 rd 0) t n T _ from C4), bind_s]
          cases z : isSc T n (tE T n (tE T n p)) with
          | true =>
            obtain ⟨hx, d1, d2, d3⟩ := c_blame C4 2
            rw [if_pos rfl, bind_s, if_pos rfl, if_pos (show hGi (hSi h2 501 rd 0) 501 rd = 0 from s501), show To_blame Yc t 2 (hSi h2 501 rd 0) = some (false, hx) from d1, bind_s]
            exact ⟨hx, rfl, FCc_k C3 d2 d3⟩
          | false =>
            have zn : isNm T n (tE T n (tE T n p)) = false := by
              cases q : isNm T n (tE T n (tE T n p)) with
              | false => rfl
              | true => exact absurd (isNm_1 q).1 k1
            have zo : oldN T n (tE T n (tE T n p)) (upd c 3 (nI (cN c 3 + 1))) (vp_updL w (8 * 3 + cN c 3) (lN (tW T n (tE T n p)))) 1 = none := by unfold oldN; rw [zn]; rfl
            have e50 := nmT_up (so := 3) (k := cN c 3) (c := c) (by decide) (by omega) rfl
            have l50 := nmT_lt Vb.1 (so := 3) (by decide) h8
            have e51 : nmT (upd c 3 (nI (cN c 3 + 1))) = nmT c + 1 := e50.1
            obtain ⟨_, A2⟩ := c_see C3.2.1 os C4 C3.2.2.2.2.2 (show nmT (upd c 3 (nI (cN c 3 + 1))) ≤ 50 by omega) Vn2 (so := 1) (by decide) (by rw [show manyI 1 = 1 from rfl, cN_cell (pk_un (by decide))]; omega)
            obtain ⟨hx, d1, d2, d3⟩ := A2 zo
            have f3 : fltO T n (tE T n (tE T n p)) = flt T n (tE T n (tE T n p)) 2 := by unfold fltO; rw [zn]; rfl
            rw [f3] at d3
            rw [if_neg (by decide), show To_seeOld Yc t s 2 (hSi h2 501 rd 0) = some (false, hx) from d1, bind_s, if_neg fne, bind_s, if_neg fne]
            exact ⟨hx, rfl, FCc_k C3 d2 d3⟩
        obtain ⟨hx, y1, y2⟩ := cls
        have R := OC_f (x := x) (s := s) (n := n) (T := T) (p0 := p) y2 F2
        rw [← e', ← y1] at R
        exact R
    · obtain ⟨h2, e1, F⟩ := N.2 ok
      obtain ⟨k2, f1, F'⟩ := NM.2 ok
      obtain ⟨hb', e', F2⟩ := fin_b (k := 0) (by decide) F'
      have R := OC_f (x := x) (s := s) (n := n) (T := T) (p0 := p) F F2
      rw [← e'] at R
      rw [show To_passNew Yc t s 9 (nI (cN c 3)) h1 = some (false, h2) from e1, bind_s, if_neg fne, show M_readNew Ym m 3 8 hm = some (0, k2) from f1, bind_s, if_neg (nz_b F')]
      exact R
  · have e8 : cN c 3 = 8 := by omega
    obtain ⟨h1, e1, e2, e3⟩ := c_blame C.2.2.2.1 6
    obtain ⟨k1, f1, F'⟩ := m_full M Vb.1 (so := 3) (by decide) e8
    obtain ⟨hb', e', F2⟩ := fin_b (k := 0) (by decide) F'
    rw [flt_1 zK] at e3
    have R := OC_f (x := x) (s := s) (n := n) (T := T) (p0 := p) (FCc_k C e2 e3) F2
    rw [← e'] at R
    unfold M_readFinale
    rw [if_neg (show ¬ nI (cN c 3) < 8 by rw [e8]; decide), show To_blame Yc t 6 hc = some (false, h1) from e1, bind_s, show M_readNew Ym m 3 8 hm = some (0, k1) from f1, bind_s, if_neg (nz_b F')]
    exact R
end RFJ
