/-! ===== a book read ===== -/
def bkT4 (Y : Ly) (l0 : Nat) (k : Int32) (A : Nat) (z : Int32) (h : Hp) : Option Hp :=
  if inB (2398 + k) (lnY Y A) = true then
    letH (hTi h A (Int32.toNatClampNeg (2398 + k)) z) fun h16 =>
    if (hGi h16 1212 l0) = 0 then
      if inB 2306 (lnY Y (hGr h16 1220 l0)) = true then
        if inB 2306 (lnY Y (hGr h16 1220 l0)) = true then
          letH (hTi h16 (hGr h16 1220 l0) (Int32.toNatClampNeg 2306) ((hAi h16 (hGr h16 1220 l0) (Int32.toNatClampNeg 2306)) + 1)) fun h21 =>
          some h21
        else none
      else none
    else
      some h16
  else none
def bkT3 (Y : Ly) (l0 : Nat) (k : Int32) (h12 : Hp) : Option Hp :=
  (M_readTurns Y l0 (2410 + (10 * k)) 10 h12).bind fun q14 => bkT4 Y l0 k (hGr h12 1220 l0) q14.1 q14.2
def bkT2 (Y : Ly) (l0 : Nat) (k : Int32) (A : Nat) (z : Int32) (h : Hp) : Option Hp :=
  if inB (2392 + k) (lnY Y A) = true then
    letH (hTi h A (Int32.toNatClampNeg (2392 + k)) z) fun h12 => bkT3 Y l0 k h12
  else none
def bkT1 (Y : Ly) (l0 : Nat) (k : Int32) (h7 : Hp) : Option Hp :=
  (M_isMisses Y l0 h7).bind fun q9 => (M_behindWord Y l0 q9 1 6 h7).bind fun q10 => bkT2 Y l0 k (hGr h7 1220 l0) q10.1 q10.2
def bkT0 (Y : Ly) (l0 : Nat) (k : Int32) (A : Nat) (z : Int32) (h : Hp) : Option Hp :=
  if inB (2386 + k) (lnY Y A) = true then
    letH (hTi h A (Int32.toNatClampNeg (2386 + k)) z) fun h7 => bkT1 Y l0 k h7
  else none
theorem M_readBook_e (Y : Ly) (l0 : Nat) (h : Hp) : M_readBook Y l0 h = (M_readNew Y l0 2 6 h).bind fun q1 => (M_isFrom Y l0 q1.2).bind fun q2 => (M_must Y l0 q2 q1.2).bind fun q3 => (M_readTold Y l0 4 0 q3).bind fun q5 => bkT0 Y l0 q1.1 (hGr q3 1220 l0) q5.1 q5.2 := rfl
section RBO
variable {Yc Ym : Ly} {x t s rd m n : Nat} {T : Nat → Int32} {P : Nat → Prop} {hc0 hm0 hc hm h : Hp} {p p0 : Nat} {c c' : Nat → Int32} {w : Nat → Int64} {k L kk aa : Nat} {A : Nat}
theorem bo_f4 (hk : k < 6) (F : FMm Ym m hm0 h kk aa) (hA : A = hGr h 1220 m) (z : Int32) : ∃ h', bkT4 Ym m (nI k) A z h = some h' ∧ FMm Ym m hm0 h' kk aa := by
  have j2 : (2398 : Int32) + nI k = nI (2304 + (94 + k)) := by rw [zlit, nI_add, show 2398 + k = 2304 + (94 + k) by omega]
  have F4 := FMm_w F (j := 94 + k) (v := z)
  unfold bkT4
  rw [hA, j2, ml1220 F.2.1, if_pos (inB_nI (by omega) (by decide)), letH_e, nI_clamp (by omega), if_neg (nz_b F4)]
  exact ⟨_, rfl, F4⟩
theorem bo_f3 (hk : k < 6) (F : FMm Ym m hm0 h kk aa) : ∃ h', bkT3 Ym m (nI k) h = some h' ∧ FMm Ym m hm0 h' kk aa := by
  unfold bkT3
  rw [m_readTurns_b F.2.2, bind_s]
  exact bo_f4 hk F rfl 0
theorem bo_f2 (hk : k < 6) (F : FMm Ym m hm0 h kk aa) (hA : A = hGr h 1220 m) (z : Int32) : ∃ h', bkT2 Ym m (nI k) A z h = some h' ∧ FMm Ym m hm0 h' kk aa := by
  have j2 : (2392 : Int32) + nI k = nI (2304 + (88 + k)) := by rw [zlit, nI_add, show 2392 + k = 2304 + (88 + k) by omega]
  have F4 := FMm_w F (j := 88 + k) (v := z)
  unfold bkT2
  rw [hA, j2, ml1220 F.2.1, if_pos (inB_nI (by omega) (by decide)), letH_e, nI_clamp (by omega)]
  exact bo_f3 hk F4
theorem bo_f1 (hk : k < 6) (F : FMm Ym m hm0 h kk aa) : ∃ h', bkT1 Ym m (nI k) h = some h' ∧ FMm Ym m hm0 h' kk aa := by
  obtain ⟨b, e⟩ := totMisses (Y := Ym) (h := h) (m := m)
  unfold bkT1
  rw [e, bind_s, bw_b F, bind_s]
  exact bo_f2 hk F rfl 0
theorem bo_f0 (hk : k < 6) (F : FMm Ym m hm0 h kk aa) (hA : A = hGr h 1220 m) (z : Int32) : ∃ h', bkT0 Ym m (nI k) A z h = some h' ∧ FMm Ym m hm0 h' kk aa := by
  have j2 : (2386 : Int32) + nI k = nI (2304 + (82 + k)) := by rw [zlit, nI_add, show 2386 + k = 2304 + (82 + k) by omega]
  have F4 := FMm_w F (j := 82 + k) (v := z)
  unfold bkT0
  rw [hA, j2, ml1220 F.2.1, if_pos (inB_nI (by omega) (by decide)), letH_e, nI_clamp (by omega)]
  exact bo_f1 hk F4
theorem r_book (C : PC Yc x t s n T P hc0 hc p c c w) (M : PM Ym m n T hm0 hm p c w) (G : GB c w) (os : isO Yc 4 s) (ot : isO Yc 7 t) (ord : isO Yc 5 rd) (prd : P rd) (hP : ∀ a, shR hc0 s a → P a) (z1 : tI T n p = some 6) :
    OC Yc Ym x t s m n T P hc0 hm0 p (SR_readBook Yc rd t s hc) ((M_readBook Ym m hm).bind fun q13 => (M_isSign Ym m 59 q13).bind fun q14 => M_must Ym m q14 q13) := by
  have zK := tI_0 z1
  have Vb := G.1
  have l0 := VC_l0 Vb
  have l1 := VC_l1 Vb
  have l2 := VC_l2 Vb
  have e2c : c 2 = nI (cN c 2) := Vb.1.2.2.1.1
  have g0 : ∀ {h c' cn' w'} {p' : Nat}, PC Yc x t s n T P hc0 h p' c' cn' w' → hGi h 415 s = c' 2 := fun A => A.2.2.2.2.1.1.2.2.1
  have i2306 : inB 2306 2880 = true := by decide
  have gm : ∀ {h h' c' c'' w' w''} {p' p'' : Nat}, PM Ym m n T hm0 h p' c' w' → PM Ym m n T hm0 h' p'' c'' w'' → hGr h 1220 m = hGr h' 1220 m := fun A B => (A.1.2.2.1 1220 m).trans (B.1.2.2.1 1220 m).symm
  have gf : ∀ {h h' c' w'} {p' kk aa : Nat}, PM Ym m n T hm0 h p' c' w' → FMm Ym m hm0 h' kk aa → hGr h 1220 m = hGr h' 1220 m := fun A B => (A.1.2.2.1 1220 m).trans (B.1.2.2.1 1220 m).symm
  unfold SR_readBook
  rw [g0 C, e2c, M_readBook_e]
  by_cases h8 : cN c 2 < 6
  · obtain ⟨h1, a1, a2, a3, _⟩ := TC_adv C.2.2.2.1
    have C1 := PC_k C a2 a3
    have N := c_new C1 os ot (hP s (Or.inl rfl)) Vb.1 G.2.1 (so := 2) (by decide) rfl h8
    have NM := m_new M Vb.1 (so := 2) (by decide) rfl h8
    rw [if_pos (show nI (cN c 2) < 6 from nI_lt (b := 6) h8 (by omega)), a1, bind_s, g0 C1, e2c]
    by_cases ok : newOk T n (tE T n p) c w
    · obtain ⟨h2, e1, C2⟩ := N.1 ok
      obtain ⟨k2, f1, M2⟩ := NM.1 ok
      have hp1 := tE_gt (T := T) C.2.2.2.1.2.1 (by omega)
      have hp2 := tE_gt (T := T) C1.2.2.2.1.2.1 (isNm_0 ok.1)
      have Vn2 := VN_new G.2.1 (so := 2) (k := cN c 2) (v := lN (tW T n (tE T n p))) (by decide) (by omega) rfl (fun so' h1 => (cnt8 Vb.1 h1).2) ok.2
      have e50 := nmT_up (so := 2) (k := cN c 2) (c := c) (by decide) (by omega) rfl
      have l50 := nmT_lt Vb.1 (so := 2) (by decide) h8
      have e51 : nmT (upd c 2 (nI (cN c 2 + 1))) = nmT c + 1 := e50.1
      have NQ0 : NQ c (upd c 2 (nI (cN c 2 + 1))) (vp_updL w (8 * 2 + cN c 2) (lN (tW T n (tE T n p)))) := ⟨Vb.1, Vn2, by omega⟩
      rw [show To_passNew Yc t s 6 (nI (cN c 2)) h1 = some (true, h2) from e1, bind_s, if_pos rfl, show M_readNew Ym m 2 6 hm = some (nI (cN c 2), k2) from f1, bind_s, isFrom_s M2.2.2.1, bind_s]
      rcases j_word C2 M2 (i := 7) (by decide) with ⟨h3, k3, a3, b3, C3, M3, _, hp3⟩ | ⟨h3, k3, kk, aa, a3, b3, F, F'⟩
      · rw [show To_passWord Yc t 7 h2 = some (true, h3) from a3, bind_s, if_pos rfl, b3, bind_s]
        rcases j_old C3 M3 NQ0 os (so := 0) (by decide) (cN_cell (pk_un (by decide))) with ⟨a, h4, k4, a4, b4, C4, M4, e4, ha, hp4⟩ | ⟨h4, k4, kk, aa, a4, b4, F, F'⟩
        · have ha' : a < cN c 0 := ha
          have j1 : (2386 : Int32) + nI (cN c 2) = nI (2304 + (82 + cN c 2)) := by rw [zlit, nI_add, show 2386 + cN c 2 = 2304 + (82 + cN c 2) by omega]
          have j2 : (2392 : Int32) + nI (cN c 2) = nI (2304 + (88 + cN c 2)) := by rw [zlit, nI_add, show 2392 + cN c 2 = 2304 + (88 + cN c 2) by omega]
          have j3 : (2398 : Int32) + nI (cN c 2) = nI (2304 + (94 + cN c 2)) := by rw [zlit, nI_add, show 2398 + cN c 2 = 2304 + (94 + cN c 2) by omega]
          have jb : (2410 : Int32) + 10 * nI (cN c 2) = nI (2304 + (106 + 10 * cN c 2)) := by rw [zlit 2410, zlit 10, pk_mul, nI_add, show 2410 + 10 * cN c 2 = 2304 + (106 + 10 * cN c 2) by omega]
          have M5 := PM_w M4 (k := 82 + cN c 2) (v := nI a) (by omega)
          rw [show To_passOld Yc t s 0 h3 = some (true, h4) from a4, bind_s, if_pos rfl, show M_readTold Ym m 4 0 k3 = some (nI a, k4) from b4, bind_s]
          unfold bkT0
          rw [gm M3 M4, j1, ml1220 M4.2.1, if_pos (inB_nI (by omega) (by decide)), letH_e, nI_clamp (by omega)]
          unfold bkT1
          rw [isMisses_s M5.2.2.1, bind_s]
          rcases j_word C4 M5 (i := 8) (by decide) with ⟨h6, k6, a6, b6, C6, M6, _, hp6⟩ | ⟨h6, k6, kk, aa, a6, b6, F, F'⟩
          · rw [show To_passWord Yc t 8 h4 = some (true, h6) from a6, bind_s, if_pos rfl]
            rcases j_num C6 M6 (lo := 1) (hi := 6) (by decide) (by decide) with ⟨g, h7, k7, a7, b7, C7, M7, e7, hg, hp7⟩ | ⟨h7, k7, kk, aa, a7, b7, F, F'⟩
            · have M8 := PM_w M7 (k := 88 + cN c 2) (v := nI g) (by omega)
              have C8 := rd_zero (z := nI 0) C7 os ot ord prd
              have s501 : hGi (hSi h7 501 rd (nI 0)) 501 rd = nI 0 := by rw [gi_si, if_pos ⟨rfl, rfl⟩]
              have hc8 : ∀ i, ¬ (i = 82 + cN c 2 ∨ i = 88 + cN c 2) → upd (upd c (82 + cN c 2) (nI a)) (88 + cN c 2) (nI g) i = c i := fun i hi => by rw [pk_un (by omega), pk_un (by omega)]
              have cmc : ∀ i, i < 10 → cN (upd (upd c (82 + cN c 2) (nI a)) (88 + cN c 2) (nI g)) i = cN c i := fun i hi => cN_cell (hc8 i (by omega))
              have nbc : ∀ {i k : Nat}, i < 10 → nB c i k → nB (upd (upd c (82 + cN c 2) (nI a)) (88 + cN c 2) (nI g)) i k := fun {i k} hi h => nB_cell (hc8 i (by omega)) h
              have NQ1 : NQ (upd (upd c (82 + cN c 2) (nI a)) (88 + cN c 2) (nI g)) (upd c 2 (nI (cN c 2 + 1))) (vp_updL w (8 * 2 + cN c 2) (lN (tW T n (tE T n p)))) := by
                obtain ⟨v0, v1, v2, v3, v4, v5, v6, v7⟩ := Vb.1
                exact ⟨⟨nbc (by decide) v0, nbc (by decide) v1, nbc (by decide) v2, nbc (by decide) v3, nbc (by decide) v4, nbc (by decide) v5, nbc (by decide) v6, nbc (by decide) v7⟩, Vn2, by omega⟩
              have e1' : cN (upd c 2 (nI (cN c 2 + 1))) 1 = cN (upd (upd c (82 + cN c 2) (nI a)) (88 + cN c 2) (nI g)) 1 := by rw [cmc 1 (by decide)]; exact cN_cell (pk_un (by decide))
              have J := j_turns (Yc := Yc) (Ym := Ym) (x := x) (hc0 := hc0) (hm0 := hm0) (T := T) (B := 106 + 10 * cN c 2) (mx := 10) (c := c) (P := P) (upd (upd c (82 + cN c 2) (nI a)) (88 + cN c 2) (nI g)) os ot ord prd NQ1 e1' (by omega) (by omega) (by decide) FU 0 FU (Nat.zero_le _) (by have : FU = 4000000 := rfl; omega) (by have : FU = 4000000 := rfl; omega) _ _ _ _ C8 M8 s501 (fun j _ => rfl) (fun j hj => absurd hj (by omega))
              rw [show To_passNumber Yc t 1 6 h6 = some (true, h7) from a7, bind_s, if_pos rfl, show M_behindWord Ym m (decide (tI T n (tE T n (tE T n (tE T n (tE T n p)))) = some 8)) 1 6 _ = some (nI g, k7) from bw b6 b7, bind_s]
              unfold bkT2
              rw [gm M5 M7, j2, ml1220 M7.2.1, if_pos (inB_nI (by omega) (by decide)), letH_e, nI_clamp (by omega)]
              unfold SR_readTurns bkT3 M_readTurns
              rw [letH_e, jb]
              rcases J with ⟨hc', hm', p', cm', L, r1, r2, C9, M9, r5, r6, r7, r8, r9, r10, r11, r12⟩ | ⟨hc', hm', kk, aa, r1, r2, F, F'⟩ | ⟨hc', hm', p', cm', L, r1, r2, F, M9, r5, r6⟩
              · have w0 : cm' 2 = nI (cN c 2) := (r11 2 (by omega)).trans ((hc8 2 (by omega)).trans e2c)
                have M10 := PM_w M9 (k := 94 + cN c 2) (v := nI L) (by omega)
                have M11 := PM_w1 M10 (k := 2) (v := cN c 2) (z := Int32.toNatClampNeg 2306) (by decide) (by rw [pk_un (by omega)]; exact w0) rfl
                have hcc : ∀ i, ¬ (i = 2 ∨ i = 82 + cN c 2 ∨ i = 88 + cN c 2 ∨ i = 94 + cN c 2 ∨ (106 + 10 * cN c 2 ≤ i ∧ i < 106 + 10 * cN c 2 + L)) → upd (upd cm' (94 + cN c 2) (nI L)) 2 (nI (cN c 2 + 1)) i = c i := fun i hi => by rw [pk_un (by omega), pk_un (by omega), r11 i (by omega)]; exact hc8 i (by omega)
                have w2 : upd (upd cm' (94 + cN c 2) (nI L)) 2 (nI (cN c 2 + 1)) 2 = nI (cN c 2 + 1) := pk_us ..
                have wl : upd (upd cm' (94 + cN c 2) (nI L)) 2 (nI (cN c 2 + 1)) (94 + cN c 2) = nI L := by rw [pk_un (by omega), pk_us]
                have wa : upd (upd cm' (94 + cN c 2) (nI L)) 2 (nI (cN c 2 + 1)) (82 + cN c 2) = nI a := by rw [pk_un (by omega), pk_un (by omega), r11 _ (by omega), pk_un (by omega), pk_us]
                have wg : upd (upd cm' (94 + cN c 2) (nI L)) 2 (nI (cN c 2 + 1)) (88 + cN c 2) = nI g := by rw [pk_un (by omega), pk_un (by omega), r11 _ (by omega), pk_us]
                have wv : ∀ j, j < L → upd (upd cm' (94 + cN c 2) (nI L)) 2 (nI (cN c 2 + 1)) (106 + 10 * cN c 2 + j) = cm' (106 + 10 * cN c 2 + j) := fun j hj => by rw [pk_un (by omega), pk_un (by omega)]
                obtain ⟨G', K⟩ := book_gb G rfl h8 ha' hg r8 hcc w2 wa wg wl (fun j hj => by have := nB_cell (wv j hj) (r12 j hj).2; rw [cmc 1 (by decide)] at this; exact this) Vn2
                have RS1 := book_rs (a := a) (g := g) C9.2.1 C9.2.2.1 os ord C9.2.2.2.2.1 G rfl h8 r8 hcc w2 wa wg wl (fun j hj => ((r12 j hj).1).trans (wv j hj).symm) K
                have Kf1 : Kf Yc s hc' (boH hc' s (hGr hc' 500 rd) (cN c 2) a g L) := book_kf os
                have N1 : RN (boH hc' s (hGr hc' 500 rd) (cN c 2) a g L) s (upd (upd cm' (94 + cN c 2) (nI L)) 2 (nI (cN c 2 + 1))) (vp_updL w (8 * 2 + cN c 2) (lN (tW T n (tE T n p)))) := by
                  refine RN_cnt (c := upd c 2 (nI (cN c 2 + 1))) (fun so hso => ?_) (book_rn C9.2.1 os C9.2.2.2.2.2)
                  by_cases z : so = 2
                  · subst z
                    rw [show manyI 2 = 2 from rfl, cN_us (by omega), cN_us (by omega)]
                  · have m1' : manyI so ≠ 2 := fun q => z (many_inj (b := 2) q)
                    have ml := many_lt hso
                    rw [cN_cell (hcc _ (show ¬ (manyI so = 2 ∨ manyI so = 82 + cN c 2 ∨ manyI so = 88 + cN c 2 ∨ manyI so = 94 + cN c 2 ∨ (106 + 10 * cN c 2 ≤ manyI so ∧ manyI so < 106 + 10 * cN c 2 + L)) by omega)), cN_cell (pk_un m1')]
                have Cb := PC_f C9 Kf1 (hP s (Or.inl rfl)) (isO_ne os ot (by decide)) ot RS1 N1
                rw [show SR_readTurns_L8 Yc rd t s 10 FU 0 (hSi h7 501 rd 0) = some (true, hc') from r1, bind_s, if_pos rfl, e4, e7, r10, addBook_s C9.2.1 os ord h8 r8 ((g0 C9).trans e2c), bind_s, show M_readTurns_L2 Ym m (nI (2304 + (106 + 10 * cN c 2))) 10 FU 0 _ = some (nI L, hm') from r2, bind_s]
                unfold bkT4
                rw [gm M8 M9, j3, ml1220 M9.2.1, if_pos (inB_nI (by omega) (by decide)), letH_e, nI_clamp (by omega), if_pos M10.2.2.2.1, ml1220 M10.2.1, if_pos i2306, if_pos i2306, letH_e, bind_s]
                exact fin_semi Cb M11 G' (by omega)
              · obtain ⟨hb', e', F2⟩ := bo_f4 h8 F' (gf M8 F') 0
                rw [show SR_readTurns_L8 Yc rd t s 10 FU 0 (hSi h7 501 rd 0) = some (false, hc') from r1, bind_s, if_neg fne, show M_readTurns_L2 Ym m (nI (2304 + (106 + 10 * cN c 2))) 10 FU 0 _ = some (0, hm') from r2, bind_s, e', bind_s, semi_bad F2]
                exact OC_f F F2
              · have M10 := PM_w M9 (k := 94 + cN c 2) (v := nI L) (by omega)
                have M11 := PM_wz (z := Int32.toNatClampNeg 2306) (v := hAi (hTi hm' (hGr hm' 1220 m) (2304 + (94 + cN c 2)) (nI L)) (hGr (hTi hm' (hGr hm' 1220 m) (2304 + (94 + cN c 2)) (nI L)) 1220 m) (Int32.toNatClampNeg 2306) + 1) M10 (k := 2) (by decide) rfl
                obtain ⟨k9, d1, d2, d3⟩ := m_must_f (Y := Ym) M11.2.2.1 M11.2.2.2.1
                rw [show SR_readTurns_L8 Yc rd t s 10 FU 0 (hSi h7 501 rd 0) = some (false, hc') from r1, bind_s, if_neg fne, show M_readTurns_L2 Ym m (nI (2304 + (106 + 10 * cN c 2))) 10 FU 0 _ = some (nI L, hm') from r2, bind_s]
                unfold bkT4
                rw [gm M8 M9, j3, ml1220 M9.2.1, if_pos (inB_nI (by omega) (by decide)), letH_e, nI_clamp (by omega), if_pos M10.2.2.2.1, ml1220 M10.2.1, if_pos i2306, if_pos i2306, letH_e, bind_s, m_sign M11.2.2.1, r5, bind_s]
                exact Or.inr ⟨hc', k9, _, _, rfl, d1, F, FMm_k M11 d2 d3⟩
            · obtain ⟨hb', e', F2⟩ := bo_f2 h8 F' (gf M5 F') 0
              rw [show To_passNumber Yc t 1 6 h6 = some (false, h7) from a7, bind_s, if_neg fne, show M_behindWord Ym m (decide (tI T n (tE T n (tE T n (tE T n (tE T n p)))) = some 8)) 1 6 _ = some (0, k7) from bw b6 b7, bind_s, e', bind_s, semi_bad F2]
              exact OC_f F F2
          · obtain ⟨hb', e', F2⟩ := bo_f2 h8 F' (gf M5 F') 0
            rw [show To_passWord Yc t 8 h4 = some (false, h6) from a6, bind_s, if_neg fne, show M_behindWord Ym m (decide (tI T n (tE T n (tE T n (tE T n (tE T n p)))) = some 8)) 1 6 _ = some (0, k6) from bw b6 (m_count_b F'.2.2 _ _), bind_s, e', bind_s, semi_bad F2]
            exact OC_f F F2
        · obtain ⟨hb', e', F2⟩ := bo_f0 h8 F' (gf M3 F') 0
          rw [show To_passOld Yc t s 0 h3 = some (false, h4) from a4, bind_s, if_neg fne, show M_readTold Ym m 4 0 k3 = some (0, k4) from b4, bind_s, e', bind_s, semi_bad F2]
          exact OC_f F F2
      · obtain ⟨hb', e', F2⟩ := bo_f0 h8 F' rfl 0
        rw [show To_passWord Yc t 7 h2 = some (false, h3) from a3, bind_s, if_neg fne, b3, bind_s, told_b F', bind_s, e', bind_s, semi_bad F2]
        exact OC_f F F2
    · obtain ⟨h2, e1, F⟩ := N.2 ok
      obtain ⟨k2, f1, F'⟩ := NM.2 ok
      obtain ⟨bc, ec⟩ := totFrom (Y := Ym) (h := k2) (m := m)
      obtain ⟨hb', e', F2⟩ := bo_f0 (k := 0) (by decide) F' rfl 0
      rw [show To_passNew Yc t s 6 (nI (cN c 2)) h1 = some (false, h2) from e1, bind_s, if_neg fne, show M_readNew Ym m 2 6 hm = some (0, k2) from f1, bind_s, ec, bind_s, must_b F', bind_s, told_b F', bind_s, show bkT0 Ym m 0 (hGr k2 1220 m) 0 k2 = some hb' from e', bind_s, semi_bad F2]
      exact OC_f F F2
  · have e8 : cN c 2 = 6 := by omega
    obtain ⟨h1, e1, e2, e3⟩ := c_blame C.2.2.2.1 6
    obtain ⟨k1, f1, F'⟩ := m_full M Vb.1 (so := 2) (by decide) e8
    obtain ⟨bc, ec⟩ := totFrom (Y := Ym) (h := k1) (m := m)
    obtain ⟨hb', e', F2⟩ := bo_f0 (k := 0) (by decide) F' rfl 0
    rw [flt_1 zK] at e3
    rw [if_neg (show ¬ nI (cN c 2) < 6 by rw [e8]; decide), show To_blame Yc t 6 hc = some (false, h1) from e1, bind_s, show M_readNew Ym m 2 6 hm = some (0, k1) from f1, bind_s, ec, bind_s, must_b F', bind_s, told_b F', bind_s, show bkT0 Ym m 0 (hGr k1 1220 m) 0 k1 = some hb' from e', bind_s, semi_bad F2]
    exact OC_f (FCc_k C e2 e3) F2
end RBO
