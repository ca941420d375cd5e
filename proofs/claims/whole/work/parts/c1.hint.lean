/-! ===== a hint read ===== -/
section RHJ
variable {Yc Ym : Ly} {x t s rd m n : Nat} {T : Nat → Int32} {P : Nat → Prop} {hc0 hm0 hc hm h : Hp} {p p0 : Nat} {c : Nat → Int32} {w : Nat → Int64} {k b l u r : Nat}
theorem hint_rn (S : CS Yc h x) (os : isO Yc 4 s) (h0 : k < 12) (R : RN h s c w) : RN (hH h s k b l u r) s (cH c k b l u r) w := by
  have A : ∀ {f j}, cArr f = true → isO Yc (f / 100) s → f ≠ 412 → hAi (hH h s k b l u r) (hGr h f s) j = hAi h (hGr h f s) j := by
    intro f j hf ho ne
    have nA : hGr h f s ≠ hGr h 412 s := fun z => ne (S.2.2.2.1 f 412 s s hf rfl ho os z).1
    unfold hH
    rw [ai_si, ai_ti, if_neg (fun z => nA z.1), ai_ti, if_neg (fun z => nA z.1), ai_ti, if_neg (fun z => nA z.1), ai_ti, if_neg (fun z => nA z.1)]
  refine RN_cnt (c := c) (fun so hso => ?_) (RN_eq R (by unfold hH; rw [gi_si, if_neg (by omega)]; rfl) (fun i => rfl) (fun i => A rfl os (by decide)) (fun i => A rfl os (by decide)))
  have : manyI so ≠ 5 := by unfold manyI; split <;> omega
  have ml := many_lt hso
  exact cN_cell (cH_o (by omega))
theorem PM_w1 {v z : Nat} (C : PM Ym m n T hm0 h p c w) (hk : k < 576) (e : c k = nI v) (hz : z = 2304 + k) : PM Ym m n T hm0 (hTi h (hGr h 1220 m) z (hAi h (hGr h 1220 m) z + 1)) p (upd c k (nI (v + 1))) w := by
  rw [hz, (C.2.2.2.2.1 k hk).trans e, nI_1]
  exact PM_w C hk
theorem bw {q : Bool} {lo hi v : Int32} {h1 h2 : Hp} (e1 : M_must Ym m q h = some h1) (e2 : M_count Ym m lo hi h1 = some (v, h2)) : M_behindWord Ym m q lo hi h = some (v, h2) := by
  unfold M_behindWord
  rw [e1, bind_s, e2, bind_s]
theorem bw_b {q : Bool} {lo hi : Int32} {kk aa : Nat} (F : FMm Ym m hm0 h kk aa) : M_behindWord Ym m q lo hi h = some (0, h) := bw (must_b F q) (m_count_b F.2.2 lo hi)
theorem r_hint (C : PC Yc x t s n T P hc0 hc p c c w) (M : PM Ym m n T hm0 hm p c w) (G : GB c w) (os : isO Yc 4 s) (ot : isO Yc 7 t) (hP : ∀ a, shR hc0 s a → P a) (z1 : tI T n p = some 10) :
    OC Yc Ym x t s m n T P hc0 hm0 p (SR_readHint Yc rd t s hc) ((M_readHint Ym m hm).bind fun q13 => (M_isSign Ym m 59 q13).bind fun q14 => M_must Ym m q14 q13) := by
  have zK := tI_0 z1
  have Vb := G.1
  have l1 := VC_l1 Vb
  have l2 := VC_l2 Vb
  have l4 := VC_l4 Vb
  have l5 := VC_l5 Vb
  have N := NQ_same G
  have i2309 : inB 2309 2880 = true := by decide
  have e5 : c 5 = nI (cN c 5) := Vb.1.2.2.2.2.2.1.1
  have g0 : ∀ {h c' cn' w'} {p' : Nat}, PC Yc x t s n T P hc0 h p' c' cn' w' → hGi h 418 s = c' 5 := fun A => A.2.2.2.2.1.1.2.2.2.2.2.1
  have m5 : ∀ {h w'} {p' : Nat}, PM Ym m n T hm0 h p' c w' → hAi h (hGr h 1220 m) (Int32.toNatClampNeg 2309) = nI (cN c 5) := fun A => (A.2.2.2.2.1 5 (by decide)).trans e5
  unfold SR_readHint M_readHint
  rw [g0 C, e5, ml1220 M.2.1, if_pos i2309, m5 M]
  by_cases h8 : cN c 5 < 12
  · rw [if_pos (show nI (cN c 5) < 12 from nI_lt (b := 12) h8 (by omega)), if_neg (show ¬ nI (cN c 5) = 12 from fun q => by have := (nI_eq (b := 12) (by omega) (by omega)).mp q; omega), M_readHint_J25, if_pos (show hGi hm 1212 m ≤ 0 by rw [M.2.2.2.1]; decide)]
    obtain ⟨h1, k1, a1, b1, C1, M1, _⟩ := j_adv C M
    have hp1 := tI_gt C.2.2.2.1.2.1 z1
    rw [a1, bind_s, b1, bind_s]
    rcases j_old C1 M1 N os (so := 2) (by decide) rfl with ⟨b, h2, k2, a2, b2, C2, M2, e2, hb, hp2⟩ | ⟨h2, k2, kk, aa, a2, b2, F, F'⟩
    · have hb' : b < cN c 2 := hb
      have pb := (Vb.2.2.2.2.1 b hb').2.1
      have pl7 : cN c (88 + b) < 7 := pb.1.2
      have hpl : hAi h2 (hGr h2 407 s) b = nI (cN c (88 + b)) := ((C2.2.2.2.2.1.2.2.1 b hb').2.1).trans pb.1.1
      have mpl : hAi k2 (hGr k2 1220 m) (Int32.toNatClampNeg (2392 + nI b)) = nI (cN c (88 + b)) := by
        rw [zlit, nI_add, show 2392 + b = 2304 + (88 + b) by omega, nI_clamp (by omega)]
        exact (M2.2.2.2.2.1 _ (by omega)).trans pb.1.1
      have ib : inB (2392 + nI b) 2880 = true := by rw [zlit, nI_add, show 2392 + b = 2304 + (88 + b) by omega]; exact inB_nI (by omega) (by decide)
      rw [show To_passOld Yc t s 6 h1 = some (true, h2) from a2, bind_s, if_pos rfl, show M_readTold Ym m 4 2 k1 = some (nI b, k2) from b2, bind_s, e2, Sh_hasBook_s C2.2.2.2.2.1.w Vb, isAt_nI hb' (by omega), bind_s, if_pos rfl, cl407 C2.2.1 os, if_pos (inB_nI (by omega) (by decide)), nI_clamp (by omega), hpl, SR_readHint_J55, isAt_s M2.2.2.1, bind_s, ml1220 M2.2.1, if_pos ib, mpl]
      rcases j_word C2 M2 (i := 11) (by decide) with ⟨h3, k3, a3, b3, C3, M3, _, hp3⟩ | ⟨h3, k3, kk, aa, a3, b3, F, F'⟩
      · rw [show To_passWord Yc t 11 h2 = some (true, h3) from a3, bind_s, if_pos rfl]
        rcases j_num C3 M3 (lo := 1) (hi := cN c (88 + b)) (by decide) (by omega) with ⟨l, h4, k4, a4, b4, C4, M4, e4, hl, hp4⟩ | ⟨h4, k4, kk, aa, a4, b4, F, F'⟩
        · rw [show To_passNumber Yc t 1 (nI (cN c (88 + b))) h3 = some (true, h4) from a4, bind_s, if_pos rfl, show M_behindWord Ym m (decide (tI T n (tE T n (tE T n p)) = some 11)) 1 (nI (cN c (88 + b))) k2 = some (nI l, k4) from bw b3 b4, bind_s, isIs_s M4.2.2.1, bind_s]
          rcases j_word C4 M4 (i := 12) (by decide) with ⟨h5, k5, a5, b5, C5, M5, _, hp5⟩ | ⟨h5, k5, kk, aa, a5, b5, F, F'⟩
          · rw [show To_passWord Yc t 12 h4 = some (true, h5) from a5, bind_s, if_pos rfl, b5, bind_s]
            rcases j_old C5 M5 N os (so := 1) (by decide) rfl with ⟨u, h6, k6, a6, b6, C6, M6, e6, hu, hp6⟩ | ⟨h6, k6, kk, aa, a6, b6, F, F'⟩
            · rw [show To_passOld Yc t s 2 h5 = some (true, h6) from a6, bind_s, if_pos rfl, show M_readTold Ym m 4 1 k5 = some (nI u, k6) from b6, bind_s, isBy_s M6.2.2.1, bind_s]
              rcases j_word C6 M6 (i := 13) (by decide) with ⟨h7, k7, a7, b7, C7, M7, _, hp7⟩ | ⟨h7, k7, kk, aa, a7, b7, F, F'⟩
              · rw [show To_passWord Yc t 13 h6 = some (true, h7) from a7, bind_s, if_pos rfl, b7, bind_s]
                rcases j_old C7 M7 N os (so := 4) (by decide) rfl with ⟨r, h8', k8, a8, b8, C8, M8, e8, hr, hp8⟩ | ⟨h8', k8, kk, aa, a8, b8, F, F'⟩
                · have hu' : u < cN c 1 := hu
                  have hr' : r < cN c 4 := hr
                  obtain ⟨G', K⟩ := hint_gb G rfl h8 hb' hl hu' hr'
                  have RS1 := hint_rs (b := b) (l := l) (u := u) (r := r) C8.2.1 C8.2.2.1 os C8.2.2.2.2.1 Vb rfl h8 K
                  have N1 := hint_rn (b := b) (l := l) (u := u) (r := r) C8.2.1 os h8 C8.2.2.2.2.2
                  have Cb := PC_f C8 (hint_kf os) (hP s (Or.inl rfl)) (isO_ne os ot (by decide)) ot RS1 N1
                  have W1 := PM_w M8 (k := 222 + cN c 5) (v := nI b) (by omega)
                  have W2 := PM_w W1 (k := 234 + cN c 5) (v := nI l) (by omega)
                  have W3 := PM_w W2 (k := 246 + cN c 5) (v := nI u) (by omega)
                  have W4 := PM_w W3 (k := 258 + cN c 5) (v := nI r) (by omega)
                  have W5 := PM_w1 W4 (k := 5) (v := cN c 5) (z := Int32.toNatClampNeg 2309) (by decide) (by rw [pk_un (by omega), pk_un (by omega), pk_un (by omega), pk_un (by omega)]; exact e5) rfl
                  have j1 : (2526 : Int32) + nI (cN c 5) = nI (2304 + (222 + cN c 5)) := by rw [zlit, nI_add, show 2526 + cN c 5 = 2304 + (222 + cN c 5) by omega]
                  have j2 : (2538 : Int32) + nI (cN c 5) = nI (2304 + (234 + cN c 5)) := by rw [zlit, nI_add, show 2538 + cN c 5 = 2304 + (234 + cN c 5) by omega]
                  have j3 : (2550 : Int32) + nI (cN c 5) = nI (2304 + (246 + cN c 5)) := by rw [zlit, nI_add, show 2550 + cN c 5 = 2304 + (246 + cN c 5) by omega]
                  have j4 : (2562 : Int32) + nI (cN c 5) = nI (2304 + (258 + cN c 5)) := by rw [zlit, nI_add, show 2562 + cN c 5 = 2304 + (258 + cN c 5) by omega]
                  rw [show To_passOld Yc t s 14 h7 = some (true, h8') from a8, bind_s, if_pos rfl, show M_readTold Ym m 4 4 k7 = some (nI r, k8) from b8, bind_s, e4, e6, e8, addHint_s C8.2.1 os h8 ((g0 C8).trans e5), bind_s, if_pos (show hGi k8 1212 m ≤ 0 by rw [M8.2.2.2.1]; decide), j1, j2, j3, j4, ml1220 M8.2.1, if_pos (inB_nI (by omega) (by decide)), letH_e, nI_clamp (by omega), ml1220 W1.2.1, if_pos (inB_nI (by omega) (by decide)), letH_e, nI_clamp (by omega), ml1220 W2.2.1, if_pos (inB_nI (by omega) (by decide)), letH_e, nI_clamp (by omega), ml1220 W3.2.1, if_pos (inB_nI (by omega) (by decide)), letH_e, nI_clamp (by omega), ml1220 W4.2.1, if_pos i2309, if_pos i2309, letH_e]
                  exact fin_semi Cb W5 G' (by omega)
                · rw [show To_passOld Yc t s 14 h7 = some (false, h8') from a8, bind_s, if_neg fne, show M_readTold Ym m 4 4 k7 = some (0, k8) from b8, bind_s, if_neg (nz_b2 F'), bind_s, semi_bad F']
                  exact OC_f F F'
              · rw [show To_passWord Yc t 13 h6 = some (false, h7) from a7, bind_s, if_neg fne, b7, bind_s, told_b F', bind_s, if_neg (nz_b2 F'), bind_s, semi_bad F']
                exact OC_f F F'
            · obtain ⟨bt, et⟩ := totBy (Y := Ym) (h := k6) (m := m)
              rw [show To_passOld Yc t s 2 h5 = some (false, h6) from a6, bind_s, if_neg fne, show M_readTold Ym m 4 1 k5 = some (0, k6) from b6, bind_s, et, bind_s, must_b F', bind_s, told_b F', bind_s, if_neg (nz_b2 F'), bind_s, semi_bad F']
              exact OC_f F F'
          · obtain ⟨bt, et⟩ := totBy (Y := Ym) (h := k5) (m := m)
            rw [show To_passWord Yc t 12 h4 = some (false, h5) from a5, bind_s, if_neg fne, b5, bind_s, told_b F', bind_s, et, bind_s, must_b F', bind_s, told_b F', bind_s, if_neg (nz_b2 F'), bind_s, semi_bad F']
            exact OC_f F F'
        · obtain ⟨bt, et⟩ := totBy (Y := Ym) (h := k4) (m := m)
          obtain ⟨bi, ei⟩ := totIs (Y := Ym) (h := k4) (m := m)
          rw [show To_passNumber Yc t 1 (nI (cN c (88 + b))) h3 = some (false, h4) from a4, bind_s, if_neg fne, show M_behindWord Ym m (decide (tI T n (tE T n (tE T n p)) = some 11)) 1 (nI (cN c (88 + b))) k2 = some (0, k4) from bw b3 b4, bind_s, ei, bind_s, must_b F', bind_s, told_b F', bind_s, et, bind_s, must_b F', bind_s, told_b F', bind_s, if_neg (nz_b2 F'), bind_s, semi_bad F']
          exact OC_f F F'
      · obtain ⟨bt, et⟩ := totBy (Y := Ym) (h := k3) (m := m)
        obtain ⟨bi, ei⟩ := totIs (Y := Ym) (h := k3) (m := m)
        rw [show To_passWord Yc t 11 h2 = some (false, h3) from a3, bind_s, if_neg fne, show M_behindWord Ym m (decide (tI T n (tE T n (tE T n p)) = some 11)) 1 (nI (cN c (88 + b))) k2 = some (0, k3) from bw b3 (m_count_b F'.2.2 _ _), bind_s, ei, bind_s, must_b F', bind_s, told_b F', bind_s, et, bind_s, must_b F', bind_s, told_b F', bind_s, if_neg (nz_b2 F'), bind_s, semi_bad F']
        exact OC_f F F'
    · obtain ⟨bt, et⟩ := totBy (Y := Ym) (h := k2) (m := m)
      obtain ⟨bi, ei⟩ := totIs (Y := Ym) (h := k2) (m := m)
      obtain ⟨ba, ea⟩ := totAt (Y := Ym) (h := k2) (m := m)
      rw [show To_passOld Yc t s 6 h1 = some (false, h2) from a2, bind_s, if_neg fne, show M_readTold Ym m 4 2 k1 = some (0, k2) from b2, bind_s, ea, bind_s, ml1220 F'.2.1, if_pos (show inB (2392 + 0) 2880 = true by decide), bw_b F', bind_s, ei, bind_s, must_b F', bind_s, told_b F', bind_s, et, bind_s, must_b F', bind_s, told_b F', bind_s, if_neg (nz_b2 F'), bind_s, semi_bad F']
      exact OC_f F F'
  · have e12 : cN c 5 = 12 := by omega
    obtain ⟨h1, a1, a2, a3⟩ := c_blame C.2.2.2.1 6
    obtain ⟨k1, b1, b2, b3⟩ := m_fail (Y := Ym) M.2.2.2.1 (k := 6) (a := tS T n p) (by decide) (by decide)
    have F' := FMm_k M b2 b3
    rw [flt_1 zK] at a3
    rw [if_neg (show ¬ nI (cN c 5) < 12 by rw [e12]; decide), show To_blame Yc t 6 hc = some (false, h1) from a1, bind_s, if_pos (show nI (cN c 5) = 12 by rw [e12]; rfl), M.2.2.1.2.2.2.1, show M_fail Ym m 6 (nI (tS T n p)) hm = some k1 from b1, bind_s, M_readHint_J25, if_neg (nz_b2 F'), bind_s, semi_bad F']
    exact OC_f (FCc_k C a2 a3) F'
end RHJ
