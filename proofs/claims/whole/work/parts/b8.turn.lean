/-! ===== parts of a text: turn, rule ===== -/
section RTU
variable {Yc Ym : Ly} {x t s rd m n : Nat} {T : Nat → Int32} {P : Nat → Prop} {hc0 hm0 hc hm h : Hp} {p : Nat} {c : Nat → Int32} {w : Nat → Int64}
theorem turn_gb (G : GB c w) {k v : Nat} {w' : Nat → Int64} (e0 : cN c 1 = k) (h0 : k < 8) (hv : v < 10) (Vn : VN (upd c 1 (nI (k + 1))) w') : GB (upd (upd c (10 + k) (nI v)) 1 (nI (k + 1))) w' ∧ keepC c (upd (upd c (10 + k) (nI v)) 1 (nI (k + 1))) := by
  obtain ⟨V, _, g3, g4⟩ := G
  have hc : ∀ i, ¬ (i = 1 ∨ i = 10 + k) → upd (upd c (10 + k) (nI v)) 1 (nI (k + 1)) i = c i := fun i hi => by rw [pk_un (by omega), pk_un (by omega)]
  have K : keepC c (upd (upd c (10 + k) (nI v)) 1 (nI (k + 1))) := keepC_of V (fun i => i = 1 ∨ i = 10 + k) hc (fun i hi => by omega)
  have c0 : cN (upd (upd c (10 + k) (nI v)) 1 (nI (k + 1))) 1 = k + 1 := cN_us (by omega)
  have cn : ∀ i, i ≠ 1 → i ≠ 10 + k → cN (upd (upd c (10 + k) (nI v)) 1 (nI (k + 1))) i = cN c i := fun i h1 h2 => cN_cell (hc i (by omega))
  have l2 := VC_l2 V
  obtain ⟨v0, v1, v2, v3, v4, v5, v6, v7⟩ := V.1
  have cells : ∀ {i k' : Nat}, i ≠ 1 → i ≠ 10 + k → nB c i k' → nB (upd (upd c (10 + k) (nI v)) 1 (nI (k + 1))) i k' := fun h1 h2 h => nB_cell (hc _ (by omega)) h
  refine ⟨⟨VB_gen V (fun i hi => ?_) ⟨cells (by decide) (by omega) v0, nB_us (by omega) (by decide), cells (by decide) (by omega) v2, cells (by decide) (by omega) v3, cells (by decide) (by omega) v4, cells (by decide) (by omega) v5, cells (by decide) (by omega) v6, cells (by decide) (by omega) v7⟩ ⟨?_, ?_⟩ K (VR_mono V.2.2.2.1 (fun i hi => hc _ (by omega)) (by rw [cn 0 (by decide) (by omega)]; exact Nat.le_refl _) (by rw [c0]; omega)) (fun t h1 h2 => ?_) (fun b h1 h2 => ?_) (fun f h1 h2 => ?_) (fun i h1 h2 => ?_) (fun i h1 h2 => ?_) (fun i h1 h2 => ?_) (fun b hb => ?_), VN_cnt (fun so hso => ?_) Vn, ?_, fun b h1 h2 => ?_⟩, K⟩
  · by_cases z : i = 1
    · rw [z, c0]; omega
    · rw [cn i z (by omega)]; exact Nat.le_refl _
  · rw [cn 0 (by decide) (by omega)]
    exact cells (by decide) (by omega) V.2.1.1
  · rw [cn 4 (by decide) (by omega)]
    exact cells (by decide) (by omega) V.2.1.2
  · rw [c0] at h2
    have et : t = k := by omega
    subst et
    unfold nB cN
    rw [pk_un (by omega), pk_us, nI_clamp (by omega)]
    exact ⟨rfl, hv⟩
  · rw [cn 2 (by decide) (by omega)] at h2; omega
  · rw [cn 3 (by decide) (by omega)] at h2; omega
  · rw [cn 5 (by decide) (by omega)] at h2; omega
  · rw [cn 6 (by decide) (by omega)] at h2; omega
  · rw [cn 7 (by decide) (by omega)] at h2; omega
  · rw [cn 2 (by decide) (by omega)] at hb ⊢
    exact cells (by omega) (by omega) (V.2.2.2.2.2.2.2.2.2 b hb)
  · by_cases z : so = 1
    · subst z
      rw [show manyI 1 = 1 from rfl, c0, cN_us (by omega)]
    · have m1' : manyI so ≠ 1 := fun q => z (many_inj (b := 1) q)
      have ml := many_lt hso
      rw [cn _ m1' (by omega), cN_ne updh m1']
  · rw [hc 304 (by omega)]; exact g3
  · rw [cn 2 (by decide) (by omega)] at h1
    rw [hc (100 + b) (by omega), hc (298 + b) (by omega)]; exact g4 b h1 h2
theorem addTurn_s {o k : Nat} {v : Int32} (S : CS Yc h x) (oo : isO Yc 6 o) (h0 : k < 8) (e : hGi h 605 o = nI k) : St_addTurn Yc o v h = some (hSi (hTi h (hGr h 600 o) k v) 605 o (nI (k + 1))) := by
  unfold St_addTurn
  rw [e, if_neg (show ¬ (8 : Int32) ≤ nI k from nI_ge (b := 8) h0 (by omega)), cl600 S oo, if_pos (inB_nI h0 (by decide)), letH_e, letH_e, nI_clamp (by omega), show hGi (hTi h (hGr h 600 o) k v) 605 o = nI k from e, nI_1]
theorem turn_rs {k v : Nat} (S : CS Yc h x) (Tt : Ty Yc h) (os : isO Yc 4 s) (R : RF h s c) (l2 : cN c 2 < 7) (e0 : cN c 1 = k) (h0 : k < 8) (K : keepC c (upd (upd c (10 + k) (nI v)) 1 (nI (k + 1)))) :
    RF (hSi (hTi h (hGr h 600 (hGr h 400 s)) k (nI v)) 605 (hGr h 400 s) (nI (k + 1))) s (upd (upd c (10 + k) (nI v)) 1 (nI (k + 1))) := by
  have o6 := Tt.1 400 6 rfl s os
  have o1 := Tt.1 401 3 rfl s os
  have o2 := Tt.1 402 3 rfl s os
  have hc : ∀ i, ¬ (i = 1 ∨ i = 10 + k) → upd (upd c (10 + k) (nI v)) 1 (nI (k + 1)) i = c i := fun i hi => by rw [pk_un (by omega), pk_un (by omega)]
  have cn : ∀ i, i ≠ 1 → i ≠ 10 + k → cN (upd (upd c (10 + k) (nI v)) 1 (nI (k + 1))) i = cN c i := fun i h1 h2 => cN_cell (hc i (by omega))
  have c0 : cN (upd (upd c (10 + k) (nI v)) 1 (nI (k + 1))) 1 = k + 1 := cN_us (by omega)
  have A : ∀ {f o j}, cArr f = true → isO Yc (f / 100) o → f ≠ 600 → hAi (hSi (hTi h (hGr h 600 (hGr h 400 s)) k (nI v)) 605 (hGr h 400 s) (nI (k + 1))) (hGr h f o) j = hAi h (hGr h f o) j := fun hf ho ne => ai_oth S rfl o6 hf ho (Or.inl ne)
  refine RS_gen R K (fun _ _ => rfl) (RC_1 R.1 (fun _ _ => rfl) (Or.inl ⟨rfl, rfl⟩) (fun f a hf => by rw [gi_si, if_neg (fun z => hf z.1)]; rfl) (fun i h1 h2 => hc i (by omega)) ?_) (fun t ht => ?_) (fun t h1 h2 => ?_) (fun i hi => ?_) (fun f hf => ⟨A rfl o6 (by decide), fun k _ => A rfl o6 (by decide)⟩) (fun f h1 h2 => ?_) (fun b hb => ?_) (fun b h1 h2 => ?_) (fun i hi => A rfl os (by decide)) (fun i h1 h2 => ?_) (fun o ho => ⟨A rfl o1 (by decide), A rfl o1 (by decide)⟩) (fun o h1 h2 => ?_) (fun o ho => ⟨A rfl o2 (by decide), A rfl o2 (by decide)⟩) (fun o h1 h2 => ?_)
  · rw [if_pos (Or.inl rfl), gi_si, if_pos ⟨rfl, rfl⟩, pk_us]
  · exact ai_sam (by omega)
  · rw [c0] at h2
    have et : t = k := by omega
    subst et
    rw [pk_un (by omega), pk_us]
    exact ai_at
  · rw [A rfl o6 (by decide), hc _ (by omega)]; exact R.2.1.2.1 i hi
  · rw [cn 3 (by decide) (by omega)] at h2; omega
  · exact ⟨A rfl os (by decide), A rfl os (by decide), A rfl os (by decide), A rfl os (by decide), by rw [A rfl os (by decide), hc _ (by omega)]; exact (R.2.2.1 b hb).2.2.2.2.1, fun p _ => A rfl os (by decide)⟩
  · rw [cn 2 (by decide) (by omega)] at h2; omega
  · rw [cn 5 (by decide) (by omega)] at h2; omega
  · rw [cn 6 (by decide) (by omega)] at h2; omega
  · rw [cn 7 (by decide) (by omega)] at h2; omega
/-- the names of a shelf stand, when arrays and counts of its story change -/
theorem RN_o {o : Nat} {h' : Hp} {cn : Nat → Int32} (S : CS Yc h x) (os : isO Yc 4 s) (ne : s ≠ o) (K : Kf Yc o h h') (R : RN h s cn w) : RN h' s cn w :=
  RN_eq R (K.1 414 s ne) (fun i => by rw [K.2.2.1, (Kf_ai K S ne rfl os).2]) (fun i => by rw [K.2.2.1, (Kf_ai K S ne rfl os).1]) (fun i => by rw [K.2.2.1, (Kf_ai K S ne rfl os).1])
theorem r_turn (C : PC Yc x t s n T P hc0 hc p c c w) (M : PM Ym m n T hm0 hm p c w) (G : GB c w) (os : isO Yc 4 s) (ot : isO Yc 7 t) (hP : ∀ a, shR hc0 s a → P a) (z1 : tI T n p = some 2) :
    OC Yc Ym x t s m n T P hc0 hm0 p (SR_readTurn Yc rd t s hc) ((M_readTurn Ym m hm).bind fun q13 => (M_isSign Ym m 59 q13).bind fun q14 => M_must Ym m q14 q13) := by
  have zK := tI_0 z1
  have Vb := G.1
  have l1 := VC_l1 Vb
  have l2 := VC_l2 Vb
  have g0 : ∀ {h c' cn' w'} {p' : Nat}, PC Yc x t s n T P hc0 h p' c' cn' w' → hGi h 605 (hGr h 400 s) = c' 1 := fun A => A.2.2.2.2.1.1.2.1
  have i2305 : inB 2305 2880 = true := by decide
  have i2314 : inB 2314 2880 = true := by decide
  have bad : ∀ {hb : Hp} {k a : Nat} {v : Int32}, FMm Ym m hm0 hb k a → ∃ hb', ((M_readTurn_J54 Ym m (hTi hb (hGr hb 1220 m) (2304 + 10) v)).bind fun q13 => (M_isSign Ym m 59 q13).bind fun q14 => M_must Ym m q14 q13) = some hb' ∧ FMm Ym m hm0 hb' k a := by
    intro hb k a v F
    have F' := FMm_w F (j := 10) (v := v)
    rw [M_readTurn_J54, if_neg (nz_b F'), bind_s, semi_bad F']
    exact ⟨_, rfl, F'⟩
  unfold SR_readTurn
  rw [g0 C, VC_e1 Vb]
  by_cases h8 : cN c 1 < 8
  · obtain ⟨h1, a1, a2, a3, _⟩ := TC_adv C.2.2.2.1
    have C1 := PC_k C a2 a3
    have N := c_new C1 os ot (hP s (Or.inl rfl)) Vb.1 G.2.1 (so := 1) (by decide) rfl h8
    have NM := m_new M Vb.1 (so := 1) (by decide) rfl h8
    rw [if_pos (show nI (cN c 1) < 8 from nI_lt (b := 8) h8 (by omega)), a1, bind_s, g0 C1, VC_e1 Vb]
    unfold M_readTurn
    by_cases ok : newOk T n (tE T n p) c w
    · obtain ⟨h2, e1, C2⟩ := N.1 ok
      obtain ⟨k2, f1, M2⟩ := NM.1 ok
      have hp1 := tE_gt (T := T) C.2.2.2.1.2.1 (by omega)
      have hp2 := tE_gt (T := T) C1.2.2.2.1.2.1 (isNm_0 ok.1)
      have Vn2 := VN_new G.2.1 (so := 1) (k := cN c 1) (v := lN (tW T n (tE T n p))) (by decide) h8 rfl (fun so' h1 => (cnt8 Vb.1 h1).2) ok.2
      have M3 := PM_w M2 (k := 10 + cN c 1) (v := nI 1) (by omega)
      have done : ∀ (v : Nat) (hca hma : Hp) (pa : Nat), v < 10 → PC Yc x t s n T P hc0 hca pa c (upd c 1 (nI (cN c 1 + 1))) (vp_updL w (8 * 1 + cN c 1) (lN (tW T n (tE T n p)))) → PM Ym m n T hm0 hma pa (upd c (10 + cN c 1) (nI v)) (vp_updL w (8 * 1 + cN c 1) (lN (tW T n (tE T n p)))) → p < pa →
          OC Yc Ym x t s m n T P hc0 hm0 p ((St_addTurn Yc (hGr hca 400 s) (nI v) hca).bind fun q11 => (To_passSemicolon Yc t q11).bind fun q12 => some (q12.1, q12.2)) ((M_readTurn_J54 Ym m hma).bind fun q13 => (M_isSign Ym m 59 q13).bind fun q14 => M_must Ym m q14 q13) := by
        intro v hca hma pa hv Ca Ma hpa
        obtain ⟨G', K⟩ := turn_gb G rfl h8 hv Vn2
        have o6 : isO Yc 6 (hGr hca 400 s) := Ca.2.2.1.1 400 6 rfl s os
        rw [addTurn_s Ca.2.1 o6 h8 ((g0 Ca).trans (VC_e1 Vb)), bind_s]
        have RS1 := turn_rs Ca.2.1 Ca.2.2.1 os Ca.2.2.2.2.1 l2 rfl h8 K
        have Kf1 : Kf Yc (hGr hca 400 s) hca (hSi (hTi hca (hGr hca 600 (hGr hca 400 s)) (cN c 1) (nI v)) 605 (hGr hca 400 s) (nI (cN c 1 + 1))) := Kf_tr (Kf_ti rfl o6) (Kf_si (Or.inl rfl))
        have N1 : RN (hSi (hTi hca (hGr hca 600 (hGr hca 400 s)) (cN c 1) (nI v)) 605 (hGr hca 400 s) (nI (cN c 1 + 1))) s (upd (upd c (10 + cN c 1) (nI v)) 1 (nI (cN c 1 + 1))) (vp_updL w (8 * 1 + cN c 1) (lN (tW T n (tE T n p)))) := by
          refine RN_cnt (c := upd c 1 (nI (cN c 1 + 1))) (fun so hso => ?_) (RN_o Ca.2.1 os (isO_ne os o6 (by decide)) Kf1 Ca.2.2.2.2.2)
          by_cases z : so = 1
          · subst z
            rw [show manyI 1 = 1 from rfl, cN_us (by omega), cN_us (by omega)]
          · have m1' : manyI so ≠ 1 := fun q => z (many_inj (b := 1) q)
            have ml := many_lt hso
            unfold cN
            rw [pk_un m1', pk_un (show manyI so ≠ 10 + Int32.toNatClampNeg (c 1) by omega), pk_un m1']
        have r400 : hGr hca 400 s = hGr hc0 400 s := Ca.1.2.2.1 400 s
        have Cb := PC_f Ca Kf1 (by rw [r400]; exact hP _ (Or.inr (Or.inl rfl))) (isO_ne o6 ot (by decide)) ot RS1 N1
        have Mb := PM_w Ma (k := 1) (v := nI (cN c 1 + 1)) (by decide)
        have ej : M_readTurn_J54 Ym m hma = some (hTi hma (hGr hma 1220 m) (2304 + 1) (nI (cN c 1 + 1))) := by
          unfold M_readTurn_J54
          rw [if_pos Ma.2.2.2.1, ml1220 Ma.2.1, if_pos i2305, if_pos i2305, letH_e, show hAi hma (hGr hma 1220 m) (Int32.toNatClampNeg 2305) = nI (cN c 1) from (Ma.2.2.2.2.1 1 (by decide)).trans (by rw [pk_un (by omega)]; exact VC_e1 Vb), nI_1]
          rfl
        rw [ej, bind_s]
        exact fin_semi Cb Mb G' hpa
      have ei : (2314 : Int32) + nI (cN c 1) = nI (2304 + (10 + cN c 1)) := by rw [zlit, nI_add, show 2314 + cN c 1 = 2304 + (10 + cN c 1) by omega]
      rw [show To_passNew Yc t s 2 (nI (cN c 1)) h1 = some (true, h2) from e1, bind_s, if_pos rfl, C2.2.2.2.1.2.2.2.2.2.1, show M_readNew Ym m 1 8 hm = some (nI (cN c 1), k2) from f1, bind_s, ei, ml1220 M2.2.1, if_pos (inB_nI (by omega) (by decide)), letH_e, nI_clamp (by omega), if_pos (show hGi (hTi k2 (hGr k2 1220 m) (2304 + (10 + cN c 1)) 1) 1212 m = 0 from M2.2.2.2.1), isOdd_s (show TP Ym (hTi k2 (hGr k2 1220 m) (2304 + (10 + cN c 1)) 1) m n T _ from M3.2.2.1), bind_s]
      by_cases zf : tI T n (tE T n (tE T n p)) = some 3
      · rw [if_pos (show on (tI T n (tE T n (tE T n p))) = 3 by rw [zf]; rfl), if_pos (show decide (tI T n (tE T n (tE T n p)) = some 3) = true by rw [zf]; rfl)]
        obtain ⟨h3, k3, b1, d1, C3, M4, _⟩ := j_adv C2 M3
        have hp3 := tI_gt C2.2.2.2.1.2.1 zf
        rw [b1, bind_s, show M_advance Ym m (hTi k2 (hGr k2 1220 m) (2304 + (10 + cN c 1)) 1) = some k3 from d1, bind_s, ml1220 M4.2.1]
        rcases j_num C3 M4 (lo := 0) (hi := 9) (by decide) (by decide) with ⟨v, h4, k4, c1, d1, C4, M5, e7, hv, hp4⟩ | ⟨h4, k4, kk, aa, c1, d1, F1, F2⟩
        · have M6 := PM_w M5 (k := 10 + cN c 1) (v := nI v) (by omega)
          rw [upd_upd] at M6
          rw [show To_passNumber Yc t 0 9 h3 = some (true, h4) from c1, bind_s, if_pos rfl, e7, show M_count Ym m 0 9 k3 = some (nI v, k4) from d1, bind_s, if_pos (inB_nI (show 2304 + (10 + cN c 1) < 2880 by omega) (by decide)), letH_e, show hGr k3 1220 m = hGr k4 1220 m from (M4.1.2.2.1 1220 m).trans (M5.1.2.2.1 1220 m).symm]
          exact done v _ _ _ (by omega) C4 M6 (by omega)
        · obtain ⟨hb', q1, q2⟩ := bad (v := (0 : Int32)) F2
          have F3 := FMm_w F2 (j := 10 + cN c 1) (v := (0 : Int32))
          rw [show To_passNumber Yc t 0 9 h3 = some (false, h4) from c1, bind_s, if_neg (show ¬ (false, h4).1 = true from fun w => by cases w), show M_count Ym m 0 9 k3 = some (0, k4) from d1, bind_s, if_pos (inB_nI (show 2304 + (10 + cN c 1) < 2880 by omega) (by decide)), letH_e, show hGr k3 1220 m = hGr k4 1220 m from (M4.1.2.2.1 1220 m).trans (F2.1.2.2.1 1220 m).symm, M_readTurn_J54, if_neg (nz_b F3), bind_s, semi_bad F3]
          exact OC_f F1 F3
      · rw [if_neg (show ¬ on (tI T n (tE T n (tE T n p))) = 3 from fun q => zf ((tI_on (i := 3) (by decide)).mp q)), if_neg (by simpa using zf)]
        exact done 1 _ _ _ (by decide) C2 M3 (by omega)
    · obtain ⟨h2, e1, F1⟩ := N.2 ok
      obtain ⟨k2, f1, F2⟩ := NM.2 ok
      have F3 := FMm_w F2 (j := 10) (v := (1 : Int32))
      rw [show To_passNew Yc t s 2 (nI (cN c 1)) h1 = some (false, h2) from e1, bind_s, if_neg (show ¬ (false, h2).1 = true from fun w => by cases w), show M_readNew Ym m 1 8 hm = some (0, k2) from f1, bind_s, ml1220 F2.2.1, if_pos (show inB (2314 + 0) 2880 = true by decide), letH_e, show Int32.toNatClampNeg (2314 + 0) = 2304 + 10 from rfl, if_neg (nz_b F3), M_readTurn_J54, if_neg (nz_b F3), bind_s, semi_bad F3]
      exact OC_f F1 F3
  · have e8 : cN c 1 = 8 := by omega
    obtain ⟨h1, e1, e2, e3⟩ := c_blame C.2.2.2.1 6
    obtain ⟨k1, f1, F2⟩ := m_full M Vb.1 (so := 1) (by decide) e8
    have F3 := FMm_w F2 (j := 10) (v := (1 : Int32))
    rw [flt_1 zK] at e3
    unfold M_readTurn
    rw [if_neg (show ¬ nI (cN c 1) < 8 by rw [e8]; decide), show (6 : Int32) = nI 6 from rfl, e1, bind_s, show M_readNew Ym m 1 8 hm = some (0, k1) from f1, bind_s, ml1220 F2.2.1, if_pos (show inB (2314 + 0) 2880 = true by decide), letH_e, show Int32.toNatClampNeg (2314 + 0) = 2304 + 10 from rfl, if_neg (nz_b F3), M_readTurn_J54, if_neg (nz_b F3), bind_s, semi_bad F3]
    exact OC_f (FCc_k C e2 e3) F3
end RTU
