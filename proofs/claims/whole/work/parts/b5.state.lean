/-! ===== parts of a text: state, reader ===== -/
theorem RN_cnt {h : Hp} {s : Nat} {c c' : Nat → Int32} {w : Nat → Int64} (e : ∀ so, so < 7 → cN c' (manyI so) = cN c (manyI so)) (R : RN h s c w) : RN h s c' w := by
  have n1 : nmT c' = nmT c := sm_congr 7 e
  obtain ⟨r1, r2, r3⟩ := R
  refine ⟨by rw [n1]; exact r1, fun i hi => ?_, fun so k h1 h2 => ?_⟩
  · rw [n1] at hi
    obtain ⟨so, k, a1, a2, a3⟩ := r2 i hi
    exact ⟨so, k, a1, by rw [e so a1]; exact a2, a3⟩
  · rw [e so h1] at h2
    rw [n1]
    exact r3 so k h1 h2
theorem VN_cnt {c c' : Nat → Int32} {w : Nat → Int64} (e : ∀ so, so < 7 → cN c' (manyI so) = cN c (manyI so)) (V : VN c w) : VN c' w := by
  intro so k so' k' h1 h2 h3 h4 h5
  rw [e so h1] at h2
  rw [e so' h3] at h4
  exact V so k so' k' h1 h2 h3 h4 h5
theorem VR_mono {c c' : Nat → Int32} (V : VR c) (e : ∀ i, i < 64 → c' (18 + i) = c (18 + i)) (h0 : cN c 0 ≤ cN c' 0) (h1 : cN c 1 ≤ cN c' 1) : VR c' := by
  intro s t hs ht
  have e' : c' (18 + 8 * s + t) = c (18 + 8 * s + t) := by
    have := e (8 * s + t) (by omega)
    rw [show 18 + 8 * s + t = 18 + (8 * s + t) by omega]; exact this
  rcases V s t hs ht with q | ⟨q1, q2, q3⟩
  · exact Or.inl (e'.trans q)
  · exact Or.inr ⟨by omega, by omega, nB_mono (nB_cell e' q3) h0⟩
theorem RS_flds {h h' : Hp} {s : Nat} {c c' : Nat → Int32} (R : RF h s c) (K : keepC c c') (e2 : h'.2.2 = h.2.2) (rc : RC h' s c') (ec : ∀ i, i = 1 ∨ i = 2 ∨ i = 3 ∨ i = 5 ∨ i = 6 ∨ i = 7 → cN c' i = cN c i) (er : ∀ i, i < 64 → c' (18 + i) = c (18 + i)) (ef : ∀ b, b < 6 → c' (298 + b) = c (298 + b)) (l2 : cN c 2 < 7) : RF h' s c' := by
  have ai : hAi h' = hAi h := by funext f a; unfold hAi; rw [e2]
  have gr : ∀ f a, hGr h' f a = hGr h f a := by intro f a; unfold hGr; rw [e2]
  refine RS_gen R K gr rc (fun _ _ => by rw [ai]) (fun t h1 h2 => ?_) (fun i hi => by rw [ai, er i hi]; exact R.2.1.2.1 i hi) (fun f _ => ⟨by rw [ai], fun k _ => by rw [ai]⟩) (fun f h1 h2 => ?_) (fun b hb => ⟨by rw [ai], by rw [ai], by rw [ai], by rw [ai], by rw [ai, ef b (by omega)]; exact (R.2.2.1 b hb).2.2.2.2.1, fun p _ => by rw [ai]⟩) (fun b h1 h2 => ?_) (fun _ _ => by rw [ai]) (fun i h1 h2 => ?_) (fun o _ => ⟨by rw [ai], by rw [ai]⟩) (fun o h1 h2 => ?_) (fun o _ => ⟨by rw [ai], by rw [ai]⟩) (fun o h1 h2 => ?_)
  · rw [ec 1 (by omega)] at h2; omega
  · rw [ec 3 (by omega)] at h2; omega
  · rw [ec 2 (by omega)] at h2; omega
  · rw [ec 5 (by omega)] at h2; omega
  · rw [ec 6 (by omega)] at h2; omega
  · rw [ec 7 (by omega)] at h2; omega
theorem many_inj {a b : Nat} (h : manyI a = manyI b) : a = b := by
  unfold manyI at h
  split at h <;> split at h <;> omega
section RST
variable {Yc Ym : Ly} {x t s rd m n : Nat} {T : Nat → Int32} {P : Nat → Prop} {hc0 hm0 hc hm : Hp} {p : Nat} {c : Nat → Int32} {w : Nat → Int64}
theorem flt_1 {k : Nat} (z : tK T n p = 1) : flt T n p k = k := by unfold flt; rw [if_neg (by omega)]
theorem tE_gt (hp : p ≤ n) (z : tK T n p ≠ 0) : p < tE T n p := by
  have h1 := tS_lt (T := T) hp z
  have h2 := tS_ge T n p
  have h3 := (tE_bd T hp).2.2 h1
  omega
theorem isNm_0 (z : isNm T n p = true) : tK T n p ≠ 0 := by
  have := (isNm_1 z).1
  omega
theorem tI_0 {i : Nat} (z : tI T n p = some i) : tK T n p = 1 := by
  unfold tI at z
  split at z
  · next q =>
    unfold tK
    rw [if_neg (by omega)]
    exact q.1
  · cases z
theorem addState_s {h : Hp} {o n0 f8 : Nat} {b : Bool} (h0 : n0 < 8) (h8 : f8 < 256) (e4 : hGi h 604 o = nI n0) (e6 : hGi h 606 o = nI f8) : St_addState Yc o b h = some (hSi (hSi h 606 o (nI (if b = true then f8 ||| 2 ^ n0 else f8))) 604 o (nI (n0 + 1))) := by
  unfold St_addState
  rw [e4, if_neg (show ¬ (8 : Int32) ≤ nI n0 from nI_ge (b := 8) h0 (by omega)), e6, sh31 (by omega), zor, show nI f8 ||| 0 = nI f8 from by rw [show (0 : Int32) = nI 0 from rfl, zor, Nat.or_zero]]
  have q : ∀ v, hGi (hSi h 606 o v) 604 o = nI n0 := fun v => by rw [gi_si, if_neg (by omega)]; exact e4
  cases b with
  | true => rw [if_pos rfl, if_pos rfl, letH_e, letH_e, q, nI_1]
  | false => rw [if_neg (by decide), if_neg (by decide), letH_e, letH_e, q, nI_1]
theorem state_gb (G : GB c w) {n0 v : Nat} {w' : Nat → Int64} (e0 : cN c 0 = n0) (h0 : n0 < 8) (hv : v < 2 ^ (n0 + 1)) (Vn : VN (upd c 0 (nI (n0 + 1))) w') : GB (upd (upd c 8 (nI v)) 0 (nI (n0 + 1))) w' ∧ keepC c (upd (upd c 8 (nI v)) 0 (nI (n0 + 1))) := by
  obtain ⟨V, _, g3, g4⟩ := G
  have hc : ∀ i, ¬ (i = 0 ∨ i = 8) → upd (upd c 8 (nI v)) 0 (nI (n0 + 1)) i = c i := fun i hi => by rw [pk_un (by omega), pk_un (by omega)]
  have K : keepC c (upd (upd c 8 (nI v)) 0 (nI (n0 + 1))) := keepC_of V (fun i => i = 0 ∨ i = 8) hc (fun i hi => by omega)
  have c0 : cN (upd (upd c 8 (nI v)) 0 (nI (n0 + 1))) 0 = n0 + 1 := cN_us (by omega)
  have cn : ∀ i, i ≠ 0 → i ≠ 8 → cN (upd (upd c 8 (nI v)) 0 (nI (n0 + 1))) i = cN c i := fun i h1 h2 => cN_cell (hc i (by omega))
  have pw : 2 ^ (n0 + 1) ≤ 2 ^ 8 := Nat.pow_le_pow_right (by decide) (by omega)
  obtain ⟨v0, v1, v2, v3, v4, v5, v6, v7⟩ := V.1
  have cells : ∀ {i k : Nat}, i ≠ 0 → i ≠ 8 → nB c i k → nB (upd (upd c 8 (nI v)) 0 (nI (n0 + 1))) i k := fun h1 h2 h => nB_cell (hc _ (by omega)) h
  refine ⟨⟨VB_gen V (fun i hi => ?_) ⟨nB_us (by omega) (by decide), cells (by decide) (by decide) v1, cells (by decide) (by decide) v2, cells (by decide) (by decide) v3, cells (by decide) (by decide) v4, cells (by decide) (by decide) v5, cells (by decide) (by decide) v6, cells (by decide) (by decide) v7⟩ ⟨?_, ?_⟩ K (VR_mono V.2.2.2.1 (fun i hi => hc _ (by omega)) (by rw [c0]; omega) (by rw [cn 1 (by decide) (by decide)]; omega)) (fun t h1 h2 => ?_) (fun b h1 h2 => ?_) (fun f h1 h2 => ?_) (fun i h1 h2 => ?_) (fun i h1 h2 => ?_) (fun i h1 h2 => ?_) (fun b hb => ?_), VN_cnt (fun so hso => ?_) Vn, ?_, fun b h1 h2 => ?_⟩, K⟩
  · by_cases z : i = 0
    · rw [z, c0]; omega
    · rw [cn i z (by omega)]; exact Nat.le_refl _
  · rw [c0]
    refine ⟨?_, ?_⟩
    · rw [pk_un (by decide), pk_us, show cN (upd (upd c 8 (nI v)) 0 (nI (n0 + 1))) 8 = v by unfold cN; rw [pk_un (by decide), pk_us, nI_clamp (by omega)]]
    · rw [show cN (upd (upd c 8 (nI v)) 0 (nI (n0 + 1))) 8 = v by unfold cN; rw [pk_un (by decide), pk_us, nI_clamp (by omega)]]; exact hv
  · rw [cn 4 (by decide) (by decide)]
    exact cells (by decide) (by decide) V.2.1.2
  · rw [cn 1 (by decide) (by decide)] at h2; omega
  · rw [cn 2 (by decide) (by decide)] at h2; omega
  · rw [cn 3 (by decide) (by decide)] at h2; omega
  · rw [cn 5 (by decide) (by decide)] at h2; omega
  · rw [cn 6 (by decide) (by decide)] at h2; omega
  · rw [cn 7 (by decide) (by decide)] at h2; omega
  · rw [cn 2 (by decide) (by decide)] at hb ⊢
    exact cells (by omega) (by omega) (V.2.2.2.2.2.2.2.2.2 b hb)
  · by_cases z : so = 0
    · subst z
      rw [show manyI 0 = 0 from rfl, c0, cN_us (by omega)]
    · have m1' : manyI so ≠ 0 ∧ manyI so ≠ 8 := ⟨fun q => z (many_inj (b := 0) q), by have := many_lt hso; omega⟩
      rw [cn _ m1'.1 m1'.2, cN_ne updh m1'.1]
  · rw [hc 304 (by omega)]; exact g3
  · rw [cn 2 (by decide) (by decide)] at h1
    rw [hc (100 + b) (by omega), hc (298 + b) (by omega)]; exact g4 b h1 h2
theorem r_state (C : PC Yc x t s n T P hc0 hc p c c w) (M : PM Ym m n T hm0 hm p c w) (G : GB c w) (os : isO Yc 4 s) (ot : isO Yc 7 t) (hP : ∀ a, shR hc0 s a → P a) (z1 : tI T n p = some 0) :
    OC Yc Ym x t s m n T P hc0 hm0 p (SR_readState Yc rd t s hc) ((M_readState Ym m hm).bind fun q13 => (M_isSign Ym m 59 q13).bind fun q14 => M_must Ym m q14 q13) := by
  have zK := tI_0 z1
  have Vb := G.1
  have l0 := VC_l0 Vb
  have g0 : ∀ {h c' cn' w'} {p' : Nat}, PC Yc x t s n T P hc0 h p' c' cn' w' → hGi h 604 (hGr h 400 s) = c' 0 := fun A => A.2.2.2.2.1.1.1
  unfold SR_readState
  rw [g0 C, VC_e0 Vb]
  by_cases h8 : cN c 0 < 8
  · obtain ⟨h1, a1, a2, a3, _⟩ := TC_adv C.2.2.2.1
    have C1 := PC_k C a2 a3
    have N := c_new C1 os ot (hP s (Or.inl rfl)) Vb.1 G.2.1 (so := 0) (by decide) rfl h8
    have NM := m_new M Vb.1 (so := 0) (by decide) rfl h8
    rw [if_pos (show nI (cN c 0) < 8 from nI_lt (b := 8) h8 (by omega)), a1, bind_s, g0 C1, VC_e0 Vb]
    unfold M_readState
    by_cases ok : newOk T n (tE T n p) c w
    · obtain ⟨h2, e1, C2⟩ := N.1 ok
      obtain ⟨k2, f1, M2⟩ := NM.1 ok
      rw [show To_passNew Yc t s 0 (nI (cN c 0)) h1 = some (true, h2) from e1, bind_s, if_pos rfl, C2.2.2.2.1.2.2.2.2.2.1, show M_readNew Ym m 0 8 hm = some (nI (cN c 0), k2) from f1, bind_s, if_pos M2.2.2.2.1, isFinal_s M2.2.2.1, bind_s]
      have hp1 := tE_gt (T := T) C.2.2.2.1.2.1 (by omega)
      have hp2 := tE_gt (T := T) C1.2.2.2.1.2.1 (isNm_0 ok.1)
      have p0 : 2 ^ cN c 0 ≤ 2 ^ 8 := Nat.pow_le_pow_right (by decide) (by omega)
      have c8 := Vb.2.1.1
      have c8l := c8.2
      have i2312 : inB 2312 2880 = true := by decide
      have i2304 : inB 2304 2880 = true := by decide
      have Vn2 := VN_new G.2.1 (so := 0) (k := cN c 0) (v := lN (tW T n (tE T n p))) (by decide) h8 rfl (fun so' h1 => (cnt8 Vb.1 h1).2) ok.2
      have done : ∀ (b : Bool) (hca hma : Hp) (pa : Nat), PC Yc x t s n T P hc0 hca pa c (upd c 0 (nI (cN c 0 + 1))) (vp_updL w (8 * 0 + cN c 0) (lN (tW T n (tE T n p)))) → PM Ym m n T hm0 hma pa (upd c 8 (nI (if b = true then cN c 8 ||| 2 ^ cN c 0 else cN c 8))) (vp_updL w (8 * 0 + cN c 0) (lN (tW T n (tE T n p)))) → p < pa →
          OC Yc Ym x t s m n T P hc0 hm0 p ((St_addState Yc (hGr hca 400 s) b hca).bind fun q11 => (To_passSemicolon Yc t q11).bind fun q12 => some (q12.1, q12.2)) ((M_readState_J40 Ym m hma).bind fun q13 => (M_isSign Ym m 59 q13).bind fun q14 => M_must Ym m q14 q13) := by
        intro b hca hma pa Ca Ma hpa
        have hv : (if b = true then cN c 8 ||| 2 ^ cN c 0 else cN c 8) < 2 ^ (cN c 0 + 1) := by
          have a1 := c8.2
          have a2 : 2 ^ (cN c 0 + 1) = 2 * 2 ^ cN c 0 := by rw [Nat.pow_succ]; omega
          cases b with
          | true => rw [if_pos rfl]; exact Nat.or_lt_two_pow (by omega) (by omega)
          | false => rw [if_neg (by decide)]; omega
        obtain ⟨G', K⟩ := state_gb G rfl h8 hv Vn2
        have r := Ca.2.2.2.2.1.1
        have o6 : isO Yc 6 (hGr hca 400 s) := Ca.2.2.1.1 400 6 rfl s os
        rw [addState_s h8 (by omega) (r.1.trans (VC_e0 Vb)) (r.2.2.2.2.2.2.2.2.1.trans c8.1), bind_s]
        have Kf1 : Kf Yc (hGr hca 400 s) hca (hSi (hSi hca 606 (hGr hca 400 s) (nI (if b = true then cN c 8 ||| 2 ^ cN c 0 else cN c 8))) 604 (hGr hca 400 s) (nI (cN c 0 + 1))) := Kf_tr (Kf_si (Or.inl rfl)) (Kf_si (Or.inl rfl))
        have RS1 : RF (hSi (hSi hca 606 (hGr hca 400 s) (nI (if b = true then cN c 8 ||| 2 ^ cN c 0 else cN c 8))) 604 (hGr hca 400 s) (nI (cN c 0 + 1))) s (upd (upd c 8 (nI (if b = true then cN c 8 ||| 2 ^ cN c 0 else cN c 8))) 0 (nI (cN c 0 + 1))) := by
          refine RS_flds Ca.2.2.2.2.1 K rfl ?_ (fun i hi => cN_cell (by rw [pk_un (by omega), pk_un (by omega)])) (fun i hi => by rw [pk_un (by omega), pk_un (by omega)]) (fun b hb => by rw [pk_un (by omega), pk_un (by omega)]) (VC_l2 Vb)
          have gq : ∀ f a, f ≠ 604 → f ≠ 606 → hGi (hSi (hSi hca 606 (hGr hca 400 s) (nI (if b = true then cN c 8 ||| 2 ^ cN c 0 else cN c 8))) 604 (hGr hca 400 s) (nI (cN c 0 + 1))) f a = hGi hca f a := fun f a h1 h2 => by rw [gi_si, if_neg (fun z => h1 z.1), gi_si, if_neg (fun z => h2 z.1)]
          have cq : ∀ i, i ≠ 0 → i ≠ 8 → upd (upd c 8 (nI (if b = true then cN c 8 ||| 2 ^ cN c 0 else cN c 8))) 0 (nI (cN c 0 + 1)) i = c i := fun i h1 h2 => by rw [pk_un h1, pk_un h2]
          refine ⟨?_, (gq 605 _ (by decide) (by decide)).trans (r.2.1.trans (cq 1 (by decide) (by decide)).symm), (gq 415 _ (by decide) (by decide)).trans (r.2.2.1.trans (cq 2 (by decide) (by decide)).symm), (gq 607 _ (by decide) (by decide)).trans (r.2.2.2.1.trans (cq 3 (by decide) (by decide)).symm), (gq 416 _ (by decide) (by decide)).trans (r.2.2.2.2.1.trans (cq 4 (by decide) (by decide)).symm), (gq 418 _ (by decide) (by decide)).trans (r.2.2.2.2.2.1.trans (cq 5 (by decide) (by decide)).symm), (gq 302 _ (by decide) (by decide)).trans (r.2.2.2.2.2.2.1.trans (cq 6 (by decide) (by decide)).symm), (gq 302 _ (by decide) (by decide)).trans (r.2.2.2.2.2.2.2.1.trans (cq 7 (by decide) (by decide)).symm), ?_, (gq 417 _ (by decide) (by decide)).trans (r.2.2.2.2.2.2.2.2.2.trans (cq 9 (by decide) (by decide)).symm)⟩
          · rw [gr_si, gr_si, gi_si, if_pos ⟨rfl, rfl⟩, pk_us]
          · rw [gr_si, gr_si, gi_si, if_neg (by omega), gi_si, if_pos ⟨rfl, rfl⟩, pk_un (by decide), pk_us]
        have N1 : RN (hSi (hSi hca 606 (hGr hca 400 s) (nI (if b = true then cN c 8 ||| 2 ^ cN c 0 else cN c 8))) 604 (hGr hca 400 s) (nI (cN c 0 + 1))) s (upd (upd c 8 (nI (if b = true then cN c 8 ||| 2 ^ cN c 0 else cN c 8))) 0 (nI (cN c 0 + 1))) (vp_updL w (8 * 0 + cN c 0) (lN (tW T n (tE T n p)))) := by
          refine RN_cnt (c := upd c 0 (nI (cN c 0 + 1))) (fun so hso => ?_) (RN_eq Ca.2.2.2.2.2 (by rw [gi_si, if_neg (by omega), gi_si, if_neg (by omega)]) (fun _ => rfl) (fun _ => rfl) (fun _ => rfl))
          by_cases z : so = 0
          · subst z
            rw [show manyI 0 = 0 from rfl, cN_us (by omega), cN_us (by omega)]
          · have m1' : manyI so ≠ 0 ∧ manyI so ≠ 8 := ⟨fun q => z (many_inj (b := 0) q), by have := many_lt hso; omega⟩
            unfold cN
            rw [pk_un m1'.1, pk_un m1'.2, pk_un m1'.1]
        have r400 : hGr hca 400 s = hGr hc0 400 s := Ca.1.2.2.1 400 s
        have Cb := PC_f Ca Kf1 (by rw [r400]; exact hP _ (Or.inr (Or.inl rfl))) (isO_ne o6 ot (by decide)) ot RS1 N1
        have Mb := PM_w Ma (k := 0) (v := nI (cN c 0 + 1)) (by decide)
        have ej : M_readState_J40 Ym m hma = some (hTi hma (hGr hma 1220 m) (2304 + 0) (nI (cN c 0 + 1))) := by
          unfold M_readState_J40
          rw [if_pos Ma.2.2.2.1, ml1220 Ma.2.1, if_pos i2304, if_pos i2304, letH_e, show hAi hma (hGr hma 1220 m) (Int32.toNatClampNeg 2304) = nI (cN c 0) from (Ma.2.2.2.2.1 0 (by decide)).trans (by rw [pk_un (by decide)]; exact VC_e0 Vb), nI_1]
          rfl
        rw [ej, bind_s]
        exact fin_semi Cb Mb G' hpa
      by_cases zf : tI T n (tE T n (tE T n p)) = some 1
      · obtain ⟨h3, b1, b2, b3, _⟩ := TC_adv C2.2.2.2.1
        obtain ⟨k3, d1, d2, d3, d4, _⟩ := TP_adv M2.2.2.1
        have C3 := PC_k C2 b2 b3
        have M3 := PM_k M2 d2 d3 (d4.trans M2.2.2.2.1)
        have hp3 := tE_gt (T := T) C2.2.2.2.1.2.1 (by rw [tI_0 zf]; decide)
        have M4 := PM_w M3 (k := 8) (v := nI (cN c 8 ||| 2 ^ cN c 0)) (by decide)
        rw [if_pos (show on (tI T n (tE T n (tE T n p))) = 1 by rw [zf]; rfl), SR_readState_J54, if_pos rfl, b1, bind_s, if_pos (by rw [zf]; rfl), d1, bind_s, ml1220 M3.2.1, if_pos i2312, if_pos i2312, letH_e, show hAi k3 (hGr k3 1220 m) (Int32.toNatClampNeg 2312) = nI (cN c 8) from (M3.2.2.2.2.1 8 (by decide)).trans c8.1, sh31 (by omega), zor]
        exact done true _ _ _ C3 M4 (by omega)
      · have M4 : PM Ym m n T hm0 k2 (tE T n (tE T n p)) (upd c 8 (nI (if false = true then cN c 8 ||| 2 ^ cN c 0 else cN c 8))) (vp_updL w (8 * 0 + cN c 0) (lN (tW T n (tE T n p)))) := by
          rw [if_neg (by decide), upd_self c8.1]; exact M2
        rw [if_neg (show ¬ on (tI T n (tE T n (tE T n p))) = 1 from fun q => zf ((tI_on (i := 1) (by decide)).mp q)), SR_readState_J54, if_neg (by decide), if_neg (by simpa using zf)]
        exact done false _ _ _ C2 M4 (by omega)
    · obtain ⟨h2, e1, F1⟩ := N.2 ok
      obtain ⟨k2, f1, F2⟩ := NM.2 ok
      rw [show To_passNew Yc t s 0 (nI (cN c 0)) h1 = some (false, h2) from e1, bind_s, if_neg (show ¬ (false, h2).1 = true from fun w => by cases w), show M_readNew Ym m 0 8 hm = some (0, k2) from f1, bind_s, if_neg (BF_nz F2.2.2).1, M_readState_J40, if_neg (BF_nz F2.2.2).1, bind_s, semi_bad F2]
      exact Or.inr ⟨h2, k2, _, _, rfl, rfl, F1, F2⟩
  · have e8 : cN c 0 = 8 := by omega
    obtain ⟨h1, e1, e2, e3⟩ := c_blame C.2.2.2.1 6
    obtain ⟨k1, f1, F2⟩ := m_full M Vb.1 (so := 0) (by decide) e8
    rw [flt_1 zK] at e3
    unfold M_readState
    rw [if_neg (show ¬ nI (cN c 0) < 8 by rw [e8]; decide), show (6 : Int32) = nI 6 from rfl, e1, bind_s, show M_readNew Ym m 0 8 hm = some (0, k1) from f1, bind_s, if_neg (BF_nz F2.2.2).1, M_readState_J40, if_neg (BF_nz F2.2.2).1, bind_s, semi_bad F2]
    exact Or.inr ⟨h1, k1, _, _, rfl, rfl, FCc_k C e2 e3, F2⟩
end RST
