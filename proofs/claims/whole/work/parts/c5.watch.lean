/-! ===== parts of a text: watch ===== -/
def watc (c : Nat → Int32) (k v V : Nat) : Nat → Int32 := upd (upd (upd c (282 + k) (nI v)) (290 + k) (nI V)) 7 (nI (k + 1))
def wath (h : Hp) (lo k v V : Nat) : Hp := hSi (hTi (hTi h (hGr h 300 lo) k (nI v)) (hGr h 301 lo) k (nI V)) 302 lo (nI (k + 1))
section Lwat
variable {Yc Ym : Ly} {x t s rd lo m n : Nat} {T : Nat → Int32} {P : Nat → Prop} {hc0 hm0 hc hm h : Hp} {p p0 : Nat} {c : Nat → Int32} {w : Nat → Int64} {k v V : Nat}
theorem wat_o {i : Nat} (hi : ¬ (i = 7 ∨ i = 282 + k ∨ i = 290 + k)) : watc c k v V i = c i := by
  unfold watc
  rw [pk_un (by omega), pk_un (by omega), pk_un (by omega)]
theorem wat_v (hk : k < 8) : watc c k v V 7 = nI (k + 1) ∧ watc c k v V (282 + k) = nI v ∧ watc c k v V (290 + k) = nI V := by
  unfold watc
  refine ⟨pk_us .., ?_, ?_⟩
  · rw [pk_un (by omega), pk_un (by omega), pk_us]
  · rw [pk_un (by omega), pk_us]
theorem wat_gb (G : GB c w) {w' : Nat → Int64} (e0 : cN c 7 = k) (h0 : k < 8) (hv : v < 100) (hV : V < 2 ^ cN c 2) (Vn : VN (upd c 7 (nI (k + 1))) w') : GB (watc c k v V) w' ∧ keepC c (watc c k v V) := by
  obtain ⟨Vb, _, g3, g4⟩ := G
  have l2 := VC_l2 Vb
  have p2 : 2 ^ cN c 2 ≤ 2 ^ 6 := Nat.pow_le_pow_right (by decide) (by omega)
  have hc : ∀ i, ¬ (i = 7 ∨ i = 282 + k ∨ i = 290 + k) → watc c k v V i = c i := fun i hi => wat_o hi
  obtain ⟨w0, w1, w2⟩ := wat_v (c := c) (v := v) (V := V) h0
  have K : keepC c (watc c k v V) := keepC_of Vb (fun i => i = 7 ∨ i = 282 + k ∨ i = 290 + k) hc (fun i hi => by omega)
  have c0 : cN (watc c k v V) 7 = k + 1 := cN_v w0 (by omega)
  have cn : ∀ i, i ≠ 7 → (i < 270 ∨ 298 ≤ i) → cN (watc c k v V) i = cN c i := fun i h1 h2 => cN_cell (hc i (by omega))
  obtain ⟨v0, v1, v2, v3, v4, v5, v6, v7⟩ := Vb.1
  have cells : ∀ {i k' : Nat}, i ≠ 7 → (i < 270 ∨ 298 ≤ i) → nB c i k' → nB (watc c k v V) i k' := fun h1 h2 h => nB_cell (hc _ (by omega)) h
  refine ⟨⟨VB_gen Vb (fun i hi => ?_) ⟨cells (by decide) (by omega) v0, cells (by decide) (by omega) v1, cells (by decide) (by omega) v2, cells (by decide) (by omega) v3, cells (by decide) (by omega) v4, cells (by decide) (by omega) v5, cells (by decide) (by omega) v6, nB_v w0 (by omega) (by decide)⟩ ⟨?_, ?_⟩ K (VR_mono Vb.2.2.2.1 (fun i hi => hc _ (by omega)) (by rw [cn 0 (by decide) (by omega)]; exact Nat.le_refl _) (by rw [cn 1 (by decide) (by omega)]; exact Nat.le_refl _)) (fun t h1 h2 => ?_) (fun b h1 h2 => ?_) (fun f h1 h2 => ?_) (fun i h1 h2 => ?_) (fun i h1 h2 => ?_) (fun i h1 h2 => ?_) (fun b hb => ?_), VN_cnt (fun so hso => ?_) Vn, ?_, fun b h1 h2 => ?_⟩, K⟩
  · by_cases z : i = 7
    · rw [z, c0]; omega
    · rw [cn i z (by omega)]; exact Nat.le_refl _
  · rw [cn 0 (by decide) (by omega)]
    exact cells (by decide) (by omega) Vb.2.1.1
  · rw [cn 4 (by decide) (by omega)]
    exact cells (by decide) (by omega) Vb.2.1.2
  · rw [cn 1 (by decide) (by omega)] at h2; omega
  · rw [cn 2 (by decide) (by omega)] at h2; omega
  · rw [cn 3 (by decide) (by omega)] at h2; omega
  · rw [cn 5 (by decide) (by omega)] at h2; omega
  · rw [cn 6 (by decide) (by omega)] at h2; omega
  · rw [c0] at h2
    have ei : i = k := by omega
    subst ei
    rw [cn 2 (by decide) (by omega)]
    exact ⟨nB_v w1 hv (by decide), nB_v w2 hV (by omega)⟩
  · rw [cn 2 (by decide) (by omega)] at hb ⊢
    exact cells (by omega) (by omega) (Vb.2.2.2.2.2.2.2.2.2 b hb)
  · by_cases z : so = 6
    · subst z
      rw [show manyI 6 = 7 from rfl, c0, cN_us (by omega)]
    · have m1' : manyI so ≠ 7 := fun q => z (many_inj (b := 6) q)
      have ml := many_lt hso
      rw [cn _ m1' (by omega), cN_ne updh m1']
  · rw [hc 304 (by omega)]; exact g3
  · rw [cn 2 (by decide) (by omega)] at h1
    rw [hc (100 + b) (by omega), hc (298 + b) (by omega)]; exact g4 b h1 h2
theorem wat_full (S : CS Yc h x) (os : isO Yc 4 s) (e : hGi h 302 (hGr h 402 s) = nI k) (hk : k < 2 ^ 31) : Lo_isFull Yc (hGr h 402 s) h = some (decide (¬ k < 8)) := by
  unfold Lo_isFull
  rw [(S.2.2.1 s os).2.1, e]
  by_cases z : k < 8
  · rw [if_pos (show nI k < Int32.ofNat 8 from nI_lt (b := 8) z (by omega)), decide_eq_false (fun q => q z)]
  · rw [if_neg (show ¬ nI k < Int32.ofNat 8 from fun q => z ((nI_ltI (a := k) (b := 8) hk (by decide)).mp q)), decide_eq_true z]
theorem wat_add (S : CS Yc h x) (os : isO Yc 4 s) (h0 : k < 8) (e : hGi h 302 (hGr h 402 s) = nI k) : Lo_addOne Yc (hGr h 402 s) (nI v) (nI V) h = some (wath h (hGr h 402 s) k v V) := by
  unfold Lo_addOne wath
  rw [wat_full S os e (by omega), bind_s, if_neg (show ¬ decide (¬ k < 8) = true by simpa using h0), e, (S.2.2.1 s os).2.1, if_pos (inB_nI h0 (by decide)), letH_e, gi_ti, e, gr_ti, (S.2.2.1 s os).2.2, if_pos (inB_nI h0 (by decide)), letH_e, letH_e, nI_clamp (by omega)]
  show some (hSi _ 302 (hGr h 402 s) (hGi h 302 (hGr h 402 s) + 1)) = _
  rw [e, nI_1]
theorem wat_kf (o3 : isO Yc 3 lo) : Kf Yc lo h (wath h lo k v V) :=
  Kf_tr (Kf_tr (Kf_ti (f := 300) rfl o3) (Kf_ti (h := hTi h (hGr h 300 lo) k (nI v)) (f := 301) rfl o3)) (Kf_si (Or.inl rfl))
theorem wat_rs (S : CS Yc h x) (Tt : Ty Yc h) (os : isO Yc 4 s) (R : RF h s c) (Vb : VB c) (e0 : cN c 7 = k) (h0 : k < 8) (K : keepC c (watc c k v V)) : RF (wath h (hGr h 402 s) k v V) s (watc c k v V) := by
  have o6 := Tt.1 400 6 rfl s os
  have oo := Tt.1 402 3 rfl s os
  have oq := Tt.1 401 3 rfl s os
  have l2 := VC_l2 Vb
  have nq : ¬ hGr h 401 s = hGr h 402 s := (S.2.2.2.2 s s os os).2.2.2
  have n01 : ¬ hGr h 300 (hGr h 402 s) = hGr h 301 (hGr h 402 s) := fun z => absurd (S.2.2.2.1 300 301 _ _ rfl rfl oo oo z).1 (by decide)
  have hc : ∀ i, ¬ (i = 7 ∨ i = 282 + k ∨ i = 290 + k) → watc c k v V i = c i := fun i hi => wat_o hi
  obtain ⟨w0, w1, w2⟩ := wat_v (c := c) (v := v) (V := V) h0
  have c0 : cN (watc c k v V) 7 = k + 1 := cN_v w0 (by omega)
  have cn : ∀ i, i ≠ 7 → (i < 270 ∨ 298 ≤ i) → cN (watc c k v V) i = cN c i := fun i h1 h2 => cN_cell (hc i (by omega))
  have A : ∀ {f o j}, cArr f = true → isO Yc (f / 100) o → ((f ≠ 300 ∧ f ≠ 301) ∨ ¬ o = hGr h 402 s) → hAi (wath h (hGr h 402 s) k v V) (hGr h f o) j = hAi h (hGr h f o) j := by
    intro f o j hf ho ne
    have nA : ¬ hGr h f o = hGr h 301 (hGr h 402 s) := fun z => by
      have := S.2.2.2.1 f 301 o _ hf rfl ho oo z
      rcases ne with q | q
      · exact q.2 this.1
      · exact q this.2
    have nB : ¬ hGr h f o = hGr h 300 (hGr h 402 s) := fun z => by
      have := S.2.2.2.1 f 300 o _ hf rfl ho oo z
      rcases ne with q | q
      · exact q.1 this.1
      · exact q this.2
    unfold wath
    rw [ai_si, ai_ti, if_neg (fun z => nA z.1), ai_ti, if_neg (fun z => nB z.1)]
  have B0 : ∀ {j}, j ≠ k → hAi (wath h (hGr h 402 s) k v V) (hGr h 300 (hGr h 402 s)) j = hAi h (hGr h 300 (hGr h 402 s)) j := by
    intro j hj
    unfold wath
    rw [ai_si, ai_ti, if_neg (fun z => hj z.2), ai_ti, if_neg (fun z => hj z.2)]
  have B1 : ∀ {j}, j ≠ k → hAi (wath h (hGr h 402 s) k v V) (hGr h 301 (hGr h 402 s)) j = hAi h (hGr h 301 (hGr h 402 s)) j := by
    intro j hj
    unfold wath
    rw [ai_si, ai_ti, if_neg (fun z => hj z.2), ai_ti, if_neg (fun z => hj z.2)]
  have gq : ∀ f a, ¬ (f = 302 ∧ a = hGr h 402 s) → hGi (wath h (hGr h 402 s) k v V) f a = hGi h f a := by
    intro f a hf
    unfold wath
    rw [gi_si, if_neg hf]
    rfl
  have nw : hGi (wath h (hGr h 402 s) k v V) 302 (hGr h 402 s) = watc c k v V 7 := by
    rw [w0]
    unfold wath
    rw [gi_si, if_pos ⟨rfl, rfl⟩]
  have rc : RC (wath h (hGr h 402 s) k v V) s (watc c k v V) := by
    obtain ⟨r0, r1, r2, r3, r4, r5, r6, r7, r8, r9⟩ := R.1
    exact ⟨(gq 604 _ (fun z => absurd z.1 (by decide))).trans (r0.trans (hc 0 (by omega)).symm), (gq 605 _ (fun z => absurd z.1 (by decide))).trans (r1.trans (hc 1 (by omega)).symm), (gq 415 _ (fun z => absurd z.1 (by decide))).trans (r2.trans (hc 2 (by omega)).symm), (gq 607 _ (fun z => absurd z.1 (by decide))).trans (r3.trans (hc 3 (by omega)).symm), (gq 416 _ (fun z => absurd z.1 (by decide))).trans (r4.trans (hc 4 (by omega)).symm), (gq 418 _ (fun z => absurd z.1 (by decide))).trans (r5.trans (hc 5 (by omega)).symm), (gq 302 _ (fun z => nq z.2)).trans (r6.trans (hc 6 (by omega)).symm), nw, (gq 606 _ (fun z => absurd z.1 (by decide))).trans (r8.trans (hc 8 (by omega)).symm), (gq 417 _ (fun z => absurd z.1 (by decide))).trans (r9.trans (hc 9 (by omega)).symm)⟩
  refine RS_gen R K (fun _ _ => rfl) rc (fun t ht => A rfl o6 (Or.inl (by decide))) (fun t h1 h2 => ?_) (fun i hi => ?_) (fun f hf => ⟨A rfl o6 (Or.inl (by decide)), fun k _ => A rfl o6 (Or.inl (by decide))⟩) (fun f h1 h2 => ?_) (fun b hb => ?_) (fun b h1 h2 => ?_) (fun i hi => A rfl os (Or.inl (by decide))) (fun i h1 h2 => ?_) (fun o ho => ⟨A rfl oq (Or.inr (fun z => nq z)), A rfl oq (Or.inr (fun z => nq z))⟩) (fun o h1 h2 => ?_) (fun o ho => by
      rw [e0] at ho
      exact ⟨B0 (by omega), B1 (by omega)⟩) (fun o h1 h2 => ?_)
  · rw [cn 1 (by decide) (by omega)] at h2; omega
  · rw [A rfl o6 (Or.inl (by decide)), hc _ (by omega)]; exact R.2.1.2.1 i hi
  · rw [cn 3 (by decide) (by omega)] at h2; omega
  · exact ⟨A rfl os (Or.inl (by decide)), A rfl os (Or.inl (by decide)), A rfl os (Or.inl (by decide)), A rfl os (Or.inl (by decide)), by rw [A rfl os (Or.inl (by decide)), hc _ (by omega)]; exact (R.2.2.1 b hb).2.2.2.2.1, fun p _ => A rfl os (Or.inl (by decide))⟩
  · rw [cn 2 (by decide) (by omega)] at h2; omega
  · rw [cn 5 (by decide) (by omega)] at h2; omega
  · rw [cn 6 (by decide) (by omega)] at h2; omega
  · rw [c0] at h2
    have ei : o = k := by omega
    subst ei
    rw [w1, w2]
    refine ⟨?_, ?_⟩
    · show hAi (wath h (hGr h 402 s) o v V) (hGr h 300 (hGr h 402 s)) o = _
      unfold wath
      rw [ai_si, ai_ti, if_neg (fun z => n01 z.1), ai_ti, if_pos ⟨rfl, rfl⟩]
    · show hAi (wath h (hGr h 402 s) o v V) (hGr h 301 (hGr h 402 s)) o = _
      unfold wath
      rw [ai_si, ai_ti, if_pos ⟨rfl, rfl⟩]

/-- what the reference does after a fault -/
theorem wat_b2 {kk aa : Nat} (hk : k < 8) (F : FMm Ym m hm0 h kk aa) (F5 : ∀ {h5 : Hp}, h5 = h → hGr h5 1220 m = hGr h 1220 m) (z : Int32) : ∃ h', ((if inB (2594 + nI k) (lnY Ym (hGr h 1220 m)) = true then
      letH (hTi h (hGr h 1220 m) (Int32.toNatClampNeg (2594 + nI k)) z) fun h12 =>
      if (hGi h12 1212 m) = 0 then
        if inB 2311 (lnY Ym (hGr h12 1220 m)) = true then
          if inB 2311 (lnY Ym (hGr h12 1220 m)) = true then
            letH (hTi h12 (hGr h12 1220 m) (Int32.toNatClampNeg 2311) ((hAi h12 (hGr h12 1220 m) (Int32.toNatClampNeg 2311)) + 1)) fun h17 =>
            some h17
          else none
        else none
      else
        some h12
    else none).bind fun q13 => (M_isSign Ym m 59 q13).bind fun q14 => M_must Ym m q14 q13) = some h' ∧ FMm Ym m hm0 h' kk aa := by
  have j2 : (2594 : Int32) + nI k = nI (2304 + (290 + k)) := by rw [zlit, nI_add, show 2594 + k = 2304 + (290 + k) by omega]
  have F4 := FMm_w F (j := 290 + k) (v := z)
  rw [j2, ml1220 F.2.1, if_pos (inB_nI (by omega) (by decide)), letH_e, nI_clamp (by omega), if_neg (nz_b F4), bind_s, semi_bad F4]
  exact ⟨_, rfl, F4⟩
theorem wat_b1 {kk aa : Nat} (hk : k < 8) (F : FMm Ym m hm0 h kk aa) (z : Int32) : ∃ h', ((if inB (2586 + nI k) (lnY Ym (hGr h 1220 m)) = true then
      letH (hTi h (hGr h 1220 m) (Int32.toNatClampNeg (2586 + nI k)) z) fun h6 =>
      (M_isGuards Ym m h6).bind fun q7 =>
      (M_must Ym m q7 h6).bind fun q8 =>
      (M_readBooks Ym m q8).bind fun q10 =>
      if inB (2594 + nI k) (lnY Ym (hGr q8 1220 m)) = true then
        letH (hTi q10.2 (hGr q8 1220 m) (Int32.toNatClampNeg (2594 + nI k)) q10.1) fun h12 =>
        if (hGi h12 1212 m) = 0 then
          if inB 2311 (lnY Ym (hGr h12 1220 m)) = true then
            if inB 2311 (lnY Ym (hGr h12 1220 m)) = true then
              letH (hTi h12 (hGr h12 1220 m) (Int32.toNatClampNeg 2311) ((hAi h12 (hGr h12 1220 m) (Int32.toNatClampNeg 2311)) + 1)) fun h17 =>
              some h17
            else none
          else none
        else
          some h12
      else none
    else none).bind fun q13 => (M_isSign Ym m 59 q13).bind fun q14 => M_must Ym m q14 q13) = some h' ∧ FMm Ym m hm0 h' kk aa := by
  have j1 : (2586 : Int32) + nI k = nI (2304 + (282 + k)) := by rw [zlit, nI_add, show 2586 + k = 2304 + (282 + k) by omega]
  have F4 := FMm_w F (j := 282 + k) (v := z)
  obtain ⟨b, e⟩ := totGuards (Y := Ym) (h := hTi h (hGr h 1220 m) (2304 + (282 + k)) z) (m := m)
  obtain ⟨h', e', F'⟩ := wat_b2 hk F4 (fun q => by rw [q]) 0
  rw [j1, ml1220 F.2.1, if_pos (inB_nI (by omega) (by decide)), letH_e, nI_clamp (by omega), e, bind_s, must_b F4, bind_s, m_readBooks_b F4.2.2, bind_s]
  exact ⟨h', e', F'⟩
theorem r_wat (C : PC Yc x t s n T P hc0 hc p c c w) (M : PM Ym m n T hm0 hm p c w) (G : GB c w) (os : isO Yc 4 s) (ot : isO Yc 7 t) (hP : ∀ a, shR hc0 s a → P a) (z1 : tI T n p = some 18) :
    OC Yc Ym x t s m n T P hc0 hm0 p (SR_readLot Yc rd t s (hGr hc 402 s) 18 19 hc) ((M_readWatch Ym m hm).bind fun q13 => (M_isSign Ym m 59 q13).bind fun q14 => M_must Ym m q14 q13) := by
  have zK := tI_0 z1
  have Vb := G.1
  have l2 := VC_l2 Vb
  have l7 := VC_l7 Vb
  have p2 : 2 ^ cN c 2 ≤ 2 ^ 6 := Nat.pow_le_pow_right (by decide) (by omega)
  have n9 : n ≤ 900 := C.2.2.2.1.1.2.2.1
  have e7 := VC_e7 Vb
  have i3 : inB 2311 2880 = true := by decide
  have elo : ∀ {h c' cn' w'} {p' : Nat}, PC Yc x t s n T P hc0 h p' c' cn' w' → hGr hc 402 s = hGr h 402 s := fun A => (C.1.2.2.1 402 s).trans (A.1.2.2.1 402 s).symm
  have g0 : ∀ {h cn' w'} {p' : Nat}, PC Yc x t s n T P hc0 h p' c cn' w' → hGi h 302 (hGr h 402 s) = nI (cN c 7) := fun A => (A.2.2.2.2.1.1.2.2.2.2.2.2.2.1).trans e7
  unfold SR_readLot M_readWatch
  rw [wat_full C.2.1 os (g0 C) (by omega), bind_s]
  by_cases h8 : cN c 7 < 8
  · obtain ⟨h1, a1, a2, a3, _⟩ := TC_adv C.2.2.2.1
    have C1 := PC_k C a2 a3
    have N := c_new C1 os ot (hP s (Or.inl rfl)) Vb.1 G.2.1 (so := 6) (by decide) rfl h8
    have NM := m_new M Vb.1 (so := 6) (by decide) rfl h8
    rw [if_neg (show ¬ decide (¬ cN c 7 < 8) = true by simpa using h8), a1, bind_s, elo C1, g0 C1]
    by_cases ok : newOk T n (tE T n p) c w
    · obtain ⟨h2, e1, C2⟩ := N.1 ok
      obtain ⟨k2, f1, M2⟩ := NM.1 ok
      have hp1 := tE_gt (T := T) C.2.2.2.1.2.1 (by omega)
      have hp2 := tE_gt (T := T) C1.2.2.2.1.2.1 (isNm_0 ok.1)
      have Vn2 := VN_new G.2.1 (so := 6) (k := cN c 7) (v := lN (tW T n (tE T n p))) (by decide) (by omega) rfl (fun so' h1 => (cnt8 Vb.1 h1).2) ok.2
      rw [show To_passNew Yc t s 18 (nI (cN c 7)) h1 = some (true, h2) from e1, bind_s, if_pos rfl, show M_readNew Ym m 6 8 hm = some (nI (cN c 7), k2) from f1, bind_s, isCosts_s M2.2.2.1, bind_s]
      rcases j_word C2 M2 (i := 16) (by decide) with ⟨h3, k3, a3, b3, C3, M3, _, hp3⟩ | ⟨h3, k3, kk, aa, a3, b3, F, F'⟩
      · rw [show To_passWord Yc t 16 h2 = some (true, h3) from a3, bind_s, if_pos rfl]
        rcases j_num C3 M3 (lo := 0) (hi := 99) (by decide) (by decide) with ⟨v, h4, k4, a4, b4, C4, M4, e4, hv, hp4⟩ | ⟨h4, k4, kk, aa, a4, b4, F, F'⟩
        · have j1 : (2586 : Int32) + nI (cN c 7) = nI (2304 + (282 + cN c 7)) := by rw [zlit, nI_add, show 2586 + cN c 7 = 2304 + (282 + cN c 7) by omega]
          have j2 : (2594 : Int32) + nI (cN c 7) = nI (2304 + (290 + cN c 7)) := by rw [zlit, nI_add, show 2594 + cN c 7 = 2304 + (290 + cN c 7) by omega]
          have M5 := PM_w M4 (k := 282 + cN c 7) (v := nI v) (by omega)
          have g24 : hGr k2 1220 m = hGr k4 1220 m := (M2.1.2.2.1 1220 m).trans (M4.1.2.2.1 1220 m).symm
          rw [show To_passNumber Yc t 0 99 h3 = some (true, h4) from a4, bind_s, if_pos rfl, show M_behindWord Ym m (decide (tI T n (tE T n (tE T n p)) = some 16)) 0 99 k2 = some (nI v, k4) from bw b3 b4, bind_s, e4, g24, j1, ml1220 M4.2.1, if_pos (inB_nI (by omega) (by decide)), letH_e, nI_clamp (by omega), isGuards_s M5.2.2.1, bind_s]
          rcases j_word C4 M5 (i := 19) (by decide) with ⟨h6, k6, a6, b6, C6, M6, _, hp6⟩ | ⟨h6, k6, kk, aa, a6, b6, F, F'⟩
          · have ecm : ∀ so, so < 7 → upd c (282 + cN c 7) (nI v) (manyI so) = c (manyI so) := fun so hso => pk_un (by have := many_lt hso; omega)
            have cmc : ∀ i, i < 10 → cN (upd c (282 + cN c 7) (nI v)) i = cN c i := fun i hi => cN_cell (pk_un (show i ≠ 282 + cN c 7 by omega))
            have nbc : ∀ {i k : Nat}, i < 10 → nB c i k → nB (upd c (282 + cN c 7) (nI v)) i k := fun {i k} hi h => nB_cell (pk_un (show i ≠ 282 + cN c 7 by omega)) h
            have NQ1 : NQ (upd c (282 + cN c 7) (nI v)) (upd c 7 (nI (cN c 7 + 1))) (vp_updL w (8 * 6 + cN c 7) (lN (tW T n (tE T n p)))) := by
              obtain ⟨v0, v1, v2, v3, v4, v5, v6, v7⟩ := Vb.1
              refine ⟨⟨nbc (by decide) v0, nbc (by decide) v1, nbc (by decide) v2, nbc (by decide) v3, nbc (by decide) v4, nbc (by decide) v5, nbc (by decide) v6, nbc (by decide) v7⟩, Vn2, ?_⟩
              have e50 := nmT_up (so := 6) (k := cN c 7) (c := c) (by decide) (by omega) rfl
              have l50 := nmT_lt Vb.1 (so := 6) (by decide) h8
              have e51 : nmT (upd c 7 (nI (cN c 7 + 1))) = nmT c + 1 := e50.1
              omega
            have e2 : cN (upd c 7 (nI (cN c 7 + 1))) 2 = cN (upd c (282 + cN c 7) (nI v)) 2 := by rw [cmc 2 (by decide)]; exact cN_cell (pk_un (by decide))
            have FUn : ∀ q, n - q < FU := fun q => by have : FU = 4000000 := rfl; omega
            rw [show To_passWord Yc t 19 h4 = some (true, h6) from a6, bind_s, if_pos rfl, b6, bind_s]
            have B := j_books (lo := hGr h1 402 s) (cost := nI v) (c := c) (cm := upd c (282 + cN c 7) (nI v)) os ot NQ1 e2 n9 FU 0 0 FU _ (Nat.zero_le _) (FUn _) (FUn _) (Nat.two_pow_pos _) h6 k6 C6 M6
            unfold M_readBooks
            rcases B with ⟨h7, k7, p7, V, r1, r2, C7, M7, r5, r6, r7⟩ | ⟨h7, k7, kk, aa, vv, r1, r2, F, F'⟩ | ⟨h7, k7, p7, vv, r1, r2, F, M7, r5⟩
            · rw [cmc 2 (by decide)] at r7
              obtain ⟨G', K⟩ := wat_gb G rfl h8 (show v < 100 by omega) r7 Vn2
              have g67 : hGr k6 1220 m = hGr k7 1220 m := (M6.1.2.2.1 1220 m).trans (M7.1.2.2.1 1220 m).symm
              have o3 : isO Yc 3 (hGr h7 402 s) := C7.2.2.1.1 402 3 rfl s os
              have RS1 := wat_rs (v := v) (V := V) C7.2.1 C7.2.2.1 os C7.2.2.2.2.1 Vb rfl h8 K
              have Kf1 : Kf Yc (hGr h7 402 s) h7 (wath h7 (hGr h7 402 s) (cN c 7) v V) := wat_kf o3
              have N1 : RN (wath h7 (hGr h7 402 s) (cN c 7) v V) s (watc c (cN c 7) v V) (vp_updL w (8 * 6 + cN c 7) (lN (tW T n (tE T n p)))) := by
                refine RN_cnt (c := upd c 7 (nI (cN c 7 + 1))) (fun so hso => ?_) (RN_o C7.2.1 os (isO_ne os o3 (by decide)) Kf1 C7.2.2.2.2.2)
                obtain ⟨w0, w1, w2⟩ := wat_v (c := c) (v := v) (V := V) h8
                by_cases z : so = 6
                · subst z
                  rw [show manyI 6 = 7 from rfl, cN_us (by omega), cN_v w0 (by omega)]
                · have m1' : manyI so ≠ 7 := fun q => z (many_inj (b := 6) q)
                  have ml := many_lt hso
                  rw [cN_cell (wat_o (show ¬ (manyI so = 7 ∨ manyI so = 282 + cN c 7 ∨ manyI so = 290 + cN c 7) by omega)), cN_cell (pk_un m1')]
              have r4 : hGr h7 402 s = hGr hc0 402 s := C7.1.2.2.1 402 s
              have Cb := PC_f C7 Kf1 (by rw [r4]; exact hP _ (Or.inr (Or.inr (Or.inr (Or.inl rfl))))) (isO_ne o3 ot (by decide)) ot RS1 N1
              have M8 := PM_w M7 (k := 290 + cN c 7) (v := nI V) (by omega)
              have M9 := PM_w1 M8 (k := 7) (v := cN c 7) (z := Int32.toNatClampNeg 2311) (by decide) (by rw [pk_un (by omega), pk_un (by omega)]; exact e7) rfl
              rw [show SR_readLot_L76 Yc t s (hGr h1 402 s) (nI v) FU 0 0 h6 = _ from r1, ← elo C1, elo C7, wat_add C7.2.1 os h8 (g0 C7), bind_s, show M_readBooks_L2 Ym m FU 0 k6 = some (nI V, k7) from r2, bind_s, j2, g67, ml1220 M7.2.1, if_pos (inB_nI (by omega) (by decide)), letH_e, nI_clamp (by omega), if_pos M8.2.2.2.1, ml1220 M8.2.1, if_pos i3, if_pos i3, letH_e, bind_s]
              exact fin_semi Cb M9 G' (by omega)
            · have g67 : hGr k6 1220 m = hGr k7 1220 m := (M6.1.2.2.1 1220 m).trans (F'.1.2.2.1 1220 m).symm
              obtain ⟨hb', e', F2⟩ := wat_b2 h8 F' (fun q => by rw [q]) vv
              have R := OC_f (x := x) (s := s) (n := n) (T := T) (p0 := p) F F2
              rw [← e'] at R
              rw [show SR_readLot_L76 Yc t s (hGr h1 402 s) (nI v) FU 0 0 h6 = _ from r1, show M_readBooks_L2 Ym m FU 0 k6 = some (vv, k7) from r2, bind_s, g67]
              exact R
            · have g67 : hGr k6 1220 m = hGr k7 1220 m := (M6.1.2.2.1 1220 m).trans (M7.1.2.2.1 1220 m).symm
              have M8 := PM_w M7 (k := 290 + cN c 7) (v := vv) (by omega)
              have M9 := PM_w1 M8 (k := 7) (v := cN c 7) (z := Int32.toNatClampNeg 2311) (by decide) (by rw [pk_un (by omega), pk_un (by omega)]; exact e7) rfl
              obtain ⟨k9, d1, d2, d3⟩ := m_must_f (Y := Ym) M9.2.2.1 M9.2.2.2.1
              rw [show SR_readLot_L76 Yc t s (hGr h1 402 s) (nI v) FU 0 0 h6 = _ from r1, show M_readBooks_L2 Ym m FU 0 k6 = some (vv, k7) from r2, bind_s, j2, g67, ml1220 M7.2.1, if_pos (inB_nI (by omega) (by decide)), letH_e, nI_clamp (by omega), if_pos M8.2.2.2.1, ml1220 M8.2.1, if_pos i3, if_pos i3, letH_e, bind_s, m_sign M9.2.2.1, r5, bind_s]
              refine Or.inr ⟨h7, k9, _, _, rfl, d1, F, FMm_k M9 d2 d3⟩
          · obtain ⟨hb', e', F2⟩ := wat_b2 h8 F' (fun q => by rw [q]) 0
            have R := OC_f (x := x) (s := s) (n := n) (T := T) (p0 := p) F F2
            rw [← e'] at R
            rw [show To_passWord Yc t 19 h4 = some (false, h6) from a6, bind_s, if_neg fne, b6, bind_s, m_readBooks_b F'.2.2, bind_s]
            exact R
        · have g24 : hGr k2 1220 m = hGr k4 1220 m := (M2.1.2.2.1 1220 m).trans (F'.1.2.2.1 1220 m).symm
          obtain ⟨hb', e', F2⟩ := wat_b1 h8 F' 0
          have R := OC_f (x := x) (s := s) (n := n) (T := T) (p0 := p) F F2
          rw [← e'] at R
          rw [show To_passNumber Yc t 0 99 h3 = some (false, h4) from a4, bind_s, if_neg fne, show M_behindWord Ym m (decide (tI T n (tE T n (tE T n p)) = some 16)) 0 99 k2 = some (0, k4) from bw b3 b4, bind_s, g24]
          exact R
      · have g24 : hGr k2 1220 m = hGr k3 1220 m := (M2.1.2.2.1 1220 m).trans (F'.1.2.2.1 1220 m).symm
        obtain ⟨hb', e', F2⟩ := wat_b1 h8 F' 0
        have R := OC_f (x := x) (s := s) (n := n) (T := T) (p0 := p) F F2
        rw [← e'] at R
        rw [show To_passWord Yc t 16 h2 = some (false, h3) from a3, bind_s, if_neg fne, show M_behindWord Ym m (decide (tI T n (tE T n (tE T n p)) = some 16)) 0 99 k2 = some (0, k3) from bw b3 (m_count_b F'.2.2 _ _), bind_s, g24]
        exact R
    · obtain ⟨h2, e1, F⟩ := N.2 ok
      obtain ⟨k2, f1, F'⟩ := NM.2 ok
      obtain ⟨bc, ec⟩ := totCosts (Y := Ym) (h := k2) (m := m)
      obtain ⟨hb', e', F2⟩ := wat_b1 (k := 0) (by decide) F' 0
      have R := OC_f (x := x) (s := s) (n := n) (T := T) (p0 := p) F F2
      rw [← e'] at R
      rw [show To_passNew Yc t s 18 (nI (cN c 7)) h1 = some (false, h2) from e1, bind_s, if_neg fne, show M_readNew Ym m 6 8 hm = some (0, k2) from f1, bind_s, ec, bind_s, bw_b F', bind_s]
      exact R
  · have e8 : cN c 7 = 8 := by omega
    obtain ⟨h1, e1, e2, e3⟩ := c_blame C.2.2.2.1 6
    obtain ⟨k1, f1, F'⟩ := m_full M Vb.1 (so := 6) (by decide) e8
    obtain ⟨bc, ec⟩ := totCosts (Y := Ym) (h := k1) (m := m)
    obtain ⟨hb', e', F2⟩ := wat_b1 (k := 0) (by decide) F' 0
    rw [flt_1 zK] at e3
    have R := OC_f (x := x) (s := s) (n := n) (T := T) (p0 := p) (FCc_k C e2 e3) F2
    rw [← e'] at R
    rw [if_pos (show decide (¬ cN c 7 < 8) = true by rw [e8]; rfl), show To_blame Yc t 6 hc = some (false, h1) from e1, bind_s, show M_readNew Ym m 6 8 hm = some (0, k1) from f1, bind_s, ec, bind_s, bw_b F', bind_s]
    exact R
end Lwat
