section RRD
variable {Yc Ym : Ly} {x t s rd m n : Nat} {T : Nat → Int32} {P : Nat → Prop} {hc0 hm0 hc hm : Hp} {p : Nat} {c : Nat → Int32} {w : Nat → Int64}
theorem reader_gb (G : GB c w) {k : Nat} {w' : Nat → Int64} (e0 : cN c 4 = k) (h0 : k < 6) (Vn : VN (upd c 4 (nI (k + 1))) w') : GB (upd c 4 (nI (k + 1))) w' ∧ keepC c (upd c 4 (nI (k + 1))) := by
  obtain ⟨V, _, g3, g4⟩ := G
  have hc : ∀ i, ¬ (i = 4) → upd c 4 (nI (k + 1)) i = c i := fun i hi => pk_un hi
  have K : keepC c (upd c 4 (nI (k + 1))) := keepC_of V (fun i => i = 4) hc (fun i hi => by omega)
  have c0 : cN (upd c 4 (nI (k + 1))) 4 = k + 1 := cN_us (by omega)
  have cn : ∀ i, i ≠ 4 → cN (upd c 4 (nI (k + 1))) i = cN c i := fun i h1 => cN_cell (hc i h1)
  obtain ⟨v0, v1, v2, v3, v4, v5, v6, v7⟩ := V.1
  have cells : ∀ {i k' : Nat}, i ≠ 4 → nB c i k' → nB (upd c 4 (nI (k + 1))) i k' := fun h1 h => nB_cell (hc _ h1) h
  refine ⟨⟨VB_gen V (fun i hi => ?_) ⟨cells (by decide) v0, cells (by decide) v1, cells (by decide) v2, cells (by decide) v3, nB_us (by omega) (by decide), cells (by decide) v5, cells (by decide) v6, cells (by decide) v7⟩ ⟨?_, ?_⟩ K (VR_mono V.2.2.2.1 (fun i hi => hc _ (by omega)) (by rw [cn 0 (by decide)]; omega) (by rw [cn 1 (by decide)]; omega)) (fun t h1 h2 => ?_) (fun b h1 h2 => ?_) (fun f h1 h2 => ?_) (fun i h1 h2 => ?_) (fun i h1 h2 => ?_) (fun i h1 h2 => ?_) (fun b hb => ?_), Vn, ?_, fun b h1 h2 => ?_⟩, K⟩
  · by_cases z : i = 4
    · rw [z, c0]; omega
    · rw [cn i z]; exact Nat.le_refl _
  · rw [cn 0 (by decide)]; exact cells (by decide) V.2.1.1
  · rw [c0]
    exact nB_mono (cells (by decide) V.2.1.2) (Nat.pow_le_pow_right (by decide) (by omega))
  · rw [cn 1 (by decide)] at h2; omega
  · rw [cn 2 (by decide)] at h2; omega
  · rw [cn 3 (by decide)] at h2; omega
  · rw [cn 5 (by decide)] at h2; omega
  · rw [cn 6 (by decide)] at h2; omega
  · rw [cn 7 (by decide)] at h2; omega
  · rw [cn 2 (by decide)] at hb ⊢
    exact cells (by omega) (V.2.2.2.2.2.2.2.2.2 b hb)
  · rw [hc 304 (by omega)]; exact g3
  · rw [cn 2 (by decide)] at h1
    rw [hc (100 + b) (by omega), hc (298 + b) (by omega)]; exact g4 b h1 h2
theorem r_reader (C : PC Yc x t s n T P hc0 hc p c c w) (M : PM Ym m n T hm0 hm p c w) (G : GB c w) (os : isO Yc 4 s) (ot : isO Yc 7 t) (hP : ∀ a, shR hc0 s a → P a) (z1 : tI T n p = some 14) :
    OC Yc Ym x t s m n T P hc0 hm0 p (SR_readReader Yc rd t s hc) ((M_readReader Ym m hm).bind fun q13 => (M_isSign Ym m 59 q13).bind fun q14 => M_must Ym m q14 q13) := by
  have zK := tI_0 z1
  have Vb := G.1
  have l4 := VC_l4 Vb
  have g0 : ∀ {h c' cn' w'} {p' : Nat}, PC Yc x t s n T P hc0 h p' c' cn' w' → hGi h 416 s = c' 4 := fun A => A.2.2.2.2.1.1.2.2.2.2.1
  have i2308 : inB 2308 2880 = true := by decide
  unfold SR_readReader
  rw [g0 C, VC_e4 Vb]
  by_cases h8 : cN c 4 < 6
  · obtain ⟨h1, a1, a2, a3, _⟩ := TC_adv C.2.2.2.1
    have C1 := PC_k C a2 a3
    have N := c_new C1 os ot (hP s (Or.inl rfl)) Vb.1 G.2.1 (so := 4) (by decide) rfl h8
    have NM := m_new M Vb.1 (so := 4) (by decide) rfl h8
    rw [if_pos (show nI (cN c 4) < 6 from nI_lt (b := 6) h8 (by omega)), a1, bind_s, g0 C1, VC_e4 Vb]
    unfold M_readReader
    by_cases ok : newOk T n (tE T n p) c w
    · obtain ⟨h2, e1, C2⟩ := N.1 ok
      obtain ⟨k2, f1, M2⟩ := NM.1 ok
      have hp1 := tE_gt (T := T) C.2.2.2.1.2.1 (by omega)
      have hp2 := tE_gt (T := T) C1.2.2.2.1.2.1 (isNm_0 ok.1)
      have Vn2 := VN_new G.2.1 (so := 4) (k := cN c 4) (v := lN (tW T n (tE T n p))) (by decide) (by omega) rfl (fun so' h1 => (cnt8 Vb.1 h1).2) ok.2
      obtain ⟨G', K⟩ := reader_gb G rfl h8 Vn2
      rw [show To_passNew Yc t s 14 (nI (cN c 4)) h1 = some (true, h2) from e1, bind_s, if_pos rfl, letH_e, g0 C2, VC_e4 Vb, nI_1, show M_readNew Ym m 4 6 hm = some (nI (cN c 4), k2) from f1, bind_s, if_pos M2.2.2.2.1, ml1220 M2.2.1, if_pos i2308, if_pos i2308, letH_e, show hAi k2 (hGr k2 1220 m) (Int32.toNatClampNeg 2308) = nI (cN c 4) from (M2.2.2.2.2.1 4 (by decide)).trans (VC_e4 Vb), nI_1, bind_s]
      have r := C2.2.2.2.2.1.1
      have gq : ∀ f a, f ≠ 416 → hGi (hSi h2 416 s (nI (cN c 4 + 1))) f a = hGi h2 f a := fun f a h1 => by rw [gi_si, if_neg (fun z => h1 z.1)]
      have cq : ∀ i, i ≠ 4 → upd c 4 (nI (cN c 4 + 1)) i = c i := fun i h1 => pk_un h1
      have RS1 : RF (hSi h2 416 s (nI (cN c 4 + 1))) s (upd c 4 (nI (cN c 4 + 1))) := by
        refine RS_flds C2.2.2.2.2.1 K rfl ?_ (fun i hi => cN_cell (cq i (by omega))) (fun i hi => cq _ (by omega)) (fun b hb => cq _ (by omega)) (VC_l2 Vb)
        exact ⟨(gq 604 _ (by decide)).trans (r.1.trans (cq 0 (by decide)).symm), (gq 605 _ (by decide)).trans (r.2.1.trans (cq 1 (by decide)).symm), (gq 415 _ (by decide)).trans (r.2.2.1.trans (cq 2 (by decide)).symm), (gq 607 _ (by decide)).trans (r.2.2.2.1.trans (cq 3 (by decide)).symm), by rw [gi_si, if_pos ⟨rfl, rfl⟩, pk_us], (gq 418 _ (by decide)).trans (r.2.2.2.2.2.1.trans (cq 5 (by decide)).symm), (gq 302 _ (by decide)).trans (r.2.2.2.2.2.2.1.trans (cq 6 (by decide)).symm), (gq 302 _ (by decide)).trans (r.2.2.2.2.2.2.2.1.trans (cq 7 (by decide)).symm), (gq 606 _ (by decide)).trans (r.2.2.2.2.2.2.2.2.1.trans (cq 8 (by decide)).symm), (gq 417 _ (by decide)).trans (r.2.2.2.2.2.2.2.2.2.trans (cq 9 (by decide)).symm)⟩
      have N1 : RN (hSi h2 416 s (nI (cN c 4 + 1))) s (upd c 4 (nI (cN c 4 + 1))) (vp_updL w (8 * 4 + cN c 4) (lN (tW T n (tE T n p)))) := RN_eq C2.2.2.2.2.2 (gq 414 _ (by decide)) (fun _ => rfl) (fun _ => rfl) (fun _ => rfl)
      have Cb := PC_f C2 (Kf_si (Or.inl rfl)) (hP s (Or.inl rfl)) (isO_ne os ot (by decide)) ot RS1 N1
      have Mb := PM_w M2 (k := 4) (v := nI (cN c 4 + 1)) (by decide)
      exact fin_semi Cb Mb G' (by omega)
    · obtain ⟨h2, e1, F1⟩ := N.2 ok
      obtain ⟨k2, f1, F2⟩ := NM.2 ok
      rw [show To_passNew Yc t s 14 (nI (cN c 4)) h1 = some (false, h2) from e1, bind_s, if_neg (show ¬ (false, h2).1 = true from fun w => by cases w), show M_readNew Ym m 4 6 hm = some (0, k2) from f1, bind_s, if_neg (BF_nz F2.2.2).1, bind_s, semi_bad F2]
      exact Or.inr ⟨h2, k2, _, _, rfl, rfl, F1, F2⟩
  · have e8 : cN c 4 = 6 := by omega
    obtain ⟨h1, e1, e2, e3⟩ := c_blame C.2.2.2.1 6
    obtain ⟨k1, f1, F2⟩ := m_full M Vb.1 (so := 4) (by decide) e8
    rw [flt_1 zK] at e3
    unfold M_readReader
    rw [if_neg (show ¬ nI (cN c 4) < 6 by rw [e8]; decide), show To_blame Yc t 6 hc = some (false, h1) from e1, bind_s, show M_readNew Ym m 4 6 hm = some (0, k1) from f1, bind_s, if_neg (BF_nz F2.2.2).1, bind_s, semi_bad F2]
    exact Or.inr ⟨h1, k1, _, _, rfl, rfl, FCc_k C e2 e3, F2⟩
end RRD
