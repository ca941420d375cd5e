/-! ===== parts of a text: follows ===== -/
section RFO
variable {Yc Ym : Ly} {x t s rd m n : Nat} {T : Nat → Int32} {P : Nat → Prop} {hc0 hm0 hc hm h : Hp} {p p0 : Nat} {c : Nat → Int32} {w : Nat → Int64} {a v : Nat}
theorem fol_gb (G : GB c w) (ha : a < cN c 2) (hv : v < 2 ^ cN c 2) : GB (upd c (298 + a) (nI v)) w ∧ keepC c (upd c (298 + a) (nI v)) := by
  obtain ⟨V, Vn, g3, g4⟩ := G
  have l2 := VC_l2 V
  have p2 : 2 ^ cN c 2 ≤ 2 ^ 6 := Nat.pow_le_pow_right (by decide) (by omega)
  have hc : ∀ i, ¬ (i = 298 + a) → upd c (298 + a) (nI v) i = c i := fun i hi => pk_un hi
  have K : keepC c (upd c (298 + a) (nI v)) := keepC_of V (fun i => i = 298 + a) hc (fun i hi => by have := VC_l7 V; omega)
  have cn : ∀ i, i < 298 → cN (upd c (298 + a) (nI v)) i = cN c i := fun i h1 => cN_cell (hc i (by omega))
  obtain ⟨v0, v1, v2, v3, v4, v5, v6, v7⟩ := V.1
  have cells : ∀ {i k' : Nat}, i < 298 → nB c i k' → nB (upd c (298 + a) (nI v)) i k' := fun h1 h => nB_cell (hc _ (by omega)) h
  refine ⟨⟨VB_gen V (fun i hi => by rw [cn i (by omega)]; exact Nat.le_refl _) ⟨cells (by decide) v0, cells (by decide) v1, cells (by decide) v2, cells (by decide) v3, cells (by decide) v4, cells (by decide) v5, cells (by decide) v6, cells (by decide) v7⟩ ⟨?_, ?_⟩ K (VR_mono V.2.2.2.1 (fun i hi => hc _ (by omega)) (by rw [cn 0 (by decide)]; exact Nat.le_refl _) (by rw [cn 1 (by decide)]; exact Nat.le_refl _)) (fun t h1 h2 => ?_) (fun b h1 h2 => ?_) (fun f h1 h2 => ?_) (fun i h1 h2 => ?_) (fun i h1 h2 => ?_) (fun i h1 h2 => ?_) (fun b hb => ?_), VN_cnt (fun so hso => ?_) Vn, ?_, fun b h1 h2 => ?_⟩, K⟩
  · rw [cn 0 (by decide)]
    exact cells (by decide) V.2.1.1
  · rw [cn 4 (by decide)]
    exact cells (by decide) V.2.1.2
  · rw [cn 1 (by decide)] at h2; omega
  · rw [cn 2 (by decide)] at h2; omega
  · rw [cn 3 (by decide)] at h2; omega
  · rw [cn 5 (by decide)] at h2; omega
  · rw [cn 6 (by decide)] at h2; omega
  · rw [cn 7 (by decide)] at h2; omega
  · rw [cn 2 (by decide)] at hb ⊢
    by_cases z : b = a
    · rw [z]; exact nB_us hv (by omega)
    · exact nB_cell (hc _ (by omega)) (V.2.2.2.2.2.2.2.2.2 b hb)
  · have ml := many_lt hso
    exact cn _ (by omega)
  · rw [hc 304 (by omega)]; exact g3
  · rw [cn 2 (by decide)] at h1
    rw [hc (100 + b) (by omega), hc (298 + b) (by omega)]; exact g4 b h1 h2
theorem fol_rs (S : CS Yc h x) (Tt : Ty Yc h) (os : isO Yc 4 s) (R : RF h s c) (V : VB c) (ha : a < cN c 2) (K : keepC c (upd c (298 + a) (nI v))) : RF (hTi h (hGr h 411 s) a (nI v)) s (upd c (298 + a) (nI v)) := by
  have o6 := Tt.1 400 6 rfl s os
  have o1 := Tt.1 401 3 rfl s os
  have o2 := Tt.1 402 3 rfl s os
  have hc : ∀ i, ¬ (i = 298 + a) → upd c (298 + a) (nI v) i = c i := fun i hi => pk_un hi
  have cn : ∀ i, i < 298 → cN (upd c (298 + a) (nI v)) i = cN c i := fun i h1 => cN_cell (hc i (by omega))
  have A : ∀ {f o j}, cArr f = true → isO Yc (f / 100) o → f ≠ 411 → hAi (hTi h (hGr h 411 s) a (nI v)) (hGr h f o) j = hAi h (hGr h f o) j := fun hf ho ne => ai_oth S rfl os hf ho (Or.inl ne)
  have r := R.1
  refine RS_gen R K (fun _ _ => rfl) ⟨r.1.trans (hc 0 (by omega)).symm, r.2.1.trans (hc 1 (by omega)).symm, r.2.2.1.trans (hc 2 (by omega)).symm, r.2.2.2.1.trans (hc 3 (by omega)).symm, r.2.2.2.2.1.trans (hc 4 (by omega)).symm, r.2.2.2.2.2.1.trans (hc 5 (by omega)).symm, r.2.2.2.2.2.2.1.trans (hc 6 (by omega)).symm, r.2.2.2.2.2.2.2.1.trans (hc 7 (by omega)).symm, r.2.2.2.2.2.2.2.2.1.trans (hc 8 (by omega)).symm, r.2.2.2.2.2.2.2.2.2.trans (hc 9 (by omega)).symm⟩ (fun t ht => A rfl o6 (by decide)) (fun t h1 h2 => ?_) (fun i hi => ?_) (fun f hf => ⟨A rfl o6 (by decide), fun k _ => A rfl o6 (by decide)⟩) (fun f h1 h2 => ?_) (fun b hb => ?_) (fun b h1 h2 => ?_) (fun i hi => A rfl os (by decide)) (fun i h1 h2 => ?_) (fun o ho => ⟨A rfl o1 (by decide), A rfl o1 (by decide)⟩) (fun o h1 h2 => ?_) (fun o ho => ⟨A rfl o2 (by decide), A rfl o2 (by decide)⟩) (fun o h1 h2 => ?_)
  · rw [cn 1 (by decide)] at h2; omega
  · rw [A rfl o6 (by decide), hc _ (by omega)]; exact R.2.1.2.1 i hi
  · rw [cn 3 (by decide)] at h2; omega
  · refine ⟨A rfl os (by decide), A rfl os (by decide), A rfl os (by decide), A rfl os (by decide), ?_, fun p _ => A rfl os (by decide)⟩
    by_cases z : b = a
    · rw [z, pk_us]; exact ai_at
    · rw [ai_sam z, hc _ (by omega)]; exact (R.2.2.1 b hb).2.2.2.2.1
  · rw [cn 2 (by decide)] at h2; omega
  · rw [cn 5 (by decide)] at h2; omega
  · rw [cn 6 (by decide)] at h2; omega
  · rw [cn 7 (by decide)] at h2; omega
theorem r_follows (C : PC Yc x t s n T P hc0 hc p c c w) (M : PM Ym m n T hm0 hm p c w) (G : GB c w) (os : isO Yc 4 s) (ot : isO Yc 7 t) (hP : ∀ a, shR hc0 s a → P a) (z1 : tI T n p = some 20) :
    OC Yc Ym x t s m n T P hc0 hm0 p (SR_readFollows Yc rd t s hc) ((M_readFollows Ym m hm).bind fun q13 => (M_isSign Ym m 59 q13).bind fun q14 => M_must Ym m q14 q13) := by
  have Vb := G.1
  have l2 := VC_l2 Vb
  have p2 : 2 ^ cN c 2 ≤ 2 ^ 6 := Nat.pow_le_pow_right (by decide) (by omega)
  have N := NQ_same G
  unfold SR_readFollows M_readFollows
  obtain ⟨h1, k1, a1, b1, C1, M1, _⟩ := j_adv C M
  have hp1 := tI_gt C.2.2.2.1.2.1 z1
  rw [a1, bind_s, b1, bind_s]
  rcases j_old C1 M1 N os (so := 2) (by decide) rfl with ⟨a, h2, k2, a2, b2, C2, M2, e2, ha, hp2⟩ | ⟨h2, k2, kk, aa, a2, b2, F, F'⟩
  · have ha' : a < cN c 2 := ha
    rw [show To_passOld Yc t s 6 h1 = some (true, h2) from a2, bind_s, if_pos rfl, show M_readTold Ym m 4 2 k1 = some (nI a, k2) from b2, bind_s, e2]
    obtain ⟨A1, A2⟩ := c_see C2.2.1 os C2.2.2.2.1 C2.2.2.2.2.2 N.2.2 N.2.1 (so := 2) (by decide) (cnt8 N.1 (so := 2) (by decide)).2
    obtain ⟨B1, B2⟩ := m_told_s (Y := Ym) M2.2.1 M2.2.2.1 M2.2.2.2.1 (j := 4) (Nat.le_refl _) (PM_bn M2 N.1) (so := 2) (by decide)
    cases z : oldN T n (tE T n (tE T n p)) c w 2 with
    | none =>
      obtain ⟨h3, a3, d2, d3⟩ := A2 z
      obtain ⟨k3, b3, f2, f3⟩ := B2 z
      have F' := FMm_k M2 f2 f3
      rw [show To_seeOld Yc t s 6 h2 = some (false, h3) from a3, bind_s, if_neg fne, show M_told Ym m 4 2 k2 = some (0, k3) from b3, bind_s, if_neg (nz_b F'), M_readFollows_J39, must_b F', bind_s, if_neg (nz_b F'), bind_s, semi_bad F']
      exact OC_f (FCc_k C2 d2 d3) F'
    | some b =>
      obtain ⟨h3, a3, d2, d3, d4⟩ := A1 b z
      have b3 := B1 b z
      have zz : isNm T n (tE T n (tE T n p)) = true := by
        unfold oldN at z
        split at z
        · assumption
        · cases z
      have hb' : b < cN c 2 := by
        unfold oldN at z
        rw [if_pos zz] at z
        exact (nmF_some z).1
      have C3 := PC_k C2 d2 d3
      rw [show To_seeOld Yc t s 6 h2 = some (true, h3) from a3, bind_s, if_pos rfl, show M_told Ym m 4 2 k2 = some (nI b, k2) from b3, bind_s, if_pos M2.2.2.2.1, d4]
      by_cases eab : b = a
      · obtain ⟨h4, g1, g2, g3⟩ := c_blame C3.2.2.2.1 5
        obtain ⟨k4, q1, q2, q3⟩ := m_fail (Y := Ym) M2.2.2.2.1 (k := 5) (a := tS T n (tE T n (tE T n p))) (by decide) (by decide)
        have F' := FMm_k M2 q2 q3
        rw [flt_1 (isNm_1 zz).1] at g3
        rw [if_pos (by rw [eab]), show To_blame Yc t 5 h3 = some (false, h4) from g1, bind_s, if_pos (by rw [eab]), M2.2.2.1.2.2.2.1, show M_fail Ym m 5 (nI (tS T n (tE T n (tE T n p)))) k2 = some k4 from q1, bind_s, M_readFollows_J39, must_b F', bind_s, if_neg (nz_b F'), bind_s, semi_bad F']
        exact OC_f (FCc_k C3 g2 g3) F'
      · have fa := Vb.2.2.2.2.2.2.2.2.2 a ha'
        have pb : 2 ^ b < 2 ^ cN c 2 := Nat.pow_lt_pow_right (by decide) hb'
        have hv : cN c (298 + a) ||| 2 ^ b < 2 ^ cN c 2 := Nat.or_lt_two_pow fa.2 pb
        obtain ⟨G', K⟩ := fol_gb G ha' hv
        obtain ⟨k4, q1, q2, q3, q4⟩ := m_must_t M2.2.2.1 M2.2.2.2.1
        have M3 := PM_k M2 q2 q3 q4
        have ib : (2602 : Int32) + nI a = nI (2304 + (298 + a)) := by rw [zlit, nI_add, show 2602 + a = 2304 + (298 + a) by omega]
        have mv : hAi k4 (hGr k4 1220 m) (2304 + (298 + a)) = nI (cN c (298 + a)) := (M3.2.2.2.2.1 _ (by omega)).trans fa.1
        have cv : hAi h3 (hGr h3 411 s) a = nI (cN c (298 + a)) := ((C3.2.2.2.2.1.2.2.1 a ha').2.2.2.2.1).trans fa.1
        have Kf1 : Kf Yc s h3 (hTi h3 (hGr h3 411 s) a (nI (cN c (298 + a) ||| 2 ^ b))) := Kf_ti rfl os
        have RS1 := fol_rs (v := cN c (298 + a) ||| 2 ^ b) C3.2.1 C3.2.2.1 os C3.2.2.2.2.1 Vb ha' K
        have N1 : RN (hTi h3 (hGr h3 411 s) a (nI (cN c (298 + a) ||| 2 ^ b))) s (upd c (298 + a) (nI (cN c (298 + a) ||| 2 ^ b))) w := by
          refine RN_cnt (c := c) (fun so hso => ?_) (RN_eq C3.2.2.2.2.2 rfl (fun _ => rfl) (fun i => ai_oth C3.2.1 rfl os rfl os (Or.inl (by decide))) (fun i => ai_oth C3.2.1 rfl os rfl os (Or.inl (by decide))))
          have ml := many_lt hso
          exact cN_cell (pk_un (by omega))
        have C4 := PC_f C3 Kf1 (hP s (Or.inl rfl)) (isO_ne os ot (by decide)) ot RS1 N1
        obtain ⟨h5, g1, g2, g3, _⟩ := TC_adv C4.2.2.2.1
        have C5 := PC_k C4 g2 g3
        have M4 := PM_w M3 (k := 298 + a) (v := nI (cN c (298 + a) ||| 2 ^ b)) (by omega)
        have hp3 := tE_gt (T := T) C2.2.2.2.1.2.1 (isNm_0 zz)
        rw [if_neg (show ¬ nI b = nI a from fun q => eab ((nI_eq (by omega) (by omega)).mp q)), Sh_hasBook_s C3.2.2.2.2.1.w Vb, isAt_nI ha' (by omega), bind_s, if_pos rfl, cl411 C3.2.1 os, if_pos (inB_nI (by omega) (by decide)), if_pos (inB_nI (by omega) (by decide)), letH_e, nI_clamp (by omega), cv, sh31 (by omega), zor, g1, bind_s, if_neg (show ¬ nI a = nI b from fun q => eab ((nI_eq (by omega) (by omega)).mp q).symm), M_readFollows_J39, q1, bind_s, if_pos q4, ib, ml1220 M3.2.1, if_pos (inB_nI (by omega) (by decide)), if_pos (inB_nI (by omega) (by decide)), letH_e, nI_clamp (by omega), mv, sh31 (by omega), zor, bind_s]
        exact fin_semi C5 M4 G' (by omega)
  · have et := m_told_b (Y := Ym) F'.2.2 4 2
    rw [show To_passOld Yc t s 6 h1 = some (false, h2) from a2, bind_s, if_neg fne, show M_readTold Ym m 4 2 k1 = some (0, k2) from b2, bind_s, et, bind_s, if_neg (nz_b F'), M_readFollows_J39, must_b F', bind_s, if_neg (nz_b F'), bind_s, semi_bad F']
    exact OC_f F F'
end RFO
