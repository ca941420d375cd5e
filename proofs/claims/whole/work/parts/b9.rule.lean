/-! ===== parts of a text: rule ===== -/
section RRU
variable {Yc Ym : Ly} {x t s rd m n : Nat} {T : Nat → Int32} {P : Nat → Prop} {hc0 hm0 hc hm h : Hp} {p : Nat} {c : Nat → Int32} {w : Nat → Int64}
theorem rule_gb (G : GB c w) {a b d : Nat} (ha : a < cN c 0) (hb : b < cN c 1) (hd : d < cN c 0) : GB (upd c (18 + (8 * a + b)) (nI d)) w ∧ keepC c (upd c (18 + (8 * a + b)) (nI d)) := by
  obtain ⟨V, Vn, g3, g4⟩ := G
  have l0 := VC_l0 V
  have l1 := VC_l1 V
  have l2 := VC_l2 V
  have hc : ∀ i, ¬ (i = 18 + (8 * a + b)) → upd c (18 + (8 * a + b)) (nI d) i = c i := fun i hi => pk_un hi
  have K : keepC c (upd c (18 + (8 * a + b)) (nI d)) := keepC_of V (fun i => i = 18 + (8 * a + b)) hc (fun i hi => by omega)
  have cn : ∀ i, i ≠ 18 + (8 * a + b) → cN (upd c (18 + (8 * a + b)) (nI d)) i = cN c i := fun i h1 => cN_cell (hc i h1)
  obtain ⟨v0, v1, v2, v3, v4, v5, v6, v7⟩ := V.1
  have cells : ∀ {i k' : Nat}, i ≠ 18 + (8 * a + b) → nB c i k' → nB (upd c (18 + (8 * a + b)) (nI d)) i k' := fun h1 h => nB_cell (hc _ h1) h
  refine ⟨⟨VB_gen V (fun i hi => by rw [cn i (by omega)]; exact Nat.le_refl _) ⟨cells (by omega) v0, cells (by omega) v1, cells (by omega) v2, cells (by omega) v3, cells (by omega) v4, cells (by omega) v5, cells (by omega) v6, cells (by omega) v7⟩ ⟨?_, ?_⟩ K (fun s' t' hs ht => ?_) (fun t h1 h2 => ?_) (fun b h1 h2 => ?_) (fun f h1 h2 => ?_) (fun i h1 h2 => ?_) (fun i h1 h2 => ?_) (fun i h1 h2 => ?_) (fun b hb => ?_), VN_cnt (fun so hso => ?_) Vn, ?_, fun b h1 h2 => ?_⟩, K⟩
  · rw [cn 0 (by omega)]
    exact cells (by omega) V.2.1.1
  · rw [cn 4 (by omega)]
    exact cells (by omega) V.2.1.2
  · rw [cn 0 (by omega), cn 1 (by omega)]
    by_cases z : 18 + 8 * s' + t' = 18 + (8 * a + b)
    · have e1 : s' = a := by omega
      have e2 : t' = b := by omega
      refine Or.inr ⟨by omega, by omega, ?_⟩
      rw [z]
      exact nB_us hd (by omega)
    · rcases V.2.2.2.1 s' t' hs ht with q | ⟨q1, q2, q3⟩
      · exact Or.inl ((hc _ z).trans q)
      · exact Or.inr ⟨q1, q2, cells z q3⟩
  · rw [cn 1 (by omega)] at h2; omega
  · rw [cn 2 (by omega)] at h2; omega
  · rw [cn 3 (by omega)] at h2; omega
  · rw [cn 5 (by omega)] at h2; omega
  · rw [cn 6 (by omega)] at h2; omega
  · rw [cn 7 (by omega)] at h2; omega
  · rw [cn 2 (by omega)] at hb ⊢
    exact cells (by omega) (V.2.2.2.2.2.2.2.2.2 b hb)
  · have ml := many_lt hso
    exact cn _ (by omega)
  · rw [hc 304 (by omega)]; exact g3
  · rw [cn 2 (by omega)] at h1
    rw [hc (100 + b) (by omega), hc (298 + b) (by omega)]; exact g4 b h1 h2
theorem nm1 {k : Nat} (hk : k < 2 ^ 31) : ¬ nI k = -1 := fun q => by
  have q' : nI k = m1 := q
  rw [ne_m1 hk] at q'
  exact q'
theorem setRule_s {a b d : Nat} (S : CS Yc h x) (o6 : isO Yc 6 (hGr h 400 s)) (R : RF h s c) (V : VB c) (ha : a < cN c 0) (hb : b < cN c 1) (hd : d < cN c 0) : St_setRule Yc (hGr h 400 s) (nI a) (nI b) (nI d) h = some (hTi h (hGr h 601 (hGr h 400 s)) (8 * a + b) (nI d)) := by
  have l0 := VC_l0 V
  have l1 := VC_l1 V
  unfold St_setRule
  rw [St_hasState_s R.w V, isAt_nI ha (by omega), bind_s, if_pos rfl, St_hasTurn_s R.w V, isAt_nI hb (by omega), bind_s, if_pos rfl, if_neg (nm1 (by omega)), St_hasState_s R.w V, isAt_nI hd (by omega), bind_s, if_pos rfl, show nI a * 8 + nI b = nI (8 * a + b) by rw [zlit, pk_mul, nI_add, Nat.mul_comm], cl601 S o6, if_pos (inB_nI (by omega) (by decide)), letH_e, nI_clamp (by omega)]
theorem rule_rs {a b d : Nat} (S : CS Yc h x) (Tt : Ty Yc h) (os : isO Yc 4 s) (R : RF h s c) (V : VB c) (ha : a < cN c 0) (hb : b < cN c 1) (K : keepC c (upd c (18 + (8 * a + b)) (nI d))) :
    RF (hTi h (hGr h 601 (hGr h 400 s)) (8 * a + b) (nI d)) s (upd c (18 + (8 * a + b)) (nI d)) := by
  have l0 := VC_l0 V
  have l1 := VC_l1 V
  have l2 := VC_l2 V
  have o6 := Tt.1 400 6 rfl s os
  have o1 := Tt.1 401 3 rfl s os
  have o2 := Tt.1 402 3 rfl s os
  have hc : ∀ i, ¬ (i = 18 + (8 * a + b)) → upd c (18 + (8 * a + b)) (nI d) i = c i := fun i hi => pk_un hi
  have cn : ∀ i, i ≠ 18 + (8 * a + b) → cN (upd c (18 + (8 * a + b)) (nI d)) i = cN c i := fun i h1 => cN_cell (hc i h1)
  have A : ∀ {f o j}, cArr f = true → isO Yc (f / 100) o → f ≠ 601 → hAi (hTi h (hGr h 601 (hGr h 400 s)) (8 * a + b) (nI d)) (hGr h f o) j = hAi h (hGr h f o) j := fun hf ho ne => ai_oth S rfl o6 hf ho (Or.inl ne)
  have r := R.1
  refine RS_gen R K (fun _ _ => rfl) ⟨r.1.trans (hc 0 (by omega)).symm, r.2.1.trans (hc 1 (by omega)).symm, r.2.2.1.trans (hc 2 (by omega)).symm, r.2.2.2.1.trans (hc 3 (by omega)).symm, r.2.2.2.2.1.trans (hc 4 (by omega)).symm, r.2.2.2.2.2.1.trans (hc 5 (by omega)).symm, r.2.2.2.2.2.2.1.trans (hc 6 (by omega)).symm, r.2.2.2.2.2.2.2.1.trans (hc 7 (by omega)).symm, r.2.2.2.2.2.2.2.2.1.trans (hc 8 (by omega)).symm, r.2.2.2.2.2.2.2.2.2.trans (hc 9 (by omega)).symm⟩ (fun t ht => A rfl o6 (by decide)) (fun t h1 h2 => ?_) (fun i hi => ?_) (fun f hf => ⟨A rfl o6 (by decide), fun k _ => A rfl o6 (by decide)⟩) (fun f h1 h2 => ?_) (fun b hb => ?_) (fun b h1 h2 => ?_) (fun i hi => A rfl os (by decide)) (fun i h1 h2 => ?_) (fun o ho => ⟨A rfl o1 (by decide), A rfl o1 (by decide)⟩) (fun o h1 h2 => ?_) (fun o ho => ⟨A rfl o2 (by decide), A rfl o2 (by decide)⟩) (fun o h1 h2 => ?_)
  · rw [cn 1 (by omega)] at h2; omega
  · by_cases z : i = 8 * a + b
    · rw [z, pk_us]; exact ai_at
    · rw [ai_sam z, hc _ (by omega)]; exact R.2.1.2.1 i hi
  · rw [cn 3 (by omega)] at h2; omega
  · exact ⟨A rfl os (by decide), A rfl os (by decide), A rfl os (by decide), A rfl os (by decide), by rw [A rfl os (by decide), hc _ (by omega)]; exact (R.2.2.1 b hb).2.2.2.2.1, fun p _ => A rfl os (by decide)⟩
  · rw [cn 2 (by omega)] at h2; omega
  · rw [cn 5 (by omega)] at h2; omega
  · rw [cn 6 (by omega)] at h2; omega
  · rw [cn 7 (by omega)] at h2; omega
theorem fne {hh : Hp} : ¬ (false, hh).1 = true := fun w => by cases w
theorem r_rule (C : PC Yc x t s n T P hc0 hc p c c w) (M : PM Ym m n T hm0 hm p c w) (G : GB c w) (os : isO Yc 4 s) (ot : isO Yc 7 t) (hP : ∀ a, shR hc0 s a → P a) (z1 : tI T n p = some 4) :
    OC Yc Ym x t s m n T P hc0 hm0 p (SR_readRule Yc rd t s hc) ((M_readRule Ym m hm).bind fun q13 => (M_isSign Ym m 59 q13).bind fun q14 => M_must Ym m q14 q13) := by
  have Vb := G.1
  have l0 := VC_l0 Vb
  have l1 := VC_l1 Vb
  have N := NQ_same G
  unfold SR_readRule M_readRule
  obtain ⟨h1, k1, a1, b1, C1, M1, _⟩ := j_adv C M
  have hp1 := tI_gt C.2.2.2.1.2.1 z1
  rw [a1, bind_s, b1, bind_s]
  rcases j_old C1 M1 N os (so := 0) (by decide) rfl with ⟨a, h2, k2, a2, b2, C2, M2, e2, ha, hp2⟩ | ⟨h2, k2, kk, aa, a2, b2, F, F'⟩
  · rw [show To_passOld Yc t s 0 h1 = some (true, h2) from a2, bind_s, if_pos rfl, show M_readTold Ym m 4 0 k1 = some (nI a, k2) from b2, bind_s]
    rcases j_old C2 M2 N os (so := 1) (by decide) rfl with ⟨b, h3, k3, a3, b3, C3, M3, e3, hb, hp3⟩ | ⟨h3, k3, kk, aa, a3, b3, F, F'⟩
    · rw [show To_passOld Yc t s 2 h2 = some (true, h3) from a3, bind_s, if_pos rfl, show M_readTold Ym m 4 1 k2 = some (nI b, k3) from b3, bind_s, isTo_s M3.2.2.1, bind_s]
      rcases j_word C3 M3 (i := 5) (by decide) with ⟨h4, k4, a4, b4, C4, M4, _, hp4⟩ | ⟨h4, k4, kk, aa, a4, b4, F, F'⟩
      · rw [show To_passWord Yc t 5 h3 = some (true, h4) from a4, bind_s, if_pos rfl, b4, bind_s]
        rcases j_old C4 M4 N os (so := 0) (by decide) rfl with ⟨d, h5, k5, a5, b5, C5, M5, e5, hd, hp5⟩ | ⟨h5, k5, kk, aa, a5, b5, F, F'⟩
        · rw [show To_passOld Yc t s 0 h4 = some (true, h5) from a5, bind_s, if_pos rfl, show M_readTold Ym m 4 0 k4 = some (nI d, k5) from b5, bind_s]
          have ha' : a < cN c 0 := ha
          have hb' : b < cN c 1 := hb
          have hd' : d < cN c 0 := hd
          obtain ⟨G', K⟩ := rule_gb G ha' hb' hd'
          have o6 : isO Yc 6 (hGr h5 400 s) := C5.2.2.1.1 400 6 rfl s os
          have ei : (2322 : Int32) + 8 * nI a + nI b = nI (2304 + (18 + (8 * a + b))) := by
            rw [zlit 2322, zlit 8, pk_mul, nI_add, nI_add, show 2322 + 8 * a + b = 2304 + (18 + (8 * a + b)) by omega]
          have Kf1 : Kf Yc (hGr h5 400 s) h5 (hTi h5 (hGr h5 601 (hGr h5 400 s)) (8 * a + b) (nI d)) := Kf_ti rfl o6
          have r400 : hGr h5 400 s = hGr hc0 400 s := C5.1.2.2.1 400 s
          have RS1 := rule_rs (d := d) C5.2.1 C5.2.2.1 os C5.2.2.2.2.1 Vb ha' hb' K
          have N1 : RN (hTi h5 (hGr h5 601 (hGr h5 400 s)) (8 * a + b) (nI d)) s (upd c (18 + (8 * a + b)) (nI d)) w := by
            refine RN_cnt (c := c) (fun so hso => ?_) (RN_o C5.2.1 os (isO_ne os o6 (by decide)) Kf1 C5.2.2.2.2.2)
            have ml := many_lt hso
            exact cN_cell (pk_un (by omega))
          have Cb := PC_f C5 Kf1 (by rw [r400]; exact hP _ (Or.inr (Or.inl rfl))) (isO_ne o6 ot (by decide)) ot RS1 N1
          have Mb := PM_w M5 (k := 18 + (8 * a + b)) (v := nI d) (by omega)
          rw [e2, e3, e5, setRule_s C5.2.1 o6 C5.2.2.2.2.1 Vb ha' hb' hd', bind_s, if_pos M5.2.2.2.1, ei, ml1220 M5.2.1, if_pos (inB_nI (by omega) (by decide)), letH_e, nI_clamp (by omega), bind_s]
          exact fin_semi Cb Mb G' (by omega)
        · rw [show To_passOld Yc t s 0 h4 = some (false, h5) from a5, bind_s, if_neg fne, show M_readTold Ym m 4 0 k4 = some (0, k5) from b5, bind_s, if_neg (nz_b F'), bind_s, semi_bad F']
          exact OC_f F F'
      · rw [show To_passWord Yc t 5 h3 = some (false, h4) from a4, bind_s, if_neg fne, b4, bind_s, told_b F', bind_s, if_neg (nz_b F'), bind_s, semi_bad F']
        exact OC_f F F'
    · obtain ⟨bt, et⟩ := totTo (Y := Ym) (h := k3) (m := m)
      rw [show To_passOld Yc t s 2 h2 = some (false, h3) from a3, bind_s, if_neg fne, show M_readTold Ym m 4 1 k2 = some (0, k3) from b3, bind_s, et, bind_s, must_b F', bind_s, told_b F', bind_s, if_neg (nz_b F'), bind_s, semi_bad F']
      exact OC_f F F'
  · obtain ⟨bt, et⟩ := totTo (Y := Ym) (h := k2) (m := m)
    rw [show To_passOld Yc t s 0 h1 = some (false, h2) from a2, bind_s, if_neg fne, show M_readTold Ym m 4 0 k1 = some (0, k2) from b2, bind_s, told_b F', bind_s, et, bind_s, must_b F', bind_s, told_b F', bind_s, if_neg (nz_b F'), bind_s, semi_bad F']
    exact OC_f F F'
end RRU
