/-! ===== the reference: best, bestAt ===== -/
section BMC
variable {Y : Ly} {h : Hp} {m : Nat} {c : Nat → Int32}
def wnb (c : Nat → Int32) (b : Int32) : Int32 := if isAt b (cN c 2) then (if bestO c b.toNatClampNeg = none then nI 8 else nI 0) else nI 2
theorem M_whyNoBest_s (X : MX Y h m c) (b : Int32) : ∃ h', M_whyNoBest Y m b h = some (wnb c b, h') ∧ Mg Y m h h' := by
  have V := X.2.2
  have l2 := VC_l2 V
  unfold M_whyNoBest wnb
  rw [M_isBookAt_s X.1 X.2.1 V, bind_s]
  rcases isAt_cases b (n := cN c 2) (by omega) with q | ⟨j, hj, rfl, q⟩
  · rw [q]; exact ⟨h, rfl, Mg_rf _ _ _⟩
  · rw [q, if_pos rfl, if_pos rfl, nI_clamp (by omega)]
    obtain ⟨h', e1, e2⟩ := M_endingsOf_s X hj
    have el := ecn_le V hj (cN c 9)
    rw [e1, bind_s]
    refine ⟨h', ?_, e2⟩
    simp only [ecnt_n]
    by_cases hB : bestO c j = none
    · rw [if_pos ((lN_0 (by omega)).mpr ((best_none c j).mpr hB)), if_pos hB]; rfl
    · rw [if_neg (fun z => hB ((best_none c j).mp ((lN_0 (by omega)).mp z))), if_neg hB]; rfl
theorem M_b0 {h2 : Hp} {v : Int32} : hGi (hSi h2 1200 m v) 1200 m = v := by rw [gi_si, if_pos ⟨rfl, rfl⟩]
theorem M_best_q (X : MX Y h m c) (b : Int32) : mQ Y m h (M_best Y m b h) (spBest c b).1 (spBest c b).2 := by
  have V := X.2.2
  have l2 := VC_l2 V
  have X1 : MX Y (hSi h 1201 m 0) m c := MX_M X Mf_1
  obtain ⟨h2, e1, e2⟩ := M_whyNoBest_s X1 b
  have f2 : Mf Y m h h2 := Mf_tr Mf_1 e2.1
  unfold M_best spBest
  rw [letH_e, e1, bind_s, letH_e, M_b0]
  show mQ Y m h (if wnb c b ≤ 0 then (M_bests Y m b (hSi h2 1200 m (wnb c b))).bind fun q5 => some (q5.1, q5.2) else some (-1, hSi h2 1200 m (wnb c b))) _ _
  have X3 : ∀ v, MX Y (hSi h2 1200 m v) m c := fun v => MX_M X (Mf_tr f2 Mf_0)
  rcases isAt_cases b (n := cN c 2) (by omega) with q | ⟨j, hj, rfl, q⟩
  · rw [q, show wnb c b = nI 2 by unfold wnb; rw [q]; rfl, if_neg (show ¬ nI 2 ≤ 0 by decide)]
    exact ⟨_, rfl, Mf_tr f2 Mf_0, M_b0⟩
  · rw [q, if_pos rfl, nI_clamp (by omega)]
    cases hB : bestO c j with
    | none =>
      rw [show wnb c (nI j) = nI 8 by unfold wnb; rw [q, if_pos rfl, nI_clamp (by omega), if_pos hB], if_neg (show ¬ nI 8 ≤ 0 by decide)]
      exact ⟨_, rfl, Mf_tr f2 Mf_0, M_b0⟩
    | some k =>
      have hne : bestO c j ≠ none := by rw [hB]; exact fun z => by cases z
      rw [show wnb c (nI j) = nI 0 by unfold wnb; rw [q, if_pos rfl, nI_clamp (by omega), if_neg hne], if_pos (show nI 0 ≤ 0 by decide)]
      obtain ⟨h', g1, g2, _⟩ := M_bests_s (X3 (nI 0)) hj hne
      rw [g1, bind_s, hB]
      exact ⟨h', rfl, Mf_tr f2 (Mf_tr Mf_0 g2.1), by rw [g2.2]; exact M_b0⟩
theorem M_isPlace_s (X : MX Y h m c) {j : Nat} (hj : j < cN c 2) (p : Int32) : M_isPlace Y m (nI j) p h = some (isAt (p - 1) (cN c (88 + j))) := by
  obtain ⟨S, B, V⟩ := X
  have l2 := VC_l2 V
  have hK := V.2.2.2.2.1 j hj
  have l88 := hK.2.1.1.2
  unfold M_isPlace
  rw [show (88 : Int32) + nI j = nI (88 + j) from nI_add 88 j, ml1220 S, if_pos (inB_nI (by omega) (by omega)), nI_clamp (by omega), MB0 B (by omega), hK.2.1.1.1, M_isIn_s, bind_s, isIn_1 (by omega)]
theorem M_bestAt_q (X : MX Y h m c) (b p : Int32) : mQ Y m h (M_bestAt Y m b p h) (spBestAt c b p).1 (spBestAt c b p).2 := by
  have V := X.2.2
  have l2 := VC_l2 V
  have l1 := VC_l1 V
  have X1 : MX Y (hSi h 1201 m 0) m c := MX_M X Mf_1
  obtain ⟨h2, e1, e2⟩ := M_whyNoBest_s X1 b
  have f2 : Mf Y m h h2 := Mf_tr Mf_1 e2.1
  have X3 : ∀ v, MX Y (hSi h2 1200 m v) m c := fun v => MX_M X (Mf_tr f2 Mf_0)
  unfold M_bestAt spBestAt
  rw [letH_e, M_isBookAt_s X1.1 X1.2.1 V, bind_s]
  unfold M_bestAt_J27
  rw [e1, bind_s]
  unfold M_bestAt_J32
  simp only [letH_e]
  rcases isAt_cases b (n := cN c 2) (by omega) with q | ⟨j, hj, rfl, q⟩
  · rw [q, M_b0, M_b0, show wnb c b = nI 2 by unfold wnb; rw [q]; rfl]
    exact ⟨_, rfl, Mf_tr f2 Mf_0, M_b0⟩
  · have l88 := (V.2.2.2.2.1 j hj).2.1.1.2
    rw [q, if_pos rfl, if_pos rfl, nI_clamp (by omega), M_isPlace_s X1 hj, bind_s, M_b0, M_b0]
    rcases p_cases p (n := cN c (88 + j)) (by omega) with ⟨q2, _⟩ | ⟨i, hi, p1, p2, q2⟩
    · rw [q2]
      exact ⟨_, rfl, Mf_tr Mf_1 Mf_0, M_b0⟩
    · rw [q2, if_pos rfl, if_pos rfl, p1, nI_clamp (by omega), p2]
      cases hB : bestO c j with
      | none =>
        rw [show wnb c (nI j) = nI 8 by unfold wnb; rw [q, if_pos rfl, nI_clamp (by omega), if_pos hB], if_neg (show ¬ nI 8 ≤ 0 by decide)]
        exact ⟨_, rfl, Mf_tr f2 Mf_0, M_b0⟩
      | some k =>
        have hne : bestO c j ≠ none := by rw [hB]; exact fun z => by cases z
        rw [show wnb c (nI j) = nI 0 by unfold wnb; rw [q, if_pos rfl, nI_clamp (by omega), if_neg hne], if_pos (show nI 0 ≤ 0 by decide)]
        obtain ⟨h', g1, g2, g3⟩ := M_bests_s (X3 (nI 0)) hj hne
        have X' := MX_M (X3 (nI 0)) g2.1
        rw [g1, bind_s, ml1230 X'.1, if_pos (inB_nI (by omega) (by omega)), nI_clamp (by omega), g3 i hi]
        exact ⟨h', rfl, Mf_tr f2 (Mf_tr Mf_0 g2.1), by rw [g2.2]; exact M_b0⟩
end BMC
