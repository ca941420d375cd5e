/-! ===== finales that fit ===== -/
section FC
variable {Y : Ly} {h : Hp} {s x e : Nat} {c : Nat → Int32} {b L : Nat}
theorem En_isTriedOne_s (X : CX Y h x s c) (he : isO Y 0 e) (K : LK h e s c b L) (hb : b < cN c 2) {row : Nat → Nat} (hr : ∀ p, p < cN c (88 + b) → hAi h (hGr h 1 e) p = nI (row p) ∧ row p < cN c 1) :
    En_isTriedOne Y e h = some (leadsB c b L row) := by
  have V := X.2.2.2.2
  have l0 := VC_l0 V
  have l1 := VC_l1 V
  have l88 := (V.2.2.2.2.1 b hb).2.1.1.2
  unfold En_isTriedOne
  rw [K.2.2.1]
  refine upl (Q := fun r => r = some (leadsB c b L row)) (fun F i st => En_isTriedOne_L7 Y e h F st (nI i)) (cN c (88 + b)) (fun i st => stOk c st ∧ wlk c b L row (cN c (88 + b) - i) i st = wlk c b L row (cN c (88 + b)) 0 (place c b)) ?_ ?_ (cN c (88 + b)) 0 (place c b) FU (by omega) (by unfold FU; omega) ⟨place_ok V hb, rfl⟩
  · intro F i st hi hI
    right
    show ∃ s', En_isTriedOne_L7 Y e h (F + 1) st (nI i) = En_isTriedOne_L7 Y e h F s' (nI (i + 1)) ∧ _
    obtain ⟨r1, r2⟩ := hr i hi
    rw [En_isTriedOne_L7, K.2.1, if_neg (nI_ge hi (by omega)), cl1 X.1 he, if_pos (inB_nI (by omega) (by omega)), nI_clamp (by omega), r1, nI_1]
    rcases hI.1 with rfl | ⟨k, hk, rfl⟩
    · rw [En_stepTo_m X he K hb hi (by omega), bind_s]
      refine ⟨_, rfl, Or.inl rfl, ?_⟩
      rw [← hI.2, wlk_m1, wlk_m1]
    · rw [En_stepTo_s X he K hb hi hk r2, bind_s]
      refine ⟨_, rfl, stp_ok V (by omega) (by omega), ?_⟩
      rw [← hI.2, show cN c (88 + b) - i = (cN c (88 + b) - (i + 1)) + 1 by omega]
      show _ = if nI k = m1 then m1 else _
      simp (disch := omega) only [ne_m1, if_false, nI_clamp]
  · intro F st hI
    show En_isTriedOne_L7 Y e h (F + 1) st (nI (cN c (88 + b))) = _
    rw [En_isTriedOne_L7, K.2.1, if_pos (nI_le (Nat.le_refl _) (by omega)), K.1, St_isFinal_s X hI.1, bind_s]
    have := hI.2
    rw [Nat.sub_self] at this
    unfold leadsB
    rw [← this]
    rfl
theorem St_turnInFinale_s (X : CX Y h x s c) {f k : Nat} (hf : f < cN c 3) (hk : k < 16) : St_turnInFinale Y (hGr h 400 s) (nI f) (nI k) h = some (if k < cN c (166 + f) then nI (cN c (174 + 6 * f + k)) else m1) := by
  have V := X.2.2.2.2
  have l3 := VC_l3 V
  have hF := V.2.2.2.2.2.1 f hf
  have l166 := hF.1.1.2
  have hs6 := X.2.1.1 400 6 rfl s X.2.2.1
  have rF := X.2.2.2.1.2.1.2.2 f hf
  unfold St_turnInFinale
  rw [St_hasFinale_s X.2.2.2.1 V, isAt_nI hf (by omega), bind_s, if_pos rfl]
  simp (disch := omega) only [zlit, zneg, nI_ltI, cl602 X.1 hs6, inB_nI, if_true, nI_clamp, rF.1, hF.1.1.1]
  rw [if_neg (by omega)]
  by_cases q : k < cN c (166 + f)
  · rw [if_pos q, if_pos q]
    simp (disch := omega) only [nI_add, pk_mul, cl603 X.1 hs6, inB_nI, if_true, nI_clamp]
    rw [show f * 6 + k = 6 * f + k by omega, rF.2 k q, (hF.2 k q).1]
  · rw [if_neg q, if_neg q]
theorem En_fittingFinales_s (X : CX Y h x s c) (he : isO Y 0 e) (hb : b < cN c 2) : ∃ h', En_fittingFinales Y e s (nI b) h = some (nI (fitS c (cN c 9) b), h') ∧ Qf Y 100 h h' := by
  have V := X.2.2.2.2
  have l0 := VC_l0 V
  have l1 := VC_l1 V
  have l3 := VC_l3 V
  have l9 := V.2.1.2.2
  have p9 := pow_le6 (VC_l4 V)
  have l88 := (V.2.2.2.2.1 b hb).2.1.1.2
  unfold En_fittingFinales
  rw [X.2.2.2.1.1.2.2.2.2.2.2.2.2.2, V.2.1.2.1]
  obtain ⟨h1, e1, q1, K1⟩ := En_lookAt_s (L := cN c 9) X he hb (by omega)
  have X1 := CX_Q X q1
  rw [e1, bind_s]
  have hA : ∀ g, (Qf Y 100 h (hWi h1 (hGr h1 1 e) g)) := fun g => Qf_tr q1 (Qf_wi (by decide) rfl he)
  have K' : ∀ g, LK (hWi h1 (hGr h1 1 e) g) e s c b (cN c 9) := fun g => LK_wi X1 he K1 (by decide) rfl rfl
  have X' : ∀ g, CX Y (hWi h1 (hGr h1 1 e) g) x s c := fun g => CX_Q X (hA g)
  have hs6 := X1.2.1.1 400 6 rfl s X1.2.2.1
  have l30 : ∀ (f a : Nat) (g0 : Nat → Int32) (k15 : Int32 → Int32 → Hp → Option (Int32 × Hp)), f < cN c 3 →
      ∃ g', En_fittingFinales_L30 Y e (nI a) (nI f) k15 FU 0 (hWi h1 (hGr h1 1 e) g0) = k15 (nI (a ||| if fitB c (cN c 9) b f then 2 ^ f else 0)) (nI (f + 1)) (hWi h1 (hGr h1 1 e) g') := by
    intro f a g0 k15 hf
    have hF := V.2.2.2.2.2.1 f hf
    have l166 := hF.1.1.2
    refine upl (Q := fun r => ∃ g', r = k15 (nI (a ||| if fitB c (cN c 9) b f then 2 ^ f else 0)) (nI (f + 1)) (hWi h1 (hGr h1 1 e) g')) (fun F j g => En_fittingFinales_L30 Y e (nI a) (nI f) k15 F (nI j) (hWi h1 (hGr h1 1 e) g)) (cN c (88 + b))
      (fun j g => ∀ k, k < j → g k = if k < cN c (166 + f) then nI (cN c (174 + 6 * f + k)) else m1) ?_ ?_ (cN c (88 + b)) 0 g0 FU (by omega) (by unfold FU; omega) (fun k hk => absurd hk (by omega))
    · intro F j g hj hI
      right
      show ∃ s', En_fittingFinales_L30 Y e (nI a) (nI f) k15 (F + 1) (nI j) (hWi h1 (hGr h1 1 e) g) = En_fittingFinales_L30 Y e (nI a) (nI f) k15 F (nI (j + 1)) (hWi h1 (hGr h1 1 e) s') ∧ _
      rw [En_fittingFinales_L30, (K' g).2.1, if_neg (nI_ge hj (by omega)), (K' g).1, St_turnInFinale_s (X' g) hf (by omega), bind_s, cl1 (X' g).1 he, if_pos (inB_nI (by omega) (by omega)), letH_e, nI_clamp (by omega), gr_wi, ti_wi, nI_1]
      refine ⟨_, rfl, fun k hk => ?_⟩
      by_cases q : k = j
      · rw [q, pk_us]
      · rw [pk_un q]; exact hI k (by omega)
    · intro F g hI
      show ∃ g', En_fittingFinales_L30 Y e (nI a) (nI f) k15 (F + 1) (nI (cN c (88 + b))) (hWi h1 (hGr h1 1 e) g) = _
      refine ⟨g, ?_⟩
      have rF := (X' g).2.2.2.1.2.1.2.2 f hf
      have hs6' := (X' g).2.1.1 400 6 rfl s (X' g).2.2.1
      rw [En_fittingFinales_L30, (K' g).2.1, if_pos (nI_le (Nat.le_refl _) (by omega)), (K' g).1, cl602 (X' g).1 hs6', if_pos (inB_nI (by omega) (by omega)), nI_clamp (by omega), rF.1, hF.1.1.1]
      unfold fitB
      by_cases q : cN c (166 + f) = cN c (88 + b)
      · rw [if_pos (by rw [q]), En_isTriedOne_s (row := fun k => cN c (174 + 6 * f + k)) (X' g) he (K' g) hb (fun p hp => ?_), bind_s]
        · simp (disch := omega) only [zlit, zand, zone, zor, nI_add]
          cases hl : leadsB c b (cN c 9) (fun k => cN c (174 + 6 * f + k)) <;> simp [q]
        · rw [gr_wi, ai_wi, if_pos rfl, hI p hp, if_pos (by omega)]
          exact ⟨rfl, (hF.2 p (by omega)).2⟩
      · rw [if_neg (by rw [nI_eq (by omega) (by omega)]; exact q), nI_1]
        simp [q]
  refine upl (Q := fun r => ∃ h', r = some (nI (fitS c (cN c 9) b), h') ∧ Qf Y 100 h h') (fun F f (g : Nat → Int32) => En_fittingFinales_L15 Y e F (nI (mk (fitB c (cN c 9) b) f)) (nI f) (hWi h1 (hGr h1 1 e) g)) (cN c 3) (fun _ _ => True) ?_ ?_ (cN c 3) 0 (hAi h1 (hGr h1 1 e)) FU (by omega) (by unfold FU; omega) trivial |> fun z => by rw [wi_self] at z; exact z
  · intro F f g hf _
    right
    obtain ⟨g', e2⟩ := l30 f (mk (fitB c (cN c 9) b) f) g (En_fittingFinales_L15 Y e F) hf
    refine ⟨g', ?_, trivial⟩
    show En_fittingFinales_L15 Y e (F + 1) (nI (mk (fitB c (cN c 9) b) f)) (nI f) (hWi h1 (hGr h1 1 e) g) = _
    rw [En_fittingFinales_L15, (K' g).1, (X' g).2.2.2.1.1.2.2.2.1, VC_e3 V, if_neg (nI_ge hf (by omega)), e2]
    rfl
  · intro F g _
    show ∃ h', En_fittingFinales_L15 Y e (F + 1) (nI (mk (fitB c (cN c 9) b) (cN c 3))) (nI (cN c 3)) (hWi h1 (hGr h1 1 e) g) = _ ∧ _
    rw [En_fittingFinales_L15, (K' g).1, (X' g).2.2.2.1.1.2.2.2.1, VC_e3 V, if_pos (nI_le (Nat.le_refl _) (by omega))]
    exact ⟨_, rfl, hA g⟩
end FC
section FM
variable {Y : Ly} {h : Hp} {m : Nat} {c : Nat → Int32} {b L : Nat}
def MX (Y : Ly) (h : Hp) (m : Nat) (c : Nat → Int32) : Prop := MS Y h m ∧ MB h m 0 c ∧ VB c
theorem M_leads_s (X : MX Y h m c) (hb : b < cN c 2) {A k0 : Nat} {row : Nat → Nat} (hl : k0 + cN c (88 + b) ≤ lnY Y A) (hl2 : lnY Y A < 4000) (hr : ∀ p, p < cN c (88 + b) → hAi h A (k0 + p) = nI (row p) ∧ row p < cN c 1) :
    M_leads Y m (nI b) A (nI k0) h = some (leadsB c b (cN c 9) row) := by
  obtain ⟨S, B, V⟩ := X
  have l0 := VC_l0 V
  have l1 := VC_l1 V
  have l2 := VC_l2 V
  have l8 := V.2.1.1.2
  have p8 := pow_le8 l0
  have l9 := V.2.1.2.2
  have p9 := pow_le6 (VC_l4 V)
  have hK := V.2.2.2.2.1 b hb
  have l88 := hK.2.1.1.2
  have J86 : ∀ y, stOk c y → M_leads_J86 Y m y h = some (isF c y) := by
    intro y hy
    unfold M_leads_J86 isF
    rcases hy with rfl | ⟨k, hk, rfl⟩
    · rw [if_pos (by decide), if_pos rfl]
    · simp (disch := omega) only [zlit, nI_ltI, ml1220 S, inB_nI, if_true, nI_clamp, MB0 B, V.2.1.1.1, M_has_s, bind_s, ne_m1, if_false]
      rw [if_neg (by omega)]
      cases (cN c 8).testBit k <;> rfl
  unfold M_leads
  rw [M_placeOf_s S B V hb, bind_s]
  refine upl (Q := fun r => r = some (leadsB c b (cN c 9) row)) (fun F i st => M_leads_L10 Y m (nI b) A (nI k0) h F st (nI (i + 1))) (cN c (88 + b)) (fun i st => stOk c st ∧ wlk c b (cN c 9) row (cN c (88 + b) - i) i st = wlk c b (cN c 9) row (cN c (88 + b)) 0 (place c b)) ?_ ?_ (cN c (88 + b)) 0 (place c b) FU (by omega) (by unfold FU; omega) ⟨place_ok V hb, rfl⟩
  · intro F i st hi hI
    show M_leads_L10 Y m (nI b) A (nI k0) h (F + 1) st (nI (i + 1)) = _ ∨ ∃ s', M_leads_L10 Y m (nI b) A (nI k0) h (F + 1) st (nI (i + 1)) = M_leads_L10 Y m (nI b) A (nI k0) h F s' (nI (i + 1 + 1)) ∧ _
    obtain ⟨r1, r2⟩ := hr i hi
    rw [M_leads_L10]
    simp (disch := omega) only [zlit, nI_add, ml1220 S, inB_nI, if_true, nI_clamp, MB0 B, hK.2.1.1.1, nI_ltI, V.2.1.2.1, pk_sub]
    rw [if_neg (by omega)]
    rcases hI.1 with rfl | ⟨k, hk, rfl⟩
    · left
      rw [if_pos (by decide), J86 m1 (Or.inl rfl)]
      unfold leadsB
      rw [← hI.2, wlk_m1]
    · right
      rw [show k0 + (i + 1) - 1 = k0 + i by omega, r1]
      simp (disch := omega) only [nI_ltI, M_isBarred_s S B V, bind_s, pk_mul, nI_add, ml1220 S, inB_nI, if_true, nI_clamp, MB0 B, zneg]
      rw [if_neg (by omega)]
      have hw : wlk c b (cN c 9) row (cN c (88 + b) - i) i (nI k) = wlk c b (cN c 9) row (cN c (88 + b) - (i + 1)) (i + 1) (stp c b (cN c 9) (i + 1) k (row i)) := by
        rw [show cN c (88 + b) - i = (cN c (88 + b) - (i + 1)) + 1 by omega]
        show (if nI k = m1 then m1 else _) = _
        simp (disch := omega) only [ne_m1, if_false, nI_clamp]
      refine ⟨stp c b (cN c 9) (i + 1) k (row i), ?_, stp_ok V (by omega) (by omega), by rw [← hI.2, hw]⟩
      unfold stp
      split <;> rfl
  · intro F st hI
    show M_leads_L10 Y m (nI b) A (nI k0) h (F + 1) st (nI (cN c (88 + b) + 1)) = _
    rw [M_leads_L10]
    simp (disch := omega) only [zlit, nI_add, ml1220 S, inB_nI, if_true, nI_clamp, MB0 B, hK.2.1.1.1, nI_ltI]
    rw [if_pos (by omega), J86 st hI.1]
    have := hI.2
    rw [Nat.sub_self] at this
    unfold leadsB
    rw [← this]
    rfl
theorem M_isFit_s (X : MX Y h m c) (hb : b < cN c 2) {f : Nat} (hf : f < cN c 3) : M_isFit Y m (nI b) (nI f) h = some (fitB c (cN c 9) b f) := by
  obtain ⟨S, B, V⟩ := X
  have l2 := VC_l2 V
  have l3 := VC_l3 V
  have hK := V.2.2.2.2.1 b hb
  have l88 := hK.2.1.1.2
  have hF := V.2.2.2.2.2.1 f hf
  have l166 := hF.1.1.2
  unfold M_isFit fitB
  simp (disch := omega) only [zlit, nI_add, pk_mul, ml1220 S, inB_nI, if_true, nI_clamp, MB0 B, hK.2.1.1.1, hF.1.1.1, nI_eq]
  by_cases q : cN c (166 + f) = cN c (88 + b)
  · rw [if_pos q, M_leads_s (row := fun k => cN c (174 + 6 * f + k)) ⟨S, B, V⟩ hb (by rw [ml1220 S]; omega) (by rw [ml1220 S]; omega) (fun p hp => ⟨by rw [MB0 B (by omega), (hF.2 p (by omega)).1], (hF.2 p (by omega)).2⟩), bind_s]
    cases leadsB c b (cN c 9) (fun k => cN c (174 + 6 * f + k)) <;> simp [q]
  · rw [if_neg q]; simp [q]
theorem M_finalesFor_s (X : MX Y h m c) (hb : b < cN c 2) : M_finalesFor Y m (nI b) h = some (nI (fitS c (cN c 9) b)) := by
  have V := X.2.2
  have S := X.1
  have B := X.2.1
  have l3 := VC_l3 V
  unfold M_finalesFor
  refine upl (Q := fun r => r = some (nI (fitS c (cN c 9) b))) (fun F f (_ : Unit) => M_finalesFor_L4 Y m (nI b) h F (nI (mk (fitB c (cN c 9) b) f)) (nI f)) (cN c 3) (fun _ _ => True) ?_ ?_ (cN c 3) 0 () FU (by omega) (by unfold FU; omega) trivial
  · intro F f _ hf _
    right
    refine ⟨(), ?_, trivial⟩
    show M_finalesFor_L4 Y m (nI b) h (F + 1) (nI (mk (fitB c (cN c 9) b) f)) (nI f) = M_finalesFor_L4 Y m (nI b) h F (nI (mk (fitB c (cN c 9) b) (f + 1))) (nI (f + 1))
    rw [M_finalesFor_L4]
    simp (disch := omega) only [zlit, nI_add, ml1220 S, inB_nI, if_true, nI_clamp, MB0 B, VC_e3 V, nI_leI, M_isFit_s X hb hf, bind_s, zand, zone, zor, mk]
    rw [if_neg (by omega)]
    cases fitB c (cN c 9) b f <;> simp
  · intro F _ _
    show M_finalesFor_L4 Y m (nI b) h (F + 1) (nI (mk (fitB c (cN c 9) b) (cN c 3))) (nI (cN c 3)) = _
    rw [M_finalesFor_L4]
    simp (disch := omega) only [zlit, nI_add, ml1220 S, inB_nI, if_true, nI_clamp, MB0 B, VC_e3 V, nI_leI]
    rw [if_pos (by omega)]
    rfl
end FM
