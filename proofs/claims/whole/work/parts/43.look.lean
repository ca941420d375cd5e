/-! ===== the class: a book looked at ===== -/
def CX (Y : Ly) (h : Hp) (x s : Nat) (c : Nat → Int32) : Prop := CS Y h x ∧ Ty Y h ∧ isO Y 4 s ∧ RS h s c ∧ VB c
theorem CX_Q {Y : Ly} {n : Nat} {h h' : Hp} {x s : Nat} {c : Nat → Int32} (X : CX Y h x s c) (q : Qf Y n h h') (hn : n ≤ 300 := by decide) : CX Y h' x s c :=
  ⟨CS_Q X.1 q, q.2.2.2.2.2 X.2.1, X.2.2.1, RS_Q X.1 X.2.1 X.2.2.1 q hn X.2.2.2.1, X.2.2.2.2⟩
def LK (h : Hp) (e s : Nat) (c : Nat → Int32) (b L : Nat) : Prop := hGr h 5 e = hGr h 400 s ∧ hGi h 6 e = nI (cN c (88 + b)) ∧ hGi h 7 e = place c b ∧
  ∀ p, p < cN c (88 + b) → ∃ k, k < 256 ∧ hAi h (hGr h 0 e) p = nI k ∧ ∀ t, t < 8 → k.testBit t = (decide (t < cN c 1) && !barred c b (p + 1) t L)
section LC
variable {Y : Ly} {h : Hp} {s x e : Nat} {c : Nat → Int32}
theorem hp0 (X : CX Y h x s c) {i : Nat} (hi : i < cN c 5) : Sh_hintPart Y s (nI i) (nI 0) h = some (nI (cN c (222 + i))) := by
  have := Sh_hintPart_s X.1 X.2.2.1 X.2.2.2.1 X.2.2.2.2 hi (show 0 < 4 by decide)
  rw [this, show 222 + 12 * 0 + i = 222 + i by omega, (X.2.2.2.2.2.2.2.2.2.2.1 i hi).1.1]
theorem hp1 (X : CX Y h x s c) {i : Nat} (hi : i < cN c 5) : Sh_hintPart Y s (nI i) (nI 1) h = some (nI (cN c (234 + i))) := by
  have := Sh_hintPart_s X.1 X.2.2.1 X.2.2.2.1 X.2.2.2.2 hi (show 1 < 4 by decide)
  rw [this, show 222 + 12 * 1 + i = 234 + i by omega, (X.2.2.2.2.2.2.2.2.2.2.1 i hi).2.1.1.1]
theorem hp2 (X : CX Y h x s c) {i : Nat} (hi : i < cN c 5) : Sh_hintPart Y s (nI i) (nI 2) h = some (nI (cN c (246 + i))) := by
  have := Sh_hintPart_s X.1 X.2.2.1 X.2.2.2.1 X.2.2.2.2 hi (show 2 < 4 by decide)
  rw [this, show 222 + 12 * 2 + i = 246 + i by omega, (X.2.2.2.2.2.2.2.2.2.2.1 i hi).2.2.1.1]
theorem hp3 (X : CX Y h x s c) {i : Nat} (hi : i < cN c 5) : Sh_hintPart Y s (nI i) (nI 3) h = some (nI (cN c (258 + i))) := by
  have := Sh_hintPart_s X.1 X.2.2.1 X.2.2.2.1 X.2.2.2.2 hi (show 3 < 4 by decide)
  rw [this, show 222 + 12 * 3 + i = 258 + i by omega, (X.2.2.2.2.2.2.2.2.2.2.1 i hi).2.2.2.1]
theorem En_isPlace_s {n p : Nat} (h6 : hGi h 6 e = nI n) (hn : n < 2 ^ 31) (hp : p < 2 ^ 31) : En_isPlace Y e (nI p) h = some (decide (p < n)) := by
  unfold En_isPlace
  rw [h6]
  simp (disch := omega) only [zlit, nI_ltI, nI_leI]
  by_cases q : p < n
  · rw [if_neg (by omega), if_neg (by omega)]; simp [q]
  · rw [if_neg (by omega), if_pos (by omega)]; simp [q]
theorem En_lookAt_s (X : CX Y h x s c) (he : isO Y 0 e) {b L : Nat} (hb : b < cN c 2) (hL : L < 2 ^ 31) : ∃ h', En_lookAt Y e s (nI b) (nI L) h = some h' ∧ Qf Y 100 h h' ∧ LK h' e s c b L := by
  have V := X.2.2.2.2
  have l0 := VC_l0 V
  have l1 := VC_l1 V
  have l2 := VC_l2 V
  have l4 := VC_l4 V
  have l5 := VC_l5 V
  have hK := V.2.2.2.2.1 b hb
  have l88 := hK.2.1.1.2
  have hs := X.2.2.1
  have q2 : Qf Y 100 h (hSr h 5 e (hGr h 400 s)) := Qf_s5 (fun t => t.1 400 6 rfl s hs)
  have X2 := CX_Q X q2
  have q7 : Qf Y 100 h (hSi (hSr h 5 e (hGr h 400 s)) 6 e (nI (cN c (88 + b)))) := Qf_tr q2 (Qf_si (by decide))
  have X7 := CX_Q X q7
  have q9 : Qf Y 100 h (hSi (hSi (hSr h 5 e (hGr h 400 s)) 6 e (nI (cN c (88 + b)))) 7 e (place c b)) := Qf_tr q7 (Qf_si (by decide))
  have X9 := CX_Q X q9
  unfold En_lookAt
  rw [letH_e, Sh_hasBook_s X2.2.2.2.1 V, isAt_nI hb (by omega), bind_s, if_pos rfl]
  rw [cl407 X2.1 hs, if_pos (inB_nI (by omega) (by omega)), nI_clamp (by omega), (X2.2.2.2.1.2.2.1 b hb).2.1, hK.2.1.1.1]
  simp (disch := omega) only [zlit, nI_ltI]
  rw [if_neg (by omega)]
  unfold En_lookAt_J32
  rw [letH_e, Sh_placeOf_s X7.1 X7.2.1 hs X7.2.2.2.1 V hb, bind_s, letH_e]
  generalize h9e : hSi (hSi (hSr h 5 e (hGr h 400 s)) 6 e (nI (cN c (88 + b)))) 7 e (place c b) = h9
  rw [h9e] at q9 X9
  have g5 : hGr h9 5 e = hGr h9 400 s := by
    rw [← h9e]; simp [gr_si, gr_sr]
  have g6 : hGi h9 6 e = nI (cN c (88 + b)) := by
    rw [← h9e]; simp [gi_si, gi_sr]
  have g7 : hGi h9 7 e = place c b := by
    rw [← h9e]; simp [gi_si, gi_sr]
  have p1 : 2 ^ cN c 1 ≤ 256 := pow_le8 l1
  have p1' := Nat.two_pow_pos (cN c 1)
  obtain ⟨g, e1, e2⟩ := J_fillI_s (Y := Y) (h := h9) (A := hGr h9 0 e) (v := nI (2 ^ cN c 1 - 1)) (by rw [cl0 X9.1 he]; decide)
  rw [g5, X9.2.2.2.1.1.2.1, VC_e1 V]
  simp (disch := omega) only [zlit, zone, pk_sub, zand]
  rw [e1, bind_s]
  rw [cl0 X9.1 he] at e2
  refine upl (Q := fun r => ∃ h', r = some h' ∧ Qf Y 100 h h' ∧ LK h' e s c b L) (fun F i g => En_lookAt_L65 Y e s (nI b) (nI L) F (nI i) (hWi h9 (hGr h9 0 e) g)) (cN c 5)
    (fun i g => ∀ p, p < cN c (88 + b) → ∃ k, k < 256 ∧ g p = nI k ∧ ∀ t, t < 8 → k.testBit t = (decide (t < cN c 1) && !barP c b (p + 1) t L i)) ?_ ?_ (cN c 5) 0 g FU (by omega) (by unfold FU; omega) ?_
  · intro F i g hi hI
    right
    have qg : Qf Y 100 h9 (hWi h9 (hGr h9 0 e) g) := Qf_wi (by decide) rfl he
    have Xg := CX_Q X9 qg
    have hH := V.2.2.2.2.2.2.1 i hi
    have a1 := hH.1.2
    have a2 := hH.2.1.1.2
    have a2' := hH.2.1.2
    have a2'' := ((V.2.2.2.2.1 _ a1).2.1.1.2)
    have a3 := hH.2.2.1.2
    have a4 := hH.2.2.2.2
    show ∃ s', En_lookAt_L65 Y e s (nI b) (nI L) (F + 1) (nI i) (hWi h9 (hGr h9 0 e) g) = En_lookAt_L65 Y e s (nI b) (nI L) F (nI (i + 1)) (hWi h9 (hGr h9 0 e) s') ∧ _
    rw [En_lookAt_L65]
    rw [Xg.2.2.2.1.1.2.2.2.2.2.1, VC_e5 V, if_neg (nI_ge hi (by omega))]
    simp (disch := omega) only [zlit, hp0 Xg hi, hp1 Xg hi, hp2 Xg hi, hp3 Xg hi, bind_s, nI_eq, LP_has_s, pk_sub, nI_add]
    by_cases c1 : cN c (222 + i) = b
    · rw [if_pos c1]
      by_cases c2 : L.testBit (cN c (258 + i)) = true
      · rw [if_pos c2]
        refine ⟨g, rfl, fun p hp => ?_⟩
        obtain ⟨k, k1, k2, k3⟩ := hI p hp
        refine ⟨k, k1, k2, fun t ht => ?_⟩
        rw [k3 t ht]
        simp [barP, hbar, c2]
      · rw [if_neg c2]
        rw [c1] at a2
        rw [En_isPlace_s (n := cN c (88 + b)) (by rw [gi_wi]; exact g6) (by omega) (by omega), bind_s, if_pos (by simp; omega)]
        rw [gr_wi, cl0 X9.1 he, if_pos (inB_nI (by omega) (by omega)), if_pos (inB_nI (by omega) (by omega)), letH_e, nI_clamp (by omega), ai_wi, if_pos rfl, ti_wi]
        obtain ⟨k, k1, k2, k3⟩ := hI (cN c (234 + i) - 1) (by omega)
        rw [k2, zand, zone (by omega), zand]
        refine ⟨_, rfl, fun p hp => ?_⟩
        by_cases hpp : p = cN c (234 + i) - 1
        · refine ⟨k &&& 2 ^ cN c (246 + i), Nat.lt_of_le_of_lt Nat.and_le_left k1, by rw [hpp, pk_us], fun t ht => ?_⟩
          rw [Nat.testBit_and, k3 t ht, ← hpp, Nat.testBit_two_pow]
          have : cN c (234 + i) = p + 1 := by omega
          simp only [barP, hbar, c1, this, c2]
          by_cases c4 : cN c (246 + i) = t
          · simp [c4]
          · simp [c4]
        · obtain ⟨k', k1', k2', k3'⟩ := hI p hp
          refine ⟨k', k1', by rw [pk_un hpp]; exact k2', fun t ht => ?_⟩
          rw [k3' t ht]
          have : (cN c (234 + i) == p + 1) = false := by
            rw [beq_eq_false_iff_ne]
            omega
          simp [barP, hbar, this]
    · rw [if_neg c1]
      refine ⟨g, rfl, fun p hp => ?_⟩
      obtain ⟨k, k1, k2, k3⟩ := hI p hp
      refine ⟨k, k1, k2, fun t ht => ?_⟩
      have c1' : (cN c (222 + i) == b) = false := by simpa using c1
      rw [k3 t ht]
      simp [barP, hbar, c1']
  · intro F g hI
    have qg : Qf Y 100 h9 (hWi h9 (hGr h9 0 e) g) := Qf_wi (by decide) rfl he
    have Xg := CX_Q X9 qg
    show ∃ h', En_lookAt_L65 Y e s (nI b) (nI L) (F + 1) (nI (cN c 5)) (hWi h9 (hGr h9 0 e) g) = some h' ∧ _
    rw [En_lookAt_L65]
    rw [Xg.2.2.2.1.1.2.2.2.2.2.1, VC_e5 V, if_pos (nI_le (Nat.le_refl _) (by omega))]
    refine ⟨_, rfl, Qf_tr q9 qg, g5, g6, g7, fun p hp => ?_⟩
    obtain ⟨k, k1, k2, k3⟩ := hI p hp
    refine ⟨k, k1, ?_, fun t ht => by rw [k3 t ht, barred_P]⟩
    rw [gr_wi, ai_wi, if_pos rfl, k2]
  · intro p hp
    refine ⟨2 ^ cN c 1 - 1, by omega, e2 p (by omega), fun t ht => ?_⟩
    rw [Nat.testBit_two_pow_sub_one]
    simp [barP]
end LC
