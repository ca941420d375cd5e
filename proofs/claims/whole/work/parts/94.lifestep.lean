/-! ===== weeks lived: one step that is no block ===== -/
def nx (c : Nat → Int32) (r : Nat) (tl : Nat → Nat) (a : Nat) : (Nat → Int32) × Nat × (Nat → Nat) :=
  if c (306 + 9 * a) = nI 0 then (if bindB c (cN c (307 + 9 * a)) (cN c (308 + 9 * a)) = true then (upd c (100 + cN c (307 + 9 * a)) (nI (cN c (308 + 9 * a))), r, bmp tl 1) else (c, r, bmp tl 0))
  else if c (306 + 9 * a) = nI 1 then (if c (100 + cN c (307 + 9 * a)) = m1 then (c, r, bmp tl 0) else (upd c (100 + cN c (307 + 9 * a)) m1, r, bmp tl 2))
  else if c (306 + 9 * a) = nI 2 then (upd c 9 (nI (cN c 9 ^^^ 2 ^ cN c (307 + 9 * a))), r, tl)
  else (if c (100 + cN c (307 + 9 * a)) = m1 ∧ frS c (cN c (307 + 9 * a)) (cN c 2) ≠ 0 then (upd c (100 + cN c (307 + 9 * a)) (nI (gsN c (cN c (307 + 9 * a)) r)), rnx r, bmp (bmp tl 1) 3) else (c, r, bmp tl 0))
theorem bmp_le (tl : Nat → Nat) (i j : Nat) : bmp tl i j ≤ tl j + 1 := by
  unfold bmp
  split <;> omega
theorem bmp_ne (tl : Nat → Nat) {i j : Nat} (h : j ≠ i) : bmp tl i j = tl j := by
  unfold bmp
  rw [if_neg h]
section NX
variable {wd sg th nm : Nat → Int32} {g : Sg} {c : Nat → Int32} {r dn a ro : Nat} {tl : Nat → Nat} {ov : Int32}
/-- the kinds of a step that is no block and no stop -/
theorem row_cases (B : rowOk wd sg th nm c ro a) (k6 : c (306 + 9 * a) ≠ nI 6) :
    (c (306 + 9 * a) = nI 0 ∧ wd ro = nI 21 ∧ th ro = nI (cN c (307 + 9 * a)) ∧ nm ro = nI (cN c (308 + 9 * a)) ∧ cN c (307 + 9 * a) < cN c 2 ∧ cN c (308 + 9 * a) < cN c 3 ∧ c (307 + 9 * a) = nI (cN c (307 + 9 * a)) ∧ c (308 + 9 * a) = nI (cN c (308 + 9 * a))) ∨
    (c (306 + 9 * a) = nI 1 ∧ wd ro = nI 22 ∧ th ro = nI (cN c (307 + 9 * a)) ∧ cN c (307 + 9 * a) < cN c 2 ∧ c (307 + 9 * a) = nI (cN c (307 + 9 * a))) ∨
    (c (306 + 9 * a) = nI 2 ∧ wd ro = nI 23 ∧ th ro = nI (cN c (307 + 9 * a)) ∧ cN c (307 + 9 * a) < cN c 4 ∧ c (307 + 9 * a) = nI (cN c (307 + 9 * a))) ∨
    (c (306 + 9 * a) = nI 3 ∧ wd ro = nI 24 ∧ th ro = nI (cN c (307 + 9 * a)) ∧ cN c (307 + 9 * a) < cN c 2 ∧ c (307 + 9 * a) = nI (cN c (307 + 9 * a))) := by
  rcases B with ⟨b0, b1, b2, b3, b4, b5⟩ | ⟨b0, b1, b2, b3⟩ | ⟨b0, b1, b2, b3⟩ | ⟨b0, b1, b2, b3⟩ | ⟨b0, _⟩
  · exact Or.inl ⟨b0, b1, b2.trans b4.1, b3.trans b5.1, b4.2, b5.2, b4.1, b5.1⟩
  · exact Or.inr (Or.inl ⟨b0, b1, b2.trans b3.1, b3.2, b3.1⟩)
  · exact Or.inr (Or.inr (Or.inl ⟨b0, b1, b2.trans b3.1, b3.2, b3.1⟩))
  · exact Or.inr (Or.inr (Or.inr ⟨b0, b1, b2.trans b3.1, b3.2, b3.1⟩))
  · exact absurd b0 k6
theorem nx_0 (e : c (306 + 9 * a) = nI 0) : nx c r tl a = (if bindB c (cN c (307 + 9 * a)) (cN c (308 + 9 * a)) = true then (upd c (100 + cN c (307 + 9 * a)) (nI (cN c (308 + 9 * a))), r, bmp tl 1) else (c, r, bmp tl 0)) := by
  unfold nx
  rw [if_pos e]
theorem nx_1 (e : c (306 + 9 * a) = nI 1) : nx c r tl a = (if c (100 + cN c (307 + 9 * a)) = m1 then (c, r, bmp tl 0) else (upd c (100 + cN c (307 + 9 * a)) m1, r, bmp tl 2)) := by
  unfold nx
  rw [e, if_neg (by decide), if_pos rfl]
theorem nx_2 (e : c (306 + 9 * a) = nI 2) : nx c r tl a = (upd c 9 (nI (cN c 9 ^^^ 2 ^ cN c (307 + 9 * a))), r, tl) := by
  unfold nx
  rw [e, if_neg (by decide), if_neg (by decide), if_pos rfl]
theorem nx_3 (e : c (306 + 9 * a) = nI 3) : nx c r tl a = (if c (100 + cN c (307 + 9 * a)) = m1 ∧ frS c (cN c (307 + 9 * a)) (cN c 2) ≠ 0 then (upd c (100 + cN c (307 + 9 * a)) (nI (gsN c (cN c (307 + 9 * a)) r)), rnx r, bmp (bmp tl 1) 3) else (c, r, bmp tl 0)) := by
  unfold nx
  rw [e, if_neg (by decide), if_neg (by decide), if_neg (by decide)]
theorem VGb (V : VG (wC0 g c)) : VB c := by
  have := (V.2.1 0 (Nat.zero_le _)).1
  rwa [sC0] at this
theorem nx_ok (V : VG (wC0 g c)) (hr : r < 65536) (B : rowOk wd sg th nm c ro a) (k6 : c (306 + 9 * a) ≠ nI 6) :
    VG (wC0 g (nx c r tl a).1) ∧ agr c (nx c r tl a).1 ∧ (nx c r tl a).2.1 < 65536 ∧ (∀ i, (nx c r tl a).2.2 i ≤ tl i + 1) ∧ (nx c r tl a).2.2 4 = tl 4 := by
  have Vb := VGb V
  have l2 := VC_l2 Vb
  have l4 := VC_l4 Vb
  have l9 := Vb.2.1.2.2
  have keep : VG (wC0 g c) ∧ agr c c ∧ r < 65536 ∧ (∀ i, bmp tl 0 i ≤ tl i + 1) ∧ bmp tl 0 4 = tl 4 := ⟨V, agr_rf c, hr, bmp_le tl 0, bmp_ne tl (by decide)⟩
  rcases row_cases B k6 with ⟨e, _, _, _, h1, h2, _, _⟩ | ⟨e, _, _, h1, _⟩ | ⟨e, _, _, h1, _⟩ | ⟨e, _, _, h1, _⟩
  · rw [nx_0 e]
    by_cases z : bindB c (cN c (307 + 9 * a)) (cN c (308 + 9 * a)) = true
    · rw [if_pos z]
      exact ⟨VG_bd V h1 (Or.inr ⟨_, h2, rfl⟩), agr_upd (Or.inr ⟨by omega, by omega⟩), hr, bmp_le tl 1, bmp_ne tl (show 4 ≠ 1 by decide)⟩
    · rw [if_neg z]; exact keep
  · rw [nx_1 e]
    by_cases z : c (100 + cN c (307 + 9 * a)) = m1
    · rw [if_pos z]; exact keep
    · rw [if_neg z]
      exact ⟨VG_bd V h1 (Or.inl rfl), agr_upd (Or.inr ⟨by omega, by omega⟩), hr, bmp_le tl 2, bmp_ne tl (show 4 ≠ 2 by decide)⟩
  · rw [nx_2 e]
    exact ⟨VG_li V (Nat.xor_lt_two_pow l9 (Nat.pow_lt_pow_right (by decide) h1)), agr_upd (Or.inl rfl), hr, fun i => Nat.le_succ _, rfl⟩
  · rw [nx_3 e]
    by_cases z : c (100 + cN c (307 + 9 * a)) = m1 ∧ frS c (cN c (307 + 9 * a)) (cN c 2) ≠ 0
    · rw [if_pos z]
      refine ⟨VG_bd V h1 (Or.inr ⟨_, (gsN_ok Vb z.2).2, rfl⟩), agr_upd (Or.inr ⟨by omega, by omega⟩), rnx_lt r, fun i => ?_, ?_⟩
      · by_cases e1 : i = 3
        · subst e1
          show bmp (bmp tl 1) 3 3 ≤ _
          have := bmp_le (bmp tl 1) 3 3
          rw [bmp_ne tl (show 3 ≠ 1 by decide)] at this
          exact this
        · show bmp (bmp tl 1) 3 i ≤ _
          rw [bmp_ne _ e1]
          exact bmp_le tl 1 i
      · show bmp (bmp tl 1) 3 4 = _
        rw [bmp_ne _ (by decide), bmp_ne _ (by decide)]
    · rw [if_neg z]; exact keep
end NX
section CT1
variable {Y : Ly} {x : Nat} {kw : Nat → Int64} {g : Sg} {wd sg th nm pt : Nat → Int32} {R : Nat} {Q : Nat × Nat × Nat × Nat × (Nat → Int32) × Int32} {h : Hp} {c : Nat → Int32} {r dn a ro : Nat} {tl : Nat → Nat} {ρ : Nat → Int32}
theorem sh31 {k : Nat} (hk : k < 31) : (1 : Int32) <<< (nI k &&& 31) = nI (2 ^ k) := by
  have := zone (k := k) hk
  simp only [zlit, zand]
  exact this
theorem LC.q (A : LC Y x kw g wd sg th nm pt R Q h c r tl dn ρ) : hAi h (hGr h 900 Q.2.2.1) = wd ∧ hAi h (hGr h 901 Q.2.2.1) = sg ∧ hAi h (hGr h 902 Q.2.2.1) = th ∧ hAi h (hGr h 903 Q.2.2.1) = nm ∧ hAi h (hGr h 904 Q.2.2.1) = pt ∧ hGi h 906 Q.2.2.1 = nI R ∧
    hGi h 205 Q.1 = nI dn ∧ hAi h (hGr h 201 Q.1) = ρ ∧ isO Y 2 Q.1 ∧ isO Y 4 Q.2.1 ∧ isO Y 9 Q.2.2.1 := by
  obtain ⟨q1, q2, q3, q4, _⟩ := A.2.2.2.2.2.2.2
  have o2 := A.o2
  have o4 := A.o4
  have o9 := A.o9
  rw [← q1, ← q3, ← q2]
  exact ⟨A.2.1.1, A.2.1.2.1, A.2.1.2.2.1, A.2.1.2.2.2.1, A.2.1.2.2.2.2.1, A.2.1.2.2.2.2.2, A.2.2.2.1, A.2.2.2.2.2.1, o2, o4, o9⟩
theorem LC_dnq (A : LC Y x kw g wd sg th nm pt R Q h c r tl dn ρ) (V : VG (wC0 g c)) {d : Nat} : LC Y x kw g wd sg th nm pt R Q (hSi h 205 Q.1 (nI d)) c r tl d ρ := by
  rw [← A.2.2.2.2.2.2.2.1]
  exact LC_dn A V
theorem LC_rhoq (A : LC Y x kw g wd sg th nm pt R Q h c r tl dn ρ) (V : VG (wC0 g c)) {i : Nat} {v : Int32} : LC Y x kw g wd sg th nm pt R Q (hTi h (hGr h 201 Q.1) i v) c r tl dn (upd ρ i v) := by
  rw [← A.2.2.2.2.2.2.2.1]
  exact LC_rho A V
theorem LC_talq (A : LC Y x kw g wd sg th nm pt R Q h c r tl dn ρ) (V : VG (wC0 g c)) {i v : Nat} : LC Y x kw g wd sg th nm pt R Q (hTi h (hGr h 200 Q.1) i (nI v)) c r (fun j => if j = i then v else tl j) dn ρ := by
  rw [← A.2.2.2.2.2.2.2.1]
  exact LC_tal A V
theorem Cq_findFit (A : LC Y x kw g wd sg th nm pt R Q h c r tl dn ρ) (V : VG (wC0 g c)) {b : Nat} (hb : b < cN c 2) : ∃ h', Li_findFit Y Q.1 Q.2.1 Q.2.2.2.1 (nI b) h = some h' ∧ LC Y x kw g wd sg th nm pt R Q h' c r tl dn ρ ∧ hAi h' (hGr h' 202 (hGr h' 1107 x)) b = nI (fitS c (cN c 9) b) := by
  obtain ⟨q1, q2, q3, q4, _⟩ := A.2.2.2.2.2.2.2
  obtain ⟨h', f1, f2, f3, f4⟩ := C_findFit A V hb
  rw [← q1, ← q2, ← q4]
  exact ⟨h', f1, f2, by rw [f3 1107 x (by decide), f3 202 _ (by decide)]; exact f4⟩
theorem Cq_bindOne (A : LC Y x kw g wd sg th nm pt R Q h c r tl dn ρ) (V : VG (wC0 g c)) {b f : Nat} (hb : b < cN c 2) (hf : f < cN c 3) (ef : hAi h (hGr h 202 (hGr h 1107 x)) b = nI (fitS c (cN c 9) b)) :
    ∃ h', Li_bindOne Y Q.1 Q.2.1 (nI b) (nI f) h = some h' ∧ (if bindB c b f = true then LC Y x kw g wd sg th nm pt R Q h' (upd c (100 + b) (nI f)) r (bmp tl 1) dn ρ else LC Y x kw g wd sg th nm pt R Q h' c r (bmp tl 0) dn ρ) := by
  obtain ⟨q1, q2, q3, q4, _⟩ := A.2.2.2.2.2.2.2
  rw [← q1, ← q2]
  exact C_bindOne A V hb hf ef
theorem Cq_looseOne (A : LC Y x kw g wd sg th nm pt R Q h c r tl dn ρ) (V : VG (wC0 g c)) {b : Nat} (hb : b < cN c 2) :
    ∃ h', Li_looseOne Y Q.1 Q.2.1 (nI b) h = some h' ∧ (if c (100 + b) = m1 then LC Y x kw g wd sg th nm pt R Q h' c r (bmp tl 0) dn ρ else LC Y x kw g wd sg th nm pt R Q h' (upd c (100 + b) m1) r (bmp tl 2) dn ρ) := by
  obtain ⟨q1, q2, q3, q4, _⟩ := A.2.2.2.2.2.2.2
  rw [← q1, ← q2]
  exact C_looseOne A V hb
theorem Cq_guessOne (A : LC Y x kw g wd sg th nm pt R Q h c r tl dn ρ) (V : VG (wC0 g c)) (hr : r < 65536) {b : Nat} (hb : b < cN c 2) (ef : hAi h (hGr h 202 (hGr h 1107 x)) b = nI (fitS c (cN c 9) b)) :
    ∃ h', Li_guessOne Y Q.1 Q.2.1 (nI b) h = some h' ∧ (if c (100 + b) = m1 ∧ frS c b (cN c 2) ≠ 0 then LC Y x kw g wd sg th nm pt R Q h' (upd c (100 + b) (nI (gsN c b r))) (rnx r) (bmp (bmp tl 1) 3) dn ρ else LC Y x kw g wd sg th nm pt R Q h' c r (bmp tl 0) dn ρ) := by
  obtain ⟨q1, q2, q3, q4, _⟩ := A.2.2.2.2.2.2.2
  rw [← q1, ← q2]
  exact C_guessOne A V hr hb ef
theorem Cq_call (A : LC Y x kw g wd sg th nm pt R Q h c r tl dn ρ) (V : VG (wC0 g c)) {k : Nat} (hk : k < cN c 4) :
    ∃ h', (J_fillI Y (hGr (hSi h 417 Q.2.1 (nI (cN c 9 ^^^ 2 ^ k))) 202 Q.1) (-1) (hSi h 417 Q.2.1 (nI (cN c 9 ^^^ 2 ^ k)))) = some h' ∧ LC Y x kw g wd sg th nm pt R Q h' (upd c 9 (nI (cN c 9 ^^^ 2 ^ k))) r tl dn ρ := by
  obtain ⟨q1, q2, q3, q4, _⟩ := A.2.2.2.2.2.2.2
  rw [← q1, ← q2]
  exact C_call A V hk
theorem Cq_holds (A : LC Y x kw g wd sg th nm pt R Q h c r tl dn ρ) (V : VG (wC0 g c)) (hro : ro < 60) (B : blkOk wd sg th nm c ro a) (h4 : c (306 + 9 * a) = nI 4) :
    Li_holds Y Q.2.1 Q.2.2.1 (nI ro) h = some (tsB c a) := by
  obtain ⟨q1, q2, q3, q4, _⟩ := A.2.2.2.2.2.2.2
  rw [← q3, ← q2]
  exact C_holds A V hro B h4
theorem Cq_sX (A : LC Y x kw g wd sg th nm pt R Q h c r tl dn ρ) (V : VG (wC0 g c)) : CX Y h x Q.2.1 c := by
  have := A.1.ct0 V
  unfold CT at this
  rwa [A.2.2.2.2.2.2.2.2.1] at this
theorem C_has (A : LC Y x kw g wd sg th nm pt R Q h c r tl dn ρ) (hro : ro < R) (hR : R ≤ 60) : We_hasRow Y Q.2.2.1 (nI ro) h = some true := by
  obtain ⟨w0, w1, w2, w3, w4, w5, _⟩ := A.q
  unfold We_hasRow
  rw [if_neg (nI_pos (by omega)), w5, if_neg (nI_ge hro (by omega))]
/-- a round of the class's loop at a row that is no end -/
theorem C_st (A : LC Y x kw g wd sg th nm pt R Q h c r tl dn ρ) (hro : ro < R) (hR : R ≤ 60) (hdn : dn < 300) {k : Nat} (hk : k < 1000000) (n29 : wd ro ≠ 29) (F : Nat) :
    Li_run_L38 Y Q.1 Q.2.1 Q.2.2.2.1 Q.2.2.1 (F + 1) (nI ro) (nI k) h = if wd ro = 30 then some (hSi h 205 Q.1 (nI (dn + 1))) else if wd ro = 21 then Li_run_J135 Y (Li_run_L38 Y Q.1 Q.2.1 Q.2.2.2.1 Q.2.2.1 F) Q.1 Q.2.1 Q.2.2.2.1 Q.2.2.1 (nI ro) (nI k) (hSi h 205 Q.1 (nI (dn + 1))) else
      if wd ro = 24 then Li_run_J135 Y (Li_run_L38 Y Q.1 Q.2.1 Q.2.2.2.1 Q.2.2.1 F) Q.1 Q.2.1 Q.2.2.2.1 Q.2.2.1 (nI ro) (nI k) (hSi h 205 Q.1 (nI (dn + 1))) else
      (Li_takeStep Y Q.1 Q.2.1 Q.2.2.1 (nI ro) (hSi h 205 Q.1 (nI (dn + 1)))).bind fun q24 => Li_run_L38 Y Q.1 Q.2.1 Q.2.2.2.1 Q.2.2.1 F q24.1 (nI (k + 1)) q24.2 := by
  obtain ⟨w0, w1, w2, w3, w4, w5, e5, _, o2, o4, o9⟩ := A.q
  rw [Li_run_L38, if_neg (show ¬ (1000000 : Int32) ≤ nI k from nI_ge (b := 1000000) hk (by omega)), C_has A hro hR, bind_s, if_pos rfl, cl900 A.1.1 o9, if_pos (inB_nI (by omega) (by omega)), nI_clamp (by omega), w0, if_neg n29, e5, if_pos (show nI dn < 300 from nI_lt (b := 300) hdn (by omega)), letH_e, nI_1, nI_1]
theorem C_tk (A : LC Y x kw g wd sg th nm pt R Q h c r tl dn ρ) (hro : ro < 60) : Li_takeStep Y Q.1 Q.2.1 Q.2.2.1 (nI ro) h = if wd ro = 21 then (Li_bindOne Y Q.1 Q.2.1 (th ro) (nm ro) h).bind fun q8 => some (nI (ro + 1), q8) else if wd ro = 22 then (Li_looseOne Y Q.1 Q.2.1 (th ro) h).bind fun q10 => some (nI (ro + 1), q10) else if wd ro = 23 then (Sh_hasReader Y Q.2.1 (th ro) h).bind fun q12 =>
        if q12 = true then letH (hSi h 417 Q.2.1 ((hGi h 417 Q.2.1) ^^^ ((1 : Int32) <<< ((th ro) &&& 31)))) fun h14 => (J_fillI Y (hGr h14 202 Q.1) (-1) h14).bind fun q16 => some (nI (ro + 1), q16)
        else letH (hSi h 417 Q.2.1 ((hGi h 417 Q.2.1) ^^^ 0)) fun h17 => (J_fillI Y (hGr h17 202 Q.1) (-1) h17).bind fun q19 => some (nI (ro + 1), q19)
      else if wd ro = 24 then (Li_guessOne Y Q.1 Q.2.1 (th ro) h).bind fun q21 => some (nI (ro + 1), q21) else
      if wd ro = 28 then letH (hTi h (hGr h 201 Q.1) ro (nm ro)) fun h27 => (if hAi h27 (hGr h27 904 Q.2.2.1) ro = nI (ro + 1) then some (nI ro + 2, h27) else some (nI (ro + 1), h27)) else
      (Li_holds Y Q.2.1 Q.2.2.1 (nI ro) h).bind fun q31 => if q31 = true then some (nI (ro + 1), h) else some (pt ro + 1, h) := by
  obtain ⟨w0, w1, w2, w3, w4, w5, e5, _, o2, o4, o9⟩ := A.q
  have i60 : inB (nI ro) 60 = true := inB_nI hro (by omega)
  have g27 : ∀ i v, lnY Y (hGr (hTi h (hGr h 201 Q.1) i v) 904 Q.2.2.1) = 60 := fun i v => cl904 A.1.1 o9
  unfold Li_takeStep
  rw [cl902 A.1.1 o9, if_pos i60, cl900 A.1.1 o9, if_pos i60, cl903 A.1.1 o9, if_pos i60, if_pos i60, cl201 A.1.1 o2, if_pos i60, nI_clamp (by omega), w0, w2, w3, nI_1]
  simp only [letH_e, g27, cl904 A.1.1 o9, if_pos i60, w4]
theorem C_row (A : LC Y x kw g wd sg th nm pt R Q h c r tl dn ρ) (V : VG (wC0 g c)) (hr : r < 65536) (hdn : dn < 300) (hro : ro < R) (hR : R ≤ 60) (B : rowOk wd sg th nm c ro a) (k6 : c (306 + 9 * a) ≠ nI 6) {k : Nat} (hk : k < 1000000) :
    ∃ h', (∀ F, Li_run_L38 Y Q.1 Q.2.1 Q.2.2.2.1 Q.2.2.1 (F + 1) (nI ro) (nI k) h = Li_run_L38 Y Q.1 Q.2.1 Q.2.2.2.1 Q.2.2.1 F (nI (ro + 1)) (nI (k + 1)) h') ∧ LC Y x kw g wd sg th nm pt R Q h' (nx c r tl a).1 (nx c r tl a).2.1 (nx c r tl a).2.2 (dn + 1) ρ := by
  have Vb := VGb V
  have l2 := VC_l2 Vb
  have l4 := VC_l4 Vb
  have A1 := LC_dnq A V (d := dn + 1)
  obtain ⟨_, _, w2, _, _, _, _, _, _, _, o9⟩ := A1.q
  have jj : ∀ F h3, Li_findFit Y Q.1 Q.2.1 Q.2.2.2.1 (th ro) (hSi h 205 Q.1 (nI (dn + 1))) = some h3 → Li_run_J135 Y (Li_run_L38 Y Q.1 Q.2.1 Q.2.2.2.1 Q.2.2.1 F) Q.1 Q.2.1 Q.2.2.2.1 Q.2.2.1 (nI ro) (nI k) (hSi h 205 Q.1 (nI (dn + 1))) = (Li_takeStep Y Q.1 Q.2.1 Q.2.2.1 (nI ro) h3).bind fun q22 => Li_run_L38 Y Q.1 Q.2.1 Q.2.2.2.1 Q.2.2.1 F q22.1 (nI (k + 1)) q22.2 := by
    intro F h3 e3
    unfold Li_run_J135
    rw [cl902 A1.1.1 o9, if_pos (inB_nI (by omega) (by omega)), nI_clamp (by omega), w2, e3, bind_s, nI_1]
  rcases row_cases B k6 with ⟨e, e1, e2, e3, h1, h2, _, _⟩ | ⟨e, e1, e2, h1, _⟩ | ⟨e, e1, e2, h1, _⟩ | ⟨e, e1, e2, h1, _⟩
  · obtain ⟨h3, f1, f2, f3⟩ := Cq_findFit A1 V h1
    obtain ⟨h4, g1, g2⟩ := Cq_bindOne f2 V h1 h2 f3
    refine ⟨h4, fun F => ?_, ?_⟩
    · rw [C_st A hro hR hdn hk (by rw [e1]; decide), e1, if_neg (by decide), if_pos (show nI 21 = 21 from rfl), jj F h3 (by rw [e2]; exact f1), C_tk f2 (by omega), e1, if_pos (show nI 21 = 21 from rfl), e2, e3, g1, bind_s, bind_s]
    · rw [nx_0 e]
      by_cases z : bindB c (cN c (307 + 9 * a)) (cN c (308 + 9 * a)) = true
      · rw [if_pos z] at g2 ⊢; exact g2
      · rw [if_neg z] at g2 ⊢; exact g2
  · obtain ⟨h4, g1, g2⟩ := Cq_looseOne A1 V h1
    refine ⟨h4, fun F => ?_, ?_⟩
    · rw [C_st A hro hR hdn hk (by rw [e1]; decide), e1, if_neg (by decide), if_neg (by decide), if_neg (by decide), C_tk A1 (by omega), e1, if_neg (by decide), if_pos (show nI 22 = 22 from rfl), e2, g1, bind_s, bind_s]
    · rw [nx_1 e]
      by_cases z : c (100 + cN c (307 + 9 * a)) = m1
      · rw [if_pos z] at g2 ⊢; exact g2
      · rw [if_neg z] at g2 ⊢; exact g2
  · have X := Cq_sX A1 V
    obtain ⟨h4, g1, g2⟩ := Cq_call A1 V h1
    refine ⟨h4, fun F => ?_, ?_⟩
    · rw [C_st A hro hR hdn hk (by rw [e1]; decide), e1, if_neg (by decide), if_neg (by decide), if_neg (by decide), C_tk A1 (by omega), e1, if_neg (by decide), if_neg (by decide), if_pos (show nI 23 = 23 from rfl), e2, Sh_hasReader_s X.2.2.2.1 Vb, bind_s, isAt_nI h1 (by omega), if_pos rfl, letH_e, X.2.2.2.1.1.2.2.2.2.2.2.2.2.2, Vb.2.1.2.1, sh31 (by omega), zxor, g1, bind_s, bind_s]
    · rw [nx_2 e]; exact g2
  · obtain ⟨h3, f1, f2, f3⟩ := Cq_findFit A1 V h1
    obtain ⟨h4, g1, g2⟩ := Cq_guessOne f2 V hr h1 f3
    refine ⟨h4, fun F => ?_, ?_⟩
    · rw [C_st A hro hR hdn hk (by rw [e1]; decide), e1, if_neg (by decide), if_neg (by decide), if_pos (show nI 24 = 24 from rfl), jj F h3 (by rw [e2]; exact f1), C_tk f2 (by omega), e1, if_neg (by decide), if_neg (by decide), if_neg (by decide), if_pos (show nI 24 = 24 from rfl), e2, g1, bind_s, bind_s]
    · rw [nx_3 e]
      by_cases z : c (100 + cN c (307 + 9 * a)) = m1 ∧ frS c (cN c (307 + 9 * a)) (cN c 2) ≠ 0
      · rw [if_pos z] at g2 ⊢; exact g2
      · rw [if_neg z] at g2 ⊢; exact g2
end CT1
