/-! ===== a new name ===== -/
theorem Kf_tl {Y : Ly} {o : Nat} {h : Hp} {f i : Nat} {v : Int64} (hf : cArr f = true) (ho : isO Y (f / 100) o) : Kf Y o h (hTl h (hGr h f o) i v) :=
  ⟨fun _ _ _ => rfl, fun _ _ => rfl, fun _ _ => rfl, fun _ _ => rfl, fun A k n => ⟨rfl, by rw [al_tl, if_neg (fun z => n f hf ho z.1)]⟩, fun t => t⟩
section NW
variable {Y : Ly} {x t s m n : Nat} {T : Nat → Int32} {P : Nat → Prop} {h0 h h' : Hp} {p p' k a : Nat} {c c' cn cn' : Nat → Int32} {w w' : Nat → Int64}
theorem TC_f {o : Nat} (S : CS Y h x) (K : Kf Y o h h') (ne : o ≠ t) (ot : isO Y 7 t) (C : TC Y h t n T p) : TC Y h' t n T p := by
  have e : ∀ f, hGi h' f t = hGi h f t := fun f => K.1 f t (fun z => ne z.symm)
  obtain ⟨⟨x1, x2, x3, x4, x5, x6⟩, c1, c2, c3, c4, c5, c6, c7⟩ := C
  refine ⟨⟨by rw [K.2.2.1]; exact x1, by rw [K.2.2.1]; exact x2, x3, (e 703).trans x4, fun i hi => ⟨?_, (x5 i hi).2⟩, fun i hi => ?_⟩, c1, (e 704).trans c2, (e 705).trans c3, (e 706).trans c4, (e 708).trans c5, (K.2.1 709 t).trans c6, fun z => (e 707).trans (c7 z)⟩
  · rw [K.2.2.1, (Kf_ai K S (fun z => ne z.symm) rfl ot).1]; exact (x5 i hi).1
  · rw [K.2.2.1, (Kf_ai K S (fun z => ne z.symm) rfl ot).2]; exact x6 i hi
theorem PC_f {o : Nat} (C : PC Y x t s n T P h0 h p c cn w) (K : Kf Y o h h') (po : P o) (ne : o ≠ t) (ot : isO Y 7 t) (R : RF h' s c') (N : RN h' s cn' w') : PC Y x t s n T P h0 h' p c' cn' w' :=
  ⟨Kp_tr C.1 (Kp_f K po), Kf_cs K C.2.1, K.2.2.2.2.2 C.2.2.1, TC_f C.2.1 K ne ot C.2.2.2.1, R, N⟩
def mostOf : Nat → Nat
  | 0 => 8
  | 1 => 8
  | 2 => 6
  | 3 => 8
  | 4 => 6
  | 5 => 6
  | _ => 8
theorem nmT_e (c : Nat → Int32) : nmT c = cN c 0 + cN c 1 + cN c 2 + cN c 3 + cN c 4 + cN c 6 + cN c 7 := by
  simp only [nmT, sm, manyI]
  simp
theorem nmT_lt (V : VC c) {so : Nat} (hso : so < 7) (hk : cN c (manyI so) < mostOf so) : nmT c < 50 := by
  rw [nmT_e]
  obtain ⟨v0, v1, v2, v3, v4, v5, v6, v7⟩ := V
  have := v0.2
  have := v1.2
  have := v2.2
  have := v3.2
  have := v4.2
  have := v6.2
  have := v7.2
  rcases (show so = 0 ∨ so = 1 ∨ so = 2 ∨ so = 3 ∨ so = 4 ∨ so = 5 ∨ so = 6 by omega) with e | e | e | e | e | e | e <;> subst e <;> simp only [manyI, mostOf] at hk <;> simp at hk <;> omega
theorem nmT_up {so k : Nat} (hso : so < 7) (hk : k < 50) (e : cN c (manyI so) = k) : nmT (upd c (manyI so) (nI (k + 1))) = nmT c + 1 ∧ (∀ so', so' < 7 → so' ≠ so → cN (upd c (manyI so) (nI (k + 1))) (manyI so') = cN c (manyI so')) ∧ cN (upd c (manyI so) (nI (k + 1))) (manyI so) = k + 1 := by
  have inj : ∀ so', so' < 7 → so' ≠ so → manyI so' ≠ manyI so := by
    intro so' h1 h2
    unfold manyI
    split <;> split <;> omega
  have a1 : ∀ so', so' < 7 → so' ≠ so → cN (upd c (manyI so) (nI (k + 1))) (manyI so') = cN c (manyI so') := fun so' h1 h2 => cN_ne (fun i hi => pk_un hi) (inj so' h1 h2)
  have a2 : cN (upd c (manyI so) (nI (k + 1))) (manyI so) = k + 1 := by unfold cN; rw [pk_us, nI_clamp (by omega)]
  refine ⟨?_, a1, a2⟩
  have : ∀ N, N ≤ 7 → sm (fun s => cN (upd c (manyI so) (nI (k + 1))) (manyI s)) N = sm (fun s => cN c (manyI s)) N + (if so < N then 1 else 0) := by
    intro N
    induction N with
    | zero => intro _; simp [sm]
    | succ N ih =>
      intro hN
      rw [sm, sm, ih (by omega)]
      by_cases z : N = so
      · subst z
        rw [a2, if_neg (by omega), if_pos (by omega), e]
        omega
      · rw [a1 N (by omega) z]
        by_cases z2 : so < N
        · rw [if_pos z2, if_pos (by omega)]; omega
        · rw [if_neg z2, if_neg (by omega)]; omega
  have q := this 7 (Nat.le_refl _)
  rw [if_pos hso] at q
  exact q
theorem VN_new (V : VN c w) {so k : Nat} {v : Int64} (hso : so < 7) (hk : k < 8) (e : cN c (manyI so) = k) (h8 : ∀ so', so' < 7 → cN c (manyI so') ≤ 8) (nt : ¬ TKN c w v) : VN (upd c (manyI so) (nI (k + 1))) (vp_updL w (8 * so + k) v) := by
  obtain ⟨_, a1, a2⟩ := nmT_up hso (by omega) e
  have old : ∀ so' k', so' < 7 → k' < cN (upd c (manyI so) (nI (k + 1))) (manyI so') → (so' = so ∧ k' = k) ∨ (k' < cN c (manyI so') ∧ 8 * so' + k' ≠ 8 * so + k) := by
    intro so' k' h1 h2
    by_cases z : so' = so
    · subst z
      rw [a2] at h2
      by_cases z2 : k' = k
      · exact Or.inl ⟨rfl, z2⟩
      · exact Or.inr ⟨by omega, by omega⟩
    · rw [a1 so' h1 z] at h2
      have := h8 so' h1
      exact Or.inr ⟨h2, by omega⟩
  intro so1 k1 so2 k2 h1 h2 h3 h4 h5
  rcases old so1 k1 h1 h2 with ⟨e1, e2⟩ | ⟨e1, e2⟩ <;> rcases old so2 k2 h3 h4 with ⟨e3, e4⟩ | ⟨e3, e4⟩
  · exact ⟨e1.trans e3.symm, e2.trans e4.symm⟩
  · rw [e1, e2, pk_uLs, pk_uLn e4] at h5
    exact absurd ⟨so2, k2, h3, e3, h5.symm⟩ nt
  · rw [e3, e4, pk_uLs, pk_uLn e2] at h5
    exact absurd ⟨so1, k1, h1, e1, h5⟩ nt
  · rw [pk_uLn e2, pk_uLn e4] at h5
    exact V so1 k1 so2 k2 h1 e1 h3 e3 h5
def newOk (T : Nat → Int32) (n p : Nat) (c : Nat → Int32) (w : Nat → Int64) : Prop := isNm T n p = true ∧ ¬ TKN c w (lN (tW T n p))
theorem addName_s (S : CS Y h x) (Tt : Ty Y h) (os : isO Y 4 s) (R : RF h s c') (N : RN h s c w) (V : VC c) {so k : Nat} {v : Int64} (hso : so < 7) (e : cN c (manyI so) = k) (hk : k < mostOf so) :
    ∃ h', Sh_addName Y s v (nI (kindOf so)) (nI k) h = some h' ∧ Kf Y s h h' ∧ RF h' s c' ∧ RN h' s (upd c (manyI so) (nI (k + 1))) (vp_updL w (8 * so + k) v) := by
  have nl := nmT_lt V hso (by omega)
  have k8 : k < 8 := by
    have : mostOf so ≤ 8 := by unfold mostOf; split <;> omega
    omega
  have c8 : ∀ so', so' < 7 → cN c (manyI so') ≤ 8 := fun so' h1 => (cnt8 V h1).2
  obtain ⟨u0, u1, u2⟩ := nmT_up (c := c) hso (by omega) e
  unfold Sh_addName
  rw [N.1, if_neg (show ¬ (50 : Int32) ≤ nI (nmT c) from nI_ge (b := 50) nl (by omega)), cl403 S os, if_pos (inB_nI (by omega) (by omega)), letH_e, nI_clamp (by omega)]
  have e1 : hGi (hTl h (hGr h 403 s) (nmT c) v) 414 s = nI (nmT c) := N.1
  rw [e1, gr_tl, cl404 S os, if_pos (inB_nI (by omega) (by omega)), letH_e, nI_clamp (by omega), gi_ti, e1, gr_ti, gr_tl, cl405 S os, if_pos (inB_nI (by omega) (by omega)), letH_e, nI_clamp (by omega), letH_e, gi_ti, gi_ti, e1, nI_1]
  have K1 : Kf Y s h (hTl h (hGr h 403 s) (nmT c) v) := Kf_tl rfl os
  have K2 : Kf Y s (hTl h (hGr h 403 s) (nmT c) v) (hTi (hTl h (hGr h 403 s) (nmT c) v) (hGr h 404 s) (nmT c) (nI (kindOf so))) := Kf_ti (h := hTl h (hGr h 403 s) (nmT c) v) (f := 404) rfl os
  have K3 : Kf Y s (hTi (hTl h (hGr h 403 s) (nmT c) v) (hGr h 404 s) (nmT c) (nI (kindOf so))) (hTi (hTi (hTl h (hGr h 403 s) (nmT c) v) (hGr h 404 s) (nmT c) (nI (kindOf so))) (hGr h 405 s) (nmT c) (nI k)) := Kf_ti (h := hTi (hTl h (hGr h 403 s) (nmT c) v) (hGr h 404 s) (nmT c) (nI (kindOf so))) (f := 405) rfl os
  have n45 : hGr h 404 s ≠ hGr h 405 s := fun z => absurd (S.2.2.2.1 404 405 s s rfl rfl os os z).1 (by decide)
  have n34 : ∀ o, hGr h 403 s ≠ hGr h 403 o ∨ True := fun _ => Or.inr trivial
  have A3 : ∀ i, hAl (hSi (hTi (hTi (hTl h (hGr h 403 s) (nmT c) v) (hGr h 404 s) (nmT c) (nI (kindOf so))) (hGr h 405 s) (nmT c) (nI k)) 414 s (nI (nmT c + 1))) (hGr h 403 s) i = if i = nmT c then v else hAl h (hGr h 403 s) i := by
    intro i
    show hAl (hTl h (hGr h 403 s) (nmT c) v) (hGr h 403 s) i = _
    rw [al_tl]
    by_cases z : i = nmT c
    · rw [if_pos ⟨rfl, z⟩, if_pos z]
    · rw [if_neg (fun q => z q.2), if_neg z]
  have A4 : ∀ i, hAi (hSi (hTi (hTi (hTl h (hGr h 403 s) (nmT c) v) (hGr h 404 s) (nmT c) (nI (kindOf so))) (hGr h 405 s) (nmT c) (nI k)) 414 s (nI (nmT c + 1))) (hGr h 404 s) i = if i = nmT c then nI (kindOf so) else hAi h (hGr h 404 s) i := by
    intro i
    rw [ai_si, ai_ti, if_neg (fun q => n45 q.1), ai_ti]
    by_cases z : i = nmT c
    · rw [if_pos ⟨rfl, z⟩, if_pos z]
    · rw [if_neg (fun q => z q.2), if_neg z]; rfl
  have A5 : ∀ i, hAi (hSi (hTi (hTi (hTl h (hGr h 403 s) (nmT c) v) (hGr h 404 s) (nmT c) (nI (kindOf so))) (hGr h 405 s) (nmT c) (nI k)) 414 s (nI (nmT c + 1))) (hGr h 405 s) i = if i = nmT c then nI k else hAi h (hGr h 405 s) i := by
    intro i
    rw [ai_si, ai_ti]
    by_cases z : i = nmT c
    · rw [if_pos ⟨rfl, z⟩, if_pos z]
    · rw [if_neg (fun q => z q.2), if_neg z, ai_ti, if_neg (fun q => n45 q.1.symm)]; rfl
  have oldi : ∀ so' k', so' < 7 → k' < cN c (manyI so') → k' < cN (upd c (manyI so) (nI (k + 1))) (manyI so') ∧ 8 * so' + k' ≠ 8 * so + k := by
    intro so' k' h1 h2
    have := c8 so' h1
    by_cases z : so' = so
    · subst z
      rw [u2]
      omega
    · rw [u1 so' h1 z]
      omega
  refine ⟨_, rfl, Kf_tr (Kf_tr (Kf_tr K1 K2) K3) (Kf_si (Or.inl rfl)), ?_, ⟨?_, fun i hi => ?_, fun so' k' h1 h2 => ?_⟩⟩
  · have o6 := Tt.1 400 6 rfl s os
    have o1 := Tt.1 401 3 rfl s os
    have o2 := Tt.1 402 3 rfl s os
    have ne : ∀ f o i, cArr f = true → isO Y (f / 100) o → f ≠ 404 → f ≠ 405 → hAi (hSi (hTi (hTi (hTl h (hGr h 403 s) (nmT c) v) (hGr h 404 s) (nmT c) (nI (kindOf so))) (hGr h 405 s) (nmT c) (nI k)) 414 s (nI (nmT c + 1))) (hGr h f o) i = hAi h (hGr h f o) i := by
      intro f o i h1 h2 h3 h4
      rw [ai_si, ai_ti, if_neg (fun z => h4 (S.2.2.2.1 f 405 o s h1 rfl h2 os z.1).1), ai_ti, if_neg (fun z => h3 (S.2.2.2.1 f 404 o s h1 rfl h2 os z.1).1)]
      rfl
    refine RF_same (h := h) ⟨fun f a hf => ?_, fun _ _ _ => rfl, fun i => ne 600 _ i rfl o6 (by decide) (by decide), fun i => ne 601 _ i rfl o6 (by decide) (by decide), fun i => ne 602 _ i rfl o6 (by decide) (by decide), fun i => ne 603 _ i rfl o6 (by decide) (by decide), fun f i h1 h2 => ?_, fun f i h1 h2 => ?_⟩ R
    · rw [gi_si, if_neg]
      · rfl
      · intro z
        rw [z.1] at hf
        cases hf
    · refine ne f _ i ?_ (by rw [show f / 100 = 4 by omega]; exact os) (by omega) (by omega)
      rcases (show f = 406 ∨ f = 407 ∨ f = 408 ∨ f = 409 ∨ f = 410 ∨ f = 411 ∨ f = 412 by omega) with e | e | e | e | e | e | e <;> (subst e; rfl)
    · rcases (show f = 300 ∨ f = 301 by omega) with e | e <;> subst e
      · exact ⟨ne 300 _ i rfl o1 (by decide) (by decide), ne 300 _ i rfl o2 (by decide) (by decide)⟩
      · exact ⟨ne 301 _ i rfl o1 (by decide) (by decide), ne 301 _ i rfl o2 (by decide) (by decide)⟩
  · rw [u0]
    show hGi (hSi _ 414 s (nI (nmT c + 1))) 414 s = _
    rw [gi_si, if_pos ⟨rfl, rfl⟩]
  · rw [u0] at hi
    simp only [gr_si, gr_ti, gr_tl]
    rw [A3, A4, A5]
    by_cases z : i = nmT c
    · rw [if_pos z, if_pos z, if_pos z]
      exact ⟨so, k, hso, by rw [u2]; omega, by rw [pk_uLs], rfl, rfl⟩
    · obtain ⟨so', k', a1, a2, a3, a4, a5⟩ := N.2.1 i (by omega)
      obtain ⟨b1, b2⟩ := oldi so' k' a1 a2
      rw [if_neg z, if_neg z, if_neg z]
      exact ⟨so', k', a1, b1, by rw [pk_uLn b2]; exact a3, a4, a5⟩
  · rw [u0]
    simp only [gr_si, gr_ti, gr_tl]
    by_cases z : so' = so ∧ k' = k
    · refine ⟨nmT c, by omega, ?_⟩
      rw [A3, A4, A5, if_pos rfl, if_pos rfl, if_pos rfl, z.1, z.2, pk_uLs]
      exact ⟨rfl, rfl, rfl⟩
    · have h2' : k' < cN c (manyI so') := by
        by_cases z2 : so' = so
        · subst z2
          rw [u2] at h2
          omega
        · rw [u1 so' h1 z2] at h2; exact h2
      obtain ⟨i, i1, i2, i3, i4⟩ := N.2.2 so' k' h1 h2'
      refine ⟨i, by omega, ?_⟩
      rw [A3, A4, A5, if_neg (by omega), if_neg (by omega), if_neg (by omega), pk_uLn (oldi so' k' h1 h2').2]
      exact ⟨i2, i3, i4⟩
/-- the class takes a new name -/
theorem c_new (C : PC Y x t s n T P h0 h p c' c w) (os : isO Y 4 s) (ot : isO Y 7 t) (ps : P s) (V : VC c) (Vn : VN c w) {so k : Nat} (hso : so < 7) (e : cN c (manyI so) = k) (hk : k < mostOf so) :
    (newOk T n p c w → ∃ h', To_passNew Y t s (nI (kindOf so)) (nI k) h = some (true, h') ∧ PC Y x t s n T P h0 h' (tE T n p) c' (upd c (manyI so) (nI (k + 1))) (vp_updL w (8 * so + k) (lN (tW T n p)))) ∧
    (¬ newOk T n p c w → ∃ h', To_passNew Y t s (nI (kindOf so)) (nI k) h = some (false, h') ∧ FCc Y t P h0 h' (fltO T n p) (tS T n p)) := by
  have TCp := C.2.2.2.1
  have hn := hasName_s C.2.1 os C.2.2.2.2.2 (nmT_le V) (lN (tW T n p))
  unfold To_passNew newOk fltO
  rw [c_isName TCp, bind_s, TCp.2.2.2.2.2.2.1]
  by_cases z : isNm T n p = true
  · have z1 := isNm_1 z
    rw [if_pos z, if_pos z]
    by_cases tk : TKN c w (lN (tW T n p))
    · refine ⟨fun q => absurd tk q.2, fun _ => ?_⟩
      obtain ⟨h', e1, e2, e3⟩ := c_blame TCp 3
      have f3 : flt T n p 3 = 3 := by unfold flt; rw [if_neg (by omega)]
      rw [f3] at e3
      rw [hn.1 tk, bind_s, if_pos rfl, show (3 : Int32) = nI 3 from rfl, e1, bind_s]
      exact ⟨h', rfl, FCc_k C e2 e3⟩
    · refine ⟨fun _ => ?_, fun q => absurd ⟨z, tk⟩ q⟩
      obtain ⟨h1, e1, K1, R1, N1⟩ := addName_s C.2.1 C.2.2.1 os C.2.2.2.2.1 C.2.2.2.2.2 V (v := lN (tW T n p)) hso e hk
      have C1 := PC_f C K1 ps (isO_ne os ot (by decide)) ot R1 N1
      obtain ⟨h2, f1, f2, f3, _⟩ := TC_adv C1.2.2.2.1
      rw [hn.2 tk, bind_s, if_neg (by decide), e1, bind_s, f1, bind_s]
      exact ⟨h2, rfl, PC_k C1 f2 f3⟩
  · rw [if_neg z, if_neg z]
    refine ⟨fun q => absurd q.1 z, fun _ => ?_⟩
    obtain ⟨h', e1, e2, e3⟩ := c_blame TCp 2
    rw [show (2 : Int32) = nI 2 from rfl, e1, bind_s]
    exact ⟨h', rfl, FCc_k C e2 e3⟩
/-- the reference takes a new name -/
theorem m_new (C : PM Y m n T h0 h p c w) (V : VC c) {so k : Nat} (hso : so < 7) (e : cN c (manyI so) = k) (hk : k < mostOf so) :
    (newOk T n (tE T n p) c w → ∃ h', M_readNew Y m (nI so) (nI (mostOf so)) h = some (nI k, h') ∧ PM Y m n T h0 h' (tE T n (tE T n p)) c (vp_updL w (8 * so + k) (lN (tW T n (tE T n p))))) ∧
    (¬ newOk T n (tE T n p) c w → ∃ h', M_readNew Y m (nI so) (nI (mostOf so)) h = some (0, h') ∧ FMm Y m h0 h' (fltO T n (tE T n p)) (tS T n (tE T n p))) := by
  have m8 : mostOf so ≤ 8 := by unfold mostOf; split <;> omega
  have ml := many_lt hso
  have mo : M_manyOf Y (nI so) h = some (nI (manyI so)) := by
    unfold M_manyOf manyI
    by_cases z : so < 5
    · rw [if_neg (show ¬ (5 : Int32) ≤ nI so from nI_ge (b := 5) z (by omega)), if_pos z]
    · rw [if_pos (show (5 : Int32) ≤ nI so from nI_le (a := 5) (by omega) (by omega)), if_neg z, nI_1]
  have ck : hAi h (hGr h 1220 m) (2304 + manyI so) = nI k := by rw [C.2.2.2.2.1 _ (by omega), (cnt8 V hso).1, e]
  obtain ⟨h1, a1, a2, a3, a4, _⟩ := TP_adv C.2.2.1
  have C1 := PM_k C a2 a3 (a4.trans C.2.2.2.1)
  have B1 := PM_bn C1 V
  unfold M_readNew
  rw [mo, bind_s, show (2304 : Int32) + nI (manyI so) = nI (2304 + manyI so) from nI_add 2304 _, ml1220 C.2.1, if_pos (inB_nI (by omega) (by omega)), nI_clamp (by omega), ck, if_neg (show ¬ nI k = nI (mostOf so) from fun q => by have := (nI_eq (by omega) (by omega)).mp q; omega), M_readNew_J29, C.2.2.2.1, if_pos (by decide), a1, bind_s, m_isName a3, bind_s]
  unfold newOk fltO
  have c0 := C1.2.2.2.1
  by_cases z : isNm T n (tE T n p) = true
  · rw [if_pos z, if_pos z, M_readNew_J53, if_pos c0]
    have tkn := isTaken_s (Y := Y) C1.2.1 B1
    rw [wd_nm a3 z] at tkn
    by_cases tk : TKN c w (lN (tW T n (tE T n p)))
    · refine ⟨fun q => absurd tk q.2, fun _ => ?_⟩
      obtain ⟨h2, e1, e2, e3⟩ := m_fail (Y := Y) c0 (k := 3) (a := tS T n (tE T n p)) (by decide) (by decide)
      rw [tkn.1 tk, bind_s, if_pos rfl, a3.2.2.2.1, show (3 : Int32) = nI 3 from rfl, e1, bind_s, M_readNew_J76, if_neg (BF_nz e3).2]
      exact ⟨h2, rfl, FMm_k C1 e2 e3⟩
    · refine ⟨fun _ => ?_, fun q => absurd ⟨z, tk⟩ q⟩
      rw [tkn.2 tk, bind_s, if_neg (by decide), M_readNew_J76, c0, if_pos (by decide), show (224 : Int32) + 8 * nI so + nI k = nI (224 + (8 * so + k)) by simp only [zlit, pk_mul, nI_add]; rw [show 224 + 8 * so + k = 224 + (8 * so + k) by omega], ml1222 C1.2.1, if_pos (inB_nI (by omega) (by omega)), letH_e, nI_clamp (by omega), wd_nm a3 z]
      have C2 := PM_n C1 (k := 8 * so + k) (v := lN (tW T n (tE T n p))) (by omega)
      obtain ⟨h3, b1, b2, b3, b4, _⟩ := TP_adv C2.2.2.1
      rw [b1, bind_s]
      exact ⟨h3, rfl, PM_k C2 b2 b3 (b4.trans C2.2.2.2.1)⟩
  · rw [if_neg z, if_neg z]
    refine ⟨fun q => absurd q.1 z, fun _ => ?_⟩
    obtain ⟨h2, e1, e2, e3⟩ := m_amiss a3 c0
    rw [e1, bind_s, M_readNew_J53, if_neg (BF_nz e3).1, M_readNew_J76, if_neg (BF_nz e3).2]
    exact ⟨h2, rfl, FMm_k C1 e2 e3⟩
/-- the reference has too many of a sort -/
theorem m_full (C : PM Y m n T h0 h p c w) (V : VC c) {so : Nat} (hso : so < 7) (e : cN c (manyI so) = mostOf so) : ∃ h', M_readNew Y m (nI so) (nI (mostOf so)) h = some (0, h') ∧ FMm Y m h0 h' 6 (tS T n p) := by
  have m8 : mostOf so ≤ 8 := by unfold mostOf; split <;> omega
  have ml := many_lt hso
  have mo : M_manyOf Y (nI so) h = some (nI (manyI so)) := by
    unfold M_manyOf manyI
    by_cases z : so < 5
    · rw [if_neg (show ¬ (5 : Int32) ≤ nI so from nI_ge (b := 5) z (by omega)), if_pos z]
    · rw [if_pos (show (5 : Int32) ≤ nI so from nI_le (a := 5) (by omega) (by omega)), if_neg z, nI_1]
  have ck : hAi h (hGr h 1220 m) (2304 + manyI so) = nI (mostOf so) := by rw [C.2.2.2.2.1 _ (by omega), (cnt8 V hso).1, e]
  obtain ⟨h2, e1, e2, e3⟩ := m_fail (Y := Y) C.2.2.2.1 (k := 6) (a := tS T n p) (by decide) (by decide)
  unfold M_readNew
  rw [mo, bind_s, show (2304 : Int32) + nI (manyI so) = nI (2304 + manyI so) from nI_add 2304 _, ml1220 C.2.1, if_pos (inB_nI (by omega) (by omega)), nI_clamp (by omega), ck, if_pos rfl, C.2.2.1.2.2.2.1, show (6 : Int32) = nI 6 from rfl, e1, bind_s, M_readNew_J29, if_neg (BF_nz e3).2]
  exact ⟨h2, rfl, FMm_k C e2 e3⟩
end NW
