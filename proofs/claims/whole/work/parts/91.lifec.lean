/-! ===== weeks lived: the class, step by step ===== -/
def bmp (tl : Nat → Nat) (i : Nat) : Nat → Nat := fun j => if j = i then tl j + 1 else tl j
def QE (h : Hp) (x : Nat) (Q : Nat × Nat × Nat × Nat × (Nat → Int32) × Int32) : Prop := hGr h 1107 x = Q.1 ∧ hGr h 1109 x = Q.2.1 ∧ hGr h 413 (hGr h 1109 x) = Q.2.2.1 ∧ hGr h 1105 x = Q.2.2.2.1 ∧ hAi h (hGr h 203 (hGr h 1107 x)) = Q.2.2.2.2.1 ∧ hGi h 204 (hGr h 1107 x) = Q.2.2.2.2.2
theorem QE_er {h h' : Hp} {x : Nat} {Q : Nat × Nat × Nat × Nat × (Nat → Int32) × Int32} (er : ∀ f a, f ≠ 5 → hGr h' f a = hGr h f a) (e3 : hAi h' (hGr h 203 (hGr h 1107 x)) = hAi h (hGr h 203 (hGr h 1107 x))) (e4 : hGi h' 204 (hGr h 1107 x) = hGi h 204 (hGr h 1107 x)) (q : QE h x Q) : QE h' x Q := by
  unfold QE
  rw [er 1107 x (by decide), er 1109 x (by decide), er 413 _ (by decide), er 1105 x (by decide), er 203 _ (by decide), e3, e4]
  exact q
def LC (Y : Ly) (x : Nat) (kw : Nat → Int64) (g : Sg) (wd sg th nm pt : Nat → Int32) (R : Nat) (Q : Nat × Nat × Nat × Nat × (Nat → Int32) × Int32) (h : Hp) (c : Nat → Int32) (r : Nat) (tl : Nat → Nat) (dn : Nat) (ρ : Nat → Int32) : Prop :=
  CR Y h x kw (wC0 g c) ∧ (hAi h (hGr h 900 (hGr h 413 (hGr h 1109 x))) = wd ∧ hAi h (hGr h 901 (hGr h 413 (hGr h 1109 x))) = sg ∧ hAi h (hGr h 902 (hGr h 413 (hGr h 1109 x))) = th ∧ hAi h (hGr h 903 (hGr h 413 (hGr h 1109 x))) = nm ∧ hAi h (hGr h 904 (hGr h 413 (hGr h 1109 x))) = pt ∧ hGi h 906 (hGr h 413 (hGr h 1109 x)) = nI R) ∧
  hGi h 206 (hGr h 1107 x) = nI r ∧ hGi h 205 (hGr h 1107 x) = nI dn ∧ (∀ i, i < 5 → hAi h (hGr h 200 (hGr h 1107 x)) i = nI (tl i)) ∧ hAi h (hGr h 201 (hGr h 1107 x)) = ρ ∧
  (∀ b, b < cN c 2 → hAi h (hGr h 202 (hGr h 1107 x)) b = m1 ∨ hAi h (hGr h 202 (hGr h 1107 x)) b = nI (fitS c (cN c 9) b)) ∧ QE h x Q
section LCs
variable {Y : Ly} {x : Nat} {kw : Nat → Int64} {g : Sg} {wd sg th nm pt : Nat → Int32} {R : Nat} {Q : Nat × Nat × Nat × Nat × (Nat → Int32) × Int32} {h h' : Hp} {c : Nat → Int32} {r dn : Nat} {tl : Nat → Nat} {ρ : Nat → Int32}
theorem CR.ct0 {Y : Ly} {x : Nat} {kw : Nat → Int64} {g : Sg} {h : Hp} {c : Nat → Int32} (A : CR Y h x kw (wC0 g c)) (V : VG (wC0 g c)) : CT Y h x c := by
  have := A.ct V
  rwa [sC0] at this
theorem LC.o2 (A : LC Y x kw g wd sg th nm pt R Q h c r tl dn ρ) : isO Y 2 (hGr h 1107 x) := A.1.2.1.1 1107 2 rfl x A.1.1.1
theorem LC.o4 (A : LC Y x kw g wd sg th nm pt R Q h c r tl dn ρ) : isO Y 4 (hGr h 1109 x) := A.1.2.1.1 1109 4 rfl x A.1.1.1
theorem LC.o9 (A : LC Y x kw g wd sg th nm pt R Q h c r tl dn ρ) : isO Y 9 (hGr h 413 (hGr h 1109 x)) := A.1.2.1.1 413 9 rfl _ A.o4
theorem CR_Q {g' : Sg} (A : CR Y h x kw g') (V : VG g') (q : Qf Y 300 h h') : CR Y h' x kw g' := by
  have e : hGi h' 1112 x = sSt g' := (q.1 1112 x (by decide)).trans A.2.2.2.2.2.2.1.1
  have := CR_C A V (Cf_Q q)
  rw [e] at this
  exact this
theorem LC_Q {r' dn' : Nat} {tl' : Nat → Nat} {ρ' : Nat → Int32} (A : LC Y x kw g wd sg th nm pt R Q h c r tl dn ρ) (V : VG (wC0 g c)) (q : Qf Y 300 h h') (e6 : hGi h' 206 (hGr h 1107 x) = nI r') (e5 : hGi h' 205 (hGr h 1107 x) = nI dn')
    (e0 : ∀ i, i < 5 → hAi h' (hGr h 200 (hGr h 1107 x)) i = nI (tl' i)) (e1 : hAi h' (hGr h 201 (hGr h 1107 x)) = ρ') (e2 : ∀ b, b < cN c 2 → hAi h' (hGr h 202 (hGr h 1107 x)) b = m1 ∨ hAi h' (hGr h 202 (hGr h 1107 x)) b = nI (fitS c (cN c 9) b))
    (e3 : hAi h' (hGr h 203 (hGr h 1107 x)) = hAi h (hGr h 203 (hGr h 1107 x))) (e4 : hGi h' 204 (hGr h 1107 x) = hGi h 204 (hGr h 1107 x)) : LC Y x kw g wd sg th nm pt R Q h' c r' tl' dn' ρ' := by
  have er : ∀ f a, f ≠ 5 → hGr h' f a = hGr h f a := q.2.2.1
  have ai : ∀ f, 900 ≤ f → f ≤ 904 → hAi h' (hGr h f (hGr h 413 (hGr h 1109 x))) = hAi h (hGr h f (hGr h 413 (hGr h 1109 x))) := by
    intro f h1 h2
    funext i
    refine Qf_ai q A.1.1 (by omega) ?_ (by rw [show f / 100 = 9 by omega]; exact A.o9) i
    rcases (show f = 900 ∨ f = 901 ∨ f = 902 ∨ f = 903 ∨ f = 904 by omega) with e | e | e | e | e <;> (subst e; rfl)
  unfold LC
  rw [er 1109 x (by decide), er 413 _ (by decide), er 900 _ (by decide), er 901 _ (by decide), er 902 _ (by decide), er 903 _ (by decide), er 904 _ (by decide), er 1107 x (by decide), er 200 _ (by decide), er 201 _ (by decide), er 202 _ (by decide), ai 900 (by decide) (by decide), ai 901 (by decide) (by decide), ai 902 (by decide) (by decide), ai 903 (by decide) (by decide), ai 904 (by decide) (by decide), q.1 906 _ (by decide)]
  exact ⟨CR_Q A.1 V q, A.2.1, e6, e5, e0, e1, e2, QE_er er e3 e4 A.2.2.2.2.2.2.2⟩
/-- an array of Life, written -/
theorem LC_wne (A : LC Y x kw g wd sg th nm pt R Q h c r tl dn ρ) {f f' i : Nat} {v : Int32} (hf : f = 200 ∨ f = 201 ∨ f = 202) (hf' : f' = 200 ∨ f' = 201 ∨ f' = 202) (ne : f ≠ f') : hAi (hTi h (hGr h f (hGr h 1107 x)) i v) (hGr h f' (hGr h 1107 x)) = hAi h (hGr h f' (hGr h 1107 x)) := by
  have o2 := A.o2
  funext j
  rw [ai_ti, if_neg]
  intro z
  have c1 : cArr f = true := by rcases hf with e | e | e <;> (subst e; rfl)
  have c2 : cArr f' = true := by rcases hf' with e | e | e <;> (subst e; rfl)
  exact ne (A.1.1.2.2.2.1 f' f _ _ c2 c1 (by rw [show f' / 100 = 2 by omega]; exact o2) (by rw [show f / 100 = 2 by omega]; exact o2) z.1).1.symm
theorem LC_wn3 (A : LC Y x kw g wd sg th nm pt R Q h c r tl dn ρ) {f i : Nat} {v : Int32} (hf : f = 200 ∨ f = 201 ∨ f = 202) : hAi (hTi h (hGr h f (hGr h 1107 x)) i v) (hGr h 203 (hGr h 1107 x)) = hAi h (hGr h 203 (hGr h 1107 x)) := by
  have o2 := A.o2
  funext j
  rw [ai_ti, if_neg]
  intro z
  have c1 : cArr f = true := by rcases hf with e | e | e <;> (subst e; rfl)
  have := (A.1.1.2.2.2.1 203 f _ _ rfl c1 o2 (by rw [show f / 100 = 2 by omega]; exact o2) z.1).1
  omega
theorem LC_tal (A : LC Y x kw g wd sg th nm pt R Q h c r tl dn ρ) (V : VG (wC0 g c)) {i v : Nat} : LC Y x kw g wd sg th nm pt R Q (hTi h (hGr h 200 (hGr h 1107 x)) i (nI v)) c r (fun j => if j = i then v else tl j) dn ρ := by
  have q : Qf Y 300 h (hTi h (hGr h 200 (hGr h 1107 x)) i (nI v)) := by rw [ti_w]; exact Qf_wi (by decide) rfl A.o2
  refine LC_Q A V q A.2.2.1 A.2.2.2.1 (fun j hj => ?_) ?_ (fun b hb => ?_) (LC_wn3 A (Or.inl rfl)) rfl
  · rw [ai_ti]
    by_cases e : j = i
    · rw [if_pos ⟨rfl, e⟩, if_pos e]
    · rw [if_neg (fun z => e z.2), if_neg e]; exact A.2.2.2.2.1 j hj
  · rw [LC_wne A (Or.inl rfl) (Or.inr (Or.inl rfl)) (by decide)]; exact A.2.2.2.2.2.1
  · rw [LC_wne A (Or.inl rfl) (Or.inr (Or.inr rfl)) (by decide)]; exact A.2.2.2.2.2.2.1 b hb
theorem LC_bmp (A : LC Y x kw g wd sg th nm pt R Q h c r tl dn ρ) (V : VG (wC0 g c)) {i : Nat} : LC Y x kw g wd sg th nm pt R Q (hTi h (hGr h 200 (hGr h 1107 x)) i (nI (tl i + 1))) c r (bmp tl i) dn ρ := by
  have := LC_tal A V (i := i) (v := tl i + 1)
  have e : (fun j => if j = i then tl i + 1 else tl j) = bmp tl i := by
    funext j
    unfold bmp
    by_cases z : j = i
    · rw [if_pos z, if_pos z, z]
    · rw [if_neg z, if_neg z]
  rwa [e] at this
theorem LC_rho (A : LC Y x kw g wd sg th nm pt R Q h c r tl dn ρ) (V : VG (wC0 g c)) {i : Nat} {v : Int32} : LC Y x kw g wd sg th nm pt R Q (hTi h (hGr h 201 (hGr h 1107 x)) i v) c r tl dn (upd ρ i v) := by
  have q : Qf Y 300 h (hTi h (hGr h 201 (hGr h 1107 x)) i v) := by rw [ti_w]; exact Qf_wi (by decide) rfl A.o2
  refine LC_Q A V q A.2.2.1 A.2.2.2.1 (fun j hj => ?_) ?_ (fun b hb => ?_) (LC_wn3 A (Or.inr (Or.inl rfl))) rfl
  · rw [LC_wne A (Or.inr (Or.inl rfl)) (Or.inl rfl) (by decide)]; exact A.2.2.2.2.1 j hj
  · rw [ti_w]
    funext j
    rw [ai_wi, if_pos rfl, A.2.2.2.2.2.1]
  · rw [LC_wne A (Or.inr (Or.inl rfl)) (Or.inr (Or.inr rfl)) (by decide)]; exact A.2.2.2.2.2.2.1 b hb
theorem LC_dn (A : LC Y x kw g wd sg th nm pt R Q h c r tl dn ρ) (V : VG (wC0 g c)) {d : Nat} : LC Y x kw g wd sg th nm pt R Q (hSi h 205 (hGr h 1107 x) (nI d)) c r tl d ρ :=
  LC_Q A V (Qf_si (by decide)) (by rw [gi_si, if_neg (by omega)]; exact A.2.2.1) (by rw [gi_si, if_pos ⟨rfl, rfl⟩]) A.2.2.2.2.1 A.2.2.2.2.2.1 A.2.2.2.2.2.2.1 rfl (by rw [gi_si, if_neg (by omega)])
theorem LC_rn (A : LC Y x kw g wd sg th nm pt R Q h c r tl dn ρ) (V : VG (wC0 g c)) {d : Nat} : LC Y x kw g wd sg th nm pt R Q (hSi h 206 (hGr h 1107 x) (nI d)) c d tl dn ρ :=
  LC_Q A V (Qf_si (by decide)) (by rw [gi_si, if_pos ⟨rfl, rfl⟩]) (by rw [gi_si, if_neg (by omega)]; exact A.2.2.2.1) A.2.2.2.2.1 A.2.2.2.2.2.1 A.2.2.2.2.2.2.1 rfl (by rw [gi_si, if_neg (by omega)])
/-- a book bound or loosed -/
theorem VG_bd {b : Nat} {w : Int32} (V : VG (wC0 g c)) (hb : b < cN c 2) (hw : w = m1 ∨ ∃ f, f < cN c 3 ∧ w = nI f) : VG (wC0 g (upd c (100 + b) w)) := by
  have Vb : VB c := by have := (V.2.1 0 (Nat.zero_le _)).1; rwa [sC0] at this
  have l2 := VC_l2 Vb
  have := VG_c0 (g := wC0 g c) (k0 := 100 + b) (c' := upd c (100 + b) w) V (by unfold mayK; omega) (fun i hi => by rw [sC0]; exact updh i hi) (VB_bd Vb hb hw)
  rwa [wC0_wC0] at this
theorem LC_bd (A : LC Y x kw g wd sg th nm pt R Q h c r tl dn ρ) (V : VG (wC0 g c)) {b : Nat} {w : Int32} (hb : b < cN c 2) : LC Y x kw g wd sg th nm pt R Q (hTi h (hGr h 410 (hGr h 1109 x)) b w) (upd c (100 + b) w) r tl dn ρ := by
  have X := A.1.ct0 V
  have Vb := X.2.2.2.2
  have l2 := VC_l2 Vb
  obtain ⟨rs, hk⟩ := RS_arr (f0 := 410) (o0 := hGr h 1109 x) (i0 := b) (k0 := 100 + b) (c' := upd c (100 + b) w) X updh (Or.inr (Or.inr ⟨rfl, rfl, rfl, by omega⟩))
  have C := CR_arr (g := wC0 g c) (k0 := 100 + b) (c' := upd c (100 + b) w) A.1 V hk (fun i hi => by rw [sC0]; exact updh i hi) (Or.inr ⟨rfl, rfl⟩) rs
  rw [wC0_wC0, pk_us, ← ti_w] at C
  have ne : ∀ f o, cArr f = true → isO Y (f / 100) o → f ≠ 410 → hAi (hTi h (hGr h 410 (hGr h 1109 x)) b w) (hGr h f o) = hAi h (hGr h f o) := by
    intro f o h1 h2 h3
    funext j
    rw [ai_ti, if_neg]
    intro z
    exact h3 (A.1.1.2.2.2.1 f 410 o _ h1 rfl h2 A.o4 z.1).1
  have o9 := A.o9
  have o2 := A.o2
  have AG : agr c (upd c (100 + b) w) := agr_upd (Or.inr ⟨by omega, by omega⟩)
  refine ⟨C, ⟨(ne 900 _ rfl o9 (by decide)).trans A.2.1.1, (ne 901 _ rfl o9 (by decide)).trans A.2.1.2.1, (ne 902 _ rfl o9 (by decide)).trans A.2.1.2.2.1, (ne 903 _ rfl o9 (by decide)).trans A.2.1.2.2.2.1, (ne 904 _ rfl o9 (by decide)).trans A.2.1.2.2.2.2.1, A.2.1.2.2.2.2.2⟩, A.2.2.1, A.2.2.2.1, fun i hi => ?_, (ne 201 _ rfl o2 (by decide)).trans A.2.2.2.2.2.1, fun b' hb' => ?_, QE_er (h := h) (fun _ _ _ => rfl) (ne 203 _ rfl o2 (by decide)) rfl A.2.2.2.2.2.2.2⟩
  · rw [gr_ti, gr_ti, ne 200 _ rfl o2 (by decide)]; exact A.2.2.2.2.1 i hi
  · rw [AG.n (by omega) (by omega)] at hb'
    rw [gr_ti, gr_ti, ne 202 _ rfl o2 (by decide), show cN (upd c (100 + b) w) 9 = cN c 9 by unfold cN; rw [pk_un (by omega)], fitS_agr AG Vb hb']
    exact A.2.2.2.2.2.2.1 b' hb'
theorem C_findFit (A : LC Y x kw g wd sg th nm pt R Q h c r tl dn ρ) (V : VG (wC0 g c)) {b : Nat} (hb : b < cN c 2) : ∃ h', Li_findFit Y (hGr h 1107 x) (hGr h 1109 x) (hGr h 1105 x) (nI b) h = some h' ∧ LC Y x kw g wd sg th nm pt R Q h' c r tl dn ρ ∧
    (∀ f a, f ≠ 5 → hGr h' f a = hGr h f a) ∧ hAi h' (hGr h 202 (hGr h 1107 x)) b = nI (fitS c (cN c 9) b) := by
  have X := A.1.ct0 V
  have Vb := X.2.2.2.2
  have l2 := VC_l2 Vb
  have o2 := A.o2
  have fl := fitS_lt Vb (cN c 9) b
  unfold Li_findFit
  rw [Sh_hasBook_s X.2.2.2.1 Vb, bind_s, isAt_nI hb (by omega), if_pos rfl, cl202 A.1.1 o2, if_pos (inB_nI (by omega) (by omega)), nI_clamp (by omega)]
  rcases A.2.2.2.2.2.2.1 b hb with e | e
  · rw [if_pos (show hAi h (hGr h 202 (hGr h 1107 x)) b = -1 from e)]
    obtain ⟨h1, e1, q1⟩ := En_fittingFinales_s X X.e hb
    rw [e1, bind_s, if_pos (inB_nI (by omega) (by omega)), letH_e]
    have q3 := Qf_mono (m := 300) q1 (by decide)
    have A1 : LC Y x kw g wd sg th nm pt R Q h1 c r tl dn ρ := LC_Q A V q3 (by rw [q1.1 206 _ (by decide)]; exact A.2.2.1) (by rw [q1.1 205 _ (by decide)]; exact A.2.2.2.1) (fun i hi => by rw [Qf_ai q1 A.1.1 (by decide) rfl o2]; exact A.2.2.2.2.1 i hi) (by funext i; rw [Qf_ai q1 A.1.1 (by decide) rfl o2, A.2.2.2.2.2.1]) (fun b' hb' => by rw [Qf_ai q1 A.1.1 (by decide) rfl o2]; exact A.2.2.2.2.2.2.1 b' hb') (by funext i; rw [Qf_ai q1 A.1.1 (by decide) rfl o2]) (q1.1 204 _ (by decide))
    have r1 : hGr h1 202 (hGr h1 1107 x) = hGr h 202 (hGr h 1107 x) := by rw [q1.2.2.1 1107 x (by decide), q1.2.2.1 202 _ (by decide)]
    have r2 : hGr h1 1107 x = hGr h 1107 x := q1.2.2.1 1107 x (by decide)
    rw [← r1]
    have q4 : Qf Y 300 h1 (hTi h1 (hGr h1 202 (hGr h1 1107 x)) b (nI (fitS c (cN c 9) b))) := by rw [ti_w]; exact Qf_wi (by decide) rfl A1.o2
    refine ⟨_, rfl, LC_Q A1 V q4 A1.2.2.1 A1.2.2.2.1 (fun i hi => ?_) ?_ (fun b' hb' => ?_) (LC_wn3 A1 (Or.inr (Or.inr rfl))) rfl, fun f a hf => q1.2.2.1 f a hf, ?_⟩
    · rw [LC_wne A1 (Or.inr (Or.inr rfl)) (Or.inl rfl) (by decide)]; exact A1.2.2.2.2.1 i hi
    · rw [LC_wne A1 (Or.inr (Or.inr rfl)) (Or.inr (Or.inl rfl)) (by decide)]; exact A1.2.2.2.2.2.1
    · rw [ai_ti]
      by_cases z : b' = b
      · rw [if_pos ⟨rfl, z⟩, z]; exact Or.inr rfl
      · rw [if_neg (fun w => z w.2)]; exact A1.2.2.2.2.2.2.1 b' hb'
    · rw [ai_ti, if_pos ⟨rfl, rfl⟩]
  · rw [if_neg (show ¬ hAi h (hGr h 202 (hGr h 1107 x)) b = -1 by rw [e, zm1, ne_m1 (by omega)]; exact fun z => z)]
    exact ⟨h, rfl, A, fun _ _ _ => rfl, e⟩
/-- one bound: does it count -/
def bindB (c : Nat → Int32) (b f : Nat) : Bool := decide (c (100 + b) = m1) && (!(bfS c (cN c 2)).testBit f && (fitS c (cN c 9) b).testBit f)
theorem C_bindOne (A : LC Y x kw g wd sg th nm pt R Q h c r tl dn ρ) (V : VG (wC0 g c)) {b f : Nat} (hb : b < cN c 2) (hf : f < cN c 3) (ef : hAi h (hGr h 202 (hGr h 1107 x)) b = nI (fitS c (cN c 9) b)) :
    ∃ h', Li_bindOne Y (hGr h 1107 x) (hGr h 1109 x) (nI b) (nI f) h = some h' ∧ (if bindB c b f = true then LC Y x kw g wd sg th nm pt R Q h' (upd c (100 + b) (nI f)) r (bmp tl 1) dn ρ else LC Y x kw g wd sg th nm pt R Q h' c r (bmp tl 0) dn ρ) := by
  have X := A.1.ct0 V
  have Vb := X.2.2.2.2
  have l2 := VC_l2 Vb
  have l3 := VC_l3 Vb
  have o2 := A.o2
  have o4 := A.o4
  have fl := fitS_lt Vb (cN c 9) b
  have i0 : inB 0 5 = true := by decide
  have i1 : inB 1 5 = true := by decide
  unfold Li_bindOne
  rw [Sh_hasBook_s X.2.2.2.1 Vb, bind_s, isAt_nI hb (by omega), if_pos rfl, cl202 A.1.1 o2, if_pos (inB_nI (by omega) (by omega)), nI_clamp (by omega), ef, Sh_canTake_s X hb (by omega) (by omega), bind_s]
  by_cases z : bindB c b f = true
  · rw [if_pos (show (decide (c (100 + b) = m1) && (!(bfS c (cN c 2)).testBit f && (fitS c (cN c 9) b).testBit f)) = true from z), cl410 A.1.1 o4, if_pos (inB_nI (by omega) (by omega)), letH_e, gr_ti, cl200 A.1.1 o2, if_pos i1, if_pos i1, letH_e]
    have A1 := LC_bd A V (w := nI f) hb
    have V1 := VG_bd (w := nI f) V hb (Or.inr ⟨f, hf, rfl⟩)
    have A2 := LC_bmp A1 V1 (i := 1)
    refine ⟨_, rfl, ?_⟩
    rw [if_pos z]
    have e1 := A1.2.2.2.2.1 1 (by decide)
    rw [show Int32.toNatClampNeg 1 = 1 from rfl]
    rw [gr_ti, gr_ti] at A2 e1
    rw [e1, nI_1]
    exact A2
  · rw [if_neg (show ¬ (decide (c (100 + b) = m1) && (!(bfS c (cN c 2)).testBit f && (fitS c (cN c 9) b).testBit f)) = true from z), cl200 A.1.1 o2, if_pos i0, if_pos i0, letH_e]
    have A2 := LC_bmp A V (i := 0)
    refine ⟨_, rfl, ?_⟩
    rw [if_neg z]
    have e0 := A.2.2.2.2.1 0 (by decide)
    rw [show Int32.toNatClampNeg 0 = 0 from rfl, e0, nI_1]
    exact A2
theorem C_looseOne (A : LC Y x kw g wd sg th nm pt R Q h c r tl dn ρ) (V : VG (wC0 g c)) {b : Nat} (hb : b < cN c 2) :
    ∃ h', Li_looseOne Y (hGr h 1107 x) (hGr h 1109 x) (nI b) h = some h' ∧ (if c (100 + b) = m1 then LC Y x kw g wd sg th nm pt R Q h' c r (bmp tl 0) dn ρ else LC Y x kw g wd sg th nm pt R Q h' (upd c (100 + b) m1) r (bmp tl 2) dn ρ) := by
  have X := A.1.ct0 V
  have Vb := X.2.2.2.2
  have l2 := VC_l2 Vb
  have o2 := A.o2
  have o4 := A.o4
  have i0 : inB 0 5 = true := by decide
  have i2 : inB 2 5 = true := by decide
  unfold Li_looseOne
  rw [Sh_hasBook_s X.2.2.2.1 Vb, bind_s, isAt_nI hb (by omega), if_pos rfl, cl410 A.1.1 o4, if_pos (inB_nI (by omega) (by omega)), nI_clamp (by omega), (X.2.2.2.1.2.2.1 b hb).2.2.2.1]
  by_cases z : c (100 + b) = m1
  · rw [if_pos (show c (100 + b) = -1 from z), cl200 A.1.1 o2, if_pos i0, if_pos i0, letH_e]
    have A2 := LC_bmp A V (i := 0)
    refine ⟨_, rfl, ?_⟩
    rw [if_pos z]
    have e0 := A.2.2.2.2.1 0 (by decide)
    rw [show Int32.toNatClampNeg 0 = 0 from rfl, e0, nI_1]
    exact A2
  · rw [if_neg (show ¬ c (100 + b) = -1 from z), if_pos (inB_nI (by omega) (by omega)), letH_e, gr_ti, cl200 A.1.1 o2, if_pos i2, if_pos i2, letH_e]
    have A1 := LC_bd A V (w := m1) hb
    have V1 := VG_bd (w := m1) V hb (Or.inl rfl)
    have A2 := LC_bmp A1 V1 (i := 2)
    refine ⟨_, rfl, ?_⟩
    rw [if_neg z]
    have e2 := A1.2.2.2.2.1 2 (by decide)
    rw [show Int32.toNatClampNeg 2 = 2 from rfl]
    rw [gr_ti, gr_ti] at A2 e2
    rw [show (-1 : Int32) = m1 from rfl, e2, nI_1]
    exact A2
end LCs
