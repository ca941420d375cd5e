/-! ===== one cell of the shelf that stands, changed in the class and in the reference ===== -/
theorem RC_fld {h : Hp} {s f0 o0 : Nat} {v : Int32} {c : Nat → Int32} (R : RC h s c) (h1 : f0 = 606 → hGr h 400 s ≠ o0) (h2 : f0 = 417 → s ≠ o0) (h3 : f0 = 606 ∨ f0 = 417) : RC (hSi h f0 o0 v) s c := by
  unfold RC at R ⊢
  simp only [gr_si]
  rw [gi_si, if_neg (by omega), gi_si, if_neg (by omega), gi_si, if_neg (by omega), gi_si, if_neg (by omega), gi_si, if_neg (by omega), gi_si, if_neg (by omega), gi_si, if_neg (by omega), gi_si, if_neg (by omega), gi_si, if_neg (fun z => h1 z.1.symm z.2), gi_si, if_neg (fun z => h2 z.1.symm z.2)]
  exact R
theorem sh0 (h : Hp) (x : Nat) : shA h x 0 = hGr h 1109 x := by unfold shA; rw [if_pos rfl]
theorem sC0 (g : Sg) (c : Nat → Int32) : sC (wC0 g c) 0 = c := by
  show (if 0 = 0 then c else sC g 0) = c
  rw [if_pos rfl]
theorem sCj (g : Sg) (c : Nat → Int32) {j : Nat} (hj : j ≠ 0) : sC (wC0 g c) j = sC g j := by
  show (if j = 0 then c else sC g j) = _
  rw [if_neg hj]
theorem VG_c0 {g : Sg} {c' : Nat → Int32} {k0 : Nat} (V : VG g) (hk : mayK k0) (hc : ∀ i, i ≠ k0 → c' i = sC g 0 i) (V' : VB c') : VG (wC0 g c') := by
  refine ⟨V.1, fun j hj => ?_, V.2.2⟩
  by_cases e : j = 0
  · subst e
    rw [sC0]
    exact ⟨V', VN_set hk hc (V.2.1 0 (Nat.zero_le _)).2⟩
  · rw [sCj g c' e]
    exact V.2.1 j hj
section CE
variable {Y : Ly} {h : Hp} {x m k0 : Nat} {kw : Nat → Int64} {g : Sg} {c' : Nat → Int32}
/-- a row of the shelf -/
theorem CR_arr (R : CR Y h x kw g) (V : VG g) (hk : mayK k0) (hc : ∀ i, i ≠ k0 → c' i = sC g 0 i) {f0 o0 : Nat} {g' : Nat → Int32} (hf : ((f0 = 600 ∨ f0 = 601) ∧ o0 = hGr h 400 (hGr h 1109 x)) ∨ (f0 = 410 ∧ o0 = hGr h 1109 x))
    (hR : RS (hWi h (hGr h f0 o0) g') (hGr h 1109 x) c') : CR Y (hWi h (hGr h f0 o0) g') x kw (wC0 g c') := by
  have hx := R.1.1
  have o40 := R.o4 (i := 0) (by decide)
  rw [sh0] at o40
  have o60 := R.2.1.1 400 6 rfl _ o40
  have of : cArr f0 = true ∧ isO Y (f0 / 100) o0 := by
    rcases hf with ⟨e1 | e1, e2⟩ | ⟨e1, e2⟩ <;> subst e1 <;> subst e2
    · exact ⟨rfl, o60⟩
    · exact ⟨rfl, o60⟩
    · exact ⟨rfl, o40⟩
  have ne : ∀ f o, cArr f = true → isO Y (f / 100) o → ¬ (f = f0 ∧ o = o0) → hAi (hWi h (hGr h f0 o0) g') (hGr h f o) = hAi h (hGr h f o) := by
    intro f o h1 h2 h3
    funext i
    rw [ai_wi, if_neg]
    intro z
    exact h3 (R.1.2.2.2.1 f f0 o o0 h1 of.1 h2 of.2 z)
  obtain ⟨r1, r2, ⟨s1, s2, s3⟩, t, p, l, sc, k⟩ := R
  have R : CR Y h x kw g := ⟨r1, r2, ⟨s1, s2, s3⟩, t, p, l, sc, k⟩
  have f0b : f0 = 600 ∨ f0 = 601 ∨ f0 = 410 := by
    rcases hf with ⟨e1 | e1, _⟩ | ⟨e1, _⟩
    · exact Or.inl e1
    · exact Or.inr (Or.inl e1)
    · exact Or.inr (Or.inr e1)
  refine ⟨CS_congr r1 (fun _ _ _ => rfl), r2, ⟨s1, s2, fun j hj => ?_⟩, t, ⟨p.1, fun i hi => ?_⟩, fun i hi => ?_, sc, k⟩
  · have hj4 : j < 5 := by have := V.1; have : j ≤ sK g := hj; omega
    have o4 := R.o4 hj4
    have o9 := R.o9 (show j < 6 by omega)
    have eRN : ∀ f, f = 404 ∨ f = 405 → hAi (hWi h (hGr h f0 o0) g') (hGr h f (shA h x j)) = hAi h (hGr h f (shA h x j)) := by
      intro f hf'
      rcases hf' with e | e <;> subst e
      · exact ne 404 _ rfl o4 (by omega)
      · exact ne 405 _ rfl o4 (by omega)
    have eRW : ∀ f, 900 ≤ f → f ≤ 904 → hAi (hWi h (hGr h f0 o0) g') (hGr h f (wkA h x j)) = hAi h (hGr h f (wkA h x j)) := by
      intro f h1 h2
      refine ne f _ ?_ (by rw [show f / 100 = 9 by omega]; exact o9) (by omega)
      rcases (show f = 900 ∨ f = 901 ∨ f = 902 ∨ f = 903 ∨ f = 904 by omega) with e | e | e | e | e <;> (subst e; rfl)
    have rw' : RW (hWi h (hGr h f0 o0) g') (wkA h x j) (sC g j) := RW_eq (s3 j hj).2.2 (fun _ _ _ => rfl) (fun f h1 h2 => eRW f h1 h2)
    by_cases e : j = 0
    · subst e
      rw [sC0]
      refine ⟨by show RS _ (shA h x 0) c'; rw [sh0]; exact hR, ?_, RW_set hk hc rw'⟩
      exact RN_set (h := h) hk hc (s3 0 hj).2.1 rfl (fun i => rfl) (fun i => congrFun (eRN 404 (Or.inl rfl)) i) (fun i => congrFun (eRN 405 (Or.inr rfl)) i)
    · rw [sCj g c' e]
      refine ⟨?_, RN_eq (s3 j hj).2.1 rfl (fun i => rfl) (fun i => congrFun (eRN 404 (Or.inl rfl)) i) (fun i => congrFun (eRN 405 (Or.inr rfl)) i), rw'⟩
      have nsh : shA h x j ≠ hGr h 1109 x := by
        rw [← sh0]
        exact fun z => e (s1 j 0 hj4 (by decide) z)
      have o6 := r2.1 400 6 rfl _ o4
      have o1 := r2.1 401 3 rfl _ o4
      have o2 := r2.1 402 3 rfl _ o4
      have nst : hGr h 400 (shA h x j) ≠ hGr h 400 (hGr h 1109 x) := fun z => nsh ((r1.2.2.2.2 _ _ o4 o40).1 z)
      have n6 : ∀ f, ¬ (f = f0 ∧ hGr h 400 (shA h x j) = o0) ∨ f < 600 := by
        intro f
        rcases hf with ⟨_, e2⟩ | ⟨e1, _⟩
        · exact Or.inl (fun z => nst (by rw [z.2, e2]))
        · by_cases hf6 : f < 600
          · exact Or.inr hf6
          · exact Or.inl (fun z => by omega)
      have n4 : ∀ f, f / 100 = 4 → ¬ (f = f0 ∧ shA h x j = o0) := by
        intro f h4 z
        rcases hf with ⟨e1, _⟩ | ⟨_, e2⟩
        · omega
        · exact nsh (by rw [z.2, e2])
      have s6 : ∀ f, 600 ≤ f → cArr f = true → f / 100 = 6 → ∀ i, hAi (hWi h (hGr h f0 o0) g') (hGr h f (hGr h 400 (shA h x j))) i = hAi h (hGr h f (hGr h 400 (shA h x j))) i := by
        intro f h1 h2 h3 i
        refine congrFun (ne f _ h2 (by rw [h3]; exact o6) ?_) i
        rcases n6 f with q | q
        · exact q
        · omega
      refine RS_same (h := h) (s := shA h x j) ⟨fun _ _ _ => rfl, fun _ _ _ => rfl, s6 600 (by decide) rfl rfl, s6 601 (by decide) rfl rfl, s6 602 (by decide) rfl rfl, s6 603 (by decide) rfl rfl, fun f i h1 h2 => ?_, fun f i h1 h2 => ?_⟩ (s3 j hj).1
      · refine congrFun (ne f _ ?_ (by rw [show f / 100 = 4 by omega]; exact o4) (n4 f (by omega))) i
        rcases (show f = 406 ∨ f = 407 ∨ f = 408 ∨ f = 409 ∨ f = 410 ∨ f = 411 ∨ f = 412 by omega) with e | e | e | e | e | e | e <;> (subst e; rfl)
      · rcases (show f = 300 ∨ f = 301 by omega) with e | e <;> subst e
        · exact ⟨congrFun (ne 300 _ rfl o1 (by omega)) i, congrFun (ne 300 _ rfl o2 (by omega)) i⟩
        · exact ⟨congrFun (ne 301 _ rfl o1 (by omega)) i, congrFun (ne 301 _ rfl o2 (by omega)) i⟩
  · have := congrFun (ne 700 _ rfl R.o7 (by omega)) i
    exact this.trans (p.2 i hi)
  · have := congrFun (ne 1108 _ rfl hx (by omega)) i
    exact this.trans (l i hi)
/-- a field of the shelf -/
theorem CR_fld (R : CR Y h x kw g) (V : VG g) (hk : mayK k0) (hc : ∀ i, i ≠ k0 → c' i = sC g 0 i) {f0 o0 : Nat} {v : Int32} (hf : (f0 = 606 ∧ o0 = hGr h 400 (hGr h 1109 x)) ∨ (f0 = 417 ∧ o0 = hGr h 1109 x))
    (hR : RS (hSi h f0 o0 v) (hGr h 1109 x) c') : CR Y (hSi h f0 o0 v) x kw (wC0 g c') := by
  have o40 := R.o4 (i := 0) (by decide)
  rw [sh0] at o40
  have f0b : f0 = 606 ∨ f0 = 417 := hf.elim (fun z => Or.inl z.1) (fun z => Or.inr z.1)
  have gi : ∀ f a, f ≠ 606 → f ≠ 417 → hGi (hSi h f0 o0 v) f a = hGi h f a := by
    intro f a h1 h2
    rw [gi_si, if_neg (by omega)]
  obtain ⟨r1, r2, ⟨s1, s2, s3⟩, t, p, l, sc, k⟩ := R
  have R : CR Y h x kw g := ⟨r1, r2, ⟨s1, s2, s3⟩, t, p, l, sc, k⟩
  refine ⟨CS_congr r1 (fun _ _ _ => rfl), Ty_si r2 (Or.inl (by rcases f0b with e | e <;> (subst e; rfl))), ⟨s1, s2, fun j hj => ?_⟩, ⟨t.1, fun z hz => ?_⟩, ⟨?_, p.2⟩, l, ?_, k⟩
  · have hj4 : j < 5 := by have := V.1; have : j ≤ sK g := hj; omega
    have o4 := R.o4 hj4
    have rw' : RW (hSi h f0 o0 v) (wkA h x j) (sC g j) := RW_eq (s3 j hj).2.2 (fun f h1 h2 => gi f _ (by omega) (by omega)) (fun _ _ _ => rfl)
    by_cases e : j = 0
    · subst e
      rw [sC0]
      refine ⟨by show RS _ (shA h x 0) c'; rw [sh0]; exact hR, ?_, RW_set hk hc rw'⟩
      exact RN_set (h := h) hk hc (s3 0 hj).2.1 (gi 414 _ (by decide) (by decide)) (fun i => rfl) (fun i => rfl) (fun i => rfl)
    · rw [sCj g c' e]
      have nsh : shA h x j ≠ hGr h 1109 x := by
        rw [← sh0]
        exact fun z => e (s1 j 0 hj4 (by decide) z)
      have nst : hGr h 400 (shA h x j) ≠ hGr h 400 (hGr h 1109 x) := fun z => nsh ((r1.2.2.2.2 _ _ o4 o40).1 z)
      refine ⟨⟨RC_fld (s3 j hj).1.1 (fun e1 => ?_) (fun e1 => ?_) f0b, (s3 j hj).1.2⟩, RN_eq (s3 j hj).2.1 (gi 414 _ (by decide) (by decide)) (fun i => rfl) (fun i => rfl) (fun i => rfl), rw'⟩
      · rcases hf with ⟨_, e2⟩ | ⟨e3, _⟩
        · rw [e2]; exact nst
        · omega
      · rcases hf with ⟨e3, _⟩ | ⟨_, e2⟩
        · omega
        · rw [e2]; exact nsh
  · have := t.2 z hz
    rw [show trA (hSi h f0 o0 v) x z = trA h x z from rfl, gi 801 _ (by decide) (by decide), gi 802 _ (by decide) (by decide), gi 803 _ (by decide) (by decide)]
    exact this
  · rw [gi 702 _ (by decide) (by decide)]; exact p.1
  · obtain ⟨c1, c2, c3, c4, c5, c6⟩ := sc
    exact ⟨by rw [gi 1112 _ (by decide) (by decide)]; exact c1, by rw [gi 1115 _ (by decide) (by decide)]; exact c2, by rw [gi 1116 _ (by decide) (by decide)]; exact c3, by rw [gi 1117 _ (by decide) (by decide)]; exact c4, c5, c6⟩
/-- a cell of the reference -/
theorem MR_cell (R : MR Y h m g) (hk : mayK k0) (hc : ∀ i, i ≠ k0 → c' i = sC g 0 i) : MR Y (hTi h (hGr h 1220 m) k0 (c' k0)) m (wC0 g c') := by
  have hk' := hk
  unfold mayK at hk'
  obtain ⟨r1, r2, b, t, p, l, sc⟩ := R
  have ne : ∀ f, mLen f ≠ 0 → f ≠ 1220 → ∀ i, hAi (hTi h (hGr h 1220 m) k0 (c' k0)) (hGr h f m) i = hAi h (hGr h f m) i := by
    intro f h1 h2 i
    rw [ai_ti, if_neg]
    intro z
    exact h2 (r1.2.2 f 1220 h1 (by decide) z.1)
  refine ⟨MS_congr r1 (fun _ => rfl), r2, fun j hj => ⟨fun i hi => ?_, fun i hi => (b j hj).2 i hi⟩, fun z hz => ?_, ⟨p.1, fun i hi => ?_⟩, ?_, sc⟩
  · have hb := (b j hj).1 i hi
    rw [gr_ti, ai_ti]
    by_cases e : j = 0
    · subst e
      rw [sC0]
      by_cases e2 : i = k0
      · subst e2
        rw [if_pos ⟨rfl, by omega⟩]
      · rw [if_neg (by omega), hc i e2]; exact hb
    · rw [sCj g c' e, if_neg (by omega)]; exact hb
  · refine ⟨(ne 1204 (by decide) (by decide) z).trans (t z hz).1, (ne 1205 (by decide) (by decide) z).trans (t z hz).2.1, (t z hz).2.2⟩
  · exact (ne 1207 (by decide) (by decide) i).trans (p.2 i hi)
  · rcases l with q | ⟨f, q1, q2, q3⟩
    · exact Or.inl q
    · exact Or.inr ⟨f, q1, q2, fun i hi => (ne 1234 (by decide) (by decide) i).trans (q3 i hi)⟩
end CE
