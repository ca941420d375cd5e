/-! ===== mark ===== -/
section MK
variable {Y : Ly} {x s d : Nat} {h : Hp} {c : Nat → Int32} {w : Nat → Int64}
theorem Kf_ah {hA hB : Hp} {o o' f : Nat} (K : Kf Y o hA hB) (S : CS Y h x) (er : ∀ f a, hGr hA f a = hGr h f a) (ne : o' ≠ o) (hf : cArr f = true) (ho : isO Y (f / 100) o') : hAi hB (hGr h f o') = hAi hA (hGr h f o') ∧ hAl hB (hGr h f o') = hAl hA (hGr h f o') := by
  have := Kf_ai K (CS_congr S (fun f a _ => er f a)) ne hf ho
  rw [er] at this
  exact this
theorem Sh_copyFrom_s (S : CS Y h x) (T : Ty Y h) (hd : isO Y 4 d) (hs : isO Y 4 s) (ne : s ≠ d) (nw : hGr h 413 s ≠ hGr h 413 d) (V : VB c) (R : RS h s c) (N : RN h s c w) (W : RW h (hGr h 413 s) c) :
    ∃ h', Sh_copyFrom Y d s h = some h' ∧ Kg Y (shP h d) h h' ∧ RS h' d c ∧ RN h' d c w ∧ RW h' (hGr h 413 d) c := by
  have s6 := T.1 400 6 rfl s hs
  have s1 := T.1 401 3 rfl s hs
  have s2 := T.1 402 3 rfl s hs
  have s9 := T.1 413 9 rfl s hs
  have d6 := T.1 400 6 rfl d hd
  have d1 := T.1 401 3 rfl d hd
  have d2 := T.1 402 3 rfl d hd
  have d9 := T.1 413 9 rfl d hd
  have q := S.2.2.2.2 s d hs hd
  have q' := S.2.2.2.2 d s hd hs
  have qd := S.2.2.2.2 d d hd hd
  have n6 : hGr h 400 s ≠ hGr h 400 d := fun e => ne (q.1 e)
  have n1 : hGr h 401 s ≠ hGr h 401 d := fun e => ne (q.2.1 e)
  have n2 : hGr h 402 s ≠ hGr h 402 d := fun e => ne (q.2.2.1 e)
  have n12 : hGr h 401 s ≠ hGr h 402 d := q.2.2.2
  have n21 : hGr h 402 s ≠ hGr h 401 d := fun e => q'.2.2.2 e.symm
  have m12 : hGr h 401 d ≠ hGr h 402 d := qd.2.2.2
  have l6 : cN c 6 < 7 := V.1.2.2.2.2.2.2.1.2
  have l7 : cN c 7 < 9 := V.1.2.2.2.2.2.2.2.2
  have e6 : c 6 = nI (cN c 6) := V.1.2.2.2.2.2.2.1.1
  have e7 : c 7 = nI (cN c 7) := V.1.2.2.2.2.2.2.2.1
  have r6 : hGi h 302 (hGr h 401 s) = nI (cN c 6) := R.1.2.2.2.2.2.2.1.trans e6
  have r7 : hGi h 302 (hGr h 402 s) = nI (cN c 7) := R.1.2.2.2.2.2.2.2.1.trans e7
  obtain ⟨h1, E1, K1, f1, a10, a11, a12, a13⟩ := St_copyFrom_s S d6 s6 n6
  have g1 : ∀ f a, hGr h1 f a = hGr h f a := K1.2.2.1
  have S1 := Kf_cs K1 S
  obtain ⟨h2, E2, K2, f2, a2⟩ := Lo_copyFrom_s (h := h1) (L := 6) (N := cN c 6) S1 d1 s1 n1 (by omega) (by omega) (by rw [g1]; exact (S.2.2.1 s hs).1.1) (by rw [g1]; exact (S.2.2.1 s hs).1.2) (by rw [g1]; exact (S.2.2.1 d hd).1.1) (by rw [g1]; exact (S.2.2.1 d hd).1.2) (by rw [K1.1 302 _ (isO_ne s1 d6 (by decide))]; exact r6)
  have g2 : ∀ f a, hGr h2 f a = hGr h f a := fun f a => (K2.2.2.1 f a).trans (g1 f a)
  have S2 := Kf_cs K2 S1
  obtain ⟨h3, E3, K3, f3, a3⟩ := Lo_copyFrom_s (h := h2) (L := 8) (N := cN c 7) S2 d2 s2 n2 (by omega) (by omega) (by rw [g2]; exact (S.2.2.1 s hs).2.1) (by rw [g2]; exact (S.2.2.1 s hs).2.2) (by rw [g2]; exact (S.2.2.1 d hd).2.1) (by rw [g2]; exact (S.2.2.1 d hd).2.2) (by rw [K2.1 302 _ n21, K1.1 302 _ (isO_ne s2 d6 (by decide))]; exact r7)
  have g3 : ∀ f a, hGr h3 f a = hGr h f a := fun f a => (K3.2.2.1 f a).trans (g2 f a)
  have S3 := Kf_cs K3 S2
  have T3 : Ty Y h3 := K3.2.2.2.2.2 (K2.2.2.2.2.2 (K1.2.2.2.2.2 T))
  obtain ⟨h4, E4, K4, f4, a4⟩ := We_copyFrom_s (h := h3) S3 T3 d9 s9 nw
  have g4 : ∀ f a, hGr h4 f a = hGr h f a := fun f a => (K4.2.2.1 f a).trans (g3 f a)
  have S4 := Kf_cs K4 S3
  obtain ⟨h5, E5, K5, f5, a50, a51, a52, a53⟩ := Sh_own_s (h := h4) S4 hd hs ne
  have g5 : ∀ f a, hGr h5 f a = hGr h f a := fun f a => (K5.2.2.1 f a).trans (g4 f a)
  have kg : Kg Y (shP h d) h h5 := Kg_tr (Kg_tr (Kg_tr (Kg_tr (Kg_of K1 (Or.inr (Or.inl rfl))) (Kg_of K2 (Or.inr (Or.inr (Or.inl rfl))))) (Kg_of K3 (Or.inr (Or.inr (Or.inr (Or.inl rfl)))))) (Kg_of K4 (Or.inr (Or.inr (Or.inr (Or.inr rfl)))))) (Kg_of K5 (Or.inl rfl))
  -- what later copies leave
  have o1 : ∀ f o, o ≠ hGr h 401 d → o ≠ hGr h 402 d → o ≠ hGr h 413 d → o ≠ d → hGi h5 f o = hGi h1 f o := fun f o p1 p2 p3 p4 => (K5.1 f o p4).trans ((K4.1 f o p3).trans ((K3.1 f o p2).trans (K2.1 f o p1)))
  have b1 : ∀ f o, cArr f = true → isO Y (f / 100) o → o ≠ hGr h 401 d → o ≠ hGr h 402 d → o ≠ hGr h 413 d → o ≠ d → hAi h5 (hGr h f o) = hAi h1 (hGr h f o) := fun f o hf ho p1 p2 p3 p4 => (Kf_ah K5 S g4 p4 hf ho).1.trans ((Kf_ah K4 S g3 p3 hf ho).1.trans ((Kf_ah K3 S g2 p2 hf ho).1.trans (Kf_ah K2 S g1 p1 hf ho).1))
  have bs : ∀ f o, cArr f = true → isO Y (f / 100) o → o ≠ hGr h 400 d → o ≠ hGr h 401 d → o ≠ hGr h 402 d → o ≠ hGr h 413 d → hAi h4 (hGr h f o) = hAi h (hGr h f o) ∧ hAl h4 (hGr h f o) = hAl h (hGr h f o) := fun f o hf ho p0 p1 p2 p3 => ⟨(Kf_ah K4 S g3 p3 hf ho).1.trans ((Kf_ah K3 S g2 p2 hf ho).1.trans ((Kf_ah K2 S g1 p1 hf ho).1.trans (Kf_ai K1 S p0 hf ho).1)), (Kf_ah K4 S g3 p3 hf ho).2.trans ((Kf_ah K3 S g2 p2 hf ho).2.trans ((Kf_ah K2 S g1 p1 hf ho).2.trans (Kf_ai K1 S p0 hf ho).2))⟩
  have is4 : ∀ f, hGi h4 f s = hGi h f s := fun f => (K4.1 f s (isO_ne hs d9 (by decide))).trans ((K3.1 f s (isO_ne hs d2 (by decide))).trans ((K2.1 f s (isO_ne hs d1 (by decide))).trans (K1.1 f s (isO_ne hs d6 (by decide)))))
  have cf3 : ∀ f, 300 ≤ f → f ≤ 301 → cArr f = true := by
    intro f h1 h2
    rcases (show f = 300 ∨ f = 301 by omega) with e | e <;> (subst e; rfl)
  have cf4 : ∀ f, 403 ≤ f → f ≤ 412 → cArr f = true := by
    intro f h1 h2
    rcases (show f = 403 ∨ f = 404 ∨ f = 405 ∨ f = 406 ∨ f = 407 ∨ f = 408 ∨ f = 409 ∨ f = 410 ∨ f = 411 ∨ f = 412 by omega) with e | e | e | e | e | e | e | e | e | e <;> (subst e; rfl)
  have cf9 : ∀ f, 900 ≤ f → f ≤ 904 → cArr f = true := by
    intro f h1 h2
    rcases (show f = 900 ∨ f = 901 ∨ f = 902 ∨ f = 903 ∨ f = 904 by omega) with e | e | e | e | e <;> (subst e; rfl)
  refine ⟨h5, ?_, kg, RS_ag V R ?_ ?_ ?_ ?_ ?_ ?_ ?_ ?_, RN_ag V.1 N ?_ ?_ ?_ ?_, RW_ag W ?_ ?_⟩
  · unfold Sh_copyFrom
    rw [E1, bind_s, g1 401, g1 401, E2, bind_s, g2 402, g2 402, E3, bind_s, g3 413, g3 413, E4, bind_s]
    exact E5
  · intro f p1 p2
    rw [g5 400 d, o1 f _ (isO_ne d6 d1 (by decide)) (isO_ne d6 d2 (by decide)) (isO_ne d6 d9 (by decide)) (isO_ne d6 hd (by decide))]
    exact f1 f p1 p2
  · intro f p1 p2
    rw [f5 f (by omega) p2, is4]
  · rw [g5 401 d, K5.1 302 _ (isO_ne d1 hd (by decide)), K4.1 302 _ (isO_ne d1 d9 (by decide)), K3.1 302 _ m12, f2, r6]
  · rw [g5 402 d, K5.1 302 _ (isO_ne d2 hd (by decide)), K4.1 302 _ (isO_ne d2 d9 (by decide)), f3, r7]
  · intro f i p1 p2 hi
    have cf : cArr f = true := by
      rcases (show f = 600 ∨ f = 601 ∨ f = 602 ∨ f = 603 by omega) with e | e | e | e <;> (subst e; rfl)
    rw [g5 400 d, g5 f, b1 f _ cf (by rw [show f / 100 = 6 by omega]; exact d6) (isO_ne d6 d1 (by decide)) (isO_ne d6 d2 (by decide)) (isO_ne d6 d9 (by decide)) (isO_ne d6 hd (by decide))]
    rcases (show f = 600 ∨ f = 601 ∨ f = 602 ∨ f = 603 by omega) with e | e | e | e <;> subst e
    · exact a10 i hi
    · exact a11 i hi
    · exact a12 i hi
    · exact a13 i hi
  · intro f i p1 p2 hi
    have o4 : isO Y (f / 100) s := by rw [show f / 100 = 4 by omega]; exact hs
    have := a53 f i p1 p2 hi
    rw [g4, g4] at this
    rw [g5, this, (bs f s (cf4 f (by omega) p2) o4 (isO_ne hs d6 (by decide)) (isO_ne hs d1 (by decide)) (isO_ne hs d2 (by decide)) (isO_ne hs d9 (by decide))).1]
  · intro f i p1 p2 hi
    have o3 : ∀ o, isO Y 3 o → isO Y (f / 100) o := fun o ho => by rw [show f / 100 = 3 by omega]; exact ho
    have := a2 f i p1 p2 hi
    rw [g1, g1] at this
    rw [g5 401 d, g5 f, (Kf_ah K5 S g4 (isO_ne d1 hd (by decide)) (cf3 f p1 p2) (o3 _ d1)).1, (Kf_ah K4 S g3 (isO_ne d1 d9 (by decide)) (cf3 f p1 p2) (o3 _ d1)).1, (Kf_ah K3 S g2 m12 (cf3 f p1 p2) (o3 _ d1)).1, this, (Kf_ai K1 S (isO_ne s1 d6 (by decide)) (cf3 f p1 p2) (o3 _ s1)).1]
  · intro f i p1 p2 hi
    have o3 : ∀ o, isO Y 3 o → isO Y (f / 100) o := fun o ho => by rw [show f / 100 = 3 by omega]; exact ho
    have := a3 f i p1 p2 hi
    rw [g2, g2] at this
    rw [g5 402 d, g5 f, (Kf_ah K5 S g4 (isO_ne d2 hd (by decide)) (cf3 f p1 p2) (o3 _ d2)).1, (Kf_ah K4 S g3 (isO_ne d2 d9 (by decide)) (cf3 f p1 p2) (o3 _ d2)).1, this, (Kf_ah K2 S g1 n21 (cf3 f p1 p2) (o3 _ s2)).1, (Kf_ai K1 S (isO_ne s2 d6 (by decide)) (cf3 f p1 p2) (o3 _ s2)).1]
  · rw [f5 414 (by decide) (by decide), is4]
  · intro i hi
    have := a50 i hi
    rw [g4, g4] at this
    rw [g5, this, (bs 403 s rfl hs (isO_ne hs d6 (by decide)) (isO_ne hs d1 (by decide)) (isO_ne hs d2 (by decide)) (isO_ne hs d9 (by decide))).2]
  · intro i hi
    have := a51 i hi
    rw [g4, g4] at this
    rw [g5, this, (bs 404 s rfl hs (isO_ne hs d6 (by decide)) (isO_ne hs d1 (by decide)) (isO_ne hs d2 (by decide)) (isO_ne hs d9 (by decide))).1]
  · intro i hi
    have := a52 i hi
    rw [g4, g4] at this
    rw [g5, this, (bs 405 s rfl hs (isO_ne hs d6 (by decide)) (isO_ne hs d1 (by decide)) (isO_ne hs d2 (by decide)) (isO_ne hs d9 (by decide))).1]
  · intro f p1 p2
    rw [K5.1 f _ (isO_ne d9 hd (by decide)), f4 f p1 p2, K3.1 f _ (isO_ne s9 d2 (by decide)), K2.1 f _ (isO_ne s9 d1 (by decide)), K1.1 f _ (isO_ne s9 d6 (by decide))]
  · intro f i p1 p2 hi
    have o9 : ∀ o, isO Y 9 o → isO Y (f / 100) o := fun o ho => by rw [show f / 100 = 9 by omega]; exact ho
    have := a4 f i p1 p2 hi
    rw [g3, g3] at this
    rw [g5 f, (Kf_ah K5 S g4 (isO_ne d9 hd (by decide)) (cf9 f p1 p2) (o9 _ d9)).1, this, (Kf_ah K3 S g2 (isO_ne s9 d2 (by decide)) (cf9 f p1 p2) (o9 _ s9)).1, (Kf_ah K2 S g1 (isO_ne s9 d1 (by decide)) (cf9 f p1 p2) (o9 _ s9)).1, (Kf_ai K1 S (isO_ne s9 d6 (by decide)) (cf9 f p1 p2) (o9 _ s9)).1]
end MK
section MKJ
variable {Yc Ym : Ly} {hc hm : Hp} {x m : Nat} {kw : Nat → Int64} {g : Sg}
theorem CR_mk (R : CR Yc hc x kw g) (V : VG g) (hk : sK g < 3) {h' : Hp} (K : Kg Yc (shP hc (shA hc x (sK g + 1))) hc h') (p1 : RS h' (shA hc x (sK g + 1)) (sC g 0)) (p2 : RN h' (shA hc x (sK g + 1)) (sC g 0) (sW g 0)) (p3 : RW h' (hGr hc 413 (shA hc x (sK g + 1))) (sC g 0)) :
    CR Yc (hSi h' 1117 x (nI (sK g + 1))) x kw (wMk g) := by
  have hx := R.1.1
  have od := R.o4 (i := sK g + 1) (by omega)
  have gr : ∀ f a, hGr (hSi h' 1117 x (nI (sK g + 1))) f a = hGr hc f a := K.2.2.1
  have ar : ∀ A i, hAr (hSi h' 1117 x (nI (sK g + 1))) A i = hAr hc A i := K.2.2.2.1
  have sh : ∀ i, shA (hSi h' 1117 x (nI (sK g + 1))) x i = shA hc x i := by
    intro i; unfold shA; rw [gr, gr, gr, ar]
  have wk : ∀ i, wkA (hSi h' 1117 x (nI (sK g + 1))) x i = wkA hc x i := by
    intro i; unfold wkA; rw [gr, sh, gr]
  have tr : ∀ t, trA (hSi h' 1117 x (nI (sK g + 1))) x t = trA hc x t := by
    intro t; unfold trA; rw [gr, ar]
  have kd : ∀ k a, isO Yc k a → k ≠ 3 → k ≠ 4 → k ≠ 6 → k ≠ 9 → ¬ shP hc (shA hc x (sK g + 1)) a := by
    intro k a ha k3 k4 k6 k9
    have T := R.2.1
    rintro (e | e | e | e | e)
    · exact isO_ne ha od k4 e
    · exact isO_ne ha (T.1 400 6 rfl _ od) k6 e
    · exact isO_ne ha (T.1 401 3 rfl _ od) k3 e
    · exact isO_ne ha (T.1 402 3 rfl _ od) k3 e
    · exact isO_ne ha (T.1 413 9 rfl _ od) k9 e
  have gi : ∀ f a, f ≠ 1117 → ¬ shP hc (shA hc x (sK g + 1)) a → hGi (hSi h' 1117 x (nI (sK g + 1))) f a = hGi hc f a := by
    intro f a hf ha
    rw [gi_si, if_neg (fun z => hf z.1)]
    exact K.1 f a ha
  have ga : ∀ f o, cArr f = true → isO Yc (f / 100) o → ¬ shP hc (shA hc x (sK g + 1)) o → hAi (hSi h' 1117 x (nI (sK g + 1))) (hGr hc f o) = hAi hc (hGr hc f o) ∧ hAl (hSi h' 1117 x (nI (sK g + 1))) (hGr hc f o) = hAl hc (hGr hc f o) :=
    fun f o hf ho hp => by
      have q := Kg_ai K R.1 hp hf ho
      exact ⟨q.1, q.2⟩
  obtain ⟨r1, r2, ⟨s1, s2, s3⟩, ⟨t1, t2⟩, p, l, ⟨c1, c2, c3, c4, c5, c6⟩, kk⟩ := R
  have R : CR Yc hc x kw g := ⟨r1, r2, ⟨s1, s2, s3⟩, ⟨t1, t2⟩, p, l, ⟨c1, c2, c3, c4, c5, c6⟩, kk⟩
  refine ⟨CS_congr r1 (fun f a _ => gr f a), Ty_si (K.2.2.2.2.2 r2) (Or.inl rfl), ⟨fun i j hi hj => by rw [sh, sh]; exact s1 i j hi hj, fun i j hi hj => by rw [wk, wk]; exact s2 i j hi hj, fun j hj => ?_⟩, ⟨fun i j hi hj => by rw [tr, tr]; exact t1 i j hi hj, fun t ht => ?_⟩, ?_, ?_, ?_, ?_⟩
  · have hj' : j ≤ sK g + 1 := hj
    rw [sh, wk]
    show RS _ _ (if j = sK g + 1 then sC g 0 else sC g j) ∧ RN _ _ (if j = sK g + 1 then sC g 0 else sC g j) (if j = sK g + 1 then sW g 0 else sW g j) ∧ RW _ _ (if j = sK g + 1 then sC g 0 else sC g j)
    by_cases e : j = sK g + 1
    · rw [if_pos e, if_pos e, e]
      have w : wkA hc x (sK g + 1) = hGr hc 413 (shA hc x (sK g + 1)) := by unfold wkA; rw [if_neg (by omega)]
      rw [w]
      refine ⟨RS_same (h := h') ⟨fun f a hf => ?_, fun f a hf => rfl, fun i => rfl, fun i => rfl, fun i => rfl, fun i => rfl, fun f i _ _ => rfl, fun f i _ _ => ⟨rfl, rfl⟩⟩ p1, RN_eq (h := h') p2 ?_ (fun i => rfl) (fun i => rfl) (fun i => rfl), RW_eq (h := h') p3 (fun f h1 h2 => ?_) (fun f h1 h2 => rfl)⟩
      · rw [gi_si, if_neg]
        intro z
        rw [z.1] at hf
        cases hf
      · rw [gi_si, if_neg (by omega)]
      · rw [gi_si, if_neg (by omega)]
    · rw [if_neg e, if_neg e]
      have oj := R.o4 (i := j) (by omega)
      have nsd : shA hc x j ≠ shA hc x (sK g + 1) := fun z => e (s1 j _ (by omega) (by omega) z)
      have wj : wkA hc x j = hGr hc 413 (shA hc x j) := by unfold wkA; rw [if_neg (by omega)]
      have wd : wkA hc x (sK g + 1) = hGr hc 413 (shA hc x (sK g + 1)) := by unfold wkA; rw [if_neg (by omega)]
      have nwd : hGr hc 413 (shA hc x j) ≠ hGr hc 413 (shA hc x (sK g + 1)) := by
        rw [← wj, ← wd]
        exact fun z => e (s2 j _ (by omega) (by omega) z)
      obtain ⟨u0, u6, u1, u2, u9⟩ := shP_src r1 r2 od oj nsd nwd
      have o6 := r2.1 400 6 rfl _ oj
      have o1 := r2.1 401 3 rfl _ oj
      have o2 := r2.1 402 3 rfl _ oj
      have o9 := r2.1 413 9 rfl _ oj
      have q := s3 j (by omega)
      rw [wj] at q ⊢
      have ai : ∀ f o, cArr f = true → isO Yc (f / 100) o → ¬ shP hc (shA hc x (sK g + 1)) o → ∀ i, hAi (hSi h' 1117 x (nI (sK g + 1))) (hGr (hSi h' 1117 x (nI (sK g + 1))) f o) i = hAi hc (hGr hc f o) i := by
        intro f o hf ho hp i
        rw [gr, (ga f o hf ho hp).1]
      refine ⟨RS_ag (V.2.1 j (by omega)).1 q.1 (fun f h1 h2 => ?_) (fun f h1 h2 => ?_) ?_ ?_ (fun f i h1 h2 hi => ?_) (fun f i h1 h2 hi => ?_) (fun f i h1 h2 hi => ?_) (fun f i h1 h2 hi => ?_), RN_ag (V.2.1 j (by omega)).1.1 q.2.1 ?_ (fun i hi => ?_) (fun i hi => ?_) (fun i hi => ?_), RW_ag q.2.2 (fun f h1 h2 => ?_) (fun f i h1 h2 hi => ?_)⟩
      · rw [gr, gi f _ (by omega) u6]
      · exact gi f _ (by omega) u0
      · rw [gr, gi 302 _ (by omega) u1]
      · rw [gr, gi 302 _ (by omega) u2]
      · rw [gr 400]
        refine ai f _ ?_ (by rw [show f / 100 = 6 by omega]; exact o6) u6 i
        rcases (show f = 600 ∨ f = 601 ∨ f = 602 ∨ f = 603 by omega) with e | e | e | e <;> (subst e; rfl)
      · refine ai f _ ?_ (by rw [show f / 100 = 4 by omega]; exact oj) u0 i
        rcases (show f = 406 ∨ f = 407 ∨ f = 408 ∨ f = 409 ∨ f = 410 ∨ f = 411 ∨ f = 412 by omega) with e | e | e | e | e | e | e <;> (subst e; rfl)
      · rw [gr 401]
        refine ai f _ ?_ (by rw [show f / 100 = 3 by omega]; exact o1) u1 i
        rcases (show f = 300 ∨ f = 301 by omega) with e | e <;> (subst e; rfl)
      · rw [gr 402]
        refine ai f _ ?_ (by rw [show f / 100 = 3 by omega]; exact o2) u2 i
        rcases (show f = 300 ∨ f = 301 by omega) with e | e <;> (subst e; rfl)
      · exact gi 414 _ (by omega) u0
      · rw [gr, (ga 403 _ rfl oj u0).2]
      · exact ai 404 _ rfl oj u0 i
      · exact ai 405 _ rfl oj u0 i
      · exact gi f _ (by omega) u9
      · refine ai f _ ?_ (by rw [show f / 100 = 9 by omega]; exact o9) u9 i
        rcases (show f = 900 ∨ f = 901 ∨ f = 902 ∨ f = 903 ∨ f = 904 by omega) with e | e | e | e | e <;> (subst e; rfl)
  · have o8 := R.o8 ht
    have np := kd 8 _ o8 (by decide) (by decide) (by decide) (by decide)
    rw [tr, gi 801 _ (by decide) np, gi 802 _ (by decide) np, gi 803 _ (by decide) np, gr 800, (ga 800 _ rfl o8 np).2]
    exact t2 t ht
  · have np := kd 7 _ R.o7 (by decide) (by decide) (by decide) (by decide)
    unfold TPc
    rw [gr 1101 x, gi 702 _ (by decide) np, gr 700, (ga 700 _ rfl R.o7 np).1]
    exact p
  · have np := kd 11 _ hx (by decide) (by decide) (by decide) (by decide)
    unfold LVc
    rw [gr 1108 x, (ga 1108 _ rfl hx np).1]
    exact l
  · have np := kd 11 _ hx (by decide) (by decide) (by decide) (by decide)
    refine ⟨by rw [gi 1112 _ (by decide) np]; exact c1, by rw [gi 1115 _ (by decide) np]; exact c2, by rw [gi 1116 _ (by decide) np]; exact c3, ?_, (K.2.1 _ _).trans c5, (K.2.1 _ _).trans c6⟩
    show hGi (hSi h' 1117 x (nI (sK g + 1))) 1117 x = nI (sK g + 1)
    rw [gi_si, if_pos ⟨rfl, rfl⟩]
  · have np := kd 7 _ R.o7 (by decide) (by decide) (by decide) (by decide)
    rw [gr 1101 x, gr 701, (ga 701 _ rfl R.o7 np).2]
    exact kk
theorem so_mark (J : JJ Yc Ym hc x hm m kw) : SO Yc Ym x m kw (LP_mark Yc x hc) (M_mark Ym m hm) := by
  obtain ⟨g, RC, RM, V⟩ := J
  have R0 := MR_M RM (mst_f (Y := Ym) (h := hm) (m := m))
  rw [mst_0] at R0
  have k3 := V.1
  have c4 : hGi hc 1117 x = nI (sK g) := RC.2.2.2.2.2.2.1.2.2.2.1
  by_cases hk : sK g < 3
  · obtain ⟨hh, M1, M2⟩ := M_mark_s R0 V hk
    have M1' : M_mark Ym m hm = some (nI (sK g + 1), hh) := M1
    have o0 := RC.o4 (i := 0) (by decide)
    have od := RC.o4 (i := sK g + 1) (by omega)
    have s3 := RC.2.2.1.2.2 0 (Nat.zero_le _)
    have ned : shA hc x 0 ≠ shA hc x (sK g + 1) := fun z => by have := RC.2.2.1.1 0 (sK g + 1) (by omega) (by omega) z; omega
    have w0 : wkA hc x 0 = hGr hc 413 (shA hc x 0) := by unfold wkA; rw [if_neg (by omega)]
    have wd : wkA hc x (sK g + 1) = hGr hc 413 (shA hc x (sK g + 1)) := by unfold wkA; rw [if_neg (by omega)]
    have nwd : hGr hc 413 (shA hc x 0) ≠ hGr hc 413 (shA hc x (sK g + 1)) := by
      rw [← w0, ← wd]
      exact fun z => by have := RC.2.2.1.2.1 0 (sK g + 1) (by omega) (by omega) z; omega
    rw [w0] at s3
    obtain ⟨h', E, K, q1, q2, q3⟩ := Sh_copyFrom_s RC.1 RC.2.1 od o0 ned nwd (V.2.1 0 (Nat.zero_le _)).1 s3.1 s3.2.1 s3.2.2
    have ed : shA hc x (sK g + 1) = hAr hc (hGr hc 1104 x) (sK g) := by unfold shA; rw [if_neg (by omega), if_neg (by omega), show sK g + 1 - 1 = sK g by omega]
    unfold LP_mark LP_markAt
    rw [c4, if_neg (nI_pos (by omega)), if_pos (show nI (sK g) < 3 from nI_lt (b := 3) (by omega) (by omega)), cl1104 RC.1 RC.1.1, if_pos (inB_nI (by omega) (by omega)), bind_s, nI_clamp (by omega), M1']
    simp only
    rw [← ed, ← sh0, E, bind_s]
    have np : ¬ shP hc (shA hc x (sK g + 1)) x := by
      have T := RC.2.1
      have hx := RC.1.1
      rintro (e | e | e | e | e)
      · exact isO_ne hx od (by decide) e
      · exact isO_ne hx (T.1 400 6 rfl _ od) (by decide) e
      · exact isO_ne hx (T.1 401 3 rfl _ od) (by decide) e
      · exact isO_ne hx (T.1 402 3 rfl _ od) (by decide) e
      · exact isO_ne hx (T.1 413 9 rfl _ od) (by decide) e
    rw [K.1 1117 x np, c4, show (1 : Int32) = nI 1 from rfl, nI_add, letH_e]
    have C1 := CR_mk RC V hk K q1 q2 q3
    have C2 := CR_C C1 (VG_mk V hk) (Cf_si (x := x) (v := 0))
    rw [gi_si, if_pos ⟨rfl, rfl⟩] at C2
    refine ⟨nI (sK g + 1), _, _, ?_, rfl, _, C2, M2, VG_mk V hk⟩
    unfold LP_give
    rw [gi_si, if_pos ⟨rfl, rfl⟩]
    rfl
  · have k0 : sK g = 3 := by omega
    refine SO_q (v := m1) (st := 7) RC RM V ?_ ?_
    · unfold LP_mark LP_markAt
      rw [c4, k0, if_neg (show ¬ nI 3 < 0 by decide), if_neg (show ¬ nI 3 < 3 by decide), bind_s]
      exact CQ_fail (Cf_rf Yc hc)
    · unfold M_mark
      rw [letH_e, letH_e, show hSi (hSi hm 1201 m 0) 1200 m 0 = mst hm m from rfl, R0.2.2.2.2.2.2.2.2.2.1, show sK (wSt g (nI 0)) = 3 from k0, if_pos (show nI 3 = 3 from rfl)]
      exact mQ_ref mst_f
end MKJ
