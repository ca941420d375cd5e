/-! ===== mean: what a run changed is laid back ===== -/
section MN
variable {Y : Ly} {h h' : Hp} {x m s : Nat} {kw : Nat → Int64} {g : Sg} {c c' : Nat → Int32}
theorem RS_agr (V : VB c) (R : RS h s c) (A : agr c c') (T : Ty Y h) (os : isO Y 4 s) (er : ∀ f a, hGr h' f a = hGr h f a) (gi : ∀ f a, f ≠ 417 → hGi h' f a = hGi h f a) (g9 : hGi h' 417 s = c' 9)
    (ai : ∀ f o, cArr f = true → isO Y (f / 100) o → f ≠ 410 → hAi h' (hGr h f o) = hAi h (hGr h f o)) (g100 : ∀ b, b < cN c 2 → hAi h' (hGr h 410 s) b = c' (100 + b)) : RS h' s c' := by
  have l1 := VC_l1 V
  have l2 := VC_l2 V
  have l3 := VC_l3 V
  have l5 := VC_l5 V
  have l6 := VC_l6 V
  have l7 := VC_l7 V
  have o6 := T.1 400 6 rfl s os
  have o1 := T.1 401 3 rfl s os
  have o2 := T.1 402 3 rfl s os
  have z : ∀ {i}, i < 9 → c' i = c i := fun {i} hi => A i (by omega) (by omega)
  obtain ⟨rc, ⟨p1, p2, p3⟩, rk, rh, rl1, rl2⟩ := R
  refine ⟨?_, ⟨fun t ht => ?_, fun i hi hn => ?_, fun f hf => ⟨?_, fun k hk => ?_⟩⟩, fun b hb => ⟨?_, ?_, ?_, ?_, ?_, fun p hp => ?_⟩, fun i hi => ?_, fun o ho => ?_, fun o ho => ?_⟩
  · unfold RC at rc ⊢
    rw [er, er, er, gi 604 _ (by decide), gi 605 _ (by decide), gi 415 _ (by decide), gi 607 _ (by decide), gi 416 _ (by decide), gi 418 _ (by decide), gi 302 _ (by decide), gi 302 _ (by decide), gi 606 _ (by decide), g9, z (by omega), z (by omega), z (by omega), z (by omega), z (by omega), z (by omega), z (by omega), z (by omega), z (by omega)]
    exact ⟨rc.1, rc.2.1, rc.2.2.1, rc.2.2.2.1, rc.2.2.2.2.1, rc.2.2.2.2.2.1, rc.2.2.2.2.2.2.1, rc.2.2.2.2.2.2.2.1, rc.2.2.2.2.2.2.2.2.1, rfl⟩
  · rw [A.n (by omega) (by omega)] at ht
    rw [er, er, ai 600 _ rfl o6 (by decide), A _ (by omega) (by omega)]; exact p1 t ht
  · rw [A.n (by omega) (by omega)] at hn
    rw [er, er, ai 601 _ rfl o6 (by decide), A _ (by omega) (by omega)]; exact p2 i hi hn
  · rw [A.n (by omega) (by omega)] at hf
    rw [er, er, ai 602 _ rfl o6 (by decide), A _ (by omega) (by omega)]; exact (p3 f hf).1
  · rw [A.n (by omega) (by omega)] at hf
    rw [A.n (by omega) (by omega)] at hk
    rw [er, er, ai 603 _ rfl o6 (by decide), A _ (by omega) (by omega)]; exact (p3 f hf).2 k hk
  · rw [A.n (by omega) (by omega)] at hb
    rw [er, ai 406 _ rfl os (by decide), A _ (by omega) (by omega)]; exact (rk b hb).1
  · rw [A.n (by omega) (by omega)] at hb
    rw [er, ai 407 _ rfl os (by decide), A _ (by omega) (by omega)]; exact (rk b hb).2.1
  · rw [A.n (by omega) (by omega)] at hb
    rw [er, ai 408 _ rfl os (by decide), A _ (by omega) (by omega)]; exact (rk b hb).2.2.1
  · rw [A.n (by omega) (by omega)] at hb
    rw [er]; exact g100 b hb
  · rw [A.n (by omega) (by omega)] at hb
    rw [er, ai 411 _ rfl os (by decide), A _ (by omega) (by omega)]; exact (rk b hb).2.2.2.2.1
  · rw [A.n (by omega) (by omega)] at hb
    rw [A.n (by omega) (by omega)] at hp
    rw [er, ai 409 _ rfl os (by decide), A _ (by omega) (by omega)]; exact (rk b hb).2.2.2.2.2 p hp
  · rw [A.n (by omega) (by omega)] at hi
    rw [er, ai 412 _ rfl os (by decide), A _ (by omega) (by omega), A _ (by omega) (by omega), A _ (by omega) (by omega), A _ (by omega) (by omega)]; exact rh i hi
  · rw [A.n (by omega) (by omega)] at ho
    rw [er 401, er, er, ai 300 _ rfl o1 (by decide), ai 301 _ rfl o1 (by decide), A _ (by omega) (by omega), A _ (by omega) (by omega)]; exact rl1 o ho
  · rw [A.n (by omega) (by omega)] at ho
    rw [er 402, er, er, ai 300 _ rfl o2 (by decide), ai 301 _ rfl o2 (by decide), A _ (by omega) (by omega), A _ (by omega) (by omega)]; exact rl2 o ho
theorem nmT_agr (A : agr c c') : nmT c' = nmT c ∧ ∀ s, s < 7 → cN c' (manyI s) = cN c (manyI s) := by
  have : ∀ s, s < 7 → cN c' (manyI s) = cN c (manyI s) := fun s hs => A.n (by unfold manyI; split <;> omega) (by unfold manyI; split <;> omega)
  exact ⟨sm_congr 7 this, this⟩
theorem RN_agr {w : Nat → Int64} (A : agr c c') (R : RN h s c w) : RN h s c' w := by
  obtain ⟨n1, n2⟩ := nmT_agr A
  obtain ⟨r1, r2, r3⟩ := R
  refine ⟨by rw [n1]; exact r1, fun i hi => ?_, fun so k h1 h2 => ?_⟩
  · rw [n1] at hi
    obtain ⟨so, k, a1, a2, a3⟩ := r2 i hi
    exact ⟨so, k, a1, by rw [n2 so a1]; exact a2, a3⟩
  · rw [n2 so h1] at h2
    rw [n1]
    exact r3 so k h1 h2
theorem RW_agr {w : Nat} (A : agr c c') (R : RW h w c) : RW h w c' := by
  unfold RW at R ⊢
  rw [A 304 (by omega) (by omega), A 305 (by omega) (by omega)]
  rcases R with r | ⟨r1, r2, B, T, r3, r4, r5, r6, r7, r8⟩
  · exact Or.inl r
  · exact Or.inr ⟨r1, r2, B, T, r3, r4, r5, r6, r7, SQ_agr A _ _ _ _ _ _ r8⟩
theorem CR_sh0 (R : CR Y h x kw g) (V : VG g) (A : agr (sC g 0) c') {G : Nat → Int32} {v : Int32} (h9 : v = c' 9) (hG : ∀ b, b < cN (sC g 0) 2 → G b = c' (100 + b)) : CR Y (hSi (hWi h (hGr h 410 (hGr h 1109 x)) G) 417 (hGr h 1109 x) v) x kw (wC0 g c') := by
  have hx := R.1.1
  have o40 := R.o4 (i := 0) (by decide)
  rw [sh0] at o40
  have gi : ∀ f a, f ≠ 417 → hGi (hSi (hWi h (hGr h 410 (hGr h 1109 x)) G) 417 (hGr h 1109 x) v) f a = hGi h f a := by
    intro f a hf
    rw [gi_si, if_neg (fun z => hf z.1)]; rfl
  have ne : ∀ f o, cArr f = true → isO Y (f / 100) o → ¬ (f = 410 ∧ o = hGr h 1109 x) → hAi (hSi (hWi h (hGr h 410 (hGr h 1109 x)) G) 417 (hGr h 1109 x) v) (hGr h f o) = hAi h (hGr h f o) := by
    intro f o h1 h2 h3
    funext i
    show hAi (hWi h (hGr h 410 (hGr h 1109 x)) G) (hGr h f o) i = _
    rw [ai_wi, if_neg]
    intro z
    exact h3 (R.1.2.2.2.1 f 410 o _ h1 rfl h2 o40 z)
  obtain ⟨r1, r2, ⟨s1, s2, s3⟩, t, p, l, sc, k⟩ := R
  have R : CR Y h x kw g := ⟨r1, r2, ⟨s1, s2, s3⟩, t, p, l, sc, k⟩
  refine ⟨CS_congr r1 (fun _ _ _ => rfl), Ty_si r2 (Or.inl rfl), ⟨s1, s2, fun j hj => ?_⟩, ⟨t.1, fun z hz => ?_⟩, ⟨?_, fun i hi => ?_⟩, fun i hi => ?_, ?_, k⟩
  · have hj4 : j < 5 := by have := V.1; have : j ≤ sK g := hj; omega
    have o4 := R.o4 hj4
    have o9 := R.o9 (show j < 6 by omega)
    have rw' : RW (hSi (hWi h (hGr h 410 (hGr h 1109 x)) G) 417 (hGr h 1109 x) v) (wkA h x j) (sC g j) := RW_eq (h := h) (s3 j hj).2.2 (fun f h1 h2 => gi f _ (by omega)) (fun f h1 h2 => by
      refine ne f _ ?_ (by rw [show f / 100 = 9 by omega]; exact o9) (by omega)
      rcases (show f = 900 ∨ f = 901 ∨ f = 902 ∨ f = 903 ∨ f = 904 by omega) with e | e | e | e | e <;> (subst e; rfl))
    have rn' : RN (hSi (hWi h (hGr h 410 (hGr h 1109 x)) G) 417 (hGr h 1109 x) v) (shA h x j) (sC g j) (sW g j) := RN_eq (h := h) (s3 j hj).2.1 (gi 414 _ (by decide)) (fun i => rfl) (fun i => congrFun (ne 404 _ rfl o4 (by omega)) i) (fun i => congrFun (ne 405 _ rfl o4 (by omega)) i)
    by_cases e : j = 0
    · subst e
      rw [sC0]
      refine ⟨?_, RN_agr A rn', RW_agr A rw'⟩
      show RS _ (shA h x 0) c'
      rw [sh0]
      have q := (s3 0 hj).1
      rw [sh0] at q
      refine RS_agr (V.2.1 0 (Nat.zero_le _)).1 q A r2 o40 (fun _ _ => rfl) gi (by rw [gi_si, if_pos ⟨rfl, rfl⟩]; exact h9) (fun f o h1 h2 h3 => ne f o h1 h2 (fun w => h3 w.1)) (fun b hb => ?_)
      show hAi (hWi h (hGr h 410 (hGr h 1109 x)) G) (hGr h 410 (hGr h 1109 x)) b = _
      rw [ai_wi, if_pos rfl]
      exact hG b hb
    · rw [sCj g c' e]
      refine ⟨?_, rn', rw'⟩
      have nsh : shA h x j ≠ hGr h 1109 x := by
        rw [← sh0]
        exact fun z => e (s1 j 0 hj4 (by decide) z)
      have o6 := r2.1 400 6 rfl _ o4
      have o1 := r2.1 401 3 rfl _ o4
      have o2 := r2.1 402 3 rfl _ o4
      refine RS_ag (h := h) (V.2.1 j hj).1 (s3 j hj).1 (fun f h1 h2 => gi f _ (by omega)) (fun f h1 h2 => ?_) (gi 302 _ (by decide)) (gi 302 _ (by decide)) (fun f i h1 h2 hi => ?_) (fun f i h1 h2 hi => ?_) (fun f i h1 h2 hi => ?_) (fun f i h1 h2 hi => ?_)
      · rw [gi_si, if_neg (fun w => nsh w.2)]; rfl
      · refine congrFun (ne f _ ?_ (by rw [show f / 100 = 6 by omega]; exact o6) (by omega)) i
        rcases (show f = 600 ∨ f = 601 ∨ f = 602 ∨ f = 603 by omega) with e | e | e | e <;> (subst e; rfl)
      · refine congrFun (ne f _ ?_ (by rw [show f / 100 = 4 by omega]; exact o4) (fun w => nsh w.2)) i
        rcases (show f = 406 ∨ f = 407 ∨ f = 408 ∨ f = 409 ∨ f = 410 ∨ f = 411 ∨ f = 412 by omega) with e | e | e | e | e | e | e <;> (subst e; rfl)
      · refine congrFun (ne f _ ?_ (by rw [show f / 100 = 3 by omega]; exact o1) (by omega)) i
        rcases (show f = 300 ∨ f = 301 by omega) with e | e <;> (subst e; rfl)
      · refine congrFun (ne f _ ?_ (by rw [show f / 100 = 3 by omega]; exact o2) (by omega)) i
        rcases (show f = 300 ∨ f = 301 by omega) with e | e <;> (subst e; rfl)
  · have := t.2 z hz
    rw [show trA (hSi (hWi h (hGr h 410 (hGr h 1109 x)) G) 417 (hGr h 1109 x) v) x z = trA h x z from rfl, gi 801 _ (by decide), gi 802 _ (by decide), gi 803 _ (by decide)]
    exact this
  · exact (gi 702 _ (by decide)).trans p.1
  · exact (congrFun (ne 700 _ rfl R.o7 (by omega)) i).trans (p.2 i hi)
  · exact (congrFun (ne 1108 _ rfl hx (by omega)) i).trans (l i hi)
  · obtain ⟨c1, c2, c3, c4, c5, c6⟩ := sc
    exact ⟨(gi 1112 _ (by decide)).trans c1, (gi 1115 _ (by decide)).trans c2, (gi 1116 _ (by decide)).trans c3, (gi 1117 _ (by decide)).trans c4, c5, c6⟩
theorem MR_w0 (R : MR Y h m g) {G : Nat → Int32} (hG : ∀ i, i < 576 → G i = c' i) (hG2 : ∀ i, 576 ≤ i → G i = hAi h (hGr h 1220 m) i) : MR Y (hWi h (hGr h 1220 m) G) m (wC0 g c') := by
  have ne : ∀ f, mLen f ≠ 0 → f ≠ 1220 → ∀ i, hAi (hWi h (hGr h 1220 m) G) (hGr h f m) i = hAi h (hGr h f m) i := by
    intro f h1 h2 i
    rw [ai_wi, if_neg]
    intro z
    exact h2 (R.1.2.2 f 1220 h1 (by decide) z)
  obtain ⟨r1, r2, b, t, p, l, sc⟩ := R
  refine ⟨MS_congr r1 (fun _ => rfl), r2, fun j hj => ⟨fun i hi => ?_, (b j hj).2⟩, fun z hz => ⟨(ne 1204 (by decide) (by decide) _).trans (t z hz).1, (ne 1205 (by decide) (by decide) _).trans (t z hz).2.1, (t z hz).2.2⟩, ⟨p.1, fun i hi => (ne 1207 (by decide) (by decide) _).trans (p.2 i hi)⟩, ?_, sc⟩
  · show hAi (hWi h (hGr h 1220 m) G) (hGr h 1220 m) (576 * j + i) = sC (wC0 g c') j i
    rw [ai_wi, if_pos rfl]
    by_cases e : j = 0
    · rw [e, sC0, show 576 * 0 + i = i by omega]
      exact hG i hi
    · rw [sCj g c' e, hG2 _ (by omega)]
      exact (b j hj).1 i hi
  · rcases l with q | ⟨f, q1, q2, q3⟩
    · exact Or.inl q
    · exact Or.inr ⟨f, q1, q2, fun i hi => (ne 1234 (by decide) (by decide) _).trans (q3 i hi)⟩
end MN
