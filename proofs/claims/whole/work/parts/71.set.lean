/-! ===== one cell of a block changed ===== -/
/-- cells that may change by calls: finals, liars, odd, rules, what is bound -/
def mayK (k : Nat) : Prop := k = 8 ∨ k = 9 ∨ (10 ≤ k ∧ k < 82) ∨ (100 ≤ k ∧ k < 106)
section ST
variable {c c' : Nat → Int32} {k0 : Nat}
theorem cN_ne (hc : ∀ i, i ≠ k0 → c' i = c i) {i : Nat} (h : i ≠ k0) : cN c' i = cN c i := by unfold cN; rw [hc i h]
theorem nB_ne (hc : ∀ i, i ≠ k0 → c' i = c i) {i n : Nat} (h : i ≠ k0) (H : nB c i n) : nB c' i n := by
  unfold nB
  rw [hc i h, cN_ne hc h]
  exact H
theorem VB_set (hk : mayK k0) (hc : ∀ i, i ≠ k0 → c' i = c i) (V : VB c) (n8 : k0 = 8 → nB c' 8 (2 ^ cN c 0)) (n9 : k0 = 9 → nB c' 9 (2 ^ cN c 4)) (n10 : ∀ t, t < cN c 1 → k0 = 10 + t → nB c' (10 + t) 10)
    (n18 : ∀ s t, s < 8 → t < 8 → k0 = 18 + 8 * s + t → c' (18 + 8 * s + t) = m1 ∨ (s < cN c 0 ∧ t < cN c 1 ∧ nB c' (18 + 8 * s + t) (cN c 0))) (n100 : ∀ b, b < cN c 2 → k0 = 100 + b → c' (100 + b) = m1 ∨ nB c' (100 + b) (cN c 3)) : VB c' := by
  unfold mayK at hk
  obtain ⟨v1, v2, v3, v4, v5, v6, v7, v8⟩ := V
  have V : VB c := ⟨v1, v2, v3, v4, v5, v6, v7, v8⟩
  have l1 := VC_l1 V
  have l2 := VC_l2 V
  have l3 := VC_l3 V
  have l5 := VC_l5 V
  have l6 := VC_l6 V
  have l7 := VC_l7 V
  have e0 : cN c' 0 = cN c 0 := cN_ne hc (by omega)
  have e1 : cN c' 1 = cN c 1 := cN_ne hc (by omega)
  have e2 : cN c' 2 = cN c 2 := cN_ne hc (by omega)
  have e3 : cN c' 3 = cN c 3 := cN_ne hc (by omega)
  have e4 : cN c' 4 = cN c 4 := cN_ne hc (by omega)
  have e5 : cN c' 5 = cN c 5 := cN_ne hc (by omega)
  have e6 : cN c' 6 = cN c 6 := cN_ne hc (by omega)
  have e7 : cN c' 7 = cN c 7 := cN_ne hc (by omega)
  refine ⟨?_, ?_, ?_, ?_, ?_, ?_, ?_, ?_⟩
  · obtain ⟨a0, a1, a2, a3, a4, a5, a6, a7⟩ := v1
    exact ⟨nB_ne hc (by omega) a0, nB_ne hc (by omega) a1, nB_ne hc (by omega) a2, nB_ne hc (by omega) a3, nB_ne hc (by omega) a4, nB_ne hc (by omega) a5, nB_ne hc (by omega) a6, nB_ne hc (by omega) a7⟩
  · refine ⟨?_, ?_⟩
    · rw [e0]
      by_cases e : k0 = 8
      · exact n8 e
      · exact nB_ne hc (fun z => e z.symm) v2.1
    · rw [e4]
      by_cases e : k0 = 9
      · exact n9 e
      · exact nB_ne hc (fun z => e z.symm) v2.2
  · intro t ht
    rw [e1] at ht
    by_cases e : k0 = 10 + t
    · exact n10 t ht e
    · exact nB_ne hc (fun z => e z.symm) (v3 t ht)
  · intro s t hs ht
    rw [e0, e1]
    by_cases e : k0 = 18 + 8 * s + t
    · exact n18 s t hs ht e
    · rcases v4 s t hs ht with q | ⟨q1, q2, q3⟩
      · left; rw [hc _ (fun z => e z.symm)]; exact q
      · exact Or.inr ⟨q1, q2, nB_ne hc (fun z => e z.symm) q3⟩
  · intro b hb
    rw [e2] at hb
    obtain ⟨a1, ⟨a2, a2'⟩, a3, a4, a5⟩ := v5 b hb
    have e88 : cN c' (88 + b) = cN c (88 + b) := cN_ne hc (by omega)
    have e94 : cN c' (94 + b) = cN c (94 + b) := cN_ne hc (by omega)
    refine ⟨by rw [e0]; exact nB_ne hc (by omega) a1, ⟨nB_ne hc (by omega) a2, by rw [e88]; exact a2'⟩, nB_ne hc (by omega) a3, ?_, fun p hp => ?_⟩
    · rw [e3]
      by_cases e : k0 = 100 + b
      · exact n100 b hb e
      · rcases a4 with q | q
        · left; rw [hc _ (fun z => e z.symm)]; exact q
        · exact Or.inr (nB_ne hc (fun z => e z.symm) q)
    · rw [e94] at hp
      rw [e1]
      exact nB_ne hc (by omega) (a5 p hp)
  · intro f hf
    rw [e3] at hf
    obtain ⟨⟨a1, a2⟩, a3⟩ := v6 f hf
    have e166 : cN c' (166 + f) = cN c (166 + f) := cN_ne hc (by omega)
    refine ⟨⟨nB_ne hc (by omega) a1, by rw [e166]; exact a2⟩, fun k hk => ?_⟩
    rw [e166] at hk
    rw [e1]
    exact nB_ne hc (by omega) (a3 k hk)
  · intro i hi
    rw [e5] at hi
    obtain ⟨a1, ⟨a2, a2'⟩, a3, a4⟩ := v7 i hi
    have a1l := a1.2
    have e222 : cN c' (222 + i) = cN c (222 + i) := cN_ne hc (by omega)
    have e234 : cN c' (234 + i) = cN c (234 + i) := cN_ne hc (by omega)
    have e88 : cN c' (88 + cN c (222 + i)) = cN c (88 + cN c (222 + i)) := cN_ne hc (by omega)
    refine ⟨by rw [e2]; exact nB_ne hc (by omega) a1, ⟨by rw [e222, e88]; exact nB_ne hc (by omega) a2, by rw [e234]; exact a2'⟩, by rw [e1]; exact nB_ne hc (by omega) a3, by rw [e4]; exact nB_ne hc (by omega) a4⟩
  · refine ⟨fun o ho => ?_, fun o ho => ?_, fun b hb => ?_⟩
    · rw [e6] at ho
      rw [e2]
      exact ⟨nB_ne hc (by omega) (v8.1 o ho).1, nB_ne hc (by omega) (v8.1 o ho).2⟩
    · rw [e7] at ho
      rw [e2]
      exact ⟨nB_ne hc (by omega) (v8.2.1 o ho).1, nB_ne hc (by omega) (v8.2.1 o ho).2⟩
    · rw [e2] at hb
      rw [e2]
      exact nB_ne hc (by omega) (v8.2.2 b hb)
theorem nmT_set (hk : mayK k0) (hc : ∀ i, i ≠ k0 → c' i = c i) : nmT c' = nmT c ∧ ∀ s, s < 7 → cN c' (manyI s) = cN c (manyI s) := by
  unfold mayK at hk
  have : ∀ s, s < 7 → cN c' (manyI s) = cN c (manyI s) := fun s hs => cN_ne hc (by unfold manyI; split <;> omega)
  exact ⟨sm_congr 7 this, this⟩
theorem VN_set {w : Nat → Int64} (hk : mayK k0) (hc : ∀ i, i ≠ k0 → c' i = c i) (V : VN c w) : VN c' w := by
  have e := (nmT_set hk hc).2
  intro so k so' k' h1 h2 h3 h4 h5
  rw [e so h1] at h2
  rw [e so' h3] at h4
  exact V so k so' k' h1 h2 h3 h4 h5
theorem RN_set {h h' : Hp} {s : Nat} {w : Nat → Int64} (hk : mayK k0) (hc : ∀ i, i ≠ k0 → c' i = c i) (R : RN h s c w) (e1 : hGi h' 414 s = hGi h 414 s) (e2 : ∀ i, hAl h' (hGr h' 403 s) i = hAl h (hGr h 403 s) i) (e3 : ∀ i, hAi h' (hGr h' 404 s) i = hAi h (hGr h 404 s) i) (e4 : ∀ i, hAi h' (hGr h' 405 s) i = hAi h (hGr h 405 s) i) : RN h' s c' w := by
  obtain ⟨n1, n2⟩ := nmT_set hk hc
  obtain ⟨r1, r2, r3⟩ := RN_eq R e1 e2 e3 e4
  refine ⟨by rw [n1]; exact r1, fun i hi => ?_, fun so k h1 h2 => ?_⟩
  · rw [n1] at hi
    obtain ⟨so, k, a1, a2, a3⟩ := r2 i hi
    exact ⟨so, k, a1, by rw [n2 so a1]; exact a2, a3⟩
  · rw [n2 so h1] at h2
    rw [n1]
    exact r3 so k h1 h2
theorem SQ_set {wd sg th nm pt : Nat → Int32} (hk : mayK k0) (hc : ∀ i, i ≠ k0 → c' i = c i) : ∀ n d lo hi a b, SQ wd sg th nm pt c n d lo hi a b → SQ wd sg th nm pt c' n d lo hi a b := by
  unfold mayK at hk
  have e2 : cN c' 2 = cN c 2 := cN_ne hc (by omega)
  have e3 : cN c' 3 = cN c 3 := cN_ne hc (by omega)
  have e4 : cN c' 4 = cN c 4 := cN_ne hc (by omega)
  have row : ∀ r a, rowOk wd sg th nm c r a → rowOk wd sg th nm c' r a := by
    intro r a h
    unfold rowOk nB at h ⊢
    rw [e2, e3, e4, hc (306 + 9 * a) (by omega), hc (307 + 9 * a) (by omega), hc (308 + 9 * a) (by omega), cN_ne hc (show 307 + 9 * a ≠ k0 by omega), cN_ne hc (show 308 + 9 * a ≠ k0 by omega)]
    exact h
  have blk : ∀ r a, blkOk wd sg th nm c r a → blkOk wd sg th nm c' r a := by
    intro r a h
    unfold blkOk nB at h ⊢
    rw [e2, hc (306 + 9 * a) (by omega), hc (307 + 9 * a) (by omega), hc (308 + 9 * a) (by omega), hc (312 + 9 * a) (by omega), hc (313 + 9 * a) (by omega), cN_ne hc (show 307 + 9 * a ≠ k0 by omega), cN_ne hc (show 308 + 9 * a ≠ k0 by omega)]
    exact h
  intro n
  induction n with
  | zero => intro d lo hi a b h; exact h
  | succ n ih =>
    intro d lo hi a b h
    rw [SQ] at h ⊢
    rcases h with h | ⟨h1, h2, ⟨h3, h4, h5⟩ | ⟨h3, h4, p, e, q1, q2, q3, q4, q5, q6, q7, q8, q9, q10⟩⟩
    · exact Or.inl h
    · exact Or.inr ⟨h1, h2, Or.inl ⟨row lo a h3, by rw [hc _ (by omega)]; exact h4, ih _ _ _ _ _ h5⟩⟩
    · exact Or.inr ⟨h1, h2, Or.inr ⟨blk lo a h3, h4, p, e, q1, q2, q3, q4, by rw [hc _ (by omega)]; exact q5, q6, q7, q8, ih _ _ _ _ _ q9, ih _ _ _ _ _ q10⟩⟩
theorem RW_set {h : Hp} {w : Nat} (hk : mayK k0) (hc : ∀ i, i ≠ k0 → c' i = c i) (R : RW h w c) : RW h w c' := by
  have hk' := hk
  unfold mayK at hk'
  unfold RW at R ⊢
  rw [hc 304 (by omega), hc 305 (by omega)]
  rcases R with r | ⟨r1, r2, A, T, r3, r4, r5, r6, r7, r8⟩
  · exact Or.inl r
  · exact Or.inr ⟨r1, r2, A, T, r3, r4, r5, r6, r7, SQ_set hk hc _ _ _ _ _ _ r8⟩
/-- a shelf of which one cell changed -/
theorem RS_set {h h' : Hp} {s : Nat} (hk : mayK k0) (hc : ∀ i, i ≠ k0 → c' i = c i) (V : VB c) (R : RS h s c) (er : ∀ f a, cFin f = true → hGr h' f a = hGr h f a) (rc : RC h' s c')
    (e600 : ∀ t, t < 8 → hAi h' (hGr h 600 (hGr h 400 s)) t = if 10 + t = k0 then c' k0 else hAi h (hGr h 600 (hGr h 400 s)) t)
    (e601 : ∀ i, i < 64 → hAi h' (hGr h 601 (hGr h 400 s)) i = if 18 + i = k0 then c' k0 else hAi h (hGr h 601 (hGr h 400 s)) i)
    (e602 : ∀ i, hAi h' (hGr h 602 (hGr h 400 s)) i = hAi h (hGr h 602 (hGr h 400 s)) i) (e603 : ∀ i, hAi h' (hGr h 603 (hGr h 400 s)) i = hAi h (hGr h 603 (hGr h 400 s)) i)
    (e410 : ∀ b, b < 6 → hAi h' (hGr h 410 s) b = if 100 + b = k0 then c' k0 else hAi h (hGr h 410 s) b)
    (e4 : ∀ f i, 406 ≤ f → f ≤ 412 → f ≠ 410 → hAi h' (hGr h f s) i = hAi h (hGr h f s) i)
    (el : ∀ f i, 300 ≤ f → f ≤ 301 → hAi h' (hGr h f (hGr h 401 s)) i = hAi h (hGr h f (hGr h 401 s)) i ∧ hAi h' (hGr h f (hGr h 402 s)) i = hAi h (hGr h f (hGr h 402 s)) i) : RS h' s c' := by
  have hk' := hk
  unfold mayK at hk'
  have l1 := VC_l1 V
  have l2 := VC_l2 V
  have l3 := VC_l3 V
  have l5 := VC_l5 V
  have l6 := VC_l6 V
  have l7 := VC_l7 V
  obtain ⟨_, ⟨o1, o2, o3⟩, rk, rh, rl1, rl2⟩ := R
  have c1 : cN c' 1 = cN c 1 := cN_ne hc (by omega)
  have c2 : cN c' 2 = cN c 2 := cN_ne hc (by omega)
  have c3 : cN c' 3 = cN c 3 := cN_ne hc (by omega)
  have c5 : cN c' 5 = cN c 5 := cN_ne hc (by omega)
  have c6 : cN c' 6 = cN c 6 := cN_ne hc (by omega)
  have c7 : cN c' 7 = cN c 7 := cN_ne hc (by omega)
  refine ⟨rc, ⟨fun t ht => ?_, fun i hi hn => ?_, fun f hf => ?_⟩, fun b hb => ?_, fun i hi => ?_, fun o ho => ?_, fun o ho => ?_⟩
  · rw [c1] at ht
    rw [er 400 _ rfl, er 600 _ rfl, e600 t (by omega)]
    by_cases e : 10 + t = k0
    · rw [if_pos e, e]
    · rw [if_neg e, hc _ e]; exact o1 t ht
  · rw [er 400 _ rfl, er 601 _ rfl, e601 i hi]
    by_cases e : 18 + i = k0
    · rw [if_pos e, e]
    · rw [cN_ne hc (show 0 ≠ k0 by omega)] at hn
      rw [if_neg e, hc _ e]; exact o2 i hi hn
  · rw [c3] at hf
    have l166 := (V.2.2.2.2.2.1 f hf).1.1.2
    rw [er 400 _ rfl, er 602 _ rfl, er 603 _ rfl, e602, hc (166 + f) (by omega), cN_ne hc (show 166 + f ≠ k0 by omega)]
    refine ⟨(o3 f hf).1, fun k hk => ?_⟩
    rw [e603, hc _ (by omega)]
    exact (o3 f hf).2 k hk
  · rw [c2] at hb
    have l94 := (V.2.2.2.2.1 b hb).2.2.1.2
    obtain ⟨a1, a2, a3, a4, a5, a6⟩ := rk b hb
    rw [er 406 _ rfl, er 407 _ rfl, er 408 _ rfl, er 409 _ rfl, er 410 _ rfl, er 411 _ rfl, e4 406 _ (by decide) (by decide) (by decide), e4 407 _ (by decide) (by decide) (by decide), e4 408 _ (by decide) (by decide) (by decide), e410 b (by omega), e4 411 _ (by decide) (by decide) (by decide), hc (82 + b) (by omega), hc (88 + b) (by omega), hc (94 + b) (by omega), hc (298 + b) (by omega), cN_ne hc (show 94 + b ≠ k0 by omega)]
    refine ⟨a1, a2, a3, ?_, a5, fun p hp => ?_⟩
    · by_cases e : 100 + b = k0
      · rw [if_pos e, e]
      · rw [if_neg e, hc _ e]; exact a4
    · rw [e4 409 _ (by decide) (by decide) (by decide), hc _ (by omega)]
      exact a6 p hp
  · rw [c5] at hi
    rw [er 412 _ rfl, e4 412 _ (by decide) (by decide) (by decide), e4 412 _ (by decide) (by decide) (by decide), e4 412 _ (by decide) (by decide) (by decide), e4 412 _ (by decide) (by decide) (by decide), hc (222 + i) (by omega), hc (234 + i) (by omega), hc (246 + i) (by omega), hc (258 + i) (by omega)]
    exact rh i hi
  · rw [c6] at ho
    rw [er 401 _ rfl, er 300 _ rfl, er 301 _ rfl, (el 300 _ (by decide) (by decide)).1, (el 301 _ (by decide) (by decide)).1, hc (270 + o) (by omega), hc (276 + o) (by omega)]
    exact rl1 o ho
  · rw [c7] at ho
    rw [er 402 _ rfl, er 300 _ rfl, er 301 _ rfl, (el 300 _ (by decide) (by decide)).2, (el 301 _ (by decide) (by decide)).2, hc (282 + o) (by omega), hc (290 + o) (by omega)]
    exact rl2 o ho
end ST
