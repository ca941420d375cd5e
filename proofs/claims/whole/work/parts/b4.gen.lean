/-! ===== a block that grows ===== -/
def keepC (c c' : Nat → Int32) : Prop := (∀ t, t < cN c 1 → c' (10 + t) = c (10 + t)) ∧
  (∀ b, b < cN c 2 → c' (82 + b) = c (82 + b) ∧ c' (88 + b) = c (88 + b) ∧ c' (94 + b) = c (94 + b) ∧ c' (100 + b) = c (100 + b) ∧ ∀ p, p < cN c (94 + b) → c' (106 + 10 * b + p) = c (106 + 10 * b + p)) ∧
  (∀ f, f < cN c 3 → c' (166 + f) = c (166 + f) ∧ ∀ k, k < cN c (166 + f) → c' (174 + 6 * f + k) = c (174 + 6 * f + k)) ∧
  (∀ i, i < cN c 5 → c' (222 + i) = c (222 + i) ∧ c' (234 + i) = c (234 + i) ∧ c' (246 + i) = c (246 + i) ∧ c' (258 + i) = c (258 + i)) ∧
  (∀ o, o < cN c 6 → c' (270 + o) = c (270 + o) ∧ c' (276 + o) = c (276 + o)) ∧ ∀ k, k < cN c 7 → c' (282 + k) = c (282 + k) ∧ c' (290 + k) = c (290 + k)
def upC (c c' : Nat → Int32) : Prop := ∀ i, i < 8 → cN c i ≤ cN c' i
theorem nB_mono {c : Nat → Int32} {i n n' : Nat} (h : nB c i n) (hn : n ≤ n') : nB c i n' := ⟨h.1, Nat.lt_of_lt_of_le h.2 hn⟩
theorem nB_cell {c c' : Nat → Int32} {i n : Nat} (e : c' i = c i) (h : nB c i n) : nB c' i n := by
  unfold nB cN at h ⊢
  rw [e]
  exact h
theorem cN_cell {c c' : Nat → Int32} {i : Nat} (e : c' i = c i) : cN c' i = cN c i := by unfold cN; rw [e]
theorem keepC_of {c c' : Nat → Int32} (V : VB c) (D : Nat → Prop) (hc : ∀ i, ¬ D i → c' i = c i) (hD : ∀ i, D i → i < 10 ∨ (10 + cN c 1 ≤ i ∧ i < 82) ∨ (82 + cN c 2 ≤ i ∧ i < 88) ∨ (88 + cN c 2 ≤ i ∧ i < 94) ∨ (94 + cN c 2 ≤ i ∧ i < 100) ∨ (100 + cN c 2 ≤ i ∧ i < 106) ∨ (106 + 10 * cN c 2 ≤ i ∧ i < 166) ∨ (166 + cN c 3 ≤ i ∧ i < 174) ∨ (174 + 6 * cN c 3 ≤ i ∧ i < 222) ∨ (222 + cN c 5 ≤ i ∧ i < 234) ∨ (234 + cN c 5 ≤ i ∧ i < 246) ∨ (246 + cN c 5 ≤ i ∧ i < 258) ∨ (258 + cN c 5 ≤ i ∧ i < 270) ∨ (270 + cN c 6 ≤ i ∧ i < 276) ∨ (276 + cN c 6 ≤ i ∧ i < 282) ∨ (282 + cN c 7 ≤ i ∧ i < 290) ∨ (290 + cN c 7 ≤ i)) : keepC c c' := by
  have l1 := VC_l1 V
  have l2 := VC_l2 V
  have l3 := VC_l3 V
  have l5 := VC_l5 V
  have l6 := VC_l6 V
  have l7 := VC_l7 V
  have z : ∀ i, (D i → False) → c' i = c i := fun i h => hc i h
  refine ⟨fun t ht => z _ (fun d => by have := hD _ d; omega), fun b hb => ?_, fun f hf => ?_, fun i hi => ⟨z _ (fun d => by have := hD _ d; omega), z _ (fun d => by have := hD _ d; omega), z _ (fun d => by have := hD _ d; omega), z _ (fun d => by have := hD _ d; omega)⟩, fun o ho => ⟨z _ (fun d => by have := hD _ d; omega), z _ (fun d => by have := hD _ d; omega)⟩, fun o ho => ⟨z _ (fun d => by have := hD _ d; omega), z _ (fun d => by have := hD _ d; omega)⟩⟩
  · have := (V.2.2.2.2.1 b hb).2.2.1.2
    exact ⟨z _ (fun d => by have := hD _ d; omega), z _ (fun d => by have := hD _ d; omega), z _ (fun d => by have := hD _ d; omega), z _ (fun d => by have := hD _ d; omega), fun p hp => z _ (fun d => by have := hD _ d; omega)⟩
  · have := (V.2.2.2.2.2.1 f hf).1.1.2
    exact ⟨z _ (fun d => by have := hD _ d; omega), fun k hk => z _ (fun d => by have := hD _ d; omega)⟩
theorem VB_gen {c c' : Nat → Int32} (V : VB c) (up : upC c c') (vc : VC c') (vs : VS c') (K : keepC c c') (vr : VR c')
    (n1 : ∀ t, cN c 1 ≤ t → t < cN c' 1 → nB c' (10 + t) 10)
    (n2 : ∀ b, cN c 2 ≤ b → b < cN c' 2 → nB c' (82 + b) (cN c' 0) ∧ (nB c' (88 + b) 7 ∧ 1 ≤ cN c' (88 + b)) ∧ nB c' (94 + b) 11 ∧ (c' (100 + b) = m1 ∨ nB c' (100 + b) (cN c' 3)) ∧ ∀ p, p < cN c' (94 + b) → nB c' (106 + 10 * b + p) (cN c' 1))
    (n3 : ∀ f, cN c 3 ≤ f → f < cN c' 3 → (nB c' (166 + f) 7 ∧ 1 ≤ cN c' (166 + f)) ∧ ∀ k, k < cN c' (166 + f) → nB c' (174 + 6 * f + k) (cN c' 1))
    (n5 : ∀ i, cN c 5 ≤ i → i < cN c' 5 → nB c' (222 + i) (cN c' 2) ∧ (nB c' (234 + i) (cN c' (88 + cN c' (222 + i)) + 1) ∧ 1 ≤ cN c' (234 + i)) ∧ nB c' (246 + i) (cN c' 1) ∧ nB c' (258 + i) (cN c' 4))
    (n6 : ∀ o, cN c 6 ≤ o → o < cN c' 6 → nB c' (270 + o) 100 ∧ nB c' (276 + o) (2 ^ cN c' 2)) (n7 : ∀ o, cN c 7 ≤ o → o < cN c' 7 → nB c' (282 + o) 100 ∧ nB c' (290 + o) (2 ^ cN c' 2))
    (nf : ∀ b, b < cN c' 2 → nB c' (298 + b) (2 ^ cN c' 2)) : VB c' := by
  obtain ⟨v1, v2, v3, v4, v5, v6, v7, v8, v9, v10⟩ := V
  obtain ⟨k1, k2, k3, k5, k6, k7⟩ := K
  have u0 := up 0 (by decide)
  have u1 := up 1 (by decide)
  have u2 := up 2 (by decide)
  have u3 := up 3 (by decide)
  have u4 := up 4 (by decide)
  have p2 : 2 ^ cN c 2 ≤ 2 ^ cN c' 2 := Nat.pow_le_pow_right (by decide) u2
  refine ⟨vc, vs, fun t ht => ?_, vr, fun b hb => ?_, fun f hf => ?_, fun i hi => ?_, fun o ho => ?_, fun o ho => ?_, nf⟩
  · by_cases z : t < cN c 1
    · exact nB_cell (k1 t z) (v3 t z)
    · exact n1 t (by omega) ht
  · by_cases z : b < cN c 2
    · obtain ⟨a1, a2, a3, a4, a5⟩ := k2 b z
      obtain ⟨b1, ⟨b2, b3⟩, b4, b5, b6⟩ := v5 b z
      refine ⟨nB_mono (nB_cell a1 b1) u0, ⟨nB_cell a2 b2, by rw [cN_cell a2]; exact b3⟩, nB_cell a3 b4, ?_, fun p hp => ?_⟩
      · rw [a4]
        rcases b5 with q | q
        · exact Or.inl q
        · exact Or.inr (nB_mono (nB_cell a4 q) u3)
      · rw [cN_cell a3] at hp
        exact nB_mono (nB_cell (a5 p hp) (b6 p hp)) u1
    · exact n2 b (by omega) hb
  · by_cases z : f < cN c 3
    · obtain ⟨a1, a2⟩ := k3 f z
      obtain ⟨⟨b1, b2⟩, b3⟩ := v6 f z
      refine ⟨⟨nB_cell a1 b1, by rw [cN_cell a1]; exact b2⟩, fun k hk => ?_⟩
      rw [cN_cell a1] at hk
      exact nB_mono (nB_cell (a2 k hk) (b3 k hk)) u1
    · exact n3 f (by omega) hf
  · by_cases z : i < cN c 5
    · obtain ⟨a1, a2, a3, a4⟩ := k5 i z
      obtain ⟨b1, ⟨b2, b3⟩, b4, b5⟩ := v7 i z
      refine ⟨nB_mono (nB_cell a1 b1) u2, ⟨?_, by rw [cN_cell a2]; exact b3⟩, nB_mono (nB_cell a3 b4) u1, nB_mono (nB_cell a4 b5) u4⟩
      rw [cN_cell a1, cN_cell (k2 _ b1.2).2.1]
      exact nB_cell a2 b2
    · exact n5 i (by omega) hi
  · by_cases z : o < cN c 6
    · obtain ⟨a1, a2⟩ := k6 o z
      exact ⟨nB_cell a1 (v8 o z).1, nB_mono (nB_cell a2 (v8 o z).2) p2⟩
    · exact n6 o (by omega) ho
  · by_cases z : o < cN c 7
    · obtain ⟨a1, a2⟩ := k7 o z
      exact ⟨nB_cell a1 (v9 o z).1, nB_mono (nB_cell a2 (v9 o z).2) p2⟩
    · exact n7 o (by omega) ho
theorem RS_gen {h h' : Hp} {s : Nat} {c c' : Nat → Int32} (R : RF h s c) (K : keepC c c') (er : ∀ f a, hGr h' f a = hGr h f a) (rc : RC h' s c')
    (o1 : ∀ t, t < cN c 1 → hAi h' (hGr h 600 (hGr h 400 s)) t = hAi h (hGr h 600 (hGr h 400 s)) t) (o1n : ∀ t, cN c 1 ≤ t → t < cN c' 1 → hAi h' (hGr h 600 (hGr h 400 s)) t = c' (10 + t))
    (o2 : ∀ i, i < 64 → hAi h' (hGr h 601 (hGr h 400 s)) i = c' (18 + i))
    (o3 : ∀ f, f < cN c 3 → hAi h' (hGr h 602 (hGr h 400 s)) f = hAi h (hGr h 602 (hGr h 400 s)) f ∧ ∀ k, k < cN c (166 + f) → hAi h' (hGr h 603 (hGr h 400 s)) (6 * f + k) = hAi h (hGr h 603 (hGr h 400 s)) (6 * f + k))
    (o3n : ∀ f, cN c 3 ≤ f → f < cN c' 3 → hAi h' (hGr h 602 (hGr h 400 s)) f = c' (166 + f) ∧ ∀ k, k < cN c' (166 + f) → hAi h' (hGr h 603 (hGr h 400 s)) (6 * f + k) = c' (174 + 6 * f + k))
    (k : ∀ b, b < cN c 2 → hAi h' (hGr h 406 s) b = hAi h (hGr h 406 s) b ∧ hAi h' (hGr h 407 s) b = hAi h (hGr h 407 s) b ∧ hAi h' (hGr h 408 s) b = hAi h (hGr h 408 s) b ∧ hAi h' (hGr h 410 s) b = hAi h (hGr h 410 s) b ∧ hAi h' (hGr h 411 s) b = c' (298 + b) ∧ ∀ p, p < cN c (94 + b) → hAi h' (hGr h 409 s) (10 * b + p) = hAi h (hGr h 409 s) (10 * b + p))
    (kn : ∀ b, cN c 2 ≤ b → b < cN c' 2 → hAi h' (hGr h 406 s) b = c' (82 + b) ∧ hAi h' (hGr h 407 s) b = c' (88 + b) ∧ hAi h' (hGr h 408 s) b = c' (94 + b) ∧ hAi h' (hGr h 410 s) b = c' (100 + b) ∧ hAi h' (hGr h 411 s) b = c' (298 + b) ∧ ∀ p, p < cN c' (94 + b) → hAi h' (hGr h 409 s) (10 * b + p) = c' (106 + 10 * b + p))
    (hh : ∀ i, i < 4 * cN c 5 → hAi h' (hGr h 412 s) i = hAi h (hGr h 412 s) i)
    (hn : ∀ i, cN c 5 ≤ i → i < cN c' 5 → hAi h' (hGr h 412 s) (4 * i) = c' (222 + i) ∧ hAi h' (hGr h 412 s) (4 * i + 1) = c' (234 + i) ∧ hAi h' (hGr h 412 s) (4 * i + 2) = c' (246 + i) ∧ hAi h' (hGr h 412 s) (4 * i + 3) = c' (258 + i))
    (l6 : ∀ o, o < cN c 6 → hAi h' (hGr h 300 (hGr h 401 s)) o = hAi h (hGr h 300 (hGr h 401 s)) o ∧ hAi h' (hGr h 301 (hGr h 401 s)) o = hAi h (hGr h 301 (hGr h 401 s)) o)
    (l6n : ∀ o, cN c 6 ≤ o → o < cN c' 6 → hAi h' (hGr h 300 (hGr h 401 s)) o = c' (270 + o) ∧ hAi h' (hGr h 301 (hGr h 401 s)) o = c' (276 + o))
    (l7 : ∀ o, o < cN c 7 → hAi h' (hGr h 300 (hGr h 402 s)) o = hAi h (hGr h 300 (hGr h 402 s)) o ∧ hAi h' (hGr h 301 (hGr h 402 s)) o = hAi h (hGr h 301 (hGr h 402 s)) o)
    (l7n : ∀ o, cN c 7 ≤ o → o < cN c' 7 → hAi h' (hGr h 300 (hGr h 402 s)) o = c' (282 + o) ∧ hAi h' (hGr h 301 (hGr h 402 s)) o = c' (290 + o)) : RF h' s c' := by
  obtain ⟨_, ⟨p1, p2, p3⟩, rk, rh, rl1, rl2⟩ := R
  obtain ⟨k1, k2, k3, k5, k6, k7⟩ := K
  refine ⟨rc, ⟨fun t ht => ?_, fun i hi => ?_, fun f hf => ?_⟩, fun b hb => ?_, fun i hi => ?_, fun o ho => ?_, fun o ho => ?_⟩
  · rw [er, er]
    by_cases z : t < cN c 1
    · rw [o1 t z, k1 t z]; exact p1 t z
    · exact o1n t (by omega) ht
  · rw [er, er]; exact o2 i hi
  · rw [er 400, er, er]
    by_cases z : f < cN c 3
    · obtain ⟨a1, a2⟩ := k3 f z
      rw [(o3 f z).1, a1, cN_cell a1]
      exact ⟨(p3 f z).1, fun k hk => by rw [(o3 f z).2 k hk, a2 k hk]; exact (p3 f z).2 k hk⟩
    · exact o3n f (by omega) hf
  · rw [er 406, er 407, er 408, er 409, er 410, er 411]
    by_cases z : b < cN c 2
    · obtain ⟨a1, a2, a3, a4, a5⟩ := k2 b z
      obtain ⟨b1, b2, b3, b4, b5, b6⟩ := k b z
      obtain ⟨d1, d2, d3, d4, d5, d6⟩ := rk b z
      exact ⟨by rw [b1, a1]; exact d1, by rw [b2, a2]; exact d2, by rw [b3, a3]; exact d3, by rw [b4, a4]; exact d4, b5, fun p hp => by rw [cN_cell a3] at hp; rw [b6 p hp, a5 p hp]; exact d6 p hp⟩
    · exact kn b (by omega) hb
  · rw [er 412]
    by_cases z : i < cN c 5
    · obtain ⟨a1, a2, a3, a4⟩ := k5 i z
      rw [hh _ (by omega), hh _ (by omega), hh _ (by omega), hh _ (by omega), a1, a2, a3, a4]
      exact rh i z
    · exact hn i (by omega) hi
  · rw [er 401, er, er]
    by_cases z : o < cN c 6
    · rw [(l6 o z).1, (l6 o z).2, (k6 o z).1, (k6 o z).2]; exact rl1 o z
    · exact l6n o (by omega) ho
  · rw [er 402, er, er]
    by_cases z : o < cN c 7
    · rw [(l7 o z).1, (l7 o z).2, (k7 o z).1, (k7 o z).2]; exact rl2 o z
    · exact l7n o (by omega) ho
/-- a good block, in the midst of a text -/
def GB (c : Nat → Int32) (w : Nat → Int64) : Prop := VB c ∧ VN c w ∧ c 304 = nI 0 ∧ ∀ b, cN c 2 ≤ b → b < 6 → c (100 + b) = m1 ∧ c (298 + b) = nI 0
section FS
variable {Yc Ym : Ly} {x t s m n : Nat} {T : Nat → Int32} {P : Nat → Prop} {hc0 hm0 hc hm : Hp} {p p0 : Nat} {c : Nat → Int32} {w : Nat → Int64}
/-- a part of a text: done, or at fault -/
def OC (Yc Ym : Ly) (x t s m n : Nat) (T : Nat → Int32) (P : Nat → Prop) (hc0 hm0 : Hp) (p0 : Nat) (rc : Option (Bool × Hp)) (rm : Option Hp) : Prop :=
  (∃ hc' hm' p' c' w', rc = some (true, hc') ∧ rm = some hm' ∧ PC Yc x t s n T P hc0 hc' p' c' c' w' ∧ PM Ym m n T hm0 hm' p' c' w' ∧ GB c' w' ∧ p0 < p') ∨
  ∃ hc' hm' k a, rc = some (false, hc') ∧ rm = some hm' ∧ FCc Yc t P hc0 hc' k a ∧ FMm Ym m hm0 hm' k a
theorem semi_bad {k a : Nat} {h : Hp} (F : FMm Ym m hm0 h k a) : ((M_isSign Ym m 59 h).bind fun q14 => M_must Ym m q14 h) = some h := by
  obtain ⟨b, e⟩ := isSign_tot (Y := Ym) (h := h) (m := m) 59
  rw [e, bind_s, m_must_b F.2.2]
theorem fin_semi (C : PC Yc x t s n T P hc0 hc p c c w) (M : PM Ym m n T hm0 hm p c w) (G : GB c w) (hp : p0 < p) :
    OC Yc Ym x t s m n T P hc0 hm0 p0 ((To_passSemicolon Yc t hc).bind fun q => some (q.1, q.2)) ((M_isSign Ym m 59 hm).bind fun q14 => M_must Ym m q14 hm) := by
  have A := c_semi C.2.2.2.1
  rw [m_sign M.2.2.1, bind_s]
  have hE := tE_bd T M.2.2.1.2.1
  have hg := tS_ge T n p
  cases z : isSc T n p with
  | true =>
    obtain ⟨h1, e1, e2, e3, _⟩ := A.1 z
    obtain ⟨h2, f1, f2, f3, f4⟩ := m_must_t M.2.2.1 M.2.2.2.1
    rw [e1, bind_s, f1]
    exact Or.inl ⟨h1, h2, tE T n p, c, w, rfl, rfl, PC_k C e2 e3, PM_k M f2 f3 f4, G, by omega⟩
  | false =>
    obtain ⟨h1, e1, e2, e3⟩ := A.2 z
    obtain ⟨h2, f1, f2, f3⟩ := m_must_f M.2.2.1 M.2.2.2.1
    rw [e1, bind_s, f1]
    exact Or.inr ⟨h1, h2, _, _, rfl, rfl, FCc_k C e2 e3, FMm_k M f2 f3⟩
end FS
