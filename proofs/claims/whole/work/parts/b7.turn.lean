/-! ===== both read a token ===== -/
theorem nmF_cn {c cn : Nat → Int32} {w : Nat → Int64} {so : Nat} {v : Int64} (e : cN cn (manyI so) = cN c (manyI so)) : nmF cn w so v = nmF c w so v := by unfold nmF; rw [e]
/-- a class's shape, and a shelf whose names are cn -/
def NQ (c cn : Nat → Int32) (w : Nat → Int64) : Prop := VC c ∧ VN cn w ∧ nmT cn ≤ 50
section JP
variable {Yc Ym : Ly} {x t s rd m n : Nat} {T : Nat → Int32} {P : Nat → Prop} {hc0 hm0 hc hm h : Hp} {p p0 : Nat} {c cn cm : Nat → Int32} {w wm : Nat → Int64}
theorem tI_gt {i : Nat} (hp : p ≤ n) (z : tI T n p = some i) : p < tE T n p := tE_gt (T := T) hp (by rw [tI_0 z]; decide)
theorem j_old (C : PC Yc x t s n T P hc0 hc p c cn w) (M : PM Ym m n T hm0 hm p cm w) (N : NQ cm cn w) (os : isO Yc 4 s) {so : Nat} (hso : so < 7) (e : cN cn (manyI so) = cN cm (manyI so)) :
    (∃ k hc' hm', To_passOld Yc t s (nI (kindOf so)) hc = some (true, hc') ∧ M_readTold Ym m 4 (nI so) hm = some (nI k, hm') ∧ PC Yc x t s n T P hc0 hc' (tE T n p) c cn w ∧ PM Ym m n T hm0 hm' (tE T n p) cm w ∧ hGi hc' 710 t = nI k ∧ k < cN cm (manyI so) ∧ p < tE T n p) ∨
    ∃ hc' hm' k a, To_passOld Yc t s (nI (kindOf so)) hc = some (false, hc') ∧ M_readTold Ym m 4 (nI so) hm = some (0, hm') ∧ FCc Yc t P hc0 hc' k a ∧ FMm Ym m hm0 hm' k a := by
  have h8 : cN cn (manyI so) ≤ 8 := by rw [e]; exact (cnt8 N.1 hso).2
  obtain ⟨A1, A2⟩ := c_old C.2.1 os C.2.2.2.1 C.2.2.2.2.2 N.2.2 N.2.1 hso h8
  obtain ⟨B1, B2⟩ := m_readTold_s (Y := Ym) M.2.1 M.2.2.1 M.2.2.2.1 (j := 4) (Nat.le_refl _) (PM_bn M N.1) hso
  have eq : oldN T n p cn w so = oldN T n p cm w so := by unfold oldN; rw [nmF_cn e]
  rw [eq] at A1 A2
  cases z : oldN T n p cm w so with
  | some k =>
    obtain ⟨h1, a1, a2, a3, a4⟩ := A1 k z
    obtain ⟨h2, b1, b2, b3, b4⟩ := B1 k z
    have zz : isNm T n p = true := by
      unfold oldN at z
      split at z
      · assumption
      · cases z
    have kl : k < cN cm (manyI so) := by
      unfold oldN at z
      rw [if_pos zz] at z
      exact (nmF_some z).1
    exact Or.inl ⟨k, h1, h2, a1, b1, PC_k C a2 a3, PM_k M b2 b3 b4, a4, kl, tE_gt (T := T) C.2.2.2.1.2.1 (isNm_0 zz)⟩
  | none =>
    obtain ⟨h1, a1, a2, a3⟩ := A2 z
    obtain ⟨h2, b1, b2, b3⟩ := B2 z
    exact Or.inr ⟨h1, h2, _, _, a1, b1, FCc_k C a2 a3, FMm_k M b2 b3⟩
theorem j_word (C : PC Yc x t s n T P hc0 hc p c cn w) (M : PM Ym m n T hm0 hm p cm wm) {i : Nat} (hi : i < 31) :
    (∃ hc' hm', To_passWord Yc t (nI i) hc = some (true, hc') ∧ M_must Ym m (decide (tI T n p = some i)) hm = some hm' ∧ PC Yc x t s n T P hc0 hc' (tE T n p) c cn w ∧ PM Ym m n T hm0 hm' (tE T n p) cm wm ∧ hGi hc' 710 t = hGi hc 710 t ∧ p < tE T n p) ∨
    ∃ hc' hm' k a, To_passWord Yc t (nI i) hc = some (false, hc') ∧ M_must Ym m (decide (tI T n p = some i)) hm = some hm' ∧ FCc Yc t P hc0 hc' k a ∧ FMm Ym m hm0 hm' k a := by
  obtain ⟨A1, A2⟩ := c_word C.2.2.2.1 hi
  by_cases z : tI T n p = some i
  · obtain ⟨h1, a1, a2, a3, a4⟩ := A1 z
    obtain ⟨h2, b1, b2, b3, b4⟩ := m_must_t M.2.2.1 M.2.2.2.1
    rw [decide_eq_true z]
    exact Or.inl ⟨h1, h2, a1, b1, PC_k C a2 a3, PM_k M b2 b3 b4, a4, tI_gt C.2.2.2.1.2.1 z⟩
  · obtain ⟨h1, a1, a2, a3⟩ := A2 z
    obtain ⟨h2, b1, b2, b3⟩ := m_must_f M.2.2.1 M.2.2.2.1
    rw [decide_eq_false z]
    exact Or.inr ⟨h1, h2, _, _, a1, b1, FCc_k C a2 a3, FMm_k M b2 b3⟩
theorem j_num (C : PC Yc x t s n T P hc0 hc p c cn w) (M : PM Ym m n T hm0 hm p cm wm) {lo hi : Nat} (hl : lo < 2 ^ 30) (hh : hi < 2 ^ 30) :
    (∃ k hc' hm', To_passNumber Yc t (nI lo) (nI hi) hc = some (true, hc') ∧ M_count Ym m (nI lo) (nI hi) hm = some (nI k, hm') ∧ PC Yc x t s n T P hc0 hc' (tE T n p) c cn w ∧ PM Ym m n T hm0 hm' (tE T n p) cm wm ∧ hGi hc' 710 t = nI k ∧ (lo ≤ k ∧ k ≤ hi) ∧ p < tE T n p) ∨
    ∃ hc' hm' k a, To_passNumber Yc t (nI lo) (nI hi) hc = some (false, hc') ∧ M_count Ym m (nI lo) (nI hi) hm = some (0, hm') ∧ FCc Yc t P hc0 hc' k a ∧ FMm Ym m hm0 hm' k a := by
  obtain ⟨A1, A2⟩ := c_num C.2.2.2.1 hl hh
  obtain ⟨B1, B2⟩ := m_count_s (Y := Ym) M.2.2.1 M.2.2.2.1 hl hh
  cases z : okNum T n p lo hi with
  | true =>
    obtain ⟨h1, a1, a2, a3, a4⟩ := A1 z
    obtain ⟨h2, b1, b2, b3, b4⟩ := B1 z
    have z' := of_decide_eq_true z
    exact Or.inl ⟨_, h1, h2, a1, b1, PC_k C a2 a3, PM_k M b2 b3 b4, a4, z'.2, tE_gt (T := T) C.2.2.2.1.2.1 (by omega)⟩
  | false =>
    obtain ⟨h1, a1, a2, a3⟩ := A2 z
    obtain ⟨h2, b1, b2, b3⟩ := B2 z
    exact Or.inr ⟨h1, h2, _, _, a1, b1, FCc_k C a2 a3, FMm_k M b2 b3⟩
theorem j_adv (C : PC Yc x t s n T P hc0 hc p c cn w) (M : PM Ym m n T hm0 hm p cm wm) :
    ∃ hc' hm', To_advance Yc t hc = some hc' ∧ M_advance Ym m hm = some hm' ∧ PC Yc x t s n T P hc0 hc' (tE T n p) c cn w ∧ PM Ym m n T hm0 hm' (tE T n p) cm wm ∧ hGi hc' 710 t = hGi hc 710 t := by
  obtain ⟨h1, a1, a2, a3, a4⟩ := TC_adv C.2.2.2.1
  obtain ⟨h2, b1, b2, b3, b4, _⟩ := TP_adv M.2.2.1
  exact ⟨h1, h2, a1, b1, PC_k C a2 a3, PM_k M b2 b3 (b4.trans M.2.2.2.1), a4⟩
theorem OC_f {hc' hm' : Hp} {k a : Nat} (F : FCc Yc t P hc0 hc' k a) (F' : FMm Ym m hm0 hm' k a) : OC Yc Ym x t s m n T P hc0 hm0 p0 (some (false, hc')) (some hm') := Or.inr ⟨hc', hm', k, a, rfl, rfl, F, F'⟩
theorem must_b {k a : Nat} (F : FMm Ym m hm0 hm k a) (b : Bool) : M_must Ym m b hm = some hm := m_must_b F.2.2 b
theorem told_b {k a : Nat} (F : FMm Ym m hm0 hm k a) (j so : Int32) : M_readTold Ym m j so hm = some (0, hm) := m_readTold_b F.2.2 j so
theorem nz_b {k a : Nat} (F : FMm Ym m hm0 hm k a) : ¬ hGi hm 1212 m = 0 := (BF_nz F.2.2).1
theorem nz_b2 {k a : Nat} (F : FMm Ym m hm0 hm k a) : ¬ hGi hm 1212 m ≤ 0 := (BF_nz F.2.2).2
/-- one array of a shelf changed: the others not -/
theorem ai_oth {f0 o0 i j f o : Nat} {v : Int32} (S : CS Yc h x) (hf0 : cArr f0 = true) (ho0 : isO Yc (f0 / 100) o0) (hf : cArr f = true) (ho : isO Yc (f / 100) o) (ne : f ≠ f0 ∨ o ≠ o0) : hAi (hTi h (hGr h f0 o0) i v) (hGr h f o) j = hAi h (hGr h f o) j := by
  rw [ai_ti, if_neg]
  intro z
  have := S.2.2.2.1 f f0 o o0 hf hf0 ho ho0 z.1
  rcases ne with q | q
  · exact q this.1
  · exact q this.2
theorem ai_sam {A i j : Nat} {v : Int32} (ne : j ≠ i) : hAi (hTi h A i v) A j = hAi h A j := by rw [ai_ti, if_neg (fun z => ne z.2)]
theorem ai_at {A i : Nat} {v : Int32} : hAi (hTi h A i v) A i = v := by rw [ai_ti, if_pos ⟨rfl, rfl⟩]
theorem RC_1 {h' : Hp} {c' : Nat → Int32} {f0 i0 : Nat} (R : RC h s c) (er : ∀ f a, hGr h' f a = hGr h f a) (hf : (f0 = 605 ∧ i0 = 1) ∨ (f0 = 415 ∧ i0 = 2) ∨ (f0 = 607 ∧ i0 = 3) ∨ (f0 = 418 ∧ i0 = 5)) (g : ∀ f a, f ≠ f0 → hGi h' f a = hGi h f a) (e : ∀ i, i < 10 → i ≠ i0 → c' i = c i)
    (nw : hGi h' f0 (if f0 = 605 ∨ f0 = 607 then hGr h 400 s else s) = c' i0) : RC h' s c' := by
  obtain ⟨r0, r1, r2, r3, r4, r5, r6, r7, r8, r9⟩ := R
  unfold RC
  rw [er 400, er 401, er 402]
  rcases hf with ⟨a, b⟩ | ⟨a, b⟩ | ⟨a, b⟩ | ⟨a, b⟩ <;> subst a <;> subst b
  · rw [if_pos (by decide)] at nw
    exact ⟨(g 604 _ (by decide)).trans (r0.trans (e 0 (by decide) (by decide)).symm), nw, (g 415 _ (by decide)).trans (r2.trans (e 2 (by decide) (by decide)).symm), (g 607 _ (by decide)).trans (r3.trans (e 3 (by decide) (by decide)).symm), (g 416 _ (by decide)).trans (r4.trans (e 4 (by decide) (by decide)).symm), (g 418 _ (by decide)).trans (r5.trans (e 5 (by decide) (by decide)).symm), (g 302 _ (by decide)).trans (r6.trans (e 6 (by decide) (by decide)).symm), (g 302 _ (by decide)).trans (r7.trans (e 7 (by decide) (by decide)).symm), (g 606 _ (by decide)).trans (r8.trans (e 8 (by decide) (by decide)).symm), (g 417 _ (by decide)).trans (r9.trans (e 9 (by decide) (by decide)).symm)⟩
  · rw [if_neg (by decide)] at nw
    exact ⟨(g 604 _ (by decide)).trans (r0.trans (e 0 (by decide) (by decide)).symm), (g 605 _ (by decide)).trans (r1.trans (e 1 (by decide) (by decide)).symm), nw, (g 607 _ (by decide)).trans (r3.trans (e 3 (by decide) (by decide)).symm), (g 416 _ (by decide)).trans (r4.trans (e 4 (by decide) (by decide)).symm), (g 418 _ (by decide)).trans (r5.trans (e 5 (by decide) (by decide)).symm), (g 302 _ (by decide)).trans (r6.trans (e 6 (by decide) (by decide)).symm), (g 302 _ (by decide)).trans (r7.trans (e 7 (by decide) (by decide)).symm), (g 606 _ (by decide)).trans (r8.trans (e 8 (by decide) (by decide)).symm), (g 417 _ (by decide)).trans (r9.trans (e 9 (by decide) (by decide)).symm)⟩
  · rw [if_pos (by decide)] at nw
    exact ⟨(g 604 _ (by decide)).trans (r0.trans (e 0 (by decide) (by decide)).symm), (g 605 _ (by decide)).trans (r1.trans (e 1 (by decide) (by decide)).symm), (g 415 _ (by decide)).trans (r2.trans (e 2 (by decide) (by decide)).symm), nw, (g 416 _ (by decide)).trans (r4.trans (e 4 (by decide) (by decide)).symm), (g 418 _ (by decide)).trans (r5.trans (e 5 (by decide) (by decide)).symm), (g 302 _ (by decide)).trans (r6.trans (e 6 (by decide) (by decide)).symm), (g 302 _ (by decide)).trans (r7.trans (e 7 (by decide) (by decide)).symm), (g 606 _ (by decide)).trans (r8.trans (e 8 (by decide) (by decide)).symm), (g 417 _ (by decide)).trans (r9.trans (e 9 (by decide) (by decide)).symm)⟩
  · rw [if_neg (by decide)] at nw
    exact ⟨(g 604 _ (by decide)).trans (r0.trans (e 0 (by decide) (by decide)).symm), (g 605 _ (by decide)).trans (r1.trans (e 1 (by decide) (by decide)).symm), (g 415 _ (by decide)).trans (r2.trans (e 2 (by decide) (by decide)).symm), (g 607 _ (by decide)).trans (r3.trans (e 3 (by decide) (by decide)).symm), (g 416 _ (by decide)).trans (r4.trans (e 4 (by decide) (by decide)).symm), nw, (g 302 _ (by decide)).trans (r6.trans (e 6 (by decide) (by decide)).symm), (g 302 _ (by decide)).trans (r7.trans (e 7 (by decide) (by decide)).symm), (g 606 _ (by decide)).trans (r8.trans (e 8 (by decide) (by decide)).symm), (g 417 _ (by decide)).trans (r9.trans (e 9 (by decide) (by decide)).symm)⟩
theorem NQ_same (G : GB c w) : NQ c c w := ⟨G.1.1, G.2.1, nmT_le G.1.1⟩
end JP
