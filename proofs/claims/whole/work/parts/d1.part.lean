/-! ===== a part of a text, and all parts ===== -/
section RPA
variable {Yc Ym : Ly} {x t s rd m n : Nat} {T : Nat → Int32} {P : Nat → Prop} {hc0 hm0 hc hm h : Hp} {p p0 : Nat} {c c' : Nat → Int32} {w : Nat → Int64}
theorem bff : ¬ false = true := by decide
theorem bo_pair (o : Option (Bool × Hp)) : (o.bind fun q => some (q.1, q.2)) = o := by cases o <;> rfl
theorem bo_one (o : Option Hp) : (o.bind fun q => some q) = o := by cases o <;> rfl
theorem r_part (C : PC Yc x t s n T P hc0 hc p c c w) (M : PM Ym m n T hm0 hm p c w) (G : GB c w) (os : isO Yc 4 s) (ot : isO Yc 7 t) (ord : isO Yc 5 rd) (prd : P rd) (hP : ∀ a, shR hc0 s a → P a) :
    OC Yc Ym x t s m n T P hc0 hm0 p (SR_readPart Yc rd t s hc) ((M_readPart Ym m hm).bind fun q13 => (M_isSign Ym m 59 q13).bind fun q14 => M_must Ym m q14 q13) := by
  have q : ∀ i, i < 31 → ((hGi hc 708 t = nI i) ↔ tI T n p = some i) := fun i hi => by rw [C.2.2.2.1.2.2.2.2.2.1]; exact tI_on hi
  have A := M.2.2.1
  unfold SR_readPart M_readPart
  by_cases e0 : tI T n p = some 0
  · rw [if_pos (show hGi hc 708 t = 0 from (q 0 (by decide)).mpr e0), isState_s A, bind_s, if_pos (decide_eq_true e0), bo_pair, bo_one]
    exact r_state C M G os ot hP e0
  rw [if_neg (show ¬ hGi hc 708 t = 0 from fun z => e0 ((q 0 (by decide)).mp z)), isState_s A, bind_s, decide_eq_false e0, if_neg bff]
  by_cases e2 : tI T n p = some 2
  · rw [if_pos (show hGi hc 708 t = 2 from (q 2 (by decide)).mpr e2), isTurn_s A, bind_s, if_pos (decide_eq_true e2), bo_pair, bo_one]
    exact r_turn C M G os ot hP e2
  rw [if_neg (show ¬ hGi hc 708 t = 2 from fun z => e2 ((q 2 (by decide)).mp z)), isTurn_s A, bind_s, decide_eq_false e2, if_neg bff]
  by_cases e4 : tI T n p = some 4
  · rw [if_pos (show hGi hc 708 t = 4 from (q 4 (by decide)).mpr e4), isRule_s A, bind_s, if_pos (decide_eq_true e4), bo_pair, bo_one]
    exact r_rule C M G os ot hP e4
  rw [if_neg (show ¬ hGi hc 708 t = 4 from fun z => e4 ((q 4 (by decide)).mp z)), isRule_s A, bind_s, decide_eq_false e4, if_neg bff]
  by_cases e6 : tI T n p = some 6
  · rw [if_pos (show hGi hc 708 t = 6 from (q 6 (by decide)).mpr e6), isBook_s A, bind_s, if_pos (decide_eq_true e6), bo_pair, bo_one]
    exact r_book C M G os ot ord prd hP e6
  rw [if_neg (show ¬ hGi hc 708 t = 6 from fun z => e6 ((q 6 (by decide)).mp z)), isBook_s A, bind_s, decide_eq_false e6, if_neg bff]
  by_cases e9 : tI T n p = some 9
  · rw [if_pos (show hGi hc 708 t = 9 from (q 9 (by decide)).mpr e9), isFinale_s A, bind_s, if_pos (decide_eq_true e9), bo_pair, bo_one]
    exact r_finale C M G os ot ord prd hP e9
  rw [if_neg (show ¬ hGi hc 708 t = 9 from fun z => e9 ((q 9 (by decide)).mp z)), isFinale_s A, bind_s, decide_eq_false e9, if_neg bff]
  by_cases e10 : tI T n p = some 10
  · rw [if_pos (show hGi hc 708 t = 10 from (q 10 (by decide)).mpr e10), isHint_s A, bind_s, if_pos (decide_eq_true e10), bo_pair, bo_one]
    exact r_hint C M G os ot hP e10
  rw [if_neg (show ¬ hGi hc 708 t = 10 from fun z => e10 ((q 10 (by decide)).mp z)), isHint_s A, bind_s, decide_eq_false e10, if_neg bff]
  by_cases e14 : tI T n p = some 14
  · rw [if_pos (show hGi hc 708 t = 14 from (q 14 (by decide)).mpr e14), isReader_s A, bind_s, if_pos (decide_eq_true e14), bo_pair, bo_one]
    exact r_reader C M G os ot hP e14
  rw [if_neg (show ¬ hGi hc 708 t = 14 from fun z => e14 ((q 14 (by decide)).mp z)), isReader_s A, bind_s, decide_eq_false e14, if_neg bff]
  by_cases e15 : tI T n p = some 15
  · rw [if_pos (show hGi hc 708 t = 15 from (q 15 (by decide)).mpr e15), isOffer_s A, bind_s, if_pos (decide_eq_true e15), bo_pair, bo_one]
    exact r_off C M G os ot hP e15
  rw [if_neg (show ¬ hGi hc 708 t = 15 from fun z => e15 ((q 15 (by decide)).mp z)), isOffer_s A, bind_s, decide_eq_false e15, if_neg bff]
  by_cases e18 : tI T n p = some 18
  · rw [if_pos (show hGi hc 708 t = 18 from (q 18 (by decide)).mpr e18), isWatch_s A, bind_s, if_pos (decide_eq_true e18), bo_pair, bo_one]
    exact r_wat C M G os ot hP e18
  rw [if_neg (show ¬ hGi hc 708 t = 18 from fun z => e18 ((q 18 (by decide)).mp z)), isWatch_s A, bind_s, decide_eq_false e18, if_neg bff]
  by_cases e20 : tI T n p = some 20
  · rw [if_pos (show hGi hc 708 t = 20 from (q 20 (by decide)).mpr e20), isFollows_s A, bind_s, if_pos (decide_eq_true e20), bo_pair, bo_one]
    exact r_follows C M G os ot hP e20
  rw [if_neg (show ¬ hGi hc 708 t = 20 from fun z => e20 ((q 20 (by decide)).mp z)), isFollows_s A, bind_s, decide_eq_false e20, if_neg bff]
  obtain ⟨h1, a1, a2, a3⟩ := c_blame C.2.2.2.1 2
  obtain ⟨h2, b1, b2, b3⟩ := m_amiss (Y := Ym) A M.2.2.2.1
  have F' := FMm_k M b2 b3
  rw [show To_blame Yc t 2 hc = some (false, h1) from a1, bind_s, b1, bind_s, bind_s, semi_bad F']
  exact OC_f (FCc_k C a2 a3) F'
theorem mk0 : (nI (mk4 (tK T n p)) = 0) ↔ tK T n p = 0 := by
  have := tK_le T n p
  have m4 : mk4 (tK T n p) < 6 := by unfold mk4; split <;> omega
  rw [show (0 : Int32) = nI 0 from rfl, nI_eq (by omega) (by decide)]
  unfold mk4
  split <;> omega
/-- all parts are read, or there is a fault -/
def SE (Yc Ym : Ly) (x t s m n : Nat) (T : Nat → Int32) (P : Nat → Prop) (hc0 hm0 : Hp) (rc : Option (Bool × Hp)) (rm : Option (Int32 × Hp)) : Prop :=
  (∃ hc' hm' p c w, rc = some (true, hc') ∧ rm = M_shelf_J59 Ym m hm' ∧ PC Yc x t s n T P hc0 hc' p c c w ∧ PM Ym m n T hm0 hm' p c w ∧ GB c w) ∨
  ∃ hc' hm' k a, rc = some (false, hc') ∧ rm = M_shelf_J59 Ym m hm' ∧ FCc Yc t P hc0 hc' k a ∧ FMm Ym m hm0 hm' k a
theorem r_parts (os : isO Yc 4 s) (ot : isO Yc 7 t) (ord : isO Yc 5 rd) (prd : P rd) (hP : ∀ a, shR hc0 s a → P a) (hn : n ≤ 900) :
    ∀ F i F' p, i ≤ p → n - p < F → n - p + 1 < F' → ∀ hc hm c w, PC Yc x t s n T P hc0 hc p c c w → PM Ym m n T hm0 hm p c w → GB c w →
      SE Yc Ym x t s m n T P hc0 hm0 (SR_readShelf_L12 Yc rd t s F (nI i) hc) (M_shelf_L28 Ym m F' hm) := by
  intro F
  induction F with
  | zero => intro i F' p _ h1; omega
  | succ F ih =>
    intro i F' p hi hF hF' hc hm c w C M G
    obtain ⟨F', rfl⟩ : ∃ q, F' = q + 2 := ⟨F' - 2, by omega⟩
    have hb := C.2.2.2.1.2.1
    rw [SR_readShelf_L12, M_shelf_L28, if_neg (show ¬ (900 : Int32) < nI i from fun q => by have := (nI_ltI (a := 900) (b := i) (by omega) (by omega)).mp q; omega), if_pos M.2.2.2.1, C.2.2.2.1.2.2.2.1, M.2.2.1.2.2.1]
    by_cases k0 : tK T n p = 0
    · rw [if_pos (show nI (tK T n p) = 0 by rw [k0]; rfl), if_pos (mk0.mpr k0)]
      exact Or.inl ⟨hc, hm, p, c, w, rfl, rfl, C, M, G⟩
    · have kl := tK_le T n p
      rw [if_neg (show ¬ nI (tK T n p) = 0 from fun z => k0 ((nI_eq (b := 0) (by omega) (by decide)).mp z)), if_neg (fun z => k0 (mk0.mp z))]
      have ba : (M_readPart Ym m hm).bind (fun q13 => (M_isSign Ym m 59 q13).bind fun q14 => (M_must Ym m q14 q13).bind fun q15 => M_shelf_L28 Ym m (F' + 1) q15) = ((M_readPart Ym m hm).bind fun q13 => (M_isSign Ym m 59 q13).bind fun q14 => M_must Ym m q14 q13).bind fun q15 => M_shelf_L28 Ym m (F' + 1) q15 := by
        cases M_readPart Ym m hm with
        | none => rfl
        | some a =>
          rw [bind_s, bind_s]
          cases M_isSign Ym m 59 a with
          | none => rfl
          | some b => rfl
      rw [ba]
      rcases r_part C M G os ot ord prd hP with ⟨h1, k1, p1, c1, w1, e1, e2, C1, M1, G1, hp⟩ | ⟨h1, k1, kk, aa, e1, e2, F1, F2⟩
      · have hb1 := C1.2.2.2.1.2.1
        rw [e1, e2, bind_s, bind_s, if_pos rfl, nI_1]
        exact ih (i + 1) (F' + 1) p1 (by omega) (by omega) (by omega) h1 k1 c1 w1 C1 M1 G1
      · rw [e1, e2, bind_s, bind_s, if_neg fne, M_shelf_L28, if_neg (nz_b F2)]
        exact Or.inr ⟨h1, k1, kk, aa, rfl, rfl, F1, F2⟩
end RPA
