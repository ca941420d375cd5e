/-! ===== books read, one behind another ===== -/
section RBS
variable {Yc Ym : Ly} {x t s lo m n : Nat} {T : Nat → Int32} {P : Nat → Prop} {hc0 hm0 hc hm h : Hp} {p p0 : Nat} {c cn cm : Nat → Int32} {w : Nat → Int64} {cost : Int32}
def BO (Yc Ym : Ly) (x t s lo m n : Nat) (T : Nat → Int32) (P : Nat → Prop) (hc0 hm0 : Hp) (p : Nat) (c cn cm : Nat → Int32) (w : Nat → Int64) (cost : Int32) (rc : Option (Bool × Hp)) (rm : Option (Int32 × Hp)) : Prop :=
  (∃ hc' hm' p' V, rc = ((Lo_addOne Yc lo cost (nI V) hc').bind fun q18 => (To_passSemicolon Yc t q18).bind fun q19 => some (q19.1, q19.2)) ∧ rm = some (nI V, hm') ∧ PC Yc x t s n T P hc0 hc' p' c cn w ∧ PM Ym m n T hm0 hm' p' cm w ∧ isSc T n p' = true ∧ p ≤ p' ∧ V < 2 ^ cN cm 2) ∨
  (∃ hc' hm' k a v, rc = some (false, hc') ∧ rm = some (v, hm') ∧ FCc Yc t P hc0 hc' k a ∧ FMm Ym m hm0 hm' k a) ∨
  ∃ hc' hm' p' v, rc = some (false, hc') ∧ rm = some (v, hm') ∧ FCc Yc t P hc0 hc' (flt T n p' 2) (tS T n p') ∧ PM Ym m n T hm0 hm' p' cm w ∧ isSc T n p' = false
theorem j_books (os : isO Yc 4 s) (ot : isO Yc 7 t) (N : NQ cm cn w) (e2 : cN cn 2 = cN cm 2) (hn : n ≤ 900) :
    ∀ F i V F' p, i ≤ p → n - p < F → n - p < F' → V < 2 ^ cN cm 2 → ∀ hc hm, PC Yc x t s n T P hc0 hc p c cn w → PM Ym m n T hm0 hm p cm w →
      BO Yc Ym x t s lo m n T P hc0 hm0 p c cn cm w cost (SR_readLot_L76 Yc t s lo cost F (nI V) (nI i) hc) (M_readBooks_L2 Ym m F' (nI V) hm) := by
  intro F
  induction F with
  | zero => intro i V F' p _ h1; omega
  | succ F ih =>
    intro i V F' p hi hF hF' hV hc hm C M
    obtain ⟨F', rfl⟩ : ∃ q, F' = q + 1 := ⟨F' - 1, by omega⟩
    have hb := C.2.2.2.1.2.1
    have h82 := cnt8 N.1 (so := 2) (by decide)
    have l6 : cN cm 2 ≤ 6 := by
      have := N.1.2.2.1.2
      omega
    rw [SR_readLot_L76, M_readBooks_L2, if_neg (show ¬ (900 : Int32) < nI i from fun q => by have := (nI_ltI (a := 900) (b := i) (by omega) (by omega)).mp q; omega), c_isSemi C.2.2.2.1, bind_s, if_pos M.2.2.2.1, M.2.2.1.2.2.1]
    by_cases k1 : tK T n p = 1
    · rw [isSc_1 k1, if_neg (by decide), if_pos (mk1.mpr k1)]
      rcases j_old C M N os (so := 2) (by decide) e2 with ⟨k, h1, k1', a1, b1, C1, M1, ek, hk, hp1⟩ | ⟨h1, k1', kk, aa, a1, b1, F1, F2⟩
      · have hk' : k < cN cm 2 := hk
        have pk : 2 ^ k < 2 ^ cN cm 2 := Nat.pow_lt_pow_right (by decide) hk'
        have hb1 := C1.2.2.2.1.2.1
        rw [show To_passOld Yc t s 6 hc = some (true, h1) from a1, bind_s, if_pos rfl, show M_readTold Ym m 4 2 hm = some (nI k, k1') from b1, bind_s, ek, sh31 (by omega), zor, nI_1]
        have R := ih (i + 1) (V ||| 2 ^ k) F' (tE T n p) (by omega) (by omega) (by omega) (Nat.or_lt_two_pow hV pk) h1 k1' C1 M1
        rcases R with ⟨hc', hm', p', V', r1, r2, r3, r4, r5, r6, r7⟩ | R | R
        · exact Or.inl ⟨hc', hm', p', V', r1, r2, r3, r4, r5, by omega, r7⟩
        · exact Or.inr (Or.inl R)
        · exact Or.inr (Or.inr R)
      · rw [show To_passOld Yc t s 6 hc = some (false, h1) from a1, bind_s, if_neg fne, show M_readTold Ym m 4 2 hm = some (0, k1') from b1, bind_s]
        have hF0 : ∃ q, F' = q + 1 := ⟨F' - 1, by have := tE_gt (T := T) hb (by omega); have h3 := (tE_bd T hb).2.1; omega⟩
        obtain ⟨q, rfl⟩ := hF0
        rw [M_readBooks_L2, if_neg (nz_b F2)]
        exact Or.inr (Or.inl ⟨h1, k1', kk, aa, _, rfl, rfl, F1, F2⟩)
    · rw [if_neg (fun q => k1 (mk1.mp q))]
      cases z : isSc T n p with
      | true =>
        rw [if_pos rfl]
        exact Or.inl ⟨hc, hm, p, V, rfl, rfl, C, M, z, Nat.le_refl _, hV⟩
      | false =>
        have zn : isNm T n p = false := by
          cases q : isNm T n p with
          | false => rfl
          | true => exact absurd (isNm_1 q).1 k1
        have zo : oldN T n p cn w 2 = none := by unfold oldN; rw [zn]; rfl
        obtain ⟨_, A2⟩ := c_old C.2.1 os C.2.2.2.1 C.2.2.2.2.2 N.2.2 N.2.1 (so := 2) (by decide) (by rw [show manyI 2 = 2 from rfl, e2]; omega)
        obtain ⟨h1, a1, a2, a3⟩ := A2 zo
        have f3 : fltO T n p = flt T n p 2 := by unfold fltO; rw [zn]; rfl
        rw [f3] at a3
        rw [if_neg (by decide), show To_passOld Yc t s 6 hc = some (false, h1) from a1, bind_s, if_neg fne]
        exact Or.inr (Or.inr ⟨h1, hm, p, _, rfl, rfl, FCc_k C a2 a3, M, z⟩)
end RBS
