/-! ===== turns read, one behind another ===== -/
section RTS
variable {Yc Ym : Ly} {x t s rd m n : Nat} {T : Nat → Int32} {P : Nat → Prop} {hc0 hm0 hc hm h : Hp} {p p0 : Nat} {c cn cm : Nat → Int32} {w : Nat → Int64} {B mx i : Nat}
theorem rd_put {v z : Int32} (C : PC Yc x t s n T P hc0 h p c cn w) (os : isO Yc 4 s) (ot : isO Yc 7 t) (ord : isO Yc 5 rd) (prd : P rd) : PC Yc x t s n T P hc0 (hSi (hTi h (hGr h 500 rd) i v) 501 rd z) p c cn w := by
  have S := C.2.1
  have Tt := C.2.2.1
  have o6 := Tt.1 400 6 rfl s os
  have o1 := Tt.1 401 3 rfl s os
  have o2 := Tt.1 402 3 rfl s os
  have K : Kf Yc rd h (hSi (hTi h (hGr h 500 rd) i v) 501 rd z) := Kf_tr (Kf_ti rfl ord) (Kf_si (Or.inl rfl))
  have ne : ∀ f o j, cArr f = true → isO Yc (f / 100) o → f ≠ 500 → hAi (hSi (hTi h (hGr h 500 rd) i v) 501 rd z) (hGr h f o) j = hAi h (hGr h f o) j := fun f o j h1 h2 h3 => ai_oth S rfl ord h1 h2 (Or.inl h3)
  refine PC_f C K prd (isO_ne ord ot (by decide)) ot (RF_same (h := h) ⟨fun f a hf => ?_, fun _ _ _ => rfl, fun i => ne 600 _ i rfl o6 (by decide), fun i => ne 601 _ i rfl o6 (by decide), fun i => ne 602 _ i rfl o6 (by decide), fun i => ne 603 _ i rfl o6 (by decide), fun f i h1 h2 => ?_, fun f i h1 h2 => ?_⟩ C.2.2.2.2.1) (RN_o S os (isO_ne os ord (by decide)) K C.2.2.2.2.2)
  · rw [gi_si, if_neg]
    · rfl
    · intro q
      rw [q.1] at hf
      cases hf
  · refine ne f _ i ?_ (by rw [show f / 100 = 4 by omega]; exact os) (by omega)
    rcases (show f = 406 ∨ f = 407 ∨ f = 408 ∨ f = 409 ∨ f = 410 ∨ f = 411 ∨ f = 412 by omega) with e | e | e | e | e | e | e <;> (subst e; rfl)
  · rcases (show f = 300 ∨ f = 301 by omega) with e | e <;> subst e
    · exact ⟨ne 300 _ i rfl o1 (by decide), ne 300 _ i rfl o2 (by decide)⟩
    · exact ⟨ne 301 _ i rfl o1 (by decide), ne 301 _ i rfl o2 (by decide)⟩
theorem rd_zero {z : Int32} (C : PC Yc x t s n T P hc0 h p c cn w) (os : isO Yc 4 s) (ot : isO Yc 7 t) (ord : isO Yc 5 rd) (prd : P rd) : PC Yc x t s n T P hc0 (hSi h 501 rd z) p c cn w := by
  have S := C.2.1
  have K : Kf Yc rd h (hSi h 501 rd z) := Kf_si (Or.inl rfl)
  refine PC_f C K prd (isO_ne ord ot (by decide)) ot (RF_same (h := h) ⟨fun f a hf => ?_, fun _ _ _ => rfl, fun i => rfl, fun i => rfl, fun i => rfl, fun i => rfl, fun f i h1 h2 => rfl, fun f i h1 h2 => ⟨rfl, rfl⟩⟩ C.2.2.2.2.1) (RN_o S os (isO_ne os ord (by decide)) K C.2.2.2.2.2)
  rw [gi_si, if_neg]
  intro q
  rw [q.1] at hf
  cases hf
/-- the turns are read: to the semicolon, to a fault, or the class at fault where the reference stops -/
def TO (Yc Ym : Ly) (x t s rd m n : Nat) (T : Nat → Int32) (P : Nat → Prop) (hc0 hm0 : Hp) (p i B mx : Nat) (c cn c0 : Nat → Int32) (w : Nat → Int64) (rc : Option (Bool × Hp)) (rm : Option (Int32 × Hp)) : Prop :=
  (∃ hc' hm' p' cm' K, rc = some (true, hc') ∧ rm = some (nI K, hm') ∧ PC Yc x t s n T P hc0 hc' p' c cn w ∧ PM Ym m n T hm0 hm' p' cm' w ∧ isSc T n p' = true ∧ p ≤ p' ∧ i ≤ K ∧ K ≤ mx ∧ (tK T n p = 1 → i < K) ∧ hGi hc' 501 rd = nI K ∧
    (∀ j, ¬ (B ≤ j ∧ j < B + K) → cm' j = c0 j) ∧ ∀ j, j < K → hAi hc' (hGr hc' 500 rd) j = cm' (B + j) ∧ nB cm' (B + j) (cN c0 1)) ∨
  (∃ hc' hm' k a, rc = some (false, hc') ∧ rm = some (0, hm') ∧ FCc Yc t P hc0 hc' k a ∧ FMm Ym m hm0 hm' k a) ∨
  ∃ hc' hm' p' cm' K, rc = some (false, hc') ∧ rm = some (nI K, hm') ∧ FCc Yc t P hc0 hc' (flt T n p' 2) (tS T n p') ∧ PM Ym m n T hm0 hm' p' cm' w ∧ isSc T n p' = false ∧ K ≤ mx
theorem PM_bn' {c0 : Nat → Int32} (C : PM Ym m n T hm0 h p cm w) (V : VC c0) (e : ∀ so, so < 7 → cm (manyI so) = c0 (manyI so)) : BN h m 4 c0 w := by
  intro so hso
  obtain ⟨e1, e2⟩ := cnt8 V hso
  have ml := many_lt hso
  refine ⟨?_, e2, fun k hk => ?_⟩
  · rw [show 576 * 4 + manyI so = 2304 + manyI so by omega, C.2.2.2.2.1 _ (by omega), e so hso]; exact e1
  · rw [show 56 * 4 + 8 * so + k = 224 + (8 * so + k) by omega]
    exact C.2.2.2.2.2 _ (by omega)
theorem isSc_1 (z : tK T n p = 1) : isSc T n p = false := by
  unfold isSc
  rw [decide_eq_false]
  intro q
  omega
theorem mk1 : (nI (mk4 (tK T n p)) = 1) ↔ tK T n p = 1 := by
  have := tK_le T n p
  have m4 : mk4 (tK T n p) < 6 := by unfold mk4; split <;> omega
  rw [show (1 : Int32) = nI 1 from rfl, nI_eq (by omega) (by decide)]
  unfold mk4
  split <;> omega
theorem j_turns (c0 : Nat → Int32) (os : isO Yc 4 s) (ot : isO Yc 7 t) (ord : isO Yc 5 rd) (prd : P rd) (N : NQ c0 cn w) (e1 : cN cn 1 = cN c0 1) (hB : 10 ≤ B) (hB2 : B + mx ≤ 576) (hmx : mx ≤ 10) :
    ∀ F i F', i ≤ mx → mx - i < F → mx - i < F' → ∀ hc hm p cm, PC Yc x t s n T P hc0 hc p c cn w → PM Ym m n T hm0 hm p cm w → hGi hc 501 rd = nI i → (∀ j, ¬ (B ≤ j ∧ j < B + i) → cm j = c0 j) → (∀ j, j < i → hAi hc (hGr hc 500 rd) j = cm (B + j) ∧ nB cm (B + j) (cN c0 1)) →
      TO Yc Ym x t s rd m n T P hc0 hm0 p i B mx c cn c0 w (SR_readTurns_L8 Yc rd t s (nI mx) F (nI i) hc) (M_readTurns_L2 Ym m (nI (2304 + B)) (nI mx) F' (nI i) hm) := by
  intro F
  induction F with
  | zero => intro i F' _ h1; omega
  | succ F ih =>
    intro i F' hi hF hF' hc hm p cm C M e5 out val
    obtain ⟨F', rfl⟩ : ∃ q, F' = q + 1 := ⟨F' - 1, by omega⟩
    have cme : ∀ so, so < 7 → cm (manyI so) = c0 (manyI so) := fun so hso => out _ (by have := many_lt hso; omega)
    have h81 := cnt8 N.1 (so := 1) (by decide)
    obtain ⟨A1, A2⟩ := c_see C.2.1 os C.2.2.2.1 C.2.2.2.2.2 N.2.2 N.2.1 (so := 1) (by decide) (by rw [show manyI 1 = 1 from rfl, e1]; exact h81.2)
    obtain ⟨B1, B2⟩ := m_told_s (Y := Ym) M.2.1 M.2.2.1 M.2.2.2.1 (j := 4) (Nat.le_refl _) (PM_bn' M N.1 cme) (so := 1) (by decide)
    have eq : oldN T n p cn w 1 = oldN T n p c0 w 1 := by unfold oldN; rw [nmF_cn (so := 1) e1]
    rw [eq] at A1 A2
    have hb := C.2.2.2.1.2.1
    rw [SR_readTurns_L8, M_readTurns_L2, if_neg (show ¬ (10 : Int32) < nI i from fun q => by have := (nI_ltI (a := 10) (b := i) (by omega) (by omega)).mp q; omega), c_isSemi C.2.2.2.1, bind_s, if_pos M.2.2.2.1, M.2.2.1.2.2.1]
    by_cases k1 : tK T n p = 1
    · rw [isSc_1 k1, if_neg (by decide), if_pos (mk1.mpr k1)]
      cases z : oldN T n p c0 w 1 with
      | none =>
        obtain ⟨h1, a1, a2, a3⟩ := A2 z
        obtain ⟨h2, b1, b2, b3⟩ := B2 z
        have F' := FMm_k M b2 b3
        rw [show To_seeOld Yc t s 2 hc = some (false, h1) from a1, bind_s, if_neg fne, show M_told Ym m 4 1 hm = some (0, h2) from b1, bind_s, if_neg (nz_b F'), M_readTurns_J47, must_b F', bind_s, if_neg (nz_b2 F')]
        exact Or.inr (Or.inl ⟨h1, h2, _, _, rfl, rfl, FCc_k C a2 a3, F'⟩)
      | some k =>
        obtain ⟨h1, a1, a2, a3, a4⟩ := A1 k z
        have b1 := B1 k z
        have zz : isNm T n p = true := by
          unfold oldN at z
          split at z
          · assumption
          · cases z
        have kl : k < cN c0 1 := by
          unfold oldN at z
          rw [if_pos zz] at z
          exact (nmF_some z).1
        have C1 := PC_k C a2 a3
        rw [show To_seeOld Yc t s 2 hc = some (true, h1) from a1, bind_s, if_pos rfl, show M_told Ym m 4 1 hm = some (nI k, hm) from b1, bind_s, if_pos M.2.2.2.1]
        by_cases ei : i = mx
        · obtain ⟨h2, d1, d2, d3⟩ := c_blame C1.2.2.2.1 6
          obtain ⟨k2, f1, f2, f3⟩ := m_fail (Y := Ym) M.2.2.2.1 (k := 6) (a := tS T n p) (by decide) (by decide)
          have F' := FMm_k M f2 f3
          rw [flt_1 k1] at d3
          rw [if_pos (show nI mx ≤ nI i from by rw [ei]; exact Int32.le_refl _), show To_blame Yc t 6 h1 = some (false, h2) from d1, bind_s, if_pos (by rw [ei]), M.2.2.1.2.2.2.1, show M_fail Ym m 6 (nI (tS T n p)) hm = some k2 from f1, bind_s, M_readTurns_J47, must_b F', bind_s, if_neg (nz_b2 F')]
          exact Or.inr (Or.inl ⟨h2, k2, _, _, rfl, rfl, FCc_k C1 d2 d3, F'⟩)
        · obtain ⟨k2, f1, f2, f3, f4⟩ := m_must_t M.2.2.1 M.2.2.2.1
          have M1 := PM_k M f2 f3 f4
          have C2 := rd_put (i := i) (v := nI k) (z := nI (i + 1)) C1 os ot ord prd
          obtain ⟨h3, g1, g2, g3, g4⟩ := TC_adv C2.2.2.2.1
          have C3 := PC_k C2 g2 g3
          have M2 := PM_w M1 (k := B + i) (v := nI k) (by omega)
          have ib : nI (2304 + B) + nI i = nI (2304 + (B + i)) := by rw [nI_add, Nat.add_assoc]
          rw [if_neg (show ¬ nI mx ≤ nI i from fun q => by have := (nI_leI (a := mx) (b := i) (by omega) (by omega)).mp q; omega), cl500 C1.2.1 ord, if_pos (show nI i < Int32.ofNat 10 from nI_lt (b := 10) (by omega) (by omega)), if_pos (inB_nI (by omega) (by decide)), letH_e, letH_e, nI_clamp (by omega), a4, nI_1, g1, bind_s, if_neg (show ¬ nI i = nI mx from fun q => by have := (nI_eq (by omega) (by omega)).mp q; omega), M_readTurns_J47, f1, bind_s, if_pos (show hGi k2 1212 m ≤ 0 by rw [f4]; decide), ib, ml1220 M1.2.1, if_pos (inB_nI (by omega) (by decide)), letH_e, nI_clamp (by omega), nI_1]
          have e500 : hGr h3 500 rd = hGr hc 500 rd := (g2.gr 500 rd).trans (a2.gr 500 rd)
          have r5 : ∀ j, hAi h3 (hGr h3 500 rd) j = if j = i then nI k else hAi hc (hGr hc 500 rd) j := by
            intro j
            rw [g2.gr, g2.ai, gr_si, gr_ti, ai_si, ai_ti]
            by_cases q : j = i
            · rw [if_pos ⟨rfl, q⟩, if_pos q]
            · rw [if_neg (fun z => q z.2), if_neg q, a2.gr, a2.ai]
          have hpp := tE_gt (T := T) hb (by omega)
          have R := ih (i + 1) F' (by omega) (by omega) (by omega) h3 _ _ _ C3 M2 (by
              rw [g2.1 501 rd (fun q => isO_ne ord ot (by decide) q.1), gi_si, if_pos ⟨rfl, rfl⟩]) (fun j hj => by rw [pk_un (by omega)]; exact out j (by omega)) (fun j hj => by
              rw [r5]
              by_cases q : j = i
              · rw [if_pos q, q, pk_us]
                refine ⟨rfl, nB_us kl (by have := h81.2; have h9 : cN c0 1 ≤ 8 := this; omega)⟩
              · rw [if_neg q, pk_un (by omega)]
                exact ⟨(val j (by omega)).1, nB_cell (pk_un (by omega)) (val j (by omega)).2⟩)
          rcases R with ⟨hc', hm', p', cm', K, r1, r2, r3, r4, r5, r6, r7, r8, r9, r10⟩ | R | R
          · exact Or.inl ⟨hc', hm', p', cm', K, r1, r2, r3, r4, r5, by omega, by omega, r8, fun _ => by omega, r10⟩
          · exact Or.inr (Or.inl R)
          · exact Or.inr (Or.inr R)
    · rw [if_neg (fun q => k1 (mk1.mp q))]
      cases z : isSc T n p with
      | true =>
        rw [if_pos rfl]
        exact Or.inl ⟨hc, hm, p, cm, i, rfl, rfl, C, M, z, Nat.le_refl _, Nat.le_refl _, hi, fun q => absurd q k1, e5, out, val⟩
      | false =>
        have zn : isNm T n p = false := by
          cases q : isNm T n p with
          | false => rfl
          | true => exact absurd (isNm_1 q).1 k1
        have zo : oldN T n p c0 w 1 = none := by unfold oldN; rw [zn]; rfl
        obtain ⟨h1, a1, a2, a3⟩ := A2 zo
        have f3 : fltO T n p = flt T n p 2 := by unfold fltO; rw [zn]; rfl
        rw [f3] at a3
        rw [if_neg (by decide), show To_seeOld Yc t s 2 hc = some (false, h1) from a1, bind_s, if_neg fne]
        exact Or.inr (Or.inr ⟨h1, hm, p, cm, i, rfl, rfl, FCc_k C a2 a3, M, z, hi⟩)
end RTS
