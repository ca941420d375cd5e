/-! ===== weeks: one step, up to its semicolon ===== -/
/-- what stays the same while weeks are read -/
def WX (Yc Ym : Ly) (x t s wk wr m n : Nat) (T : Nat → Int32) (P : Nat → Prop) (hc0 hm0 : Hp) (cL c : Nat → Int32) (w w4 : Nat → Int64) : Prop := isO Yc 4 s ∧ isO Yc 7 t ∧ isO Yc 9 wk ∧ isO Yc 10 wr ∧ P wk ∧ P wr ∧ NQ c c w ∧ BN hm0 m 0 c w ∧ n ≤ 300
def mxC (c c4 : Nat → Int32) (i : Nat) : Int32 := if i < 306 then c i else c4 i
def HO (Yc Ym : Ly) (x t s wk wr m n : Nat) (T : Nat → Int32) (P : Nat → Prop) (hc0 hm0 : Hp) (cL c : Nat → Int32) (w w4 : Nat → Int64) (hc hm : Hp) (p R S d d' : Nat) (c4 : Nat → Int32) (Q : (Nat → Nat → Int32) → (Nat → Int32) → Prop) (rc : Option (Bool × Hp)) (rm : Option Hp) : Prop :=
  (∃ hc' hm' p' c4', rc = some (true, hc') ∧ rm = some hm' ∧ PC Yc x t s n T P hc0 hc' p' cL c w ∧ PM Ym m n T hm0 hm' p' c4' w4 ∧ p ≤ p' ∧ (hGi hm' 1224 m = hGi hm 1224 m ∧ hGi hc' 905 wk = hGi hc 905 wk) ∧ hGi hc' 906 wk = nI (R + 1) ∧ hGi hc' 907 wk = nI (S + 1) ∧ hGi hc' 1001 wr = nI d' ∧
    (∀ f i, 900 ≤ f → f ≤ 904 → i < R → hAi hc' (hGr hc0 f wk) i = hAi hc (hGr hc0 f wk) i) ∧ (∀ j, j < d → hAi hc' (hGr hc0 1000 wr) j = hAi hc (hGr hc0 1000 wr) j) ∧ (d' = d + 1 → hAi hc' (hGr hc0 1000 wr) d = nI R) ∧
    (∀ i, i < 307 + 9 * S → c4' i = c4 i) ∧ Q (fun f => hAi hc' (hGr hc0 f wk)) (mxC c c4')) ∨
  ∃ hc' hm' k a, rc = some (false, hc') ∧ rm = some hm' ∧ FCc Yc t P hc0 hc' k a ∧ FMm Ym m hm0 hm' k a
section HDR
variable {Yc Ym : Ly} {x t s wk wr m n : Nat} {T : Nat → Int32} {P : Nat → Prop} {hc0 hm0 hc hm h : Hp} {p R S d d' : Nat} {cL c c4 : Nat → Int32} {w w4 : Nat → Int64}
theorem mx_2 : cN (mxC c c4) 2 = cN c 2 := cN_cell (if_pos (by decide))
theorem mx_3 : cN (mxC c c4) 3 = cN c 3 := cN_cell (if_pos (by decide))
theorem mx_4 : cN (mxC c c4) 4 = cN c 4 := cN_cell (if_pos (by decide))
theorem mx_i {i : Nat} (hi : 306 ≤ i) : mxC c c4 i = c4 i := if_neg (by omega)
theorem HO_mo {Q Q' : (Nat → Nat → Int32) → (Nat → Int32) → Prop} {rc : Option (Bool × Hp)} {rm : Option Hp} (H : HO Yc Ym x t s wk wr m n T P hc0 hm0 cL c w w4 hc hm p R S d d' c4 Q rc rm) (q : ∀ A cc, (∀ i, 306 ≤ i → i < 307 + 9 * S → cc i = c4 i) → cN cc 2 = cN c 2 → cN cc 3 = cN c 3 → cN cc 4 = cN c 4 → Q A cc → Q' A cc) : HO Yc Ym x t s wk wr m n T P hc0 hm0 cL c w w4 hc hm p R S d d' c4 Q' rc rm := by
  rcases H with ⟨hc', hm', p', c4', a1, a2, a3, a4, a5, a6, a7, a8, a9, a10, a11, a12, a13, a14⟩ | H
  · exact Or.inl ⟨hc', hm', p', c4', a1, a2, a3, a4, a5, a6, a7, a8, a9, a10, a11, a12, a13, q _ _ (fun i h1 h2 => (mx_i h1).trans (a13 i h2)) mx_2 mx_3 mx_4 a14⟩
  · exact Or.inr H
theorem HO_f {Q : (Nat → Nat → Int32) → (Nat → Int32) → Prop} {hc' hm' : Hp} {k a : Nat} (F : FCc Yc t P hc0 hc' k a) (F' : FMm Ym m hm0 hm' k a) : HO Yc Ym x t s wk wr m n T P hc0 hm0 cL c w w4 hc hm p R S d d' c4 Q (some (false, hc')) (some hm') := Or.inr ⟨hc', hm', k, a, rfl, rfl, F, F'⟩
theorem gr0 {p' : Nat} {h' : Hp} (C : PC Yc x t s n T P hc0 h' p' cL c w) (f y : Nat) : hGr hc0 f y = hGr h' f y := (C.1.2.2.1 f y).symm
/-- the class puts its row down -/
theorem fin_row (X : WX Yc Ym x t s wk wr m n T P hc0 hm0 cL c w w4) (C : PC Yc x t s n T P hc0 h p cL c w) (e6 : hGi h 906 wk = nI R) (e1 : hGi h 1001 wr = nI d) (ne : wk ≠ wr) {a b e f : Int32} :
    PC Yc x t s n T P hc0 (arH h wk R (S + 1) a b e f) p cL c w ∧ hGi (arH h wk R (S + 1) a b e f) 906 wk = nI (R + 1) ∧ hGi (arH h wk R (S + 1) a b e f) 907 wk = nI (S + 1) ∧ hGi (arH h wk R (S + 1) a b e f) 1001 wr = nI d ∧
    (∀ A i, i < R → hAi (arH h wk R (S + 1) a b e f) A i = hAi h A i) ∧ (∀ j, hAi (arH h wk R (S + 1) a b e f) (hGr hc0 1000 wr) j = hAi h (hGr hc0 1000 wr) j) ∧
    hAi (arH h wk R (S + 1) a b e f) (hGr hc0 900 wk) R = a ∧ hAi (arH h wk R (S + 1) a b e f) (hGr hc0 901 wk) R = e ∧ hAi (arH h wk R (S + 1) a b e f) (hGr hc0 902 wk) R = b ∧ hAi (arH h wk R (S + 1) a b e f) (hGr hc0 903 wk) R = f := by
  obtain ⟨os, ot, ow, or_, pw, pr, N, B0, n3⟩ := X
  have A := ar_at (a := a) (b := b) (e := e) (f := f) (R := R) (S := S + 1) C.2.1 ow
  have K := ar_kf (h := h) (a := a) (b := b) (e := e) (f := f) (R := R) (S := S + 1) ow
  rw [gr0 C 1000, gr0 C 900, gr0 C 901, gr0 C 902, gr0 C 903]
  exact ⟨PC_own C K pw 9 ow (Or.inl rfl) os ot, ar_6, ar_7, (ar_gi (fun z => ne z.1.symm)).trans e1, fun A i hi => ar_ne (by omega), fun j => by rw [(Kf_ai K C.2.1 (fun z => ne z.symm) rfl or_).1], A.1, A.2.1, A.2.2.1, A.2.2.2.1⟩
theorem fin_open (X : WX Yc Ym x t s wk wr m n T P hc0 hm0 cL c w w4) (C : PC Yc x t s n T P hc0 h p cL c w) (e6 : hGi h 906 wk = nI R) (e7 : hGi h 907 wk = nI S) (ne : wk ≠ wr) :
    PC Yc x t s n T P hc0 (opH h wr d R) p cL c w ∧ hGi (opH h wr d R) 906 wk = nI R ∧ hGi (opH h wr d R) 907 wk = nI S ∧ hGi (opH h wr d R) 1001 wr = nI (d + 1) ∧
    (∀ g i, 900 ≤ g → g ≤ 904 → hAi (opH h wr d R) (hGr hc0 g wk) i = hAi h (hGr hc0 g wk) i) ∧ (∀ j, j < d → hAi (opH h wr d R) (hGr hc0 1000 wr) j = hAi h (hGr hc0 1000 wr) j) ∧ hAi (opH h wr d R) (hGr hc0 1000 wr) d = nI R ∧ ∀ f y, f ≠ 1001 → hGi (opH h wr d R) f y = hGi h f y := by
  obtain ⟨os, ot, ow, or_, pw, pr, N, B0, n3⟩ := X
  have K := op_kf (h := h) (d := d) (R := R) or_
  have gi : ∀ f y, f ≠ 1001 → hGi (opH h wr d R) f y = hGi h f y := fun f y hf => by unfold opH; rw [gi_si, if_neg (fun z => hf z.1)]; rfl
  refine ⟨PC_own C K pr 10 or_ (Or.inr rfl) os ot, (gi 906 _ (by decide)).trans e6, (gi 907 _ (by decide)).trans e7, op_1, fun g i h1 h2 => ?_, fun j hj => ?_, ?_, gi⟩
  · rw [gr0 C g, (Kf_ai K C.2.1 ne ?_ (by rw [show g / 100 = 9 by omega]; exact ow)).1]
    rcases (show g = 900 ∨ g = 901 ∨ g = 902 ∨ g = 903 ∨ g = 904 by omega) with e | e | e | e | e <;> (subst e; rfl)
  · rw [gr0 C 1000]; exact op_ne (by omega)
  · rw [gr0 C 1000]; exact op_at
theorem tk_fr {h' : Hp} (A : Tk t h h') (f y : Nat) (hf : ¬ (704 ≤ f ∧ f ≤ 712)) : hGi h' f y = hGi h f y := A.1 f y (fun z => hf z.2)
theorem lk (S k : Nat) : nI (2304 + (306 + 9 * S)) + nI k = nI (2304 + (306 + k + 9 * S)) := by rw [nI_add, show 2304 + (306 + 9 * S) + k = 2304 + (306 + k + 9 * S) by omega]
theorem hd_told (X : WX Yc Ym x t s wk wr m n T P hc0 hm0 cL c w w4) (ne : wk ≠ wr) (C : PC Yc x t s n T P hc0 hc p cL c w) (M : PM Ym m n T hm0 hm p c4 w4) (e6 : hGi hc 906 wk = nI R) (e7 : hGi hc 907 wk = nI S) (e1 : hGi hc 1001 wr = nI d) (hS : S < 30) (hR : R < 60) {kk so wd : Nat} (hso : so < 7) (hk : 0 < kk ∧ kk < 5) (hw : wd ≠ 29 ∧ wd < 40) :
    HO Yc Ym x t s wk wr m n T P hc0 hm0 cL c w w4 hc hm p R S d d c4 (fun A cc => A 900 R = nI wd ∧ A 902 R = cc (307 + 9 * S) ∧ nB cc (307 + 9 * S) (cN c (manyI so))) (WR_readAbout Yc wr t s wk (nI wd) (nI (kindOf so)) hc)
      (M_readRest_J67 Ym m (nI (2304 + (306 + 9 * S))) (nI kk) (nI so) false m (nI (2304 + (306 + 9 * S)) + 1) (hGr hm 1220 m) hm) := by
  have X' := X
  obtain ⟨os, ot, ow, or_, pw, pr, N, B0, n3⟩ := X'
  have J : JT Yc Ym t m n T hc hm p := ⟨C.2.2.2.1, M.2.2.1, M.2.2.2.1⟩
  have l1 := lk S 1
  unfold WR_readAbout M_readRest_J67
  rw [show nI (2304 + (306 + 9 * S)) + 1 = nI (2304 + (307 + 9 * S)) from l1]
  rcases wj_old J C.2.1 os C.2.2.2.2.2 N M.2.1 (BN_m M.1 B0) hso with ⟨b, h1, k1, a1, b1, tk1, tm1, J1, q1, hb, hp1⟩ | ⟨h1, k1, k0, a0, a1, b1, tk1, tm1, F, F'⟩
  · have C1 := PC_k C tk1 J1.1
    have M1 := PM_k M tm1 J1.2.1 J1.2.2
    have M2 := PM_w M1 (k := 307 + 9 * S) (v := nI b) (by omega)
    have b8 := (cnt8 N.1 hso).2
    rw [a1, bind_s, if_pos rfl, show M_readTold Ym m (b2i false) (nI so) hm = some (nI b, k1) from b1, bind_s, ← tm1.gr 1220 m, ml1220 M1.2.1, if_pos (inB_nI (by omega) (by decide)), letH_e, nI_clamp (by omega), if_neg (show ¬ nI kk = 0 from fun z => by have := (nI_eq (b := 0) (by omega) (by decide)).mp z; omega), q1, addRow_s C1.2.1 ow ((tk_fr tk1 906 wk (by omega)).trans e6) ((tk_fr tk1 907 wk (by omega)).trans e7) hR, if_neg (show ¬ nI wd = 29 from fun z => hw.1 ((nI_eq (b := 29) (by omega) (by decide)).mp z)), bind_s]
    obtain ⟨f1, f2, f3, f4, f5, f6, f7, f8, f9, f10⟩ := fin_row (S := S) (a := nI wd) (b := nI b) (e := 0) (f := 0) X C1 ((tk_fr tk1 906 wk (by omega)).trans e6) ((tk_fr tk1 1001 wr (by omega)).trans e1) ne
    refine Or.inl ⟨_, _, _, _, rfl, rfl, f1, M2, by omega, ⟨tm1.1 1224 m (by omega), (ar_gi (by omega)).trans (tk_fr tk1 905 wk (by omega))⟩, f2, f3, f4, fun f i _ _ hi => by rw [f5 _ i hi, tk1.ai], fun j _ => by rw [f6 j, tk1.ai], fun z => by omega, fun i hi => pk_un (by omega), f7, ?_, ?_⟩
    · rw [mx_i (by omega), pk_us]; exact f9
    · exact nB_v (by rw [mx_i (by omega), pk_us]) hb (by omega)
  · have F1 := FMm_k M tm1 F'
    have F2 := FMm_w F1 (j := 307 + 9 * S) (v := 0)
    rw [a1, bind_s, if_neg fne, show M_readTold Ym m (b2i false) (nI so) hm = some (0, k1) from b1, bind_s, ← tm1.gr 1220 m, ml1220 F1.2.1, if_pos (inB_nI (by omega) (by decide)), letH_e, nI_clamp (by omega), if_neg (show ¬ nI kk = 0 from fun z => by have := (nI_eq (b := 0) (by omega) (by decide)).mp z; omega)]
    exact HO_f (FCc_k C tk1 F) F2
theorem hd_bind (X : WX Yc Ym x t s wk wr m n T P hc0 hm0 cL c w w4) (ne : wk ≠ wr) (C : PC Yc x t s n T P hc0 hc p cL c w) (M : PM Ym m n T hm0 hm p c4 w4) (e6 : hGi hc 906 wk = nI R) (e7 : hGi hc 907 wk = nI S) (e1 : hGi hc 1001 wr = nI d) (hS : S < 30) (hR : R < 60) :
    HO Yc Ym x t s wk wr m n T P hc0 hm0 cL c w w4 hc hm p R S d d c4 (fun A cc => A 900 R = nI 21 ∧ A 902 R = cc (307 + 9 * S) ∧ A 903 R = cc (308 + 9 * S) ∧ nB cc (307 + 9 * S) (cN c 2) ∧ nB cc (308 + 9 * S) (cN c 3)) (WR_readBind Yc wr t s wk hc)
      (M_readRest_J67 Ym m (nI (2304 + (306 + 9 * S))) (nI 0) (nI 2) false m (nI (2304 + (306 + 9 * S)) + 1) (hGr hm 1220 m) hm) := by
  have X' := X
  obtain ⟨os, ot, ow, or_, pw, pr, N, B0, n3⟩ := X'
  have J : JT Yc Ym t m n T hc hm p := ⟨C.2.2.2.1, M.2.2.1, M.2.2.2.1⟩
  have l1 := lk S 1
  have l2 := lk S 2
  unfold WR_readBind M_readRest_J67
  rw [show nI (2304 + (306 + 9 * S)) + 1 = nI (2304 + (307 + 9 * S)) from l1, show nI (2304 + (306 + 9 * S)) + 2 = nI (2304 + (308 + 9 * S)) from l2]
  rcases wj_old J C.2.1 os C.2.2.2.2.2 N M.2.1 (BN_m M.1 B0) (so := 2) (by decide) with ⟨b, h1, k1, a1, b1, tk1, tm1, J1, q1, hb, hp1⟩ | ⟨h1, k1, k0, a0, a1, b1, tk1, tm1, F, F'⟩
  · have C1 := PC_k C tk1 J1.1
    have M1 := PM_k M tm1 J1.2.1 J1.2.2
    have M2 := PM_w M1 (k := 307 + 9 * S) (v := nI b) (by omega)
    have b8 := (cnt8 N.1 (so := 2) (by decide)).2
    have g8 := (cnt8 N.1 (so := 3) (by decide)).2
    rw [show To_passOld Yc t s 6 hc = some (true, h1) from a1, bind_s, if_pos rfl, show M_readTold Ym m (b2i false) (nI 2) hm = some (nI b, k1) from b1, bind_s, ← tm1.gr 1220 m, ml1220 M1.2.1, if_pos (inB_nI (by omega) (by decide)), letH_e, nI_clamp (by omega), if_pos (show nI 0 = 0 from rfl)]
    rcases wj_old (⟨J1.1, M2.2.2.1, M2.2.2.2.1⟩ : JT Yc Ym t m n T h1 _ _) C1.2.1 os C1.2.2.2.2.2 N M2.2.1 (BN_m M2.1 B0) (so := 3) (by decide) with ⟨g, h2, k2, a2, b2, tk2, tm2, J2, q2, hg, hp2⟩ | ⟨h2, k2, k0, a0, a2, b2, tk2, tm2, F, F'⟩
    · have C2 := PC_k C1 tk2 J2.1
      have M3 := PM_k M2 tm2 J2.2.1 J2.2.2
      have M4 := PM_w M3 (k := 308 + 9 * S) (v := nI g) (by omega)
      have E6 := (tk_fr tk2 906 wk (by omega)).trans ((tk_fr tk1 906 wk (by omega)).trans e6)
      have E7 := (tk_fr tk2 907 wk (by omega)).trans ((tk_fr tk1 907 wk (by omega)).trans e7)
      have E1 := (tk_fr tk2 1001 wr (by omega)).trans ((tk_fr tk1 1001 wr (by omega)).trans e1)
      rw [show To_passOld Yc t s 9 h1 = some (true, h2) from a2, bind_s, if_pos rfl, show M_readTold Ym m 0 3 _ = some (nI g, k2) from b2, bind_s, ← tm2.gr 1220 m, ml1220 M3.2.1, if_pos (inB_nI (by omega) (by decide)), letH_e, nI_clamp (by omega), q1, q2, addRow_s C2.2.1 ow E6 E7 hR, if_neg (show ¬ (21 : Int32) = 29 by decide), bind_s]
      obtain ⟨f1, f2, f3, f4, f5, f6, f7, f8, f9, f10⟩ := fin_row (S := S) (a := 21) (b := nI b) (e := 0) (f := nI g) X C2 E6 E1 ne
      refine Or.inl ⟨_, _, _, _, rfl, rfl, f1, M4, by omega, ⟨(tm2.1 1224 m (by omega)).trans (tm1.1 1224 m (by omega)), (ar_gi (by omega)).trans ((tk_fr tk2 905 wk (by omega)).trans (tk_fr tk1 905 wk (by omega)))⟩, f2, f3, f4, fun f i _ _ hi => by rw [f5 _ i hi, tk2.ai, tk1.ai], fun j _ => by rw [f6 j, tk2.ai, tk1.ai], fun z => by omega, fun i hi => by rw [pk_un (by omega), pk_un (by omega)], f7, ?_, ?_, ?_, ?_⟩
      · rw [mx_i (by omega), pk_un (by omega), pk_us]; exact f9
      · rw [mx_i (by omega), pk_us]; exact f10
      · exact nB_v (by rw [mx_i (by omega), pk_un (by omega), pk_us]) hb (Nat.le_trans b8 (by decide))
      · exact nB_v (by rw [mx_i (by omega), pk_us]) hg (Nat.le_trans g8 (by decide))
    · have F1 := FMm_k M2 tm2 F'
      have F2 := FMm_w F1 (j := 308 + 9 * S) (v := 0)
      rw [show To_passOld Yc t s 9 h1 = some (false, h2) from a2, bind_s, if_neg fne, show M_readTold Ym m 0 3 _ = some (0, k2) from b2, bind_s, ← tm2.gr 1220 m, ml1220 F1.2.1, if_pos (inB_nI (by omega) (by decide)), letH_e, nI_clamp (by omega)]
      exact HO_f (FCc_k C1 tk2 F) F2
  · have F1 := FMm_k M tm1 F'
    have F2 := FMm_w F1 (j := 307 + 9 * S) (v := 0)
    have F3 := FMm_w F2 (j := 308 + 9 * S) (v := 0)
    rw [show To_passOld Yc t s 6 hc = some (false, h1) from a1, bind_s, if_neg fne, show M_readTold Ym m (b2i false) (nI 2) hm = some (0, k1) from b1, bind_s, ← tm1.gr 1220 m, ml1220 F1.2.1, if_pos (inB_nI (by omega) (by decide)), letH_e, nI_clamp (by omega), if_pos (show nI 0 = 0 from rfl), told_b F2, bind_s, ml1220 F2.2.1, if_pos (inB_nI (by omega) (by decide)), letH_e, nI_clamp (by omega)]
    exact HO_f (FCc_k C tk1 F) F3
theorem hd_loop (X : WX Yc Ym x t s wk wr m n T P hc0 hm0 cL c w w4) (ne : wk ≠ wr) (C : PC Yc x t s n T P hc0 hc p cL c w) (M : PM Ym m n T hm0 hm p c4 w4) (e6 : hGi hc 906 wk = nI R) (e7 : hGi hc 907 wk = nI S) (e1 : hGi hc 1001 wr = nI d) (hS : S < 30) (hR : R < 60) (hd : d < 3) :
    HO Yc Ym x t s wk wr m n T P hc0 hm0 cL c w w4 hc hm p R S d (d + 1) c4 (fun A cc => A 900 R = nI 28 ∧ A 903 R = cc (307 + 9 * S) ∧ nB cc (307 + 9 * S) 100 ∧ 1 ≤ cN cc (307 + 9 * S)) (WR_readLoop Yc wr t wk hc)
      ((M_count Ym m 1 99 hm).bind fun q5 => if inB (nI (2304 + (306 + 9 * S)) + 1) (lnY Ym (hGr hm 1220 m)) = true then letH (hTi q5.2 (hGr hm 1220 m) (Int32.toNatClampNeg (nI (2304 + (306 + 9 * S)) + 1)) q5.1) fun h7 => some h7 else none) := by
  have X' := X
  obtain ⟨os, ot, ow, or_, pw, pr, N, B0, n3⟩ := X'
  have J : JT Yc Ym t m n T hc hm p := ⟨C.2.2.2.1, M.2.2.1, M.2.2.2.1⟩
  have l1 := lk S 1
  unfold WR_readLoop
  rw [show nI (2304 + (306 + 9 * S)) + 1 = nI (2304 + (307 + 9 * S)) from l1]
  rcases wj_num J (lo := 1) (hi := 99) (by decide) (by decide) with ⟨b, h1, k1, a1, b1, tk1, tm1, J1, q1, hb1, hb2, hp1⟩ | ⟨h1, k1, k0, a0, a1, b1, tk1, tm1, F, F'⟩
  · have C1 := PC_k C tk1 J1.1
    have M1 := PM_k M tm1 J1.2.1 J1.2.2
    have M2 := PM_w M1 (k := 307 + 9 * S) (v := nI b) (by omega)
    have E6 := (tk_fr tk1 906 wk (by omega)).trans e6
    have E7 := (tk_fr tk1 907 wk (by omega)).trans e7
    have E1 := (tk_fr tk1 1001 wr (by omega)).trans e1
    obtain ⟨g1, g2, g3, g4, g5, g6, g7, g8⟩ := fin_open (d := d) X C1 E6 E7 ne
    obtain ⟨f1, f2, f3, f4, f5, f6, f7, f8, f9, f10⟩ := fin_row (S := S) (a := 28) (b := -1) (e := 0) (f := nI b) X g1 g2 g4 ne
    rw [show To_passNumber Yc t 1 99 hc = some (true, h1) from a1, bind_s, if_pos rfl, show M_count Ym m 1 99 hm = some (nI b, k1) from b1, bind_s, ← tm1.gr 1220 m, ml1220 M1.2.1, if_pos (inB_nI (by omega) (by decide)), letH_e, nI_clamp (by omega), openRow_s C1.2.1 or_ E1 E6 hd, bind_s, g8 710 _ (by decide), q1, addRow_s g1.2.1 ow g2 g3 hR, if_neg (show ¬ (28 : Int32) = 29 by decide), bind_s]
    refine Or.inl ⟨_, _, _, _, rfl, rfl, f1, M2, by omega, ⟨tm1.1 1224 m (by omega), (ar_gi (by omega)).trans ((g8 905 _ (by decide)).trans (tk_fr tk1 905 wk (by omega)))⟩, f2, f3, f4, fun f i h1 h2 hi => by rw [f5 _ i hi, g5 f i h1 h2, tk1.ai], fun j hj => by rw [f6 j, g6 j hj, tk1.ai], fun _ => by rw [f6 d]; exact g7, fun i hi => pk_un (by omega), f7, ?_, ?_, ?_⟩
    · rw [mx_i (by omega), pk_us]; exact f10
    · exact nB_v (by rw [mx_i (by omega), pk_us]) (by omega) (by decide)
    · have hv : mxC c (upd c4 (307 + 9 * S) (nI b)) (307 + 9 * S) = nI b := by rw [mx_i (by omega), pk_us]
      rw [cN_v hv (by omega)]
      exact hb1
  · have F1 := FMm_k M tm1 F'
    have F2 := FMm_w F1 (j := 307 + 9 * S) (v := 0)
    rw [show To_passNumber Yc t 1 99 hc = some (false, h1) from a1, bind_s, if_neg fne, show M_count Ym m 1 99 hm = some (0, k1) from b1, bind_s, ← tm1.gr 1220 m, ml1220 F1.2.1, if_pos (inB_nI (by omega) (by decide)), letH_e, nI_clamp (by omega)]
    exact HO_f (FCc_k C tk1 F) F2
theorem hd_stop (X : WX Yc Ym x t s wk wr m n T P hc0 hm0 cL c w w4) (ne : wk ≠ wr) (C : PC Yc x t s n T P hc0 hc p cL c w) (M : PM Ym m n T hm0 hm p c4 w4) (e6 : hGi hc 906 wk = nI R) (e7 : hGi hc 907 wk = nI S) (e1 : hGi hc 1001 wr = nI d) (hR : R < 60) :
    HO Yc Ym x t s wk wr m n T P hc0 hm0 cL c w w4 hc hm p R S d d c4 (fun A _ => A 900 R = nI 30) ((We_addRow Yc wk 30 (-1) 0 0 hc).bind fun q14 => some (true, q14)) (some hm) := by
  have X' := X
  obtain ⟨os, ot, ow, or_, pw, pr, N, B0, n3⟩ := X'
  obtain ⟨f1, f2, f3, f4, f5, f6, f7, f8, f9, f10⟩ := fin_row (S := S) (a := 30) (b := -1) (e := 0) (f := 0) X C e6 e1 ne
  rw [addRow_s C.2.1 ow e6 e7 hR, if_neg (show ¬ (30 : Int32) = 29 by decide), bind_s]
  exact Or.inl ⟨_, _, _, _, rfl, rfl, f1, M, Nat.le_refl _, ⟨rfl, ar_gi (by omega)⟩, f2, f3, f4, fun f i _ _ hi => f5 _ i hi, fun j _ => f6 j, fun z => by omega, fun i hi => rfl, f7⟩
end HDR
