/-! ===== weeks: when ===== -/
section TST
variable {Yc Ym : Ly} {x t s wk wr m n : Nat} {T : Nat → Int32} {P : Nat → Prop} {hc0 hm0 hc hm h : Hp} {p R S d d' : Nat} {cL c c4 : Nat → Int32} {w w4 : Nat → Int64}
theorem sgn_3 (M : TP Ym hm m n T p) : (M_isSign Ym m 60 hm = some (decide (tK T n p = 3 ∧ BB T (tS T n p) = 60))) ∧ (M_isSign Ym m 62 hm = some (decide (tK T n p = 3 ∧ BB T (tS T n p) = 62))) ∧ (M_isSign Ym m 61 hm = some (decide (tK T n p = 3 ∧ BB T (tS T n p) = 61))) := ⟨m_signb M (b := 60) (by decide), m_signb M (b := 62) (by decide), m_signb M (b := 61) (by decide)⟩
/-- the reference reads a sign: it is one of three, or it is at fault -/
theorem m_cmp (M : TP Ym hm m n T p) (l1 l2 : Int32) : ∀ b, (b = okC T n p) → ((M_isSign Ym m 60 hm).bind fun q14 => if q14 = true then M_readTest_J112 Ym m l1 l2 m hm else (M_isSign Ym m 62 hm).bind fun q25 => if q25 = true then M_readTest_J112 Ym m l1 l2 m hm else (M_isSign Ym m 61 hm).bind fun q27 => if q27 = true then M_readTest_J112 Ym m l1 l2 m hm else M_readTest_J117 Ym m l1 l2 false m hm) = M_readTest_J117 Ym m l1 l2 b m hm := by
  rintro _ rfl
  obtain ⟨s1, s2, s3⟩ := sgn_3 M
  rw [s1, bind_s, s2, bind_s, s3, bind_s]
  unfold M_readTest_J112 okC
  by_cases z : tK T n p = 3
  · obtain ⟨h1, h2⟩ := tK3 M.2.1 z
    have h3 := sof_3 h2
    rcases h3 with e | e | e | e
    · rw [if_neg (by simp [e]), if_neg (by simp [e]), if_neg (by simp [e]), decide_eq_false (fun q => q.2 e)]
    · rw [if_pos (by simp [e, z]), decide_eq_true ⟨z, by omega⟩]
    · rw [if_neg (by simp [e]), if_pos (by simp [e, z]), decide_eq_true ⟨z, by omega⟩]
    · rw [if_neg (by simp [e]), if_neg (by simp [e]), if_pos (by simp [e, z]), decide_eq_true ⟨z, by omega⟩]
  · rw [if_neg (by simp [z]), if_neg (by simp [z]), if_neg (by simp [z]), decide_eq_false (fun q => z q.1)]
/-- a sign and a number: what both do with them -/
theorem hd_cmp (X : WX Yc Ym x t s wk wr m n T P hc0 hm0 cL c w w4) (ne : wk ≠ wr) {k2 : Hp} {p0 wd hi te : Nat} {th : Int32} {h2 : Hp} (C : PC Yc x t s n T P hc0 h2 p cL c w) (M : PM Ym m n T hm0 k2 p c4 w4) (e6 : hGi h2 906 wk = nI R) (e7 : hGi h2 907 wk = nI S) (e1 : hGi h2 1001 wr = nI d) (hS : S < 30) (hR : R < 60) (hd : d < 3)
    (hp : p0 ≤ p) (f24 : hGi k2 1224 m = hGi hm 1224 m) (f05 : hGi h2 905 wk = hGi hc 905 wk) (fA : hAi h2 = hAi hc) {cs : Nat → Int32} (fc : ∀ i, i < 307 + 9 * S → c4 i = cs i) (ht : te = 1 ∨ te = 2) (hhi : hi = if te = 1 then 9 else 99) (hwd : wd < 40 ∧ wd ≠ 29 ∧ wd ≠ 26 ∧ (te = 1 ↔ wd = 27)) :
    HO Yc Ym x t s wk wr m n T P hc0 hm0 cL c w w4 hc hm p0 R S d (d + 1) cs (fun A cc => A 900 R = nI wd ∧ A 902 R = th ∧ A 901 R = cc (313 + 9 * S) ∧ A 903 R = cc (308 + 9 * S) ∧ nB cc (308 + 9 * S) (hi + 1) ∧ (cc (313 + 9 * S) = nI 60 ∨ cc (313 + 9 * S) = nI 61 ∨ cc (313 + 9 * S) = nI 62) ∧ (∀ i, 306 ≤ i → i < 576 → i ≠ 308 + 9 * S → i ≠ 313 + 9 * S → cc i = c4 i))
      (WR_readTest_J70 Yc wr t wk (nI wd) th h2) (M_readTest_J47 Ym m (nI (2304 + (306 + 9 * S))) (nI te) k2) := by
  have X' := X
  obtain ⟨os, ot, ow, or_, pw, pr, N, B0, n3⟩ := X'
  have kl := tK_le T n p
  have l2 := lk S 2
  have l7 := lk S 7
  have n26 : ¬ nI wd = 26 := fun z => hwd.2.2.1 ((nI_eq (b := 26) (by omega) (by decide)).mp z)
  have i3 : (nI (mk4 (tK T n p)) = 3) ↔ tK T n p = 3 := by
    have m4 : mk4 (tK T n p) < 6 := by unfold mk4; split <;> omega
    rw [show (3 : Int32) = nI 3 from rfl, nI_eq (by omega) (by decide)]
    unfold mk4
    split <;> omega
  -- the reference writes the sign
  have sg : ∃ sv : Nat, sv < 256 ∧ (tK T n p = 3 → sv = BB T (tS T n p)) ∧ M_readTest_J47 Ym m (nI (2304 + (306 + 9 * S))) (nI te) k2 = M_readTest_J83 Ym m (nI (2304 + (306 + 9 * S))) (nI te) (nI sv) (nI (2304 + (313 + 9 * S))) (hGr k2 1220 m) k2 := by
    unfold M_readTest_J47
    rw [if_neg (show ¬ 0 < hGi k2 1212 m by rw [M.2.2.2.1]; decide), if_neg (show ¬ nI te = 0 from fun z => by have := (nI_eq (b := 0) (by omega) (by decide)).mp z; omega), M.2.2.1.2.2.1, show nI (2304 + (306 + 9 * S)) + 7 = nI (2304 + (313 + 9 * S)) from l7]
    by_cases z : tK T n p = 3
    · obtain ⟨h1, _⟩ := tK3 M.2.2.1.2.1 z
      have hl := MB_lt M.2.2.1.1 h1
      rw [if_pos (i3.mpr z), M.2.2.1.2.2.2.2.2.2.1 z]
      exact ⟨_, hl, fun _ => rfl, rfl⟩
    · rw [if_neg (fun q => z (i3.mp q))]
      exact ⟨0, by decide, fun q => absurd q z, rfl⟩
  obtain ⟨sv, sl, s3, es⟩ := sg
  have M1 := PM_w M (k := 313 + 9 * S) (v := nI sv) (by omega)
  rw [es]
  unfold M_readTest_J83
  rw [ml1220 M.2.1, if_pos (inB_nI (by omega) (by decide)), letH_e, nI_clamp (by omega), m_cmp M1.2.2.1 _ _ _ rfl]
  unfold WR_readTest_J70
  rw [if_neg n26]
  obtain ⟨A1, A2⟩ := c_cmp C.2.2.2.1
  cases z : okC T n p with
  | false =>
    obtain ⟨h3, a1, a2, a3⟩ := A2 z
    obtain ⟨k3, b1, b2, b3⟩ := m_must_f (Y := Ym) M1.2.2.1 M1.2.2.2.1
    have F := FMm_k M1 b2 b3
    have F2 := FMm_w F (j := 308 + 9 * S) (v := 0)
    unfold M_readTest_J117
    rw [a1, bind_s, if_neg fne, b1, bind_s, m_count_b b3, bind_s, m_count_b b3, bind_s, show nI (2304 + (306 + 9 * S)) + 2 = nI (2304 + (308 + 9 * S)) from l2, ml1220 F.2.1, if_pos (inB_nI (by omega) (by decide)), letH_e, nI_clamp (by omega), ite_self]
    exact HO_f (FCc_k C a2 a3) F2
  | true =>
    have zz := of_decide_eq_true z
    obtain ⟨q1, q2⟩ := tK3 C.2.2.2.1.2.1 zz.1
    have q3 := sof_3 q2
    have es3 := s3 zz.1
    obtain ⟨h3, a1, a2, a3, a4⟩ := A1 z
    obtain ⟨k3, b1, b2, b3, b4⟩ := m_must_t (Y := Ym) M1.2.2.1 M1.2.2.2.1
    have C3 := PC_k C a2 a3
    have M3 := PM_k M1 b2 b3 b4
    have hp3 := tE_gt (T := T) C.2.2.2.1.2.1 (show tK T n p ≠ 0 by omega)
    have hi3 : hi ≤ 99 := by rw [hhi]; split <;> omega
    have E6 := (tk_fr a2 906 wk (by omega)).trans e6
    have E7 := (tk_fr a2 907 wk (by omega)).trans e7
    have E1 := (tk_fr a2 1001 wr (by omega)).trans e1
    have cl88 : WR_readTest_J88 Yc wr t wk (nI wd) th h3 = WR_readTest_J117 Yc wr t wk (nI wd) th (nI sv) (nI hi) false t h3 := by
      unfold WR_readTest_J88
      rw [if_neg n26, a4, es3]
      by_cases w : te = 1
      · rw [if_pos (show nI wd = 27 by rw [hwd.2.2.2.mp w]; rfl), hhi, if_pos w]; rfl
      · rw [if_neg (show ¬ nI wd = 27 from fun q => w (hwd.2.2.2.mpr ((nI_eq (b := 27) (by omega) (by decide)).mp q))), hhi, if_neg w]; rfl
    have rf117 : M_readTest_J117 Ym m (nI (2304 + (306 + 9 * S))) (nI te) true m (hTi k2 (hGr k2 1220 m) (2304 + (313 + 9 * S)) (nI sv)) = (M_count Ym m (nI 0) (nI hi) k3).bind fun q19 => if inB (nI (2304 + (308 + 9 * S))) (lnY Ym (hGr k3 1220 m)) = true then letH (hTi q19.2 (hGr k3 1220 m) (Int32.toNatClampNeg (nI (2304 + (308 + 9 * S)))) q19.1) fun h21 => some h21 else none := by
      unfold M_readTest_J117
      rw [b1, bind_s, show nI (2304 + (306 + 9 * S)) + 2 = nI (2304 + (308 + 9 * S)) from l2]
      by_cases w : te = 1
      · rw [if_pos (show nI te = 1 by rw [w]; rfl), hhi, if_pos w]; rfl
      · rw [if_neg (show ¬ nI te = 1 from fun q => w ((nI_eq (b := 1) (by omega) (by decide)).mp q)), hhi, if_neg w]; rfl
    rw [a1, bind_s, if_pos rfl, cl88, rf117]
    unfold WR_readTest_J117
    rcases wj_num (⟨C3.2.2.2.1, M3.2.2.1, M3.2.2.2.1⟩ : JT Yc Ym t m n T h3 k3 _) (lo := 0) (hi := hi) (by decide) (by omega) with ⟨v, h4, k4, a5, b5, tk4, tm4, J4, q4, _, hv, hp4⟩ | ⟨h4, k4, k0, a0, a5, b5, tk4, tm4, F, F'⟩
    · have C4 := PC_k C3 tk4 J4.1
      have M4 := PM_k M3 tm4 J4.2.1 J4.2.2
      have M5 := PM_w M4 (k := 308 + 9 * S) (v := nI v) (by omega)
      have G6 := (tk_fr tk4 906 wk (by omega)).trans E6
      have G7 := (tk_fr tk4 907 wk (by omega)).trans E7
      have G1 := (tk_fr tk4 1001 wr (by omega)).trans E1
      obtain ⟨g1, g2, g3, g4, g5, g6, g7, g8⟩ := fin_open (d := d) X C4 G6 G7 ne
      obtain ⟨f1, f2, f3, f4, f5, f6, f7, f8, f9, f10⟩ := fin_row (S := S) (a := nI wd) (b := th) (e := nI sv) (f := nI v) X g1 g2 g4 ne
      rw [show To_passNumber Yc t (b2i false) (nI hi) h3 = some (true, h4) from a5, bind_s, if_pos rfl, b5, bind_s, ← tm4.gr 1220 m, ml1220 M4.2.1, if_pos (inB_nI (by omega) (by decide)), letH_e, nI_clamp (by omega)]
      unfold WR_readTest_J125
      rw [openRow_s C4.2.1 or_ G1 G6 hd, bind_s, g8 710 _ (by decide), q4, addRow_s g1.2.1 ow g2 g3 hR, if_neg (show ¬ nI wd = 29 from fun z => hwd.2.1 ((nI_eq (b := 29) (by omega) (by decide)).mp z)), bind_s]
      refine Or.inl ⟨_, _, _, _, rfl, rfl, f1, M5, by omega, ⟨?_, ?_⟩, f2, f3, f4, fun f i h1 h2 hi => by rw [f5 _ i hi, g5 f i h1 h2, tk4.ai, a2.ai, fA], fun j hj => by rw [f6 j, g6 j hj, tk4.ai, a2.ai, fA], fun _ => by rw [f6 d]; exact g7, fun i hi => by rw [pk_un (by omega), pk_un (by omega)]; exact fc i hi, f7, f9, ?_, ?_, ?_, ?_, fun i h1 h2 h3 h4 => by rw [mx_i h1, pk_un h3, pk_un h4]⟩
      · exact (tm4.1 1224 m (by omega)).trans ((b2.1 1224 m (by omega)).trans f24)
      · exact (ar_gi (by omega)).trans ((g8 905 _ (by decide)).trans ((tk_fr tk4 905 wk (by omega)).trans ((tk_fr a2 905 wk (by omega)).trans f05)))
      · rw [mx_i (by omega), pk_un (by omega), pk_us]; exact f8
      · rw [mx_i (by omega), pk_us]; exact f10
      · exact nB_v (by rw [mx_i (by omega), pk_us]) (by omega) (by omega)
      · rw [mx_i (by omega), pk_un (by omega), pk_us, es3]
        rcases q3 with e | e | e | e
        · exact absurd e zz.2
        · exact Or.inl (by rw [e])
        · exact Or.inr (Or.inr (by rw [e]))
        · exact Or.inr (Or.inl (by rw [e]))
    · have F1 := FMm_k M3 tm4 F'
      have F2 := FMm_w F1 (j := 308 + 9 * S) (v := 0)
      rw [show To_passNumber Yc t (b2i false) (nI hi) h3 = some (false, h4) from a5, bind_s, if_neg fne, b5, bind_s, ← tm4.gr 1220 m, ml1220 F1.2.1, if_pos (inB_nI (by omega) (by decide)), letH_e, nI_clamp (by omega)]
      exact HO_f (FCc_k C3 tk4 F) F2
theorem teW_o {o : Option Nat} (ho : ∀ k, o = some k → k < 31) (h1 : o ≠ some 26) (h2 : o ≠ some 27) (h3 : o ≠ some 3) : teW o = -1 := by
  refine kc (P := fun o => o ≠ some 26 → o ≠ some 27 → o ≠ some 3 → teW o = -1) o ho (fun _ _ _ => rfl) (fun i => ?_) h1 h2 h3
  revert i
  decide
theorem hd_test (X : WX Yc Ym x t s wk wr m n T P hc0 hm0 cL c w w4) (ne : wk ≠ wr) (C : PC Yc x t s n T P hc0 hc p cL c w) (M : PM Ym m n T hm0 hm p c4 w4) (e6 : hGi hc 906 wk = nI R) (e7 : hGi hc 907 wk = nI S) (e1 : hGi hc 1001 wr = nI d) (hS : S < 30) (hR : R < 60) (hd : d < 3) :
    HO Yc Ym x t s wk wr m n T P hc0 hm0 cL c w w4 hc hm p R S d (d + 1) c4 (fun A cc => (cc (312 + 9 * S) = nI 0 ∧ A 900 R = nI 26 ∧ A 902 R = cc (307 + 9 * S) ∧ nB cc (307 + 9 * S) (cN c 2)) ∨
        (cc (312 + 9 * S) = nI 1 ∧ A 900 R = nI 27 ∧ A 901 R = cc (313 + 9 * S) ∧ A 903 R = cc (308 + 9 * S) ∧ nB cc (308 + 9 * S) 10 ∧ (cc (313 + 9 * S) = nI 60 ∨ cc (313 + 9 * S) = nI 61 ∨ cc (313 + 9 * S) = nI 62)) ∨
        (cc (312 + 9 * S) = nI 2 ∧ A 900 R = nI 3 ∧ A 902 R = cc (307 + 9 * S) ∧ A 901 R = cc (313 + 9 * S) ∧ A 903 R = cc (308 + 9 * S) ∧ nB cc (307 + 9 * S) (cN c 2) ∧ nB cc (308 + 9 * S) 100 ∧ (cc (313 + 9 * S) = nI 60 ∨ cc (313 + 9 * S) = nI 61 ∨ cc (313 + 9 * S) = nI 62)))
      (WR_readTest Yc wr t s wk hc) (M_readTest Ym m (nI (2304 + (306 + 9 * S))) hm) := by
  have X' := X
  obtain ⟨os, ot, ow, or_, pw, pr, N, B0, n3⟩ := X'
  have b8 := (cnt8 N.1 (so := 2) (by decide)).2
  have J : JT Yc Ym t m n T hc hm p := ⟨C.2.2.2.1, M.2.2.1, M.2.2.2.1⟩
  have l1 := lk S 1
  have l6 := lk S 6
  have q : ∀ i, i < 31 → ((hGi hc 708 t = nI i) ↔ tI T n p = some i) := fun i hi => by rw [C.2.2.2.1.2.2.2.2.2.1]; exact tI_on hi
  obtain ⟨hA, kA, aA, bA, tkA, tmA, JA⟩ := wj_adv J
  have CA := PC_k C tkA JA.1
  have E6 := (tk_fr tkA 906 wk (by omega)).trans e6
  have E7 := (tk_fr tkA 907 wk (by omega)).trans e7
  have E1 := (tk_fr tkA 1001 wr (by omega)).trans e1
  have mt : M_must Ym m true hm = some kA := by
    unfold M_must
    rw [M.2.2.2.1, if_pos (by decide), if_pos rfl, bA, bind_s]
  have MA := PM_k M tmA JA.2.1 JA.2.2
  unfold WR_readTest M_readTest
  rw [testWord_s M.2.2.1, bind_s]
  by_cases z26 : tI T n p = some 26
  · have hpA := tI_gt C.2.2.2.1.2.1 z26
    have e8 : hGi hc 708 t = 26 := (q 26 (by decide)).mpr z26
    have M1 := PM_w MA (k := 312 + 9 * S) (v := nI 0) (by omega)
    rw [if_pos e8, e8, z26, show teW (some 26) = nI 0 from rfl, if_neg (show ¬ nI 0 < 0 by decide)]
    unfold WR_readTest_J32 M_readTest_J15
    rw [aA, bind_s, if_neg (show ¬ (26 : Int32) = 27 by decide), mt, bind_s, show nI (2304 + (306 + 9 * S)) + 6 = nI (2304 + (312 + 9 * S)) from l6, show nI (2304 + (306 + 9 * S)) + 1 = nI (2304 + (307 + 9 * S)) from l1, ml1220 MA.2.1, if_pos (inB_nI (by omega) (by decide)), letH_e, nI_clamp (by omega), if_neg (show ¬ nI 0 = 1 by decide)]
    rcases wj_old (⟨JA.1, M1.2.2.1, M1.2.2.2.1⟩ : JT Yc Ym t m n T hA _ _) CA.2.1 os CA.2.2.2.2.2 N M1.2.1 (BN_m M1.1 B0) (so := 2) (by decide) with ⟨b, h2, k2, a2, b2, tk2, tm2, J2, q2, hb, hp2⟩ | ⟨h2, k2, k0, a0, a2, b2, tk2, tm2, F, F'⟩
    · have C2 := PC_k CA tk2 J2.1
      have M2 := PM_k M1 tm2 J2.2.1 J2.2.2
      have M3 := PM_w M2 (k := 307 + 9 * S) (v := nI b) (by omega)
      have G6 := (tk_fr tk2 906 wk (by omega)).trans E6
      have G7 := (tk_fr tk2 907 wk (by omega)).trans E7
      have G1 := (tk_fr tk2 1001 wr (by omega)).trans E1
      obtain ⟨g1, g2, g3, g4, g5, g6, g7, g8⟩ := fin_open (d := d) X C2 G6 G7 ne
      obtain ⟨f1, f2, f3, f4, f5, f6, f7, f8, f9, f10⟩ := fin_row (S := S) (a := 26) (b := nI b) (e := nI b) (f := nI b) X g1 g2 g4 ne
      have gg : hGr k2 1220 m = hGr hm 1220 m := (tm2.gr 1220 m).trans (tmA.gr 1220 m)
      rw [show To_passOld Yc t s 6 hA = some (true, h2) from a2, bind_s, if_pos rfl, show M_readTold Ym m 0 2 _ = some (nI b, k2) from b2, bind_s, gr_ti, tmA.gr 1220 m, show lnY Ym (hGr hm 1220 m) = 2880 from ml1220 M.2.1, if_pos (inB_nI (by omega) (by decide)), letH_e, nI_clamp (by omega), ← gg]
      unfold WR_readTest_J55
      rw [if_neg (show ¬ (26 : Int32) = 27 by decide)]
      unfold WR_readTest_J70
      rw [if_pos rfl]
      unfold WR_readTest_J88
      rw [if_pos rfl, q2]
      unfold WR_readTest_J125
      rw [openRow_s C2.2.1 or_ G1 G6 hd, bind_s, g8 710 _ (by decide), q2, addRow_s g1.2.1 ow g2 g3 hR, if_neg (show ¬ (26 : Int32) = 29 by decide), bind_s]
      unfold M_readTest_J47
      have e24 : hGi (hTi k2 (hGr k2 1220 m) (2304 + (307 + 9 * S)) (nI b)) 1224 m = hGi hm 1224 m := (tm2.1 1224 m (by omega)).trans (tmA.1 1224 m (by omega))
      rw [if_neg (show ¬ 0 < hGi (hTi k2 (hGr k2 1220 m) (2304 + (307 + 9 * S)) (nI b)) 1212 m by rw [M3.2.2.2.1]; decide), if_pos (show nI 0 = 0 from rfl)]
      refine Or.inl ⟨_, _, _, _, rfl, rfl, f1, M3, by omega, ⟨e24, (ar_gi (by omega)).trans ((g8 905 _ (by decide)).trans ((tk_fr tk2 905 wk (by omega)).trans (tk_fr tkA 905 wk (by omega))))⟩, f2, f3, f4, fun f i h1 h2 hi => by rw [f5 _ i hi, g5 f i h1 h2, tk2.ai, tkA.ai], fun j hj => by rw [f6 j, g6 j hj, tk2.ai, tkA.ai], fun _ => by rw [f6 d]; exact g7, fun i hi => by rw [pk_un (by omega), pk_un (by omega)], Or.inl ⟨?_, f7, ?_, ?_⟩⟩
      · rw [mx_i (by omega), pk_un (by omega), pk_us]
      · rw [mx_i (by omega), pk_us]; exact f9
      · exact nB_v (by rw [mx_i (by omega), pk_us]) hb (Nat.le_trans b8 (by decide))
    · have F1 := FMm_k M1 tm2 F'
      have F2 := FMm_w F1 (j := 307 + 9 * S) (v := 0)
      have gg : hGr k2 1220 m = hGr hm 1220 m := (tm2.gr 1220 m).trans (tmA.gr 1220 m)
      rw [show To_passOld Yc t s 6 hA = some (false, h2) from a2, bind_s, if_neg fne, show M_readTold Ym m 0 2 _ = some (0, k2) from b2, bind_s, gr_ti, tmA.gr 1220 m, show lnY Ym (hGr hm 1220 m) = 2880 from ml1220 M.2.1, if_pos (inB_nI (by omega) (by decide)), letH_e, nI_clamp (by omega), ← gg]
      unfold M_readTest_J47
      rw [if_pos (F2.2.2.1 ▸ nI_lt (a := 0) F2.2.2.2.2.1 (by have := F2.2.2.2.2.2; omega))]
      exact HO_f (FCc_k CA tk2 F) F2
  rw [if_neg (show ¬ hGi hc 708 t = 26 from fun z => z26 ((q 26 (by decide)).mp z))]
  by_cases z27 : tI T n p = some 27
  · have hpA := tI_gt C.2.2.2.1.2.1 z27
    have e8 : hGi hc 708 t = 27 := (q 27 (by decide)).mpr z27
    have M1 := PM_w MA (k := 312 + 9 * S) (v := nI 1) (by omega)
    rw [if_pos e8, e8, z27, show teW (some 27) = nI 1 from rfl, if_neg (show ¬ nI 1 < 0 by decide)]
    unfold WR_readTest_J32 M_readTest_J15
    rw [aA, bind_s, if_pos rfl, mt, bind_s, show nI (2304 + (306 + 9 * S)) + 6 = nI (2304 + (312 + 9 * S)) from l6, ml1220 MA.2.1, if_pos (inB_nI (by omega) (by decide)), letH_e, nI_clamp (by omega), if_pos (show nI 1 = 1 from rfl)]
    unfold WR_readTest_J55
    rw [if_pos rfl]
    have H := hd_cmp (p0 := p) (hm := hm) (hc := hc) (wd := 27) (hi := 9) (te := 1) (th := -1) (cs := c4) X ne CA M1 E6 E7 E1 hS hR hd (by omega) (tmA.1 1224 m (by omega)) (tk_fr tkA 905 wk (by omega)) tkA.ai (fun i hi => pk_un (by omega)) (Or.inl rfl) rfl ⟨by decide, by decide, by decide, by decide⟩
    refine HO_mo H (fun A cc e0 e2 e3 e4 Q => Or.inr (Or.inl ⟨?_, Q.1, Q.2.2.1, Q.2.2.2.1, Q.2.2.2.2.1, Q.2.2.2.2.2.1⟩))
    rw [Q.2.2.2.2.2.2 _ (by omega) (by omega) (by omega) (by omega), pk_us]
  rw [if_neg (show ¬ hGi hc 708 t = 27 from fun z => z27 ((q 27 (by decide)).mp z))]
  by_cases z3 : tI T n p = some 3
  · have hpA := tI_gt C.2.2.2.1.2.1 z3
    have e8 : hGi hc 708 t = 3 := (q 3 (by decide)).mpr z3
    have M1 := PM_w MA (k := 312 + 9 * S) (v := nI 2) (by omega)
    rw [if_pos e8, e8, z3, show teW (some 3) = nI 2 from rfl, if_neg (show ¬ nI 2 < 0 by decide)]
    unfold WR_readTest_J32 M_readTest_J15
    rw [aA, bind_s, if_neg (show ¬ (3 : Int32) = 27 by decide), mt, bind_s, show nI (2304 + (306 + 9 * S)) + 6 = nI (2304 + (312 + 9 * S)) from l6, show nI (2304 + (306 + 9 * S)) + 1 = nI (2304 + (307 + 9 * S)) from l1, ml1220 MA.2.1, if_pos (inB_nI (by omega) (by decide)), letH_e, nI_clamp (by omega), if_neg (show ¬ nI 2 = 1 by decide)]
    rcases wj_old (⟨JA.1, M1.2.2.1, M1.2.2.2.1⟩ : JT Yc Ym t m n T hA _ _) CA.2.1 os CA.2.2.2.2.2 N M1.2.1 (BN_m M1.1 B0) (so := 2) (by decide) with ⟨b, h2, k2, a2, b2, tk2, tm2, J2, q2, hb, hp2⟩ | ⟨h2, k2, k0, a0, a2, b2, tk2, tm2, F, F'⟩
    · have C2 := PC_k CA tk2 J2.1
      have M2 := PM_k M1 tm2 J2.2.1 J2.2.2
      have M3 := PM_w M2 (k := 307 + 9 * S) (v := nI b) (by omega)
      have G6 := (tk_fr tk2 906 wk (by omega)).trans E6
      have G7 := (tk_fr tk2 907 wk (by omega)).trans E7
      have G1 := (tk_fr tk2 1001 wr (by omega)).trans E1
      have gg : hGr k2 1220 m = hGr hm 1220 m := (tm2.gr 1220 m).trans (tmA.gr 1220 m)
      rw [show To_passOld Yc t s 6 hA = some (true, h2) from a2, bind_s, if_pos rfl, show M_readTold Ym m 0 2 _ = some (nI b, k2) from b2, bind_s, gr_ti, tmA.gr 1220 m, show lnY Ym (hGr hm 1220 m) = 2880 from ml1220 M.2.1, if_pos (inB_nI (by omega) (by decide)), letH_e, nI_clamp (by omega), ← gg]
      unfold WR_readTest_J55
      rw [if_neg (show ¬ (3 : Int32) = 27 by decide), q2]
      have H := hd_cmp (p0 := p) (hm := hm) (hc := hc) (wd := 3) (hi := 99) (te := 2) (th := nI b) (cs := c4) X ne C2 M3 G6 G7 G1 hS hR hd (by omega) ((tm2.1 1224 m (by omega)).trans (tmA.1 1224 m (by omega))) ((tk_fr tk2 905 wk (by omega)).trans (tk_fr tkA 905 wk (by omega))) (tk2.ai.trans tkA.ai) (fun i hi => by rw [pk_un (by omega), pk_un (by omega)]) (Or.inr rfl) rfl ⟨by decide, by decide, by decide, by decide⟩
      refine HO_mo H (fun A cc e0 e2 e3 e4 Q => Or.inr (Or.inr ⟨?_, Q.1, ?_, Q.2.2.1, Q.2.2.2.1, ?_, Q.2.2.2.2.1, Q.2.2.2.2.2.1⟩))
      · rw [Q.2.2.2.2.2.2 _ (by omega) (by omega) (by omega) (by omega), pk_un (by omega), pk_us]
      · rw [Q.2.2.2.2.2.2 _ (by omega) (by omega) (by omega) (by omega), pk_us]; exact Q.2.1
      · exact nB_v (by rw [Q.2.2.2.2.2.2 _ (by omega) (by omega) (by omega) (by omega), pk_us]) hb (Nat.le_trans b8 (by decide))
    · have F1 := FMm_k M1 tm2 F'
      have F2 := FMm_w F1 (j := 307 + 9 * S) (v := 0)
      have gg : hGr k2 1220 m = hGr hm 1220 m := (tm2.gr 1220 m).trans (tmA.gr 1220 m)
      rw [show To_passOld Yc t s 6 hA = some (false, h2) from a2, bind_s, if_neg fne, show M_readTold Ym m 0 2 _ = some (0, k2) from b2, bind_s, gr_ti, tmA.gr 1220 m, show lnY Ym (hGr hm 1220 m) = 2880 from ml1220 M.2.1, if_pos (inB_nI (by omega) (by decide)), letH_e, nI_clamp (by omega), ← gg]
      unfold M_readTest_J47
      rw [if_pos (F2.2.2.1 ▸ nI_lt (a := 0) F2.2.2.2.2.1 (by have := F2.2.2.2.2.2; omega))]
      exact HO_f (FCc_k CA tk2 F) F2
  obtain ⟨h1, a1, a2, a3⟩ := c_blame C.2.2.2.1 2
  obtain ⟨k1, b1, b2, b3⟩ := m_must_f (Y := Ym) M.2.2.1 M.2.2.2.1
  have F := FMm_k M b2 b3
  have F1 := FMm_w F (j := 312 + 9 * S) (v := -1)
  have F2 := FMm_w F1 (j := 307 + 9 * S) (v := 0)
  rw [if_neg (show ¬ hGi hc 708 t = 3 from fun z => z3 ((q 3 (by decide)).mp z)), teW_o (fun k hk => tI_lt hk) z26 z27 z3, if_pos (show (-1 : Int32) < 0 by decide), show To_blame Yc t 2 hc = some (false, h1) from a1, bind_s]
  unfold M_readTest_J15
  rw [b1, bind_s, show nI (2304 + (306 + 9 * S)) + 6 = nI (2304 + (312 + 9 * S)) from l6, show nI (2304 + (306 + 9 * S)) + 1 = nI (2304 + (307 + 9 * S)) from l1, ml1220 F.2.1, if_pos (inB_nI (by omega) (by decide)), letH_e, nI_clamp (by omega), if_neg (show ¬ (-1 : Int32) = 1 by decide), told_b F1, bind_s, ml1220 F1.2.1, if_pos (inB_nI (by omega) (by decide)), letH_e, nI_clamp (by omega)]
  unfold M_readTest_J47
  rw [if_pos (F2.2.2.1 ▸ nI_lt (a := 0) F2.2.2.2.2.1 (by have := F2.2.2.2.2.2; omega))]
  exact HO_f (FCc_k C a2 a3) F2
end TST
