/-! ===== weeks: tokens on both sides, rows that agree ===== -/
section SQS
variable {wd sg th nm pt : Nat → Int32} {c c' : Nat → Int32}
theorem rowOk_c {r a : Nat} (e0 : ∀ k, k < 8 → c' (306 + 9 * a + k) = c (306 + 9 * a + k)) (e2 : cN c' 2 = cN c 2) (e3 : cN c' 3 = cN c 3) (e4 : cN c' 4 = cN c 4) (H : rowOk wd sg th nm c r a) : rowOk wd sg th nm c' r a := by
  have x0 : c' (306 + 9 * a) = c (306 + 9 * a) := e0 0 (by decide)
  have x1 : c' (307 + 9 * a) = c (307 + 9 * a) := by have := e0 1 (by decide); rw [show 306 + 9 * a + 1 = 307 + 9 * a by omega] at this; exact this
  have x2 : c' (308 + 9 * a) = c (308 + 9 * a) := by have := e0 2 (by decide); rw [show 306 + 9 * a + 2 = 308 + 9 * a by omega] at this; exact this
  unfold rowOk nB at H ⊢
  unfold cN at H ⊢ e2 e3 e4
  rw [x0, x1, x2, e2, e3, e4]
  exact H
theorem blkOk_c {r a : Nat} (e0 : ∀ k, k < 8 → c' (306 + 9 * a + k) = c (306 + 9 * a + k)) (e2 : cN c' 2 = cN c 2) (H : blkOk wd sg th nm c r a) : blkOk wd sg th nm c' r a := by
  have x0 : c' (306 + 9 * a) = c (306 + 9 * a) := e0 0 (by decide)
  have x1 : c' (307 + 9 * a) = c (307 + 9 * a) := by have := e0 1 (by decide); rw [show 306 + 9 * a + 1 = 307 + 9 * a by omega] at this; exact this
  have x2 : c' (308 + 9 * a) = c (308 + 9 * a) := by have := e0 2 (by decide); rw [show 306 + 9 * a + 2 = 308 + 9 * a by omega] at this; exact this
  have x6 : c' (312 + 9 * a) = c (312 + 9 * a) := by have := e0 6 (by decide); rw [show 306 + 9 * a + 6 = 312 + 9 * a by omega] at this; exact this
  have x7 : c' (313 + 9 * a) = c (313 + 9 * a) := by have := e0 7 (by decide); rw [show 306 + 9 * a + 7 = 313 + 9 * a by omega] at this; exact this
  unfold blkOk nB at H ⊢
  unfold cN at H ⊢ e2
  rw [x0, x1, x2, x6, x7, e2]
  exact H
theorem SQ_c : ∀ n d lo hi a b, (∀ i, 306 ≤ i → i < 306 + 9 * b → c' i = c i) → cN c' 2 = cN c 2 → cN c' 3 = cN c 3 → cN c' 4 = cN c 4 → SQ wd sg th nm pt c n d lo hi a b → SQ wd sg th nm pt c' n d lo hi a b := by
  intro n
  induction n with
  | zero => intro d lo hi a b _ _ _ _ H; exact H
  | succ n ih =>
    intro d lo hi a b E e2 e3 e4 H
    rcases H with q | ⟨h1, h2, ⟨r1, r2, r3⟩ | ⟨r1, r2, p, e, p1, p2, p3, p4, p5, p6, p7, p8, p9, p10⟩⟩
    · exact Or.inl q
    · exact Or.inr ⟨h1, h2, Or.inl ⟨rowOk_c (fun k hk => E _ (by omega) (by omega)) e2 e3 e4 r1, (E _ (by omega) (by omega)).trans r2, ih _ _ _ _ _ E e2 e3 e4 r3⟩⟩
    · exact Or.inr ⟨h1, h2, Or.inr ⟨blkOk_c (fun k hk => E _ (by omega) (by omega)) e2 r1, r2, p, e, p1, p2, p3, p4, (E _ (by omega) (by omega)).trans p5, p6, p7, p8, ih _ _ _ _ _ (fun i h3 h4 => E i h3 (by omega)) e2 e3 e4 p9, ih _ _ _ _ _ E e2 e3 e4 p10⟩⟩
theorem SQ_up : ∀ n n' d lo hi a b, n ≤ n' → SQ wd sg th nm pt c n d lo hi a b → SQ wd sg th nm pt c n' d lo hi a b := by
  intro n
  induction n with
  | zero =>
    intro n' d lo hi a b _ H
    cases n' with
    | zero => exact H
    | succ n' => exact Or.inl H
  | succ n ih =>
    intro n' d lo hi a b hn H
    obtain ⟨n', rfl⟩ : ∃ q, n' = q + 1 := ⟨n' - 1, by omega⟩
    rcases H with q | ⟨h1, h2, ⟨r1, r2, r3⟩ | ⟨r1, r2, p, e, p1, p2, p3, p4, p5, p6, p7, p8, p9, p10⟩⟩
    · exact Or.inl q
    · exact Or.inr ⟨h1, h2, Or.inl ⟨r1, r2, ih n' _ _ _ _ _ (by omega) r3⟩⟩
    · exact Or.inr ⟨h1, h2, Or.inr ⟨r1, r2, p, e, p1, p2, p3, p4, p5, p6, p7, p8, ih n' _ _ _ _ _ (by omega) p9, ih n' _ _ _ _ _ (by omega) p10⟩⟩
theorem SQ_app {d mi hi e b : Nat} {n' : Nat} (H' : SQ wd sg th nm pt c n' d mi hi e b) (hb : e ≤ b) (hm : mi ≤ hi) : ∀ n lo a, SQ wd sg th nm pt c n d lo mi a e → SQ wd sg th nm pt c (n + n') d lo hi a b := by
  intro n
  induction n with
  | zero =>
    intro lo a H
    obtain ⟨q1, q2⟩ := H
    subst q1
    subst q2
    exact SQ_up n' _ _ _ _ _ _ (by omega) H'
  | succ n ih =>
    intro lo a H
    rw [show n + 1 + n' = (n + n') + 1 by omega]
    rcases H with ⟨q1, q2⟩ | ⟨h1, h2, ⟨r1, r2, r3⟩ | ⟨r1, r2, p, f, p1, p2, p3, p4, p5, p6, p7, p8, p9, p10⟩⟩
    · subst q1
      subst q2
      exact SQ_up n' _ _ _ _ _ _ (by omega) H'
    · exact Or.inr ⟨by omega, by omega, Or.inl ⟨r1, r2, ih _ _ r3⟩⟩
    · exact Or.inr ⟨by omega, by omega, Or.inr ⟨r1, r2, p, f, p1, by omega, p3, by omega, p5, p6, p7, p8, SQ_up n _ _ _ _ _ _ (by omega) p9, ih _ _ p10⟩⟩
theorem SQ_ag2 {wd' sg' th' nm' pt' : Nat → Int32} : ∀ n d lo hi a b, (∀ i, lo ≤ i → i < hi → wd' i = wd i ∧ sg' i = sg i ∧ th' i = th i ∧ nm' i = nm i ∧ pt' i = pt i) → SQ wd sg th nm pt c n d lo hi a b → SQ wd' sg' th' nm' pt' c n d lo hi a b := by
  intro n
  induction n with
  | zero => intro d lo hi a b _ H; exact H
  | succ n ih =>
    intro d lo hi a b E H
    rcases H with q | ⟨h1, h2, ⟨r1, r2, r3⟩ | ⟨r1, r2, p, e, p1, p2, p3, p4, p5, p6, p7, p8, p9, p10⟩⟩
    · exact Or.inl q
    · have El := E lo (Nat.le_refl _) h2
      exact Or.inr ⟨h1, h2, Or.inl ⟨rowOk_ag El.1 El.2.2.1 El.2.2.2.1 r1, r2, ih _ _ _ _ _ (fun i h3 h4 => E i (by omega) h4) r3⟩⟩
    · have El := E lo (Nat.le_refl _) h2
      have Ep := E p (by omega) p2
      exact Or.inr ⟨h1, h2, Or.inr ⟨blkOk_ag El.1 El.2.1 El.2.2.1 El.2.2.2.1 r1, r2, p, e, p1, p2, p3, p4, p5, El.2.2.2.2.trans p6, Ep.1.trans p7, Ep.2.2.2.2.trans p8, ih _ _ _ _ _ (fun i h3 h4 => E i (by omega) (by omega)) p9, ih _ _ _ _ _ (fun i h3 h4 => E i (by omega) h4) p10⟩⟩
/-- cells from the step a0 on agree -/
theorem SQ_cl {a0 : Nat} : ∀ n d lo hi a b, a0 ≤ a → (∀ i, 306 + 9 * a0 ≤ i → i < 306 + 9 * b → c' i = c i) → cN c' 2 = cN c 2 → cN c' 3 = cN c 3 → cN c' 4 = cN c 4 → SQ wd sg th nm pt c n d lo hi a b → SQ wd sg th nm pt c' n d lo hi a b := by
  intro n
  induction n with
  | zero => intro d lo hi a b _ _ _ _ _ H; exact H
  | succ n ih =>
    intro d lo hi a b ha E e2 e3 e4 H
    rcases H with q | ⟨h1, h2, ⟨r1, r2, r3⟩ | ⟨r1, r2, p, e, p1, p2, p3, p4, p5, p6, p7, p8, p9, p10⟩⟩
    · exact Or.inl q
    · exact Or.inr ⟨h1, h2, Or.inl ⟨rowOk_c (fun k hk => E _ (by omega) (by omega)) e2 e3 e4 r1, (E _ (by omega) (by omega)).trans r2, ih _ _ _ _ _ (by omega) E e2 e3 e4 r3⟩⟩
    · exact Or.inr ⟨h1, h2, Or.inr ⟨blkOk_c (fun k hk => E _ (by omega) (by omega)) e2 r1, r2, p, e, p1, p2, p3, p4, (E _ (by omega) (by omega)).trans p5, p6, p7, p8, ih _ _ _ _ _ (by omega) (fun i h3 h4 => E i h3 (by omega)) e2 e3 e4 p9, ih _ _ _ _ _ (by omega) E e2 e3 e4 p10⟩⟩
theorem SQ_nl : ∀ n d lo a, SQ wd sg th nm pt c n d lo lo a a := by
  intro n d lo a
  cases n with
  | zero => exact ⟨rfl, rfl⟩
  | succ n => exact Or.inl ⟨rfl, rfl⟩
end SQS
section JTK
variable {Yc Ym : Ly} {x t s m n : Nat} {T : Nat → Int32} {hc hm : Hp} {p : Nat} {c : Nat → Int32} {w : Nat → Int64}
/-- both stand at p, and nothing is at fault -/
def JT (Yc Ym : Ly) (t m n : Nat) (T : Nat → Int32) (hc hm : Hp) (p : Nat) : Prop := TC Yc hc t n T p ∧ TP Ym hm m n T p ∧ hGi hm 1212 m = 0
def okC (T : Nat → Int32) (n p : Nat) : Bool := decide (tK T n p = 3 ∧ BB T (tS T n p) ≠ 59)
theorem c_cmp (C : TC Yc hc t n T p) : (okC T n p = true → ∃ h', To_passCompares Yc t hc = some (true, h') ∧ Tk t hc h' ∧ TC Yc h' t n T (tE T n p) ∧ hGi h' 710 t = nI (BB T (tS T n p))) ∧ (okC T n p = false → ∃ h', To_passCompares Yc t hc = some (false, h') ∧ Tk t hc h' ∧ FL h' t (flt T n p 2) (tS T n p)) := by
  have kl := tK_le T n p
  have h900 := C.1.2.2.1
  obtain ⟨hb, e1, e2, e3⟩ := c_blame C 2
  have e1' : To_blame Yc t 2 hc = some (false, hb) := e1
  unfold To_passCompares okC
  rw [C.2.2.2.1]
  by_cases z : tK T n p = 3
  · obtain ⟨h1, h2⟩ := tK3 C.2.1 z
    have h3 := sof_3 h2
    have q : hAi hc (hGr hc 700 t) (tS T n p) = nI (BB T (tS T n p)) := by rw [(C.1.2.2.2.2.1 _ h1).1]; exact BB_e C.1 h1 (by omega)
    rw [if_pos (show nI (tK T n p) = 3 by rw [z]; rfl), C.2.2.2.2.1, C.1.1, if_pos (inB_nI (by omega) (by omega)), nI_clamp (by omega), q]
    by_cases w : BB T (tS T n p) = 59
    · rw [if_pos (show nI (BB T (tS T n p)) = 59 by rw [w]; rfl), e1', bind_s]
      exact ⟨fun k => by simp [w] at k, fun _ => ⟨hb, rfl, e2, e3⟩⟩
    · rw [if_neg (show ¬ nI (BB T (tS T n p)) = 59 from fun q => w ((nI_eq (b := 59) (by omega) (by decide)).mp q)), if_pos (inB_nI (by omega) (by omega)), letH_e]
      refine ⟨fun _ => ?_, fun k => by simp [w, z] at k⟩
      have C' : TC Yc (hSi hc 710 t (nI (BB T (tS T n p)))) t n T p := by
        refine ⟨TX_k (Tk_si (by decide) (by decide)) C.1, C.2.1, ?_, ?_, ?_, ?_, C.2.2.2.2.2.2.1, fun w => ?_⟩
        · rw [gi_si, if_neg (by omega)]; exact C.2.2.1
        · rw [gi_si, if_neg (by omega)]; exact C.2.2.2.1
        · rw [gi_si, if_neg (by omega)]; exact C.2.2.2.2.1
        · rw [gi_si, if_neg (by omega)]; exact C.2.2.2.2.2.1
        · rw [gi_si, if_neg (by omega)]; exact C.2.2.2.2.2.2.2 w
      obtain ⟨h', f1, f2, f3, f4⟩ := TC_adv C'
      rw [f1, bind_s]
      exact ⟨h', rfl, Tk_tr (Tk_si (by decide) (by decide)) f2, f3, by rw [f4, gi_si, if_pos ⟨rfl, rfl⟩]⟩
  · rw [if_neg (show ¬ nI (tK T n p) = 3 from fun w => z ((nI_eq (b := 3) (by omega) (by decide)).mp w)), e1', bind_s]
    exact ⟨fun k => by simp [z] at k, fun _ => ⟨hb, rfl, e2, e3⟩⟩
theorem m_signb (C : TP Ym hm m n T p) {b : Nat} (hb : b < 256) : M_isSign Ym m (nI b) hm = some (decide (tK T n p = 3 ∧ BB T (tS T n p) = b)) := by
  have kl := tK_le T n p
  unfold M_isSign
  rw [C.2.2.1]
  by_cases z : tK T n p = 3
  · have e7 := C.2.2.2.2.2.2.1 z
    obtain ⟨h1, h2⟩ := tK3 C.2.1 z
    have hl := MB_lt C.1 h1
    rw [if_pos (show nI (mk4 (tK T n p)) = 3 by rw [z]; rfl), e7]
    by_cases w : BB T (tS T n p) = b
    · rw [if_pos (show nI (BB T (tS T n p)) = nI b by rw [w])]; simp [z, w]
    · rw [if_neg (show ¬ nI (BB T (tS T n p)) = nI b from fun q => w ((nI_eq (by omega) (by omega)).mp q))]; simp [w]
  · have n3 : mk4 (tK T n p) ≠ 3 := by
      unfold mk4
      split <;> omega
    rw [if_neg (show ¬ nI (mk4 (tK T n p)) = 3 from fun w => n3 ((nI_eq (b := 3) (by unfold mk4; split <;> omega) (by decide)).mp w))]; simp [z]
theorem wj_adv (J : JT Yc Ym t m n T hc hm p) : ∃ hc' hm', To_advance Yc t hc = some hc' ∧ M_advance Ym m hm = some hm' ∧ Tk t hc hc' ∧ Tm m hm hm' ∧ JT Yc Ym t m n T hc' hm' (tE T n p) := by
  obtain ⟨h1, a1, a2, a3, _⟩ := TC_adv J.1
  obtain ⟨h2, b1, b2, b3, b4, _⟩ := TP_adv J.2.1
  exact ⟨h1, h2, a1, b1, a2, b2, a3, b3, b4.trans J.2.2⟩
theorem wj_semi (J : JT Yc Ym t m n T hc hm p) : ∃ b, M_isSign Ym m 59 hm = some b ∧
    ((isSc T n p = true ∧ ∃ hc' hm', To_passSemicolon Yc t hc = some (true, hc') ∧ M_must Ym m b hm = some hm' ∧ Tk t hc hc' ∧ Tm m hm hm' ∧ JT Yc Ym t m n T hc' hm' (tE T n p)) ∨
     ∃ hc' hm' k a, To_passSemicolon Yc t hc = some (false, hc') ∧ M_must Ym m b hm = some hm' ∧ Tk t hc hc' ∧ Tm m hm hm' ∧ FL hc' t k a ∧ BF hm' m k a) := by
  have A := c_semi J.1
  refine ⟨isSc T n p, m_sign J.2.1, ?_⟩
  cases z : isSc T n p with
  | true =>
    obtain ⟨h1, e1, e2, e3, _⟩ := A.1 z
    obtain ⟨h2, f1, f2, f3, f4⟩ := m_must_t J.2.1 J.2.2
    exact Or.inl ⟨rfl, h1, h2, e1, f1, e2, f2, e3, f3, f4⟩
  | false =>
    obtain ⟨h1, e1, e2, e3⟩ := A.2 z
    obtain ⟨h2, f1, f2, f3⟩ := m_must_f J.2.1 J.2.2
    exact Or.inr ⟨h1, h2, _, _, e1, f1, e2, f2, e3, f3⟩
theorem wj_num (J : JT Yc Ym t m n T hc hm p) {lo hi : Nat} (hl : lo < 2 ^ 30) (hh : hi < 2 ^ 30) :
    (∃ k hc' hm', To_passNumber Yc t (nI lo) (nI hi) hc = some (true, hc') ∧ M_count Ym m (nI lo) (nI hi) hm = some (nI k, hm') ∧ Tk t hc hc' ∧ Tm m hm hm' ∧ JT Yc Ym t m n T hc' hm' (tE T n p) ∧ hGi hc' 710 t = nI k ∧ lo ≤ k ∧ k ≤ hi ∧ p < tE T n p) ∨
    ∃ hc' hm' k a, To_passNumber Yc t (nI lo) (nI hi) hc = some (false, hc') ∧ M_count Ym m (nI lo) (nI hi) hm = some (0, hm') ∧ Tk t hc hc' ∧ Tm m hm hm' ∧ FL hc' t k a ∧ BF hm' m k a := by
  obtain ⟨A1, A2⟩ := c_num J.1 hl hh
  obtain ⟨B1, B2⟩ := m_count_s (Y := Ym) J.2.1 J.2.2 hl hh
  cases z : okNum T n p lo hi with
  | true =>
    obtain ⟨h1, a1, a2, a3, a4⟩ := A1 z
    obtain ⟨h2, b1, b2, b3, b4⟩ := B1 z
    have z' := of_decide_eq_true z
    exact Or.inl ⟨_, h1, h2, a1, b1, a2, b2, ⟨a3, b3, b4⟩, a4, z'.2.1, z'.2.2, tE_gt (T := T) J.1.2.1 (by omega)⟩
  | false =>
    obtain ⟨h1, a1, a2, a3⟩ := A2 z
    obtain ⟨h2, b1, b2, b3⟩ := B2 z
    exact Or.inr ⟨h1, h2, _, _, a1, b1, a2, b2, a3, b3⟩
theorem wj_old (J : JT Yc Ym t m n T hc hm p) (S : CS Yc hc x) (os : isO Yc 4 s) (R : RN hc s c w) (N : NQ c c w) (Sm : MS Ym hm m) (B : BN hm m 0 c w) {so : Nat} (hso : so < 7) :
    (∃ k hc' hm', To_passOld Yc t s (nI (kindOf so)) hc = some (true, hc') ∧ M_readTold Ym m 0 (nI so) hm = some (nI k, hm') ∧ Tk t hc hc' ∧ Tm m hm hm' ∧ JT Yc Ym t m n T hc' hm' (tE T n p) ∧ hGi hc' 710 t = nI k ∧ k < cN c (manyI so) ∧ p < tE T n p) ∨
    ∃ hc' hm' k a, To_passOld Yc t s (nI (kindOf so)) hc = some (false, hc') ∧ M_readTold Ym m 0 (nI so) hm = some (0, hm') ∧ Tk t hc hc' ∧ Tm m hm hm' ∧ FL hc' t k a ∧ BF hm' m k a := by
  obtain ⟨A1, A2⟩ := c_old S os J.1 R N.2.2 N.2.1 hso (cnt8 N.1 hso).2
  obtain ⟨B1, B2⟩ := m_readTold_s (Y := Ym) Sm J.2.1 J.2.2 (j := 0) (Nat.zero_le _) B hso
  cases z : oldN T n p c w so with
  | some k =>
    obtain ⟨h1, a1, a2, a3, a4⟩ := A1 k z
    obtain ⟨h2, b1, b2, b3, b4⟩ := B1 k z
    have zz : isNm T n p = true := by
      unfold oldN at z
      split at z
      · assumption
      · cases z
    have kl : k < cN c (manyI so) := by
      unfold oldN at z
      rw [if_pos zz] at z
      exact (nmF_some z).1
    exact Or.inl ⟨k, h1, h2, a1, b1, a2, b2, ⟨a3, b3, b4⟩, a4, kl, tE_gt (T := T) J.1.2.1 (isNm_0 zz)⟩
  | none =>
    obtain ⟨h1, a1, a2, a3⟩ := A2 z
    obtain ⟨h2, b1, b2, b3⟩ := B2 z
    exact Or.inr ⟨h1, h2, _, _, a1, b1, a2, b2, a3, b3⟩
theorem BN_m {hm' : Hp} (K : Mp Ym m hm hm') (B : BN hm m 0 c w) : BN hm' m 0 c w := by
  intro so hso
  obtain ⟨b1, b2, b3⟩ := B so hso
  have ml := many_lt hso
  refine ⟨?_, b2, fun k hk => ?_⟩
  · rw [K.2.2.1, K.2.2.2.2.2.1 _ (by omega)]; exact b1
  · rw [K.2.2.1, K.2.2.2.2.2.2.1 _ (by omega)]; exact b3 k hk
end JTK
