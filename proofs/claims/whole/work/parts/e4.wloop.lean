/-! ===== weeks: steps, one behind the other ===== -/
def WS (Yc Ym : Ly) (x t s wk wr m n : Nat) (T : Nat → Int32) (P : Nat → Prop) (hc0 hm0 : Hp) (cL c : Nat → Int32) (w w4 : Nat → Int64) (hc hm : Hp) (p R S d : Nat) (c4 : Nat → Int32) : Prop := PC Yc x t s n T P hc0 hc p cL c w ∧ PM Ym m n T hm0 hm p c4 w4 ∧ (hGi hm 1224 m = nI S ∧ hGi hc 905 wk = 1) ∧ hGi hc 906 wk = nI R ∧ hGi hc 907 wk = nI S ∧ hGi hc 1001 wr = nI d
def WD (R S d : Nat) : Prop := R + d ≤ 2 * S ∧ S ≤ 30 ∧ d ≤ 3
def WE (wk wr : Nat) (hc0 hc hc' : Hp) (c4 c4' : Nat → Int32) (R S d : Nat) : Prop := (∀ f i, 900 ≤ f → f ≤ 904 → i < R → hAi hc' (hGr hc0 f wk) i = hAi hc (hGr hc0 f wk) i) ∧ (∀ j, j < d → hAi hc' (hGr hc0 1000 wr) j = hAi hc (hGr hc0 1000 wr) j) ∧ ∀ i, i < 306 + 9 * S → c4' i = c4 i
/-- one step read on both sides, with all that stands in it; or a fault -/
def SO1 (Yc Ym : Ly) (x t s wk wr m n : Nat) (T : Nat → Int32) (P : Nat → Prop) (hc0 hm0 : Hp) (cL c : Nat → Int32) (w w4 : Nat → Int64) (hc : Hp) (p R S d : Nat) (c4 : Nat → Int32) (F i : Nat) (rm : Option Hp) : Prop :=
  (∃ hc' hm' p' R' S' c4' F' i', WR_readWeeks_L23 Yc wr t s wk F (nI i) hc = WR_readWeeks_L23 Yc wr t s wk F' (nI i') hc' ∧ rm = some hm' ∧ WS Yc Ym x t s wk wr m n T P hc0 hm0 cL c w w4 hc' hm' p' R' S' d c4' ∧ WD R' S' d ∧ p < p' ∧ F' + i' = F + i ∧ i' + p ≤ i + p' ∧ WE wk wr hc0 hc hc' c4 c4' R S d ∧ R < R' ∧ S < S' ∧
    SQ (hAi hc' (hGr hc0 900 wk)) (hAi hc' (hGr hc0 901 wk)) (hAi hc' (hGr hc0 902 wk)) (hAi hc' (hGr hc0 903 wk)) (hAi hc' (hGr hc0 904 wk)) (mxC c c4') (S' - S) (3 - d) R R' S S') ∨
  ∃ hc' hm' k a, WR_readWeeks_L23 Yc wr t s wk F (nI i) hc = some (false, hc') ∧ rm = some hm' ∧ FCc Yc t P hc0 hc' k a ∧ FMm Ym m hm0 hm' k a
/-- the steps of a block, up to its end -/
def SOS (Yc Ym : Ly) (x t s wk wr m n : Nat) (T : Nat → Int32) (P : Nat → Prop) (hc0 hm0 : Hp) (cL c : Nat → Int32) (w w4 : Nat → Int64) (rec : Nat → Int32 → Hp → Option Hp) (l1 l4 : Int32) (hc : Hp) (p R S d : Nat) (c4 : Nat → Int32) (F i : Nat) (rm : Option Hp) : Prop :=
  (∃ hc' hm' p' R' S' c4' F' i', WR_readWeeks_L23 Yc wr t s wk F (nI i) hc = WR_readWeeks_L23 Yc wr t s wk F' (nI i') hc' ∧ rm = M_readStep_J168 Ym rec m true l4 hm' ∧ WS Yc Ym x t s wk wr m n T P hc0 hm0 cL c w w4 hc' hm' p' R' S' d c4' ∧ WD R' S' d ∧ p ≤ p' ∧ F' + i' = F + i ∧ i' + p ≤ i + p' ∧ WE wk wr hc0 hc hc' c4 c4' R S d ∧ R ≤ R' ∧ S ≤ S' ∧
    SQ (hAi hc' (hGr hc0 900 wk)) (hAi hc' (hGr hc0 901 wk)) (hAi hc' (hGr hc0 902 wk)) (hAi hc' (hGr hc0 903 wk)) (hAi hc' (hGr hc0 904 wk)) (mxC c c4') (S' - S) (3 - d) R R' S S' ∧ tI T n p' = some 29) ∨
  ∃ hc' hm' k a, WR_readWeeks_L23 Yc wr t s wk F (nI i) hc = some (false, hc') ∧ rm = M_readStep_J168 Ym rec m true l4 hm' ∧ FCc Yc t P hc0 hc' k a ∧ FMm Ym m hm0 hm' k a
section STP
variable {Yc Ym : Ly} {x t s wk wr m n : Nat} {T : Nat → Int32} {P : Nat → Prop} {hc0 hm0 hc hm h : Hp} {p R S d d' : Nat} {cL c c4 : Nat → Int32} {w w4 : Nat → Int64}
variable {F i D kk : Nat} {rec : Nat → Int32 → Hp → Option Hp}
theorem PM_24 (C : PM Ym m n T hm0 h p c4 w4) (v : Int32) : PM Ym m n T hm0 (hSi h 1224 m v) p c4 w4 := by
  have K : Mp Ym m h (hSi h 1224 m v) := ⟨fun f a ne => by rw [gi_si, if_neg (fun z => ne ⟨z.2, Or.inr z.1⟩)], fun _ _ _ => rfl, fun _ _ => rfl, fun _ _ _ _ => rfl, fun _ _ _ _ => rfl, fun _ _ => rfl, fun _ _ => rfl, fun z => Ty_si z (Or.inl rfl)⟩
  have g : ∀ f, f ≠ 1224 → hGi (hSi h 1224 m v) f m = hGi h f m := fun f hf => by rw [gi_si, if_neg (fun z => hf z.1)]
  obtain ⟨q1, q2, q3, q4, q5, q6⟩ := C
  refine ⟨Mp_tr q1 K, MS_congr q2 (fun _ => rfl), ⟨⟨q3.1.1, q3.1.2.1, (g _ (by decide)).trans q3.1.2.2.1, q3.1.2.2.2⟩, q3.2.1, (g _ (by decide)).trans q3.2.2.1, (g _ (by decide)).trans q3.2.2.2.1, (g _ (by decide)).trans q3.2.2.2.2.1, fun z => (g _ (by decide)).trans (q3.2.2.2.2.2.1 z), fun z => (g _ (by decide)).trans (q3.2.2.2.2.2.2.1 z), fun z => ⟨(g _ (by decide)).trans (q3.2.2.2.2.2.2.2 z).1, (q3.2.2.2.2.2.2.2 z).2⟩⟩, (g _ (by decide)).trans q4, q5, q6⟩
/-! the reference before a step's word -/
theorem bad_81 {k a : Nat} (F : FMm Ym m hm0 h k a) (l1 l2 : Int32) (b : Bool) : M_readStep_J81 Ym rec m l1 l2 b h = some h := by
  unfold M_readStep_J81
  rw [if_neg (nz_b2 F)]
theorem bad_55 {k a : Nat} (F : FMm Ym m hm0 h k a) (l1 l2 : Int32) (b : Bool) : M_readStep_J55 Ym rec m l1 l2 b h = some h := by
  unfold M_readStep_J55
  rw [if_neg (nz_b F), bad_81 F]
theorem bad_29 {k a : Nat} (F : FMm Ym m hm0 h k a) (l1 l2 : Int32) (b : Bool) : M_readStep_J29 Ym rec m l1 l2 b h = some h := by
  unfold M_readStep_J29
  rw [if_neg (nz_b F), bad_55 F]
/-- no step's word stands here -/
theorem rs_none (M : PM Ym m n T hm0 hm p c4 w4) (z : stW (tI T n p) = -1) (l1 : Int32) : ∃ h', M_readStep_b Ym rec m l1 hm = some h' ∧ FMm Ym m hm0 h' (flt T n p 2) (tS T n p) := by
  obtain ⟨h1, b1, b2, b3⟩ := m_amiss (Y := Ym) M.2.2.1 M.2.2.2.1
  have F := FMm_k M b2 b3
  unfold M_readStep_b
  rw [stepWord_s M.2.2.1, bind_s, z, if_neg (by decide), if_neg (by decide)]
  unfold M_readStep_J20
  rw [if_neg (by decide), b1, bind_s, bad_29 F]
  exact ⟨h1, rfl, F⟩
/-- a step too many -/
theorem rs_full (M : PM Ym m n T hm0 hm p c4 w4) (e24 : hGi hm 1224 m = nI 30) (l1 l2 : Int32) (b : Bool) : ∃ h', M_readStep_J29 Ym rec m l1 l2 b hm = some h' ∧ FMm Ym m hm0 h' 6 (tS T n p) := by
  obtain ⟨h1, b1, b2, b3⟩ := m_fail (Y := Ym) M.2.2.2.1 (k := 6) (a := tS T n p) (by decide) (by decide)
  have F := FMm_k M b2 b3
  unfold M_readStep_J29
  rw [if_pos M.2.2.2.1, if_pos (show hGi hm 1224 m = 30 from e24), M.2.2.1.2.2.2.1, show M_fail Ym m 6 (nI (tS T n p)) hm = some h1 from b1, bind_s, bad_55 F]
  exact ⟨h1, rfl, F⟩
theorem rs_deep (M : PM Ym m n T hm0 hm p c4 w4) (e24 : hGi hm 1224 m = nI S) (hS : S < 30) (l2 : Int32) : ∃ h', M_readStep_J29 Ym rec m (nI 3) l2 true hm = some h' ∧ FMm Ym m hm0 h' 7 (tS T n p) := by
  obtain ⟨h1, b1, b2, b3⟩ := m_fail (Y := Ym) M.2.2.2.1 (k := 7) (a := tS T n p) (by decide) (by decide)
  have F := FMm_k M b2 b3
  unfold M_readStep_J29
  rw [if_pos M.2.2.2.1, if_neg (show ¬ hGi hm 1224 m = 30 from fun z => by rw [e24] at z; have := (nI_eq (b := 30) (by omega) (by decide)).mp z; omega)]
  unfold M_readStep_J55
  rw [if_pos M.2.2.2.1, if_pos rfl, if_pos (show nI 3 = 3 from rfl), M.2.2.1.2.2.2.1, show M_fail Ym m 7 (nI (tS T n p)) hm = some h1 from b1, bind_s, bad_81 F]
  exact ⟨h1, rfl, F⟩
/-- the step begins: its word is passed, its kind put down -/
theorem rs_on (M : PM Ym m n T hm0 hm p c4 w4) (Tc : TC Yc hc t n T p) (e24 : hGi hm 1224 m = nI S) (hS : S < 30) (b : Bool) (hb : b = true → d < 3) :
    ∃ hcA k1, To_advance Yc t hc = some hcA ∧ Tk t hc hcA ∧ TC Yc hcA t n T (tE T n p) ∧ PM Ym m n T hm0 k1 (tE T n p) (upd c4 (306 + 9 * S) (nI kk)) w4 ∧ hGi k1 1224 m = nI (S + 1) ∧
      M_readStep_J29 Ym rec m (nI d) (nI kk) b hm = (M_readRest Ym m (nI (2304 + (306 + 9 * S))) k1).bind fun q17 => (M_isSign Ym m 59 q17).bind fun q18 => (M_must Ym m q18 q17).bind fun q19 => M_readStep_L140 Ym rec m (nI d) b (nI (2304 + (306 + 9 * S))) FU q19 := by
  have M1 := PM_24 M (nI (S + 1))
  obtain ⟨hA, kA, aA, bA, tkA, tmA, JA⟩ := wj_adv (⟨Tc, M1.2.2.1, M1.2.2.2.1⟩ : JT Yc Ym t m n T hc _ p)
  have M2 := PM_k M1 tmA JA.2.1 JA.2.2
  have M3 := PM_w M2 (k := 306 + 9 * S) (v := nI kk) (by omega)
  refine ⟨hA, _, aA, tkA, JA.1, M3, ?_, ?_⟩
  · show hGi kA 1224 m = nI (S + 1)
    rw [tmA.1 1224 m (by omega), gi_si, if_pos ⟨rfl, rfl⟩]
  · have i0 : (2610 : Int32) + 9 * nI S = nI (2304 + (306 + 9 * S)) := by rw [zlit 2610, zlit 9, pk_mul, nI_add, show 2610 + 9 * S = 2304 + (306 + 9 * S) by omega]
    have j81 : M_readStep_J29 Ym rec m (nI d) (nI kk) b hm = M_readStep_J81 Ym rec m (nI d) (nI kk) b hm := by
      unfold M_readStep_J29
      rw [if_pos M.2.2.2.1, if_neg (show ¬ hGi hm 1224 m = 30 from fun z => by rw [e24] at z; have := (nI_eq (b := 30) (by omega) (by decide)).mp z; omega)]
      unfold M_readStep_J55
      rw [if_pos M.2.2.2.1]
      cases b with
      | false => rw [if_neg (by decide)]
      | true =>
        have := hb rfl
        rw [if_pos rfl, if_neg (show ¬ nI d = 3 from fun z => by have := (nI_eq (b := 3) (by omega) (by decide)).mp z; omega)]
    rw [j81]
    unfold M_readStep_J81
    rw [if_pos (show hGi hm 1212 m ≤ 0 by rw [M.2.2.2.1]; decide), e24, nI_1, letH_e, bA, bind_s, i0, ml1220 M2.2.1, if_pos (inB_nI (by omega) (by decide)), letH_e, nI_clamp (by omega)]
/-! what is done behind a fault -/
theorem bad_168 {k a : Nat} (hS : S < 30) (F : FMm Ym m hm0 h k a) (b : Bool) : ∃ h', M_readStep_J168 Ym rec m b (nI (2304 + (306 + 9 * S))) h = some h' ∧ FMm Ym m hm0 h' k a := by
  have l8 := lk S 8
  have F2 := FMm_w F (j := 314 + 9 * S) (v := hGi h 1224 m)
  unfold M_readStep_J168
  rw [show nI (2304 + (306 + 9 * S)) + 8 = nI (2304 + (314 + 9 * S)) from l8]
  cases b with
  | false =>
    rw [if_neg (by decide), ml1220 F.2.1, if_pos (inB_nI (by omega) (by decide)), letH_e, nI_clamp (by omega)]
    exact ⟨_, rfl, F2⟩
  | true =>
    obtain ⟨b1, e1⟩ := totEnd (Y := Ym) (h := h) (m := m)
    obtain ⟨b2, e2⟩ := isSign_tot (Y := Ym) (h := h) (m := m) 59
    rw [if_pos rfl, e1, bind_s, must_b F, bind_s, e2, bind_s, must_b F, bind_s, ml1220 F.2.1, if_pos (inB_nI (by omega) (by decide)), letH_e, nI_clamp (by omega)]
    exact ⟨_, rfl, F2⟩
theorem bad_140 {k a : Nat} {G : Nat} (F : FMm Ym m hm0 h k a) (l1 l4 : Int32) (b : Bool) : M_readStep_L140 Ym rec m l1 b l4 (G + 1) h = M_readStep_J168 Ym rec m b l4 h := by
  rw [M_readStep_L140]
  cases b with
  | false => rw [if_neg (by decide)]
  | true => rw [if_pos rfl, if_neg (nz_b F)]
theorem bad_rest {k a : Nat} (hS : S < 30) (F : FMm Ym m hm0 h k a) (l1 : Int32) (b : Bool) : ∃ h', ((M_isSign Ym m 59 h).bind fun q18 => (M_must Ym m q18 h).bind fun q19 => M_readStep_L140 Ym rec m l1 b (nI (2304 + (306 + 9 * S))) FU q19) = some h' ∧ FMm Ym m hm0 h' k a := by
  obtain ⟨b2, e2⟩ := isSign_tot (Y := Ym) (h := h) (m := m) 59
  obtain ⟨G, hG⟩ : ∃ G, FU = G + 1 := ⟨4000000 - 1, by unfold FU; omega⟩
  rw [e2, bind_s, must_b F, bind_s, hG, bad_140 F]
  exact bad_168 hS F b
/-! the class before a step's word -/
theorem may_no (Tc : TC Yc hc t n T p) (e7 : hGi hc 907 wk = nI S) {j : Nat} (z : tI T n p = some j) (hj : j = 21 ∨ j = 22 ∨ j = 23 ∨ j = 24 ∨ j = 30) : (S < 30 → WR_mayStep Yc wr t wk hc = some (true, hc)) ∧ (S = 30 → ∃ h', WR_mayStep Yc wr t wk hc = some (false, h') ∧ Tk t hc h' ∧ FL h' t 6 (tS T n p)) := by
  obtain ⟨h1, a1, a2, a3⟩ := c_blame Tc 6
  rw [flt_1 (tI_0 z)] at a3
  have a1' : To_blame Yc t 6 hc = some (false, h1) := a1
  have e8 : hGi hc 708 t = nI j := by rw [Tc.2.2.2.2.2.1, z]; rfl
  have n8 : ∀ k, k < 31 → (nI j = nI k ↔ j = k) := fun k hk => nI_eq (by omega) (by omega)
  have i21 : (nI j = 21) ↔ j = 21 := n8 21 (by decide)
  have i22 : (nI j = 22) ↔ j = 22 := n8 22 (by decide)
  have i23 : (nI j = 23) ↔ j = 23 := n8 23 (by decide)
  have i24 : (nI j = 24) ↔ j = 24 := n8 24 (by decide)
  have i25 : (nI j = 25) ↔ j = 25 := n8 25 (by decide)
  have i28 : (nI j = 28) ↔ j = 28 := n8 28 (by decide)
  have i30 : (nI j = 30) ↔ j = 30 := n8 30 (by decide)
  have key : WR_mayStep Yc wr t wk hc = if nI S < 30 then some (true, hc) else some (false, h1) := by
    unfold WR_mayStep
    rw [e8, e7, a1', bind_s, bind_s]
    simp only [i21, i22, i23, i24, i25, i28, i30]
    rcases hj with e | e | e | e | e <;> subst e <;> simp
  rw [key]
  exact ⟨fun hS => by rw [if_pos (show nI S < 30 from nI_lt (b := 30) hS (by decide))], fun hS => ⟨h1, by rw [if_neg (show ¬ nI S < 30 by rw [hS]; decide)], a2, a3⟩⟩
theorem may_bl (Tc : TC Yc hc t n T p) (e7 : hGi hc 907 wk = nI S) (e1 : hGi hc 1001 wr = nI d) {j : Nat} (z : tI T n p = some j) (hj : j = 25 ∨ j = 28) : (S < 30 → d < 3 → WR_mayStep Yc wr t wk hc = some (true, hc)) ∧ (S = 30 → ∃ h', WR_mayStep Yc wr t wk hc = some (false, h') ∧ Tk t hc h' ∧ FL h' t 6 (tS T n p)) ∧ (S < 30 → d = 3 → ∃ h', WR_mayStep Yc wr t wk hc = some (false, h') ∧ Tk t hc h' ∧ FL h' t 7 (tS T n p)) := by
  obtain ⟨h1, a1, a2, a3⟩ := c_blame Tc 6
  obtain ⟨h2, b1, b2, b3⟩ := c_blame Tc 7
  rw [flt_1 (tI_0 z)] at a3 b3
  have a1' : To_blame Yc t 6 hc = some (false, h1) := a1
  have b1' : To_blame Yc t 7 hc = some (false, h2) := b1
  have e8 : hGi hc 708 t = nI j := by rw [Tc.2.2.2.2.2.1, z]; rfl
  have n8 : ∀ k, k < 31 → (nI j = nI k ↔ j = k) := fun k hk => nI_eq (by omega) (by omega)
  have i21 : (nI j = 21) ↔ j = 21 := n8 21 (by decide)
  have i22 : (nI j = 22) ↔ j = 22 := n8 22 (by decide)
  have i23 : (nI j = 23) ↔ j = 23 := n8 23 (by decide)
  have i24 : (nI j = 24) ↔ j = 24 := n8 24 (by decide)
  have i25 : (nI j = 25) ↔ j = 25 := n8 25 (by decide)
  have i28 : (nI j = 28) ↔ j = 28 := n8 28 (by decide)
  have i30 : (nI j = 30) ↔ j = 30 := n8 30 (by decide)
  have key : WR_mayStep Yc wr t wk hc = if nI S < 30 then (if nI d < 3 then some (true, hc) else some (false, h2)) else some (false, h1) := by
    unfold WR_mayStep
    rw [e8, e7, e1, a1', b1', bind_s, bind_s, bind_s]
    simp only [i21, i22, i23, i24, i25, i28, i30]
    rcases hj with e | e <;> subst e <;> simp
  rw [key]
  exact ⟨fun hS hd => by rw [if_pos (show nI S < 30 from nI_lt (b := 30) hS (by decide)), if_pos (show nI d < 3 from nI_lt (b := 3) hd (by decide))], fun hS => ⟨h1, by rw [if_neg (show ¬ nI S < 30 by rw [hS]; decide)], a2, a3⟩, fun hS hd => ⟨h2, by rw [if_pos (show nI S < 30 from nI_lt (b := 30) hS (by decide)), if_neg (show ¬ nI d < 3 by rw [hd]; decide)], b2, b3⟩⟩
theorem may_el (Tc : TC Yc hc t n T p) (z : ∀ j, tI T n p = some j → ¬ (j = 21 ∨ j = 22 ∨ j = 23 ∨ j = 24 ∨ j = 30 ∨ j = 25 ∨ j = 28)) : ∃ h', WR_mayStep Yc wr t wk hc = some (false, h') ∧ Tk t hc h' ∧ FL h' t (flt T n p 2) (tS T n p) := by
  obtain ⟨h1, a1, a2, a3⟩ := c_blame Tc 2
  have q : ∀ i, i < 31 → ((hGi hc 708 t = nI i) ↔ tI T n p = some i) := fun i hi => by rw [Tc.2.2.2.2.2.1]; exact tI_on hi
  unfold WR_mayStep
  rw [if_neg (show ¬ hGi hc 708 t = 21 from fun w => z 21 ((q 21 (by decide)).mp w) (by omega)), if_neg (show ¬ hGi hc 708 t = 22 from fun w => z 22 ((q 22 (by decide)).mp w) (by omega)), if_neg (show ¬ hGi hc 708 t = 23 from fun w => z 23 ((q 23 (by decide)).mp w) (by omega)), if_neg (show ¬ hGi hc 708 t = 24 from fun w => z 24 ((q 24 (by decide)).mp w) (by omega)), if_neg (show ¬ hGi hc 708 t = 25 from fun w => z 25 ((q 25 (by decide)).mp w) (by omega)), if_neg (show ¬ hGi hc 708 t = 28 from fun w => z 28 ((q 28 (by decide)).mp w) (by omega)), if_neg (show ¬ hGi hc 708 t = 30 from fun w => z 30 ((q 30 (by decide)).mp w) (by omega)), show To_blame Yc t 2 hc = some (false, h1) from a1, bind_s]
  exact ⟨h1, rfl, a2, a3⟩
/-- the class's loop at a step's word -/
theorem lp_step (Tc : TC Yc hc t n T p) (hi : i ≤ 300) (z0 : tK T n p ≠ 0) (z29 : tI T n p ≠ some 29) : WR_readWeeks_L23 Yc wr t s wk (F + 1) (nI i) hc = (WR_mayStep Yc wr t wk hc).bind fun q13 => if q13.1 = true then (WR_readStep Yc wr t s wk q13.2).bind fun q15 => if q15.1 = true then (To_passSemicolon Yc t q15.2).bind fun q17 => if q17.1 = true then WR_readWeeks_L23 Yc wr t s wk F (nI (i + 1)) q17.2 else some (false, q17.2) else some (false, q15.2) else some (false, q13.2) := by
  have kl := tK_le T n p
  have q : (hGi hc 708 t = nI 29) ↔ tI T n p = some 29 := by rw [Tc.2.2.2.2.2.1]; exact tI_on (by decide)
  rw [WR_readWeeks_L23, if_neg (show ¬ (300 : Int32) < nI i from fun q => by have := (nI_ltI (a := 300) (b := i) (by omega) (by omega)).mp q; omega), Tc.2.2.2.1, if_neg (show ¬ nI (tK T n p) = 0 from fun w => z0 ((nI_eq (b := 0) (by omega) (by decide)).mp w)), if_neg (show ¬ hGi hc 708 t = 29 from fun w => z29 (q.mp w)), nI_1]
  rfl
theorem lp_end (Tc : TC Yc hc t n T p) (hi : i ≤ 300) (z29 : tI T n p = some 29) : WR_readWeeks_L23 Yc wr t s wk (F + 1) (nI i) hc = (WR_readEnd Yc wr t wk hc).bind fun q11 => if q11.1 = true then WR_readWeeks_L23 Yc wr t s wk F (nI (i + 1)) q11.2 else some (false, q11.2) := by
  have kl := tK_le T n p
  have z0 := tI_0 z29
  have q : (hGi hc 708 t = nI 29) ↔ tI T n p = some 29 := by rw [Tc.2.2.2.2.2.1]; exact tI_on (by decide)
  rw [WR_readWeeks_L23, if_neg (show ¬ (300 : Int32) < nI i from fun q => by have := (nI_ltI (a := 300) (b := i) (by omega) (by omega)).mp q; omega), Tc.2.2.2.1, if_neg (show ¬ nI (tK T n p) = 0 from fun w => by have := (nI_eq (b := 0) (by omega) (by decide)).mp w; omega), if_pos (show hGi hc 708 t = 29 from q.mpr z29), nI_1]
theorem lp_out (Tc : TC Yc hc t n T p) (hi : i ≤ 300) (z0 : tK T n p = 0) : WR_readWeeks_L23 Yc wr t s wk (F + 1) (nI i) hc = WR_readWeeks_J102 Yc wr t hc := by
  rw [WR_readWeeks_L23, if_neg (show ¬ (300 : Int32) < nI i from fun q => by have := (nI_ltI (a := 300) (b := i) (by omega) (by omega)).mp q; omega), Tc.2.2.2.1, z0, if_pos (show nI 0 = 0 from rfl)]
end STP
