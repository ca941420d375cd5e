/-! ===== isEnding ===== -/
def tOk (v : Int64) (T : Nat) : Prop := 0 ≤ v.toInt ∧ v.toInt < (T : Int)
theorem t32 {v : Int64} {T : Nat} (hT : T < 9) (h : tOk v T) : v.toInt32 = nI v.toInt.toNat ∧ v.toInt.toNat < T := by
  obtain ⟨h1, h2⟩ := h
  have e : v.toInt.toNat < T := by omega
  refine ⟨?_, e⟩
  apply Int32.toInt_inj.mp
  rw [Int64.toInt_toInt32, nI_toInt (by omega)]
  simp only [Int.bmod]
  split <;> omega
theorem pred64 {T : Nat} (hT : T < 9) : (nI T - 1).toInt64.toInt = (T : Int) - 1 := by
  rw [Int32.toInt_toInt64]
  cases T with
  | zero => decide
  | succ k => rw [nI_pred, nI_toInt (by omega)]; omega
theorem isIn_t {v : Int64} {T : Nat} (hT : T < 9) : (decide ((0 : Int64) ≤ v) && decide (v ≤ (nI T - 1).toInt64)) = true ↔ tOk v T := by
  rw [Bool.and_eq_true, decide_eq_true_eq, decide_eq_true_eq, Int64.le_iff_toInt_le, Int64.le_iff_toInt_le, pred64 hT]
  unfold tOk
  rw [show (0 : Int64).toInt = 0 from rfl]
  omega
section IE
variable {Yc Ym : Ly} {hc hm : Hp} {x m : Nat} {kw : Nat → Int64} {g : Sg}
theorem Tr_holds_s (R : CR Yc hc x kw g) {t n l T : Nat} (ht : t < 4) (hn : n ≤ 60) (hl : l ≤ n) (hT : T < 9) (h3 : hGi hc 803 (trA hc x t) = nI n) (hA : ∀ i, i < n → hAl hc (hGr hc 800 (trA hc x t)) i = sTn g t i) :
    (Tr_holdsTurns Yc (trA hc x t) (nI l) (nI T) hc = some true ∧ ∀ p, p < l → tOk (sTn g t p) T) ∨ (Tr_holdsTurns Yc (trA hc x t) (nI l) (nI T) hc = some false ∧ ∃ p, p < l ∧ ¬ tOk (sTn g t p) T) := by
  have o8 := R.o8 ht
  unfold Tr_holdsTurns
  refine upl (Q := fun r => (r = some true ∧ ∀ p, p < l → tOk (sTn g t p) T) ∨ (r = some false ∧ ∃ p, p < l ∧ ¬ tOk (sTn g t p) T)) (fun F i (_ : Unit) => Tr_holdsTurns_L2 Yc (trA hc x t) (nI l) (nI T) hc F (nI i)) l (fun i _ => ∀ p, p < i → tOk (sTn g t p) T) ?_ ?_ l 0 () FU (by omega) (by unfold FU; omega) (fun p hp => absurd hp (by omega))
  · intro F i _ hi hI
    show ((Tr_holdsTurns_L2 Yc (trA hc x t) (nI l) (nI T) hc (F + 1) (nI i) = some true ∧ _) ∨ (Tr_holdsTurns_L2 Yc (trA hc x t) (nI l) (nI T) hc (F + 1) (nI i) = some false ∧ _)) ∨ ∃ s' : Unit, Tr_holdsTurns_L2 Yc (trA hc x t) (nI l) (nI T) hc (F + 1) (nI i) = Tr_holdsTurns_L2 Yc (trA hc x t) (nI l) (nI T) hc F (nI (i + 1)) ∧ _
    rw [Tr_holdsTurns_L2, if_neg (nI_ge hi (by omega)), h3, if_neg (nI_ge (show i < n by omega) (by omega)), cl800 R.1 o8, if_pos (inB_nI (by omega) (by omega)), if_pos (inB_nI (by omega) (by omega)), nI_clamp (by omega), hA i (by omega), nI_1]
    by_cases e1 : sTn g t i < 0
    · rw [if_pos e1]
      refine Or.inl (Or.inr ⟨rfl, i, hi, fun w => ?_⟩)
      rw [Int64.lt_iff_toInt_lt, show (0 : Int64).toInt = 0 from rfl] at e1
      have := w.1
      omega
    · rw [if_neg e1]
      by_cases e2 : sTn g t i < (nI T).toInt64
      · rw [if_pos e2]
        refine Or.inr ⟨(), rfl, fun p hp => ?_⟩
        by_cases w : p = i
        · subst w
          rw [Int64.lt_iff_toInt_lt, show (0 : Int64).toInt = 0 from rfl] at e1
          rw [Int64.lt_iff_toInt_lt, Int32.toInt_toInt64, nI_toInt (by omega)] at e2
          exact ⟨by omega, e2⟩
        · exact hI p (by omega)
      · rw [if_neg e2]
        refine Or.inl (Or.inr ⟨rfl, i, hi, fun w => e2 ?_⟩)
        rw [Int64.lt_iff_toInt_lt, Int32.toInt_toInt64, nI_toInt (by omega)]
        exact w.2
  · intro F _ hI
    show (Tr_holdsTurns_L2 Yc (trA hc x t) (nI l) (nI T) hc (F + 1) (nI l) = some true ∧ _) ∨ _
    rw [Tr_holdsTurns_L2, if_pos (nI_le (Nat.le_refl _) (by omega))]
    exact Or.inl ⟨rfl, hI⟩
def tRow (g : Sg) (t : Nat) : Nat → Nat := fun p => (sTn g t p).toInt.toNat
theorem LP_isE_s (R : CR Yc hc x kw g) (V : VG g) {t n b : Nat} (ht : t < 4) (hb : b < cN (sC g 0) 2) (hn : n ≤ 60) (hl : cN (sC g 0) (88 + b) ≤ n) (h3 : hGi hc 803 (trA hc x t) = nI n) (hA : ∀ i, i < n → hAl hc (hGr hc 800 (trA hc x t)) i = sTn g t i) (ok : ∀ p, p < cN (sC g 0) (88 + b) → tOk (sTn g t p) (cN (sC g 0) 1)) :
    CQ Yc x hc ((En_lookAt Yc (hGr hc 1105 x) (hGr hc 1109 x) (nI b) (nI (cN (sC g 0) 9)) hc).bind fun q22 => LP_isEnding_L124 Yc x (nI (cN (sC g 0) (88 + b))) (trA hc x t) FU 0 q22) (if leadsB (sC g 0) b (cN (sC g 0) 9) (tRow g t) = true then 1 else 0) (nI 0) := by
  have X := R.ct V
  have VV := X.2.2.2.2
  have l1 := VC_l1 VV
  have l9 := VV.2.1.2.2
  have hK := VV.2.2.2.2.1 b hb
  have l88 := hK.2.1.1.2
  have o8 := R.o8 ht
  have he : isO Yc 0 (hGr hc 1105 x) := X.e
  have p4 : 2 ^ cN (sC g 0) 4 ≤ 256 := pow_le8 (by have := VC_l4 VV; omega)
  obtain ⟨h1, e1, q1, K1⟩ := En_lookAt_s X he hb (show cN (sC g 0) 9 < 2 ^ 31 by omega)
  have er : ∀ f a, f ≠ 5 → hGr h1 f a = hGr hc f a := q1.2.2.1
  rw [e1, bind_s]
  generalize hE : hGr hc 1105 x = e at *
  have hA1 : ∀ gg, Qf Yc 100 hc (hWi h1 (hGr h1 1 e) gg) := fun gg => Qf_tr q1 (Qf_wi (by decide) rfl he)
  have K' : ∀ gg, LK (hWi h1 (hGr h1 1 e) gg) e (hGr hc 1109 x) (sC g 0) b (cN (sC g 0) 9) := by
    intro gg
    refine ⟨K1.1, K1.2.1, K1.2.2.1, fun p hp => ?_⟩
    obtain ⟨k, k1, k2, k3⟩ := K1.2.2.2 p hp
    refine ⟨k, k1, ?_, k3⟩
    rw [gr_wi, ai_wi, if_neg]
    · exact k2
    · intro w
      rw [er 0 e (by decide), er 1 e (by decide)] at w
      exact absurd (R.1.2.2.2.1 0 1 _ _ rfl rfl he he w).1 (by decide)
  have X' : ∀ gg, CX Yc (hWi h1 (hGr h1 1 e) gg) x (hGr hc 1109 x) (sC g 0) := fun gg => CX_Q X (hA1 gg)
  have key := upl (Q := fun r => CQ Yc x hc r (if leadsB (sC g 0) b (cN (sC g 0) 9) (tRow g t) = true then 1 else 0) (nI 0))
    (fun F i gg => LP_isEnding_L124 Yc x (nI (cN (sC g 0) (88 + b))) (trA hc x t) F (nI i) (hWi h1 (hGr h1 1 e) gg)) (cN (sC g 0) (88 + b))
    (fun i gg => ∀ p, p < i → gg p = nI (tRow g t p)) ?_ ?_ (cN (sC g 0) (88 + b)) 0 (hAi h1 (hGr h1 1 e)) FU (by omega) (by unfold FU; omega) (fun p hp => absurd hp (by omega))
  · simp only [wi_self] at key
    exact key
  · intro F i gg hi hI
    right
    show ∃ s', LP_isEnding_L124 Yc x (nI (cN (sC g 0) (88 + b))) (trA hc x t) (F + 1) (nI i) _ = LP_isEnding_L124 Yc x (nI (cN (sC g 0) (88 + b))) (trA hc x t) F (nI (i + 1)) (hWi _ _ s') ∧ _
    have g8 : hGi (hWi h1 (hGr h1 1 e) gg) 803 (trA hc x t) = nI n := by rw [(hA1 gg).1 803 _ (by decide)]; exact h3
    have a8 : hAl (hWi h1 (hGr h1 1 e) gg) (hGr hc 800 (trA hc x t)) i = sTn g t i := by rw [Qf_al (hA1 gg) R.1 (by decide) rfl o8]; exact hA i (by omega)
    rw [LP_isEnding_L124, if_neg (nI_ge hi (by omega))]
    unfold Tr_numberAt En_tryTurn
    rw [show (1 : Int32) = nI 1 from rfl, Tr_hasAll_s (h := hWi h1 (hGr h1 1 e) gg) (n := n) (k := 1) hn g8 (by omega), bind_s, isAt_ex1 hn, isAt_nI (by omega) (by omega), if_pos rfl, (hA1 gg).2.2.1 800 _ (by decide), (hA1 gg).2.2.1 1105 _ (by decide), hE, cl800 R.1 o8, if_pos (inB_nI (by omega) (by omega)), nI_clamp (by omega), a8, bind_s, En_isPlace_s (K' gg).2.1 (by omega) (by omega), bind_s, if_pos (by simpa using hi), (t32 l1 (ok i hi)).1, cl1 (X' gg).1 he, if_pos (inB_nI (by omega) (by omega)), letH_e, bind_s, gr_wi, ti_wi, nI_add]
    refine ⟨_, rfl, fun p hp => ?_⟩
    by_cases w : p = i
    · rw [w, pk_us]; rfl
    · rw [pk_un w]; exact hI p (by omega)
  · intro F gg hI
    show CQ Yc x hc (LP_isEnding_L124 Yc x (nI (cN (sC g 0) (88 + b))) (trA hc x t) (F + 1) (nI (cN (sC g 0) (88 + b))) _) _ _
    rw [LP_isEnding_L124, if_pos (nI_le (Nat.le_refl _) (by omega)), (hA1 gg).2.2.1 1105 _ (by decide), hE, En_isTriedOne_s (row := tRow g t) (X' gg) he (K' gg) hb (fun p hp => ⟨by rw [gr_wi, ai_wi, if_pos rfl]; exact hI p hp, (t32 l1 (ok p hp)).2⟩), bind_s]
    cases leadsB (sC g 0) b (cN (sC g 0) 9) (tRow g t)
    · exact CQ_give (Cf_Q (hA1 gg))
    · exact CQ_give (Cf_Q (hA1 gg))
theorem M_isE_s (R : MR Ym (mst hm m) m (wSt g (nI 0))) (V : VG g) {t b : Nat} (ht : t < 4) (hb : b < cN (sC g 0) 2) :
    ((∀ p, p < cN (sC g 0) (88 + b) → tOk (sTn g t p) (cN (sC g 0) 1)) ∧ mQ Ym m hm (M_isEnding_L91 Ym m (nI b) (nI t) (nI (cN (sC g 0) (88 + b))) FU 0 (mst hm m)) (if leadsB (sC g 0) b (cN (sC g 0) 9) (tRow g t) = true then 1 else 0) (nI 0)) ∨
    ((∃ p, p < cN (sC g 0) (88 + b) ∧ ¬ tOk (sTn g t p) (cN (sC g 0) 1)) ∧ mQ Ym m hm (M_isEnding_L91 Ym m (nI b) (nI t) (nI (cN (sC g 0) (88 + b))) FU 0 (mst hm m)) m1 5) := by
  have X : MX Ym (mst hm m) m (sC g 0) := R.mx V
  have VV := X.2.2
  have l1 := VC_l1 VV
  have l9 := VV.2.1.2.2
  have hK := VV.2.2.2.2.1 b hb
  have l88 := hK.2.1.1.2
  have GG : ∀ gg, Mg Ym m (mst hm m) (hWi (mst hm m) (hGr (mst hm m) 1231 m) gg) := fun gg => Mg_wi R.1 (by decide) (by decide)
  have X' : ∀ gg, MX Ym (hWi (mst hm m) (hGr (mst hm m) 1231 m) gg) m (sC g 0) := fun gg => (MR_M R (GG gg).1).mx V
  have key := upl (Q := fun r => ((∀ p, p < cN (sC g 0) (88 + b) → tOk (sTn g t p) (cN (sC g 0) 1)) ∧ mQ Ym m hm r (if leadsB (sC g 0) b (cN (sC g 0) 9) (tRow g t) = true then (1 : Int32) else 0) (nI 0)) ∨ ((∃ p, p < cN (sC g 0) (88 + b) ∧ ¬ tOk (sTn g t p) (cN (sC g 0) 1)) ∧ mQ Ym m hm r m1 5))
    (fun F i gg => M_isEnding_L91 Ym m (nI b) (nI t) (nI (cN (sC g 0) (88 + b))) F (nI i) (hWi (mst hm m) (hGr (mst hm m) 1231 m) gg)) (cN (sC g 0) (88 + b))
    (fun i gg => ∀ p, p < i → gg p = nI (tRow g t p) ∧ tOk (sTn g t p) (cN (sC g 0) 1)) ?_ ?_ (cN (sC g 0) (88 + b)) 0 (hAi (mst hm m) (hGr (mst hm m) 1231 m)) FU (by omega) (by unfold FU; omega) (fun p hp => absurd hp (by omega))
  · simp only [wi_self] at key
    exact key
  · intro F i gg hi hI
    have nu : M_numberOf Ym m (nI t) (nI i) (hWi (mst hm m) (hGr (mst hm m) 1231 m) gg) = some (sTn g t i) := by
      unfold M_numberOf
      rw [show (60 : Int32) * nI t + nI i = nI (60 * t + i) by simp only [zlit, pk_mul, nI_add], gr_wi, ml1206 R.1, if_pos (inB_nI (by omega) (by omega)), nI_clamp (by omega)]
      exact congrArg some ((R.2.2.2.1 t ht).2.2 i (by omega))
    have st : M_isEnding_L91 Ym m (nI b) (nI t) (nI (cN (sC g 0) (88 + b))) (F + 1) (nI i) (hWi (mst hm m) (hGr (mst hm m) 1231 m) gg) = if (decide ((0 : Int64) ≤ sTn g t i) && decide (sTn g t i ≤ (nI (cN (sC g 0) 1) - 1).toInt64)) = true then M_isEnding_L91 Ym m (nI b) (nI t) (nI (cN (sC g 0) (88 + b))) F (nI (i + 1)) (hWi (mst hm m) (hGr (mst hm m) 1231 m) (upd gg i (sTn g t i).toInt32)) else (M_refuse Ym m 5 (hWi (mst hm m) (hGr (mst hm m) 1231 m) gg)).bind fun q29 => some (q29.1, q29.2) := by
      rw [M_isEnding_L91, if_neg (nI_ge hi (by omega)), nu, bind_s, bind_s, gr_wi, gr_wi, ml1220 R.1, if_pos (show inB 1 2880 = true by decide), show Int32.toNatClampNeg 1 = 1 from rfl, ai_wi, if_neg (MS_ne R.1 (by decide) (by decide) (by decide)), MB0 X.2.1 (by omega), VC_e1 VV, M_isIn_s, bind_s, ml1231 R.1, if_pos (inB_nI (by omega) (by omega)), nI_clamp (by omega), letH_e, ti_wi, nI_1]
    show _ ∨ ∃ s', M_isEnding_L91 Ym m (nI b) (nI t) (nI (cN (sC g 0) (88 + b))) (F + 1) (nI i) _ = M_isEnding_L91 Ym m (nI b) (nI t) (nI (cN (sC g 0) (88 + b))) F (nI (i + 1)) (hWi _ _ s') ∧ _
    rw [st]
    by_cases ok : tOk (sTn g t i) (cN (sC g 0) 1)
    · right
      rw [if_pos ((isIn_t l1).mpr ok)]
      refine ⟨_, rfl, fun p hp => ?_⟩
      by_cases w : p = i
      · subst w
        exact ⟨by rw [pk_us]; exact (t32 l1 ok).1, ok⟩
      · exact ⟨by rw [pk_un w]; exact (hI p (by omega)).1, (hI p (by omega)).2⟩
    · left; right
      rw [if_neg (fun w => ok ((isIn_t l1).mp w))]
      exact ⟨⟨i, hi, ok⟩, mQ_r (GG gg)⟩
  · intro F gg hI
    left
    refine ⟨fun p hp => (hI p hp).2, ?_⟩
    show mQ Ym m hm (M_isEnding_L91 Ym m (nI b) (nI t) (nI (cN (sC g 0) (88 + b))) (F + 1) (nI (cN (sC g 0) (88 + b))) _) _ _
    rw [M_isEnding_L91, if_pos (nI_le (Nat.le_refl _) (by omega)), gr_wi, show (0 : Int32) = nI 0 from rfl, M_leads_s (row := tRow g t) (k0 := 0) (X' gg) hb (by rw [ml1231 R.1]; omega) (by rw [ml1231 R.1]; omega) (fun p hp => ⟨by rw [Nat.zero_add, ai_wi, if_pos rfl]; exact (hI p hp).1, (t32 l1 (hI p hp).2).2⟩), bind_s]
    cases leadsB (sC g 0) b (cN (sC g 0) 9) (tRow g t)
    · exact mQ_e (GG gg)
    · exact mQ_e (GG gg)
theorem so_isEnding (J : JJ Yc Ym hc x hm m kw) (b t l : Int32) : SO Yc Ym x m kw (LP_isEnding Yc x b t l hc) (M_isEnding Ym m b t l hm) := by
  obtain ⟨g, RC, RM, V⟩ := J
  have R0 := MR_M RM (mst_f (Y := Ym) (h := hm) (m := m))
  rw [mst_0] at R0
  have X := RC.ct V
  have X0 : MX Ym (mst hm m) m (sC g 0) := R0.mx V
  have VV := X.2.2.2.2
  have l2 := VC_l2 VV
  have l1 := VC_l1 VV
  unfold LP_isEnding M_isEnding
  simp only [letH_e]
  rw [LP_trayAt_s RC, bind_s, show hSi (hSi hm 1201 m 0) 1200 m 0 = mst hm m from rfl, M_isTray_s, bind_s]
  have rf : ∀ k : Int32, SO Yc Ym x m kw ((LP_fail Yc x k hc).bind fun q5 => some (q5.1, q5.2)) ((M_refuse Ym m k (mst hm m)).bind fun q => some (q.1, q.2)) := fun k => SO_q RC RM V (CQ_fail (Cf_rf Yc hc)) (mQ_ref mst_f)
  rcases isAt_cases t (n := 4) (by omega) with q | ⟨j, hj, rfl, q⟩
  · rw [q]; exact rf 1
  rw [q, if_pos rfl, if_pos rfl, nI_clamp (by omega)]
  simp only
  rw [Sh_hasBook_s X.2.2.2.1 VV, bind_s, M_isBookAt_s X0.1 X0.2.1 X0.2.2, bind_s]
  rcases isAt_cases b (n := cN (sC g 0) 2) (by omega) with q2 | ⟨i, hi, rfl, q2⟩
  · rw [q2]; exact rf 2
  have hK := VV.2.2.2.2.1 i hi
  have l88 := hK.2.1.1.2
  rw [q2, if_pos rfl, if_pos rfl, show (88 : Int32) + nI i = nI (88 + i) by simp only [zlit, nI_add], ml1205 R0.1, ml1220 R0.1, cl407 X.1 X.2.2.1, if_pos (inB_nI (by omega) (by omega)), if_pos (inB_nI (by omega) (by omega)), if_pos (inB_nI (by omega) (by omega)), if_pos (inB_nI (by omega) (by omega)), (R0.2.2.2.1 j hj).2.1, nI_clamp (by omega), nI_clamp (by omega), MB0 X0.2.1 (by omega), (X.2.2.2.1.2.2.1 i hi).2.1, hK.2.1.1.1, show sTm (wSt g (nI 0)) = sTm g from rfl]
  rcases tr_cases RC hj with ⟨a1, a2⟩ | ⟨n, s, a1, a2, a3, a4, a5, a6, a7, a8⟩
  · rw [a1, a2, if_neg (show ¬ (0 : Int32) ≤ m1 by decide), if_neg (show ¬ false = true by decide)]; exact rf 3
  rw [a3, a5, a6, if_pos rfl, if_pos (nI_pos' (by omega))]
  by_cases e1 : l ≤ nI n
  rotate_left
  · rw [if_neg e1, if_neg e1]; exact rf 4
  rw [if_pos e1, if_pos e1]
  by_cases e2 : l = nI (cN (sC g 0) (88 + i))
  rotate_left
  · rw [if_neg e2, if_neg e2]; exact rf 5
  rw [if_pos e2, if_pos e2]
  subst e2
  rw [nI_leI (by omega) (by omega)] at e1
  rw [show hGi hc 605 (hGr hc 400 (hGr hc 1109 x)) = nI (cN (sC g 0) 1) from X.2.2.2.1.1.2.1.trans (VC_e1 VV), show hGi hc 417 (hGr hc 1109 x) = nI (cN (sC g 0) 9) from X.2.2.2.1.1.2.2.2.2.2.2.2.2.2.trans VV.2.1.2.1]
  rcases Tr_holds_s RC (T := cN (sC g 0) 1) hj a1 e1 l1 a6 a8 with ⟨c1, c2⟩ | ⟨c1, p, hp, c2⟩
  · rw [c1, bind_s, if_pos rfl]
    rcases M_isE_s R0 V hj hi with ⟨_, d⟩ | ⟨⟨p, hp, d1⟩, _⟩
    · exact SO_q RC RM V (LP_isE_s RC V hj hi a1 e1 a6 a8 c2) d
    · exact absurd (c2 p hp) d1
  · rw [c1, bind_s, if_neg (show ¬ false = true by decide)]
    rcases M_isE_s R0 V hj hi with ⟨d1, _⟩ | ⟨_, d⟩
    · exact absurd (d1 p hp) c2
    · exact SO_q RC RM V (CQ_fail (Cf_rf Yc hc)) d
end IE
