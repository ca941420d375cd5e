/-! ===== the least odd ending: the calls, the reference ===== -/
theorem p_cases (g : Int32) {n : Nat} (hn : n < 2 ^ 30) : (isAt (g - 1) n = false ∧ (g < nI 1 ∨ (¬ g < nI 1 ∧ ¬ g ≤ nI n))) ∨ ∃ j, j < n ∧ g - 1 = nI j ∧ g = nI (j + 1) ∧ isAt (g - 1) n = true := by
  rcases isAt_cases (g - 1) (n := n) (by omega) with q | ⟨j, hj, e, q⟩
  · left
    refine ⟨q, ?_⟩
    by_cases h1 : g < nI 1
    · exact Or.inl h1
    · refine Or.inr ⟨h1, fun h3 => ?_⟩
      have hp : ¬ g < 0 := by
        intro z
        apply h1
        rw [Int32.lt_iff_toInt_lt] at z ⊢
        rw [nI_toInt (by omega)]
        have : (0 : Int32).toInt = 0 := by decide
        omega
      obtain ⟨i, hi, rfl⟩ := nI_of hp
      rw [nI_ltI hi (by omega)] at h1
      rw [nI_leI hi (by omega)] at h3
      obtain ⟨i, rfl⟩ : ∃ i', i = i' + 1 := ⟨i - 1, by omega⟩
      rw [nI_pred, isAt_nI (by omega) (by omega)] at q
      cases q
  · right
    refine ⟨j, hj, e, ?_, q⟩
    have : g = (g - 1) + 1 := by rw [Int32.sub_add_cancel]
    rw [this, e, nI_1]
def whyP (c : Nat → Int32) (b p : Int32) : Int32 := if isAt b (cN c 2) then (if isAt (p - 1) (cN c (88 + b.toNatClampNeg)) then nI 0 else nI 5) else nI 2
def spBest (c : Nat → Int32) (b : Int32) : Int32 × Int32 := if isAt b (cN c 2) then anyP (bestO c b.toNatClampNeg) else (m1, nI 2)
def atP (c : Nat → Int32) (b p : Nat) : Option Nat → Int32 × Int32
  | none => (m1, nI 8)
  | some _ => (nI (btn c b p), nI 0)
def spBestAt (c : Nat → Int32) (b p : Int32) : Int32 × Int32 := if isAt b (cN c 2) then (if isAt (p - 1) (cN c (88 + b.toNatClampNeg)) then atP c b.toNatClampNeg (p - 1).toNatClampNeg (bestO c b.toNatClampNeg) else (m1, nI 5)) else (m1, nI 2)
theorem bestO_lt {c : Nat → Int32} (V : VB c) {b : Nat} (hb : b < cN c 2) : ∀ k, bestO c b = some k → k < 100 := by
  intro k hk
  have l88 := (V.2.2.2.2.1 b hb).2.1.1.2
  unfold bestO at hk
  split at hk
  · cases hk
  · have := LSo_le V b _ _ _ k hk; omega
section BCT
variable {Y : Ly} {h : Hp} {x : Nat} {c : Nat → Int32}
theorem LP_why_s (X : CT Y h x c) (b p : Int32) : LP_whyNoMissingPlace Y x b p h = some (whyP c b p) := by
  have V := X.2.2.2.2
  have l2 := VC_l2 V
  unfold LP_whyNoMissingPlace whyP
  rw [Sh_hasBook_s X.2.2.2.1 V, bind_s]
  rcases isAt_cases b (n := cN c 2) (by omega) with q | ⟨j, hj, rfl, q⟩
  · rw [q]; rfl
  · have hK := V.2.2.2.2.1 j hj
    have l88 := hK.2.1.1.2
    rw [q, if_pos rfl, if_pos rfl, nI_clamp (by omega), cl407 X.1 X.2.2.1, if_pos (inB_nI (by omega) (by omega)), (X.2.2.2.1.2.2.1 j hj).2.1, hK.2.1.1.1]
    rcases p_cases p (n := cN c (88 + j)) (by omega) with ⟨q2, e1 | ⟨e1, e2⟩⟩ | ⟨i, hi, e1, e2, q2⟩
    · rw [q2, if_pos (show p < 1 from e1)]; rfl
    · rw [q2, if_neg (show ¬ p < 1 from e1), if_neg e2]; rfl
    · rw [q2, if_pos rfl, e2, if_neg (show ¬ nI (i + 1) < 1 from nI_nlt (b := 1) (by omega) (by omega)), if_pos (nI_le (by omega) (by omega))]; rfl
theorem LP_best_q (X : CT Y h x c) (b : Int32) : CQ Y x h (LP_best Y x b h) (spBest c b).1 (spBest c b).2 := by
  have V := X.2.2.2.2
  have l2 := VC_l2 V
  unfold LP_best spBest
  rw [Sh_hasBook_s X.2.2.2.1 V, bind_s]
  rcases isAt_cases b (n := cN c 2) (by omega) with q | ⟨j, hj, rfl, q⟩
  · rw [q]; exact CQ_fail (Cf_rf Y h)
  · rw [q, if_pos rfl, if_pos rfl, nI_clamp (by omega)]
    obtain ⟨h', e1, e2, _⟩ := En_findBest_s X X.e hj
    rw [e1, bind_s]
    exact CQ_any (Cf_Q e2) (fun k hk => by have := bestO_lt V hj k hk; omega)
theorem LP_bestAt_q (X : CT Y h x c) (b p : Int32) : CQ Y x h (LP_bestAt Y x b p h) (spBestAt c b p).1 (spBestAt c b p).2 := by
  have V := X.2.2.2.2
  have l2 := VC_l2 V
  have l1 := VC_l1 V
  unfold LP_bestAt spBestAt
  rw [LP_why_s X, bind_s]
  rcases isAt_cases b (n := cN c 2) (by omega) with q | ⟨j, hj, rfl, q⟩
  · rw [show whyP c b p = nI 2 by unfold whyP; rw [q]; rfl, q, if_neg (show ¬ nI 2 = 0 by decide)]; exact CQ_fail (Cf_rf Y h)
  · have l88 := (V.2.2.2.2.1 j hj).2.1.1.2
    rcases p_cases p (n := cN c (88 + j)) (by omega) with ⟨q2, _⟩ | ⟨i, hi, e1, e2, q2⟩
    · rw [show whyP c (nI j) p = nI 5 by unfold whyP; rw [q, if_pos rfl, nI_clamp (by omega), q2]; rfl, q, if_pos rfl, nI_clamp (by omega), q2, if_neg (show ¬ nI 5 = 0 by decide)]; exact CQ_fail (Cf_rf Y h)
    · rw [show whyP c (nI j) p = nI 0 by unfold whyP; rw [q, if_pos rfl, nI_clamp (by omega), q2]; rfl, q, if_pos rfl, nI_clamp (by omega), q2, if_pos (show nI 0 = 0 from rfl), if_pos rfl, e1, nI_clamp (by omega)]
      obtain ⟨h', f1, f2, f3, f4⟩ := En_findBest_s X X.e hj
      have X' := CT_C X (Cf_Q f2)
      rw [f1, bind_s]
      cases hB : bestO c j with
      | none =>
        rw [if_pos (show on none = -1 from rfl)]
        exact CQ_anyI (v := m1) (Cf_Q f2)
      | some k =>
        have hk := bestO_lt V hj k hB
        have nk : ¬ nI k = m1 := by rw [ne_m1 (by omega)]; exact fun z => z
        have hne : bestO c j ≠ none := by rw [hB]; exact fun z => by cases z
        obtain ⟨_, _, _, t3, _⟩ := btn_ok V hj hne hi
        rw [if_neg (show ¬ on (some k) = -1 from nk)]
        unfold En_triedAt
        rw [f2.2.2.1 1105 x (by decide), En_isPlace_s f3 (by omega) (by omega), bind_s, if_pos (by simpa using hi), ← f2.2.2.1 1105 x (by decide), cl1 X'.1 X'.e, if_pos (inB_nI (by omega) (by omega)), nI_clamp (by omega), f2.2.2.1 1105 x (by decide), f4 hne i hi, bind_s]
        have e := CQ_anyI (Y := Y) (x := x) (v := nI (btn c j i)) (Cf_Q f2)
        unfold anyI at e
        rw [if_neg (by rw [ne_m1 (by omega)]; exact fun z => z)] at e
        exact e
end BCT
section BM
variable {Y : Ly} {h : Hp} {m : Nat} {c : Nat → Int32} {b : Nat}
theorem M_goesBest_s (X : MX Y h m c) (hb : b < cN c 2) {p st t u : Nat} (hp : p < cN c (88 + b)) (hst : st < cN c 0) (ht : t < cN c 1) (hu : u < 100)
    (hG : ∀ q, q < 8 → hAi h (hGr h 1229 m) (8 * (p + 2) + q) = on (LSo c b (cN c 9) (cN c (88 + b) - (p + 1)) q)) (h0 : hAi h (hGr h 1229 m) (8 * (p + 1) + st) = nI u) :
    M_goesBest Y m (nI b) (nI (p + 1)) (nI st) (nI t) h = some (decide (vl c b (cN c 9) (cN c (88 + b) - (p + 1)) p st t = some u)) := by
  obtain ⟨S, B, V⟩ := X
  have l0 := VC_l0 V
  have l1 := VC_l1 V
  have l2 := VC_l2 V
  have l9 := V.2.1.2.2
  have p9 := pow_le6 (VC_l4 V)
  have l88 := (V.2.2.2.2.1 b hb).2.1.1.2
  have ot := V.2.2.1 t ht
  have ot2 := ot.2
  unfold M_goesBest
  rcases V.2.2.2.1 st t (by omega) (by omega) with q | ⟨_, _, q1, q2⟩
  · have hv : vl c b (cN c 9) (cN c (88 + b) - (p + 1)) p st t = none := by unfold vl vlF; rw [if_pos (Or.inl q)]
    simp (disch := omega) only [zlit, nI_add, pk_mul, ml1220 S, inB_nI, if_true, nI_clamp, MB0 B, q, m1_lt, hv]
    simp
  · have qn : ¬ c (18 + 8 * st + t) = m1 := by rw [q1, ne_m1 (by omega)]; exact fun z => z
    simp (disch := omega) only [zlit, nI_add, pk_mul, ml1220 S, ml1229 S, inB_nI, if_true, nI_clamp, MB0 B, q1, nI_ltI, V.2.1.2.1, M_isBarred_s S B V, bind_s, ot.1]
    rw [if_neg (show ¬ cN c (18 + 8 * st + t) < 0 by omega), hG _ (by omega), h0]
    cases hl : LSo c b (cN c 9) (cN c (88 + b) - (p + 1)) (cN c (18 + 8 * st + t)) with
    | none =>
      have hv : vl c b (cN c 9) (cN c (88 + b) - (p + 1)) p st t = none := by
        unfold vl vlF
        split
        · rfl
        · rw [hl]; rfl
      rw [if_pos (show on none < nI 0 by decide), hv]
      simp
    | some z =>
      have hz := LSo_le V b (cN c 9) _ _ z hl
      rw [if_neg (show ¬ on (some z) < nI 0 from nI_pos (by omega)), show on (some z) = nI z from rfl]
      by_cases hbb : barred c b (p + 1) t (cN c 9) = true
      · have hv : vl c b (cN c 9) (cN c (88 + b) - (p + 1)) p st t = none := by unfold vl vlF; rw [if_pos (Or.inr (show (!barred c b (p + 1) t (cN c 9)) = false by rw [hbb]; rfl))]
        rw [if_pos hbb, hv]
        simp
      · have hv : vl c b (cN c 9) (cN c (88 + b) - (p + 1)) p st t = some (z + cN c (10 + t)) := by
          unfold vl vlF
          rw [if_neg]
          · rw [hl]; rfl
          · rintro (w | w)
            · exact qn w
            · rw [Bool.not_eq_true] at hbb
              have w' : (!barred c b (p + 1) t (cN c 9)) = false := w
              rw [hbb] at w'; cases w'
        rw [if_neg hbb, hv]
        simp (disch := omega) only [nI_add, nI_eq]
        by_cases ee : z + cN c (10 + t) = u
        · rw [if_pos (by omega)]; simp [ee]
        · rw [if_neg (by omega)]; simp [ee]
theorem M_laysBest_s (X : MX Y h m c) (hb : b < cN c 2) (hB : bestO c b ≠ none) (hG : ∀ q s, q ≤ cN c (88 + b) → s < 8 → hAi h (hGr h 1229 m) (8 * (q + 1) + s) = on (LSo c b (cN c 9) (cN c (88 + b) - q) s)) :
    ∃ g, M_laysBest Y m (nI b) h = some (hWi h (hGr h 1230 m) g) ∧ ∀ p, p < cN c (88 + b) → g (p + 1) = nI (btn c b p) := by
  have V := X.2.2
  have S := X.1
  have B := X.2.1
  have l0 := VC_l0 V
  have l1 := VC_l1 V
  have l2 := VC_l2 V
  have hK := V.2.2.2.2.1 b hb
  have l88 := hK.2.1.1.2
  have b0 := (bst_ok V hb hB 0 (by omega)).1
  have hpl : place c b = nI (bst c b 0) := by
    rcases place_ok V hb with e | ⟨k, hk, e⟩
    · unfold bestO at hB; rw [if_pos e] at hB; exact absurd rfl hB
    · show place c b = nI (place c b).toNatClampNeg
      rw [e, nI_clamp (by omega)]
  have ne : hGr h 1229 m ≠ hGr h 1230 m := MS_ne S (by decide) (by decide) (by decide)
  unfold M_laysBest
  rw [M_placeOf_s S B V hb, bind_s, hpl]
  have key := upl (Q := fun r => ∃ g, r = some (hWi h (hGr h 1230 m) g) ∧ ∀ p, p < cN c (88 + b) → g (p + 1) = nI (btn c b p)) (fun F p g => M_laysBest_L8 Y m (nI b) F (nI (bst c b p)) (nI (p + 1)) (hWi h (hGr h 1230 m) g)) (cN c (88 + b)) (fun p g => ∀ k, k < p → g (k + 1) = nI (btn c b k)) ?_ ?_ (cN c (88 + b)) 0 (hAi h (hGr h 1230 m)) FU (by omega) (by unfold FU; omega) (fun k hk => absurd hk (by omega))
  · simp only [wi_self] at key
    exact key
  · intro F p g hp hI
    right
    have Xg := MX_M X (Mg_wi (g := g) S (f := 1230) rfl (by decide)).1
    obtain ⟨b1, _⟩ := bst_ok V hb hB p (by omega)
    obtain ⟨u, t1, t2, t3, t4, t5, t6, t7⟩ := btn_ok V hb hB hp
    have hu : u < 100 := by
      rw [← LSo_in c b (cN c 9) rfl hp] at t1
      have := LSo_le V b _ _ _ u t1; omega
    have hG' : ∀ q s, q ≤ cN c (88 + b) → s < 8 → hAi (hWi h (hGr h 1230 m) g) (hGr (hWi h (hGr h 1230 m) g) 1229 m) (8 * (q + 1) + s) = on (LSo c b (cN c 9) (cN c (88 + b) - q) s) := by
      intro q s hq hs
      rw [gr_wi, ai_wi, if_neg ne]; exact hG q s hq hs
    have gb := fun t (ht : t < cN c 1) => M_goesBest_s Xg hb hp b1 ht hu (fun q hq => hG' (p + 1) q (by omega) hq) (by rw [hG' p _ (by omega) (by omega), LSo_in c b (cN c 9) rfl hp, t1]; rfl)
    have l24 : ∀ k8 : Int32 → Int32 → Hp → Option Hp, M_laysBest_L24 Y m (nI b) (nI (bst c b p)) (nI (p + 1)) (hWi h (hGr h 1230 m) g) k8 FU 0 = k8 (nI (bst c b (p + 1))) (nI (p + 1 + 1)) (hWi h (hGr h 1230 m) (upd g (p + 1) (nI (btn c b p)))) := by
      intro k8
      refine upl (Q := fun r => r = k8 (nI (bst c b (p + 1))) (nI (p + 1 + 1)) (hWi h (hGr h 1230 m) (upd g (p + 1) (nI (btn c b p))))) (fun F t (_ : Unit) => M_laysBest_L24 Y m (nI b) (nI (bst c b p)) (nI (p + 1)) (hWi h (hGr h 1230 m) g) k8 F (nI t)) (btn c b p) (fun _ _ => True) ?_ ?_ (btn c b p) 0 () FU (by omega) (by unfold FU; omega) trivial
      · intro F t _ ht _
        right
        refine ⟨(), ?_, trivial⟩
        show M_laysBest_L24 Y m (nI b) (nI (bst c b p)) (nI (p + 1)) (hWi h (hGr h 1230 m) g) k8 (F + 1) (nI t) = _
        rw [M_laysBest_L24, gb t (by omega), bind_s, if_neg (by simpa using t5 t ht), nI_1]
      · intro F _ _
        show M_laysBest_L24 Y m (nI b) (nI (bst c b p)) (nI (p + 1)) (hWi h (hGr h 1230 m) g) k8 (F + 1) (nI (btn c b p)) = _
        rw [M_laysBest_L24, gb _ t3, bind_s, if_pos (by simpa using t4)]
        have Xw := MX_M X (Mg_wi (g := upd g (p + 1) (nI (btn c b p))) S (f := 1230) rfl (by decide)).1
        simp (disch := omega) only [zlit, nI_add, pk_mul, gr_wi, ml1220 S, ml1230 S, inB_nI, if_true, nI_clamp, letH_e, ti_wi]
        have hr := MB0 Xw.2.1 (i := 18 + 8 * bst c b p + btn c b p) (by omega)
        rw [gr_wi] at hr
        rw [hr, t6]
    show ∃ s', M_laysBest_L8 Y m (nI b) (F + 1) (nI (bst c b p)) (nI (p + 1)) (hWi h (hGr h 1230 m) g) = M_laysBest_L8 Y m (nI b) F (nI (bst c b (p + 1))) (nI (p + 1 + 1)) (hWi h (hGr h 1230 m) s') ∧ _
    rw [M_laysBest_L8, l24]
    simp (disch := omega) only [zlit, nI_add, ml1220 Xg.1, inB_nI, if_true, nI_clamp, MB0 Xg.2.1, hK.2.1.1.1, nI_ltI]
    rw [if_neg (by omega)]
    refine ⟨_, rfl, fun k hk => ?_⟩
    by_cases ee : k = p
    · rw [ee, pk_us]
    · rw [pk_un (by omega)]; exact hI k (by omega)
  · intro F g hI
    have Xg := MX_M X (Mg_wi (g := g) S (f := 1230) rfl (by decide)).1
    show ∃ g', M_laysBest_L8 Y m (nI b) (F + 1) _ (nI (cN c (88 + b) + 1)) (hWi h (hGr h 1230 m) g) = _ ∧ _
    rw [M_laysBest_L8]
    simp (disch := omega) only [zlit, nI_add, ml1220 Xg.1, inB_nI, if_true, nI_clamp, MB0 Xg.2.1, hK.2.1.1.1, nI_ltI]
    rw [if_pos (by omega)]
    exact ⟨g, rfl, hI⟩
theorem M_b78 (X : MX Y h m c) (hb : b < cN c 2) {p st : Nat} {k65 : Int32 → Hp → Option (Int32 × Hp)} (hp : p < cN c (88 + b)) (hst : st < 8)
    (hG : ∀ q, q < 8 → hAi h (hGr h 1229 m) (8 * (p + 2) + q) = on (LSo c b (cN c 9) (cN c (88 + b) - (p + 1)) q)) :
    M_bests_L78 Y m (nI b) (nI (p + 1)) (nI st) h k65 FU m1 0 = k65 (nI (st + 1)) (hTi h (hGr h 1229 m) (8 * (p + 1) + st) (on (mnF (vl c b (cN c 9) (cN c (88 + b) - (p + 1)) p st) (cN c 1)))) := by
  have V := X.2.2
  have S := X.1
  have B := X.2.1
  have l0 := VC_l0 V
  have l1 := VC_l1 V
  have l2 := VC_l2 V
  have l9 := V.2.1.2.2
  have p9 := pow_le6 (VC_l4 V)
  have l88 := (V.2.2.2.2.1 b hb).2.1.1.2
  have hlt : ∀ n, n ≤ cN c 1 → ∀ w, mnF (vl c b (cN c 9) (cN c (88 + b) - (p + 1)) p st) n = some w → w ≤ 63 := by
    intro n hn
    refine mnF_le n (fun t ht w hw => ?_)
    obtain ⟨z, hz, e⟩ := (vl_some V (by omega) (by omega) hw).2.2.2.2
    have := LSo_le V b (cN c 9) _ _ z hz
    have := (V.2.2.1 t (by omega)).2
    omega
  refine upl (Q := fun r => r = k65 (nI (st + 1)) (hTi h (hGr h 1229 m) (8 * (p + 1) + st) (on (mnF (vl c b (cN c 9) (cN c (88 + b) - (p + 1)) p st) (cN c 1))))) (fun F t (_ : Unit) => M_bests_L78 Y m (nI b) (nI (p + 1)) (nI st) h k65 F (on (mnF (vl c b (cN c 9) (cN c (88 + b) - (p + 1)) p st) t)) (nI t)) (cN c 1) (fun _ _ => True) ?_ ?_ (cN c 1) 0 () FU (by omega) (by unfold FU; omega) trivial
  · intro F t _ ht _
    right
    refine ⟨(), ?_, trivial⟩
    have ot := V.2.2.1 t ht
    have ot2 := ot.2
    have lv := hlt t (by omega)
    show M_bests_L78 Y m (nI b) (nI (p + 1)) (nI st) h k65 (F + 1) (on (mnF (vl c b (cN c 9) (cN c (88 + b) - (p + 1)) p st) t)) (nI t) = M_bests_L78 Y m (nI b) (nI (p + 1)) (nI st) h k65 F (on (mnF (vl c b (cN c 9) (cN c (88 + b) - (p + 1)) p st) (t + 1))) (nI (t + 1))
    rw [M_bests_L78, mnF]
    rcases V.2.2.2.1 st t hst (by omega) with q | ⟨_, _, q1, q2⟩
    · have hv : vl c b (cN c 9) (cN c (88 + b) - (p + 1)) p st t = none := by unfold vl vlF; rw [if_pos (Or.inl q)]
      simp (disch := omega) only [zlit, nI_add, pk_mul, ml1220 S, inB_nI, if_true, nI_clamp, MB0 B, VC_e1 V, nI_leI, q, m1_lt, hv]
      rw [if_neg (by omega)]
    · have qn : ¬ c (18 + 8 * st + t) = m1 := by rw [q1, ne_m1 (by omega)]; exact fun z => z
      simp (disch := omega) only [zlit, nI_add, pk_mul, ml1220 S, ml1229 S, inB_nI, if_true, nI_clamp, MB0 B, VC_e1 V, nI_leI, q1, nI_ltI, V.2.1.2.1, M_isBarred_s S B V, bind_s, ot.1]
      rw [if_neg (show ¬ cN c 1 ≤ t by omega), if_neg (show ¬ cN c (18 + 8 * st + t) < 0 by omega), hG _ (by omega)]
      cases hl : LSo c b (cN c 9) (cN c (88 + b) - (p + 1)) (cN c (18 + 8 * st + t)) with
      | none =>
        have hv : vl c b (cN c 9) (cN c (88 + b) - (p + 1)) p st t = none := by
          unfold vl vlF
          split
          · rfl
          · rw [hl]; rfl
        rw [if_pos (show on none < nI 0 by decide), hv]
      | some z =>
        have hz := LSo_le V b (cN c 9) _ _ z hl
        rw [if_neg (show ¬ on (some z) < nI 0 from nI_pos (by omega)), show on (some z) = nI z from rfl]
        by_cases hbb : barred c b (p + 1) t (cN c 9) = true
        · have hv : vl c b (cN c 9) (cN c (88 + b) - (p + 1)) p st t = none := by unfold vl vlF; rw [if_pos (Or.inr (show (!barred c b (p + 1) t (cN c 9)) = false by rw [hbb]; rfl))]
          rw [if_pos hbb, hv]
        · have hv : vl c b (cN c 9) (cN c (88 + b) - (p + 1)) p st t = some (z + cN c (10 + t)) := by
            unfold vl vlF
            rw [if_neg]
            · rw [hl]; rfl
            · rintro (w | w)
              · exact qn w
              · rw [Bool.not_eq_true] at hbb
                have w' : (!barred c b (p + 1) t (cN c 9)) = false := w
                rw [hbb] at w'; cases w'
          rw [if_neg hbb, hv, nI_add, show cN c (10 + t) + z = z + cN c (10 + t) by omega]
          cases hm : mnF (vl c b (cN c 9) (cN c (88 + b) - (p + 1)) p st) t with
          | none => rw [if_neg (show ¬ nI 0 ≤ on none by decide)]; rfl
          | some u =>
            have hu := lv u hm
            rw [if_pos (show nI 0 ≤ on (some u) from nI_pos' (by omega)), show on (some u) = nI u from rfl]
            simp (disch := omega) only [nI_ltI]
            by_cases cc : z + cN c (10 + t) < u
            · rw [if_pos cc, if_pos cc]; rfl
            · rw [if_neg cc, if_neg cc]; rfl
  · intro F _ _
    show M_bests_L78 Y m (nI b) (nI (p + 1)) (nI st) h k65 (F + 1) _ (nI (cN c 1)) = _
    have e1 : inB 1 (lnY Y (hGr h 1220 m)) = true := by rw [ml1220 S]; exact inB_nI (i := 1) (by omega) (by omega)
    have e2 : hAi h (hGr h 1220 m) (Int32.toNatClampNeg 1) = nI (cN c 1) := by rw [← VC_e1 V]; exact MB0 B (i := 1) (by omega)
    have e3 : 8 * nI (p + 1) + nI st = nI (8 * (p + 1) + st) := by simp only [zlit, nI_add, pk_mul]
    rw [M_bests_L78, if_pos e1, e2, if_pos (nI_le (Nat.le_refl _) (by omega)), e3, ml1229 S, if_pos (inB_nI (by omega) (by omega)), letH_e, nI_clamp (by omega), nI_1]
theorem M_bests_s (X : MX Y h m c) (hb : b < cN c 2) (hB : bestO c b ≠ none) : ∃ h', M_bests Y m (nI b) h = some (on (bestO c b), h') ∧ Mg Y m h h' ∧ ∀ p, p < cN c (88 + b) → hAi h' (hGr h' 1230 m) (p + 1) = nI (btn c b p) := by
  have V := X.2.2
  have S := X.1
  have B := X.2.1
  have l0 := VC_l0 V
  have l2 := VC_l2 V
  have hK := V.2.2.2.2.1 b hb
  have l88 := hK.2.1.1.2
  have l8 := V.2.1.1.2
  have p8 := pow_le8 l0
  have hA : ∀ g, Mg Y m h (hWi h (hGr h 1229 m) g) := fun g => Mg_wi S rfl (by decide)
  have X' : ∀ g, MX Y (hWi h (hGr h 1229 m) g) m c := fun g => MX_M X (hA g).1
  generalize hn : cN c (88 + b) = n at *
  let Post : Option (Int32 × Hp) → Prop := fun r => ∃ h', r = some (on (bestO c b), h') ∧ Mg Y m h h' ∧ ∀ p, p < n → hAi h' (hGr h' 1230 m) (p + 1) = nI (btn c b p)
  have l65 : ∀ (p : Nat) (g0 : Nat → Int32) (k58 : Int32 → Hp → Option (Int32 × Hp)), p < n → (∀ q s, p < q → q ≤ n → s < 8 → g0 (8 * (q + 1) + s) = on (LSo c b (cN c 9) (n - q) s)) →
      ∃ g', M_bests_L65 Y m (nI b) (nI (p + 1)) k58 FU 0 (hWi h (hGr h 1229 m) g0) = k58 (nI p) (hWi h (hGr h 1229 m) g') ∧ (∀ q s, p ≤ q → q ≤ n → s < 8 → g' (8 * (q + 1) + s) = on (LSo c b (cN c 9) (n - q) s)) := by
    intro p g0 k58 hp hg0
    refine upl (Q := fun r => ∃ g', r = k58 (nI p) (hWi h (hGr h 1229 m) g') ∧ (∀ q s, p ≤ q → q ≤ n → s < 8 → g' (8 * (q + 1) + s) = on (LSo c b (cN c 9) (n - q) s))) (fun F s g => M_bests_L65 Y m (nI b) (nI (p + 1)) k58 F (nI s) (hWi h (hGr h 1229 m) g)) 8
      (fun s g => (∀ q s, p < q → q ≤ n → s < 8 → g (8 * (q + 1) + s) = on (LSo c b (cN c 9) (n - q) s)) ∧ ∀ z, z < s → g (8 * (p + 1) + z) = on (LSo c b (cN c 9) (n - p) z)) ?_ ?_ 8 0 g0 FU (by omega) (by unfold FU; omega) ⟨hg0, fun z hz => absurd hz (by omega)⟩
    · intro F s g hs hI
      right
      have l78 := M_b78 (k65 := M_bests_L65 Y m (nI b) (nI (p + 1)) k58 F) (X' g) hb (p := p) (st := s) (by omega) hs (fun q hq => by rw [gr_wi, ai_wi, if_pos rfl, hn]; exact hI.1 (p + 1) q (by omega) (by omega) hq)
      rw [hn, gr_wi, ti_wi, ← LSo_in c b (cN c 9) hn.symm hp] at l78
      show ∃ s', M_bests_L65 Y m (nI b) (nI (p + 1)) k58 (F + 1) (nI s) (hWi h (hGr h 1229 m) g) = M_bests_L65 Y m (nI b) (nI (p + 1)) k58 F (nI (s + 1)) (hWi h (hGr h 1229 m) s') ∧ _
      rw [M_bests_L65]
      simp (disch := omega) only [zlit, zneg, nI_leI]
      rw [if_neg (by omega)]
      refine ⟨_, l78, fun q z h1 h2 h3 => ?_, fun z hz => ?_⟩
      · rw [pk_un (by omega)]; exact hI.1 q z h1 h2 h3
      · by_cases e : z = s
        · rw [e, pk_us]
        · rw [pk_un (by omega)]; exact hI.2 z (by omega)
    · intro F g hI
      show ∃ g', M_bests_L65 Y m (nI b) (nI (p + 1)) k58 (F + 1) (nI 8) (hWi h (hGr h 1229 m) g) = _ ∧ _
      rw [M_bests_L65]
      simp (disch := omega) only [zlit, zneg, nI_leI, Nat.le_refl, if_true, add_m1]
      refine ⟨g, rfl, fun q z h1 h2 h3 => ?_⟩
      by_cases e : q = p
      · subst e; exact hI.2 z h3
      · exact hI.1 q z (by omega) h2 h3
  have l58 : ∀ g, (∀ s, s < 8 → g (8 * (n + 1) + s) = on (LSo c b (cN c 9) 0 s)) → Post (M_bests_L58 Y m (nI b) FU (nI n) (hWi h (hGr h 1229 m) g)) := by
    intro g hg
    refine dnl (Q := Post) (fun F i g => M_bests_L58 Y m (nI b) F (nI i) (hWi h (hGr h 1229 m) g))
      (fun i g => i ≤ n ∧ ∀ q s, i ≤ q → q ≤ n → s < 8 → g (8 * (q + 1) + s) = on (LSo c b (cN c 9) (n - q) s)) ?_ ?_ n g FU (by unfold FU; omega) ⟨Nat.le_refl _, fun q s h1 h2 h3 => ?_⟩
    · intro F i g hI
      right
      obtain ⟨g', e1, e2⟩ := l65 i g (M_bests_L58 Y m (nI b) F) (by omega) (fun q s h1 h2 h3 => hI.2 q s (by omega) h2 h3)
      refine ⟨g', ?_, by omega, e2⟩
      show M_bests_L58 Y m (nI b) (F + 1) (nI (i + 1)) (hWi h (hGr h 1229 m) g) = _
      rw [M_bests_L58, if_neg (nI_nle (by omega) (by omega))]
      exact e1
    · intro F g hI
      show Post (M_bests_L58 Y m (nI b) (F + 1) (nI 0) (hWi h (hGr h 1229 m) g))
      obtain ⟨g2, e1, e2⟩ := M_laysBest_s (X' g) hb hB (fun q s hq hs => by rw [gr_wi, ai_wi, if_pos rfl, hn]; exact hI.2 q s (by omega) (by omega) hs)
      have mg2 : Mg Y m h (hWi (hWi h (hGr h 1229 m) g) (hGr (hWi h (hGr h 1229 m) g) 1230 m) g2) := Mg_tr (hA g) (Mg_wi (X' g).1 rfl (by decide))
      have X2 := MX_M X mg2.1
      have ne : hGr h 1229 m ≠ hGr h 1230 m := MS_ne S (by decide) (by decide) (by decide)
      rw [M_bests_L58, if_pos (by decide), e1, bind_s, M_placeOf_s X2.1 X2.2.1 V hb, bind_s]
      have b0 := (bst_ok V hb hB 0 (by omega)).1
      have hpl : place c b = nI (bst c b 0) := by
        rcases place_ok V hb with e | ⟨k, hk, e⟩
        · unfold bestO at hB; rw [if_pos e] at hB; exact absurd rfl hB
        · show place c b = nI (place c b).toNatClampNeg
          rw [e, nI_clamp (by omega)]
      have hB2 : bestO c b = LSo c b (cN c 9) n (bst c b 0) := by
        have : bestO c b = if place c b = m1 then none else LSo c b (cN c 9) (cN c (88 + b)) (place c b).toNatClampNeg := rfl
        rw [this, if_neg (by rw [hpl, ne_m1 (by omega)]; exact fun z => z), hn]
        rfl
      have hg0 := hI.2 0 (bst c b 0) (by omega) (by omega) (by omega)
      rw [Nat.sub_zero, show 8 * (0 + 1) + bst c b 0 = 8 + bst c b 0 by omega] at hg0
      rw [hpl]
      simp (disch := omega) only [zlit, nI_add, gr_wi, ml1229 S, inB_nI, if_true, nI_clamp, ai_wi]
      rw [if_neg ne, hg0, ← hB2]
      refine ⟨_, rfl, mg2, fun p hp => ?_⟩
      rw [gr_wi, gr_wi, ai_wi, if_pos rfl]
      exact e2 p (by omega)
    · rw [show q = n by omega, Nat.sub_self]; exact hg s h3
  unfold M_bests
  simp (disch := omega) only [zlit, nI_add, ml1220 S, inB_nI, if_true, nI_clamp, MB0 B, hK.2.1.1.1]
  rw [hn]
  have key := upl (Q := Post) (fun F s g => M_bests_L12 Y m (nI b) (nI n) F (nI s) (hWi h (hGr h 1229 m) g)) 8 (fun s g => ∀ z, z < s → g (8 * (n + 1) + z) = on (LSo c b (cN c 9) 0 z)) ?_ ?_ 8 0 (hAi h (hGr h 1229 m)) FU (by omega) (by unfold FU; omega) (fun z hz => absurd hz (by omega))
  · simp only [wi_self] at key
    exact key
  · intro F s g hs hI
    right
    show ∃ s', M_bests_L12 Y m (nI b) (nI n) (F + 1) (nI s) (hWi h (hGr h 1229 m) g) = M_bests_L12 Y m (nI b) (nI n) F (nI (s + 1)) (hWi h (hGr h 1229 m) s') ∧ _
    rw [M_bests_L12]
    simp (disch := omega) only [zlit, zneg, nI_leI, nI_add, pk_mul, ml1220 (X' g).1, ml1229 (X' g).1, inB_nI, if_true, nI_clamp, MB0 (X' g).2.1, V.2.1.1.1, M_has_s, bind_s, letH_e]
    rw [if_neg (by omega)]
    have st : ∀ v : Int32, v = on (LSo c b (cN c 9) 0 s) → ∀ q, q < s + 1 → upd g (8 * (n + 1) + s) v (8 * (n + 1) + q) = on (LSo c b (cN c 9) 0 q) := by
      intro v hv q hq
      by_cases e : q = s
      · rw [e, pk_us]; exact hv
      · rw [pk_un (by omega)]; exact hI q (by omega)
    by_cases hbt : (cN c 8).testBit s = true
    · rw [if_pos hbt, gr_wi, ti_wi]
      exact ⟨_, rfl, st (nI 0) (by rw [LSo, if_pos hbt]; rfl)⟩
    · rw [if_neg hbt, gr_wi, ti_wi]
      exact ⟨_, rfl, st m1 (by rw [LSo, if_neg hbt]; rfl)⟩
  · intro F g hI
    show Post (M_bests_L12 Y m (nI b) (nI n) (F + 1) (nI 8) (hWi h (hGr h 1229 m) g))
    rw [M_bests_L12]
    simp (disch := omega) only [zlit, nI_leI, Nat.le_refl, if_true]
    exact l58 g hI
end BM
