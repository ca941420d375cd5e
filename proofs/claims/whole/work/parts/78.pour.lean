/-! ===== pour ===== -/
def pNum (tn : Nat → Nat → Int64) (s d sp dp z : Nat) : Nat → Nat → Int64 := fun t k => if t = d ∧ dp ≤ k ∧ k < dp + z then tn s (sp + (k - dp)) else tn t k
theorem sum64 {a k : Nat} (ha : a < 2 ^ 31) (hk : k < 2 ^ 31) : ((nI a).toInt64 + (nI k).toInt64).toInt = (a : Int) + k := by
  rw [Int64.toInt_add, Int32.toInt_toInt64, Int32.toInt_toInt64, nI_toInt ha, nI_toInt hk]
  simp only [Int.bmod]
  split <;> omega
theorem lt64 {n a k : Nat} (hn : n < 2 ^ 31) (ha : a < 2 ^ 31) (hk : k < 2 ^ 31) : ((nI n).toInt64 < (nI a).toInt64 + (nI k).toInt64) ↔ n < a + k := by
  rw [Int64.lt_iff_toInt_lt, sum64 ha hk, Int32.toInt_toInt64, nI_toInt hn]
  omega
theorem le64 {n a k : Nat} (hn : n < 2 ^ 31) (ha : a < 2 ^ 31) (hk : k < 2 ^ 31) : ((nI a).toInt64 + (nI k).toInt64 ≤ (nI n).toInt64) ↔ a + k ≤ n := by
  rw [Int64.le_iff_toInt_le, sum64 ha hk, Int32.toInt_toInt64, nI_toInt hn]
  omega
theorem Tr_hasAll_b {Y : Ly} {h : Hp} {T n k : Nat} {p : Int32} (hn : n ≤ 60) (h3 : hGi h 803 T = nI n) (hk : k < 2 ^ 31) : Tr_hasAll Y T p (nI k) h = some (hasB p n k) := by
  unfold Tr_hasAll
  rw [h3]
  by_cases e1 : p < 0
  · rw [if_pos e1, hasB_neg e1]
  · rw [if_neg e1]
    obtain ⟨j, hj, rfl⟩ := nI_of e1
    rw [hasB_n hj]
    by_cases e2 : n < j
    · rw [if_pos (nI_lt e2 hj)]
      simp; omega
    · rw [if_neg (nI_nlt (by omega) (by omega)), pk_sub (by omega)]
      simp (disch := omega) only [nI_ltI]
      by_cases e3 : n - j < k
      · rw [if_pos e3]; simp; omega
      · rw [if_neg e3]; simp; omega
section PO
variable {Yc Ym : Ly} {hc hm : Hp} {x m : Nat} {kw : Nat → Int64} {g : Sg}
theorem CR_pour (R : CR Yc hc x kw g) (V : VG g) {s d sp dp z ns : Nat} (hs : s < 4) (hd : d < 4) (hn : sp + z ≤ ns) (hA : ∀ i, i < ns → hAl hc (hGr hc 800 (trA hc x s)) i = sTn g s i) :
    CR Yc (hCl hc (hGr hc 800 (trA hc x s)) sp (hGr hc 800 (trA hc x d)) dp z) x kw (wTr g (sTs g) (sTm g) (pNum (sTn g) s d sp dp z)) := by
  refine CR_tr R V (fun _ _ => rfl) (fun _ _ => rfl) (fun _ _ _ => rfl) (fun _ _ => rfl) (fun _ _ => rfl) (fun A k hA => ?_) (Ty_cl R.2.1) ⟨R.2.2.2.1.1, fun t ht => ?_⟩
  · rw [al_cl, if_neg (hA d hd)]
  · rcases R.2.2.2.1.2 t ht with q | ⟨n, s', a1, a2, a3, a4, a5, a6, a7, a8⟩
    · exact Or.inl q
    · refine Or.inr ⟨n, s', a1, a2, a3, a4, a5, a6, a7, fun k hk => ?_⟩
      show hAl (hCl hc (hGr hc 800 (trA hc x s)) sp (hGr hc 800 (trA hc x d)) dp z) (hGr hc 800 (trA hc x t)) k = pNum (sTn g) s d sp dp z t k
      rw [al_cl, pNum]
      by_cases e : t = d
      · subst e
        rw [if_pos rfl, va_cpy]
        by_cases w : dp ≤ k ∧ k < dp + z
        · rw [if_pos w, if_pos ⟨rfl, w⟩]; exact hA _ (by omega)
        · rw [if_neg w, if_neg (fun q => w q.2)]; exact a8 k hk
      · rw [if_neg (fun q => e ((trI R ht hd).mp q)), if_neg (fun q => e q.1)]; exact a8 k hk
theorem M_pour_s (R0 : MR Ym hm m g) {s d sp dp z : Nat} (hs : s < 4) (hd : d < 4) (h1 : sp + z ≤ 60) (h2 : dp + z ≤ 60) (bw : Bool) (hb : bw = decide (sp < dp)) :
    ∃ hh, M_pour_L158 Ym m (nI s) (nI sp) (nI d) (nI dp) (nI z) bw FU 0 hm = some (true, hh) ∧ MR Ym hh m (wTr g (sTs g) (sTm g) (pNum (sTn g) s d sp dp z)) := by
  have key := upl (Q := fun r => ∃ hh, r = some (true, hh) ∧ MR Ym hh m (wTr g (sTs g) (sTm g) (pNum (sTn g) s d sp dp z)))
    (fun F i gg => M_pour_L158 Ym m (nI s) (nI sp) (nI d) (nI dp) (nI z) bw F (nI i) (hWl hm (hGr hm 1206 m) gg)) z
    (fun i gg => ∀ t' k', t' < 4 → k' < 60 → gg (60 * t' + k') = if bw = true then pNum (sTn g) s d (sp + (z - i)) (dp + (z - i)) i t' k' else pNum (sTn g) s d sp dp i t' k') ?_ ?_ z 0 (hAl hm (hGr hm 1206 m)) FU (by omega) (by unfold FU; omega) (fun t' k' w1 w2 => by
      rw [(R0.2.2.2.1 t' w1).2.2 k' w2, pNum, pNum]; split <;> rw [if_neg (by omega)])
  · simp only [wl_self] at key
    exact key
  · intro F i gg hi hI
    right
    show ∃ s', M_pour_L158 Ym m (nI s) (nI sp) (nI d) (nI dp) (nI z) bw (F + 1) (nI i) _ = M_pour_L158 Ym m (nI s) (nI sp) (nI d) (nI dp) (nI z) bw F (nI (i + 1)) (hWl _ _ s') ∧ _
    have step : ∀ q, q < z → M_pour_J182 Ym (M_pour_L158 Ym m (nI s) (nI sp) (nI d) (nI dp) (nI z) bw F) m (nI s) (nI sp) (nI d) (nI dp) (nI z) bw (nI i) (nI q) (hWl hm (hGr hm 1206 m) gg) = M_pour_L158 Ym m (nI s) (nI sp) (nI d) (nI dp) (nI z) bw F (nI (i + 1)) (hWl hm (hGr hm 1206 m) (vp_updL gg (60 * d + (dp + q)) (gg (60 * s + (sp + q))))) := by
      intro q hq
      unfold M_pour_J182
      rw [show (60 : Int32) * nI s + nI sp + nI q = nI (60 * s + (sp + q)) by simp only [zlit, pk_mul, nI_add]; rw [Nat.add_assoc], show (60 : Int32) * nI d + nI dp + nI q = nI (60 * d + (dp + q)) by simp only [zlit, pk_mul, nI_add]; rw [Nat.add_assoc], gr_wl, ml1206 R0.1, if_pos (inB_nI (by omega) (by omega)), if_pos (inB_nI (by omega) (by omega)), letH_e, nI_clamp (by omega), nI_clamp (by omega), al_wl, if_pos rfl, tl_wl, nI_1]
    rw [M_pour_L158, if_neg (nI_ge hi (by omega))]
    cases bw with
    | false =>
      have hb' : ¬ sp < dp := by simpa using hb.symm
      rw [if_neg (by decide), step i hi]
      refine ⟨_, rfl, fun t' k' w1 w2 => ?_⟩
      have hI' := fun t' k' w1 w2 => (hI t' k' w1 w2).trans (if_neg (by decide))
      rw [if_neg (by decide)]
      by_cases e : t' = d ∧ k' = dp + i
      · rw [e.1, e.2, pk_uLs, hI' s (sp + i) hs (by omega), pNum, if_neg (by omega), pNum, if_pos (by omega)]
        congr 1; omega
      · rw [pk_uLn (by omega), hI' t' k' w1 w2, pNum, pNum]
        by_cases w : t' = d ∧ dp ≤ k' ∧ k' < dp + i
        · rw [if_pos w, if_pos (by omega)]
        · rw [if_neg w, if_neg (by omega)]
    | true =>
      have hb' : sp < dp := by simpa using hb.symm
      rw [if_pos rfl, show nI z - 1 - nI i = nI (z - 1 - i) by rw [show (1 : Int32) = nI 1 from rfl, pk_sub (by omega), pk_sub (by omega)], step (z - 1 - i) (by omega)]
      refine ⟨_, rfl, fun t' k' w1 w2 => ?_⟩
      have hI' := fun t' k' w1 w2 => (hI t' k' w1 w2).trans (if_pos rfl)
      rw [if_pos rfl]
      by_cases e : t' = d ∧ k' = dp + (z - 1 - i)
      · rw [e.1, e.2, pk_uLs, hI' s (sp + (z - 1 - i)) hs (by omega), pNum, if_neg (by omega), pNum, if_pos (by omega)]
        congr 1; omega
      · rw [pk_uLn (by omega), hI' t' k' w1 w2, pNum, pNum]
        by_cases w : t' = d ∧ dp + (z - i) ≤ k' ∧ k' < dp + (z - i) + i
        · rw [if_pos w, if_pos (by omega)]
          congr 1; omega
        · rw [if_neg w, if_neg (by omega)]
  · intro F gg hI
    show ∃ hh, M_pour_L158 Ym m (nI s) (nI sp) (nI d) (nI dp) (nI z) bw (F + 1) (nI z) _ = some (true, hh) ∧ _
    rw [M_pour_L158, if_pos (nI_le (Nat.le_refl _) (by omega))]
    refine ⟨_, rfl, MR_tr R0 (fun _ _ => rfl) (fun _ _ => rfl) (fun _ _ => rfl) (fun _ _ _ _ _ => rfl) (fun f i w1 w2 => ?_) R0.2.1 (fun t' ht' => ⟨(R0.2.2.2.1 t' ht').1, (R0.2.2.2.1 t' ht').2.1, fun i hi => ?_⟩)⟩
    · rw [al_wl, if_neg (fun w => w2 (R0.1.2.2 f 1206 w1 (by decide) w))]
    · rw [al_wl, if_pos rfl, hI t' i ht' hi, Nat.sub_self, Nat.add_zero, Nat.add_zero]; split <;> rfl
theorem so_pour (J : JJ Yc Ym hc x hm m kw) (t p u q z : Int32) : SO Yc Ym x m kw (LP_pour Yc x t p u q z hc) (M_pour Ym m t p u q z hm) := by
  obtain ⟨g, RC, RM, V⟩ := J
  have R0 := MR_M RM (mst_f (Y := Ym) (h := hm) (m := m))
  rw [mst_0] at R0
  unfold LP_pour M_pour M_pour_J153
  simp only [letH_e]
  rw [LP_trayAt_s RC, bind_s, LP_trayAt_s RC, bind_s, show hSi (hSi hm 1201 m 0) 1200 m 0 = mst hm m from rfl]
  have rf : ∀ k : Int32, SO Yc Ym x m kw ((LP_refuse Yc x k hc).bind fun q5 => some (q5.1, q5.2)) ((M_no Ym m k (mst hm m)).bind fun q => some (q.1, q.2)) := fun k => SO_q RC RM V (CQ_ref (Cf_rf Yc hc)) (mQ_no mst_f)
  have n4 : ∀ z : Int32, isAt z 4 = false → ¬ z < 0 → (4 : Int32) ≤ z ∧ ¬ z < 4 := by
    intro z h1 h2
    have h3 := isAt_neg (by omega) h1 h2
    refine ⟨h3, ?_⟩
    · intro w
      have w' : z < nI 4 := w
      rw [Int32.lt_iff_toInt_lt] at w'
      rw [Int32.le_iff_toInt_le] at h3
      omega
  rcases isAt_cases t (n := 4) (by omega) with q1 | ⟨a, ha, rfl, q1⟩
  · rw [q1]
    by_cases e1 : t < 0
    · rw [if_pos e1]; exact rf 1
    · rw [if_neg e1, if_pos (n4 t q1 e1).1]; exact rf 1
  rw [q1, if_pos rfl, nI_clamp (by omega), if_neg (nI_pos (by omega)), if_neg (show ¬ (4 : Int32) ≤ nI a from nI_ge (b := 4) ha (by omega))]
  simp only
  rcases isAt_cases u (n := 4) (by omega) with q2 | ⟨b, hb, rfl, q2⟩
  · rw [q2]
    by_cases e1 : u < 0
    · rw [if_pos e1]; exact rf 1
    · rw [if_neg e1, if_neg (n4 u q2 e1).2]; exact rf 1
  rw [q2, if_pos rfl, nI_clamp (by omega), if_neg (nI_pos (by omega)), if_pos (show nI b < 4 from nI_lt (b := 4) hb (by omega))]
  simp only
  rw [ml1205 R0.1, ml1204 R0.1, if_pos (inB_nI (by omega) (by omega)), if_pos (inB_nI (by omega) (by omega)), if_pos (inB_nI (by omega) (by omega)), if_pos (inB_nI (by omega) (by omega)), if_pos (inB_nI (by omega) (by omega)), if_pos (inB_nI (by omega) (by omega)), (R0.2.2.2.1 a ha).2.1, (R0.2.2.2.1 b hb).2.1, (R0.2.2.2.1 a ha).1, (R0.2.2.2.1 b hb).1]
  rw [show sTm (wSt g (nI 0)) = sTm g from rfl, show sTs (wSt g (nI 0)) = sTs g from rfl]
  rcases tr_cases RC ha with ⟨a1, a2⟩ | ⟨n, s, a1, a2, a3, a4, a5, a6, a7, a8⟩
  · rw [a1, a2, if_pos (show m1 < 0 by decide), if_neg (show ¬ false = true by decide)]; exact rf 3
  rw [a3, a4, a5, a7, if_pos rfl, if_neg (nI_pos (by omega))]
  rcases tr_cases RC hb with ⟨b1, b2⟩ | ⟨n', s', b1, b2, b3, b4, b5, b6, b7, b8⟩
  · rw [b1, b2, if_neg (show ¬ (0 : Int32) ≤ m1 by decide), if_neg (show ¬ false = true by decide)]; exact rf 3
  rw [b3, b4, b5, b7, if_pos rfl, if_pos (nI_pos' (by omega))]
  by_cases es : nI s = nI s'
  rotate_left
  · rw [if_neg es, if_neg es]; exact rf 11
  rw [if_pos es, if_pos es]
  by_cases ez : 0 ≤ z
  rotate_left
  · rw [if_neg ez, if_neg ez]; exact rf 6
  rw [if_pos ez, if_pos ez]
  obtain ⟨k, hk, rfl⟩ := nI_of (x := z) (fun w => by rw [Int32.lt_iff_toInt_lt] at w; rw [Int32.le_iff_toInt_le] at ez; omega)
  rw [Tr_hasAll_b a1 a6 hk, bind_s, Tr_hasAll_b b1 b6 hk, bind_s]
  by_cases e1 : p < 0
  · rw [hasB_neg e1, if_pos e1, if_neg (show ¬ false = true by decide)]; exact rf 4
  rw [if_neg e1]
  by_cases e2 : q < 0
  · rw [hasB_neg e2, if_pos e2, if_neg (show ¬ false = true by decide), ite_self]; exact rf 4
  rw [if_neg e2]
  obtain ⟨i, hi, rfl⟩ := nI_of e1
  obtain ⟨j, hj, rfl⟩ := nI_of e2
  rw [hasB_n hi, hasB_n hj]
  simp only [decide_eq_true_eq]
  by_cases w1 : i + k ≤ n
  rotate_left
  · rw [if_neg w1, if_pos ((lt64 (by omega) hi hk).mpr (by omega))]; exact rf 4
  rw [if_pos w1, if_neg (fun w => absurd ((lt64 (by omega) hi hk).mp w) (by omega))]
  by_cases w2 : j + k ≤ n'
  rotate_left
  · rw [if_neg w2, if_neg (fun w => absurd ((le64 (by omega) hj hk).mp w) (by omega))]; exact rf 4
  rw [if_pos w2, if_pos ((le64 (by omega) hj hk).mpr w2), nI_clamp hi, nI_clamp hj, nI_clamp hk, cl800 RC.1 (RC.o8 ha), cl800 RC.1 (RC.o8 hb), if_pos (show cpB (nI i) (nI j) (nI k) 60 60 = true by
    unfold cpB
    rw [nI_clamp hi, nI_clamp hj, nI_clamp hk]
    simp only [Bool.and_eq_true, decide_eq_true_eq]
    exact ⟨e1, e2, nI_pos hk, by omega, by omega⟩)]
  have C1 := CR_pour (dp := j) RC V ha hb w1 a8
  have C2 := CR_C C1 V (Cf_si (x := x) (v := 0))
  rw [gi_si, if_pos ⟨rfl, rfl⟩] at C2
  by_cases w3 : j ≤ i
  · obtain ⟨hh, M1, M2⟩ := M_pour_s R0 (sp := i) (dp := j) (z := k) ha hb (by omega) (by omega) false (by simp; omega)
    rw [if_pos ((nI_leI hj hi).mpr w3), M1]
    exact ⟨true, _, _, rfl, rfl, _, C2, M2, V⟩
  · obtain ⟨hh, M1, M2⟩ := M_pour_s R0 (sp := i) (dp := j) (z := k) ha hb (by omega) (by omega) true (by simp; omega)
    rw [if_neg (fun w => w3 ((nI_leI hj hi).mp w)), M1]
    exact ⟨true, _, _, rfl, rfl, _, C2, M2, V⟩
end PO
