/-! ===== trays ===== -/
section TR
variable {Y : Ly} {h h' : Hp} {x m : Nat} {kw : Nat → Int64} {g : Sg} {ts tm : Nat → Int32} {tn : Nat → Nat → Int64}
/-- only trays changed -/
theorem CR_tr (R : CR Y h x kw g) (V : VG g) (er : ∀ f a, hGr h' f a = hGr h f a) (ear : ∀ A i, hAr h' A i = hAr h A i) (gi : ∀ f a, f < 801 ∨ 803 < f → hGi h' f a = hGi h f a) (gl : ∀ f a, hGl h' f a = hGl h f a) (ai : ∀ A i, hAi h' A i = hAi h A i)
    (al : ∀ A i, (∀ t, t < 4 → A ≠ hGr h 800 (trA h x t)) → hAl h' A i = hAl h A i) (ty : Ty Y h') (T : TRc h' x (wTr g ts tm tn)) : CR Y h' x kw (wTr g ts tm tn) := by
  have esh : ∀ i, shA h' x i = shA h x i := by
    intro i
    unfold shA
    rw [er 1109 x, er 1110 x, er 1104 x, ear]
  have ewk : ∀ i, wkA h' x i = wkA h x i := by
    intro i
    unfold wkA
    rw [er 1111 x, esh, er 413 _]
  obtain ⟨r1, r2, ⟨s1, s2, s3⟩, t, p, l, ⟨c1, c2, c3, c4, c5, c6⟩, k⟩ := R
  have R : CR Y h x kw g := ⟨r1, r2, ⟨s1, s2, s3⟩, t, p, l, ⟨c1, c2, c3, c4, c5, c6⟩, k⟩
  have n8 : ∀ f o, cArr f = true → isO Y (f / 100) o → f ≠ 800 → ∀ z, z < 4 → hGr h f o ≠ hGr h 800 (trA h x z) := fun f o h1 h2 h3 z hz w => h3 (r1.2.2.2.1 f 800 o _ h1 rfl h2 (R.o8 hz) w).1
  refine ⟨CS_congr r1 (fun f a _ => er f a), ty, ⟨fun i j hi hj => by rw [esh, esh]; exact s1 i j hi hj, fun i j hi hj => by rw [ewk, ewk]; exact s2 i j hi hj, fun j hj => ?_⟩, T, ?_, ?_, ?_, ?_⟩
  · have hj5 : j < 5 := by have := V.1; have : j ≤ sK g := hj; omega
    have o4 := R.o4 hj5
    rw [esh, ewk]
    refine ⟨RS_same ⟨fun f a hf => gi f a ?_, fun f a _ => er f a, fun i => ai _ i, fun i => ai _ i, fun i => ai _ i, fun i => ai _ i, fun f i _ _ => ai _ i, fun f i _ _ => ⟨ai _ i, ai _ i⟩⟩ (s3 j hj).1, RN_eq (s3 j hj).2.1 (gi 414 _ (by omega)) (fun i => by rw [er, al _ _ (n8 403 _ rfl o4 (by decide))]) (fun i => by rw [er, ai]) (fun i => by rw [er, ai]), RW_eq (s3 j hj).2.2 (fun f h1 h2 => gi f _ (by omega)) (fun f h1 h2 => by rw [er]; funext i; exact ai _ i)⟩
    simp only [rsF, Bool.or_eq_true, beq_iff_eq] at hf
    omega
  · unfold TPc
    rw [er 1101, gi 702 _ (by omega), er 700]
    exact ⟨p.1, fun i hi => by rw [ai]; exact p.2 i hi⟩
  · intro i hi
    rw [er, ai]
    exact l i hi
  · exact ⟨by rw [gi 1112 _ (by omega)]; exact c1, by rw [gi 1115 _ (by omega)]; exact c2, by rw [gi 1116 _ (by omega)]; exact c3, by rw [gi 1117 _ (by omega)]; exact c4, by rw [gl]; exact c5, by rw [gl]; exact c6⟩
  · intro i hi
    rw [er 1101, er 701, al _ _ (n8 701 _ rfl R.o7 (by decide))]
    exact k i hi
theorem MR_tr (R : MR Y h m g) (er : ∀ f a, hGr h' f a = hGr h f a) (gi : ∀ f a, hGi h' f a = hGi h f a) (gl : ∀ f a, hGl h' f a = hGl h f a) (ai : ∀ f i, mLen f ≠ 0 → f ≠ 1204 → f ≠ 1205 → hAi h' (hGr h f m) i = hAi h (hGr h f m) i) (al : ∀ f i, mLen f ≠ 0 → f ≠ 1206 → hAl h' (hGr h f m) i = hAl h (hGr h f m) i) (ty : Ty Y h')
    (T : ∀ t, t < 4 → hAi h' (hGr h 1204 m) t = ts t ∧ hAi h' (hGr h 1205 m) t = tm t ∧ ∀ i, i < 60 → hAl h' (hGr h 1206 m) (60 * t + i) = tn t i) : MR Y h' m (wTr g ts tm tn) := by
  obtain ⟨r1, r2, b, t, p, l, c1, c2, c3, c4, c5, c6⟩ := R
  refine ⟨MS_congr r1 (fun f => er f m), ty, fun j hj => ⟨fun i hi => ?_, fun i hi => ?_⟩, fun z hz => ?_, ?_, ?_, ?_, ?_, ?_, ?_, ?_, ?_⟩
  · rw [er, ai 1220 _ (by decide) (by decide) (by decide)]; exact (b j hj).1 i hi
  · rw [er, al 1222 _ (by decide) (by decide)]; exact (b j hj).2 i hi
  · rw [er, er, er]; exact T z hz
  · rw [gi, er]; exact ⟨p.1, fun i hi => by rw [ai 1207 _ (by decide) (by decide) (by decide)]; exact p.2 i hi⟩
  · rw [gi, er]
    rcases l with q | ⟨f, q1, q2, q3⟩
    · exact Or.inl q
    · exact Or.inr ⟨f, q1, q2, fun i hi => by rw [ai 1234 _ (by decide) (by decide) (by decide)]; exact q3 i hi⟩
  · rw [gi]; exact c1
  · rw [gi]; exact c2
  · rw [gi]; exact c3
  · rw [gi]; exact c4
  · rw [gl]; exact c5
  · rw [gl]; exact c6
theorem LP_trayAt_s (R : CR Y h x kw g) (t : Int32) : LP_trayAt Y x t h = some (if isAt t 4 then some (trA h x t.toNatClampNeg) else none) := by
  unfold LP_trayAt
  rcases isAt_cases t (n := 4) (by omega) with q | ⟨j, hj, rfl, q⟩
  · rw [q]
    by_cases e1 : t < 0
    · rw [if_pos e1]; rfl
    · have := isAt_neg (by omega) q e1
      rw [if_neg e1, if_neg]
      · rfl
      · intro z
        have z' : t < nI 4 := z
        rw [Int32.lt_iff_toInt_lt] at z'
        rw [Int32.le_iff_toInt_le] at this
        omega
  · rw [q, if_neg (nI_pos (by omega)), if_pos (show nI j < 4 from nI_lt (b := 4) hj (by omega)), cl1100 R.1 R.1.1, if_pos (inB_nI (by omega) (by omega)), if_pos rfl]
    rfl
/-- the state of a tray -/
theorem tr_cases (R : CR Y h x kw g) {t : Nat} (ht : t < 4) : (sTm g t = m1 ∧ hGz h 801 (trA h x t) = false) ∨ ∃ n s, n ≤ 60 ∧ s < 4 ∧ sTm g t = nI n ∧ sTs g t = nI s ∧ hGz h 801 (trA h x t) = true ∧ hGi h 803 (trA h x t) = nI n ∧ hGi h 802 (trA h x t) = nI s ∧ ∀ i, i < n → hAl h (hGr h 800 (trA h x t)) i = sTn g t i := by
  rcases R.2.2.2.1.2 t ht with ⟨a, b⟩ | ⟨n, s, a1, a2, a3, a4, a5, a6⟩
  · exact Or.inl ⟨a, by unfold hGz; rw [b]; rfl⟩
  · exact Or.inr ⟨n, s, a1, a2, a3, a4, by unfold hGz; rw [a5]; rfl, a6⟩
def hasB (p : Int32) (n k : Nat) : Bool := decide (0 ≤ p) && decide (p.toNatClampNeg + k ≤ n)
theorem hasB_n {j n k : Nat} (hj : j < 2 ^ 31) : hasB (nI j) n k = decide (j + k ≤ n) := by
  unfold hasB
  rw [nI_clamp hj]
  simp [nI_pos' hj]
theorem hasB_neg {p : Int32} {n k : Nat} (h : p < 0) : hasB p n k = false := by
  unfold hasB
  have : ¬ (0 ≤ p) := by rw [Int32.lt_iff_toInt_lt] at h; rw [Int32.le_iff_toInt_le]; omega
  simp [this]
theorem Tr_hasAll_s {T n k : Nat} {p : Int32} (hn : n ≤ 60) (h3 : hGi h 803 T = nI n) (hk : k < 2 ^ 30) : Tr_hasAll Y T p (nI k) h = some (hasB p n k) := by
  unfold Tr_hasAll
  rw [h3]
  by_cases e1 : p < 0
  · rw [if_pos e1, hasB_neg e1]
  · rw [if_neg e1]
    obtain ⟨j, hj, rfl⟩ := nI_of e1
    rw [hasB_n hj]
    by_cases e2 : n < j
    · rw [if_pos (nI_lt e2 hj)]
      simp; omega
    · rw [if_neg (nI_nlt (by omega) (by omega)), pk_sub (by omega)]
      simp (disch := omega) only [nI_ltI]
      by_cases e3 : n - j < k
      · rw [if_pos e3]; simp; omega
      · rw [if_neg e3]; simp; omega
end TR
/-- why a place of a tray is none -/
def plW (g : Sg) (t p : Int32) : Int32 := if isAt t 4 then (if sTm g t.toNatClampNeg = m1 then nI 3 else if isAt p (cN (sTm g) t.toNatClampNeg) then nI 0 else nI 4) else nI 1
section TW
variable {Yc Ym : Ly} {hc hm : Hp} {x m : Nat} {kw : Nat → Int64} {g : Sg}
theorem isAt_ex1 {p : Int32} {n : Nat} (hn : n ≤ 60) : hasB p n 1 = isAt p n := by
  by_cases e1 : p < 0
  · rw [hasB_neg e1]
    unfold isAt
    have : ¬ (0 ≤ p) := by rw [Int32.lt_iff_toInt_lt] at e1; rw [Int32.le_iff_toInt_le]; omega
    simp [this]
  · obtain ⟨j, hj, rfl⟩ := nI_of e1
    rw [hasB_n hj]
    by_cases q : j < n
    · rw [isAt_nI q (by omega)]; simp; omega
    · have : isAt (nI j) n = false := by
        unfold isAt
        have : ¬ nI j < nI n := by rw [nI_ltI hj (by omega)]; exact q
        simp [this]
      rw [this]; simp; omega
theorem LP_whyNoPlace_s (R : CR Yc hc x kw g) (t p : Int32) : LP_whyNoPlace Yc (if isAt t 4 then some (trA hc x t.toNatClampNeg) else none) p hc = some (plW g t p) := by
  unfold LP_whyNoPlace plW
  rcases isAt_cases t (n := 4) (by omega) with q | ⟨j, hj, rfl, q⟩
  · rw [q]; rfl
  · rw [q, if_pos rfl, if_pos rfl, nI_clamp (by omega)]
    simp only
    rcases tr_cases R hj with ⟨a, b⟩ | ⟨n, s, a1, a2, a3, a4, a5, a6, a7, a8⟩
    · rw [b, a]; rfl
    · have nm : ¬ sTm g j = m1 := by rw [a3, ne_m1 (by omega)]; exact fun z => z
      have cn : cN (sTm g) j = n := by unfold cN; rw [a3, nI_clamp (by omega)]
      rw [a5, if_pos rfl, if_neg nm, show (1 : Int32) = nI 1 from rfl, Tr_hasAll_s a1 a6 (by omega), bind_s, isAt_ex1 a1, cn]
      cases isAt p n <;> rfl
theorem M_placed_s (R : MR Ym hm m g) (RC : CR Yc hc x kw g) (t p : Int32) : M_placed Ym m t p hm = some (plW g t p) := by
  unfold M_placed M_trayed plW
  rcases isAt_cases t (n := 4) (by omega) with q | ⟨j, hj, rfl, q⟩
  · rw [q]
    by_cases e1 : t < 0
    · rw [if_pos e1, bind_s]; rfl
    · have := isAt_neg (by omega) q e1
      rw [if_neg e1, if_neg, bind_s]
      · rfl
      · intro z
        have z' : t < nI 4 := z
        rw [Int32.lt_iff_toInt_lt] at z'
        rw [Int32.le_iff_toInt_le] at this
        omega
  · rw [q, if_pos rfl, if_neg (nI_pos (by omega)), if_pos (show nI j < 4 from nI_lt (b := 4) hj (by omega)), ml1205 R.1, if_pos (inB_nI (by omega) (by omega)), if_pos (inB_nI (by omega) (by omega)), nI_clamp (by omega), (R.2.2.2.1 j hj).2.1]
    rcases tr_cases RC hj with ⟨a, b⟩ | ⟨n, s, a1, a2, a3, a4, a5, a6, a7, a8⟩
    · rw [a, if_neg (by decide), bind_s]; rfl
    · have nm : ¬ sTm g j = m1 := by rw [a3, ne_m1 (by omega)]; exact fun z => z
      have cn : cN (sTm g) j = n := by unfold cN; rw [a3, nI_clamp (by omega)]
      rw [if_neg nm, cn, a3, if_pos (nI_pos' (by omega)), bind_s, if_pos (by decide)]
      rcases isAt_cases p (n := n) (by omega) with q2 | ⟨i, hi, rfl, q2⟩
      · rw [q2]
        by_cases e1 : p < 0
        · rw [if_pos e1]; rfl
        · have := isAt_neg (by omega) q2 e1
          rw [if_neg e1, if_neg]
          · rfl
          · intro z
            rw [Int32.lt_iff_toInt_lt] at z
            rw [Int32.le_iff_toInt_le] at this
            omega
      · rw [q2, if_neg (nI_pos (by omega)), if_pos (nI_lt hi (by omega))]; rfl
def spRead (g : Sg) (t p : Int32) : Int64 × Int32 := if plW g t p = nI 0 then (sTn g t.toNatClampNeg p.toNatClampNeg, nI 0) else (mL, plW g t p)
/-- where there is a place -/
theorem plW_0 {t p : Int32} (R : CR Yc hc x kw g) (h0 : plW g t p = nI 0) : ∃ j n s i, j < 4 ∧ n ≤ 60 ∧ s < 4 ∧ i < n ∧ t = nI j ∧ p = nI i ∧ sTm g j = nI n ∧ sTs g j = nI s ∧ hGi hc 803 (trA hc x j) = nI n ∧ hGi hc 802 (trA hc x j) = nI s ∧ ∀ i, i < n → hAl hc (hGr hc 800 (trA hc x j)) i = sTn g j i := by
  unfold plW at h0
  rcases isAt_cases t (n := 4) (by omega) with q | ⟨j, hj, rfl, q⟩
  · rw [q, if_neg (show ¬ false = true by decide)] at h0; exact absurd h0 (by decide)
  · rw [q, if_pos rfl, nI_clamp (by omega)] at h0
    rcases tr_cases R hj with ⟨a, b⟩ | ⟨n, s, a1, a2, a3, a4, a5, a6, a7, a8⟩
    · rw [if_pos a] at h0; exact absurd h0 (by decide)
    · have nm : ¬ sTm g j = m1 := by rw [a3, ne_m1 (by omega)]; exact fun z => z
      have cn : cN (sTm g) j = n := by unfold cN; rw [a3, nI_clamp (by omega)]
      rw [if_neg nm, cn] at h0
      rcases isAt_cases p (n := n) (by omega) with q2 | ⟨i, hi, rfl, q2⟩
      · rw [q2] at h0; exact absurd h0 (by decide)
      · exact ⟨j, n, s, i, hj, a1, a2, hi, rfl, rfl, a3, a4, a6, a7, a8⟩
theorem plW_pos (g : Sg) (t p : Int32) (h0 : plW g t p ≠ nI 0) : ¬ plW g t p ≤ 0 := by
  unfold plW at h0 ⊢
  split
  · split
    · decide
    · split
      · next a b c => rw [if_pos a, if_neg b, if_pos c] at h0; exact absurd rfl h0
      · decide
  · decide
theorem LP_read_q (R : CR Yc hc x kw g) (t p : Int32) : CQ Yc x hc (LP_read Yc x t p hc) (spRead g t p).1 (spRead g t p).2 := by
  unfold LP_read spRead
  rw [LP_trayAt_s R, bind_s, LP_whyNoPlace_s R, bind_s]
  by_cases h0 : plW g t p = nI 0
  · obtain ⟨j, n, s, i, hj, hn, hs, hi, rfl, rfl, b1, b2, b3, b4, b5⟩ := plW_0 R h0
    rw [isAt_nI hj (by omega), if_pos rfl, h0, if_pos rfl, nI_clamp (by omega), nI_clamp (by omega)]
    simp only
    rw [if_pos (show nI 0 = 0 from rfl), letH_e]
    unfold Tr_numberAt
    have o8 := R.o8 hj
    rw [show (1 : Int32) = nI 1 from rfl, Tr_hasAll_s (n := n) hn (by rw [gi_si, if_neg (by omega)]; exact b3) (by omega), bind_s, isAt_ex1 hn, isAt_nI hi (by omega), if_pos rfl, gr_si, cl800 R.1 o8, if_pos (inB_nI (by omega) (by omega)), nI_clamp (by omega), bind_s]
    refine ⟨hSi hc 1112 x 0, ?_, Cf_si, by rw [gi_si, if_pos ⟨rfl, rfl⟩]; rfl⟩
    rw [show hAl (hSi hc 1112 x 0) (hGr hc 800 (trA hc x j)) i = hAl hc (hGr hc 800 (trA hc x j)) i from rfl, b5 i hi]
  · rw [if_neg h0]
    have : ∀ o : Option Nat, CQ Yc x hc (match o with | none => (LP_fail Yc x (plW g t p) hc).bind fun q6 => some (q6.1.toInt64, q6.2) | some a4 => if plW g t p = 0 then letH (hSi hc 1112 x 0) fun h8 => (Tr_numberAt Yc a4 p h8).bind fun q9 => some (q9, h8) else (LP_fail Yc x (plW g t p) hc).bind fun q10 => some (q10.1.toInt64, q10.2)) mL (plW g t p) := by
      intro o
      cases o with
      | none => exact ⟨_, rfl, Cf_si, by rw [gi_si, if_pos ⟨rfl, rfl⟩]⟩
      | some a =>
        simp only
        rw [if_neg (show ¬ plW g t p = 0 from h0)]
        exact ⟨_, rfl, Cf_si, by rw [gi_si, if_pos ⟨rfl, rfl⟩]⟩
    exact this _
theorem M_read_q (R : MR Ym hm m g) (RC : CR Yc hc x kw g) (t p : Int32) : mQ Ym m hm (M_read Ym m t p hm) (spRead g t p).1 (spRead g t p).2 := by
  have R1 := MR_1 R
  unfold M_read spRead
  rw [letH_e, M_placed_s R1 RC, bind_s, letH_e, M_b0]
  by_cases h0 : plW g t p = nI 0
  · obtain ⟨j, n, s, i, hj, hn, hs, hi, rfl, rfl, b1, b2, _⟩ := plW_0 RC h0
    rw [h0, if_pos rfl, if_pos (by decide), nI_clamp (by omega), nI_clamp (by omega), show (60 : Int32) * nI j + nI i = nI (60 * j + i) by simp only [zlit, pk_mul, nI_add], gr_si, ml1206 R1.1, if_pos (inB_nI (by omega) (by omega)), nI_clamp (by omega)]
    refine ⟨hSi (hSi hm 1201 m 0) 1200 m (nI 0), ?_, Mf_tr Mf_1 Mf_0, M_b0⟩
    rw [show hAl (hSi (hSi hm 1201 m 0) 1200 m (nI 0)) (hGr (hSi hm 1201 m 0) 1206 m) (60 * j + i) = hAl (hSi hm 1201 m 0) (hGr (hSi hm 1201 m 0) 1206 m) (60 * j + i) from rfl, (R1.2.2.2.1 j hj).2.2 i (by omega)]
  · rw [if_neg h0, if_neg (plW_pos g t p h0)]
    exact ⟨_, rfl, Mf_tr Mf_1 Mf_0, M_b0⟩
theorem so_read (J : JJ Yc Ym hc x hm m kw) (t p : Int32) : SO Yc Ym x m kw (LP_read Yc x t p hc) (M_read Ym m t p hm) := by
  obtain ⟨g, RC, RM, V⟩ := J
  exact SO_q RC RM V (LP_read_q RC t p) (M_read_q RM RC t p)
end TW
