/-! ===== mean ===== -/
section MN2
variable {Yc Ym : Ly} {hc hm : Hp} {x m : Nat} {kw : Nat → Int64} {g : Sg} {st : Int32}
theorem nI_lN {k : Nat} (hk : k < 2 ^ 31) : (nI k).toInt64 = lN k := by
  apply Int64.toInt_inj.mp
  rw [Int32.toInt_toInt64, nI_toInt hk, lN_toInt hk]
theorem M_restore_s {Y : Ly} {h : Hp} {l1 l2 l5 : Int32} {l3 : Int64} {k93 : Int64 → Int32 → Hp → Option (Bool × Hp)} (S : MS Y h m) :
    M_mean_L121 Y m l1 l2 l3 l5 k93 FU 0 h = k93 l3 (l5 + 1) (hWi h (hGr h 1220 m) (fun i => if i < 304 then hAi h (hGr h 1221 m) i else hAi h (hGr h 1220 m) i)) := by
  have n12 : hGr h 1221 m ≠ hGr h 1220 m := fun z => absurd (S.2.2 1221 1220 (by decide) (by decide) z) (by decide)
  have key := upl (Q := fun q => q = k93 l3 (l5 + 1) (hWi h (hGr h 1220 m) (fun i => if i < 304 then hAi h (hGr h 1221 m) i else hAi h (hGr h 1220 m) i))) (fun F i gg => M_mean_L121 Y m l1 l2 l3 l5 k93 F (nI i) (hWi h (hGr h 1220 m) gg)) 304
    (fun n gg => ∀ j, gg j = if j < n then hAi h (hGr h 1221 m) j else hAi h (hGr h 1220 m) j) ?_ ?_ 304 0 (hAi h (hGr h 1220 m)) FU (by omega) (by unfold FU; omega) (fun j => by rw [if_neg (by omega)])
  · simp only [wi_self] at key
    exact key
  · intro F i gg hi hI
    right
    show ∃ s', M_mean_L121 Y m l1 l2 l3 l5 k93 (F + 1) (nI i) _ = M_mean_L121 Y m l1 l2 l3 l5 k93 F (nI (i + 1)) (hWi _ _ s') ∧ _
    rw [M_mean_L121, if_neg (show ¬ (304 : Int32) ≤ nI i from nI_ge (b := 304) hi (by omega)), gr_wi, gr_wi, ml1221 S, if_pos (inB_nI (by omega) (by omega)), ml1220 S, if_pos (inB_nI (by omega) (by omega)), letH_e, nI_clamp (by omega), ai_wi, if_neg n12, ti_wi, nI_1]
    refine ⟨_, rfl, fun j => ?_⟩
    by_cases e : j = i
    · rw [e, pk_us, if_pos (by omega)]
    · rw [pk_un e, hI j]
      by_cases w : j < i
      · rw [if_pos w, if_pos (by omega)]
      · rw [if_neg w, if_neg (by omega)]
  · intro F gg hI
    show M_mean_L121 Y m l1 l2 l3 l5 k93 (F + 1) (nI 304) (hWi h (hGr h 1220 m) gg) = _
    rw [M_mean_L121, if_pos (show (304 : Int32) ≤ nI 304 by decide)]
    have : gg = (fun i => if i < 304 then hAi h (hGr h 1221 m) i else hAi h (hGr h 1220 m) i) := funext hI
    rw [this]
theorem M_save_s {Y : Ly} {h : Hp} {l1 l2 : Int32} (S : MS Y h m) :
    M_mean_L63 Y m l1 l2 FU 0 h = M_mean_L93 Y m l1 l2 FU 0 0 (hWi h (hGr h 1221 m) (fun i => if i < 304 then hAi h (hGr h 1220 m) i else hAi h (hGr h 1221 m) i)) := by
  have n12 : hGr h 1220 m ≠ hGr h 1221 m := fun z => absurd (S.2.2 1220 1221 (by decide) (by decide) z) (by decide)
  have key := upl (Q := fun q => q = M_mean_L93 Y m l1 l2 FU 0 0 (hWi h (hGr h 1221 m) (fun i => if i < 304 then hAi h (hGr h 1220 m) i else hAi h (hGr h 1221 m) i))) (fun F i gg => M_mean_L63 Y m l1 l2 F (nI i) (hWi h (hGr h 1221 m) gg)) 304
    (fun n gg => ∀ j, gg j = if j < n then hAi h (hGr h 1220 m) j else hAi h (hGr h 1221 m) j) ?_ ?_ 304 0 (hAi h (hGr h 1221 m)) FU (by omega) (by unfold FU; omega) (fun j => by rw [if_neg (by omega)])
  · simp only [wi_self] at key
    exact key
  · intro F i gg hi hI
    right
    show ∃ s', M_mean_L63 Y m l1 l2 (F + 1) (nI i) _ = M_mean_L63 Y m l1 l2 F (nI (i + 1)) (hWi _ _ s') ∧ _
    rw [M_mean_L63, if_neg (show ¬ (304 : Int32) ≤ nI i from nI_ge (b := 304) hi (by omega)), gr_wi, gr_wi, ml1220 S, if_pos (inB_nI (by omega) (by omega)), ml1221 S, if_pos (inB_nI (by omega) (by omega)), letH_e, nI_clamp (by omega), ai_wi, if_neg n12, ti_wi, nI_1]
    refine ⟨_, rfl, fun j => ?_⟩
    by_cases e : j = i
    · rw [e, pk_us, if_pos (by omega)]
    · rw [pk_un e, hI j]
      by_cases w : j < i
      · rw [if_pos w, if_pos (by omega)]
      · rw [if_neg w, if_neg (by omega)]
  · intro F gg hI
    show M_mean_L63 Y m l1 l2 (F + 1) (nI 304) (hWi h (hGr h 1221 m) gg) = _
    rw [M_mean_L63, if_pos (show (304 : Int32) ≤ nI 304 by decide)]
    have : gg = (fun i => if i < 304 then hAi h (hGr h 1220 m) i else hAi h (hGr h 1221 m) i) := funext hI
    rw [this]
/-- one seed -/
theorem mean_round (RC : CR Yc hc x kw g) (RM : MR Ym hm m (wSt g st)) (V : VG g) (hw : sC g 0 304 = nI 1) (hb : ∀ i, i < 304 → hAi hm (hGr hm 1221 m) i = sC g 0 i) {seed : Nat} (hs : seed < 65536) :
    ∃ hc' hm' k, k ≤ 8 ∧ (∀ (K : Int32 → Hp → Option (Bool × Hp)), ((Li_keep Yc (hGr hc 1107 x) (hGr hc 1109 x) hc).bind fun q18 => (Li_run Yc (hGr q18 1107 x) (hGr q18 1109 x) (hGr q18 1105 x) (nI seed) q18).bind fun q22 => (Sh_finished Yc (hGr q22 1109 x) q22).bind fun q24 => (J_bitCount Yc q24 q22).bind fun q25 => (Li_restore Yc (hGr q22 1107 x) (hGr q22 1109 x) q22).bind fun q28 => K q25 q28) = K (nI k) hc') ∧
      (∀ l1 l2 l3 l5 k93, ((M_runsWeeks Ym m (nI seed) hm).bind fun q14 => (M_bound Ym m q14).bind fun q15 => (M_sizeOf Ym q15 q14).bind fun q16 => M_mean_L121 Ym m l1 l2 (l3 + (Int32.toInt64 q16)) l5 k93 FU 0 q14) = k93 (l3 + lN k) (l5 + 1) hm') ∧
      CR Yc hc' x kw g ∧ MR Ym hm' m (wSt g st) ∧ ∀ i, i < 304 → hAi hm' (hGr hm' 1221 m) i = sC g 0 i := by
  have hx := RC.1.1
  have o2 : isO Yc 2 (hGr hc 1107 x) := RC.2.1.1 1107 2 rfl x hx
  have o4 : isO Yc 4 (hGr hc 1109 x) := RC.2.1.1 1109 4 rfl x hx
  have Vb := (V.2.1 0 (Nat.zero_le _)).1
  have l2 := VC_l2 Vb
  have X := RC.ct V
  have k1 : Li_keep Yc (hGr hc 1107 x) (hGr hc 1109 x) hc = some (hSi (hCi hc (hGr hc 410 (hGr hc 1109 x)) 0 (hGr hc 203 (hGr hc 1107 x)) 0 6) 204 (hGr hc 1107 x) (hGi hc 417 (hGr hc 1109 x))) := by
    unfold Li_keep
    rw [cl410 RC.1 o4, cl203 RC.1 o2, if_pos (show cpB 0 0 6 6 6 = true by decide), letH_e, letH_e]
    rfl
  have qk : Qf Yc 300 hc (hSi (hCi hc (hGr hc 410 (hGr hc 1109 x)) 0 (hGr hc 203 (hGr hc 1107 x)) 0 6) 204 (hGr hc 1107 x) (hGi hc 417 (hGr hc 1109 x))) := by
    rw [ci_w]
    exact Qf_tr (Qf_wi (f := 203) (o := hGr hc 1107 x) (by decide) rfl o2) (Qf_si (by decide))
  have R1 := CR_Q RC V qk
  have b1 : ∀ b, b < 6 → hAi (hSi (hCi hc (hGr hc 410 (hGr hc 1109 x)) 0 (hGr hc 203 (hGr hc 1107 x)) 0 6) 204 (hGr hc 1107 x) (hGi hc 417 (hGr hc 1109 x))) (hGr hc 203 (hGr hc 1107 x)) b = hAi hc (hGr hc 410 (hGr hc 1109 x)) b := by
    intro b hb
    show hAi (hCi hc (hGr hc 410 (hGr hc 1109 x)) 0 (hGr hc 203 (hGr hc 1107 x)) 0 6) (hGr hc 203 (hGr hc 1107 x)) b = _
    rw [ai_ci, if_pos rfl, va_cpy, if_pos ⟨Nat.zero_le _, by omega⟩, Nat.sub_zero, Nat.zero_add]
  have b2 : hGi (hSi (hCi hc (hGr hc 410 (hGr hc 1109 x)) 0 (hGr hc 203 (hGr hc 1107 x)) 0 6) 204 (hGr hc 1107 x) (hGi hc 417 (hGr hc 1109 x))) 204 (hGr hc 1107 x) = hGi hc 417 (hGr hc 1109 x) := by rw [gi_si, if_pos ⟨rfl, rfl⟩]
  have rr : ∀ f a, hGr (hSi (hCi hc (hGr hc 410 (hGr hc 1109 x)) 0 (hGr hc 203 (hGr hc 1107 x)) 0 6) 204 (hGr hc 1107 x) (hGi hc 417 (hGr hc 1109 x))) f a = hGr hc f a := fun _ _ => rfl
  generalize hSi (hCi hc (hGr hc 410 (hGr hc 1109 x)) 0 (hGr hc 203 (hGr hc 1107 x)) 0 6) 204 (hGr hc 1107 x) (hGi hc 417 (hGr hc 1109 x)) = q18 at *
  obtain ⟨hc', hm', c', tl, dn, e1, e2, E⟩ := run_s (seed := seed) R1 RM rfl V hw hs
  obtain ⟨E1, E2, E3, E4, E5, E6, E7, E8, E9, ⟨E10, E10b, E10c⟩, E11, E12, E13⟩ := E
  rw [rr] at E10 E10b E10c E11 E12
  rw [rr] at E11
  have Vb' := VGb E3
  have X' := E1.ct0 E3
  have X'' : CX Yc hc' x (hGr hc' 1109 x) c' := X'
  have MX' : MX Ym hm' m c' := by
    have := E2.mx (show VG (wC0 (wSt g st) c') from E3)
    rwa [sC0] at this
  have pl := pcnt_le (bndS c')
  have o2' : isO Yc 2 (hGr hc 1107 x) := o2
  have o4' : isO Yc 4 (hGr hc 1109 x) := o4
  have rs : Li_restore Yc (hGr hc 1107 x) (hGr hc 1109 x) hc' = some (hSi (hWi hc' (hGr hc' 410 (hGr hc' 1109 x)) (va_cpy (hAi hc' (hGr hc' 203 (hGr hc 1107 x))) (hAi hc' (hGr hc' 410 (hGr hc' 1109 x))) 0 0 6)) 417 (hGr hc' 1109 x) (hGi hc' 204 (hGr hc 1107 x))) := by
    unfold Li_restore
    rw [cl203 E1.1 o2', cl410 E1.1 o4', if_pos (show cpB 0 0 6 6 6 = true by decide), letH_e, letH_e, E10b]
    rfl
  have C1 := CR_sh0 (c' := sC g 0) E1 E3 (by rw [sC0]; exact fun i h1 h2 => (E4 i h1 h2).symm) (G := va_cpy (hAi hc' (hGr hc' 203 (hGr hc 1107 x))) (hAi hc' (hGr hc' 410 (hGr hc' 1109 x))) 0 0 6) (v := hGi hc' 204 (hGr hc 1107 x)) (by
    rw [E12, b2]
    exact RC.2.2.1.2.2 0 (Nat.zero_le _) |>.1.1.2.2.2.2.2.2.2.2.2 |> fun z => by rw [← z, sh0]) (fun b hb => by
    have hb' : b < cN (sC g 0) 2 := by
      rw [sC0, E4.n (by omega) (by omega)] at hb
      exact hb
    rw [va_cpy, if_pos ⟨Nat.zero_le _, by omega⟩, Nat.sub_zero, Nat.zero_add, E11, b1 b (by omega)]
    exact (X.2.2.2.1.2.2.1 b hb').2.2.2.1)
  rw [wC0_wC0, wC0_self] at C1
  have S' := E2.1
  have M1 := MR_w0 (c' := sC g 0) E2 (G := fun i => if i < 304 then hAi hm' (hGr hm' 1221 m) i else hAi hm' (hGr hm' 1220 m) i) (fun i hi => by
    show (if i < 304 then hAi hm' (hGr hm' 1221 m) i else hAi hm' (hGr hm' 1220 m) i) = _
    by_cases z : i < 304
    · rw [if_pos z, E13]; exact hb i z
    · rw [if_neg z, MB0 MX'.2.1 hi, E4 i (by omega) (by omega)]) (fun i hi => by
    show (if i < 304 then hAi hm' (hGr hm' 1221 m) i else hAi hm' (hGr hm' 1220 m) i) = _
    rw [if_neg (by omega)])
  rw [wC0_wC0, show wC0 (wSt g st) (sC g 0) = wSt g st from wC0_self (wSt g st)] at M1
  refine ⟨_, _, pcnt (bndS c'), by omega, fun K => ?_, fun l1 l2 l3 l5 k93 => ?_, C1, M1, fun i hi => ?_⟩
  · rw [k1, bind_s, rr, rr, rr]
    rw [rr, rr, rr] at e1
    rw [e1, bind_s, Sh_finished_s X'', bind_s, J_bitCount_s (bndS_lt Vb'), bind_s, E10, E10b, rs, bind_s, E10b]
  · rw [e2, bind_s, M_bound_s MX', bind_s, M_sizeOf_s (by have := bndS_lt Vb'; omega), bind_s, M_restore_s S', nI_lN (by omega)]
  · have n12 : hGr hm' 1221 m ≠ hGr hm' 1220 m := fun z => absurd (S'.2.2 1221 1220 (by decide) (by decide) z) (by decide)
    rw [gr_wi, ai_wi, if_neg n12, E13]
    exact hb i hi
theorem mean_loop (V : VG g) (hw : sC g 0 304 = nI 1) {n sd : Nat} (hn : n ≤ 20) (hsd : sd < 10000) : ∀ k i sum hc hm F1 F2, n = i + k → k < F1 → k < F2 → sum ≤ 8 * i → CR Yc hc x kw g → MR Ym hm m (wSt g st) → (∀ i, i < 304 → hAi hm (hGr hm 1221 m) i = sC g 0 i) →
    ∃ hc' hm' S, S ≤ 8 * n ∧ LP_mean_L64 Yc x (nI sd) (nI n) F1 (nI sum) (nI i) hc = ((LP_tellFraction Yc x (lN S) (lN n) hc').bind fun q14 => (LP_agree Yc x q14).bind fun q15 => some (q15.1, q15.2)) ∧
      M_mean_L93 Ym m (nI sd) (nI n) F2 (lN sum) (nI i) hm = ((M_fraction Ym m (lN S) (lN n) hm').bind fun q13 => some (q13.1, q13.2)) ∧ CR Yc hc' x kw g ∧ MR Ym hm' m (wSt g st) := by
  intro k
  induction k with
  | zero =>
    intro i sum hc hm F1 F2 hk h1 h2 hS RC RM hb
    obtain ⟨F1, rfl⟩ : ∃ F', F1 = F' + 1 := ⟨F1 - 1, by omega⟩
    obtain ⟨F2, rfl⟩ : ∃ F', F2 = F' + 1 := ⟨F2 - 1, by omega⟩
    refine ⟨hc, hm, sum, by omega, ?_, ?_, RC, RM⟩
    · rw [LP_mean_L64, if_pos (nI_le (by omega) (by omega)), nI_lN (by omega), nI_lN (by omega)]
    · rw [M_mean_L93, if_pos (nI_le (by omega) (by omega)), nI_lN (by omega)]
  | succ k ih =>
    intro i sum hc hm F1 F2 hk h1 h2 hS RC RM hb
    obtain ⟨F1, rfl⟩ : ∃ F', F1 = F' + 1 := ⟨F1 - 1, by omega⟩
    obtain ⟨F2, rfl⟩ : ∃ F', F2 = F' + 1 := ⟨F2 - 1, by omega⟩
    obtain ⟨hc1, hm1, j, hj, p1, p2, p3, p4, p5⟩ := mean_round (seed := sd + i) RC RM V hw hb (by omega)
    obtain ⟨hc', hm', S, q1, q2, q3, q4, q5⟩ := ih (i + 1) (sum + j) hc1 hm1 F1 F2 (by omega) (by omega) (by omega) (by omega) p3 p4 p5
    refine ⟨hc', hm', S, q1, ?_, ?_, q4, q5⟩
    · rw [LP_mean_L64, if_neg (nI_ge (by omega) (by omega)), nI_add, p1 (fun q25 q28 => LP_mean_L64 Yc x (nI sd) (nI n) F1 (nI sum + q25) (nI i + 1) q28), nI_add, nI_1]
      exact q2
    · rw [M_mean_L93, if_neg (nI_ge (by omega) (by omega)), nI_add, p2, lN_add, nI_1]
      exact q3
theorem so_mean (J : JJ Yc Ym hc x hm m kw) (sd n : Int32) : SO Yc Ym x m kw (LP_mean Yc x sd n hc) (M_mean Ym m sd n hm) := by
  obtain ⟨g, RC, RM, V⟩ := J
  have R0 := MR_M RM (mst_f (Y := Ym) (h := hm) (m := m))
  rw [mst_0] at R0
  have X0 := mX0 (RM.mx V)
  have w0 : wkA hc x 0 = hGr hc 413 (hGr hc 1109 x) := by unfold wkA; rw [if_neg (by decide), sh0]
  have rw0 := (RC.2.2.1.2.2 0 (Nat.zero_le _)).2.2
  rw [w0] at rw0
  have i304 : inB 304 2880 = true := by decide
  have e304 : hAi (mst hm m) (hGr (mst hm m) 1220 m) (Int32.toNatClampNeg 304) = sC g 0 304 := MB0 X0.2.1 (i := 304) (by omega)
  have bad : ∀ A : Option (Bool × Hp), SO Yc Ym x m kw ((LP_refuse Yc x 5 hc).bind fun q2 => some (q2.1, q2.2)) ((M_no Ym m 5 (mst hm m)).bind fun q => some (q.1, q.2)) := fun _ => SO_q RC RM V (CQ_ref (Cf_rf Yc hc)) (mQ_no mst_f)
  unfold LP_mean M_mean
  rw [letH_e, letH_e, show hSi (hSi hm 1201 m 0) 1200 m 0 = mst hm m from rfl, M_isIn_s, bind_s, show (20 : Int64) = (nI 20).toInt64 by decide, isIn_1 (n := 20) (by decide)]
  have sdc : (sd < 0 ∨ 9999 < sd) ∨ ∃ j, j < 10000 ∧ sd = nI j := by
    rcases pk_ix sd (n := 10000) (by decide) with q | q | q
    · exact Or.inl (Or.inl q)
    · refine Or.inl (Or.inr ?_)
      rw [Int32.le_iff_toInt_le, nI_toInt (by decide)] at q
      rw [Int32.lt_iff_toInt_lt, show (9999 : Int32).toInt = 9999 by decide]
      omega
    · exact Or.inr q
  rcases p_cases n (n := 20) (by decide) with ⟨q, qn⟩ | ⟨k, hk, _, rfl, q⟩
  · rw [q]
    have hn : ∀ A : Option (Bool × Hp), (if sd < 0 then (LP_refuse Yc x 5 hc).bind fun q2 => some (q2.1, q2.2) else if 9999 < sd then (LP_refuse Yc x 5 hc).bind fun q4 => some (q4.1, q4.2) else if n < 1 then (LP_refuse Yc x 5 hc).bind fun q6 => some (q6.1, q6.2) else if 20 < n then (LP_refuse Yc x 5 hc).bind fun q8 => some (q8.1, q8.2) else A) = (LP_refuse Yc x 5 hc).bind fun q2 => some (q2.1, q2.2) := by
      intro A
      by_cases e1 : sd < 0
      · rw [if_pos e1]
      · rw [if_neg e1]
        by_cases e2 : 9999 < sd
        · rw [if_pos e2]
        · rw [if_neg e2]
          rcases qn with w | ⟨w, w2⟩
          · rw [if_pos (show n < 1 from w)]
          · rw [if_neg (show ¬ n < 1 from w), if_pos]
            rw [Int32.lt_iff_toInt_lt, show (20 : Int32).toInt = 20 by decide]
            rw [Int32.le_iff_toInt_le, nI_toInt (by decide)] at w2
            omega
    rw [hn]
    exact bad none
  · have e20 : ¬ (20 : Int32) < nI (k + 1) := by
      intro w
      rw [Int32.lt_iff_toInt_lt, nI_toInt (by omega), show (20 : Int32).toInt = 20 by decide] at w
      omega
    have e1 : ¬ nI (k + 1) < 1 := by
      intro w
      rw [Int32.lt_iff_toInt_lt, nI_toInt (by omega), show (1 : Int32).toInt = 1 by decide] at w
      omega
    rw [q, if_pos rfl, if_neg e1, if_neg e20, M_isIn_s, bind_s]
    have eT : ((10000 : Int32) - nI (k + 1)).toInt64 = (nI (10001 - (k + 1)) - 1).toInt64 := by
      rw [show (10000 : Int32) = nI 10000 from rfl, show (1 : Int32) = nI 1 from rfl, pk_sub (by omega), pk_sub (by omega), show 10001 - (k + 1) - 1 = 10000 - (k + 1) by omega]
    rw [eT, isIn_at (by omega)]
    rcases sdc with w | ⟨j, hj, rfl⟩
    · have hq : isAt sd (10001 - (k + 1)) = false := by
        unfold isAt
        rcases w with w | w
        · rw [show decide ((0 : Int32) ≤ sd) = false from by rw [decide_eq_false_iff_not]; intro z; rw [Int32.lt_iff_toInt_lt] at w; rw [Int32.le_iff_toInt_le] at z; omega]
          rfl
        · rw [show decide (sd < nI (10001 - (k + 1))) = false from by rw [decide_eq_false_iff_not]; intro z; rw [Int32.lt_iff_toInt_lt, show (9999 : Int32).toInt = 9999 by decide] at w; rw [Int32.lt_iff_toInt_lt, nI_toInt (by omega)] at z; omega, Bool.and_false]
      rw [hq]
      rcases w with w | w
      · rw [if_pos w]; exact bad none
      · by_cases w2 : sd < 0
        · rw [if_pos w2]; exact bad none
        · rw [if_neg w2, if_pos w]; exact bad none
    · rw [if_neg (nI_pos (by omega)), if_neg (show ¬ (9999 : Int32) < nI j from by intro w; rw [Int32.lt_iff_toInt_lt, nI_toInt (by omega), show (9999 : Int32).toInt = 9999 by decide] at w; omega), nI_add, show (1 : Int32) = nI 1 from rfl, pk_sub (by omega)]
      by_cases z : j < 10001 - (k + 1)
      · rw [isAt_nI z (by omega), if_pos rfl, if_pos (show nI (j + (k + 1) - 1) ≤ 9999 from nI_le (b := 9999) (by omega) (by omega)), ml1220 X0.1, if_pos i304, e304]
        rcases rw0 with ⟨z1, z2⟩ | ⟨z1, z2, _⟩
        · rw [z1, if_pos (show nI 0 = 0 from rfl), show hGz hc 905 (hGr hc 413 (hGr hc 1109 x)) = false by unfold hGz; rw [z2]; rfl, if_neg (by decide)]
          exact SO_q RC RM V (CQ_ref (Cf_rf Yc hc)) (mQ_no mst_f)
        · rw [z1, if_neg (show ¬ nI 1 = 0 by decide), show hGz hc 905 (hGr hc 413 (hGr hc 1109 x)) = true by unfold hGz; rw [z2]; rfl, if_pos rfl, M_save_s X0.1]
          have R1 := MR_M R0 (Mf_wi (f := 1221) (g := fun i => if i < 304 then hAi (mst hm m) (hGr (mst hm m) 1220 m) i else hAi (mst hm m) (hGr (mst hm m) 1221 m) i) X0.1 rfl (by decide))
          rw [gi_wi, mst_0] at R1
          have fu : k + 1 < FU := by unfold FU; omega
          obtain ⟨hc', hm', S, q1, q2, q3, q4, q5⟩ := mean_loop (Yc := Yc) (Ym := Ym) (x := x) (m := m) (kw := kw) (st := nI 0) (n := k + 1) (sd := j) V z1 (by omega) hj (k + 1) 0 0 hc _ FU FU (by omega) fu fu (by omega) RC R1 (fun i hi => by
            rw [gr_wi, ai_wi, if_pos rfl]
            show (if i < 304 then _ else _) = _
            rw [if_pos hi]
            exact MB0 X0.2.1 (by omega))
          clear fu
          rw [show LP_mean_L64 Yc x (nI j) (nI (k + 1)) FU 0 0 hc = _ from q2, show M_mean_L93 Ym m (nI j) (nI (k + 1)) FU 0 0 _ = _ from q3, LP_tellFraction_s (by omega) (by omega) (by omega), bind_s, M_fraction_s (by omega) (by omega) (by omega), bind_s]
          have C1 := CR_fr (a := (frP S (k + 1)).1) (b := (frP S (k + 1)).2) q4
          have C2 := CR_C C1 (show VG (wFr g ((frP S (k + 1)).1, (frP S (k + 1)).2)) from V) (Cf_si (x := x) (v := 0))
          rw [gi_si, if_pos ⟨rfl, rfl⟩] at C2
          exact ⟨true, _, _, rfl, rfl, wSt (wFr g ((frP S (k + 1)).1, (frP S (k + 1)).2)) (nI 0), C2, MR_fr (a := (frP S (k + 1)).1) (b := (frP S (k + 1)).2) q5, V⟩
      · have hq : isAt (nI j) (10001 - (k + 1)) = false := by
          unfold isAt
          rw [show decide (nI j < nI (10001 - (k + 1))) = false from by rw [decide_eq_false_iff_not]; intro w; rw [Int32.lt_iff_toInt_lt, nI_toInt (by omega), nI_toInt (by omega)] at w; omega, Bool.and_false]
        rw [hq, if_neg (show ¬ nI (j + (k + 1) - 1) ≤ 9999 from nI_ge (a := 9999) (by omega) (by omega))]
        exact bad none
end MN2
