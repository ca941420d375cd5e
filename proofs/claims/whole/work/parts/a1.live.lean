/-! ===== live ===== -/
section LIV
variable {Y : Ly} {h h' : Hp} {x m : Nat} {kw : Nat → Int64} {g : Sg}
theorem VG_lv {f : Nat → Int32} (V : VG g) (hf : ∀ i, i < 5 → numI (f i) ∧ f i ≠ m1) : VG (wLv g f) := ⟨V.1, V.2.1, V.2.2.1, V.2.2.2.1, fun f' e => by
  have e' : some f = some f' := e
  cases e'
  exact hf⟩
theorem CR_lv (R : CR Y h x kw g) (V : VG g) {G f : Nat → Int32} (hG : ∀ i, i < 5 → G i = f i) : CR Y (hWi h (hGr h 1108 x) G) x kw (wLv g f) := by
  have hx := R.1.1
  have ne : ∀ f o, cArr f = true → isO Y (f / 100) o → f ≠ 1108 → ∀ i, hAi (hWi h (hGr h 1108 x) G) (hGr h f o) i = hAi h (hGr h f o) i := by
    intro f o h1 h2 h3 i
    rw [ai_wi, if_neg]
    intro z
    exact h3 (R.1.2.2.2.1 f 1108 o x h1 rfl h2 hx z).1
  obtain ⟨r1, r2, ⟨s1, s2, s3⟩, ⟨t1, t2⟩, p, l, sc, k⟩ := R
  have R : CR Y h x kw g := ⟨r1, r2, ⟨s1, s2, s3⟩, ⟨t1, t2⟩, p, l, sc, k⟩
  refine ⟨CS_congr r1 (fun _ _ _ => rfl), r2, ⟨s1, s2, fun j hj => ?_⟩, ⟨t1, t2⟩, ⟨p.1, fun i hi => (ne 700 _ rfl R.o7 (by decide) i).trans (p.2 i hi)⟩, fun i hi => ?_, sc, k⟩
  · have hj4 : j < 5 := by have := V.1; have : j ≤ sK g := hj; omega
    have o4 := R.o4 hj4
    have o9 := R.o9 (show j < 6 by omega)
    have o6 := r2.1 400 6 rfl _ o4
    have o1 := r2.1 401 3 rfl _ o4
    have o2 := r2.1 402 3 rfl _ o4
    refine ⟨RS_same (h := h) (s := shA h x j) ⟨fun _ _ _ => rfl, fun _ _ _ => rfl, ne 600 _ rfl o6 (by decide), ne 601 _ rfl o6 (by decide), ne 602 _ rfl o6 (by decide), ne 603 _ rfl o6 (by decide), fun f i h1 h2 => ?_, fun f i h1 h2 => ?_⟩ (s3 j hj).1, RN_eq (h := h) (s3 j hj).2.1 rfl (fun i => rfl) (ne 404 _ rfl o4 (by decide)) (ne 405 _ rfl o4 (by decide)), RW_eq (h := h) (s3 j hj).2.2 (fun _ _ _ => rfl) (fun f h1 h2 => funext fun i => ?_)⟩
    · refine ne f _ ?_ (by rw [show f / 100 = 4 by omega]; exact o4) (by omega) i
      rcases (show f = 406 ∨ f = 407 ∨ f = 408 ∨ f = 409 ∨ f = 410 ∨ f = 411 ∨ f = 412 by omega) with e | e | e | e | e | e | e <;> (subst e; rfl)
    · rcases (show f = 300 ∨ f = 301 by omega) with e | e <;> subst e
      · exact ⟨ne 300 _ rfl o1 (by decide) i, ne 300 _ rfl o2 (by decide) i⟩
      · exact ⟨ne 301 _ rfl o1 (by decide) i, ne 301 _ rfl o2 (by decide) i⟩
    · refine ne f _ ?_ (by rw [show f / 100 = 9 by omega]; exact o9) (by omega) i
      rcases (show f = 900 ∨ f = 901 ∨ f = 902 ∨ f = 903 ∨ f = 904 by omega) with e | e | e | e | e <;> (subst e; rfl)
  · show hAi (hWi h (hGr h 1108 x) G) (hGr h 1108 x) i = f i
    rw [ai_wi, if_pos rfl]
    exact hG i hi
theorem MR_lv (R : MR Y h m g) {G f : Nat → Int32} (hG : ∀ i, i < 5 → G i = f i) : MR Y (hSi (hWi h (hGr h 1234 m) G) 1235 m 1) m (wLv g f) := by
  have ne : ∀ f, mLen f ≠ 0 → f ≠ 1234 → ∀ i, hAi (hSi (hWi h (hGr h 1234 m) G) 1235 m 1) (hGr h f m) i = hAi h (hGr h f m) i := by
    intro f h1 h2 i
    show hAi (hWi h (hGr h 1234 m) G) (hGr h f m) i = _
    rw [ai_wi, if_neg]
    intro z
    exact h2 (R.1.2.2 f 1234 h1 (by decide) z)
  have gi : ∀ f', f' < 1235 → hGi (hSi (hWi h (hGr h 1234 m) G) 1235 m 1) f' m = hGi h f' m := by
    intro f' h'
    rw [gi_si, if_neg (by omega)]; rfl
  obtain ⟨r1, r2, b, t, p, l, c1, c2, c3, c4, c5, c6⟩ := R
  refine ⟨MS_congr r1 (fun _ => rfl), Ty_si r2 (Or.inr (Or.inr rfl)), fun j hj => ⟨fun i hi => (ne 1220 (by decide) (by decide) _).trans ((b j hj).1 i hi), (b j hj).2⟩, fun z hz => ⟨(ne 1204 (by decide) (by decide) _).trans (t z hz).1, (ne 1205 (by decide) (by decide) _).trans (t z hz).2.1, (t z hz).2.2⟩, ⟨(gi 1208 (by decide)).trans p.1, fun i hi => (ne 1207 (by decide) (by decide) _).trans (p.2 i hi)⟩, Or.inr ⟨f, rfl, ?_, fun i hi => ?_⟩, (gi 1200 (by decide)).trans c1, (gi 1210 (by decide)).trans c2, (gi 1211 (by decide)).trans c3, (gi 1223 (by decide)).trans c4, c5, c6⟩
  · rw [gi_si, if_pos ⟨rfl, rfl⟩]
  · show hAi (hWi h (hGr h 1234 m) G) (hGr h 1234 m) i = f i
    rw [ai_wi, if_pos rfl]
    exact hG i hi
end LIV
section LIV2
variable {Yc Ym : Ly} {hc hm : Hp} {x m : Nat} {kw : Nat → Int64}
theorem wr5 {α : Type} {hh : Hp} (S : MS Ym hh m) {g : Nat → Int32} {k v : Int32} {K : Hp → Option α} (hk : inB k 5 = true) :
    (if inB k (lnY Ym (hGr (hWi hh (hGr hh 1234 m) g) 1234 m)) = true then letH (hTi (hWi hh (hGr hh 1234 m) g) (hGr (hWi hh (hGr hh 1234 m) g) 1234 m) (Int32.toNatClampNeg k) v) K else none) = K (hWi hh (hGr hh 1234 m) (upd g k.toNatClampNeg v)) := by
  rw [gr_wi, ml1234 S, if_pos hk, letH_e, ti_wi]
theorem M_lay5 {hh : Hp} (S : MS Ym hh m) : ∀ q9 g, q9 = hWi hh (hGr hh 1234 m) g → (if inB 0 (lnY Ym (hGr q9 1234 m)) = true then
          letH (hTi q9 (hGr q9 1234 m) (Int32.toNatClampNeg 0) (hGi q9 1239 m)) fun h12 =>
          if inB 1 (lnY Ym (hGr h12 1234 m)) = true then
            letH (hTi h12 (hGr h12 1234 m) (Int32.toNatClampNeg 1) (hGi h12 1240 m)) fun h15 =>
            if inB 2 (lnY Ym (hGr h15 1234 m)) = true then
              letH (hTi h15 (hGr h15 1234 m) (Int32.toNatClampNeg 2) (hGi h15 1241 m)) fun h18 =>
              if inB 3 (lnY Ym (hGr h18 1234 m)) = true then
                letH (hTi h18 (hGr h18 1234 m) (Int32.toNatClampNeg 3) (hGi h18 1242 m)) fun h21 =>
                if inB 4 (lnY Ym (hGr h21 1234 m)) = true then
                  letH (hTi h21 (hGr h21 1234 m) (Int32.toNatClampNeg 4) (hGi h21 1243 m)) fun h24 =>
                  letH (hSz h24 1235 m true) fun h25 =>
                  some (hGi h25 1238 m, h25)
                else none
              else none
            else none
          else none
        else none) = some (hGi hh 1238 m, hSi (hWi hh (hGr hh 1234 m) (upd (upd (upd (upd (upd g 0 (hGi hh 1239 m)) 1 (hGi hh 1240 m)) 2 (hGi hh 1241 m)) 3 (hGi hh 1242 m)) 4 (hGi hh 1243 m))) 1235 m 1) := by
  intro q9 g e
  subst e
  rw [wr5 S (by decide), wr5 S (by decide), wr5 S (by decide), wr5 S (by decide), wr5 S (by decide), letH_e]
  rfl
theorem so_live (J : JJ Yc Ym hc x hm m kw) (sd : Int32) : SO Yc Ym x m kw (LP_live Yc x sd hc) (M_live Ym m sd hm) := by
  obtain ⟨g, RC, RM, V⟩ := J
  have R0 := MR_M RM (mst_f (Y := Ym) (h := hm) (m := m))
  rw [mst_0] at R0
  have X0 := mX0 (RM.mx V)
  have w0 : wkA hc x 0 = hGr hc 413 (hGr hc 1109 x) := by unfold wkA; rw [if_neg (by decide), sh0]
  have rw0 := (RC.2.2.1.2.2 0 (Nat.zero_le _)).2.2
  rw [w0] at rw0
  have i304 : inB 304 2880 = true := by decide
  unfold LP_live M_live
  rw [letH_e, letH_e, show hSi (hSi hm 1201 m 0) 1200 m 0 = mst hm m from rfl, M_isIn_s, bind_s, isIn_c (n := 10000) (by decide) (by decide)]
  rcases isAt_cases sd (n := 10000) (by decide) with q | ⟨j, hj, rfl, q⟩
  · rw [q]
    have hn : ∀ A : Option (Int32 × Hp), (if sd < 0 then (LP_fail Yc x 5 hc).bind fun q2 => some (q2.1, q2.2) else if sd ≤ 9999 then A else (LP_fail Yc x 5 hc).bind fun q18 => some (q18.1, q18.2)) = (LP_fail Yc x 5 hc).bind fun q2 => some (q2.1, q2.2) := by
      intro A
      by_cases e1 : sd < 0
      · rw [if_pos e1]
      · have := isAt_neg (by decide) q e1
        rw [if_neg e1, if_neg]
        intro z
        have z' : sd ≤ nI 9999 := z
        rw [Int32.le_iff_toInt_le, nI_toInt (by decide)] at z'
        rw [Int32.le_iff_toInt_le, nI_toInt (by decide)] at this
        omega
    rw [hn]
    exact SO_q RC RM V (CQ_fail (Cf_rf Yc hc)) (mQ_r (Mg_rf _ _ _))
  · rw [q, if_pos rfl, if_neg (nI_pos (by omega)), if_pos (show nI j ≤ 9999 from nI_le (b := 9999) (by omega) (by decide)), ml1220 X0.1, if_pos i304]
    have e304 : hAi (mst hm m) (hGr (mst hm m) 1220 m) (Int32.toNatClampNeg 304) = sC g 0 304 := MB0 X0.2.1 (i := 304) (by omega)
    rw [e304]
    rcases rw0 with ⟨z1, z2⟩ | ⟨z1, z2, _⟩
    · rw [z1, if_pos (show nI 0 = 0 from rfl), show hGz hc 905 (hGr hc 413 (hGr hc 1109 x)) = false by unfold hGz; rw [z2]; rfl, if_neg (by decide)]
      exact SO_q RC RM V (CQ_fail (Cf_rf Yc hc)) (mQ_r (Mg_rf _ _ _))
    · rw [z1, if_neg (show ¬ nI 1 = 0 by decide), show hGz hc 905 (hGr hc 413 (hGr hc 1109 x)) = true by unfold hGz; rw [z2]; rfl, if_pos rfl]
      obtain ⟨hc', hm', c', tl, dn, e1, e2, E⟩ := run_s (seed := j) RC R0 rfl V z1 (by omega)
      obtain ⟨E1, E2, E3, E4, E5, E6, E7, E8, E9, ⟨E10, E10b, E10c⟩, _⟩ := E
      have o2 : isO Yc 2 (hGr hc 1107 x) := RC.2.1.1 1107 2 rfl x RC.1.1
      rw [e1, bind_s, e2, bind_s, E10, cl200 E1.1 o2, cl1108 E1.1 E1.1.1, if_pos (show cpB 0 0 5 5 5 = true by decide), letH_e, ci_w]
      have S' := E2.1
      have hV : ∀ i, i < 5 → numI (nI (tl i)) ∧ nI (tl i) ≠ m1 := by
        intro i hi
        have := E6 i hi
        exact ⟨Or.inr ⟨tl i, by omega, rfl⟩, by rw [ne_eq, ne_m1 (by omega)]; exact fun z => z⟩
      have C1 := CR_lv E1 E3 (G := va_cpy (hAi hc' (hGr hc' 200 (hGr hc 1107 x))) (hAi hc' (hGr hc' 1108 x)) 0 0 5) (f := fun i => nI (tl i)) (fun i hi => by
        rw [va_cpy, if_pos ⟨Nat.zero_le _, by omega⟩, Nat.sub_zero, Nat.zero_add]
        exact (E9 i hi).1)
      have V1 : VG (wLv (wC0 g c') (fun i => nI (tl i))) := VG_lv E3 hV
      have C2 := CR_C C1 V1 (Cf_si (x := x) (v := 0))
      rw [gi_si, if_pos ⟨rfl, rfl⟩] at C2
      have t : ∀ k, k < 5 → hGi hm' (1239 + k) m = nI (tl k) := fun k hk => (E9 k hk).2
      rw [M_lay5 S' hm' (hAi hm' (hGr hm' 1234 m)) (wi_self _ _).symm, E8]
      refine ⟨nI dn, _, _, ?_, rfl, wSt (wLv (wC0 g c') (fun i => nI (tl i))) (nI 0), C2, MR_lv (f := fun i => nI (tl i)) E2 (fun i hi => ?_), V1⟩
      · unfold LP_give
        rw [gi_wi, gr_wi, E10, E7]
        rfl
      · rcases (show i = 0 ∨ i = 1 ∨ i = 2 ∨ i = 3 ∨ i = 4 by omega) with e | e | e | e | e <;> subst e
        · rw [pk_un (by decide), pk_un (by decide), pk_un (by decide), pk_un (by decide), pk_us]; exact t 0 (by decide)
        · rw [pk_un (by decide), pk_un (by decide), pk_un (by decide), pk_us]; exact t 1 (by decide)
        · rw [pk_un (by decide), pk_un (by decide), pk_us]; exact t 2 (by decide)
        · rw [pk_un (by decide), pk_us]; exact t 3 (by decide)
        · rw [pk_us]; exact t 4 (by decide)
end LIV2
