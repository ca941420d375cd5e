/-! ===== weeks lived: a run ===== -/
section RUN
variable {Yc Ym : Ly} {hc hm : Hp} {x m : Nat} {kw : Nat → Int64} {g : Sg} {st : Int32} {bf : Nat → Int32}
/-- the state behind a run -/
def RunE (Yc Ym : Ly) (x m : Nat) (kw : Nat → Int64) (g : Sg) (st : Int32) (bf : Nat → Int32) (hc hc' hm' : Hp) (c' : Nat → Int32) (tl : Nat → Nat) (dn : Nat) : Prop :=
  CR Yc hc' x kw (wC0 g c') ∧ MR Ym hm' m (wC0 (wSt g st) c') ∧ VG (wC0 g c') ∧ agr (sC g 0) c' ∧ dn ≤ 300 ∧ (∀ i, i < 5 → tl i ≤ 301) ∧ hGi hc' 205 (hGr hc 1107 x) = nI dn ∧ hGi hm' 1238 m = nI dn ∧
  (∀ i, i < 5 → hAi hc' (hGr hc' 200 (hGr hc 1107 x)) i = nI (tl i) ∧ hGi hm' (1239 + i) m = nI (tl i)) ∧ (hGr hc' 1107 x = hGr hc 1107 x ∧ hGr hc' 1109 x = hGr hc 1109 x ∧ hGr hc' 1105 x = hGr hc 1105 x) ∧
  hAi hc' (hGr hc' 203 (hGr hc 1107 x)) = hAi hc (hGr hc 203 (hGr hc 1107 x)) ∧ hGi hc' 204 (hGr hc 1107 x) = hGi hc 204 (hGr hc 1107 x) ∧ hAi hm' (hGr hm' 1221 m) = bf
theorem LM_start (RM : MR Ym hm m g) {seed : Nat} : LM Ym m g (hAi hm (hGr hm 1221 m)) (hSi (hSi (hSi (hSi (hSi (hSi (hSi (hSi hm 1237 m (nI seed)) 1238 m 0) 1239 m 0) 1240 m 0) 1241 m 0) 1242 m 0) 1243 m 0) 1236 m 0) (sC g 0) seed (fun _ => 0) 0 0 := by
  refine ⟨?_, ?_, ?_, fun i hi => ?_, ?_, rfl⟩
  · rw [wC0_self]
    exact MR_fld (MR_fld (MR_fld (MR_fld (MR_fld (MR_fld (MR_fld (MR_fld RM (by omega) (by omega) (Or.inl rfl)) (by omega) (by omega) (Or.inl rfl)) (by omega) (by omega) (Or.inl rfl)) (by omega) (by omega) (Or.inl rfl)) (by omega) (by omega) (Or.inl rfl)) (by omega) (by omega) (Or.inl rfl)) (by omega) (by omega) (Or.inl rfl)) (by omega) (by omega) (Or.inr (Or.inl rfl))
  · rw [gi_si, if_neg (by omega), gi_si, if_neg (by omega), gi_si, if_neg (by omega), gi_si, if_neg (by omega), gi_si, if_neg (by omega), gi_si, if_neg (by omega), gi_si, if_neg (by omega), gi_si, if_pos ⟨rfl, rfl⟩]
  · rw [gi_si, if_neg (by omega), gi_si, if_neg (by omega), gi_si, if_neg (by omega), gi_si, if_neg (by omega), gi_si, if_neg (by omega), gi_si, if_neg (by omega), gi_si, if_pos ⟨rfl, rfl⟩]
    rfl
  · rcases (show i = 0 ∨ i = 1 ∨ i = 2 ∨ i = 3 ∨ i = 4 by omega) with e | e | e | e | e <;> subst e
    · rw [gi_si, if_neg (by omega), gi_si, if_neg (by omega), gi_si, if_neg (by omega), gi_si, if_neg (by omega), gi_si, if_neg (by omega), gi_si, if_pos ⟨rfl, rfl⟩]; rfl
    · rw [gi_si, if_neg (by omega), gi_si, if_neg (by omega), gi_si, if_neg (by omega), gi_si, if_neg (by omega), gi_si, if_pos ⟨rfl, rfl⟩]; rfl
    · rw [gi_si, if_neg (by omega), gi_si, if_neg (by omega), gi_si, if_neg (by omega), gi_si, if_pos ⟨rfl, rfl⟩]; rfl
    · rw [gi_si, if_neg (by omega), gi_si, if_neg (by omega), gi_si, if_pos ⟨rfl, rfl⟩]; rfl
    · rw [gi_si, if_neg (by omega), gi_si, if_pos ⟨rfl, rfl⟩]; rfl
  · rw [gi_si, if_pos ⟨rfl, rfl⟩]
/-- what the class lays before a run -/
theorem LC_start (RC : CR Yc hc x kw g) (V : VG g) {seed R : Nat} (h906 : hGi hc 906 (hGr hc 413 (hGr hc 1109 x)) = nI R) :
    ∃ h', ((J_fillI Yc (hGr hc 200 (hGr hc 1107 x)) 0 hc).bind fun q2 => (J_fillI Yc (hGr q2 202 (hGr hc 1107 x)) (-1) q2).bind fun q4 => some (hSi (hSi q4 205 (hGr hc 1107 x) 0) 206 (hGr hc 1107 x) (nI seed))) = some h' ∧
      LC Yc x kw g (hAi hc (hGr hc 900 (hGr hc 413 (hGr hc 1109 x)))) (hAi hc (hGr hc 901 (hGr hc 413 (hGr hc 1109 x)))) (hAi hc (hGr hc 902 (hGr hc 413 (hGr hc 1109 x)))) (hAi hc (hGr hc 903 (hGr hc 413 (hGr hc 1109 x)))) (hAi hc (hGr hc 904 (hGr hc 413 (hGr hc 1109 x)))) R
        (hGr hc 1107 x, hGr hc 1109 x, hGr hc 413 (hGr hc 1109 x), hGr hc 1105 x, hAi hc (hGr hc 203 (hGr hc 1107 x)), hGi hc 204 (hGr hc 1107 x)) h' (sC g 0) seed (fun _ => 0) 0 (hAi h' (hGr h' 201 (hGr h' 1107 x))) ∧ ∀ f a, hGr h' f a = hGr hc f a := by
  have hx := RC.1.1
  have o2 : isO Yc 2 (hGr hc 1107 x) := RC.2.1.1 1107 2 rfl x hx
  have o4 : isO Yc 4 (hGr hc 1109 x) := RC.2.1.1 1109 4 rfl x hx
  have o9 : isO Yc 9 (hGr hc 413 (hGr hc 1109 x)) := RC.2.1.1 413 9 rfl _ o4
  obtain ⟨G0, e0, f0⟩ := J_fillI_s (Y := Yc) (h := hc) (A := hGr hc 200 (hGr hc 1107 x)) (v := 0) (by rw [cl200 RC.1 o2]; decide)
  obtain ⟨G2, e2, f2⟩ := J_fillI_s (Y := Yc) (h := hWi hc (hGr hc 200 (hGr hc 1107 x)) G0) (A := hGr (hWi hc (hGr hc 200 (hGr hc 1107 x)) G0) 202 (hGr hc 1107 x)) (v := -1) (by rw [gr_wi, cl202 RC.1 o2]; decide)
  rw [cl200 RC.1 o2] at f0
  rw [gr_wi, cl202 RC.1 o2] at f2
  have q0 : Qf Yc 300 hc (hWi hc (hGr hc 200 (hGr hc 1107 x)) G0) := Qf_wi (by decide) rfl o2
  have q1 : Qf Yc 300 hc (hWi (hWi hc (hGr hc 200 (hGr hc 1107 x)) G0) (hGr hc 202 (hGr hc 1107 x)) G2) := Qf_tr q0 (Qf_wi (h := hWi hc (hGr hc 200 (hGr hc 1107 x)) G0) (f := 202) (o := hGr hc 1107 x) (by decide) rfl o2)
  have q : Qf Yc 300 hc (hSi (hSi (hWi (hWi hc (hGr hc 200 (hGr hc 1107 x)) G0) (hGr hc 202 (hGr hc 1107 x)) G2) 205 (hGr hc 1107 x) 0) 206 (hGr hc 1107 x) (nI seed)) := Qf_tr q1 (Qf_tr (Qf_si (by decide)) (Qf_si (by decide)))
  have n02 : hGr hc 200 (hGr hc 1107 x) ≠ hGr hc 202 (hGr hc 1107 x) := fun z => absurd (RC.1.2.2.2.1 200 202 _ _ rfl rfl o2 o2 z).1 (by decide)
  have n30 : hGr hc 203 (hGr hc 1107 x) ≠ hGr hc 200 (hGr hc 1107 x) := fun z => absurd (RC.1.2.2.2.1 203 200 _ _ rfl rfl o2 o2 z).1 (by decide)
  have n32 : hGr hc 203 (hGr hc 1107 x) ≠ hGr hc 202 (hGr hc 1107 x) := fun z => absurd (RC.1.2.2.2.1 203 202 _ _ rfl rfl o2 o2 z).1 (by decide)
  have row : ∀ f, 900 ≤ f → f ≤ 904 → hAi (hSi (hSi (hWi (hWi hc (hGr hc 200 (hGr hc 1107 x)) G0) (hGr hc 202 (hGr hc 1107 x)) G2) 205 (hGr hc 1107 x) 0) 206 (hGr hc 1107 x) (nI seed)) (hGr hc f (hGr hc 413 (hGr hc 1109 x))) = hAi hc (hGr hc f (hGr hc 413 (hGr hc 1109 x))) := by
    intro f h1 h2
    funext i
    refine Qf_ai q RC.1 (by omega) ?_ (by rw [show f / 100 = 9 by omega]; exact o9) i
    rcases (show f = 900 ∨ f = 901 ∨ f = 902 ∨ f = 903 ∨ f = 904 by omega) with e | e | e | e | e <;> (subst e; rfl)
  refine ⟨_, by rw [e0, bind_s, e2, bind_s]; rfl, ⟨?_, ⟨row 900 (by decide) (by decide), row 901 (by decide) (by decide), row 902 (by decide) (by decide), row 903 (by decide) (by decide), row 904 (by decide) (by decide), (q.1 906 _ (by decide)).trans h906⟩, ?_, ?_, fun i hi => ?_, rfl, fun b hb => ?_, ⟨rfl, rfl, rfl, rfl, ?_, ?_⟩⟩, fun _ _ => rfl⟩
  · rw [wC0_self]; exact CR_Q RC V q
  · show hGi (hSi _ 206 (hGr hc 1107 x) (nI seed)) 206 (hGr hc 1107 x) = nI seed
    rw [gi_si, if_pos ⟨rfl, rfl⟩]
  · show hGi (hSi (hSi _ 205 (hGr hc 1107 x) 0) 206 (hGr hc 1107 x) (nI seed)) 205 (hGr hc 1107 x) = nI 0
    rw [gi_si, if_neg (by omega), gi_si, if_pos ⟨rfl, rfl⟩]
    rfl
  · show hAi (hWi (hWi hc (hGr hc 200 (hGr hc 1107 x)) G0) (hGr hc 202 (hGr hc 1107 x)) G2) (hGr hc 200 (hGr hc 1107 x)) i = nI 0
    rw [ai_wi, if_neg n02, ai_wi, if_pos rfl]
    exact f0 i hi
  · left
    have l2 := VC_l2 (V.2.1 0 (Nat.zero_le _)).1
    show hAi (hWi (hWi hc (hGr hc 200 (hGr hc 1107 x)) G0) (hGr hc 202 (hGr hc 1107 x)) G2) (hGr hc 202 (hGr hc 1107 x)) b = m1
    rw [ai_wi, if_pos rfl]
    exact f2 b (by omega)
  · funext i
    show hAi (hWi (hWi hc (hGr hc 200 (hGr hc 1107 x)) G0) (hGr hc 202 (hGr hc 1107 x)) G2) (hGr hc 203 (hGr hc 1107 x)) i = _
    rw [ai_wi, if_neg n32, ai_wi, if_neg n30]
  · show hGi (hSi (hSi _ 205 (hGr hc 1107 x) 0) 206 (hGr hc 1107 x) (nI seed)) 204 (hGr hc 1107 x) = _
    rw [gi_si, if_neg (by omega), gi_si, if_neg (by omega)]
    rfl
theorem run_s (RC : CR Yc hc x kw g) (RM : MR Ym hm m (wSt g st)) (hb : hAi hm (hGr hm 1221 m) = bf) (V : VG g) (hw : sC g 0 304 = nI 1) {seed : Nat} (hs : seed < 65536) :
    ∃ hc' hm' c' tl dn, Li_run Yc (hGr hc 1107 x) (hGr hc 1109 x) (hGr hc 1105 x) (nI seed) hc = some hc' ∧ M_runsWeeks Ym m (nI seed) hm = some hm' ∧ RunE Yc Ym x m kw g st bf hc hc' hm' c' tl dn := by
  have w0 : wkA hc x 0 = hGr hc 413 (hGr hc 1109 x) := by unfold wkA; rw [if_neg (by decide), sh0]
  have rw0 := (RC.2.2.1.2.2 0 (Nat.zero_le _)).2.2
  rw [w0] at rw0
  rcases rw0 with ⟨z, _⟩ | ⟨_, _, R, T, hR, hT, h906, h907, h305, sq⟩
  · rw [hw] at z; exact absurd z (by decide)
  · obtain ⟨h6, e6, A, gr6⟩ := LC_start RC V (seed := seed) h906
    have B := LM_start RM (seed := seed)
    rw [hb] at B
    have V0 : VG (wC0 g (sC g 0)) := by rw [wC0_self]; exact V
    have J : JL Yc Ym x m kw g st bf _ _ _ _ _ R _ (sC g 0) h6 _ (sC g 0) seed (fun _ => 0) 0 _ 0 := ⟨A, B, V0, hs, by omega, agr_rf _, fun i _ => Nat.le_refl _, Nat.zero_le _⟩
    have fu1 : T < FU + 0 := by unfold FU; omega
    have fu2 : 0 < FU := by unfold FU; omega
    obtain ⟨hm', m1', O⟩ := sim (Yc := Yc) (Ym := Ym) (x := x) (m := m) (kw := kw) (g := g) (c0 := sC g 0) hR 64 3 5 0 R 0 T sq (by decide) (Nat.le_refl _) hT h6 _ (sC g 0) seed (fun _ => 0) 0 _ 0 FU J (by decide) fu1 fu2
    clear fu1 fu2
    have em : M_runsWeeks Ym m (nI seed) hm = some hm' := by
      have i305 : inB 305 2880 = true := by decide
      unfold M_runsWeeks
      rw [letH_e, letH_e, letH_e, letH_e, letH_e, letH_e, letH_e, letH_e]
      show (if inB 305 (lnY Ym (hGr hm 1220 m)) = true then _ else none) = _
      rw [ml1220 RM.1, if_pos i305]
      have e5 : hAi (hSz (hSi (hSi (hSi (hSi (hSi (hSi (hSi hm 1237 m (nI seed)) 1238 m 0) 1239 m 0) 1240 m 0) 1241 m 0) 1242 m 0) 1243 m 0) 1236 m false) (hGr hm 1220 m) (Int32.toNatClampNeg 305) = nI T := by
        have := (B.mx V0).2.1
        exact (MB0 this (i := 305) (by omega)).trans h305
      have e5' : hAi (hSz (hSi (hSi (hSi (hSi (hSi (hSi (hSi hm 1237 m (nI seed)) 1238 m 0) 1239 m 0) 1240 m 0) 1241 m 0) 1242 m 0) 1243 m 0) 1236 m false) (hGr (hSz (hSi (hSi (hSi (hSi (hSi (hSi (hSi hm 1237 m (nI seed)) 1238 m 0) 1239 m 0) 1240 m 0) 1241 m 0) 1242 m 0) 1243 m 0) 1236 m false) 1220 m) (Int32.toNatClampNeg 305) = nI T := e5
      rw [e5']
      show (M_doAll Ym 6 m (nI 0) (nI T) _).bind _ = _
      rw [show M_doAll Ym 6 m (nI 0) (nI T) (hSz (hSi (hSi (hSi (hSi (hSi (hSi (hSi hm 1237 m (nI seed)) 1238 m 0) 1239 m 0) 1240 m 0) 1241 m 0) 1242 m 0) 1243 m 0) 1236 m false) = some hm' from m1', bind_s]
    have ec : Li_run Yc (hGr hc 1107 x) (hGr hc 1109 x) (hGr hc 1105 x) (nI seed) hc = Cl Yc (hGr hc 1107 x, hGr hc 1109 x, hGr hc 413 (hGr hc 1109 x), hGr hc 1105 x, hAi hc (hGr hc 203 (hGr hc 1107 x)), hGi hc 204 (hGr hc 1107 x)) FU 0 0 h6 := by
      unfold Li_run
      revert e6
      cases J_fillI Yc (hGr hc 200 (hGr hc 1107 x)) 0 hc with
      | none => intro e6; cases e6
      | some q2 =>
        rw [bind_s, bind_s]
        cases J_fillI Yc (hGr q2 202 (hGr hc 1107 x)) (-1) q2 with
        | none => intro e6; cases e6
        | some q4 =>
          intro e6
          rw [bind_s] at e6
          have e6' := Option.some.inj e6
          subst e6'
          rw [bind_s, letH_e, letH_e, gr6]
          rfl
    have fin : ∀ wd sg th nm pt hc' c' r' tl' dn' ρ' ov, JL Yc Ym x m kw g st bf wd sg th nm pt R (hGr hc 1107 x, hGr hc 1109 x, hGr hc 413 (hGr hc 1109 x), hGr hc 1105 x, hAi hc (hGr hc 203 (hGr hc 1107 x)), hGi hc 204 (hGr hc 1107 x)) (sC g 0) hc' hm' c' r' tl' dn' ρ' ov → RunE Yc Ym x m kw g st bf hc hc' hm' c' tl' dn' := by
      intro wd sg th nm pt hc' c' r' tl' dn' ρ' ov n
      obtain ⟨n1, n2, n3, n4, n5, n6, n7, n8⟩ := n
      obtain ⟨p1, p2, p3, p4, p5, p6⟩ := n1.2.2.2.2.2.2.2
      refine ⟨n1.1, n2.1, n3, n6, n5, fun i hi => ?_, n1.q.2.2.2.2.2.2.1, n2.2.2.1, fun i hi => ⟨?_, n2.2.2.2.1 i hi⟩, ⟨p1, p2, p4⟩, ?_, ?_, n2.2.2.2.2.2⟩
      · by_cases z : i = 4
        · rw [z]; omega
        · have := n7 i (by omega); omega
      · have := n1.2.2.2.2.1 i hi
        rw [p1] at this
        exact this
      · rw [p1] at p5; exact p5
      · rw [p1] at p6; exact p6
    rcases O with ⟨hc', c', r', tl', dn', ρ', e, n, o2, o3, _, o5, _⟩ | ⟨hc', c', r', tl', dn', ρ', e, n, o2, o3⟩
    · have hdn := n.2.2.2.2.1
      have he : e ≤ 1200 := by omega
      refine ⟨hc', hm', c', tl', dn', ?_, em, fin _ _ _ _ _ _ _ _ _ _ _ _ n⟩
      rw [ec]
      obtain ⟨F, hF⟩ : ∃ F, FU = F + 1 + e := ⟨4000000 - (1 + e), by unfold FU; omega⟩
      rw [hF, o2]
      have hn : We_hasRow Yc (hGr hc 413 (hGr hc 1109 x)) (nI R) hc' = some false := by
        have w5 := n.1.q.2.2.2.2.2.1
        unfold We_hasRow
        rw [if_neg (nI_pos (by omega)), show hGi hc' 906 (hGr hc 413 (hGr hc 1109 x)) = nI R from w5, if_pos (nI_le (Nat.le_refl _) (by omega))]
      unfold Cl
      rw [Li_run_L38, if_neg (show ¬ (1000000 : Int32) ≤ nI (0 + e) from nI_ge (b := 1000000) (by omega) (by omega)), hn, bind_s, if_neg (by decide)]
    · refine ⟨hc', hm', c', tl', dn', ?_, em, fin _ _ _ _ _ _ _ _ _ _ _ _ n⟩
      rw [ec]
      obtain ⟨F, hF⟩ : ∃ F, FU = F + e := ⟨4000000 - e, by unfold FU; omega⟩
      rw [hF, o3]
end RUN
