/-! ===== weeks lived: sequences ===== -/
section SIB
variable {Yc Ym : Ly} {x m : Nat} {kw : Nat → Int64} {g : Sg} {st : Int32} {bf : Nat → Int32} {wd sg th nm pt : Nat → Int32} {R : Nat} {Q : Nat × Nat × Nat × Nat × (Nat → Int32) × Int32} {c0 : Nat → Int32}
theorem wNext {k e W dn dn1 : Nat} (h : k + W * 300 ≤ 5000 + W * dn) (w : k + e + W * dn ≤ k + W * dn1) : k + e + W * 300 ≤ 5000 + W * dn1 := by
  generalize W * dn = A at *
  generalize W * dn1 = B at *
  generalize W * 300 = C at *
  omega
theorem w1 {k d dn : Nat} : k + 1 + (d + 1) * dn ≤ k + (d + 1) * (dn + 1) := by
  have s : (d + 1) * (dn + 1) = (d + 1) * dn + (d + 1) := Nat.mul_succ _ _
  omega
theorem sim_nil {d D lo a : Nat} (ha : a ≤ 30) : SimS Yc Ym x m kw g st bf wd sg th nm pt R Q c0 d D lo lo a a := by
  intro hc hm c r tl dn ρ k F J hk hF h0
  obtain ⟨F, rfl⟩ : ∃ F', F = F' + 1 := ⟨F - 1, by omega⟩
  refine ⟨hm, ?_, Or.inl ⟨hc, c, r, tl, dn, ρ, 0, J, fun F => rfl, Nat.le_refl _, fun h => absurd h (Nat.lt_irrefl _), Nat.le_refl _, fun _ _ => rfl⟩⟩
  rw [M_doAll_L2, if_pos (nI_le (Nat.le_refl _) (by omega))]
theorem sim_cons {d D lo mid hi a e b k F dn r : Nat} {hc hm hm1 : Hp} {c : Nat → Int32} {tl : Nat → Nat} {ρ : Nat → Int32} (rest : SimS Yc Ym x m kw g st bf wd sg th nm pt R Q c0 d D mid hi e b) (hab : a < b) (hae : a < e) (hb : b ≤ 30) (he : e ≤ 30) (hlm : lo < mid) (hmh : mid ≤ hi)
    (J : JL Yc Ym x m kw g st bf wd sg th nm pt R Q c0 hc hm c r tl dn ρ 0) (k8 : c0 (314 + 9 * a) = nI e) (hk : k + (d + 1) * 300 ≤ 5000 + (d + 1) * dn) (hF : b < F + 1 + a)
    (h1 : M_doOne_b Ym (M_doAll Ym D) m (nI a) hm = some hm1) (O : OutN Yc Ym x m kw g st bf wd sg th nm pt R Q c0 hc hm1 lo mid k (d + 1) dn True (fun i => i < lo ∨ mid ≤ i) ρ ∨ OutO Yc Ym x m kw g st bf wd sg th nm pt R Q c0 hc hm1 lo k) :
    ∃ hm', M_doAll_L2 Ym (fun x0 x1 h => M_doOne_b Ym (M_doAll Ym D) x0 x1 h) m (nI b) (F + 1) (nI a) hm = some hm' ∧
      (OutN Yc Ym x m kw g st bf wd sg th nm pt R Q c0 hc hm' lo hi k (d + 1) dn (lo < hi) (fun i => i < lo ∨ hi ≤ i) ρ ∨ OutO Yc Ym x m kw g st bf wd sg th nm pt R Q c0 hc hm' lo k) := by
  have p8 : 306 + 9 * nI a + 8 = nI (314 + 9 * a) := by simp only [zlit, pk_mul, nI_add]; rw [show 306 + 9 * a + 8 = 314 + 9 * a by omega]
  have step : ∀ c' r' tl' dn' ov, LM Ym m (wSt g st) bf hm1 c' r' tl' dn' ov → VG (wC0 g c') → agr c0 c' → M_doAll_L2 Ym (fun x0 x1 h => M_doOne_b Ym (M_doAll Ym D) x0 x1 h) m (nI b) (F + 1) (nI a) hm = M_doAll_L2 Ym (fun x0 x1 h => M_doOne_b Ym (M_doAll Ym D) x0 x1 h) m (nI b) F (nI e) hm1 := by
    intro c' r' tl' dn' ov A V G
    rw [M_doAll_L2, if_neg (nI_ge hab (by omega)), ov_s J.2.1, if_neg (by decide), h1, bind_s, p8, ml1220 (A.mx V).1, if_pos (inB_nI (by omega) (by omega)), nI_clamp (by omega), A.cc V (by omega), G _ (by omega) (by omega), k8]
  rcases O with ⟨hc1, c1, r1, tl1, dn1, ρ1, f, ⟨n1, n2, n3, n4, n5, n6, n7, n8⟩, m2, m3, m4, m5, m6⟩ | ⟨hc1, c1, r1, tl1, dn1, ρ1, f, ⟨n1, n2, n3, n4, n5, n6, n7, n8⟩, m2, m3⟩
  · rw [step _ _ _ _ _ n2 n3 n6]
    obtain ⟨hm2, q1, q2⟩ := rest hc1 hm1 c1 r1 tl1 dn1 ρ1 (k + f) F ⟨n1, n2, n3, n4, n5, n6, n7, n8⟩ (wNext hk m5) (by omega) (by omega)
    refine ⟨hm2, q1, ?_⟩
    rcases q2 with q2 | q2
    · left
      exact OutN_tr (hm1 := hm1) m2 m3 m5 (fun _ => m4 trivial) (fun i hi => ⟨by omega, m6 i (by omega)⟩) q2
    · exact Or.inr (OutO_tr m2 q2)
  · rw [step _ _ _ _ _ n2 n3 n6]
    exact ⟨hm1, L2_over n2 _ _ (by omega), Or.inr ⟨hc1, c1, r1, tl1, dn1, ρ1, f, ⟨n1, n2, n3, n4, n5, n6, n7, n8⟩, m2, m3⟩⟩
section BK
variable {hc hm : Hp} {c : Nat → Int32} {r dn k lo p a e : Nat} {tl : Nat → Nat} {ρ : Nat → Int32}
theorem blkOk_agr {c c' : Nat → Int32} (A : agr c c') {r a : Nat} (h : blkOk wd sg th nm c r a) : blkOk wd sg th nm c' r a := by
  have e2 : cN c' 2 = cN c 2 := A.n (by omega) (by omega)
  unfold blkOk nB at h ⊢
  rw [e2, A (306 + 9 * a) (by omega) (by omega), A (307 + 9 * a) (by omega) (by omega), A (308 + 9 * a) (by omega) (by omega), A (312 + 9 * a) (by omega) (by omega), A (313 + 9 * a) (by omega) (by omega), A.n (show 307 + 9 * a ≠ 9 by omega) (by omega), A.n (show 308 + 9 * a ≠ 9 by omega) (by omega)]
  exact h
theorem rowOk_agr {c c' : Nat → Int32} (A : agr c c') {r a : Nat} (h : rowOk wd sg th nm c r a) : rowOk wd sg th nm c' r a := by
  have e2 : cN c' 2 = cN c 2 := A.n (by omega) (by omega)
  have e3 : cN c' 3 = cN c 3 := A.n (by omega) (by omega)
  have e4 : cN c' 4 = cN c 4 := A.n (by omega) (by omega)
  unfold rowOk nB at h ⊢
  rw [e2, e3, e4, A (306 + 9 * a) (by omega) (by omega), A (307 + 9 * a) (by omega) (by omega), A (308 + 9 * a) (by omega) (by omega), A.n (show 307 + 9 * a ≠ 9 by omega) (by omega), A.n (show 308 + 9 * a ≠ 9 by omega) (by omega)]
  exact h
theorem C_when (A : LC Yc x kw g wd sg th nm pt R Q hc c r tl dn ρ) (V : VG (wC0 g c)) (hdn : dn < 300) (hl : lo < R) (hR : R ≤ 60) (hk : k < 1000000) (B : blkOk wd sg th nm c lo a) (h4 : c (306 + 9 * a) = nI 4) (hpt : pt lo = nI p) (F : Nat) :
    Cl Yc Q (F + 1) lo k hc = if tsB c a = true then Cl Yc Q F (lo + 1) (k + 1) (hSi hc 205 Q.1 (nI (dn + 1))) else Cl Yc Q F (p + 1) (k + 1) (hSi hc 205 Q.1 (nI (dn + 1))) := by
  have A1 := LC_dnq A V (d := dn + 1)
  have wn : wd lo = nI 26 ∨ wd lo = nI 27 ∨ wd lo = nI 3 := by
    rcases B with ⟨e, _⟩ | ⟨_, _, e, _⟩ | ⟨_, _, e, _⟩ | ⟨_, _, e, _⟩
    · rw [h4] at e; exact absurd e (by decide)
    · exact Or.inl e
    · exact Or.inr (Or.inl e)
    · exact Or.inr (Or.inr e)
  have n : wd lo ≠ 29 ∧ wd lo ≠ 30 ∧ wd lo ≠ 21 ∧ wd lo ≠ 24 ∧ wd lo ≠ 22 ∧ wd lo ≠ 23 ∧ wd lo ≠ 28 := by
    rcases wn with e | e | e <;> (rw [e]; decide)
  unfold Cl
  rw [C_st A hl hR hdn hk n.1, if_neg n.2.1, if_neg n.2.2.1, if_neg n.2.2.2.1, C_tk A1 (by omega), if_neg n.2.2.1, if_neg n.2.2.2.2.1, if_neg n.2.2.2.2.2.1, if_neg n.2.2.2.1, if_neg n.2.2.2.2.2.2, Cq_holds A1 V (by omega) B h4, bind_s]
  by_cases z : tsB c a = true
  · rw [if_pos z, if_pos z, bind_s]
  · rw [if_neg z, if_neg z, bind_s, hpt, nI_1]
theorem C_loop (A : LC Yc x kw g wd sg th nm pt R Q hc c r tl dn ρ) (V : VG (wC0 g c)) (hdn : dn < 300) (hl : lo < R) (hp : p < R) (hR : R ≤ 60) (hk : k < 1000000) (w28 : wd lo = nI 28) (hpt : pt lo = nI p) (F : Nat) :
    Cl Yc Q (F + 1) lo k hc = if p = lo + 1 then Cl Yc Q F (p + 1) (k + 1) (hTi (hSi hc 205 Q.1 (nI (dn + 1))) (hGr (hSi hc 205 Q.1 (nI (dn + 1))) 201 Q.1) lo (nm lo)) else Cl Yc Q F (lo + 1) (k + 1) (hTi (hSi hc 205 Q.1 (nI (dn + 1))) (hGr (hSi hc 205 Q.1 (nI (dn + 1))) 201 Q.1) lo (nm lo)) := by
  have A1 := LC_dnq A V (d := dn + 1)
  have A2 := LC_rhoq A1 V (i := lo) (v := nm lo)
  obtain ⟨_, _, _, _, w4, _⟩ := A2.q
  unfold Cl
  rw [C_st A hl hR hdn hk (by rw [w28]; decide), w28, if_neg (by decide), if_neg (by decide), if_neg (by decide), C_tk A1 (by omega), w28, if_neg (by decide), if_neg (by decide), if_neg (by decide), if_neg (by decide), if_pos (show nI 28 = 28 from rfl), letH_e, w4, hpt]
  by_cases z : p = lo + 1
  · rw [if_pos z, if_pos (by rw [z]), bind_s, show nI lo + 2 = nI (p + 1) by rw [z]; simp only [zlit, nI_add]]
  · rw [if_neg z, if_neg (fun w => z ((nI_eq (by omega) (by omega)).mp w)), bind_s]
theorem M_when {rec : Nat → Int32 → Int32 → Hp → Option Hp} (A : LM Ym m (wSt g st) bf hm c r tl dn 0) (V : VG (wC0 g c)) (hdn : dn < 300) (ha : a < 30) (he : e ≤ 30) (B : blkOk wd sg th nm c lo a) (h4 : c (306 + 9 * a) = nI 4) (k8 : c (314 + 9 * a) = nI e) :
    M_doOne_b Ym rec m (nI a) hm = if tsB c a = true then rec m (nI (a + 1)) (nI e) (hSi hm 1238 m (nI (dn + 1))) else some (hSi hm 1238 m (nI (dn + 1))) := by
  have A4 := LM_dn A (v := dn + 1)
  have S := (A4.mx V).1
  have p8 : nI (306 + 9 * a) + 8 = nI (314 + 9 * a) := by simp only [zlit, nI_add]; rw [show 306 + 9 * a + 8 = 314 + 9 * a by omega]
  unfold M_doOne_b
  rw [A.2.2.1, if_neg (show ¬ nI dn = 300 from by intro w; have w' : nI dn = nI 300 := w; rw [nI_eq (by omega) (by omega)] at w'; omega), letH_e, nI_1, show (306 : Int32) + 9 * nI a = nI (306 + 9 * a) by simp only [zlit, pk_mul, nI_add], ml1220 S, if_pos (inB_nI (by omega) (by omega)), nI_clamp (by omega), A4.cc V (by omega), h4, if_pos (by decide), if_pos (show nI 4 = 4 from rfl), M_isSo_s A4 V ha B h4, bind_s]
  by_cases z : tsB c a = true
  · rw [if_pos z, if_pos z, p8, if_pos (inB_nI (by omega) (by omega)), nI_clamp (by omega), A4.cc V (by omega), k8, nI_1]
    cases rec m (nI (a + 1)) (nI e) (hSi hm 1238 m (nI (dn + 1))) <;> rfl
  · rw [if_neg z, if_neg z, M_doOne_J109, if_neg (by decide), if_pos (by decide)]
theorem M_loop {rec : Nat → Int32 → Int32 → Hp → Option Hp} (A : LM Ym m (wSt g st) bf hm c r tl dn 0) (V : VG (wC0 g c)) (hdn : dn < 300) (ha : a < 30) (h5 : c (306 + 9 * a) = nI 5) :
    M_doOne_b Ym rec m (nI a) hm = M_doOne_L117 Ym rec m (nI a) (nI (306 + 9 * a)) FU 0 (hSi hm 1238 m (nI (dn + 1))) := by
  have A4 := LM_dn A (v := dn + 1)
  have S := (A4.mx V).1
  unfold M_doOne_b
  rw [A.2.2.1, if_neg (show ¬ nI dn = 300 from by intro w; have w' : nI dn = nI 300 := w; rw [nI_eq (by omega) (by omega)] at w'; omega), letH_e, nI_1, show (306 : Int32) + 9 * nI a = nI (306 + 9 * a) by simp only [zlit, pk_mul, nI_add], ml1220 S, if_pos (inB_nI (by omega) (by omega)), nI_clamp (by omega), A4.cc V (by omega), h5, if_pos (by decide), if_neg (by decide), M_doOne_J109, if_pos (show nI 5 = 5 from rfl)]
end BK
end SIB
