/-! ===== weeks lived: all steps ===== -/
section SIM
variable {Yc Ym : Ly} {x m : Nat} {kw : Nat → Int64} {g : Sg} {st : Int32} {bf : Nat → Int32} {wd sg th nm pt : Nat → Int32} {R : Nat} {Q : Nat × Nat × Nat × Nat × (Nat → Int32) × Int32} {c0 : Nat → Int32}
/-- what is shown of a sequence -/
def SimS (Yc Ym : Ly) (x m : Nat) (kw : Nat → Int64) (g : Sg) (st : Int32) (bf : Nat → Int32) (wd sg th nm pt : Nat → Int32) (R : Nat) (Q : Nat × Nat × Nat × Nat × (Nat → Int32) × Int32) (c0 : Nat → Int32) (d D lo hi a b : Nat) : Prop :=
  ∀ hc hm c r tl dn ρ k F, JL Yc Ym x m kw g st bf wd sg th nm pt R Q c0 hc hm c r tl dn ρ 0 → k + (d + 1) * 300 ≤ 5000 + (d + 1) * dn → b < F + a → 0 < F →
    ∃ hm', M_doAll_L2 Ym (fun x0 x1 h => M_doOne_b Ym (M_doAll Ym D) x0 x1 h) m (nI b) F (nI a) hm = some hm' ∧
      (OutN Yc Ym x m kw g st bf wd sg th nm pt R Q c0 hc hm' lo hi k (d + 1) dn (lo < hi) (fun i => i < lo ∨ hi ≤ i) ρ ∨ OutO Yc Ym x m kw g st bf wd sg th nm pt R Q c0 hc hm' lo k)
theorem JL_k {hc hm : Hp} {c : Nat → Int32} {r dn k W : Nat} {tl : Nat → Nat} {ρ : Nat → Int32} {ov : Int32} (J : JL Yc Ym x m kw g st bf wd sg th nm pt R Q c0 hc hm c r tl dn ρ ov) (h : k + W * 300 ≤ 5000 + W * dn) : k ≤ 5000 := by
  have := Nat.mul_le_mul_left W J.2.2.2.2.1
  omega
theorem ov_s {hm : Hp} {c : Nat → Int32} {r dn : Nat} {tl : Nat → Nat} {ov : Int32} (A : LM Ym m (wSt g st) bf hm c r tl dn ov) : hGz hm 1236 m = (ov == 1) := by
  unfold hGz
  rw [A.2.2.2.2.1]
/-- the rest of a sequence when all is over -/
theorem L2_over {rec : Nat → Int32 → Hp → Option Hp} {hm : Hp} {c : Nat → Int32} {r dn : Nat} {tl : Nat → Nat} (A : LM Ym m (wSt g st) bf hm c r tl dn 1) (b s : Int32) {F : Nat} (hF : 0 < F) : M_doAll_L2 Ym rec m b F s hm = some hm := by
  obtain ⟨F, rfl⟩ : ∃ F', F = F' + 1 := ⟨F - 1, by omega⟩
  rw [M_doAll_L2, ov_s A]
  by_cases e : b ≤ s
  · rw [if_pos e]
  · rw [if_neg e, if_pos (show ((1 : Int32) == 1) = true from rfl)]
theorem OutN_tr {hc hc1 hm1 hm2 : Hp} {lo mid hi k e1 W dn dn1 : Nat} {sp : Prop} {P P1 : Nat → Prop} {ρ ρ1 : Nat → Int32}
    (hcl : ∀ F, Cl Yc Q (F + e1) lo k hc = Cl Yc Q F mid (k + e1) hc1) (d1 : dn ≤ dn1) (hw : k + e1 + W * dn ≤ k + W * dn1) (hst : sp → dn < dn1) (hP : ∀ i, P i → P1 i ∧ ρ1 i = ρ i) {sp1 : Prop}
    (N : OutN Yc Ym x m kw g st bf wd sg th nm pt R Q c0 hc1 hm2 mid hi (k + e1) W dn1 sp1 P1 ρ1) : OutN Yc Ym x m kw g st bf wd sg th nm pt R Q c0 hc hm2 lo hi k W dn sp P ρ := by
  obtain ⟨hc', c', r', tl', dn', ρ', e, n1, n2, n3, n4, n5, n6⟩ := N
  refine ⟨hc', c', r', tl', dn', ρ', e1 + e, n1, fun F => ?_, by omega, fun h => by have := hst h; omega, by omega, fun i hi => (n6 i (hP i hi).1).trans (hP i hi).2⟩
  rw [show F + (e1 + e) = (F + e) + e1 by omega, hcl, n2, show k + e1 + e = k + (e1 + e) by omega]
theorem OutO_tr {hc hc1 hm2 : Hp} {lo mid k e1 : Nat} (hcl : ∀ F, Cl Yc Q (F + e1) lo k hc = Cl Yc Q F mid (k + e1) hc1) (N : OutO Yc Ym x m kw g st bf wd sg th nm pt R Q c0 hc1 hm2 mid (k + e1)) : OutO Yc Ym x m kw g st bf wd sg th nm pt R Q c0 hc hm2 lo k := by
  obtain ⟨hc', c', r', tl', dn', ρ', e, n1, n2, n3⟩ := N
  refine ⟨hc', c', r', tl', dn', ρ', e1 + e, n1, by omega, fun F => ?_⟩
  rw [show F + (e1 + e) = (F + e) + e1 by omega, hcl, n3]
theorem wIn {k d dn : Nat} (h : k + (d + 2) * 300 ≤ 5000 + (d + 2) * dn) (hd : dn ≤ 300) : k + (d + 1) * 300 ≤ 5000 + (d + 1) * dn := by
  have s2 : (d + 2) * dn = (d + 1) * dn + dn := Nat.succ_mul (d + 1) dn
  have s3 : (d + 2) * 300 = (d + 1) * 300 + 300 := Nat.succ_mul (d + 1) 300
  rw [s2, s3] at h
  clear s2 s3
  generalize (d + 1) * dn = Z at *
  generalize (d + 1) * 300 = U at *
  omega
/-- rounds of a loop -/
theorem simL {d D lo p a e cnt : Nat} (hD : d ≤ D) (S : SimS Yc Ym x m kw g st bf wd sg th nm pt R Q c0 d D (lo + 1) p (a + 1) e) (ne : lo + 1 < p) (hp : p < R) (hR : R ≤ 60) (ha : a < 30) (he : e ≤ 30) (hae : a < e)
    (hcnt : cnt < 100) (k1 : c0 (307 + 9 * a) = nI cnt) (k8 : c0 (314 + 9 * a) = nI e) (hpt : pt p = nI lo) (w29 : wd p = nI 29) (w28 : wd lo = nI 28) :
    ∀ (j : Nat), 0 < j → j ≤ cnt → ∀ hc hm c r tl dn ρ k F, JL Yc Ym x m kw g st bf wd sg th nm pt R Q c0 hc hm c r tl dn ρ 0 → ρ lo = nI j → k + (d + 2) * 300 ≤ 5000 + (d + 2) * dn → j < F →
    ∃ hm', M_doOne_L117 Ym (M_doAll Ym (D + 1)) m (nI a) (nI (306 + 9 * a)) F (nI (cnt - j)) hm = some hm' ∧
      (OutN Yc Ym x m kw g st bf wd sg th nm pt R Q c0 hc hm' (lo + 1) (p + 1) k (d + 2) dn False (fun i => i < lo ∨ p + 1 ≤ i) ρ ∨ OutO Yc Ym x m kw g st bf wd sg th nm pt R Q c0 hc hm' (lo + 1) k) := by
  intro j
  induction j with
  | zero => intro h; omega
  | succ j ih =>
    intro _ hj hc hm c r tl dn ρ k F J hρ hk hF
    obtain ⟨F, rfl⟩ : ∃ F', F = F' + 1 := ⟨F - 1, by omega⟩
    obtain ⟨JC, JM, JV, Jr, Jd, Ja, Jt, Jt4⟩ := J
    have J : JL Yc Ym x m kw g st bf wd sg th nm pt R Q c0 hc hm c r tl dn ρ 0 := ⟨JC, JM, JV, Jr, Jd, Ja, Jt, Jt4⟩
    have p1 : nI (306 + 9 * a) + 1 = nI (307 + 9 * a) := by simp only [zlit, nI_add]; rw [show 306 + 9 * a + 1 = 307 + 9 * a by omega]
    have p8 : nI (306 + 9 * a) + 8 = nI (314 + 9 * a) := by simp only [zlit, nI_add]; rw [show 306 + 9 * a + 8 = 314 + 9 * a by omega]
    have kk := JL_k J hk
    have e1 : c (307 + 9 * a) = nI cnt := by rw [Ja _ (by omega) (by omega)]; exact k1
    have e8 : c (314 + 9 * a) = nI e := by rw [Ja _ (by omega) (by omega)]; exact k8
    have SM := (JM.mx JV).1
    have s2 : (d + 2) * dn = (d + 1) * dn + dn := Nat.succ_mul (d + 1) dn
    have hh := wIn hk Jd
    have S1 := S hc hm c r tl dn ρ k FU J hh
    obtain ⟨hm1, m1, O⟩ := S1 (by unfold FU; omega) (by unfold FU; omega)
    clear S1
    have step : M_doOne_L117 Ym (M_doAll Ym (D + 1)) m (nI a) (nI (306 + 9 * a)) (F + 1) (nI (cnt - (j + 1))) hm = M_doOne_L117 Ym (M_doAll Ym (D + 1)) m (nI a) (nI (306 + 9 * a)) F (nI (cnt - j)) hm1 := by
      rw [M_doOne_L117, p1, p8, ml1220 SM, if_pos (inB_nI (by omega) (by omega)), nI_clamp (by omega), JM.cc JV (by omega), e1, if_neg (nI_ge (by omega) (by omega)), ov_s JM, if_neg (by decide), if_pos (inB_nI (by omega) (by omega)), nI_clamp (by omega), JM.cc JV (by omega), e8, nI_1, nI_1]
      rw [show M_doAll Ym (D + 1) m (nI (a + 1)) (nI e) hm = some hm1 from m1, bind_s, show cnt - (j + 1) + 1 = cnt - j by omega]
    rw [step]
    rcases O with N | O
    · obtain ⟨hc1, c1, r1, tl1, dn1, ρ1, f, n1, n2, n3, n4, n5, n6⟩ := N
      obtain ⟨NC, NM, NV, Nr, Nd, Na, Nt, Nt4⟩ := n1
      have lt := n4 ne
      have t1 : (d + 2) * dn1 = (d + 1) * dn1 + dn1 := Nat.succ_mul (d + 1) dn1
      have t2 := Nat.mul_le_mul_left (d + 1) (show dn ≤ dn1 from n3)
      have kf : k + f ≤ 5000 := by
        have := Nat.mul_le_mul_left (d + 1) Nd
        omega
      have hρ1 : ρ1 lo = nI (j + 1) := (n6 lo (Or.inl (by omega))).trans hρ
      have sub : ρ1 lo - 1 = nI j := by rw [hρ1, show (1 : Int32) = nI 1 from rfl, pk_sub (by omega), show j + 1 - 1 = j by omega]
      have bh := C_behind NC hp (show lo < R by omega) hR hpt
      rw [w28, if_pos (show nI 28 = 28 from rfl), sub] at bh
      have NC2 := LC_rhoq NC NV (i := lo) (v := nI j)
      have J2 : ∀ hh, LM Ym m (wSt g st) bf hh c1 r1 tl1 dn1 0 → JL Yc Ym x m kw g st bf wd sg th nm pt R Q c0 (hTi hc1 (hGr hc1 201 Q.1) lo (nI j)) hh c1 r1 tl1 dn1 (upd ρ1 lo (nI j)) 0 := fun hh NM' => ⟨NC2, NM', NV, Nr, Nd, Na, Nt, Nt4⟩
      by_cases hj0 : j = 0
      · subst hj0
        rw [if_pos (show nI 0 ≤ 0 by decide)] at bh
        have SM1 := (NM.mx NV).1
        have e1' : c1 (307 + 9 * a) = nI cnt := by rw [Na _ (by omega) (by omega)]; exact k1
        obtain ⟨F, rfl⟩ : ∃ F', F = F' + 1 := ⟨F - 1, by omega⟩
        refine ⟨hm1, ?_, Or.inl ⟨_, _, _, _, _, _, f + 1, J2 hm1 NM, fun F => ?_, by omega, fun h => absurd h (fun h => h), by omega, fun i hi => ?_⟩⟩
        · rw [M_doOne_L117, p1, ml1220 SM1, if_pos (inB_nI (by omega) (by omega)), nI_clamp (by omega), NM.cc NV (by omega), e1', if_pos (nI_le (by omega) (by omega))]
        · rw [show F + (f + 1) = (F + 1) + f by omega, n2]
          unfold Cl
          rw [C_end0 NC hp hR (by omega) w29, bh, bind_s]
          rfl
        · rw [pk_un (by omega)]
          exact n6 i (by omega)
      · rw [if_neg (show ¬ nI j ≤ 0 from fun w => nI_ge (a := 0) (b := j) (by omega) (by omega) w)] at bh
        have hcl : ∀ F, Cl Yc Q (F + (f + 1)) (lo + 1) k hc = Cl Yc Q F (lo + 1) (k + (f + 1)) (hTi hc1 (hGr hc1 201 Q.1) lo (nI j)) := by
          intro F
          rw [show F + (f + 1) = (F + 1) + f by omega, n2]
          unfold Cl
          rw [C_end0 NC hp hR (by omega) w29, bh, bind_s]
          rfl
        obtain ⟨hm2, m2, O2⟩ := ih (by omega) (by omega) _ hm1 c1 r1 tl1 dn1 (upd ρ1 lo (nI j)) (k + (f + 1)) F (J2 hm1 NM) (by rw [pk_us]) (by omega) (by omega)
        refine ⟨hm2, m2, ?_⟩
        rcases O2 with N2 | O2
        · left
          exact OutN_tr (hm1 := hm1) hcl (by omega) (by omega) (fun h => absurd h (fun h => h)) (fun i hi => ⟨hi, by rw [pk_un (by omega)]; exact n6 i (by omega)⟩) N2
        · exact Or.inr (OutO_tr hcl O2)
    · obtain ⟨hc1, c1, r1, tl1, dn1, ρ1, f, n1, n2, n3⟩ := O
      obtain ⟨NC, NM, NV, Nr, Nd, Na, Nt, Nt4⟩ := n1
      have SM1 := (NM.mx NV).1
      have e1' : c1 (307 + 9 * a) = nI cnt := by rw [Na _ (by omega) (by omega)]; exact k1
      obtain ⟨F, rfl⟩ : ∃ F', F = F' + 1 := ⟨F - 1, by omega⟩
      refine ⟨hm1, ?_, Or.inr ⟨hc1, c1, r1, tl1, dn1, ρ1, f, ⟨NC, NM, NV, Nr, Nd, Na, Nt, Nt4⟩, n2, n3⟩⟩
      rw [M_doOne_L117, p1, ml1220 SM1, if_pos (inB_nI (by omega) (by omega)), nI_clamp (by omega), NM.cc NV (by omega), e1', ov_s NM]
      by_cases z : nI cnt ≤ nI (cnt - j)
      · rw [if_pos z]
      · rw [if_neg z, if_pos (show ((1 : Int32) == 1) = true from rfl)]
/-- a loop with nothing in it -/
theorem simE {D a cnt : Nat} {hm : Hp} {c : Nat → Int32} {r dn : Nat} {tl : Nat → Nat} (JM : LM Ym m (wSt g st) bf hm c r tl dn 0) (JV : VG (wC0 g c)) (ha : a < 30) (hcnt : cnt < 100) (e1 : c (307 + 9 * a) = nI cnt) (e8 : c (314 + 9 * a) = nI (a + 1)) :
    M_doOne_L117 Ym (M_doAll Ym (D + 1)) m (nI a) (nI (306 + 9 * a)) FU 0 hm = some hm := by
  have p1 : nI (306 + 9 * a) + 1 = nI (307 + 9 * a) := by simp only [zlit, nI_add]; rw [show 306 + 9 * a + 1 = 307 + 9 * a by omega]
  have p8 : nI (306 + 9 * a) + 8 = nI (314 + 9 * a) := by simp only [zlit, nI_add]; rw [show 306 + 9 * a + 8 = 314 + 9 * a by omega]
  have SM := (JM.mx JV).1
  have m0 : M_doAll Ym (D + 1) m (nI (a + 1)) (nI (a + 1)) hm = some hm := by
    show M_doAll_L2 Ym (fun x0 x1 h => M_doOne_b Ym (M_doAll Ym D) x0 x1 h) m (nI (a + 1)) FU (nI (a + 1)) hm = some hm
    obtain ⟨F, hF⟩ : ∃ F', FU = F' + 1 := ⟨FU - 1, by unfold FU; omega⟩
    rw [hF, M_doAll_L2, if_pos (nI_le (Nat.le_refl _) (by omega))]
  refine upl (Q := fun q => q = some hm) (fun F i (_ : Unit) => M_doOne_L117 Ym (M_doAll Ym (D + 1)) m (nI a) (nI (306 + 9 * a)) F (nI i) hm) cnt (fun _ _ => True) ?_ ?_ cnt 0 () FU (by omega) (by unfold FU; omega) trivial
  · intro F i _ hi _
    right
    refine ⟨(), ?_, trivial⟩
    show M_doOne_L117 Ym (M_doAll Ym (D + 1)) m (nI a) (nI (306 + 9 * a)) (F + 1) (nI i) hm = M_doOne_L117 Ym (M_doAll Ym (D + 1)) m (nI a) (nI (306 + 9 * a)) F (nI (i + 1)) hm
    rw [M_doOne_L117, p1, p8, ml1220 SM, if_pos (inB_nI (by omega) (by omega)), nI_clamp (by omega), JM.cc JV (by omega), e1, if_neg (nI_ge hi (by omega)), ov_s JM, if_neg (by decide), if_pos (inB_nI (by omega) (by omega)), nI_clamp (by omega), JM.cc JV (by omega), e8, nI_1, nI_1, m0, bind_s]
  · intro F _ _
    show M_doOne_L117 Ym (M_doAll Ym (D + 1)) m (nI a) (nI (306 + 9 * a)) (F + 1) (nI cnt) hm = _
    rw [M_doOne_L117, p1, ml1220 SM, if_pos (inB_nI (by omega) (by omega)), nI_clamp (by omega), JM.cc JV (by omega), e1, if_pos (nI_le (Nat.le_refl _) (by omega))]
end SIM
