/-! ===== weeks lived: the simulation ===== -/
section SIM2
variable {Yc Ym : Ly} {x m : Nat} {kw : Nat → Int64} {g : Sg} {st : Int32} {bf : Nat → Int32} {wd sg th nm pt : Nat → Int32} {R : Nat} {Q : Nat × Nat × Nat × Nat × (Nat → Int32) × Int32} {c0 : Nat → Int32}
theorem SQ_nil {c : Nat → Int32} {n d lo a b : Nat} (h : SQ wd sg th nm pt c n d lo lo a b) : a = b := by
  cases n with
  | zero => exact h.2
  | succ n =>
    rw [SQ] at h
    rcases h with h | ⟨_, h, _⟩
    · exact h.2
    · exact absurd h (Nat.lt_irrefl _)
theorem wB {k d dn : Nat} (h : k + (d + 2) * 300 ≤ 5000 + (d + 2) * dn) (hd : dn < 300) : k + 1 + (d + 1) * 300 ≤ 5000 + (d + 1) * (dn + 1) := by
  have h1 := wIn h (Nat.le_of_lt hd)
  clear h
  have s : (d + 1) * (dn + 1) = (d + 1) * dn + (d + 1) := Nat.mul_succ _ _
  rw [s]
  generalize (d + 1) * dn = A at *
  generalize (d + 1) * 300 = B at *
  omega
theorem wL {k W dn : Nat} (h : k + W * 300 ≤ 5000 + W * dn) (hW : 0 < W) : k + 1 + W * 300 ≤ 5000 + W * (dn + 1) := by
  have s : W * (dn + 1) = W * dn + W := Nat.mul_succ _ _
  rw [s]
  generalize W * dn = A at *
  generalize W * 300 = B at *
  omega
theorem w2 {k f d dn dn1 : Nat} (h : k + 1 + f + (d + 1) * (dn + 1) ≤ k + 1 + (d + 1) * dn1) (hd : dn + 1 ≤ dn1) : k + (1 + f + 1) + (d + 2) * dn ≤ k + (d + 2) * dn1 := by
  have s : (d + 1) * (dn + 1) = (d + 1) * dn + (d + 1) := Nat.mul_succ _ _
  have s1 : (d + 2) * dn = (d + 1) * dn + dn := Nat.succ_mul (d + 1) dn
  have s2 : (d + 2) * dn1 = (d + 1) * dn1 + dn1 := Nat.succ_mul (d + 1) dn1
  rw [s] at h
  rw [s1, s2]
  generalize (d + 1) * dn = A at *
  generalize (d + 1) * dn1 = B at *
  omega
/-- one that meets the limit -/
theorem sim_cut {rec : Nat → Int32 → Int32 → Hp → Option Hp} {hc hm : Hp} {c : Nat → Int32} {r k lo a : Nat} {tl : Nat → Nat} {ρ : Nat → Int32} (J : JL Yc Ym x m kw g st bf wd sg th nm pt R Q c0 hc hm c r tl 300 ρ 0) (hl : lo < R) (hR : R ≤ 60) (hk : k ≤ 5000) (n29 : wd lo ≠ 29) :
    ∃ hm1, M_doOne_b Ym rec m (nI a) hm = some hm1 ∧ OutO Yc Ym x m kw g st bf wd sg th nm pt R Q c0 hc hm1 lo k := by
  obtain ⟨JC, JM, JV, Jr, Jd, Ja, Jt, Jt4⟩ := J
  obtain ⟨hm1, h1, h2⟩ := M_cutOff (a := a) (rec := rec) JM
  obtain ⟨hc1, g1, g2⟩ := C_cutOff (k := k) JC JV hl hR (by omega) n29
  refine ⟨hm1, h1, hc1, c, r, _, 300, ρ, 1, ⟨g2, h2, JV, Jr, Nat.le_refl _, Ja, fun i hi => ?_, ?_⟩, by omega, fun F => g1 F⟩
  · show (if i = 4 then 1 else tl i) ≤ 300
    rw [if_neg (by omega)]
    exact Jt i hi
  · show (if 4 = 4 then 1 else tl 4) ≤ 1
    rw [if_pos rfl]
    exact Nat.le_refl _
theorem sim (hR : R ≤ 60) : ∀ n d D lo hi a b, SQ wd sg th nm pt c0 n d lo hi a b → d ≤ D → hi ≤ R → b ≤ 30 → SimS Yc Ym x m kw g st bf wd sg th nm pt R Q c0 d D lo hi a b := by
  intro n
  induction n with
  | zero =>
    intro d D lo hi a b h hd hh hb
    obtain ⟨h1, h2⟩ := h
    subst h1
    subst h2
    exact sim_nil hb
  | succ n ih =>
    intro d D lo hi a b h hd hh hb
    rw [SQ] at h
    rcases h with ⟨h1, h2⟩ | ⟨hab, hlh, ⟨rB, k8, rest⟩ | ⟨bB, h0d, p, e, q1, q2, q3, q4, q5, q6, q7, q8, q9, q10⟩⟩
    · subst h1
      subst h2
      exact sim_nil hb
    · have R1 := ih d D (lo + 1) hi (a + 1) b rest hd hh hb
      intro hc hm c r tl dn ρ k F J hk hF h0
      obtain ⟨F, rfl⟩ : ∃ F', F = F' + 1 := ⟨F - 1, by omega⟩
      have kk := JL_k J hk
      have main : ∃ hm1, M_doOne_b Ym (M_doAll Ym D) m (nI a) hm = some hm1 ∧ (OutN Yc Ym x m kw g st bf wd sg th nm pt R Q c0 hc hm1 lo (lo + 1) k (d + 1) dn True (fun i => i < lo ∨ lo + 1 ≤ i) ρ ∨ OutO Yc Ym x m kw g st bf wd sg th nm pt R Q c0 hc hm1 lo k) := by
        obtain ⟨JC, JM, JV, Jr, Jd, Ja, Jt, Jt4⟩ := J
        have J : JL Yc Ym x m kw g st bf wd sg th nm pt R Q c0 hc hm c r tl dn ρ 0 := ⟨JC, JM, JV, Jr, Jd, Ja, Jt, Jt4⟩
        have B := rowOk_agr Ja rB
        by_cases hdn : dn = 300
        · subst hdn
          obtain ⟨hm1, h1, h2⟩ := sim_cut (a := a) (rec := M_doAll Ym D) J (show lo < R by omega) hR kk (w29 (Or.inl B))
          exact ⟨hm1, h1, Or.inr h2⟩
        · have hdn' : dn < 300 := by omega
          by_cases k6 : c (306 + 9 * a) = nI 6
          · obtain ⟨hm1, h1, h2⟩ := M_stop (rec := M_doAll Ym D) JM JV hdn' (show a < 30 by omega) k6
            have w30 : wd lo = nI 30 := by
              rcases B with ⟨e, _⟩ | ⟨e, _⟩ | ⟨e, _⟩ | ⟨e, _⟩ | ⟨_, e⟩
              · rw [k6] at e; exact absurd e (by decide)
              · rw [k6] at e; exact absurd e (by decide)
              · rw [k6] at e; exact absurd e (by decide)
              · rw [k6] at e; exact absurd e (by decide)
              · exact e
            refine ⟨hm1, h1, Or.inr ⟨_, c, r, tl, dn + 1, ρ, 1, ⟨LC_dnq JC JV, h2, JV, Jr, by omega, Ja, fun i hi => by have := Jt i hi; omega, Jt4⟩, by omega, fun F => ?_⟩⟩
            unfold Cl
            rw [C_st JC (show lo < R by omega) hR hdn' (by omega) (w29 (Or.inl B)), w30, if_pos (show nI 30 = 30 from rfl)]
          · obtain ⟨hm1, h1, h2⟩ := M_row (rec := M_doAll Ym D) JM JV Jr hdn' (show a < 30 by omega) B k6
            obtain ⟨hc1, g1, g2⟩ := C_row (k := k) JC JV Jr hdn' (show lo < R by omega) hR B k6 (by omega)
            obtain ⟨o1, o2, o3, o4, o5⟩ := nx_ok (tl := tl) JV Jr B k6
            refine ⟨hm1, h1, Or.inl ⟨hc1, _, _, _, dn + 1, ρ, 1, ⟨g2, h2, o1, o3, by omega, agr_tr Ja o2, fun i hi => by have := Jt i hi; have := o4 i; omega, by rw [o5]; exact Jt4⟩, fun F => g1 F, by omega, fun _ => by omega, w1, fun _ _ => rfl⟩⟩
      obtain ⟨hm1, h1, O⟩ := main
      exact sim_cons R1 hab (by omega) hb (by omega) (by omega) (by omega) J k8 hk (by omega) h1 O
    · obtain ⟨d, rfl⟩ : ∃ d', d = d' + 1 := ⟨d - 1, by omega⟩
      obtain ⟨D, rfl⟩ : ∃ D', D = D' + 1 := ⟨D - 1, by omega⟩
      have R1 := ih (d + 1) (D + 1) (p + 1) hi e b q10 hd hh hb
      have R2 := ih d D (lo + 1) p (a + 1) e q9 (by omega) (by omega) (by omega)
      intro hc hm c r tl dn ρ k F J hk hF h0
      obtain ⟨F, rfl⟩ : ∃ F', F = F' + 1 := ⟨F - 1, by omega⟩
      have kk := JL_k J hk
      have main : ∃ hm1, M_doOne_b Ym (M_doAll Ym (D + 1)) m (nI a) hm = some hm1 ∧ (OutN Yc Ym x m kw g st bf wd sg th nm pt R Q c0 hc hm1 lo (p + 1) k (d + 2) dn True (fun i => i < lo ∨ p + 1 ≤ i) ρ ∨ OutO Yc Ym x m kw g st bf wd sg th nm pt R Q c0 hc hm1 lo k) := by
        obtain ⟨JC, JM, JV, Jr, Jd, Ja, Jt, Jt4⟩ := J
        have J : JL Yc Ym x m kw g st bf wd sg th nm pt R Q c0 hc hm c r tl dn ρ 0 := ⟨JC, JM, JV, Jr, Jd, Ja, Jt, Jt4⟩
        have B := blkOk_agr Ja bB
        have hl : lo < R := by omega
        have hpR : p < R := by omega
        have ha : a < 30 := by omega
        have he : e ≤ 30 := by omega
        by_cases hdn : dn = 300
        · subst hdn
          obtain ⟨hm1, h1, h2⟩ := sim_cut (a := a) (rec := M_doAll Ym (D + 1)) J hl hR kk (w29 (Or.inr B))
          exact ⟨hm1, h1, Or.inr h2⟩
        · have hdn' : dn < 300 := by omega
          have e8 : c (314 + 9 * a) = nI e := by rw [Ja _ (by omega) (by omega)]; exact q5
          have kl : k < 1000000 := by omega
          have JC1 := LC_dnq JC JV (d := dn + 1)
          have JM1 := LM_dn JM (v := dn + 1)
          have J1 : JL Yc Ym x m kw g st bf wd sg th nm pt R Q c0 (hSi hc 205 Q.1 (nI (dn + 1))) (hSi hm 1238 m (nI (dn + 1))) c r tl (dn + 1) ρ 0 := ⟨JC1, JM1, JV, Jr, by omega, Ja, fun i hi => by have := Jt i hi; omega, Jt4⟩
          have kinds : c (306 + 9 * a) = nI 4 ∧ wd lo ≠ 28 ∨ c (306 + 9 * a) = nI 5 ∧ wd lo = nI 28 ∧ nm lo = nI (cN c (307 + 9 * a)) ∧ cN c (307 + 9 * a) < 100 ∧ 1 ≤ cN c (307 + 9 * a) ∧ c (307 + 9 * a) = nI (cN c (307 + 9 * a)) := by
            rcases B with ⟨b0, b1, b2, b3, b4⟩ | ⟨b0, _, b1, _⟩ | ⟨b0, _, b1, _⟩ | ⟨b0, _, b1, _⟩
            · exact Or.inr ⟨b0, b1, b2.trans b3.1, b3.2, b4, b3.1⟩
            · exact Or.inl ⟨b0, by rw [b1]; decide⟩
            · exact Or.inl ⟨b0, by rw [b1]; decide⟩
            · exact Or.inl ⟨b0, by rw [b1]; decide⟩
          rcases kinds with ⟨h4, n28⟩ | ⟨h5, w28, hnm, hcl, hc1, hce⟩
          · have mw := M_when (rec := M_doAll Ym (D + 1)) JM JV hdn' ha he B h4 e8
            have cw := fun F => C_when JC JV hdn' hl hR kl B h4 q6 F
            by_cases z : tsB c a = true
            · rw [if_pos z] at mw
              have fu1 : e < FU + (a + 1) := by unfold FU; omega
              have fu2 : 0 < FU := by unfold FU; omega
              obtain ⟨hm1, m1, O⟩ := R2 _ _ c r tl (dn + 1) ρ (k + 1) FU J1 (wB hk hdn') fu1 fu2
              clear fu1 fu2
              refine ⟨hm1, mw.trans m1, ?_⟩
              rcases O with ⟨hc1, c1, r1, tl1, dn1, ρ1, f, n1, n2, n3, n4, n5, n6⟩ | ⟨hc1, c1, r1, tl1, dn1, ρ1, f, n1, n2, n3⟩
              · left
                have kf : k + 1 + f ≤ 5000 := by
                  have h1 := JL_k n1 (wNext (wB hk hdn') n5)
                  exact h1
                refine ⟨hc1, c1, r1, tl1, dn1, ρ1, 1 + f + 1, n1, fun F => ?_, by omega, fun _ => by omega, w2 n5 n3, fun i hi => n6 i (by omega)⟩
                rw [show F + (1 + f + 1) = (F + 1 + f) + 1 by omega, cw, if_pos z, n2]
                have bh := C_behind n1.1 hpR hl hR q8
                rw [if_neg n28] at bh
                unfold Cl
                rw [C_end0 n1.1 hpR hR (by omega) q7, bh, bind_s, show k + 1 + f + 1 = k + (1 + f + 1) by omega]
              · right
                refine ⟨hc1, c1, r1, tl1, dn1, ρ1, f + 1, n1, by omega, fun F => ?_⟩
                rw [show F + (f + 1) = (F + f) + 1 by omega, cw, if_pos z, n3]
            · rw [if_neg z] at mw
              refine ⟨_, mw, Or.inl ⟨_, c, r, tl, dn + 1, ρ, 1, J1, fun F => ?_, by omega, fun _ => by omega, w1, fun _ _ => rfl⟩⟩
              rw [cw, if_neg z]
          · have ml := M_loop (rec := M_doAll Ym (D + 1)) JM JV hdn' ha h5
            have cw := fun F => C_loop JC JV hdn' hl hpR hR kl w28 q6 F
            have JC5 := LC_rhoq JC1 JV (i := lo) (v := nm lo)
            have J5 : JL Yc Ym x m kw g st bf wd sg th nm pt R Q c0 (hTi (hSi hc 205 Q.1 (nI (dn + 1))) (hGr (hSi hc 205 Q.1 (nI (dn + 1))) 201 Q.1) lo (nm lo)) (hSi hm 1238 m (nI (dn + 1))) c r tl (dn + 1) (upd ρ lo (nm lo)) 0 := ⟨JC5, JM1, JV, Jr, by omega, Ja, fun i hi => by have := Jt i hi; omega, Jt4⟩
            by_cases z : p = lo + 1
            · have ea : a + 1 = e := by
                rw [z] at q9
                exact SQ_nil q9
              rw [simE JM1 JV ha hcl hce (by rw [ea]; exact e8)] at ml
              refine ⟨_, ml, Or.inl ⟨_, c, r, tl, dn + 1, _, 1, J5, fun F => ?_, by omega, fun _ => by omega, w1, fun i hi => pk_un (by omega)⟩⟩
              rw [cw, if_pos z]
            · have k1' : c0 (307 + 9 * a) = nI (cN c (307 + 9 * a)) := by rw [← Ja _ (by omega) (by omega)]; exact hce
              have fu : cN c (307 + 9 * a) < FU := by unfold FU; omega
              obtain ⟨hm1, m1, O⟩ := simL (d := d) (D := D) (a := a) (by omega) R2 (by omega) hpR hR ha he (by omega) hcl k1' q5 q8 q7 w28 (cN c (307 + 9 * a)) (by omega) (Nat.le_refl _) _ _ c r tl (dn + 1) _ (k + 1) FU J5 (by rw [pk_us, hnm]) (wL hk (by omega)) fu
              clear fu
              rw [Nat.sub_self] at m1
              refine ⟨hm1, ml.trans m1, ?_⟩
              have hcl2 : ∀ F, Cl Yc Q (F + 1) lo k hc = Cl Yc Q F (lo + 1) (k + 1) (hTi (hSi hc 205 Q.1 (nI (dn + 1))) (hGr (hSi hc 205 Q.1 (nI (dn + 1))) 201 Q.1) lo (nm lo)) := fun F => by rw [cw, if_neg z]
              rcases O with N | O
              · left
                exact OutN_tr (hm1 := hSi hm 1238 m (nI (dn + 1))) hcl2 (by omega) w1 (fun _ => by omega) (fun i hi => ⟨hi, pk_un (by omega)⟩) N
              · exact Or.inr (OutO_tr hcl2 O)
      obtain ⟨hm1, h1, O⟩ := main
      exact sim_cons R1 hab (by omega) hb (by omega) (by omega) (by omega) J q5 hk (by omega) h1 O
end SIM2
