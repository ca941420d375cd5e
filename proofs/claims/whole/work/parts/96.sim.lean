/-! ===== weeks lived: ends of blocks ===== -/
section EB
variable {Y : Ly} {x : Nat} {kw : Nat → Int64} {g : Sg} {wd sg th nm pt : Nat → Int32} {R : Nat} {Q : Nat × Nat × Nat × Nat × (Nat → Int32) × Int32} {h : Hp} {c : Nat → Int32} {r dn a ro lo p k : Nat} {tl : Nat → Nat} {ρ : Nat → Int32}
theorem C_end0 (A : LC Y x kw g wd sg th nm pt R Q h c r tl dn ρ) (hp : p < R) (hR : R ≤ 60) (hk : k < 1000000) (w29 : wd p = nI 29) (F : Nat) :
    Li_run_L38 Y Q.1 Q.2.1 Q.2.2.2.1 Q.2.2.1 (F + 1) (nI p) (nI k) h = (Li_behindEnd Y Q.1 Q.2.2.1 (nI p) h).bind fun q14 => Li_run_L38 Y Q.1 Q.2.1 Q.2.2.2.1 Q.2.2.1 F q14.1 (nI (k + 1)) q14.2 := by
  obtain ⟨w0, w1, w2, w3, w4, w5, e5, _, o2, o4, o9⟩ := A.q
  rw [Li_run_L38, if_neg (show ¬ (1000000 : Int32) ≤ nI k from nI_ge (b := 1000000) hk (by omega)), C_has A hp hR, bind_s, if_pos rfl, cl900 A.1.1 o9, if_pos (inB_nI (by omega) (by omega)), nI_clamp (by omega), w0, w29, if_pos (show nI 29 = 29 from rfl), nI_1]
theorem C_behind (A : LC Y x kw g wd sg th nm pt R Q h c r tl dn ρ) (hp : p < R) (hl : lo < R) (hR : R ≤ 60) (hpt : pt p = nI lo) :
    Li_behindEnd Y Q.1 Q.2.2.1 (nI p) h = if wd lo = 28 then (if ρ lo - 1 ≤ 0 then some (nI (p + 1), hTi h (hGr h 201 Q.1) lo (ρ lo - 1)) else some (nI (lo + 1), hTi h (hGr h 201 Q.1) lo (ρ lo - 1))) else some (nI (p + 1), h) := by
  obtain ⟨w0, w1, w2, w3, w4, w5, e5, er, o2, o4, o9⟩ := A.q
  have i60 : inB (nI lo) 60 = true := inB_nI (by omega) (by omega)
  unfold Li_behindEnd
  rw [cl904 A.1.1 o9, if_pos (inB_nI (by omega) (by omega)), nI_clamp (by omega), w4, hpt, C_has A hl hR, bind_s, if_pos rfl, cl900 A.1.1 o9, if_pos i60, nI_clamp (by omega), w0, cl201 A.1.1 o2, if_pos i60, if_pos i60, letH_e, gr_ti, cl201 A.1.1 o2, if_pos i60, ai_ti, if_pos (show hGr h 201 Q.1 = hGr h 201 Q.1 ∧ lo = lo from ⟨rfl, rfl⟩), er, nI_1, nI_1]
theorem w29 (B : rowOk wd sg th nm c ro a ∨ blkOk wd sg th nm c ro a) : wd ro ≠ 29 := by
  rcases B with B | B
  · rcases B with ⟨_, e, _⟩ | ⟨_, e, _⟩ | ⟨_, e, _⟩ | ⟨_, e, _⟩ | ⟨_, e⟩ <;> (rw [e]; decide)
  · rcases B with ⟨_, e, _⟩ | ⟨_, _, e, _⟩ | ⟨_, _, e, _⟩ | ⟨_, _, e, _⟩ <;> (rw [e]; decide)
theorem C_cutOff (A : LC Y x kw g wd sg th nm pt R Q h c r tl 300 ρ) (V : VG (wC0 g c)) (hro : ro < R) (hR : R ≤ 60) (hk : k < 1000000) (n29 : wd ro ≠ 29) :
    ∃ h', (∀ F, Li_run_L38 Y Q.1 Q.2.1 Q.2.2.2.1 Q.2.2.1 (F + 1) (nI ro) (nI k) h = some h') ∧ LC Y x kw g wd sg th nm pt R Q h' c r (fun j => if j = 4 then 1 else tl j) 300 ρ := by
  obtain ⟨w0, w1, w2, w3, w4, w5, e5, _, o2, o4, o9⟩ := A.q
  have i4 : inB 4 5 = true := by decide
  refine ⟨_, fun F => ?_, LC_talq A V (i := 4) (v := 1)⟩
  rw [Li_run_L38, if_neg (show ¬ (1000000 : Int32) ≤ nI k from nI_ge (b := 1000000) hk (by omega)), C_has A hro hR, bind_s, if_pos rfl, cl900 A.1.1 o9, if_pos (inB_nI (by omega) (by omega)), nI_clamp (by omega), w0, if_neg n29, e5, if_neg (show ¬ nI 300 < 300 by decide), cl200 A.1.1 o2, if_pos i4, letH_e]
  rfl
end EB
/-! ===== weeks lived: class and reference side by side ===== -/
def JL (Yc Ym : Ly) (x m : Nat) (kw : Nat → Int64) (g : Sg) (st : Int32) (bf : Nat → Int32) (wd sg th nm pt : Nat → Int32) (R : Nat) (Q : Nat × Nat × Nat × Nat × (Nat → Int32) × Int32) (c0 : Nat → Int32) (hc hm : Hp) (c : Nat → Int32) (r : Nat) (tl : Nat → Nat) (dn : Nat) (ρ : Nat → Int32) (ov : Int32) : Prop :=
  LC Yc x kw g wd sg th nm pt R Q hc c r tl dn ρ ∧ LM Ym m (wSt g st) bf hm c r tl dn ov ∧ VG (wC0 g c) ∧ r < 65536 ∧ dn ≤ 300 ∧ agr c0 c ∧ (∀ i, i < 4 → tl i ≤ dn) ∧ tl 4 ≤ 1
def Cl (Yc : Ly) (Q : Nat × Nat × Nat × Nat × (Nat → Int32) × Int32) (F ro k : Nat) (h : Hp) : Option Hp := Li_run_L38 Yc Q.1 Q.2.1 Q.2.2.2.1 Q.2.2.1 F (nI ro) (nI k) h
/-- gone through to the row hi -/
def OutN (Yc Ym : Ly) (x m : Nat) (kw : Nat → Int64) (g : Sg) (st : Int32) (bf : Nat → Int32) (wd sg th nm pt : Nat → Int32) (R : Nat) (Q : Nat × Nat × Nat × Nat × (Nat → Int32) × Int32) (c0 : Nat → Int32) (hc hm' : Hp) (lo hi k W dn : Nat) (sp : Prop) (P : Nat → Prop) (ρ : Nat → Int32) : Prop :=
  ∃ hc' c' r' tl' dn' ρ' e, JL Yc Ym x m kw g st bf wd sg th nm pt R Q c0 hc' hm' c' r' tl' dn' ρ' 0 ∧ (∀ F, Cl Yc Q (F + e) lo k hc = Cl Yc Q F hi (k + e) hc') ∧ dn ≤ dn' ∧ (sp → dn < dn') ∧ k + e + W * dn ≤ k + W * dn' ∧ ∀ i, P i → ρ' i = ρ i
/-- ended -/
def OutO (Yc Ym : Ly) (x m : Nat) (kw : Nat → Int64) (g : Sg) (st : Int32) (bf : Nat → Int32) (wd sg th nm pt : Nat → Int32) (R : Nat) (Q : Nat × Nat × Nat × Nat × (Nat → Int32) × Int32) (c0 : Nat → Int32) (hc hm' : Hp) (lo k : Nat) : Prop :=
  ∃ hc' c' r' tl' dn' ρ' e, JL Yc Ym x m kw g st bf wd sg th nm pt R Q c0 hc' hm' c' r' tl' dn' ρ' 1 ∧ k + e ≤ 6000 ∧ ∀ F, Cl Yc Q (F + e) lo k hc = some hc'
