/-! ===== the least odd ending: the class ===== -/
theorem ar_mn {v : Nat → Option Nat} : ∀ n, arF v n = none ↔ mnF v n = none := by
  intro n
  cases h : mnF v n with
  | some u =>
    obtain ⟨f, h1, _⟩ := arF_spec n u h
    rw [h1]; simp
  | none =>
    have hn := (mnF_none n).mp h
    clear h
    simp only [iff_true]
    induction n with
    | zero => rfl
    | succ n ih =>
      rw [arF, hn n (by omega)]
      exact ih (fun t ht => hn t (by omega))
def vl (c : Nat → Int32) (b L r p st : Nat) : Nat → Option Nat := vlF c (LSo c b L r) (fun t => !barred c b (p + 1) t L) st
theorem LSo_in (c : Nat → Int32) (b L : Nat) {n p st : Nat} (hn : n = cN c (88 + b)) (hp : p < n) : LSo c b L (n - p) st = mnF (vl c b L (n - (p + 1)) p st) (cN c 1) := by
  rw [show n - p = (n - (p + 1)) + 1 by omega]
  show mnF (vlF c (LSo c b L (n - (p + 1))) (fun t => !barred c b (cN c (88 + b) - (n - (p + 1))) t L) st) (cN c 1) = _
  rw [show cN c (88 + b) - (n - (p + 1)) = p + 1 by omega]
  rfl
def bst (c : Nat → Int32) (b : Nat) : Nat → Nat
  | 0 => (place c b).toNatClampNeg
  | p + 1 => cN c (18 + 8 * bst c b p + (arF (vl c b (cN c 9) (cN c (88 + b) - (p + 1)) p (bst c b p)) (cN c 1)).getD 0)
def btn (c : Nat → Int32) (b p : Nat) : Nat := (arF (vl c b (cN c 9) (cN c (88 + b) - (p + 1)) p (bst c b p)) (cN c 1)).getD 0
theorem vl_some {c : Nat → Int32} (V : VB c) {b L r p st t u : Nat} (hst : st < 8) (ht : t < cN c 1) (h : vl c b L r p st t = some u) : barred c b (p + 1) t L = false ∧ st < cN c 0 ∧ c (18 + 8 * st + t) = nI (cN c (18 + 8 * st + t)) ∧ cN c (18 + 8 * st + t) < cN c 0 ∧ ∃ z, LSo c b L r (cN c (18 + 8 * st + t)) = some z ∧ u = z + cN c (10 + t) := by
  have l1 := VC_l1 V
  unfold vl vlF at h
  by_cases q : c (18 + 8 * st + t) = m1 ∨ (!barred c b (p + 1) t L) = false
  · rw [if_pos q] at h; cases h
  · rw [if_neg q] at h
    have q1 : ¬ c (18 + 8 * st + t) = m1 := fun z => q (Or.inl z)
    have q2 : barred c b (p + 1) t L = false := by
      cases hb : barred c b (p + 1) t L with
      | false => rfl
      | true => exact absurd (Or.inr (by rw [hb]; rfl)) q
    rcases V.2.2.2.1 st t hst (by omega) with e | ⟨e1, e2, e3, e4⟩
    · exact absurd e q1
    · refine ⟨q2, e1, e3, e4, ?_⟩
      cases hl : LSo c b L r (cN c (18 + 8 * st + t)) with
      | none => rw [hl] at h; cases h
      | some z =>
        rw [hl] at h
        simp only [Option.map_some, Option.some.injEq] at h
        exact ⟨z, rfl, h.symm⟩
theorem bst_ok {c : Nat → Int32} (V : VB c) {b : Nat} (hb : b < cN c 2) (hB : bestO c b ≠ none) : ∀ p, p ≤ cN c (88 + b) → bst c b p < cN c 0 ∧ ∃ u, LSo c b (cN c 9) (cN c (88 + b) - p) (bst c b p) = some u := by
  have l0 := VC_l0 V
  intro p
  induction p with
  | zero =>
    intro _
    unfold bestO at hB
    by_cases q : place c b = m1
    · rw [if_pos q] at hB; exact absurd rfl hB
    · rw [if_neg q] at hB
      rcases place_ok V hb with e | ⟨k, hk, e⟩
      · exact absurd e q
      · have hb0 : bst c b 0 = k := by show (place c b).toNatClampNeg = k; rw [e, nI_clamp (by omega)]
        rw [hb0]
        rw [e, nI_clamp (by omega)] at hB
        refine ⟨hk, ?_⟩
        cases hl : LSo c b (cN c 9) (cN c (88 + b) - 0) k with
        | none => exact absurd hl hB
        | some u => exact ⟨u, rfl⟩
  | succ p ih =>
    intro hp
    obtain ⟨i1, u, i2⟩ := ih (by omega)
    rw [LSo_in c b (cN c 9) rfl (by omega)] at i2
    obtain ⟨f, h1, h2, h3, _⟩ := arF_spec _ _ i2
    have := vl_some V (by omega) h2 h3
    have e : bst c b (p + 1) = cN c (18 + 8 * bst c b p + f) := by rw [bst, h1]; rfl
    rw [e]
    obtain ⟨z, hz, _⟩ := this.2.2.2.2
    exact ⟨this.2.2.2.1, z, hz⟩
theorem btn_ok {c : Nat → Int32} (V : VB c) {b : Nat} (hb : b < cN c 2) (hB : bestO c b ≠ none) {p : Nat} (hp : p < cN c (88 + b)) : ∃ u, mnF (vl c b (cN c 9) (cN c (88 + b) - (p + 1)) p (bst c b p)) (cN c 1) = some u ∧ arF (vl c b (cN c 9) (cN c (88 + b) - (p + 1)) p (bst c b p)) (cN c 1) = some (btn c b p) ∧ btn c b p < cN c 1 ∧ vl c b (cN c 9) (cN c (88 + b) - (p + 1)) p (bst c b p) (btn c b p) = some u ∧ (∀ t, t < btn c b p → vl c b (cN c 9) (cN c (88 + b) - (p + 1)) p (bst c b p) t ≠ some u) ∧ c (18 + 8 * bst c b p + btn c b p) = nI (bst c b (p + 1)) ∧ barred c b (p + 1) (btn c b p) (cN c 9) = false := by
  have l0 := VC_l0 V
  obtain ⟨i1, u, i2⟩ := bst_ok V hb hB p (by omega)
  rw [LSo_in c b (cN c 9) rfl (by omega)] at i2
  obtain ⟨f, h1, h2, h3, h4, _⟩ := arF_spec _ _ i2
  have hf : btn c b p = f := by unfold btn; rw [h1]; rfl
  have := vl_some V (by omega) h2 h3
  refine ⟨u, i2, by rw [hf]; exact h1, by rw [hf]; exact h2, by rw [hf]; exact h3, by rw [hf]; exact h4, ?_, by rw [hf]; exact this.1⟩
  rw [hf, this.2.2.1, bst, h1]
  rfl
section BC
variable {Y : Ly} {h : Hp} {s x e : Nat} {c : Nat → Int32} {b L : Nat}
theorem on_inj {o : Option Nat} (ho : ∀ k, o = some k → k < 2 ^ 31) : on o = m1 ↔ o = none := on_m1 ho
theorem En_leastOver_s (X : CX Y h x s c) (he : isO Y 0 e) (K : LK h e s c b L) (hb : b < cN c 2) {p st r : Nat} (hp : p < cN c (88 + b)) (hst : st < cN c 0) (hr : r ≤ 6) (hG : ∀ q, q < cN c 0 → hAi h (hGr h 4 e) (8 * (p + 1) + q) = on (LSo c b L r q)) :
    En_leastOver Y e (nI p) (nI st) h = some (on (arF (vl c b L r p st) (cN c 1)), hWi h (hGr h 4 e) (upd (hAi h (hGr h 4 e)) (8 * p + st) (on (mnF (vl c b L r p st) (cN c 1))))) := by
  have V := X.2.2.2.2
  have l0 := VC_l0 V
  have l1 := VC_l1 V
  have l88 := (V.2.2.2.2.1 b hb).2.1.1.2
  have hlt : ∀ n, n ≤ cN c 1 → ∀ w, mnF (vl c b L r p st) n = some w → w ≤ 63 := by
    intro n hn
    refine mnF_le n (fun t ht w hw => ?_)
    obtain ⟨z, hz, e⟩ := (vl_some V (by omega) (by omega) hw).2.2.2.2
    have := LSo_le V b L r _ z hz
    have := (V.2.2.1 t (by omega)).2
    omega
  have hal : ∀ n, n ≤ cN c 1 → ∀ w, arF (vl c b L r p st) n = some w → w < 8 := by
    intro n hn w hw
    cases hm : mnF (vl c b L r p st) n with
    | none => rw [(ar_mn n).mpr hm] at hw; cases hw
    | some u =>
      obtain ⟨f, h1, h2, _⟩ := arF_spec n u hm
      rw [h1] at hw
      cases hw
      omega
  unfold En_leastOver
  refine upl (Q := fun r' => r' = some (on (arF (vl c b L r p st) (cN c 1)), hWi h (hGr h 4 e) (upd (hAi h (hGr h 4 e)) (8 * p + st) (on (mnF (vl c b L r p st) (cN c 1)))))) (fun F i (_ : Unit) => En_leastOver_L8 Y e (nI p) (nI st) h F (on (arF (vl c b L r p st) i)) (on (mnF (vl c b L r p st) i)) (nI i)) (cN c 1) (fun _ _ => True) ?_ ?_ (cN c 1) 0 () FU (by omega) (by unfold FU; omega) trivial
  · intro F i _ hi _
    right
    refine ⟨(), ?_, trivial⟩
    show En_leastOver_L8 Y e (nI p) (nI st) h (F + 1) (on (arF (vl c b L r p st) i)) (on (mnF (vl c b L r p st) i)) (nI i) = En_leastOver_L8 Y e (nI p) (nI st) h F (on (arF (vl c b L r p st) (i + 1))) (on (mnF (vl c b L r p st) (i + 1))) (nI (i + 1))
    rw [En_leastOver_L8, K.1, X.2.2.2.1.1.2.1, VC_e1 V, if_neg (nI_ge hi (by omega)), En_stepTo_s X he K hb hp hst hi, bind_s, arF, mnF]
    unfold En_leastOver_J54 En_leastOver_J84 stp
    rw [K.1, St_oddOf_s X hi]
    simp only [bind_s, zlit, zneg, nI_add]
    have lv := hlt i (by omega)
    have la := hal i (by omega)
    have oi := (V.2.2.1 i hi).2
    by_cases hbb : barred c b (p + 1) i L = true
    · have : vl c b L r p st i = none := by unfold vl vlF; rw [if_pos (Or.inr (show (!barred c b (p + 1) i L) = false by rw [hbb]; rfl))]
      rw [if_pos hbb, this, if_pos rfl, if_pos trivial]
    · rw [if_neg hbb]
      rcases V.2.2.2.1 st i (by omega) (by omega) with q | ⟨_, _, q1, q2⟩
      · have : vl c b L r p st i = none := by unfold vl vlF; rw [if_pos (Or.inl q)]
        rw [this, if_pos q, if_pos trivial]
      · have qn : ¬ c (18 + 8 * st + i) = m1 := by rw [q1, ne_m1 (by omega)]; exact fun z => z
        have hvl : vl c b L r p st i = (LSo c b L r (cN c (18 + 8 * st + i))).map (fun r => r + cN c (10 + i)) := by
          unfold vl vlF
          rw [if_neg]
          rintro (z | z)
          · exact qn z
          · rw [Bool.not_eq_true] at hbb
            have z' : (!barred c b (p + 1) i L) = false := z
            rw [hbb] at z'; cases z'
        rw [if_neg qn, hvl, q1]
        simp (disch := omega) only [nI_add, pk_mul, cl4 X.1 he, inB_nI, if_true, nI_clamp]
        rw [show (p + 1) * 8 + cN c (18 + 8 * st + i) = 8 * (p + 1) + cN c (18 + 8 * st + i) by omega, hG _ q2]
        cases hl : LSo c b L r (cN c (18 + 8 * st + i)) with
        | none => rw [if_pos (show on none = m1 from rfl)]; rfl
        | some z =>
          have hz := LSo_le V b L r _ z hl
          have nz : ¬ on (some z) = m1 := by show ¬ nI z = m1; rw [ne_m1 (by omega)]; exact fun w => w
          rw [if_neg nz, show on (some z) = nI z from rfl, nI_add]
          simp only [Option.map_some]
          cases hm : mnF (vl c b L r p st) i with
          | none =>
            rw [(ar_mn i).mpr hm, if_pos (show on none = m1 from rfl)]
            rfl
          | some u =>
            have hu := lv u hm
            obtain ⟨f, hf, _⟩ := arF_spec i u hm
            have hfl := la f hf
            have nf : ¬ on (some f) = m1 := by show ¬ nI f = m1; rw [ne_m1 (by omega)]; exact fun w => w
            rw [hf, if_neg nf, show on (some u) = nI u from rfl]
            simp (disch := omega) only [nI_leI]
            by_cases cc : z + cN c (10 + i) < u
            · rw [if_neg (show ¬ u ≤ z + cN c (10 + i) by omega), if_pos cc, if_pos cc]
              rfl
            · rw [if_pos (show u ≤ z + cN c (10 + i) by omega), if_neg cc, if_neg cc]
              rfl
  · intro F _ _
    show En_leastOver_L8 Y e (nI p) (nI st) h (F + 1) (on (arF (vl c b L r p st) (cN c 1))) (on (mnF (vl c b L r p st) (cN c 1))) (nI (cN c 1)) = _
    rw [En_leastOver_L8, K.1, X.2.2.2.1.1.2.1, VC_e1 V, if_pos (nI_le (Nat.le_refl _) (by omega))]
    simp (disch := omega) only [zlit, nI_ltI, nI_leI, nI_add, pk_mul, cl4 X.1 he, inB_nI, if_true, nI_clamp, letH_e]
    rw [if_neg (by omega), if_neg (by omega), ti_w, show p * 8 + st = 8 * p + st by omega]
theorem En_findBest_s (X : CX Y h x s c) (he : isO Y 0 e) (hb : b < cN c 2) : ∃ h', En_findBest Y e s (nI b) h = some (on (bestO c b), h') ∧ Qf Y 100 h h' ∧ hGi h' 6 e = nI (cN c (88 + b)) ∧ (bestO c b ≠ none → ∀ p, p < cN c (88 + b) → hAi h' (hGr h' 1 e) p = nI (btn c b p)) := by
  have V := X.2.2.2.2
  have l0 := VC_l0 V
  have l1 := VC_l1 V
  have l9 := V.2.1.2.2
  have p9 := pow_le6 (VC_l4 V)
  have l88 := (V.2.2.2.2.1 b hb).2.1.1.2
  unfold En_findBest
  rw [X.2.2.2.1.1.2.2.2.2.2.2.2.2.2, V.2.1.2.1]
  obtain ⟨h1, e1, q1, K1⟩ := En_lookAt_s (L := cN c 9) X he hb (by omega)
  have X1 := CX_Q X q1
  rw [e1, bind_s]
  generalize hn : cN c (88 + b) = n at *
  have hA : ∀ g, (Qf Y 100 h (hWi h1 (hGr h1 4 e) g)) := fun g => Qf_tr q1 (Qf_wi (by decide) rfl he)
  have K' : ∀ g, LK (hWi h1 (hGr h1 4 e) g) e s c b (cN c 9) := fun g => LK_wi X1 he K1 (by decide) rfl rfl
  have X' : ∀ g, CX Y (hWi h1 (hGr h1 4 e) g) x s c := fun g => CX_Q X (hA g)
  let Post : Option (Int32 × Hp) → Prop := fun r => ∃ h', r = some (on (bestO c b), h') ∧ Qf Y 100 h h' ∧ hGi h' 6 e = nI n ∧ (bestO c b ≠ none → ∀ p, p < n → hAi h' (hGr h' 1 e) p = nI (btn c b p))
  -- the walk
  have l144 : bestO c b ≠ none → ∀ hh, Qf Y 100 h hh → LK hh e s c b (cN c 9) → (∀ q st, q ≤ n → st < cN c 0 → hAi hh (hGr hh 4 e) (8 * q + st) = on (LSo c b (cN c 9) (n - q) st)) → Post (En_findBest_L144 Y e FU (nI (bst c b 0)) 0 hh) := by
    intro hB hh qh Kh hc
    refine upl (Q := Post) (fun F p hh => En_findBest_L144 Y e F (nI (bst c b p)) (nI p) hh) n (fun p hh => Qf Y 100 h hh ∧ LK hh e s c b (cN c 9) ∧ (∀ q st, q ≤ n → st < cN c 0 → hAi hh (hGr hh 4 e) (8 * q + st) = on (LSo c b (cN c 9) (n - q) st)) ∧ ∀ k, k < p → hAi hh (hGr hh 1 e) k = nI (btn c b k)) ?_ ?_ n 0 hh FU (by omega) (by unfold FU; omega) ⟨qh, Kh, hc, fun k hk => absurd hk (by omega)⟩
    · intro F p hh hp ⟨qh, Kh, hc, ht⟩
      right
      have Xh := CX_Q X qh
      obtain ⟨b1, _⟩ := bst_ok V hb hB p (by omega)
      obtain ⟨u, t1, t2, t3, t4, _, t6, t7⟩ := btn_ok V hb hB (p := p) (by omega)
      rw [hn] at t1 t2 t4
      have lo := En_leastOver_s Xh he Kh hb (p := p) (st := bst c b p) (r := n - (p + 1)) (by omega) b1 (by omega) (fun q hq => hc (p + 1) q (by omega) hq)
      have Xw := CX_Q Xh (Qf_wi (n := 100) (f := 4) (o := e) (g := upd (hAi hh (hGr hh 4 e)) (8 * p + bst c b p) (on (mnF (vl c b (cN c 9) (n - (p + 1)) p (bst c b p)) (cN c 1)))) (by decide) rfl he)
      have Kw := LK_wi (f := 4) (g := upd (hAi hh (hGr hh 4 e)) (8 * p + bst c b p) (on (mnF (vl c b (cN c 9) (n - (p + 1)) p (bst c b p)) (cN c 1)))) Xh he Kh (by decide) rfl rfl
      have qw := Qf_tr qh (Qf_wi (n := 100) (f := 4) (o := e) (g := upd (hAi hh (hGr hh 4 e)) (8 * p + bst c b p) (on (mnF (vl c b (cN c 9) (n - (p + 1)) p (bst c b p)) (cN c 1)))) (by decide) rfl he)
      rw [t2] at lo
      have hw4 : ∀ q st, q ≤ n → st < cN c 0 → upd (hAi hh (hGr hh 4 e)) (8 * p + bst c b p) (on (mnF (vl c b (cN c 9) (n - (p + 1)) p (bst c b p)) (cN c 1))) (8 * q + st) = on (LSo c b (cN c 9) (n - q) st) := by
        intro q st hq hst
        by_cases ee : 8 * q + st = 8 * p + bst c b p
        · rw [ee, pk_us, ← LSo_in c b (cN c 9) hn.symm hp, show q = p by omega, show st = bst c b p by omega]
        · rw [pk_un ee]; exact hc q st hq hst
      have ne14 : ∀ hz, hGr hz 1 e = hGr hh 1 e → hGr hz 4 e = hGr hh 4 e → hGr hz 1 e ≠ hGr hz 4 e := by
        intro hz z1 z2 z
        rw [z1, z2] at z
        have := (Xh.1.2.2.2.1 1 4 e e rfl rfl he he z).1
        omega
      generalize hz : hWi hh (hGr hh 4 e) (upd (hAi hh (hGr hh 4 e)) (8 * p + bst c b p) (on (mnF (vl c b (cN c 9) (n - (p + 1)) p (bst c b p)) (cN c 1)))) = hw at lo Xw Kw qw
      have r1 : hGr hw 1 e = hGr hh 1 e := by rw [← hz]; rfl
      have r4 : hGr hw 4 e = hGr hh 4 e := by rw [← hz]; rfl
      have a4 : ∀ q st, q ≤ n → st < cN c 0 → hAi hw (hGr hw 4 e) (8 * q + st) = on (LSo c b (cN c 9) (n - q) st) := by
        intro q st hq hst
        rw [r4, ← hz, ai_wi, if_pos rfl]
        exact hw4 q st hq hst
      have a1 : ∀ k, hAi hw (hGr hw 1 e) k = hAi hh (hGr hh 1 e) k := by
        intro k
        rw [r1, ← hz, ai_wi, if_neg]
        exact ne14 hh rfl rfl
      have Xv := CX_Q Xw (Qf_wi (n := 100) (f := 1) (o := e) (g := upd (hAi hw (hGr hw 1 e)) p (nI (btn c b p))) (by decide) rfl he)
      have Kv := LK_wi (f := 1) (g := upd (hAi hw (hGr hw 1 e)) p (nI (btn c b p))) Xw he Kw (by decide) rfl rfl
      have qv := Qf_tr qw (Qf_wi (n := 100) (f := 1) (o := e) (g := upd (hAi hw (hGr hw 1 e)) p (nI (btn c b p))) (by decide) rfl he)
      show ∃ s', En_findBest_L144 Y e (F + 1) (nI (bst c b p)) (nI p) hh = En_findBest_L144 Y e F (nI (bst c b (p + 1))) (nI (p + 1)) s' ∧ _
      rw [En_findBest_L144, Kh.2.1, hn, if_neg (nI_ge hp (by omega)), lo, bind_s, cl1 Xh.1 he, if_pos (inB_nI (by omega) (by omega)), letH_e, show on (some (btn c b p)) = nI (btn c b p) from rfl, nI_clamp (by omega), ti_w, ← r1]
      rw [gr_wi, r1, cl1 Xh.1 he, if_pos (inB_nI (by omega) (by omega)), ← r1, ai_wi, if_pos rfl, pk_us, En_stepTo_s Xv he Kv hb (by omega) b1 t3, bind_s, nI_1]
      refine ⟨_, ?_, qv, Kv, ?_, ?_⟩
      · unfold stp
        rw [t7, if_neg (by decide), t6]
      · intro q st hq hst
        rw [gr_wi, ai_wi, if_neg (fun z => ne14 hw r1 r4 z.symm)]
        exact a4 q st hq hst
      · intro k hk
        rw [gr_wi, ai_wi, if_pos rfl]
        by_cases ee : k = p
        · rw [ee, pk_us]
        · rw [pk_un ee, a1]; exact ht k (by omega)
    · intro F hh ⟨qh, Kh, hc, ht⟩
      have Xh := CX_Q X qh
      show Post (En_findBest_L144 Y e (F + 1) (nI (bst c b n)) (nI n) hh)
      rw [En_findBest_L144, Kh.2.1, hn, if_pos (nI_le (Nat.le_refl _) (by omega)), Kh.2.2.1]
      have hB' := hB
      unfold bestO at hB'
      by_cases q : place c b = m1
      · rw [if_pos q] at hB'; exact absurd rfl hB'
      · rcases place_ok V hb with ee | ⟨k, hk, ee⟩
        · exact absurd ee q
        · have hc0 := hc 0 k (by omega) hk
          rw [show 8 * 0 + k = k by omega, Nat.sub_zero] at hc0
          rw [ee, cl4 Xh.1 he, if_pos (inB_nI (by omega) (by omega)), nI_clamp (by omega), hc0]
          refine ⟨hh, ?_, qh, by rw [Kh.2.1, hn], fun _ => ht⟩
          unfold bestO
          rw [if_neg q, ee, nI_clamp (by omega), hn]
  have l73 : ∀ (i : Nat) (g0 : Nat → Int32) (k66 : Int32 → Hp → Option (Int32 × Hp)), i < n → (∀ q st, i < q → q ≤ n → st < cN c 0 → g0 (8 * q + st) = on (LSo c b (cN c 9) (n - q) st)) →
      ∃ g', En_findBest_L73 Y e (nI i) k66 FU 0 (hWi h1 (hGr h1 4 e) g0) = k66 (nI i + m1) (hWi h1 (hGr h1 4 e) g') ∧ (∀ q st, i ≤ q → q ≤ n → st < cN c 0 → g' (8 * q + st) = on (LSo c b (cN c 9) (n - q) st)) := by
    intro i g0 k66 hi hg0
    refine upl (Q := fun r => ∃ g', r = k66 (nI i + m1) (hWi h1 (hGr h1 4 e) g') ∧ (∀ q st, i ≤ q → q ≤ n → st < cN c 0 → g' (8 * q + st) = on (LSo c b (cN c 9) (n - q) st))) (fun F j g => En_findBest_L73 Y e (nI i) k66 F (nI j) (hWi h1 (hGr h1 4 e) g)) (cN c 0)
      (fun j g => (∀ q st, i < q → q ≤ n → st < cN c 0 → g (8 * q + st) = on (LSo c b (cN c 9) (n - q) st)) ∧ ∀ st, st < j → g (8 * i + st) = on (LSo c b (cN c 9) (n - i) st)) ?_ ?_ (cN c 0) 0 g0 FU (by omega) (by unfold FU; omega) ⟨hg0, fun st hst => absurd hst (by omega)⟩
    · intro F j g hj hI
      right
      have lo := En_leastOver_s (X' g) he (K' g) hb (p := i) (st := j) (r := n - (i + 1)) (by omega) hj (by omega) (fun q hq => by rw [gr_wi, ai_wi, if_pos rfl]; exact hI.1 (i + 1) q (by omega) (by omega) hq)
      rw [gr_wi, wi_wi] at lo
      show ∃ s', En_findBest_L73 Y e (nI i) k66 (F + 1) (nI j) (hWi h1 (hGr h1 4 e) g) = En_findBest_L73 Y e (nI i) k66 F (nI (j + 1)) (hWi h1 (hGr h1 4 e) s') ∧ _
      rw [En_findBest_L73, (K' g).1, (X' g).2.2.2.1.1.1, VC_e0 V, if_neg (nI_ge hj (by omega)), lo, bind_s, nI_1]
      have eg : hAi (hWi h1 (hGr h1 4 e) g) (hGr h1 4 e) = g := by funext z; rw [ai_wi, if_pos rfl]
      rw [eg, ← LSo_in c b (cN c 9) hn.symm hi]
      refine ⟨_, rfl, fun q st h1 h2 h3 => ?_, fun st hst => ?_⟩
      · rw [pk_un (by omega)]; exact hI.1 q st h1 h2 h3
      · by_cases q : st = j
        · rw [q, pk_us]
        · rw [pk_un (by omega)]; exact hI.2 st (by omega)
    · intro F g hI
      show ∃ g', En_findBest_L73 Y e (nI i) k66 (F + 1) (nI (cN c 0)) (hWi h1 (hGr h1 4 e) g) = _ ∧ _
      rw [En_findBest_L73, (K' g).1, (X' g).2.2.2.1.1.1, VC_e0 V, if_pos (nI_le (Nat.le_refl _) (by omega))]
      refine ⟨g, rfl, fun q st h1 h2 h3 => ?_⟩
      by_cases e : q = i
      · subst e; exact hI.2 st h3
      · exact hI.1 q st (by omega) h2 h3
  have l66 : ∀ g, (∀ st, st < cN c 0 → g (8 * n + st) = on (LSo c b (cN c 9) 0 st)) → Post (En_findBest_L66 Y e FU (dn n) (hWi h1 (hGr h1 4 e) g)) := by
    intro g hg
    refine dnl (Q := Post) (fun F i g => En_findBest_L66 Y e F (dn i) (hWi h1 (hGr h1 4 e) g))
      (fun i g => i ≤ n ∧ ∀ q st, i ≤ q → q ≤ n → st < cN c 0 → g (8 * q + st) = on (LSo c b (cN c 9) (n - q) st)) ?_ ?_ n g FU (by unfold FU; omega) ⟨Nat.le_refl _, fun q st h1 h2 h3 => ?_⟩
    · intro F i g hI
      right
      obtain ⟨g', e1, e2⟩ := l73 i g (En_findBest_L66 Y e F) (by omega) (fun q st h1 h2 h3 => hI.2 q st (by omega) h2 h3)
      refine ⟨g', ?_, by omega, e2⟩
      show En_findBest_L66 Y e (F + 1) (nI i) (hWi h1 (hGr h1 4 e) g) = _
      rw [En_findBest_L66, if_neg (nI_pos (by omega)), e1, dn_s]
    · intro F g hI
      show Post (En_findBest_L66 Y e (F + 1) m1 (hWi h1 (hGr h1 4 e) g))
      rw [En_findBest_L66, if_pos (by decide), (K' g).2.2.1]
      have h6 : hGi (hWi h1 (hGr h1 4 e) g) 6 e = nI n := by rw [(K' g).2.1, hn]
      rcases place_ok V hb with q | ⟨k, hk, q⟩
      · have hB : bestO c b = none := by unfold bestO; rw [if_pos q]
        rw [q, if_pos (by decide)]
        exact ⟨_, by rw [hB]; rfl, hA g, h6, fun z => absurd hB z⟩
      · have hB : bestO c b = LSo c b (cN c 9) n k := by
          unfold bestO
          rw [if_neg (by rw [q, ne_m1 (by omega)]; exact fun z => z), q, nI_clamp (by omega), hn]
        have hb0 : bst c b 0 = k := by show (place c b).toNatClampNeg = k; rw [q, nI_clamp (by omega)]
        have hg0 := hI.2 0 k (by omega) (by omega) hk
        rw [show 8 * 0 + k = k by omega, Nat.sub_zero] at hg0
        rw [q]
        simp (disch := omega) only [zlit, zneg, nI_ltI, nI_leI, gr_wi, cl4 X1.1 he, inB_nI, if_true, nI_clamp, ai_wi]
        rw [if_neg (by omega), if_neg (by omega), hg0, ← hB]
        cases hbo : bestO c b with
        | none =>
          rw [if_pos (show on none = m1 from rfl)]
          exact ⟨_, by rw [hbo]; rfl, hA g, h6, fun z => absurd hbo z⟩
        | some w =>
          have hw : w < 2 ^ 31 := by
            have h1 := LSo_le V b (cN c 9) n k w (by rw [← hB]; exact hbo)
            omega
          have nw : ¬ on (some w) = m1 := by show ¬ nI w = m1; rw [ne_m1 hw]; exact fun z => z
          rw [if_neg nw]
          have := l144 (by rw [hbo]; exact fun z => by cases z) (hWi h1 (hGr h1 4 e) g) (hA g) (K' g) (fun q st h1 h2 => by rw [gr_wi, ai_wi, if_pos rfl]; exact hI.2 q st (by omega) h1 h2)
          rw [hb0] at this
          exact this
    · rw [show q = n by omega, Nat.sub_self]; exact hg st h3
  have key := upl (Q := Post) (fun F i g => En_findBest_L12 Y e F (nI i) (hWi h1 (hGr h1 4 e) g)) (cN c 0)
    (fun i g => ∀ st, st < i → g (8 * n + st) = on (LSo c b (cN c 9) 0 st)) ?_ ?_ (cN c 0) 0 (hAi h1 (hGr h1 4 e)) FU (by omega) (by unfold FU; omega) (fun st hst => absurd hst (by omega))
  · simp only [wi_self] at key
    exact key
  · intro F i g hi hI
    right
    show ∃ s', En_findBest_L12 Y e (F + 1) (nI i) (hWi h1 (hGr h1 4 e) g) = En_findBest_L12 Y e F (nI (i + 1)) (hWi h1 (hGr h1 4 e) s') ∧ _
    rw [En_findBest_L12, (K' g).1, (X' g).2.2.2.1.1.1, VC_e0 V, if_neg (nI_ge hi (by omega)), St_isFinal_s (X' g) (Or.inr ⟨i, hi, rfl⟩), bind_s, (K' g).2.1, hn]
    simp (disch := omega) only [zlit, zneg, nI_add, pk_mul, cl4 (X' g).1 he, inB_nI, if_true, nI_clamp, letH_e]
    have hv : isF c (nI i) = (cN c 8).testBit i := by
      unfold isF
      simp (disch := omega) only [ne_m1, if_false, nI_clamp]
    rw [hv, gr_wi]
    have st : ∀ v : Int32, v = on (LSo c b (cN c 9) 0 i) → ∀ q, q < i + 1 → upd g (n * 8 + i) v (8 * n + q) = on (LSo c b (cN c 9) 0 q) := by
      intro v hv q hq
      by_cases e : q = i
      · rw [e, show 8 * n + i = n * 8 + i by omega, pk_us]; exact hv
      · rw [pk_un (by omega)]; exact hI q (by omega)
    by_cases hbt : (cN c 8).testBit i = true
    · rw [if_pos hbt, ti_wi]
      exact ⟨_, rfl, st (nI 0) (by rw [LSo, if_pos hbt]; rfl)⟩
    · rw [if_neg hbt, ti_wi]
      exact ⟨_, rfl, st m1 (by rw [LSo, if_neg hbt]; rfl)⟩
  · intro F g hI
    show Post (En_findBest_L12 Y e (F + 1) (nI (cN c 0)) (hWi h1 (hGr h1 4 e) g))
    rw [En_findBest_L12, (K' g).1, (X' g).2.2.2.1.1.1, VC_e0 V, if_pos (nI_le (Nat.le_refl _) (by omega)), (K' g).2.1, hn]
    simp only [zlit, dn_sub]
    exact l66 g hI
end BC
