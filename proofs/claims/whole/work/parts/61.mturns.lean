/-! ===== how many endings have a turn at a place: the reference ===== -/
theorem tl_ne (h : Hp) {A B : Nat} (g : Nat → Int64) (i : Nat) (v : Int64) (n : B ≠ A) : hTl (hWl h A g) B i v = hWl (hTl h B i v) A g := by
  have : up2 (up1 h.2.2.2.2.1 A g) B i v = up1 (up2 h.2.2.2.2.1 B i v) A g := by
    funext p q
    by_cases e1 : p = A
    · subst e1
      have : ¬ (p = B ∧ q = i) := fun z => n z.1.symm
      simp [up2, up1, this]
    · by_cases e2 : p = B ∧ q = i
      · obtain ⟨rfl, rfl⟩ := e2
        simp [up2, up1, e1]
      · simp [up2, up1, e1, e2]
  unfold hTl hWl
  rw [this]
def T3 (h : Hp) (A B C : Nat) (gh gc gm : Nat → Int64) : Hp := hWl (hWl (hWl h C gm) B gc) A gh
theorem T3_A (h : Hp) (A B C : Nat) (gh gc gm : Nat → Int64) (i : Nat) (v : Int64) : hTl (T3 h A B C gh gc gm) A i v = T3 h A B C (vp_updL gh i v) gc gm := tl_wl _ _ _ _ _
theorem T3_B (h : Hp) {A B C : Nat} (gh gc gm : Nat → Int64) (i : Nat) (v : Int64) (ab : B ≠ A) : hTl (T3 h A B C gh gc gm) B i v = T3 h A B C gh (vp_updL gc i v) gm := by
  unfold T3
  rw [tl_ne _ _ _ _ ab, tl_wl]
theorem T3_C (h : Hp) {A B C : Nat} (gh gc gm : Nat → Int64) (i : Nat) (v : Int64) (ac : C ≠ A) (bc : C ≠ B) : hTl (T3 h A B C gh gc gm) C i v = T3 h A B C gh gc (vp_updL gm i v) := by
  unfold T3
  rw [tl_ne _ _ _ _ ac, tl_ne _ _ _ _ bc, tl_wl]
theorem T3_a (h : Hp) (A B C : Nat) (gh gc gm : Nat → Int64) (i : Nat) : hAl (T3 h A B C gh gc gm) A i = gh i := by unfold T3; rw [al_wl, if_pos rfl]
theorem T3_b (h : Hp) {A B C : Nat} (gh gc gm : Nat → Int64) (i : Nat) (ab : B ≠ A) : hAl (T3 h A B C gh gc gm) B i = gc i := by unfold T3; rw [al_wl, if_neg ab, al_wl, if_pos rfl]
theorem T3_c (h : Hp) {A B C : Nat} (gh gc gm : Nat → Int64) (i : Nat) (ac : C ≠ A) (bc : C ≠ B) : hAl (T3 h A B C gh gc gm) C i = gm i := by unfold T3; rw [al_wl, if_neg ac, al_wl, if_neg bc, al_wl, if_pos rfl]
theorem T3_o (h : Hp) {A B C D : Nat} (gh gc gm : Nat → Int64) (i : Nat) (a : D ≠ A) (b : D ≠ B) (c : D ≠ C) : hAl (T3 h A B C gh gc gm) D i = hAl h D i := by unfold T3; rw [al_wl, if_neg a, al_wl, if_neg b, al_wl, if_neg c]
theorem T3_r (h : Hp) (A B C : Nat) (gh gc gm : Nat → Int64) (f a : Nat) : hGr (T3 h A B C gh gc gm) f a = hGr h f a := rfl
def hf (c : Nat → Int32) (b p t s : Nat) : Nat := if c (18 + 8 * s + t) = m1 ∨ barred c b (p + 1) t (cN c 9) = true then 0 else BFn c b p s * ESn c b (cN c 9) (cN c (88 + b) - (p + 1)) (cN c (18 + 8 * s + t))
def hvP (c : Nat → Int32) (b p s t t' : Nat) : Nat := sm (hf c b p t') s + (if t' < t then hf c b p t' s else 0)
theorem hvP_t {c : Nat → Int32} {b p s t : Nat} : hvP c b p s (t + 1) t = hvP c b p s t t + hf c b p t s := by
  unfold hvP
  rw [if_pos (by omega), if_neg (by omega)]
  rfl
theorem hvP_o {c : Nat → Int32} {b p s t t' : Nat} (h : t' ≠ t) : hvP c b p s (t + 1) t' = hvP c b p s t t' := by
  unfold hvP
  by_cases q : t' < t
  · rw [if_pos (by omega), if_pos q]
  · rw [if_neg (by omega), if_neg q]
theorem hvP_n {c : Nat → Int32} {b p s n t' : Nat} (h : t' < n) : hvP c b p s n t' = hvP c b p (s + 1) 0 t' := by
  unfold hvP
  rw [if_pos h, if_neg (by omega)]
  rfl
theorem hvP_8 (c : Nat → Int32) (b p t' : Nat) : hvP c b p 8 0 t' = HV c b p t' := by
  unfold hvP
  rw [if_neg (by omega)]
  rfl
section TM
variable {Y : Ly} {h : Hp} {m : Nat} {c : Nat → Int32} {b : Nat}
theorem M_laysTurns_s (X : MX Y h m c) (hb : b < cN c 2) : ∃ h', M_laysTurns Y m (nI b) h = some h' ∧ Mg Y m h h' ∧ ∀ p t, p < cN c (88 + b) → t < cN c 1 → hAl h' (hGr h' 1226 m) (8 * (p + 1) + t) = lN (HV c b p t) := by
  have V := X.2.2
  have l0 := VC_l0 V
  have l1 := VC_l1 V
  have l2 := VC_l2 V
  have hK := V.2.2.2.2.1 b hb
  have l88 := hK.2.1.1.2
  have l9 := V.2.1.2.2
  have p9 := pow_le6 (VC_l4 V)
  obtain ⟨ge, e1, e2⟩ := M_laysEndings_s (L := cN c 9) X.1 X.2.1 V hb (by omega)
  have e9 : inB 9 (lnY Y (hGr h 1220 m)) = true := by rw [ml1220 X.1]; exact inB_nI (i := 9) (by omega) (by omega)
  have e9' : hAi h (hGr h 1220 m) (Int32.toNatClampNeg 9) = nI (cN c 9) := by rw [← V.2.1.2.1]; exact MB0 X.2.1 (i := 9) (by omega)
  unfold M_laysTurns
  rw [if_pos e9, e9', e1, bind_s]
  have mg1 : Mg Y m h (hWl h (hGr h 1225 m) ge) := Mg_wl X.1 rfl (by decide)
  have X1 : MX Y (hWl h (hGr h 1225 m) ge) m c := MX_M X mg1.1
  have hends : ∀ q s, 0 < q → q ≤ cN c (88 + b) + 1 → s < 8 → hAl (hWl h (hGr h 1225 m) ge) (hGr (hWl h (hGr h 1225 m) ge) 1225 m) (8 * q + s) = lN (ESn c b (cN c 9) (cN c (88 + b) + 1 - q) s) := by
    intro q s h1 h2 h3
    rw [gr_wl, al_wl, if_pos rfl, e2 q s h1 h2 h3, ES_n]
  generalize hWl h (hGr h 1225 m) ge = h1 at mg1 X1 hends
  have S := X1.1
  have n67 : hGr h1 1227 m ≠ hGr h1 1226 m := MS_ne S (by decide) (by decide) (by decide)
  have n68 : hGr h1 1228 m ≠ hGr h1 1226 m := MS_ne S (by decide) (by decide) (by decide)
  have n78 : hGr h1 1228 m ≠ hGr h1 1227 m := MS_ne S (by decide) (by decide) (by decide)
  have n56 : hGr h1 1225 m ≠ hGr h1 1226 m := MS_ne S (by decide) (by decide) (by decide)
  have n57 : hGr h1 1225 m ≠ hGr h1 1227 m := MS_ne S (by decide) (by decide) (by decide)
  have n58 : hGr h1 1225 m ≠ hGr h1 1228 m := MS_ne S (by decide) (by decide) (by decide)
  let H : (Nat → Int64) → (Nat → Int64) → (Nat → Int64) → Hp := fun gh gc gm => T3 h1 (hGr h1 1226 m) (hGr h1 1227 m) (hGr h1 1228 m) gh gc gm
  have mgH : ∀ gh gc gm, Mg Y m h (H gh gc gm) := by
    intro gh gc gm
    have a1 : Mg Y m h1 (hWl h1 (hGr h1 1228 m) gm) := Mg_wl S rfl (by decide)
    have S1 : MS Y (hWl h1 (hGr h1 1228 m) gm) m := S
    have a2 : Mg Y m (hWl h1 (hGr h1 1228 m) gm) (hWl (hWl h1 (hGr h1 1228 m) gm) (hGr h1 1227 m) gc) := Mg_wl (f := 1227) S1 rfl (by decide)
    have S2 : MS Y (hWl (hWl h1 (hGr h1 1228 m) gm) (hGr h1 1227 m) gc) m := S
    have a3 : Mg Y m (hWl (hWl h1 (hGr h1 1228 m) gm) (hGr h1 1227 m) gc) (H gh gc gm) := Mg_wl (f := 1226) S2 rfl (by decide)
    exact Mg_tr mg1 (Mg_tr a1 (Mg_tr a2 a3))
  have XH : ∀ gh gc gm, MX Y (H gh gc gm) m c := fun gh gc gm => MX_M X (mgH gh gc gm).1
  generalize hn : cN c (88 + b) = n at *
  -- turn by turn
  have l115 : ∀ (p s : Nat) (k106 : Int32 → Hp → Option Hp) (gh gc gm : Nat → Int64), p < n → s < 8 → gc s = lN (BFn c b p s) → (∀ q, q < 8 → gm q = lN (pr c b p s 0 q)) → (∀ t, t < cN c 1 → gh (8 * (p + 1) + t) = lN (hvP c b p s 0 t)) →
      ∃ gh' gm', M_laysTurns_L115 Y m (nI b) (nI (p + 1)) (nI s) k106 FU 0 (H gh gc gm) = k106 (nI (s + 1)) (H gh' gc gm') ∧ (∀ j, ¬ (8 * (p + 1) ≤ j ∧ j < 8 * (p + 1) + 8) → gh' j = gh j) ∧ (∀ q, q < 8 → gm' q = lN (pr c b p (s + 1) 0 q)) ∧ (∀ t, t < cN c 1 → gh' (8 * (p + 1) + t) = lN (hvP c b p (s + 1) 0 t)) := by
    intro p s k106 gh gc gm hp hs hc hm hh
    refine upl (Q := fun r => ∃ gh' gm', r = k106 (nI (s + 1)) (H gh' gc gm') ∧ (∀ j, ¬ (8 * (p + 1) ≤ j ∧ j < 8 * (p + 1) + 8) → gh' j = gh j) ∧ (∀ q, q < 8 → gm' q = lN (pr c b p (s + 1) 0 q)) ∧ (∀ t, t < cN c 1 → gh' (8 * (p + 1) + t) = lN (hvP c b p (s + 1) 0 t)))
      (fun F t (g : (Nat → Int64) × (Nat → Int64)) => M_laysTurns_L115 Y m (nI b) (nI (p + 1)) (nI s) k106 F (nI t) (H g.1 gc g.2)) (cN c 1) (fun t g => (∀ j, ¬ (8 * (p + 1) ≤ j ∧ j < 8 * (p + 1) + 8) → g.1 j = gh j) ∧ (∀ q, q < 8 → g.2 q = lN (pr c b p s t q)) ∧ (∀ t', t' < cN c 1 → g.1 (8 * (p + 1) + t') = lN (hvP c b p s t t'))) ?_ ?_ (cN c 1) 0 (gh, gm) FU (by omega) (by unfold FU; omega) ⟨fun _ _ => rfl, hm, hh⟩
    · rintro F t ⟨gh', gm'⟩ ht ⟨i1, i2, i3⟩
      right
      simp only at i1 i2 i3
      have Xg := XH gh' gc gm'
      have prs : ∀ q, pr c b p s (t + 1) q = pr c b p s t q + (if c (18 + 8 * s + t) = nI q ∧ barred c b (p + 1) t (cN c 9) = false then BFn c b p s else 0) := fun q => (Nat.add_assoc _ _ _).symm
      show ∃ g : (Nat → Int64) × (Nat → Int64), M_laysTurns_L115 Y m (nI b) (nI (p + 1)) (nI s) k106 (F + 1) (nI t) (H gh' gc gm') = M_laysTurns_L115 Y m (nI b) (nI (p + 1)) (nI s) k106 F (nI (t + 1)) (H g.1 gc g.2) ∧ _
      rw [M_laysTurns_L115]
      rcases V.2.2.2.1 s t hs (by omega) with q | ⟨_, _, q1, q2⟩
      · simp (disch := omega) only [zlit, nI_add, pk_mul, ml1220 Xg.1, inB_nI, if_true, nI_clamp, MB0 Xg.2.1, VC_e1 V, nI_leI, q, m1_lt]
        rw [if_neg (by omega)]
        refine ⟨(gh', gm'), rfl, i1, fun r hr => ?_, fun t' ht' => ?_⟩
        · rw [prs, if_neg (by rw [q, m1_ne (by omega)]; simp), Nat.add_zero]; exact i2 r hr
        · by_cases ee : t' = t
          · rw [ee, hvP_t, hf, if_pos (Or.inl q), Nat.add_zero]; exact i3 t ht
          · rw [hvP_o ee]; exact i3 t' ht'
      · have qn : ¬ c (18 + 8 * s + t) = m1 := by rw [q1, ne_m1 (by omega)]; exact fun z => z
        have f1 : inB 1 (lnY Y (hGr (H gh' gc gm') 1220 m)) = true := by rw [ml1220 Xg.1]; exact inB_nI (i := 1) (by omega) (by omega)
        have f2 : hAi (H gh' gc gm') (hGr (H gh' gc gm') 1220 m) (Int32.toNatClampNeg 1) = nI (cN c 1) := by rw [← VC_e1 V]; exact MB0 Xg.2.1 (i := 1) (by omega)
        have f3 : 18 + 8 * nI s + nI t = nI (18 + 8 * s + t) := by simp only [zlit, nI_add, pk_mul]
        have f4 : inB (18 + 8 * nI s + nI t) (lnY Y (hGr (H gh' gc gm') 1220 m)) = true := by rw [f3, ml1220 Xg.1]; exact inB_nI (by omega) (by omega)
        have f5 : hAi (H gh' gc gm') (hGr (H gh' gc gm') 1220 m) (Int32.toNatClampNeg (18 + 8 * nI s + nI t)) = nI (cN c (18 + 8 * s + t)) := by rw [f3, nI_clamp (by omega), MB0 Xg.2.1 (by omega), ← q1]
        have f9 : inB 9 (lnY Y (hGr (H gh' gc gm') 1220 m)) = true := by rw [ml1220 Xg.1]; exact inB_nI (i := 9) (by omega) (by omega)
        have f9' : hAi (H gh' gc gm') (hGr (H gh' gc gm') 1220 m) (Int32.toNatClampNeg 9) = nI (cN c 9) := by rw [← V.2.1.2.1]; exact MB0 Xg.2.1 (i := 9) (by omega)
        have f6 : 8 * nI (p + 1) + nI t = nI (8 * (p + 1) + t) := by simp only [zlit, nI_add, pk_mul]
        have f7 : 8 * (nI (p + 1) + 1) + nI (cN c (18 + 8 * s + t)) = nI (8 * (p + 1 + 1) + cN c (18 + 8 * s + t)) := by simp only [zlit, nI_add, pk_mul]
        rw [if_pos f1, f2, if_neg (nI_ge ht (by omega)), if_pos f4, f5, if_neg (nI_pos (by omega)), if_pos f9, f9', M_isBarred_s Xg.1 Xg.2.1 V (by omega) (by omega) (by omega) (by omega), bind_s, nI_1, f6, f7, letH_e]
        by_cases hbb : barred c b (p + 1) t (cN c 9) = true
        · rw [if_pos hbb]
          refine ⟨(gh', gm'), rfl, i1, fun r hr => ?_, fun t' ht' => ?_⟩
          · rw [prs, if_neg (by rw [hbb]; simp), Nat.add_zero]; exact i2 r hr
          · by_cases ee : t' = t
            · rw [ee, hvP_t, hf, if_pos (Or.inr hbb), Nat.add_zero]; exact i3 t ht
            · rw [hvP_o ee]; exact i3 t' ht'
        · have hno : ¬ (c (18 + 8 * s + t) = m1 ∨ barred c b (p + 1) t (cN c 9) = true) := fun z => z.elim (fun w => qn w) hbb
          rw [if_neg hbb, ml1226 Xg.1, ml1227 Xg.1, ml1225 Xg.1, if_pos (inB_nI (by omega) (by omega)), if_pos (inB_nI (by omega) (by omega)), if_pos (inB_nI (by omega) (by omega)), if_pos (inB_nI (by omega) (by omega)), nI_clamp (show 8 * (p + 1) + t < 2 ^ 31 by omega), nI_clamp (show s < 2 ^ 31 by omega), nI_clamp (show 8 * (p + 1 + 1) + cN c (18 + 8 * s + t) < 2 ^ 31 by omega), nI_clamp (show cN c (18 + 8 * s + t) < 2 ^ 31 by omega)]
          have hE := hends (p + 1 + 1) (cN c (18 + 8 * s + t)) (by omega) (by omega) (by omega)
          rw [show n + 1 - (p + 1 + 1) = n - (p + 1) by omega] at hE
          have r26 : hGr (H gh' gc gm') 1226 m = hGr h1 1226 m := rfl
          have r27 : hGr (H gh' gc gm') 1227 m = hGr h1 1227 m := rfl
          have r25 : hGr (H gh' gc gm') 1225 m = hGr h1 1225 m := rfl
          rw [r26, r27, r25]
          have a1 : hAl (H gh' gc gm') (hGr h1 1226 m) (8 * (p + 1) + t) = gh' (8 * (p + 1) + t) := T3_a _ _ _ _ _ _ _ _
          have a2 : hAl (H gh' gc gm') (hGr h1 1227 m) s = gc s := T3_b _ _ _ _ _ n67
          have a3 : hAl (H gh' gc gm') (hGr h1 1225 m) (8 * (p + 1 + 1) + cN c (18 + 8 * s + t)) = hAl h1 (hGr h1 1225 m) (8 * (p + 1 + 1) + cN c (18 + 8 * s + t)) := T3_o _ _ _ _ _ n56 n57 n58
          have w1 : ∀ v, hTl (H gh' gc gm') (hGr h1 1226 m) (8 * (p + 1) + t) v = H (vp_updL gh' (8 * (p + 1) + t) v) gc gm' := fun v => T3_A _ _ _ _ _ _ _ _ _
          rw [a1, a2, a3, hE, hc, i3 t ht, lN_mul, lN_add, w1]
          have X2 := XH (vp_updL gh' (8 * (p + 1) + t) (lN (hvP c b p s t t + BFn c b p s * ESn c b (cN c 9) (n - (p + 1)) (cN c (18 + 8 * s + t))))) gc gm'
          rw [ml1228 X2.1, ml1227 X2.1, if_pos (inB_nI (by omega) (by omega)), if_pos (inB_nI (by omega) (by omega)), if_pos (inB_nI (by omega) (by omega))]
          have b1 : ∀ g i, hAl (H g gc gm') (hGr (H g gc gm') 1228 m) i = gm' i := fun g i => T3_c _ _ _ _ _ n68 n78
          have b2 : ∀ g i, hAl (H g gc gm') (hGr (H g gc gm') 1227 m) i = gc i := fun g i => T3_b _ _ _ _ _ n67
          have w2 : ∀ g i v, hTl (H g gc gm') (hGr (H g gc gm') 1228 m) i v = H g gc (vp_updL gm' i v) := fun g i v => T3_C _ _ _ _ _ _ n68 n78
          rw [letH_e, b1, b2, hc, i2 _ (by omega), lN_add, w2]
          refine ⟨(vp_updL gh' (8 * (p + 1) + t) (lN (hvP c b p s t t + BFn c b p s * ESn c b (cN c 9) (n - (p + 1)) (cN c (18 + 8 * s + t)))), vp_updL gm' (cN c (18 + 8 * s + t)) (lN (pr c b p s t (cN c (18 + 8 * s + t)) + BFn c b p s))), rfl, fun j hj => ?_, fun r hr => ?_, fun t' ht' => ?_⟩
          · show vp_updL gh' _ _ j = gh j
            rw [pk_uLn (by omega)]; exact i1 j hj
          · show vp_updL gm' _ _ r = _
            rw [prs]
            by_cases ee : r = cN c (18 + 8 * s + t)
            · rw [ee, pk_uLs, if_pos ⟨q1, by simpa using hbb⟩]
            · rw [pk_uLn ee, i2 r hr, if_neg, Nat.add_zero]
              rintro ⟨z, _⟩
              rw [q1, nI_eq (by omega) (by omega)] at z
              omega
          · show vp_updL gh' _ _ _ = _
            by_cases ee : t' = t
            · rw [ee, pk_uLs, hvP_t, hf, if_neg hno, hn]
            · rw [pk_uLn (by omega), hvP_o ee]; exact i3 t' ht'
    · rintro F ⟨gh', gm'⟩ ⟨i1, i2, i3⟩
      simp only at i1 i2 i3
      have Xg := XH gh' gc gm'
      show ∃ gh'' gm'', M_laysTurns_L115 Y m (nI b) (nI (p + 1)) (nI s) k106 (F + 1) (nI (cN c 1)) (H gh' gc gm') = _ ∧ _
      have f1 : inB 1 (lnY Y (hGr (H gh' gc gm') 1220 m)) = true := by rw [ml1220 Xg.1]; exact inB_nI (i := 1) (by omega) (by omega)
      have f2 : hAi (H gh' gc gm') (hGr (H gh' gc gm') 1220 m) (Int32.toNatClampNeg 1) = nI (cN c 1) := by rw [← VC_e1 V]; exact MB0 Xg.2.1 (i := 1) (by omega)
      rw [M_laysTurns_L115, if_pos f1, f2, if_pos (nI_le (Nat.le_refl _) (by omega)), nI_1]
      exact ⟨gh', gm', rfl, i1, fun q hq => by rw [i2 q hq, pr_next], fun t ht => by rw [i3 t ht, hvP_n ht]⟩
  -- a place: came to comes
  have l235 : ∀ (p : Nat) (k70 : Int32 → Hp → Option Hp) (gh gc gm : Nat → Int64), ∃ gc', M_laysTurns_L235 Y m (nI b) (nI (p + 1)) k70 FU 0 (H gh gc gm) = k70 (nI (p + 1 + 1)) (H gh gc' gm) ∧ ∀ q, q < 8 → gc' q = gm q := by
    intro p k70 gh gc gm
    refine upl (Q := fun r => ∃ gc', r = k70 (nI (p + 1 + 1)) (H gh gc' gm) ∧ ∀ q, q < 8 → gc' q = gm q) (fun F s gc => M_laysTurns_L235 Y m (nI b) (nI (p + 1)) k70 F (nI s) (H gh gc gm)) 8 (fun s gc => ∀ q, q < s → gc q = gm q) ?_ ?_ 8 0 gc FU (by omega) (by unfold FU; omega) (fun q hq => absurd hq (by omega))
    · intro F s gc hs hI
      right
      have Xg := XH gh gc gm
      have b1 : hAl (H gh gc gm) (hGr (H gh gc gm) 1228 m) s = gm s := T3_c _ _ _ _ _ n68 n78
      have w2 : ∀ i v, hTl (H gh gc gm) (hGr (H gh gc gm) 1227 m) i v = H gh (vp_updL gc i v) gm := fun i v => T3_B _ _ _ _ _ _ n67
      show ∃ gc', M_laysTurns_L235 Y m (nI b) (nI (p + 1)) k70 (F + 1) (nI s) (H gh gc gm) = M_laysTurns_L235 Y m (nI b) (nI (p + 1)) k70 F (nI (s + 1)) (H gh gc' gm) ∧ _
      rw [M_laysTurns_L235]
      simp (disch := omega) only [zlit, nI_leI, ml1228 Xg.1, ml1227 Xg.1, inB_nI, if_true, nI_clamp, letH_e, nI_add]
      rw [if_neg (by omega), b1, w2]
      refine ⟨_, rfl, fun q hq => ?_⟩
      by_cases ee : q = s
      · rw [ee, pk_uLs]
      · rw [pk_uLn ee]; exact hI q (by omega)
    · intro F gc hI
      show ∃ gc', M_laysTurns_L235 Y m (nI b) (nI (p + 1)) k70 (F + 1) (nI 8) (H gh gc gm) = _ ∧ _
      rw [M_laysTurns_L235, if_pos (by decide), nI_1]
      exact ⟨gc, rfl, hI⟩
  have l106 : ∀ (p : Nat) (k70 : Int32 → Hp → Option Hp) (gh gc gm : Nat → Int64), p < n → (∀ s, s < 8 → gc s = lN (BFn c b p s)) → (∀ q, q < 8 → gm q = lN (pr c b p 0 0 q)) → (∀ t, t < cN c 1 → gh (8 * (p + 1) + t) = lN (hvP c b p 0 0 t)) →
      ∃ gh' gc' gm', M_laysTurns_L106 Y m (nI b) (nI (p + 1)) k70 FU 0 (H gh gc gm) = k70 (nI (p + 1 + 1)) (H gh' gc' gm') ∧ (∀ j, ¬ (8 * (p + 1) ≤ j ∧ j < 8 * (p + 1) + 8) → gh' j = gh j) ∧ (∀ s, s < 8 → gc' s = lN (BFn c b (p + 1) s)) ∧ (∀ t, t < cN c 1 → gh' (8 * (p + 1) + t) = lN (HV c b p t)) := by
    intro p k70 gh gc gm hp hc hm hh
    refine upl (Q := fun r => ∃ gh' gc' gm', r = k70 (nI (p + 1 + 1)) (H gh' gc' gm') ∧ (∀ j, ¬ (8 * (p + 1) ≤ j ∧ j < 8 * (p + 1) + 8) → gh' j = gh j) ∧ (∀ s, s < 8 → gc' s = lN (BFn c b (p + 1) s)) ∧ (∀ t, t < cN c 1 → gh' (8 * (p + 1) + t) = lN (HV c b p t)))
      (fun F s (g : (Nat → Int64) × (Nat → Int64)) => M_laysTurns_L106 Y m (nI b) (nI (p + 1)) k70 F (nI s) (H g.1 gc g.2)) 8 (fun s g => (∀ j, ¬ (8 * (p + 1) ≤ j ∧ j < 8 * (p + 1) + 8) → g.1 j = gh j) ∧ (∀ q, q < 8 → g.2 q = lN (pr c b p s 0 q)) ∧ (∀ t, t < cN c 1 → g.1 (8 * (p + 1) + t) = lN (hvP c b p s 0 t))) ?_ ?_ 8 0 (gh, gm) FU (by omega) (by unfold FU; omega) ⟨fun _ _ => rfl, hm, hh⟩
    · rintro F s ⟨gh', gm'⟩ hs ⟨i1, i2, i3⟩
      right
      simp only at i1 i2 i3
      obtain ⟨gh2, gm2, s1, s2, s3, s4⟩ := l115 p s (M_laysTurns_L106 Y m (nI b) (nI (p + 1)) k70 F) gh' gc gm' hp hs (hc s hs) i2 i3
      refine ⟨(gh2, gm2), ?_, fun j hj => (s2 j hj).trans (i1 j hj), s3, s4⟩
      show M_laysTurns_L106 Y m (nI b) (nI (p + 1)) k70 (F + 1) (nI s) (H gh' gc gm') = _
      rw [M_laysTurns_L106, if_neg (show ¬ (8 : Int32) ≤ nI s from nI_ge (b := 8) hs (by omega))]
      exact s1
    · rintro F ⟨gh', gm'⟩ ⟨i1, i2, i3⟩
      simp only at i1 i2 i3
      obtain ⟨gc', s1, s2⟩ := l235 p k70 gh' gc gm'
      show ∃ gh2 gc2 gm2, M_laysTurns_L106 Y m (nI b) (nI (p + 1)) k70 (F + 1) (nI 8) (H gh' gc gm') = _ ∧ _
      rw [M_laysTurns_L106, if_pos (by decide)]
      refine ⟨gh', gc', gm', s1, i1, fun s hs => ?_, fun t ht => by rw [i3 t ht, hvP_8]⟩
      rw [s2 s hs, i2 s hs]
      have : pr c b p 8 0 s = BFn c b (p + 1) s := by
        unfold pr
        rw [show inT c b p 8 0 s (BFn c b p 8) = 0 from rfl, Nat.add_zero, BFn]
      rw [this]
  have l85 : ∀ (p : Nat) (k70 : Int32 → Hp → Option Hp) (gh gc gm : Nat → Int64), p < n → (∀ s, s < 8 → gc s = lN (BFn c b p s)) → (∀ t, t < cN c 1 → gh (8 * (p + 1) + t) = 0) →
      ∃ gh' gc' gm', M_laysTurns_L85 Y m (nI b) (nI (p + 1)) k70 FU 0 (H gh gc gm) = k70 (nI (p + 1 + 1)) (H gh' gc' gm') ∧ (∀ j, ¬ (8 * (p + 1) ≤ j ∧ j < 8 * (p + 1) + 8) → gh' j = gh j) ∧ (∀ s, s < 8 → gc' s = lN (BFn c b (p + 1) s)) ∧ (∀ t, t < cN c 1 → gh' (8 * (p + 1) + t) = lN (HV c b p t)) := by
    intro p k70 gh gc gm hp hc hh
    refine upl (Q := fun r => ∃ gh' gc' gm', r = k70 (nI (p + 1 + 1)) (H gh' gc' gm') ∧ (∀ j, ¬ (8 * (p + 1) ≤ j ∧ j < 8 * (p + 1) + 8) → gh' j = gh j) ∧ (∀ s, s < 8 → gc' s = lN (BFn c b (p + 1) s)) ∧ (∀ t, t < cN c 1 → gh' (8 * (p + 1) + t) = lN (HV c b p t))) (fun F s gm => M_laysTurns_L85 Y m (nI b) (nI (p + 1)) k70 F (nI s) (H gh gc gm)) 8 (fun s gm => ∀ q, q < s → gm q = 0) ?_ ?_ 8 0 gm FU (by omega) (by unfold FU; omega) (fun q hq => absurd hq (by omega))
    · intro F s gm hs hI
      right
      have Xg := XH gh gc gm
      have w2 : ∀ i v, hTl (H gh gc gm) (hGr (H gh gc gm) 1228 m) i v = H gh gc (vp_updL gm i v) := fun i v => T3_C _ _ _ _ _ _ n68 n78
      show ∃ gm', M_laysTurns_L85 Y m (nI b) (nI (p + 1)) k70 (F + 1) (nI s) (H gh gc gm) = M_laysTurns_L85 Y m (nI b) (nI (p + 1)) k70 F (nI (s + 1)) (H gh gc gm') ∧ _
      rw [M_laysTurns_L85]
      simp (disch := omega) only [zlit, nI_leI, ml1228 Xg.1, inB_nI, if_true, nI_clamp, letH_e, nI_add]
      rw [if_neg (by omega), w2]
      refine ⟨_, rfl, fun q hq => ?_⟩
      by_cases ee : q = s
      · rw [ee, pk_uLs]
      · rw [pk_uLn ee]; exact hI q (by omega)
    · intro F gm hI
      show ∃ gh' gc' gm', M_laysTurns_L85 Y m (nI b) (nI (p + 1)) k70 (F + 1) (nI 8) (H gh gc gm) = _ ∧ _
      rw [M_laysTurns_L85, if_pos (by decide)]
      exact l106 p k70 gh gc gm hp hc (fun q hq => by rw [hI q hq]; rfl) (fun t ht => by rw [hh t ht]; rfl)
  have l70 : ∀ (gh gc gm : Nat → Int64), (∀ s, s < 8 → gc s = lN (BFn c b 0 s)) → (∀ j, j < 56 → gh j = 0) →
      ∃ h', M_laysTurns_L70 Y m (nI b) FU 1 (H gh gc gm) = some h' ∧ Mg Y m h h' ∧ ∀ p t, p < n → t < cN c 1 → hAl h' (hGr h' 1226 m) (8 * (p + 1) + t) = lN (HV c b p t) := by
    intro gh gc gm hc hh
    refine upl (Q := fun r => ∃ h', r = some h' ∧ Mg Y m h h' ∧ ∀ p t, p < n → t < cN c 1 → hAl h' (hGr h' 1226 m) (8 * (p + 1) + t) = lN (HV c b p t)) (fun F p (g : (Nat → Int64) × (Nat → Int64) × (Nat → Int64)) => M_laysTurns_L70 Y m (nI b) F (nI (p + 1)) (H g.1 g.2.1 g.2.2)) n (fun p g => (∀ s, s < 8 → g.2.1 s = lN (BFn c b p s)) ∧ (∀ q t, q < p → t < cN c 1 → g.1 (8 * (q + 1) + t) = lN (HV c b q t)) ∧ (∀ q t, p ≤ q → q < n → t < cN c 1 → g.1 (8 * (q + 1) + t) = 0)) ?_ ?_ n 0 (gh, gc, gm) FU (by omega) (by unfold FU; omega) ⟨hc, fun q t h1 => absurd h1 (by omega), fun q t h1 h2 h3 => hh _ (by omega)⟩
    · rintro F p ⟨gh', gc', gm'⟩ hp ⟨i1, i2, i3⟩
      right
      simp only at i1 i2 i3
      have Xg := XH gh' gc' gm'
      obtain ⟨gh2, gc2, gm2, s1, s2, s3, s4⟩ := l85 p (M_laysTurns_L70 Y m (nI b) F) gh' gc' gm' hp i1 (fun t ht => i3 p t (by omega) hp ht)
      refine ⟨(gh2, gc2, gm2), ?_, s3, fun q t h1 h2 => ?_, fun q t h1 h2 h3 => ?_⟩
      · show M_laysTurns_L70 Y m (nI b) (F + 1) (nI (p + 1)) (H gh' gc' gm') = _
        rw [M_laysTurns_L70, show (88 : Int32) + nI b = nI (88 + b) from nI_add 88 b, ml1220 Xg.1, if_pos (inB_nI (by omega) (by omega)), nI_clamp (by omega), MB0 Xg.2.1 (by omega), hK.2.1.1.1, hn, if_neg (nI_nlt (by omega) (by omega))]
        exact s1
      · by_cases ee : q = p
        · rw [ee]; exact s4 t h2
        · show gh2 _ = _
          rw [s2 _ (by omega)]; exact i2 q t (by omega) h2
      · show gh2 _ = _
        rw [s2 _ (by omega)]; exact i3 q t (by omega) h2 h3
    · rintro F ⟨gh', gc', gm'⟩ ⟨i1, i2, i3⟩
      simp only at i1 i2 i3
      have Xg := XH gh' gc' gm'
      show ∃ h', M_laysTurns_L70 Y m (nI b) (F + 1) (nI (n + 1)) (H gh' gc' gm') = _ ∧ _
      rw [M_laysTurns_L70, show (88 : Int32) + nI b = nI (88 + b) from nI_add 88 b, ml1220 Xg.1, if_pos (inB_nI (by omega) (by omega)), nI_clamp (by omega), MB0 Xg.2.1 (by omega), hK.2.1.1.1, hn, if_pos (nI_lt (by omega) (by omega))]
      refine ⟨_, rfl, mgH _ _ _, fun p t hp ht => ?_⟩
      have : hAl (H gh' gc' gm') (hGr (H gh' gc' gm') 1226 m) (8 * (p + 1) + t) = gh' (8 * (p + 1) + t) := T3_a _ _ _ _ _ _ _ _
      rw [this]; exact i2 p t hp ht
  have l36 : ∀ (gh gc gm : Nat → Int64), (∀ j, j < 56 → gh j = 0) →
      ∃ h', M_laysTurns_L36 Y m (nI b) FU 0 (H gh gc gm) = some h' ∧ Mg Y m h h' ∧ ∀ p t, p < n → t < cN c 1 → hAl h' (hGr h' 1226 m) (8 * (p + 1) + t) = lN (HV c b p t) := by
    intro gh gc gm hh
    refine upl (Q := fun r => ∃ h', r = some h' ∧ Mg Y m h h' ∧ ∀ p t, p < n → t < cN c 1 → hAl h' (hGr h' 1226 m) (8 * (p + 1) + t) = lN (HV c b p t)) (fun F s gc => M_laysTurns_L36 Y m (nI b) F (nI s) (H gh gc gm)) 8 (fun s gc => ∀ q, q < s → gc q = lN (BFn c b 0 q)) ?_ ?_ 8 0 gc FU (by omega) (by unfold FU; omega) (fun q hq => absurd hq (by omega))
    · intro F s gc hs hI
      right
      have Xg := XH gh gc gm
      have w2 : ∀ i v, hTl (H gh gc gm) (hGr (H gh gc gm) 1227 m) i v = H gh (vp_updL gc i v) gm := fun i v => T3_B _ _ _ _ _ _ n67
      show ∃ gc', M_laysTurns_L36 Y m (nI b) (F + 1) (nI s) (H gh gc gm) = M_laysTurns_L36 Y m (nI b) F (nI (s + 1)) (H gh gc' gm) ∧ _
      rw [M_laysTurns_L36, M_placeOf_s Xg.1 Xg.2.1 V hb, bind_s]
      simp (disch := omega) only [zlit, nI_leI, ml1227 Xg.1, inB_nI, if_true, nI_clamp, letH_e, nI_add]
      rw [if_neg (by omega), w2, w2]
      have st : ∀ v : Int64, v = lN (BFn c b 0 s) → ∀ q, q < s + 1 → vp_updL gc s v q = lN (BFn c b 0 q) := by
        intro v hv q hq
        by_cases ee : q = s
        · rw [ee, pk_uLs]; exact hv
        · rw [pk_uLn ee]; exact hI q (by omega)
      by_cases qq : nI s = place c b
      · rw [if_pos qq]
        exact ⟨_, rfl, st 1 (by rw [BFn, if_pos qq.symm]; rfl)⟩
      · rw [if_neg qq]
        exact ⟨_, rfl, st 0 (by rw [BFn, if_neg (fun z => qq z.symm)]; rfl)⟩
    · intro F gc hI
      show ∃ h', M_laysTurns_L36 Y m (nI b) (F + 1) (nI 8) (H gh gc gm) = _ ∧ _
      rw [M_laysTurns_L36, if_pos (by decide)]
      exact l70 gh gc gm hI hh
  have start : h1 = H (hAl h1 (hGr h1 1226 m)) (hAl h1 (hGr h1 1227 m)) (hAl h1 (hGr h1 1228 m)) := by
    show h1 = T3 _ _ _ _ _ _ _
    unfold T3
    rw [wl_self, wl_self, wl_self]
  have key := upl (Q := fun r => ∃ h', r = some h' ∧ Mg Y m h h' ∧ ∀ p t, p < n → t < cN c 1 → hAl h' (hGr h' 1226 m) (8 * (p + 1) + t) = lN (HV c b p t)) (fun F k gh => M_laysTurns_L15 Y m (nI b) F (nI k) (H gh (hAl h1 (hGr h1 1227 m)) (hAl h1 (hGr h1 1228 m)))) 56 (fun k gh => ∀ j, j < k → gh j = 0) ?_ ?_ 56 0 (hAl h1 (hGr h1 1226 m)) FU (by omega) (by unfold FU; omega) (fun j hj => absurd hj (by omega))
  · simp only [← start] at key
    exact key
  · intro F k gh hk hI
    right
    have Xg := XH gh (hAl h1 (hGr h1 1227 m)) (hAl h1 (hGr h1 1228 m))
    have w2 : ∀ i v, hTl (H gh (hAl h1 (hGr h1 1227 m)) (hAl h1 (hGr h1 1228 m))) (hGr (H gh (hAl h1 (hGr h1 1227 m)) (hAl h1 (hGr h1 1228 m))) 1226 m) i v = H (vp_updL gh i v) (hAl h1 (hGr h1 1227 m)) (hAl h1 (hGr h1 1228 m)) := fun i v => T3_A _ _ _ _ _ _ _ _ _
    show ∃ gh', M_laysTurns_L15 Y m (nI b) (F + 1) (nI k) _ = M_laysTurns_L15 Y m (nI b) F (nI (k + 1)) (H gh' (hAl h1 (hGr h1 1227 m)) (hAl h1 (hGr h1 1228 m))) ∧ _
    rw [M_laysTurns_L15]
    simp (disch := omega) only [zlit, nI_leI, ml1226 Xg.1, inB_nI, if_true, nI_clamp, letH_e, nI_add]
    rw [if_neg (by omega), w2]
    refine ⟨_, rfl, fun j hj => ?_⟩
    by_cases ee : j = k
    · rw [ee, pk_uLs]
    · rw [pk_uLn ee]; exact hI j (by omega)
  · intro F gh hI
    show ∃ h', M_laysTurns_L15 Y m (nI b) (F + 1) (nI 56) _ = _ ∧ _
    rw [M_laysTurns_L15, if_pos (by decide)]
    exact l36 gh _ _ hI
end TM
