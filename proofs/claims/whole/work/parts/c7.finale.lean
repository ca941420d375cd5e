/-! ===== parts of a text: finale ===== -/
def fnH (h : Hp) (o r k L : Nat) : Hp := hSi (hCi (hTi h (hGr h 602 o) k (nI L)) r 0 (hGr h 603 o) (6 * k) L) 607 o (nI (k + 1))
section RFI
variable {Yc Ym : Ly} {x t s rd m n : Nat} {T : Nat → Int32} {P : Nat → Prop} {hc0 hm0 hc hm h : Hp} {p p0 : Nat} {c c' : Nat → Int32} {w : Nat → Int64} {k L : Nat}
theorem cpB_n {d k l0 l1 : Nat} (hd : d < 2 ^ 31) (hk : k < 2 ^ 31) (h0 : k ≤ l0) (h1 : d + k ≤ l1) : cpB 0 (nI d) (nI k) l0 l1 = true := by
  simp only [cpB, Bool.and_eq_true, decide_eq_true_eq]
  rw [nI_clamp hd, nI_clamp hk, show Int32.toNatClampNeg 0 = 0 from rfl]
  refine ⟨by decide, fun q => ?_, fun q => ?_, by omega, h1⟩
  · have := (nI_ltI (a := d) (b := 0) hd (by decide)).mp q; omega
  · have := (nI_ltI (a := k) (b := 0) hk (by decide)).mp q; omega
theorem fin_gb (G : GB c w) {w' : Nat → Int64} (e0 : cN c 3 = k) (h0 : k < 8) (hL : 1 ≤ L ∧ L ≤ 6) (hc : ∀ i, ¬ (i = 3 ∨ i = 166 + k ∨ (174 + 6 * k ≤ i ∧ i < 174 + 6 * k + L)) → c' i = c i) (w3 : c' 3 = nI (k + 1)) (wl : c' (166 + k) = nI L) (val : ∀ j, j < L → nB c' (174 + 6 * k + j) (cN c 1)) (Vn : VN (upd c 3 (nI (k + 1))) w') : GB c' w' ∧ keepC c c' := by
  obtain ⟨V, _, g3, g4⟩ := G
  have l1 := VC_l1 V
  have l2 := VC_l2 V
  have K : keepC c c' := keepC_of V (fun i => i = 3 ∨ i = 166 + k ∨ (174 + 6 * k ≤ i ∧ i < 174 + 6 * k + L)) hc (fun i hi => by omega)
  have c0 : cN c' 3 = k + 1 := cN_v w3 (by omega)
  have cn : ∀ i, i ≠ 3 → (i < 166 ∨ 222 ≤ i) → cN c' i = cN c i := fun i h1 h2 => cN_cell (hc i (by omega))
  obtain ⟨v0, v1, v2, v3, v4, v5, v6, v7⟩ := V.1
  have cells : ∀ {i k' : Nat}, i ≠ 3 → (i < 166 ∨ 222 ≤ i) → nB c i k' → nB c' i k' := fun h1 h2 h => nB_cell (hc _ (by omega)) h
  refine ⟨⟨VB_gen V (fun i hi => ?_) ⟨cells (by decide) (by omega) v0, cells (by decide) (by omega) v1, cells (by decide) (by omega) v2, nB_v w3 (by omega) (by decide), cells (by decide) (by omega) v4, cells (by decide) (by omega) v5, cells (by decide) (by omega) v6, cells (by decide) (by omega) v7⟩ ⟨?_, ?_⟩ K (VR_mono V.2.2.2.1 (fun i hi => hc _ (by omega)) (by rw [cn 0 (by decide) (by omega)]; exact Nat.le_refl _) (by rw [cn 1 (by decide) (by omega)]; exact Nat.le_refl _)) (fun t h1 h2 => ?_) (fun b h1 h2 => ?_) (fun f h1 h2 => ?_) (fun i h1 h2 => ?_) (fun i h1 h2 => ?_) (fun i h1 h2 => ?_) (fun b hb => ?_), VN_cnt (fun so hso => ?_) Vn, ?_, fun b h1 h2 => ?_⟩, K⟩
  · by_cases z : i = 3
    · rw [z, c0]; omega
    · rw [cn i z (by omega)]; exact Nat.le_refl _
  · rw [cn 0 (by decide) (by omega)]
    exact cells (by decide) (by omega) V.2.1.1
  · rw [cn 4 (by decide) (by omega)]
    exact cells (by decide) (by omega) V.2.1.2
  · rw [cn 1 (by decide) (by omega)] at h2; omega
  · rw [cn 2 (by decide) (by omega)] at h2; omega
  · rw [c0] at h2
    have ef : f = k := by omega
    subst ef
    rw [cN_v wl (by omega), cn 1 (by decide) (by omega)]
    exact ⟨⟨nB_v wl (by omega) (by decide), hL.1⟩, val⟩
  · rw [cn 5 (by decide) (by omega)] at h2; omega
  · rw [cn 6 (by decide) (by omega)] at h2; omega
  · rw [cn 7 (by decide) (by omega)] at h2; omega
  · rw [cn 2 (by decide) (by omega)] at hb ⊢
    exact cells (by omega) (by omega) (V.2.2.2.2.2.2.2.2.2 b hb)
  · by_cases z : so = 3
    · subst z
      rw [show manyI 3 = 3 from rfl, c0, cN_us (by omega)]
    · have m1' : manyI so ≠ 3 := fun q => z (many_inj (b := 3) q)
      have ml := many_lt hso
      rw [cn _ m1' (by omega), cN_ne updh m1']
  · rw [hc 304 (by omega)]; exact g3
  · rw [cn 2 (by decide) (by omega)] at h1
    rw [hc (100 + b) (by omega), hc (298 + b) (by omega)]; exact g4 b h1 h2
theorem addFin_s {o : Nat} (S : CS Yc h x) (o6 : isO Yc 6 o) (ord : isO Yc 5 rd) (h0 : k < 8) (hL : L ≤ 6) (e : hGi h 607 o = nI k) : St_addFinale Yc o (hGr h 500 rd) (nI L) h = some (fnH h o (hGr h 500 rd) k L) := by
  have i0 : nI k * 6 = nI (6 * k) := by rw [zlit, pk_mul, Nat.mul_comm]
  unfold St_addFinale fnH
  rw [e, if_neg (show ¬ (8 : Int32) ≤ nI k from nI_ge (b := 8) h0 (by omega)), if_neg (show ¬ (6 : Int32) < nI L from fun q => by have := (nI_ltI (a := 6) (b := L) (by omega) (by omega)).mp q; omega), cl500 S ord, if_neg (show ¬ Int32.ofNat 10 < nI L from fun q => by have := (nI_ltI (a := 10) (b := L) (by omega) (by omega)).mp q; omega), cl602 S o6, if_pos (inB_nI h0 (by decide)), letH_e, gi_ti, e, i0, gr_ti, cl603 S o6, if_pos (cpB_n (by omega) (by omega) (by omega) (by omega)), letH_e, letH_e, nI_clamp (by omega), nI_clamp (by omega), nI_clamp (by omega), gi_ci, gi_ti, e, nI_1]
  rfl
theorem fin_kf {o r : Nat} (o6 : isO Yc 6 o) : Kf Yc o h (fnH h o r k L) :=
  Kf_tr (Kf_tr (Kf_ti (f := 602) rfl o6) (Kf_ci (h := hTi h (hGr h 602 o) k (nI L)) (f := 603) (b := r) rfl o6)) (Kf_si (Or.inl rfl))
theorem fin_rs (S : CS Yc h x) (Tt : Ty Yc h) (os : isO Yc 4 s) (ord : isO Yc 5 rd) (R : RF h s c) (V : VB c) (e0 : cN c 3 = k) (h0 : k < 8) (hL : 1 ≤ L ∧ L ≤ 6) (hc : ∀ i, ¬ (i = 3 ∨ i = 166 + k ∨ (174 + 6 * k ≤ i ∧ i < 174 + 6 * k + L)) → c' i = c i) (w3 : c' 3 = nI (k + 1)) (wl : c' (166 + k) = nI L) (arr : ∀ j, j < L → hAi h (hGr h 500 rd) j = c' (174 + 6 * k + j)) (K : keepC c c') :
    RF (fnH h (hGr h 400 s) (hGr h 500 rd) k L) s c' := by
  have o6 := Tt.1 400 6 rfl s os
  have o1 := Tt.1 401 3 rfl s os
  have o2 := Tt.1 402 3 rfl s os
  have l2 := VC_l2 V
  have c0 : cN c' 3 = k + 1 := cN_v w3 (by omega)
  have cn : ∀ i, i ≠ 3 → (i < 166 ∨ 222 ≤ i) → cN c' i = cN c i := fun i h1 h2 => cN_cell (hc i (by omega))
  have n5 : ¬ hGr h 500 rd = hGr h 602 (hGr h 400 s) := fun z => absurd (S.2.2.2.1 500 602 _ _ rfl rfl ord o6 z).1 (by decide)
  have n23 : ¬ hGr h 602 (hGr h 400 s) = hGr h 603 (hGr h 400 s) := fun z => absurd (S.2.2.2.1 602 603 _ _ rfl rfl o6 o6 z).1 (by decide)
  have A : ∀ {f o j}, cArr f = true → isO Yc (f / 100) o → (f ≠ 602 ∧ f ≠ 603) → hAi (fnH h (hGr h 400 s) (hGr h 500 rd) k L) (hGr h f o) j = hAi h (hGr h f o) j := by
    intro f o j hf ho ne
    have nA : ¬ hGr h f o = hGr h 602 (hGr h 400 s) := fun z => ne.1 (S.2.2.2.1 f 602 o _ hf rfl ho o6 z).1
    have nB : ¬ hGr h f o = hGr h 603 (hGr h 400 s) := fun z => ne.2 (S.2.2.2.1 f 603 o _ hf rfl ho o6 z).1
    unfold fnH
    rw [ai_si, ai_ci, if_neg nB, ai_ti, if_neg (fun z => nA z.1)]
  have A2 : ∀ j, hAi (fnH h (hGr h 400 s) (hGr h 500 rd) k L) (hGr h 602 (hGr h 400 s)) j = if j = k then nI L else hAi h (hGr h 602 (hGr h 400 s)) j := by
    intro j
    unfold fnH
    rw [ai_si, ai_ci, if_neg n23, ai_ti]
    by_cases z : j = k
    · rw [if_pos ⟨rfl, z⟩, if_pos z]
    · rw [if_neg (fun q => z q.2), if_neg z]
  have A3 : ∀ j, hAi (fnH h (hGr h 400 s) (hGr h 500 rd) k L) (hGr h 603 (hGr h 400 s)) j = if 6 * k ≤ j ∧ j < 6 * k + L then hAi h (hGr h 500 rd) (j - 6 * k) else hAi h (hGr h 603 (hGr h 400 s)) j := by
    intro j
    unfold fnH
    rw [ai_si, ai_ci, if_pos rfl]
    unfold va_cpy
    by_cases z : 6 * k ≤ j ∧ j < 6 * k + L
    · rw [if_pos z, if_pos z, ai_ti, if_neg (fun q => n5 q.1), Nat.zero_add]
    · rw [if_neg z, if_neg z, ai_ti, if_neg (fun q => n23 q.1.symm)]
  refine RS_gen R K (fun _ _ => rfl) (RC_1 R.1 (fun _ _ => rfl) (Or.inr (Or.inr (Or.inl ⟨rfl, rfl⟩))) (fun f a hf => by unfold fnH; rw [gi_si, if_neg (fun z => hf z.1)]; rfl) (fun i h1 h2 => hc i (by omega)) ?_) (fun t ht => A rfl o6 (by decide)) (fun t h1 h2 => ?_) (fun i hi => ?_) (fun f hf => ?_) (fun f h1 h2 => ?_) (fun b hb => ?_) (fun b h1 h2 => ?_) (fun i hi => A rfl os (by decide)) (fun i h1 h2 => ?_) (fun o ho => ⟨A rfl o1 (by decide), A rfl o1 (by decide)⟩) (fun o h1 h2 => ?_) (fun o ho => ⟨A rfl o2 (by decide), A rfl o2 (by decide)⟩) (fun o h1 h2 => ?_)
  · rw [if_pos (Or.inr rfl), w3]
    unfold fnH
    rw [gi_si, if_pos ⟨rfl, rfl⟩]
  · rw [cn 1 (by decide) (by omega)] at h2; omega
  · rw [A rfl o6 (by decide), hc _ (by omega)]; exact R.2.1.2.1 i hi
  · have q7 := (V.2.2.2.2.2.1 f hf).1.1.2
    refine ⟨by rw [A2, if_neg (by omega)], fun j hj => by rw [A3, if_neg (by omega)]⟩
  · rw [c0] at h2
    have ef : f = k := by omega
    subst ef
    refine ⟨by rw [A2, if_pos rfl, wl], fun j hj => ?_⟩
    rw [cN_v wl (by omega)] at hj
    rw [A3, if_pos (by omega), show 6 * f + j - 6 * f = j by omega]
    exact arr j hj
  · exact ⟨A rfl os (by decide), A rfl os (by decide), A rfl os (by decide), A rfl os (by decide), by rw [A rfl os (by decide), hc _ (by omega)]; exact (R.2.2.1 b hb).2.2.2.2.1, fun p _ => A rfl os (by decide)⟩
  · rw [cn 2 (by decide) (by omega)] at h2; omega
  · rw [cn 5 (by decide) (by omega)] at h2; omega
  · rw [cn 6 (by decide) (by omega)] at h2; omega
  · rw [cn 7 (by decide) (by omega)] at h2; omega
end RFI
