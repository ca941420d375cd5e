/-! ===== parts of a text: book ===== -/
def boH (h : Hp) (s r k a g L : Nat) : Hp := hSi (hTi (hTi (hCi (hTi (hTi (hTi h (hGr h 406 s) k (nI a)) (hGr h 407 s) k (nI g)) (hGr h 408 s) k (nI L)) r 0 (hGr h 409 s) (10 * k) L) (hGr h 410 s) k (-1)) (hGr h 411 s) k 0) 415 s (nI (k + 1))
section RBK
variable {Yc Ym : Ly} {x t s rd m n : Nat} {T : Nat → Int32} {P : Nat → Prop} {hc0 hm0 hc hm h : Hp} {p p0 : Nat} {c c' : Nat → Int32} {w : Nat → Int64} {k a g L r : Nat}
theorem book_gb (G : GB c w) {w' : Nat → Int64} (e0 : cN c 2 = k) (h0 : k < 6) (ha : a < cN c 0) (hg : 1 ≤ g ∧ g ≤ 6) (hL : L ≤ 10) (hc : ∀ i, ¬ (i = 2 ∨ i = 82 + k ∨ i = 88 + k ∨ i = 94 + k ∨ (106 + 10 * k ≤ i ∧ i < 106 + 10 * k + L)) → c' i = c i) (w2 : c' 2 = nI (k + 1)) (wa : c' (82 + k) = nI a) (wg : c' (88 + k) = nI g) (wl : c' (94 + k) = nI L) (val : ∀ j, j < L → nB c' (106 + 10 * k + j) (cN c 1)) (Vn : VN (upd c 2 (nI (k + 1))) w') : GB c' w' ∧ keepC c c' := by
  obtain ⟨V, _, g3, g4⟩ := G
  have l0 := VC_l0 V
  have l1 := VC_l1 V
  have K : keepC c c' := keepC_of V (fun i => i = 2 ∨ i = 82 + k ∨ i = 88 + k ∨ i = 94 + k ∨ (106 + 10 * k ≤ i ∧ i < 106 + 10 * k + L)) hc (fun i hi => by omega)
  have c0 : cN c' 2 = k + 1 := cN_v w2 (by omega)
  have cn : ∀ i, i ≠ 2 → (i < 82 ∨ 166 ≤ i) → cN c' i = cN c i := fun i h1 h2 => cN_cell (hc i (by omega))
  obtain ⟨v0, v1, v2, v3, v4, v5, v6, v7⟩ := V.1
  have cells : ∀ {i k' : Nat}, i ≠ 2 → (i < 82 ∨ 166 ≤ i) → nB c i k' → nB c' i k' := fun h1 h2 h => nB_cell (hc _ (by omega)) h
  refine ⟨⟨VB_gen V (fun i hi => ?_) ⟨cells (by decide) (by omega) v0, cells (by decide) (by omega) v1, nB_v w2 (by omega) (by decide), cells (by decide) (by omega) v3, cells (by decide) (by omega) v4, cells (by decide) (by omega) v5, cells (by decide) (by omega) v6, cells (by decide) (by omega) v7⟩ ⟨?_, ?_⟩ K (VR_mono V.2.2.2.1 (fun i hi => hc _ (by omega)) (by rw [cn 0 (by decide) (by omega)]; exact Nat.le_refl _) (by rw [cn 1 (by decide) (by omega)]; exact Nat.le_refl _)) (fun t h1 h2 => ?_) (fun b h1 h2 => ?_) (fun f h1 h2 => ?_) (fun i h1 h2 => ?_) (fun i h1 h2 => ?_) (fun i h1 h2 => ?_) (fun b hb => ?_), VN_cnt (fun so hso => ?_) Vn, ?_, fun b h1 h2 => ?_⟩, K⟩
  · by_cases z : i = 2
    · rw [z, c0]; omega
    · rw [cn i z (by omega)]; exact Nat.le_refl _
  · rw [cn 0 (by decide) (by omega)]
    exact cells (by decide) (by omega) V.2.1.1
  · rw [cn 4 (by decide) (by omega)]
    exact cells (by decide) (by omega) V.2.1.2
  · rw [cn 1 (by decide) (by omega)] at h2; omega
  · rw [c0] at h2
    have eb : b = k := by omega
    subst eb
    rw [cN_v wl (by omega), cN_v wg (by omega), cn 0 (by decide) (by omega), cn 1 (by decide) (by omega)]
    exact ⟨nB_v wa ha (by omega), ⟨nB_v wg (by omega) (by decide), hg.1⟩, nB_v wl (by omega) (by decide), Or.inl ((hc _ (by omega)).trans (g4 b (by omega) h0).1), val⟩
  · rw [cn 3 (by decide) (by omega)] at h2; omega
  · rw [cn 5 (by decide) (by omega)] at h2; omega
  · rw [cn 6 (by decide) (by omega)] at h2; omega
  · rw [cn 7 (by decide) (by omega)] at h2; omega
  · rw [c0] at hb ⊢
    have pk : 2 ^ k ≤ 2 ^ (k + 1) := Nat.pow_le_pow_right (by decide) (by omega)
    have pk6 : 2 ^ (k + 1) ≤ 2 ^ 6 := Nat.pow_le_pow_right (by decide) (by omega)
    by_cases z : b < k
    · have := V.2.2.2.2.2.2.2.2.2 b (by omega)
      rw [e0] at this
      exact nB_mono (nB_cell (hc _ (by omega)) this) pk
    · have eb : b = k := by omega
      subst eb
      exact nB_v ((hc _ (by omega)).trans (g4 b (by omega) h0).2) (Nat.two_pow_pos _) (by omega)
  · by_cases z : so = 2
    · subst z
      rw [show manyI 2 = 2 from rfl, c0, cN_us (by omega)]
    · have m1' : manyI so ≠ 2 := fun q => z (many_inj (b := 2) q)
      have ml := many_lt hso
      rw [cn _ m1' (by omega), cN_ne updh m1']
  · rw [hc 304 (by omega)]; exact g3
  · rw [c0] at h1
    rw [hc (100 + b) (by omega), hc (298 + b) (by omega)]; exact g4 b (by omega) h2
theorem addBook_s (S : CS Yc h x) (os : isO Yc 4 s) (ord : isO Yc 5 rd) (h0 : k < 6) (hL : L ≤ 10) (e : hGi h 415 s = nI k) : Sh_addBook Yc s (nI a) (nI g) (hGr h 500 rd) (nI L) h = some (boH h s (hGr h 500 rd) k a g L) := by
  have i0 : nI k * 10 = nI (10 * k) := by rw [zlit, pk_mul, Nat.mul_comm]
  unfold Sh_addBook boH
  rw [e, if_neg (show ¬ (6 : Int32) ≤ nI k from nI_ge (b := 6) h0 (by omega)), if_neg (show ¬ (10 : Int32) < nI L from fun q => by have := (nI_ltI (a := 10) (b := L) (by omega) (by omega)).mp q; omega), cl500 S ord, if_neg (show ¬ Int32.ofNat 10 < nI L from fun q => by have := (nI_ltI (a := 10) (b := L) (by omega) (by omega)).mp q; omega)]
  rw [cl406 S os, if_pos (inB_nI h0 (by decide)), letH_e, gi_ti, e, gr_ti, cl407 S os, if_pos (inB_nI h0 (by decide)), letH_e, gi_ti, gi_ti, e, gr_ti, gr_ti, cl408 S os, if_pos (inB_nI h0 (by decide)), letH_e, gi_ti, gi_ti, gi_ti, e, i0, gr_ti, gr_ti, gr_ti, cl409 S os, if_pos (cpB_n (by omega) (by omega) (by omega) (by omega)), letH_e]
  rw [gi_ci, gi_ti, gi_ti, gi_ti, e, gr_ci, gr_ti, gr_ti, gr_ti, cl410 S os, if_pos (inB_nI h0 (by decide)), letH_e, gi_ti, gi_ci, gi_ti, gi_ti, gi_ti, e, gr_ti, gr_ci, gr_ti, gr_ti, gr_ti, cl411 S os, if_pos (inB_nI h0 (by decide)), letH_e, letH_e, nI_clamp (by omega), nI_clamp (by omega), nI_clamp (by omega)]
  show some (hSi _ 415 s (hGi h 415 s + 1)) = _
  rw [e, nI_1]
  rfl
theorem book_kf (os : isO Yc 4 s) : Kf Yc s h (boH h s r k a g L) := by
  have K1 : Kf Yc s h (hTi h (hGr h 406 s) k (nI a)) := Kf_ti rfl os
  have K2 := Kf_ti (Y := Yc) (h := hTi h (hGr h 406 s) k (nI a)) (f := 407) (i := k) (v := nI g) rfl os
  have K3 := Kf_ti (Y := Yc) (h := hTi (hTi h (hGr h 406 s) k (nI a)) (hGr h 407 s) k (nI g)) (f := 408) (i := k) (v := nI L) rfl os
  have K4 := Kf_ci (Y := Yc) (h := hTi (hTi (hTi h (hGr h 406 s) k (nI a)) (hGr h 407 s) k (nI g)) (hGr h 408 s) k (nI L)) (f := 409) (b := r) (sp := 0) (dp := 10 * k) (n := L) rfl os
  have K5 := Kf_ti (Y := Yc) (h := hCi (hTi (hTi (hTi h (hGr h 406 s) k (nI a)) (hGr h 407 s) k (nI g)) (hGr h 408 s) k (nI L)) r 0 (hGr h 409 s) (10 * k) L) (f := 410) (i := k) (v := -1) rfl os
  have K6 := Kf_ti (Y := Yc) (h := hTi (hCi (hTi (hTi (hTi h (hGr h 406 s) k (nI a)) (hGr h 407 s) k (nI g)) (hGr h 408 s) k (nI L)) r 0 (hGr h 409 s) (10 * k) L) (hGr h 410 s) k (-1)) (f := 411) (i := k) (v := 0) rfl os
  exact Kf_tr (Kf_tr (Kf_tr (Kf_tr (Kf_tr (Kf_tr K1 K2) K3) K4) K5) K6) (Kf_si (Or.inl rfl))
theorem bk_A (S : CS Yc h x) (os : isO Yc 4 s) {f o j : Nat} (hf : cArr f = true) (ho : isO Yc (f / 100) o) (ne : f < 406 ∨ 411 < f) : hAi (boH h s r k a g L) (hGr h f o) j = hAi h (hGr h f o) j := by
  have D : ∀ q, 406 ≤ q → q ≤ 411 → cArr q = true → isO Yc (q / 100) s → ¬ hGr h f o = hGr h q s := fun q h1 h2 h3 h4 z => by have := (S.2.2.2.1 f q o s hf h3 ho h4 z).1; omega
  have d1 := D 406 (by decide) (by decide) rfl os
  have d2 := D 407 (by decide) (by decide) rfl os
  have d3 := D 408 (by decide) (by decide) rfl os
  have d4 := D 409 (by decide) (by decide) rfl os
  have d5 := D 410 (by decide) (by decide) rfl os
  have d6 := D 411 (by decide) (by decide) rfl os
  unfold boH
  rw [ai_si, ai_ti, if_neg (fun z => d6 z.1), ai_ti, if_neg (fun z => d5 z.1), ai_ci, if_neg d4, ai_ti, if_neg (fun z => d3 z.1), ai_ti, if_neg (fun z => d2 z.1), ai_ti, if_neg (fun z => d1 z.1)]
theorem bk_old (S : CS Yc h x) (os : isO Yc 4 s) {f j : Nat} (hf : cArr f = true) (ho : isO Yc (f / 100) s) (ne : f ≠ 409) (hj : j ≠ k) : hAi (boH h s r k a g L) (hGr h f s) j = hAi h (hGr h f s) j := by
  have d4 : ¬ hGr h f s = hGr h 409 s := fun z => ne (S.2.2.2.1 f 409 s s hf rfl ho os z).1
  unfold boH
  rw [ai_si, ai_ti, if_neg (fun z => hj z.2), ai_ti, if_neg (fun z => hj z.2), ai_ci, if_neg d4, ai_ti, if_neg (fun z => hj z.2), ai_ti, if_neg (fun z => hj z.2), ai_ti, if_neg (fun z => hj z.2)]
theorem bk_new (S : CS Yc h x) (os : isO Yc 4 s) : hAi (boH h s r k a g L) (hGr h 406 s) k = nI a ∧ hAi (boH h s r k a g L) (hGr h 407 s) k = nI g ∧ hAi (boH h s r k a g L) (hGr h 408 s) k = nI L ∧ hAi (boH h s r k a g L) (hGr h 410 s) k = -1 ∧ hAi (boH h s r k a g L) (hGr h 411 s) k = 0 := by
  have D : ∀ f q, f ≠ q → cArr f = true → cArr q = true → isO Yc (f / 100) s → isO Yc (q / 100) s → ¬ hGr h f s = hGr h q s := fun f q h1 h2 h3 h4 h5 z => h1 (S.2.2.2.1 f q s s h2 h3 h4 h5 z).1
  unfold boH
  refine ⟨?_, ?_, ?_, ?_, ?_⟩
  · rw [ai_si, ai_ti, if_neg (fun z => D 406 411 (by decide) rfl rfl os os z.1), ai_ti, if_neg (fun z => D 406 410 (by decide) rfl rfl os os z.1), ai_ci, if_neg (D 406 409 (by decide) rfl rfl os os), ai_ti, if_neg (fun z => D 406 408 (by decide) rfl rfl os os z.1), ai_ti, if_neg (fun z => D 406 407 (by decide) rfl rfl os os z.1), ai_ti, if_pos ⟨rfl, rfl⟩]
  · rw [ai_si, ai_ti, if_neg (fun z => D 407 411 (by decide) rfl rfl os os z.1), ai_ti, if_neg (fun z => D 407 410 (by decide) rfl rfl os os z.1), ai_ci, if_neg (D 407 409 (by decide) rfl rfl os os), ai_ti, if_neg (fun z => D 407 408 (by decide) rfl rfl os os z.1), ai_ti, if_pos ⟨rfl, rfl⟩]
  · rw [ai_si, ai_ti, if_neg (fun z => D 408 411 (by decide) rfl rfl os os z.1), ai_ti, if_neg (fun z => D 408 410 (by decide) rfl rfl os os z.1), ai_ci, if_neg (D 408 409 (by decide) rfl rfl os os), ai_ti, if_pos ⟨rfl, rfl⟩]
  · rw [ai_si, ai_ti, if_neg (fun z => D 410 411 (by decide) rfl rfl os os z.1), ai_ti, if_pos ⟨rfl, rfl⟩]
  · rw [ai_si, ai_ti, if_pos ⟨rfl, rfl⟩]
theorem bk_9 (S : CS Yc h x) (os : isO Yc 4 s) (ord : isO Yc 5 rd) (j : Nat) : hAi (boH h s (hGr h 500 rd) k a g L) (hGr h 409 s) j = if 10 * k ≤ j ∧ j < 10 * k + L then hAi h (hGr h 500 rd) (j - 10 * k) else hAi h (hGr h 409 s) j := by
  have D : ∀ q, q ≠ 409 → cArr q = true → isO Yc (q / 100) s → ¬ hGr h 409 s = hGr h q s := fun q h1 h3 h5 z => h1 (S.2.2.2.1 409 q s s rfl h3 os h5 z).1.symm
  have E : ∀ q, q ≠ 500 → cArr q = true → isO Yc (q / 100) s → ¬ hGr h 500 rd = hGr h q s := fun q h1 h3 h5 z => h1 (S.2.2.2.1 500 q rd s rfl h3 ord h5 z).1.symm
  unfold boH
  rw [ai_si, ai_ti, if_neg (fun z => D 411 (by decide) rfl os z.1), ai_ti, if_neg (fun z => D 410 (by decide) rfl os z.1), ai_ci, if_pos rfl]
  unfold va_cpy
  by_cases z : 10 * k ≤ j ∧ j < 10 * k + L
  · rw [if_pos z, if_pos z, ai_ti, if_neg (fun z => E 408 (by decide) rfl os z.1), ai_ti, if_neg (fun z => E 407 (by decide) rfl os z.1), ai_ti, if_neg (fun z => E 406 (by decide) rfl os z.1), Nat.zero_add]
  · rw [if_neg z, if_neg z, ai_ti, if_neg (fun z => D 408 (by decide) rfl os z.1), ai_ti, if_neg (fun z => D 407 (by decide) rfl os z.1), ai_ti, if_neg (fun z => D 406 (by decide) rfl os z.1)]
theorem book_rs (S : CS Yc h x) (Tt : Ty Yc h) (os : isO Yc 4 s) (ord : isO Yc 5 rd) (R : RF h s c) (G : GB c w) (e0 : cN c 2 = k) (h0 : k < 6) (hL : L ≤ 10) (hc : ∀ i, ¬ (i = 2 ∨ i = 82 + k ∨ i = 88 + k ∨ i = 94 + k ∨ (106 + 10 * k ≤ i ∧ i < 106 + 10 * k + L)) → c' i = c i) (w2 : c' 2 = nI (k + 1)) (wa : c' (82 + k) = nI a) (wg : c' (88 + k) = nI g) (wl : c' (94 + k) = nI L) (arr : ∀ j, j < L → hAi h (hGr h 500 rd) j = c' (106 + 10 * k + j)) (K : keepC c c') :
    RF (boH h s (hGr h 500 rd) k a g L) s c' := by
  obtain ⟨V, _, g3, g4⟩ := G
  have o6 := Tt.1 400 6 rfl s os
  have o1 := Tt.1 401 3 rfl s os
  have o2 := Tt.1 402 3 rfl s os
  have c0 : cN c' 2 = k + 1 := cN_v w2 (by omega)
  have cn : ∀ i, i ≠ 2 → (i < 82 ∨ 166 ≤ i) → cN c' i = cN c i := fun i h1 h2 => cN_cell (hc i (by omega))
  obtain ⟨n1, n2, n3, n4, n5⟩ := bk_new (r := hGr h 500 rd) (k := k) (a := a) (g := g) (L := L) S os
  refine RS_gen R K (fun _ _ => rfl) (RC_1 R.1 (fun _ _ => rfl) (Or.inr (Or.inl ⟨rfl, rfl⟩)) (fun f a hf => by unfold boH; rw [gi_si, if_neg (fun z => hf z.1)]; rfl) (fun i h1 h2 => hc i (by omega)) ?_) (fun t ht => bk_A S os rfl o6 (by decide)) (fun t h1 h2 => ?_) (fun i hi => ?_) (fun f hf => ⟨bk_A S os rfl o6 (by decide), fun k _ => bk_A S os rfl o6 (by decide)⟩) (fun f h1 h2 => ?_) (fun b hb => ?_) (fun b h1 h2 => ?_) (fun i hi => bk_A S os rfl os (by decide)) (fun i h1 h2 => ?_) (fun o ho => ⟨bk_A S os rfl o1 (by decide), bk_A S os rfl o1 (by decide)⟩) (fun o h1 h2 => ?_) (fun o ho => ⟨bk_A S os rfl o2 (by decide), bk_A S os rfl o2 (by decide)⟩) (fun o h1 h2 => ?_)
  · rw [if_neg (by decide), w2]
    unfold boH
    rw [gi_si, if_pos ⟨rfl, rfl⟩]
  · rw [cn 1 (by decide) (by omega)] at h2; omega
  · rw [bk_A S os rfl o6 (by decide), hc _ (by omega)]; exact R.2.1.2.1 i hi
  · rw [cn 3 (by decide) (by omega)] at h2; omega
  · have nk : b ≠ k := by omega
    have b10 := (V.2.2.2.2.1 b hb).2.2.1.2
    refine ⟨bk_old S os rfl os (by decide) nk, bk_old S os rfl os (by decide) nk, bk_old S os rfl os (by decide) nk, bk_old S os rfl os (by decide) nk, ?_, fun p hp => ?_⟩
    · rw [bk_old S os rfl os (by decide) nk, hc _ (by omega)]; exact (R.2.2.1 b hb).2.2.2.2.1
    · rw [bk_9 S os ord, if_neg (by omega)]
  · rw [c0] at h2
    have eb : b = k := by omega
    subst eb
    refine ⟨n1.trans wa.symm, n2.trans wg.symm, n3.trans wl.symm, n4.trans ((hc _ (by omega)).trans (g4 b (by omega) h0).1).symm, n5.trans ((hc _ (by omega)).trans (g4 b (by omega) h0).2).symm, fun p hp => ?_⟩
    rw [cN_v wl (by omega)] at hp
    rw [bk_9 S os ord, if_pos (by omega), show 10 * b + p - 10 * b = p by omega]
    exact arr p hp
  · rw [cn 5 (by decide) (by omega)] at h2; omega
  · rw [cn 6 (by decide) (by omega)] at h2; omega
  · rw [cn 7 (by decide) (by omega)] at h2; omega
theorem book_rn (S : CS Yc h x) (os : isO Yc 4 s) {cn : Nat → Int32} (R : RN h s cn w) : RN (boH h s r k a g L) s cn w :=
  RN_eq R (by unfold boH; rw [gi_si, if_neg (by omega)]; rfl) (fun i => rfl) (fun i => bk_A S os rfl os (by decide)) (fun i => bk_A S os rfl os (by decide))
end RBK
