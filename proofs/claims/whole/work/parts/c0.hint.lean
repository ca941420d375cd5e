/-! ===== parts of a text: hint ===== -/
/-- a hint put down -/
def cH (c : Nat → Int32) (k b l u r : Nat) : Nat → Int32 := upd (upd (upd (upd (upd c (222 + k) (nI b)) (234 + k) (nI l)) (246 + k) (nI u)) (258 + k) (nI r)) 5 (nI (k + 1))
def hH (h : Hp) (s k b l u r : Nat) : Hp := hSi (hTi (hTi (hTi (hTi h (hGr h 412 s) (4 * k) (nI b)) (hGr h 412 s) (4 * k + 1) (nI l)) (hGr h 412 s) (4 * k + 2) (nI u)) (hGr h 412 s) (4 * k + 3) (nI r)) 418 s (nI (k + 1))
section RHI
variable {Yc Ym : Ly} {x t s rd m n : Nat} {T : Nat → Int32} {P : Nat → Prop} {hc0 hm0 hc hm h : Hp} {p : Nat} {c : Nat → Int32} {w : Nat → Int64} {k b l u r : Nat}
theorem cH_o {i : Nat} (hi : ¬ (i = 5 ∨ i = 222 + k ∨ i = 234 + k ∨ i = 246 + k ∨ i = 258 + k)) : cH c k b l u r i = c i := by
  unfold cH
  rw [pk_un (by omega), pk_un (by omega), pk_un (by omega), pk_un (by omega), pk_un (by omega)]
theorem cH_v (hk : k < 12) : cH c k b l u r 5 = nI (k + 1) ∧ cH c k b l u r (222 + k) = nI b ∧ cH c k b l u r (234 + k) = nI l ∧ cH c k b l u r (246 + k) = nI u ∧ cH c k b l u r (258 + k) = nI r := by
  unfold cH
  refine ⟨pk_us .., ?_, ?_, ?_, ?_⟩
  · rw [pk_un (by omega), pk_un (by omega), pk_un (by omega), pk_un (by omega), pk_us]
  · rw [pk_un (by omega), pk_un (by omega), pk_un (by omega), pk_us]
  · rw [pk_un (by omega), pk_un (by omega), pk_us]
  · rw [pk_un (by omega), pk_us]
theorem cN_v {c : Nat → Int32} {i v : Nat} (e : c i = nI v) (hv : v < 2 ^ 31) : cN c i = v := by unfold cN; rw [e, nI_clamp hv]
theorem nB_v {c : Nat → Int32} {i v M : Nat} (e : c i = nI v) (hv : v < M) (hM : M ≤ 2 ^ 31) : nB c i M := by
  have := cN_v e (by omega)
  unfold nB
  rw [this]
  exact ⟨e, hv⟩
theorem hint_gb (G : GB c w) (e0 : cN c 5 = k) (h0 : k < 12) (hb : b < cN c 2) (hl : 1 ≤ l ∧ l ≤ cN c (88 + b)) (hu : u < cN c 1) (hr : r < cN c 4) : GB (cH c k b l u r) w ∧ keepC c (cH c k b l u r) := by
  obtain ⟨V, Vn, g3, g4⟩ := G
  have l0 := VC_l0 V
  have l1 := VC_l1 V
  have l2 := VC_l2 V
  have l4 := VC_l4 V
  have hc : ∀ i, ¬ (i = 5 ∨ i = 222 + k ∨ i = 234 + k ∨ i = 246 + k ∨ i = 258 + k) → cH c k b l u r i = c i := fun i hi => cH_o hi
  obtain ⟨w5, w1, w2, w3, w4⟩ := cH_v (c := c) (b := b) (l := l) (u := u) (r := r) h0
  have K : keepC c (cH c k b l u r) := keepC_of V (fun i => i = 5 ∨ i = 222 + k ∨ i = 234 + k ∨ i = 246 + k ∨ i = 258 + k) hc (fun i hi => by omega)
  have c5 : cN (cH c k b l u r) 5 = k + 1 := cN_v w5 (by omega)
  have cn : ∀ i, i ≠ 5 → (i < 222 ∨ 270 ≤ i) → cN (cH c k b l u r) i = cN c i := fun i h1 h2 => cN_cell (hc i (by omega))
  obtain ⟨v0, v1, v2, v3, v4, v5, v6, v7⟩ := V.1
  have cells : ∀ {i k' : Nat}, i ≠ 5 → (i < 222 ∨ 270 ≤ i) → nB c i k' → nB (cH c k b l u r) i k' := fun h1 h2 h => nB_cell (hc _ (by omega)) h
  have p8 : cN c (88 + b) < 7 := (V.2.2.2.2.1 b hb).2.1.1.2
  refine ⟨⟨VB_gen V (fun i hi => ?_) ⟨cells (by decide) (by omega) v0, cells (by decide) (by omega) v1, cells (by decide) (by omega) v2, cells (by decide) (by omega) v3, cells (by decide) (by omega) v4, nB_v w5 (by omega) (by decide), cells (by decide) (by omega) v6, cells (by decide) (by omega) v7⟩ ⟨?_, ?_⟩ K (VR_mono V.2.2.2.1 (fun i hi => hc _ (by omega)) (by rw [cn 0 (by decide) (by omega)]; exact Nat.le_refl _) (by rw [cn 1 (by decide) (by omega)]; exact Nat.le_refl _)) (fun t h1 h2 => ?_) (fun b h1 h2 => ?_) (fun f h1 h2 => ?_) (fun i h1 h2 => ?_) (fun i h1 h2 => ?_) (fun i h1 h2 => ?_) (fun b hb => ?_), VN_cnt (fun so hso => ?_) Vn, ?_, fun b h1 h2 => ?_⟩, K⟩
  · by_cases z : i = 5
    · rw [z, c5]; omega
    · rw [cn i z (by omega)]; exact Nat.le_refl _
  · rw [cn 0 (by decide) (by omega)]
    exact cells (by decide) (by omega) V.2.1.1
  · rw [cn 4 (by decide) (by omega)]
    exact cells (by decide) (by omega) V.2.1.2
  · rw [cn 1 (by decide) (by omega)] at h2; omega
  · rw [cn 2 (by decide) (by omega)] at h2; omega
  · rw [cn 3 (by decide) (by omega)] at h2; omega
  · rw [c5] at h2
    have ei : i = k := by omega
    subst ei
    have en : cN (cH c i b l u r) (222 + i) = b := cN_v w1 (by omega)
    rw [en, cn 2 (by decide) (by omega), cn 1 (by decide) (by omega), cn 4 (by decide) (by omega), cn (88 + b) (by omega) (by omega), cN_v w2 (by omega)]
    exact ⟨nB_v w1 hb (by omega), ⟨nB_v w2 (by omega) (by omega), hl.1⟩, nB_v w3 hu (by omega), nB_v w4 hr (by omega)⟩
  · rw [cn 6 (by decide) (by omega)] at h2; omega
  · rw [cn 7 (by decide) (by omega)] at h2; omega
  · rw [cn 2 (by decide) (by omega)] at hb ⊢
    exact cells (by omega) (by omega) (V.2.2.2.2.2.2.2.2.2 b hb)
  · have : manyI so ≠ 5 := by unfold manyI; split <;> omega
    have ml := many_lt hso
    exact cn _ this (by omega)
  · rw [hc 304 (by omega)]; exact g3
  · rw [cn 2 (by decide) (by omega)] at h1
    rw [hc (100 + b) (by omega), hc (298 + b) (by omega)]; exact g4 b h1 h2
theorem addHint_s (S : CS Yc h x) (os : isO Yc 4 s) (h0 : k < 12) (e : hGi h 418 s = nI k) : Sh_addHint Yc s (nI b) (nI l) (nI u) (nI r) h = some (hH h s k b l u r) := by
  have i0 : nI k * 4 = nI (4 * k) := by rw [zlit, pk_mul, Nat.mul_comm]
  have i1 : nI (4 * k) + 1 = nI (4 * k + 1) := nI_1 _
  have i2 : nI (4 * k) + 2 = nI (4 * k + 2) := by rw [zlit, nI_add]
  have i3 : nI (4 * k) + 3 = nI (4 * k + 3) := by rw [zlit, nI_add]
  unfold Sh_addHint hH
  rw [e, if_neg (show ¬ (12 : Int32) ≤ nI k from nI_ge (b := 12) h0 (by omega)), i0, i1, i2, i3, cl412 S os, if_pos (inB_nI (by omega) (by decide)), letH_e, gr_ti, cl412 S os, if_pos (inB_nI (by omega) (by decide)), letH_e, gr_ti, gr_ti, cl412 S os, if_pos (inB_nI (by omega) (by decide)), letH_e, gr_ti, gr_ti, gr_ti, cl412 S os, if_pos (inB_nI (by omega) (by decide)), letH_e, letH_e, nI_clamp (by omega), nI_clamp (by omega), nI_clamp (by omega), nI_clamp (by omega)]
  show some (hSi _ 418 s (hGi h 418 s + 1)) = _
  rw [e, nI_1]
theorem hint_kf (os : isO Yc 4 s) : Kf Yc s h (hH h s k b l u r) := by
  have K1 : Kf Yc s h (hTi h (hGr h 412 s) (4 * k) (nI b)) := Kf_ti rfl os
  have K2 : Kf Yc s (hTi h (hGr h 412 s) (4 * k) (nI b)) (hTi (hTi h (hGr h 412 s) (4 * k) (nI b)) (hGr h 412 s) (4 * k + 1) (nI l)) := Kf_ti (h := hTi h (hGr h 412 s) (4 * k) (nI b)) (f := 412) rfl os
  have K3 : Kf Yc s (hTi (hTi h (hGr h 412 s) (4 * k) (nI b)) (hGr h 412 s) (4 * k + 1) (nI l)) (hTi (hTi (hTi h (hGr h 412 s) (4 * k) (nI b)) (hGr h 412 s) (4 * k + 1) (nI l)) (hGr h 412 s) (4 * k + 2) (nI u)) := Kf_ti (h := hTi (hTi h (hGr h 412 s) (4 * k) (nI b)) (hGr h 412 s) (4 * k + 1) (nI l)) (f := 412) rfl os
  have K4 : Kf Yc s (hTi (hTi (hTi h (hGr h 412 s) (4 * k) (nI b)) (hGr h 412 s) (4 * k + 1) (nI l)) (hGr h 412 s) (4 * k + 2) (nI u)) (hTi (hTi (hTi (hTi h (hGr h 412 s) (4 * k) (nI b)) (hGr h 412 s) (4 * k + 1) (nI l)) (hGr h 412 s) (4 * k + 2) (nI u)) (hGr h 412 s) (4 * k + 3) (nI r)) := Kf_ti (h := hTi (hTi (hTi h (hGr h 412 s) (4 * k) (nI b)) (hGr h 412 s) (4 * k + 1) (nI l)) (hGr h 412 s) (4 * k + 2) (nI u)) (f := 412) rfl os
  exact Kf_tr (Kf_tr (Kf_tr (Kf_tr K1 K2) K3) K4) (Kf_si (Or.inl rfl))
theorem hint_rs (S : CS Yc h x) (Tt : Ty Yc h) (os : isO Yc 4 s) (R : RF h s c) (V : VB c) (e0 : cN c 5 = k) (h0 : k < 12) (K : keepC c (cH c k b l u r)) : RF (hH h s k b l u r) s (cH c k b l u r) := by
  have o6 := Tt.1 400 6 rfl s os
  have o1 := Tt.1 401 3 rfl s os
  have o2 := Tt.1 402 3 rfl s os
  have l1 := VC_l1 V
  have l2 := VC_l2 V
  have hc : ∀ i, ¬ (i = 5 ∨ i = 222 + k ∨ i = 234 + k ∨ i = 246 + k ∨ i = 258 + k) → cH c k b l u r i = c i := fun i hi => cH_o hi
  obtain ⟨w5, w1, w2, w3, w4⟩ := cH_v (c := c) (b := b) (l := l) (u := u) (r := r) h0
  have c5 : cN (cH c k b l u r) 5 = k + 1 := cN_v w5 (by omega)
  have cn : ∀ i, i ≠ 5 → (i < 222 ∨ 270 ≤ i) → cN (cH c k b l u r) i = cN c i := fun i h1 h2 => cN_cell (hc i (by omega))
  have A : ∀ {f o j}, cArr f = true → isO Yc (f / 100) o → f ≠ 412 → hAi (hH h s k b l u r) (hGr h f o) j = hAi h (hGr h f o) j := by
    intro f o j hf ho ne
    have nA : hGr h f o ≠ hGr h 412 s := fun z => ne (S.2.2.2.1 f 412 o s hf rfl ho os z).1
    unfold hH
    rw [ai_si, ai_ti, if_neg (fun z => nA z.1), ai_ti, if_neg (fun z => nA z.1), ai_ti, if_neg (fun z => nA z.1), ai_ti, if_neg (fun z => nA z.1)]
  refine RS_gen R K (fun _ _ => rfl) (RC_1 R.1 (fun _ _ => rfl) (Or.inr (Or.inr (Or.inr ⟨rfl, rfl⟩))) (fun f a hf => by unfold hH; rw [gi_si, if_neg (fun z => hf z.1)]; rfl) (fun i h1 h2 => hc i (by omega)) ?_) (fun t ht => A rfl o6 (by decide)) (fun t h1 h2 => ?_) (fun i hi => ?_) (fun f hf => ⟨A rfl o6 (by decide), fun k _ => A rfl o6 (by decide)⟩) (fun f h1 h2 => ?_) (fun b hb => ?_) (fun b h1 h2 => ?_) (fun i hi => ?_) (fun i h1 h2 => ?_) (fun o ho => ⟨A rfl o1 (by decide), A rfl o1 (by decide)⟩) (fun o h1 h2 => ?_) (fun o ho => ⟨A rfl o2 (by decide), A rfl o2 (by decide)⟩) (fun o h1 h2 => ?_)
  · rw [if_neg (by decide), w5]
    unfold hH
    rw [gi_si, if_pos ⟨rfl, rfl⟩]
  · rw [cn 1 (by decide) (by omega)] at h2; omega
  · rw [A rfl o6 (by decide), hc _ (by omega)]; exact R.2.1.2.1 i hi
  · rw [cn 3 (by decide) (by omega)] at h2; omega
  · exact ⟨A rfl os (by decide), A rfl os (by decide), A rfl os (by decide), A rfl os (by decide), by rw [A rfl os (by decide), hc _ (by omega)]; exact (R.2.2.1 b hb).2.2.2.2.1, fun p _ => A rfl os (by decide)⟩
  · rw [cn 2 (by decide) (by omega)] at h2; omega
  · rw [e0] at hi
    unfold hH
    rw [ai_si, ai_ti, if_neg (fun z => by have := z.2; omega), ai_ti, if_neg (fun z => by have := z.2; omega), ai_ti, if_neg (fun z => by have := z.2; omega), ai_ti, if_neg (fun z => by have := z.2; omega)]
  · rw [c5] at h2
    have ei : i = k := by omega
    subst ei
    rw [w1, w2, w3, w4]
    unfold hH
    refine ⟨?_, ?_, ?_, ?_⟩
    · rw [ai_si, ai_ti, if_neg (fun z => by have := z.2; omega), ai_ti, if_neg (fun z => by have := z.2; omega), ai_ti, if_neg (fun z => by have := z.2; omega), ai_ti, if_pos ⟨rfl, rfl⟩]
    · rw [ai_si, ai_ti, if_neg (fun z => by have := z.2; omega), ai_ti, if_neg (fun z => by have := z.2; omega), ai_ti, if_pos ⟨rfl, rfl⟩]
    · rw [ai_si, ai_ti, if_neg (fun z => by have := z.2; omega), ai_ti, if_pos ⟨rfl, rfl⟩]
    · rw [ai_si, ai_ti, if_pos ⟨rfl, rfl⟩]
  · rw [cn 6 (by decide) (by omega)] at h2; omega
  · rw [cn 7 (by decide) (by omega)] at h2; omega
end RHI
