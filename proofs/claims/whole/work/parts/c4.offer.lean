/-! ===== parts of a text: offer ===== -/
def offc (c : Nat → Int32) (k v V : Nat) : Nat → Int32 := upd (upd (upd c (270 + k) (nI v)) (276 + k) (nI V)) 6 (nI (k + 1))
def offh (h : Hp) (lo k v V : Nat) : Hp := hSi (hTi (hTi h (hGr h 300 lo) k (nI v)) (hGr h 301 lo) k (nI V)) 302 lo (nI (k + 1))
section Loff
variable {Yc Ym : Ly} {x t s rd lo m n : Nat} {T : Nat → Int32} {P : Nat → Prop} {hc0 hm0 hc hm h : Hp} {p p0 : Nat} {c : Nat → Int32} {w : Nat → Int64} {k v V : Nat}
theorem off_o {i : Nat} (hi : ¬ (i = 6 ∨ i = 270 + k ∨ i = 276 + k)) : offc c k v V i = c i := by
  unfold offc
  rw [pk_un (by omega), pk_un (by omega), pk_un (by omega)]
theorem off_v (hk : k < 6) : offc c k v V 6 = nI (k + 1) ∧ offc c k v V (270 + k) = nI v ∧ offc c k v V (276 + k) = nI V := by
  unfold offc
  refine ⟨pk_us .., ?_, ?_⟩
  · rw [pk_un (by omega), pk_un (by omega), pk_us]
  · rw [pk_un (by omega), pk_us]
theorem off_gb (G : GB c w) {w' : Nat → Int64} (e0 : cN c 6 = k) (h0 : k < 6) (hv : v < 100) (hV : V < 2 ^ cN c 2) (Vn : VN (upd c 6 (nI (k + 1))) w') : GB (offc c k v V) w' ∧ keepC c (offc c k v V) := by
  obtain ⟨Vb, _, g3, g4⟩ := G
  have l2 := VC_l2 Vb
  have p2 : 2 ^ cN c 2 ≤ 2 ^ 6 := Nat.pow_le_pow_right (by decide) (by omega)
  have hc : ∀ i, ¬ (i = 6 ∨ i = 270 + k ∨ i = 276 + k) → offc c k v V i = c i := fun i hi => off_o hi
  obtain ⟨w0, w1, w2⟩ := off_v (c := c) (v := v) (V := V) h0
  have K : keepC c (offc c k v V) := keepC_of Vb (fun i => i = 6 ∨ i = 270 + k ∨ i = 276 + k) hc (fun i hi => by omega)
  have c0 : cN (offc c k v V) 6 = k + 1 := cN_v w0 (by omega)
  have cn : ∀ i, i ≠ 6 → (i < 270 ∨ 298 ≤ i) → cN (offc c k v V) i = cN c i := fun i h1 h2 => cN_cell (hc i (by omega))
  obtain ⟨v0, v1, v2, v3, v4, v5, v6, v7⟩ := Vb.1
  have cells : ∀ {i k' : Nat}, i ≠ 6 → (i < 270 ∨ 298 ≤ i) → nB c i k' → nB (offc c k v V) i k' := fun h1 h2 h => nB_cell (hc _ (by omega)) h
  refine ⟨⟨VB_gen Vb (fun i hi => ?_) ⟨cells (by decide) (by omega) v0, cells (by decide) (by omega) v1, cells (by decide) (by omega) v2, cells (by decide) (by omega) v3, cells (by decide) (by omega) v4, cells (by decide) (by omega) v5, nB_v w0 (by omega) (by decide), cells (by decide) (by omega) v7⟩ ⟨?_, ?_⟩ K (VR_mono Vb.2.2.2.1 (fun i hi => hc _ (by omega)) (by rw [cn 0 (by decide) (by omega)]; exact Nat.le_refl _) (by rw [cn 1 (by decide) (by omega)]; exact Nat.le_refl _)) (fun t h1 h2 => ?_) (fun b h1 h2 => ?_) (fun f h1 h2 => ?_) (fun i h1 h2 => ?_) (fun i h1 h2 => ?_) (fun i h1 h2 => ?_) (fun b hb => ?_), VN_cnt (fun so hso => ?_) Vn, ?_, fun b h1 h2 => ?_⟩, K⟩
  · by_cases z : i = 6
    · rw [z, c0]; omega
    · rw [cn i z (by omega)]; exact Nat.le_refl _
  · rw [cn 0 (by decide) (by omega)]
    exact cells (by decide) (by omega) Vb.2.1.1
  · rw [cn 4 (by decide) (by omega)]
    exact cells (by decide) (by omega) Vb.2.1.2
  · rw [cn 1 (by decide) (by omega)] at h2; omega
  · rw [cn 2 (by decide) (by omega)] at h2; omega
  · rw [cn 3 (by decide) (by omega)] at h2; omega
  · rw [cn 5 (by decide) (by omega)] at h2; omega
  · rw [c0] at h2
    have ei : i = k := by omega
    subst ei
    rw [cn 2 (by decide) (by omega)]
    exact ⟨nB_v w1 hv (by decide), nB_v w2 hV (by omega)⟩
  · rw [cn 7 (by decide) (by omega)] at h2; omega
  · rw [cn 2 (by decide) (by omega)] at hb ⊢
    exact cells (by omega) (by omega) (Vb.2.2.2.2.2.2.2.2.2 b hb)
  · by_cases z : so = 5
    · subst z
      rw [show manyI 5 = 6 from rfl, c0, cN_us (by omega)]
    · have m1' : manyI so ≠ 6 := fun q => z (many_inj (b := 5) q)
      have ml := many_lt hso
      rw [cn _ m1' (by omega), cN_ne updh m1']
  · rw [hc 304 (by omega)]; exact g3
  · rw [cn 2 (by decide) (by omega)] at h1
    rw [hc (100 + b) (by omega), hc (298 + b) (by omega)]; exact g4 b h1 h2
theorem off_full (S : CS Yc h x) (os : isO Yc 4 s) (e : hGi h 302 (hGr h 401 s) = nI k) (hk : k < 2 ^ 31) : Lo_isFull Yc (hGr h 401 s) h = some (decide (¬ k < 6)) := by
  unfold Lo_isFull
  rw [(S.2.2.1 s os).1.1, e]
  by_cases z : k < 6
  · rw [if_pos (show nI k < Int32.ofNat 6 from nI_lt (b := 6) z (by omega)), decide_eq_false (fun q => q z)]
  · rw [if_neg (show ¬ nI k < Int32.ofNat 6 from fun q => z ((nI_ltI (a := k) (b := 6) hk (by decide)).mp q)), decide_eq_true z]
theorem off_add (S : CS Yc h x) (os : isO Yc 4 s) (h0 : k < 6) (e : hGi h 302 (hGr h 401 s) = nI k) : Lo_addOne Yc (hGr h 401 s) (nI v) (nI V) h = some (offh h (hGr h 401 s) k v V) := by
  unfold Lo_addOne offh
  rw [off_full S os e (by omega), bind_s, if_neg (show ¬ decide (¬ k < 6) = true by simpa using h0), e, (S.2.2.1 s os).1.1, if_pos (inB_nI h0 (by decide)), letH_e, gi_ti, e, gr_ti, (S.2.2.1 s os).1.2, if_pos (inB_nI h0 (by decide)), letH_e, letH_e, nI_clamp (by omega)]
  show some (hSi _ 302 (hGr h 401 s) (hGi h 302 (hGr h 401 s) + 1)) = _
  rw [e, nI_1]
theorem off_kf (o3 : isO Yc 3 lo) : Kf Yc lo h (offh h lo k v V) :=
  Kf_tr (Kf_tr (Kf_ti (f := 300) rfl o3) (Kf_ti (h := hTi h (hGr h 300 lo) k (nI v)) (f := 301) rfl o3)) (Kf_si (Or.inl rfl))
theorem off_rs (S : CS Yc h x) (Tt : Ty Yc h) (os : isO Yc 4 s) (R : RS h s c) (Vb : VB c) (e0 : cN c 6 = k) (h0 : k < 6) (K : keepC c (offc c k v V)) : RS (offh h (hGr h 401 s) k v V) s (offc c k v V) := by
  have o6 := Tt.1 400 6 rfl s os
  have oo := Tt.1 401 3 rfl s os
  have oq := Tt.1 402 3 rfl s os
  have l2 := VC_l2 Vb
  have nq : ¬ hGr h 402 s = hGr h 401 s := (fun z => (S.2.2.2.2 s s os os).2.2.2 z.symm)
  have n01 : ¬ hGr h 300 (hGr h 401 s) = hGr h 301 (hGr h 401 s) := fun z => absurd (S.2.2.2.1 300 301 _ _ rfl rfl oo oo z).1 (by decide)
  have hc : ∀ i, ¬ (i = 6 ∨ i = 270 + k ∨ i = 276 + k) → offc c k v V i = c i := fun i hi => off_o hi
  obtain ⟨w0, w1, w2⟩ := off_v (c := c) (v := v) (V := V) h0
  have c0 : cN (offc c k v V) 6 = k + 1 := cN_v w0 (by omega)
  have cn : ∀ i, i ≠ 6 → (i < 270 ∨ 298 ≤ i) → cN (offc c k v V) i = cN c i := fun i h1 h2 => cN_cell (hc i (by omega))
  have A : ∀ {f o j}, cArr f = true → isO Yc (f / 100) o → ((f ≠ 300 ∧ f ≠ 301) ∨ ¬ o = hGr h 401 s) → hAi (offh h (hGr h 401 s) k v V) (hGr h f o) j = hAi h (hGr h f o) j := by
    intro f o j hf ho ne
    have nA : ¬ hGr h f o = hGr h 301 (hGr h 401 s) := fun z => by
      have := S.2.2.2.1 f 301 o _ hf rfl ho oo z
      rcases ne with q | q
      · exact q.2 this.1
      · exact q this.2
    have nB : ¬ hGr h f o = hGr h 300 (hGr h 401 s) := fun z => by
      have := S.2.2.2.1 f 300 o _ hf rfl ho oo z
      rcases ne with q | q
      · exact q.1 this.1
      · exact q this.2
    unfold offh
    rw [ai_si, ai_ti, if_neg (fun z => nA z.1), ai_ti, if_neg (fun z => nB z.1)]
  have B0 : ∀ {j}, j ≠ k → hAi (offh h (hGr h 401 s) k v V) (hGr h 300 (hGr h 401 s)) j = hAi h (hGr h 300 (hGr h 401 s)) j := by
    intro j hj
    unfold offh
    rw [ai_si, ai_ti, if_neg (fun z => hj z.2), ai_ti, if_neg (fun z => hj z.2)]
  have B1 : ∀ {j}, j ≠ k → hAi (offh h (hGr h 401 s) k v V) (hGr h 301 (hGr h 401 s)) j = hAi h (hGr h 301 (hGr h 401 s)) j := by
    intro j hj
    unfold offh
    rw [ai_si, ai_ti, if_neg (fun z => hj z.2), ai_ti, if_neg (fun z => hj z.2)]
  have gq : ∀ f a, ¬ (f = 302 ∧ a = hGr h 401 s) → hGi (offh h (hGr h 401 s) k v V) f a = hGi h f a := by
    intro f a hf
    unfold offh
    rw [gi_si, if_neg hf]
    rfl
  have nw : hGi (offh h (hGr h 401 s) k v V) 302 (hGr h 401 s) = offc c k v V 6 := by
    rw [w0]
    unfold offh
    rw [gi_si, if_pos ⟨rfl, rfl⟩]
  have rc : RC (offh h (hGr h 401 s) k v V) s (offc c k v V) := by
    obtain ⟨r0, r1, r2, r3, r4, r5, r6, r7, r8, r9⟩ := R.1
    exact ⟨(gq 604 _ (fun z => absurd z.1 (by decide))).trans (r0.trans (hc 0 (by omega)).symm), (gq 605 _ (fun z => absurd z.1 (by decide))).trans (r1.trans (hc 1 (by omega)).symm), (gq 415 _ (fun z => absurd z.1 (by decide))).trans (r2.trans (hc 2 (by omega)).symm), (gq 607 _ (fun z => absurd z.1 (by decide))).trans (r3.trans (hc 3 (by omega)).symm), (gq 416 _ (fun z => absurd z.1 (by decide))).trans (r4.trans (hc 4 (by omega)).symm), (gq 418 _ (fun z => absurd z.1 (by decide))).trans (r5.trans (hc 5 (by omega)).symm), nw, (gq 302 _ (fun z => nq z.2)).trans (r7.trans (hc 7 (by omega)).symm), (gq 606 _ (fun z => absurd z.1 (by decide))).trans (r8.trans (hc 8 (by omega)).symm), (gq 417 _ (fun z => absurd z.1 (by decide))).trans (r9.trans (hc 9 (by omega)).symm)⟩
  refine RS_gen R K (fun _ _ => rfl) rc (fun t ht => A rfl o6 (Or.inl (by decide))) (fun t h1 h2 => ?_) (fun i hi => ?_) (fun f hf => ⟨A rfl o6 (Or.inl (by decide)), fun k _ => A rfl o6 (Or.inl (by decide))⟩) (fun f h1 h2 => ?_) (fun b hb => ?_) (fun b h1 h2 => ?_) (fun i hi => A rfl os (Or.inl (by decide))) (fun i h1 h2 => ?_) (fun o ho => by
      rw [e0] at ho
      exact ⟨B0 (by omega), B1 (by omega)⟩) (fun o h1 h2 => ?_) (fun o ho => ⟨A rfl oq (Or.inr (fun z => nq z)), A rfl oq (Or.inr (fun z => nq z))⟩) (fun o h1 h2 => ?_)
  · rw [cn 1 (by decide) (by omega)] at h2; omega
  · rw [A rfl o6 (Or.inl (by decide)), hc _ (by omega)]; exact R.2.1.2.1 i hi
  · rw [cn 3 (by decide) (by omega)] at h2; omega
  · exact ⟨A rfl os (Or.inl (by decide)), A rfl os (Or.inl (by decide)), A rfl os (Or.inl (by decide)), A rfl os (Or.inl (by decide)), by rw [A rfl os (Or.inl (by decide)), hc _ (by omega)]; exact (R.2.2.1 b hb).2.2.2.2.1, fun p _ => A rfl os (Or.inl (by decide))⟩
  · rw [cn 2 (by decide) (by omega)] at h2; omega
  · rw [cn 5 (by decide) (by omega)] at h2; omega
  · rw [c0] at h2
    have ei : o = k := by omega
    subst ei
    rw [w1, w2]
    refine ⟨?_, ?_⟩
    · show hAi (offh h (hGr h 401 s) o v V) (hGr h 300 (hGr h 401 s)) o = _
      unfold offh
      rw [ai_si, ai_ti, if_neg (fun z => n01 z.1), ai_ti, if_pos ⟨rfl, rfl⟩]
    · show hAi (offh h (hGr h 401 s) o v V) (hGr h 301 (hGr h 401 s)) o = _
      unfold offh
      rw [ai_si, ai_ti, if_pos ⟨rfl, rfl⟩]
  · rw [cn 7 (by decide) (by omega)] at h2; omega

end Loff
