/-! ===== the reference: a block copied ===== -/
section MC
variable {Ym : Ly} {hm : Hp} {m : Nat}
theorem M_copyB_s (S : MS Ym hm m) {a b : Nat} (ha : a < 5) (hb : b < 5) (hab : a ≠ b) : ∃ G W, M_copy Ym m (nI a) (nI b) hm = some (hWl (hWi hm (hGr hm 1220 m) G) (hGr hm 1222 m) W) ∧
    (∀ j i, i < 576 → G (576 * j + i) = hAi hm (hGr hm 1220 m) (576 * (if j = b then a else j) + i)) ∧ ∀ j i, i < 56 → W (56 * j + i) = hAl hm (hGr hm 1222 m) (56 * (if j = b then a else j) + i) := by
  have l41 : ∀ G, ∃ W, M_copy_L41 Ym m (nI a) (nI b) FU 0 (hWi hm (hGr hm 1220 m) G) = some (hWl (hWi hm (hGr hm 1220 m) G) (hGr hm 1222 m) W) ∧ ∀ j i, i < 56 → W (56 * j + i) = hAl hm (hGr hm 1222 m) (56 * (if j = b then a else j) + i) := by
    intro G
    have key := upl (Q := fun r => ∃ W, r = some (hWl (hWi hm (hGr hm 1220 m) G) (hGr hm 1222 m) W) ∧ ∀ j i, i < 56 → W (56 * j + i) = hAl hm (hGr hm 1222 m) (56 * (if j = b then a else j) + i))
      (fun F i gg => M_copy_L41 Ym m (nI a) (nI b) F (nI i) (hWl (hWi hm (hGr hm 1220 m) G) (hGr hm 1222 m) gg)) 56
      (fun n gg => ∀ j i, i < 56 → gg (56 * j + i) = hAl hm (hGr hm 1222 m) (56 * (if j = b ∧ i < n then a else j) + i)) ?_ ?_ 56 0 (hAl (hWi hm (hGr hm 1220 m) G) (hGr hm 1222 m)) FU (by omega) (by unfold FU; omega) (fun j i hi => by rw [if_neg (by omega)]; rfl)
    · simp only [wl_self] at key
      exact key
    · intro F i gg hi hI
      right
      show ∃ s', M_copy_L41 Ym m (nI a) (nI b) (F + 1) (nI i) _ = M_copy_L41 Ym m (nI a) (nI b) F (nI (i + 1)) (hWl _ _ s') ∧ _
      rw [M_copy_L41, if_neg (show ¬ (56 : Int32) ≤ nI i from nI_ge (b := 56) hi (by omega)), show (56 : Int32) * nI a + nI i = nI (56 * a + i) by simp only [zlit, pk_mul, nI_add], show (56 : Int32) * nI b + nI i = nI (56 * b + i) by simp only [zlit, pk_mul, nI_add], gr_wl, gr_wi, ml1222 S, if_pos (inB_nI (by omega) (by omega)), if_pos (inB_nI (by omega) (by omega)), letH_e, nI_clamp (by omega), nI_clamp (by omega), al_wl, if_pos rfl, tl_wl, nI_1]
      refine ⟨_, rfl, fun j k hk => ?_⟩
      by_cases e : j = b ∧ k = i
      · rw [e.1, e.2, pk_uLs, hI a i hi, if_neg (fun w => hab w.1), if_pos ⟨rfl, by omega⟩]
      · rw [pk_uLn (by omega), hI j k hk]
        by_cases w : j = b ∧ k < i
        · rw [if_pos w, if_pos (by omega)]
        · rw [if_neg w, if_neg (by omega)]
    · intro F gg hI
      show ∃ W, M_copy_L41 Ym m (nI a) (nI b) (F + 1) (nI 56) _ = _ ∧ _
      rw [M_copy_L41, if_pos (show (56 : Int32) ≤ nI 56 by decide)]
      refine ⟨_, rfl, fun j i hi => ?_⟩
      rw [hI j i hi]
      by_cases w : j = b
      · rw [if_pos w, if_pos ⟨w, hi⟩]
      · rw [if_neg w, if_neg (fun z => w z.1)]
  unfold M_copy
  have key := upl (Q := fun r => ∃ G W, r = some (hWl (hWi hm (hGr hm 1220 m) G) (hGr hm 1222 m) W) ∧ (∀ j i, i < 576 → G (576 * j + i) = hAi hm (hGr hm 1220 m) (576 * (if j = b then a else j) + i)) ∧ ∀ j i, i < 56 → W (56 * j + i) = hAl hm (hGr hm 1222 m) (56 * (if j = b then a else j) + i))
    (fun F i gg => M_copy_L2 Ym m (nI a) (nI b) F (nI i) (hWi hm (hGr hm 1220 m) gg)) 576
    (fun n gg => ∀ j i, i < 576 → gg (576 * j + i) = hAi hm (hGr hm 1220 m) (576 * (if j = b ∧ i < n then a else j) + i)) ?_ ?_ 576 0 (hAi hm (hGr hm 1220 m)) FU (by omega) (by unfold FU; omega) (fun j i hi => by rw [if_neg (by omega)])
  · simp only [wi_self] at key
    exact key
  · intro F i gg hi hI
    right
    show ∃ s', M_copy_L2 Ym m (nI a) (nI b) (F + 1) (nI i) _ = M_copy_L2 Ym m (nI a) (nI b) F (nI (i + 1)) (hWi _ _ s') ∧ _
    rw [M_copy_L2, if_neg (show ¬ (576 : Int32) ≤ nI i from nI_ge (b := 576) hi (by omega)), show (576 : Int32) * nI a + nI i = nI (576 * a + i) by simp only [zlit, pk_mul, nI_add], show (576 : Int32) * nI b + nI i = nI (576 * b + i) by simp only [zlit, pk_mul, nI_add], gr_wi, ml1220 S, if_pos (inB_nI (by omega) (by omega)), if_pos (inB_nI (by omega) (by omega)), letH_e, nI_clamp (by omega), nI_clamp (by omega), ai_wi, if_pos rfl, ti_wi, nI_1]
    refine ⟨_, rfl, fun j k hk => ?_⟩
    by_cases e : j = b ∧ k = i
    · rw [e.1, e.2, pk_us, hI a i hi, if_neg (fun w => hab w.1), if_pos ⟨rfl, by omega⟩]
    · rw [pk_un (by omega), hI j k hk]
      by_cases w : j = b ∧ k < i
      · rw [if_pos w, if_pos (by omega)]
      · rw [if_neg w, if_neg (by omega)]
  · intro F gg hI
    show ∃ G W, M_copy_L2 Ym m (nI a) (nI b) (F + 1) (nI 576) _ = _ ∧ _
    rw [M_copy_L2, if_pos (show (576 : Int32) ≤ nI 576 by decide)]
    obtain ⟨W, w1, w2⟩ := l41 gg
    refine ⟨gg, W, w1, fun j i hi => ?_, w2⟩
    rw [hI j i hi]
    by_cases w : j = b
    · rw [if_pos w, if_pos ⟨w, hi⟩]
    · rw [if_neg w, if_neg (fun z => w z.1)]
/-- a shelf marked, a shelf taken back -/
def wMk (g : Sg) : Sg := (fun j => if j = sK g + 1 then sC g 0 else sC g j, fun j => if j = sK g + 1 then sW g 0 else sW g j, sTs g, sTm g, sTn g, sTl g, sTp g, sLv g, sK g + 1, sSt g, sFk g, sFp g, sTo g, sBo g)
def wBk (g : Sg) : Sg := (fun j => if j = 0 then sC g (sK g) else sC g j, fun j => if j = 0 then sW g (sK g) else sW g j, sTs g, sTm g, sTn g, sTl g, sTp g, sLv g, sK g - 1, sSt g, sFk g, sFp g, sTo g, sBo g)
theorem VG_mk {g : Sg} (V : VG g) (h : sK g < 3) : VG (wMk g) := by
  refine ⟨h, fun j hj => ?_, V.2.2⟩
  have hj' : j ≤ sK g + 1 := hj
  show VB (if j = sK g + 1 then sC g 0 else sC g j) ∧ VN (if j = sK g + 1 then sC g 0 else sC g j) (if j = sK g + 1 then sW g 0 else sW g j)
  by_cases e : j = sK g + 1
  · rw [if_pos e, if_pos e]; exact V.2.1 0 (Nat.zero_le _)
  · rw [if_neg e, if_neg e]; exact V.2.1 j (by omega)
theorem VG_bk {g : Sg} (V : VG g) : VG (wBk g) := by
  refine ⟨Nat.le_trans (Nat.sub_le _ _) V.1, fun j hj => ?_, V.2.2⟩
  have hj' : j ≤ sK g - 1 := hj
  show VB (if j = 0 then sC g (sK g) else sC g j) ∧ VN (if j = 0 then sC g (sK g) else sC g j) (if j = 0 then sW g (sK g) else sW g j)
  by_cases e : j = 0
  · rw [if_pos e, if_pos e]; exact V.2.1 (sK g) (Nat.le_refl _)
  · rw [if_neg e, if_neg e]; exact V.2.1 j (by omega)
/-- the reference, where only blocks and the count of marks changed -/
theorem MR_bl {Y : Ly} {h : Hp} {g : Sg} (R : MR Y h m g) {G : Nat → Int32} {W : Nat → Int64} {C' : Nat → Nat → Int32} {W' : Nat → Nat → Int64} {K' : Nat} (hb : ∀ j, j ≤ K' → (∀ i, i < 576 → G (576 * j + i) = C' j i) ∧ ∀ i, i < 56 → W (56 * j + i) = W' j i) :
    MR Y (hSi (hWl (hWi h (hGr h 1220 m) G) (hGr h 1222 m) W) 1223 m (nI K')) m (C', W', sTs g, sTm g, sTn g, sTl g, sTp g, sLv g, K', sSt g, sFk g, sFp g, sTo g, sBo g) := by
  have ne : ∀ f i, mLen f ≠ 0 → f ≠ 1220 → hAi (hSi (hWl (hWi h (hGr h 1220 m) G) (hGr h 1222 m) W) 1223 m (nI K')) (hGr h f m) i = hAi h (hGr h f m) i := by
    intro f i h1 h2
    rw [show hAi (hSi (hWl (hWi h (hGr h 1220 m) G) (hGr h 1222 m) W) 1223 m (nI K')) (hGr h f m) i = hAi (hWi h (hGr h 1220 m) G) (hGr h f m) i from rfl, ai_wi, if_neg (fun z => h2 (R.1.2.2 f 1220 h1 (by decide) z))]
  have nl : ∀ f i, mLen f ≠ 0 → f ≠ 1222 → hAl (hSi (hWl (hWi h (hGr h 1220 m) G) (hGr h 1222 m) W) 1223 m (nI K')) (hGr h f m) i = hAl h (hGr h f m) i := by
    intro f i h1 h2
    rw [show hAl (hSi (hWl (hWi h (hGr h 1220 m) G) (hGr h 1222 m) W) 1223 m (nI K')) (hGr h f m) i = hAl (hWl (hWi h (hGr h 1220 m) G) (hGr h 1222 m) W) (hGr h f m) i from rfl, al_wl, if_neg (fun z => h2 (R.1.2.2 f 1222 h1 (by decide) z))]
    rfl
  have gi : ∀ f a, f ≠ 1223 → hGi (hSi (hWl (hWi h (hGr h 1220 m) G) (hGr h 1222 m) W) 1223 m (nI K')) f a = hGi h f a := by
    intro f a hf
    rw [gi_si, if_neg (fun z => hf z.1)]; rfl
  obtain ⟨r1, r2, b, t, p, l, c1, c2, c3, c4, c5, c6⟩ := R
  refine ⟨MS_congr r1 (fun f => rfl), Ty_si r2 (Or.inl rfl), fun j hj => ⟨fun i hi => ?_, fun i hi => ?_⟩, fun z hz => ⟨(ne 1204 _ (by decide) (by decide)).trans (t z hz).1, (ne 1205 _ (by decide) (by decide)).trans (t z hz).2.1, fun i hi => (nl 1206 _ (by decide) (by decide)).trans ((t z hz).2.2 i hi)⟩, ⟨?_, fun i hi => ?_⟩, ?_, ?_, ?_, ?_, ?_, c5, c6⟩
  · show hAi (hWi h (hGr h 1220 m) G) (hGr h 1220 m) (576 * j + i) = C' j i
    rw [ai_wi, if_pos rfl]; exact (hb j hj).1 i hi
  · show hAl (hWl (hWi h (hGr h 1220 m) G) (hGr h 1222 m) W) (hGr h 1222 m) (56 * j + i) = W' j i
    rw [al_wl, if_pos rfl]; exact (hb j hj).2 i hi
  · rw [gi 1208 _ (by decide)]; exact p.1
  · exact (ne 1207 _ (by decide) (by decide)).trans (p.2 i hi)
  · rw [gi 1235 _ (by decide)]
    rcases l with q | ⟨f, q1, q2, q3⟩
    · exact Or.inl q
    · exact Or.inr ⟨f, q1, q2, fun i hi => (ne 1234 _ (by decide) (by decide)).trans (q3 i hi)⟩
  · rw [gi 1200 _ (by decide)]; exact c1
  · rw [gi 1210 _ (by decide)]; exact c2
  · rw [gi 1211 _ (by decide)]; exact c3
  · show hGi (hSi (hWl (hWi h (hGr h 1220 m) G) (hGr h 1222 m) W) 1223 m (nI K')) 1223 m = nI K'
    rw [gi_si, if_pos ⟨rfl, rfl⟩]
theorem M_mark_s {g : Sg} (R0 : MR Ym (mst hm m) m g) (V : VG g) (hk : sK g < 3) : ∃ hh, M_mark Ym m hm = some (nI (sK g + 1), hh) ∧ MR Ym hh m (wMk g) := by
  unfold M_mark
  rw [letH_e, letH_e, show hSi (hSi hm 1201 m 0) 1200 m 0 = mst hm m from rfl, R0.2.2.2.2.2.2.2.2.2.1, if_neg (show ¬ nI (sK g) = 3 from by intro z; have z' : nI (sK g) = nI 3 := z; rw [nI_eq (by omega) (by omega)] at z'; omega), letH_e, nI_1, gi_si, if_pos ⟨rfl, rfl⟩]
  obtain ⟨G, W, e1, e2, e3⟩ := M_copyB_s (Ym := Ym) (hm := hSi (mst hm m) 1223 m (nI (sK g + 1))) (m := m) (MS_congr (h := mst hm m) R0.1 (fun _ => rfl)) (a := 0) (b := sK g + 1) (by omega) (by omega) (by omega)
  rw [show (0 : Int32) = nI 0 from rfl, e1, bind_s]
  refine ⟨_, ?_, MR_bl (G := G) (W := W) (K' := sK g + 1) R0 (fun j hj => ⟨fun i hi => ?_, fun i hi => ?_⟩)⟩
  · rw [gi_wl, gi_wi, gi_si, if_pos ⟨rfl, rfl⟩]
    rfl
  · rw [e2 j i hi]
    show hAi (mst hm m) (hGr (mst hm m) 1220 m) _ = (if j = sK g + 1 then sC g 0 else sC g j) i
    by_cases e : j = sK g + 1
    · rw [if_pos e, if_pos e]; exact (R0.2.2.1 0 (Nat.zero_le _)).1 i hi
    · rw [if_neg e, if_neg e]; exact (R0.2.2.1 j (by omega)).1 i hi
  · rw [e3 j i hi]
    show hAl (mst hm m) (hGr (mst hm m) 1222 m) _ = (if j = sK g + 1 then sW g 0 else sW g j) i
    by_cases e : j = sK g + 1
    · rw [if_pos e, if_pos e]; exact (R0.2.2.1 0 (Nat.zero_le _)).2 i hi
    · rw [if_neg e, if_neg e]; exact (R0.2.2.1 j (by omega)).2 i hi
theorem M_back_s {g : Sg} (R0 : MR Ym (mst hm m) m g) (V : VG g) (hk : 0 < sK g) : ∃ hh, M_back Ym m hm = some (nI (sK g - 1), hh) ∧ MR Ym hh m (wBk g) := by
  have k3 := V.1
  unfold M_back
  rw [letH_e, letH_e, show hSi (hSi hm 1201 m 0) 1200 m 0 = mst hm m from rfl, R0.2.2.2.2.2.2.2.2.2.1, if_neg (show ¬ nI (sK g) = 0 from by intro z; have z' : nI (sK g) = nI 0 := z; rw [nI_eq (by omega) (by omega)] at z'; omega)]
  obtain ⟨G, W, e1, e2, e3⟩ := M_copyB_s (Ym := Ym) (hm := mst hm m) (m := m) R0.1 (a := sK g) (b := 0) (by omega) (by omega) (by omega)
  rw [show (0 : Int32) = nI 0 from rfl, e1, bind_s, letH_e, gi_wl, gi_wi, R0.2.2.2.2.2.2.2.2.2.1, show (1 : Int32) = nI 1 from rfl, pk_sub (by omega), gi_si, if_pos ⟨rfl, rfl⟩]
  refine ⟨_, rfl, MR_bl (G := G) (W := W) (K' := sK g - 1) R0 (fun j hj => ⟨fun i hi => ?_, fun i hi => ?_⟩)⟩
  · rw [e2 j i hi]
    show hAi (mst hm m) (hGr (mst hm m) 1220 m) _ = (if j = 0 then sC g (sK g) else sC g j) i
    by_cases e : j = 0
    · rw [if_pos e, if_pos e]; exact (R0.2.2.1 (sK g) (Nat.le_refl _)).1 i hi
    · rw [if_neg e, if_neg e]; exact (R0.2.2.1 j (by omega)).1 i hi
  · rw [e3 j i hi]
    show hAl (mst hm m) (hGr (mst hm m) 1222 m) _ = (if j = 0 then sW g (sK g) else sW g j) i
    by_cases e : j = 0
    · rw [if_pos e, if_pos e]; exact (R0.2.2.1 (sK g) (Nat.le_refl _)).2 i hi
    · rw [if_neg e, if_neg e]; exact (R0.2.2.1 j (by omega)).2 i hi
end MC
