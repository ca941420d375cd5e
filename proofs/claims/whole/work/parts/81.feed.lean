/-! ===== feed ===== -/
def bV (v : Int32) (k : Nat) : Int32 := vp_nar .byte (Int8.toInt32 (Int32.toInt8 (v >>> (nI (8 * k) &&& 31))))
theorem bV_8 (v : Int32) (k : Nat) : ∃ z : Int8, bV v k = z.toInt32 := ⟨_, rfl⟩
def p1 (g : Sg) (v : Int32) (k : Nat) : Sg := wTp g (sTl g + 1) (upd (sTp g) (sTl g) (bV v k))
theorem VG_p1 {g : Sg} (V : VG g) (hl : sTl g < 900) (v : Int32) (k : Nat) : VG (p1 g v k) := by
  refine ⟨V.1, V.2.1, hl, fun i hi => ?_, V.2.2.2.2⟩
  have hi' : i < sTl g + 1 := hi
  show ∃ z : Int8, upd (sTp g) (sTl g) (bV v k) i = z.toInt32
  by_cases e : i = sTl g
  · rw [e, pk_us]; exact bV_8 v k
  · rw [pk_un e]; exact V.2.2.2.1 i (by omega)
section FE
variable {Yc Ym : Ly} {hc hm : Hp} {x m : Nat} {kw : Nat → Int64} {g : Sg}
theorem CR_p1 (R : CR Yc hc x kw g) (V : VG g) (v : Int32) (k : Nat) : CR Yc (hSi (hTi hc (hGr hc 700 (hGr hc 1101 x)) (sTl g) (bV v k)) 702 (hGr hc 1101 x) (nI (sTl g + 1))) x kw (p1 g v k) := by
  have hx := R.1.1
  have ne : ∀ f o i, cArr f = true → isO Yc (f / 100) o → f ≠ 700 → hAi (hSi (hTi hc (hGr hc 700 (hGr hc 1101 x)) (sTl g) (bV v k)) 702 (hGr hc 1101 x) (nI (sTl g + 1))) (hGr hc f o) i = hAi hc (hGr hc f o) i := by
    intro f o i h1 h2 h3
    rw [show hAi (hSi (hTi hc (hGr hc 700 (hGr hc 1101 x)) (sTl g) (bV v k)) 702 (hGr hc 1101 x) (nI (sTl g + 1))) (hGr hc f o) i = hAi (hTi hc (hGr hc 700 (hGr hc 1101 x)) (sTl g) (bV v k)) (hGr hc f o) i from rfl, ai_ti, if_neg]
    intro z
    exact h3 (R.1.2.2.2.1 f 700 o _ h1 rfl h2 R.o7 z.1).1
  have gi : ∀ f a, f ≠ 702 → hGi (hSi (hTi hc (hGr hc 700 (hGr hc 1101 x)) (sTl g) (bV v k)) 702 (hGr hc 1101 x) (nI (sTl g + 1))) f a = hGi hc f a := by
    intro f a hf
    rw [gi_si, if_neg (fun z => hf z.1)]; rfl
  obtain ⟨r1, r2, ⟨s1, s2, s3⟩, ⟨t1, t2⟩, p, l, ⟨c1, c2, c3, c4, c5, c6⟩, kk⟩ := R
  have R : CR Yc hc x kw g := ⟨r1, r2, ⟨s1, s2, s3⟩, ⟨t1, t2⟩, p, l, ⟨c1, c2, c3, c4, c5, c6⟩, kk⟩
  refine ⟨CS_congr r1 (fun _ _ _ => rfl), Ty_si r2 (Or.inl rfl), ⟨s1, s2, fun j hj => ?_⟩, ⟨t1, fun t ht => ?_⟩, ⟨?_, fun i hi => ?_⟩, fun i hi => ?_, ?_, kk⟩
  · have hj5 : j < 5 := by have := V.1; have : j ≤ sK g := hj; omega
    have o4 := R.o4 hj5
    have o9 := R.o9 (show j < 6 by omega)
    have o6 := r2.1 400 6 rfl _ o4
    have o31 := r2.1 401 3 rfl _ o4
    have o32 := r2.1 402 3 rfl _ o4
    refine ⟨RS_same ⟨fun f a hf => gi f a ?_, fun f a _ => rfl, fun i => ne 600 _ i rfl o6 (by decide), fun i => ne 601 _ i rfl o6 (by decide), fun i => ne 602 _ i rfl o6 (by decide), fun i => ne 603 _ i rfl o6 (by decide), fun f i h1 h2 => ?_, fun f i h1 h2 => ?_⟩ (s3 j hj).1, RN_eq (s3 j hj).2.1 (gi 414 _ (by omega)) (fun i => rfl) (fun i => ne 404 _ i rfl o4 (by decide)) (fun i => ne 405 _ i rfl o4 (by decide)), RW_eq (s3 j hj).2.2 (fun f h1 h2 => gi f _ (by omega)) (fun f h1 h2 => ?_)⟩
    · simp only [rsF, Bool.or_eq_true, beq_iff_eq] at hf
      omega
    · refine ne f _ i ?_ (by rw [show f / 100 = 4 by omega]; exact o4) (by omega)
      rcases (show f = 406 ∨ f = 407 ∨ f = 408 ∨ f = 409 ∨ f = 410 ∨ f = 411 ∨ f = 412 by omega) with e | e | e | e | e | e | e <;> (subst e; rfl)
    · have cf : cArr f = true := by
        rcases (show f = 300 ∨ f = 301 by omega) with e | e <;> (subst e; rfl)
      exact ⟨ne f _ i cf (by rw [show f / 100 = 3 by omega]; exact o31) (by omega), ne f _ i cf (by rw [show f / 100 = 3 by omega]; exact o32) (by omega)⟩
    · funext i
      refine ne f _ i ?_ (by rw [show f / 100 = 9 by omega]; exact o9) (by omega)
      rcases (show f = 900 ∨ f = 901 ∨ f = 902 ∨ f = 903 ∨ f = 904 by omega) with e | e | e | e | e <;> (subst e; rfl)
  · have := t2 t ht
    rw [← gi 801 _ (by decide), ← gi 802 _ (by decide), ← gi 803 _ (by decide)] at this
    exact this
  · show hGi (hSi (hTi hc (hGr hc 700 (hGr hc 1101 x)) (sTl g) (bV v k)) 702 (hGr hc 1101 x) (nI (sTl g + 1))) 702 (hGr hc 1101 x) = nI (sTl g + 1)
    rw [gi_si, if_pos ⟨rfl, rfl⟩]
  · have hi' : i < sTl g + 1 := hi
    show hAi (hTi hc (hGr hc 700 (hGr hc 1101 x)) (sTl g) (bV v k)) (hGr hc 700 (hGr hc 1101 x)) i = upd (sTp g) (sTl g) (bV v k) i
    rw [ai_ti]
    by_cases e : i = sTl g
    · rw [if_pos ⟨rfl, e⟩, e, pk_us]
    · rw [if_neg (fun z => e z.2), pk_un e]; exact p.2 i (by omega)
  · rw [show hGr (hSi (hTi hc (hGr hc 700 (hGr hc 1101 x)) (sTl g) (bV v k)) 702 (hGr hc 1101 x) (nI (sTl g + 1))) 1108 x = hGr hc 1108 x from rfl, ne 1108 x _ rfl hx (by decide)]
    exact l i hi
  · exact ⟨by rw [gi 1112 _ (by decide)]; exact c1, by rw [gi 1115 _ (by decide)]; exact c2, by rw [gi 1116 _ (by decide)]; exact c3, by rw [gi 1117 _ (by decide)]; exact c4, c5, c6⟩
theorem MR_p1 (R : MR Ym hm m g) (v : Int32) (k : Nat) : MR Ym (hSi (hTi hm (hGr hm 1207 m) (sTl g) (bV v k)) 1208 m (nI (sTl g + 1))) m (p1 g v k) := by
  have ne : ∀ f i, mLen f ≠ 0 → f ≠ 1207 → hAi (hSi (hTi hm (hGr hm 1207 m) (sTl g) (bV v k)) 1208 m (nI (sTl g + 1))) (hGr hm f m) i = hAi hm (hGr hm f m) i := by
    intro f i h1 h2
    rw [show hAi (hSi (hTi hm (hGr hm 1207 m) (sTl g) (bV v k)) 1208 m (nI (sTl g + 1))) (hGr hm f m) i = hAi (hTi hm (hGr hm 1207 m) (sTl g) (bV v k)) (hGr hm f m) i from rfl, ai_ti, if_neg (fun z => h2 (R.1.2.2 f 1207 h1 (by decide) z.1))]
  have gi : ∀ f a, f ≠ 1208 → hGi (hSi (hTi hm (hGr hm 1207 m) (sTl g) (bV v k)) 1208 m (nI (sTl g + 1))) f a = hGi hm f a := by
    intro f a hf
    rw [gi_si, if_neg (fun z => hf z.1)]; rfl
  obtain ⟨r1, r2, b, t, p, l, c1, c2, c3, c4, c5, c6⟩ := R
  refine ⟨MS_congr r1 (fun f => rfl), Ty_si r2 (Or.inl rfl), fun j hj => ⟨fun i hi => (ne 1220 _ (by decide) (by decide)).trans ((b j hj).1 i hi), (b j hj).2⟩, fun z hz => ⟨(ne 1204 _ (by decide) (by decide)).trans (t z hz).1, (ne 1205 _ (by decide) (by decide)).trans (t z hz).2.1, (t z hz).2.2⟩, ⟨?_, fun i hi => ?_⟩, ?_, ?_, ?_, ?_, ?_, c5, c6⟩
  · show hGi (hSi (hTi hm (hGr hm 1207 m) (sTl g) (bV v k)) 1208 m (nI (sTl g + 1))) 1208 m = nI (sTl g + 1)
    rw [gi_si, if_pos ⟨rfl, rfl⟩]
  · have hi' : i < sTl g + 1 := hi
    show hAi (hTi hm (hGr hm 1207 m) (sTl g) (bV v k)) (hGr hm 1207 m) i = upd (sTp g) (sTl g) (bV v k) i
    rw [ai_ti]
    by_cases e : i = sTl g
    · rw [if_pos ⟨rfl, e⟩, e, pk_us]
    · rw [if_neg (fun z => e z.2), pk_un e]; exact p.2 i (by omega)
  · rw [gi 1235 _ (by decide)]
    rcases l with q | ⟨f, q1, q2, q3⟩
    · exact Or.inl q
    · exact Or.inr ⟨f, q1, q2, fun i hi => (ne 1234 _ (by decide) (by decide)).trans (q3 i hi)⟩
  · rw [gi 1200 _ (by decide)]; exact c1
  · rw [gi 1210 _ (by decide)]; exact c2
  · rw [gi 1211 _ (by decide)]; exact c3
  · rw [gi 1223 _ (by decide)]; exact c4
def p4 (g : Sg) (v : Int32) : Sg := p1 (p1 (p1 (p1 g v 3) v 2) v 1) v 0
theorem p4_l (g : Sg) (v : Int32) : sTl (p4 g v) = sTl g + 4 := rfl
theorem VG_p4 (V : VG g) (hl : sTl g + 4 ≤ 900) (v : Int32) : VG (p4 g v) :=
  VG_p1 (VG_p1 (VG_p1 (VG_p1 V (by omega) v 3) (show sTl g + 1 < 900 by omega) v 2) (show sTl g + 2 < 900 by omega) v 1) (show sTl g + 3 < 900 by omega) v 0
theorem put_step (R : CR Yc hc x kw g) (V : VG g) (hl : sTl g < 900) (v : Int32) (F k : Nat) (hk : k < 4) : ∃ h', (∀ k', nI (8 * k) + (-8) = k' → To_putFour_L3 Yc (hGr hc 1101 x) v (F + 1) (nI (8 * k)) hc = To_putFour_L3 Yc (hGr h' 1101 x) v F k' h') ∧ CR Yc h' x kw (p1 g v k) := by
  refine ⟨_, ?_, CR_p1 R V v k⟩
  rintro _ rfl
  rw [To_putFour_L3, if_neg (nI_pos (by omega)), R.2.2.2.2.1.1, if_neg (show ¬ (900 : Int32) ≤ nI (sTl g) from nI_ge (b := 900) hl (by omega)), cl700 R.1 R.o7, if_pos (inB_nI (by omega) (by omega)), nI_clamp (by omega), letH_e, letH_e, show hGi (hTi hc (hGr hc 700 (hGr hc 1101 x)) (sTl g) (vp_nar .byte (Int8.toInt32 (Int32.toInt8 (v >>> (nI (8 * k) &&& 31)))))) 702 (hGr hc 1101 x) = hGi hc 702 (hGr hc 1101 x) from rfl, R.2.2.2.2.1.1, nI_1]
  rfl
theorem To_putFour_s (R : CR Yc hc x kw g) (V : VG g) (hl : sTl g + 4 ≤ 900) (v : Int32) : ∃ h', To_putFour Yc (hGr hc 1101 x) v hc = some h' ∧ CR Yc h' x kw (p4 g v) := by
  unfold To_putFour
  obtain ⟨h1, a1, b1⟩ := put_step R V (by omega) v (FU - 1) 3 (by omega)
  have V1 := VG_p1 V (by omega) v 3
  obtain ⟨h2, a2, b2⟩ := put_step b1 V1 (show sTl g + 1 < 900 by omega) v (FU - 2) 2 (by omega)
  have V2 := VG_p1 V1 (show sTl g + 1 < 900 by omega) v 2
  obtain ⟨h3, a3, b3⟩ := put_step b2 V2 (show sTl g + 2 < 900 by omega) v (FU - 3) 1 (by omega)
  have V3 := VG_p1 V2 (show sTl g + 2 < 900 by omega) v 1
  obtain ⟨h4, a4, b4⟩ := put_step b3 V3 (show sTl g + 3 < 900 by omega) v (FU - 4) 0 (by omega)
  have e1 := a1 (nI (8 * 2)) (by decide)
  have e2 := a2 (nI (8 * 1)) (by decide)
  have e3 := a3 (nI (8 * 0)) (by decide)
  have e4 := a4 (-8) (by decide)
  rw [show FU - 1 + 1 = FU by unfold FU; omega] at e1
  rw [show FU - 2 + 1 = FU - 1 by unfold FU; omega] at e2
  rw [show FU - 3 + 1 = FU - 2 by unfold FU; omega] at e3
  rw [show FU - 4 + 1 = FU - 3 by unfold FU; omega, show FU - 4 = (FU - 5) + 1 by unfold FU; omega, To_putFour_L3, if_pos (by decide)] at e4
  refine ⟨h4, ?_, b4⟩
  exact (e1.trans e2).trans (e3.trans e4)
theorem lay_step (R : MR Ym hm m g) (hl : sTl g < 900) (v : Int32) (F k : Nat) (hk : k < 4) : ∃ h', (∀ k', nI k + (-1) = k' → M_lay_L2 Ym m v (F + 1) (nI k) hm = M_lay_L2 Ym m v F k' h') ∧ MR Ym h' m (p1 g v k) := by
  refine ⟨_, ?_, MR_p1 R v k⟩
  rintro _ rfl
  rw [M_lay_L2, if_neg (nI_pos (by omega)), R.2.2.2.2.1.1, show (8 : Int32) * nI k = nI (8 * k) by simp only [zlit, pk_mul], ml1207 R.1, if_pos (inB_nI (by omega) (by omega)), nI_clamp (by omega), letH_e, letH_e, show hGi (hTi hm (hGr hm 1207 m) (sTl g) (vp_nar .byte (Int8.toInt32 (Int32.toInt8 (v >>> (nI (8 * k) &&& 31)))))) 1208 m = hGi hm 1208 m from rfl, R.2.2.2.2.1.1, nI_1]
  rfl
theorem M_lay_s (R : MR Ym hm m g) (hl : sTl g + 4 ≤ 900) (v : Int32) : ∃ h', M_lay Ym m v hm = some h' ∧ MR Ym h' m (p4 g v) := by
  unfold M_lay
  obtain ⟨h1, a1, b1⟩ := lay_step R (by omega) v (FU - 1) 3 (by omega)
  obtain ⟨h2, a2, b2⟩ := lay_step b1 (show sTl g + 1 < 900 by omega) v (FU - 2) 2 (by omega)
  obtain ⟨h3, a3, b3⟩ := lay_step b2 (show sTl g + 2 < 900 by omega) v (FU - 3) 1 (by omega)
  obtain ⟨h4, a4, b4⟩ := lay_step b3 (show sTl g + 3 < 900 by omega) v (FU - 4) 0 (by omega)
  have e1 := a1 (nI 2) (by decide)
  have e2 := a2 (nI 1) (by decide)
  have e3 := a3 (nI 0) (by decide)
  have e4 := a4 (-1) (by decide)
  rw [show FU - 1 + 1 = FU by unfold FU; omega] at e1
  rw [show FU - 2 + 1 = FU - 1 by unfold FU; omega] at e2
  rw [show FU - 3 + 1 = FU - 2 by unfold FU; omega] at e3
  rw [show FU - 4 + 1 = FU - 3 by unfold FU; omega, show FU - 4 = (FU - 5) + 1 by unfold FU; omega, M_lay_L2, if_pos (by decide)] at e4
  refine ⟨h4, ?_, b4⟩
  exact (e1.trans e2).trans (e3.trans e4)
theorem so_feed (J : JJ Yc Ym hc x hm m kw) (a b c d e : Int32) : SO Yc Ym x m kw (LP_feed Yc x a b c d e hc) (M_feed Ym m a b c d e hm) := by
  obtain ⟨g, RC, RM, V⟩ := J
  have R1 := MR_1 RM
  have hl := V.2.2.1
  unfold LP_feed M_feed
  rw [letH_e, RC.2.2.2.2.1.1, R1.2.2.2.2.1.1, show nI (sTl g) + 20 = nI (sTl g + 20) by simp only [zlit, nI_add]]
  by_cases w : sTl g + 20 ≤ 900
  · have w' : nI (sTl g + 20) ≤ 900 := nI_le (b := 900) w (by omega)
    rw [if_pos w', if_pos w']
    obtain ⟨c1, a1, C1⟩ := To_putFour_s RC V (by omega) a
    have V1 := VG_p4 V (by omega) a
    obtain ⟨c2, a2, C2⟩ := To_putFour_s C1 V1 (show sTl g + 4 + 4 ≤ 900 by omega) b
    have V2 := VG_p4 V1 (show sTl g + 4 + 4 ≤ 900 by omega) b
    obtain ⟨c3, a3, C3⟩ := To_putFour_s C2 V2 (show sTl g + 4 + 4 + 4 ≤ 900 by omega) c
    have V3 := VG_p4 V2 (show sTl g + 4 + 4 + 4 ≤ 900 by omega) c
    obtain ⟨c4, a4, C4⟩ := To_putFour_s C3 V3 (show sTl g + 4 + 4 + 4 + 4 ≤ 900 by omega) d
    have V4 := VG_p4 V3 (show sTl g + 4 + 4 + 4 + 4 ≤ 900 by omega) d
    obtain ⟨c5, a5, C5⟩ := To_putFour_s C4 V4 (show sTl g + 4 + 4 + 4 + 4 + 4 ≤ 900 by omega) e
    have V5 := VG_p4 V4 (show sTl g + 4 + 4 + 4 + 4 + 4 ≤ 900 by omega) e
    obtain ⟨m1', b1, M1⟩ := M_lay_s R1 (show sTl g + 4 ≤ 900 by omega) a
    obtain ⟨m2, b2, M2⟩ := M_lay_s M1 (show sTl g + 4 + 4 ≤ 900 by omega) b
    obtain ⟨m3, b3, M3⟩ := M_lay_s M2 (show sTl g + 4 + 4 + 4 ≤ 900 by omega) c
    obtain ⟨m4, b4, M4⟩ := M_lay_s M3 (show sTl g + 4 + 4 + 4 + 4 ≤ 900 by omega) d
    obtain ⟨m5, b5, M5⟩ := M_lay_s M4 (show sTl g + 4 + 4 + 4 + 4 + 4 ≤ 900 by omega) e
    rw [a1, bind_s, a2, bind_s, a3, bind_s, a4, bind_s, a5, bind_s, b1, bind_s, b2, bind_s, b3, bind_s, b4, bind_s, b5, bind_s, C5.2.2.2.2.1.1, M5.2.2.2.2.1.1]
    exact ⟨_, _, _, rfl, rfl, _, C5, M5, V5⟩
  · have w' : ¬ nI (sTl g + 20) ≤ 900 := fun z => w ((nI_leI (b := 900) (by omega) (by omega)).mp z)
    rw [if_neg w', if_neg w']
    exact ⟨_, _, _, rfl, rfl, g, RC, R1, V⟩
end FE
