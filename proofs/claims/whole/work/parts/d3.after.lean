/-! ===== behind a text: class and reference in the state again ===== -/
def wSh (g : Sg) (c : Nat → Int32) (w : Nat → Int64) : Sg := (fun j => if j = 0 then c else sC g j, fun j => if j = 0 then w else sW g j, sTs g, sTm g, sTn g, sTl g, sTp g, sLv g, sK g, sSt g, sFk g, sFp g, sTo g, sBo g)
/-- P holds of nothing that the state g speaks of -/
def offG (Y : Ly) (h : Hp) (x : Nat) (g : Sg) (P : Nat → Prop) : Prop := (∀ j, j ≤ sK g → ¬ P (shA h x j) ∧ ¬ P (hGr h 400 (shA h x j)) ∧ ¬ P (hGr h 401 (shA h x j)) ∧ ¬ P (hGr h 402 (shA h x j)) ∧ ¬ P (wkA h x j)) ∧ (∀ a, isO Y 8 a → ¬ P a) ∧ ¬ P x ∧ ¬ P (hGr h 1101 x)
section AFT
variable {Yc Ym : Ly} {hc hm h h' : Hp} {x m s t n : Nat} {kw : Nat → Int64} {g : Sg} {P : Nat → Prop} {c : Nat → Int32} {w : Nat → Int64}
theorem VG_tp (V : VG g) {tp : Nat → Int32} : VG (wTp g 0 tp) := ⟨V.1, V.2.1, Nat.zero_le _, fun i hi => absurd hi (Nat.not_lt_zero i), V.2.2.2.2⟩
theorem VG_ft (V : VG g) {a b : Int32} : VG (wFt g a b) := V
theorem VG_sh (V : VG g) (B : VB c) (N : VN c w) : VG (wSh g c w) := by
  refine ⟨V.1, fun j hj => ?_, V.2.2⟩
  show VB (if j = 0 then c else sC g j) ∧ VN (if j = 0 then c else sC g j) (if j = 0 then w else sW g j)
  by_cases e : j = 0
  · rw [if_pos e, if_pos e]; exact ⟨B, N⟩
  · rw [if_neg e, if_neg e]; exact V.2.1 j hj
theorem CR_kp (R : CR Yc hc x kw g) (V : VG g) (N : offG Yc hc x g P) (K : Kw Yc P (hGr hc 1101 x) hc h') (e7 : hGi h' 702 (hGr hc 1101 x) = nI 0) {tp : Nat → Int32} : CR Yc h' x kw (wTp g 0 tp) := by
  have hx := R.1.1
  have o7 := R.o7
  have gr : ∀ f a, hGr h' f a = hGr hc f a := K.2.2.1
  have ar : ∀ A i, hAr h' A i = hAr hc A i := K.2.2.2.1
  have sh : ∀ i, shA h' x i = shA hc x i := by
    intro i; unfold shA; rw [gr, gr, gr, ar]
  have wk : ∀ i, wkA h' x i = wkA hc x i := by
    intro i; unfold wkA; rw [gr, sh, gr]
  have tr : ∀ t, trA h' x t = trA hc x t := by
    intro t; unfold trA; rw [gr, ar]
  have gi : ∀ {k : Nat} (f a), isO Yc k a → k ≠ 7 → ¬ P a → hGi h' f a = hGi hc f a := fun f a ha hk np => K.1 f a np (isO_ne ha o7 hk)
  have gl : ∀ {k : Nat} (f a), isO Yc k a → k ≠ 7 → hGl h' f a = hGl hc f a := fun f a ha hk => K.2.1 f a (isO_ne ha o7 hk)
  have ga : ∀ f o, cArr f = true → isO Yc (f / 100) o → ¬ P o → hAi h' (hGr hc f o) = hAi hc (hGr hc f o) ∧ hAl h' (hGr hc f o) = hAl hc (hGr hc f o) := by
    intro f o hf ho np
    have q := fun i => K.2.2.2.2.1 (hGr hc f o) i (fun f' o' p hf' ho2 w => np (by rw [(R.1.2.2.2.1 f f' o o' hf hf' ho ho2 w).2]; exact p))
    exact ⟨funext fun i => (q i).1, funext fun i => (q i).2⟩
  obtain ⟨n0, n8, n11, n7⟩ := N
  obtain ⟨r1, r2, ⟨s1, s2, s3⟩, ⟨t1, t2⟩, p, l, ⟨c1, c2, c3, c4, c5, c6⟩, kk⟩ := R
  have R : CR Yc hc x kw g := ⟨r1, r2, ⟨s1, s2, s3⟩, ⟨t1, t2⟩, p, l, ⟨c1, c2, c3, c4, c5, c6⟩, kk⟩
  refine ⟨CS_congr r1 (fun f a _ => gr f a), K.2.2.2.2.2 r2, ⟨fun i j hi hj => by rw [sh, sh]; exact s1 i j hi hj, fun i j hi hj => by rw [wk, wk]; exact s2 i j hi hj, fun j hj => ?_⟩, ⟨fun i j hi hj => by rw [tr, tr]; exact t1 i j hi hj, fun t ht => ?_⟩, ⟨?_, fun i hi => absurd hi (Nat.not_lt_zero i)⟩, ?_, ?_, ?_⟩
  · have hj' : j ≤ sK g := hj
    have k3 := V.1
    rw [sh, wk]
    have oj := R.o4 (i := j) (by omega)
    have o9 := R.o9 (i := j) (by omega)
    obtain ⟨u0, u6, u1, u2, u9⟩ := n0 j hj'
    have o6 := r2.1 400 6 rfl _ oj
    have o1 := r2.1 401 3 rfl _ oj
    have o2 := r2.1 402 3 rfl _ oj
    have q := s3 j hj'
    have ai : ∀ f o, cArr f = true → isO Yc (f / 100) o → ¬ P o → ∀ i, hAi h' (hGr h' f o) i = hAi hc (hGr hc f o) i := by
      intro f o hf ho hp i
      rw [gr, (ga f o hf ho hp).1]
    refine ⟨RS_ag (V.2.1 j hj').1 q.1 (fun f h1 h2 => ?_) (fun f h1 h2 => gi f _ oj (by decide) u0) ?_ ?_ (fun f i h1 h2 hi => ?_) (fun f i h1 h2 hi => ?_) (fun f i h1 h2 hi => ?_) (fun f i h1 h2 hi => ?_), RN_ag (V.2.1 j hj').1.1 q.2.1 (gi 414 _ oj (by decide) u0) (fun i hi => ?_) (fun i hi => ai 404 _ rfl oj u0 i) (fun i hi => ai 405 _ rfl oj u0 i), RW_ag q.2.2 (fun f h1 h2 => gi f _ o9 (by decide) u9) (fun f i h1 h2 hi => ?_)⟩
    · rw [gr, gi f _ o6 (by decide) u6]
    · rw [gr, gi 302 _ o1 (by decide) u1]
    · rw [gr, gi 302 _ o2 (by decide) u2]
    · rw [gr 400]
      refine ai f _ ?_ (by rw [show f / 100 = 6 by omega]; exact o6) u6 i
      rcases (show f = 600 ∨ f = 601 ∨ f = 602 ∨ f = 603 by omega) with e | e | e | e <;> (subst e; rfl)
    · refine ai f _ ?_ (by rw [show f / 100 = 4 by omega]; exact oj) u0 i
      rcases (show f = 406 ∨ f = 407 ∨ f = 408 ∨ f = 409 ∨ f = 410 ∨ f = 411 ∨ f = 412 by omega) with e | e | e | e | e | e | e <;> (subst e; rfl)
    · rw [gr 401]
      refine ai f _ ?_ (by rw [show f / 100 = 3 by omega]; exact o1) u1 i
      rcases (show f = 300 ∨ f = 301 by omega) with e | e <;> (subst e; rfl)
    · rw [gr 402]
      refine ai f _ ?_ (by rw [show f / 100 = 3 by omega]; exact o2) u2 i
      rcases (show f = 300 ∨ f = 301 by omega) with e | e <;> (subst e; rfl)
    · rw [gr, (ga 403 _ rfl oj u0).2]
    · refine ai f _ ?_ (by rw [show f / 100 = 9 by omega]; exact o9) u9 i
      rcases (show f = 900 ∨ f = 901 ∨ f = 902 ∨ f = 903 ∨ f = 904 by omega) with e | e | e | e | e <;> (subst e; rfl)
  · have o8 := R.o8 ht
    have np := n8 _ o8
    rw [tr, gi 801 _ o8 (by decide) np, gi 802 _ o8 (by decide) np, gi 803 _ o8 (by decide) np, gr 800, (ga 800 _ rfl o8 np).2]
    exact t2 t ht
  · rw [gr 1101 x]
    exact e7
  · unfold LVc
    rw [gr 1108 x, (ga 1108 _ rfl hx n11).1]
    exact l
  · exact ⟨(gi 1112 _ hx (by decide) n11).trans c1, (gi 1115 _ hx (by decide) n11).trans c2, (gi 1116 _ hx (by decide) n11).trans c3, (gi 1117 _ hx (by decide) n11).trans c4, (gl _ _ hx (by decide)).trans c5, (gl _ _ hx (by decide)).trans c6⟩
  · rw [gr 1101 x, gr 701, (ga 701 _ rfl o7 n7).2]
    exact kk
theorem CR_ft (R : CR Yc h x kw g) (a b : Int32) : CR Yc (hSi (hSi h 1115 x a) 1116 x b) x kw (wFt g a b) := by
  have gi : ∀ f y, f ≠ 1115 → f ≠ 1116 → hGi (hSi (hSi h 1115 x a) 1116 x b) f y = hGi h f y := fun f y h1 h2 => by rw [gi_si, if_neg (fun z => h2 z.1), gi_si, if_neg (fun z => h1 z.1)]
  obtain ⟨r1, r2, ⟨s1, s2, s3⟩, ⟨t1, t2⟩, p, l, ⟨c1, c2, c3, c4, c5, c6⟩, kk⟩ := R
  refine ⟨CS_congr r1 (fun f a _ => rfl), Ty_si (Ty_si r2 (Or.inl rfl)) (Or.inl rfl), ⟨s1, s2, fun j hj => ?_⟩, ⟨t1, fun t ht => ?_⟩, ⟨(gi 702 _ (by decide) (by decide)).trans p.1, p.2⟩, l, ⟨(gi 1112 _ (by decide) (by decide)).trans c1, ?_, ?_, (gi 1117 _ (by decide) (by decide)).trans c4, c5, c6⟩, kk⟩
  · obtain ⟨q1, q2, q3⟩ := s3 j hj
    refine ⟨RS_same (h := h) ⟨fun f a hf => gi f a ?_ ?_, fun f a hf => rfl, fun i => rfl, fun i => rfl, fun i => rfl, fun i => rfl, fun f i _ _ => rfl, fun f i _ _ => ⟨rfl, rfl⟩⟩ q1, RN_eq (h := h) q2 (gi 414 _ (by decide) (by decide)) (fun i => rfl) (fun i => rfl) (fun i => rfl), RW_eq (h := h) q3 (fun f h1 h2 => gi f _ (by omega) (by omega)) (fun f h1 h2 => rfl)⟩
    · intro z; subst z; cases hf
    · intro z; subst z; cases hf
  · rcases t2 t ht with q | ⟨n, z, q1, q2, q3, q4, q5, q6, q7, q8⟩
    · exact Or.inl ⟨q.1, (gi 801 _ (by decide) (by decide)).trans q.2⟩
    · exact Or.inr ⟨n, z, q1, q2, q3, q4, (gi 801 _ (by decide) (by decide)).trans q5, (gi 803 _ (by decide) (by decide)).trans q6, (gi 802 _ (by decide) (by decide)).trans q7, q8⟩
  · show hGi (hSi (hSi h 1115 x a) 1116 x b) 1115 x = a
    rw [gi_si, if_neg (by omega), gi_si, if_pos ⟨rfl, rfl⟩]
  · show hGi (hSi (hSi h 1115 x a) 1116 x b) 1116 x = b
    rw [gi_si, if_pos ⟨rfl, rfl⟩]
def swH (h : Hp) (x : Nat) : Hp := hSr (hSr h 1109 x (hGr h 1110 x)) 1110 x (hGr h 1109 x)
theorem sw_sh (i : Nat) : shA (swH h x) x i = shA h x (swB 4 i) := by
  have g4 : hGr (swH h x) 1104 x = hGr h 1104 x := by unfold swH; rw [gr_sr, if_neg (by omega), gr_sr, if_neg (by omega)]
  have g10 : hGr (swH h x) 1110 x = hGr h 1109 x := by unfold swH; rw [gr_sr, if_pos ⟨rfl, rfl⟩]
  have g9 : hGr (swH h x) 1109 x = hGr h 1110 x := by unfold swH; rw [gr_sr, if_neg (by omega), gr_sr, if_pos ⟨rfl, rfl⟩]
  unfold shA swB
  rw [g4, g10, g9]
  by_cases e0 : i = 0
  · rw [if_pos e0, if_pos e0, if_neg (by omega), if_pos rfl]
  · rw [if_neg e0, if_neg e0]
    by_cases e4 : i = 4
    · rw [if_pos e4, if_pos e4, if_pos rfl]
    · rw [if_neg e4, if_neg e4, if_neg e0, if_neg e4]
      rfl
theorem sw_wk (i : Nat) : wkA (swH h x) x i = wkA h x (swB 4 i) := by
  have g11 : hGr (swH h x) 1111 x = hGr h 1111 x := by unfold swH; rw [gr_sr, if_neg (by omega), gr_sr, if_neg (by omega)]
  have g13 : ∀ s, hGr (swH h x) 413 s = hGr h 413 s := by intro s; unfold swH; rw [gr_sr, if_neg (by omega), gr_sr, if_neg (by omega)]
  unfold wkA
  rw [g11, g13, sw_sh]
  by_cases e : i = 5
  · rw [if_pos e, if_pos (by unfold swB; rw [if_neg (by omega), if_neg (by omega)]; exact e)]
  · rw [if_neg e, if_neg]
    unfold swB
    split
    · omega
    · split
      · omega
      · omega
theorem CR_sw (R : CR Yc h x kw g) (V : VG g) (q1 : RS h (shA h x 4) c) (q2 : RN h (shA h x 4) c w) (q3 : RW h (wkA h x 4) c) : CR Yc (swH h x) x kw (wSh g c w) := by
  have hx := R.1.1
  have k3 := V.1
  have gr : ∀ f a, f ≠ 1109 → f ≠ 1110 → hGr (swH h x) f a = hGr h f a := by
    intro f a h1 h2
    unfold swH
    rw [gr_sr, if_neg (fun z => h2 z.1), gr_sr, if_neg (fun z => h1 z.1)]
  have tr : ∀ t, trA (swH h x) x t = trA h x t := by
    intro t
    unfold trA
    rw [gr 1100 x (by decide) (by decide)]
    rfl
  obtain ⟨r1, r2, ⟨s1, s2, s3⟩, ⟨t1, t2⟩, p, l, ⟨c1, c2, c3, c4, c5, c6⟩, kk⟩ := R
  have ty : Ty Yc (swH h x) := Ty_sr (kt := 4) (Ty_sr (kt := 4) r2 rfl (r2.1 1110 4 rfl x hx)) rfl (r2.1 1109 4 rfl x hx)
  refine ⟨CS_congr r1 (fun f a hf => gr f a (fun z => by subst z; cases hf) (fun z => by subst z; cases hf)), ty, ⟨fun i j hi hj e => ?_, fun i j hi hj e => ?_, fun j hj => ?_⟩, ⟨fun i j hi hj => by rw [tr, tr]; exact t1 i j hi hj, fun t ht => ?_⟩, ?_, ?_, ⟨c1, c2, c3, c4, c5, c6⟩, ?_⟩
  · rw [sw_sh, sw_sh] at e
    exact swB_inj (s1 _ _ (swB_lt (by omega) hi) (swB_lt (by omega) hj) e)
  · rw [sw_wk, sw_wk] at e
    exact swB_inj (s2 _ _ (swB_lt (by omega) hi) (swB_lt (by omega) hj) e)
  · have hj' : j ≤ sK g := hj
    rw [sw_sh, sw_wk]
    have q : RS h (shA h x (swB 4 j)) (if j = 0 then c else sC g j) ∧ RN h (shA h x (swB 4 j)) (if j = 0 then c else sC g j) (if j = 0 then w else sW g j) ∧ RW h (wkA h x (swB 4 j)) (if j = 0 then c else sC g j) := by
      unfold swB
      by_cases e : j = 0
      · rw [if_pos e, if_pos e, if_pos e]; exact ⟨q1, q2, q3⟩
      · rw [if_neg e, if_neg e, if_neg e, if_neg (show ¬ j = 4 by omega)]; exact s3 j hj'
    show RS _ _ (if j = 0 then c else sC g j) ∧ RN _ _ (if j = 0 then c else sC g j) (if j = 0 then w else sW g j) ∧ RW _ _ (if j = 0 then c else sC g j)
    refine ⟨RS_same (h := h) ⟨fun f a hf => rfl, fun f a hf => gr f a (fun z => by subst z; cases hf) (fun z => by subst z; cases hf), fun i => rfl, fun i => rfl, fun i => rfl, fun i => rfl, fun f i _ _ => rfl, fun f i _ _ => ⟨rfl, rfl⟩⟩ q.1, RN_eq (h := h) q.2.1 rfl (fun i => by rw [gr 403 _ (by decide) (by decide)]; rfl) (fun i => by rw [gr 404 _ (by decide) (by decide)]; rfl) (fun i => by rw [gr 405 _ (by decide) (by decide)]; rfl), RW_eq (h := h) q.2.2 (fun f h1 h2 => rfl) (fun f h1 h2 => by rw [gr f _ (by omega) (by omega)]; rfl)⟩
  · rw [tr, gr 800 _ (by decide) (by decide)]
    exact t2 t ht
  · unfold TPc
    rw [gr 1101 x (by decide) (by decide), gr 700 _ (by decide) (by decide)]
    exact p
  · unfold LVc
    rw [gr 1108 x (by decide) (by decide)]
    exact l
  · rw [gr 1101 x (by decide) (by decide), gr 701 _ (by decide) (by decide)]
    exact kk
/-! the reference -/
theorem si_self {f a : Nat} {v : Int32} (e : hGi h f a = v) : hSi h f a v = h := by
  have : (fun x y => if x = f ∧ y = a then v else hGi h x y) = h.1 := by
    funext x y
    by_cases z : x = f ∧ y = a
    · rw [if_pos z, z.1, z.2]; exact e.symm
    · rw [if_neg z]; rfl
  show ((fun x y => if x = f ∧ y = a then v else hGi h x y), h.2) = h
  rw [this]
theorem MR_mp (R : MR Ym h m g) (V : VG g) (K : Mp Ym m h h') : MR Ym h' m g := by
  obtain ⟨r1, r2, b, t, p, l, c1, c2, c3, c4, c5, c6⟩ := R
  obtain ⟨k1, k2, k3, k4, k5, k6, k7, k8⟩ := K
  have v3 := V.1
  refine ⟨MS_congr r1 (fun f => k3 f m), k8 r2, fun j hj => ⟨fun i hi => ?_, fun i hi => ?_⟩, fun z hz => ⟨?_, ?_, fun i hi => ?_⟩, ⟨?_, fun i hi => ?_⟩, ?_, ?_, ?_, ?_, ?_, (k2 _ _ (by omega)).trans c5, (k2 _ _ (by omega)).trans c6⟩
  · rw [k3, k6 _ (by omega)]; exact (b j hj).1 i hi
  · rw [k3, k7 _ (by omega)]; exact (b j hj).2 i hi
  · rw [k3, k4 1204 (by decide) (by decide)]; exact (t z hz).1
  · rw [k3, k4 1205 (by decide) (by decide)]; exact (t z hz).2.1
  · rw [k3, k5 1206 (by decide) (by decide)]; exact (t z hz).2.2 i hi
  · rw [k1 1208 _ (by omega)]; exact p.1
  · rw [k3, k4 1207 (by decide) (by decide)]; exact p.2 i hi
  · rw [k1 1235 _ (by omega)]
    rcases l with q | ⟨f, q1, q2, q3⟩
    · exact Or.inl q
    · exact Or.inr ⟨f, q1, q2, fun i hi => by rw [k3, k4 1234 (by decide) (by decide)]; exact q3 i hi⟩
  · rw [k1 1200 _ (by omega)]; exact c1
  · rw [k1 1210 _ (by omega)]; exact c2
  · rw [k1 1211 _ (by omega)]; exact c3
  · rw [k1 1223 _ (by omega)]; exact c4
theorem MR_tp (R : MR Ym h m g) {tp : Nat → Int32} : MR Ym (mbH h m n) m (wTp g 0 tp) := by
  have gi : ∀ f y, f ≠ 1208 → f ≠ 1209 → hGi (mbH h m n) f y = hGi h f y := fun f y h1 h2 => by unfold mbH; rw [gi_si, if_neg (fun z => h1 z.1), gi_si, if_neg (fun z => h2 z.1)]
  obtain ⟨r1, r2, b, t, p, l, c1, c2, c3, c4, c5, c6⟩ := R
  refine ⟨MS_congr r1 (fun f => rfl), Ty_si (Ty_si r2 (Or.inl rfl)) (Or.inl rfl), b, t, ⟨?_, fun i hi => absurd hi (Nat.not_lt_zero i)⟩, ?_, (gi _ _ (by decide) (by decide)).trans c1, (gi _ _ (by decide) (by decide)).trans c2, (gi _ _ (by decide) (by decide)).trans c3, (gi _ _ (by decide) (by decide)).trans c4, c5, c6⟩
  · show hGi (mbH h m n) 1208 m = nI 0
    unfold mbH
    rw [gi_si, if_pos ⟨rfl, rfl⟩]
    rfl
  · rcases l with q | ⟨f, q1, q2, q3⟩
    · exact Or.inl ⟨q.1, (gi _ _ (by decide) (by decide)).trans q.2⟩
    · exact Or.inr ⟨f, q1, (gi _ _ (by decide) (by decide)).trans q2, q3⟩
theorem MR_ft (R : MR Ym h m g) (a b : Int32) : MR Ym (hSi (hSi h 1210 m a) 1211 m b) m (wFt g a b) := by
  have gi : ∀ f y, f ≠ 1210 → f ≠ 1211 → hGi (hSi (hSi h 1210 m a) 1211 m b) f y = hGi h f y := fun f y h1 h2 => by rw [gi_si, if_neg (fun z => h2 z.1), gi_si, if_neg (fun z => h1 z.1)]
  obtain ⟨r1, r2, bb, t, p, l, c1, c2, c3, c4, c5, c6⟩ := R
  refine ⟨MS_congr r1 (fun f => rfl), Ty_si (Ty_si r2 (Or.inl rfl)) (Or.inl rfl), bb, t, ⟨(gi _ _ (by decide) (by decide)).trans p.1, p.2⟩, ?_, (gi _ _ (by decide) (by decide)).trans c1, ?_, ?_, (gi _ _ (by decide) (by decide)).trans c4, c5, c6⟩
  · rcases l with q | ⟨f, q1, q2, q3⟩
    · exact Or.inl ⟨q.1, (gi _ _ (by decide) (by decide)).trans q.2⟩
    · exact Or.inr ⟨f, q1, (gi _ _ (by decide) (by decide)).trans q2, q3⟩
  · show hGi (hSi (hSi h 1210 m a) 1211 m b) 1210 m = a
    rw [gi_si, if_neg (by omega), gi_si, if_pos ⟨rfl, rfl⟩]
  · show hGi (hSi (hSi h 1210 m a) 1211 m b) 1211 m = b
    rw [gi_si, if_pos ⟨rfl, rfl⟩]
/-- block 4 becomes the shelf -/
theorem MR_cp (R : MR Ym h m g) (V : VG g) (b4 : ∀ i, i < 576 → hAi h (hGr h 1220 m) (2304 + i) = c i) (w4 : ∀ i, i < 56 → hAl h (hGr h 1222 m) (224 + i) = w i) : ∃ h', M_copy Ym m 4 0 h = some h' ∧ MR Ym h' m (wSh g c w) ∧ MS Ym h' m := by
  have k3 := V.1
  obtain ⟨G, W, e1, e2, e3⟩ := M_copyB_s R.1 (a := 4) (b := 0) (by decide) (by decide) (by decide)
  have M1 := MR_bl (G := G) (W := W) (C' := fun j => if j = 0 then c else sC g j) (W' := fun j => if j = 0 then w else sW g j) (K' := sK g) R (fun j hj => ⟨fun i hi => ?_, fun i hi => ?_⟩)
  · rw [si_self (show hGi (hWl (hWi h (hGr h 1220 m) G) (hGr h 1222 m) W) 1223 m = nI (sK g) from R.2.2.2.2.2.2.2.2.2.1)] at M1
    exact ⟨_, e1, M1, M1.1⟩
  · rw [e2 j i hi]
    show hAi h (hGr h 1220 m) _ = (if j = 0 then c else sC g j) i
    by_cases e : j = 0
    · rw [if_pos e, if_pos e]; exact b4 i hi
    · rw [if_neg e, if_neg e]; exact (R.2.2.1 j hj).1 i hi
  · rw [e3 j i hi]
    show hAl h (hGr h 1222 m) _ = (if j = 0 then w else sW g j) i
    by_cases e : j = 0
    · rw [if_pos e, if_pos e]; exact w4 i hi
    · rw [if_neg e, if_neg e]; exact (R.2.2.1 j hj).2 i hi
theorem isWell_t (e : hGi h 1212 m = 0) : M_isWell Ym m h = some (true, hSi (hSi h 1210 m 0) 1211 m (-1)) := by
  have e1 : hGi (hSi h 1210 m 0) 1212 m = 0 := by rw [gi_si, if_neg (by omega)]; exact e
  have e2 : hGi (hSi (hSi h 1210 m 0) 1211 m (-1)) 1212 m = 0 := by rw [gi_si, if_neg (by omega)]; exact e1
  unfold M_isWell M_isWell_J24
  rw [e, letH_e, if_pos e1, letH_e, if_pos e2]
theorem isWell_f {k a : Nat} (B : BF h m k a) : M_isWell Ym m h = some (false, hSi (hSi (hSi h 1210 m (nI k)) 1211 m (nI a)) 1200 m 10) := by
  have nz := (BF_nz B).1
  have e1 : hGi (hSi h 1210 m (nI k)) 1212 m = hGi h 1212 m := by rw [gi_si, if_neg (by omega)]
  have e3 : hGi (hSi h 1210 m (nI k)) 1213 m = nI a := by rw [gi_si, if_neg (by omega)]; exact B.2.1
  have e2 : hGi (hSi (hSi h 1210 m (nI k)) 1211 m (nI a)) 1212 m = hGi h 1212 m := by rw [gi_si, if_neg (by omega)]; exact e1
  unfold M_isWell M_isWell_J24
  rw [show hGi h 1212 m = nI k from B.1] at nz
  rw [show hGi h 1212 m = nI k from B.1] at e1 e2
  rw [B.1, letH_e, if_neg (by rw [e1]; exact nz), e3, letH_e, if_neg (by rw [e2]; exact nz)]
  rfl
end AFT
