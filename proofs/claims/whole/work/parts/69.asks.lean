/-! ===== asking calls leave the joint state ===== -/
theorem CR.o4 {Y : Ly} {h : Hp} {x : Nat} {kw : Nat → Int64} {g : Sg} (R : CR Y h x kw g) {i : Nat} (hi : i < 5) : isO Y 4 (shA h x i) := by
  have T := R.2.1
  have hx := R.1.1
  unfold shA
  split
  · exact T.1 1109 4 rfl x hx
  · split
    · exact T.1 1110 4 rfl x hx
    · exact T.2.2.1 _ (T.1 1104 23 rfl x hx) (i - 1) (by rw [cl1104 R.1 hx]; omega)
theorem CR.o9 {Y : Ly} {h : Hp} {x : Nat} {kw : Nat → Int64} {g : Sg} (R : CR Y h x kw g) {i : Nat} (hi : i < 6) : isO Y 9 (wkA h x i) := by
  have T := R.2.1
  unfold wkA
  split
  · exact T.1 1111 9 rfl x R.1.1
  · exact T.1 413 9 rfl _ (R.o4 (by omega))
theorem CR.o8 {Y : Ly} {h : Hp} {x : Nat} {kw : Nat → Int64} {g : Sg} (R : CR Y h x kw g) {t : Nat} (ht : t < 4) : isO Y 8 (trA h x t) := R.2.1.2.2.2 _ (R.2.1.1 1100 24 rfl x R.1.1) t (by rw [cl1100 R.1 R.1.1]; omega)
theorem CR.o7 {Y : Ly} {h : Hp} {x : Nat} {kw : Nat → Int64} {g : Sg} (R : CR Y h x kw g) : isO Y 7 (hGr h 1101 x) := R.2.1.1 1101 7 rfl x R.1.1
theorem RN_eq {h h' : Hp} {s : Nat} {c : Nat → Int32} {w : Nat → Int64} (R : RN h s c w) (e1 : hGi h' 414 s = hGi h 414 s) (e2 : ∀ i, hAl h' (hGr h' 403 s) i = hAl h (hGr h 403 s) i) (e3 : ∀ i, hAi h' (hGr h' 404 s) i = hAi h (hGr h 404 s) i) (e4 : ∀ i, hAi h' (hGr h' 405 s) i = hAi h (hGr h 405 s) i) : RN h' s c w := by
  unfold RN
  simp only [e1, e2, e3, e4]
  exact R
theorem RW_eq {h h' : Hp} {w : Nat} {c : Nat → Int32} (R : RW h w c) (e1 : ∀ f, 905 ≤ f → f ≤ 907 → hGi h' f w = hGi h f w) (e2 : ∀ f, 900 ≤ f → f ≤ 904 → hAi h' (hGr h' f w) = hAi h (hGr h f w)) : RW h' w c := by
  unfold RW
  rw [e1 905 (by decide) (by decide), e1 906 (by decide) (by decide), e1 907 (by decide) (by decide), e2 900 (by decide) (by decide), e2 901 (by decide) (by decide), e2 902 (by decide) (by decide), e2 903 (by decide) (by decide), e2 904 (by decide) (by decide)]
  exact R
theorem CR_C {Y : Ly} {h h' : Hp} {x : Nat} {kw : Nat → Int64} {g : Sg} (R : CR Y h x kw g) (V : VG g) (q : Cf Y h h') : CR Y h' x kw (wSt g (hGi h' 1112 x)) := by
  have hx := R.1.1
  have er : ∀ f a, f ≠ 5 → hGr h' f a = hGr h f a := q.2.2.1
  have esh : ∀ i, shA h' x i = shA h x i := by
    intro i
    unfold shA
    rw [er 1109 x (by decide), er 1110 x (by decide), er 1104 x (by decide), q.2.2.2.2.1]
  have ewk : ∀ i, wkA h' x i = wkA h x i := by
    intro i
    unfold wkA
    rw [er 1111 x (by decide), esh, er 413 _ (by decide)]
  have etr : ∀ t, trA h' x t = trA h x t := by
    intro t
    unfold trA
    rw [er 1100 x (by decide), q.2.2.2.2.1]
  have gi : ∀ f a, 300 ≤ f → f ≠ 1112 → hGi h' f a = hGi h f a := q.1
  have ga : ∀ f o, 300 ≤ f → cArr f = true → isO Y (f / 100) o → hAi h' (hGr h f o) = hAi h (hGr h f o) ∧ hAl h' (hGr h f o) = hAl h (hGr h f o) := by
    intro f o h1 h2 h3
    have := fun i => q.2.2.2.1 _ i (nscr R.1 h1 h2 h3)
    exact ⟨funext fun i => (this i).1, funext fun i => (this i).2⟩
  obtain ⟨r1, r2, ⟨s1, s2, s3⟩, ⟨t1, t2⟩, p, l, ⟨c1, c2, c3, c4, c5, c6⟩, k⟩ := R
  have R : CR Y h x kw g := ⟨r1, r2, ⟨s1, s2, s3⟩, ⟨t1, t2⟩, p, l, ⟨c1, c2, c3, c4, c5, c6⟩, k⟩
  refine ⟨CS_congr r1 (fun f a hf => er f a (cFin_5 hf)), q.2.2.2.2.2 r2, ⟨fun i j hi hj => by rw [esh, esh]; exact s1 i j hi hj, fun i j hi hj => by rw [ewk, ewk]; exact s2 i j hi hj, fun j hj => ?_⟩, ⟨fun i j hi hj => by rw [etr, etr]; exact t1 i j hi hj, fun t ht => ?_⟩, ?_, ?_, ?_, ?_⟩
  · have hj' : j ≤ sK g := hj
    have hj4 : j < 4 := by have := V.1; omega
    have o4 := R.o4 (show j < 5 by omega)
    have o9 := R.o9 (show j < 6 by omega)
    rw [esh, ewk]
    refine ⟨RS_same (sameS_C r1 r2 o4 q) (s3 j hj).1, RN_eq (s3 j hj).2.1 (gi 414 _ (by decide) (by decide)) (fun i => by rw [er 403 _ (by decide), (ga 403 _ (by decide) rfl o4).2]) (fun i => by rw [er 404 _ (by decide), (ga 404 _ (by decide) rfl o4).1]) (fun i => by rw [er 405 _ (by decide), (ga 405 _ (by decide) rfl o4).1]), RW_eq (s3 j hj).2.2 (fun f h1 h2 => gi f _ (by omega) (by omega)) (fun f h1 h2 => ?_)⟩
    rw [er f _ (by omega)]
    refine (ga f _ (by omega) ?_ (by rw [show f / 100 = 9 by omega]; exact o9)).1
    rcases (show f = 900 ∨ f = 901 ∨ f = 902 ∨ f = 903 ∨ f = 904 by omega) with e | e | e | e | e <;> (subst e; rfl)
  · rw [etr, gi 801 _ (by decide) (by decide), gi 802 _ (by decide) (by decide), gi 803 _ (by decide) (by decide), er 800 _ (by decide), (ga 800 _ (by decide) rfl (R.o8 ht)).2]
    exact t2 t ht
  · unfold TPc
    rw [er 1101 x (by decide), gi 702 _ (by decide) (by decide), er 700 _ (by decide), (ga 700 _ (by decide) rfl R.o7).1]
    exact p
  · unfold LVc
    rw [er 1108 x (by decide), (ga 1108 _ (by decide) rfl hx).1]
    exact l
  · exact ⟨rfl, by rw [gi 1115 _ (by decide) (by decide)]; exact c2, by rw [gi 1116 _ (by decide) (by decide)]; exact c3, by rw [gi 1117 _ (by decide) (by decide)]; exact c4, by rw [q.2.1]; exact c5, by rw [q.2.1]; exact c6⟩
  · rw [er 1101 x (by decide), er 701 _ (by decide), (ga 701 _ (by decide) rfl R.o7).2]
    exact k
theorem MR_M {Y : Ly} {h h' : Hp} {m : Nat} {g : Sg} (R : MR Y h m g) (q : Mf Y m h h') : MR Y h' m (wSt g (hGi h' 1200 m)) := by
  obtain ⟨r1, r2, b, t, p, l, c1, c2, c3, c4, c5, c6⟩ := R
  have er : ∀ f a, hGr h' f a = hGr h f a := q.2.2.1
  have gi : ∀ f a, f ≠ 1200 → f ≠ 1201 → hGi h' f a = hGi h f a := q.1
  have ga : ∀ f, mLen f ≠ 0 → mscr f = false → hAi h' (hGr h f m) = hAi h (hGr h f m) ∧ hAl h' (hGr h f m) = hAl h (hGr h f m) := fun f h1 h2 => ⟨funext fun i => (q.2.2.2.1 f h1 h2 i).1, funext fun i => (q.2.2.2.1 f h1 h2 i).2⟩
  refine ⟨MS_congr r1 (fun f => er f m), q.2.2.2.2 r2, fun j hj => ⟨fun i hi => ?_, fun i hi => ?_⟩, fun s hs => ?_, ?_, ?_, rfl, ?_, ?_, ?_, ?_, ?_⟩
  · rw [er, (ga 1220 (by decide) rfl).1]; exact (b j hj).1 i hi
  · rw [er, (ga 1222 (by decide) rfl).2]; exact (b j hj).2 i hi
  · rw [er, er, er, (ga 1204 (by decide) rfl).1, (ga 1205 (by decide) rfl).1, (ga 1206 (by decide) rfl).2]; exact t s hs
  · rw [gi 1208 m (by decide) (by decide), er, (ga 1207 (by decide) rfl).1]; exact p
  · rw [gi 1235 m (by decide) (by decide), er, (ga 1234 (by decide) rfl).1]; exact l
  · rw [gi 1210 m (by decide) (by decide)]; exact c2
  · rw [gi 1211 m (by decide) (by decide)]; exact c3
  · rw [gi 1223 m (by decide) (by decide)]; exact c4
  · rw [q.2.1]; exact c5
  · rw [q.2.1]; exact c6
theorem CR.ct {Y : Ly} {h : Hp} {x : Nat} {kw : Nat → Int64} {g : Sg} (R : CR Y h x kw g) (V : VG g) : CT Y h x (sC g 0) := by
  have o4 := R.o4 (i := 0) (by decide)
  have e : shA h x 0 = hGr h 1109 x := by unfold shA; rw [if_pos rfl]
  rw [e] at o4
  refine ⟨R.1, R.2.1, o4, ?_, (V.2.1 0 (Nat.zero_le _)).1⟩
  have := (R.2.2.1.2.2 0 (Nat.zero_le _)).1
  rw [e] at this
  exact this
theorem MR.mx {Y : Ly} {h : Hp} {m : Nat} {g : Sg} (R : MR Y h m g) (V : VG g) : MX Y h m (sC g 0) := ⟨R.1, (R.2.2.1 0 (Nat.zero_le _)).1, (V.2.1 0 (Nat.zero_le _)).1⟩
/-- class and reference are in one state -/
def JJ (Yc Ym : Ly) (hc : Hp) (x : Nat) (hm : Hp) (m : Nat) (kw : Nat → Int64) : Prop := ∃ g, CR Yc hc x kw g ∧ MR Ym hm m g ∧ VG g
/-- both answer, alike, and are in one state again -/
def SO {α : Type} (Yc Ym : Ly) (x m : Nat) (kw : Nat → Int64) (rc rm : Option (α × Hp)) : Prop := ∃ v hc hm, rc = some (v, hc) ∧ rm = some (v, hm) ∧ JJ Yc Ym hc x hm m kw
section JA
variable {Yc Ym : Ly} {hc hm : Hp} {x m : Nat} {kw : Nat → Int64}
theorem VG_st {g : Sg} {v : Int32} (V : VG g) : VG (wSt g v) := V
theorem SO_q {α : Type} {g : Sg} {rc rm : Option (α × Hp)} {v : α} {st : Int32} (RC : CR Yc hc x kw g) (RM : MR Ym hm m g) (V : VG g) (qc : CQ Yc x hc rc v st) (qm : mQ Ym m hm rm v st) : SO Yc Ym x m kw rc rm := by
  obtain ⟨h1, e1, c1, s1⟩ := qc
  obtain ⟨h2, e2, c2, s2⟩ := qm
  refine ⟨v, h1, h2, e1, e2, wSt g st, ?_, ?_, VG_st V⟩
  · have := CR_C RC V c1
    rwa [s1] at this
  · have := MR_M RM c2
    rwa [s2] at this

theorem so_finalesOf (J : JJ Yc Ym hc x hm m kw) (b : Int32) : SO Yc Ym x m kw (LP_finalesOf Yc x b hc) (M_finalesOf Ym m b hm) := by
  obtain ⟨g, RC, RM, V⟩ := J
  exact SO_q RC RM V (LP_finalesOf_q (RC.ct V) b) (M_finalesOf_q (RM.mx V) b)
theorem so_fits (J : JJ Yc Ym hc x hm m kw) (b f : Int32) : SO Yc Ym x m kw (LP_fits Yc x b f hc) (M_fits Ym m b f hm) := by
  obtain ⟨g, RC, RM, V⟩ := J
  exact SO_q RC RM V (LP_fits_q (RC.ct V) b f) (M_fits_q (RM.mx V) b f)
theorem so_booksOf (J : JJ Yc Ym hc x hm m kw) (f : Int32) : SO Yc Ym x m kw (LP_booksOf Yc x f hc) (M_booksOf Ym m f hm) := by
  obtain ⟨g, RC, RM, V⟩ := J
  exact SO_q RC RM V (LP_booksOf_q (RC.ct V) f) (M_booksOf_q (RM.mx V) f)
theorem so_clash (J : JJ Yc Ym hc x hm m kw)  : SO Yc Ym x m kw (LP_clash Yc x  hc) (M_clash Ym m  hm) := by
  obtain ⟨g, RC, RM, V⟩ := J
  exact SO_q RC RM V (LP_clash_q (RC.ct V) ) (M_clash_q (RM.mx V) )
theorem so_clashSet (J : JJ Yc Ym hc x hm m kw)  : SO Yc Ym x m kw (LP_clashSet Yc x  hc) (M_clashSet Ym m  hm) := by
  obtain ⟨g, RC, RM, V⟩ := J
  exact SO_q RC RM V (LP_clashSet_q (RC.ct V) ) (M_clashSet_q (RM.mx V) )
theorem so_finish (J : JJ Yc Ym hc x hm m kw)  : SO Yc Ym x m kw (LP_finish Yc x  hc) (M_finish Ym m  hm) := by
  obtain ⟨g, RC, RM, V⟩ := J
  exact SO_q RC RM V (LP_finish_q (RC.ct V) ) (M_finish_q (RM.mx V) )
theorem so_finishSet (J : JJ Yc Ym hc x hm m kw)  : SO Yc Ym x m kw (LP_finishSet Yc x  hc) (M_finishSet Ym m  hm) := by
  obtain ⟨g, RC, RM, V⟩ := J
  exact SO_q RC RM V (LP_finishSet_q (RC.ct V) ) (M_finishSet_q (RM.mx V) )
theorem so_endings (J : JJ Yc Ym hc x hm m kw) (b : Int32) : SO Yc Ym x m kw (LP_endings Yc x b hc) (M_endings Ym m b hm) := by
  obtain ⟨g, RC, RM, V⟩ := J
  exact SO_q RC RM V (LP_endings_q (RC.ct V) b) (M_endings_q (RM.mx V) b)
theorem so_hopeless (J : JJ Yc Ym hc x hm m kw)  : SO Yc Ym x m kw (LP_hopeless Yc x  hc) (M_hopeless Ym m  hm) := by
  obtain ⟨g, RC, RM, V⟩ := J
  exact SO_q RC RM V (LP_hopeless_q (RC.ct V) ) (M_hopeless_q (RM.mx V) )
theorem so_many (J : JJ Yc Ym hc x hm m kw) (w : Int32) : SO Yc Ym x m kw (LP_many Yc x w hc) (M_many Ym m w hm) := by
  obtain ⟨g, RC, RM, V⟩ := J
  exact SO_q RC RM V (LP_many_q (RC.ct V) w) (M_many_q (RM.mx V) w)
theorem so_rule (J : JJ Yc Ym hc x hm m kw) (s t : Int32) : SO Yc Ym x m kw (LP_rule Yc x s t hc) (M_rule Ym m s t hm) := by
  obtain ⟨g, RC, RM, V⟩ := J
  exact SO_q RC RM V (LP_rule_q (RC.ct V) s t) (M_rule_q (RM.mx V) s t)
theorem so_odd (J : JJ Yc Ym hc x hm m kw) (t : Int32) : SO Yc Ym x m kw (LP_odd Yc x t hc) (M_odd Ym m t hm) := by
  obtain ⟨g, RC, RM, V⟩ := J
  exact SO_q RC RM V (LP_odd_q (RC.ct V) t) (M_odd_q (RM.mx V) t)
theorem so_book (J : JJ Yc Ym hc x hm m kw) (b w : Int32) : SO Yc Ym x m kw (LP_book Yc x b w hc) (M_book Ym m b w hm) := by
  obtain ⟨g, RC, RM, V⟩ := J
  exact SO_q RC RM V (LP_book_q (RC.ct V) b w) (M_book_q (RM.mx V) b w)
theorem so_page (J : JJ Yc Ym hc x hm m kw) (b p : Int32) : SO Yc Ym x m kw (LP_page Yc x b p hc) (M_page Ym m b p hm) := by
  obtain ⟨g, RC, RM, V⟩ := J
  exact SO_q RC RM V (LP_page_q (RC.ct V) b p) (M_page_q (RM.mx V) b p)
theorem so_finale (J : JJ Yc Ym hc x hm m kw) (f p : Int32) : SO Yc Ym x m kw (LP_finale Yc x f p hc) (M_finale Ym m f p hm) := by
  obtain ⟨g, RC, RM, V⟩ := J
  exact SO_q RC RM V (LP_finale_q (RC.ct V) f p) (M_finale_q (RM.mx V) f p)
theorem so_hint (J : JJ Yc Ym hc x hm m kw) (i w : Int32) : SO Yc Ym x m kw (LP_hint Yc x i w hc) (M_hint Ym m i w hm) := by
  obtain ⟨g, RC, RM, V⟩ := J
  exact SO_q RC RM V (LP_hint_q (RC.ct V) i w) (M_hint_q (RM.mx V) i w)
theorem so_offer (J : JJ Yc Ym hc x hm m kw) (i w : Int32) : SO Yc Ym x m kw (LP_offer Yc x i w hc) (M_offer Ym m i w hm) := by
  obtain ⟨g, RC, RM, V⟩ := J
  exact SO_q RC RM V (LP_offer_q (RC.ct V) i w) (M_offer_q (RM.mx V) i w)
theorem so_watch (J : JJ Yc Ym hc x hm m kw) (i w : Int32) : SO Yc Ym x m kw (LP_watch Yc x i w hc) (M_watch Ym m i w hm) := by
  obtain ⟨g, RC, RM, V⟩ := J
  exact SO_q RC RM V (LP_watch_q (RC.ct V) i w) (M_watch_q (RM.mx V) i w)
theorem so_oddness (J : JJ Yc Ym hc x hm m kw) (f : Int32) : SO Yc Ym x m kw (LP_oddness Yc x f hc) (M_oddness Ym m f hm) := by
  obtain ⟨g, RC, RM, V⟩ := J
  exact SO_q RC RM V (LP_oddness_q (RC.ct V) f) (M_oddness_q (RM.mx V) f)
theorem so_known (J : JJ Yc Ym hc x hm m kw) (a : Int32) : SO Yc Ym x m kw (LP_known Yc x a hc) (M_known Ym m a hm) := by
  obtain ⟨g, RC, RM, V⟩ := J
  exact SO_q RC RM V (LP_known_q (RC.ct V) a) (M_known_q (RM.mx V) a)
theorem so_buy (J : JJ Yc Ym hc x hm m kw) (a : Int32) : SO Yc Ym x m kw (LP_buy Yc x a hc) (M_buy Ym m a hm) := by
  obtain ⟨g, RC, RM, V⟩ := J
  exact SO_q RC RM V (LP_buy_q (RC.ct V) a) (M_buy_q (RM.mx V) a)
theorem so_buySet (J : JJ Yc Ym hc x hm m kw) (a : Int32) : SO Yc Ym x m kw (LP_buySet Yc x a hc) (M_buySet Ym m a hm) := by
  obtain ⟨g, RC, RM, V⟩ := J
  exact SO_q RC RM V (LP_buySet_q (RC.ct V) a) (M_buySet_q (RM.mx V) a)
theorem so_cheapest (J : JJ Yc Ym hc x hm m kw)  : SO Yc Ym x m kw (LP_cheapest Yc x  hc) (M_cheapest Ym m  hm) := by
  obtain ⟨g, RC, RM, V⟩ := J
  exact SO_q RC RM V (LP_cheapest_q (RC.ct V) ) (M_cheapest_q (RM.mx V) )
theorem so_guard (J : JJ Yc Ym hc x hm m kw) (a : Int32) : SO Yc Ym x m kw (LP_guard Yc x a hc) (M_guard Ym m a hm) := by
  obtain ⟨g, RC, RM, V⟩ := J
  exact SO_q RC RM V (LP_guard_q (RC.ct V) a) (M_guard_q (RM.mx V) a)
theorem so_guardSet (J : JJ Yc Ym hc x hm m kw) (a : Int32) : SO Yc Ym x m kw (LP_guardSet Yc x a hc) (M_guardSet Ym m a hm) := by
  obtain ⟨g, RC, RM, V⟩ := J
  exact SO_q RC RM V (LP_guardSet_q (RC.ct V) a) (M_guardSet_q (RM.mx V) a)
theorem so_barest (J : JJ Yc Ym hc x hm m kw)  : SO Yc Ym x m kw (LP_barest Yc x  hc) (M_barest Ym m  hm) := by
  obtain ⟨g, RC, RM, V⟩ := J
  exact SO_q RC RM V (LP_barest_q (RC.ct V) ) (M_barest_q (RM.mx V) )
theorem so_liars (J : JJ Yc Ym hc x hm m kw) (b : Int32) : SO Yc Ym x m kw (LP_liars Yc x b hc) (M_liars Ym m b hm) := by
  obtain ⟨g, RC, RM, V⟩ := J
  exact SO_q RC RM V (LP_liars_q (RC.ct V) b) (M_liars_q (RM.mx V) b)
theorem so_liarSet (J : JJ Yc Ym hc x hm m kw) (b : Int32) : SO Yc Ym x m kw (LP_liarSet Yc x b hc) (M_liarSet Ym m b hm) := by
  obtain ⟨g, RC, RM, V⟩ := J
  exact SO_q RC RM V (LP_liarSet_q (RC.ct V) b) (M_liarSet_q (RM.mx V) b)
theorem so_best (J : JJ Yc Ym hc x hm m kw) (b : Int32) : SO Yc Ym x m kw (LP_best Yc x b hc) (M_best Ym m b hm) := by
  obtain ⟨g, RC, RM, V⟩ := J
  exact SO_q RC RM V (LP_best_q (RC.ct V) b) (M_best_q (RM.mx V) b)
theorem so_bestAt (J : JJ Yc Ym hc x hm m kw) (b p : Int32) : SO Yc Ym x m kw (LP_bestAt Yc x b p hc) (M_bestAt Ym m b p hm) := by
  obtain ⟨g, RC, RM, V⟩ := J
  exact SO_q RC RM V (LP_bestAt_q (RC.ct V) b p) (M_bestAt_q (RM.mx V) b p)
theorem so_next (J : JJ Yc Ym hc x hm m kw) (b : Int32) : SO Yc Ym x m kw (LP_next Yc x b hc) (M_next Ym m b hm) := by
  obtain ⟨g, RC, RM, V⟩ := J
  exact SO_q RC RM V (LP_next_q (RC.ct V) b) (M_next_q (RM.mx V) b)
theorem so_may (J : JJ Yc Ym hc x hm m kw) (b p : Int32) : SO Yc Ym x m kw (LP_may Yc x b p hc) (M_may Ym m b p hm) := by
  obtain ⟨g, RC, RM, V⟩ := J
  exact SO_q RC RM V (LP_may_q (RC.ct V) b p) (M_may_q (RM.mx V) b p)
theorem so_match (J : JJ Yc Ym hc x hm m kw)  : SO Yc Ym x m kw (LP_match Yc x  hc) (M_match Ym m  hm) := by
  obtain ⟨g, RC, RM, V⟩ := J
  exact SO_q RC RM V (LP_match_q (RC.ct V) ) (M_match_q (RM.mx V) )
theorem so_ways (J : JJ Yc Ym hc x hm m kw)  : SO Yc Ym x m kw (LP_ways Yc x  hc) (M_ways Ym m  hm) := by
  obtain ⟨g, RC, RM, V⟩ := J
  exact SO_q RC RM V (LP_ways_q (RC.ct V) ) (M_ways_q (RM.mx V) )
end JA
