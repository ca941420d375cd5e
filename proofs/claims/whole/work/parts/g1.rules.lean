/-! ===== the law's walk: both worlds side by side ===== -/
abbrev lvL (b aP i : Nat) : List (Nat × Value) := [(3, .int (nI i)), (0, .ref b), (1, .ref aP), (2, .ref (aP + 184))]
def LCx (p : Program) (s : State) (m : MethodId) (meth : Method) (c : Code) (b L : Nat) (xs : Nat → Int32) (G : Gm) (aP : Nat) : Prop := lw_At p s m meth c b L xs ∧ KG G s ∧ s.heap.size = aP
def LW (p : Program) (l : Launch) (e : Env) (s : State) (m : MethodId) (below : List Frame) (meth : Method) (c : Code) (b : Nat) (G : Gm) (aP pc : Nat) (lv : List (Nat × Value)) (st : List Value) (hc hm : Hp) : Prop :=
  ∀ (H : Heap) (locs : List Loc) (ls : Array Slot), va_P G.1 cls_ (va_pl (pY G aP).1 (enc (pY G aP) hc)) H → va_P G.1 cls_ (va_pl (mY G (aP + 184)).1 (enc (mY G (aP + 184)) hm)) H → Ty (pY G aP) hc → Ty (mY G (aP + 184)) hm → va_S (fun q => s.heap.size ≤ q) s.heap H locs → lv_has ls 4 lv →
    W p l e room_1 s m #[Value.ref b] below meth c H locs 600000 7302250 (lw_Z below #[Value.ref b] s) (F0 m pc ls st)
theorem oP (G : Gm) (a : Nat) : isO (pY G a) 11 a := sp_oi (a := a) (sp := cP) (i := 0) (by rw [lenP]; decide) rfl
theorem good_gd {K' : Mk} (hc : Cond.code K'.1 K'.2.1 K'.2.2.1 K'.2.2.2 ∈ lw_gd) : GoodIn lw_gd (wsK K') := by
  intro w hw
  have hm : w ∈ lw_gd := by
    rcases List.mem_cons.mp hw with e | e
    · rw [e]; exact hc
    · exact e
  exact ⟨hm, good_of_word (gd_ok hm)⟩
theorem in_sp {G : Gm} {a : Nat} {sp : List Sp} {q : Nat} : inY (spY G a sp) q ↔ a ≤ q ∧ q < a + sp.length := mem_adr _ _ _
theorem KK_sp {G : Gm} {a : Nat} {sp : List Sp} {U : State} (h : KK (Y0 G) U) : KK (spY G a sp) U := h
theorem sp_adr {G : Gm} {a : Nat} {sp : List Sp} {h : Hp} {k : Nat} {q : Nat × va_E} (hk : (va_pl (spY G a sp).1 (enc (spY G a sp) h))[k]? = some q) : q.1 = a + k ∧ k < sp.length := by
  obtain ⟨rfl, h2⟩ := pl_adr _ _ _ _ _ hk
  exact ⟨rfl, h2⟩
section LAWR
variable {p : Program} {l : Launch} {e : Env} {s : State} {m : MethodId} {below : List Frame} {meth : Method} {c : Code} {b L : Nat} {xs : Nat → Int32} {G : Gm} {aP pc : Nat} {lv lv' : List (Nat × Value)} {st : List Value} {hc hm : Hp}
theorem LCx.w (C : LCx p s m meth c b L xs G aP) : ∀ w ∈ lw_gd, w.before #[Value.ref b] s = true := fun w h => C.1.2.2.2.2.2.1 w (gd_in h)
theorem lw_aload (C : LCx p s m meth c b L xs G aP) {j : Fin 4} {i q x : Nat} (hd : decode code pc = .ok (.aload_n j, 1)) (hi : (j : Nat) = i) (hq : lv[q]? = some (i, .ref x)) (k : LW p l e s m below meth c b G aP (pc + 1) lv (.ref x :: st) hc hm) : LW p l e s m below meth c b G aP pc lv st hc hm :=
  fun H locs ls hP hQ hT hU hS hl => lv_aload_n C.1.1 C.1.2.1 hd hi (lv_at hl q hq) (k H locs ls hP hQ hT hU hS hl)
theorem lw_iconst (C : LCx p s m meth c b L xs G aP) {j : Int} {x : Int32} (hd : decode code pc = .ok (.iconst j, 1)) (hx : Int32.ofInt j = x) (k : LW p l e s m below meth c b G aP (pc + 1) lv (.int x :: st) hc hm) : LW p l e s m below meth c b G aP pc lv st hc hm :=
  fun H locs ls hP hQ hT hU hS hl => lv_iconst C.1.1 C.1.2.1 hd hx (k H locs ls hP hQ hT hU hS hl)
theorem lw_bipush (C : LCx p s m meth c b L xs G aP) {j : Int} {x : Int32} (hd : decode code pc = .ok (.bipush j, 2)) (hx : (Int8.ofInt j).toInt32 = x) (k : LW p l e s m below meth c b G aP (pc + 2) lv (.int x :: st) hc hm) : LW p l e s m below meth c b G aP pc lv st hc hm :=
  fun H locs ls hP hQ hT hU hS hl => lv_bipush C.1.1 C.1.2.1 hd hx (k H locs ls hP hQ hT hU hS hl)
theorem lw_i2l (C : LCx p s m meth c b L xs G aP) {x : Int32} (hd : decode code pc = .ok (.i2l, 1)) (k : LW p l e s m below meth c b G aP (pc + 1) lv (.long x.toInt64 :: st) hc hm) : LW p l e s m below meth c b G aP pc lv (.int x :: st) hc hm :=
  fun H locs ls hP hQ hT hU hS hl => lv_i2l C.1.1 C.1.2.1 hd rfl (k H locs ls hP hQ hT hU hS hl)
theorem lw_lshl (C : LCx p s m meth c b L xs G aP) {x : Int64} {y : Int32} (hd : decode code pc = .ok (.lshl, 1)) (k : LW p l e s m below meth c b G aP (pc + 1) lv (.long (x <<< (y.toInt64 &&& 63)) :: st) hc hm) : LW p l e s m below meth c b G aP pc lv (.int y :: .long x :: st) hc hm :=
  fun H locs ls hP hQ hT hU hS hl => lv_lshl C.1.1 C.1.2.1 hd rfl (k H locs ls hP hQ hT hU hS hl)
theorem lw_land (C : LCx p s m meth c b L xs G aP) {x y : Int64} (hd : decode code pc = .ok (.land, 1)) (k : LW p l e s m below meth c b G aP (pc + 1) lv (.long (x &&& y) :: st) hc hm) : LW p l e s m below meth c b G aP pc lv (.long y :: .long x :: st) hc hm :=
  fun H locs ls hP hQ hT hU hS hl => lv_land C.1.1 C.1.2.1 hd (k H locs ls hP hQ hT hU hS hl)
theorem lw_lor (C : LCx p s m meth c b L xs G aP) {x y : Int64} (hd : decode code pc = .ok (.lor, 1)) (k : LW p l e s m below meth c b G aP (pc + 1) lv (.long (x ||| y) :: st) hc hm) : LW p l e s m below meth c b G aP pc lv (.long y :: .long x :: st) hc hm :=
  fun H locs ls hP hQ hT hU hS hl => lv_lor C.1.1 C.1.2.1 hd (k H locs ls hP hQ hT hU hS hl)
theorem lw_ldc2 (C : LCx p s m meth c b L xs G aP) {j : Nat} {x : Int64} (hw : Jvm.Cond.constantLong "LastPagesLaw" j x ∈ lw_gd) (hd : decode code pc = .ok (.ldc2_w j, 3)) (k : LW p l e s m below meth c b G aP (pc + 3) lv (.long x :: st) hc hm) : LW p l e s m below meth c b G aP pc lv st hc hm :=
  fun H locs ls hP hQ hT hU hS hl => lv_ldc2 C.1.1 C.1.2.1 C.1.2.2.2.2.1 (C.w _ hw) hd (k H locs ls hP hQ hT hU hS hl)
theorem lw_goto (C : LCx p s m meth c b L xs G aP) {off : Int} {tgt : Nat} (hd : decode code pc = .ok (.goto off, 3)) (ht : (pc : Int) + off = (tgt : Int)) (k : LW p l e s m below meth c b G aP tgt lv st hc hm) : LW p l e s m below meth c b G aP pc lv st hc hm :=
  fun H locs ls hP hQ hT hU hS hl => lv_goto C.1.1 C.1.2.1 hd ht (k H locs ls hP hQ hT hU hS hl)
theorem lw_ifeq_t (C : LCx p s m meth c b L xs G aP) {x : Int32} {off : Int} {tgt : Nat} (hd : decode code pc = .ok (.ifCond .eq off, 3)) (ht : (pc : Int) + off = (tgt : Int)) (hx : x = 0) (k : LW p l e s m below meth c b G aP tgt lv st hc hm) : LW p l e s m below meth c b G aP pc lv (.int x :: st) hc hm :=
  fun H locs ls hP hQ hT hU hS hl => lv_if_eq C.1.1 C.1.2.1 hd ht (fun _ => k H locs ls hP hQ hT hU hS hl) (fun h => absurd hx h)
theorem lw_ifeq_f (C : LCx p s m meth c b L xs G aP) {x : Int32} {off : Int} {tgt : Nat} (hd : decode code pc = .ok (.ifCond .eq off, 3)) (ht : (pc : Int) + off = (tgt : Int)) (hx : ¬ x = 0) (k : LW p l e s m below meth c b G aP (pc + 3) lv st hc hm) : LW p l e s m below meth c b G aP pc lv (.int x :: st) hc hm :=
  fun H locs ls hP hQ hT hU hS hl => lv_if_eq C.1.1 C.1.2.1 hd ht (fun h => absurd h hx) (fun _ => k H locs ls hP hQ hT hU hS hl)
theorem lw_icmp_eq (C : LCx p s m meth c b L xs G aP) {x : Int32} {off : Int} {tgt : Nat} (hd : decode code pc = .ok (.if_icmp .eq off, 3)) (ht : (pc : Int) + off = (tgt : Int)) (k : LW p l e s m below meth c b G aP tgt lv st hc hm) : LW p l e s m below meth c b G aP pc lv (.int x :: .int x :: st) hc hm :=
  fun H locs ls hP hQ hT hU hS hl => lv_icmp_eq C.1.1 C.1.2.1 hd ht (fun _ => k H locs ls hP hQ hT hU hS hl) (fun h => absurd rfl h)
theorem lw_lcmp_eq (C : LCx p s m meth c b L xs G aP) {x : Int64} {off : Int} {tgt : Nat} (hd : decode code pc = .ok (.lcmp, 1)) (hd2 : decode code (pc + 1) = .ok (.ifCond .eq off, 3)) (ht : ((pc + 1 : Nat) : Int) + off = (tgt : Int)) (k : LW p l e s m below meth c b G aP tgt lv st hc hm) : LW p l e s m below meth c b G aP pc lv (.long x :: .long x :: st) hc hm :=
  fun H locs ls hP hQ hT hU hS hl => W.lcmp C.1.1 C.1.2.1 hd (lv_if_eq C.1.1 C.1.2.1 hd2 ht (fun _ => k H locs ls hP hQ hT hU hS hl) (fun h => absurd ((lg_cmp_eq x x).mpr rfl) h))
/-- a number of the script -/
theorem lw_cell (C : LCx p s m meth c b L xs G aP) {i k : Nat} {j : Int} (hL : L ≤ 3072) (hi : i + 6 ≤ L) (hk : k < 6) (d1 : decode code pc = .ok (.aload_n 0, 1)) (d2 : decode code (pc + 1) = .ok (.iload_n 3, 1)) (d3 : decode code (pc + 2) = .ok (.iconst j, 1)) (hj : Int32.ofInt j = nI k) (d4 : decode code (pc + 3) = .ok (.iadd, 1)) (d5 : decode code (pc + 4) = .ok (.iaload, 1))
    (kk : LW p l e s m below meth c b G aP (pc + 5) (lvL b aP i) (.int (xs (i + k)) :: st) hc hm) : LW p l e s m below meth c b G aP pc (lvL b aP i) st hc hm := by
  intro H locs ls hP hQ hT hU hS hl
  refine lv_aload_n C.1.1 C.1.2.1 d1 (i := 0) rfl (lv_at hl 1 rfl) ?_
  refine lv_iload_n C.1.1 C.1.2.1 d2 (i := 3) rfl (lv_at hl 0 rfl) ?_
  refine lv_iconst C.1.1 C.1.2.1 d3 hj ?_
  refine lv_iadd C.1.1 C.1.2.1 d4 ?_
  rw [nI_add]
  have hX : va_X b L xs s s.heap := C.1.2.2.2.2.2.2.1
  have hbl : b < s.heap.size := C.1.2.2.2.2.2.2.2.1
  refine va_sld C.1.1 C.1.2.1 hX hbl (fun h => by have h : s.heap.size ≤ b := h; omega) hS (inB_vp (inB_nI (show i + k < L by omega) (by omega))) d5 ?_
  rw [nI_clamp (by omega)]
  exact kk H locs ls hP hQ hT hU hS hl
theorem inP {q : Nat} : inY (pY G aP) q ↔ aP ≤ q ∧ q < aP + 184 := by
  have := in_sp (G := G) (a := aP) (sp := cP) (q := q)
  rw [lenP] at this
  exact this
theorem lenM : c_M.length = 18 := by decide +kernel
theorem inM {a q : Nat} : inY (mY G a) q ↔ a ≤ q ∧ q < a + 18 := by
  have := in_sp (G := G) (a := a) (sp := c_M) (q := q)
  rw [lenM] at this
  exact this
theorem lw_callC (C : LCx p s m meth c b L xs G aP) {K' : Mk} {n' idx k : Nat} {As st0 : List Value} {β : Type} {o' : Option β} {r' : β → Option Value × Hp} {v : β} (ok : okV K' k) (hcl : K'.1.cls = RX11) (hM : AM (pY G aP) n' K' (.ref aP :: As) hc o' r') (ho : o' = some v) (hw : Cond.methodLink "LastPagesLaw" idx K'.1 ∈ lw_gd) (hd : decode code pc = .ok (.invokevirtual idx, 3)) (hk : As.length = k) (hn : n' ≤ 600) (hs : st0 = As.reverse ++ .ref aP :: st) (hcat : (st.map fun v => v.category).sum ≤ 8)
    (kk : LW p l e s m below meth c b G aP (pc + 3) lv ((r' v).1.toList ++ st) (r' v).2 hm) : LW p l e s m below meth c b G aP pc lv st0 hc hm := by
  intro H locs ls hP hQ hT hU hS hl
  have TT := C.w
  obtain ⟨q0, hq⟩ := pl_get (Y := pY G aP) (h := hc) (oP G aP).1
  rw [enc_obj (oP G aP) (by decide)] at hq
  obtain ⟨k1, k2, k3, k4, k5, k6⟩ := ok
  have hsz := C.2.2
  refine am_behind (Y := pY G aP) (A := fun q => s.heap.size ≤ q) (va_runV (n := k) (C := K'.1.cls) (b := aP) (As := As) (Ts := lw_gd) (own := R_law) ⟨C.1.1, C.1.2.1, C.1.2.2.2.1, C.1.2.2.2.2.1, TT⟩ (hM v ho l) ⟨callB_of k TT (good_gd k1) rfl rfl rfl (TT _ k4) (TT _ hw) k5 ⟨?_, ?_⟩, TT _ k2, TT _ k3⟩ ⟨blind_Wd, ?_, fun U hU hW => ⟨rfl, by rw [hU]; exact hP, KK_sp (KK.warm hW C.2.1.1), sp_D _, hT⟩⟩ rfl hk hl.1 hs (lv_room hcat) hd ⟨Nat.le_refl _, Nat.le_refl _⟩) hS (fun q hq => ?_) ?_
  · show n' + 1 ≤ 2048
    omega
  · show 8 + (K'.2.2.1 + 11) + 120 * n' ≤ 84000
    omega
  · rw [hcl]
    exact va_recv (q := (RX11, TX11, 18)) C.2.1.1.1 hP rfl hq
  · have := inP.mp hq
    show s.heap.size ≤ q
    omega
  · intro H1 locs1 hP1 hT1 hk1 hS1
    refine kk H1 locs1 ls hP1 (hQ.kept fun k q hq => ?_) hT1 hU hS1 hl
    have hlt := (hQ k q hq).lt
    obtain ⟨h1, -⟩ := sp_adr hq
    refine hk1 _ hlt (fun z => ?_)
    have := inP.mp z
    omega
theorem lw_callM (C : LCx p s m meth c b L xs G aP) {K' : Mk} {n' idx k : Nat} {As st0 : List Value} {β : Type} {o' : Option β} {r' : β → Option Value × Hp} {v : β} (ok : okV K' k) (hcl : K'.1.cls = RX12) (hM : AM (mY G (aP + 184)) n' K' (.ref (aP + 184) :: As) hm o' r') (ho : o' = some v) (hw : Cond.methodLink "LastPagesLaw" idx K'.1 ∈ lw_gd) (hd : decode code pc = .ok (.invokevirtual idx, 3)) (hk : As.length = k) (hn : n' ≤ 600) (hs : st0 = As.reverse ++ .ref (aP + 184) :: st) (hcat : (st.map fun v => v.category).sum ≤ 8)
    (kk : LW p l e s m below meth c b G aP (pc + 3) lv ((r' v).1.toList ++ st) hc (r' v).2) : LW p l e s m below meth c b G aP pc lv st0 hc hm := by
  intro H locs ls hP hQ hT hU hS hl
  have TT := C.w
  obtain ⟨q0, hq⟩ := pl_get (Y := mY G (aP + 184)) (h := hm) (M_isO G (aP + 184)).1
  rw [enc_obj (M_isO G (aP + 184)) (by decide)] at hq
  obtain ⟨k1, k2, k3, k4, k5, k6⟩ := ok
  have hsz := C.2.2
  refine am_behind (Y := mY G (aP + 184)) (A := fun q => s.heap.size ≤ q) (va_runV (n := k) (C := K'.1.cls) (b := aP + 184) (As := As) (Ts := lw_gd) (own := R_law) ⟨C.1.1, C.1.2.1, C.1.2.2.2.1, C.1.2.2.2.2.1, TT⟩ (hM v ho l) ⟨callB_of k TT (good_gd k1) rfl rfl rfl (TT _ k4) (TT _ hw) k5 ⟨?_, ?_⟩, TT _ k2, TT _ k3⟩ ⟨blind_Wd, ?_, fun U hU2 hW => ⟨rfl, by rw [hU2]; exact hQ, KK_sp (KK.warm hW C.2.1.1), sp_D _, hU⟩⟩ rfl hk hl.1 hs (lv_room hcat) hd ⟨Nat.le_refl _, Nat.le_refl _⟩) hS (fun q hq => ?_) ?_
  · show n' + 1 ≤ 2048
    omega
  · show 8 + (K'.2.2.1 + 11) + 120 * n' ≤ 84000
    omega
  · rw [hcl]
    exact va_recv (q := (RX12, TX12, 44)) C.2.1.1.1 hQ rfl hq
  · have := inM.mp hq
    show s.heap.size ≤ q
    omega
  · intro H1 locs1 hQ1 hU1 hk1 hS1
    refine kk H1 locs1 ls (hP.kept fun k q hq => ?_) hQ1 hT hU1 hS1 hl
    have hlt := (hP k q hq).lt
    obtain ⟨h1, hk2⟩ := sp_adr hq
    rw [lenP] at hk2
    refine hk1 _ hlt (fun z => ?_)
    have := inM.mp z
    omega
end LAWR
