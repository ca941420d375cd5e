/-! ===== the law's start: the tables, the string, the two objects ===== -/
theorem prim_at {s : State} {args : Array Value} {ty : FieldType} (h : (Cond.arrayClass ty).before args s = true) (hra : ∀ cA, s.vm.findClass ("[" ++ ty.toString) = some cA → va_RA s cA ty) : ∃ cA, ArrOfT s cA ty ∧ va_RA s cA ty := by
  obtain ⟨c, k, comp, h1, h2, h3⟩ := Cond.arrayClass_spec h
  exact ⟨c, fun n z => ⟨fun k h => (by cases h), k, h2, comp, h3⟩, hra c h1⟩
theorem over_at {s : State} {args : Array Value} {C : String} (h : (Cond.arrayOver (.object C)).before args s = true) : ∃ cA, ArrOfT s cA (.object C) ∧ va_RA s cA (.object C) := by
  obtain ⟨comp, c, k, h1, h2, h3, h4, h5⟩ := Cond.arrayOver_spec h
  exact ⟨c, fun n z => ⟨fun k h => (by cases h), k, h3, comp, h4⟩, k, comp, h3, h4, h1, h5⟩
theorem nst_in : ∀ q ∈ lw_nst, Cond.methodLinkNest q.1 q.2.1 q.2.2.1 q.2.2.2 ∈ lw_tbl := by decide +kernel
theorem cls_at {s : State} {args : Array Value} (hts : ∀ w ∈ lw_tbl, w.before args s = true) : ∀ k : Nat, ∃ d : ClassId × (Nat → Nat), ∀ q : vw_C, cls_[k]? = some q → u_Kn s q.1 q.2.1 q.2.2 d.1 d.2 := by
  intro k
  have go : ∀ (C : String) (T : u_T) (N : Nat), (∀ w ∈ u_ws C T N, w ∈ lw_gd) → Cond.instantiable C N ∈ lw_tbl → cls_[k]? = some (C, T, N) → ∃ d : ClassId × (Nat → Nat), ∀ q : vw_C, cls_[k]? = some q → u_Kn s q.1 q.2.1 q.2.2 d.1 d.2 := by
    intro C T N h1 h2 h3
    obtain ⟨cC, iS, h⟩ := u_known (ws := lw_tbl) (N := N) hts (fun w hw => gd_in (h1 w hw)) (hts _ h2)
    refine ⟨(cC, iS), fun q hq => ?_⟩
    rw [h3] at hq
    cases hq
    exact h
  match k with
  | 0 => exact go _ _ _ inX0 (gd_in w1_168) rfl
  | 1 => exact go _ _ _ inX1 (gd_in w2_4) rfl
  | 2 => exact go _ _ _ inX2 (gd_in w2_23) rfl
  | 3 => exact go _ _ _ inX3 (gd_in w2_60) rfl
  | 4 => exact go _ _ _ inX4 (gd_in w2_52) rfl
  | 5 => exact go _ _ _ inX5 (gd_in w1_139) rfl
  | 6 => exact go _ _ _ inX6 (gd_in w1_174) rfl
  | 7 => exact go _ _ _ inX7 (gd_in w1_33) rfl
  | 8 => exact go _ _ _ inX8 (gd_in w2_215) rfl
  | 9 => exact go _ _ _ inX9 (gd_in w2_84) rfl
  | 10 => exact go _ _ _ inX10 (gd_in w1_153) rfl
  | 11 => exact go _ _ _ inX11 (gd_in w1_23) rfl
  | 12 => exact go _ _ _ inX12 (gd_in w7_18) rfl
  | k + 13 => exact ⟨(0, fun _ => 0), fun q hq => by cases hq⟩
theorem start_G {s : State} {args : Array Value} (hts : ∀ w ∈ lw_tbl, w.before args s = true) : ∃ G : Gm, KG G s := by
  obtain ⟨d, hd⟩ := Classical.axiomOfChoice (cls_at hts)
  obtain ⟨c0, a0, b0⟩ := prim_at (ty := .int) (hts _ (gd_in w1_151)) (fun _ h => h)
  obtain ⟨c1, a1, b1⟩ := prim_at (ty := .byte) (hts _ (gd_in w1_136)) (fun _ h => h)
  obtain ⟨c2, a2, b2⟩ := prim_at (ty := .long) (hts _ (gd_in w1_137)) (fun _ h => h)
  have o4 : (Cond.arrayOver (.object RX4)).before args s = true := hts _ (by decide +kernel)
  have o8 : (Cond.arrayOver (.object RX8)).before args s = true := hts _ (by decide +kernel)
  obtain ⟨c3, a3, b3⟩ := over_at o4
  obtain ⟨c4, a4, b4⟩ := over_at o8
  refine ⟨((fun k => (d k).1, fun k => (d k).2), fun t => match t with
    | 0 => c0
    | 1 => c1
    | 2 => c2
    | 3 => c3
    | _ => c4), ⟨⟨fun c q hq => hd c q hq, fun k q hk => ?_⟩, fun q hq => va_Nw.of rfl (hts _ (nst_in q hq))⟩, va_AO.of o4, va_AO.of o8⟩
  match k with
  | 0 => cases hk; exact ⟨a0, b0⟩
  | 1 => cases hk; exact ⟨a1, b1⟩
  | 2 => cases hk; exact ⟨a2, b2⟩
  | 3 => cases hk; exact ⟨a3, b3⟩
  | 4 => cases hk; exact ⟨a4, b4⟩
  | k + 5 => cases hk
abbrev gvn : Cond := Jvm.Cond.and given_1 narrow_1
abbrev tmS : Term := Jvm.Term.string "LastPages$Tokens" (54 : Nat)
abbrev tmV : Term := Jvm.Term.field tmS "java/lang/String" "value" "[B"
theorem in_ex : Cond.exactly tmS "java/lang/String" ∈ flatC gvn := by decide +kernel
theorem in_co : Cond.eq (.field tmS "java/lang/String" "coder" "B") (.int 0) ∈ flatC gvn := by decide +kernel
theorem in_ar : Cond.arrayOf tmV .byte ∈ flatC gvn := by decide +kernel
theorem in_le : Cond.eq (.length tmV) (.int (Int32.ofNat 163)) ∈ flatC gvn := by decide +kernel
theorem in_el_at : ∀ j, j < 163 → (flatC gvn)[39 + j]? = some (Cond.eq (.elem tmV (.int (Int32.ofNat j))) (.int (bT.getD j 0))) := by decide +kernel
theorem in_el (j : Nat) (hj : j < 163) : Cond.eq (.elem tmV (.int (Int32.ofNat j))) (.int (bT.getD j 0)) ∈ flatC gvn := List.mem_of_getElem? (in_el_at j hj)
theorem in_cs : Cond.eq (.static "java/lang/String" "COMPACT_STRINGS" "Z") (.int 1) ∈ flatC gvn := by decide +kernel
theorem in_si : Cond.isRef (.static "jdk/internal/util/Preconditions" "SIOOBE_FORMATTER" "Ljava/util/function/BiFunction;") ∈ flatC gvn := by decide +kernel
theorem start_X {s : State} {args : Array Value} (hts : ∀ w ∈ lw_tbl, w.before args s = true) (hg : gvn.before args s = true) : ∃ q v, XT q v s.heap.size s := by
  have hs := flat_of_before _ hg
  have hA : ∀ a : Nat, a < s.heap.size → ¬ (fun z => s.heap.size ≤ z) a := fun a h h2 => by
    have h2 : s.heap.size ≤ a := h2
    omega
  have z : ∀ {i : Nat}, i < 1 → i = 0 := fun h => Nat.lt_one_iff.mp h
  obtain ⟨adK, adV, h1, h2⟩ := vk_Sof (args := args) (s := s) (N := 1) (tm := fun _ => tmS) (len := [163]) (byt := [bT]) (A := fun z => s.heap.size ≤ z) (fun i hi => by rw [z hi]; decide) (fun _ _ => hs _ in_ex) (fun _ _ => hs _ in_co) (fun _ _ => hs _ in_ar) (fun i hi => by rw [z hi]; exact hs _ in_le) (fun i hi j hj => by rw [z hi] at hj ⊢; exact hs _ (in_el j hj)) (fun i j hi hj hne => absurd ((z hi).trans (z hj).symm) hne) hA
  have h3 := h1.1 0 (by decide)
  refine ⟨adK 0, adV 0, vk_R.of (A := args) (hts _ (by decide +kernel)) (h2 0 (by decide)), h3.1, h3.2.1, h3.2.2.1, h3.2.2.2, ?_, ?_⟩
  · exact va_Zof (hts _ (by decide +kernel)) (hts _ (by decide +kernel)) (va_eqi (hs _ in_cs)) hA
  · exact va_Zqof (hts _ (by decide +kernel)) (hts _ (by decide +kernel)) (hs _ in_si) hA
section LAWT
variable {p : Program} {l : Launch} {e : Env} {s : State} {m : MethodId} {below : List Frame} {meth : Method} {c : Code} {b L : Nat} {xs : Nat → Int32}
/-- behind a constructor -/
theorem new_behind {R : Room} {args : Array Value} {H : Heap} {locs : List Loc} {cells slots mc' ms' a' pc : Nat} {Q : State → Prop} {ls : Array Slot} {st st0 : List Value} {Qa : State → Outcome → State → Prop} {A : Nat → Prop} (hr : va_Run p l e R s m args below meth c H locs cells slots mc' ms' (F0 m pc ls st0) st Qa (fun q => a' ≤ q)) (hS : va_S A s.heap H locs) (hA : ∀ q, a' ≤ q → A q) (hret : ∀ st oc t, Qa st oc t → oc = .returned none ∧ va_F (fun q => a' ≤ q) st t)
    (kk : ∀ (t st₀ : State) (H1 : Heap) (locs1 : List Loc), Qa st₀ (.returned none) t → t.heap = H1 → (∀ q, q < H.size → ¬ a' ≤ q → H1[q]? = H[q]?) → va_S A s.heap H1 locs1 → W p l e R s m args below meth c H1 locs1 (cells + mc') (slots + ms') Q (F0 m (pc + 3) ls st)) : W p l e R s m args below meth c H locs cells slots Q (F0 m pc ls st0) := by
  intro T hT X
  obtain ⟨v, st₀, t, T', K, h0, X', hK, e1, e2, hq, go⟩ := hr T hT X
  obtain ⟨hv, hz, hk⟩ := hret _ _ _ hq
  cases hv
  rw [h0] at hz hk
  have hS' : va_S A s.heap T'.heap (locs ++ K) := ⟨Nat.le_trans hS.1 (by rw [e1]; exact hz), fun q h1 h2 => by rw [e1, hk q (Nat.lt_of_lt_of_le h1 hS.1) (fun z => h2 (hA q z))]; exact hS.2.1 q h1 h2, fun q hq => by
      rcases List.mem_append.mp hq with h | h
      · exact hS.2.2 q h
      · exact hA _ (hK q h)⟩
  obtain ⟨t2, a1, b1⟩ := kk t st₀ T'.heap (locs ++ K) hq e1.symm (fun q h1 h2 => by rw [e1]; exact hk q h1 h2) hS' T' rfl X'
  exact ⟨t2, go t2 a1, b1⟩
set_option maxRecDepth 100000 in
theorem law_made (hL : L ≤ 3072) (C0 : lw_At p s m meth c b L xs) {G : Gm} {q v : Nat} (hG : KG G s) (hX : XT q v s.heap.size s) : W p l e room_1 s m #[Value.ref b] below meth c s.heap [] 0 0 (lw_Z below #[Value.ref b] s) (entryFrame m ([Value.ref b] : List Value).toArray 4) := by
  have C : LCx p s m meth c b L xs G s.heap.size := ⟨C0, hG, rfl⟩
  have TT := C.w
  have hA : ∀ q : Nat, s.heap.size ≤ q → (fun z => s.heap.size ≤ z) q := fun q h => h
  have hl := lv_entry ([.ref b]) (n := 4) (Nat.le_of_ble_eq_true rfl)
  rw [lg_entry_eq]
  generalize (lg_sl ([.ref b]) ++ List.replicate (4 - (lg_sl ([.ref b])).length) Slot.unset).toArray = ls at hl ⊢
  have hl : lv_has ls 4 [(0, .ref b)] := hl
  -- the class
  refine va_new (D := G.1) (cl := cls_) (tys := tysY (Y0 G)) (ws := []) (A := fun z => s.heap.size ≤ z) (H0 := s.heap) (pc := 0) (ci := 11) (N := 18) (C := RX11) (T := TX11) (fs := dfE (ftab 11)) (own := R_law) C.1.1 C.1.2.1 TT inX11 tyX11 tyX11_ok C.1.2.2.2.2.1 (TT _ w1_22) (TT _ w1_23) (TT _ w1_1) C.2.1.1.1 (fun k q h => by cases h) ⟨fun i j p q h => (by cases h), fun k q h => (by cases h)⟩ va_S.rf hA rfl fsX11 (Nat.le_of_ble_eq_true rfl) (Nat.le_of_ble_eq_true rfl) d_law_0 ?_
  intro q1 H1 hP1 hD1 hS1
  refine W_size fun hz1 => ?_
  have hq1 : q1 = s.heap.size + 0 := zw_push (G := G) (b := s.heap.size) (l := []) hP1 hD1 (by simpa using hz1)
  have hq1 : q1 = s.heap.size := hq1
  subst hq1
  have hl1 : s.heap.size < H1.size := (hP1 0 _ rfl).lt
  refine lv_dup C.1.1 C.1.2.1 (pc := 3) d_law_3 rfl ?_
  have hPn : va_P G.1 cls_ (zw G s.heap.size s.heap.size [dO 11]) H1 := by
    intro k q hk
    obtain ⟨s0, hs0, rfl⟩ := zw_in hk
    have hk0 : k = 0 := by
      have : k < 1 := (List.getElem?_eq_some_iff.mp hs0).1
      omega
    subst hk0
    cases hs0
    rw [cE_dO G _ (by decide)]
    exact hP1 0 _ rfl
  obtain ⟨k1, k2, k3, k4, k5, k6⟩ := okI_LP_init
  refine new_behind (Qa := CQp G s.heap.size c_LP_init (Value.ref s.heap.size :: []).toArray) (A := fun z => s.heap.size ≤ z) (va_runI (n := 0) (As := []) (b := s.heap.size) (rest := [.ref s.heap.size]) (Ts := lw_gd) (own := R_law) (rm := rmC 5 183 6136) ⟨C.1.1, C.1.2.1, C.1.2.2.2.1, C.1.2.2.2.2.1, TT⟩ (ok_LP_init G s.heap.size q v l) ⟨callB_of 0 TT (good_gd (K' := K_LP_init) k1) rfl rfl rfl (TT _ k3) (TT _ w1_24) k4 ⟨by decide, by decide⟩, k6, TT _ k2⟩ ⟨blind_CP (XT_b q v _), fun U hU hW => ⟨rfl, ?_, by rw [hU]; exact hPn, KG.warm hW C.2.1, XT_in (Nat.le_refl _) hX hS1 hU hW⟩⟩ rfl rfl hl.1 rfl (lv_room (Nat.le_of_ble_eq_true rfl)) d_law_4 ⟨by decide, by decide⟩) hS1 (fun q h => h) (fun st oc t h => ⟨h.1, h.2.2.2⟩) ?_
  · rw [hU]
    show H1.size = s.heap.size + 1
    omega
  intro t1 st1 H2 locs2 hq2 ht2 hk2 hS2
  have hP2 : va_P G.1 cls_ (zw G s.heap.size s.heap.size c_LP_init) H2 := by
    rw [← ht2]
    exact hq2.2.1
  refine lv_astore_n C.1.1 C.1.2.1 (pc := 7) (lv' := [(1, .ref s.heap.size), (0, .ref b)]) d_law_7 rfl hl (by decide) rfl (fun ls hl => ?_)
  -- the reference
  refine va_new (D := G.1) (cl := cls_) (tys := tysY (Y0 G)) (A := fun z => s.heap.size ≤ z) (H0 := s.heap) (pc := 8) (ci := 12) (N := 44) (C := RX12) (T := TX12) (fs := dfE (ftab 12)) (own := R_law) C.1.1 C.1.2.1 TT inX12 tyX12 tyX12_ok C.1.2.2.2.2.1 (TT _ w7_17) (TT _ w7_18) (TT _ w1_19) C.2.1.1.1 hP2 (zw_D G _ c_LP_init s.heap.size) hS2 hA rfl fsX12 (Nat.le_of_ble_eq_true rfl) (Nat.le_of_ble_eq_true rfl) d_law_8 ?_
  intro q3 H3 hP3 hD3 hS3
  refine W_size fun hz3 => ?_
  have hq3 : q3 = s.heap.size + c_LP_init.length := zw_push hP3 hD3 (by rw [show c_LP_init.length = 184 from lenP]; omega)
  rw [show c_LP_init.length = 184 from lenP] at hq3
  subst hq3
  have hn3 : (zw G s.heap.size s.heap.size c_LP_init ++ [(s.heap.size + 184, (.inr (12, dfE (ftab 12)) : va_E))])[c_LP_init.length]? = some (s.heap.size + 184, .inr (12, dfE (ftab 12))) := by
    rw [List.getElem?_append_right (by rw [zw_len]; exact Nat.le_refl _), zw_len, Nat.sub_self]
    rfl
  have hl3 : s.heap.size + 184 < H3.size := (hP3 _ _ hn3).lt
  have hP3c : va_P G.1 cls_ (zw G s.heap.size s.heap.size c_LP_init) H3 := fun k q hk => hP3 k q (by
    have := (List.getElem?_eq_some_iff.mp hk).1
    rw [List.getElem?_append_left this]
    exact hk)
  refine lv_dup C.1.1 C.1.2.1 (pc := 11) d_law_11 rfl ?_
  have hPm : va_P G.1 cls_ (zw G (s.heap.size + 184) (s.heap.size + 184) [dO 12]) H3 := by
    intro k q hk
    obtain ⟨s0, hs0, rfl⟩ := zw_in hk
    have hk0 : k = 0 := by
      have : k < 1 := (List.getElem?_eq_some_iff.mp hs0).1
      omega
    subst hk0
    cases hs0
    rw [cE_dO G _ (by decide)]
    exact hP3 _ _ hn3
  obtain ⟨j1, j2, j3, j4, j5, j6⟩ := okI_M_init
  refine new_behind (Qa := QMi G (s.heap.size + 184) (Value.ref (s.heap.size + 184) :: []).toArray) (A := fun z => s.heap.size ≤ z) (va_runI (n := 0) (As := []) (b := s.heap.size + 184) (rest := [.ref (s.heap.size + 184)]) (Ts := lw_gd) (own := R_law) (rm := rmC 1 17 6628) ⟨C.1.1, C.1.2.1, C.1.2.2.2.1, C.1.2.2.2.2.1, TT⟩ (ok_M_init G (s.heap.size + 184) l) ⟨callB_of 0 TT (good_gd (K' := K_M_init) j1) rfl rfl rfl (TT _ j3) (TT _ w7_19) j4 ⟨by decide, by decide⟩, j6, TT _ j2⟩ ⟨blind_CP (fun _ _ _ _ _ => trivial), fun U hU hW => ⟨rfl, ?_, by rw [hU]; exact hPm, KG.warm hW C.2.1, trivial⟩⟩ rfl rfl hl.1 rfl (lv_room (Nat.le_of_ble_eq_true rfl)) d_law_12 ⟨by decide, by decide⟩) hS3 (fun q h => by show s.heap.size ≤ q; omega) (fun st oc t h => ⟨h.1, h.2.2⟩) ?_
  · rw [hU]
    show H3.size = s.heap.size + 184 + 1
    omega
  intro t4 st4 H4 locs4 hq4 ht4 hk4 hS4
  obtain ⟨-, ⟨h1, e1, ⟨wP, -, -, wT⟩⟩, -⟩ := hq4
  rw [ht4] at wP
  have hP4 : va_P G.1 cls_ (zw G s.heap.size s.heap.size c_LP_init) H4 := hP3c.kept (fun k q hk => by
    have hlt := (hP3c k q hk).lt
    obtain ⟨s0, hs0, rfl⟩ := zw_in hk
    have hk2 : k < c_LP_init.length := (List.getElem?_eq_some_iff.mp hs0).1
    rw [show c_LP_init.length = 184 from lenP] at hk2
    refine hk4 _ hlt ?_
    show ¬ s.heap.size + 184 ≤ s.heap.size + k
    omega)
  refine lv_astore_n C.1.1 C.1.2.1 (pc := 15) (lv' := [(2, .ref (s.heap.size + 184)), (1, .ref s.heap.size), (0, .ref b)]) d_law_15 rfl hl (by decide) rfl (fun ls hl => ?_)
  refine lv_iconst C.1.1 C.1.2.1 (pc := 16) (v := nI 0) d_law_16 (by decide) ?_
  refine lv_istore_n C.1.1 C.1.2.1 (pc := 17) (lv' := [(3, .int (nI 0)), (2, .ref (s.heap.size + 184)), (1, .ref s.heap.size), (0, .ref b)]) d_law_17 rfl hl (by decide) rfl (fun ls hl => ?_)
  refine W.widen (k := 600000) (n := 7302250) (Nat.le_of_ble_eq_true rfl) (Nat.le_of_ble_eq_true rfl) ?_
  exact law_loop C hL (L + 1) 0 (by omega) (by omega) (pH s.heap.size) h1 (JJ_0 G s.heap.size (s.heap.size + 184) e1) H4 locs4 ls (sp_P okP_all hP4) wP (Ty_P G _) wT hS4 (lv_sub hl [0, 3, 2, 1] rfl)
end LAWT
/-- from the entry the law comes to its end with true -/
theorem whole_start {p : Program} {e : Env} {s : State} {m : MethodId} {below : List Frame} {meth : Method} {c : Code} (l : Launch) (hflags : l.flags = flags0) {b L : Nat} {xs : Nat → Int32} (hL : L ≤ 3072) (C0 : lw_At p s m meth c b L xs) : W p l e room_1 s m #[Value.ref b] below meth c s.heap [] 0 0 (lw_Z below #[Value.ref b] s) (entryFrame m ([Value.ref b] : List Value).toArray 4) := by
  obtain ⟨G, hG⟩ := start_G C0.2.2.2.2.2.1
  obtain ⟨q, v, hX⟩ := start_X C0.2.2.2.2.2.1 C0.2.2.2.2.2.2.2.2.2
  exact law_made hL C0 hG hX
