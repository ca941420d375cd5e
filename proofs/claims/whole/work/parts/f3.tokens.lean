/-! ===== the words' numbers, letter by letter; arrays of references ===== -/
def tStep (c : Int32) (s : Nat × List Int) : Nat × List Int := if c = 32 then (s.1 + 1, s.2) else (s.1, s.2.set s.1 ((Int64.ofInt (s.2.getD s.1 0) <<< ((5 : Int32).toInt64 &&& 63) ||| (c - 97 + 1).toInt64).toInt))
def tRun : Nat → Nat × List Int
  | 0 => (0, List.replicate 31 0)
  | i + 1 => tStep (bT.getD i 0) (tRun i)
theorem tRun_w : ∀ i, i < nT + 1 → (tRun i).1 ≤ 30 := by decide +kernel
theorem tRun_len : ∀ i, (tRun i).2.length = 31
  | 0 => by simp [tRun]
  | i + 1 => by
    show (tStep (bT.getD i 0) (tRun i)).2.length = 31
    unfold tStep
    split
    · exact tRun_len i
    · show ((tRun i).2.set (tRun i).1 _).length = 31
      rw [List.length_set]
      exact tRun_len i
theorem getD_set (l : List Int) {k : Nat} (hk : k < l.length) (v d : Int) (j : Nat) : (l.set k v).getD j d = if j = k then v else l.getD j d := by
  rw [List.getD_eq_getElem?_getD, List.getD_eq_getElem?_getD]
  by_cases h : j = k
  · subst h
    rw [List.getElem?_set_self hk, if_pos rfl]
    rfl
  · rw [List.getElem?_set_ne (fun q => h q.symm), if_neg h]
section CWS
variable {G : Gm} {n : Nat} {K : Mk} {a mc ms : Nat} {Qc : Array Value → State → Outcome → State → Prop} {X : State → Prop} {pc : Nat} {lv lv' : List (Nat × Value)} {st : List Value} {sp sp1 : List Sp} {cells slots : Nat}
theorem cw_zw (h : zw G a a sp = zw G a a sp1) (k : CW G n K a mc ms Qc X pc lv st sp1 cells slots) : CW G n K a mc ms Qc X pc lv st sp cells slots := by
  intro p l e s m args below meth c C hz hX H locs ls hP hS hl
  rw [h] at hP
  exact k p l e s m args below meth c C hz hX H locs ls hP hS hl
theorem cw_lv (ks : List Nat) (hp : lv_pick lv ks = lv') (k : CW G n K a mc ms Qc X pc lv' st sp cells slots) : CW G n K a mc ms Qc X pc lv st sp cells slots :=
  fun p l e s m args below meth c C hz hX H locs ls hP hS hl => k p l e s m args below meth c C hz hX H locs ls hP hS (lv_sub hl ks hp)
theorem cw_newq {idx kd t0 N : Nat} {C : String} {x : Int32} {vals : List Int} (hw : Cond.classLink K.1.cls idx C ∈ lw_gd) (hov : ∀ U : State, KG G U → va_AO C U) (ht : (tysY (Y0 G))[t0]? = some (G.2 t0, .object C)) (hE : cE G a (kd, N, vals) = .inl (G.2 t0, N, .inr (.inr (.inr (.inr (fun _ => none))))))
    (hn : ¬ x < 0) (hN : x.toNatClampNeg = N) (hb : N * 4 ≤ 536870912) (hd : decode K.2.1 pc = .ok (.anewarray idx, 3)) (hlen : sp.length = cells + 1) (hcs : cells + 1 ≤ mc) (hss : slots + N ≤ ms)
    (kk : CW G n K a mc ms Qc X (pc + 3) lv (.ref (a + (cells + 1)) :: st) (sp ++ [(kd, N, vals)]) (cells + 1) (slots + N)) : CW G n K a mc ms Qc X pc lv (.int x :: st) sp cells slots := by
  intro p l e s m args below meth c CC hz hX H locs ls hP hS hl
  have TT := CC.2.2.2.2.1
  have hK := CC.2.2.2.2.2.2.2.1.1.1
  refine va_newq CC.1 CC.2.1 CC.2.2.2.1 (wd_use TT hw) (hov s CC.2.2.2.2.2.2.2.1) hK hP (zw_D G a sp a) hS (fun q hq => by show a ≤ q; omega) hn hN hb hcs hss hd ?_
  intro q cA H1 hK1 hP1 hD1 hS1
  obtain ⟨k1, c1, a1, a2, a3, h1⟩ := (hK1.2 (tysY (Y0 G)).length (cA, .object C) (by rw [List.getElem?_append_right (Nat.le_refl _), Nat.sub_self]; rfl)).2
  obtain ⟨k2, c2, b1, b2, b3, h2⟩ := (hK.2 t0 _ ht).2
  have h3 : cA = G.2 t0 := Option.some.inj (h1.symm.trans h2)
  subst h3
  refine W_size fun hsz => ?_
  have hq : q = a + sp.length := zw_push hP1 hD1 (by omega)
  subst hq
  rw [show (Value.ref (a + sp.length)) = Value.ref (a + (cells + 1)) by rw [hlen]]
  refine kk p l e s m args below meth c CC hz hX H1 locs ls ?_ hS1 hl
  rw [zw_snoc, hE]
  exact hP1
theorem cw_aast {q0 t0 qk ci kd N z off b : Nat} {x : Int32} {r : vw_C} {vals vs : List Int} (ht : (tysY (Y0 G))[t0]? = some (G.2 t0, .object r.1)) (hc : cls_[ci]? = some r) (hci : ci < 20) (hsp : sp[q0]? = some (kd, N, vals)) (hE : ∀ w : List Int, cE G a (kd, N, w) = .inl (G.2 t0, N, .inr (.inr (.inr (.inr (fun i => rfS a (w.getD i (-1)))))))) (hs2 : sp[qk]? = some (ci, z, vs)) (hb : b = a + qk)
    (hx : x.toNatClampNeg = off) (h0 : ¬ x < 0) (hoN : off < N) (hlen : vals.length = N) (hd : decode K.2.1 pc = .ok (.aastore, 1)) (hsp1 : sp.set q0 (kd, N, vals.set off (qk : Int)) = sp1)
    (kk : CW G n K a mc ms Qc X (pc + 1) lv st sp1 cells slots) : CW G n K a mc ms Qc X pc lv (.ref b :: .int x :: .ref (a + q0) :: st) sp cells slots := by
  subst hb
  subst hsp1
  intro p l e s m args below meth c C hz hX H locs ls hP hS hl
  have hK := C.2.2.2.2.2.2.2.1.1.1
  have ha : (zw G a a sp)[q0]? = some (a + q0, .inl (G.2 t0, N, .inr (.inr (.inr (.inr (fun i => rfS a (vals.getD i (-1)))))))) := by
    rw [zw_get, hsp]
    show some (a + q0, cE G a (kd, N, vals)) = _
    rw [hE]
  have hv : (zw G a a sp)[qk]? = some (a + qk, .inr (ci, List.zipWith (fvS a) (ftab ci) vs)) := by
    rw [zw_get, hs2]
    show some (a + qk, cE G a (ci, z, vs)) = _
    rw [cE_obj G a (s := (ci, z, vs)) hci]
  refine va_astq C.1 C.2.1 hK hP (zw_D G a sp a) hS q0 t0 qk ci ha ht hv hc (fun q => by rcases q with q | q; exact h0 q; omega) hd ?_
  intro H1 locs1 hP1 hD1 hS1
  refine kk p l e s m args below meth c C hz hX H1 locs1 ls ?_ hS1 hl
  rw [← zw_set, hE]
  have e : (fun i => rfS a ((vals.set off (qk : Int)).getD i (-1))) = va_up (fun i => rfS a (vals.getD i (-1))) x.toNatClampNeg (some (a + qk)) := by
    funext i
    rw [hx, getD_set vals (by omega)]
    unfold va_up
    by_cases h : i = off
    · rw [if_pos h, if_pos h]
      unfold rfS
      rw [if_neg (by omega), Int.toNat_natCast]
    · rw [if_neg h, if_neg h]
  rw [e]
  exact hP1
end CWS
section AMC
variable {p : Program} {l : Launch} {e : Env} {R : Room} {s : State} {m : MethodId} {args : Array Value} {below : List Frame} {meth : Method} {c : Code} {H : Heap} {locs : List Loc} {cells slots : Nat} {Q : State → Prop} {pc : Nat} {ls : Array Slot} {st st0 : List Value}
/-- behind a call of a method whose world is a part of ours -/
theorem am_behind {Y : Ly} {x : Option Value × Hp} {As : Array Value} {A : Nat → Prop} (hr : va_Run p l e R s m args below meth c H locs cells slots 0 0 (F0 m pc ls st0) st (Qx Y x As) (inY Y)) (hS : va_S A s.heap H locs) (hA : ∀ q, inY Y q → A q)
    (kk : ∀ (H1 : Heap) (locs1 : List Loc), va_P Y.2.2.2.1 cls_ (va_pl Y.1 (enc Y x.2)) H1 → Ty Y x.2 → (∀ q, q < H.size → ¬ inY Y q → H1[q]? = H[q]?) → va_S A s.heap H1 locs1 → W p l e R s m args below meth c H1 locs1 cells slots Q (F0 m (pc + 3) ls (x.1.toList ++ st))) : W p l e R s m args below meth c H locs cells slots Q (F0 m pc ls st0) := by
  intro T hT X
  obtain ⟨v, st₀, t, T', L, h0, X', hL, e1, e2, ⟨hv, ⟨wP, wK, wD, wT⟩, hz, hk⟩, go⟩ := hr T hT X
  cases hv
  rw [h0] at hz hk
  have hS' : va_S A s.heap T'.heap (locs ++ L) := ⟨Nat.le_trans hS.1 (by rw [e1]; exact hz), fun q h1 h2 => by rw [e1, hk q (Nat.lt_of_lt_of_le h1 hS.1) (fun z => h2 (hA q z))]; exact hS.2.1 q h1 h2, fun q hq => by
      rcases List.mem_append.mp hq with h | h
      · exact hS.2.2 q h
      · exact hA _ (hL q h)⟩
  obtain ⟨t2, a1, b1⟩ := kk T'.heap (locs ++ L) (by rw [e1]; exact wP) wT (fun q h1 h2 => by rw [e1]; exact hk q h1 h2) hS' T' rfl X'
  exact ⟨t2, go t2 a1, b1⟩
theorem am_callS {K K' : Mk} {n' idx k : Nat} {As : List Value} {Y : Ly} {h : Hp} {A : Nat → Prop} {β : Type} {o' : Option β} {r' : β → Option Value × Hp} {x : β} (hx : p.tables.exec = Jvm.exec) (hb : c.code = K.2.1) (hml : c.maxLocals = K.2.2.1) (hown : s.vm.findClass K.1.cls = some m.cls) (TT : ∀ w ∈ wsK K, w.before args s = true) (hK : KK Y s) (hP : va_P Y.2.2.2.1 cls_ (va_pl Y.1 (enc Y h)) H) (hD : va_D (inY Y) (va_pl Y.1 (enc Y h))) (hT : Ty Y h) (hS : va_S A s.heap H locs) (hA : ∀ q, inY Y q → A q)
    (ok : okS K' k) (hM : AM Y n' K' As h o' r') (ho : o' = some x) (hw : Cond.methodLink K.1.cls idx K'.1 ∈ lw_gd) (hd : decode K.2.1 pc = .ok (.invokestatic idx, 3)) (hk : As.length = k) (hR : n' + 1 ≤ R.frames ∧ 120 * (n' + 1) ≤ R.locals) (hcs : cells ≤ R.cells) (hss : slots ≤ R.slots) (hl : ls.size = K.2.2.1) (hs : st0 = As.reverse ++ st) (hcat : (st.map fun v => v.category).sum ≤ 8)
    (kk : ∀ (H1 : Heap) (locs1 : List Loc), va_P Y.2.2.2.1 cls_ (va_pl Y.1 (enc Y (r' x).2)) H1 → Ty Y (r' x).2 → (∀ q, q < H.size → ¬ inY Y q → H1[q]? = H[q]?) → va_S A s.heap H1 locs1 → W p l e R s m args below meth c H1 locs1 cells slots Q (F0 m (pc + 3) ls ((r' x).1.toList ++ st))) : W p l e R s m args below meth c H locs cells slots Q (F0 m pc ls st0) := by
  obtain ⟨k1, k2, k4, k5, k6⟩ := ok
  refine am_behind (va_runS (n := k) (As := As) ⟨hx, hb, hml, hown, TT⟩ (hM x ho l) ⟨callB_of k TT (good_K (K := K) k1) rfl rfl rfl (wd_use TT k4) (wd_use TT hw) k5 ⟨hR.1, ?_⟩, wd_use TT k2⟩ ⟨blind_Wd, fun U hU hW => ⟨rfl, by rw [hU]; exact hP, KK.warm hW hK, hD, hT⟩⟩ rfl hk hl hs (lv_room hcat) hd ⟨hcs, hss⟩) hS hA kk
  show 8 + (K'.2.2.1 + 11) + 120 * n' ≤ R.locals
  have := hR.2
  omega
theorem am_callV {K K' : Mk} {n' idx k b ci N : Nat} {T : u_T} {As : List Value} {Y : Ly} {h : Hp} {A : Nat → Prop} {β : Type} {o' : Option β} {r' : β → Option Value × Hp} {x : β} (hx : p.tables.exec = Jvm.exec) (hb : c.code = K.2.1) (hml : c.maxLocals = K.2.2.1) (hown : s.vm.findClass K.1.cls = some m.cls) (TT : ∀ w ∈ wsK K, w.before args s = true) (hK : KK Y s) (hP : va_P Y.2.2.2.1 cls_ (va_pl Y.1 (enc Y h)) H) (hD : va_D (inY Y) (va_pl Y.1 (enc Y h))) (hT : Ty Y h) (hS : va_S A s.heap H locs) (hA : ∀ q, inY Y q → A q)
    (ok : okV K' k) (hM : AM Y n' K' (.ref b :: As) h o' r') (hc : cls_[ci]? = some (K'.1.cls, T, N)) (hci : ci < 20) (hbo : isO Y ci b) (ho : o' = some x) (hw : Cond.methodLink K.1.cls idx K'.1 ∈ lw_gd) (hd : decode K.2.1 pc = .ok (.invokevirtual idx, 3)) (hk : As.length = k) (hR : n' + 1 ≤ R.frames ∧ 120 * (n' + 1) ≤ R.locals) (hcs : cells ≤ R.cells) (hss : slots ≤ R.slots) (hl : ls.size = K.2.2.1) (hs : st0 = As.reverse ++ .ref b :: st) (hcat : (st.map fun v => v.category).sum ≤ 8)
    (kk : ∀ (H1 : Heap) (locs1 : List Loc), va_P Y.2.2.2.1 cls_ (va_pl Y.1 (enc Y (r' x).2)) H1 → Ty Y (r' x).2 → (∀ q, q < H.size → ¬ inY Y q → H1[q]? = H[q]?) → va_S A s.heap H1 locs1 → W p l e R s m args below meth c H1 locs1 cells slots Q (F0 m (pc + 3) ls ((r' x).1.toList ++ st))) : W p l e R s m args below meth c H locs cells slots Q (F0 m pc ls st0) := by
  obtain ⟨q0, hq⟩ := pl_get (Y := Y) (h := h) hbo.1
  rw [enc_obj hbo hci] at hq
  obtain ⟨k1, k2, k3, k4, k5, k6⟩ := ok
  refine am_behind (va_runV (n := k) (C := K'.1.cls) (b := b) (As := As) ⟨hx, hb, hml, hown, TT⟩ (hM x ho l) ⟨callB_of k TT (good_K (K := K) k1) rfl rfl rfl (wd_use TT k4) (wd_use TT hw) k5 ⟨hR.1, ?_⟩, wd_use TT k2, wd_use TT k3⟩ ⟨blind_Wd, va_recv hK.1 hP hc hq, fun U hU hW => ⟨rfl, by rw [hU]; exact hP, KK.warm hW hK, hD, hT⟩⟩ rfl hk hl hs (lv_room hcat) hd ⟨hcs, hss⟩) hS hA kk
  show 8 + (K'.2.2.1 + 11) + 120 * n' ≤ R.locals
  have := hR.2
  omega
end AMC
theorem arrV_eq (cI : ClassId) (N : Nat) {f g : Nat → Value} (h : ∀ j, j < N → f j = g j) : arrV cI N f = arrV cI N g := by
  unfold arrV
  rw [show (fun j : Fin N => f j.val) = (fun j : Fin N => g j.val) from funext fun j => h j.val j.isLt]
theorem one_D (A : Nat → Prop) (q : Nat) (e : va_E) (h : A q) : va_D A [(q, e)] := by
  refine ⟨fun i j x y hi hj _ => ?_, fun k x hk => ?_⟩
  · have h1 : i < 1 := (List.getElem?_eq_some_iff.mp hi).1
    have h2 : j < 1 := (List.getElem?_eq_some_iff.mp hj).1
    omega
  · have h1 : k < 1 := (List.getElem?_eq_some_iff.mp hk).1
    have h2 : k = 0 := by omega
    subst h2
    cases hk
    exact h
/-- Arrays.fill of an int row -/
theorem cw_fill {G : Gm} {n : Nat} {K : Mk} {a mc ms : Nat} {Qc : Array Value → State → Outcome → State → Prop} {X : State → Prop} {pc : Nat} {lv : List (Nat × Value)} {st : List Value} {sp : List Sp} {cells slots : Nat} {idx q0 N : Nat} {vals : List Int} {x : Int32} {xi : Int} (hsp : sp[q0]? = some (20, N, vals)) (hN : N < 4000000) (hw : Cond.methodLink K.1.cls idx K_J_fillI.1 ∈ lw_gd) (hd : decode K.2.1 pc = .ok (.invokestatic idx, 3)) (hn : 1 ≤ n) (hxi : Int32.ofInt xi = x) (hcs : cells ≤ mc) (hss : slots ≤ ms) (hcat : (st.map fun v => v.category).sum ≤ 8)
    (kk : CW G n K a mc ms Qc X (pc + 3) lv st (sp.set q0 (20, N, List.replicate N xi)) cells slots) : CW G n K a mc ms Qc X pc lv (.int x :: .ref (a + q0) :: st) sp cells slots := by
  intro p l e s m args below meth c C hz hX H locs ls hP hS hl
  have ha : (zw G a a sp)[q0]? = some (a + q0, cE G a (20, N, vals)) := by
    rw [zw_get, hsp]
    rfl
  let Y : Ly := ([a + q0], fun _ => 20, fun _ => N, G.1, G.2)
  let h : Hp := (fun _ _ => 0, fun _ _ => 0, fun _ _ => 0, fun _ i => Int32.ofInt (vals.getD i 0), fun _ _ => 0, fun _ _ => 0)
  have hO : isO Y 20 (a + q0) := ⟨List.mem_singleton.mpr rfl, rfl⟩
  have hE : enc Y h (a + q0) = cE G a (20, N, vals) := by
    rw [enc_20 hO]
    rfl
  have hT : Ty Y h := by
    refine ⟨fun f kt hf b hb => ?_, fun f hf b hb => Or.inl rfl, fun b hb => ?_, fun b hb => ?_⟩
    · have h1 : f / 100 = 20 := hb.2.symm
      have h2 : rk f = none := by
        unfold rk
        split <;> first | omega | rfl
      rw [h2] at hf
      cases hf
    · have h1 : 20 = 23 := hb.2
      omega
    · have h1 : 20 = 24 := hb.2
      omega
  have hPY : va_P Y.2.2.2.1 cls_ (va_pl Y.1 (enc Y h)) H := by
    intro k q hk
    have h1 : k < 1 := (List.getElem?_eq_some_iff.mp hk).1
    have h2 : k = 0 := by omega
    subst h2
    cases hk
    have := hP q0 _ ha
    rw [← hE] at this
    exact this
  have hDY : va_D (inY Y) (va_pl Y.1 (enc Y h)) := one_D _ _ _ hO.1
  obtain ⟨g, e1, e2⟩ := J_fillI_s (Y := Y) (h := h) (A := a + q0) (v := x) hN
  refine am_callS (K := K) (K' := K_J_fillI) (As := [.ref (a + q0), .int x]) (A := fun q => a ≤ q) C.1 C.2.1 C.2.2.1 C.2.2.2.1 C.2.2.2.2.1 (show KK Y s from C.2.2.2.2.2.2.2.1.1) hPY hDY hT hS (fun q hq => by
    have : q = a + q0 := List.mem_singleton.mp hq
    show a ≤ q
    omega) okS_J_fillI (ok_J_fillI Y (a + q0) x h hO) e1 hw hd rfl ⟨hn, by show 120 * 1 ≤ 120 * n; omega⟩ hcs hss hl.1 rfl hcat ?_
  intro H1 locs1 hP1 hT1 hk1 hS1
  refine kk p l e s m args below meth c C hz hX H1 locs1 ls ?_ hS1 hl
  rw [← zw_set]
  have hlt : q0 < (zw G a a sp).length := (List.getElem?_eq_some_iff.mp ha).1
  intro k q hk
  by_cases hkq : k = q0
  · subst hkq
    rw [List.getElem?_set_self hlt] at hk
    cases hk
    have h1 := hP1 0 (a + k, enc Y (hWi h (a + k) g) (a + k)) rfl
    rw [enc_20 hO] at h1
    have h1 : H1[a + k]? = some (arrV (G.2 0) N (fun j => .int (hAi (hWi h (a + k) g) (a + k) j))) := h1
    show H1[a + k]? = some (arrV (G.2 0) N (fun j => .int (Int32.ofInt ((List.replicate N xi).getD j 0))))
    rw [h1]
    refine congrArg some (arrV_eq _ _ fun j hj => ?_)
    rw [ai_wi, if_pos rfl, e2 j hj, List.getD_eq_getElem?_getD, List.getElem?_replicate, if_pos hj, ← hxi]
    rfl
  · rw [List.getElem?_set_ne (fun z => hkq z.symm)] at hk
    obtain ⟨s0, -, rfl⟩ := zw_in hk
    have hq := hP k _ hk
    refine hq.kept (hk1 (a + k) hq.lt (fun z => ?_))
    have z : a + k = a + q0 := List.mem_singleton.mp z
    omega
abbrev K_To_init : Mk := (⟨"LastPages$Tokens", "<init>", "()V"⟩, prog_9_method_1_code, 4, (Option.none : Option Jvm.ClassFile.FieldType))
theorem okI_To_init : okI ⟨"LastPages$Tokens", "<init>", "()V"⟩ prog_9_method_1_code 4 0 := ⟨w1_36, w1_35, w1_2, ⟨by decide, by decide, by decide +kernel⟩, by decide, rfl⟩
theorem d_To_init_0 : decode prog_9_method_1_code 0 = .ok (.aload_n 0, 1) := by decide +kernel
theorem d_To_init_1 : decode prog_9_method_1_code 1 = .ok (.invokespecial 3, 3) := by decide +kernel
theorem d_To_init_4 : decode prog_9_method_1_code 4 = .ok (.aload_n 0, 1) := by decide +kernel
theorem d_To_init_5 : decode prog_9_method_1_code 5 = .ok (.sipush 900, 3) := by decide +kernel
theorem d_To_init_8 : decode prog_9_method_1_code 8 = .ok (.newarray .byte, 2) := by decide +kernel
theorem d_To_init_10 : decode prog_9_method_1_code 10 = .ok (.putfield 9, 3) := by decide +kernel
theorem d_To_init_13 : decode prog_9_method_1_code 13 = .ok (.aload_n 0, 1) := by decide +kernel
theorem d_To_init_14 : decode prog_9_method_1_code 14 = .ok (.bipush 31, 2) := by decide +kernel
theorem d_To_init_16 : decode prog_9_method_1_code 16 = .ok (.newarray .long, 2) := by decide +kernel
theorem d_To_init_18 : decode prog_9_method_1_code 18 = .ok (.putfield 15, 3) := by decide +kernel
theorem d_To_init_21 : decode prog_9_method_1_code 21 = .ok (.aload_n 0, 1) := by decide +kernel
theorem d_To_init_22 : decode prog_9_method_1_code 22 = .ok (.iconst 0, 1) := by decide +kernel
theorem d_To_init_23 : decode prog_9_method_1_code 23 = .ok (.putfield 19, 3) := by decide +kernel
theorem d_To_init_26 : decode prog_9_method_1_code 26 = .ok (.aload_n 0, 1) := by decide +kernel
theorem d_To_init_27 : decode prog_9_method_1_code 27 = .ok (.iconst 0, 1) := by decide +kernel
theorem d_To_init_28 : decode prog_9_method_1_code 28 = .ok (.putfield 23, 3) := by decide +kernel
theorem d_To_init_31 : decode prog_9_method_1_code 31 = .ok (.aload_n 0, 1) := by decide +kernel
theorem d_To_init_32 : decode prog_9_method_1_code 32 = .ok (.iconst 0, 1) := by decide +kernel
theorem d_To_init_33 : decode prog_9_method_1_code 33 = .ok (.putfield 26, 3) := by decide +kernel
theorem d_To_init_36 : decode prog_9_method_1_code 36 = .ok (.aload_n 0, 1) := by decide +kernel
theorem d_To_init_37 : decode prog_9_method_1_code 37 = .ok (.iconst 0, 1) := by decide +kernel
theorem d_To_init_38 : decode prog_9_method_1_code 38 = .ok (.putfield 29, 3) := by decide +kernel
theorem d_To_init_41 : decode prog_9_method_1_code 41 = .ok (.aload_n 0, 1) := by decide +kernel
theorem d_To_init_42 : decode prog_9_method_1_code 42 = .ok (.iconst 0, 1) := by decide +kernel
theorem d_To_init_43 : decode prog_9_method_1_code 43 = .ok (.putfield 32, 3) := by decide +kernel
theorem d_To_init_46 : decode prog_9_method_1_code 46 = .ok (.aload_n 0, 1) := by decide +kernel
theorem d_To_init_47 : decode prog_9_method_1_code 47 = .ok (.iconst 0, 1) := by decide +kernel
theorem d_To_init_48 : decode prog_9_method_1_code 48 = .ok (.putfield 35, 3) := by decide +kernel
theorem d_To_init_51 : decode prog_9_method_1_code 51 = .ok (.aload_n 0, 1) := by decide +kernel
theorem d_To_init_52 : decode prog_9_method_1_code 52 = .ok (.iconst (-1), 1) := by decide +kernel
theorem d_To_init_53 : decode prog_9_method_1_code 53 = .ok (.putfield 38, 3) := by decide +kernel
theorem d_To_init_56 : decode prog_9_method_1_code 56 = .ok (.aload_n 0, 1) := by decide +kernel
theorem d_To_init_57 : decode prog_9_method_1_code 57 = .ok (.lconst 0, 1) := by decide +kernel
theorem d_To_init_58 : decode prog_9_method_1_code 58 = .ok (.putfield 41, 3) := by decide +kernel
theorem d_To_init_61 : decode prog_9_method_1_code 61 = .ok (.aload_n 0, 1) := by decide +kernel
theorem d_To_init_62 : decode prog_9_method_1_code 62 = .ok (.iconst (-1), 1) := by decide +kernel
theorem d_To_init_63 : decode prog_9_method_1_code 63 = .ok (.putfield 45, 3) := by decide +kernel
theorem d_To_init_66 : decode prog_9_method_1_code 66 = .ok (.aload_n 0, 1) := by decide +kernel
theorem d_To_init_67 : decode prog_9_method_1_code 67 = .ok (.iconst 0, 1) := by decide +kernel
theorem d_To_init_68 : decode prog_9_method_1_code 68 = .ok (.putfield 48, 3) := by decide +kernel
theorem d_To_init_71 : decode prog_9_method_1_code 71 = .ok (.aload_n 0, 1) := by decide +kernel
theorem d_To_init_72 : decode prog_9_method_1_code 72 = .ok (.iconst (-1), 1) := by decide +kernel
theorem d_To_init_73 : decode prog_9_method_1_code 73 = .ok (.putfield 51, 3) := by decide +kernel
theorem d_To_init_76 : decode prog_9_method_1_code 76 = .ok (.iconst 0, 1) := by decide +kernel
theorem d_To_init_77 : decode prog_9_method_1_code 77 = .ok (.istore_n 1, 1) := by decide +kernel
theorem d_To_init_78 : decode prog_9_method_1_code 78 = .ok (.iconst 0, 1) := by decide +kernel
theorem d_To_init_79 : decode prog_9_method_1_code 79 = .ok (.istore_n 2, 1) := by decide +kernel
theorem d_To_init_80 : decode prog_9_method_1_code 80 = .ok (.iload_n 2, 1) := by decide +kernel
theorem d_To_init_81 : decode prog_9_method_1_code 81 = .ok (.ldc 54, 2) := by decide +kernel
theorem d_To_init_83 : decode prog_9_method_1_code 83 = .ok (.invokevirtual 56, 3) := by decide +kernel
theorem d_To_init_86 : decode prog_9_method_1_code 86 = .ok (.if_icmp .ge 56, 3) := by decide +kernel
theorem d_To_init_89 : decode prog_9_method_1_code 89 = .ok (.iload_n 1, 1) := by decide +kernel
theorem d_To_init_90 : decode prog_9_method_1_code 90 = .ok (.bipush 31, 2) := by decide +kernel
theorem d_To_init_92 : decode prog_9_method_1_code 92 = .ok (.if_icmp .ge 50, 3) := by decide +kernel
theorem d_To_init_95 : decode prog_9_method_1_code 95 = .ok (.ldc 54, 2) := by decide +kernel
theorem d_To_init_97 : decode prog_9_method_1_code 97 = .ok (.iload_n 2, 1) := by decide +kernel
theorem d_To_init_98 : decode prog_9_method_1_code 98 = .ok (.invokevirtual 61, 3) := by decide +kernel
theorem d_To_init_101 : decode prog_9_method_1_code 101 = .ok (.istore_n 3, 1) := by decide +kernel
theorem d_To_init_102 : decode prog_9_method_1_code 102 = .ok (.iload_n 3, 1) := by decide +kernel
theorem d_To_init_103 : decode prog_9_method_1_code 103 = .ok (.bipush 32, 2) := by decide +kernel
theorem d_To_init_105 : decode prog_9_method_1_code 105 = .ok (.if_icmp .ne 9, 3) := by decide +kernel
theorem d_To_init_108 : decode prog_9_method_1_code 108 = .ok (.iinc 1 1, 3) := by decide +kernel
theorem d_To_init_111 : decode prog_9_method_1_code 111 = .ok (.goto 25, 3) := by decide +kernel
theorem d_To_init_114 : decode prog_9_method_1_code 114 = .ok (.aload_n 0, 1) := by decide +kernel
theorem d_To_init_115 : decode prog_9_method_1_code 115 = .ok (.getfield 15, 3) := by decide +kernel
theorem d_To_init_118 : decode prog_9_method_1_code 118 = .ok (.iload_n 1, 1) := by decide +kernel
theorem d_To_init_119 : decode prog_9_method_1_code 119 = .ok (.aload_n 0, 1) := by decide +kernel
theorem d_To_init_120 : decode prog_9_method_1_code 120 = .ok (.getfield 15, 3) := by decide +kernel
theorem d_To_init_123 : decode prog_9_method_1_code 123 = .ok (.iload_n 1, 1) := by decide +kernel
theorem d_To_init_124 : decode prog_9_method_1_code 124 = .ok (.laload, 1) := by decide +kernel
theorem d_To_init_125 : decode prog_9_method_1_code 125 = .ok (.iconst 5, 1) := by decide +kernel
theorem d_To_init_126 : decode prog_9_method_1_code 126 = .ok (.lshl, 1) := by decide +kernel
theorem d_To_init_127 : decode prog_9_method_1_code 127 = .ok (.iload_n 3, 1) := by decide +kernel
theorem d_To_init_128 : decode prog_9_method_1_code 128 = .ok (.bipush 97, 2) := by decide +kernel
theorem d_To_init_130 : decode prog_9_method_1_code 130 = .ok (.isub, 1) := by decide +kernel
theorem d_To_init_131 : decode prog_9_method_1_code 131 = .ok (.iconst 1, 1) := by decide +kernel
theorem d_To_init_132 : decode prog_9_method_1_code 132 = .ok (.iadd, 1) := by decide +kernel
theorem d_To_init_133 : decode prog_9_method_1_code 133 = .ok (.i2l, 1) := by decide +kernel
theorem d_To_init_134 : decode prog_9_method_1_code 134 = .ok (.lor, 1) := by decide +kernel
theorem d_To_init_135 : decode prog_9_method_1_code 135 = .ok (.lastore, 1) := by decide +kernel
theorem d_To_init_136 : decode prog_9_method_1_code 136 = .ok (.iinc 2 1, 3) := by decide +kernel
theorem d_To_init_139 : decode prog_9_method_1_code 139 = .ok (.goto (-59), 3) := by decide +kernel
theorem d_To_init_142 : decode prog_9_method_1_code 142 = .ok (.return_, 1) := by decide +kernel
theorem inc_1 (i : Nat) : nI i + Int32.ofInt 1 = nI (i + 1) := by rw [show Int32.ofInt 1 = nI 1 from by decide, nI_add]
def XT (q v a : Nat) : State → Prop := fun U => vk_R "LastPages$Tokens" 54 tT q U ∧ SK q v (fun z => a ≤ z) U U.heap
theorem XT_b (q v a : Nat) (U : State) (g : JFrame) (mk : MethodId) (w : Array Value) (h : XT q v a U) : XT q v a (U.calling g mk w) := ⟨vk_R.same (u := U) (U := U.calling g mk w) rfl h.1, SK.moved (u := U) (U := U.calling g mk w) (Vm.Alike.refl U.vm) h.2⟩
theorem XT_in {q v a a' : Nat} (ha : a ≤ a') {s U : State} {H : Heap} {locs : List Loc} (h : XT q v a s) (hS : va_S (fun z => a ≤ z) s.heap H locs) (hU : U.heap = H) (hW : s.WarmedH U.vm) : XT q v a' U := by
  refine ⟨vk_R.warm hW h.1, ?_⟩
  rw [hU]
  exact SK.moved hW.alike ((h.2.kept hS.2.1).narrow (fun z (hz : a' ≤ z) => show a ≤ z from Nat.le_trans ha hz))
theorem XT_o {q v a : Nat} {s : State} {H : Heap} {locs : List Loc} (h : XT q v a s) (hS : va_S (fun z => a ≤ z) s.heap H locs) : SK q v nO s H := (h.2.kept hS.2.1).narrow (fun z hz => hz.elim)
def VT : List Int := [1, 2, 0, 0, 0, 0, 0, 0, -1, 0, -1, 0, -1]
def spT (i : Nat) : List Sp := (7, 0, VT) :: [(21, 900, []), (22, 31, (tRun i).2)]
theorem tRun_sp {i : Nat} (h : bT.getD i 0 = 32) : tRun (i + 1) = ((tRun i).1 + 1, (tRun i).2) := by
  show tStep (bT.getD i 0) (tRun i) = _
  unfold tStep
  rw [if_pos h]
theorem tRun_l {i : Nat} (h : ¬ bT.getD i 0 = 32) : tRun (i + 1) = ((tRun i).1, (tRun i).2.set (tRun i).1 ((Int64.ofInt ((tRun i).2.getD (tRun i).1 0) <<< ((5 : Int32).toInt64 &&& 63) ||| (bT.getD i 0 - 97 + 1).toInt64).toInt)) := by
  show tStep (bT.getD i 0) (tRun i) = _
  unfold tStep
  rw [if_neg h]
theorem cE_22 (G : Gm) (b N : Nat) (vs : List Int) : cE G b (22, N, vs) = .inl (G.2 2, N, .inr (.inl (fun i => Int64.ofInt (vs.getD i 0)))) := rfl
theorem vs_set (vs : List Int) {k : Nat} (hk : k < vs.length) (x : Int64) : vp_updL (fun i => Int64.ofInt (vs.getD i 0)) k x = (fun i => Int64.ofInt ((vs.set k x.toInt).getD i 0)) := by
  funext i
  rw [getD_set vs hk]
  unfold vp_updL
  by_cases h : i = k
  · rw [if_pos h, if_pos h, Int64.ofInt_toInt]
  · rw [if_neg h, if_neg h]
set_option maxRecDepth 100000 in
theorem To_loop (G : Gm) (a q v : Nat) : ∀ k i, i + k = nT → CW G 4 K_To_init a 2 931 (CQp G a (spT nT)) (XT q v a) 80 [(0, .ref a), (1, .int (nI (tRun i).1)), (2, .int (nI i))] [] (spT i) 2 931
  | 0, i, hik => by
    have hi : i = nT := by omega
    subst hi
    intro p l e s m args below meth c C hz hX H locs ls hP hS hl
    refine lv_iload_n C.1 C.2.1 (pc := 80) d_To_init_80 rfl (lv_at hl 2 rfl) ?_
    refine va_ldcS C.1 C.2.1 (pc := 81) C.2.2.2.1 hX.1 d_To_init_81 ?_
    refine q_callV (K := K_To_init) (K' := K_J_length) (As := []) (r := some (.int (nI nT))) (st := [.int (nI nT)]) C.1 C.2.1 C.2.2.1 C.2.2.2.1 C.2.2.2.2.1 (XT_o hX hS) okV_J_length rfl (jk_length q v) w1_39 d_To_init_83 rfl ⟨by decide, by decide⟩ (Nat.le_of_ble_eq_true rfl) (Nat.le_of_ble_eq_true rfl) hl.1 rfl (Nat.le_of_ble_eq_true rfl) ?_
    refine lv_icmp_ge C.1 C.2.1 (pc := 86) (tgt := 142) d_To_init_86 (by decide) (fun _ => ?_) (fun h => absurd ((nI_leI (by decide) (by decide)).mpr (Nat.le_refl nT)) h)
    exact cw_ret (K := K_To_init) (pc := 142) (sp := spT nT) d_To_init_142 rfl rfl rfl rfl p l e s m args below meth c C hz hX H locs ls hP hS hl
  | k + 1, i, hik => by
    have hi : i < nT := by omega
    have hi2 : i < 2 ^ 31 := by unfold nT at hi; omega
    have hw := tRun_w i (by omega)
    have hlen := tRun_len i
    have ih := To_loop G a q v k (i + 1) (by omega)
    intro p l e s m args below meth c C hz hX H locs ls hP hS hl
    have hK := C.2.2.2.2.2.2.2.1.1.1
    have hD := zw_D G a (spT i) a
    refine lv_iload_n C.1 C.2.1 (pc := 80) d_To_init_80 rfl (lv_at hl 2 rfl) ?_
    refine va_ldcS C.1 C.2.1 (pc := 81) C.2.2.2.1 hX.1 d_To_init_81 ?_
    refine q_callV (K := K_To_init) (K' := K_J_length) (As := []) (r := some (.int (nI nT))) (st := [.int (nI i)]) C.1 C.2.1 C.2.2.1 C.2.2.2.1 C.2.2.2.2.1 (XT_o hX hS) okV_J_length rfl (jk_length q v) w1_39 d_To_init_83 rfl ⟨by decide, by decide⟩ (Nat.le_of_ble_eq_true rfl) (Nat.le_of_ble_eq_true rfl) hl.1 rfl (Nat.le_of_ble_eq_true rfl) ?_
    refine lv_icmp_ge C.1 C.2.1 (pc := 86) (tgt := 142) d_To_init_86 (by decide) (fun h => absurd ((nI_leI (by decide) hi2).mp h) (by omega)) (fun _ => ?_)
    refine lv_iload_n C.1 C.2.1 (pc := 89) d_To_init_89 rfl (lv_at hl 1 rfl) ?_
    refine lv_bipush C.1 C.2.1 (pc := 90) (v := nI 31) d_To_init_90 (by decide) ?_
    refine lv_icmp_ge C.1 C.2.1 (pc := 92) (tgt := 142) d_To_init_92 (by decide) (fun h => absurd ((nI_leI (by decide) (by omega)).mp h) (by omega)) (fun _ => ?_)
    refine va_ldcS C.1 C.2.1 (pc := 95) C.2.2.2.1 hX.1 d_To_init_95 ?_
    refine lv_iload_n C.1 C.2.1 (pc := 97) d_To_init_97 rfl (lv_at hl 2 rfl) ?_
    refine q_callV (K := K_To_init) (K' := K_J_charAt) (As := [.int (nI i)]) (r := some (.int (bT.getD i 0))) (st := []) C.1 C.2.1 C.2.2.1 C.2.2.2.1 C.2.2.2.2.1 (XT_o hX hS) okV_J_charAt rfl (jk_charAt q v hi) w1_49 d_To_init_98 rfl ⟨by decide, by decide⟩ (Nat.le_of_ble_eq_true rfl) (Nat.le_of_ble_eq_true rfl) hl.1 rfl (Nat.zero_le _) ?_
    refine lv_istore_n C.1 C.2.1 (pc := 101) (lv' := [(3, .int (bT.getD i 0)), (0, .ref a), (1, .int (nI (tRun i).1)), (2, .int (nI i))]) d_To_init_101 rfl hl (by decide) rfl (fun ls hl => ?_)
    refine lv_iload_n C.1 C.2.1 (pc := 102) d_To_init_102 rfl (lv_at hl 0 rfl) ?_
    refine lv_bipush C.1 C.2.1 (pc := 103) (v := 32) d_To_init_103 (by decide) ?_
    refine lv_icmp_ne C.1 C.2.1 (pc := 105) (tgt := 114) d_To_init_105 (by decide) (fun hc => ?_) (fun hc => ?_)
    · have ha0 : (zw G a a (spT i))[0]? = some (a, .inr (7, List.zipWith (fvS a) (ftab 7) VT)) := rfl
      have ha2 : (zw G a a (spT i))[2]? = some (a + 2, .inl (G.2 2, 31, .inr (.inl (fun j => Int64.ofInt ((tRun i).2.getD j 0))))) := rfl
      refine lv_aload_n C.1 C.2.1 (pc := 114) d_To_init_114 rfl (lv_at hl 1 rfl) ?_
      refine va_get C.1 C.2.1 (pc := 115) (ref := RX7) C.2.2.2.2.1 (fun w hw => List.mem_cons_of_mem _ (inX7 w hw)) C.2.2.2.1 hK hP 0 ha0 (C := RX7) (T := TX7) (N := 13) rfl 1 (by decide) (wd_use C.2.2.2.2.1 w1_88) (fun _ h => h) (v := .ref (a + 2)) rfl d_To_init_115 ?_
      refine lv_iload_n C.1 C.2.1 (pc := 118) d_To_init_118 rfl (lv_at hl 2 rfl) ?_
      refine lv_aload_n C.1 C.2.1 (pc := 119) d_To_init_119 rfl (lv_at hl 1 rfl) ?_
      refine va_get C.1 C.2.1 (pc := 120) (ref := RX7) C.2.2.2.2.1 (fun w hw => List.mem_cons_of_mem _ (inX7 w hw)) C.2.2.2.1 hK hP 0 ha0 (C := RX7) (T := TX7) (N := 13) rfl 1 (by decide) (wd_use C.2.2.2.2.1 w1_88) (fun _ h => h) (v := .ref (a + 2)) rfl d_To_init_120 ?_
      refine lv_iload_n C.1 C.2.1 (pc := 123) d_To_init_123 rfl (lv_at hl 2 rfl) ?_
      refine va_lald C.1 C.2.1 (pc := 124) hK hP 2 2 ha2 rfl (inB_vp (inB_nI (show (tRun i).1 < 31 by omega) (by decide))) d_To_init_124 ?_
      rw [nI_clamp (show (tRun i).1 < 2 ^ 31 by omega)]
      refine lv_iconst C.1 C.2.1 (pc := 125) (v := 5) d_To_init_125 (by decide) ?_
      refine lv_lshl C.1 C.2.1 (pc := 126) d_To_init_126 rfl ?_
      refine lv_iload_n C.1 C.2.1 (pc := 127) d_To_init_127 rfl (lv_at hl 0 rfl) ?_
      refine lv_bipush C.1 C.2.1 (pc := 128) (v := 97) d_To_init_128 (by decide) ?_
      refine lv_isub C.1 C.2.1 (pc := 130) d_To_init_130 ?_
      refine lv_iconst C.1 C.2.1 (pc := 131) (v := 1) d_To_init_131 (by decide) ?_
      refine lv_iadd C.1 C.2.1 (pc := 132) d_To_init_132 ?_
      refine lv_i2l C.1 C.2.1 (pc := 133) d_To_init_133 rfl ?_
      refine lv_lor C.1 C.2.1 (pc := 134) d_To_init_134 ?_
      refine va_last C.1 C.2.1 (pc := 135) hK hP hD hS 2 2 ha2 rfl (inB_vp (inB_nI (show (tRun i).1 < 31 by omega) (by decide))) d_To_init_135 ?_
      intro H1 locs1 hP1 hD1 hS1
      rw [nI_clamp (show (tRun i).1 < 2 ^ 31 by omega), vs_set _ (by omega), ← cE_22 G a, zw_set, show (spT i).set 2 (22, 31, (tRun i).2.set (tRun i).1 ((Int64.ofInt ((tRun i).2.getD (tRun i).1 0) <<< ((5 : Int32).toInt64 &&& 63) ||| (bT.getD i 0 - 97 + 1).toInt64).toInt)) = spT (i + 1) by
        unfold spT
        rw [tRun_l hc]
        rfl] at hP1
      refine lv_iinc C.1 C.2.1 (pc := 136) (v := nI (i + 1)) (lv' := [(2, .int (nI (i + 1))), (3, .int (bT.getD i 0)), (0, .ref a), (1, .int (nI (tRun i).1))]) (k := 3) d_To_init_136 hl rfl (inc_1 i) (by decide) rfl (fun ls hl => ?_)
      refine lv_goto C.1 C.2.1 (pc := 139) (tgt := 80) d_To_init_139 (by decide) ?_
      have hl : lv_has ls 4 [(0, .ref a), (1, .int (nI (tRun (i + 1)).1)), (2, .int (nI (i + 1)))] := by
        rw [tRun_l hc]
        exact lv_sub hl [2, 3, 0] rfl
      exact ih p l e s m args below meth c C hz hX H1 locs1 ls hP1 hS1 hl
    · refine lv_iinc C.1 C.2.1 (pc := 108) (v := nI ((tRun i).1 + 1)) (lv' := [(1, .int (nI ((tRun i).1 + 1))), (3, .int (bT.getD i 0)), (0, .ref a), (2, .int (nI i))]) (k := 2) d_To_init_108 hl rfl (inc_1 (tRun i).1) (by decide) rfl (fun ls hl => ?_)
      refine lv_goto C.1 C.2.1 (pc := 111) (tgt := 136) d_To_init_111 (by decide) ?_
      refine lv_iinc C.1 C.2.1 (pc := 136) (v := nI (i + 1)) (lv' := [(2, .int (nI (i + 1))), (1, .int (nI ((tRun i).1 + 1))), (3, .int (bT.getD i 0)), (0, .ref a)]) (k := 3) d_To_init_136 hl rfl (inc_1 i) (by decide) rfl (fun ls hl => ?_)
      refine lv_goto C.1 C.2.1 (pc := 139) (tgt := 80) d_To_init_139 (by decide) ?_
      have hl : lv_has ls 4 [(0, .ref a), (1, .int (nI (tRun (i + 1)).1)), (2, .int (nI (i + 1)))] := by
        rw [tRun_sp hc]
        exact lv_sub hl [3, 1, 0] rfl
      have hsp : spT (i + 1) = spT i := by
        unfold spT
        rw [tRun_sp hc]
      rw [hsp] at ih
      exact ih p l e s m args below meth c C hz hX H locs ls hP hS hl
theorem getD_rep (n i : Nat) : (List.replicate n (0 : Int)).getD i 0 = 0 := by
  rw [List.getD_eq_getElem?_getD, List.getElem?_replicate]
  split <;> rfl
theorem zw_T0 (G : Gm) (a : Nat) (l : List Sp) (hl : l = [(21, 900, []), (22, 31, [])]) : zw G a a ((7, 0, VT) :: l) = zw G a a (spT 0) := by
  subst hl
  have e : cE G a (22, 31, []) = cE G a (22, 31, List.replicate 31 0) := by
    rw [cE_22, cE_22, show (fun i => Int64.ofInt ((List.replicate 31 (0 : Int)).getD i 0)) = (fun i => Int64.ofInt (([] : List Int).getD i 0)) from funext fun i => by rw [getD_rep]; rfl]
  show [(a, cE G a (7, 0, VT)), (a + 1, cE G a (21, 900, [])), (a + 1 + 1, cE G a (22, 31, []))] = [(a, cE G a (7, 0, VT)), (a + 1, cE G a (21, 900, [])), (a + 1 + 1, cE G a (22, 31, List.replicate 31 0))]
  rw [e]
theorem To_from (G : Gm) (a q v : Nat) : CW G 4 K_To_init a 2 931 (CQp G a (spT nT)) (XT q v a) 80 [(0, .ref a), (1, .int 0), (2, .int 0)] [] (spT 0) 2 931 := by
  have key := To_loop G a q v nT 0 (by omega)
  rw [show (tRun 0).1 = 0 from rfl, ← zlit 0] at key
  exact key
def r_To_init_1 : List Sp := [] ++ [(21, 900, [])]
def r_To_init_2 : List Sp := r_To_init_1 ++ [(22, 31, [])]
set_option maxRecDepth 100000 in
theorem ok_To_init (G : Gm) (a q v : Nat) : CM G 4 2 931 K_To_init a [] [dO 7] (spT nT) (XT q v a) := by
  refine CM.of rfl (Nat.le_of_ble_eq_true rfl) ?_
  show CW G 4 K_To_init a 2 931 (CQp G a (spT nT)) (XT q v a) 0 [(0, .ref a)] [] ((7, 0, [(-1), (-1), 0, 0, 0, 0, 0, 0, 0, 0, 0, 0, 0]) :: []) 0 0
  refine cw_aload_n (pc := 0) d_To_init_0 rfl 0 rfl ?_
  refine cw_objinit (pc := 1) d_To_init_1 w1_37 w1_28 w1_29 (by decide) ?_
  refine cw_aload_n (pc := 4) d_To_init_4 rfl 0 rfl ?_
  refine cw_sipush (pc := 5) (x := 900) d_To_init_5 (by decide) ?_
  refine cw_newb (pc := 8) (N := 900) w1_136 (by decide) (by decide) (by decide) d_To_init_8 (by decide +kernel) (by decide) (by decide) ?_
  show CW G 4 K_To_init a 2 931 (CQp G a (spT nT)) (XT q v a) 10 [(0, .ref a)] [.ref (a + 1), .ref a] ((7, 0, [(-1), (-1), 0, 0, 0, 0, 0, 0, 0, 0, 0, 0, 0]) :: r_To_init_1) 1 900
  refine cw_put (pc := 10) (ci := 7) (k := 0) (N := 13) (t := 2) (C := RX7) (T := TX7) (tys := tyX7) (v := 1) (ty := .array .byte) rfl (by decide) inX7 tyX7_ok nmX7 (by decide) rfl rfl rfl w1_87 (Or.inr ⟨rfl, rfl, rfl⟩) d_To_init_10 rfl rfl rfl rfl rfl ?_
  show CW G 4 K_To_init a 2 931 (CQp G a (spT nT)) (XT q v a) 13 [(0, .ref a)] [] ((7, 0, [1, (-1), 0, 0, 0, 0, 0, 0, 0, 0, 0, 0, 0]) :: r_To_init_1) 1 900
  refine cw_aload_n (pc := 13) d_To_init_13 rfl 0 rfl ?_
  refine cw_bipush (pc := 14) (x := 31) d_To_init_14 (by decide) ?_
  refine cw_newl (pc := 16) (N := 31) w1_137 (by decide) (by decide) (by decide) d_To_init_16 (by decide +kernel) (by decide) (by decide) ?_
  show CW G 4 K_To_init a 2 931 (CQp G a (spT nT)) (XT q v a) 18 [(0, .ref a)] [.ref (a + 2), .ref a] ((7, 0, [1, (-1), 0, 0, 0, 0, 0, 0, 0, 0, 0, 0, 0]) :: r_To_init_2) 2 931
  refine cw_put (pc := 18) (ci := 7) (k := 1) (N := 13) (t := 2) (C := RX7) (T := TX7) (tys := tyX7) (v := 2) (ty := .array .long) rfl (by decide) inX7 tyX7_ok nmX7 (by decide) rfl rfl rfl w1_88 (Or.inr ⟨rfl, rfl, rfl⟩) d_To_init_18 rfl rfl rfl rfl rfl ?_
  show CW G 4 K_To_init a 2 931 (CQp G a (spT nT)) (XT q v a) 21 [(0, .ref a)] [] ((7, 0, [1, 2, 0, 0, 0, 0, 0, 0, 0, 0, 0, 0, 0]) :: r_To_init_2) 2 931
  refine cw_aload_n (pc := 21) d_To_init_21 rfl 0 rfl ?_
  refine cw_iconst (pc := 22) (x := 0) d_To_init_22 (by decide) ?_
  refine cw_put (pc := 23) (ci := 7) (k := 2) (N := 13) (t := 0) (C := RX7) (T := TX7) (tys := tyX7) (v := 0) (ty := .int) rfl (by decide) inX7 tyX7_ok nmX7 (by decide) rfl rfl rfl w1_89 (Or.inl rfl) d_To_init_23 rfl rfl rfl rfl rfl ?_
  show CW G 4 K_To_init a 2 931 (CQp G a (spT nT)) (XT q v a) 26 [(0, .ref a)] [] ((7, 0, [1, 2, 0, 0, 0, 0, 0, 0, 0, 0, 0, 0, 0]) :: r_To_init_2) 2 931
  refine cw_aload_n (pc := 26) d_To_init_26 rfl 0 rfl ?_
  refine cw_iconst (pc := 27) (x := 0) d_To_init_27 (by decide) ?_
  refine cw_put (pc := 28) (ci := 7) (k := 3) (N := 13) (t := 0) (C := RX7) (T := TX7) (tys := tyX7) (v := 0) (ty := .int) rfl (by decide) inX7 tyX7_ok nmX7 (by decide) rfl rfl rfl w1_91 (Or.inl rfl) d_To_init_28 rfl rfl rfl rfl rfl ?_
  show CW G 4 K_To_init a 2 931 (CQp G a (spT nT)) (XT q v a) 31 [(0, .ref a)] [] ((7, 0, [1, 2, 0, 0, 0, 0, 0, 0, 0, 0, 0, 0, 0]) :: r_To_init_2) 2 931
  refine cw_aload_n (pc := 31) d_To_init_31 rfl 0 rfl ?_
  refine cw_iconst (pc := 32) (x := 0) d_To_init_32 (by decide) ?_
  refine cw_put (pc := 33) (ci := 7) (k := 4) (N := 13) (t := 0) (C := RX7) (T := TX7) (tys := tyX7) (v := 0) (ty := .int) rfl (by decide) inX7 tyX7_ok nmX7 (by decide) rfl rfl rfl w1_92 (Or.inl rfl) d_To_init_33 rfl rfl rfl rfl rfl ?_
  show CW G 4 K_To_init a 2 931 (CQp G a (spT nT)) (XT q v a) 36 [(0, .ref a)] [] ((7, 0, [1, 2, 0, 0, 0, 0, 0, 0, 0, 0, 0, 0, 0]) :: r_To_init_2) 2 931
  refine cw_aload_n (pc := 36) d_To_init_36 rfl 0 rfl ?_
  refine cw_iconst (pc := 37) (x := 0) d_To_init_37 (by decide) ?_
  refine cw_put (pc := 38) (ci := 7) (k := 5) (N := 13) (t := 0) (C := RX7) (T := TX7) (tys := tyX7) (v := 0) (ty := .int) rfl (by decide) inX7 tyX7_ok nmX7 (by decide) rfl rfl rfl w1_93 (Or.inl rfl) d_To_init_38 rfl rfl rfl rfl rfl ?_
  show CW G 4 K_To_init a 2 931 (CQp G a (spT nT)) (XT q v a) 41 [(0, .ref a)] [] ((7, 0, [1, 2, 0, 0, 0, 0, 0, 0, 0, 0, 0, 0, 0]) :: r_To_init_2) 2 931
  refine cw_aload_n (pc := 41) d_To_init_41 rfl 0 rfl ?_
  refine cw_iconst (pc := 42) (x := 0) d_To_init_42 (by decide) ?_
  refine cw_put (pc := 43) (ci := 7) (k := 6) (N := 13) (t := 0) (C := RX7) (T := TX7) (tys := tyX7) (v := 0) (ty := .int) rfl (by decide) inX7 tyX7_ok nmX7 (by decide) rfl rfl rfl w1_96 (Or.inl rfl) d_To_init_43 rfl rfl rfl rfl rfl ?_
  show CW G 4 K_To_init a 2 931 (CQp G a (spT nT)) (XT q v a) 46 [(0, .ref a)] [] ((7, 0, [1, 2, 0, 0, 0, 0, 0, 0, 0, 0, 0, 0, 0]) :: r_To_init_2) 2 931
  refine cw_aload_n (pc := 46) d_To_init_46 rfl 0 rfl ?_
  refine cw_iconst (pc := 47) (x := 0) d_To_init_47 (by decide) ?_
  refine cw_put (pc := 48) (ci := 7) (k := 7) (N := 13) (t := 0) (C := RX7) (T := TX7) (tys := tyX7) (v := 0) (ty := .int) rfl (by decide) inX7 tyX7_ok nmX7 (by decide) rfl rfl rfl w1_97 (Or.inl rfl) d_To_init_48 rfl rfl rfl rfl rfl ?_
  show CW G 4 K_To_init a 2 931 (CQp G a (spT nT)) (XT q v a) 51 [(0, .ref a)] [] ((7, 0, [1, 2, 0, 0, 0, 0, 0, 0, 0, 0, 0, 0, 0]) :: r_To_init_2) 2 931
  refine cw_aload_n (pc := 51) d_To_init_51 rfl 0 rfl ?_
  refine cw_iconst (pc := 52) (x := (-1)) d_To_init_52 (by decide) ?_
  refine cw_put (pc := 53) (ci := 7) (k := 8) (N := 13) (t := 0) (C := RX7) (T := TX7) (tys := tyX7) (v := (-1)) (ty := .int) rfl (by decide) inX7 tyX7_ok nmX7 (by decide) rfl rfl rfl w1_98 (Or.inl rfl) d_To_init_53 rfl rfl rfl rfl rfl ?_
  show CW G 4 K_To_init a 2 931 (CQp G a (spT nT)) (XT q v a) 56 [(0, .ref a)] [] ((7, 0, [1, 2, 0, 0, 0, 0, 0, 0, (-1), 0, 0, 0, 0]) :: r_To_init_2) 2 931
  refine cw_aload_n (pc := 56) d_To_init_56 rfl 0 rfl ?_
  refine cw_lconst (pc := 57) (x := 0) d_To_init_57 (by decide) ?_
  refine cw_put (pc := 58) (ci := 7) (k := 9) (N := 13) (t := 1) (C := RX7) (T := TX7) (tys := tyX7) (v := 0) (ty := .long) rfl (by decide) inX7 tyX7_ok nmX7 (by decide) rfl rfl rfl w1_101 (Or.inl rfl) d_To_init_58 rfl rfl rfl rfl rfl ?_
  show CW G 4 K_To_init a 2 931 (CQp G a (spT nT)) (XT q v a) 61 [(0, .ref a)] [] ((7, 0, [1, 2, 0, 0, 0, 0, 0, 0, (-1), 0, 0, 0, 0]) :: r_To_init_2) 2 931
  refine cw_aload_n (pc := 61) d_To_init_61 rfl 0 rfl ?_
  refine cw_iconst (pc := 62) (x := (-1)) d_To_init_62 (by decide) ?_
  refine cw_put (pc := 63) (ci := 7) (k := 10) (N := 13) (t := 0) (C := RX7) (T := TX7) (tys := tyX7) (v := (-1)) (ty := .int) rfl (by decide) inX7 tyX7_ok nmX7 (by decide) rfl rfl rfl w1_102 (Or.inl rfl) d_To_init_63 rfl rfl rfl rfl rfl ?_
  show CW G 4 K_To_init a 2 931 (CQp G a (spT nT)) (XT q v a) 66 [(0, .ref a)] [] ((7, 0, [1, 2, 0, 0, 0, 0, 0, 0, (-1), 0, (-1), 0, 0]) :: r_To_init_2) 2 931
  refine cw_aload_n (pc := 66) d_To_init_66 rfl 0 rfl ?_
  refine cw_iconst (pc := 67) (x := 0) d_To_init_67 (by decide) ?_
  refine cw_put (pc := 68) (ci := 7) (k := 11) (N := 13) (t := 0) (C := RX7) (T := TX7) (tys := tyX7) (v := 0) (ty := .int) rfl (by decide) inX7 tyX7_ok nmX7 (by decide) rfl rfl rfl w1_105 (Or.inl rfl) d_To_init_68 rfl rfl rfl rfl rfl ?_
  show CW G 4 K_To_init a 2 931 (CQp G a (spT nT)) (XT q v a) 71 [(0, .ref a)] [] ((7, 0, [1, 2, 0, 0, 0, 0, 0, 0, (-1), 0, (-1), 0, 0]) :: r_To_init_2) 2 931
  refine cw_aload_n (pc := 71) d_To_init_71 rfl 0 rfl ?_
  refine cw_iconst (pc := 72) (x := (-1)) d_To_init_72 (by decide) ?_
  refine cw_put (pc := 73) (ci := 7) (k := 12) (N := 13) (t := 0) (C := RX7) (T := TX7) (tys := tyX7) (v := (-1)) (ty := .int) rfl (by decide) inX7 tyX7_ok nmX7 (by decide) rfl rfl rfl w1_107 (Or.inl rfl) d_To_init_73 rfl rfl rfl rfl rfl ?_
  show CW G 4 K_To_init a 2 931 (CQp G a (spT nT)) (XT q v a) 76 [(0, .ref a)] [] ((7, 0, [1, 2, 0, 0, 0, 0, 0, 0, (-1), 0, (-1), 0, (-1)]) :: r_To_init_2) 2 931
  refine cw_iconst (pc := 76) (x := 0) d_To_init_76 (by decide) ?_
  refine cw_istore_n (pc := 77) (lv' := [(1, .int 0), (0, .ref a)]) d_To_init_77 rfl (by decide) rfl ?_
  refine cw_iconst (pc := 78) (x := 0) d_To_init_78 (by decide) ?_
  refine cw_istore_n (pc := 79) (lv' := [(2, .int 0), (1, .int 0), (0, .ref a)]) d_To_init_79 rfl (by decide) rfl ?_
  refine cw_lv [2, 1, 0] rfl ?_
  refine cw_zw (sp1 := spT 0) (zw_T0 G a r_To_init_2 rfl) ?_
  exact To_from G a q v
