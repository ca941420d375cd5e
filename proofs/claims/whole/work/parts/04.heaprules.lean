/-! ===== fields, rows, ends, calls ===== -/
def inB (i : Int32) (n : Nat) : Bool := decide (0 ≤ i) && decide (i.toNatClampNeg < n)
theorem inB_vp {i : Int32} {n : Nat} (h : inB i n = true) : vp_in i n := by
  simp only [inB, Bool.and_eq_true, decide_eq_true_eq] at h
  intro q
  rcases q with q | q
  · rw [Int32.lt_iff_toInt_lt] at q
    rw [Int32.le_iff_toInt_le] at h
    omega
  · omega
section AWH
variable {Y : Ly} {n : Nat} {K : Mk} {pc : Nat} {lv lv' : List (Nat × Value)} {st : List Value} {h : Hp} {α : Type} {o o1 o2 : Option α} {r : α → Option Value × Hp}
theorem aw_get {a idx ci k N t : Nat} {C ref : String} {T : u_T} (hc : cls_[ci]? = some (C, T, N)) (hci : ci < 20) (hin : ∀ w ∈ u_ws C T N, w ∈ lw_gd) (hk : k < N) (ht : (ftab ci)[k]? = some t) (hr : ref = (T k).1) (hw : Cond.fieldLink K.1.cls idx ref (T k).2.1 (T k).2.2.1 ∈ lw_gd)
    (hd : decode K.2.1 pc = .ok (.getfield idx, 3)) (ha : isO Y ci a) (kk : Ty Y h → AW Y n K (pc + 3) lv (fv h (100 * ci + k) a t :: st) h o r) : AW Y n K pc lv (.ref a :: st) h o r := by
  intro v hv p l e s m args below meth c C H locs ls hP hD hS hT hl
  obtain ⟨q0, hq⟩ := pl_get (Y := Y) (h := h) ha.1
  rw [enc_obj ha hci] at hq
  exact va_get C.1 C.2.1 C.2.2.2.2.1 (fun w hw => List.mem_cons_of_mem _ (hin w hw)) C.2.2.2.1 C.2.2.2.2.2.2.2.1 hP q0 hq hc k hk (wd_use C.2.2.2.2.1 hw) (fun x hx => by rw [hr]; exact hx) (fvs_get h a _ _ k t ht) hd (kk hT v hv p l e s m args below meth c C H locs ls hP hD hS hT hl)
theorem aw_put {a idx ci k N t : Nat} {C ref : String} {T : u_T} {tys : Nat → FieldType} {v0 : Value} {ty : FieldType} {h' : Hp} (hc : cls_[ci]? = some (C, T, N)) (hci : ci < 20) (hin : ∀ w ∈ u_ws C T N, w ∈ lw_gd) (hty : ∀ k, k < N → parseFieldDescriptor (T k).2.2.1 = some (tys k)) (hnm : ∀ a, a < N → ∀ b, b < N → a ≠ b → (T a).2.1 ≠ (T b).2.1) (hk : k < N) (ht : (ftab ci)[k]? = some t) (hfin : (T k).2.2.2 = false) (hyk : tys k = ty) (hr : ref = (T k).1) (hw : Cond.fieldLink K.1.cls idx ref (T k).2.1 (T k).2.2.1 ∈ lw_gd)
    (hd : decode K.2.1 pc = .ok (.putfield idx, 3)) (ha : isO Y ci a) (hn : narrow ty v0 = v0) (hf : fits ty v0 = true) (hv0 : fv h' (100 * ci + k) a t = v0) (hsame : ∀ b, b ≠ a → sameAt h h' b)
    (hoth : ∀ j, j ≠ k → hGi h' (100 * ci + j) a = hGi h (100 * ci + j) a ∧ hGl h' (100 * ci + j) a = hGl h (100 * ci + j) a ∧ hGr h' (100 * ci + j) a = hGr h (100 * ci + j) a)
    (hTy : Ty Y h → Ty Y h') (kk : AW Y n K (pc + 3) lv st h' o r) : AW Y n K pc lv (v0 :: .ref a :: st) h o r := by
  intro v hv p l e s m args below meth c C H locs ls hP hD hS hT hl
  obtain ⟨q0, hq⟩ := pl_get (Y := Y) (h := h) ha.1
  have hq2 := hq
  rw [enc_obj ha hci] at hq2
  have hlen : k < (fvs h a (100 * ci) (ftab ci)).length := by
    rw [fvs_len]
    exact (List.getElem?_eq_some_iff.mp ht).1
  have hE : enc Y h' a = .inr (ci, (fvs h a (100 * ci) (ftab ci)).set k v0) := by
    rw [enc_obj ha hci, fvs_set (h := h) (h' := h') (v := v0) _ _ k t ht hv0 hoth]
  refine va_put C.1 C.2.1 C.2.2.2.2.1 (fun w hw => List.mem_cons_of_mem _ (hin w hw)) tys hty hnm C.2.2.2.1 C.2.2.2.2.2.2.2.1 hP hD hS q0 hq2 hc k hk (wd_use C.2.2.2.2.1 hw) (fun x hx => by rw [hr]; exact hx) hfin (ty := ty) (by rw [hty k hk, hyk]) hn hf hlen hd ?_
  intro H1 locs1 hP1 hD1 hS1
  have hset := pl_set (Y := Y) (h := h) (h' := h') hD ha.1 hq hE hsame
  rw [hset] at hP1 hD1
  exact kk v hv p l e s m args below meth c C H1 locs1 ls hP1 hD1 hS1 (hTy hT) hl
theorem aw_iaload {a : Nat} {i : Int32} (hd : decode K.2.1 pc = .ok (.iaload, 1)) (ha : isO Y 20 a) (k : inB i (lnY Y a) = true → AW Y n K (pc + 1) lv (.int (hAi h a i.toNatClampNeg) :: st) h o r) : AW Y n K pc lv (.int i :: .ref a :: st) h (if inB i (lnY Y a) = true then o else none) r := by
  refine aw_if (fun hi => ?_)
  intro v hv p l e s m args below meth c C H locs ls hP hD hS hT hl
  obtain ⟨q0, hq⟩ := pl_get (Y := Y) (h := h) ha.1
  rw [enc_20 ha] at hq
  exact va_iald C.1 C.2.1 C.2.2.2.2.2.2.2.1 hP q0 0 hq rfl (inB_vp hi) hd (k hi v hv p l e s m args below meth c C H locs ls hP hD hS hT hl)
theorem aw_baload {a : Nat} {i : Int32} (hd : decode K.2.1 pc = .ok (.baload, 1)) (ha : isO Y 21 a) (k : inB i (lnY Y a) = true → AW Y n K (pc + 1) lv (.int (hAi h a i.toNatClampNeg) :: st) h o r) : AW Y n K pc lv (.int i :: .ref a :: st) h (if inB i (lnY Y a) = true then o else none) r := by
  refine aw_if (fun hi => ?_)
  intro v hv p l e s m args below meth c C H locs ls hP hD hS hT hl
  obtain ⟨q0, hq⟩ := pl_get (Y := Y) (h := h) ha.1
  rw [enc_21 ha] at hq
  exact va_bald C.1 C.2.1 C.2.2.2.2.2.2.2.1 hP q0 1 hq rfl (inB_vp hi) hd (k hi v hv p l e s m args below meth c C H locs ls hP hD hS hT hl)
theorem aw_laload {a : Nat} {i : Int32} (hd : decode K.2.1 pc = .ok (.laload, 1)) (ha : isO Y 22 a) (k : inB i (lnY Y a) = true → AW Y n K (pc + 1) lv (.long (hAl h a i.toNatClampNeg) :: st) h o r) : AW Y n K pc lv (.int i :: .ref a :: st) h (if inB i (lnY Y a) = true then o else none) r := by
  refine aw_if (fun hi => ?_)
  intro v hv p l e s m args below meth c C H locs ls hP hD hS hT hl
  obtain ⟨q0, hq⟩ := pl_get (Y := Y) (h := h) ha.1
  rw [enc_22 ha] at hq
  exact va_lald C.1 C.2.1 C.2.2.2.2.2.2.2.1 hP q0 2 hq rfl (inB_vp hi) hd (k hi v hv p l e s m args below meth c C H locs ls hP hD hS hT hl)
theorem inB_lt {i : Int32} {n : Nat} (h : inB i n = true) : i.toNatClampNeg < n := by
  simp only [inB, Bool.and_eq_true, decide_eq_true_eq] at h
  exact h.2
theorem aw_aaload23 {a : Nat} {i : Int32} (hd : decode K.2.1 pc = .ok (.aaload, 1)) (ha : isO Y 23 a) (k : isO Y 4 (hAr h a i.toNatClampNeg) → AW Y n K (pc + 1) lv (.ref (hAr h a i.toNatClampNeg) :: st) h o r) : AW Y n K pc lv (.int i :: .ref a :: st) h (if inB i (lnY Y a) = true then o else none) r := by
  refine aw_if (fun hi => ?_)
  intro v hv p l e s m args below meth c C H locs ls hP hD hS hT hl
  obtain ⟨q0, hq⟩ := pl_get (Y := Y) (h := h) ha.1
  rw [enc_23 ha] at hq
  exact va_aldq C.1 C.2.1 C.2.2.2.2.2.2.2.1 hP q0 3 hq rfl (inB_vp hi) hd (k (hT.2.2.1 a ha _ (inB_lt hi)) v hv p l e s m args below meth c C H locs ls hP hD hS hT hl)
theorem aw_aaload24 {a : Nat} {i : Int32} (hd : decode K.2.1 pc = .ok (.aaload, 1)) (ha : isO Y 24 a) (k : isO Y 8 (hAr h a i.toNatClampNeg) → AW Y n K (pc + 1) lv (.ref (hAr h a i.toNatClampNeg) :: st) h o r) : AW Y n K pc lv (.int i :: .ref a :: st) h (if inB i (lnY Y a) = true then o else none) r := by
  refine aw_if (fun hi => ?_)
  intro v hv p l e s m args below meth c C H locs ls hP hD hS hT hl
  obtain ⟨q0, hq⟩ := pl_get (Y := Y) (h := h) ha.1
  rw [enc_24 ha] at hq
  exact va_aldq C.1 C.2.1 C.2.2.2.2.2.2.2.1 hP q0 4 hq rfl (inB_vp hi) hd (k (hT.2.2.2 a ha _ (inB_lt hi)) v hv p l e s m args below meth c C H locs ls hP hD hS hT hl)
theorem hAi_ti (h : Hp) (a j : Nat) (x : Int32) : hAi (hTi h a j x) a = upd (hAi h a) j x := by
  funext q
  simp [hAi, hTi, up2, upd]
theorem hAl_tl (h : Hp) (a j : Nat) (x : Int64) : hAl (hTl h a j x) a = vp_updL (hAl h a) j x := by
  funext q
  simp [hAl, hTl, up2, vp_updL]
theorem hAi_ci (h : Hp) (a0 sp a dp k : Nat) : hAi (hCi h a0 sp a dp k) a = va_cpy (hAi h a0) (hAi h a) sp dp k := by
  funext q
  simp [hAi, hCi, up1]
theorem hAl_cl (h : Hp) (a0 sp a dp k : Nat) : hAl (hCl h a0 sp a dp k) a = va_cpy (hAl h a0) (hAl h a) sp dp k := by
  funext q
  simp [hAl, hCl, up1]
theorem hAr_tr (h : Hp) (a j b : Nat) : (fun i => some (hAr (hTr h a j b) a i)) = va_up (fun i => some (hAr h a i)) j (some b) := by
  funext q
  by_cases hq : q = j <;> simp [hAr, hTr, up2, va_up, hq]
theorem aw_iastore {a : Nat} {i x : Int32} (hd : decode K.2.1 pc = .ok (.iastore, 1)) (ha : isO Y 20 a) (k : inB i (lnY Y a) = true → AW Y n K (pc + 1) lv st (hTi h a i.toNatClampNeg x) o r) : AW Y n K pc lv (.int x :: .int i :: .ref a :: st) h (if inB i (lnY Y a) = true then o else none) r := by
  refine aw_if (fun hi => ?_)
  intro v hv p l e s m args below meth c C H locs ls hP hD hS hT hl
  obtain ⟨q0, hq⟩ := pl_get (Y := Y) (h := h) ha.1
  have hq2 := hq
  rw [enc_20 ha] at hq2
  refine va_iast C.1 C.2.1 C.2.2.2.2.2.2.2.1 hP hD hS q0 0 hq2 rfl (inB_vp hi) hd ?_
  intro H1 locs1 hP1 hD1 hS1
  have hset := pl_set (Y := Y) (h := h) (h' := hTi h a i.toNatClampNeg x) hD ha.1 hq (by rw [enc_20 ha, hAi_ti]) (fun b q => same_ti q)
  rw [hset] at hP1 hD1
  exact k hi v hv p l e s m args below meth c C H1 locs1 ls hP1 hD1 hS1 hT hl
theorem aw_bastore {a : Nat} {i x : Int32} (hd : decode K.2.1 pc = .ok (.bastore, 1)) (ha : isO Y 21 a) (k : inB i (lnY Y a) = true → AW Y n K (pc + 1) lv st (hTi h a i.toNatClampNeg (vp_nar .byte x)) o r) : AW Y n K pc lv (.int x :: .int i :: .ref a :: st) h (if inB i (lnY Y a) = true then o else none) r := by
  refine aw_if (fun hi => ?_)
  intro v hv p l e s m args below meth c C H locs ls hP hD hS hT hl
  obtain ⟨q0, hq⟩ := pl_get (Y := Y) (h := h) ha.1
  have hq2 := hq
  rw [enc_21 ha] at hq2
  refine va_bast C.1 C.2.1 C.2.2.2.2.2.2.2.1 hP hD hS q0 1 hq2 rfl (inB_vp hi) hd ?_
  intro H1 locs1 hP1 hD1 hS1
  have hset := pl_set (Y := Y) (h := h) (h' := hTi h a i.toNatClampNeg (vp_nar .byte x)) hD ha.1 hq (by rw [enc_21 ha, hAi_ti]) (fun b q => same_ti q)
  rw [hset] at hP1 hD1
  exact k hi v hv p l e s m args below meth c C H1 locs1 ls hP1 hD1 hS1 hT hl
theorem aw_lastore {a : Nat} {i : Int32} {x : Int64} (hd : decode K.2.1 pc = .ok (.lastore, 1)) (ha : isO Y 22 a) (k : inB i (lnY Y a) = true → AW Y n K (pc + 1) lv st (hTl h a i.toNatClampNeg x) o r) : AW Y n K pc lv (.long x :: .int i :: .ref a :: st) h (if inB i (lnY Y a) = true then o else none) r := by
  refine aw_if (fun hi => ?_)
  intro v hv p l e s m args below meth c C H locs ls hP hD hS hT hl
  obtain ⟨q0, hq⟩ := pl_get (Y := Y) (h := h) ha.1
  have hq2 := hq
  rw [enc_22 ha] at hq2
  refine va_last C.1 C.2.1 C.2.2.2.2.2.2.2.1 hP hD hS q0 2 hq2 rfl (inB_vp hi) hd ?_
  intro H1 locs1 hP1 hD1 hS1
  have hset := pl_set (Y := Y) (h := h) (h' := hTl h a i.toNatClampNeg x) hD ha.1 hq (by rw [enc_22 ha, hAl_tl]) (fun b q => same_tl q)
  rw [hset] at hP1 hD1
  exact k hi v hv p l e s m args below meth c C H1 locs1 ls hP1 hD1 hS1 hT hl
theorem aw_aastore23 {a b : Nat} {i : Int32} (hd : decode K.2.1 pc = .ok (.aastore, 1)) (ha : isO Y 23 a) (hb : isO Y 4 b) (k : AW Y n K (pc + 1) lv st (hTr h a i.toNatClampNeg b) o r) : AW Y n K pc lv (.ref b :: .int i :: .ref a :: st) h (if inB i (lnY Y a) = true then o else none) r := by
  refine aw_if (fun hi => ?_)
  intro v hv p l e s m args below meth c C H locs ls hP hD hS hT hl
  obtain ⟨q0, hq⟩ := pl_get (Y := Y) (h := h) ha.1
  obtain ⟨q1, hqb⟩ := pl_get (Y := Y) (h := h) hb.1
  have hq2 := hq
  rw [enc_23 ha] at hq2
  rw [enc_obj hb (by decide)] at hqb
  refine va_astq C.1 C.2.1 C.2.2.2.2.2.2.2.1 hP hD hS q0 3 q1 4 (r := (RX4, TX4, 19)) hq2 rfl hqb rfl (inB_vp hi) hd ?_
  intro H1 locs1 hP1 hD1 hS1
  have hset := pl_set (Y := Y) (h := h) (h' := hTr h a i.toNatClampNeg b) hD ha.1 hq (by rw [enc_23 ha, hAr_tr]) (fun b q => same_tr q)
  rw [hset] at hP1 hD1
  exact k v hv p l e s m args below meth c C H1 locs1 ls hP1 hD1 hS1 (Ty_tr23 hT ha hb) hl
theorem aw_alen20 {a : Nat} (hd : decode K.2.1 pc = .ok (.arraylength, 1)) (ha : isO Y 20 a) (k : AW Y n K (pc + 1) lv (.int (Int32.ofNat (lnY Y a)) :: st) h o r) : AW Y n K pc lv (.ref a :: st) h o r := by
  intro v hv p l e s m args below meth c C H locs ls hP hD hS hT hl
  obtain ⟨q0, hq⟩ := pl_get (Y := Y) (h := h) ha.1
  rw [enc_20 ha] at hq
  exact va_alen C.1 C.2.1 C.2.2.2.2.2.2.2.1 hP q0 0 hq (ty := .int) rfl rfl hd (k v hv p l e s m args below meth c C H locs ls hP hD hS hT hl)
theorem aw_alen22 {a : Nat} (hd : decode K.2.1 pc = .ok (.arraylength, 1)) (ha : isO Y 22 a) (k : AW Y n K (pc + 1) lv (.int (Int32.ofNat (lnY Y a)) :: st) h o r) : AW Y n K pc lv (.ref a :: st) h o r := by
  intro v hv p l e s m args below meth c C H locs ls hP hD hS hT hl
  obtain ⟨q0, hq⟩ := pl_get (Y := Y) (h := h) ha.1
  rw [enc_22 ha] at hq
  exact va_alen C.1 C.2.1 C.2.2.2.2.2.2.2.1 hP q0 2 hq (ty := .long) rfl rfl hd (k v hv p l e s m args below meth c C H locs ls hP hD hS hT hl)
def cpB (sp dp k : Int32) (l0 l1 : Nat) : Bool := decide (¬ sp < 0) && (decide (¬ dp < 0) && (decide (¬ k < 0) && (decide (sp.toNatClampNeg + k.toNatClampNeg ≤ l0) && decide (dp.toNatClampNeg + k.toNatClampNeg ≤ l1))))
theorem cpB_use {sp dp k : Int32} {l0 l1 : Nat} (h : cpB sp dp k l0 l1 = true) : ¬ sp < 0 ∧ ¬ dp < 0 ∧ ¬ k < 0 ∧ sp.toNatClampNeg + k.toNatClampNeg ≤ l0 ∧ dp.toNatClampNeg + k.toNatClampNeg ≤ l1 := by
  simpa only [cpB, Bool.and_eq_true, decide_eq_true_eq] using h
theorem aw_copyi {a0 a idx : Nat} {sp dp z : Int32} (hd : decode K.2.1 pc = .ok (.invokestatic idx, 3)) (hw : Cond.methodLink K.1.cls idx arraycopyName ∈ lw_gd) (w1 : Cond.native arraycopyName ∈ lw_gd) (w2 : Cond.static arraycopyName ∈ lw_gd) (w3 : Cond.initialized "java/lang/System" ∈ lw_gd) (h0 : isO Y 20 a0) (ha : isO Y 20 a)
    (hn : 1 ≤ n) (hst : (st.map fun v => v.category).sum ≤ 8) (k : AW Y n K (pc + 3) lv st (hCi h a0 sp.toNatClampNeg a dp.toNatClampNeg z.toNatClampNeg) o r) : AW Y n K pc lv (.int z :: .int dp :: .ref a :: .int sp :: .ref a0 :: st) h (if cpB sp dp z (lnY Y a0) (lnY Y a) = true then o else none) r := by
  refine aw_if (fun hi => ?_)
  obtain ⟨i1, i2, i3, i4, i5⟩ := cpB_use hi
  intro v hv p l e s m args below meth c C H locs ls hP hD hS hT hl
  obtain ⟨q0, hq0⟩ := pl_get (Y := Y) (h := h) h0.1
  obtain ⟨q1, hq⟩ := pl_get (Y := Y) (h := h) ha.1
  have hq2 := hq
  rw [enc_20 ha] at hq2
  rw [enc_20 h0] at hq0
  have T := C.2.2.2.2.1
  refine va_copyi C.1 C.2.1 (by rw [C.2.2.1]; exact hl.1.symm) C.2.2.2.1 (wd_use T hw) (wd_use T w1) (wd_use T w2) (wd_use T w3) C.2.2.2.2.2.2.2.1 hP hD hS q0 q1 0 0 hq0 hq2 rfl rfl rfl i1 i2 i3 i4 i5 (fun _ _ => rfl) hn ?_ hd ?_
  · have e1 : (nativeFrameWords "java/lang/System" "arraycopy" 5 + 11) ≤ 112 := by decide
    have e2 : (rmN n).locals = 120 * n := rfl
    rw [e2]
    omega
  intro H1 locs1 hP1 hD1 hS1
  have hset := pl_set (Y := Y) (h := h) (h' := hCi h a0 sp.toNatClampNeg a dp.toNatClampNeg z.toNatClampNeg) hD ha.1 hq (by rw [enc_20 ha, hAi_ci]) (fun b q => same_ci q)
  rw [hset] at hP1 hD1
  exact k v hv p l e s m args below meth c C H1 locs1 ls hP1 hD1 hS1 hT hl
theorem aw_copyl {a0 a idx : Nat} {sp dp z : Int32} (hd : decode K.2.1 pc = .ok (.invokestatic idx, 3)) (hw : Cond.methodLink K.1.cls idx arraycopyName ∈ lw_gd) (w1 : Cond.native arraycopyName ∈ lw_gd) (w2 : Cond.static arraycopyName ∈ lw_gd) (w3 : Cond.initialized "java/lang/System" ∈ lw_gd) (h0 : isO Y 22 a0) (ha : isO Y 22 a)
    (hn : 1 ≤ n) (hst : (st.map fun v => v.category).sum ≤ 8) (k : AW Y n K (pc + 3) lv st (hCl h a0 sp.toNatClampNeg a dp.toNatClampNeg z.toNatClampNeg) o r) : AW Y n K pc lv (.int z :: .int dp :: .ref a :: .int sp :: .ref a0 :: st) h (if cpB sp dp z (lnY Y a0) (lnY Y a) = true then o else none) r := by
  refine aw_if (fun hi => ?_)
  obtain ⟨i1, i2, i3, i4, i5⟩ := cpB_use hi
  intro v hv p l e s m args below meth c C H locs ls hP hD hS hT hl
  obtain ⟨q0, hq0⟩ := pl_get (Y := Y) (h := h) h0.1
  obtain ⟨q1, hq⟩ := pl_get (Y := Y) (h := h) ha.1
  have hq2 := hq
  rw [enc_22 ha] at hq2
  rw [enc_22 h0] at hq0
  have T := C.2.2.2.2.1
  refine va_copyl C.1 C.2.1 (by rw [C.2.2.1]; exact hl.1.symm) C.2.2.2.1 (wd_use T hw) (wd_use T w1) (wd_use T w2) (wd_use T w3) C.2.2.2.2.2.2.2.1 hP hD hS q0 q1 2 2 hq0 hq2 rfl rfl rfl i1 i2 i3 i4 i5 (fun _ _ => rfl) hn ?_ hd ?_
  · have e1 : (nativeFrameWords "java/lang/System" "arraycopy" 5 + 11) ≤ 112 := by decide
    have e2 : (rmN n).locals = 120 * n := rfl
    rw [e2]
    omega
  intro H1 locs1 hP1 hD1 hS1
  have hset := pl_set (Y := Y) (h := h) (h' := hCl h a0 sp.toNatClampNeg a dp.toNatClampNeg z.toNatClampNeg) hD ha.1 hq (by rw [enc_22 ha, hAl_cl]) (fun b q => same_cl q)
  rw [hset] at hP1 hD1
  exact k v hv p l e s m args below meth c C H1 locs1 ls hP1 hD1 hS1 hT hl
/-! ends -/
theorem end_Q {Y : Ly} {n : Nat} {K : Mk} {h : Hp} {p : Program} {s : State} {m : MethodId} {args : Array Value} {meth : Method} {c : Code} {H : Heap} {locs : List Loc} {w : Option Value} (C : Cx Y K p s m args meth c) (hP : va_P Y.2.2.2.1 cls_ (va_pl Y.1 (enc Y h)) H) (hD : va_D (inY Y) (va_pl Y.1 (enc Y h))) (hS : va_S (inY Y) s.heap H locs) (hT : Ty Y h) :
    ∀ t : State, t.heap = H → s.WarmedH t.vm → Qx Y (w, h) args s (.returned w) t :=
  fun t ht hW => ⟨rfl, ⟨by rw [ht]; exact hP, KK.warm hW C.2.2.2.2.2.2.2, hD, hT⟩, hS.F ht⟩
theorem aw_ireturn {x : α} {v0 : Int32} (hd : decode K.2.1 pc = .ok (.ireturn, 1)) (hr : K.2.2.2 = some .int) (hx : r x = (some (.int v0), h)) : AW Y n K pc lv [.int v0] h (some x) r := by
  intro v hv p l e s m args below meth c C H locs ls hP hD hS hT hl
  cases hv
  rw [hx]
  exact W.iret C.1 C.2.1 (C.2.2.2.2.2.1.trans hr) (end_Q (n := n) C hP hD hS hT) hS.2.2 hd C.2.2.2.2.2.2.1
theorem aw_zreturn {x : α} {b : Bool} (hd : decode K.2.1 pc = .ok (.ireturn, 1)) (hr : K.2.2.2 = some .boolean) (hx : r x = (some (.int (b2i b)), h)) : AW Y n K pc lv [.int (b2i b)] h (some x) r := by
  intro v hv p l e s m args below meth c C H locs ls hP hD hS hT hl
  cases hv
  rw [hx]
  exact W.zret C.1 C.2.1 (C.2.2.2.2.2.1.trans hr) (by cases b <;> rfl) (end_Q (n := n) C hP hD hS hT) hS.2.2 hd C.2.2.2.2.2.2.1
theorem aw_lreturn {x : α} {v0 : Int64} (hd : decode K.2.1 pc = .ok (.lreturn, 1)) (hr : K.2.2.2 = some .long) (hx : r x = (some (.long v0), h)) : AW Y n K pc lv [.long v0] h (some x) r := by
  intro v hv p l e s m args below meth c C H locs ls hP hD hS hT hl
  cases hv
  rw [hx]
  exact W.lret C.1 C.2.1 (C.2.2.2.2.2.1.trans hr) (end_Q (n := n) C hP hD hS hT) hS.2.2 hd C.2.2.2.2.2.2.1
theorem aw_return {x : α} (hd : decode K.2.1 pc = .ok (.return_, 1)) (hr : K.2.2.2 = none) (hx : r x = (none, h)) : AW Y n K pc lv [] h (some x) r := by
  intro v hv p l e s m args below meth c C H locs ls hP hD hS hT hl
  cases hv
  rw [hx]
  exact W.vret C.1 C.2.1 (C.2.2.2.2.2.1.trans hr) (end_Q (n := n) C hP hD hS hT) hS.2.2 hd C.2.2.2.2.2.2.1
theorem aw_areturn {x : α} {v0 : Option Nat} {cn : String} (hd : decode K.2.1 pc = .ok (.areturn, 1)) (hr : K.2.2.2 = some (.object cn)) (hx : r x = (some (va_rf v0), h)) : AW Y n K pc lv [va_rf v0] h (some x) r := by
  intro v hv p l e s m args below meth c C H locs ls hP hD hS hT hl
  cases hv
  rw [hx]
  exact W.aret C.1 C.2.1 (C.2.2.2.2.2.1.trans hr) (Or.inl ⟨cn, rfl⟩) (by cases v0 <;> simp [va_rf]) (end_Q (n := n) C hP hD hS hT) hS.2.2 hd C.2.2.2.2.2.2.1
/-! calls -/
theorem aw_run {K' : Mk} {As : Array Value} {x : Option Value × Hp} {st0 rest : List Value} {p : Program} {l : Launch} {e : Env} {s : State} {m : MethodId} {args : Array Value} {below : List Frame} {meth : Method} {c : Code} {H : Heap} {locs : List Loc} {ls : Array Slot} {Q : State → Prop} (hS : va_S (inY Y) s.heap H locs)
    (hr : va_Run p l e (rmN n) s m args below meth c H locs 0 0 0 0 (F0 m pc ls st0) rest (Qx Y x As) (inY Y))
    (k : ∀ (H1 : Heap) (locs1 : List Loc), va_P Y.2.2.2.1 cls_ (va_pl Y.1 (enc Y x.2)) H1 → va_D (inY Y) (va_pl Y.1 (enc Y x.2)) → va_S (inY Y) s.heap H1 locs1 → Ty Y x.2 → W p l e (rmN n) s m args below meth c H1 locs1 0 0 Q (F0 m (pc + 3) ls (x.1.toList ++ rest))) :
    W p l e (rmN n) s m args below meth c H locs 0 0 Q (F0 m pc ls st0) := by
  intro T hT X
  obtain ⟨v, st₀, t, T', L, h0, X', hL, e1, e2, ⟨hv, ⟨wP, wK, wD, wT⟩, hz, hk⟩, go⟩ := hr T hT X
  cases hv
  rw [h0] at hz hk
  have hS' : va_S (inY Y) s.heap T'.heap (locs ++ L) := ⟨Nat.le_trans hS.1 (by rw [e1]; exact hz), fun q h1 h2 => by rw [e1, hk q (Nat.lt_of_lt_of_le h1 hS.1) h2]; exact hS.2.1 q h1 h2, fun q hq => by
      rcases List.mem_append.mp hq with h | h
      · exact hS.2.2 q h
      · exact hL q h⟩
  obtain ⟨t2, a1, b1⟩ := k T'.heap (locs ++ L) (by rw [e1]; exact wP) wD hS' wT T' rfl X'
  exact ⟨t2, go t2 a1, b1⟩
/-- what a method that is called must have in the tables -/
def okV (K' : Mk) (k : Nat) : Prop := Cond.code K'.1 K'.2.1 K'.2.2.1 K'.2.2.2 ∈ lw_gd ∧ Cond.instanceMethod K'.1 ∈ lw_gd ∧ Cond.selects K'.1.cls K'.1 K'.1 ∈ lw_gd ∧ Cond.initialized K'.1.cls ∈ lw_gd ∧ (K'.1.cls ≠ "java/lang/invoke/MethodHandle" ∧ K'.1.cls ≠ "java/lang/invoke/VarHandle" ∧ (parseMethodDescriptor K'.1.desc).map (fun d => d.parameters.length) = some k) ∧ K'.2.2.1 ≤ 100
def okS (K' : Mk) (k : Nat) : Prop := Cond.code K'.1 K'.2.1 K'.2.2.1 K'.2.2.2 ∈ lw_gd ∧ Cond.static K'.1 ∈ lw_gd ∧ Cond.initialized K'.1.cls ∈ lw_gd ∧ (K'.1.cls ≠ "java/lang/invoke/MethodHandle" ∧ K'.1.cls ≠ "java/lang/invoke/VarHandle" ∧ (parseMethodDescriptor K'.1.desc).map (fun d => d.parameters.length) = some k) ∧ K'.2.2.1 ≤ 100
theorem aw_callV {K' : Mk} {n' idx b ci N k : Nat} {T : u_T} {As st0 : List Value} {β : Type} {o' : Option β} {r' : β → Option Value × Hp} {Kt : β → Option α} (ok : okV K' k) (hM : AM Y n' K' (.ref b :: As) h o' r') (hc : cls_[ci]? = some (K'.1.cls, T, N)) (hci : ci < 20) (hb : isO Y ci b) (hw : Cond.methodLink K.1.cls idx K'.1 ∈ lw_gd) (hd : decode K.2.1 pc = .ok (.invokevirtual idx, 3)) (hk : As.length = k) (hn : n' + 1 ≤ n) (hs : st0 = As.reverse ++ .ref b :: st) (hcat : (st.map fun v => v.category).sum ≤ 8)
    (kk : ∀ x, o' = some x → Ty Y h → AW Y n K (pc + 3) lv ((r' x).1.toList ++ st) (r' x).2 (Kt x) r) : AW Y n K pc lv st0 h (o'.bind Kt) r := by
  intro v hv p l e s m args below meth c C H locs ls hP hD hS hT hl
  cases ho : o' with
  | none => rw [ho] at hv; cases hv
  | some x =>
    rw [ho] at hv
    have hv : Kt x = some v := hv
    obtain ⟨q0, hq⟩ := pl_get (Y := Y) (h := h) hb.1
    rw [enc_obj hb hci] at hq
    have TT := C.2.2.2.2.1
    obtain ⟨k1, k2, k3, k4, k5, k6⟩ := ok
    refine aw_run (K' := K') hS (va_runV (n := k) (C := K'.1.cls) (b := b) (As := As) ⟨C.1, C.2.1, C.2.2.1, C.2.2.2.1, TT⟩ (hM x ho l) ⟨callB_of k TT (good_K (K := K) k1) rfl rfl rfl (wd_use TT k4) (wd_use TT hw) k5 ⟨hn, ?_⟩, wd_use TT k2, wd_use TT k3⟩ ⟨blind_Wd, va_recv C.2.2.2.2.2.2.2.1 hP hc hq, fun U hU hW => ⟨rfl, by rw [hU]; exact hP, KK.warm hW C.2.2.2.2.2.2.2, hD, hT⟩⟩ rfl hk hl.1 hs (lv_room hcat) hd ⟨Nat.le_refl _, Nat.le_refl _⟩) ?_
    · show 8 + (K'.2.2.1 + 11) + 120 * n' ≤ 120 * n
      omega
    · intro H1 locs1 hP1 hD1 hS1 hT1
      exact kk x ho hT v hv p l e s m args below meth c C H1 locs1 ls hP1 hD1 hS1 hT1 hl
theorem aw_callS {K' : Mk} {n' idx k : Nat} {As st0 : List Value} {β : Type} {o' : Option β} {r' : β → Option Value × Hp} {Kt : β → Option α} (ok : okS K' k) (hM : AM Y n' K' As h o' r') (hw : Cond.methodLink K.1.cls idx K'.1 ∈ lw_gd) (hd : decode K.2.1 pc = .ok (.invokestatic idx, 3)) (hk : As.length = k) (hn : n' + 1 ≤ n) (hs : st0 = As.reverse ++ st) (hcat : (st.map fun v => v.category).sum ≤ 8)
    (kk : ∀ x, o' = some x → Ty Y h → AW Y n K (pc + 3) lv ((r' x).1.toList ++ st) (r' x).2 (Kt x) r) : AW Y n K pc lv st0 h (o'.bind Kt) r := by
  intro v hv p l e s m args below meth c C H locs ls hP hD hS hT hl
  cases ho : o' with
  | none => rw [ho] at hv; cases hv
  | some x =>
    rw [ho] at hv
    have hv : Kt x = some v := hv
    have TT := C.2.2.2.2.1
    obtain ⟨k1, k2, k4, k5, k6⟩ := ok
    refine aw_run (K' := K') hS (va_runS (n := k) (As := As) ⟨C.1, C.2.1, C.2.2.1, C.2.2.2.1, TT⟩ (hM x ho l) ⟨callB_of k TT (good_K (K := K) k1) rfl rfl rfl (wd_use TT k4) (wd_use TT hw) k5 ⟨hn, ?_⟩, wd_use TT k2⟩ ⟨blind_Wd, fun U hU hW => ⟨rfl, by rw [hU]; exact hP, KK.warm hW C.2.2.2.2.2.2.2, hD, hT⟩⟩ rfl hk hl.1 hs (lv_room hcat) hd ⟨Nat.le_refl _, Nat.le_refl _⟩) ?_
    · show 8 + (K'.2.2.1 + 11) + 120 * n' ≤ 120 * n
      omega
    · intro H1 locs1 hP1 hD1 hS1 hT1
      exact kk x ho hT v hv p l e s m args below meth c C H1 locs1 ls hP1 hD1 hS1 hT1 hl
theorem aw_callN {K' : Mk} {n' idx k : Nat} {host : String} {As st0 : List Value} {β : Type} {o' : Option β} {r' : β → Option Value × Hp} {Kt : β → Option α} (ok : okS K' k) (hM : AM Y n' K' As h o' r') (hw : (K.1.cls, idx, K'.1, host) ∈ lw_nst) (hd : decode K.2.1 pc = .ok (.invokestatic idx, 3)) (hk : As.length = k) (hn : n' + 1 ≤ n) (hs : st0 = As.reverse ++ st) (hcat : (st.map fun v => v.category).sum ≤ 8)
    (kk : ∀ x, o' = some x → Ty Y h → AW Y n K (pc + 3) lv ((r' x).1.toList ++ st) (r' x).2 (Kt x) r) : AW Y n K pc lv st0 h (o'.bind Kt) r := by
  intro v hv p l e s m args below meth c C H locs ls hP hD hS hT hl
  cases ho : o' with
  | none => rw [ho] at hv; cases hv
  | some x =>
    rw [ho] at hv
    have hv : Kt x = some v := hv
    have TT := C.2.2.2.2.1
    obtain ⟨k1, k2, k4, k5, k6⟩ := ok
    refine aw_run (K' := K') hS (va_runSN (n := k) (As := As) (host := host) ⟨C.1, C.2.1, C.2.2.1, C.2.2.2.1, TT⟩ (hM x ho l) ⟨⟨⟨rfl, rfl, hn, ?_, pay_in TT (good_K (K := K) k1), List.mem_cons_self⟩, wd_use TT k1, wd_use TT k4, ⟨k5.1, k5.2.1⟩, fun sig hsg => ?_, va_Nw.use rfl (C.2.2.2.2.2.2.2.2 _ hw)⟩, wd_use TT k2, trivial⟩ ⟨blind_Wd, fun U hU hW => ⟨rfl, by rw [hU]; exact hP, KK.warm hW C.2.2.2.2.2.2.2, hD, hT⟩⟩ rfl hk hl.1 hs (lv_room hcat) hd ⟨Nat.le_refl _, Nat.le_refl _⟩) ?_
    · show 8 + (K'.2.2.1 + 11) + 120 * n' ≤ 120 * n
      omega
    · have h2 := k5.2.2
      rw [hsg] at h2
      exact (Option.some.inj h2).symm
    · intro H1 locs1 hP1 hD1 hS1 hT1
      exact kk x ho hT v hv p l e s m args below meth c C H1 locs1 ls hP1 hD1 hS1 hT1 hl
end AWH
