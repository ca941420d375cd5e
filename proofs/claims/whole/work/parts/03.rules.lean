/-! ===== worlds, contracts, walks ===== -/
abbrev Mk : Type := MethodName × ByteArray × Nat × Option FieldType
def rmN (n : Nat) : Room := { frames := n, cells := 0, slots := 0, locals := 120 * n }
def wsK (K : Mk) : List Cond := .code K.1 K.2.1 K.2.2.1 K.2.2.2 :: lw_gd
def lw_nst : List (String × Nat × MethodName × String) := [("LastPages", 24, ⟨"LastPages$ShelfReader", "<init>", "()V"⟩, "LastPages"), ("LastPages", 31, ⟨"LastPages$WeeksReader", "<init>", "()V"⟩, "LastPages"), ("LastPages", 44, ⟨"LastPages$Endings", "<init>", "()V"⟩, "LastPages"), ("LastPages$Endings", 30, ⟨"LastPages$Story", "<init>", "()V"⟩, "LastPages"), ("LastPages", 51, ⟨"LastPages$Fitting", "<init>", "()V"⟩, "LastPages"), ("LastPages", 58, ⟨"LastPages$Life", "<init>", "()V"⟩, "LastPages"), ("LastPages", 67, ⟨"LastPages$Shelf", "<init>", "()V"⟩, "LastPages"), ("LastPages$Shelf", 11, ⟨"LastPages$Story", "<init>", "()V"⟩, "LastPages"), ("LastPages$Shelf", 64, ⟨"LastPages$Weeks", "<init>", "()V"⟩, "LastPages"), ("LastPages", 77, ⟨"LastPages$Weeks", "<init>", "()V"⟩, "LastPages"), ("LastPages", 102, ⟨"LastPages$Tray", "<init>", "()V"⟩, "LastPages"), ("LastPages$Endings", 76, ⟨"LastPages", "has", "(II)Z"⟩, "LastPages"), ("LastPages$Story", 60, ⟨"LastPages", "has", "(II)Z"⟩, "LastPages"), ("LastPages$Shelf", 123, ⟨"LastPages", "has", "(II)Z"⟩, "LastPages"), ("LastPages$Fitting", 48, ⟨"LastPages", "has", "(II)Z"⟩, "LastPages"), ("LastPages$Fitting", 64, ⟨"LastPages", "isFewer", "(II)Z"⟩, "LastPages"), ("LastPages$Endings", 147, ⟨"LastPages", "isFewer", "(II)Z"⟩, "LastPages"), ("LastPages$Lot", 33, ⟨"LastPages", "has", "(II)Z"⟩, "LastPages"), ("LastPages$Lot", 43, ⟨"LastPages", "isFewer", "(II)Z"⟩, "LastPages")]
def NstOk (U : State) : Prop := ∀ q ∈ lw_nst, va_Nw (.methodLinkNest q.1 q.2.1 q.2.2.1 q.2.2.2) U
def KK (Y : Ly) (U : State) : Prop := va_K Y.2.2.2.1 cls_ (tysY Y) U ∧ NstOk U
theorem KK.warm {Y : Ly} {s U : State} (hW : s.WarmedH U.vm) (h : KK Y s) : KK Y U := ⟨va_K.moved hW.alike h.1, fun q hq => va_Nw.warmM hW (h.2 q hq)⟩
theorem KK.same {Y : Ly} {s U : State} (e : s.vm = U.vm) (h : KK Y s) : KK Y U := ⟨va_K.moved (by rw [e]; exact Vm.Alike.refl U.vm) h.1, fun q hq => va_Nw.same rfl e (h.2 q hq)⟩
def inY (Y : Ly) : Nat → Prop := fun q => q ∈ Y.1
def Wd (Y : Ly) (h : Hp) (U : State) : Prop := va_P Y.2.2.2.1 cls_ (va_pl Y.1 (enc Y h)) U.heap ∧ KK Y U ∧ va_D (inY Y) (va_pl Y.1 (enc Y h)) ∧ Ty Y h
def Qx (Y : Ly) (r : Option Value × Hp) : Array Value → State → Outcome → State → Prop := fun _ st oc t => oc = .returned r.1 ∧ Wd Y r.2 t ∧ va_F (inY Y) st t
/-- the contract: where the function has a value, the method returns it -/
def AM (Y : Ly) (n : Nat) (K : Mk) (av : List Value) (h : Hp) {α : Type} (o : Option α) (r : α → Option Value × Hp) : Prop :=
  ∀ x, o = some x → ∀ l : Launch, Met l K.1 (wsK K) (rmN n) (va_Pc av (Wd Y h)) (Qx Y (r x)) 0 0 (inY Y)
def Cx (Y : Ly) (K : Mk) (p : Program) (s : State) (m : MethodId) (args : Array Value) (meth : Method) (c : Code) : Prop :=
  p.tables.exec = Jvm.exec ∧ c.code = K.2.1 ∧ c.maxLocals = K.2.2.1 ∧ s.vm.findClass K.1.cls = some m.cls ∧ (∀ w ∈ wsK K, w.before args s = true) ∧ meth.sig.returnType = K.2.2.2 ∧ meth.locks = false ∧ KK Y s
/-- the walk: from here, where the function has a value, the frame comes to its end with it -/
def AW (Y : Ly) (n : Nat) (K : Mk) (pc : Nat) (lv : List (Nat × Value)) (st : List Value) (h : Hp) {α : Type} (o : Option α) (r : α → Option Value × Hp) : Prop :=
  ∀ x, o = some x → ∀ (p : Program) (l : Launch) (e : Env) (s : State) (m : MethodId) (args : Array Value) (below : List Frame) (meth : Method) (c : Code), Cx Y K p s m args meth c →
    ∀ (H : Heap) (locs : List Loc) (ls : Array Slot), va_P Y.2.2.2.1 cls_ (va_pl Y.1 (enc Y h)) H → va_D (inY Y) (va_pl Y.1 (enc Y h)) → va_S (inY Y) s.heap H locs → Ty Y h → lv_has ls K.2.2.1 lv →
      W p l e (rmN n) s m args below meth c H locs 0 0 (MQ below (Qx Y (r x)) args s 0 0 (inY Y)) (F0 m pc ls st)
theorem wd_use {K : Mk} {args : Array Value} {s : State} (h : ∀ w ∈ wsK K, w.before args s = true) {w : Cond} (hw : w ∈ lw_gd) : w.before args s = true := h w (List.mem_cons_of_mem _ hw)
theorem blind_Wd {Y : Ly} {h : Hp} {av : List Value} : FrameBlind (va_Pc av (Wd Y h)) := fun a U g mk q => by
  obtain ⟨q0, qP, qK, qD, qT⟩ := q
  exact ⟨q0, qP, KK.same (s := U) (U := U.calling g mk a) rfl qK, qD, qT⟩
theorem good_K {K K' : Mk} (hc : Cond.code K'.1 K'.2.1 K'.2.2.1 K'.2.2.2 ∈ lw_gd) : GoodIn (wsK K) (wsK K') := by
  intro w hw
  have hm : w ∈ lw_gd := by
    rcases List.mem_cons.mp hw with e | e
    · rw [e]; exact hc
    · exact e
  exact ⟨List.mem_cons_of_mem _ hm, good_of_word (gd_ok hm)⟩
/-- a method's contract out of the walk from its entry -/
theorem AM.of {Y : Ly} {n : Nat} {K : Mk} {av : List Value} {h : Hp} {α : Type} {o : Option α} {r : α → Option Value × Hp} (hy : plainName K.1.cls = true) (hn : (lg_sl av).length ≤ K.2.2.1) (k : AW Y n K 0 (lv_args 0 av) [] h o r) : AM Y n K av h o r := by
  intro x hx l
  refine Met.ofW (cc := K.2.1) (maxL := K.2.2.1) (ret := K.2.2.2) hy rfl ?_
  intro p e s m args below meth c s₁ B hml hv
  obtain ⟨rfl, hP, hK, hD, hT⟩ := hv
  have hts := atoms_spec (ws := wsK K) B.pre
  have hown : s.vm.findClass K.1.cls = some m.cls := findClass_of_methodNamed B.named
  have hl := lv_entry av (n := K.2.2.1) hn
  rw [lg_entry_eq]
  exact k x hx p l e s m _ below meth c ⟨B.exec, B.bytes, hml, hown, hts, B.returns, B.notSynchronized, hK⟩ _ _ _ hP hD va_S.rf hT hl
section AWR
variable {Y : Ly} {n : Nat} {K : Mk} {pc : Nat} {lv lv' : List (Nat × Value)} {st : List Value} {h : Hp} {α : Type} {o o1 o2 : Option α} {r : α → Option Value × Hp}
/-- fewer locals, in another order -/
theorem aw_lv (ks : List Nat) (hp : lv_pick lv ks = lv') (k : AW Y n K pc lv' st h o r) : AW Y n K pc lv st h o r :=
  fun v hv p l e s m args below meth c C H locs ls hP hD hS hT hl => k v hv p l e s m args below meth c C H locs ls hP hD hS hT (lv_sub hl ks hp)
theorem aw_none : AW Y n K pc lv st h (none : Option α) r := fun v hv => by cases hv
theorem aw_o (e : o1 = o2) (k : AW Y n K pc lv st h o2 r) : AW Y n K pc lv st h o1 r := e ▸ k
theorem aw_cases {q : Prop} [Decidable q] (k1 : q → AW Y n K pc lv st h o1 r) (k2 : ¬ q → AW Y n K pc lv st h o2 r) : AW Y n K pc lv st h (if q then o1 else o2) r := by
  by_cases hq : q
  · rw [if_pos hq]; exact k1 hq
  · rw [if_neg hq]; exact k2 hq
theorem aw_if {q : Prop} [Decidable q] (k1 : q → AW Y n K pc lv st h o r) : AW Y n K pc lv st h (if q then o else none) r := aw_cases k1 (fun _ => aw_none)
theorem aw_iconst {j : Int} {x : Int32} (hd : decode K.2.1 pc = .ok (.iconst j, 1)) (hx : Int32.ofInt j = x) (k : AW Y n K (pc + 1) lv (.int x :: st) h o r) : AW Y n K pc lv (st) h o r :=
  fun v hv p l e s m args below meth c C H locs ls hP hD hS hT hl => lv_iconst C.1 C.2.1 hd hx (k v hv p l e s m args below meth c C H locs ls hP hD hS hT hl)
theorem aw_bipush {j : Int} {x : Int32} (hd : decode K.2.1 pc = .ok (.bipush j, 2)) (hx : (Int8.ofInt j).toInt32 = x) (k : AW Y n K (pc + 2) lv (.int x :: st) h o r) : AW Y n K pc lv (st) h o r :=
  fun v hv p l e s m args below meth c C H locs ls hP hD hS hT hl => lv_bipush C.1 C.2.1 hd hx (k v hv p l e s m args below meth c C H locs ls hP hD hS hT hl)
theorem aw_sipush {j : Int} {x : Int32} (hd : decode K.2.1 pc = .ok (.sipush j, 3)) (hx : (Int16.ofInt j).toInt32 = x) (k : AW Y n K (pc + 3) lv (.int x :: st) h o r) : AW Y n K pc lv (st) h o r :=
  fun v hv p l e s m args below meth c C H locs ls hP hD hS hT hl => lv_sipush C.1 C.2.1 hd hx (k v hv p l e s m args below meth c C H locs ls hP hD hS hT hl)
theorem aw_lconst {j : Fin 2} {x : Int64} (hd : decode K.2.1 pc = .ok (.lconst j, 1)) (hx : Int64.ofNat (j : Nat) = x) (k : AW Y n K (pc + 1) lv (.long x :: st) h o r) : AW Y n K pc lv (st) h o r :=
  fun v hv p l e s m args below meth c C H locs ls hP hD hS hT hl => lv_lconst C.1 C.2.1 hd hx (k v hv p l e s m args below meth c C H locs ls hP hD hS hT hl)
theorem aw_iload_n {j : Fin 4} {i : Nat} {x : Int32} (hd : decode K.2.1 pc = .ok (.iload_n j, 1)) (hi : (j : Nat) = i) (q : Nat) (hq : lv[q]? = some (i, .int x)) (k : AW Y n K (pc + 1) lv (.int x :: st) h o r) : AW Y n K pc lv (st) h o r :=
  fun v hv p l e s m args below meth c C H locs ls hP hD hS hT hl => lv_iload_n C.1 C.2.1 hd hi (lv_at hl q hq) (k v hv p l e s m args below meth c C H locs ls hP hD hS hT hl)
theorem aw_iload {i : Nat} {x : Int32} (hd : decode K.2.1 pc = .ok (.iload i, 2)) (q : Nat) (hq : lv[q]? = some (i, .int x)) (k : AW Y n K (pc + 2) lv (.int x :: st) h o r) : AW Y n K pc lv (st) h o r :=
  fun v hv p l e s m args below meth c C H locs ls hP hD hS hT hl => lv_iload C.1 C.2.1 hd (lv_at hl q hq) (k v hv p l e s m args below meth c C H locs ls hP hD hS hT hl)
theorem aw_istore_n {j : Fin 4} {i : Nat} {x : Int32} (hd : decode K.2.1 pc = .ok (.istore_n j, 1)) (hi : (j : Nat) = i) (hn : i < K.2.2.1) (hl2 : (i, Value.int x) :: lv.filter (fun q => !(q.1 == i) && !(q.1 + 1 == i && q.2.category == 2)) = lv') (k : AW Y n K (pc + 1) lv' (st) h o r) : AW Y n K pc lv (.int x :: st) h o r :=
  fun v hv p l e s m args below meth c C H locs ls hP hD hS hT hl => lv_istore_n C.1 C.2.1 hd hi hl hn hl2 (fun ls hl => k v hv p l e s m args below meth c C H locs ls hP hD hS hT hl)
theorem aw_istore {i : Nat} {x : Int32} (hd : decode K.2.1 pc = .ok (.istore i, 2)) (hn : i < K.2.2.1) (hl2 : (i, Value.int x) :: lv.filter (fun q => !(q.1 == i) && !(q.1 + 1 == i && q.2.category == 2)) = lv') (k : AW Y n K (pc + 2) lv' (st) h o r) : AW Y n K pc lv (.int x :: st) h o r :=
  fun v hv p l e s m args below meth c C H locs ls hP hD hS hT hl => lv_istore C.1 C.2.1 hd hl hn hl2 (fun ls hl => k v hv p l e s m args below meth c C H locs ls hP hD hS hT hl)
theorem aw_lload_n {j : Fin 4} {i : Nat} {x : Int64} (hd : decode K.2.1 pc = .ok (.lload_n j, 1)) (hi : (j : Nat) = i) (q : Nat) (hq : lv[q]? = some (i, .long x)) (k : AW Y n K (pc + 1) lv (.long x :: st) h o r) : AW Y n K pc lv (st) h o r :=
  fun v hv p l e s m args below meth c C H locs ls hP hD hS hT hl => lv_lload_n C.1 C.2.1 hd hi (lv_at hl q hq) (k v hv p l e s m args below meth c C H locs ls hP hD hS hT hl)
theorem aw_lload {i : Nat} {x : Int64} (hd : decode K.2.1 pc = .ok (.lload i, 2)) (q : Nat) (hq : lv[q]? = some (i, .long x)) (k : AW Y n K (pc + 2) lv (.long x :: st) h o r) : AW Y n K pc lv (st) h o r :=
  fun v hv p l e s m args below meth c C H locs ls hP hD hS hT hl => lv_lload C.1 C.2.1 hd (lv_at hl q hq) (k v hv p l e s m args below meth c C H locs ls hP hD hS hT hl)
theorem aw_lstore_n {j : Fin 4} {i : Nat} {x : Int64} (hd : decode K.2.1 pc = .ok (.lstore_n j, 1)) (hi : (j : Nat) = i) (hn : i + 1 < K.2.2.1) (hl2 : (i, Value.long x) :: lv.filter (fun q => !(q.1 == i) && (!(q.1 == i + 1) && !(q.1 + 1 == i && q.2.category == 2))) = lv') (k : AW Y n K (pc + 1) lv' (st) h o r) : AW Y n K pc lv (.long x :: st) h o r :=
  fun v hv p l e s m args below meth c C H locs ls hP hD hS hT hl => lv_lstore_n C.1 C.2.1 hd hi hl hn hl2 (fun ls hl => k v hv p l e s m args below meth c C H locs ls hP hD hS hT hl)
theorem aw_lstore {i : Nat} {x : Int64} (hd : decode K.2.1 pc = .ok (.lstore i, 2)) (hn : i + 1 < K.2.2.1) (hl2 : (i, Value.long x) :: lv.filter (fun q => !(q.1 == i) && (!(q.1 == i + 1) && !(q.1 + 1 == i && q.2.category == 2))) = lv') (k : AW Y n K (pc + 2) lv' (st) h o r) : AW Y n K pc lv (.long x :: st) h o r :=
  fun v hv p l e s m args below meth c C H locs ls hP hD hS hT hl => lv_lstore C.1 C.2.1 hd hl hn hl2 (fun ls hl => k v hv p l e s m args below meth c C H locs ls hP hD hS hT hl)
theorem aw_aload_n {j : Fin 4} {i : Nat} {x : Nat} (hd : decode K.2.1 pc = .ok (.aload_n j, 1)) (hi : (j : Nat) = i) (q : Nat) (hq : lv[q]? = some (i, .ref x)) (k : AW Y n K (pc + 1) lv (.ref x :: st) h o r) : AW Y n K pc lv (st) h o r :=
  fun v hv p l e s m args below meth c C H locs ls hP hD hS hT hl => lv_aload_n C.1 C.2.1 hd hi (lv_at hl q hq) (k v hv p l e s m args below meth c C H locs ls hP hD hS hT hl)
theorem aw_aload {i : Nat} {x : Nat} (hd : decode K.2.1 pc = .ok (.aload i, 2)) (q : Nat) (hq : lv[q]? = some (i, .ref x)) (k : AW Y n K (pc + 2) lv (.ref x :: st) h o r) : AW Y n K pc lv (st) h o r :=
  fun v hv p l e s m args below meth c C H locs ls hP hD hS hT hl => lv_aload C.1 C.2.1 hd (lv_at hl q hq) (k v hv p l e s m args below meth c C H locs ls hP hD hS hT hl)
theorem aw_astore_n {j : Fin 4} {i : Nat} {x : Nat} (hd : decode K.2.1 pc = .ok (.astore_n j, 1)) (hi : (j : Nat) = i) (hn : i < K.2.2.1) (hl2 : (i, Value.ref x) :: lv.filter (fun q => !(q.1 == i) && !(q.1 + 1 == i && q.2.category == 2)) = lv') (k : AW Y n K (pc + 1) lv' (st) h o r) : AW Y n K pc lv (.ref x :: st) h o r :=
  fun v hv p l e s m args below meth c C H locs ls hP hD hS hT hl => lv_astore_n C.1 C.2.1 hd hi hl hn hl2 (fun ls hl => k v hv p l e s m args below meth c C H locs ls hP hD hS hT hl)
theorem aw_astore {i : Nat} {x : Nat} (hd : decode K.2.1 pc = .ok (.astore i, 2)) (hn : i < K.2.2.1) (hl2 : (i, Value.ref x) :: lv.filter (fun q => !(q.1 == i) && !(q.1 + 1 == i && q.2.category == 2)) = lv') (k : AW Y n K (pc + 2) lv' (st) h o r) : AW Y n K pc lv (.ref x :: st) h o r :=
  fun v hv p l e s m args below meth c C H locs ls hP hD hS hT hl => lv_astore C.1 C.2.1 hd hl hn hl2 (fun ls hl => k v hv p l e s m args below meth c C H locs ls hP hD hS hT hl)
theorem aw_aload_nQ {j : Fin 4} {i : Nat} {x : Option Nat} (hd : decode K.2.1 pc = .ok (.aload_n j, 1)) (hi : (j : Nat) = i) (q : Nat) (hq : lv[q]? = some (i, va_rf x)) (k : AW Y n K (pc + 1) lv (va_rf x :: st) h o r) : AW Y n K pc lv st h o r := by
  cases x with
  | none => exact fun v hv p l e s m args below meth c C H locs ls hP hD hS hT hl => lv_aload_nN C.1 C.2.1 hd hi (lv_at hl q hq) (k v hv p l e s m args below meth c C H locs ls hP hD hS hT hl)
  | some a => exact fun v hv p l e s m args below meth c C H locs ls hP hD hS hT hl => lv_aload_n C.1 C.2.1 hd hi (lv_at hl q hq) (k v hv p l e s m args below meth c C H locs ls hP hD hS hT hl)
theorem aw_aloadQ {i : Nat} {x : Option Nat} (hd : decode K.2.1 pc = .ok (.aload i, 2)) (q : Nat) (hq : lv[q]? = some (i, va_rf x)) (k : AW Y n K (pc + 2) lv (va_rf x :: st) h o r) : AW Y n K pc lv st h o r := by
  cases x with
  | none => exact fun v hv p l e s m args below meth c C H locs ls hP hD hS hT hl => lv_aloadN C.1 C.2.1 hd (lv_at hl q hq) (k v hv p l e s m args below meth c C H locs ls hP hD hS hT hl)
  | some a => exact fun v hv p l e s m args below meth c C H locs ls hP hD hS hT hl => lv_aload C.1 C.2.1 hd (lv_at hl q hq) (k v hv p l e s m args below meth c C H locs ls hP hD hS hT hl)
theorem aw_astore_nQ {j : Fin 4} {i : Nat} {x : Option Nat} (hd : decode K.2.1 pc = .ok (.astore_n j, 1)) (hi : (j : Nat) = i) (hn : i < K.2.2.1) (hl2 : (i, va_rf x) :: lv.filter (fun q => !(q.1 == i) && !(q.1 + 1 == i && q.2.category == 2)) = lv') (k : AW Y n K (pc + 1) lv' st h o r) : AW Y n K pc lv (va_rf x :: st) h o r := by
  cases x with
  | none => exact fun v hv p l e s m args below meth c C H locs ls hP hD hS hT hl => lv_astore_nN C.1 C.2.1 hd hi hl hn hl2 (fun ls hl => k v hv p l e s m args below meth c C H locs ls hP hD hS hT hl)
  | some a => exact fun v hv p l e s m args below meth c C H locs ls hP hD hS hT hl => lv_astore_n C.1 C.2.1 hd hi hl hn hl2 (fun ls hl => k v hv p l e s m args below meth c C H locs ls hP hD hS hT hl)
theorem aw_astoreQ {i : Nat} {x : Option Nat} (hd : decode K.2.1 pc = .ok (.astore i, 2)) (hn : i < K.2.2.1) (hl2 : (i, va_rf x) :: lv.filter (fun q => !(q.1 == i) && !(q.1 + 1 == i && q.2.category == 2)) = lv') (k : AW Y n K (pc + 2) lv' st h o r) : AW Y n K pc lv (va_rf x :: st) h o r := by
  cases x with
  | none => exact fun v hv p l e s m args below meth c C H locs ls hP hD hS hT hl => lv_astoreN C.1 C.2.1 hd hl hn hl2 (fun ls hl => k v hv p l e s m args below meth c C H locs ls hP hD hS hT hl)
  | some a => exact fun v hv p l e s m args below meth c C H locs ls hP hD hS hT hl => lv_astore C.1 C.2.1 hd hl hn hl2 (fun ls hl => k v hv p l e s m args below meth c C H locs ls hP hD hS hT hl)
theorem aw_null  (hd : decode K.2.1 pc = .ok (.aconst_null, 1))  (k : AW Y n K (pc + 1) lv (.null :: st) h o r) : AW Y n K pc lv (st) h o r :=
  fun v hv p l e s m args below meth c C H locs ls hP hD hS hT hl => lv_null C.1 C.2.1 hd  (k v hv p l e s m args below meth c C H locs ls hP hD hS hT hl)
theorem aw_ifnullQ {x : Option Nat} {off : Int} {tgt : Nat} {o2 : Nat → Option α} (hd : decode K.2.1 pc = .ok (.ifnull off, 3)) (ht : (pc : Int) + off = (tgt : Int)) (k1 : x = none → AW Y n K tgt lv st h o1 r) (k2 : ∀ a, x = some a → AW Y n K (pc + 3) lv st h (o2 a) r) : AW Y n K pc lv (va_rf x :: st) h (match x with | none => o1 | some a => o2 a) r := by
  cases x with
  | none => exact fun v hv p l e s m args below meth c C H locs ls hP hD hS hT hl => lv_ifnullN C.1 C.2.1 hd ht (k1 rfl v hv p l e s m args below meth c C H locs ls hP hD hS hT hl)
  | some a => exact fun v hv p l e s m args below meth c C H locs ls hP hD hS hT hl => lv_ifnull C.1 C.2.1 hd (k2 a rfl v hv p l e s m args below meth c C H locs ls hP hD hS hT hl)
theorem aw_ifnonnullQ {x : Option Nat} {off : Int} {tgt : Nat} {o2 : Nat → Option α} (hd : decode K.2.1 pc = .ok (.ifnonnull off, 3)) (ht : (pc : Int) + off = (tgt : Int)) (k1 : x = none → AW Y n K (pc + 3) lv st h o1 r) (k2 : ∀ a, x = some a → AW Y n K tgt lv st h (o2 a) r) : AW Y n K pc lv (va_rf x :: st) h (match x with | none => o1 | some a => o2 a) r := by
  cases x with
  | none => exact fun v hv p l e s m args below meth c C H locs ls hP hD hS hT hl => lv_ifnonnullN C.1 C.2.1 hd (k1 rfl v hv p l e s m args below meth c C H locs ls hP hD hS hT hl)
  | some a => exact fun v hv p l e s m args below meth c C H locs ls hP hD hS hT hl => lv_ifnonnull C.1 C.2.1 hd ht (k2 a rfl v hv p l e s m args below meth c C H locs ls hP hD hS hT hl)
theorem aw_iadd {x y : Int32} (hd : decode K.2.1 pc = .ok (.iadd, 1))  (k : AW Y n K (pc + 1) lv (.int (x + y) :: st) h o r) : AW Y n K pc lv (.int y :: .int x :: st) h o r :=
  fun v hv p l e s m args below meth c C H locs ls hP hD hS hT hl => lv_iadd C.1 C.2.1 hd  (k v hv p l e s m args below meth c C H locs ls hP hD hS hT hl)
theorem aw_isub {x y : Int32} (hd : decode K.2.1 pc = .ok (.isub, 1))  (k : AW Y n K (pc + 1) lv (.int (x - y) :: st) h o r) : AW Y n K pc lv (.int y :: .int x :: st) h o r :=
  fun v hv p l e s m args below meth c C H locs ls hP hD hS hT hl => lv_isub C.1 C.2.1 hd  (k v hv p l e s m args below meth c C H locs ls hP hD hS hT hl)
theorem aw_imul {x y : Int32} (hd : decode K.2.1 pc = .ok (.imul, 1))  (k : AW Y n K (pc + 1) lv (.int (x * y) :: st) h o r) : AW Y n K pc lv (.int y :: .int x :: st) h o r :=
  fun v hv p l e s m args below meth c C H locs ls hP hD hS hT hl => lv_imul C.1 C.2.1 hd  (k v hv p l e s m args below meth c C H locs ls hP hD hS hT hl)
theorem aw_iand {x y : Int32} (hd : decode K.2.1 pc = .ok (.iand, 1))  (k : AW Y n K (pc + 1) lv (.int (x &&& y) :: st) h o r) : AW Y n K pc lv (.int y :: .int x :: st) h o r :=
  fun v hv p l e s m args below meth c C H locs ls hP hD hS hT hl => lv_iand C.1 C.2.1 hd  (k v hv p l e s m args below meth c C H locs ls hP hD hS hT hl)
theorem aw_ior {x y : Int32} (hd : decode K.2.1 pc = .ok (.ior, 1))  (k : AW Y n K (pc + 1) lv (.int (x ||| y) :: st) h o r) : AW Y n K pc lv (.int y :: .int x :: st) h o r :=
  fun v hv p l e s m args below meth c C H locs ls hP hD hS hT hl => lv_ior C.1 C.2.1 hd  (k v hv p l e s m args below meth c C H locs ls hP hD hS hT hl)
theorem aw_ixor {x y : Int32} (hd : decode K.2.1 pc = .ok (.ixor, 1))  (k : AW Y n K (pc + 1) lv (.int (x ^^^ y) :: st) h o r) : AW Y n K pc lv (.int y :: .int x :: st) h o r :=
  fun v hv p l e s m args below meth c C H locs ls hP hD hS hT hl => lv_ixor C.1 C.2.1 hd  (k v hv p l e s m args below meth c C H locs ls hP hD hS hT hl)
theorem aw_ladd {x y : Int64} (hd : decode K.2.1 pc = .ok (.ladd, 1))  (k : AW Y n K (pc + 1) lv (.long (x + y) :: st) h o r) : AW Y n K pc lv (.long y :: .long x :: st) h o r :=
  fun v hv p l e s m args below meth c C H locs ls hP hD hS hT hl => lv_ladd C.1 C.2.1 hd  (k v hv p l e s m args below meth c C H locs ls hP hD hS hT hl)
theorem aw_lsub {x y : Int64} (hd : decode K.2.1 pc = .ok (.lsub, 1))  (k : AW Y n K (pc + 1) lv (.long (x - y) :: st) h o r) : AW Y n K pc lv (.long y :: .long x :: st) h o r :=
  fun v hv p l e s m args below meth c C H locs ls hP hD hS hT hl => lv_lsub C.1 C.2.1 hd  (k v hv p l e s m args below meth c C H locs ls hP hD hS hT hl)
theorem aw_lmul {x y : Int64} (hd : decode K.2.1 pc = .ok (.lmul, 1))  (k : AW Y n K (pc + 1) lv (.long (x * y) :: st) h o r) : AW Y n K pc lv (.long y :: .long x :: st) h o r :=
  fun v hv p l e s m args below meth c C H locs ls hP hD hS hT hl => lv_lmul C.1 C.2.1 hd  (k v hv p l e s m args below meth c C H locs ls hP hD hS hT hl)
theorem aw_land {x y : Int64} (hd : decode K.2.1 pc = .ok (.land, 1))  (k : AW Y n K (pc + 1) lv (.long (x &&& y) :: st) h o r) : AW Y n K pc lv (.long y :: .long x :: st) h o r :=
  fun v hv p l e s m args below meth c C H locs ls hP hD hS hT hl => lv_land C.1 C.2.1 hd  (k v hv p l e s m args below meth c C H locs ls hP hD hS hT hl)
theorem aw_lor {x y : Int64} (hd : decode K.2.1 pc = .ok (.lor, 1))  (k : AW Y n K (pc + 1) lv (.long (x ||| y) :: st) h o r) : AW Y n K pc lv (.long y :: .long x :: st) h o r :=
  fun v hv p l e s m args below meth c C H locs ls hP hD hS hT hl => lv_lor C.1 C.2.1 hd  (k v hv p l e s m args below meth c C H locs ls hP hD hS hT hl)
theorem aw_idiv {x y : Int32} (hd : decode K.2.1 pc = .ok (.idiv, 1)) (hne : ¬ y = 0) (k : AW Y n K (pc + 1) lv (.int (x / y) :: st) h o r) : AW Y n K pc lv (.int y :: .int x :: st) h o r :=
  fun v hv p l e s m args below meth c C H locs ls hP hD hS hT hl => lv_idiv C.1 C.2.1 hd hne (k v hv p l e s m args below meth c C H locs ls hP hD hS hT hl)
theorem aw_irem {x y : Int32} (hd : decode K.2.1 pc = .ok (.irem, 1)) (hne : ¬ y = 0) (k : AW Y n K (pc + 1) lv (.int (x - x / y * y) :: st) h o r) : AW Y n K pc lv (.int y :: .int x :: st) h o r :=
  fun v hv p l e s m args below meth c C H locs ls hP hD hS hT hl => lv_irem C.1 C.2.1 hd hne (k v hv p l e s m args below meth c C H locs ls hP hD hS hT hl)
theorem aw_ldiv {x y : Int64} (hd : decode K.2.1 pc = .ok (.ldiv, 1)) (hne : ¬ y = 0) (k : AW Y n K (pc + 1) lv (.long (x / y) :: st) h o r) : AW Y n K pc lv (.long y :: .long x :: st) h o r :=
  fun v hv p l e s m args below meth c C H locs ls hP hD hS hT hl => lv_ldiv C.1 C.2.1 hd hne (k v hv p l e s m args below meth c C H locs ls hP hD hS hT hl)
theorem aw_lrem {x y : Int64} (hd : decode K.2.1 pc = .ok (.lrem, 1)) (hne : ¬ y = 0) (k : AW Y n K (pc + 1) lv (.long (x - x / y * y) :: st) h o r) : AW Y n K pc lv (.long y :: .long x :: st) h o r :=
  fun v hv p l e s m args below meth c C H locs ls hP hD hS hT hl => lv_lrem C.1 C.2.1 hd hne (k v hv p l e s m args below meth c C H locs ls hP hD hS hT hl)
theorem aw_lneg {x : Int64} (hd : decode K.2.1 pc = .ok (.lneg, 1))  (k : AW Y n K (pc + 1) lv (.long (-x) :: st) h o r) : AW Y n K pc lv (.long x :: st) h o r :=
  fun v hv p l e s m args below meth c C H locs ls hP hD hS hT hl => lv_lneg C.1 C.2.1 hd  (k v hv p l e s m args below meth c C H locs ls hP hD hS hT hl)
theorem aw_ishl {x y : Int32} (hd : decode K.2.1 pc = .ok (.ishl, 1))  (k : AW Y n K (pc + 1) lv (.int (x <<< (y &&& 31)) :: st) h o r) : AW Y n K pc lv (.int y :: .int x :: st) h o r :=
  fun v hv p l e s m args below meth c C H locs ls hP hD hS hT hl => lv_ishl C.1 C.2.1 hd  (k v hv p l e s m args below meth c C H locs ls hP hD hS hT hl)
theorem aw_ishr {x y : Int32} (hd : decode K.2.1 pc = .ok (.ishr, 1))  (k : AW Y n K (pc + 1) lv (.int (x >>> (y &&& 31)) :: st) h o r) : AW Y n K pc lv (.int y :: .int x :: st) h o r :=
  fun v hv p l e s m args below meth c C H locs ls hP hD hS hT hl => lv_ishr C.1 C.2.1 hd  (k v hv p l e s m args below meth c C H locs ls hP hD hS hT hl)
theorem aw_iushr {x y : Int32} (hd : decode K.2.1 pc = .ok (.iushr, 1))  (k : AW Y n K (pc + 1) lv (.int (x.toUInt32 >>> (y.toUInt32 &&& Int32.toUInt32 31)).toInt32 :: st) h o r) : AW Y n K pc lv (.int y :: .int x :: st) h o r :=
  fun v hv p l e s m args below meth c C H locs ls hP hD hS hT hl => lv_iushr C.1 C.2.1 hd rfl (k v hv p l e s m args below meth c C H locs ls hP hD hS hT hl)
theorem aw_lshl {x : Int64} {y : Int32} (hd : decode K.2.1 pc = .ok (.lshl, 1))  (k : AW Y n K (pc + 1) lv (.long (x <<< (y.toInt64 &&& 63)) :: st) h o r) : AW Y n K pc lv (.int y :: .long x :: st) h o r :=
  fun v hv p l e s m args below meth c C H locs ls hP hD hS hT hl => lv_lshl C.1 C.2.1 hd rfl (k v hv p l e s m args below meth c C H locs ls hP hD hS hT hl)
theorem aw_i2l {x : Int32} (hd : decode K.2.1 pc = .ok (.i2l, 1))  (k : AW Y n K (pc + 1) lv (.long x.toInt64 :: st) h o r) : AW Y n K pc lv (.int x :: st) h o r :=
  fun v hv p l e s m args below meth c C H locs ls hP hD hS hT hl => lv_i2l C.1 C.2.1 hd rfl (k v hv p l e s m args below meth c C H locs ls hP hD hS hT hl)
theorem aw_l2i {x : Int64} (hd : decode K.2.1 pc = .ok (.l2i, 1))  (k : AW Y n K (pc + 1) lv (.int x.toInt32 :: st) h o r) : AW Y n K pc lv (.long x :: st) h o r :=
  fun v hv p l e s m args below meth c C H locs ls hP hD hS hT hl => lv_l2i C.1 C.2.1 hd rfl (k v hv p l e s m args below meth c C H locs ls hP hD hS hT hl)
theorem aw_i2b {x : Int32} (hd : decode K.2.1 pc = .ok (.i2b, 1))  (k : AW Y n K (pc + 1) lv (.int x.toInt8.toInt32 :: st) h o r) : AW Y n K pc lv (.int x :: st) h o r :=
  fun v hv p l e s m args below meth c C H locs ls hP hD hS hT hl => lv_i2b C.1 C.2.1 hd rfl (k v hv p l e s m args below meth c C H locs ls hP hD hS hT hl)
theorem aw_i2s {x : Int32} (hd : decode K.2.1 pc = .ok (.i2s, 1))  (k : AW Y n K (pc + 1) lv (.int x.toInt16.toInt32 :: st) h o r) : AW Y n K pc lv (.int x :: st) h o r :=
  fun v hv p l e s m args below meth c C H locs ls hP hD hS hT hl => lv_i2s C.1 C.2.1 hd rfl (k v hv p l e s m args below meth c C H locs ls hP hD hS hT hl)
theorem aw_dup {x : Value} (hd : decode K.2.1 pc = .ok (.dup, 1)) (hc : x.category = 1) (k : AW Y n K (pc + 1) lv (x :: x :: st) h o r) : AW Y n K pc lv (x :: st) h o r :=
  fun v hv p l e s m args below meth c C H locs ls hP hD hS hT hl => lv_dup C.1 C.2.1 hd hc (k v hv p l e s m args below meth c C H locs ls hP hD hS hT hl)
theorem aw_pop {x : Value} (hd : decode K.2.1 pc = .ok (.pop, 1)) (hc : x.category = 1) (k : AW Y n K (pc + 1) lv (st) h o r) : AW Y n K pc lv (x :: st) h o r :=
  fun v hv p l e s m args below meth c C H locs ls hP hD hS hT hl => lv_pop C.1 C.2.1 hd hc (k v hv p l e s m args below meth c C H locs ls hP hD hS hT hl)
theorem aw_dup2_11 {x y : Value} (hd : decode K.2.1 pc = .ok (.dup2, 1)) (hc : x.category = 1) (hc2 : y.category = 1) (k : AW Y n K (pc + 1) lv (x :: y :: x :: y :: st) h o r) : AW Y n K pc lv (x :: y :: st) h o r :=
  fun v hv p l e s m args below meth c C H locs ls hP hD hS hT hl => lv_dup2_11 C.1 C.2.1 hd hc hc2 (k v hv p l e s m args below meth c C H locs ls hP hD hS hT hl)
theorem aw_dup2_2 {x : Value} (hd : decode K.2.1 pc = .ok (.dup2, 1)) (hc : x.category = 2) (k : AW Y n K (pc + 1) lv (x :: x :: st) h o r) : AW Y n K pc lv (x :: st) h o r :=
  fun v hv p l e s m args below meth c C H locs ls hP hD hS hT hl => lv_dup2_2 C.1 C.2.1 hd hc (k v hv p l e s m args below meth c C H locs ls hP hD hS hT hl)
theorem aw_pop2_2 {x : Value} (hd : decode K.2.1 pc = .ok (.pop2, 1)) (hc : x.category = 2) (k : AW Y n K (pc + 1) lv (st) h o r) : AW Y n K pc lv (x :: st) h o r :=
  fun v hv p l e s m args below meth c C H locs ls hP hD hS hT hl => lv_pop2_2 C.1 C.2.1 hd hc (k v hv p l e s m args below meth c C H locs ls hP hD hS hT hl)
theorem aw_dup_x1 {x y : Value} (hd : decode K.2.1 pc = .ok (.dup_x1, 1)) (hc : x.category = 1) (hc2 : y.category = 1) (k : AW Y n K (pc + 1) lv (x :: y :: x :: st) h o r) : AW Y n K pc lv (x :: y :: st) h o r :=
  fun v hv p l e s m args below meth c C H locs ls hP hD hS hT hl => lv_dup_x1 C.1 C.2.1 hd hc hc2 (k v hv p l e s m args below meth c C H locs ls hP hD hS hT hl)
theorem aw_iinc {i : Nat} {j : Int} {x w : Int32} (hd : decode K.2.1 pc = .ok (.iinc i j, 3)) (q : Nat) (hq : lv[q]? = some (i, .int x)) (hx : x + Int32.ofInt j = w) (hn : i < K.2.2.1) (hl2 : (i, Value.int w) :: lv.filter (fun q => !(q.1 == i) && !(q.1 + 1 == i && q.2.category == 2)) = lv') (k : AW Y n K (pc + 3) lv' st h o r) : AW Y n K pc lv st h o r :=
  fun v hv p l e s m args below meth c C H locs ls hP hD hS hT hl => lv_iinc C.1 C.2.1 hd hl hq hx hn hl2 (fun ls hl => k v hv p l e s m args below meth c C H locs ls hP hD hS hT hl)
theorem aw_ldc {j : Nat} {x : Int32} (hd : decode K.2.1 pc = .ok (.ldc j, 2)) (hw : Cond.constant K.1.cls j x ∈ lw_gd) (k : AW Y n K (pc + 2) lv (.int x :: st) h o r) : AW Y n K pc lv st h o r :=
  fun v hv p l e s m args below meth c C H locs ls hP hD hS hT hl => lv_ldc C.1 C.2.1 C.2.2.2.1 (wd_use C.2.2.2.2.1 hw) hd (k v hv p l e s m args below meth c C H locs ls hP hD hS hT hl)
theorem aw_ldcw {j : Nat} {x : Int32} (hd : decode K.2.1 pc = .ok (.ldc_w j, 3)) (hw : Cond.constant K.1.cls j x ∈ lw_gd) (k : AW Y n K (pc + 3) lv (.int x :: st) h o r) : AW Y n K pc lv st h o r :=
  fun v hv p l e s m args below meth c C H locs ls hP hD hS hT hl => lv_ldcw C.1 C.2.1 C.2.2.2.1 (wd_use C.2.2.2.2.1 hw) hd (k v hv p l e s m args below meth c C H locs ls hP hD hS hT hl)
theorem aw_ldc2 {j : Nat} {x : Int64} (hd : decode K.2.1 pc = .ok (.ldc2_w j, 3)) (hw : Cond.constantLong K.1.cls j x ∈ lw_gd) (k : AW Y n K (pc + 3) lv (.long x :: st) h o r) : AW Y n K pc lv st h o r :=
  fun v hv p l e s m args below meth c C H locs ls hP hD hS hT hl => lv_ldc2 C.1 C.2.1 C.2.2.2.1 (wd_use C.2.2.2.2.1 hw) hd (k v hv p l e s m args below meth c C H locs ls hP hD hS hT hl)
theorem aw_if_ne {x : Int32} {off : Int} {tgt : Nat} (hd : decode K.2.1 pc = .ok (.ifCond .ne off, 3)) (ht : (pc : Int) + off = (tgt : Int)) (k1 : x = 0 → AW Y n K (pc + 3) lv st h o1 r) (k2 : ¬ (x = 0) → AW Y n K tgt lv st h o2 r) : AW Y n K pc lv (.int x :: st) h (if x = 0 then o1 else o2) r := by
  intro v hv p l e s m args below meth c C H locs ls hP hD hS hT hl
  refine lv_if_ne C.1 C.2.1 hd ht (fun hc => ?_) (fun hc => ?_)
  · rw [if_neg hc] at hv
    exact k2 hc v hv p l e s m args below meth c C H locs ls hP hD hS hT hl
  · rw [if_pos hc] at hv
    exact k1 hc v hv p l e s m args below meth c C H locs ls hP hD hS hT hl
theorem aw_icmp_ne {x y : Int32} {off : Int} {tgt : Nat} (hd : decode K.2.1 pc = .ok (.if_icmp .ne off, 3)) (ht : (pc : Int) + off = (tgt : Int)) (k1 : x = y → AW Y n K (pc + 3) lv st h o1 r) (k2 : ¬ (x = y) → AW Y n K tgt lv st h o2 r) : AW Y n K pc lv (.int y :: .int x :: st) h (if x = y then o1 else o2) r := by
  intro v hv p l e s m args below meth c C H locs ls hP hD hS hT hl
  refine lv_icmp_ne C.1 C.2.1 hd ht (fun hc => ?_) (fun hc => ?_)
  · rw [if_neg hc] at hv
    exact k2 hc v hv p l e s m args below meth c C H locs ls hP hD hS hT hl
  · rw [if_pos hc] at hv
    exact k1 hc v hv p l e s m args below meth c C H locs ls hP hD hS hT hl
theorem aw_if_eq {x : Int32} {off : Int} {tgt : Nat} (hd : decode K.2.1 pc = .ok (.ifCond .eq off, 3)) (ht : (pc : Int) + off = (tgt : Int)) (k1 : x = 0 → AW Y n K tgt lv st h o1 r) (k2 : ¬ (x = 0) → AW Y n K (pc + 3) lv st h o2 r) : AW Y n K pc lv (.int x :: st) h (if x = 0 then o1 else o2) r := by
  intro v hv p l e s m args below meth c C H locs ls hP hD hS hT hl
  refine lv_if_eq C.1 C.2.1 hd ht (fun hc => ?_) (fun hc => ?_)
  · rw [if_pos hc] at hv
    exact k1 hc v hv p l e s m args below meth c C H locs ls hP hD hS hT hl
  · rw [if_neg hc] at hv
    exact k2 hc v hv p l e s m args below meth c C H locs ls hP hD hS hT hl
theorem aw_icmp_eq {x y : Int32} {off : Int} {tgt : Nat} (hd : decode K.2.1 pc = .ok (.if_icmp .eq off, 3)) (ht : (pc : Int) + off = (tgt : Int)) (k1 : x = y → AW Y n K tgt lv st h o1 r) (k2 : ¬ (x = y) → AW Y n K (pc + 3) lv st h o2 r) : AW Y n K pc lv (.int y :: .int x :: st) h (if x = y then o1 else o2) r := by
  intro v hv p l e s m args below meth c C H locs ls hP hD hS hT hl
  refine lv_icmp_eq C.1 C.2.1 hd ht (fun hc => ?_) (fun hc => ?_)
  · rw [if_pos hc] at hv
    exact k1 hc v hv p l e s m args below meth c C H locs ls hP hD hS hT hl
  · rw [if_neg hc] at hv
    exact k2 hc v hv p l e s m args below meth c C H locs ls hP hD hS hT hl
theorem aw_if_lt {x : Int32} {off : Int} {tgt : Nat} (hd : decode K.2.1 pc = .ok (.ifCond .lt off, 3)) (ht : (pc : Int) + off = (tgt : Int)) (k1 : x < 0 → AW Y n K tgt lv st h o1 r) (k2 : ¬ (x < 0) → AW Y n K (pc + 3) lv st h o2 r) : AW Y n K pc lv (.int x :: st) h (if x < 0 then o1 else o2) r := by
  intro v hv p l e s m args below meth c C H locs ls hP hD hS hT hl
  refine lv_if_lt C.1 C.2.1 hd ht (fun hc => ?_) (fun hc => ?_)
  · rw [if_pos hc] at hv
    exact k1 hc v hv p l e s m args below meth c C H locs ls hP hD hS hT hl
  · rw [if_neg hc] at hv
    exact k2 hc v hv p l e s m args below meth c C H locs ls hP hD hS hT hl
theorem aw_icmp_lt {x y : Int32} {off : Int} {tgt : Nat} (hd : decode K.2.1 pc = .ok (.if_icmp .lt off, 3)) (ht : (pc : Int) + off = (tgt : Int)) (k1 : x < y → AW Y n K tgt lv st h o1 r) (k2 : ¬ (x < y) → AW Y n K (pc + 3) lv st h o2 r) : AW Y n K pc lv (.int y :: .int x :: st) h (if x < y then o1 else o2) r := by
  intro v hv p l e s m args below meth c C H locs ls hP hD hS hT hl
  refine lv_icmp_lt C.1 C.2.1 hd ht (fun hc => ?_) (fun hc => ?_)
  · rw [if_pos hc] at hv
    exact k1 hc v hv p l e s m args below meth c C H locs ls hP hD hS hT hl
  · rw [if_neg hc] at hv
    exact k2 hc v hv p l e s m args below meth c C H locs ls hP hD hS hT hl
theorem aw_if_ge {x : Int32} {off : Int} {tgt : Nat} (hd : decode K.2.1 pc = .ok (.ifCond .ge off, 3)) (ht : (pc : Int) + off = (tgt : Int)) (k1 : 0 ≤ x → AW Y n K tgt lv st h o1 r) (k2 : ¬ (0 ≤ x) → AW Y n K (pc + 3) lv st h o2 r) : AW Y n K pc lv (.int x :: st) h (if 0 ≤ x then o1 else o2) r := by
  intro v hv p l e s m args below meth c C H locs ls hP hD hS hT hl
  refine lv_if_ge C.1 C.2.1 hd ht (fun hc => ?_) (fun hc => ?_)
  · rw [if_pos hc] at hv
    exact k1 hc v hv p l e s m args below meth c C H locs ls hP hD hS hT hl
  · rw [if_neg hc] at hv
    exact k2 hc v hv p l e s m args below meth c C H locs ls hP hD hS hT hl
theorem aw_icmp_ge {x y : Int32} {off : Int} {tgt : Nat} (hd : decode K.2.1 pc = .ok (.if_icmp .ge off, 3)) (ht : (pc : Int) + off = (tgt : Int)) (k1 : y ≤ x → AW Y n K tgt lv st h o1 r) (k2 : ¬ (y ≤ x) → AW Y n K (pc + 3) lv st h o2 r) : AW Y n K pc lv (.int y :: .int x :: st) h (if y ≤ x then o1 else o2) r := by
  intro v hv p l e s m args below meth c C H locs ls hP hD hS hT hl
  refine lv_icmp_ge C.1 C.2.1 hd ht (fun hc => ?_) (fun hc => ?_)
  · rw [if_pos hc] at hv
    exact k1 hc v hv p l e s m args below meth c C H locs ls hP hD hS hT hl
  · rw [if_neg hc] at hv
    exact k2 hc v hv p l e s m args below meth c C H locs ls hP hD hS hT hl
theorem aw_if_gt {x : Int32} {off : Int} {tgt : Nat} (hd : decode K.2.1 pc = .ok (.ifCond .gt off, 3)) (ht : (pc : Int) + off = (tgt : Int)) (k1 : 0 < x → AW Y n K tgt lv st h o1 r) (k2 : ¬ (0 < x) → AW Y n K (pc + 3) lv st h o2 r) : AW Y n K pc lv (.int x :: st) h (if 0 < x then o1 else o2) r := by
  intro v hv p l e s m args below meth c C H locs ls hP hD hS hT hl
  refine lv_if_gt C.1 C.2.1 hd ht (fun hc => ?_) (fun hc => ?_)
  · rw [if_pos hc] at hv
    exact k1 hc v hv p l e s m args below meth c C H locs ls hP hD hS hT hl
  · rw [if_neg hc] at hv
    exact k2 hc v hv p l e s m args below meth c C H locs ls hP hD hS hT hl
theorem aw_icmp_gt {x y : Int32} {off : Int} {tgt : Nat} (hd : decode K.2.1 pc = .ok (.if_icmp .gt off, 3)) (ht : (pc : Int) + off = (tgt : Int)) (k1 : y < x → AW Y n K tgt lv st h o1 r) (k2 : ¬ (y < x) → AW Y n K (pc + 3) lv st h o2 r) : AW Y n K pc lv (.int y :: .int x :: st) h (if y < x then o1 else o2) r := by
  intro v hv p l e s m args below meth c C H locs ls hP hD hS hT hl
  refine lv_icmp_gt C.1 C.2.1 hd ht (fun hc => ?_) (fun hc => ?_)
  · rw [if_pos hc] at hv
    exact k1 hc v hv p l e s m args below meth c C H locs ls hP hD hS hT hl
  · rw [if_neg hc] at hv
    exact k2 hc v hv p l e s m args below meth c C H locs ls hP hD hS hT hl
theorem aw_if_le {x : Int32} {off : Int} {tgt : Nat} (hd : decode K.2.1 pc = .ok (.ifCond .le off, 3)) (ht : (pc : Int) + off = (tgt : Int)) (k1 : x ≤ 0 → AW Y n K tgt lv st h o1 r) (k2 : ¬ (x ≤ 0) → AW Y n K (pc + 3) lv st h o2 r) : AW Y n K pc lv (.int x :: st) h (if x ≤ 0 then o1 else o2) r := by
  intro v hv p l e s m args below meth c C H locs ls hP hD hS hT hl
  refine lv_if_le C.1 C.2.1 hd ht (fun hc => ?_) (fun hc => ?_)
  · rw [if_pos hc] at hv
    exact k1 hc v hv p l e s m args below meth c C H locs ls hP hD hS hT hl
  · rw [if_neg hc] at hv
    exact k2 hc v hv p l e s m args below meth c C H locs ls hP hD hS hT hl
theorem aw_icmp_le {x y : Int32} {off : Int} {tgt : Nat} (hd : decode K.2.1 pc = .ok (.if_icmp .le off, 3)) (ht : (pc : Int) + off = (tgt : Int)) (k1 : x ≤ y → AW Y n K tgt lv st h o1 r) (k2 : ¬ (x ≤ y) → AW Y n K (pc + 3) lv st h o2 r) : AW Y n K pc lv (.int y :: .int x :: st) h (if x ≤ y then o1 else o2) r := by
  intro v hv p l e s m args below meth c C H locs ls hP hD hS hT hl
  refine lv_icmp_le C.1 C.2.1 hd ht (fun hc => ?_) (fun hc => ?_)
  · rw [if_pos hc] at hv
    exact k1 hc v hv p l e s m args below meth c C H locs ls hP hD hS hT hl
  · rw [if_neg hc] at hv
    exact k2 hc v hv p l e s m args below meth c C H locs ls hP hD hS hT hl
def b2i (b : Bool) : Int32 := if b then 1 else 0
theorem b2i_ne (b : Bool) : (¬ b2i b = 0) ↔ b = true := by cases b <;> decide
theorem aw_beq {b : Bool} {off : Int} {tgt : Nat} (hd : decode K.2.1 pc = .ok (.ifCond .eq off, 3)) (ht : (pc : Int) + off = (tgt : Int)) (k1 : b = true → AW Y n K (pc + 3) lv st h o1 r) (k2 : ¬ b = true → AW Y n K tgt lv st h o2 r) : AW Y n K pc lv (.int (b2i b) :: st) h (if b = true then o1 else o2) r := by
  intro v hv p l e s m args below meth c C H locs ls hP hD hS hT hl
  cases b with
  | true => exact lv_if_eq C.1 C.2.1 hd ht (fun hc => absurd hc (by decide)) (fun hc => k1 rfl v hv p l e s m args below meth c C H locs ls hP hD hS hT hl)
  | false => exact lv_if_eq C.1 C.2.1 hd ht (fun hc => k2 (by decide) v hv p l e s m args below meth c C H locs ls hP hD hS hT hl) (fun hc => absurd (show b2i false = 0 by decide) hc)
theorem aw_bne {b : Bool} {off : Int} {tgt : Nat} (hd : decode K.2.1 pc = .ok (.ifCond .ne off, 3)) (ht : (pc : Int) + off = (tgt : Int)) (k1 : b = true → AW Y n K tgt lv st h o1 r) (k2 : ¬ b = true → AW Y n K (pc + 3) lv st h o2 r) : AW Y n K pc lv (.int (b2i b) :: st) h (if b = true then o1 else o2) r := by
  intro v hv p l e s m args below meth c C H locs ls hP hD hS hT hl
  cases b with
  | true => exact lv_if_ne C.1 C.2.1 hd ht (fun hc => k1 rfl v hv p l e s m args below meth c C H locs ls hP hD hS hT hl) (fun hc => absurd hc (show ¬ b2i true = 0 by decide))
  | false => exact lv_if_ne C.1 C.2.1 hd ht (fun hc => absurd (show b2i false = 0 by decide) hc) (fun hc => k2 (by decide) v hv p l e s m args below meth c C H locs ls hP hD hS hT hl)
theorem aw_lcmp_eq {x y : Int64} {off : Int} {tgt : Nat} (hd : decode K.2.1 pc = .ok (.lcmp, 1)) (hd2 : decode K.2.1 (pc + 1) = .ok (.ifCond .eq off, 3)) (ht : ((pc + 1 : Nat) : Int) + off = (tgt : Int)) (k1 : x = y → AW Y n K tgt lv st h o1 r) (k2 : ¬ (x = y) → AW Y n K (pc + 4) lv st h o2 r) : AW Y n K pc lv (.long y :: .long x :: st) h (if x = y then o1 else o2) r := by
  intro v hv p l e s m args below meth c C H locs ls hP hD hS hT hl
  refine W.lcmp C.1 C.2.1 hd ?_
  refine lv_if_eq C.1 C.2.1 hd2 ht (fun hc => ?_) (fun hc => ?_)
  · have hc := (lg_cmp_eq x y).mp hc
    rw [if_pos hc] at hv
    exact k1 hc v hv p l e s m args below meth c C H locs ls hP hD hS hT hl
  · have hc := (not_congr (lg_cmp_eq x y)).mp hc
    rw [if_neg hc] at hv
    exact k2 hc v hv p l e s m args below meth c C H locs ls hP hD hS hT hl
theorem aw_lcmp_lt {x y : Int64} {off : Int} {tgt : Nat} (hd : decode K.2.1 pc = .ok (.lcmp, 1)) (hd2 : decode K.2.1 (pc + 1) = .ok (.ifCond .lt off, 3)) (ht : ((pc + 1 : Nat) : Int) + off = (tgt : Int)) (k1 : x < y → AW Y n K tgt lv st h o1 r) (k2 : ¬ (x < y) → AW Y n K (pc + 4) lv st h o2 r) : AW Y n K pc lv (.long y :: .long x :: st) h (if x < y then o1 else o2) r := by
  intro v hv p l e s m args below meth c C H locs ls hP hD hS hT hl
  refine W.lcmp C.1 C.2.1 hd ?_
  refine lv_if_lt C.1 C.2.1 hd2 ht (fun hc => ?_) (fun hc => ?_)
  · have hc := (lg_cmp_lt x y).mp hc
    rw [if_pos hc] at hv
    exact k1 hc v hv p l e s m args below meth c C H locs ls hP hD hS hT hl
  · have hc := (not_congr (lg_cmp_lt x y)).mp hc
    rw [if_neg hc] at hv
    exact k2 hc v hv p l e s m args below meth c C H locs ls hP hD hS hT hl
theorem aw_lcmp_ge {x y : Int64} {off : Int} {tgt : Nat} (hd : decode K.2.1 pc = .ok (.lcmp, 1)) (hd2 : decode K.2.1 (pc + 1) = .ok (.ifCond .ge off, 3)) (ht : ((pc + 1 : Nat) : Int) + off = (tgt : Int)) (k1 : y ≤ x → AW Y n K tgt lv st h o1 r) (k2 : ¬ (y ≤ x) → AW Y n K (pc + 4) lv st h o2 r) : AW Y n K pc lv (.long y :: .long x :: st) h (if y ≤ x then o1 else o2) r := by
  intro v hv p l e s m args below meth c C H locs ls hP hD hS hT hl
  refine W.lcmp C.1 C.2.1 hd ?_
  refine lv_if_ge C.1 C.2.1 hd2 ht (fun hc => ?_) (fun hc => ?_)
  · have hc := (lg_cmp_ge x y).mp hc
    rw [if_pos hc] at hv
    exact k1 hc v hv p l e s m args below meth c C H locs ls hP hD hS hT hl
  · have hc := (not_congr (lg_cmp_ge x y)).mp hc
    rw [if_neg hc] at hv
    exact k2 hc v hv p l e s m args below meth c C H locs ls hP hD hS hT hl
theorem aw_lcmp_gt {x y : Int64} {off : Int} {tgt : Nat} (hd : decode K.2.1 pc = .ok (.lcmp, 1)) (hd2 : decode K.2.1 (pc + 1) = .ok (.ifCond .gt off, 3)) (ht : ((pc + 1 : Nat) : Int) + off = (tgt : Int)) (k1 : y < x → AW Y n K tgt lv st h o1 r) (k2 : ¬ (y < x) → AW Y n K (pc + 4) lv st h o2 r) : AW Y n K pc lv (.long y :: .long x :: st) h (if y < x then o1 else o2) r := by
  intro v hv p l e s m args below meth c C H locs ls hP hD hS hT hl
  refine W.lcmp C.1 C.2.1 hd ?_
  refine lv_if_gt C.1 C.2.1 hd2 ht (fun hc => ?_) (fun hc => ?_)
  · have hc := (lg_cmp_gt x y).mp hc
    rw [if_pos hc] at hv
    exact k1 hc v hv p l e s m args below meth c C H locs ls hP hD hS hT hl
  · have hc := (not_congr (lg_cmp_gt x y)).mp hc
    rw [if_neg hc] at hv
    exact k2 hc v hv p l e s m args below meth c C H locs ls hP hD hS hT hl
theorem aw_lcmp_le {x y : Int64} {off : Int} {tgt : Nat} (hd : decode K.2.1 pc = .ok (.lcmp, 1)) (hd2 : decode K.2.1 (pc + 1) = .ok (.ifCond .le off, 3)) (ht : ((pc + 1 : Nat) : Int) + off = (tgt : Int)) (k1 : x ≤ y → AW Y n K tgt lv st h o1 r) (k2 : ¬ (x ≤ y) → AW Y n K (pc + 4) lv st h o2 r) : AW Y n K pc lv (.long y :: .long x :: st) h (if x ≤ y then o1 else o2) r := by
  intro v hv p l e s m args below meth c C H locs ls hP hD hS hT hl
  refine W.lcmp C.1 C.2.1 hd ?_
  refine lv_if_le C.1 C.2.1 hd2 ht (fun hc => ?_) (fun hc => ?_)
  · have hc := (lg_cmp_le x y).mp hc
    rw [if_pos hc] at hv
    exact k1 hc v hv p l e s m args below meth c C H locs ls hP hD hS hT hl
  · have hc := (not_congr (lg_cmp_le x y)).mp hc
    rw [if_neg hc] at hv
    exact k2 hc v hv p l e s m args below meth c C H locs ls hP hD hS hT hl
theorem aw_lcmp_ne {x y : Int64} {off : Int} {tgt : Nat} (hd : decode K.2.1 pc = .ok (.lcmp, 1)) (hd2 : decode K.2.1 (pc + 1) = .ok (.ifCond .ne off, 3)) (ht : ((pc + 1 : Nat) : Int) + off = (tgt : Int)) (k1 : x = y → AW Y n K (pc + 4) lv st h o1 r) (k2 : ¬ (x = y) → AW Y n K tgt lv st h o2 r) : AW Y n K pc lv (.long y :: .long x :: st) h (if x = y then o1 else o2) r := by
  intro v hv p l e s m args below meth c C H locs ls hP hD hS hT hl
  refine W.lcmp C.1 C.2.1 hd ?_
  refine lv_if_ne C.1 C.2.1 hd2 ht (fun hc => ?_) (fun hc => ?_)
  · have hc := (not_congr (lg_cmp_eq x y)).mp hc
    rw [if_neg hc] at hv
    exact k2 hc v hv p l e s m args below meth c C H locs ls hP hD hS hT hl
  · have hc := (lg_cmp_eq x y).mp hc
    rw [if_pos hc] at hv
    exact k1 hc v hv p l e s m args below meth c C H locs ls hP hD hS hT hl
theorem aw_goto {off : Int} {tgt : Nat} (hd : decode K.2.1 pc = .ok (.goto off, 3)) (ht : (pc : Int) + off = (tgt : Int)) (k : AW Y n K tgt lv st h o r) : AW Y n K pc lv st h o r :=
  fun v hv p l e s m args below meth c C H locs ls hP hD hS hT hl => lv_goto C.1 C.2.1 hd ht (k v hv p l e s m args below meth c C H locs ls hP hD hS hT hl)
theorem aw_tbl {x : Int32} {d lo hi : Int} {offs : Array Int} {len tgt : Nat} {off : Int} (hd : decode K.2.1 pc = .ok (.tableswitch d lo hi offs, len)) (hlo : ¬ x.toInt < lo) (hhi : ¬ hi < x.toInt) (hoff : offs[(x.toInt - lo).toNat]? = some off) (ht : (pc : Int) + off = (tgt : Int)) (k : AW Y n K tgt lv st h o r) : AW Y n K pc lv (.int x :: st) h o r :=
  fun v hv p l e s m args below meth c C H locs ls hP hD hS hT hl => lv_tableIn C.1 C.2.1 hd hlo hhi hoff ht (k v hv p l e s m args below meth c C H locs ls hP hD hS hT hl)
theorem aw_tblD {x : Int32} {d lo hi : Int} {offs : Array Int} {len tgt : Nat} (hd : decode K.2.1 pc = .ok (.tableswitch d lo hi offs, len)) (ho : x.toInt < lo ∨ hi < x.toInt) (ht : (pc : Int) + d = (tgt : Int)) (k : AW Y n K tgt lv st h o r) : AW Y n K pc lv (.int x :: st) h o r :=
  fun v hv p l e s m args below meth c C H locs ls hP hD hS hT hl => lv_tableOut C.1 C.2.1 hd ho ht (k v hv p l e s m args below meth c C H locs ls hP hD hS hT hl)
theorem aw_lks {x : Int32} {d : Int} {ps : Array (Int × Int)} {len tgt : Nat} {off : Int} (hd : decode K.2.1 pc = .ok (.lookupswitch d ps, len)) (hp : (ps.toList.zip (ps.toList.drop 1)).all (fun (a, next) => a.1 < next.1) = true) (hoff : Op.lookupswitch.offset ps.toList d x.toInt = off) (ht : (pc : Int) + off = (tgt : Int)) (k : AW Y n K tgt lv st h o r) : AW Y n K pc lv (.int x :: st) h o r :=
  fun v hv p l e s m args below meth c C H locs ls hP hD hS hT hl => lv_lookup C.1 C.2.1 hd hp hoff ht (k v hv p l e s m args below meth c C H locs ls hP hD hS hT hl)
end AWR
