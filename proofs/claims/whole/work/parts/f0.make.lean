/-! ===== making objects: a row of cells at a, a + 1, .., told by a table of numbers ===== -/
abbrev Sp : Type := Nat × Nat × List Int
abbrev Gm : Type := va_G × (Nat → ClassId)
def fvS (b : Nat) : Nat → Int → Value
  | 0, v => .int (Int32.ofInt v)
  | 1, v => .long (Int64.ofInt v)
  | _, v => if v < 0 then .null else .ref (b + v.toNat)
def rfS (b : Nat) (v : Int) : Option Nat := if v < 0 then none else some (b + v.toNat)
def cE (G : Gm) (b : Nat) (s : Sp) : va_E :=
  if s.1 = 20 then .inl (G.2 0, s.2.1, .inl (fun i => Int32.ofInt (s.2.2.getD i 0)))
  else if s.1 = 21 then .inl (G.2 1, s.2.1, .inl (fun i => Int32.ofInt (s.2.2.getD i 0)))
  else if s.1 = 22 then .inl (G.2 2, s.2.1, .inr (.inl (fun i => Int64.ofInt (s.2.2.getD i 0))))
  else if s.1 = 23 then .inl (G.2 3, s.2.1, .inr (.inr (.inr (.inr (fun i => rfS b (s.2.2.getD i (-1)))))))
  else if s.1 = 24 then .inl (G.2 4, s.2.1, .inr (.inr (.inr (.inr (fun i => rfS b (s.2.2.getD i (-1)))))))
  else .inr (s.1, List.zipWith (fvS b) (ftab s.1) s.2.2)
def zw (G : Gm) (b : Nat) : Nat → List Sp → va_W
  | _, [] => []
  | a, s :: l => (a, cE G b s) :: zw G b (a + 1) l
theorem zw_get (G : Gm) (b : Nat) : ∀ (l : List Sp) (a k : Nat), (zw G b a l)[k]? = l[k]?.map (fun s => (a + k, cE G b s))
  | [], a, k => by simp [zw]
  | s :: l, a, 0 => by simp [zw]
  | s :: l, a, k + 1 => by
    show (zw G b (a + 1) l)[k]? = _
    rw [zw_get G b l (a + 1) k, List.getElem?_cons_succ, Nat.add_assoc, Nat.add_comm 1 k]
theorem zw_len (G : Gm) (b : Nat) : ∀ (l : List Sp) (a : Nat), (zw G b a l).length = l.length
  | [], _ => rfl
  | s :: l, a => by
    show (zw G b (a + 1) l).length + 1 = l.length + 1
    rw [zw_len G b l (a + 1)]
theorem zw_set (G : Gm) (b : Nat) (s : Sp) : ∀ (l : List Sp) (a k : Nat), (zw G b a l).set k (a + k, cE G b s) = zw G b a (l.set k s)
  | [], a, k => by simp [zw]
  | t :: l, a, 0 => by simp [zw]
  | t :: l, a, k + 1 => by
    show (a, cE G b t) :: (zw G b (a + 1) l).set k (a + (k + 1), cE G b s) = (a, cE G b t) :: zw G b (a + 1) (l.set k s)
    rw [← zw_set G b s l (a + 1) k, Nat.add_assoc, Nat.add_comm 1 k]
theorem zw_app (G : Gm) (b : Nat) (l' : List Sp) : ∀ (l : List Sp) (a : Nat), zw G b a (l ++ l') = zw G b a l ++ zw G b (a + l.length) l'
  | [], a => rfl
  | s :: l, a => by
    show (a, cE G b s) :: zw G b (a + 1) (l ++ l') = (a, cE G b s) :: (zw G b (a + 1) l ++ zw G b (a + (l.length + 1)) l')
    rw [zw_app G b l' l (a + 1), Nat.add_assoc a 1, Nat.add_comm 1 l.length]
theorem zw_in {G : Gm} {b : Nat} {l : List Sp} {a k : Nat} {q : Nat × va_E} (h : (zw G b a l)[k]? = some q) : ∃ s, l[k]? = some s ∧ q = (a + k, cE G b s) := by
  rw [zw_get] at h
  cases hs : l[k]? with
  | none => rw [hs] at h; cases h
  | some s => rw [hs] at h; exact ⟨s, rfl, (Option.some.inj h).symm⟩
theorem zw_D (G : Gm) (b : Nat) (l : List Sp) (a : Nat) : va_D (fun q => a ≤ q) (zw G b a l) := by
  refine ⟨fun i j p q hi hj e => ?_, fun k q hk => ?_⟩
  · obtain ⟨s, -, rfl⟩ := zw_in hi
    obtain ⟨t, -, rfl⟩ := zw_in hj
    have e : a + i = a + j := e
    omega
  · obtain ⟨s, -, rfl⟩ := zw_in hk
    exact Nat.le_add_right a k
/-- references a number of cells further on -/
def shT (k : Nat) (t : Nat) (v : Int) : Int := if 2 ≤ t ∧ 0 ≤ v then v + k else v
def sh (k : Nat) (s : Sp) : Sp := (s.1, s.2.1, if s.1 = 23 ∨ s.1 = 24 then s.2.2.map (shT k 2) else if s.1 = 20 ∨ s.1 = 21 ∨ s.1 = 22 then s.2.2 else List.zipWith (shT k) (ftab s.1) s.2.2)
theorem shT_neg (k t : Nat) {v : Int} (h : v < 0) : shT k t v = v := by
  unfold shT
  rw [if_neg (by omega)]
theorem shT_pos (k : Nat) {t : Nat} {v : Int} (ht : 2 ≤ t) (h : ¬ v < 0) : shT k t v = v + k := by
  unfold shT
  rw [if_pos ⟨ht, by omega⟩]
theorem fvS_sh (b k : Nat) (v : Int) : ∀ t, fvS (b + k) t v = fvS b t (shT k t v)
  | 0 => rfl
  | 1 => rfl
  | t + 2 => by
    show (if v < 0 then Value.null else Value.ref (b + k + v.toNat)) = (if shT k (t + 2) v < 0 then Value.null else Value.ref (b + (shT k (t + 2) v).toNat))
    by_cases h : v < 0
    · rw [shT_neg k _ h, if_pos h, if_pos h]
    · rw [shT_pos k (by omega) h, if_neg h, if_neg (by omega), show b + k + v.toNat = b + (v + (k : Int)).toNat by omega]
theorem rfS_sh (b k : Nat) (v : Int) : rfS (b + k) v = rfS b (shT k 2 v) := by
  unfold rfS
  by_cases h : v < 0
  · rw [shT_neg k _ h, if_pos h, if_pos h]
  · rw [shT_pos k (Nat.le_refl 2) h, if_neg h, if_neg (by omega), show b + k + v.toNat = b + (v + (k : Int)).toNat by omega]
theorem zip_sh (b k : Nat) : ∀ (T : List Nat) (vs : List Int), List.zipWith (fvS (b + k)) T vs = List.zipWith (fvS b) T (List.zipWith (shT k) T vs)
  | [], _ => rfl
  | _ :: _, [] => rfl
  | t :: T, v :: vs => by
    show fvS (b + k) t v :: List.zipWith (fvS (b + k)) T vs = fvS b t (shT k t v) :: List.zipWith (fvS b) T (List.zipWith (shT k) T vs)
    rw [fvS_sh, zip_sh b k T vs]
theorem getD_sh (k i : Nat) (vs : List Int) : (vs.map (shT k 2)).getD i (-1) = shT k 2 (vs.getD i (-1)) := by
  rw [List.getD_eq_getElem?_getD, List.getD_eq_getElem?_getD, List.getElem?_map]
  cases vs[i]? <;> rfl
theorem cE_sh (G : Gm) (b k : Nat) (s : Sp) : cE G (b + k) s = cE G b (sh k s) := by
  obtain ⟨c, n, vs⟩ := s
  by_cases h20 : c = 20
  · subst h20; rfl
  by_cases h21 : c = 21
  · subst h21; rfl
  by_cases h22 : c = 22
  · subst h22; rfl
  by_cases h23 : c = 23
  · subst h23
    have e : (fun i => rfS (b + k) (vs.getD i (-1))) = (fun i => rfS b ((vs.map (shT k 2)).getD i (-1))) := funext fun i => by rw [getD_sh, rfS_sh]
    show (Sum.inl (G.2 3, n, .inr (.inr (.inr (.inr (fun i => rfS (b + k) (vs.getD i (-1))))))) : va_E) = Sum.inl (G.2 3, n, .inr (.inr (.inr (.inr (fun i => rfS b ((vs.map (shT k 2)).getD i (-1)))))))
    rw [e]
  by_cases h24 : c = 24
  · subst h24
    have e : (fun i => rfS (b + k) (vs.getD i (-1))) = (fun i => rfS b ((vs.map (shT k 2)).getD i (-1))) := funext fun i => by rw [getD_sh, rfS_sh]
    show (Sum.inl (G.2 4, n, .inr (.inr (.inr (.inr (fun i => rfS (b + k) (vs.getD i (-1))))))) : va_E) = Sum.inl (G.2 4, n, .inr (.inr (.inr (.inr (fun i => rfS b ((vs.map (shT k 2)).getD i (-1)))))))
    rw [e]
  · unfold cE sh
    dsimp only
    rw [if_neg h20, if_neg h21, if_neg h22, if_neg h23, if_neg h24, if_neg h20, if_neg h21, if_neg h22, if_neg h23, if_neg h24, if_neg (by omega), if_neg (by omega), zip_sh]
theorem zw_sh (G : Gm) (b k : Nat) : ∀ (l : List Sp) (a : Nat), zw G (b + k) a l = zw G b a (l.map (sh k))
  | [], _ => rfl
  | s :: l, a => by
    show (a, cE G (b + k) s) :: zw G (b + k) (a + 1) l = (a, cE G b (sh k s)) :: zw G b (a + 1) (l.map (sh k))
    rw [cE_sh, zw_sh G b k l (a + 1)]
theorem cE_obj (G : Gm) (b : Nat) {s : Sp} (h : s.1 < 20) : cE G b s = .inr (s.1, List.zipWith (fvS b) (ftab s.1) s.2.2) := by
  unfold cE
  rw [if_neg (by omega), if_neg (by omega), if_neg (by omega), if_neg (by omega), if_neg (by omega)]
theorem zip_set (b : Nat) : ∀ (T : List Nat) (vs : List Int) (k t : Nat) (v : Int), T[k]? = some t → (List.zipWith (fvS b) T vs).set k (fvS b t v) = List.zipWith (fvS b) T (vs.set k v)
  | [], vs, k, t, v, h => by simp at h
  | t0 :: T, [], k, t, v, h => by simp
  | t0 :: T, w :: vs, 0, t, v, h => by
    simp at h
    subst h
    rfl
  | t0 :: T, w :: vs, k + 1, t, v, h => by
    show fvS b t0 w :: (List.zipWith (fvS b) T vs).set k (fvS b t v) = fvS b t0 w :: List.zipWith (fvS b) T (vs.set k v)
    rw [zip_set b T vs k t v (by simpa using h)]
theorem zip_get (b : Nat) : ∀ (T : List Nat) (vs : List Int) (k t : Nat) (v : Int), T[k]? = some t → vs[k]? = some v → (List.zipWith (fvS b) T vs)[k]? = some (fvS b t v)
  | [], vs, k, t, v, h, _ => by simp at h
  | t0 :: T, [], k, t, v, _, h => by simp at h
  | t0 :: T, w :: vs, 0, t, v, h, h2 => by
    simp at h h2
    subst h
    subst h2
    rfl
  | t0 :: T, w :: vs, k + 1, t, v, h, h2 => by
    show (List.zipWith (fvS b) T vs)[k]? = _
    exact zip_get b T vs k t v (by simpa using h) (by simpa using h2)
theorem zip_len (b : Nat) (T : List Nat) (vs : List Int) (h : vs.length = T.length) : (List.zipWith (fvS b) T vs).length = T.length := by
  rw [List.length_zipWith, h, Nat.min_self]
/-- a new object's fields -/
def dfV (T : List Nat) : List Int := T.map (fun t => if 2 ≤ t then -1 else 0)
def dfE (T : List Nat) : List Value := T.map (fun t => if 2 ≤ t then .null else if t = 1 then .long 0 else .int 0)
theorem zip_df (b : Nat) : ∀ T : List Nat, List.zipWith (fvS b) T (dfV T) = dfE T
  | [] => rfl
  | 0 :: T => by
    show Value.int (Int32.ofInt 0) :: List.zipWith (fvS b) T (dfV T) = Value.int 0 :: dfE T
    rw [zip_df b T]
    rfl
  | 1 :: T => by
    show Value.long (Int64.ofInt 0) :: List.zipWith (fvS b) T (dfV T) = Value.long 0 :: dfE T
    rw [zip_df b T]
    rfl
  | (t + 2) :: T => by
    show fvS b (t + 2) (if 2 ≤ t + 2 then -1 else 0) :: List.zipWith (fvS b) T (dfV T) = (if 2 ≤ t + 2 then Value.null else if t + 2 = 1 then .long 0 else .int 0) :: dfE T
    rw [zip_df b T, if_pos (by omega), if_pos (by omega)]
    rfl
def dO (ci : Nat) : Sp := (ci, 0, dfV (ftab ci))
theorem cE_dO (G : Gm) (b : Nat) {ci : Nat} (h : ci < 20) : cE G b (dO ci) = .inr (ci, dfE (ftab ci)) := by
  rw [cE_obj G b (s := dO ci) h]
  show (Sum.inr (ci, List.zipWith (fvS b) (ftab ci) (dfV (ftab ci))) : va_E) = _
  rw [zip_df]
/-! ===== contracts of constructors ===== -/
def Y0 (G : Gm) : Ly := ([], fun _ => 0, fun _ => 0, G.1, G.2)
def KG (G : Gm) (U : State) : Prop := KK (Y0 G) U ∧ va_AO RX4 U ∧ va_AO RX8 U
theorem KG.warm {G : Gm} {s U : State} (hW : s.WarmedH U.vm) (h : KG G s) : KG G U := ⟨KK.warm hW h.1, va_AO.moved hW.alike h.2.1, va_AO.moved hW.alike h.2.2⟩
theorem KG.same {G : Gm} {s U : State} (e : s.vm = U.vm) (h : KG G s) : KG G U := ⟨KK.same e h.1, va_AO.moved (by rw [e]; exact Vm.Alike.refl U.vm) h.2.1, va_AO.moved (by rw [e]; exact Vm.Alike.refl U.vm) h.2.2⟩
def rmC (n mc ms : Nat) : Room := { frames := n, cells := mc, slots := ms, locals := 120 * n }
def CP (G : Gm) (a : Nat) (As : List Value) (sp : List Sp) (X : State → Prop) : Array Value → State → Prop := va_Pc (.ref a :: As) (fun U => U.heap.size = a + sp.length ∧ va_P G.1 cls_ (zw G a a sp) U.heap ∧ KG G U ∧ X U)
def CQp (G : Gm) (a : Nat) (sp : List Sp) : Array Value → State → Outcome → State → Prop := fun _ st oc t => oc = .returned none ∧ va_P G.1 cls_ (zw G a a sp) t.heap ∧ KG G t ∧ va_F (fun q => a ≤ q) st t
def CM (G : Gm) (n mc ms : Nat) (K : Mk) (a : Nat) (As : List Value) (sp sp' : List Sp) (X : State → Prop) : Prop := ∀ l : Launch, Met l K.1 (wsK K) (rmC n mc ms) (CP G a As sp X) (CQp G a sp') mc ms (fun q => a ≤ q)
def CxG (G : Gm) (K : Mk) (p : Program) (s : State) (m : MethodId) (args : Array Value) (meth : Method) (c : Code) : Prop :=
  p.tables.exec = Jvm.exec ∧ c.code = K.2.1 ∧ c.maxLocals = K.2.2.1 ∧ s.vm.findClass K.1.cls = some m.cls ∧ (∀ w ∈ wsK K, w.before args s = true) ∧ meth.sig.returnType = K.2.2.2 ∧ meth.locks = false ∧ KG G s ∧ meth.name = K.1.name
/-- the walk of a constructor: sp' is what it comes to -/
def CW (G : Gm) (n : Nat) (K : Mk) (a mc ms : Nat) (Qc : Array Value → State → Outcome → State → Prop) (X : State → Prop) (pc : Nat) (lv : List (Nat × Value)) (st : List Value) (sp : List Sp) (cells slots : Nat) : Prop :=
  ∀ (p : Program) (l : Launch) (e : Env) (s : State) (m : MethodId) (args : Array Value) (below : List Frame) (meth : Method) (c : Code), CxG G K p s m args meth c → s.heap.size = a + 1 → X s →
    ∀ (H : Heap) (locs : List Loc) (ls : Array Slot), va_P G.1 cls_ (zw G a a sp) H → va_S (fun q => a ≤ q) s.heap H locs → lv_has ls K.2.2.1 lv →
      W p l e (rmC n mc ms) s m args below meth c H locs cells slots (MQ below Qc args s mc ms (fun q => a ≤ q)) (F0 m pc ls st)
theorem W_size {p : Program} {l : Launch} {e : Env} {R : Room} {s : State} {m : MethodId} {args : Array Value} {below : List Frame} {meth : Method} {c : Code} {H : Heap} {locs : List Loc} {cells slots : Nat} {Q : State → Prop} {g : JFrame} (k : H.size ≤ s.heap.size + cells → W p l e R s m args below meth c H locs cells slots Q g) : W p l e R s m args below meth c H locs cells slots Q g :=
  fun T hT X => k (by rw [← hT]; exact X.heapSize) T hT X
theorem zw_lt {G : Gm} {b a : Nat} {l : List Sp} {H : Heap} (hP : va_P G.1 cls_ (zw G b a l) H) (h : 0 < l.length) : a + l.length ≤ H.size := by
  have h1 : l[l.length - 1]? = some (l[l.length - 1]'(by omega)) := List.getElem?_eq_getElem (by omega)
  have := (hP (l.length - 1) (a + (l.length - 1), cE G b (l[l.length - 1]'(by omega))) (by rw [zw_get, h1]; rfl)).lt
  have this : a + (l.length - 1) < H.size := this
  omega
/-- the new cell lies behind the others -/
theorem zw_push {G : Gm} {b a q : Nat} {l : List Sp} {e : va_E} {H : Heap} (hP : va_P G.1 cls_ (zw G b a l ++ [(q, e)]) H) (hD : va_D (fun q => a ≤ q) (zw G b a l ++ [(q, e)])) (hz : H.size ≤ a + l.length + 1) : q = a + l.length := by
  have hq : (zw G b a l ++ [(q, e)])[l.length]? = some (q, e) := by
    rw [List.getElem?_append_right (by rw [zw_len]; exact Nat.le_refl _), zw_len, Nat.sub_self]
    rfl
  have h1 : a ≤ q := hD.2 _ _ hq
  have h2 : q < H.size := (hP _ _ hq).lt
  by_cases h3 : q = a + l.length
  · exact h3
  · have hk : q - a < l.length := by omega
    have h4 : (zw G b a l ++ [(q, e)])[q - a]? = some (a + (q - a), cE G b (l[q - a]'hk)) := by
      rw [List.getElem?_append_left (by rw [zw_len]; exact hk), zw_get, List.getElem?_eq_getElem hk]
      rfl
    have := hD.1 _ _ _ _ h4 hq (show a + (q - a) = q by omega)
    omega
theorem zw_snoc (G : Gm) (b a : Nat) (l : List Sp) (s : Sp) : zw G b a (l ++ [s]) = zw G b a l ++ [(a + l.length, cE G b s)] := zw_app G b [s] l a
theorem CM.of {G : Gm} {n mc ms : Nat} {K : Mk} {a : Nat} {As : List Value} {s0 : Sp} {sp' : List Sp} {X : State → Prop} (hy : plainName K.1.cls = true) (hn : (lg_sl (.ref a :: As)).length ≤ K.2.2.1) (k : CW G n K a mc ms (CQp G a sp') X 0 (lv_args 0 (.ref a :: As)) [] [s0] 0 0) : CM G n mc ms K a As [s0] sp' X := by
  intro l
  refine Met.ofW (cc := K.2.1) (maxL := K.2.2.1) (ret := K.2.2.2) hy rfl ?_
  intro p e s m args below meth c s₁ B hml hv
  obtain ⟨rfl, hz, hP, hK, hX⟩ := hv
  have hts := atoms_spec (ws := wsK K) B.pre
  have hown : s.vm.findClass K.1.cls = some m.cls := findClass_of_methodNamed B.named
  have hl := lv_entry (.ref a :: As) (n := K.2.2.1) hn
  rw [lg_entry_eq]
  exact k p l e s m _ below meth c ⟨B.exec, B.bytes, hml, hown, hts, B.returns, B.notSynchronized, hK, (name_of_methodNamed B.named B.method).1⟩ hz hX _ _ _ hP va_S.rf hl
section CWR
variable {G : Gm} {n : Nat} {K : Mk} {a mc ms : Nat} {Qc : Array Value → State → Outcome → State → Prop} {X : State → Prop} {pc : Nat} {lv lv' : List (Nat × Value)} {st : List Value} {sp sp1 : List Sp} {cells slots : Nat}
theorem cw_iconst {j : Int} {x : Int32} (hd : decode K.2.1 pc = .ok (.iconst j, 1)) (hx : Int32.ofInt j = x) (k : CW G n K a mc ms Qc X (pc + 1) lv (.int x :: st) sp cells slots) : CW G n K a mc ms Qc X pc lv st sp cells slots :=
  fun p l e s m args below meth c C hz hX H locs ls hP hS hl => lv_iconst C.1 C.2.1 hd hx (k p l e s m args below meth c C hz hX H locs ls hP hS hl)
theorem cw_bipush {j : Int} {x : Int32} (hd : decode K.2.1 pc = .ok (.bipush j, 2)) (hx : (Int8.ofInt j).toInt32 = x) (k : CW G n K a mc ms Qc X (pc + 2) lv (.int x :: st) sp cells slots) : CW G n K a mc ms Qc X pc lv st sp cells slots :=
  fun p l e s m args below meth c C hz hX H locs ls hP hS hl => lv_bipush C.1 C.2.1 hd hx (k p l e s m args below meth c C hz hX H locs ls hP hS hl)
theorem cw_sipush {j : Int} {x : Int32} (hd : decode K.2.1 pc = .ok (.sipush j, 3)) (hx : (Int16.ofInt j).toInt32 = x) (k : CW G n K a mc ms Qc X (pc + 3) lv (.int x :: st) sp cells slots) : CW G n K a mc ms Qc X pc lv st sp cells slots :=
  fun p l e s m args below meth c C hz hX H locs ls hP hS hl => lv_sipush C.1 C.2.1 hd hx (k p l e s m args below meth c C hz hX H locs ls hP hS hl)
theorem cw_lconst {j : Fin 2} {x : Int64} (hd : decode K.2.1 pc = .ok (.lconst j, 1)) (hx : Int64.ofNat (j : Nat) = x) (k : CW G n K a mc ms Qc X (pc + 1) lv (.long x :: st) sp cells slots) : CW G n K a mc ms Qc X pc lv st sp cells slots :=
  fun p l e s m args below meth c C hz hX H locs ls hP hS hl => lv_lconst C.1 C.2.1 hd hx (k p l e s m args below meth c C hz hX H locs ls hP hS hl)
theorem cw_aload_n {j : Fin 4} {i : Nat} {x : Nat} (hd : decode K.2.1 pc = .ok (.aload_n j, 1)) (hi : (j : Nat) = i) (q : Nat) (hq : lv[q]? = some (i, .ref x)) (k : CW G n K a mc ms Qc X (pc + 1) lv (.ref x :: st) sp cells slots) : CW G n K a mc ms Qc X pc lv st sp cells slots :=
  fun p l e s m args below meth c C hz hX H locs ls hP hS hl => lv_aload_n C.1 C.2.1 hd hi (lv_at hl q hq) (k p l e s m args below meth c C hz hX H locs ls hP hS hl)
theorem cw_iload_n {j : Fin 4} {i : Nat} {x : Int32} (hd : decode K.2.1 pc = .ok (.iload_n j, 1)) (hi : (j : Nat) = i) (q : Nat) (hq : lv[q]? = some (i, .int x)) (k : CW G n K a mc ms Qc X (pc + 1) lv (.int x :: st) sp cells slots) : CW G n K a mc ms Qc X pc lv st sp cells slots :=
  fun p l e s m args below meth c C hz hX H locs ls hP hS hl => lv_iload_n C.1 C.2.1 hd hi (lv_at hl q hq) (k p l e s m args below meth c C hz hX H locs ls hP hS hl)
theorem cw_istore_n {j : Fin 4} {i : Nat} {x : Int32} (hd : decode K.2.1 pc = .ok (.istore_n j, 1)) (hi : (j : Nat) = i) (hn : i < K.2.2.1) (hl2 : (i, Value.int x) :: lv.filter (fun q => !(q.1 == i) && !(q.1 + 1 == i && q.2.category == 2)) = lv') (k : CW G n K a mc ms Qc X (pc + 1) lv' st sp cells slots) : CW G n K a mc ms Qc X pc lv (.int x :: st) sp cells slots :=
  fun p l e s m args below meth c C hz hX H locs ls hP hS hl => lv_istore_n C.1 C.2.1 hd hi hl hn hl2 (fun ls hl => k p l e s m args below meth c C hz hX H locs ls hP hS hl)
theorem cw_iinc {i q : Nat} {j : Int} {x v : Int32} (hd : decode K.2.1 pc = .ok (.iinc i j, 3)) (hq : lv[q]? = some (i, .int x)) (hv : x + Int32.ofInt j = v) (hn : i < K.2.2.1) (hl2 : (i, Value.int v) :: lv.filter (fun q => !(q.1 == i) && !(q.1 + 1 == i && q.2.category == 2)) = lv') (k : CW G n K a mc ms Qc X (pc + 3) lv' st sp cells slots) : CW G n K a mc ms Qc X pc lv st sp cells slots :=
  fun p l e s m args below meth c C hz hX H locs ls hP hS hl => lv_iinc C.1 C.2.1 hd hl hq hv hn hl2 (fun ls hl => k p l e s m args below meth c C hz hX H locs ls hP hS hl)
theorem cw_dup {v : Value} (hd : decode K.2.1 pc = .ok (.dup, 1)) (hv : v.category = 1) (k : CW G n K a mc ms Qc X (pc + 1) lv (v :: v :: st) sp cells slots) : CW G n K a mc ms Qc X pc lv (v :: st) sp cells slots :=
  fun p l e s m args below meth c C hz hX H locs ls hP hS hl => lv_dup C.1 C.2.1 hd hv (k p l e s m args below meth c C hz hX H locs ls hP hS hl)
theorem cw_goto {off : Int} {tgt : Nat} (hd : decode K.2.1 pc = .ok (.goto off, 3)) (ht : (pc : Int) + off = (tgt : Int)) (k : CW G n K a mc ms Qc X tgt lv st sp cells slots) : CW G n K a mc ms Qc X pc lv st sp cells slots :=
  fun p l e s m args below meth c C hz hX H locs ls hP hS hl => lv_goto C.1 C.2.1 hd ht (k p l e s m args below meth c C hz hX H locs ls hP hS hl)
theorem cw_ge_t {x y : Int32} {off : Int} {tgt : Nat} (hd : decode K.2.1 pc = .ok (.if_icmp .ge off, 3)) (ht : (pc : Int) + off = (tgt : Int)) (hc : y ≤ x) (k : CW G n K a mc ms Qc X tgt lv st sp cells slots) : CW G n K a mc ms Qc X pc lv (.int y :: .int x :: st) sp cells slots :=
  fun p l e s m args below meth c C hz hX H locs ls hP hS hl => lv_icmp_ge C.1 C.2.1 hd ht (fun _ => k p l e s m args below meth c C hz hX H locs ls hP hS hl) (fun h => absurd hc h)
theorem cw_ge_f {x y : Int32} {off : Int} {tgt : Nat} (hd : decode K.2.1 pc = .ok (.if_icmp .ge off, 3)) (ht : (pc : Int) + off = (tgt : Int)) (hc : ¬ y ≤ x) (k : CW G n K a mc ms Qc X (pc + 3) lv st sp cells slots) : CW G n K a mc ms Qc X pc lv (.int y :: .int x :: st) sp cells slots :=
  fun p l e s m args below meth c C hz hX H locs ls hP hS hl => lv_icmp_ge C.1 C.2.1 hd ht (fun h => absurd h hc) (fun _ => k p l e s m args below meth c C hz hX H locs ls hP hS hl)
theorem cw_sp (h : sp = sp1) (k : CW G n K a mc ms Qc X pc lv st sp1 cells slots) : CW G n K a mc ms Qc X pc lv st sp cells slots := h ▸ k
theorem cw_objinit {idx x : Nat} (hd : decode K.2.1 pc = .ok (.invokespecial idx, 3)) (hw : Cond.methodLink K.1.cls idx Lib.objectInit ∈ lw_gd) (w1 : Cond.instanceMethod Lib.objectInit ∈ lw_gd) (w2 : Cond.code Lib.objectInit ⟨#[0xb1]⟩ 1 none ∈ lw_gd) (hn : 1 ≤ n) (k : CW G n K a mc ms Qc X (pc + 3) lv [] sp cells slots) : CW G n K a mc ms Qc X pc lv [.ref x] sp cells slots := by
  intro p l e s m args below meth c C hz hX H locs ls hP hS hl
  have T := C.2.2.2.2.1
  refine W.objInit C.1 C.2.1 C.2.2.2.1 (wd_use T hw) (wd_use T w1) (wd_use T w2) rfl (by rw [C.2.2.1]; exact hl.1) rfl hd hn ?_ (k p l e s m args below meth c C hz hX H locs ls hP hS hl)
  show 2 * 0 + (([] : List Value).map fun v => v.category).sum + 12 ≤ 120 * n
  simp
  omega
/-- a field of the object set -/
def spPut (sp : List Sp) (k : Nat) (v : Int) : List Sp := match sp with
  | [] => []
  | s :: l => (s.1, s.2.1, s.2.2.set k v) :: l
theorem cw_put {idx ci k N t : Nat} {C ref : String} {T : u_T} {tys : Nat → FieldType} {v : Int} {v0 : Value} {ty : FieldType} {vals : List Int} {z : Nat} {rest : List Sp} (hc : cls_[ci]? = some (C, T, N)) (hci : ci < 20) (hin : ∀ w ∈ u_ws C T N, w ∈ lw_gd) (hty : ∀ k, k < N → parseFieldDescriptor (T k).2.2.1 = some (tys k)) (hnm : ∀ a, a < N → ∀ b, b < N → a ≠ b → (T a).2.1 ≠ (T b).2.1) (hk : k < N) (ht : (ftab ci)[k]? = some t) (hyk : tys k = ty) (hr : ref = (T k).1) (hw : Cond.fieldLink K.1.cls idx ref (T k).2.1 (T k).2.2.1 ∈ lw_gd)
    (hfin : (T k).2.2.2 = false ∨ (T k).2.2.2 = true ∧ K.1.name = "<init>" ∧ (T k).1 = K.1.cls) (hd : decode K.2.1 pc = .ok (.putfield idx, 3)) (hsp : sp = (ci, z, vals) :: rest) (hlen : vals.length = (ftab ci).length) (hv : fvS a t v = v0) (hn : narrow ty v0 = v0) (hf : fits ty v0 = true)
    (kk : CW G n K a mc ms Qc X (pc + 3) lv st ((ci, z, vals.set k v) :: rest) cells slots) : CW G n K a mc ms Qc X pc lv (v0 :: .ref a :: st) sp cells slots := by
  subst hsp
  intro p l e s m args below meth c C hz hX H locs ls hP hS hl
  have he : (zw G a a ((ci, z, vals) :: rest))[0]? = some (a, .inr (ci, List.zipWith (fvS a) (ftab ci) vals)) := by
    rw [zw_get]
    show some (a + 0, cE G a (ci, z, vals)) = _
    rw [cE_obj G a (s := (ci, z, vals)) hci]
    rfl
  have hset : (zw G a a ((ci, z, vals) :: rest)).set 0 (a, .inr (ci, (List.zipWith (fvS a) (ftab ci) vals).set k v0)) = zw G a a ((ci, z, vals.set k v) :: rest) := by
    rw [← hv, zip_set a _ _ k t v ht]
    show (a, _) :: zw G a (a + 1) rest = (a, cE G a (ci, z, vals.set k v)) :: zw G a (a + 1) rest
    rw [cE_obj G a (s := (ci, z, vals.set k v)) hci]
  have hkl : k < (List.zipWith (fvS a) (ftab ci) vals).length := by
    rw [zip_len a _ _ hlen]
    exact (List.getElem?_eq_some_iff.mp ht).1
  have hD := zw_D G a ((ci, z, vals) :: rest) a
  have hK := C.2.2.2.2.2.2.2.1.1.1
  rcases hfin with h0 | ⟨h0, h1, h2⟩
  · refine va_put C.1 C.2.1 C.2.2.2.2.1 (fun w hw => List.mem_cons_of_mem _ (hin w hw)) tys hty hnm C.2.2.2.1 hK hP hD hS 0 he hc k hk (wd_use C.2.2.2.2.1 hw) (fun x hx => by rw [hr]; exact hx) h0 (ty := ty) (by rw [hty k hk, hyk]) hn hf hkl hd ?_
    intro H1 locs1 hP1 hD1 hS1
    rw [hset] at hP1
    exact kk p l e s m args below meth c C hz hX H1 locs1 ls hP1 hS1 hl
  · refine va_putF C.1 C.2.1 C.2.2.2.2.1 (fun w hw => List.mem_cons_of_mem _ (hin w hw)) tys hty hnm C.2.2.2.1 hK hP hD hS 0 he hc k hk (wd_use C.2.2.2.2.1 hw) (fun x hx => by rw [hr]; exact hx) h0 (C.2.2.2.2.2.2.2.2.trans h1) h2 (ty := ty) (by rw [hty k hk, hyk]) hn hf hkl hd ?_
    intro H1 locs1 hP1 hD1 hS1
    rw [hset] at hP1
    exact kk p l e s m args below meth c C hz hX H1 locs1 ls hP1 hS1 hl
theorem cw_get {idx ci k N t : Nat} {C ref : String} {T : u_T} {v : Int} {v0 : Value} {vals : List Int} {z : Nat} {rest : List Sp} (hc : cls_[ci]? = some (C, T, N)) (hci : ci < 20) (hin : ∀ w ∈ u_ws C T N, w ∈ lw_gd) (hk : k < N) (ht : (ftab ci)[k]? = some t) (hr : ref = (T k).1) (hw : Cond.fieldLink K.1.cls idx ref (T k).2.1 (T k).2.2.1 ∈ lw_gd)
    (hd : decode K.2.1 pc = .ok (.getfield idx, 3)) (hsp : sp = (ci, z, vals) :: rest) (hval : vals[k]? = some v) (hv : fvS a t v = v0)
    (kk : CW G n K a mc ms Qc X (pc + 3) lv (v0 :: st) sp cells slots) : CW G n K a mc ms Qc X pc lv (.ref a :: st) sp cells slots := by
  intro p l e s m args below meth c C hz hX H locs ls hP hS hl
  have he : (zw G a a sp)[0]? = some (a, .inr (ci, List.zipWith (fvS a) (ftab ci) vals)) := by
    rw [zw_get, hsp]
    show some (a + 0, cE G a (ci, z, vals)) = _
    rw [cE_obj G a (s := (ci, z, vals)) hci]
    rfl
  refine va_get C.1 C.2.1 C.2.2.2.2.1 (fun w hw => List.mem_cons_of_mem _ (hin w hw)) C.2.2.2.1 C.2.2.2.2.2.2.2.1.1.1 hP 0 he hc k hk (wd_use C.2.2.2.2.1 hw) (fun x hx => by rw [hr]; exact hx) (by rw [zip_get a _ _ k t v ht hval]) hd ?_
  rw [hv]
  exact kk p l e s m args below meth c C hz hX H locs ls hP hS hl
theorem cw_ret (hd : decode K.2.1 pc = .ok (.return_, 1)) (hr : K.2.2.2 = none) (hc : cells = mc) (hs : slots = ms) {sp' : List Sp} (hsp : sp = sp') : CW G n K a mc ms (CQp G a sp') X pc lv [] sp cells slots := by
  subst hc
  subst hs
  subst hsp
  intro p l e s m args below meth c C hz hX H locs ls hP hS hl
  exact W.vret C.1 C.2.1 (C.2.2.2.2.2.1.trans hr) (fun t ht hW => ⟨rfl, by rw [ht]; exact hP, KG.warm hW C.2.2.2.2.2.2.2.1, hS.F ht⟩) hS.2.2 hd C.2.2.2.2.2.2.1
theorem cw_new {idx ci N : Nat} {C : String} {T : u_T} {tys : Nat → FieldType} (hc : cls_[ci]? = some (C, T, N)) (hci : ci < 20) (hin : ∀ w ∈ u_ws C T N, w ∈ lw_gd) (hty : ∀ k, k < N → parseFieldDescriptor (T k).2.2.1 = some (tys k)) (hfs : ∀ j, j < N → defaultValue (tys j) = vp_V (dfE (ftab ci)) j)
    (hw : Cond.classLink K.1.cls idx C ∈ lw_gd) (w1 : Cond.instantiable C N ∈ lw_gd) (w2 : Cond.initialized C ∈ lw_gd) (hd : decode K.2.1 pc = .ok (.new idx, 3)) (hlen : sp.length = cells + 1) (hcs : cells + 1 ≤ mc) (hss : slots + N ≤ ms)
    (kk : CW G n K a mc ms Qc X (pc + 3) lv (.ref (a + (cells + 1)) :: st) (sp ++ [dO ci]) (cells + 1) (slots + N)) : CW G n K a mc ms Qc X pc lv st sp cells slots := by
  intro p l e s m args below meth c C hz hX H locs ls hP hS hl
  have TT := C.2.2.2.2.1
  refine va_new (ci := ci) (fs := dfE (ftab ci)) C.1 C.2.1 TT (fun w hw => List.mem_cons_of_mem _ (hin w hw)) tys hty C.2.2.2.1 (wd_use TT hw) (wd_use TT w1) (wd_use TT w2) C.2.2.2.2.2.2.2.1.1.1 hP (zw_D G a sp a) hS (fun q hq => by show a ≤ q; omega) hc hfs hcs hss hd ?_
  intro q H1 hP1 hD1 hS1
  refine W_size fun hsz => ?_
  have hq : q = a + sp.length := zw_push hP1 hD1 (by omega)
  subst hq
  rw [show (Value.ref (a + sp.length)) = Value.ref (a + (cells + 1)) by rw [hlen]]
  refine kk p l e s m args below meth c C hz hX H1 locs ls ?_ hS1 hl
  rw [zw_snoc, cE_dO G a hci]
  exact hP1
theorem cw_newa {atype : ArrayType} {ty : FieldType} {kd t0 : Nat} {a0 : vp_A} {x : Int32} {N : Nat} (hw : Cond.arrayClass (newarray.typeOf atype) ∈ lw_gd) (hty : newarray.typeOf atype = ty) (ht : (tysY (Y0 G))[t0]? = some (G.2 t0, ty)) (ha : ∀ cA : ClassId, vp_cell cA a0 = arrV cA N (fun _ => defaultValue ty)) (hnam : ∀ (U : State) (cA : ClassId), va_RA U cA ty → U.vm.findClass ("[" ++ ty.toString) = some cA) (hE : cE G a (kd, N, []) = .inl (G.2 t0, a0))
    (hn : ¬ x < 0) (hN : x.toNatClampNeg = N) (hb : N * componentBytes ty ≤ 536870912) (hd : decode K.2.1 pc = .ok (.newarray atype, 2)) (hlen : sp.length = cells + 1) (hcs : cells + 1 ≤ mc) (hss : slots + N ≤ ms)
    (kk : CW G n K a mc ms Qc X (pc + 2) lv (.ref (a + (cells + 1)) :: st) (sp ++ [(kd, N, [])]) (cells + 1) (slots + N)) : CW G n K a mc ms Qc X pc lv (.int x :: st) sp cells slots := by
  intro p l e s m args below meth c C hz hX H locs ls hP hS hl
  have TT := C.2.2.2.2.1
  have hK := C.2.2.2.2.2.2.2.1.1.1
  refine va_newa C.1 C.2.1 (wd_use TT hw) hty hK hP (zw_D G a sp a) hS (fun q hq => by show a ≤ q; omega) (a0 := a0) ha hn hN hb hcs hss hd ?_
  intro q cA H1 hK1 hP1 hD1 hS1
  have h1 : s.vm.findClass ("[" ++ ty.toString) = some cA := hnam s cA (hK1.2 (tysY (Y0 G)).length (cA, ty) (by rw [List.getElem?_append_right (Nat.le_refl _), Nat.sub_self]; rfl)).2
  have h2 : s.vm.findClass ("[" ++ ty.toString) = some (G.2 t0) := hnam s _ (hK.2 t0 _ ht).2
  have h3 : cA = G.2 t0 := Option.some.inj (h1.symm.trans h2)
  subst h3
  refine W_size fun hsz => ?_
  have hq : q = a + sp.length := zw_push hP1 hD1 (by omega)
  subst hq
  rw [show (Value.ref (a + sp.length)) = Value.ref (a + (cells + 1)) by rw [hlen]]
  refine kk p l e s m args below meth c C hz hX H1 locs ls ?_ hS1 hl
  rw [zw_snoc, hE]
  exact hP1
theorem cw_newi {x : Int32} {N : Nat} (hw : Cond.arrayClass .int ∈ lw_gd) (hn : ¬ x < 0) (hN : x.toNatClampNeg = N) (hb : N * 4 ≤ 536870912) (hd : decode K.2.1 pc = .ok (.newarray .int, 2)) (hlen : sp.length = cells + 1) (hcs : cells + 1 ≤ mc) (hss : slots + N ≤ ms)
    (kk : CW G n K a mc ms Qc X (pc + 2) lv (.ref (a + (cells + 1)) :: st) (sp ++ [(20, N, [])]) (cells + 1) (slots + N)) : CW G n K a mc ms Qc X pc lv (.int x :: st) sp cells slots :=
  cw_newa (atype := .int) (ty := .int) (kd := 20) (t0 := 0) (a0 := (N, .inl (fun i => Int32.ofInt (([] : List Int).getD i 0)))) hw rfl rfl (fun _ => rfl) (fun _ _ h => h) rfl hn hN hb hd hlen hcs hss kk
theorem cw_newb {x : Int32} {N : Nat} (hw : Cond.arrayClass .byte ∈ lw_gd) (hn : ¬ x < 0) (hN : x.toNatClampNeg = N) (hb : N * 1 ≤ 536870912) (hd : decode K.2.1 pc = .ok (.newarray .byte, 2)) (hlen : sp.length = cells + 1) (hcs : cells + 1 ≤ mc) (hss : slots + N ≤ ms)
    (kk : CW G n K a mc ms Qc X (pc + 2) lv (.ref (a + (cells + 1)) :: st) (sp ++ [(21, N, [])]) (cells + 1) (slots + N)) : CW G n K a mc ms Qc X pc lv (.int x :: st) sp cells slots :=
  cw_newa (atype := .byte) (ty := .byte) (kd := 21) (t0 := 1) (a0 := (N, .inl (fun i => Int32.ofInt (([] : List Int).getD i 0)))) hw rfl rfl (fun _ => rfl) (fun _ _ h => h) rfl hn hN hb hd hlen hcs hss kk
theorem cw_newl {x : Int32} {N : Nat} (hw : Cond.arrayClass .long ∈ lw_gd) (hn : ¬ x < 0) (hN : x.toNatClampNeg = N) (hb : N * 8 ≤ 536870912) (hd : decode K.2.1 pc = .ok (.newarray .long, 2)) (hlen : sp.length = cells + 1) (hcs : cells + 1 ≤ mc) (hss : slots + N ≤ ms)
    (kk : CW G n K a mc ms Qc X (pc + 2) lv (.ref (a + (cells + 1)) :: st) (sp ++ [(22, N, [])]) (cells + 1) (slots + N)) : CW G n K a mc ms Qc X pc lv (.int x :: st) sp cells slots :=
  cw_newa (atype := .long) (ty := .long) (kd := 22) (t0 := 2) (a0 := (N, .inr (.inl (fun i => Int64.ofInt (([] : List Int).getD i 0))))) hw rfl rfl (fun _ => rfl) (fun _ _ h => h) rfl hn hN hb hd hlen hcs hss kk
theorem cw_mmax {x y z : Int32} {idx : Nat} (hd : decode K.2.1 pc = .ok (.invokestatic idx, 3)) (hw : Cond.methodLink K.1.cls idx Lib.Math.max.name ∈ lw_gd) (w1 : Cond.static Lib.Math.max.name ∈ lw_gd) (w2 : Cond.initialized "java/lang/Math" ∈ lw_gd) (w3 : Cond.code Lib.Math.max.name Lib.Math.max.code 2 (some .int) ∈ lw_gd) (hn : 1 ≤ n) (hst : (st.map fun v => v.category).sum ≤ 8) (hz0 : (if x < y then y else x) = z) (hcs : cells ≤ mc) (hss : slots ≤ ms) (k : CW G n K a mc ms Qc X (pc + 3) lv (.int z :: st) sp cells slots) : CW G n K a mc ms Qc X pc lv (.int y :: .int x :: st) sp cells slots := by
  subst hz0
  intro p l e s m args below meth c C hz hX H locs ls hP hS hl
  have T := C.2.2.2.2.1
  refine va_mmax C.1 C.2.1 (by rw [C.2.2.1]; exact hl.1.symm) C.2.2.2.1 (wd_use T hw) (wd_use T w1) (wd_use T w2) (wd_use T w3) hn ?_ hcs hss hd (k p l e s m args below meth c C hz hX H locs ls hP hS hl)
  show _ + 13 ≤ 120 * n
  omega
/-- behind a constructor -/
theorem cw_behind {p : Program} {l : Launch} {e : Env} {s : State} {m : MethodId} {args : Array Value} {below : List Frame} {meth : Method} {c : Code} {H : Heap} {locs : List Loc} {ls : Array Slot} {Q : State → Prop} {R : Room} {mc' ms' : Nat} {st0 : List Value} {sp0 spC : List Sp} {x : Sp} {As' : Array Value}
    (hr : va_Run p l e R s m args below meth c H locs cells slots mc' ms' (F0 m pc ls st0) st (CQp G (a + sp0.length) spC As') (fun q => a + sp0.length ≤ q)) (hP : va_P G.1 cls_ (zw G a a (sp0 ++ [x])) H) (hS : va_S (fun q => a ≤ q) s.heap H locs)
    (kk : ∀ (H1 : Heap) (locs1 : List Loc), va_P G.1 cls_ (zw G a a (sp0 ++ spC.map (sh sp0.length))) H1 → va_S (fun q => a ≤ q) s.heap H1 locs1 → W p l e R s m args below meth c H1 locs1 (cells + mc') (slots + ms') Q (F0 m (pc + 3) ls st)) : W p l e R s m args below meth c H locs cells slots Q (F0 m pc ls st0) := by
  intro T hT Xs
  obtain ⟨v, st₀, t, T', L, h0, X', hL, e1, e2, ⟨hv, hP1, hK1, hz1, hk1⟩, go⟩ := hr T hT Xs
  cases hv
  rw [h0] at hz1 hk1
  have hPn : va_P G.1 cls_ (zw G a a (sp0 ++ spC.map (sh sp0.length))) T'.heap := by
    rw [zw_app, e1]
    refine va_P.app (fun k q hk => ?_) ?_
    · obtain ⟨s0, hs0, rfl⟩ := zw_in hk
      have hlt : k < sp0.length := (List.getElem?_eq_some_iff.mp hs0).1
      have hq := hP k (a + k, cE G a s0) (by rw [zw_get, List.getElem?_append_left hlt, hs0]; rfl)
      refine hq.kept (hk1 (a + k) hq.lt ?_)
      show ¬ (a + sp0.length ≤ a + k)
      omega
    · rw [← zw_sh]
      exact hP1
  have hS' : va_S (fun q => a ≤ q) s.heap T'.heap (locs ++ L) := ⟨Nat.le_trans hS.1 (by rw [e1]; exact hz1), fun q h1 h2 => by
      rw [e1, hk1 q (Nat.lt_of_lt_of_le h1 hS.1) (fun (z : a + sp0.length ≤ q) => h2 (show a ≤ q by omega))]
      exact hS.2.1 q h1 h2, fun q hq => by
      rcases List.mem_append.mp hq with h | h
      · exact hS.2.2 q h
      · have := hL q h
        show a ≤ q.base
        omega⟩
  obtain ⟨t2, a1, b1⟩ := kk T'.heap (locs ++ L) hPn hS' T' rfl X'
  exact ⟨t2, go t2 a1, b1⟩
def okI (y : MethodName) (b : ByteArray) (mL k : Nat) : Prop := Cond.code y b mL none ∈ lw_gd ∧ Cond.instanceMethod y ∈ lw_gd ∧ Cond.initialized y.cls ∈ lw_gd ∧ (y.cls ≠ "java/lang/invoke/MethodHandle" ∧ y.cls ≠ "java/lang/invoke/VarHandle" ∧ (parseMethodDescriptor y.desc).map (fun d => d.parameters.length) = some k) ∧ mL ≤ 100 ∧ y.name = "<init>"
theorem blind_CP {a : Nat} {As : List Value} {sp : List Sp} {X : State → Prop} (hb : ∀ (U : State) (g : JFrame) (mk : MethodId) (v : Array Value), X U → X (U.calling g mk v)) : FrameBlind (CP G a As sp X) := fun v U g mk q => by
  obtain ⟨q0, q1, q2, q3, q4⟩ := q
  exact ⟨q0, q1, q2, KG.same (s := U) (U := U.calling g mk v) rfl q3, hb U g mk v q4⟩
/-- what a constructor's caller has ready -/
theorem ctor_pre {a b ci : Nat} {sp0 : List Sp} {H : Heap} (hci : ci < 20) (hb : b = a + sp0.length) (hP : va_P G.1 cls_ (zw G a a (sp0 ++ [dO ci])) H) : va_P G.1 cls_ (zw G b b [dO ci]) H := by
  subst hb
  intro k q hk
  obtain ⟨s0, hs0, rfl⟩ := zw_in hk
  have hk0 : k = 0 := by
    have : k < 1 := (List.getElem?_eq_some_iff.mp hs0).1
    omega
  subst hk0
  cases hs0
  have h := hP sp0.length (a + sp0.length, cE G a (dO ci)) (by rw [zw_get, List.getElem?_append_right (Nat.le_refl _), Nat.sub_self]; rfl)
  rw [cE_dO G a hci] at h
  rw [cE_dO G _ hci]
  exact h
theorem cw_ctor {y : MethodName} {bt : ByteArray} {mL n' mc' ms' idx k b ci : Nat} {As st0 : List Value} {sp0 spC : List Sp} {X' : State → Prop} (ok : okI y bt mL k) (hM : CM G n' mc' ms' (y, bt, mL, none) b As [dO ci] spC X') (hw : Cond.methodLink K.1.cls idx y ∈ lw_gd) (hd : decode K.2.1 pc = .ok (.invokespecial idx, 3)) (hk : As.length = k) (hn : n' + 1 ≤ n) (hci : ci < 20) (hs : st0 = As.reverse ++ .ref b :: st) (hb : b = a + cells) (hsp : sp = sp0 ++ [dO ci]) (hlen : sp0.length = cells) (hcat : (st.map fun v => v.category).sum ≤ 8)
    (hXb : ∀ (U : State) (g : JFrame) (mk : MethodId) (v : Array Value), X' U → X' (U.calling g mk v)) (hX' : ∀ (s U : State) (H : Heap) (locs : List Loc), X s → va_S (fun q => a ≤ q) s.heap H locs → U.heap = H → s.WarmedH U.vm → X' U) (hcs : cells + mc' ≤ mc) (hss : slots + ms' ≤ ms)
    (kk : CW G n K a mc ms Qc X (pc + 3) lv st (sp0 ++ spC.map (sh cells)) (cells + mc') (slots + ms')) : CW G n K a mc ms Qc X pc lv st0 sp cells slots := by
  subst hlen
  subst hsp
  intro p l e s m args below meth c C hz hX H locs ls hP hS hl
  refine W_size fun hsz => ?_
  have hlt := zw_lt hP (by simp)
  have hH : H.size = b + 1 := by
    simp only [List.length_append, List.length_cons, List.length_nil] at hlt
    omega
  have TT := C.2.2.2.2.1
  obtain ⟨k1, k2, k3, k4, k5, k6⟩ := ok
  subst hb
  refine cw_behind (va_runI (n := k) (As := As) (b := a + sp0.length) (rest := st) ⟨C.1, C.2.1, C.2.2.1, C.2.2.2.1, TT⟩ (hM l) ⟨callB_of k TT (good_K (K := K) (K' := (y, bt, mL, none)) k1) rfl rfl rfl (wd_use TT k3) (wd_use TT hw) k4 ⟨hn, ?_⟩, k6, wd_use TT k2⟩ ⟨blind_CP hXb, fun U hU hW => ⟨rfl, by rw [hU]; exact hH, by rw [hU]; exact ctor_pre hci rfl hP, KG.warm hW C.2.2.2.2.2.2.2.1, hX' s U H locs hX hS hU hW⟩⟩ rfl hk hl.1 hs (lv_room hcat) hd ⟨hcs, hss⟩) hP hS ?_
  · show 8 + (mL + 11) + 120 * n' ≤ 120 * n
    omega
  · intro H1 locs1 hP1 hS1
    exact kk p l e s m args below meth c C hz hX H1 locs1 ls hP1 hS1 hl
theorem cw_ctorN {y : MethodName} {bt : ByteArray} {mL n' mc' ms' idx k b ci : Nat} {host : String} {As st0 : List Value} {sp0 spC : List Sp} {X' : State → Prop} (ok : okI y bt mL k) (hM : CM G n' mc' ms' (y, bt, mL, none) b As [dO ci] spC X') (hw : (K.1.cls, idx, y, host) ∈ lw_nst) (hd : decode K.2.1 pc = .ok (.invokespecial idx, 3)) (hk : As.length = k) (hn : n' + 1 ≤ n) (hci : ci < 20) (hs : st0 = As.reverse ++ .ref b :: st) (hb : b = a + cells) (hsp : sp = sp0 ++ [dO ci]) (hlen : sp0.length = cells) (hcat : (st.map fun v => v.category).sum ≤ 8)
    (hXb : ∀ (U : State) (g : JFrame) (mk : MethodId) (v : Array Value), X' U → X' (U.calling g mk v)) (hX' : ∀ (s U : State) (H : Heap) (locs : List Loc), X s → va_S (fun q => a ≤ q) s.heap H locs → U.heap = H → s.WarmedH U.vm → X' U) (hcs : cells + mc' ≤ mc) (hss : slots + ms' ≤ ms)
    (kk : CW G n K a mc ms Qc X (pc + 3) lv st (sp0 ++ spC.map (sh cells)) (cells + mc') (slots + ms')) : CW G n K a mc ms Qc X pc lv st0 sp cells slots := by
  subst hlen
  subst hsp
  intro p l e s m args below meth c C hz hX H locs ls hP hS hl
  refine W_size fun hsz => ?_
  have hlt := zw_lt hP (by simp)
  have hH : H.size = b + 1 := by
    simp only [List.length_append, List.length_cons, List.length_nil] at hlt
    omega
  have TT := C.2.2.2.2.1
  obtain ⟨k1, k2, k3, k4, k5, k6⟩ := ok
  subst hb
  refine cw_behind (va_runIN (n := k) (As := As) (b := a + sp0.length) (rest := st) (host := host) ⟨C.1, C.2.1, C.2.2.1, C.2.2.2.1, TT⟩ (hM l) ⟨va_cnB k TT (good_K (K := K) (K' := (y, bt, mL, none)) k1) rfl rfl rfl (C.2.2.2.2.2.2.2.1.1.2 _ hw) (wd_use TT k3) k4 ⟨hn, ?_⟩, k6, wd_use TT k2⟩ ⟨blind_CP hXb, fun U hU hW => ⟨rfl, by rw [hU]; exact hH, by rw [hU]; exact ctor_pre hci rfl hP, KG.warm hW C.2.2.2.2.2.2.2.1, hX' s U H locs hX hS hU hW⟩⟩ rfl hk hl.1 hs (lv_room hcat) hd ⟨hcs, hss⟩) hP hS ?_
  · show 8 + (mL + 11) + 120 * n' ≤ 120 * n
    omega
  · intro H1 locs1 hP1 hS1
    exact kk p l e s m args below meth c C hz hX H1 locs1 ls hP1 hS1 hl
end CWR
