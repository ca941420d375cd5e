/-! ===== the words of the class: one string, its letters ===== -/
def tT : String := "state final turn odd rule to book from misses finale hint at is by reader offer costs tells watch guards follows bind loose call guess when done left loop end stop"
def nT : Nat := 163
def bT : List Int32 := [115, 116, 97, 116, 101, 32, 102, 105, 110, 97, 108, 32, 116, 117, 114, 110, 32, 111, 100, 100, 32, 114, 117, 108, 101, 32, 116, 111, 32, 98, 111, 111, 107, 32, 102, 114, 111, 109, 32, 109, 105, 115, 115, 101, 115, 32, 102, 105, 110, 97, 108, 101, 32, 104, 105, 110, 116, 32, 97, 116, 32, 105, 115, 32, 98, 121, 32, 114, 101, 97, 100, 101, 114, 32, 111, 102, 102, 101, 114, 32, 99, 111, 115, 116, 115, 32, 116, 101, 108, 108, 115, 32, 119, 97, 116, 99, 104, 32, 103, 117, 97, 114, 100, 115, 32, 102, 111, 108, 108, 111, 119, 115, 32, 98, 105, 110, 100, 32, 108, 111, 111, 115, 101, 32, 99, 97, 108, 108, 32, 103, 117, 101, 115, 115, 32, 119, 104, 101, 110, 32, 100, 111, 110, 101, 32, 108, 101, 102, 116, 32, 108, 111, 111, 112, 32, 101, 110, 100, 32, 115, 116, 111, 112]
def SK (q v : Nat) (A : Nat → Prop) (U : State) (H : Heap) : Prop :=
  va_O "java/lang/String" q A U H ∧ va_OF "java/lang/String" "coder" "B" (.int 0) q A U H ∧ va_OF "java/lang/String" "value" "[B" (.ref v) q A U H ∧ va_T .byte v nT (fun j => .int (bT.getD j 0)) A U H ∧ va_Z "java/lang/String" "COMPACT_STRINGS" "Z" (.int 1) A U H ∧ va_Zq "jdk/internal/util/Preconditions" "SIOOBE_FORMATTER" "Ljava/util/function/BiFunction;" A U H
theorem SK.moved {q v : Nat} {A : Nat → Prop} {u U : State} {H : Heap} (hvm : u.vm.Alike U.vm) (h : SK q v A u H) : SK q v A U H := ⟨va_O.moved hvm h.1, va_OF.moved hvm h.2.1, va_OF.moved hvm h.2.2.1, va_T.moved hvm h.2.2.2.1, va_Z.moved hvm h.2.2.2.2.1, va_Zq.moved hvm h.2.2.2.2.2⟩
theorem SK.kept {q v : Nat} {A : Nat → Prop} {U : State} {H H1 : Heap} (h : SK q v A U H) (hq : ∀ a : Nat, a < H.size → ¬ A a → H1[a]? = H[a]?) : SK q v A U H1 := ⟨h.1.kept hq, h.2.1.kept hq, h.2.2.1.kept hq, h.2.2.2.1.kept hq, h.2.2.2.2.1.kept hq, h.2.2.2.2.2.kept hq⟩
theorem SK.narrow {q v : Nat} {A B : Nat → Prop} {U : State} {H : Heap} (h : SK q v A U H) (hAB : ∀ q, B q → A q) : SK q v B U H := ⟨h.1.narrow hAB, h.2.1.narrow hAB, h.2.2.1.narrow hAB, h.2.2.2.1.narrow hAB, h.2.2.2.2.1.narrow hAB, h.2.2.2.2.2.narrow hAB⟩
def nO : Nat → Prop := fun _ => False
/-- a question to the library that changes nothing -/
def JP (av : List Value) (q v : Nat) : Array Value → State → Prop := va_Pc av (fun U => SK q v nO U U.heap)
def JQ (r : Option Value) : Array Value → State → Outcome → State → Prop := fun _ st oc t => oc = .returned r ∧ t.heap = st.heap
def JM (n : Nat) (K : Mk) (av : List Value) (q v : Nat) (r : Option Value) : Prop := ∀ l : Launch, Met l K.1 (wsK K) (rmN n) (JP av q v) (JQ r) 0 0 nO
def CxJ (K : Mk) (p : Program) (s : State) (m : MethodId) (args : Array Value) (meth : Method) (c : Code) : Prop :=
  p.tables.exec = Jvm.exec ∧ c.code = K.2.1 ∧ c.maxLocals = K.2.2.1 ∧ s.vm.findClass K.1.cls = some m.cls ∧ (∀ w ∈ wsK K, w.before args s = true) ∧ meth.sig.returnType = K.2.2.2 ∧ meth.locks = false
def JWk (n : Nat) (K : Mk) (q v : Nat) (r : Option Value) (pc : Nat) (lv : List (Nat × Value)) (st : List Value) : Prop :=
  ∀ (p : Program) (l : Launch) (e : Env) (s : State) (m : MethodId) (args : Array Value) (below : List Frame) (meth : Method) (c : Code), CxJ K p s m args meth c → SK q v nO s s.heap → ∀ (ls : Array Slot), lv_has ls K.2.2.1 lv →
    W p l e (rmN n) s m args below meth c s.heap [] 0 0 (MQ below (JQ r) args s 0 0 nO) (F0 m pc ls st)
theorem JM.of {n : Nat} {K : Mk} {av : List Value} {q v : Nat} {r : Option Value} (hy : plainName K.1.cls = true) (hn : (lg_sl av).length ≤ K.2.2.1) (k : JWk n K q v r 0 (lv_args 0 av) []) : JM n K av q v r := by
  intro l
  refine Met.ofW (cc := K.2.1) (maxL := K.2.2.1) (ret := K.2.2.2) hy rfl ?_
  intro p e s m args below meth c s₁ B hml hv
  obtain ⟨rfl, hS⟩ := hv
  have hts := atoms_spec (ws := wsK K) B.pre
  have hown : s.vm.findClass K.1.cls = some m.cls := findClass_of_methodNamed B.named
  have hl := lv_entry av (n := K.2.2.1) hn
  rw [lg_entry_eq]
  exact k p l e s m _ below meth c ⟨B.exec, B.bytes, hml, hown, hts, B.returns, B.notSynchronized⟩ hS _ hl
theorem blind_JP {av : List Value} {q v : Nat} : FrameBlind (JP av q v) := fun a U g mk h => ⟨h.1, SK.moved (u := U) (U := U.calling g mk a) (Vm.Alike.refl U.vm) h.2⟩
section QC
variable {p : Program} {l : Launch} {e : Env} {R : Room} {s : State} {m : MethodId} {args : Array Value} {below : List Frame} {meth : Method} {c : Code} {H : Heap} {locs : List Loc} {cells slots : Nat} {Q : State → Prop} {pc : Nat} {ls : Array Slot} {st st0 : List Value}
theorem q_behind {r : Option Value} {As : Array Value} (hr : va_Run p l e R s m args below meth c H locs cells slots 0 0 (F0 m pc ls st0) st (JQ r As) nO) (kk : W p l e R s m args below meth c H locs cells slots Q (F0 m (pc + 3) ls (r.toList ++ st))) : W p l e R s m args below meth c H locs cells slots Q (F0 m pc ls st0) := by
  intro T hT X
  obtain ⟨v, st₀, t, T', L, h0, X', hL, e1, e2, ⟨hv, hh⟩, go⟩ := hr T hT X
  cases hv
  obtain ⟨t2, a1, b1⟩ := kk T' (by rw [e1, hh, h0]) (Stand.forget X' (fun q h => (hL q h).elim))
  exact ⟨t2, go t2 a1, b1⟩
theorem q_callV {K K' : Mk} {n' idx k q v : Nat} {As : List Value} {r : Option Value} (hx : p.tables.exec = Jvm.exec) (hb : c.code = K.2.1) (hml : c.maxLocals = K.2.2.1) (hown : s.vm.findClass K.1.cls = some m.cls) (TT : ∀ w ∈ wsK K, w.before args s = true) (hK : SK q v nO s H) (ok : okV K' k) (hc : K'.1.cls = "java/lang/String") (hM : JM n' K' (.ref q :: As) q v r)
    (hw : Cond.methodLink K.1.cls idx K'.1 ∈ lw_gd) (hd : decode K.2.1 pc = .ok (.invokevirtual idx, 3)) (hk : As.length = k) (hR : n' + 1 ≤ R.frames ∧ 120 * (n' + 1) ≤ R.locals) (hcs : cells ≤ R.cells) (hss : slots ≤ R.slots) (hl : ls.size = K.2.2.1) (hs : st0 = As.reverse ++ .ref q :: st) (hcat : (st.map fun v => v.category).sum ≤ 8)
    (kk : W p l e R s m args below meth c H locs cells slots Q (F0 m (pc + 3) ls (r.toList ++ st))) : W p l e R s m args below meth c H locs cells slots Q (F0 m pc ls st0) := by
  obtain ⟨k1, k2, k3, k4, k5, k6⟩ := ok
  refine q_behind (va_runV (n := k) (C := K'.1.cls) (b := q) (As := As) ⟨hx, hb, hml, hown, TT⟩ (hM l) ⟨callB_of k TT (good_K (K := K) k1) rfl rfl rfl (wd_use TT k4) (wd_use TT hw) k5 ⟨hR.1, ?_⟩, wd_use TT k2, wd_use TT k3⟩ ⟨blind_JP, ?_, fun U hU hW => ⟨rfl, by show SK q v nO U U.heap; rw [hU]; exact SK.moved hW.alike hK⟩⟩ rfl hk hl hs (lv_room hcat) hd ⟨hcs, hss⟩) kk
  · show 8 + (K'.2.2.1 + 11) + 120 * n' ≤ R.locals
    have := hR.2
    omega
  · rw [hc]
    obtain ⟨cell, h1, h2, h3, -⟩ := hK.1
    exact ⟨cell, h1, h2, h3⟩
theorem q_callS {K K' : Mk} {n' idx k q v : Nat} {As : List Value} {r : Option Value} (hx : p.tables.exec = Jvm.exec) (hb : c.code = K.2.1) (hml : c.maxLocals = K.2.2.1) (hown : s.vm.findClass K.1.cls = some m.cls) (TT : ∀ w ∈ wsK K, w.before args s = true) (hK : SK q v nO s H) (ok : okS K' k) (hM : JM n' K' As q v r)
    (hw : Cond.methodLink K.1.cls idx K'.1 ∈ lw_gd) (hd : decode K.2.1 pc = .ok (.invokestatic idx, 3)) (hk : As.length = k) (hR : n' + 1 ≤ R.frames ∧ 120 * (n' + 1) ≤ R.locals) (hcs : cells ≤ R.cells) (hss : slots ≤ R.slots) (hl : ls.size = K.2.2.1) (hs : st0 = As.reverse ++ st) (hcat : (st.map fun v => v.category).sum ≤ 8)
    (kk : W p l e R s m args below meth c H locs cells slots Q (F0 m (pc + 3) ls (r.toList ++ st))) : W p l e R s m args below meth c H locs cells slots Q (F0 m pc ls st0) := by
  obtain ⟨k1, k2, k4, k5, k6⟩ := ok
  refine q_behind (va_runS (n := k) (As := As) ⟨hx, hb, hml, hown, TT⟩ (hM l) ⟨callB_of k TT (good_K (K := K) k1) rfl rfl rfl (wd_use TT k4) (wd_use TT hw) k5 ⟨hR.1, ?_⟩, wd_use TT k2⟩ ⟨blind_JP, fun U hU hW => ⟨rfl, by show SK q v nO U U.heap; rw [hU]; exact SK.moved hW.alike hK⟩⟩ rfl hk hl hs (lv_room hcat) hd ⟨hcs, hss⟩) kk
  show 8 + (K'.2.2.1 + 11) + 120 * n' ≤ R.locals
  have := hR.2
  omega
end QC
abbrev K_J_coder : Mk := (⟨"java/lang/String", "coder", "()B"⟩, prog_17_method_152_code, 1, (Option.some Jvm.ClassFile.FieldType.byte))
theorem okV_J_coder : okV K_J_coder 0 := ⟨w1_46, w1_44, w1_45, w1_3, ⟨by decide, by decide, by decide +kernel⟩, by decide⟩
theorem d_J_coder_0 : decode prog_17_method_152_code 0 = .ok (.getstatic 38, 3) := by decide +kernel
theorem d_J_coder_3 : decode prog_17_method_152_code 3 = .ok (.ifCond .eq 10, 3) := by decide +kernel
theorem d_J_coder_6 : decode prog_17_method_152_code 6 = .ok (.aload_n 0, 1) := by decide +kernel
theorem d_J_coder_7 : decode prog_17_method_152_code 7 = .ok (.getfield 15, 3) := by decide +kernel
theorem d_J_coder_10 : decode prog_17_method_152_code 10 = .ok (.goto 4, 3) := by decide +kernel
theorem d_J_coder_13 : decode prog_17_method_152_code 13 = .ok (.iconst 1, 1) := by decide +kernel
theorem d_J_coder_14 : decode prog_17_method_152_code 14 = .ok (.ireturn, 1) := by decide +kernel
abbrev K_J_isLatin1 : Mk := (⟨"java/lang/String", "isLatin1", "()Z"⟩, prog_17_method_154_code, 1, (Option.some Jvm.ClassFile.FieldType.boolean))
theorem okV_J_isLatin1 : okV K_J_isLatin1 0 := ⟨w1_56, w1_54, w1_55, w1_3, ⟨by decide, by decide, by decide +kernel⟩, by decide⟩
theorem d_J_isLatin1_0 : decode prog_17_method_154_code 0 = .ok (.getstatic 38, 3) := by decide +kernel
theorem d_J_isLatin1_3 : decode prog_17_method_154_code 3 = .ok (.ifCond .eq 14, 3) := by decide +kernel
theorem d_J_isLatin1_6 : decode prog_17_method_154_code 6 = .ok (.aload_n 0, 1) := by decide +kernel
theorem d_J_isLatin1_7 : decode prog_17_method_154_code 7 = .ok (.getfield 15, 3) := by decide +kernel
theorem d_J_isLatin1_10 : decode prog_17_method_154_code 10 = .ok (.ifCond .ne 7, 3) := by decide +kernel
theorem d_J_isLatin1_13 : decode prog_17_method_154_code 13 = .ok (.iconst 1, 1) := by decide +kernel
theorem d_J_isLatin1_14 : decode prog_17_method_154_code 14 = .ok (.goto 4, 3) := by decide +kernel
theorem d_J_isLatin1_17 : decode prog_17_method_154_code 17 = .ok (.iconst 0, 1) := by decide +kernel
theorem d_J_isLatin1_18 : decode prog_17_method_154_code 18 = .ok (.ireturn, 1) := by decide +kernel
abbrev K_J_length : Mk := (⟨"java/lang/String", "length", "()I"⟩, prog_17_method_54_code, 1, (Option.some Jvm.ClassFile.FieldType.int))
theorem okV_J_length : okV K_J_length 0 := ⟨w1_42, w1_40, w1_41, w1_3, ⟨by decide, by decide, by decide +kernel⟩, by decide⟩
theorem d_J_length_0 : decode prog_17_method_54_code 0 = .ok (.aload_n 0, 1) := by decide +kernel
theorem d_J_length_1 : decode prog_17_method_54_code 1 = .ok (.getfield 9, 3) := by decide +kernel
theorem d_J_length_4 : decode prog_17_method_54_code 4 = .ok (.arraylength, 1) := by decide +kernel
theorem d_J_length_5 : decode prog_17_method_54_code 5 = .ok (.aload_n 0, 1) := by decide +kernel
theorem d_J_length_6 : decode prog_17_method_54_code 6 = .ok (.invokevirtual 335, 3) := by decide +kernel
theorem d_J_length_9 : decode prog_17_method_54_code 9 = .ok (.ishr, 1) := by decide +kernel
theorem d_J_length_10 : decode prog_17_method_54_code 10 = .ok (.ireturn, 1) := by decide +kernel
abbrev K_J_preIndex : Mk := (⟨"jdk/internal/util/Preconditions", "checkIndex", "(IILjava/util/function/BiFunction;)I"⟩, prog_22_method_11_code, 3, (Option.some Jvm.ClassFile.FieldType.int))
theorem okS_J_preIndex : okS K_J_preIndex 3 := ⟨w1_67, w1_66, w1_5, ⟨by decide, by decide, by decide +kernel⟩, by decide⟩
theorem d_J_preIndex_0 : decode prog_22_method_11_code 0 = .ok (.iload_n 0, 1) := by decide +kernel
theorem d_J_preIndex_1 : decode prog_22_method_11_code 1 = .ok (.ifCond .lt 8, 3) := by decide +kernel
theorem d_J_preIndex_4 : decode prog_22_method_11_code 4 = .ok (.iload_n 0, 1) := by decide +kernel
theorem d_J_preIndex_5 : decode prog_22_method_11_code 5 = .ok (.iload_n 1, 1) := by decide +kernel
theorem d_J_preIndex_6 : decode prog_22_method_11_code 6 = .ok (.if_icmp .lt 10, 3) := by decide +kernel
theorem d_J_preIndex_9 : decode prog_22_method_11_code 9 = .ok (.aload_n 2, 1) := by decide +kernel
theorem d_J_preIndex_10 : decode prog_22_method_11_code 10 = .ok (.iload_n 0, 1) := by decide +kernel
theorem d_J_preIndex_11 : decode prog_22_method_11_code 11 = .ok (.iload_n 1, 1) := by decide +kernel
theorem d_J_preIndex_12 : decode prog_22_method_11_code 12 = .ok (.invokestatic 95, 3) := by decide +kernel
theorem d_J_preIndex_15 : decode prog_22_method_11_code 15 = .ok (.athrow, 1) := by decide +kernel
theorem d_J_preIndex_16 : decode prog_22_method_11_code 16 = .ok (.iload_n 0, 1) := by decide +kernel
theorem d_J_preIndex_17 : decode prog_22_method_11_code 17 = .ok (.ireturn, 1) := by decide +kernel
abbrev K_J_checkIndex : Mk := (⟨"java/lang/String", "checkIndex", "(II)V"⟩, prog_17_method_155_code, 2, (Option.none : Option Jvm.ClassFile.FieldType))
theorem okS_J_checkIndex : okS K_J_checkIndex 2 := ⟨w1_62, w1_61, w1_3, ⟨by decide, by decide, by decide +kernel⟩, by decide⟩
theorem d_J_checkIndex_0 : decode prog_17_method_155_code 0 = .ok (.iload_n 0, 1) := by decide +kernel
theorem d_J_checkIndex_1 : decode prog_17_method_155_code 1 = .ok (.iload_n 1, 1) := by decide +kernel
theorem d_J_checkIndex_2 : decode prog_17_method_155_code 2 = .ok (.getstatic 1053, 3) := by decide +kernel
theorem d_J_checkIndex_5 : decode prog_17_method_155_code 5 = .ok (.invokestatic 1059, 3) := by decide +kernel
theorem d_J_checkIndex_8 : decode prog_17_method_155_code 8 = .ok (.pop, 1) := by decide +kernel
theorem d_J_checkIndex_9 : decode prog_17_method_155_code 9 = .ok (.return_, 1) := by decide +kernel
abbrev K_J_latinAt : Mk := (⟨"java/lang/StringLatin1", "charAt", "([BI)C"⟩, prog_18_method_2_code, 2, (Option.some Jvm.ClassFile.FieldType.char))
theorem okS_J_latinAt : okS K_J_latinAt 2 := ⟨w1_59, w1_58, w1_4, ⟨by decide, by decide, by decide +kernel⟩, by decide⟩
theorem d_J_latinAt_0 : decode prog_18_method_2_code 0 = .ok (.iload_n 1, 1) := by decide +kernel
theorem d_J_latinAt_1 : decode prog_18_method_2_code 1 = .ok (.aload_n 0, 1) := by decide +kernel
theorem d_J_latinAt_2 : decode prog_18_method_2_code 2 = .ok (.arraylength, 1) := by decide +kernel
theorem d_J_latinAt_3 : decode prog_18_method_2_code 3 = .ok (.invokestatic 9, 3) := by decide +kernel
theorem d_J_latinAt_6 : decode prog_18_method_2_code 6 = .ok (.aload_n 0, 1) := by decide +kernel
theorem d_J_latinAt_7 : decode prog_18_method_2_code 7 = .ok (.iload_n 1, 1) := by decide +kernel
theorem d_J_latinAt_8 : decode prog_18_method_2_code 8 = .ok (.baload, 1) := by decide +kernel
theorem d_J_latinAt_9 : decode prog_18_method_2_code 9 = .ok (.sipush 255, 3) := by decide +kernel
theorem d_J_latinAt_12 : decode prog_18_method_2_code 12 = .ok (.iand, 1) := by decide +kernel
theorem d_J_latinAt_13 : decode prog_18_method_2_code 13 = .ok (.i2c, 1) := by decide +kernel
theorem d_J_latinAt_14 : decode prog_18_method_2_code 14 = .ok (.ireturn, 1) := by decide +kernel
abbrev K_J_charAt : Mk := (⟨"java/lang/String", "charAt", "(I)C"⟩, prog_17_method_56_code, 2, (Option.some Jvm.ClassFile.FieldType.char))
theorem okV_J_charAt : okV K_J_charAt 1 := ⟨w1_52, w1_50, w1_51, w1_3, ⟨by decide, by decide, by decide +kernel⟩, by decide⟩
theorem d_J_charAt_0 : decode prog_17_method_56_code 0 = .ok (.aload_n 0, 1) := by decide +kernel
theorem d_J_charAt_1 : decode prog_17_method_56_code 1 = .ok (.invokevirtual 492, 3) := by decide +kernel
theorem d_J_charAt_4 : decode prog_17_method_56_code 4 = .ok (.ifCond .eq 12, 3) := by decide +kernel
theorem d_J_charAt_7 : decode prog_17_method_56_code 7 = .ok (.aload_n 0, 1) := by decide +kernel
theorem d_J_charAt_8 : decode prog_17_method_56_code 8 = .ok (.getfield 9, 3) := by decide +kernel
theorem d_J_charAt_11 : decode prog_17_method_56_code 11 = .ok (.iload_n 1, 1) := by decide +kernel
theorem d_J_charAt_12 : decode prog_17_method_56_code 12 = .ok (.invokestatic 495, 3) := by decide +kernel
theorem d_J_charAt_15 : decode prog_17_method_56_code 15 = .ok (.ireturn, 1) := by decide +kernel
theorem d_J_charAt_16 : decode prog_17_method_56_code 16 = .ok (.aload_n 0, 1) := by decide +kernel
theorem d_J_charAt_17 : decode prog_17_method_56_code 17 = .ok (.getfield 9, 3) := by decide +kernel
theorem d_J_charAt_20 : decode prog_17_method_56_code 20 = .ok (.iload_n 1, 1) := by decide +kernel
theorem d_J_charAt_21 : decode prog_17_method_56_code 21 = .ok (.invokestatic 498, 3) := by decide +kernel
theorem d_J_charAt_24 : decode prog_17_method_56_code 24 = .ok (.ireturn, 1) := by decide +kernel
theorem jk_coder (q v : Nat) : JM 0 K_J_coder [.ref q] q v (some (.int 0)) := by
  refine JM.of rfl (Nat.le_of_ble_eq_true rfl) ?_
  intro p l e s m args below meth c C hK ls hl
  have hl : lv_has ls 1 [(0, .ref q)] := hl
  refine va_gets C.1 C.2.1 hK.2.2.2.2.1 va_S.rf C.2.2.2.1 (wd_use C.2.2.2.2.1 w1_47) (fun _ h => h) d_J_coder_0 ?_
  refine lv_if_eq C.1 C.2.1 (tgt := 13) d_J_coder_3 (by decide) (fun h => absurd h (by decide)) (fun _ => ?_)
  refine lv_aload_n C.1 C.2.1 (pc := 6) d_J_coder_6 rfl (lv_at hl 0 rfl) ?_
  refine vk_getf C.1 C.2.1 (pc := 7) hK.2.1 va_S.rf C.2.2.2.1 (wd_use C.2.2.2.2.1 w10_178) (fun _ h => h) d_J_coder_7 ?_
  refine lv_goto C.1 C.2.1 (pc := 10) (tgt := 14) d_J_coder_10 (by decide) ?_
  exact W.zret (ty := .byte) C.1 C.2.1 (C.2.2.2.2.2.1.trans rfl) rfl (fun t ht _ => ⟨rfl, ht⟩) (fun _ h => absurd h List.not_mem_nil) d_J_coder_14 C.2.2.2.2.2.2
theorem jk_isLatin1 (q v : Nat) : JM 0 K_J_isLatin1 [.ref q] q v (some (.int 1)) := by
  refine JM.of rfl (Nat.le_of_ble_eq_true rfl) ?_
  intro p l e s m args below meth c C hK ls hl
  have hl : lv_has ls 1 [(0, .ref q)] := hl
  refine va_gets C.1 C.2.1 hK.2.2.2.2.1 va_S.rf C.2.2.2.1 (wd_use C.2.2.2.2.1 w1_47) (fun _ h => h) d_J_isLatin1_0 ?_
  refine lv_if_eq C.1 C.2.1 (tgt := 17) d_J_isLatin1_3 (by decide) (fun h => absurd h (by decide)) (fun _ => ?_)
  refine lv_aload_n C.1 C.2.1 (pc := 6) d_J_isLatin1_6 rfl (lv_at hl 0 rfl) ?_
  refine vk_getf C.1 C.2.1 (pc := 7) hK.2.1 va_S.rf C.2.2.2.1 (wd_use C.2.2.2.2.1 w10_178) (fun _ h => h) d_J_isLatin1_7 ?_
  refine lv_if_ne C.1 C.2.1 (pc := 10) (tgt := 17) d_J_isLatin1_10 (by decide) (fun h => absurd rfl h) (fun _ => ?_)
  refine lv_iconst C.1 C.2.1 (pc := 13) (v := 1) d_J_isLatin1_13 (by decide) ?_
  refine lv_goto C.1 C.2.1 (pc := 14) (tgt := 18) d_J_isLatin1_14 (by decide) ?_
  exact W.zret (ty := .boolean) C.1 C.2.1 (C.2.2.2.2.2.1.trans rfl) rfl (fun t ht _ => ⟨rfl, ht⟩) (fun _ h => absurd h List.not_mem_nil) d_J_isLatin1_18 C.2.2.2.2.2.2
theorem jk_length (q v : Nat) : JM 1 K_J_length [.ref q] q v (some (.int (nI nT))) := by
  refine JM.of rfl (Nat.le_of_ble_eq_true rfl) ?_
  intro p l e s m args below meth c C hK ls hl
  have hl : lv_has ls 1 [(0, .ref q)] := hl
  refine lv_aload_n C.1 C.2.1 (pc := 0) d_J_length_0 rfl (lv_at hl 0 rfl) ?_
  refine vk_getf C.1 C.2.1 (pc := 1) hK.2.2.1 va_S.rf C.2.2.2.1 (wd_use C.2.2.2.2.1 w10_177) (fun _ h => h) d_J_length_1 ?_
  refine va_tlen C.1 C.2.1 (pc := 4) hK.2.2.2.1 va_S.rf (v := nI nT) rfl d_J_length_4 ?_
  refine lv_aload_n C.1 C.2.1 (pc := 5) d_J_length_5 rfl (lv_at hl 0 rfl) ?_
  refine q_callV (K := K_J_length) (K' := K_J_coder) (As := []) (r := some (.int 0)) (st := [.int (nI nT)]) C.1 C.2.1 C.2.2.1 C.2.2.2.1 C.2.2.2.2.1 hK okV_J_coder rfl (jk_coder q v) w1_43 d_J_length_6 rfl ⟨by decide, by decide⟩ (Nat.zero_le _) (Nat.zero_le _) hl.1 rfl (Nat.le_of_ble_eq_true rfl) ?_
  refine lv_ishr C.1 C.2.1 (pc := 9) d_J_length_9 ?_
  refine lv_topi (fun y hy => ?_)
  have hy : y = nI nT := hy.trans (by decide +kernel)
  subst hy
  exact W.iret C.1 C.2.1 (C.2.2.2.2.2.1.trans rfl) (fun t ht _ => ⟨rfl, ht⟩) (fun _ h => absurd h List.not_mem_nil) d_J_length_10 C.2.2.2.2.2.2
theorem jk_preIndex (q v : Nat) {j : Nat} (hj : j < nT) {w : Value} (hw : w = .null ∨ ∃ t, w = .ref t) : JM 0 K_J_preIndex [.int (nI j), .int (nI nT), w] q v (some (.int (nI j))) := by
  have hj2 : j < 2 ^ 31 := by unfold nT at hj; omega
  have hn2 : nT < 2 ^ 31 := by decide
  have h0 : ¬ nI j < 0 := by rw [zlit 0, nI_ltI hj2 (by decide)]; omega
  have h1 : nI j < nI nT := by rw [nI_ltI hj2 hn2]; exact hj
  refine JM.of rfl (by rcases hw with rfl | ⟨t, rfl⟩ <;> exact Nat.le_of_ble_eq_true rfl) ?_
  intro p l e s m args below meth c C hK ls hl
  have hl : lv_has ls 3 [(0, .int (nI j)), (1, .int (nI nT)), (2, w)] := hl
  refine lv_iload_n C.1 C.2.1 (pc := 0) d_J_preIndex_0 rfl (lv_at hl 0 rfl) ?_
  refine lv_if_lt C.1 C.2.1 (pc := 1) (tgt := 9) d_J_preIndex_1 (by decide) (fun h => absurd h h0) (fun _ => ?_)
  refine lv_iload_n C.1 C.2.1 (pc := 4) d_J_preIndex_4 rfl (lv_at hl 0 rfl) ?_
  refine lv_iload_n C.1 C.2.1 (pc := 5) d_J_preIndex_5 rfl (lv_at hl 1 rfl) ?_
  refine lv_icmp_lt C.1 C.2.1 (pc := 6) (tgt := 16) d_J_preIndex_6 (by decide) (fun _ => ?_) (fun h => absurd h1 h)
  refine lv_iload_n C.1 C.2.1 (pc := 16) d_J_preIndex_16 rfl (lv_at hl 0 rfl) ?_
  exact W.iret C.1 C.2.1 (C.2.2.2.2.2.1.trans rfl) (fun t ht _ => ⟨rfl, ht⟩) (fun _ h => absurd h List.not_mem_nil) d_J_preIndex_17 C.2.2.2.2.2.2
theorem jk_checkIndex (q v : Nat) {j : Nat} (hj : j < nT) : JM 1 K_J_checkIndex [.int (nI j), .int (nI nT)] q v none := by
  refine JM.of rfl (Nat.le_of_ble_eq_true rfl) ?_
  intro p l e s m args below meth c C hK ls hl
  have hl : lv_has ls 2 [(0, .int (nI j)), (1, .int (nI nT))] := hl
  refine lv_iload_n C.1 C.2.1 (pc := 0) d_J_checkIndex_0 rfl (lv_at hl 0 rfl) ?_
  refine lv_iload_n C.1 C.2.1 (pc := 1) d_J_checkIndex_1 rfl (lv_at hl 1 rfl) ?_
  have go : ∀ w : Value, (w = .null ∨ ∃ t, w = .ref t) → W p l e (rmN 1) s m args below meth c s.heap [] 0 0 (MQ below (JQ none) args s 0 0 nO) (F0 m 5 ls [w, .int (nI nT), .int (nI j)]) := by
    intro w hw
    refine q_callS (K := K_J_checkIndex) (K' := K_J_preIndex) (As := [.int (nI j), .int (nI nT), w]) (r := some (.int (nI j))) (st := []) C.1 C.2.1 C.2.2.1 C.2.2.2.1 C.2.2.2.2.1 hK okS_J_preIndex (jk_preIndex q v hj hw) w1_65 d_J_checkIndex_5 rfl ⟨by decide, by decide⟩ (Nat.zero_le _) (Nat.zero_le _) hl.1 rfl (Nat.zero_le _) ?_
    refine lv_pop C.1 C.2.1 (pc := 8) d_J_checkIndex_8 rfl ?_
    exact W.vret C.1 C.2.1 (C.2.2.2.2.2.1.trans rfl) (fun t ht _ => ⟨rfl, ht⟩) (fun _ h => absurd h List.not_mem_nil) d_J_checkIndex_9 C.2.2.2.2.2.2
  rcases hK.2.2.2.2.2 with hZ | ⟨t, hZ⟩
  · exact va_gets C.1 C.2.1 (pc := 2) hZ va_S.rf C.2.2.2.1 (wd_use C.2.2.2.2.1 w1_63) (fun _ h => h) d_J_checkIndex_2 (go _ (Or.inl rfl))
  · exact va_gets C.1 C.2.1 (pc := 2) hZ va_S.rf C.2.2.2.1 (wd_use C.2.2.2.2.1 w1_63) (fun _ h => h) d_J_checkIndex_2 (go _ (Or.inr ⟨t, rfl⟩))
theorem bT_and : ∀ j, j < nT → ((bT.getD j 0 &&& 255).toUInt32 % 65536).toInt32 = bT.getD j 0 ∧ vp_nar .char (bT.getD j 0) = bT.getD j 0 := by decide +kernel
theorem jk_latinAt (q v : Nat) {j : Nat} (hj : j < nT) : JM 2 K_J_latinAt [.ref v, .int (nI j)] q v (some (.int (bT.getD j 0))) := by
  have hj2 : j < 2 ^ 31 := by unfold nT at hj; omega
  refine JM.of rfl (Nat.le_of_ble_eq_true rfl) ?_
  intro p l e s m args below meth c C hK ls hl
  have hl : lv_has ls 2 [(0, .ref v), (1, .int (nI j))] := hl
  refine lv_iload_n C.1 C.2.1 (pc := 0) d_J_latinAt_0 rfl (lv_at hl 1 rfl) ?_
  refine lv_aload_n C.1 C.2.1 (pc := 1) d_J_latinAt_1 rfl (lv_at hl 0 rfl) ?_
  refine va_tlen C.1 C.2.1 (pc := 2) hK.2.2.2.1 va_S.rf (v := nI nT) rfl d_J_latinAt_2 ?_
  refine q_callS (K := K_J_latinAt) (K' := K_J_checkIndex) (As := [.int (nI j), .int (nI nT)]) (r := none) (st := []) C.1 C.2.1 C.2.2.1 C.2.2.2.1 C.2.2.2.2.1 hK okS_J_checkIndex (jk_checkIndex q v hj) w1_60 d_J_latinAt_3 rfl ⟨by decide, by decide⟩ (Nat.zero_le _) (Nat.zero_le _) hl.1 rfl (Nat.zero_le _) ?_
  refine lv_aload_n C.1 C.2.1 (pc := 6) d_J_latinAt_6 rfl (lv_at hl 0 rfl) ?_
  refine lv_iload_n C.1 C.2.1 (pc := 7) d_J_latinAt_7 rfl (lv_at hl 1 rfl) ?_
  refine va_tb C.1 C.2.1 (pc := 8) hK.2.2.2.1 va_S.rf (inB_vp (inB_nI hj (by decide))) (v := .int (bT.getD j 0)) (by rw [nI_clamp hj2]) d_J_latinAt_8 ?_
  refine lv_sipush C.1 C.2.1 (pc := 9) (v := 255) d_J_latinAt_9 (by decide) ?_
  refine lv_iand C.1 C.2.1 (pc := 12) d_J_latinAt_12 ?_
  refine lv_i2c C.1 C.2.1 (pc := 13) d_J_latinAt_13 (bT_and j hj).1 ?_
  exact W.zret (ty := .char) C.1 C.2.1 (C.2.2.2.2.2.1.trans rfl) (congrArg Value.int (bT_and j hj).2) (fun t ht _ => ⟨rfl, ht⟩) (fun _ h => absurd h List.not_mem_nil) d_J_latinAt_14 C.2.2.2.2.2.2
theorem jk_charAt (q v : Nat) {j : Nat} (hj : j < nT) : JM 3 K_J_charAt [.ref q, .int (nI j)] q v (some (.int (bT.getD j 0))) := by
  refine JM.of rfl (Nat.le_of_ble_eq_true rfl) ?_
  intro p l e s m args below meth c C hK ls hl
  have hl : lv_has ls 2 [(0, .ref q), (1, .int (nI j))] := hl
  refine lv_aload_n C.1 C.2.1 (pc := 0) d_J_charAt_0 rfl (lv_at hl 0 rfl) ?_
  refine q_callV (K := K_J_charAt) (K' := K_J_isLatin1) (As := []) (r := some (.int 1)) (st := []) C.1 C.2.1 C.2.2.1 C.2.2.2.1 C.2.2.2.2.1 hK okV_J_isLatin1 rfl (jk_isLatin1 q v) w1_53 d_J_charAt_1 rfl ⟨by decide, by decide⟩ (Nat.zero_le _) (Nat.zero_le _) hl.1 rfl (Nat.zero_le _) ?_
  refine lv_if_eq C.1 C.2.1 (pc := 4) (tgt := 16) d_J_charAt_4 (by decide) (fun h => absurd h (by decide)) (fun _ => ?_)
  refine lv_aload_n C.1 C.2.1 (pc := 7) d_J_charAt_7 rfl (lv_at hl 0 rfl) ?_
  refine vk_getf C.1 C.2.1 (pc := 8) hK.2.2.1 va_S.rf C.2.2.2.1 (wd_use C.2.2.2.2.1 w10_177) (fun _ h => h) d_J_charAt_8 ?_
  refine lv_iload_n C.1 C.2.1 (pc := 11) d_J_charAt_11 rfl (lv_at hl 1 rfl) ?_
  refine q_callS (K := K_J_charAt) (K' := K_J_latinAt) (As := [.ref v, .int (nI j)]) (r := some (.int (bT.getD j 0))) (st := []) C.1 C.2.1 C.2.2.1 C.2.2.2.1 C.2.2.2.2.1 hK okS_J_latinAt (jk_latinAt q v hj) w1_57 d_J_charAt_12 rfl ⟨by decide, by decide⟩ (Nat.zero_le _) (Nat.zero_le _) hl.1 rfl (Nat.zero_le _) ?_
  exact W.zret (ty := .char) C.1 C.2.1 (C.2.2.2.2.2.1.trans rfl) (congrArg Value.int (bT_and j hj).2) (fun t ht _ => ⟨rfl, ht⟩) (fun _ h => absurd h List.not_mem_nil) d_J_charAt_15 C.2.2.2.2.2.2
