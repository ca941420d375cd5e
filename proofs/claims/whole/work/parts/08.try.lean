/-! LastPages$Story.leadsTo(II)I -/
abbrev K_St_leadsTo : Mk := (⟨"LastPages$Story", "leadsTo", "(II)I"⟩, prog_8_method_11_code, 3, (Option.some Jvm.ClassFile.FieldType.int))
theorem okV_St_leadsTo : okV K_St_leadsTo 2 := ⟨w4_171, w4_169, w4_170, w1_10, ⟨by decide, by decide, by decide +kernel⟩, by decide⟩
theorem d_St_leadsTo_0 : decode prog_8_method_11_code 0 = .ok (.iload_n 1, 1) := by decide +kernel
theorem d_St_leadsTo_1 : decode prog_8_method_11_code 1 = .ok (.ifCond .lt 23, 3) := by decide +kernel
theorem d_St_leadsTo_4 : decode prog_8_method_11_code 4 = .ok (.iload_n 1, 1) := by decide +kernel
theorem d_St_leadsTo_5 : decode prog_8_method_11_code 5 = .ok (.aload_n 0, 1) := by decide +kernel
theorem d_St_leadsTo_6 : decode prog_8_method_11_code 6 = .ok (.getfield 24, 3) := by decide +kernel
theorem d_St_leadsTo_9 : decode prog_8_method_11_code 9 = .ok (.if_icmp .ge 15, 3) := by decide +kernel
theorem d_St_leadsTo_12 : decode prog_8_method_11_code 12 = .ok (.iload_n 2, 1) := by decide +kernel
theorem d_St_leadsTo_13 : decode prog_8_method_11_code 13 = .ok (.ifCond .lt 11, 3) := by decide +kernel
theorem d_St_leadsTo_16 : decode prog_8_method_11_code 16 = .ok (.iload_n 2, 1) := by decide +kernel
theorem d_St_leadsTo_17 : decode prog_8_method_11_code 17 = .ok (.aload_n 0, 1) := by decide +kernel
theorem d_St_leadsTo_18 : decode prog_8_method_11_code 18 = .ok (.getfield 28, 3) := by decide +kernel
theorem d_St_leadsTo_21 : decode prog_8_method_11_code 21 = .ok (.if_icmp .lt 5, 3) := by decide +kernel
theorem d_St_leadsTo_24 : decode prog_8_method_11_code 24 = .ok (.iconst (-1), 1) := by decide +kernel
theorem d_St_leadsTo_25 : decode prog_8_method_11_code 25 = .ok (.ireturn, 1) := by decide +kernel
theorem d_St_leadsTo_26 : decode prog_8_method_11_code 26 = .ok (.aload_n 0, 1) := by decide +kernel
theorem d_St_leadsTo_27 : decode prog_8_method_11_code 27 = .ok (.getfield 15, 3) := by decide +kernel
theorem d_St_leadsTo_30 : decode prog_8_method_11_code 30 = .ok (.iload_n 1, 1) := by decide +kernel
theorem d_St_leadsTo_31 : decode prog_8_method_11_code 31 = .ok (.bipush 8, 2) := by decide +kernel
theorem d_St_leadsTo_33 : decode prog_8_method_11_code 33 = .ok (.imul, 1) := by decide +kernel
theorem d_St_leadsTo_34 : decode prog_8_method_11_code 34 = .ok (.iload_n 2, 1) := by decide +kernel
theorem d_St_leadsTo_35 : decode prog_8_method_11_code 35 = .ok (.iadd, 1) := by decide +kernel
theorem d_St_leadsTo_36 : decode prog_8_method_11_code 36 = .ok (.iaload, 1) := by decide +kernel
theorem d_St_leadsTo_37 : decode prog_8_method_11_code 37 = .ok (.ireturn, 1) := by decide +kernel
def St_leadsTo (Y : Ly) (l0 : Nat) (l1 : Int32) (l2 : Int32) (h : Hp) : Option Int32 :=
  if l1 < 0 then
    some (-1)
  else
    if (hGi h 604 l0) ≤ l1 then
      some (-1)
    else
      if l2 < 0 then
        some (-1)
      else
        if l2 < (hGi h 605 l0) then
          if inB ((l1 * 8) + l2) (lnY Y (hGr h 601 l0)) = true then
            some (hAi h (hGr h 601 l0) (Int32.toNatClampNeg ((l1 * 8) + l2)))
          else none
        else
          some (-1)
theorem ok_St_leadsTo (Y : Ly) (l0 : Nat) (l1 : Int32) (l2 : Int32) (h : Hp) (t0 : isO Y 6 l0) : AM Y 0 K_St_leadsTo [.ref l0, .int l1, .int l2] h (St_leadsTo Y l0 l1 l2 h) (pI h) := by
  refine AM.of rfl (Nat.le_of_ble_eq_true rfl) ?_
  show AW Y 0 K_St_leadsTo 0 [(0, .ref l0), (1, .int l1), (2, .int l2)] [] h (St_leadsTo Y l0 l1 l2 h) (pI h)
  unfold St_leadsTo
  refine aw_iload_n (pc := 0) d_St_leadsTo_0 rfl 1 rfl ?_
  refine aw_if_lt (pc := 1) (tgt := 24) d_St_leadsTo_1 (by decide) (fun c1 => ?_) (fun c1 => ?_)
  · refine aw_iconst (pc := 24) (x := (-1)) d_St_leadsTo_24 (by decide) ?_
    exact aw_ireturn (pc := 25) d_St_leadsTo_25 rfl rfl
  · refine aw_iload_n (pc := 4) d_St_leadsTo_4 rfl 1 rfl ?_
    refine aw_aload_n (pc := 5) d_St_leadsTo_5 rfl 0 rfl ?_
    refine gt_604 (pc := 6) d_St_leadsTo_6 w1_186 t0 ?_
    refine aw_icmp_ge (pc := 9) (tgt := 24) d_St_leadsTo_9 (by decide) (fun c2 => ?_) (fun c2 => ?_)
    · refine aw_iconst (pc := 24) (x := (-1)) d_St_leadsTo_24 (by decide) ?_
      exact aw_ireturn (pc := 25) d_St_leadsTo_25 rfl rfl
    · refine aw_iload_n (pc := 12) d_St_leadsTo_12 rfl 2 rfl ?_
      refine aw_if_lt (pc := 13) (tgt := 24) d_St_leadsTo_13 (by decide) (fun c3 => ?_) (fun c3 => ?_)
      · refine aw_iconst (pc := 24) (x := (-1)) d_St_leadsTo_24 (by decide) ?_
        exact aw_ireturn (pc := 25) d_St_leadsTo_25 rfl rfl
      · refine aw_iload_n (pc := 16) d_St_leadsTo_16 rfl 2 rfl ?_
        refine aw_aload_n (pc := 17) d_St_leadsTo_17 rfl 0 rfl ?_
        refine gt_605 (pc := 18) d_St_leadsTo_18 w1_190 t0 ?_
        refine aw_icmp_lt (pc := 21) (tgt := 26) d_St_leadsTo_21 (by decide) (fun c4 => ?_) (fun c4 => ?_)
        · refine aw_aload_n (pc := 26) d_St_leadsTo_26 rfl 0 rfl ?_
          refine gt_601 (pc := 27) d_St_leadsTo_27 w1_181 t0 (fun t5 => ?_)
          refine aw_iload_n (pc := 30) d_St_leadsTo_30 rfl 1 rfl ?_
          refine aw_bipush (pc := 31) (x := 8) d_St_leadsTo_31 (by decide) ?_
          refine aw_imul (pc := 33) d_St_leadsTo_33 ?_
          refine aw_iload_n (pc := 34) d_St_leadsTo_34 rfl 2 rfl ?_
          refine aw_iadd (pc := 35) d_St_leadsTo_35 ?_
          refine aw_iaload (pc := 36) d_St_leadsTo_36 t5 (fun c6 => ?_)
          exact aw_ireturn (pc := 37) d_St_leadsTo_37 rfl rfl
        · refine aw_iconst (pc := 24) (x := (-1)) d_St_leadsTo_24 (by decide) ?_
          exact aw_ireturn (pc := 25) d_St_leadsTo_25 rfl rfl
/-! LastPages$Shelf.hasBook(I)Z -/
abbrev K_Sh_hasBook : Mk := (⟨"LastPages$Shelf", "hasBook", "(I)Z"⟩, prog_6_method_7_code, 2, (Option.some Jvm.ClassFile.FieldType.boolean))
theorem okV_Sh_hasBook : okV K_Sh_hasBook 1 := ⟨w4_58, w4_56, w4_57, w1_13, ⟨by decide, by decide, by decide +kernel⟩, by decide⟩
theorem d_Sh_hasBook_0 : decode prog_6_method_7_code 0 = .ok (.iload_n 1, 1) := by decide +kernel
theorem d_Sh_hasBook_1 : decode prog_6_method_7_code 1 = .ok (.ifCond .lt 15, 3) := by decide +kernel
theorem d_Sh_hasBook_4 : decode prog_6_method_7_code 4 = .ok (.iload_n 1, 1) := by decide +kernel
theorem d_Sh_hasBook_5 : decode prog_6_method_7_code 5 = .ok (.aload_n 0, 1) := by decide +kernel
theorem d_Sh_hasBook_6 : decode prog_6_method_7_code 6 = .ok (.getfield 73, 3) := by decide +kernel
theorem d_Sh_hasBook_9 : decode prog_6_method_7_code 9 = .ok (.if_icmp .ge 7, 3) := by decide +kernel
theorem d_Sh_hasBook_12 : decode prog_6_method_7_code 12 = .ok (.iconst 1, 1) := by decide +kernel
theorem d_Sh_hasBook_13 : decode prog_6_method_7_code 13 = .ok (.goto 4, 3) := by decide +kernel
theorem d_Sh_hasBook_16 : decode prog_6_method_7_code 16 = .ok (.iconst 0, 1) := by decide +kernel
theorem d_Sh_hasBook_17 : decode prog_6_method_7_code 17 = .ok (.ireturn, 1) := by decide +kernel
def Sh_hasBook (Y : Ly) (l0 : Nat) (l1 : Int32) (h : Hp) : Option Bool :=
  if l1 < 0 then
    some false
  else
    if (hGi h 415 l0) ≤ l1 then
      some false
    else
      some true
theorem ok_Sh_hasBook (Y : Ly) (l0 : Nat) (l1 : Int32) (h : Hp) (t0 : isO Y 4 l0) : AM Y 0 K_Sh_hasBook [.ref l0, .int l1] h (Sh_hasBook Y l0 l1 h) (pZ h) := by
  refine AM.of rfl (Nat.le_of_ble_eq_true rfl) ?_
  show AW Y 0 K_Sh_hasBook 0 [(0, .ref l0), (1, .int l1)] [] h (Sh_hasBook Y l0 l1 h) (pZ h)
  unfold Sh_hasBook
  refine aw_iload_n (pc := 0) d_Sh_hasBook_0 rfl 1 rfl ?_
  refine aw_if_lt (pc := 1) (tgt := 16) d_Sh_hasBook_1 (by decide) (fun c1 => ?_) (fun c1 => ?_)
  · refine aw_iconst (pc := 16) (x := 0) d_Sh_hasBook_16 (by decide) ?_
    exact aw_zreturn (pc := 17) (b := false) d_Sh_hasBook_17 rfl rfl
  · refine aw_iload_n (pc := 4) d_Sh_hasBook_4 rfl 1 rfl ?_
    refine aw_aload_n (pc := 5) d_Sh_hasBook_5 rfl 0 rfl ?_
    refine gt_415 (pc := 6) d_Sh_hasBook_6 w2_158 t0 ?_
    refine aw_icmp_ge (pc := 9) (tgt := 16) d_Sh_hasBook_9 (by decide) (fun c2 => ?_) (fun c2 => ?_)
    · refine aw_iconst (pc := 16) (x := 0) d_Sh_hasBook_16 (by decide) ?_
      exact aw_zreturn (pc := 17) (b := false) d_Sh_hasBook_17 rfl rfl
    · refine aw_iconst (pc := 12) (x := 1) d_Sh_hasBook_12 (by decide) ?_
      refine aw_goto (pc := 13) (tgt := 17) d_Sh_hasBook_13 (by decide) ?_
      exact aw_zreturn (pc := 17) (b := true) d_Sh_hasBook_17 rfl rfl
/-! LastPages$Shelf.placeOf(I)I -/
abbrev K_Sh_placeOf : Mk := (⟨"LastPages$Shelf", "placeOf", "(I)I"⟩, prog_6_method_15_code, 4, (Option.some Jvm.ClassFile.FieldType.int))
theorem okV_Sh_placeOf : okV K_Sh_placeOf 1 := ⟨w4_203, w4_201, w4_202, w1_13, ⟨by decide, by decide, by decide +kernel⟩, by decide⟩
theorem d_Sh_placeOf_0 : decode prog_6_method_15_code 0 = .ok (.aload_n 0, 1) := by decide +kernel
theorem d_Sh_placeOf_1 : decode prog_6_method_15_code 1 = .ok (.iload_n 1, 1) := by decide +kernel
theorem d_Sh_placeOf_2 : decode prog_6_method_15_code 2 = .ok (.invokevirtual 112, 3) := by decide +kernel
theorem d_Sh_placeOf_5 : decode prog_6_method_15_code 5 = .ok (.ifCond .ne 5, 3) := by decide +kernel
theorem d_Sh_placeOf_8 : decode prog_6_method_15_code 8 = .ok (.iconst (-1), 1) := by decide +kernel
theorem d_Sh_placeOf_9 : decode prog_6_method_15_code 9 = .ok (.ireturn, 1) := by decide +kernel
theorem d_Sh_placeOf_10 : decode prog_6_method_15_code 10 = .ok (.aload_n 0, 1) := by decide +kernel
theorem d_Sh_placeOf_11 : decode prog_6_method_15_code 11 = .ok (.getfield 41, 3) := by decide +kernel
theorem d_Sh_placeOf_14 : decode prog_6_method_15_code 14 = .ok (.iload_n 1, 1) := by decide +kernel
theorem d_Sh_placeOf_15 : decode prog_6_method_15_code 15 = .ok (.iaload, 1) := by decide +kernel
theorem d_Sh_placeOf_16 : decode prog_6_method_15_code 16 = .ok (.istore_n 2, 1) := by decide +kernel
theorem d_Sh_placeOf_17 : decode prog_6_method_15_code 17 = .ok (.iconst 0, 1) := by decide +kernel
theorem d_Sh_placeOf_18 : decode prog_6_method_15_code 18 = .ok (.istore_n 3, 1) := by decide +kernel
theorem d_Sh_placeOf_19 : decode prog_6_method_15_code 19 = .ok (.iload_n 3, 1) := by decide +kernel
theorem d_Sh_placeOf_20 : decode prog_6_method_15_code 20 = .ok (.aload_n 0, 1) := by decide +kernel
theorem d_Sh_placeOf_21 : decode prog_6_method_15_code 21 = .ok (.getfield 47, 3) := by decide +kernel
theorem d_Sh_placeOf_24 : decode prog_6_method_15_code 24 = .ok (.iload_n 1, 1) := by decide +kernel
theorem d_Sh_placeOf_25 : decode prog_6_method_15_code 25 = .ok (.iaload, 1) := by decide +kernel
theorem d_Sh_placeOf_26 : decode prog_6_method_15_code 26 = .ok (.if_icmp .ge 34, 3) := by decide +kernel
theorem d_Sh_placeOf_29 : decode prog_6_method_15_code 29 = .ok (.iload_n 2, 1) := by decide +kernel
theorem d_Sh_placeOf_30 : decode prog_6_method_15_code 30 = .ok (.iconst (-1), 1) := by decide +kernel
theorem d_Sh_placeOf_31 : decode prog_6_method_15_code 31 = .ok (.if_icmp .eq 29, 3) := by decide +kernel
theorem d_Sh_placeOf_34 : decode prog_6_method_15_code 34 = .ok (.aload_n 0, 1) := by decide +kernel
theorem d_Sh_placeOf_35 : decode prog_6_method_15_code 35 = .ok (.getfield 12, 3) := by decide +kernel
theorem d_Sh_placeOf_38 : decode prog_6_method_15_code 38 = .ok (.iload_n 2, 1) := by decide +kernel
theorem d_Sh_placeOf_39 : decode prog_6_method_15_code 39 = .ok (.aload_n 0, 1) := by decide +kernel
theorem d_Sh_placeOf_40 : decode prog_6_method_15_code 40 = .ok (.getfield 50, 3) := by decide +kernel
theorem d_Sh_placeOf_43 : decode prog_6_method_15_code 43 = .ok (.iload_n 1, 1) := by decide +kernel
theorem d_Sh_placeOf_44 : decode prog_6_method_15_code 44 = .ok (.bipush 10, 2) := by decide +kernel
theorem d_Sh_placeOf_46 : decode prog_6_method_15_code 46 = .ok (.imul, 1) := by decide +kernel
theorem d_Sh_placeOf_47 : decode prog_6_method_15_code 47 = .ok (.iload_n 3, 1) := by decide +kernel
theorem d_Sh_placeOf_48 : decode prog_6_method_15_code 48 = .ok (.iadd, 1) := by decide +kernel
theorem d_Sh_placeOf_49 : decode prog_6_method_15_code 49 = .ok (.iaload, 1) := by decide +kernel
theorem d_Sh_placeOf_50 : decode prog_6_method_15_code 50 = .ok (.invokevirtual 116, 3) := by decide +kernel
theorem d_Sh_placeOf_53 : decode prog_6_method_15_code 53 = .ok (.istore_n 2, 1) := by decide +kernel
theorem d_Sh_placeOf_54 : decode prog_6_method_15_code 54 = .ok (.iinc 3 1, 3) := by decide +kernel
theorem d_Sh_placeOf_57 : decode prog_6_method_15_code 57 = .ok (.goto (-38), 3) := by decide +kernel
theorem d_Sh_placeOf_60 : decode prog_6_method_15_code 60 = .ok (.iload_n 2, 1) := by decide +kernel
theorem d_Sh_placeOf_61 : decode prog_6_method_15_code 61 = .ok (.ireturn, 1) := by decide +kernel
def Sh_placeOf_L19 (Y : Ly) (l0 : Nat) (l1 : Int32) (h : Hp) : Nat → Int32 → Int32 → Option Int32
  | 0, _, _ => none
  | F + 1, l2, l3 =>
    if inB l1 (lnY Y (hGr h 408 l0)) = true then
      if (hAi h (hGr h 408 l0) (Int32.toNatClampNeg l1)) ≤ l3 then
        some l2
      else
        if l2 = (-1) then
          some l2
        else
          if inB ((l1 * 10) + l3) (lnY Y (hGr h 409 l0)) = true then
            (St_leadsTo Y (hGr h 400 l0) l2 (hAi h (hGr h 409 l0) (Int32.toNatClampNeg ((l1 * 10) + l3))) h).bind fun q12 =>
            Sh_placeOf_L19 Y l0 l1 h F q12 (l3 + 1)
          else none
    else none
theorem Sh_placeOf_L19_ok (Y : Ly) (l0 : Nat) (l1 : Int32) (h : Hp) (tl0 : isO Y 4 l0) : ∀ (F : Nat) (l2 : Int32) (l3 : Int32), AW Y 1 K_Sh_placeOf 19 [(0, .ref l0), (1, .int l1), (2, .int l2), (3, .int l3)] [] h (Sh_placeOf_L19 Y l0 l1 h F l2 l3) (pI h) := by
  intro F
  induction F with
  | zero =>
    intro l2 l3
    exact aw_none
  | succ F ih =>
    intro l2 l3
    unfold Sh_placeOf_L19
    refine aw_iload_n (pc := 19) d_Sh_placeOf_19 rfl 3 rfl ?_
    refine aw_aload_n (pc := 20) d_Sh_placeOf_20 rfl 0 rfl ?_
    refine gt_408 (pc := 21) d_Sh_placeOf_21 w2_145 tl0 (fun t5 => ?_)
    refine aw_iload_n (pc := 24) d_Sh_placeOf_24 rfl 1 rfl ?_
    refine aw_iaload (pc := 25) d_Sh_placeOf_25 t5 (fun c6 => ?_)
    refine aw_icmp_ge (pc := 26) (tgt := 60) d_Sh_placeOf_26 (by decide) (fun c7 => ?_) (fun c7 => ?_)
    · refine aw_iload_n (pc := 60) d_Sh_placeOf_60 rfl 2 rfl ?_
      exact aw_ireturn (pc := 61) d_Sh_placeOf_61 rfl rfl
    · refine aw_iload_n (pc := 29) d_Sh_placeOf_29 rfl 2 rfl ?_
      refine aw_iconst (pc := 30) (x := (-1)) d_Sh_placeOf_30 (by decide) ?_
      refine aw_icmp_eq (pc := 31) (tgt := 60) d_Sh_placeOf_31 (by decide) (fun c8 => ?_) (fun c8 => ?_)
      · refine aw_iload_n (pc := 60) d_Sh_placeOf_60 rfl 2 rfl ?_
        exact aw_ireturn (pc := 61) d_Sh_placeOf_61 rfl rfl
      · refine aw_aload_n (pc := 34) d_Sh_placeOf_34 rfl 0 rfl ?_
        refine gt_400 (pc := 35) d_Sh_placeOf_35 w2_124 tl0 (fun t9 => ?_)
        refine aw_iload_n (pc := 38) d_Sh_placeOf_38 rfl 2 rfl ?_
        refine aw_aload_n (pc := 39) d_Sh_placeOf_39 rfl 0 rfl ?_
        refine gt_409 (pc := 40) d_Sh_placeOf_40 w2_147 tl0 (fun t10 => ?_)
        refine aw_iload_n (pc := 43) d_Sh_placeOf_43 rfl 1 rfl ?_
        refine aw_bipush (pc := 44) (x := 10) d_Sh_placeOf_44 (by decide) ?_
        refine aw_imul (pc := 46) d_Sh_placeOf_46 ?_
        refine aw_iload_n (pc := 47) d_Sh_placeOf_47 rfl 3 rfl ?_
        refine aw_iadd (pc := 48) d_Sh_placeOf_48 ?_
        refine aw_iaload (pc := 49) d_Sh_placeOf_49 t10 (fun c11 => ?_)
        refine aw_cVpI (pc := 50) (ci := 6) (T := TX6) (N := 8) (As := [.int l2, .int (hAi h (hGr h 409 l0) (Int32.toNatClampNeg ((l1 * 10) + l3)))]) (st := []) (ok_St_leadsTo Y (hGr h 400 l0) l2 (hAi h (hGr h 409 l0) (Int32.toNatClampNeg ((l1 * 10) + l3))) h t9) okV_St_leadsTo rfl (by decide) t9 w4_205 d_Sh_placeOf_50 rfl (Nat.le_of_ble_eq_true rfl) rfl (Nat.le_of_ble_eq_true rfl) (fun q12 hq12 hTq12 => ?_)
        refine aw_istore_n (pc := 53) (lv' := [(2, .int q12), (0, .ref l0), (1, .int l1), (3, .int l3)]) d_Sh_placeOf_53 rfl (by decide) rfl ?_
        refine aw_iinc (pc := 54) (w := l3 + 1) (lv' := [(3, .int (l3 + 1)), (2, .int q12), (0, .ref l0), (1, .int l1)]) d_Sh_placeOf_54 3 rfl rfl (by decide) rfl ?_
        refine aw_goto (pc := 57) (tgt := 19) d_Sh_placeOf_57 (by decide) ?_
        exact aw_lv [2, 3, 1, 0] rfl (ih q12 (l3 + 1))
def Sh_placeOf (Y : Ly) (l0 : Nat) (l1 : Int32) (h : Hp) : Option Int32 :=
  (Sh_hasBook Y l0 l1 h).bind fun q1 =>
  if q1 = true then
    if inB l1 (lnY Y (hGr h 406 l0)) = true then
      Sh_placeOf_L19 Y l0 l1 h FU (hAi h (hGr h 406 l0) (Int32.toNatClampNeg l1)) 0
    else none
  else
    some (-1)
theorem ok_Sh_placeOf (Y : Ly) (l0 : Nat) (l1 : Int32) (h : Hp) (t0 : isO Y 4 l0) : AM Y 1 K_Sh_placeOf [.ref l0, .int l1] h (Sh_placeOf Y l0 l1 h) (pI h) := by
  refine AM.of rfl (Nat.le_of_ble_eq_true rfl) ?_
  show AW Y 1 K_Sh_placeOf 0 [(0, .ref l0), (1, .int l1)] [] h (Sh_placeOf Y l0 l1 h) (pI h)
  unfold Sh_placeOf
  refine aw_aload_n (pc := 0) d_Sh_placeOf_0 rfl 0 rfl ?_
  refine aw_iload_n (pc := 1) d_Sh_placeOf_1 rfl 1 rfl ?_
  refine aw_cVpZ (pc := 2) (ci := 4) (T := TX4) (N := 19) (As := [.int l1]) (st := []) (ok_Sh_hasBook Y l0 l1 h t0) okV_Sh_hasBook rfl (by decide) t0 w4_204 d_Sh_placeOf_2 rfl (Nat.le_of_ble_eq_true rfl) rfl (Nat.le_of_ble_eq_true rfl) (fun q1 hq1 hTq1 => ?_)
  refine aw_bne (pc := 5) (tgt := 10) d_Sh_placeOf_5 (by decide) (fun c2 => ?_) (fun c2 => ?_)
  · refine aw_aload_n (pc := 10) d_Sh_placeOf_10 rfl 0 rfl ?_
    refine gt_406 (pc := 11) d_Sh_placeOf_11 w2_139 t0 (fun t3 => ?_)
    refine aw_iload_n (pc := 14) d_Sh_placeOf_14 rfl 1 rfl ?_
    refine aw_iaload (pc := 15) d_Sh_placeOf_15 t3 (fun c4 => ?_)
    refine aw_istore_n (pc := 16) (lv' := [(2, .int (hAi h (hGr h 406 l0) (Int32.toNatClampNeg l1))), (0, .ref l0), (1, .int l1)]) d_Sh_placeOf_16 rfl (by decide) rfl ?_
    refine aw_iconst (pc := 17) (x := 0) d_Sh_placeOf_17 (by decide) ?_
    refine aw_istore_n (pc := 18) (lv' := [(3, .int 0), (2, .int (hAi h (hGr h 406 l0) (Int32.toNatClampNeg l1))), (0, .ref l0), (1, .int l1)]) d_Sh_placeOf_18 rfl (by decide) rfl ?_
    exact aw_lv [2, 3, 1, 0] rfl (Sh_placeOf_L19_ok Y l0 l1 h t0 FU (hAi h (hGr h 406 l0) (Int32.toNatClampNeg l1)) 0)
  · refine aw_iconst (pc := 8) (x := (-1)) d_Sh_placeOf_8 (by decide) ?_
    exact aw_ireturn (pc := 9) d_Sh_placeOf_9 rfl rfl
