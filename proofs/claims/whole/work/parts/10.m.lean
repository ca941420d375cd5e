/-! LastPages.has(II)Z -/
theorem d_LP_has_0 : decode prog_1_method_75_code 0 = .ok (.iload_n 0, 1) := by decide +kernel
theorem d_LP_has_1 : decode prog_1_method_75_code 1 = .ok (.iload_n 1, 1) := by decide +kernel
theorem d_LP_has_2 : decode prog_1_method_75_code 2 = .ok (.ishr, 1) := by decide +kernel
theorem d_LP_has_3 : decode prog_1_method_75_code 3 = .ok (.iconst 1, 1) := by decide +kernel
theorem d_LP_has_4 : decode prog_1_method_75_code 4 = .ok (.iand, 1) := by decide +kernel
theorem d_LP_has_5 : decode prog_1_method_75_code 5 = .ok (.ifCond .eq 7, 3) := by decide +kernel
theorem d_LP_has_8 : decode prog_1_method_75_code 8 = .ok (.iconst 1, 1) := by decide +kernel
theorem d_LP_has_9 : decode prog_1_method_75_code 9 = .ok (.goto 4, 3) := by decide +kernel
theorem d_LP_has_12 : decode prog_1_method_75_code 12 = .ok (.iconst 0, 1) := by decide +kernel
theorem d_LP_has_13 : decode prog_1_method_75_code 13 = .ok (.ireturn, 1) := by decide +kernel
def LP_has (Y : Ly) (l0 : Int32) (l1 : Int32) (h : Hp) : Option Bool :=
  if ((l0 >>> (l1 &&& 31)) &&& 1) = 0 then
    some false
  else
    some true
theorem ok_LP_has (Y : Ly) (l0 : Int32) (l1 : Int32) (h : Hp) : AM Y 0 K_LP_has [.int l0, .int l1] h (LP_has Y l0 l1 h) (pZ h) := by
  refine AM.of rfl (Nat.le_of_ble_eq_true rfl) ?_
  show AW Y 0 K_LP_has 0 [(0, .int l0), (1, .int l1)] [] h (LP_has Y l0 l1 h) (pZ h)
  unfold LP_has
  refine aw_iload_n (pc := 0) d_LP_has_0 rfl 0 rfl ?_
  refine aw_iload_n (pc := 1) d_LP_has_1 rfl 1 rfl ?_
  refine aw_ishr (pc := 2) d_LP_has_2 ?_
  refine aw_iconst (pc := 3) (x := 1) d_LP_has_3 (by decide) ?_
  refine aw_iand (pc := 4) d_LP_has_4 ?_
  refine aw_if_eq (pc := 5) (tgt := 12) d_LP_has_5 (by decide) (fun c1 => ?_) (fun c1 => ?_)
  · refine aw_iconst (pc := 12) (x := 0) d_LP_has_12 (by decide) ?_
    exact aw_zreturn (pc := 13) (b := false) d_LP_has_13 rfl rfl
  · refine aw_iconst (pc := 8) (x := 1) d_LP_has_8 (by decide) ?_
    refine aw_goto (pc := 9) (tgt := 13) d_LP_has_9 (by decide) ?_
    exact aw_zreturn (pc := 13) (b := true) d_LP_has_13 rfl rfl
/-! LastPages$Story.leadsTo(II)I -/
theorem d_St_leadsTo_0 : decode prog_8_method_11_code 0 = .ok (.iload_n 1, 1) := by decide +kernel
theorem d_St_leadsTo_1 : decode prog_8_method_11_code 1 = .ok (.ifCond .lt 23, 3) := by decide +kernel
theorem d_St_leadsTo_4 : decode prog_8_method_11_code 4 = .ok (.iload_n 1, 1) := by decide +kernel
theorem d_St_leadsTo_5 : decode prog_8_method_11_code 5 = .ok (.aload_n 0, 1) := by decide +kernel
theorem d_St_leadsTo_6 : decode prog_8_method_11_code 6 = .ok (.getfield 24, 3) := by decide +kernel
theorem d_St_leadsTo_9 : decode prog_8_method_11_code 9 = .ok (.if_icmp .ge 15, 3) := by decide +kernel
theorem d_St_leadsTo_12 : decode prog_8_method_11_code 12 = .ok (.iload_n 2, 1) := by decide +kernel
theorem d_St_leadsTo_13 : decode prog_8_method_11_code 13 = .ok (.ifCond .lt 11, 3) := by decide +kernel
theorem d_St_leadsTo_16 : decode prog_8_method_11_code 16 = .ok (.iload_n 2, 1) := by decide +kernel
theorem d_St_leadsTo_17 : decode prog_8_method_11_code 17 = .ok (.aload_n 0, 1) := by decide +kernel
theorem d_St_leadsTo_18 : decode prog_8_method_11_code 18 = .ok (.getfield 28, 3) := by decide +kernel
theorem d_St_leadsTo_21 : decode prog_8_method_11_code 21 = .ok (.if_icmp .lt 5, 3) := by decide +kernel
theorem d_St_leadsTo_24 : decode prog_8_method_11_code 24 = .ok (.iconst (-1), 1) := by decide +kernel
theorem d_St_leadsTo_25 : decode prog_8_method_11_code 25 = .ok (.ireturn, 1) := by decide +kernel
theorem d_St_leadsTo_26 : decode prog_8_method_11_code 26 = .ok (.aload_n 0, 1) := by decide +kernel
theorem d_St_leadsTo_27 : decode prog_8_method_11_code 27 = .ok (.getfield 15, 3) := by decide +kernel
theorem d_St_leadsTo_30 : decode prog_8_method_11_code 30 = .ok (.iload_n 1, 1) := by decide +kernel
theorem d_St_leadsTo_31 : decode prog_8_method_11_code 31 = .ok (.bipush 8, 2) := by decide +kernel
theorem d_St_leadsTo_33 : decode prog_8_method_11_code 33 = .ok (.imul, 1) := by decide +kernel
theorem d_St_leadsTo_34 : decode prog_8_method_11_code 34 = .ok (.iload_n 2, 1) := by decide +kernel
theorem d_St_leadsTo_35 : decode prog_8_method_11_code 35 = .ok (.iadd, 1) := by decide +kernel
theorem d_St_leadsTo_36 : decode prog_8_method_11_code 36 = .ok (.iaload, 1) := by decide +kernel
theorem d_St_leadsTo_37 : decode prog_8_method_11_code 37 = .ok (.ireturn, 1) := by decide +kernel
def St_leadsTo (Y : Ly) (l0 : Nat) (l1 : Int32) (l2 : Int32) (h : Hp) : Option Int32 :=
  if l1 < 0 then
    some (-1)
  else
    if (hGi h 604 l0) ≤ l1 then
      some (-1)
    else
      if l2 < 0 then
        some (-1)
      else
        if l2 < (hGi h 605 l0) then
          if inB ((l1 * 8) + l2) (lnY Y (hGr h 601 l0)) = true then
            some (hAi h (hGr h 601 l0) (Int32.toNatClampNeg ((l1 * 8) + l2)))
          else none
        else
          some (-1)
theorem ok_St_leadsTo (Y : Ly) (l0 : Nat) (l1 : Int32) (l2 : Int32) (h : Hp) (t0 : isO Y 6 l0) : AM Y 0 K_St_leadsTo [.ref l0, .int l1, .int l2] h (St_leadsTo Y l0 l1 l2 h) (pI h) := by
  refine AM.of rfl (Nat.le_of_ble_eq_true rfl) ?_
  show AW Y 0 K_St_leadsTo 0 [(0, .ref l0), (1, .int l1), (2, .int l2)] [] h (St_leadsTo Y l0 l1 l2 h) (pI h)
  unfold St_leadsTo
  refine aw_iload_n (pc := 0) d_St_leadsTo_0 rfl 1 rfl ?_
  refine aw_if_lt (pc := 1) (tgt := 24) d_St_leadsTo_1 (by decide) (fun c1 => ?_) (fun c1 => ?_)
  · refine aw_iconst (pc := 24) (x := (-1)) d_St_leadsTo_24 (by decide) ?_
    exact aw_ireturn (pc := 25) d_St_leadsTo_25 rfl rfl
  · refine aw_iload_n (pc := 4) d_St_leadsTo_4 rfl 1 rfl ?_
    refine aw_aload_n (pc := 5) d_St_leadsTo_5 rfl 0 rfl ?_
    refine gt_604 (pc := 6) d_St_leadsTo_6 w1_186 t0 ?_
    refine aw_icmp_ge (pc := 9) (tgt := 24) d_St_leadsTo_9 (by decide) (fun c2 => ?_) (fun c2 => ?_)
    · refine aw_iconst (pc := 24) (x := (-1)) d_St_leadsTo_24 (by decide) ?_
      exact aw_ireturn (pc := 25) d_St_leadsTo_25 rfl rfl
    · refine aw_iload_n (pc := 12) d_St_leadsTo_12 rfl 2 rfl ?_
      refine aw_if_lt (pc := 13) (tgt := 24) d_St_leadsTo_13 (by decide) (fun c3 => ?_) (fun c3 => ?_)
      · refine aw_iconst (pc := 24) (x := (-1)) d_St_leadsTo_24 (by decide) ?_
        exact aw_ireturn (pc := 25) d_St_leadsTo_25 rfl rfl
      · refine aw_iload_n (pc := 16) d_St_leadsTo_16 rfl 2 rfl ?_
        refine aw_aload_n (pc := 17) d_St_leadsTo_17 rfl 0 rfl ?_
        refine gt_605 (pc := 18) d_St_leadsTo_18 w1_190 t0 ?_
        refine aw_icmp_lt (pc := 21) (tgt := 26) d_St_leadsTo_21 (by decide) (fun c4 => ?_) (fun c4 => ?_)
        · refine aw_aload_n (pc := 26) d_St_leadsTo_26 rfl 0 rfl ?_
          refine gt_601 (pc := 27) d_St_leadsTo_27 w1_181 t0 (fun tt5 => ?_)
          refine aw_iload_n (pc := 30) d_St_leadsTo_30 rfl 1 rfl ?_
          refine aw_bipush (pc := 31) (x := 8) d_St_leadsTo_31 (by decide) ?_
          refine aw_imul (pc := 33) d_St_leadsTo_33 ?_
          refine aw_iload_n (pc := 34) d_St_leadsTo_34 rfl 2 rfl ?_
          refine aw_iadd (pc := 35) d_St_leadsTo_35 ?_
          refine aw_iaload (pc := 36) d_St_leadsTo_36 tt5 (fun c6 => ?_)
          exact aw_ireturn (pc := 37) d_St_leadsTo_37 rfl rfl
        · refine aw_iconst (pc := 24) (x := (-1)) d_St_leadsTo_24 (by decide) ?_
          exact aw_ireturn (pc := 25) d_St_leadsTo_25 rfl rfl
/-! LastPages$Endings.stepTo(III)I -/
theorem d_En_stepTo_0 : decode prog_2_method_4_code 0 = .ok (.iload_n 1, 1) := by decide +kernel
theorem d_En_stepTo_1 : decode prog_2_method_4_code 1 = .ok (.ifCond .lt 24, 3) := by decide +kernel
theorem d_En_stepTo_4 : decode prog_2_method_4_code 4 = .ok (.iload_n 1, 1) := by decide +kernel
theorem d_En_stepTo_5 : decode prog_2_method_4_code 5 = .ok (.aload_n 0, 1) := by decide +kernel
theorem d_En_stepTo_6 : decode prog_2_method_4_code 6 = .ok (.getfield 35, 3) := by decide +kernel
theorem d_En_stepTo_9 : decode prog_2_method_4_code 9 = .ok (.if_icmp .ge 16, 3) := by decide +kernel
theorem d_En_stepTo_12 : decode prog_2_method_4_code 12 = .ok (.aload_n 0, 1) := by decide +kernel
theorem d_En_stepTo_13 : decode prog_2_method_4_code 13 = .ok (.getfield 9, 3) := by decide +kernel
theorem d_En_stepTo_16 : decode prog_2_method_4_code 16 = .ok (.iload_n 1, 1) := by decide +kernel
theorem d_En_stepTo_17 : decode prog_2_method_4_code 17 = .ok (.iaload, 1) := by decide +kernel
theorem d_En_stepTo_18 : decode prog_2_method_4_code 18 = .ok (.iload_n 3, 1) := by decide +kernel
theorem d_En_stepTo_19 : decode prog_2_method_4_code 19 = .ok (.invokestatic 76, 3) := by decide +kernel
theorem d_En_stepTo_22 : decode prog_2_method_4_code 22 = .ok (.ifCond .ne 5, 3) := by decide +kernel
theorem d_En_stepTo_25 : decode prog_2_method_4_code 25 = .ok (.iconst (-1), 1) := by decide +kernel
theorem d_En_stepTo_26 : decode prog_2_method_4_code 26 = .ok (.ireturn, 1) := by decide +kernel
theorem d_En_stepTo_27 : decode prog_2_method_4_code 27 = .ok (.aload_n 0, 1) := by decide +kernel
theorem d_En_stepTo_28 : decode prog_2_method_4_code 28 = .ok (.getfield 31, 3) := by decide +kernel
theorem d_En_stepTo_31 : decode prog_2_method_4_code 31 = .ok (.iload_n 2, 1) := by decide +kernel
theorem d_En_stepTo_32 : decode prog_2_method_4_code 32 = .ok (.iload_n 3, 1) := by decide +kernel
theorem d_En_stepTo_33 : decode prog_2_method_4_code 33 = .ok (.invokevirtual 83, 3) := by decide +kernel
theorem d_En_stepTo_36 : decode prog_2_method_4_code 36 = .ok (.ireturn, 1) := by decide +kernel
def En_stepTo (Y : Ly) (l0 : Nat) (l1 : Int32) (l2 : Int32) (l3 : Int32) (h : Hp) : Option Int32 :=
  if l1 < 0 then
    some (-1)
  else
    if (hGi h 6 l0) ≤ l1 then
      some (-1)
    else
      if inB l1 (lnY Y (hGr h 0 l0)) = true then
        (LP_has Y (hAi h (hGr h 0 l0) (Int32.toNatClampNeg l1)) l3 h).bind fun q5 =>
        if q5 = true then
          (St_leadsTo Y (hGr h 5 l0) l2 l3 h).bind fun q8 =>
          some q8
        else
          some (-1)
      else none
theorem ok_En_stepTo (Y : Ly) (l0 : Nat) (l1 : Int32) (l2 : Int32) (l3 : Int32) (h : Hp) (t0 : isO Y 0 l0) : AM Y 1 K_En_stepTo [.ref l0, .int l1, .int l2, .int l3] h (En_stepTo Y l0 l1 l2 l3 h) (pI h) := by
  refine AM.of rfl (Nat.le_of_ble_eq_true rfl) ?_
  show AW Y 1 K_En_stepTo 0 [(0, .ref l0), (1, .int l1), (2, .int l2), (3, .int l3)] [] h (En_stepTo Y l0 l1 l2 l3 h) (pI h)
  unfold En_stepTo
  refine aw_iload_n (pc := 0) d_En_stepTo_0 rfl 1 rfl ?_
  refine aw_if_lt (pc := 1) (tgt := 25) d_En_stepTo_1 (by decide) (fun c1 => ?_) (fun c1 => ?_)
  · refine aw_iconst (pc := 25) (x := (-1)) d_En_stepTo_25 (by decide) ?_
    exact aw_ireturn (pc := 26) d_En_stepTo_26 rfl rfl
  · refine aw_iload_n (pc := 4) d_En_stepTo_4 rfl 1 rfl ?_
    refine aw_aload_n (pc := 5) d_En_stepTo_5 rfl 0 rfl ?_
    refine gt_6 (pc := 6) d_En_stepTo_6 w1_224 t0 ?_
    refine aw_icmp_ge (pc := 9) (tgt := 25) d_En_stepTo_9 (by decide) (fun c2 => ?_) (fun c2 => ?_)
    · refine aw_iconst (pc := 25) (x := (-1)) d_En_stepTo_25 (by decide) ?_
      exact aw_ireturn (pc := 26) d_En_stepTo_26 rfl rfl
    · refine aw_aload_n (pc := 12) d_En_stepTo_12 rfl 0 rfl ?_
      refine gt_0 (pc := 13) d_En_stepTo_13 w1_218 t0 (fun tt3 => ?_)
      refine aw_iload_n (pc := 16) d_En_stepTo_16 rfl 1 rfl ?_
      refine aw_iaload (pc := 17) d_En_stepTo_17 tt3 (fun c4 => ?_)
      refine aw_iload_n (pc := 18) d_En_stepTo_18 rfl 3 rfl ?_
      refine aw_cNpZ (pc := 19) (As := [.int (hAi h (hGr h 0 l0) (Int32.toNatClampNeg l1)), .int l3]) (st := []) (ok_LP_has Y (hAi h (hGr h 0 l0) (Int32.toNatClampNeg l1)) l3 h) okS_LP_has (List.mem_of_getElem? (i := 11) rfl) d_En_stepTo_19 rfl (Nat.le_of_ble_eq_true rfl) rfl (Nat.le_of_ble_eq_true rfl) (fun q5 hq5 hTq5 => ?_)
      refine aw_bne (pc := 22) (tgt := 27) d_En_stepTo_22 (by decide) (fun c6 => ?_) (fun c6 => ?_)
      · refine aw_aload_n (pc := 27) d_En_stepTo_27 rfl 0 rfl ?_
        refine gt_5 (pc := 28) d_En_stepTo_28 w1_223 t0 (fun tt7 => ?_)
        refine aw_iload_n (pc := 31) d_En_stepTo_31 rfl 2 rfl ?_
        refine aw_iload_n (pc := 32) d_En_stepTo_32 rfl 3 rfl ?_
        refine aw_cVpI (pc := 33) (ci := 6) (T := TX6) (N := 8) (As := [.int l2, .int l3]) (st := []) (ok_St_leadsTo Y (hGr h 5 l0) l2 l3 h tt7) okV_St_leadsTo rfl (by decide) tt7 w5_52 d_En_stepTo_33 rfl (Nat.le_of_ble_eq_true rfl) rfl (Nat.le_of_ble_eq_true rfl) (fun q8 hq8 hTq8 => ?_)
        exact aw_ireturn (pc := 36) d_En_stepTo_36 rfl rfl
      · refine aw_iconst (pc := 25) (x := (-1)) d_En_stepTo_25 (by decide) ?_
        exact aw_ireturn (pc := 26) d_En_stepTo_26 rfl rfl
/-! LastPages$Endings.spread(II)V -/
theorem d_En_spread_0 : decode prog_2_method_8_code 0 = .ok (.iconst 0, 1) := by decide +kernel
theorem d_En_spread_1 : decode prog_2_method_8_code 1 = .ok (.istore_n 3, 1) := by decide +kernel
theorem d_En_spread_2 : decode prog_2_method_8_code 2 = .ok (.iload_n 3, 1) := by decide +kernel
theorem d_En_spread_3 : decode prog_2_method_8_code 3 = .ok (.aload_n 0, 1) := by decide +kernel
theorem d_En_spread_4 : decode prog_2_method_8_code 4 = .ok (.getfield 31, 3) := by decide +kernel
theorem d_En_spread_7 : decode prog_2_method_8_code 7 = .ok (.getfield 61, 3) := by decide +kernel
theorem d_En_spread_10 : decode prog_2_method_8_code 10 = .ok (.if_icmp .ge 52, 3) := by decide +kernel
theorem d_En_spread_13 : decode prog_2_method_8_code 13 = .ok (.aload_n 0, 1) := by decide +kernel
theorem d_En_spread_14 : decode prog_2_method_8_code 14 = .ok (.iload_n 1, 1) := by decide +kernel
theorem d_En_spread_15 : decode prog_2_method_8_code 15 = .ok (.iload_n 2, 1) := by decide +kernel
theorem d_En_spread_16 : decode prog_2_method_8_code 16 = .ok (.iload_n 3, 1) := by decide +kernel
theorem d_En_spread_17 : decode prog_2_method_8_code 17 = .ok (.invokevirtual 100, 3) := by decide +kernel
theorem d_En_spread_20 : decode prog_2_method_8_code 20 = .ok (.istore 4, 2) := by decide +kernel
theorem d_En_spread_22 : decode prog_2_method_8_code 22 = .ok (.iload 4, 2) := by decide +kernel
theorem d_En_spread_24 : decode prog_2_method_8_code 24 = .ok (.iconst (-1), 1) := by decide +kernel
theorem d_En_spread_25 : decode prog_2_method_8_code 25 = .ok (.if_icmp .eq 31, 3) := by decide +kernel
theorem d_En_spread_28 : decode prog_2_method_8_code 28 = .ok (.aload_n 0, 1) := by decide +kernel
theorem d_En_spread_29 : decode prog_2_method_8_code 29 = .ok (.getfield 18, 3) := by decide +kernel
theorem d_En_spread_32 : decode prog_2_method_8_code 32 = .ok (.iload_n 1, 1) := by decide +kernel
theorem d_En_spread_33 : decode prog_2_method_8_code 33 = .ok (.iconst 1, 1) := by decide +kernel
theorem d_En_spread_34 : decode prog_2_method_8_code 34 = .ok (.iadd, 1) := by decide +kernel
theorem d_En_spread_35 : decode prog_2_method_8_code 35 = .ok (.bipush 8, 2) := by decide +kernel
theorem d_En_spread_37 : decode prog_2_method_8_code 37 = .ok (.imul, 1) := by decide +kernel
theorem d_En_spread_38 : decode prog_2_method_8_code 38 = .ok (.iload 4, 2) := by decide +kernel
theorem d_En_spread_40 : decode prog_2_method_8_code 40 = .ok (.iadd, 1) := by decide +kernel
theorem d_En_spread_41 : decode prog_2_method_8_code 41 = .ok (.dup2, 1) := by decide +kernel
theorem d_En_spread_42 : decode prog_2_method_8_code 42 = .ok (.laload, 1) := by decide +kernel
theorem d_En_spread_43 : decode prog_2_method_8_code 43 = .ok (.aload_n 0, 1) := by decide +kernel
theorem d_En_spread_44 : decode prog_2_method_8_code 44 = .ok (.getfield 18, 3) := by decide +kernel
theorem d_En_spread_47 : decode prog_2_method_8_code 47 = .ok (.iload_n 1, 1) := by decide +kernel
theorem d_En_spread_48 : decode prog_2_method_8_code 48 = .ok (.bipush 8, 2) := by decide +kernel
theorem d_En_spread_50 : decode prog_2_method_8_code 50 = .ok (.imul, 1) := by decide +kernel
theorem d_En_spread_51 : decode prog_2_method_8_code 51 = .ok (.iload_n 2, 1) := by decide +kernel
theorem d_En_spread_52 : decode prog_2_method_8_code 52 = .ok (.iadd, 1) := by decide +kernel
theorem d_En_spread_53 : decode prog_2_method_8_code 53 = .ok (.laload, 1) := by decide +kernel
theorem d_En_spread_54 : decode prog_2_method_8_code 54 = .ok (.ladd, 1) := by decide +kernel
theorem d_En_spread_55 : decode prog_2_method_8_code 55 = .ok (.lastore, 1) := by decide +kernel
theorem d_En_spread_56 : decode prog_2_method_8_code 56 = .ok (.iinc 3 1, 3) := by decide +kernel
theorem d_En_spread_59 : decode prog_2_method_8_code 59 = .ok (.goto (-57), 3) := by decide +kernel
theorem d_En_spread_62 : decode prog_2_method_8_code 62 = .ok (.return_, 1) := by decide +kernel
def En_spread_L2 (Y : Ly) (l0 : Nat) (l1 : Int32) (l2 : Int32) : Nat → Int32 → Hp → Option Hp
  | 0, _, _ => none
  | F + 1, l3, h =>
    if (hGi h 605 (hGr h 5 l0)) ≤ l3 then
      some h
    else
      (En_stepTo Y l0 l1 l2 l3 h).bind fun q3 =>
      if q3 = (-1) then
        En_spread_L2 Y l0 l1 l2 F (l3 + 1) h
      else
        if inB (((l1 + 1) * 8) + q3) (lnY Y (hGr h 2 l0)) = true then
          if inB ((l1 * 8) + l2) (lnY Y (hGr h 2 l0)) = true then
            if inB (((l1 + 1) * 8) + q3) (lnY Y (hGr h 2 l0)) = true then
              letH (hTl h (hGr h 2 l0) (Int32.toNatClampNeg (((l1 + 1) * 8) + q3)) ((hAl h (hGr h 2 l0) (Int32.toNatClampNeg (((l1 + 1) * 8) + q3))) + (hAl h (hGr h 2 l0) (Int32.toNatClampNeg ((l1 * 8) + l2))))) fun h10 =>
              En_spread_L2 Y l0 l1 l2 F (l3 + 1) h10
            else none
          else none
        else none
theorem En_spread_L2_ok (Y : Ly) (l0 : Nat) (l1 : Int32) (l2 : Int32) (tl0 : isO Y 0 l0) : ∀ (F : Nat) (l3 : Int32) (h : Hp), AW Y 2 K_En_spread 2 [(0, .ref l0), (1, .int l1), (2, .int l2), (3, .int l3)] [] h (En_spread_L2 Y l0 l1 l2 F l3 h) rV := by
  intro F
  induction F with
  | zero =>
    intro l3 h
    exact aw_none
  | succ F ih =>
    intro l3 h
    unfold En_spread_L2
    refine aw_iload_n (pc := 2) d_En_spread_2 rfl 3 rfl ?_
    refine aw_aload_n (pc := 3) d_En_spread_3 rfl 0 rfl ?_
    refine gt_5 (pc := 4) d_En_spread_4 w1_223 tl0 (fun tt1 => ?_)
    refine gt_605 (pc := 7) d_En_spread_7 w1_191 tt1 ?_
    refine aw_icmp_ge (pc := 10) (tgt := 62) d_En_spread_10 (by decide) (fun c2 => ?_) (fun c2 => ?_)
    · exact aw_return (pc := 62) d_En_spread_62 rfl rfl
    · refine aw_aload_n (pc := 13) d_En_spread_13 rfl 0 rfl ?_
      refine aw_iload_n (pc := 14) d_En_spread_14 rfl 1 rfl ?_
      refine aw_iload_n (pc := 15) d_En_spread_15 rfl 2 rfl ?_
      refine aw_iload_n (pc := 16) d_En_spread_16 rfl 3 rfl ?_
      refine aw_cVpI (pc := 17) (ci := 0) (T := TX0) (N := 8) (As := [.int l1, .int l2, .int l3]) (st := []) (ok_En_stepTo Y l0 l1 l2 l3 h tl0) okV_En_stepTo rfl (by decide) tl0 w5_48 d_En_spread_17 rfl (Nat.le_of_ble_eq_true rfl) rfl (Nat.le_of_ble_eq_true rfl) (fun q3 hq3 hTq3 => ?_)
      refine aw_istore (pc := 20) (lv' := [(4, .int q3), (0, .ref l0), (1, .int l1), (2, .int l2), (3, .int l3)]) d_En_spread_20 (by decide) rfl ?_
      refine aw_iload (pc := 22) d_En_spread_22 0 rfl ?_
      refine aw_iconst (pc := 24) (x := (-1)) d_En_spread_24 (by decide) ?_
      refine aw_icmp_eq (pc := 25) (tgt := 56) d_En_spread_25 (by decide) (fun c4 => ?_) (fun c4 => ?_)
      · refine aw_iinc (pc := 56) (w := l3 + 1) (lv' := [(3, .int (l3 + 1)), (4, .int q3), (0, .ref l0), (1, .int l1), (2, .int l2)]) d_En_spread_56 4 rfl rfl (by decide) rfl ?_
        refine aw_goto (pc := 59) (tgt := 2) d_En_spread_59 (by decide) ?_
        exact aw_lv [2, 3, 4, 0] rfl (ih (l3 + 1) h)
      · refine aw_aload_n (pc := 28) d_En_spread_28 rfl 1 rfl ?_
        refine gt_2 (pc := 29) d_En_spread_29 w1_220 tl0 (fun tt5 => ?_)
        refine aw_iload_n (pc := 32) d_En_spread_32 rfl 2 rfl ?_
        refine aw_iconst (pc := 33) (x := 1) d_En_spread_33 (by decide) ?_
        refine aw_iadd (pc := 34) d_En_spread_34 ?_
        refine aw_bipush (pc := 35) (x := 8) d_En_spread_35 (by decide) ?_
        refine aw_imul (pc := 37) d_En_spread_37 ?_
        refine aw_iload (pc := 38) d_En_spread_38 0 rfl ?_
        refine aw_iadd (pc := 40) d_En_spread_40 ?_
        refine aw_dup2_11 (pc := 41) d_En_spread_41 rfl rfl ?_
        refine aw_laload (pc := 42) d_En_spread_42 tt5 (fun c6 => ?_)
        refine aw_aload_n (pc := 43) d_En_spread_43 rfl 1 rfl ?_
        refine gt_2 (pc := 44) d_En_spread_44 w1_220 tl0 (fun tt7 => ?_)
        refine aw_iload_n (pc := 47) d_En_spread_47 rfl 2 rfl ?_
        refine aw_bipush (pc := 48) (x := 8) d_En_spread_48 (by decide) ?_
        refine aw_imul (pc := 50) d_En_spread_50 ?_
        refine aw_iload_n (pc := 51) d_En_spread_51 rfl 3 rfl ?_
        refine aw_iadd (pc := 52) d_En_spread_52 ?_
        refine aw_laload (pc := 53) d_En_spread_53 tt7 (fun c8 => ?_)
        refine aw_ladd (pc := 54) d_En_spread_54 ?_
        refine aw_lastore (pc := 55) d_En_spread_55 tt5 (fun c9 => ?_)
        refine aw_letH (fun h10 => ?_)
        refine aw_iinc (pc := 56) (w := l3 + 1) (lv' := [(3, .int (l3 + 1)), (4, .int q3), (0, .ref l0), (1, .int l1), (2, .int l2)]) d_En_spread_56 4 rfl rfl (by decide) rfl ?_
        refine aw_goto (pc := 59) (tgt := 2) d_En_spread_59 (by decide) ?_
        exact aw_lv [2, 3, 4, 0] rfl (ih (l3 + 1) h10)
def En_spread (Y : Ly) (l0 : Nat) (l1 : Int32) (l2 : Int32) (h : Hp) : Option Hp :=
  En_spread_L2 Y l0 l1 l2 FU 0 h
theorem ok_En_spread (Y : Ly) (l0 : Nat) (l1 : Int32) (l2 : Int32) (h : Hp) (t0 : isO Y 0 l0) : AM Y 2 K_En_spread [.ref l0, .int l1, .int l2] h (En_spread Y l0 l1 l2 h) rV := by
  refine AM.of rfl (Nat.le_of_ble_eq_true rfl) ?_
  show AW Y 2 K_En_spread 0 [(0, .ref l0), (1, .int l1), (2, .int l2)] [] h (En_spread Y l0 l1 l2 h) rV
  unfold En_spread
  refine aw_iconst (pc := 0) (x := 0) d_En_spread_0 (by decide) ?_
  refine aw_istore_n (pc := 1) (lv' := [(3, .int 0), (0, .ref l0), (1, .int l1), (2, .int l2)]) d_En_spread_1 rfl (by decide) rfl ?_
  exact aw_lv [1, 2, 3, 0] rfl (En_spread_L2_ok Y l0 l1 l2 t0 FU 0 h)
/-! java/util/Arrays.fill([JJ)V -/
theorem d_J_fillL_0 : decode prog_21_method_101_code 0 = .ok (.iconst 0, 1) := by decide +kernel
theorem d_J_fillL_1 : decode prog_21_method_101_code 1 = .ok (.istore_n 3, 1) := by decide +kernel
theorem d_J_fillL_2 : decode prog_21_method_101_code 2 = .ok (.aload_n 0, 1) := by decide +kernel
theorem d_J_fillL_3 : decode prog_21_method_101_code 3 = .ok (.arraylength, 1) := by decide +kernel
theorem d_J_fillL_4 : decode prog_21_method_101_code 4 = .ok (.istore 4, 2) := by decide +kernel
theorem d_J_fillL_6 : decode prog_21_method_101_code 6 = .ok (.iload_n 3, 1) := by decide +kernel
theorem d_J_fillL_7 : decode prog_21_method_101_code 7 = .ok (.iload 4, 2) := by decide +kernel
theorem d_J_fillL_9 : decode prog_21_method_101_code 9 = .ok (.if_icmp .ge 13, 3) := by decide +kernel
theorem d_J_fillL_12 : decode prog_21_method_101_code 12 = .ok (.aload_n 0, 1) := by decide +kernel
theorem d_J_fillL_13 : decode prog_21_method_101_code 13 = .ok (.iload_n 3, 1) := by decide +kernel
theorem d_J_fillL_14 : decode prog_21_method_101_code 14 = .ok (.lload_n 1, 1) := by decide +kernel
theorem d_J_fillL_15 : decode prog_21_method_101_code 15 = .ok (.lastore, 1) := by decide +kernel
theorem d_J_fillL_16 : decode prog_21_method_101_code 16 = .ok (.iinc 3 1, 3) := by decide +kernel
theorem d_J_fillL_19 : decode prog_21_method_101_code 19 = .ok (.goto (-13), 3) := by decide +kernel
theorem d_J_fillL_22 : decode prog_21_method_101_code 22 = .ok (.return_, 1) := by decide +kernel
def J_fillL_L6 (Y : Ly) (l0 : Nat) (l1 : Int64) (l4 : Int32) : Nat → Int32 → Hp → Option Hp
  | 0, _, _ => none
  | F + 1, l3, h =>
    if l4 ≤ l3 then
      some h
    else
      if inB l3 (lnY Y l0) = true then
        letH (hTl h l0 (Int32.toNatClampNeg l3) l1) fun h3 =>
        J_fillL_L6 Y l0 l1 l4 F (l3 + 1) h3
      else none
theorem J_fillL_L6_ok (Y : Ly) (l0 : Nat) (l1 : Int64) (l4 : Int32) (tl0 : isO Y 22 l0) : ∀ (F : Nat) (l3 : Int32) (h : Hp), AW Y 0 K_J_fillL 6 [(0, .ref l0), (1, .long l1), (3, .int l3), (4, .int l4)] [] h (J_fillL_L6 Y l0 l1 l4 F l3 h) rV := by
  intro F
  induction F with
  | zero =>
    intro l3 h
    exact aw_none
  | succ F ih =>
    intro l3 h
    unfold J_fillL_L6
    refine aw_iload_n (pc := 6) d_J_fillL_6 rfl 2 rfl ?_
    refine aw_iload (pc := 7) d_J_fillL_7 3 rfl ?_
    refine aw_icmp_ge (pc := 9) (tgt := 22) d_J_fillL_9 (by decide) (fun c1 => ?_) (fun c1 => ?_)
    · exact aw_return (pc := 22) d_J_fillL_22 rfl rfl
    · refine aw_aload_n (pc := 12) d_J_fillL_12 rfl 0 rfl ?_
      refine aw_iload_n (pc := 13) d_J_fillL_13 rfl 2 rfl ?_
      refine aw_lload_n (pc := 14) d_J_fillL_14 rfl 1 rfl ?_
      refine aw_lastore (pc := 15) d_J_fillL_15 tl0 (fun c2 => ?_)
      refine aw_letH (fun h3 => ?_)
      refine aw_iinc (pc := 16) (w := l3 + 1) (lv' := [(3, .int (l3 + 1)), (0, .ref l0), (1, .long l1), (4, .int l4)]) d_J_fillL_16 2 rfl rfl (by decide) rfl ?_
      refine aw_goto (pc := 19) (tgt := 6) d_J_fillL_19 (by decide) ?_
      exact aw_lv [1, 2, 0, 3] rfl (ih (l3 + 1) h3)
def J_fillL (Y : Ly) (l0 : Nat) (l1 : Int64) (h : Hp) : Option Hp :=
  J_fillL_L6 Y l0 l1 (Int32.ofNat (lnY Y l0)) FU 0 h
theorem ok_J_fillL (Y : Ly) (l0 : Nat) (l1 : Int64) (h : Hp) (t0 : isO Y 22 l0) : AM Y 0 K_J_fillL [.ref l0, .long l1] h (J_fillL Y l0 l1 h) rV := by
  refine AM.of rfl (Nat.le_of_ble_eq_true rfl) ?_
  show AW Y 0 K_J_fillL 0 [(0, .ref l0), (1, .long l1)] [] h (J_fillL Y l0 l1 h) rV
  unfold J_fillL
  refine aw_iconst (pc := 0) (x := 0) d_J_fillL_0 (by decide) ?_
  refine aw_istore_n (pc := 1) (lv' := [(3, .int 0), (0, .ref l0), (1, .long l1)]) d_J_fillL_1 rfl (by decide) rfl ?_
  refine aw_aload_n (pc := 2) d_J_fillL_2 rfl 1 rfl ?_
  refine aw_alen22 (pc := 3) d_J_fillL_3 t0 ?_
  refine aw_istore (pc := 4) (lv' := [(4, .int (Int32.ofNat (lnY Y l0))), (3, .int 0), (0, .ref l0), (1, .long l1)]) d_J_fillL_4 (by decide) rfl ?_
  exact aw_lv [2, 3, 1, 0] rfl (J_fillL_L6_ok Y l0 l1 (Int32.ofNat (lnY Y l0)) t0 FU 0 h)
/-! LastPages$Endings.countBefore()V -/
theorem d_En_countBefore_0 : decode prog_2_method_7_code 0 = .ok (.aload_n 0, 1) := by decide +kernel
theorem d_En_countBefore_1 : decode prog_2_method_7_code 1 = .ok (.getfield 18, 3) := by decide +kernel
theorem d_En_countBefore_4 : decode prog_2_method_7_code 4 = .ok (.lconst 0, 1) := by decide +kernel
theorem d_En_countBefore_5 : decode prog_2_method_7_code 5 = .ok (.invokestatic 104, 3) := by decide +kernel
theorem d_En_countBefore_8 : decode prog_2_method_7_code 8 = .ok (.aload_n 0, 1) := by decide +kernel
theorem d_En_countBefore_9 : decode prog_2_method_7_code 9 = .ok (.getfield 39, 3) := by decide +kernel
theorem d_En_countBefore_12 : decode prog_2_method_7_code 12 = .ok (.ifCond .lt 22, 3) := by decide +kernel
theorem d_En_countBefore_15 : decode prog_2_method_7_code 15 = .ok (.aload_n 0, 1) := by decide +kernel
theorem d_En_countBefore_16 : decode prog_2_method_7_code 16 = .ok (.getfield 39, 3) := by decide +kernel
theorem d_En_countBefore_19 : decode prog_2_method_7_code 19 = .ok (.bipush 8, 2) := by decide +kernel
theorem d_En_countBefore_21 : decode prog_2_method_7_code 21 = .ok (.if_icmp .ge 13, 3) := by decide +kernel
theorem d_En_countBefore_24 : decode prog_2_method_7_code 24 = .ok (.aload_n 0, 1) := by decide +kernel
theorem d_En_countBefore_25 : decode prog_2_method_7_code 25 = .ok (.getfield 18, 3) := by decide +kernel
theorem d_En_countBefore_28 : decode prog_2_method_7_code 28 = .ok (.aload_n 0, 1) := by decide +kernel
theorem d_En_countBefore_29 : decode prog_2_method_7_code 29 = .ok (.getfield 39, 3) := by decide +kernel
theorem d_En_countBefore_32 : decode prog_2_method_7_code 32 = .ok (.lconst 1, 1) := by decide +kernel
theorem d_En_countBefore_33 : decode prog_2_method_7_code 33 = .ok (.lastore, 1) := by decide +kernel
theorem d_En_countBefore_34 : decode prog_2_method_7_code 34 = .ok (.iconst 0, 1) := by decide +kernel
theorem d_En_countBefore_35 : decode prog_2_method_7_code 35 = .ok (.istore_n 1, 1) := by decide +kernel
theorem d_En_countBefore_36 : decode prog_2_method_7_code 36 = .ok (.iload_n 1, 1) := by decide +kernel
theorem d_En_countBefore_37 : decode prog_2_method_7_code 37 = .ok (.aload_n 0, 1) := by decide +kernel
theorem d_En_countBefore_38 : decode prog_2_method_7_code 38 = .ok (.getfield 35, 3) := by decide +kernel
theorem d_En_countBefore_41 : decode prog_2_method_7_code 41 = .ok (.if_icmp .ge 34, 3) := by decide +kernel
theorem d_En_countBefore_44 : decode prog_2_method_7_code 44 = .ok (.iconst 0, 1) := by decide +kernel
theorem d_En_countBefore_45 : decode prog_2_method_7_code 45 = .ok (.istore_n 2, 1) := by decide +kernel
theorem d_En_countBefore_46 : decode prog_2_method_7_code 46 = .ok (.iload_n 2, 1) := by decide +kernel
theorem d_En_countBefore_47 : decode prog_2_method_7_code 47 = .ok (.aload_n 0, 1) := by decide +kernel
theorem d_En_countBefore_48 : decode prog_2_method_7_code 48 = .ok (.getfield 31, 3) := by decide +kernel
theorem d_En_countBefore_51 : decode prog_2_method_7_code 51 = .ok (.getfield 90, 3) := by decide +kernel
theorem d_En_countBefore_54 : decode prog_2_method_7_code 54 = .ok (.if_icmp .ge 15, 3) := by decide +kernel
theorem d_En_countBefore_57 : decode prog_2_method_7_code 57 = .ok (.aload_n 0, 1) := by decide +kernel
theorem d_En_countBefore_58 : decode prog_2_method_7_code 58 = .ok (.iload_n 1, 1) := by decide +kernel
theorem d_En_countBefore_59 : decode prog_2_method_7_code 59 = .ok (.iload_n 2, 1) := by decide +kernel
theorem d_En_countBefore_60 : decode prog_2_method_7_code 60 = .ok (.invokevirtual 107, 3) := by decide +kernel
theorem d_En_countBefore_63 : decode prog_2_method_7_code 63 = .ok (.iinc 2 1, 3) := by decide +kernel
theorem d_En_countBefore_66 : decode prog_2_method_7_code 66 = .ok (.goto (-20), 3) := by decide +kernel
theorem d_En_countBefore_69 : decode prog_2_method_7_code 69 = .ok (.iinc 1 1, 3) := by decide +kernel
theorem d_En_countBefore_72 : decode prog_2_method_7_code 72 = .ok (.goto (-36), 3) := by decide +kernel
theorem d_En_countBefore_75 : decode prog_2_method_7_code 75 = .ok (.return_, 1) := by decide +kernel
def En_countBefore_L46 (Y : Ly) (l0 : Nat) (l1 : Int32) (k36 : Int32 → Hp → Option Hp) : Nat → Int32 → Hp → Option Hp
  | 0, _, _ => none
  | F + 1, l2, h =>
    if (hGi h 604 (hGr h 5 l0)) ≤ l2 then
      k36 (l1 + 1) h
    else
      (En_spread Y l0 l1 l2 h).bind fun q7 =>
      En_countBefore_L46 Y l0 l1 k36 F (l2 + 1) q7
theorem En_countBefore_L46_ok (Y : Ly) (l0 : Nat) (l1 : Int32) (k36 : Int32 → Hp → Option Hp) (tl0 : isO Y 0 l0) (hk36 : ∀ (l1_ : Int32) (h_ : Hp), AW Y 3 K_En_countBefore 36 [(0, .ref l0), (1, .int l1_)] [] h_ (k36 l1_ h_) rV) : ∀ (F : Nat) (l2 : Int32) (h : Hp), AW Y 3 K_En_countBefore 46 [(0, .ref l0), (1, .int l1), (2, .int l2)] [] h (En_countBefore_L46 Y l0 l1 k36 F l2 h) rV := by
  intro F
  induction F with
  | zero =>
    intro l2 h
    exact aw_none
  | succ F ih =>
    intro l2 h
    unfold En_countBefore_L46
    refine aw_iload_n (pc := 46) d_En_countBefore_46 rfl 2 rfl ?_
    refine aw_aload_n (pc := 47) d_En_countBefore_47 rfl 0 rfl ?_
    refine gt_5 (pc := 48) d_En_countBefore_48 w1_223 tl0 (fun tt5 => ?_)
    refine gt_604 (pc := 51) d_En_countBefore_51 w1_188 tt5 ?_
    refine aw_icmp_ge (pc := 54) (tgt := 69) d_En_countBefore_54 (by decide) (fun c6 => ?_) (fun c6 => ?_)
    · refine aw_iinc (pc := 69) (w := l1 + 1) (lv' := [(1, .int (l1 + 1)), (0, .ref l0), (2, .int l2)]) d_En_countBefore_69 1 rfl rfl (by decide) rfl ?_
      refine aw_goto (pc := 72) (tgt := 36) d_En_countBefore_72 (by decide) ?_
      exact aw_lv [1, 0] rfl (hk36 (l1 + 1) h)
    · refine aw_aload_n (pc := 57) d_En_countBefore_57 rfl 0 rfl ?_
      refine aw_iload_n (pc := 58) d_En_countBefore_58 rfl 1 rfl ?_
      refine aw_iload_n (pc := 59) d_En_countBefore_59 rfl 2 rfl ?_
      refine aw_cVrV (pc := 60) (ci := 0) (T := TX0) (N := 8) (As := [.int l1, .int l2]) (st := []) (ok_En_spread Y l0 l1 l2 h tl0) okV_En_spread rfl (by decide) tl0 w5_145 d_En_countBefore_60 rfl (Nat.le_of_ble_eq_true rfl) rfl (Nat.le_of_ble_eq_true rfl) (fun q7 hq7 hTq7 => ?_)
      refine aw_iinc (pc := 63) (w := l2 + 1) (lv' := [(2, .int (l2 + 1)), (0, .ref l0), (1, .int l1)]) d_En_countBefore_63 2 rfl rfl (by decide) rfl ?_
      refine aw_goto (pc := 66) (tgt := 46) d_En_countBefore_66 (by decide) ?_
      exact aw_lv [1, 2, 0] rfl (ih (l2 + 1) q7)
def En_countBefore_L36 (Y : Ly) (l0 : Nat) : Nat → Int32 → Hp → Option Hp
  | 0, _, _ => none
  | F + 1, l1, h =>
    if (hGi h 6 l0) ≤ l1 then
      some h
    else
      En_countBefore_L46 Y l0 l1 (En_countBefore_L36 Y l0 F) FU 0 h
theorem En_countBefore_L36_ok (Y : Ly) (l0 : Nat) (tl0 : isO Y 0 l0) : ∀ (F : Nat) (l1 : Int32) (h : Hp), AW Y 3 K_En_countBefore 36 [(0, .ref l0), (1, .int l1)] [] h (En_countBefore_L36 Y l0 F l1 h) rV := by
  intro F
  induction F with
  | zero =>
    intro l1 h
    exact aw_none
  | succ F ih =>
    intro l1 h
    unfold En_countBefore_L36
    refine aw_iload_n (pc := 36) d_En_countBefore_36 rfl 1 rfl ?_
    refine aw_aload_n (pc := 37) d_En_countBefore_37 rfl 0 rfl ?_
    refine gt_6 (pc := 38) d_En_countBefore_38 w1_224 tl0 ?_
    refine aw_icmp_ge (pc := 41) (tgt := 75) d_En_countBefore_41 (by decide) (fun c4 => ?_) (fun c4 => ?_)
    · exact aw_return (pc := 75) d_En_countBefore_75 rfl rfl
    · refine aw_iconst (pc := 44) (x := 0) d_En_countBefore_44 (by decide) ?_
      refine aw_istore_n (pc := 45) (lv' := [(2, .int 0), (0, .ref l0), (1, .int l1)]) d_En_countBefore_45 rfl (by decide) rfl ?_
      exact aw_lv [1, 2, 0] rfl (En_countBefore_L46_ok Y l0 l1 (En_countBefore_L36 Y l0 F) tl0 ih FU 0 h)
def En_countBefore_J34 (Y : Ly) (l0 : Nat) (h : Hp) : Option Hp :=
  En_countBefore_L36 Y l0 FU 0 h
theorem En_countBefore_J34_ok (Y : Ly) (l0 : Nat) (h : Hp) (tl0 : isO Y 0 l0) : AW Y 3 K_En_countBefore 34 [(0, .ref l0)] [] h (En_countBefore_J34 Y l0 h) rV := by
  unfold En_countBefore_J34
  refine aw_iconst (pc := 34) (x := 0) d_En_countBefore_34 (by decide) ?_
  refine aw_istore_n (pc := 35) (lv' := [(1, .int 0), (0, .ref l0)]) d_En_countBefore_35 rfl (by decide) rfl ?_
  exact aw_lv [1, 0] rfl (En_countBefore_L36_ok Y l0 tl0 FU 0 h)
def En_countBefore (Y : Ly) (l0 : Nat) (h : Hp) : Option Hp :=
  (J_fillL Y (hGr h 2 l0) 0 h).bind fun q2 =>
  if (hGi q2 7 l0) < 0 then
    En_countBefore_J34 Y l0 q2
  else
    if 8 ≤ (hGi q2 7 l0) then
      En_countBefore_J34 Y l0 q2
    else
      if inB (hGi q2 7 l0) (lnY Y (hGr q2 2 l0)) = true then
        letH (hTl q2 (hGr q2 2 l0) (Int32.toNatClampNeg (hGi q2 7 l0)) 1) fun h11 =>
        En_countBefore_J34 Y l0 h11
      else none
theorem ok_En_countBefore (Y : Ly) (l0 : Nat) (h : Hp) (t0 : isO Y 0 l0) : AM Y 3 K_En_countBefore [.ref l0] h (En_countBefore Y l0 h) rV := by
  refine AM.of rfl (Nat.le_of_ble_eq_true rfl) ?_
  show AW Y 3 K_En_countBefore 0 [(0, .ref l0)] [] h (En_countBefore Y l0 h) rV
  unfold En_countBefore
  refine aw_aload_n (pc := 0) d_En_countBefore_0 rfl 0 rfl ?_
  refine gt_2 (pc := 1) d_En_countBefore_1 w1_220 t0 (fun tt1 => ?_)
  refine aw_lconst (pc := 4) (x := 0) d_En_countBefore_4 (by decide) ?_
  refine aw_cSrV (pc := 5) (As := [.ref (hGr h 2 l0), .long 0]) (st := []) (ok_J_fillL Y (hGr h 2 l0) 0 h tt1) okS_J_fillL w5_144 d_En_countBefore_5 rfl (Nat.le_of_ble_eq_true rfl) rfl (Nat.le_of_ble_eq_true rfl) (fun q2 hq2 hTq2 => ?_)
  refine aw_aload_n (pc := 8) d_En_countBefore_8 rfl 0 rfl ?_
  refine gt_7 (pc := 9) d_En_countBefore_9 w1_225 t0 ?_
  refine aw_if_lt (pc := 12) (tgt := 34) d_En_countBefore_12 (by decide) (fun c3 => ?_) (fun c3 => ?_)
  · exact aw_lv [0] rfl (En_countBefore_J34_ok Y l0 q2 t0)
  · refine aw_aload_n (pc := 15) d_En_countBefore_15 rfl 0 rfl ?_
    refine gt_7 (pc := 16) d_En_countBefore_16 w1_225 t0 ?_
    refine aw_bipush (pc := 19) (x := 8) d_En_countBefore_19 (by decide) ?_
    refine aw_icmp_ge (pc := 21) (tgt := 34) d_En_countBefore_21 (by decide) (fun c8 => ?_) (fun c8 => ?_)
    · exact aw_lv [0] rfl (En_countBefore_J34_ok Y l0 q2 t0)
    · refine aw_aload_n (pc := 24) d_En_countBefore_24 rfl 0 rfl ?_
      refine gt_2 (pc := 25) d_En_countBefore_25 w1_220 t0 (fun tt9 => ?_)
      refine aw_aload_n (pc := 28) d_En_countBefore_28 rfl 0 rfl ?_
      refine gt_7 (pc := 29) d_En_countBefore_29 w1_225 t0 ?_
      refine aw_lconst (pc := 32) (x := 1) d_En_countBefore_32 (by decide) ?_
      refine aw_lastore (pc := 33) d_En_countBefore_33 tt9 (fun c10 => ?_)
      refine aw_letH (fun h11 => ?_)
      exact aw_lv [0] rfl (En_countBefore_J34_ok Y l0 h11 t0)
/-! LastPages$Endings.isPlace(I)Z -/
theorem d_En_isPlace_0 : decode prog_2_method_3_code 0 = .ok (.iload_n 1, 1) := by decide +kernel
theorem d_En_isPlace_1 : decode prog_2_method_3_code 1 = .ok (.ifCond .lt 15, 3) := by decide +kernel
theorem d_En_isPlace_4 : decode prog_2_method_3_code 4 = .ok (.iload_n 1, 1) := by decide +kernel
theorem d_En_isPlace_5 : decode prog_2_method_3_code 5 = .ok (.aload_n 0, 1) := by decide +kernel
theorem d_En_isPlace_6 : decode prog_2_method_3_code 6 = .ok (.getfield 35, 3) := by decide +kernel
theorem d_En_isPlace_9 : decode prog_2_method_3_code 9 = .ok (.if_icmp .ge 7, 3) := by decide +kernel
theorem d_En_isPlace_12 : decode prog_2_method_3_code 12 = .ok (.iconst 1, 1) := by decide +kernel
theorem d_En_isPlace_13 : decode prog_2_method_3_code 13 = .ok (.goto 4, 3) := by decide +kernel
theorem d_En_isPlace_16 : decode prog_2_method_3_code 16 = .ok (.iconst 0, 1) := by decide +kernel
theorem d_En_isPlace_17 : decode prog_2_method_3_code 17 = .ok (.ireturn, 1) := by decide +kernel
def En_isPlace (Y : Ly) (l0 : Nat) (l1 : Int32) (h : Hp) : Option Bool :=
  if l1 < 0 then
    some false
  else
    if (hGi h 6 l0) ≤ l1 then
      some false
    else
      some true
theorem ok_En_isPlace (Y : Ly) (l0 : Nat) (l1 : Int32) (h : Hp) (t0 : isO Y 0 l0) : AM Y 0 K_En_isPlace [.ref l0, .int l1] h (En_isPlace Y l0 l1 h) (pZ h) := by
  refine AM.of rfl (Nat.le_of_ble_eq_true rfl) ?_
  show AW Y 0 K_En_isPlace 0 [(0, .ref l0), (1, .int l1)] [] h (En_isPlace Y l0 l1 h) (pZ h)
  unfold En_isPlace
  refine aw_iload_n (pc := 0) d_En_isPlace_0 rfl 1 rfl ?_
  refine aw_if_lt (pc := 1) (tgt := 16) d_En_isPlace_1 (by decide) (fun c1 => ?_) (fun c1 => ?_)
  · refine aw_iconst (pc := 16) (x := 0) d_En_isPlace_16 (by decide) ?_
    exact aw_zreturn (pc := 17) (b := false) d_En_isPlace_17 rfl rfl
  · refine aw_iload_n (pc := 4) d_En_isPlace_4 rfl 1 rfl ?_
    refine aw_aload_n (pc := 5) d_En_isPlace_5 rfl 0 rfl ?_
    refine gt_6 (pc := 6) d_En_isPlace_6 w1_224 t0 ?_
    refine aw_icmp_ge (pc := 9) (tgt := 16) d_En_isPlace_9 (by decide) (fun c2 => ?_) (fun c2 => ?_)
    · refine aw_iconst (pc := 16) (x := 0) d_En_isPlace_16 (by decide) ?_
      exact aw_zreturn (pc := 17) (b := false) d_En_isPlace_17 rfl rfl
    · refine aw_iconst (pc := 12) (x := 1) d_En_isPlace_12 (by decide) ?_
      refine aw_goto (pc := 13) (tgt := 17) d_En_isPlace_13 (by decide) ?_
      exact aw_zreturn (pc := 17) (b := true) d_En_isPlace_17 rfl rfl
/-! LastPages$Shelf.hasBook(I)Z -/
theorem d_Sh_hasBook_0 : decode prog_6_method_7_code 0 = .ok (.iload_n 1, 1) := by decide +kernel
theorem d_Sh_hasBook_1 : decode prog_6_method_7_code 1 = .ok (.ifCond .lt 15, 3) := by decide +kernel
theorem d_Sh_hasBook_4 : decode prog_6_method_7_code 4 = .ok (.iload_n 1, 1) := by decide +kernel
theorem d_Sh_hasBook_5 : decode prog_6_method_7_code 5 = .ok (.aload_n 0, 1) := by decide +kernel
theorem d_Sh_hasBook_6 : decode prog_6_method_7_code 6 = .ok (.getfield 73, 3) := by decide +kernel
theorem d_Sh_hasBook_9 : decode prog_6_method_7_code 9 = .ok (.if_icmp .ge 7, 3) := by decide +kernel
theorem d_Sh_hasBook_12 : decode prog_6_method_7_code 12 = .ok (.iconst 1, 1) := by decide +kernel
theorem d_Sh_hasBook_13 : decode prog_6_method_7_code 13 = .ok (.goto 4, 3) := by decide +kernel
theorem d_Sh_hasBook_16 : decode prog_6_method_7_code 16 = .ok (.iconst 0, 1) := by decide +kernel
theorem d_Sh_hasBook_17 : decode prog_6_method_7_code 17 = .ok (.ireturn, 1) := by decide +kernel
def Sh_hasBook (Y : Ly) (l0 : Nat) (l1 : Int32) (h : Hp) : Option Bool :=
  if l1 < 0 then
    some false
  else
    if (hGi h 415 l0) ≤ l1 then
      some false
    else
      some true
theorem ok_Sh_hasBook (Y : Ly) (l0 : Nat) (l1 : Int32) (h : Hp) (t0 : isO Y 4 l0) : AM Y 0 K_Sh_hasBook [.ref l0, .int l1] h (Sh_hasBook Y l0 l1 h) (pZ h) := by
  refine AM.of rfl (Nat.le_of_ble_eq_true rfl) ?_
  show AW Y 0 K_Sh_hasBook 0 [(0, .ref l0), (1, .int l1)] [] h (Sh_hasBook Y l0 l1 h) (pZ h)
  unfold Sh_hasBook
  refine aw_iload_n (pc := 0) d_Sh_hasBook_0 rfl 1 rfl ?_
  refine aw_if_lt (pc := 1) (tgt := 16) d_Sh_hasBook_1 (by decide) (fun c1 => ?_) (fun c1 => ?_)
  · refine aw_iconst (pc := 16) (x := 0) d_Sh_hasBook_16 (by decide) ?_
    exact aw_zreturn (pc := 17) (b := false) d_Sh_hasBook_17 rfl rfl
  · refine aw_iload_n (pc := 4) d_Sh_hasBook_4 rfl 1 rfl ?_
    refine aw_aload_n (pc := 5) d_Sh_hasBook_5 rfl 0 rfl ?_
    refine gt_415 (pc := 6) d_Sh_hasBook_6 w2_158 t0 ?_
    refine aw_icmp_ge (pc := 9) (tgt := 16) d_Sh_hasBook_9 (by decide) (fun c2 => ?_) (fun c2 => ?_)
    · refine aw_iconst (pc := 16) (x := 0) d_Sh_hasBook_16 (by decide) ?_
      exact aw_zreturn (pc := 17) (b := false) d_Sh_hasBook_17 rfl rfl
    · refine aw_iconst (pc := 12) (x := 1) d_Sh_hasBook_12 (by decide) ?_
      refine aw_goto (pc := 13) (tgt := 17) d_Sh_hasBook_13 (by decide) ?_
      exact aw_zreturn (pc := 17) (b := true) d_Sh_hasBook_17 rfl rfl
/-! LastPages$Shelf.hintPart(II)I -/
theorem d_Sh_hintPart_0 : decode prog_6_method_11_code 0 = .ok (.iload_n 1, 1) := by decide +kernel
theorem d_Sh_hintPart_1 : decode prog_6_method_11_code 1 = .ok (.ifCond .lt 20, 3) := by decide +kernel
theorem d_Sh_hintPart_4 : decode prog_6_method_11_code 4 = .ok (.iload_n 1, 1) := by decide +kernel
theorem d_Sh_hintPart_5 : decode prog_6_method_11_code 5 = .ok (.aload_n 0, 1) := by decide +kernel
theorem d_Sh_hintPart_6 : decode prog_6_method_11_code 6 = .ok (.getfield 82, 3) := by decide +kernel
theorem d_Sh_hintPart_9 : decode prog_6_method_11_code 9 = .ok (.if_icmp .ge 12, 3) := by decide +kernel
theorem d_Sh_hintPart_12 : decode prog_6_method_11_code 12 = .ok (.iload_n 2, 1) := by decide +kernel
theorem d_Sh_hintPart_13 : decode prog_6_method_11_code 13 = .ok (.ifCond .lt 8, 3) := by decide +kernel
theorem d_Sh_hintPart_16 : decode prog_6_method_11_code 16 = .ok (.iload_n 2, 1) := by decide +kernel
theorem d_Sh_hintPart_17 : decode prog_6_method_11_code 17 = .ok (.iconst 4, 1) := by decide +kernel
theorem d_Sh_hintPart_18 : decode prog_6_method_11_code 18 = .ok (.if_icmp .lt 5, 3) := by decide +kernel
theorem d_Sh_hintPart_21 : decode prog_6_method_11_code 21 = .ok (.iconst (-1), 1) := by decide +kernel
theorem d_Sh_hintPart_22 : decode prog_6_method_11_code 22 = .ok (.ireturn, 1) := by decide +kernel
theorem d_Sh_hintPart_23 : decode prog_6_method_11_code 23 = .ok (.aload_n 0, 1) := by decide +kernel
theorem d_Sh_hintPart_24 : decode prog_6_method_11_code 24 = .ok (.getfield 59, 3) := by decide +kernel
theorem d_Sh_hintPart_27 : decode prog_6_method_11_code 27 = .ok (.iload_n 1, 1) := by decide +kernel
theorem d_Sh_hintPart_28 : decode prog_6_method_11_code 28 = .ok (.iconst 4, 1) := by decide +kernel
theorem d_Sh_hintPart_29 : decode prog_6_method_11_code 29 = .ok (.imul, 1) := by decide +kernel
theorem d_Sh_hintPart_30 : decode prog_6_method_11_code 30 = .ok (.iload_n 2, 1) := by decide +kernel
theorem d_Sh_hintPart_31 : decode prog_6_method_11_code 31 = .ok (.iadd, 1) := by decide +kernel
theorem d_Sh_hintPart_32 : decode prog_6_method_11_code 32 = .ok (.iaload, 1) := by decide +kernel
theorem d_Sh_hintPart_33 : decode prog_6_method_11_code 33 = .ok (.ireturn, 1) := by decide +kernel
def Sh_hintPart (Y : Ly) (l0 : Nat) (l1 : Int32) (l2 : Int32) (h : Hp) : Option Int32 :=
  if l1 < 0 then
    some (-1)
  else
    if (hGi h 418 l0) ≤ l1 then
      some (-1)
    else
      if l2 < 0 then
        some (-1)
      else
        if l2 < 4 then
          if inB ((l1 * 4) + l2) (lnY Y (hGr h 412 l0)) = true then
            some (hAi h (hGr h 412 l0) (Int32.toNatClampNeg ((l1 * 4) + l2)))
          else none
        else
          some (-1)
theorem ok_Sh_hintPart (Y : Ly) (l0 : Nat) (l1 : Int32) (l2 : Int32) (h : Hp) (t0 : isO Y 4 l0) : AM Y 0 K_Sh_hintPart [.ref l0, .int l1, .int l2] h (Sh_hintPart Y l0 l1 l2 h) (pI h) := by
  refine AM.of rfl (Nat.le_of_ble_eq_true rfl) ?_
  show AW Y 0 K_Sh_hintPart 0 [(0, .ref l0), (1, .int l1), (2, .int l2)] [] h (Sh_hintPart Y l0 l1 l2 h) (pI h)
  unfold Sh_hintPart
  refine aw_iload_n (pc := 0) d_Sh_hintPart_0 rfl 1 rfl ?_
  refine aw_if_lt (pc := 1) (tgt := 21) d_Sh_hintPart_1 (by decide) (fun c1 => ?_) (fun c1 => ?_)
  · refine aw_iconst (pc := 21) (x := (-1)) d_Sh_hintPart_21 (by decide) ?_
    exact aw_ireturn (pc := 22) d_Sh_hintPart_22 rfl rfl
  · refine aw_iload_n (pc := 4) d_Sh_hintPart_4 rfl 1 rfl ?_
    refine aw_aload_n (pc := 5) d_Sh_hintPart_5 rfl 0 rfl ?_
    refine gt_418 (pc := 6) d_Sh_hintPart_6 w2_170 t0 ?_
    refine aw_icmp_ge (pc := 9) (tgt := 21) d_Sh_hintPart_9 (by decide) (fun c2 => ?_) (fun c2 => ?_)
    · refine aw_iconst (pc := 21) (x := (-1)) d_Sh_hintPart_21 (by decide) ?_
      exact aw_ireturn (pc := 22) d_Sh_hintPart_22 rfl rfl
    · refine aw_iload_n (pc := 12) d_Sh_hintPart_12 rfl 2 rfl ?_
      refine aw_if_lt (pc := 13) (tgt := 21) d_Sh_hintPart_13 (by decide) (fun c3 => ?_) (fun c3 => ?_)
      · refine aw_iconst (pc := 21) (x := (-1)) d_Sh_hintPart_21 (by decide) ?_
        exact aw_ireturn (pc := 22) d_Sh_hintPart_22 rfl rfl
      · refine aw_iload_n (pc := 16) d_Sh_hintPart_16 rfl 2 rfl ?_
        refine aw_iconst (pc := 17) (x := 4) d_Sh_hintPart_17 (by decide) ?_
        refine aw_icmp_lt (pc := 18) (tgt := 23) d_Sh_hintPart_18 (by decide) (fun c4 => ?_) (fun c4 => ?_)
        · refine aw_aload_n (pc := 23) d_Sh_hintPart_23 rfl 0 rfl ?_
          refine gt_412 (pc := 24) d_Sh_hintPart_24 w2_153 t0 (fun tt5 => ?_)
          refine aw_iload_n (pc := 27) d_Sh_hintPart_27 rfl 1 rfl ?_
          refine aw_iconst (pc := 28) (x := 4) d_Sh_hintPart_28 (by decide) ?_
          refine aw_imul (pc := 29) d_Sh_hintPart_29 ?_
          refine aw_iload_n (pc := 30) d_Sh_hintPart_30 rfl 2 rfl ?_
          refine aw_iadd (pc := 31) d_Sh_hintPart_31 ?_
          refine aw_iaload (pc := 32) d_Sh_hintPart_32 tt5 (fun c6 => ?_)
          exact aw_ireturn (pc := 33) d_Sh_hintPart_33 rfl rfl
        · refine aw_iconst (pc := 21) (x := (-1)) d_Sh_hintPart_21 (by decide) ?_
          exact aw_ireturn (pc := 22) d_Sh_hintPart_22 rfl rfl
/-! LastPages$Shelf.placeOf(I)I -/
theorem d_Sh_placeOf_0 : decode prog_6_method_15_code 0 = .ok (.aload_n 0, 1) := by decide +kernel
theorem d_Sh_placeOf_1 : decode prog_6_method_15_code 1 = .ok (.iload_n 1, 1) := by decide +kernel
theorem d_Sh_placeOf_2 : decode prog_6_method_15_code 2 = .ok (.invokevirtual 112, 3) := by decide +kernel
theorem d_Sh_placeOf_5 : decode prog_6_method_15_code 5 = .ok (.ifCond .ne 5, 3) := by decide +kernel
theorem d_Sh_placeOf_8 : decode prog_6_method_15_code 8 = .ok (.iconst (-1), 1) := by decide +kernel
theorem d_Sh_placeOf_9 : decode prog_6_method_15_code 9 = .ok (.ireturn, 1) := by decide +kernel
theorem d_Sh_placeOf_10 : decode prog_6_method_15_code 10 = .ok (.aload_n 0, 1) := by decide +kernel
theorem d_Sh_placeOf_11 : decode prog_6_method_15_code 11 = .ok (.getfield 41, 3) := by decide +kernel
theorem d_Sh_placeOf_14 : decode prog_6_method_15_code 14 = .ok (.iload_n 1, 1) := by decide +kernel
theorem d_Sh_placeOf_15 : decode prog_6_method_15_code 15 = .ok (.iaload, 1) := by decide +kernel
theorem d_Sh_placeOf_16 : decode prog_6_method_15_code 16 = .ok (.istore_n 2, 1) := by decide +kernel
theorem d_Sh_placeOf_17 : decode prog_6_method_15_code 17 = .ok (.iconst 0, 1) := by decide +kernel
theorem d_Sh_placeOf_18 : decode prog_6_method_15_code 18 = .ok (.istore_n 3, 1) := by decide +kernel
theorem d_Sh_placeOf_19 : decode prog_6_method_15_code 19 = .ok (.iload_n 3, 1) := by decide +kernel
theorem d_Sh_placeOf_20 : decode prog_6_method_15_code 20 = .ok (.aload_n 0, 1) := by decide +kernel
theorem d_Sh_placeOf_21 : decode prog_6_method_15_code 21 = .ok (.getfield 47, 3) := by decide +kernel
theorem d_Sh_placeOf_24 : decode prog_6_method_15_code 24 = .ok (.iload_n 1, 1) := by decide +kernel
theorem d_Sh_placeOf_25 : decode prog_6_method_15_code 25 = .ok (.iaload, 1) := by decide +kernel
theorem d_Sh_placeOf_26 : decode prog_6_method_15_code 26 = .ok (.if_icmp .ge 34, 3) := by decide +kernel
theorem d_Sh_placeOf_29 : decode prog_6_method_15_code 29 = .ok (.iload_n 2, 1) := by decide +kernel
theorem d_Sh_placeOf_30 : decode prog_6_method_15_code 30 = .ok (.iconst (-1), 1) := by decide +kernel
theorem d_Sh_placeOf_31 : decode prog_6_method_15_code 31 = .ok (.if_icmp .eq 29, 3) := by decide +kernel
theorem d_Sh_placeOf_34 : decode prog_6_method_15_code 34 = .ok (.aload_n 0, 1) := by decide +kernel
theorem d_Sh_placeOf_35 : decode prog_6_method_15_code 35 = .ok (.getfield 12, 3) := by decide +kernel
theorem d_Sh_placeOf_38 : decode prog_6_method_15_code 38 = .ok (.iload_n 2, 1) := by decide +kernel
theorem d_Sh_placeOf_39 : decode prog_6_method_15_code 39 = .ok (.aload_n 0, 1) := by decide +kernel
theorem d_Sh_placeOf_40 : decode prog_6_method_15_code 40 = .ok (.getfield 50, 3) := by decide +kernel
theorem d_Sh_placeOf_43 : decode prog_6_method_15_code 43 = .ok (.iload_n 1, 1) := by decide +kernel
theorem d_Sh_placeOf_44 : decode prog_6_method_15_code 44 = .ok (.bipush 10, 2) := by decide +kernel
theorem d_Sh_placeOf_46 : decode prog_6_method_15_code 46 = .ok (.imul, 1) := by decide +kernel
theorem d_Sh_placeOf_47 : decode prog_6_method_15_code 47 = .ok (.iload_n 3, 1) := by decide +kernel
theorem d_Sh_placeOf_48 : decode prog_6_method_15_code 48 = .ok (.iadd, 1) := by decide +kernel
theorem d_Sh_placeOf_49 : decode prog_6_method_15_code 49 = .ok (.iaload, 1) := by decide +kernel
theorem d_Sh_placeOf_50 : decode prog_6_method_15_code 50 = .ok (.invokevirtual 116, 3) := by decide +kernel
theorem d_Sh_placeOf_53 : decode prog_6_method_15_code 53 = .ok (.istore_n 2, 1) := by decide +kernel
theorem d_Sh_placeOf_54 : decode prog_6_method_15_code 54 = .ok (.iinc 3 1, 3) := by decide +kernel
theorem d_Sh_placeOf_57 : decode prog_6_method_15_code 57 = .ok (.goto (-38), 3) := by decide +kernel
theorem d_Sh_placeOf_60 : decode prog_6_method_15_code 60 = .ok (.iload_n 2, 1) := by decide +kernel
theorem d_Sh_placeOf_61 : decode prog_6_method_15_code 61 = .ok (.ireturn, 1) := by decide +kernel
def Sh_placeOf_L19 (Y : Ly) (l0 : Nat) (l1 : Int32) (h : Hp) : Nat → Int32 → Int32 → Option Int32
  | 0, _, _ => none
  | F + 1, l2, l3 =>
    if inB l1 (lnY Y (hGr h 408 l0)) = true then
      if (hAi h (hGr h 408 l0) (Int32.toNatClampNeg l1)) ≤ l3 then
        some l2
      else
        if l2 = (-1) then
          some l2
        else
          if inB ((l1 * 10) + l3) (lnY Y (hGr h 409 l0)) = true then
            (St_leadsTo Y (hGr h 400 l0) l2 (hAi h (hGr h 409 l0) (Int32.toNatClampNeg ((l1 * 10) + l3))) h).bind fun q12 =>
            Sh_placeOf_L19 Y l0 l1 h F q12 (l3 + 1)
          else none
    else none
theorem Sh_placeOf_L19_ok (Y : Ly) (l0 : Nat) (l1 : Int32) (h : Hp) (tl0 : isO Y 4 l0) : ∀ (F : Nat) (l2 : Int32) (l3 : Int32), AW Y 1 K_Sh_placeOf 19 [(0, .ref l0), (1, .int l1), (2, .int l2), (3, .int l3)] [] h (Sh_placeOf_L19 Y l0 l1 h F l2 l3) (pI h) := by
  intro F
  induction F with
  | zero =>
    intro l2 l3
    exact aw_none
  | succ F ih =>
    intro l2 l3
    unfold Sh_placeOf_L19
    refine aw_iload_n (pc := 19) d_Sh_placeOf_19 rfl 3 rfl ?_
    refine aw_aload_n (pc := 20) d_Sh_placeOf_20 rfl 0 rfl ?_
    refine gt_408 (pc := 21) d_Sh_placeOf_21 w2_145 tl0 (fun tt5 => ?_)
    refine aw_iload_n (pc := 24) d_Sh_placeOf_24 rfl 1 rfl ?_
    refine aw_iaload (pc := 25) d_Sh_placeOf_25 tt5 (fun c6 => ?_)
    refine aw_icmp_ge (pc := 26) (tgt := 60) d_Sh_placeOf_26 (by decide) (fun c7 => ?_) (fun c7 => ?_)
    · refine aw_iload_n (pc := 60) d_Sh_placeOf_60 rfl 2 rfl ?_
      exact aw_ireturn (pc := 61) d_Sh_placeOf_61 rfl rfl
    · refine aw_iload_n (pc := 29) d_Sh_placeOf_29 rfl 2 rfl ?_
      refine aw_iconst (pc := 30) (x := (-1)) d_Sh_placeOf_30 (by decide) ?_
      refine aw_icmp_eq (pc := 31) (tgt := 60) d_Sh_placeOf_31 (by decide) (fun c8 => ?_) (fun c8 => ?_)
      · refine aw_iload_n (pc := 60) d_Sh_placeOf_60 rfl 2 rfl ?_
        exact aw_ireturn (pc := 61) d_Sh_placeOf_61 rfl rfl
      · refine aw_aload_n (pc := 34) d_Sh_placeOf_34 rfl 0 rfl ?_
        refine gt_400 (pc := 35) d_Sh_placeOf_35 w2_124 tl0 (fun tt9 => ?_)
        refine aw_iload_n (pc := 38) d_Sh_placeOf_38 rfl 2 rfl ?_
        refine aw_aload_n (pc := 39) d_Sh_placeOf_39 rfl 0 rfl ?_
        refine gt_409 (pc := 40) d_Sh_placeOf_40 w2_147 tl0 (fun tt10 => ?_)
        refine aw_iload_n (pc := 43) d_Sh_placeOf_43 rfl 1 rfl ?_
        refine aw_bipush (pc := 44) (x := 10) d_Sh_placeOf_44 (by decide) ?_
        refine aw_imul (pc := 46) d_Sh_placeOf_46 ?_
        refine aw_iload_n (pc := 47) d_Sh_placeOf_47 rfl 3 rfl ?_
        refine aw_iadd (pc := 48) d_Sh_placeOf_48 ?_
        refine aw_iaload (pc := 49) d_Sh_placeOf_49 tt10 (fun c11 => ?_)
        refine aw_cVpI (pc := 50) (ci := 6) (T := TX6) (N := 8) (As := [.int l2, .int (hAi h (hGr h 409 l0) (Int32.toNatClampNeg ((l1 * 10) + l3)))]) (st := []) (ok_St_leadsTo Y (hGr h 400 l0) l2 (hAi h (hGr h 409 l0) (Int32.toNatClampNeg ((l1 * 10) + l3))) h tt9) okV_St_leadsTo rfl (by decide) tt9 w4_205 d_Sh_placeOf_50 rfl (Nat.le_of_ble_eq_true rfl) rfl (Nat.le_of_ble_eq_true rfl) (fun q12 hq12 hTq12 => ?_)
        refine aw_istore_n (pc := 53) (lv' := [(2, .int q12), (0, .ref l0), (1, .int l1), (3, .int l3)]) d_Sh_placeOf_53 rfl (by decide) rfl ?_
        refine aw_iinc (pc := 54) (w := l3 + 1) (lv' := [(3, .int (l3 + 1)), (2, .int q12), (0, .ref l0), (1, .int l1)]) d_Sh_placeOf_54 3 rfl rfl (by decide) rfl ?_
        refine aw_goto (pc := 57) (tgt := 19) d_Sh_placeOf_57 (by decide) ?_
        exact aw_lv [2, 3, 1, 0] rfl (ih q12 (l3 + 1))
def Sh_placeOf (Y : Ly) (l0 : Nat) (l1 : Int32) (h : Hp) : Option Int32 :=
  (Sh_hasBook Y l0 l1 h).bind fun q1 =>
  if q1 = true then
    if inB l1 (lnY Y (hGr h 406 l0)) = true then
      Sh_placeOf_L19 Y l0 l1 h FU (hAi h (hGr h 406 l0) (Int32.toNatClampNeg l1)) 0
    else none
  else
    some (-1)
theorem ok_Sh_placeOf (Y : Ly) (l0 : Nat) (l1 : Int32) (h : Hp) (t0 : isO Y 4 l0) : AM Y 1 K_Sh_placeOf [.ref l0, .int l1] h (Sh_placeOf Y l0 l1 h) (pI h) := by
  refine AM.of rfl (Nat.le_of_ble_eq_true rfl) ?_
  show AW Y 1 K_Sh_placeOf 0 [(0, .ref l0), (1, .int l1)] [] h (Sh_placeOf Y l0 l1 h) (pI h)
  unfold Sh_placeOf
  refine aw_aload_n (pc := 0) d_Sh_placeOf_0 rfl 0 rfl ?_
  refine aw_iload_n (pc := 1) d_Sh_placeOf_1 rfl 1 rfl ?_
  refine aw_cVpZ (pc := 2) (ci := 4) (T := TX4) (N := 19) (As := [.int l1]) (st := []) (ok_Sh_hasBook Y l0 l1 h t0) okV_Sh_hasBook rfl (by decide) t0 w4_204 d_Sh_placeOf_2 rfl (Nat.le_of_ble_eq_true rfl) rfl (Nat.le_of_ble_eq_true rfl) (fun q1 hq1 hTq1 => ?_)
  refine aw_bne (pc := 5) (tgt := 10) d_Sh_placeOf_5 (by decide) (fun c2 => ?_) (fun c2 => ?_)
  · refine aw_aload_n (pc := 10) d_Sh_placeOf_10 rfl 0 rfl ?_
    refine gt_406 (pc := 11) d_Sh_placeOf_11 w2_139 t0 (fun tt3 => ?_)
    refine aw_iload_n (pc := 14) d_Sh_placeOf_14 rfl 1 rfl ?_
    refine aw_iaload (pc := 15) d_Sh_placeOf_15 tt3 (fun c4 => ?_)
    refine aw_istore_n (pc := 16) (lv' := [(2, .int (hAi h (hGr h 406 l0) (Int32.toNatClampNeg l1))), (0, .ref l0), (1, .int l1)]) d_Sh_placeOf_16 rfl (by decide) rfl ?_
    refine aw_iconst (pc := 17) (x := 0) d_Sh_placeOf_17 (by decide) ?_
    refine aw_istore_n (pc := 18) (lv' := [(3, .int 0), (2, .int (hAi h (hGr h 406 l0) (Int32.toNatClampNeg l1))), (0, .ref l0), (1, .int l1)]) d_Sh_placeOf_18 rfl (by decide) rfl ?_
    exact aw_lv [2, 3, 1, 0] rfl (Sh_placeOf_L19_ok Y l0 l1 h t0 FU (hAi h (hGr h 406 l0) (Int32.toNatClampNeg l1)) 0)
  · refine aw_iconst (pc := 8) (x := (-1)) d_Sh_placeOf_8 (by decide) ?_
    exact aw_ireturn (pc := 9) d_Sh_placeOf_9 rfl rfl
/-! java/util/Arrays.fill([II)V -/
theorem d_J_fillI_0 : decode prog_21_method_103_code 0 = .ok (.iconst 0, 1) := by decide +kernel
theorem d_J_fillI_1 : decode prog_21_method_103_code 1 = .ok (.istore_n 2, 1) := by decide +kernel
theorem d_J_fillI_2 : decode prog_21_method_103_code 2 = .ok (.aload_n 0, 1) := by decide +kernel
theorem d_J_fillI_3 : decode prog_21_method_103_code 3 = .ok (.arraylength, 1) := by decide +kernel
theorem d_J_fillI_4 : decode prog_21_method_103_code 4 = .ok (.istore_n 3, 1) := by decide +kernel
theorem d_J_fillI_5 : decode prog_21_method_103_code 5 = .ok (.iload_n 2, 1) := by decide +kernel
theorem d_J_fillI_6 : decode prog_21_method_103_code 6 = .ok (.iload_n 3, 1) := by decide +kernel
theorem d_J_fillI_7 : decode prog_21_method_103_code 7 = .ok (.if_icmp .ge 13, 3) := by decide +kernel
theorem d_J_fillI_10 : decode prog_21_method_103_code 10 = .ok (.aload_n 0, 1) := by decide +kernel
theorem d_J_fillI_11 : decode prog_21_method_103_code 11 = .ok (.iload_n 2, 1) := by decide +kernel
theorem d_J_fillI_12 : decode prog_21_method_103_code 12 = .ok (.iload_n 1, 1) := by decide +kernel
theorem d_J_fillI_13 : decode prog_21_method_103_code 13 = .ok (.iastore, 1) := by decide +kernel
theorem d_J_fillI_14 : decode prog_21_method_103_code 14 = .ok (.iinc 2 1, 3) := by decide +kernel
theorem d_J_fillI_17 : decode prog_21_method_103_code 17 = .ok (.goto (-12), 3) := by decide +kernel
theorem d_J_fillI_20 : decode prog_21_method_103_code 20 = .ok (.return_, 1) := by decide +kernel
def J_fillI_L5 (Y : Ly) (l0 : Nat) (l1 : Int32) (l3 : Int32) : Nat → Int32 → Hp → Option Hp
  | 0, _, _ => none
  | F + 1, l2, h =>
    if l3 ≤ l2 then
      some h
    else
      if inB l2 (lnY Y l0) = true then
        letH (hTi h l0 (Int32.toNatClampNeg l2) l1) fun h3 =>
        J_fillI_L5 Y l0 l1 l3 F (l2 + 1) h3
      else none
theorem J_fillI_L5_ok (Y : Ly) (l0 : Nat) (l1 : Int32) (l3 : Int32) (tl0 : isO Y 20 l0) : ∀ (F : Nat) (l2 : Int32) (h : Hp), AW Y 0 K_J_fillI 5 [(0, .ref l0), (1, .int l1), (2, .int l2), (3, .int l3)] [] h (J_fillI_L5 Y l0 l1 l3 F l2 h) rV := by
  intro F
  induction F with
  | zero =>
    intro l2 h
    exact aw_none
  | succ F ih =>
    intro l2 h
    unfold J_fillI_L5
    refine aw_iload_n (pc := 5) d_J_fillI_5 rfl 2 rfl ?_
    refine aw_iload_n (pc := 6) d_J_fillI_6 rfl 3 rfl ?_
    refine aw_icmp_ge (pc := 7) (tgt := 20) d_J_fillI_7 (by decide) (fun c1 => ?_) (fun c1 => ?_)
    · exact aw_return (pc := 20) d_J_fillI_20 rfl rfl
    · refine aw_aload_n (pc := 10) d_J_fillI_10 rfl 0 rfl ?_
      refine aw_iload_n (pc := 11) d_J_fillI_11 rfl 2 rfl ?_
      refine aw_iload_n (pc := 12) d_J_fillI_12 rfl 1 rfl ?_
      refine aw_iastore (pc := 13) d_J_fillI_13 tl0 (fun c2 => ?_)
      refine aw_letH (fun h3 => ?_)
      refine aw_iinc (pc := 14) (w := l2 + 1) (lv' := [(2, .int (l2 + 1)), (0, .ref l0), (1, .int l1), (3, .int l3)]) d_J_fillI_14 2 rfl rfl (by decide) rfl ?_
      refine aw_goto (pc := 17) (tgt := 5) d_J_fillI_17 (by decide) ?_
      exact aw_lv [1, 2, 0, 3] rfl (ih (l2 + 1) h3)
def J_fillI (Y : Ly) (l0 : Nat) (l1 : Int32) (h : Hp) : Option Hp :=
  J_fillI_L5 Y l0 l1 (Int32.ofNat (lnY Y l0)) FU 0 h
theorem ok_J_fillI (Y : Ly) (l0 : Nat) (l1 : Int32) (h : Hp) (t0 : isO Y 20 l0) : AM Y 0 K_J_fillI [.ref l0, .int l1] h (J_fillI Y l0 l1 h) rV := by
  refine AM.of rfl (Nat.le_of_ble_eq_true rfl) ?_
  show AW Y 0 K_J_fillI 0 [(0, .ref l0), (1, .int l1)] [] h (J_fillI Y l0 l1 h) rV
  unfold J_fillI
  refine aw_iconst (pc := 0) (x := 0) d_J_fillI_0 (by decide) ?_
  refine aw_istore_n (pc := 1) (lv' := [(2, .int 0), (0, .ref l0), (1, .int l1)]) d_J_fillI_1 rfl (by decide) rfl ?_
  refine aw_aload_n (pc := 2) d_J_fillI_2 rfl 1 rfl ?_
  refine aw_alen20 (pc := 3) d_J_fillI_3 t0 ?_
  refine aw_istore_n (pc := 4) (lv' := [(3, .int (Int32.ofNat (lnY Y l0))), (2, .int 0), (0, .ref l0), (1, .int l1)]) d_J_fillI_4 rfl (by decide) rfl ?_
  exact aw_lv [2, 3, 1, 0] rfl (J_fillI_L5_ok Y l0 l1 (Int32.ofNat (lnY Y l0)) t0 FU 0 h)
/-! LastPages$Endings.lookAt(LLastPages$Shelf;II)V -/
theorem d_En_lookAt_0 : decode prog_2_method_2_code 0 = .ok (.aload_n 0, 1) := by decide +kernel
theorem d_En_lookAt_1 : decode prog_2_method_2_code 1 = .ok (.aload_n 1, 1) := by decide +kernel
theorem d_En_lookAt_2 : decode prog_2_method_2_code 2 = .ok (.getfield 42, 3) := by decide +kernel
theorem d_En_lookAt_5 : decode prog_2_method_2_code 5 = .ok (.putfield 31, 3) := by decide +kernel
theorem d_En_lookAt_8 : decode prog_2_method_2_code 8 = .ok (.aload_n 0, 1) := by decide +kernel
theorem d_En_lookAt_9 : decode prog_2_method_2_code 9 = .ok (.aload_n 1, 1) := by decide +kernel
theorem d_En_lookAt_10 : decode prog_2_method_2_code 10 = .ok (.iload_n 2, 1) := by decide +kernel
theorem d_En_lookAt_11 : decode prog_2_method_2_code 11 = .ok (.invokevirtual 45, 3) := by decide +kernel
theorem d_En_lookAt_14 : decode prog_2_method_2_code 14 = .ok (.ifCond .eq 17, 3) := by decide +kernel
theorem d_En_lookAt_17 : decode prog_2_method_2_code 17 = .ok (.aload_n 1, 1) := by decide +kernel
theorem d_En_lookAt_18 : decode prog_2_method_2_code 18 = .ok (.getfield 49, 3) := by decide +kernel
theorem d_En_lookAt_21 : decode prog_2_method_2_code 21 = .ok (.iload_n 2, 1) := by decide +kernel
theorem d_En_lookAt_22 : decode prog_2_method_2_code 22 = .ok (.iaload, 1) := by decide +kernel
theorem d_En_lookAt_23 : decode prog_2_method_2_code 23 = .ok (.bipush 6, 2) := by decide +kernel
theorem d_En_lookAt_25 : decode prog_2_method_2_code 25 = .ok (.invokestatic 51, 3) := by decide +kernel
theorem d_En_lookAt_28 : decode prog_2_method_2_code 28 = .ok (.goto 4, 3) := by decide +kernel
theorem d_En_lookAt_31 : decode prog_2_method_2_code 31 = .ok (.iconst 0, 1) := by decide +kernel
theorem d_En_lookAt_32 : decode prog_2_method_2_code 32 = .ok (.putfield 35, 3) := by decide +kernel
theorem d_En_lookAt_35 : decode prog_2_method_2_code 35 = .ok (.aload_n 0, 1) := by decide +kernel
theorem d_En_lookAt_36 : decode prog_2_method_2_code 36 = .ok (.aload_n 1, 1) := by decide +kernel
theorem d_En_lookAt_37 : decode prog_2_method_2_code 37 = .ok (.iload_n 2, 1) := by decide +kernel
theorem d_En_lookAt_38 : decode prog_2_method_2_code 38 = .ok (.invokevirtual 57, 3) := by decide +kernel
theorem d_En_lookAt_41 : decode prog_2_method_2_code 41 = .ok (.putfield 39, 3) := by decide +kernel
theorem d_En_lookAt_44 : decode prog_2_method_2_code 44 = .ok (.aload_n 0, 1) := by decide +kernel
theorem d_En_lookAt_45 : decode prog_2_method_2_code 45 = .ok (.getfield 9, 3) := by decide +kernel
theorem d_En_lookAt_48 : decode prog_2_method_2_code 48 = .ok (.iconst 1, 1) := by decide +kernel
theorem d_En_lookAt_49 : decode prog_2_method_2_code 49 = .ok (.aload_n 0, 1) := by decide +kernel
theorem d_En_lookAt_50 : decode prog_2_method_2_code 50 = .ok (.getfield 31, 3) := by decide +kernel
theorem d_En_lookAt_53 : decode prog_2_method_2_code 53 = .ok (.getfield 61, 3) := by decide +kernel
theorem d_En_lookAt_56 : decode prog_2_method_2_code 56 = .ok (.ishl, 1) := by decide +kernel
theorem d_En_lookAt_57 : decode prog_2_method_2_code 57 = .ok (.iconst 1, 1) := by decide +kernel
theorem d_En_lookAt_58 : decode prog_2_method_2_code 58 = .ok (.isub, 1) := by decide +kernel
theorem d_En_lookAt_59 : decode prog_2_method_2_code 59 = .ok (.invokestatic 64, 3) := by decide +kernel
theorem d_En_lookAt_62 : decode prog_2_method_2_code 62 = .ok (.iconst 0, 1) := by decide +kernel
theorem d_En_lookAt_63 : decode prog_2_method_2_code 63 = .ok (.istore 4, 2) := by decide +kernel
theorem d_En_lookAt_65 : decode prog_2_method_2_code 65 = .ok (.iload 4, 2) := by decide +kernel
theorem d_En_lookAt_67 : decode prog_2_method_2_code 67 = .ok (.aload_n 1, 1) := by decide +kernel
theorem d_En_lookAt_68 : decode prog_2_method_2_code 68 = .ok (.getfield 70, 3) := by decide +kernel
theorem d_En_lookAt_71 : decode prog_2_method_2_code 71 = .ok (.if_icmp .ge 73, 3) := by decide +kernel
theorem d_En_lookAt_74 : decode prog_2_method_2_code 74 = .ok (.aload_n 1, 1) := by decide +kernel
theorem d_En_lookAt_75 : decode prog_2_method_2_code 75 = .ok (.iload 4, 2) := by decide +kernel
theorem d_En_lookAt_77 : decode prog_2_method_2_code 77 = .ok (.iconst 1, 1) := by decide +kernel
theorem d_En_lookAt_78 : decode prog_2_method_2_code 78 = .ok (.invokevirtual 73, 3) := by decide +kernel
theorem d_En_lookAt_81 : decode prog_2_method_2_code 81 = .ok (.iconst 1, 1) := by decide +kernel
theorem d_En_lookAt_82 : decode prog_2_method_2_code 82 = .ok (.isub, 1) := by decide +kernel
theorem d_En_lookAt_83 : decode prog_2_method_2_code 83 = .ok (.istore 5, 2) := by decide +kernel
theorem d_En_lookAt_85 : decode prog_2_method_2_code 85 = .ok (.aload_n 1, 1) := by decide +kernel
theorem d_En_lookAt_86 : decode prog_2_method_2_code 86 = .ok (.iload 4, 2) := by decide +kernel
theorem d_En_lookAt_88 : decode prog_2_method_2_code 88 = .ok (.iconst 0, 1) := by decide +kernel
theorem d_En_lookAt_89 : decode prog_2_method_2_code 89 = .ok (.invokevirtual 73, 3) := by decide +kernel
theorem d_En_lookAt_92 : decode prog_2_method_2_code 92 = .ok (.iload_n 2, 1) := by decide +kernel
theorem d_En_lookAt_93 : decode prog_2_method_2_code 93 = .ok (.if_icmp .ne 45, 3) := by decide +kernel
theorem d_En_lookAt_96 : decode prog_2_method_2_code 96 = .ok (.iload_n 3, 1) := by decide +kernel
theorem d_En_lookAt_97 : decode prog_2_method_2_code 97 = .ok (.aload_n 1, 1) := by decide +kernel
theorem d_En_lookAt_98 : decode prog_2_method_2_code 98 = .ok (.iload 4, 2) := by decide +kernel
theorem d_En_lookAt_100 : decode prog_2_method_2_code 100 = .ok (.iconst 3, 1) := by decide +kernel
theorem d_En_lookAt_101 : decode prog_2_method_2_code 101 = .ok (.invokevirtual 73, 3) := by decide +kernel
theorem d_En_lookAt_104 : decode prog_2_method_2_code 104 = .ok (.invokestatic 76, 3) := by decide +kernel
theorem d_En_lookAt_107 : decode prog_2_method_2_code 107 = .ok (.ifCond .ne 31, 3) := by decide +kernel
theorem d_En_lookAt_110 : decode prog_2_method_2_code 110 = .ok (.aload_n 0, 1) := by decide +kernel
theorem d_En_lookAt_111 : decode prog_2_method_2_code 111 = .ok (.iload 5, 2) := by decide +kernel
theorem d_En_lookAt_113 : decode prog_2_method_2_code 113 = .ok (.invokevirtual 80, 3) := by decide +kernel
theorem d_En_lookAt_116 : decode prog_2_method_2_code 116 = .ok (.ifCond .eq 22, 3) := by decide +kernel
theorem d_En_lookAt_119 : decode prog_2_method_2_code 119 = .ok (.aload_n 0, 1) := by decide +kernel
theorem d_En_lookAt_120 : decode prog_2_method_2_code 120 = .ok (.getfield 9, 3) := by decide +kernel
theorem d_En_lookAt_123 : decode prog_2_method_2_code 123 = .ok (.iload 5, 2) := by decide +kernel
theorem d_En_lookAt_125 : decode prog_2_method_2_code 125 = .ok (.dup2, 1) := by decide +kernel
theorem d_En_lookAt_126 : decode prog_2_method_2_code 126 = .ok (.iaload, 1) := by decide +kernel
theorem d_En_lookAt_127 : decode prog_2_method_2_code 127 = .ok (.iconst 1, 1) := by decide +kernel
theorem d_En_lookAt_128 : decode prog_2_method_2_code 128 = .ok (.aload_n 1, 1) := by decide +kernel
theorem d_En_lookAt_129 : decode prog_2_method_2_code 129 = .ok (.iload 4, 2) := by decide +kernel
theorem d_En_lookAt_131 : decode prog_2_method_2_code 131 = .ok (.iconst 2, 1) := by decide +kernel
theorem d_En_lookAt_132 : decode prog_2_method_2_code 132 = .ok (.invokevirtual 73, 3) := by decide +kernel
theorem d_En_lookAt_135 : decode prog_2_method_2_code 135 = .ok (.ishl, 1) := by decide +kernel
theorem d_En_lookAt_136 : decode prog_2_method_2_code 136 = .ok (.iand, 1) := by decide +kernel
theorem d_En_lookAt_137 : decode prog_2_method_2_code 137 = .ok (.iastore, 1) := by decide +kernel
theorem d_En_lookAt_138 : decode prog_2_method_2_code 138 = .ok (.iinc 4 1, 3) := by decide +kernel
theorem d_En_lookAt_141 : decode prog_2_method_2_code 141 = .ok (.goto (-76), 3) := by decide +kernel
theorem d_En_lookAt_144 : decode prog_2_method_2_code 144 = .ok (.return_, 1) := by decide +kernel
def En_lookAt_L65 (Y : Ly) (l0 : Nat) (l1 : Nat) (l2 : Int32) (l3 : Int32) : Nat → Int32 → Hp → Option Hp
  | 0, _, _ => none
  | F + 1, l4, h =>
    if (hGi h 418 l1) ≤ l4 then
      some h
    else
      (Sh_hintPart Y l1 l4 1 h).bind fun q14 =>
      (Sh_hintPart Y l1 l4 0 h).bind fun q15 =>
      if q15 = l2 then
        (Sh_hintPart Y l1 l4 3 h).bind fun q17 =>
        (LP_has Y l3 q17 h).bind fun q18 =>
        if q18 = true then
          En_lookAt_L65 Y l0 l1 l2 l3 F (l4 + 1) h
        else
          (En_isPlace Y l0 (q14 - 1) h).bind fun q20 =>
          if q20 = true then
            if inB (q14 - 1) (lnY Y (hGr h 0 l0)) = true then
              (Sh_hintPart Y l1 l4 2 h).bind fun q24 =>
              if inB (q14 - 1) (lnY Y (hGr h 0 l0)) = true then
                letH (hTi h (hGr h 0 l0) (Int32.toNatClampNeg (q14 - 1)) ((hAi h (hGr h 0 l0) (Int32.toNatClampNeg (q14 - 1))) &&& ((1 : Int32) <<< (q24 &&& 31)))) fun h26 =>
                En_lookAt_L65 Y l0 l1 l2 l3 F (l4 + 1) h26
              else none
            else none
          else
            En_lookAt_L65 Y l0 l1 l2 l3 F (l4 + 1) h
      else
        En_lookAt_L65 Y l0 l1 l2 l3 F (l4 + 1) h
theorem En_lookAt_L65_ok (Y : Ly) (l0 : Nat) (l1 : Nat) (l2 : Int32) (l3 : Int32) (tl0 : isO Y 0 l0) (tl1 : isO Y 4 l1) : ∀ (F : Nat) (l4 : Int32) (h : Hp), AW Y 2 K_En_lookAt 65 [(0, .ref l0), (1, .ref l1), (2, .int l2), (3, .int l3), (4, .int l4)] [] h (En_lookAt_L65 Y l0 l1 l2 l3 F l4 h) rV := by
  intro F
  induction F with
  | zero =>
    intro l4 h
    exact aw_none
  | succ F ih =>
    intro l4 h
    unfold En_lookAt_L65
    refine aw_iload (pc := 65) d_En_lookAt_65 4 rfl ?_
    refine aw_aload_n (pc := 67) d_En_lookAt_67 rfl 1 rfl ?_
    refine gt_418 (pc := 68) d_En_lookAt_68 w2_171 tl1 ?_
    refine aw_icmp_ge (pc := 71) (tgt := 144) d_En_lookAt_71 (by decide) (fun c13 => ?_) (fun c13 => ?_)
    · exact aw_return (pc := 144) d_En_lookAt_144 rfl rfl
    · refine aw_aload_n (pc := 74) d_En_lookAt_74 rfl 1 rfl ?_
      refine aw_iload (pc := 75) d_En_lookAt_75 4 rfl ?_
      refine aw_iconst (pc := 77) (x := 1) d_En_lookAt_77 (by decide) ?_
      refine aw_cVpI (pc := 78) (ci := 4) (T := TX4) (N := 19) (As := [.int l4, .int 1]) (st := []) (ok_Sh_hintPart Y l1 l4 1 h tl1) okV_Sh_hintPart rfl (by decide) tl1 w5_35 d_En_lookAt_78 rfl (Nat.le_of_ble_eq_true rfl) rfl (Nat.le_of_ble_eq_true rfl) (fun q14 hq14 hTq14 => ?_)
      refine aw_iconst (pc := 81) (x := 1) d_En_lookAt_81 (by decide) ?_
      refine aw_isub (pc := 82) d_En_lookAt_82 ?_
      refine aw_istore (pc := 83) (lv' := [(5, .int (q14 - 1)), (0, .ref l0), (1, .ref l1), (2, .int l2), (3, .int l3), (4, .int l4)]) d_En_lookAt_83 (by decide) rfl ?_
      refine aw_aload_n (pc := 85) d_En_lookAt_85 rfl 2 rfl ?_
      refine aw_iload (pc := 86) d_En_lookAt_86 5 rfl ?_
      refine aw_iconst (pc := 88) (x := 0) d_En_lookAt_88 (by decide) ?_
      refine aw_cVpI (pc := 89) (ci := 4) (T := TX4) (N := 19) (As := [.int l4, .int 0]) (st := []) (ok_Sh_hintPart Y l1 l4 0 h tl1) okV_Sh_hintPart rfl (by decide) tl1 w5_35 d_En_lookAt_89 rfl (Nat.le_of_ble_eq_true rfl) rfl (Nat.le_of_ble_eq_true rfl) (fun q15 hq15 hTq15 => ?_)
      refine aw_iload_n (pc := 92) d_En_lookAt_92 rfl 3 rfl ?_
      refine aw_icmp_ne (pc := 93) (tgt := 138) d_En_lookAt_93 (by decide) (fun c16 => ?_) (fun c16 => ?_)
      · refine aw_iload_n (pc := 96) d_En_lookAt_96 rfl 4 rfl ?_
        refine aw_aload_n (pc := 97) d_En_lookAt_97 rfl 2 rfl ?_
        refine aw_iload (pc := 98) d_En_lookAt_98 5 rfl ?_
        refine aw_iconst (pc := 100) (x := 3) d_En_lookAt_100 (by decide) ?_
        refine aw_cVpI (pc := 101) (ci := 4) (T := TX4) (N := 19) (As := [.int l4, .int 3]) (st := [.int l3]) (ok_Sh_hintPart Y l1 l4 3 h tl1) okV_Sh_hintPart rfl (by decide) tl1 w5_35 d_En_lookAt_101 rfl (Nat.le_of_ble_eq_true rfl) rfl (Nat.le_of_ble_eq_true rfl) (fun q17 hq17 hTq17 => ?_)
        refine aw_cNpZ (pc := 104) (As := [.int l3, .int q17]) (st := []) (ok_LP_has Y l3 q17 h) okS_LP_has (List.mem_of_getElem? (i := 11) rfl) d_En_lookAt_104 rfl (Nat.le_of_ble_eq_true rfl) rfl (Nat.le_of_ble_eq_true rfl) (fun q18 hq18 hTq18 => ?_)
        refine aw_bne (pc := 107) (tgt := 138) d_En_lookAt_107 (by decide) (fun c19 => ?_) (fun c19 => ?_)
        · refine aw_iinc (pc := 138) (w := l4 + 1) (lv' := [(4, .int (l4 + 1)), (5, .int (q14 - 1)), (0, .ref l0), (1, .ref l1), (2, .int l2), (3, .int l3)]) d_En_lookAt_138 5 rfl rfl (by decide) rfl ?_
          refine aw_goto (pc := 141) (tgt := 65) d_En_lookAt_141 (by decide) ?_
          exact aw_lv [2, 3, 4, 5, 0] rfl (ih (l4 + 1) h)
        · refine aw_aload_n (pc := 110) d_En_lookAt_110 rfl 1 rfl ?_
          refine aw_iload (pc := 111) d_En_lookAt_111 0 rfl ?_
          refine aw_cVpZ (pc := 113) (ci := 0) (T := TX0) (N := 8) (As := [.int (q14 - 1)]) (st := []) (ok_En_isPlace Y l0 (q14 - 1) h tl0) okV_En_isPlace rfl (by decide) tl0 w5_39 d_En_lookAt_113 rfl (Nat.le_of_ble_eq_true rfl) rfl (Nat.le_of_ble_eq_true rfl) (fun q20 hq20 hTq20 => ?_)
          refine aw_beq (pc := 116) (tgt := 138) d_En_lookAt_116 (by decide) (fun c21 => ?_) (fun c21 => ?_)
          · refine aw_aload_n (pc := 119) d_En_lookAt_119 rfl 1 rfl ?_
            refine gt_0 (pc := 120) d_En_lookAt_120 w1_218 tl0 (fun tt22 => ?_)
            refine aw_iload (pc := 123) d_En_lookAt_123 0 rfl ?_
            refine aw_dup2_11 (pc := 125) d_En_lookAt_125 rfl rfl ?_
            refine aw_iaload (pc := 126) d_En_lookAt_126 tt22 (fun c23 => ?_)
            refine aw_iconst (pc := 127) (x := 1) d_En_lookAt_127 (by decide) ?_
            refine aw_aload_n (pc := 128) d_En_lookAt_128 rfl 2 rfl ?_
            refine aw_iload (pc := 129) d_En_lookAt_129 5 rfl ?_
            refine aw_iconst (pc := 131) (x := 2) d_En_lookAt_131 (by decide) ?_
            refine aw_cVpI (pc := 132) (ci := 4) (T := TX4) (N := 19) (As := [.int l4, .int 2]) (st := [.int 1, .int (hAi h (hGr h 0 l0) (Int32.toNatClampNeg (q14 - 1))), .int (q14 - 1), .ref (hGr h 0 l0)]) (ok_Sh_hintPart Y l1 l4 2 h tl1) okV_Sh_hintPart rfl (by decide) tl1 w5_35 d_En_lookAt_132 rfl (Nat.le_of_ble_eq_true rfl) rfl (Nat.le_of_ble_eq_true rfl) (fun q24 hq24 hTq24 => ?_)
            refine aw_ishl (pc := 135) d_En_lookAt_135 ?_
            refine aw_iand (pc := 136) d_En_lookAt_136 ?_
            refine aw_iastore (pc := 137) d_En_lookAt_137 tt22 (fun c25 => ?_)
            refine aw_letH (fun h26 => ?_)
            refine aw_iinc (pc := 138) (w := l4 + 1) (lv' := [(4, .int (l4 + 1)), (5, .int (q14 - 1)), (0, .ref l0), (1, .ref l1), (2, .int l2), (3, .int l3)]) d_En_lookAt_138 5 rfl rfl (by decide) rfl ?_
            refine aw_goto (pc := 141) (tgt := 65) d_En_lookAt_141 (by decide) ?_
            exact aw_lv [2, 3, 4, 5, 0] rfl (ih (l4 + 1) h26)
          · refine aw_iinc (pc := 138) (w := l4 + 1) (lv' := [(4, .int (l4 + 1)), (5, .int (q14 - 1)), (0, .ref l0), (1, .ref l1), (2, .int l2), (3, .int l3)]) d_En_lookAt_138 5 rfl rfl (by decide) rfl ?_
            refine aw_goto (pc := 141) (tgt := 65) d_En_lookAt_141 (by decide) ?_
            exact aw_lv [2, 3, 4, 5, 0] rfl (ih (l4 + 1) h)
      · refine aw_iinc (pc := 138) (w := l4 + 1) (lv' := [(4, .int (l4 + 1)), (5, .int (q14 - 1)), (0, .ref l0), (1, .ref l1), (2, .int l2), (3, .int l3)]) d_En_lookAt_138 5 rfl rfl (by decide) rfl ?_
        refine aw_goto (pc := 141) (tgt := 65) d_En_lookAt_141 (by decide) ?_
        exact aw_lv [2, 3, 4, 5, 0] rfl (ih (l4 + 1) h)
def En_lookAt_J32 (Y : Ly) (l0 : Nat) (l1 : Nat) (l2 : Int32) (l3 : Int32) (s0 : Int32) (s1 : Nat) (h : Hp) : Option Hp :=
  letH (hSi h 6 s1 s0) fun h7 =>
  (Sh_placeOf Y l1 l2 h7).bind fun q8 =>
  letH (hSi h7 7 l0 q8) fun h9 =>
  (J_fillI Y (hGr h9 0 l0) (((1 : Int32) <<< ((hGi h9 605 (hGr h9 5 l0)) &&& 31)) - 1) h9).bind fun q12 =>
  En_lookAt_L65 Y l0 l1 l2 l3 FU 0 q12
theorem En_lookAt_J32_ok (Y : Ly) (l0 : Nat) (l1 : Nat) (l2 : Int32) (l3 : Int32) (s0 : Int32) (s1 : Nat) (h : Hp) (tl0 : isO Y 0 l0) (tl1 : isO Y 4 l1) (ts1 : isO Y 0 s1) : AW Y 2 K_En_lookAt 32 [(0, .ref l0), (1, .ref l1), (2, .int l2), (3, .int l3)] [.int s0, .ref s1] h (En_lookAt_J32 Y l0 l1 l2 l3 s0 s1 h) rV := by
  unfold En_lookAt_J32
  refine pt_6 (pc := 32) d_En_lookAt_32 w1_224 ts1 ?_
  refine aw_letH (fun h7 => ?_)
  refine aw_aload_n (pc := 35) d_En_lookAt_35 rfl 0 rfl ?_
  refine aw_aload_n (pc := 36) d_En_lookAt_36 rfl 1 rfl ?_
  refine aw_iload_n (pc := 37) d_En_lookAt_37 rfl 2 rfl ?_
  refine aw_cVpI (pc := 38) (ci := 4) (T := TX4) (N := 19) (As := [.int l2]) (st := [.ref l0]) (ok_Sh_placeOf Y l1 l2 h7 tl1) okV_Sh_placeOf rfl (by decide) tl1 w5_33 d_En_lookAt_38 rfl (Nat.le_of_ble_eq_true rfl) rfl (Nat.le_of_ble_eq_true rfl) (fun q8 hq8 hTq8 => ?_)
  refine pt_7 (pc := 41) d_En_lookAt_41 w1_225 tl0 ?_
  refine aw_letH (fun h9 => ?_)
  refine aw_aload_n (pc := 44) d_En_lookAt_44 rfl 0 rfl ?_
  refine gt_0 (pc := 45) d_En_lookAt_45 w1_218 tl0 (fun tt10 => ?_)
  refine aw_iconst (pc := 48) (x := 1) d_En_lookAt_48 (by decide) ?_
  refine aw_aload_n (pc := 49) d_En_lookAt_49 rfl 0 rfl ?_
  refine gt_5 (pc := 50) d_En_lookAt_50 w1_223 tl0 (fun tt11 => ?_)
  refine gt_605 (pc := 53) d_En_lookAt_53 w1_191 tt11 ?_
  refine aw_ishl (pc := 56) d_En_lookAt_56 ?_
  refine aw_iconst (pc := 57) (x := 1) d_En_lookAt_57 (by decide) ?_
  refine aw_isub (pc := 58) d_En_lookAt_58 ?_
  refine aw_cSrV (pc := 59) (As := [.ref (hGr h9 0 l0), .int (((1 : Int32) <<< ((hGi h9 605 (hGr h9 5 l0)) &&& 31)) - 1)]) (st := []) (ok_J_fillI Y (hGr h9 0 l0) (((1 : Int32) <<< ((hGi h9 605 (hGr h9 5 l0)) &&& 31)) - 1) h9 tt10) okS_J_fillI w5_34 d_En_lookAt_59 rfl (Nat.le_of_ble_eq_true rfl) rfl (Nat.le_of_ble_eq_true rfl) (fun q12 hq12 hTq12 => ?_)
  refine aw_iconst (pc := 62) (x := 0) d_En_lookAt_62 (by decide) ?_
  refine aw_istore (pc := 63) (lv' := [(4, .int 0), (0, .ref l0), (1, .ref l1), (2, .int l2), (3, .int l3)]) d_En_lookAt_63 (by decide) rfl ?_
  exact aw_lv [1, 2, 3, 4, 0] rfl (En_lookAt_L65_ok Y l0 l1 l2 l3 tl0 tl1 FU 0 q12)
def En_lookAt (Y : Ly) (l0 : Nat) (l1 : Nat) (l2 : Int32) (l3 : Int32) (h : Hp) : Option Hp :=
  letH (hSr h 5 l0 (hGr h 400 l1)) fun h2 =>
  (Sh_hasBook Y l1 l2 h2).bind fun q3 =>
  if q3 = true then
    if inB l2 (lnY Y (hGr h2 407 l1)) = true then
      En_lookAt_J32 Y l0 l1 l2 l3 (if 6 < (hAi h2 (hGr h2 407 l1) (Int32.toNatClampNeg l2)) then 6 else (hAi h2 (hGr h2 407 l1) (Int32.toNatClampNeg l2))) l0 h2
    else none
  else
    En_lookAt_J32 Y l0 l1 l2 l3 0 l0 h2
theorem ok_En_lookAt (Y : Ly) (l0 : Nat) (l1 : Nat) (l2 : Int32) (l3 : Int32) (h : Hp) (t0 : isO Y 0 l0) (t1 : isO Y 4 l1) : AM Y 2 K_En_lookAt [.ref l0, .ref l1, .int l2, .int l3] h (En_lookAt Y l0 l1 l2 l3 h) rV := by
  refine AM.of rfl (Nat.le_of_ble_eq_true rfl) ?_
  show AW Y 2 K_En_lookAt 0 [(0, .ref l0), (1, .ref l1), (2, .int l2), (3, .int l3)] [] h (En_lookAt Y l0 l1 l2 l3 h) rV
  unfold En_lookAt
  refine aw_aload_n (pc := 0) d_En_lookAt_0 rfl 0 rfl ?_
  refine aw_aload_n (pc := 1) d_En_lookAt_1 rfl 1 rfl ?_
  refine gt_400 (pc := 2) d_En_lookAt_2 w2_125 t1 (fun tt1 => ?_)
  refine pt_5 (pc := 5) d_En_lookAt_5 w1_223 t0 tt1 ?_
  refine aw_letH (fun h2 => ?_)
  refine aw_aload_n (pc := 8) d_En_lookAt_8 rfl 0 rfl ?_
  refine aw_aload_n (pc := 9) d_En_lookAt_9 rfl 1 rfl ?_
  refine aw_iload_n (pc := 10) d_En_lookAt_10 rfl 2 rfl ?_
  refine aw_cVpZ (pc := 11) (ci := 4) (T := TX4) (N := 19) (As := [.int l2]) (st := [.ref l0]) (ok_Sh_hasBook Y l1 l2 h2 t1) okV_Sh_hasBook rfl (by decide) t1 w5_31 d_En_lookAt_11 rfl (Nat.le_of_ble_eq_true rfl) rfl (Nat.le_of_ble_eq_true rfl) (fun q3 hq3 hTq3 => ?_)
  refine aw_beq (pc := 14) (tgt := 31) d_En_lookAt_14 (by decide) (fun c4 => ?_) (fun c4 => ?_)
  · refine aw_aload_n (pc := 17) d_En_lookAt_17 rfl 1 rfl ?_
    refine gt_407 (pc := 18) d_En_lookAt_18 w2_142 t1 (fun tt5 => ?_)
    refine aw_iload_n (pc := 21) d_En_lookAt_21 rfl 2 rfl ?_
    refine aw_iaload (pc := 22) d_En_lookAt_22 tt5 (fun c6 => ?_)
    refine aw_bipush (pc := 23) (x := 6) d_En_lookAt_23 (by decide) ?_
    refine aw_mmin (pc := 25) d_En_lookAt_25 w5_32 w3_164 w1_15 w3_165 (Nat.le_of_ble_eq_true rfl) (Nat.le_of_ble_eq_true rfl) ?_
    refine aw_goto (pc := 28) (tgt := 32) d_En_lookAt_28 (by decide) ?_
    exact aw_lv [0, 1, 2, 3] rfl (En_lookAt_J32_ok Y l0 l1 l2 l3 (if 6 < (hAi h2 (hGr h2 407 l1) (Int32.toNatClampNeg l2)) then 6 else (hAi h2 (hGr h2 407 l1) (Int32.toNatClampNeg l2))) l0 h2 t0 t1 t0)
  · refine aw_iconst (pc := 31) (x := 0) d_En_lookAt_31 (by decide) ?_
    exact aw_lv [0, 1, 2, 3] rfl (En_lookAt_J32_ok Y l0 l1 l2 l3 0 l0 h2 t0 t1 t0)
/-! LastPages$Endings.sumAfter(II)J -/
theorem d_En_sumAfter_0 : decode prog_2_method_6_code 0 = .ok (.lconst 0, 1) := by decide +kernel
theorem d_En_sumAfter_1 : decode prog_2_method_6_code 1 = .ok (.lstore_n 3, 1) := by decide +kernel
theorem d_En_sumAfter_2 : decode prog_2_method_6_code 2 = .ok (.iconst 0, 1) := by decide +kernel
theorem d_En_sumAfter_3 : decode prog_2_method_6_code 3 = .ok (.istore 5, 2) := by decide +kernel
theorem d_En_sumAfter_5 : decode prog_2_method_6_code 5 = .ok (.iload 5, 2) := by decide +kernel
theorem d_En_sumAfter_7 : decode prog_2_method_6_code 7 = .ok (.aload_n 0, 1) := by decide +kernel
theorem d_En_sumAfter_8 : decode prog_2_method_6_code 8 = .ok (.getfield 31, 3) := by decide +kernel
theorem d_En_sumAfter_11 : decode prog_2_method_6_code 11 = .ok (.getfield 61, 3) := by decide +kernel
theorem d_En_sumAfter_14 : decode prog_2_method_6_code 14 = .ok (.if_icmp .ge 46, 3) := by decide +kernel
theorem d_En_sumAfter_17 : decode prog_2_method_6_code 17 = .ok (.aload_n 0, 1) := by decide +kernel
theorem d_En_sumAfter_18 : decode prog_2_method_6_code 18 = .ok (.iload_n 1, 1) := by decide +kernel
theorem d_En_sumAfter_19 : decode prog_2_method_6_code 19 = .ok (.iload_n 2, 1) := by decide +kernel
theorem d_En_sumAfter_20 : decode prog_2_method_6_code 20 = .ok (.iload 5, 2) := by decide +kernel
theorem d_En_sumAfter_22 : decode prog_2_method_6_code 22 = .ok (.invokevirtual 100, 3) := by decide +kernel
theorem d_En_sumAfter_25 : decode prog_2_method_6_code 25 = .ok (.istore 6, 2) := by decide +kernel
theorem d_En_sumAfter_27 : decode prog_2_method_6_code 27 = .ok (.lload_n 3, 1) := by decide +kernel
theorem d_En_sumAfter_28 : decode prog_2_method_6_code 28 = .ok (.iload 6, 2) := by decide +kernel
theorem d_En_sumAfter_30 : decode prog_2_method_6_code 30 = .ok (.iconst (-1), 1) := by decide +kernel
theorem d_En_sumAfter_31 : decode prog_2_method_6_code 31 = .ok (.if_icmp .ne 7, 3) := by decide +kernel
theorem d_En_sumAfter_34 : decode prog_2_method_6_code 34 = .ok (.lconst 0, 1) := by decide +kernel
theorem d_En_sumAfter_35 : decode prog_2_method_6_code 35 = .ok (.goto 17, 3) := by decide +kernel
theorem d_En_sumAfter_38 : decode prog_2_method_6_code 38 = .ok (.aload_n 0, 1) := by decide +kernel
theorem d_En_sumAfter_39 : decode prog_2_method_6_code 39 = .ok (.getfield 22, 3) := by decide +kernel
theorem d_En_sumAfter_42 : decode prog_2_method_6_code 42 = .ok (.iload_n 1, 1) := by decide +kernel
theorem d_En_sumAfter_43 : decode prog_2_method_6_code 43 = .ok (.iconst 1, 1) := by decide +kernel
theorem d_En_sumAfter_44 : decode prog_2_method_6_code 44 = .ok (.iadd, 1) := by decide +kernel
theorem d_En_sumAfter_45 : decode prog_2_method_6_code 45 = .ok (.bipush 8, 2) := by decide +kernel
theorem d_En_sumAfter_47 : decode prog_2_method_6_code 47 = .ok (.imul, 1) := by decide +kernel
theorem d_En_sumAfter_48 : decode prog_2_method_6_code 48 = .ok (.iload 6, 2) := by decide +kernel
theorem d_En_sumAfter_50 : decode prog_2_method_6_code 50 = .ok (.iadd, 1) := by decide +kernel
theorem d_En_sumAfter_51 : decode prog_2_method_6_code 51 = .ok (.laload, 1) := by decide +kernel
theorem d_En_sumAfter_52 : decode prog_2_method_6_code 52 = .ok (.ladd, 1) := by decide +kernel
theorem d_En_sumAfter_53 : decode prog_2_method_6_code 53 = .ok (.lstore_n 3, 1) := by decide +kernel
theorem d_En_sumAfter_54 : decode prog_2_method_6_code 54 = .ok (.iinc 5 1, 3) := by decide +kernel
theorem d_En_sumAfter_57 : decode prog_2_method_6_code 57 = .ok (.goto (-52), 3) := by decide +kernel
theorem d_En_sumAfter_60 : decode prog_2_method_6_code 60 = .ok (.lload_n 3, 1) := by decide +kernel
theorem d_En_sumAfter_61 : decode prog_2_method_6_code 61 = .ok (.lreturn, 1) := by decide +kernel
def En_sumAfter_L5 (Y : Ly) (l0 : Nat) (l1 : Int32) (l2 : Int32) (h : Hp) : Nat → Int64 → Int32 → Option Int64
  | 0, _, _ => none
  | F + 1, l3, l5 =>
    if (hGi h 605 (hGr h 5 l0)) ≤ l5 then
      some l3
    else
      (En_stepTo Y l0 l1 l2 l5 h).bind fun q3 =>
      if q3 = (-1) then
        En_sumAfter_L5 Y l0 l1 l2 h F (l3 + 0) (l5 + 1)
      else
        if inB (((l1 + 1) * 8) + q3) (lnY Y (hGr h 3 l0)) = true then
          En_sumAfter_L5 Y l0 l1 l2 h F (l3 + (hAl h (hGr h 3 l0) (Int32.toNatClampNeg (((l1 + 1) * 8) + q3)))) (l5 + 1)
        else none
theorem En_sumAfter_L5_ok (Y : Ly) (l0 : Nat) (l1 : Int32) (l2 : Int32) (h : Hp) (tl0 : isO Y 0 l0) : ∀ (F : Nat) (l3 : Int64) (l5 : Int32), AW Y 2 K_En_sumAfter 5 [(0, .ref l0), (1, .int l1), (2, .int l2), (3, .long l3), (5, .int l5)] [] h (En_sumAfter_L5 Y l0 l1 l2 h F l3 l5) (pL h) := by
  intro F
  induction F with
  | zero =>
    intro l3 l5
    exact aw_none
  | succ F ih =>
    intro l3 l5
    unfold En_sumAfter_L5
    refine aw_iload (pc := 5) d_En_sumAfter_5 4 rfl ?_
    refine aw_aload_n (pc := 7) d_En_sumAfter_7 rfl 0 rfl ?_
    refine gt_5 (pc := 8) d_En_sumAfter_8 w1_223 tl0 (fun tt1 => ?_)
    refine gt_605 (pc := 11) d_En_sumAfter_11 w1_191 tt1 ?_
    refine aw_icmp_ge (pc := 14) (tgt := 60) d_En_sumAfter_14 (by decide) (fun c2 => ?_) (fun c2 => ?_)
    · refine aw_lload_n (pc := 60) d_En_sumAfter_60 rfl 3 rfl ?_
      exact aw_lreturn (pc := 61) d_En_sumAfter_61 rfl rfl
    · refine aw_aload_n (pc := 17) d_En_sumAfter_17 rfl 0 rfl ?_
      refine aw_iload_n (pc := 18) d_En_sumAfter_18 rfl 1 rfl ?_
      refine aw_iload_n (pc := 19) d_En_sumAfter_19 rfl 2 rfl ?_
      refine aw_iload (pc := 20) d_En_sumAfter_20 4 rfl ?_
      refine aw_cVpI (pc := 22) (ci := 0) (T := TX0) (N := 8) (As := [.int l1, .int l2, .int l5]) (st := []) (ok_En_stepTo Y l0 l1 l2 l5 h tl0) okV_En_stepTo rfl (by decide) tl0 w5_48 d_En_sumAfter_22 rfl (Nat.le_of_ble_eq_true rfl) rfl (Nat.le_of_ble_eq_true rfl) (fun q3 hq3 hTq3 => ?_)
      refine aw_istore (pc := 25) (lv' := [(6, .int q3), (0, .ref l0), (1, .int l1), (2, .int l2), (3, .long l3), (5, .int l5)]) d_En_sumAfter_25 (by decide) rfl ?_
      refine aw_lload_n (pc := 27) d_En_sumAfter_27 rfl 4 rfl ?_
      refine aw_iload (pc := 28) d_En_sumAfter_28 0 rfl ?_
      refine aw_iconst (pc := 30) (x := (-1)) d_En_sumAfter_30 (by decide) ?_
      refine aw_icmp_ne (pc := 31) (tgt := 38) d_En_sumAfter_31 (by decide) (fun c4 => ?_) (fun c4 => ?_)
      · refine aw_lconst (pc := 34) (x := 0) d_En_sumAfter_34 (by decide) ?_
        refine aw_goto (pc := 35) (tgt := 52) d_En_sumAfter_35 (by decide) ?_
        refine aw_ladd (pc := 52) d_En_sumAfter_52 ?_
        refine aw_lstore_n (pc := 53) (lv' := [(3, .long (l3 + 0)), (6, .int q3), (0, .ref l0), (1, .int l1), (2, .int l2), (5, .int l5)]) d_En_sumAfter_53 rfl (by decide) rfl ?_
        refine aw_iinc (pc := 54) (w := l5 + 1) (lv' := [(5, .int (l5 + 1)), (3, .long (l3 + 0)), (6, .int q3), (0, .ref l0), (1, .int l1), (2, .int l2)]) d_En_sumAfter_54 5 rfl rfl (by decide) rfl ?_
        refine aw_goto (pc := 57) (tgt := 5) d_En_sumAfter_57 (by decide) ?_
        exact aw_lv [3, 4, 5, 1, 0] rfl (ih (l3 + 0) (l5 + 1))
      · refine aw_aload_n (pc := 38) d_En_sumAfter_38 rfl 1 rfl ?_
        refine gt_3 (pc := 39) d_En_sumAfter_39 w1_221 tl0 (fun tt5 => ?_)
        refine aw_iload_n (pc := 42) d_En_sumAfter_42 rfl 2 rfl ?_
        refine aw_iconst (pc := 43) (x := 1) d_En_sumAfter_43 (by decide) ?_
        refine aw_iadd (pc := 44) d_En_sumAfter_44 ?_
        refine aw_bipush (pc := 45) (x := 8) d_En_sumAfter_45 (by decide) ?_
        refine aw_imul (pc := 47) d_En_sumAfter_47 ?_
        refine aw_iload (pc := 48) d_En_sumAfter_48 0 rfl ?_
        refine aw_iadd (pc := 50) d_En_sumAfter_50 ?_
        refine aw_laload (pc := 51) d_En_sumAfter_51 tt5 (fun c6 => ?_)
        refine aw_ladd (pc := 52) d_En_sumAfter_52 ?_
        refine aw_lstore_n (pc := 53) (lv' := [(3, .long (l3 + (hAl h (hGr h 3 l0) (Int32.toNatClampNeg (((l1 + 1) * 8) + q3))))), (6, .int q3), (0, .ref l0), (1, .int l1), (2, .int l2), (5, .int l5)]) d_En_sumAfter_53 rfl (by decide) rfl ?_
        refine aw_iinc (pc := 54) (w := l5 + 1) (lv' := [(5, .int (l5 + 1)), (3, .long (l3 + (hAl h (hGr h 3 l0) (Int32.toNatClampNeg (((l1 + 1) * 8) + q3))))), (6, .int q3), (0, .ref l0), (1, .int l1), (2, .int l2)]) d_En_sumAfter_54 5 rfl rfl (by decide) rfl ?_
        refine aw_goto (pc := 57) (tgt := 5) d_En_sumAfter_57 (by decide) ?_
        exact aw_lv [3, 4, 5, 1, 0] rfl (ih (l3 + (hAl h (hGr h 3 l0) (Int32.toNatClampNeg (((l1 + 1) * 8) + q3)))) (l5 + 1))
def En_sumAfter (Y : Ly) (l0 : Nat) (l1 : Int32) (l2 : Int32) (h : Hp) : Option Int64 :=
  En_sumAfter_L5 Y l0 l1 l2 h FU 0 0
theorem ok_En_sumAfter (Y : Ly) (l0 : Nat) (l1 : Int32) (l2 : Int32) (h : Hp) (t0 : isO Y 0 l0) : AM Y 2 K_En_sumAfter [.ref l0, .int l1, .int l2] h (En_sumAfter Y l0 l1 l2 h) (pL h) := by
  refine AM.of rfl (Nat.le_of_ble_eq_true rfl) ?_
  show AW Y 2 K_En_sumAfter 0 [(0, .ref l0), (1, .int l1), (2, .int l2)] [] h (En_sumAfter Y l0 l1 l2 h) (pL h)
  unfold En_sumAfter
  refine aw_lconst (pc := 0) (x := 0) d_En_sumAfter_0 (by decide) ?_
  refine aw_lstore_n (pc := 1) (lv' := [(3, .long 0), (0, .ref l0), (1, .int l1), (2, .int l2)]) d_En_sumAfter_1 rfl (by decide) rfl ?_
  refine aw_iconst (pc := 2) (x := 0) d_En_sumAfter_2 (by decide) ?_
  refine aw_istore (pc := 3) (lv' := [(5, .int 0), (3, .long 0), (0, .ref l0), (1, .int l1), (2, .int l2)]) d_En_sumAfter_3 (by decide) rfl ?_
  exact aw_lv [2, 3, 4, 1, 0] rfl (En_sumAfter_L5_ok Y l0 l1 l2 h t0 FU 0 0)
/-! LastPages$Story.hasState(I)Z -/
theorem d_St_hasState_0 : decode prog_8_method_4_code 0 = .ok (.iload_n 1, 1) := by decide +kernel
theorem d_St_hasState_1 : decode prog_8_method_4_code 1 = .ok (.ifCond .lt 15, 3) := by decide +kernel
theorem d_St_hasState_4 : decode prog_8_method_4_code 4 = .ok (.iload_n 1, 1) := by decide +kernel
theorem d_St_hasState_5 : decode prog_8_method_4_code 5 = .ok (.aload_n 0, 1) := by decide +kernel
theorem d_St_hasState_6 : decode prog_8_method_4_code 6 = .ok (.getfield 24, 3) := by decide +kernel
theorem d_St_hasState_9 : decode prog_8_method_4_code 9 = .ok (.if_icmp .ge 7, 3) := by decide +kernel
theorem d_St_hasState_12 : decode prog_8_method_4_code 12 = .ok (.iconst 1, 1) := by decide +kernel
theorem d_St_hasState_13 : decode prog_8_method_4_code 13 = .ok (.goto 4, 3) := by decide +kernel
theorem d_St_hasState_16 : decode prog_8_method_4_code 16 = .ok (.iconst 0, 1) := by decide +kernel
theorem d_St_hasState_17 : decode prog_8_method_4_code 17 = .ok (.ireturn, 1) := by decide +kernel
def St_hasState (Y : Ly) (l0 : Nat) (l1 : Int32) (h : Hp) : Option Bool :=
  if l1 < 0 then
    some false
  else
    if (hGi h 604 l0) ≤ l1 then
      some false
    else
      some true
theorem ok_St_hasState (Y : Ly) (l0 : Nat) (l1 : Int32) (h : Hp) (t0 : isO Y 6 l0) : AM Y 0 K_St_hasState [.ref l0, .int l1] h (St_hasState Y l0 l1 h) (pZ h) := by
  refine AM.of rfl (Nat.le_of_ble_eq_true rfl) ?_
  show AW Y 0 K_St_hasState 0 [(0, .ref l0), (1, .int l1)] [] h (St_hasState Y l0 l1 h) (pZ h)
  unfold St_hasState
  refine aw_iload_n (pc := 0) d_St_hasState_0 rfl 1 rfl ?_
  refine aw_if_lt (pc := 1) (tgt := 16) d_St_hasState_1 (by decide) (fun c1 => ?_) (fun c1 => ?_)
  · refine aw_iconst (pc := 16) (x := 0) d_St_hasState_16 (by decide) ?_
    exact aw_zreturn (pc := 17) (b := false) d_St_hasState_17 rfl rfl
  · refine aw_iload_n (pc := 4) d_St_hasState_4 rfl 1 rfl ?_
    refine aw_aload_n (pc := 5) d_St_hasState_5 rfl 0 rfl ?_
    refine gt_604 (pc := 6) d_St_hasState_6 w1_186 t0 ?_
    refine aw_icmp_ge (pc := 9) (tgt := 16) d_St_hasState_9 (by decide) (fun c2 => ?_) (fun c2 => ?_)
    · refine aw_iconst (pc := 16) (x := 0) d_St_hasState_16 (by decide) ?_
      exact aw_zreturn (pc := 17) (b := false) d_St_hasState_17 rfl rfl
    · refine aw_iconst (pc := 12) (x := 1) d_St_hasState_12 (by decide) ?_
      refine aw_goto (pc := 13) (tgt := 17) d_St_hasState_13 (by decide) ?_
      exact aw_zreturn (pc := 17) (b := true) d_St_hasState_17 rfl rfl
/-! LastPages$Story.isFinal(I)Z -/
theorem d_St_isFinal_0 : decode prog_8_method_13_code 0 = .ok (.aload_n 0, 1) := by decide +kernel
theorem d_St_isFinal_1 : decode prog_8_method_13_code 1 = .ok (.iload_n 1, 1) := by decide +kernel
theorem d_St_isFinal_2 : decode prog_8_method_13_code 2 = .ok (.invokevirtual 49, 3) := by decide +kernel
theorem d_St_isFinal_5 : decode prog_8_method_13_code 5 = .ok (.ifCond .eq 18, 3) := by decide +kernel
theorem d_St_isFinal_8 : decode prog_8_method_13_code 8 = .ok (.aload_n 0, 1) := by decide +kernel
theorem d_St_isFinal_9 : decode prog_8_method_13_code 9 = .ok (.getfield 31, 3) := by decide +kernel
theorem d_St_isFinal_12 : decode prog_8_method_13_code 12 = .ok (.iload_n 1, 1) := by decide +kernel
theorem d_St_isFinal_13 : decode prog_8_method_13_code 13 = .ok (.invokestatic 60, 3) := by decide +kernel
theorem d_St_isFinal_16 : decode prog_8_method_13_code 16 = .ok (.ifCond .eq 7, 3) := by decide +kernel
theorem d_St_isFinal_19 : decode prog_8_method_13_code 19 = .ok (.iconst 1, 1) := by decide +kernel
theorem d_St_isFinal_20 : decode prog_8_method_13_code 20 = .ok (.goto 4, 3) := by decide +kernel
theorem d_St_isFinal_23 : decode prog_8_method_13_code 23 = .ok (.iconst 0, 1) := by decide +kernel
theorem d_St_isFinal_24 : decode prog_8_method_13_code 24 = .ok (.ireturn, 1) := by decide +kernel
def St_isFinal (Y : Ly) (l0 : Nat) (l1 : Int32) (h : Hp) : Option Bool :=
  (St_hasState Y l0 l1 h).bind fun q1 =>
  if q1 = true then
    (LP_has Y (hGi h 606 l0) l1 h).bind fun q3 =>
    if q3 = true then
      some true
    else
      some false
  else
    some false
theorem ok_St_isFinal (Y : Ly) (l0 : Nat) (l1 : Int32) (h : Hp) (t0 : isO Y 6 l0) : AM Y 1 K_St_isFinal [.ref l0, .int l1] h (St_isFinal Y l0 l1 h) (pZ h) := by
  refine AM.of rfl (Nat.le_of_ble_eq_true rfl) ?_
  show AW Y 1 K_St_isFinal 0 [(0, .ref l0), (1, .int l1)] [] h (St_isFinal Y l0 l1 h) (pZ h)
  unfold St_isFinal
  refine aw_aload_n (pc := 0) d_St_isFinal_0 rfl 0 rfl ?_
  refine aw_iload_n (pc := 1) d_St_isFinal_1 rfl 1 rfl ?_
  refine aw_cVpZ (pc := 2) (ci := 6) (T := TX6) (N := 8) (As := [.int l1]) (st := []) (ok_St_hasState Y l0 l1 h t0) okV_St_hasState rfl (by decide) t0 w4_19 d_St_isFinal_2 rfl (Nat.le_of_ble_eq_true rfl) rfl (Nat.le_of_ble_eq_true rfl) (fun q1 hq1 hTq1 => ?_)
  refine aw_beq (pc := 5) (tgt := 23) d_St_isFinal_5 (by decide) (fun c2 => ?_) (fun c2 => ?_)
  · refine aw_aload_n (pc := 8) d_St_isFinal_8 rfl 0 rfl ?_
    refine gt_606 (pc := 9) d_St_isFinal_9 w1_194 t0 ?_
    refine aw_iload_n (pc := 12) d_St_isFinal_12 rfl 1 rfl ?_
    refine aw_cNpZ (pc := 13) (As := [.int (hGi h 606 l0), .int l1]) (st := []) (ok_LP_has Y (hGi h 606 l0) l1 h) okS_LP_has (List.mem_of_getElem? (i := 12) rfl) d_St_isFinal_13 rfl (Nat.le_of_ble_eq_true rfl) rfl (Nat.le_of_ble_eq_true rfl) (fun q3 hq3 hTq3 => ?_)
    refine aw_beq (pc := 16) (tgt := 23) d_St_isFinal_16 (by decide) (fun c4 => ?_) (fun c4 => ?_)
    · refine aw_iconst (pc := 19) (x := 1) d_St_isFinal_19 (by decide) ?_
      refine aw_goto (pc := 20) (tgt := 24) d_St_isFinal_20 (by decide) ?_
      exact aw_zreturn (pc := 24) (b := true) d_St_isFinal_24 rfl rfl
    · refine aw_iconst (pc := 23) (x := 0) d_St_isFinal_23 (by decide) ?_
      exact aw_zreturn (pc := 24) (b := false) d_St_isFinal_24 rfl rfl
  · refine aw_iconst (pc := 23) (x := 0) d_St_isFinal_23 (by decide) ?_
    exact aw_zreturn (pc := 24) (b := false) d_St_isFinal_24 rfl rfl
/-! LastPages$Endings.countOf(LLastPages$Shelf;II)J -/
theorem d_En_countOf_0 : decode prog_2_method_5_code 0 = .ok (.aload_n 0, 1) := by decide +kernel
theorem d_En_countOf_1 : decode prog_2_method_5_code 1 = .ok (.aload_n 1, 1) := by decide +kernel
theorem d_En_countOf_2 : decode prog_2_method_5_code 2 = .ok (.iload_n 2, 1) := by decide +kernel
theorem d_En_countOf_3 : decode prog_2_method_5_code 3 = .ok (.iload_n 3, 1) := by decide +kernel
theorem d_En_countOf_4 : decode prog_2_method_5_code 4 = .ok (.invokevirtual 86, 3) := by decide +kernel
theorem d_En_countOf_7 : decode prog_2_method_5_code 7 = .ok (.iconst 0, 1) := by decide +kernel
theorem d_En_countOf_8 : decode prog_2_method_5_code 8 = .ok (.istore 4, 2) := by decide +kernel
theorem d_En_countOf_10 : decode prog_2_method_5_code 10 = .ok (.iload 4, 2) := by decide +kernel
theorem d_En_countOf_12 : decode prog_2_method_5_code 12 = .ok (.aload_n 0, 1) := by decide +kernel
theorem d_En_countOf_13 : decode prog_2_method_5_code 13 = .ok (.getfield 31, 3) := by decide +kernel
theorem d_En_countOf_16 : decode prog_2_method_5_code 16 = .ok (.getfield 90, 3) := by decide +kernel
theorem d_En_countOf_19 : decode prog_2_method_5_code 19 = .ok (.if_icmp .ge 41, 3) := by decide +kernel
theorem d_En_countOf_22 : decode prog_2_method_5_code 22 = .ok (.aload_n 0, 1) := by decide +kernel
theorem d_En_countOf_23 : decode prog_2_method_5_code 23 = .ok (.getfield 22, 3) := by decide +kernel
theorem d_En_countOf_26 : decode prog_2_method_5_code 26 = .ok (.aload_n 0, 1) := by decide +kernel
theorem d_En_countOf_27 : decode prog_2_method_5_code 27 = .ok (.getfield 35, 3) := by decide +kernel
theorem d_En_countOf_30 : decode prog_2_method_5_code 30 = .ok (.bipush 8, 2) := by decide +kernel
theorem d_En_countOf_32 : decode prog_2_method_5_code 32 = .ok (.imul, 1) := by decide +kernel
theorem d_En_countOf_33 : decode prog_2_method_5_code 33 = .ok (.iload 4, 2) := by decide +kernel
theorem d_En_countOf_35 : decode prog_2_method_5_code 35 = .ok (.iadd, 1) := by decide +kernel
theorem d_En_countOf_36 : decode prog_2_method_5_code 36 = .ok (.aload_n 0, 1) := by decide +kernel
theorem d_En_countOf_37 : decode prog_2_method_5_code 37 = .ok (.getfield 31, 3) := by decide +kernel
theorem d_En_countOf_40 : decode prog_2_method_5_code 40 = .ok (.iload 4, 2) := by decide +kernel
theorem d_En_countOf_42 : decode prog_2_method_5_code 42 = .ok (.invokevirtual 93, 3) := by decide +kernel
theorem d_En_countOf_45 : decode prog_2_method_5_code 45 = .ok (.ifCond .eq 7, 3) := by decide +kernel
theorem d_En_countOf_48 : decode prog_2_method_5_code 48 = .ok (.lconst 1, 1) := by decide +kernel
theorem d_En_countOf_49 : decode prog_2_method_5_code 49 = .ok (.goto 4, 3) := by decide +kernel
theorem d_En_countOf_52 : decode prog_2_method_5_code 52 = .ok (.lconst 0, 1) := by decide +kernel
theorem d_En_countOf_53 : decode prog_2_method_5_code 53 = .ok (.lastore, 1) := by decide +kernel
theorem d_En_countOf_54 : decode prog_2_method_5_code 54 = .ok (.iinc 4 1, 3) := by decide +kernel
theorem d_En_countOf_57 : decode prog_2_method_5_code 57 = .ok (.goto (-47), 3) := by decide +kernel
theorem d_En_countOf_60 : decode prog_2_method_5_code 60 = .ok (.aload_n 0, 1) := by decide +kernel
theorem d_En_countOf_61 : decode prog_2_method_5_code 61 = .ok (.getfield 35, 3) := by decide +kernel
theorem d_En_countOf_64 : decode prog_2_method_5_code 64 = .ok (.iconst 1, 1) := by decide +kernel
theorem d_En_countOf_65 : decode prog_2_method_5_code 65 = .ok (.isub, 1) := by decide +kernel
theorem d_En_countOf_66 : decode prog_2_method_5_code 66 = .ok (.istore 4, 2) := by decide +kernel
theorem d_En_countOf_68 : decode prog_2_method_5_code 68 = .ok (.iload 4, 2) := by decide +kernel
theorem d_En_countOf_70 : decode prog_2_method_5_code 70 = .ok (.ifCond .lt 51, 3) := by decide +kernel
theorem d_En_countOf_73 : decode prog_2_method_5_code 73 = .ok (.iconst 0, 1) := by decide +kernel
theorem d_En_countOf_74 : decode prog_2_method_5_code 74 = .ok (.istore 5, 2) := by decide +kernel
theorem d_En_countOf_76 : decode prog_2_method_5_code 76 = .ok (.iload 5, 2) := by decide +kernel
theorem d_En_countOf_78 : decode prog_2_method_5_code 78 = .ok (.aload_n 0, 1) := by decide +kernel
theorem d_En_countOf_79 : decode prog_2_method_5_code 79 = .ok (.getfield 31, 3) := by decide +kernel
theorem d_En_countOf_82 : decode prog_2_method_5_code 82 = .ok (.getfield 90, 3) := by decide +kernel
theorem d_En_countOf_85 : decode prog_2_method_5_code 85 = .ok (.if_icmp .ge 30, 3) := by decide +kernel
theorem d_En_countOf_88 : decode prog_2_method_5_code 88 = .ok (.aload_n 0, 1) := by decide +kernel
theorem d_En_countOf_89 : decode prog_2_method_5_code 89 = .ok (.getfield 22, 3) := by decide +kernel
theorem d_En_countOf_92 : decode prog_2_method_5_code 92 = .ok (.iload 4, 2) := by decide +kernel
theorem d_En_countOf_94 : decode prog_2_method_5_code 94 = .ok (.bipush 8, 2) := by decide +kernel
theorem d_En_countOf_96 : decode prog_2_method_5_code 96 = .ok (.imul, 1) := by decide +kernel
theorem d_En_countOf_97 : decode prog_2_method_5_code 97 = .ok (.iload 5, 2) := by decide +kernel
theorem d_En_countOf_99 : decode prog_2_method_5_code 99 = .ok (.iadd, 1) := by decide +kernel
theorem d_En_countOf_100 : decode prog_2_method_5_code 100 = .ok (.aload_n 0, 1) := by decide +kernel
theorem d_En_countOf_101 : decode prog_2_method_5_code 101 = .ok (.iload 4, 2) := by decide +kernel
theorem d_En_countOf_103 : decode prog_2_method_5_code 103 = .ok (.iload 5, 2) := by decide +kernel
theorem d_En_countOf_105 : decode prog_2_method_5_code 105 = .ok (.invokevirtual 96, 3) := by decide +kernel
theorem d_En_countOf_108 : decode prog_2_method_5_code 108 = .ok (.lastore, 1) := by decide +kernel
theorem d_En_countOf_109 : decode prog_2_method_5_code 109 = .ok (.iinc 5 1, 3) := by decide +kernel
theorem d_En_countOf_112 : decode prog_2_method_5_code 112 = .ok (.goto (-36), 3) := by decide +kernel
theorem d_En_countOf_115 : decode prog_2_method_5_code 115 = .ok (.iinc 4 (-1), 3) := by decide +kernel
theorem d_En_countOf_118 : decode prog_2_method_5_code 118 = .ok (.goto (-50), 3) := by decide +kernel
theorem d_En_countOf_121 : decode prog_2_method_5_code 121 = .ok (.aload_n 0, 1) := by decide +kernel
theorem d_En_countOf_122 : decode prog_2_method_5_code 122 = .ok (.getfield 39, 3) := by decide +kernel
theorem d_En_countOf_125 : decode prog_2_method_5_code 125 = .ok (.ifCond .lt 12, 3) := by decide +kernel
theorem d_En_countOf_128 : decode prog_2_method_5_code 128 = .ok (.aload_n 0, 1) := by decide +kernel
theorem d_En_countOf_129 : decode prog_2_method_5_code 129 = .ok (.getfield 39, 3) := by decide +kernel
theorem d_En_countOf_132 : decode prog_2_method_5_code 132 = .ok (.bipush 8, 2) := by decide +kernel
theorem d_En_countOf_134 : decode prog_2_method_5_code 134 = .ok (.if_icmp .lt 7, 3) := by decide +kernel
theorem d_En_countOf_137 : decode prog_2_method_5_code 137 = .ok (.lconst 0, 1) := by decide +kernel
theorem d_En_countOf_138 : decode prog_2_method_5_code 138 = .ok (.goto 12, 3) := by decide +kernel
theorem d_En_countOf_141 : decode prog_2_method_5_code 141 = .ok (.aload_n 0, 1) := by decide +kernel
theorem d_En_countOf_142 : decode prog_2_method_5_code 142 = .ok (.getfield 22, 3) := by decide +kernel
theorem d_En_countOf_145 : decode prog_2_method_5_code 145 = .ok (.aload_n 0, 1) := by decide +kernel
theorem d_En_countOf_146 : decode prog_2_method_5_code 146 = .ok (.getfield 39, 3) := by decide +kernel
theorem d_En_countOf_149 : decode prog_2_method_5_code 149 = .ok (.laload, 1) := by decide +kernel
theorem d_En_countOf_150 : decode prog_2_method_5_code 150 = .ok (.lreturn, 1) := by decide +kernel
def En_countOf_L76 (Y : Ly) (l0 : Nat) (l4 : Int32) (k68 : Int32 → Hp → Option (Int64 × Hp)) : Nat → Int32 → Hp → Option (Int64 × Hp)
  | 0, _, _ => none
  | F + 1, l5, h =>
    if (hGi h 604 (hGr h 5 l0)) ≤ l5 then
      k68 (l4 + (-1)) h
    else
      (En_sumAfter Y l0 l4 l5 h).bind fun q12 =>
      if inB ((l4 * 8) + l5) (lnY Y (hGr h 3 l0)) = true then
        letH (hTl h (hGr h 3 l0) (Int32.toNatClampNeg ((l4 * 8) + l5)) q12) fun h14 =>
        En_countOf_L76 Y l0 l4 k68 F (l5 + 1) h14
      else none
theorem En_countOf_L76_ok (Y : Ly) (l0 : Nat) (l4 : Int32) (k68 : Int32 → Hp → Option (Int64 × Hp)) (tl0 : isO Y 0 l0) (hk68 : ∀ (l4_ : Int32) (h_ : Hp), AW Y 3 K_En_countOf 68 [(0, .ref l0), (4, .int l4_)] [] h_ (k68 l4_ h_) rL) : ∀ (F : Nat) (l5 : Int32) (h : Hp), AW Y 3 K_En_countOf 76 [(0, .ref l0), (4, .int l4), (5, .int l5)] [] h (En_countOf_L76 Y l0 l4 k68 F l5 h) rL := by
  intro F
  induction F with
  | zero =>
    intro l5 h
    exact aw_none
  | succ F ih =>
    intro l5 h
    unfold En_countOf_L76
    refine aw_iload (pc := 76) d_En_countOf_76 2 rfl ?_
    refine aw_aload_n (pc := 78) d_En_countOf_78 rfl 0 rfl ?_
    refine gt_5 (pc := 79) d_En_countOf_79 w1_223 tl0 (fun tt9 => ?_)
    refine gt_604 (pc := 82) d_En_countOf_82 w1_188 tt9 ?_
    refine aw_icmp_ge (pc := 85) (tgt := 115) d_En_countOf_85 (by decide) (fun c10 => ?_) (fun c10 => ?_)
    · refine aw_iinc (pc := 115) (w := l4 + (-1)) (lv' := [(4, .int (l4 + (-1))), (0, .ref l0), (5, .int l5)]) d_En_countOf_115 1 rfl rfl (by decide) rfl ?_
      refine aw_goto (pc := 118) (tgt := 68) d_En_countOf_118 (by decide) ?_
      exact aw_lv [1, 0] rfl (hk68 (l4 + (-1)) h)
    · refine aw_aload_n (pc := 88) d_En_countOf_88 rfl 0 rfl ?_
      refine gt_3 (pc := 89) d_En_countOf_89 w1_221 tl0 (fun tt11 => ?_)
      refine aw_iload (pc := 92) d_En_countOf_92 1 rfl ?_
      refine aw_bipush (pc := 94) (x := 8) d_En_countOf_94 (by decide) ?_
      refine aw_imul (pc := 96) d_En_countOf_96 ?_
      refine aw_iload (pc := 97) d_En_countOf_97 2 rfl ?_
      refine aw_iadd (pc := 99) d_En_countOf_99 ?_
      refine aw_aload_n (pc := 100) d_En_countOf_100 rfl 0 rfl ?_
      refine aw_iload (pc := 101) d_En_countOf_101 1 rfl ?_
      refine aw_iload (pc := 103) d_En_countOf_103 2 rfl ?_
      refine aw_cVpL (pc := 105) (ci := 0) (T := TX0) (N := 8) (As := [.int l4, .int l5]) (st := [.int ((l4 * 8) + l5), .ref (hGr h 3 l0)]) (ok_En_sumAfter Y l0 l4 l5 h tl0) okV_En_sumAfter rfl (by decide) tl0 w5_102 d_En_countOf_105 rfl (Nat.le_of_ble_eq_true rfl) rfl (Nat.le_of_ble_eq_true rfl) (fun q12 hq12 hTq12 => ?_)
      refine aw_lastore (pc := 108) d_En_countOf_108 tt11 (fun c13 => ?_)
      refine aw_letH (fun h14 => ?_)
      refine aw_iinc (pc := 109) (w := l5 + 1) (lv' := [(5, .int (l5 + 1)), (0, .ref l0), (4, .int l4)]) d_En_countOf_109 2 rfl rfl (by decide) rfl ?_
      refine aw_goto (pc := 112) (tgt := 76) d_En_countOf_112 (by decide) ?_
      exact aw_lv [1, 2, 0] rfl (ih (l5 + 1) h14)
def En_countOf_L68 (Y : Ly) (l0 : Nat) : Nat → Int32 → Hp → Option (Int64 × Hp)
  | 0, _, _ => none
  | F + 1, l4, h =>
    if l4 < 0 then
      if (hGi h 7 l0) < 0 then
        some (0, h)
      else
        if (hGi h 7 l0) < 8 then
          if inB (hGi h 7 l0) (lnY Y (hGr h 3 l0)) = true then
            some (hAl h (hGr h 3 l0) (Int32.toNatClampNeg (hGi h 7 l0)), h)
          else none
        else
          some (0, h)
    else
      En_countOf_L76 Y l0 l4 (En_countOf_L68 Y l0 F) FU 0 h
theorem En_countOf_L68_ok (Y : Ly) (l0 : Nat) (tl0 : isO Y 0 l0) : ∀ (F : Nat) (l4 : Int32) (h : Hp), AW Y 3 K_En_countOf 68 [(0, .ref l0), (4, .int l4)] [] h (En_countOf_L68 Y l0 F l4 h) rL := by
  intro F
  induction F with
  | zero =>
    intro l4 h
    exact aw_none
  | succ F ih =>
    intro l4 h
    unfold En_countOf_L68
    refine aw_iload (pc := 68) d_En_countOf_68 1 rfl ?_
    refine aw_if_lt (pc := 70) (tgt := 121) d_En_countOf_70 (by decide) (fun c4 => ?_) (fun c4 => ?_)
    · refine aw_aload_n (pc := 121) d_En_countOf_121 rfl 0 rfl ?_
      refine gt_7 (pc := 122) d_En_countOf_122 w1_225 tl0 ?_
      refine aw_if_lt (pc := 125) (tgt := 137) d_En_countOf_125 (by decide) (fun c5 => ?_) (fun c5 => ?_)
      · refine aw_lconst (pc := 137) (x := 0) d_En_countOf_137 (by decide) ?_
        refine aw_goto (pc := 138) (tgt := 150) d_En_countOf_138 (by decide) ?_
        exact aw_lreturn (pc := 150) d_En_countOf_150 rfl rfl
      · refine aw_aload_n (pc := 128) d_En_countOf_128 rfl 0 rfl ?_
        refine gt_7 (pc := 129) d_En_countOf_129 w1_225 tl0 ?_
        refine aw_bipush (pc := 132) (x := 8) d_En_countOf_132 (by decide) ?_
        refine aw_icmp_lt (pc := 134) (tgt := 141) d_En_countOf_134 (by decide) (fun c6 => ?_) (fun c6 => ?_)
        · refine aw_aload_n (pc := 141) d_En_countOf_141 rfl 0 rfl ?_
          refine gt_3 (pc := 142) d_En_countOf_142 w1_221 tl0 (fun tt7 => ?_)
          refine aw_aload_n (pc := 145) d_En_countOf_145 rfl 0 rfl ?_
          refine gt_7 (pc := 146) d_En_countOf_146 w1_225 tl0 ?_
          refine aw_laload (pc := 149) d_En_countOf_149 tt7 (fun c8 => ?_)
          exact aw_lreturn (pc := 150) d_En_countOf_150 rfl rfl
        · refine aw_lconst (pc := 137) (x := 0) d_En_countOf_137 (by decide) ?_
          refine aw_goto (pc := 138) (tgt := 150) d_En_countOf_138 (by decide) ?_
          exact aw_lreturn (pc := 150) d_En_countOf_150 rfl rfl
    · refine aw_iconst (pc := 73) (x := 0) d_En_countOf_73 (by decide) ?_
      refine aw_istore (pc := 74) (lv' := [(5, .int 0), (0, .ref l0), (4, .int l4)]) d_En_countOf_74 (by decide) rfl ?_
      exact aw_lv [1, 2, 0] rfl (En_countOf_L76_ok Y l0 l4 (En_countOf_L68 Y l0 F) tl0 ih FU 0 h)
def En_countOf_L10 (Y : Ly) (l0 : Nat) : Nat → Int32 → Hp → Option (Int64 × Hp)
  | 0, _, _ => none
  | F + 1, l4, h =>
    if (hGi h 604 (hGr h 5 l0)) ≤ l4 then
      En_countOf_L68 Y l0 FU ((hGi h 6 l0) - 1) h
    else
      (St_isFinal Y (hGr h 5 l0) l4 h).bind fun q17 =>
      if q17 = true then
        if inB (((hGi h 6 l0) * 8) + l4) (lnY Y (hGr h 3 l0)) = true then
          letH (hTl h (hGr h 3 l0) (Int32.toNatClampNeg (((hGi h 6 l0) * 8) + l4)) 1) fun h20 =>
          En_countOf_L10 Y l0 F (l4 + 1) h20
        else none
      else
        if inB (((hGi h 6 l0) * 8) + l4) (lnY Y (hGr h 3 l0)) = true then
          letH (hTl h (hGr h 3 l0) (Int32.toNatClampNeg (((hGi h 6 l0) * 8) + l4)) 0) fun h22 =>
          En_countOf_L10 Y l0 F (l4 + 1) h22
        else none
theorem En_countOf_L10_ok (Y : Ly) (l0 : Nat) (tl0 : isO Y 0 l0) : ∀ (F : Nat) (l4 : Int32) (h : Hp), AW Y 3 K_En_countOf 10 [(0, .ref l0), (4, .int l4)] [] h (En_countOf_L10 Y l0 F l4 h) rL := by
  intro F
  induction F with
  | zero =>
    intro l4 h
    exact aw_none
  | succ F ih =>
    intro l4 h
    unfold En_countOf_L10
    refine aw_iload (pc := 10) d_En_countOf_10 1 rfl ?_
    refine aw_aload_n (pc := 12) d_En_countOf_12 rfl 0 rfl ?_
    refine gt_5 (pc := 13) d_En_countOf_13 w1_223 tl0 (fun tt2 => ?_)
    refine gt_604 (pc := 16) d_En_countOf_16 w1_188 tt2 ?_
    refine aw_icmp_ge (pc := 19) (tgt := 60) d_En_countOf_19 (by decide) (fun c3 => ?_) (fun c3 => ?_)
    · refine aw_aload_n (pc := 60) d_En_countOf_60 rfl 0 rfl ?_
      refine gt_6 (pc := 61) d_En_countOf_61 w1_224 tl0 ?_
      refine aw_iconst (pc := 64) (x := 1) d_En_countOf_64 (by decide) ?_
      refine aw_isub (pc := 65) d_En_countOf_65 ?_
      refine aw_istore (pc := 66) (lv' := [(4, .int ((hGi h 6 l0) - 1)), (0, .ref l0)]) d_En_countOf_66 (by decide) rfl ?_
      exact aw_lv [1, 0] rfl (En_countOf_L68_ok Y l0 tl0 FU ((hGi h 6 l0) - 1) h)
    · refine aw_aload_n (pc := 22) d_En_countOf_22 rfl 0 rfl ?_
      refine gt_3 (pc := 23) d_En_countOf_23 w1_221 tl0 (fun tt15 => ?_)
      refine aw_aload_n (pc := 26) d_En_countOf_26 rfl 0 rfl ?_
      refine gt_6 (pc := 27) d_En_countOf_27 w1_224 tl0 ?_
      refine aw_bipush (pc := 30) (x := 8) d_En_countOf_30 (by decide) ?_
      refine aw_imul (pc := 32) d_En_countOf_32 ?_
      refine aw_iload (pc := 33) d_En_countOf_33 1 rfl ?_
      refine aw_iadd (pc := 35) d_En_countOf_35 ?_
      refine aw_aload_n (pc := 36) d_En_countOf_36 rfl 0 rfl ?_
      refine gt_5 (pc := 37) d_En_countOf_37 w1_223 tl0 (fun tt16 => ?_)
      refine aw_iload (pc := 40) d_En_countOf_40 1 rfl ?_
      refine aw_cVpZ (pc := 42) (ci := 6) (T := TX6) (N := 8) (As := [.int l4]) (st := [.int (((hGi h 6 l0) * 8) + l4), .ref (hGr h 3 l0)]) (ok_St_isFinal Y (hGr h 5 l0) l4 h tt16) okV_St_isFinal rfl (by decide) tt16 w5_53 d_En_countOf_42 rfl (Nat.le_of_ble_eq_true rfl) rfl (Nat.le_of_ble_eq_true rfl) (fun q17 hq17 hTq17 => ?_)
      refine aw_beq (pc := 45) (tgt := 52) d_En_countOf_45 (by decide) (fun c18 => ?_) (fun c18 => ?_)
      · refine aw_lconst (pc := 48) (x := 1) d_En_countOf_48 (by decide) ?_
        refine aw_goto (pc := 49) (tgt := 53) d_En_countOf_49 (by decide) ?_
        refine aw_lastore (pc := 53) d_En_countOf_53 tt15 (fun c19 => ?_)
        refine aw_letH (fun h20 => ?_)
        refine aw_iinc (pc := 54) (w := l4 + 1) (lv' := [(4, .int (l4 + 1)), (0, .ref l0)]) d_En_countOf_54 1 rfl rfl (by decide) rfl ?_
        refine aw_goto (pc := 57) (tgt := 10) d_En_countOf_57 (by decide) ?_
        exact aw_lv [1, 0] rfl (ih (l4 + 1) h20)
      · refine aw_lconst (pc := 52) (x := 0) d_En_countOf_52 (by decide) ?_
        refine aw_lastore (pc := 53) d_En_countOf_53 tt15 (fun c21 => ?_)
        refine aw_letH (fun h22 => ?_)
        refine aw_iinc (pc := 54) (w := l4 + 1) (lv' := [(4, .int (l4 + 1)), (0, .ref l0)]) d_En_countOf_54 1 rfl rfl (by decide) rfl ?_
        refine aw_goto (pc := 57) (tgt := 10) d_En_countOf_57 (by decide) ?_
        exact aw_lv [1, 0] rfl (ih (l4 + 1) h22)
def En_countOf (Y : Ly) (l0 : Nat) (l1 : Nat) (l2 : Int32) (l3 : Int32) (h : Hp) : Option (Int64 × Hp) :=
  (En_lookAt Y l0 l1 l2 l3 h).bind fun q1 =>
  En_countOf_L10 Y l0 FU 0 q1
theorem ok_En_countOf (Y : Ly) (l0 : Nat) (l1 : Nat) (l2 : Int32) (l3 : Int32) (h : Hp) (t0 : isO Y 0 l0) (t1 : isO Y 4 l1) : AM Y 3 K_En_countOf [.ref l0, .ref l1, .int l2, .int l3] h (En_countOf Y l0 l1 l2 l3 h) rL := by
  refine AM.of rfl (Nat.le_of_ble_eq_true rfl) ?_
  show AW Y 3 K_En_countOf 0 [(0, .ref l0), (1, .ref l1), (2, .int l2), (3, .int l3)] [] h (En_countOf Y l0 l1 l2 l3 h) rL
  unfold En_countOf
  refine aw_aload_n (pc := 0) d_En_countOf_0 rfl 0 rfl ?_
  refine aw_aload_n (pc := 1) d_En_countOf_1 rfl 1 rfl ?_
  refine aw_iload_n (pc := 2) d_En_countOf_2 rfl 2 rfl ?_
  refine aw_iload_n (pc := 3) d_En_countOf_3 rfl 3 rfl ?_
  refine aw_cVrV (pc := 4) (ci := 0) (T := TX0) (N := 8) (As := [.ref l1, .int l2, .int l3]) (st := []) (ok_En_lookAt Y l0 l1 l2 l3 h t0 t1) okV_En_lookAt rfl (by decide) t0 w5_27 d_En_countOf_4 rfl (Nat.le_of_ble_eq_true rfl) rfl (Nat.le_of_ble_eq_true rfl) (fun q1 hq1 hTq1 => ?_)
  refine aw_iconst (pc := 7) (x := 0) d_En_countOf_7 (by decide) ?_
  refine aw_istore (pc := 8) (lv' := [(4, .int 0), (0, .ref l0), (1, .ref l1), (2, .int l2), (3, .int l3)]) d_En_countOf_8 (by decide) rfl ?_
  exact aw_lv [1, 0] rfl (En_countOf_L10_ok Y l0 t0 FU 0 q1)
/-! LastPages$Endings.countWith(II)J -/
theorem d_En_countWith_0 : decode prog_2_method_9_code 0 = .ok (.lconst 0, 1) := by decide +kernel
theorem d_En_countWith_1 : decode prog_2_method_9_code 1 = .ok (.lstore_n 3, 1) := by decide +kernel
theorem d_En_countWith_2 : decode prog_2_method_9_code 2 = .ok (.iconst 0, 1) := by decide +kernel
theorem d_En_countWith_3 : decode prog_2_method_9_code 3 = .ok (.istore 5, 2) := by decide +kernel
theorem d_En_countWith_5 : decode prog_2_method_9_code 5 = .ok (.iload 5, 2) := by decide +kernel
theorem d_En_countWith_7 : decode prog_2_method_9_code 7 = .ok (.aload_n 0, 1) := by decide +kernel
theorem d_En_countWith_8 : decode prog_2_method_9_code 8 = .ok (.getfield 31, 3) := by decide +kernel
theorem d_En_countWith_11 : decode prog_2_method_9_code 11 = .ok (.getfield 90, 3) := by decide +kernel
theorem d_En_countWith_14 : decode prog_2_method_9_code 14 = .ok (.if_icmp .ge 55, 3) := by decide +kernel
theorem d_En_countWith_17 : decode prog_2_method_9_code 17 = .ok (.aload_n 0, 1) := by decide +kernel
theorem d_En_countWith_18 : decode prog_2_method_9_code 18 = .ok (.iload_n 1, 1) := by decide +kernel
theorem d_En_countWith_19 : decode prog_2_method_9_code 19 = .ok (.iload 5, 2) := by decide +kernel
theorem d_En_countWith_21 : decode prog_2_method_9_code 21 = .ok (.iload_n 2, 1) := by decide +kernel
theorem d_En_countWith_22 : decode prog_2_method_9_code 22 = .ok (.invokevirtual 100, 3) := by decide +kernel
theorem d_En_countWith_25 : decode prog_2_method_9_code 25 = .ok (.istore 6, 2) := by decide +kernel
theorem d_En_countWith_27 : decode prog_2_method_9_code 27 = .ok (.iload 6, 2) := by decide +kernel
theorem d_En_countWith_29 : decode prog_2_method_9_code 29 = .ok (.iconst (-1), 1) := by decide +kernel
theorem d_En_countWith_30 : decode prog_2_method_9_code 30 = .ok (.if_icmp .eq 33, 3) := by decide +kernel
theorem d_En_countWith_33 : decode prog_2_method_9_code 33 = .ok (.lload_n 3, 1) := by decide +kernel
theorem d_En_countWith_34 : decode prog_2_method_9_code 34 = .ok (.aload_n 0, 1) := by decide +kernel
theorem d_En_countWith_35 : decode prog_2_method_9_code 35 = .ok (.getfield 18, 3) := by decide +kernel
theorem d_En_countWith_38 : decode prog_2_method_9_code 38 = .ok (.iload_n 1, 1) := by decide +kernel
theorem d_En_countWith_39 : decode prog_2_method_9_code 39 = .ok (.bipush 8, 2) := by decide +kernel
theorem d_En_countWith_41 : decode prog_2_method_9_code 41 = .ok (.imul, 1) := by decide +kernel
theorem d_En_countWith_42 : decode prog_2_method_9_code 42 = .ok (.iload 5, 2) := by decide +kernel
theorem d_En_countWith_44 : decode prog_2_method_9_code 44 = .ok (.iadd, 1) := by decide +kernel
theorem d_En_countWith_45 : decode prog_2_method_9_code 45 = .ok (.laload, 1) := by decide +kernel
theorem d_En_countWith_46 : decode prog_2_method_9_code 46 = .ok (.aload_n 0, 1) := by decide +kernel
theorem d_En_countWith_47 : decode prog_2_method_9_code 47 = .ok (.getfield 22, 3) := by decide +kernel
theorem d_En_countWith_50 : decode prog_2_method_9_code 50 = .ok (.iload_n 1, 1) := by decide +kernel
theorem d_En_countWith_51 : decode prog_2_method_9_code 51 = .ok (.iconst 1, 1) := by decide +kernel
theorem d_En_countWith_52 : decode prog_2_method_9_code 52 = .ok (.iadd, 1) := by decide +kernel
theorem d_En_countWith_53 : decode prog_2_method_9_code 53 = .ok (.bipush 8, 2) := by decide +kernel
theorem d_En_countWith_55 : decode prog_2_method_9_code 55 = .ok (.imul, 1) := by decide +kernel
theorem d_En_countWith_56 : decode prog_2_method_9_code 56 = .ok (.iload 6, 2) := by decide +kernel
theorem d_En_countWith_58 : decode prog_2_method_9_code 58 = .ok (.iadd, 1) := by decide +kernel
theorem d_En_countWith_59 : decode prog_2_method_9_code 59 = .ok (.laload, 1) := by decide +kernel
theorem d_En_countWith_60 : decode prog_2_method_9_code 60 = .ok (.lmul, 1) := by decide +kernel
theorem d_En_countWith_61 : decode prog_2_method_9_code 61 = .ok (.ladd, 1) := by decide +kernel
theorem d_En_countWith_62 : decode prog_2_method_9_code 62 = .ok (.lstore_n 3, 1) := by decide +kernel
theorem d_En_countWith_63 : decode prog_2_method_9_code 63 = .ok (.iinc 5 1, 3) := by decide +kernel
theorem d_En_countWith_66 : decode prog_2_method_9_code 66 = .ok (.goto (-61), 3) := by decide +kernel
theorem d_En_countWith_69 : decode prog_2_method_9_code 69 = .ok (.lload_n 3, 1) := by decide +kernel
theorem d_En_countWith_70 : decode prog_2_method_9_code 70 = .ok (.lreturn, 1) := by decide +kernel
def En_countWith_L5 (Y : Ly) (l0 : Nat) (l1 : Int32) (l2 : Int32) (h : Hp) : Nat → Int64 → Int32 → Option Int64
  | 0, _, _ => none
  | F + 1, l3, l5 =>
    if (hGi h 604 (hGr h 5 l0)) ≤ l5 then
      some l3
    else
      (En_stepTo Y l0 l1 l5 l2 h).bind fun q3 =>
      if q3 = (-1) then
        En_countWith_L5 Y l0 l1 l2 h F l3 (l5 + 1)
      else
        if inB ((l1 * 8) + l5) (lnY Y (hGr h 2 l0)) = true then
          if inB (((l1 + 1) * 8) + q3) (lnY Y (hGr h 3 l0)) = true then
            En_countWith_L5 Y l0 l1 l2 h F (l3 + ((hAl h (hGr h 2 l0) (Int32.toNatClampNeg ((l1 * 8) + l5))) * (hAl h (hGr h 3 l0) (Int32.toNatClampNeg (((l1 + 1) * 8) + q3))))) (l5 + 1)
          else none
        else none
theorem En_countWith_L5_ok (Y : Ly) (l0 : Nat) (l1 : Int32) (l2 : Int32) (h : Hp) (tl0 : isO Y 0 l0) : ∀ (F : Nat) (l3 : Int64) (l5 : Int32), AW Y 2 K_En_countWith 5 [(0, .ref l0), (1, .int l1), (2, .int l2), (3, .long l3), (5, .int l5)] [] h (En_countWith_L5 Y l0 l1 l2 h F l3 l5) (pL h) := by
  intro F
  induction F with
  | zero =>
    intro l3 l5
    exact aw_none
  | succ F ih =>
    intro l3 l5
    unfold En_countWith_L5
    refine aw_iload (pc := 5) d_En_countWith_5 4 rfl ?_
    refine aw_aload_n (pc := 7) d_En_countWith_7 rfl 0 rfl ?_
    refine gt_5 (pc := 8) d_En_countWith_8 w1_223 tl0 (fun tt1 => ?_)
    refine gt_604 (pc := 11) d_En_countWith_11 w1_188 tt1 ?_
    refine aw_icmp_ge (pc := 14) (tgt := 69) d_En_countWith_14 (by decide) (fun c2 => ?_) (fun c2 => ?_)
    · refine aw_lload_n (pc := 69) d_En_countWith_69 rfl 3 rfl ?_
      exact aw_lreturn (pc := 70) d_En_countWith_70 rfl rfl
    · refine aw_aload_n (pc := 17) d_En_countWith_17 rfl 0 rfl ?_
      refine aw_iload_n (pc := 18) d_En_countWith_18 rfl 1 rfl ?_
      refine aw_iload (pc := 19) d_En_countWith_19 4 rfl ?_
      refine aw_iload_n (pc := 21) d_En_countWith_21 rfl 2 rfl ?_
      refine aw_cVpI (pc := 22) (ci := 0) (T := TX0) (N := 8) (As := [.int l1, .int l5, .int l2]) (st := []) (ok_En_stepTo Y l0 l1 l5 l2 h tl0) okV_En_stepTo rfl (by decide) tl0 w5_48 d_En_countWith_22 rfl (Nat.le_of_ble_eq_true rfl) rfl (Nat.le_of_ble_eq_true rfl) (fun q3 hq3 hTq3 => ?_)
      refine aw_istore (pc := 25) (lv' := [(6, .int q3), (0, .ref l0), (1, .int l1), (2, .int l2), (3, .long l3), (5, .int l5)]) d_En_countWith_25 (by decide) rfl ?_
      refine aw_iload (pc := 27) d_En_countWith_27 0 rfl ?_
      refine aw_iconst (pc := 29) (x := (-1)) d_En_countWith_29 (by decide) ?_
      refine aw_icmp_eq (pc := 30) (tgt := 63) d_En_countWith_30 (by decide) (fun c4 => ?_) (fun c4 => ?_)
      · refine aw_iinc (pc := 63) (w := l5 + 1) (lv' := [(5, .int (l5 + 1)), (6, .int q3), (0, .ref l0), (1, .int l1), (2, .int l2), (3, .long l3)]) d_En_countWith_63 5 rfl rfl (by decide) rfl ?_
        refine aw_goto (pc := 66) (tgt := 5) d_En_countWith_66 (by decide) ?_
        exact aw_lv [2, 3, 4, 5, 0] rfl (ih l3 (l5 + 1))
      · refine aw_lload_n (pc := 33) d_En_countWith_33 rfl 4 rfl ?_
        refine aw_aload_n (pc := 34) d_En_countWith_34 rfl 1 rfl ?_
        refine gt_2 (pc := 35) d_En_countWith_35 w1_220 tl0 (fun tt5 => ?_)
        refine aw_iload_n (pc := 38) d_En_countWith_38 rfl 2 rfl ?_
        refine aw_bipush (pc := 39) (x := 8) d_En_countWith_39 (by decide) ?_
        refine aw_imul (pc := 41) d_En_countWith_41 ?_
        refine aw_iload (pc := 42) d_En_countWith_42 5 rfl ?_
        refine aw_iadd (pc := 44) d_En_countWith_44 ?_
        refine aw_laload (pc := 45) d_En_countWith_45 tt5 (fun c6 => ?_)
        refine aw_aload_n (pc := 46) d_En_countWith_46 rfl 1 rfl ?_
        refine gt_3 (pc := 47) d_En_countWith_47 w1_221 tl0 (fun tt7 => ?_)
        refine aw_iload_n (pc := 50) d_En_countWith_50 rfl 2 rfl ?_
        refine aw_iconst (pc := 51) (x := 1) d_En_countWith_51 (by decide) ?_
        refine aw_iadd (pc := 52) d_En_countWith_52 ?_
        refine aw_bipush (pc := 53) (x := 8) d_En_countWith_53 (by decide) ?_
        refine aw_imul (pc := 55) d_En_countWith_55 ?_
        refine aw_iload (pc := 56) d_En_countWith_56 0 rfl ?_
        refine aw_iadd (pc := 58) d_En_countWith_58 ?_
        refine aw_laload (pc := 59) d_En_countWith_59 tt7 (fun c8 => ?_)
        refine aw_lmul (pc := 60) d_En_countWith_60 ?_
        refine aw_ladd (pc := 61) d_En_countWith_61 ?_
        refine aw_lstore_n (pc := 62) (lv' := [(3, .long (l3 + ((hAl h (hGr h 2 l0) (Int32.toNatClampNeg ((l1 * 8) + l5))) * (hAl h (hGr h 3 l0) (Int32.toNatClampNeg (((l1 + 1) * 8) + q3)))))), (6, .int q3), (0, .ref l0), (1, .int l1), (2, .int l2), (5, .int l5)]) d_En_countWith_62 rfl (by decide) rfl ?_
        refine aw_iinc (pc := 63) (w := l5 + 1) (lv' := [(5, .int (l5 + 1)), (3, .long (l3 + ((hAl h (hGr h 2 l0) (Int32.toNatClampNeg ((l1 * 8) + l5))) * (hAl h (hGr h 3 l0) (Int32.toNatClampNeg (((l1 + 1) * 8) + q3)))))), (6, .int q3), (0, .ref l0), (1, .int l1), (2, .int l2)]) d_En_countWith_63 5 rfl rfl (by decide) rfl ?_
        refine aw_goto (pc := 66) (tgt := 5) d_En_countWith_66 (by decide) ?_
        exact aw_lv [3, 4, 5, 1, 0] rfl (ih (l3 + ((hAl h (hGr h 2 l0) (Int32.toNatClampNeg ((l1 * 8) + l5))) * (hAl h (hGr h 3 l0) (Int32.toNatClampNeg (((l1 + 1) * 8) + q3))))) (l5 + 1))
def En_countWith (Y : Ly) (l0 : Nat) (l1 : Int32) (l2 : Int32) (h : Hp) : Option Int64 :=
  En_countWith_L5 Y l0 l1 l2 h FU 0 0
theorem ok_En_countWith (Y : Ly) (l0 : Nat) (l1 : Int32) (l2 : Int32) (h : Hp) (t0 : isO Y 0 l0) : AM Y 2 K_En_countWith [.ref l0, .int l1, .int l2] h (En_countWith Y l0 l1 l2 h) (pL h) := by
  refine AM.of rfl (Nat.le_of_ble_eq_true rfl) ?_
  show AW Y 2 K_En_countWith 0 [(0, .ref l0), (1, .int l1), (2, .int l2)] [] h (En_countWith Y l0 l1 l2 h) (pL h)
  unfold En_countWith
  refine aw_lconst (pc := 0) (x := 0) d_En_countWith_0 (by decide) ?_
  refine aw_lstore_n (pc := 1) (lv' := [(3, .long 0), (0, .ref l0), (1, .int l1), (2, .int l2)]) d_En_countWith_1 rfl (by decide) rfl ?_
  refine aw_iconst (pc := 2) (x := 0) d_En_countWith_2 (by decide) ?_
  refine aw_istore (pc := 3) (lv' := [(5, .int 0), (3, .long 0), (0, .ref l0), (1, .int l1), (2, .int l2)]) d_En_countWith_3 (by decide) rfl ?_
  exact aw_lv [2, 3, 4, 1, 0] rfl (En_countWith_L5_ok Y l0 l1 l2 h t0 FU 0 0)
/-! java/lang/Integer.bitCount(I)I -/
theorem d_J_bitCount_0 : decode prog_15_method_49_code 0 = .ok (.iload_n 0, 1) := by decide +kernel
theorem d_J_bitCount_1 : decode prog_15_method_49_code 1 = .ok (.iload_n 0, 1) := by decide +kernel
theorem d_J_bitCount_2 : decode prog_15_method_49_code 2 = .ok (.iconst 1, 1) := by decide +kernel
theorem d_J_bitCount_3 : decode prog_15_method_49_code 3 = .ok (.iushr, 1) := by decide +kernel
theorem d_J_bitCount_4 : decode prog_15_method_49_code 4 = .ok (.ldc_w 265, 3) := by decide +kernel
theorem d_J_bitCount_7 : decode prog_15_method_49_code 7 = .ok (.iand, 1) := by decide +kernel
theorem d_J_bitCount_8 : decode prog_15_method_49_code 8 = .ok (.isub, 1) := by decide +kernel
theorem d_J_bitCount_9 : decode prog_15_method_49_code 9 = .ok (.istore_n 0, 1) := by decide +kernel
theorem d_J_bitCount_10 : decode prog_15_method_49_code 10 = .ok (.iload_n 0, 1) := by decide +kernel
theorem d_J_bitCount_11 : decode prog_15_method_49_code 11 = .ok (.ldc_w 266, 3) := by decide +kernel
theorem d_J_bitCount_14 : decode prog_15_method_49_code 14 = .ok (.iand, 1) := by decide +kernel
theorem d_J_bitCount_15 : decode prog_15_method_49_code 15 = .ok (.iload_n 0, 1) := by decide +kernel
theorem d_J_bitCount_16 : decode prog_15_method_49_code 16 = .ok (.iconst 2, 1) := by decide +kernel
theorem d_J_bitCount_17 : decode prog_15_method_49_code 17 = .ok (.iushr, 1) := by decide +kernel
theorem d_J_bitCount_18 : decode prog_15_method_49_code 18 = .ok (.ldc_w 266, 3) := by decide +kernel
theorem d_J_bitCount_21 : decode prog_15_method_49_code 21 = .ok (.iand, 1) := by decide +kernel
theorem d_J_bitCount_22 : decode prog_15_method_49_code 22 = .ok (.iadd, 1) := by decide +kernel
theorem d_J_bitCount_23 : decode prog_15_method_49_code 23 = .ok (.istore_n 0, 1) := by decide +kernel
theorem d_J_bitCount_24 : decode prog_15_method_49_code 24 = .ok (.iload_n 0, 1) := by decide +kernel
theorem d_J_bitCount_25 : decode prog_15_method_49_code 25 = .ok (.iload_n 0, 1) := by decide +kernel
theorem d_J_bitCount_26 : decode prog_15_method_49_code 26 = .ok (.iconst 4, 1) := by decide +kernel
theorem d_J_bitCount_27 : decode prog_15_method_49_code 27 = .ok (.iushr, 1) := by decide +kernel
theorem d_J_bitCount_28 : decode prog_15_method_49_code 28 = .ok (.iadd, 1) := by decide +kernel
theorem d_J_bitCount_29 : decode prog_15_method_49_code 29 = .ok (.ldc_w 267, 3) := by decide +kernel
theorem d_J_bitCount_32 : decode prog_15_method_49_code 32 = .ok (.iand, 1) := by decide +kernel
theorem d_J_bitCount_33 : decode prog_15_method_49_code 33 = .ok (.istore_n 0, 1) := by decide +kernel
theorem d_J_bitCount_34 : decode prog_15_method_49_code 34 = .ok (.iload_n 0, 1) := by decide +kernel
theorem d_J_bitCount_35 : decode prog_15_method_49_code 35 = .ok (.iload_n 0, 1) := by decide +kernel
theorem d_J_bitCount_36 : decode prog_15_method_49_code 36 = .ok (.bipush 8, 2) := by decide +kernel
theorem d_J_bitCount_38 : decode prog_15_method_49_code 38 = .ok (.iushr, 1) := by decide +kernel
theorem d_J_bitCount_39 : decode prog_15_method_49_code 39 = .ok (.iadd, 1) := by decide +kernel
theorem d_J_bitCount_40 : decode prog_15_method_49_code 40 = .ok (.istore_n 0, 1) := by decide +kernel
theorem d_J_bitCount_41 : decode prog_15_method_49_code 41 = .ok (.iload_n 0, 1) := by decide +kernel
theorem d_J_bitCount_42 : decode prog_15_method_49_code 42 = .ok (.iload_n 0, 1) := by decide +kernel
theorem d_J_bitCount_43 : decode prog_15_method_49_code 43 = .ok (.bipush 16, 2) := by decide +kernel
theorem d_J_bitCount_45 : decode prog_15_method_49_code 45 = .ok (.iushr, 1) := by decide +kernel
theorem d_J_bitCount_46 : decode prog_15_method_49_code 46 = .ok (.iadd, 1) := by decide +kernel
theorem d_J_bitCount_47 : decode prog_15_method_49_code 47 = .ok (.istore_n 0, 1) := by decide +kernel
theorem d_J_bitCount_48 : decode prog_15_method_49_code 48 = .ok (.iload_n 0, 1) := by decide +kernel
theorem d_J_bitCount_49 : decode prog_15_method_49_code 49 = .ok (.bipush 63, 2) := by decide +kernel
theorem d_J_bitCount_51 : decode prog_15_method_49_code 51 = .ok (.iand, 1) := by decide +kernel
theorem d_J_bitCount_52 : decode prog_15_method_49_code 52 = .ok (.ireturn, 1) := by decide +kernel
def J_bitCount (Y : Ly) (l0 : Int32) (h : Hp) : Option Int32 :=
  some ((((((((l0 - (((Int32.toUInt32 l0 >>> (Int32.toUInt32 1 &&& Int32.toUInt32 31)).toInt32) &&& 1431655765)) &&& 858993459) + (((Int32.toUInt32 (l0 - (((Int32.toUInt32 l0 >>> (Int32.toUInt32 1 &&& Int32.toUInt32 31)).toInt32) &&& 1431655765)) >>> (Int32.toUInt32 2 &&& Int32.toUInt32 31)).toInt32) &&& 858993459)) + ((Int32.toUInt32 (((l0 - (((Int32.toUInt32 l0 >>> (Int32.toUInt32 1 &&& Int32.toUInt32 31)).toInt32) &&& 1431655765)) &&& 858993459) + (((Int32.toUInt32 (l0 - (((Int32.toUInt32 l0 >>> (Int32.toUInt32 1 &&& Int32.toUInt32 31)).toInt32) &&& 1431655765)) >>> (Int32.toUInt32 2 &&& Int32.toUInt32 31)).toInt32) &&& 858993459)) >>> (Int32.toUInt32 4 &&& Int32.toUInt32 31)).toInt32)) &&& 252645135) + ((Int32.toUInt32 (((((l0 - (((Int32.toUInt32 l0 >>> (Int32.toUInt32 1 &&& Int32.toUInt32 31)).toInt32) &&& 1431655765)) &&& 858993459) + (((Int32.toUInt32 (l0 - (((Int32.toUInt32 l0 >>> (Int32.toUInt32 1 &&& Int32.toUInt32 31)).toInt32) &&& 1431655765)) >>> (Int32.toUInt32 2 &&& Int32.toUInt32 31)).toInt32) &&& 858993459)) + ((Int32.toUInt32 (((l0 - (((Int32.toUInt32 l0 >>> (Int32.toUInt32 1 &&& Int32.toUInt32 31)).toInt32) &&& 1431655765)) &&& 858993459) + (((Int32.toUInt32 (l0 - (((Int32.toUInt32 l0 >>> (Int32.toUInt32 1 &&& Int32.toUInt32 31)).toInt32) &&& 1431655765)) >>> (Int32.toUInt32 2 &&& Int32.toUInt32 31)).toInt32) &&& 858993459)) >>> (Int32.toUInt32 4 &&& Int32.toUInt32 31)).toInt32)) &&& 252645135) >>> (Int32.toUInt32 8 &&& Int32.toUInt32 31)).toInt32)) + ((Int32.toUInt32 ((((((l0 - (((Int32.toUInt32 l0 >>> (Int32.toUInt32 1 &&& Int32.toUInt32 31)).toInt32) &&& 1431655765)) &&& 858993459) + (((Int32.toUInt32 (l0 - (((Int32.toUInt32 l0 >>> (Int32.toUInt32 1 &&& Int32.toUInt32 31)).toInt32) &&& 1431655765)) >>> (Int32.toUInt32 2 &&& Int32.toUInt32 31)).toInt32) &&& 858993459)) + ((Int32.toUInt32 (((l0 - (((Int32.toUInt32 l0 >>> (Int32.toUInt32 1 &&& Int32.toUInt32 31)).toInt32) &&& 1431655765)) &&& 858993459) + (((Int32.toUInt32 (l0 - (((Int32.toUInt32 l0 >>> (Int32.toUInt32 1 &&& Int32.toUInt32 31)).toInt32) &&& 1431655765)) >>> (Int32.toUInt32 2 &&& Int32.toUInt32 31)).toInt32) &&& 858993459)) >>> (Int32.toUInt32 4 &&& Int32.toUInt32 31)).toInt32)) &&& 252645135) + ((Int32.toUInt32 (((((l0 - (((Int32.toUInt32 l0 >>> (Int32.toUInt32 1 &&& Int32.toUInt32 31)).toInt32) &&& 1431655765)) &&& 858993459) + (((Int32.toUInt32 (l0 - (((Int32.toUInt32 l0 >>> (Int32.toUInt32 1 &&& Int32.toUInt32 31)).toInt32) &&& 1431655765)) >>> (Int32.toUInt32 2 &&& Int32.toUInt32 31)).toInt32) &&& 858993459)) + ((Int32.toUInt32 (((l0 - (((Int32.toUInt32 l0 >>> (Int32.toUInt32 1 &&& Int32.toUInt32 31)).toInt32) &&& 1431655765)) &&& 858993459) + (((Int32.toUInt32 (l0 - (((Int32.toUInt32 l0 >>> (Int32.toUInt32 1 &&& Int32.toUInt32 31)).toInt32) &&& 1431655765)) >>> (Int32.toUInt32 2 &&& Int32.toUInt32 31)).toInt32) &&& 858993459)) >>> (Int32.toUInt32 4 &&& Int32.toUInt32 31)).toInt32)) &&& 252645135) >>> (Int32.toUInt32 8 &&& Int32.toUInt32 31)).toInt32)) >>> (Int32.toUInt32 16 &&& Int32.toUInt32 31)).toInt32)) &&& 63)
theorem ok_J_bitCount (Y : Ly) (l0 : Int32) (h : Hp) : AM Y 0 K_J_bitCount [.int l0] h (J_bitCount Y l0 h) (pI h) := by
  refine AM.of rfl (Nat.le_of_ble_eq_true rfl) ?_
  show AW Y 0 K_J_bitCount 0 [(0, .int l0)] [] h (J_bitCount Y l0 h) (pI h)
  unfold J_bitCount
  refine aw_iload_n (pc := 0) d_J_bitCount_0 rfl 0 rfl ?_
  refine aw_iload_n (pc := 1) d_J_bitCount_1 rfl 0 rfl ?_
  refine aw_iconst (pc := 2) (x := 1) d_J_bitCount_2 (by decide) ?_
  refine aw_iushr (pc := 3) d_J_bitCount_3 ?_
  refine aw_ldcw (pc := 4) d_J_bitCount_4 w5_238 ?_
  refine aw_iand (pc := 7) d_J_bitCount_7 ?_
  refine aw_isub (pc := 8) d_J_bitCount_8 ?_
  refine aw_istore_n (pc := 9) (lv' := [(0, .int (l0 - (((Int32.toUInt32 l0 >>> (Int32.toUInt32 1 &&& Int32.toUInt32 31)).toInt32) &&& 1431655765)))]) d_J_bitCount_9 rfl (by decide) rfl ?_
  refine aw_iload_n (pc := 10) d_J_bitCount_10 rfl 0 rfl ?_
  refine aw_ldcw (pc := 11) d_J_bitCount_11 w5_239 ?_
  refine aw_iand (pc := 14) d_J_bitCount_14 ?_
  refine aw_iload_n (pc := 15) d_J_bitCount_15 rfl 0 rfl ?_
  refine aw_iconst (pc := 16) (x := 2) d_J_bitCount_16 (by decide) ?_
  refine aw_iushr (pc := 17) d_J_bitCount_17 ?_
  refine aw_ldcw (pc := 18) d_J_bitCount_18 w5_239 ?_
  refine aw_iand (pc := 21) d_J_bitCount_21 ?_
  refine aw_iadd (pc := 22) d_J_bitCount_22 ?_
  refine aw_istore_n (pc := 23) (lv' := [(0, .int (((l0 - (((Int32.toUInt32 l0 >>> (Int32.toUInt32 1 &&& Int32.toUInt32 31)).toInt32) &&& 1431655765)) &&& 858993459) + (((Int32.toUInt32 (l0 - (((Int32.toUInt32 l0 >>> (Int32.toUInt32 1 &&& Int32.toUInt32 31)).toInt32) &&& 1431655765)) >>> (Int32.toUInt32 2 &&& Int32.toUInt32 31)).toInt32) &&& 858993459)))]) d_J_bitCount_23 rfl (by decide) rfl ?_
  refine aw_iload_n (pc := 24) d_J_bitCount_24 rfl 0 rfl ?_
  refine aw_iload_n (pc := 25) d_J_bitCount_25 rfl 0 rfl ?_
  refine aw_iconst (pc := 26) (x := 4) d_J_bitCount_26 (by decide) ?_
  refine aw_iushr (pc := 27) d_J_bitCount_27 ?_
  refine aw_iadd (pc := 28) d_J_bitCount_28 ?_
  refine aw_ldcw (pc := 29) d_J_bitCount_29 w6_0 ?_
  refine aw_iand (pc := 32) d_J_bitCount_32 ?_
  refine aw_istore_n (pc := 33) (lv' := [(0, .int (((((l0 - (((Int32.toUInt32 l0 >>> (Int32.toUInt32 1 &&& Int32.toUInt32 31)).toInt32) &&& 1431655765)) &&& 858993459) + (((Int32.toUInt32 (l0 - (((Int32.toUInt32 l0 >>> (Int32.toUInt32 1 &&& Int32.toUInt32 31)).toInt32) &&& 1431655765)) >>> (Int32.toUInt32 2 &&& Int32.toUInt32 31)).toInt32) &&& 858993459)) + ((Int32.toUInt32 (((l0 - (((Int32.toUInt32 l0 >>> (Int32.toUInt32 1 &&& Int32.toUInt32 31)).toInt32) &&& 1431655765)) &&& 858993459) + (((Int32.toUInt32 (l0 - (((Int32.toUInt32 l0 >>> (Int32.toUInt32 1 &&& Int32.toUInt32 31)).toInt32) &&& 1431655765)) >>> (Int32.toUInt32 2 &&& Int32.toUInt32 31)).toInt32) &&& 858993459)) >>> (Int32.toUInt32 4 &&& Int32.toUInt32 31)).toInt32)) &&& 252645135))]) d_J_bitCount_33 rfl (by decide) rfl ?_
  refine aw_iload_n (pc := 34) d_J_bitCount_34 rfl 0 rfl ?_
  refine aw_iload_n (pc := 35) d_J_bitCount_35 rfl 0 rfl ?_
  refine aw_bipush (pc := 36) (x := 8) d_J_bitCount_36 (by decide) ?_
  refine aw_iushr (pc := 38) d_J_bitCount_38 ?_
  refine aw_iadd (pc := 39) d_J_bitCount_39 ?_
  refine aw_istore_n (pc := 40) (lv' := [(0, .int ((((((l0 - (((Int32.toUInt32 l0 >>> (Int32.toUInt32 1 &&& Int32.toUInt32 31)).toInt32) &&& 1431655765)) &&& 858993459) + (((Int32.toUInt32 (l0 - (((Int32.toUInt32 l0 >>> (Int32.toUInt32 1 &&& Int32.toUInt32 31)).toInt32) &&& 1431655765)) >>> (Int32.toUInt32 2 &&& Int32.toUInt32 31)).toInt32) &&& 858993459)) + ((Int32.toUInt32 (((l0 - (((Int32.toUInt32 l0 >>> (Int32.toUInt32 1 &&& Int32.toUInt32 31)).toInt32) &&& 1431655765)) &&& 858993459) + (((Int32.toUInt32 (l0 - (((Int32.toUInt32 l0 >>> (Int32.toUInt32 1 &&& Int32.toUInt32 31)).toInt32) &&& 1431655765)) >>> (Int32.toUInt32 2 &&& Int32.toUInt32 31)).toInt32) &&& 858993459)) >>> (Int32.toUInt32 4 &&& Int32.toUInt32 31)).toInt32)) &&& 252645135) + ((Int32.toUInt32 (((((l0 - (((Int32.toUInt32 l0 >>> (Int32.toUInt32 1 &&& Int32.toUInt32 31)).toInt32) &&& 1431655765)) &&& 858993459) + (((Int32.toUInt32 (l0 - (((Int32.toUInt32 l0 >>> (Int32.toUInt32 1 &&& Int32.toUInt32 31)).toInt32) &&& 1431655765)) >>> (Int32.toUInt32 2 &&& Int32.toUInt32 31)).toInt32) &&& 858993459)) + ((Int32.toUInt32 (((l0 - (((Int32.toUInt32 l0 >>> (Int32.toUInt32 1 &&& Int32.toUInt32 31)).toInt32) &&& 1431655765)) &&& 858993459) + (((Int32.toUInt32 (l0 - (((Int32.toUInt32 l0 >>> (Int32.toUInt32 1 &&& Int32.toUInt32 31)).toInt32) &&& 1431655765)) >>> (Int32.toUInt32 2 &&& Int32.toUInt32 31)).toInt32) &&& 858993459)) >>> (Int32.toUInt32 4 &&& Int32.toUInt32 31)).toInt32)) &&& 252645135) >>> (Int32.toUInt32 8 &&& Int32.toUInt32 31)).toInt32)))]) d_J_bitCount_40 rfl (by decide) rfl ?_
  refine aw_iload_n (pc := 41) d_J_bitCount_41 rfl 0 rfl ?_
  refine aw_iload_n (pc := 42) d_J_bitCount_42 rfl 0 rfl ?_
  refine aw_bipush (pc := 43) (x := 16) d_J_bitCount_43 (by decide) ?_
  refine aw_iushr (pc := 45) d_J_bitCount_45 ?_
  refine aw_iadd (pc := 46) d_J_bitCount_46 ?_
  refine aw_istore_n (pc := 47) (lv' := [(0, .int (((((((l0 - (((Int32.toUInt32 l0 >>> (Int32.toUInt32 1 &&& Int32.toUInt32 31)).toInt32) &&& 1431655765)) &&& 858993459) + (((Int32.toUInt32 (l0 - (((Int32.toUInt32 l0 >>> (Int32.toUInt32 1 &&& Int32.toUInt32 31)).toInt32) &&& 1431655765)) >>> (Int32.toUInt32 2 &&& Int32.toUInt32 31)).toInt32) &&& 858993459)) + ((Int32.toUInt32 (((l0 - (((Int32.toUInt32 l0 >>> (Int32.toUInt32 1 &&& Int32.toUInt32 31)).toInt32) &&& 1431655765)) &&& 858993459) + (((Int32.toUInt32 (l0 - (((Int32.toUInt32 l0 >>> (Int32.toUInt32 1 &&& Int32.toUInt32 31)).toInt32) &&& 1431655765)) >>> (Int32.toUInt32 2 &&& Int32.toUInt32 31)).toInt32) &&& 858993459)) >>> (Int32.toUInt32 4 &&& Int32.toUInt32 31)).toInt32)) &&& 252645135) + ((Int32.toUInt32 (((((l0 - (((Int32.toUInt32 l0 >>> (Int32.toUInt32 1 &&& Int32.toUInt32 31)).toInt32) &&& 1431655765)) &&& 858993459) + (((Int32.toUInt32 (l0 - (((Int32.toUInt32 l0 >>> (Int32.toUInt32 1 &&& Int32.toUInt32 31)).toInt32) &&& 1431655765)) >>> (Int32.toUInt32 2 &&& Int32.toUInt32 31)).toInt32) &&& 858993459)) + ((Int32.toUInt32 (((l0 - (((Int32.toUInt32 l0 >>> (Int32.toUInt32 1 &&& Int32.toUInt32 31)).toInt32) &&& 1431655765)) &&& 858993459) + (((Int32.toUInt32 (l0 - (((Int32.toUInt32 l0 >>> (Int32.toUInt32 1 &&& Int32.toUInt32 31)).toInt32) &&& 1431655765)) >>> (Int32.toUInt32 2 &&& Int32.toUInt32 31)).toInt32) &&& 858993459)) >>> (Int32.toUInt32 4 &&& Int32.toUInt32 31)).toInt32)) &&& 252645135) >>> (Int32.toUInt32 8 &&& Int32.toUInt32 31)).toInt32)) + ((Int32.toUInt32 ((((((l0 - (((Int32.toUInt32 l0 >>> (Int32.toUInt32 1 &&& Int32.toUInt32 31)).toInt32) &&& 1431655765)) &&& 858993459) + (((Int32.toUInt32 (l0 - (((Int32.toUInt32 l0 >>> (Int32.toUInt32 1 &&& Int32.toUInt32 31)).toInt32) &&& 1431655765)) >>> (Int32.toUInt32 2 &&& Int32.toUInt32 31)).toInt32) &&& 858993459)) + ((Int32.toUInt32 (((l0 - (((Int32.toUInt32 l0 >>> (Int32.toUInt32 1 &&& Int32.toUInt32 31)).toInt32) &&& 1431655765)) &&& 858993459) + (((Int32.toUInt32 (l0 - (((Int32.toUInt32 l0 >>> (Int32.toUInt32 1 &&& Int32.toUInt32 31)).toInt32) &&& 1431655765)) >>> (Int32.toUInt32 2 &&& Int32.toUInt32 31)).toInt32) &&& 858993459)) >>> (Int32.toUInt32 4 &&& Int32.toUInt32 31)).toInt32)) &&& 252645135) + ((Int32.toUInt32 (((((l0 - (((Int32.toUInt32 l0 >>> (Int32.toUInt32 1 &&& Int32.toUInt32 31)).toInt32) &&& 1431655765)) &&& 858993459) + (((Int32.toUInt32 (l0 - (((Int32.toUInt32 l0 >>> (Int32.toUInt32 1 &&& Int32.toUInt32 31)).toInt32) &&& 1431655765)) >>> (Int32.toUInt32 2 &&& Int32.toUInt32 31)).toInt32) &&& 858993459)) + ((Int32.toUInt32 (((l0 - (((Int32.toUInt32 l0 >>> (Int32.toUInt32 1 &&& Int32.toUInt32 31)).toInt32) &&& 1431655765)) &&& 858993459) + (((Int32.toUInt32 (l0 - (((Int32.toUInt32 l0 >>> (Int32.toUInt32 1 &&& Int32.toUInt32 31)).toInt32) &&& 1431655765)) >>> (Int32.toUInt32 2 &&& Int32.toUInt32 31)).toInt32) &&& 858993459)) >>> (Int32.toUInt32 4 &&& Int32.toUInt32 31)).toInt32)) &&& 252645135) >>> (Int32.toUInt32 8 &&& Int32.toUInt32 31)).toInt32)) >>> (Int32.toUInt32 16 &&& Int32.toUInt32 31)).toInt32)))]) d_J_bitCount_47 rfl (by decide) rfl ?_
  refine aw_iload_n (pc := 48) d_J_bitCount_48 rfl 0 rfl ?_
  refine aw_bipush (pc := 49) (x := 63) d_J_bitCount_49 (by decide) ?_
  refine aw_iand (pc := 51) d_J_bitCount_51 ?_
  exact aw_ireturn (pc := 52) d_J_bitCount_52 rfl rfl
/-! LastPages.isFewer(II)Z -/
theorem d_LP_isFewer_0 : decode prog_1_method_76_code 0 = .ok (.iload_n 1, 1) := by decide +kernel
theorem d_LP_isFewer_1 : decode prog_1_method_76_code 1 = .ok (.iconst (-1), 1) := by decide +kernel
theorem d_LP_isFewer_2 : decode prog_1_method_76_code 2 = .ok (.if_icmp .eq 14, 3) := by decide +kernel
theorem d_LP_isFewer_5 : decode prog_1_method_76_code 5 = .ok (.iload_n 0, 1) := by decide +kernel
theorem d_LP_isFewer_6 : decode prog_1_method_76_code 6 = .ok (.invokestatic 398, 3) := by decide +kernel
theorem d_LP_isFewer_9 : decode prog_1_method_76_code 9 = .ok (.iload_n 1, 1) := by decide +kernel
theorem d_LP_isFewer_10 : decode prog_1_method_76_code 10 = .ok (.invokestatic 398, 3) := by decide +kernel
theorem d_LP_isFewer_13 : decode prog_1_method_76_code 13 = .ok (.if_icmp .ge 7, 3) := by decide +kernel
theorem d_LP_isFewer_16 : decode prog_1_method_76_code 16 = .ok (.iconst 1, 1) := by decide +kernel
theorem d_LP_isFewer_17 : decode prog_1_method_76_code 17 = .ok (.goto 4, 3) := by decide +kernel
theorem d_LP_isFewer_20 : decode prog_1_method_76_code 20 = .ok (.iconst 0, 1) := by decide +kernel
theorem d_LP_isFewer_21 : decode prog_1_method_76_code 21 = .ok (.ireturn, 1) := by decide +kernel
def LP_isFewer (Y : Ly) (l0 : Int32) (l1 : Int32) (h : Hp) : Option Bool :=
  if l1 = (-1) then
    some true
  else
    (J_bitCount Y l0 h).bind fun q2 =>
    (J_bitCount Y l1 h).bind fun q3 =>
    if q3 ≤ q2 then
      some false
    else
      some true
theorem ok_LP_isFewer (Y : Ly) (l0 : Int32) (l1 : Int32) (h : Hp) : AM Y 1 K_LP_isFewer [.int l0, .int l1] h (LP_isFewer Y l0 l1 h) (pZ h) := by
  refine AM.of rfl (Nat.le_of_ble_eq_true rfl) ?_
  show AW Y 1 K_LP_isFewer 0 [(0, .int l0), (1, .int l1)] [] h (LP_isFewer Y l0 l1 h) (pZ h)
  unfold LP_isFewer
  refine aw_iload_n (pc := 0) d_LP_isFewer_0 rfl 1 rfl ?_
  refine aw_iconst (pc := 1) (x := (-1)) d_LP_isFewer_1 (by decide) ?_
  refine aw_icmp_eq (pc := 2) (tgt := 16) d_LP_isFewer_2 (by decide) (fun c1 => ?_) (fun c1 => ?_)
  · refine aw_iconst (pc := 16) (x := 1) d_LP_isFewer_16 (by decide) ?_
    refine aw_goto (pc := 17) (tgt := 21) d_LP_isFewer_17 (by decide) ?_
    exact aw_zreturn (pc := 21) (b := true) d_LP_isFewer_21 rfl rfl
  · refine aw_iload_n (pc := 5) d_LP_isFewer_5 rfl 0 rfl ?_
    refine aw_cSpI (pc := 6) (As := [.int l0]) (st := []) (ok_J_bitCount Y l0 h) okS_J_bitCount w6_26 d_LP_isFewer_6 rfl (Nat.le_of_ble_eq_true rfl) rfl (Nat.le_of_ble_eq_true rfl) (fun q2 hq2 hTq2 => ?_)
    refine aw_iload_n (pc := 9) d_LP_isFewer_9 rfl 1 rfl ?_
    refine aw_cSpI (pc := 10) (As := [.int l1]) (st := [.int q2]) (ok_J_bitCount Y l1 h) okS_J_bitCount w6_26 d_LP_isFewer_10 rfl (Nat.le_of_ble_eq_true rfl) rfl (Nat.le_of_ble_eq_true rfl) (fun q3 hq3 hTq3 => ?_)
    refine aw_icmp_ge (pc := 13) (tgt := 20) d_LP_isFewer_13 (by decide) (fun c4 => ?_) (fun c4 => ?_)
    · refine aw_iconst (pc := 20) (x := 0) d_LP_isFewer_20 (by decide) ?_
      exact aw_zreturn (pc := 21) (b := false) d_LP_isFewer_21 rfl rfl
    · refine aw_iconst (pc := 16) (x := 1) d_LP_isFewer_16 (by decide) ?_
      refine aw_goto (pc := 17) (tgt := 21) d_LP_isFewer_17 (by decide) ?_
      exact aw_zreturn (pc := 21) (b := true) d_LP_isFewer_21 rfl rfl
/-! LastPages$Shelf.speakersOf(I)I -/
theorem d_Sh_speakersOf_0 : decode prog_6_method_12_code 0 = .ok (.iconst 0, 1) := by decide +kernel
theorem d_Sh_speakersOf_1 : decode prog_6_method_12_code 1 = .ok (.istore_n 2, 1) := by decide +kernel
theorem d_Sh_speakersOf_2 : decode prog_6_method_12_code 2 = .ok (.iconst 0, 1) := by decide +kernel
theorem d_Sh_speakersOf_3 : decode prog_6_method_12_code 3 = .ok (.istore_n 3, 1) := by decide +kernel
theorem d_Sh_speakersOf_4 : decode prog_6_method_12_code 4 = .ok (.iload_n 3, 1) := by decide +kernel
theorem d_Sh_speakersOf_5 : decode prog_6_method_12_code 5 = .ok (.aload_n 0, 1) := by decide +kernel
theorem d_Sh_speakersOf_6 : decode prog_6_method_12_code 6 = .ok (.getfield 82, 3) := by decide +kernel
theorem d_Sh_speakersOf_9 : decode prog_6_method_12_code 9 = .ok (.if_icmp .ge 34, 3) := by decide +kernel
theorem d_Sh_speakersOf_12 : decode prog_6_method_12_code 12 = .ok (.iload_n 2, 1) := by decide +kernel
theorem d_Sh_speakersOf_13 : decode prog_6_method_12_code 13 = .ok (.aload_n 0, 1) := by decide +kernel
theorem d_Sh_speakersOf_14 : decode prog_6_method_12_code 14 = .ok (.iload_n 3, 1) := by decide +kernel
theorem d_Sh_speakersOf_15 : decode prog_6_method_12_code 15 = .ok (.iconst 0, 1) := by decide +kernel
theorem d_Sh_speakersOf_16 : decode prog_6_method_12_code 16 = .ok (.invokevirtual 108, 3) := by decide +kernel
theorem d_Sh_speakersOf_19 : decode prog_6_method_12_code 19 = .ok (.iload_n 1, 1) := by decide +kernel
theorem d_Sh_speakersOf_20 : decode prog_6_method_12_code 20 = .ok (.if_icmp .ne 14, 3) := by decide +kernel
theorem d_Sh_speakersOf_23 : decode prog_6_method_12_code 23 = .ok (.iconst 1, 1) := by decide +kernel
theorem d_Sh_speakersOf_24 : decode prog_6_method_12_code 24 = .ok (.aload_n 0, 1) := by decide +kernel
theorem d_Sh_speakersOf_25 : decode prog_6_method_12_code 25 = .ok (.iload_n 3, 1) := by decide +kernel
theorem d_Sh_speakersOf_26 : decode prog_6_method_12_code 26 = .ok (.iconst 3, 1) := by decide +kernel
theorem d_Sh_speakersOf_27 : decode prog_6_method_12_code 27 = .ok (.invokevirtual 108, 3) := by decide +kernel
theorem d_Sh_speakersOf_30 : decode prog_6_method_12_code 30 = .ok (.ishl, 1) := by decide +kernel
theorem d_Sh_speakersOf_31 : decode prog_6_method_12_code 31 = .ok (.goto 4, 3) := by decide +kernel
theorem d_Sh_speakersOf_34 : decode prog_6_method_12_code 34 = .ok (.iconst 0, 1) := by decide +kernel
theorem d_Sh_speakersOf_35 : decode prog_6_method_12_code 35 = .ok (.ior, 1) := by decide +kernel
theorem d_Sh_speakersOf_36 : decode prog_6_method_12_code 36 = .ok (.istore_n 2, 1) := by decide +kernel
theorem d_Sh_speakersOf_37 : decode prog_6_method_12_code 37 = .ok (.iinc 3 1, 3) := by decide +kernel
theorem d_Sh_speakersOf_40 : decode prog_6_method_12_code 40 = .ok (.goto (-36), 3) := by decide +kernel
theorem d_Sh_speakersOf_43 : decode prog_6_method_12_code 43 = .ok (.iload_n 2, 1) := by decide +kernel
theorem d_Sh_speakersOf_44 : decode prog_6_method_12_code 44 = .ok (.ireturn, 1) := by decide +kernel
def Sh_speakersOf_L4 (Y : Ly) (l0 : Nat) (l1 : Int32) (h : Hp) : Nat → Int32 → Int32 → Option Int32
  | 0, _, _ => none
  | F + 1, l2, l3 =>
    if (hGi h 418 l0) ≤ l3 then
      some l2
    else
      (Sh_hintPart Y l0 l3 0 h).bind fun q2 =>
      if q2 = l1 then
        (Sh_hintPart Y l0 l3 3 h).bind fun q4 =>
        Sh_speakersOf_L4 Y l0 l1 h F (l2 ||| ((1 : Int32) <<< (q4 &&& 31))) (l3 + 1)
      else
        Sh_speakersOf_L4 Y l0 l1 h F (l2 ||| 0) (l3 + 1)
theorem Sh_speakersOf_L4_ok (Y : Ly) (l0 : Nat) (l1 : Int32) (h : Hp) (tl0 : isO Y 4 l0) : ∀ (F : Nat) (l2 : Int32) (l3 : Int32), AW Y 1 K_Sh_speakersOf 4 [(0, .ref l0), (1, .int l1), (2, .int l2), (3, .int l3)] [] h (Sh_speakersOf_L4 Y l0 l1 h F l2 l3) (pI h) := by
  intro F
  induction F with
  | zero =>
    intro l2 l3
    exact aw_none
  | succ F ih =>
    intro l2 l3
    unfold Sh_speakersOf_L4
    refine aw_iload_n (pc := 4) d_Sh_speakersOf_4 rfl 3 rfl ?_
    refine aw_aload_n (pc := 5) d_Sh_speakersOf_5 rfl 0 rfl ?_
    refine gt_418 (pc := 6) d_Sh_speakersOf_6 w2_170 tl0 ?_
    refine aw_icmp_ge (pc := 9) (tgt := 43) d_Sh_speakersOf_9 (by decide) (fun c1 => ?_) (fun c1 => ?_)
    · refine aw_iload_n (pc := 43) d_Sh_speakersOf_43 rfl 2 rfl ?_
      exact aw_ireturn (pc := 44) d_Sh_speakersOf_44 rfl rfl
    · refine aw_iload_n (pc := 12) d_Sh_speakersOf_12 rfl 2 rfl ?_
      refine aw_aload_n (pc := 13) d_Sh_speakersOf_13 rfl 0 rfl ?_
      refine aw_iload_n (pc := 14) d_Sh_speakersOf_14 rfl 3 rfl ?_
      refine aw_iconst (pc := 15) (x := 0) d_Sh_speakersOf_15 (by decide) ?_
      refine aw_cVpI (pc := 16) (ci := 4) (T := TX4) (N := 19) (As := [.int l3, .int 0]) (st := [.int l2]) (ok_Sh_hintPart Y l0 l3 0 h tl0) okV_Sh_hintPart rfl (by decide) tl0 w6_63 d_Sh_speakersOf_16 rfl (Nat.le_of_ble_eq_true rfl) rfl (Nat.le_of_ble_eq_true rfl) (fun q2 hq2 hTq2 => ?_)
      refine aw_iload_n (pc := 19) d_Sh_speakersOf_19 rfl 1 rfl ?_
      refine aw_icmp_ne (pc := 20) (tgt := 34) d_Sh_speakersOf_20 (by decide) (fun c3 => ?_) (fun c3 => ?_)
      · refine aw_iconst (pc := 23) (x := 1) d_Sh_speakersOf_23 (by decide) ?_
        refine aw_aload_n (pc := 24) d_Sh_speakersOf_24 rfl 0 rfl ?_
        refine aw_iload_n (pc := 25) d_Sh_speakersOf_25 rfl 3 rfl ?_
        refine aw_iconst (pc := 26) (x := 3) d_Sh_speakersOf_26 (by decide) ?_
        refine aw_cVpI (pc := 27) (ci := 4) (T := TX4) (N := 19) (As := [.int l3, .int 3]) (st := [.int 1, .int l2]) (ok_Sh_hintPart Y l0 l3 3 h tl0) okV_Sh_hintPart rfl (by decide) tl0 w6_63 d_Sh_speakersOf_27 rfl (Nat.le_of_ble_eq_true rfl) rfl (Nat.le_of_ble_eq_true rfl) (fun q4 hq4 hTq4 => ?_)
        refine aw_ishl (pc := 30) d_Sh_speakersOf_30 ?_
        refine aw_goto (pc := 31) (tgt := 35) d_Sh_speakersOf_31 (by decide) ?_
        refine aw_ior (pc := 35) d_Sh_speakersOf_35 ?_
        refine aw_istore_n (pc := 36) (lv' := [(2, .int (l2 ||| ((1 : Int32) <<< (q4 &&& 31)))), (0, .ref l0), (1, .int l1), (3, .int l3)]) d_Sh_speakersOf_36 rfl (by decide) rfl ?_
        refine aw_iinc (pc := 37) (w := l3 + 1) (lv' := [(3, .int (l3 + 1)), (2, .int (l2 ||| ((1 : Int32) <<< (q4 &&& 31)))), (0, .ref l0), (1, .int l1)]) d_Sh_speakersOf_37 3 rfl rfl (by decide) rfl ?_
        refine aw_goto (pc := 40) (tgt := 4) d_Sh_speakersOf_40 (by decide) ?_
        exact aw_lv [2, 3, 1, 0] rfl (ih (l2 ||| ((1 : Int32) <<< (q4 &&& 31))) (l3 + 1))
      · refine aw_iconst (pc := 34) (x := 0) d_Sh_speakersOf_34 (by decide) ?_
        refine aw_ior (pc := 35) d_Sh_speakersOf_35 ?_
        refine aw_istore_n (pc := 36) (lv' := [(2, .int (l2 ||| 0)), (0, .ref l0), (1, .int l1), (3, .int l3)]) d_Sh_speakersOf_36 rfl (by decide) rfl ?_
        refine aw_iinc (pc := 37) (w := l3 + 1) (lv' := [(3, .int (l3 + 1)), (2, .int (l2 ||| 0)), (0, .ref l0), (1, .int l1)]) d_Sh_speakersOf_37 3 rfl rfl (by decide) rfl ?_
        refine aw_goto (pc := 40) (tgt := 4) d_Sh_speakersOf_40 (by decide) ?_
        exact aw_lv [2, 3, 1, 0] rfl (ih (l2 ||| 0) (l3 + 1))
def Sh_speakersOf (Y : Ly) (l0 : Nat) (l1 : Int32) (h : Hp) : Option Int32 :=
  Sh_speakersOf_L4 Y l0 l1 h FU 0 0
theorem ok_Sh_speakersOf (Y : Ly) (l0 : Nat) (l1 : Int32) (h : Hp) (t0 : isO Y 4 l0) : AM Y 1 K_Sh_speakersOf [.ref l0, .int l1] h (Sh_speakersOf Y l0 l1 h) (pI h) := by
  refine AM.of rfl (Nat.le_of_ble_eq_true rfl) ?_
  show AW Y 1 K_Sh_speakersOf 0 [(0, .ref l0), (1, .int l1)] [] h (Sh_speakersOf Y l0 l1 h) (pI h)
  unfold Sh_speakersOf
  refine aw_iconst (pc := 0) (x := 0) d_Sh_speakersOf_0 (by decide) ?_
  refine aw_istore_n (pc := 1) (lv' := [(2, .int 0), (0, .ref l0), (1, .int l1)]) d_Sh_speakersOf_1 rfl (by decide) rfl ?_
  refine aw_iconst (pc := 2) (x := 0) d_Sh_speakersOf_2 (by decide) ?_
  refine aw_istore_n (pc := 3) (lv' := [(3, .int 0), (2, .int 0), (0, .ref l0), (1, .int l1)]) d_Sh_speakersOf_3 rfl (by decide) rfl ?_
  exact aw_lv [2, 3, 1, 0] rfl (Sh_speakersOf_L4_ok Y l0 l1 h t0 FU 0 0)
/-! LastPages$Endings.fewestLiars(LLastPages$Shelf;I)I -/
theorem d_En_fewestLiars_0 : decode prog_2_method_17_code 0 = .ok (.aload_n 1, 1) := by decide +kernel
theorem d_En_fewestLiars_1 : decode prog_2_method_17_code 1 = .ok (.iload_n 2, 1) := by decide +kernel
theorem d_En_fewestLiars_2 : decode prog_2_method_17_code 2 = .ok (.invokevirtual 140, 3) := by decide +kernel
theorem d_En_fewestLiars_5 : decode prog_2_method_17_code 5 = .ok (.istore_n 3, 1) := by decide +kernel
theorem d_En_fewestLiars_6 : decode prog_2_method_17_code 6 = .ok (.aload_n 0, 1) := by decide +kernel
theorem d_En_fewestLiars_7 : decode prog_2_method_17_code 7 = .ok (.aload_n 1, 1) := by decide +kernel
theorem d_En_fewestLiars_8 : decode prog_2_method_17_code 8 = .ok (.iload_n 2, 1) := by decide +kernel
theorem d_En_fewestLiars_9 : decode prog_2_method_17_code 9 = .ok (.iload_n 3, 1) := by decide +kernel
theorem d_En_fewestLiars_10 : decode prog_2_method_17_code 10 = .ok (.invokevirtual 143, 3) := by decide +kernel
theorem d_En_fewestLiars_13 : decode prog_2_method_17_code 13 = .ok (.lconst 0, 1) := by decide +kernel
theorem d_En_fewestLiars_14 : decode prog_2_method_17_code 14 = .ok (.lcmp, 1) := by decide +kernel
theorem d_En_fewestLiars_15 : decode prog_2_method_17_code 15 = .ok (.ifCond .ne 5, 3) := by decide +kernel
theorem d_En_fewestLiars_18 : decode prog_2_method_17_code 18 = .ok (.iconst (-1), 1) := by decide +kernel
theorem d_En_fewestLiars_19 : decode prog_2_method_17_code 19 = .ok (.ireturn, 1) := by decide +kernel
theorem d_En_fewestLiars_20 : decode prog_2_method_17_code 20 = .ok (.iload_n 3, 1) := by decide +kernel
theorem d_En_fewestLiars_21 : decode prog_2_method_17_code 21 = .ok (.istore 4, 2) := by decide +kernel
theorem d_En_fewestLiars_23 : decode prog_2_method_17_code 23 = .ok (.iconst 0, 1) := by decide +kernel
theorem d_En_fewestLiars_24 : decode prog_2_method_17_code 24 = .ok (.istore 5, 2) := by decide +kernel
theorem d_En_fewestLiars_26 : decode prog_2_method_17_code 26 = .ok (.iload 5, 2) := by decide +kernel
theorem d_En_fewestLiars_28 : decode prog_2_method_17_code 28 = .ok (.iload_n 3, 1) := by decide +kernel
theorem d_En_fewestLiars_29 : decode prog_2_method_17_code 29 = .ok (.if_icmp .ge 57, 3) := by decide +kernel
theorem d_En_fewestLiars_32 : decode prog_2_method_17_code 32 = .ok (.iload 5, 2) := by decide +kernel
theorem d_En_fewestLiars_34 : decode prog_2_method_17_code 34 = .ok (.iload_n 3, 1) := by decide +kernel
theorem d_En_fewestLiars_35 : decode prog_2_method_17_code 35 = .ok (.iconst (-1), 1) := by decide +kernel
theorem d_En_fewestLiars_36 : decode prog_2_method_17_code 36 = .ok (.ixor, 1) := by decide +kernel
theorem d_En_fewestLiars_37 : decode prog_2_method_17_code 37 = .ok (.iand, 1) := by decide +kernel
theorem d_En_fewestLiars_38 : decode prog_2_method_17_code 38 = .ok (.ifCond .ne 17, 3) := by decide +kernel
theorem d_En_fewestLiars_41 : decode prog_2_method_17_code 41 = .ok (.iload 5, 2) := by decide +kernel
theorem d_En_fewestLiars_43 : decode prog_2_method_17_code 43 = .ok (.iload 4, 2) := by decide +kernel
theorem d_En_fewestLiars_45 : decode prog_2_method_17_code 45 = .ok (.invokestatic 147, 3) := by decide +kernel
theorem d_En_fewestLiars_48 : decode prog_2_method_17_code 48 = .ok (.ifCond .eq 7, 3) := by decide +kernel
theorem d_En_fewestLiars_51 : decode prog_2_method_17_code 51 = .ok (.iconst 1, 1) := by decide +kernel
theorem d_En_fewestLiars_52 : decode prog_2_method_17_code 52 = .ok (.goto 4, 3) := by decide +kernel
theorem d_En_fewestLiars_55 : decode prog_2_method_17_code 55 = .ok (.iconst 0, 1) := by decide +kernel
theorem d_En_fewestLiars_56 : decode prog_2_method_17_code 56 = .ok (.istore 6, 2) := by decide +kernel
theorem d_En_fewestLiars_58 : decode prog_2_method_17_code 58 = .ok (.iload 6, 2) := by decide +kernel
theorem d_En_fewestLiars_60 : decode prog_2_method_17_code 60 = .ok (.ifCond .eq 20, 3) := by decide +kernel
theorem d_En_fewestLiars_63 : decode prog_2_method_17_code 63 = .ok (.aload_n 0, 1) := by decide +kernel
theorem d_En_fewestLiars_64 : decode prog_2_method_17_code 64 = .ok (.aload_n 1, 1) := by decide +kernel
theorem d_En_fewestLiars_65 : decode prog_2_method_17_code 65 = .ok (.iload_n 2, 1) := by decide +kernel
theorem d_En_fewestLiars_66 : decode prog_2_method_17_code 66 = .ok (.iload 5, 2) := by decide +kernel
theorem d_En_fewestLiars_68 : decode prog_2_method_17_code 68 = .ok (.invokevirtual 143, 3) := by decide +kernel
theorem d_En_fewestLiars_71 : decode prog_2_method_17_code 71 = .ok (.lconst 0, 1) := by decide +kernel
theorem d_En_fewestLiars_72 : decode prog_2_method_17_code 72 = .ok (.lcmp, 1) := by decide +kernel
theorem d_En_fewestLiars_73 : decode prog_2_method_17_code 73 = .ok (.ifCond .le 7, 3) := by decide +kernel
theorem d_En_fewestLiars_76 : decode prog_2_method_17_code 76 = .ok (.iload 5, 2) := by decide +kernel
theorem d_En_fewestLiars_78 : decode prog_2_method_17_code 78 = .ok (.istore 4, 2) := by decide +kernel
theorem d_En_fewestLiars_80 : decode prog_2_method_17_code 80 = .ok (.iinc 5 1, 3) := by decide +kernel
theorem d_En_fewestLiars_83 : decode prog_2_method_17_code 83 = .ok (.goto (-57), 3) := by decide +kernel
theorem d_En_fewestLiars_86 : decode prog_2_method_17_code 86 = .ok (.iload 4, 2) := by decide +kernel
theorem d_En_fewestLiars_88 : decode prog_2_method_17_code 88 = .ok (.ireturn, 1) := by decide +kernel
def En_fewestLiars_J56 (Y : Ly) (k26 : Int32 → Int32 → Hp → Option (Int32 × Hp)) (l0 : Nat) (l1 : Nat) (l2 : Int32) (l3 : Int32) (l4 : Int32) (l5 : Int32) (s0 : Bool) (h : Hp) : Option (Int32 × Hp) :=
  if s0 = true then
    (En_countOf Y l0 l1 l2 l5 h).bind fun q9 =>
    if q9.1 ≤ 0 then
      k26 l4 (l5 + 1) q9.2
    else
      k26 l5 (l5 + 1) q9.2
  else
    k26 l4 (l5 + 1) h
theorem En_fewestLiars_J56_ok (Y : Ly) (k26 : Int32 → Int32 → Hp → Option (Int32 × Hp)) (l0 : Nat) (l1 : Nat) (l2 : Int32) (l3 : Int32) (l4 : Int32) (l5 : Int32) (s0 : Bool) (h : Hp) (hk26 : ∀ (l4_ : Int32) (l5_ : Int32) (h_ : Hp), AW Y 4 K_En_fewestLiars 26 [(0, .ref l0), (1, .ref l1), (2, .int l2), (3, .int l3), (4, .int l4_), (5, .int l5_)] [] h_ (k26 l4_ l5_ h_) rI) (tl0 : isO Y 0 l0) (tl1 : isO Y 4 l1) : AW Y 4 K_En_fewestLiars 56 [(0, .ref l0), (1, .ref l1), (2, .int l2), (3, .int l3), (4, .int l4), (5, .int l5)] [.int (b2i s0)] h (En_fewestLiars_J56 Y k26 l0 l1 l2 l3 l4 l5 s0 h) rI := by
  unfold En_fewestLiars_J56
  refine aw_istore (pc := 56) (lv' := [(6, .int (b2i s0)), (0, .ref l0), (1, .ref l1), (2, .int l2), (3, .int l3), (4, .int l4), (5, .int l5)]) d_En_fewestLiars_56 (by decide) rfl ?_
  refine aw_iload (pc := 58) d_En_fewestLiars_58 0 rfl ?_
  refine aw_beq (pc := 60) (tgt := 80) d_En_fewestLiars_60 (by decide) (fun c8 => ?_) (fun c8 => ?_)
  · refine aw_aload_n (pc := 63) d_En_fewestLiars_63 rfl 1 rfl ?_
    refine aw_aload_n (pc := 64) d_En_fewestLiars_64 rfl 2 rfl ?_
    refine aw_iload_n (pc := 65) d_En_fewestLiars_65 rfl 3 rfl ?_
    refine aw_iload (pc := 66) d_En_fewestLiars_66 6 rfl ?_
    refine aw_cVrL (pc := 68) (ci := 0) (T := TX0) (N := 8) (As := [.ref l1, .int l2, .int l5]) (st := []) (ok_En_countOf Y l0 l1 l2 l5 h tl0 tl1) okV_En_countOf rfl (by decide) tl0 w6_64 d_En_fewestLiars_68 rfl (Nat.le_of_ble_eq_true rfl) rfl (Nat.le_of_ble_eq_true rfl) (fun q9 hq9 hTq9 => ?_)
    refine aw_lconst (pc := 71) (x := 0) d_En_fewestLiars_71 (by decide) ?_
    refine aw_lcmp_le (pc := 72) (tgt := 80) d_En_fewestLiars_72 d_En_fewestLiars_73 (by decide) (fun c10 => ?_) (fun c10 => ?_)
    · refine aw_iinc (pc := 80) (w := l5 + 1) (lv' := [(5, .int (l5 + 1)), (6, .int (b2i s0)), (0, .ref l0), (1, .ref l1), (2, .int l2), (3, .int l3), (4, .int l4)]) d_En_fewestLiars_80 6 rfl rfl (by decide) rfl ?_
      refine aw_goto (pc := 83) (tgt := 26) d_En_fewestLiars_83 (by decide) ?_
      exact aw_lv [2, 3, 4, 5, 6, 0] rfl (hk26 l4 (l5 + 1) q9.2)
    · refine aw_iload (pc := 76) d_En_fewestLiars_76 6 rfl ?_
      refine aw_istore (pc := 78) (lv' := [(4, .int l5), (6, .int (b2i s0)), (0, .ref l0), (1, .ref l1), (2, .int l2), (3, .int l3), (5, .int l5)]) d_En_fewestLiars_78 (by decide) rfl ?_
      refine aw_iinc (pc := 80) (w := l5 + 1) (lv' := [(5, .int (l5 + 1)), (4, .int l5), (6, .int (b2i s0)), (0, .ref l0), (1, .ref l1), (2, .int l2), (3, .int l3)]) d_En_fewestLiars_80 6 rfl rfl (by decide) rfl ?_
      refine aw_goto (pc := 83) (tgt := 26) d_En_fewestLiars_83 (by decide) ?_
      exact aw_lv [3, 4, 5, 6, 1, 0] rfl (hk26 l5 (l5 + 1) q9.2)
  · refine aw_iinc (pc := 80) (w := l5 + 1) (lv' := [(5, .int (l5 + 1)), (6, .int (b2i s0)), (0, .ref l0), (1, .ref l1), (2, .int l2), (3, .int l3), (4, .int l4)]) d_En_fewestLiars_80 6 rfl rfl (by decide) rfl ?_
    refine aw_goto (pc := 83) (tgt := 26) d_En_fewestLiars_83 (by decide) ?_
    exact aw_lv [2, 3, 4, 5, 6, 0] rfl (hk26 l4 (l5 + 1) h)
def En_fewestLiars_J55 (Y : Ly) (k26 : Int32 → Int32 → Hp → Option (Int32 × Hp)) (l0 : Nat) (l1 : Nat) (l2 : Int32) (l3 : Int32) (l4 : Int32) (l5 : Int32) (h : Hp) : Option (Int32 × Hp) :=
  En_fewestLiars_J56 Y k26 l0 l1 l2 l3 l4 l5 false h
theorem En_fewestLiars_J55_ok (Y : Ly) (k26 : Int32 → Int32 → Hp → Option (Int32 × Hp)) (l0 : Nat) (l1 : Nat) (l2 : Int32) (l3 : Int32) (l4 : Int32) (l5 : Int32) (h : Hp) (hk26 : ∀ (l4_ : Int32) (l5_ : Int32) (h_ : Hp), AW Y 4 K_En_fewestLiars 26 [(0, .ref l0), (1, .ref l1), (2, .int l2), (3, .int l3), (4, .int l4_), (5, .int l5_)] [] h_ (k26 l4_ l5_ h_) rI) (tl0 : isO Y 0 l0) (tl1 : isO Y 4 l1) : AW Y 4 K_En_fewestLiars 55 [(0, .ref l0), (1, .ref l1), (2, .int l2), (3, .int l3), (4, .int l4), (5, .int l5)] [] h (En_fewestLiars_J55 Y k26 l0 l1 l2 l3 l4 l5 h) rI := by
  unfold En_fewestLiars_J55
  refine aw_iconst (pc := 55) (x := 0) d_En_fewestLiars_55 (by decide) ?_
  exact aw_lv [0, 1, 2, 3, 4, 5] rfl (En_fewestLiars_J56_ok Y k26 l0 l1 l2 l3 l4 l5 false h hk26 tl0 tl1)
def En_fewestLiars_L26 (Y : Ly) (l0 : Nat) (l1 : Nat) (l2 : Int32) (l3 : Int32) : Nat → Int32 → Int32 → Hp → Option (Int32 × Hp)
  | 0, _, _, _ => none
  | F + 1, l4, l5, h =>
    if l3 ≤ l5 then
      some (l4, h)
    else
      if (l5 &&& (l3 ^^^ (-1))) = 0 then
        (LP_isFewer Y l5 l4 h).bind fun q6 =>
        if q6 = true then
          En_fewestLiars_J56 Y (En_fewestLiars_L26 Y l0 l1 l2 l3 F) l0 l1 l2 l3 l4 l5 true h
        else
          En_fewestLiars_J55 Y (En_fewestLiars_L26 Y l0 l1 l2 l3 F) l0 l1 l2 l3 l4 l5 h
      else
        En_fewestLiars_J55 Y (En_fewestLiars_L26 Y l0 l1 l2 l3 F) l0 l1 l2 l3 l4 l5 h
theorem En_fewestLiars_L26_ok (Y : Ly) (l0 : Nat) (l1 : Nat) (l2 : Int32) (l3 : Int32) (tl0 : isO Y 0 l0) (tl1 : isO Y 4 l1) : ∀ (F : Nat) (l4 : Int32) (l5 : Int32) (h : Hp), AW Y 4 K_En_fewestLiars 26 [(0, .ref l0), (1, .ref l1), (2, .int l2), (3, .int l3), (4, .int l4), (5, .int l5)] [] h (En_fewestLiars_L26 Y l0 l1 l2 l3 F l4 l5 h) rI := by
  intro F
  induction F with
  | zero =>
    intro l4 l5 h
    exact aw_none
  | succ F ih =>
    intro l4 l5 h
    unfold En_fewestLiars_L26
    refine aw_iload (pc := 26) d_En_fewestLiars_26 5 rfl ?_
    refine aw_iload_n (pc := 28) d_En_fewestLiars_28 rfl 3 rfl ?_
    refine aw_icmp_ge (pc := 29) (tgt := 86) d_En_fewestLiars_29 (by decide) (fun c4 => ?_) (fun c4 => ?_)
    · refine aw_iload (pc := 86) d_En_fewestLiars_86 4 rfl ?_
      exact aw_ireturn (pc := 88) d_En_fewestLiars_88 rfl rfl
    · refine aw_iload (pc := 32) d_En_fewestLiars_32 5 rfl ?_
      refine aw_iload_n (pc := 34) d_En_fewestLiars_34 rfl 3 rfl ?_
      refine aw_iconst (pc := 35) (x := (-1)) d_En_fewestLiars_35 (by decide) ?_
      refine aw_ixor (pc := 36) d_En_fewestLiars_36 ?_
      refine aw_iand (pc := 37) d_En_fewestLiars_37 ?_
      refine aw_if_ne (pc := 38) (tgt := 55) d_En_fewestLiars_38 (by decide) (fun c5 => ?_) (fun c5 => ?_)
      · refine aw_iload (pc := 41) d_En_fewestLiars_41 5 rfl ?_
        refine aw_iload (pc := 43) d_En_fewestLiars_43 4 rfl ?_
        refine aw_cNpZ (pc := 45) (As := [.int l5, .int l4]) (st := []) (ok_LP_isFewer Y l5 l4 h) okS_LP_isFewer (List.mem_of_getElem? (i := 16) rfl) d_En_fewestLiars_45 rfl (Nat.le_of_ble_eq_true rfl) rfl (Nat.le_of_ble_eq_true rfl) (fun q6 hq6 hTq6 => ?_)
        refine aw_beq (pc := 48) (tgt := 55) d_En_fewestLiars_48 (by decide) (fun c7 => ?_) (fun c7 => ?_)
        · refine aw_iconst (pc := 51) (x := 1) d_En_fewestLiars_51 (by decide) ?_
          refine aw_goto (pc := 52) (tgt := 56) d_En_fewestLiars_52 (by decide) ?_
          exact aw_lv [0, 1, 2, 3, 4, 5] rfl (En_fewestLiars_J56_ok Y (En_fewestLiars_L26 Y l0 l1 l2 l3 F) l0 l1 l2 l3 l4 l5 true h ih tl0 tl1)
        · exact aw_lv [0, 1, 2, 3, 4, 5] rfl (En_fewestLiars_J55_ok Y (En_fewestLiars_L26 Y l0 l1 l2 l3 F) l0 l1 l2 l3 l4 l5 h ih tl0 tl1)
      · exact aw_lv [0, 1, 2, 3, 4, 5] rfl (En_fewestLiars_J55_ok Y (En_fewestLiars_L26 Y l0 l1 l2 l3 F) l0 l1 l2 l3 l4 l5 h ih tl0 tl1)
def En_fewestLiars (Y : Ly) (l0 : Nat) (l1 : Nat) (l2 : Int32) (h : Hp) : Option (Int32 × Hp) :=
  (Sh_speakersOf Y l1 l2 h).bind fun q1 =>
  (En_countOf Y l0 l1 l2 q1 h).bind fun q2 =>
  if q2.1 = 0 then
    some ((-1), q2.2)
  else
    En_fewestLiars_L26 Y l0 l1 l2 q1 FU q1 0 q2.2
theorem ok_En_fewestLiars (Y : Ly) (l0 : Nat) (l1 : Nat) (l2 : Int32) (h : Hp) (t0 : isO Y 0 l0) (t1 : isO Y 4 l1) : AM Y 4 K_En_fewestLiars [.ref l0, .ref l1, .int l2] h (En_fewestLiars Y l0 l1 l2 h) rI := by
  refine AM.of rfl (Nat.le_of_ble_eq_true rfl) ?_
  show AW Y 4 K_En_fewestLiars 0 [(0, .ref l0), (1, .ref l1), (2, .int l2)] [] h (En_fewestLiars Y l0 l1 l2 h) rI
  unfold En_fewestLiars
  refine aw_aload_n (pc := 0) d_En_fewestLiars_0 rfl 1 rfl ?_
  refine aw_iload_n (pc := 1) d_En_fewestLiars_1 rfl 2 rfl ?_
  refine aw_cVpI (pc := 2) (ci := 4) (T := TX4) (N := 19) (As := [.int l2]) (st := []) (ok_Sh_speakersOf Y l1 l2 h t1) okV_Sh_speakersOf rfl (by decide) t1 w6_59 d_En_fewestLiars_2 rfl (Nat.le_of_ble_eq_true rfl) rfl (Nat.le_of_ble_eq_true rfl) (fun q1 hq1 hTq1 => ?_)
  refine aw_istore_n (pc := 5) (lv' := [(3, .int q1), (0, .ref l0), (1, .ref l1), (2, .int l2)]) d_En_fewestLiars_5 rfl (by decide) rfl ?_
  refine aw_aload_n (pc := 6) d_En_fewestLiars_6 rfl 1 rfl ?_
  refine aw_aload_n (pc := 7) d_En_fewestLiars_7 rfl 2 rfl ?_
  refine aw_iload_n (pc := 8) d_En_fewestLiars_8 rfl 3 rfl ?_
  refine aw_iload_n (pc := 9) d_En_fewestLiars_9 rfl 0 rfl ?_
  refine aw_cVrL (pc := 10) (ci := 0) (T := TX0) (N := 8) (As := [.ref l1, .int l2, .int q1]) (st := []) (ok_En_countOf Y l0 l1 l2 q1 h t0 t1) okV_En_countOf rfl (by decide) t0 w6_64 d_En_fewestLiars_10 rfl (Nat.le_of_ble_eq_true rfl) rfl (Nat.le_of_ble_eq_true rfl) (fun q2 hq2 hTq2 => ?_)
  refine aw_lconst (pc := 13) (x := 0) d_En_fewestLiars_13 (by decide) ?_
  refine aw_lcmp_ne (pc := 14) (tgt := 20) d_En_fewestLiars_14 d_En_fewestLiars_15 (by decide) (fun c3 => ?_) (fun c3 => ?_)
  · refine aw_iconst (pc := 18) (x := (-1)) d_En_fewestLiars_18 (by decide) ?_
    exact aw_ireturn (pc := 19) d_En_fewestLiars_19 rfl rfl
  · refine aw_iload_n (pc := 20) d_En_fewestLiars_20 rfl 0 rfl ?_
    refine aw_istore (pc := 21) (lv' := [(4, .int q1), (3, .int q1), (0, .ref l0), (1, .ref l1), (2, .int l2)]) d_En_fewestLiars_21 (by decide) rfl ?_
    refine aw_iconst (pc := 23) (x := 0) d_En_fewestLiars_23 (by decide) ?_
    refine aw_istore (pc := 24) (lv' := [(5, .int 0), (4, .int q1), (3, .int q1), (0, .ref l0), (1, .ref l1), (2, .int l2)]) d_En_fewestLiars_24 (by decide) rfl ?_
    exact aw_lv [3, 4, 5, 2, 1, 0] rfl (En_fewestLiars_L26_ok Y l0 l1 l2 q1 t0 t1 FU q1 0 q2.2)
/-! LastPages$Story.hasTurn(I)Z -/
theorem d_St_hasTurn_0 : decode prog_8_method_5_code 0 = .ok (.iload_n 1, 1) := by decide +kernel
theorem d_St_hasTurn_1 : decode prog_8_method_5_code 1 = .ok (.ifCond .lt 15, 3) := by decide +kernel
theorem d_St_hasTurn_4 : decode prog_8_method_5_code 4 = .ok (.iload_n 1, 1) := by decide +kernel
theorem d_St_hasTurn_5 : decode prog_8_method_5_code 5 = .ok (.aload_n 0, 1) := by decide +kernel
theorem d_St_hasTurn_6 : decode prog_8_method_5_code 6 = .ok (.getfield 28, 3) := by decide +kernel
theorem d_St_hasTurn_9 : decode prog_8_method_5_code 9 = .ok (.if_icmp .ge 7, 3) := by decide +kernel
theorem d_St_hasTurn_12 : decode prog_8_method_5_code 12 = .ok (.iconst 1, 1) := by decide +kernel
theorem d_St_hasTurn_13 : decode prog_8_method_5_code 13 = .ok (.goto 4, 3) := by decide +kernel
theorem d_St_hasTurn_16 : decode prog_8_method_5_code 16 = .ok (.iconst 0, 1) := by decide +kernel
theorem d_St_hasTurn_17 : decode prog_8_method_5_code 17 = .ok (.ireturn, 1) := by decide +kernel
def St_hasTurn (Y : Ly) (l0 : Nat) (l1 : Int32) (h : Hp) : Option Bool :=
  if l1 < 0 then
    some false
  else
    if (hGi h 605 l0) ≤ l1 then
      some false
    else
      some true
theorem ok_St_hasTurn (Y : Ly) (l0 : Nat) (l1 : Int32) (h : Hp) (t0 : isO Y 6 l0) : AM Y 0 K_St_hasTurn [.ref l0, .int l1] h (St_hasTurn Y l0 l1 h) (pZ h) := by
  refine AM.of rfl (Nat.le_of_ble_eq_true rfl) ?_
  show AW Y 0 K_St_hasTurn 0 [(0, .ref l0), (1, .int l1)] [] h (St_hasTurn Y l0 l1 h) (pZ h)
  unfold St_hasTurn
  refine aw_iload_n (pc := 0) d_St_hasTurn_0 rfl 1 rfl ?_
  refine aw_if_lt (pc := 1) (tgt := 16) d_St_hasTurn_1 (by decide) (fun c1 => ?_) (fun c1 => ?_)
  · refine aw_iconst (pc := 16) (x := 0) d_St_hasTurn_16 (by decide) ?_
    exact aw_zreturn (pc := 17) (b := false) d_St_hasTurn_17 rfl rfl
  · refine aw_iload_n (pc := 4) d_St_hasTurn_4 rfl 1 rfl ?_
    refine aw_aload_n (pc := 5) d_St_hasTurn_5 rfl 0 rfl ?_
    refine gt_605 (pc := 6) d_St_hasTurn_6 w1_190 t0 ?_
    refine aw_icmp_ge (pc := 9) (tgt := 16) d_St_hasTurn_9 (by decide) (fun c2 => ?_) (fun c2 => ?_)
    · refine aw_iconst (pc := 16) (x := 0) d_St_hasTurn_16 (by decide) ?_
      exact aw_zreturn (pc := 17) (b := false) d_St_hasTurn_17 rfl rfl
    · refine aw_iconst (pc := 12) (x := 1) d_St_hasTurn_12 (by decide) ?_
      refine aw_goto (pc := 13) (tgt := 17) d_St_hasTurn_13 (by decide) ?_
      exact aw_zreturn (pc := 17) (b := true) d_St_hasTurn_17 rfl rfl
/-! LastPages$Story.oddOf(I)I -/
theorem d_St_oddOf_0 : decode prog_8_method_14_code 0 = .ok (.aload_n 0, 1) := by decide +kernel
theorem d_St_oddOf_1 : decode prog_8_method_14_code 1 = .ok (.iload_n 1, 1) := by decide +kernel
theorem d_St_oddOf_2 : decode prog_8_method_14_code 2 = .ok (.invokevirtual 53, 3) := by decide +kernel
theorem d_St_oddOf_5 : decode prog_8_method_14_code 5 = .ok (.ifCond .eq 12, 3) := by decide +kernel
theorem d_St_oddOf_8 : decode prog_8_method_14_code 8 = .ok (.aload_n 0, 1) := by decide +kernel
theorem d_St_oddOf_9 : decode prog_8_method_14_code 9 = .ok (.getfield 9, 3) := by decide +kernel
theorem d_St_oddOf_12 : decode prog_8_method_14_code 12 = .ok (.iload_n 1, 1) := by decide +kernel
theorem d_St_oddOf_13 : decode prog_8_method_14_code 13 = .ok (.iaload, 1) := by decide +kernel
theorem d_St_oddOf_14 : decode prog_8_method_14_code 14 = .ok (.goto 4, 3) := by decide +kernel
theorem d_St_oddOf_17 : decode prog_8_method_14_code 17 = .ok (.iconst 0, 1) := by decide +kernel
theorem d_St_oddOf_18 : decode prog_8_method_14_code 18 = .ok (.ireturn, 1) := by decide +kernel
def St_oddOf (Y : Ly) (l0 : Nat) (l1 : Int32) (h : Hp) : Option Int32 :=
  (St_hasTurn Y l0 l1 h).bind fun q1 =>
  if q1 = true then
    if inB l1 (lnY Y (hGr h 600 l0)) = true then
      some (hAi h (hGr h 600 l0) (Int32.toNatClampNeg l1))
    else none
  else
    some 0
theorem ok_St_oddOf (Y : Ly) (l0 : Nat) (l1 : Int32) (h : Hp) (t0 : isO Y 6 l0) : AM Y 1 K_St_oddOf [.ref l0, .int l1] h (St_oddOf Y l0 l1 h) (pI h) := by
  refine AM.of rfl (Nat.le_of_ble_eq_true rfl) ?_
  show AW Y 1 K_St_oddOf 0 [(0, .ref l0), (1, .int l1)] [] h (St_oddOf Y l0 l1 h) (pI h)
  unfold St_oddOf
  refine aw_aload_n (pc := 0) d_St_oddOf_0 rfl 0 rfl ?_
  refine aw_iload_n (pc := 1) d_St_oddOf_1 rfl 1 rfl ?_
  refine aw_cVpZ (pc := 2) (ci := 6) (T := TX6) (N := 8) (As := [.int l1]) (st := []) (ok_St_hasTurn Y l0 l1 h t0) okV_St_hasTurn rfl (by decide) t0 w4_23 d_St_oddOf_2 rfl (Nat.le_of_ble_eq_true rfl) rfl (Nat.le_of_ble_eq_true rfl) (fun q1 hq1 hTq1 => ?_)
  refine aw_beq (pc := 5) (tgt := 17) d_St_oddOf_5 (by decide) (fun c2 => ?_) (fun c2 => ?_)
  · refine aw_aload_n (pc := 8) d_St_oddOf_8 rfl 0 rfl ?_
    refine gt_600 (pc := 9) d_St_oddOf_9 w1_179 t0 (fun tt3 => ?_)
    refine aw_iload_n (pc := 12) d_St_oddOf_12 rfl 1 rfl ?_
    refine aw_iaload (pc := 13) d_St_oddOf_13 tt3 (fun c4 => ?_)
    refine aw_goto (pc := 14) (tgt := 18) d_St_oddOf_14 (by decide) ?_
    exact aw_ireturn (pc := 18) d_St_oddOf_18 rfl rfl
  · refine aw_iconst (pc := 17) (x := 0) d_St_oddOf_17 (by decide) ?_
    exact aw_ireturn (pc := 18) d_St_oddOf_18 rfl rfl
/-! LastPages$Endings.leastOver(II)I -/
theorem d_En_leastOver_0 : decode prog_2_method_12_code 0 = .ok (.iconst (-1), 1) := by decide +kernel
theorem d_En_leastOver_1 : decode prog_2_method_12_code 1 = .ok (.istore_n 3, 1) := by decide +kernel
theorem d_En_leastOver_2 : decode prog_2_method_12_code 2 = .ok (.iconst (-1), 1) := by decide +kernel
theorem d_En_leastOver_3 : decode prog_2_method_12_code 3 = .ok (.istore 4, 2) := by decide +kernel
theorem d_En_leastOver_5 : decode prog_2_method_12_code 5 = .ok (.iconst 0, 1) := by decide +kernel
theorem d_En_leastOver_6 : decode prog_2_method_12_code 6 = .ok (.istore 5, 2) := by decide +kernel
theorem d_En_leastOver_8 : decode prog_2_method_12_code 8 = .ok (.iload 5, 2) := by decide +kernel
theorem d_En_leastOver_10 : decode prog_2_method_12_code 10 = .ok (.aload_n 0, 1) := by decide +kernel
theorem d_En_leastOver_11 : decode prog_2_method_12_code 11 = .ok (.getfield 31, 3) := by decide +kernel
theorem d_En_leastOver_14 : decode prog_2_method_12_code 14 = .ok (.getfield 61, 3) := by decide +kernel
theorem d_En_leastOver_17 : decode prog_2_method_12_code 17 = .ok (.if_icmp .ge 90, 3) := by decide +kernel
theorem d_En_leastOver_20 : decode prog_2_method_12_code 20 = .ok (.aload_n 0, 1) := by decide +kernel
theorem d_En_leastOver_21 : decode prog_2_method_12_code 21 = .ok (.iload_n 1, 1) := by decide +kernel
theorem d_En_leastOver_22 : decode prog_2_method_12_code 22 = .ok (.iload_n 2, 1) := by decide +kernel
theorem d_En_leastOver_23 : decode prog_2_method_12_code 23 = .ok (.iload 5, 2) := by decide +kernel
theorem d_En_leastOver_25 : decode prog_2_method_12_code 25 = .ok (.invokevirtual 100, 3) := by decide +kernel
theorem d_En_leastOver_28 : decode prog_2_method_12_code 28 = .ok (.istore 6, 2) := by decide +kernel
theorem d_En_leastOver_30 : decode prog_2_method_12_code 30 = .ok (.iload 6, 2) := by decide +kernel
theorem d_En_leastOver_32 : decode prog_2_method_12_code 32 = .ok (.iconst (-1), 1) := by decide +kernel
theorem d_En_leastOver_33 : decode prog_2_method_12_code 33 = .ok (.if_icmp .ne 7, 3) := by decide +kernel
theorem d_En_leastOver_36 : decode prog_2_method_12_code 36 = .ok (.iconst (-1), 1) := by decide +kernel
theorem d_En_leastOver_37 : decode prog_2_method_12_code 37 = .ok (.goto 17, 3) := by decide +kernel
theorem d_En_leastOver_40 : decode prog_2_method_12_code 40 = .ok (.aload_n 0, 1) := by decide +kernel
theorem d_En_leastOver_41 : decode prog_2_method_12_code 41 = .ok (.getfield 25, 3) := by decide +kernel
theorem d_En_leastOver_44 : decode prog_2_method_12_code 44 = .ok (.iload_n 1, 1) := by decide +kernel
theorem d_En_leastOver_45 : decode prog_2_method_12_code 45 = .ok (.iconst 1, 1) := by decide +kernel
theorem d_En_leastOver_46 : decode prog_2_method_12_code 46 = .ok (.iadd, 1) := by decide +kernel
theorem d_En_leastOver_47 : decode prog_2_method_12_code 47 = .ok (.bipush 8, 2) := by decide +kernel
theorem d_En_leastOver_49 : decode prog_2_method_12_code 49 = .ok (.imul, 1) := by decide +kernel
theorem d_En_leastOver_50 : decode prog_2_method_12_code 50 = .ok (.iload 6, 2) := by decide +kernel
theorem d_En_leastOver_52 : decode prog_2_method_12_code 52 = .ok (.iadd, 1) := by decide +kernel
theorem d_En_leastOver_53 : decode prog_2_method_12_code 53 = .ok (.iaload, 1) := by decide +kernel
theorem d_En_leastOver_54 : decode prog_2_method_12_code 54 = .ok (.istore 7, 2) := by decide +kernel
theorem d_En_leastOver_56 : decode prog_2_method_12_code 56 = .ok (.iload 7, 2) := by decide +kernel
theorem d_En_leastOver_58 : decode prog_2_method_12_code 58 = .ok (.iconst (-1), 1) := by decide +kernel
theorem d_En_leastOver_59 : decode prog_2_method_12_code 59 = .ok (.if_icmp .eq 42, 3) := by decide +kernel
theorem d_En_leastOver_62 : decode prog_2_method_12_code 62 = .ok (.iload_n 3, 1) := by decide +kernel
theorem d_En_leastOver_63 : decode prog_2_method_12_code 63 = .ok (.iconst (-1), 1) := by decide +kernel
theorem d_En_leastOver_64 : decode prog_2_method_12_code 64 = .ok (.if_icmp .eq 20, 3) := by decide +kernel
theorem d_En_leastOver_67 : decode prog_2_method_12_code 67 = .ok (.iload 7, 2) := by decide +kernel
theorem d_En_leastOver_69 : decode prog_2_method_12_code 69 = .ok (.aload_n 0, 1) := by decide +kernel
theorem d_En_leastOver_70 : decode prog_2_method_12_code 70 = .ok (.getfield 31, 3) := by decide +kernel
theorem d_En_leastOver_73 : decode prog_2_method_12_code 73 = .ok (.iload 5, 2) := by decide +kernel
theorem d_En_leastOver_75 : decode prog_2_method_12_code 75 = .ok (.invokevirtual 124, 3) := by decide +kernel
theorem d_En_leastOver_78 : decode prog_2_method_12_code 78 = .ok (.iadd, 1) := by decide +kernel
theorem d_En_leastOver_79 : decode prog_2_method_12_code 79 = .ok (.iload 4, 2) := by decide +kernel
theorem d_En_leastOver_81 : decode prog_2_method_12_code 81 = .ok (.if_icmp .ge 20, 3) := by decide +kernel
theorem d_En_leastOver_84 : decode prog_2_method_12_code 84 = .ok (.iload 5, 2) := by decide +kernel
theorem d_En_leastOver_86 : decode prog_2_method_12_code 86 = .ok (.istore_n 3, 1) := by decide +kernel
theorem d_En_leastOver_87 : decode prog_2_method_12_code 87 = .ok (.iload 7, 2) := by decide +kernel
theorem d_En_leastOver_89 : decode prog_2_method_12_code 89 = .ok (.aload_n 0, 1) := by decide +kernel
theorem d_En_leastOver_90 : decode prog_2_method_12_code 90 = .ok (.getfield 31, 3) := by decide +kernel
theorem d_En_leastOver_93 : decode prog_2_method_12_code 93 = .ok (.iload 5, 2) := by decide +kernel
theorem d_En_leastOver_95 : decode prog_2_method_12_code 95 = .ok (.invokevirtual 124, 3) := by decide +kernel
theorem d_En_leastOver_98 : decode prog_2_method_12_code 98 = .ok (.iadd, 1) := by decide +kernel
theorem d_En_leastOver_99 : decode prog_2_method_12_code 99 = .ok (.istore 4, 2) := by decide +kernel
theorem d_En_leastOver_101 : decode prog_2_method_12_code 101 = .ok (.iinc 5 1, 3) := by decide +kernel
theorem d_En_leastOver_104 : decode prog_2_method_12_code 104 = .ok (.goto (-96), 3) := by decide +kernel
theorem d_En_leastOver_107 : decode prog_2_method_12_code 107 = .ok (.iload_n 2, 1) := by decide +kernel
theorem d_En_leastOver_108 : decode prog_2_method_12_code 108 = .ok (.ifCond .lt 22, 3) := by decide +kernel
theorem d_En_leastOver_111 : decode prog_2_method_12_code 111 = .ok (.iload_n 2, 1) := by decide +kernel
theorem d_En_leastOver_112 : decode prog_2_method_12_code 112 = .ok (.bipush 8, 2) := by decide +kernel
theorem d_En_leastOver_114 : decode prog_2_method_12_code 114 = .ok (.if_icmp .ge 16, 3) := by decide +kernel
theorem d_En_leastOver_117 : decode prog_2_method_12_code 117 = .ok (.aload_n 0, 1) := by decide +kernel
theorem d_En_leastOver_118 : decode prog_2_method_12_code 118 = .ok (.getfield 25, 3) := by decide +kernel
theorem d_En_leastOver_121 : decode prog_2_method_12_code 121 = .ok (.iload_n 1, 1) := by decide +kernel
theorem d_En_leastOver_122 : decode prog_2_method_12_code 122 = .ok (.bipush 8, 2) := by decide +kernel
theorem d_En_leastOver_124 : decode prog_2_method_12_code 124 = .ok (.imul, 1) := by decide +kernel
theorem d_En_leastOver_125 : decode prog_2_method_12_code 125 = .ok (.iload_n 2, 1) := by decide +kernel
theorem d_En_leastOver_126 : decode prog_2_method_12_code 126 = .ok (.iadd, 1) := by decide +kernel
theorem d_En_leastOver_127 : decode prog_2_method_12_code 127 = .ok (.iload 4, 2) := by decide +kernel
theorem d_En_leastOver_129 : decode prog_2_method_12_code 129 = .ok (.iastore, 1) := by decide +kernel
theorem d_En_leastOver_130 : decode prog_2_method_12_code 130 = .ok (.iload_n 3, 1) := by decide +kernel
theorem d_En_leastOver_131 : decode prog_2_method_12_code 131 = .ok (.ireturn, 1) := by decide +kernel
def En_leastOver_J84 (Y : Ly) (k8 : Int32 → Int32 → Int32 → Option (Int32 × Hp)) (l0 : Nat) (l1 : Int32) (l2 : Int32) (l5 : Int32) (l7 : Int32) (h : Hp) : Option (Int32 × Hp) :=
  (St_oddOf Y (hGr h 5 l0) l5 h).bind fun q13 =>
  k8 l5 (l7 + q13) (l5 + 1)
theorem En_leastOver_J84_ok (Y : Ly) (k8 : Int32 → Int32 → Int32 → Option (Int32 × Hp)) (l0 : Nat) (l1 : Int32) (l2 : Int32) (l5 : Int32) (l7 : Int32) (h : Hp) (hk8 : ∀ (l3_ : Int32) (l4_ : Int32) (l5_ : Int32), AW Y 2 K_En_leastOver 8 [(0, .ref l0), (1, .int l1), (2, .int l2), (3, .int l3_), (4, .int l4_), (5, .int l5_)] [] h (k8 l3_ l4_ l5_) rI) (tl0 : isO Y 0 l0) : AW Y 2 K_En_leastOver 84 [(0, .ref l0), (1, .int l1), (2, .int l2), (5, .int l5), (7, .int l7)] [] h (En_leastOver_J84 Y k8 l0 l1 l2 l5 l7 h) rI := by
  unfold En_leastOver_J84
  refine aw_iload (pc := 84) d_En_leastOver_84 3 rfl ?_
  refine aw_istore_n (pc := 86) (lv' := [(3, .int l5), (0, .ref l0), (1, .int l1), (2, .int l2), (5, .int l5), (7, .int l7)]) d_En_leastOver_86 rfl (by decide) rfl ?_
  refine aw_iload (pc := 87) d_En_leastOver_87 5 rfl ?_
  refine aw_aload_n (pc := 89) d_En_leastOver_89 rfl 1 rfl ?_
  refine gt_5 (pc := 90) d_En_leastOver_90 w1_223 tl0 (fun tt12 => ?_)
  refine aw_iload (pc := 93) d_En_leastOver_93 4 rfl ?_
  refine aw_cVpI (pc := 95) (ci := 6) (T := TX6) (N := 8) (As := [.int l5]) (st := [.int l7]) (ok_St_oddOf Y (hGr h 5 l0) l5 h tt12) okV_St_oddOf rfl (by decide) tt12 w5_122 d_En_leastOver_95 rfl (Nat.le_of_ble_eq_true rfl) rfl (Nat.le_of_ble_eq_true rfl) (fun q13 hq13 hTq13 => ?_)
  refine aw_iadd (pc := 98) d_En_leastOver_98 ?_
  refine aw_istore (pc := 99) (lv' := [(4, .int (l7 + q13)), (3, .int l5), (0, .ref l0), (1, .int l1), (2, .int l2), (5, .int l5), (7, .int l7)]) d_En_leastOver_99 (by decide) rfl ?_
  refine aw_iinc (pc := 101) (w := l5 + 1) (lv' := [(5, .int (l5 + 1)), (4, .int (l7 + q13)), (3, .int l5), (0, .ref l0), (1, .int l1), (2, .int l2), (7, .int l7)]) d_En_leastOver_101 5 rfl rfl (by decide) rfl ?_
  refine aw_goto (pc := 104) (tgt := 8) d_En_leastOver_104 (by decide) ?_
  exact aw_lv [3, 4, 5, 2, 1, 0] rfl (hk8 l5 (l7 + q13) (l5 + 1))
def En_leastOver_J54 (Y : Ly) (k8 : Int32 → Int32 → Int32 → Option (Int32 × Hp)) (l0 : Nat) (l1 : Int32) (l2 : Int32) (l3 : Int32) (l4 : Int32) (l5 : Int32) (s0 : Int32) (h : Hp) : Option (Int32 × Hp) :=
  if s0 = (-1) then
    k8 l3 l4 (l5 + 1)
  else
    if l3 = (-1) then
      En_leastOver_J84 Y k8 l0 l1 l2 l5 s0 h
    else
      (St_oddOf Y (hGr h 5 l0) l5 h).bind fun q15 =>
      if l4 ≤ (s0 + q15) then
        k8 l3 l4 (l5 + 1)
      else
        En_leastOver_J84 Y k8 l0 l1 l2 l5 s0 h
theorem En_leastOver_J54_ok (Y : Ly) (k8 : Int32 → Int32 → Int32 → Option (Int32 × Hp)) (l0 : Nat) (l1 : Int32) (l2 : Int32) (l3 : Int32) (l4 : Int32) (l5 : Int32) (s0 : Int32) (h : Hp) (hk8 : ∀ (l3_ : Int32) (l4_ : Int32) (l5_ : Int32), AW Y 2 K_En_leastOver 8 [(0, .ref l0), (1, .int l1), (2, .int l2), (3, .int l3_), (4, .int l4_), (5, .int l5_)] [] h (k8 l3_ l4_ l5_) rI) (tl0 : isO Y 0 l0) : AW Y 2 K_En_leastOver 54 [(0, .ref l0), (1, .int l1), (2, .int l2), (3, .int l3), (4, .int l4), (5, .int l5)] [.int s0] h (En_leastOver_J54 Y k8 l0 l1 l2 l3 l4 l5 s0 h) rI := by
  unfold En_leastOver_J54
  refine aw_istore (pc := 54) (lv' := [(7, .int s0), (0, .ref l0), (1, .int l1), (2, .int l2), (3, .int l3), (4, .int l4), (5, .int l5)]) d_En_leastOver_54 (by decide) rfl ?_
  refine aw_iload (pc := 56) d_En_leastOver_56 0 rfl ?_
  refine aw_iconst (pc := 58) (x := (-1)) d_En_leastOver_58 (by decide) ?_
  refine aw_icmp_eq (pc := 59) (tgt := 101) d_En_leastOver_59 (by decide) (fun c10 => ?_) (fun c10 => ?_)
  · refine aw_iinc (pc := 101) (w := l5 + 1) (lv' := [(5, .int (l5 + 1)), (7, .int s0), (0, .ref l0), (1, .int l1), (2, .int l2), (3, .int l3), (4, .int l4)]) d_En_leastOver_101 6 rfl rfl (by decide) rfl ?_
    refine aw_goto (pc := 104) (tgt := 8) d_En_leastOver_104 (by decide) ?_
    exact aw_lv [2, 3, 4, 5, 6, 0] rfl (hk8 l3 l4 (l5 + 1))
  · refine aw_iload_n (pc := 62) d_En_leastOver_62 rfl 4 rfl ?_
    refine aw_iconst (pc := 63) (x := (-1)) d_En_leastOver_63 (by decide) ?_
    refine aw_icmp_eq (pc := 64) (tgt := 84) d_En_leastOver_64 (by decide) (fun c11 => ?_) (fun c11 => ?_)
    · exact aw_lv [1, 2, 3, 6, 0] rfl (En_leastOver_J84_ok Y k8 l0 l1 l2 l5 s0 h hk8 tl0)
    · refine aw_iload (pc := 67) d_En_leastOver_67 0 rfl ?_
      refine aw_aload_n (pc := 69) d_En_leastOver_69 rfl 1 rfl ?_
      refine gt_5 (pc := 70) d_En_leastOver_70 w1_223 tl0 (fun tt14 => ?_)
      refine aw_iload (pc := 73) d_En_leastOver_73 6 rfl ?_
      refine aw_cVpI (pc := 75) (ci := 6) (T := TX6) (N := 8) (As := [.int l5]) (st := [.int s0]) (ok_St_oddOf Y (hGr h 5 l0) l5 h tt14) okV_St_oddOf rfl (by decide) tt14 w5_122 d_En_leastOver_75 rfl (Nat.le_of_ble_eq_true rfl) rfl (Nat.le_of_ble_eq_true rfl) (fun q15 hq15 hTq15 => ?_)
      refine aw_iadd (pc := 78) d_En_leastOver_78 ?_
      refine aw_iload (pc := 79) d_En_leastOver_79 5 rfl ?_
      refine aw_icmp_ge (pc := 81) (tgt := 101) d_En_leastOver_81 (by decide) (fun c16 => ?_) (fun c16 => ?_)
      · refine aw_iinc (pc := 101) (w := l5 + 1) (lv' := [(5, .int (l5 + 1)), (7, .int s0), (0, .ref l0), (1, .int l1), (2, .int l2), (3, .int l3), (4, .int l4)]) d_En_leastOver_101 6 rfl rfl (by decide) rfl ?_
        refine aw_goto (pc := 104) (tgt := 8) d_En_leastOver_104 (by decide) ?_
        exact aw_lv [2, 3, 4, 5, 6, 0] rfl (hk8 l3 l4 (l5 + 1))
      · exact aw_lv [1, 2, 3, 6, 0] rfl (En_leastOver_J84_ok Y k8 l0 l1 l2 l5 s0 h hk8 tl0)
def En_leastOver_L8 (Y : Ly) (l0 : Nat) (l1 : Int32) (l2 : Int32) (h : Hp) : Nat → Int32 → Int32 → Int32 → Option (Int32 × Hp)
  | 0, _, _, _ => none
  | F + 1, l3, l4, l5 =>
    if (hGi h 605 (hGr h 5 l0)) ≤ l5 then
      if l2 < 0 then
        some (l3, h)
      else
        if 8 ≤ l2 then
          some (l3, h)
        else
          if inB ((l1 * 8) + l2) (lnY Y (hGr h 4 l0)) = true then
            letH (hTi h (hGr h 4 l0) (Int32.toNatClampNeg ((l1 * 8) + l2)) l4) fun h7 =>
            some (l3, h7)
          else none
    else
      (En_stepTo Y l0 l1 l2 l5 h).bind fun q8 =>
      if q8 = (-1) then
        En_leastOver_J54 Y (En_leastOver_L8 Y l0 l1 l2 h F) l0 l1 l2 l3 l4 l5 (-1) h
      else
        if inB (((l1 + 1) * 8) + q8) (lnY Y (hGr h 4 l0)) = true then
          En_leastOver_J54 Y (En_leastOver_L8 Y l0 l1 l2 h F) l0 l1 l2 l3 l4 l5 (hAi h (hGr h 4 l0) (Int32.toNatClampNeg (((l1 + 1) * 8) + q8))) h
        else none
theorem En_leastOver_L8_ok (Y : Ly) (l0 : Nat) (l1 : Int32) (l2 : Int32) (h : Hp) (tl0 : isO Y 0 l0) : ∀ (F : Nat) (l3 : Int32) (l4 : Int32) (l5 : Int32), AW Y 2 K_En_leastOver 8 [(0, .ref l0), (1, .int l1), (2, .int l2), (3, .int l3), (4, .int l4), (5, .int l5)] [] h (En_leastOver_L8 Y l0 l1 l2 h F l3 l4 l5) rI := by
  intro F
  induction F with
  | zero =>
    intro l3 l4 l5
    exact aw_none
  | succ F ih =>
    intro l3 l4 l5
    unfold En_leastOver_L8
    refine aw_iload (pc := 8) d_En_leastOver_8 5 rfl ?_
    refine aw_aload_n (pc := 10) d_En_leastOver_10 rfl 0 rfl ?_
    refine gt_5 (pc := 11) d_En_leastOver_11 w1_223 tl0 (fun tt1 => ?_)
    refine gt_605 (pc := 14) d_En_leastOver_14 w1_191 tt1 ?_
    refine aw_icmp_ge (pc := 17) (tgt := 107) d_En_leastOver_17 (by decide) (fun c2 => ?_) (fun c2 => ?_)
    · refine aw_iload_n (pc := 107) d_En_leastOver_107 rfl 2 rfl ?_
      refine aw_if_lt (pc := 108) (tgt := 130) d_En_leastOver_108 (by decide) (fun c3 => ?_) (fun c3 => ?_)
      · refine aw_iload_n (pc := 130) d_En_leastOver_130 rfl 3 rfl ?_
        exact aw_ireturn (pc := 131) d_En_leastOver_131 rfl rfl
      · refine aw_iload_n (pc := 111) d_En_leastOver_111 rfl 2 rfl ?_
        refine aw_bipush (pc := 112) (x := 8) d_En_leastOver_112 (by decide) ?_
        refine aw_icmp_ge (pc := 114) (tgt := 130) d_En_leastOver_114 (by decide) (fun c4 => ?_) (fun c4 => ?_)
        · refine aw_iload_n (pc := 130) d_En_leastOver_130 rfl 3 rfl ?_
          exact aw_ireturn (pc := 131) d_En_leastOver_131 rfl rfl
        · refine aw_aload_n (pc := 117) d_En_leastOver_117 rfl 0 rfl ?_
          refine gt_4 (pc := 118) d_En_leastOver_118 w1_222 tl0 (fun tt5 => ?_)
          refine aw_iload_n (pc := 121) d_En_leastOver_121 rfl 1 rfl ?_
          refine aw_bipush (pc := 122) (x := 8) d_En_leastOver_122 (by decide) ?_
          refine aw_imul (pc := 124) d_En_leastOver_124 ?_
          refine aw_iload_n (pc := 125) d_En_leastOver_125 rfl 2 rfl ?_
          refine aw_iadd (pc := 126) d_En_leastOver_126 ?_
          refine aw_iload (pc := 127) d_En_leastOver_127 4 rfl ?_
          refine aw_iastore (pc := 129) d_En_leastOver_129 tt5 (fun c6 => ?_)
          refine aw_letH (fun h7 => ?_)
          refine aw_iload_n (pc := 130) d_En_leastOver_130 rfl 3 rfl ?_
          exact aw_ireturn (pc := 131) d_En_leastOver_131 rfl rfl
    · refine aw_aload_n (pc := 20) d_En_leastOver_20 rfl 0 rfl ?_
      refine aw_iload_n (pc := 21) d_En_leastOver_21 rfl 1 rfl ?_
      refine aw_iload_n (pc := 22) d_En_leastOver_22 rfl 2 rfl ?_
      refine aw_iload (pc := 23) d_En_leastOver_23 5 rfl ?_
      refine aw_cVpI (pc := 25) (ci := 0) (T := TX0) (N := 8) (As := [.int l1, .int l2, .int l5]) (st := []) (ok_En_stepTo Y l0 l1 l2 l5 h tl0) okV_En_stepTo rfl (by decide) tl0 w5_48 d_En_leastOver_25 rfl (Nat.le_of_ble_eq_true rfl) rfl (Nat.le_of_ble_eq_true rfl) (fun q8 hq8 hTq8 => ?_)
      refine aw_istore (pc := 28) (lv' := [(6, .int q8), (0, .ref l0), (1, .int l1), (2, .int l2), (3, .int l3), (4, .int l4), (5, .int l5)]) d_En_leastOver_28 (by decide) rfl ?_
      refine aw_iload (pc := 30) d_En_leastOver_30 0 rfl ?_
      refine aw_iconst (pc := 32) (x := (-1)) d_En_leastOver_32 (by decide) ?_
      refine aw_icmp_ne (pc := 33) (tgt := 40) d_En_leastOver_33 (by decide) (fun c9 => ?_) (fun c9 => ?_)
      · refine aw_iconst (pc := 36) (x := (-1)) d_En_leastOver_36 (by decide) ?_
        refine aw_goto (pc := 37) (tgt := 54) d_En_leastOver_37 (by decide) ?_
        exact aw_lv [1, 2, 3, 4, 5, 6] rfl (En_leastOver_J54_ok Y (En_leastOver_L8 Y l0 l1 l2 h F) l0 l1 l2 l3 l4 l5 (-1) h ih tl0)
      · refine aw_aload_n (pc := 40) d_En_leastOver_40 rfl 1 rfl ?_
        refine gt_4 (pc := 41) d_En_leastOver_41 w1_222 tl0 (fun tt17 => ?_)
        refine aw_iload_n (pc := 44) d_En_leastOver_44 rfl 2 rfl ?_
        refine aw_iconst (pc := 45) (x := 1) d_En_leastOver_45 (by decide) ?_
        refine aw_iadd (pc := 46) d_En_leastOver_46 ?_
        refine aw_bipush (pc := 47) (x := 8) d_En_leastOver_47 (by decide) ?_
        refine aw_imul (pc := 49) d_En_leastOver_49 ?_
        refine aw_iload (pc := 50) d_En_leastOver_50 0 rfl ?_
        refine aw_iadd (pc := 52) d_En_leastOver_52 ?_
        refine aw_iaload (pc := 53) d_En_leastOver_53 tt17 (fun c18 => ?_)
        exact aw_lv [1, 2, 3, 4, 5, 6] rfl (En_leastOver_J54_ok Y (En_leastOver_L8 Y l0 l1 l2 h F) l0 l1 l2 l3 l4 l5 (hAi h (hGr h 4 l0) (Int32.toNatClampNeg (((l1 + 1) * 8) + q8))) h ih tl0)
def En_leastOver (Y : Ly) (l0 : Nat) (l1 : Int32) (l2 : Int32) (h : Hp) : Option (Int32 × Hp) :=
  En_leastOver_L8 Y l0 l1 l2 h FU (-1) (-1) 0
theorem ok_En_leastOver (Y : Ly) (l0 : Nat) (l1 : Int32) (l2 : Int32) (h : Hp) (t0 : isO Y 0 l0) : AM Y 2 K_En_leastOver [.ref l0, .int l1, .int l2] h (En_leastOver Y l0 l1 l2 h) rI := by
  refine AM.of rfl (Nat.le_of_ble_eq_true rfl) ?_
  show AW Y 2 K_En_leastOver 0 [(0, .ref l0), (1, .int l1), (2, .int l2)] [] h (En_leastOver Y l0 l1 l2 h) rI
  unfold En_leastOver
  refine aw_iconst (pc := 0) (x := (-1)) d_En_leastOver_0 (by decide) ?_
  refine aw_istore_n (pc := 1) (lv' := [(3, .int (-1)), (0, .ref l0), (1, .int l1), (2, .int l2)]) d_En_leastOver_1 rfl (by decide) rfl ?_
  refine aw_iconst (pc := 2) (x := (-1)) d_En_leastOver_2 (by decide) ?_
  refine aw_istore (pc := 3) (lv' := [(4, .int (-1)), (3, .int (-1)), (0, .ref l0), (1, .int l1), (2, .int l2)]) d_En_leastOver_3 (by decide) rfl ?_
  refine aw_iconst (pc := 5) (x := 0) d_En_leastOver_5 (by decide) ?_
  refine aw_istore (pc := 6) (lv' := [(5, .int 0), (4, .int (-1)), (3, .int (-1)), (0, .ref l0), (1, .int l1), (2, .int l2)]) d_En_leastOver_6 (by decide) rfl ?_
  exact aw_lv [3, 4, 5, 2, 1, 0] rfl (En_leastOver_L8_ok Y l0 l1 l2 h t0 FU (-1) (-1) 0)
