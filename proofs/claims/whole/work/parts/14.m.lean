/-! LastPages$Story.setRule(III)V -/
theorem d_St_setRule_0 : decode prog_8_method_10_code 0 = .ok (.aload_n 0, 1) := by decide +kernel
theorem d_St_setRule_1 : decode prog_8_method_10_code 1 = .ok (.iload_n 1, 1) := by decide +kernel
theorem d_St_setRule_2 : decode prog_8_method_10_code 2 = .ok (.invokevirtual 49, 3) := by decide +kernel
theorem d_St_setRule_5 : decode prog_8_method_10_code 5 = .ok (.ifCond .eq 36, 3) := by decide +kernel
theorem d_St_setRule_8 : decode prog_8_method_10_code 8 = .ok (.aload_n 0, 1) := by decide +kernel
theorem d_St_setRule_9 : decode prog_8_method_10_code 9 = .ok (.iload_n 2, 1) := by decide +kernel
theorem d_St_setRule_10 : decode prog_8_method_10_code 10 = .ok (.invokevirtual 53, 3) := by decide +kernel
theorem d_St_setRule_13 : decode prog_8_method_10_code 13 = .ok (.ifCond .eq 28, 3) := by decide +kernel
theorem d_St_setRule_16 : decode prog_8_method_10_code 16 = .ok (.iload_n 3, 1) := by decide +kernel
theorem d_St_setRule_17 : decode prog_8_method_10_code 17 = .ok (.iconst (-1), 1) := by decide +kernel
theorem d_St_setRule_18 : decode prog_8_method_10_code 18 = .ok (.if_icmp .eq 11, 3) := by decide +kernel
theorem d_St_setRule_21 : decode prog_8_method_10_code 21 = .ok (.aload_n 0, 1) := by decide +kernel
theorem d_St_setRule_22 : decode prog_8_method_10_code 22 = .ok (.iload_n 3, 1) := by decide +kernel
theorem d_St_setRule_23 : decode prog_8_method_10_code 23 = .ok (.invokevirtual 49, 3) := by decide +kernel
theorem d_St_setRule_26 : decode prog_8_method_10_code 26 = .ok (.ifCond .eq 15, 3) := by decide +kernel
theorem d_St_setRule_29 : decode prog_8_method_10_code 29 = .ok (.aload_n 0, 1) := by decide +kernel
theorem d_St_setRule_30 : decode prog_8_method_10_code 30 = .ok (.getfield 15, 3) := by decide +kernel
theorem d_St_setRule_33 : decode prog_8_method_10_code 33 = .ok (.iload_n 1, 1) := by decide +kernel
theorem d_St_setRule_34 : decode prog_8_method_10_code 34 = .ok (.bipush 8, 2) := by decide +kernel
theorem d_St_setRule_36 : decode prog_8_method_10_code 36 = .ok (.imul, 1) := by decide +kernel
theorem d_St_setRule_37 : decode prog_8_method_10_code 37 = .ok (.iload_n 2, 1) := by decide +kernel
theorem d_St_setRule_38 : decode prog_8_method_10_code 38 = .ok (.iadd, 1) := by decide +kernel
theorem d_St_setRule_39 : decode prog_8_method_10_code 39 = .ok (.iload_n 3, 1) := by decide +kernel
theorem d_St_setRule_40 : decode prog_8_method_10_code 40 = .ok (.iastore, 1) := by decide +kernel
theorem d_St_setRule_41 : decode prog_8_method_10_code 41 = .ok (.return_, 1) := by decide +kernel
def St_setRule (Y : Ly) (l0 : Nat) (l1 : Int32) (l2 : Int32) (l3 : Int32) (h : Hp) : Option Hp :=
  (St_hasState Y l0 l1 h).bind fun q1 =>
  if q1 = true then
    (St_hasTurn Y l0 l2 h).bind fun q3 =>
    if q3 = true then
      if l3 = (-1) then
        if inB ((l1 * 8) + l2) (lnY Y (hGr h 601 l0)) = true then
          letH (hTi h (hGr h 601 l0) (Int32.toNatClampNeg ((l1 * 8) + l2)) l3) fun h8 =>
          some h8
        else none
      else
        (St_hasState Y l0 l3 h).bind fun q9 =>
        if q9 = true then
          if inB ((l1 * 8) + l2) (lnY Y (hGr h 601 l0)) = true then
            letH (hTi h (hGr h 601 l0) (Int32.toNatClampNeg ((l1 * 8) + l2)) l3) fun h13 =>
            some h13
          else none
        else
          some h
    else
      some h
  else
    some h
theorem ok_St_setRule (Y : Ly) (l0 : Nat) (l1 : Int32) (l2 : Int32) (l3 : Int32) (h : Hp) (t0 : isO Y 6 l0) : AM Y 1 K_St_setRule [.ref l0, .int l1, .int l2, .int l3] h (St_setRule Y l0 l1 l2 l3 h) rV := by
  refine AM.of rfl (Nat.le_of_ble_eq_true rfl) ?_
  show AW Y 1 K_St_setRule 0 [(0, .ref l0), (1, .int l1), (2, .int l2), (3, .int l3)] [] h (St_setRule Y l0 l1 l2 l3 h) rV
  unfold St_setRule
  refine aw_aload_n (pc := 0) d_St_setRule_0 rfl 0 rfl ?_
  refine aw_iload_n (pc := 1) d_St_setRule_1 rfl 1 rfl ?_
  refine aw_cVpZ (pc := 2) (ci := 6) (T := TX6) (N := 8) (As := [.int l1]) (st := []) (ok_St_hasState Y l0 l1 h t0) okV_St_hasState rfl (by decide) t0 w4_19 d_St_setRule_2 rfl (Nat.le_of_ble_eq_true rfl) rfl (Nat.le_of_ble_eq_true rfl) (fun q1 hq1 hTq1 => ?_)
  refine aw_beq (pc := 5) (tgt := 41) d_St_setRule_5 (by decide) (fun c2 => ?_) (fun c2 => ?_)
  · refine aw_aload_n (pc := 8) d_St_setRule_8 rfl 0 rfl ?_
    refine aw_iload_n (pc := 9) d_St_setRule_9 rfl 2 rfl ?_
    refine aw_cVpZ (pc := 10) (ci := 6) (T := TX6) (N := 8) (As := [.int l2]) (st := []) (ok_St_hasTurn Y l0 l2 h t0) okV_St_hasTurn rfl (by decide) t0 w4_23 d_St_setRule_10 rfl (Nat.le_of_ble_eq_true rfl) rfl (Nat.le_of_ble_eq_true rfl) (fun q3 hq3 hTq3 => ?_)
    refine aw_beq (pc := 13) (tgt := 41) d_St_setRule_13 (by decide) (fun c4 => ?_) (fun c4 => ?_)
    · refine aw_iload_n (pc := 16) d_St_setRule_16 rfl 3 rfl ?_
      refine aw_iconst (pc := 17) (x := (-1)) d_St_setRule_17 (by decide) ?_
      refine aw_icmp_eq (pc := 18) (tgt := 29) d_St_setRule_18 (by decide) (fun c5 => ?_) (fun c5 => ?_)
      · refine aw_aload_n (pc := 29) d_St_setRule_29 rfl 0 rfl ?_
        refine gt_601 (pc := 30) d_St_setRule_30 w1_181 t0 (fun tt6 => ?_)
        refine aw_iload_n (pc := 33) d_St_setRule_33 rfl 1 rfl ?_
        refine aw_bipush (pc := 34) (x := 8) d_St_setRule_34 (by decide) ?_
        refine aw_imul (pc := 36) d_St_setRule_36 ?_
        refine aw_iload_n (pc := 37) d_St_setRule_37 rfl 2 rfl ?_
        refine aw_iadd (pc := 38) d_St_setRule_38 ?_
        refine aw_iload_n (pc := 39) d_St_setRule_39 rfl 3 rfl ?_
        refine aw_iastore (pc := 40) d_St_setRule_40 tt6 (fun c7 => ?_)
        refine aw_letH (fun h8 => ?_)
        exact aw_return (pc := 41) d_St_setRule_41 rfl rfl
      · refine aw_aload_n (pc := 21) d_St_setRule_21 rfl 0 rfl ?_
        refine aw_iload_n (pc := 22) d_St_setRule_22 rfl 3 rfl ?_
        refine aw_cVpZ (pc := 23) (ci := 6) (T := TX6) (N := 8) (As := [.int l3]) (st := []) (ok_St_hasState Y l0 l3 h t0) okV_St_hasState rfl (by decide) t0 w4_19 d_St_setRule_23 rfl (Nat.le_of_ble_eq_true rfl) rfl (Nat.le_of_ble_eq_true rfl) (fun q9 hq9 hTq9 => ?_)
        refine aw_beq (pc := 26) (tgt := 41) d_St_setRule_26 (by decide) (fun c10 => ?_) (fun c10 => ?_)
        · refine aw_aload_n (pc := 29) d_St_setRule_29 rfl 0 rfl ?_
          refine gt_601 (pc := 30) d_St_setRule_30 w1_181 t0 (fun tt11 => ?_)
          refine aw_iload_n (pc := 33) d_St_setRule_33 rfl 1 rfl ?_
          refine aw_bipush (pc := 34) (x := 8) d_St_setRule_34 (by decide) ?_
          refine aw_imul (pc := 36) d_St_setRule_36 ?_
          refine aw_iload_n (pc := 37) d_St_setRule_37 rfl 2 rfl ?_
          refine aw_iadd (pc := 38) d_St_setRule_38 ?_
          refine aw_iload_n (pc := 39) d_St_setRule_39 rfl 3 rfl ?_
          refine aw_iastore (pc := 40) d_St_setRule_40 tt11 (fun c12 => ?_)
          refine aw_letH (fun h13 => ?_)
          exact aw_return (pc := 41) d_St_setRule_41 rfl rfl
        · exact aw_return (pc := 41) d_St_setRule_41 rfl rfl
    · exact aw_return (pc := 41) d_St_setRule_41 rfl rfl
  · exact aw_return (pc := 41) d_St_setRule_41 rfl rfl
/-! LastPages.lead(III)Z -/
theorem d_LP_lead_0 : decode prog_1_method_28_code 0 = .ok (.aload_n 0, 1) := by decide +kernel
theorem d_LP_lead_1 : decode prog_1_method_28_code 1 = .ok (.getfield 68, 3) := by decide +kernel
theorem d_LP_lead_4 : decode prog_1_method_28_code 4 = .ok (.getfield 193, 3) := by decide +kernel
theorem d_LP_lead_7 : decode prog_1_method_28_code 7 = .ok (.astore 4, 2) := by decide +kernel
theorem d_LP_lead_9 : decode prog_1_method_28_code 9 = .ok (.aload 4, 2) := by decide +kernel
theorem d_LP_lead_11 : decode prog_1_method_28_code 11 = .ok (.iload_n 1, 1) := by decide +kernel
theorem d_LP_lead_12 : decode prog_1_method_28_code 12 = .ok (.invokevirtual 239, 3) := by decide +kernel
theorem d_LP_lead_15 : decode prog_1_method_28_code 15 = .ok (.ifCond .eq 26, 3) := by decide +kernel
theorem d_LP_lead_18 : decode prog_1_method_28_code 18 = .ok (.aload 4, 2) := by decide +kernel
theorem d_LP_lead_20 : decode prog_1_method_28_code 20 = .ok (.iload_n 2, 1) := by decide +kernel
theorem d_LP_lead_21 : decode prog_1_method_28_code 21 = .ok (.invokevirtual 242, 3) := by decide +kernel
theorem d_LP_lead_24 : decode prog_1_method_28_code 24 = .ok (.ifCond .eq 17, 3) := by decide +kernel
theorem d_LP_lead_27 : decode prog_1_method_28_code 27 = .ok (.iload_n 3, 1) := by decide +kernel
theorem d_LP_lead_28 : decode prog_1_method_28_code 28 = .ok (.iconst (-1), 1) := by decide +kernel
theorem d_LP_lead_29 : decode prog_1_method_28_code 29 = .ok (.if_icmp .eq 18, 3) := by decide +kernel
theorem d_LP_lead_32 : decode prog_1_method_28_code 32 = .ok (.aload 4, 2) := by decide +kernel
theorem d_LP_lead_34 : decode prog_1_method_28_code 34 = .ok (.iload_n 3, 1) := by decide +kernel
theorem d_LP_lead_35 : decode prog_1_method_28_code 35 = .ok (.invokevirtual 239, 3) := by decide +kernel
theorem d_LP_lead_38 : decode prog_1_method_28_code 38 = .ok (.ifCond .ne 9, 3) := by decide +kernel
theorem d_LP_lead_41 : decode prog_1_method_28_code 41 = .ok (.aload_n 0, 1) := by decide +kernel
theorem d_LP_lead_42 : decode prog_1_method_28_code 42 = .ok (.iconst 2, 1) := by decide +kernel
theorem d_LP_lead_43 : decode prog_1_method_28_code 43 = .ok (.invokevirtual 113, 3) := by decide +kernel
theorem d_LP_lead_46 : decode prog_1_method_28_code 46 = .ok (.ireturn, 1) := by decide +kernel
theorem d_LP_lead_47 : decode prog_1_method_28_code 47 = .ok (.aload 4, 2) := by decide +kernel
theorem d_LP_lead_49 : decode prog_1_method_28_code 49 = .ok (.iload_n 1, 1) := by decide +kernel
theorem d_LP_lead_50 : decode prog_1_method_28_code 50 = .ok (.iload_n 2, 1) := by decide +kernel
theorem d_LP_lead_51 : decode prog_1_method_28_code 51 = .ok (.iload_n 3, 1) := by decide +kernel
theorem d_LP_lead_52 : decode prog_1_method_28_code 52 = .ok (.invokevirtual 318, 3) := by decide +kernel
theorem d_LP_lead_55 : decode prog_1_method_28_code 55 = .ok (.aload_n 0, 1) := by decide +kernel
theorem d_LP_lead_56 : decode prog_1_method_28_code 56 = .ok (.invokevirtual 121, 3) := by decide +kernel
theorem d_LP_lead_59 : decode prog_1_method_28_code 59 = .ok (.ireturn, 1) := by decide +kernel
def LP_lead (Y : Ly) (l0 : Nat) (l1 : Int32) (l2 : Int32) (l3 : Int32) (h : Hp) : Option (Bool × Hp) :=
  (St_hasState Y (hGr h 400 (hGr h 1109 l0)) l1 h).bind fun q3 =>
  if q3 = true then
    (St_hasTurn Y (hGr h 400 (hGr h 1109 l0)) l2 h).bind fun q5 =>
    if q5 = true then
      if l3 = (-1) then
        (St_setRule Y (hGr h 400 (hGr h 1109 l0)) l1 l2 l3 h).bind fun q8 =>
        (LP_agree Y l0 q8).bind fun q9 =>
        some (q9.1, q9.2)
      else
        (St_hasState Y (hGr h 400 (hGr h 1109 l0)) l3 h).bind fun q10 =>
        if q10 = true then
          (St_setRule Y (hGr h 400 (hGr h 1109 l0)) l1 l2 l3 h).bind fun q12 =>
          (LP_agree Y l0 q12).bind fun q13 =>
          some (q13.1, q13.2)
        else
          (LP_refuse Y l0 2 h).bind fun q14 =>
          some (q14.1, q14.2)
    else
      (LP_refuse Y l0 2 h).bind fun q15 =>
      some (q15.1, q15.2)
  else
    (LP_refuse Y l0 2 h).bind fun q16 =>
    some (q16.1, q16.2)
theorem ok_LP_lead (Y : Ly) (l0 : Nat) (l1 : Int32) (l2 : Int32) (l3 : Int32) (h : Hp) (t0 : isO Y 11 l0) : AM Y 2 K_LP_lead [.ref l0, .int l1, .int l2, .int l3] h (LP_lead Y l0 l1 l2 l3 h) rZ := by
  refine AM.of rfl (Nat.le_of_ble_eq_true rfl) ?_
  show AW Y 2 K_LP_lead 0 [(0, .ref l0), (1, .int l1), (2, .int l2), (3, .int l3)] [] h (LP_lead Y l0 l1 l2 l3 h) rZ
  unfold LP_lead
  refine aw_aload_n (pc := 0) d_LP_lead_0 rfl 0 rfl ?_
  refine gt_1109 (pc := 1) d_LP_lead_1 w3_9 t0 (fun tt1 => ?_)
  refine gt_400 (pc := 4) d_LP_lead_4 w2_129 tt1 (fun tt2 => ?_)
  refine aw_astore (pc := 7) (lv' := [(4, .ref (hGr h 400 (hGr h 1109 l0))), (0, .ref l0), (1, .int l1), (2, .int l2), (3, .int l3)]) d_LP_lead_7 (by decide) rfl ?_
  refine aw_aload (pc := 9) d_LP_lead_9 0 rfl ?_
  refine aw_iload_n (pc := 11) d_LP_lead_11 rfl 2 rfl ?_
  refine aw_cVpZ (pc := 12) (ci := 6) (T := TX6) (N := 8) (As := [.int l1]) (st := []) (ok_St_hasState Y (hGr h 400 (hGr h 1109 l0)) l1 h tt2) okV_St_hasState rfl (by decide) tt2 w4_180 d_LP_lead_12 rfl (Nat.le_of_ble_eq_true rfl) rfl (Nat.le_of_ble_eq_true rfl) (fun q3 hq3 hTq3 => ?_)
  refine aw_beq (pc := 15) (tgt := 41) d_LP_lead_15 (by decide) (fun c4 => ?_) (fun c4 => ?_)
  · refine aw_aload (pc := 18) d_LP_lead_18 0 rfl ?_
    refine aw_iload_n (pc := 20) d_LP_lead_20 rfl 3 rfl ?_
    refine aw_cVpZ (pc := 21) (ci := 6) (T := TX6) (N := 8) (As := [.int l2]) (st := []) (ok_St_hasTurn Y (hGr h 400 (hGr h 1109 l0)) l2 h tt2) okV_St_hasTurn rfl (by decide) tt2 w4_181 d_LP_lead_21 rfl (Nat.le_of_ble_eq_true rfl) rfl (Nat.le_of_ble_eq_true rfl) (fun q5 hq5 hTq5 => ?_)
    refine aw_beq (pc := 24) (tgt := 41) d_LP_lead_24 (by decide) (fun c6 => ?_) (fun c6 => ?_)
    · refine aw_iload_n (pc := 27) d_LP_lead_27 rfl 4 rfl ?_
      refine aw_iconst (pc := 28) (x := (-1)) d_LP_lead_28 (by decide) ?_
      refine aw_icmp_eq (pc := 29) (tgt := 47) d_LP_lead_29 (by decide) (fun c7 => ?_) (fun c7 => ?_)
      · refine aw_aload (pc := 47) d_LP_lead_47 0 rfl ?_
        refine aw_iload_n (pc := 49) d_LP_lead_49 rfl 2 rfl ?_
        refine aw_iload_n (pc := 50) d_LP_lead_50 rfl 3 rfl ?_
        refine aw_iload_n (pc := 51) d_LP_lead_51 rfl 4 rfl ?_
        refine aw_cVrV (pc := 52) (ci := 6) (T := TX6) (N := 8) (As := [.int l1, .int l2, .int l3]) (st := []) (ok_St_setRule Y (hGr h 400 (hGr h 1109 l0)) l1 l2 l3 h tt2) okV_St_setRule rfl (by decide) tt2 w5_93 d_LP_lead_52 rfl (Nat.le_of_ble_eq_true rfl) rfl (Nat.le_of_ble_eq_true rfl) (fun q8 hq8 hTq8 => ?_)
        refine aw_aload_n (pc := 55) d_LP_lead_55 rfl 1 rfl ?_
        refine aw_cVrZ (pc := 56) (ci := 11) (T := TX11) (N := 18) (As := []) (st := []) (ok_LP_agree Y l0 q8 t0) okV_LP_agree rfl (by decide) t0 w3_86 d_LP_lead_56 rfl (Nat.le_of_ble_eq_true rfl) rfl (Nat.le_of_ble_eq_true rfl) (fun q9 hq9 hTq9 => ?_)
        exact aw_zreturn (pc := 59) (b := q9.1) d_LP_lead_59 rfl rfl
      · refine aw_aload (pc := 32) d_LP_lead_32 0 rfl ?_
        refine aw_iload_n (pc := 34) d_LP_lead_34 rfl 4 rfl ?_
        refine aw_cVpZ (pc := 35) (ci := 6) (T := TX6) (N := 8) (As := [.int l3]) (st := []) (ok_St_hasState Y (hGr h 400 (hGr h 1109 l0)) l3 h tt2) okV_St_hasState rfl (by decide) tt2 w4_180 d_LP_lead_35 rfl (Nat.le_of_ble_eq_true rfl) rfl (Nat.le_of_ble_eq_true rfl) (fun q10 hq10 hTq10 => ?_)
        refine aw_bne (pc := 38) (tgt := 47) d_LP_lead_38 (by decide) (fun c11 => ?_) (fun c11 => ?_)
        · refine aw_aload (pc := 47) d_LP_lead_47 0 rfl ?_
          refine aw_iload_n (pc := 49) d_LP_lead_49 rfl 2 rfl ?_
          refine aw_iload_n (pc := 50) d_LP_lead_50 rfl 3 rfl ?_
          refine aw_iload_n (pc := 51) d_LP_lead_51 rfl 4 rfl ?_
          refine aw_cVrV (pc := 52) (ci := 6) (T := TX6) (N := 8) (As := [.int l1, .int l2, .int l3]) (st := []) (ok_St_setRule Y (hGr h 400 (hGr h 1109 l0)) l1 l2 l3 h tt2) okV_St_setRule rfl (by decide) tt2 w5_93 d_LP_lead_52 rfl (Nat.le_of_ble_eq_true rfl) rfl (Nat.le_of_ble_eq_true rfl) (fun q12 hq12 hTq12 => ?_)
          refine aw_aload_n (pc := 55) d_LP_lead_55 rfl 1 rfl ?_
          refine aw_cVrZ (pc := 56) (ci := 11) (T := TX11) (N := 18) (As := []) (st := []) (ok_LP_agree Y l0 q12 t0) okV_LP_agree rfl (by decide) t0 w3_86 d_LP_lead_56 rfl (Nat.le_of_ble_eq_true rfl) rfl (Nat.le_of_ble_eq_true rfl) (fun q13 hq13 hTq13 => ?_)
          exact aw_zreturn (pc := 59) (b := q13.1) d_LP_lead_59 rfl rfl
        · refine aw_aload_n (pc := 41) d_LP_lead_41 rfl 1 rfl ?_
          refine aw_iconst (pc := 42) (x := 2) d_LP_lead_42 (by decide) ?_
          refine aw_cVrZ (pc := 43) (ci := 11) (T := TX11) (N := 18) (As := [.int 2]) (st := []) (ok_LP_refuse Y l0 2 h t0) okV_LP_refuse rfl (by decide) t0 w3_75 d_LP_lead_43 rfl (Nat.le_of_ble_eq_true rfl) rfl (Nat.le_of_ble_eq_true rfl) (fun q14 hq14 hTq14 => ?_)
          exact aw_zreturn (pc := 46) (b := q14.1) d_LP_lead_46 rfl rfl
    · refine aw_aload_n (pc := 41) d_LP_lead_41 rfl 1 rfl ?_
      refine aw_iconst (pc := 42) (x := 2) d_LP_lead_42 (by decide) ?_
      refine aw_cVrZ (pc := 43) (ci := 11) (T := TX11) (N := 18) (As := [.int 2]) (st := []) (ok_LP_refuse Y l0 2 h t0) okV_LP_refuse rfl (by decide) t0 w3_75 d_LP_lead_43 rfl (Nat.le_of_ble_eq_true rfl) rfl (Nat.le_of_ble_eq_true rfl) (fun q15 hq15 hTq15 => ?_)
      exact aw_zreturn (pc := 46) (b := q15.1) d_LP_lead_46 rfl rfl
  · refine aw_aload_n (pc := 41) d_LP_lead_41 rfl 1 rfl ?_
    refine aw_iconst (pc := 42) (x := 2) d_LP_lead_42 (by decide) ?_
    refine aw_cVrZ (pc := 43) (ci := 11) (T := TX11) (N := 18) (As := [.int 2]) (st := []) (ok_LP_refuse Y l0 2 h t0) okV_LP_refuse rfl (by decide) t0 w3_75 d_LP_lead_43 rfl (Nat.le_of_ble_eq_true rfl) rfl (Nat.le_of_ble_eq_true rfl) (fun q16 hq16 hTq16 => ?_)
    exact aw_zreturn (pc := 46) (b := q16.1) d_LP_lead_46 rfl rfl
/-! LastPages.liarSet(I)I -/
theorem d_LP_liarSet_0 : decode prog_1_method_48_code 0 = .ok (.aload_n 0, 1) := by decide +kernel
theorem d_LP_liarSet_1 : decode prog_1_method_48_code 1 = .ok (.getfield 68, 3) := by decide +kernel
theorem d_LP_liarSet_4 : decode prog_1_method_48_code 4 = .ok (.iload_n 1, 1) := by decide +kernel
theorem d_LP_liarSet_5 : decode prog_1_method_48_code 5 = .ok (.invokevirtual 255, 3) := by decide +kernel
theorem d_LP_liarSet_8 : decode prog_1_method_48_code 8 = .ok (.ifCond .ne 9, 3) := by decide +kernel
theorem d_LP_liarSet_11 : decode prog_1_method_48_code 11 = .ok (.aload_n 0, 1) := by decide +kernel
theorem d_LP_liarSet_12 : decode prog_1_method_48_code 12 = .ok (.iconst 2, 1) := by decide +kernel
theorem d_LP_liarSet_13 : decode prog_1_method_48_code 13 = .ok (.invokevirtual 133, 3) := by decide +kernel
theorem d_LP_liarSet_16 : decode prog_1_method_48_code 16 = .ok (.ireturn, 1) := by decide +kernel
theorem d_LP_liarSet_17 : decode prog_1_method_48_code 17 = .ok (.aload_n 0, 1) := by decide +kernel
theorem d_LP_liarSet_18 : decode prog_1_method_48_code 18 = .ok (.aload_n 0, 1) := by decide +kernel
theorem d_LP_liarSet_19 : decode prog_1_method_48_code 19 = .ok (.getfield 45, 3) := by decide +kernel
theorem d_LP_liarSet_22 : decode prog_1_method_48_code 22 = .ok (.aload_n 0, 1) := by decide +kernel
theorem d_LP_liarSet_23 : decode prog_1_method_48_code 23 = .ok (.getfield 68, 3) := by decide +kernel
theorem d_LP_liarSet_26 : decode prog_1_method_48_code 26 = .ok (.iload_n 1, 1) := by decide +kernel
theorem d_LP_liarSet_27 : decode prog_1_method_48_code 27 = .ok (.invokevirtual 389, 3) := by decide +kernel
theorem d_LP_liarSet_30 : decode prog_1_method_48_code 30 = .ok (.invokevirtual 249, 3) := by decide +kernel
theorem d_LP_liarSet_33 : decode prog_1_method_48_code 33 = .ok (.ireturn, 1) := by decide +kernel
def LP_liarSet (Y : Ly) (l0 : Nat) (l1 : Int32) (h : Hp) : Option (Int32 × Hp) :=
  (Sh_hasBook Y (hGr h 1109 l0) l1 h).bind fun q2 =>
  if q2 = true then
    (En_fewestLiars Y (hGr h 1105 l0) (hGr h 1109 l0) l1 h).bind fun q6 =>
    (LP_giveIfAny Y l0 q6.1 q6.2).bind fun q7 =>
    some (q7.1, q7.2)
  else
    (LP_fail Y l0 2 h).bind fun q8 =>
    some (q8.1, q8.2)
theorem ok_LP_liarSet (Y : Ly) (l0 : Nat) (l1 : Int32) (h : Hp) (t0 : isO Y 11 l0) : AM Y 5 K_LP_liarSet [.ref l0, .int l1] h (LP_liarSet Y l0 l1 h) rI := by
  refine AM.of rfl (Nat.le_of_ble_eq_true rfl) ?_
  show AW Y 5 K_LP_liarSet 0 [(0, .ref l0), (1, .int l1)] [] h (LP_liarSet Y l0 l1 h) rI
  unfold LP_liarSet
  refine aw_aload_n (pc := 0) d_LP_liarSet_0 rfl 0 rfl ?_
  refine gt_1109 (pc := 1) d_LP_liarSet_1 w3_9 t0 (fun tt1 => ?_)
  refine aw_iload_n (pc := 4) d_LP_liarSet_4 rfl 1 rfl ?_
  refine aw_cVpZ (pc := 5) (ci := 4) (T := TX4) (N := 19) (As := [.int l1]) (st := []) (ok_Sh_hasBook Y (hGr h 1109 l0) l1 h tt1) okV_Sh_hasBook rfl (by decide) tt1 w4_199 d_LP_liarSet_5 rfl (Nat.le_of_ble_eq_true rfl) rfl (Nat.le_of_ble_eq_true rfl) (fun q2 hq2 hTq2 => ?_)
  refine aw_bne (pc := 8) (tgt := 17) d_LP_liarSet_8 (by decide) (fun c3 => ?_) (fun c3 => ?_)
  · refine aw_aload_n (pc := 17) d_LP_liarSet_17 rfl 0 rfl ?_
    refine aw_aload_n (pc := 18) d_LP_liarSet_18 rfl 0 rfl ?_
    refine gt_1105 (pc := 19) d_LP_liarSet_19 w3_5 t0 (fun tt4 => ?_)
    refine aw_aload_n (pc := 22) d_LP_liarSet_22 rfl 0 rfl ?_
    refine gt_1109 (pc := 23) d_LP_liarSet_23 w3_9 t0 (fun tt5 => ?_)
    refine aw_iload_n (pc := 26) d_LP_liarSet_26 rfl 1 rfl ?_
    refine aw_cVrI (pc := 27) (ci := 0) (T := TX0) (N := 8) (As := [.ref (hGr h 1109 l0), .int l1]) (st := [.ref l0]) (ok_En_fewestLiars Y (hGr h 1105 l0) (hGr h 1109 l0) l1 h tt4 tt5) okV_En_fewestLiars rfl (by decide) tt4 w6_55 d_LP_liarSet_27 rfl (Nat.le_of_ble_eq_true rfl) rfl (Nat.le_of_ble_eq_true rfl) (fun q6 hq6 hTq6 => ?_)
    refine aw_cVrI (pc := 30) (ci := 11) (T := TX11) (N := 18) (As := [.int q6.1]) (st := []) (ok_LP_giveIfAny Y l0 q6.1 q6.2 t0) okV_LP_giveIfAny rfl (by decide) t0 w4_183 d_LP_liarSet_30 rfl (Nat.le_of_ble_eq_true rfl) rfl (Nat.le_of_ble_eq_true rfl) (fun q7 hq7 hTq7 => ?_)
    exact aw_ireturn (pc := 33) d_LP_liarSet_33 rfl rfl
  · refine aw_aload_n (pc := 11) d_LP_liarSet_11 rfl 0 rfl ?_
    refine aw_iconst (pc := 12) (x := 2) d_LP_liarSet_12 (by decide) ?_
    refine aw_cVrI (pc := 13) (ci := 11) (T := TX11) (N := 18) (As := [.int 2]) (st := []) (ok_LP_fail Y l0 2 h t0) okV_LP_fail rfl (by decide) t0 w3_114 d_LP_liarSet_13 rfl (Nat.le_of_ble_eq_true rfl) rfl (Nat.le_of_ble_eq_true rfl) (fun q8 hq8 hTq8 => ?_)
    exact aw_ireturn (pc := 16) d_LP_liarSet_16 rfl rfl
/-! LastPages.liars(I)I -/
theorem d_LP_liars_0 : decode prog_1_method_47_code 0 = .ok (.aload_n 0, 1) := by decide +kernel
theorem d_LP_liars_1 : decode prog_1_method_47_code 1 = .ok (.getfield 68, 3) := by decide +kernel
theorem d_LP_liars_4 : decode prog_1_method_47_code 4 = .ok (.iload_n 1, 1) := by decide +kernel
theorem d_LP_liars_5 : decode prog_1_method_47_code 5 = .ok (.invokevirtual 255, 3) := by decide +kernel
theorem d_LP_liars_8 : decode prog_1_method_47_code 8 = .ok (.ifCond .ne 9, 3) := by decide +kernel
theorem d_LP_liars_11 : decode prog_1_method_47_code 11 = .ok (.aload_n 0, 1) := by decide +kernel
theorem d_LP_liars_12 : decode prog_1_method_47_code 12 = .ok (.iconst 2, 1) := by decide +kernel
theorem d_LP_liars_13 : decode prog_1_method_47_code 13 = .ok (.invokevirtual 133, 3) := by decide +kernel
theorem d_LP_liars_16 : decode prog_1_method_47_code 16 = .ok (.ireturn, 1) := by decide +kernel
theorem d_LP_liars_17 : decode prog_1_method_47_code 17 = .ok (.aload_n 0, 1) := by decide +kernel
theorem d_LP_liars_18 : decode prog_1_method_47_code 18 = .ok (.aload_n 0, 1) := by decide +kernel
theorem d_LP_liars_19 : decode prog_1_method_47_code 19 = .ok (.getfield 45, 3) := by decide +kernel
theorem d_LP_liars_22 : decode prog_1_method_47_code 22 = .ok (.aload_n 0, 1) := by decide +kernel
theorem d_LP_liars_23 : decode prog_1_method_47_code 23 = .ok (.getfield 68, 3) := by decide +kernel
theorem d_LP_liars_26 : decode prog_1_method_47_code 26 = .ok (.iload_n 1, 1) := by decide +kernel
theorem d_LP_liars_27 : decode prog_1_method_47_code 27 = .ok (.invokevirtual 389, 3) := by decide +kernel
theorem d_LP_liars_30 : decode prog_1_method_47_code 30 = .ok (.invokevirtual 383, 3) := by decide +kernel
theorem d_LP_liars_33 : decode prog_1_method_47_code 33 = .ok (.ireturn, 1) := by decide +kernel
def LP_liars (Y : Ly) (l0 : Nat) (l1 : Int32) (h : Hp) : Option (Int32 × Hp) :=
  (Sh_hasBook Y (hGr h 1109 l0) l1 h).bind fun q2 =>
  if q2 = true then
    (En_fewestLiars Y (hGr h 1105 l0) (hGr h 1109 l0) l1 h).bind fun q6 =>
    (LP_giveSize Y l0 q6.1 q6.2).bind fun q7 =>
    some (q7.1, q7.2)
  else
    (LP_fail Y l0 2 h).bind fun q8 =>
    some (q8.1, q8.2)
theorem ok_LP_liars (Y : Ly) (l0 : Nat) (l1 : Int32) (h : Hp) (t0 : isO Y 11 l0) : AM Y 5 K_LP_liars [.ref l0, .int l1] h (LP_liars Y l0 l1 h) rI := by
  refine AM.of rfl (Nat.le_of_ble_eq_true rfl) ?_
  show AW Y 5 K_LP_liars 0 [(0, .ref l0), (1, .int l1)] [] h (LP_liars Y l0 l1 h) rI
  unfold LP_liars
  refine aw_aload_n (pc := 0) d_LP_liars_0 rfl 0 rfl ?_
  refine gt_1109 (pc := 1) d_LP_liars_1 w3_9 t0 (fun tt1 => ?_)
  refine aw_iload_n (pc := 4) d_LP_liars_4 rfl 1 rfl ?_
  refine aw_cVpZ (pc := 5) (ci := 4) (T := TX4) (N := 19) (As := [.int l1]) (st := []) (ok_Sh_hasBook Y (hGr h 1109 l0) l1 h tt1) okV_Sh_hasBook rfl (by decide) tt1 w4_199 d_LP_liars_5 rfl (Nat.le_of_ble_eq_true rfl) rfl (Nat.le_of_ble_eq_true rfl) (fun q2 hq2 hTq2 => ?_)
  refine aw_bne (pc := 8) (tgt := 17) d_LP_liars_8 (by decide) (fun c3 => ?_) (fun c3 => ?_)
  · refine aw_aload_n (pc := 17) d_LP_liars_17 rfl 0 rfl ?_
    refine aw_aload_n (pc := 18) d_LP_liars_18 rfl 0 rfl ?_
    refine gt_1105 (pc := 19) d_LP_liars_19 w3_5 t0 (fun tt4 => ?_)
    refine aw_aload_n (pc := 22) d_LP_liars_22 rfl 0 rfl ?_
    refine gt_1109 (pc := 23) d_LP_liars_23 w3_9 t0 (fun tt5 => ?_)
    refine aw_iload_n (pc := 26) d_LP_liars_26 rfl 1 rfl ?_
    refine aw_cVrI (pc := 27) (ci := 0) (T := TX0) (N := 8) (As := [.ref (hGr h 1109 l0), .int l1]) (st := [.ref l0]) (ok_En_fewestLiars Y (hGr h 1105 l0) (hGr h 1109 l0) l1 h tt4 tt5) okV_En_fewestLiars rfl (by decide) tt4 w6_55 d_LP_liars_27 rfl (Nat.le_of_ble_eq_true rfl) rfl (Nat.le_of_ble_eq_true rfl) (fun q6 hq6 hTq6 => ?_)
    refine aw_cVrI (pc := 30) (ci := 11) (T := TX11) (N := 18) (As := [.int q6.1]) (st := []) (ok_LP_giveSize Y l0 q6.1 q6.2 t0) okV_LP_giveSize rfl (by decide) t0 w6_27 d_LP_liars_30 rfl (Nat.le_of_ble_eq_true rfl) rfl (Nat.le_of_ble_eq_true rfl) (fun q7 hq7 hTq7 => ?_)
    exact aw_ireturn (pc := 33) d_LP_liars_33 rfl rfl
  · refine aw_aload_n (pc := 11) d_LP_liars_11 rfl 0 rfl ?_
    refine aw_iconst (pc := 12) (x := 2) d_LP_liars_12 (by decide) ?_
    refine aw_cVrI (pc := 13) (ci := 11) (T := TX11) (N := 18) (As := [.int 2]) (st := []) (ok_LP_fail Y l0 2 h t0) okV_LP_fail rfl (by decide) t0 w3_114 d_LP_liars_13 rfl (Nat.le_of_ble_eq_true rfl) rfl (Nat.le_of_ble_eq_true rfl) (fun q8 hq8 hTq8 => ?_)
    exact aw_ireturn (pc := 16) d_LP_liars_16 rfl rfl
/-! LastPages$Weeks.hasRow(I)Z -/
theorem d_We_hasRow_0 : decode prog_11_method_4_code 0 = .ok (.iload_n 1, 1) := by decide +kernel
theorem d_We_hasRow_1 : decode prog_11_method_4_code 1 = .ok (.ifCond .lt 15, 3) := by decide +kernel
theorem d_We_hasRow_4 : decode prog_11_method_4_code 4 = .ok (.iload_n 1, 1) := by decide +kernel
theorem d_We_hasRow_5 : decode prog_11_method_4_code 5 = .ok (.aload_n 0, 1) := by decide +kernel
theorem d_We_hasRow_6 : decode prog_11_method_4_code 6 = .ok (.getfield 31, 3) := by decide +kernel
theorem d_We_hasRow_9 : decode prog_11_method_4_code 9 = .ok (.if_icmp .ge 7, 3) := by decide +kernel
theorem d_We_hasRow_12 : decode prog_11_method_4_code 12 = .ok (.iconst 1, 1) := by decide +kernel
theorem d_We_hasRow_13 : decode prog_11_method_4_code 13 = .ok (.goto 4, 3) := by decide +kernel
theorem d_We_hasRow_16 : decode prog_11_method_4_code 16 = .ok (.iconst 0, 1) := by decide +kernel
theorem d_We_hasRow_17 : decode prog_11_method_4_code 17 = .ok (.ireturn, 1) := by decide +kernel
def We_hasRow (Y : Ly) (l0 : Nat) (l1 : Int32) (h : Hp) : Option Bool :=
  if l1 < 0 then
    some false
  else
    if (hGi h 906 l0) ≤ l1 then
      some false
    else
      some true
theorem ok_We_hasRow (Y : Ly) (l0 : Nat) (l1 : Int32) (h : Hp) (t0 : isO Y 9 l0) : AM Y 0 K_We_hasRow [.ref l0, .int l1] h (We_hasRow Y l0 l1 h) (pZ h) := by
  refine AM.of rfl (Nat.le_of_ble_eq_true rfl) ?_
  show AW Y 0 K_We_hasRow 0 [(0, .ref l0), (1, .int l1)] [] h (We_hasRow Y l0 l1 h) (pZ h)
  unfold We_hasRow
  refine aw_iload_n (pc := 0) d_We_hasRow_0 rfl 1 rfl ?_
  refine aw_if_lt (pc := 1) (tgt := 16) d_We_hasRow_1 (by decide) (fun c1 => ?_) (fun c1 => ?_)
  · refine aw_iconst (pc := 16) (x := 0) d_We_hasRow_16 (by decide) ?_
    exact aw_zreturn (pc := 17) (b := false) d_We_hasRow_17 rfl rfl
  · refine aw_iload_n (pc := 4) d_We_hasRow_4 rfl 1 rfl ?_
    refine aw_aload_n (pc := 5) d_We_hasRow_5 rfl 0 rfl ?_
    refine gt_906 (pc := 6) d_We_hasRow_6 w2_102 t0 ?_
    refine aw_icmp_ge (pc := 9) (tgt := 16) d_We_hasRow_9 (by decide) (fun c2 => ?_) (fun c2 => ?_)
    · refine aw_iconst (pc := 16) (x := 0) d_We_hasRow_16 (by decide) ?_
      exact aw_zreturn (pc := 17) (b := false) d_We_hasRow_17 rfl rfl
    · refine aw_iconst (pc := 12) (x := 1) d_We_hasRow_12 (by decide) ?_
      refine aw_goto (pc := 13) (tgt := 17) d_We_hasRow_13 (by decide) ?_
      exact aw_zreturn (pc := 17) (b := true) d_We_hasRow_17 rfl rfl
/-! LastPages$Life.behindEnd(LLastPages$Weeks;I)I -/
theorem d_Li_behindEnd_0 : decode prog_4_method_6_code 0 = .ok (.aload_n 1, 1) := by decide +kernel
theorem d_Li_behindEnd_1 : decode prog_4_method_6_code 1 = .ok (.getfield 92, 3) := by decide +kernel
theorem d_Li_behindEnd_4 : decode prog_4_method_6_code 4 = .ok (.iload_n 2, 1) := by decide +kernel
theorem d_Li_behindEnd_5 : decode prog_4_method_6_code 5 = .ok (.iaload, 1) := by decide +kernel
theorem d_Li_behindEnd_6 : decode prog_4_method_6_code 6 = .ok (.istore_n 3, 1) := by decide +kernel
theorem d_Li_behindEnd_7 : decode prog_4_method_6_code 7 = .ok (.aload_n 1, 1) := by decide +kernel
theorem d_Li_behindEnd_8 : decode prog_4_method_6_code 8 = .ok (.iload_n 3, 1) := by decide +kernel
theorem d_Li_behindEnd_9 : decode prog_4_method_6_code 9 = .ok (.invokevirtual 59, 3) := by decide +kernel
theorem d_Li_behindEnd_12 : decode prog_4_method_6_code 12 = .ok (.ifCond .eq 14, 3) := by decide +kernel
theorem d_Li_behindEnd_15 : decode prog_4_method_6_code 15 = .ok (.aload_n 1, 1) := by decide +kernel
theorem d_Li_behindEnd_16 : decode prog_4_method_6_code 16 = .ok (.getfield 65, 3) := by decide +kernel
theorem d_Li_behindEnd_19 : decode prog_4_method_6_code 19 = .ok (.iload_n 3, 1) := by decide +kernel
theorem d_Li_behindEnd_20 : decode prog_4_method_6_code 20 = .ok (.iaload, 1) := by decide +kernel
theorem d_Li_behindEnd_21 : decode prog_4_method_6_code 21 = .ok (.bipush 28, 2) := by decide +kernel
theorem d_Li_behindEnd_23 : decode prog_4_method_6_code 23 = .ok (.if_icmp .eq 7, 3) := by decide +kernel
theorem d_Li_behindEnd_26 : decode prog_4_method_6_code 26 = .ok (.iload_n 2, 1) := by decide +kernel
theorem d_Li_behindEnd_27 : decode prog_4_method_6_code 27 = .ok (.iconst 1, 1) := by decide +kernel
theorem d_Li_behindEnd_28 : decode prog_4_method_6_code 28 = .ok (.iadd, 1) := by decide +kernel
theorem d_Li_behindEnd_29 : decode prog_4_method_6_code 29 = .ok (.ireturn, 1) := by decide +kernel
theorem d_Li_behindEnd_30 : decode prog_4_method_6_code 30 = .ok (.aload_n 0, 1) := by decide +kernel
theorem d_Li_behindEnd_31 : decode prog_4_method_6_code 31 = .ok (.getfield 15, 3) := by decide +kernel
theorem d_Li_behindEnd_34 : decode prog_4_method_6_code 34 = .ok (.iload_n 3, 1) := by decide +kernel
theorem d_Li_behindEnd_35 : decode prog_4_method_6_code 35 = .ok (.dup2, 1) := by decide +kernel
theorem d_Li_behindEnd_36 : decode prog_4_method_6_code 36 = .ok (.iaload, 1) := by decide +kernel
theorem d_Li_behindEnd_37 : decode prog_4_method_6_code 37 = .ok (.iconst 1, 1) := by decide +kernel
theorem d_Li_behindEnd_38 : decode prog_4_method_6_code 38 = .ok (.isub, 1) := by decide +kernel
theorem d_Li_behindEnd_39 : decode prog_4_method_6_code 39 = .ok (.iastore, 1) := by decide +kernel
theorem d_Li_behindEnd_40 : decode prog_4_method_6_code 40 = .ok (.aload_n 0, 1) := by decide +kernel
theorem d_Li_behindEnd_41 : decode prog_4_method_6_code 41 = .ok (.getfield 15, 3) := by decide +kernel
theorem d_Li_behindEnd_44 : decode prog_4_method_6_code 44 = .ok (.iload_n 3, 1) := by decide +kernel
theorem d_Li_behindEnd_45 : decode prog_4_method_6_code 45 = .ok (.iaload, 1) := by decide +kernel
theorem d_Li_behindEnd_46 : decode prog_4_method_6_code 46 = .ok (.ifCond .le 9, 3) := by decide +kernel
theorem d_Li_behindEnd_49 : decode prog_4_method_6_code 49 = .ok (.iload_n 3, 1) := by decide +kernel
theorem d_Li_behindEnd_50 : decode prog_4_method_6_code 50 = .ok (.iconst 1, 1) := by decide +kernel
theorem d_Li_behindEnd_51 : decode prog_4_method_6_code 51 = .ok (.iadd, 1) := by decide +kernel
theorem d_Li_behindEnd_52 : decode prog_4_method_6_code 52 = .ok (.goto 6, 3) := by decide +kernel
theorem d_Li_behindEnd_55 : decode prog_4_method_6_code 55 = .ok (.iload_n 2, 1) := by decide +kernel
theorem d_Li_behindEnd_56 : decode prog_4_method_6_code 56 = .ok (.iconst 1, 1) := by decide +kernel
theorem d_Li_behindEnd_57 : decode prog_4_method_6_code 57 = .ok (.iadd, 1) := by decide +kernel
theorem d_Li_behindEnd_58 : decode prog_4_method_6_code 58 = .ok (.ireturn, 1) := by decide +kernel
def Li_behindEnd (Y : Ly) (l0 : Nat) (l1 : Nat) (l2 : Int32) (h : Hp) : Option (Int32 × Hp) :=
  if inB l2 (lnY Y (hGr h 904 l1)) = true then
    (We_hasRow Y l1 (hAi h (hGr h 904 l1) (Int32.toNatClampNeg l2)) h).bind fun q3 =>
    if q3 = true then
      if inB (hAi h (hGr h 904 l1) (Int32.toNatClampNeg l2)) (lnY Y (hGr h 900 l1)) = true then
        if (hAi h (hGr h 900 l1) (Int32.toNatClampNeg (hAi h (hGr h 904 l1) (Int32.toNatClampNeg l2)))) = 28 then
          if inB (hAi h (hGr h 904 l1) (Int32.toNatClampNeg l2)) (lnY Y (hGr h 201 l0)) = true then
            if inB (hAi h (hGr h 904 l1) (Int32.toNatClampNeg l2)) (lnY Y (hGr h 201 l0)) = true then
              letH (hTi h (hGr h 201 l0) (Int32.toNatClampNeg (hAi h (hGr h 904 l1) (Int32.toNatClampNeg l2))) ((hAi h (hGr h 201 l0) (Int32.toNatClampNeg (hAi h (hGr h 904 l1) (Int32.toNatClampNeg l2)))) - 1)) fun h11 =>
              if inB (hAi h (hGr h 904 l1) (Int32.toNatClampNeg l2)) (lnY Y (hGr h11 201 l0)) = true then
                if (hAi h11 (hGr h11 201 l0) (Int32.toNatClampNeg (hAi h (hGr h 904 l1) (Int32.toNatClampNeg l2)))) ≤ 0 then
                  some (l2 + 1, h11)
                else
                  some ((hAi h (hGr h 904 l1) (Int32.toNatClampNeg l2)) + 1, h11)
              else none
            else none
          else none
        else
          some (l2 + 1, h)
      else none
    else
      some (l2 + 1, h)
  else none
theorem ok_Li_behindEnd (Y : Ly) (l0 : Nat) (l1 : Nat) (l2 : Int32) (h : Hp) (t0 : isO Y 2 l0) (t1 : isO Y 9 l1) : AM Y 1 K_Li_behindEnd [.ref l0, .ref l1, .int l2] h (Li_behindEnd Y l0 l1 l2 h) rI := by
  refine AM.of rfl (Nat.le_of_ble_eq_true rfl) ?_
  show AW Y 1 K_Li_behindEnd 0 [(0, .ref l0), (1, .ref l1), (2, .int l2)] [] h (Li_behindEnd Y l0 l1 l2 h) rI
  unfold Li_behindEnd
  refine aw_aload_n (pc := 0) d_Li_behindEnd_0 rfl 1 rfl ?_
  refine gt_904 (pc := 1) d_Li_behindEnd_1 w2_98 t1 (fun tt1 => ?_)
  refine aw_iload_n (pc := 4) d_Li_behindEnd_4 rfl 2 rfl ?_
  refine aw_iaload (pc := 5) d_Li_behindEnd_5 tt1 (fun c2 => ?_)
  refine aw_istore_n (pc := 6) (lv' := [(3, .int (hAi h (hGr h 904 l1) (Int32.toNatClampNeg l2))), (0, .ref l0), (1, .ref l1), (2, .int l2)]) d_Li_behindEnd_6 rfl (by decide) rfl ?_
  refine aw_aload_n (pc := 7) d_Li_behindEnd_7 rfl 2 rfl ?_
  refine aw_iload_n (pc := 8) d_Li_behindEnd_8 rfl 0 rfl ?_
  refine aw_cVpZ (pc := 9) (ci := 9) (T := TX9) (N := 8) (As := [.int (hAi h (hGr h 904 l1) (Int32.toNatClampNeg l2))]) (st := []) (ok_We_hasRow Y l1 (hAi h (hGr h 904 l1) (Int32.toNatClampNeg l2)) h t1) okV_We_hasRow rfl (by decide) t1 w6_162 d_Li_behindEnd_9 rfl (Nat.le_of_ble_eq_true rfl) rfl (Nat.le_of_ble_eq_true rfl) (fun q3 hq3 hTq3 => ?_)
  refine aw_beq (pc := 12) (tgt := 26) d_Li_behindEnd_12 (by decide) (fun c4 => ?_) (fun c4 => ?_)
  · refine aw_aload_n (pc := 15) d_Li_behindEnd_15 rfl 2 rfl ?_
    refine gt_900 (pc := 16) d_Li_behindEnd_16 w2_90 t1 (fun tt5 => ?_)
    refine aw_iload_n (pc := 19) d_Li_behindEnd_19 rfl 0 rfl ?_
    refine aw_iaload (pc := 20) d_Li_behindEnd_20 tt5 (fun c6 => ?_)
    refine aw_bipush (pc := 21) (x := 28) d_Li_behindEnd_21 (by decide) ?_
    refine aw_icmp_eq (pc := 23) (tgt := 30) d_Li_behindEnd_23 (by decide) (fun c7 => ?_) (fun c7 => ?_)
    · refine aw_aload_n (pc := 30) d_Li_behindEnd_30 rfl 1 rfl ?_
      refine gt_201 (pc := 31) d_Li_behindEnd_31 w2_30 t0 (fun tt8 => ?_)
      refine aw_iload_n (pc := 34) d_Li_behindEnd_34 rfl 0 rfl ?_
      refine aw_dup2_11 (pc := 35) d_Li_behindEnd_35 rfl rfl ?_
      refine aw_iaload (pc := 36) d_Li_behindEnd_36 tt8 (fun c9 => ?_)
      refine aw_iconst (pc := 37) (x := 1) d_Li_behindEnd_37 (by decide) ?_
      refine aw_isub (pc := 38) d_Li_behindEnd_38 ?_
      refine aw_iastore (pc := 39) d_Li_behindEnd_39 tt8 (fun c10 => ?_)
      refine aw_letH (fun h11 => ?_)
      refine aw_aload_n (pc := 40) d_Li_behindEnd_40 rfl 1 rfl ?_
      refine gt_201 (pc := 41) d_Li_behindEnd_41 w2_30 t0 (fun tt12 => ?_)
      refine aw_iload_n (pc := 44) d_Li_behindEnd_44 rfl 0 rfl ?_
      refine aw_iaload (pc := 45) d_Li_behindEnd_45 tt12 (fun c13 => ?_)
      refine aw_if_le (pc := 46) (tgt := 55) d_Li_behindEnd_46 (by decide) (fun c14 => ?_) (fun c14 => ?_)
      · refine aw_iload_n (pc := 55) d_Li_behindEnd_55 rfl 3 rfl ?_
        refine aw_iconst (pc := 56) (x := 1) d_Li_behindEnd_56 (by decide) ?_
        refine aw_iadd (pc := 57) d_Li_behindEnd_57 ?_
        exact aw_ireturn (pc := 58) d_Li_behindEnd_58 rfl rfl
      · refine aw_iload_n (pc := 49) d_Li_behindEnd_49 rfl 0 rfl ?_
        refine aw_iconst (pc := 50) (x := 1) d_Li_behindEnd_50 (by decide) ?_
        refine aw_iadd (pc := 51) d_Li_behindEnd_51 ?_
        refine aw_goto (pc := 52) (tgt := 58) d_Li_behindEnd_52 (by decide) ?_
        exact aw_ireturn (pc := 58) d_Li_behindEnd_58 rfl rfl
    · refine aw_iload_n (pc := 26) d_Li_behindEnd_26 rfl 3 rfl ?_
      refine aw_iconst (pc := 27) (x := 1) d_Li_behindEnd_27 (by decide) ?_
      refine aw_iadd (pc := 28) d_Li_behindEnd_28 ?_
      exact aw_ireturn (pc := 29) d_Li_behindEnd_29 rfl rfl
  · refine aw_iload_n (pc := 26) d_Li_behindEnd_26 rfl 3 rfl ?_
    refine aw_iconst (pc := 27) (x := 1) d_Li_behindEnd_27 (by decide) ?_
    refine aw_iadd (pc := 28) d_Li_behindEnd_28 ?_
    exact aw_ireturn (pc := 29) d_Li_behindEnd_29 rfl rfl
/-! LastPages$Life.findFit(LLastPages$Shelf;LLastPages$Endings;I)V -/
theorem d_Li_findFit_0 : decode prog_4_method_5_code 0 = .ok (.aload_n 1, 1) := by decide +kernel
theorem d_Li_findFit_1 : decode prog_4_method_5_code 1 = .ok (.iload_n 3, 1) := by decide +kernel
theorem d_Li_findFit_2 : decode prog_4_method_5_code 2 = .ok (.invokevirtual 83, 3) := by decide +kernel
theorem d_Li_findFit_5 : decode prog_4_method_5_code 5 = .ok (.ifCond .eq 25, 3) := by decide +kernel
theorem d_Li_findFit_8 : decode prog_4_method_5_code 8 = .ok (.aload_n 0, 1) := by decide +kernel
theorem d_Li_findFit_9 : decode prog_4_method_5_code 9 = .ok (.getfield 18, 3) := by decide +kernel
theorem d_Li_findFit_12 : decode prog_4_method_5_code 12 = .ok (.iload_n 3, 1) := by decide +kernel
theorem d_Li_findFit_13 : decode prog_4_method_5_code 13 = .ok (.iaload, 1) := by decide +kernel
theorem d_Li_findFit_14 : decode prog_4_method_5_code 14 = .ok (.iconst (-1), 1) := by decide +kernel
theorem d_Li_findFit_15 : decode prog_4_method_5_code 15 = .ok (.if_icmp .ne 15, 3) := by decide +kernel
theorem d_Li_findFit_18 : decode prog_4_method_5_code 18 = .ok (.aload_n 0, 1) := by decide +kernel
theorem d_Li_findFit_19 : decode prog_4_method_5_code 19 = .ok (.getfield 18, 3) := by decide +kernel
theorem d_Li_findFit_22 : decode prog_4_method_5_code 22 = .ok (.iload_n 3, 1) := by decide +kernel
theorem d_Li_findFit_23 : decode prog_4_method_5_code 23 = .ok (.aload_n 2, 1) := by decide +kernel
theorem d_Li_findFit_24 : decode prog_4_method_5_code 24 = .ok (.aload_n 1, 1) := by decide +kernel
theorem d_Li_findFit_25 : decode prog_4_method_5_code 25 = .ok (.iload_n 3, 1) := by decide +kernel
theorem d_Li_findFit_26 : decode prog_4_method_5_code 26 = .ok (.invokevirtual 86, 3) := by decide +kernel
theorem d_Li_findFit_29 : decode prog_4_method_5_code 29 = .ok (.iastore, 1) := by decide +kernel
theorem d_Li_findFit_30 : decode prog_4_method_5_code 30 = .ok (.return_, 1) := by decide +kernel
def Li_findFit (Y : Ly) (l0 : Nat) (l1 : Nat) (l2 : Nat) (l3 : Int32) (h : Hp) : Option Hp :=
  (Sh_hasBook Y l1 l3 h).bind fun q1 =>
  if q1 = true then
    if inB l3 (lnY Y (hGr h 202 l0)) = true then
      if (hAi h (hGr h 202 l0) (Int32.toNatClampNeg l3)) = (-1) then
        (En_fittingFinales Y l2 l1 l3 h).bind fun q7 =>
        if inB l3 (lnY Y (hGr h 202 l0)) = true then
          letH (hTi q7.2 (hGr h 202 l0) (Int32.toNatClampNeg l3) q7.1) fun h9 =>
          some h9
        else none
      else
        some h
    else none
  else
    some h
theorem ok_Li_findFit (Y : Ly) (l0 : Nat) (l1 : Nat) (l2 : Nat) (l3 : Int32) (h : Hp) (t0 : isO Y 2 l0) (t1 : isO Y 4 l1) (t2 : isO Y 0 l2) : AM Y 4 K_Li_findFit [.ref l0, .ref l1, .ref l2, .int l3] h (Li_findFit Y l0 l1 l2 l3 h) rV := by
  refine AM.of rfl (Nat.le_of_ble_eq_true rfl) ?_
  show AW Y 4 K_Li_findFit 0 [(0, .ref l0), (1, .ref l1), (2, .ref l2), (3, .int l3)] [] h (Li_findFit Y l0 l1 l2 l3 h) rV
  unfold Li_findFit
  refine aw_aload_n (pc := 0) d_Li_findFit_0 rfl 1 rfl ?_
  refine aw_iload_n (pc := 1) d_Li_findFit_1 rfl 3 rfl ?_
  refine aw_cVpZ (pc := 2) (ci := 4) (T := TX4) (N := 19) (As := [.int l3]) (st := []) (ok_Sh_hasBook Y l1 l3 h t1) okV_Sh_hasBook rfl (by decide) t1 w6_171 d_Li_findFit_2 rfl (Nat.le_of_ble_eq_true rfl) rfl (Nat.le_of_ble_eq_true rfl) (fun q1 hq1 hTq1 => ?_)
  refine aw_beq (pc := 5) (tgt := 30) d_Li_findFit_5 (by decide) (fun c2 => ?_) (fun c2 => ?_)
  · refine aw_aload_n (pc := 8) d_Li_findFit_8 rfl 0 rfl ?_
    refine gt_202 (pc := 9) d_Li_findFit_9 w2_31 t0 (fun tt3 => ?_)
    refine aw_iload_n (pc := 12) d_Li_findFit_12 rfl 3 rfl ?_
    refine aw_iaload (pc := 13) d_Li_findFit_13 tt3 (fun c4 => ?_)
    refine aw_iconst (pc := 14) (x := (-1)) d_Li_findFit_14 (by decide) ?_
    refine aw_icmp_ne (pc := 15) (tgt := 30) d_Li_findFit_15 (by decide) (fun c5 => ?_) (fun c5 => ?_)
    · refine aw_aload_n (pc := 18) d_Li_findFit_18 rfl 0 rfl ?_
      refine gt_202 (pc := 19) d_Li_findFit_19 w2_31 t0 (fun tt6 => ?_)
      refine aw_iload_n (pc := 22) d_Li_findFit_22 rfl 3 rfl ?_
      refine aw_aload_n (pc := 23) d_Li_findFit_23 rfl 2 rfl ?_
      refine aw_aload_n (pc := 24) d_Li_findFit_24 rfl 1 rfl ?_
      refine aw_iload_n (pc := 25) d_Li_findFit_25 rfl 3 rfl ?_
      refine aw_cVrI (pc := 26) (ci := 0) (T := TX0) (N := 8) (As := [.ref l1, .int l3]) (st := [.int l3, .ref (hGr h 202 l0)]) (ok_En_fittingFinales Y l2 l1 l3 h t2 t1) okV_En_fittingFinales rfl (by decide) t2 w6_172 d_Li_findFit_26 rfl (Nat.le_of_ble_eq_true rfl) rfl (Nat.le_of_ble_eq_true rfl) (fun q7 hq7 hTq7 => ?_)
      refine aw_iastore (pc := 29) d_Li_findFit_29 tt6 (fun c8 => ?_)
      refine aw_letH (fun h9 => ?_)
      exact aw_return (pc := 30) d_Li_findFit_30 rfl rfl
    · exact aw_return (pc := 30) d_Li_findFit_30 rfl rfl
  · exact aw_return (pc := 30) d_Li_findFit_30 rfl rfl
/-! LastPages$Life.bindOne(LLastPages$Shelf;II)V -/
theorem d_Li_bindOne_0 : decode prog_4_method_8_code 0 = .ok (.aload_n 1, 1) := by decide +kernel
theorem d_Li_bindOne_1 : decode prog_4_method_8_code 1 = .ok (.iload_n 2, 1) := by decide +kernel
theorem d_Li_bindOne_2 : decode prog_4_method_8_code 2 = .ok (.invokevirtual 83, 3) := by decide +kernel
theorem d_Li_bindOne_5 : decode prog_4_method_8_code 5 = .ok (.ifCond .eq 18, 3) := by decide +kernel
theorem d_Li_bindOne_8 : decode prog_4_method_8_code 8 = .ok (.aload_n 1, 1) := by decide +kernel
theorem d_Li_bindOne_9 : decode prog_4_method_8_code 9 = .ok (.iload_n 2, 1) := by decide +kernel
theorem d_Li_bindOne_10 : decode prog_4_method_8_code 10 = .ok (.iload_n 3, 1) := by decide +kernel
theorem d_Li_bindOne_11 : decode prog_4_method_8_code 11 = .ok (.aload_n 0, 1) := by decide +kernel
theorem d_Li_bindOne_12 : decode prog_4_method_8_code 12 = .ok (.getfield 18, 3) := by decide +kernel
theorem d_Li_bindOne_15 : decode prog_4_method_8_code 15 = .ok (.iload_n 2, 1) := by decide +kernel
theorem d_Li_bindOne_16 : decode prog_4_method_8_code 16 = .ok (.iaload, 1) := by decide +kernel
theorem d_Li_bindOne_17 : decode prog_4_method_8_code 17 = .ok (.invokevirtual 116, 3) := by decide +kernel
theorem d_Li_bindOne_20 : decode prog_4_method_8_code 20 = .ok (.ifCond .ne 14, 3) := by decide +kernel
theorem d_Li_bindOne_23 : decode prog_4_method_8_code 23 = .ok (.aload_n 0, 1) := by decide +kernel
theorem d_Li_bindOne_24 : decode prog_4_method_8_code 24 = .ok (.getfield 9, 3) := by decide +kernel
theorem d_Li_bindOne_27 : decode prog_4_method_8_code 27 = .ok (.iconst 0, 1) := by decide +kernel
theorem d_Li_bindOne_28 : decode prog_4_method_8_code 28 = .ok (.dup2, 1) := by decide +kernel
theorem d_Li_bindOne_29 : decode prog_4_method_8_code 29 = .ok (.iaload, 1) := by decide +kernel
theorem d_Li_bindOne_30 : decode prog_4_method_8_code 30 = .ok (.iconst 1, 1) := by decide +kernel
theorem d_Li_bindOne_31 : decode prog_4_method_8_code 31 = .ok (.iadd, 1) := by decide +kernel
theorem d_Li_bindOne_32 : decode prog_4_method_8_code 32 = .ok (.iastore, 1) := by decide +kernel
theorem d_Li_bindOne_33 : decode prog_4_method_8_code 33 = .ok (.return_, 1) := by decide +kernel
theorem d_Li_bindOne_34 : decode prog_4_method_8_code 34 = .ok (.aload_n 1, 1) := by decide +kernel
theorem d_Li_bindOne_35 : decode prog_4_method_8_code 35 = .ok (.getfield 34, 3) := by decide +kernel
theorem d_Li_bindOne_38 : decode prog_4_method_8_code 38 = .ok (.iload_n 2, 1) := by decide +kernel
theorem d_Li_bindOne_39 : decode prog_4_method_8_code 39 = .ok (.iload_n 3, 1) := by decide +kernel
theorem d_Li_bindOne_40 : decode prog_4_method_8_code 40 = .ok (.iastore, 1) := by decide +kernel
theorem d_Li_bindOne_41 : decode prog_4_method_8_code 41 = .ok (.aload_n 0, 1) := by decide +kernel
theorem d_Li_bindOne_42 : decode prog_4_method_8_code 42 = .ok (.getfield 9, 3) := by decide +kernel
theorem d_Li_bindOne_45 : decode prog_4_method_8_code 45 = .ok (.iconst 1, 1) := by decide +kernel
theorem d_Li_bindOne_46 : decode prog_4_method_8_code 46 = .ok (.dup2, 1) := by decide +kernel
theorem d_Li_bindOne_47 : decode prog_4_method_8_code 47 = .ok (.iaload, 1) := by decide +kernel
theorem d_Li_bindOne_48 : decode prog_4_method_8_code 48 = .ok (.iconst 1, 1) := by decide +kernel
theorem d_Li_bindOne_49 : decode prog_4_method_8_code 49 = .ok (.iadd, 1) := by decide +kernel
theorem d_Li_bindOne_50 : decode prog_4_method_8_code 50 = .ok (.iastore, 1) := by decide +kernel
theorem d_Li_bindOne_51 : decode prog_4_method_8_code 51 = .ok (.return_, 1) := by decide +kernel
def Li_bindOne (Y : Ly) (l0 : Nat) (l1 : Nat) (l2 : Int32) (l3 : Int32) (h : Hp) : Option Hp :=
  (Sh_hasBook Y l1 l2 h).bind fun q1 =>
  if q1 = true then
    if inB l2 (lnY Y (hGr h 202 l0)) = true then
      (Sh_canTake Y l1 l2 l3 (hAi h (hGr h 202 l0) (Int32.toNatClampNeg l2)) h).bind fun q5 =>
      if q5 = true then
        if inB l2 (lnY Y (hGr h 410 l1)) = true then
          letH (hTi h (hGr h 410 l1) (Int32.toNatClampNeg l2) l3) fun h9 =>
          if inB 1 (lnY Y (hGr h9 200 l0)) = true then
            if inB 1 (lnY Y (hGr h9 200 l0)) = true then
              letH (hTi h9 (hGr h9 200 l0) (Int32.toNatClampNeg 1) ((hAi h9 (hGr h9 200 l0) (Int32.toNatClampNeg 1)) + 1)) fun h13 =>
              some h13
            else none
          else none
        else none
      else
        if inB 0 (lnY Y (hGr h 200 l0)) = true then
          if inB 0 (lnY Y (hGr h 200 l0)) = true then
            letH (hTi h (hGr h 200 l0) (Int32.toNatClampNeg 0) ((hAi h (hGr h 200 l0) (Int32.toNatClampNeg 0)) + 1)) fun h17 =>
            some h17
          else none
        else none
    else none
  else
    if inB 0 (lnY Y (hGr h 200 l0)) = true then
      if inB 0 (lnY Y (hGr h 200 l0)) = true then
        letH (hTi h (hGr h 200 l0) (Int32.toNatClampNeg 0) ((hAi h (hGr h 200 l0) (Int32.toNatClampNeg 0)) + 1)) fun h21 =>
        some h21
      else none
    else none
theorem ok_Li_bindOne (Y : Ly) (l0 : Nat) (l1 : Nat) (l2 : Int32) (l3 : Int32) (h : Hp) (t0 : isO Y 2 l0) (t1 : isO Y 4 l1) : AM Y 2 K_Li_bindOne [.ref l0, .ref l1, .int l2, .int l3] h (Li_bindOne Y l0 l1 l2 l3 h) rV := by
  refine AM.of rfl (Nat.le_of_ble_eq_true rfl) ?_
  show AW Y 2 K_Li_bindOne 0 [(0, .ref l0), (1, .ref l1), (2, .int l2), (3, .int l3)] [] h (Li_bindOne Y l0 l1 l2 l3 h) rV
  unfold Li_bindOne
  refine aw_aload_n (pc := 0) d_Li_bindOne_0 rfl 1 rfl ?_
  refine aw_iload_n (pc := 1) d_Li_bindOne_1 rfl 2 rfl ?_
  refine aw_cVpZ (pc := 2) (ci := 4) (T := TX4) (N := 19) (As := [.int l2]) (st := []) (ok_Sh_hasBook Y l1 l2 h t1) okV_Sh_hasBook rfl (by decide) t1 w6_171 d_Li_bindOne_2 rfl (Nat.le_of_ble_eq_true rfl) rfl (Nat.le_of_ble_eq_true rfl) (fun q1 hq1 hTq1 => ?_)
  refine aw_beq (pc := 5) (tgt := 23) d_Li_bindOne_5 (by decide) (fun c2 => ?_) (fun c2 => ?_)
  · refine aw_aload_n (pc := 8) d_Li_bindOne_8 rfl 1 rfl ?_
    refine aw_iload_n (pc := 9) d_Li_bindOne_9 rfl 2 rfl ?_
    refine aw_iload_n (pc := 10) d_Li_bindOne_10 rfl 3 rfl ?_
    refine aw_aload_n (pc := 11) d_Li_bindOne_11 rfl 0 rfl ?_
    refine gt_202 (pc := 12) d_Li_bindOne_12 w2_31 t0 (fun tt3 => ?_)
    refine aw_iload_n (pc := 15) d_Li_bindOne_15 rfl 2 rfl ?_
    refine aw_iaload (pc := 16) d_Li_bindOne_16 tt3 (fun c4 => ?_)
    refine aw_cVpZ (pc := 17) (ci := 4) (T := TX4) (N := 19) (As := [.int l2, .int l3, .int (hAi h (hGr h 202 l0) (Int32.toNatClampNeg l2))]) (st := []) (ok_Sh_canTake Y l1 l2 l3 (hAi h (hGr h 202 l0) (Int32.toNatClampNeg l2)) h t1) okV_Sh_canTake rfl (by decide) t1 w6_181 d_Li_bindOne_17 rfl (Nat.le_of_ble_eq_true rfl) rfl (Nat.le_of_ble_eq_true rfl) (fun q5 hq5 hTq5 => ?_)
    refine aw_bne (pc := 20) (tgt := 34) d_Li_bindOne_20 (by decide) (fun c6 => ?_) (fun c6 => ?_)
    · refine aw_aload_n (pc := 34) d_Li_bindOne_34 rfl 1 rfl ?_
      refine gt_410 (pc := 35) d_Li_bindOne_35 w2_149 t1 (fun tt7 => ?_)
      refine aw_iload_n (pc := 38) d_Li_bindOne_38 rfl 2 rfl ?_
      refine aw_iload_n (pc := 39) d_Li_bindOne_39 rfl 3 rfl ?_
      refine aw_iastore (pc := 40) d_Li_bindOne_40 tt7 (fun c8 => ?_)
      refine aw_letH (fun h9 => ?_)
      refine aw_aload_n (pc := 41) d_Li_bindOne_41 rfl 0 rfl ?_
      refine gt_200 (pc := 42) d_Li_bindOne_42 w2_28 t0 (fun tt10 => ?_)
      refine aw_iconst (pc := 45) (x := 1) d_Li_bindOne_45 (by decide) ?_
      refine aw_dup2_11 (pc := 46) d_Li_bindOne_46 rfl rfl ?_
      refine aw_iaload (pc := 47) d_Li_bindOne_47 tt10 (fun c11 => ?_)
      refine aw_iconst (pc := 48) (x := 1) d_Li_bindOne_48 (by decide) ?_
      refine aw_iadd (pc := 49) d_Li_bindOne_49 ?_
      refine aw_iastore (pc := 50) d_Li_bindOne_50 tt10 (fun c12 => ?_)
      refine aw_letH (fun h13 => ?_)
      exact aw_return (pc := 51) d_Li_bindOne_51 rfl rfl
    · refine aw_aload_n (pc := 23) d_Li_bindOne_23 rfl 0 rfl ?_
      refine gt_200 (pc := 24) d_Li_bindOne_24 w2_28 t0 (fun tt14 => ?_)
      refine aw_iconst (pc := 27) (x := 0) d_Li_bindOne_27 (by decide) ?_
      refine aw_dup2_11 (pc := 28) d_Li_bindOne_28 rfl rfl ?_
      refine aw_iaload (pc := 29) d_Li_bindOne_29 tt14 (fun c15 => ?_)
      refine aw_iconst (pc := 30) (x := 1) d_Li_bindOne_30 (by decide) ?_
      refine aw_iadd (pc := 31) d_Li_bindOne_31 ?_
      refine aw_iastore (pc := 32) d_Li_bindOne_32 tt14 (fun c16 => ?_)
      refine aw_letH (fun h17 => ?_)
      exact aw_return (pc := 33) d_Li_bindOne_33 rfl rfl
  · refine aw_aload_n (pc := 23) d_Li_bindOne_23 rfl 0 rfl ?_
    refine gt_200 (pc := 24) d_Li_bindOne_24 w2_28 t0 (fun tt18 => ?_)
    refine aw_iconst (pc := 27) (x := 0) d_Li_bindOne_27 (by decide) ?_
    refine aw_dup2_11 (pc := 28) d_Li_bindOne_28 rfl rfl ?_
    refine aw_iaload (pc := 29) d_Li_bindOne_29 tt18 (fun c19 => ?_)
    refine aw_iconst (pc := 30) (x := 1) d_Li_bindOne_30 (by decide) ?_
    refine aw_iadd (pc := 31) d_Li_bindOne_31 ?_
    refine aw_iastore (pc := 32) d_Li_bindOne_32 tt18 (fun c20 => ?_)
    refine aw_letH (fun h21 => ?_)
    exact aw_return (pc := 33) d_Li_bindOne_33 rfl rfl
/-! LastPages$Life.drawBy(I)I -/
theorem d_Li_drawBy_0 : decode prog_4_method_11_code 0 = .ok (.aload_n 0, 1) := by decide +kernel
theorem d_Li_drawBy_1 : decode prog_4_method_11_code 1 = .ok (.aload_n 0, 1) := by decide +kernel
theorem d_Li_drawBy_2 : decode prog_4_method_11_code 2 = .ok (.getfield 31, 3) := by decide +kernel
theorem d_Li_drawBy_5 : decode prog_4_method_11_code 5 = .ok (.sipush 2971, 3) := by decide +kernel
theorem d_Li_drawBy_8 : decode prog_4_method_11_code 8 = .ok (.imul, 1) := by decide +kernel
theorem d_Li_drawBy_9 : decode prog_4_method_11_code 9 = .ok (.sipush 10687, 3) := by decide +kernel
theorem d_Li_drawBy_12 : decode prog_4_method_11_code 12 = .ok (.iadd, 1) := by decide +kernel
theorem d_Li_drawBy_13 : decode prog_4_method_11_code 13 = .ok (.ldc 136, 2) := by decide +kernel
theorem d_Li_drawBy_15 : decode prog_4_method_11_code 15 = .ok (.irem, 1) := by decide +kernel
theorem d_Li_drawBy_16 : decode prog_4_method_11_code 16 = .ok (.putfield 31, 3) := by decide +kernel
theorem d_Li_drawBy_19 : decode prog_4_method_11_code 19 = .ok (.iload_n 1, 1) := by decide +kernel
theorem d_Li_drawBy_20 : decode prog_4_method_11_code 20 = .ok (.ifCond .le 15, 3) := by decide +kernel
theorem d_Li_drawBy_23 : decode prog_4_method_11_code 23 = .ok (.aload_n 0, 1) := by decide +kernel
theorem d_Li_drawBy_24 : decode prog_4_method_11_code 24 = .ok (.getfield 31, 3) := by decide +kernel
theorem d_Li_drawBy_27 : decode prog_4_method_11_code 27 = .ok (.bipush 8, 2) := by decide +kernel
theorem d_Li_drawBy_29 : decode prog_4_method_11_code 29 = .ok (.idiv, 1) := by decide +kernel
theorem d_Li_drawBy_30 : decode prog_4_method_11_code 30 = .ok (.iload_n 1, 1) := by decide +kernel
theorem d_Li_drawBy_31 : decode prog_4_method_11_code 31 = .ok (.irem, 1) := by decide +kernel
theorem d_Li_drawBy_32 : decode prog_4_method_11_code 32 = .ok (.goto 4, 3) := by decide +kernel
theorem d_Li_drawBy_35 : decode prog_4_method_11_code 35 = .ok (.iconst 0, 1) := by decide +kernel
theorem d_Li_drawBy_36 : decode prog_4_method_11_code 36 = .ok (.ireturn, 1) := by decide +kernel
def Li_drawBy (Y : Ly) (l0 : Nat) (l1 : Int32) (h : Hp) : Option (Int32 × Hp) :=
  letH (hSi h 206 l0 ((((hGi h 206 l0) * 2971) + 10687) - (((hGi h 206 l0) * 2971) + 10687) / 65536 * 65536)) fun h1 =>
  if l1 ≤ 0 then
    some (0, h1)
  else
    if l1 = 0 then none else
    some (((hGi h1 206 l0) / 8) - ((hGi h1 206 l0) / 8) / l1 * l1, h1)
theorem ok_Li_drawBy (Y : Ly) (l0 : Nat) (l1 : Int32) (h : Hp) (t0 : isO Y 2 l0) : AM Y 0 K_Li_drawBy [.ref l0, .int l1] h (Li_drawBy Y l0 l1 h) rI := by
  refine AM.of rfl (Nat.le_of_ble_eq_true rfl) ?_
  show AW Y 0 K_Li_drawBy 0 [(0, .ref l0), (1, .int l1)] [] h (Li_drawBy Y l0 l1 h) rI
  unfold Li_drawBy
  refine aw_aload_n (pc := 0) d_Li_drawBy_0 rfl 0 rfl ?_
  refine aw_aload_n (pc := 1) d_Li_drawBy_1 rfl 0 rfl ?_
  refine gt_206 (pc := 2) d_Li_drawBy_2 w2_36 t0 ?_
  refine aw_sipush (pc := 5) (x := 2971) d_Li_drawBy_5 (by decide) ?_
  refine aw_imul (pc := 8) d_Li_drawBy_8 ?_
  refine aw_sipush (pc := 9) (x := 10687) d_Li_drawBy_9 (by decide) ?_
  refine aw_iadd (pc := 12) d_Li_drawBy_12 ?_
  refine aw_ldc (pc := 13) d_Li_drawBy_13 w6_197 ?_
  refine aw_irem (pc := 15) d_Li_drawBy_15 (by decide) ?_
  refine pt_206 (pc := 16) d_Li_drawBy_16 w2_36 t0 ?_
  refine aw_letH (fun h1 => ?_)
  refine aw_iload_n (pc := 19) d_Li_drawBy_19 rfl 1 rfl ?_
  refine aw_if_le (pc := 20) (tgt := 35) d_Li_drawBy_20 (by decide) (fun c2 => ?_) (fun c2 => ?_)
  · refine aw_iconst (pc := 35) (x := 0) d_Li_drawBy_35 (by decide) ?_
    exact aw_ireturn (pc := 36) d_Li_drawBy_36 rfl rfl
  · refine aw_aload_n (pc := 23) d_Li_drawBy_23 rfl 0 rfl ?_
    refine gt_206 (pc := 24) d_Li_drawBy_24 w2_36 t0 ?_
    refine aw_bipush (pc := 27) (x := 8) d_Li_drawBy_27 (by decide) ?_
    refine aw_idiv (pc := 29) d_Li_drawBy_29 (by decide) ?_
    refine aw_iload_n (pc := 30) d_Li_drawBy_30 rfl 1 rfl ?_
    refine aw_cases (fun _ => aw_none) (fun c3 => ?_)
    refine aw_irem (pc := 31) d_Li_drawBy_31 c3 ?_
    refine aw_goto (pc := 32) (tgt := 36) d_Li_drawBy_32 (by decide) ?_
    exact aw_ireturn (pc := 36) d_Li_drawBy_36 rfl rfl
/-! LastPages$Life.guessOne(LLastPages$Shelf;I)V -/
theorem d_Li_guessOne_0 : decode prog_4_method_10_code 0 = .ok (.aload_n 1, 1) := by decide +kernel
theorem d_Li_guessOne_1 : decode prog_4_method_10_code 1 = .ok (.iload_n 2, 1) := by decide +kernel
theorem d_Li_guessOne_2 : decode prog_4_method_10_code 2 = .ok (.invokevirtual 83, 3) := by decide +kernel
theorem d_Li_guessOne_5 : decode prog_4_method_10_code 5 = .ok (.ifCond .eq 29, 3) := by decide +kernel
theorem d_Li_guessOne_8 : decode prog_4_method_10_code 8 = .ok (.aload_n 1, 1) := by decide +kernel
theorem d_Li_guessOne_9 : decode prog_4_method_10_code 9 = .ok (.getfield 34, 3) := by decide +kernel
theorem d_Li_guessOne_12 : decode prog_4_method_10_code 12 = .ok (.iload_n 2, 1) := by decide +kernel
theorem d_Li_guessOne_13 : decode prog_4_method_10_code 13 = .ok (.iaload, 1) := by decide +kernel
theorem d_Li_guessOne_14 : decode prog_4_method_10_code 14 = .ok (.iconst (-1), 1) := by decide +kernel
theorem d_Li_guessOne_15 : decode prog_4_method_10_code 15 = .ok (.if_icmp .ne 19, 3) := by decide +kernel
theorem d_Li_guessOne_18 : decode prog_4_method_10_code 18 = .ok (.aload_n 0, 1) := by decide +kernel
theorem d_Li_guessOne_19 : decode prog_4_method_10_code 19 = .ok (.getfield 18, 3) := by decide +kernel
theorem d_Li_guessOne_22 : decode prog_4_method_10_code 22 = .ok (.iload_n 2, 1) := by decide +kernel
theorem d_Li_guessOne_23 : decode prog_4_method_10_code 23 = .ok (.iaload, 1) := by decide +kernel
theorem d_Li_guessOne_24 : decode prog_4_method_10_code 24 = .ok (.aload_n 1, 1) := by decide +kernel
theorem d_Li_guessOne_25 : decode prog_4_method_10_code 25 = .ok (.invokevirtual 120, 3) := by decide +kernel
theorem d_Li_guessOne_28 : decode prog_4_method_10_code 28 = .ok (.iconst (-1), 1) := by decide +kernel
theorem d_Li_guessOne_29 : decode prog_4_method_10_code 29 = .ok (.ixor, 1) := by decide +kernel
theorem d_Li_guessOne_30 : decode prog_4_method_10_code 30 = .ok (.iand, 1) := by decide +kernel
theorem d_Li_guessOne_31 : decode prog_4_method_10_code 31 = .ok (.goto 4, 3) := by decide +kernel
theorem d_Li_guessOne_34 : decode prog_4_method_10_code 34 = .ok (.iconst 0, 1) := by decide +kernel
theorem d_Li_guessOne_35 : decode prog_4_method_10_code 35 = .ok (.istore_n 3, 1) := by decide +kernel
theorem d_Li_guessOne_36 : decode prog_4_method_10_code 36 = .ok (.iload_n 3, 1) := by decide +kernel
theorem d_Li_guessOne_37 : decode prog_4_method_10_code 37 = .ok (.ifCond .ne 14, 3) := by decide +kernel
theorem d_Li_guessOne_40 : decode prog_4_method_10_code 40 = .ok (.aload_n 0, 1) := by decide +kernel
theorem d_Li_guessOne_41 : decode prog_4_method_10_code 41 = .ok (.getfield 9, 3) := by decide +kernel
theorem d_Li_guessOne_44 : decode prog_4_method_10_code 44 = .ok (.iconst 0, 1) := by decide +kernel
theorem d_Li_guessOne_45 : decode prog_4_method_10_code 45 = .ok (.dup2, 1) := by decide +kernel
theorem d_Li_guessOne_46 : decode prog_4_method_10_code 46 = .ok (.iaload, 1) := by decide +kernel
theorem d_Li_guessOne_47 : decode prog_4_method_10_code 47 = .ok (.iconst 1, 1) := by decide +kernel
theorem d_Li_guessOne_48 : decode prog_4_method_10_code 48 = .ok (.iadd, 1) := by decide +kernel
theorem d_Li_guessOne_49 : decode prog_4_method_10_code 49 = .ok (.iastore, 1) := by decide +kernel
theorem d_Li_guessOne_50 : decode prog_4_method_10_code 50 = .ok (.return_, 1) := by decide +kernel
theorem d_Li_guessOne_51 : decode prog_4_method_10_code 51 = .ok (.aload_n 0, 1) := by decide +kernel
theorem d_Li_guessOne_52 : decode prog_4_method_10_code 52 = .ok (.iload_n 3, 1) := by decide +kernel
theorem d_Li_guessOne_53 : decode prog_4_method_10_code 53 = .ok (.invokestatic 124, 3) := by decide +kernel
theorem d_Li_guessOne_56 : decode prog_4_method_10_code 56 = .ok (.invokevirtual 130, 3) := by decide +kernel
theorem d_Li_guessOne_59 : decode prog_4_method_10_code 59 = .ok (.istore 4, 2) := by decide +kernel
theorem d_Li_guessOne_61 : decode prog_4_method_10_code 61 = .ok (.iconst 0, 1) := by decide +kernel
theorem d_Li_guessOne_62 : decode prog_4_method_10_code 62 = .ok (.istore 5, 2) := by decide +kernel
theorem d_Li_guessOne_64 : decode prog_4_method_10_code 64 = .ok (.iload 5, 2) := by decide +kernel
theorem d_Li_guessOne_66 : decode prog_4_method_10_code 66 = .ok (.iload 4, 2) := by decide +kernel
theorem d_Li_guessOne_68 : decode prog_4_method_10_code 68 = .ok (.if_icmp .ge 15, 3) := by decide +kernel
theorem d_Li_guessOne_71 : decode prog_4_method_10_code 71 = .ok (.iload_n 3, 1) := by decide +kernel
theorem d_Li_guessOne_72 : decode prog_4_method_10_code 72 = .ok (.iload_n 3, 1) := by decide +kernel
theorem d_Li_guessOne_73 : decode prog_4_method_10_code 73 = .ok (.iconst 1, 1) := by decide +kernel
theorem d_Li_guessOne_74 : decode prog_4_method_10_code 74 = .ok (.isub, 1) := by decide +kernel
theorem d_Li_guessOne_75 : decode prog_4_method_10_code 75 = .ok (.iand, 1) := by decide +kernel
theorem d_Li_guessOne_76 : decode prog_4_method_10_code 76 = .ok (.istore_n 3, 1) := by decide +kernel
theorem d_Li_guessOne_77 : decode prog_4_method_10_code 77 = .ok (.iinc 5 1, 3) := by decide +kernel
theorem d_Li_guessOne_80 : decode prog_4_method_10_code 80 = .ok (.goto (-16), 3) := by decide +kernel
theorem d_Li_guessOne_83 : decode prog_4_method_10_code 83 = .ok (.aload_n 1, 1) := by decide +kernel
theorem d_Li_guessOne_84 : decode prog_4_method_10_code 84 = .ok (.getfield 34, 3) := by decide +kernel
theorem d_Li_guessOne_87 : decode prog_4_method_10_code 87 = .ok (.iload_n 2, 1) := by decide +kernel
theorem d_Li_guessOne_88 : decode prog_4_method_10_code 88 = .ok (.iload_n 3, 1) := by decide +kernel
theorem d_Li_guessOne_89 : decode prog_4_method_10_code 89 = .ok (.invokestatic 133, 3) := by decide +kernel
theorem d_Li_guessOne_92 : decode prog_4_method_10_code 92 = .ok (.iastore, 1) := by decide +kernel
theorem d_Li_guessOne_93 : decode prog_4_method_10_code 93 = .ok (.aload_n 0, 1) := by decide +kernel
theorem d_Li_guessOne_94 : decode prog_4_method_10_code 94 = .ok (.getfield 9, 3) := by decide +kernel
theorem d_Li_guessOne_97 : decode prog_4_method_10_code 97 = .ok (.iconst 1, 1) := by decide +kernel
theorem d_Li_guessOne_98 : decode prog_4_method_10_code 98 = .ok (.dup2, 1) := by decide +kernel
theorem d_Li_guessOne_99 : decode prog_4_method_10_code 99 = .ok (.iaload, 1) := by decide +kernel
theorem d_Li_guessOne_100 : decode prog_4_method_10_code 100 = .ok (.iconst 1, 1) := by decide +kernel
theorem d_Li_guessOne_101 : decode prog_4_method_10_code 101 = .ok (.iadd, 1) := by decide +kernel
theorem d_Li_guessOne_102 : decode prog_4_method_10_code 102 = .ok (.iastore, 1) := by decide +kernel
theorem d_Li_guessOne_103 : decode prog_4_method_10_code 103 = .ok (.aload_n 0, 1) := by decide +kernel
theorem d_Li_guessOne_104 : decode prog_4_method_10_code 104 = .ok (.getfield 9, 3) := by decide +kernel
theorem d_Li_guessOne_107 : decode prog_4_method_10_code 107 = .ok (.iconst 3, 1) := by decide +kernel
theorem d_Li_guessOne_108 : decode prog_4_method_10_code 108 = .ok (.dup2, 1) := by decide +kernel
theorem d_Li_guessOne_109 : decode prog_4_method_10_code 109 = .ok (.iaload, 1) := by decide +kernel
theorem d_Li_guessOne_110 : decode prog_4_method_10_code 110 = .ok (.iconst 1, 1) := by decide +kernel
theorem d_Li_guessOne_111 : decode prog_4_method_10_code 111 = .ok (.iadd, 1) := by decide +kernel
theorem d_Li_guessOne_112 : decode prog_4_method_10_code 112 = .ok (.iastore, 1) := by decide +kernel
theorem d_Li_guessOne_113 : decode prog_4_method_10_code 113 = .ok (.return_, 1) := by decide +kernel
def Li_guessOne_L64 (Y : Ly) (l0 : Nat) (l1 : Nat) (l2 : Int32) (l4 : Int32) (h : Hp) : Nat → Int32 → Int32 → Option Hp
  | 0, _, _ => none
  | F + 1, l3, l5 =>
    if l4 ≤ l5 then
      (J_ntz Y l3 h).bind fun q18 =>
      if inB l2 (lnY Y (hGr h 410 l1)) = true then
        letH (hTi h (hGr h 410 l1) (Int32.toNatClampNeg l2) q18) fun h20 =>
        if inB 1 (lnY Y (hGr h20 200 l0)) = true then
          if inB 1 (lnY Y (hGr h20 200 l0)) = true then
            letH (hTi h20 (hGr h20 200 l0) (Int32.toNatClampNeg 1) ((hAi h20 (hGr h20 200 l0) (Int32.toNatClampNeg 1)) + 1)) fun h24 =>
            if inB 3 (lnY Y (hGr h24 200 l0)) = true then
              if inB 3 (lnY Y (hGr h24 200 l0)) = true then
                letH (hTi h24 (hGr h24 200 l0) (Int32.toNatClampNeg 3) ((hAi h24 (hGr h24 200 l0) (Int32.toNatClampNeg 3)) + 1)) fun h28 =>
                some h28
              else none
            else none
          else none
        else none
      else none
    else
      Li_guessOne_L64 Y l0 l1 l2 l4 h F (l3 &&& (l3 - 1)) (l5 + 1)
theorem Li_guessOne_L64_ok (Y : Ly) (l0 : Nat) (l1 : Nat) (l2 : Int32) (l4 : Int32) (h : Hp) (tl0 : isO Y 2 l0) (tl1 : isO Y 4 l1) : ∀ (F : Nat) (l3 : Int32) (l5 : Int32), AW Y 1 K_Li_guessOne 64 [(0, .ref l0), (1, .ref l1), (2, .int l2), (3, .int l3), (4, .int l4), (5, .int l5)] [] h (Li_guessOne_L64 Y l0 l1 l2 l4 h F l3 l5) rV := by
  intro F
  induction F with
  | zero =>
    intro l3 l5
    exact aw_none
  | succ F ih =>
    intro l3 l5
    unfold Li_guessOne_L64
    refine aw_iload (pc := 64) d_Li_guessOne_64 5 rfl ?_
    refine aw_iload (pc := 66) d_Li_guessOne_66 4 rfl ?_
    refine aw_icmp_ge (pc := 68) (tgt := 83) d_Li_guessOne_68 (by decide) (fun c16 => ?_) (fun c16 => ?_)
    · refine aw_aload_n (pc := 83) d_Li_guessOne_83 rfl 1 rfl ?_
      refine gt_410 (pc := 84) d_Li_guessOne_84 w2_149 tl1 (fun tt17 => ?_)
      refine aw_iload_n (pc := 87) d_Li_guessOne_87 rfl 2 rfl ?_
      refine aw_iload_n (pc := 88) d_Li_guessOne_88 rfl 3 rfl ?_
      refine aw_cSpI (pc := 89) (As := [.int l3]) (st := [.int l2, .ref (hGr h 410 l1)]) (ok_J_ntz Y l3 h) okS_J_ntz w6_198 d_Li_guessOne_89 rfl (Nat.le_of_ble_eq_true rfl) rfl (Nat.le_of_ble_eq_true rfl) (fun q18 hq18 hTq18 => ?_)
      refine aw_iastore (pc := 92) d_Li_guessOne_92 tt17 (fun c19 => ?_)
      refine aw_letH (fun h20 => ?_)
      refine aw_aload_n (pc := 93) d_Li_guessOne_93 rfl 0 rfl ?_
      refine gt_200 (pc := 94) d_Li_guessOne_94 w2_28 tl0 (fun tt21 => ?_)
      refine aw_iconst (pc := 97) (x := 1) d_Li_guessOne_97 (by decide) ?_
      refine aw_dup2_11 (pc := 98) d_Li_guessOne_98 rfl rfl ?_
      refine aw_iaload (pc := 99) d_Li_guessOne_99 tt21 (fun c22 => ?_)
      refine aw_iconst (pc := 100) (x := 1) d_Li_guessOne_100 (by decide) ?_
      refine aw_iadd (pc := 101) d_Li_guessOne_101 ?_
      refine aw_iastore (pc := 102) d_Li_guessOne_102 tt21 (fun c23 => ?_)
      refine aw_letH (fun h24 => ?_)
      refine aw_aload_n (pc := 103) d_Li_guessOne_103 rfl 0 rfl ?_
      refine gt_200 (pc := 104) d_Li_guessOne_104 w2_28 tl0 (fun tt25 => ?_)
      refine aw_iconst (pc := 107) (x := 3) d_Li_guessOne_107 (by decide) ?_
      refine aw_dup2_11 (pc := 108) d_Li_guessOne_108 rfl rfl ?_
      refine aw_iaload (pc := 109) d_Li_guessOne_109 tt25 (fun c26 => ?_)
      refine aw_iconst (pc := 110) (x := 1) d_Li_guessOne_110 (by decide) ?_
      refine aw_iadd (pc := 111) d_Li_guessOne_111 ?_
      refine aw_iastore (pc := 112) d_Li_guessOne_112 tt25 (fun c27 => ?_)
      refine aw_letH (fun h28 => ?_)
      exact aw_return (pc := 113) d_Li_guessOne_113 rfl rfl
    · refine aw_iload_n (pc := 71) d_Li_guessOne_71 rfl 3 rfl ?_
      refine aw_iload_n (pc := 72) d_Li_guessOne_72 rfl 3 rfl ?_
      refine aw_iconst (pc := 73) (x := 1) d_Li_guessOne_73 (by decide) ?_
      refine aw_isub (pc := 74) d_Li_guessOne_74 ?_
      refine aw_iand (pc := 75) d_Li_guessOne_75 ?_
      refine aw_istore_n (pc := 76) (lv' := [(3, .int (l3 &&& (l3 - 1))), (0, .ref l0), (1, .ref l1), (2, .int l2), (4, .int l4), (5, .int l5)]) d_Li_guessOne_76 rfl (by decide) rfl ?_
      refine aw_iinc (pc := 77) (w := l5 + 1) (lv' := [(5, .int (l5 + 1)), (3, .int (l3 &&& (l3 - 1))), (0, .ref l0), (1, .ref l1), (2, .int l2), (4, .int l4)]) d_Li_guessOne_77 5 rfl rfl (by decide) rfl ?_
      refine aw_goto (pc := 80) (tgt := 64) d_Li_guessOne_80 (by decide) ?_
      exact aw_lv [2, 3, 4, 1, 5, 0] rfl (ih (l3 &&& (l3 - 1)) (l5 + 1))
def Li_guessOne_J35 (Y : Ly) (l0 : Nat) (l1 : Nat) (l2 : Int32) (s0 : Int32) (h : Hp) : Option Hp :=
  if s0 = 0 then
    if inB 0 (lnY Y (hGr h 200 l0)) = true then
      if inB 0 (lnY Y (hGr h 200 l0)) = true then
        letH (hTi h (hGr h 200 l0) (Int32.toNatClampNeg 0) ((hAi h (hGr h 200 l0) (Int32.toNatClampNeg 0)) + 1)) fun h13 =>
        some h13
      else none
    else none
  else
    (J_bitCount Y s0 h).bind fun q14 =>
    (Li_drawBy Y l0 q14 h).bind fun q15 =>
    Li_guessOne_L64 Y l0 l1 l2 q15.1 q15.2 FU s0 0
theorem Li_guessOne_J35_ok (Y : Ly) (l0 : Nat) (l1 : Nat) (l2 : Int32) (s0 : Int32) (h : Hp) (tl0 : isO Y 2 l0) (tl1 : isO Y 4 l1) : AW Y 1 K_Li_guessOne 35 [(0, .ref l0), (1, .ref l1), (2, .int l2)] [.int s0] h (Li_guessOne_J35 Y l0 l1 l2 s0 h) rV := by
  unfold Li_guessOne_J35
  refine aw_istore_n (pc := 35) (lv' := [(3, .int s0), (0, .ref l0), (1, .ref l1), (2, .int l2)]) d_Li_guessOne_35 rfl (by decide) rfl ?_
  refine aw_iload_n (pc := 36) d_Li_guessOne_36 rfl 0 rfl ?_
  refine aw_if_ne (pc := 37) (tgt := 51) d_Li_guessOne_37 (by decide) (fun c9 => ?_) (fun c9 => ?_)
  · refine aw_aload_n (pc := 40) d_Li_guessOne_40 rfl 1 rfl ?_
    refine gt_200 (pc := 41) d_Li_guessOne_41 w2_28 tl0 (fun tt10 => ?_)
    refine aw_iconst (pc := 44) (x := 0) d_Li_guessOne_44 (by decide) ?_
    refine aw_dup2_11 (pc := 45) d_Li_guessOne_45 rfl rfl ?_
    refine aw_iaload (pc := 46) d_Li_guessOne_46 tt10 (fun c11 => ?_)
    refine aw_iconst (pc := 47) (x := 1) d_Li_guessOne_47 (by decide) ?_
    refine aw_iadd (pc := 48) d_Li_guessOne_48 ?_
    refine aw_iastore (pc := 49) d_Li_guessOne_49 tt10 (fun c12 => ?_)
    refine aw_letH (fun h13 => ?_)
    exact aw_return (pc := 50) d_Li_guessOne_50 rfl rfl
  · refine aw_aload_n (pc := 51) d_Li_guessOne_51 rfl 1 rfl ?_
    refine aw_iload_n (pc := 52) d_Li_guessOne_52 rfl 0 rfl ?_
    refine aw_cSpI (pc := 53) (As := [.int s0]) (st := [.ref l0]) (ok_J_bitCount Y s0 h) okS_J_bitCount w6_192 d_Li_guessOne_53 rfl (Nat.le_of_ble_eq_true rfl) rfl (Nat.le_of_ble_eq_true rfl) (fun q14 hq14 hTq14 => ?_)
    refine aw_cVrI (pc := 56) (ci := 2) (T := TX2) (N := 7) (As := [.int q14]) (st := []) (ok_Li_drawBy Y l0 q14 h tl0) okV_Li_drawBy rfl (by decide) tl0 w6_193 d_Li_guessOne_56 rfl (Nat.le_of_ble_eq_true rfl) rfl (Nat.le_of_ble_eq_true rfl) (fun q15 hq15 hTq15 => ?_)
    refine aw_istore (pc := 59) (lv' := [(4, .int q15.1), (3, .int s0), (0, .ref l0), (1, .ref l1), (2, .int l2)]) d_Li_guessOne_59 (by decide) rfl ?_
    refine aw_iconst (pc := 61) (x := 0) d_Li_guessOne_61 (by decide) ?_
    refine aw_istore (pc := 62) (lv' := [(5, .int 0), (4, .int q15.1), (3, .int s0), (0, .ref l0), (1, .ref l1), (2, .int l2)]) d_Li_guessOne_62 (by decide) rfl ?_
    exact aw_lv [3, 4, 5, 2, 1, 0] rfl (Li_guessOne_L64_ok Y l0 l1 l2 q15.1 q15.2 tl0 tl1 FU s0 0)
def Li_guessOne_J34 (Y : Ly) (l0 : Nat) (l1 : Nat) (l2 : Int32) (h : Hp) : Option Hp :=
  Li_guessOne_J35 Y l0 l1 l2 0 h
theorem Li_guessOne_J34_ok (Y : Ly) (l0 : Nat) (l1 : Nat) (l2 : Int32) (h : Hp) (tl0 : isO Y 2 l0) (tl1 : isO Y 4 l1) : AW Y 1 K_Li_guessOne 34 [(0, .ref l0), (1, .ref l1), (2, .int l2)] [] h (Li_guessOne_J34 Y l0 l1 l2 h) rV := by
  unfold Li_guessOne_J34
  refine aw_iconst (pc := 34) (x := 0) d_Li_guessOne_34 (by decide) ?_
  exact aw_lv [0, 1, 2] rfl (Li_guessOne_J35_ok Y l0 l1 l2 0 h tl0 tl1)
def Li_guessOne (Y : Ly) (l0 : Nat) (l1 : Nat) (l2 : Int32) (h : Hp) : Option Hp :=
  (Sh_hasBook Y l1 l2 h).bind fun q1 =>
  if q1 = true then
    if inB l2 (lnY Y (hGr h 410 l1)) = true then
      if (hAi h (hGr h 410 l1) (Int32.toNatClampNeg l2)) = (-1) then
        if inB l2 (lnY Y (hGr h 202 l0)) = true then
          (Sh_boundFinales Y l1 h).bind fun q8 =>
          Li_guessOne_J35 Y l0 l1 l2 ((hAi h (hGr h 202 l0) (Int32.toNatClampNeg l2)) &&& (q8 ^^^ (-1))) h
        else none
      else
        Li_guessOne_J34 Y l0 l1 l2 h
    else none
  else
    Li_guessOne_J34 Y l0 l1 l2 h
theorem ok_Li_guessOne (Y : Ly) (l0 : Nat) (l1 : Nat) (l2 : Int32) (h : Hp) (t0 : isO Y 2 l0) (t1 : isO Y 4 l1) : AM Y 1 K_Li_guessOne [.ref l0, .ref l1, .int l2] h (Li_guessOne Y l0 l1 l2 h) rV := by
  refine AM.of rfl (Nat.le_of_ble_eq_true rfl) ?_
  show AW Y 1 K_Li_guessOne 0 [(0, .ref l0), (1, .ref l1), (2, .int l2)] [] h (Li_guessOne Y l0 l1 l2 h) rV
  unfold Li_guessOne
  refine aw_aload_n (pc := 0) d_Li_guessOne_0 rfl 1 rfl ?_
  refine aw_iload_n (pc := 1) d_Li_guessOne_1 rfl 2 rfl ?_
  refine aw_cVpZ (pc := 2) (ci := 4) (T := TX4) (N := 19) (As := [.int l2]) (st := []) (ok_Sh_hasBook Y l1 l2 h t1) okV_Sh_hasBook rfl (by decide) t1 w6_171 d_Li_guessOne_2 rfl (Nat.le_of_ble_eq_true rfl) rfl (Nat.le_of_ble_eq_true rfl) (fun q1 hq1 hTq1 => ?_)
  refine aw_beq (pc := 5) (tgt := 34) d_Li_guessOne_5 (by decide) (fun c2 => ?_) (fun c2 => ?_)
  · refine aw_aload_n (pc := 8) d_Li_guessOne_8 rfl 1 rfl ?_
    refine gt_410 (pc := 9) d_Li_guessOne_9 w2_149 t1 (fun tt3 => ?_)
    refine aw_iload_n (pc := 12) d_Li_guessOne_12 rfl 2 rfl ?_
    refine aw_iaload (pc := 13) d_Li_guessOne_13 tt3 (fun c4 => ?_)
    refine aw_iconst (pc := 14) (x := (-1)) d_Li_guessOne_14 (by decide) ?_
    refine aw_icmp_ne (pc := 15) (tgt := 34) d_Li_guessOne_15 (by decide) (fun c5 => ?_) (fun c5 => ?_)
    · refine aw_aload_n (pc := 18) d_Li_guessOne_18 rfl 0 rfl ?_
      refine gt_202 (pc := 19) d_Li_guessOne_19 w2_31 t0 (fun tt6 => ?_)
      refine aw_iload_n (pc := 22) d_Li_guessOne_22 rfl 2 rfl ?_
      refine aw_iaload (pc := 23) d_Li_guessOne_23 tt6 (fun c7 => ?_)
      refine aw_aload_n (pc := 24) d_Li_guessOne_24 rfl 1 rfl ?_
      refine aw_cVpI (pc := 25) (ci := 4) (T := TX4) (N := 19) (As := []) (st := [.int (hAi h (hGr h 202 l0) (Int32.toNatClampNeg l2))]) (ok_Sh_boundFinales Y l1 h t1) okV_Sh_boundFinales rfl (by decide) t1 w6_191 d_Li_guessOne_25 rfl (Nat.le_of_ble_eq_true rfl) rfl (Nat.le_of_ble_eq_true rfl) (fun q8 hq8 hTq8 => ?_)
      refine aw_iconst (pc := 28) (x := (-1)) d_Li_guessOne_28 (by decide) ?_
      refine aw_ixor (pc := 29) d_Li_guessOne_29 ?_
      refine aw_iand (pc := 30) d_Li_guessOne_30 ?_
      refine aw_goto (pc := 31) (tgt := 35) d_Li_guessOne_31 (by decide) ?_
      exact aw_lv [0, 1, 2] rfl (Li_guessOne_J35_ok Y l0 l1 l2 ((hAi h (hGr h 202 l0) (Int32.toNatClampNeg l2)) &&& (q8 ^^^ (-1))) h t0 t1)
    · exact aw_lv [0, 1, 2] rfl (Li_guessOne_J34_ok Y l0 l1 l2 h t0 t1)
  · exact aw_lv [0, 1, 2] rfl (Li_guessOne_J34_ok Y l0 l1 l2 h t0 t1)
/-! LastPages$Life.compares(III)Z -/
theorem d_Li_compares_0 : decode prog_4_method_13_code 0 = .ok (.iload_n 1, 1) := by decide +kernel
theorem d_Li_compares_1 : decode prog_4_method_13_code 1 = .ok (.lookupswitch 49 #[(60, 27), (62, 38)], 27) := by decide +kernel
theorem d_Li_compares_28 : decode prog_4_method_13_code 28 = .ok (.iload_n 0, 1) := by decide +kernel
theorem d_Li_compares_29 : decode prog_4_method_13_code 29 = .ok (.iload_n 2, 1) := by decide +kernel
theorem d_Li_compares_30 : decode prog_4_method_13_code 30 = .ok (.if_icmp .ge 7, 3) := by decide +kernel
theorem d_Li_compares_33 : decode prog_4_method_13_code 33 = .ok (.iconst 1, 1) := by decide +kernel
theorem d_Li_compares_34 : decode prog_4_method_13_code 34 = .ok (.goto 4, 3) := by decide +kernel
theorem d_Li_compares_37 : decode prog_4_method_13_code 37 = .ok (.iconst 0, 1) := by decide +kernel
theorem d_Li_compares_38 : decode prog_4_method_13_code 38 = .ok (.ireturn, 1) := by decide +kernel
theorem d_Li_compares_39 : decode prog_4_method_13_code 39 = .ok (.iload_n 0, 1) := by decide +kernel
theorem d_Li_compares_40 : decode prog_4_method_13_code 40 = .ok (.iload_n 2, 1) := by decide +kernel
theorem d_Li_compares_41 : decode prog_4_method_13_code 41 = .ok (.if_icmp .le 7, 3) := by decide +kernel
theorem d_Li_compares_44 : decode prog_4_method_13_code 44 = .ok (.iconst 1, 1) := by decide +kernel
theorem d_Li_compares_45 : decode prog_4_method_13_code 45 = .ok (.goto 4, 3) := by decide +kernel
theorem d_Li_compares_48 : decode prog_4_method_13_code 48 = .ok (.iconst 0, 1) := by decide +kernel
theorem d_Li_compares_49 : decode prog_4_method_13_code 49 = .ok (.ireturn, 1) := by decide +kernel
theorem d_Li_compares_50 : decode prog_4_method_13_code 50 = .ok (.iload_n 0, 1) := by decide +kernel
theorem d_Li_compares_51 : decode prog_4_method_13_code 51 = .ok (.iload_n 2, 1) := by decide +kernel
theorem d_Li_compares_52 : decode prog_4_method_13_code 52 = .ok (.if_icmp .ne 7, 3) := by decide +kernel
theorem d_Li_compares_55 : decode prog_4_method_13_code 55 = .ok (.iconst 1, 1) := by decide +kernel
theorem d_Li_compares_56 : decode prog_4_method_13_code 56 = .ok (.goto 4, 3) := by decide +kernel
theorem d_Li_compares_59 : decode prog_4_method_13_code 59 = .ok (.iconst 0, 1) := by decide +kernel
theorem d_Li_compares_60 : decode prog_4_method_13_code 60 = .ok (.ireturn, 1) := by decide +kernel
def Li_compares (Y : Ly) (l0 : Int32) (l1 : Int32) (l2 : Int32) (h : Hp) : Option Bool :=
  if l1 = 60 then
    if l2 ≤ l0 then
      some false
    else
      some true
  else
  if l1 = 62 then
    if l0 ≤ l2 then
      some false
    else
      some true
  else
  if l0 = l2 then
    some true
  else
    some false
theorem ok_Li_compares (Y : Ly) (l0 : Int32) (l1 : Int32) (l2 : Int32) (h : Hp) : AM Y 0 K_Li_compares [.int l0, .int l1, .int l2] h (Li_compares Y l0 l1 l2 h) (pZ h) := by
  refine AM.of rfl (Nat.le_of_ble_eq_true rfl) ?_
  show AW Y 0 K_Li_compares 0 [(0, .int l0), (1, .int l1), (2, .int l2)] [] h (Li_compares Y l0 l1 l2 h) (pZ h)
  unfold Li_compares
  refine aw_iload_n (pc := 0) d_Li_compares_0 rfl 1 rfl ?_
  refine aw_cases (fun c1 => ?_) (fun c1 => ?_)
  · refine aw_lks (pc := 1) (tgt := 28) (off := 27) d_Li_compares_1 (by decide) (by rw [c1]; rfl) (by decide) ?_
    refine aw_iload_n (pc := 28) d_Li_compares_28 rfl 0 rfl ?_
    refine aw_iload_n (pc := 29) d_Li_compares_29 rfl 2 rfl ?_
    refine aw_icmp_ge (pc := 30) (tgt := 37) d_Li_compares_30 (by decide) (fun c2 => ?_) (fun c2 => ?_)
    · refine aw_iconst (pc := 37) (x := 0) d_Li_compares_37 (by decide) ?_
      exact aw_zreturn (pc := 38) (b := false) d_Li_compares_38 rfl rfl
    · refine aw_iconst (pc := 33) (x := 1) d_Li_compares_33 (by decide) ?_
      refine aw_goto (pc := 34) (tgt := 38) d_Li_compares_34 (by decide) ?_
      exact aw_zreturn (pc := 38) (b := true) d_Li_compares_38 rfl rfl
  refine aw_cases (fun c3 => ?_) (fun c3 => ?_)
  · refine aw_lks (pc := 1) (tgt := 39) (off := 38) d_Li_compares_1 (by decide) (by rw [c3]; rfl) (by decide) ?_
    refine aw_iload_n (pc := 39) d_Li_compares_39 rfl 0 rfl ?_
    refine aw_iload_n (pc := 40) d_Li_compares_40 rfl 2 rfl ?_
    refine aw_icmp_le (pc := 41) (tgt := 48) d_Li_compares_41 (by decide) (fun c4 => ?_) (fun c4 => ?_)
    · refine aw_iconst (pc := 48) (x := 0) d_Li_compares_48 (by decide) ?_
      exact aw_zreturn (pc := 49) (b := false) d_Li_compares_49 rfl rfl
    · refine aw_iconst (pc := 44) (x := 1) d_Li_compares_44 (by decide) ?_
      refine aw_goto (pc := 45) (tgt := 49) d_Li_compares_45 (by decide) ?_
      exact aw_zreturn (pc := 49) (b := true) d_Li_compares_49 rfl rfl
  refine aw_lksX (pc := 1) (tgt := 50) d_Li_compares_1 (by decide) (⟨fun q => c1 (toInt_inj_lit q (by decide)), ⟨fun q => c3 (toInt_inj_lit q (by decide)), trivial⟩⟩) (by decide) ?_
  refine aw_iload_n (pc := 50) d_Li_compares_50 rfl 0 rfl ?_
  refine aw_iload_n (pc := 51) d_Li_compares_51 rfl 2 rfl ?_
  refine aw_icmp_ne (pc := 52) (tgt := 59) d_Li_compares_52 (by decide) (fun c5 => ?_) (fun c5 => ?_)
  · refine aw_iconst (pc := 55) (x := 1) d_Li_compares_55 (by decide) ?_
    refine aw_goto (pc := 56) (tgt := 60) d_Li_compares_56 (by decide) ?_
    exact aw_zreturn (pc := 60) (b := true) d_Li_compares_60 rfl rfl
  · refine aw_iconst (pc := 59) (x := 0) d_Li_compares_59 (by decide) ?_
    exact aw_zreturn (pc := 60) (b := false) d_Li_compares_60 rfl rfl
/-! LastPages$Shelf.finished()I -/
theorem d_Sh_finished_0 : decode prog_6_method_17_code 0 = .ok (.iconst 0, 1) := by decide +kernel
theorem d_Sh_finished_1 : decode prog_6_method_17_code 1 = .ok (.istore_n 1, 1) := by decide +kernel
theorem d_Sh_finished_2 : decode prog_6_method_17_code 2 = .ok (.iconst 0, 1) := by decide +kernel
theorem d_Sh_finished_3 : decode prog_6_method_17_code 3 = .ok (.istore_n 2, 1) := by decide +kernel
theorem d_Sh_finished_4 : decode prog_6_method_17_code 4 = .ok (.iload_n 2, 1) := by decide +kernel
theorem d_Sh_finished_5 : decode prog_6_method_17_code 5 = .ok (.aload_n 0, 1) := by decide +kernel
theorem d_Sh_finished_6 : decode prog_6_method_17_code 6 = .ok (.getfield 73, 3) := by decide +kernel
theorem d_Sh_finished_9 : decode prog_6_method_17_code 9 = .ok (.if_icmp .ge 29, 3) := by decide +kernel
theorem d_Sh_finished_12 : decode prog_6_method_17_code 12 = .ok (.iload_n 1, 1) := by decide +kernel
theorem d_Sh_finished_13 : decode prog_6_method_17_code 13 = .ok (.aload_n 0, 1) := by decide +kernel
theorem d_Sh_finished_14 : decode prog_6_method_17_code 14 = .ok (.getfield 53, 3) := by decide +kernel
theorem d_Sh_finished_17 : decode prog_6_method_17_code 17 = .ok (.iload_n 2, 1) := by decide +kernel
theorem d_Sh_finished_18 : decode prog_6_method_17_code 18 = .ok (.iaload, 1) := by decide +kernel
theorem d_Sh_finished_19 : decode prog_6_method_17_code 19 = .ok (.iconst (-1), 1) := by decide +kernel
theorem d_Sh_finished_20 : decode prog_6_method_17_code 20 = .ok (.if_icmp .ne 7, 3) := by decide +kernel
theorem d_Sh_finished_23 : decode prog_6_method_17_code 23 = .ok (.iconst 0, 1) := by decide +kernel
theorem d_Sh_finished_24 : decode prog_6_method_17_code 24 = .ok (.goto 6, 3) := by decide +kernel
theorem d_Sh_finished_27 : decode prog_6_method_17_code 27 = .ok (.iconst 1, 1) := by decide +kernel
theorem d_Sh_finished_28 : decode prog_6_method_17_code 28 = .ok (.iload_n 2, 1) := by decide +kernel
theorem d_Sh_finished_29 : decode prog_6_method_17_code 29 = .ok (.ishl, 1) := by decide +kernel
theorem d_Sh_finished_30 : decode prog_6_method_17_code 30 = .ok (.ior, 1) := by decide +kernel
theorem d_Sh_finished_31 : decode prog_6_method_17_code 31 = .ok (.istore_n 1, 1) := by decide +kernel
theorem d_Sh_finished_32 : decode prog_6_method_17_code 32 = .ok (.iinc 2 1, 3) := by decide +kernel
theorem d_Sh_finished_35 : decode prog_6_method_17_code 35 = .ok (.goto (-31), 3) := by decide +kernel
theorem d_Sh_finished_38 : decode prog_6_method_17_code 38 = .ok (.iload_n 1, 1) := by decide +kernel
theorem d_Sh_finished_39 : decode prog_6_method_17_code 39 = .ok (.ireturn, 1) := by decide +kernel
def Sh_finished_L4 (Y : Ly) (l0 : Nat) (h : Hp) : Nat → Int32 → Int32 → Option Int32
  | 0, _, _ => none
  | F + 1, l1, l2 =>
    if (hGi h 415 l0) ≤ l2 then
      some l1
    else
      if inB l2 (lnY Y (hGr h 410 l0)) = true then
        if (hAi h (hGr h 410 l0) (Int32.toNatClampNeg l2)) = (-1) then
          Sh_finished_L4 Y l0 h F (l1 ||| 0) (l2 + 1)
        else
          Sh_finished_L4 Y l0 h F (l1 ||| ((1 : Int32) <<< (l2 &&& 31))) (l2 + 1)
      else none
theorem Sh_finished_L4_ok (Y : Ly) (l0 : Nat) (h : Hp) (tl0 : isO Y 4 l0) : ∀ (F : Nat) (l1 : Int32) (l2 : Int32), AW Y 0 K_Sh_finished 4 [(0, .ref l0), (1, .int l1), (2, .int l2)] [] h (Sh_finished_L4 Y l0 h F l1 l2) (pI h) := by
  intro F
  induction F with
  | zero =>
    intro l1 l2
    exact aw_none
  | succ F ih =>
    intro l1 l2
    unfold Sh_finished_L4
    refine aw_iload_n (pc := 4) d_Sh_finished_4 rfl 2 rfl ?_
    refine aw_aload_n (pc := 5) d_Sh_finished_5 rfl 0 rfl ?_
    refine gt_415 (pc := 6) d_Sh_finished_6 w2_158 tl0 ?_
    refine aw_icmp_ge (pc := 9) (tgt := 38) d_Sh_finished_9 (by decide) (fun c1 => ?_) (fun c1 => ?_)
    · refine aw_iload_n (pc := 38) d_Sh_finished_38 rfl 1 rfl ?_
      exact aw_ireturn (pc := 39) d_Sh_finished_39 rfl rfl
    · refine aw_iload_n (pc := 12) d_Sh_finished_12 rfl 1 rfl ?_
      refine aw_aload_n (pc := 13) d_Sh_finished_13 rfl 0 rfl ?_
      refine gt_410 (pc := 14) d_Sh_finished_14 w2_148 tl0 (fun tt2 => ?_)
      refine aw_iload_n (pc := 17) d_Sh_finished_17 rfl 2 rfl ?_
      refine aw_iaload (pc := 18) d_Sh_finished_18 tt2 (fun c3 => ?_)
      refine aw_iconst (pc := 19) (x := (-1)) d_Sh_finished_19 (by decide) ?_
      refine aw_icmp_ne (pc := 20) (tgt := 27) d_Sh_finished_20 (by decide) (fun c4 => ?_) (fun c4 => ?_)
      · refine aw_iconst (pc := 23) (x := 0) d_Sh_finished_23 (by decide) ?_
        refine aw_goto (pc := 24) (tgt := 30) d_Sh_finished_24 (by decide) ?_
        refine aw_ior (pc := 30) d_Sh_finished_30 ?_
        refine aw_istore_n (pc := 31) (lv' := [(1, .int (l1 ||| 0)), (0, .ref l0), (2, .int l2)]) d_Sh_finished_31 rfl (by decide) rfl ?_
        refine aw_iinc (pc := 32) (w := l2 + 1) (lv' := [(2, .int (l2 + 1)), (1, .int (l1 ||| 0)), (0, .ref l0)]) d_Sh_finished_32 2 rfl rfl (by decide) rfl ?_
        refine aw_goto (pc := 35) (tgt := 4) d_Sh_finished_35 (by decide) ?_
        exact aw_lv [2, 1, 0] rfl (ih (l1 ||| 0) (l2 + 1))
      · refine aw_iconst (pc := 27) (x := 1) d_Sh_finished_27 (by decide) ?_
        refine aw_iload_n (pc := 28) d_Sh_finished_28 rfl 2 rfl ?_
        refine aw_ishl (pc := 29) d_Sh_finished_29 ?_
        refine aw_ior (pc := 30) d_Sh_finished_30 ?_
        refine aw_istore_n (pc := 31) (lv' := [(1, .int (l1 ||| ((1 : Int32) <<< (l2 &&& 31)))), (0, .ref l0), (2, .int l2)]) d_Sh_finished_31 rfl (by decide) rfl ?_
        refine aw_iinc (pc := 32) (w := l2 + 1) (lv' := [(2, .int (l2 + 1)), (1, .int (l1 ||| ((1 : Int32) <<< (l2 &&& 31)))), (0, .ref l0)]) d_Sh_finished_32 2 rfl rfl (by decide) rfl ?_
        refine aw_goto (pc := 35) (tgt := 4) d_Sh_finished_35 (by decide) ?_
        exact aw_lv [2, 1, 0] rfl (ih (l1 ||| ((1 : Int32) <<< (l2 &&& 31))) (l2 + 1))
def Sh_finished (Y : Ly) (l0 : Nat) (h : Hp) : Option Int32 :=
  Sh_finished_L4 Y l0 h FU 0 0
theorem ok_Sh_finished (Y : Ly) (l0 : Nat) (h : Hp) (t0 : isO Y 4 l0) : AM Y 0 K_Sh_finished [.ref l0] h (Sh_finished Y l0 h) (pI h) := by
  refine AM.of rfl (Nat.le_of_ble_eq_true rfl) ?_
  show AW Y 0 K_Sh_finished 0 [(0, .ref l0)] [] h (Sh_finished Y l0 h) (pI h)
  unfold Sh_finished
  refine aw_iconst (pc := 0) (x := 0) d_Sh_finished_0 (by decide) ?_
  refine aw_istore_n (pc := 1) (lv' := [(1, .int 0), (0, .ref l0)]) d_Sh_finished_1 rfl (by decide) rfl ?_
  refine aw_iconst (pc := 2) (x := 0) d_Sh_finished_2 (by decide) ?_
  refine aw_istore_n (pc := 3) (lv' := [(2, .int 0), (1, .int 0), (0, .ref l0)]) d_Sh_finished_3 rfl (by decide) rfl ?_
  exact aw_lv [2, 1, 0] rfl (Sh_finished_L4_ok Y l0 h t0 FU 0 0)
/-! LastPages$Story.sumOdd(I)I -/
theorem d_St_sumOdd_0 : decode prog_8_method_16_code 0 = .ok (.iconst 0, 1) := by decide +kernel
theorem d_St_sumOdd_1 : decode prog_8_method_16_code 1 = .ok (.istore_n 2, 1) := by decide +kernel
theorem d_St_sumOdd_2 : decode prog_8_method_16_code 2 = .ok (.iconst 0, 1) := by decide +kernel
theorem d_St_sumOdd_3 : decode prog_8_method_16_code 3 = .ok (.istore_n 3, 1) := by decide +kernel
theorem d_St_sumOdd_4 : decode prog_8_method_16_code 4 = .ok (.iload_n 3, 1) := by decide +kernel
theorem d_St_sumOdd_5 : decode prog_8_method_16_code 5 = .ok (.bipush 6, 2) := by decide +kernel
theorem d_St_sumOdd_7 : decode prog_8_method_16_code 7 = .ok (.if_icmp .ge 22, 3) := by decide +kernel
theorem d_St_sumOdd_10 : decode prog_8_method_16_code 10 = .ok (.iload_n 2, 1) := by decide +kernel
theorem d_St_sumOdd_11 : decode prog_8_method_16_code 11 = .ok (.aload_n 0, 1) := by decide +kernel
theorem d_St_sumOdd_12 : decode prog_8_method_16_code 12 = .ok (.aload_n 0, 1) := by decide +kernel
theorem d_St_sumOdd_13 : decode prog_8_method_16_code 13 = .ok (.iload_n 1, 1) := by decide +kernel
theorem d_St_sumOdd_14 : decode prog_8_method_16_code 14 = .ok (.iload_n 3, 1) := by decide +kernel
theorem d_St_sumOdd_15 : decode prog_8_method_16_code 15 = .ok (.invokevirtual 67, 3) := by decide +kernel
theorem d_St_sumOdd_18 : decode prog_8_method_16_code 18 = .ok (.invokevirtual 70, 3) := by decide +kernel
theorem d_St_sumOdd_21 : decode prog_8_method_16_code 21 = .ok (.iadd, 1) := by decide +kernel
theorem d_St_sumOdd_22 : decode prog_8_method_16_code 22 = .ok (.istore_n 2, 1) := by decide +kernel
theorem d_St_sumOdd_23 : decode prog_8_method_16_code 23 = .ok (.iinc 3 1, 3) := by decide +kernel
theorem d_St_sumOdd_26 : decode prog_8_method_16_code 26 = .ok (.goto (-22), 3) := by decide +kernel
theorem d_St_sumOdd_29 : decode prog_8_method_16_code 29 = .ok (.iload_n 2, 1) := by decide +kernel
theorem d_St_sumOdd_30 : decode prog_8_method_16_code 30 = .ok (.ireturn, 1) := by decide +kernel
def St_sumOdd_L4 (Y : Ly) (l0 : Nat) (l1 : Int32) (h : Hp) : Nat → Int32 → Int32 → Option Int32
  | 0, _, _ => none
  | F + 1, l2, l3 =>
    if 6 ≤ l3 then
      some l2
    else
      (St_turnInFinale Y l0 l1 l3 h).bind fun q2 =>
      (St_oddOf Y l0 q2 h).bind fun q3 =>
      St_sumOdd_L4 Y l0 l1 h F (l2 + q3) (l3 + 1)
theorem St_sumOdd_L4_ok (Y : Ly) (l0 : Nat) (l1 : Int32) (h : Hp) (tl0 : isO Y 6 l0) : ∀ (F : Nat) (l2 : Int32) (l3 : Int32), AW Y 2 K_St_sumOdd 4 [(0, .ref l0), (1, .int l1), (2, .int l2), (3, .int l3)] [] h (St_sumOdd_L4 Y l0 l1 h F l2 l3) (pI h) := by
  intro F
  induction F with
  | zero =>
    intro l2 l3
    exact aw_none
  | succ F ih =>
    intro l2 l3
    unfold St_sumOdd_L4
    refine aw_iload_n (pc := 4) d_St_sumOdd_4 rfl 3 rfl ?_
    refine aw_bipush (pc := 5) (x := 6) d_St_sumOdd_5 (by decide) ?_
    refine aw_icmp_ge (pc := 7) (tgt := 29) d_St_sumOdd_7 (by decide) (fun c1 => ?_) (fun c1 => ?_)
    · refine aw_iload_n (pc := 29) d_St_sumOdd_29 rfl 2 rfl ?_
      exact aw_ireturn (pc := 30) d_St_sumOdd_30 rfl rfl
    · refine aw_iload_n (pc := 10) d_St_sumOdd_10 rfl 2 rfl ?_
      refine aw_aload_n (pc := 11) d_St_sumOdd_11 rfl 0 rfl ?_
      refine aw_aload_n (pc := 12) d_St_sumOdd_12 rfl 0 rfl ?_
      refine aw_iload_n (pc := 13) d_St_sumOdd_13 rfl 1 rfl ?_
      refine aw_iload_n (pc := 14) d_St_sumOdd_14 rfl 3 rfl ?_
      refine aw_cVpI (pc := 15) (ci := 6) (T := TX6) (N := 8) (As := [.int l1, .int l3]) (st := [.ref l0, .int l2]) (ok_St_turnInFinale Y l0 l1 l3 h tl0) okV_St_turnInFinale rfl (by decide) tl0 w5_221 d_St_sumOdd_15 rfl (Nat.le_of_ble_eq_true rfl) rfl (Nat.le_of_ble_eq_true rfl) (fun q2 hq2 hTq2 => ?_)
      refine aw_cVpI (pc := 18) (ci := 6) (T := TX6) (N := 8) (As := [.int q2]) (st := [.int l2]) (ok_St_oddOf Y l0 q2 h tl0) okV_St_oddOf rfl (by decide) tl0 w5_222 d_St_sumOdd_18 rfl (Nat.le_of_ble_eq_true rfl) rfl (Nat.le_of_ble_eq_true rfl) (fun q3 hq3 hTq3 => ?_)
      refine aw_iadd (pc := 21) d_St_sumOdd_21 ?_
      refine aw_istore_n (pc := 22) (lv' := [(2, .int (l2 + q3)), (0, .ref l0), (1, .int l1), (3, .int l3)]) d_St_sumOdd_22 rfl (by decide) rfl ?_
      refine aw_iinc (pc := 23) (w := l3 + 1) (lv' := [(3, .int (l3 + 1)), (2, .int (l2 + q3)), (0, .ref l0), (1, .int l1)]) d_St_sumOdd_23 3 rfl rfl (by decide) rfl ?_
      refine aw_goto (pc := 26) (tgt := 4) d_St_sumOdd_26 (by decide) ?_
      exact aw_lv [2, 3, 1, 0] rfl (ih (l2 + q3) (l3 + 1))
def St_sumOdd (Y : Ly) (l0 : Nat) (l1 : Int32) (h : Hp) : Option Int32 :=
  St_sumOdd_L4 Y l0 l1 h FU 0 0
theorem ok_St_sumOdd (Y : Ly) (l0 : Nat) (l1 : Int32) (h : Hp) (t0 : isO Y 6 l0) : AM Y 2 K_St_sumOdd [.ref l0, .int l1] h (St_sumOdd Y l0 l1 h) (pI h) := by
  refine AM.of rfl (Nat.le_of_ble_eq_true rfl) ?_
  show AW Y 2 K_St_sumOdd 0 [(0, .ref l0), (1, .int l1)] [] h (St_sumOdd Y l0 l1 h) (pI h)
  unfold St_sumOdd
  refine aw_iconst (pc := 0) (x := 0) d_St_sumOdd_0 (by decide) ?_
  refine aw_istore_n (pc := 1) (lv' := [(2, .int 0), (0, .ref l0), (1, .int l1)]) d_St_sumOdd_1 rfl (by decide) rfl ?_
  refine aw_iconst (pc := 2) (x := 0) d_St_sumOdd_2 (by decide) ?_
  refine aw_istore_n (pc := 3) (lv' := [(3, .int 0), (2, .int 0), (0, .ref l0), (1, .int l1)]) d_St_sumOdd_3 rfl (by decide) rfl ?_
  exact aw_lv [2, 3, 1, 0] rfl (St_sumOdd_L4_ok Y l0 l1 h t0 FU 0 0)
/-! LastPages$Life.holds(LLastPages$Shelf;LLastPages$Weeks;I)Z -/
theorem d_Li_holds_0 : decode prog_4_method_12_code 0 = .ok (.aload_n 1, 1) := by decide +kernel
theorem d_Li_holds_1 : decode prog_4_method_12_code 1 = .ok (.getfield 72, 3) := by decide +kernel
theorem d_Li_holds_4 : decode prog_4_method_12_code 4 = .ok (.iload_n 2, 1) := by decide +kernel
theorem d_Li_holds_5 : decode prog_4_method_12_code 5 = .ok (.iaload, 1) := by decide +kernel
theorem d_Li_holds_6 : decode prog_4_method_12_code 6 = .ok (.istore_n 3, 1) := by decide +kernel
theorem d_Li_holds_7 : decode prog_4_method_12_code 7 = .ok (.aload_n 0, 1) := by decide +kernel
theorem d_Li_holds_8 : decode prog_4_method_12_code 8 = .ok (.iload_n 3, 1) := by decide +kernel
theorem d_Li_holds_9 : decode prog_4_method_12_code 9 = .ok (.invokevirtual 83, 3) := by decide +kernel
theorem d_Li_holds_12 : decode prog_4_method_12_code 12 = .ok (.ifCond .eq 12, 3) := by decide +kernel
theorem d_Li_holds_15 : decode prog_4_method_12_code 15 = .ok (.aload_n 0, 1) := by decide +kernel
theorem d_Li_holds_16 : decode prog_4_method_12_code 16 = .ok (.getfield 34, 3) := by decide +kernel
theorem d_Li_holds_19 : decode prog_4_method_12_code 19 = .ok (.iload_n 3, 1) := by decide +kernel
theorem d_Li_holds_20 : decode prog_4_method_12_code 20 = .ok (.iaload, 1) := by decide +kernel
theorem d_Li_holds_21 : decode prog_4_method_12_code 21 = .ok (.goto 4, 3) := by decide +kernel
theorem d_Li_holds_24 : decode prog_4_method_12_code 24 = .ok (.iconst (-1), 1) := by decide +kernel
theorem d_Li_holds_25 : decode prog_4_method_12_code 25 = .ok (.istore 4, 2) := by decide +kernel
theorem d_Li_holds_27 : decode prog_4_method_12_code 27 = .ok (.aload_n 1, 1) := by decide +kernel
theorem d_Li_holds_28 : decode prog_4_method_12_code 28 = .ok (.getfield 65, 3) := by decide +kernel
theorem d_Li_holds_31 : decode prog_4_method_12_code 31 = .ok (.iload_n 2, 1) := by decide +kernel
theorem d_Li_holds_32 : decode prog_4_method_12_code 32 = .ok (.iaload, 1) := by decide +kernel
theorem d_Li_holds_33 : decode prog_4_method_12_code 33 = .ok (.lookupswitch 67 #[(26, 27), (27, 39)], 27) := by decide +kernel
theorem d_Li_holds_60 : decode prog_4_method_12_code 60 = .ok (.iload 4, 2) := by decide +kernel
theorem d_Li_holds_62 : decode prog_4_method_12_code 62 = .ok (.iconst (-1), 1) := by decide +kernel
theorem d_Li_holds_63 : decode prog_4_method_12_code 63 = .ok (.if_icmp .eq 7, 3) := by decide +kernel
theorem d_Li_holds_66 : decode prog_4_method_12_code 66 = .ok (.iconst 1, 1) := by decide +kernel
theorem d_Li_holds_67 : decode prog_4_method_12_code 67 = .ok (.goto 4, 3) := by decide +kernel
theorem d_Li_holds_70 : decode prog_4_method_12_code 70 = .ok (.iconst 0, 1) := by decide +kernel
theorem d_Li_holds_71 : decode prog_4_method_12_code 71 = .ok (.ireturn, 1) := by decide +kernel
theorem d_Li_holds_72 : decode prog_4_method_12_code 72 = .ok (.aload_n 0, 1) := by decide +kernel
theorem d_Li_holds_73 : decode prog_4_method_12_code 73 = .ok (.getfield 137, 3) := by decide +kernel
theorem d_Li_holds_76 : decode prog_4_method_12_code 76 = .ok (.aload_n 0, 1) := by decide +kernel
theorem d_Li_holds_77 : decode prog_4_method_12_code 77 = .ok (.invokevirtual 140, 3) := by decide +kernel
theorem d_Li_holds_80 : decode prog_4_method_12_code 80 = .ok (.invokestatic 124, 3) := by decide +kernel
theorem d_Li_holds_83 : decode prog_4_method_12_code 83 = .ok (.isub, 1) := by decide +kernel
theorem d_Li_holds_84 : decode prog_4_method_12_code 84 = .ok (.aload_n 1, 1) := by decide +kernel
theorem d_Li_holds_85 : decode prog_4_method_12_code 85 = .ok (.getfield 143, 3) := by decide +kernel
theorem d_Li_holds_88 : decode prog_4_method_12_code 88 = .ok (.iload_n 2, 1) := by decide +kernel
theorem d_Li_holds_89 : decode prog_4_method_12_code 89 = .ok (.iaload, 1) := by decide +kernel
theorem d_Li_holds_90 : decode prog_4_method_12_code 90 = .ok (.aload_n 1, 1) := by decide +kernel
theorem d_Li_holds_91 : decode prog_4_method_12_code 91 = .ok (.getfield 95, 3) := by decide +kernel
theorem d_Li_holds_94 : decode prog_4_method_12_code 94 = .ok (.iload_n 2, 1) := by decide +kernel
theorem d_Li_holds_95 : decode prog_4_method_12_code 95 = .ok (.iaload, 1) := by decide +kernel
theorem d_Li_holds_96 : decode prog_4_method_12_code 96 = .ok (.invokestatic 146, 3) := by decide +kernel
theorem d_Li_holds_99 : decode prog_4_method_12_code 99 = .ok (.ireturn, 1) := by decide +kernel
theorem d_Li_holds_100 : decode prog_4_method_12_code 100 = .ok (.aload_n 0, 1) := by decide +kernel
theorem d_Li_holds_101 : decode prog_4_method_12_code 101 = .ok (.getfield 149, 3) := by decide +kernel
theorem d_Li_holds_104 : decode prog_4_method_12_code 104 = .ok (.iload 4, 2) := by decide +kernel
theorem d_Li_holds_106 : decode prog_4_method_12_code 106 = .ok (.invokevirtual 153, 3) := by decide +kernel
theorem d_Li_holds_109 : decode prog_4_method_12_code 109 = .ok (.aload_n 1, 1) := by decide +kernel
theorem d_Li_holds_110 : decode prog_4_method_12_code 110 = .ok (.getfield 143, 3) := by decide +kernel
theorem d_Li_holds_113 : decode prog_4_method_12_code 113 = .ok (.iload_n 2, 1) := by decide +kernel
theorem d_Li_holds_114 : decode prog_4_method_12_code 114 = .ok (.iaload, 1) := by decide +kernel
theorem d_Li_holds_115 : decode prog_4_method_12_code 115 = .ok (.aload_n 1, 1) := by decide +kernel
theorem d_Li_holds_116 : decode prog_4_method_12_code 116 = .ok (.getfield 95, 3) := by decide +kernel
theorem d_Li_holds_119 : decode prog_4_method_12_code 119 = .ok (.iload_n 2, 1) := by decide +kernel
theorem d_Li_holds_120 : decode prog_4_method_12_code 120 = .ok (.iaload, 1) := by decide +kernel
theorem d_Li_holds_121 : decode prog_4_method_12_code 121 = .ok (.invokestatic 146, 3) := by decide +kernel
theorem d_Li_holds_124 : decode prog_4_method_12_code 124 = .ok (.ireturn, 1) := by decide +kernel
def Li_holds_J25 (Y : Ly) (l0 : Nat) (l1 : Nat) (l2 : Int32) (s0 : Int32) (h : Hp) : Option Bool :=
  if inB l2 (lnY Y (hGr h 900 l1)) = true then
    if (hAi h (hGr h 900 l1) (Int32.toNatClampNeg l2)) = 26 then
      if s0 = (-1) then
        some false
      else
        some true
    else
    if (hAi h (hGr h 900 l1) (Int32.toNatClampNeg l2)) = 27 then
      (Sh_finished Y l0 h).bind fun q12 =>
      (J_bitCount Y q12 h).bind fun q13 =>
      if inB l2 (lnY Y (hGr h 901 l1)) = true then
        if inB l2 (lnY Y (hGr h 903 l1)) = true then
          (Li_compares Y ((hGi h 415 l0) - q13) (hAi h (hGr h 901 l1) (Int32.toNatClampNeg l2)) (hAi h (hGr h 903 l1) (Int32.toNatClampNeg l2)) h).bind fun q18 =>
          some q18
        else none
      else none
    else
    (St_sumOdd Y (hGr h 400 l0) s0 h).bind fun q20 =>
    if inB l2 (lnY Y (hGr h 901 l1)) = true then
      if inB l2 (lnY Y (hGr h 903 l1)) = true then
        (Li_compares Y q20 (hAi h (hGr h 901 l1) (Int32.toNatClampNeg l2)) (hAi h (hGr h 903 l1) (Int32.toNatClampNeg l2)) h).bind fun q25 =>
        some q25
      else none
    else none
  else none
theorem Li_holds_J25_ok (Y : Ly) (l0 : Nat) (l1 : Nat) (l2 : Int32) (s0 : Int32) (h : Hp) (tl0 : isO Y 4 l0) (tl1 : isO Y 9 l1) : AW Y 3 K_Li_holds 25 [(0, .ref l0), (1, .ref l1), (2, .int l2)] [.int s0] h (Li_holds_J25 Y l0 l1 l2 s0 h) (pZ h) := by
  unfold Li_holds_J25
  refine aw_istore (pc := 25) (lv' := [(4, .int s0), (0, .ref l0), (1, .ref l1), (2, .int l2)]) d_Li_holds_25 (by decide) rfl ?_
  refine aw_aload_n (pc := 27) d_Li_holds_27 rfl 2 rfl ?_
  refine gt_900 (pc := 28) d_Li_holds_28 w2_90 tl1 (fun tt7 => ?_)
  refine aw_iload_n (pc := 31) d_Li_holds_31 rfl 3 rfl ?_
  refine aw_iaload (pc := 32) d_Li_holds_32 tt7 (fun c8 => ?_)
  refine aw_cases (fun c9 => ?_) (fun c9 => ?_)
  · refine aw_lks (pc := 33) (tgt := 60) (off := 27) d_Li_holds_33 (by decide) (by rw [c9]; rfl) (by decide) ?_
    refine aw_iload (pc := 60) d_Li_holds_60 0 rfl ?_
    refine aw_iconst (pc := 62) (x := (-1)) d_Li_holds_62 (by decide) ?_
    refine aw_icmp_eq (pc := 63) (tgt := 70) d_Li_holds_63 (by decide) (fun c10 => ?_) (fun c10 => ?_)
    · refine aw_iconst (pc := 70) (x := 0) d_Li_holds_70 (by decide) ?_
      exact aw_zreturn (pc := 71) (b := false) d_Li_holds_71 rfl rfl
    · refine aw_iconst (pc := 66) (x := 1) d_Li_holds_66 (by decide) ?_
      refine aw_goto (pc := 67) (tgt := 71) d_Li_holds_67 (by decide) ?_
      exact aw_zreturn (pc := 71) (b := true) d_Li_holds_71 rfl rfl
  refine aw_cases (fun c11 => ?_) (fun c11 => ?_)
  · refine aw_lks (pc := 33) (tgt := 72) (off := 39) d_Li_holds_33 (by decide) (by rw [c11]; rfl) (by decide) ?_
    refine aw_aload_n (pc := 72) d_Li_holds_72 rfl 1 rfl ?_
    refine gt_415 (pc := 73) d_Li_holds_73 w2_162 tl0 ?_
    refine aw_aload_n (pc := 76) d_Li_holds_76 rfl 1 rfl ?_
    refine aw_cVpI (pc := 77) (ci := 4) (T := TX4) (N := 19) (As := []) (st := [.int (hGi h 415 l0)]) (ok_Sh_finished Y l0 h tl0) okV_Sh_finished rfl (by decide) tl0 w6_205 d_Li_holds_77 rfl (Nat.le_of_ble_eq_true rfl) rfl (Nat.le_of_ble_eq_true rfl) (fun q12 hq12 hTq12 => ?_)
    refine aw_cSpI (pc := 80) (As := [.int q12]) (st := [.int (hGi h 415 l0)]) (ok_J_bitCount Y q12 h) okS_J_bitCount w6_192 d_Li_holds_80 rfl (Nat.le_of_ble_eq_true rfl) rfl (Nat.le_of_ble_eq_true rfl) (fun q13 hq13 hTq13 => ?_)
    refine aw_isub (pc := 83) d_Li_holds_83 ?_
    refine aw_aload_n (pc := 84) d_Li_holds_84 rfl 2 rfl ?_
    refine gt_901 (pc := 85) d_Li_holds_85 w2_92 tl1 (fun tt14 => ?_)
    refine aw_iload_n (pc := 88) d_Li_holds_88 rfl 3 rfl ?_
    refine aw_iaload (pc := 89) d_Li_holds_89 tt14 (fun c15 => ?_)
    refine aw_aload_n (pc := 90) d_Li_holds_90 rfl 2 rfl ?_
    refine gt_903 (pc := 91) d_Li_holds_91 w2_96 tl1 (fun tt16 => ?_)
    refine aw_iload_n (pc := 94) d_Li_holds_94 rfl 3 rfl ?_
    refine aw_iaload (pc := 95) d_Li_holds_95 tt16 (fun c17 => ?_)
    refine aw_cSpZ (pc := 96) (As := [.int ((hGi h 415 l0) - q13), .int (hAi h (hGr h 901 l1) (Int32.toNatClampNeg l2)), .int (hAi h (hGr h 903 l1) (Int32.toNatClampNeg l2))]) (st := []) (ok_Li_compares Y ((hGi h 415 l0) - q13) (hAi h (hGr h 901 l1) (Int32.toNatClampNeg l2)) (hAi h (hGr h 903 l1) (Int32.toNatClampNeg l2)) h) okS_Li_compares w6_206 d_Li_holds_96 rfl (Nat.le_of_ble_eq_true rfl) rfl (Nat.le_of_ble_eq_true rfl) (fun q18 hq18 hTq18 => ?_)
    exact aw_zreturn (pc := 99) (b := q18) d_Li_holds_99 rfl rfl
  refine aw_lksX (pc := 33) (tgt := 100) d_Li_holds_33 (by decide) (⟨fun q => c9 (toInt_inj_lit q (by decide)), ⟨fun q => c11 (toInt_inj_lit q (by decide)), trivial⟩⟩) (by decide) ?_
  refine aw_aload_n (pc := 100) d_Li_holds_100 rfl 1 rfl ?_
  refine gt_400 (pc := 101) d_Li_holds_101 w2_128 tl0 (fun tt19 => ?_)
  refine aw_iload (pc := 104) d_Li_holds_104 0 rfl ?_
  refine aw_cVpI (pc := 106) (ci := 6) (T := TX6) (N := 8) (As := [.int s0]) (st := []) (ok_St_sumOdd Y (hGr h 400 l0) s0 h tt19) okV_St_sumOdd rfl (by decide) tt19 w6_209 d_Li_holds_106 rfl (Nat.le_of_ble_eq_true rfl) rfl (Nat.le_of_ble_eq_true rfl) (fun q20 hq20 hTq20 => ?_)
  refine aw_aload_n (pc := 109) d_Li_holds_109 rfl 2 rfl ?_
  refine gt_901 (pc := 110) d_Li_holds_110 w2_92 tl1 (fun tt21 => ?_)
  refine aw_iload_n (pc := 113) d_Li_holds_113 rfl 3 rfl ?_
  refine aw_iaload (pc := 114) d_Li_holds_114 tt21 (fun c22 => ?_)
  refine aw_aload_n (pc := 115) d_Li_holds_115 rfl 2 rfl ?_
  refine gt_903 (pc := 116) d_Li_holds_116 w2_96 tl1 (fun tt23 => ?_)
  refine aw_iload_n (pc := 119) d_Li_holds_119 rfl 3 rfl ?_
  refine aw_iaload (pc := 120) d_Li_holds_120 tt23 (fun c24 => ?_)
  refine aw_cSpZ (pc := 121) (As := [.int q20, .int (hAi h (hGr h 901 l1) (Int32.toNatClampNeg l2)), .int (hAi h (hGr h 903 l1) (Int32.toNatClampNeg l2))]) (st := []) (ok_Li_compares Y q20 (hAi h (hGr h 901 l1) (Int32.toNatClampNeg l2)) (hAi h (hGr h 903 l1) (Int32.toNatClampNeg l2)) h) okS_Li_compares w6_206 d_Li_holds_121 rfl (Nat.le_of_ble_eq_true rfl) rfl (Nat.le_of_ble_eq_true rfl) (fun q25 hq25 hTq25 => ?_)
  exact aw_zreturn (pc := 124) (b := q25) d_Li_holds_124 rfl rfl
def Li_holds (Y : Ly) (l0 : Nat) (l1 : Nat) (l2 : Int32) (h : Hp) : Option Bool :=
  if inB l2 (lnY Y (hGr h 902 l1)) = true then
    (Sh_hasBook Y l0 (hAi h (hGr h 902 l1) (Int32.toNatClampNeg l2)) h).bind fun q3 =>
    if q3 = true then
      if inB (hAi h (hGr h 902 l1) (Int32.toNatClampNeg l2)) (lnY Y (hGr h 410 l0)) = true then
        Li_holds_J25 Y l0 l1 l2 (hAi h (hGr h 410 l0) (Int32.toNatClampNeg (hAi h (hGr h 902 l1) (Int32.toNatClampNeg l2)))) h
      else none
    else
      Li_holds_J25 Y l0 l1 l2 (-1) h
  else none
theorem ok_Li_holds (Y : Ly) (l0 : Nat) (l1 : Nat) (l2 : Int32) (h : Hp) (t0 : isO Y 4 l0) (t1 : isO Y 9 l1) : AM Y 3 K_Li_holds [.ref l0, .ref l1, .int l2] h (Li_holds Y l0 l1 l2 h) (pZ h) := by
  refine AM.of rfl (Nat.le_of_ble_eq_true rfl) ?_
  show AW Y 3 K_Li_holds 0 [(0, .ref l0), (1, .ref l1), (2, .int l2)] [] h (Li_holds Y l0 l1 l2 h) (pZ h)
  unfold Li_holds
  refine aw_aload_n (pc := 0) d_Li_holds_0 rfl 1 rfl ?_
  refine gt_902 (pc := 1) d_Li_holds_1 w2_94 t1 (fun tt1 => ?_)
  refine aw_iload_n (pc := 4) d_Li_holds_4 rfl 2 rfl ?_
  refine aw_iaload (pc := 5) d_Li_holds_5 tt1 (fun c2 => ?_)
  refine aw_istore_n (pc := 6) (lv' := [(3, .int (hAi h (hGr h 902 l1) (Int32.toNatClampNeg l2))), (0, .ref l0), (1, .ref l1), (2, .int l2)]) d_Li_holds_6 rfl (by decide) rfl ?_
  refine aw_aload_n (pc := 7) d_Li_holds_7 rfl 1 rfl ?_
  refine aw_iload_n (pc := 8) d_Li_holds_8 rfl 0 rfl ?_
  refine aw_cVpZ (pc := 9) (ci := 4) (T := TX4) (N := 19) (As := [.int (hAi h (hGr h 902 l1) (Int32.toNatClampNeg l2))]) (st := []) (ok_Sh_hasBook Y l0 (hAi h (hGr h 902 l1) (Int32.toNatClampNeg l2)) h t0) okV_Sh_hasBook rfl (by decide) t0 w6_171 d_Li_holds_9 rfl (Nat.le_of_ble_eq_true rfl) rfl (Nat.le_of_ble_eq_true rfl) (fun q3 hq3 hTq3 => ?_)
  refine aw_beq (pc := 12) (tgt := 24) d_Li_holds_12 (by decide) (fun c4 => ?_) (fun c4 => ?_)
  · refine aw_aload_n (pc := 15) d_Li_holds_15 rfl 1 rfl ?_
    refine gt_410 (pc := 16) d_Li_holds_16 w2_149 t0 (fun tt5 => ?_)
    refine aw_iload_n (pc := 19) d_Li_holds_19 rfl 0 rfl ?_
    refine aw_iaload (pc := 20) d_Li_holds_20 tt5 (fun c6 => ?_)
    refine aw_goto (pc := 21) (tgt := 25) d_Li_holds_21 (by decide) ?_
    exact aw_lv [1, 2, 3] rfl (Li_holds_J25_ok Y l0 l1 l2 (hAi h (hGr h 410 l0) (Int32.toNatClampNeg (hAi h (hGr h 902 l1) (Int32.toNatClampNeg l2)))) h t0 t1)
  · refine aw_iconst (pc := 24) (x := (-1)) d_Li_holds_24 (by decide) ?_
    exact aw_lv [1, 2, 3] rfl (Li_holds_J25_ok Y l0 l1 l2 (-1) h t0 t1)
/-! LastPages$Life.looseOne(LLastPages$Shelf;I)V -/
theorem d_Li_looseOne_0 : decode prog_4_method_9_code 0 = .ok (.aload_n 1, 1) := by decide +kernel
theorem d_Li_looseOne_1 : decode prog_4_method_9_code 1 = .ok (.iload_n 2, 1) := by decide +kernel
theorem d_Li_looseOne_2 : decode prog_4_method_9_code 2 = .ok (.invokevirtual 83, 3) := by decide +kernel
theorem d_Li_looseOne_5 : decode prog_4_method_9_code 5 = .ok (.ifCond .eq 13, 3) := by decide +kernel
theorem d_Li_looseOne_8 : decode prog_4_method_9_code 8 = .ok (.aload_n 1, 1) := by decide +kernel
theorem d_Li_looseOne_9 : decode prog_4_method_9_code 9 = .ok (.getfield 34, 3) := by decide +kernel
theorem d_Li_looseOne_12 : decode prog_4_method_9_code 12 = .ok (.iload_n 2, 1) := by decide +kernel
theorem d_Li_looseOne_13 : decode prog_4_method_9_code 13 = .ok (.iaload, 1) := by decide +kernel
theorem d_Li_looseOne_14 : decode prog_4_method_9_code 14 = .ok (.iconst (-1), 1) := by decide +kernel
theorem d_Li_looseOne_15 : decode prog_4_method_9_code 15 = .ok (.if_icmp .ne 14, 3) := by decide +kernel
theorem d_Li_looseOne_18 : decode prog_4_method_9_code 18 = .ok (.aload_n 0, 1) := by decide +kernel
theorem d_Li_looseOne_19 : decode prog_4_method_9_code 19 = .ok (.getfield 9, 3) := by decide +kernel
theorem d_Li_looseOne_22 : decode prog_4_method_9_code 22 = .ok (.iconst 0, 1) := by decide +kernel
theorem d_Li_looseOne_23 : decode prog_4_method_9_code 23 = .ok (.dup2, 1) := by decide +kernel
theorem d_Li_looseOne_24 : decode prog_4_method_9_code 24 = .ok (.iaload, 1) := by decide +kernel
theorem d_Li_looseOne_25 : decode prog_4_method_9_code 25 = .ok (.iconst 1, 1) := by decide +kernel
theorem d_Li_looseOne_26 : decode prog_4_method_9_code 26 = .ok (.iadd, 1) := by decide +kernel
theorem d_Li_looseOne_27 : decode prog_4_method_9_code 27 = .ok (.iastore, 1) := by decide +kernel
theorem d_Li_looseOne_28 : decode prog_4_method_9_code 28 = .ok (.return_, 1) := by decide +kernel
theorem d_Li_looseOne_29 : decode prog_4_method_9_code 29 = .ok (.aload_n 1, 1) := by decide +kernel
theorem d_Li_looseOne_30 : decode prog_4_method_9_code 30 = .ok (.getfield 34, 3) := by decide +kernel
theorem d_Li_looseOne_33 : decode prog_4_method_9_code 33 = .ok (.iload_n 2, 1) := by decide +kernel
theorem d_Li_looseOne_34 : decode prog_4_method_9_code 34 = .ok (.iconst (-1), 1) := by decide +kernel
theorem d_Li_looseOne_35 : decode prog_4_method_9_code 35 = .ok (.iastore, 1) := by decide +kernel
theorem d_Li_looseOne_36 : decode prog_4_method_9_code 36 = .ok (.aload_n 0, 1) := by decide +kernel
theorem d_Li_looseOne_37 : decode prog_4_method_9_code 37 = .ok (.getfield 9, 3) := by decide +kernel
theorem d_Li_looseOne_40 : decode prog_4_method_9_code 40 = .ok (.iconst 2, 1) := by decide +kernel
theorem d_Li_looseOne_41 : decode prog_4_method_9_code 41 = .ok (.dup2, 1) := by decide +kernel
theorem d_Li_looseOne_42 : decode prog_4_method_9_code 42 = .ok (.iaload, 1) := by decide +kernel
theorem d_Li_looseOne_43 : decode prog_4_method_9_code 43 = .ok (.iconst 1, 1) := by decide +kernel
theorem d_Li_looseOne_44 : decode prog_4_method_9_code 44 = .ok (.iadd, 1) := by decide +kernel
theorem d_Li_looseOne_45 : decode prog_4_method_9_code 45 = .ok (.iastore, 1) := by decide +kernel
theorem d_Li_looseOne_46 : decode prog_4_method_9_code 46 = .ok (.return_, 1) := by decide +kernel
def Li_looseOne (Y : Ly) (l0 : Nat) (l1 : Nat) (l2 : Int32) (h : Hp) : Option Hp :=
  (Sh_hasBook Y l1 l2 h).bind fun q1 =>
  if q1 = true then
    if inB l2 (lnY Y (hGr h 410 l1)) = true then
      if (hAi h (hGr h 410 l1) (Int32.toNatClampNeg l2)) = (-1) then
        if inB 0 (lnY Y (hGr h 200 l0)) = true then
          if inB 0 (lnY Y (hGr h 200 l0)) = true then
            letH (hTi h (hGr h 200 l0) (Int32.toNatClampNeg 0) ((hAi h (hGr h 200 l0) (Int32.toNatClampNeg 0)) + 1)) fun h9 =>
            some h9
          else none
        else none
      else
        if inB l2 (lnY Y (hGr h 410 l1)) = true then
          letH (hTi h (hGr h 410 l1) (Int32.toNatClampNeg l2) (-1)) fun h12 =>
          if inB 2 (lnY Y (hGr h12 200 l0)) = true then
            if inB 2 (lnY Y (hGr h12 200 l0)) = true then
              letH (hTi h12 (hGr h12 200 l0) (Int32.toNatClampNeg 2) ((hAi h12 (hGr h12 200 l0) (Int32.toNatClampNeg 2)) + 1)) fun h16 =>
              some h16
            else none
          else none
        else none
    else none
  else
    if inB 0 (lnY Y (hGr h 200 l0)) = true then
      if inB 0 (lnY Y (hGr h 200 l0)) = true then
        letH (hTi h (hGr h 200 l0) (Int32.toNatClampNeg 0) ((hAi h (hGr h 200 l0) (Int32.toNatClampNeg 0)) + 1)) fun h20 =>
        some h20
      else none
    else none
theorem ok_Li_looseOne (Y : Ly) (l0 : Nat) (l1 : Nat) (l2 : Int32) (h : Hp) (t0 : isO Y 2 l0) (t1 : isO Y 4 l1) : AM Y 1 K_Li_looseOne [.ref l0, .ref l1, .int l2] h (Li_looseOne Y l0 l1 l2 h) rV := by
  refine AM.of rfl (Nat.le_of_ble_eq_true rfl) ?_
  show AW Y 1 K_Li_looseOne 0 [(0, .ref l0), (1, .ref l1), (2, .int l2)] [] h (Li_looseOne Y l0 l1 l2 h) rV
  unfold Li_looseOne
  refine aw_aload_n (pc := 0) d_Li_looseOne_0 rfl 1 rfl ?_
  refine aw_iload_n (pc := 1) d_Li_looseOne_1 rfl 2 rfl ?_
  refine aw_cVpZ (pc := 2) (ci := 4) (T := TX4) (N := 19) (As := [.int l2]) (st := []) (ok_Sh_hasBook Y l1 l2 h t1) okV_Sh_hasBook rfl (by decide) t1 w6_171 d_Li_looseOne_2 rfl (Nat.le_of_ble_eq_true rfl) rfl (Nat.le_of_ble_eq_true rfl) (fun q1 hq1 hTq1 => ?_)
  refine aw_beq (pc := 5) (tgt := 18) d_Li_looseOne_5 (by decide) (fun c2 => ?_) (fun c2 => ?_)
  · refine aw_aload_n (pc := 8) d_Li_looseOne_8 rfl 1 rfl ?_
    refine gt_410 (pc := 9) d_Li_looseOne_9 w2_149 t1 (fun tt3 => ?_)
    refine aw_iload_n (pc := 12) d_Li_looseOne_12 rfl 2 rfl ?_
    refine aw_iaload (pc := 13) d_Li_looseOne_13 tt3 (fun c4 => ?_)
    refine aw_iconst (pc := 14) (x := (-1)) d_Li_looseOne_14 (by decide) ?_
    refine aw_icmp_ne (pc := 15) (tgt := 29) d_Li_looseOne_15 (by decide) (fun c5 => ?_) (fun c5 => ?_)
    · refine aw_aload_n (pc := 18) d_Li_looseOne_18 rfl 0 rfl ?_
      refine gt_200 (pc := 19) d_Li_looseOne_19 w2_28 t0 (fun tt6 => ?_)
      refine aw_iconst (pc := 22) (x := 0) d_Li_looseOne_22 (by decide) ?_
      refine aw_dup2_11 (pc := 23) d_Li_looseOne_23 rfl rfl ?_
      refine aw_iaload (pc := 24) d_Li_looseOne_24 tt6 (fun c7 => ?_)
      refine aw_iconst (pc := 25) (x := 1) d_Li_looseOne_25 (by decide) ?_
      refine aw_iadd (pc := 26) d_Li_looseOne_26 ?_
      refine aw_iastore (pc := 27) d_Li_looseOne_27 tt6 (fun c8 => ?_)
      refine aw_letH (fun h9 => ?_)
      exact aw_return (pc := 28) d_Li_looseOne_28 rfl rfl
    · refine aw_aload_n (pc := 29) d_Li_looseOne_29 rfl 1 rfl ?_
      refine gt_410 (pc := 30) d_Li_looseOne_30 w2_149 t1 (fun tt10 => ?_)
      refine aw_iload_n (pc := 33) d_Li_looseOne_33 rfl 2 rfl ?_
      refine aw_iconst (pc := 34) (x := (-1)) d_Li_looseOne_34 (by decide) ?_
      refine aw_iastore (pc := 35) d_Li_looseOne_35 tt10 (fun c11 => ?_)
      refine aw_letH (fun h12 => ?_)
      refine aw_aload_n (pc := 36) d_Li_looseOne_36 rfl 0 rfl ?_
      refine gt_200 (pc := 37) d_Li_looseOne_37 w2_28 t0 (fun tt13 => ?_)
      refine aw_iconst (pc := 40) (x := 2) d_Li_looseOne_40 (by decide) ?_
      refine aw_dup2_11 (pc := 41) d_Li_looseOne_41 rfl rfl ?_
      refine aw_iaload (pc := 42) d_Li_looseOne_42 tt13 (fun c14 => ?_)
      refine aw_iconst (pc := 43) (x := 1) d_Li_looseOne_43 (by decide) ?_
      refine aw_iadd (pc := 44) d_Li_looseOne_44 ?_
      refine aw_iastore (pc := 45) d_Li_looseOne_45 tt13 (fun c15 => ?_)
      refine aw_letH (fun h16 => ?_)
      exact aw_return (pc := 46) d_Li_looseOne_46 rfl rfl
  · refine aw_aload_n (pc := 18) d_Li_looseOne_18 rfl 0 rfl ?_
    refine gt_200 (pc := 19) d_Li_looseOne_19 w2_28 t0 (fun tt17 => ?_)
    refine aw_iconst (pc := 22) (x := 0) d_Li_looseOne_22 (by decide) ?_
    refine aw_dup2_11 (pc := 23) d_Li_looseOne_23 rfl rfl ?_
    refine aw_iaload (pc := 24) d_Li_looseOne_24 tt17 (fun c18 => ?_)
    refine aw_iconst (pc := 25) (x := 1) d_Li_looseOne_25 (by decide) ?_
    refine aw_iadd (pc := 26) d_Li_looseOne_26 ?_
    refine aw_iastore (pc := 27) d_Li_looseOne_27 tt17 (fun c19 => ?_)
    refine aw_letH (fun h20 => ?_)
    exact aw_return (pc := 28) d_Li_looseOne_28 rfl rfl
/-! LastPages$Life.takeStep(LLastPages$Shelf;LLastPages$Weeks;I)I -/
theorem d_Li_takeStep_0 : decode prog_4_method_7_code 0 = .ok (.aload_n 2, 1) := by decide +kernel
theorem d_Li_takeStep_1 : decode prog_4_method_7_code 1 = .ok (.getfield 72, 3) := by decide +kernel
theorem d_Li_takeStep_4 : decode prog_4_method_7_code 4 = .ok (.iload_n 3, 1) := by decide +kernel
theorem d_Li_takeStep_5 : decode prog_4_method_7_code 5 = .ok (.iaload, 1) := by decide +kernel
theorem d_Li_takeStep_6 : decode prog_4_method_7_code 6 = .ok (.istore 4, 2) := by decide +kernel
theorem d_Li_takeStep_8 : decode prog_4_method_7_code 8 = .ok (.aload_n 2, 1) := by decide +kernel
theorem d_Li_takeStep_9 : decode prog_4_method_7_code 9 = .ok (.getfield 65, 3) := by decide +kernel
theorem d_Li_takeStep_12 : decode prog_4_method_7_code 12 = .ok (.iload_n 3, 1) := by decide +kernel
theorem d_Li_takeStep_13 : decode prog_4_method_7_code 13 = .ok (.iaload, 1) := by decide +kernel
theorem d_Li_takeStep_14 : decode prog_4_method_7_code 14 = .ok (.tableswitch 157 21 28 #[46, 63, 74, 112, 157, 157, 157, 123], 46) := by decide +kernel
theorem d_Li_takeStep_60 : decode prog_4_method_7_code 60 = .ok (.aload_n 0, 1) := by decide +kernel
theorem d_Li_takeStep_61 : decode prog_4_method_7_code 61 = .ok (.aload_n 1, 1) := by decide +kernel
theorem d_Li_takeStep_62 : decode prog_4_method_7_code 62 = .ok (.iload 4, 2) := by decide +kernel
theorem d_Li_takeStep_64 : decode prog_4_method_7_code 64 = .ok (.aload_n 2, 1) := by decide +kernel
theorem d_Li_takeStep_65 : decode prog_4_method_7_code 65 = .ok (.getfield 95, 3) := by decide +kernel
theorem d_Li_takeStep_68 : decode prog_4_method_7_code 68 = .ok (.iload_n 3, 1) := by decide +kernel
theorem d_Li_takeStep_69 : decode prog_4_method_7_code 69 = .ok (.iaload, 1) := by decide +kernel
theorem d_Li_takeStep_70 : decode prog_4_method_7_code 70 = .ok (.invokevirtual 98, 3) := by decide +kernel
theorem d_Li_takeStep_73 : decode prog_4_method_7_code 73 = .ok (.iload_n 3, 1) := by decide +kernel
theorem d_Li_takeStep_74 : decode prog_4_method_7_code 74 = .ok (.iconst 1, 1) := by decide +kernel
theorem d_Li_takeStep_75 : decode prog_4_method_7_code 75 = .ok (.iadd, 1) := by decide +kernel
theorem d_Li_takeStep_76 : decode prog_4_method_7_code 76 = .ok (.ireturn, 1) := by decide +kernel
theorem d_Li_takeStep_77 : decode prog_4_method_7_code 77 = .ok (.aload_n 0, 1) := by decide +kernel
theorem d_Li_takeStep_78 : decode prog_4_method_7_code 78 = .ok (.aload_n 1, 1) := by decide +kernel
theorem d_Li_takeStep_79 : decode prog_4_method_7_code 79 = .ok (.iload 4, 2) := by decide +kernel
theorem d_Li_takeStep_81 : decode prog_4_method_7_code 81 = .ok (.invokevirtual 102, 3) := by decide +kernel
theorem d_Li_takeStep_84 : decode prog_4_method_7_code 84 = .ok (.iload_n 3, 1) := by decide +kernel
theorem d_Li_takeStep_85 : decode prog_4_method_7_code 85 = .ok (.iconst 1, 1) := by decide +kernel
theorem d_Li_takeStep_86 : decode prog_4_method_7_code 86 = .ok (.iadd, 1) := by decide +kernel
theorem d_Li_takeStep_87 : decode prog_4_method_7_code 87 = .ok (.ireturn, 1) := by decide +kernel
theorem d_Li_takeStep_88 : decode prog_4_method_7_code 88 = .ok (.aload_n 1, 1) := by decide +kernel
theorem d_Li_takeStep_89 : decode prog_4_method_7_code 89 = .ok (.dup, 1) := by decide +kernel
theorem d_Li_takeStep_90 : decode prog_4_method_7_code 90 = .ok (.getfield 45, 3) := by decide +kernel
theorem d_Li_takeStep_93 : decode prog_4_method_7_code 93 = .ok (.aload_n 1, 1) := by decide +kernel
theorem d_Li_takeStep_94 : decode prog_4_method_7_code 94 = .ok (.iload 4, 2) := by decide +kernel
theorem d_Li_takeStep_96 : decode prog_4_method_7_code 96 = .ok (.invokevirtual 106, 3) := by decide +kernel
theorem d_Li_takeStep_99 : decode prog_4_method_7_code 99 = .ok (.ifCond .eq 10, 3) := by decide +kernel
theorem d_Li_takeStep_102 : decode prog_4_method_7_code 102 = .ok (.iconst 1, 1) := by decide +kernel
theorem d_Li_takeStep_103 : decode prog_4_method_7_code 103 = .ok (.iload 4, 2) := by decide +kernel
theorem d_Li_takeStep_105 : decode prog_4_method_7_code 105 = .ok (.ishl, 1) := by decide +kernel
theorem d_Li_takeStep_106 : decode prog_4_method_7_code 106 = .ok (.goto 4, 3) := by decide +kernel
theorem d_Li_takeStep_109 : decode prog_4_method_7_code 109 = .ok (.iconst 0, 1) := by decide +kernel
theorem d_Li_takeStep_110 : decode prog_4_method_7_code 110 = .ok (.ixor, 1) := by decide +kernel
theorem d_Li_takeStep_111 : decode prog_4_method_7_code 111 = .ok (.putfield 45, 3) := by decide +kernel
theorem d_Li_takeStep_114 : decode prog_4_method_7_code 114 = .ok (.aload_n 0, 1) := by decide +kernel
theorem d_Li_takeStep_115 : decode prog_4_method_7_code 115 = .ok (.getfield 18, 3) := by decide +kernel
theorem d_Li_takeStep_118 : decode prog_4_method_7_code 118 = .ok (.iconst (-1), 1) := by decide +kernel
theorem d_Li_takeStep_119 : decode prog_4_method_7_code 119 = .ok (.invokestatic 48, 3) := by decide +kernel
theorem d_Li_takeStep_122 : decode prog_4_method_7_code 122 = .ok (.iload_n 3, 1) := by decide +kernel
theorem d_Li_takeStep_123 : decode prog_4_method_7_code 123 = .ok (.iconst 1, 1) := by decide +kernel
theorem d_Li_takeStep_124 : decode prog_4_method_7_code 124 = .ok (.iadd, 1) := by decide +kernel
theorem d_Li_takeStep_125 : decode prog_4_method_7_code 125 = .ok (.ireturn, 1) := by decide +kernel
theorem d_Li_takeStep_126 : decode prog_4_method_7_code 126 = .ok (.aload_n 0, 1) := by decide +kernel
theorem d_Li_takeStep_127 : decode prog_4_method_7_code 127 = .ok (.aload_n 1, 1) := by decide +kernel
theorem d_Li_takeStep_128 : decode prog_4_method_7_code 128 = .ok (.iload 4, 2) := by decide +kernel
theorem d_Li_takeStep_130 : decode prog_4_method_7_code 130 = .ok (.invokevirtual 109, 3) := by decide +kernel
theorem d_Li_takeStep_133 : decode prog_4_method_7_code 133 = .ok (.iload_n 3, 1) := by decide +kernel
theorem d_Li_takeStep_134 : decode prog_4_method_7_code 134 = .ok (.iconst 1, 1) := by decide +kernel
theorem d_Li_takeStep_135 : decode prog_4_method_7_code 135 = .ok (.iadd, 1) := by decide +kernel
theorem d_Li_takeStep_136 : decode prog_4_method_7_code 136 = .ok (.ireturn, 1) := by decide +kernel
theorem d_Li_takeStep_137 : decode prog_4_method_7_code 137 = .ok (.aload_n 0, 1) := by decide +kernel
theorem d_Li_takeStep_138 : decode prog_4_method_7_code 138 = .ok (.getfield 15, 3) := by decide +kernel
theorem d_Li_takeStep_141 : decode prog_4_method_7_code 141 = .ok (.iload_n 3, 1) := by decide +kernel
theorem d_Li_takeStep_142 : decode prog_4_method_7_code 142 = .ok (.aload_n 2, 1) := by decide +kernel
theorem d_Li_takeStep_143 : decode prog_4_method_7_code 143 = .ok (.getfield 95, 3) := by decide +kernel
theorem d_Li_takeStep_146 : decode prog_4_method_7_code 146 = .ok (.iload_n 3, 1) := by decide +kernel
theorem d_Li_takeStep_147 : decode prog_4_method_7_code 147 = .ok (.iaload, 1) := by decide +kernel
theorem d_Li_takeStep_148 : decode prog_4_method_7_code 148 = .ok (.iastore, 1) := by decide +kernel
theorem d_Li_takeStep_149 : decode prog_4_method_7_code 149 = .ok (.aload_n 2, 1) := by decide +kernel
theorem d_Li_takeStep_150 : decode prog_4_method_7_code 150 = .ok (.getfield 92, 3) := by decide +kernel
theorem d_Li_takeStep_153 : decode prog_4_method_7_code 153 = .ok (.iload_n 3, 1) := by decide +kernel
theorem d_Li_takeStep_154 : decode prog_4_method_7_code 154 = .ok (.iaload, 1) := by decide +kernel
theorem d_Li_takeStep_155 : decode prog_4_method_7_code 155 = .ok (.iload_n 3, 1) := by decide +kernel
theorem d_Li_takeStep_156 : decode prog_4_method_7_code 156 = .ok (.iconst 1, 1) := by decide +kernel
theorem d_Li_takeStep_157 : decode prog_4_method_7_code 157 = .ok (.iadd, 1) := by decide +kernel
theorem d_Li_takeStep_158 : decode prog_4_method_7_code 158 = .ok (.if_icmp .ne 9, 3) := by decide +kernel
theorem d_Li_takeStep_161 : decode prog_4_method_7_code 161 = .ok (.iload_n 3, 1) := by decide +kernel
theorem d_Li_takeStep_162 : decode prog_4_method_7_code 162 = .ok (.iconst 2, 1) := by decide +kernel
theorem d_Li_takeStep_163 : decode prog_4_method_7_code 163 = .ok (.iadd, 1) := by decide +kernel
theorem d_Li_takeStep_164 : decode prog_4_method_7_code 164 = .ok (.goto 6, 3) := by decide +kernel
theorem d_Li_takeStep_167 : decode prog_4_method_7_code 167 = .ok (.iload_n 3, 1) := by decide +kernel
theorem d_Li_takeStep_168 : decode prog_4_method_7_code 168 = .ok (.iconst 1, 1) := by decide +kernel
theorem d_Li_takeStep_169 : decode prog_4_method_7_code 169 = .ok (.iadd, 1) := by decide +kernel
theorem d_Li_takeStep_170 : decode prog_4_method_7_code 170 = .ok (.ireturn, 1) := by decide +kernel
theorem d_Li_takeStep_171 : decode prog_4_method_7_code 171 = .ok (.aload_n 1, 1) := by decide +kernel
theorem d_Li_takeStep_172 : decode prog_4_method_7_code 172 = .ok (.aload_n 2, 1) := by decide +kernel
theorem d_Li_takeStep_173 : decode prog_4_method_7_code 173 = .ok (.iload_n 3, 1) := by decide +kernel
theorem d_Li_takeStep_174 : decode prog_4_method_7_code 174 = .ok (.invokestatic 112, 3) := by decide +kernel
theorem d_Li_takeStep_177 : decode prog_4_method_7_code 177 = .ok (.ifCond .eq 9, 3) := by decide +kernel
theorem d_Li_takeStep_180 : decode prog_4_method_7_code 180 = .ok (.iload_n 3, 1) := by decide +kernel
theorem d_Li_takeStep_181 : decode prog_4_method_7_code 181 = .ok (.iconst 1, 1) := by decide +kernel
theorem d_Li_takeStep_182 : decode prog_4_method_7_code 182 = .ok (.iadd, 1) := by decide +kernel
theorem d_Li_takeStep_183 : decode prog_4_method_7_code 183 = .ok (.goto 11, 3) := by decide +kernel
theorem d_Li_takeStep_186 : decode prog_4_method_7_code 186 = .ok (.aload_n 2, 1) := by decide +kernel
theorem d_Li_takeStep_187 : decode prog_4_method_7_code 187 = .ok (.getfield 92, 3) := by decide +kernel
theorem d_Li_takeStep_190 : decode prog_4_method_7_code 190 = .ok (.iload_n 3, 1) := by decide +kernel
theorem d_Li_takeStep_191 : decode prog_4_method_7_code 191 = .ok (.iaload, 1) := by decide +kernel
theorem d_Li_takeStep_192 : decode prog_4_method_7_code 192 = .ok (.iconst 1, 1) := by decide +kernel
theorem d_Li_takeStep_193 : decode prog_4_method_7_code 193 = .ok (.iadd, 1) := by decide +kernel
theorem d_Li_takeStep_194 : decode prog_4_method_7_code 194 = .ok (.ireturn, 1) := by decide +kernel
def Li_takeStep (Y : Ly) (l0 : Nat) (l1 : Nat) (l2 : Nat) (l3 : Int32) (h : Hp) : Option (Int32 × Hp) :=
  if inB l3 (lnY Y (hGr h 902 l2)) = true then
    if inB l3 (lnY Y (hGr h 900 l2)) = true then
      if (hAi h (hGr h 900 l2) (Int32.toNatClampNeg l3)) = 21 then
        if inB l3 (lnY Y (hGr h 903 l2)) = true then
          (Li_bindOne Y l0 l1 (hAi h (hGr h 902 l2) (Int32.toNatClampNeg l3)) (hAi h (hGr h 903 l2) (Int32.toNatClampNeg l3)) h).bind fun q8 =>
          some (l3 + 1, q8)
        else none
      else
      if (hAi h (hGr h 900 l2) (Int32.toNatClampNeg l3)) = 22 then
        (Li_looseOne Y l0 l1 (hAi h (hGr h 902 l2) (Int32.toNatClampNeg l3)) h).bind fun q10 =>
        some (l3 + 1, q10)
      else
      if (hAi h (hGr h 900 l2) (Int32.toNatClampNeg l3)) = 23 then
        (Sh_hasReader Y l1 (hAi h (hGr h 902 l2) (Int32.toNatClampNeg l3)) h).bind fun q12 =>
        if q12 = true then
          letH (hSi h 417 l1 ((hGi h 417 l1) ^^^ ((1 : Int32) <<< ((hAi h (hGr h 902 l2) (Int32.toNatClampNeg l3)) &&& 31)))) fun h14 =>
          (J_fillI Y (hGr h14 202 l0) (-1) h14).bind fun q16 =>
          some (l3 + 1, q16)
        else
          letH (hSi h 417 l1 ((hGi h 417 l1) ^^^ 0)) fun h17 =>
          (J_fillI Y (hGr h17 202 l0) (-1) h17).bind fun q19 =>
          some (l3 + 1, q19)
      else
      if (hAi h (hGr h 900 l2) (Int32.toNatClampNeg l3)) = 24 then
        (Li_guessOne Y l0 l1 (hAi h (hGr h 902 l2) (Int32.toNatClampNeg l3)) h).bind fun q21 =>
        some (l3 + 1, q21)
      else
      if (hAi h (hGr h 900 l2) (Int32.toNatClampNeg l3)) = 28 then
        if inB l3 (lnY Y (hGr h 903 l2)) = true then
          if inB l3 (lnY Y (hGr h 201 l0)) = true then
            letH (hTi h (hGr h 201 l0) (Int32.toNatClampNeg l3) (hAi h (hGr h 903 l2) (Int32.toNatClampNeg l3))) fun h27 =>
            if inB l3 (lnY Y (hGr h27 904 l2)) = true then
              if (hAi h27 (hGr h27 904 l2) (Int32.toNatClampNeg l3)) = (l3 + 1) then
                some (l3 + 2, h27)
              else
                some (l3 + 1, h27)
            else none
          else none
        else none
      else
      (Li_holds Y l1 l2 l3 h).bind fun q31 =>
      if q31 = true then
        some (l3 + 1, h)
      else
        if inB l3 (lnY Y (hGr h 904 l2)) = true then
          some ((hAi h (hGr h 904 l2) (Int32.toNatClampNeg l3)) + 1, h)
        else none
    else none
  else none
theorem ok_Li_takeStep (Y : Ly) (l0 : Nat) (l1 : Nat) (l2 : Nat) (l3 : Int32) (h : Hp) (t0 : isO Y 2 l0) (t1 : isO Y 4 l1) (t2 : isO Y 9 l2) : AM Y 4 K_Li_takeStep [.ref l0, .ref l1, .ref l2, .int l3] h (Li_takeStep Y l0 l1 l2 l3 h) rI := by
  refine AM.of rfl (Nat.le_of_ble_eq_true rfl) ?_
  show AW Y 4 K_Li_takeStep 0 [(0, .ref l0), (1, .ref l1), (2, .ref l2), (3, .int l3)] [] h (Li_takeStep Y l0 l1 l2 l3 h) rI
  unfold Li_takeStep
  refine aw_aload_n (pc := 0) d_Li_takeStep_0 rfl 2 rfl ?_
  refine gt_902 (pc := 1) d_Li_takeStep_1 w2_94 t2 (fun tt1 => ?_)
  refine aw_iload_n (pc := 4) d_Li_takeStep_4 rfl 3 rfl ?_
  refine aw_iaload (pc := 5) d_Li_takeStep_5 tt1 (fun c2 => ?_)
  refine aw_istore (pc := 6) (lv' := [(4, .int (hAi h (hGr h 902 l2) (Int32.toNatClampNeg l3))), (0, .ref l0), (1, .ref l1), (2, .ref l2), (3, .int l3)]) d_Li_takeStep_6 (by decide) rfl ?_
  refine aw_aload_n (pc := 8) d_Li_takeStep_8 rfl 3 rfl ?_
  refine gt_900 (pc := 9) d_Li_takeStep_9 w2_90 t2 (fun tt3 => ?_)
  refine aw_iload_n (pc := 12) d_Li_takeStep_12 rfl 4 rfl ?_
  refine aw_iaload (pc := 13) d_Li_takeStep_13 tt3 (fun c4 => ?_)
  refine aw_cases (fun c5 => ?_) (fun c5 => ?_)
  · refine aw_tbl (pc := 14) (tgt := 60) (off := 46) d_Li_takeStep_14 (by rw [c5]; decide) (by rw [c5]; decide) (by rw [c5]; rfl) (by decide) ?_
    refine aw_aload_n (pc := 60) d_Li_takeStep_60 rfl 1 rfl ?_
    refine aw_aload_n (pc := 61) d_Li_takeStep_61 rfl 2 rfl ?_
    refine aw_iload (pc := 62) d_Li_takeStep_62 0 rfl ?_
    refine aw_aload_n (pc := 64) d_Li_takeStep_64 rfl 3 rfl ?_
    refine gt_903 (pc := 65) d_Li_takeStep_65 w2_96 t2 (fun tt6 => ?_)
    refine aw_iload_n (pc := 68) d_Li_takeStep_68 rfl 4 rfl ?_
    refine aw_iaload (pc := 69) d_Li_takeStep_69 tt6 (fun c7 => ?_)
    refine aw_cVrV (pc := 70) (ci := 2) (T := TX2) (N := 7) (As := [.ref l1, .int (hAi h (hGr h 902 l2) (Int32.toNatClampNeg l3)), .int (hAi h (hGr h 903 l2) (Int32.toNatClampNeg l3))]) (st := []) (ok_Li_bindOne Y l0 l1 (hAi h (hGr h 902 l2) (Int32.toNatClampNeg l3)) (hAi h (hGr h 903 l2) (Int32.toNatClampNeg l3)) h t0 t1) okV_Li_bindOne rfl (by decide) t0 w6_177 d_Li_takeStep_70 rfl (Nat.le_of_ble_eq_true rfl) rfl (Nat.le_of_ble_eq_true rfl) (fun q8 hq8 hTq8 => ?_)
    refine aw_iload_n (pc := 73) d_Li_takeStep_73 rfl 4 rfl ?_
    refine aw_iconst (pc := 74) (x := 1) d_Li_takeStep_74 (by decide) ?_
    refine aw_iadd (pc := 75) d_Li_takeStep_75 ?_
    exact aw_ireturn (pc := 76) d_Li_takeStep_76 rfl rfl
  refine aw_cases (fun c9 => ?_) (fun c9 => ?_)
  · refine aw_tbl (pc := 14) (tgt := 77) (off := 63) d_Li_takeStep_14 (by rw [c9]; decide) (by rw [c9]; decide) (by rw [c9]; rfl) (by decide) ?_
    refine aw_aload_n (pc := 77) d_Li_takeStep_77 rfl 1 rfl ?_
    refine aw_aload_n (pc := 78) d_Li_takeStep_78 rfl 2 rfl ?_
    refine aw_iload (pc := 79) d_Li_takeStep_79 0 rfl ?_
    refine aw_cVrV (pc := 81) (ci := 2) (T := TX2) (N := 7) (As := [.ref l1, .int (hAi h (hGr h 902 l2) (Int32.toNatClampNeg l3))]) (st := []) (ok_Li_looseOne Y l0 l1 (hAi h (hGr h 902 l2) (Int32.toNatClampNeg l3)) h t0 t1) okV_Li_looseOne rfl (by decide) t0 w6_182 d_Li_takeStep_81 rfl (Nat.le_of_ble_eq_true rfl) rfl (Nat.le_of_ble_eq_true rfl) (fun q10 hq10 hTq10 => ?_)
    refine aw_iload_n (pc := 84) d_Li_takeStep_84 rfl 4 rfl ?_
    refine aw_iconst (pc := 85) (x := 1) d_Li_takeStep_85 (by decide) ?_
    refine aw_iadd (pc := 86) d_Li_takeStep_86 ?_
    exact aw_ireturn (pc := 87) d_Li_takeStep_87 rfl rfl
  refine aw_cases (fun c11 => ?_) (fun c11 => ?_)
  · refine aw_tbl (pc := 14) (tgt := 88) (off := 74) d_Li_takeStep_14 (by rw [c11]; decide) (by rw [c11]; decide) (by rw [c11]; rfl) (by decide) ?_
    refine aw_aload_n (pc := 88) d_Li_takeStep_88 rfl 2 rfl ?_
    refine aw_dup (pc := 89) d_Li_takeStep_89 rfl ?_
    refine gt_417 (pc := 90) d_Li_takeStep_90 w2_167 t1 ?_
    refine aw_aload_n (pc := 93) d_Li_takeStep_93 rfl 2 rfl ?_
    refine aw_iload (pc := 94) d_Li_takeStep_94 0 rfl ?_
    refine aw_cVpZ (pc := 96) (ci := 4) (T := TX4) (N := 19) (As := [.int (hAi h (hGr h 902 l2) (Int32.toNatClampNeg l3))]) (st := [.int (hGi h 417 l1), .ref l1]) (ok_Sh_hasReader Y l1 (hAi h (hGr h 902 l2) (Int32.toNatClampNeg l3)) h t1) okV_Sh_hasReader rfl (by decide) t1 w6_186 d_Li_takeStep_96 rfl (Nat.le_of_ble_eq_true rfl) rfl (Nat.le_of_ble_eq_true rfl) (fun q12 hq12 hTq12 => ?_)
    refine aw_beq (pc := 99) (tgt := 109) d_Li_takeStep_99 (by decide) (fun c13 => ?_) (fun c13 => ?_)
    · refine aw_iconst (pc := 102) (x := 1) d_Li_takeStep_102 (by decide) ?_
      refine aw_iload (pc := 103) d_Li_takeStep_103 0 rfl ?_
      refine aw_ishl (pc := 105) d_Li_takeStep_105 ?_
      refine aw_goto (pc := 106) (tgt := 110) d_Li_takeStep_106 (by decide) ?_
      refine aw_ixor (pc := 110) d_Li_takeStep_110 ?_
      refine pt_417 (pc := 111) d_Li_takeStep_111 w2_167 t1 ?_
      refine aw_letH (fun h14 => ?_)
      refine aw_aload_n (pc := 114) d_Li_takeStep_114 rfl 1 rfl ?_
      refine gt_202 (pc := 115) d_Li_takeStep_115 w2_31 t0 (fun tt15 => ?_)
      refine aw_iconst (pc := 118) (x := (-1)) d_Li_takeStep_118 (by decide) ?_
      refine aw_cSrV (pc := 119) (As := [.ref (hGr h14 202 l0), .int (-1)]) (st := []) (ok_J_fillI Y (hGr h14 202 l0) (-1) h14 tt15) okS_J_fillI w6_160 d_Li_takeStep_119 rfl (Nat.le_of_ble_eq_true rfl) rfl (Nat.le_of_ble_eq_true rfl) (fun q16 hq16 hTq16 => ?_)
      refine aw_iload_n (pc := 122) d_Li_takeStep_122 rfl 4 rfl ?_
      refine aw_iconst (pc := 123) (x := 1) d_Li_takeStep_123 (by decide) ?_
      refine aw_iadd (pc := 124) d_Li_takeStep_124 ?_
      exact aw_ireturn (pc := 125) d_Li_takeStep_125 rfl rfl
    · refine aw_iconst (pc := 109) (x := 0) d_Li_takeStep_109 (by decide) ?_
      refine aw_ixor (pc := 110) d_Li_takeStep_110 ?_
      refine pt_417 (pc := 111) d_Li_takeStep_111 w2_167 t1 ?_
      refine aw_letH (fun h17 => ?_)
      refine aw_aload_n (pc := 114) d_Li_takeStep_114 rfl 1 rfl ?_
      refine gt_202 (pc := 115) d_Li_takeStep_115 w2_31 t0 (fun tt18 => ?_)
      refine aw_iconst (pc := 118) (x := (-1)) d_Li_takeStep_118 (by decide) ?_
      refine aw_cSrV (pc := 119) (As := [.ref (hGr h17 202 l0), .int (-1)]) (st := []) (ok_J_fillI Y (hGr h17 202 l0) (-1) h17 tt18) okS_J_fillI w6_160 d_Li_takeStep_119 rfl (Nat.le_of_ble_eq_true rfl) rfl (Nat.le_of_ble_eq_true rfl) (fun q19 hq19 hTq19 => ?_)
      refine aw_iload_n (pc := 122) d_Li_takeStep_122 rfl 4 rfl ?_
      refine aw_iconst (pc := 123) (x := 1) d_Li_takeStep_123 (by decide) ?_
      refine aw_iadd (pc := 124) d_Li_takeStep_124 ?_
      exact aw_ireturn (pc := 125) d_Li_takeStep_125 rfl rfl
  refine aw_cases (fun c20 => ?_) (fun c20 => ?_)
  · refine aw_tbl (pc := 14) (tgt := 126) (off := 112) d_Li_takeStep_14 (by rw [c20]; decide) (by rw [c20]; decide) (by rw [c20]; rfl) (by decide) ?_
    refine aw_aload_n (pc := 126) d_Li_takeStep_126 rfl 1 rfl ?_
    refine aw_aload_n (pc := 127) d_Li_takeStep_127 rfl 2 rfl ?_
    refine aw_iload (pc := 128) d_Li_takeStep_128 0 rfl ?_
    refine aw_cVrV (pc := 130) (ci := 2) (T := TX2) (N := 7) (As := [.ref l1, .int (hAi h (hGr h 902 l2) (Int32.toNatClampNeg l3))]) (st := []) (ok_Li_guessOne Y l0 l1 (hAi h (hGr h 902 l2) (Int32.toNatClampNeg l3)) h t0 t1) okV_Li_guessOne rfl (by decide) t0 w6_187 d_Li_takeStep_130 rfl (Nat.le_of_ble_eq_true rfl) rfl (Nat.le_of_ble_eq_true rfl) (fun q21 hq21 hTq21 => ?_)
    refine aw_iload_n (pc := 133) d_Li_takeStep_133 rfl 4 rfl ?_
    refine aw_iconst (pc := 134) (x := 1) d_Li_takeStep_134 (by decide) ?_
    refine aw_iadd (pc := 135) d_Li_takeStep_135 ?_
    exact aw_ireturn (pc := 136) d_Li_takeStep_136 rfl rfl
  refine aw_cases (fun c22 => ?_) (fun c22 => ?_)
  · refine aw_tbl (pc := 14) (tgt := 137) (off := 123) d_Li_takeStep_14 (by rw [c22]; decide) (by rw [c22]; decide) (by rw [c22]; rfl) (by decide) ?_
    refine aw_aload_n (pc := 137) d_Li_takeStep_137 rfl 1 rfl ?_
    refine gt_201 (pc := 138) d_Li_takeStep_138 w2_30 t0 (fun tt23 => ?_)
    refine aw_iload_n (pc := 141) d_Li_takeStep_141 rfl 4 rfl ?_
    refine aw_aload_n (pc := 142) d_Li_takeStep_142 rfl 3 rfl ?_
    refine gt_903 (pc := 143) d_Li_takeStep_143 w2_96 t2 (fun tt24 => ?_)
    refine aw_iload_n (pc := 146) d_Li_takeStep_146 rfl 4 rfl ?_
    refine aw_iaload (pc := 147) d_Li_takeStep_147 tt24 (fun c25 => ?_)
    refine aw_iastore (pc := 148) d_Li_takeStep_148 tt23 (fun c26 => ?_)
    refine aw_letH (fun h27 => ?_)
    refine aw_aload_n (pc := 149) d_Li_takeStep_149 rfl 3 rfl ?_
    refine gt_904 (pc := 150) d_Li_takeStep_150 w2_98 t2 (fun tt28 => ?_)
    refine aw_iload_n (pc := 153) d_Li_takeStep_153 rfl 4 rfl ?_
    refine aw_iaload (pc := 154) d_Li_takeStep_154 tt28 (fun c29 => ?_)
    refine aw_iload_n (pc := 155) d_Li_takeStep_155 rfl 4 rfl ?_
    refine aw_iconst (pc := 156) (x := 1) d_Li_takeStep_156 (by decide) ?_
    refine aw_iadd (pc := 157) d_Li_takeStep_157 ?_
    refine aw_icmp_ne (pc := 158) (tgt := 167) d_Li_takeStep_158 (by decide) (fun c30 => ?_) (fun c30 => ?_)
    · refine aw_iload_n (pc := 161) d_Li_takeStep_161 rfl 4 rfl ?_
      refine aw_iconst (pc := 162) (x := 2) d_Li_takeStep_162 (by decide) ?_
      refine aw_iadd (pc := 163) d_Li_takeStep_163 ?_
      refine aw_goto (pc := 164) (tgt := 170) d_Li_takeStep_164 (by decide) ?_
      exact aw_ireturn (pc := 170) d_Li_takeStep_170 rfl rfl
    · refine aw_iload_n (pc := 167) d_Li_takeStep_167 rfl 4 rfl ?_
      refine aw_iconst (pc := 168) (x := 1) d_Li_takeStep_168 (by decide) ?_
      refine aw_iadd (pc := 169) d_Li_takeStep_169 ?_
      exact aw_ireturn (pc := 170) d_Li_takeStep_170 rfl rfl
  refine aw_tblX (pc := 14) (tgt := 171) d_Li_takeStep_14 (by intro k hk; match k, hk with | 0, _ => exact Or.inr (fun q => c5 (q.trans (by decide))) | 1, _ => exact Or.inr (fun q => c9 (q.trans (by decide))) | 2, _ => exact Or.inr (fun q => c11 (q.trans (by decide))) | 3, _ => exact Or.inr (fun q => c20 (q.trans (by decide))) | 4, _ => exact Or.inl rfl | 5, _ => exact Or.inl rfl | 6, _ => exact Or.inl rfl | 7, _ => exact Or.inr (fun q => c22 (q.trans (by decide))) | k + 8, hk => exact absurd hk (by show ¬ (k + 8 < 8); omega)) rfl (by decide) ?_
  refine aw_aload_n (pc := 171) d_Li_takeStep_171 rfl 2 rfl ?_
  refine aw_aload_n (pc := 172) d_Li_takeStep_172 rfl 3 rfl ?_
  refine aw_iload_n (pc := 173) d_Li_takeStep_173 rfl 4 rfl ?_
  refine aw_cSpZ (pc := 174) (As := [.ref l1, .ref l2, .int l3]) (st := []) (ok_Li_holds Y l1 l2 l3 h t1 t2) okS_Li_holds w6_202 d_Li_takeStep_174 rfl (Nat.le_of_ble_eq_true rfl) rfl (Nat.le_of_ble_eq_true rfl) (fun q31 hq31 hTq31 => ?_)
  refine aw_beq (pc := 177) (tgt := 186) d_Li_takeStep_177 (by decide) (fun c32 => ?_) (fun c32 => ?_)
  · refine aw_iload_n (pc := 180) d_Li_takeStep_180 rfl 4 rfl ?_
    refine aw_iconst (pc := 181) (x := 1) d_Li_takeStep_181 (by decide) ?_
    refine aw_iadd (pc := 182) d_Li_takeStep_182 ?_
    refine aw_goto (pc := 183) (tgt := 194) d_Li_takeStep_183 (by decide) ?_
    exact aw_ireturn (pc := 194) d_Li_takeStep_194 rfl rfl
  · refine aw_aload_n (pc := 186) d_Li_takeStep_186 rfl 3 rfl ?_
    refine gt_904 (pc := 187) d_Li_takeStep_187 w2_98 t2 (fun tt33 => ?_)
    refine aw_iload_n (pc := 190) d_Li_takeStep_190 rfl 4 rfl ?_
    refine aw_iaload (pc := 191) d_Li_takeStep_191 tt33 (fun c34 => ?_)
    refine aw_iconst (pc := 192) (x := 1) d_Li_takeStep_192 (by decide) ?_
    refine aw_iadd (pc := 193) d_Li_takeStep_193 ?_
    exact aw_ireturn (pc := 194) d_Li_takeStep_194 rfl rfl
/-! LastPages$Life.run(LLastPages$Shelf;LLastPages$Endings;I)V -/
theorem d_Li_run_0 : decode prog_4_method_4_code 0 = .ok (.aload_n 0, 1) := by decide +kernel
theorem d_Li_run_1 : decode prog_4_method_4_code 1 = .ok (.getfield 9, 3) := by decide +kernel
theorem d_Li_run_4 : decode prog_4_method_4_code 4 = .ok (.iconst 0, 1) := by decide +kernel
theorem d_Li_run_5 : decode prog_4_method_4_code 5 = .ok (.invokestatic 48, 3) := by decide +kernel
theorem d_Li_run_8 : decode prog_4_method_4_code 8 = .ok (.aload_n 0, 1) := by decide +kernel
theorem d_Li_run_9 : decode prog_4_method_4_code 9 = .ok (.getfield 18, 3) := by decide +kernel
theorem d_Li_run_12 : decode prog_4_method_4_code 12 = .ok (.iconst (-1), 1) := by decide +kernel
theorem d_Li_run_13 : decode prog_4_method_4_code 13 = .ok (.invokestatic 48, 3) := by decide +kernel
theorem d_Li_run_16 : decode prog_4_method_4_code 16 = .ok (.aload_n 0, 1) := by decide +kernel
theorem d_Li_run_17 : decode prog_4_method_4_code 17 = .ok (.iconst 0, 1) := by decide +kernel
theorem d_Li_run_18 : decode prog_4_method_4_code 18 = .ok (.putfield 28, 3) := by decide +kernel
theorem d_Li_run_21 : decode prog_4_method_4_code 21 = .ok (.aload_n 0, 1) := by decide +kernel
theorem d_Li_run_22 : decode prog_4_method_4_code 22 = .ok (.iload_n 3, 1) := by decide +kernel
theorem d_Li_run_23 : decode prog_4_method_4_code 23 = .ok (.putfield 31, 3) := by decide +kernel
theorem d_Li_run_26 : decode prog_4_method_4_code 26 = .ok (.aload_n 1, 1) := by decide +kernel
theorem d_Li_run_27 : decode prog_4_method_4_code 27 = .ok (.getfield 54, 3) := by decide +kernel
theorem d_Li_run_30 : decode prog_4_method_4_code 30 = .ok (.astore 4, 2) := by decide +kernel
theorem d_Li_run_32 : decode prog_4_method_4_code 32 = .ok (.iconst 0, 1) := by decide +kernel
theorem d_Li_run_33 : decode prog_4_method_4_code 33 = .ok (.istore 5, 2) := by decide +kernel
theorem d_Li_run_35 : decode prog_4_method_4_code 35 = .ok (.iconst 0, 1) := by decide +kernel
theorem d_Li_run_36 : decode prog_4_method_4_code 36 = .ok (.istore 6, 2) := by decide +kernel
theorem d_Li_run_38 : decode prog_4_method_4_code 38 = .ok (.iload 6, 2) := by decide +kernel
theorem d_Li_run_40 : decode prog_4_method_4_code 40 = .ok (.ldc 58, 2) := by decide +kernel
theorem d_Li_run_42 : decode prog_4_method_4_code 42 = .ok (.if_icmp .ge 124, 3) := by decide +kernel
theorem d_Li_run_45 : decode prog_4_method_4_code 45 = .ok (.aload 4, 2) := by decide +kernel
theorem d_Li_run_47 : decode prog_4_method_4_code 47 = .ok (.iload 5, 2) := by decide +kernel
theorem d_Li_run_49 : decode prog_4_method_4_code 49 = .ok (.invokevirtual 59, 3) := by decide +kernel
theorem d_Li_run_52 : decode prog_4_method_4_code 52 = .ok (.ifCond .eq 114, 3) := by decide +kernel
theorem d_Li_run_55 : decode prog_4_method_4_code 55 = .ok (.aload 4, 2) := by decide +kernel
theorem d_Li_run_57 : decode prog_4_method_4_code 57 = .ok (.getfield 65, 3) := by decide +kernel
theorem d_Li_run_60 : decode prog_4_method_4_code 60 = .ok (.iload 5, 2) := by decide +kernel
theorem d_Li_run_62 : decode prog_4_method_4_code 62 = .ok (.iaload, 1) := by decide +kernel
theorem d_Li_run_63 : decode prog_4_method_4_code 63 = .ok (.istore 7, 2) := by decide +kernel
theorem d_Li_run_65 : decode prog_4_method_4_code 65 = .ok (.iload 7, 2) := by decide +kernel
theorem d_Li_run_67 : decode prog_4_method_4_code 67 = .ok (.bipush 29, 2) := by decide +kernel
theorem d_Li_run_69 : decode prog_4_method_4_code 69 = .ok (.if_icmp .ne 16, 3) := by decide +kernel
theorem d_Li_run_72 : decode prog_4_method_4_code 72 = .ok (.aload_n 0, 1) := by decide +kernel
theorem d_Li_run_73 : decode prog_4_method_4_code 73 = .ok (.aload 4, 2) := by decide +kernel
theorem d_Li_run_75 : decode prog_4_method_4_code 75 = .ok (.iload 5, 2) := by decide +kernel
theorem d_Li_run_77 : decode prog_4_method_4_code 77 = .ok (.invokevirtual 68, 3) := by decide +kernel
theorem d_Li_run_80 : decode prog_4_method_4_code 80 = .ok (.istore 5, 2) := by decide +kernel
theorem d_Li_run_82 : decode prog_4_method_4_code 82 = .ok (.goto 78, 3) := by decide +kernel
theorem d_Li_run_85 : decode prog_4_method_4_code 85 = .ok (.aload_n 0, 1) := by decide +kernel
theorem d_Li_run_86 : decode prog_4_method_4_code 86 = .ok (.getfield 28, 3) := by decide +kernel
theorem d_Li_run_89 : decode prog_4_method_4_code 89 = .ok (.sipush 300, 3) := by decide +kernel
theorem d_Li_run_92 : decode prog_4_method_4_code 92 = .ok (.if_icmp .lt 11, 3) := by decide +kernel
theorem d_Li_run_95 : decode prog_4_method_4_code 95 = .ok (.aload_n 0, 1) := by decide +kernel
theorem d_Li_run_96 : decode prog_4_method_4_code 96 = .ok (.getfield 9, 3) := by decide +kernel
theorem d_Li_run_99 : decode prog_4_method_4_code 99 = .ok (.iconst 4, 1) := by decide +kernel
theorem d_Li_run_100 : decode prog_4_method_4_code 100 = .ok (.iconst 1, 1) := by decide +kernel
theorem d_Li_run_101 : decode prog_4_method_4_code 101 = .ok (.iastore, 1) := by decide +kernel
theorem d_Li_run_102 : decode prog_4_method_4_code 102 = .ok (.return_, 1) := by decide +kernel
theorem d_Li_run_103 : decode prog_4_method_4_code 103 = .ok (.aload_n 0, 1) := by decide +kernel
theorem d_Li_run_104 : decode prog_4_method_4_code 104 = .ok (.dup, 1) := by decide +kernel
theorem d_Li_run_105 : decode prog_4_method_4_code 105 = .ok (.getfield 28, 3) := by decide +kernel
theorem d_Li_run_108 : decode prog_4_method_4_code 108 = .ok (.iconst 1, 1) := by decide +kernel
theorem d_Li_run_109 : decode prog_4_method_4_code 109 = .ok (.iadd, 1) := by decide +kernel
theorem d_Li_run_110 : decode prog_4_method_4_code 110 = .ok (.putfield 28, 3) := by decide +kernel
theorem d_Li_run_113 : decode prog_4_method_4_code 113 = .ok (.iload 7, 2) := by decide +kernel
theorem d_Li_run_115 : decode prog_4_method_4_code 115 = .ok (.bipush 30, 2) := by decide +kernel
theorem d_Li_run_117 : decode prog_4_method_4_code 117 = .ok (.if_icmp .ne 4, 3) := by decide +kernel
theorem d_Li_run_120 : decode prog_4_method_4_code 120 = .ok (.return_, 1) := by decide +kernel
theorem d_Li_run_121 : decode prog_4_method_4_code 121 = .ok (.iload 7, 2) := by decide +kernel
theorem d_Li_run_123 : decode prog_4_method_4_code 123 = .ok (.bipush 21, 2) := by decide +kernel
theorem d_Li_run_125 : decode prog_4_method_4_code 125 = .ok (.if_icmp .eq 10, 3) := by decide +kernel
theorem d_Li_run_128 : decode prog_4_method_4_code 128 = .ok (.iload 7, 2) := by decide +kernel
theorem d_Li_run_130 : decode prog_4_method_4_code 130 = .ok (.bipush 24, 2) := by decide +kernel
theorem d_Li_run_132 : decode prog_4_method_4_code 132 = .ok (.if_icmp .ne 17, 3) := by decide +kernel
theorem d_Li_run_135 : decode prog_4_method_4_code 135 = .ok (.aload_n 0, 1) := by decide +kernel
theorem d_Li_run_136 : decode prog_4_method_4_code 136 = .ok (.aload_n 1, 1) := by decide +kernel
theorem d_Li_run_137 : decode prog_4_method_4_code 137 = .ok (.aload_n 2, 1) := by decide +kernel
theorem d_Li_run_138 : decode prog_4_method_4_code 138 = .ok (.aload 4, 2) := by decide +kernel
theorem d_Li_run_140 : decode prog_4_method_4_code 140 = .ok (.getfield 72, 3) := by decide +kernel
theorem d_Li_run_143 : decode prog_4_method_4_code 143 = .ok (.iload 5, 2) := by decide +kernel
theorem d_Li_run_145 : decode prog_4_method_4_code 145 = .ok (.iaload, 1) := by decide +kernel
theorem d_Li_run_146 : decode prog_4_method_4_code 146 = .ok (.invokevirtual 75, 3) := by decide +kernel
theorem d_Li_run_149 : decode prog_4_method_4_code 149 = .ok (.aload_n 0, 1) := by decide +kernel
theorem d_Li_run_150 : decode prog_4_method_4_code 150 = .ok (.aload_n 1, 1) := by decide +kernel
theorem d_Li_run_151 : decode prog_4_method_4_code 151 = .ok (.aload 4, 2) := by decide +kernel
theorem d_Li_run_153 : decode prog_4_method_4_code 153 = .ok (.iload 5, 2) := by decide +kernel
theorem d_Li_run_155 : decode prog_4_method_4_code 155 = .ok (.invokevirtual 79, 3) := by decide +kernel
theorem d_Li_run_158 : decode prog_4_method_4_code 158 = .ok (.istore 5, 2) := by decide +kernel
theorem d_Li_run_160 : decode prog_4_method_4_code 160 = .ok (.iinc 6 1, 3) := by decide +kernel
theorem d_Li_run_163 : decode prog_4_method_4_code 163 = .ok (.goto (-125), 3) := by decide +kernel
theorem d_Li_run_166 : decode prog_4_method_4_code 166 = .ok (.return_, 1) := by decide +kernel
def Li_run_J135 (Y : Ly) (k38 : Int32 → Int32 → Hp → Option Hp) (l0 : Nat) (l1 : Nat) (l2 : Nat) (l4 : Nat) (l5 : Int32) (l6 : Int32) (h : Hp) : Option Hp :=
  if inB l5 (lnY Y (hGr h 902 l4)) = true then
    (Li_findFit Y l0 l1 l2 (hAi h (hGr h 902 l4) (Int32.toNatClampNeg l5)) h).bind fun q21 =>
    (Li_takeStep Y l0 l1 l4 l5 q21).bind fun q22 =>
    k38 q22.1 (l6 + 1) q22.2
  else none
theorem Li_run_J135_ok (Y : Ly) (k38 : Int32 → Int32 → Hp → Option Hp) (l0 : Nat) (l1 : Nat) (l2 : Nat) (l4 : Nat) (l5 : Int32) (l6 : Int32) (h : Hp) (hk38 : ∀ (l5_ : Int32) (l6_ : Int32) (h_ : Hp), AW Y 5 K_Li_run 38 [(0, .ref l0), (1, .ref l1), (2, .ref l2), (4, .ref l4), (5, .int l5_), (6, .int l6_)] [] h_ (k38 l5_ l6_ h_) rV) (tl0 : isO Y 2 l0) (tl1 : isO Y 4 l1) (tl2 : isO Y 0 l2) (tl4 : isO Y 9 l4) : AW Y 5 K_Li_run 135 [(0, .ref l0), (1, .ref l1), (2, .ref l2), (4, .ref l4), (5, .int l5), (6, .int l6)] [] h (Li_run_J135 Y k38 l0 l1 l2 l4 l5 l6 h) rV := by
  unfold Li_run_J135
  refine aw_aload_n (pc := 135) d_Li_run_135 rfl 0 rfl ?_
  refine aw_aload_n (pc := 136) d_Li_run_136 rfl 1 rfl ?_
  refine aw_aload_n (pc := 137) d_Li_run_137 rfl 2 rfl ?_
  refine aw_aload (pc := 138) d_Li_run_138 3 rfl ?_
  refine gt_902 (pc := 140) d_Li_run_140 w2_94 tl4 (fun tt19 => ?_)
  refine aw_iload (pc := 143) d_Li_run_143 4 rfl ?_
  refine aw_iaload (pc := 145) d_Li_run_145 tt19 (fun c20 => ?_)
  refine aw_cVrV (pc := 146) (ci := 2) (T := TX2) (N := 7) (As := [.ref l1, .ref l2, .int (hAi h (hGr h 902 l4) (Int32.toNatClampNeg l5))]) (st := []) (ok_Li_findFit Y l0 l1 l2 (hAi h (hGr h 902 l4) (Int32.toNatClampNeg l5)) h tl0 tl1 tl2) okV_Li_findFit rfl (by decide) tl0 w6_167 d_Li_run_146 rfl (Nat.le_of_ble_eq_true rfl) rfl (Nat.le_of_ble_eq_true rfl) (fun q21 hq21 hTq21 => ?_)
  refine aw_aload_n (pc := 149) d_Li_run_149 rfl 0 rfl ?_
  refine aw_aload_n (pc := 150) d_Li_run_150 rfl 1 rfl ?_
  refine aw_aload (pc := 151) d_Li_run_151 3 rfl ?_
  refine aw_iload (pc := 153) d_Li_run_153 4 rfl ?_
  refine aw_cVrI (pc := 155) (ci := 2) (T := TX2) (N := 7) (As := [.ref l1, .ref l4, .int l5]) (st := []) (ok_Li_takeStep Y l0 l1 l4 l5 q21 tl0 tl1 tl4) okV_Li_takeStep rfl (by decide) tl0 w6_173 d_Li_run_155 rfl (Nat.le_of_ble_eq_true rfl) rfl (Nat.le_of_ble_eq_true rfl) (fun q22 hq22 hTq22 => ?_)
  refine aw_istore (pc := 158) (lv' := [(5, .int q22.1), (0, .ref l0), (1, .ref l1), (2, .ref l2), (4, .ref l4), (6, .int l6)]) d_Li_run_158 (by decide) rfl ?_
  refine aw_iinc (pc := 160) (w := l6 + 1) (lv' := [(6, .int (l6 + 1)), (5, .int q22.1), (0, .ref l0), (1, .ref l1), (2, .ref l2), (4, .ref l4)]) d_Li_run_160 5 rfl rfl (by decide) rfl ?_
  refine aw_goto (pc := 163) (tgt := 38) d_Li_run_163 (by decide) ?_
  exact aw_lv [2, 3, 4, 5, 1, 0] rfl (hk38 q22.1 (l6 + 1) q22.2)
def Li_run_L38 (Y : Ly) (l0 : Nat) (l1 : Nat) (l2 : Nat) (l4 : Nat) : Nat → Int32 → Int32 → Hp → Option Hp
  | 0, _, _, _ => none
  | F + 1, l5, l6, h =>
    if 1000000 ≤ l6 then
      some h
    else
      (We_hasRow Y l4 l5 h).bind fun q9 =>
      if q9 = true then
        if inB l5 (lnY Y (hGr h 900 l4)) = true then
          if (hAi h (hGr h 900 l4) (Int32.toNatClampNeg l5)) = 29 then
            (Li_behindEnd Y l0 l4 l5 h).bind fun q14 =>
            Li_run_L38 Y l0 l1 l2 l4 F q14.1 (l6 + 1) q14.2
          else
            if (hGi h 205 l0) < 300 then
              letH (hSi h 205 l0 ((hGi h 205 l0) + 1)) fun h16 =>
              if (hAi h (hGr h 900 l4) (Int32.toNatClampNeg l5)) = 30 then
                some h16
              else
                if (hAi h (hGr h 900 l4) (Int32.toNatClampNeg l5)) = 21 then
                  Li_run_J135 Y (Li_run_L38 Y l0 l1 l2 l4 F) l0 l1 l2 l4 l5 l6 h16
                else
                  if (hAi h (hGr h 900 l4) (Int32.toNatClampNeg l5)) = 24 then
                    Li_run_J135 Y (Li_run_L38 Y l0 l1 l2 l4 F) l0 l1 l2 l4 l5 l6 h16
                  else
                    (Li_takeStep Y l0 l1 l4 l5 h16).bind fun q24 =>
                    Li_run_L38 Y l0 l1 l2 l4 F q24.1 (l6 + 1) q24.2
            else
              if inB 4 (lnY Y (hGr h 200 l0)) = true then
                letH (hTi h (hGr h 200 l0) (Int32.toNatClampNeg 4) 1) fun h27 =>
                some h27
              else none
        else none
      else
        some h
theorem Li_run_L38_ok (Y : Ly) (l0 : Nat) (l1 : Nat) (l2 : Nat) (l4 : Nat) (tl0 : isO Y 2 l0) (tl1 : isO Y 4 l1) (tl2 : isO Y 0 l2) (tl4 : isO Y 9 l4) : ∀ (F : Nat) (l5 : Int32) (l6 : Int32) (h : Hp), AW Y 5 K_Li_run 38 [(0, .ref l0), (1, .ref l1), (2, .ref l2), (4, .ref l4), (5, .int l5), (6, .int l6)] [] h (Li_run_L38 Y l0 l1 l2 l4 F l5 l6 h) rV := by
  intro F
  induction F with
  | zero =>
    intro l5 l6 h
    exact aw_none
  | succ F ih =>
    intro l5 l6 h
    unfold Li_run_L38
    refine aw_iload (pc := 38) d_Li_run_38 5 rfl ?_
    refine aw_ldc (pc := 40) d_Li_run_40 w6_161 ?_
    refine aw_icmp_ge (pc := 42) (tgt := 166) d_Li_run_42 (by decide) (fun c8 => ?_) (fun c8 => ?_)
    · exact aw_return (pc := 166) d_Li_run_166 rfl rfl
    · refine aw_aload (pc := 45) d_Li_run_45 3 rfl ?_
      refine aw_iload (pc := 47) d_Li_run_47 4 rfl ?_
      refine aw_cVpZ (pc := 49) (ci := 9) (T := TX9) (N := 8) (As := [.int l5]) (st := []) (ok_We_hasRow Y l4 l5 h tl4) okV_We_hasRow rfl (by decide) tl4 w6_162 d_Li_run_49 rfl (Nat.le_of_ble_eq_true rfl) rfl (Nat.le_of_ble_eq_true rfl) (fun q9 hq9 hTq9 => ?_)
      refine aw_beq (pc := 52) (tgt := 166) d_Li_run_52 (by decide) (fun c10 => ?_) (fun c10 => ?_)
      · refine aw_aload (pc := 55) d_Li_run_55 3 rfl ?_
        refine gt_900 (pc := 57) d_Li_run_57 w2_90 tl4 (fun tt11 => ?_)
        refine aw_iload (pc := 60) d_Li_run_60 4 rfl ?_
        refine aw_iaload (pc := 62) d_Li_run_62 tt11 (fun c12 => ?_)
        refine aw_istore (pc := 63) (lv' := [(7, .int (hAi h (hGr h 900 l4) (Int32.toNatClampNeg l5))), (0, .ref l0), (1, .ref l1), (2, .ref l2), (4, .ref l4), (5, .int l5), (6, .int l6)]) d_Li_run_63 (by decide) rfl ?_
        refine aw_iload (pc := 65) d_Li_run_65 0 rfl ?_
        refine aw_bipush (pc := 67) (x := 29) d_Li_run_67 (by decide) ?_
        refine aw_icmp_ne (pc := 69) (tgt := 85) d_Li_run_69 (by decide) (fun c13 => ?_) (fun c13 => ?_)
        · refine aw_aload_n (pc := 72) d_Li_run_72 rfl 1 rfl ?_
          refine aw_aload (pc := 73) d_Li_run_73 4 rfl ?_
          refine aw_iload (pc := 75) d_Li_run_75 5 rfl ?_
          refine aw_cVrI (pc := 77) (ci := 2) (T := TX2) (N := 7) (As := [.ref l4, .int l5]) (st := []) (ok_Li_behindEnd Y l0 l4 l5 h tl0 tl4) okV_Li_behindEnd rfl (by decide) tl0 w6_163 d_Li_run_77 rfl (Nat.le_of_ble_eq_true rfl) rfl (Nat.le_of_ble_eq_true rfl) (fun q14 hq14 hTq14 => ?_)
          refine aw_istore (pc := 80) (lv' := [(5, .int q14.1), (7, .int (hAi h (hGr h 900 l4) (Int32.toNatClampNeg l5))), (0, .ref l0), (1, .ref l1), (2, .ref l2), (4, .ref l4), (6, .int l6)]) d_Li_run_80 (by decide) rfl ?_
          refine aw_goto (pc := 82) (tgt := 160) d_Li_run_82 (by decide) ?_
          refine aw_iinc (pc := 160) (w := l6 + 1) (lv' := [(6, .int (l6 + 1)), (5, .int q14.1), (7, .int (hAi h (hGr h 900 l4) (Int32.toNatClampNeg l5))), (0, .ref l0), (1, .ref l1), (2, .ref l2), (4, .ref l4)]) d_Li_run_160 6 rfl rfl (by decide) rfl ?_
          refine aw_goto (pc := 163) (tgt := 38) d_Li_run_163 (by decide) ?_
          exact aw_lv [3, 4, 5, 6, 1, 0] rfl (ih q14.1 (l6 + 1) q14.2)
        · refine aw_aload_n (pc := 85) d_Li_run_85 rfl 1 rfl ?_
          refine gt_205 (pc := 86) d_Li_run_86 w2_34 tl0 ?_
          refine aw_sipush (pc := 89) (x := 300) d_Li_run_89 (by decide) ?_
          refine aw_icmp_lt (pc := 92) (tgt := 103) d_Li_run_92 (by decide) (fun c15 => ?_) (fun c15 => ?_)
          · refine aw_aload_n (pc := 103) d_Li_run_103 rfl 1 rfl ?_
            refine aw_dup (pc := 104) d_Li_run_104 rfl ?_
            refine gt_205 (pc := 105) d_Li_run_105 w2_34 tl0 ?_
            refine aw_iconst (pc := 108) (x := 1) d_Li_run_108 (by decide) ?_
            refine aw_iadd (pc := 109) d_Li_run_109 ?_
            refine pt_205 (pc := 110) d_Li_run_110 w2_34 tl0 ?_
            refine aw_letH (fun h16 => ?_)
            refine aw_iload (pc := 113) d_Li_run_113 0 rfl ?_
            refine aw_bipush (pc := 115) (x := 30) d_Li_run_115 (by decide) ?_
            refine aw_icmp_ne (pc := 117) (tgt := 121) d_Li_run_117 (by decide) (fun c17 => ?_) (fun c17 => ?_)
            · exact aw_return (pc := 120) d_Li_run_120 rfl rfl
            · refine aw_iload (pc := 121) d_Li_run_121 0 rfl ?_
              refine aw_bipush (pc := 123) (x := 21) d_Li_run_123 (by decide) ?_
              refine aw_icmp_eq (pc := 125) (tgt := 135) d_Li_run_125 (by decide) (fun c18 => ?_) (fun c18 => ?_)
              · exact aw_lv [1, 2, 3, 4, 5, 6] rfl (Li_run_J135_ok Y (Li_run_L38 Y l0 l1 l2 l4 F) l0 l1 l2 l4 l5 l6 h16 ih tl0 tl1 tl2 tl4)
              · refine aw_iload (pc := 128) d_Li_run_128 0 rfl ?_
                refine aw_bipush (pc := 130) (x := 24) d_Li_run_130 (by decide) ?_
                refine aw_icmp_ne (pc := 132) (tgt := 149) d_Li_run_132 (by decide) (fun c23 => ?_) (fun c23 => ?_)
                · exact aw_lv [1, 2, 3, 4, 5, 6] rfl (Li_run_J135_ok Y (Li_run_L38 Y l0 l1 l2 l4 F) l0 l1 l2 l4 l5 l6 h16 ih tl0 tl1 tl2 tl4)
                · refine aw_aload_n (pc := 149) d_Li_run_149 rfl 1 rfl ?_
                  refine aw_aload_n (pc := 150) d_Li_run_150 rfl 2 rfl ?_
                  refine aw_aload (pc := 151) d_Li_run_151 4 rfl ?_
                  refine aw_iload (pc := 153) d_Li_run_153 5 rfl ?_
                  refine aw_cVrI (pc := 155) (ci := 2) (T := TX2) (N := 7) (As := [.ref l1, .ref l4, .int l5]) (st := []) (ok_Li_takeStep Y l0 l1 l4 l5 h16 tl0 tl1 tl4) okV_Li_takeStep rfl (by decide) tl0 w6_173 d_Li_run_155 rfl (Nat.le_of_ble_eq_true rfl) rfl (Nat.le_of_ble_eq_true rfl) (fun q24 hq24 hTq24 => ?_)
                  refine aw_istore (pc := 158) (lv' := [(5, .int q24.1), (7, .int (hAi h (hGr h 900 l4) (Int32.toNatClampNeg l5))), (0, .ref l0), (1, .ref l1), (2, .ref l2), (4, .ref l4), (6, .int l6)]) d_Li_run_158 (by decide) rfl ?_
                  refine aw_iinc (pc := 160) (w := l6 + 1) (lv' := [(6, .int (l6 + 1)), (5, .int q24.1), (7, .int (hAi h (hGr h 900 l4) (Int32.toNatClampNeg l5))), (0, .ref l0), (1, .ref l1), (2, .ref l2), (4, .ref l4)]) d_Li_run_160 6 rfl rfl (by decide) rfl ?_
                  refine aw_goto (pc := 163) (tgt := 38) d_Li_run_163 (by decide) ?_
                  exact aw_lv [3, 4, 5, 6, 1, 0] rfl (ih q24.1 (l6 + 1) q24.2)
          · refine aw_aload_n (pc := 95) d_Li_run_95 rfl 1 rfl ?_
            refine gt_200 (pc := 96) d_Li_run_96 w2_28 tl0 (fun tt25 => ?_)
            refine aw_iconst (pc := 99) (x := 4) d_Li_run_99 (by decide) ?_
            refine aw_iconst (pc := 100) (x := 1) d_Li_run_100 (by decide) ?_
            refine aw_iastore (pc := 101) d_Li_run_101 tt25 (fun c26 => ?_)
            refine aw_letH (fun h27 => ?_)
            exact aw_return (pc := 102) d_Li_run_102 rfl rfl
      · exact aw_return (pc := 166) d_Li_run_166 rfl rfl
def Li_run (Y : Ly) (l0 : Nat) (l1 : Nat) (l2 : Nat) (l3 : Int32) (h : Hp) : Option Hp :=
  (J_fillI Y (hGr h 200 l0) 0 h).bind fun q2 =>
  (J_fillI Y (hGr q2 202 l0) (-1) q2).bind fun q4 =>
  letH (hSi q4 205 l0 0) fun h5 =>
  letH (hSi h5 206 l0 l3) fun h6 =>
  Li_run_L38 Y l0 l1 l2 (hGr h6 413 l1) FU 0 0 h6
theorem ok_Li_run (Y : Ly) (l0 : Nat) (l1 : Nat) (l2 : Nat) (l3 : Int32) (h : Hp) (t0 : isO Y 2 l0) (t1 : isO Y 4 l1) (t2 : isO Y 0 l2) : AM Y 5 K_Li_run [.ref l0, .ref l1, .ref l2, .int l3] h (Li_run Y l0 l1 l2 l3 h) rV := by
  refine AM.of rfl (Nat.le_of_ble_eq_true rfl) ?_
  show AW Y 5 K_Li_run 0 [(0, .ref l0), (1, .ref l1), (2, .ref l2), (3, .int l3)] [] h (Li_run Y l0 l1 l2 l3 h) rV
  unfold Li_run
  refine aw_aload_n (pc := 0) d_Li_run_0 rfl 0 rfl ?_
  refine gt_200 (pc := 1) d_Li_run_1 w2_28 t0 (fun tt1 => ?_)
  refine aw_iconst (pc := 4) (x := 0) d_Li_run_4 (by decide) ?_
  refine aw_cSrV (pc := 5) (As := [.ref (hGr h 200 l0), .int 0]) (st := []) (ok_J_fillI Y (hGr h 200 l0) 0 h tt1) okS_J_fillI w6_160 d_Li_run_5 rfl (Nat.le_of_ble_eq_true rfl) rfl (Nat.le_of_ble_eq_true rfl) (fun q2 hq2 hTq2 => ?_)
  refine aw_aload_n (pc := 8) d_Li_run_8 rfl 0 rfl ?_
  refine gt_202 (pc := 9) d_Li_run_9 w2_31 t0 (fun tt3 => ?_)
  refine aw_iconst (pc := 12) (x := (-1)) d_Li_run_12 (by decide) ?_
  refine aw_cSrV (pc := 13) (As := [.ref (hGr q2 202 l0), .int (-1)]) (st := []) (ok_J_fillI Y (hGr q2 202 l0) (-1) q2 tt3) okS_J_fillI w6_160 d_Li_run_13 rfl (Nat.le_of_ble_eq_true rfl) rfl (Nat.le_of_ble_eq_true rfl) (fun q4 hq4 hTq4 => ?_)
  refine aw_aload_n (pc := 16) d_Li_run_16 rfl 0 rfl ?_
  refine aw_iconst (pc := 17) (x := 0) d_Li_run_17 (by decide) ?_
  refine pt_205 (pc := 18) d_Li_run_18 w2_34 t0 ?_
  refine aw_letH (fun h5 => ?_)
  refine aw_aload_n (pc := 21) d_Li_run_21 rfl 0 rfl ?_
  refine aw_iload_n (pc := 22) d_Li_run_22 rfl 3 rfl ?_
  refine pt_206 (pc := 23) d_Li_run_23 w2_36 t0 ?_
  refine aw_letH (fun h6 => ?_)
  refine aw_aload_n (pc := 26) d_Li_run_26 rfl 1 rfl ?_
  refine gt_413 (pc := 27) d_Li_run_27 w2_155 t1 (fun tt7 => ?_)
  refine aw_astore (pc := 30) (lv' := [(4, .ref (hGr h6 413 l1)), (0, .ref l0), (1, .ref l1), (2, .ref l2), (3, .int l3)]) d_Li_run_30 (by decide) rfl ?_
  refine aw_iconst (pc := 32) (x := 0) d_Li_run_32 (by decide) ?_
  refine aw_istore (pc := 33) (lv' := [(5, .int 0), (4, .ref (hGr h6 413 l1)), (0, .ref l0), (1, .ref l1), (2, .ref l2), (3, .int l3)]) d_Li_run_33 (by decide) rfl ?_
  refine aw_iconst (pc := 35) (x := 0) d_Li_run_35 (by decide) ?_
  refine aw_istore (pc := 36) (lv' := [(6, .int 0), (5, .int 0), (4, .ref (hGr h6 413 l1)), (0, .ref l0), (1, .ref l1), (2, .ref l2), (3, .int l3)]) d_Li_run_36 (by decide) rfl ?_
  exact aw_lv [3, 4, 5, 2, 1, 0] rfl (Li_run_L38_ok Y l0 l1 l2 (hGr h6 413 l1) t0 t1 t2 tt7 FU 0 0 h6)
/-! LastPages.live(I)I -/
theorem d_LP_live_0 : decode prog_1_method_56_code 0 = .ok (.iload_n 1, 1) := by decide +kernel
theorem d_LP_live_1 : decode prog_1_method_56_code 1 = .ok (.ifCond .lt 10, 3) := by decide +kernel
theorem d_LP_live_4 : decode prog_1_method_56_code 4 = .ok (.iload_n 1, 1) := by decide +kernel
theorem d_LP_live_5 : decode prog_1_method_56_code 5 = .ok (.sipush 9999, 3) := by decide +kernel
theorem d_LP_live_8 : decode prog_1_method_56_code 8 = .ok (.if_icmp .le 9, 3) := by decide +kernel
theorem d_LP_live_11 : decode prog_1_method_56_code 11 = .ok (.aload_n 0, 1) := by decide +kernel
theorem d_LP_live_12 : decode prog_1_method_56_code 12 = .ok (.iconst 5, 1) := by decide +kernel
theorem d_LP_live_13 : decode prog_1_method_56_code 13 = .ok (.invokevirtual 133, 3) := by decide +kernel
theorem d_LP_live_16 : decode prog_1_method_56_code 16 = .ok (.ireturn, 1) := by decide +kernel
theorem d_LP_live_17 : decode prog_1_method_56_code 17 = .ok (.aload_n 0, 1) := by decide +kernel
theorem d_LP_live_18 : decode prog_1_method_56_code 18 = .ok (.getfield 68, 3) := by decide +kernel
theorem d_LP_live_21 : decode prog_1_method_56_code 21 = .ok (.getfield 187, 3) := by decide +kernel
theorem d_LP_live_24 : decode prog_1_method_56_code 24 = .ok (.getfield 415, 3) := by decide +kernel
theorem d_LP_live_27 : decode prog_1_method_56_code 27 = .ok (.ifCond .ne 10, 3) := by decide +kernel
theorem d_LP_live_30 : decode prog_1_method_56_code 30 = .ok (.aload_n 0, 1) := by decide +kernel
theorem d_LP_live_31 : decode prog_1_method_56_code 31 = .ok (.bipush 8, 2) := by decide +kernel
theorem d_LP_live_33 : decode prog_1_method_56_code 33 = .ok (.invokevirtual 133, 3) := by decide +kernel
theorem d_LP_live_36 : decode prog_1_method_56_code 36 = .ok (.ireturn, 1) := by decide +kernel
theorem d_LP_live_37 : decode prog_1_method_56_code 37 = .ok (.aload_n 0, 1) := by decide +kernel
theorem d_LP_live_38 : decode prog_1_method_56_code 38 = .ok (.getfield 59, 3) := by decide +kernel
theorem d_LP_live_41 : decode prog_1_method_56_code 41 = .ok (.aload_n 0, 1) := by decide +kernel
theorem d_LP_live_42 : decode prog_1_method_56_code 42 = .ok (.getfield 68, 3) := by decide +kernel
theorem d_LP_live_45 : decode prog_1_method_56_code 45 = .ok (.aload_n 0, 1) := by decide +kernel
theorem d_LP_live_46 : decode prog_1_method_56_code 46 = .ok (.getfield 45, 3) := by decide +kernel
theorem d_LP_live_49 : decode prog_1_method_56_code 49 = .ok (.iload_n 1, 1) := by decide +kernel
theorem d_LP_live_50 : decode prog_1_method_56_code 50 = .ok (.invokevirtual 416, 3) := by decide +kernel
theorem d_LP_live_53 : decode prog_1_method_56_code 53 = .ok (.aload_n 0, 1) := by decide +kernel
theorem d_LP_live_54 : decode prog_1_method_56_code 54 = .ok (.getfield 59, 3) := by decide +kernel
theorem d_LP_live_57 : decode prog_1_method_56_code 57 = .ok (.getfield 420, 3) := by decide +kernel
theorem d_LP_live_60 : decode prog_1_method_56_code 60 = .ok (.iconst 0, 1) := by decide +kernel
theorem d_LP_live_61 : decode prog_1_method_56_code 61 = .ok (.aload_n 0, 1) := by decide +kernel
theorem d_LP_live_62 : decode prog_1_method_56_code 62 = .ok (.getfield 63, 3) := by decide +kernel
theorem d_LP_live_65 : decode prog_1_method_56_code 65 = .ok (.iconst 0, 1) := by decide +kernel
theorem d_LP_live_66 : decode prog_1_method_56_code 66 = .ok (.iconst 5, 1) := by decide +kernel
theorem d_LP_live_67 : decode prog_1_method_56_code 67 = .ok (.invokestatic 156, 3) := by decide +kernel
theorem d_LP_live_70 : decode prog_1_method_56_code 70 = .ok (.aload_n 0, 1) := by decide +kernel
theorem d_LP_live_71 : decode prog_1_method_56_code 71 = .ok (.aload_n 0, 1) := by decide +kernel
theorem d_LP_live_72 : decode prog_1_method_56_code 72 = .ok (.getfield 59, 3) := by decide +kernel
theorem d_LP_live_75 : decode prog_1_method_56_code 75 = .ok (.getfield 423, 3) := by decide +kernel
theorem d_LP_live_78 : decode prog_1_method_56_code 78 = .ok (.invokevirtual 180, 3) := by decide +kernel
theorem d_LP_live_81 : decode prog_1_method_56_code 81 = .ok (.ireturn, 1) := by decide +kernel
def LP_live (Y : Ly) (l0 : Nat) (l1 : Int32) (h : Hp) : Option (Int32 × Hp) :=
  if l1 < 0 then
    (LP_fail Y l0 5 h).bind fun q2 =>
    some (q2.1, q2.2)
  else
    if l1 ≤ 9999 then
      if (hGz h 905 (hGr h 413 (hGr h 1109 l0))) = true then
        (Li_run Y (hGr h 1107 l0) (hGr h 1109 l0) (hGr h 1105 l0) l1 h).bind fun q10 =>
        if cpB 0 0 5 (lnY Y (hGr q10 200 (hGr q10 1107 l0))) (lnY Y (hGr q10 1108 l0)) = true then
          letH (hCi q10 (hGr q10 200 (hGr q10 1107 l0)) (Int32.toNatClampNeg 0) (hGr q10 1108 l0) (Int32.toNatClampNeg 0) (Int32.toNatClampNeg 5)) fun h14 =>
          (LP_give Y l0 (hGi h14 205 (hGr h14 1107 l0)) h14).bind fun q16 =>
          some (q16.1, q16.2)
        else none
      else
        (LP_fail Y l0 8 h).bind fun q17 =>
        some (q17.1, q17.2)
    else
      (LP_fail Y l0 5 h).bind fun q18 =>
      some (q18.1, q18.2)
theorem ok_LP_live (Y : Ly) (l0 : Nat) (l1 : Int32) (h : Hp) (t0 : isO Y 11 l0) : AM Y 6 K_LP_live [.ref l0, .int l1] h (LP_live Y l0 l1 h) rI := by
  refine AM.of rfl (Nat.le_of_ble_eq_true rfl) ?_
  show AW Y 6 K_LP_live 0 [(0, .ref l0), (1, .int l1)] [] h (LP_live Y l0 l1 h) rI
  unfold LP_live
  refine aw_iload_n (pc := 0) d_LP_live_0 rfl 1 rfl ?_
  refine aw_if_lt (pc := 1) (tgt := 11) d_LP_live_1 (by decide) (fun c1 => ?_) (fun c1 => ?_)
  · refine aw_aload_n (pc := 11) d_LP_live_11 rfl 0 rfl ?_
    refine aw_iconst (pc := 12) (x := 5) d_LP_live_12 (by decide) ?_
    refine aw_cVrI (pc := 13) (ci := 11) (T := TX11) (N := 18) (As := [.int 5]) (st := []) (ok_LP_fail Y l0 5 h t0) okV_LP_fail rfl (by decide) t0 w3_114 d_LP_live_13 rfl (Nat.le_of_ble_eq_true rfl) rfl (Nat.le_of_ble_eq_true rfl) (fun q2 hq2 hTq2 => ?_)
    exact aw_ireturn (pc := 16) d_LP_live_16 rfl rfl
  · refine aw_iload_n (pc := 4) d_LP_live_4 rfl 1 rfl ?_
    refine aw_sipush (pc := 5) (x := 9999) d_LP_live_5 (by decide) ?_
    refine aw_icmp_le (pc := 8) (tgt := 17) d_LP_live_8 (by decide) (fun c3 => ?_) (fun c3 => ?_)
    · refine aw_aload_n (pc := 17) d_LP_live_17 rfl 0 rfl ?_
      refine gt_1109 (pc := 18) d_LP_live_18 w3_9 t0 (fun tt4 => ?_)
      refine gt_413 (pc := 21) d_LP_live_21 w2_156 tt4 (fun tt5 => ?_)
      refine gt_905 (pc := 24) d_LP_live_24 w2_101 tt5 ?_
      refine aw_bne (pc := 27) (tgt := 37) d_LP_live_27 (by decide) (fun c6 => ?_) (fun c6 => ?_)
      · refine aw_aload_n (pc := 37) d_LP_live_37 rfl 0 rfl ?_
        refine gt_1107 (pc := 38) d_LP_live_38 w3_7 t0 (fun tt7 => ?_)
        refine aw_aload_n (pc := 41) d_LP_live_41 rfl 0 rfl ?_
        refine gt_1109 (pc := 42) d_LP_live_42 w3_9 t0 (fun tt8 => ?_)
        refine aw_aload_n (pc := 45) d_LP_live_45 rfl 0 rfl ?_
        refine gt_1105 (pc := 46) d_LP_live_46 w3_5 t0 (fun tt9 => ?_)
        refine aw_iload_n (pc := 49) d_LP_live_49 rfl 1 rfl ?_
        refine aw_cVrV (pc := 50) (ci := 2) (T := TX2) (N := 7) (As := [.ref (hGr h 1109 l0), .ref (hGr h 1105 l0), .int l1]) (st := []) (ok_Li_run Y (hGr h 1107 l0) (hGr h 1109 l0) (hGr h 1105 l0) l1 h tt7 tt8 tt9) okV_Li_run rfl (by decide) tt7 w6_156 d_LP_live_50 rfl (Nat.le_of_ble_eq_true rfl) rfl (Nat.le_of_ble_eq_true rfl) (fun q10 hq10 hTq10 => ?_)
        refine aw_aload_n (pc := 53) d_LP_live_53 rfl 0 rfl ?_
        refine gt_1107 (pc := 54) d_LP_live_54 w3_7 t0 (fun tt11 => ?_)
        refine gt_200 (pc := 57) d_LP_live_57 w2_29 tt11 (fun tt12 => ?_)
        refine aw_iconst (pc := 60) (x := 0) d_LP_live_60 (by decide) ?_
        refine aw_aload_n (pc := 61) d_LP_live_61 rfl 0 rfl ?_
        refine gt_1108 (pc := 62) d_LP_live_62 w3_8 t0 (fun tt13 => ?_)
        refine aw_iconst (pc := 65) (x := 0) d_LP_live_65 (by decide) ?_
        refine aw_iconst (pc := 66) (x := 5) d_LP_live_66 (by decide) ?_
        refine aw_copyi (pc := 67) d_LP_live_67 w3_127 w3_129 w3_128 w1_20 tt12 tt13 (Nat.le_of_ble_eq_true rfl) (Nat.le_of_ble_eq_true rfl) ?_
        refine aw_letH (fun h14 => ?_)
        refine aw_aload_n (pc := 70) d_LP_live_70 rfl 0 rfl ?_
        refine aw_aload_n (pc := 71) d_LP_live_71 rfl 0 rfl ?_
        refine gt_1107 (pc := 72) d_LP_live_72 w3_7 t0 (fun tt15 => ?_)
        refine gt_205 (pc := 75) d_LP_live_75 w2_35 tt15 ?_
        refine aw_cVrI (pc := 78) (ci := 11) (T := TX11) (N := 18) (As := [.int (hGi h14 205 (hGr h14 1107 l0))]) (st := []) (ok_LP_give Y l0 (hGi h14 205 (hGr h14 1107 l0)) h14 t0) okV_LP_give rfl (by decide) t0 w4_88 d_LP_live_78 rfl (Nat.le_of_ble_eq_true rfl) rfl (Nat.le_of_ble_eq_true rfl) (fun q16 hq16 hTq16 => ?_)
        exact aw_ireturn (pc := 81) d_LP_live_81 rfl rfl
      · refine aw_aload_n (pc := 30) d_LP_live_30 rfl 0 rfl ?_
        refine aw_bipush (pc := 31) (x := 8) d_LP_live_31 (by decide) ?_
        refine aw_cVrI (pc := 33) (ci := 11) (T := TX11) (N := 18) (As := [.int 8]) (st := []) (ok_LP_fail Y l0 8 h t0) okV_LP_fail rfl (by decide) t0 w3_114 d_LP_live_33 rfl (Nat.le_of_ble_eq_true rfl) rfl (Nat.le_of_ble_eq_true rfl) (fun q17 hq17 hTq17 => ?_)
        exact aw_ireturn (pc := 36) d_LP_live_36 rfl rfl
    · refine aw_aload_n (pc := 11) d_LP_live_11 rfl 0 rfl ?_
      refine aw_iconst (pc := 12) (x := 5) d_LP_live_12 (by decide) ?_
      refine aw_cVrI (pc := 13) (ci := 11) (T := TX11) (N := 18) (As := [.int 5]) (st := []) (ok_LP_fail Y l0 5 h t0) okV_LP_fail rfl (by decide) t0 w3_114 d_LP_live_13 rfl (Nat.le_of_ble_eq_true rfl) rfl (Nat.le_of_ble_eq_true rfl) (fun q18 hq18 hTq18 => ?_)
      exact aw_ireturn (pc := 16) d_LP_live_16 rfl rfl
/-! LastPages.lived(I)I -/
theorem d_LP_lived_0 : decode prog_1_method_57_code 0 = .ok (.iload_n 1, 1) := by decide +kernel
theorem d_LP_lived_1 : decode prog_1_method_57_code 1 = .ok (.ifCond .lt 8, 3) := by decide +kernel
theorem d_LP_lived_4 : decode prog_1_method_57_code 4 = .ok (.iload_n 1, 1) := by decide +kernel
theorem d_LP_lived_5 : decode prog_1_method_57_code 5 = .ok (.iconst 5, 1) := by decide +kernel
theorem d_LP_lived_6 : decode prog_1_method_57_code 6 = .ok (.if_icmp .lt 9, 3) := by decide +kernel
theorem d_LP_lived_9 : decode prog_1_method_57_code 9 = .ok (.aload_n 0, 1) := by decide +kernel
theorem d_LP_lived_10 : decode prog_1_method_57_code 10 = .ok (.iconst 5, 1) := by decide +kernel
theorem d_LP_lived_11 : decode prog_1_method_57_code 11 = .ok (.invokevirtual 133, 3) := by decide +kernel
theorem d_LP_lived_14 : decode prog_1_method_57_code 14 = .ok (.ireturn, 1) := by decide +kernel
theorem d_LP_lived_15 : decode prog_1_method_57_code 15 = .ok (.aload_n 0, 1) := by decide +kernel
theorem d_LP_lived_16 : decode prog_1_method_57_code 16 = .ok (.aload_n 0, 1) := by decide +kernel
theorem d_LP_lived_17 : decode prog_1_method_57_code 17 = .ok (.getfield 63, 3) := by decide +kernel
theorem d_LP_lived_20 : decode prog_1_method_57_code 20 = .ok (.iload_n 1, 1) := by decide +kernel
theorem d_LP_lived_21 : decode prog_1_method_57_code 21 = .ok (.iaload, 1) := by decide +kernel
theorem d_LP_lived_22 : decode prog_1_method_57_code 22 = .ok (.invokevirtual 249, 3) := by decide +kernel
theorem d_LP_lived_25 : decode prog_1_method_57_code 25 = .ok (.ireturn, 1) := by decide +kernel
def LP_lived (Y : Ly) (l0 : Nat) (l1 : Int32) (h : Hp) : Option (Int32 × Hp) :=
  if l1 < 0 then
    (LP_fail Y l0 5 h).bind fun q2 =>
    some (q2.1, q2.2)
  else
    if l1 < 5 then
      if inB l1 (lnY Y (hGr h 1108 l0)) = true then
        (LP_giveIfAny Y l0 (hAi h (hGr h 1108 l0) (Int32.toNatClampNeg l1)) h).bind fun q6 =>
        some (q6.1, q6.2)
      else none
    else
      (LP_fail Y l0 5 h).bind fun q7 =>
      some (q7.1, q7.2)
theorem ok_LP_lived (Y : Ly) (l0 : Nat) (l1 : Int32) (h : Hp) (t0 : isO Y 11 l0) : AM Y 2 K_LP_lived [.ref l0, .int l1] h (LP_lived Y l0 l1 h) rI := by
  refine AM.of rfl (Nat.le_of_ble_eq_true rfl) ?_
  show AW Y 2 K_LP_lived 0 [(0, .ref l0), (1, .int l1)] [] h (LP_lived Y l0 l1 h) rI
  unfold LP_lived
  refine aw_iload_n (pc := 0) d_LP_lived_0 rfl 1 rfl ?_
  refine aw_if_lt (pc := 1) (tgt := 9) d_LP_lived_1 (by decide) (fun c1 => ?_) (fun c1 => ?_)
  · refine aw_aload_n (pc := 9) d_LP_lived_9 rfl 0 rfl ?_
    refine aw_iconst (pc := 10) (x := 5) d_LP_lived_10 (by decide) ?_
    refine aw_cVrI (pc := 11) (ci := 11) (T := TX11) (N := 18) (As := [.int 5]) (st := []) (ok_LP_fail Y l0 5 h t0) okV_LP_fail rfl (by decide) t0 w3_114 d_LP_lived_11 rfl (Nat.le_of_ble_eq_true rfl) rfl (Nat.le_of_ble_eq_true rfl) (fun q2 hq2 hTq2 => ?_)
    exact aw_ireturn (pc := 14) d_LP_lived_14 rfl rfl
  · refine aw_iload_n (pc := 4) d_LP_lived_4 rfl 1 rfl ?_
    refine aw_iconst (pc := 5) (x := 5) d_LP_lived_5 (by decide) ?_
    refine aw_icmp_lt (pc := 6) (tgt := 15) d_LP_lived_6 (by decide) (fun c3 => ?_) (fun c3 => ?_)
    · refine aw_aload_n (pc := 15) d_LP_lived_15 rfl 0 rfl ?_
      refine aw_aload_n (pc := 16) d_LP_lived_16 rfl 0 rfl ?_
      refine gt_1108 (pc := 17) d_LP_lived_17 w3_8 t0 (fun tt4 => ?_)
      refine aw_iload_n (pc := 20) d_LP_lived_20 rfl 1 rfl ?_
      refine aw_iaload (pc := 21) d_LP_lived_21 tt4 (fun c5 => ?_)
      refine aw_cVrI (pc := 22) (ci := 11) (T := TX11) (N := 18) (As := [.int (hAi h (hGr h 1108 l0) (Int32.toNatClampNeg l1))]) (st := []) (ok_LP_giveIfAny Y l0 (hAi h (hGr h 1108 l0) (Int32.toNatClampNeg l1)) h t0) okV_LP_giveIfAny rfl (by decide) t0 w4_183 d_LP_lived_22 rfl (Nat.le_of_ble_eq_true rfl) rfl (Nat.le_of_ble_eq_true rfl) (fun q6 hq6 hTq6 => ?_)
      exact aw_ireturn (pc := 25) d_LP_lived_25 rfl rfl
    · refine aw_aload_n (pc := 9) d_LP_lived_9 rfl 0 rfl ?_
      refine aw_iconst (pc := 10) (x := 5) d_LP_lived_10 (by decide) ?_
      refine aw_cVrI (pc := 11) (ci := 11) (T := TX11) (N := 18) (As := [.int 5]) (st := []) (ok_LP_fail Y l0 5 h t0) okV_LP_fail rfl (by decide) t0 w3_114 d_LP_lived_11 rfl (Nat.le_of_ble_eq_true rfl) rfl (Nat.le_of_ble_eq_true rfl) (fun q7 hq7 hTq7 => ?_)
      exact aw_ireturn (pc := 14) d_LP_lived_14 rfl rfl
/-! LastPages.loose(I)I -/
theorem d_LP_loose_0 : decode prog_1_method_24_code 0 = .ok (.aload_n 0, 1) := by decide +kernel
theorem d_LP_loose_1 : decode prog_1_method_24_code 1 = .ok (.getfield 68, 3) := by decide +kernel
theorem d_LP_loose_4 : decode prog_1_method_24_code 4 = .ok (.iload_n 1, 1) := by decide +kernel
theorem d_LP_loose_5 : decode prog_1_method_24_code 5 = .ok (.invokevirtual 255, 3) := by decide +kernel
theorem d_LP_loose_8 : decode prog_1_method_24_code 8 = .ok (.ifCond .ne 9, 3) := by decide +kernel
theorem d_LP_loose_11 : decode prog_1_method_24_code 11 = .ok (.aload_n 0, 1) := by decide +kernel
theorem d_LP_loose_12 : decode prog_1_method_24_code 12 = .ok (.iconst 2, 1) := by decide +kernel
theorem d_LP_loose_13 : decode prog_1_method_24_code 13 = .ok (.invokevirtual 133, 3) := by decide +kernel
theorem d_LP_loose_16 : decode prog_1_method_24_code 16 = .ok (.ireturn, 1) := by decide +kernel
theorem d_LP_loose_17 : decode prog_1_method_24_code 17 = .ok (.aload_n 0, 1) := by decide +kernel
theorem d_LP_loose_18 : decode prog_1_method_24_code 18 = .ok (.getfield 68, 3) := by decide +kernel
theorem d_LP_loose_21 : decode prog_1_method_24_code 21 = .ok (.getfield 273, 3) := by decide +kernel
theorem d_LP_loose_24 : decode prog_1_method_24_code 24 = .ok (.iload_n 1, 1) := by decide +kernel
theorem d_LP_loose_25 : decode prog_1_method_24_code 25 = .ok (.iaload, 1) := by decide +kernel
theorem d_LP_loose_26 : decode prog_1_method_24_code 26 = .ok (.istore_n 2, 1) := by decide +kernel
theorem d_LP_loose_27 : decode prog_1_method_24_code 27 = .ok (.aload_n 0, 1) := by decide +kernel
theorem d_LP_loose_28 : decode prog_1_method_24_code 28 = .ok (.getfield 68, 3) := by decide +kernel
theorem d_LP_loose_31 : decode prog_1_method_24_code 31 = .ok (.getfield 273, 3) := by decide +kernel
theorem d_LP_loose_34 : decode prog_1_method_24_code 34 = .ok (.iload_n 1, 1) := by decide +kernel
theorem d_LP_loose_35 : decode prog_1_method_24_code 35 = .ok (.iconst (-1), 1) := by decide +kernel
theorem d_LP_loose_36 : decode prog_1_method_24_code 36 = .ok (.iastore, 1) := by decide +kernel
theorem d_LP_loose_37 : decode prog_1_method_24_code 37 = .ok (.aload_n 0, 1) := by decide +kernel
theorem d_LP_loose_38 : decode prog_1_method_24_code 38 = .ok (.iload_n 2, 1) := by decide +kernel
theorem d_LP_loose_39 : decode prog_1_method_24_code 39 = .ok (.invokevirtual 249, 3) := by decide +kernel
theorem d_LP_loose_42 : decode prog_1_method_24_code 42 = .ok (.ireturn, 1) := by decide +kernel
def LP_loose (Y : Ly) (l0 : Nat) (l1 : Int32) (h : Hp) : Option (Int32 × Hp) :=
  (Sh_hasBook Y (hGr h 1109 l0) l1 h).bind fun q2 =>
  if q2 = true then
    if inB l1 (lnY Y (hGr h 410 (hGr h 1109 l0))) = true then
      if inB l1 (lnY Y (hGr h 410 (hGr h 1109 l0))) = true then
        letH (hTi h (hGr h 410 (hGr h 1109 l0)) (Int32.toNatClampNeg l1) (-1)) fun h10 =>
        (LP_giveIfAny Y l0 (hAi h (hGr h 410 (hGr h 1109 l0)) (Int32.toNatClampNeg l1)) h10).bind fun q11 =>
        some (q11.1, q11.2)
      else none
    else none
  else
    (LP_fail Y l0 2 h).bind fun q12 =>
    some (q12.1, q12.2)
theorem ok_LP_loose (Y : Ly) (l0 : Nat) (l1 : Int32) (h : Hp) (t0 : isO Y 11 l0) : AM Y 2 K_LP_loose [.ref l0, .int l1] h (LP_loose Y l0 l1 h) rI := by
  refine AM.of rfl (Nat.le_of_ble_eq_true rfl) ?_
  show AW Y 2 K_LP_loose 0 [(0, .ref l0), (1, .int l1)] [] h (LP_loose Y l0 l1 h) rI
  unfold LP_loose
  refine aw_aload_n (pc := 0) d_LP_loose_0 rfl 0 rfl ?_
  refine gt_1109 (pc := 1) d_LP_loose_1 w3_9 t0 (fun tt1 => ?_)
  refine aw_iload_n (pc := 4) d_LP_loose_4 rfl 1 rfl ?_
  refine aw_cVpZ (pc := 5) (ci := 4) (T := TX4) (N := 19) (As := [.int l1]) (st := []) (ok_Sh_hasBook Y (hGr h 1109 l0) l1 h tt1) okV_Sh_hasBook rfl (by decide) tt1 w4_199 d_LP_loose_5 rfl (Nat.le_of_ble_eq_true rfl) rfl (Nat.le_of_ble_eq_true rfl) (fun q2 hq2 hTq2 => ?_)
  refine aw_bne (pc := 8) (tgt := 17) d_LP_loose_8 (by decide) (fun c3 => ?_) (fun c3 => ?_)
  · refine aw_aload_n (pc := 17) d_LP_loose_17 rfl 0 rfl ?_
    refine gt_1109 (pc := 18) d_LP_loose_18 w3_9 t0 (fun tt4 => ?_)
    refine gt_410 (pc := 21) d_LP_loose_21 w2_150 tt4 (fun tt5 => ?_)
    refine aw_iload_n (pc := 24) d_LP_loose_24 rfl 1 rfl ?_
    refine aw_iaload (pc := 25) d_LP_loose_25 tt5 (fun c6 => ?_)
    refine aw_istore_n (pc := 26) (lv' := [(2, .int (hAi h (hGr h 410 (hGr h 1109 l0)) (Int32.toNatClampNeg l1))), (0, .ref l0), (1, .int l1)]) d_LP_loose_26 rfl (by decide) rfl ?_
    refine aw_aload_n (pc := 27) d_LP_loose_27 rfl 1 rfl ?_
    refine gt_1109 (pc := 28) d_LP_loose_28 w3_9 t0 (fun tt7 => ?_)
    refine gt_410 (pc := 31) d_LP_loose_31 w2_150 tt7 (fun tt8 => ?_)
    refine aw_iload_n (pc := 34) d_LP_loose_34 rfl 2 rfl ?_
    refine aw_iconst (pc := 35) (x := (-1)) d_LP_loose_35 (by decide) ?_
    refine aw_iastore (pc := 36) d_LP_loose_36 tt8 (fun c9 => ?_)
    refine aw_letH (fun h10 => ?_)
    refine aw_aload_n (pc := 37) d_LP_loose_37 rfl 1 rfl ?_
    refine aw_iload_n (pc := 38) d_LP_loose_38 rfl 0 rfl ?_
    refine aw_cVrI (pc := 39) (ci := 11) (T := TX11) (N := 18) (As := [.int (hAi h (hGr h 410 (hGr h 1109 l0)) (Int32.toNatClampNeg l1))]) (st := []) (ok_LP_giveIfAny Y l0 (hAi h (hGr h 410 (hGr h 1109 l0)) (Int32.toNatClampNeg l1)) h10 t0) okV_LP_giveIfAny rfl (by decide) t0 w4_183 d_LP_loose_39 rfl (Nat.le_of_ble_eq_true rfl) rfl (Nat.le_of_ble_eq_true rfl) (fun q11 hq11 hTq11 => ?_)
    exact aw_ireturn (pc := 42) d_LP_loose_42 rfl rfl
  · refine aw_aload_n (pc := 11) d_LP_loose_11 rfl 0 rfl ?_
    refine aw_iconst (pc := 12) (x := 2) d_LP_loose_12 (by decide) ?_
    refine aw_cVrI (pc := 13) (ci := 11) (T := TX11) (N := 18) (As := [.int 2]) (st := []) (ok_LP_fail Y l0 2 h t0) okV_LP_fail rfl (by decide) t0 w3_114 d_LP_loose_13 rfl (Nat.le_of_ble_eq_true rfl) rfl (Nat.le_of_ble_eq_true rfl) (fun q12 hq12 hTq12 => ?_)
    exact aw_ireturn (pc := 16) d_LP_loose_16 rfl rfl
