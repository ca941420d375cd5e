/-! LastPagesModel.rule(II)I -/
theorem d_M_rule_0 : decode prog_14_method_97_code 0 = .ok (.aload_n 0, 1) := by decide +kernel
theorem d_M_rule_1 : decode prog_14_method_97_code 1 = .ok (.iconst 0, 1) := by decide +kernel
theorem d_M_rule_2 : decode prog_14_method_97_code 2 = .ok (.putfield 78, 3) := by decide +kernel
theorem d_M_rule_5 : decode prog_14_method_97_code 5 = .ok (.aload_n 0, 1) := by decide +kernel
theorem d_M_rule_6 : decode prog_14_method_97_code 6 = .ok (.iconst 0, 1) := by decide +kernel
theorem d_M_rule_7 : decode prog_14_method_97_code 7 = .ok (.putfield 81, 3) := by decide +kernel
theorem d_M_rule_10 : decode prog_14_method_97_code 10 = .ok (.aload_n 0, 1) := by decide +kernel
theorem d_M_rule_11 : decode prog_14_method_97_code 11 = .ok (.iload_n 1, 1) := by decide +kernel
theorem d_M_rule_12 : decode prog_14_method_97_code 12 = .ok (.invokevirtual 376, 3) := by decide +kernel
theorem d_M_rule_15 : decode prog_14_method_97_code 15 = .ok (.ifCond .eq 11, 3) := by decide +kernel
theorem d_M_rule_18 : decode prog_14_method_97_code 18 = .ok (.aload_n 0, 1) := by decide +kernel
theorem d_M_rule_19 : decode prog_14_method_97_code 19 = .ok (.iload_n 2, 1) := by decide +kernel
theorem d_M_rule_20 : decode prog_14_method_97_code 20 = .ok (.invokevirtual 379, 3) := by decide +kernel
theorem d_M_rule_23 : decode prog_14_method_97_code 23 = .ok (.ifCond .ne 9, 3) := by decide +kernel
theorem d_M_rule_26 : decode prog_14_method_97_code 26 = .ok (.aload_n 0, 1) := by decide +kernel
theorem d_M_rule_27 : decode prog_14_method_97_code 27 = .ok (.iconst 2, 1) := by decide +kernel
theorem d_M_rule_28 : decode prog_14_method_97_code 28 = .ok (.invokevirtual 367, 3) := by decide +kernel
theorem d_M_rule_31 : decode prog_14_method_97_code 31 = .ok (.ireturn, 1) := by decide +kernel
theorem d_M_rule_32 : decode prog_14_method_97_code 32 = .ok (.aload_n 0, 1) := by decide +kernel
theorem d_M_rule_33 : decode prog_14_method_97_code 33 = .ok (.getfield 35, 3) := by decide +kernel
theorem d_M_rule_36 : decode prog_14_method_97_code 36 = .ok (.bipush 18, 2) := by decide +kernel
theorem d_M_rule_38 : decode prog_14_method_97_code 38 = .ok (.bipush 8, 2) := by decide +kernel
theorem d_M_rule_40 : decode prog_14_method_97_code 40 = .ok (.iload_n 1, 1) := by decide +kernel
theorem d_M_rule_41 : decode prog_14_method_97_code 41 = .ok (.imul, 1) := by decide +kernel
theorem d_M_rule_42 : decode prog_14_method_97_code 42 = .ok (.iadd, 1) := by decide +kernel
theorem d_M_rule_43 : decode prog_14_method_97_code 43 = .ok (.iload_n 2, 1) := by decide +kernel
theorem d_M_rule_44 : decode prog_14_method_97_code 44 = .ok (.iadd, 1) := by decide +kernel
theorem d_M_rule_45 : decode prog_14_method_97_code 45 = .ok (.iaload, 1) := by decide +kernel
theorem d_M_rule_46 : decode prog_14_method_97_code 46 = .ok (.istore_n 3, 1) := by decide +kernel
theorem d_M_rule_47 : decode prog_14_method_97_code 47 = .ok (.iload_n 3, 1) := by decide +kernel
theorem d_M_rule_48 : decode prog_14_method_97_code 48 = .ok (.ifCond .ge 12, 3) := by decide +kernel
theorem d_M_rule_51 : decode prog_14_method_97_code 51 = .ok (.aload_n 0, 1) := by decide +kernel
theorem d_M_rule_52 : decode prog_14_method_97_code 52 = .ok (.bipush 8, 2) := by decide +kernel
theorem d_M_rule_54 : decode prog_14_method_97_code 54 = .ok (.invokevirtual 367, 3) := by decide +kernel
theorem d_M_rule_57 : decode prog_14_method_97_code 57 = .ok (.goto 4, 3) := by decide +kernel
theorem d_M_rule_60 : decode prog_14_method_97_code 60 = .ok (.iload_n 3, 1) := by decide +kernel
theorem d_M_rule_61 : decode prog_14_method_97_code 61 = .ok (.ireturn, 1) := by decide +kernel
def M_rule (Y : Ly) (l0 : Nat) (l1 : Int32) (l2 : Int32) (h : Hp) : Option (Int32 × Hp) :=
  letH (hSi h 1201 l0 0) fun h1 =>
  letH (hSi h1 1200 l0 0) fun h2 =>
  (M_isStateAt Y l0 l1 h2).bind fun q3 =>
  if q3 = true then
    (M_isTurnAt Y l0 l2 h2).bind fun q5 =>
    if q5 = true then
      if inB ((18 + (8 * l1)) + l2) (lnY Y (hGr h2 1220 l0)) = true then
        if 0 ≤ (hAi h2 (hGr h2 1220 l0) (Int32.toNatClampNeg ((18 + (8 * l1)) + l2))) then
          some (hAi h2 (hGr h2 1220 l0) (Int32.toNatClampNeg ((18 + (8 * l1)) + l2)), h2)
        else
          (M_refuse Y l0 8 h2).bind fun q10 =>
          some (q10.1, q10.2)
      else none
    else
      (M_refuse Y l0 2 h2).bind fun q11 =>
      some (q11.1, q11.2)
  else
    (M_refuse Y l0 2 h2).bind fun q12 =>
    some (q12.1, q12.2)
theorem ok_M_rule (Y : Ly) (l0 : Nat) (l1 : Int32) (l2 : Int32) (h : Hp) (t0 : isO Y 12 l0) : AM Y 2 K_M_rule [.ref l0, .int l1, .int l2] h (M_rule Y l0 l1 l2 h) rI := by
  refine AM.of rfl (Nat.le_of_ble_eq_true rfl) ?_
  show AW Y 2 K_M_rule 0 [(0, .ref l0), (1, .int l1), (2, .int l2)] [] h (M_rule Y l0 l1 l2 h) rI
  unfold M_rule
  refine aw_aload_n (pc := 0) d_M_rule_0 rfl 0 rfl ?_
  refine aw_iconst (pc := 1) (x := 0) d_M_rule_1 (by decide) ?_
  refine pt_1201 (pc := 2) d_M_rule_2 w7_28 t0 ?_
  refine aw_letH (fun h1 => ?_)
  refine aw_aload_n (pc := 5) d_M_rule_5 rfl 0 rfl ?_
  refine aw_iconst (pc := 6) (x := 0) d_M_rule_6 (by decide) ?_
  refine pt_1200 (pc := 7) d_M_rule_7 w7_27 t0 ?_
  refine aw_letH (fun h2 => ?_)
  refine aw_aload_n (pc := 10) d_M_rule_10 rfl 0 rfl ?_
  refine aw_iload_n (pc := 11) d_M_rule_11 rfl 1 rfl ?_
  refine aw_cVpZ (pc := 12) (ci := 12) (T := TX12) (N := 44) (As := [.int l1]) (st := []) (ok_M_isStateAt Y l0 l1 h2 t0) okV_M_isStateAt rfl (by decide) t0 w9_24 d_M_rule_12 rfl (Nat.le_of_ble_eq_true rfl) rfl (Nat.le_of_ble_eq_true rfl) (fun q3 hq3 hTq3 => ?_)
  refine aw_beq (pc := 15) (tgt := 26) d_M_rule_15 (by decide) (fun c4 => ?_) (fun c4 => ?_)
  · refine aw_aload_n (pc := 18) d_M_rule_18 rfl 0 rfl ?_
    refine aw_iload_n (pc := 19) d_M_rule_19 rfl 2 rfl ?_
    refine aw_cVpZ (pc := 20) (ci := 12) (T := TX12) (N := 44) (As := [.int l2]) (st := []) (ok_M_isTurnAt Y l0 l2 h2 t0) okV_M_isTurnAt rfl (by decide) t0 w9_28 d_M_rule_20 rfl (Nat.le_of_ble_eq_true rfl) rfl (Nat.le_of_ble_eq_true rfl) (fun q5 hq5 hTq5 => ?_)
    refine aw_bne (pc := 23) (tgt := 32) d_M_rule_23 (by decide) (fun c6 => ?_) (fun c6 => ?_)
    · refine aw_aload_n (pc := 32) d_M_rule_32 rfl 0 rfl ?_
      refine gt_1220 (pc := 33) d_M_rule_33 w7_47 t0 (fun tt7 => ?_)
      refine aw_bipush (pc := 36) (x := 18) d_M_rule_36 (by decide) ?_
      refine aw_bipush (pc := 38) (x := 8) d_M_rule_38 (by decide) ?_
      refine aw_iload_n (pc := 40) d_M_rule_40 rfl 1 rfl ?_
      refine aw_imul (pc := 41) d_M_rule_41 ?_
      refine aw_iadd (pc := 42) d_M_rule_42 ?_
      refine aw_iload_n (pc := 43) d_M_rule_43 rfl 2 rfl ?_
      refine aw_iadd (pc := 44) d_M_rule_44 ?_
      refine aw_iaload (pc := 45) d_M_rule_45 tt7 (fun c8 => ?_)
      refine aw_istore_n (pc := 46) (lv' := [(3, .int (hAi h2 (hGr h2 1220 l0) (Int32.toNatClampNeg ((18 + (8 * l1)) + l2)))), (0, .ref l0), (1, .int l1), (2, .int l2)]) d_M_rule_46 rfl (by decide) rfl ?_
      refine aw_iload_n (pc := 47) d_M_rule_47 rfl 0 rfl ?_
      refine aw_if_ge (pc := 48) (tgt := 60) d_M_rule_48 (by decide) (fun c9 => ?_) (fun c9 => ?_)
      · refine aw_iload_n (pc := 60) d_M_rule_60 rfl 0 rfl ?_
        exact aw_ireturn (pc := 61) d_M_rule_61 rfl rfl
      · refine aw_aload_n (pc := 51) d_M_rule_51 rfl 1 rfl ?_
        refine aw_bipush (pc := 52) (x := 8) d_M_rule_52 (by decide) ?_
        refine aw_cVrI (pc := 54) (ci := 12) (T := TX12) (N := 44) (As := [.int 8]) (st := []) (ok_M_refuse Y l0 8 h2 t0) okV_M_refuse rfl (by decide) t0 w9_8 d_M_rule_54 rfl (Nat.le_of_ble_eq_true rfl) rfl (Nat.le_of_ble_eq_true rfl) (fun q10 hq10 hTq10 => ?_)
        refine aw_goto (pc := 57) (tgt := 61) d_M_rule_57 (by decide) ?_
        exact aw_ireturn (pc := 61) d_M_rule_61 rfl rfl
    · refine aw_aload_n (pc := 26) d_M_rule_26 rfl 0 rfl ?_
      refine aw_iconst (pc := 27) (x := 2) d_M_rule_27 (by decide) ?_
      refine aw_cVrI (pc := 28) (ci := 12) (T := TX12) (N := 44) (As := [.int 2]) (st := []) (ok_M_refuse Y l0 2 h2 t0) okV_M_refuse rfl (by decide) t0 w9_8 d_M_rule_28 rfl (Nat.le_of_ble_eq_true rfl) rfl (Nat.le_of_ble_eq_true rfl) (fun q11 hq11 hTq11 => ?_)
      exact aw_ireturn (pc := 31) d_M_rule_31 rfl rfl
  · refine aw_aload_n (pc := 26) d_M_rule_26 rfl 0 rfl ?_
    refine aw_iconst (pc := 27) (x := 2) d_M_rule_27 (by decide) ?_
    refine aw_cVrI (pc := 28) (ci := 12) (T := TX12) (N := 44) (As := [.int 2]) (st := []) (ok_M_refuse Y l0 2 h2 t0) okV_M_refuse rfl (by decide) t0 w9_8 d_M_rule_28 rfl (Nat.le_of_ble_eq_true rfl) rfl (Nat.le_of_ble_eq_true rfl) (fun q12 hq12 hTq12 => ?_)
    exact aw_ireturn (pc := 31) d_M_rule_31 rfl rfl
/-! LastPagesModel.starts(II)Z -/
theorem d_M_starts_0 : decode prog_14_method_62_code 0 = .ok (.iload_n 1, 1) := by decide +kernel
theorem d_M_starts_1 : decode prog_14_method_62_code 1 = .ok (.ifCond .lt 16, 3) := by decide +kernel
theorem d_M_starts_4 : decode prog_14_method_62_code 4 = .ok (.iload_n 1, 1) := by decide +kernel
theorem d_M_starts_5 : decode prog_14_method_62_code 5 = .ok (.aload_n 0, 1) := by decide +kernel
theorem d_M_starts_6 : decode prog_14_method_62_code 6 = .ok (.getfield 268, 3) := by decide +kernel
theorem d_M_starts_9 : decode prog_14_method_62_code 9 = .ok (.if_icmp .gt 8, 3) := by decide +kernel
theorem d_M_starts_12 : decode prog_14_method_62_code 12 = .ok (.iload_n 1, 1) := by decide +kernel
theorem d_M_starts_13 : decode prog_14_method_62_code 13 = .ok (.iload_n 2, 1) := by decide +kernel
theorem d_M_starts_14 : decode prog_14_method_62_code 14 = .ok (.if_icmp .le 9, 3) := by decide +kernel
theorem d_M_starts_17 : decode prog_14_method_62_code 17 = .ok (.aload_n 0, 1) := by decide +kernel
theorem d_M_starts_18 : decode prog_14_method_62_code 18 = .ok (.iconst 5, 1) := by decide +kernel
theorem d_M_starts_19 : decode prog_14_method_62_code 19 = .ok (.invokevirtual 93, 3) := by decide +kernel
theorem d_M_starts_22 : decode prog_14_method_62_code 22 = .ok (.ireturn, 1) := by decide +kernel
theorem d_M_starts_23 : decode prog_14_method_62_code 23 = .ok (.aload_n 0, 1) := by decide +kernel
theorem d_M_starts_24 : decode prog_14_method_62_code 24 = .ok (.iload_n 1, 1) := by decide +kernel
theorem d_M_starts_25 : decode prog_14_method_62_code 25 = .ok (.putfield 121, 3) := by decide +kernel
theorem d_M_starts_28 : decode prog_14_method_62_code 28 = .ok (.aload_n 0, 1) := by decide +kernel
theorem d_M_starts_29 : decode prog_14_method_62_code 29 = .ok (.iconst 0, 1) := by decide +kernel
theorem d_M_starts_30 : decode prog_14_method_62_code 30 = .ok (.putfield 268, 3) := by decide +kernel
theorem d_M_starts_33 : decode prog_14_method_62_code 33 = .ok (.aload_n 0, 1) := by decide +kernel
theorem d_M_starts_34 : decode prog_14_method_62_code 34 = .ok (.iconst 0, 1) := by decide +kernel
theorem d_M_starts_35 : decode prog_14_method_62_code 35 = .ok (.putfield 124, 3) := by decide +kernel
theorem d_M_starts_38 : decode prog_14_method_62_code 38 = .ok (.aload_n 0, 1) := by decide +kernel
theorem d_M_starts_39 : decode prog_14_method_62_code 39 = .ok (.iconst 0, 1) := by decide +kernel
theorem d_M_starts_40 : decode prog_14_method_62_code 40 = .ok (.putfield 245, 3) := by decide +kernel
theorem d_M_starts_43 : decode prog_14_method_62_code 43 = .ok (.aload_n 0, 1) := by decide +kernel
theorem d_M_starts_44 : decode prog_14_method_62_code 44 = .ok (.invokevirtual 255, 3) := by decide +kernel
theorem d_M_starts_47 : decode prog_14_method_62_code 47 = .ok (.iconst 1, 1) := by decide +kernel
theorem d_M_starts_48 : decode prog_14_method_62_code 48 = .ok (.ireturn, 1) := by decide +kernel
def M_starts (Y : Ly) (l0 : Nat) (l1 : Int32) (l2 : Int32) (h : Hp) : Option (Bool × Hp) :=
  if l1 < 0 then
    (M_no Y l0 5 h).bind fun q2 =>
    some (q2.1, q2.2)
  else
    if (hGi h 1208 l0) < l1 then
      (M_no Y l0 5 h).bind fun q4 =>
      some (q4.1, q4.2)
    else
      if l1 ≤ l2 then
        letH (hSi h 1209 l0 l1) fun h6 =>
        letH (hSi h6 1208 l0 0) fun h7 =>
        letH (hSi h7 1216 l0 0) fun h8 =>
        letH (hSi h8 1212 l0 0) fun h9 =>
        (M_advance Y l0 h9).bind fun q10 =>
        some (true, q10)
      else
        (M_no Y l0 5 h).bind fun q11 =>
        some (q11.1, q11.2)
theorem ok_M_starts (Y : Ly) (l0 : Nat) (l1 : Int32) (l2 : Int32) (h : Hp) (t0 : isO Y 12 l0) : AM Y 2 K_M_starts [.ref l0, .int l1, .int l2] h (M_starts Y l0 l1 l2 h) rZ := by
  refine AM.of rfl (Nat.le_of_ble_eq_true rfl) ?_
  show AW Y 2 K_M_starts 0 [(0, .ref l0), (1, .int l1), (2, .int l2)] [] h (M_starts Y l0 l1 l2 h) rZ
  unfold M_starts
  refine aw_iload_n (pc := 0) d_M_starts_0 rfl 1 rfl ?_
  refine aw_if_lt (pc := 1) (tgt := 17) d_M_starts_1 (by decide) (fun c1 => ?_) (fun c1 => ?_)
  · refine aw_aload_n (pc := 17) d_M_starts_17 rfl 0 rfl ?_
    refine aw_iconst (pc := 18) (x := 5) d_M_starts_18 (by decide) ?_
    refine aw_cVrZ (pc := 19) (ci := 12) (T := TX12) (N := 44) (As := [.int 5]) (st := []) (ok_M_no Y l0 5 h t0) okV_M_no rfl (by decide) t0 w7_176 d_M_starts_19 rfl (Nat.le_of_ble_eq_true rfl) rfl (Nat.le_of_ble_eq_true rfl) (fun q2 hq2 hTq2 => ?_)
    exact aw_zreturn (pc := 22) (b := q2.1) d_M_starts_22 rfl rfl
  · refine aw_iload_n (pc := 4) d_M_starts_4 rfl 1 rfl ?_
    refine aw_aload_n (pc := 5) d_M_starts_5 rfl 0 rfl ?_
    refine gt_1208 (pc := 6) d_M_starts_6 w7_35 t0 ?_
    refine aw_icmp_gt (pc := 9) (tgt := 17) d_M_starts_9 (by decide) (fun c3 => ?_) (fun c3 => ?_)
    · refine aw_aload_n (pc := 17) d_M_starts_17 rfl 0 rfl ?_
      refine aw_iconst (pc := 18) (x := 5) d_M_starts_18 (by decide) ?_
      refine aw_cVrZ (pc := 19) (ci := 12) (T := TX12) (N := 44) (As := [.int 5]) (st := []) (ok_M_no Y l0 5 h t0) okV_M_no rfl (by decide) t0 w7_176 d_M_starts_19 rfl (Nat.le_of_ble_eq_true rfl) rfl (Nat.le_of_ble_eq_true rfl) (fun q4 hq4 hTq4 => ?_)
      exact aw_zreturn (pc := 22) (b := q4.1) d_M_starts_22 rfl rfl
    · refine aw_iload_n (pc := 12) d_M_starts_12 rfl 1 rfl ?_
      refine aw_iload_n (pc := 13) d_M_starts_13 rfl 2 rfl ?_
      refine aw_icmp_le (pc := 14) (tgt := 23) d_M_starts_14 (by decide) (fun c5 => ?_) (fun c5 => ?_)
      · refine aw_aload_n (pc := 23) d_M_starts_23 rfl 0 rfl ?_
        refine aw_iload_n (pc := 24) d_M_starts_24 rfl 1 rfl ?_
        refine pt_1209 (pc := 25) d_M_starts_25 w7_36 t0 ?_
        refine aw_letH (fun h6 => ?_)
        refine aw_aload_n (pc := 28) d_M_starts_28 rfl 0 rfl ?_
        refine aw_iconst (pc := 29) (x := 0) d_M_starts_29 (by decide) ?_
        refine pt_1208 (pc := 30) d_M_starts_30 w7_35 t0 ?_
        refine aw_letH (fun h7 => ?_)
        refine aw_aload_n (pc := 33) d_M_starts_33 rfl 0 rfl ?_
        refine aw_iconst (pc := 34) (x := 0) d_M_starts_34 (by decide) ?_
        refine pt_1216 (pc := 35) d_M_starts_35 w7_43 t0 ?_
        refine aw_letH (fun h8 => ?_)
        refine aw_aload_n (pc := 38) d_M_starts_38 rfl 0 rfl ?_
        refine aw_iconst (pc := 39) (x := 0) d_M_starts_39 (by decide) ?_
        refine pt_1212 (pc := 40) d_M_starts_40 w7_39 t0 ?_
        refine aw_letH (fun h9 => ?_)
        refine aw_aload_n (pc := 43) d_M_starts_43 rfl 0 rfl ?_
        refine aw_cVrV (pc := 44) (ci := 12) (T := TX12) (N := 44) (As := []) (st := []) (ok_M_advance Y l0 h9 t0) okV_M_advance rfl (by decide) t0 w7_224 d_M_starts_44 rfl (Nat.le_of_ble_eq_true rfl) rfl (Nat.le_of_ble_eq_true rfl) (fun q10 hq10 hTq10 => ?_)
        refine aw_iconst (pc := 47) (x := 1) d_M_starts_47 (by decide) ?_
        exact aw_zreturn (pc := 48) (b := true) d_M_starts_48 rfl rfl
      · refine aw_aload_n (pc := 17) d_M_starts_17 rfl 0 rfl ?_
        refine aw_iconst (pc := 18) (x := 5) d_M_starts_18 (by decide) ?_
        refine aw_cVrZ (pc := 19) (ci := 12) (T := TX12) (N := 44) (As := [.int 5]) (st := []) (ok_M_no Y l0 5 h t0) okV_M_no rfl (by decide) t0 w7_176 d_M_starts_19 rfl (Nat.le_of_ble_eq_true rfl) rfl (Nat.le_of_ble_eq_true rfl) (fun q11 hq11 hTq11 => ?_)
        exact aw_zreturn (pc := 22) (b := q11.1) d_M_starts_22 rfl rfl
/-! LastPagesModel.shelf(I)I -/
theorem d_M_shelf_0 : decode prog_14_method_85_code 0 = .ok (.aload_n 0, 1) := by decide +kernel
theorem d_M_shelf_1 : decode prog_14_method_85_code 1 = .ok (.iconst 0, 1) := by decide +kernel
theorem d_M_shelf_2 : decode prog_14_method_85_code 2 = .ok (.putfield 78, 3) := by decide +kernel
theorem d_M_shelf_5 : decode prog_14_method_85_code 5 = .ok (.aload_n 0, 1) := by decide +kernel
theorem d_M_shelf_6 : decode prog_14_method_85_code 6 = .ok (.iconst 0, 1) := by decide +kernel
theorem d_M_shelf_7 : decode prog_14_method_85_code 7 = .ok (.putfield 81, 3) := by decide +kernel
theorem d_M_shelf_10 : decode prog_14_method_85_code 10 = .ok (.aload_n 0, 1) := by decide +kernel
theorem d_M_shelf_11 : decode prog_14_method_85_code 11 = .ok (.iload_n 1, 1) := by decide +kernel
theorem d_M_shelf_12 : decode prog_14_method_85_code 12 = .ok (.sipush 900, 3) := by decide +kernel
theorem d_M_shelf_15 : decode prog_14_method_85_code 15 = .ok (.invokevirtual 338, 3) := by decide +kernel
theorem d_M_shelf_18 : decode prog_14_method_85_code 18 = .ok (.ifCond .ne 5, 3) := by decide +kernel
theorem d_M_shelf_21 : decode prog_14_method_85_code 21 = .ok (.iconst (-1), 1) := by decide +kernel
theorem d_M_shelf_22 : decode prog_14_method_85_code 22 = .ok (.ireturn, 1) := by decide +kernel
theorem d_M_shelf_23 : decode prog_14_method_85_code 23 = .ok (.aload_n 0, 1) := by decide +kernel
theorem d_M_shelf_24 : decode prog_14_method_85_code 24 = .ok (.iconst 4, 1) := by decide +kernel
theorem d_M_shelf_25 : decode prog_14_method_85_code 25 = .ok (.invokevirtual 74, 3) := by decide +kernel
theorem d_M_shelf_28 : decode prog_14_method_85_code 28 = .ok (.aload_n 0, 1) := by decide +kernel
theorem d_M_shelf_29 : decode prog_14_method_85_code 29 = .ok (.getfield 245, 3) := by decide +kernel
theorem d_M_shelf_32 : decode prog_14_method_85_code 32 = .ok (.ifCond .ne 27, 3) := by decide +kernel
theorem d_M_shelf_35 : decode prog_14_method_85_code 35 = .ok (.aload_n 0, 1) := by decide +kernel
theorem d_M_shelf_36 : decode prog_14_method_85_code 36 = .ok (.getfield 133, 3) := by decide +kernel
theorem d_M_shelf_39 : decode prog_14_method_85_code 39 = .ok (.ifCond .eq 20, 3) := by decide +kernel
theorem d_M_shelf_42 : decode prog_14_method_85_code 42 = .ok (.aload_n 0, 1) := by decide +kernel
theorem d_M_shelf_43 : decode prog_14_method_85_code 43 = .ok (.invokevirtual 341, 3) := by decide +kernel
theorem d_M_shelf_46 : decode prog_14_method_85_code 46 = .ok (.aload_n 0, 1) := by decide +kernel
theorem d_M_shelf_47 : decode prog_14_method_85_code 47 = .ok (.aload_n 0, 1) := by decide +kernel
theorem d_M_shelf_48 : decode prog_14_method_85_code 48 = .ok (.bipush 59, 2) := by decide +kernel
theorem d_M_shelf_50 : decode prog_14_method_85_code 50 = .ok (.invokevirtual 344, 3) := by decide +kernel
theorem d_M_shelf_53 : decode prog_14_method_85_code 53 = .ok (.invokevirtual 261, 3) := by decide +kernel
theorem d_M_shelf_56 : decode prog_14_method_85_code 56 = .ok (.goto (-28), 3) := by decide +kernel
theorem d_M_shelf_59 : decode prog_14_method_85_code 59 = .ok (.aload_n 0, 1) := by decide +kernel
theorem d_M_shelf_60 : decode prog_14_method_85_code 60 = .ok (.invokevirtual 347, 3) := by decide +kernel
theorem d_M_shelf_63 : decode prog_14_method_85_code 63 = .ok (.ifCond .ne 5, 3) := by decide +kernel
theorem d_M_shelf_66 : decode prog_14_method_85_code 66 = .ok (.iconst (-1), 1) := by decide +kernel
theorem d_M_shelf_67 : decode prog_14_method_85_code 67 = .ok (.ireturn, 1) := by decide +kernel
theorem d_M_shelf_68 : decode prog_14_method_85_code 68 = .ok (.aload_n 0, 1) := by decide +kernel
theorem d_M_shelf_69 : decode prog_14_method_85_code 69 = .ok (.iconst 4, 1) := by decide +kernel
theorem d_M_shelf_70 : decode prog_14_method_85_code 70 = .ok (.iconst 0, 1) := by decide +kernel
theorem d_M_shelf_71 : decode prog_14_method_85_code 71 = .ok (.invokevirtual 350, 3) := by decide +kernel
theorem d_M_shelf_74 : decode prog_14_method_85_code 74 = .ok (.aload_n 0, 1) := by decide +kernel
theorem d_M_shelf_75 : decode prog_14_method_85_code 75 = .ok (.getfield 35, 3) := by decide +kernel
theorem d_M_shelf_78 : decode prog_14_method_85_code 78 = .ok (.iconst 2, 1) := by decide +kernel
theorem d_M_shelf_79 : decode prog_14_method_85_code 79 = .ok (.iaload, 1) := by decide +kernel
theorem d_M_shelf_80 : decode prog_14_method_85_code 80 = .ok (.ireturn, 1) := by decide +kernel
def M_shelf_J59 (Y : Ly) (l0 : Nat) (h : Hp) : Option (Int32 × Hp) :=
  (M_isWell Y l0 h).bind fun q8 =>
  if q8.1 = true then
    (M_copy Y l0 4 0 q8.2).bind fun q10 =>
    if inB 2 (lnY Y (hGr q10 1220 l0)) = true then
      some (hAi q10 (hGr q10 1220 l0) (Int32.toNatClampNeg 2), q10)
    else none
  else
    some ((-1), q8.2)
theorem M_shelf_J59_ok (Y : Ly) (l0 : Nat) (h : Hp) (tl0 : isO Y 12 l0) : AW Y 10 K_M_shelf 59 [(0, .ref l0)] [] h (M_shelf_J59 Y l0 h) rI := by
  unfold M_shelf_J59
  refine aw_aload_n (pc := 59) d_M_shelf_59 rfl 0 rfl ?_
  refine aw_cVrZ (pc := 60) (ci := 12) (T := TX12) (N := 44) (As := []) (st := []) (ok_M_isWell Y l0 h tl0) okV_M_isWell rfl (by decide) tl0 w8_219 d_M_shelf_60 rfl (Nat.le_of_ble_eq_true rfl) rfl (Nat.le_of_ble_eq_true rfl) (fun q8 hq8 hTq8 => ?_)
  refine aw_bne (pc := 63) (tgt := 68) d_M_shelf_63 (by decide) (fun c9 => ?_) (fun c9 => ?_)
  · refine aw_aload_n (pc := 68) d_M_shelf_68 rfl 0 rfl ?_
    refine aw_iconst (pc := 69) (x := 4) d_M_shelf_69 (by decide) ?_
    refine aw_iconst (pc := 70) (x := 0) d_M_shelf_70 (by decide) ?_
    refine aw_cVrV (pc := 71) (ci := 12) (T := TX12) (N := 44) (As := [.int 4, .int 0]) (st := []) (ok_M_copy Y l0 4 0 q8.2 tl0) okV_M_copy rfl (by decide) tl0 w8_223 d_M_shelf_71 rfl (Nat.le_of_ble_eq_true rfl) rfl (Nat.le_of_ble_eq_true rfl) (fun q10 hq10 hTq10 => ?_)
    refine aw_aload_n (pc := 74) d_M_shelf_74 rfl 0 rfl ?_
    refine gt_1220 (pc := 75) d_M_shelf_75 w7_47 tl0 (fun tt11 => ?_)
    refine aw_iconst (pc := 78) (x := 2) d_M_shelf_78 (by decide) ?_
    refine aw_iaload (pc := 79) d_M_shelf_79 tt11 (fun c12 => ?_)
    exact aw_ireturn (pc := 80) d_M_shelf_80 rfl rfl
  · refine aw_iconst (pc := 66) (x := (-1)) d_M_shelf_66 (by decide) ?_
    exact aw_ireturn (pc := 67) d_M_shelf_67 rfl rfl
def M_shelf_L28 (Y : Ly) (l0 : Nat) : Nat → Hp → Option (Int32 × Hp)
  | 0, _ => none
  | F + 1, h =>
    if (hGi h 1212 l0) = 0 then
      if (hGi h 1214 l0) = 0 then
        M_shelf_J59 Y l0 h
      else
        (M_readPart Y l0 h).bind fun q13 =>
        (M_isSign Y l0 59 q13).bind fun q14 =>
        (M_must Y l0 q14 q13).bind fun q15 =>
        M_shelf_L28 Y l0 F q15
    else
      M_shelf_J59 Y l0 h
theorem M_shelf_L28_ok (Y : Ly) (l0 : Nat) (tl0 : isO Y 12 l0) : ∀ (F : Nat) (h : Hp), AW Y 10 K_M_shelf 28 [(0, .ref l0)] [] h (M_shelf_L28 Y l0 F h) rI := by
  intro F
  induction F with
  | zero =>
    intro h
    exact aw_none
  | succ F ih =>
    intro h
    unfold M_shelf_L28
    refine aw_aload_n (pc := 28) d_M_shelf_28 rfl 0 rfl ?_
    refine gt_1212 (pc := 29) d_M_shelf_29 w7_39 tl0 ?_
    refine aw_if_ne (pc := 32) (tgt := 59) d_M_shelf_32 (by decide) (fun c6 => ?_) (fun c6 => ?_)
    · refine aw_aload_n (pc := 35) d_M_shelf_35 rfl 0 rfl ?_
      refine gt_1214 (pc := 36) d_M_shelf_36 w7_41 tl0 ?_
      refine aw_if_eq (pc := 39) (tgt := 59) d_M_shelf_39 (by decide) (fun c7 => ?_) (fun c7 => ?_)
      · exact aw_lv [0] rfl (M_shelf_J59_ok Y l0 h tl0)
      · refine aw_aload_n (pc := 42) d_M_shelf_42 rfl 0 rfl ?_
        refine aw_cVrV (pc := 43) (ci := 12) (T := TX12) (N := 44) (As := []) (st := []) (ok_M_readPart Y l0 h tl0) okV_M_readPart rfl (by decide) tl0 w8_4 d_M_shelf_43 rfl (Nat.le_of_ble_eq_true rfl) rfl (Nat.le_of_ble_eq_true rfl) (fun q13 hq13 hTq13 => ?_)
        refine aw_aload_n (pc := 46) d_M_shelf_46 rfl 0 rfl ?_
        refine aw_aload_n (pc := 47) d_M_shelf_47 rfl 0 rfl ?_
        refine aw_bipush (pc := 48) (x := 59) d_M_shelf_48 (by decide) ?_
        refine aw_cVpZ (pc := 50) (ci := 12) (T := TX12) (N := 44) (As := [.int 59]) (st := [.ref l0]) (ok_M_isSign Y l0 59 q13 tl0) okV_M_isSign rfl (by decide) tl0 w8_215 d_M_shelf_50 rfl (Nat.le_of_ble_eq_true rfl) rfl (Nat.le_of_ble_eq_true rfl) (fun q14 hq14 hTq14 => ?_)
        refine aw_cVrV (pc := 53) (ci := 12) (T := TX12) (N := 44) (As := [.int (b2i q14)]) (st := []) (ok_M_must Y l0 q14 q13 tl0) okV_M_must rfl (by decide) tl0 w8_171 d_M_shelf_53 rfl (Nat.le_of_ble_eq_true rfl) rfl (Nat.le_of_ble_eq_true rfl) (fun q15 hq15 hTq15 => ?_)
        refine aw_goto (pc := 56) (tgt := 28) d_M_shelf_56 (by decide) ?_
        exact aw_lv [0] rfl (ih q15)
    · exact aw_lv [0] rfl (M_shelf_J59_ok Y l0 h tl0)
def M_shelf (Y : Ly) (l0 : Nat) (l1 : Int32) (h : Hp) : Option (Int32 × Hp) :=
  letH (hSi h 1201 l0 0) fun h1 =>
  letH (hSi h1 1200 l0 0) fun h2 =>
  (M_starts Y l0 l1 900 h2).bind fun q3 =>
  if q3.1 = true then
    (M_empties Y l0 4 q3.2).bind fun q5 =>
    M_shelf_L28 Y l0 FU q5
  else
    some ((-1), q3.2)
theorem ok_M_shelf (Y : Ly) (l0 : Nat) (l1 : Int32) (h : Hp) (t0 : isO Y 12 l0) : AM Y 10 K_M_shelf [.ref l0, .int l1] h (M_shelf Y l0 l1 h) rI := by
  refine AM.of rfl (Nat.le_of_ble_eq_true rfl) ?_
  show AW Y 10 K_M_shelf 0 [(0, .ref l0), (1, .int l1)] [] h (M_shelf Y l0 l1 h) rI
  unfold M_shelf
  refine aw_aload_n (pc := 0) d_M_shelf_0 rfl 0 rfl ?_
  refine aw_iconst (pc := 1) (x := 0) d_M_shelf_1 (by decide) ?_
  refine pt_1201 (pc := 2) d_M_shelf_2 w7_28 t0 ?_
  refine aw_letH (fun h1 => ?_)
  refine aw_aload_n (pc := 5) d_M_shelf_5 rfl 0 rfl ?_
  refine aw_iconst (pc := 6) (x := 0) d_M_shelf_6 (by decide) ?_
  refine pt_1200 (pc := 7) d_M_shelf_7 w7_27 t0 ?_
  refine aw_letH (fun h2 => ?_)
  refine aw_aload_n (pc := 10) d_M_shelf_10 rfl 0 rfl ?_
  refine aw_iload_n (pc := 11) d_M_shelf_11 rfl 1 rfl ?_
  refine aw_sipush (pc := 12) (x := 900) d_M_shelf_12 (by decide) ?_
  refine aw_cVrZ (pc := 15) (ci := 12) (T := TX12) (N := 44) (As := [.int l1, .int 900]) (st := []) (ok_M_starts Y l0 l1 900 h2 t0) okV_M_starts rfl (by decide) t0 w7_220 d_M_shelf_15 rfl (Nat.le_of_ble_eq_true rfl) rfl (Nat.le_of_ble_eq_true rfl) (fun q3 hq3 hTq3 => ?_)
  refine aw_bne (pc := 18) (tgt := 23) d_M_shelf_18 (by decide) (fun c4 => ?_) (fun c4 => ?_)
  · refine aw_aload_n (pc := 23) d_M_shelf_23 rfl 0 rfl ?_
    refine aw_iconst (pc := 24) (x := 4) d_M_shelf_24 (by decide) ?_
    refine aw_cVrV (pc := 25) (ci := 12) (T := TX12) (N := 44) (As := [.int 4]) (st := []) (ok_M_empties Y l0 4 q3.2 t0) okV_M_empties rfl (by decide) t0 w7_23 d_M_shelf_25 rfl (Nat.le_of_ble_eq_true rfl) rfl (Nat.le_of_ble_eq_true rfl) (fun q5 hq5 hTq5 => ?_)
    exact aw_lv [0] rfl (M_shelf_L28_ok Y l0 t0 FU q5)
  · refine aw_iconst (pc := 21) (x := (-1)) d_M_shelf_21 (by decide) ?_
    exact aw_ireturn (pc := 22) d_M_shelf_22 rfl rfl
/-! LastPagesModel.status()I -/
theorem d_M_status_0 : decode prog_14_method_3_code 0 = .ok (.aload_n 0, 1) := by decide +kernel
theorem d_M_status_1 : decode prog_14_method_3_code 1 = .ok (.iconst 0, 1) := by decide +kernel
theorem d_M_status_2 : decode prog_14_method_3_code 2 = .ok (.putfield 78, 3) := by decide +kernel
theorem d_M_status_5 : decode prog_14_method_3_code 5 = .ok (.aload_n 0, 1) := by decide +kernel
theorem d_M_status_6 : decode prog_14_method_3_code 6 = .ok (.getfield 81, 3) := by decide +kernel
theorem d_M_status_9 : decode prog_14_method_3_code 9 = .ok (.ireturn, 1) := by decide +kernel
def M_status (Y : Ly) (l0 : Nat) (h : Hp) : Option (Int32 × Hp) :=
  letH (hSi h 1201 l0 0) fun h1 =>
  some (hGi h1 1200 l0, h1)
theorem ok_M_status (Y : Ly) (l0 : Nat) (h : Hp) (t0 : isO Y 12 l0) : AM Y 0 K_M_status [.ref l0] h (M_status Y l0 h) rI := by
  refine AM.of rfl (Nat.le_of_ble_eq_true rfl) ?_
  show AW Y 0 K_M_status 0 [(0, .ref l0)] [] h (M_status Y l0 h) rI
  unfold M_status
  refine aw_aload_n (pc := 0) d_M_status_0 rfl 0 rfl ?_
  refine aw_iconst (pc := 1) (x := 0) d_M_status_1 (by decide) ?_
  refine pt_1201 (pc := 2) d_M_status_2 w7_28 t0 ?_
  refine aw_letH (fun h1 => ?_)
  refine aw_aload_n (pc := 5) d_M_status_5 rfl 0 rfl ?_
  refine gt_1200 (pc := 6) d_M_status_6 w7_27 t0 ?_
  exact aw_ireturn (pc := 9) d_M_status_9 rfl rfl
/-! LastPagesModel.strange(II)Z -/
theorem d_M_strange_0 : decode prog_14_method_119_code 0 = .ok (.aload_n 0, 1) := by decide +kernel
theorem d_M_strange_1 : decode prog_14_method_119_code 1 = .ok (.iconst 0, 1) := by decide +kernel
theorem d_M_strange_2 : decode prog_14_method_119_code 2 = .ok (.putfield 78, 3) := by decide +kernel
theorem d_M_strange_5 : decode prog_14_method_119_code 5 = .ok (.aload_n 0, 1) := by decide +kernel
theorem d_M_strange_6 : decode prog_14_method_119_code 6 = .ok (.iconst 0, 1) := by decide +kernel
theorem d_M_strange_7 : decode prog_14_method_119_code 7 = .ok (.putfield 81, 3) := by decide +kernel
theorem d_M_strange_10 : decode prog_14_method_119_code 10 = .ok (.aload_n 0, 1) := by decide +kernel
theorem d_M_strange_11 : decode prog_14_method_119_code 11 = .ok (.iload_n 1, 1) := by decide +kernel
theorem d_M_strange_12 : decode prog_14_method_119_code 12 = .ok (.invokevirtual 379, 3) := by decide +kernel
theorem d_M_strange_15 : decode prog_14_method_119_code 15 = .ok (.ifCond .ne 9, 3) := by decide +kernel
theorem d_M_strange_18 : decode prog_14_method_119_code 18 = .ok (.aload_n 0, 1) := by decide +kernel
theorem d_M_strange_19 : decode prog_14_method_119_code 19 = .ok (.iconst 2, 1) := by decide +kernel
theorem d_M_strange_20 : decode prog_14_method_119_code 20 = .ok (.invokevirtual 93, 3) := by decide +kernel
theorem d_M_strange_23 : decode prog_14_method_119_code 23 = .ok (.ireturn, 1) := by decide +kernel
theorem d_M_strange_24 : decode prog_14_method_119_code 24 = .ok (.iload_n 2, 1) := by decide +kernel
theorem d_M_strange_25 : decode prog_14_method_119_code 25 = .ok (.i2l, 1) := by decide +kernel
theorem d_M_strange_26 : decode prog_14_method_119_code 26 = .ok (.lconst 0, 1) := by decide +kernel
theorem d_M_strange_27 : decode prog_14_method_119_code 27 = .ok (.ldc2_w 420, 3) := by decide +kernel
theorem d_M_strange_30 : decode prog_14_method_119_code 30 = .ok (.invokestatic 113, 3) := by decide +kernel
theorem d_M_strange_33 : decode prog_14_method_119_code 33 = .ok (.ifCond .ne 9, 3) := by decide +kernel
theorem d_M_strange_36 : decode prog_14_method_119_code 36 = .ok (.aload_n 0, 1) := by decide +kernel
theorem d_M_strange_37 : decode prog_14_method_119_code 37 = .ok (.iconst 5, 1) := by decide +kernel
theorem d_M_strange_38 : decode prog_14_method_119_code 38 = .ok (.invokevirtual 93, 3) := by decide +kernel
theorem d_M_strange_41 : decode prog_14_method_119_code 41 = .ok (.ireturn, 1) := by decide +kernel
theorem d_M_strange_42 : decode prog_14_method_119_code 42 = .ok (.aload_n 0, 1) := by decide +kernel
theorem d_M_strange_43 : decode prog_14_method_119_code 43 = .ok (.getfield 35, 3) := by decide +kernel
theorem d_M_strange_46 : decode prog_14_method_119_code 46 = .ok (.bipush 10, 2) := by decide +kernel
theorem d_M_strange_48 : decode prog_14_method_119_code 48 = .ok (.iload_n 1, 1) := by decide +kernel
theorem d_M_strange_49 : decode prog_14_method_119_code 49 = .ok (.iadd, 1) := by decide +kernel
theorem d_M_strange_50 : decode prog_14_method_119_code 50 = .ok (.iload_n 2, 1) := by decide +kernel
theorem d_M_strange_51 : decode prog_14_method_119_code 51 = .ok (.iastore, 1) := by decide +kernel
theorem d_M_strange_52 : decode prog_14_method_119_code 52 = .ok (.iconst 1, 1) := by decide +kernel
theorem d_M_strange_53 : decode prog_14_method_119_code 53 = .ok (.ireturn, 1) := by decide +kernel
def M_strange (Y : Ly) (l0 : Nat) (l1 : Int32) (l2 : Int32) (h : Hp) : Option (Bool × Hp) :=
  letH (hSi h 1201 l0 0) fun h1 =>
  letH (hSi h1 1200 l0 0) fun h2 =>
  (M_isTurnAt Y l0 l1 h2).bind fun q3 =>
  if q3 = true then
    (M_isIn Y (Int32.toInt64 l2) 0 9 h2).bind fun q5 =>
    if q5 = true then
      if inB (10 + l1) (lnY Y (hGr h2 1220 l0)) = true then
        letH (hTi h2 (hGr h2 1220 l0) (Int32.toNatClampNeg (10 + l1)) l2) fun h9 =>
        some (true, h9)
      else none
    else
      (M_no Y l0 5 h2).bind fun q10 =>
      some (q10.1, q10.2)
  else
    (M_no Y l0 2 h2).bind fun q11 =>
    some (q11.1, q11.2)
theorem ok_M_strange (Y : Ly) (l0 : Nat) (l1 : Int32) (l2 : Int32) (h : Hp) (t0 : isO Y 12 l0) : AM Y 2 K_M_strange [.ref l0, .int l1, .int l2] h (M_strange Y l0 l1 l2 h) rZ := by
  refine AM.of rfl (Nat.le_of_ble_eq_true rfl) ?_
  show AW Y 2 K_M_strange 0 [(0, .ref l0), (1, .int l1), (2, .int l2)] [] h (M_strange Y l0 l1 l2 h) rZ
  unfold M_strange
  refine aw_aload_n (pc := 0) d_M_strange_0 rfl 0 rfl ?_
  refine aw_iconst (pc := 1) (x := 0) d_M_strange_1 (by decide) ?_
  refine pt_1201 (pc := 2) d_M_strange_2 w7_28 t0 ?_
  refine aw_letH (fun h1 => ?_)
  refine aw_aload_n (pc := 5) d_M_strange_5 rfl 0 rfl ?_
  refine aw_iconst (pc := 6) (x := 0) d_M_strange_6 (by decide) ?_
  refine pt_1200 (pc := 7) d_M_strange_7 w7_27 t0 ?_
  refine aw_letH (fun h2 => ?_)
  refine aw_aload_n (pc := 10) d_M_strange_10 rfl 0 rfl ?_
  refine aw_iload_n (pc := 11) d_M_strange_11 rfl 1 rfl ?_
  refine aw_cVpZ (pc := 12) (ci := 12) (T := TX12) (N := 44) (As := [.int l1]) (st := []) (ok_M_isTurnAt Y l0 l1 h2 t0) okV_M_isTurnAt rfl (by decide) t0 w9_28 d_M_strange_12 rfl (Nat.le_of_ble_eq_true rfl) rfl (Nat.le_of_ble_eq_true rfl) (fun q3 hq3 hTq3 => ?_)
  refine aw_bne (pc := 15) (tgt := 24) d_M_strange_15 (by decide) (fun c4 => ?_) (fun c4 => ?_)
  · refine aw_iload_n (pc := 24) d_M_strange_24 rfl 2 rfl ?_
    refine aw_i2l (pc := 25) d_M_strange_25 ?_
    refine aw_lconst (pc := 26) (x := 0) d_M_strange_26 (by decide) ?_
    refine aw_ldc2 (pc := 27) d_M_strange_27 w9_125 ?_
    refine aw_cSpZ (pc := 30) (As := [.long (Int32.toInt64 l2), .long 0, .long 9]) (st := []) (ok_M_isIn Y (Int32.toInt64 l2) 0 9 h2) okS_M_isIn w8_155 d_M_strange_30 rfl (Nat.le_of_ble_eq_true rfl) rfl (Nat.le_of_ble_eq_true rfl) (fun q5 hq5 hTq5 => ?_)
    refine aw_bne (pc := 33) (tgt := 42) d_M_strange_33 (by decide) (fun c6 => ?_) (fun c6 => ?_)
    · refine aw_aload_n (pc := 42) d_M_strange_42 rfl 0 rfl ?_
      refine gt_1220 (pc := 43) d_M_strange_43 w7_47 t0 (fun tt7 => ?_)
      refine aw_bipush (pc := 46) (x := 10) d_M_strange_46 (by decide) ?_
      refine aw_iload_n (pc := 48) d_M_strange_48 rfl 1 rfl ?_
      refine aw_iadd (pc := 49) d_M_strange_49 ?_
      refine aw_iload_n (pc := 50) d_M_strange_50 rfl 2 rfl ?_
      refine aw_iastore (pc := 51) d_M_strange_51 tt7 (fun c8 => ?_)
      refine aw_letH (fun h9 => ?_)
      refine aw_iconst (pc := 52) (x := 1) d_M_strange_52 (by decide) ?_
      exact aw_zreturn (pc := 53) (b := true) d_M_strange_53 rfl rfl
    · refine aw_aload_n (pc := 36) d_M_strange_36 rfl 0 rfl ?_
      refine aw_iconst (pc := 37) (x := 5) d_M_strange_37 (by decide) ?_
      refine aw_cVrZ (pc := 38) (ci := 12) (T := TX12) (N := 44) (As := [.int 5]) (st := []) (ok_M_no Y l0 5 h2 t0) okV_M_no rfl (by decide) t0 w7_176 d_M_strange_38 rfl (Nat.le_of_ble_eq_true rfl) rfl (Nat.le_of_ble_eq_true rfl) (fun q10 hq10 hTq10 => ?_)
      exact aw_zreturn (pc := 41) (b := q10.1) d_M_strange_41 rfl rfl
  · refine aw_aload_n (pc := 18) d_M_strange_18 rfl 0 rfl ?_
    refine aw_iconst (pc := 19) (x := 2) d_M_strange_19 (by decide) ?_
    refine aw_cVrZ (pc := 20) (ci := 12) (T := TX12) (N := 44) (As := [.int 2]) (st := []) (ok_M_no Y l0 2 h2 t0) okV_M_no rfl (by decide) t0 w7_176 d_M_strange_20 rfl (Nat.le_of_ble_eq_true rfl) rfl (Nat.le_of_ble_eq_true rfl) (fun q11 hq11 hTq11 => ?_)
    exact aw_zreturn (pc := 23) (b := q11.1) d_M_strange_23 rfl rfl
/-! LastPagesModel.top()J -/
theorem d_M_top_0 : decode prog_14_method_4_code 0 = .ok (.aload_n 0, 1) := by decide +kernel
theorem d_M_top_1 : decode prog_14_method_4_code 1 = .ok (.iconst 0, 1) := by decide +kernel
theorem d_M_top_2 : decode prog_14_method_4_code 2 = .ok (.putfield 78, 3) := by decide +kernel
theorem d_M_top_5 : decode prog_14_method_4_code 5 = .ok (.aload_n 0, 1) := by decide +kernel
theorem d_M_top_6 : decode prog_14_method_4_code 6 = .ok (.getfield 84, 3) := by decide +kernel
theorem d_M_top_9 : decode prog_14_method_4_code 9 = .ok (.lreturn, 1) := by decide +kernel
def M_top (Y : Ly) (l0 : Nat) (h : Hp) : Option (Int64 × Hp) :=
  letH (hSi h 1201 l0 0) fun h1 =>
  some (hGl h1 1202 l0, h1)
theorem ok_M_top (Y : Ly) (l0 : Nat) (h : Hp) (t0 : isO Y 12 l0) : AM Y 0 K_M_top [.ref l0] h (M_top Y l0 h) rL := by
  refine AM.of rfl (Nat.le_of_ble_eq_true rfl) ?_
  show AW Y 0 K_M_top 0 [(0, .ref l0)] [] h (M_top Y l0 h) rL
  unfold M_top
  refine aw_aload_n (pc := 0) d_M_top_0 rfl 0 rfl ?_
  refine aw_iconst (pc := 1) (x := 0) d_M_top_1 (by decide) ?_
  refine pt_1201 (pc := 2) d_M_top_2 w7_28 t0 ?_
  refine aw_letH (fun h1 => ?_)
  refine aw_aload_n (pc := 5) d_M_top_5 rfl 0 rfl ?_
  refine gt_1202 (pc := 6) d_M_top_6 w7_29 t0 ?_
  exact aw_lreturn (pc := 9) d_M_top_9 rfl rfl
/-! LastPagesModel.tray(III)Z -/
theorem d_M_tray_0 : decode prog_14_method_11_code 0 = .ok (.aload_n 0, 1) := by decide +kernel
theorem d_M_tray_1 : decode prog_14_method_11_code 1 = .ok (.iconst 0, 1) := by decide +kernel
theorem d_M_tray_2 : decode prog_14_method_11_code 2 = .ok (.putfield 78, 3) := by decide +kernel
theorem d_M_tray_5 : decode prog_14_method_11_code 5 = .ok (.aload_n 0, 1) := by decide +kernel
theorem d_M_tray_6 : decode prog_14_method_11_code 6 = .ok (.iconst 0, 1) := by decide +kernel
theorem d_M_tray_7 : decode prog_14_method_11_code 7 = .ok (.putfield 81, 3) := by decide +kernel
theorem d_M_tray_10 : decode prog_14_method_11_code 10 = .ok (.iload_n 1, 1) := by decide +kernel
theorem d_M_tray_11 : decode prog_14_method_11_code 11 = .ok (.ifCond .lt 17, 3) := by decide +kernel
theorem d_M_tray_14 : decode prog_14_method_11_code 14 = .ok (.iload_n 1, 1) := by decide +kernel
theorem d_M_tray_15 : decode prog_14_method_11_code 15 = .ok (.iconst 4, 1) := by decide +kernel
theorem d_M_tray_16 : decode prog_14_method_11_code 16 = .ok (.if_icmp .ge 12, 3) := by decide +kernel
theorem d_M_tray_19 : decode prog_14_method_11_code 19 = .ok (.iload_n 2, 1) := by decide +kernel
theorem d_M_tray_20 : decode prog_14_method_11_code 20 = .ok (.ifCond .lt 8, 3) := by decide +kernel
theorem d_M_tray_23 : decode prog_14_method_11_code 23 = .ok (.iload_n 2, 1) := by decide +kernel
theorem d_M_tray_24 : decode prog_14_method_11_code 24 = .ok (.iconst 3, 1) := by decide +kernel
theorem d_M_tray_25 : decode prog_14_method_11_code 25 = .ok (.if_icmp .le 9, 3) := by decide +kernel
theorem d_M_tray_28 : decode prog_14_method_11_code 28 = .ok (.aload_n 0, 1) := by decide +kernel
theorem d_M_tray_29 : decode prog_14_method_11_code 29 = .ok (.iconst 1, 1) := by decide +kernel
theorem d_M_tray_30 : decode prog_14_method_11_code 30 = .ok (.invokevirtual 93, 3) := by decide +kernel
theorem d_M_tray_33 : decode prog_14_method_11_code 33 = .ok (.ireturn, 1) := by decide +kernel
theorem d_M_tray_34 : decode prog_14_method_11_code 34 = .ok (.iload_n 3, 1) := by decide +kernel
theorem d_M_tray_35 : decode prog_14_method_11_code 35 = .ok (.bipush 60, 2) := by decide +kernel
theorem d_M_tray_37 : decode prog_14_method_11_code 37 = .ok (.if_icmp .le 9, 3) := by decide +kernel
theorem d_M_tray_40 : decode prog_14_method_11_code 40 = .ok (.aload_n 0, 1) := by decide +kernel
theorem d_M_tray_41 : decode prog_14_method_11_code 41 = .ok (.iconst 5, 1) := by decide +kernel
theorem d_M_tray_42 : decode prog_14_method_11_code 42 = .ok (.invokevirtual 93, 3) := by decide +kernel
theorem d_M_tray_45 : decode prog_14_method_11_code 45 = .ok (.ireturn, 1) := by decide +kernel
theorem d_M_tray_46 : decode prog_14_method_11_code 46 = .ok (.iload_n 3, 1) := by decide +kernel
theorem d_M_tray_47 : decode prog_14_method_11_code 47 = .ok (.ifCond .ge 10, 3) := by decide +kernel
theorem d_M_tray_50 : decode prog_14_method_11_code 50 = .ok (.aload_n 0, 1) := by decide +kernel
theorem d_M_tray_51 : decode prog_14_method_11_code 51 = .ok (.bipush 6, 2) := by decide +kernel
theorem d_M_tray_53 : decode prog_14_method_11_code 53 = .ok (.invokevirtual 93, 3) := by decide +kernel
theorem d_M_tray_56 : decode prog_14_method_11_code 56 = .ok (.ireturn, 1) := by decide +kernel
theorem d_M_tray_57 : decode prog_14_method_11_code 57 = .ok (.aload_n 0, 1) := by decide +kernel
theorem d_M_tray_58 : decode prog_14_method_11_code 58 = .ok (.getfield 13, 3) := by decide +kernel
theorem d_M_tray_61 : decode prog_14_method_11_code 61 = .ok (.iload_n 1, 1) := by decide +kernel
theorem d_M_tray_62 : decode prog_14_method_11_code 62 = .ok (.iload_n 2, 1) := by decide +kernel
theorem d_M_tray_63 : decode prog_14_method_11_code 63 = .ok (.iastore, 1) := by decide +kernel
theorem d_M_tray_64 : decode prog_14_method_11_code 64 = .ok (.aload_n 0, 1) := by decide +kernel
theorem d_M_tray_65 : decode prog_14_method_11_code 65 = .ok (.getfield 17, 3) := by decide +kernel
theorem d_M_tray_68 : decode prog_14_method_11_code 68 = .ok (.iload_n 1, 1) := by decide +kernel
theorem d_M_tray_69 : decode prog_14_method_11_code 69 = .ok (.iload_n 3, 1) := by decide +kernel
theorem d_M_tray_70 : decode prog_14_method_11_code 70 = .ok (.iastore, 1) := by decide +kernel
theorem d_M_tray_71 : decode prog_14_method_11_code 71 = .ok (.iconst 0, 1) := by decide +kernel
theorem d_M_tray_72 : decode prog_14_method_11_code 72 = .ok (.istore 4, 2) := by decide +kernel
theorem d_M_tray_74 : decode prog_14_method_11_code 74 = .ok (.iload 4, 2) := by decide +kernel
theorem d_M_tray_76 : decode prog_14_method_11_code 76 = .ok (.iload_n 3, 1) := by decide +kernel
theorem d_M_tray_77 : decode prog_14_method_11_code 77 = .ok (.if_icmp .ge 22, 3) := by decide +kernel
theorem d_M_tray_80 : decode prog_14_method_11_code 80 = .ok (.aload_n 0, 1) := by decide +kernel
theorem d_M_tray_81 : decode prog_14_method_11_code 81 = .ok (.getfield 20, 3) := by decide +kernel
theorem d_M_tray_84 : decode prog_14_method_11_code 84 = .ok (.bipush 60, 2) := by decide +kernel
theorem d_M_tray_86 : decode prog_14_method_11_code 86 = .ok (.iload_n 1, 1) := by decide +kernel
theorem d_M_tray_87 : decode prog_14_method_11_code 87 = .ok (.imul, 1) := by decide +kernel
theorem d_M_tray_88 : decode prog_14_method_11_code 88 = .ok (.iload 4, 2) := by decide +kernel
theorem d_M_tray_90 : decode prog_14_method_11_code 90 = .ok (.iadd, 1) := by decide +kernel
theorem d_M_tray_91 : decode prog_14_method_11_code 91 = .ok (.lconst 0, 1) := by decide +kernel
theorem d_M_tray_92 : decode prog_14_method_11_code 92 = .ok (.lastore, 1) := by decide +kernel
theorem d_M_tray_93 : decode prog_14_method_11_code 93 = .ok (.iinc 4 1, 3) := by decide +kernel
theorem d_M_tray_96 : decode prog_14_method_11_code 96 = .ok (.goto (-22), 3) := by decide +kernel
theorem d_M_tray_99 : decode prog_14_method_11_code 99 = .ok (.iconst 1, 1) := by decide +kernel
theorem d_M_tray_100 : decode prog_14_method_11_code 100 = .ok (.ireturn, 1) := by decide +kernel
def M_tray_L74 (Y : Ly) (l0 : Nat) (l1 : Int32) (l3 : Int32) : Nat → Int32 → Hp → Option (Bool × Hp)
  | 0, _, _ => none
  | F + 1, l4, h =>
    if l3 ≤ l4 then
      some (true, h)
    else
      if inB ((60 * l1) + l4) (lnY Y (hGr h 1206 l0)) = true then
        letH (hTl h (hGr h 1206 l0) (Int32.toNatClampNeg ((60 * l1) + l4)) 0) fun h21 =>
        M_tray_L74 Y l0 l1 l3 F (l4 + 1) h21
      else none
theorem M_tray_L74_ok (Y : Ly) (l0 : Nat) (l1 : Int32) (l3 : Int32) (tl0 : isO Y 12 l0) : ∀ (F : Nat) (l4 : Int32) (h : Hp), AW Y 1 K_M_tray 74 [(0, .ref l0), (1, .int l1), (3, .int l3), (4, .int l4)] [] h (M_tray_L74 Y l0 l1 l3 F l4 h) rZ := by
  intro F
  induction F with
  | zero =>
    intro l4 h
    exact aw_none
  | succ F ih =>
    intro l4 h
    unfold M_tray_L74
    refine aw_iload (pc := 74) d_M_tray_74 3 rfl ?_
    refine aw_iload_n (pc := 76) d_M_tray_76 rfl 2 rfl ?_
    refine aw_icmp_ge (pc := 77) (tgt := 99) d_M_tray_77 (by decide) (fun c18 => ?_) (fun c18 => ?_)
    · refine aw_iconst (pc := 99) (x := 1) d_M_tray_99 (by decide) ?_
      exact aw_zreturn (pc := 100) (b := true) d_M_tray_100 rfl rfl
    · refine aw_aload_n (pc := 80) d_M_tray_80 rfl 0 rfl ?_
      refine gt_1206 (pc := 81) d_M_tray_81 w7_33 tl0 (fun tt19 => ?_)
      refine aw_bipush (pc := 84) (x := 60) d_M_tray_84 (by decide) ?_
      refine aw_iload_n (pc := 86) d_M_tray_86 rfl 1 rfl ?_
      refine aw_imul (pc := 87) d_M_tray_87 ?_
      refine aw_iload (pc := 88) d_M_tray_88 3 rfl ?_
      refine aw_iadd (pc := 90) d_M_tray_90 ?_
      refine aw_lconst (pc := 91) (x := 0) d_M_tray_91 (by decide) ?_
      refine aw_lastore (pc := 92) d_M_tray_92 tt19 (fun c20 => ?_)
      refine aw_letH (fun h21 => ?_)
      refine aw_iinc (pc := 93) (w := l4 + 1) (lv' := [(4, .int (l4 + 1)), (0, .ref l0), (1, .int l1), (3, .int l3)]) d_M_tray_93 3 rfl rfl (by decide) rfl ?_
      refine aw_goto (pc := 96) (tgt := 74) d_M_tray_96 (by decide) ?_
      exact aw_lv [1, 2, 3, 0] rfl (ih (l4 + 1) h21)
def M_tray (Y : Ly) (l0 : Nat) (l1 : Int32) (l2 : Int32) (l3 : Int32) (h : Hp) : Option (Bool × Hp) :=
  letH (hSi h 1201 l0 0) fun h1 =>
  letH (hSi h1 1200 l0 0) fun h2 =>
  if l1 < 0 then
    (M_no Y l0 1 h2).bind fun q4 =>
    some (q4.1, q4.2)
  else
    if 4 ≤ l1 then
      (M_no Y l0 1 h2).bind fun q6 =>
      some (q6.1, q6.2)
    else
      if l2 < 0 then
        (M_no Y l0 1 h2).bind fun q8 =>
        some (q8.1, q8.2)
      else
        if l2 ≤ 3 then
          if l3 ≤ 60 then
            if 0 ≤ l3 then
              if inB l1 (lnY Y (hGr h2 1204 l0)) = true then
                letH (hTi h2 (hGr h2 1204 l0) (Int32.toNatClampNeg l1) l2) fun h14 =>
                if inB l1 (lnY Y (hGr h14 1205 l0)) = true then
                  letH (hTi h14 (hGr h14 1205 l0) (Int32.toNatClampNeg l1) l3) fun h17 =>
                  M_tray_L74 Y l0 l1 l3 FU 0 h17
                else none
              else none
            else
              (M_no Y l0 6 h2).bind fun q22 =>
              some (q22.1, q22.2)
          else
            (M_no Y l0 5 h2).bind fun q23 =>
            some (q23.1, q23.2)
        else
          (M_no Y l0 1 h2).bind fun q24 =>
          some (q24.1, q24.2)
theorem ok_M_tray (Y : Ly) (l0 : Nat) (l1 : Int32) (l2 : Int32) (l3 : Int32) (h : Hp) (t0 : isO Y 12 l0) : AM Y 1 K_M_tray [.ref l0, .int l1, .int l2, .int l3] h (M_tray Y l0 l1 l2 l3 h) rZ := by
  refine AM.of rfl (Nat.le_of_ble_eq_true rfl) ?_
  show AW Y 1 K_M_tray 0 [(0, .ref l0), (1, .int l1), (2, .int l2), (3, .int l3)] [] h (M_tray Y l0 l1 l2 l3 h) rZ
  unfold M_tray
  refine aw_aload_n (pc := 0) d_M_tray_0 rfl 0 rfl ?_
  refine aw_iconst (pc := 1) (x := 0) d_M_tray_1 (by decide) ?_
  refine pt_1201 (pc := 2) d_M_tray_2 w7_28 t0 ?_
  refine aw_letH (fun h1 => ?_)
  refine aw_aload_n (pc := 5) d_M_tray_5 rfl 0 rfl ?_
  refine aw_iconst (pc := 6) (x := 0) d_M_tray_6 (by decide) ?_
  refine pt_1200 (pc := 7) d_M_tray_7 w7_27 t0 ?_
  refine aw_letH (fun h2 => ?_)
  refine aw_iload_n (pc := 10) d_M_tray_10 rfl 1 rfl ?_
  refine aw_if_lt (pc := 11) (tgt := 28) d_M_tray_11 (by decide) (fun c3 => ?_) (fun c3 => ?_)
  · refine aw_aload_n (pc := 28) d_M_tray_28 rfl 0 rfl ?_
    refine aw_iconst (pc := 29) (x := 1) d_M_tray_29 (by decide) ?_
    refine aw_cVrZ (pc := 30) (ci := 12) (T := TX12) (N := 44) (As := [.int 1]) (st := []) (ok_M_no Y l0 1 h2 t0) okV_M_no rfl (by decide) t0 w7_176 d_M_tray_30 rfl (Nat.le_of_ble_eq_true rfl) rfl (Nat.le_of_ble_eq_true rfl) (fun q4 hq4 hTq4 => ?_)
    exact aw_zreturn (pc := 33) (b := q4.1) d_M_tray_33 rfl rfl
  · refine aw_iload_n (pc := 14) d_M_tray_14 rfl 1 rfl ?_
    refine aw_iconst (pc := 15) (x := 4) d_M_tray_15 (by decide) ?_
    refine aw_icmp_ge (pc := 16) (tgt := 28) d_M_tray_16 (by decide) (fun c5 => ?_) (fun c5 => ?_)
    · refine aw_aload_n (pc := 28) d_M_tray_28 rfl 0 rfl ?_
      refine aw_iconst (pc := 29) (x := 1) d_M_tray_29 (by decide) ?_
      refine aw_cVrZ (pc := 30) (ci := 12) (T := TX12) (N := 44) (As := [.int 1]) (st := []) (ok_M_no Y l0 1 h2 t0) okV_M_no rfl (by decide) t0 w7_176 d_M_tray_30 rfl (Nat.le_of_ble_eq_true rfl) rfl (Nat.le_of_ble_eq_true rfl) (fun q6 hq6 hTq6 => ?_)
      exact aw_zreturn (pc := 33) (b := q6.1) d_M_tray_33 rfl rfl
    · refine aw_iload_n (pc := 19) d_M_tray_19 rfl 2 rfl ?_
      refine aw_if_lt (pc := 20) (tgt := 28) d_M_tray_20 (by decide) (fun c7 => ?_) (fun c7 => ?_)
      · refine aw_aload_n (pc := 28) d_M_tray_28 rfl 0 rfl ?_
        refine aw_iconst (pc := 29) (x := 1) d_M_tray_29 (by decide) ?_
        refine aw_cVrZ (pc := 30) (ci := 12) (T := TX12) (N := 44) (As := [.int 1]) (st := []) (ok_M_no Y l0 1 h2 t0) okV_M_no rfl (by decide) t0 w7_176 d_M_tray_30 rfl (Nat.le_of_ble_eq_true rfl) rfl (Nat.le_of_ble_eq_true rfl) (fun q8 hq8 hTq8 => ?_)
        exact aw_zreturn (pc := 33) (b := q8.1) d_M_tray_33 rfl rfl
      · refine aw_iload_n (pc := 23) d_M_tray_23 rfl 2 rfl ?_
        refine aw_iconst (pc := 24) (x := 3) d_M_tray_24 (by decide) ?_
        refine aw_icmp_le (pc := 25) (tgt := 34) d_M_tray_25 (by decide) (fun c9 => ?_) (fun c9 => ?_)
        · refine aw_iload_n (pc := 34) d_M_tray_34 rfl 3 rfl ?_
          refine aw_bipush (pc := 35) (x := 60) d_M_tray_35 (by decide) ?_
          refine aw_icmp_le (pc := 37) (tgt := 46) d_M_tray_37 (by decide) (fun c10 => ?_) (fun c10 => ?_)
          · refine aw_iload_n (pc := 46) d_M_tray_46 rfl 3 rfl ?_
            refine aw_if_ge (pc := 47) (tgt := 57) d_M_tray_47 (by decide) (fun c11 => ?_) (fun c11 => ?_)
            · refine aw_aload_n (pc := 57) d_M_tray_57 rfl 0 rfl ?_
              refine gt_1204 (pc := 58) d_M_tray_58 w7_31 t0 (fun tt12 => ?_)
              refine aw_iload_n (pc := 61) d_M_tray_61 rfl 1 rfl ?_
              refine aw_iload_n (pc := 62) d_M_tray_62 rfl 2 rfl ?_
              refine aw_iastore (pc := 63) d_M_tray_63 tt12 (fun c13 => ?_)
              refine aw_letH (fun h14 => ?_)
              refine aw_aload_n (pc := 64) d_M_tray_64 rfl 0 rfl ?_
              refine gt_1205 (pc := 65) d_M_tray_65 w7_32 t0 (fun tt15 => ?_)
              refine aw_iload_n (pc := 68) d_M_tray_68 rfl 1 rfl ?_
              refine aw_iload_n (pc := 69) d_M_tray_69 rfl 3 rfl ?_
              refine aw_iastore (pc := 70) d_M_tray_70 tt15 (fun c16 => ?_)
              refine aw_letH (fun h17 => ?_)
              refine aw_iconst (pc := 71) (x := 0) d_M_tray_71 (by decide) ?_
              refine aw_istore (pc := 72) (lv' := [(4, .int 0), (0, .ref l0), (1, .int l1), (2, .int l2), (3, .int l3)]) d_M_tray_72 (by decide) rfl ?_
              exact aw_lv [1, 2, 4, 0] rfl (M_tray_L74_ok Y l0 l1 l3 t0 FU 0 h17)
            · refine aw_aload_n (pc := 50) d_M_tray_50 rfl 0 rfl ?_
              refine aw_bipush (pc := 51) (x := 6) d_M_tray_51 (by decide) ?_
              refine aw_cVrZ (pc := 53) (ci := 12) (T := TX12) (N := 44) (As := [.int 6]) (st := []) (ok_M_no Y l0 6 h2 t0) okV_M_no rfl (by decide) t0 w7_176 d_M_tray_53 rfl (Nat.le_of_ble_eq_true rfl) rfl (Nat.le_of_ble_eq_true rfl) (fun q22 hq22 hTq22 => ?_)
              exact aw_zreturn (pc := 56) (b := q22.1) d_M_tray_56 rfl rfl
          · refine aw_aload_n (pc := 40) d_M_tray_40 rfl 0 rfl ?_
            refine aw_iconst (pc := 41) (x := 5) d_M_tray_41 (by decide) ?_
            refine aw_cVrZ (pc := 42) (ci := 12) (T := TX12) (N := 44) (As := [.int 5]) (st := []) (ok_M_no Y l0 5 h2 t0) okV_M_no rfl (by decide) t0 w7_176 d_M_tray_42 rfl (Nat.le_of_ble_eq_true rfl) rfl (Nat.le_of_ble_eq_true rfl) (fun q23 hq23 hTq23 => ?_)
            exact aw_zreturn (pc := 45) (b := q23.1) d_M_tray_45 rfl rfl
        · refine aw_aload_n (pc := 28) d_M_tray_28 rfl 0 rfl ?_
          refine aw_iconst (pc := 29) (x := 1) d_M_tray_29 (by decide) ?_
          refine aw_cVrZ (pc := 30) (ci := 12) (T := TX12) (N := 44) (As := [.int 1]) (st := []) (ok_M_no Y l0 1 h2 t0) okV_M_no rfl (by decide) t0 w7_176 d_M_tray_30 rfl (Nat.le_of_ble_eq_true rfl) rfl (Nat.le_of_ble_eq_true rfl) (fun q24 hq24 hTq24 => ?_)
          exact aw_zreturn (pc := 33) (b := q24.1) d_M_tray_33 rfl rfl
/-! LastPagesModel.watch(II)I -/
theorem d_M_watch_0 : decode prog_14_method_106_code 0 = .ok (.aload_n 0, 1) := by decide +kernel
theorem d_M_watch_1 : decode prog_14_method_106_code 1 = .ok (.iconst 0, 1) := by decide +kernel
theorem d_M_watch_2 : decode prog_14_method_106_code 2 = .ok (.putfield 78, 3) := by decide +kernel
theorem d_M_watch_5 : decode prog_14_method_106_code 5 = .ok (.aload_n 0, 1) := by decide +kernel
theorem d_M_watch_6 : decode prog_14_method_106_code 6 = .ok (.iconst 0, 1) := by decide +kernel
theorem d_M_watch_7 : decode prog_14_method_106_code 7 = .ok (.putfield 81, 3) := by decide +kernel
theorem d_M_watch_10 : decode prog_14_method_106_code 10 = .ok (.iload_n 1, 1) := by decide +kernel
theorem d_M_watch_11 : decode prog_14_method_106_code 11 = .ok (.i2l, 1) := by decide +kernel
theorem d_M_watch_12 : decode prog_14_method_106_code 12 = .ok (.lconst 0, 1) := by decide +kernel
theorem d_M_watch_13 : decode prog_14_method_106_code 13 = .ok (.aload_n 0, 1) := by decide +kernel
theorem d_M_watch_14 : decode prog_14_method_106_code 14 = .ok (.getfield 35, 3) := by decide +kernel
theorem d_M_watch_17 : decode prog_14_method_106_code 17 = .ok (.bipush 7, 2) := by decide +kernel
theorem d_M_watch_19 : decode prog_14_method_106_code 19 = .ok (.iaload, 1) := by decide +kernel
theorem d_M_watch_20 : decode prog_14_method_106_code 20 = .ok (.iconst 1, 1) := by decide +kernel
theorem d_M_watch_21 : decode prog_14_method_106_code 21 = .ok (.isub, 1) := by decide +kernel
theorem d_M_watch_22 : decode prog_14_method_106_code 22 = .ok (.i2l, 1) := by decide +kernel
theorem d_M_watch_23 : decode prog_14_method_106_code 23 = .ok (.invokestatic 113, 3) := by decide +kernel
theorem d_M_watch_26 : decode prog_14_method_106_code 26 = .ok (.ifCond .ne 9, 3) := by decide +kernel
theorem d_M_watch_29 : decode prog_14_method_106_code 29 = .ok (.aload_n 0, 1) := by decide +kernel
theorem d_M_watch_30 : decode prog_14_method_106_code 30 = .ok (.iconst 2, 1) := by decide +kernel
theorem d_M_watch_31 : decode prog_14_method_106_code 31 = .ok (.invokevirtual 367, 3) := by decide +kernel
theorem d_M_watch_34 : decode prog_14_method_106_code 34 = .ok (.ireturn, 1) := by decide +kernel
theorem d_M_watch_35 : decode prog_14_method_106_code 35 = .ok (.iload_n 2, 1) := by decide +kernel
theorem d_M_watch_36 : decode prog_14_method_106_code 36 = .ok (.ifCond .ne 16, 3) := by decide +kernel
theorem d_M_watch_39 : decode prog_14_method_106_code 39 = .ok (.aload_n 0, 1) := by decide +kernel
theorem d_M_watch_40 : decode prog_14_method_106_code 40 = .ok (.getfield 35, 3) := by decide +kernel
theorem d_M_watch_43 : decode prog_14_method_106_code 43 = .ok (.sipush 282, 3) := by decide +kernel
theorem d_M_watch_46 : decode prog_14_method_106_code 46 = .ok (.iload_n 1, 1) := by decide +kernel
theorem d_M_watch_47 : decode prog_14_method_106_code 47 = .ok (.iadd, 1) := by decide +kernel
theorem d_M_watch_48 : decode prog_14_method_106_code 48 = .ok (.iaload, 1) := by decide +kernel
theorem d_M_watch_49 : decode prog_14_method_106_code 49 = .ok (.goto 26, 3) := by decide +kernel
theorem d_M_watch_52 : decode prog_14_method_106_code 52 = .ok (.iload_n 2, 1) := by decide +kernel
theorem d_M_watch_53 : decode prog_14_method_106_code 53 = .ok (.iconst 1, 1) := by decide +kernel
theorem d_M_watch_54 : decode prog_14_method_106_code 54 = .ok (.if_icmp .ne 16, 3) := by decide +kernel
theorem d_M_watch_57 : decode prog_14_method_106_code 57 = .ok (.aload_n 0, 1) := by decide +kernel
theorem d_M_watch_58 : decode prog_14_method_106_code 58 = .ok (.getfield 35, 3) := by decide +kernel
theorem d_M_watch_61 : decode prog_14_method_106_code 61 = .ok (.sipush 290, 3) := by decide +kernel
theorem d_M_watch_64 : decode prog_14_method_106_code 64 = .ok (.iload_n 1, 1) := by decide +kernel
theorem d_M_watch_65 : decode prog_14_method_106_code 65 = .ok (.iadd, 1) := by decide +kernel
theorem d_M_watch_66 : decode prog_14_method_106_code 66 = .ok (.iaload, 1) := by decide +kernel
theorem d_M_watch_67 : decode prog_14_method_106_code 67 = .ok (.goto 8, 3) := by decide +kernel
theorem d_M_watch_70 : decode prog_14_method_106_code 70 = .ok (.aload_n 0, 1) := by decide +kernel
theorem d_M_watch_71 : decode prog_14_method_106_code 71 = .ok (.iconst 5, 1) := by decide +kernel
theorem d_M_watch_72 : decode prog_14_method_106_code 72 = .ok (.invokevirtual 367, 3) := by decide +kernel
theorem d_M_watch_75 : decode prog_14_method_106_code 75 = .ok (.ireturn, 1) := by decide +kernel
def M_watch (Y : Ly) (l0 : Nat) (l1 : Int32) (l2 : Int32) (h : Hp) : Option (Int32 × Hp) :=
  letH (hSi h 1201 l0 0) fun h1 =>
  letH (hSi h1 1200 l0 0) fun h2 =>
  if inB 7 (lnY Y (hGr h2 1220 l0)) = true then
    (M_isIn Y (Int32.toInt64 l1) 0 (Int32.toInt64 ((hAi h2 (hGr h2 1220 l0) (Int32.toNatClampNeg 7)) - 1)) h2).bind fun q5 =>
    if q5 = true then
      if l2 = 0 then
        if inB (282 + l1) (lnY Y (hGr h2 1220 l0)) = true then
          some (hAi h2 (hGr h2 1220 l0) (Int32.toNatClampNeg (282 + l1)), h2)
        else none
      else
        if l2 = 1 then
          if inB (290 + l1) (lnY Y (hGr h2 1220 l0)) = true then
            some (hAi h2 (hGr h2 1220 l0) (Int32.toNatClampNeg (290 + l1)), h2)
          else none
        else
          (M_refuse Y l0 5 h2).bind fun q13 =>
          some (q13.1, q13.2)
    else
      (M_refuse Y l0 2 h2).bind fun q14 =>
      some (q14.1, q14.2)
  else none
theorem ok_M_watch (Y : Ly) (l0 : Nat) (l1 : Int32) (l2 : Int32) (h : Hp) (t0 : isO Y 12 l0) : AM Y 1 K_M_watch [.ref l0, .int l1, .int l2] h (M_watch Y l0 l1 l2 h) rI := by
  refine AM.of rfl (Nat.le_of_ble_eq_true rfl) ?_
  show AW Y 1 K_M_watch 0 [(0, .ref l0), (1, .int l1), (2, .int l2)] [] h (M_watch Y l0 l1 l2 h) rI
  unfold M_watch
  refine aw_aload_n (pc := 0) d_M_watch_0 rfl 0 rfl ?_
  refine aw_iconst (pc := 1) (x := 0) d_M_watch_1 (by decide) ?_
  refine pt_1201 (pc := 2) d_M_watch_2 w7_28 t0 ?_
  refine aw_letH (fun h1 => ?_)
  refine aw_aload_n (pc := 5) d_M_watch_5 rfl 0 rfl ?_
  refine aw_iconst (pc := 6) (x := 0) d_M_watch_6 (by decide) ?_
  refine pt_1200 (pc := 7) d_M_watch_7 w7_27 t0 ?_
  refine aw_letH (fun h2 => ?_)
  refine aw_iload_n (pc := 10) d_M_watch_10 rfl 1 rfl ?_
  refine aw_i2l (pc := 11) d_M_watch_11 ?_
  refine aw_lconst (pc := 12) (x := 0) d_M_watch_12 (by decide) ?_
  refine aw_aload_n (pc := 13) d_M_watch_13 rfl 0 rfl ?_
  refine gt_1220 (pc := 14) d_M_watch_14 w7_47 t0 (fun tt3 => ?_)
  refine aw_bipush (pc := 17) (x := 7) d_M_watch_17 (by decide) ?_
  refine aw_iaload (pc := 19) d_M_watch_19 tt3 (fun c4 => ?_)
  refine aw_iconst (pc := 20) (x := 1) d_M_watch_20 (by decide) ?_
  refine aw_isub (pc := 21) d_M_watch_21 ?_
  refine aw_i2l (pc := 22) d_M_watch_22 ?_
  refine aw_cSpZ (pc := 23) (As := [.long (Int32.toInt64 l1), .long 0, .long (Int32.toInt64 ((hAi h2 (hGr h2 1220 l0) (Int32.toNatClampNeg 7)) - 1))]) (st := []) (ok_M_isIn Y (Int32.toInt64 l1) 0 (Int32.toInt64 ((hAi h2 (hGr h2 1220 l0) (Int32.toNatClampNeg 7)) - 1)) h2) okS_M_isIn w8_155 d_M_watch_23 rfl (Nat.le_of_ble_eq_true rfl) rfl (Nat.le_of_ble_eq_true rfl) (fun q5 hq5 hTq5 => ?_)
  refine aw_bne (pc := 26) (tgt := 35) d_M_watch_26 (by decide) (fun c6 => ?_) (fun c6 => ?_)
  · refine aw_iload_n (pc := 35) d_M_watch_35 rfl 2 rfl ?_
    refine aw_if_ne (pc := 36) (tgt := 52) d_M_watch_36 (by decide) (fun c7 => ?_) (fun c7 => ?_)
    · refine aw_aload_n (pc := 39) d_M_watch_39 rfl 0 rfl ?_
      refine gt_1220 (pc := 40) d_M_watch_40 w7_47 t0 (fun tt8 => ?_)
      refine aw_sipush (pc := 43) (x := 282) d_M_watch_43 (by decide) ?_
      refine aw_iload_n (pc := 46) d_M_watch_46 rfl 1 rfl ?_
      refine aw_iadd (pc := 47) d_M_watch_47 ?_
      refine aw_iaload (pc := 48) d_M_watch_48 tt8 (fun c9 => ?_)
      refine aw_goto (pc := 49) (tgt := 75) d_M_watch_49 (by decide) ?_
      exact aw_ireturn (pc := 75) d_M_watch_75 rfl rfl
    · refine aw_iload_n (pc := 52) d_M_watch_52 rfl 2 rfl ?_
      refine aw_iconst (pc := 53) (x := 1) d_M_watch_53 (by decide) ?_
      refine aw_icmp_ne (pc := 54) (tgt := 70) d_M_watch_54 (by decide) (fun c10 => ?_) (fun c10 => ?_)
      · refine aw_aload_n (pc := 57) d_M_watch_57 rfl 0 rfl ?_
        refine gt_1220 (pc := 58) d_M_watch_58 w7_47 t0 (fun tt11 => ?_)
        refine aw_sipush (pc := 61) (x := 290) d_M_watch_61 (by decide) ?_
        refine aw_iload_n (pc := 64) d_M_watch_64 rfl 1 rfl ?_
        refine aw_iadd (pc := 65) d_M_watch_65 ?_
        refine aw_iaload (pc := 66) d_M_watch_66 tt11 (fun c12 => ?_)
        refine aw_goto (pc := 67) (tgt := 75) d_M_watch_67 (by decide) ?_
        exact aw_ireturn (pc := 75) d_M_watch_75 rfl rfl
      · refine aw_aload_n (pc := 70) d_M_watch_70 rfl 0 rfl ?_
        refine aw_iconst (pc := 71) (x := 5) d_M_watch_71 (by decide) ?_
        refine aw_cVrI (pc := 72) (ci := 12) (T := TX12) (N := 44) (As := [.int 5]) (st := []) (ok_M_refuse Y l0 5 h2 t0) okV_M_refuse rfl (by decide) t0 w9_8 d_M_watch_72 rfl (Nat.le_of_ble_eq_true rfl) rfl (Nat.le_of_ble_eq_true rfl) (fun q13 hq13 hTq13 => ?_)
        exact aw_ireturn (pc := 75) d_M_watch_75 rfl rfl
  · refine aw_aload_n (pc := 29) d_M_watch_29 rfl 0 rfl ?_
    refine aw_iconst (pc := 30) (x := 2) d_M_watch_30 (by decide) ?_
    refine aw_cVrI (pc := 31) (ci := 12) (T := TX12) (N := 44) (As := [.int 2]) (st := []) (ok_M_refuse Y l0 2 h2 t0) okV_M_refuse rfl (by decide) t0 w9_8 d_M_watch_31 rfl (Nat.le_of_ble_eq_true rfl) rfl (Nat.le_of_ble_eq_true rfl) (fun q14 hq14 hTq14 => ?_)
    exact aw_ireturn (pc := 34) d_M_watch_34 rfl rfl
/-! LastPagesModel.waysFrom(II)J -/
theorem d_M_waysFrom_0 : decode prog_14_method_142_code 0 = .ok (.iload_n 1, 1) := by decide +kernel
theorem d_M_waysFrom_1 : decode prog_14_method_142_code 1 = .ok (.aload_n 0, 1) := by decide +kernel
theorem d_M_waysFrom_2 : decode prog_14_method_142_code 2 = .ok (.getfield 35, 3) := by decide +kernel
theorem d_M_waysFrom_5 : decode prog_14_method_142_code 5 = .ok (.iconst 2, 1) := by decide +kernel
theorem d_M_waysFrom_6 : decode prog_14_method_142_code 6 = .ok (.iaload, 1) := by decide +kernel
theorem d_M_waysFrom_7 : decode prog_14_method_142_code 7 = .ok (.if_icmp .ne 5, 3) := by decide +kernel
theorem d_M_waysFrom_10 : decode prog_14_method_142_code 10 = .ok (.lconst 1, 1) := by decide +kernel
theorem d_M_waysFrom_11 : decode prog_14_method_142_code 11 = .ok (.lreturn, 1) := by decide +kernel
theorem d_M_waysFrom_12 : decode prog_14_method_142_code 12 = .ok (.lconst 0, 1) := by decide +kernel
theorem d_M_waysFrom_13 : decode prog_14_method_142_code 13 = .ok (.lstore_n 3, 1) := by decide +kernel
theorem d_M_waysFrom_14 : decode prog_14_method_142_code 14 = .ok (.iconst 0, 1) := by decide +kernel
theorem d_M_waysFrom_15 : decode prog_14_method_142_code 15 = .ok (.istore 5, 2) := by decide +kernel
theorem d_M_waysFrom_17 : decode prog_14_method_142_code 17 = .ok (.iload 5, 2) := by decide +kernel
theorem d_M_waysFrom_19 : decode prog_14_method_142_code 19 = .ok (.aload_n 0, 1) := by decide +kernel
theorem d_M_waysFrom_20 : decode prog_14_method_142_code 20 = .ok (.getfield 35, 3) := by decide +kernel
theorem d_M_waysFrom_23 : decode prog_14_method_142_code 23 = .ok (.iconst 3, 1) := by decide +kernel
theorem d_M_waysFrom_24 : decode prog_14_method_142_code 24 = .ok (.iaload, 1) := by decide +kernel
theorem d_M_waysFrom_25 : decode prog_14_method_142_code 25 = .ok (.if_icmp .ge 43, 3) := by decide +kernel
theorem d_M_waysFrom_28 : decode prog_14_method_142_code 28 = .ok (.aload_n 0, 1) := by decide +kernel
theorem d_M_waysFrom_29 : decode prog_14_method_142_code 29 = .ok (.getfield 65, 3) := by decide +kernel
theorem d_M_waysFrom_32 : decode prog_14_method_142_code 32 = .ok (.iload_n 1, 1) := by decide +kernel
theorem d_M_waysFrom_33 : decode prog_14_method_142_code 33 = .ok (.iaload, 1) := by decide +kernel
theorem d_M_waysFrom_34 : decode prog_14_method_142_code 34 = .ok (.iload_n 2, 1) := by decide +kernel
theorem d_M_waysFrom_35 : decode prog_14_method_142_code 35 = .ok (.iand, 1) := by decide +kernel
theorem d_M_waysFrom_36 : decode prog_14_method_142_code 36 = .ok (.iload 5, 2) := by decide +kernel
theorem d_M_waysFrom_38 : decode prog_14_method_142_code 38 = .ok (.invokestatic 117, 3) := by decide +kernel
theorem d_M_waysFrom_41 : decode prog_14_method_142_code 41 = .ok (.ifCond .eq 21, 3) := by decide +kernel
theorem d_M_waysFrom_44 : decode prog_14_method_142_code 44 = .ok (.lload_n 3, 1) := by decide +kernel
theorem d_M_waysFrom_45 : decode prog_14_method_142_code 45 = .ok (.aload_n 0, 1) := by decide +kernel
theorem d_M_waysFrom_46 : decode prog_14_method_142_code 46 = .ok (.iload_n 1, 1) := by decide +kernel
theorem d_M_waysFrom_47 : decode prog_14_method_142_code 47 = .ok (.iconst 1, 1) := by decide +kernel
theorem d_M_waysFrom_48 : decode prog_14_method_142_code 48 = .ok (.iadd, 1) := by decide +kernel
theorem d_M_waysFrom_49 : decode prog_14_method_142_code 49 = .ok (.iload_n 2, 1) := by decide +kernel
theorem d_M_waysFrom_50 : decode prog_14_method_142_code 50 = .ok (.iconst 1, 1) := by decide +kernel
theorem d_M_waysFrom_51 : decode prog_14_method_142_code 51 = .ok (.iload 5, 2) := by decide +kernel
theorem d_M_waysFrom_53 : decode prog_14_method_142_code 53 = .ok (.ishl, 1) := by decide +kernel
theorem d_M_waysFrom_54 : decode prog_14_method_142_code 54 = .ok (.iconst (-1), 1) := by decide +kernel
theorem d_M_waysFrom_55 : decode prog_14_method_142_code 55 = .ok (.ixor, 1) := by decide +kernel
theorem d_M_waysFrom_56 : decode prog_14_method_142_code 56 = .ok (.iand, 1) := by decide +kernel
theorem d_M_waysFrom_57 : decode prog_14_method_142_code 57 = .ok (.invokevirtual 465, 3) := by decide +kernel
theorem d_M_waysFrom_60 : decode prog_14_method_142_code 60 = .ok (.ladd, 1) := by decide +kernel
theorem d_M_waysFrom_61 : decode prog_14_method_142_code 61 = .ok (.lstore_n 3, 1) := by decide +kernel
theorem d_M_waysFrom_62 : decode prog_14_method_142_code 62 = .ok (.iinc 5 1, 3) := by decide +kernel
theorem d_M_waysFrom_65 : decode prog_14_method_142_code 65 = .ok (.goto (-48), 3) := by decide +kernel
theorem d_M_waysFrom_68 : decode prog_14_method_142_code 68 = .ok (.lload_n 3, 1) := by decide +kernel
theorem d_M_waysFrom_69 : decode prog_14_method_142_code 69 = .ok (.lreturn, 1) := by decide +kernel
def M_waysFrom_L17 (Y : Ly) (rec_M_waysFrom : Nat → Int32 → Int32 → Hp → Option Int64) (l0 : Nat) (l1 : Int32) (l2 : Int32) (h : Hp) : Nat → Int64 → Int32 → Option Int64
  | 0, _, _ => none
  | F + 1, l3, l5 =>
    if inB 3 (lnY Y (hGr h 1220 l0)) = true then
      if (hAi h (hGr h 1220 l0) (Int32.toNatClampNeg 3)) ≤ l5 then
        some l3
      else
        if inB l1 (lnY Y (hGr h 1232 l0)) = true then
          (M_has Y ((hAi h (hGr h 1232 l0) (Int32.toNatClampNeg l1)) &&& l2) l5 h).bind fun q9 =>
          if q9 = true then
            (rec_M_waysFrom l0 (l1 + 1) (l2 &&& (((1 : Int32) <<< (l5 &&& 31)) ^^^ (-1))) h).bind fun q11 =>
            M_waysFrom_L17 Y rec_M_waysFrom l0 l1 l2 h F (l3 + q11) (l5 + 1)
          else
            M_waysFrom_L17 Y rec_M_waysFrom l0 l1 l2 h F l3 (l5 + 1)
        else none
    else none
theorem M_waysFrom_L17_ok (Y : Ly) {n n0 : Nat} (hn0 : n0 + 1 ≤ n) (hn1 : 1 ≤ n) (rec_M_waysFrom : Nat → Int32 → Int32 → Hp → Option Int64) (hrec_M_waysFrom : ∀ (x0 : Nat) (x1 : Int32) (x2 : Int32) (h : Hp), isO Y 12 x0 → AM Y n0 K_M_waysFrom [.ref x0, .int x1, .int x2] h (rec_M_waysFrom x0 x1 x2 h) (pL h)) (l0 : Nat) (l1 : Int32) (l2 : Int32) (h : Hp) (tl0 : isO Y 12 l0) : ∀ (F : Nat) (l3 : Int64) (l5 : Int32), AW Y n K_M_waysFrom 17 [(0, .ref l0), (1, .int l1), (2, .int l2), (3, .long l3), (5, .int l5)] [] h (M_waysFrom_L17 Y rec_M_waysFrom l0 l1 l2 h F l3 l5) (pL h) := by
  intro F
  induction F with
  | zero =>
    intro l3 l5
    exact aw_none
  | succ F ih =>
    intro l3 l5
    unfold M_waysFrom_L17
    refine aw_iload (pc := 17) d_M_waysFrom_17 4 rfl ?_
    refine aw_aload_n (pc := 19) d_M_waysFrom_19 rfl 0 rfl ?_
    refine gt_1220 (pc := 20) d_M_waysFrom_20 w7_47 tl0 (fun tt4 => ?_)
    refine aw_iconst (pc := 23) (x := 3) d_M_waysFrom_23 (by decide) ?_
    refine aw_iaload (pc := 24) d_M_waysFrom_24 tt4 (fun c5 => ?_)
    refine aw_icmp_ge (pc := 25) (tgt := 68) d_M_waysFrom_25 (by decide) (fun c6 => ?_) (fun c6 => ?_)
    · refine aw_lload_n (pc := 68) d_M_waysFrom_68 rfl 3 rfl ?_
      exact aw_lreturn (pc := 69) d_M_waysFrom_69 rfl rfl
    · refine aw_aload_n (pc := 28) d_M_waysFrom_28 rfl 0 rfl ?_
      refine gt_1232 (pc := 29) d_M_waysFrom_29 w7_59 tl0 (fun tt7 => ?_)
      refine aw_iload_n (pc := 32) d_M_waysFrom_32 rfl 1 rfl ?_
      refine aw_iaload (pc := 33) d_M_waysFrom_33 tt7 (fun c8 => ?_)
      refine aw_iload_n (pc := 34) d_M_waysFrom_34 rfl 2 rfl ?_
      refine aw_iand (pc := 35) d_M_waysFrom_35 ?_
      refine aw_iload (pc := 36) d_M_waysFrom_36 4 rfl ?_
      refine aw_cSpZ (pc := 38) (As := [.int ((hAi h (hGr h 1232 l0) (Int32.toNatClampNeg l1)) &&& l2), .int l5]) (st := []) (ok_M_has Y ((hAi h (hGr h 1232 l0) (Int32.toNatClampNeg l1)) &&& l2) l5 h) okS_M_has w9_110 d_M_waysFrom_38 rfl (by omega) rfl (Nat.le_of_ble_eq_true rfl) (fun q9 hq9 hTq9 => ?_)
      refine aw_beq (pc := 41) (tgt := 62) d_M_waysFrom_41 (by decide) (fun c10 => ?_) (fun c10 => ?_)
      · refine aw_lload_n (pc := 44) d_M_waysFrom_44 rfl 3 rfl ?_
        refine aw_aload_n (pc := 45) d_M_waysFrom_45 rfl 0 rfl ?_
        refine aw_iload_n (pc := 46) d_M_waysFrom_46 rfl 1 rfl ?_
        refine aw_iconst (pc := 47) (x := 1) d_M_waysFrom_47 (by decide) ?_
        refine aw_iadd (pc := 48) d_M_waysFrom_48 ?_
        refine aw_iload_n (pc := 49) d_M_waysFrom_49 rfl 2 rfl ?_
        refine aw_iconst (pc := 50) (x := 1) d_M_waysFrom_50 (by decide) ?_
        refine aw_iload (pc := 51) d_M_waysFrom_51 4 rfl ?_
        refine aw_ishl (pc := 53) d_M_waysFrom_53 ?_
        refine aw_iconst (pc := 54) (x := (-1)) d_M_waysFrom_54 (by decide) ?_
        refine aw_ixor (pc := 55) d_M_waysFrom_55 ?_
        refine aw_iand (pc := 56) d_M_waysFrom_56 ?_
        refine aw_cVpL (pc := 57) (ci := 12) (T := TX12) (N := 44) (As := [.int (l1 + 1), .int (l2 &&& (((1 : Int32) <<< (l5 &&& 31)) ^^^ (-1)))]) (st := [.long l3]) (hrec_M_waysFrom l0 (l1 + 1) (l2 &&& (((1 : Int32) <<< (l5 &&& 31)) ^^^ (-1))) h tl0) okV_M_waysFrom rfl (by decide) tl0 w10_12 d_M_waysFrom_57 rfl hn0 rfl (Nat.le_of_ble_eq_true rfl) (fun q11 hq11 hTq11 => ?_)
        refine aw_ladd (pc := 60) d_M_waysFrom_60 ?_
        refine aw_lstore_n (pc := 61) (lv' := [(3, .long (l3 + q11)), (0, .ref l0), (1, .int l1), (2, .int l2), (5, .int l5)]) d_M_waysFrom_61 rfl (by decide) rfl ?_
        refine aw_iinc (pc := 62) (w := l5 + 1) (lv' := [(5, .int (l5 + 1)), (3, .long (l3 + q11)), (0, .ref l0), (1, .int l1), (2, .int l2)]) d_M_waysFrom_62 4 rfl rfl (by decide) rfl ?_
        refine aw_goto (pc := 65) (tgt := 17) d_M_waysFrom_65 (by decide) ?_
        exact aw_lv [2, 3, 4, 1, 0] rfl (ih (l3 + q11) (l5 + 1))
      · refine aw_iinc (pc := 62) (w := l5 + 1) (lv' := [(5, .int (l5 + 1)), (0, .ref l0), (1, .int l1), (2, .int l2), (3, .long l3)]) d_M_waysFrom_62 4 rfl rfl (by decide) rfl ?_
        refine aw_goto (pc := 65) (tgt := 17) d_M_waysFrom_65 (by decide) ?_
        exact aw_lv [1, 2, 3, 4, 0] rfl (ih l3 (l5 + 1))
def M_waysFrom_b (Y : Ly) (rec_M_waysFrom : Nat → Int32 → Int32 → Hp → Option Int64) (l0 : Nat) (l1 : Int32) (l2 : Int32) (h : Hp) : Option Int64 :=
  if inB 2 (lnY Y (hGr h 1220 l0)) = true then
    if l1 = (hAi h (hGr h 1220 l0) (Int32.toNatClampNeg 2)) then
      some 1
    else
      M_waysFrom_L17 Y rec_M_waysFrom l0 l1 l2 h FU 0 0
  else none
theorem ok_M_waysFrom_b (Y : Ly) {n n0 : Nat} (hn0 : n0 + 1 ≤ n) (hn1 : 1 ≤ n) (rec_M_waysFrom : Nat → Int32 → Int32 → Hp → Option Int64) (hrec_M_waysFrom : ∀ (x0 : Nat) (x1 : Int32) (x2 : Int32) (h : Hp), isO Y 12 x0 → AM Y n0 K_M_waysFrom [.ref x0, .int x1, .int x2] h (rec_M_waysFrom x0 x1 x2 h) (pL h)) (l0 : Nat) (l1 : Int32) (l2 : Int32) (h : Hp) (t0 : isO Y 12 l0) : AM Y n K_M_waysFrom [.ref l0, .int l1, .int l2] h (M_waysFrom_b Y rec_M_waysFrom l0 l1 l2 h) (pL h) := by
  refine AM.of rfl (Nat.le_of_ble_eq_true rfl) ?_
  show AW Y n K_M_waysFrom 0 [(0, .ref l0), (1, .int l1), (2, .int l2)] [] h (M_waysFrom_b Y rec_M_waysFrom l0 l1 l2 h) (pL h)
  unfold M_waysFrom_b
  refine aw_iload_n (pc := 0) d_M_waysFrom_0 rfl 1 rfl ?_
  refine aw_aload_n (pc := 1) d_M_waysFrom_1 rfl 0 rfl ?_
  refine gt_1220 (pc := 2) d_M_waysFrom_2 w7_47 t0 (fun tt1 => ?_)
  refine aw_iconst (pc := 5) (x := 2) d_M_waysFrom_5 (by decide) ?_
  refine aw_iaload (pc := 6) d_M_waysFrom_6 tt1 (fun c2 => ?_)
  refine aw_icmp_ne (pc := 7) (tgt := 12) d_M_waysFrom_7 (by decide) (fun c3 => ?_) (fun c3 => ?_)
  · refine aw_lconst (pc := 10) (x := 1) d_M_waysFrom_10 (by decide) ?_
    exact aw_lreturn (pc := 11) d_M_waysFrom_11 rfl rfl
  · refine aw_lconst (pc := 12) (x := 0) d_M_waysFrom_12 (by decide) ?_
    refine aw_lstore_n (pc := 13) (lv' := [(3, .long 0), (0, .ref l0), (1, .int l1), (2, .int l2)]) d_M_waysFrom_13 rfl (by decide) rfl ?_
    refine aw_iconst (pc := 14) (x := 0) d_M_waysFrom_14 (by decide) ?_
    refine aw_istore (pc := 15) (lv' := [(5, .int 0), (3, .long 0), (0, .ref l0), (1, .int l1), (2, .int l2)]) d_M_waysFrom_15 (by decide) rfl ?_
    exact aw_lv [2, 3, 4, 1, 0] rfl (M_waysFrom_L17_ok Y hn0 hn1 rec_M_waysFrom hrec_M_waysFrom l0 l1 l2 h t0 FU 0 0)
def M_waysFrom (Y : Ly) : Nat → Nat → Int32 → Int32 → Hp → Option Int64
  | 0, _, _, _, _ => none
  | d + 1, l0, l1, l2, h => M_waysFrom_b Y (M_waysFrom Y d) l0 l1 l2 h
theorem ok_M_waysFrom (Y : Ly) : ∀ (d : Nat) (l0 : Nat) (l1 : Int32) (l2 : Int32) (h : Hp), isO Y 12 l0 → AM Y (1 + d) K_M_waysFrom [.ref l0, .int l1, .int l2] h (M_waysFrom Y d l0 l1 l2 h) (pL h)
  | 0, l0, l1, l2, h, _ => fun x hx => by cases hx
  | d + 1, l0, l1, l2, h, t0 => ok_M_waysFrom_b Y (n := 1 + (d + 1)) (n0 := 1 + d) (by omega) (by omega) (M_waysFrom Y d) (fun x0 x1 x2 h tx => ok_M_waysFrom Y d x0 x1 x2 h tx) l0 l1 l2 h t0
/-! LastPagesModel.ways()J -/
theorem d_M_ways_0 : decode prog_14_method_145_code 0 = .ok (.aload_n 0, 1) := by decide +kernel
theorem d_M_ways_1 : decode prog_14_method_145_code 1 = .ok (.iconst 0, 1) := by decide +kernel
theorem d_M_ways_2 : decode prog_14_method_145_code 2 = .ok (.putfield 78, 3) := by decide +kernel
theorem d_M_ways_5 : decode prog_14_method_145_code 5 = .ok (.aload_n 0, 1) := by decide +kernel
theorem d_M_ways_6 : decode prog_14_method_145_code 6 = .ok (.iconst 0, 1) := by decide +kernel
theorem d_M_ways_7 : decode prog_14_method_145_code 7 = .ok (.putfield 81, 3) := by decide +kernel
theorem d_M_ways_10 : decode prog_14_method_145_code 10 = .ok (.aload_n 0, 1) := by decide +kernel
theorem d_M_ways_11 : decode prog_14_method_145_code 11 = .ok (.invokevirtual 468, 3) := by decide +kernel
theorem d_M_ways_14 : decode prog_14_method_145_code 14 = .ok (.aload_n 0, 1) := by decide +kernel
theorem d_M_ways_15 : decode prog_14_method_145_code 15 = .ok (.iconst 0, 1) := by decide +kernel
theorem d_M_ways_16 : decode prog_14_method_145_code 16 = .ok (.sipush 255, 3) := by decide +kernel
theorem d_M_ways_19 : decode prog_14_method_145_code 19 = .ok (.invokevirtual 465, 3) := by decide +kernel
theorem d_M_ways_22 : decode prog_14_method_145_code 22 = .ok (.lreturn, 1) := by decide +kernel
def M_ways (Y : Ly) (l0 : Nat) (h : Hp) : Option (Int64 × Hp) :=
  letH (hSi h 1201 l0 0) fun h1 =>
  letH (hSi h1 1200 l0 0) fun h2 =>
  (M_laysFits Y l0 h2).bind fun q3 =>
  (M_waysFrom Y 8 l0 0 255 q3).bind fun q4 =>
  some (q4, q3)
theorem ok_M_ways (Y : Ly) (l0 : Nat) (h : Hp) (t0 : isO Y 12 l0) : AM Y 20 K_M_ways [.ref l0] h (M_ways Y l0 h) rL := by
  refine AM.of rfl (Nat.le_of_ble_eq_true rfl) ?_
  show AW Y 20 K_M_ways 0 [(0, .ref l0)] [] h (M_ways Y l0 h) rL
  unfold M_ways
  refine aw_aload_n (pc := 0) d_M_ways_0 rfl 0 rfl ?_
  refine aw_iconst (pc := 1) (x := 0) d_M_ways_1 (by decide) ?_
  refine pt_1201 (pc := 2) d_M_ways_2 w7_28 t0 ?_
  refine aw_letH (fun h1 => ?_)
  refine aw_aload_n (pc := 5) d_M_ways_5 rfl 0 rfl ?_
  refine aw_iconst (pc := 6) (x := 0) d_M_ways_6 (by decide) ?_
  refine pt_1200 (pc := 7) d_M_ways_7 w7_27 t0 ?_
  refine aw_letH (fun h2 => ?_)
  refine aw_aload_n (pc := 10) d_M_ways_10 rfl 0 rfl ?_
  refine aw_cVrV (pc := 11) (ci := 12) (T := TX12) (N := 44) (As := []) (st := []) (ok_M_laysFits Y l0 h2 t0) okV_M_laysFits rfl (by decide) t0 w10_0 d_M_ways_11 rfl (Nat.le_of_ble_eq_true rfl) rfl (Nat.le_of_ble_eq_true rfl) (fun q3 hq3 hTq3 => ?_)
  refine aw_aload_n (pc := 14) d_M_ways_14 rfl 0 rfl ?_
  refine aw_iconst (pc := 15) (x := 0) d_M_ways_15 (by decide) ?_
  refine aw_sipush (pc := 16) (x := 255) d_M_ways_16 (by decide) ?_
  refine aw_cVpL (pc := 19) (ci := 12) (T := TX12) (N := 44) (As := [.int 0, .int 255]) (st := []) (ok_M_waysFrom Y 8 l0 0 255 q3 t0) okV_M_waysFrom rfl (by decide) t0 w10_12 d_M_ways_19 rfl (Nat.le_of_ble_eq_true rfl) rfl (Nat.le_of_ble_eq_true rfl) (fun q4 hq4 hTq4 => ?_)
  exact aw_lreturn (pc := 22) d_M_ways_22 rfl rfl
/-! LastPagesModel.weeks(I)I -/
theorem d_M_weeks_0 : decode prog_14_method_89_code 0 = .ok (.aload_n 0, 1) := by decide +kernel
theorem d_M_weeks_1 : decode prog_14_method_89_code 1 = .ok (.iconst 0, 1) := by decide +kernel
theorem d_M_weeks_2 : decode prog_14_method_89_code 2 = .ok (.putfield 78, 3) := by decide +kernel
theorem d_M_weeks_5 : decode prog_14_method_89_code 5 = .ok (.aload_n 0, 1) := by decide +kernel
theorem d_M_weeks_6 : decode prog_14_method_89_code 6 = .ok (.iconst 0, 1) := by decide +kernel
theorem d_M_weeks_7 : decode prog_14_method_89_code 7 = .ok (.putfield 81, 3) := by decide +kernel
theorem d_M_weeks_10 : decode prog_14_method_89_code 10 = .ok (.aload_n 0, 1) := by decide +kernel
theorem d_M_weeks_11 : decode prog_14_method_89_code 11 = .ok (.iload_n 1, 1) := by decide +kernel
theorem d_M_weeks_12 : decode prog_14_method_89_code 12 = .ok (.sipush 300, 3) := by decide +kernel
theorem d_M_weeks_15 : decode prog_14_method_89_code 15 = .ok (.invokevirtual 338, 3) := by decide +kernel
theorem d_M_weeks_18 : decode prog_14_method_89_code 18 = .ok (.ifCond .ne 5, 3) := by decide +kernel
theorem d_M_weeks_21 : decode prog_14_method_89_code 21 = .ok (.iconst (-1), 1) := by decide +kernel
theorem d_M_weeks_22 : decode prog_14_method_89_code 22 = .ok (.ireturn, 1) := by decide +kernel
theorem d_M_weeks_23 : decode prog_14_method_89_code 23 = .ok (.aload_n 0, 1) := by decide +kernel
theorem d_M_weeks_24 : decode prog_14_method_89_code 24 = .ok (.iconst 0, 1) := by decide +kernel
theorem d_M_weeks_25 : decode prog_14_method_89_code 25 = .ok (.putfield 356, 3) := by decide +kernel
theorem d_M_weeks_28 : decode prog_14_method_89_code 28 = .ok (.aload_n 0, 1) := by decide +kernel
theorem d_M_weeks_29 : decode prog_14_method_89_code 29 = .ok (.getfield 245, 3) := by decide +kernel
theorem d_M_weeks_32 : decode prog_14_method_89_code 32 = .ok (.ifCond .ne 18, 3) := by decide +kernel
theorem d_M_weeks_35 : decode prog_14_method_89_code 35 = .ok (.aload_n 0, 1) := by decide +kernel
theorem d_M_weeks_36 : decode prog_14_method_89_code 36 = .ok (.getfield 133, 3) := by decide +kernel
theorem d_M_weeks_39 : decode prog_14_method_89_code 39 = .ok (.ifCond .eq 11, 3) := by decide +kernel
theorem d_M_weeks_42 : decode prog_14_method_89_code 42 = .ok (.aload_n 0, 1) := by decide +kernel
theorem d_M_weeks_43 : decode prog_14_method_89_code 43 = .ok (.iconst 0, 1) := by decide +kernel
theorem d_M_weeks_44 : decode prog_14_method_89_code 44 = .ok (.invokevirtual 362, 3) := by decide +kernel
theorem d_M_weeks_47 : decode prog_14_method_89_code 47 = .ok (.goto (-19), 3) := by decide +kernel
theorem d_M_weeks_50 : decode prog_14_method_89_code 50 = .ok (.aload_n 0, 1) := by decide +kernel
theorem d_M_weeks_51 : decode prog_14_method_89_code 51 = .ok (.invokevirtual 347, 3) := by decide +kernel
theorem d_M_weeks_54 : decode prog_14_method_89_code 54 = .ok (.ifCond .ne 5, 3) := by decide +kernel
theorem d_M_weeks_57 : decode prog_14_method_89_code 57 = .ok (.iconst (-1), 1) := by decide +kernel
theorem d_M_weeks_58 : decode prog_14_method_89_code 58 = .ok (.ireturn, 1) := by decide +kernel
theorem d_M_weeks_59 : decode prog_14_method_89_code 59 = .ok (.aload_n 0, 1) := by decide +kernel
theorem d_M_weeks_60 : decode prog_14_method_89_code 60 = .ok (.getfield 35, 3) := by decide +kernel
theorem d_M_weeks_63 : decode prog_14_method_89_code 63 = .ok (.sipush 304, 3) := by decide +kernel
theorem d_M_weeks_66 : decode prog_14_method_89_code 66 = .ok (.iconst 1, 1) := by decide +kernel
theorem d_M_weeks_67 : decode prog_14_method_89_code 67 = .ok (.iastore, 1) := by decide +kernel
theorem d_M_weeks_68 : decode prog_14_method_89_code 68 = .ok (.aload_n 0, 1) := by decide +kernel
theorem d_M_weeks_69 : decode prog_14_method_89_code 69 = .ok (.getfield 35, 3) := by decide +kernel
theorem d_M_weeks_72 : decode prog_14_method_89_code 72 = .ok (.sipush 305, 3) := by decide +kernel
theorem d_M_weeks_75 : decode prog_14_method_89_code 75 = .ok (.aload_n 0, 1) := by decide +kernel
theorem d_M_weeks_76 : decode prog_14_method_89_code 76 = .ok (.getfield 356, 3) := by decide +kernel
theorem d_M_weeks_79 : decode prog_14_method_89_code 79 = .ok (.iastore, 1) := by decide +kernel
theorem d_M_weeks_80 : decode prog_14_method_89_code 80 = .ok (.iconst 0, 1) := by decide +kernel
theorem d_M_weeks_81 : decode prog_14_method_89_code 81 = .ok (.istore_n 2, 1) := by decide +kernel
theorem d_M_weeks_82 : decode prog_14_method_89_code 82 = .ok (.iload_n 2, 1) := by decide +kernel
theorem d_M_weeks_83 : decode prog_14_method_89_code 83 = .ok (.bipush 9, 2) := by decide +kernel
theorem d_M_weeks_85 : decode prog_14_method_89_code 85 = .ok (.aload_n 0, 1) := by decide +kernel
theorem d_M_weeks_86 : decode prog_14_method_89_code 86 = .ok (.getfield 356, 3) := by decide +kernel
theorem d_M_weeks_89 : decode prog_14_method_89_code 89 = .ok (.imul, 1) := by decide +kernel
theorem d_M_weeks_90 : decode prog_14_method_89_code 90 = .ok (.if_icmp .ge 29, 3) := by decide +kernel
theorem d_M_weeks_93 : decode prog_14_method_89_code 93 = .ok (.aload_n 0, 1) := by decide +kernel
theorem d_M_weeks_94 : decode prog_14_method_89_code 94 = .ok (.getfield 35, 3) := by decide +kernel
theorem d_M_weeks_97 : decode prog_14_method_89_code 97 = .ok (.sipush 306, 3) := by decide +kernel
theorem d_M_weeks_100 : decode prog_14_method_89_code 100 = .ok (.iload_n 2, 1) := by decide +kernel
theorem d_M_weeks_101 : decode prog_14_method_89_code 101 = .ok (.iadd, 1) := by decide +kernel
theorem d_M_weeks_102 : decode prog_14_method_89_code 102 = .ok (.aload_n 0, 1) := by decide +kernel
theorem d_M_weeks_103 : decode prog_14_method_89_code 103 = .ok (.getfield 35, 3) := by decide +kernel
theorem d_M_weeks_106 : decode prog_14_method_89_code 106 = .ok (.sipush 2610, 3) := by decide +kernel
theorem d_M_weeks_109 : decode prog_14_method_89_code 109 = .ok (.iload_n 2, 1) := by decide +kernel
theorem d_M_weeks_110 : decode prog_14_method_89_code 110 = .ok (.iadd, 1) := by decide +kernel
theorem d_M_weeks_111 : decode prog_14_method_89_code 111 = .ok (.iaload, 1) := by decide +kernel
theorem d_M_weeks_112 : decode prog_14_method_89_code 112 = .ok (.iastore, 1) := by decide +kernel
theorem d_M_weeks_113 : decode prog_14_method_89_code 113 = .ok (.iinc 2 1, 3) := by decide +kernel
theorem d_M_weeks_116 : decode prog_14_method_89_code 116 = .ok (.goto (-34), 3) := by decide +kernel
theorem d_M_weeks_119 : decode prog_14_method_89_code 119 = .ok (.aload_n 0, 1) := by decide +kernel
theorem d_M_weeks_120 : decode prog_14_method_89_code 120 = .ok (.getfield 356, 3) := by decide +kernel
theorem d_M_weeks_123 : decode prog_14_method_89_code 123 = .ok (.ireturn, 1) := by decide +kernel
def M_weeks_L82 (Y : Ly) (l0 : Nat) : Nat → Int32 → Hp → Option (Int32 × Hp)
  | 0, _, _ => none
  | F + 1, l2, h =>
    if (9 * (hGi h 1224 l0)) ≤ l2 then
      some (hGi h 1224 l0, h)
    else
      if inB (2610 + l2) (lnY Y (hGr h 1220 l0)) = true then
        if inB (306 + l2) (lnY Y (hGr h 1220 l0)) = true then
          letH (hTi h (hGr h 1220 l0) (Int32.toNatClampNeg (306 + l2)) (hAi h (hGr h 1220 l0) (Int32.toNatClampNeg (2610 + l2)))) fun h21 =>
          M_weeks_L82 Y l0 F (l2 + 1) h21
        else none
      else none
theorem M_weeks_L82_ok (Y : Ly) (l0 : Nat) (tl0 : isO Y 12 l0) : ∀ (F : Nat) (l2 : Int32) (h : Hp), AW Y 24 K_M_weeks 82 [(0, .ref l0), (2, .int l2)] [] h (M_weeks_L82 Y l0 F l2 h) rI := by
  intro F
  induction F with
  | zero =>
    intro l2 h
    exact aw_none
  | succ F ih =>
    intro l2 h
    unfold M_weeks_L82
    refine aw_iload_n (pc := 82) d_M_weeks_82 rfl 1 rfl ?_
    refine aw_bipush (pc := 83) (x := 9) d_M_weeks_83 (by decide) ?_
    refine aw_aload_n (pc := 85) d_M_weeks_85 rfl 0 rfl ?_
    refine gt_1224 (pc := 86) d_M_weeks_86 w7_51 tl0 ?_
    refine aw_imul (pc := 89) d_M_weeks_89 ?_
    refine aw_icmp_ge (pc := 90) (tgt := 119) d_M_weeks_90 (by decide) (fun c16 => ?_) (fun c16 => ?_)
    · refine aw_aload_n (pc := 119) d_M_weeks_119 rfl 0 rfl ?_
      refine gt_1224 (pc := 120) d_M_weeks_120 w7_51 tl0 ?_
      exact aw_ireturn (pc := 123) d_M_weeks_123 rfl rfl
    · refine aw_aload_n (pc := 93) d_M_weeks_93 rfl 0 rfl ?_
      refine gt_1220 (pc := 94) d_M_weeks_94 w7_47 tl0 (fun tt17 => ?_)
      refine aw_sipush (pc := 97) (x := 306) d_M_weeks_97 (by decide) ?_
      refine aw_iload_n (pc := 100) d_M_weeks_100 rfl 1 rfl ?_
      refine aw_iadd (pc := 101) d_M_weeks_101 ?_
      refine aw_aload_n (pc := 102) d_M_weeks_102 rfl 0 rfl ?_
      refine gt_1220 (pc := 103) d_M_weeks_103 w7_47 tl0 (fun tt18 => ?_)
      refine aw_sipush (pc := 106) (x := 2610) d_M_weeks_106 (by decide) ?_
      refine aw_iload_n (pc := 109) d_M_weeks_109 rfl 1 rfl ?_
      refine aw_iadd (pc := 110) d_M_weeks_110 ?_
      refine aw_iaload (pc := 111) d_M_weeks_111 tt18 (fun c19 => ?_)
      refine aw_iastore (pc := 112) d_M_weeks_112 tt17 (fun c20 => ?_)
      refine aw_letH (fun h21 => ?_)
      refine aw_iinc (pc := 113) (w := l2 + 1) (lv' := [(2, .int (l2 + 1)), (0, .ref l0)]) d_M_weeks_113 1 rfl rfl (by decide) rfl ?_
      refine aw_goto (pc := 116) (tgt := 82) d_M_weeks_116 (by decide) ?_
      exact aw_lv [1, 0] rfl (ih (l2 + 1) h21)
def M_weeks_J50 (Y : Ly) (l0 : Nat) (h : Hp) : Option (Int32 × Hp) :=
  (M_isWell Y l0 h).bind fun q8 =>
  if q8.1 = true then
    if inB 304 (lnY Y (hGr q8.2 1220 l0)) = true then
      letH (hTi q8.2 (hGr q8.2 1220 l0) (Int32.toNatClampNeg 304) 1) fun h12 =>
      if inB 305 (lnY Y (hGr h12 1220 l0)) = true then
        letH (hTi h12 (hGr h12 1220 l0) (Int32.toNatClampNeg 305) (hGi h12 1224 l0)) fun h15 =>
        M_weeks_L82 Y l0 FU 0 h15
      else none
    else none
  else
    some ((-1), q8.2)
theorem M_weeks_J50_ok (Y : Ly) (l0 : Nat) (h : Hp) (tl0 : isO Y 12 l0) : AW Y 24 K_M_weeks 50 [(0, .ref l0)] [] h (M_weeks_J50 Y l0 h) rI := by
  unfold M_weeks_J50
  refine aw_aload_n (pc := 50) d_M_weeks_50 rfl 0 rfl ?_
  refine aw_cVrZ (pc := 51) (ci := 12) (T := TX12) (N := 44) (As := []) (st := []) (ok_M_isWell Y l0 h tl0) okV_M_isWell rfl (by decide) tl0 w8_219 d_M_weeks_51 rfl (Nat.le_of_ble_eq_true rfl) rfl (Nat.le_of_ble_eq_true rfl) (fun q8 hq8 hTq8 => ?_)
  refine aw_bne (pc := 54) (tgt := 59) d_M_weeks_54 (by decide) (fun c9 => ?_) (fun c9 => ?_)
  · refine aw_aload_n (pc := 59) d_M_weeks_59 rfl 0 rfl ?_
    refine gt_1220 (pc := 60) d_M_weeks_60 w7_47 tl0 (fun tt10 => ?_)
    refine aw_sipush (pc := 63) (x := 304) d_M_weeks_63 (by decide) ?_
    refine aw_iconst (pc := 66) (x := 1) d_M_weeks_66 (by decide) ?_
    refine aw_iastore (pc := 67) d_M_weeks_67 tt10 (fun c11 => ?_)
    refine aw_letH (fun h12 => ?_)
    refine aw_aload_n (pc := 68) d_M_weeks_68 rfl 0 rfl ?_
    refine gt_1220 (pc := 69) d_M_weeks_69 w7_47 tl0 (fun tt13 => ?_)
    refine aw_sipush (pc := 72) (x := 305) d_M_weeks_72 (by decide) ?_
    refine aw_aload_n (pc := 75) d_M_weeks_75 rfl 0 rfl ?_
    refine gt_1224 (pc := 76) d_M_weeks_76 w7_51 tl0 ?_
    refine aw_iastore (pc := 79) d_M_weeks_79 tt13 (fun c14 => ?_)
    refine aw_letH (fun h15 => ?_)
    refine aw_iconst (pc := 80) (x := 0) d_M_weeks_80 (by decide) ?_
    refine aw_istore_n (pc := 81) (lv' := [(2, .int 0), (0, .ref l0)]) d_M_weeks_81 rfl (by decide) rfl ?_
    exact aw_lv [1, 0] rfl (M_weeks_L82_ok Y l0 tl0 FU 0 h15)
  · refine aw_iconst (pc := 57) (x := (-1)) d_M_weeks_57 (by decide) ?_
    exact aw_ireturn (pc := 58) d_M_weeks_58 rfl rfl
def M_weeks_L28 (Y : Ly) (l0 : Nat) : Nat → Hp → Option (Int32 × Hp)
  | 0, _ => none
  | F + 1, h =>
    if (hGi h 1212 l0) = 0 then
      if (hGi h 1214 l0) = 0 then
        M_weeks_J50 Y l0 h
      else
        (M_readStep Y 6 l0 0 h).bind fun q22 =>
        M_weeks_L28 Y l0 F q22
    else
      M_weeks_J50 Y l0 h
theorem M_weeks_L28_ok (Y : Ly) (l0 : Nat) (tl0 : isO Y 12 l0) : ∀ (F : Nat) (h : Hp), AW Y 24 K_M_weeks 28 [(0, .ref l0)] [] h (M_weeks_L28 Y l0 F h) rI := by
  intro F
  induction F with
  | zero =>
    intro h
    exact aw_none
  | succ F ih =>
    intro h
    unfold M_weeks_L28
    refine aw_aload_n (pc := 28) d_M_weeks_28 rfl 0 rfl ?_
    refine gt_1212 (pc := 29) d_M_weeks_29 w7_39 tl0 ?_
    refine aw_if_ne (pc := 32) (tgt := 50) d_M_weeks_32 (by decide) (fun c6 => ?_) (fun c6 => ?_)
    · refine aw_aload_n (pc := 35) d_M_weeks_35 rfl 0 rfl ?_
      refine gt_1214 (pc := 36) d_M_weeks_36 w7_41 tl0 ?_
      refine aw_if_eq (pc := 39) (tgt := 50) d_M_weeks_39 (by decide) (fun c7 => ?_) (fun c7 => ?_)
      · exact aw_lv [0] rfl (M_weeks_J50_ok Y l0 h tl0)
      · refine aw_aload_n (pc := 42) d_M_weeks_42 rfl 0 rfl ?_
        refine aw_iconst (pc := 43) (x := 0) d_M_weeks_43 (by decide) ?_
        refine aw_cVrV (pc := 44) (ci := 12) (T := TX12) (N := 44) (As := [.int 0]) (st := []) (ok_M_readStep Y 6 l0 0 h tl0) okV_M_readStep rfl (by decide) tl0 w8_231 d_M_weeks_44 rfl (Nat.le_of_ble_eq_true rfl) rfl (Nat.le_of_ble_eq_true rfl) (fun q22 hq22 hTq22 => ?_)
        refine aw_goto (pc := 47) (tgt := 28) d_M_weeks_47 (by decide) ?_
        exact aw_lv [0] rfl (ih q22)
    · exact aw_lv [0] rfl (M_weeks_J50_ok Y l0 h tl0)
def M_weeks (Y : Ly) (l0 : Nat) (l1 : Int32) (h : Hp) : Option (Int32 × Hp) :=
  letH (hSi h 1201 l0 0) fun h1 =>
  letH (hSi h1 1200 l0 0) fun h2 =>
  (M_starts Y l0 l1 300 h2).bind fun q3 =>
  if q3.1 = true then
    letH (hSi q3.2 1224 l0 0) fun h5 =>
    M_weeks_L28 Y l0 FU h5
  else
    some ((-1), q3.2)
theorem ok_M_weeks (Y : Ly) (l0 : Nat) (l1 : Int32) (h : Hp) (t0 : isO Y 12 l0) : AM Y 24 K_M_weeks [.ref l0, .int l1] h (M_weeks Y l0 l1 h) rI := by
  refine AM.of rfl (Nat.le_of_ble_eq_true rfl) ?_
  show AW Y 24 K_M_weeks 0 [(0, .ref l0), (1, .int l1)] [] h (M_weeks Y l0 l1 h) rI
  unfold M_weeks
  refine aw_aload_n (pc := 0) d_M_weeks_0 rfl 0 rfl ?_
  refine aw_iconst (pc := 1) (x := 0) d_M_weeks_1 (by decide) ?_
  refine pt_1201 (pc := 2) d_M_weeks_2 w7_28 t0 ?_
  refine aw_letH (fun h1 => ?_)
  refine aw_aload_n (pc := 5) d_M_weeks_5 rfl 0 rfl ?_
  refine aw_iconst (pc := 6) (x := 0) d_M_weeks_6 (by decide) ?_
  refine pt_1200 (pc := 7) d_M_weeks_7 w7_27 t0 ?_
  refine aw_letH (fun h2 => ?_)
  refine aw_aload_n (pc := 10) d_M_weeks_10 rfl 0 rfl ?_
  refine aw_iload_n (pc := 11) d_M_weeks_11 rfl 1 rfl ?_
  refine aw_sipush (pc := 12) (x := 300) d_M_weeks_12 (by decide) ?_
  refine aw_cVrZ (pc := 15) (ci := 12) (T := TX12) (N := 44) (As := [.int l1, .int 300]) (st := []) (ok_M_starts Y l0 l1 300 h2 t0) okV_M_starts rfl (by decide) t0 w7_220 d_M_weeks_15 rfl (Nat.le_of_ble_eq_true rfl) rfl (Nat.le_of_ble_eq_true rfl) (fun q3 hq3 hTq3 => ?_)
  refine aw_bne (pc := 18) (tgt := 23) d_M_weeks_18 (by decide) (fun c4 => ?_) (fun c4 => ?_)
  · refine aw_aload_n (pc := 23) d_M_weeks_23 rfl 0 rfl ?_
    refine aw_iconst (pc := 24) (x := 0) d_M_weeks_24 (by decide) ?_
    refine pt_1224 (pc := 25) d_M_weeks_25 w7_51 t0 ?_
    refine aw_letH (fun h5 => ?_)
    exact aw_lv [0] rfl (M_weeks_L28_ok Y l0 t0 FU h5)
  · refine aw_iconst (pc := 21) (x := (-1)) d_M_weeks_21 (by decide) ?_
    exact aw_ireturn (pc := 22) d_M_weeks_22 rfl rfl
/-! LastPagesModel.write(IIJ)Z -/
theorem d_M_write_0 : decode prog_14_method_14_code 0 = .ok (.aload_n 0, 1) := by decide +kernel
theorem d_M_write_1 : decode prog_14_method_14_code 1 = .ok (.iconst 0, 1) := by decide +kernel
theorem d_M_write_2 : decode prog_14_method_14_code 2 = .ok (.putfield 78, 3) := by decide +kernel
theorem d_M_write_5 : decode prog_14_method_14_code 5 = .ok (.aload_n 0, 1) := by decide +kernel
theorem d_M_write_6 : decode prog_14_method_14_code 6 = .ok (.aload_n 0, 1) := by decide +kernel
theorem d_M_write_7 : decode prog_14_method_14_code 7 = .ok (.iload_n 1, 1) := by decide +kernel
theorem d_M_write_8 : decode prog_14_method_14_code 8 = .ok (.iload_n 2, 1) := by decide +kernel
theorem d_M_write_9 : decode prog_14_method_14_code 9 = .ok (.invokevirtual 101, 3) := by decide +kernel
theorem d_M_write_12 : decode prog_14_method_14_code 12 = .ok (.putfield 81, 3) := by decide +kernel
theorem d_M_write_15 : decode prog_14_method_14_code 15 = .ok (.aload_n 0, 1) := by decide +kernel
theorem d_M_write_16 : decode prog_14_method_14_code 16 = .ok (.getfield 81, 3) := by decide +kernel
theorem d_M_write_19 : decode prog_14_method_14_code 19 = .ok (.ifCond .le 5, 3) := by decide +kernel
theorem d_M_write_22 : decode prog_14_method_14_code 22 = .ok (.iconst 0, 1) := by decide +kernel
theorem d_M_write_23 : decode prog_14_method_14_code 23 = .ok (.ireturn, 1) := by decide +kernel
theorem d_M_write_24 : decode prog_14_method_14_code 24 = .ok (.aload_n 0, 1) := by decide +kernel
theorem d_M_write_25 : decode prog_14_method_14_code 25 = .ok (.getfield 20, 3) := by decide +kernel
theorem d_M_write_28 : decode prog_14_method_14_code 28 = .ok (.bipush 60, 2) := by decide +kernel
theorem d_M_write_30 : decode prog_14_method_14_code 30 = .ok (.iload_n 1, 1) := by decide +kernel
theorem d_M_write_31 : decode prog_14_method_14_code 31 = .ok (.imul, 1) := by decide +kernel
theorem d_M_write_32 : decode prog_14_method_14_code 32 = .ok (.iload_n 2, 1) := by decide +kernel
theorem d_M_write_33 : decode prog_14_method_14_code 33 = .ok (.iadd, 1) := by decide +kernel
theorem d_M_write_34 : decode prog_14_method_14_code 34 = .ok (.aload_n 0, 1) := by decide +kernel
theorem d_M_write_35 : decode prog_14_method_14_code 35 = .ok (.getfield 13, 3) := by decide +kernel
theorem d_M_write_38 : decode prog_14_method_14_code 38 = .ok (.iload_n 1, 1) := by decide +kernel
theorem d_M_write_39 : decode prog_14_method_14_code 39 = .ok (.iaload, 1) := by decide +kernel
theorem d_M_write_40 : decode prog_14_method_14_code 40 = .ok (.lload_n 3, 1) := by decide +kernel
theorem d_M_write_41 : decode prog_14_method_14_code 41 = .ok (.invokestatic 105, 3) := by decide +kernel
theorem d_M_write_44 : decode prog_14_method_14_code 44 = .ok (.lastore, 1) := by decide +kernel
theorem d_M_write_45 : decode prog_14_method_14_code 45 = .ok (.iconst 1, 1) := by decide +kernel
theorem d_M_write_46 : decode prog_14_method_14_code 46 = .ok (.ireturn, 1) := by decide +kernel
def M_write (Y : Ly) (l0 : Nat) (l1 : Int32) (l2 : Int32) (l3 : Int64) (h : Hp) : Option (Bool × Hp) :=
  letH (hSi h 1201 l0 0) fun h1 =>
  (M_placed Y l0 l1 l2 h1).bind fun q2 =>
  letH (hSi h1 1200 l0 q2) fun h3 =>
  if (hGi h3 1200 l0) ≤ 0 then
    if inB l1 (lnY Y (hGr h3 1204 l0)) = true then
      (M_cut Y (hAi h3 (hGr h3 1204 l0) (Int32.toNatClampNeg l1)) l3 h3).bind fun q8 =>
      if inB ((60 * l1) + l2) (lnY Y (hGr h3 1206 l0)) = true then
        letH (hTl h3 (hGr h3 1206 l0) (Int32.toNatClampNeg ((60 * l1) + l2)) q8) fun h10 =>
        some (true, h10)
      else none
    else none
  else
    some (false, h3)
theorem ok_M_write (Y : Ly) (l0 : Nat) (l1 : Int32) (l2 : Int32) (l3 : Int64) (h : Hp) (t0 : isO Y 12 l0) : AM Y 2 K_M_write [.ref l0, .int l1, .int l2, .long l3] h (M_write Y l0 l1 l2 l3 h) rZ := by
  refine AM.of rfl (Nat.le_of_ble_eq_true rfl) ?_
  show AW Y 2 K_M_write 0 [(0, .ref l0), (1, .int l1), (2, .int l2), (3, .long l3)] [] h (M_write Y l0 l1 l2 l3 h) rZ
  unfold M_write
  refine aw_aload_n (pc := 0) d_M_write_0 rfl 0 rfl ?_
  refine aw_iconst (pc := 1) (x := 0) d_M_write_1 (by decide) ?_
  refine pt_1201 (pc := 2) d_M_write_2 w7_28 t0 ?_
  refine aw_letH (fun h1 => ?_)
  refine aw_aload_n (pc := 5) d_M_write_5 rfl 0 rfl ?_
  refine aw_aload_n (pc := 6) d_M_write_6 rfl 0 rfl ?_
  refine aw_iload_n (pc := 7) d_M_write_7 rfl 1 rfl ?_
  refine aw_iload_n (pc := 8) d_M_write_8 rfl 2 rfl ?_
  refine aw_cVpI (pc := 9) (ci := 12) (T := TX12) (N := 44) (As := [.int l1, .int l2]) (st := [.ref l0]) (ok_M_placed Y l0 l1 l2 h1 t0) okV_M_placed rfl (by decide) t0 w7_184 d_M_write_9 rfl (Nat.le_of_ble_eq_true rfl) rfl (Nat.le_of_ble_eq_true rfl) (fun q2 hq2 hTq2 => ?_)
  refine pt_1200 (pc := 12) d_M_write_12 w7_27 t0 ?_
  refine aw_letH (fun h3 => ?_)
  refine aw_aload_n (pc := 15) d_M_write_15 rfl 0 rfl ?_
  refine gt_1200 (pc := 16) d_M_write_16 w7_27 t0 ?_
  refine aw_if_le (pc := 19) (tgt := 24) d_M_write_19 (by decide) (fun c4 => ?_) (fun c4 => ?_)
  · refine aw_aload_n (pc := 24) d_M_write_24 rfl 0 rfl ?_
    refine gt_1206 (pc := 25) d_M_write_25 w7_33 t0 (fun tt5 => ?_)
    refine aw_bipush (pc := 28) (x := 60) d_M_write_28 (by decide) ?_
    refine aw_iload_n (pc := 30) d_M_write_30 rfl 1 rfl ?_
    refine aw_imul (pc := 31) d_M_write_31 ?_
    refine aw_iload_n (pc := 32) d_M_write_32 rfl 2 rfl ?_
    refine aw_iadd (pc := 33) d_M_write_33 ?_
    refine aw_aload_n (pc := 34) d_M_write_34 rfl 0 rfl ?_
    refine gt_1204 (pc := 35) d_M_write_35 w7_31 t0 (fun tt6 => ?_)
    refine aw_iload_n (pc := 38) d_M_write_38 rfl 1 rfl ?_
    refine aw_iaload (pc := 39) d_M_write_39 tt6 (fun c7 => ?_)
    refine aw_lload_n (pc := 40) d_M_write_40 rfl 3 rfl ?_
    refine aw_cSpL (pc := 41) (As := [.int (hAi h3 (hGr h3 1204 l0) (Int32.toNatClampNeg l1)), .long l3]) (st := [.int ((60 * l1) + l2), .ref (hGr h3 1206 l0)]) (ok_M_cut Y (hAi h3 (hGr h3 1204 l0) (Int32.toNatClampNeg l1)) l3 h3) okS_M_cut w7_192 d_M_write_41 rfl (Nat.le_of_ble_eq_true rfl) rfl (Nat.le_of_ble_eq_true rfl) (fun q8 hq8 hTq8 => ?_)
    refine aw_lastore (pc := 44) d_M_write_44 tt5 (fun c9 => ?_)
    refine aw_letH (fun h10 => ?_)
    refine aw_iconst (pc := 45) (x := 1) d_M_write_45 (by decide) ?_
    exact aw_zreturn (pc := 46) (b := true) d_M_write_46 rfl rfl
  · refine aw_iconst (pc := 22) (x := 0) d_M_write_22 (by decide) ?_
    exact aw_zreturn (pc := 23) (b := false) d_M_write_23 rfl rfl
