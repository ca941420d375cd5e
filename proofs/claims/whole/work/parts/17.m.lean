/-! LastPages$Tokens.passNumber(II)Z -/
theorem d_To_passNumber_0 : decode prog_9_method_13_code 0 = .ok (.aload_n 0, 1) := by decide +kernel
theorem d_To_passNumber_1 : decode prog_9_method_13_code 1 = .ok (.getfield 29, 3) := by decide +kernel
theorem d_To_passNumber_4 : decode prog_9_method_13_code 4 = .ok (.iconst 2, 1) := by decide +kernel
theorem d_To_passNumber_5 : decode prog_9_method_13_code 5 = .ok (.if_icmp .eq 9, 3) := by decide +kernel
theorem d_To_passNumber_8 : decode prog_9_method_13_code 8 = .ok (.aload_n 0, 1) := by decide +kernel
theorem d_To_passNumber_9 : decode prog_9_method_13_code 9 = .ok (.iconst 2, 1) := by decide +kernel
theorem d_To_passNumber_10 : decode prog_9_method_13_code 10 = .ok (.invokevirtual 88, 3) := by decide +kernel
theorem d_To_passNumber_13 : decode prog_9_method_13_code 13 = .ok (.ireturn, 1) := by decide +kernel
theorem d_To_passNumber_14 : decode prog_9_method_13_code 14 = .ok (.aload_n 0, 1) := by decide +kernel
theorem d_To_passNumber_15 : decode prog_9_method_13_code 15 = .ok (.getfield 35, 3) := by decide +kernel
theorem d_To_passNumber_18 : decode prog_9_method_13_code 18 = .ok (.iload_n 1, 1) := by decide +kernel
theorem d_To_passNumber_19 : decode prog_9_method_13_code 19 = .ok (.if_icmp .lt 11, 3) := by decide +kernel
theorem d_To_passNumber_22 : decode prog_9_method_13_code 22 = .ok (.aload_n 0, 1) := by decide +kernel
theorem d_To_passNumber_23 : decode prog_9_method_13_code 23 = .ok (.getfield 35, 3) := by decide +kernel
theorem d_To_passNumber_26 : decode prog_9_method_13_code 26 = .ok (.iload_n 2, 1) := by decide +kernel
theorem d_To_passNumber_27 : decode prog_9_method_13_code 27 = .ok (.if_icmp .le 9, 3) := by decide +kernel
theorem d_To_passNumber_30 : decode prog_9_method_13_code 30 = .ok (.aload_n 0, 1) := by decide +kernel
theorem d_To_passNumber_31 : decode prog_9_method_13_code 31 = .ok (.iconst 4, 1) := by decide +kernel
theorem d_To_passNumber_32 : decode prog_9_method_13_code 32 = .ok (.invokevirtual 88, 3) := by decide +kernel
theorem d_To_passNumber_35 : decode prog_9_method_13_code 35 = .ok (.ireturn, 1) := by decide +kernel
theorem d_To_passNumber_36 : decode prog_9_method_13_code 36 = .ok (.aload_n 0, 1) := by decide +kernel
theorem d_To_passNumber_37 : decode prog_9_method_13_code 37 = .ok (.aload_n 0, 1) := by decide +kernel
theorem d_To_passNumber_38 : decode prog_9_method_13_code 38 = .ok (.getfield 35, 3) := by decide +kernel
theorem d_To_passNumber_41 : decode prog_9_method_13_code 41 = .ok (.putfield 45, 3) := by decide +kernel
theorem d_To_passNumber_44 : decode prog_9_method_13_code 44 = .ok (.aload_n 0, 1) := by decide +kernel
theorem d_To_passNumber_45 : decode prog_9_method_13_code 45 = .ok (.invokevirtual 71, 3) := by decide +kernel
theorem d_To_passNumber_48 : decode prog_9_method_13_code 48 = .ok (.iconst 1, 1) := by decide +kernel
theorem d_To_passNumber_49 : decode prog_9_method_13_code 49 = .ok (.ireturn, 1) := by decide +kernel
def To_passNumber (Y : Ly) (l0 : Nat) (l1 : Int32) (l2 : Int32) (h : Hp) : Option (Bool × Hp) :=
  if (hGi h 705 l0) = 2 then
    if (hGi h 707 l0) < l1 then
      (To_blame Y l0 4 h).bind fun q3 =>
      some (q3.1, q3.2)
    else
      if (hGi h 707 l0) ≤ l2 then
        letH (hSi h 710 l0 (hGi h 707 l0)) fun h5 =>
        (To_advance Y l0 h5).bind fun q6 =>
        some (true, q6)
      else
        (To_blame Y l0 4 h).bind fun q7 =>
        some (q7.1, q7.2)
  else
    (To_blame Y l0 2 h).bind fun q8 =>
    some (q8.1, q8.2)
theorem ok_To_passNumber (Y : Ly) (l0 : Nat) (l1 : Int32) (l2 : Int32) (h : Hp) (t0 : isO Y 7 l0) : AM Y 2 K_To_passNumber [.ref l0, .int l1, .int l2] h (To_passNumber Y l0 l1 l2 h) rZ := by
  refine AM.of rfl (Nat.le_of_ble_eq_true rfl) ?_
  show AW Y 2 K_To_passNumber 0 [(0, .ref l0), (1, .int l1), (2, .int l2)] [] h (To_passNumber Y l0 l1 l2 h) rZ
  unfold To_passNumber
  refine aw_aload_n (pc := 0) d_To_passNumber_0 rfl 0 rfl ?_
  refine gt_705 (pc := 1) d_To_passNumber_1 w1_93 t0 ?_
  refine aw_iconst (pc := 4) (x := 2) d_To_passNumber_4 (by decide) ?_
  refine aw_icmp_eq (pc := 5) (tgt := 14) d_To_passNumber_5 (by decide) (fun c1 => ?_) (fun c1 => ?_)
  · refine aw_aload_n (pc := 14) d_To_passNumber_14 rfl 0 rfl ?_
    refine gt_707 (pc := 15) d_To_passNumber_15 w1_97 t0 ?_
    refine aw_iload_n (pc := 18) d_To_passNumber_18 rfl 1 rfl ?_
    refine aw_icmp_lt (pc := 19) (tgt := 30) d_To_passNumber_19 (by decide) (fun c2 => ?_) (fun c2 => ?_)
    · refine aw_aload_n (pc := 30) d_To_passNumber_30 rfl 0 rfl ?_
      refine aw_iconst (pc := 31) (x := 4) d_To_passNumber_31 (by decide) ?_
      refine aw_cVrZ (pc := 32) (ci := 7) (T := TX7) (N := 13) (As := [.int 4]) (st := []) (ok_To_blame Y l0 4 h t0) okV_To_blame rfl (by decide) t0 w3_202 d_To_passNumber_32 rfl (Nat.le_of_ble_eq_true rfl) rfl (Nat.le_of_ble_eq_true rfl) (fun q3 hq3 hTq3 => ?_)
      exact aw_zreturn (pc := 35) (b := q3.1) d_To_passNumber_35 rfl rfl
    · refine aw_aload_n (pc := 22) d_To_passNumber_22 rfl 0 rfl ?_
      refine gt_707 (pc := 23) d_To_passNumber_23 w1_97 t0 ?_
      refine aw_iload_n (pc := 26) d_To_passNumber_26 rfl 2 rfl ?_
      refine aw_icmp_le (pc := 27) (tgt := 36) d_To_passNumber_27 (by decide) (fun c4 => ?_) (fun c4 => ?_)
      · refine aw_aload_n (pc := 36) d_To_passNumber_36 rfl 0 rfl ?_
        refine aw_aload_n (pc := 37) d_To_passNumber_37 rfl 0 rfl ?_
        refine gt_707 (pc := 38) d_To_passNumber_38 w1_97 t0 ?_
        refine pt_710 (pc := 41) d_To_passNumber_41 w1_102 t0 ?_
        refine aw_letH (fun h5 => ?_)
        refine aw_aload_n (pc := 44) d_To_passNumber_44 rfl 0 rfl ?_
        refine aw_cVrV (pc := 45) (ci := 7) (T := TX7) (N := 13) (As := []) (st := []) (ok_To_advance Y l0 h5 t0) okV_To_advance rfl (by decide) t0 w3_166 d_To_passNumber_45 rfl (Nat.le_of_ble_eq_true rfl) rfl (Nat.le_of_ble_eq_true rfl) (fun q6 hq6 hTq6 => ?_)
        refine aw_iconst (pc := 48) (x := 1) d_To_passNumber_48 (by decide) ?_
        exact aw_zreturn (pc := 49) (b := true) d_To_passNumber_49 rfl rfl
      · refine aw_aload_n (pc := 30) d_To_passNumber_30 rfl 0 rfl ?_
        refine aw_iconst (pc := 31) (x := 4) d_To_passNumber_31 (by decide) ?_
        refine aw_cVrZ (pc := 32) (ci := 7) (T := TX7) (N := 13) (As := [.int 4]) (st := []) (ok_To_blame Y l0 4 h t0) okV_To_blame rfl (by decide) t0 w3_202 d_To_passNumber_32 rfl (Nat.le_of_ble_eq_true rfl) rfl (Nat.le_of_ble_eq_true rfl) (fun q7 hq7 hTq7 => ?_)
        exact aw_zreturn (pc := 35) (b := q7.1) d_To_passNumber_35 rfl rfl
  · refine aw_aload_n (pc := 8) d_To_passNumber_8 rfl 0 rfl ?_
    refine aw_iconst (pc := 9) (x := 2) d_To_passNumber_9 (by decide) ?_
    refine aw_cVrZ (pc := 10) (ci := 7) (T := TX7) (N := 13) (As := [.int 2]) (st := []) (ok_To_blame Y l0 2 h t0) okV_To_blame rfl (by decide) t0 w3_202 d_To_passNumber_10 rfl (Nat.le_of_ble_eq_true rfl) rfl (Nat.le_of_ble_eq_true rfl) (fun q8 hq8 hTq8 => ?_)
    exact aw_zreturn (pc := 13) (b := q8.1) d_To_passNumber_13 rfl rfl
/-! LastPages$Tokens.passOld(LLastPages$Shelf;I)Z -/
theorem d_To_passOld_0 : decode prog_9_method_17_code 0 = .ok (.aload_n 0, 1) := by decide +kernel
theorem d_To_passOld_1 : decode prog_9_method_17_code 1 = .ok (.aload_n 1, 1) := by decide +kernel
theorem d_To_passOld_2 : decode prog_9_method_17_code 2 = .ok (.iload_n 2, 1) := by decide +kernel
theorem d_To_passOld_3 : decode prog_9_method_17_code 3 = .ok (.invokevirtual 109, 3) := by decide +kernel
theorem d_To_passOld_6 : decode prog_9_method_17_code 6 = .ok (.ifCond .ne 5, 3) := by decide +kernel
theorem d_To_passOld_9 : decode prog_9_method_17_code 9 = .ok (.iconst 0, 1) := by decide +kernel
theorem d_To_passOld_10 : decode prog_9_method_17_code 10 = .ok (.ireturn, 1) := by decide +kernel
theorem d_To_passOld_11 : decode prog_9_method_17_code 11 = .ok (.aload_n 0, 1) := by decide +kernel
theorem d_To_passOld_12 : decode prog_9_method_17_code 12 = .ok (.invokevirtual 71, 3) := by decide +kernel
theorem d_To_passOld_15 : decode prog_9_method_17_code 15 = .ok (.iconst 1, 1) := by decide +kernel
theorem d_To_passOld_16 : decode prog_9_method_17_code 16 = .ok (.ireturn, 1) := by decide +kernel
def To_passOld (Y : Ly) (l0 : Nat) (l1 : Nat) (l2 : Int32) (h : Hp) : Option (Bool × Hp) :=
  (To_seeOld Y l0 l1 l2 h).bind fun q1 =>
  if q1.1 = true then
    (To_advance Y l0 q1.2).bind fun q3 =>
    some (true, q3)
  else
    some (false, q1.2)
theorem ok_To_passOld (Y : Ly) (l0 : Nat) (l1 : Nat) (l2 : Int32) (h : Hp) (t0 : isO Y 7 l0) (t1 : isO Y 4 l1) : AM Y 2 K_To_passOld [.ref l0, .ref l1, .int l2] h (To_passOld Y l0 l1 l2 h) rZ := by
  refine AM.of rfl (Nat.le_of_ble_eq_true rfl) ?_
  show AW Y 2 K_To_passOld 0 [(0, .ref l0), (1, .ref l1), (2, .int l2)] [] h (To_passOld Y l0 l1 l2 h) rZ
  unfold To_passOld
  refine aw_aload_n (pc := 0) d_To_passOld_0 rfl 0 rfl ?_
  refine aw_aload_n (pc := 1) d_To_passOld_1 rfl 1 rfl ?_
  refine aw_iload_n (pc := 2) d_To_passOld_2 rfl 2 rfl ?_
  refine aw_cVrZ (pc := 3) (ci := 7) (T := TX7) (N := 13) (As := [.ref l1, .int l2]) (st := []) (ok_To_seeOld Y l0 l1 l2 h t0 t1) okV_To_seeOld rfl (by decide) t0 w4_3 d_To_passOld_3 rfl (Nat.le_of_ble_eq_true rfl) rfl (Nat.le_of_ble_eq_true rfl) (fun q1 hq1 hTq1 => ?_)
  refine aw_bne (pc := 6) (tgt := 11) d_To_passOld_6 (by decide) (fun c2 => ?_) (fun c2 => ?_)
  · refine aw_aload_n (pc := 11) d_To_passOld_11 rfl 0 rfl ?_
    refine aw_cVrV (pc := 12) (ci := 7) (T := TX7) (N := 13) (As := []) (st := []) (ok_To_advance Y l0 q1.2 t0) okV_To_advance rfl (by decide) t0 w3_166 d_To_passOld_12 rfl (Nat.le_of_ble_eq_true rfl) rfl (Nat.le_of_ble_eq_true rfl) (fun q3 hq3 hTq3 => ?_)
    refine aw_iconst (pc := 15) (x := 1) d_To_passOld_15 (by decide) ?_
    exact aw_zreturn (pc := 16) (b := true) d_To_passOld_16 rfl rfl
  · refine aw_iconst (pc := 9) (x := 0) d_To_passOld_9 (by decide) ?_
    exact aw_zreturn (pc := 10) (b := false) d_To_passOld_10 rfl rfl
/-! LastPages$Tokens.passSemicolon()Z -/
theorem d_To_passSemicolon_0 : decode prog_9_method_10_code 0 = .ok (.aload_n 0, 1) := by decide +kernel
theorem d_To_passSemicolon_1 : decode prog_9_method_10_code 1 = .ok (.invokevirtual 84, 3) := by decide +kernel
theorem d_To_passSemicolon_4 : decode prog_9_method_10_code 4 = .ok (.ifCond .ne 9, 3) := by decide +kernel
theorem d_To_passSemicolon_7 : decode prog_9_method_10_code 7 = .ok (.aload_n 0, 1) := by decide +kernel
theorem d_To_passSemicolon_8 : decode prog_9_method_10_code 8 = .ok (.iconst 2, 1) := by decide +kernel
theorem d_To_passSemicolon_9 : decode prog_9_method_10_code 9 = .ok (.invokevirtual 88, 3) := by decide +kernel
theorem d_To_passSemicolon_12 : decode prog_9_method_10_code 12 = .ok (.ireturn, 1) := by decide +kernel
theorem d_To_passSemicolon_13 : decode prog_9_method_10_code 13 = .ok (.aload_n 0, 1) := by decide +kernel
theorem d_To_passSemicolon_14 : decode prog_9_method_10_code 14 = .ok (.invokevirtual 71, 3) := by decide +kernel
theorem d_To_passSemicolon_17 : decode prog_9_method_10_code 17 = .ok (.iconst 1, 1) := by decide +kernel
theorem d_To_passSemicolon_18 : decode prog_9_method_10_code 18 = .ok (.ireturn, 1) := by decide +kernel
def To_passSemicolon (Y : Ly) (l0 : Nat) (h : Hp) : Option (Bool × Hp) :=
  (To_isSemicolon Y l0 h).bind fun q1 =>
  if q1 = true then
    (To_advance Y l0 h).bind fun q3 =>
    some (true, q3)
  else
    (To_blame Y l0 2 h).bind fun q4 =>
    some (q4.1, q4.2)
theorem ok_To_passSemicolon (Y : Ly) (l0 : Nat) (h : Hp) (t0 : isO Y 7 l0) : AM Y 2 K_To_passSemicolon [.ref l0] h (To_passSemicolon Y l0 h) rZ := by
  refine AM.of rfl (Nat.le_of_ble_eq_true rfl) ?_
  show AW Y 2 K_To_passSemicolon 0 [(0, .ref l0)] [] h (To_passSemicolon Y l0 h) rZ
  unfold To_passSemicolon
  refine aw_aload_n (pc := 0) d_To_passSemicolon_0 rfl 0 rfl ?_
  refine aw_cVpZ (pc := 1) (ci := 7) (T := TX7) (N := 13) (As := []) (st := []) (ok_To_isSemicolon Y l0 h t0) okV_To_isSemicolon rfl (by decide) t0 w3_219 d_To_passSemicolon_1 rfl (Nat.le_of_ble_eq_true rfl) rfl (Nat.le_of_ble_eq_true rfl) (fun q1 hq1 hTq1 => ?_)
  refine aw_bne (pc := 4) (tgt := 13) d_To_passSemicolon_4 (by decide) (fun c2 => ?_) (fun c2 => ?_)
  · refine aw_aload_n (pc := 13) d_To_passSemicolon_13 rfl 0 rfl ?_
    refine aw_cVrV (pc := 14) (ci := 7) (T := TX7) (N := 13) (As := []) (st := []) (ok_To_advance Y l0 h t0) okV_To_advance rfl (by decide) t0 w3_166 d_To_passSemicolon_14 rfl (Nat.le_of_ble_eq_true rfl) rfl (Nat.le_of_ble_eq_true rfl) (fun q3 hq3 hTq3 => ?_)
    refine aw_iconst (pc := 17) (x := 1) d_To_passSemicolon_17 (by decide) ?_
    exact aw_zreturn (pc := 18) (b := true) d_To_passSemicolon_18 rfl rfl
  · refine aw_aload_n (pc := 7) d_To_passSemicolon_7 rfl 0 rfl ?_
    refine aw_iconst (pc := 8) (x := 2) d_To_passSemicolon_8 (by decide) ?_
    refine aw_cVrZ (pc := 9) (ci := 7) (T := TX7) (N := 13) (As := [.int 2]) (st := []) (ok_To_blame Y l0 2 h t0) okV_To_blame rfl (by decide) t0 w3_202 d_To_passSemicolon_9 rfl (Nat.le_of_ble_eq_true rfl) rfl (Nat.le_of_ble_eq_true rfl) (fun q4 hq4 hTq4 => ?_)
    exact aw_zreturn (pc := 12) (b := q4.1) d_To_passSemicolon_12 rfl rfl
/-! LastPages$Tokens.passWord(I)Z -/
theorem d_To_passWord_0 : decode prog_9_method_12_code 0 = .ok (.aload_n 0, 1) := by decide +kernel
theorem d_To_passWord_1 : decode prog_9_method_12_code 1 = .ok (.getfield 38, 3) := by decide +kernel
theorem d_To_passWord_4 : decode prog_9_method_12_code 4 = .ok (.iload_n 1, 1) := by decide +kernel
theorem d_To_passWord_5 : decode prog_9_method_12_code 5 = .ok (.if_icmp .eq 9, 3) := by decide +kernel
theorem d_To_passWord_8 : decode prog_9_method_12_code 8 = .ok (.aload_n 0, 1) := by decide +kernel
theorem d_To_passWord_9 : decode prog_9_method_12_code 9 = .ok (.iconst 2, 1) := by decide +kernel
theorem d_To_passWord_10 : decode prog_9_method_12_code 10 = .ok (.invokevirtual 88, 3) := by decide +kernel
theorem d_To_passWord_13 : decode prog_9_method_12_code 13 = .ok (.ireturn, 1) := by decide +kernel
theorem d_To_passWord_14 : decode prog_9_method_12_code 14 = .ok (.aload_n 0, 1) := by decide +kernel
theorem d_To_passWord_15 : decode prog_9_method_12_code 15 = .ok (.invokevirtual 71, 3) := by decide +kernel
theorem d_To_passWord_18 : decode prog_9_method_12_code 18 = .ok (.iconst 1, 1) := by decide +kernel
theorem d_To_passWord_19 : decode prog_9_method_12_code 19 = .ok (.ireturn, 1) := by decide +kernel
def To_passWord (Y : Ly) (l0 : Nat) (l1 : Int32) (h : Hp) : Option (Bool × Hp) :=
  if (hGi h 708 l0) = l1 then
    (To_advance Y l0 h).bind fun q2 =>
    some (true, q2)
  else
    (To_blame Y l0 2 h).bind fun q3 =>
    some (q3.1, q3.2)
theorem ok_To_passWord (Y : Ly) (l0 : Nat) (l1 : Int32) (h : Hp) (t0 : isO Y 7 l0) : AM Y 2 K_To_passWord [.ref l0, .int l1] h (To_passWord Y l0 l1 h) rZ := by
  refine AM.of rfl (Nat.le_of_ble_eq_true rfl) ?_
  show AW Y 2 K_To_passWord 0 [(0, .ref l0), (1, .int l1)] [] h (To_passWord Y l0 l1 h) rZ
  unfold To_passWord
  refine aw_aload_n (pc := 0) d_To_passWord_0 rfl 0 rfl ?_
  refine gt_708 (pc := 1) d_To_passWord_1 w1_98 t0 ?_
  refine aw_iload_n (pc := 4) d_To_passWord_4 rfl 1 rfl ?_
  refine aw_icmp_eq (pc := 5) (tgt := 14) d_To_passWord_5 (by decide) (fun c1 => ?_) (fun c1 => ?_)
  · refine aw_aload_n (pc := 14) d_To_passWord_14 rfl 0 rfl ?_
    refine aw_cVrV (pc := 15) (ci := 7) (T := TX7) (N := 13) (As := []) (st := []) (ok_To_advance Y l0 h t0) okV_To_advance rfl (by decide) t0 w3_166 d_To_passWord_15 rfl (Nat.le_of_ble_eq_true rfl) rfl (Nat.le_of_ble_eq_true rfl) (fun q2 hq2 hTq2 => ?_)
    refine aw_iconst (pc := 18) (x := 1) d_To_passWord_18 (by decide) ?_
    exact aw_zreturn (pc := 19) (b := true) d_To_passWord_19 rfl rfl
  · refine aw_aload_n (pc := 8) d_To_passWord_8 rfl 0 rfl ?_
    refine aw_iconst (pc := 9) (x := 2) d_To_passWord_9 (by decide) ?_
    refine aw_cVrZ (pc := 10) (ci := 7) (T := TX7) (N := 13) (As := [.int 2]) (st := []) (ok_To_blame Y l0 2 h t0) okV_To_blame rfl (by decide) t0 w3_202 d_To_passWord_10 rfl (Nat.le_of_ble_eq_true rfl) rfl (Nat.le_of_ble_eq_true rfl) (fun q3 hq3 hTq3 => ?_)
    exact aw_zreturn (pc := 13) (b := q3.1) d_To_passWord_13 rfl rfl
/-! LastPages$ShelfReader.readBook(LLastPages$Tokens;LLastPages$Shelf;)Z -/
theorem d_SR_readBook_0 : decode prog_7_method_7_code 0 = .ok (.aload_n 2, 1) := by decide +kernel
theorem d_SR_readBook_1 : decode prog_7_method_7_code 1 = .ok (.getfield 127, 3) := by decide +kernel
theorem d_SR_readBook_4 : decode prog_7_method_7_code 4 = .ok (.bipush 6, 2) := by decide +kernel
theorem d_SR_readBook_6 : decode prog_7_method_7_code 6 = .ok (.if_icmp .lt 10, 3) := by decide +kernel
theorem d_SR_readBook_9 : decode prog_7_method_7_code 9 = .ok (.aload_n 1, 1) := by decide +kernel
theorem d_SR_readBook_10 : decode prog_7_method_7_code 10 = .ok (.bipush 6, 2) := by decide +kernel
theorem d_SR_readBook_12 : decode prog_7_method_7_code 12 = .ok (.invokevirtual 75, 3) := by decide +kernel
theorem d_SR_readBook_15 : decode prog_7_method_7_code 15 = .ok (.ireturn, 1) := by decide +kernel
theorem d_SR_readBook_16 : decode prog_7_method_7_code 16 = .ok (.aload_n 1, 1) := by decide +kernel
theorem d_SR_readBook_17 : decode prog_7_method_7_code 17 = .ok (.invokevirtual 88, 3) := by decide +kernel
theorem d_SR_readBook_20 : decode prog_7_method_7_code 20 = .ok (.aload_n 1, 1) := by decide +kernel
theorem d_SR_readBook_21 : decode prog_7_method_7_code 21 = .ok (.aload_n 2, 1) := by decide +kernel
theorem d_SR_readBook_22 : decode prog_7_method_7_code 22 = .ok (.bipush 6, 2) := by decide +kernel
theorem d_SR_readBook_24 : decode prog_7_method_7_code 24 = .ok (.aload_n 2, 1) := by decide +kernel
theorem d_SR_readBook_25 : decode prog_7_method_7_code 25 = .ok (.getfield 127, 3) := by decide +kernel
theorem d_SR_readBook_28 : decode prog_7_method_7_code 28 = .ok (.invokevirtual 91, 3) := by decide +kernel
theorem d_SR_readBook_31 : decode prog_7_method_7_code 31 = .ok (.ifCond .eq 21, 3) := by decide +kernel
theorem d_SR_readBook_34 : decode prog_7_method_7_code 34 = .ok (.aload_n 1, 1) := by decide +kernel
theorem d_SR_readBook_35 : decode prog_7_method_7_code 35 = .ok (.bipush 7, 2) := by decide +kernel
theorem d_SR_readBook_37 : decode prog_7_method_7_code 37 = .ok (.invokevirtual 120, 3) := by decide +kernel
theorem d_SR_readBook_40 : decode prog_7_method_7_code 40 = .ok (.ifCond .eq 12, 3) := by decide +kernel
theorem d_SR_readBook_43 : decode prog_7_method_7_code 43 = .ok (.aload_n 1, 1) := by decide +kernel
theorem d_SR_readBook_44 : decode prog_7_method_7_code 44 = .ok (.aload_n 2, 1) := by decide +kernel
theorem d_SR_readBook_45 : decode prog_7_method_7_code 45 = .ok (.iconst 0, 1) := by decide +kernel
theorem d_SR_readBook_46 : decode prog_7_method_7_code 46 = .ok (.invokevirtual 116, 3) := by decide +kernel
theorem d_SR_readBook_49 : decode prog_7_method_7_code 49 = .ok (.ifCond .ne 5, 3) := by decide +kernel
theorem d_SR_readBook_52 : decode prog_7_method_7_code 52 = .ok (.iconst 0, 1) := by decide +kernel
theorem d_SR_readBook_53 : decode prog_7_method_7_code 53 = .ok (.ireturn, 1) := by decide +kernel
theorem d_SR_readBook_54 : decode prog_7_method_7_code 54 = .ok (.aload_n 1, 1) := by decide +kernel
theorem d_SR_readBook_55 : decode prog_7_method_7_code 55 = .ok (.getfield 110, 3) := by decide +kernel
theorem d_SR_readBook_58 : decode prog_7_method_7_code 58 = .ok (.istore_n 3, 1) := by decide +kernel
theorem d_SR_readBook_59 : decode prog_7_method_7_code 59 = .ok (.aload_n 1, 1) := by decide +kernel
theorem d_SR_readBook_60 : decode prog_7_method_7_code 60 = .ok (.bipush 8, 2) := by decide +kernel
theorem d_SR_readBook_62 : decode prog_7_method_7_code 62 = .ok (.invokevirtual 120, 3) := by decide +kernel
theorem d_SR_readBook_65 : decode prog_7_method_7_code 65 = .ok (.ifCond .eq 13, 3) := by decide +kernel
theorem d_SR_readBook_68 : decode prog_7_method_7_code 68 = .ok (.aload_n 1, 1) := by decide +kernel
theorem d_SR_readBook_69 : decode prog_7_method_7_code 69 = .ok (.iconst 1, 1) := by decide +kernel
theorem d_SR_readBook_70 : decode prog_7_method_7_code 70 = .ok (.bipush 6, 2) := by decide +kernel
theorem d_SR_readBook_72 : decode prog_7_method_7_code 72 = .ok (.invokevirtual 106, 3) := by decide +kernel
theorem d_SR_readBook_75 : decode prog_7_method_7_code 75 = .ok (.ifCond .ne 5, 3) := by decide +kernel
theorem d_SR_readBook_78 : decode prog_7_method_7_code 78 = .ok (.iconst 0, 1) := by decide +kernel
theorem d_SR_readBook_79 : decode prog_7_method_7_code 79 = .ok (.ireturn, 1) := by decide +kernel
theorem d_SR_readBook_80 : decode prog_7_method_7_code 80 = .ok (.aload_n 1, 1) := by decide +kernel
theorem d_SR_readBook_81 : decode prog_7_method_7_code 81 = .ok (.getfield 110, 3) := by decide +kernel
theorem d_SR_readBook_84 : decode prog_7_method_7_code 84 = .ok (.istore 4, 2) := by decide +kernel
theorem d_SR_readBook_86 : decode prog_7_method_7_code 86 = .ok (.aload_n 0, 1) := by decide +kernel
theorem d_SR_readBook_87 : decode prog_7_method_7_code 87 = .ok (.aload_n 1, 1) := by decide +kernel
theorem d_SR_readBook_88 : decode prog_7_method_7_code 88 = .ok (.aload_n 2, 1) := by decide +kernel
theorem d_SR_readBook_89 : decode prog_7_method_7_code 89 = .ok (.bipush 10, 2) := by decide +kernel
theorem d_SR_readBook_91 : decode prog_7_method_7_code 91 = .ok (.invokevirtual 130, 3) := by decide +kernel
theorem d_SR_readBook_94 : decode prog_7_method_7_code 94 = .ok (.ifCond .ne 5, 3) := by decide +kernel
theorem d_SR_readBook_97 : decode prog_7_method_7_code 97 = .ok (.iconst 0, 1) := by decide +kernel
theorem d_SR_readBook_98 : decode prog_7_method_7_code 98 = .ok (.ireturn, 1) := by decide +kernel
theorem d_SR_readBook_99 : decode prog_7_method_7_code 99 = .ok (.aload_n 2, 1) := by decide +kernel
theorem d_SR_readBook_100 : decode prog_7_method_7_code 100 = .ok (.iload_n 3, 1) := by decide +kernel
theorem d_SR_readBook_101 : decode prog_7_method_7_code 101 = .ok (.iload 4, 2) := by decide +kernel
theorem d_SR_readBook_103 : decode prog_7_method_7_code 103 = .ok (.aload_n 0, 1) := by decide +kernel
theorem d_SR_readBook_104 : decode prog_7_method_7_code 104 = .ok (.getfield 9, 3) := by decide +kernel
theorem d_SR_readBook_107 : decode prog_7_method_7_code 107 = .ok (.aload_n 0, 1) := by decide +kernel
theorem d_SR_readBook_108 : decode prog_7_method_7_code 108 = .ok (.getfield 15, 3) := by decide +kernel
theorem d_SR_readBook_111 : decode prog_7_method_7_code 111 = .ok (.invokevirtual 134, 3) := by decide +kernel
theorem d_SR_readBook_114 : decode prog_7_method_7_code 114 = .ok (.aload_n 1, 1) := by decide +kernel
theorem d_SR_readBook_115 : decode prog_7_method_7_code 115 = .ok (.invokevirtual 99, 3) := by decide +kernel
theorem d_SR_readBook_118 : decode prog_7_method_7_code 118 = .ok (.ireturn, 1) := by decide +kernel
def SR_readBook (Y : Ly) (l0 : Nat) (l1 : Nat) (l2 : Nat) (h : Hp) : Option (Bool × Hp) :=
  if (hGi h 415 l2) < 6 then
    (To_advance Y l1 h).bind fun q2 =>
    (To_passNew Y l1 l2 6 (hGi q2 415 l2) q2).bind fun q3 =>
    if q3.1 = true then
      (To_passWord Y l1 7 q3.2).bind fun q5 =>
      if q5.1 = true then
        (To_passOld Y l1 l2 0 q5.2).bind fun q7 =>
        if q7.1 = true then
          (To_passWord Y l1 8 q7.2).bind fun q9 =>
          if q9.1 = true then
            (To_passNumber Y l1 1 6 q9.2).bind fun q11 =>
            if q11.1 = true then
              (SR_readTurns Y l0 l1 l2 10 q11.2).bind fun q13 =>
              if q13.1 = true then
                (Sh_addBook Y l2 (hGi q7.2 710 l1) (hGi q11.2 710 l1) (hGr q13.2 500 l0) (hGi q13.2 501 l0) q13.2).bind fun q16 =>
                (To_passSemicolon Y l1 q16).bind fun q17 =>
                some (q17.1, q17.2)
              else
                some (false, q13.2)
            else
              some (false, q11.2)
          else
            some (false, q9.2)
        else
          some (false, q7.2)
      else
        some (false, q5.2)
    else
      some (false, q3.2)
  else
    (To_blame Y l1 6 h).bind fun q18 =>
    some (q18.1, q18.2)
theorem ok_SR_readBook (Y : Ly) (l0 : Nat) (l1 : Nat) (l2 : Nat) (h : Hp) (t0 : isO Y 5 l0) (t1 : isO Y 7 l1) (t2 : isO Y 4 l2) : AM Y 3 K_SR_readBook [.ref l0, .ref l1, .ref l2] h (SR_readBook Y l0 l1 l2 h) rZ := by
  refine AM.of rfl (Nat.le_of_ble_eq_true rfl) ?_
  show AW Y 3 K_SR_readBook 0 [(0, .ref l0), (1, .ref l1), (2, .ref l2)] [] h (SR_readBook Y l0 l1 l2 h) rZ
  unfold SR_readBook
  refine aw_aload_n (pc := 0) d_SR_readBook_0 rfl 2 rfl ?_
  refine gt_415 (pc := 1) d_SR_readBook_1 w2_160 t2 ?_
  refine aw_bipush (pc := 4) (x := 6) d_SR_readBook_4 (by decide) ?_
  refine aw_icmp_lt (pc := 6) (tgt := 16) d_SR_readBook_6 (by decide) (fun c1 => ?_) (fun c1 => ?_)
  · refine aw_aload_n (pc := 16) d_SR_readBook_16 rfl 1 rfl ?_
    refine aw_cVrV (pc := 17) (ci := 7) (T := TX7) (N := 13) (As := []) (st := []) (ok_To_advance Y l1 h t1) okV_To_advance rfl (by decide) t1 w3_193 d_SR_readBook_17 rfl (Nat.le_of_ble_eq_true rfl) rfl (Nat.le_of_ble_eq_true rfl) (fun q2 hq2 hTq2 => ?_)
    refine aw_aload_n (pc := 20) d_SR_readBook_20 rfl 1 rfl ?_
    refine aw_aload_n (pc := 21) d_SR_readBook_21 rfl 2 rfl ?_
    refine aw_bipush (pc := 22) (x := 6) d_SR_readBook_22 (by decide) ?_
    refine aw_aload_n (pc := 24) d_SR_readBook_24 rfl 2 rfl ?_
    refine gt_415 (pc := 25) d_SR_readBook_25 w2_160 t2 ?_
    refine aw_cVrZ (pc := 28) (ci := 7) (T := TX7) (N := 13) (As := [.ref l2, .int 6, .int (hGi q2 415 l2)]) (st := []) (ok_To_passNew Y l1 l2 6 (hGi q2 415 l2) q2 t1 t2) okV_To_passNew rfl (by decide) t1 w3_194 d_SR_readBook_28 rfl (Nat.le_of_ble_eq_true rfl) rfl (Nat.le_of_ble_eq_true rfl) (fun q3 hq3 hTq3 => ?_)
    refine aw_beq (pc := 31) (tgt := 52) d_SR_readBook_31 (by decide) (fun c4 => ?_) (fun c4 => ?_)
    · refine aw_aload_n (pc := 34) d_SR_readBook_34 rfl 1 rfl ?_
      refine aw_bipush (pc := 35) (x := 7) d_SR_readBook_35 (by decide) ?_
      refine aw_cVrZ (pc := 37) (ci := 7) (T := TX7) (N := 13) (As := [.int 7]) (st := []) (ok_To_passWord Y l1 7 q3.2 t1) okV_To_passWord rfl (by decide) t1 w4_11 d_SR_readBook_37 rfl (Nat.le_of_ble_eq_true rfl) rfl (Nat.le_of_ble_eq_true rfl) (fun q5 hq5 hTq5 => ?_)
      refine aw_beq (pc := 40) (tgt := 52) d_SR_readBook_40 (by decide) (fun c6 => ?_) (fun c6 => ?_)
      · refine aw_aload_n (pc := 43) d_SR_readBook_43 rfl 1 rfl ?_
        refine aw_aload_n (pc := 44) d_SR_readBook_44 rfl 2 rfl ?_
        refine aw_iconst (pc := 45) (x := 0) d_SR_readBook_45 (by decide) ?_
        refine aw_cVrZ (pc := 46) (ci := 7) (T := TX7) (N := 13) (As := [.ref l2, .int 0]) (st := []) (ok_To_passOld Y l1 l2 0 q5.2 t1 t2) okV_To_passOld rfl (by decide) t1 w3_239 d_SR_readBook_46 rfl (Nat.le_of_ble_eq_true rfl) rfl (Nat.le_of_ble_eq_true rfl) (fun q7 hq7 hTq7 => ?_)
        refine aw_bne (pc := 49) (tgt := 54) d_SR_readBook_49 (by decide) (fun c8 => ?_) (fun c8 => ?_)
        · refine aw_aload_n (pc := 54) d_SR_readBook_54 rfl 1 rfl ?_
          refine gt_710 (pc := 55) d_SR_readBook_55 w1_103 t1 ?_
          refine aw_istore_n (pc := 58) (lv' := [(3, .int (hGi q7.2 710 l1)), (0, .ref l0), (1, .ref l1), (2, .ref l2)]) d_SR_readBook_58 rfl (by decide) rfl ?_
          refine aw_aload_n (pc := 59) d_SR_readBook_59 rfl 2 rfl ?_
          refine aw_bipush (pc := 60) (x := 8) d_SR_readBook_60 (by decide) ?_
          refine aw_cVrZ (pc := 62) (ci := 7) (T := TX7) (N := 13) (As := [.int 8]) (st := []) (ok_To_passWord Y l1 8 q7.2 t1) okV_To_passWord rfl (by decide) t1 w4_11 d_SR_readBook_62 rfl (Nat.le_of_ble_eq_true rfl) rfl (Nat.le_of_ble_eq_true rfl) (fun q9 hq9 hTq9 => ?_)
          refine aw_beq (pc := 65) (tgt := 78) d_SR_readBook_65 (by decide) (fun c10 => ?_) (fun c10 => ?_)
          · refine aw_aload_n (pc := 68) d_SR_readBook_68 rfl 2 rfl ?_
            refine aw_iconst (pc := 69) (x := 1) d_SR_readBook_69 (by decide) ?_
            refine aw_bipush (pc := 70) (x := 6) d_SR_readBook_70 (by decide) ?_
            refine aw_cVrZ (pc := 72) (ci := 7) (T := TX7) (N := 13) (As := [.int 1, .int 6]) (st := []) (ok_To_passNumber Y l1 1 6 q9.2 t1) okV_To_passNumber rfl (by decide) t1 w3_227 d_SR_readBook_72 rfl (Nat.le_of_ble_eq_true rfl) rfl (Nat.le_of_ble_eq_true rfl) (fun q11 hq11 hTq11 => ?_)
            refine aw_bne (pc := 75) (tgt := 80) d_SR_readBook_75 (by decide) (fun c12 => ?_) (fun c12 => ?_)
            · refine aw_aload_n (pc := 80) d_SR_readBook_80 rfl 2 rfl ?_
              refine gt_710 (pc := 81) d_SR_readBook_81 w1_103 t1 ?_
              refine aw_istore (pc := 84) (lv' := [(4, .int (hGi q11.2 710 l1)), (3, .int (hGi q7.2 710 l1)), (0, .ref l0), (1, .ref l1), (2, .ref l2)]) d_SR_readBook_84 (by decide) rfl ?_
              refine aw_aload_n (pc := 86) d_SR_readBook_86 rfl 2 rfl ?_
              refine aw_aload_n (pc := 87) d_SR_readBook_87 rfl 3 rfl ?_
              refine aw_aload_n (pc := 88) d_SR_readBook_88 rfl 4 rfl ?_
              refine aw_bipush (pc := 89) (x := 10) d_SR_readBook_89 (by decide) ?_
              refine aw_cVrZ (pc := 91) (ci := 5) (T := TX5) (N := 2) (As := [.ref l1, .ref l2, .int 10]) (st := []) (ok_SR_readTurns Y l0 l1 l2 10 q11.2 t0 t1 t2) okV_SR_readTurns rfl (by decide) t0 w4_31 d_SR_readBook_91 rfl (Nat.le_of_ble_eq_true rfl) rfl (Nat.le_of_ble_eq_true rfl) (fun q13 hq13 hTq13 => ?_)
              refine aw_bne (pc := 94) (tgt := 99) d_SR_readBook_94 (by decide) (fun c14 => ?_) (fun c14 => ?_)
              · refine aw_aload_n (pc := 99) d_SR_readBook_99 rfl 4 rfl ?_
                refine aw_iload_n (pc := 100) d_SR_readBook_100 rfl 1 rfl ?_
                refine aw_iload (pc := 101) d_SR_readBook_101 0 rfl ?_
                refine aw_aload_n (pc := 103) d_SR_readBook_103 rfl 2 rfl ?_
                refine gt_500 (pc := 104) d_SR_readBook_104 w1_144 t0 (fun tt15 => ?_)
                refine aw_aload_n (pc := 107) d_SR_readBook_107 rfl 2 rfl ?_
                refine gt_501 (pc := 108) d_SR_readBook_108 w1_145 t0 ?_
                refine aw_cVrV (pc := 111) (ci := 4) (T := TX4) (N := 19) (As := [.int (hGi q7.2 710 l1), .int (hGi q11.2 710 l1), .ref (hGr q13.2 500 l0), .int (hGi q13.2 501 l0)]) (st := []) (ok_Sh_addBook Y l2 (hGi q7.2 710 l1) (hGi q11.2 710 l1) (hGr q13.2 500 l0) (hGi q13.2 501 l0) q13.2 t2 tt15) okV_Sh_addBook rfl (by decide) t2 w4_37 d_SR_readBook_111 rfl (Nat.le_of_ble_eq_true rfl) rfl (Nat.le_of_ble_eq_true rfl) (fun q16 hq16 hTq16 => ?_)
                refine aw_aload_n (pc := 114) d_SR_readBook_114 rfl 3 rfl ?_
                refine aw_cVrZ (pc := 115) (ci := 7) (T := TX7) (N := 13) (As := []) (st := []) (ok_To_passSemicolon Y l1 q16 t1) okV_To_passSemicolon rfl (by decide) t1 w3_215 d_SR_readBook_115 rfl (Nat.le_of_ble_eq_true rfl) rfl (Nat.le_of_ble_eq_true rfl) (fun q17 hq17 hTq17 => ?_)
                exact aw_zreturn (pc := 118) (b := q17.1) d_SR_readBook_118 rfl rfl
              · refine aw_iconst (pc := 97) (x := 0) d_SR_readBook_97 (by decide) ?_
                exact aw_zreturn (pc := 98) (b := false) d_SR_readBook_98 rfl rfl
            · refine aw_iconst (pc := 78) (x := 0) d_SR_readBook_78 (by decide) ?_
              exact aw_zreturn (pc := 79) (b := false) d_SR_readBook_79 rfl rfl
          · refine aw_iconst (pc := 78) (x := 0) d_SR_readBook_78 (by decide) ?_
            exact aw_zreturn (pc := 79) (b := false) d_SR_readBook_79 rfl rfl
        · refine aw_iconst (pc := 52) (x := 0) d_SR_readBook_52 (by decide) ?_
          exact aw_zreturn (pc := 53) (b := false) d_SR_readBook_53 rfl rfl
      · refine aw_iconst (pc := 52) (x := 0) d_SR_readBook_52 (by decide) ?_
        exact aw_zreturn (pc := 53) (b := false) d_SR_readBook_53 rfl rfl
    · refine aw_iconst (pc := 52) (x := 0) d_SR_readBook_52 (by decide) ?_
      exact aw_zreturn (pc := 53) (b := false) d_SR_readBook_53 rfl rfl
  · refine aw_aload_n (pc := 9) d_SR_readBook_9 rfl 1 rfl ?_
    refine aw_bipush (pc := 10) (x := 6) d_SR_readBook_10 (by decide) ?_
    refine aw_cVrZ (pc := 12) (ci := 7) (T := TX7) (N := 13) (As := [.int 6]) (st := []) (ok_To_blame Y l1 6 h t1) okV_To_blame rfl (by decide) t1 w3_189 d_SR_readBook_12 rfl (Nat.le_of_ble_eq_true rfl) rfl (Nat.le_of_ble_eq_true rfl) (fun q18 hq18 hTq18 => ?_)
    exact aw_zreturn (pc := 15) (b := q18.1) d_SR_readBook_15 rfl rfl
/-! LastPages$Story.addFinale([II)V -/
theorem d_St_addFinale_0 : decode prog_8_method_9_code 0 = .ok (.aload_n 0, 1) := by decide +kernel
theorem d_St_addFinale_1 : decode prog_8_method_9_code 1 = .ok (.getfield 34, 3) := by decide +kernel
theorem d_St_addFinale_4 : decode prog_8_method_9_code 4 = .ok (.bipush 8, 2) := by decide +kernel
theorem d_St_addFinale_6 : decode prog_8_method_9_code 6 = .ok (.if_icmp .ge 52, 3) := by decide +kernel
theorem d_St_addFinale_9 : decode prog_8_method_9_code 9 = .ok (.iload_n 2, 1) := by decide +kernel
theorem d_St_addFinale_10 : decode prog_8_method_9_code 10 = .ok (.bipush 6, 2) := by decide +kernel
theorem d_St_addFinale_12 : decode prog_8_method_9_code 12 = .ok (.if_icmp .gt 46, 3) := by decide +kernel
theorem d_St_addFinale_15 : decode prog_8_method_9_code 15 = .ok (.iload_n 2, 1) := by decide +kernel
theorem d_St_addFinale_16 : decode prog_8_method_9_code 16 = .ok (.aload_n 1, 1) := by decide +kernel
theorem d_St_addFinale_17 : decode prog_8_method_9_code 17 = .ok (.arraylength, 1) := by decide +kernel
theorem d_St_addFinale_18 : decode prog_8_method_9_code 18 = .ok (.if_icmp .gt 40, 3) := by decide +kernel
theorem d_St_addFinale_21 : decode prog_8_method_9_code 21 = .ok (.aload_n 0, 1) := by decide +kernel
theorem d_St_addFinale_22 : decode prog_8_method_9_code 22 = .ok (.getfield 18, 3) := by decide +kernel
theorem d_St_addFinale_25 : decode prog_8_method_9_code 25 = .ok (.aload_n 0, 1) := by decide +kernel
theorem d_St_addFinale_26 : decode prog_8_method_9_code 26 = .ok (.getfield 34, 3) := by decide +kernel
theorem d_St_addFinale_29 : decode prog_8_method_9_code 29 = .ok (.iload_n 2, 1) := by decide +kernel
theorem d_St_addFinale_30 : decode prog_8_method_9_code 30 = .ok (.iastore, 1) := by decide +kernel
theorem d_St_addFinale_31 : decode prog_8_method_9_code 31 = .ok (.aload_n 1, 1) := by decide +kernel
theorem d_St_addFinale_32 : decode prog_8_method_9_code 32 = .ok (.iconst 0, 1) := by decide +kernel
theorem d_St_addFinale_33 : decode prog_8_method_9_code 33 = .ok (.aload_n 0, 1) := by decide +kernel
theorem d_St_addFinale_34 : decode prog_8_method_9_code 34 = .ok (.getfield 21, 3) := by decide +kernel
theorem d_St_addFinale_37 : decode prog_8_method_9_code 37 = .ok (.aload_n 0, 1) := by decide +kernel
theorem d_St_addFinale_38 : decode prog_8_method_9_code 38 = .ok (.getfield 34, 3) := by decide +kernel
theorem d_St_addFinale_41 : decode prog_8_method_9_code 41 = .ok (.bipush 6, 2) := by decide +kernel
theorem d_St_addFinale_43 : decode prog_8_method_9_code 43 = .ok (.imul, 1) := by decide +kernel
theorem d_St_addFinale_44 : decode prog_8_method_9_code 44 = .ok (.iload_n 2, 1) := by decide +kernel
theorem d_St_addFinale_45 : decode prog_8_method_9_code 45 = .ok (.invokestatic 43, 3) := by decide +kernel
theorem d_St_addFinale_48 : decode prog_8_method_9_code 48 = .ok (.aload_n 0, 1) := by decide +kernel
theorem d_St_addFinale_49 : decode prog_8_method_9_code 49 = .ok (.dup, 1) := by decide +kernel
theorem d_St_addFinale_50 : decode prog_8_method_9_code 50 = .ok (.getfield 34, 3) := by decide +kernel
theorem d_St_addFinale_53 : decode prog_8_method_9_code 53 = .ok (.iconst 1, 1) := by decide +kernel
theorem d_St_addFinale_54 : decode prog_8_method_9_code 54 = .ok (.iadd, 1) := by decide +kernel
theorem d_St_addFinale_55 : decode prog_8_method_9_code 55 = .ok (.putfield 34, 3) := by decide +kernel
theorem d_St_addFinale_58 : decode prog_8_method_9_code 58 = .ok (.return_, 1) := by decide +kernel
def St_addFinale (Y : Ly) (l0 : Nat) (l1 : Nat) (l2 : Int32) (h : Hp) : Option Hp :=
  if 8 ≤ (hGi h 607 l0) then
    some h
  else
    if 6 < l2 then
      some h
    else
      if (Int32.ofNat (lnY Y l1)) < l2 then
        some h
      else
        if inB (hGi h 607 l0) (lnY Y (hGr h 602 l0)) = true then
          letH (hTi h (hGr h 602 l0) (Int32.toNatClampNeg (hGi h 607 l0)) l2) fun h6 =>
          if cpB 0 ((hGi h6 607 l0) * 6) l2 (lnY Y l1) (lnY Y (hGr h6 603 l0)) = true then
            letH (hCi h6 l1 (Int32.toNatClampNeg 0) (hGr h6 603 l0) (Int32.toNatClampNeg ((hGi h6 607 l0) * 6)) (Int32.toNatClampNeg l2)) fun h8 =>
            letH (hSi h8 607 l0 ((hGi h8 607 l0) + 1)) fun h9 =>
            some h9
          else none
        else none
theorem ok_St_addFinale (Y : Ly) (l0 : Nat) (l1 : Nat) (l2 : Int32) (h : Hp) (t0 : isO Y 6 l0) (t1 : isO Y 20 l1) : AM Y 1 K_St_addFinale [.ref l0, .ref l1, .int l2] h (St_addFinale Y l0 l1 l2 h) rV := by
  refine AM.of rfl (Nat.le_of_ble_eq_true rfl) ?_
  show AW Y 1 K_St_addFinale 0 [(0, .ref l0), (1, .ref l1), (2, .int l2)] [] h (St_addFinale Y l0 l1 l2 h) rV
  unfold St_addFinale
  refine aw_aload_n (pc := 0) d_St_addFinale_0 rfl 0 rfl ?_
  refine gt_607 (pc := 1) d_St_addFinale_1 w1_196 t0 ?_
  refine aw_bipush (pc := 4) (x := 8) d_St_addFinale_4 (by decide) ?_
  refine aw_icmp_ge (pc := 6) (tgt := 58) d_St_addFinale_6 (by decide) (fun c1 => ?_) (fun c1 => ?_)
  · exact aw_return (pc := 58) d_St_addFinale_58 rfl rfl
  · refine aw_iload_n (pc := 9) d_St_addFinale_9 rfl 2 rfl ?_
    refine aw_bipush (pc := 10) (x := 6) d_St_addFinale_10 (by decide) ?_
    refine aw_icmp_gt (pc := 12) (tgt := 58) d_St_addFinale_12 (by decide) (fun c2 => ?_) (fun c2 => ?_)
    · exact aw_return (pc := 58) d_St_addFinale_58 rfl rfl
    · refine aw_iload_n (pc := 15) d_St_addFinale_15 rfl 2 rfl ?_
      refine aw_aload_n (pc := 16) d_St_addFinale_16 rfl 1 rfl ?_
      refine aw_alen20 (pc := 17) d_St_addFinale_17 t1 ?_
      refine aw_icmp_gt (pc := 18) (tgt := 58) d_St_addFinale_18 (by decide) (fun c3 => ?_) (fun c3 => ?_)
      · exact aw_return (pc := 58) d_St_addFinale_58 rfl rfl
      · refine aw_aload_n (pc := 21) d_St_addFinale_21 rfl 0 rfl ?_
        refine gt_602 (pc := 22) d_St_addFinale_22 w1_182 t0 (fun tt4 => ?_)
        refine aw_aload_n (pc := 25) d_St_addFinale_25 rfl 0 rfl ?_
        refine gt_607 (pc := 26) d_St_addFinale_26 w1_196 t0 ?_
        refine aw_iload_n (pc := 29) d_St_addFinale_29 rfl 2 rfl ?_
        refine aw_iastore (pc := 30) d_St_addFinale_30 tt4 (fun c5 => ?_)
        refine aw_letH (fun h6 => ?_)
        refine aw_aload_n (pc := 31) d_St_addFinale_31 rfl 1 rfl ?_
        refine aw_iconst (pc := 32) (x := 0) d_St_addFinale_32 (by decide) ?_
        refine aw_aload_n (pc := 33) d_St_addFinale_33 rfl 0 rfl ?_
        refine gt_603 (pc := 34) d_St_addFinale_34 w1_185 t0 (fun tt7 => ?_)
        refine aw_aload_n (pc := 37) d_St_addFinale_37 rfl 0 rfl ?_
        refine gt_607 (pc := 38) d_St_addFinale_38 w1_196 t0 ?_
        refine aw_bipush (pc := 41) (x := 6) d_St_addFinale_41 (by decide) ?_
        refine aw_imul (pc := 43) d_St_addFinale_43 ?_
        refine aw_iload_n (pc := 44) d_St_addFinale_44 rfl 2 rfl ?_
        refine aw_copyi (pc := 45) d_St_addFinale_45 w4_50 w3_129 w3_128 w1_20 t1 tt7 (Nat.le_of_ble_eq_true rfl) (Nat.le_of_ble_eq_true rfl) ?_
        refine aw_letH (fun h8 => ?_)
        refine aw_aload_n (pc := 48) d_St_addFinale_48 rfl 0 rfl ?_
        refine aw_dup (pc := 49) d_St_addFinale_49 rfl ?_
        refine gt_607 (pc := 50) d_St_addFinale_50 w1_196 t0 ?_
        refine aw_iconst (pc := 53) (x := 1) d_St_addFinale_53 (by decide) ?_
        refine aw_iadd (pc := 54) d_St_addFinale_54 ?_
        refine pt_607 (pc := 55) d_St_addFinale_55 w1_196 t0 ?_
        refine aw_letH (fun h9 => ?_)
        exact aw_return (pc := 58) d_St_addFinale_58 rfl rfl
/-! LastPages$ShelfReader.readFinale(LLastPages$Tokens;LLastPages$Shelf;)Z -/
theorem d_SR_readFinale_0 : decode prog_7_method_8_code 0 = .ok (.aload_n 2, 1) := by decide +kernel
theorem d_SR_readFinale_1 : decode prog_7_method_8_code 1 = .ok (.getfield 79, 3) := by decide +kernel
theorem d_SR_readFinale_4 : decode prog_7_method_8_code 4 = .ok (.getfield 138, 3) := by decide +kernel
theorem d_SR_readFinale_7 : decode prog_7_method_8_code 7 = .ok (.bipush 8, 2) := by decide +kernel
theorem d_SR_readFinale_9 : decode prog_7_method_8_code 9 = .ok (.if_icmp .lt 10, 3) := by decide +kernel
theorem d_SR_readFinale_12 : decode prog_7_method_8_code 12 = .ok (.aload_n 1, 1) := by decide +kernel
theorem d_SR_readFinale_13 : decode prog_7_method_8_code 13 = .ok (.bipush 6, 2) := by decide +kernel
theorem d_SR_readFinale_15 : decode prog_7_method_8_code 15 = .ok (.invokevirtual 75, 3) := by decide +kernel
theorem d_SR_readFinale_18 : decode prog_7_method_8_code 18 = .ok (.ireturn, 1) := by decide +kernel
theorem d_SR_readFinale_19 : decode prog_7_method_8_code 19 = .ok (.aload_n 1, 1) := by decide +kernel
theorem d_SR_readFinale_20 : decode prog_7_method_8_code 20 = .ok (.invokevirtual 88, 3) := by decide +kernel
theorem d_SR_readFinale_23 : decode prog_7_method_8_code 23 = .ok (.aload_n 1, 1) := by decide +kernel
theorem d_SR_readFinale_24 : decode prog_7_method_8_code 24 = .ok (.aload_n 2, 1) := by decide +kernel
theorem d_SR_readFinale_25 : decode prog_7_method_8_code 25 = .ok (.bipush 9, 2) := by decide +kernel
theorem d_SR_readFinale_27 : decode prog_7_method_8_code 27 = .ok (.aload_n 2, 1) := by decide +kernel
theorem d_SR_readFinale_28 : decode prog_7_method_8_code 28 = .ok (.getfield 79, 3) := by decide +kernel
theorem d_SR_readFinale_31 : decode prog_7_method_8_code 31 = .ok (.getfield 138, 3) := by decide +kernel
theorem d_SR_readFinale_34 : decode prog_7_method_8_code 34 = .ok (.invokevirtual 91, 3) := by decide +kernel
theorem d_SR_readFinale_37 : decode prog_7_method_8_code 37 = .ok (.ifCond .eq 14, 3) := by decide +kernel
theorem d_SR_readFinale_40 : decode prog_7_method_8_code 40 = .ok (.aload_n 0, 1) := by decide +kernel
theorem d_SR_readFinale_41 : decode prog_7_method_8_code 41 = .ok (.aload_n 1, 1) := by decide +kernel
theorem d_SR_readFinale_42 : decode prog_7_method_8_code 42 = .ok (.aload_n 2, 1) := by decide +kernel
theorem d_SR_readFinale_43 : decode prog_7_method_8_code 43 = .ok (.bipush 6, 2) := by decide +kernel
theorem d_SR_readFinale_45 : decode prog_7_method_8_code 45 = .ok (.invokevirtual 130, 3) := by decide +kernel
theorem d_SR_readFinale_48 : decode prog_7_method_8_code 48 = .ok (.ifCond .ne 5, 3) := by decide +kernel
theorem d_SR_readFinale_51 : decode prog_7_method_8_code 51 = .ok (.iconst 0, 1) := by decide +kernel
theorem d_SR_readFinale_52 : decode prog_7_method_8_code 52 = .ok (.ireturn, 1) := by decide +kernel
theorem d_SR_readFinale_53 : decode prog_7_method_8_code 53 = .ok (.aload_n 0, 1) := by decide +kernel
theorem d_SR_readFinale_54 : decode prog_7_method_8_code 54 = .ok (.getfield 15, 3) := by decide +kernel
theorem d_SR_readFinale_57 : decode prog_7_method_8_code 57 = .ok (.ifCond .ne 9, 3) := by decide +kernel
theorem d_SR_readFinale_60 : decode prog_7_method_8_code 60 = .ok (.aload_n 1, 1) := by decide +kernel
theorem d_SR_readFinale_61 : decode prog_7_method_8_code 61 = .ok (.iconst 2, 1) := by decide +kernel
theorem d_SR_readFinale_62 : decode prog_7_method_8_code 62 = .ok (.invokevirtual 75, 3) := by decide +kernel
theorem d_SR_readFinale_65 : decode prog_7_method_8_code 65 = .ok (.ireturn, 1) := by decide +kernel
theorem d_SR_readFinale_66 : decode prog_7_method_8_code 66 = .ok (.aload_n 2, 1) := by decide +kernel
theorem d_SR_readFinale_67 : decode prog_7_method_8_code 67 = .ok (.getfield 79, 3) := by decide +kernel
theorem d_SR_readFinale_70 : decode prog_7_method_8_code 70 = .ok (.aload_n 0, 1) := by decide +kernel
theorem d_SR_readFinale_71 : decode prog_7_method_8_code 71 = .ok (.getfield 9, 3) := by decide +kernel
theorem d_SR_readFinale_74 : decode prog_7_method_8_code 74 = .ok (.aload_n 0, 1) := by decide +kernel
theorem d_SR_readFinale_75 : decode prog_7_method_8_code 75 = .ok (.getfield 15, 3) := by decide +kernel
theorem d_SR_readFinale_78 : decode prog_7_method_8_code 78 = .ok (.invokevirtual 141, 3) := by decide +kernel
theorem d_SR_readFinale_81 : decode prog_7_method_8_code 81 = .ok (.aload_n 1, 1) := by decide +kernel
theorem d_SR_readFinale_82 : decode prog_7_method_8_code 82 = .ok (.invokevirtual 99, 3) := by decide +kernel
theorem d_SR_readFinale_85 : decode prog_7_method_8_code 85 = .ok (.ireturn, 1) := by decide +kernel
def SR_readFinale (Y : Ly) (l0 : Nat) (l1 : Nat) (l2 : Nat) (h : Hp) : Option (Bool × Hp) :=
  if (hGi h 607 (hGr h 400 l2)) < 8 then
    (To_advance Y l1 h).bind fun q3 =>
    (To_passNew Y l1 l2 9 (hGi q3 607 (hGr q3 400 l2)) q3).bind fun q5 =>
    if q5.1 = true then
      (SR_readTurns Y l0 l1 l2 6 q5.2).bind fun q7 =>
      if q7.1 = true then
        if (hGi q7.2 501 l0) = 0 then
          (To_blame Y l1 2 q7.2).bind fun q10 =>
          some (q10.1, q10.2)
        else
          (St_addFinale Y (hGr q7.2 400 l2) (hGr q7.2 500 l0) (hGi q7.2 501 l0) q7.2).bind fun q13 =>
          (To_passSemicolon Y l1 q13).bind fun q14 =>
          some (q14.1, q14.2)
      else
        some (false, q7.2)
    else
      some (false, q5.2)
  else
    (To_blame Y l1 6 h).bind fun q15 =>
    some (q15.1, q15.2)
theorem ok_SR_readFinale (Y : Ly) (l0 : Nat) (l1 : Nat) (l2 : Nat) (h : Hp) (t0 : isO Y 5 l0) (t1 : isO Y 7 l1) (t2 : isO Y 4 l2) : AM Y 3 K_SR_readFinale [.ref l0, .ref l1, .ref l2] h (SR_readFinale Y l0 l1 l2 h) rZ := by
  refine AM.of rfl (Nat.le_of_ble_eq_true rfl) ?_
  show AW Y 3 K_SR_readFinale 0 [(0, .ref l0), (1, .ref l1), (2, .ref l2)] [] h (SR_readFinale Y l0 l1 l2 h) rZ
  unfold SR_readFinale
  refine aw_aload_n (pc := 0) d_SR_readFinale_0 rfl 2 rfl ?_
  refine gt_400 (pc := 1) d_SR_readFinale_1 w2_127 t2 (fun tt1 => ?_)
  refine gt_607 (pc := 4) d_SR_readFinale_4 w1_198 tt1 ?_
  refine aw_bipush (pc := 7) (x := 8) d_SR_readFinale_7 (by decide) ?_
  refine aw_icmp_lt (pc := 9) (tgt := 19) d_SR_readFinale_9 (by decide) (fun c2 => ?_) (fun c2 => ?_)
  · refine aw_aload_n (pc := 19) d_SR_readFinale_19 rfl 1 rfl ?_
    refine aw_cVrV (pc := 20) (ci := 7) (T := TX7) (N := 13) (As := []) (st := []) (ok_To_advance Y l1 h t1) okV_To_advance rfl (by decide) t1 w3_193 d_SR_readFinale_20 rfl (Nat.le_of_ble_eq_true rfl) rfl (Nat.le_of_ble_eq_true rfl) (fun q3 hq3 hTq3 => ?_)
    refine aw_aload_n (pc := 23) d_SR_readFinale_23 rfl 1 rfl ?_
    refine aw_aload_n (pc := 24) d_SR_readFinale_24 rfl 2 rfl ?_
    refine aw_bipush (pc := 25) (x := 9) d_SR_readFinale_25 (by decide) ?_
    refine aw_aload_n (pc := 27) d_SR_readFinale_27 rfl 2 rfl ?_
    refine gt_400 (pc := 28) d_SR_readFinale_28 w2_127 t2 (fun tt4 => ?_)
    refine gt_607 (pc := 31) d_SR_readFinale_31 w1_198 tt4 ?_
    refine aw_cVrZ (pc := 34) (ci := 7) (T := TX7) (N := 13) (As := [.ref l2, .int 9, .int (hGi q3 607 (hGr q3 400 l2))]) (st := []) (ok_To_passNew Y l1 l2 9 (hGi q3 607 (hGr q3 400 l2)) q3 t1 t2) okV_To_passNew rfl (by decide) t1 w3_194 d_SR_readFinale_34 rfl (Nat.le_of_ble_eq_true rfl) rfl (Nat.le_of_ble_eq_true rfl) (fun q5 hq5 hTq5 => ?_)
    refine aw_beq (pc := 37) (tgt := 51) d_SR_readFinale_37 (by decide) (fun c6 => ?_) (fun c6 => ?_)
    · refine aw_aload_n (pc := 40) d_SR_readFinale_40 rfl 0 rfl ?_
      refine aw_aload_n (pc := 41) d_SR_readFinale_41 rfl 1 rfl ?_
      refine aw_aload_n (pc := 42) d_SR_readFinale_42 rfl 2 rfl ?_
      refine aw_bipush (pc := 43) (x := 6) d_SR_readFinale_43 (by decide) ?_
      refine aw_cVrZ (pc := 45) (ci := 5) (T := TX5) (N := 2) (As := [.ref l1, .ref l2, .int 6]) (st := []) (ok_SR_readTurns Y l0 l1 l2 6 q5.2 t0 t1 t2) okV_SR_readTurns rfl (by decide) t0 w4_31 d_SR_readFinale_45 rfl (Nat.le_of_ble_eq_true rfl) rfl (Nat.le_of_ble_eq_true rfl) (fun q7 hq7 hTq7 => ?_)
      refine aw_bne (pc := 48) (tgt := 53) d_SR_readFinale_48 (by decide) (fun c8 => ?_) (fun c8 => ?_)
      · refine aw_aload_n (pc := 53) d_SR_readFinale_53 rfl 0 rfl ?_
        refine gt_501 (pc := 54) d_SR_readFinale_54 w1_145 t0 ?_
        refine aw_if_ne (pc := 57) (tgt := 66) d_SR_readFinale_57 (by decide) (fun c9 => ?_) (fun c9 => ?_)
        · refine aw_aload_n (pc := 60) d_SR_readFinale_60 rfl 1 rfl ?_
          refine aw_iconst (pc := 61) (x := 2) d_SR_readFinale_61 (by decide) ?_
          refine aw_cVrZ (pc := 62) (ci := 7) (T := TX7) (N := 13) (As := [.int 2]) (st := []) (ok_To_blame Y l1 2 q7.2 t1) okV_To_blame rfl (by decide) t1 w3_189 d_SR_readFinale_62 rfl (Nat.le_of_ble_eq_true rfl) rfl (Nat.le_of_ble_eq_true rfl) (fun q10 hq10 hTq10 => ?_)
          exact aw_zreturn (pc := 65) (b := q10.1) d_SR_readFinale_65 rfl rfl
        · refine aw_aload_n (pc := 66) d_SR_readFinale_66 rfl 2 rfl ?_
          refine gt_400 (pc := 67) d_SR_readFinale_67 w2_127 t2 (fun tt11 => ?_)
          refine aw_aload_n (pc := 70) d_SR_readFinale_70 rfl 0 rfl ?_
          refine gt_500 (pc := 71) d_SR_readFinale_71 w1_144 t0 (fun tt12 => ?_)
          refine aw_aload_n (pc := 74) d_SR_readFinale_74 rfl 0 rfl ?_
          refine gt_501 (pc := 75) d_SR_readFinale_75 w1_145 t0 ?_
          refine aw_cVrV (pc := 78) (ci := 6) (T := TX6) (N := 8) (As := [.ref (hGr q7.2 500 l0), .int (hGi q7.2 501 l0)]) (st := []) (ok_St_addFinale Y (hGr q7.2 400 l2) (hGr q7.2 500 l0) (hGi q7.2 501 l0) q7.2 tt11 tt12) okV_St_addFinale rfl (by decide) tt11 w4_46 d_SR_readFinale_78 rfl (Nat.le_of_ble_eq_true rfl) rfl (Nat.le_of_ble_eq_true rfl) (fun q13 hq13 hTq13 => ?_)
          refine aw_aload_n (pc := 81) d_SR_readFinale_81 rfl 1 rfl ?_
          refine aw_cVrZ (pc := 82) (ci := 7) (T := TX7) (N := 13) (As := []) (st := []) (ok_To_passSemicolon Y l1 q13 t1) okV_To_passSemicolon rfl (by decide) t1 w3_215 d_SR_readFinale_82 rfl (Nat.le_of_ble_eq_true rfl) rfl (Nat.le_of_ble_eq_true rfl) (fun q14 hq14 hTq14 => ?_)
          exact aw_zreturn (pc := 85) (b := q14.1) d_SR_readFinale_85 rfl rfl
      · refine aw_iconst (pc := 51) (x := 0) d_SR_readFinale_51 (by decide) ?_
        exact aw_zreturn (pc := 52) (b := false) d_SR_readFinale_52 rfl rfl
    · refine aw_iconst (pc := 51) (x := 0) d_SR_readFinale_51 (by decide) ?_
      exact aw_zreturn (pc := 52) (b := false) d_SR_readFinale_52 rfl rfl
  · refine aw_aload_n (pc := 12) d_SR_readFinale_12 rfl 1 rfl ?_
    refine aw_bipush (pc := 13) (x := 6) d_SR_readFinale_13 (by decide) ?_
    refine aw_cVrZ (pc := 15) (ci := 7) (T := TX7) (N := 13) (As := [.int 6]) (st := []) (ok_To_blame Y l1 6 h t1) okV_To_blame rfl (by decide) t1 w3_189 d_SR_readFinale_15 rfl (Nat.le_of_ble_eq_true rfl) rfl (Nat.le_of_ble_eq_true rfl) (fun q15 hq15 hTq15 => ?_)
    exact aw_zreturn (pc := 18) (b := q15.1) d_SR_readFinale_18 rfl rfl
/-! LastPages$ShelfReader.readFollows(LLastPages$Tokens;LLastPages$Shelf;)Z -/
theorem d_SR_readFollows_0 : decode prog_7_method_13_code 0 = .ok (.aload_n 1, 1) := by decide +kernel
theorem d_SR_readFollows_1 : decode prog_7_method_13_code 1 = .ok (.invokevirtual 88, 3) := by decide +kernel
theorem d_SR_readFollows_4 : decode prog_7_method_13_code 4 = .ok (.aload_n 1, 1) := by decide +kernel
theorem d_SR_readFollows_5 : decode prog_7_method_13_code 5 = .ok (.aload_n 2, 1) := by decide +kernel
theorem d_SR_readFollows_6 : decode prog_7_method_13_code 6 = .ok (.bipush 6, 2) := by decide +kernel
theorem d_SR_readFollows_8 : decode prog_7_method_13_code 8 = .ok (.invokevirtual 116, 3) := by decide +kernel
theorem d_SR_readFollows_11 : decode prog_7_method_13_code 11 = .ok (.ifCond .ne 5, 3) := by decide +kernel
theorem d_SR_readFollows_14 : decode prog_7_method_13_code 14 = .ok (.iconst 0, 1) := by decide +kernel
theorem d_SR_readFollows_15 : decode prog_7_method_13_code 15 = .ok (.ireturn, 1) := by decide +kernel
theorem d_SR_readFollows_16 : decode prog_7_method_13_code 16 = .ok (.aload_n 1, 1) := by decide +kernel
theorem d_SR_readFollows_17 : decode prog_7_method_13_code 17 = .ok (.getfield 110, 3) := by decide +kernel
theorem d_SR_readFollows_20 : decode prog_7_method_13_code 20 = .ok (.istore_n 3, 1) := by decide +kernel
theorem d_SR_readFollows_21 : decode prog_7_method_13_code 21 = .ok (.aload_n 1, 1) := by decide +kernel
theorem d_SR_readFollows_22 : decode prog_7_method_13_code 22 = .ok (.aload_n 2, 1) := by decide +kernel
theorem d_SR_readFollows_23 : decode prog_7_method_13_code 23 = .ok (.bipush 6, 2) := by decide +kernel
theorem d_SR_readFollows_25 : decode prog_7_method_13_code 25 = .ok (.invokevirtual 148, 3) := by decide +kernel
theorem d_SR_readFollows_28 : decode prog_7_method_13_code 28 = .ok (.ifCond .ne 5, 3) := by decide +kernel
theorem d_SR_readFollows_31 : decode prog_7_method_13_code 31 = .ok (.iconst 0, 1) := by decide +kernel
theorem d_SR_readFollows_32 : decode prog_7_method_13_code 32 = .ok (.ireturn, 1) := by decide +kernel
theorem d_SR_readFollows_33 : decode prog_7_method_13_code 33 = .ok (.aload_n 1, 1) := by decide +kernel
theorem d_SR_readFollows_34 : decode prog_7_method_13_code 34 = .ok (.getfield 110, 3) := by decide +kernel
theorem d_SR_readFollows_37 : decode prog_7_method_13_code 37 = .ok (.iload_n 3, 1) := by decide +kernel
theorem d_SR_readFollows_38 : decode prog_7_method_13_code 38 = .ok (.if_icmp .ne 9, 3) := by decide +kernel
theorem d_SR_readFollows_41 : decode prog_7_method_13_code 41 = .ok (.aload_n 1, 1) := by decide +kernel
theorem d_SR_readFollows_42 : decode prog_7_method_13_code 42 = .ok (.iconst 5, 1) := by decide +kernel
theorem d_SR_readFollows_43 : decode prog_7_method_13_code 43 = .ok (.invokevirtual 75, 3) := by decide +kernel
theorem d_SR_readFollows_46 : decode prog_7_method_13_code 46 = .ok (.ireturn, 1) := by decide +kernel
theorem d_SR_readFollows_47 : decode prog_7_method_13_code 47 = .ok (.aload_n 2, 1) := by decide +kernel
theorem d_SR_readFollows_48 : decode prog_7_method_13_code 48 = .ok (.iload_n 3, 1) := by decide +kernel
theorem d_SR_readFollows_49 : decode prog_7_method_13_code 49 = .ok (.invokevirtual 154, 3) := by decide +kernel
theorem d_SR_readFollows_52 : decode prog_7_method_13_code 52 = .ok (.ifCond .eq 18, 3) := by decide +kernel
theorem d_SR_readFollows_55 : decode prog_7_method_13_code 55 = .ok (.aload_n 2, 1) := by decide +kernel
theorem d_SR_readFollows_56 : decode prog_7_method_13_code 56 = .ok (.getfield 179, 3) := by decide +kernel
theorem d_SR_readFollows_59 : decode prog_7_method_13_code 59 = .ok (.iload_n 3, 1) := by decide +kernel
theorem d_SR_readFollows_60 : decode prog_7_method_13_code 60 = .ok (.dup2, 1) := by decide +kernel
theorem d_SR_readFollows_61 : decode prog_7_method_13_code 61 = .ok (.iaload, 1) := by decide +kernel
theorem d_SR_readFollows_62 : decode prog_7_method_13_code 62 = .ok (.iconst 1, 1) := by decide +kernel
theorem d_SR_readFollows_63 : decode prog_7_method_13_code 63 = .ok (.aload_n 1, 1) := by decide +kernel
theorem d_SR_readFollows_64 : decode prog_7_method_13_code 64 = .ok (.getfield 110, 3) := by decide +kernel
theorem d_SR_readFollows_67 : decode prog_7_method_13_code 67 = .ok (.ishl, 1) := by decide +kernel
theorem d_SR_readFollows_68 : decode prog_7_method_13_code 68 = .ok (.ior, 1) := by decide +kernel
theorem d_SR_readFollows_69 : decode prog_7_method_13_code 69 = .ok (.iastore, 1) := by decide +kernel
theorem d_SR_readFollows_70 : decode prog_7_method_13_code 70 = .ok (.aload_n 1, 1) := by decide +kernel
theorem d_SR_readFollows_71 : decode prog_7_method_13_code 71 = .ok (.invokevirtual 88, 3) := by decide +kernel
theorem d_SR_readFollows_74 : decode prog_7_method_13_code 74 = .ok (.aload_n 1, 1) := by decide +kernel
theorem d_SR_readFollows_75 : decode prog_7_method_13_code 75 = .ok (.invokevirtual 99, 3) := by decide +kernel
theorem d_SR_readFollows_78 : decode prog_7_method_13_code 78 = .ok (.ireturn, 1) := by decide +kernel
def SR_readFollows (Y : Ly) (l0 : Nat) (l1 : Nat) (l2 : Nat) (h : Hp) : Option (Bool × Hp) :=
  (To_advance Y l1 h).bind fun q1 =>
  (To_passOld Y l1 l2 6 q1).bind fun q2 =>
  if q2.1 = true then
    (To_seeOld Y l1 l2 6 q2.2).bind fun q4 =>
    if q4.1 = true then
      if (hGi q4.2 710 l1) = (hGi q2.2 710 l1) then
        (To_blame Y l1 5 q4.2).bind fun q7 =>
        some (q7.1, q7.2)
      else
        (Sh_hasBook Y l2 (hGi q2.2 710 l1) q4.2).bind fun q8 =>
        if q8 = true then
          if inB (hGi q2.2 710 l1) (lnY Y (hGr q4.2 411 l2)) = true then
            if inB (hGi q2.2 710 l1) (lnY Y (hGr q4.2 411 l2)) = true then
              letH (hTi q4.2 (hGr q4.2 411 l2) (Int32.toNatClampNeg (hGi q2.2 710 l1)) ((hAi q4.2 (hGr q4.2 411 l2) (Int32.toNatClampNeg (hGi q2.2 710 l1))) ||| ((1 : Int32) <<< ((hGi q4.2 710 l1) &&& 31)))) fun h13 =>
              (To_advance Y l1 h13).bind fun q14 =>
              (To_passSemicolon Y l1 q14).bind fun q15 =>
              some (q15.1, q15.2)
            else none
          else none
        else
          (To_advance Y l1 q4.2).bind fun q16 =>
          (To_passSemicolon Y l1 q16).bind fun q17 =>
          some (q17.1, q17.2)
    else
      some (false, q4.2)
  else
    some (false, q2.2)
theorem ok_SR_readFollows (Y : Ly) (l0 : Nat) (l1 : Nat) (l2 : Nat) (h : Hp) (t0 : isO Y 5 l0) (t1 : isO Y 7 l1) (t2 : isO Y 4 l2) : AM Y 3 K_SR_readFollows [.ref l0, .ref l1, .ref l2] h (SR_readFollows Y l0 l1 l2 h) rZ := by
  refine AM.of rfl (Nat.le_of_ble_eq_true rfl) ?_
  show AW Y 3 K_SR_readFollows 0 [(0, .ref l0), (1, .ref l1), (2, .ref l2)] [] h (SR_readFollows Y l0 l1 l2 h) rZ
  unfold SR_readFollows
  refine aw_aload_n (pc := 0) d_SR_readFollows_0 rfl 1 rfl ?_
  refine aw_cVrV (pc := 1) (ci := 7) (T := TX7) (N := 13) (As := []) (st := []) (ok_To_advance Y l1 h t1) okV_To_advance rfl (by decide) t1 w3_193 d_SR_readFollows_1 rfl (Nat.le_of_ble_eq_true rfl) rfl (Nat.le_of_ble_eq_true rfl) (fun q1 hq1 hTq1 => ?_)
  refine aw_aload_n (pc := 4) d_SR_readFollows_4 rfl 1 rfl ?_
  refine aw_aload_n (pc := 5) d_SR_readFollows_5 rfl 2 rfl ?_
  refine aw_bipush (pc := 6) (x := 6) d_SR_readFollows_6 (by decide) ?_
  refine aw_cVrZ (pc := 8) (ci := 7) (T := TX7) (N := 13) (As := [.ref l2, .int 6]) (st := []) (ok_To_passOld Y l1 l2 6 q1 t1 t2) okV_To_passOld rfl (by decide) t1 w3_239 d_SR_readFollows_8 rfl (Nat.le_of_ble_eq_true rfl) rfl (Nat.le_of_ble_eq_true rfl) (fun q2 hq2 hTq2 => ?_)
  refine aw_bne (pc := 11) (tgt := 16) d_SR_readFollows_11 (by decide) (fun c3 => ?_) (fun c3 => ?_)
  · refine aw_aload_n (pc := 16) d_SR_readFollows_16 rfl 1 rfl ?_
    refine gt_710 (pc := 17) d_SR_readFollows_17 w1_103 t1 ?_
    refine aw_istore_n (pc := 20) (lv' := [(3, .int (hGi q2.2 710 l1)), (0, .ref l0), (1, .ref l1), (2, .ref l2)]) d_SR_readFollows_20 rfl (by decide) rfl ?_
    refine aw_aload_n (pc := 21) d_SR_readFollows_21 rfl 2 rfl ?_
    refine aw_aload_n (pc := 22) d_SR_readFollows_22 rfl 3 rfl ?_
    refine aw_bipush (pc := 23) (x := 6) d_SR_readFollows_23 (by decide) ?_
    refine aw_cVrZ (pc := 25) (ci := 7) (T := TX7) (N := 13) (As := [.ref l2, .int 6]) (st := []) (ok_To_seeOld Y l1 l2 6 q2.2 t1 t2) okV_To_seeOld rfl (by decide) t1 w4_36 d_SR_readFollows_25 rfl (Nat.le_of_ble_eq_true rfl) rfl (Nat.le_of_ble_eq_true rfl) (fun q4 hq4 hTq4 => ?_)
    refine aw_bne (pc := 28) (tgt := 33) d_SR_readFollows_28 (by decide) (fun c5 => ?_) (fun c5 => ?_)
    · refine aw_aload_n (pc := 33) d_SR_readFollows_33 rfl 2 rfl ?_
      refine gt_710 (pc := 34) d_SR_readFollows_34 w1_103 t1 ?_
      refine aw_iload_n (pc := 37) d_SR_readFollows_37 rfl 0 rfl ?_
      refine aw_icmp_ne (pc := 38) (tgt := 47) d_SR_readFollows_38 (by decide) (fun c6 => ?_) (fun c6 => ?_)
      · refine aw_aload_n (pc := 41) d_SR_readFollows_41 rfl 2 rfl ?_
        refine aw_iconst (pc := 42) (x := 5) d_SR_readFollows_42 (by decide) ?_
        refine aw_cVrZ (pc := 43) (ci := 7) (T := TX7) (N := 13) (As := [.int 5]) (st := []) (ok_To_blame Y l1 5 q4.2 t1) okV_To_blame rfl (by decide) t1 w3_189 d_SR_readFollows_43 rfl (Nat.le_of_ble_eq_true rfl) rfl (Nat.le_of_ble_eq_true rfl) (fun q7 hq7 hTq7 => ?_)
        exact aw_zreturn (pc := 46) (b := q7.1) d_SR_readFollows_46 rfl rfl
      · refine aw_aload_n (pc := 47) d_SR_readFollows_47 rfl 3 rfl ?_
        refine aw_iload_n (pc := 48) d_SR_readFollows_48 rfl 0 rfl ?_
        refine aw_cVpZ (pc := 49) (ci := 4) (T := TX4) (N := 19) (As := [.int (hGi q2.2 710 l1)]) (st := []) (ok_Sh_hasBook Y l2 (hGi q2.2 710 l1) q4.2 t2) okV_Sh_hasBook rfl (by decide) t2 w4_55 d_SR_readFollows_49 rfl (Nat.le_of_ble_eq_true rfl) rfl (Nat.le_of_ble_eq_true rfl) (fun q8 hq8 hTq8 => ?_)
        refine aw_beq (pc := 52) (tgt := 70) d_SR_readFollows_52 (by decide) (fun c9 => ?_) (fun c9 => ?_)
        · refine aw_aload_n (pc := 55) d_SR_readFollows_55 rfl 3 rfl ?_
          refine gt_411 (pc := 56) d_SR_readFollows_56 w2_152 t2 (fun tt10 => ?_)
          refine aw_iload_n (pc := 59) d_SR_readFollows_59 rfl 0 rfl ?_
          refine aw_dup2_11 (pc := 60) d_SR_readFollows_60 rfl rfl ?_
          refine aw_iaload (pc := 61) d_SR_readFollows_61 tt10 (fun c11 => ?_)
          refine aw_iconst (pc := 62) (x := 1) d_SR_readFollows_62 (by decide) ?_
          refine aw_aload_n (pc := 63) d_SR_readFollows_63 rfl 2 rfl ?_
          refine gt_710 (pc := 64) d_SR_readFollows_64 w1_103 t1 ?_
          refine aw_ishl (pc := 67) d_SR_readFollows_67 ?_
          refine aw_ior (pc := 68) d_SR_readFollows_68 ?_
          refine aw_iastore (pc := 69) d_SR_readFollows_69 tt10 (fun c12 => ?_)
          refine aw_letH (fun h13 => ?_)
          refine aw_aload_n (pc := 70) d_SR_readFollows_70 rfl 2 rfl ?_
          refine aw_cVrV (pc := 71) (ci := 7) (T := TX7) (N := 13) (As := []) (st := []) (ok_To_advance Y l1 h13 t1) okV_To_advance rfl (by decide) t1 w3_193 d_SR_readFollows_71 rfl (Nat.le_of_ble_eq_true rfl) rfl (Nat.le_of_ble_eq_true rfl) (fun q14 hq14 hTq14 => ?_)
          refine aw_aload_n (pc := 74) d_SR_readFollows_74 rfl 2 rfl ?_
          refine aw_cVrZ (pc := 75) (ci := 7) (T := TX7) (N := 13) (As := []) (st := []) (ok_To_passSemicolon Y l1 q14 t1) okV_To_passSemicolon rfl (by decide) t1 w3_215 d_SR_readFollows_75 rfl (Nat.le_of_ble_eq_true rfl) rfl (Nat.le_of_ble_eq_true rfl) (fun q15 hq15 hTq15 => ?_)
          exact aw_zreturn (pc := 78) (b := q15.1) d_SR_readFollows_78 rfl rfl
        · refine aw_aload_n (pc := 70) d_SR_readFollows_70 rfl 2 rfl ?_
          refine aw_cVrV (pc := 71) (ci := 7) (T := TX7) (N := 13) (As := []) (st := []) (ok_To_advance Y l1 q4.2 t1) okV_To_advance rfl (by decide) t1 w3_193 d_SR_readFollows_71 rfl (Nat.le_of_ble_eq_true rfl) rfl (Nat.le_of_ble_eq_true rfl) (fun q16 hq16 hTq16 => ?_)
          refine aw_aload_n (pc := 74) d_SR_readFollows_74 rfl 2 rfl ?_
          refine aw_cVrZ (pc := 75) (ci := 7) (T := TX7) (N := 13) (As := []) (st := []) (ok_To_passSemicolon Y l1 q16 t1) okV_To_passSemicolon rfl (by decide) t1 w3_215 d_SR_readFollows_75 rfl (Nat.le_of_ble_eq_true rfl) rfl (Nat.le_of_ble_eq_true rfl) (fun q17 hq17 hTq17 => ?_)
          exact aw_zreturn (pc := 78) (b := q17.1) d_SR_readFollows_78 rfl rfl
    · refine aw_iconst (pc := 31) (x := 0) d_SR_readFollows_31 (by decide) ?_
      exact aw_zreturn (pc := 32) (b := false) d_SR_readFollows_32 rfl rfl
  · refine aw_iconst (pc := 14) (x := 0) d_SR_readFollows_14 (by decide) ?_
    exact aw_zreturn (pc := 15) (b := false) d_SR_readFollows_15 rfl rfl
/-! LastPages$Shelf.addHint(IIII)V -/
theorem d_Sh_addHint_0 : decode prog_6_method_10_code 0 = .ok (.aload_n 0, 1) := by decide +kernel
theorem d_Sh_addHint_1 : decode prog_6_method_10_code 1 = .ok (.getfield 82, 3) := by decide +kernel
theorem d_Sh_addHint_4 : decode prog_6_method_10_code 4 = .ok (.bipush 12, 2) := by decide +kernel
theorem d_Sh_addHint_6 : decode prog_6_method_10_code 6 = .ok (.if_icmp .ge 60, 3) := by decide +kernel
theorem d_Sh_addHint_9 : decode prog_6_method_10_code 9 = .ok (.aload_n 0, 1) := by decide +kernel
theorem d_Sh_addHint_10 : decode prog_6_method_10_code 10 = .ok (.getfield 82, 3) := by decide +kernel
theorem d_Sh_addHint_13 : decode prog_6_method_10_code 13 = .ok (.iconst 4, 1) := by decide +kernel
theorem d_Sh_addHint_14 : decode prog_6_method_10_code 14 = .ok (.imul, 1) := by decide +kernel
theorem d_Sh_addHint_15 : decode prog_6_method_10_code 15 = .ok (.istore 5, 2) := by decide +kernel
theorem d_Sh_addHint_17 : decode prog_6_method_10_code 17 = .ok (.aload_n 0, 1) := by decide +kernel
theorem d_Sh_addHint_18 : decode prog_6_method_10_code 18 = .ok (.getfield 59, 3) := by decide +kernel
theorem d_Sh_addHint_21 : decode prog_6_method_10_code 21 = .ok (.iload 5, 2) := by decide +kernel
theorem d_Sh_addHint_23 : decode prog_6_method_10_code 23 = .ok (.iload_n 1, 1) := by decide +kernel
theorem d_Sh_addHint_24 : decode prog_6_method_10_code 24 = .ok (.iastore, 1) := by decide +kernel
theorem d_Sh_addHint_25 : decode prog_6_method_10_code 25 = .ok (.aload_n 0, 1) := by decide +kernel
theorem d_Sh_addHint_26 : decode prog_6_method_10_code 26 = .ok (.getfield 59, 3) := by decide +kernel
theorem d_Sh_addHint_29 : decode prog_6_method_10_code 29 = .ok (.iload 5, 2) := by decide +kernel
theorem d_Sh_addHint_31 : decode prog_6_method_10_code 31 = .ok (.iconst 1, 1) := by decide +kernel
theorem d_Sh_addHint_32 : decode prog_6_method_10_code 32 = .ok (.iadd, 1) := by decide +kernel
theorem d_Sh_addHint_33 : decode prog_6_method_10_code 33 = .ok (.iload_n 2, 1) := by decide +kernel
theorem d_Sh_addHint_34 : decode prog_6_method_10_code 34 = .ok (.iastore, 1) := by decide +kernel
theorem d_Sh_addHint_35 : decode prog_6_method_10_code 35 = .ok (.aload_n 0, 1) := by decide +kernel
theorem d_Sh_addHint_36 : decode prog_6_method_10_code 36 = .ok (.getfield 59, 3) := by decide +kernel
theorem d_Sh_addHint_39 : decode prog_6_method_10_code 39 = .ok (.iload 5, 2) := by decide +kernel
theorem d_Sh_addHint_41 : decode prog_6_method_10_code 41 = .ok (.iconst 2, 1) := by decide +kernel
theorem d_Sh_addHint_42 : decode prog_6_method_10_code 42 = .ok (.iadd, 1) := by decide +kernel
theorem d_Sh_addHint_43 : decode prog_6_method_10_code 43 = .ok (.iload_n 3, 1) := by decide +kernel
theorem d_Sh_addHint_44 : decode prog_6_method_10_code 44 = .ok (.iastore, 1) := by decide +kernel
theorem d_Sh_addHint_45 : decode prog_6_method_10_code 45 = .ok (.aload_n 0, 1) := by decide +kernel
theorem d_Sh_addHint_46 : decode prog_6_method_10_code 46 = .ok (.getfield 59, 3) := by decide +kernel
theorem d_Sh_addHint_49 : decode prog_6_method_10_code 49 = .ok (.iload 5, 2) := by decide +kernel
theorem d_Sh_addHint_51 : decode prog_6_method_10_code 51 = .ok (.iconst 3, 1) := by decide +kernel
theorem d_Sh_addHint_52 : decode prog_6_method_10_code 52 = .ok (.iadd, 1) := by decide +kernel
theorem d_Sh_addHint_53 : decode prog_6_method_10_code 53 = .ok (.iload 4, 2) := by decide +kernel
theorem d_Sh_addHint_55 : decode prog_6_method_10_code 55 = .ok (.iastore, 1) := by decide +kernel
theorem d_Sh_addHint_56 : decode prog_6_method_10_code 56 = .ok (.aload_n 0, 1) := by decide +kernel
theorem d_Sh_addHint_57 : decode prog_6_method_10_code 57 = .ok (.dup, 1) := by decide +kernel
theorem d_Sh_addHint_58 : decode prog_6_method_10_code 58 = .ok (.getfield 82, 3) := by decide +kernel
theorem d_Sh_addHint_61 : decode prog_6_method_10_code 61 = .ok (.iconst 1, 1) := by decide +kernel
theorem d_Sh_addHint_62 : decode prog_6_method_10_code 62 = .ok (.iadd, 1) := by decide +kernel
theorem d_Sh_addHint_63 : decode prog_6_method_10_code 63 = .ok (.putfield 82, 3) := by decide +kernel
theorem d_Sh_addHint_66 : decode prog_6_method_10_code 66 = .ok (.return_, 1) := by decide +kernel
def Sh_addHint (Y : Ly) (l0 : Nat) (l1 : Int32) (l2 : Int32) (l3 : Int32) (l4 : Int32) (h : Hp) : Option Hp :=
  if 12 ≤ (hGi h 418 l0) then
    some h
  else
    if inB ((hGi h 418 l0) * 4) (lnY Y (hGr h 412 l0)) = true then
      letH (hTi h (hGr h 412 l0) (Int32.toNatClampNeg ((hGi h 418 l0) * 4)) l1) fun h4 =>
      if inB (((hGi h 418 l0) * 4) + 1) (lnY Y (hGr h4 412 l0)) = true then
        letH (hTi h4 (hGr h4 412 l0) (Int32.toNatClampNeg (((hGi h 418 l0) * 4) + 1)) l2) fun h7 =>
        if inB (((hGi h 418 l0) * 4) + 2) (lnY Y (hGr h7 412 l0)) = true then
          letH (hTi h7 (hGr h7 412 l0) (Int32.toNatClampNeg (((hGi h 418 l0) * 4) + 2)) l3) fun h10 =>
          if inB (((hGi h 418 l0) * 4) + 3) (lnY Y (hGr h10 412 l0)) = true then
            letH (hTi h10 (hGr h10 412 l0) (Int32.toNatClampNeg (((hGi h 418 l0) * 4) + 3)) l4) fun h13 =>
            letH (hSi h13 418 l0 ((hGi h13 418 l0) + 1)) fun h14 =>
            some h14
          else none
        else none
      else none
    else none
theorem ok_Sh_addHint (Y : Ly) (l0 : Nat) (l1 : Int32) (l2 : Int32) (l3 : Int32) (l4 : Int32) (h : Hp) (t0 : isO Y 4 l0) : AM Y 0 K_Sh_addHint [.ref l0, .int l1, .int l2, .int l3, .int l4] h (Sh_addHint Y l0 l1 l2 l3 l4 h) rV := by
  refine AM.of rfl (Nat.le_of_ble_eq_true rfl) ?_
  show AW Y 0 K_Sh_addHint 0 [(0, .ref l0), (1, .int l1), (2, .int l2), (3, .int l3), (4, .int l4)] [] h (Sh_addHint Y l0 l1 l2 l3 l4 h) rV
  unfold Sh_addHint
  refine aw_aload_n (pc := 0) d_Sh_addHint_0 rfl 0 rfl ?_
  refine gt_418 (pc := 1) d_Sh_addHint_1 w2_170 t0 ?_
  refine aw_bipush (pc := 4) (x := 12) d_Sh_addHint_4 (by decide) ?_
  refine aw_icmp_ge (pc := 6) (tgt := 66) d_Sh_addHint_6 (by decide) (fun c1 => ?_) (fun c1 => ?_)
  · exact aw_return (pc := 66) d_Sh_addHint_66 rfl rfl
  · refine aw_aload_n (pc := 9) d_Sh_addHint_9 rfl 0 rfl ?_
    refine gt_418 (pc := 10) d_Sh_addHint_10 w2_170 t0 ?_
    refine aw_iconst (pc := 13) (x := 4) d_Sh_addHint_13 (by decide) ?_
    refine aw_imul (pc := 14) d_Sh_addHint_14 ?_
    refine aw_istore (pc := 15) (lv' := [(5, .int ((hGi h 418 l0) * 4)), (0, .ref l0), (1, .int l1), (2, .int l2), (3, .int l3), (4, .int l4)]) d_Sh_addHint_15 (by decide) rfl ?_
    refine aw_aload_n (pc := 17) d_Sh_addHint_17 rfl 1 rfl ?_
    refine gt_412 (pc := 18) d_Sh_addHint_18 w2_153 t0 (fun tt2 => ?_)
    refine aw_iload (pc := 21) d_Sh_addHint_21 0 rfl ?_
    refine aw_iload_n (pc := 23) d_Sh_addHint_23 rfl 2 rfl ?_
    refine aw_iastore (pc := 24) d_Sh_addHint_24 tt2 (fun c3 => ?_)
    refine aw_letH (fun h4 => ?_)
    refine aw_aload_n (pc := 25) d_Sh_addHint_25 rfl 1 rfl ?_
    refine gt_412 (pc := 26) d_Sh_addHint_26 w2_153 t0 (fun tt5 => ?_)
    refine aw_iload (pc := 29) d_Sh_addHint_29 0 rfl ?_
    refine aw_iconst (pc := 31) (x := 1) d_Sh_addHint_31 (by decide) ?_
    refine aw_iadd (pc := 32) d_Sh_addHint_32 ?_
    refine aw_iload_n (pc := 33) d_Sh_addHint_33 rfl 3 rfl ?_
    refine aw_iastore (pc := 34) d_Sh_addHint_34 tt5 (fun c6 => ?_)
    refine aw_letH (fun h7 => ?_)
    refine aw_aload_n (pc := 35) d_Sh_addHint_35 rfl 1 rfl ?_
    refine gt_412 (pc := 36) d_Sh_addHint_36 w2_153 t0 (fun tt8 => ?_)
    refine aw_iload (pc := 39) d_Sh_addHint_39 0 rfl ?_
    refine aw_iconst (pc := 41) (x := 2) d_Sh_addHint_41 (by decide) ?_
    refine aw_iadd (pc := 42) d_Sh_addHint_42 ?_
    refine aw_iload_n (pc := 43) d_Sh_addHint_43 rfl 4 rfl ?_
    refine aw_iastore (pc := 44) d_Sh_addHint_44 tt8 (fun c9 => ?_)
    refine aw_letH (fun h10 => ?_)
    refine aw_aload_n (pc := 45) d_Sh_addHint_45 rfl 1 rfl ?_
    refine gt_412 (pc := 46) d_Sh_addHint_46 w2_153 t0 (fun tt11 => ?_)
    refine aw_iload (pc := 49) d_Sh_addHint_49 0 rfl ?_
    refine aw_iconst (pc := 51) (x := 3) d_Sh_addHint_51 (by decide) ?_
    refine aw_iadd (pc := 52) d_Sh_addHint_52 ?_
    refine aw_iload (pc := 53) d_Sh_addHint_53 5 rfl ?_
    refine aw_iastore (pc := 55) d_Sh_addHint_55 tt11 (fun c12 => ?_)
    refine aw_letH (fun h13 => ?_)
    refine aw_aload_n (pc := 56) d_Sh_addHint_56 rfl 1 rfl ?_
    refine aw_dup (pc := 57) d_Sh_addHint_57 rfl ?_
    refine gt_418 (pc := 58) d_Sh_addHint_58 w2_170 t0 ?_
    refine aw_iconst (pc := 61) (x := 1) d_Sh_addHint_61 (by decide) ?_
    refine aw_iadd (pc := 62) d_Sh_addHint_62 ?_
    refine pt_418 (pc := 63) d_Sh_addHint_63 w2_170 t0 ?_
    refine aw_letH (fun h14 => ?_)
    exact aw_return (pc := 66) d_Sh_addHint_66 rfl rfl
/-! LastPages$ShelfReader.readHint(LLastPages$Tokens;LLastPages$Shelf;)Z -/
theorem d_SR_readHint_0 : decode prog_7_method_10_code 0 = .ok (.aload_n 2, 1) := by decide +kernel
theorem d_SR_readHint_1 : decode prog_7_method_10_code 1 = .ok (.getfield 151, 3) := by decide +kernel
theorem d_SR_readHint_4 : decode prog_7_method_10_code 4 = .ok (.bipush 12, 2) := by decide +kernel
theorem d_SR_readHint_6 : decode prog_7_method_10_code 6 = .ok (.if_icmp .lt 10, 3) := by decide +kernel
theorem d_SR_readHint_9 : decode prog_7_method_10_code 9 = .ok (.aload_n 1, 1) := by decide +kernel
theorem d_SR_readHint_10 : decode prog_7_method_10_code 10 = .ok (.bipush 6, 2) := by decide +kernel
theorem d_SR_readHint_12 : decode prog_7_method_10_code 12 = .ok (.invokevirtual 75, 3) := by decide +kernel
theorem d_SR_readHint_15 : decode prog_7_method_10_code 15 = .ok (.ireturn, 1) := by decide +kernel
theorem d_SR_readHint_16 : decode prog_7_method_10_code 16 = .ok (.aload_n 1, 1) := by decide +kernel
theorem d_SR_readHint_17 : decode prog_7_method_10_code 17 = .ok (.invokevirtual 88, 3) := by decide +kernel
theorem d_SR_readHint_20 : decode prog_7_method_10_code 20 = .ok (.aload_n 1, 1) := by decide +kernel
theorem d_SR_readHint_21 : decode prog_7_method_10_code 21 = .ok (.aload_n 2, 1) := by decide +kernel
theorem d_SR_readHint_22 : decode prog_7_method_10_code 22 = .ok (.bipush 6, 2) := by decide +kernel
theorem d_SR_readHint_24 : decode prog_7_method_10_code 24 = .ok (.invokevirtual 116, 3) := by decide +kernel
theorem d_SR_readHint_27 : decode prog_7_method_10_code 27 = .ok (.ifCond .ne 5, 3) := by decide +kernel
theorem d_SR_readHint_30 : decode prog_7_method_10_code 30 = .ok (.iconst 0, 1) := by decide +kernel
theorem d_SR_readHint_31 : decode prog_7_method_10_code 31 = .ok (.ireturn, 1) := by decide +kernel
theorem d_SR_readHint_32 : decode prog_7_method_10_code 32 = .ok (.aload_n 1, 1) := by decide +kernel
theorem d_SR_readHint_33 : decode prog_7_method_10_code 33 = .ok (.getfield 110, 3) := by decide +kernel
theorem d_SR_readHint_36 : decode prog_7_method_10_code 36 = .ok (.istore_n 3, 1) := by decide +kernel
theorem d_SR_readHint_37 : decode prog_7_method_10_code 37 = .ok (.aload_n 2, 1) := by decide +kernel
theorem d_SR_readHint_38 : decode prog_7_method_10_code 38 = .ok (.iload_n 3, 1) := by decide +kernel
theorem d_SR_readHint_39 : decode prog_7_method_10_code 39 = .ok (.invokevirtual 154, 3) := by decide +kernel
theorem d_SR_readHint_42 : decode prog_7_method_10_code 42 = .ok (.ifCond .eq 12, 3) := by decide +kernel
theorem d_SR_readHint_45 : decode prog_7_method_10_code 45 = .ok (.aload_n 2, 1) := by decide +kernel
theorem d_SR_readHint_46 : decode prog_7_method_10_code 46 = .ok (.getfield 157, 3) := by decide +kernel
theorem d_SR_readHint_49 : decode prog_7_method_10_code 49 = .ok (.iload_n 3, 1) := by decide +kernel
theorem d_SR_readHint_50 : decode prog_7_method_10_code 50 = .ok (.iaload, 1) := by decide +kernel
theorem d_SR_readHint_51 : decode prog_7_method_10_code 51 = .ok (.goto 4, 3) := by decide +kernel
theorem d_SR_readHint_54 : decode prog_7_method_10_code 54 = .ok (.iconst 0, 1) := by decide +kernel
theorem d_SR_readHint_55 : decode prog_7_method_10_code 55 = .ok (.istore 4, 2) := by decide +kernel
theorem d_SR_readHint_57 : decode prog_7_method_10_code 57 = .ok (.aload_n 1, 1) := by decide +kernel
theorem d_SR_readHint_58 : decode prog_7_method_10_code 58 = .ok (.bipush 11, 2) := by decide +kernel
theorem d_SR_readHint_60 : decode prog_7_method_10_code 60 = .ok (.invokevirtual 120, 3) := by decide +kernel
theorem d_SR_readHint_63 : decode prog_7_method_10_code 63 = .ok (.ifCond .eq 13, 3) := by decide +kernel
theorem d_SR_readHint_66 : decode prog_7_method_10_code 66 = .ok (.aload_n 1, 1) := by decide +kernel
theorem d_SR_readHint_67 : decode prog_7_method_10_code 67 = .ok (.iconst 1, 1) := by decide +kernel
theorem d_SR_readHint_68 : decode prog_7_method_10_code 68 = .ok (.iload 4, 2) := by decide +kernel
theorem d_SR_readHint_70 : decode prog_7_method_10_code 70 = .ok (.invokevirtual 106, 3) := by decide +kernel
theorem d_SR_readHint_73 : decode prog_7_method_10_code 73 = .ok (.ifCond .ne 5, 3) := by decide +kernel
theorem d_SR_readHint_76 : decode prog_7_method_10_code 76 = .ok (.iconst 0, 1) := by decide +kernel
theorem d_SR_readHint_77 : decode prog_7_method_10_code 77 = .ok (.ireturn, 1) := by decide +kernel
theorem d_SR_readHint_78 : decode prog_7_method_10_code 78 = .ok (.aload_n 1, 1) := by decide +kernel
theorem d_SR_readHint_79 : decode prog_7_method_10_code 79 = .ok (.getfield 110, 3) := by decide +kernel
theorem d_SR_readHint_82 : decode prog_7_method_10_code 82 = .ok (.istore 5, 2) := by decide +kernel
theorem d_SR_readHint_84 : decode prog_7_method_10_code 84 = .ok (.aload_n 1, 1) := by decide +kernel
theorem d_SR_readHint_85 : decode prog_7_method_10_code 85 = .ok (.bipush 12, 2) := by decide +kernel
theorem d_SR_readHint_87 : decode prog_7_method_10_code 87 = .ok (.invokevirtual 120, 3) := by decide +kernel
theorem d_SR_readHint_90 : decode prog_7_method_10_code 90 = .ok (.ifCond .eq 12, 3) := by decide +kernel
theorem d_SR_readHint_93 : decode prog_7_method_10_code 93 = .ok (.aload_n 1, 1) := by decide +kernel
theorem d_SR_readHint_94 : decode prog_7_method_10_code 94 = .ok (.aload_n 2, 1) := by decide +kernel
theorem d_SR_readHint_95 : decode prog_7_method_10_code 95 = .ok (.iconst 2, 1) := by decide +kernel
theorem d_SR_readHint_96 : decode prog_7_method_10_code 96 = .ok (.invokevirtual 116, 3) := by decide +kernel
theorem d_SR_readHint_99 : decode prog_7_method_10_code 99 = .ok (.ifCond .ne 5, 3) := by decide +kernel
theorem d_SR_readHint_102 : decode prog_7_method_10_code 102 = .ok (.iconst 0, 1) := by decide +kernel
theorem d_SR_readHint_103 : decode prog_7_method_10_code 103 = .ok (.ireturn, 1) := by decide +kernel
theorem d_SR_readHint_104 : decode prog_7_method_10_code 104 = .ok (.aload_n 1, 1) := by decide +kernel
theorem d_SR_readHint_105 : decode prog_7_method_10_code 105 = .ok (.getfield 110, 3) := by decide +kernel
theorem d_SR_readHint_108 : decode prog_7_method_10_code 108 = .ok (.istore 6, 2) := by decide +kernel
theorem d_SR_readHint_110 : decode prog_7_method_10_code 110 = .ok (.aload_n 1, 1) := by decide +kernel
theorem d_SR_readHint_111 : decode prog_7_method_10_code 111 = .ok (.bipush 13, 2) := by decide +kernel
theorem d_SR_readHint_113 : decode prog_7_method_10_code 113 = .ok (.invokevirtual 120, 3) := by decide +kernel
theorem d_SR_readHint_116 : decode prog_7_method_10_code 116 = .ok (.ifCond .eq 13, 3) := by decide +kernel
theorem d_SR_readHint_119 : decode prog_7_method_10_code 119 = .ok (.aload_n 1, 1) := by decide +kernel
theorem d_SR_readHint_120 : decode prog_7_method_10_code 120 = .ok (.aload_n 2, 1) := by decide +kernel
theorem d_SR_readHint_121 : decode prog_7_method_10_code 121 = .ok (.bipush 14, 2) := by decide +kernel
theorem d_SR_readHint_123 : decode prog_7_method_10_code 123 = .ok (.invokevirtual 116, 3) := by decide +kernel
theorem d_SR_readHint_126 : decode prog_7_method_10_code 126 = .ok (.ifCond .ne 5, 3) := by decide +kernel
theorem d_SR_readHint_129 : decode prog_7_method_10_code 129 = .ok (.iconst 0, 1) := by decide +kernel
theorem d_SR_readHint_130 : decode prog_7_method_10_code 130 = .ok (.ireturn, 1) := by decide +kernel
theorem d_SR_readHint_131 : decode prog_7_method_10_code 131 = .ok (.aload_n 2, 1) := by decide +kernel
theorem d_SR_readHint_132 : decode prog_7_method_10_code 132 = .ok (.iload_n 3, 1) := by decide +kernel
theorem d_SR_readHint_133 : decode prog_7_method_10_code 133 = .ok (.iload 5, 2) := by decide +kernel
theorem d_SR_readHint_135 : decode prog_7_method_10_code 135 = .ok (.iload 6, 2) := by decide +kernel
theorem d_SR_readHint_137 : decode prog_7_method_10_code 137 = .ok (.aload_n 1, 1) := by decide +kernel
theorem d_SR_readHint_138 : decode prog_7_method_10_code 138 = .ok (.getfield 110, 3) := by decide +kernel
theorem d_SR_readHint_141 : decode prog_7_method_10_code 141 = .ok (.invokevirtual 160, 3) := by decide +kernel
theorem d_SR_readHint_144 : decode prog_7_method_10_code 144 = .ok (.aload_n 1, 1) := by decide +kernel
theorem d_SR_readHint_145 : decode prog_7_method_10_code 145 = .ok (.invokevirtual 99, 3) := by decide +kernel
theorem d_SR_readHint_148 : decode prog_7_method_10_code 148 = .ok (.ireturn, 1) := by decide +kernel
def SR_readHint_J55 (Y : Ly) (l1 : Nat) (l2 : Nat) (l3 : Int32) (s0 : Int32) (h : Hp) : Option (Bool × Hp) :=
  (To_passWord Y l1 11 h).bind fun q9 =>
  if q9.1 = true then
    (To_passNumber Y l1 1 s0 q9.2).bind fun q11 =>
    if q11.1 = true then
      (To_passWord Y l1 12 q11.2).bind fun q13 =>
      if q13.1 = true then
        (To_passOld Y l1 l2 2 q13.2).bind fun q15 =>
        if q15.1 = true then
          (To_passWord Y l1 13 q15.2).bind fun q17 =>
          if q17.1 = true then
            (To_passOld Y l1 l2 14 q17.2).bind fun q19 =>
            if q19.1 = true then
              (Sh_addHint Y l2 l3 (hGi q11.2 710 l1) (hGi q15.2 710 l1) (hGi q19.2 710 l1) q19.2).bind fun q21 =>
              (To_passSemicolon Y l1 q21).bind fun q22 =>
              some (q22.1, q22.2)
            else
              some (false, q19.2)
          else
            some (false, q17.2)
        else
          some (false, q15.2)
      else
        some (false, q13.2)
    else
      some (false, q11.2)
  else
    some (false, q9.2)
theorem SR_readHint_J55_ok (Y : Ly) (l1 : Nat) (l2 : Nat) (l3 : Int32) (s0 : Int32) (h : Hp) (tl1 : isO Y 7 l1) (tl2 : isO Y 4 l2) : AW Y 3 K_SR_readHint 55 [(1, .ref l1), (2, .ref l2), (3, .int l3)] [.int s0] h (SR_readHint_J55 Y l1 l2 l3 s0 h) rZ := by
  unfold SR_readHint_J55
  refine aw_istore (pc := 55) (lv' := [(4, .int s0), (1, .ref l1), (2, .ref l2), (3, .int l3)]) d_SR_readHint_55 (by decide) rfl ?_
  refine aw_aload_n (pc := 57) d_SR_readHint_57 rfl 1 rfl ?_
  refine aw_bipush (pc := 58) (x := 11) d_SR_readHint_58 (by decide) ?_
  refine aw_cVrZ (pc := 60) (ci := 7) (T := TX7) (N := 13) (As := [.int 11]) (st := []) (ok_To_passWord Y l1 11 h tl1) okV_To_passWord rfl (by decide) tl1 w4_11 d_SR_readHint_60 rfl (Nat.le_of_ble_eq_true rfl) rfl (Nat.le_of_ble_eq_true rfl) (fun q9 hq9 hTq9 => ?_)
  refine aw_beq (pc := 63) (tgt := 76) d_SR_readHint_63 (by decide) (fun c10 => ?_) (fun c10 => ?_)
  · refine aw_aload_n (pc := 66) d_SR_readHint_66 rfl 1 rfl ?_
    refine aw_iconst (pc := 67) (x := 1) d_SR_readHint_67 (by decide) ?_
    refine aw_iload (pc := 68) d_SR_readHint_68 0 rfl ?_
    refine aw_cVrZ (pc := 70) (ci := 7) (T := TX7) (N := 13) (As := [.int 1, .int s0]) (st := []) (ok_To_passNumber Y l1 1 s0 q9.2 tl1) okV_To_passNumber rfl (by decide) tl1 w3_227 d_SR_readHint_70 rfl (Nat.le_of_ble_eq_true rfl) rfl (Nat.le_of_ble_eq_true rfl) (fun q11 hq11 hTq11 => ?_)
    refine aw_bne (pc := 73) (tgt := 78) d_SR_readHint_73 (by decide) (fun c12 => ?_) (fun c12 => ?_)
    · refine aw_aload_n (pc := 78) d_SR_readHint_78 rfl 1 rfl ?_
      refine gt_710 (pc := 79) d_SR_readHint_79 w1_103 tl1 ?_
      refine aw_istore (pc := 82) (lv' := [(5, .int (hGi q11.2 710 l1)), (4, .int s0), (1, .ref l1), (2, .ref l2), (3, .int l3)]) d_SR_readHint_82 (by decide) rfl ?_
      refine aw_aload_n (pc := 84) d_SR_readHint_84 rfl 2 rfl ?_
      refine aw_bipush (pc := 85) (x := 12) d_SR_readHint_85 (by decide) ?_
      refine aw_cVrZ (pc := 87) (ci := 7) (T := TX7) (N := 13) (As := [.int 12]) (st := []) (ok_To_passWord Y l1 12 q11.2 tl1) okV_To_passWord rfl (by decide) tl1 w4_11 d_SR_readHint_87 rfl (Nat.le_of_ble_eq_true rfl) rfl (Nat.le_of_ble_eq_true rfl) (fun q13 hq13 hTq13 => ?_)
      refine aw_beq (pc := 90) (tgt := 102) d_SR_readHint_90 (by decide) (fun c14 => ?_) (fun c14 => ?_)
      · refine aw_aload_n (pc := 93) d_SR_readHint_93 rfl 2 rfl ?_
        refine aw_aload_n (pc := 94) d_SR_readHint_94 rfl 3 rfl ?_
        refine aw_iconst (pc := 95) (x := 2) d_SR_readHint_95 (by decide) ?_
        refine aw_cVrZ (pc := 96) (ci := 7) (T := TX7) (N := 13) (As := [.ref l2, .int 2]) (st := []) (ok_To_passOld Y l1 l2 2 q13.2 tl1 tl2) okV_To_passOld rfl (by decide) tl1 w3_239 d_SR_readHint_96 rfl (Nat.le_of_ble_eq_true rfl) rfl (Nat.le_of_ble_eq_true rfl) (fun q15 hq15 hTq15 => ?_)
        refine aw_bne (pc := 99) (tgt := 104) d_SR_readHint_99 (by decide) (fun c16 => ?_) (fun c16 => ?_)
        · refine aw_aload_n (pc := 104) d_SR_readHint_104 rfl 2 rfl ?_
          refine gt_710 (pc := 105) d_SR_readHint_105 w1_103 tl1 ?_
          refine aw_istore (pc := 108) (lv' := [(6, .int (hGi q15.2 710 l1)), (5, .int (hGi q11.2 710 l1)), (4, .int s0), (1, .ref l1), (2, .ref l2), (3, .int l3)]) d_SR_readHint_108 (by decide) rfl ?_
          refine aw_aload_n (pc := 110) d_SR_readHint_110 rfl 3 rfl ?_
          refine aw_bipush (pc := 111) (x := 13) d_SR_readHint_111 (by decide) ?_
          refine aw_cVrZ (pc := 113) (ci := 7) (T := TX7) (N := 13) (As := [.int 13]) (st := []) (ok_To_passWord Y l1 13 q15.2 tl1) okV_To_passWord rfl (by decide) tl1 w4_11 d_SR_readHint_113 rfl (Nat.le_of_ble_eq_true rfl) rfl (Nat.le_of_ble_eq_true rfl) (fun q17 hq17 hTq17 => ?_)
          refine aw_beq (pc := 116) (tgt := 129) d_SR_readHint_116 (by decide) (fun c18 => ?_) (fun c18 => ?_)
          · refine aw_aload_n (pc := 119) d_SR_readHint_119 rfl 3 rfl ?_
            refine aw_aload_n (pc := 120) d_SR_readHint_120 rfl 4 rfl ?_
            refine aw_bipush (pc := 121) (x := 14) d_SR_readHint_121 (by decide) ?_
            refine aw_cVrZ (pc := 123) (ci := 7) (T := TX7) (N := 13) (As := [.ref l2, .int 14]) (st := []) (ok_To_passOld Y l1 l2 14 q17.2 tl1 tl2) okV_To_passOld rfl (by decide) tl1 w3_239 d_SR_readHint_123 rfl (Nat.le_of_ble_eq_true rfl) rfl (Nat.le_of_ble_eq_true rfl) (fun q19 hq19 hTq19 => ?_)
            refine aw_bne (pc := 126) (tgt := 131) d_SR_readHint_126 (by decide) (fun c20 => ?_) (fun c20 => ?_)
            · refine aw_aload_n (pc := 131) d_SR_readHint_131 rfl 4 rfl ?_
              refine aw_iload_n (pc := 132) d_SR_readHint_132 rfl 5 rfl ?_
              refine aw_iload (pc := 133) d_SR_readHint_133 1 rfl ?_
              refine aw_iload (pc := 135) d_SR_readHint_135 0 rfl ?_
              refine aw_aload_n (pc := 137) d_SR_readHint_137 rfl 3 rfl ?_
              refine gt_710 (pc := 138) d_SR_readHint_138 w1_103 tl1 ?_
              refine aw_cVrV (pc := 141) (ci := 4) (T := TX4) (N := 19) (As := [.int l3, .int (hGi q11.2 710 l1), .int (hGi q15.2 710 l1), .int (hGi q19.2 710 l1)]) (st := []) (ok_Sh_addHint Y l2 l3 (hGi q11.2 710 l1) (hGi q15.2 710 l1) (hGi q19.2 710 l1) q19.2 tl2) okV_Sh_addHint rfl (by decide) tl2 w4_59 d_SR_readHint_141 rfl (Nat.le_of_ble_eq_true rfl) rfl (Nat.le_of_ble_eq_true rfl) (fun q21 hq21 hTq21 => ?_)
              refine aw_aload_n (pc := 144) d_SR_readHint_144 rfl 3 rfl ?_
              refine aw_cVrZ (pc := 145) (ci := 7) (T := TX7) (N := 13) (As := []) (st := []) (ok_To_passSemicolon Y l1 q21 tl1) okV_To_passSemicolon rfl (by decide) tl1 w3_215 d_SR_readHint_145 rfl (Nat.le_of_ble_eq_true rfl) rfl (Nat.le_of_ble_eq_true rfl) (fun q22 hq22 hTq22 => ?_)
              exact aw_zreturn (pc := 148) (b := q22.1) d_SR_readHint_148 rfl rfl
            · refine aw_iconst (pc := 129) (x := 0) d_SR_readHint_129 (by decide) ?_
              exact aw_zreturn (pc := 130) (b := false) d_SR_readHint_130 rfl rfl
          · refine aw_iconst (pc := 129) (x := 0) d_SR_readHint_129 (by decide) ?_
            exact aw_zreturn (pc := 130) (b := false) d_SR_readHint_130 rfl rfl
        · refine aw_iconst (pc := 102) (x := 0) d_SR_readHint_102 (by decide) ?_
          exact aw_zreturn (pc := 103) (b := false) d_SR_readHint_103 rfl rfl
      · refine aw_iconst (pc := 102) (x := 0) d_SR_readHint_102 (by decide) ?_
        exact aw_zreturn (pc := 103) (b := false) d_SR_readHint_103 rfl rfl
    · refine aw_iconst (pc := 76) (x := 0) d_SR_readHint_76 (by decide) ?_
      exact aw_zreturn (pc := 77) (b := false) d_SR_readHint_77 rfl rfl
  · refine aw_iconst (pc := 76) (x := 0) d_SR_readHint_76 (by decide) ?_
    exact aw_zreturn (pc := 77) (b := false) d_SR_readHint_77 rfl rfl
def SR_readHint (Y : Ly) (l0 : Nat) (l1 : Nat) (l2 : Nat) (h : Hp) : Option (Bool × Hp) :=
  if (hGi h 418 l2) < 12 then
    (To_advance Y l1 h).bind fun q2 =>
    (To_passOld Y l1 l2 6 q2).bind fun q3 =>
    if q3.1 = true then
      (Sh_hasBook Y l2 (hGi q3.2 710 l1) q3.2).bind fun q5 =>
      if q5 = true then
        if inB (hGi q3.2 710 l1) (lnY Y (hGr q3.2 407 l2)) = true then
          SR_readHint_J55 Y l1 l2 (hGi q3.2 710 l1) (hAi q3.2 (hGr q3.2 407 l2) (Int32.toNatClampNeg (hGi q3.2 710 l1))) q3.2
        else none
      else
        SR_readHint_J55 Y l1 l2 (hGi q3.2 710 l1) 0 q3.2
    else
      some (false, q3.2)
  else
    (To_blame Y l1 6 h).bind fun q23 =>
    some (q23.1, q23.2)
theorem ok_SR_readHint (Y : Ly) (l0 : Nat) (l1 : Nat) (l2 : Nat) (h : Hp) (t0 : isO Y 5 l0) (t1 : isO Y 7 l1) (t2 : isO Y 4 l2) : AM Y 3 K_SR_readHint [.ref l0, .ref l1, .ref l2] h (SR_readHint Y l0 l1 l2 h) rZ := by
  refine AM.of rfl (Nat.le_of_ble_eq_true rfl) ?_
  show AW Y 3 K_SR_readHint 0 [(0, .ref l0), (1, .ref l1), (2, .ref l2)] [] h (SR_readHint Y l0 l1 l2 h) rZ
  unfold SR_readHint
  refine aw_aload_n (pc := 0) d_SR_readHint_0 rfl 2 rfl ?_
  refine gt_418 (pc := 1) d_SR_readHint_1 w2_172 t2 ?_
  refine aw_bipush (pc := 4) (x := 12) d_SR_readHint_4 (by decide) ?_
  refine aw_icmp_lt (pc := 6) (tgt := 16) d_SR_readHint_6 (by decide) (fun c1 => ?_) (fun c1 => ?_)
  · refine aw_aload_n (pc := 16) d_SR_readHint_16 rfl 1 rfl ?_
    refine aw_cVrV (pc := 17) (ci := 7) (T := TX7) (N := 13) (As := []) (st := []) (ok_To_advance Y l1 h t1) okV_To_advance rfl (by decide) t1 w3_193 d_SR_readHint_17 rfl (Nat.le_of_ble_eq_true rfl) rfl (Nat.le_of_ble_eq_true rfl) (fun q2 hq2 hTq2 => ?_)
    refine aw_aload_n (pc := 20) d_SR_readHint_20 rfl 1 rfl ?_
    refine aw_aload_n (pc := 21) d_SR_readHint_21 rfl 2 rfl ?_
    refine aw_bipush (pc := 22) (x := 6) d_SR_readHint_22 (by decide) ?_
    refine aw_cVrZ (pc := 24) (ci := 7) (T := TX7) (N := 13) (As := [.ref l2, .int 6]) (st := []) (ok_To_passOld Y l1 l2 6 q2 t1 t2) okV_To_passOld rfl (by decide) t1 w3_239 d_SR_readHint_24 rfl (Nat.le_of_ble_eq_true rfl) rfl (Nat.le_of_ble_eq_true rfl) (fun q3 hq3 hTq3 => ?_)
    refine aw_bne (pc := 27) (tgt := 32) d_SR_readHint_27 (by decide) (fun c4 => ?_) (fun c4 => ?_)
    · refine aw_aload_n (pc := 32) d_SR_readHint_32 rfl 1 rfl ?_
      refine gt_710 (pc := 33) d_SR_readHint_33 w1_103 t1 ?_
      refine aw_istore_n (pc := 36) (lv' := [(3, .int (hGi q3.2 710 l1)), (0, .ref l0), (1, .ref l1), (2, .ref l2)]) d_SR_readHint_36 rfl (by decide) rfl ?_
      refine aw_aload_n (pc := 37) d_SR_readHint_37 rfl 3 rfl ?_
      refine aw_iload_n (pc := 38) d_SR_readHint_38 rfl 0 rfl ?_
      refine aw_cVpZ (pc := 39) (ci := 4) (T := TX4) (N := 19) (As := [.int (hGi q3.2 710 l1)]) (st := []) (ok_Sh_hasBook Y l2 (hGi q3.2 710 l1) q3.2 t2) okV_Sh_hasBook rfl (by decide) t2 w4_55 d_SR_readHint_39 rfl (Nat.le_of_ble_eq_true rfl) rfl (Nat.le_of_ble_eq_true rfl) (fun q5 hq5 hTq5 => ?_)
      refine aw_beq (pc := 42) (tgt := 54) d_SR_readHint_42 (by decide) (fun c6 => ?_) (fun c6 => ?_)
      · refine aw_aload_n (pc := 45) d_SR_readHint_45 rfl 3 rfl ?_
        refine gt_407 (pc := 46) d_SR_readHint_46 w2_143 t2 (fun tt7 => ?_)
        refine aw_iload_n (pc := 49) d_SR_readHint_49 rfl 0 rfl ?_
        refine aw_iaload (pc := 50) d_SR_readHint_50 tt7 (fun c8 => ?_)
        refine aw_goto (pc := 51) (tgt := 55) d_SR_readHint_51 (by decide) ?_
        exact aw_lv [2, 3, 0] rfl (SR_readHint_J55_ok Y l1 l2 (hGi q3.2 710 l1) (hAi q3.2 (hGr q3.2 407 l2) (Int32.toNatClampNeg (hGi q3.2 710 l1))) q3.2 t1 t2)
      · refine aw_iconst (pc := 54) (x := 0) d_SR_readHint_54 (by decide) ?_
        exact aw_lv [2, 3, 0] rfl (SR_readHint_J55_ok Y l1 l2 (hGi q3.2 710 l1) 0 q3.2 t1 t2)
    · refine aw_iconst (pc := 30) (x := 0) d_SR_readHint_30 (by decide) ?_
      exact aw_zreturn (pc := 31) (b := false) d_SR_readHint_31 rfl rfl
  · refine aw_aload_n (pc := 9) d_SR_readHint_9 rfl 1 rfl ?_
    refine aw_bipush (pc := 10) (x := 6) d_SR_readHint_10 (by decide) ?_
    refine aw_cVrZ (pc := 12) (ci := 7) (T := TX7) (N := 13) (As := [.int 6]) (st := []) (ok_To_blame Y l1 6 h t1) okV_To_blame rfl (by decide) t1 w3_189 d_SR_readHint_12 rfl (Nat.le_of_ble_eq_true rfl) rfl (Nat.le_of_ble_eq_true rfl) (fun q23 hq23 hTq23 => ?_)
    exact aw_zreturn (pc := 15) (b := q23.1) d_SR_readHint_15 rfl rfl
/-! LastPages$Lot.isFull()Z -/
theorem d_Lo_isFull_0 : decode prog_5_method_4_code 0 = .ok (.aload_n 0, 1) := by decide +kernel
theorem d_Lo_isFull_1 : decode prog_5_method_4_code 1 = .ok (.getfield 7, 3) := by decide +kernel
theorem d_Lo_isFull_4 : decode prog_5_method_4_code 4 = .ok (.aload_n 0, 1) := by decide +kernel
theorem d_Lo_isFull_5 : decode prog_5_method_4_code 5 = .ok (.getfield 19, 3) := by decide +kernel
theorem d_Lo_isFull_8 : decode prog_5_method_4_code 8 = .ok (.arraylength, 1) := by decide +kernel
theorem d_Lo_isFull_9 : decode prog_5_method_4_code 9 = .ok (.if_icmp .lt 7, 3) := by decide +kernel
theorem d_Lo_isFull_12 : decode prog_5_method_4_code 12 = .ok (.iconst 1, 1) := by decide +kernel
theorem d_Lo_isFull_13 : decode prog_5_method_4_code 13 = .ok (.goto 4, 3) := by decide +kernel
theorem d_Lo_isFull_16 : decode prog_5_method_4_code 16 = .ok (.iconst 0, 1) := by decide +kernel
theorem d_Lo_isFull_17 : decode prog_5_method_4_code 17 = .ok (.ireturn, 1) := by decide +kernel
def Lo_isFull (Y : Ly) (l0 : Nat) (h : Hp) : Option Bool :=
  if (hGi h 302 l0) < (Int32.ofNat (lnY Y (hGr h 300 l0))) then
    some false
  else
    some true
theorem ok_Lo_isFull (Y : Ly) (l0 : Nat) (h : Hp) (t0 : isO Y 3 l0) : AM Y 0 K_Lo_isFull [.ref l0] h (Lo_isFull Y l0 h) (pZ h) := by
  refine AM.of rfl (Nat.le_of_ble_eq_true rfl) ?_
  show AW Y 0 K_Lo_isFull 0 [(0, .ref l0)] [] h (Lo_isFull Y l0 h) (pZ h)
  unfold Lo_isFull
  refine aw_aload_n (pc := 0) d_Lo_isFull_0 rfl 0 rfl ?_
  refine gt_302 (pc := 1) d_Lo_isFull_1 w2_72 t0 ?_
  refine aw_aload_n (pc := 4) d_Lo_isFull_4 rfl 0 rfl ?_
  refine gt_300 (pc := 5) d_Lo_isFull_5 w2_68 t0 (fun tt1 => ?_)
  refine aw_alen20 (pc := 8) d_Lo_isFull_8 tt1 ?_
  refine aw_icmp_lt (pc := 9) (tgt := 16) d_Lo_isFull_9 (by decide) (fun c2 => ?_) (fun c2 => ?_)
  · refine aw_iconst (pc := 16) (x := 0) d_Lo_isFull_16 (by decide) ?_
    exact aw_zreturn (pc := 17) (b := false) d_Lo_isFull_17 rfl rfl
  · refine aw_iconst (pc := 12) (x := 1) d_Lo_isFull_12 (by decide) ?_
    refine aw_goto (pc := 13) (tgt := 17) d_Lo_isFull_13 (by decide) ?_
    exact aw_zreturn (pc := 17) (b := true) d_Lo_isFull_17 rfl rfl
/-! LastPages$Lot.addOne(II)V -/
theorem d_Lo_addOne_0 : decode prog_5_method_5_code 0 = .ok (.aload_n 0, 1) := by decide +kernel
theorem d_Lo_addOne_1 : decode prog_5_method_5_code 1 = .ok (.invokevirtual 29, 3) := by decide +kernel
theorem d_Lo_addOne_4 : decode prog_5_method_5_code 4 = .ok (.ifCond .ne 33, 3) := by decide +kernel
theorem d_Lo_addOne_7 : decode prog_5_method_5_code 7 = .ok (.aload_n 0, 1) := by decide +kernel
theorem d_Lo_addOne_8 : decode prog_5_method_5_code 8 = .ok (.getfield 19, 3) := by decide +kernel
theorem d_Lo_addOne_11 : decode prog_5_method_5_code 11 = .ok (.aload_n 0, 1) := by decide +kernel
theorem d_Lo_addOne_12 : decode prog_5_method_5_code 12 = .ok (.getfield 7, 3) := by decide +kernel
theorem d_Lo_addOne_15 : decode prog_5_method_5_code 15 = .ok (.iload_n 1, 1) := by decide +kernel
theorem d_Lo_addOne_16 : decode prog_5_method_5_code 16 = .ok (.iastore, 1) := by decide +kernel
theorem d_Lo_addOne_17 : decode prog_5_method_5_code 17 = .ok (.aload_n 0, 1) := by decide +kernel
theorem d_Lo_addOne_18 : decode prog_5_method_5_code 18 = .ok (.getfield 23, 3) := by decide +kernel
theorem d_Lo_addOne_21 : decode prog_5_method_5_code 21 = .ok (.aload_n 0, 1) := by decide +kernel
theorem d_Lo_addOne_22 : decode prog_5_method_5_code 22 = .ok (.getfield 7, 3) := by decide +kernel
theorem d_Lo_addOne_25 : decode prog_5_method_5_code 25 = .ok (.iload_n 2, 1) := by decide +kernel
theorem d_Lo_addOne_26 : decode prog_5_method_5_code 26 = .ok (.iastore, 1) := by decide +kernel
theorem d_Lo_addOne_27 : decode prog_5_method_5_code 27 = .ok (.aload_n 0, 1) := by decide +kernel
theorem d_Lo_addOne_28 : decode prog_5_method_5_code 28 = .ok (.dup, 1) := by decide +kernel
theorem d_Lo_addOne_29 : decode prog_5_method_5_code 29 = .ok (.getfield 7, 3) := by decide +kernel
theorem d_Lo_addOne_32 : decode prog_5_method_5_code 32 = .ok (.iconst 1, 1) := by decide +kernel
theorem d_Lo_addOne_33 : decode prog_5_method_5_code 33 = .ok (.iadd, 1) := by decide +kernel
theorem d_Lo_addOne_34 : decode prog_5_method_5_code 34 = .ok (.putfield 7, 3) := by decide +kernel
theorem d_Lo_addOne_37 : decode prog_5_method_5_code 37 = .ok (.return_, 1) := by decide +kernel
def Lo_addOne (Y : Ly) (l0 : Nat) (l1 : Int32) (l2 : Int32) (h : Hp) : Option Hp :=
  (Lo_isFull Y l0 h).bind fun q1 =>
  if q1 = true then
    some h
  else
    if inB (hGi h 302 l0) (lnY Y (hGr h 300 l0)) = true then
      letH (hTi h (hGr h 300 l0) (Int32.toNatClampNeg (hGi h 302 l0)) l1) fun h5 =>
      if inB (hGi h5 302 l0) (lnY Y (hGr h5 301 l0)) = true then
        letH (hTi h5 (hGr h5 301 l0) (Int32.toNatClampNeg (hGi h5 302 l0)) l2) fun h8 =>
        letH (hSi h8 302 l0 ((hGi h8 302 l0) + 1)) fun h9 =>
        some h9
      else none
    else none
theorem ok_Lo_addOne (Y : Ly) (l0 : Nat) (l1 : Int32) (l2 : Int32) (h : Hp) (t0 : isO Y 3 l0) : AM Y 1 K_Lo_addOne [.ref l0, .int l1, .int l2] h (Lo_addOne Y l0 l1 l2 h) rV := by
  refine AM.of rfl (Nat.le_of_ble_eq_true rfl) ?_
  show AW Y 1 K_Lo_addOne 0 [(0, .ref l0), (1, .int l1), (2, .int l2)] [] h (Lo_addOne Y l0 l1 l2 h) rV
  unfold Lo_addOne
  refine aw_aload_n (pc := 0) d_Lo_addOne_0 rfl 0 rfl ?_
  refine aw_cVpZ (pc := 1) (ci := 3) (T := TX3) (N := 3) (As := []) (st := []) (ok_Lo_isFull Y l0 h t0) okV_Lo_isFull rfl (by decide) t0 w4_79 d_Lo_addOne_1 rfl (Nat.le_of_ble_eq_true rfl) rfl (Nat.le_of_ble_eq_true rfl) (fun q1 hq1 hTq1 => ?_)
  refine aw_bne (pc := 4) (tgt := 37) d_Lo_addOne_4 (by decide) (fun c2 => ?_) (fun c2 => ?_)
  · exact aw_return (pc := 37) d_Lo_addOne_37 rfl rfl
  · refine aw_aload_n (pc := 7) d_Lo_addOne_7 rfl 0 rfl ?_
    refine gt_300 (pc := 8) d_Lo_addOne_8 w2_68 t0 (fun tt3 => ?_)
    refine aw_aload_n (pc := 11) d_Lo_addOne_11 rfl 0 rfl ?_
    refine gt_302 (pc := 12) d_Lo_addOne_12 w2_72 t0 ?_
    refine aw_iload_n (pc := 15) d_Lo_addOne_15 rfl 1 rfl ?_
    refine aw_iastore (pc := 16) d_Lo_addOne_16 tt3 (fun c4 => ?_)
    refine aw_letH (fun h5 => ?_)
    refine aw_aload_n (pc := 17) d_Lo_addOne_17 rfl 0 rfl ?_
    refine gt_301 (pc := 18) d_Lo_addOne_18 w2_70 t0 (fun tt6 => ?_)
    refine aw_aload_n (pc := 21) d_Lo_addOne_21 rfl 0 rfl ?_
    refine gt_302 (pc := 22) d_Lo_addOne_22 w2_72 t0 ?_
    refine aw_iload_n (pc := 25) d_Lo_addOne_25 rfl 2 rfl ?_
    refine aw_iastore (pc := 26) d_Lo_addOne_26 tt6 (fun c7 => ?_)
    refine aw_letH (fun h8 => ?_)
    refine aw_aload_n (pc := 27) d_Lo_addOne_27 rfl 0 rfl ?_
    refine aw_dup (pc := 28) d_Lo_addOne_28 rfl ?_
    refine gt_302 (pc := 29) d_Lo_addOne_29 w2_72 t0 ?_
    refine aw_iconst (pc := 32) (x := 1) d_Lo_addOne_32 (by decide) ?_
    refine aw_iadd (pc := 33) d_Lo_addOne_33 ?_
    refine pt_302 (pc := 34) d_Lo_addOne_34 w2_72 t0 ?_
    refine aw_letH (fun h9 => ?_)
    exact aw_return (pc := 37) d_Lo_addOne_37 rfl rfl
/-! LastPages$ShelfReader.readLot(LLastPages$Tokens;LLastPages$Shelf;LLastPages$Lot;II)Z -/
theorem d_SR_readLot_0 : decode prog_7_method_12_code 0 = .ok (.aload_n 3, 1) := by decide +kernel
theorem d_SR_readLot_1 : decode prog_7_method_12_code 1 = .ok (.invokevirtual 167, 3) := by decide +kernel
theorem d_SR_readLot_4 : decode prog_7_method_12_code 4 = .ok (.ifCond .eq 10, 3) := by decide +kernel
theorem d_SR_readLot_7 : decode prog_7_method_12_code 7 = .ok (.aload_n 1, 1) := by decide +kernel
theorem d_SR_readLot_8 : decode prog_7_method_12_code 8 = .ok (.bipush 6, 2) := by decide +kernel
theorem d_SR_readLot_10 : decode prog_7_method_12_code 10 = .ok (.invokevirtual 75, 3) := by decide +kernel
theorem d_SR_readLot_13 : decode prog_7_method_12_code 13 = .ok (.ireturn, 1) := by decide +kernel
theorem d_SR_readLot_14 : decode prog_7_method_12_code 14 = .ok (.aload_n 1, 1) := by decide +kernel
theorem d_SR_readLot_15 : decode prog_7_method_12_code 15 = .ok (.invokevirtual 88, 3) := by decide +kernel
theorem d_SR_readLot_18 : decode prog_7_method_12_code 18 = .ok (.aload_n 1, 1) := by decide +kernel
theorem d_SR_readLot_19 : decode prog_7_method_12_code 19 = .ok (.aload_n 2, 1) := by decide +kernel
theorem d_SR_readLot_20 : decode prog_7_method_12_code 20 = .ok (.iload 4, 2) := by decide +kernel
theorem d_SR_readLot_22 : decode prog_7_method_12_code 22 = .ok (.aload_n 3, 1) := by decide +kernel
theorem d_SR_readLot_23 : decode prog_7_method_12_code 23 = .ok (.getfield 172, 3) := by decide +kernel
theorem d_SR_readLot_26 : decode prog_7_method_12_code 26 = .ok (.invokevirtual 91, 3) := by decide +kernel
theorem d_SR_readLot_29 : decode prog_7_method_12_code 29 = .ok (.ifCond .eq 22, 3) := by decide +kernel
theorem d_SR_readLot_32 : decode prog_7_method_12_code 32 = .ok (.aload_n 1, 1) := by decide +kernel
theorem d_SR_readLot_33 : decode prog_7_method_12_code 33 = .ok (.bipush 16, 2) := by decide +kernel
theorem d_SR_readLot_35 : decode prog_7_method_12_code 35 = .ok (.invokevirtual 120, 3) := by decide +kernel
theorem d_SR_readLot_38 : decode prog_7_method_12_code 38 = .ok (.ifCond .eq 13, 3) := by decide +kernel
theorem d_SR_readLot_41 : decode prog_7_method_12_code 41 = .ok (.aload_n 1, 1) := by decide +kernel
theorem d_SR_readLot_42 : decode prog_7_method_12_code 42 = .ok (.iconst 0, 1) := by decide +kernel
theorem d_SR_readLot_43 : decode prog_7_method_12_code 43 = .ok (.bipush 99, 2) := by decide +kernel
theorem d_SR_readLot_45 : decode prog_7_method_12_code 45 = .ok (.invokevirtual 106, 3) := by decide +kernel
theorem d_SR_readLot_48 : decode prog_7_method_12_code 48 = .ok (.ifCond .ne 5, 3) := by decide +kernel
theorem d_SR_readLot_51 : decode prog_7_method_12_code 51 = .ok (.iconst 0, 1) := by decide +kernel
theorem d_SR_readLot_52 : decode prog_7_method_12_code 52 = .ok (.ireturn, 1) := by decide +kernel
theorem d_SR_readLot_53 : decode prog_7_method_12_code 53 = .ok (.aload_n 1, 1) := by decide +kernel
theorem d_SR_readLot_54 : decode prog_7_method_12_code 54 = .ok (.getfield 110, 3) := by decide +kernel
theorem d_SR_readLot_57 : decode prog_7_method_12_code 57 = .ok (.istore 6, 2) := by decide +kernel
theorem d_SR_readLot_59 : decode prog_7_method_12_code 59 = .ok (.aload_n 1, 1) := by decide +kernel
theorem d_SR_readLot_60 : decode prog_7_method_12_code 60 = .ok (.iload 5, 2) := by decide +kernel
theorem d_SR_readLot_62 : decode prog_7_method_12_code 62 = .ok (.invokevirtual 120, 3) := by decide +kernel
theorem d_SR_readLot_65 : decode prog_7_method_12_code 65 = .ok (.ifCond .ne 5, 3) := by decide +kernel
theorem d_SR_readLot_68 : decode prog_7_method_12_code 68 = .ok (.iconst 0, 1) := by decide +kernel
theorem d_SR_readLot_69 : decode prog_7_method_12_code 69 = .ok (.ireturn, 1) := by decide +kernel
theorem d_SR_readLot_70 : decode prog_7_method_12_code 70 = .ok (.iconst 0, 1) := by decide +kernel
theorem d_SR_readLot_71 : decode prog_7_method_12_code 71 = .ok (.istore 7, 2) := by decide +kernel
theorem d_SR_readLot_73 : decode prog_7_method_12_code 73 = .ok (.iconst 0, 1) := by decide +kernel
theorem d_SR_readLot_74 : decode prog_7_method_12_code 74 = .ok (.istore 8, 2) := by decide +kernel
theorem d_SR_readLot_76 : decode prog_7_method_12_code 76 = .ok (.iload 8, 2) := by decide +kernel
theorem d_SR_readLot_78 : decode prog_7_method_12_code 78 = .ok (.sipush 900, 3) := by decide +kernel
theorem d_SR_readLot_81 : decode prog_7_method_12_code 81 = .ok (.if_icmp .gt 39, 3) := by decide +kernel
theorem d_SR_readLot_84 : decode prog_7_method_12_code 84 = .ok (.aload_n 1, 1) := by decide +kernel
theorem d_SR_readLot_85 : decode prog_7_method_12_code 85 = .ok (.invokevirtual 145, 3) := by decide +kernel
theorem d_SR_readLot_88 : decode prog_7_method_12_code 88 = .ok (.ifCond .ne 32, 3) := by decide +kernel
theorem d_SR_readLot_91 : decode prog_7_method_12_code 91 = .ok (.aload_n 1, 1) := by decide +kernel
theorem d_SR_readLot_92 : decode prog_7_method_12_code 92 = .ok (.aload_n 2, 1) := by decide +kernel
theorem d_SR_readLot_93 : decode prog_7_method_12_code 93 = .ok (.bipush 6, 2) := by decide +kernel
theorem d_SR_readLot_95 : decode prog_7_method_12_code 95 = .ok (.invokevirtual 116, 3) := by decide +kernel
theorem d_SR_readLot_98 : decode prog_7_method_12_code 98 = .ok (.ifCond .ne 5, 3) := by decide +kernel
theorem d_SR_readLot_101 : decode prog_7_method_12_code 101 = .ok (.iconst 0, 1) := by decide +kernel
theorem d_SR_readLot_102 : decode prog_7_method_12_code 102 = .ok (.ireturn, 1) := by decide +kernel
theorem d_SR_readLot_103 : decode prog_7_method_12_code 103 = .ok (.iload 7, 2) := by decide +kernel
theorem d_SR_readLot_105 : decode prog_7_method_12_code 105 = .ok (.iconst 1, 1) := by decide +kernel
theorem d_SR_readLot_106 : decode prog_7_method_12_code 106 = .ok (.aload_n 1, 1) := by decide +kernel
theorem d_SR_readLot_107 : decode prog_7_method_12_code 107 = .ok (.getfield 110, 3) := by decide +kernel
theorem d_SR_readLot_110 : decode prog_7_method_12_code 110 = .ok (.ishl, 1) := by decide +kernel
theorem d_SR_readLot_111 : decode prog_7_method_12_code 111 = .ok (.ior, 1) := by decide +kernel
theorem d_SR_readLot_112 : decode prog_7_method_12_code 112 = .ok (.istore 7, 2) := by decide +kernel
theorem d_SR_readLot_114 : decode prog_7_method_12_code 114 = .ok (.iinc 8 1, 3) := by decide +kernel
theorem d_SR_readLot_117 : decode prog_7_method_12_code 117 = .ok (.goto (-41), 3) := by decide +kernel
theorem d_SR_readLot_120 : decode prog_7_method_12_code 120 = .ok (.aload_n 3, 1) := by decide +kernel
theorem d_SR_readLot_121 : decode prog_7_method_12_code 121 = .ok (.iload 6, 2) := by decide +kernel
theorem d_SR_readLot_123 : decode prog_7_method_12_code 123 = .ok (.iload 7, 2) := by decide +kernel
theorem d_SR_readLot_125 : decode prog_7_method_12_code 125 = .ok (.invokevirtual 175, 3) := by decide +kernel
theorem d_SR_readLot_128 : decode prog_7_method_12_code 128 = .ok (.aload_n 1, 1) := by decide +kernel
theorem d_SR_readLot_129 : decode prog_7_method_12_code 129 = .ok (.invokevirtual 99, 3) := by decide +kernel
theorem d_SR_readLot_132 : decode prog_7_method_12_code 132 = .ok (.ireturn, 1) := by decide +kernel
def SR_readLot_L76 (Y : Ly) (l1 : Nat) (l2 : Nat) (l3 : Nat) (l6 : Int32) : Nat → Int32 → Int32 → Hp → Option (Bool × Hp)
  | 0, _, _, _ => none
  | F + 1, l7, l8, h =>
    if 900 < l8 then
      (Lo_addOne Y l3 l6 l7 h).bind fun q14 =>
      (To_passSemicolon Y l1 q14).bind fun q15 =>
      some (q15.1, q15.2)
    else
      (To_isSemicolon Y l1 h).bind fun q16 =>
      if q16 = true then
        (Lo_addOne Y l3 l6 l7 h).bind fun q18 =>
        (To_passSemicolon Y l1 q18).bind fun q19 =>
        some (q19.1, q19.2)
      else
        (To_passOld Y l1 l2 6 h).bind fun q20 =>
        if q20.1 = true then
          SR_readLot_L76 Y l1 l2 l3 l6 F (l7 ||| ((1 : Int32) <<< ((hGi q20.2 710 l1) &&& 31))) (l8 + 1) q20.2
        else
          some (false, q20.2)
theorem SR_readLot_L76_ok (Y : Ly) (l1 : Nat) (l2 : Nat) (l3 : Nat) (l6 : Int32) (tl1 : isO Y 7 l1) (tl2 : isO Y 4 l2) (tl3 : isO Y 3 l3) : ∀ (F : Nat) (l7 : Int32) (l8 : Int32) (h : Hp), AW Y 3 K_SR_readLot 76 [(1, .ref l1), (2, .ref l2), (3, .ref l3), (6, .int l6), (7, .int l7), (8, .int l8)] [] h (SR_readLot_L76 Y l1 l2 l3 l6 F l7 l8 h) rZ := by
  intro F
  induction F with
  | zero =>
    intro l7 l8 h
    exact aw_none
  | succ F ih =>
    intro l7 l8 h
    unfold SR_readLot_L76
    refine aw_iload (pc := 76) d_SR_readLot_76 5 rfl ?_
    refine aw_sipush (pc := 78) (x := 900) d_SR_readLot_78 (by decide) ?_
    refine aw_icmp_gt (pc := 81) (tgt := 120) d_SR_readLot_81 (by decide) (fun c13 => ?_) (fun c13 => ?_)
    · refine aw_aload_n (pc := 120) d_SR_readLot_120 rfl 2 rfl ?_
      refine aw_iload (pc := 121) d_SR_readLot_121 3 rfl ?_
      refine aw_iload (pc := 123) d_SR_readLot_123 4 rfl ?_
      refine aw_cVrV (pc := 125) (ci := 3) (T := TX3) (N := 3) (As := [.int l6, .int l7]) (st := []) (ok_Lo_addOne Y l3 l6 l7 h tl3) okV_Lo_addOne rfl (by decide) tl3 w4_75 d_SR_readLot_125 rfl (Nat.le_of_ble_eq_true rfl) rfl (Nat.le_of_ble_eq_true rfl) (fun q14 hq14 hTq14 => ?_)
      refine aw_aload_n (pc := 128) d_SR_readLot_128 rfl 0 rfl ?_
      refine aw_cVrZ (pc := 129) (ci := 7) (T := TX7) (N := 13) (As := []) (st := []) (ok_To_passSemicolon Y l1 q14 tl1) okV_To_passSemicolon rfl (by decide) tl1 w3_215 d_SR_readLot_129 rfl (Nat.le_of_ble_eq_true rfl) rfl (Nat.le_of_ble_eq_true rfl) (fun q15 hq15 hTq15 => ?_)
      exact aw_zreturn (pc := 132) (b := q15.1) d_SR_readLot_132 rfl rfl
    · refine aw_aload_n (pc := 84) d_SR_readLot_84 rfl 0 rfl ?_
      refine aw_cVpZ (pc := 85) (ci := 7) (T := TX7) (N := 13) (As := []) (st := []) (ok_To_isSemicolon Y l1 h tl1) okV_To_isSemicolon rfl (by decide) tl1 w4_35 d_SR_readLot_85 rfl (Nat.le_of_ble_eq_true rfl) rfl (Nat.le_of_ble_eq_true rfl) (fun q16 hq16 hTq16 => ?_)
      refine aw_bne (pc := 88) (tgt := 120) d_SR_readLot_88 (by decide) (fun c17 => ?_) (fun c17 => ?_)
      · refine aw_aload_n (pc := 120) d_SR_readLot_120 rfl 2 rfl ?_
        refine aw_iload (pc := 121) d_SR_readLot_121 3 rfl ?_
        refine aw_iload (pc := 123) d_SR_readLot_123 4 rfl ?_
        refine aw_cVrV (pc := 125) (ci := 3) (T := TX3) (N := 3) (As := [.int l6, .int l7]) (st := []) (ok_Lo_addOne Y l3 l6 l7 h tl3) okV_Lo_addOne rfl (by decide) tl3 w4_75 d_SR_readLot_125 rfl (Nat.le_of_ble_eq_true rfl) rfl (Nat.le_of_ble_eq_true rfl) (fun q18 hq18 hTq18 => ?_)
        refine aw_aload_n (pc := 128) d_SR_readLot_128 rfl 0 rfl ?_
        refine aw_cVrZ (pc := 129) (ci := 7) (T := TX7) (N := 13) (As := []) (st := []) (ok_To_passSemicolon Y l1 q18 tl1) okV_To_passSemicolon rfl (by decide) tl1 w3_215 d_SR_readLot_129 rfl (Nat.le_of_ble_eq_true rfl) rfl (Nat.le_of_ble_eq_true rfl) (fun q19 hq19 hTq19 => ?_)
        exact aw_zreturn (pc := 132) (b := q19.1) d_SR_readLot_132 rfl rfl
      · refine aw_aload_n (pc := 91) d_SR_readLot_91 rfl 0 rfl ?_
        refine aw_aload_n (pc := 92) d_SR_readLot_92 rfl 1 rfl ?_
        refine aw_bipush (pc := 93) (x := 6) d_SR_readLot_93 (by decide) ?_
        refine aw_cVrZ (pc := 95) (ci := 7) (T := TX7) (N := 13) (As := [.ref l2, .int 6]) (st := []) (ok_To_passOld Y l1 l2 6 h tl1 tl2) okV_To_passOld rfl (by decide) tl1 w3_239 d_SR_readLot_95 rfl (Nat.le_of_ble_eq_true rfl) rfl (Nat.le_of_ble_eq_true rfl) (fun q20 hq20 hTq20 => ?_)
        refine aw_bne (pc := 98) (tgt := 103) d_SR_readLot_98 (by decide) (fun c21 => ?_) (fun c21 => ?_)
        · refine aw_iload (pc := 103) d_SR_readLot_103 4 rfl ?_
          refine aw_iconst (pc := 105) (x := 1) d_SR_readLot_105 (by decide) ?_
          refine aw_aload_n (pc := 106) d_SR_readLot_106 rfl 0 rfl ?_
          refine gt_710 (pc := 107) d_SR_readLot_107 w1_103 tl1 ?_
          refine aw_ishl (pc := 110) d_SR_readLot_110 ?_
          refine aw_ior (pc := 111) d_SR_readLot_111 ?_
          refine aw_istore (pc := 112) (lv' := [(7, .int (l7 ||| ((1 : Int32) <<< ((hGi q20.2 710 l1) &&& 31)))), (1, .ref l1), (2, .ref l2), (3, .ref l3), (6, .int l6), (8, .int l8)]) d_SR_readLot_112 (by decide) rfl ?_
          refine aw_iinc (pc := 114) (w := l8 + 1) (lv' := [(8, .int (l8 + 1)), (7, .int (l7 ||| ((1 : Int32) <<< ((hGi q20.2 710 l1) &&& 31)))), (1, .ref l1), (2, .ref l2), (3, .ref l3), (6, .int l6)]) d_SR_readLot_114 5 rfl rfl (by decide) rfl ?_
          refine aw_goto (pc := 117) (tgt := 76) d_SR_readLot_117 (by decide) ?_
          exact aw_lv [2, 3, 4, 5, 1, 0] rfl (ih (l7 ||| ((1 : Int32) <<< ((hGi q20.2 710 l1) &&& 31))) (l8 + 1) q20.2)
        · refine aw_iconst (pc := 101) (x := 0) d_SR_readLot_101 (by decide) ?_
          exact aw_zreturn (pc := 102) (b := false) d_SR_readLot_102 rfl rfl
def SR_readLot (Y : Ly) (l0 : Nat) (l1 : Nat) (l2 : Nat) (l3 : Nat) (l4 : Int32) (l5 : Int32) (h : Hp) : Option (Bool × Hp) :=
  (Lo_isFull Y l3 h).bind fun q1 =>
  if q1 = true then
    (To_blame Y l1 6 h).bind fun q3 =>
    some (q3.1, q3.2)
  else
    (To_advance Y l1 h).bind fun q4 =>
    (To_passNew Y l1 l2 l4 (hGi q4 302 l3) q4).bind fun q5 =>
    if q5.1 = true then
      (To_passWord Y l1 16 q5.2).bind fun q7 =>
      if q7.1 = true then
        (To_passNumber Y l1 0 99 q7.2).bind fun q9 =>
        if q9.1 = true then
          (To_passWord Y l1 l5 q9.2).bind fun q11 =>
          if q11.1 = true then
            SR_readLot_L76 Y l1 l2 l3 (hGi q9.2 710 l1) FU 0 0 q11.2
          else
            some (false, q11.2)
        else
          some (false, q9.2)
      else
        some (false, q7.2)
    else
      some (false, q5.2)
theorem ok_SR_readLot (Y : Ly) (l0 : Nat) (l1 : Nat) (l2 : Nat) (l3 : Nat) (l4 : Int32) (l5 : Int32) (h : Hp) (t0 : isO Y 5 l0) (t1 : isO Y 7 l1) (t2 : isO Y 4 l2) (t3 : isO Y 3 l3) : AM Y 3 K_SR_readLot [.ref l0, .ref l1, .ref l2, .ref l3, .int l4, .int l5] h (SR_readLot Y l0 l1 l2 l3 l4 l5 h) rZ := by
  refine AM.of rfl (Nat.le_of_ble_eq_true rfl) ?_
  show AW Y 3 K_SR_readLot 0 [(0, .ref l0), (1, .ref l1), (2, .ref l2), (3, .ref l3), (4, .int l4), (5, .int l5)] [] h (SR_readLot Y l0 l1 l2 l3 l4 l5 h) rZ
  unfold SR_readLot
  refine aw_aload_n (pc := 0) d_SR_readLot_0 rfl 3 rfl ?_
  refine aw_cVpZ (pc := 1) (ci := 3) (T := TX3) (N := 3) (As := []) (st := []) (ok_Lo_isFull Y l3 h t3) okV_Lo_isFull rfl (by decide) t3 w4_71 d_SR_readLot_1 rfl (Nat.le_of_ble_eq_true rfl) rfl (Nat.le_of_ble_eq_true rfl) (fun q1 hq1 hTq1 => ?_)
  refine aw_beq (pc := 4) (tgt := 14) d_SR_readLot_4 (by decide) (fun c2 => ?_) (fun c2 => ?_)
  · refine aw_aload_n (pc := 7) d_SR_readLot_7 rfl 1 rfl ?_
    refine aw_bipush (pc := 8) (x := 6) d_SR_readLot_8 (by decide) ?_
    refine aw_cVrZ (pc := 10) (ci := 7) (T := TX7) (N := 13) (As := [.int 6]) (st := []) (ok_To_blame Y l1 6 h t1) okV_To_blame rfl (by decide) t1 w3_189 d_SR_readLot_10 rfl (Nat.le_of_ble_eq_true rfl) rfl (Nat.le_of_ble_eq_true rfl) (fun q3 hq3 hTq3 => ?_)
    exact aw_zreturn (pc := 13) (b := q3.1) d_SR_readLot_13 rfl rfl
  · refine aw_aload_n (pc := 14) d_SR_readLot_14 rfl 1 rfl ?_
    refine aw_cVrV (pc := 15) (ci := 7) (T := TX7) (N := 13) (As := []) (st := []) (ok_To_advance Y l1 h t1) okV_To_advance rfl (by decide) t1 w3_193 d_SR_readLot_15 rfl (Nat.le_of_ble_eq_true rfl) rfl (Nat.le_of_ble_eq_true rfl) (fun q4 hq4 hTq4 => ?_)
    refine aw_aload_n (pc := 18) d_SR_readLot_18 rfl 1 rfl ?_
    refine aw_aload_n (pc := 19) d_SR_readLot_19 rfl 2 rfl ?_
    refine aw_iload (pc := 20) d_SR_readLot_20 4 rfl ?_
    refine aw_aload_n (pc := 22) d_SR_readLot_22 rfl 3 rfl ?_
    refine gt_302 (pc := 23) d_SR_readLot_23 w2_74 t3 ?_
    refine aw_cVrZ (pc := 26) (ci := 7) (T := TX7) (N := 13) (As := [.ref l2, .int l4, .int (hGi q4 302 l3)]) (st := []) (ok_To_passNew Y l1 l2 l4 (hGi q4 302 l3) q4 t1 t2) okV_To_passNew rfl (by decide) t1 w3_194 d_SR_readLot_26 rfl (Nat.le_of_ble_eq_true rfl) rfl (Nat.le_of_ble_eq_true rfl) (fun q5 hq5 hTq5 => ?_)
    refine aw_beq (pc := 29) (tgt := 51) d_SR_readLot_29 (by decide) (fun c6 => ?_) (fun c6 => ?_)
    · refine aw_aload_n (pc := 32) d_SR_readLot_32 rfl 1 rfl ?_
      refine aw_bipush (pc := 33) (x := 16) d_SR_readLot_33 (by decide) ?_
      refine aw_cVrZ (pc := 35) (ci := 7) (T := TX7) (N := 13) (As := [.int 16]) (st := []) (ok_To_passWord Y l1 16 q5.2 t1) okV_To_passWord rfl (by decide) t1 w4_11 d_SR_readLot_35 rfl (Nat.le_of_ble_eq_true rfl) rfl (Nat.le_of_ble_eq_true rfl) (fun q7 hq7 hTq7 => ?_)
      refine aw_beq (pc := 38) (tgt := 51) d_SR_readLot_38 (by decide) (fun c8 => ?_) (fun c8 => ?_)
      · refine aw_aload_n (pc := 41) d_SR_readLot_41 rfl 1 rfl ?_
        refine aw_iconst (pc := 42) (x := 0) d_SR_readLot_42 (by decide) ?_
        refine aw_bipush (pc := 43) (x := 99) d_SR_readLot_43 (by decide) ?_
        refine aw_cVrZ (pc := 45) (ci := 7) (T := TX7) (N := 13) (As := [.int 0, .int 99]) (st := []) (ok_To_passNumber Y l1 0 99 q7.2 t1) okV_To_passNumber rfl (by decide) t1 w3_227 d_SR_readLot_45 rfl (Nat.le_of_ble_eq_true rfl) rfl (Nat.le_of_ble_eq_true rfl) (fun q9 hq9 hTq9 => ?_)
        refine aw_bne (pc := 48) (tgt := 53) d_SR_readLot_48 (by decide) (fun c10 => ?_) (fun c10 => ?_)
        · refine aw_aload_n (pc := 53) d_SR_readLot_53 rfl 1 rfl ?_
          refine gt_710 (pc := 54) d_SR_readLot_54 w1_103 t1 ?_
          refine aw_istore (pc := 57) (lv' := [(6, .int (hGi q9.2 710 l1)), (0, .ref l0), (1, .ref l1), (2, .ref l2), (3, .ref l3), (4, .int l4), (5, .int l5)]) d_SR_readLot_57 (by decide) rfl ?_
          refine aw_aload_n (pc := 59) d_SR_readLot_59 rfl 2 rfl ?_
          refine aw_iload (pc := 60) d_SR_readLot_60 6 rfl ?_
          refine aw_cVrZ (pc := 62) (ci := 7) (T := TX7) (N := 13) (As := [.int l5]) (st := []) (ok_To_passWord Y l1 l5 q9.2 t1) okV_To_passWord rfl (by decide) t1 w4_11 d_SR_readLot_62 rfl (Nat.le_of_ble_eq_true rfl) rfl (Nat.le_of_ble_eq_true rfl) (fun q11 hq11 hTq11 => ?_)
          refine aw_bne (pc := 65) (tgt := 70) d_SR_readLot_65 (by decide) (fun c12 => ?_) (fun c12 => ?_)
          · refine aw_iconst (pc := 70) (x := 0) d_SR_readLot_70 (by decide) ?_
            refine aw_istore (pc := 71) (lv' := [(7, .int 0), (6, .int (hGi q9.2 710 l1)), (0, .ref l0), (1, .ref l1), (2, .ref l2), (3, .ref l3), (4, .int l4), (5, .int l5)]) d_SR_readLot_71 (by decide) rfl ?_
            refine aw_iconst (pc := 73) (x := 0) d_SR_readLot_73 (by decide) ?_
            refine aw_istore (pc := 74) (lv' := [(8, .int 0), (7, .int 0), (6, .int (hGi q9.2 710 l1)), (0, .ref l0), (1, .ref l1), (2, .ref l2), (3, .ref l3), (4, .int l4), (5, .int l5)]) d_SR_readLot_74 (by decide) rfl ?_
            exact aw_lv [4, 5, 6, 2, 1, 0] rfl (SR_readLot_L76_ok Y l1 l2 l3 (hGi q9.2 710 l1) t1 t2 t3 FU 0 0 q11.2)
          · refine aw_iconst (pc := 68) (x := 0) d_SR_readLot_68 (by decide) ?_
            exact aw_zreturn (pc := 69) (b := false) d_SR_readLot_69 rfl rfl
        · refine aw_iconst (pc := 51) (x := 0) d_SR_readLot_51 (by decide) ?_
          exact aw_zreturn (pc := 52) (b := false) d_SR_readLot_52 rfl rfl
      · refine aw_iconst (pc := 51) (x := 0) d_SR_readLot_51 (by decide) ?_
        exact aw_zreturn (pc := 52) (b := false) d_SR_readLot_52 rfl rfl
    · refine aw_iconst (pc := 51) (x := 0) d_SR_readLot_51 (by decide) ?_
      exact aw_zreturn (pc := 52) (b := false) d_SR_readLot_52 rfl rfl
/-! LastPages$ShelfReader.readReader(LLastPages$Tokens;LLastPages$Shelf;)Z -/
theorem d_SR_readReader_0 : decode prog_7_method_11_code 0 = .ok (.aload_n 2, 1) := by decide +kernel
theorem d_SR_readReader_1 : decode prog_7_method_11_code 1 = .ok (.getfield 164, 3) := by decide +kernel
theorem d_SR_readReader_4 : decode prog_7_method_11_code 4 = .ok (.bipush 6, 2) := by decide +kernel
theorem d_SR_readReader_6 : decode prog_7_method_11_code 6 = .ok (.if_icmp .lt 10, 3) := by decide +kernel
theorem d_SR_readReader_9 : decode prog_7_method_11_code 9 = .ok (.aload_n 1, 1) := by decide +kernel
theorem d_SR_readReader_10 : decode prog_7_method_11_code 10 = .ok (.bipush 6, 2) := by decide +kernel
theorem d_SR_readReader_12 : decode prog_7_method_11_code 12 = .ok (.invokevirtual 75, 3) := by decide +kernel
theorem d_SR_readReader_15 : decode prog_7_method_11_code 15 = .ok (.ireturn, 1) := by decide +kernel
theorem d_SR_readReader_16 : decode prog_7_method_11_code 16 = .ok (.aload_n 1, 1) := by decide +kernel
theorem d_SR_readReader_17 : decode prog_7_method_11_code 17 = .ok (.invokevirtual 88, 3) := by decide +kernel
theorem d_SR_readReader_20 : decode prog_7_method_11_code 20 = .ok (.aload_n 1, 1) := by decide +kernel
theorem d_SR_readReader_21 : decode prog_7_method_11_code 21 = .ok (.aload_n 2, 1) := by decide +kernel
theorem d_SR_readReader_22 : decode prog_7_method_11_code 22 = .ok (.bipush 14, 2) := by decide +kernel
theorem d_SR_readReader_24 : decode prog_7_method_11_code 24 = .ok (.aload_n 2, 1) := by decide +kernel
theorem d_SR_readReader_25 : decode prog_7_method_11_code 25 = .ok (.getfield 164, 3) := by decide +kernel
theorem d_SR_readReader_28 : decode prog_7_method_11_code 28 = .ok (.invokevirtual 91, 3) := by decide +kernel
theorem d_SR_readReader_31 : decode prog_7_method_11_code 31 = .ok (.ifCond .ne 5, 3) := by decide +kernel
theorem d_SR_readReader_34 : decode prog_7_method_11_code 34 = .ok (.iconst 0, 1) := by decide +kernel
theorem d_SR_readReader_35 : decode prog_7_method_11_code 35 = .ok (.ireturn, 1) := by decide +kernel
theorem d_SR_readReader_36 : decode prog_7_method_11_code 36 = .ok (.aload_n 2, 1) := by decide +kernel
theorem d_SR_readReader_37 : decode prog_7_method_11_code 37 = .ok (.dup, 1) := by decide +kernel
theorem d_SR_readReader_38 : decode prog_7_method_11_code 38 = .ok (.getfield 164, 3) := by decide +kernel
theorem d_SR_readReader_41 : decode prog_7_method_11_code 41 = .ok (.iconst 1, 1) := by decide +kernel
theorem d_SR_readReader_42 : decode prog_7_method_11_code 42 = .ok (.iadd, 1) := by decide +kernel
theorem d_SR_readReader_43 : decode prog_7_method_11_code 43 = .ok (.putfield 164, 3) := by decide +kernel
theorem d_SR_readReader_46 : decode prog_7_method_11_code 46 = .ok (.aload_n 1, 1) := by decide +kernel
theorem d_SR_readReader_47 : decode prog_7_method_11_code 47 = .ok (.invokevirtual 99, 3) := by decide +kernel
theorem d_SR_readReader_50 : decode prog_7_method_11_code 50 = .ok (.ireturn, 1) := by decide +kernel
def SR_readReader (Y : Ly) (l0 : Nat) (l1 : Nat) (l2 : Nat) (h : Hp) : Option (Bool × Hp) :=
  if (hGi h 416 l2) < 6 then
    (To_advance Y l1 h).bind fun q2 =>
    (To_passNew Y l1 l2 14 (hGi q2 416 l2) q2).bind fun q3 =>
    if q3.1 = true then
      letH (hSi q3.2 416 l2 ((hGi q3.2 416 l2) + 1)) fun h5 =>
      (To_passSemicolon Y l1 h5).bind fun q6 =>
      some (q6.1, q6.2)
    else
      some (false, q3.2)
  else
    (To_blame Y l1 6 h).bind fun q7 =>
    some (q7.1, q7.2)
theorem ok_SR_readReader (Y : Ly) (l0 : Nat) (l1 : Nat) (l2 : Nat) (h : Hp) (t0 : isO Y 5 l0) (t1 : isO Y 7 l1) (t2 : isO Y 4 l2) : AM Y 3 K_SR_readReader [.ref l0, .ref l1, .ref l2] h (SR_readReader Y l0 l1 l2 h) rZ := by
  refine AM.of rfl (Nat.le_of_ble_eq_true rfl) ?_
  show AW Y 3 K_SR_readReader 0 [(0, .ref l0), (1, .ref l1), (2, .ref l2)] [] h (SR_readReader Y l0 l1 l2 h) rZ
  unfold SR_readReader
  refine aw_aload_n (pc := 0) d_SR_readReader_0 rfl 2 rfl ?_
  refine gt_416 (pc := 1) d_SR_readReader_1 w2_164 t2 ?_
  refine aw_bipush (pc := 4) (x := 6) d_SR_readReader_4 (by decide) ?_
  refine aw_icmp_lt (pc := 6) (tgt := 16) d_SR_readReader_6 (by decide) (fun c1 => ?_) (fun c1 => ?_)
  · refine aw_aload_n (pc := 16) d_SR_readReader_16 rfl 1 rfl ?_
    refine aw_cVrV (pc := 17) (ci := 7) (T := TX7) (N := 13) (As := []) (st := []) (ok_To_advance Y l1 h t1) okV_To_advance rfl (by decide) t1 w3_193 d_SR_readReader_17 rfl (Nat.le_of_ble_eq_true rfl) rfl (Nat.le_of_ble_eq_true rfl) (fun q2 hq2 hTq2 => ?_)
    refine aw_aload_n (pc := 20) d_SR_readReader_20 rfl 1 rfl ?_
    refine aw_aload_n (pc := 21) d_SR_readReader_21 rfl 2 rfl ?_
    refine aw_bipush (pc := 22) (x := 14) d_SR_readReader_22 (by decide) ?_
    refine aw_aload_n (pc := 24) d_SR_readReader_24 rfl 2 rfl ?_
    refine gt_416 (pc := 25) d_SR_readReader_25 w2_164 t2 ?_
    refine aw_cVrZ (pc := 28) (ci := 7) (T := TX7) (N := 13) (As := [.ref l2, .int 14, .int (hGi q2 416 l2)]) (st := []) (ok_To_passNew Y l1 l2 14 (hGi q2 416 l2) q2 t1 t2) okV_To_passNew rfl (by decide) t1 w3_194 d_SR_readReader_28 rfl (Nat.le_of_ble_eq_true rfl) rfl (Nat.le_of_ble_eq_true rfl) (fun q3 hq3 hTq3 => ?_)
    refine aw_bne (pc := 31) (tgt := 36) d_SR_readReader_31 (by decide) (fun c4 => ?_) (fun c4 => ?_)
    · refine aw_aload_n (pc := 36) d_SR_readReader_36 rfl 2 rfl ?_
      refine aw_dup (pc := 37) d_SR_readReader_37 rfl ?_
      refine gt_416 (pc := 38) d_SR_readReader_38 w2_164 t2 ?_
      refine aw_iconst (pc := 41) (x := 1) d_SR_readReader_41 (by decide) ?_
      refine aw_iadd (pc := 42) d_SR_readReader_42 ?_
      refine pt_416 (pc := 43) d_SR_readReader_43 w2_164 t2 ?_
      refine aw_letH (fun h5 => ?_)
      refine aw_aload_n (pc := 46) d_SR_readReader_46 rfl 1 rfl ?_
      refine aw_cVrZ (pc := 47) (ci := 7) (T := TX7) (N := 13) (As := []) (st := []) (ok_To_passSemicolon Y l1 h5 t1) okV_To_passSemicolon rfl (by decide) t1 w3_215 d_SR_readReader_47 rfl (Nat.le_of_ble_eq_true rfl) rfl (Nat.le_of_ble_eq_true rfl) (fun q6 hq6 hTq6 => ?_)
      exact aw_zreturn (pc := 50) (b := q6.1) d_SR_readReader_50 rfl rfl
    · refine aw_iconst (pc := 34) (x := 0) d_SR_readReader_34 (by decide) ?_
      exact aw_zreturn (pc := 35) (b := false) d_SR_readReader_35 rfl rfl
  · refine aw_aload_n (pc := 9) d_SR_readReader_9 rfl 1 rfl ?_
    refine aw_bipush (pc := 10) (x := 6) d_SR_readReader_10 (by decide) ?_
    refine aw_cVrZ (pc := 12) (ci := 7) (T := TX7) (N := 13) (As := [.int 6]) (st := []) (ok_To_blame Y l1 6 h t1) okV_To_blame rfl (by decide) t1 w3_189 d_SR_readReader_12 rfl (Nat.le_of_ble_eq_true rfl) rfl (Nat.le_of_ble_eq_true rfl) (fun q7 hq7 hTq7 => ?_)
    exact aw_zreturn (pc := 15) (b := q7.1) d_SR_readReader_15 rfl rfl
/-! LastPages$ShelfReader.readRule(LLastPages$Tokens;LLastPages$Shelf;)Z -/
theorem d_SR_readRule_0 : decode prog_7_method_6_code 0 = .ok (.aload_n 1, 1) := by decide +kernel
theorem d_SR_readRule_1 : decode prog_7_method_6_code 1 = .ok (.invokevirtual 88, 3) := by decide +kernel
theorem d_SR_readRule_4 : decode prog_7_method_6_code 4 = .ok (.aload_n 1, 1) := by decide +kernel
theorem d_SR_readRule_5 : decode prog_7_method_6_code 5 = .ok (.aload_n 2, 1) := by decide +kernel
theorem d_SR_readRule_6 : decode prog_7_method_6_code 6 = .ok (.iconst 0, 1) := by decide +kernel
theorem d_SR_readRule_7 : decode prog_7_method_6_code 7 = .ok (.invokevirtual 116, 3) := by decide +kernel
theorem d_SR_readRule_10 : decode prog_7_method_6_code 10 = .ok (.ifCond .ne 5, 3) := by decide +kernel
theorem d_SR_readRule_13 : decode prog_7_method_6_code 13 = .ok (.iconst 0, 1) := by decide +kernel
theorem d_SR_readRule_14 : decode prog_7_method_6_code 14 = .ok (.ireturn, 1) := by decide +kernel
theorem d_SR_readRule_15 : decode prog_7_method_6_code 15 = .ok (.aload_n 1, 1) := by decide +kernel
theorem d_SR_readRule_16 : decode prog_7_method_6_code 16 = .ok (.getfield 110, 3) := by decide +kernel
theorem d_SR_readRule_19 : decode prog_7_method_6_code 19 = .ok (.istore_n 3, 1) := by decide +kernel
theorem d_SR_readRule_20 : decode prog_7_method_6_code 20 = .ok (.aload_n 1, 1) := by decide +kernel
theorem d_SR_readRule_21 : decode prog_7_method_6_code 21 = .ok (.aload_n 2, 1) := by decide +kernel
theorem d_SR_readRule_22 : decode prog_7_method_6_code 22 = .ok (.iconst 2, 1) := by decide +kernel
theorem d_SR_readRule_23 : decode prog_7_method_6_code 23 = .ok (.invokevirtual 116, 3) := by decide +kernel
theorem d_SR_readRule_26 : decode prog_7_method_6_code 26 = .ok (.ifCond .ne 5, 3) := by decide +kernel
theorem d_SR_readRule_29 : decode prog_7_method_6_code 29 = .ok (.iconst 0, 1) := by decide +kernel
theorem d_SR_readRule_30 : decode prog_7_method_6_code 30 = .ok (.ireturn, 1) := by decide +kernel
theorem d_SR_readRule_31 : decode prog_7_method_6_code 31 = .ok (.aload_n 1, 1) := by decide +kernel
theorem d_SR_readRule_32 : decode prog_7_method_6_code 32 = .ok (.getfield 110, 3) := by decide +kernel
theorem d_SR_readRule_35 : decode prog_7_method_6_code 35 = .ok (.istore 4, 2) := by decide +kernel
theorem d_SR_readRule_37 : decode prog_7_method_6_code 37 = .ok (.aload_n 1, 1) := by decide +kernel
theorem d_SR_readRule_38 : decode prog_7_method_6_code 38 = .ok (.iconst 5, 1) := by decide +kernel
theorem d_SR_readRule_39 : decode prog_7_method_6_code 39 = .ok (.invokevirtual 120, 3) := by decide +kernel
theorem d_SR_readRule_42 : decode prog_7_method_6_code 42 = .ok (.ifCond .eq 12, 3) := by decide +kernel
theorem d_SR_readRule_45 : decode prog_7_method_6_code 45 = .ok (.aload_n 1, 1) := by decide +kernel
theorem d_SR_readRule_46 : decode prog_7_method_6_code 46 = .ok (.aload_n 2, 1) := by decide +kernel
theorem d_SR_readRule_47 : decode prog_7_method_6_code 47 = .ok (.iconst 0, 1) := by decide +kernel
theorem d_SR_readRule_48 : decode prog_7_method_6_code 48 = .ok (.invokevirtual 116, 3) := by decide +kernel
theorem d_SR_readRule_51 : decode prog_7_method_6_code 51 = .ok (.ifCond .ne 5, 3) := by decide +kernel
theorem d_SR_readRule_54 : decode prog_7_method_6_code 54 = .ok (.iconst 0, 1) := by decide +kernel
theorem d_SR_readRule_55 : decode prog_7_method_6_code 55 = .ok (.ireturn, 1) := by decide +kernel
theorem d_SR_readRule_56 : decode prog_7_method_6_code 56 = .ok (.aload_n 2, 1) := by decide +kernel
theorem d_SR_readRule_57 : decode prog_7_method_6_code 57 = .ok (.getfield 79, 3) := by decide +kernel
theorem d_SR_readRule_60 : decode prog_7_method_6_code 60 = .ok (.iload_n 3, 1) := by decide +kernel
theorem d_SR_readRule_61 : decode prog_7_method_6_code 61 = .ok (.iload 4, 2) := by decide +kernel
theorem d_SR_readRule_63 : decode prog_7_method_6_code 63 = .ok (.aload_n 1, 1) := by decide +kernel
theorem d_SR_readRule_64 : decode prog_7_method_6_code 64 = .ok (.getfield 110, 3) := by decide +kernel
theorem d_SR_readRule_67 : decode prog_7_method_6_code 67 = .ok (.invokevirtual 123, 3) := by decide +kernel
theorem d_SR_readRule_70 : decode prog_7_method_6_code 70 = .ok (.aload_n 1, 1) := by decide +kernel
theorem d_SR_readRule_71 : decode prog_7_method_6_code 71 = .ok (.invokevirtual 99, 3) := by decide +kernel
theorem d_SR_readRule_74 : decode prog_7_method_6_code 74 = .ok (.ireturn, 1) := by decide +kernel
def SR_readRule (Y : Ly) (l0 : Nat) (l1 : Nat) (l2 : Nat) (h : Hp) : Option (Bool × Hp) :=
  (To_advance Y l1 h).bind fun q1 =>
  (To_passOld Y l1 l2 0 q1).bind fun q2 =>
  if q2.1 = true then
    (To_passOld Y l1 l2 2 q2.2).bind fun q4 =>
    if q4.1 = true then
      (To_passWord Y l1 5 q4.2).bind fun q6 =>
      if q6.1 = true then
        (To_passOld Y l1 l2 0 q6.2).bind fun q8 =>
        if q8.1 = true then
          (St_setRule Y (hGr q8.2 400 l2) (hGi q2.2 710 l1) (hGi q4.2 710 l1) (hGi q8.2 710 l1) q8.2).bind fun q11 =>
          (To_passSemicolon Y l1 q11).bind fun q12 =>
          some (q12.1, q12.2)
        else
          some (false, q8.2)
      else
        some (false, q6.2)
    else
      some (false, q4.2)
  else
    some (false, q2.2)
theorem ok_SR_readRule (Y : Ly) (l0 : Nat) (l1 : Nat) (l2 : Nat) (h : Hp) (t0 : isO Y 5 l0) (t1 : isO Y 7 l1) (t2 : isO Y 4 l2) : AM Y 3 K_SR_readRule [.ref l0, .ref l1, .ref l2] h (SR_readRule Y l0 l1 l2 h) rZ := by
  refine AM.of rfl (Nat.le_of_ble_eq_true rfl) ?_
  show AW Y 3 K_SR_readRule 0 [(0, .ref l0), (1, .ref l1), (2, .ref l2)] [] h (SR_readRule Y l0 l1 l2 h) rZ
  unfold SR_readRule
  refine aw_aload_n (pc := 0) d_SR_readRule_0 rfl 1 rfl ?_
  refine aw_cVrV (pc := 1) (ci := 7) (T := TX7) (N := 13) (As := []) (st := []) (ok_To_advance Y l1 h t1) okV_To_advance rfl (by decide) t1 w3_193 d_SR_readRule_1 rfl (Nat.le_of_ble_eq_true rfl) rfl (Nat.le_of_ble_eq_true rfl) (fun q1 hq1 hTq1 => ?_)
  refine aw_aload_n (pc := 4) d_SR_readRule_4 rfl 1 rfl ?_
  refine aw_aload_n (pc := 5) d_SR_readRule_5 rfl 2 rfl ?_
  refine aw_iconst (pc := 6) (x := 0) d_SR_readRule_6 (by decide) ?_
  refine aw_cVrZ (pc := 7) (ci := 7) (T := TX7) (N := 13) (As := [.ref l2, .int 0]) (st := []) (ok_To_passOld Y l1 l2 0 q1 t1 t2) okV_To_passOld rfl (by decide) t1 w3_239 d_SR_readRule_7 rfl (Nat.le_of_ble_eq_true rfl) rfl (Nat.le_of_ble_eq_true rfl) (fun q2 hq2 hTq2 => ?_)
  refine aw_bne (pc := 10) (tgt := 15) d_SR_readRule_10 (by decide) (fun c3 => ?_) (fun c3 => ?_)
  · refine aw_aload_n (pc := 15) d_SR_readRule_15 rfl 1 rfl ?_
    refine gt_710 (pc := 16) d_SR_readRule_16 w1_103 t1 ?_
    refine aw_istore_n (pc := 19) (lv' := [(3, .int (hGi q2.2 710 l1)), (0, .ref l0), (1, .ref l1), (2, .ref l2)]) d_SR_readRule_19 rfl (by decide) rfl ?_
    refine aw_aload_n (pc := 20) d_SR_readRule_20 rfl 2 rfl ?_
    refine aw_aload_n (pc := 21) d_SR_readRule_21 rfl 3 rfl ?_
    refine aw_iconst (pc := 22) (x := 2) d_SR_readRule_22 (by decide) ?_
    refine aw_cVrZ (pc := 23) (ci := 7) (T := TX7) (N := 13) (As := [.ref l2, .int 2]) (st := []) (ok_To_passOld Y l1 l2 2 q2.2 t1 t2) okV_To_passOld rfl (by decide) t1 w3_239 d_SR_readRule_23 rfl (Nat.le_of_ble_eq_true rfl) rfl (Nat.le_of_ble_eq_true rfl) (fun q4 hq4 hTq4 => ?_)
    refine aw_bne (pc := 26) (tgt := 31) d_SR_readRule_26 (by decide) (fun c5 => ?_) (fun c5 => ?_)
    · refine aw_aload_n (pc := 31) d_SR_readRule_31 rfl 2 rfl ?_
      refine gt_710 (pc := 32) d_SR_readRule_32 w1_103 t1 ?_
      refine aw_istore (pc := 35) (lv' := [(4, .int (hGi q4.2 710 l1)), (3, .int (hGi q2.2 710 l1)), (0, .ref l0), (1, .ref l1), (2, .ref l2)]) d_SR_readRule_35 (by decide) rfl ?_
      refine aw_aload_n (pc := 37) d_SR_readRule_37 rfl 3 rfl ?_
      refine aw_iconst (pc := 38) (x := 5) d_SR_readRule_38 (by decide) ?_
      refine aw_cVrZ (pc := 39) (ci := 7) (T := TX7) (N := 13) (As := [.int 5]) (st := []) (ok_To_passWord Y l1 5 q4.2 t1) okV_To_passWord rfl (by decide) t1 w4_11 d_SR_readRule_39 rfl (Nat.le_of_ble_eq_true rfl) rfl (Nat.le_of_ble_eq_true rfl) (fun q6 hq6 hTq6 => ?_)
      refine aw_beq (pc := 42) (tgt := 54) d_SR_readRule_42 (by decide) (fun c7 => ?_) (fun c7 => ?_)
      · refine aw_aload_n (pc := 45) d_SR_readRule_45 rfl 3 rfl ?_
        refine aw_aload_n (pc := 46) d_SR_readRule_46 rfl 4 rfl ?_
        refine aw_iconst (pc := 47) (x := 0) d_SR_readRule_47 (by decide) ?_
        refine aw_cVrZ (pc := 48) (ci := 7) (T := TX7) (N := 13) (As := [.ref l2, .int 0]) (st := []) (ok_To_passOld Y l1 l2 0 q6.2 t1 t2) okV_To_passOld rfl (by decide) t1 w3_239 d_SR_readRule_48 rfl (Nat.le_of_ble_eq_true rfl) rfl (Nat.le_of_ble_eq_true rfl) (fun q8 hq8 hTq8 => ?_)
        refine aw_bne (pc := 51) (tgt := 56) d_SR_readRule_51 (by decide) (fun c9 => ?_) (fun c9 => ?_)
        · refine aw_aload_n (pc := 56) d_SR_readRule_56 rfl 4 rfl ?_
          refine gt_400 (pc := 57) d_SR_readRule_57 w2_127 t2 (fun tt10 => ?_)
          refine aw_iload_n (pc := 60) d_SR_readRule_60 rfl 1 rfl ?_
          refine aw_iload (pc := 61) d_SR_readRule_61 0 rfl ?_
          refine aw_aload_n (pc := 63) d_SR_readRule_63 rfl 3 rfl ?_
          refine gt_710 (pc := 64) d_SR_readRule_64 w1_103 t1 ?_
          refine aw_cVrV (pc := 67) (ci := 6) (T := TX6) (N := 8) (As := [.int (hGi q2.2 710 l1), .int (hGi q4.2 710 l1), .int (hGi q8.2 710 l1)]) (st := []) (ok_St_setRule Y (hGr q8.2 400 l2) (hGi q2.2 710 l1) (hGi q4.2 710 l1) (hGi q8.2 710 l1) q8.2 tt10) okV_St_setRule rfl (by decide) tt10 w4_15 d_SR_readRule_67 rfl (Nat.le_of_ble_eq_true rfl) rfl (Nat.le_of_ble_eq_true rfl) (fun q11 hq11 hTq11 => ?_)
          refine aw_aload_n (pc := 70) d_SR_readRule_70 rfl 3 rfl ?_
          refine aw_cVrZ (pc := 71) (ci := 7) (T := TX7) (N := 13) (As := []) (st := []) (ok_To_passSemicolon Y l1 q11 t1) okV_To_passSemicolon rfl (by decide) t1 w3_215 d_SR_readRule_71 rfl (Nat.le_of_ble_eq_true rfl) rfl (Nat.le_of_ble_eq_true rfl) (fun q12 hq12 hTq12 => ?_)
          exact aw_zreturn (pc := 74) (b := q12.1) d_SR_readRule_74 rfl rfl
        · refine aw_iconst (pc := 54) (x := 0) d_SR_readRule_54 (by decide) ?_
          exact aw_zreturn (pc := 55) (b := false) d_SR_readRule_55 rfl rfl
      · refine aw_iconst (pc := 54) (x := 0) d_SR_readRule_54 (by decide) ?_
        exact aw_zreturn (pc := 55) (b := false) d_SR_readRule_55 rfl rfl
    · refine aw_iconst (pc := 29) (x := 0) d_SR_readRule_29 (by decide) ?_
      exact aw_zreturn (pc := 30) (b := false) d_SR_readRule_30 rfl rfl
  · refine aw_iconst (pc := 13) (x := 0) d_SR_readRule_13 (by decide) ?_
    exact aw_zreturn (pc := 14) (b := false) d_SR_readRule_14 rfl rfl
/-! LastPages$Story.addState(Z)V -/
theorem d_St_addState_0 : decode prog_8_method_7_code 0 = .ok (.aload_n 0, 1) := by decide +kernel
theorem d_St_addState_1 : decode prog_8_method_7_code 1 = .ok (.getfield 24, 3) := by decide +kernel
theorem d_St_addState_4 : decode prog_8_method_7_code 4 = .ok (.bipush 8, 2) := by decide +kernel
theorem d_St_addState_6 : decode prog_8_method_7_code 6 = .ok (.if_icmp .ge 36, 3) := by decide +kernel
theorem d_St_addState_9 : decode prog_8_method_7_code 9 = .ok (.aload_n 0, 1) := by decide +kernel
theorem d_St_addState_10 : decode prog_8_method_7_code 10 = .ok (.dup, 1) := by decide +kernel
theorem d_St_addState_11 : decode prog_8_method_7_code 11 = .ok (.getfield 31, 3) := by decide +kernel
theorem d_St_addState_14 : decode prog_8_method_7_code 14 = .ok (.iload_n 1, 1) := by decide +kernel
theorem d_St_addState_15 : decode prog_8_method_7_code 15 = .ok (.ifCond .eq 12, 3) := by decide +kernel
theorem d_St_addState_18 : decode prog_8_method_7_code 18 = .ok (.iconst 1, 1) := by decide +kernel
theorem d_St_addState_19 : decode prog_8_method_7_code 19 = .ok (.aload_n 0, 1) := by decide +kernel
theorem d_St_addState_20 : decode prog_8_method_7_code 20 = .ok (.getfield 24, 3) := by decide +kernel
theorem d_St_addState_23 : decode prog_8_method_7_code 23 = .ok (.ishl, 1) := by decide +kernel
theorem d_St_addState_24 : decode prog_8_method_7_code 24 = .ok (.goto 4, 3) := by decide +kernel
theorem d_St_addState_27 : decode prog_8_method_7_code 27 = .ok (.iconst 0, 1) := by decide +kernel
theorem d_St_addState_28 : decode prog_8_method_7_code 28 = .ok (.ior, 1) := by decide +kernel
theorem d_St_addState_29 : decode prog_8_method_7_code 29 = .ok (.putfield 31, 3) := by decide +kernel
theorem d_St_addState_32 : decode prog_8_method_7_code 32 = .ok (.aload_n 0, 1) := by decide +kernel
theorem d_St_addState_33 : decode prog_8_method_7_code 33 = .ok (.dup, 1) := by decide +kernel
theorem d_St_addState_34 : decode prog_8_method_7_code 34 = .ok (.getfield 24, 3) := by decide +kernel
theorem d_St_addState_37 : decode prog_8_method_7_code 37 = .ok (.iconst 1, 1) := by decide +kernel
theorem d_St_addState_38 : decode prog_8_method_7_code 38 = .ok (.iadd, 1) := by decide +kernel
theorem d_St_addState_39 : decode prog_8_method_7_code 39 = .ok (.putfield 24, 3) := by decide +kernel
theorem d_St_addState_42 : decode prog_8_method_7_code 42 = .ok (.return_, 1) := by decide +kernel
def St_addState (Y : Ly) (l0 : Nat) (l1 : Bool) (h : Hp) : Option Hp :=
  if 8 ≤ (hGi h 604 l0) then
    some h
  else
    if l1 = true then
      letH (hSi h 606 l0 ((hGi h 606 l0) ||| ((1 : Int32) <<< ((hGi h 604 l0) &&& 31)))) fun h3 =>
      letH (hSi h3 604 l0 ((hGi h3 604 l0) + 1)) fun h4 =>
      some h4
    else
      letH (hSi h 606 l0 ((hGi h 606 l0) ||| 0)) fun h5 =>
      letH (hSi h5 604 l0 ((hGi h5 604 l0) + 1)) fun h6 =>
      some h6
theorem ok_St_addState (Y : Ly) (l0 : Nat) (l1 : Bool) (h : Hp) (t0 : isO Y 6 l0) : AM Y 0 K_St_addState [.ref l0, .int (b2i l1)] h (St_addState Y l0 l1 h) rV := by
  refine AM.of rfl (Nat.le_of_ble_eq_true rfl) ?_
  show AW Y 0 K_St_addState 0 [(0, .ref l0), (1, .int (b2i l1))] [] h (St_addState Y l0 l1 h) rV
  unfold St_addState
  refine aw_aload_n (pc := 0) d_St_addState_0 rfl 0 rfl ?_
  refine gt_604 (pc := 1) d_St_addState_1 w1_186 t0 ?_
  refine aw_bipush (pc := 4) (x := 8) d_St_addState_4 (by decide) ?_
  refine aw_icmp_ge (pc := 6) (tgt := 42) d_St_addState_6 (by decide) (fun c1 => ?_) (fun c1 => ?_)
  · exact aw_return (pc := 42) d_St_addState_42 rfl rfl
  · refine aw_aload_n (pc := 9) d_St_addState_9 rfl 0 rfl ?_
    refine aw_dup (pc := 10) d_St_addState_10 rfl ?_
    refine gt_606 (pc := 11) d_St_addState_11 w1_194 t0 ?_
    refine aw_iload_n (pc := 14) d_St_addState_14 rfl 1 rfl ?_
    refine aw_beq (pc := 15) (tgt := 27) d_St_addState_15 (by decide) (fun c2 => ?_) (fun c2 => ?_)
    · refine aw_iconst (pc := 18) (x := 1) d_St_addState_18 (by decide) ?_
      refine aw_aload_n (pc := 19) d_St_addState_19 rfl 0 rfl ?_
      refine gt_604 (pc := 20) d_St_addState_20 w1_186 t0 ?_
      refine aw_ishl (pc := 23) d_St_addState_23 ?_
      refine aw_goto (pc := 24) (tgt := 28) d_St_addState_24 (by decide) ?_
      refine aw_ior (pc := 28) d_St_addState_28 ?_
      refine pt_606 (pc := 29) d_St_addState_29 w1_194 t0 ?_
      refine aw_letH (fun h3 => ?_)
      refine aw_aload_n (pc := 32) d_St_addState_32 rfl 0 rfl ?_
      refine aw_dup (pc := 33) d_St_addState_33 rfl ?_
      refine gt_604 (pc := 34) d_St_addState_34 w1_186 t0 ?_
      refine aw_iconst (pc := 37) (x := 1) d_St_addState_37 (by decide) ?_
      refine aw_iadd (pc := 38) d_St_addState_38 ?_
      refine pt_604 (pc := 39) d_St_addState_39 w1_186 t0 ?_
      refine aw_letH (fun h4 => ?_)
      exact aw_return (pc := 42) d_St_addState_42 rfl rfl
    · refine aw_iconst (pc := 27) (x := 0) d_St_addState_27 (by decide) ?_
      refine aw_ior (pc := 28) d_St_addState_28 ?_
      refine pt_606 (pc := 29) d_St_addState_29 w1_194 t0 ?_
      refine aw_letH (fun h5 => ?_)
      refine aw_aload_n (pc := 32) d_St_addState_32 rfl 0 rfl ?_
      refine aw_dup (pc := 33) d_St_addState_33 rfl ?_
      refine gt_604 (pc := 34) d_St_addState_34 w1_186 t0 ?_
      refine aw_iconst (pc := 37) (x := 1) d_St_addState_37 (by decide) ?_
      refine aw_iadd (pc := 38) d_St_addState_38 ?_
      refine pt_604 (pc := 39) d_St_addState_39 w1_186 t0 ?_
      refine aw_letH (fun h6 => ?_)
      exact aw_return (pc := 42) d_St_addState_42 rfl rfl
/-! LastPages$ShelfReader.readState(LLastPages$Tokens;LLastPages$Shelf;)Z -/
theorem d_SR_readState_0 : decode prog_7_method_4_code 0 = .ok (.aload_n 2, 1) := by decide +kernel
theorem d_SR_readState_1 : decode prog_7_method_4_code 1 = .ok (.getfield 79, 3) := by decide +kernel
theorem d_SR_readState_4 : decode prog_7_method_4_code 4 = .ok (.getfield 83, 3) := by decide +kernel
theorem d_SR_readState_7 : decode prog_7_method_4_code 7 = .ok (.bipush 8, 2) := by decide +kernel
theorem d_SR_readState_9 : decode prog_7_method_4_code 9 = .ok (.if_icmp .lt 10, 3) := by decide +kernel
theorem d_SR_readState_12 : decode prog_7_method_4_code 12 = .ok (.aload_n 1, 1) := by decide +kernel
theorem d_SR_readState_13 : decode prog_7_method_4_code 13 = .ok (.bipush 6, 2) := by decide +kernel
theorem d_SR_readState_15 : decode prog_7_method_4_code 15 = .ok (.invokevirtual 75, 3) := by decide +kernel
theorem d_SR_readState_18 : decode prog_7_method_4_code 18 = .ok (.ireturn, 1) := by decide +kernel
theorem d_SR_readState_19 : decode prog_7_method_4_code 19 = .ok (.aload_n 1, 1) := by decide +kernel
theorem d_SR_readState_20 : decode prog_7_method_4_code 20 = .ok (.invokevirtual 88, 3) := by decide +kernel
theorem d_SR_readState_23 : decode prog_7_method_4_code 23 = .ok (.aload_n 1, 1) := by decide +kernel
theorem d_SR_readState_24 : decode prog_7_method_4_code 24 = .ok (.aload_n 2, 1) := by decide +kernel
theorem d_SR_readState_25 : decode prog_7_method_4_code 25 = .ok (.iconst 0, 1) := by decide +kernel
theorem d_SR_readState_26 : decode prog_7_method_4_code 26 = .ok (.aload_n 2, 1) := by decide +kernel
theorem d_SR_readState_27 : decode prog_7_method_4_code 27 = .ok (.getfield 79, 3) := by decide +kernel
theorem d_SR_readState_30 : decode prog_7_method_4_code 30 = .ok (.getfield 83, 3) := by decide +kernel
theorem d_SR_readState_33 : decode prog_7_method_4_code 33 = .ok (.invokevirtual 91, 3) := by decide +kernel
theorem d_SR_readState_36 : decode prog_7_method_4_code 36 = .ok (.ifCond .ne 5, 3) := by decide +kernel
theorem d_SR_readState_39 : decode prog_7_method_4_code 39 = .ok (.iconst 0, 1) := by decide +kernel
theorem d_SR_readState_40 : decode prog_7_method_4_code 40 = .ok (.ireturn, 1) := by decide +kernel
theorem d_SR_readState_41 : decode prog_7_method_4_code 41 = .ok (.aload_n 1, 1) := by decide +kernel
theorem d_SR_readState_42 : decode prog_7_method_4_code 42 = .ok (.getfield 37, 3) := by decide +kernel
theorem d_SR_readState_45 : decode prog_7_method_4_code 45 = .ok (.iconst 1, 1) := by decide +kernel
theorem d_SR_readState_46 : decode prog_7_method_4_code 46 = .ok (.if_icmp .ne 7, 3) := by decide +kernel
theorem d_SR_readState_49 : decode prog_7_method_4_code 49 = .ok (.iconst 1, 1) := by decide +kernel
theorem d_SR_readState_50 : decode prog_7_method_4_code 50 = .ok (.goto 4, 3) := by decide +kernel
theorem d_SR_readState_53 : decode prog_7_method_4_code 53 = .ok (.iconst 0, 1) := by decide +kernel
theorem d_SR_readState_54 : decode prog_7_method_4_code 54 = .ok (.istore_n 3, 1) := by decide +kernel
theorem d_SR_readState_55 : decode prog_7_method_4_code 55 = .ok (.iload_n 3, 1) := by decide +kernel
theorem d_SR_readState_56 : decode prog_7_method_4_code 56 = .ok (.ifCond .eq 7, 3) := by decide +kernel
theorem d_SR_readState_59 : decode prog_7_method_4_code 59 = .ok (.aload_n 1, 1) := by decide +kernel
theorem d_SR_readState_60 : decode prog_7_method_4_code 60 = .ok (.invokevirtual 88, 3) := by decide +kernel
theorem d_SR_readState_63 : decode prog_7_method_4_code 63 = .ok (.aload_n 2, 1) := by decide +kernel
theorem d_SR_readState_64 : decode prog_7_method_4_code 64 = .ok (.getfield 79, 3) := by decide +kernel
theorem d_SR_readState_67 : decode prog_7_method_4_code 67 = .ok (.iload_n 3, 1) := by decide +kernel
theorem d_SR_readState_68 : decode prog_7_method_4_code 68 = .ok (.invokevirtual 95, 3) := by decide +kernel
theorem d_SR_readState_71 : decode prog_7_method_4_code 71 = .ok (.aload_n 1, 1) := by decide +kernel
theorem d_SR_readState_72 : decode prog_7_method_4_code 72 = .ok (.invokevirtual 99, 3) := by decide +kernel
theorem d_SR_readState_75 : decode prog_7_method_4_code 75 = .ok (.ireturn, 1) := by decide +kernel
def SR_readState_J54 (Y : Ly) (l1 : Nat) (l2 : Nat) (s0 : Bool) (h : Hp) : Option (Bool × Hp) :=
  if s0 = true then
    (To_advance Y l1 h).bind fun q9 =>
    (St_addState Y (hGr q9 400 l2) s0 q9).bind fun q11 =>
    (To_passSemicolon Y l1 q11).bind fun q12 =>
    some (q12.1, q12.2)
  else
    (St_addState Y (hGr h 400 l2) s0 h).bind fun q14 =>
    (To_passSemicolon Y l1 q14).bind fun q15 =>
    some (q15.1, q15.2)
theorem SR_readState_J54_ok (Y : Ly) (l1 : Nat) (l2 : Nat) (s0 : Bool) (h : Hp) (tl1 : isO Y 7 l1) (tl2 : isO Y 4 l2) : AW Y 3 K_SR_readState 54 [(1, .ref l1), (2, .ref l2)] [.int (b2i s0)] h (SR_readState_J54 Y l1 l2 s0 h) rZ := by
  unfold SR_readState_J54
  refine aw_istore_n (pc := 54) (lv' := [(3, .int (b2i s0)), (1, .ref l1), (2, .ref l2)]) d_SR_readState_54 rfl (by decide) rfl ?_
  refine aw_iload_n (pc := 55) d_SR_readState_55 rfl 0 rfl ?_
  refine aw_beq (pc := 56) (tgt := 63) d_SR_readState_56 (by decide) (fun c8 => ?_) (fun c8 => ?_)
  · refine aw_aload_n (pc := 59) d_SR_readState_59 rfl 1 rfl ?_
    refine aw_cVrV (pc := 60) (ci := 7) (T := TX7) (N := 13) (As := []) (st := []) (ok_To_advance Y l1 h tl1) okV_To_advance rfl (by decide) tl1 w3_193 d_SR_readState_60 rfl (Nat.le_of_ble_eq_true rfl) rfl (Nat.le_of_ble_eq_true rfl) (fun q9 hq9 hTq9 => ?_)
    refine aw_aload_n (pc := 63) d_SR_readState_63 rfl 2 rfl ?_
    refine gt_400 (pc := 64) d_SR_readState_64 w2_127 tl2 (fun tt10 => ?_)
    refine aw_iload_n (pc := 67) d_SR_readState_67 rfl 0 rfl ?_
    refine aw_cVrV (pc := 68) (ci := 6) (T := TX6) (N := 8) (As := [.int (b2i s0)]) (st := []) (ok_St_addState Y (hGr q9 400 l2) s0 q9 tt10) okV_St_addState rfl (by decide) tt10 w3_211 d_SR_readState_68 rfl (Nat.le_of_ble_eq_true rfl) rfl (Nat.le_of_ble_eq_true rfl) (fun q11 hq11 hTq11 => ?_)
    refine aw_aload_n (pc := 71) d_SR_readState_71 rfl 1 rfl ?_
    refine aw_cVrZ (pc := 72) (ci := 7) (T := TX7) (N := 13) (As := []) (st := []) (ok_To_passSemicolon Y l1 q11 tl1) okV_To_passSemicolon rfl (by decide) tl1 w3_215 d_SR_readState_72 rfl (Nat.le_of_ble_eq_true rfl) rfl (Nat.le_of_ble_eq_true rfl) (fun q12 hq12 hTq12 => ?_)
    exact aw_zreturn (pc := 75) (b := q12.1) d_SR_readState_75 rfl rfl
  · refine aw_aload_n (pc := 63) d_SR_readState_63 rfl 2 rfl ?_
    refine gt_400 (pc := 64) d_SR_readState_64 w2_127 tl2 (fun tt13 => ?_)
    refine aw_iload_n (pc := 67) d_SR_readState_67 rfl 0 rfl ?_
    refine aw_cVrV (pc := 68) (ci := 6) (T := TX6) (N := 8) (As := [.int (b2i s0)]) (st := []) (ok_St_addState Y (hGr h 400 l2) s0 h tt13) okV_St_addState rfl (by decide) tt13 w3_211 d_SR_readState_68 rfl (Nat.le_of_ble_eq_true rfl) rfl (Nat.le_of_ble_eq_true rfl) (fun q14 hq14 hTq14 => ?_)
    refine aw_aload_n (pc := 71) d_SR_readState_71 rfl 1 rfl ?_
    refine aw_cVrZ (pc := 72) (ci := 7) (T := TX7) (N := 13) (As := []) (st := []) (ok_To_passSemicolon Y l1 q14 tl1) okV_To_passSemicolon rfl (by decide) tl1 w3_215 d_SR_readState_72 rfl (Nat.le_of_ble_eq_true rfl) rfl (Nat.le_of_ble_eq_true rfl) (fun q15 hq15 hTq15 => ?_)
    exact aw_zreturn (pc := 75) (b := q15.1) d_SR_readState_75 rfl rfl
def SR_readState (Y : Ly) (l0 : Nat) (l1 : Nat) (l2 : Nat) (h : Hp) : Option (Bool × Hp) :=
  if (hGi h 604 (hGr h 400 l2)) < 8 then
    (To_advance Y l1 h).bind fun q3 =>
    (To_passNew Y l1 l2 0 (hGi q3 604 (hGr q3 400 l2)) q3).bind fun q5 =>
    if q5.1 = true then
      if (hGi q5.2 708 l1) = 1 then
        SR_readState_J54 Y l1 l2 true q5.2
      else
        SR_readState_J54 Y l1 l2 false q5.2
    else
      some (false, q5.2)
  else
    (To_blame Y l1 6 h).bind fun q16 =>
    some (q16.1, q16.2)
theorem ok_SR_readState (Y : Ly) (l0 : Nat) (l1 : Nat) (l2 : Nat) (h : Hp) (t0 : isO Y 5 l0) (t1 : isO Y 7 l1) (t2 : isO Y 4 l2) : AM Y 3 K_SR_readState [.ref l0, .ref l1, .ref l2] h (SR_readState Y l0 l1 l2 h) rZ := by
  refine AM.of rfl (Nat.le_of_ble_eq_true rfl) ?_
  show AW Y 3 K_SR_readState 0 [(0, .ref l0), (1, .ref l1), (2, .ref l2)] [] h (SR_readState Y l0 l1 l2 h) rZ
  unfold SR_readState
  refine aw_aload_n (pc := 0) d_SR_readState_0 rfl 2 rfl ?_
  refine gt_400 (pc := 1) d_SR_readState_1 w2_127 t2 (fun tt1 => ?_)
  refine gt_604 (pc := 4) d_SR_readState_4 w1_187 tt1 ?_
  refine aw_bipush (pc := 7) (x := 8) d_SR_readState_7 (by decide) ?_
  refine aw_icmp_lt (pc := 9) (tgt := 19) d_SR_readState_9 (by decide) (fun c2 => ?_) (fun c2 => ?_)
  · refine aw_aload_n (pc := 19) d_SR_readState_19 rfl 1 rfl ?_
    refine aw_cVrV (pc := 20) (ci := 7) (T := TX7) (N := 13) (As := []) (st := []) (ok_To_advance Y l1 h t1) okV_To_advance rfl (by decide) t1 w3_193 d_SR_readState_20 rfl (Nat.le_of_ble_eq_true rfl) rfl (Nat.le_of_ble_eq_true rfl) (fun q3 hq3 hTq3 => ?_)
    refine aw_aload_n (pc := 23) d_SR_readState_23 rfl 1 rfl ?_
    refine aw_aload_n (pc := 24) d_SR_readState_24 rfl 2 rfl ?_
    refine aw_iconst (pc := 25) (x := 0) d_SR_readState_25 (by decide) ?_
    refine aw_aload_n (pc := 26) d_SR_readState_26 rfl 2 rfl ?_
    refine gt_400 (pc := 27) d_SR_readState_27 w2_127 t2 (fun tt4 => ?_)
    refine gt_604 (pc := 30) d_SR_readState_30 w1_187 tt4 ?_
    refine aw_cVrZ (pc := 33) (ci := 7) (T := TX7) (N := 13) (As := [.ref l2, .int 0, .int (hGi q3 604 (hGr q3 400 l2))]) (st := []) (ok_To_passNew Y l1 l2 0 (hGi q3 604 (hGr q3 400 l2)) q3 t1 t2) okV_To_passNew rfl (by decide) t1 w3_194 d_SR_readState_33 rfl (Nat.le_of_ble_eq_true rfl) rfl (Nat.le_of_ble_eq_true rfl) (fun q5 hq5 hTq5 => ?_)
    refine aw_bne (pc := 36) (tgt := 41) d_SR_readState_36 (by decide) (fun c6 => ?_) (fun c6 => ?_)
    · refine aw_aload_n (pc := 41) d_SR_readState_41 rfl 1 rfl ?_
      refine gt_708 (pc := 42) d_SR_readState_42 w1_100 t1 ?_
      refine aw_iconst (pc := 45) (x := 1) d_SR_readState_45 (by decide) ?_
      refine aw_icmp_ne (pc := 46) (tgt := 53) d_SR_readState_46 (by decide) (fun c7 => ?_) (fun c7 => ?_)
      · refine aw_iconst (pc := 49) (x := 1) d_SR_readState_49 (by decide) ?_
        refine aw_goto (pc := 50) (tgt := 54) d_SR_readState_50 (by decide) ?_
        exact aw_lv [1, 2] rfl (SR_readState_J54_ok Y l1 l2 true q5.2 t1 t2)
      · refine aw_iconst (pc := 53) (x := 0) d_SR_readState_53 (by decide) ?_
        exact aw_lv [1, 2] rfl (SR_readState_J54_ok Y l1 l2 false q5.2 t1 t2)
    · refine aw_iconst (pc := 39) (x := 0) d_SR_readState_39 (by decide) ?_
      exact aw_zreturn (pc := 40) (b := false) d_SR_readState_40 rfl rfl
  · refine aw_aload_n (pc := 12) d_SR_readState_12 rfl 1 rfl ?_
    refine aw_bipush (pc := 13) (x := 6) d_SR_readState_13 (by decide) ?_
    refine aw_cVrZ (pc := 15) (ci := 7) (T := TX7) (N := 13) (As := [.int 6]) (st := []) (ok_To_blame Y l1 6 h t1) okV_To_blame rfl (by decide) t1 w3_189 d_SR_readState_15 rfl (Nat.le_of_ble_eq_true rfl) rfl (Nat.le_of_ble_eq_true rfl) (fun q16 hq16 hTq16 => ?_)
    exact aw_zreturn (pc := 18) (b := q16.1) d_SR_readState_18 rfl rfl
/-! LastPages$Story.addTurn(I)V -/
theorem d_St_addTurn_0 : decode prog_8_method_8_code 0 = .ok (.aload_n 0, 1) := by decide +kernel
theorem d_St_addTurn_1 : decode prog_8_method_8_code 1 = .ok (.getfield 28, 3) := by decide +kernel
theorem d_St_addTurn_4 : decode prog_8_method_8_code 4 = .ok (.bipush 8, 2) := by decide +kernel
theorem d_St_addTurn_6 : decode prog_8_method_8_code 6 = .ok (.if_icmp .ge 23, 3) := by decide +kernel
theorem d_St_addTurn_9 : decode prog_8_method_8_code 9 = .ok (.aload_n 0, 1) := by decide +kernel
theorem d_St_addTurn_10 : decode prog_8_method_8_code 10 = .ok (.getfield 9, 3) := by decide +kernel
theorem d_St_addTurn_13 : decode prog_8_method_8_code 13 = .ok (.aload_n 0, 1) := by decide +kernel
theorem d_St_addTurn_14 : decode prog_8_method_8_code 14 = .ok (.getfield 28, 3) := by decide +kernel
theorem d_St_addTurn_17 : decode prog_8_method_8_code 17 = .ok (.iload_n 1, 1) := by decide +kernel
theorem d_St_addTurn_18 : decode prog_8_method_8_code 18 = .ok (.iastore, 1) := by decide +kernel
theorem d_St_addTurn_19 : decode prog_8_method_8_code 19 = .ok (.aload_n 0, 1) := by decide +kernel
theorem d_St_addTurn_20 : decode prog_8_method_8_code 20 = .ok (.dup, 1) := by decide +kernel
theorem d_St_addTurn_21 : decode prog_8_method_8_code 21 = .ok (.getfield 28, 3) := by decide +kernel
theorem d_St_addTurn_24 : decode prog_8_method_8_code 24 = .ok (.iconst 1, 1) := by decide +kernel
theorem d_St_addTurn_25 : decode prog_8_method_8_code 25 = .ok (.iadd, 1) := by decide +kernel
theorem d_St_addTurn_26 : decode prog_8_method_8_code 26 = .ok (.putfield 28, 3) := by decide +kernel
theorem d_St_addTurn_29 : decode prog_8_method_8_code 29 = .ok (.return_, 1) := by decide +kernel
def St_addTurn (Y : Ly) (l0 : Nat) (l1 : Int32) (h : Hp) : Option Hp :=
  if 8 ≤ (hGi h 605 l0) then
    some h
  else
    if inB (hGi h 605 l0) (lnY Y (hGr h 600 l0)) = true then
      letH (hTi h (hGr h 600 l0) (Int32.toNatClampNeg (hGi h 605 l0)) l1) fun h4 =>
      letH (hSi h4 605 l0 ((hGi h4 605 l0) + 1)) fun h5 =>
      some h5
    else none
theorem ok_St_addTurn (Y : Ly) (l0 : Nat) (l1 : Int32) (h : Hp) (t0 : isO Y 6 l0) : AM Y 0 K_St_addTurn [.ref l0, .int l1] h (St_addTurn Y l0 l1 h) rV := by
  refine AM.of rfl (Nat.le_of_ble_eq_true rfl) ?_
  show AW Y 0 K_St_addTurn 0 [(0, .ref l0), (1, .int l1)] [] h (St_addTurn Y l0 l1 h) rV
  unfold St_addTurn
  refine aw_aload_n (pc := 0) d_St_addTurn_0 rfl 0 rfl ?_
  refine gt_605 (pc := 1) d_St_addTurn_1 w1_190 t0 ?_
  refine aw_bipush (pc := 4) (x := 8) d_St_addTurn_4 (by decide) ?_
  refine aw_icmp_ge (pc := 6) (tgt := 29) d_St_addTurn_6 (by decide) (fun c1 => ?_) (fun c1 => ?_)
  · exact aw_return (pc := 29) d_St_addTurn_29 rfl rfl
  · refine aw_aload_n (pc := 9) d_St_addTurn_9 rfl 0 rfl ?_
    refine gt_600 (pc := 10) d_St_addTurn_10 w1_179 t0 (fun tt2 => ?_)
    refine aw_aload_n (pc := 13) d_St_addTurn_13 rfl 0 rfl ?_
    refine gt_605 (pc := 14) d_St_addTurn_14 w1_190 t0 ?_
    refine aw_iload_n (pc := 17) d_St_addTurn_17 rfl 1 rfl ?_
    refine aw_iastore (pc := 18) d_St_addTurn_18 tt2 (fun c3 => ?_)
    refine aw_letH (fun h4 => ?_)
    refine aw_aload_n (pc := 19) d_St_addTurn_19 rfl 0 rfl ?_
    refine aw_dup (pc := 20) d_St_addTurn_20 rfl ?_
    refine gt_605 (pc := 21) d_St_addTurn_21 w1_190 t0 ?_
    refine aw_iconst (pc := 24) (x := 1) d_St_addTurn_24 (by decide) ?_
    refine aw_iadd (pc := 25) d_St_addTurn_25 ?_
    refine pt_605 (pc := 26) d_St_addTurn_26 w1_190 t0 ?_
    refine aw_letH (fun h5 => ?_)
    exact aw_return (pc := 29) d_St_addTurn_29 rfl rfl
/-! LastPages$ShelfReader.readTurn(LLastPages$Tokens;LLastPages$Shelf;)Z -/
theorem d_SR_readTurn_0 : decode prog_7_method_5_code 0 = .ok (.aload_n 2, 1) := by decide +kernel
theorem d_SR_readTurn_1 : decode prog_7_method_5_code 1 = .ok (.getfield 79, 3) := by decide +kernel
theorem d_SR_readTurn_4 : decode prog_7_method_5_code 4 = .ok (.getfield 103, 3) := by decide +kernel
theorem d_SR_readTurn_7 : decode prog_7_method_5_code 7 = .ok (.bipush 8, 2) := by decide +kernel
theorem d_SR_readTurn_9 : decode prog_7_method_5_code 9 = .ok (.if_icmp .lt 10, 3) := by decide +kernel
theorem d_SR_readTurn_12 : decode prog_7_method_5_code 12 = .ok (.aload_n 1, 1) := by decide +kernel
theorem d_SR_readTurn_13 : decode prog_7_method_5_code 13 = .ok (.bipush 6, 2) := by decide +kernel
theorem d_SR_readTurn_15 : decode prog_7_method_5_code 15 = .ok (.invokevirtual 75, 3) := by decide +kernel
theorem d_SR_readTurn_18 : decode prog_7_method_5_code 18 = .ok (.ireturn, 1) := by decide +kernel
theorem d_SR_readTurn_19 : decode prog_7_method_5_code 19 = .ok (.aload_n 1, 1) := by decide +kernel
theorem d_SR_readTurn_20 : decode prog_7_method_5_code 20 = .ok (.invokevirtual 88, 3) := by decide +kernel
theorem d_SR_readTurn_23 : decode prog_7_method_5_code 23 = .ok (.aload_n 1, 1) := by decide +kernel
theorem d_SR_readTurn_24 : decode prog_7_method_5_code 24 = .ok (.aload_n 2, 1) := by decide +kernel
theorem d_SR_readTurn_25 : decode prog_7_method_5_code 25 = .ok (.iconst 2, 1) := by decide +kernel
theorem d_SR_readTurn_26 : decode prog_7_method_5_code 26 = .ok (.aload_n 2, 1) := by decide +kernel
theorem d_SR_readTurn_27 : decode prog_7_method_5_code 27 = .ok (.getfield 79, 3) := by decide +kernel
theorem d_SR_readTurn_30 : decode prog_7_method_5_code 30 = .ok (.getfield 103, 3) := by decide +kernel
theorem d_SR_readTurn_33 : decode prog_7_method_5_code 33 = .ok (.invokevirtual 91, 3) := by decide +kernel
theorem d_SR_readTurn_36 : decode prog_7_method_5_code 36 = .ok (.ifCond .ne 5, 3) := by decide +kernel
theorem d_SR_readTurn_39 : decode prog_7_method_5_code 39 = .ok (.iconst 0, 1) := by decide +kernel
theorem d_SR_readTurn_40 : decode prog_7_method_5_code 40 = .ok (.ireturn, 1) := by decide +kernel
theorem d_SR_readTurn_41 : decode prog_7_method_5_code 41 = .ok (.iconst 1, 1) := by decide +kernel
theorem d_SR_readTurn_42 : decode prog_7_method_5_code 42 = .ok (.istore_n 3, 1) := by decide +kernel
theorem d_SR_readTurn_43 : decode prog_7_method_5_code 43 = .ok (.aload_n 1, 1) := by decide +kernel
theorem d_SR_readTurn_44 : decode prog_7_method_5_code 44 = .ok (.getfield 37, 3) := by decide +kernel
theorem d_SR_readTurn_47 : decode prog_7_method_5_code 47 = .ok (.iconst 3, 1) := by decide +kernel
theorem d_SR_readTurn_48 : decode prog_7_method_5_code 48 = .ok (.if_icmp .ne 24, 3) := by decide +kernel
theorem d_SR_readTurn_51 : decode prog_7_method_5_code 51 = .ok (.aload_n 1, 1) := by decide +kernel
theorem d_SR_readTurn_52 : decode prog_7_method_5_code 52 = .ok (.invokevirtual 88, 3) := by decide +kernel
theorem d_SR_readTurn_55 : decode prog_7_method_5_code 55 = .ok (.aload_n 1, 1) := by decide +kernel
theorem d_SR_readTurn_56 : decode prog_7_method_5_code 56 = .ok (.iconst 0, 1) := by decide +kernel
theorem d_SR_readTurn_57 : decode prog_7_method_5_code 57 = .ok (.bipush 9, 2) := by decide +kernel
theorem d_SR_readTurn_59 : decode prog_7_method_5_code 59 = .ok (.invokevirtual 106, 3) := by decide +kernel
theorem d_SR_readTurn_62 : decode prog_7_method_5_code 62 = .ok (.ifCond .ne 5, 3) := by decide +kernel
theorem d_SR_readTurn_65 : decode prog_7_method_5_code 65 = .ok (.iconst 0, 1) := by decide +kernel
theorem d_SR_readTurn_66 : decode prog_7_method_5_code 66 = .ok (.ireturn, 1) := by decide +kernel
theorem d_SR_readTurn_67 : decode prog_7_method_5_code 67 = .ok (.aload_n 1, 1) := by decide +kernel
theorem d_SR_readTurn_68 : decode prog_7_method_5_code 68 = .ok (.getfield 110, 3) := by decide +kernel
theorem d_SR_readTurn_71 : decode prog_7_method_5_code 71 = .ok (.istore_n 3, 1) := by decide +kernel
theorem d_SR_readTurn_72 : decode prog_7_method_5_code 72 = .ok (.aload_n 2, 1) := by decide +kernel
theorem d_SR_readTurn_73 : decode prog_7_method_5_code 73 = .ok (.getfield 79, 3) := by decide +kernel
theorem d_SR_readTurn_76 : decode prog_7_method_5_code 76 = .ok (.iload_n 3, 1) := by decide +kernel
theorem d_SR_readTurn_77 : decode prog_7_method_5_code 77 = .ok (.invokevirtual 113, 3) := by decide +kernel
theorem d_SR_readTurn_80 : decode prog_7_method_5_code 80 = .ok (.aload_n 1, 1) := by decide +kernel
theorem d_SR_readTurn_81 : decode prog_7_method_5_code 81 = .ok (.invokevirtual 99, 3) := by decide +kernel
theorem d_SR_readTurn_84 : decode prog_7_method_5_code 84 = .ok (.ireturn, 1) := by decide +kernel
def SR_readTurn (Y : Ly) (l0 : Nat) (l1 : Nat) (l2 : Nat) (h : Hp) : Option (Bool × Hp) :=
  if (hGi h 605 (hGr h 400 l2)) < 8 then
    (To_advance Y l1 h).bind fun q3 =>
    (To_passNew Y l1 l2 2 (hGi q3 605 (hGr q3 400 l2)) q3).bind fun q5 =>
    if q5.1 = true then
      if (hGi q5.2 708 l1) = 3 then
        (To_advance Y l1 q5.2).bind fun q8 =>
        (To_passNumber Y l1 0 9 q8).bind fun q9 =>
        if q9.1 = true then
          (St_addTurn Y (hGr q9.2 400 l2) (hGi q9.2 710 l1) q9.2).bind fun q12 =>
          (To_passSemicolon Y l1 q12).bind fun q13 =>
          some (q13.1, q13.2)
        else
          some (false, q9.2)
      else
        (St_addTurn Y (hGr q5.2 400 l2) 1 q5.2).bind fun q15 =>
        (To_passSemicolon Y l1 q15).bind fun q16 =>
        some (q16.1, q16.2)
    else
      some (false, q5.2)
  else
    (To_blame Y l1 6 h).bind fun q17 =>
    some (q17.1, q17.2)
theorem ok_SR_readTurn (Y : Ly) (l0 : Nat) (l1 : Nat) (l2 : Nat) (h : Hp) (t0 : isO Y 5 l0) (t1 : isO Y 7 l1) (t2 : isO Y 4 l2) : AM Y 3 K_SR_readTurn [.ref l0, .ref l1, .ref l2] h (SR_readTurn Y l0 l1 l2 h) rZ := by
  refine AM.of rfl (Nat.le_of_ble_eq_true rfl) ?_
  show AW Y 3 K_SR_readTurn 0 [(0, .ref l0), (1, .ref l1), (2, .ref l2)] [] h (SR_readTurn Y l0 l1 l2 h) rZ
  unfold SR_readTurn
  refine aw_aload_n (pc := 0) d_SR_readTurn_0 rfl 2 rfl ?_
  refine gt_400 (pc := 1) d_SR_readTurn_1 w2_127 t2 (fun tt1 => ?_)
  refine gt_605 (pc := 4) d_SR_readTurn_4 w1_192 tt1 ?_
  refine aw_bipush (pc := 7) (x := 8) d_SR_readTurn_7 (by decide) ?_
  refine aw_icmp_lt (pc := 9) (tgt := 19) d_SR_readTurn_9 (by decide) (fun c2 => ?_) (fun c2 => ?_)
  · refine aw_aload_n (pc := 19) d_SR_readTurn_19 rfl 1 rfl ?_
    refine aw_cVrV (pc := 20) (ci := 7) (T := TX7) (N := 13) (As := []) (st := []) (ok_To_advance Y l1 h t1) okV_To_advance rfl (by decide) t1 w3_193 d_SR_readTurn_20 rfl (Nat.le_of_ble_eq_true rfl) rfl (Nat.le_of_ble_eq_true rfl) (fun q3 hq3 hTq3 => ?_)
    refine aw_aload_n (pc := 23) d_SR_readTurn_23 rfl 1 rfl ?_
    refine aw_aload_n (pc := 24) d_SR_readTurn_24 rfl 2 rfl ?_
    refine aw_iconst (pc := 25) (x := 2) d_SR_readTurn_25 (by decide) ?_
    refine aw_aload_n (pc := 26) d_SR_readTurn_26 rfl 2 rfl ?_
    refine gt_400 (pc := 27) d_SR_readTurn_27 w2_127 t2 (fun tt4 => ?_)
    refine gt_605 (pc := 30) d_SR_readTurn_30 w1_192 tt4 ?_
    refine aw_cVrZ (pc := 33) (ci := 7) (T := TX7) (N := 13) (As := [.ref l2, .int 2, .int (hGi q3 605 (hGr q3 400 l2))]) (st := []) (ok_To_passNew Y l1 l2 2 (hGi q3 605 (hGr q3 400 l2)) q3 t1 t2) okV_To_passNew rfl (by decide) t1 w3_194 d_SR_readTurn_33 rfl (Nat.le_of_ble_eq_true rfl) rfl (Nat.le_of_ble_eq_true rfl) (fun q5 hq5 hTq5 => ?_)
    refine aw_bne (pc := 36) (tgt := 41) d_SR_readTurn_36 (by decide) (fun c6 => ?_) (fun c6 => ?_)
    · refine aw_iconst (pc := 41) (x := 1) d_SR_readTurn_41 (by decide) ?_
      refine aw_istore_n (pc := 42) (lv' := [(3, .int 1), (0, .ref l0), (1, .ref l1), (2, .ref l2)]) d_SR_readTurn_42 rfl (by decide) rfl ?_
      refine aw_aload_n (pc := 43) d_SR_readTurn_43 rfl 2 rfl ?_
      refine gt_708 (pc := 44) d_SR_readTurn_44 w1_100 t1 ?_
      refine aw_iconst (pc := 47) (x := 3) d_SR_readTurn_47 (by decide) ?_
      refine aw_icmp_ne (pc := 48) (tgt := 72) d_SR_readTurn_48 (by decide) (fun c7 => ?_) (fun c7 => ?_)
      · refine aw_aload_n (pc := 51) d_SR_readTurn_51 rfl 2 rfl ?_
        refine aw_cVrV (pc := 52) (ci := 7) (T := TX7) (N := 13) (As := []) (st := []) (ok_To_advance Y l1 q5.2 t1) okV_To_advance rfl (by decide) t1 w3_193 d_SR_readTurn_52 rfl (Nat.le_of_ble_eq_true rfl) rfl (Nat.le_of_ble_eq_true rfl) (fun q8 hq8 hTq8 => ?_)
        refine aw_aload_n (pc := 55) d_SR_readTurn_55 rfl 2 rfl ?_
        refine aw_iconst (pc := 56) (x := 0) d_SR_readTurn_56 (by decide) ?_
        refine aw_bipush (pc := 57) (x := 9) d_SR_readTurn_57 (by decide) ?_
        refine aw_cVrZ (pc := 59) (ci := 7) (T := TX7) (N := 13) (As := [.int 0, .int 9]) (st := []) (ok_To_passNumber Y l1 0 9 q8 t1) okV_To_passNumber rfl (by decide) t1 w3_227 d_SR_readTurn_59 rfl (Nat.le_of_ble_eq_true rfl) rfl (Nat.le_of_ble_eq_true rfl) (fun q9 hq9 hTq9 => ?_)
        refine aw_bne (pc := 62) (tgt := 67) d_SR_readTurn_62 (by decide) (fun c10 => ?_) (fun c10 => ?_)
        · refine aw_aload_n (pc := 67) d_SR_readTurn_67 rfl 2 rfl ?_
          refine gt_710 (pc := 68) d_SR_readTurn_68 w1_103 t1 ?_
          refine aw_istore_n (pc := 71) (lv' := [(3, .int (hGi q9.2 710 l1)), (0, .ref l0), (1, .ref l1), (2, .ref l2)]) d_SR_readTurn_71 rfl (by decide) rfl ?_
          refine aw_aload_n (pc := 72) d_SR_readTurn_72 rfl 3 rfl ?_
          refine gt_400 (pc := 73) d_SR_readTurn_73 w2_127 t2 (fun tt11 => ?_)
          refine aw_iload_n (pc := 76) d_SR_readTurn_76 rfl 0 rfl ?_
          refine aw_cVrV (pc := 77) (ci := 6) (T := TX6) (N := 8) (As := [.int (hGi q9.2 710 l1)]) (st := []) (ok_St_addTurn Y (hGr q9.2 400 l2) (hGi q9.2 710 l1) q9.2 tt11) okV_St_addTurn rfl (by decide) tt11 w3_231 d_SR_readTurn_77 rfl (Nat.le_of_ble_eq_true rfl) rfl (Nat.le_of_ble_eq_true rfl) (fun q12 hq12 hTq12 => ?_)
          refine aw_aload_n (pc := 80) d_SR_readTurn_80 rfl 2 rfl ?_
          refine aw_cVrZ (pc := 81) (ci := 7) (T := TX7) (N := 13) (As := []) (st := []) (ok_To_passSemicolon Y l1 q12 t1) okV_To_passSemicolon rfl (by decide) t1 w3_215 d_SR_readTurn_81 rfl (Nat.le_of_ble_eq_true rfl) rfl (Nat.le_of_ble_eq_true rfl) (fun q13 hq13 hTq13 => ?_)
          exact aw_zreturn (pc := 84) (b := q13.1) d_SR_readTurn_84 rfl rfl
        · refine aw_iconst (pc := 65) (x := 0) d_SR_readTurn_65 (by decide) ?_
          exact aw_zreturn (pc := 66) (b := false) d_SR_readTurn_66 rfl rfl
      · refine aw_aload_n (pc := 72) d_SR_readTurn_72 rfl 3 rfl ?_
        refine gt_400 (pc := 73) d_SR_readTurn_73 w2_127 t2 (fun tt14 => ?_)
        refine aw_iload_n (pc := 76) d_SR_readTurn_76 rfl 0 rfl ?_
        refine aw_cVrV (pc := 77) (ci := 6) (T := TX6) (N := 8) (As := [.int 1]) (st := []) (ok_St_addTurn Y (hGr q5.2 400 l2) 1 q5.2 tt14) okV_St_addTurn rfl (by decide) tt14 w3_231 d_SR_readTurn_77 rfl (Nat.le_of_ble_eq_true rfl) rfl (Nat.le_of_ble_eq_true rfl) (fun q15 hq15 hTq15 => ?_)
        refine aw_aload_n (pc := 80) d_SR_readTurn_80 rfl 2 rfl ?_
        refine aw_cVrZ (pc := 81) (ci := 7) (T := TX7) (N := 13) (As := []) (st := []) (ok_To_passSemicolon Y l1 q15 t1) okV_To_passSemicolon rfl (by decide) t1 w3_215 d_SR_readTurn_81 rfl (Nat.le_of_ble_eq_true rfl) rfl (Nat.le_of_ble_eq_true rfl) (fun q16 hq16 hTq16 => ?_)
        exact aw_zreturn (pc := 84) (b := q16.1) d_SR_readTurn_84 rfl rfl
    · refine aw_iconst (pc := 39) (x := 0) d_SR_readTurn_39 (by decide) ?_
      exact aw_zreturn (pc := 40) (b := false) d_SR_readTurn_40 rfl rfl
  · refine aw_aload_n (pc := 12) d_SR_readTurn_12 rfl 1 rfl ?_
    refine aw_bipush (pc := 13) (x := 6) d_SR_readTurn_13 (by decide) ?_
    refine aw_cVrZ (pc := 15) (ci := 7) (T := TX7) (N := 13) (As := [.int 6]) (st := []) (ok_To_blame Y l1 6 h t1) okV_To_blame rfl (by decide) t1 w3_189 d_SR_readTurn_15 rfl (Nat.le_of_ble_eq_true rfl) rfl (Nat.le_of_ble_eq_true rfl) (fun q17 hq17 hTq17 => ?_)
    exact aw_zreturn (pc := 18) (b := q17.1) d_SR_readTurn_18 rfl rfl
/-! LastPages$ShelfReader.readPart(LLastPages$Tokens;LLastPages$Shelf;)Z -/
theorem d_SR_readPart_0 : decode prog_7_method_3_code 0 = .ok (.aload_n 1, 1) := by decide +kernel
theorem d_SR_readPart_1 : decode prog_7_method_3_code 1 = .ok (.getfield 37, 3) := by decide +kernel
theorem d_SR_readPart_4 : decode prog_7_method_3_code 4 = .ok (.tableswitch 186 0 20 #[100, 186, 107, 186, 114, 186, 121, 186, 186, 128, 135, 186, 186, 186, 142, 149, 186, 186, 164, 186, 179], 100) := by decide +kernel
theorem d_SR_readPart_104 : decode prog_7_method_3_code 104 = .ok (.aload_n 0, 1) := by decide +kernel
theorem d_SR_readPart_105 : decode prog_7_method_3_code 105 = .ok (.aload_n 1, 1) := by decide +kernel
theorem d_SR_readPart_106 : decode prog_7_method_3_code 106 = .ok (.aload_n 2, 1) := by decide +kernel
theorem d_SR_readPart_107 : decode prog_7_method_3_code 107 = .ok (.invokevirtual 40, 3) := by decide +kernel
theorem d_SR_readPart_110 : decode prog_7_method_3_code 110 = .ok (.ireturn, 1) := by decide +kernel
theorem d_SR_readPart_111 : decode prog_7_method_3_code 111 = .ok (.aload_n 0, 1) := by decide +kernel
theorem d_SR_readPart_112 : decode prog_7_method_3_code 112 = .ok (.aload_n 1, 1) := by decide +kernel
theorem d_SR_readPart_113 : decode prog_7_method_3_code 113 = .ok (.aload_n 2, 1) := by decide +kernel
theorem d_SR_readPart_114 : decode prog_7_method_3_code 114 = .ok (.invokevirtual 43, 3) := by decide +kernel
theorem d_SR_readPart_117 : decode prog_7_method_3_code 117 = .ok (.ireturn, 1) := by decide +kernel
theorem d_SR_readPart_118 : decode prog_7_method_3_code 118 = .ok (.aload_n 0, 1) := by decide +kernel
theorem d_SR_readPart_119 : decode prog_7_method_3_code 119 = .ok (.aload_n 1, 1) := by decide +kernel
theorem d_SR_readPart_120 : decode prog_7_method_3_code 120 = .ok (.aload_n 2, 1) := by decide +kernel
theorem d_SR_readPart_121 : decode prog_7_method_3_code 121 = .ok (.invokevirtual 46, 3) := by decide +kernel
theorem d_SR_readPart_124 : decode prog_7_method_3_code 124 = .ok (.ireturn, 1) := by decide +kernel
theorem d_SR_readPart_125 : decode prog_7_method_3_code 125 = .ok (.aload_n 0, 1) := by decide +kernel
theorem d_SR_readPart_126 : decode prog_7_method_3_code 126 = .ok (.aload_n 1, 1) := by decide +kernel
theorem d_SR_readPart_127 : decode prog_7_method_3_code 127 = .ok (.aload_n 2, 1) := by decide +kernel
theorem d_SR_readPart_128 : decode prog_7_method_3_code 128 = .ok (.invokevirtual 49, 3) := by decide +kernel
theorem d_SR_readPart_131 : decode prog_7_method_3_code 131 = .ok (.ireturn, 1) := by decide +kernel
theorem d_SR_readPart_132 : decode prog_7_method_3_code 132 = .ok (.aload_n 0, 1) := by decide +kernel
theorem d_SR_readPart_133 : decode prog_7_method_3_code 133 = .ok (.aload_n 1, 1) := by decide +kernel
theorem d_SR_readPart_134 : decode prog_7_method_3_code 134 = .ok (.aload_n 2, 1) := by decide +kernel
theorem d_SR_readPart_135 : decode prog_7_method_3_code 135 = .ok (.invokevirtual 52, 3) := by decide +kernel
theorem d_SR_readPart_138 : decode prog_7_method_3_code 138 = .ok (.ireturn, 1) := by decide +kernel
theorem d_SR_readPart_139 : decode prog_7_method_3_code 139 = .ok (.aload_n 0, 1) := by decide +kernel
theorem d_SR_readPart_140 : decode prog_7_method_3_code 140 = .ok (.aload_n 1, 1) := by decide +kernel
theorem d_SR_readPart_141 : decode prog_7_method_3_code 141 = .ok (.aload_n 2, 1) := by decide +kernel
theorem d_SR_readPart_142 : decode prog_7_method_3_code 142 = .ok (.invokevirtual 55, 3) := by decide +kernel
theorem d_SR_readPart_145 : decode prog_7_method_3_code 145 = .ok (.ireturn, 1) := by decide +kernel
theorem d_SR_readPart_146 : decode prog_7_method_3_code 146 = .ok (.aload_n 0, 1) := by decide +kernel
theorem d_SR_readPart_147 : decode prog_7_method_3_code 147 = .ok (.aload_n 1, 1) := by decide +kernel
theorem d_SR_readPart_148 : decode prog_7_method_3_code 148 = .ok (.aload_n 2, 1) := by decide +kernel
theorem d_SR_readPart_149 : decode prog_7_method_3_code 149 = .ok (.invokevirtual 58, 3) := by decide +kernel
theorem d_SR_readPart_152 : decode prog_7_method_3_code 152 = .ok (.ireturn, 1) := by decide +kernel
theorem d_SR_readPart_153 : decode prog_7_method_3_code 153 = .ok (.aload_n 0, 1) := by decide +kernel
theorem d_SR_readPart_154 : decode prog_7_method_3_code 154 = .ok (.aload_n 1, 1) := by decide +kernel
theorem d_SR_readPart_155 : decode prog_7_method_3_code 155 = .ok (.aload_n 2, 1) := by decide +kernel
theorem d_SR_readPart_156 : decode prog_7_method_3_code 156 = .ok (.aload_n 2, 1) := by decide +kernel
theorem d_SR_readPart_157 : decode prog_7_method_3_code 157 = .ok (.getfield 61, 3) := by decide +kernel
theorem d_SR_readPart_160 : decode prog_7_method_3_code 160 = .ok (.bipush 15, 2) := by decide +kernel
theorem d_SR_readPart_162 : decode prog_7_method_3_code 162 = .ok (.bipush 17, 2) := by decide +kernel
theorem d_SR_readPart_164 : decode prog_7_method_3_code 164 = .ok (.invokevirtual 65, 3) := by decide +kernel
theorem d_SR_readPart_167 : decode prog_7_method_3_code 167 = .ok (.ireturn, 1) := by decide +kernel
theorem d_SR_readPart_168 : decode prog_7_method_3_code 168 = .ok (.aload_n 0, 1) := by decide +kernel
theorem d_SR_readPart_169 : decode prog_7_method_3_code 169 = .ok (.aload_n 1, 1) := by decide +kernel
theorem d_SR_readPart_170 : decode prog_7_method_3_code 170 = .ok (.aload_n 2, 1) := by decide +kernel
theorem d_SR_readPart_171 : decode prog_7_method_3_code 171 = .ok (.aload_n 2, 1) := by decide +kernel
theorem d_SR_readPart_172 : decode prog_7_method_3_code 172 = .ok (.getfield 69, 3) := by decide +kernel
theorem d_SR_readPart_175 : decode prog_7_method_3_code 175 = .ok (.bipush 18, 2) := by decide +kernel
theorem d_SR_readPart_177 : decode prog_7_method_3_code 177 = .ok (.bipush 19, 2) := by decide +kernel
theorem d_SR_readPart_179 : decode prog_7_method_3_code 179 = .ok (.invokevirtual 65, 3) := by decide +kernel
theorem d_SR_readPart_182 : decode prog_7_method_3_code 182 = .ok (.ireturn, 1) := by decide +kernel
theorem d_SR_readPart_183 : decode prog_7_method_3_code 183 = .ok (.aload_n 0, 1) := by decide +kernel
theorem d_SR_readPart_184 : decode prog_7_method_3_code 184 = .ok (.aload_n 1, 1) := by decide +kernel
theorem d_SR_readPart_185 : decode prog_7_method_3_code 185 = .ok (.aload_n 2, 1) := by decide +kernel
theorem d_SR_readPart_186 : decode prog_7_method_3_code 186 = .ok (.invokevirtual 72, 3) := by decide +kernel
theorem d_SR_readPart_189 : decode prog_7_method_3_code 189 = .ok (.ireturn, 1) := by decide +kernel
theorem d_SR_readPart_190 : decode prog_7_method_3_code 190 = .ok (.aload_n 1, 1) := by decide +kernel
theorem d_SR_readPart_191 : decode prog_7_method_3_code 191 = .ok (.iconst 2, 1) := by decide +kernel
theorem d_SR_readPart_192 : decode prog_7_method_3_code 192 = .ok (.invokevirtual 75, 3) := by decide +kernel
theorem d_SR_readPart_195 : decode prog_7_method_3_code 195 = .ok (.ireturn, 1) := by decide +kernel
def SR_readPart (Y : Ly) (l0 : Nat) (l1 : Nat) (l2 : Nat) (h : Hp) : Option (Bool × Hp) :=
  if (hGi h 708 l1) = 0 then
    (SR_readState Y l0 l1 l2 h).bind fun q2 =>
    some (q2.1, q2.2)
  else
  if (hGi h 708 l1) = 2 then
    (SR_readTurn Y l0 l1 l2 h).bind fun q4 =>
    some (q4.1, q4.2)
  else
  if (hGi h 708 l1) = 4 then
    (SR_readRule Y l0 l1 l2 h).bind fun q6 =>
    some (q6.1, q6.2)
  else
  if (hGi h 708 l1) = 6 then
    (SR_readBook Y l0 l1 l2 h).bind fun q8 =>
    some (q8.1, q8.2)
  else
  if (hGi h 708 l1) = 9 then
    (SR_readFinale Y l0 l1 l2 h).bind fun q10 =>
    some (q10.1, q10.2)
  else
  if (hGi h 708 l1) = 10 then
    (SR_readHint Y l0 l1 l2 h).bind fun q12 =>
    some (q12.1, q12.2)
  else
  if (hGi h 708 l1) = 14 then
    (SR_readReader Y l0 l1 l2 h).bind fun q14 =>
    some (q14.1, q14.2)
  else
  if (hGi h 708 l1) = 15 then
    (SR_readLot Y l0 l1 l2 (hGr h 401 l2) 15 17 h).bind fun q17 =>
    some (q17.1, q17.2)
  else
  if (hGi h 708 l1) = 18 then
    (SR_readLot Y l0 l1 l2 (hGr h 402 l2) 18 19 h).bind fun q20 =>
    some (q20.1, q20.2)
  else
  if (hGi h 708 l1) = 20 then
    (SR_readFollows Y l0 l1 l2 h).bind fun q22 =>
    some (q22.1, q22.2)
  else
  (To_blame Y l1 2 h).bind fun q23 =>
  some (q23.1, q23.2)
theorem ok_SR_readPart (Y : Ly) (l0 : Nat) (l1 : Nat) (l2 : Nat) (h : Hp) (t0 : isO Y 5 l0) (t1 : isO Y 7 l1) (t2 : isO Y 4 l2) : AM Y 4 K_SR_readPart [.ref l0, .ref l1, .ref l2] h (SR_readPart Y l0 l1 l2 h) rZ := by
  refine AM.of rfl (Nat.le_of_ble_eq_true rfl) ?_
  show AW Y 4 K_SR_readPart 0 [(0, .ref l0), (1, .ref l1), (2, .ref l2)] [] h (SR_readPart Y l0 l1 l2 h) rZ
  unfold SR_readPart
  refine aw_aload_n (pc := 0) d_SR_readPart_0 rfl 1 rfl ?_
  refine gt_708 (pc := 1) d_SR_readPart_1 w1_100 t1 ?_
  refine aw_cases (fun c1 => ?_) (fun c1 => ?_)
  · refine aw_tbl (pc := 4) (tgt := 104) (off := 100) d_SR_readPart_4 (by rw [c1]; decide) (by rw [c1]; decide) (by rw [c1]; rfl) (by decide) ?_
    refine aw_aload_n (pc := 104) d_SR_readPart_104 rfl 0 rfl ?_
    refine aw_aload_n (pc := 105) d_SR_readPart_105 rfl 1 rfl ?_
    refine aw_aload_n (pc := 106) d_SR_readPart_106 rfl 2 rfl ?_
    refine aw_cVrZ (pc := 107) (ci := 5) (T := TX5) (N := 2) (As := [.ref l1, .ref l2]) (st := []) (ok_SR_readState Y l0 l1 l2 h t0 t1 t2) okV_SR_readState rfl (by decide) t0 w3_185 d_SR_readPart_107 rfl (Nat.le_of_ble_eq_true rfl) rfl (Nat.le_of_ble_eq_true rfl) (fun q2 hq2 hTq2 => ?_)
    exact aw_zreturn (pc := 110) (b := q2.1) d_SR_readPart_110 rfl rfl
  refine aw_cases (fun c3 => ?_) (fun c3 => ?_)
  · refine aw_tbl (pc := 4) (tgt := 111) (off := 107) d_SR_readPart_4 (by rw [c3]; decide) (by rw [c3]; decide) (by rw [c3]; rfl) (by decide) ?_
    refine aw_aload_n (pc := 111) d_SR_readPart_111 rfl 0 rfl ?_
    refine aw_aload_n (pc := 112) d_SR_readPart_112 rfl 1 rfl ?_
    refine aw_aload_n (pc := 113) d_SR_readPart_113 rfl 2 rfl ?_
    refine aw_cVrZ (pc := 114) (ci := 5) (T := TX5) (N := 2) (As := [.ref l1, .ref l2]) (st := []) (ok_SR_readTurn Y l0 l1 l2 h t0 t1 t2) okV_SR_readTurn rfl (by decide) t0 w3_223 d_SR_readPart_114 rfl (Nat.le_of_ble_eq_true rfl) rfl (Nat.le_of_ble_eq_true rfl) (fun q4 hq4 hTq4 => ?_)
    exact aw_zreturn (pc := 117) (b := q4.1) d_SR_readPart_117 rfl rfl
  refine aw_cases (fun c5 => ?_) (fun c5 => ?_)
  · refine aw_tbl (pc := 4) (tgt := 118) (off := 114) d_SR_readPart_4 (by rw [c5]; decide) (by rw [c5]; decide) (by rw [c5]; rfl) (by decide) ?_
    refine aw_aload_n (pc := 118) d_SR_readPart_118 rfl 0 rfl ?_
    refine aw_aload_n (pc := 119) d_SR_readPart_119 rfl 1 rfl ?_
    refine aw_aload_n (pc := 120) d_SR_readPart_120 rfl 2 rfl ?_
    refine aw_cVrZ (pc := 121) (ci := 5) (T := TX5) (N := 2) (As := [.ref l1, .ref l2]) (st := []) (ok_SR_readRule Y l0 l1 l2 h t0 t1 t2) okV_SR_readRule rfl (by decide) t0 w3_235 d_SR_readPart_121 rfl (Nat.le_of_ble_eq_true rfl) rfl (Nat.le_of_ble_eq_true rfl) (fun q6 hq6 hTq6 => ?_)
    exact aw_zreturn (pc := 124) (b := q6.1) d_SR_readPart_124 rfl rfl
  refine aw_cases (fun c7 => ?_) (fun c7 => ?_)
  · refine aw_tbl (pc := 4) (tgt := 125) (off := 121) d_SR_readPart_4 (by rw [c7]; decide) (by rw [c7]; decide) (by rw [c7]; rfl) (by decide) ?_
    refine aw_aload_n (pc := 125) d_SR_readPart_125 rfl 0 rfl ?_
    refine aw_aload_n (pc := 126) d_SR_readPart_126 rfl 1 rfl ?_
    refine aw_aload_n (pc := 127) d_SR_readPart_127 rfl 2 rfl ?_
    refine aw_cVrZ (pc := 128) (ci := 5) (T := TX5) (N := 2) (As := [.ref l1, .ref l2]) (st := []) (ok_SR_readBook Y l0 l1 l2 h t0 t1 t2) okV_SR_readBook rfl (by decide) t0 w4_27 d_SR_readPart_128 rfl (Nat.le_of_ble_eq_true rfl) rfl (Nat.le_of_ble_eq_true rfl) (fun q8 hq8 hTq8 => ?_)
    exact aw_zreturn (pc := 131) (b := q8.1) d_SR_readPart_131 rfl rfl
  refine aw_cases (fun c9 => ?_) (fun c9 => ?_)
  · refine aw_tbl (pc := 4) (tgt := 132) (off := 128) d_SR_readPart_4 (by rw [c9]; decide) (by rw [c9]; decide) (by rw [c9]; rfl) (by decide) ?_
    refine aw_aload_n (pc := 132) d_SR_readPart_132 rfl 0 rfl ?_
    refine aw_aload_n (pc := 133) d_SR_readPart_133 rfl 1 rfl ?_
    refine aw_aload_n (pc := 134) d_SR_readPart_134 rfl 2 rfl ?_
    refine aw_cVrZ (pc := 135) (ci := 5) (T := TX5) (N := 2) (As := [.ref l1, .ref l2]) (st := []) (ok_SR_readFinale Y l0 l1 l2 h t0 t1 t2) okV_SR_readFinale rfl (by decide) t0 w4_42 d_SR_readPart_135 rfl (Nat.le_of_ble_eq_true rfl) rfl (Nat.le_of_ble_eq_true rfl) (fun q10 hq10 hTq10 => ?_)
    exact aw_zreturn (pc := 138) (b := q10.1) d_SR_readPart_138 rfl rfl
  refine aw_cases (fun c11 => ?_) (fun c11 => ?_)
  · refine aw_tbl (pc := 4) (tgt := 139) (off := 135) d_SR_readPart_4 (by rw [c11]; decide) (by rw [c11]; decide) (by rw [c11]; rfl) (by decide) ?_
    refine aw_aload_n (pc := 139) d_SR_readPart_139 rfl 0 rfl ?_
    refine aw_aload_n (pc := 140) d_SR_readPart_140 rfl 1 rfl ?_
    refine aw_aload_n (pc := 141) d_SR_readPart_141 rfl 2 rfl ?_
    refine aw_cVrZ (pc := 142) (ci := 5) (T := TX5) (N := 2) (As := [.ref l1, .ref l2]) (st := []) (ok_SR_readHint Y l0 l1 l2 h t0 t1 t2) okV_SR_readHint rfl (by decide) t0 w4_51 d_SR_readPart_142 rfl (Nat.le_of_ble_eq_true rfl) rfl (Nat.le_of_ble_eq_true rfl) (fun q12 hq12 hTq12 => ?_)
    exact aw_zreturn (pc := 145) (b := q12.1) d_SR_readPart_145 rfl rfl
  refine aw_cases (fun c13 => ?_) (fun c13 => ?_)
  · refine aw_tbl (pc := 4) (tgt := 146) (off := 142) d_SR_readPart_4 (by rw [c13]; decide) (by rw [c13]; decide) (by rw [c13]; rfl) (by decide) ?_
    refine aw_aload_n (pc := 146) d_SR_readPart_146 rfl 0 rfl ?_
    refine aw_aload_n (pc := 147) d_SR_readPart_147 rfl 1 rfl ?_
    refine aw_aload_n (pc := 148) d_SR_readPart_148 rfl 2 rfl ?_
    refine aw_cVrZ (pc := 149) (ci := 5) (T := TX5) (N := 2) (As := [.ref l1, .ref l2]) (st := []) (ok_SR_readReader Y l0 l1 l2 h t0 t1 t2) okV_SR_readReader rfl (by decide) t0 w4_63 d_SR_readPart_149 rfl (Nat.le_of_ble_eq_true rfl) rfl (Nat.le_of_ble_eq_true rfl) (fun q14 hq14 hTq14 => ?_)
    exact aw_zreturn (pc := 152) (b := q14.1) d_SR_readPart_152 rfl rfl
  refine aw_cases (fun c15 => ?_) (fun c15 => ?_)
  · refine aw_tbl (pc := 4) (tgt := 153) (off := 149) d_SR_readPart_4 (by rw [c15]; decide) (by rw [c15]; decide) (by rw [c15]; rfl) (by decide) ?_
    refine aw_aload_n (pc := 153) d_SR_readPart_153 rfl 0 rfl ?_
    refine aw_aload_n (pc := 154) d_SR_readPart_154 rfl 1 rfl ?_
    refine aw_aload_n (pc := 155) d_SR_readPart_155 rfl 2 rfl ?_
    refine aw_aload_n (pc := 156) d_SR_readPart_156 rfl 2 rfl ?_
    refine gt_401 (pc := 157) d_SR_readPart_157 w2_131 t2 (fun tt16 => ?_)
    refine aw_bipush (pc := 160) (x := 15) d_SR_readPart_160 (by decide) ?_
    refine aw_bipush (pc := 162) (x := 17) d_SR_readPart_162 (by decide) ?_
    refine aw_cVrZ (pc := 164) (ci := 5) (T := TX5) (N := 2) (As := [.ref l1, .ref l2, .ref (hGr h 401 l2), .int 15, .int 17]) (st := []) (ok_SR_readLot Y l0 l1 l2 (hGr h 401 l2) 15 17 h t0 t1 t2 tt16) okV_SR_readLot rfl (by decide) t0 w4_67 d_SR_readPart_164 rfl (Nat.le_of_ble_eq_true rfl) rfl (Nat.le_of_ble_eq_true rfl) (fun q17 hq17 hTq17 => ?_)
    exact aw_zreturn (pc := 167) (b := q17.1) d_SR_readPart_167 rfl rfl
  refine aw_cases (fun c18 => ?_) (fun c18 => ?_)
  · refine aw_tbl (pc := 4) (tgt := 168) (off := 164) d_SR_readPart_4 (by rw [c18]; decide) (by rw [c18]; decide) (by rw [c18]; rfl) (by decide) ?_
    refine aw_aload_n (pc := 168) d_SR_readPart_168 rfl 0 rfl ?_
    refine aw_aload_n (pc := 169) d_SR_readPart_169 rfl 1 rfl ?_
    refine aw_aload_n (pc := 170) d_SR_readPart_170 rfl 2 rfl ?_
    refine aw_aload_n (pc := 171) d_SR_readPart_171 rfl 2 rfl ?_
    refine gt_402 (pc := 172) d_SR_readPart_172 w2_134 t2 (fun tt19 => ?_)
    refine aw_bipush (pc := 175) (x := 18) d_SR_readPart_175 (by decide) ?_
    refine aw_bipush (pc := 177) (x := 19) d_SR_readPart_177 (by decide) ?_
    refine aw_cVrZ (pc := 179) (ci := 5) (T := TX5) (N := 2) (As := [.ref l1, .ref l2, .ref (hGr h 402 l2), .int 18, .int 19]) (st := []) (ok_SR_readLot Y l0 l1 l2 (hGr h 402 l2) 18 19 h t0 t1 t2 tt19) okV_SR_readLot rfl (by decide) t0 w4_67 d_SR_readPart_179 rfl (Nat.le_of_ble_eq_true rfl) rfl (Nat.le_of_ble_eq_true rfl) (fun q20 hq20 hTq20 => ?_)
    exact aw_zreturn (pc := 182) (b := q20.1) d_SR_readPart_182 rfl rfl
  refine aw_cases (fun c21 => ?_) (fun c21 => ?_)
  · refine aw_tbl (pc := 4) (tgt := 183) (off := 179) d_SR_readPart_4 (by rw [c21]; decide) (by rw [c21]; decide) (by rw [c21]; rfl) (by decide) ?_
    refine aw_aload_n (pc := 183) d_SR_readPart_183 rfl 0 rfl ?_
    refine aw_aload_n (pc := 184) d_SR_readPart_184 rfl 1 rfl ?_
    refine aw_aload_n (pc := 185) d_SR_readPart_185 rfl 2 rfl ?_
    refine aw_cVrZ (pc := 186) (ci := 5) (T := TX5) (N := 2) (As := [.ref l1, .ref l2]) (st := []) (ok_SR_readFollows Y l0 l1 l2 h t0 t1 t2) okV_SR_readFollows rfl (by decide) t0 w4_80 d_SR_readPart_186 rfl (Nat.le_of_ble_eq_true rfl) rfl (Nat.le_of_ble_eq_true rfl) (fun q22 hq22 hTq22 => ?_)
    exact aw_zreturn (pc := 189) (b := q22.1) d_SR_readPart_189 rfl rfl
  refine aw_tblX (pc := 4) (tgt := 190) d_SR_readPart_4 (by intro k hk; match k, hk with | 0, _ => exact Or.inr (fun q => c1 (q.trans (by decide))) | 1, _ => exact Or.inl rfl | 2, _ => exact Or.inr (fun q => c3 (q.trans (by decide))) | 3, _ => exact Or.inl rfl | 4, _ => exact Or.inr (fun q => c5 (q.trans (by decide))) | 5, _ => exact Or.inl rfl | 6, _ => exact Or.inr (fun q => c7 (q.trans (by decide))) | 7, _ => exact Or.inl rfl | 8, _ => exact Or.inl rfl | 9, _ => exact Or.inr (fun q => c9 (q.trans (by decide))) | 10, _ => exact Or.inr (fun q => c11 (q.trans (by decide))) | 11, _ => exact Or.inl rfl | 12, _ => exact Or.inl rfl | 13, _ => exact Or.inl rfl | 14, _ => exact Or.inr (fun q => c13 (q.trans (by decide))) | 15, _ => exact Or.inr (fun q => c15 (q.trans (by decide))) | 16, _ => exact Or.inl rfl | 17, _ => exact Or.inl rfl | 18, _ => exact Or.inr (fun q => c18 (q.trans (by decide))) | 19, _ => exact Or.inl rfl | 20, _ => exact Or.inr (fun q => c21 (q.trans (by decide))) | k + 21, hk => exact absurd hk (by show ¬ (k + 21 < 21); omega)) rfl (by decide) ?_
  refine aw_aload_n (pc := 190) d_SR_readPart_190 rfl 1 rfl ?_
  refine aw_iconst (pc := 191) (x := 2) d_SR_readPart_191 (by decide) ?_
  refine aw_cVrZ (pc := 192) (ci := 7) (T := TX7) (N := 13) (As := [.int 2]) (st := []) (ok_To_blame Y l1 2 h t1) okV_To_blame rfl (by decide) t1 w3_189 d_SR_readPart_192 rfl (Nat.le_of_ble_eq_true rfl) rfl (Nat.le_of_ble_eq_true rfl) (fun q23 hq23 hTq23 => ?_)
  exact aw_zreturn (pc := 195) (b := q23.1) d_SR_readPart_195 rfl rfl
