/-! LastPagesModel.finish()I -/
theorem d_M_finish_0 : decode prog_14_method_152_code 0 = .ok (.aload_n 0, 1) := by decide +kernel
theorem d_M_finish_1 : decode prog_14_method_152_code 1 = .ok (.iconst 0, 1) := by decide +kernel
theorem d_M_finish_2 : decode prog_14_method_152_code 2 = .ok (.putfield 78, 3) := by decide +kernel
theorem d_M_finish_5 : decode prog_14_method_152_code 5 = .ok (.aload_n 0, 1) := by decide +kernel
theorem d_M_finish_6 : decode prog_14_method_152_code 6 = .ok (.iconst 0, 1) := by decide +kernel
theorem d_M_finish_7 : decode prog_14_method_152_code 7 = .ok (.putfield 81, 3) := by decide +kernel
theorem d_M_finish_10 : decode prog_14_method_152_code 10 = .ok (.aload_n 0, 1) := by decide +kernel
theorem d_M_finish_11 : decode prog_14_method_152_code 11 = .ok (.invokevirtual 486, 3) := by decide +kernel
theorem d_M_finish_14 : decode prog_14_method_152_code 14 = .ok (.istore_n 1, 1) := by decide +kernel
theorem d_M_finish_15 : decode prog_14_method_152_code 15 = .ok (.iload_n 1, 1) := by decide +kernel
theorem d_M_finish_16 : decode prog_14_method_152_code 16 = .ok (.ifCond .ge 12, 3) := by decide +kernel
theorem d_M_finish_19 : decode prog_14_method_152_code 19 = .ok (.aload_n 0, 1) := by decide +kernel
theorem d_M_finish_20 : decode prog_14_method_152_code 20 = .ok (.bipush 8, 2) := by decide +kernel
theorem d_M_finish_22 : decode prog_14_method_152_code 22 = .ok (.invokevirtual 367, 3) := by decide +kernel
theorem d_M_finish_25 : decode prog_14_method_152_code 25 = .ok (.goto 7, 3) := by decide +kernel
theorem d_M_finish_28 : decode prog_14_method_152_code 28 = .ok (.iload_n 1, 1) := by decide +kernel
theorem d_M_finish_29 : decode prog_14_method_152_code 29 = .ok (.invokestatic 480, 3) := by decide +kernel
theorem d_M_finish_32 : decode prog_14_method_152_code 32 = .ok (.ireturn, 1) := by decide +kernel
def M_finish (Y : Ly) (l0 : Nat) (h : Hp) : Option (Int32 × Hp) :=
  letH (hSi h 1201 l0 0) fun h1 =>
  letH (hSi h1 1200 l0 0) fun h2 =>
  (M_finishing Y l0 h2).bind fun q3 =>
  if 0 ≤ q3.1 then
    (M_sizeOf Y q3.1 q3.2).bind fun q5 =>
    some (q5, q3.2)
  else
    (M_refuse Y l0 8 q3.2).bind fun q6 =>
    some (q6.1, q6.2)
theorem ok_M_finish (Y : Ly) (l0 : Nat) (h : Hp) (t0 : isO Y 12 l0) : AM Y 7 K_M_finish [.ref l0] h (M_finish Y l0 h) rI := by
  refine AM.of rfl (Nat.le_of_ble_eq_true rfl) ?_
  show AW Y 7 K_M_finish 0 [(0, .ref l0)] [] h (M_finish Y l0 h) rI
  unfold M_finish
  refine aw_aload_n (pc := 0) d_M_finish_0 rfl 0 rfl ?_
  refine aw_iconst (pc := 1) (x := 0) d_M_finish_1 (by decide) ?_
  refine pt_1201 (pc := 2) d_M_finish_2 w7_28 t0 ?_
  refine aw_letH (fun h1 => ?_)
  refine aw_aload_n (pc := 5) d_M_finish_5 rfl 0 rfl ?_
  refine aw_iconst (pc := 6) (x := 0) d_M_finish_6 (by decide) ?_
  refine pt_1200 (pc := 7) d_M_finish_7 w7_27 t0 ?_
  refine aw_letH (fun h2 => ?_)
  refine aw_aload_n (pc := 10) d_M_finish_10 rfl 0 rfl ?_
  refine aw_cVrI (pc := 11) (ci := 12) (T := TX12) (N := 44) (As := []) (st := []) (ok_M_finishing Y l0 h2 t0) okV_M_finishing rfl (by decide) t0 w10_43 d_M_finish_11 rfl (Nat.le_of_ble_eq_true rfl) rfl (Nat.le_of_ble_eq_true rfl) (fun q3 hq3 hTq3 => ?_)
  refine aw_istore_n (pc := 14) (lv' := [(1, .int q3.1), (0, .ref l0)]) d_M_finish_14 rfl (by decide) rfl ?_
  refine aw_iload_n (pc := 15) d_M_finish_15 rfl 0 rfl ?_
  refine aw_if_ge (pc := 16) (tgt := 28) d_M_finish_16 (by decide) (fun c4 => ?_) (fun c4 => ?_)
  · refine aw_iload_n (pc := 28) d_M_finish_28 rfl 0 rfl ?_
    refine aw_cSpI (pc := 29) (As := [.int q3.1]) (st := []) (ok_M_sizeOf Y q3.1 q3.2) okS_M_sizeOf w10_32 d_M_finish_29 rfl (Nat.le_of_ble_eq_true rfl) rfl (Nat.le_of_ble_eq_true rfl) (fun q5 hq5 hTq5 => ?_)
    exact aw_ireturn (pc := 32) d_M_finish_32 rfl rfl
  · refine aw_aload_n (pc := 19) d_M_finish_19 rfl 1 rfl ?_
    refine aw_bipush (pc := 20) (x := 8) d_M_finish_20 (by decide) ?_
    refine aw_cVrI (pc := 22) (ci := 12) (T := TX12) (N := 44) (As := [.int 8]) (st := []) (ok_M_refuse Y l0 8 q3.2 t0) okV_M_refuse rfl (by decide) t0 w9_8 d_M_finish_22 rfl (Nat.le_of_ble_eq_true rfl) rfl (Nat.le_of_ble_eq_true rfl) (fun q6 hq6 hTq6 => ?_)
    refine aw_goto (pc := 25) (tgt := 32) d_M_finish_25 (by decide) ?_
    exact aw_ireturn (pc := 32) d_M_finish_32 rfl rfl
/-! LastPagesModel.finishSet()I -/
theorem d_M_finishSet_0 : decode prog_14_method_153_code 0 = .ok (.aload_n 0, 1) := by decide +kernel
theorem d_M_finishSet_1 : decode prog_14_method_153_code 1 = .ok (.iconst 0, 1) := by decide +kernel
theorem d_M_finishSet_2 : decode prog_14_method_153_code 2 = .ok (.putfield 78, 3) := by decide +kernel
theorem d_M_finishSet_5 : decode prog_14_method_153_code 5 = .ok (.aload_n 0, 1) := by decide +kernel
theorem d_M_finishSet_6 : decode prog_14_method_153_code 6 = .ok (.iconst 0, 1) := by decide +kernel
theorem d_M_finishSet_7 : decode prog_14_method_153_code 7 = .ok (.putfield 81, 3) := by decide +kernel
theorem d_M_finishSet_10 : decode prog_14_method_153_code 10 = .ok (.aload_n 0, 1) := by decide +kernel
theorem d_M_finishSet_11 : decode prog_14_method_153_code 11 = .ok (.invokevirtual 486, 3) := by decide +kernel
theorem d_M_finishSet_14 : decode prog_14_method_153_code 14 = .ok (.istore_n 1, 1) := by decide +kernel
theorem d_M_finishSet_15 : decode prog_14_method_153_code 15 = .ok (.iload_n 1, 1) := by decide +kernel
theorem d_M_finishSet_16 : decode prog_14_method_153_code 16 = .ok (.ifCond .ge 12, 3) := by decide +kernel
theorem d_M_finishSet_19 : decode prog_14_method_153_code 19 = .ok (.aload_n 0, 1) := by decide +kernel
theorem d_M_finishSet_20 : decode prog_14_method_153_code 20 = .ok (.bipush 8, 2) := by decide +kernel
theorem d_M_finishSet_22 : decode prog_14_method_153_code 22 = .ok (.invokevirtual 367, 3) := by decide +kernel
theorem d_M_finishSet_25 : decode prog_14_method_153_code 25 = .ok (.goto 4, 3) := by decide +kernel
theorem d_M_finishSet_28 : decode prog_14_method_153_code 28 = .ok (.iload_n 1, 1) := by decide +kernel
theorem d_M_finishSet_29 : decode prog_14_method_153_code 29 = .ok (.ireturn, 1) := by decide +kernel
def M_finishSet (Y : Ly) (l0 : Nat) (h : Hp) : Option (Int32 × Hp) :=
  letH (hSi h 1201 l0 0) fun h1 =>
  letH (hSi h1 1200 l0 0) fun h2 =>
  (M_finishing Y l0 h2).bind fun q3 =>
  if 0 ≤ q3.1 then
    some (q3.1, q3.2)
  else
    (M_refuse Y l0 8 q3.2).bind fun q5 =>
    some (q5.1, q5.2)
theorem ok_M_finishSet (Y : Ly) (l0 : Nat) (h : Hp) (t0 : isO Y 12 l0) : AM Y 7 K_M_finishSet [.ref l0] h (M_finishSet Y l0 h) rI := by
  refine AM.of rfl (Nat.le_of_ble_eq_true rfl) ?_
  show AW Y 7 K_M_finishSet 0 [(0, .ref l0)] [] h (M_finishSet Y l0 h) rI
  unfold M_finishSet
  refine aw_aload_n (pc := 0) d_M_finishSet_0 rfl 0 rfl ?_
  refine aw_iconst (pc := 1) (x := 0) d_M_finishSet_1 (by decide) ?_
  refine pt_1201 (pc := 2) d_M_finishSet_2 w7_28 t0 ?_
  refine aw_letH (fun h1 => ?_)
  refine aw_aload_n (pc := 5) d_M_finishSet_5 rfl 0 rfl ?_
  refine aw_iconst (pc := 6) (x := 0) d_M_finishSet_6 (by decide) ?_
  refine pt_1200 (pc := 7) d_M_finishSet_7 w7_27 t0 ?_
  refine aw_letH (fun h2 => ?_)
  refine aw_aload_n (pc := 10) d_M_finishSet_10 rfl 0 rfl ?_
  refine aw_cVrI (pc := 11) (ci := 12) (T := TX12) (N := 44) (As := []) (st := []) (ok_M_finishing Y l0 h2 t0) okV_M_finishing rfl (by decide) t0 w10_43 d_M_finishSet_11 rfl (Nat.le_of_ble_eq_true rfl) rfl (Nat.le_of_ble_eq_true rfl) (fun q3 hq3 hTq3 => ?_)
  refine aw_istore_n (pc := 14) (lv' := [(1, .int q3.1), (0, .ref l0)]) d_M_finishSet_14 rfl (by decide) rfl ?_
  refine aw_iload_n (pc := 15) d_M_finishSet_15 rfl 0 rfl ?_
  refine aw_if_ge (pc := 16) (tgt := 28) d_M_finishSet_16 (by decide) (fun c4 => ?_) (fun c4 => ?_)
  · refine aw_iload_n (pc := 28) d_M_finishSet_28 rfl 0 rfl ?_
    exact aw_ireturn (pc := 29) d_M_finishSet_29 rfl rfl
  · refine aw_aload_n (pc := 19) d_M_finishSet_19 rfl 1 rfl ?_
    refine aw_bipush (pc := 20) (x := 8) d_M_finishSet_20 (by decide) ?_
    refine aw_cVrI (pc := 22) (ci := 12) (T := TX12) (N := 44) (As := [.int 8]) (st := []) (ok_M_refuse Y l0 8 q3.2 t0) okV_M_refuse rfl (by decide) t0 w9_8 d_M_finishSet_22 rfl (Nat.le_of_ble_eq_true rfl) rfl (Nat.le_of_ble_eq_true rfl) (fun q5 hq5 hTq5 => ?_)
    refine aw_goto (pc := 25) (tgt := 29) d_M_finishSet_25 (by decide) ?_
    exact aw_ireturn (pc := 29) d_M_finishSet_29 rfl rfl
/-! LastPagesModel.fits(II)I -/
theorem d_M_fits_0 : decode prog_14_method_135_code 0 = .ok (.aload_n 0, 1) := by decide +kernel
theorem d_M_fits_1 : decode prog_14_method_135_code 1 = .ok (.iconst 0, 1) := by decide +kernel
theorem d_M_fits_2 : decode prog_14_method_135_code 2 = .ok (.putfield 78, 3) := by decide +kernel
theorem d_M_fits_5 : decode prog_14_method_135_code 5 = .ok (.aload_n 0, 1) := by decide +kernel
theorem d_M_fits_6 : decode prog_14_method_135_code 6 = .ok (.iconst 0, 1) := by decide +kernel
theorem d_M_fits_7 : decode prog_14_method_135_code 7 = .ok (.putfield 81, 3) := by decide +kernel
theorem d_M_fits_10 : decode prog_14_method_135_code 10 = .ok (.aload_n 0, 1) := by decide +kernel
theorem d_M_fits_11 : decode prog_14_method_135_code 11 = .ok (.iload_n 1, 1) := by decide +kernel
theorem d_M_fits_12 : decode prog_14_method_135_code 12 = .ok (.invokevirtual 382, 3) := by decide +kernel
theorem d_M_fits_15 : decode prog_14_method_135_code 15 = .ok (.ifCond .eq 11, 3) := by decide +kernel
theorem d_M_fits_18 : decode prog_14_method_135_code 18 = .ok (.aload_n 0, 1) := by decide +kernel
theorem d_M_fits_19 : decode prog_14_method_135_code 19 = .ok (.iload_n 2, 1) := by decide +kernel
theorem d_M_fits_20 : decode prog_14_method_135_code 20 = .ok (.invokevirtual 393, 3) := by decide +kernel
theorem d_M_fits_23 : decode prog_14_method_135_code 23 = .ok (.ifCond .ne 9, 3) := by decide +kernel
theorem d_M_fits_26 : decode prog_14_method_135_code 26 = .ok (.aload_n 0, 1) := by decide +kernel
theorem d_M_fits_27 : decode prog_14_method_135_code 27 = .ok (.iconst 2, 1) := by decide +kernel
theorem d_M_fits_28 : decode prog_14_method_135_code 28 = .ok (.invokevirtual 367, 3) := by decide +kernel
theorem d_M_fits_31 : decode prog_14_method_135_code 31 = .ok (.ireturn, 1) := by decide +kernel
theorem d_M_fits_32 : decode prog_14_method_135_code 32 = .ok (.aload_n 0, 1) := by decide +kernel
theorem d_M_fits_33 : decode prog_14_method_135_code 33 = .ok (.iload_n 1, 1) := by decide +kernel
theorem d_M_fits_34 : decode prog_14_method_135_code 34 = .ok (.iload_n 2, 1) := by decide +kernel
theorem d_M_fits_35 : decode prog_14_method_135_code 35 = .ok (.invokevirtual 414, 3) := by decide +kernel
theorem d_M_fits_38 : decode prog_14_method_135_code 38 = .ok (.ifCond .eq 7, 3) := by decide +kernel
theorem d_M_fits_41 : decode prog_14_method_135_code 41 = .ok (.iconst 1, 1) := by decide +kernel
theorem d_M_fits_42 : decode prog_14_method_135_code 42 = .ok (.goto 4, 3) := by decide +kernel
theorem d_M_fits_45 : decode prog_14_method_135_code 45 = .ok (.iconst 0, 1) := by decide +kernel
theorem d_M_fits_46 : decode prog_14_method_135_code 46 = .ok (.ireturn, 1) := by decide +kernel
def M_fits (Y : Ly) (l0 : Nat) (l1 : Int32) (l2 : Int32) (h : Hp) : Option (Int32 × Hp) :=
  letH (hSi h 1201 l0 0) fun h1 =>
  letH (hSi h1 1200 l0 0) fun h2 =>
  (M_isBookAt Y l0 l1 h2).bind fun q3 =>
  if q3 = true then
    (M_isFinaleAt Y l0 l2 h2).bind fun q5 =>
    if q5 = true then
      (M_isFit Y l0 l1 l2 h2).bind fun q7 =>
      if q7 = true then
        some (1, h2)
      else
        some (0, h2)
    else
      (M_refuse Y l0 2 h2).bind fun q9 =>
      some (q9.1, q9.2)
  else
    (M_refuse Y l0 2 h2).bind fun q10 =>
    some (q10.1, q10.2)
theorem ok_M_fits (Y : Ly) (l0 : Nat) (l1 : Int32) (l2 : Int32) (h : Hp) (t0 : isO Y 12 l0) : AM Y 4 K_M_fits [.ref l0, .int l1, .int l2] h (M_fits Y l0 l1 l2 h) rI := by
  refine AM.of rfl (Nat.le_of_ble_eq_true rfl) ?_
  show AW Y 4 K_M_fits 0 [(0, .ref l0), (1, .int l1), (2, .int l2)] [] h (M_fits Y l0 l1 l2 h) rI
  unfold M_fits
  refine aw_aload_n (pc := 0) d_M_fits_0 rfl 0 rfl ?_
  refine aw_iconst (pc := 1) (x := 0) d_M_fits_1 (by decide) ?_
  refine pt_1201 (pc := 2) d_M_fits_2 w7_28 t0 ?_
  refine aw_letH (fun h1 => ?_)
  refine aw_aload_n (pc := 5) d_M_fits_5 rfl 0 rfl ?_
  refine aw_iconst (pc := 6) (x := 0) d_M_fits_6 (by decide) ?_
  refine pt_1200 (pc := 7) d_M_fits_7 w7_27 t0 ?_
  refine aw_letH (fun h2 => ?_)
  refine aw_aload_n (pc := 10) d_M_fits_10 rfl 0 rfl ?_
  refine aw_iload_n (pc := 11) d_M_fits_11 rfl 1 rfl ?_
  refine aw_cVpZ (pc := 12) (ci := 12) (T := TX12) (N := 44) (As := [.int l1]) (st := []) (ok_M_isBookAt Y l0 l1 h2 t0) okV_M_isBookAt rfl (by decide) t0 w9_40 d_M_fits_12 rfl (Nat.le_of_ble_eq_true rfl) rfl (Nat.le_of_ble_eq_true rfl) (fun q3 hq3 hTq3 => ?_)
  refine aw_beq (pc := 15) (tgt := 26) d_M_fits_15 (by decide) (fun c4 => ?_) (fun c4 => ?_)
  · refine aw_aload_n (pc := 18) d_M_fits_18 rfl 0 rfl ?_
    refine aw_iload_n (pc := 19) d_M_fits_19 rfl 2 rfl ?_
    refine aw_cVpZ (pc := 20) (ci := 12) (T := TX12) (N := 44) (As := [.int l2]) (st := []) (ok_M_isFinaleAt Y l0 l2 h2 t0) okV_M_isFinaleAt rfl (by decide) t0 w9_61 d_M_fits_20 rfl (Nat.le_of_ble_eq_true rfl) rfl (Nat.le_of_ble_eq_true rfl) (fun q5 hq5 hTq5 => ?_)
    refine aw_bne (pc := 23) (tgt := 32) d_M_fits_23 (by decide) (fun c6 => ?_) (fun c6 => ?_)
    · refine aw_aload_n (pc := 32) d_M_fits_32 rfl 0 rfl ?_
      refine aw_iload_n (pc := 33) d_M_fits_33 rfl 1 rfl ?_
      refine aw_iload_n (pc := 34) d_M_fits_34 rfl 2 rfl ?_
      refine aw_cVpZ (pc := 35) (ci := 12) (T := TX12) (N := 44) (As := [.int l1, .int l2]) (st := []) (ok_M_isFit Y l0 l1 l2 h2 t0) okV_M_isFit rfl (by decide) t0 w9_98 d_M_fits_35 rfl (Nat.le_of_ble_eq_true rfl) rfl (Nat.le_of_ble_eq_true rfl) (fun q7 hq7 hTq7 => ?_)
      refine aw_beq (pc := 38) (tgt := 45) d_M_fits_38 (by decide) (fun c8 => ?_) (fun c8 => ?_)
      · refine aw_iconst (pc := 41) (x := 1) d_M_fits_41 (by decide) ?_
        refine aw_goto (pc := 42) (tgt := 46) d_M_fits_42 (by decide) ?_
        exact aw_ireturn (pc := 46) d_M_fits_46 rfl rfl
      · refine aw_iconst (pc := 45) (x := 0) d_M_fits_45 (by decide) ?_
        exact aw_ireturn (pc := 46) d_M_fits_46 rfl rfl
    · refine aw_aload_n (pc := 26) d_M_fits_26 rfl 0 rfl ?_
      refine aw_iconst (pc := 27) (x := 2) d_M_fits_27 (by decide) ?_
      refine aw_cVrI (pc := 28) (ci := 12) (T := TX12) (N := 44) (As := [.int 2]) (st := []) (ok_M_refuse Y l0 2 h2 t0) okV_M_refuse rfl (by decide) t0 w9_8 d_M_fits_28 rfl (Nat.le_of_ble_eq_true rfl) rfl (Nat.le_of_ble_eq_true rfl) (fun q9 hq9 hTq9 => ?_)
      exact aw_ireturn (pc := 31) d_M_fits_31 rfl rfl
  · refine aw_aload_n (pc := 26) d_M_fits_26 rfl 0 rfl ?_
    refine aw_iconst (pc := 27) (x := 2) d_M_fits_27 (by decide) ?_
    refine aw_cVrI (pc := 28) (ci := 12) (T := TX12) (N := 44) (As := [.int 2]) (st := []) (ok_M_refuse Y l0 2 h2 t0) okV_M_refuse rfl (by decide) t0 w9_8 d_M_fits_28 rfl (Nat.le_of_ble_eq_true rfl) rfl (Nat.le_of_ble_eq_true rfl) (fun q10 hq10 hTq10 => ?_)
    exact aw_ireturn (pc := 31) d_M_fits_31 rfl rfl
/-! LastPagesModel.paidFor(I)I -/
theorem d_M_paidFor_0 : decode prog_14_method_166_code 0 = .ok (.iconst 0, 1) := by decide +kernel
theorem d_M_paidFor_1 : decode prog_14_method_166_code 1 = .ok (.istore_n 2, 1) := by decide +kernel
theorem d_M_paidFor_2 : decode prog_14_method_166_code 2 = .ok (.iconst 0, 1) := by decide +kernel
theorem d_M_paidFor_3 : decode prog_14_method_166_code 3 = .ok (.istore_n 3, 1) := by decide +kernel
theorem d_M_paidFor_4 : decode prog_14_method_166_code 4 = .ok (.iload_n 3, 1) := by decide +kernel
theorem d_M_paidFor_5 : decode prog_14_method_166_code 5 = .ok (.aload_n 0, 1) := by decide +kernel
theorem d_M_paidFor_6 : decode prog_14_method_166_code 6 = .ok (.getfield 35, 3) := by decide +kernel
theorem d_M_paidFor_9 : decode prog_14_method_166_code 9 = .ok (.bipush 7, 2) := by decide +kernel
theorem d_M_paidFor_11 : decode prog_14_method_166_code 11 = .ok (.iaload, 1) := by decide +kernel
theorem d_M_paidFor_12 : decode prog_14_method_166_code 12 = .ok (.if_icmp .ge 34, 3) := by decide +kernel
theorem d_M_paidFor_15 : decode prog_14_method_166_code 15 = .ok (.iload_n 2, 1) := by decide +kernel
theorem d_M_paidFor_16 : decode prog_14_method_166_code 16 = .ok (.iload_n 1, 1) := by decide +kernel
theorem d_M_paidFor_17 : decode prog_14_method_166_code 17 = .ok (.iload_n 3, 1) := by decide +kernel
theorem d_M_paidFor_18 : decode prog_14_method_166_code 18 = .ok (.invokestatic 117, 3) := by decide +kernel
theorem d_M_paidFor_21 : decode prog_14_method_166_code 21 = .ok (.ifCond .eq 16, 3) := by decide +kernel
theorem d_M_paidFor_24 : decode prog_14_method_166_code 24 = .ok (.aload_n 0, 1) := by decide +kernel
theorem d_M_paidFor_25 : decode prog_14_method_166_code 25 = .ok (.getfield 35, 3) := by decide +kernel
theorem d_M_paidFor_28 : decode prog_14_method_166_code 28 = .ok (.sipush 282, 3) := by decide +kernel
theorem d_M_paidFor_31 : decode prog_14_method_166_code 31 = .ok (.iload_n 3, 1) := by decide +kernel
theorem d_M_paidFor_32 : decode prog_14_method_166_code 32 = .ok (.iadd, 1) := by decide +kernel
theorem d_M_paidFor_33 : decode prog_14_method_166_code 33 = .ok (.iaload, 1) := by decide +kernel
theorem d_M_paidFor_34 : decode prog_14_method_166_code 34 = .ok (.goto 4, 3) := by decide +kernel
theorem d_M_paidFor_37 : decode prog_14_method_166_code 37 = .ok (.iconst 0, 1) := by decide +kernel
theorem d_M_paidFor_38 : decode prog_14_method_166_code 38 = .ok (.iadd, 1) := by decide +kernel
theorem d_M_paidFor_39 : decode prog_14_method_166_code 39 = .ok (.istore_n 2, 1) := by decide +kernel
theorem d_M_paidFor_40 : decode prog_14_method_166_code 40 = .ok (.iinc 3 1, 3) := by decide +kernel
theorem d_M_paidFor_43 : decode prog_14_method_166_code 43 = .ok (.goto (-39), 3) := by decide +kernel
theorem d_M_paidFor_46 : decode prog_14_method_166_code 46 = .ok (.iload_n 2, 1) := by decide +kernel
theorem d_M_paidFor_47 : decode prog_14_method_166_code 47 = .ok (.ireturn, 1) := by decide +kernel
def M_paidFor_L4 (Y : Ly) (l0 : Nat) (l1 : Int32) (h : Hp) : Nat → Int32 → Int32 → Option Int32
  | 0, _, _ => none
  | F + 1, l2, l3 =>
    if inB 7 (lnY Y (hGr h 1220 l0)) = true then
      if (hAi h (hGr h 1220 l0) (Int32.toNatClampNeg 7)) ≤ l3 then
        some l2
      else
        (M_has Y l1 l3 h).bind fun q4 =>
        if q4 = true then
          if inB (282 + l3) (lnY Y (hGr h 1220 l0)) = true then
            M_paidFor_L4 Y l0 l1 h F (l2 + (hAi h (hGr h 1220 l0) (Int32.toNatClampNeg (282 + l3)))) (l3 + 1)
          else none
        else
          M_paidFor_L4 Y l0 l1 h F (l2 + 0) (l3 + 1)
    else none
theorem M_paidFor_L4_ok (Y : Ly) (l0 : Nat) (l1 : Int32) (h : Hp) (tl0 : isO Y 12 l0) : ∀ (F : Nat) (l2 : Int32) (l3 : Int32), AW Y 1 K_M_paidFor 4 [(0, .ref l0), (1, .int l1), (2, .int l2), (3, .int l3)] [] h (M_paidFor_L4 Y l0 l1 h F l2 l3) (pI h) := by
  intro F
  induction F with
  | zero =>
    intro l2 l3
    exact aw_none
  | succ F ih =>
    intro l2 l3
    unfold M_paidFor_L4
    refine aw_iload_n (pc := 4) d_M_paidFor_4 rfl 3 rfl ?_
    refine aw_aload_n (pc := 5) d_M_paidFor_5 rfl 0 rfl ?_
    refine gt_1220 (pc := 6) d_M_paidFor_6 w7_47 tl0 (fun tt1 => ?_)
    refine aw_bipush (pc := 9) (x := 7) d_M_paidFor_9 (by decide) ?_
    refine aw_iaload (pc := 11) d_M_paidFor_11 tt1 (fun c2 => ?_)
    refine aw_icmp_ge (pc := 12) (tgt := 46) d_M_paidFor_12 (by decide) (fun c3 => ?_) (fun c3 => ?_)
    · refine aw_iload_n (pc := 46) d_M_paidFor_46 rfl 2 rfl ?_
      exact aw_ireturn (pc := 47) d_M_paidFor_47 rfl rfl
    · refine aw_iload_n (pc := 15) d_M_paidFor_15 rfl 2 rfl ?_
      refine aw_iload_n (pc := 16) d_M_paidFor_16 rfl 1 rfl ?_
      refine aw_iload_n (pc := 17) d_M_paidFor_17 rfl 3 rfl ?_
      refine aw_cSpZ (pc := 18) (As := [.int l1, .int l3]) (st := [.int l2]) (ok_M_has Y l1 l3 h) okS_M_has w9_110 d_M_paidFor_18 rfl (Nat.le_of_ble_eq_true rfl) rfl (Nat.le_of_ble_eq_true rfl) (fun q4 hq4 hTq4 => ?_)
      refine aw_beq (pc := 21) (tgt := 37) d_M_paidFor_21 (by decide) (fun c5 => ?_) (fun c5 => ?_)
      · refine aw_aload_n (pc := 24) d_M_paidFor_24 rfl 0 rfl ?_
        refine gt_1220 (pc := 25) d_M_paidFor_25 w7_47 tl0 (fun tt6 => ?_)
        refine aw_sipush (pc := 28) (x := 282) d_M_paidFor_28 (by decide) ?_
        refine aw_iload_n (pc := 31) d_M_paidFor_31 rfl 3 rfl ?_
        refine aw_iadd (pc := 32) d_M_paidFor_32 ?_
        refine aw_iaload (pc := 33) d_M_paidFor_33 tt6 (fun c7 => ?_)
        refine aw_goto (pc := 34) (tgt := 38) d_M_paidFor_34 (by decide) ?_
        refine aw_iadd (pc := 38) d_M_paidFor_38 ?_
        refine aw_istore_n (pc := 39) (lv' := [(2, .int (l2 + (hAi h (hGr h 1220 l0) (Int32.toNatClampNeg (282 + l3))))), (0, .ref l0), (1, .int l1), (3, .int l3)]) d_M_paidFor_39 rfl (by decide) rfl ?_
        refine aw_iinc (pc := 40) (w := l3 + 1) (lv' := [(3, .int (l3 + 1)), (2, .int (l2 + (hAi h (hGr h 1220 l0) (Int32.toNatClampNeg (282 + l3))))), (0, .ref l0), (1, .int l1)]) d_M_paidFor_40 3 rfl rfl (by decide) rfl ?_
        refine aw_goto (pc := 43) (tgt := 4) d_M_paidFor_43 (by decide) ?_
        exact aw_lv [2, 3, 1, 0] rfl (ih (l2 + (hAi h (hGr h 1220 l0) (Int32.toNatClampNeg (282 + l3)))) (l3 + 1))
      · refine aw_iconst (pc := 37) (x := 0) d_M_paidFor_37 (by decide) ?_
        refine aw_iadd (pc := 38) d_M_paidFor_38 ?_
        refine aw_istore_n (pc := 39) (lv' := [(2, .int (l2 + 0)), (0, .ref l0), (1, .int l1), (3, .int l3)]) d_M_paidFor_39 rfl (by decide) rfl ?_
        refine aw_iinc (pc := 40) (w := l3 + 1) (lv' := [(3, .int (l3 + 1)), (2, .int (l2 + 0)), (0, .ref l0), (1, .int l1)]) d_M_paidFor_40 3 rfl rfl (by decide) rfl ?_
        refine aw_goto (pc := 43) (tgt := 4) d_M_paidFor_43 (by decide) ?_
        exact aw_lv [2, 3, 1, 0] rfl (ih (l2 + 0) (l3 + 1))
def M_paidFor (Y : Ly) (l0 : Nat) (l1 : Int32) (h : Hp) : Option Int32 :=
  M_paidFor_L4 Y l0 l1 h FU 0 0
theorem ok_M_paidFor (Y : Ly) (l0 : Nat) (l1 : Int32) (h : Hp) (t0 : isO Y 12 l0) : AM Y 1 K_M_paidFor [.ref l0, .int l1] h (M_paidFor Y l0 l1 h) (pI h) := by
  refine AM.of rfl (Nat.le_of_ble_eq_true rfl) ?_
  show AW Y 1 K_M_paidFor 0 [(0, .ref l0), (1, .int l1)] [] h (M_paidFor Y l0 l1 h) (pI h)
  unfold M_paidFor
  refine aw_iconst (pc := 0) (x := 0) d_M_paidFor_0 (by decide) ?_
  refine aw_istore_n (pc := 1) (lv' := [(2, .int 0), (0, .ref l0), (1, .int l1)]) d_M_paidFor_1 rfl (by decide) rfl ?_
  refine aw_iconst (pc := 2) (x := 0) d_M_paidFor_2 (by decide) ?_
  refine aw_istore_n (pc := 3) (lv' := [(3, .int 0), (2, .int 0), (0, .ref l0), (1, .int l1)]) d_M_paidFor_3 rfl (by decide) rfl ?_
  exact aw_lv [2, 3, 1, 0] rfl (M_paidFor_L4_ok Y l0 l1 h t0 FU 0 0)
/-! LastPagesModel.guarding(I)I -/
theorem d_M_guarding_0 : decode prog_14_method_168_code 0 = .ok (.iconst (-1), 1) := by decide +kernel
theorem d_M_guarding_1 : decode prog_14_method_168_code 1 = .ok (.istore_n 2, 1) := by decide +kernel
theorem d_M_guarding_2 : decode prog_14_method_168_code 2 = .ok (.iconst 0, 1) := by decide +kernel
theorem d_M_guarding_3 : decode prog_14_method_168_code 3 = .ok (.istore_n 3, 1) := by decide +kernel
theorem d_M_guarding_4 : decode prog_14_method_168_code 4 = .ok (.iload_n 3, 1) := by decide +kernel
theorem d_M_guarding_5 : decode prog_14_method_168_code 5 = .ok (.iconst 1, 1) := by decide +kernel
theorem d_M_guarding_6 : decode prog_14_method_168_code 6 = .ok (.aload_n 0, 1) := by decide +kernel
theorem d_M_guarding_7 : decode prog_14_method_168_code 7 = .ok (.getfield 35, 3) := by decide +kernel
theorem d_M_guarding_10 : decode prog_14_method_168_code 10 = .ok (.bipush 7, 2) := by decide +kernel
theorem d_M_guarding_12 : decode prog_14_method_168_code 12 = .ok (.iaload, 1) := by decide +kernel
theorem d_M_guarding_13 : decode prog_14_method_168_code 13 = .ok (.ishl, 1) := by decide +kernel
theorem d_M_guarding_14 : decode prog_14_method_168_code 14 = .ok (.if_icmp .ge 107, 3) := by decide +kernel
theorem d_M_guarding_17 : decode prog_14_method_168_code 17 = .ok (.iconst 1, 1) := by decide +kernel
theorem d_M_guarding_18 : decode prog_14_method_168_code 18 = .ok (.istore 4, 2) := by decide +kernel
theorem d_M_guarding_20 : decode prog_14_method_168_code 20 = .ok (.iconst 0, 1) := by decide +kernel
theorem d_M_guarding_21 : decode prog_14_method_168_code 21 = .ok (.istore 5, 2) := by decide +kernel
theorem d_M_guarding_23 : decode prog_14_method_168_code 23 = .ok (.iload 5, 2) := by decide +kernel
theorem d_M_guarding_25 : decode prog_14_method_168_code 25 = .ok (.aload_n 0, 1) := by decide +kernel
theorem d_M_guarding_26 : decode prog_14_method_168_code 26 = .ok (.getfield 35, 3) := by decide +kernel
theorem d_M_guarding_29 : decode prog_14_method_168_code 29 = .ok (.iconst 2, 1) := by decide +kernel
theorem d_M_guarding_30 : decode prog_14_method_168_code 30 = .ok (.iaload, 1) := by decide +kernel
theorem d_M_guarding_31 : decode prog_14_method_168_code 31 = .ok (.if_icmp .ge 32, 3) := by decide +kernel
theorem d_M_guarding_34 : decode prog_14_method_168_code 34 = .ok (.iload 4, 2) := by decide +kernel
theorem d_M_guarding_36 : decode prog_14_method_168_code 36 = .ok (.ifCond .eq 18, 3) := by decide +kernel
theorem d_M_guarding_39 : decode prog_14_method_168_code 39 = .ok (.aload_n 0, 1) := by decide +kernel
theorem d_M_guarding_40 : decode prog_14_method_168_code 40 = .ok (.iload 5, 2) := by decide +kernel
theorem d_M_guarding_42 : decode prog_14_method_168_code 42 = .ok (.iload_n 3, 1) := by decide +kernel
theorem d_M_guarding_43 : decode prog_14_method_168_code 43 = .ok (.invokevirtual 509, 3) := by decide +kernel
theorem d_M_guarding_46 : decode prog_14_method_168_code 46 = .ok (.iload_n 1, 1) := by decide +kernel
theorem d_M_guarding_47 : decode prog_14_method_168_code 47 = .ok (.if_icmp .lt 7, 3) := by decide +kernel
theorem d_M_guarding_50 : decode prog_14_method_168_code 50 = .ok (.iconst 1, 1) := by decide +kernel
theorem d_M_guarding_51 : decode prog_14_method_168_code 51 = .ok (.goto 4, 3) := by decide +kernel
theorem d_M_guarding_54 : decode prog_14_method_168_code 54 = .ok (.iconst 0, 1) := by decide +kernel
theorem d_M_guarding_55 : decode prog_14_method_168_code 55 = .ok (.istore 4, 2) := by decide +kernel
theorem d_M_guarding_57 : decode prog_14_method_168_code 57 = .ok (.iinc 5 1, 3) := by decide +kernel
theorem d_M_guarding_60 : decode prog_14_method_168_code 60 = .ok (.goto (-37), 3) := by decide +kernel
theorem d_M_guarding_63 : decode prog_14_method_168_code 63 = .ok (.iload 4, 2) := by decide +kernel
theorem d_M_guarding_65 : decode prog_14_method_168_code 65 = .ok (.ifCond .ne 6, 3) := by decide +kernel
theorem d_M_guarding_68 : decode prog_14_method_168_code 68 = .ok (.goto 47, 3) := by decide +kernel
theorem d_M_guarding_71 : decode prog_14_method_168_code 71 = .ok (.iload_n 2, 1) := by decide +kernel
theorem d_M_guarding_72 : decode prog_14_method_168_code 72 = .ok (.ifCond .ge 7, 3) := by decide +kernel
theorem d_M_guarding_75 : decode prog_14_method_168_code 75 = .ok (.iconst (-1), 1) := by decide +kernel
theorem d_M_guarding_76 : decode prog_14_method_168_code 76 = .ok (.goto 14, 3) := by decide +kernel
theorem d_M_guarding_79 : decode prog_14_method_168_code 79 = .ok (.aload_n 0, 1) := by decide +kernel
theorem d_M_guarding_80 : decode prog_14_method_168_code 80 = .ok (.iload_n 3, 1) := by decide +kernel
theorem d_M_guarding_81 : decode prog_14_method_168_code 81 = .ok (.invokevirtual 512, 3) := by decide +kernel
theorem d_M_guarding_84 : decode prog_14_method_168_code 84 = .ok (.aload_n 0, 1) := by decide +kernel
theorem d_M_guarding_85 : decode prog_14_method_168_code 85 = .ok (.iload_n 2, 1) := by decide +kernel
theorem d_M_guarding_86 : decode prog_14_method_168_code 86 = .ok (.invokevirtual 512, 3) := by decide +kernel
theorem d_M_guarding_89 : decode prog_14_method_168_code 89 = .ok (.isub, 1) := by decide +kernel
theorem d_M_guarding_90 : decode prog_14_method_168_code 90 = .ok (.istore 5, 2) := by decide +kernel
theorem d_M_guarding_92 : decode prog_14_method_168_code 92 = .ok (.iload 5, 2) := by decide +kernel
theorem d_M_guarding_94 : decode prog_14_method_168_code 94 = .ok (.ifCond .lt 19, 3) := by decide +kernel
theorem d_M_guarding_97 : decode prog_14_method_168_code 97 = .ok (.iload 5, 2) := by decide +kernel
theorem d_M_guarding_99 : decode prog_14_method_168_code 99 = .ok (.ifCond .ne 16, 3) := by decide +kernel
theorem d_M_guarding_102 : decode prog_14_method_168_code 102 = .ok (.iload_n 3, 1) := by decide +kernel
theorem d_M_guarding_103 : decode prog_14_method_168_code 103 = .ok (.invokestatic 480, 3) := by decide +kernel
theorem d_M_guarding_106 : decode prog_14_method_168_code 106 = .ok (.iload_n 2, 1) := by decide +kernel
theorem d_M_guarding_107 : decode prog_14_method_168_code 107 = .ok (.invokestatic 480, 3) := by decide +kernel
theorem d_M_guarding_110 : decode prog_14_method_168_code 110 = .ok (.if_icmp .ge 5, 3) := by decide +kernel
theorem d_M_guarding_113 : decode prog_14_method_168_code 113 = .ok (.iload_n 3, 1) := by decide +kernel
theorem d_M_guarding_114 : decode prog_14_method_168_code 114 = .ok (.istore_n 2, 1) := by decide +kernel
theorem d_M_guarding_115 : decode prog_14_method_168_code 115 = .ok (.iinc 3 1, 3) := by decide +kernel
theorem d_M_guarding_118 : decode prog_14_method_168_code 118 = .ok (.goto (-114), 3) := by decide +kernel
theorem d_M_guarding_121 : decode prog_14_method_168_code 121 = .ok (.iload_n 2, 1) := by decide +kernel
theorem d_M_guarding_122 : decode prog_14_method_168_code 122 = .ok (.ireturn, 1) := by decide +kernel
def M_guarding_J90 (Y : Ly) (k4 : Int32 → Int32 → Option Int32) (l0 : Nat) (l1 : Int32) (l2 : Int32) (l3 : Int32) (s0 : Int32) (h : Hp) : Option Int32 :=
  if s0 < 0 then
    k4 l3 (l3 + 1)
  else
    if s0 = 0 then
      (M_sizeOf Y l3 h).bind fun q13 =>
      (M_sizeOf Y l2 h).bind fun q14 =>
      if q14 ≤ q13 then
        k4 l2 (l3 + 1)
      else
        k4 l3 (l3 + 1)
    else
      k4 l2 (l3 + 1)
theorem M_guarding_J90_ok (Y : Ly) (k4 : Int32 → Int32 → Option Int32) (l0 : Nat) (l1 : Int32) (l2 : Int32) (l3 : Int32) (s0 : Int32) (h : Hp) (hk4 : ∀ (l2_ : Int32) (l3_ : Int32), AW Y 2 K_M_guarding 4 [(0, .ref l0), (1, .int l1), (2, .int l2_), (3, .int l3_)] [] h (k4 l2_ l3_) (pI h)) (tl0 : isO Y 12 l0) : AW Y 2 K_M_guarding 90 [(0, .ref l0), (1, .int l1), (2, .int l2), (3, .int l3)] [.int s0] h (M_guarding_J90 Y k4 l0 l1 l2 l3 s0 h) (pI h) := by
  unfold M_guarding_J90
  refine aw_istore (pc := 90) (lv' := [(5, .int s0), (0, .ref l0), (1, .int l1), (2, .int l2), (3, .int l3)]) d_M_guarding_90 (by decide) rfl ?_
  refine aw_iload (pc := 92) d_M_guarding_92 0 rfl ?_
  refine aw_if_lt (pc := 94) (tgt := 113) d_M_guarding_94 (by decide) (fun c11 => ?_) (fun c11 => ?_)
  · refine aw_iload_n (pc := 113) d_M_guarding_113 rfl 4 rfl ?_
    refine aw_istore_n (pc := 114) (lv' := [(2, .int l3), (5, .int s0), (0, .ref l0), (1, .int l1), (3, .int l3)]) d_M_guarding_114 rfl (by decide) rfl ?_
    refine aw_iinc (pc := 115) (w := l3 + 1) (lv' := [(3, .int (l3 + 1)), (2, .int l3), (5, .int s0), (0, .ref l0), (1, .int l1)]) d_M_guarding_115 4 rfl rfl (by decide) rfl ?_
    refine aw_goto (pc := 118) (tgt := 4) d_M_guarding_118 (by decide) ?_
    exact aw_lv [3, 4, 1, 0] rfl (hk4 l3 (l3 + 1))
  · refine aw_iload (pc := 97) d_M_guarding_97 0 rfl ?_
    refine aw_if_ne (pc := 99) (tgt := 115) d_M_guarding_99 (by decide) (fun c12 => ?_) (fun c12 => ?_)
    · refine aw_iload_n (pc := 102) d_M_guarding_102 rfl 4 rfl ?_
      refine aw_cSpI (pc := 103) (As := [.int l3]) (st := []) (ok_M_sizeOf Y l3 h) okS_M_sizeOf w10_32 d_M_guarding_103 rfl (Nat.le_of_ble_eq_true rfl) rfl (Nat.le_of_ble_eq_true rfl) (fun q13 hq13 hTq13 => ?_)
      refine aw_iload_n (pc := 106) d_M_guarding_106 rfl 3 rfl ?_
      refine aw_cSpI (pc := 107) (As := [.int l2]) (st := [.int q13]) (ok_M_sizeOf Y l2 h) okS_M_sizeOf w10_32 d_M_guarding_107 rfl (Nat.le_of_ble_eq_true rfl) rfl (Nat.le_of_ble_eq_true rfl) (fun q14 hq14 hTq14 => ?_)
      refine aw_icmp_ge (pc := 110) (tgt := 115) d_M_guarding_110 (by decide) (fun c15 => ?_) (fun c15 => ?_)
      · refine aw_iinc (pc := 115) (w := l3 + 1) (lv' := [(3, .int (l3 + 1)), (5, .int s0), (0, .ref l0), (1, .int l1), (2, .int l2)]) d_M_guarding_115 4 rfl rfl (by decide) rfl ?_
        refine aw_goto (pc := 118) (tgt := 4) d_M_guarding_118 (by decide) ?_
        exact aw_lv [2, 3, 4, 0] rfl (hk4 l2 (l3 + 1))
      · refine aw_iload_n (pc := 113) d_M_guarding_113 rfl 4 rfl ?_
        refine aw_istore_n (pc := 114) (lv' := [(2, .int l3), (5, .int s0), (0, .ref l0), (1, .int l1), (3, .int l3)]) d_M_guarding_114 rfl (by decide) rfl ?_
        refine aw_iinc (pc := 115) (w := l3 + 1) (lv' := [(3, .int (l3 + 1)), (2, .int l3), (5, .int s0), (0, .ref l0), (1, .int l1)]) d_M_guarding_115 4 rfl rfl (by decide) rfl ?_
        refine aw_goto (pc := 118) (tgt := 4) d_M_guarding_118 (by decide) ?_
        exact aw_lv [3, 4, 1, 0] rfl (hk4 l3 (l3 + 1))
    · refine aw_iinc (pc := 115) (w := l3 + 1) (lv' := [(3, .int (l3 + 1)), (5, .int s0), (0, .ref l0), (1, .int l1), (2, .int l2)]) d_M_guarding_115 4 rfl rfl (by decide) rfl ?_
      refine aw_goto (pc := 118) (tgt := 4) d_M_guarding_118 (by decide) ?_
      exact aw_lv [2, 3, 4, 0] rfl (hk4 l2 (l3 + 1))
def M_guarding_L23 (Y : Ly) (l0 : Nat) (l1 : Int32) (l2 : Int32) (l3 : Int32) (h : Hp) (k4 : Int32 → Int32 → Option Int32) : Nat → Bool → Int32 → Option Int32
  | 0, _, _ => none
  | F + 1, l4, l5 =>
    if inB 2 (lnY Y (hGr h 1220 l0)) = true then
      if (hAi h (hGr h 1220 l0) (Int32.toNatClampNeg 2)) ≤ l5 then
        if l4 = true then
          if 0 ≤ l2 then
            (M_paidFor Y l0 l3 h).bind fun q9 =>
            (M_paidFor Y l0 l2 h).bind fun q10 =>
            M_guarding_J90 Y k4 l0 l1 l2 l3 (q9 - q10) h
          else
            M_guarding_J90 Y k4 l0 l1 l2 l3 (-1) h
        else
          k4 l2 (l3 + 1)
      else
        if l4 = true then
          (M_guardsOf Y l0 l5 l3 h).bind fun q17 =>
          if q17 < l1 then
            M_guarding_L23 Y l0 l1 l2 l3 h k4 F false (l5 + 1)
          else
            M_guarding_L23 Y l0 l1 l2 l3 h k4 F true (l5 + 1)
        else
          M_guarding_L23 Y l0 l1 l2 l3 h k4 F false (l5 + 1)
    else none
theorem M_guarding_L23_ok (Y : Ly) (l0 : Nat) (l1 : Int32) (l2 : Int32) (l3 : Int32) (h : Hp) (k4 : Int32 → Int32 → Option Int32) (tl0 : isO Y 12 l0) (hk4 : ∀ (l2_ : Int32) (l3_ : Int32), AW Y 2 K_M_guarding 4 [(0, .ref l0), (1, .int l1), (2, .int l2_), (3, .int l3_)] [] h (k4 l2_ l3_) (pI h)) : ∀ (F : Nat) (l4 : Bool) (l5 : Int32), AW Y 2 K_M_guarding 23 [(0, .ref l0), (1, .int l1), (2, .int l2), (3, .int l3), (4, .int (b2i l4)), (5, .int l5)] [] h (M_guarding_L23 Y l0 l1 l2 l3 h k4 F l4 l5) (pI h) := by
  intro F
  induction F with
  | zero =>
    intro l4 l5
    exact aw_none
  | succ F ih =>
    intro l4 l5
    unfold M_guarding_L23
    refine aw_iload (pc := 23) d_M_guarding_23 5 rfl ?_
    refine aw_aload_n (pc := 25) d_M_guarding_25 rfl 0 rfl ?_
    refine gt_1220 (pc := 26) d_M_guarding_26 w7_47 tl0 (fun tt4 => ?_)
    refine aw_iconst (pc := 29) (x := 2) d_M_guarding_29 (by decide) ?_
    refine aw_iaload (pc := 30) d_M_guarding_30 tt4 (fun c5 => ?_)
    refine aw_icmp_ge (pc := 31) (tgt := 63) d_M_guarding_31 (by decide) (fun c6 => ?_) (fun c6 => ?_)
    · refine aw_iload (pc := 63) d_M_guarding_63 4 rfl ?_
      refine aw_bne (pc := 65) (tgt := 71) d_M_guarding_65 (by decide) (fun c7 => ?_) (fun c7 => ?_)
      · refine aw_iload_n (pc := 71) d_M_guarding_71 rfl 2 rfl ?_
        refine aw_if_ge (pc := 72) (tgt := 79) d_M_guarding_72 (by decide) (fun c8 => ?_) (fun c8 => ?_)
        · refine aw_aload_n (pc := 79) d_M_guarding_79 rfl 0 rfl ?_
          refine aw_iload_n (pc := 80) d_M_guarding_80 rfl 3 rfl ?_
          refine aw_cVpI (pc := 81) (ci := 12) (T := TX12) (N := 44) (As := [.int l3]) (st := []) (ok_M_paidFor Y l0 l3 h tl0) okV_M_paidFor rfl (by decide) tl0 w10_112 d_M_guarding_81 rfl (Nat.le_of_ble_eq_true rfl) rfl (Nat.le_of_ble_eq_true rfl) (fun q9 hq9 hTq9 => ?_)
          refine aw_aload_n (pc := 84) d_M_guarding_84 rfl 0 rfl ?_
          refine aw_iload_n (pc := 85) d_M_guarding_85 rfl 2 rfl ?_
          refine aw_cVpI (pc := 86) (ci := 12) (T := TX12) (N := 44) (As := [.int l2]) (st := [.int q9]) (ok_M_paidFor Y l0 l2 h tl0) okV_M_paidFor rfl (by decide) tl0 w10_112 d_M_guarding_86 rfl (Nat.le_of_ble_eq_true rfl) rfl (Nat.le_of_ble_eq_true rfl) (fun q10 hq10 hTq10 => ?_)
          refine aw_isub (pc := 89) d_M_guarding_89 ?_
          exact aw_lv [0, 1, 2, 3] rfl (M_guarding_J90_ok Y k4 l0 l1 l2 l3 (q9 - q10) h hk4 tl0)
        · refine aw_iconst (pc := 75) (x := (-1)) d_M_guarding_75 (by decide) ?_
          refine aw_goto (pc := 76) (tgt := 90) d_M_guarding_76 (by decide) ?_
          exact aw_lv [0, 1, 2, 3] rfl (M_guarding_J90_ok Y k4 l0 l1 l2 l3 (-1) h hk4 tl0)
      · refine aw_goto (pc := 68) (tgt := 115) d_M_guarding_68 (by decide) ?_
        refine aw_iinc (pc := 115) (w := l3 + 1) (lv' := [(3, .int (l3 + 1)), (0, .ref l0), (1, .int l1), (2, .int l2), (4, .int (b2i l4)), (5, .int l5)]) d_M_guarding_115 3 rfl rfl (by decide) rfl ?_
        refine aw_goto (pc := 118) (tgt := 4) d_M_guarding_118 (by decide) ?_
        exact aw_lv [1, 2, 3, 0] rfl (hk4 l2 (l3 + 1))
    · refine aw_iload (pc := 34) d_M_guarding_34 4 rfl ?_
      refine aw_beq (pc := 36) (tgt := 54) d_M_guarding_36 (by decide) (fun c16 => ?_) (fun c16 => ?_)
      · refine aw_aload_n (pc := 39) d_M_guarding_39 rfl 0 rfl ?_
        refine aw_iload (pc := 40) d_M_guarding_40 5 rfl ?_
        refine aw_iload_n (pc := 42) d_M_guarding_42 rfl 3 rfl ?_
        refine aw_cVpI (pc := 43) (ci := 12) (T := TX12) (N := 44) (As := [.int l5, .int l3]) (st := []) (ok_M_guardsOf Y l0 l5 l3 h tl0) okV_M_guardsOf rfl (by decide) tl0 w10_108 d_M_guarding_43 rfl (Nat.le_of_ble_eq_true rfl) rfl (Nat.le_of_ble_eq_true rfl) (fun q17 hq17 hTq17 => ?_)
        refine aw_iload_n (pc := 46) d_M_guarding_46 rfl 1 rfl ?_
        refine aw_icmp_lt (pc := 47) (tgt := 54) d_M_guarding_47 (by decide) (fun c18 => ?_) (fun c18 => ?_)
        · refine aw_iconst (pc := 54) (x := 0) d_M_guarding_54 (by decide) ?_
          refine aw_istore (pc := 55) (lv' := [(4, .int 0), (0, .ref l0), (1, .int l1), (2, .int l2), (3, .int l3), (5, .int l5)]) d_M_guarding_55 (by decide) rfl ?_
          refine aw_iinc (pc := 57) (w := l5 + 1) (lv' := [(5, .int (l5 + 1)), (4, .int 0), (0, .ref l0), (1, .int l1), (2, .int l2), (3, .int l3)]) d_M_guarding_57 5 rfl rfl (by decide) rfl ?_
          refine aw_goto (pc := 60) (tgt := 23) d_M_guarding_60 (by decide) ?_
          exact aw_lv [2, 3, 4, 5, 1, 0] rfl (ih false (l5 + 1))
        · refine aw_iconst (pc := 50) (x := 1) d_M_guarding_50 (by decide) ?_
          refine aw_goto (pc := 51) (tgt := 55) d_M_guarding_51 (by decide) ?_
          refine aw_istore (pc := 55) (lv' := [(4, .int 1), (0, .ref l0), (1, .int l1), (2, .int l2), (3, .int l3), (5, .int l5)]) d_M_guarding_55 (by decide) rfl ?_
          refine aw_iinc (pc := 57) (w := l5 + 1) (lv' := [(5, .int (l5 + 1)), (4, .int 1), (0, .ref l0), (1, .int l1), (2, .int l2), (3, .int l3)]) d_M_guarding_57 5 rfl rfl (by decide) rfl ?_
          refine aw_goto (pc := 60) (tgt := 23) d_M_guarding_60 (by decide) ?_
          exact aw_lv [2, 3, 4, 5, 1, 0] rfl (ih true (l5 + 1))
      · refine aw_iconst (pc := 54) (x := 0) d_M_guarding_54 (by decide) ?_
        refine aw_istore (pc := 55) (lv' := [(4, .int 0), (0, .ref l0), (1, .int l1), (2, .int l2), (3, .int l3), (5, .int l5)]) d_M_guarding_55 (by decide) rfl ?_
        refine aw_iinc (pc := 57) (w := l5 + 1) (lv' := [(5, .int (l5 + 1)), (4, .int 0), (0, .ref l0), (1, .int l1), (2, .int l2), (3, .int l3)]) d_M_guarding_57 5 rfl rfl (by decide) rfl ?_
        refine aw_goto (pc := 60) (tgt := 23) d_M_guarding_60 (by decide) ?_
        exact aw_lv [2, 3, 4, 5, 1, 0] rfl (ih false (l5 + 1))
def M_guarding_L4 (Y : Ly) (l0 : Nat) (l1 : Int32) (h : Hp) : Nat → Int32 → Int32 → Option Int32
  | 0, _, _ => none
  | F + 1, l2, l3 =>
    if inB 7 (lnY Y (hGr h 1220 l0)) = true then
      if ((1 : Int32) <<< ((hAi h (hGr h 1220 l0) (Int32.toNatClampNeg 7)) &&& 31)) ≤ l3 then
        some l2
      else
        M_guarding_L23 Y l0 l1 l2 l3 h (M_guarding_L4 Y l0 l1 h F) FU true 0
    else none
theorem M_guarding_L4_ok (Y : Ly) (l0 : Nat) (l1 : Int32) (h : Hp) (tl0 : isO Y 12 l0) : ∀ (F : Nat) (l2 : Int32) (l3 : Int32), AW Y 2 K_M_guarding 4 [(0, .ref l0), (1, .int l1), (2, .int l2), (3, .int l3)] [] h (M_guarding_L4 Y l0 l1 h F l2 l3) (pI h) := by
  intro F
  induction F with
  | zero =>
    intro l2 l3
    exact aw_none
  | succ F ih =>
    intro l2 l3
    unfold M_guarding_L4
    refine aw_iload_n (pc := 4) d_M_guarding_4 rfl 3 rfl ?_
    refine aw_iconst (pc := 5) (x := 1) d_M_guarding_5 (by decide) ?_
    refine aw_aload_n (pc := 6) d_M_guarding_6 rfl 0 rfl ?_
    refine gt_1220 (pc := 7) d_M_guarding_7 w7_47 tl0 (fun tt1 => ?_)
    refine aw_bipush (pc := 10) (x := 7) d_M_guarding_10 (by decide) ?_
    refine aw_iaload (pc := 12) d_M_guarding_12 tt1 (fun c2 => ?_)
    refine aw_ishl (pc := 13) d_M_guarding_13 ?_
    refine aw_icmp_ge (pc := 14) (tgt := 121) d_M_guarding_14 (by decide) (fun c3 => ?_) (fun c3 => ?_)
    · refine aw_iload_n (pc := 121) d_M_guarding_121 rfl 2 rfl ?_
      exact aw_ireturn (pc := 122) d_M_guarding_122 rfl rfl
    · refine aw_iconst (pc := 17) (x := 1) d_M_guarding_17 (by decide) ?_
      refine aw_istore (pc := 18) (lv' := [(4, .int 1), (0, .ref l0), (1, .int l1), (2, .int l2), (3, .int l3)]) d_M_guarding_18 (by decide) rfl ?_
      refine aw_iconst (pc := 20) (x := 0) d_M_guarding_20 (by decide) ?_
      refine aw_istore (pc := 21) (lv' := [(5, .int 0), (4, .int 1), (0, .ref l0), (1, .int l1), (2, .int l2), (3, .int l3)]) d_M_guarding_21 (by decide) rfl ?_
      exact aw_lv [2, 3, 4, 5, 1, 0] rfl (M_guarding_L23_ok Y l0 l1 l2 l3 h (M_guarding_L4 Y l0 l1 h F) tl0 ih FU true 0)
def M_guarding (Y : Ly) (l0 : Nat) (l1 : Int32) (h : Hp) : Option Int32 :=
  M_guarding_L4 Y l0 l1 h FU (-1) 0
theorem ok_M_guarding (Y : Ly) (l0 : Nat) (l1 : Int32) (h : Hp) (t0 : isO Y 12 l0) : AM Y 2 K_M_guarding [.ref l0, .int l1] h (M_guarding Y l0 l1 h) (pI h) := by
  refine AM.of rfl (Nat.le_of_ble_eq_true rfl) ?_
  show AW Y 2 K_M_guarding 0 [(0, .ref l0), (1, .int l1)] [] h (M_guarding Y l0 l1 h) (pI h)
  unfold M_guarding
  refine aw_iconst (pc := 0) (x := (-1)) d_M_guarding_0 (by decide) ?_
  refine aw_istore_n (pc := 1) (lv' := [(2, .int (-1)), (0, .ref l0), (1, .int l1)]) d_M_guarding_1 rfl (by decide) rfl ?_
  refine aw_iconst (pc := 2) (x := 0) d_M_guarding_2 (by decide) ?_
  refine aw_istore_n (pc := 3) (lv' := [(3, .int 0), (2, .int (-1)), (0, .ref l0), (1, .int l1)]) d_M_guarding_3 rfl (by decide) rfl ?_
  exact aw_lv [2, 3, 1, 0] rfl (M_guarding_L4_ok Y l0 l1 h t0 FU (-1) 0)
/-! LastPagesModel.guard(I)I -/
theorem d_M_guard_0 : decode prog_14_method_169_code 0 = .ok (.aload_n 0, 1) := by decide +kernel
theorem d_M_guard_1 : decode prog_14_method_169_code 1 = .ok (.iconst 0, 1) := by decide +kernel
theorem d_M_guard_2 : decode prog_14_method_169_code 2 = .ok (.putfield 78, 3) := by decide +kernel
theorem d_M_guard_5 : decode prog_14_method_169_code 5 = .ok (.aload_n 0, 1) := by decide +kernel
theorem d_M_guard_6 : decode prog_14_method_169_code 6 = .ok (.iconst 0, 1) := by decide +kernel
theorem d_M_guard_7 : decode prog_14_method_169_code 7 = .ok (.putfield 81, 3) := by decide +kernel
theorem d_M_guard_10 : decode prog_14_method_169_code 10 = .ok (.iload_n 1, 1) := by decide +kernel
theorem d_M_guard_11 : decode prog_14_method_169_code 11 = .ok (.i2l, 1) := by decide +kernel
theorem d_M_guard_12 : decode prog_14_method_169_code 12 = .ok (.lconst 1, 1) := by decide +kernel
theorem d_M_guard_13 : decode prog_14_method_169_code 13 = .ok (.ldc2_w 111, 3) := by decide +kernel
theorem d_M_guard_16 : decode prog_14_method_169_code 16 = .ok (.invokestatic 113, 3) := by decide +kernel
theorem d_M_guard_19 : decode prog_14_method_169_code 19 = .ok (.ifCond .ne 9, 3) := by decide +kernel
theorem d_M_guard_22 : decode prog_14_method_169_code 22 = .ok (.aload_n 0, 1) := by decide +kernel
theorem d_M_guard_23 : decode prog_14_method_169_code 23 = .ok (.iconst 5, 1) := by decide +kernel
theorem d_M_guard_24 : decode prog_14_method_169_code 24 = .ok (.invokevirtual 367, 3) := by decide +kernel
theorem d_M_guard_27 : decode prog_14_method_169_code 27 = .ok (.ireturn, 1) := by decide +kernel
theorem d_M_guard_28 : decode prog_14_method_169_code 28 = .ok (.aload_n 0, 1) := by decide +kernel
theorem d_M_guard_29 : decode prog_14_method_169_code 29 = .ok (.iload_n 1, 1) := by decide +kernel
theorem d_M_guard_30 : decode prog_14_method_169_code 30 = .ok (.invokevirtual 515, 3) := by decide +kernel
theorem d_M_guard_33 : decode prog_14_method_169_code 33 = .ok (.istore_n 2, 1) := by decide +kernel
theorem d_M_guard_34 : decode prog_14_method_169_code 34 = .ok (.iload_n 2, 1) := by decide +kernel
theorem d_M_guard_35 : decode prog_14_method_169_code 35 = .ok (.ifCond .ge 12, 3) := by decide +kernel
theorem d_M_guard_38 : decode prog_14_method_169_code 38 = .ok (.aload_n 0, 1) := by decide +kernel
theorem d_M_guard_39 : decode prog_14_method_169_code 39 = .ok (.bipush 8, 2) := by decide +kernel
theorem d_M_guard_41 : decode prog_14_method_169_code 41 = .ok (.invokevirtual 367, 3) := by decide +kernel
theorem d_M_guard_44 : decode prog_14_method_169_code 44 = .ok (.goto 8, 3) := by decide +kernel
theorem d_M_guard_47 : decode prog_14_method_169_code 47 = .ok (.aload_n 0, 1) := by decide +kernel
theorem d_M_guard_48 : decode prog_14_method_169_code 48 = .ok (.iload_n 2, 1) := by decide +kernel
theorem d_M_guard_49 : decode prog_14_method_169_code 49 = .ok (.invokevirtual 512, 3) := by decide +kernel
theorem d_M_guard_52 : decode prog_14_method_169_code 52 = .ok (.ireturn, 1) := by decide +kernel
def M_guard (Y : Ly) (l0 : Nat) (l1 : Int32) (h : Hp) : Option (Int32 × Hp) :=
  letH (hSi h 1201 l0 0) fun h1 =>
  letH (hSi h1 1200 l0 0) fun h2 =>
  (M_isIn Y (Int32.toInt64 l1) 1 3 h2).bind fun q3 =>
  if q3 = true then
    (M_guarding Y l0 l1 h2).bind fun q5 =>
    if 0 ≤ q5 then
      (M_paidFor Y l0 q5 h2).bind fun q7 =>
      some (q7, h2)
    else
      (M_refuse Y l0 8 h2).bind fun q8 =>
      some (q8.1, q8.2)
  else
    (M_refuse Y l0 5 h2).bind fun q9 =>
    some (q9.1, q9.2)
theorem ok_M_guard (Y : Ly) (l0 : Nat) (l1 : Int32) (h : Hp) (t0 : isO Y 12 l0) : AM Y 3 K_M_guard [.ref l0, .int l1] h (M_guard Y l0 l1 h) rI := by
  refine AM.of rfl (Nat.le_of_ble_eq_true rfl) ?_
  show AW Y 3 K_M_guard 0 [(0, .ref l0), (1, .int l1)] [] h (M_guard Y l0 l1 h) rI
  unfold M_guard
  refine aw_aload_n (pc := 0) d_M_guard_0 rfl 0 rfl ?_
  refine aw_iconst (pc := 1) (x := 0) d_M_guard_1 (by decide) ?_
  refine pt_1201 (pc := 2) d_M_guard_2 w7_28 t0 ?_
  refine aw_letH (fun h1 => ?_)
  refine aw_aload_n (pc := 5) d_M_guard_5 rfl 0 rfl ?_
  refine aw_iconst (pc := 6) (x := 0) d_M_guard_6 (by decide) ?_
  refine pt_1200 (pc := 7) d_M_guard_7 w7_27 t0 ?_
  refine aw_letH (fun h2 => ?_)
  refine aw_iload_n (pc := 10) d_M_guard_10 rfl 1 rfl ?_
  refine aw_i2l (pc := 11) d_M_guard_11 ?_
  refine aw_lconst (pc := 12) (x := 1) d_M_guard_12 (by decide) ?_
  refine aw_ldc2 (pc := 13) d_M_guard_13 w9_69 ?_
  refine aw_cSpZ (pc := 16) (As := [.long (Int32.toInt64 l1), .long 1, .long 3]) (st := []) (ok_M_isIn Y (Int32.toInt64 l1) 1 3 h2) okS_M_isIn w8_155 d_M_guard_16 rfl (Nat.le_of_ble_eq_true rfl) rfl (Nat.le_of_ble_eq_true rfl) (fun q3 hq3 hTq3 => ?_)
  refine aw_bne (pc := 19) (tgt := 28) d_M_guard_19 (by decide) (fun c4 => ?_) (fun c4 => ?_)
  · refine aw_aload_n (pc := 28) d_M_guard_28 rfl 0 rfl ?_
    refine aw_iload_n (pc := 29) d_M_guard_29 rfl 1 rfl ?_
    refine aw_cVpI (pc := 30) (ci := 12) (T := TX12) (N := 44) (As := [.int l1]) (st := []) (ok_M_guarding Y l0 l1 h2 t0) okV_M_guarding rfl (by decide) t0 w10_104 d_M_guard_30 rfl (Nat.le_of_ble_eq_true rfl) rfl (Nat.le_of_ble_eq_true rfl) (fun q5 hq5 hTq5 => ?_)
    refine aw_istore_n (pc := 33) (lv' := [(2, .int q5), (0, .ref l0), (1, .int l1)]) d_M_guard_33 rfl (by decide) rfl ?_
    refine aw_iload_n (pc := 34) d_M_guard_34 rfl 0 rfl ?_
    refine aw_if_ge (pc := 35) (tgt := 47) d_M_guard_35 (by decide) (fun c6 => ?_) (fun c6 => ?_)
    · refine aw_aload_n (pc := 47) d_M_guard_47 rfl 1 rfl ?_
      refine aw_iload_n (pc := 48) d_M_guard_48 rfl 0 rfl ?_
      refine aw_cVpI (pc := 49) (ci := 12) (T := TX12) (N := 44) (As := [.int q5]) (st := []) (ok_M_paidFor Y l0 q5 h2 t0) okV_M_paidFor rfl (by decide) t0 w10_112 d_M_guard_49 rfl (Nat.le_of_ble_eq_true rfl) rfl (Nat.le_of_ble_eq_true rfl) (fun q7 hq7 hTq7 => ?_)
      exact aw_ireturn (pc := 52) d_M_guard_52 rfl rfl
    · refine aw_aload_n (pc := 38) d_M_guard_38 rfl 1 rfl ?_
      refine aw_bipush (pc := 39) (x := 8) d_M_guard_39 (by decide) ?_
      refine aw_cVrI (pc := 41) (ci := 12) (T := TX12) (N := 44) (As := [.int 8]) (st := []) (ok_M_refuse Y l0 8 h2 t0) okV_M_refuse rfl (by decide) t0 w9_8 d_M_guard_41 rfl (Nat.le_of_ble_eq_true rfl) rfl (Nat.le_of_ble_eq_true rfl) (fun q8 hq8 hTq8 => ?_)
      refine aw_goto (pc := 44) (tgt := 52) d_M_guard_44 (by decide) ?_
      exact aw_ireturn (pc := 52) d_M_guard_52 rfl rfl
  · refine aw_aload_n (pc := 22) d_M_guard_22 rfl 0 rfl ?_
    refine aw_iconst (pc := 23) (x := 5) d_M_guard_23 (by decide) ?_
    refine aw_cVrI (pc := 24) (ci := 12) (T := TX12) (N := 44) (As := [.int 5]) (st := []) (ok_M_refuse Y l0 5 h2 t0) okV_M_refuse rfl (by decide) t0 w9_8 d_M_guard_24 rfl (Nat.le_of_ble_eq_true rfl) rfl (Nat.le_of_ble_eq_true rfl) (fun q9 hq9 hTq9 => ?_)
    exact aw_ireturn (pc := 27) d_M_guard_27 rfl rfl
/-! LastPagesModel.guardSet(I)I -/
theorem d_M_guardSet_0 : decode prog_14_method_170_code 0 = .ok (.aload_n 0, 1) := by decide +kernel
theorem d_M_guardSet_1 : decode prog_14_method_170_code 1 = .ok (.iconst 0, 1) := by decide +kernel
theorem d_M_guardSet_2 : decode prog_14_method_170_code 2 = .ok (.putfield 78, 3) := by decide +kernel
theorem d_M_guardSet_5 : decode prog_14_method_170_code 5 = .ok (.aload_n 0, 1) := by decide +kernel
theorem d_M_guardSet_6 : decode prog_14_method_170_code 6 = .ok (.iconst 0, 1) := by decide +kernel
theorem d_M_guardSet_7 : decode prog_14_method_170_code 7 = .ok (.putfield 81, 3) := by decide +kernel
theorem d_M_guardSet_10 : decode prog_14_method_170_code 10 = .ok (.iload_n 1, 1) := by decide +kernel
theorem d_M_guardSet_11 : decode prog_14_method_170_code 11 = .ok (.i2l, 1) := by decide +kernel
theorem d_M_guardSet_12 : decode prog_14_method_170_code 12 = .ok (.lconst 1, 1) := by decide +kernel
theorem d_M_guardSet_13 : decode prog_14_method_170_code 13 = .ok (.ldc2_w 111, 3) := by decide +kernel
theorem d_M_guardSet_16 : decode prog_14_method_170_code 16 = .ok (.invokestatic 113, 3) := by decide +kernel
theorem d_M_guardSet_19 : decode prog_14_method_170_code 19 = .ok (.ifCond .ne 9, 3) := by decide +kernel
theorem d_M_guardSet_22 : decode prog_14_method_170_code 22 = .ok (.aload_n 0, 1) := by decide +kernel
theorem d_M_guardSet_23 : decode prog_14_method_170_code 23 = .ok (.iconst 5, 1) := by decide +kernel
theorem d_M_guardSet_24 : decode prog_14_method_170_code 24 = .ok (.invokevirtual 367, 3) := by decide +kernel
theorem d_M_guardSet_27 : decode prog_14_method_170_code 27 = .ok (.ireturn, 1) := by decide +kernel
theorem d_M_guardSet_28 : decode prog_14_method_170_code 28 = .ok (.aload_n 0, 1) := by decide +kernel
theorem d_M_guardSet_29 : decode prog_14_method_170_code 29 = .ok (.iload_n 1, 1) := by decide +kernel
theorem d_M_guardSet_30 : decode prog_14_method_170_code 30 = .ok (.invokevirtual 515, 3) := by decide +kernel
theorem d_M_guardSet_33 : decode prog_14_method_170_code 33 = .ok (.istore_n 2, 1) := by decide +kernel
theorem d_M_guardSet_34 : decode prog_14_method_170_code 34 = .ok (.iload_n 2, 1) := by decide +kernel
theorem d_M_guardSet_35 : decode prog_14_method_170_code 35 = .ok (.ifCond .ge 12, 3) := by decide +kernel
theorem d_M_guardSet_38 : decode prog_14_method_170_code 38 = .ok (.aload_n 0, 1) := by decide +kernel
theorem d_M_guardSet_39 : decode prog_14_method_170_code 39 = .ok (.bipush 8, 2) := by decide +kernel
theorem d_M_guardSet_41 : decode prog_14_method_170_code 41 = .ok (.invokevirtual 367, 3) := by decide +kernel
theorem d_M_guardSet_44 : decode prog_14_method_170_code 44 = .ok (.goto 4, 3) := by decide +kernel
theorem d_M_guardSet_47 : decode prog_14_method_170_code 47 = .ok (.iload_n 2, 1) := by decide +kernel
theorem d_M_guardSet_48 : decode prog_14_method_170_code 48 = .ok (.ireturn, 1) := by decide +kernel
def M_guardSet (Y : Ly) (l0 : Nat) (l1 : Int32) (h : Hp) : Option (Int32 × Hp) :=
  letH (hSi h 1201 l0 0) fun h1 =>
  letH (hSi h1 1200 l0 0) fun h2 =>
  (M_isIn Y (Int32.toInt64 l1) 1 3 h2).bind fun q3 =>
  if q3 = true then
    (M_guarding Y l0 l1 h2).bind fun q5 =>
    if 0 ≤ q5 then
      some (q5, h2)
    else
      (M_refuse Y l0 8 h2).bind fun q7 =>
      some (q7.1, q7.2)
  else
    (M_refuse Y l0 5 h2).bind fun q8 =>
    some (q8.1, q8.2)
theorem ok_M_guardSet (Y : Ly) (l0 : Nat) (l1 : Int32) (h : Hp) (t0 : isO Y 12 l0) : AM Y 3 K_M_guardSet [.ref l0, .int l1] h (M_guardSet Y l0 l1 h) rI := by
  refine AM.of rfl (Nat.le_of_ble_eq_true rfl) ?_
  show AW Y 3 K_M_guardSet 0 [(0, .ref l0), (1, .int l1)] [] h (M_guardSet Y l0 l1 h) rI
  unfold M_guardSet
  refine aw_aload_n (pc := 0) d_M_guardSet_0 rfl 0 rfl ?_
  refine aw_iconst (pc := 1) (x := 0) d_M_guardSet_1 (by decide) ?_
  refine pt_1201 (pc := 2) d_M_guardSet_2 w7_28 t0 ?_
  refine aw_letH (fun h1 => ?_)
  refine aw_aload_n (pc := 5) d_M_guardSet_5 rfl 0 rfl ?_
  refine aw_iconst (pc := 6) (x := 0) d_M_guardSet_6 (by decide) ?_
  refine pt_1200 (pc := 7) d_M_guardSet_7 w7_27 t0 ?_
  refine aw_letH (fun h2 => ?_)
  refine aw_iload_n (pc := 10) d_M_guardSet_10 rfl 1 rfl ?_
  refine aw_i2l (pc := 11) d_M_guardSet_11 ?_
  refine aw_lconst (pc := 12) (x := 1) d_M_guardSet_12 (by decide) ?_
  refine aw_ldc2 (pc := 13) d_M_guardSet_13 w9_69 ?_
  refine aw_cSpZ (pc := 16) (As := [.long (Int32.toInt64 l1), .long 1, .long 3]) (st := []) (ok_M_isIn Y (Int32.toInt64 l1) 1 3 h2) okS_M_isIn w8_155 d_M_guardSet_16 rfl (Nat.le_of_ble_eq_true rfl) rfl (Nat.le_of_ble_eq_true rfl) (fun q3 hq3 hTq3 => ?_)
  refine aw_bne (pc := 19) (tgt := 28) d_M_guardSet_19 (by decide) (fun c4 => ?_) (fun c4 => ?_)
  · refine aw_aload_n (pc := 28) d_M_guardSet_28 rfl 0 rfl ?_
    refine aw_iload_n (pc := 29) d_M_guardSet_29 rfl 1 rfl ?_
    refine aw_cVpI (pc := 30) (ci := 12) (T := TX12) (N := 44) (As := [.int l1]) (st := []) (ok_M_guarding Y l0 l1 h2 t0) okV_M_guarding rfl (by decide) t0 w10_104 d_M_guardSet_30 rfl (Nat.le_of_ble_eq_true rfl) rfl (Nat.le_of_ble_eq_true rfl) (fun q5 hq5 hTq5 => ?_)
    refine aw_istore_n (pc := 33) (lv' := [(2, .int q5), (0, .ref l0), (1, .int l1)]) d_M_guardSet_33 rfl (by decide) rfl ?_
    refine aw_iload_n (pc := 34) d_M_guardSet_34 rfl 0 rfl ?_
    refine aw_if_ge (pc := 35) (tgt := 47) d_M_guardSet_35 (by decide) (fun c6 => ?_) (fun c6 => ?_)
    · refine aw_iload_n (pc := 47) d_M_guardSet_47 rfl 0 rfl ?_
      exact aw_ireturn (pc := 48) d_M_guardSet_48 rfl rfl
    · refine aw_aload_n (pc := 38) d_M_guardSet_38 rfl 1 rfl ?_
      refine aw_bipush (pc := 39) (x := 8) d_M_guardSet_39 (by decide) ?_
      refine aw_cVrI (pc := 41) (ci := 12) (T := TX12) (N := 44) (As := [.int 8]) (st := []) (ok_M_refuse Y l0 8 h2 t0) okV_M_refuse rfl (by decide) t0 w9_8 d_M_guardSet_41 rfl (Nat.le_of_ble_eq_true rfl) rfl (Nat.le_of_ble_eq_true rfl) (fun q7 hq7 hTq7 => ?_)
      refine aw_goto (pc := 44) (tgt := 48) d_M_guardSet_44 (by decide) ?_
      exact aw_ireturn (pc := 48) d_M_guardSet_48 rfl rfl
  · refine aw_aload_n (pc := 22) d_M_guardSet_22 rfl 0 rfl ?_
    refine aw_iconst (pc := 23) (x := 5) d_M_guardSet_23 (by decide) ?_
    refine aw_cVrI (pc := 24) (ci := 12) (T := TX12) (N := 44) (As := [.int 5]) (st := []) (ok_M_refuse Y l0 5 h2 t0) okV_M_refuse rfl (by decide) t0 w9_8 d_M_guardSet_24 rfl (Nat.le_of_ble_eq_true rfl) rfl (Nat.le_of_ble_eq_true rfl) (fun q8 hq8 hTq8 => ?_)
    exact aw_ireturn (pc := 27) d_M_guardSet_27 rfl rfl
/-! LastPagesModel.hint(II)I -/
theorem d_M_hint_0 : decode prog_14_method_104_code 0 = .ok (.aload_n 0, 1) := by decide +kernel
theorem d_M_hint_1 : decode prog_14_method_104_code 1 = .ok (.iconst 0, 1) := by decide +kernel
theorem d_M_hint_2 : decode prog_14_method_104_code 2 = .ok (.putfield 78, 3) := by decide +kernel
theorem d_M_hint_5 : decode prog_14_method_104_code 5 = .ok (.aload_n 0, 1) := by decide +kernel
theorem d_M_hint_6 : decode prog_14_method_104_code 6 = .ok (.iconst 0, 1) := by decide +kernel
theorem d_M_hint_7 : decode prog_14_method_104_code 7 = .ok (.putfield 81, 3) := by decide +kernel
theorem d_M_hint_10 : decode prog_14_method_104_code 10 = .ok (.iload_n 1, 1) := by decide +kernel
theorem d_M_hint_11 : decode prog_14_method_104_code 11 = .ok (.i2l, 1) := by decide +kernel
theorem d_M_hint_12 : decode prog_14_method_104_code 12 = .ok (.lconst 0, 1) := by decide +kernel
theorem d_M_hint_13 : decode prog_14_method_104_code 13 = .ok (.aload_n 0, 1) := by decide +kernel
theorem d_M_hint_14 : decode prog_14_method_104_code 14 = .ok (.getfield 35, 3) := by decide +kernel
theorem d_M_hint_17 : decode prog_14_method_104_code 17 = .ok (.iconst 5, 1) := by decide +kernel
theorem d_M_hint_18 : decode prog_14_method_104_code 18 = .ok (.iaload, 1) := by decide +kernel
theorem d_M_hint_19 : decode prog_14_method_104_code 19 = .ok (.iconst 1, 1) := by decide +kernel
theorem d_M_hint_20 : decode prog_14_method_104_code 20 = .ok (.isub, 1) := by decide +kernel
theorem d_M_hint_21 : decode prog_14_method_104_code 21 = .ok (.i2l, 1) := by decide +kernel
theorem d_M_hint_22 : decode prog_14_method_104_code 22 = .ok (.invokestatic 113, 3) := by decide +kernel
theorem d_M_hint_25 : decode prog_14_method_104_code 25 = .ok (.ifCond .eq 33, 3) := by decide +kernel
theorem d_M_hint_28 : decode prog_14_method_104_code 28 = .ok (.iload_n 2, 1) := by decide +kernel
theorem d_M_hint_29 : decode prog_14_method_104_code 29 = .ok (.i2l, 1) := by decide +kernel
theorem d_M_hint_30 : decode prog_14_method_104_code 30 = .ok (.lconst 0, 1) := by decide +kernel
theorem d_M_hint_31 : decode prog_14_method_104_code 31 = .ok (.ldc2_w 111, 3) := by decide +kernel
theorem d_M_hint_34 : decode prog_14_method_104_code 34 = .ok (.invokestatic 113, 3) := by decide +kernel
theorem d_M_hint_37 : decode prog_14_method_104_code 37 = .ok (.ifCond .eq 21, 3) := by decide +kernel
theorem d_M_hint_40 : decode prog_14_method_104_code 40 = .ok (.aload_n 0, 1) := by decide +kernel
theorem d_M_hint_41 : decode prog_14_method_104_code 41 = .ok (.getfield 35, 3) := by decide +kernel
theorem d_M_hint_44 : decode prog_14_method_104_code 44 = .ok (.sipush 222, 3) := by decide +kernel
theorem d_M_hint_47 : decode prog_14_method_104_code 47 = .ok (.bipush 12, 2) := by decide +kernel
theorem d_M_hint_49 : decode prog_14_method_104_code 49 = .ok (.iload_n 2, 1) := by decide +kernel
theorem d_M_hint_50 : decode prog_14_method_104_code 50 = .ok (.imul, 1) := by decide +kernel
theorem d_M_hint_51 : decode prog_14_method_104_code 51 = .ok (.iadd, 1) := by decide +kernel
theorem d_M_hint_52 : decode prog_14_method_104_code 52 = .ok (.iload_n 1, 1) := by decide +kernel
theorem d_M_hint_53 : decode prog_14_method_104_code 53 = .ok (.iadd, 1) := by decide +kernel
theorem d_M_hint_54 : decode prog_14_method_104_code 54 = .ok (.iaload, 1) := by decide +kernel
theorem d_M_hint_55 : decode prog_14_method_104_code 55 = .ok (.goto 8, 3) := by decide +kernel
theorem d_M_hint_58 : decode prog_14_method_104_code 58 = .ok (.aload_n 0, 1) := by decide +kernel
theorem d_M_hint_59 : decode prog_14_method_104_code 59 = .ok (.iconst 5, 1) := by decide +kernel
theorem d_M_hint_60 : decode prog_14_method_104_code 60 = .ok (.invokevirtual 367, 3) := by decide +kernel
theorem d_M_hint_63 : decode prog_14_method_104_code 63 = .ok (.ireturn, 1) := by decide +kernel
def M_hint (Y : Ly) (l0 : Nat) (l1 : Int32) (l2 : Int32) (h : Hp) : Option (Int32 × Hp) :=
  letH (hSi h 1201 l0 0) fun h1 =>
  letH (hSi h1 1200 l0 0) fun h2 =>
  if inB 5 (lnY Y (hGr h2 1220 l0)) = true then
    (M_isIn Y (Int32.toInt64 l1) 0 (Int32.toInt64 ((hAi h2 (hGr h2 1220 l0) (Int32.toNatClampNeg 5)) - 1)) h2).bind fun q5 =>
    if q5 = true then
      (M_isIn Y (Int32.toInt64 l2) 0 3 h2).bind fun q7 =>
      if q7 = true then
        if inB ((222 + (12 * l2)) + l1) (lnY Y (hGr h2 1220 l0)) = true then
          some (hAi h2 (hGr h2 1220 l0) (Int32.toNatClampNeg ((222 + (12 * l2)) + l1)), h2)
        else none
      else
        (M_refuse Y l0 5 h2).bind fun q11 =>
        some (q11.1, q11.2)
    else
      (M_refuse Y l0 5 h2).bind fun q12 =>
      some (q12.1, q12.2)
  else none
theorem ok_M_hint (Y : Ly) (l0 : Nat) (l1 : Int32) (l2 : Int32) (h : Hp) (t0 : isO Y 12 l0) : AM Y 1 K_M_hint [.ref l0, .int l1, .int l2] h (M_hint Y l0 l1 l2 h) rI := by
  refine AM.of rfl (Nat.le_of_ble_eq_true rfl) ?_
  show AW Y 1 K_M_hint 0 [(0, .ref l0), (1, .int l1), (2, .int l2)] [] h (M_hint Y l0 l1 l2 h) rI
  unfold M_hint
  refine aw_aload_n (pc := 0) d_M_hint_0 rfl 0 rfl ?_
  refine aw_iconst (pc := 1) (x := 0) d_M_hint_1 (by decide) ?_
  refine pt_1201 (pc := 2) d_M_hint_2 w7_28 t0 ?_
  refine aw_letH (fun h1 => ?_)
  refine aw_aload_n (pc := 5) d_M_hint_5 rfl 0 rfl ?_
  refine aw_iconst (pc := 6) (x := 0) d_M_hint_6 (by decide) ?_
  refine pt_1200 (pc := 7) d_M_hint_7 w7_27 t0 ?_
  refine aw_letH (fun h2 => ?_)
  refine aw_iload_n (pc := 10) d_M_hint_10 rfl 1 rfl ?_
  refine aw_i2l (pc := 11) d_M_hint_11 ?_
  refine aw_lconst (pc := 12) (x := 0) d_M_hint_12 (by decide) ?_
  refine aw_aload_n (pc := 13) d_M_hint_13 rfl 0 rfl ?_
  refine gt_1220 (pc := 14) d_M_hint_14 w7_47 t0 (fun tt3 => ?_)
  refine aw_iconst (pc := 17) (x := 5) d_M_hint_17 (by decide) ?_
  refine aw_iaload (pc := 18) d_M_hint_18 tt3 (fun c4 => ?_)
  refine aw_iconst (pc := 19) (x := 1) d_M_hint_19 (by decide) ?_
  refine aw_isub (pc := 20) d_M_hint_20 ?_
  refine aw_i2l (pc := 21) d_M_hint_21 ?_
  refine aw_cSpZ (pc := 22) (As := [.long (Int32.toInt64 l1), .long 0, .long (Int32.toInt64 ((hAi h2 (hGr h2 1220 l0) (Int32.toNatClampNeg 5)) - 1))]) (st := []) (ok_M_isIn Y (Int32.toInt64 l1) 0 (Int32.toInt64 ((hAi h2 (hGr h2 1220 l0) (Int32.toNatClampNeg 5)) - 1)) h2) okS_M_isIn w8_155 d_M_hint_22 rfl (Nat.le_of_ble_eq_true rfl) rfl (Nat.le_of_ble_eq_true rfl) (fun q5 hq5 hTq5 => ?_)
  refine aw_beq (pc := 25) (tgt := 58) d_M_hint_25 (by decide) (fun c6 => ?_) (fun c6 => ?_)
  · refine aw_iload_n (pc := 28) d_M_hint_28 rfl 2 rfl ?_
    refine aw_i2l (pc := 29) d_M_hint_29 ?_
    refine aw_lconst (pc := 30) (x := 0) d_M_hint_30 (by decide) ?_
    refine aw_ldc2 (pc := 31) d_M_hint_31 w9_69 ?_
    refine aw_cSpZ (pc := 34) (As := [.long (Int32.toInt64 l2), .long 0, .long 3]) (st := []) (ok_M_isIn Y (Int32.toInt64 l2) 0 3 h2) okS_M_isIn w8_155 d_M_hint_34 rfl (Nat.le_of_ble_eq_true rfl) rfl (Nat.le_of_ble_eq_true rfl) (fun q7 hq7 hTq7 => ?_)
    refine aw_beq (pc := 37) (tgt := 58) d_M_hint_37 (by decide) (fun c8 => ?_) (fun c8 => ?_)
    · refine aw_aload_n (pc := 40) d_M_hint_40 rfl 0 rfl ?_
      refine gt_1220 (pc := 41) d_M_hint_41 w7_47 t0 (fun tt9 => ?_)
      refine aw_sipush (pc := 44) (x := 222) d_M_hint_44 (by decide) ?_
      refine aw_bipush (pc := 47) (x := 12) d_M_hint_47 (by decide) ?_
      refine aw_iload_n (pc := 49) d_M_hint_49 rfl 2 rfl ?_
      refine aw_imul (pc := 50) d_M_hint_50 ?_
      refine aw_iadd (pc := 51) d_M_hint_51 ?_
      refine aw_iload_n (pc := 52) d_M_hint_52 rfl 1 rfl ?_
      refine aw_iadd (pc := 53) d_M_hint_53 ?_
      refine aw_iaload (pc := 54) d_M_hint_54 tt9 (fun c10 => ?_)
      refine aw_goto (pc := 55) (tgt := 63) d_M_hint_55 (by decide) ?_
      exact aw_ireturn (pc := 63) d_M_hint_63 rfl rfl
    · refine aw_aload_n (pc := 58) d_M_hint_58 rfl 0 rfl ?_
      refine aw_iconst (pc := 59) (x := 5) d_M_hint_59 (by decide) ?_
      refine aw_cVrI (pc := 60) (ci := 12) (T := TX12) (N := 44) (As := [.int 5]) (st := []) (ok_M_refuse Y l0 5 h2 t0) okV_M_refuse rfl (by decide) t0 w9_8 d_M_hint_60 rfl (Nat.le_of_ble_eq_true rfl) rfl (Nat.le_of_ble_eq_true rfl) (fun q11 hq11 hTq11 => ?_)
      exact aw_ireturn (pc := 63) d_M_hint_63 rfl rfl
  · refine aw_aload_n (pc := 58) d_M_hint_58 rfl 0 rfl ?_
    refine aw_iconst (pc := 59) (x := 5) d_M_hint_59 (by decide) ?_
    refine aw_cVrI (pc := 60) (ci := 12) (T := TX12) (N := 44) (As := [.int 5]) (st := []) (ok_M_refuse Y l0 5 h2 t0) okV_M_refuse rfl (by decide) t0 w9_8 d_M_hint_60 rfl (Nat.le_of_ble_eq_true rfl) rfl (Nat.le_of_ble_eq_true rfl) (fun q12 hq12 hTq12 => ?_)
    exact aw_ireturn (pc := 63) d_M_hint_63 rfl rfl
/-! LastPagesModel.hopeless()I -/
theorem d_M_hopeless_0 : decode prog_14_method_123_code 0 = .ok (.aload_n 0, 1) := by decide +kernel
theorem d_M_hopeless_1 : decode prog_14_method_123_code 1 = .ok (.iconst 0, 1) := by decide +kernel
theorem d_M_hopeless_2 : decode prog_14_method_123_code 2 = .ok (.putfield 78, 3) := by decide +kernel
theorem d_M_hopeless_5 : decode prog_14_method_123_code 5 = .ok (.aload_n 0, 1) := by decide +kernel
theorem d_M_hopeless_6 : decode prog_14_method_123_code 6 = .ok (.iconst 0, 1) := by decide +kernel
theorem d_M_hopeless_7 : decode prog_14_method_123_code 7 = .ok (.putfield 81, 3) := by decide +kernel
theorem d_M_hopeless_10 : decode prog_14_method_123_code 10 = .ok (.iconst 0, 1) := by decide +kernel
theorem d_M_hopeless_11 : decode prog_14_method_123_code 11 = .ok (.istore_n 1, 1) := by decide +kernel
theorem d_M_hopeless_12 : decode prog_14_method_123_code 12 = .ok (.iconst 0, 1) := by decide +kernel
theorem d_M_hopeless_13 : decode prog_14_method_123_code 13 = .ok (.istore_n 2, 1) := by decide +kernel
theorem d_M_hopeless_14 : decode prog_14_method_123_code 14 = .ok (.iload_n 2, 1) := by decide +kernel
theorem d_M_hopeless_15 : decode prog_14_method_123_code 15 = .ok (.aload_n 0, 1) := by decide +kernel
theorem d_M_hopeless_16 : decode prog_14_method_123_code 16 = .ok (.getfield 35, 3) := by decide +kernel
theorem d_M_hopeless_19 : decode prog_14_method_123_code 19 = .ok (.iconst 2, 1) := by decide +kernel
theorem d_M_hopeless_20 : decode prog_14_method_123_code 20 = .ok (.iaload, 1) := by decide +kernel
theorem d_M_hopeless_21 : decode prog_14_method_123_code 21 = .ok (.if_icmp .ge 29, 3) := by decide +kernel
theorem d_M_hopeless_24 : decode prog_14_method_123_code 24 = .ok (.iload_n 1, 1) := by decide +kernel
theorem d_M_hopeless_25 : decode prog_14_method_123_code 25 = .ok (.aload_n 0, 1) := by decide +kernel
theorem d_M_hopeless_26 : decode prog_14_method_123_code 26 = .ok (.iload_n 2, 1) := by decide +kernel
theorem d_M_hopeless_27 : decode prog_14_method_123_code 27 = .ok (.invokevirtual 422, 3) := by decide +kernel
theorem d_M_hopeless_30 : decode prog_14_method_123_code 30 = .ok (.lconst 0, 1) := by decide +kernel
theorem d_M_hopeless_31 : decode prog_14_method_123_code 31 = .ok (.lcmp, 1) := by decide +kernel
theorem d_M_hopeless_32 : decode prog_14_method_123_code 32 = .ok (.ifCond .ne 9, 3) := by decide +kernel
theorem d_M_hopeless_35 : decode prog_14_method_123_code 35 = .ok (.iconst 1, 1) := by decide +kernel
theorem d_M_hopeless_36 : decode prog_14_method_123_code 36 = .ok (.iload_n 2, 1) := by decide +kernel
theorem d_M_hopeless_37 : decode prog_14_method_123_code 37 = .ok (.ishl, 1) := by decide +kernel
theorem d_M_hopeless_38 : decode prog_14_method_123_code 38 = .ok (.goto 4, 3) := by decide +kernel
theorem d_M_hopeless_41 : decode prog_14_method_123_code 41 = .ok (.iconst 0, 1) := by decide +kernel
theorem d_M_hopeless_42 : decode prog_14_method_123_code 42 = .ok (.ior, 1) := by decide +kernel
theorem d_M_hopeless_43 : decode prog_14_method_123_code 43 = .ok (.istore_n 1, 1) := by decide +kernel
theorem d_M_hopeless_44 : decode prog_14_method_123_code 44 = .ok (.iinc 2 1, 3) := by decide +kernel
theorem d_M_hopeless_47 : decode prog_14_method_123_code 47 = .ok (.goto (-33), 3) := by decide +kernel
theorem d_M_hopeless_50 : decode prog_14_method_123_code 50 = .ok (.iload_n 1, 1) := by decide +kernel
theorem d_M_hopeless_51 : decode prog_14_method_123_code 51 = .ok (.ireturn, 1) := by decide +kernel
def M_hopeless_L14 (Y : Ly) (l0 : Nat) : Nat → Int32 → Int32 → Hp → Option (Int32 × Hp)
  | 0, _, _, _ => none
  | F + 1, l1, l2, h =>
    if inB 2 (lnY Y (hGr h 1220 l0)) = true then
      if (hAi h (hGr h 1220 l0) (Int32.toNatClampNeg 2)) ≤ l2 then
        some (l1, h)
      else
        (M_endingsOf Y l0 l2 h).bind fun q6 =>
        if q6.1 = 0 then
          M_hopeless_L14 Y l0 F (l1 ||| ((1 : Int32) <<< (l2 &&& 31))) (l2 + 1) q6.2
        else
          M_hopeless_L14 Y l0 F (l1 ||| 0) (l2 + 1) q6.2
    else none
theorem M_hopeless_L14_ok (Y : Ly) (l0 : Nat) (tl0 : isO Y 12 l0) : ∀ (F : Nat) (l1 : Int32) (l2 : Int32) (h : Hp), AW Y 4 K_M_hopeless 14 [(0, .ref l0), (1, .int l1), (2, .int l2)] [] h (M_hopeless_L14 Y l0 F l1 l2 h) rI := by
  intro F
  induction F with
  | zero =>
    intro l1 l2 h
    exact aw_none
  | succ F ih =>
    intro l1 l2 h
    unfold M_hopeless_L14
    refine aw_iload_n (pc := 14) d_M_hopeless_14 rfl 2 rfl ?_
    refine aw_aload_n (pc := 15) d_M_hopeless_15 rfl 0 rfl ?_
    refine gt_1220 (pc := 16) d_M_hopeless_16 w7_47 tl0 (fun tt3 => ?_)
    refine aw_iconst (pc := 19) (x := 2) d_M_hopeless_19 (by decide) ?_
    refine aw_iaload (pc := 20) d_M_hopeless_20 tt3 (fun c4 => ?_)
    refine aw_icmp_ge (pc := 21) (tgt := 50) d_M_hopeless_21 (by decide) (fun c5 => ?_) (fun c5 => ?_)
    · refine aw_iload_n (pc := 50) d_M_hopeless_50 rfl 1 rfl ?_
      exact aw_ireturn (pc := 51) d_M_hopeless_51 rfl rfl
    · refine aw_iload_n (pc := 24) d_M_hopeless_24 rfl 1 rfl ?_
      refine aw_aload_n (pc := 25) d_M_hopeless_25 rfl 0 rfl ?_
      refine aw_iload_n (pc := 26) d_M_hopeless_26 rfl 2 rfl ?_
      refine aw_cVrL (pc := 27) (ci := 12) (T := TX12) (N := 44) (As := [.int l2]) (st := [.int l1]) (ok_M_endingsOf Y l0 l2 h tl0) okV_M_endingsOf rfl (by decide) tl0 w9_138 d_M_hopeless_27 rfl (Nat.le_of_ble_eq_true rfl) rfl (Nat.le_of_ble_eq_true rfl) (fun q6 hq6 hTq6 => ?_)
      refine aw_lconst (pc := 30) (x := 0) d_M_hopeless_30 (by decide) ?_
      refine aw_lcmp_ne (pc := 31) (tgt := 41) d_M_hopeless_31 d_M_hopeless_32 (by decide) (fun c7 => ?_) (fun c7 => ?_)
      · refine aw_iconst (pc := 35) (x := 1) d_M_hopeless_35 (by decide) ?_
        refine aw_iload_n (pc := 36) d_M_hopeless_36 rfl 2 rfl ?_
        refine aw_ishl (pc := 37) d_M_hopeless_37 ?_
        refine aw_goto (pc := 38) (tgt := 42) d_M_hopeless_38 (by decide) ?_
        refine aw_ior (pc := 42) d_M_hopeless_42 ?_
        refine aw_istore_n (pc := 43) (lv' := [(1, .int (l1 ||| ((1 : Int32) <<< (l2 &&& 31)))), (0, .ref l0), (2, .int l2)]) d_M_hopeless_43 rfl (by decide) rfl ?_
        refine aw_iinc (pc := 44) (w := l2 + 1) (lv' := [(2, .int (l2 + 1)), (1, .int (l1 ||| ((1 : Int32) <<< (l2 &&& 31)))), (0, .ref l0)]) d_M_hopeless_44 2 rfl rfl (by decide) rfl ?_
        refine aw_goto (pc := 47) (tgt := 14) d_M_hopeless_47 (by decide) ?_
        exact aw_lv [2, 1, 0] rfl (ih (l1 ||| ((1 : Int32) <<< (l2 &&& 31))) (l2 + 1) q6.2)
      · refine aw_iconst (pc := 41) (x := 0) d_M_hopeless_41 (by decide) ?_
        refine aw_ior (pc := 42) d_M_hopeless_42 ?_
        refine aw_istore_n (pc := 43) (lv' := [(1, .int (l1 ||| 0)), (0, .ref l0), (2, .int l2)]) d_M_hopeless_43 rfl (by decide) rfl ?_
        refine aw_iinc (pc := 44) (w := l2 + 1) (lv' := [(2, .int (l2 + 1)), (1, .int (l1 ||| 0)), (0, .ref l0)]) d_M_hopeless_44 2 rfl rfl (by decide) rfl ?_
        refine aw_goto (pc := 47) (tgt := 14) d_M_hopeless_47 (by decide) ?_
        exact aw_lv [2, 1, 0] rfl (ih (l1 ||| 0) (l2 + 1) q6.2)
def M_hopeless (Y : Ly) (l0 : Nat) (h : Hp) : Option (Int32 × Hp) :=
  letH (hSi h 1201 l0 0) fun h1 =>
  letH (hSi h1 1200 l0 0) fun h2 =>
  M_hopeless_L14 Y l0 FU 0 0 h2
theorem ok_M_hopeless (Y : Ly) (l0 : Nat) (h : Hp) (t0 : isO Y 12 l0) : AM Y 4 K_M_hopeless [.ref l0] h (M_hopeless Y l0 h) rI := by
  refine AM.of rfl (Nat.le_of_ble_eq_true rfl) ?_
  show AW Y 4 K_M_hopeless 0 [(0, .ref l0)] [] h (M_hopeless Y l0 h) rI
  unfold M_hopeless
  refine aw_aload_n (pc := 0) d_M_hopeless_0 rfl 0 rfl ?_
  refine aw_iconst (pc := 1) (x := 0) d_M_hopeless_1 (by decide) ?_
  refine pt_1201 (pc := 2) d_M_hopeless_2 w7_28 t0 ?_
  refine aw_letH (fun h1 => ?_)
  refine aw_aload_n (pc := 5) d_M_hopeless_5 rfl 0 rfl ?_
  refine aw_iconst (pc := 6) (x := 0) d_M_hopeless_6 (by decide) ?_
  refine pt_1200 (pc := 7) d_M_hopeless_7 w7_27 t0 ?_
  refine aw_letH (fun h2 => ?_)
  refine aw_iconst (pc := 10) (x := 0) d_M_hopeless_10 (by decide) ?_
  refine aw_istore_n (pc := 11) (lv' := [(1, .int 0), (0, .ref l0)]) d_M_hopeless_11 rfl (by decide) rfl ?_
  refine aw_iconst (pc := 12) (x := 0) d_M_hopeless_12 (by decide) ?_
  refine aw_istore_n (pc := 13) (lv' := [(2, .int 0), (1, .int 0), (0, .ref l0)]) d_M_hopeless_13 rfl (by decide) rfl ?_
  exact aw_lv [2, 1, 0] rfl (M_hopeless_L14_ok Y l0 t0 FU 0 0 h2)
/-! LastPagesModel.isWord(J)Z -/
theorem d_M_isWord_0 : decode prog_14_method_28_code 0 = .ok (.aload_n 0, 1) := by decide +kernel
theorem d_M_isWord_1 : decode prog_14_method_28_code 1 = .ok (.getfield 133, 3) := by decide +kernel
theorem d_M_isWord_4 : decode prog_14_method_28_code 4 = .ok (.iconst 1, 1) := by decide +kernel
theorem d_M_isWord_5 : decode prog_14_method_28_code 5 = .ok (.if_icmp .ne 16, 3) := by decide +kernel
theorem d_M_isWord_8 : decode prog_14_method_28_code 8 = .ok (.aload_n 0, 1) := by decide +kernel
theorem d_M_isWord_9 : decode prog_14_method_28_code 9 = .ok (.getfield 139, 3) := by decide +kernel
theorem d_M_isWord_12 : decode prog_14_method_28_code 12 = .ok (.lload_n 1, 1) := by decide +kernel
theorem d_M_isWord_13 : decode prog_14_method_28_code 13 = .ok (.lcmp, 1) := by decide +kernel
theorem d_M_isWord_14 : decode prog_14_method_28_code 14 = .ok (.ifCond .ne 7, 3) := by decide +kernel
theorem d_M_isWord_17 : decode prog_14_method_28_code 17 = .ok (.iconst 1, 1) := by decide +kernel
theorem d_M_isWord_18 : decode prog_14_method_28_code 18 = .ok (.goto 4, 3) := by decide +kernel
theorem d_M_isWord_21 : decode prog_14_method_28_code 21 = .ok (.iconst 0, 1) := by decide +kernel
theorem d_M_isWord_22 : decode prog_14_method_28_code 22 = .ok (.ireturn, 1) := by decide +kernel
def M_isWord (Y : Ly) (l0 : Nat) (l1 : Int64) (h : Hp) : Option Bool :=
  if (hGi h 1214 l0) = 1 then
    if (hGl h 1219 l0) = l1 then
      some true
    else
      some false
  else
    some false
theorem ok_M_isWord (Y : Ly) (l0 : Nat) (l1 : Int64) (h : Hp) (t0 : isO Y 12 l0) : AM Y 0 K_M_isWord [.ref l0, .long l1] h (M_isWord Y l0 l1 h) (pZ h) := by
  refine AM.of rfl (Nat.le_of_ble_eq_true rfl) ?_
  show AW Y 0 K_M_isWord 0 [(0, .ref l0), (1, .long l1)] [] h (M_isWord Y l0 l1 h) (pZ h)
  unfold M_isWord
  refine aw_aload_n (pc := 0) d_M_isWord_0 rfl 0 rfl ?_
  refine gt_1214 (pc := 1) d_M_isWord_1 w7_41 t0 ?_
  refine aw_iconst (pc := 4) (x := 1) d_M_isWord_4 (by decide) ?_
  refine aw_icmp_ne (pc := 5) (tgt := 21) d_M_isWord_5 (by decide) (fun c1 => ?_) (fun c1 => ?_)
  · refine aw_aload_n (pc := 8) d_M_isWord_8 rfl 0 rfl ?_
    refine gt_1219 (pc := 9) d_M_isWord_9 w7_46 t0 ?_
    refine aw_lload_n (pc := 12) d_M_isWord_12 rfl 1 rfl ?_
    refine aw_lcmp_ne (pc := 13) (tgt := 21) d_M_isWord_13 d_M_isWord_14 (by decide) (fun c2 => ?_) (fun c2 => ?_)
    · refine aw_iconst (pc := 17) (x := 1) d_M_isWord_17 (by decide) ?_
      refine aw_goto (pc := 18) (tgt := 22) d_M_isWord_18 (by decide) ?_
      exact aw_zreturn (pc := 22) (b := true) d_M_isWord_22 rfl rfl
    · refine aw_iconst (pc := 21) (x := 0) d_M_isWord_21 (by decide) ?_
      exact aw_zreturn (pc := 22) (b := false) d_M_isWord_22 rfl rfl
  · refine aw_iconst (pc := 21) (x := 0) d_M_isWord_21 (by decide) ?_
    exact aw_zreturn (pc := 22) (b := false) d_M_isWord_22 rfl rfl
/-! LastPagesModel.spelled(IIIIII)J -/
theorem d_M_spelled_0 : decode prog_14_method_27_code 0 = .ok (.iload_n 0, 1) := by decide +kernel
theorem d_M_spelled_1 : decode prog_14_method_27_code 1 = .ok (.i2l, 1) := by decide +kernel
theorem d_M_spelled_2 : decode prog_14_method_27_code 2 = .ok (.ldc2_w 144, 3) := by decide +kernel
theorem d_M_spelled_5 : decode prog_14_method_27_code 5 = .ok (.lsub, 1) := by decide +kernel
theorem d_M_spelled_6 : decode prog_14_method_27_code 6 = .ok (.ldc2_w 142, 3) := by decide +kernel
theorem d_M_spelled_9 : decode prog_14_method_27_code 9 = .ok (.lmul, 1) := by decide +kernel
theorem d_M_spelled_10 : decode prog_14_method_27_code 10 = .ok (.iload_n 1, 1) := by decide +kernel
theorem d_M_spelled_11 : decode prog_14_method_27_code 11 = .ok (.i2l, 1) := by decide +kernel
theorem d_M_spelled_12 : decode prog_14_method_27_code 12 = .ok (.ladd, 1) := by decide +kernel
theorem d_M_spelled_13 : decode prog_14_method_27_code 13 = .ok (.ldc2_w 144, 3) := by decide +kernel
theorem d_M_spelled_16 : decode prog_14_method_27_code 16 = .ok (.lsub, 1) := by decide +kernel
theorem d_M_spelled_17 : decode prog_14_method_27_code 17 = .ok (.lstore 6, 2) := by decide +kernel
theorem d_M_spelled_19 : decode prog_14_method_27_code 19 = .ok (.iload_n 2, 1) := by decide +kernel
theorem d_M_spelled_20 : decode prog_14_method_27_code 20 = .ok (.ifCond .le 19, 3) := by decide +kernel
theorem d_M_spelled_23 : decode prog_14_method_27_code 23 = .ok (.lload 6, 2) := by decide +kernel
theorem d_M_spelled_25 : decode prog_14_method_27_code 25 = .ok (.ldc2_w 142, 3) := by decide +kernel
theorem d_M_spelled_28 : decode prog_14_method_27_code 28 = .ok (.lmul, 1) := by decide +kernel
theorem d_M_spelled_29 : decode prog_14_method_27_code 29 = .ok (.iload_n 2, 1) := by decide +kernel
theorem d_M_spelled_30 : decode prog_14_method_27_code 30 = .ok (.i2l, 1) := by decide +kernel
theorem d_M_spelled_31 : decode prog_14_method_27_code 31 = .ok (.ladd, 1) := by decide +kernel
theorem d_M_spelled_32 : decode prog_14_method_27_code 32 = .ok (.ldc2_w 144, 3) := by decide +kernel
theorem d_M_spelled_35 : decode prog_14_method_27_code 35 = .ok (.lsub, 1) := by decide +kernel
theorem d_M_spelled_36 : decode prog_14_method_27_code 36 = .ok (.goto 5, 3) := by decide +kernel
theorem d_M_spelled_39 : decode prog_14_method_27_code 39 = .ok (.lload 6, 2) := by decide +kernel
theorem d_M_spelled_41 : decode prog_14_method_27_code 41 = .ok (.lstore 6, 2) := by decide +kernel
theorem d_M_spelled_43 : decode prog_14_method_27_code 43 = .ok (.iload_n 3, 1) := by decide +kernel
theorem d_M_spelled_44 : decode prog_14_method_27_code 44 = .ok (.ifCond .le 19, 3) := by decide +kernel
theorem d_M_spelled_47 : decode prog_14_method_27_code 47 = .ok (.lload 6, 2) := by decide +kernel
theorem d_M_spelled_49 : decode prog_14_method_27_code 49 = .ok (.ldc2_w 142, 3) := by decide +kernel
theorem d_M_spelled_52 : decode prog_14_method_27_code 52 = .ok (.lmul, 1) := by decide +kernel
theorem d_M_spelled_53 : decode prog_14_method_27_code 53 = .ok (.iload_n 3, 1) := by decide +kernel
theorem d_M_spelled_54 : decode prog_14_method_27_code 54 = .ok (.i2l, 1) := by decide +kernel
theorem d_M_spelled_55 : decode prog_14_method_27_code 55 = .ok (.ladd, 1) := by decide +kernel
theorem d_M_spelled_56 : decode prog_14_method_27_code 56 = .ok (.ldc2_w 144, 3) := by decide +kernel
theorem d_M_spelled_59 : decode prog_14_method_27_code 59 = .ok (.lsub, 1) := by decide +kernel
theorem d_M_spelled_60 : decode prog_14_method_27_code 60 = .ok (.goto 5, 3) := by decide +kernel
theorem d_M_spelled_63 : decode prog_14_method_27_code 63 = .ok (.lload 6, 2) := by decide +kernel
theorem d_M_spelled_65 : decode prog_14_method_27_code 65 = .ok (.lstore 6, 2) := by decide +kernel
theorem d_M_spelled_67 : decode prog_14_method_27_code 67 = .ok (.iload 4, 2) := by decide +kernel
theorem d_M_spelled_69 : decode prog_14_method_27_code 69 = .ok (.ifCond .le 20, 3) := by decide +kernel
theorem d_M_spelled_72 : decode prog_14_method_27_code 72 = .ok (.lload 6, 2) := by decide +kernel
theorem d_M_spelled_74 : decode prog_14_method_27_code 74 = .ok (.ldc2_w 142, 3) := by decide +kernel
theorem d_M_spelled_77 : decode prog_14_method_27_code 77 = .ok (.lmul, 1) := by decide +kernel
theorem d_M_spelled_78 : decode prog_14_method_27_code 78 = .ok (.iload 4, 2) := by decide +kernel
theorem d_M_spelled_80 : decode prog_14_method_27_code 80 = .ok (.i2l, 1) := by decide +kernel
theorem d_M_spelled_81 : decode prog_14_method_27_code 81 = .ok (.ladd, 1) := by decide +kernel
theorem d_M_spelled_82 : decode prog_14_method_27_code 82 = .ok (.ldc2_w 144, 3) := by decide +kernel
theorem d_M_spelled_85 : decode prog_14_method_27_code 85 = .ok (.lsub, 1) := by decide +kernel
theorem d_M_spelled_86 : decode prog_14_method_27_code 86 = .ok (.goto 5, 3) := by decide +kernel
theorem d_M_spelled_89 : decode prog_14_method_27_code 89 = .ok (.lload 6, 2) := by decide +kernel
theorem d_M_spelled_91 : decode prog_14_method_27_code 91 = .ok (.lstore 6, 2) := by decide +kernel
theorem d_M_spelled_93 : decode prog_14_method_27_code 93 = .ok (.iload 5, 2) := by decide +kernel
theorem d_M_spelled_95 : decode prog_14_method_27_code 95 = .ok (.ifCond .le 20, 3) := by decide +kernel
theorem d_M_spelled_98 : decode prog_14_method_27_code 98 = .ok (.lload 6, 2) := by decide +kernel
theorem d_M_spelled_100 : decode prog_14_method_27_code 100 = .ok (.ldc2_w 142, 3) := by decide +kernel
theorem d_M_spelled_103 : decode prog_14_method_27_code 103 = .ok (.lmul, 1) := by decide +kernel
theorem d_M_spelled_104 : decode prog_14_method_27_code 104 = .ok (.iload 5, 2) := by decide +kernel
theorem d_M_spelled_106 : decode prog_14_method_27_code 106 = .ok (.i2l, 1) := by decide +kernel
theorem d_M_spelled_107 : decode prog_14_method_27_code 107 = .ok (.ladd, 1) := by decide +kernel
theorem d_M_spelled_108 : decode prog_14_method_27_code 108 = .ok (.ldc2_w 144, 3) := by decide +kernel
theorem d_M_spelled_111 : decode prog_14_method_27_code 111 = .ok (.lsub, 1) := by decide +kernel
theorem d_M_spelled_112 : decode prog_14_method_27_code 112 = .ok (.goto 5, 3) := by decide +kernel
theorem d_M_spelled_115 : decode prog_14_method_27_code 115 = .ok (.lload 6, 2) := by decide +kernel
theorem d_M_spelled_117 : decode prog_14_method_27_code 117 = .ok (.lreturn, 1) := by decide +kernel
def M_spelled_J91 (Y : Ly) (l5 : Int32) (s0 : Int64) (h : Hp) : Option Int64 :=
  if l5 ≤ 0 then
    some s0
  else
    some (((s0 * 32) + (Int32.toInt64 l5)) - 96)
theorem M_spelled_J91_ok (Y : Ly) (l5 : Int32) (s0 : Int64) (h : Hp) : AW Y 0 K_M_spelled 91 [(5, .int l5)] [.long s0] h (M_spelled_J91 Y l5 s0 h) (pL h) := by
  unfold M_spelled_J91
  refine aw_lstore (pc := 91) (lv' := [(6, .long s0), (5, .int l5)]) d_M_spelled_91 (by decide) rfl ?_
  refine aw_iload (pc := 93) d_M_spelled_93 1 rfl ?_
  refine aw_if_le (pc := 95) (tgt := 115) d_M_spelled_95 (by decide) (fun c4 => ?_) (fun c4 => ?_)
  · refine aw_lload (pc := 115) d_M_spelled_115 0 rfl ?_
    exact aw_lreturn (pc := 117) d_M_spelled_117 rfl rfl
  · refine aw_lload (pc := 98) d_M_spelled_98 0 rfl ?_
    refine aw_ldc2 (pc := 100) d_M_spelled_100 w7_235 ?_
    refine aw_lmul (pc := 103) d_M_spelled_103 ?_
    refine aw_iload (pc := 104) d_M_spelled_104 1 rfl ?_
    refine aw_i2l (pc := 106) d_M_spelled_106 ?_
    refine aw_ladd (pc := 107) d_M_spelled_107 ?_
    refine aw_ldc2 (pc := 108) d_M_spelled_108 w7_236 ?_
    refine aw_lsub (pc := 111) d_M_spelled_111 ?_
    refine aw_goto (pc := 112) (tgt := 117) d_M_spelled_112 (by decide) ?_
    exact aw_lreturn (pc := 117) d_M_spelled_117 rfl rfl
def M_spelled_J65 (Y : Ly) (l4 : Int32) (l5 : Int32) (s0 : Int64) (h : Hp) : Option Int64 :=
  if l4 ≤ 0 then
    M_spelled_J91 Y l5 s0 h
  else
    M_spelled_J91 Y l5 (((s0 * 32) + (Int32.toInt64 l4)) - 96) h
theorem M_spelled_J65_ok (Y : Ly) (l4 : Int32) (l5 : Int32) (s0 : Int64) (h : Hp) : AW Y 0 K_M_spelled 65 [(4, .int l4), (5, .int l5)] [.long s0] h (M_spelled_J65 Y l4 l5 s0 h) (pL h) := by
  unfold M_spelled_J65
  refine aw_lstore (pc := 65) (lv' := [(6, .long s0), (4, .int l4), (5, .int l5)]) d_M_spelled_65 (by decide) rfl ?_
  refine aw_iload (pc := 67) d_M_spelled_67 1 rfl ?_
  refine aw_if_le (pc := 69) (tgt := 89) d_M_spelled_69 (by decide) (fun c3 => ?_) (fun c3 => ?_)
  · refine aw_lload (pc := 89) d_M_spelled_89 0 rfl ?_
    exact aw_lv [2] rfl (M_spelled_J91_ok Y l5 s0 h)
  · refine aw_lload (pc := 72) d_M_spelled_72 0 rfl ?_
    refine aw_ldc2 (pc := 74) d_M_spelled_74 w7_235 ?_
    refine aw_lmul (pc := 77) d_M_spelled_77 ?_
    refine aw_iload (pc := 78) d_M_spelled_78 1 rfl ?_
    refine aw_i2l (pc := 80) d_M_spelled_80 ?_
    refine aw_ladd (pc := 81) d_M_spelled_81 ?_
    refine aw_ldc2 (pc := 82) d_M_spelled_82 w7_236 ?_
    refine aw_lsub (pc := 85) d_M_spelled_85 ?_
    refine aw_goto (pc := 86) (tgt := 91) d_M_spelled_86 (by decide) ?_
    exact aw_lv [2] rfl (M_spelled_J91_ok Y l5 (((s0 * 32) + (Int32.toInt64 l4)) - 96) h)
def M_spelled_J41 (Y : Ly) (l3 : Int32) (l4 : Int32) (l5 : Int32) (s0 : Int64) (h : Hp) : Option Int64 :=
  if l3 ≤ 0 then
    M_spelled_J65 Y l4 l5 s0 h
  else
    M_spelled_J65 Y l4 l5 (((s0 * 32) + (Int32.toInt64 l3)) - 96) h
theorem M_spelled_J41_ok (Y : Ly) (l3 : Int32) (l4 : Int32) (l5 : Int32) (s0 : Int64) (h : Hp) : AW Y 0 K_M_spelled 41 [(3, .int l3), (4, .int l4), (5, .int l5)] [.long s0] h (M_spelled_J41 Y l3 l4 l5 s0 h) (pL h) := by
  unfold M_spelled_J41
  refine aw_lstore (pc := 41) (lv' := [(6, .long s0), (3, .int l3), (4, .int l4), (5, .int l5)]) d_M_spelled_41 (by decide) rfl ?_
  refine aw_iload_n (pc := 43) d_M_spelled_43 rfl 1 rfl ?_
  refine aw_if_le (pc := 44) (tgt := 63) d_M_spelled_44 (by decide) (fun c2 => ?_) (fun c2 => ?_)
  · refine aw_lload (pc := 63) d_M_spelled_63 0 rfl ?_
    exact aw_lv [2, 3] rfl (M_spelled_J65_ok Y l4 l5 s0 h)
  · refine aw_lload (pc := 47) d_M_spelled_47 0 rfl ?_
    refine aw_ldc2 (pc := 49) d_M_spelled_49 w7_235 ?_
    refine aw_lmul (pc := 52) d_M_spelled_52 ?_
    refine aw_iload_n (pc := 53) d_M_spelled_53 rfl 1 rfl ?_
    refine aw_i2l (pc := 54) d_M_spelled_54 ?_
    refine aw_ladd (pc := 55) d_M_spelled_55 ?_
    refine aw_ldc2 (pc := 56) d_M_spelled_56 w7_236 ?_
    refine aw_lsub (pc := 59) d_M_spelled_59 ?_
    refine aw_goto (pc := 60) (tgt := 65) d_M_spelled_60 (by decide) ?_
    exact aw_lv [2, 3] rfl (M_spelled_J65_ok Y l4 l5 (((s0 * 32) + (Int32.toInt64 l3)) - 96) h)
def M_spelled (Y : Ly) (l0 : Int32) (l1 : Int32) (l2 : Int32) (l3 : Int32) (l4 : Int32) (l5 : Int32) (h : Hp) : Option Int64 :=
  if l2 ≤ 0 then
    M_spelled_J41 Y l3 l4 l5 (((((Int32.toInt64 l0) - 96) * 32) + (Int32.toInt64 l1)) - 96) h
  else
    M_spelled_J41 Y l3 l4 l5 ((((((((Int32.toInt64 l0) - 96) * 32) + (Int32.toInt64 l1)) - 96) * 32) + (Int32.toInt64 l2)) - 96) h
theorem ok_M_spelled (Y : Ly) (l0 : Int32) (l1 : Int32) (l2 : Int32) (l3 : Int32) (l4 : Int32) (l5 : Int32) (h : Hp) : AM Y 0 K_M_spelled [.int l0, .int l1, .int l2, .int l3, .int l4, .int l5] h (M_spelled Y l0 l1 l2 l3 l4 l5 h) (pL h) := by
  refine AM.of rfl (Nat.le_of_ble_eq_true rfl) ?_
  show AW Y 0 K_M_spelled 0 [(0, .int l0), (1, .int l1), (2, .int l2), (3, .int l3), (4, .int l4), (5, .int l5)] [] h (M_spelled Y l0 l1 l2 l3 l4 l5 h) (pL h)
  unfold M_spelled
  refine aw_iload_n (pc := 0) d_M_spelled_0 rfl 0 rfl ?_
  refine aw_i2l (pc := 1) d_M_spelled_1 ?_
  refine aw_ldc2 (pc := 2) d_M_spelled_2 w7_236 ?_
  refine aw_lsub (pc := 5) d_M_spelled_5 ?_
  refine aw_ldc2 (pc := 6) d_M_spelled_6 w7_235 ?_
  refine aw_lmul (pc := 9) d_M_spelled_9 ?_
  refine aw_iload_n (pc := 10) d_M_spelled_10 rfl 1 rfl ?_
  refine aw_i2l (pc := 11) d_M_spelled_11 ?_
  refine aw_ladd (pc := 12) d_M_spelled_12 ?_
  refine aw_ldc2 (pc := 13) d_M_spelled_13 w7_236 ?_
  refine aw_lsub (pc := 16) d_M_spelled_16 ?_
  refine aw_lstore (pc := 17) (lv' := [(6, .long (((((Int32.toInt64 l0) - 96) * 32) + (Int32.toInt64 l1)) - 96)), (0, .int l0), (1, .int l1), (2, .int l2), (3, .int l3), (4, .int l4), (5, .int l5)]) d_M_spelled_17 (by decide) rfl ?_
  refine aw_iload_n (pc := 19) d_M_spelled_19 rfl 3 rfl ?_
  refine aw_if_le (pc := 20) (tgt := 39) d_M_spelled_20 (by decide) (fun c1 => ?_) (fun c1 => ?_)
  · refine aw_lload (pc := 39) d_M_spelled_39 0 rfl ?_
    exact aw_lv [4, 5, 6] rfl (M_spelled_J41_ok Y l3 l4 l5 (((((Int32.toInt64 l0) - 96) * 32) + (Int32.toInt64 l1)) - 96) h)
  · refine aw_lload (pc := 23) d_M_spelled_23 0 rfl ?_
    refine aw_ldc2 (pc := 25) d_M_spelled_25 w7_235 ?_
    refine aw_lmul (pc := 28) d_M_spelled_28 ?_
    refine aw_iload_n (pc := 29) d_M_spelled_29 rfl 3 rfl ?_
    refine aw_i2l (pc := 30) d_M_spelled_30 ?_
    refine aw_ladd (pc := 31) d_M_spelled_31 ?_
    refine aw_ldc2 (pc := 32) d_M_spelled_32 w7_236 ?_
    refine aw_lsub (pc := 35) d_M_spelled_35 ?_
    refine aw_goto (pc := 36) (tgt := 41) d_M_spelled_36 (by decide) ?_
    exact aw_lv [4, 5, 6] rfl (M_spelled_J41_ok Y l3 l4 l5 ((((((((Int32.toInt64 l0) - 96) * 32) + (Int32.toInt64 l1)) - 96) * 32) + (Int32.toInt64 l2)) - 96) h)
/-! LastPagesModel.isAt()Z -/
theorem d_M_isAt_0 : decode prog_14_method_40_code 0 = .ok (.aload_n 0, 1) := by decide +kernel
theorem d_M_isAt_1 : decode prog_14_method_40_code 1 = .ok (.bipush 97, 2) := by decide +kernel
theorem d_M_isAt_3 : decode prog_14_method_40_code 3 = .ok (.bipush 116, 2) := by decide +kernel
theorem d_M_isAt_5 : decode prog_14_method_40_code 5 = .ok (.iconst 0, 1) := by decide +kernel
theorem d_M_isAt_6 : decode prog_14_method_40_code 6 = .ok (.iconst 0, 1) := by decide +kernel
theorem d_M_isAt_7 : decode prog_14_method_40_code 7 = .ok (.iconst 0, 1) := by decide +kernel
theorem d_M_isAt_8 : decode prog_14_method_40_code 8 = .ok (.iconst 0, 1) := by decide +kernel
theorem d_M_isAt_9 : decode prog_14_method_40_code 9 = .ok (.invokestatic 158, 3) := by decide +kernel
theorem d_M_isAt_12 : decode prog_14_method_40_code 12 = .ok (.invokevirtual 162, 3) := by decide +kernel
theorem d_M_isAt_15 : decode prog_14_method_40_code 15 = .ok (.ireturn, 1) := by decide +kernel
def M_isAt (Y : Ly) (l0 : Nat) (h : Hp) : Option Bool :=
  (M_spelled Y 97 116 0 0 0 0 h).bind fun q1 =>
  (M_isWord Y l0 q1 h).bind fun q2 =>
  some q2
theorem ok_M_isAt (Y : Ly) (l0 : Nat) (h : Hp) (t0 : isO Y 12 l0) : AM Y 1 K_M_isAt [.ref l0] h (M_isAt Y l0 h) (pZ h) := by
  refine AM.of rfl (Nat.le_of_ble_eq_true rfl) ?_
  show AW Y 1 K_M_isAt 0 [(0, .ref l0)] [] h (M_isAt Y l0 h) (pZ h)
  unfold M_isAt
  refine aw_aload_n (pc := 0) d_M_isAt_0 rfl 0 rfl ?_
  refine aw_bipush (pc := 1) (x := 97) d_M_isAt_1 (by decide) ?_
  refine aw_bipush (pc := 3) (x := 116) d_M_isAt_3 (by decide) ?_
  refine aw_iconst (pc := 5) (x := 0) d_M_isAt_5 (by decide) ?_
  refine aw_iconst (pc := 6) (x := 0) d_M_isAt_6 (by decide) ?_
  refine aw_iconst (pc := 7) (x := 0) d_M_isAt_7 (by decide) ?_
  refine aw_iconst (pc := 8) (x := 0) d_M_isAt_8 (by decide) ?_
  refine aw_cSpL (pc := 9) (As := [.int 97, .int 116, .int 0, .int 0, .int 0, .int 0]) (st := [.ref l0]) (ok_M_spelled Y 97 116 0 0 0 0 h) okS_M_spelled w8_12 d_M_isAt_9 rfl (Nat.le_of_ble_eq_true rfl) rfl (Nat.le_of_ble_eq_true rfl) (fun q1 hq1 hTq1 => ?_)
  refine aw_cVpZ (pc := 12) (ci := 12) (T := TX12) (N := 44) (As := [.long q1]) (st := []) (ok_M_isWord Y l0 q1 h t0) okV_M_isWord rfl (by decide) t0 w8_15 d_M_isAt_12 rfl (Nat.le_of_ble_eq_true rfl) rfl (Nat.le_of_ble_eq_true rfl) (fun q2 hq2 hTq2 => ?_)
  exact aw_zreturn (pc := 15) (b := q2) d_M_isAt_15 rfl rfl
/-! LastPagesModel.isBook()Z -/
theorem d_M_isBook_0 : decode prog_14_method_35_code 0 = .ok (.aload_n 0, 1) := by decide +kernel
theorem d_M_isBook_1 : decode prog_14_method_35_code 1 = .ok (.bipush 98, 2) := by decide +kernel
theorem d_M_isBook_3 : decode prog_14_method_35_code 3 = .ok (.bipush 111, 2) := by decide +kernel
theorem d_M_isBook_5 : decode prog_14_method_35_code 5 = .ok (.bipush 111, 2) := by decide +kernel
theorem d_M_isBook_7 : decode prog_14_method_35_code 7 = .ok (.bipush 107, 2) := by decide +kernel
theorem d_M_isBook_9 : decode prog_14_method_35_code 9 = .ok (.iconst 0, 1) := by decide +kernel
theorem d_M_isBook_10 : decode prog_14_method_35_code 10 = .ok (.iconst 0, 1) := by decide +kernel
theorem d_M_isBook_11 : decode prog_14_method_35_code 11 = .ok (.invokestatic 158, 3) := by decide +kernel
theorem d_M_isBook_14 : decode prog_14_method_35_code 14 = .ok (.invokevirtual 162, 3) := by decide +kernel
theorem d_M_isBook_17 : decode prog_14_method_35_code 17 = .ok (.ireturn, 1) := by decide +kernel
def M_isBook (Y : Ly) (l0 : Nat) (h : Hp) : Option Bool :=
  (M_spelled Y 98 111 111 107 0 0 h).bind fun q1 =>
  (M_isWord Y l0 q1 h).bind fun q2 =>
  some q2
theorem ok_M_isBook (Y : Ly) (l0 : Nat) (h : Hp) (t0 : isO Y 12 l0) : AM Y 1 K_M_isBook [.ref l0] h (M_isBook Y l0 h) (pZ h) := by
  refine AM.of rfl (Nat.le_of_ble_eq_true rfl) ?_
  show AW Y 1 K_M_isBook 0 [(0, .ref l0)] [] h (M_isBook Y l0 h) (pZ h)
  unfold M_isBook
  refine aw_aload_n (pc := 0) d_M_isBook_0 rfl 0 rfl ?_
  refine aw_bipush (pc := 1) (x := 98) d_M_isBook_1 (by decide) ?_
  refine aw_bipush (pc := 3) (x := 111) d_M_isBook_3 (by decide) ?_
  refine aw_bipush (pc := 5) (x := 111) d_M_isBook_5 (by decide) ?_
  refine aw_bipush (pc := 7) (x := 107) d_M_isBook_7 (by decide) ?_
  refine aw_iconst (pc := 9) (x := 0) d_M_isBook_9 (by decide) ?_
  refine aw_iconst (pc := 10) (x := 0) d_M_isBook_10 (by decide) ?_
  refine aw_cSpL (pc := 11) (As := [.int 98, .int 111, .int 111, .int 107, .int 0, .int 0]) (st := [.ref l0]) (ok_M_spelled Y 98 111 111 107 0 0 h) okS_M_spelled w8_12 d_M_isBook_11 rfl (Nat.le_of_ble_eq_true rfl) rfl (Nat.le_of_ble_eq_true rfl) (fun q1 hq1 hTq1 => ?_)
  refine aw_cVpZ (pc := 14) (ci := 12) (T := TX12) (N := 44) (As := [.long q1]) (st := []) (ok_M_isWord Y l0 q1 h t0) okV_M_isWord rfl (by decide) t0 w8_15 d_M_isBook_14 rfl (Nat.le_of_ble_eq_true rfl) rfl (Nat.le_of_ble_eq_true rfl) (fun q2 hq2 hTq2 => ?_)
  exact aw_zreturn (pc := 17) (b := q2) d_M_isBook_17 rfl rfl
/-! LastPagesModel.isBy()Z -/
theorem d_M_isBy_0 : decode prog_14_method_42_code 0 = .ok (.aload_n 0, 1) := by decide +kernel
theorem d_M_isBy_1 : decode prog_14_method_42_code 1 = .ok (.bipush 98, 2) := by decide +kernel
theorem d_M_isBy_3 : decode prog_14_method_42_code 3 = .ok (.bipush 121, 2) := by decide +kernel
theorem d_M_isBy_5 : decode prog_14_method_42_code 5 = .ok (.iconst 0, 1) := by decide +kernel
theorem d_M_isBy_6 : decode prog_14_method_42_code 6 = .ok (.iconst 0, 1) := by decide +kernel
theorem d_M_isBy_7 : decode prog_14_method_42_code 7 = .ok (.iconst 0, 1) := by decide +kernel
theorem d_M_isBy_8 : decode prog_14_method_42_code 8 = .ok (.iconst 0, 1) := by decide +kernel
theorem d_M_isBy_9 : decode prog_14_method_42_code 9 = .ok (.invokestatic 158, 3) := by decide +kernel
theorem d_M_isBy_12 : decode prog_14_method_42_code 12 = .ok (.invokevirtual 162, 3) := by decide +kernel
theorem d_M_isBy_15 : decode prog_14_method_42_code 15 = .ok (.ireturn, 1) := by decide +kernel
def M_isBy (Y : Ly) (l0 : Nat) (h : Hp) : Option Bool :=
  (M_spelled Y 98 121 0 0 0 0 h).bind fun q1 =>
  (M_isWord Y l0 q1 h).bind fun q2 =>
  some q2
theorem ok_M_isBy (Y : Ly) (l0 : Nat) (h : Hp) (t0 : isO Y 12 l0) : AM Y 1 K_M_isBy [.ref l0] h (M_isBy Y l0 h) (pZ h) := by
  refine AM.of rfl (Nat.le_of_ble_eq_true rfl) ?_
  show AW Y 1 K_M_isBy 0 [(0, .ref l0)] [] h (M_isBy Y l0 h) (pZ h)
  unfold M_isBy
  refine aw_aload_n (pc := 0) d_M_isBy_0 rfl 0 rfl ?_
  refine aw_bipush (pc := 1) (x := 98) d_M_isBy_1 (by decide) ?_
  refine aw_bipush (pc := 3) (x := 121) d_M_isBy_3 (by decide) ?_
  refine aw_iconst (pc := 5) (x := 0) d_M_isBy_5 (by decide) ?_
  refine aw_iconst (pc := 6) (x := 0) d_M_isBy_6 (by decide) ?_
  refine aw_iconst (pc := 7) (x := 0) d_M_isBy_7 (by decide) ?_
  refine aw_iconst (pc := 8) (x := 0) d_M_isBy_8 (by decide) ?_
  refine aw_cSpL (pc := 9) (As := [.int 98, .int 121, .int 0, .int 0, .int 0, .int 0]) (st := [.ref l0]) (ok_M_spelled Y 98 121 0 0 0 0 h) okS_M_spelled w8_12 d_M_isBy_9 rfl (Nat.le_of_ble_eq_true rfl) rfl (Nat.le_of_ble_eq_true rfl) (fun q1 hq1 hTq1 => ?_)
  refine aw_cVpZ (pc := 12) (ci := 12) (T := TX12) (N := 44) (As := [.long q1]) (st := []) (ok_M_isWord Y l0 q1 h t0) okV_M_isWord rfl (by decide) t0 w8_15 d_M_isBy_12 rfl (Nat.le_of_ble_eq_true rfl) rfl (Nat.le_of_ble_eq_true rfl) (fun q2 hq2 hTq2 => ?_)
  exact aw_zreturn (pc := 15) (b := q2) d_M_isBy_15 rfl rfl
/-! LastPagesModel.isCosts()Z -/
theorem d_M_isCosts_0 : decode prog_14_method_45_code 0 = .ok (.aload_n 0, 1) := by decide +kernel
theorem d_M_isCosts_1 : decode prog_14_method_45_code 1 = .ok (.bipush 99, 2) := by decide +kernel
theorem d_M_isCosts_3 : decode prog_14_method_45_code 3 = .ok (.bipush 111, 2) := by decide +kernel
theorem d_M_isCosts_5 : decode prog_14_method_45_code 5 = .ok (.bipush 115, 2) := by decide +kernel
theorem d_M_isCosts_7 : decode prog_14_method_45_code 7 = .ok (.bipush 116, 2) := by decide +kernel
theorem d_M_isCosts_9 : decode prog_14_method_45_code 9 = .ok (.bipush 115, 2) := by decide +kernel
theorem d_M_isCosts_11 : decode prog_14_method_45_code 11 = .ok (.iconst 0, 1) := by decide +kernel
theorem d_M_isCosts_12 : decode prog_14_method_45_code 12 = .ok (.invokestatic 158, 3) := by decide +kernel
theorem d_M_isCosts_15 : decode prog_14_method_45_code 15 = .ok (.invokevirtual 162, 3) := by decide +kernel
theorem d_M_isCosts_18 : decode prog_14_method_45_code 18 = .ok (.ireturn, 1) := by decide +kernel
def M_isCosts (Y : Ly) (l0 : Nat) (h : Hp) : Option Bool :=
  (M_spelled Y 99 111 115 116 115 0 h).bind fun q1 =>
  (M_isWord Y l0 q1 h).bind fun q2 =>
  some q2
theorem ok_M_isCosts (Y : Ly) (l0 : Nat) (h : Hp) (t0 : isO Y 12 l0) : AM Y 1 K_M_isCosts [.ref l0] h (M_isCosts Y l0 h) (pZ h) := by
  refine AM.of rfl (Nat.le_of_ble_eq_true rfl) ?_
  show AW Y 1 K_M_isCosts 0 [(0, .ref l0)] [] h (M_isCosts Y l0 h) (pZ h)
  unfold M_isCosts
  refine aw_aload_n (pc := 0) d_M_isCosts_0 rfl 0 rfl ?_
  refine aw_bipush (pc := 1) (x := 99) d_M_isCosts_1 (by decide) ?_
  refine aw_bipush (pc := 3) (x := 111) d_M_isCosts_3 (by decide) ?_
  refine aw_bipush (pc := 5) (x := 115) d_M_isCosts_5 (by decide) ?_
  refine aw_bipush (pc := 7) (x := 116) d_M_isCosts_7 (by decide) ?_
  refine aw_bipush (pc := 9) (x := 115) d_M_isCosts_9 (by decide) ?_
  refine aw_iconst (pc := 11) (x := 0) d_M_isCosts_11 (by decide) ?_
  refine aw_cSpL (pc := 12) (As := [.int 99, .int 111, .int 115, .int 116, .int 115, .int 0]) (st := [.ref l0]) (ok_M_spelled Y 99 111 115 116 115 0 h) okS_M_spelled w8_12 d_M_isCosts_12 rfl (Nat.le_of_ble_eq_true rfl) rfl (Nat.le_of_ble_eq_true rfl) (fun q1 hq1 hTq1 => ?_)
  refine aw_cVpZ (pc := 15) (ci := 12) (T := TX12) (N := 44) (As := [.long q1]) (st := []) (ok_M_isWord Y l0 q1 h t0) okV_M_isWord rfl (by decide) t0 w8_15 d_M_isCosts_15 rfl (Nat.le_of_ble_eq_true rfl) rfl (Nat.le_of_ble_eq_true rfl) (fun q2 hq2 hTq2 => ?_)
  exact aw_zreturn (pc := 18) (b := q2) d_M_isCosts_18 rfl rfl
/-! LastPagesModel.isEnd()Z -/
theorem d_M_isEnd_0 : decode prog_14_method_52_code 0 = .ok (.aload_n 0, 1) := by decide +kernel
theorem d_M_isEnd_1 : decode prog_14_method_52_code 1 = .ok (.bipush 101, 2) := by decide +kernel
theorem d_M_isEnd_3 : decode prog_14_method_52_code 3 = .ok (.bipush 110, 2) := by decide +kernel
theorem d_M_isEnd_5 : decode prog_14_method_52_code 5 = .ok (.bipush 100, 2) := by decide +kernel
theorem d_M_isEnd_7 : decode prog_14_method_52_code 7 = .ok (.iconst 0, 1) := by decide +kernel
theorem d_M_isEnd_8 : decode prog_14_method_52_code 8 = .ok (.iconst 0, 1) := by decide +kernel
theorem d_M_isEnd_9 : decode prog_14_method_52_code 9 = .ok (.iconst 0, 1) := by decide +kernel
theorem d_M_isEnd_10 : decode prog_14_method_52_code 10 = .ok (.invokestatic 158, 3) := by decide +kernel
theorem d_M_isEnd_13 : decode prog_14_method_52_code 13 = .ok (.invokevirtual 162, 3) := by decide +kernel
theorem d_M_isEnd_16 : decode prog_14_method_52_code 16 = .ok (.ireturn, 1) := by decide +kernel
def M_isEnd (Y : Ly) (l0 : Nat) (h : Hp) : Option Bool :=
  (M_spelled Y 101 110 100 0 0 0 h).bind fun q1 =>
  (M_isWord Y l0 q1 h).bind fun q2 =>
  some q2
theorem ok_M_isEnd (Y : Ly) (l0 : Nat) (h : Hp) (t0 : isO Y 12 l0) : AM Y 1 K_M_isEnd [.ref l0] h (M_isEnd Y l0 h) (pZ h) := by
  refine AM.of rfl (Nat.le_of_ble_eq_true rfl) ?_
  show AW Y 1 K_M_isEnd 0 [(0, .ref l0)] [] h (M_isEnd Y l0 h) (pZ h)
  unfold M_isEnd
  refine aw_aload_n (pc := 0) d_M_isEnd_0 rfl 0 rfl ?_
  refine aw_bipush (pc := 1) (x := 101) d_M_isEnd_1 (by decide) ?_
  refine aw_bipush (pc := 3) (x := 110) d_M_isEnd_3 (by decide) ?_
  refine aw_bipush (pc := 5) (x := 100) d_M_isEnd_5 (by decide) ?_
  refine aw_iconst (pc := 7) (x := 0) d_M_isEnd_7 (by decide) ?_
  refine aw_iconst (pc := 8) (x := 0) d_M_isEnd_8 (by decide) ?_
  refine aw_iconst (pc := 9) (x := 0) d_M_isEnd_9 (by decide) ?_
  refine aw_cSpL (pc := 10) (As := [.int 101, .int 110, .int 100, .int 0, .int 0, .int 0]) (st := [.ref l0]) (ok_M_spelled Y 101 110 100 0 0 0 h) okS_M_spelled w8_12 d_M_isEnd_10 rfl (Nat.le_of_ble_eq_true rfl) rfl (Nat.le_of_ble_eq_true rfl) (fun q1 hq1 hTq1 => ?_)
  refine aw_cVpZ (pc := 13) (ci := 12) (T := TX12) (N := 44) (As := [.long q1]) (st := []) (ok_M_isWord Y l0 q1 h t0) okV_M_isWord rfl (by decide) t0 w8_15 d_M_isEnd_13 rfl (Nat.le_of_ble_eq_true rfl) rfl (Nat.le_of_ble_eq_true rfl) (fun q2 hq2 hTq2 => ?_)
  exact aw_zreturn (pc := 16) (b := q2) d_M_isEnd_16 rfl rfl
/-! LastPagesModel.numberOf(II)J -/
theorem d_M_numberOf_0 : decode prog_14_method_17_code 0 = .ok (.aload_n 0, 1) := by decide +kernel
theorem d_M_numberOf_1 : decode prog_14_method_17_code 1 = .ok (.getfield 20, 3) := by decide +kernel
theorem d_M_numberOf_4 : decode prog_14_method_17_code 4 = .ok (.bipush 60, 2) := by decide +kernel
theorem d_M_numberOf_6 : decode prog_14_method_17_code 6 = .ok (.iload_n 1, 1) := by decide +kernel
theorem d_M_numberOf_7 : decode prog_14_method_17_code 7 = .ok (.imul, 1) := by decide +kernel
theorem d_M_numberOf_8 : decode prog_14_method_17_code 8 = .ok (.iload_n 2, 1) := by decide +kernel
theorem d_M_numberOf_9 : decode prog_14_method_17_code 9 = .ok (.iadd, 1) := by decide +kernel
theorem d_M_numberOf_10 : decode prog_14_method_17_code 10 = .ok (.laload, 1) := by decide +kernel
theorem d_M_numberOf_11 : decode prog_14_method_17_code 11 = .ok (.lreturn, 1) := by decide +kernel
def M_numberOf (Y : Ly) (l0 : Nat) (l1 : Int32) (l2 : Int32) (h : Hp) : Option Int64 :=
  if inB ((60 * l1) + l2) (lnY Y (hGr h 1206 l0)) = true then
    some (hAl h (hGr h 1206 l0) (Int32.toNatClampNeg ((60 * l1) + l2)))
  else none
theorem ok_M_numberOf (Y : Ly) (l0 : Nat) (l1 : Int32) (l2 : Int32) (h : Hp) (t0 : isO Y 12 l0) : AM Y 0 K_M_numberOf [.ref l0, .int l1, .int l2] h (M_numberOf Y l0 l1 l2 h) (pL h) := by
  refine AM.of rfl (Nat.le_of_ble_eq_true rfl) ?_
  show AW Y 0 K_M_numberOf 0 [(0, .ref l0), (1, .int l1), (2, .int l2)] [] h (M_numberOf Y l0 l1 l2 h) (pL h)
  unfold M_numberOf
  refine aw_aload_n (pc := 0) d_M_numberOf_0 rfl 0 rfl ?_
  refine gt_1206 (pc := 1) d_M_numberOf_1 w7_33 t0 (fun tt1 => ?_)
  refine aw_bipush (pc := 4) (x := 60) d_M_numberOf_4 (by decide) ?_
  refine aw_iload_n (pc := 6) d_M_numberOf_6 rfl 1 rfl ?_
  refine aw_imul (pc := 7) d_M_numberOf_7 ?_
  refine aw_iload_n (pc := 8) d_M_numberOf_8 rfl 2 rfl ?_
  refine aw_iadd (pc := 9) d_M_numberOf_9 ?_
  refine aw_laload (pc := 10) d_M_numberOf_10 tt1 (fun c2 => ?_)
  exact aw_lreturn (pc := 11) d_M_numberOf_11 rfl rfl
/-! LastPagesModel.isEnding(III)I -/
theorem d_M_isEnding_0 : decode prog_14_method_134_code 0 = .ok (.aload_n 0, 1) := by decide +kernel
theorem d_M_isEnding_1 : decode prog_14_method_134_code 1 = .ok (.iconst 0, 1) := by decide +kernel
theorem d_M_isEnding_2 : decode prog_14_method_134_code 2 = .ok (.putfield 78, 3) := by decide +kernel
theorem d_M_isEnding_5 : decode prog_14_method_134_code 5 = .ok (.aload_n 0, 1) := by decide +kernel
theorem d_M_isEnding_6 : decode prog_14_method_134_code 6 = .ok (.iconst 0, 1) := by decide +kernel
theorem d_M_isEnding_7 : decode prog_14_method_134_code 7 = .ok (.putfield 81, 3) := by decide +kernel
theorem d_M_isEnding_10 : decode prog_14_method_134_code 10 = .ok (.aload_n 0, 1) := by decide +kernel
theorem d_M_isEnding_11 : decode prog_14_method_134_code 11 = .ok (.iload_n 2, 1) := by decide +kernel
theorem d_M_isEnding_12 : decode prog_14_method_134_code 12 = .ok (.invokevirtual 396, 3) := by decide +kernel
theorem d_M_isEnding_15 : decode prog_14_method_134_code 15 = .ok (.ifCond .ne 9, 3) := by decide +kernel
theorem d_M_isEnding_18 : decode prog_14_method_134_code 18 = .ok (.aload_n 0, 1) := by decide +kernel
theorem d_M_isEnding_19 : decode prog_14_method_134_code 19 = .ok (.iconst 1, 1) := by decide +kernel
theorem d_M_isEnding_20 : decode prog_14_method_134_code 20 = .ok (.invokevirtual 367, 3) := by decide +kernel
theorem d_M_isEnding_23 : decode prog_14_method_134_code 23 = .ok (.ireturn, 1) := by decide +kernel
theorem d_M_isEnding_24 : decode prog_14_method_134_code 24 = .ok (.aload_n 0, 1) := by decide +kernel
theorem d_M_isEnding_25 : decode prog_14_method_134_code 25 = .ok (.iload_n 1, 1) := by decide +kernel
theorem d_M_isEnding_26 : decode prog_14_method_134_code 26 = .ok (.invokevirtual 382, 3) := by decide +kernel
theorem d_M_isEnding_29 : decode prog_14_method_134_code 29 = .ok (.ifCond .ne 9, 3) := by decide +kernel
theorem d_M_isEnding_32 : decode prog_14_method_134_code 32 = .ok (.aload_n 0, 1) := by decide +kernel
theorem d_M_isEnding_33 : decode prog_14_method_134_code 33 = .ok (.iconst 2, 1) := by decide +kernel
theorem d_M_isEnding_34 : decode prog_14_method_134_code 34 = .ok (.invokevirtual 367, 3) := by decide +kernel
theorem d_M_isEnding_37 : decode prog_14_method_134_code 37 = .ok (.ireturn, 1) := by decide +kernel
theorem d_M_isEnding_38 : decode prog_14_method_134_code 38 = .ok (.aload_n 0, 1) := by decide +kernel
theorem d_M_isEnding_39 : decode prog_14_method_134_code 39 = .ok (.getfield 17, 3) := by decide +kernel
theorem d_M_isEnding_42 : decode prog_14_method_134_code 42 = .ok (.iload_n 2, 1) := by decide +kernel
theorem d_M_isEnding_43 : decode prog_14_method_134_code 43 = .ok (.iaload, 1) := by decide +kernel
theorem d_M_isEnding_44 : decode prog_14_method_134_code 44 = .ok (.ifCond .ge 9, 3) := by decide +kernel
theorem d_M_isEnding_47 : decode prog_14_method_134_code 47 = .ok (.aload_n 0, 1) := by decide +kernel
theorem d_M_isEnding_48 : decode prog_14_method_134_code 48 = .ok (.iconst 3, 1) := by decide +kernel
theorem d_M_isEnding_49 : decode prog_14_method_134_code 49 = .ok (.invokevirtual 367, 3) := by decide +kernel
theorem d_M_isEnding_52 : decode prog_14_method_134_code 52 = .ok (.ireturn, 1) := by decide +kernel
theorem d_M_isEnding_53 : decode prog_14_method_134_code 53 = .ok (.aload_n 0, 1) := by decide +kernel
theorem d_M_isEnding_54 : decode prog_14_method_134_code 54 = .ok (.getfield 17, 3) := by decide +kernel
theorem d_M_isEnding_57 : decode prog_14_method_134_code 57 = .ok (.iload_n 2, 1) := by decide +kernel
theorem d_M_isEnding_58 : decode prog_14_method_134_code 58 = .ok (.iaload, 1) := by decide +kernel
theorem d_M_isEnding_59 : decode prog_14_method_134_code 59 = .ok (.iload_n 3, 1) := by decide +kernel
theorem d_M_isEnding_60 : decode prog_14_method_134_code 60 = .ok (.if_icmp .ge 9, 3) := by decide +kernel
theorem d_M_isEnding_63 : decode prog_14_method_134_code 63 = .ok (.aload_n 0, 1) := by decide +kernel
theorem d_M_isEnding_64 : decode prog_14_method_134_code 64 = .ok (.iconst 4, 1) := by decide +kernel
theorem d_M_isEnding_65 : decode prog_14_method_134_code 65 = .ok (.invokevirtual 367, 3) := by decide +kernel
theorem d_M_isEnding_68 : decode prog_14_method_134_code 68 = .ok (.ireturn, 1) := by decide +kernel
theorem d_M_isEnding_69 : decode prog_14_method_134_code 69 = .ok (.iload_n 3, 1) := by decide +kernel
theorem d_M_isEnding_70 : decode prog_14_method_134_code 70 = .ok (.aload_n 0, 1) := by decide +kernel
theorem d_M_isEnding_71 : decode prog_14_method_134_code 71 = .ok (.getfield 35, 3) := by decide +kernel
theorem d_M_isEnding_74 : decode prog_14_method_134_code 74 = .ok (.bipush 88, 2) := by decide +kernel
theorem d_M_isEnding_76 : decode prog_14_method_134_code 76 = .ok (.iload_n 1, 1) := by decide +kernel
theorem d_M_isEnding_77 : decode prog_14_method_134_code 77 = .ok (.iadd, 1) := by decide +kernel
theorem d_M_isEnding_78 : decode prog_14_method_134_code 78 = .ok (.iaload, 1) := by decide +kernel
theorem d_M_isEnding_79 : decode prog_14_method_134_code 79 = .ok (.if_icmp .eq 9, 3) := by decide +kernel
theorem d_M_isEnding_82 : decode prog_14_method_134_code 82 = .ok (.aload_n 0, 1) := by decide +kernel
theorem d_M_isEnding_83 : decode prog_14_method_134_code 83 = .ok (.iconst 5, 1) := by decide +kernel
theorem d_M_isEnding_84 : decode prog_14_method_134_code 84 = .ok (.invokevirtual 367, 3) := by decide +kernel
theorem d_M_isEnding_87 : decode prog_14_method_134_code 87 = .ok (.ireturn, 1) := by decide +kernel
theorem d_M_isEnding_88 : decode prog_14_method_134_code 88 = .ok (.iconst 0, 1) := by decide +kernel
theorem d_M_isEnding_89 : decode prog_14_method_134_code 89 = .ok (.istore 4, 2) := by decide +kernel
theorem d_M_isEnding_91 : decode prog_14_method_134_code 91 = .ok (.iload 4, 2) := by decide +kernel
theorem d_M_isEnding_93 : decode prog_14_method_134_code 93 = .ok (.iload_n 3, 1) := by decide +kernel
theorem d_M_isEnding_94 : decode prog_14_method_134_code 94 = .ok (.if_icmp .ge 53, 3) := by decide +kernel
theorem d_M_isEnding_97 : decode prog_14_method_134_code 97 = .ok (.aload_n 0, 1) := by decide +kernel
theorem d_M_isEnding_98 : decode prog_14_method_134_code 98 = .ok (.iload_n 2, 1) := by decide +kernel
theorem d_M_isEnding_99 : decode prog_14_method_134_code 99 = .ok (.iload 4, 2) := by decide +kernel
theorem d_M_isEnding_101 : decode prog_14_method_134_code 101 = .ok (.invokevirtual 456, 3) := by decide +kernel
theorem d_M_isEnding_104 : decode prog_14_method_134_code 104 = .ok (.lconst 0, 1) := by decide +kernel
theorem d_M_isEnding_105 : decode prog_14_method_134_code 105 = .ok (.aload_n 0, 1) := by decide +kernel
theorem d_M_isEnding_106 : decode prog_14_method_134_code 106 = .ok (.getfield 35, 3) := by decide +kernel
theorem d_M_isEnding_109 : decode prog_14_method_134_code 109 = .ok (.iconst 1, 1) := by decide +kernel
theorem d_M_isEnding_110 : decode prog_14_method_134_code 110 = .ok (.iaload, 1) := by decide +kernel
theorem d_M_isEnding_111 : decode prog_14_method_134_code 111 = .ok (.iconst 1, 1) := by decide +kernel
theorem d_M_isEnding_112 : decode prog_14_method_134_code 112 = .ok (.isub, 1) := by decide +kernel
theorem d_M_isEnding_113 : decode prog_14_method_134_code 113 = .ok (.i2l, 1) := by decide +kernel
theorem d_M_isEnding_114 : decode prog_14_method_134_code 114 = .ok (.invokestatic 113, 3) := by decide +kernel
theorem d_M_isEnding_117 : decode prog_14_method_134_code 117 = .ok (.ifCond .ne 9, 3) := by decide +kernel
theorem d_M_isEnding_120 : decode prog_14_method_134_code 120 = .ok (.aload_n 0, 1) := by decide +kernel
theorem d_M_isEnding_121 : decode prog_14_method_134_code 121 = .ok (.iconst 5, 1) := by decide +kernel
theorem d_M_isEnding_122 : decode prog_14_method_134_code 122 = .ok (.invokevirtual 367, 3) := by decide +kernel
theorem d_M_isEnding_125 : decode prog_14_method_134_code 125 = .ok (.ireturn, 1) := by decide +kernel
theorem d_M_isEnding_126 : decode prog_14_method_134_code 126 = .ok (.aload_n 0, 1) := by decide +kernel
theorem d_M_isEnding_127 : decode prog_14_method_134_code 127 = .ok (.getfield 62, 3) := by decide +kernel
theorem d_M_isEnding_130 : decode prog_14_method_134_code 130 = .ok (.iload 4, 2) := by decide +kernel
theorem d_M_isEnding_132 : decode prog_14_method_134_code 132 = .ok (.aload_n 0, 1) := by decide +kernel
theorem d_M_isEnding_133 : decode prog_14_method_134_code 133 = .ok (.iload_n 2, 1) := by decide +kernel
theorem d_M_isEnding_134 : decode prog_14_method_134_code 134 = .ok (.iload 4, 2) := by decide +kernel
theorem d_M_isEnding_136 : decode prog_14_method_134_code 136 = .ok (.invokevirtual 456, 3) := by decide +kernel
theorem d_M_isEnding_139 : decode prog_14_method_134_code 139 = .ok (.l2i, 1) := by decide +kernel
theorem d_M_isEnding_140 : decode prog_14_method_134_code 140 = .ok (.iastore, 1) := by decide +kernel
theorem d_M_isEnding_141 : decode prog_14_method_134_code 141 = .ok (.iinc 4 1, 3) := by decide +kernel
theorem d_M_isEnding_144 : decode prog_14_method_134_code 144 = .ok (.goto (-53), 3) := by decide +kernel
theorem d_M_isEnding_147 : decode prog_14_method_134_code 147 = .ok (.aload_n 0, 1) := by decide +kernel
theorem d_M_isEnding_148 : decode prog_14_method_134_code 148 = .ok (.iload_n 1, 1) := by decide +kernel
theorem d_M_isEnding_149 : decode prog_14_method_134_code 149 = .ok (.aload_n 0, 1) := by decide +kernel
theorem d_M_isEnding_150 : decode prog_14_method_134_code 150 = .ok (.getfield 62, 3) := by decide +kernel
theorem d_M_isEnding_153 : decode prog_14_method_134_code 153 = .ok (.iconst 0, 1) := by decide +kernel
theorem d_M_isEnding_154 : decode prog_14_method_134_code 154 = .ok (.invokevirtual 407, 3) := by decide +kernel
theorem d_M_isEnding_157 : decode prog_14_method_134_code 157 = .ok (.ifCond .eq 7, 3) := by decide +kernel
theorem d_M_isEnding_160 : decode prog_14_method_134_code 160 = .ok (.iconst 1, 1) := by decide +kernel
theorem d_M_isEnding_161 : decode prog_14_method_134_code 161 = .ok (.goto 4, 3) := by decide +kernel
theorem d_M_isEnding_164 : decode prog_14_method_134_code 164 = .ok (.iconst 0, 1) := by decide +kernel
theorem d_M_isEnding_165 : decode prog_14_method_134_code 165 = .ok (.ireturn, 1) := by decide +kernel
def M_isEnding_L91 (Y : Ly) (l0 : Nat) (l1 : Int32) (l2 : Int32) (l3 : Int32) : Nat → Int32 → Hp → Option (Int32 × Hp)
  | 0, _, _ => none
  | F + 1, l4, h =>
    if l3 ≤ l4 then
      (M_leads Y l0 l1 (hGr h 1231 l0) 0 h).bind fun q18 =>
      if q18 = true then
        some (1, h)
      else
        some (0, h)
    else
      (M_numberOf Y l0 l2 l4 h).bind fun q20 =>
      if inB 1 (lnY Y (hGr h 1220 l0)) = true then
        (M_isIn Y q20 0 (Int32.toInt64 ((hAi h (hGr h 1220 l0) (Int32.toNatClampNeg 1)) - 1)) h).bind fun q23 =>
        if q23 = true then
          (M_numberOf Y l0 l2 l4 h).bind fun q26 =>
          if inB l4 (lnY Y (hGr h 1231 l0)) = true then
            letH (hTi h (hGr h 1231 l0) (Int32.toNatClampNeg l4) (Int64.toInt32 q26)) fun h28 =>
            M_isEnding_L91 Y l0 l1 l2 l3 F (l4 + 1) h28
          else none
        else
          (M_refuse Y l0 5 h).bind fun q29 =>
          some (q29.1, q29.2)
      else none
theorem M_isEnding_L91_ok (Y : Ly) (l0 : Nat) (l1 : Int32) (l2 : Int32) (l3 : Int32) (tl0 : isO Y 12 l0) : ∀ (F : Nat) (l4 : Int32) (h : Hp), AW Y 3 K_M_isEnding 91 [(0, .ref l0), (1, .int l1), (2, .int l2), (3, .int l3), (4, .int l4)] [] h (M_isEnding_L91 Y l0 l1 l2 l3 F l4 h) rI := by
  intro F
  induction F with
  | zero =>
    intro l4 h
    exact aw_none
  | succ F ih =>
    intro l4 h
    unfold M_isEnding_L91
    refine aw_iload (pc := 91) d_M_isEnding_91 4 rfl ?_
    refine aw_iload_n (pc := 93) d_M_isEnding_93 rfl 3 rfl ?_
    refine aw_icmp_ge (pc := 94) (tgt := 147) d_M_isEnding_94 (by decide) (fun c16 => ?_) (fun c16 => ?_)
    · refine aw_aload_n (pc := 147) d_M_isEnding_147 rfl 0 rfl ?_
      refine aw_iload_n (pc := 148) d_M_isEnding_148 rfl 1 rfl ?_
      refine aw_aload_n (pc := 149) d_M_isEnding_149 rfl 0 rfl ?_
      refine gt_1231 (pc := 150) d_M_isEnding_150 w7_58 tl0 (fun tt17 => ?_)
      refine aw_iconst (pc := 153) (x := 0) d_M_isEnding_153 (by decide) ?_
      refine aw_cVpZ (pc := 154) (ci := 12) (T := TX12) (N := 44) (As := [.int l1, .ref (hGr h 1231 l0), .int 0]) (st := []) (ok_M_leads Y l0 l1 (hGr h 1231 l0) 0 h tl0 tt17) okV_M_leads rfl (by decide) tl0 w9_102 d_M_isEnding_154 rfl (Nat.le_of_ble_eq_true rfl) rfl (Nat.le_of_ble_eq_true rfl) (fun q18 hq18 hTq18 => ?_)
      refine aw_beq (pc := 157) (tgt := 164) d_M_isEnding_157 (by decide) (fun c19 => ?_) (fun c19 => ?_)
      · refine aw_iconst (pc := 160) (x := 1) d_M_isEnding_160 (by decide) ?_
        refine aw_goto (pc := 161) (tgt := 165) d_M_isEnding_161 (by decide) ?_
        exact aw_ireturn (pc := 165) d_M_isEnding_165 rfl rfl
      · refine aw_iconst (pc := 164) (x := 0) d_M_isEnding_164 (by decide) ?_
        exact aw_ireturn (pc := 165) d_M_isEnding_165 rfl rfl
    · refine aw_aload_n (pc := 97) d_M_isEnding_97 rfl 0 rfl ?_
      refine aw_iload_n (pc := 98) d_M_isEnding_98 rfl 2 rfl ?_
      refine aw_iload (pc := 99) d_M_isEnding_99 4 rfl ?_
      refine aw_cVpL (pc := 101) (ci := 12) (T := TX12) (N := 44) (As := [.int l2, .int l4]) (st := []) (ok_M_numberOf Y l0 l2 l4 h tl0) okV_M_numberOf rfl (by decide) tl0 w9_208 d_M_isEnding_101 rfl (Nat.le_of_ble_eq_true rfl) rfl (Nat.le_of_ble_eq_true rfl) (fun q20 hq20 hTq20 => ?_)
      refine aw_lconst (pc := 104) (x := 0) d_M_isEnding_104 (by decide) ?_
      refine aw_aload_n (pc := 105) d_M_isEnding_105 rfl 0 rfl ?_
      refine gt_1220 (pc := 106) d_M_isEnding_106 w7_47 tl0 (fun tt21 => ?_)
      refine aw_iconst (pc := 109) (x := 1) d_M_isEnding_109 (by decide) ?_
      refine aw_iaload (pc := 110) d_M_isEnding_110 tt21 (fun c22 => ?_)
      refine aw_iconst (pc := 111) (x := 1) d_M_isEnding_111 (by decide) ?_
      refine aw_isub (pc := 112) d_M_isEnding_112 ?_
      refine aw_i2l (pc := 113) d_M_isEnding_113 ?_
      refine aw_cSpZ (pc := 114) (As := [.long q20, .long 0, .long (Int32.toInt64 ((hAi h (hGr h 1220 l0) (Int32.toNatClampNeg 1)) - 1))]) (st := []) (ok_M_isIn Y q20 0 (Int32.toInt64 ((hAi h (hGr h 1220 l0) (Int32.toNatClampNeg 1)) - 1)) h) okS_M_isIn w8_155 d_M_isEnding_114 rfl (Nat.le_of_ble_eq_true rfl) rfl (Nat.le_of_ble_eq_true rfl) (fun q23 hq23 hTq23 => ?_)
      refine aw_bne (pc := 117) (tgt := 126) d_M_isEnding_117 (by decide) (fun c24 => ?_) (fun c24 => ?_)
      · refine aw_aload_n (pc := 126) d_M_isEnding_126 rfl 0 rfl ?_
        refine gt_1231 (pc := 127) d_M_isEnding_127 w7_58 tl0 (fun tt25 => ?_)
        refine aw_iload (pc := 130) d_M_isEnding_130 4 rfl ?_
        refine aw_aload_n (pc := 132) d_M_isEnding_132 rfl 0 rfl ?_
        refine aw_iload_n (pc := 133) d_M_isEnding_133 rfl 2 rfl ?_
        refine aw_iload (pc := 134) d_M_isEnding_134 4 rfl ?_
        refine aw_cVpL (pc := 136) (ci := 12) (T := TX12) (N := 44) (As := [.int l2, .int l4]) (st := [.int l4, .ref (hGr h 1231 l0)]) (ok_M_numberOf Y l0 l2 l4 h tl0) okV_M_numberOf rfl (by decide) tl0 w9_208 d_M_isEnding_136 rfl (Nat.le_of_ble_eq_true rfl) rfl (Nat.le_of_ble_eq_true rfl) (fun q26 hq26 hTq26 => ?_)
        refine aw_l2i (pc := 139) d_M_isEnding_139 ?_
        refine aw_iastore (pc := 140) d_M_isEnding_140 tt25 (fun c27 => ?_)
        refine aw_letH (fun h28 => ?_)
        refine aw_iinc (pc := 141) (w := l4 + 1) (lv' := [(4, .int (l4 + 1)), (0, .ref l0), (1, .int l1), (2, .int l2), (3, .int l3)]) d_M_isEnding_141 4 rfl rfl (by decide) rfl ?_
        refine aw_goto (pc := 144) (tgt := 91) d_M_isEnding_144 (by decide) ?_
        exact aw_lv [1, 2, 3, 4, 0] rfl (ih (l4 + 1) h28)
      · refine aw_aload_n (pc := 120) d_M_isEnding_120 rfl 0 rfl ?_
        refine aw_iconst (pc := 121) (x := 5) d_M_isEnding_121 (by decide) ?_
        refine aw_cVrI (pc := 122) (ci := 12) (T := TX12) (N := 44) (As := [.int 5]) (st := []) (ok_M_refuse Y l0 5 h tl0) okV_M_refuse rfl (by decide) tl0 w9_8 d_M_isEnding_122 rfl (Nat.le_of_ble_eq_true rfl) rfl (Nat.le_of_ble_eq_true rfl) (fun q29 hq29 hTq29 => ?_)
        exact aw_ireturn (pc := 125) d_M_isEnding_125 rfl rfl
def M_isEnding (Y : Ly) (l0 : Nat) (l1 : Int32) (l2 : Int32) (l3 : Int32) (h : Hp) : Option (Int32 × Hp) :=
  letH (hSi h 1201 l0 0) fun h1 =>
  letH (hSi h1 1200 l0 0) fun h2 =>
  (M_isTray Y l0 l2 h2).bind fun q3 =>
  if q3 = true then
    (M_isBookAt Y l0 l1 h2).bind fun q5 =>
    if q5 = true then
      if inB l2 (lnY Y (hGr h2 1205 l0)) = true then
        if 0 ≤ (hAi h2 (hGr h2 1205 l0) (Int32.toNatClampNeg l2)) then
          if inB l2 (lnY Y (hGr h2 1205 l0)) = true then
            if l3 ≤ (hAi h2 (hGr h2 1205 l0) (Int32.toNatClampNeg l2)) then
              if inB (88 + l1) (lnY Y (hGr h2 1220 l0)) = true then
                if l3 = (hAi h2 (hGr h2 1220 l0) (Int32.toNatClampNeg (88 + l1))) then
                  M_isEnding_L91 Y l0 l1 l2 l3 FU 0 h2
                else
                  (M_refuse Y l0 5 h2).bind fun q30 =>
                  some (q30.1, q30.2)
              else none
            else
              (M_refuse Y l0 4 h2).bind fun q31 =>
              some (q31.1, q31.2)
          else none
        else
          (M_refuse Y l0 3 h2).bind fun q32 =>
          some (q32.1, q32.2)
      else none
    else
      (M_refuse Y l0 2 h2).bind fun q33 =>
      some (q33.1, q33.2)
  else
    (M_refuse Y l0 1 h2).bind fun q34 =>
    some (q34.1, q34.2)
theorem ok_M_isEnding (Y : Ly) (l0 : Nat) (l1 : Int32) (l2 : Int32) (l3 : Int32) (h : Hp) (t0 : isO Y 12 l0) : AM Y 3 K_M_isEnding [.ref l0, .int l1, .int l2, .int l3] h (M_isEnding Y l0 l1 l2 l3 h) rI := by
  refine AM.of rfl (Nat.le_of_ble_eq_true rfl) ?_
  show AW Y 3 K_M_isEnding 0 [(0, .ref l0), (1, .int l1), (2, .int l2), (3, .int l3)] [] h (M_isEnding Y l0 l1 l2 l3 h) rI
  unfold M_isEnding
  refine aw_aload_n (pc := 0) d_M_isEnding_0 rfl 0 rfl ?_
  refine aw_iconst (pc := 1) (x := 0) d_M_isEnding_1 (by decide) ?_
  refine pt_1201 (pc := 2) d_M_isEnding_2 w7_28 t0 ?_
  refine aw_letH (fun h1 => ?_)
  refine aw_aload_n (pc := 5) d_M_isEnding_5 rfl 0 rfl ?_
  refine aw_iconst (pc := 6) (x := 0) d_M_isEnding_6 (by decide) ?_
  refine pt_1200 (pc := 7) d_M_isEnding_7 w7_27 t0 ?_
  refine aw_letH (fun h2 => ?_)
  refine aw_aload_n (pc := 10) d_M_isEnding_10 rfl 0 rfl ?_
  refine aw_iload_n (pc := 11) d_M_isEnding_11 rfl 2 rfl ?_
  refine aw_cVpZ (pc := 12) (ci := 12) (T := TX12) (N := 44) (As := [.int l2]) (st := []) (ok_M_isTray Y l0 l2 h2 t0) okV_M_isTray rfl (by decide) t0 w9_82 d_M_isEnding_12 rfl (Nat.le_of_ble_eq_true rfl) rfl (Nat.le_of_ble_eq_true rfl) (fun q3 hq3 hTq3 => ?_)
  refine aw_bne (pc := 15) (tgt := 24) d_M_isEnding_15 (by decide) (fun c4 => ?_) (fun c4 => ?_)
  · refine aw_aload_n (pc := 24) d_M_isEnding_24 rfl 0 rfl ?_
    refine aw_iload_n (pc := 25) d_M_isEnding_25 rfl 1 rfl ?_
    refine aw_cVpZ (pc := 26) (ci := 12) (T := TX12) (N := 44) (As := [.int l1]) (st := []) (ok_M_isBookAt Y l0 l1 h2 t0) okV_M_isBookAt rfl (by decide) t0 w9_40 d_M_isEnding_26 rfl (Nat.le_of_ble_eq_true rfl) rfl (Nat.le_of_ble_eq_true rfl) (fun q5 hq5 hTq5 => ?_)
    refine aw_bne (pc := 29) (tgt := 38) d_M_isEnding_29 (by decide) (fun c6 => ?_) (fun c6 => ?_)
    · refine aw_aload_n (pc := 38) d_M_isEnding_38 rfl 0 rfl ?_
      refine gt_1205 (pc := 39) d_M_isEnding_39 w7_32 t0 (fun tt7 => ?_)
      refine aw_iload_n (pc := 42) d_M_isEnding_42 rfl 2 rfl ?_
      refine aw_iaload (pc := 43) d_M_isEnding_43 tt7 (fun c8 => ?_)
      refine aw_if_ge (pc := 44) (tgt := 53) d_M_isEnding_44 (by decide) (fun c9 => ?_) (fun c9 => ?_)
      · refine aw_aload_n (pc := 53) d_M_isEnding_53 rfl 0 rfl ?_
        refine gt_1205 (pc := 54) d_M_isEnding_54 w7_32 t0 (fun tt10 => ?_)
        refine aw_iload_n (pc := 57) d_M_isEnding_57 rfl 2 rfl ?_
        refine aw_iaload (pc := 58) d_M_isEnding_58 tt10 (fun c11 => ?_)
        refine aw_iload_n (pc := 59) d_M_isEnding_59 rfl 3 rfl ?_
        refine aw_icmp_ge (pc := 60) (tgt := 69) d_M_isEnding_60 (by decide) (fun c12 => ?_) (fun c12 => ?_)
        · refine aw_iload_n (pc := 69) d_M_isEnding_69 rfl 3 rfl ?_
          refine aw_aload_n (pc := 70) d_M_isEnding_70 rfl 0 rfl ?_
          refine gt_1220 (pc := 71) d_M_isEnding_71 w7_47 t0 (fun tt13 => ?_)
          refine aw_bipush (pc := 74) (x := 88) d_M_isEnding_74 (by decide) ?_
          refine aw_iload_n (pc := 76) d_M_isEnding_76 rfl 1 rfl ?_
          refine aw_iadd (pc := 77) d_M_isEnding_77 ?_
          refine aw_iaload (pc := 78) d_M_isEnding_78 tt13 (fun c14 => ?_)
          refine aw_icmp_eq (pc := 79) (tgt := 88) d_M_isEnding_79 (by decide) (fun c15 => ?_) (fun c15 => ?_)
          · refine aw_iconst (pc := 88) (x := 0) d_M_isEnding_88 (by decide) ?_
            refine aw_istore (pc := 89) (lv' := [(4, .int 0), (0, .ref l0), (1, .int l1), (2, .int l2), (3, .int l3)]) d_M_isEnding_89 (by decide) rfl ?_
            exact aw_lv [1, 2, 3, 4, 0] rfl (M_isEnding_L91_ok Y l0 l1 l2 l3 t0 FU 0 h2)
          · refine aw_aload_n (pc := 82) d_M_isEnding_82 rfl 0 rfl ?_
            refine aw_iconst (pc := 83) (x := 5) d_M_isEnding_83 (by decide) ?_
            refine aw_cVrI (pc := 84) (ci := 12) (T := TX12) (N := 44) (As := [.int 5]) (st := []) (ok_M_refuse Y l0 5 h2 t0) okV_M_refuse rfl (by decide) t0 w9_8 d_M_isEnding_84 rfl (Nat.le_of_ble_eq_true rfl) rfl (Nat.le_of_ble_eq_true rfl) (fun q30 hq30 hTq30 => ?_)
            exact aw_ireturn (pc := 87) d_M_isEnding_87 rfl rfl
        · refine aw_aload_n (pc := 63) d_M_isEnding_63 rfl 0 rfl ?_
          refine aw_iconst (pc := 64) (x := 4) d_M_isEnding_64 (by decide) ?_
          refine aw_cVrI (pc := 65) (ci := 12) (T := TX12) (N := 44) (As := [.int 4]) (st := []) (ok_M_refuse Y l0 4 h2 t0) okV_M_refuse rfl (by decide) t0 w9_8 d_M_isEnding_65 rfl (Nat.le_of_ble_eq_true rfl) rfl (Nat.le_of_ble_eq_true rfl) (fun q31 hq31 hTq31 => ?_)
          exact aw_ireturn (pc := 68) d_M_isEnding_68 rfl rfl
      · refine aw_aload_n (pc := 47) d_M_isEnding_47 rfl 0 rfl ?_
        refine aw_iconst (pc := 48) (x := 3) d_M_isEnding_48 (by decide) ?_
        refine aw_cVrI (pc := 49) (ci := 12) (T := TX12) (N := 44) (As := [.int 3]) (st := []) (ok_M_refuse Y l0 3 h2 t0) okV_M_refuse rfl (by decide) t0 w9_8 d_M_isEnding_49 rfl (Nat.le_of_ble_eq_true rfl) rfl (Nat.le_of_ble_eq_true rfl) (fun q32 hq32 hTq32 => ?_)
        exact aw_ireturn (pc := 52) d_M_isEnding_52 rfl rfl
    · refine aw_aload_n (pc := 32) d_M_isEnding_32 rfl 0 rfl ?_
      refine aw_iconst (pc := 33) (x := 2) d_M_isEnding_33 (by decide) ?_
      refine aw_cVrI (pc := 34) (ci := 12) (T := TX12) (N := 44) (As := [.int 2]) (st := []) (ok_M_refuse Y l0 2 h2 t0) okV_M_refuse rfl (by decide) t0 w9_8 d_M_isEnding_34 rfl (Nat.le_of_ble_eq_true rfl) rfl (Nat.le_of_ble_eq_true rfl) (fun q33 hq33 hTq33 => ?_)
      exact aw_ireturn (pc := 37) d_M_isEnding_37 rfl rfl
  · refine aw_aload_n (pc := 18) d_M_isEnding_18 rfl 0 rfl ?_
    refine aw_iconst (pc := 19) (x := 1) d_M_isEnding_19 (by decide) ?_
    refine aw_cVrI (pc := 20) (ci := 12) (T := TX12) (N := 44) (As := [.int 1]) (st := []) (ok_M_refuse Y l0 1 h2 t0) okV_M_refuse rfl (by decide) t0 w9_8 d_M_isEnding_20 rfl (Nat.le_of_ble_eq_true rfl) rfl (Nat.le_of_ble_eq_true rfl) (fun q34 hq34 hTq34 => ?_)
    exact aw_ireturn (pc := 23) d_M_isEnding_23 rfl rfl
/-! LastPagesModel.isFinal()Z -/
theorem d_M_isFinal_0 : decode prog_14_method_30_code 0 = .ok (.aload_n 0, 1) := by decide +kernel
theorem d_M_isFinal_1 : decode prog_14_method_30_code 1 = .ok (.bipush 102, 2) := by decide +kernel
theorem d_M_isFinal_3 : decode prog_14_method_30_code 3 = .ok (.bipush 105, 2) := by decide +kernel
theorem d_M_isFinal_5 : decode prog_14_method_30_code 5 = .ok (.bipush 110, 2) := by decide +kernel
theorem d_M_isFinal_7 : decode prog_14_method_30_code 7 = .ok (.bipush 97, 2) := by decide +kernel
theorem d_M_isFinal_9 : decode prog_14_method_30_code 9 = .ok (.bipush 108, 2) := by decide +kernel
theorem d_M_isFinal_11 : decode prog_14_method_30_code 11 = .ok (.iconst 0, 1) := by decide +kernel
theorem d_M_isFinal_12 : decode prog_14_method_30_code 12 = .ok (.invokestatic 158, 3) := by decide +kernel
theorem d_M_isFinal_15 : decode prog_14_method_30_code 15 = .ok (.invokevirtual 162, 3) := by decide +kernel
theorem d_M_isFinal_18 : decode prog_14_method_30_code 18 = .ok (.ireturn, 1) := by decide +kernel
def M_isFinal (Y : Ly) (l0 : Nat) (h : Hp) : Option Bool :=
  (M_spelled Y 102 105 110 97 108 0 h).bind fun q1 =>
  (M_isWord Y l0 q1 h).bind fun q2 =>
  some q2
theorem ok_M_isFinal (Y : Ly) (l0 : Nat) (h : Hp) (t0 : isO Y 12 l0) : AM Y 1 K_M_isFinal [.ref l0] h (M_isFinal Y l0 h) (pZ h) := by
  refine AM.of rfl (Nat.le_of_ble_eq_true rfl) ?_
  show AW Y 1 K_M_isFinal 0 [(0, .ref l0)] [] h (M_isFinal Y l0 h) (pZ h)
  unfold M_isFinal
  refine aw_aload_n (pc := 0) d_M_isFinal_0 rfl 0 rfl ?_
  refine aw_bipush (pc := 1) (x := 102) d_M_isFinal_1 (by decide) ?_
  refine aw_bipush (pc := 3) (x := 105) d_M_isFinal_3 (by decide) ?_
  refine aw_bipush (pc := 5) (x := 110) d_M_isFinal_5 (by decide) ?_
  refine aw_bipush (pc := 7) (x := 97) d_M_isFinal_7 (by decide) ?_
  refine aw_bipush (pc := 9) (x := 108) d_M_isFinal_9 (by decide) ?_
  refine aw_iconst (pc := 11) (x := 0) d_M_isFinal_11 (by decide) ?_
  refine aw_cSpL (pc := 12) (As := [.int 102, .int 105, .int 110, .int 97, .int 108, .int 0]) (st := [.ref l0]) (ok_M_spelled Y 102 105 110 97 108 0 h) okS_M_spelled w8_12 d_M_isFinal_12 rfl (Nat.le_of_ble_eq_true rfl) rfl (Nat.le_of_ble_eq_true rfl) (fun q1 hq1 hTq1 => ?_)
  refine aw_cVpZ (pc := 15) (ci := 12) (T := TX12) (N := 44) (As := [.long q1]) (st := []) (ok_M_isWord Y l0 q1 h t0) okV_M_isWord rfl (by decide) t0 w8_15 d_M_isFinal_15 rfl (Nat.le_of_ble_eq_true rfl) rfl (Nat.le_of_ble_eq_true rfl) (fun q2 hq2 hTq2 => ?_)
  exact aw_zreturn (pc := 18) (b := q2) d_M_isFinal_18 rfl rfl
/-! LastPagesModel.isFinale()Z -/
theorem d_M_isFinale_0 : decode prog_14_method_38_code 0 = .ok (.aload_n 0, 1) := by decide +kernel
theorem d_M_isFinale_1 : decode prog_14_method_38_code 1 = .ok (.bipush 102, 2) := by decide +kernel
theorem d_M_isFinale_3 : decode prog_14_method_38_code 3 = .ok (.bipush 105, 2) := by decide +kernel
theorem d_M_isFinale_5 : decode prog_14_method_38_code 5 = .ok (.bipush 110, 2) := by decide +kernel
theorem d_M_isFinale_7 : decode prog_14_method_38_code 7 = .ok (.bipush 97, 2) := by decide +kernel
theorem d_M_isFinale_9 : decode prog_14_method_38_code 9 = .ok (.bipush 108, 2) := by decide +kernel
theorem d_M_isFinale_11 : decode prog_14_method_38_code 11 = .ok (.bipush 101, 2) := by decide +kernel
theorem d_M_isFinale_13 : decode prog_14_method_38_code 13 = .ok (.invokestatic 158, 3) := by decide +kernel
theorem d_M_isFinale_16 : decode prog_14_method_38_code 16 = .ok (.invokevirtual 162, 3) := by decide +kernel
theorem d_M_isFinale_19 : decode prog_14_method_38_code 19 = .ok (.ireturn, 1) := by decide +kernel
def M_isFinale (Y : Ly) (l0 : Nat) (h : Hp) : Option Bool :=
  (M_spelled Y 102 105 110 97 108 101 h).bind fun q1 =>
  (M_isWord Y l0 q1 h).bind fun q2 =>
  some q2
theorem ok_M_isFinale (Y : Ly) (l0 : Nat) (h : Hp) (t0 : isO Y 12 l0) : AM Y 1 K_M_isFinale [.ref l0] h (M_isFinale Y l0 h) (pZ h) := by
  refine AM.of rfl (Nat.le_of_ble_eq_true rfl) ?_
  show AW Y 1 K_M_isFinale 0 [(0, .ref l0)] [] h (M_isFinale Y l0 h) (pZ h)
  unfold M_isFinale
  refine aw_aload_n (pc := 0) d_M_isFinale_0 rfl 0 rfl ?_
  refine aw_bipush (pc := 1) (x := 102) d_M_isFinale_1 (by decide) ?_
  refine aw_bipush (pc := 3) (x := 105) d_M_isFinale_3 (by decide) ?_
  refine aw_bipush (pc := 5) (x := 110) d_M_isFinale_5 (by decide) ?_
  refine aw_bipush (pc := 7) (x := 97) d_M_isFinale_7 (by decide) ?_
  refine aw_bipush (pc := 9) (x := 108) d_M_isFinale_9 (by decide) ?_
  refine aw_bipush (pc := 11) (x := 101) d_M_isFinale_11 (by decide) ?_
  refine aw_cSpL (pc := 13) (As := [.int 102, .int 105, .int 110, .int 97, .int 108, .int 101]) (st := [.ref l0]) (ok_M_spelled Y 102 105 110 97 108 101 h) okS_M_spelled w8_12 d_M_isFinale_13 rfl (Nat.le_of_ble_eq_true rfl) rfl (Nat.le_of_ble_eq_true rfl) (fun q1 hq1 hTq1 => ?_)
  refine aw_cVpZ (pc := 16) (ci := 12) (T := TX12) (N := 44) (As := [.long q1]) (st := []) (ok_M_isWord Y l0 q1 h t0) okV_M_isWord rfl (by decide) t0 w8_15 d_M_isFinale_16 rfl (Nat.le_of_ble_eq_true rfl) rfl (Nat.le_of_ble_eq_true rfl) (fun q2 hq2 hTq2 => ?_)
  exact aw_zreturn (pc := 19) (b := q2) d_M_isFinale_19 rfl rfl
/-! LastPagesModel.isFollows()Z -/
theorem d_M_isFollows_0 : decode prog_14_method_49_code 0 = .ok (.aload_n 0, 1) := by decide +kernel
theorem d_M_isFollows_1 : decode prog_14_method_49_code 1 = .ok (.bipush 102, 2) := by decide +kernel
theorem d_M_isFollows_3 : decode prog_14_method_49_code 3 = .ok (.bipush 111, 2) := by decide +kernel
theorem d_M_isFollows_5 : decode prog_14_method_49_code 5 = .ok (.bipush 108, 2) := by decide +kernel
theorem d_M_isFollows_7 : decode prog_14_method_49_code 7 = .ok (.bipush 108, 2) := by decide +kernel
theorem d_M_isFollows_9 : decode prog_14_method_49_code 9 = .ok (.bipush 111, 2) := by decide +kernel
theorem d_M_isFollows_11 : decode prog_14_method_49_code 11 = .ok (.bipush 119, 2) := by decide +kernel
theorem d_M_isFollows_13 : decode prog_14_method_49_code 13 = .ok (.invokestatic 158, 3) := by decide +kernel
theorem d_M_isFollows_16 : decode prog_14_method_49_code 16 = .ok (.ldc2_w 142, 3) := by decide +kernel
theorem d_M_isFollows_19 : decode prog_14_method_49_code 19 = .ok (.lmul, 1) := by decide +kernel
theorem d_M_isFollows_20 : decode prog_14_method_49_code 20 = .ok (.ldc2_w 166, 3) := by decide +kernel
theorem d_M_isFollows_23 : decode prog_14_method_49_code 23 = .ok (.ladd, 1) := by decide +kernel
theorem d_M_isFollows_24 : decode prog_14_method_49_code 24 = .ok (.invokevirtual 162, 3) := by decide +kernel
theorem d_M_isFollows_27 : decode prog_14_method_49_code 27 = .ok (.ireturn, 1) := by decide +kernel
def M_isFollows (Y : Ly) (l0 : Nat) (h : Hp) : Option Bool :=
  (M_spelled Y 102 111 108 108 111 119 h).bind fun q1 =>
  (M_isWord Y l0 ((q1 * 32) + 19) h).bind fun q2 =>
  some q2
theorem ok_M_isFollows (Y : Ly) (l0 : Nat) (h : Hp) (t0 : isO Y 12 l0) : AM Y 1 K_M_isFollows [.ref l0] h (M_isFollows Y l0 h) (pZ h) := by
  refine AM.of rfl (Nat.le_of_ble_eq_true rfl) ?_
  show AW Y 1 K_M_isFollows 0 [(0, .ref l0)] [] h (M_isFollows Y l0 h) (pZ h)
  unfold M_isFollows
  refine aw_aload_n (pc := 0) d_M_isFollows_0 rfl 0 rfl ?_
  refine aw_bipush (pc := 1) (x := 102) d_M_isFollows_1 (by decide) ?_
  refine aw_bipush (pc := 3) (x := 111) d_M_isFollows_3 (by decide) ?_
  refine aw_bipush (pc := 5) (x := 108) d_M_isFollows_5 (by decide) ?_
  refine aw_bipush (pc := 7) (x := 108) d_M_isFollows_7 (by decide) ?_
  refine aw_bipush (pc := 9) (x := 111) d_M_isFollows_9 (by decide) ?_
  refine aw_bipush (pc := 11) (x := 119) d_M_isFollows_11 (by decide) ?_
  refine aw_cSpL (pc := 13) (As := [.int 102, .int 111, .int 108, .int 108, .int 111, .int 119]) (st := [.ref l0]) (ok_M_spelled Y 102 111 108 108 111 119 h) okS_M_spelled w8_12 d_M_isFollows_13 rfl (Nat.le_of_ble_eq_true rfl) rfl (Nat.le_of_ble_eq_true rfl) (fun q1 hq1 hTq1 => ?_)
  refine aw_ldc2 (pc := 16) d_M_isFollows_16 w7_235 ?_
  refine aw_lmul (pc := 19) d_M_isFollows_19 ?_
  refine aw_ldc2 (pc := 20) d_M_isFollows_20 w8_118 ?_
  refine aw_ladd (pc := 23) d_M_isFollows_23 ?_
  refine aw_cVpZ (pc := 24) (ci := 12) (T := TX12) (N := 44) (As := [.long ((q1 * 32) + 19)]) (st := []) (ok_M_isWord Y l0 ((q1 * 32) + 19) h t0) okV_M_isWord rfl (by decide) t0 w8_15 d_M_isFollows_24 rfl (Nat.le_of_ble_eq_true rfl) rfl (Nat.le_of_ble_eq_true rfl) (fun q2 hq2 hTq2 => ?_)
  exact aw_zreturn (pc := 27) (b := q2) d_M_isFollows_27 rfl rfl
/-! LastPagesModel.isFrom()Z -/
theorem d_M_isFrom_0 : decode prog_14_method_36_code 0 = .ok (.aload_n 0, 1) := by decide +kernel
theorem d_M_isFrom_1 : decode prog_14_method_36_code 1 = .ok (.bipush 102, 2) := by decide +kernel
theorem d_M_isFrom_3 : decode prog_14_method_36_code 3 = .ok (.bipush 114, 2) := by decide +kernel
theorem d_M_isFrom_5 : decode prog_14_method_36_code 5 = .ok (.bipush 111, 2) := by decide +kernel
theorem d_M_isFrom_7 : decode prog_14_method_36_code 7 = .ok (.bipush 109, 2) := by decide +kernel
theorem d_M_isFrom_9 : decode prog_14_method_36_code 9 = .ok (.iconst 0, 1) := by decide +kernel
theorem d_M_isFrom_10 : decode prog_14_method_36_code 10 = .ok (.iconst 0, 1) := by decide +kernel
theorem d_M_isFrom_11 : decode prog_14_method_36_code 11 = .ok (.invokestatic 158, 3) := by decide +kernel
theorem d_M_isFrom_14 : decode prog_14_method_36_code 14 = .ok (.invokevirtual 162, 3) := by decide +kernel
theorem d_M_isFrom_17 : decode prog_14_method_36_code 17 = .ok (.ireturn, 1) := by decide +kernel
def M_isFrom (Y : Ly) (l0 : Nat) (h : Hp) : Option Bool :=
  (M_spelled Y 102 114 111 109 0 0 h).bind fun q1 =>
  (M_isWord Y l0 q1 h).bind fun q2 =>
  some q2
theorem ok_M_isFrom (Y : Ly) (l0 : Nat) (h : Hp) (t0 : isO Y 12 l0) : AM Y 1 K_M_isFrom [.ref l0] h (M_isFrom Y l0 h) (pZ h) := by
  refine AM.of rfl (Nat.le_of_ble_eq_true rfl) ?_
  show AW Y 1 K_M_isFrom 0 [(0, .ref l0)] [] h (M_isFrom Y l0 h) (pZ h)
  unfold M_isFrom
  refine aw_aload_n (pc := 0) d_M_isFrom_0 rfl 0 rfl ?_
  refine aw_bipush (pc := 1) (x := 102) d_M_isFrom_1 (by decide) ?_
  refine aw_bipush (pc := 3) (x := 114) d_M_isFrom_3 (by decide) ?_
  refine aw_bipush (pc := 5) (x := 111) d_M_isFrom_5 (by decide) ?_
  refine aw_bipush (pc := 7) (x := 109) d_M_isFrom_7 (by decide) ?_
  refine aw_iconst (pc := 9) (x := 0) d_M_isFrom_9 (by decide) ?_
  refine aw_iconst (pc := 10) (x := 0) d_M_isFrom_10 (by decide) ?_
  refine aw_cSpL (pc := 11) (As := [.int 102, .int 114, .int 111, .int 109, .int 0, .int 0]) (st := [.ref l0]) (ok_M_spelled Y 102 114 111 109 0 0 h) okS_M_spelled w8_12 d_M_isFrom_11 rfl (Nat.le_of_ble_eq_true rfl) rfl (Nat.le_of_ble_eq_true rfl) (fun q1 hq1 hTq1 => ?_)
  refine aw_cVpZ (pc := 14) (ci := 12) (T := TX12) (N := 44) (As := [.long q1]) (st := []) (ok_M_isWord Y l0 q1 h t0) okV_M_isWord rfl (by decide) t0 w8_15 d_M_isFrom_14 rfl (Nat.le_of_ble_eq_true rfl) rfl (Nat.le_of_ble_eq_true rfl) (fun q2 hq2 hTq2 => ?_)
  exact aw_zreturn (pc := 17) (b := q2) d_M_isFrom_17 rfl rfl
/-! LastPagesModel.isGuards()Z -/
theorem d_M_isGuards_0 : decode prog_14_method_48_code 0 = .ok (.aload_n 0, 1) := by decide +kernel
theorem d_M_isGuards_1 : decode prog_14_method_48_code 1 = .ok (.bipush 103, 2) := by decide +kernel
theorem d_M_isGuards_3 : decode prog_14_method_48_code 3 = .ok (.bipush 117, 2) := by decide +kernel
theorem d_M_isGuards_5 : decode prog_14_method_48_code 5 = .ok (.bipush 97, 2) := by decide +kernel
theorem d_M_isGuards_7 : decode prog_14_method_48_code 7 = .ok (.bipush 114, 2) := by decide +kernel
theorem d_M_isGuards_9 : decode prog_14_method_48_code 9 = .ok (.bipush 100, 2) := by decide +kernel
theorem d_M_isGuards_11 : decode prog_14_method_48_code 11 = .ok (.bipush 115, 2) := by decide +kernel
theorem d_M_isGuards_13 : decode prog_14_method_48_code 13 = .ok (.invokestatic 158, 3) := by decide +kernel
theorem d_M_isGuards_16 : decode prog_14_method_48_code 16 = .ok (.invokevirtual 162, 3) := by decide +kernel
theorem d_M_isGuards_19 : decode prog_14_method_48_code 19 = .ok (.ireturn, 1) := by decide +kernel
def M_isGuards (Y : Ly) (l0 : Nat) (h : Hp) : Option Bool :=
  (M_spelled Y 103 117 97 114 100 115 h).bind fun q1 =>
  (M_isWord Y l0 q1 h).bind fun q2 =>
  some q2
theorem ok_M_isGuards (Y : Ly) (l0 : Nat) (h : Hp) (t0 : isO Y 12 l0) : AM Y 1 K_M_isGuards [.ref l0] h (M_isGuards Y l0 h) (pZ h) := by
  refine AM.of rfl (Nat.le_of_ble_eq_true rfl) ?_
  show AW Y 1 K_M_isGuards 0 [(0, .ref l0)] [] h (M_isGuards Y l0 h) (pZ h)
  unfold M_isGuards
  refine aw_aload_n (pc := 0) d_M_isGuards_0 rfl 0 rfl ?_
  refine aw_bipush (pc := 1) (x := 103) d_M_isGuards_1 (by decide) ?_
  refine aw_bipush (pc := 3) (x := 117) d_M_isGuards_3 (by decide) ?_
  refine aw_bipush (pc := 5) (x := 97) d_M_isGuards_5 (by decide) ?_
  refine aw_bipush (pc := 7) (x := 114) d_M_isGuards_7 (by decide) ?_
  refine aw_bipush (pc := 9) (x := 100) d_M_isGuards_9 (by decide) ?_
  refine aw_bipush (pc := 11) (x := 115) d_M_isGuards_11 (by decide) ?_
  refine aw_cSpL (pc := 13) (As := [.int 103, .int 117, .int 97, .int 114, .int 100, .int 115]) (st := [.ref l0]) (ok_M_spelled Y 103 117 97 114 100 115 h) okS_M_spelled w8_12 d_M_isGuards_13 rfl (Nat.le_of_ble_eq_true rfl) rfl (Nat.le_of_ble_eq_true rfl) (fun q1 hq1 hTq1 => ?_)
  refine aw_cVpZ (pc := 16) (ci := 12) (T := TX12) (N := 44) (As := [.long q1]) (st := []) (ok_M_isWord Y l0 q1 h t0) okV_M_isWord rfl (by decide) t0 w8_15 d_M_isGuards_16 rfl (Nat.le_of_ble_eq_true rfl) rfl (Nat.le_of_ble_eq_true rfl) (fun q2 hq2 hTq2 => ?_)
  exact aw_zreturn (pc := 19) (b := q2) d_M_isGuards_19 rfl rfl
/-! LastPagesModel.isHint()Z -/
theorem d_M_isHint_0 : decode prog_14_method_39_code 0 = .ok (.aload_n 0, 1) := by decide +kernel
theorem d_M_isHint_1 : decode prog_14_method_39_code 1 = .ok (.bipush 104, 2) := by decide +kernel
theorem d_M_isHint_3 : decode prog_14_method_39_code 3 = .ok (.bipush 105, 2) := by decide +kernel
theorem d_M_isHint_5 : decode prog_14_method_39_code 5 = .ok (.bipush 110, 2) := by decide +kernel
theorem d_M_isHint_7 : decode prog_14_method_39_code 7 = .ok (.bipush 116, 2) := by decide +kernel
theorem d_M_isHint_9 : decode prog_14_method_39_code 9 = .ok (.iconst 0, 1) := by decide +kernel
theorem d_M_isHint_10 : decode prog_14_method_39_code 10 = .ok (.iconst 0, 1) := by decide +kernel
theorem d_M_isHint_11 : decode prog_14_method_39_code 11 = .ok (.invokestatic 158, 3) := by decide +kernel
theorem d_M_isHint_14 : decode prog_14_method_39_code 14 = .ok (.invokevirtual 162, 3) := by decide +kernel
theorem d_M_isHint_17 : decode prog_14_method_39_code 17 = .ok (.ireturn, 1) := by decide +kernel
def M_isHint (Y : Ly) (l0 : Nat) (h : Hp) : Option Bool :=
  (M_spelled Y 104 105 110 116 0 0 h).bind fun q1 =>
  (M_isWord Y l0 q1 h).bind fun q2 =>
  some q2
theorem ok_M_isHint (Y : Ly) (l0 : Nat) (h : Hp) (t0 : isO Y 12 l0) : AM Y 1 K_M_isHint [.ref l0] h (M_isHint Y l0 h) (pZ h) := by
  refine AM.of rfl (Nat.le_of_ble_eq_true rfl) ?_
  show AW Y 1 K_M_isHint 0 [(0, .ref l0)] [] h (M_isHint Y l0 h) (pZ h)
  unfold M_isHint
  refine aw_aload_n (pc := 0) d_M_isHint_0 rfl 0 rfl ?_
  refine aw_bipush (pc := 1) (x := 104) d_M_isHint_1 (by decide) ?_
  refine aw_bipush (pc := 3) (x := 105) d_M_isHint_3 (by decide) ?_
  refine aw_bipush (pc := 5) (x := 110) d_M_isHint_5 (by decide) ?_
  refine aw_bipush (pc := 7) (x := 116) d_M_isHint_7 (by decide) ?_
  refine aw_iconst (pc := 9) (x := 0) d_M_isHint_9 (by decide) ?_
  refine aw_iconst (pc := 10) (x := 0) d_M_isHint_10 (by decide) ?_
  refine aw_cSpL (pc := 11) (As := [.int 104, .int 105, .int 110, .int 116, .int 0, .int 0]) (st := [.ref l0]) (ok_M_spelled Y 104 105 110 116 0 0 h) okS_M_spelled w8_12 d_M_isHint_11 rfl (Nat.le_of_ble_eq_true rfl) rfl (Nat.le_of_ble_eq_true rfl) (fun q1 hq1 hTq1 => ?_)
  refine aw_cVpZ (pc := 14) (ci := 12) (T := TX12) (N := 44) (As := [.long q1]) (st := []) (ok_M_isWord Y l0 q1 h t0) okV_M_isWord rfl (by decide) t0 w8_15 d_M_isHint_14 rfl (Nat.le_of_ble_eq_true rfl) rfl (Nat.le_of_ble_eq_true rfl) (fun q2 hq2 hTq2 => ?_)
  exact aw_zreturn (pc := 17) (b := q2) d_M_isHint_17 rfl rfl
/-! LastPagesModel.isIs()Z -/
theorem d_M_isIs_0 : decode prog_14_method_41_code 0 = .ok (.aload_n 0, 1) := by decide +kernel
theorem d_M_isIs_1 : decode prog_14_method_41_code 1 = .ok (.bipush 105, 2) := by decide +kernel
theorem d_M_isIs_3 : decode prog_14_method_41_code 3 = .ok (.bipush 115, 2) := by decide +kernel
theorem d_M_isIs_5 : decode prog_14_method_41_code 5 = .ok (.iconst 0, 1) := by decide +kernel
theorem d_M_isIs_6 : decode prog_14_method_41_code 6 = .ok (.iconst 0, 1) := by decide +kernel
theorem d_M_isIs_7 : decode prog_14_method_41_code 7 = .ok (.iconst 0, 1) := by decide +kernel
theorem d_M_isIs_8 : decode prog_14_method_41_code 8 = .ok (.iconst 0, 1) := by decide +kernel
theorem d_M_isIs_9 : decode prog_14_method_41_code 9 = .ok (.invokestatic 158, 3) := by decide +kernel
theorem d_M_isIs_12 : decode prog_14_method_41_code 12 = .ok (.invokevirtual 162, 3) := by decide +kernel
theorem d_M_isIs_15 : decode prog_14_method_41_code 15 = .ok (.ireturn, 1) := by decide +kernel
def M_isIs (Y : Ly) (l0 : Nat) (h : Hp) : Option Bool :=
  (M_spelled Y 105 115 0 0 0 0 h).bind fun q1 =>
  (M_isWord Y l0 q1 h).bind fun q2 =>
  some q2
theorem ok_M_isIs (Y : Ly) (l0 : Nat) (h : Hp) (t0 : isO Y 12 l0) : AM Y 1 K_M_isIs [.ref l0] h (M_isIs Y l0 h) (pZ h) := by
  refine AM.of rfl (Nat.le_of_ble_eq_true rfl) ?_
  show AW Y 1 K_M_isIs 0 [(0, .ref l0)] [] h (M_isIs Y l0 h) (pZ h)
  unfold M_isIs
  refine aw_aload_n (pc := 0) d_M_isIs_0 rfl 0 rfl ?_
  refine aw_bipush (pc := 1) (x := 105) d_M_isIs_1 (by decide) ?_
  refine aw_bipush (pc := 3) (x := 115) d_M_isIs_3 (by decide) ?_
  refine aw_iconst (pc := 5) (x := 0) d_M_isIs_5 (by decide) ?_
  refine aw_iconst (pc := 6) (x := 0) d_M_isIs_6 (by decide) ?_
  refine aw_iconst (pc := 7) (x := 0) d_M_isIs_7 (by decide) ?_
  refine aw_iconst (pc := 8) (x := 0) d_M_isIs_8 (by decide) ?_
  refine aw_cSpL (pc := 9) (As := [.int 105, .int 115, .int 0, .int 0, .int 0, .int 0]) (st := [.ref l0]) (ok_M_spelled Y 105 115 0 0 0 0 h) okS_M_spelled w8_12 d_M_isIs_9 rfl (Nat.le_of_ble_eq_true rfl) rfl (Nat.le_of_ble_eq_true rfl) (fun q1 hq1 hTq1 => ?_)
  refine aw_cVpZ (pc := 12) (ci := 12) (T := TX12) (N := 44) (As := [.long q1]) (st := []) (ok_M_isWord Y l0 q1 h t0) okV_M_isWord rfl (by decide) t0 w8_15 d_M_isIs_12 rfl (Nat.le_of_ble_eq_true rfl) rfl (Nat.le_of_ble_eq_true rfl) (fun q2 hq2 hTq2 => ?_)
  exact aw_zreturn (pc := 15) (b := q2) d_M_isIs_15 rfl rfl
/-! LastPagesModel.isMisses()Z -/
theorem d_M_isMisses_0 : decode prog_14_method_37_code 0 = .ok (.aload_n 0, 1) := by decide +kernel
theorem d_M_isMisses_1 : decode prog_14_method_37_code 1 = .ok (.bipush 109, 2) := by decide +kernel
theorem d_M_isMisses_3 : decode prog_14_method_37_code 3 = .ok (.bipush 105, 2) := by decide +kernel
theorem d_M_isMisses_5 : decode prog_14_method_37_code 5 = .ok (.bipush 115, 2) := by decide +kernel
theorem d_M_isMisses_7 : decode prog_14_method_37_code 7 = .ok (.bipush 115, 2) := by decide +kernel
theorem d_M_isMisses_9 : decode prog_14_method_37_code 9 = .ok (.bipush 101, 2) := by decide +kernel
theorem d_M_isMisses_11 : decode prog_14_method_37_code 11 = .ok (.bipush 115, 2) := by decide +kernel
theorem d_M_isMisses_13 : decode prog_14_method_37_code 13 = .ok (.invokestatic 158, 3) := by decide +kernel
theorem d_M_isMisses_16 : decode prog_14_method_37_code 16 = .ok (.invokevirtual 162, 3) := by decide +kernel
theorem d_M_isMisses_19 : decode prog_14_method_37_code 19 = .ok (.ireturn, 1) := by decide +kernel
def M_isMisses (Y : Ly) (l0 : Nat) (h : Hp) : Option Bool :=
  (M_spelled Y 109 105 115 115 101 115 h).bind fun q1 =>
  (M_isWord Y l0 q1 h).bind fun q2 =>
  some q2
theorem ok_M_isMisses (Y : Ly) (l0 : Nat) (h : Hp) (t0 : isO Y 12 l0) : AM Y 1 K_M_isMisses [.ref l0] h (M_isMisses Y l0 h) (pZ h) := by
  refine AM.of rfl (Nat.le_of_ble_eq_true rfl) ?_
  show AW Y 1 K_M_isMisses 0 [(0, .ref l0)] [] h (M_isMisses Y l0 h) (pZ h)
  unfold M_isMisses
  refine aw_aload_n (pc := 0) d_M_isMisses_0 rfl 0 rfl ?_
  refine aw_bipush (pc := 1) (x := 109) d_M_isMisses_1 (by decide) ?_
  refine aw_bipush (pc := 3) (x := 105) d_M_isMisses_3 (by decide) ?_
  refine aw_bipush (pc := 5) (x := 115) d_M_isMisses_5 (by decide) ?_
  refine aw_bipush (pc := 7) (x := 115) d_M_isMisses_7 (by decide) ?_
  refine aw_bipush (pc := 9) (x := 101) d_M_isMisses_9 (by decide) ?_
  refine aw_bipush (pc := 11) (x := 115) d_M_isMisses_11 (by decide) ?_
  refine aw_cSpL (pc := 13) (As := [.int 109, .int 105, .int 115, .int 115, .int 101, .int 115]) (st := [.ref l0]) (ok_M_spelled Y 109 105 115 115 101 115 h) okS_M_spelled w8_12 d_M_isMisses_13 rfl (Nat.le_of_ble_eq_true rfl) rfl (Nat.le_of_ble_eq_true rfl) (fun q1 hq1 hTq1 => ?_)
  refine aw_cVpZ (pc := 16) (ci := 12) (T := TX12) (N := 44) (As := [.long q1]) (st := []) (ok_M_isWord Y l0 q1 h t0) okV_M_isWord rfl (by decide) t0 w8_15 d_M_isMisses_16 rfl (Nat.le_of_ble_eq_true rfl) rfl (Nat.le_of_ble_eq_true rfl) (fun q2 hq2 hTq2 => ?_)
  exact aw_zreturn (pc := 19) (b := q2) d_M_isMisses_19 rfl rfl
/-! LastPagesModel.isOffer()Z -/
theorem d_M_isOffer_0 : decode prog_14_method_44_code 0 = .ok (.aload_n 0, 1) := by decide +kernel
theorem d_M_isOffer_1 : decode prog_14_method_44_code 1 = .ok (.bipush 111, 2) := by decide +kernel
theorem d_M_isOffer_3 : decode prog_14_method_44_code 3 = .ok (.bipush 102, 2) := by decide +kernel
theorem d_M_isOffer_5 : decode prog_14_method_44_code 5 = .ok (.bipush 102, 2) := by decide +kernel
theorem d_M_isOffer_7 : decode prog_14_method_44_code 7 = .ok (.bipush 101, 2) := by decide +kernel
theorem d_M_isOffer_9 : decode prog_14_method_44_code 9 = .ok (.bipush 114, 2) := by decide +kernel
theorem d_M_isOffer_11 : decode prog_14_method_44_code 11 = .ok (.iconst 0, 1) := by decide +kernel
theorem d_M_isOffer_12 : decode prog_14_method_44_code 12 = .ok (.invokestatic 158, 3) := by decide +kernel
theorem d_M_isOffer_15 : decode prog_14_method_44_code 15 = .ok (.invokevirtual 162, 3) := by decide +kernel
theorem d_M_isOffer_18 : decode prog_14_method_44_code 18 = .ok (.ireturn, 1) := by decide +kernel
def M_isOffer (Y : Ly) (l0 : Nat) (h : Hp) : Option Bool :=
  (M_spelled Y 111 102 102 101 114 0 h).bind fun q1 =>
  (M_isWord Y l0 q1 h).bind fun q2 =>
  some q2
theorem ok_M_isOffer (Y : Ly) (l0 : Nat) (h : Hp) (t0 : isO Y 12 l0) : AM Y 1 K_M_isOffer [.ref l0] h (M_isOffer Y l0 h) (pZ h) := by
  refine AM.of rfl (Nat.le_of_ble_eq_true rfl) ?_
  show AW Y 1 K_M_isOffer 0 [(0, .ref l0)] [] h (M_isOffer Y l0 h) (pZ h)
  unfold M_isOffer
  refine aw_aload_n (pc := 0) d_M_isOffer_0 rfl 0 rfl ?_
  refine aw_bipush (pc := 1) (x := 111) d_M_isOffer_1 (by decide) ?_
  refine aw_bipush (pc := 3) (x := 102) d_M_isOffer_3 (by decide) ?_
  refine aw_bipush (pc := 5) (x := 102) d_M_isOffer_5 (by decide) ?_
  refine aw_bipush (pc := 7) (x := 101) d_M_isOffer_7 (by decide) ?_
  refine aw_bipush (pc := 9) (x := 114) d_M_isOffer_9 (by decide) ?_
  refine aw_iconst (pc := 11) (x := 0) d_M_isOffer_11 (by decide) ?_
  refine aw_cSpL (pc := 12) (As := [.int 111, .int 102, .int 102, .int 101, .int 114, .int 0]) (st := [.ref l0]) (ok_M_spelled Y 111 102 102 101 114 0 h) okS_M_spelled w8_12 d_M_isOffer_12 rfl (Nat.le_of_ble_eq_true rfl) rfl (Nat.le_of_ble_eq_true rfl) (fun q1 hq1 hTq1 => ?_)
  refine aw_cVpZ (pc := 15) (ci := 12) (T := TX12) (N := 44) (As := [.long q1]) (st := []) (ok_M_isWord Y l0 q1 h t0) okV_M_isWord rfl (by decide) t0 w8_15 d_M_isOffer_15 rfl (Nat.le_of_ble_eq_true rfl) rfl (Nat.le_of_ble_eq_true rfl) (fun q2 hq2 hTq2 => ?_)
  exact aw_zreturn (pc := 18) (b := q2) d_M_isOffer_18 rfl rfl
/-! LastPagesModel.isReader()Z -/
theorem d_M_isReader_0 : decode prog_14_method_43_code 0 = .ok (.aload_n 0, 1) := by decide +kernel
theorem d_M_isReader_1 : decode prog_14_method_43_code 1 = .ok (.bipush 114, 2) := by decide +kernel
theorem d_M_isReader_3 : decode prog_14_method_43_code 3 = .ok (.bipush 101, 2) := by decide +kernel
theorem d_M_isReader_5 : decode prog_14_method_43_code 5 = .ok (.bipush 97, 2) := by decide +kernel
theorem d_M_isReader_7 : decode prog_14_method_43_code 7 = .ok (.bipush 100, 2) := by decide +kernel
theorem d_M_isReader_9 : decode prog_14_method_43_code 9 = .ok (.bipush 101, 2) := by decide +kernel
theorem d_M_isReader_11 : decode prog_14_method_43_code 11 = .ok (.bipush 114, 2) := by decide +kernel
theorem d_M_isReader_13 : decode prog_14_method_43_code 13 = .ok (.invokestatic 158, 3) := by decide +kernel
theorem d_M_isReader_16 : decode prog_14_method_43_code 16 = .ok (.invokevirtual 162, 3) := by decide +kernel
theorem d_M_isReader_19 : decode prog_14_method_43_code 19 = .ok (.ireturn, 1) := by decide +kernel
def M_isReader (Y : Ly) (l0 : Nat) (h : Hp) : Option Bool :=
  (M_spelled Y 114 101 97 100 101 114 h).bind fun q1 =>
  (M_isWord Y l0 q1 h).bind fun q2 =>
  some q2
theorem ok_M_isReader (Y : Ly) (l0 : Nat) (h : Hp) (t0 : isO Y 12 l0) : AM Y 1 K_M_isReader [.ref l0] h (M_isReader Y l0 h) (pZ h) := by
  refine AM.of rfl (Nat.le_of_ble_eq_true rfl) ?_
  show AW Y 1 K_M_isReader 0 [(0, .ref l0)] [] h (M_isReader Y l0 h) (pZ h)
  unfold M_isReader
  refine aw_aload_n (pc := 0) d_M_isReader_0 rfl 0 rfl ?_
  refine aw_bipush (pc := 1) (x := 114) d_M_isReader_1 (by decide) ?_
  refine aw_bipush (pc := 3) (x := 101) d_M_isReader_3 (by decide) ?_
  refine aw_bipush (pc := 5) (x := 97) d_M_isReader_5 (by decide) ?_
  refine aw_bipush (pc := 7) (x := 100) d_M_isReader_7 (by decide) ?_
  refine aw_bipush (pc := 9) (x := 101) d_M_isReader_9 (by decide) ?_
  refine aw_bipush (pc := 11) (x := 114) d_M_isReader_11 (by decide) ?_
  refine aw_cSpL (pc := 13) (As := [.int 114, .int 101, .int 97, .int 100, .int 101, .int 114]) (st := [.ref l0]) (ok_M_spelled Y 114 101 97 100 101 114 h) okS_M_spelled w8_12 d_M_isReader_13 rfl (Nat.le_of_ble_eq_true rfl) rfl (Nat.le_of_ble_eq_true rfl) (fun q1 hq1 hTq1 => ?_)
  refine aw_cVpZ (pc := 16) (ci := 12) (T := TX12) (N := 44) (As := [.long q1]) (st := []) (ok_M_isWord Y l0 q1 h t0) okV_M_isWord rfl (by decide) t0 w8_15 d_M_isReader_16 rfl (Nat.le_of_ble_eq_true rfl) rfl (Nat.le_of_ble_eq_true rfl) (fun q2 hq2 hTq2 => ?_)
  exact aw_zreturn (pc := 19) (b := q2) d_M_isReader_19 rfl rfl
/-! LastPagesModel.isRule()Z -/
theorem d_M_isRule_0 : decode prog_14_method_33_code 0 = .ok (.aload_n 0, 1) := by decide +kernel
theorem d_M_isRule_1 : decode prog_14_method_33_code 1 = .ok (.bipush 114, 2) := by decide +kernel
theorem d_M_isRule_3 : decode prog_14_method_33_code 3 = .ok (.bipush 117, 2) := by decide +kernel
theorem d_M_isRule_5 : decode prog_14_method_33_code 5 = .ok (.bipush 108, 2) := by decide +kernel
theorem d_M_isRule_7 : decode prog_14_method_33_code 7 = .ok (.bipush 101, 2) := by decide +kernel
theorem d_M_isRule_9 : decode prog_14_method_33_code 9 = .ok (.iconst 0, 1) := by decide +kernel
theorem d_M_isRule_10 : decode prog_14_method_33_code 10 = .ok (.iconst 0, 1) := by decide +kernel
theorem d_M_isRule_11 : decode prog_14_method_33_code 11 = .ok (.invokestatic 158, 3) := by decide +kernel
theorem d_M_isRule_14 : decode prog_14_method_33_code 14 = .ok (.invokevirtual 162, 3) := by decide +kernel
theorem d_M_isRule_17 : decode prog_14_method_33_code 17 = .ok (.ireturn, 1) := by decide +kernel
def M_isRule (Y : Ly) (l0 : Nat) (h : Hp) : Option Bool :=
  (M_spelled Y 114 117 108 101 0 0 h).bind fun q1 =>
  (M_isWord Y l0 q1 h).bind fun q2 =>
  some q2
theorem ok_M_isRule (Y : Ly) (l0 : Nat) (h : Hp) (t0 : isO Y 12 l0) : AM Y 1 K_M_isRule [.ref l0] h (M_isRule Y l0 h) (pZ h) := by
  refine AM.of rfl (Nat.le_of_ble_eq_true rfl) ?_
  show AW Y 1 K_M_isRule 0 [(0, .ref l0)] [] h (M_isRule Y l0 h) (pZ h)
  unfold M_isRule
  refine aw_aload_n (pc := 0) d_M_isRule_0 rfl 0 rfl ?_
  refine aw_bipush (pc := 1) (x := 114) d_M_isRule_1 (by decide) ?_
  refine aw_bipush (pc := 3) (x := 117) d_M_isRule_3 (by decide) ?_
  refine aw_bipush (pc := 5) (x := 108) d_M_isRule_5 (by decide) ?_
  refine aw_bipush (pc := 7) (x := 101) d_M_isRule_7 (by decide) ?_
  refine aw_iconst (pc := 9) (x := 0) d_M_isRule_9 (by decide) ?_
  refine aw_iconst (pc := 10) (x := 0) d_M_isRule_10 (by decide) ?_
  refine aw_cSpL (pc := 11) (As := [.int 114, .int 117, .int 108, .int 101, .int 0, .int 0]) (st := [.ref l0]) (ok_M_spelled Y 114 117 108 101 0 0 h) okS_M_spelled w8_12 d_M_isRule_11 rfl (Nat.le_of_ble_eq_true rfl) rfl (Nat.le_of_ble_eq_true rfl) (fun q1 hq1 hTq1 => ?_)
  refine aw_cVpZ (pc := 14) (ci := 12) (T := TX12) (N := 44) (As := [.long q1]) (st := []) (ok_M_isWord Y l0 q1 h t0) okV_M_isWord rfl (by decide) t0 w8_15 d_M_isRule_14 rfl (Nat.le_of_ble_eq_true rfl) rfl (Nat.le_of_ble_eq_true rfl) (fun q2 hq2 hTq2 => ?_)
  exact aw_zreturn (pc := 17) (b := q2) d_M_isRule_17 rfl rfl
/-! LastPagesModel.isState()Z -/
theorem d_M_isState_0 : decode prog_14_method_29_code 0 = .ok (.aload_n 0, 1) := by decide +kernel
theorem d_M_isState_1 : decode prog_14_method_29_code 1 = .ok (.bipush 115, 2) := by decide +kernel
theorem d_M_isState_3 : decode prog_14_method_29_code 3 = .ok (.bipush 116, 2) := by decide +kernel
theorem d_M_isState_5 : decode prog_14_method_29_code 5 = .ok (.bipush 97, 2) := by decide +kernel
theorem d_M_isState_7 : decode prog_14_method_29_code 7 = .ok (.bipush 116, 2) := by decide +kernel
theorem d_M_isState_9 : decode prog_14_method_29_code 9 = .ok (.bipush 101, 2) := by decide +kernel
theorem d_M_isState_11 : decode prog_14_method_29_code 11 = .ok (.iconst 0, 1) := by decide +kernel
theorem d_M_isState_12 : decode prog_14_method_29_code 12 = .ok (.invokestatic 158, 3) := by decide +kernel
theorem d_M_isState_15 : decode prog_14_method_29_code 15 = .ok (.invokevirtual 162, 3) := by decide +kernel
theorem d_M_isState_18 : decode prog_14_method_29_code 18 = .ok (.ireturn, 1) := by decide +kernel
def M_isState (Y : Ly) (l0 : Nat) (h : Hp) : Option Bool :=
  (M_spelled Y 115 116 97 116 101 0 h).bind fun q1 =>
  (M_isWord Y l0 q1 h).bind fun q2 =>
  some q2
theorem ok_M_isState (Y : Ly) (l0 : Nat) (h : Hp) (t0 : isO Y 12 l0) : AM Y 1 K_M_isState [.ref l0] h (M_isState Y l0 h) (pZ h) := by
  refine AM.of rfl (Nat.le_of_ble_eq_true rfl) ?_
  show AW Y 1 K_M_isState 0 [(0, .ref l0)] [] h (M_isState Y l0 h) (pZ h)
  unfold M_isState
  refine aw_aload_n (pc := 0) d_M_isState_0 rfl 0 rfl ?_
  refine aw_bipush (pc := 1) (x := 115) d_M_isState_1 (by decide) ?_
  refine aw_bipush (pc := 3) (x := 116) d_M_isState_3 (by decide) ?_
  refine aw_bipush (pc := 5) (x := 97) d_M_isState_5 (by decide) ?_
  refine aw_bipush (pc := 7) (x := 116) d_M_isState_7 (by decide) ?_
  refine aw_bipush (pc := 9) (x := 101) d_M_isState_9 (by decide) ?_
  refine aw_iconst (pc := 11) (x := 0) d_M_isState_11 (by decide) ?_
  refine aw_cSpL (pc := 12) (As := [.int 115, .int 116, .int 97, .int 116, .int 101, .int 0]) (st := [.ref l0]) (ok_M_spelled Y 115 116 97 116 101 0 h) okS_M_spelled w8_12 d_M_isState_12 rfl (Nat.le_of_ble_eq_true rfl) rfl (Nat.le_of_ble_eq_true rfl) (fun q1 hq1 hTq1 => ?_)
  refine aw_cVpZ (pc := 15) (ci := 12) (T := TX12) (N := 44) (As := [.long q1]) (st := []) (ok_M_isWord Y l0 q1 h t0) okV_M_isWord rfl (by decide) t0 w8_15 d_M_isState_15 rfl (Nat.le_of_ble_eq_true rfl) rfl (Nat.le_of_ble_eq_true rfl) (fun q2 hq2 hTq2 => ?_)
  exact aw_zreturn (pc := 18) (b := q2) d_M_isState_18 rfl rfl
/-! LastPagesModel.isTells()Z -/
theorem d_M_isTells_0 : decode prog_14_method_46_code 0 = .ok (.aload_n 0, 1) := by decide +kernel
theorem d_M_isTells_1 : decode prog_14_method_46_code 1 = .ok (.bipush 116, 2) := by decide +kernel
theorem d_M_isTells_3 : decode prog_14_method_46_code 3 = .ok (.bipush 101, 2) := by decide +kernel
theorem d_M_isTells_5 : decode prog_14_method_46_code 5 = .ok (.bipush 108, 2) := by decide +kernel
theorem d_M_isTells_7 : decode prog_14_method_46_code 7 = .ok (.bipush 108, 2) := by decide +kernel
theorem d_M_isTells_9 : decode prog_14_method_46_code 9 = .ok (.bipush 115, 2) := by decide +kernel
theorem d_M_isTells_11 : decode prog_14_method_46_code 11 = .ok (.iconst 0, 1) := by decide +kernel
theorem d_M_isTells_12 : decode prog_14_method_46_code 12 = .ok (.invokestatic 158, 3) := by decide +kernel
theorem d_M_isTells_15 : decode prog_14_method_46_code 15 = .ok (.invokevirtual 162, 3) := by decide +kernel
theorem d_M_isTells_18 : decode prog_14_method_46_code 18 = .ok (.ireturn, 1) := by decide +kernel
def M_isTells (Y : Ly) (l0 : Nat) (h : Hp) : Option Bool :=
  (M_spelled Y 116 101 108 108 115 0 h).bind fun q1 =>
  (M_isWord Y l0 q1 h).bind fun q2 =>
  some q2
theorem ok_M_isTells (Y : Ly) (l0 : Nat) (h : Hp) (t0 : isO Y 12 l0) : AM Y 1 K_M_isTells [.ref l0] h (M_isTells Y l0 h) (pZ h) := by
  refine AM.of rfl (Nat.le_of_ble_eq_true rfl) ?_
  show AW Y 1 K_M_isTells 0 [(0, .ref l0)] [] h (M_isTells Y l0 h) (pZ h)
  unfold M_isTells
  refine aw_aload_n (pc := 0) d_M_isTells_0 rfl 0 rfl ?_
  refine aw_bipush (pc := 1) (x := 116) d_M_isTells_1 (by decide) ?_
  refine aw_bipush (pc := 3) (x := 101) d_M_isTells_3 (by decide) ?_
  refine aw_bipush (pc := 5) (x := 108) d_M_isTells_5 (by decide) ?_
  refine aw_bipush (pc := 7) (x := 108) d_M_isTells_7 (by decide) ?_
  refine aw_bipush (pc := 9) (x := 115) d_M_isTells_9 (by decide) ?_
  refine aw_iconst (pc := 11) (x := 0) d_M_isTells_11 (by decide) ?_
  refine aw_cSpL (pc := 12) (As := [.int 116, .int 101, .int 108, .int 108, .int 115, .int 0]) (st := [.ref l0]) (ok_M_spelled Y 116 101 108 108 115 0 h) okS_M_spelled w8_12 d_M_isTells_12 rfl (Nat.le_of_ble_eq_true rfl) rfl (Nat.le_of_ble_eq_true rfl) (fun q1 hq1 hTq1 => ?_)
  refine aw_cVpZ (pc := 15) (ci := 12) (T := TX12) (N := 44) (As := [.long q1]) (st := []) (ok_M_isWord Y l0 q1 h t0) okV_M_isWord rfl (by decide) t0 w8_15 d_M_isTells_15 rfl (Nat.le_of_ble_eq_true rfl) rfl (Nat.le_of_ble_eq_true rfl) (fun q2 hq2 hTq2 => ?_)
  exact aw_zreturn (pc := 18) (b := q2) d_M_isTells_18 rfl rfl
/-! LastPagesModel.isTo()Z -/
theorem d_M_isTo_0 : decode prog_14_method_34_code 0 = .ok (.aload_n 0, 1) := by decide +kernel
theorem d_M_isTo_1 : decode prog_14_method_34_code 1 = .ok (.bipush 116, 2) := by decide +kernel
theorem d_M_isTo_3 : decode prog_14_method_34_code 3 = .ok (.bipush 111, 2) := by decide +kernel
theorem d_M_isTo_5 : decode prog_14_method_34_code 5 = .ok (.iconst 0, 1) := by decide +kernel
theorem d_M_isTo_6 : decode prog_14_method_34_code 6 = .ok (.iconst 0, 1) := by decide +kernel
theorem d_M_isTo_7 : decode prog_14_method_34_code 7 = .ok (.iconst 0, 1) := by decide +kernel
theorem d_M_isTo_8 : decode prog_14_method_34_code 8 = .ok (.iconst 0, 1) := by decide +kernel
theorem d_M_isTo_9 : decode prog_14_method_34_code 9 = .ok (.invokestatic 158, 3) := by decide +kernel
theorem d_M_isTo_12 : decode prog_14_method_34_code 12 = .ok (.invokevirtual 162, 3) := by decide +kernel
theorem d_M_isTo_15 : decode prog_14_method_34_code 15 = .ok (.ireturn, 1) := by decide +kernel
def M_isTo (Y : Ly) (l0 : Nat) (h : Hp) : Option Bool :=
  (M_spelled Y 116 111 0 0 0 0 h).bind fun q1 =>
  (M_isWord Y l0 q1 h).bind fun q2 =>
  some q2
theorem ok_M_isTo (Y : Ly) (l0 : Nat) (h : Hp) (t0 : isO Y 12 l0) : AM Y 1 K_M_isTo [.ref l0] h (M_isTo Y l0 h) (pZ h) := by
  refine AM.of rfl (Nat.le_of_ble_eq_true rfl) ?_
  show AW Y 1 K_M_isTo 0 [(0, .ref l0)] [] h (M_isTo Y l0 h) (pZ h)
  unfold M_isTo
  refine aw_aload_n (pc := 0) d_M_isTo_0 rfl 0 rfl ?_
  refine aw_bipush (pc := 1) (x := 116) d_M_isTo_1 (by decide) ?_
  refine aw_bipush (pc := 3) (x := 111) d_M_isTo_3 (by decide) ?_
  refine aw_iconst (pc := 5) (x := 0) d_M_isTo_5 (by decide) ?_
  refine aw_iconst (pc := 6) (x := 0) d_M_isTo_6 (by decide) ?_
  refine aw_iconst (pc := 7) (x := 0) d_M_isTo_7 (by decide) ?_
  refine aw_iconst (pc := 8) (x := 0) d_M_isTo_8 (by decide) ?_
  refine aw_cSpL (pc := 9) (As := [.int 116, .int 111, .int 0, .int 0, .int 0, .int 0]) (st := [.ref l0]) (ok_M_spelled Y 116 111 0 0 0 0 h) okS_M_spelled w8_12 d_M_isTo_9 rfl (Nat.le_of_ble_eq_true rfl) rfl (Nat.le_of_ble_eq_true rfl) (fun q1 hq1 hTq1 => ?_)
  refine aw_cVpZ (pc := 12) (ci := 12) (T := TX12) (N := 44) (As := [.long q1]) (st := []) (ok_M_isWord Y l0 q1 h t0) okV_M_isWord rfl (by decide) t0 w8_15 d_M_isTo_12 rfl (Nat.le_of_ble_eq_true rfl) rfl (Nat.le_of_ble_eq_true rfl) (fun q2 hq2 hTq2 => ?_)
  exact aw_zreturn (pc := 15) (b := q2) d_M_isTo_15 rfl rfl
/-! LastPagesModel.isTurn()Z -/
theorem d_M_isTurn_0 : decode prog_14_method_31_code 0 = .ok (.aload_n 0, 1) := by decide +kernel
theorem d_M_isTurn_1 : decode prog_14_method_31_code 1 = .ok (.bipush 116, 2) := by decide +kernel
theorem d_M_isTurn_3 : decode prog_14_method_31_code 3 = .ok (.bipush 117, 2) := by decide +kernel
theorem d_M_isTurn_5 : decode prog_14_method_31_code 5 = .ok (.bipush 114, 2) := by decide +kernel
theorem d_M_isTurn_7 : decode prog_14_method_31_code 7 = .ok (.bipush 110, 2) := by decide +kernel
theorem d_M_isTurn_9 : decode prog_14_method_31_code 9 = .ok (.iconst 0, 1) := by decide +kernel
theorem d_M_isTurn_10 : decode prog_14_method_31_code 10 = .ok (.iconst 0, 1) := by decide +kernel
theorem d_M_isTurn_11 : decode prog_14_method_31_code 11 = .ok (.invokestatic 158, 3) := by decide +kernel
theorem d_M_isTurn_14 : decode prog_14_method_31_code 14 = .ok (.invokevirtual 162, 3) := by decide +kernel
theorem d_M_isTurn_17 : decode prog_14_method_31_code 17 = .ok (.ireturn, 1) := by decide +kernel
def M_isTurn (Y : Ly) (l0 : Nat) (h : Hp) : Option Bool :=
  (M_spelled Y 116 117 114 110 0 0 h).bind fun q1 =>
  (M_isWord Y l0 q1 h).bind fun q2 =>
  some q2
theorem ok_M_isTurn (Y : Ly) (l0 : Nat) (h : Hp) (t0 : isO Y 12 l0) : AM Y 1 K_M_isTurn [.ref l0] h (M_isTurn Y l0 h) (pZ h) := by
  refine AM.of rfl (Nat.le_of_ble_eq_true rfl) ?_
  show AW Y 1 K_M_isTurn 0 [(0, .ref l0)] [] h (M_isTurn Y l0 h) (pZ h)
  unfold M_isTurn
  refine aw_aload_n (pc := 0) d_M_isTurn_0 rfl 0 rfl ?_
  refine aw_bipush (pc := 1) (x := 116) d_M_isTurn_1 (by decide) ?_
  refine aw_bipush (pc := 3) (x := 117) d_M_isTurn_3 (by decide) ?_
  refine aw_bipush (pc := 5) (x := 114) d_M_isTurn_5 (by decide) ?_
  refine aw_bipush (pc := 7) (x := 110) d_M_isTurn_7 (by decide) ?_
  refine aw_iconst (pc := 9) (x := 0) d_M_isTurn_9 (by decide) ?_
  refine aw_iconst (pc := 10) (x := 0) d_M_isTurn_10 (by decide) ?_
  refine aw_cSpL (pc := 11) (As := [.int 116, .int 117, .int 114, .int 110, .int 0, .int 0]) (st := [.ref l0]) (ok_M_spelled Y 116 117 114 110 0 0 h) okS_M_spelled w8_12 d_M_isTurn_11 rfl (Nat.le_of_ble_eq_true rfl) rfl (Nat.le_of_ble_eq_true rfl) (fun q1 hq1 hTq1 => ?_)
  refine aw_cVpZ (pc := 14) (ci := 12) (T := TX12) (N := 44) (As := [.long q1]) (st := []) (ok_M_isWord Y l0 q1 h t0) okV_M_isWord rfl (by decide) t0 w8_15 d_M_isTurn_14 rfl (Nat.le_of_ble_eq_true rfl) rfl (Nat.le_of_ble_eq_true rfl) (fun q2 hq2 hTq2 => ?_)
  exact aw_zreturn (pc := 17) (b := q2) d_M_isTurn_17 rfl rfl
/-! LastPagesModel.isWatch()Z -/
theorem d_M_isWatch_0 : decode prog_14_method_47_code 0 = .ok (.aload_n 0, 1) := by decide +kernel
theorem d_M_isWatch_1 : decode prog_14_method_47_code 1 = .ok (.bipush 119, 2) := by decide +kernel
theorem d_M_isWatch_3 : decode prog_14_method_47_code 3 = .ok (.bipush 97, 2) := by decide +kernel
theorem d_M_isWatch_5 : decode prog_14_method_47_code 5 = .ok (.bipush 116, 2) := by decide +kernel
theorem d_M_isWatch_7 : decode prog_14_method_47_code 7 = .ok (.bipush 99, 2) := by decide +kernel
theorem d_M_isWatch_9 : decode prog_14_method_47_code 9 = .ok (.bipush 104, 2) := by decide +kernel
theorem d_M_isWatch_11 : decode prog_14_method_47_code 11 = .ok (.iconst 0, 1) := by decide +kernel
theorem d_M_isWatch_12 : decode prog_14_method_47_code 12 = .ok (.invokestatic 158, 3) := by decide +kernel
theorem d_M_isWatch_15 : decode prog_14_method_47_code 15 = .ok (.invokevirtual 162, 3) := by decide +kernel
theorem d_M_isWatch_18 : decode prog_14_method_47_code 18 = .ok (.ireturn, 1) := by decide +kernel
def M_isWatch (Y : Ly) (l0 : Nat) (h : Hp) : Option Bool :=
  (M_spelled Y 119 97 116 99 104 0 h).bind fun q1 =>
  (M_isWord Y l0 q1 h).bind fun q2 =>
  some q2
theorem ok_M_isWatch (Y : Ly) (l0 : Nat) (h : Hp) (t0 : isO Y 12 l0) : AM Y 1 K_M_isWatch [.ref l0] h (M_isWatch Y l0 h) (pZ h) := by
  refine AM.of rfl (Nat.le_of_ble_eq_true rfl) ?_
  show AW Y 1 K_M_isWatch 0 [(0, .ref l0)] [] h (M_isWatch Y l0 h) (pZ h)
  unfold M_isWatch
  refine aw_aload_n (pc := 0) d_M_isWatch_0 rfl 0 rfl ?_
  refine aw_bipush (pc := 1) (x := 119) d_M_isWatch_1 (by decide) ?_
  refine aw_bipush (pc := 3) (x := 97) d_M_isWatch_3 (by decide) ?_
  refine aw_bipush (pc := 5) (x := 116) d_M_isWatch_5 (by decide) ?_
  refine aw_bipush (pc := 7) (x := 99) d_M_isWatch_7 (by decide) ?_
  refine aw_bipush (pc := 9) (x := 104) d_M_isWatch_9 (by decide) ?_
  refine aw_iconst (pc := 11) (x := 0) d_M_isWatch_11 (by decide) ?_
  refine aw_cSpL (pc := 12) (As := [.int 119, .int 97, .int 116, .int 99, .int 104, .int 0]) (st := [.ref l0]) (ok_M_spelled Y 119 97 116 99 104 0 h) okS_M_spelled w8_12 d_M_isWatch_12 rfl (Nat.le_of_ble_eq_true rfl) rfl (Nat.le_of_ble_eq_true rfl) (fun q1 hq1 hTq1 => ?_)
  refine aw_cVpZ (pc := 15) (ci := 12) (T := TX12) (N := 44) (As := [.long q1]) (st := []) (ok_M_isWord Y l0 q1 h t0) okV_M_isWord rfl (by decide) t0 w8_15 d_M_isWatch_15 rfl (Nat.le_of_ble_eq_true rfl) rfl (Nat.le_of_ble_eq_true rfl) (fun q2 hq2 hTq2 => ?_)
  exact aw_zreturn (pc := 18) (b := q2) d_M_isWatch_18 rfl rfl
/-! LastPagesModel.stepWord()I -/
theorem d_M_stepWord_0 : decode prog_14_method_50_code 0 = .ok (.aload_n 0, 1) := by decide +kernel
theorem d_M_stepWord_1 : decode prog_14_method_50_code 1 = .ok (.bipush 98, 2) := by decide +kernel
theorem d_M_stepWord_3 : decode prog_14_method_50_code 3 = .ok (.bipush 105, 2) := by decide +kernel
theorem d_M_stepWord_5 : decode prog_14_method_50_code 5 = .ok (.bipush 110, 2) := by decide +kernel
theorem d_M_stepWord_7 : decode prog_14_method_50_code 7 = .ok (.bipush 100, 2) := by decide +kernel
theorem d_M_stepWord_9 : decode prog_14_method_50_code 9 = .ok (.iconst 0, 1) := by decide +kernel
theorem d_M_stepWord_10 : decode prog_14_method_50_code 10 = .ok (.iconst 0, 1) := by decide +kernel
theorem d_M_stepWord_11 : decode prog_14_method_50_code 11 = .ok (.invokestatic 158, 3) := by decide +kernel
theorem d_M_stepWord_14 : decode prog_14_method_50_code 14 = .ok (.invokevirtual 162, 3) := by decide +kernel
theorem d_M_stepWord_17 : decode prog_14_method_50_code 17 = .ok (.ifCond .eq 5, 3) := by decide +kernel
theorem d_M_stepWord_20 : decode prog_14_method_50_code 20 = .ok (.iconst 0, 1) := by decide +kernel
theorem d_M_stepWord_21 : decode prog_14_method_50_code 21 = .ok (.ireturn, 1) := by decide +kernel
theorem d_M_stepWord_22 : decode prog_14_method_50_code 22 = .ok (.aload_n 0, 1) := by decide +kernel
theorem d_M_stepWord_23 : decode prog_14_method_50_code 23 = .ok (.bipush 108, 2) := by decide +kernel
theorem d_M_stepWord_25 : decode prog_14_method_50_code 25 = .ok (.bipush 111, 2) := by decide +kernel
theorem d_M_stepWord_27 : decode prog_14_method_50_code 27 = .ok (.bipush 111, 2) := by decide +kernel
theorem d_M_stepWord_29 : decode prog_14_method_50_code 29 = .ok (.bipush 115, 2) := by decide +kernel
theorem d_M_stepWord_31 : decode prog_14_method_50_code 31 = .ok (.bipush 101, 2) := by decide +kernel
theorem d_M_stepWord_33 : decode prog_14_method_50_code 33 = .ok (.iconst 0, 1) := by decide +kernel
theorem d_M_stepWord_34 : decode prog_14_method_50_code 34 = .ok (.invokestatic 158, 3) := by decide +kernel
theorem d_M_stepWord_37 : decode prog_14_method_50_code 37 = .ok (.invokevirtual 162, 3) := by decide +kernel
theorem d_M_stepWord_40 : decode prog_14_method_50_code 40 = .ok (.ifCond .eq 5, 3) := by decide +kernel
theorem d_M_stepWord_43 : decode prog_14_method_50_code 43 = .ok (.iconst 1, 1) := by decide +kernel
theorem d_M_stepWord_44 : decode prog_14_method_50_code 44 = .ok (.ireturn, 1) := by decide +kernel
theorem d_M_stepWord_45 : decode prog_14_method_50_code 45 = .ok (.aload_n 0, 1) := by decide +kernel
theorem d_M_stepWord_46 : decode prog_14_method_50_code 46 = .ok (.bipush 99, 2) := by decide +kernel
theorem d_M_stepWord_48 : decode prog_14_method_50_code 48 = .ok (.bipush 97, 2) := by decide +kernel
theorem d_M_stepWord_50 : decode prog_14_method_50_code 50 = .ok (.bipush 108, 2) := by decide +kernel
theorem d_M_stepWord_52 : decode prog_14_method_50_code 52 = .ok (.bipush 108, 2) := by decide +kernel
theorem d_M_stepWord_54 : decode prog_14_method_50_code 54 = .ok (.iconst 0, 1) := by decide +kernel
theorem d_M_stepWord_55 : decode prog_14_method_50_code 55 = .ok (.iconst 0, 1) := by decide +kernel
theorem d_M_stepWord_56 : decode prog_14_method_50_code 56 = .ok (.invokestatic 158, 3) := by decide +kernel
theorem d_M_stepWord_59 : decode prog_14_method_50_code 59 = .ok (.invokevirtual 162, 3) := by decide +kernel
theorem d_M_stepWord_62 : decode prog_14_method_50_code 62 = .ok (.ifCond .eq 5, 3) := by decide +kernel
theorem d_M_stepWord_65 : decode prog_14_method_50_code 65 = .ok (.iconst 2, 1) := by decide +kernel
theorem d_M_stepWord_66 : decode prog_14_method_50_code 66 = .ok (.ireturn, 1) := by decide +kernel
theorem d_M_stepWord_67 : decode prog_14_method_50_code 67 = .ok (.aload_n 0, 1) := by decide +kernel
theorem d_M_stepWord_68 : decode prog_14_method_50_code 68 = .ok (.bipush 103, 2) := by decide +kernel
theorem d_M_stepWord_70 : decode prog_14_method_50_code 70 = .ok (.bipush 117, 2) := by decide +kernel
theorem d_M_stepWord_72 : decode prog_14_method_50_code 72 = .ok (.bipush 101, 2) := by decide +kernel
theorem d_M_stepWord_74 : decode prog_14_method_50_code 74 = .ok (.bipush 115, 2) := by decide +kernel
theorem d_M_stepWord_76 : decode prog_14_method_50_code 76 = .ok (.bipush 115, 2) := by decide +kernel
theorem d_M_stepWord_78 : decode prog_14_method_50_code 78 = .ok (.iconst 0, 1) := by decide +kernel
theorem d_M_stepWord_79 : decode prog_14_method_50_code 79 = .ok (.invokestatic 158, 3) := by decide +kernel
theorem d_M_stepWord_82 : decode prog_14_method_50_code 82 = .ok (.invokevirtual 162, 3) := by decide +kernel
theorem d_M_stepWord_85 : decode prog_14_method_50_code 85 = .ok (.ifCond .eq 5, 3) := by decide +kernel
theorem d_M_stepWord_88 : decode prog_14_method_50_code 88 = .ok (.iconst 3, 1) := by decide +kernel
theorem d_M_stepWord_89 : decode prog_14_method_50_code 89 = .ok (.ireturn, 1) := by decide +kernel
theorem d_M_stepWord_90 : decode prog_14_method_50_code 90 = .ok (.aload_n 0, 1) := by decide +kernel
theorem d_M_stepWord_91 : decode prog_14_method_50_code 91 = .ok (.bipush 119, 2) := by decide +kernel
theorem d_M_stepWord_93 : decode prog_14_method_50_code 93 = .ok (.bipush 104, 2) := by decide +kernel
theorem d_M_stepWord_95 : decode prog_14_method_50_code 95 = .ok (.bipush 101, 2) := by decide +kernel
theorem d_M_stepWord_97 : decode prog_14_method_50_code 97 = .ok (.bipush 110, 2) := by decide +kernel
theorem d_M_stepWord_99 : decode prog_14_method_50_code 99 = .ok (.iconst 0, 1) := by decide +kernel
theorem d_M_stepWord_100 : decode prog_14_method_50_code 100 = .ok (.iconst 0, 1) := by decide +kernel
theorem d_M_stepWord_101 : decode prog_14_method_50_code 101 = .ok (.invokestatic 158, 3) := by decide +kernel
theorem d_M_stepWord_104 : decode prog_14_method_50_code 104 = .ok (.invokevirtual 162, 3) := by decide +kernel
theorem d_M_stepWord_107 : decode prog_14_method_50_code 107 = .ok (.ifCond .eq 5, 3) := by decide +kernel
theorem d_M_stepWord_110 : decode prog_14_method_50_code 110 = .ok (.iconst 4, 1) := by decide +kernel
theorem d_M_stepWord_111 : decode prog_14_method_50_code 111 = .ok (.ireturn, 1) := by decide +kernel
theorem d_M_stepWord_112 : decode prog_14_method_50_code 112 = .ok (.aload_n 0, 1) := by decide +kernel
theorem d_M_stepWord_113 : decode prog_14_method_50_code 113 = .ok (.bipush 108, 2) := by decide +kernel
theorem d_M_stepWord_115 : decode prog_14_method_50_code 115 = .ok (.bipush 111, 2) := by decide +kernel
theorem d_M_stepWord_117 : decode prog_14_method_50_code 117 = .ok (.bipush 111, 2) := by decide +kernel
theorem d_M_stepWord_119 : decode prog_14_method_50_code 119 = .ok (.bipush 112, 2) := by decide +kernel
theorem d_M_stepWord_121 : decode prog_14_method_50_code 121 = .ok (.iconst 0, 1) := by decide +kernel
theorem d_M_stepWord_122 : decode prog_14_method_50_code 122 = .ok (.iconst 0, 1) := by decide +kernel
theorem d_M_stepWord_123 : decode prog_14_method_50_code 123 = .ok (.invokestatic 158, 3) := by decide +kernel
theorem d_M_stepWord_126 : decode prog_14_method_50_code 126 = .ok (.invokevirtual 162, 3) := by decide +kernel
theorem d_M_stepWord_129 : decode prog_14_method_50_code 129 = .ok (.ifCond .eq 5, 3) := by decide +kernel
theorem d_M_stepWord_132 : decode prog_14_method_50_code 132 = .ok (.iconst 5, 1) := by decide +kernel
theorem d_M_stepWord_133 : decode prog_14_method_50_code 133 = .ok (.ireturn, 1) := by decide +kernel
theorem d_M_stepWord_134 : decode prog_14_method_50_code 134 = .ok (.aload_n 0, 1) := by decide +kernel
theorem d_M_stepWord_135 : decode prog_14_method_50_code 135 = .ok (.bipush 115, 2) := by decide +kernel
theorem d_M_stepWord_137 : decode prog_14_method_50_code 137 = .ok (.bipush 116, 2) := by decide +kernel
theorem d_M_stepWord_139 : decode prog_14_method_50_code 139 = .ok (.bipush 111, 2) := by decide +kernel
theorem d_M_stepWord_141 : decode prog_14_method_50_code 141 = .ok (.bipush 112, 2) := by decide +kernel
theorem d_M_stepWord_143 : decode prog_14_method_50_code 143 = .ok (.iconst 0, 1) := by decide +kernel
theorem d_M_stepWord_144 : decode prog_14_method_50_code 144 = .ok (.iconst 0, 1) := by decide +kernel
theorem d_M_stepWord_145 : decode prog_14_method_50_code 145 = .ok (.invokestatic 158, 3) := by decide +kernel
theorem d_M_stepWord_148 : decode prog_14_method_50_code 148 = .ok (.invokevirtual 162, 3) := by decide +kernel
theorem d_M_stepWord_151 : decode prog_14_method_50_code 151 = .ok (.ifCond .eq 8, 3) := by decide +kernel
theorem d_M_stepWord_154 : decode prog_14_method_50_code 154 = .ok (.bipush 6, 2) := by decide +kernel
theorem d_M_stepWord_156 : decode prog_14_method_50_code 156 = .ok (.goto 4, 3) := by decide +kernel
theorem d_M_stepWord_159 : decode prog_14_method_50_code 159 = .ok (.iconst (-1), 1) := by decide +kernel
theorem d_M_stepWord_160 : decode prog_14_method_50_code 160 = .ok (.ireturn, 1) := by decide +kernel
def M_stepWord (Y : Ly) (l0 : Nat) (h : Hp) : Option Int32 :=
  (M_spelled Y 98 105 110 100 0 0 h).bind fun q1 =>
  (M_isWord Y l0 q1 h).bind fun q2 =>
  if q2 = true then
    some 0
  else
    (M_spelled Y 108 111 111 115 101 0 h).bind fun q4 =>
    (M_isWord Y l0 q4 h).bind fun q5 =>
    if q5 = true then
      some 1
    else
      (M_spelled Y 99 97 108 108 0 0 h).bind fun q7 =>
      (M_isWord Y l0 q7 h).bind fun q8 =>
      if q8 = true then
        some 2
      else
        (M_spelled Y 103 117 101 115 115 0 h).bind fun q10 =>
        (M_isWord Y l0 q10 h).bind fun q11 =>
        if q11 = true then
          some 3
        else
          (M_spelled Y 119 104 101 110 0 0 h).bind fun q13 =>
          (M_isWord Y l0 q13 h).bind fun q14 =>
          if q14 = true then
            some 4
          else
            (M_spelled Y 108 111 111 112 0 0 h).bind fun q16 =>
            (M_isWord Y l0 q16 h).bind fun q17 =>
            if q17 = true then
              some 5
            else
              (M_spelled Y 115 116 111 112 0 0 h).bind fun q19 =>
              (M_isWord Y l0 q19 h).bind fun q20 =>
              if q20 = true then
                some 6
              else
                some (-1)
theorem ok_M_stepWord (Y : Ly) (l0 : Nat) (h : Hp) (t0 : isO Y 12 l0) : AM Y 1 K_M_stepWord [.ref l0] h (M_stepWord Y l0 h) (pI h) := by
  refine AM.of rfl (Nat.le_of_ble_eq_true rfl) ?_
  show AW Y 1 K_M_stepWord 0 [(0, .ref l0)] [] h (M_stepWord Y l0 h) (pI h)
  unfold M_stepWord
  refine aw_aload_n (pc := 0) d_M_stepWord_0 rfl 0 rfl ?_
  refine aw_bipush (pc := 1) (x := 98) d_M_stepWord_1 (by decide) ?_
  refine aw_bipush (pc := 3) (x := 105) d_M_stepWord_3 (by decide) ?_
  refine aw_bipush (pc := 5) (x := 110) d_M_stepWord_5 (by decide) ?_
  refine aw_bipush (pc := 7) (x := 100) d_M_stepWord_7 (by decide) ?_
  refine aw_iconst (pc := 9) (x := 0) d_M_stepWord_9 (by decide) ?_
  refine aw_iconst (pc := 10) (x := 0) d_M_stepWord_10 (by decide) ?_
  refine aw_cSpL (pc := 11) (As := [.int 98, .int 105, .int 110, .int 100, .int 0, .int 0]) (st := [.ref l0]) (ok_M_spelled Y 98 105 110 100 0 0 h) okS_M_spelled w8_12 d_M_stepWord_11 rfl (Nat.le_of_ble_eq_true rfl) rfl (Nat.le_of_ble_eq_true rfl) (fun q1 hq1 hTq1 => ?_)
  refine aw_cVpZ (pc := 14) (ci := 12) (T := TX12) (N := 44) (As := [.long q1]) (st := []) (ok_M_isWord Y l0 q1 h t0) okV_M_isWord rfl (by decide) t0 w8_15 d_M_stepWord_14 rfl (Nat.le_of_ble_eq_true rfl) rfl (Nat.le_of_ble_eq_true rfl) (fun q2 hq2 hTq2 => ?_)
  refine aw_beq (pc := 17) (tgt := 22) d_M_stepWord_17 (by decide) (fun c3 => ?_) (fun c3 => ?_)
  · refine aw_iconst (pc := 20) (x := 0) d_M_stepWord_20 (by decide) ?_
    exact aw_ireturn (pc := 21) d_M_stepWord_21 rfl rfl
  · refine aw_aload_n (pc := 22) d_M_stepWord_22 rfl 0 rfl ?_
    refine aw_bipush (pc := 23) (x := 108) d_M_stepWord_23 (by decide) ?_
    refine aw_bipush (pc := 25) (x := 111) d_M_stepWord_25 (by decide) ?_
    refine aw_bipush (pc := 27) (x := 111) d_M_stepWord_27 (by decide) ?_
    refine aw_bipush (pc := 29) (x := 115) d_M_stepWord_29 (by decide) ?_
    refine aw_bipush (pc := 31) (x := 101) d_M_stepWord_31 (by decide) ?_
    refine aw_iconst (pc := 33) (x := 0) d_M_stepWord_33 (by decide) ?_
    refine aw_cSpL (pc := 34) (As := [.int 108, .int 111, .int 111, .int 115, .int 101, .int 0]) (st := [.ref l0]) (ok_M_spelled Y 108 111 111 115 101 0 h) okS_M_spelled w8_12 d_M_stepWord_34 rfl (Nat.le_of_ble_eq_true rfl) rfl (Nat.le_of_ble_eq_true rfl) (fun q4 hq4 hTq4 => ?_)
    refine aw_cVpZ (pc := 37) (ci := 12) (T := TX12) (N := 44) (As := [.long q4]) (st := []) (ok_M_isWord Y l0 q4 h t0) okV_M_isWord rfl (by decide) t0 w8_15 d_M_stepWord_37 rfl (Nat.le_of_ble_eq_true rfl) rfl (Nat.le_of_ble_eq_true rfl) (fun q5 hq5 hTq5 => ?_)
    refine aw_beq (pc := 40) (tgt := 45) d_M_stepWord_40 (by decide) (fun c6 => ?_) (fun c6 => ?_)
    · refine aw_iconst (pc := 43) (x := 1) d_M_stepWord_43 (by decide) ?_
      exact aw_ireturn (pc := 44) d_M_stepWord_44 rfl rfl
    · refine aw_aload_n (pc := 45) d_M_stepWord_45 rfl 0 rfl ?_
      refine aw_bipush (pc := 46) (x := 99) d_M_stepWord_46 (by decide) ?_
      refine aw_bipush (pc := 48) (x := 97) d_M_stepWord_48 (by decide) ?_
      refine aw_bipush (pc := 50) (x := 108) d_M_stepWord_50 (by decide) ?_
      refine aw_bipush (pc := 52) (x := 108) d_M_stepWord_52 (by decide) ?_
      refine aw_iconst (pc := 54) (x := 0) d_M_stepWord_54 (by decide) ?_
      refine aw_iconst (pc := 55) (x := 0) d_M_stepWord_55 (by decide) ?_
      refine aw_cSpL (pc := 56) (As := [.int 99, .int 97, .int 108, .int 108, .int 0, .int 0]) (st := [.ref l0]) (ok_M_spelled Y 99 97 108 108 0 0 h) okS_M_spelled w8_12 d_M_stepWord_56 rfl (Nat.le_of_ble_eq_true rfl) rfl (Nat.le_of_ble_eq_true rfl) (fun q7 hq7 hTq7 => ?_)
      refine aw_cVpZ (pc := 59) (ci := 12) (T := TX12) (N := 44) (As := [.long q7]) (st := []) (ok_M_isWord Y l0 q7 h t0) okV_M_isWord rfl (by decide) t0 w8_15 d_M_stepWord_59 rfl (Nat.le_of_ble_eq_true rfl) rfl (Nat.le_of_ble_eq_true rfl) (fun q8 hq8 hTq8 => ?_)
      refine aw_beq (pc := 62) (tgt := 67) d_M_stepWord_62 (by decide) (fun c9 => ?_) (fun c9 => ?_)
      · refine aw_iconst (pc := 65) (x := 2) d_M_stepWord_65 (by decide) ?_
        exact aw_ireturn (pc := 66) d_M_stepWord_66 rfl rfl
      · refine aw_aload_n (pc := 67) d_M_stepWord_67 rfl 0 rfl ?_
        refine aw_bipush (pc := 68) (x := 103) d_M_stepWord_68 (by decide) ?_
        refine aw_bipush (pc := 70) (x := 117) d_M_stepWord_70 (by decide) ?_
        refine aw_bipush (pc := 72) (x := 101) d_M_stepWord_72 (by decide) ?_
        refine aw_bipush (pc := 74) (x := 115) d_M_stepWord_74 (by decide) ?_
        refine aw_bipush (pc := 76) (x := 115) d_M_stepWord_76 (by decide) ?_
        refine aw_iconst (pc := 78) (x := 0) d_M_stepWord_78 (by decide) ?_
        refine aw_cSpL (pc := 79) (As := [.int 103, .int 117, .int 101, .int 115, .int 115, .int 0]) (st := [.ref l0]) (ok_M_spelled Y 103 117 101 115 115 0 h) okS_M_spelled w8_12 d_M_stepWord_79 rfl (Nat.le_of_ble_eq_true rfl) rfl (Nat.le_of_ble_eq_true rfl) (fun q10 hq10 hTq10 => ?_)
        refine aw_cVpZ (pc := 82) (ci := 12) (T := TX12) (N := 44) (As := [.long q10]) (st := []) (ok_M_isWord Y l0 q10 h t0) okV_M_isWord rfl (by decide) t0 w8_15 d_M_stepWord_82 rfl (Nat.le_of_ble_eq_true rfl) rfl (Nat.le_of_ble_eq_true rfl) (fun q11 hq11 hTq11 => ?_)
        refine aw_beq (pc := 85) (tgt := 90) d_M_stepWord_85 (by decide) (fun c12 => ?_) (fun c12 => ?_)
        · refine aw_iconst (pc := 88) (x := 3) d_M_stepWord_88 (by decide) ?_
          exact aw_ireturn (pc := 89) d_M_stepWord_89 rfl rfl
        · refine aw_aload_n (pc := 90) d_M_stepWord_90 rfl 0 rfl ?_
          refine aw_bipush (pc := 91) (x := 119) d_M_stepWord_91 (by decide) ?_
          refine aw_bipush (pc := 93) (x := 104) d_M_stepWord_93 (by decide) ?_
          refine aw_bipush (pc := 95) (x := 101) d_M_stepWord_95 (by decide) ?_
          refine aw_bipush (pc := 97) (x := 110) d_M_stepWord_97 (by decide) ?_
          refine aw_iconst (pc := 99) (x := 0) d_M_stepWord_99 (by decide) ?_
          refine aw_iconst (pc := 100) (x := 0) d_M_stepWord_100 (by decide) ?_
          refine aw_cSpL (pc := 101) (As := [.int 119, .int 104, .int 101, .int 110, .int 0, .int 0]) (st := [.ref l0]) (ok_M_spelled Y 119 104 101 110 0 0 h) okS_M_spelled w8_12 d_M_stepWord_101 rfl (Nat.le_of_ble_eq_true rfl) rfl (Nat.le_of_ble_eq_true rfl) (fun q13 hq13 hTq13 => ?_)
          refine aw_cVpZ (pc := 104) (ci := 12) (T := TX12) (N := 44) (As := [.long q13]) (st := []) (ok_M_isWord Y l0 q13 h t0) okV_M_isWord rfl (by decide) t0 w8_15 d_M_stepWord_104 rfl (Nat.le_of_ble_eq_true rfl) rfl (Nat.le_of_ble_eq_true rfl) (fun q14 hq14 hTq14 => ?_)
          refine aw_beq (pc := 107) (tgt := 112) d_M_stepWord_107 (by decide) (fun c15 => ?_) (fun c15 => ?_)
          · refine aw_iconst (pc := 110) (x := 4) d_M_stepWord_110 (by decide) ?_
            exact aw_ireturn (pc := 111) d_M_stepWord_111 rfl rfl
          · refine aw_aload_n (pc := 112) d_M_stepWord_112 rfl 0 rfl ?_
            refine aw_bipush (pc := 113) (x := 108) d_M_stepWord_113 (by decide) ?_
            refine aw_bipush (pc := 115) (x := 111) d_M_stepWord_115 (by decide) ?_
            refine aw_bipush (pc := 117) (x := 111) d_M_stepWord_117 (by decide) ?_
            refine aw_bipush (pc := 119) (x := 112) d_M_stepWord_119 (by decide) ?_
            refine aw_iconst (pc := 121) (x := 0) d_M_stepWord_121 (by decide) ?_
            refine aw_iconst (pc := 122) (x := 0) d_M_stepWord_122 (by decide) ?_
            refine aw_cSpL (pc := 123) (As := [.int 108, .int 111, .int 111, .int 112, .int 0, .int 0]) (st := [.ref l0]) (ok_M_spelled Y 108 111 111 112 0 0 h) okS_M_spelled w8_12 d_M_stepWord_123 rfl (Nat.le_of_ble_eq_true rfl) rfl (Nat.le_of_ble_eq_true rfl) (fun q16 hq16 hTq16 => ?_)
            refine aw_cVpZ (pc := 126) (ci := 12) (T := TX12) (N := 44) (As := [.long q16]) (st := []) (ok_M_isWord Y l0 q16 h t0) okV_M_isWord rfl (by decide) t0 w8_15 d_M_stepWord_126 rfl (Nat.le_of_ble_eq_true rfl) rfl (Nat.le_of_ble_eq_true rfl) (fun q17 hq17 hTq17 => ?_)
            refine aw_beq (pc := 129) (tgt := 134) d_M_stepWord_129 (by decide) (fun c18 => ?_) (fun c18 => ?_)
            · refine aw_iconst (pc := 132) (x := 5) d_M_stepWord_132 (by decide) ?_
              exact aw_ireturn (pc := 133) d_M_stepWord_133 rfl rfl
            · refine aw_aload_n (pc := 134) d_M_stepWord_134 rfl 0 rfl ?_
              refine aw_bipush (pc := 135) (x := 115) d_M_stepWord_135 (by decide) ?_
              refine aw_bipush (pc := 137) (x := 116) d_M_stepWord_137 (by decide) ?_
              refine aw_bipush (pc := 139) (x := 111) d_M_stepWord_139 (by decide) ?_
              refine aw_bipush (pc := 141) (x := 112) d_M_stepWord_141 (by decide) ?_
              refine aw_iconst (pc := 143) (x := 0) d_M_stepWord_143 (by decide) ?_
              refine aw_iconst (pc := 144) (x := 0) d_M_stepWord_144 (by decide) ?_
              refine aw_cSpL (pc := 145) (As := [.int 115, .int 116, .int 111, .int 112, .int 0, .int 0]) (st := [.ref l0]) (ok_M_spelled Y 115 116 111 112 0 0 h) okS_M_spelled w8_12 d_M_stepWord_145 rfl (Nat.le_of_ble_eq_true rfl) rfl (Nat.le_of_ble_eq_true rfl) (fun q19 hq19 hTq19 => ?_)
              refine aw_cVpZ (pc := 148) (ci := 12) (T := TX12) (N := 44) (As := [.long q19]) (st := []) (ok_M_isWord Y l0 q19 h t0) okV_M_isWord rfl (by decide) t0 w8_15 d_M_stepWord_148 rfl (Nat.le_of_ble_eq_true rfl) rfl (Nat.le_of_ble_eq_true rfl) (fun q20 hq20 hTq20 => ?_)
              refine aw_beq (pc := 151) (tgt := 159) d_M_stepWord_151 (by decide) (fun c21 => ?_) (fun c21 => ?_)
              · refine aw_bipush (pc := 154) (x := 6) d_M_stepWord_154 (by decide) ?_
                refine aw_goto (pc := 156) (tgt := 160) d_M_stepWord_156 (by decide) ?_
                exact aw_ireturn (pc := 160) d_M_stepWord_160 rfl rfl
              · refine aw_iconst (pc := 159) (x := (-1)) d_M_stepWord_159 (by decide) ?_
                exact aw_ireturn (pc := 160) d_M_stepWord_160 rfl rfl
