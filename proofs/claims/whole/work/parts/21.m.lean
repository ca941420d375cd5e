/-! LastPagesModel.sizeOf(I)I -/
theorem d_M_sizeOf_0 : decode prog_14_method_20_code 0 = .ok (.iconst 0, 1) := by decide +kernel
theorem d_M_sizeOf_1 : decode prog_14_method_20_code 1 = .ok (.istore_n 1, 1) := by decide +kernel
theorem d_M_sizeOf_2 : decode prog_14_method_20_code 2 = .ok (.iconst 0, 1) := by decide +kernel
theorem d_M_sizeOf_3 : decode prog_14_method_20_code 3 = .ok (.istore_n 2, 1) := by decide +kernel
theorem d_M_sizeOf_4 : decode prog_14_method_20_code 4 = .ok (.iload_n 2, 1) := by decide +kernel
theorem d_M_sizeOf_5 : decode prog_14_method_20_code 5 = .ok (.bipush 8, 2) := by decide +kernel
theorem d_M_sizeOf_7 : decode prog_14_method_20_code 7 = .ok (.if_icmp .ge 25, 3) := by decide +kernel
theorem d_M_sizeOf_10 : decode prog_14_method_20_code 10 = .ok (.iload_n 1, 1) := by decide +kernel
theorem d_M_sizeOf_11 : decode prog_14_method_20_code 11 = .ok (.iload_n 0, 1) := by decide +kernel
theorem d_M_sizeOf_12 : decode prog_14_method_20_code 12 = .ok (.iload_n 2, 1) := by decide +kernel
theorem d_M_sizeOf_13 : decode prog_14_method_20_code 13 = .ok (.invokestatic 117, 3) := by decide +kernel
theorem d_M_sizeOf_16 : decode prog_14_method_20_code 16 = .ok (.ifCond .eq 7, 3) := by decide +kernel
theorem d_M_sizeOf_19 : decode prog_14_method_20_code 19 = .ok (.iconst 1, 1) := by decide +kernel
theorem d_M_sizeOf_20 : decode prog_14_method_20_code 20 = .ok (.goto 4, 3) := by decide +kernel
theorem d_M_sizeOf_23 : decode prog_14_method_20_code 23 = .ok (.iconst 0, 1) := by decide +kernel
theorem d_M_sizeOf_24 : decode prog_14_method_20_code 24 = .ok (.iadd, 1) := by decide +kernel
theorem d_M_sizeOf_25 : decode prog_14_method_20_code 25 = .ok (.istore_n 1, 1) := by decide +kernel
theorem d_M_sizeOf_26 : decode prog_14_method_20_code 26 = .ok (.iinc 2 1, 3) := by decide +kernel
theorem d_M_sizeOf_29 : decode prog_14_method_20_code 29 = .ok (.goto (-25), 3) := by decide +kernel
theorem d_M_sizeOf_32 : decode prog_14_method_20_code 32 = .ok (.iload_n 1, 1) := by decide +kernel
theorem d_M_sizeOf_33 : decode prog_14_method_20_code 33 = .ok (.ireturn, 1) := by decide +kernel
def M_sizeOf_L4 (Y : Ly) (l0 : Int32) (h : Hp) : Nat → Int32 → Int32 → Option Int32
  | 0, _, _ => none
  | F + 1, l1, l2 =>
    if 8 ≤ l2 then
      some l1
    else
      (M_has Y l0 l2 h).bind fun q2 =>
      if q2 = true then
        M_sizeOf_L4 Y l0 h F (l1 + 1) (l2 + 1)
      else
        M_sizeOf_L4 Y l0 h F (l1 + 0) (l2 + 1)
theorem M_sizeOf_L4_ok (Y : Ly) (l0 : Int32) (h : Hp) : ∀ (F : Nat) (l1 : Int32) (l2 : Int32), AW Y 1 K_M_sizeOf 4 [(0, .int l0), (1, .int l1), (2, .int l2)] [] h (M_sizeOf_L4 Y l0 h F l1 l2) (pI h) := by
  intro F
  induction F with
  | zero =>
    intro l1 l2
    exact aw_none
  | succ F ih =>
    intro l1 l2
    unfold M_sizeOf_L4
    refine aw_iload_n (pc := 4) d_M_sizeOf_4 rfl 2 rfl ?_
    refine aw_bipush (pc := 5) (x := 8) d_M_sizeOf_5 (by decide) ?_
    refine aw_icmp_ge (pc := 7) (tgt := 32) d_M_sizeOf_7 (by decide) (fun c1 => ?_) (fun c1 => ?_)
    · refine aw_iload_n (pc := 32) d_M_sizeOf_32 rfl 1 rfl ?_
      exact aw_ireturn (pc := 33) d_M_sizeOf_33 rfl rfl
    · refine aw_iload_n (pc := 10) d_M_sizeOf_10 rfl 1 rfl ?_
      refine aw_iload_n (pc := 11) d_M_sizeOf_11 rfl 0 rfl ?_
      refine aw_iload_n (pc := 12) d_M_sizeOf_12 rfl 2 rfl ?_
      refine aw_cSpZ (pc := 13) (As := [.int l0, .int l2]) (st := [.int l1]) (ok_M_has Y l0 l2 h) okS_M_has w9_110 d_M_sizeOf_13 rfl (Nat.le_of_ble_eq_true rfl) rfl (Nat.le_of_ble_eq_true rfl) (fun q2 hq2 hTq2 => ?_)
      refine aw_beq (pc := 16) (tgt := 23) d_M_sizeOf_16 (by decide) (fun c3 => ?_) (fun c3 => ?_)
      · refine aw_iconst (pc := 19) (x := 1) d_M_sizeOf_19 (by decide) ?_
        refine aw_goto (pc := 20) (tgt := 24) d_M_sizeOf_20 (by decide) ?_
        refine aw_iadd (pc := 24) d_M_sizeOf_24 ?_
        refine aw_istore_n (pc := 25) (lv' := [(1, .int (l1 + 1)), (0, .int l0), (2, .int l2)]) d_M_sizeOf_25 rfl (by decide) rfl ?_
        refine aw_iinc (pc := 26) (w := l2 + 1) (lv' := [(2, .int (l2 + 1)), (1, .int (l1 + 1)), (0, .int l0)]) d_M_sizeOf_26 2 rfl rfl (by decide) rfl ?_
        refine aw_goto (pc := 29) (tgt := 4) d_M_sizeOf_29 (by decide) ?_
        exact aw_lv [2, 1, 0] rfl (ih (l1 + 1) (l2 + 1))
      · refine aw_iconst (pc := 23) (x := 0) d_M_sizeOf_23 (by decide) ?_
        refine aw_iadd (pc := 24) d_M_sizeOf_24 ?_
        refine aw_istore_n (pc := 25) (lv' := [(1, .int (l1 + 0)), (0, .int l0), (2, .int l2)]) d_M_sizeOf_25 rfl (by decide) rfl ?_
        refine aw_iinc (pc := 26) (w := l2 + 1) (lv' := [(2, .int (l2 + 1)), (1, .int (l1 + 0)), (0, .int l0)]) d_M_sizeOf_26 2 rfl rfl (by decide) rfl ?_
        refine aw_goto (pc := 29) (tgt := 4) d_M_sizeOf_29 (by decide) ?_
        exact aw_lv [2, 1, 0] rfl (ih (l1 + 0) (l2 + 1))
def M_sizeOf (Y : Ly) (l0 : Int32) (h : Hp) : Option Int32 :=
  M_sizeOf_L4 Y l0 h FU 0 0
theorem ok_M_sizeOf (Y : Ly) (l0 : Int32) (h : Hp) : AM Y 1 K_M_sizeOf [.int l0] h (M_sizeOf Y l0 h) (pI h) := by
  refine AM.of rfl (Nat.le_of_ble_eq_true rfl) ?_
  show AW Y 1 K_M_sizeOf 0 [(0, .int l0)] [] h (M_sizeOf Y l0 h) (pI h)
  unfold M_sizeOf
  refine aw_iconst (pc := 0) (x := 0) d_M_sizeOf_0 (by decide) ?_
  refine aw_istore_n (pc := 1) (lv' := [(1, .int 0), (0, .int l0)]) d_M_sizeOf_1 rfl (by decide) rfl ?_
  refine aw_iconst (pc := 2) (x := 0) d_M_sizeOf_2 (by decide) ?_
  refine aw_istore_n (pc := 3) (lv' := [(2, .int 0), (1, .int 0), (0, .int l0)]) d_M_sizeOf_3 rfl (by decide) rfl ?_
  exact aw_lv [2, 1, 0] rfl (M_sizeOf_L4_ok Y l0 h FU 0 0)
/-! LastPagesModel.isBetter(II)Z -/
theorem d_M_isBetter_0 : decode prog_14_method_161_code 0 = .ok (.aload_n 0, 1) := by decide +kernel
theorem d_M_isBetter_1 : decode prog_14_method_161_code 1 = .ok (.iload_n 1, 1) := by decide +kernel
theorem d_M_isBetter_2 : decode prog_14_method_161_code 2 = .ok (.invokevirtual 495, 3) := by decide +kernel
theorem d_M_isBetter_5 : decode prog_14_method_161_code 5 = .ok (.invokestatic 480, 3) := by decide +kernel
theorem d_M_isBetter_8 : decode prog_14_method_161_code 8 = .ok (.aload_n 0, 1) := by decide +kernel
theorem d_M_isBetter_9 : decode prog_14_method_161_code 9 = .ok (.iload_n 2, 1) := by decide +kernel
theorem d_M_isBetter_10 : decode prog_14_method_161_code 10 = .ok (.invokevirtual 495, 3) := by decide +kernel
theorem d_M_isBetter_13 : decode prog_14_method_161_code 13 = .ok (.invokestatic 480, 3) := by decide +kernel
theorem d_M_isBetter_16 : decode prog_14_method_161_code 16 = .ok (.isub, 1) := by decide +kernel
theorem d_M_isBetter_17 : decode prog_14_method_161_code 17 = .ok (.istore_n 3, 1) := by decide +kernel
theorem d_M_isBetter_18 : decode prog_14_method_161_code 18 = .ok (.iload_n 3, 1) := by decide +kernel
theorem d_M_isBetter_19 : decode prog_14_method_161_code 19 = .ok (.ifCond .eq 13, 3) := by decide +kernel
theorem d_M_isBetter_22 : decode prog_14_method_161_code 22 = .ok (.iload_n 3, 1) := by decide +kernel
theorem d_M_isBetter_23 : decode prog_14_method_161_code 23 = .ok (.ifCond .le 7, 3) := by decide +kernel
theorem d_M_isBetter_26 : decode prog_14_method_161_code 26 = .ok (.iconst 1, 1) := by decide +kernel
theorem d_M_isBetter_27 : decode prog_14_method_161_code 27 = .ok (.goto 4, 3) := by decide +kernel
theorem d_M_isBetter_30 : decode prog_14_method_161_code 30 = .ok (.iconst 0, 1) := by decide +kernel
theorem d_M_isBetter_31 : decode prog_14_method_161_code 31 = .ok (.ireturn, 1) := by decide +kernel
theorem d_M_isBetter_32 : decode prog_14_method_161_code 32 = .ok (.aload_n 0, 1) := by decide +kernel
theorem d_M_isBetter_33 : decode prog_14_method_161_code 33 = .ok (.iload_n 1, 1) := by decide +kernel
theorem d_M_isBetter_34 : decode prog_14_method_161_code 34 = .ok (.invokevirtual 498, 3) := by decide +kernel
theorem d_M_isBetter_37 : decode prog_14_method_161_code 37 = .ok (.aload_n 0, 1) := by decide +kernel
theorem d_M_isBetter_38 : decode prog_14_method_161_code 38 = .ok (.iload_n 2, 1) := by decide +kernel
theorem d_M_isBetter_39 : decode prog_14_method_161_code 39 = .ok (.invokevirtual 498, 3) := by decide +kernel
theorem d_M_isBetter_42 : decode prog_14_method_161_code 42 = .ok (.isub, 1) := by decide +kernel
theorem d_M_isBetter_43 : decode prog_14_method_161_code 43 = .ok (.istore 4, 2) := by decide +kernel
theorem d_M_isBetter_45 : decode prog_14_method_161_code 45 = .ok (.iload 4, 2) := by decide +kernel
theorem d_M_isBetter_47 : decode prog_14_method_161_code 47 = .ok (.ifCond .eq 16, 3) := by decide +kernel
theorem d_M_isBetter_50 : decode prog_14_method_161_code 50 = .ok (.iload 4, 2) := by decide +kernel
theorem d_M_isBetter_52 : decode prog_14_method_161_code 52 = .ok (.ifCond .ge 7, 3) := by decide +kernel
theorem d_M_isBetter_55 : decode prog_14_method_161_code 55 = .ok (.iconst 1, 1) := by decide +kernel
theorem d_M_isBetter_56 : decode prog_14_method_161_code 56 = .ok (.goto 23, 3) := by decide +kernel
theorem d_M_isBetter_59 : decode prog_14_method_161_code 59 = .ok (.iconst 0, 1) := by decide +kernel
theorem d_M_isBetter_60 : decode prog_14_method_161_code 60 = .ok (.goto 19, 3) := by decide +kernel
theorem d_M_isBetter_63 : decode prog_14_method_161_code 63 = .ok (.iload_n 1, 1) := by decide +kernel
theorem d_M_isBetter_64 : decode prog_14_method_161_code 64 = .ok (.invokestatic 480, 3) := by decide +kernel
theorem d_M_isBetter_67 : decode prog_14_method_161_code 67 = .ok (.iload_n 2, 1) := by decide +kernel
theorem d_M_isBetter_68 : decode prog_14_method_161_code 68 = .ok (.invokestatic 480, 3) := by decide +kernel
theorem d_M_isBetter_71 : decode prog_14_method_161_code 71 = .ok (.if_icmp .ge 7, 3) := by decide +kernel
theorem d_M_isBetter_74 : decode prog_14_method_161_code 74 = .ok (.iconst 1, 1) := by decide +kernel
theorem d_M_isBetter_75 : decode prog_14_method_161_code 75 = .ok (.goto 4, 3) := by decide +kernel
theorem d_M_isBetter_78 : decode prog_14_method_161_code 78 = .ok (.iconst 0, 1) := by decide +kernel
theorem d_M_isBetter_79 : decode prog_14_method_161_code 79 = .ok (.ireturn, 1) := by decide +kernel
def M_isBetter (Y : Ly) (l0 : Nat) (l1 : Int32) (l2 : Int32) (h : Hp) : Option Bool :=
  (M_knownBy Y l0 l1 h).bind fun q1 =>
  (M_sizeOf Y q1 h).bind fun q2 =>
  (M_knownBy Y l0 l2 h).bind fun q3 =>
  (M_sizeOf Y q3 h).bind fun q4 =>
  if (q2 - q4) = 0 then
    (M_costOf Y l0 l1 h).bind fun q6 =>
    (M_costOf Y l0 l2 h).bind fun q7 =>
    if (q6 - q7) = 0 then
      (M_sizeOf Y l1 h).bind fun q9 =>
      (M_sizeOf Y l2 h).bind fun q10 =>
      if q10 ≤ q9 then
        some false
      else
        some true
    else
      if 0 ≤ (q6 - q7) then
        some false
      else
        some true
  else
    if (q2 - q4) ≤ 0 then
      some false
    else
      some true
theorem ok_M_isBetter (Y : Ly) (l0 : Nat) (l1 : Int32) (l2 : Int32) (h : Hp) (t0 : isO Y 12 l0) : AM Y 2 K_M_isBetter [.ref l0, .int l1, .int l2] h (M_isBetter Y l0 l1 l2 h) (pZ h) := by
  refine AM.of rfl (Nat.le_of_ble_eq_true rfl) ?_
  show AW Y 2 K_M_isBetter 0 [(0, .ref l0), (1, .int l1), (2, .int l2)] [] h (M_isBetter Y l0 l1 l2 h) (pZ h)
  unfold M_isBetter
  refine aw_aload_n (pc := 0) d_M_isBetter_0 rfl 0 rfl ?_
  refine aw_iload_n (pc := 1) d_M_isBetter_1 rfl 1 rfl ?_
  refine aw_cVpI (pc := 2) (ci := 12) (T := TX12) (N := 44) (As := [.int l1]) (st := []) (ok_M_knownBy Y l0 l1 h t0) okV_M_knownBy rfl (by decide) t0 w10_71 d_M_isBetter_2 rfl (Nat.le_of_ble_eq_true rfl) rfl (Nat.le_of_ble_eq_true rfl) (fun q1 hq1 hTq1 => ?_)
  refine aw_cSpI (pc := 5) (As := [.int q1]) (st := []) (ok_M_sizeOf Y q1 h) okS_M_sizeOf w10_32 d_M_isBetter_5 rfl (Nat.le_of_ble_eq_true rfl) rfl (Nat.le_of_ble_eq_true rfl) (fun q2 hq2 hTq2 => ?_)
  refine aw_aload_n (pc := 8) d_M_isBetter_8 rfl 0 rfl ?_
  refine aw_iload_n (pc := 9) d_M_isBetter_9 rfl 2 rfl ?_
  refine aw_cVpI (pc := 10) (ci := 12) (T := TX12) (N := 44) (As := [.int l2]) (st := [.int q2]) (ok_M_knownBy Y l0 l2 h t0) okV_M_knownBy rfl (by decide) t0 w10_71 d_M_isBetter_10 rfl (Nat.le_of_ble_eq_true rfl) rfl (Nat.le_of_ble_eq_true rfl) (fun q3 hq3 hTq3 => ?_)
  refine aw_cSpI (pc := 13) (As := [.int q3]) (st := [.int q2]) (ok_M_sizeOf Y q3 h) okS_M_sizeOf w10_32 d_M_isBetter_13 rfl (Nat.le_of_ble_eq_true rfl) rfl (Nat.le_of_ble_eq_true rfl) (fun q4 hq4 hTq4 => ?_)
  refine aw_isub (pc := 16) d_M_isBetter_16 ?_
  refine aw_istore_n (pc := 17) (lv' := [(3, .int (q2 - q4)), (0, .ref l0), (1, .int l1), (2, .int l2)]) d_M_isBetter_17 rfl (by decide) rfl ?_
  refine aw_iload_n (pc := 18) d_M_isBetter_18 rfl 0 rfl ?_
  refine aw_if_eq (pc := 19) (tgt := 32) d_M_isBetter_19 (by decide) (fun c5 => ?_) (fun c5 => ?_)
  · refine aw_aload_n (pc := 32) d_M_isBetter_32 rfl 1 rfl ?_
    refine aw_iload_n (pc := 33) d_M_isBetter_33 rfl 2 rfl ?_
    refine aw_cVpI (pc := 34) (ci := 12) (T := TX12) (N := 44) (As := [.int l1]) (st := []) (ok_M_costOf Y l0 l1 h t0) okV_M_costOf rfl (by decide) t0 w10_84 d_M_isBetter_34 rfl (Nat.le_of_ble_eq_true rfl) rfl (Nat.le_of_ble_eq_true rfl) (fun q6 hq6 hTq6 => ?_)
    refine aw_aload_n (pc := 37) d_M_isBetter_37 rfl 1 rfl ?_
    refine aw_iload_n (pc := 38) d_M_isBetter_38 rfl 3 rfl ?_
    refine aw_cVpI (pc := 39) (ci := 12) (T := TX12) (N := 44) (As := [.int l2]) (st := [.int q6]) (ok_M_costOf Y l0 l2 h t0) okV_M_costOf rfl (by decide) t0 w10_84 d_M_isBetter_39 rfl (Nat.le_of_ble_eq_true rfl) rfl (Nat.le_of_ble_eq_true rfl) (fun q7 hq7 hTq7 => ?_)
    refine aw_isub (pc := 42) d_M_isBetter_42 ?_
    refine aw_istore (pc := 43) (lv' := [(4, .int (q6 - q7)), (3, .int (q2 - q4)), (0, .ref l0), (1, .int l1), (2, .int l2)]) d_M_isBetter_43 (by decide) rfl ?_
    refine aw_iload (pc := 45) d_M_isBetter_45 0 rfl ?_
    refine aw_if_eq (pc := 47) (tgt := 63) d_M_isBetter_47 (by decide) (fun c8 => ?_) (fun c8 => ?_)
    · refine aw_iload_n (pc := 63) d_M_isBetter_63 rfl 3 rfl ?_
      refine aw_cSpI (pc := 64) (As := [.int l1]) (st := []) (ok_M_sizeOf Y l1 h) okS_M_sizeOf w10_32 d_M_isBetter_64 rfl (Nat.le_of_ble_eq_true rfl) rfl (Nat.le_of_ble_eq_true rfl) (fun q9 hq9 hTq9 => ?_)
      refine aw_iload_n (pc := 67) d_M_isBetter_67 rfl 4 rfl ?_
      refine aw_cSpI (pc := 68) (As := [.int l2]) (st := [.int q9]) (ok_M_sizeOf Y l2 h) okS_M_sizeOf w10_32 d_M_isBetter_68 rfl (Nat.le_of_ble_eq_true rfl) rfl (Nat.le_of_ble_eq_true rfl) (fun q10 hq10 hTq10 => ?_)
      refine aw_icmp_ge (pc := 71) (tgt := 78) d_M_isBetter_71 (by decide) (fun c11 => ?_) (fun c11 => ?_)
      · refine aw_iconst (pc := 78) (x := 0) d_M_isBetter_78 (by decide) ?_
        exact aw_zreturn (pc := 79) (b := false) d_M_isBetter_79 rfl rfl
      · refine aw_iconst (pc := 74) (x := 1) d_M_isBetter_74 (by decide) ?_
        refine aw_goto (pc := 75) (tgt := 79) d_M_isBetter_75 (by decide) ?_
        exact aw_zreturn (pc := 79) (b := true) d_M_isBetter_79 rfl rfl
    · refine aw_iload (pc := 50) d_M_isBetter_50 0 rfl ?_
      refine aw_if_ge (pc := 52) (tgt := 59) d_M_isBetter_52 (by decide) (fun c12 => ?_) (fun c12 => ?_)
      · refine aw_iconst (pc := 59) (x := 0) d_M_isBetter_59 (by decide) ?_
        refine aw_goto (pc := 60) (tgt := 79) d_M_isBetter_60 (by decide) ?_
        exact aw_zreturn (pc := 79) (b := false) d_M_isBetter_79 rfl rfl
      · refine aw_iconst (pc := 55) (x := 1) d_M_isBetter_55 (by decide) ?_
        refine aw_goto (pc := 56) (tgt := 79) d_M_isBetter_56 (by decide) ?_
        exact aw_zreturn (pc := 79) (b := true) d_M_isBetter_79 rfl rfl
  · refine aw_iload_n (pc := 22) d_M_isBetter_22 rfl 0 rfl ?_
    refine aw_if_le (pc := 23) (tgt := 30) d_M_isBetter_23 (by decide) (fun c13 => ?_) (fun c13 => ?_)
    · refine aw_iconst (pc := 30) (x := 0) d_M_isBetter_30 (by decide) ?_
      exact aw_zreturn (pc := 31) (b := false) d_M_isBetter_31 rfl rfl
    · refine aw_iconst (pc := 26) (x := 1) d_M_isBetter_26 (by decide) ?_
      refine aw_goto (pc := 27) (tgt := 31) d_M_isBetter_27 (by decide) ?_
      exact aw_zreturn (pc := 31) (b := true) d_M_isBetter_31 rfl rfl
/-! LastPagesModel.buying(I)I -/
theorem d_M_buying_0 : decode prog_14_method_162_code 0 = .ok (.iconst 0, 1) := by decide +kernel
theorem d_M_buying_1 : decode prog_14_method_162_code 1 = .ok (.istore_n 2, 1) := by decide +kernel
theorem d_M_buying_2 : decode prog_14_method_162_code 2 = .ok (.iconst 1, 1) := by decide +kernel
theorem d_M_buying_3 : decode prog_14_method_162_code 3 = .ok (.istore_n 3, 1) := by decide +kernel
theorem d_M_buying_4 : decode prog_14_method_162_code 4 = .ok (.iload_n 3, 1) := by decide +kernel
theorem d_M_buying_5 : decode prog_14_method_162_code 5 = .ok (.aload_n 0, 1) := by decide +kernel
theorem d_M_buying_6 : decode prog_14_method_162_code 6 = .ok (.invokevirtual 492, 3) := by decide +kernel
theorem d_M_buying_9 : decode prog_14_method_162_code 9 = .ok (.if_icmp .gt 29, 3) := by decide +kernel
theorem d_M_buying_12 : decode prog_14_method_162_code 12 = .ok (.aload_n 0, 1) := by decide +kernel
theorem d_M_buying_13 : decode prog_14_method_162_code 13 = .ok (.iload_n 3, 1) := by decide +kernel
theorem d_M_buying_14 : decode prog_14_method_162_code 14 = .ok (.invokevirtual 498, 3) := by decide +kernel
theorem d_M_buying_17 : decode prog_14_method_162_code 17 = .ok (.iload_n 1, 1) := by decide +kernel
theorem d_M_buying_18 : decode prog_14_method_162_code 18 = .ok (.if_icmp .gt 14, 3) := by decide +kernel
theorem d_M_buying_21 : decode prog_14_method_162_code 21 = .ok (.aload_n 0, 1) := by decide +kernel
theorem d_M_buying_22 : decode prog_14_method_162_code 22 = .ok (.iload_n 3, 1) := by decide +kernel
theorem d_M_buying_23 : decode prog_14_method_162_code 23 = .ok (.iload_n 2, 1) := by decide +kernel
theorem d_M_buying_24 : decode prog_14_method_162_code 24 = .ok (.invokevirtual 501, 3) := by decide +kernel
theorem d_M_buying_27 : decode prog_14_method_162_code 27 = .ok (.ifCond .eq 5, 3) := by decide +kernel
theorem d_M_buying_30 : decode prog_14_method_162_code 30 = .ok (.iload_n 3, 1) := by decide +kernel
theorem d_M_buying_31 : decode prog_14_method_162_code 31 = .ok (.istore_n 2, 1) := by decide +kernel
theorem d_M_buying_32 : decode prog_14_method_162_code 32 = .ok (.iinc 3 1, 3) := by decide +kernel
theorem d_M_buying_35 : decode prog_14_method_162_code 35 = .ok (.goto (-31), 3) := by decide +kernel
theorem d_M_buying_38 : decode prog_14_method_162_code 38 = .ok (.iload_n 2, 1) := by decide +kernel
theorem d_M_buying_39 : decode prog_14_method_162_code 39 = .ok (.ireturn, 1) := by decide +kernel
def M_buying_L4 (Y : Ly) (l0 : Nat) (l1 : Int32) (h : Hp) : Nat → Int32 → Int32 → Option Int32
  | 0, _, _ => none
  | F + 1, l2, l3 =>
    (M_allOffers Y l0 h).bind fun q1 =>
    if q1 < l3 then
      some l2
    else
      (M_costOf Y l0 l3 h).bind fun q3 =>
      if l1 < q3 then
        M_buying_L4 Y l0 l1 h F l2 (l3 + 1)
      else
        (M_isBetter Y l0 l3 l2 h).bind fun q5 =>
        if q5 = true then
          M_buying_L4 Y l0 l1 h F l3 (l3 + 1)
        else
          M_buying_L4 Y l0 l1 h F l2 (l3 + 1)
theorem M_buying_L4_ok (Y : Ly) (l0 : Nat) (l1 : Int32) (h : Hp) (tl0 : isO Y 12 l0) : ∀ (F : Nat) (l2 : Int32) (l3 : Int32), AW Y 3 K_M_buying 4 [(0, .ref l0), (1, .int l1), (2, .int l2), (3, .int l3)] [] h (M_buying_L4 Y l0 l1 h F l2 l3) (pI h) := by
  intro F
  induction F with
  | zero =>
    intro l2 l3
    exact aw_none
  | succ F ih =>
    intro l2 l3
    unfold M_buying_L4
    refine aw_iload_n (pc := 4) d_M_buying_4 rfl 3 rfl ?_
    refine aw_aload_n (pc := 5) d_M_buying_5 rfl 0 rfl ?_
    refine aw_cVpI (pc := 6) (ci := 12) (T := TX12) (N := 44) (As := []) (st := [.int l3]) (ok_M_allOffers Y l0 h tl0) okV_M_allOffers rfl (by decide) tl0 w10_67 d_M_buying_6 rfl (Nat.le_of_ble_eq_true rfl) rfl (Nat.le_of_ble_eq_true rfl) (fun q1 hq1 hTq1 => ?_)
    refine aw_icmp_gt (pc := 9) (tgt := 38) d_M_buying_9 (by decide) (fun c2 => ?_) (fun c2 => ?_)
    · refine aw_iload_n (pc := 38) d_M_buying_38 rfl 2 rfl ?_
      exact aw_ireturn (pc := 39) d_M_buying_39 rfl rfl
    · refine aw_aload_n (pc := 12) d_M_buying_12 rfl 0 rfl ?_
      refine aw_iload_n (pc := 13) d_M_buying_13 rfl 3 rfl ?_
      refine aw_cVpI (pc := 14) (ci := 12) (T := TX12) (N := 44) (As := [.int l3]) (st := []) (ok_M_costOf Y l0 l3 h tl0) okV_M_costOf rfl (by decide) tl0 w10_84 d_M_buying_14 rfl (Nat.le_of_ble_eq_true rfl) rfl (Nat.le_of_ble_eq_true rfl) (fun q3 hq3 hTq3 => ?_)
      refine aw_iload_n (pc := 17) d_M_buying_17 rfl 1 rfl ?_
      refine aw_icmp_gt (pc := 18) (tgt := 32) d_M_buying_18 (by decide) (fun c4 => ?_) (fun c4 => ?_)
      · refine aw_iinc (pc := 32) (w := l3 + 1) (lv' := [(3, .int (l3 + 1)), (0, .ref l0), (1, .int l1), (2, .int l2)]) d_M_buying_32 3 rfl rfl (by decide) rfl ?_
        refine aw_goto (pc := 35) (tgt := 4) d_M_buying_35 (by decide) ?_
        exact aw_lv [1, 2, 3, 0] rfl (ih l2 (l3 + 1))
      · refine aw_aload_n (pc := 21) d_M_buying_21 rfl 0 rfl ?_
        refine aw_iload_n (pc := 22) d_M_buying_22 rfl 3 rfl ?_
        refine aw_iload_n (pc := 23) d_M_buying_23 rfl 2 rfl ?_
        refine aw_cVpZ (pc := 24) (ci := 12) (T := TX12) (N := 44) (As := [.int l3, .int l2]) (st := []) (ok_M_isBetter Y l0 l3 l2 h tl0) okV_M_isBetter rfl (by decide) tl0 w10_88 d_M_buying_24 rfl (Nat.le_of_ble_eq_true rfl) rfl (Nat.le_of_ble_eq_true rfl) (fun q5 hq5 hTq5 => ?_)
        refine aw_beq (pc := 27) (tgt := 32) d_M_buying_27 (by decide) (fun c6 => ?_) (fun c6 => ?_)
        · refine aw_iload_n (pc := 30) d_M_buying_30 rfl 3 rfl ?_
          refine aw_istore_n (pc := 31) (lv' := [(2, .int l3), (0, .ref l0), (1, .int l1), (3, .int l3)]) d_M_buying_31 rfl (by decide) rfl ?_
          refine aw_iinc (pc := 32) (w := l3 + 1) (lv' := [(3, .int (l3 + 1)), (2, .int l3), (0, .ref l0), (1, .int l1)]) d_M_buying_32 3 rfl rfl (by decide) rfl ?_
          refine aw_goto (pc := 35) (tgt := 4) d_M_buying_35 (by decide) ?_
          exact aw_lv [2, 3, 1, 0] rfl (ih l3 (l3 + 1))
        · refine aw_iinc (pc := 32) (w := l3 + 1) (lv' := [(3, .int (l3 + 1)), (0, .ref l0), (1, .int l1), (2, .int l2)]) d_M_buying_32 3 rfl rfl (by decide) rfl ?_
          refine aw_goto (pc := 35) (tgt := 4) d_M_buying_35 (by decide) ?_
          exact aw_lv [1, 2, 3, 0] rfl (ih l2 (l3 + 1))
def M_buying (Y : Ly) (l0 : Nat) (l1 : Int32) (h : Hp) : Option Int32 :=
  M_buying_L4 Y l0 l1 h FU 0 1
theorem ok_M_buying (Y : Ly) (l0 : Nat) (l1 : Int32) (h : Hp) (t0 : isO Y 12 l0) : AM Y 3 K_M_buying [.ref l0, .int l1] h (M_buying Y l0 l1 h) (pI h) := by
  refine AM.of rfl (Nat.le_of_ble_eq_true rfl) ?_
  show AW Y 3 K_M_buying 0 [(0, .ref l0), (1, .int l1)] [] h (M_buying Y l0 l1 h) (pI h)
  unfold M_buying
  refine aw_iconst (pc := 0) (x := 0) d_M_buying_0 (by decide) ?_
  refine aw_istore_n (pc := 1) (lv' := [(2, .int 0), (0, .ref l0), (1, .int l1)]) d_M_buying_1 rfl (by decide) rfl ?_
  refine aw_iconst (pc := 2) (x := 1) d_M_buying_2 (by decide) ?_
  refine aw_istore_n (pc := 3) (lv' := [(3, .int 1), (2, .int 0), (0, .ref l0), (1, .int l1)]) d_M_buying_3 rfl (by decide) rfl ?_
  exact aw_lv [2, 3, 1, 0] rfl (M_buying_L4_ok Y l0 l1 h t0 FU 0 1)
/-! LastPagesModel.buy(I)I -/
theorem d_M_buy_0 : decode prog_14_method_163_code 0 = .ok (.aload_n 0, 1) := by decide +kernel
theorem d_M_buy_1 : decode prog_14_method_163_code 1 = .ok (.iconst 0, 1) := by decide +kernel
theorem d_M_buy_2 : decode prog_14_method_163_code 2 = .ok (.putfield 78, 3) := by decide +kernel
theorem d_M_buy_5 : decode prog_14_method_163_code 5 = .ok (.aload_n 0, 1) := by decide +kernel
theorem d_M_buy_6 : decode prog_14_method_163_code 6 = .ok (.iconst 0, 1) := by decide +kernel
theorem d_M_buy_7 : decode prog_14_method_163_code 7 = .ok (.putfield 81, 3) := by decide +kernel
theorem d_M_buy_10 : decode prog_14_method_163_code 10 = .ok (.iload_n 1, 1) := by decide +kernel
theorem d_M_buy_11 : decode prog_14_method_163_code 11 = .ok (.i2l, 1) := by decide +kernel
theorem d_M_buy_12 : decode prog_14_method_163_code 12 = .ok (.lconst 0, 1) := by decide +kernel
theorem d_M_buy_13 : decode prog_14_method_163_code 13 = .ok (.ldc2_w 504, 3) := by decide +kernel
theorem d_M_buy_16 : decode prog_14_method_163_code 16 = .ok (.invokestatic 113, 3) := by decide +kernel
theorem d_M_buy_19 : decode prog_14_method_163_code 19 = .ok (.ifCond .eq 18, 3) := by decide +kernel
theorem d_M_buy_22 : decode prog_14_method_163_code 22 = .ok (.aload_n 0, 1) := by decide +kernel
theorem d_M_buy_23 : decode prog_14_method_163_code 23 = .ok (.aload_n 0, 1) := by decide +kernel
theorem d_M_buy_24 : decode prog_14_method_163_code 24 = .ok (.iload_n 1, 1) := by decide +kernel
theorem d_M_buy_25 : decode prog_14_method_163_code 25 = .ok (.invokevirtual 506, 3) := by decide +kernel
theorem d_M_buy_28 : decode prog_14_method_163_code 28 = .ok (.invokevirtual 495, 3) := by decide +kernel
theorem d_M_buy_31 : decode prog_14_method_163_code 31 = .ok (.invokestatic 480, 3) := by decide +kernel
theorem d_M_buy_34 : decode prog_14_method_163_code 34 = .ok (.goto 8, 3) := by decide +kernel
theorem d_M_buy_37 : decode prog_14_method_163_code 37 = .ok (.aload_n 0, 1) := by decide +kernel
theorem d_M_buy_38 : decode prog_14_method_163_code 38 = .ok (.iconst 5, 1) := by decide +kernel
theorem d_M_buy_39 : decode prog_14_method_163_code 39 = .ok (.invokevirtual 367, 3) := by decide +kernel
theorem d_M_buy_42 : decode prog_14_method_163_code 42 = .ok (.ireturn, 1) := by decide +kernel
def M_buy (Y : Ly) (l0 : Nat) (l1 : Int32) (h : Hp) : Option (Int32 × Hp) :=
  letH (hSi h 1201 l0 0) fun h1 =>
  letH (hSi h1 1200 l0 0) fun h2 =>
  (M_isIn Y (Int32.toInt64 l1) 0 999 h2).bind fun q3 =>
  if q3 = true then
    (M_buying Y l0 l1 h2).bind fun q5 =>
    (M_knownBy Y l0 q5 h2).bind fun q6 =>
    (M_sizeOf Y q6 h2).bind fun q7 =>
    some (q7, h2)
  else
    (M_refuse Y l0 5 h2).bind fun q8 =>
    some (q8.1, q8.2)
theorem ok_M_buy (Y : Ly) (l0 : Nat) (l1 : Int32) (h : Hp) (t0 : isO Y 12 l0) : AM Y 4 K_M_buy [.ref l0, .int l1] h (M_buy Y l0 l1 h) rI := by
  refine AM.of rfl (Nat.le_of_ble_eq_true rfl) ?_
  show AW Y 4 K_M_buy 0 [(0, .ref l0), (1, .int l1)] [] h (M_buy Y l0 l1 h) rI
  unfold M_buy
  refine aw_aload_n (pc := 0) d_M_buy_0 rfl 0 rfl ?_
  refine aw_iconst (pc := 1) (x := 0) d_M_buy_1 (by decide) ?_
  refine pt_1201 (pc := 2) d_M_buy_2 w7_28 t0 ?_
  refine aw_letH (fun h1 => ?_)
  refine aw_aload_n (pc := 5) d_M_buy_5 rfl 0 rfl ?_
  refine aw_iconst (pc := 6) (x := 0) d_M_buy_6 (by decide) ?_
  refine pt_1200 (pc := 7) d_M_buy_7 w7_27 t0 ?_
  refine aw_letH (fun h2 => ?_)
  refine aw_iload_n (pc := 10) d_M_buy_10 rfl 1 rfl ?_
  refine aw_i2l (pc := 11) d_M_buy_11 ?_
  refine aw_lconst (pc := 12) (x := 0) d_M_buy_12 (by decide) ?_
  refine aw_ldc2 (pc := 13) d_M_buy_13 w10_79 ?_
  refine aw_cSpZ (pc := 16) (As := [.long (Int32.toInt64 l1), .long 0, .long 999]) (st := []) (ok_M_isIn Y (Int32.toInt64 l1) 0 999 h2) okS_M_isIn w8_155 d_M_buy_16 rfl (Nat.le_of_ble_eq_true rfl) rfl (Nat.le_of_ble_eq_true rfl) (fun q3 hq3 hTq3 => ?_)
  refine aw_beq (pc := 19) (tgt := 37) d_M_buy_19 (by decide) (fun c4 => ?_) (fun c4 => ?_)
  · refine aw_aload_n (pc := 22) d_M_buy_22 rfl 0 rfl ?_
    refine aw_aload_n (pc := 23) d_M_buy_23 rfl 0 rfl ?_
    refine aw_iload_n (pc := 24) d_M_buy_24 rfl 1 rfl ?_
    refine aw_cVpI (pc := 25) (ci := 12) (T := TX12) (N := 44) (As := [.int l1]) (st := [.ref l0]) (ok_M_buying Y l0 l1 h2 t0) okV_M_buying rfl (by decide) t0 w10_80 d_M_buy_25 rfl (Nat.le_of_ble_eq_true rfl) rfl (Nat.le_of_ble_eq_true rfl) (fun q5 hq5 hTq5 => ?_)
    refine aw_cVpI (pc := 28) (ci := 12) (T := TX12) (N := 44) (As := [.int q5]) (st := []) (ok_M_knownBy Y l0 q5 h2 t0) okV_M_knownBy rfl (by decide) t0 w10_71 d_M_buy_28 rfl (Nat.le_of_ble_eq_true rfl) rfl (Nat.le_of_ble_eq_true rfl) (fun q6 hq6 hTq6 => ?_)
    refine aw_cSpI (pc := 31) (As := [.int q6]) (st := []) (ok_M_sizeOf Y q6 h2) okS_M_sizeOf w10_32 d_M_buy_31 rfl (Nat.le_of_ble_eq_true rfl) rfl (Nat.le_of_ble_eq_true rfl) (fun q7 hq7 hTq7 => ?_)
    refine aw_goto (pc := 34) (tgt := 42) d_M_buy_34 (by decide) ?_
    exact aw_ireturn (pc := 42) d_M_buy_42 rfl rfl
  · refine aw_aload_n (pc := 37) d_M_buy_37 rfl 0 rfl ?_
    refine aw_iconst (pc := 38) (x := 5) d_M_buy_38 (by decide) ?_
    refine aw_cVrI (pc := 39) (ci := 12) (T := TX12) (N := 44) (As := [.int 5]) (st := []) (ok_M_refuse Y l0 5 h2 t0) okV_M_refuse rfl (by decide) t0 w9_8 d_M_buy_39 rfl (Nat.le_of_ble_eq_true rfl) rfl (Nat.le_of_ble_eq_true rfl) (fun q8 hq8 hTq8 => ?_)
    exact aw_ireturn (pc := 42) d_M_buy_42 rfl rfl
/-! LastPagesModel.buySet(I)I -/
theorem d_M_buySet_0 : decode prog_14_method_164_code 0 = .ok (.aload_n 0, 1) := by decide +kernel
theorem d_M_buySet_1 : decode prog_14_method_164_code 1 = .ok (.iconst 0, 1) := by decide +kernel
theorem d_M_buySet_2 : decode prog_14_method_164_code 2 = .ok (.putfield 78, 3) := by decide +kernel
theorem d_M_buySet_5 : decode prog_14_method_164_code 5 = .ok (.aload_n 0, 1) := by decide +kernel
theorem d_M_buySet_6 : decode prog_14_method_164_code 6 = .ok (.iconst 0, 1) := by decide +kernel
theorem d_M_buySet_7 : decode prog_14_method_164_code 7 = .ok (.putfield 81, 3) := by decide +kernel
theorem d_M_buySet_10 : decode prog_14_method_164_code 10 = .ok (.iload_n 1, 1) := by decide +kernel
theorem d_M_buySet_11 : decode prog_14_method_164_code 11 = .ok (.i2l, 1) := by decide +kernel
theorem d_M_buySet_12 : decode prog_14_method_164_code 12 = .ok (.lconst 0, 1) := by decide +kernel
theorem d_M_buySet_13 : decode prog_14_method_164_code 13 = .ok (.ldc2_w 504, 3) := by decide +kernel
theorem d_M_buySet_16 : decode prog_14_method_164_code 16 = .ok (.invokestatic 113, 3) := by decide +kernel
theorem d_M_buySet_19 : decode prog_14_method_164_code 19 = .ok (.ifCond .eq 11, 3) := by decide +kernel
theorem d_M_buySet_22 : decode prog_14_method_164_code 22 = .ok (.aload_n 0, 1) := by decide +kernel
theorem d_M_buySet_23 : decode prog_14_method_164_code 23 = .ok (.iload_n 1, 1) := by decide +kernel
theorem d_M_buySet_24 : decode prog_14_method_164_code 24 = .ok (.invokevirtual 506, 3) := by decide +kernel
theorem d_M_buySet_27 : decode prog_14_method_164_code 27 = .ok (.goto 8, 3) := by decide +kernel
theorem d_M_buySet_30 : decode prog_14_method_164_code 30 = .ok (.aload_n 0, 1) := by decide +kernel
theorem d_M_buySet_31 : decode prog_14_method_164_code 31 = .ok (.iconst 5, 1) := by decide +kernel
theorem d_M_buySet_32 : decode prog_14_method_164_code 32 = .ok (.invokevirtual 367, 3) := by decide +kernel
theorem d_M_buySet_35 : decode prog_14_method_164_code 35 = .ok (.ireturn, 1) := by decide +kernel
def M_buySet (Y : Ly) (l0 : Nat) (l1 : Int32) (h : Hp) : Option (Int32 × Hp) :=
  letH (hSi h 1201 l0 0) fun h1 =>
  letH (hSi h1 1200 l0 0) fun h2 =>
  (M_isIn Y (Int32.toInt64 l1) 0 999 h2).bind fun q3 =>
  if q3 = true then
    (M_buying Y l0 l1 h2).bind fun q5 =>
    some (q5, h2)
  else
    (M_refuse Y l0 5 h2).bind fun q6 =>
    some (q6.1, q6.2)
theorem ok_M_buySet (Y : Ly) (l0 : Nat) (l1 : Int32) (h : Hp) (t0 : isO Y 12 l0) : AM Y 4 K_M_buySet [.ref l0, .int l1] h (M_buySet Y l0 l1 h) rI := by
  refine AM.of rfl (Nat.le_of_ble_eq_true rfl) ?_
  show AW Y 4 K_M_buySet 0 [(0, .ref l0), (1, .int l1)] [] h (M_buySet Y l0 l1 h) rI
  unfold M_buySet
  refine aw_aload_n (pc := 0) d_M_buySet_0 rfl 0 rfl ?_
  refine aw_iconst (pc := 1) (x := 0) d_M_buySet_1 (by decide) ?_
  refine pt_1201 (pc := 2) d_M_buySet_2 w7_28 t0 ?_
  refine aw_letH (fun h1 => ?_)
  refine aw_aload_n (pc := 5) d_M_buySet_5 rfl 0 rfl ?_
  refine aw_iconst (pc := 6) (x := 0) d_M_buySet_6 (by decide) ?_
  refine pt_1200 (pc := 7) d_M_buySet_7 w7_27 t0 ?_
  refine aw_letH (fun h2 => ?_)
  refine aw_iload_n (pc := 10) d_M_buySet_10 rfl 1 rfl ?_
  refine aw_i2l (pc := 11) d_M_buySet_11 ?_
  refine aw_lconst (pc := 12) (x := 0) d_M_buySet_12 (by decide) ?_
  refine aw_ldc2 (pc := 13) d_M_buySet_13 w10_79 ?_
  refine aw_cSpZ (pc := 16) (As := [.long (Int32.toInt64 l1), .long 0, .long 999]) (st := []) (ok_M_isIn Y (Int32.toInt64 l1) 0 999 h2) okS_M_isIn w8_155 d_M_buySet_16 rfl (Nat.le_of_ble_eq_true rfl) rfl (Nat.le_of_ble_eq_true rfl) (fun q3 hq3 hTq3 => ?_)
  refine aw_beq (pc := 19) (tgt := 30) d_M_buySet_19 (by decide) (fun c4 => ?_) (fun c4 => ?_)
  · refine aw_aload_n (pc := 22) d_M_buySet_22 rfl 0 rfl ?_
    refine aw_iload_n (pc := 23) d_M_buySet_23 rfl 1 rfl ?_
    refine aw_cVpI (pc := 24) (ci := 12) (T := TX12) (N := 44) (As := [.int l1]) (st := []) (ok_M_buying Y l0 l1 h2 t0) okV_M_buying rfl (by decide) t0 w10_80 d_M_buySet_24 rfl (Nat.le_of_ble_eq_true rfl) rfl (Nat.le_of_ble_eq_true rfl) (fun q5 hq5 hTq5 => ?_)
    refine aw_goto (pc := 27) (tgt := 35) d_M_buySet_27 (by decide) ?_
    exact aw_ireturn (pc := 35) d_M_buySet_35 rfl rfl
  · refine aw_aload_n (pc := 30) d_M_buySet_30 rfl 0 rfl ?_
    refine aw_iconst (pc := 31) (x := 5) d_M_buySet_31 (by decide) ?_
    refine aw_cVrI (pc := 32) (ci := 12) (T := TX12) (N := 44) (As := [.int 5]) (st := []) (ok_M_refuse Y l0 5 h2 t0) okV_M_refuse rfl (by decide) t0 w9_8 d_M_buySet_32 rfl (Nat.le_of_ble_eq_true rfl) rfl (Nat.le_of_ble_eq_true rfl) (fun q6 hq6 hTq6 => ?_)
    exact aw_ireturn (pc := 35) d_M_buySet_35 rfl rfl
/-! LastPagesModel.call(IZ)Z -/
theorem d_M_call_0 : decode prog_14_method_118_code 0 = .ok (.aload_n 0, 1) := by decide +kernel
theorem d_M_call_1 : decode prog_14_method_118_code 1 = .ok (.iconst 0, 1) := by decide +kernel
theorem d_M_call_2 : decode prog_14_method_118_code 2 = .ok (.putfield 78, 3) := by decide +kernel
theorem d_M_call_5 : decode prog_14_method_118_code 5 = .ok (.aload_n 0, 1) := by decide +kernel
theorem d_M_call_6 : decode prog_14_method_118_code 6 = .ok (.iconst 0, 1) := by decide +kernel
theorem d_M_call_7 : decode prog_14_method_118_code 7 = .ok (.putfield 81, 3) := by decide +kernel
theorem d_M_call_10 : decode prog_14_method_118_code 10 = .ok (.iload_n 1, 1) := by decide +kernel
theorem d_M_call_11 : decode prog_14_method_118_code 11 = .ok (.i2l, 1) := by decide +kernel
theorem d_M_call_12 : decode prog_14_method_118_code 12 = .ok (.lconst 0, 1) := by decide +kernel
theorem d_M_call_13 : decode prog_14_method_118_code 13 = .ok (.aload_n 0, 1) := by decide +kernel
theorem d_M_call_14 : decode prog_14_method_118_code 14 = .ok (.getfield 35, 3) := by decide +kernel
theorem d_M_call_17 : decode prog_14_method_118_code 17 = .ok (.iconst 4, 1) := by decide +kernel
theorem d_M_call_18 : decode prog_14_method_118_code 18 = .ok (.iaload, 1) := by decide +kernel
theorem d_M_call_19 : decode prog_14_method_118_code 19 = .ok (.iconst 1, 1) := by decide +kernel
theorem d_M_call_20 : decode prog_14_method_118_code 20 = .ok (.isub, 1) := by decide +kernel
theorem d_M_call_21 : decode prog_14_method_118_code 21 = .ok (.i2l, 1) := by decide +kernel
theorem d_M_call_22 : decode prog_14_method_118_code 22 = .ok (.invokestatic 113, 3) := by decide +kernel
theorem d_M_call_25 : decode prog_14_method_118_code 25 = .ok (.ifCond .ne 9, 3) := by decide +kernel
theorem d_M_call_28 : decode prog_14_method_118_code 28 = .ok (.aload_n 0, 1) := by decide +kernel
theorem d_M_call_29 : decode prog_14_method_118_code 29 = .ok (.iconst 2, 1) := by decide +kernel
theorem d_M_call_30 : decode prog_14_method_118_code 30 = .ok (.invokevirtual 93, 3) := by decide +kernel
theorem d_M_call_33 : decode prog_14_method_118_code 33 = .ok (.ireturn, 1) := by decide +kernel
theorem d_M_call_34 : decode prog_14_method_118_code 34 = .ok (.aload_n 0, 1) := by decide +kernel
theorem d_M_call_35 : decode prog_14_method_118_code 35 = .ok (.getfield 35, 3) := by decide +kernel
theorem d_M_call_38 : decode prog_14_method_118_code 38 = .ok (.bipush 9, 2) := by decide +kernel
theorem d_M_call_40 : decode prog_14_method_118_code 40 = .ok (.iaload, 1) := by decide +kernel
theorem d_M_call_41 : decode prog_14_method_118_code 41 = .ok (.iload_n 1, 1) := by decide +kernel
theorem d_M_call_42 : decode prog_14_method_118_code 42 = .ok (.invokestatic 117, 3) := by decide +kernel
theorem d_M_call_45 : decode prog_14_method_118_code 45 = .ok (.iload_n 2, 1) := by decide +kernel
theorem d_M_call_46 : decode prog_14_method_118_code 46 = .ok (.if_icmp .ne 10, 3) := by decide +kernel
theorem d_M_call_49 : decode prog_14_method_118_code 49 = .ok (.aload_n 0, 1) := by decide +kernel
theorem d_M_call_50 : decode prog_14_method_118_code 50 = .ok (.bipush 9, 2) := by decide +kernel
theorem d_M_call_52 : decode prog_14_method_118_code 52 = .ok (.invokevirtual 93, 3) := by decide +kernel
theorem d_M_call_55 : decode prog_14_method_118_code 55 = .ok (.ireturn, 1) := by decide +kernel
theorem d_M_call_56 : decode prog_14_method_118_code 56 = .ok (.aload_n 0, 1) := by decide +kernel
theorem d_M_call_57 : decode prog_14_method_118_code 57 = .ok (.getfield 35, 3) := by decide +kernel
theorem d_M_call_60 : decode prog_14_method_118_code 60 = .ok (.bipush 9, 2) := by decide +kernel
theorem d_M_call_62 : decode prog_14_method_118_code 62 = .ok (.dup2, 1) := by decide +kernel
theorem d_M_call_63 : decode prog_14_method_118_code 63 = .ok (.iaload, 1) := by decide +kernel
theorem d_M_call_64 : decode prog_14_method_118_code 64 = .ok (.iconst 1, 1) := by decide +kernel
theorem d_M_call_65 : decode prog_14_method_118_code 65 = .ok (.iload_n 1, 1) := by decide +kernel
theorem d_M_call_66 : decode prog_14_method_118_code 66 = .ok (.ishl, 1) := by decide +kernel
theorem d_M_call_67 : decode prog_14_method_118_code 67 = .ok (.ixor, 1) := by decide +kernel
theorem d_M_call_68 : decode prog_14_method_118_code 68 = .ok (.iastore, 1) := by decide +kernel
theorem d_M_call_69 : decode prog_14_method_118_code 69 = .ok (.iconst 1, 1) := by decide +kernel
theorem d_M_call_70 : decode prog_14_method_118_code 70 = .ok (.ireturn, 1) := by decide +kernel
def M_call (Y : Ly) (l0 : Nat) (l1 : Int32) (l2 : Bool) (h : Hp) : Option (Bool × Hp) :=
  letH (hSi h 1201 l0 0) fun h1 =>
  letH (hSi h1 1200 l0 0) fun h2 =>
  if inB 4 (lnY Y (hGr h2 1220 l0)) = true then
    (M_isIn Y (Int32.toInt64 l1) 0 (Int32.toInt64 ((hAi h2 (hGr h2 1220 l0) (Int32.toNatClampNeg 4)) - 1)) h2).bind fun q5 =>
    if q5 = true then
      if inB 9 (lnY Y (hGr h2 1220 l0)) = true then
        (M_has Y (hAi h2 (hGr h2 1220 l0) (Int32.toNatClampNeg 9)) l1 h2).bind fun q9 =>
        if (b2i q9) = (b2i l2) then
          (M_no Y l0 9 h2).bind fun q11 =>
          some (q11.1, q11.2)
        else
          if inB 9 (lnY Y (hGr h2 1220 l0)) = true then
            if inB 9 (lnY Y (hGr h2 1220 l0)) = true then
              letH (hTi h2 (hGr h2 1220 l0) (Int32.toNatClampNeg 9) ((hAi h2 (hGr h2 1220 l0) (Int32.toNatClampNeg 9)) ^^^ ((1 : Int32) <<< (l1 &&& 31)))) fun h15 =>
              some (true, h15)
            else none
          else none
      else none
    else
      (M_no Y l0 2 h2).bind fun q16 =>
      some (q16.1, q16.2)
  else none
theorem ok_M_call (Y : Ly) (l0 : Nat) (l1 : Int32) (l2 : Bool) (h : Hp) (t0 : isO Y 12 l0) : AM Y 1 K_M_call [.ref l0, .int l1, .int (b2i l2)] h (M_call Y l0 l1 l2 h) rZ := by
  refine AM.of rfl (Nat.le_of_ble_eq_true rfl) ?_
  show AW Y 1 K_M_call 0 [(0, .ref l0), (1, .int l1), (2, .int (b2i l2))] [] h (M_call Y l0 l1 l2 h) rZ
  unfold M_call
  refine aw_aload_n (pc := 0) d_M_call_0 rfl 0 rfl ?_
  refine aw_iconst (pc := 1) (x := 0) d_M_call_1 (by decide) ?_
  refine pt_1201 (pc := 2) d_M_call_2 w7_28 t0 ?_
  refine aw_letH (fun h1 => ?_)
  refine aw_aload_n (pc := 5) d_M_call_5 rfl 0 rfl ?_
  refine aw_iconst (pc := 6) (x := 0) d_M_call_6 (by decide) ?_
  refine pt_1200 (pc := 7) d_M_call_7 w7_27 t0 ?_
  refine aw_letH (fun h2 => ?_)
  refine aw_iload_n (pc := 10) d_M_call_10 rfl 1 rfl ?_
  refine aw_i2l (pc := 11) d_M_call_11 ?_
  refine aw_lconst (pc := 12) (x := 0) d_M_call_12 (by decide) ?_
  refine aw_aload_n (pc := 13) d_M_call_13 rfl 0 rfl ?_
  refine gt_1220 (pc := 14) d_M_call_14 w7_47 t0 (fun tt3 => ?_)
  refine aw_iconst (pc := 17) (x := 4) d_M_call_17 (by decide) ?_
  refine aw_iaload (pc := 18) d_M_call_18 tt3 (fun c4 => ?_)
  refine aw_iconst (pc := 19) (x := 1) d_M_call_19 (by decide) ?_
  refine aw_isub (pc := 20) d_M_call_20 ?_
  refine aw_i2l (pc := 21) d_M_call_21 ?_
  refine aw_cSpZ (pc := 22) (As := [.long (Int32.toInt64 l1), .long 0, .long (Int32.toInt64 ((hAi h2 (hGr h2 1220 l0) (Int32.toNatClampNeg 4)) - 1))]) (st := []) (ok_M_isIn Y (Int32.toInt64 l1) 0 (Int32.toInt64 ((hAi h2 (hGr h2 1220 l0) (Int32.toNatClampNeg 4)) - 1)) h2) okS_M_isIn w8_155 d_M_call_22 rfl (Nat.le_of_ble_eq_true rfl) rfl (Nat.le_of_ble_eq_true rfl) (fun q5 hq5 hTq5 => ?_)
  refine aw_bne (pc := 25) (tgt := 34) d_M_call_25 (by decide) (fun c6 => ?_) (fun c6 => ?_)
  · refine aw_aload_n (pc := 34) d_M_call_34 rfl 0 rfl ?_
    refine gt_1220 (pc := 35) d_M_call_35 w7_47 t0 (fun tt7 => ?_)
    refine aw_bipush (pc := 38) (x := 9) d_M_call_38 (by decide) ?_
    refine aw_iaload (pc := 40) d_M_call_40 tt7 (fun c8 => ?_)
    refine aw_iload_n (pc := 41) d_M_call_41 rfl 1 rfl ?_
    refine aw_cSpZ (pc := 42) (As := [.int (hAi h2 (hGr h2 1220 l0) (Int32.toNatClampNeg 9)), .int l1]) (st := []) (ok_M_has Y (hAi h2 (hGr h2 1220 l0) (Int32.toNatClampNeg 9)) l1 h2) okS_M_has w9_110 d_M_call_42 rfl (Nat.le_of_ble_eq_true rfl) rfl (Nat.le_of_ble_eq_true rfl) (fun q9 hq9 hTq9 => ?_)
    refine aw_iload_n (pc := 45) d_M_call_45 rfl 2 rfl ?_
    refine aw_icmp_ne (pc := 46) (tgt := 56) d_M_call_46 (by decide) (fun c10 => ?_) (fun c10 => ?_)
    · refine aw_aload_n (pc := 49) d_M_call_49 rfl 0 rfl ?_
      refine aw_bipush (pc := 50) (x := 9) d_M_call_50 (by decide) ?_
      refine aw_cVrZ (pc := 52) (ci := 12) (T := TX12) (N := 44) (As := [.int 9]) (st := []) (ok_M_no Y l0 9 h2 t0) okV_M_no rfl (by decide) t0 w7_176 d_M_call_52 rfl (Nat.le_of_ble_eq_true rfl) rfl (Nat.le_of_ble_eq_true rfl) (fun q11 hq11 hTq11 => ?_)
      exact aw_zreturn (pc := 55) (b := q11.1) d_M_call_55 rfl rfl
    · refine aw_aload_n (pc := 56) d_M_call_56 rfl 0 rfl ?_
      refine gt_1220 (pc := 57) d_M_call_57 w7_47 t0 (fun tt12 => ?_)
      refine aw_bipush (pc := 60) (x := 9) d_M_call_60 (by decide) ?_
      refine aw_dup2_11 (pc := 62) d_M_call_62 rfl rfl ?_
      refine aw_iaload (pc := 63) d_M_call_63 tt12 (fun c13 => ?_)
      refine aw_iconst (pc := 64) (x := 1) d_M_call_64 (by decide) ?_
      refine aw_iload_n (pc := 65) d_M_call_65 rfl 1 rfl ?_
      refine aw_ishl (pc := 66) d_M_call_66 ?_
      refine aw_ixor (pc := 67) d_M_call_67 ?_
      refine aw_iastore (pc := 68) d_M_call_68 tt12 (fun c14 => ?_)
      refine aw_letH (fun h15 => ?_)
      refine aw_iconst (pc := 69) (x := 1) d_M_call_69 (by decide) ?_
      exact aw_zreturn (pc := 70) (b := true) d_M_call_70 rfl rfl
  · refine aw_aload_n (pc := 28) d_M_call_28 rfl 0 rfl ?_
    refine aw_iconst (pc := 29) (x := 2) d_M_call_29 (by decide) ?_
    refine aw_cVrZ (pc := 30) (ci := 12) (T := TX12) (N := 44) (As := [.int 2]) (st := []) (ok_M_no Y l0 2 h2 t0) okV_M_no rfl (by decide) t0 w7_176 d_M_call_30 rfl (Nat.le_of_ble_eq_true rfl) rfl (Nat.le_of_ble_eq_true rfl) (fun q16 hq16 hTq16 => ?_)
    exact aw_zreturn (pc := 33) (b := q16.1) d_M_call_33 rfl rfl
/-! LastPagesModel.fraction(JJ)Z -/
theorem d_M_fraction_0 : decode prog_14_method_9_code 0 = .ok (.lload_n 1, 1) := by decide +kernel
theorem d_M_fraction_1 : decode prog_14_method_9_code 1 = .ok (.invokestatic 87, 3) := by decide +kernel
theorem d_M_fraction_4 : decode prog_14_method_9_code 4 = .ok (.lstore 5, 2) := by decide +kernel
theorem d_M_fraction_6 : decode prog_14_method_9_code 6 = .ok (.lload_n 3, 1) := by decide +kernel
theorem d_M_fraction_7 : decode prog_14_method_9_code 7 = .ok (.lstore 7, 2) := by decide +kernel
theorem d_M_fraction_9 : decode prog_14_method_9_code 9 = .ok (.lload 7, 2) := by decide +kernel
theorem d_M_fraction_11 : decode prog_14_method_9_code 11 = .ok (.lconst 0, 1) := by decide +kernel
theorem d_M_fraction_12 : decode prog_14_method_9_code 12 = .ok (.lcmp, 1) := by decide +kernel
theorem d_M_fraction_13 : decode prog_14_method_9_code 13 = .ok (.ifCond .eq 21, 3) := by decide +kernel
theorem d_M_fraction_16 : decode prog_14_method_9_code 16 = .ok (.lload 5, 2) := by decide +kernel
theorem d_M_fraction_18 : decode prog_14_method_9_code 18 = .ok (.lload 7, 2) := by decide +kernel
theorem d_M_fraction_20 : decode prog_14_method_9_code 20 = .ok (.lrem, 1) := by decide +kernel
theorem d_M_fraction_21 : decode prog_14_method_9_code 21 = .ok (.lstore 9, 2) := by decide +kernel
theorem d_M_fraction_23 : decode prog_14_method_9_code 23 = .ok (.lload 7, 2) := by decide +kernel
theorem d_M_fraction_25 : decode prog_14_method_9_code 25 = .ok (.lstore 5, 2) := by decide +kernel
theorem d_M_fraction_27 : decode prog_14_method_9_code 27 = .ok (.lload 9, 2) := by decide +kernel
theorem d_M_fraction_29 : decode prog_14_method_9_code 29 = .ok (.lstore 7, 2) := by decide +kernel
theorem d_M_fraction_31 : decode prog_14_method_9_code 31 = .ok (.goto (-22), 3) := by decide +kernel
theorem d_M_fraction_34 : decode prog_14_method_9_code 34 = .ok (.aload_n 0, 1) := by decide +kernel
theorem d_M_fraction_35 : decode prog_14_method_9_code 35 = .ok (.lload_n 1, 1) := by decide +kernel
theorem d_M_fraction_36 : decode prog_14_method_9_code 36 = .ok (.lload 5, 2) := by decide +kernel
theorem d_M_fraction_38 : decode prog_14_method_9_code 38 = .ok (.ldiv, 1) := by decide +kernel
theorem d_M_fraction_39 : decode prog_14_method_9_code 39 = .ok (.putfield 84, 3) := by decide +kernel
theorem d_M_fraction_42 : decode prog_14_method_9_code 42 = .ok (.aload_n 0, 1) := by decide +kernel
theorem d_M_fraction_43 : decode prog_14_method_9_code 43 = .ok (.lload_n 3, 1) := by decide +kernel
theorem d_M_fraction_44 : decode prog_14_method_9_code 44 = .ok (.lload 5, 2) := by decide +kernel
theorem d_M_fraction_46 : decode prog_14_method_9_code 46 = .ok (.ldiv, 1) := by decide +kernel
theorem d_M_fraction_47 : decode prog_14_method_9_code 47 = .ok (.putfield 7, 3) := by decide +kernel
theorem d_M_fraction_50 : decode prog_14_method_9_code 50 = .ok (.iconst 1, 1) := by decide +kernel
theorem d_M_fraction_51 : decode prog_14_method_9_code 51 = .ok (.ireturn, 1) := by decide +kernel
def M_fraction_L9 (Y : Ly) (l0 : Nat) (l1 : Int64) (l3 : Int64) (h : Hp) : Nat → Int64 → Int64 → Option (Bool × Hp)
  | 0, _, _ => none
  | F + 1, l5, l7 =>
    if l7 = 0 then
      if l5 = 0 then none else
      letH (hSl h 1202 l0 (l1 / l5)) fun h3 =>
      if l5 = 0 then none else
      letH (hSl h3 1203 l0 (l3 / l5)) fun h5 =>
      some (true, h5)
    else
      if l7 = 0 then none else
      M_fraction_L9 Y l0 l1 l3 h F l7 (l5 - l5 / l7 * l7)
theorem M_fraction_L9_ok (Y : Ly) (l0 : Nat) (l1 : Int64) (l3 : Int64) (h : Hp) (tl0 : isO Y 12 l0) : ∀ (F : Nat) (l5 : Int64) (l7 : Int64), AW Y 1 K_M_fraction 9 [(0, .ref l0), (1, .long l1), (3, .long l3), (5, .long l5), (7, .long l7)] [] h (M_fraction_L9 Y l0 l1 l3 h F l5 l7) rZ := by
  intro F
  induction F with
  | zero =>
    intro l5 l7
    exact aw_none
  | succ F ih =>
    intro l5 l7
    unfold M_fraction_L9
    refine aw_lload (pc := 9) d_M_fraction_9 4 rfl ?_
    refine aw_lconst (pc := 11) (x := 0) d_M_fraction_11 (by decide) ?_
    refine aw_lcmp_eq (pc := 12) (tgt := 34) d_M_fraction_12 d_M_fraction_13 (by decide) (fun c1 => ?_) (fun c1 => ?_)
    · refine aw_aload_n (pc := 34) d_M_fraction_34 rfl 0 rfl ?_
      refine aw_lload_n (pc := 35) d_M_fraction_35 rfl 1 rfl ?_
      refine aw_lload (pc := 36) d_M_fraction_36 3 rfl ?_
      refine aw_cases (fun _ => aw_none) (fun c2 => ?_)
      refine aw_ldiv (pc := 38) d_M_fraction_38 c2 ?_
      refine pt_1202 (pc := 39) d_M_fraction_39 w7_29 tl0 ?_
      refine aw_letH (fun h3 => ?_)
      refine aw_aload_n (pc := 42) d_M_fraction_42 rfl 0 rfl ?_
      refine aw_lload_n (pc := 43) d_M_fraction_43 rfl 2 rfl ?_
      refine aw_lload (pc := 44) d_M_fraction_44 3 rfl ?_
      refine aw_cases (fun _ => aw_none) (fun c4 => ?_)
      refine aw_ldiv (pc := 46) d_M_fraction_46 c4 ?_
      refine pt_1203 (pc := 47) d_M_fraction_47 w7_30 tl0 ?_
      refine aw_letH (fun h5 => ?_)
      refine aw_iconst (pc := 50) (x := 1) d_M_fraction_50 (by decide) ?_
      exact aw_zreturn (pc := 51) (b := true) d_M_fraction_51 rfl rfl
    · refine aw_lload (pc := 16) d_M_fraction_16 3 rfl ?_
      refine aw_lload (pc := 18) d_M_fraction_18 4 rfl ?_
      refine aw_cases (fun _ => aw_none) (fun c6 => ?_)
      refine aw_lrem (pc := 20) d_M_fraction_20 c6 ?_
      refine aw_lstore (pc := 21) (lv' := [(9, .long (l5 - l5 / l7 * l7)), (0, .ref l0), (1, .long l1), (3, .long l3), (5, .long l5), (7, .long l7)]) d_M_fraction_21 (by decide) rfl ?_
      refine aw_lload (pc := 23) d_M_fraction_23 5 rfl ?_
      refine aw_lstore (pc := 25) (lv' := [(5, .long l7), (9, .long (l5 - l5 / l7 * l7)), (0, .ref l0), (1, .long l1), (3, .long l3), (7, .long l7)]) d_M_fraction_25 (by decide) rfl ?_
      refine aw_lload (pc := 27) d_M_fraction_27 1 rfl ?_
      refine aw_lstore (pc := 29) (lv' := [(7, .long (l5 - l5 / l7 * l7)), (5, .long l7), (9, .long (l5 - l5 / l7 * l7)), (0, .ref l0), (1, .long l1), (3, .long l3)]) d_M_fraction_29 (by decide) rfl ?_
      refine aw_goto (pc := 31) (tgt := 9) d_M_fraction_31 (by decide) ?_
      exact aw_lv [3, 4, 5, 1, 0] rfl (ih l7 (l5 - l5 / l7 * l7))
def M_fraction (Y : Ly) (l0 : Nat) (l1 : Int64) (l3 : Int64) (h : Hp) : Option (Bool × Hp) :=
  M_fraction_L9 Y l0 l1 l3 h FU (if 0 < l1 then l1 else -l1) l3
theorem ok_M_fraction (Y : Ly) (l0 : Nat) (l1 : Int64) (l3 : Int64) (h : Hp) (t0 : isO Y 12 l0) : AM Y 1 K_M_fraction [.ref l0, .long l1, .long l3] h (M_fraction Y l0 l1 l3 h) rZ := by
  refine AM.of rfl (Nat.le_of_ble_eq_true rfl) ?_
  show AW Y 1 K_M_fraction 0 [(0, .ref l0), (1, .long l1), (3, .long l3)] [] h (M_fraction Y l0 l1 l3 h) rZ
  unfold M_fraction
  refine aw_lload_n (pc := 0) d_M_fraction_0 rfl 1 rfl ?_
  refine aw_mabsl (pc := 1) d_M_fraction_1 w9_197 w9_198 w1_15 w9_199 (Nat.le_of_ble_eq_true rfl) (Nat.le_of_ble_eq_true rfl) ?_
  refine aw_lstore (pc := 4) (lv' := [(5, .long (if 0 < l1 then l1 else -l1)), (0, .ref l0), (1, .long l1), (3, .long l3)]) d_M_fraction_4 (by decide) rfl ?_
  refine aw_lload_n (pc := 6) d_M_fraction_6 rfl 3 rfl ?_
  refine aw_lstore (pc := 7) (lv' := [(7, .long l3), (5, .long (if 0 < l1 then l1 else -l1)), (0, .ref l0), (1, .long l1), (3, .long l3)]) d_M_fraction_7 (by decide) rfl ?_
  exact aw_lv [2, 3, 4, 1, 0] rfl (M_fraction_L9_ok Y l0 l1 l3 h t0 FU (if 0 < l1 then l1 else -l1) l3)
/-! LastPagesModel.isTurnAt(I)Z -/
theorem d_M_isTurnAt_0 : decode prog_14_method_91_code 0 = .ok (.iload_n 1, 1) := by decide +kernel
theorem d_M_isTurnAt_1 : decode prog_14_method_91_code 1 = .ok (.i2l, 1) := by decide +kernel
theorem d_M_isTurnAt_2 : decode prog_14_method_91_code 2 = .ok (.lconst 0, 1) := by decide +kernel
theorem d_M_isTurnAt_3 : decode prog_14_method_91_code 3 = .ok (.aload_n 0, 1) := by decide +kernel
theorem d_M_isTurnAt_4 : decode prog_14_method_91_code 4 = .ok (.getfield 35, 3) := by decide +kernel
theorem d_M_isTurnAt_7 : decode prog_14_method_91_code 7 = .ok (.iconst 1, 1) := by decide +kernel
theorem d_M_isTurnAt_8 : decode prog_14_method_91_code 8 = .ok (.iaload, 1) := by decide +kernel
theorem d_M_isTurnAt_9 : decode prog_14_method_91_code 9 = .ok (.iconst 1, 1) := by decide +kernel
theorem d_M_isTurnAt_10 : decode prog_14_method_91_code 10 = .ok (.isub, 1) := by decide +kernel
theorem d_M_isTurnAt_11 : decode prog_14_method_91_code 11 = .ok (.i2l, 1) := by decide +kernel
theorem d_M_isTurnAt_12 : decode prog_14_method_91_code 12 = .ok (.invokestatic 113, 3) := by decide +kernel
theorem d_M_isTurnAt_15 : decode prog_14_method_91_code 15 = .ok (.ireturn, 1) := by decide +kernel
def M_isTurnAt (Y : Ly) (l0 : Nat) (l1 : Int32) (h : Hp) : Option Bool :=
  if inB 1 (lnY Y (hGr h 1220 l0)) = true then
    (M_isIn Y (Int32.toInt64 l1) 0 (Int32.toInt64 ((hAi h (hGr h 1220 l0) (Int32.toNatClampNeg 1)) - 1)) h).bind fun q3 =>
    some q3
  else none
theorem ok_M_isTurnAt (Y : Ly) (l0 : Nat) (l1 : Int32) (h : Hp) (t0 : isO Y 12 l0) : AM Y 1 K_M_isTurnAt [.ref l0, .int l1] h (M_isTurnAt Y l0 l1 h) (pZ h) := by
  refine AM.of rfl (Nat.le_of_ble_eq_true rfl) ?_
  show AW Y 1 K_M_isTurnAt 0 [(0, .ref l0), (1, .int l1)] [] h (M_isTurnAt Y l0 l1 h) (pZ h)
  unfold M_isTurnAt
  refine aw_iload_n (pc := 0) d_M_isTurnAt_0 rfl 1 rfl ?_
  refine aw_i2l (pc := 1) d_M_isTurnAt_1 ?_
  refine aw_lconst (pc := 2) (x := 0) d_M_isTurnAt_2 (by decide) ?_
  refine aw_aload_n (pc := 3) d_M_isTurnAt_3 rfl 0 rfl ?_
  refine gt_1220 (pc := 4) d_M_isTurnAt_4 w7_47 t0 (fun tt1 => ?_)
  refine aw_iconst (pc := 7) (x := 1) d_M_isTurnAt_7 (by decide) ?_
  refine aw_iaload (pc := 8) d_M_isTurnAt_8 tt1 (fun c2 => ?_)
  refine aw_iconst (pc := 9) (x := 1) d_M_isTurnAt_9 (by decide) ?_
  refine aw_isub (pc := 10) d_M_isTurnAt_10 ?_
  refine aw_i2l (pc := 11) d_M_isTurnAt_11 ?_
  refine aw_cSpZ (pc := 12) (As := [.long (Int32.toInt64 l1), .long 0, .long (Int32.toInt64 ((hAi h (hGr h 1220 l0) (Int32.toNatClampNeg 1)) - 1))]) (st := []) (ok_M_isIn Y (Int32.toInt64 l1) 0 (Int32.toInt64 ((hAi h (hGr h 1220 l0) (Int32.toNatClampNeg 1)) - 1)) h) okS_M_isIn w8_155 d_M_isTurnAt_12 rfl (Nat.le_of_ble_eq_true rfl) rfl (Nat.le_of_ble_eq_true rfl) (fun q3 hq3 hTq3 => ?_)
  exact aw_zreturn (pc := 15) (b := q3) d_M_isTurnAt_15 rfl rfl
/-! LastPagesModel.laysTurns(I)V -/
theorem d_M_laysTurns_0 : decode prog_14_method_110_code 0 = .ok (.aload_n 0, 1) := by decide +kernel
theorem d_M_laysTurns_1 : decode prog_14_method_110_code 1 = .ok (.iload_n 1, 1) := by decide +kernel
theorem d_M_laysTurns_2 : decode prog_14_method_110_code 2 = .ok (.aload_n 0, 1) := by decide +kernel
theorem d_M_laysTurns_3 : decode prog_14_method_110_code 3 = .ok (.getfield 35, 3) := by decide +kernel
theorem d_M_laysTurns_6 : decode prog_14_method_110_code 6 = .ok (.bipush 9, 2) := by decide +kernel
theorem d_M_laysTurns_8 : decode prog_14_method_110_code 8 = .ok (.iaload, 1) := by decide +kernel
theorem d_M_laysTurns_9 : decode prog_14_method_110_code 9 = .ok (.invokevirtual 403, 3) := by decide +kernel
theorem d_M_laysTurns_12 : decode prog_14_method_110_code 12 = .ok (.pop2, 1) := by decide +kernel
theorem d_M_laysTurns_13 : decode prog_14_method_110_code 13 = .ok (.iconst 0, 1) := by decide +kernel
theorem d_M_laysTurns_14 : decode prog_14_method_110_code 14 = .ok (.istore_n 2, 1) := by decide +kernel
theorem d_M_laysTurns_15 : decode prog_14_method_110_code 15 = .ok (.iload_n 2, 1) := by decide +kernel
theorem d_M_laysTurns_16 : decode prog_14_method_110_code 16 = .ok (.bipush 56, 2) := by decide +kernel
theorem d_M_laysTurns_18 : decode prog_14_method_110_code 18 = .ok (.if_icmp .ge 16, 3) := by decide +kernel
theorem d_M_laysTurns_21 : decode prog_14_method_110_code 21 = .ok (.aload_n 0, 1) := by decide +kernel
theorem d_M_laysTurns_22 : decode prog_14_method_110_code 22 = .ok (.getfield 47, 3) := by decide +kernel
theorem d_M_laysTurns_25 : decode prog_14_method_110_code 25 = .ok (.iload_n 2, 1) := by decide +kernel
theorem d_M_laysTurns_26 : decode prog_14_method_110_code 26 = .ok (.lconst 0, 1) := by decide +kernel
theorem d_M_laysTurns_27 : decode prog_14_method_110_code 27 = .ok (.lastore, 1) := by decide +kernel
theorem d_M_laysTurns_28 : decode prog_14_method_110_code 28 = .ok (.iinc 2 1, 3) := by decide +kernel
theorem d_M_laysTurns_31 : decode prog_14_method_110_code 31 = .ok (.goto (-16), 3) := by decide +kernel
theorem d_M_laysTurns_34 : decode prog_14_method_110_code 34 = .ok (.iconst 0, 1) := by decide +kernel
theorem d_M_laysTurns_35 : decode prog_14_method_110_code 35 = .ok (.istore_n 2, 1) := by decide +kernel
theorem d_M_laysTurns_36 : decode prog_14_method_110_code 36 = .ok (.iload_n 2, 1) := by decide +kernel
theorem d_M_laysTurns_37 : decode prog_14_method_110_code 37 = .ok (.bipush 8, 2) := by decide +kernel
theorem d_M_laysTurns_39 : decode prog_14_method_110_code 39 = .ok (.if_icmp .ge 29, 3) := by decide +kernel
theorem d_M_laysTurns_42 : decode prog_14_method_110_code 42 = .ok (.aload_n 0, 1) := by decide +kernel
theorem d_M_laysTurns_43 : decode prog_14_method_110_code 43 = .ok (.getfield 50, 3) := by decide +kernel
theorem d_M_laysTurns_46 : decode prog_14_method_110_code 46 = .ok (.iload_n 2, 1) := by decide +kernel
theorem d_M_laysTurns_47 : decode prog_14_method_110_code 47 = .ok (.iload_n 2, 1) := by decide +kernel
theorem d_M_laysTurns_48 : decode prog_14_method_110_code 48 = .ok (.aload_n 0, 1) := by decide +kernel
theorem d_M_laysTurns_49 : decode prog_14_method_110_code 49 = .ok (.iload_n 1, 1) := by decide +kernel
theorem d_M_laysTurns_50 : decode prog_14_method_110_code 50 = .ok (.invokevirtual 387, 3) := by decide +kernel
theorem d_M_laysTurns_53 : decode prog_14_method_110_code 53 = .ok (.if_icmp .ne 7, 3) := by decide +kernel
theorem d_M_laysTurns_56 : decode prog_14_method_110_code 56 = .ok (.lconst 1, 1) := by decide +kernel
theorem d_M_laysTurns_57 : decode prog_14_method_110_code 57 = .ok (.goto 4, 3) := by decide +kernel
theorem d_M_laysTurns_60 : decode prog_14_method_110_code 60 = .ok (.lconst 0, 1) := by decide +kernel
theorem d_M_laysTurns_61 : decode prog_14_method_110_code 61 = .ok (.lastore, 1) := by decide +kernel
theorem d_M_laysTurns_62 : decode prog_14_method_110_code 62 = .ok (.iinc 2 1, 3) := by decide +kernel
theorem d_M_laysTurns_65 : decode prog_14_method_110_code 65 = .ok (.goto (-29), 3) := by decide +kernel
theorem d_M_laysTurns_68 : decode prog_14_method_110_code 68 = .ok (.iconst 1, 1) := by decide +kernel
theorem d_M_laysTurns_69 : decode prog_14_method_110_code 69 = .ok (.istore_n 2, 1) := by decide +kernel
theorem d_M_laysTurns_70 : decode prog_14_method_110_code 70 = .ok (.iload_n 2, 1) := by decide +kernel
theorem d_M_laysTurns_71 : decode prog_14_method_110_code 71 = .ok (.aload_n 0, 1) := by decide +kernel
theorem d_M_laysTurns_72 : decode prog_14_method_110_code 72 = .ok (.getfield 35, 3) := by decide +kernel
theorem d_M_laysTurns_75 : decode prog_14_method_110_code 75 = .ok (.bipush 88, 2) := by decide +kernel
theorem d_M_laysTurns_77 : decode prog_14_method_110_code 77 = .ok (.iload_n 1, 1) := by decide +kernel
theorem d_M_laysTurns_78 : decode prog_14_method_110_code 78 = .ok (.iadd, 1) := by decide +kernel
theorem d_M_laysTurns_79 : decode prog_14_method_110_code 79 = .ok (.iaload, 1) := by decide +kernel
theorem d_M_laysTurns_80 : decode prog_14_method_110_code 80 = .ok (.if_icmp .gt 185, 3) := by decide +kernel
theorem d_M_laysTurns_83 : decode prog_14_method_110_code 83 = .ok (.iconst 0, 1) := by decide +kernel
theorem d_M_laysTurns_84 : decode prog_14_method_110_code 84 = .ok (.istore_n 3, 1) := by decide +kernel
theorem d_M_laysTurns_85 : decode prog_14_method_110_code 85 = .ok (.iload_n 3, 1) := by decide +kernel
theorem d_M_laysTurns_86 : decode prog_14_method_110_code 86 = .ok (.bipush 8, 2) := by decide +kernel
theorem d_M_laysTurns_88 : decode prog_14_method_110_code 88 = .ok (.if_icmp .ge 16, 3) := by decide +kernel
theorem d_M_laysTurns_91 : decode prog_14_method_110_code 91 = .ok (.aload_n 0, 1) := by decide +kernel
theorem d_M_laysTurns_92 : decode prog_14_method_110_code 92 = .ok (.getfield 53, 3) := by decide +kernel
theorem d_M_laysTurns_95 : decode prog_14_method_110_code 95 = .ok (.iload_n 3, 1) := by decide +kernel
theorem d_M_laysTurns_96 : decode prog_14_method_110_code 96 = .ok (.lconst 0, 1) := by decide +kernel
theorem d_M_laysTurns_97 : decode prog_14_method_110_code 97 = .ok (.lastore, 1) := by decide +kernel
theorem d_M_laysTurns_98 : decode prog_14_method_110_code 98 = .ok (.iinc 3 1, 3) := by decide +kernel
theorem d_M_laysTurns_101 : decode prog_14_method_110_code 101 = .ok (.goto (-16), 3) := by decide +kernel
theorem d_M_laysTurns_104 : decode prog_14_method_110_code 104 = .ok (.iconst 0, 1) := by decide +kernel
theorem d_M_laysTurns_105 : decode prog_14_method_110_code 105 = .ok (.istore_n 3, 1) := by decide +kernel
theorem d_M_laysTurns_106 : decode prog_14_method_110_code 106 = .ok (.iload_n 3, 1) := by decide +kernel
theorem d_M_laysTurns_107 : decode prog_14_method_110_code 107 = .ok (.bipush 8, 2) := by decide +kernel
theorem d_M_laysTurns_109 : decode prog_14_method_110_code 109 = .ok (.if_icmp .ge 124, 3) := by decide +kernel
theorem d_M_laysTurns_112 : decode prog_14_method_110_code 112 = .ok (.iconst 0, 1) := by decide +kernel
theorem d_M_laysTurns_113 : decode prog_14_method_110_code 113 = .ok (.istore 4, 2) := by decide +kernel
theorem d_M_laysTurns_115 : decode prog_14_method_110_code 115 = .ok (.iload 4, 2) := by decide +kernel
theorem d_M_laysTurns_117 : decode prog_14_method_110_code 117 = .ok (.aload_n 0, 1) := by decide +kernel
theorem d_M_laysTurns_118 : decode prog_14_method_110_code 118 = .ok (.getfield 35, 3) := by decide +kernel
theorem d_M_laysTurns_121 : decode prog_14_method_110_code 121 = .ok (.iconst 1, 1) := by decide +kernel
theorem d_M_laysTurns_122 : decode prog_14_method_110_code 122 = .ok (.iaload, 1) := by decide +kernel
theorem d_M_laysTurns_123 : decode prog_14_method_110_code 123 = .ok (.if_icmp .ge 104, 3) := by decide +kernel
theorem d_M_laysTurns_126 : decode prog_14_method_110_code 126 = .ok (.aload_n 0, 1) := by decide +kernel
theorem d_M_laysTurns_127 : decode prog_14_method_110_code 127 = .ok (.getfield 35, 3) := by decide +kernel
theorem d_M_laysTurns_130 : decode prog_14_method_110_code 130 = .ok (.bipush 18, 2) := by decide +kernel
theorem d_M_laysTurns_132 : decode prog_14_method_110_code 132 = .ok (.bipush 8, 2) := by decide +kernel
theorem d_M_laysTurns_134 : decode prog_14_method_110_code 134 = .ok (.iload_n 3, 1) := by decide +kernel
theorem d_M_laysTurns_135 : decode prog_14_method_110_code 135 = .ok (.imul, 1) := by decide +kernel
theorem d_M_laysTurns_136 : decode prog_14_method_110_code 136 = .ok (.iadd, 1) := by decide +kernel
theorem d_M_laysTurns_137 : decode prog_14_method_110_code 137 = .ok (.iload 4, 2) := by decide +kernel
theorem d_M_laysTurns_139 : decode prog_14_method_110_code 139 = .ok (.iadd, 1) := by decide +kernel
theorem d_M_laysTurns_140 : decode prog_14_method_110_code 140 = .ok (.iaload, 1) := by decide +kernel
theorem d_M_laysTurns_141 : decode prog_14_method_110_code 141 = .ok (.istore 5, 2) := by decide +kernel
theorem d_M_laysTurns_143 : decode prog_14_method_110_code 143 = .ok (.iload 5, 2) := by decide +kernel
theorem d_M_laysTurns_145 : decode prog_14_method_110_code 145 = .ok (.ifCond .lt 76, 3) := by decide +kernel
theorem d_M_laysTurns_148 : decode prog_14_method_110_code 148 = .ok (.aload_n 0, 1) := by decide +kernel
theorem d_M_laysTurns_149 : decode prog_14_method_110_code 149 = .ok (.iload_n 1, 1) := by decide +kernel
theorem d_M_laysTurns_150 : decode prog_14_method_110_code 150 = .ok (.iload_n 2, 1) := by decide +kernel
theorem d_M_laysTurns_151 : decode prog_14_method_110_code 151 = .ok (.iload 4, 2) := by decide +kernel
theorem d_M_laysTurns_153 : decode prog_14_method_110_code 153 = .ok (.aload_n 0, 1) := by decide +kernel
theorem d_M_laysTurns_154 : decode prog_14_method_110_code 154 = .ok (.getfield 35, 3) := by decide +kernel
theorem d_M_laysTurns_157 : decode prog_14_method_110_code 157 = .ok (.bipush 9, 2) := by decide +kernel
theorem d_M_laysTurns_159 : decode prog_14_method_110_code 159 = .ok (.iaload, 1) := by decide +kernel
theorem d_M_laysTurns_160 : decode prog_14_method_110_code 160 = .ok (.invokevirtual 399, 3) := by decide +kernel
theorem d_M_laysTurns_163 : decode prog_14_method_110_code 163 = .ok (.ifCond .eq 6, 3) := by decide +kernel
theorem d_M_laysTurns_166 : decode prog_14_method_110_code 166 = .ok (.goto 55, 3) := by decide +kernel
theorem d_M_laysTurns_169 : decode prog_14_method_110_code 169 = .ok (.aload_n 0, 1) := by decide +kernel
theorem d_M_laysTurns_170 : decode prog_14_method_110_code 170 = .ok (.getfield 47, 3) := by decide +kernel
theorem d_M_laysTurns_173 : decode prog_14_method_110_code 173 = .ok (.bipush 8, 2) := by decide +kernel
theorem d_M_laysTurns_175 : decode prog_14_method_110_code 175 = .ok (.iload_n 2, 1) := by decide +kernel
theorem d_M_laysTurns_176 : decode prog_14_method_110_code 176 = .ok (.imul, 1) := by decide +kernel
theorem d_M_laysTurns_177 : decode prog_14_method_110_code 177 = .ok (.iload 4, 2) := by decide +kernel
theorem d_M_laysTurns_179 : decode prog_14_method_110_code 179 = .ok (.iadd, 1) := by decide +kernel
theorem d_M_laysTurns_180 : decode prog_14_method_110_code 180 = .ok (.dup2, 1) := by decide +kernel
theorem d_M_laysTurns_181 : decode prog_14_method_110_code 181 = .ok (.laload, 1) := by decide +kernel
theorem d_M_laysTurns_182 : decode prog_14_method_110_code 182 = .ok (.aload_n 0, 1) := by decide +kernel
theorem d_M_laysTurns_183 : decode prog_14_method_110_code 183 = .ok (.getfield 50, 3) := by decide +kernel
theorem d_M_laysTurns_186 : decode prog_14_method_110_code 186 = .ok (.iload_n 3, 1) := by decide +kernel
theorem d_M_laysTurns_187 : decode prog_14_method_110_code 187 = .ok (.laload, 1) := by decide +kernel
theorem d_M_laysTurns_188 : decode prog_14_method_110_code 188 = .ok (.aload_n 0, 1) := by decide +kernel
theorem d_M_laysTurns_189 : decode prog_14_method_110_code 189 = .ok (.getfield 44, 3) := by decide +kernel
theorem d_M_laysTurns_192 : decode prog_14_method_110_code 192 = .ok (.bipush 8, 2) := by decide +kernel
theorem d_M_laysTurns_194 : decode prog_14_method_110_code 194 = .ok (.iload_n 2, 1) := by decide +kernel
theorem d_M_laysTurns_195 : decode prog_14_method_110_code 195 = .ok (.iconst 1, 1) := by decide +kernel
theorem d_M_laysTurns_196 : decode prog_14_method_110_code 196 = .ok (.iadd, 1) := by decide +kernel
theorem d_M_laysTurns_197 : decode prog_14_method_110_code 197 = .ok (.imul, 1) := by decide +kernel
theorem d_M_laysTurns_198 : decode prog_14_method_110_code 198 = .ok (.iload 5, 2) := by decide +kernel
theorem d_M_laysTurns_200 : decode prog_14_method_110_code 200 = .ok (.iadd, 1) := by decide +kernel
theorem d_M_laysTurns_201 : decode prog_14_method_110_code 201 = .ok (.laload, 1) := by decide +kernel
theorem d_M_laysTurns_202 : decode prog_14_method_110_code 202 = .ok (.lmul, 1) := by decide +kernel
theorem d_M_laysTurns_203 : decode prog_14_method_110_code 203 = .ok (.ladd, 1) := by decide +kernel
theorem d_M_laysTurns_204 : decode prog_14_method_110_code 204 = .ok (.lastore, 1) := by decide +kernel
theorem d_M_laysTurns_205 : decode prog_14_method_110_code 205 = .ok (.aload_n 0, 1) := by decide +kernel
theorem d_M_laysTurns_206 : decode prog_14_method_110_code 206 = .ok (.getfield 53, 3) := by decide +kernel
theorem d_M_laysTurns_209 : decode prog_14_method_110_code 209 = .ok (.iload 5, 2) := by decide +kernel
theorem d_M_laysTurns_211 : decode prog_14_method_110_code 211 = .ok (.dup2, 1) := by decide +kernel
theorem d_M_laysTurns_212 : decode prog_14_method_110_code 212 = .ok (.laload, 1) := by decide +kernel
theorem d_M_laysTurns_213 : decode prog_14_method_110_code 213 = .ok (.aload_n 0, 1) := by decide +kernel
theorem d_M_laysTurns_214 : decode prog_14_method_110_code 214 = .ok (.getfield 50, 3) := by decide +kernel
theorem d_M_laysTurns_217 : decode prog_14_method_110_code 217 = .ok (.iload_n 3, 1) := by decide +kernel
theorem d_M_laysTurns_218 : decode prog_14_method_110_code 218 = .ok (.laload, 1) := by decide +kernel
theorem d_M_laysTurns_219 : decode prog_14_method_110_code 219 = .ok (.ladd, 1) := by decide +kernel
theorem d_M_laysTurns_220 : decode prog_14_method_110_code 220 = .ok (.lastore, 1) := by decide +kernel
theorem d_M_laysTurns_221 : decode prog_14_method_110_code 221 = .ok (.iinc 4 1, 3) := by decide +kernel
theorem d_M_laysTurns_224 : decode prog_14_method_110_code 224 = .ok (.goto (-109), 3) := by decide +kernel
theorem d_M_laysTurns_227 : decode prog_14_method_110_code 227 = .ok (.iinc 3 1, 3) := by decide +kernel
theorem d_M_laysTurns_230 : decode prog_14_method_110_code 230 = .ok (.goto (-124), 3) := by decide +kernel
theorem d_M_laysTurns_233 : decode prog_14_method_110_code 233 = .ok (.iconst 0, 1) := by decide +kernel
theorem d_M_laysTurns_234 : decode prog_14_method_110_code 234 = .ok (.istore_n 3, 1) := by decide +kernel
theorem d_M_laysTurns_235 : decode prog_14_method_110_code 235 = .ok (.iload_n 3, 1) := by decide +kernel
theorem d_M_laysTurns_236 : decode prog_14_method_110_code 236 = .ok (.bipush 8, 2) := by decide +kernel
theorem d_M_laysTurns_238 : decode prog_14_method_110_code 238 = .ok (.if_icmp .ge 21, 3) := by decide +kernel
theorem d_M_laysTurns_241 : decode prog_14_method_110_code 241 = .ok (.aload_n 0, 1) := by decide +kernel
theorem d_M_laysTurns_242 : decode prog_14_method_110_code 242 = .ok (.getfield 50, 3) := by decide +kernel
theorem d_M_laysTurns_245 : decode prog_14_method_110_code 245 = .ok (.iload_n 3, 1) := by decide +kernel
theorem d_M_laysTurns_246 : decode prog_14_method_110_code 246 = .ok (.aload_n 0, 1) := by decide +kernel
theorem d_M_laysTurns_247 : decode prog_14_method_110_code 247 = .ok (.getfield 53, 3) := by decide +kernel
theorem d_M_laysTurns_250 : decode prog_14_method_110_code 250 = .ok (.iload_n 3, 1) := by decide +kernel
theorem d_M_laysTurns_251 : decode prog_14_method_110_code 251 = .ok (.laload, 1) := by decide +kernel
theorem d_M_laysTurns_252 : decode prog_14_method_110_code 252 = .ok (.lastore, 1) := by decide +kernel
theorem d_M_laysTurns_253 : decode prog_14_method_110_code 253 = .ok (.iinc 3 1, 3) := by decide +kernel
theorem d_M_laysTurns_256 : decode prog_14_method_110_code 256 = .ok (.goto (-21), 3) := by decide +kernel
theorem d_M_laysTurns_259 : decode prog_14_method_110_code 259 = .ok (.iinc 2 1, 3) := by decide +kernel
theorem d_M_laysTurns_262 : decode prog_14_method_110_code 262 = .ok (.goto (-192), 3) := by decide +kernel
theorem d_M_laysTurns_265 : decode prog_14_method_110_code 265 = .ok (.return_, 1) := by decide +kernel
def M_laysTurns_L235 (Y : Ly) (l0 : Nat) (l1 : Int32) (l2 : Int32) (k70 : Int32 → Hp → Option Hp) : Nat → Int32 → Hp → Option Hp
  | 0, _, _ => none
  | F + 1, l3, h =>
    if 8 ≤ l3 then
      k70 (l2 + 1) h
    else
      if inB l3 (lnY Y (hGr h 1228 l0)) = true then
        if inB l3 (lnY Y (hGr h 1227 l0)) = true then
          letH (hTl h (hGr h 1227 l0) (Int32.toNatClampNeg l3) (hAl h (hGr h 1228 l0) (Int32.toNatClampNeg l3))) fun h16 =>
          M_laysTurns_L235 Y l0 l1 l2 k70 F (l3 + 1) h16
        else none
      else none
theorem M_laysTurns_L235_ok (Y : Ly) (l0 : Nat) (l1 : Int32) (l2 : Int32) (k70 : Int32 → Hp → Option Hp) (tl0 : isO Y 12 l0) (hk70 : ∀ (l2_ : Int32) (h_ : Hp), AW Y 3 K_M_laysTurns 70 [(0, .ref l0), (1, .int l1), (2, .int l2_)] [] h_ (k70 l2_ h_) rV) : ∀ (F : Nat) (l3 : Int32) (h : Hp), AW Y 3 K_M_laysTurns 235 [(0, .ref l0), (1, .int l1), (2, .int l2), (3, .int l3)] [] h (M_laysTurns_L235 Y l0 l1 l2 k70 F l3 h) rV := by
  intro F
  induction F with
  | zero =>
    intro l3 h
    exact aw_none
  | succ F ih =>
    intro l3 h
    unfold M_laysTurns_L235
    refine aw_iload_n (pc := 235) d_M_laysTurns_235 rfl 3 rfl ?_
    refine aw_bipush (pc := 236) (x := 8) d_M_laysTurns_236 (by decide) ?_
    refine aw_icmp_ge (pc := 238) (tgt := 259) d_M_laysTurns_238 (by decide) (fun c11 => ?_) (fun c11 => ?_)
    · refine aw_iinc (pc := 259) (w := l2 + 1) (lv' := [(2, .int (l2 + 1)), (0, .ref l0), (1, .int l1), (3, .int l3)]) d_M_laysTurns_259 2 rfl rfl (by decide) rfl ?_
      refine aw_goto (pc := 262) (tgt := 70) d_M_laysTurns_262 (by decide) ?_
      exact aw_lv [1, 2, 0] rfl (hk70 (l2 + 1) h)
    · refine aw_aload_n (pc := 241) d_M_laysTurns_241 rfl 0 rfl ?_
      refine gt_1227 (pc := 242) d_M_laysTurns_242 w7_54 tl0 (fun tt12 => ?_)
      refine aw_iload_n (pc := 245) d_M_laysTurns_245 rfl 3 rfl ?_
      refine aw_aload_n (pc := 246) d_M_laysTurns_246 rfl 0 rfl ?_
      refine gt_1228 (pc := 247) d_M_laysTurns_247 w7_55 tl0 (fun tt13 => ?_)
      refine aw_iload_n (pc := 250) d_M_laysTurns_250 rfl 3 rfl ?_
      refine aw_laload (pc := 251) d_M_laysTurns_251 tt13 (fun c14 => ?_)
      refine aw_lastore (pc := 252) d_M_laysTurns_252 tt12 (fun c15 => ?_)
      refine aw_letH (fun h16 => ?_)
      refine aw_iinc (pc := 253) (w := l3 + 1) (lv' := [(3, .int (l3 + 1)), (0, .ref l0), (1, .int l1), (2, .int l2)]) d_M_laysTurns_253 3 rfl rfl (by decide) rfl ?_
      refine aw_goto (pc := 256) (tgt := 235) d_M_laysTurns_256 (by decide) ?_
      exact aw_lv [1, 2, 3, 0] rfl (ih (l3 + 1) h16)
def M_laysTurns_L115 (Y : Ly) (l0 : Nat) (l1 : Int32) (l2 : Int32) (l3 : Int32) (k106 : Int32 → Hp → Option Hp) : Nat → Int32 → Hp → Option Hp
  | 0, _, _ => none
  | F + 1, l4, h =>
    if inB 1 (lnY Y (hGr h 1220 l0)) = true then
      if (hAi h (hGr h 1220 l0) (Int32.toNatClampNeg 1)) ≤ l4 then
        k106 (l3 + 1) h
      else
        if inB ((18 + (8 * l3)) + l4) (lnY Y (hGr h 1220 l0)) = true then
          if (hAi h (hGr h 1220 l0) (Int32.toNatClampNeg ((18 + (8 * l3)) + l4))) < 0 then
            M_laysTurns_L115 Y l0 l1 l2 l3 k106 F (l4 + 1) h
          else
            if inB 9 (lnY Y (hGr h 1220 l0)) = true then
              (M_isBarred Y l0 l1 l2 l4 (hAi h (hGr h 1220 l0) (Int32.toNatClampNeg 9)) h).bind fun q25 =>
              if q25 = true then
                M_laysTurns_L115 Y l0 l1 l2 l3 k106 F (l4 + 1) h
              else
                if inB ((8 * l2) + l4) (lnY Y (hGr h 1226 l0)) = true then
                  if inB l3 (lnY Y (hGr h 1227 l0)) = true then
                    if inB ((8 * (l2 + 1)) + (hAi h (hGr h 1220 l0) (Int32.toNatClampNeg ((18 + (8 * l3)) + l4)))) (lnY Y (hGr h 1225 l0)) = true then
                      if inB ((8 * l2) + l4) (lnY Y (hGr h 1226 l0)) = true then
                        letH (hTl h (hGr h 1226 l0) (Int32.toNatClampNeg ((8 * l2) + l4)) ((hAl h (hGr h 1226 l0) (Int32.toNatClampNeg ((8 * l2) + l4))) + ((hAl h (hGr h 1227 l0) (Int32.toNatClampNeg l3)) * (hAl h (hGr h 1225 l0) (Int32.toNatClampNeg ((8 * (l2 + 1)) + (hAi h (hGr h 1220 l0) (Int32.toNatClampNeg ((18 + (8 * l3)) + l4))))))))) fun h34 =>
                        if inB (hAi h (hGr h 1220 l0) (Int32.toNatClampNeg ((18 + (8 * l3)) + l4))) (lnY Y (hGr h34 1228 l0)) = true then
                          if inB l3 (lnY Y (hGr h34 1227 l0)) = true then
                            if inB (hAi h (hGr h 1220 l0) (Int32.toNatClampNeg ((18 + (8 * l3)) + l4))) (lnY Y (hGr h34 1228 l0)) = true then
                              letH (hTl h34 (hGr h34 1228 l0) (Int32.toNatClampNeg (hAi h (hGr h 1220 l0) (Int32.toNatClampNeg ((18 + (8 * l3)) + l4)))) ((hAl h34 (hGr h34 1228 l0) (Int32.toNatClampNeg (hAi h (hGr h 1220 l0) (Int32.toNatClampNeg ((18 + (8 * l3)) + l4))))) + (hAl h34 (hGr h34 1227 l0) (Int32.toNatClampNeg l3)))) fun h40 =>
                              M_laysTurns_L115 Y l0 l1 l2 l3 k106 F (l4 + 1) h40
                            else none
                          else none
                        else none
                      else none
                    else none
                  else none
                else none
            else none
        else none
    else none
theorem M_laysTurns_L115_ok (Y : Ly) (l0 : Nat) (l1 : Int32) (l2 : Int32) (l3 : Int32) (k106 : Int32 → Hp → Option Hp) (tl0 : isO Y 12 l0) (hk106 : ∀ (l3_ : Int32) (h_ : Hp), AW Y 3 K_M_laysTurns 106 [(0, .ref l0), (1, .int l1), (2, .int l2), (3, .int l3_)] [] h_ (k106 l3_ h_) rV) : ∀ (F : Nat) (l4 : Int32) (h : Hp), AW Y 3 K_M_laysTurns 115 [(0, .ref l0), (1, .int l1), (2, .int l2), (3, .int l3), (4, .int l4)] [] h (M_laysTurns_L115 Y l0 l1 l2 l3 k106 F l4 h) rV := by
  intro F
  induction F with
  | zero =>
    intro l4 h
    exact aw_none
  | succ F ih =>
    intro l4 h
    unfold M_laysTurns_L115
    refine aw_iload (pc := 115) d_M_laysTurns_115 4 rfl ?_
    refine aw_aload_n (pc := 117) d_M_laysTurns_117 rfl 0 rfl ?_
    refine gt_1220 (pc := 118) d_M_laysTurns_118 w7_47 tl0 (fun tt17 => ?_)
    refine aw_iconst (pc := 121) (x := 1) d_M_laysTurns_121 (by decide) ?_
    refine aw_iaload (pc := 122) d_M_laysTurns_122 tt17 (fun c18 => ?_)
    refine aw_icmp_ge (pc := 123) (tgt := 227) d_M_laysTurns_123 (by decide) (fun c19 => ?_) (fun c19 => ?_)
    · refine aw_iinc (pc := 227) (w := l3 + 1) (lv' := [(3, .int (l3 + 1)), (0, .ref l0), (1, .int l1), (2, .int l2), (4, .int l4)]) d_M_laysTurns_227 3 rfl rfl (by decide) rfl ?_
      refine aw_goto (pc := 230) (tgt := 106) d_M_laysTurns_230 (by decide) ?_
      exact aw_lv [1, 2, 3, 0] rfl (hk106 (l3 + 1) h)
    · refine aw_aload_n (pc := 126) d_M_laysTurns_126 rfl 0 rfl ?_
      refine gt_1220 (pc := 127) d_M_laysTurns_127 w7_47 tl0 (fun tt20 => ?_)
      refine aw_bipush (pc := 130) (x := 18) d_M_laysTurns_130 (by decide) ?_
      refine aw_bipush (pc := 132) (x := 8) d_M_laysTurns_132 (by decide) ?_
      refine aw_iload_n (pc := 134) d_M_laysTurns_134 rfl 3 rfl ?_
      refine aw_imul (pc := 135) d_M_laysTurns_135 ?_
      refine aw_iadd (pc := 136) d_M_laysTurns_136 ?_
      refine aw_iload (pc := 137) d_M_laysTurns_137 4 rfl ?_
      refine aw_iadd (pc := 139) d_M_laysTurns_139 ?_
      refine aw_iaload (pc := 140) d_M_laysTurns_140 tt20 (fun c21 => ?_)
      refine aw_istore (pc := 141) (lv' := [(5, .int (hAi h (hGr h 1220 l0) (Int32.toNatClampNeg ((18 + (8 * l3)) + l4)))), (0, .ref l0), (1, .int l1), (2, .int l2), (3, .int l3), (4, .int l4)]) d_M_laysTurns_141 (by decide) rfl ?_
      refine aw_iload (pc := 143) d_M_laysTurns_143 0 rfl ?_
      refine aw_if_lt (pc := 145) (tgt := 221) d_M_laysTurns_145 (by decide) (fun c22 => ?_) (fun c22 => ?_)
      · refine aw_iinc (pc := 221) (w := l4 + 1) (lv' := [(4, .int (l4 + 1)), (5, .int (hAi h (hGr h 1220 l0) (Int32.toNatClampNeg ((18 + (8 * l3)) + l4)))), (0, .ref l0), (1, .int l1), (2, .int l2), (3, .int l3)]) d_M_laysTurns_221 5 rfl rfl (by decide) rfl ?_
        refine aw_goto (pc := 224) (tgt := 115) d_M_laysTurns_224 (by decide) ?_
        exact aw_lv [2, 3, 4, 5, 0] rfl (ih (l4 + 1) h)
      · refine aw_aload_n (pc := 148) d_M_laysTurns_148 rfl 1 rfl ?_
        refine aw_iload_n (pc := 149) d_M_laysTurns_149 rfl 2 rfl ?_
        refine aw_iload_n (pc := 150) d_M_laysTurns_150 rfl 3 rfl ?_
        refine aw_iload (pc := 151) d_M_laysTurns_151 5 rfl ?_
        refine aw_aload_n (pc := 153) d_M_laysTurns_153 rfl 1 rfl ?_
        refine gt_1220 (pc := 154) d_M_laysTurns_154 w7_47 tl0 (fun tt23 => ?_)
        refine aw_bipush (pc := 157) (x := 9) d_M_laysTurns_157 (by decide) ?_
        refine aw_iaload (pc := 159) d_M_laysTurns_159 tt23 (fun c24 => ?_)
        refine aw_cVpZ (pc := 160) (ci := 12) (T := TX12) (N := 44) (As := [.int l1, .int l2, .int l4, .int (hAi h (hGr h 1220 l0) (Int32.toNatClampNeg 9))]) (st := []) (ok_M_isBarred Y l0 l1 l2 l4 (hAi h (hGr h 1220 l0) (Int32.toNatClampNeg 9)) h tl0) okV_M_isBarred rfl (by decide) tl0 w9_106 d_M_laysTurns_160 rfl (Nat.le_of_ble_eq_true rfl) rfl (Nat.le_of_ble_eq_true rfl) (fun q25 hq25 hTq25 => ?_)
        refine aw_beq (pc := 163) (tgt := 169) d_M_laysTurns_163 (by decide) (fun c26 => ?_) (fun c26 => ?_)
        · refine aw_goto (pc := 166) (tgt := 221) d_M_laysTurns_166 (by decide) ?_
          refine aw_iinc (pc := 221) (w := l4 + 1) (lv' := [(4, .int (l4 + 1)), (5, .int (hAi h (hGr h 1220 l0) (Int32.toNatClampNeg ((18 + (8 * l3)) + l4)))), (0, .ref l0), (1, .int l1), (2, .int l2), (3, .int l3)]) d_M_laysTurns_221 5 rfl rfl (by decide) rfl ?_
          refine aw_goto (pc := 224) (tgt := 115) d_M_laysTurns_224 (by decide) ?_
          exact aw_lv [2, 3, 4, 5, 0] rfl (ih (l4 + 1) h)
        · refine aw_aload_n (pc := 169) d_M_laysTurns_169 rfl 1 rfl ?_
          refine gt_1226 (pc := 170) d_M_laysTurns_170 w7_53 tl0 (fun tt27 => ?_)
          refine aw_bipush (pc := 173) (x := 8) d_M_laysTurns_173 (by decide) ?_
          refine aw_iload_n (pc := 175) d_M_laysTurns_175 rfl 3 rfl ?_
          refine aw_imul (pc := 176) d_M_laysTurns_176 ?_
          refine aw_iload (pc := 177) d_M_laysTurns_177 5 rfl ?_
          refine aw_iadd (pc := 179) d_M_laysTurns_179 ?_
          refine aw_dup2_11 (pc := 180) d_M_laysTurns_180 rfl rfl ?_
          refine aw_laload (pc := 181) d_M_laysTurns_181 tt27 (fun c28 => ?_)
          refine aw_aload_n (pc := 182) d_M_laysTurns_182 rfl 1 rfl ?_
          refine gt_1227 (pc := 183) d_M_laysTurns_183 w7_54 tl0 (fun tt29 => ?_)
          refine aw_iload_n (pc := 186) d_M_laysTurns_186 rfl 4 rfl ?_
          refine aw_laload (pc := 187) d_M_laysTurns_187 tt29 (fun c30 => ?_)
          refine aw_aload_n (pc := 188) d_M_laysTurns_188 rfl 1 rfl ?_
          refine gt_1225 (pc := 189) d_M_laysTurns_189 w7_52 tl0 (fun tt31 => ?_)
          refine aw_bipush (pc := 192) (x := 8) d_M_laysTurns_192 (by decide) ?_
          refine aw_iload_n (pc := 194) d_M_laysTurns_194 rfl 3 rfl ?_
          refine aw_iconst (pc := 195) (x := 1) d_M_laysTurns_195 (by decide) ?_
          refine aw_iadd (pc := 196) d_M_laysTurns_196 ?_
          refine aw_imul (pc := 197) d_M_laysTurns_197 ?_
          refine aw_iload (pc := 198) d_M_laysTurns_198 0 rfl ?_
          refine aw_iadd (pc := 200) d_M_laysTurns_200 ?_
          refine aw_laload (pc := 201) d_M_laysTurns_201 tt31 (fun c32 => ?_)
          refine aw_lmul (pc := 202) d_M_laysTurns_202 ?_
          refine aw_ladd (pc := 203) d_M_laysTurns_203 ?_
          refine aw_lastore (pc := 204) d_M_laysTurns_204 tt27 (fun c33 => ?_)
          refine aw_letH (fun h34 => ?_)
          refine aw_aload_n (pc := 205) d_M_laysTurns_205 rfl 1 rfl ?_
          refine gt_1228 (pc := 206) d_M_laysTurns_206 w7_55 tl0 (fun tt35 => ?_)
          refine aw_iload (pc := 209) d_M_laysTurns_209 0 rfl ?_
          refine aw_dup2_11 (pc := 211) d_M_laysTurns_211 rfl rfl ?_
          refine aw_laload (pc := 212) d_M_laysTurns_212 tt35 (fun c36 => ?_)
          refine aw_aload_n (pc := 213) d_M_laysTurns_213 rfl 1 rfl ?_
          refine gt_1227 (pc := 214) d_M_laysTurns_214 w7_54 tl0 (fun tt37 => ?_)
          refine aw_iload_n (pc := 217) d_M_laysTurns_217 rfl 4 rfl ?_
          refine aw_laload (pc := 218) d_M_laysTurns_218 tt37 (fun c38 => ?_)
          refine aw_ladd (pc := 219) d_M_laysTurns_219 ?_
          refine aw_lastore (pc := 220) d_M_laysTurns_220 tt35 (fun c39 => ?_)
          refine aw_letH (fun h40 => ?_)
          refine aw_iinc (pc := 221) (w := l4 + 1) (lv' := [(4, .int (l4 + 1)), (5, .int (hAi h (hGr h 1220 l0) (Int32.toNatClampNeg ((18 + (8 * l3)) + l4)))), (0, .ref l0), (1, .int l1), (2, .int l2), (3, .int l3)]) d_M_laysTurns_221 5 rfl rfl (by decide) rfl ?_
          refine aw_goto (pc := 224) (tgt := 115) d_M_laysTurns_224 (by decide) ?_
          exact aw_lv [2, 3, 4, 5, 0] rfl (ih (l4 + 1) h40)
def M_laysTurns_L106 (Y : Ly) (l0 : Nat) (l1 : Int32) (l2 : Int32) (k70 : Int32 → Hp → Option Hp) : Nat → Int32 → Hp → Option Hp
  | 0, _, _ => none
  | F + 1, l3, h =>
    if 8 ≤ l3 then
      M_laysTurns_L235 Y l0 l1 l2 k70 FU 0 h
    else
      M_laysTurns_L115 Y l0 l1 l2 l3 (M_laysTurns_L106 Y l0 l1 l2 k70 F) FU 0 h
theorem M_laysTurns_L106_ok (Y : Ly) (l0 : Nat) (l1 : Int32) (l2 : Int32) (k70 : Int32 → Hp → Option Hp) (tl0 : isO Y 12 l0) (hk70 : ∀ (l2_ : Int32) (h_ : Hp), AW Y 3 K_M_laysTurns 70 [(0, .ref l0), (1, .int l1), (2, .int l2_)] [] h_ (k70 l2_ h_) rV) : ∀ (F : Nat) (l3 : Int32) (h : Hp), AW Y 3 K_M_laysTurns 106 [(0, .ref l0), (1, .int l1), (2, .int l2), (3, .int l3)] [] h (M_laysTurns_L106 Y l0 l1 l2 k70 F l3 h) rV := by
  intro F
  induction F with
  | zero =>
    intro l3 h
    exact aw_none
  | succ F ih =>
    intro l3 h
    unfold M_laysTurns_L106
    refine aw_iload_n (pc := 106) d_M_laysTurns_106 rfl 3 rfl ?_
    refine aw_bipush (pc := 107) (x := 8) d_M_laysTurns_107 (by decide) ?_
    refine aw_icmp_ge (pc := 109) (tgt := 233) d_M_laysTurns_109 (by decide) (fun c10 => ?_) (fun c10 => ?_)
    · refine aw_iconst (pc := 233) (x := 0) d_M_laysTurns_233 (by decide) ?_
      refine aw_istore_n (pc := 234) (lv' := [(3, .int 0), (0, .ref l0), (1, .int l1), (2, .int l2)]) d_M_laysTurns_234 rfl (by decide) rfl ?_
      exact aw_lv [1, 2, 3, 0] rfl (M_laysTurns_L235_ok Y l0 l1 l2 k70 tl0 hk70 FU 0 h)
    · refine aw_iconst (pc := 112) (x := 0) d_M_laysTurns_112 (by decide) ?_
      refine aw_istore (pc := 113) (lv' := [(4, .int 0), (0, .ref l0), (1, .int l1), (2, .int l2), (3, .int l3)]) d_M_laysTurns_113 (by decide) rfl ?_
      exact aw_lv [1, 2, 3, 4, 0] rfl (M_laysTurns_L115_ok Y l0 l1 l2 l3 (M_laysTurns_L106 Y l0 l1 l2 k70 F) tl0 ih FU 0 h)
def M_laysTurns_L85 (Y : Ly) (l0 : Nat) (l1 : Int32) (l2 : Int32) (k70 : Int32 → Hp → Option Hp) : Nat → Int32 → Hp → Option Hp
  | 0, _, _ => none
  | F + 1, l3, h =>
    if 8 ≤ l3 then
      M_laysTurns_L106 Y l0 l1 l2 k70 FU 0 h
    else
      if inB l3 (lnY Y (hGr h 1228 l0)) = true then
        letH (hTl h (hGr h 1228 l0) (Int32.toNatClampNeg l3) 0) fun h43 =>
        M_laysTurns_L85 Y l0 l1 l2 k70 F (l3 + 1) h43
      else none
theorem M_laysTurns_L85_ok (Y : Ly) (l0 : Nat) (l1 : Int32) (l2 : Int32) (k70 : Int32 → Hp → Option Hp) (tl0 : isO Y 12 l0) (hk70 : ∀ (l2_ : Int32) (h_ : Hp), AW Y 3 K_M_laysTurns 70 [(0, .ref l0), (1, .int l1), (2, .int l2_)] [] h_ (k70 l2_ h_) rV) : ∀ (F : Nat) (l3 : Int32) (h : Hp), AW Y 3 K_M_laysTurns 85 [(0, .ref l0), (1, .int l1), (2, .int l2), (3, .int l3)] [] h (M_laysTurns_L85 Y l0 l1 l2 k70 F l3 h) rV := by
  intro F
  induction F with
  | zero =>
    intro l3 h
    exact aw_none
  | succ F ih =>
    intro l3 h
    unfold M_laysTurns_L85
    refine aw_iload_n (pc := 85) d_M_laysTurns_85 rfl 3 rfl ?_
    refine aw_bipush (pc := 86) (x := 8) d_M_laysTurns_86 (by decide) ?_
    refine aw_icmp_ge (pc := 88) (tgt := 104) d_M_laysTurns_88 (by decide) (fun c9 => ?_) (fun c9 => ?_)
    · refine aw_iconst (pc := 104) (x := 0) d_M_laysTurns_104 (by decide) ?_
      refine aw_istore_n (pc := 105) (lv' := [(3, .int 0), (0, .ref l0), (1, .int l1), (2, .int l2)]) d_M_laysTurns_105 rfl (by decide) rfl ?_
      exact aw_lv [1, 2, 3, 0] rfl (M_laysTurns_L106_ok Y l0 l1 l2 k70 tl0 hk70 FU 0 h)
    · refine aw_aload_n (pc := 91) d_M_laysTurns_91 rfl 0 rfl ?_
      refine gt_1228 (pc := 92) d_M_laysTurns_92 w7_55 tl0 (fun tt41 => ?_)
      refine aw_iload_n (pc := 95) d_M_laysTurns_95 rfl 3 rfl ?_
      refine aw_lconst (pc := 96) (x := 0) d_M_laysTurns_96 (by decide) ?_
      refine aw_lastore (pc := 97) d_M_laysTurns_97 tt41 (fun c42 => ?_)
      refine aw_letH (fun h43 => ?_)
      refine aw_iinc (pc := 98) (w := l3 + 1) (lv' := [(3, .int (l3 + 1)), (0, .ref l0), (1, .int l1), (2, .int l2)]) d_M_laysTurns_98 3 rfl rfl (by decide) rfl ?_
      refine aw_goto (pc := 101) (tgt := 85) d_M_laysTurns_101 (by decide) ?_
      exact aw_lv [1, 2, 3, 0] rfl (ih (l3 + 1) h43)
def M_laysTurns_L70 (Y : Ly) (l0 : Nat) (l1 : Int32) : Nat → Int32 → Hp → Option Hp
  | 0, _, _ => none
  | F + 1, l2, h =>
    if inB (88 + l1) (lnY Y (hGr h 1220 l0)) = true then
      if (hAi h (hGr h 1220 l0) (Int32.toNatClampNeg (88 + l1))) < l2 then
        some h
      else
        M_laysTurns_L85 Y l0 l1 l2 (M_laysTurns_L70 Y l0 l1 F) FU 0 h
    else none
theorem M_laysTurns_L70_ok (Y : Ly) (l0 : Nat) (l1 : Int32) (tl0 : isO Y 12 l0) : ∀ (F : Nat) (l2 : Int32) (h : Hp), AW Y 3 K_M_laysTurns 70 [(0, .ref l0), (1, .int l1), (2, .int l2)] [] h (M_laysTurns_L70 Y l0 l1 F l2 h) rV := by
  intro F
  induction F with
  | zero =>
    intro l2 h
    exact aw_none
  | succ F ih =>
    intro l2 h
    unfold M_laysTurns_L70
    refine aw_iload_n (pc := 70) d_M_laysTurns_70 rfl 2 rfl ?_
    refine aw_aload_n (pc := 71) d_M_laysTurns_71 rfl 0 rfl ?_
    refine gt_1220 (pc := 72) d_M_laysTurns_72 w7_47 tl0 (fun tt6 => ?_)
    refine aw_bipush (pc := 75) (x := 88) d_M_laysTurns_75 (by decide) ?_
    refine aw_iload_n (pc := 77) d_M_laysTurns_77 rfl 1 rfl ?_
    refine aw_iadd (pc := 78) d_M_laysTurns_78 ?_
    refine aw_iaload (pc := 79) d_M_laysTurns_79 tt6 (fun c7 => ?_)
    refine aw_icmp_gt (pc := 80) (tgt := 265) d_M_laysTurns_80 (by decide) (fun c8 => ?_) (fun c8 => ?_)
    · exact aw_return (pc := 265) d_M_laysTurns_265 rfl rfl
    · refine aw_iconst (pc := 83) (x := 0) d_M_laysTurns_83 (by decide) ?_
      refine aw_istore_n (pc := 84) (lv' := [(3, .int 0), (0, .ref l0), (1, .int l1), (2, .int l2)]) d_M_laysTurns_84 rfl (by decide) rfl ?_
      exact aw_lv [1, 2, 3, 0] rfl (M_laysTurns_L85_ok Y l0 l1 l2 (M_laysTurns_L70 Y l0 l1 F) tl0 ih FU 0 h)
def M_laysTurns_L36 (Y : Ly) (l0 : Nat) (l1 : Int32) : Nat → Int32 → Hp → Option Hp
  | 0, _, _ => none
  | F + 1, l2, h =>
    if 8 ≤ l2 then
      M_laysTurns_L70 Y l0 l1 FU 1 h
    else
      (M_placeOf Y l0 l1 h).bind fun q45 =>
      if l2 = q45 then
        if inB l2 (lnY Y (hGr h 1227 l0)) = true then
          letH (hTl h (hGr h 1227 l0) (Int32.toNatClampNeg l2) 1) fun h48 =>
          M_laysTurns_L36 Y l0 l1 F (l2 + 1) h48
        else none
      else
        if inB l2 (lnY Y (hGr h 1227 l0)) = true then
          letH (hTl h (hGr h 1227 l0) (Int32.toNatClampNeg l2) 0) fun h50 =>
          M_laysTurns_L36 Y l0 l1 F (l2 + 1) h50
        else none
theorem M_laysTurns_L36_ok (Y : Ly) (l0 : Nat) (l1 : Int32) (tl0 : isO Y 12 l0) : ∀ (F : Nat) (l2 : Int32) (h : Hp), AW Y 3 K_M_laysTurns 36 [(0, .ref l0), (1, .int l1), (2, .int l2)] [] h (M_laysTurns_L36 Y l0 l1 F l2 h) rV := by
  intro F
  induction F with
  | zero =>
    intro l2 h
    exact aw_none
  | succ F ih =>
    intro l2 h
    unfold M_laysTurns_L36
    refine aw_iload_n (pc := 36) d_M_laysTurns_36 rfl 2 rfl ?_
    refine aw_bipush (pc := 37) (x := 8) d_M_laysTurns_37 (by decide) ?_
    refine aw_icmp_ge (pc := 39) (tgt := 68) d_M_laysTurns_39 (by decide) (fun c5 => ?_) (fun c5 => ?_)
    · refine aw_iconst (pc := 68) (x := 1) d_M_laysTurns_68 (by decide) ?_
      refine aw_istore_n (pc := 69) (lv' := [(2, .int 1), (0, .ref l0), (1, .int l1)]) d_M_laysTurns_69 rfl (by decide) rfl ?_
      exact aw_lv [1, 2, 0] rfl (M_laysTurns_L70_ok Y l0 l1 tl0 FU 1 h)
    · refine aw_aload_n (pc := 42) d_M_laysTurns_42 rfl 0 rfl ?_
      refine gt_1227 (pc := 43) d_M_laysTurns_43 w7_54 tl0 (fun tt44 => ?_)
      refine aw_iload_n (pc := 46) d_M_laysTurns_46 rfl 2 rfl ?_
      refine aw_iload_n (pc := 47) d_M_laysTurns_47 rfl 2 rfl ?_
      refine aw_aload_n (pc := 48) d_M_laysTurns_48 rfl 0 rfl ?_
      refine aw_iload_n (pc := 49) d_M_laysTurns_49 rfl 1 rfl ?_
      refine aw_cVpI (pc := 50) (ci := 12) (T := TX12) (N := 44) (As := [.int l1]) (st := [.int l2, .int l2, .ref (hGr h 1227 l0)]) (ok_M_placeOf Y l0 l1 h tl0) okV_M_placeOf rfl (by decide) tl0 w9_45 d_M_laysTurns_50 rfl (Nat.le_of_ble_eq_true rfl) rfl (Nat.le_of_ble_eq_true rfl) (fun q45 hq45 hTq45 => ?_)
      refine aw_icmp_ne (pc := 53) (tgt := 60) d_M_laysTurns_53 (by decide) (fun c46 => ?_) (fun c46 => ?_)
      · refine aw_lconst (pc := 56) (x := 1) d_M_laysTurns_56 (by decide) ?_
        refine aw_goto (pc := 57) (tgt := 61) d_M_laysTurns_57 (by decide) ?_
        refine aw_lastore (pc := 61) d_M_laysTurns_61 tt44 (fun c47 => ?_)
        refine aw_letH (fun h48 => ?_)
        refine aw_iinc (pc := 62) (w := l2 + 1) (lv' := [(2, .int (l2 + 1)), (0, .ref l0), (1, .int l1)]) d_M_laysTurns_62 2 rfl rfl (by decide) rfl ?_
        refine aw_goto (pc := 65) (tgt := 36) d_M_laysTurns_65 (by decide) ?_
        exact aw_lv [1, 2, 0] rfl (ih (l2 + 1) h48)
      · refine aw_lconst (pc := 60) (x := 0) d_M_laysTurns_60 (by decide) ?_
        refine aw_lastore (pc := 61) d_M_laysTurns_61 tt44 (fun c49 => ?_)
        refine aw_letH (fun h50 => ?_)
        refine aw_iinc (pc := 62) (w := l2 + 1) (lv' := [(2, .int (l2 + 1)), (0, .ref l0), (1, .int l1)]) d_M_laysTurns_62 2 rfl rfl (by decide) rfl ?_
        refine aw_goto (pc := 65) (tgt := 36) d_M_laysTurns_65 (by decide) ?_
        exact aw_lv [1, 2, 0] rfl (ih (l2 + 1) h50)
def M_laysTurns_L15 (Y : Ly) (l0 : Nat) (l1 : Int32) : Nat → Int32 → Hp → Option Hp
  | 0, _, _ => none
  | F + 1, l2, h =>
    if 56 ≤ l2 then
      M_laysTurns_L36 Y l0 l1 FU 0 h
    else
      if inB l2 (lnY Y (hGr h 1226 l0)) = true then
        letH (hTl h (hGr h 1226 l0) (Int32.toNatClampNeg l2) 0) fun h53 =>
        M_laysTurns_L15 Y l0 l1 F (l2 + 1) h53
      else none
theorem M_laysTurns_L15_ok (Y : Ly) (l0 : Nat) (l1 : Int32) (tl0 : isO Y 12 l0) : ∀ (F : Nat) (l2 : Int32) (h : Hp), AW Y 3 K_M_laysTurns 15 [(0, .ref l0), (1, .int l1), (2, .int l2)] [] h (M_laysTurns_L15 Y l0 l1 F l2 h) rV := by
  intro F
  induction F with
  | zero =>
    intro l2 h
    exact aw_none
  | succ F ih =>
    intro l2 h
    unfold M_laysTurns_L15
    refine aw_iload_n (pc := 15) d_M_laysTurns_15 rfl 2 rfl ?_
    refine aw_bipush (pc := 16) (x := 56) d_M_laysTurns_16 (by decide) ?_
    refine aw_icmp_ge (pc := 18) (tgt := 34) d_M_laysTurns_18 (by decide) (fun c4 => ?_) (fun c4 => ?_)
    · refine aw_iconst (pc := 34) (x := 0) d_M_laysTurns_34 (by decide) ?_
      refine aw_istore_n (pc := 35) (lv' := [(2, .int 0), (0, .ref l0), (1, .int l1)]) d_M_laysTurns_35 rfl (by decide) rfl ?_
      exact aw_lv [1, 2, 0] rfl (M_laysTurns_L36_ok Y l0 l1 tl0 FU 0 h)
    · refine aw_aload_n (pc := 21) d_M_laysTurns_21 rfl 0 rfl ?_
      refine gt_1226 (pc := 22) d_M_laysTurns_22 w7_53 tl0 (fun tt51 => ?_)
      refine aw_iload_n (pc := 25) d_M_laysTurns_25 rfl 2 rfl ?_
      refine aw_lconst (pc := 26) (x := 0) d_M_laysTurns_26 (by decide) ?_
      refine aw_lastore (pc := 27) d_M_laysTurns_27 tt51 (fun c52 => ?_)
      refine aw_letH (fun h53 => ?_)
      refine aw_iinc (pc := 28) (w := l2 + 1) (lv' := [(2, .int (l2 + 1)), (0, .ref l0), (1, .int l1)]) d_M_laysTurns_28 2 rfl rfl (by decide) rfl ?_
      refine aw_goto (pc := 31) (tgt := 15) d_M_laysTurns_31 (by decide) ?_
      exact aw_lv [1, 2, 0] rfl (ih (l2 + 1) h53)
def M_laysTurns (Y : Ly) (l0 : Nat) (l1 : Int32) (h : Hp) : Option Hp :=
  if inB 9 (lnY Y (hGr h 1220 l0)) = true then
    (M_laysEndings Y l0 l1 (hAi h (hGr h 1220 l0) (Int32.toNatClampNeg 9)) h).bind fun q3 =>
    M_laysTurns_L15 Y l0 l1 FU 0 q3.2
  else none
theorem ok_M_laysTurns (Y : Ly) (l0 : Nat) (l1 : Int32) (h : Hp) (t0 : isO Y 12 l0) : AM Y 3 K_M_laysTurns [.ref l0, .int l1] h (M_laysTurns Y l0 l1 h) rV := by
  refine AM.of rfl (Nat.le_of_ble_eq_true rfl) ?_
  show AW Y 3 K_M_laysTurns 0 [(0, .ref l0), (1, .int l1)] [] h (M_laysTurns Y l0 l1 h) rV
  unfold M_laysTurns
  refine aw_aload_n (pc := 0) d_M_laysTurns_0 rfl 0 rfl ?_
  refine aw_iload_n (pc := 1) d_M_laysTurns_1 rfl 1 rfl ?_
  refine aw_aload_n (pc := 2) d_M_laysTurns_2 rfl 0 rfl ?_
  refine gt_1220 (pc := 3) d_M_laysTurns_3 w7_47 t0 (fun tt1 => ?_)
  refine aw_bipush (pc := 6) (x := 9) d_M_laysTurns_6 (by decide) ?_
  refine aw_iaload (pc := 8) d_M_laysTurns_8 tt1 (fun c2 => ?_)
  refine aw_cVrL (pc := 9) (ci := 12) (T := TX12) (N := 44) (As := [.int l1, .int (hAi h (hGr h 1220 l0) (Int32.toNatClampNeg 9))]) (st := []) (ok_M_laysEndings Y l0 l1 (hAi h (hGr h 1220 l0) (Int32.toNatClampNeg 9)) h t0) okV_M_laysEndings rfl (by decide) t0 w9_142 d_M_laysTurns_9 rfl (Nat.le_of_ble_eq_true rfl) rfl (Nat.le_of_ble_eq_true rfl) (fun q3 hq3 hTq3 => ?_)
  refine aw_pop2_2 (pc := 12) d_M_laysTurns_12 rfl ?_
  refine aw_iconst (pc := 13) (x := 0) d_M_laysTurns_13 (by decide) ?_
  refine aw_istore_n (pc := 14) (lv' := [(2, .int 0), (0, .ref l0), (1, .int l1)]) d_M_laysTurns_14 rfl (by decide) rfl ?_
  exact aw_lv [1, 2, 0] rfl (M_laysTurns_L15_ok Y l0 l1 t0 FU 0 q3.2)
/-! LastPagesModel.chance(III)Z -/
theorem d_M_chance_0 : decode prog_14_method_132_code 0 = .ok (.aload_n 0, 1) := by decide +kernel
theorem d_M_chance_1 : decode prog_14_method_132_code 1 = .ok (.iconst 0, 1) := by decide +kernel
theorem d_M_chance_2 : decode prog_14_method_132_code 2 = .ok (.putfield 78, 3) := by decide +kernel
theorem d_M_chance_5 : decode prog_14_method_132_code 5 = .ok (.aload_n 0, 1) := by decide +kernel
theorem d_M_chance_6 : decode prog_14_method_132_code 6 = .ok (.iconst 0, 1) := by decide +kernel
theorem d_M_chance_7 : decode prog_14_method_132_code 7 = .ok (.putfield 81, 3) := by decide +kernel
theorem d_M_chance_10 : decode prog_14_method_132_code 10 = .ok (.aload_n 0, 1) := by decide +kernel
theorem d_M_chance_11 : decode prog_14_method_132_code 11 = .ok (.iload_n 1, 1) := by decide +kernel
theorem d_M_chance_12 : decode prog_14_method_132_code 12 = .ok (.invokevirtual 382, 3) := by decide +kernel
theorem d_M_chance_15 : decode prog_14_method_132_code 15 = .ok (.ifCond .eq 11, 3) := by decide +kernel
theorem d_M_chance_18 : decode prog_14_method_132_code 18 = .ok (.aload_n 0, 1) := by decide +kernel
theorem d_M_chance_19 : decode prog_14_method_132_code 19 = .ok (.iload_n 3, 1) := by decide +kernel
theorem d_M_chance_20 : decode prog_14_method_132_code 20 = .ok (.invokevirtual 379, 3) := by decide +kernel
theorem d_M_chance_23 : decode prog_14_method_132_code 23 = .ok (.ifCond .ne 9, 3) := by decide +kernel
theorem d_M_chance_26 : decode prog_14_method_132_code 26 = .ok (.aload_n 0, 1) := by decide +kernel
theorem d_M_chance_27 : decode prog_14_method_132_code 27 = .ok (.iconst 2, 1) := by decide +kernel
theorem d_M_chance_28 : decode prog_14_method_132_code 28 = .ok (.invokevirtual 93, 3) := by decide +kernel
theorem d_M_chance_31 : decode prog_14_method_132_code 31 = .ok (.ireturn, 1) := by decide +kernel
theorem d_M_chance_32 : decode prog_14_method_132_code 32 = .ok (.aload_n 0, 1) := by decide +kernel
theorem d_M_chance_33 : decode prog_14_method_132_code 33 = .ok (.iload_n 1, 1) := by decide +kernel
theorem d_M_chance_34 : decode prog_14_method_132_code 34 = .ok (.iload_n 2, 1) := by decide +kernel
theorem d_M_chance_35 : decode prog_14_method_132_code 35 = .ok (.invokevirtual 441, 3) := by decide +kernel
theorem d_M_chance_38 : decode prog_14_method_132_code 38 = .ok (.ifCond .ne 9, 3) := by decide +kernel
theorem d_M_chance_41 : decode prog_14_method_132_code 41 = .ok (.aload_n 0, 1) := by decide +kernel
theorem d_M_chance_42 : decode prog_14_method_132_code 42 = .ok (.iconst 5, 1) := by decide +kernel
theorem d_M_chance_43 : decode prog_14_method_132_code 43 = .ok (.invokevirtual 93, 3) := by decide +kernel
theorem d_M_chance_46 : decode prog_14_method_132_code 46 = .ok (.ireturn, 1) := by decide +kernel
theorem d_M_chance_47 : decode prog_14_method_132_code 47 = .ok (.aload_n 0, 1) := by decide +kernel
theorem d_M_chance_48 : decode prog_14_method_132_code 48 = .ok (.iload_n 1, 1) := by decide +kernel
theorem d_M_chance_49 : decode prog_14_method_132_code 49 = .ok (.invokevirtual 422, 3) := by decide +kernel
theorem d_M_chance_52 : decode prog_14_method_132_code 52 = .ok (.lstore 4, 2) := by decide +kernel
theorem d_M_chance_54 : decode prog_14_method_132_code 54 = .ok (.lload 4, 2) := by decide +kernel
theorem d_M_chance_56 : decode prog_14_method_132_code 56 = .ok (.lconst 0, 1) := by decide +kernel
theorem d_M_chance_57 : decode prog_14_method_132_code 57 = .ok (.lcmp, 1) := by decide +kernel
theorem d_M_chance_58 : decode prog_14_method_132_code 58 = .ok (.ifCond .ne 10, 3) := by decide +kernel
theorem d_M_chance_61 : decode prog_14_method_132_code 61 = .ok (.aload_n 0, 1) := by decide +kernel
theorem d_M_chance_62 : decode prog_14_method_132_code 62 = .ok (.bipush 8, 2) := by decide +kernel
theorem d_M_chance_64 : decode prog_14_method_132_code 64 = .ok (.invokevirtual 93, 3) := by decide +kernel
theorem d_M_chance_67 : decode prog_14_method_132_code 67 = .ok (.ireturn, 1) := by decide +kernel
theorem d_M_chance_68 : decode prog_14_method_132_code 68 = .ok (.aload_n 0, 1) := by decide +kernel
theorem d_M_chance_69 : decode prog_14_method_132_code 69 = .ok (.iload_n 1, 1) := by decide +kernel
theorem d_M_chance_70 : decode prog_14_method_132_code 70 = .ok (.invokevirtual 446, 3) := by decide +kernel
theorem d_M_chance_73 : decode prog_14_method_132_code 73 = .ok (.aload_n 0, 1) := by decide +kernel
theorem d_M_chance_74 : decode prog_14_method_132_code 74 = .ok (.aload_n 0, 1) := by decide +kernel
theorem d_M_chance_75 : decode prog_14_method_132_code 75 = .ok (.getfield 47, 3) := by decide +kernel
theorem d_M_chance_78 : decode prog_14_method_132_code 78 = .ok (.bipush 8, 2) := by decide +kernel
theorem d_M_chance_80 : decode prog_14_method_132_code 80 = .ok (.iload_n 2, 1) := by decide +kernel
theorem d_M_chance_81 : decode prog_14_method_132_code 81 = .ok (.imul, 1) := by decide +kernel
theorem d_M_chance_82 : decode prog_14_method_132_code 82 = .ok (.iload_n 3, 1) := by decide +kernel
theorem d_M_chance_83 : decode prog_14_method_132_code 83 = .ok (.iadd, 1) := by decide +kernel
theorem d_M_chance_84 : decode prog_14_method_132_code 84 = .ok (.laload, 1) := by decide +kernel
theorem d_M_chance_85 : decode prog_14_method_132_code 85 = .ok (.lload 4, 2) := by decide +kernel
theorem d_M_chance_87 : decode prog_14_method_132_code 87 = .ok (.invokevirtual 452, 3) := by decide +kernel
theorem d_M_chance_90 : decode prog_14_method_132_code 90 = .ok (.ireturn, 1) := by decide +kernel
def M_chance (Y : Ly) (l0 : Nat) (l1 : Int32) (l2 : Int32) (l3 : Int32) (h : Hp) : Option (Bool × Hp) :=
  letH (hSi h 1201 l0 0) fun h1 =>
  letH (hSi h1 1200 l0 0) fun h2 =>
  (M_isBookAt Y l0 l1 h2).bind fun q3 =>
  if q3 = true then
    (M_isTurnAt Y l0 l3 h2).bind fun q5 =>
    if q5 = true then
      (M_isPlace Y l0 l1 l2 h2).bind fun q7 =>
      if q7 = true then
        (M_endingsOf Y l0 l1 h2).bind fun q9 =>
        if q9.1 = 0 then
          (M_no Y l0 8 q9.2).bind fun q11 =>
          some (q11.1, q11.2)
        else
          (M_laysTurns Y l0 l1 q9.2).bind fun q12 =>
          if inB ((8 * l2) + l3) (lnY Y (hGr q12 1226 l0)) = true then
            (M_fraction Y l0 (hAl q12 (hGr q12 1226 l0) (Int32.toNatClampNeg ((8 * l2) + l3))) q9.1 q12).bind fun q15 =>
            some (q15.1, q15.2)
          else none
      else
        (M_no Y l0 5 h2).bind fun q16 =>
        some (q16.1, q16.2)
    else
      (M_no Y l0 2 h2).bind fun q17 =>
      some (q17.1, q17.2)
  else
    (M_no Y l0 2 h2).bind fun q18 =>
    some (q18.1, q18.2)
theorem ok_M_chance (Y : Ly) (l0 : Nat) (l1 : Int32) (l2 : Int32) (l3 : Int32) (h : Hp) (t0 : isO Y 12 l0) : AM Y 4 K_M_chance [.ref l0, .int l1, .int l2, .int l3] h (M_chance Y l0 l1 l2 l3 h) rZ := by
  refine AM.of rfl (Nat.le_of_ble_eq_true rfl) ?_
  show AW Y 4 K_M_chance 0 [(0, .ref l0), (1, .int l1), (2, .int l2), (3, .int l3)] [] h (M_chance Y l0 l1 l2 l3 h) rZ
  unfold M_chance
  refine aw_aload_n (pc := 0) d_M_chance_0 rfl 0 rfl ?_
  refine aw_iconst (pc := 1) (x := 0) d_M_chance_1 (by decide) ?_
  refine pt_1201 (pc := 2) d_M_chance_2 w7_28 t0 ?_
  refine aw_letH (fun h1 => ?_)
  refine aw_aload_n (pc := 5) d_M_chance_5 rfl 0 rfl ?_
  refine aw_iconst (pc := 6) (x := 0) d_M_chance_6 (by decide) ?_
  refine pt_1200 (pc := 7) d_M_chance_7 w7_27 t0 ?_
  refine aw_letH (fun h2 => ?_)
  refine aw_aload_n (pc := 10) d_M_chance_10 rfl 0 rfl ?_
  refine aw_iload_n (pc := 11) d_M_chance_11 rfl 1 rfl ?_
  refine aw_cVpZ (pc := 12) (ci := 12) (T := TX12) (N := 44) (As := [.int l1]) (st := []) (ok_M_isBookAt Y l0 l1 h2 t0) okV_M_isBookAt rfl (by decide) t0 w9_40 d_M_chance_12 rfl (Nat.le_of_ble_eq_true rfl) rfl (Nat.le_of_ble_eq_true rfl) (fun q3 hq3 hTq3 => ?_)
  refine aw_beq (pc := 15) (tgt := 26) d_M_chance_15 (by decide) (fun c4 => ?_) (fun c4 => ?_)
  · refine aw_aload_n (pc := 18) d_M_chance_18 rfl 0 rfl ?_
    refine aw_iload_n (pc := 19) d_M_chance_19 rfl 3 rfl ?_
    refine aw_cVpZ (pc := 20) (ci := 12) (T := TX12) (N := 44) (As := [.int l3]) (st := []) (ok_M_isTurnAt Y l0 l3 h2 t0) okV_M_isTurnAt rfl (by decide) t0 w9_28 d_M_chance_20 rfl (Nat.le_of_ble_eq_true rfl) rfl (Nat.le_of_ble_eq_true rfl) (fun q5 hq5 hTq5 => ?_)
    refine aw_bne (pc := 23) (tgt := 32) d_M_chance_23 (by decide) (fun c6 => ?_) (fun c6 => ?_)
    · refine aw_aload_n (pc := 32) d_M_chance_32 rfl 0 rfl ?_
      refine aw_iload_n (pc := 33) d_M_chance_33 rfl 1 rfl ?_
      refine aw_iload_n (pc := 34) d_M_chance_34 rfl 2 rfl ?_
      refine aw_cVpZ (pc := 35) (ci := 12) (T := TX12) (N := 44) (As := [.int l1, .int l2]) (st := []) (ok_M_isPlace Y l0 l1 l2 h2 t0) okV_M_isPlace rfl (by decide) t0 w9_175 d_M_chance_35 rfl (Nat.le_of_ble_eq_true rfl) rfl (Nat.le_of_ble_eq_true rfl) (fun q7 hq7 hTq7 => ?_)
      refine aw_bne (pc := 38) (tgt := 47) d_M_chance_38 (by decide) (fun c8 => ?_) (fun c8 => ?_)
      · refine aw_aload_n (pc := 47) d_M_chance_47 rfl 0 rfl ?_
        refine aw_iload_n (pc := 48) d_M_chance_48 rfl 1 rfl ?_
        refine aw_cVrL (pc := 49) (ci := 12) (T := TX12) (N := 44) (As := [.int l1]) (st := []) (ok_M_endingsOf Y l0 l1 h2 t0) okV_M_endingsOf rfl (by decide) t0 w9_138 d_M_chance_49 rfl (Nat.le_of_ble_eq_true rfl) rfl (Nat.le_of_ble_eq_true rfl) (fun q9 hq9 hTq9 => ?_)
        refine aw_lstore (pc := 52) (lv' := [(4, .long q9.1), (0, .ref l0), (1, .int l1), (2, .int l2), (3, .int l3)]) d_M_chance_52 (by decide) rfl ?_
        refine aw_lload (pc := 54) d_M_chance_54 0 rfl ?_
        refine aw_lconst (pc := 56) (x := 0) d_M_chance_56 (by decide) ?_
        refine aw_lcmp_ne (pc := 57) (tgt := 68) d_M_chance_57 d_M_chance_58 (by decide) (fun c10 => ?_) (fun c10 => ?_)
        · refine aw_aload_n (pc := 61) d_M_chance_61 rfl 1 rfl ?_
          refine aw_bipush (pc := 62) (x := 8) d_M_chance_62 (by decide) ?_
          refine aw_cVrZ (pc := 64) (ci := 12) (T := TX12) (N := 44) (As := [.int 8]) (st := []) (ok_M_no Y l0 8 q9.2 t0) okV_M_no rfl (by decide) t0 w7_176 d_M_chance_64 rfl (Nat.le_of_ble_eq_true rfl) rfl (Nat.le_of_ble_eq_true rfl) (fun q11 hq11 hTq11 => ?_)
          exact aw_zreturn (pc := 67) (b := q11.1) d_M_chance_67 rfl rfl
        · refine aw_aload_n (pc := 68) d_M_chance_68 rfl 1 rfl ?_
          refine aw_iload_n (pc := 69) d_M_chance_69 rfl 2 rfl ?_
          refine aw_cVrV (pc := 70) (ci := 12) (T := TX12) (N := 44) (As := [.int l1]) (st := []) (ok_M_laysTurns Y l0 l1 q9.2 t0) okV_M_laysTurns rfl (by decide) t0 w9_184 d_M_chance_70 rfl (Nat.le_of_ble_eq_true rfl) rfl (Nat.le_of_ble_eq_true rfl) (fun q12 hq12 hTq12 => ?_)
          refine aw_aload_n (pc := 73) d_M_chance_73 rfl 1 rfl ?_
          refine aw_aload_n (pc := 74) d_M_chance_74 rfl 1 rfl ?_
          refine gt_1226 (pc := 75) d_M_chance_75 w7_53 t0 (fun tt13 => ?_)
          refine aw_bipush (pc := 78) (x := 8) d_M_chance_78 (by decide) ?_
          refine aw_iload_n (pc := 80) d_M_chance_80 rfl 3 rfl ?_
          refine aw_imul (pc := 81) d_M_chance_81 ?_
          refine aw_iload_n (pc := 82) d_M_chance_82 rfl 4 rfl ?_
          refine aw_iadd (pc := 83) d_M_chance_83 ?_
          refine aw_laload (pc := 84) d_M_chance_84 tt13 (fun c14 => ?_)
          refine aw_lload (pc := 85) d_M_chance_85 0 rfl ?_
          refine aw_cVrZ (pc := 87) (ci := 12) (T := TX12) (N := 44) (As := [.long (hAl q12 (hGr q12 1226 l0) (Int32.toNatClampNeg ((8 * l2) + l3))), .long q9.1]) (st := []) (ok_M_fraction Y l0 (hAl q12 (hGr q12 1226 l0) (Int32.toNatClampNeg ((8 * l2) + l3))) q9.1 q12 t0) okV_M_fraction rfl (by decide) t0 w9_193 d_M_chance_87 rfl (Nat.le_of_ble_eq_true rfl) rfl (Nat.le_of_ble_eq_true rfl) (fun q15 hq15 hTq15 => ?_)
          exact aw_zreturn (pc := 90) (b := q15.1) d_M_chance_90 rfl rfl
      · refine aw_aload_n (pc := 41) d_M_chance_41 rfl 0 rfl ?_
        refine aw_iconst (pc := 42) (x := 5) d_M_chance_42 (by decide) ?_
        refine aw_cVrZ (pc := 43) (ci := 12) (T := TX12) (N := 44) (As := [.int 5]) (st := []) (ok_M_no Y l0 5 h2 t0) okV_M_no rfl (by decide) t0 w7_176 d_M_chance_43 rfl (Nat.le_of_ble_eq_true rfl) rfl (Nat.le_of_ble_eq_true rfl) (fun q16 hq16 hTq16 => ?_)
        exact aw_zreturn (pc := 46) (b := q16.1) d_M_chance_46 rfl rfl
    · refine aw_aload_n (pc := 26) d_M_chance_26 rfl 0 rfl ?_
      refine aw_iconst (pc := 27) (x := 2) d_M_chance_27 (by decide) ?_
      refine aw_cVrZ (pc := 28) (ci := 12) (T := TX12) (N := 44) (As := [.int 2]) (st := []) (ok_M_no Y l0 2 h2 t0) okV_M_no rfl (by decide) t0 w7_176 d_M_chance_28 rfl (Nat.le_of_ble_eq_true rfl) rfl (Nat.le_of_ble_eq_true rfl) (fun q17 hq17 hTq17 => ?_)
      exact aw_zreturn (pc := 31) (b := q17.1) d_M_chance_31 rfl rfl
  · refine aw_aload_n (pc := 26) d_M_chance_26 rfl 0 rfl ?_
    refine aw_iconst (pc := 27) (x := 2) d_M_chance_27 (by decide) ?_
    refine aw_cVrZ (pc := 28) (ci := 12) (T := TX12) (N := 44) (As := [.int 2]) (st := []) (ok_M_no Y l0 2 h2 t0) okV_M_no rfl (by decide) t0 w7_176 d_M_chance_28 rfl (Nat.le_of_ble_eq_true rfl) rfl (Nat.le_of_ble_eq_true rfl) (fun q18 hq18 hTq18 => ?_)
    exact aw_zreturn (pc := 31) (b := q18.1) d_M_chance_31 rfl rfl
/-! LastPagesModel.cheapest()I -/
theorem d_M_cheapest_0 : decode prog_14_method_165_code 0 = .ok (.aload_n 0, 1) := by decide +kernel
theorem d_M_cheapest_1 : decode prog_14_method_165_code 1 = .ok (.iconst 0, 1) := by decide +kernel
theorem d_M_cheapest_2 : decode prog_14_method_165_code 2 = .ok (.putfield 78, 3) := by decide +kernel
theorem d_M_cheapest_5 : decode prog_14_method_165_code 5 = .ok (.aload_n 0, 1) := by decide +kernel
theorem d_M_cheapest_6 : decode prog_14_method_165_code 6 = .ok (.iconst 0, 1) := by decide +kernel
theorem d_M_cheapest_7 : decode prog_14_method_165_code 7 = .ok (.putfield 81, 3) := by decide +kernel
theorem d_M_cheapest_10 : decode prog_14_method_165_code 10 = .ok (.iconst (-1), 1) := by decide +kernel
theorem d_M_cheapest_11 : decode prog_14_method_165_code 11 = .ok (.istore_n 1, 1) := by decide +kernel
theorem d_M_cheapest_12 : decode prog_14_method_165_code 12 = .ok (.iconst 0, 1) := by decide +kernel
theorem d_M_cheapest_13 : decode prog_14_method_165_code 13 = .ok (.istore_n 2, 1) := by decide +kernel
theorem d_M_cheapest_14 : decode prog_14_method_165_code 14 = .ok (.iload_n 2, 1) := by decide +kernel
theorem d_M_cheapest_15 : decode prog_14_method_165_code 15 = .ok (.aload_n 0, 1) := by decide +kernel
theorem d_M_cheapest_16 : decode prog_14_method_165_code 16 = .ok (.invokevirtual 492, 3) := by decide +kernel
theorem d_M_cheapest_19 : decode prog_14_method_165_code 19 = .ok (.if_icmp .gt 40, 3) := by decide +kernel
theorem d_M_cheapest_22 : decode prog_14_method_165_code 22 = .ok (.aload_n 0, 1) := by decide +kernel
theorem d_M_cheapest_23 : decode prog_14_method_165_code 23 = .ok (.iload_n 2, 1) := by decide +kernel
theorem d_M_cheapest_24 : decode prog_14_method_165_code 24 = .ok (.invokevirtual 495, 3) := by decide +kernel
theorem d_M_cheapest_27 : decode prog_14_method_165_code 27 = .ok (.aload_n 0, 1) := by decide +kernel
theorem d_M_cheapest_28 : decode prog_14_method_165_code 28 = .ok (.invokevirtual 474, 3) := by decide +kernel
theorem d_M_cheapest_31 : decode prog_14_method_165_code 31 = .ok (.if_icmp .ne 22, 3) := by decide +kernel
theorem d_M_cheapest_34 : decode prog_14_method_165_code 34 = .ok (.iload_n 1, 1) := by decide +kernel
theorem d_M_cheapest_35 : decode prog_14_method_165_code 35 = .ok (.ifCond .lt 12, 3) := by decide +kernel
theorem d_M_cheapest_38 : decode prog_14_method_165_code 38 = .ok (.aload_n 0, 1) := by decide +kernel
theorem d_M_cheapest_39 : decode prog_14_method_165_code 39 = .ok (.iload_n 2, 1) := by decide +kernel
theorem d_M_cheapest_40 : decode prog_14_method_165_code 40 = .ok (.invokevirtual 498, 3) := by decide +kernel
theorem d_M_cheapest_43 : decode prog_14_method_165_code 43 = .ok (.iload_n 1, 1) := by decide +kernel
theorem d_M_cheapest_44 : decode prog_14_method_165_code 44 = .ok (.if_icmp .ge 9, 3) := by decide +kernel
theorem d_M_cheapest_47 : decode prog_14_method_165_code 47 = .ok (.aload_n 0, 1) := by decide +kernel
theorem d_M_cheapest_48 : decode prog_14_method_165_code 48 = .ok (.iload_n 2, 1) := by decide +kernel
theorem d_M_cheapest_49 : decode prog_14_method_165_code 49 = .ok (.invokevirtual 498, 3) := by decide +kernel
theorem d_M_cheapest_52 : decode prog_14_method_165_code 52 = .ok (.istore_n 1, 1) := by decide +kernel
theorem d_M_cheapest_53 : decode prog_14_method_165_code 53 = .ok (.iinc 2 1, 3) := by decide +kernel
theorem d_M_cheapest_56 : decode prog_14_method_165_code 56 = .ok (.goto (-42), 3) := by decide +kernel
theorem d_M_cheapest_59 : decode prog_14_method_165_code 59 = .ok (.iload_n 1, 1) := by decide +kernel
theorem d_M_cheapest_60 : decode prog_14_method_165_code 60 = .ok (.ifCond .ge 12, 3) := by decide +kernel
theorem d_M_cheapest_63 : decode prog_14_method_165_code 63 = .ok (.aload_n 0, 1) := by decide +kernel
theorem d_M_cheapest_64 : decode prog_14_method_165_code 64 = .ok (.bipush 8, 2) := by decide +kernel
theorem d_M_cheapest_66 : decode prog_14_method_165_code 66 = .ok (.invokevirtual 367, 3) := by decide +kernel
theorem d_M_cheapest_69 : decode prog_14_method_165_code 69 = .ok (.goto 4, 3) := by decide +kernel
theorem d_M_cheapest_72 : decode prog_14_method_165_code 72 = .ok (.iload_n 1, 1) := by decide +kernel
theorem d_M_cheapest_73 : decode prog_14_method_165_code 73 = .ok (.ireturn, 1) := by decide +kernel
def M_cheapest_L14 (Y : Ly) (l0 : Nat) (h : Hp) : Nat → Int32 → Int32 → Option (Int32 × Hp)
  | 0, _, _ => none
  | F + 1, l1, l2 =>
    (M_allOffers Y l0 h).bind fun q3 =>
    if q3 < l2 then
      if 0 ≤ l1 then
        some (l1, h)
      else
        (M_refuse Y l0 8 h).bind fun q6 =>
        some (q6.1, q6.2)
    else
      (M_knownBy Y l0 l2 h).bind fun q7 =>
      (M_allBooks Y l0 h).bind fun q8 =>
      if q7 = q8 then
        if l1 < 0 then
          (M_costOf Y l0 l2 h).bind fun q11 =>
          M_cheapest_L14 Y l0 h F q11 (l2 + 1)
        else
          (M_costOf Y l0 l2 h).bind fun q12 =>
          if l1 ≤ q12 then
            M_cheapest_L14 Y l0 h F l1 (l2 + 1)
          else
            (M_costOf Y l0 l2 h).bind fun q14 =>
            M_cheapest_L14 Y l0 h F q14 (l2 + 1)
      else
        M_cheapest_L14 Y l0 h F l1 (l2 + 1)
theorem M_cheapest_L14_ok (Y : Ly) (l0 : Nat) (h : Hp) (tl0 : isO Y 12 l0) : ∀ (F : Nat) (l1 : Int32) (l2 : Int32), AW Y 2 K_M_cheapest 14 [(0, .ref l0), (1, .int l1), (2, .int l2)] [] h (M_cheapest_L14 Y l0 h F l1 l2) rI := by
  intro F
  induction F with
  | zero =>
    intro l1 l2
    exact aw_none
  | succ F ih =>
    intro l1 l2
    unfold M_cheapest_L14
    refine aw_iload_n (pc := 14) d_M_cheapest_14 rfl 2 rfl ?_
    refine aw_aload_n (pc := 15) d_M_cheapest_15 rfl 0 rfl ?_
    refine aw_cVpI (pc := 16) (ci := 12) (T := TX12) (N := 44) (As := []) (st := [.int l2]) (ok_M_allOffers Y l0 h tl0) okV_M_allOffers rfl (by decide) tl0 w10_67 d_M_cheapest_16 rfl (Nat.le_of_ble_eq_true rfl) rfl (Nat.le_of_ble_eq_true rfl) (fun q3 hq3 hTq3 => ?_)
    refine aw_icmp_gt (pc := 19) (tgt := 59) d_M_cheapest_19 (by decide) (fun c4 => ?_) (fun c4 => ?_)
    · refine aw_iload_n (pc := 59) d_M_cheapest_59 rfl 1 rfl ?_
      refine aw_if_ge (pc := 60) (tgt := 72) d_M_cheapest_60 (by decide) (fun c5 => ?_) (fun c5 => ?_)
      · refine aw_iload_n (pc := 72) d_M_cheapest_72 rfl 1 rfl ?_
        exact aw_ireturn (pc := 73) d_M_cheapest_73 rfl rfl
      · refine aw_aload_n (pc := 63) d_M_cheapest_63 rfl 0 rfl ?_
        refine aw_bipush (pc := 64) (x := 8) d_M_cheapest_64 (by decide) ?_
        refine aw_cVrI (pc := 66) (ci := 12) (T := TX12) (N := 44) (As := [.int 8]) (st := []) (ok_M_refuse Y l0 8 h tl0) okV_M_refuse rfl (by decide) tl0 w9_8 d_M_cheapest_66 rfl (Nat.le_of_ble_eq_true rfl) rfl (Nat.le_of_ble_eq_true rfl) (fun q6 hq6 hTq6 => ?_)
        refine aw_goto (pc := 69) (tgt := 73) d_M_cheapest_69 (by decide) ?_
        exact aw_ireturn (pc := 73) d_M_cheapest_73 rfl rfl
    · refine aw_aload_n (pc := 22) d_M_cheapest_22 rfl 0 rfl ?_
      refine aw_iload_n (pc := 23) d_M_cheapest_23 rfl 2 rfl ?_
      refine aw_cVpI (pc := 24) (ci := 12) (T := TX12) (N := 44) (As := [.int l2]) (st := []) (ok_M_knownBy Y l0 l2 h tl0) okV_M_knownBy rfl (by decide) tl0 w10_71 d_M_cheapest_24 rfl (Nat.le_of_ble_eq_true rfl) rfl (Nat.le_of_ble_eq_true rfl) (fun q7 hq7 hTq7 => ?_)
      refine aw_aload_n (pc := 27) d_M_cheapest_27 rfl 0 rfl ?_
      refine aw_cVpI (pc := 28) (ci := 12) (T := TX12) (N := 44) (As := []) (st := [.int q7]) (ok_M_allBooks Y l0 h tl0) okV_M_allBooks rfl (by decide) tl0 w10_24 d_M_cheapest_28 rfl (Nat.le_of_ble_eq_true rfl) rfl (Nat.le_of_ble_eq_true rfl) (fun q8 hq8 hTq8 => ?_)
      refine aw_icmp_ne (pc := 31) (tgt := 53) d_M_cheapest_31 (by decide) (fun c9 => ?_) (fun c9 => ?_)
      · refine aw_iload_n (pc := 34) d_M_cheapest_34 rfl 1 rfl ?_
        refine aw_if_lt (pc := 35) (tgt := 47) d_M_cheapest_35 (by decide) (fun c10 => ?_) (fun c10 => ?_)
        · refine aw_aload_n (pc := 47) d_M_cheapest_47 rfl 0 rfl ?_
          refine aw_iload_n (pc := 48) d_M_cheapest_48 rfl 2 rfl ?_
          refine aw_cVpI (pc := 49) (ci := 12) (T := TX12) (N := 44) (As := [.int l2]) (st := []) (ok_M_costOf Y l0 l2 h tl0) okV_M_costOf rfl (by decide) tl0 w10_84 d_M_cheapest_49 rfl (Nat.le_of_ble_eq_true rfl) rfl (Nat.le_of_ble_eq_true rfl) (fun q11 hq11 hTq11 => ?_)
          refine aw_istore_n (pc := 52) (lv' := [(1, .int q11), (0, .ref l0), (2, .int l2)]) d_M_cheapest_52 rfl (by decide) rfl ?_
          refine aw_iinc (pc := 53) (w := l2 + 1) (lv' := [(2, .int (l2 + 1)), (1, .int q11), (0, .ref l0)]) d_M_cheapest_53 2 rfl rfl (by decide) rfl ?_
          refine aw_goto (pc := 56) (tgt := 14) d_M_cheapest_56 (by decide) ?_
          exact aw_lv [2, 1, 0] rfl (ih q11 (l2 + 1))
        · refine aw_aload_n (pc := 38) d_M_cheapest_38 rfl 0 rfl ?_
          refine aw_iload_n (pc := 39) d_M_cheapest_39 rfl 2 rfl ?_
          refine aw_cVpI (pc := 40) (ci := 12) (T := TX12) (N := 44) (As := [.int l2]) (st := []) (ok_M_costOf Y l0 l2 h tl0) okV_M_costOf rfl (by decide) tl0 w10_84 d_M_cheapest_40 rfl (Nat.le_of_ble_eq_true rfl) rfl (Nat.le_of_ble_eq_true rfl) (fun q12 hq12 hTq12 => ?_)
          refine aw_iload_n (pc := 43) d_M_cheapest_43 rfl 1 rfl ?_
          refine aw_icmp_ge (pc := 44) (tgt := 53) d_M_cheapest_44 (by decide) (fun c13 => ?_) (fun c13 => ?_)
          · refine aw_iinc (pc := 53) (w := l2 + 1) (lv' := [(2, .int (l2 + 1)), (0, .ref l0), (1, .int l1)]) d_M_cheapest_53 2 rfl rfl (by decide) rfl ?_
            refine aw_goto (pc := 56) (tgt := 14) d_M_cheapest_56 (by decide) ?_
            exact aw_lv [1, 2, 0] rfl (ih l1 (l2 + 1))
          · refine aw_aload_n (pc := 47) d_M_cheapest_47 rfl 0 rfl ?_
            refine aw_iload_n (pc := 48) d_M_cheapest_48 rfl 2 rfl ?_
            refine aw_cVpI (pc := 49) (ci := 12) (T := TX12) (N := 44) (As := [.int l2]) (st := []) (ok_M_costOf Y l0 l2 h tl0) okV_M_costOf rfl (by decide) tl0 w10_84 d_M_cheapest_49 rfl (Nat.le_of_ble_eq_true rfl) rfl (Nat.le_of_ble_eq_true rfl) (fun q14 hq14 hTq14 => ?_)
            refine aw_istore_n (pc := 52) (lv' := [(1, .int q14), (0, .ref l0), (2, .int l2)]) d_M_cheapest_52 rfl (by decide) rfl ?_
            refine aw_iinc (pc := 53) (w := l2 + 1) (lv' := [(2, .int (l2 + 1)), (1, .int q14), (0, .ref l0)]) d_M_cheapest_53 2 rfl rfl (by decide) rfl ?_
            refine aw_goto (pc := 56) (tgt := 14) d_M_cheapest_56 (by decide) ?_
            exact aw_lv [2, 1, 0] rfl (ih q14 (l2 + 1))
      · refine aw_iinc (pc := 53) (w := l2 + 1) (lv' := [(2, .int (l2 + 1)), (0, .ref l0), (1, .int l1)]) d_M_cheapest_53 2 rfl rfl (by decide) rfl ?_
        refine aw_goto (pc := 56) (tgt := 14) d_M_cheapest_56 (by decide) ?_
        exact aw_lv [1, 2, 0] rfl (ih l1 (l2 + 1))
def M_cheapest (Y : Ly) (l0 : Nat) (h : Hp) : Option (Int32 × Hp) :=
  letH (hSi h 1201 l0 0) fun h1 =>
  letH (hSi h1 1200 l0 0) fun h2 =>
  M_cheapest_L14 Y l0 h2 FU (-1) 0
theorem ok_M_cheapest (Y : Ly) (l0 : Nat) (h : Hp) (t0 : isO Y 12 l0) : AM Y 2 K_M_cheapest [.ref l0] h (M_cheapest Y l0 h) rI := by
  refine AM.of rfl (Nat.le_of_ble_eq_true rfl) ?_
  show AW Y 2 K_M_cheapest 0 [(0, .ref l0)] [] h (M_cheapest Y l0 h) rI
  unfold M_cheapest
  refine aw_aload_n (pc := 0) d_M_cheapest_0 rfl 0 rfl ?_
  refine aw_iconst (pc := 1) (x := 0) d_M_cheapest_1 (by decide) ?_
  refine pt_1201 (pc := 2) d_M_cheapest_2 w7_28 t0 ?_
  refine aw_letH (fun h1 => ?_)
  refine aw_aload_n (pc := 5) d_M_cheapest_5 rfl 0 rfl ?_
  refine aw_iconst (pc := 6) (x := 0) d_M_cheapest_6 (by decide) ?_
  refine pt_1200 (pc := 7) d_M_cheapest_7 w7_27 t0 ?_
  refine aw_letH (fun h2 => ?_)
  refine aw_iconst (pc := 10) (x := (-1)) d_M_cheapest_10 (by decide) ?_
  refine aw_istore_n (pc := 11) (lv' := [(1, .int (-1)), (0, .ref l0)]) d_M_cheapest_11 rfl (by decide) rfl ?_
  refine aw_iconst (pc := 12) (x := 0) d_M_cheapest_12 (by decide) ?_
  refine aw_istore_n (pc := 13) (lv' := [(2, .int 0), (1, .int (-1)), (0, .ref l0)]) d_M_cheapest_13 rfl (by decide) rfl ?_
  exact aw_lv [2, 1, 0] rfl (M_cheapest_L14_ok Y l0 h2 t0 FU (-1) 0)
/-! LastPagesModel.fitsOf(I)I -/
theorem d_M_fitsOf_0 : decode prog_14_method_147_code 0 = .ok (.iconst 0, 1) := by decide +kernel
theorem d_M_fitsOf_1 : decode prog_14_method_147_code 1 = .ok (.istore_n 2, 1) := by decide +kernel
theorem d_M_fitsOf_2 : decode prog_14_method_147_code 2 = .ok (.iconst 0, 1) := by decide +kernel
theorem d_M_fitsOf_3 : decode prog_14_method_147_code 3 = .ok (.istore_n 3, 1) := by decide +kernel
theorem d_M_fitsOf_4 : decode prog_14_method_147_code 4 = .ok (.iload_n 3, 1) := by decide +kernel
theorem d_M_fitsOf_5 : decode prog_14_method_147_code 5 = .ok (.aload_n 0, 1) := by decide +kernel
theorem d_M_fitsOf_6 : decode prog_14_method_147_code 6 = .ok (.getfield 35, 3) := by decide +kernel
theorem d_M_fitsOf_9 : decode prog_14_method_147_code 9 = .ok (.iconst 2, 1) := by decide +kernel
theorem d_M_fitsOf_10 : decode prog_14_method_147_code 10 = .ok (.iaload, 1) := by decide +kernel
theorem d_M_fitsOf_11 : decode prog_14_method_147_code 11 = .ok (.if_icmp .ge 30, 3) := by decide +kernel
theorem d_M_fitsOf_14 : decode prog_14_method_147_code 14 = .ok (.iload_n 2, 1) := by decide +kernel
theorem d_M_fitsOf_15 : decode prog_14_method_147_code 15 = .ok (.iload_n 1, 1) := by decide +kernel
theorem d_M_fitsOf_16 : decode prog_14_method_147_code 16 = .ok (.iload_n 3, 1) := by decide +kernel
theorem d_M_fitsOf_17 : decode prog_14_method_147_code 17 = .ok (.invokestatic 117, 3) := by decide +kernel
theorem d_M_fitsOf_20 : decode prog_14_method_147_code 20 = .ok (.ifCond .eq 12, 3) := by decide +kernel
theorem d_M_fitsOf_23 : decode prog_14_method_147_code 23 = .ok (.aload_n 0, 1) := by decide +kernel
theorem d_M_fitsOf_24 : decode prog_14_method_147_code 24 = .ok (.getfield 65, 3) := by decide +kernel
theorem d_M_fitsOf_27 : decode prog_14_method_147_code 27 = .ok (.iload_n 3, 1) := by decide +kernel
theorem d_M_fitsOf_28 : decode prog_14_method_147_code 28 = .ok (.iaload, 1) := by decide +kernel
theorem d_M_fitsOf_29 : decode prog_14_method_147_code 29 = .ok (.goto 4, 3) := by decide +kernel
theorem d_M_fitsOf_32 : decode prog_14_method_147_code 32 = .ok (.iconst 0, 1) := by decide +kernel
theorem d_M_fitsOf_33 : decode prog_14_method_147_code 33 = .ok (.ior, 1) := by decide +kernel
theorem d_M_fitsOf_34 : decode prog_14_method_147_code 34 = .ok (.istore_n 2, 1) := by decide +kernel
theorem d_M_fitsOf_35 : decode prog_14_method_147_code 35 = .ok (.iinc 3 1, 3) := by decide +kernel
theorem d_M_fitsOf_38 : decode prog_14_method_147_code 38 = .ok (.goto (-34), 3) := by decide +kernel
theorem d_M_fitsOf_41 : decode prog_14_method_147_code 41 = .ok (.iload_n 2, 1) := by decide +kernel
theorem d_M_fitsOf_42 : decode prog_14_method_147_code 42 = .ok (.ireturn, 1) := by decide +kernel
def M_fitsOf_L4 (Y : Ly) (l0 : Nat) (l1 : Int32) (h : Hp) : Nat → Int32 → Int32 → Option Int32
  | 0, _, _ => none
  | F + 1, l2, l3 =>
    if inB 2 (lnY Y (hGr h 1220 l0)) = true then
      if (hAi h (hGr h 1220 l0) (Int32.toNatClampNeg 2)) ≤ l3 then
        some l2
      else
        (M_has Y l1 l3 h).bind fun q4 =>
        if q4 = true then
          if inB l3 (lnY Y (hGr h 1232 l0)) = true then
            M_fitsOf_L4 Y l0 l1 h F (l2 ||| (hAi h (hGr h 1232 l0) (Int32.toNatClampNeg l3))) (l3 + 1)
          else none
        else
          M_fitsOf_L4 Y l0 l1 h F (l2 ||| 0) (l3 + 1)
    else none
theorem M_fitsOf_L4_ok (Y : Ly) (l0 : Nat) (l1 : Int32) (h : Hp) (tl0 : isO Y 12 l0) : ∀ (F : Nat) (l2 : Int32) (l3 : Int32), AW Y 1 K_M_fitsOf 4 [(0, .ref l0), (1, .int l1), (2, .int l2), (3, .int l3)] [] h (M_fitsOf_L4 Y l0 l1 h F l2 l3) (pI h) := by
  intro F
  induction F with
  | zero =>
    intro l2 l3
    exact aw_none
  | succ F ih =>
    intro l2 l3
    unfold M_fitsOf_L4
    refine aw_iload_n (pc := 4) d_M_fitsOf_4 rfl 3 rfl ?_
    refine aw_aload_n (pc := 5) d_M_fitsOf_5 rfl 0 rfl ?_
    refine gt_1220 (pc := 6) d_M_fitsOf_6 w7_47 tl0 (fun tt1 => ?_)
    refine aw_iconst (pc := 9) (x := 2) d_M_fitsOf_9 (by decide) ?_
    refine aw_iaload (pc := 10) d_M_fitsOf_10 tt1 (fun c2 => ?_)
    refine aw_icmp_ge (pc := 11) (tgt := 41) d_M_fitsOf_11 (by decide) (fun c3 => ?_) (fun c3 => ?_)
    · refine aw_iload_n (pc := 41) d_M_fitsOf_41 rfl 2 rfl ?_
      exact aw_ireturn (pc := 42) d_M_fitsOf_42 rfl rfl
    · refine aw_iload_n (pc := 14) d_M_fitsOf_14 rfl 2 rfl ?_
      refine aw_iload_n (pc := 15) d_M_fitsOf_15 rfl 1 rfl ?_
      refine aw_iload_n (pc := 16) d_M_fitsOf_16 rfl 3 rfl ?_
      refine aw_cSpZ (pc := 17) (As := [.int l1, .int l3]) (st := [.int l2]) (ok_M_has Y l1 l3 h) okS_M_has w9_110 d_M_fitsOf_17 rfl (Nat.le_of_ble_eq_true rfl) rfl (Nat.le_of_ble_eq_true rfl) (fun q4 hq4 hTq4 => ?_)
      refine aw_beq (pc := 20) (tgt := 32) d_M_fitsOf_20 (by decide) (fun c5 => ?_) (fun c5 => ?_)
      · refine aw_aload_n (pc := 23) d_M_fitsOf_23 rfl 0 rfl ?_
        refine gt_1232 (pc := 24) d_M_fitsOf_24 w7_59 tl0 (fun tt6 => ?_)
        refine aw_iload_n (pc := 27) d_M_fitsOf_27 rfl 3 rfl ?_
        refine aw_iaload (pc := 28) d_M_fitsOf_28 tt6 (fun c7 => ?_)
        refine aw_goto (pc := 29) (tgt := 33) d_M_fitsOf_29 (by decide) ?_
        refine aw_ior (pc := 33) d_M_fitsOf_33 ?_
        refine aw_istore_n (pc := 34) (lv' := [(2, .int (l2 ||| (hAi h (hGr h 1232 l0) (Int32.toNatClampNeg l3)))), (0, .ref l0), (1, .int l1), (3, .int l3)]) d_M_fitsOf_34 rfl (by decide) rfl ?_
        refine aw_iinc (pc := 35) (w := l3 + 1) (lv' := [(3, .int (l3 + 1)), (2, .int (l2 ||| (hAi h (hGr h 1232 l0) (Int32.toNatClampNeg l3)))), (0, .ref l0), (1, .int l1)]) d_M_fitsOf_35 3 rfl rfl (by decide) rfl ?_
        refine aw_goto (pc := 38) (tgt := 4) d_M_fitsOf_38 (by decide) ?_
        exact aw_lv [2, 3, 1, 0] rfl (ih (l2 ||| (hAi h (hGr h 1232 l0) (Int32.toNatClampNeg l3))) (l3 + 1))
      · refine aw_iconst (pc := 32) (x := 0) d_M_fitsOf_32 (by decide) ?_
        refine aw_ior (pc := 33) d_M_fitsOf_33 ?_
        refine aw_istore_n (pc := 34) (lv' := [(2, .int (l2 ||| 0)), (0, .ref l0), (1, .int l1), (3, .int l3)]) d_M_fitsOf_34 rfl (by decide) rfl ?_
        refine aw_iinc (pc := 35) (w := l3 + 1) (lv' := [(3, .int (l3 + 1)), (2, .int (l2 ||| 0)), (0, .ref l0), (1, .int l1)]) d_M_fitsOf_35 3 rfl rfl (by decide) rfl ?_
        refine aw_goto (pc := 38) (tgt := 4) d_M_fitsOf_38 (by decide) ?_
        exact aw_lv [2, 3, 1, 0] rfl (ih (l2 ||| 0) (l3 + 1))
def M_fitsOf (Y : Ly) (l0 : Nat) (l1 : Int32) (h : Hp) : Option Int32 :=
  M_fitsOf_L4 Y l0 l1 h FU 0 0
theorem ok_M_fitsOf (Y : Ly) (l0 : Nat) (l1 : Int32) (h : Hp) (t0 : isO Y 12 l0) : AM Y 1 K_M_fitsOf [.ref l0, .int l1] h (M_fitsOf Y l0 l1 h) (pI h) := by
  refine AM.of rfl (Nat.le_of_ble_eq_true rfl) ?_
  show AW Y 1 K_M_fitsOf 0 [(0, .ref l0), (1, .int l1)] [] h (M_fitsOf Y l0 l1 h) (pI h)
  unfold M_fitsOf
  refine aw_iconst (pc := 0) (x := 0) d_M_fitsOf_0 (by decide) ?_
  refine aw_istore_n (pc := 1) (lv' := [(2, .int 0), (0, .ref l0), (1, .int l1)]) d_M_fitsOf_1 rfl (by decide) rfl ?_
  refine aw_iconst (pc := 2) (x := 0) d_M_fitsOf_2 (by decide) ?_
  refine aw_istore_n (pc := 3) (lv' := [(3, .int 0), (2, .int 0), (0, .ref l0), (1, .int l1)]) d_M_fitsOf_3 rfl (by decide) rfl ?_
  exact aw_lv [2, 3, 1, 0] rfl (M_fitsOf_L4_ok Y l0 l1 h t0 FU 0 0)
/-! LastPagesModel.finalesFor(I)I -/
theorem d_M_finalesFor_0 : decode prog_14_method_136_code 0 = .ok (.iconst 0, 1) := by decide +kernel
theorem d_M_finalesFor_1 : decode prog_14_method_136_code 1 = .ok (.istore_n 2, 1) := by decide +kernel
theorem d_M_finalesFor_2 : decode prog_14_method_136_code 2 = .ok (.iconst 0, 1) := by decide +kernel
theorem d_M_finalesFor_3 : decode prog_14_method_136_code 3 = .ok (.istore_n 3, 1) := by decide +kernel
theorem d_M_finalesFor_4 : decode prog_14_method_136_code 4 = .ok (.iload_n 3, 1) := by decide +kernel
theorem d_M_finalesFor_5 : decode prog_14_method_136_code 5 = .ok (.aload_n 0, 1) := by decide +kernel
theorem d_M_finalesFor_6 : decode prog_14_method_136_code 6 = .ok (.getfield 35, 3) := by decide +kernel
theorem d_M_finalesFor_9 : decode prog_14_method_136_code 9 = .ok (.iconst 3, 1) := by decide +kernel
theorem d_M_finalesFor_10 : decode prog_14_method_136_code 10 = .ok (.iaload, 1) := by decide +kernel
theorem d_M_finalesFor_11 : decode prog_14_method_136_code 11 = .ok (.if_icmp .ge 28, 3) := by decide +kernel
theorem d_M_finalesFor_14 : decode prog_14_method_136_code 14 = .ok (.iload_n 2, 1) := by decide +kernel
theorem d_M_finalesFor_15 : decode prog_14_method_136_code 15 = .ok (.aload_n 0, 1) := by decide +kernel
theorem d_M_finalesFor_16 : decode prog_14_method_136_code 16 = .ok (.iload_n 1, 1) := by decide +kernel
theorem d_M_finalesFor_17 : decode prog_14_method_136_code 17 = .ok (.iload_n 3, 1) := by decide +kernel
theorem d_M_finalesFor_18 : decode prog_14_method_136_code 18 = .ok (.invokevirtual 414, 3) := by decide +kernel
theorem d_M_finalesFor_21 : decode prog_14_method_136_code 21 = .ok (.ifCond .eq 9, 3) := by decide +kernel
theorem d_M_finalesFor_24 : decode prog_14_method_136_code 24 = .ok (.iconst 1, 1) := by decide +kernel
theorem d_M_finalesFor_25 : decode prog_14_method_136_code 25 = .ok (.iload_n 3, 1) := by decide +kernel
theorem d_M_finalesFor_26 : decode prog_14_method_136_code 26 = .ok (.ishl, 1) := by decide +kernel
theorem d_M_finalesFor_27 : decode prog_14_method_136_code 27 = .ok (.goto 4, 3) := by decide +kernel
theorem d_M_finalesFor_30 : decode prog_14_method_136_code 30 = .ok (.iconst 0, 1) := by decide +kernel
theorem d_M_finalesFor_31 : decode prog_14_method_136_code 31 = .ok (.ior, 1) := by decide +kernel
theorem d_M_finalesFor_32 : decode prog_14_method_136_code 32 = .ok (.istore_n 2, 1) := by decide +kernel
theorem d_M_finalesFor_33 : decode prog_14_method_136_code 33 = .ok (.iinc 3 1, 3) := by decide +kernel
theorem d_M_finalesFor_36 : decode prog_14_method_136_code 36 = .ok (.goto (-32), 3) := by decide +kernel
theorem d_M_finalesFor_39 : decode prog_14_method_136_code 39 = .ok (.iload_n 2, 1) := by decide +kernel
theorem d_M_finalesFor_40 : decode prog_14_method_136_code 40 = .ok (.ireturn, 1) := by decide +kernel
def M_finalesFor_L4 (Y : Ly) (l0 : Nat) (l1 : Int32) (h : Hp) : Nat → Int32 → Int32 → Option Int32
  | 0, _, _ => none
  | F + 1, l2, l3 =>
    if inB 3 (lnY Y (hGr h 1220 l0)) = true then
      if (hAi h (hGr h 1220 l0) (Int32.toNatClampNeg 3)) ≤ l3 then
        some l2
      else
        (M_isFit Y l0 l1 l3 h).bind fun q4 =>
        if q4 = true then
          M_finalesFor_L4 Y l0 l1 h F (l2 ||| ((1 : Int32) <<< (l3 &&& 31))) (l3 + 1)
        else
          M_finalesFor_L4 Y l0 l1 h F (l2 ||| 0) (l3 + 1)
    else none
theorem M_finalesFor_L4_ok (Y : Ly) (l0 : Nat) (l1 : Int32) (h : Hp) (tl0 : isO Y 12 l0) : ∀ (F : Nat) (l2 : Int32) (l3 : Int32), AW Y 4 K_M_finalesFor 4 [(0, .ref l0), (1, .int l1), (2, .int l2), (3, .int l3)] [] h (M_finalesFor_L4 Y l0 l1 h F l2 l3) (pI h) := by
  intro F
  induction F with
  | zero =>
    intro l2 l3
    exact aw_none
  | succ F ih =>
    intro l2 l3
    unfold M_finalesFor_L4
    refine aw_iload_n (pc := 4) d_M_finalesFor_4 rfl 3 rfl ?_
    refine aw_aload_n (pc := 5) d_M_finalesFor_5 rfl 0 rfl ?_
    refine gt_1220 (pc := 6) d_M_finalesFor_6 w7_47 tl0 (fun tt1 => ?_)
    refine aw_iconst (pc := 9) (x := 3) d_M_finalesFor_9 (by decide) ?_
    refine aw_iaload (pc := 10) d_M_finalesFor_10 tt1 (fun c2 => ?_)
    refine aw_icmp_ge (pc := 11) (tgt := 39) d_M_finalesFor_11 (by decide) (fun c3 => ?_) (fun c3 => ?_)
    · refine aw_iload_n (pc := 39) d_M_finalesFor_39 rfl 2 rfl ?_
      exact aw_ireturn (pc := 40) d_M_finalesFor_40 rfl rfl
    · refine aw_iload_n (pc := 14) d_M_finalesFor_14 rfl 2 rfl ?_
      refine aw_aload_n (pc := 15) d_M_finalesFor_15 rfl 0 rfl ?_
      refine aw_iload_n (pc := 16) d_M_finalesFor_16 rfl 1 rfl ?_
      refine aw_iload_n (pc := 17) d_M_finalesFor_17 rfl 3 rfl ?_
      refine aw_cVpZ (pc := 18) (ci := 12) (T := TX12) (N := 44) (As := [.int l1, .int l3]) (st := [.int l2]) (ok_M_isFit Y l0 l1 l3 h tl0) okV_M_isFit rfl (by decide) tl0 w9_98 d_M_finalesFor_18 rfl (Nat.le_of_ble_eq_true rfl) rfl (Nat.le_of_ble_eq_true rfl) (fun q4 hq4 hTq4 => ?_)
      refine aw_beq (pc := 21) (tgt := 30) d_M_finalesFor_21 (by decide) (fun c5 => ?_) (fun c5 => ?_)
      · refine aw_iconst (pc := 24) (x := 1) d_M_finalesFor_24 (by decide) ?_
        refine aw_iload_n (pc := 25) d_M_finalesFor_25 rfl 3 rfl ?_
        refine aw_ishl (pc := 26) d_M_finalesFor_26 ?_
        refine aw_goto (pc := 27) (tgt := 31) d_M_finalesFor_27 (by decide) ?_
        refine aw_ior (pc := 31) d_M_finalesFor_31 ?_
        refine aw_istore_n (pc := 32) (lv' := [(2, .int (l2 ||| ((1 : Int32) <<< (l3 &&& 31)))), (0, .ref l0), (1, .int l1), (3, .int l3)]) d_M_finalesFor_32 rfl (by decide) rfl ?_
        refine aw_iinc (pc := 33) (w := l3 + 1) (lv' := [(3, .int (l3 + 1)), (2, .int (l2 ||| ((1 : Int32) <<< (l3 &&& 31)))), (0, .ref l0), (1, .int l1)]) d_M_finalesFor_33 3 rfl rfl (by decide) rfl ?_
        refine aw_goto (pc := 36) (tgt := 4) d_M_finalesFor_36 (by decide) ?_
        exact aw_lv [2, 3, 1, 0] rfl (ih (l2 ||| ((1 : Int32) <<< (l3 &&& 31))) (l3 + 1))
      · refine aw_iconst (pc := 30) (x := 0) d_M_finalesFor_30 (by decide) ?_
        refine aw_ior (pc := 31) d_M_finalesFor_31 ?_
        refine aw_istore_n (pc := 32) (lv' := [(2, .int (l2 ||| 0)), (0, .ref l0), (1, .int l1), (3, .int l3)]) d_M_finalesFor_32 rfl (by decide) rfl ?_
        refine aw_iinc (pc := 33) (w := l3 + 1) (lv' := [(3, .int (l3 + 1)), (2, .int (l2 ||| 0)), (0, .ref l0), (1, .int l1)]) d_M_finalesFor_33 3 rfl rfl (by decide) rfl ?_
        refine aw_goto (pc := 36) (tgt := 4) d_M_finalesFor_36 (by decide) ?_
        exact aw_lv [2, 3, 1, 0] rfl (ih (l2 ||| 0) (l3 + 1))
def M_finalesFor (Y : Ly) (l0 : Nat) (l1 : Int32) (h : Hp) : Option Int32 :=
  M_finalesFor_L4 Y l0 l1 h FU 0 0
theorem ok_M_finalesFor (Y : Ly) (l0 : Nat) (l1 : Int32) (h : Hp) (t0 : isO Y 12 l0) : AM Y 4 K_M_finalesFor [.ref l0, .int l1] h (M_finalesFor Y l0 l1 h) (pI h) := by
  refine AM.of rfl (Nat.le_of_ble_eq_true rfl) ?_
  show AW Y 4 K_M_finalesFor 0 [(0, .ref l0), (1, .int l1)] [] h (M_finalesFor Y l0 l1 h) (pI h)
  unfold M_finalesFor
  refine aw_iconst (pc := 0) (x := 0) d_M_finalesFor_0 (by decide) ?_
  refine aw_istore_n (pc := 1) (lv' := [(2, .int 0), (0, .ref l0), (1, .int l1)]) d_M_finalesFor_1 rfl (by decide) rfl ?_
  refine aw_iconst (pc := 2) (x := 0) d_M_finalesFor_2 (by decide) ?_
  refine aw_istore_n (pc := 3) (lv' := [(3, .int 0), (2, .int 0), (0, .ref l0), (1, .int l1)]) d_M_finalesFor_3 rfl (by decide) rfl ?_
  exact aw_lv [2, 3, 1, 0] rfl (M_finalesFor_L4_ok Y l0 l1 h t0 FU 0 0)
/-! LastPagesModel.laysFits()V -/
theorem d_M_laysFits_0 : decode prog_14_method_141_code 0 = .ok (.iconst 0, 1) := by decide +kernel
theorem d_M_laysFits_1 : decode prog_14_method_141_code 1 = .ok (.istore_n 1, 1) := by decide +kernel
theorem d_M_laysFits_2 : decode prog_14_method_141_code 2 = .ok (.iload_n 1, 1) := by decide +kernel
theorem d_M_laysFits_3 : decode prog_14_method_141_code 3 = .ok (.aload_n 0, 1) := by decide +kernel
theorem d_M_laysFits_4 : decode prog_14_method_141_code 4 = .ok (.getfield 35, 3) := by decide +kernel
theorem d_M_laysFits_7 : decode prog_14_method_141_code 7 = .ok (.iconst 2, 1) := by decide +kernel
theorem d_M_laysFits_8 : decode prog_14_method_141_code 8 = .ok (.iaload, 1) := by decide +kernel
theorem d_M_laysFits_9 : decode prog_14_method_141_code 9 = .ok (.if_icmp .ge 20, 3) := by decide +kernel
theorem d_M_laysFits_12 : decode prog_14_method_141_code 12 = .ok (.aload_n 0, 1) := by decide +kernel
theorem d_M_laysFits_13 : decode prog_14_method_141_code 13 = .ok (.getfield 65, 3) := by decide +kernel
theorem d_M_laysFits_16 : decode prog_14_method_141_code 16 = .ok (.iload_n 1, 1) := by decide +kernel
theorem d_M_laysFits_17 : decode prog_14_method_141_code 17 = .ok (.aload_n 0, 1) := by decide +kernel
theorem d_M_laysFits_18 : decode prog_14_method_141_code 18 = .ok (.iload_n 1, 1) := by decide +kernel
theorem d_M_laysFits_19 : decode prog_14_method_141_code 19 = .ok (.invokevirtual 459, 3) := by decide +kernel
theorem d_M_laysFits_22 : decode prog_14_method_141_code 22 = .ok (.iastore, 1) := by decide +kernel
theorem d_M_laysFits_23 : decode prog_14_method_141_code 23 = .ok (.iinc 1 1, 3) := by decide +kernel
theorem d_M_laysFits_26 : decode prog_14_method_141_code 26 = .ok (.goto (-24), 3) := by decide +kernel
theorem d_M_laysFits_29 : decode prog_14_method_141_code 29 = .ok (.return_, 1) := by decide +kernel
def M_laysFits_L2 (Y : Ly) (l0 : Nat) : Nat → Int32 → Hp → Option Hp
  | 0, _, _ => none
  | F + 1, l1, h =>
    if inB 2 (lnY Y (hGr h 1220 l0)) = true then
      if (hAi h (hGr h 1220 l0) (Int32.toNatClampNeg 2)) ≤ l1 then
        some h
      else
        (M_finalesFor Y l0 l1 h).bind fun q5 =>
        if inB l1 (lnY Y (hGr h 1232 l0)) = true then
          letH (hTi h (hGr h 1232 l0) (Int32.toNatClampNeg l1) q5) fun h7 =>
          M_laysFits_L2 Y l0 F (l1 + 1) h7
        else none
    else none
theorem M_laysFits_L2_ok (Y : Ly) (l0 : Nat) (tl0 : isO Y 12 l0) : ∀ (F : Nat) (l1 : Int32) (h : Hp), AW Y 5 K_M_laysFits 2 [(0, .ref l0), (1, .int l1)] [] h (M_laysFits_L2 Y l0 F l1 h) rV := by
  intro F
  induction F with
  | zero =>
    intro l1 h
    exact aw_none
  | succ F ih =>
    intro l1 h
    unfold M_laysFits_L2
    refine aw_iload_n (pc := 2) d_M_laysFits_2 rfl 1 rfl ?_
    refine aw_aload_n (pc := 3) d_M_laysFits_3 rfl 0 rfl ?_
    refine gt_1220 (pc := 4) d_M_laysFits_4 w7_47 tl0 (fun tt1 => ?_)
    refine aw_iconst (pc := 7) (x := 2) d_M_laysFits_7 (by decide) ?_
    refine aw_iaload (pc := 8) d_M_laysFits_8 tt1 (fun c2 => ?_)
    refine aw_icmp_ge (pc := 9) (tgt := 29) d_M_laysFits_9 (by decide) (fun c3 => ?_) (fun c3 => ?_)
    · exact aw_return (pc := 29) d_M_laysFits_29 rfl rfl
    · refine aw_aload_n (pc := 12) d_M_laysFits_12 rfl 0 rfl ?_
      refine gt_1232 (pc := 13) d_M_laysFits_13 w7_59 tl0 (fun tt4 => ?_)
      refine aw_iload_n (pc := 16) d_M_laysFits_16 rfl 1 rfl ?_
      refine aw_aload_n (pc := 17) d_M_laysFits_17 rfl 0 rfl ?_
      refine aw_iload_n (pc := 18) d_M_laysFits_18 rfl 1 rfl ?_
      refine aw_cVpI (pc := 19) (ci := 12) (T := TX12) (N := 44) (As := [.int l1]) (st := [.int l1, .ref (hGr h 1232 l0)]) (ok_M_finalesFor Y l0 l1 h tl0) okV_M_finalesFor rfl (by decide) tl0 w9_220 d_M_laysFits_19 rfl (Nat.le_of_ble_eq_true rfl) rfl (Nat.le_of_ble_eq_true rfl) (fun q5 hq5 hTq5 => ?_)
      refine aw_iastore (pc := 22) d_M_laysFits_22 tt4 (fun c6 => ?_)
      refine aw_letH (fun h7 => ?_)
      refine aw_iinc (pc := 23) (w := l1 + 1) (lv' := [(1, .int (l1 + 1)), (0, .ref l0)]) d_M_laysFits_23 1 rfl rfl (by decide) rfl ?_
      refine aw_goto (pc := 26) (tgt := 2) d_M_laysFits_26 (by decide) ?_
      exact aw_lv [1, 0] rfl (ih (l1 + 1) h7)
def M_laysFits (Y : Ly) (l0 : Nat) (h : Hp) : Option Hp :=
  M_laysFits_L2 Y l0 FU 0 h
theorem ok_M_laysFits (Y : Ly) (l0 : Nat) (h : Hp) (t0 : isO Y 12 l0) : AM Y 5 K_M_laysFits [.ref l0] h (M_laysFits Y l0 h) rV := by
  refine AM.of rfl (Nat.le_of_ble_eq_true rfl) ?_
  show AW Y 5 K_M_laysFits 0 [(0, .ref l0)] [] h (M_laysFits Y l0 h) rV
  unfold M_laysFits
  refine aw_iconst (pc := 0) (x := 0) d_M_laysFits_0 (by decide) ?_
  refine aw_istore_n (pc := 1) (lv' := [(1, .int 0), (0, .ref l0)]) d_M_laysFits_1 rfl (by decide) rfl ?_
  exact aw_lv [1, 0] rfl (M_laysFits_L2_ok Y l0 t0 FU 0 h)
/-! LastPagesModel.clashing()I -/
theorem d_M_clashing_0 : decode prog_14_method_148_code 0 = .ok (.aload_n 0, 1) := by decide +kernel
theorem d_M_clashing_1 : decode prog_14_method_148_code 1 = .ok (.invokevirtual 468, 3) := by decide +kernel
theorem d_M_clashing_4 : decode prog_14_method_148_code 4 = .ok (.iconst (-1), 1) := by decide +kernel
theorem d_M_clashing_5 : decode prog_14_method_148_code 5 = .ok (.istore_n 1, 1) := by decide +kernel
theorem d_M_clashing_6 : decode prog_14_method_148_code 6 = .ok (.iconst 1, 1) := by decide +kernel
theorem d_M_clashing_7 : decode prog_14_method_148_code 7 = .ok (.istore_n 2, 1) := by decide +kernel
theorem d_M_clashing_8 : decode prog_14_method_148_code 8 = .ok (.iload_n 2, 1) := by decide +kernel
theorem d_M_clashing_9 : decode prog_14_method_148_code 9 = .ok (.aload_n 0, 1) := by decide +kernel
theorem d_M_clashing_10 : decode prog_14_method_148_code 10 = .ok (.invokevirtual 474, 3) := by decide +kernel
theorem d_M_clashing_13 : decode prog_14_method_148_code 13 = .ok (.if_icmp .gt 41, 3) := by decide +kernel
theorem d_M_clashing_16 : decode prog_14_method_148_code 16 = .ok (.aload_n 0, 1) := by decide +kernel
theorem d_M_clashing_17 : decode prog_14_method_148_code 17 = .ok (.iload_n 2, 1) := by decide +kernel
theorem d_M_clashing_18 : decode prog_14_method_148_code 18 = .ok (.invokevirtual 477, 3) := by decide +kernel
theorem d_M_clashing_21 : decode prog_14_method_148_code 21 = .ok (.invokestatic 480, 3) := by decide +kernel
theorem d_M_clashing_24 : decode prog_14_method_148_code 24 = .ok (.iload_n 2, 1) := by decide +kernel
theorem d_M_clashing_25 : decode prog_14_method_148_code 25 = .ok (.invokestatic 480, 3) := by decide +kernel
theorem d_M_clashing_28 : decode prog_14_method_148_code 28 = .ok (.if_icmp .ge 20, 3) := by decide +kernel
theorem d_M_clashing_31 : decode prog_14_method_148_code 31 = .ok (.iload_n 1, 1) := by decide +kernel
theorem d_M_clashing_32 : decode prog_14_method_148_code 32 = .ok (.ifCond .lt 14, 3) := by decide +kernel
theorem d_M_clashing_35 : decode prog_14_method_148_code 35 = .ok (.iload_n 2, 1) := by decide +kernel
theorem d_M_clashing_36 : decode prog_14_method_148_code 36 = .ok (.invokestatic 480, 3) := by decide +kernel
theorem d_M_clashing_39 : decode prog_14_method_148_code 39 = .ok (.iload_n 1, 1) := by decide +kernel
theorem d_M_clashing_40 : decode prog_14_method_148_code 40 = .ok (.invokestatic 480, 3) := by decide +kernel
theorem d_M_clashing_43 : decode prog_14_method_148_code 43 = .ok (.if_icmp .ge 5, 3) := by decide +kernel
theorem d_M_clashing_46 : decode prog_14_method_148_code 46 = .ok (.iload_n 2, 1) := by decide +kernel
theorem d_M_clashing_47 : decode prog_14_method_148_code 47 = .ok (.istore_n 1, 1) := by decide +kernel
theorem d_M_clashing_48 : decode prog_14_method_148_code 48 = .ok (.iinc 2 1, 3) := by decide +kernel
theorem d_M_clashing_51 : decode prog_14_method_148_code 51 = .ok (.goto (-43), 3) := by decide +kernel
theorem d_M_clashing_54 : decode prog_14_method_148_code 54 = .ok (.iload_n 1, 1) := by decide +kernel
theorem d_M_clashing_55 : decode prog_14_method_148_code 55 = .ok (.ireturn, 1) := by decide +kernel
def M_clashing_L8 (Y : Ly) (l0 : Nat) (h : Hp) : Nat → Int32 → Int32 → Option (Int32 × Hp)
  | 0, _, _ => none
  | F + 1, l1, l2 =>
    (M_allBooks Y l0 h).bind fun q2 =>
    if q2 < l2 then
      some (l1, h)
    else
      (M_fitsOf Y l0 l2 h).bind fun q4 =>
      (M_sizeOf Y q4 h).bind fun q5 =>
      (M_sizeOf Y l2 h).bind fun q6 =>
      if q6 ≤ q5 then
        M_clashing_L8 Y l0 h F l1 (l2 + 1)
      else
        if l1 < 0 then
          M_clashing_L8 Y l0 h F l2 (l2 + 1)
        else
          (M_sizeOf Y l2 h).bind fun q9 =>
          (M_sizeOf Y l1 h).bind fun q10 =>
          if q10 ≤ q9 then
            M_clashing_L8 Y l0 h F l1 (l2 + 1)
          else
            M_clashing_L8 Y l0 h F l2 (l2 + 1)
theorem M_clashing_L8_ok (Y : Ly) (l0 : Nat) (h : Hp) (tl0 : isO Y 12 l0) : ∀ (F : Nat) (l1 : Int32) (l2 : Int32), AW Y 6 K_M_clashing 8 [(0, .ref l0), (1, .int l1), (2, .int l2)] [] h (M_clashing_L8 Y l0 h F l1 l2) rI := by
  intro F
  induction F with
  | zero =>
    intro l1 l2
    exact aw_none
  | succ F ih =>
    intro l1 l2
    unfold M_clashing_L8
    refine aw_iload_n (pc := 8) d_M_clashing_8 rfl 2 rfl ?_
    refine aw_aload_n (pc := 9) d_M_clashing_9 rfl 0 rfl ?_
    refine aw_cVpI (pc := 10) (ci := 12) (T := TX12) (N := 44) (As := []) (st := [.int l2]) (ok_M_allBooks Y l0 h tl0) okV_M_allBooks rfl (by decide) tl0 w10_24 d_M_clashing_10 rfl (Nat.le_of_ble_eq_true rfl) rfl (Nat.le_of_ble_eq_true rfl) (fun q2 hq2 hTq2 => ?_)
    refine aw_icmp_gt (pc := 13) (tgt := 54) d_M_clashing_13 (by decide) (fun c3 => ?_) (fun c3 => ?_)
    · refine aw_iload_n (pc := 54) d_M_clashing_54 rfl 1 rfl ?_
      exact aw_ireturn (pc := 55) d_M_clashing_55 rfl rfl
    · refine aw_aload_n (pc := 16) d_M_clashing_16 rfl 0 rfl ?_
      refine aw_iload_n (pc := 17) d_M_clashing_17 rfl 2 rfl ?_
      refine aw_cVpI (pc := 18) (ci := 12) (T := TX12) (N := 44) (As := [.int l2]) (st := []) (ok_M_fitsOf Y l0 l2 h tl0) okV_M_fitsOf rfl (by decide) tl0 w10_28 d_M_clashing_18 rfl (Nat.le_of_ble_eq_true rfl) rfl (Nat.le_of_ble_eq_true rfl) (fun q4 hq4 hTq4 => ?_)
      refine aw_cSpI (pc := 21) (As := [.int q4]) (st := []) (ok_M_sizeOf Y q4 h) okS_M_sizeOf w10_32 d_M_clashing_21 rfl (Nat.le_of_ble_eq_true rfl) rfl (Nat.le_of_ble_eq_true rfl) (fun q5 hq5 hTq5 => ?_)
      refine aw_iload_n (pc := 24) d_M_clashing_24 rfl 2 rfl ?_
      refine aw_cSpI (pc := 25) (As := [.int l2]) (st := [.int q5]) (ok_M_sizeOf Y l2 h) okS_M_sizeOf w10_32 d_M_clashing_25 rfl (Nat.le_of_ble_eq_true rfl) rfl (Nat.le_of_ble_eq_true rfl) (fun q6 hq6 hTq6 => ?_)
      refine aw_icmp_ge (pc := 28) (tgt := 48) d_M_clashing_28 (by decide) (fun c7 => ?_) (fun c7 => ?_)
      · refine aw_iinc (pc := 48) (w := l2 + 1) (lv' := [(2, .int (l2 + 1)), (0, .ref l0), (1, .int l1)]) d_M_clashing_48 2 rfl rfl (by decide) rfl ?_
        refine aw_goto (pc := 51) (tgt := 8) d_M_clashing_51 (by decide) ?_
        exact aw_lv [1, 2, 0] rfl (ih l1 (l2 + 1))
      · refine aw_iload_n (pc := 31) d_M_clashing_31 rfl 1 rfl ?_
        refine aw_if_lt (pc := 32) (tgt := 46) d_M_clashing_32 (by decide) (fun c8 => ?_) (fun c8 => ?_)
        · refine aw_iload_n (pc := 46) d_M_clashing_46 rfl 2 rfl ?_
          refine aw_istore_n (pc := 47) (lv' := [(1, .int l2), (0, .ref l0), (2, .int l2)]) d_M_clashing_47 rfl (by decide) rfl ?_
          refine aw_iinc (pc := 48) (w := l2 + 1) (lv' := [(2, .int (l2 + 1)), (1, .int l2), (0, .ref l0)]) d_M_clashing_48 2 rfl rfl (by decide) rfl ?_
          refine aw_goto (pc := 51) (tgt := 8) d_M_clashing_51 (by decide) ?_
          exact aw_lv [2, 1, 0] rfl (ih l2 (l2 + 1))
        · refine aw_iload_n (pc := 35) d_M_clashing_35 rfl 2 rfl ?_
          refine aw_cSpI (pc := 36) (As := [.int l2]) (st := []) (ok_M_sizeOf Y l2 h) okS_M_sizeOf w10_32 d_M_clashing_36 rfl (Nat.le_of_ble_eq_true rfl) rfl (Nat.le_of_ble_eq_true rfl) (fun q9 hq9 hTq9 => ?_)
          refine aw_iload_n (pc := 39) d_M_clashing_39 rfl 1 rfl ?_
          refine aw_cSpI (pc := 40) (As := [.int l1]) (st := [.int q9]) (ok_M_sizeOf Y l1 h) okS_M_sizeOf w10_32 d_M_clashing_40 rfl (Nat.le_of_ble_eq_true rfl) rfl (Nat.le_of_ble_eq_true rfl) (fun q10 hq10 hTq10 => ?_)
          refine aw_icmp_ge (pc := 43) (tgt := 48) d_M_clashing_43 (by decide) (fun c11 => ?_) (fun c11 => ?_)
          · refine aw_iinc (pc := 48) (w := l2 + 1) (lv' := [(2, .int (l2 + 1)), (0, .ref l0), (1, .int l1)]) d_M_clashing_48 2 rfl rfl (by decide) rfl ?_
            refine aw_goto (pc := 51) (tgt := 8) d_M_clashing_51 (by decide) ?_
            exact aw_lv [1, 2, 0] rfl (ih l1 (l2 + 1))
          · refine aw_iload_n (pc := 46) d_M_clashing_46 rfl 2 rfl ?_
            refine aw_istore_n (pc := 47) (lv' := [(1, .int l2), (0, .ref l0), (2, .int l2)]) d_M_clashing_47 rfl (by decide) rfl ?_
            refine aw_iinc (pc := 48) (w := l2 + 1) (lv' := [(2, .int (l2 + 1)), (1, .int l2), (0, .ref l0)]) d_M_clashing_48 2 rfl rfl (by decide) rfl ?_
            refine aw_goto (pc := 51) (tgt := 8) d_M_clashing_51 (by decide) ?_
            exact aw_lv [2, 1, 0] rfl (ih l2 (l2 + 1))
def M_clashing (Y : Ly) (l0 : Nat) (h : Hp) : Option (Int32 × Hp) :=
  (M_laysFits Y l0 h).bind fun q1 =>
  M_clashing_L8 Y l0 q1 FU (-1) 1
theorem ok_M_clashing (Y : Ly) (l0 : Nat) (h : Hp) (t0 : isO Y 12 l0) : AM Y 6 K_M_clashing [.ref l0] h (M_clashing Y l0 h) rI := by
  refine AM.of rfl (Nat.le_of_ble_eq_true rfl) ?_
  show AW Y 6 K_M_clashing 0 [(0, .ref l0)] [] h (M_clashing Y l0 h) rI
  unfold M_clashing
  refine aw_aload_n (pc := 0) d_M_clashing_0 rfl 0 rfl ?_
  refine aw_cVrV (pc := 1) (ci := 12) (T := TX12) (N := 44) (As := []) (st := []) (ok_M_laysFits Y l0 h t0) okV_M_laysFits rfl (by decide) t0 w10_0 d_M_clashing_1 rfl (Nat.le_of_ble_eq_true rfl) rfl (Nat.le_of_ble_eq_true rfl) (fun q1 hq1 hTq1 => ?_)
  refine aw_iconst (pc := 4) (x := (-1)) d_M_clashing_4 (by decide) ?_
  refine aw_istore_n (pc := 5) (lv' := [(1, .int (-1)), (0, .ref l0)]) d_M_clashing_5 rfl (by decide) rfl ?_
  refine aw_iconst (pc := 6) (x := 1) d_M_clashing_6 (by decide) ?_
  refine aw_istore_n (pc := 7) (lv' := [(2, .int 1), (1, .int (-1)), (0, .ref l0)]) d_M_clashing_7 rfl (by decide) rfl ?_
  exact aw_lv [2, 1, 0] rfl (M_clashing_L8_ok Y l0 q1 t0 FU (-1) 1)
/-! LastPagesModel.clash()I -/
theorem d_M_clash_0 : decode prog_14_method_149_code 0 = .ok (.aload_n 0, 1) := by decide +kernel
theorem d_M_clash_1 : decode prog_14_method_149_code 1 = .ok (.iconst 0, 1) := by decide +kernel
theorem d_M_clash_2 : decode prog_14_method_149_code 2 = .ok (.putfield 78, 3) := by decide +kernel
theorem d_M_clash_5 : decode prog_14_method_149_code 5 = .ok (.aload_n 0, 1) := by decide +kernel
theorem d_M_clash_6 : decode prog_14_method_149_code 6 = .ok (.iconst 0, 1) := by decide +kernel
theorem d_M_clash_7 : decode prog_14_method_149_code 7 = .ok (.putfield 81, 3) := by decide +kernel
theorem d_M_clash_10 : decode prog_14_method_149_code 10 = .ok (.aload_n 0, 1) := by decide +kernel
theorem d_M_clash_11 : decode prog_14_method_149_code 11 = .ok (.invokevirtual 483, 3) := by decide +kernel
theorem d_M_clash_14 : decode prog_14_method_149_code 14 = .ok (.istore_n 1, 1) := by decide +kernel
theorem d_M_clash_15 : decode prog_14_method_149_code 15 = .ok (.iload_n 1, 1) := by decide +kernel
theorem d_M_clash_16 : decode prog_14_method_149_code 16 = .ok (.ifCond .ge 12, 3) := by decide +kernel
theorem d_M_clash_19 : decode prog_14_method_149_code 19 = .ok (.aload_n 0, 1) := by decide +kernel
theorem d_M_clash_20 : decode prog_14_method_149_code 20 = .ok (.bipush 8, 2) := by decide +kernel
theorem d_M_clash_22 : decode prog_14_method_149_code 22 = .ok (.invokevirtual 367, 3) := by decide +kernel
theorem d_M_clash_25 : decode prog_14_method_149_code 25 = .ok (.goto 7, 3) := by decide +kernel
theorem d_M_clash_28 : decode prog_14_method_149_code 28 = .ok (.iload_n 1, 1) := by decide +kernel
theorem d_M_clash_29 : decode prog_14_method_149_code 29 = .ok (.invokestatic 480, 3) := by decide +kernel
theorem d_M_clash_32 : decode prog_14_method_149_code 32 = .ok (.ireturn, 1) := by decide +kernel
def M_clash (Y : Ly) (l0 : Nat) (h : Hp) : Option (Int32 × Hp) :=
  letH (hSi h 1201 l0 0) fun h1 =>
  letH (hSi h1 1200 l0 0) fun h2 =>
  (M_clashing Y l0 h2).bind fun q3 =>
  if 0 ≤ q3.1 then
    (M_sizeOf Y q3.1 q3.2).bind fun q5 =>
    some (q5, q3.2)
  else
    (M_refuse Y l0 8 q3.2).bind fun q6 =>
    some (q6.1, q6.2)
theorem ok_M_clash (Y : Ly) (l0 : Nat) (h : Hp) (t0 : isO Y 12 l0) : AM Y 7 K_M_clash [.ref l0] h (M_clash Y l0 h) rI := by
  refine AM.of rfl (Nat.le_of_ble_eq_true rfl) ?_
  show AW Y 7 K_M_clash 0 [(0, .ref l0)] [] h (M_clash Y l0 h) rI
  unfold M_clash
  refine aw_aload_n (pc := 0) d_M_clash_0 rfl 0 rfl ?_
  refine aw_iconst (pc := 1) (x := 0) d_M_clash_1 (by decide) ?_
  refine pt_1201 (pc := 2) d_M_clash_2 w7_28 t0 ?_
  refine aw_letH (fun h1 => ?_)
  refine aw_aload_n (pc := 5) d_M_clash_5 rfl 0 rfl ?_
  refine aw_iconst (pc := 6) (x := 0) d_M_clash_6 (by decide) ?_
  refine pt_1200 (pc := 7) d_M_clash_7 w7_27 t0 ?_
  refine aw_letH (fun h2 => ?_)
  refine aw_aload_n (pc := 10) d_M_clash_10 rfl 0 rfl ?_
  refine aw_cVrI (pc := 11) (ci := 12) (T := TX12) (N := 44) (As := []) (st := []) (ok_M_clashing Y l0 h2 t0) okV_M_clashing rfl (by decide) t0 w10_20 d_M_clash_11 rfl (Nat.le_of_ble_eq_true rfl) rfl (Nat.le_of_ble_eq_true rfl) (fun q3 hq3 hTq3 => ?_)
  refine aw_istore_n (pc := 14) (lv' := [(1, .int q3.1), (0, .ref l0)]) d_M_clash_14 rfl (by decide) rfl ?_
  refine aw_iload_n (pc := 15) d_M_clash_15 rfl 0 rfl ?_
  refine aw_if_ge (pc := 16) (tgt := 28) d_M_clash_16 (by decide) (fun c4 => ?_) (fun c4 => ?_)
  · refine aw_iload_n (pc := 28) d_M_clash_28 rfl 0 rfl ?_
    refine aw_cSpI (pc := 29) (As := [.int q3.1]) (st := []) (ok_M_sizeOf Y q3.1 q3.2) okS_M_sizeOf w10_32 d_M_clash_29 rfl (Nat.le_of_ble_eq_true rfl) rfl (Nat.le_of_ble_eq_true rfl) (fun q5 hq5 hTq5 => ?_)
    exact aw_ireturn (pc := 32) d_M_clash_32 rfl rfl
  · refine aw_aload_n (pc := 19) d_M_clash_19 rfl 1 rfl ?_
    refine aw_bipush (pc := 20) (x := 8) d_M_clash_20 (by decide) ?_
    refine aw_cVrI (pc := 22) (ci := 12) (T := TX12) (N := 44) (As := [.int 8]) (st := []) (ok_M_refuse Y l0 8 q3.2 t0) okV_M_refuse rfl (by decide) t0 w9_8 d_M_clash_22 rfl (Nat.le_of_ble_eq_true rfl) rfl (Nat.le_of_ble_eq_true rfl) (fun q6 hq6 hTq6 => ?_)
    refine aw_goto (pc := 25) (tgt := 32) d_M_clash_25 (by decide) ?_
    exact aw_ireturn (pc := 32) d_M_clash_32 rfl rfl
/-! LastPagesModel.clashSet()I -/
theorem d_M_clashSet_0 : decode prog_14_method_150_code 0 = .ok (.aload_n 0, 1) := by decide +kernel
theorem d_M_clashSet_1 : decode prog_14_method_150_code 1 = .ok (.iconst 0, 1) := by decide +kernel
theorem d_M_clashSet_2 : decode prog_14_method_150_code 2 = .ok (.putfield 78, 3) := by decide +kernel
theorem d_M_clashSet_5 : decode prog_14_method_150_code 5 = .ok (.aload_n 0, 1) := by decide +kernel
theorem d_M_clashSet_6 : decode prog_14_method_150_code 6 = .ok (.iconst 0, 1) := by decide +kernel
theorem d_M_clashSet_7 : decode prog_14_method_150_code 7 = .ok (.putfield 81, 3) := by decide +kernel
theorem d_M_clashSet_10 : decode prog_14_method_150_code 10 = .ok (.aload_n 0, 1) := by decide +kernel
theorem d_M_clashSet_11 : decode prog_14_method_150_code 11 = .ok (.invokevirtual 483, 3) := by decide +kernel
theorem d_M_clashSet_14 : decode prog_14_method_150_code 14 = .ok (.istore_n 1, 1) := by decide +kernel
theorem d_M_clashSet_15 : decode prog_14_method_150_code 15 = .ok (.iload_n 1, 1) := by decide +kernel
theorem d_M_clashSet_16 : decode prog_14_method_150_code 16 = .ok (.ifCond .ge 12, 3) := by decide +kernel
theorem d_M_clashSet_19 : decode prog_14_method_150_code 19 = .ok (.aload_n 0, 1) := by decide +kernel
theorem d_M_clashSet_20 : decode prog_14_method_150_code 20 = .ok (.bipush 8, 2) := by decide +kernel
theorem d_M_clashSet_22 : decode prog_14_method_150_code 22 = .ok (.invokevirtual 367, 3) := by decide +kernel
theorem d_M_clashSet_25 : decode prog_14_method_150_code 25 = .ok (.goto 4, 3) := by decide +kernel
theorem d_M_clashSet_28 : decode prog_14_method_150_code 28 = .ok (.iload_n 1, 1) := by decide +kernel
theorem d_M_clashSet_29 : decode prog_14_method_150_code 29 = .ok (.ireturn, 1) := by decide +kernel
def M_clashSet (Y : Ly) (l0 : Nat) (h : Hp) : Option (Int32 × Hp) :=
  letH (hSi h 1201 l0 0) fun h1 =>
  letH (hSi h1 1200 l0 0) fun h2 =>
  (M_clashing Y l0 h2).bind fun q3 =>
  if 0 ≤ q3.1 then
    some (q3.1, q3.2)
  else
    (M_refuse Y l0 8 q3.2).bind fun q5 =>
    some (q5.1, q5.2)
theorem ok_M_clashSet (Y : Ly) (l0 : Nat) (h : Hp) (t0 : isO Y 12 l0) : AM Y 7 K_M_clashSet [.ref l0] h (M_clashSet Y l0 h) rI := by
  refine AM.of rfl (Nat.le_of_ble_eq_true rfl) ?_
  show AW Y 7 K_M_clashSet 0 [(0, .ref l0)] [] h (M_clashSet Y l0 h) rI
  unfold M_clashSet
  refine aw_aload_n (pc := 0) d_M_clashSet_0 rfl 0 rfl ?_
  refine aw_iconst (pc := 1) (x := 0) d_M_clashSet_1 (by decide) ?_
  refine pt_1201 (pc := 2) d_M_clashSet_2 w7_28 t0 ?_
  refine aw_letH (fun h1 => ?_)
  refine aw_aload_n (pc := 5) d_M_clashSet_5 rfl 0 rfl ?_
  refine aw_iconst (pc := 6) (x := 0) d_M_clashSet_6 (by decide) ?_
  refine pt_1200 (pc := 7) d_M_clashSet_7 w7_27 t0 ?_
  refine aw_letH (fun h2 => ?_)
  refine aw_aload_n (pc := 10) d_M_clashSet_10 rfl 0 rfl ?_
  refine aw_cVrI (pc := 11) (ci := 12) (T := TX12) (N := 44) (As := []) (st := []) (ok_M_clashing Y l0 h2 t0) okV_M_clashing rfl (by decide) t0 w10_20 d_M_clashSet_11 rfl (Nat.le_of_ble_eq_true rfl) rfl (Nat.le_of_ble_eq_true rfl) (fun q3 hq3 hTq3 => ?_)
  refine aw_istore_n (pc := 14) (lv' := [(1, .int q3.1), (0, .ref l0)]) d_M_clashSet_14 rfl (by decide) rfl ?_
  refine aw_iload_n (pc := 15) d_M_clashSet_15 rfl 0 rfl ?_
  refine aw_if_ge (pc := 16) (tgt := 28) d_M_clashSet_16 (by decide) (fun c4 => ?_) (fun c4 => ?_)
  · refine aw_iload_n (pc := 28) d_M_clashSet_28 rfl 0 rfl ?_
    exact aw_ireturn (pc := 29) d_M_clashSet_29 rfl rfl
  · refine aw_aload_n (pc := 19) d_M_clashSet_19 rfl 1 rfl ?_
    refine aw_bipush (pc := 20) (x := 8) d_M_clashSet_20 (by decide) ?_
    refine aw_cVrI (pc := 22) (ci := 12) (T := TX12) (N := 44) (As := [.int 8]) (st := []) (ok_M_refuse Y l0 8 q3.2 t0) okV_M_refuse rfl (by decide) t0 w9_8 d_M_clashSet_22 rfl (Nat.le_of_ble_eq_true rfl) rfl (Nat.le_of_ble_eq_true rfl) (fun q5 hq5 hTq5 => ?_)
    refine aw_goto (pc := 25) (tgt := 29) d_M_clashSet_25 (by decide) ?_
    exact aw_ireturn (pc := 29) d_M_clashSet_29 rfl rfl
/-! LastPagesModel.isStateAt(I)Z -/
theorem d_M_isStateAt_0 : decode prog_14_method_93_code 0 = .ok (.iload_n 1, 1) := by decide +kernel
theorem d_M_isStateAt_1 : decode prog_14_method_93_code 1 = .ok (.i2l, 1) := by decide +kernel
theorem d_M_isStateAt_2 : decode prog_14_method_93_code 2 = .ok (.lconst 0, 1) := by decide +kernel
theorem d_M_isStateAt_3 : decode prog_14_method_93_code 3 = .ok (.aload_n 0, 1) := by decide +kernel
theorem d_M_isStateAt_4 : decode prog_14_method_93_code 4 = .ok (.getfield 35, 3) := by decide +kernel
theorem d_M_isStateAt_7 : decode prog_14_method_93_code 7 = .ok (.iconst 0, 1) := by decide +kernel
theorem d_M_isStateAt_8 : decode prog_14_method_93_code 8 = .ok (.iaload, 1) := by decide +kernel
theorem d_M_isStateAt_9 : decode prog_14_method_93_code 9 = .ok (.iconst 1, 1) := by decide +kernel
theorem d_M_isStateAt_10 : decode prog_14_method_93_code 10 = .ok (.isub, 1) := by decide +kernel
theorem d_M_isStateAt_11 : decode prog_14_method_93_code 11 = .ok (.i2l, 1) := by decide +kernel
theorem d_M_isStateAt_12 : decode prog_14_method_93_code 12 = .ok (.invokestatic 113, 3) := by decide +kernel
theorem d_M_isStateAt_15 : decode prog_14_method_93_code 15 = .ok (.ireturn, 1) := by decide +kernel
def M_isStateAt (Y : Ly) (l0 : Nat) (l1 : Int32) (h : Hp) : Option Bool :=
  if inB 0 (lnY Y (hGr h 1220 l0)) = true then
    (M_isIn Y (Int32.toInt64 l1) 0 (Int32.toInt64 ((hAi h (hGr h 1220 l0) (Int32.toNatClampNeg 0)) - 1)) h).bind fun q3 =>
    some q3
  else none
theorem ok_M_isStateAt (Y : Ly) (l0 : Nat) (l1 : Int32) (h : Hp) (t0 : isO Y 12 l0) : AM Y 1 K_M_isStateAt [.ref l0, .int l1] h (M_isStateAt Y l0 l1 h) (pZ h) := by
  refine AM.of rfl (Nat.le_of_ble_eq_true rfl) ?_
  show AW Y 1 K_M_isStateAt 0 [(0, .ref l0), (1, .int l1)] [] h (M_isStateAt Y l0 l1 h) (pZ h)
  unfold M_isStateAt
  refine aw_iload_n (pc := 0) d_M_isStateAt_0 rfl 1 rfl ?_
  refine aw_i2l (pc := 1) d_M_isStateAt_1 ?_
  refine aw_lconst (pc := 2) (x := 0) d_M_isStateAt_2 (by decide) ?_
  refine aw_aload_n (pc := 3) d_M_isStateAt_3 rfl 0 rfl ?_
  refine gt_1220 (pc := 4) d_M_isStateAt_4 w7_47 t0 (fun tt1 => ?_)
  refine aw_iconst (pc := 7) (x := 0) d_M_isStateAt_7 (by decide) ?_
  refine aw_iaload (pc := 8) d_M_isStateAt_8 tt1 (fun c2 => ?_)
  refine aw_iconst (pc := 9) (x := 1) d_M_isStateAt_9 (by decide) ?_
  refine aw_isub (pc := 10) d_M_isStateAt_10 ?_
  refine aw_i2l (pc := 11) d_M_isStateAt_11 ?_
  refine aw_cSpZ (pc := 12) (As := [.long (Int32.toInt64 l1), .long 0, .long (Int32.toInt64 ((hAi h (hGr h 1220 l0) (Int32.toNatClampNeg 0)) - 1))]) (st := []) (ok_M_isIn Y (Int32.toInt64 l1) 0 (Int32.toInt64 ((hAi h (hGr h 1220 l0) (Int32.toNatClampNeg 0)) - 1)) h) okS_M_isIn w8_155 d_M_isStateAt_12 rfl (Nat.le_of_ble_eq_true rfl) rfl (Nat.le_of_ble_eq_true rfl) (fun q3 hq3 hTq3 => ?_)
  exact aw_zreturn (pc := 15) (b := q3) d_M_isStateAt_15 rfl rfl
/-! LastPagesModel.close(IZ)Z -/
theorem d_M_close_0 : decode prog_14_method_120_code 0 = .ok (.aload_n 0, 1) := by decide +kernel
theorem d_M_close_1 : decode prog_14_method_120_code 1 = .ok (.iconst 0, 1) := by decide +kernel
theorem d_M_close_2 : decode prog_14_method_120_code 2 = .ok (.putfield 78, 3) := by decide +kernel
theorem d_M_close_5 : decode prog_14_method_120_code 5 = .ok (.aload_n 0, 1) := by decide +kernel
theorem d_M_close_6 : decode prog_14_method_120_code 6 = .ok (.iconst 0, 1) := by decide +kernel
theorem d_M_close_7 : decode prog_14_method_120_code 7 = .ok (.putfield 81, 3) := by decide +kernel
theorem d_M_close_10 : decode prog_14_method_120_code 10 = .ok (.aload_n 0, 1) := by decide +kernel
theorem d_M_close_11 : decode prog_14_method_120_code 11 = .ok (.iload_n 1, 1) := by decide +kernel
theorem d_M_close_12 : decode prog_14_method_120_code 12 = .ok (.invokevirtual 376, 3) := by decide +kernel
theorem d_M_close_15 : decode prog_14_method_120_code 15 = .ok (.ifCond .ne 9, 3) := by decide +kernel
theorem d_M_close_18 : decode prog_14_method_120_code 18 = .ok (.aload_n 0, 1) := by decide +kernel
theorem d_M_close_19 : decode prog_14_method_120_code 19 = .ok (.iconst 2, 1) := by decide +kernel
theorem d_M_close_20 : decode prog_14_method_120_code 20 = .ok (.invokevirtual 93, 3) := by decide +kernel
theorem d_M_close_23 : decode prog_14_method_120_code 23 = .ok (.ireturn, 1) := by decide +kernel
theorem d_M_close_24 : decode prog_14_method_120_code 24 = .ok (.aload_n 0, 1) := by decide +kernel
theorem d_M_close_25 : decode prog_14_method_120_code 25 = .ok (.getfield 35, 3) := by decide +kernel
theorem d_M_close_28 : decode prog_14_method_120_code 28 = .ok (.bipush 8, 2) := by decide +kernel
theorem d_M_close_30 : decode prog_14_method_120_code 30 = .ok (.iaload, 1) := by decide +kernel
theorem d_M_close_31 : decode prog_14_method_120_code 31 = .ok (.iload_n 1, 1) := by decide +kernel
theorem d_M_close_32 : decode prog_14_method_120_code 32 = .ok (.invokestatic 117, 3) := by decide +kernel
theorem d_M_close_35 : decode prog_14_method_120_code 35 = .ok (.iload_n 2, 1) := by decide +kernel
theorem d_M_close_36 : decode prog_14_method_120_code 36 = .ok (.if_icmp .ne 10, 3) := by decide +kernel
theorem d_M_close_39 : decode prog_14_method_120_code 39 = .ok (.aload_n 0, 1) := by decide +kernel
theorem d_M_close_40 : decode prog_14_method_120_code 40 = .ok (.bipush 9, 2) := by decide +kernel
theorem d_M_close_42 : decode prog_14_method_120_code 42 = .ok (.invokevirtual 93, 3) := by decide +kernel
theorem d_M_close_45 : decode prog_14_method_120_code 45 = .ok (.ireturn, 1) := by decide +kernel
theorem d_M_close_46 : decode prog_14_method_120_code 46 = .ok (.aload_n 0, 1) := by decide +kernel
theorem d_M_close_47 : decode prog_14_method_120_code 47 = .ok (.getfield 35, 3) := by decide +kernel
theorem d_M_close_50 : decode prog_14_method_120_code 50 = .ok (.bipush 8, 2) := by decide +kernel
theorem d_M_close_52 : decode prog_14_method_120_code 52 = .ok (.dup2, 1) := by decide +kernel
theorem d_M_close_53 : decode prog_14_method_120_code 53 = .ok (.iaload, 1) := by decide +kernel
theorem d_M_close_54 : decode prog_14_method_120_code 54 = .ok (.iconst 1, 1) := by decide +kernel
theorem d_M_close_55 : decode prog_14_method_120_code 55 = .ok (.iload_n 1, 1) := by decide +kernel
theorem d_M_close_56 : decode prog_14_method_120_code 56 = .ok (.ishl, 1) := by decide +kernel
theorem d_M_close_57 : decode prog_14_method_120_code 57 = .ok (.ixor, 1) := by decide +kernel
theorem d_M_close_58 : decode prog_14_method_120_code 58 = .ok (.iastore, 1) := by decide +kernel
theorem d_M_close_59 : decode prog_14_method_120_code 59 = .ok (.iconst 1, 1) := by decide +kernel
theorem d_M_close_60 : decode prog_14_method_120_code 60 = .ok (.ireturn, 1) := by decide +kernel
def M_close (Y : Ly) (l0 : Nat) (l1 : Int32) (l2 : Bool) (h : Hp) : Option (Bool × Hp) :=
  letH (hSi h 1201 l0 0) fun h1 =>
  letH (hSi h1 1200 l0 0) fun h2 =>
  (M_isStateAt Y l0 l1 h2).bind fun q3 =>
  if q3 = true then
    if inB 8 (lnY Y (hGr h2 1220 l0)) = true then
      (M_has Y (hAi h2 (hGr h2 1220 l0) (Int32.toNatClampNeg 8)) l1 h2).bind fun q7 =>
      if (b2i q7) = (b2i l2) then
        (M_no Y l0 9 h2).bind fun q9 =>
        some (q9.1, q9.2)
      else
        if inB 8 (lnY Y (hGr h2 1220 l0)) = true then
          if inB 8 (lnY Y (hGr h2 1220 l0)) = true then
            letH (hTi h2 (hGr h2 1220 l0) (Int32.toNatClampNeg 8) ((hAi h2 (hGr h2 1220 l0) (Int32.toNatClampNeg 8)) ^^^ ((1 : Int32) <<< (l1 &&& 31)))) fun h13 =>
            some (true, h13)
          else none
        else none
    else none
  else
    (M_no Y l0 2 h2).bind fun q14 =>
    some (q14.1, q14.2)
theorem ok_M_close (Y : Ly) (l0 : Nat) (l1 : Int32) (l2 : Bool) (h : Hp) (t0 : isO Y 12 l0) : AM Y 2 K_M_close [.ref l0, .int l1, .int (b2i l2)] h (M_close Y l0 l1 l2 h) rZ := by
  refine AM.of rfl (Nat.le_of_ble_eq_true rfl) ?_
  show AW Y 2 K_M_close 0 [(0, .ref l0), (1, .int l1), (2, .int (b2i l2))] [] h (M_close Y l0 l1 l2 h) rZ
  unfold M_close
  refine aw_aload_n (pc := 0) d_M_close_0 rfl 0 rfl ?_
  refine aw_iconst (pc := 1) (x := 0) d_M_close_1 (by decide) ?_
  refine pt_1201 (pc := 2) d_M_close_2 w7_28 t0 ?_
  refine aw_letH (fun h1 => ?_)
  refine aw_aload_n (pc := 5) d_M_close_5 rfl 0 rfl ?_
  refine aw_iconst (pc := 6) (x := 0) d_M_close_6 (by decide) ?_
  refine pt_1200 (pc := 7) d_M_close_7 w7_27 t0 ?_
  refine aw_letH (fun h2 => ?_)
  refine aw_aload_n (pc := 10) d_M_close_10 rfl 0 rfl ?_
  refine aw_iload_n (pc := 11) d_M_close_11 rfl 1 rfl ?_
  refine aw_cVpZ (pc := 12) (ci := 12) (T := TX12) (N := 44) (As := [.int l1]) (st := []) (ok_M_isStateAt Y l0 l1 h2 t0) okV_M_isStateAt rfl (by decide) t0 w9_24 d_M_close_12 rfl (Nat.le_of_ble_eq_true rfl) rfl (Nat.le_of_ble_eq_true rfl) (fun q3 hq3 hTq3 => ?_)
  refine aw_bne (pc := 15) (tgt := 24) d_M_close_15 (by decide) (fun c4 => ?_) (fun c4 => ?_)
  · refine aw_aload_n (pc := 24) d_M_close_24 rfl 0 rfl ?_
    refine gt_1220 (pc := 25) d_M_close_25 w7_47 t0 (fun tt5 => ?_)
    refine aw_bipush (pc := 28) (x := 8) d_M_close_28 (by decide) ?_
    refine aw_iaload (pc := 30) d_M_close_30 tt5 (fun c6 => ?_)
    refine aw_iload_n (pc := 31) d_M_close_31 rfl 1 rfl ?_
    refine aw_cSpZ (pc := 32) (As := [.int (hAi h2 (hGr h2 1220 l0) (Int32.toNatClampNeg 8)), .int l1]) (st := []) (ok_M_has Y (hAi h2 (hGr h2 1220 l0) (Int32.toNatClampNeg 8)) l1 h2) okS_M_has w9_110 d_M_close_32 rfl (Nat.le_of_ble_eq_true rfl) rfl (Nat.le_of_ble_eq_true rfl) (fun q7 hq7 hTq7 => ?_)
    refine aw_iload_n (pc := 35) d_M_close_35 rfl 2 rfl ?_
    refine aw_icmp_ne (pc := 36) (tgt := 46) d_M_close_36 (by decide) (fun c8 => ?_) (fun c8 => ?_)
    · refine aw_aload_n (pc := 39) d_M_close_39 rfl 0 rfl ?_
      refine aw_bipush (pc := 40) (x := 9) d_M_close_40 (by decide) ?_
      refine aw_cVrZ (pc := 42) (ci := 12) (T := TX12) (N := 44) (As := [.int 9]) (st := []) (ok_M_no Y l0 9 h2 t0) okV_M_no rfl (by decide) t0 w7_176 d_M_close_42 rfl (Nat.le_of_ble_eq_true rfl) rfl (Nat.le_of_ble_eq_true rfl) (fun q9 hq9 hTq9 => ?_)
      exact aw_zreturn (pc := 45) (b := q9.1) d_M_close_45 rfl rfl
    · refine aw_aload_n (pc := 46) d_M_close_46 rfl 0 rfl ?_
      refine gt_1220 (pc := 47) d_M_close_47 w7_47 t0 (fun tt10 => ?_)
      refine aw_bipush (pc := 50) (x := 8) d_M_close_50 (by decide) ?_
      refine aw_dup2_11 (pc := 52) d_M_close_52 rfl rfl ?_
      refine aw_iaload (pc := 53) d_M_close_53 tt10 (fun c11 => ?_)
      refine aw_iconst (pc := 54) (x := 1) d_M_close_54 (by decide) ?_
      refine aw_iload_n (pc := 55) d_M_close_55 rfl 1 rfl ?_
      refine aw_ishl (pc := 56) d_M_close_56 ?_
      refine aw_ixor (pc := 57) d_M_close_57 ?_
      refine aw_iastore (pc := 58) d_M_close_58 tt10 (fun c12 => ?_)
      refine aw_letH (fun h13 => ?_)
      refine aw_iconst (pc := 59) (x := 1) d_M_close_59 (by decide) ?_
      exact aw_zreturn (pc := 60) (b := true) d_M_close_60 rfl rfl
  · refine aw_aload_n (pc := 18) d_M_close_18 rfl 0 rfl ?_
    refine aw_iconst (pc := 19) (x := 2) d_M_close_19 (by decide) ?_
    refine aw_cVrZ (pc := 20) (ci := 12) (T := TX12) (N := 44) (As := [.int 2]) (st := []) (ok_M_no Y l0 2 h2 t0) okV_M_no rfl (by decide) t0 w7_176 d_M_close_20 rfl (Nat.le_of_ble_eq_true rfl) rfl (Nat.le_of_ble_eq_true rfl) (fun q14 hq14 hTq14 => ?_)
    exact aw_zreturn (pc := 23) (b := q14.1) d_M_close_23 rfl rfl
/-! LastPagesModel.isTray(I)Z -/
theorem d_M_isTray_0 : decode prog_14_method_18_code 0 = .ok (.iload_n 1, 1) := by decide +kernel
theorem d_M_isTray_1 : decode prog_14_method_18_code 1 = .ok (.i2l, 1) := by decide +kernel
theorem d_M_isTray_2 : decode prog_14_method_18_code 2 = .ok (.lconst 0, 1) := by decide +kernel
theorem d_M_isTray_3 : decode prog_14_method_18_code 3 = .ok (.ldc2_w 111, 3) := by decide +kernel
theorem d_M_isTray_6 : decode prog_14_method_18_code 6 = .ok (.invokestatic 113, 3) := by decide +kernel
theorem d_M_isTray_9 : decode prog_14_method_18_code 9 = .ok (.ireturn, 1) := by decide +kernel
def M_isTray (Y : Ly) (l0 : Nat) (l1 : Int32) (h : Hp) : Option Bool :=
  (M_isIn Y (Int32.toInt64 l1) 0 3 h).bind fun q1 =>
  some q1
theorem ok_M_isTray (Y : Ly) (l0 : Nat) (l1 : Int32) (h : Hp) (t0 : isO Y 12 l0) : AM Y 1 K_M_isTray [.ref l0, .int l1] h (M_isTray Y l0 l1 h) (pZ h) := by
  refine AM.of rfl (Nat.le_of_ble_eq_true rfl) ?_
  show AW Y 1 K_M_isTray 0 [(0, .ref l0), (1, .int l1)] [] h (M_isTray Y l0 l1 h) (pZ h)
  unfold M_isTray
  refine aw_iload_n (pc := 0) d_M_isTray_0 rfl 1 rfl ?_
  refine aw_i2l (pc := 1) d_M_isTray_1 ?_
  refine aw_lconst (pc := 2) (x := 0) d_M_isTray_2 (by decide) ?_
  refine aw_ldc2 (pc := 3) d_M_isTray_3 w9_69 ?_
  refine aw_cSpZ (pc := 6) (As := [.long (Int32.toInt64 l1), .long 0, .long 3]) (st := []) (ok_M_isIn Y (Int32.toInt64 l1) 0 3 h) okS_M_isIn w8_155 d_M_isTray_6 rfl (Nat.le_of_ble_eq_true rfl) rfl (Nat.le_of_ble_eq_true rfl) (fun q1 hq1 hTq1 => ?_)
  exact aw_zreturn (pc := 9) (b := q1) d_M_isTray_9 rfl rfl
/-! LastPagesModel.copyFinale(II)I -/
theorem d_M_copyFinale_0 : decode prog_14_method_107_code 0 = .ok (.aload_n 0, 1) := by decide +kernel
theorem d_M_copyFinale_1 : decode prog_14_method_107_code 1 = .ok (.iconst 0, 1) := by decide +kernel
theorem d_M_copyFinale_2 : decode prog_14_method_107_code 2 = .ok (.putfield 78, 3) := by decide +kernel
theorem d_M_copyFinale_5 : decode prog_14_method_107_code 5 = .ok (.aload_n 0, 1) := by decide +kernel
theorem d_M_copyFinale_6 : decode prog_14_method_107_code 6 = .ok (.iconst 0, 1) := by decide +kernel
theorem d_M_copyFinale_7 : decode prog_14_method_107_code 7 = .ok (.putfield 81, 3) := by decide +kernel
theorem d_M_copyFinale_10 : decode prog_14_method_107_code 10 = .ok (.aload_n 0, 1) := by decide +kernel
theorem d_M_copyFinale_11 : decode prog_14_method_107_code 11 = .ok (.iload_n 2, 1) := by decide +kernel
theorem d_M_copyFinale_12 : decode prog_14_method_107_code 12 = .ok (.invokevirtual 396, 3) := by decide +kernel
theorem d_M_copyFinale_15 : decode prog_14_method_107_code 15 = .ok (.ifCond .ne 9, 3) := by decide +kernel
theorem d_M_copyFinale_18 : decode prog_14_method_107_code 18 = .ok (.aload_n 0, 1) := by decide +kernel
theorem d_M_copyFinale_19 : decode prog_14_method_107_code 19 = .ok (.iconst 1, 1) := by decide +kernel
theorem d_M_copyFinale_20 : decode prog_14_method_107_code 20 = .ok (.invokevirtual 367, 3) := by decide +kernel
theorem d_M_copyFinale_23 : decode prog_14_method_107_code 23 = .ok (.ireturn, 1) := by decide +kernel
theorem d_M_copyFinale_24 : decode prog_14_method_107_code 24 = .ok (.aload_n 0, 1) := by decide +kernel
theorem d_M_copyFinale_25 : decode prog_14_method_107_code 25 = .ok (.iload_n 1, 1) := by decide +kernel
theorem d_M_copyFinale_26 : decode prog_14_method_107_code 26 = .ok (.invokevirtual 393, 3) := by decide +kernel
theorem d_M_copyFinale_29 : decode prog_14_method_107_code 29 = .ok (.ifCond .ne 9, 3) := by decide +kernel
theorem d_M_copyFinale_32 : decode prog_14_method_107_code 32 = .ok (.aload_n 0, 1) := by decide +kernel
theorem d_M_copyFinale_33 : decode prog_14_method_107_code 33 = .ok (.iconst 2, 1) := by decide +kernel
theorem d_M_copyFinale_34 : decode prog_14_method_107_code 34 = .ok (.invokevirtual 367, 3) := by decide +kernel
theorem d_M_copyFinale_37 : decode prog_14_method_107_code 37 = .ok (.ireturn, 1) := by decide +kernel
theorem d_M_copyFinale_38 : decode prog_14_method_107_code 38 = .ok (.aload_n 0, 1) := by decide +kernel
theorem d_M_copyFinale_39 : decode prog_14_method_107_code 39 = .ok (.getfield 17, 3) := by decide +kernel
theorem d_M_copyFinale_42 : decode prog_14_method_107_code 42 = .ok (.iload_n 2, 1) := by decide +kernel
theorem d_M_copyFinale_43 : decode prog_14_method_107_code 43 = .ok (.iaload, 1) := by decide +kernel
theorem d_M_copyFinale_44 : decode prog_14_method_107_code 44 = .ok (.ifCond .ge 9, 3) := by decide +kernel
theorem d_M_copyFinale_47 : decode prog_14_method_107_code 47 = .ok (.aload_n 0, 1) := by decide +kernel
theorem d_M_copyFinale_48 : decode prog_14_method_107_code 48 = .ok (.iconst 3, 1) := by decide +kernel
theorem d_M_copyFinale_49 : decode prog_14_method_107_code 49 = .ok (.invokevirtual 367, 3) := by decide +kernel
theorem d_M_copyFinale_52 : decode prog_14_method_107_code 52 = .ok (.ireturn, 1) := by decide +kernel
theorem d_M_copyFinale_53 : decode prog_14_method_107_code 53 = .ok (.aload_n 0, 1) := by decide +kernel
theorem d_M_copyFinale_54 : decode prog_14_method_107_code 54 = .ok (.getfield 17, 3) := by decide +kernel
theorem d_M_copyFinale_57 : decode prog_14_method_107_code 57 = .ok (.iload_n 2, 1) := by decide +kernel
theorem d_M_copyFinale_58 : decode prog_14_method_107_code 58 = .ok (.iaload, 1) := by decide +kernel
theorem d_M_copyFinale_59 : decode prog_14_method_107_code 59 = .ok (.aload_n 0, 1) := by decide +kernel
theorem d_M_copyFinale_60 : decode prog_14_method_107_code 60 = .ok (.getfield 35, 3) := by decide +kernel
theorem d_M_copyFinale_63 : decode prog_14_method_107_code 63 = .ok (.sipush 166, 3) := by decide +kernel
theorem d_M_copyFinale_66 : decode prog_14_method_107_code 66 = .ok (.iload_n 1, 1) := by decide +kernel
theorem d_M_copyFinale_67 : decode prog_14_method_107_code 67 = .ok (.iadd, 1) := by decide +kernel
theorem d_M_copyFinale_68 : decode prog_14_method_107_code 68 = .ok (.iaload, 1) := by decide +kernel
theorem d_M_copyFinale_69 : decode prog_14_method_107_code 69 = .ok (.if_icmp .ge 9, 3) := by decide +kernel
theorem d_M_copyFinale_72 : decode prog_14_method_107_code 72 = .ok (.aload_n 0, 1) := by decide +kernel
theorem d_M_copyFinale_73 : decode prog_14_method_107_code 73 = .ok (.iconst 4, 1) := by decide +kernel
theorem d_M_copyFinale_74 : decode prog_14_method_107_code 74 = .ok (.invokevirtual 367, 3) := by decide +kernel
theorem d_M_copyFinale_77 : decode prog_14_method_107_code 77 = .ok (.ireturn, 1) := by decide +kernel
theorem d_M_copyFinale_78 : decode prog_14_method_107_code 78 = .ok (.iconst 0, 1) := by decide +kernel
theorem d_M_copyFinale_79 : decode prog_14_method_107_code 79 = .ok (.istore_n 3, 1) := by decide +kernel
theorem d_M_copyFinale_80 : decode prog_14_method_107_code 80 = .ok (.iload_n 3, 1) := by decide +kernel
theorem d_M_copyFinale_81 : decode prog_14_method_107_code 81 = .ok (.aload_n 0, 1) := by decide +kernel
theorem d_M_copyFinale_82 : decode prog_14_method_107_code 82 = .ok (.getfield 35, 3) := by decide +kernel
theorem d_M_copyFinale_85 : decode prog_14_method_107_code 85 = .ok (.sipush 166, 3) := by decide +kernel
theorem d_M_copyFinale_88 : decode prog_14_method_107_code 88 = .ok (.iload_n 1, 1) := by decide +kernel
theorem d_M_copyFinale_89 : decode prog_14_method_107_code 89 = .ok (.iadd, 1) := by decide +kernel
theorem d_M_copyFinale_90 : decode prog_14_method_107_code 90 = .ok (.iaload, 1) := by decide +kernel
theorem d_M_copyFinale_91 : decode prog_14_method_107_code 91 = .ok (.if_icmp .ge 36, 3) := by decide +kernel
theorem d_M_copyFinale_94 : decode prog_14_method_107_code 94 = .ok (.aload_n 0, 1) := by decide +kernel
theorem d_M_copyFinale_95 : decode prog_14_method_107_code 95 = .ok (.getfield 20, 3) := by decide +kernel
theorem d_M_copyFinale_98 : decode prog_14_method_107_code 98 = .ok (.bipush 60, 2) := by decide +kernel
theorem d_M_copyFinale_100 : decode prog_14_method_107_code 100 = .ok (.iload_n 2, 1) := by decide +kernel
theorem d_M_copyFinale_101 : decode prog_14_method_107_code 101 = .ok (.imul, 1) := by decide +kernel
theorem d_M_copyFinale_102 : decode prog_14_method_107_code 102 = .ok (.iload_n 3, 1) := by decide +kernel
theorem d_M_copyFinale_103 : decode prog_14_method_107_code 103 = .ok (.iadd, 1) := by decide +kernel
theorem d_M_copyFinale_104 : decode prog_14_method_107_code 104 = .ok (.aload_n 0, 1) := by decide +kernel
theorem d_M_copyFinale_105 : decode prog_14_method_107_code 105 = .ok (.getfield 35, 3) := by decide +kernel
theorem d_M_copyFinale_108 : decode prog_14_method_107_code 108 = .ok (.sipush 174, 3) := by decide +kernel
theorem d_M_copyFinale_111 : decode prog_14_method_107_code 111 = .ok (.bipush 6, 2) := by decide +kernel
theorem d_M_copyFinale_113 : decode prog_14_method_107_code 113 = .ok (.iload_n 1, 1) := by decide +kernel
theorem d_M_copyFinale_114 : decode prog_14_method_107_code 114 = .ok (.imul, 1) := by decide +kernel
theorem d_M_copyFinale_115 : decode prog_14_method_107_code 115 = .ok (.iadd, 1) := by decide +kernel
theorem d_M_copyFinale_116 : decode prog_14_method_107_code 116 = .ok (.iload_n 3, 1) := by decide +kernel
theorem d_M_copyFinale_117 : decode prog_14_method_107_code 117 = .ok (.iadd, 1) := by decide +kernel
theorem d_M_copyFinale_118 : decode prog_14_method_107_code 118 = .ok (.iaload, 1) := by decide +kernel
theorem d_M_copyFinale_119 : decode prog_14_method_107_code 119 = .ok (.i2l, 1) := by decide +kernel
theorem d_M_copyFinale_120 : decode prog_14_method_107_code 120 = .ok (.lastore, 1) := by decide +kernel
theorem d_M_copyFinale_121 : decode prog_14_method_107_code 121 = .ok (.iinc 3 1, 3) := by decide +kernel
theorem d_M_copyFinale_124 : decode prog_14_method_107_code 124 = .ok (.goto (-44), 3) := by decide +kernel
theorem d_M_copyFinale_127 : decode prog_14_method_107_code 127 = .ok (.aload_n 0, 1) := by decide +kernel
theorem d_M_copyFinale_128 : decode prog_14_method_107_code 128 = .ok (.getfield 35, 3) := by decide +kernel
theorem d_M_copyFinale_131 : decode prog_14_method_107_code 131 = .ok (.sipush 166, 3) := by decide +kernel
theorem d_M_copyFinale_134 : decode prog_14_method_107_code 134 = .ok (.iload_n 1, 1) := by decide +kernel
theorem d_M_copyFinale_135 : decode prog_14_method_107_code 135 = .ok (.iadd, 1) := by decide +kernel
theorem d_M_copyFinale_136 : decode prog_14_method_107_code 136 = .ok (.iaload, 1) := by decide +kernel
theorem d_M_copyFinale_137 : decode prog_14_method_107_code 137 = .ok (.ireturn, 1) := by decide +kernel
def M_copyFinale_L80 (Y : Ly) (l0 : Nat) (l1 : Int32) (l2 : Int32) : Nat → Int32 → Hp → Option (Int32 × Hp)
  | 0, _, _ => none
  | F + 1, l3, h =>
    if inB (166 + l1) (lnY Y (hGr h 1220 l0)) = true then
      if (hAi h (hGr h 1220 l0) (Int32.toNatClampNeg (166 + l1))) ≤ l3 then
        if inB (166 + l1) (lnY Y (hGr h 1220 l0)) = true then
          some (hAi h (hGr h 1220 l0) (Int32.toNatClampNeg (166 + l1)), h)
        else none
      else
        if inB ((174 + (6 * l1)) + l3) (lnY Y (hGr h 1220 l0)) = true then
          if inB ((60 * l2) + l3) (lnY Y (hGr h 1206 l0)) = true then
            letH (hTl h (hGr h 1206 l0) (Int32.toNatClampNeg ((60 * l2) + l3)) (Int32.toInt64 (hAi h (hGr h 1220 l0) (Int32.toNatClampNeg ((174 + (6 * l1)) + l3))))) fun h24 =>
            M_copyFinale_L80 Y l0 l1 l2 F (l3 + 1) h24
          else none
        else none
    else none
theorem M_copyFinale_L80_ok (Y : Ly) (l0 : Nat) (l1 : Int32) (l2 : Int32) (tl0 : isO Y 12 l0) : ∀ (F : Nat) (l3 : Int32) (h : Hp), AW Y 2 K_M_copyFinale 80 [(0, .ref l0), (1, .int l1), (2, .int l2), (3, .int l3)] [] h (M_copyFinale_L80 Y l0 l1 l2 F l3 h) rI := by
  intro F
  induction F with
  | zero =>
    intro l3 h
    exact aw_none
  | succ F ih =>
    intro l3 h
    unfold M_copyFinale_L80
    refine aw_iload_n (pc := 80) d_M_copyFinale_80 rfl 3 rfl ?_
    refine aw_aload_n (pc := 81) d_M_copyFinale_81 rfl 0 rfl ?_
    refine gt_1220 (pc := 82) d_M_copyFinale_82 w7_47 tl0 (fun tt15 => ?_)
    refine aw_sipush (pc := 85) (x := 166) d_M_copyFinale_85 (by decide) ?_
    refine aw_iload_n (pc := 88) d_M_copyFinale_88 rfl 1 rfl ?_
    refine aw_iadd (pc := 89) d_M_copyFinale_89 ?_
    refine aw_iaload (pc := 90) d_M_copyFinale_90 tt15 (fun c16 => ?_)
    refine aw_icmp_ge (pc := 91) (tgt := 127) d_M_copyFinale_91 (by decide) (fun c17 => ?_) (fun c17 => ?_)
    · refine aw_aload_n (pc := 127) d_M_copyFinale_127 rfl 0 rfl ?_
      refine gt_1220 (pc := 128) d_M_copyFinale_128 w7_47 tl0 (fun tt18 => ?_)
      refine aw_sipush (pc := 131) (x := 166) d_M_copyFinale_131 (by decide) ?_
      refine aw_iload_n (pc := 134) d_M_copyFinale_134 rfl 1 rfl ?_
      refine aw_iadd (pc := 135) d_M_copyFinale_135 ?_
      refine aw_iaload (pc := 136) d_M_copyFinale_136 tt18 (fun c19 => ?_)
      exact aw_ireturn (pc := 137) d_M_copyFinale_137 rfl rfl
    · refine aw_aload_n (pc := 94) d_M_copyFinale_94 rfl 0 rfl ?_
      refine gt_1206 (pc := 95) d_M_copyFinale_95 w7_33 tl0 (fun tt20 => ?_)
      refine aw_bipush (pc := 98) (x := 60) d_M_copyFinale_98 (by decide) ?_
      refine aw_iload_n (pc := 100) d_M_copyFinale_100 rfl 2 rfl ?_
      refine aw_imul (pc := 101) d_M_copyFinale_101 ?_
      refine aw_iload_n (pc := 102) d_M_copyFinale_102 rfl 3 rfl ?_
      refine aw_iadd (pc := 103) d_M_copyFinale_103 ?_
      refine aw_aload_n (pc := 104) d_M_copyFinale_104 rfl 0 rfl ?_
      refine gt_1220 (pc := 105) d_M_copyFinale_105 w7_47 tl0 (fun tt21 => ?_)
      refine aw_sipush (pc := 108) (x := 174) d_M_copyFinale_108 (by decide) ?_
      refine aw_bipush (pc := 111) (x := 6) d_M_copyFinale_111 (by decide) ?_
      refine aw_iload_n (pc := 113) d_M_copyFinale_113 rfl 1 rfl ?_
      refine aw_imul (pc := 114) d_M_copyFinale_114 ?_
      refine aw_iadd (pc := 115) d_M_copyFinale_115 ?_
      refine aw_iload_n (pc := 116) d_M_copyFinale_116 rfl 3 rfl ?_
      refine aw_iadd (pc := 117) d_M_copyFinale_117 ?_
      refine aw_iaload (pc := 118) d_M_copyFinale_118 tt21 (fun c22 => ?_)
      refine aw_i2l (pc := 119) d_M_copyFinale_119 ?_
      refine aw_lastore (pc := 120) d_M_copyFinale_120 tt20 (fun c23 => ?_)
      refine aw_letH (fun h24 => ?_)
      refine aw_iinc (pc := 121) (w := l3 + 1) (lv' := [(3, .int (l3 + 1)), (0, .ref l0), (1, .int l1), (2, .int l2)]) d_M_copyFinale_121 3 rfl rfl (by decide) rfl ?_
      refine aw_goto (pc := 124) (tgt := 80) d_M_copyFinale_124 (by decide) ?_
      exact aw_lv [1, 2, 3, 0] rfl (ih (l3 + 1) h24)
def M_copyFinale (Y : Ly) (l0 : Nat) (l1 : Int32) (l2 : Int32) (h : Hp) : Option (Int32 × Hp) :=
  letH (hSi h 1201 l0 0) fun h1 =>
  letH (hSi h1 1200 l0 0) fun h2 =>
  (M_isTray Y l0 l2 h2).bind fun q3 =>
  if q3 = true then
    (M_isFinaleAt Y l0 l1 h2).bind fun q5 =>
    if q5 = true then
      if inB l2 (lnY Y (hGr h2 1205 l0)) = true then
        if 0 ≤ (hAi h2 (hGr h2 1205 l0) (Int32.toNatClampNeg l2)) then
          if inB l2 (lnY Y (hGr h2 1205 l0)) = true then
            if inB (166 + l1) (lnY Y (hGr h2 1220 l0)) = true then
              if (hAi h2 (hGr h2 1220 l0) (Int32.toNatClampNeg (166 + l1))) ≤ (hAi h2 (hGr h2 1205 l0) (Int32.toNatClampNeg l2)) then
                M_copyFinale_L80 Y l0 l1 l2 FU 0 h2
              else
                (M_refuse Y l0 4 h2).bind fun q25 =>
                some (q25.1, q25.2)
            else none
          else none
        else
          (M_refuse Y l0 3 h2).bind fun q26 =>
          some (q26.1, q26.2)
      else none
    else
      (M_refuse Y l0 2 h2).bind fun q27 =>
      some (q27.1, q27.2)
  else
    (M_refuse Y l0 1 h2).bind fun q28 =>
    some (q28.1, q28.2)
theorem ok_M_copyFinale (Y : Ly) (l0 : Nat) (l1 : Int32) (l2 : Int32) (h : Hp) (t0 : isO Y 12 l0) : AM Y 2 K_M_copyFinale [.ref l0, .int l1, .int l2] h (M_copyFinale Y l0 l1 l2 h) rI := by
  refine AM.of rfl (Nat.le_of_ble_eq_true rfl) ?_
  show AW Y 2 K_M_copyFinale 0 [(0, .ref l0), (1, .int l1), (2, .int l2)] [] h (M_copyFinale Y l0 l1 l2 h) rI
  unfold M_copyFinale
  refine aw_aload_n (pc := 0) d_M_copyFinale_0 rfl 0 rfl ?_
  refine aw_iconst (pc := 1) (x := 0) d_M_copyFinale_1 (by decide) ?_
  refine pt_1201 (pc := 2) d_M_copyFinale_2 w7_28 t0 ?_
  refine aw_letH (fun h1 => ?_)
  refine aw_aload_n (pc := 5) d_M_copyFinale_5 rfl 0 rfl ?_
  refine aw_iconst (pc := 6) (x := 0) d_M_copyFinale_6 (by decide) ?_
  refine pt_1200 (pc := 7) d_M_copyFinale_7 w7_27 t0 ?_
  refine aw_letH (fun h2 => ?_)
  refine aw_aload_n (pc := 10) d_M_copyFinale_10 rfl 0 rfl ?_
  refine aw_iload_n (pc := 11) d_M_copyFinale_11 rfl 2 rfl ?_
  refine aw_cVpZ (pc := 12) (ci := 12) (T := TX12) (N := 44) (As := [.int l2]) (st := []) (ok_M_isTray Y l0 l2 h2 t0) okV_M_isTray rfl (by decide) t0 w9_82 d_M_copyFinale_12 rfl (Nat.le_of_ble_eq_true rfl) rfl (Nat.le_of_ble_eq_true rfl) (fun q3 hq3 hTq3 => ?_)
  refine aw_bne (pc := 15) (tgt := 24) d_M_copyFinale_15 (by decide) (fun c4 => ?_) (fun c4 => ?_)
  · refine aw_aload_n (pc := 24) d_M_copyFinale_24 rfl 0 rfl ?_
    refine aw_iload_n (pc := 25) d_M_copyFinale_25 rfl 1 rfl ?_
    refine aw_cVpZ (pc := 26) (ci := 12) (T := TX12) (N := 44) (As := [.int l1]) (st := []) (ok_M_isFinaleAt Y l0 l1 h2 t0) okV_M_isFinaleAt rfl (by decide) t0 w9_61 d_M_copyFinale_26 rfl (Nat.le_of_ble_eq_true rfl) rfl (Nat.le_of_ble_eq_true rfl) (fun q5 hq5 hTq5 => ?_)
    refine aw_bne (pc := 29) (tgt := 38) d_M_copyFinale_29 (by decide) (fun c6 => ?_) (fun c6 => ?_)
    · refine aw_aload_n (pc := 38) d_M_copyFinale_38 rfl 0 rfl ?_
      refine gt_1205 (pc := 39) d_M_copyFinale_39 w7_32 t0 (fun tt7 => ?_)
      refine aw_iload_n (pc := 42) d_M_copyFinale_42 rfl 2 rfl ?_
      refine aw_iaload (pc := 43) d_M_copyFinale_43 tt7 (fun c8 => ?_)
      refine aw_if_ge (pc := 44) (tgt := 53) d_M_copyFinale_44 (by decide) (fun c9 => ?_) (fun c9 => ?_)
      · refine aw_aload_n (pc := 53) d_M_copyFinale_53 rfl 0 rfl ?_
        refine gt_1205 (pc := 54) d_M_copyFinale_54 w7_32 t0 (fun tt10 => ?_)
        refine aw_iload_n (pc := 57) d_M_copyFinale_57 rfl 2 rfl ?_
        refine aw_iaload (pc := 58) d_M_copyFinale_58 tt10 (fun c11 => ?_)
        refine aw_aload_n (pc := 59) d_M_copyFinale_59 rfl 0 rfl ?_
        refine gt_1220 (pc := 60) d_M_copyFinale_60 w7_47 t0 (fun tt12 => ?_)
        refine aw_sipush (pc := 63) (x := 166) d_M_copyFinale_63 (by decide) ?_
        refine aw_iload_n (pc := 66) d_M_copyFinale_66 rfl 1 rfl ?_
        refine aw_iadd (pc := 67) d_M_copyFinale_67 ?_
        refine aw_iaload (pc := 68) d_M_copyFinale_68 tt12 (fun c13 => ?_)
        refine aw_icmp_ge (pc := 69) (tgt := 78) d_M_copyFinale_69 (by decide) (fun c14 => ?_) (fun c14 => ?_)
        · refine aw_iconst (pc := 78) (x := 0) d_M_copyFinale_78 (by decide) ?_
          refine aw_istore_n (pc := 79) (lv' := [(3, .int 0), (0, .ref l0), (1, .int l1), (2, .int l2)]) d_M_copyFinale_79 rfl (by decide) rfl ?_
          exact aw_lv [1, 2, 3, 0] rfl (M_copyFinale_L80_ok Y l0 l1 l2 t0 FU 0 h2)
        · refine aw_aload_n (pc := 72) d_M_copyFinale_72 rfl 0 rfl ?_
          refine aw_iconst (pc := 73) (x := 4) d_M_copyFinale_73 (by decide) ?_
          refine aw_cVrI (pc := 74) (ci := 12) (T := TX12) (N := 44) (As := [.int 4]) (st := []) (ok_M_refuse Y l0 4 h2 t0) okV_M_refuse rfl (by decide) t0 w9_8 d_M_copyFinale_74 rfl (Nat.le_of_ble_eq_true rfl) rfl (Nat.le_of_ble_eq_true rfl) (fun q25 hq25 hTq25 => ?_)
          exact aw_ireturn (pc := 77) d_M_copyFinale_77 rfl rfl
      · refine aw_aload_n (pc := 47) d_M_copyFinale_47 rfl 0 rfl ?_
        refine aw_iconst (pc := 48) (x := 3) d_M_copyFinale_48 (by decide) ?_
        refine aw_cVrI (pc := 49) (ci := 12) (T := TX12) (N := 44) (As := [.int 3]) (st := []) (ok_M_refuse Y l0 3 h2 t0) okV_M_refuse rfl (by decide) t0 w9_8 d_M_copyFinale_49 rfl (Nat.le_of_ble_eq_true rfl) rfl (Nat.le_of_ble_eq_true rfl) (fun q26 hq26 hTq26 => ?_)
        exact aw_ireturn (pc := 52) d_M_copyFinale_52 rfl rfl
    · refine aw_aload_n (pc := 32) d_M_copyFinale_32 rfl 0 rfl ?_
      refine aw_iconst (pc := 33) (x := 2) d_M_copyFinale_33 (by decide) ?_
      refine aw_cVrI (pc := 34) (ci := 12) (T := TX12) (N := 44) (As := [.int 2]) (st := []) (ok_M_refuse Y l0 2 h2 t0) okV_M_refuse rfl (by decide) t0 w9_8 d_M_copyFinale_34 rfl (Nat.le_of_ble_eq_true rfl) rfl (Nat.le_of_ble_eq_true rfl) (fun q27 hq27 hTq27 => ?_)
      exact aw_ireturn (pc := 37) d_M_copyFinale_37 rfl rfl
  · refine aw_aload_n (pc := 18) d_M_copyFinale_18 rfl 0 rfl ?_
    refine aw_iconst (pc := 19) (x := 1) d_M_copyFinale_19 (by decide) ?_
    refine aw_cVrI (pc := 20) (ci := 12) (T := TX12) (N := 44) (As := [.int 1]) (st := []) (ok_M_refuse Y l0 1 h2 t0) okV_M_refuse rfl (by decide) t0 w9_8 d_M_copyFinale_20 rfl (Nat.le_of_ble_eq_true rfl) rfl (Nat.le_of_ble_eq_true rfl) (fun q28 hq28 hTq28 => ?_)
    exact aw_ireturn (pc := 23) d_M_copyFinale_23 rfl rfl
