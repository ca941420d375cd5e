/-! LastPagesModel.read(II)J -/
theorem d_M_read_0 : decode prog_14_method_15_code 0 = .ok (.aload_n 0, 1) := by decide +kernel
theorem d_M_read_1 : decode prog_14_method_15_code 1 = .ok (.iconst 0, 1) := by decide +kernel
theorem d_M_read_2 : decode prog_14_method_15_code 2 = .ok (.putfield 78, 3) := by decide +kernel
theorem d_M_read_5 : decode prog_14_method_15_code 5 = .ok (.aload_n 0, 1) := by decide +kernel
theorem d_M_read_6 : decode prog_14_method_15_code 6 = .ok (.aload_n 0, 1) := by decide +kernel
theorem d_M_read_7 : decode prog_14_method_15_code 7 = .ok (.iload_n 1, 1) := by decide +kernel
theorem d_M_read_8 : decode prog_14_method_15_code 8 = .ok (.iload_n 2, 1) := by decide +kernel
theorem d_M_read_9 : decode prog_14_method_15_code 9 = .ok (.invokevirtual 101, 3) := by decide +kernel
theorem d_M_read_12 : decode prog_14_method_15_code 12 = .ok (.putfield 81, 3) := by decide +kernel
theorem d_M_read_15 : decode prog_14_method_15_code 15 = .ok (.aload_n 0, 1) := by decide +kernel
theorem d_M_read_16 : decode prog_14_method_15_code 16 = .ok (.getfield 81, 3) := by decide +kernel
theorem d_M_read_19 : decode prog_14_method_15_code 19 = .ok (.ifCond .le 9, 3) := by decide +kernel
theorem d_M_read_22 : decode prog_14_method_15_code 22 = .ok (.ldc2_w 109, 3) := by decide +kernel
theorem d_M_read_25 : decode prog_14_method_15_code 25 = .ok (.goto 14, 3) := by decide +kernel
theorem d_M_read_28 : decode prog_14_method_15_code 28 = .ok (.aload_n 0, 1) := by decide +kernel
theorem d_M_read_29 : decode prog_14_method_15_code 29 = .ok (.getfield 20, 3) := by decide +kernel
theorem d_M_read_32 : decode prog_14_method_15_code 32 = .ok (.bipush 60, 2) := by decide +kernel
theorem d_M_read_34 : decode prog_14_method_15_code 34 = .ok (.iload_n 1, 1) := by decide +kernel
theorem d_M_read_35 : decode prog_14_method_15_code 35 = .ok (.imul, 1) := by decide +kernel
theorem d_M_read_36 : decode prog_14_method_15_code 36 = .ok (.iload_n 2, 1) := by decide +kernel
theorem d_M_read_37 : decode prog_14_method_15_code 37 = .ok (.iadd, 1) := by decide +kernel
theorem d_M_read_38 : decode prog_14_method_15_code 38 = .ok (.laload, 1) := by decide +kernel
theorem d_M_read_39 : decode prog_14_method_15_code 39 = .ok (.lreturn, 1) := by decide +kernel
def M_read (Y : Ly) (l0 : Nat) (l1 : Int32) (l2 : Int32) (h : Hp) : Option (Int64 × Hp) :=
  letH (hSi h 1201 l0 0) fun h1 =>
  (M_placed Y l0 l1 l2 h1).bind fun q2 =>
  letH (hSi h1 1200 l0 q2) fun h3 =>
  if (hGi h3 1200 l0) ≤ 0 then
    if inB ((60 * l1) + l2) (lnY Y (hGr h3 1206 l0)) = true then
      some (hAl h3 (hGr h3 1206 l0) (Int32.toNatClampNeg ((60 * l1) + l2)), h3)
    else none
  else
    some ((-1), h3)
theorem ok_M_read (Y : Ly) (l0 : Nat) (l1 : Int32) (l2 : Int32) (h : Hp) (t0 : isO Y 12 l0) : AM Y 2 K_M_read [.ref l0, .int l1, .int l2] h (M_read Y l0 l1 l2 h) rL := by
  refine AM.of rfl (Nat.le_of_ble_eq_true rfl) ?_
  show AW Y 2 K_M_read 0 [(0, .ref l0), (1, .int l1), (2, .int l2)] [] h (M_read Y l0 l1 l2 h) rL
  unfold M_read
  refine aw_aload_n (pc := 0) d_M_read_0 rfl 0 rfl ?_
  refine aw_iconst (pc := 1) (x := 0) d_M_read_1 (by decide) ?_
  refine pt_1201 (pc := 2) d_M_read_2 w7_28 t0 ?_
  refine aw_letH (fun h1 => ?_)
  refine aw_aload_n (pc := 5) d_M_read_5 rfl 0 rfl ?_
  refine aw_aload_n (pc := 6) d_M_read_6 rfl 0 rfl ?_
  refine aw_iload_n (pc := 7) d_M_read_7 rfl 1 rfl ?_
  refine aw_iload_n (pc := 8) d_M_read_8 rfl 2 rfl ?_
  refine aw_cVpI (pc := 9) (ci := 12) (T := TX12) (N := 44) (As := [.int l1, .int l2]) (st := [.ref l0]) (ok_M_placed Y l0 l1 l2 h1 t0) okV_M_placed rfl (by decide) t0 w7_184 d_M_read_9 rfl (Nat.le_of_ble_eq_true rfl) rfl (Nat.le_of_ble_eq_true rfl) (fun q2 hq2 hTq2 => ?_)
  refine pt_1200 (pc := 12) d_M_read_12 w7_27 t0 ?_
  refine aw_letH (fun h3 => ?_)
  refine aw_aload_n (pc := 15) d_M_read_15 rfl 0 rfl ?_
  refine gt_1200 (pc := 16) d_M_read_16 w7_27 t0 ?_
  refine aw_if_le (pc := 19) (tgt := 28) d_M_read_19 (by decide) (fun c4 => ?_) (fun c4 => ?_)
  · refine aw_aload_n (pc := 28) d_M_read_28 rfl 0 rfl ?_
    refine gt_1206 (pc := 29) d_M_read_29 w7_33 t0 (fun t5 => ?_)
    refine aw_bipush (pc := 32) (x := 60) d_M_read_32 (by decide) ?_
    refine aw_iload_n (pc := 34) d_M_read_34 rfl 1 rfl ?_
    refine aw_imul (pc := 35) d_M_read_35 ?_
    refine aw_iload_n (pc := 36) d_M_read_36 rfl 2 rfl ?_
    refine aw_iadd (pc := 37) d_M_read_37 ?_
    refine aw_laload (pc := 38) d_M_read_38 t5 (fun c6 => ?_)
    exact aw_lreturn (pc := 39) d_M_read_39 rfl rfl
  · refine aw_ldc2 (pc := 22) d_M_read_22 w7_199 ?_
    refine aw_goto (pc := 25) (tgt := 39) d_M_read_25 (by decide) ?_
    exact aw_lreturn (pc := 39) d_M_read_39 rfl rfl
/-! LastPagesModel.readNew(II)I -/
theorem d_M_readNew_0 : decode prog_14_method_68_code 0 = .ok (.aload_n 0, 1) := by decide +kernel
theorem d_M_readNew_1 : decode prog_14_method_68_code 1 = .ok (.getfield 35, 3) := by decide +kernel
theorem d_M_readNew_4 : decode prog_14_method_68_code 4 = .ok (.sipush 2304, 3) := by decide +kernel
theorem d_M_readNew_7 : decode prog_14_method_68_code 7 = .ok (.iload_n 1, 1) := by decide +kernel
theorem d_M_readNew_8 : decode prog_14_method_68_code 8 = .ok (.invokestatic 274, 3) := by decide +kernel
theorem d_M_readNew_11 : decode prog_14_method_68_code 11 = .ok (.iadd, 1) := by decide +kernel
theorem d_M_readNew_12 : decode prog_14_method_68_code 12 = .ok (.iaload, 1) := by decide +kernel
theorem d_M_readNew_13 : decode prog_14_method_68_code 13 = .ok (.istore_n 3, 1) := by decide +kernel
theorem d_M_readNew_14 : decode prog_14_method_68_code 14 = .ok (.iload_n 3, 1) := by decide +kernel
theorem d_M_readNew_15 : decode prog_14_method_68_code 15 = .ok (.iload_n 2, 1) := by decide +kernel
theorem d_M_readNew_16 : decode prog_14_method_68_code 16 = .ok (.if_icmp .ne 13, 3) := by decide +kernel
theorem d_M_readNew_19 : decode prog_14_method_68_code 19 = .ok (.aload_n 0, 1) := by decide +kernel
theorem d_M_readNew_20 : decode prog_14_method_68_code 20 = .ok (.bipush 6, 2) := by decide +kernel
theorem d_M_readNew_22 : decode prog_14_method_68_code 22 = .ok (.aload_n 0, 1) := by decide +kernel
theorem d_M_readNew_23 : decode prog_14_method_68_code 23 = .ok (.getfield 127, 3) := by decide +kernel
theorem d_M_readNew_26 : decode prog_14_method_68_code 26 = .ok (.invokevirtual 251, 3) := by decide +kernel
theorem d_M_readNew_29 : decode prog_14_method_68_code 29 = .ok (.aload_n 0, 1) := by decide +kernel
theorem d_M_readNew_30 : decode prog_14_method_68_code 30 = .ok (.getfield 245, 3) := by decide +kernel
theorem d_M_readNew_33 : decode prog_14_method_68_code 33 = .ok (.ifCond .le 5, 3) := by decide +kernel
theorem d_M_readNew_36 : decode prog_14_method_68_code 36 = .ok (.iconst 0, 1) := by decide +kernel
theorem d_M_readNew_37 : decode prog_14_method_68_code 37 = .ok (.ireturn, 1) := by decide +kernel
theorem d_M_readNew_38 : decode prog_14_method_68_code 38 = .ok (.aload_n 0, 1) := by decide +kernel
theorem d_M_readNew_39 : decode prog_14_method_68_code 39 = .ok (.invokevirtual 255, 3) := by decide +kernel
theorem d_M_readNew_42 : decode prog_14_method_68_code 42 = .ok (.aload_n 0, 1) := by decide +kernel
theorem d_M_readNew_43 : decode prog_14_method_68_code 43 = .ok (.invokevirtual 280, 3) := by decide +kernel
theorem d_M_readNew_46 : decode prog_14_method_68_code 46 = .ok (.ifCond .ne 7, 3) := by decide +kernel
theorem d_M_readNew_49 : decode prog_14_method_68_code 49 = .ok (.aload_n 0, 1) := by decide +kernel
theorem d_M_readNew_50 : decode prog_14_method_68_code 50 = .ok (.invokevirtual 258, 3) := by decide +kernel
theorem d_M_readNew_53 : decode prog_14_method_68_code 53 = .ok (.aload_n 0, 1) := by decide +kernel
theorem d_M_readNew_54 : decode prog_14_method_68_code 54 = .ok (.getfield 245, 3) := by decide +kernel
theorem d_M_readNew_57 : decode prog_14_method_68_code 57 = .ok (.ifCond .ne 19, 3) := by decide +kernel
theorem d_M_readNew_60 : decode prog_14_method_68_code 60 = .ok (.aload_n 0, 1) := by decide +kernel
theorem d_M_readNew_61 : decode prog_14_method_68_code 61 = .ok (.invokevirtual 283, 3) := by decide +kernel
theorem d_M_readNew_64 : decode prog_14_method_68_code 64 = .ok (.ifCond .eq 12, 3) := by decide +kernel
theorem d_M_readNew_67 : decode prog_14_method_68_code 67 = .ok (.aload_n 0, 1) := by decide +kernel
theorem d_M_readNew_68 : decode prog_14_method_68_code 68 = .ok (.iconst 3, 1) := by decide +kernel
theorem d_M_readNew_69 : decode prog_14_method_68_code 69 = .ok (.aload_n 0, 1) := by decide +kernel
theorem d_M_readNew_70 : decode prog_14_method_68_code 70 = .ok (.getfield 127, 3) := by decide +kernel
theorem d_M_readNew_73 : decode prog_14_method_68_code 73 = .ok (.invokevirtual 251, 3) := by decide +kernel
theorem d_M_readNew_76 : decode prog_14_method_68_code 76 = .ok (.aload_n 0, 1) := by decide +kernel
theorem d_M_readNew_77 : decode prog_14_method_68_code 77 = .ok (.getfield 245, 3) := by decide +kernel
theorem d_M_readNew_80 : decode prog_14_method_68_code 80 = .ok (.ifCond .le 5, 3) := by decide +kernel
theorem d_M_readNew_83 : decode prog_14_method_68_code 83 = .ok (.iconst 0, 1) := by decide +kernel
theorem d_M_readNew_84 : decode prog_14_method_68_code 84 = .ok (.ireturn, 1) := by decide +kernel
theorem d_M_readNew_85 : decode prog_14_method_68_code 85 = .ok (.aload_n 0, 1) := by decide +kernel
theorem d_M_readNew_86 : decode prog_14_method_68_code 86 = .ok (.getfield 41, 3) := by decide +kernel
theorem d_M_readNew_89 : decode prog_14_method_68_code 89 = .ok (.sipush 224, 3) := by decide +kernel
theorem d_M_readNew_92 : decode prog_14_method_68_code 92 = .ok (.bipush 8, 2) := by decide +kernel
theorem d_M_readNew_94 : decode prog_14_method_68_code 94 = .ok (.iload_n 1, 1) := by decide +kernel
theorem d_M_readNew_95 : decode prog_14_method_68_code 95 = .ok (.imul, 1) := by decide +kernel
theorem d_M_readNew_96 : decode prog_14_method_68_code 96 = .ok (.iadd, 1) := by decide +kernel
theorem d_M_readNew_97 : decode prog_14_method_68_code 97 = .ok (.iload_n 3, 1) := by decide +kernel
theorem d_M_readNew_98 : decode prog_14_method_68_code 98 = .ok (.iadd, 1) := by decide +kernel
theorem d_M_readNew_99 : decode prog_14_method_68_code 99 = .ok (.aload_n 0, 1) := by decide +kernel
theorem d_M_readNew_100 : decode prog_14_method_68_code 100 = .ok (.getfield 139, 3) := by decide +kernel
theorem d_M_readNew_103 : decode prog_14_method_68_code 103 = .ok (.lastore, 1) := by decide +kernel
theorem d_M_readNew_104 : decode prog_14_method_68_code 104 = .ok (.aload_n 0, 1) := by decide +kernel
theorem d_M_readNew_105 : decode prog_14_method_68_code 105 = .ok (.invokevirtual 255, 3) := by decide +kernel
theorem d_M_readNew_108 : decode prog_14_method_68_code 108 = .ok (.iload_n 3, 1) := by decide +kernel
theorem d_M_readNew_109 : decode prog_14_method_68_code 109 = .ok (.ireturn, 1) := by decide +kernel
def M_readNew_J76 (Y : Ly) (l0 : Nat) (l1 : Int32) (l3 : Int32) (h : Hp) : Option (Int32 × Hp) :=
  if (hGi h 1212 l0) ≤ 0 then
    if inB ((224 + (8 * l1)) + l3) (lnY Y (hGr h 1222 l0)) = true then
      letH (hTl h (hGr h 1222 l0) (Int32.toNatClampNeg ((224 + (8 * l1)) + l3)) (hGl h 1219 l0)) fun h17 =>
      (M_advance Y l0 h17).bind fun q18 =>
      some (l3, q18)
    else none
  else
    some (0, h)
theorem M_readNew_J76_ok (Y : Ly) (l0 : Nat) (l1 : Int32) (l3 : Int32) (h : Hp) (tl0 : isO Y 12 l0) : AW Y 5 K_M_readNew 76 [(0, .ref l0), (1, .int l1), (3, .int l3)] [] h (M_readNew_J76 Y l0 l1 l3 h) rI := by
  unfold M_readNew_J76
  refine aw_aload_n (pc := 76) d_M_readNew_76 rfl 0 rfl ?_
  refine gt_1212 (pc := 77) d_M_readNew_77 w7_39 tl0 ?_
  refine aw_if_le (pc := 80) (tgt := 85) d_M_readNew_80 (by decide) (fun c14 => ?_) (fun c14 => ?_)
  · refine aw_aload_n (pc := 85) d_M_readNew_85 rfl 0 rfl ?_
    refine gt_1222 (pc := 86) d_M_readNew_86 w7_49 tl0 (fun t15 => ?_)
    refine aw_sipush (pc := 89) (x := 224) d_M_readNew_89 (by decide) ?_
    refine aw_bipush (pc := 92) (x := 8) d_M_readNew_92 (by decide) ?_
    refine aw_iload_n (pc := 94) d_M_readNew_94 rfl 1 rfl ?_
    refine aw_imul (pc := 95) d_M_readNew_95 ?_
    refine aw_iadd (pc := 96) d_M_readNew_96 ?_
    refine aw_iload_n (pc := 97) d_M_readNew_97 rfl 2 rfl ?_
    refine aw_iadd (pc := 98) d_M_readNew_98 ?_
    refine aw_aload_n (pc := 99) d_M_readNew_99 rfl 0 rfl ?_
    refine gt_1219 (pc := 100) d_M_readNew_100 w7_46 tl0 ?_
    refine aw_lastore (pc := 103) d_M_readNew_103 t15 (fun c16 => ?_)
    refine aw_letH (fun h17 => ?_)
    refine aw_aload_n (pc := 104) d_M_readNew_104 rfl 0 rfl ?_
    refine aw_cVrV (pc := 105) (ci := 12) (T := TX12) (N := 44) (As := []) (st := []) (ok_M_advance Y l0 h17 tl0) okV_M_advance rfl (by decide) tl0 w7_224 d_M_readNew_105 rfl (Nat.le_of_ble_eq_true rfl) rfl (Nat.le_of_ble_eq_true rfl) (fun q18 hq18 hTq18 => ?_)
    refine aw_iload_n (pc := 108) d_M_readNew_108 rfl 2 rfl ?_
    exact aw_ireturn (pc := 109) d_M_readNew_109 rfl rfl
  · refine aw_iconst (pc := 83) (x := 0) d_M_readNew_83 (by decide) ?_
    exact aw_ireturn (pc := 84) d_M_readNew_84 rfl rfl
def M_readNew_J53 (Y : Ly) (l0 : Nat) (l1 : Int32) (l3 : Int32) (h : Hp) : Option (Int32 × Hp) :=
  if (hGi h 1212 l0) = 0 then
    (M_isTaken Y l0 h).bind fun q11 =>
    if q11 = true then
      (M_fail Y l0 3 (hGi h 1215 l0) h).bind fun q13 =>
      M_readNew_J76 Y l0 l1 l3 q13
    else
      M_readNew_J76 Y l0 l1 l3 h
  else
    M_readNew_J76 Y l0 l1 l3 h
theorem M_readNew_J53_ok (Y : Ly) (l0 : Nat) (l1 : Int32) (l3 : Int32) (h : Hp) (tl0 : isO Y 12 l0) : AW Y 5 K_M_readNew 53 [(0, .ref l0), (1, .int l1), (3, .int l3)] [] h (M_readNew_J53 Y l0 l1 l3 h) rI := by
  unfold M_readNew_J53
  refine aw_aload_n (pc := 53) d_M_readNew_53 rfl 0 rfl ?_
  refine gt_1212 (pc := 54) d_M_readNew_54 w7_39 tl0 ?_
  refine aw_if_ne (pc := 57) (tgt := 76) d_M_readNew_57 (by decide) (fun c10 => ?_) (fun c10 => ?_)
  · refine aw_aload_n (pc := 60) d_M_readNew_60 rfl 0 rfl ?_
    refine aw_cVpZ (pc := 61) (ci := 12) (T := TX12) (N := 44) (As := []) (st := []) (ok_M_isTaken Y l0 h tl0) okV_M_isTaken rfl (by decide) tl0 w8_139 d_M_readNew_61 rfl (Nat.le_of_ble_eq_true rfl) rfl (Nat.le_of_ble_eq_true rfl) (fun q11 hq11 hTq11 => ?_)
    refine aw_beq (pc := 64) (tgt := 76) d_M_readNew_64 (by decide) (fun c12 => ?_) (fun c12 => ?_)
    · refine aw_aload_n (pc := 67) d_M_readNew_67 rfl 0 rfl ?_
      refine aw_iconst (pc := 68) (x := 3) d_M_readNew_68 (by decide) ?_
      refine aw_aload_n (pc := 69) d_M_readNew_69 rfl 0 rfl ?_
      refine gt_1215 (pc := 70) d_M_readNew_70 w7_42 tl0 ?_
      refine aw_cVrV (pc := 73) (ci := 12) (T := TX12) (N := 44) (As := [.int 3, .int (hGi h 1215 l0)]) (st := []) (ok_M_fail Y l0 3 (hGi h 1215 l0) h tl0) okV_M_fail rfl (by decide) tl0 w8_30 d_M_readNew_73 rfl (Nat.le_of_ble_eq_true rfl) rfl (Nat.le_of_ble_eq_true rfl) (fun q13 hq13 hTq13 => ?_)
      exact aw_lv [0, 1, 2] rfl (M_readNew_J76_ok Y l0 l1 l3 q13 tl0)
    · exact aw_lv [0, 1, 2] rfl (M_readNew_J76_ok Y l0 l1 l3 h tl0)
  · exact aw_lv [0, 1, 2] rfl (M_readNew_J76_ok Y l0 l1 l3 h tl0)
def M_readNew_J29 (Y : Ly) (l0 : Nat) (l1 : Int32) (l3 : Int32) (h : Hp) : Option (Int32 × Hp) :=
  if (hGi h 1212 l0) ≤ 0 then
    (M_advance Y l0 h).bind fun q7 =>
    (M_isName Y l0 q7).bind fun q8 =>
    if q8 = true then
      M_readNew_J53 Y l0 l1 l3 q7
    else
      (M_amiss Y l0 q7).bind fun q19 =>
      M_readNew_J53 Y l0 l1 l3 q19
  else
    some (0, h)
theorem M_readNew_J29_ok (Y : Ly) (l0 : Nat) (l1 : Int32) (l3 : Int32) (h : Hp) (tl0 : isO Y 12 l0) : AW Y 5 K_M_readNew 29 [(0, .ref l0), (1, .int l1), (3, .int l3)] [] h (M_readNew_J29 Y l0 l1 l3 h) rI := by
  unfold M_readNew_J29
  refine aw_aload_n (pc := 29) d_M_readNew_29 rfl 0 rfl ?_
  refine gt_1212 (pc := 30) d_M_readNew_30 w7_39 tl0 ?_
  refine aw_if_le (pc := 33) (tgt := 38) d_M_readNew_33 (by decide) (fun c6 => ?_) (fun c6 => ?_)
  · refine aw_aload_n (pc := 38) d_M_readNew_38 rfl 0 rfl ?_
    refine aw_cVrV (pc := 39) (ci := 12) (T := TX12) (N := 44) (As := []) (st := []) (ok_M_advance Y l0 h tl0) okV_M_advance rfl (by decide) tl0 w7_224 d_M_readNew_39 rfl (Nat.le_of_ble_eq_true rfl) rfl (Nat.le_of_ble_eq_true rfl) (fun q7 hq7 hTq7 => ?_)
    refine aw_aload_n (pc := 42) d_M_readNew_42 rfl 0 rfl ?_
    refine aw_cVpZ (pc := 43) (ci := 12) (T := TX12) (N := 44) (As := []) (st := []) (ok_M_isName Y l0 q7 tl0) okV_M_isName rfl (by decide) tl0 w8_34 d_M_readNew_43 rfl (Nat.le_of_ble_eq_true rfl) rfl (Nat.le_of_ble_eq_true rfl) (fun q8 hq8 hTq8 => ?_)
    refine aw_bne (pc := 46) (tgt := 53) d_M_readNew_46 (by decide) (fun c9 => ?_) (fun c9 => ?_)
    · exact aw_lv [0, 1, 2] rfl (M_readNew_J53_ok Y l0 l1 l3 q7 tl0)
    · refine aw_aload_n (pc := 49) d_M_readNew_49 rfl 0 rfl ?_
      refine aw_cVrV (pc := 50) (ci := 12) (T := TX12) (N := 44) (As := []) (st := []) (ok_M_amiss Y l0 q7 tl0) okV_M_amiss rfl (by decide) tl0 w8_135 d_M_readNew_50 rfl (Nat.le_of_ble_eq_true rfl) rfl (Nat.le_of_ble_eq_true rfl) (fun q19 hq19 hTq19 => ?_)
      exact aw_lv [0, 1, 2] rfl (M_readNew_J53_ok Y l0 l1 l3 q19 tl0)
  · refine aw_iconst (pc := 36) (x := 0) d_M_readNew_36 (by decide) ?_
    exact aw_ireturn (pc := 37) d_M_readNew_37 rfl rfl
def M_readNew (Y : Ly) (l0 : Nat) (l1 : Int32) (l2 : Int32) (h : Hp) : Option (Int32 × Hp) :=
  (M_manyOf Y l1 h).bind fun q2 =>
  if inB (2304 + q2) (lnY Y (hGr h 1220 l0)) = true then
    if (hAi h (hGr h 1220 l0) (Int32.toNatClampNeg (2304 + q2))) = l2 then
      (M_fail Y l0 6 (hGi h 1215 l0) h).bind fun q5 =>
      M_readNew_J29 Y l0 l1 (hAi h (hGr h 1220 l0) (Int32.toNatClampNeg (2304 + q2))) q5
    else
      M_readNew_J29 Y l0 l1 (hAi h (hGr h 1220 l0) (Int32.toNatClampNeg (2304 + q2))) h
  else none
theorem ok_M_readNew (Y : Ly) (l0 : Nat) (l1 : Int32) (l2 : Int32) (h : Hp) (t0 : isO Y 12 l0) : AM Y 5 K_M_readNew [.ref l0, .int l1, .int l2] h (M_readNew Y l0 l1 l2 h) rI := by
  refine AM.of rfl (Nat.le_of_ble_eq_true rfl) ?_
  show AW Y 5 K_M_readNew 0 [(0, .ref l0), (1, .int l1), (2, .int l2)] [] h (M_readNew Y l0 l1 l2 h) rI
  unfold M_readNew
  refine aw_aload_n (pc := 0) d_M_readNew_0 rfl 0 rfl ?_
  refine gt_1220 (pc := 1) d_M_readNew_1 w7_47 t0 (fun t1 => ?_)
  refine aw_sipush (pc := 4) (x := 2304) d_M_readNew_4 (by decide) ?_
  refine aw_iload_n (pc := 7) d_M_readNew_7 rfl 1 rfl ?_
  refine aw_cSpI (pc := 8) (As := [.int l1]) (st := [.int 2304, .ref (hGr h 1220 l0)]) (ok_M_manyOf Y l1 h) okS_M_manyOf w8_27 d_M_readNew_8 rfl (Nat.le_of_ble_eq_true rfl) rfl (Nat.le_of_ble_eq_true rfl) (fun q2 hq2 hTq2 => ?_)
  refine aw_iadd (pc := 11) d_M_readNew_11 ?_
  refine aw_iaload (pc := 12) d_M_readNew_12 t1 (fun c3 => ?_)
  refine aw_istore_n (pc := 13) (lv' := [(3, .int (hAi h (hGr h 1220 l0) (Int32.toNatClampNeg (2304 + q2)))), (0, .ref l0), (1, .int l1), (2, .int l2)]) d_M_readNew_13 rfl (by decide) rfl ?_
  refine aw_iload_n (pc := 14) d_M_readNew_14 rfl 0 rfl ?_
  refine aw_iload_n (pc := 15) d_M_readNew_15 rfl 3 rfl ?_
  refine aw_icmp_ne (pc := 16) (tgt := 29) d_M_readNew_16 (by decide) (fun c4 => ?_) (fun c4 => ?_)
  · refine aw_aload_n (pc := 19) d_M_readNew_19 rfl 1 rfl ?_
    refine aw_bipush (pc := 20) (x := 6) d_M_readNew_20 (by decide) ?_
    refine aw_aload_n (pc := 22) d_M_readNew_22 rfl 1 rfl ?_
    refine gt_1215 (pc := 23) d_M_readNew_23 w7_42 t0 ?_
    refine aw_cVrV (pc := 26) (ci := 12) (T := TX12) (N := 44) (As := [.int 6, .int (hGi h 1215 l0)]) (st := []) (ok_M_fail Y l0 6 (hGi h 1215 l0) h t0) okV_M_fail rfl (by decide) t0 w8_30 d_M_readNew_26 rfl (Nat.le_of_ble_eq_true rfl) rfl (Nat.le_of_ble_eq_true rfl) (fun q5 hq5 hTq5 => ?_)
    exact aw_lv [1, 2, 0] rfl (M_readNew_J29_ok Y l0 l1 (hAi h (hGr h 1220 l0) (Int32.toNatClampNeg (2304 + q2))) q5 t0)
  · exact aw_lv [1, 2, 0] rfl (M_readNew_J29_ok Y l0 l1 (hAi h (hGr h 1220 l0) (Int32.toNatClampNeg (2304 + q2))) h t0)
/-! LastPagesModel.told(II)I -/
theorem d_M_told_0 : decode prog_14_method_69_code 0 = .ok (.aload_n 0, 1) := by decide +kernel
theorem d_M_told_1 : decode prog_14_method_69_code 1 = .ok (.getfield 245, 3) := by decide +kernel
theorem d_M_told_4 : decode prog_14_method_69_code 4 = .ok (.ifCond .ne 14, 3) := by decide +kernel
theorem d_M_told_7 : decode prog_14_method_69_code 7 = .ok (.aload_n 0, 1) := by decide +kernel
theorem d_M_told_8 : decode prog_14_method_69_code 8 = .ok (.invokevirtual 280, 3) := by decide +kernel
theorem d_M_told_11 : decode prog_14_method_69_code 11 = .ok (.ifCond .ne 7, 3) := by decide +kernel
theorem d_M_told_14 : decode prog_14_method_69_code 14 = .ok (.aload_n 0, 1) := by decide +kernel
theorem d_M_told_15 : decode prog_14_method_69_code 15 = .ok (.invokevirtual 258, 3) := by decide +kernel
theorem d_M_told_18 : decode prog_14_method_69_code 18 = .ok (.aload_n 0, 1) := by decide +kernel
theorem d_M_told_19 : decode prog_14_method_69_code 19 = .ok (.getfield 245, 3) := by decide +kernel
theorem d_M_told_22 : decode prog_14_method_69_code 22 = .ok (.ifCond .le 5, 3) := by decide +kernel
theorem d_M_told_25 : decode prog_14_method_69_code 25 = .ok (.iconst 0, 1) := by decide +kernel
theorem d_M_told_26 : decode prog_14_method_69_code 26 = .ok (.ireturn, 1) := by decide +kernel
theorem d_M_told_27 : decode prog_14_method_69_code 27 = .ok (.aload_n 0, 1) := by decide +kernel
theorem d_M_told_28 : decode prog_14_method_69_code 28 = .ok (.iload_n 1, 1) := by decide +kernel
theorem d_M_told_29 : decode prog_14_method_69_code 29 = .ok (.iload_n 2, 1) := by decide +kernel
theorem d_M_told_30 : decode prog_14_method_69_code 30 = .ok (.invokevirtual 277, 3) := by decide +kernel
theorem d_M_told_33 : decode prog_14_method_69_code 33 = .ok (.istore_n 3, 1) := by decide +kernel
theorem d_M_told_34 : decode prog_14_method_69_code 34 = .ok (.iload_n 3, 1) := by decide +kernel
theorem d_M_told_35 : decode prog_14_method_69_code 35 = .ok (.ifCond .ge 12, 3) := by decide +kernel
theorem d_M_told_38 : decode prog_14_method_69_code 38 = .ok (.aload_n 0, 1) := by decide +kernel
theorem d_M_told_39 : decode prog_14_method_69_code 39 = .ok (.iconst 3, 1) := by decide +kernel
theorem d_M_told_40 : decode prog_14_method_69_code 40 = .ok (.aload_n 0, 1) := by decide +kernel
theorem d_M_told_41 : decode prog_14_method_69_code 41 = .ok (.getfield 127, 3) := by decide +kernel
theorem d_M_told_44 : decode prog_14_method_69_code 44 = .ok (.invokevirtual 251, 3) := by decide +kernel
theorem d_M_told_47 : decode prog_14_method_69_code 47 = .ok (.iconst 0, 1) := by decide +kernel
theorem d_M_told_48 : decode prog_14_method_69_code 48 = .ok (.iload_n 3, 1) := by decide +kernel
theorem d_M_told_49 : decode prog_14_method_69_code 49 = .ok (.invokestatic 286, 3) := by decide +kernel
theorem d_M_told_52 : decode prog_14_method_69_code 52 = .ok (.ireturn, 1) := by decide +kernel
def M_told_J18 (Y : Ly) (l0 : Nat) (l1 : Int32) (l2 : Int32) (h : Hp) : Option (Int32 × Hp) :=
  if (hGi h 1212 l0) ≤ 0 then
    (M_named Y l0 l1 l2 h).bind fun q5 =>
    if 0 ≤ q5 then
      (J_maxI Y 0 q5 h).bind fun q7 =>
      some (q7, h)
    else
      (M_fail Y l0 3 (hGi h 1215 l0) h).bind fun q8 =>
      (J_maxI Y 0 q5 q8).bind fun q9 =>
      some (q9, q8)
  else
    some (0, h)
theorem M_told_J18_ok (Y : Ly) (l0 : Nat) (l1 : Int32) (l2 : Int32) (h : Hp) (tl0 : isO Y 12 l0) : AW Y 5 K_M_told 18 [(0, .ref l0), (1, .int l1), (2, .int l2)] [] h (M_told_J18 Y l0 l1 l2 h) rI := by
  unfold M_told_J18
  refine aw_aload_n (pc := 18) d_M_told_18 rfl 0 rfl ?_
  refine gt_1212 (pc := 19) d_M_told_19 w7_39 tl0 ?_
  refine aw_if_le (pc := 22) (tgt := 27) d_M_told_22 (by decide) (fun c4 => ?_) (fun c4 => ?_)
  · refine aw_aload_n (pc := 27) d_M_told_27 rfl 0 rfl ?_
    refine aw_iload_n (pc := 28) d_M_told_28 rfl 1 rfl ?_
    refine aw_iload_n (pc := 29) d_M_told_29 rfl 2 rfl ?_
    refine aw_cVpI (pc := 30) (ci := 12) (T := TX12) (N := 44) (As := [.int l1, .int l2]) (st := []) (ok_M_named Y l0 l1 l2 h tl0) okV_M_named rfl (by decide) tl0 w8_143 d_M_told_30 rfl (Nat.le_of_ble_eq_true rfl) rfl (Nat.le_of_ble_eq_true rfl) (fun q5 hq5 hTq5 => ?_)
    refine aw_istore_n (pc := 33) (lv' := [(3, .int q5), (0, .ref l0), (1, .int l1), (2, .int l2)]) d_M_told_33 rfl (by decide) rfl ?_
    refine aw_iload_n (pc := 34) d_M_told_34 rfl 0 rfl ?_
    refine aw_if_ge (pc := 35) (tgt := 47) d_M_told_35 (by decide) (fun c6 => ?_) (fun c6 => ?_)
    · refine aw_iconst (pc := 47) (x := 0) d_M_told_47 (by decide) ?_
      refine aw_iload_n (pc := 48) d_M_told_48 rfl 0 rfl ?_
      refine aw_cSpI (pc := 49) (As := [.int 0, .int q5]) (st := []) (ok_J_maxI Y 0 q5 h) okS_J_maxI w8_170 d_M_told_49 rfl (Nat.le_of_ble_eq_true rfl) rfl (Nat.le_of_ble_eq_true rfl) (fun q7 hq7 hTq7 => ?_)
      exact aw_ireturn (pc := 52) d_M_told_52 rfl rfl
    · refine aw_aload_n (pc := 38) d_M_told_38 rfl 1 rfl ?_
      refine aw_iconst (pc := 39) (x := 3) d_M_told_39 (by decide) ?_
      refine aw_aload_n (pc := 40) d_M_told_40 rfl 1 rfl ?_
      refine gt_1215 (pc := 41) d_M_told_41 w7_42 tl0 ?_
      refine aw_cVrV (pc := 44) (ci := 12) (T := TX12) (N := 44) (As := [.int 3, .int (hGi h 1215 l0)]) (st := []) (ok_M_fail Y l0 3 (hGi h 1215 l0) h tl0) okV_M_fail rfl (by decide) tl0 w8_30 d_M_told_44 rfl (Nat.le_of_ble_eq_true rfl) rfl (Nat.le_of_ble_eq_true rfl) (fun q8 hq8 hTq8 => ?_)
      refine aw_iconst (pc := 47) (x := 0) d_M_told_47 (by decide) ?_
      refine aw_iload_n (pc := 48) d_M_told_48 rfl 0 rfl ?_
      refine aw_cSpI (pc := 49) (As := [.int 0, .int q5]) (st := []) (ok_J_maxI Y 0 q5 q8) okS_J_maxI w8_170 d_M_told_49 rfl (Nat.le_of_ble_eq_true rfl) rfl (Nat.le_of_ble_eq_true rfl) (fun q9 hq9 hTq9 => ?_)
      exact aw_ireturn (pc := 52) d_M_told_52 rfl rfl
  · refine aw_iconst (pc := 25) (x := 0) d_M_told_25 (by decide) ?_
    exact aw_ireturn (pc := 26) d_M_told_26 rfl rfl
def M_told (Y : Ly) (l0 : Nat) (l1 : Int32) (l2 : Int32) (h : Hp) : Option (Int32 × Hp) :=
  if (hGi h 1212 l0) = 0 then
    (M_isName Y l0 h).bind fun q2 =>
    if q2 = true then
      M_told_J18 Y l0 l1 l2 h
    else
      (M_amiss Y l0 h).bind fun q10 =>
      M_told_J18 Y l0 l1 l2 q10
  else
    M_told_J18 Y l0 l1 l2 h
theorem ok_M_told (Y : Ly) (l0 : Nat) (l1 : Int32) (l2 : Int32) (h : Hp) (t0 : isO Y 12 l0) : AM Y 5 K_M_told [.ref l0, .int l1, .int l2] h (M_told Y l0 l1 l2 h) rI := by
  refine AM.of rfl (Nat.le_of_ble_eq_true rfl) ?_
  show AW Y 5 K_M_told 0 [(0, .ref l0), (1, .int l1), (2, .int l2)] [] h (M_told Y l0 l1 l2 h) rI
  unfold M_told
  refine aw_aload_n (pc := 0) d_M_told_0 rfl 0 rfl ?_
  refine gt_1212 (pc := 1) d_M_told_1 w7_39 t0 ?_
  refine aw_if_ne (pc := 4) (tgt := 18) d_M_told_4 (by decide) (fun c1 => ?_) (fun c1 => ?_)
  · refine aw_aload_n (pc := 7) d_M_told_7 rfl 0 rfl ?_
    refine aw_cVpZ (pc := 8) (ci := 12) (T := TX12) (N := 44) (As := []) (st := []) (ok_M_isName Y l0 h t0) okV_M_isName rfl (by decide) t0 w8_34 d_M_told_8 rfl (Nat.le_of_ble_eq_true rfl) rfl (Nat.le_of_ble_eq_true rfl) (fun q2 hq2 hTq2 => ?_)
    refine aw_bne (pc := 11) (tgt := 18) d_M_told_11 (by decide) (fun c3 => ?_) (fun c3 => ?_)
    · exact aw_lv [0, 1, 2] rfl (M_told_J18_ok Y l0 l1 l2 h t0)
    · refine aw_aload_n (pc := 14) d_M_told_14 rfl 0 rfl ?_
      refine aw_cVrV (pc := 15) (ci := 12) (T := TX12) (N := 44) (As := []) (st := []) (ok_M_amiss Y l0 h t0) okV_M_amiss rfl (by decide) t0 w8_135 d_M_told_15 rfl (Nat.le_of_ble_eq_true rfl) rfl (Nat.le_of_ble_eq_true rfl) (fun q10 hq10 hTq10 => ?_)
      exact aw_lv [0, 1, 2] rfl (M_told_J18_ok Y l0 l1 l2 q10 t0)
  · exact aw_lv [0, 1, 2] rfl (M_told_J18_ok Y l0 l1 l2 h t0)
/-! LastPagesModel.readTold(II)I -/
theorem d_M_readTold_0 : decode prog_14_method_70_code 0 = .ok (.aload_n 0, 1) := by decide +kernel
theorem d_M_readTold_1 : decode prog_14_method_70_code 1 = .ok (.iload_n 1, 1) := by decide +kernel
theorem d_M_readTold_2 : decode prog_14_method_70_code 2 = .ok (.iload_n 2, 1) := by decide +kernel
theorem d_M_readTold_3 : decode prog_14_method_70_code 3 = .ok (.invokevirtual 289, 3) := by decide +kernel
theorem d_M_readTold_6 : decode prog_14_method_70_code 6 = .ok (.istore_n 3, 1) := by decide +kernel
theorem d_M_readTold_7 : decode prog_14_method_70_code 7 = .ok (.aload_n 0, 1) := by decide +kernel
theorem d_M_readTold_8 : decode prog_14_method_70_code 8 = .ok (.iconst 1, 1) := by decide +kernel
theorem d_M_readTold_9 : decode prog_14_method_70_code 9 = .ok (.invokevirtual 261, 3) := by decide +kernel
theorem d_M_readTold_12 : decode prog_14_method_70_code 12 = .ok (.iload_n 3, 1) := by decide +kernel
theorem d_M_readTold_13 : decode prog_14_method_70_code 13 = .ok (.ireturn, 1) := by decide +kernel
def M_readTold (Y : Ly) (l0 : Nat) (l1 : Int32) (l2 : Int32) (h : Hp) : Option (Int32 × Hp) :=
  (M_told Y l0 l1 l2 h).bind fun q1 =>
  (M_must Y l0 true q1.2).bind fun q2 =>
  some (q1.1, q2)
theorem ok_M_readTold (Y : Ly) (l0 : Nat) (l1 : Int32) (l2 : Int32) (h : Hp) (t0 : isO Y 12 l0) : AM Y 6 K_M_readTold [.ref l0, .int l1, .int l2] h (M_readTold Y l0 l1 l2 h) rI := by
  refine AM.of rfl (Nat.le_of_ble_eq_true rfl) ?_
  show AW Y 6 K_M_readTold 0 [(0, .ref l0), (1, .int l1), (2, .int l2)] [] h (M_readTold Y l0 l1 l2 h) rI
  unfold M_readTold
  refine aw_aload_n (pc := 0) d_M_readTold_0 rfl 0 rfl ?_
  refine aw_iload_n (pc := 1) d_M_readTold_1 rfl 1 rfl ?_
  refine aw_iload_n (pc := 2) d_M_readTold_2 rfl 2 rfl ?_
  refine aw_cVrI (pc := 3) (ci := 12) (T := TX12) (N := 44) (As := [.int l1, .int l2]) (st := []) (ok_M_told Y l0 l1 l2 h t0) okV_M_told rfl (by decide) t0 w8_166 d_M_readTold_3 rfl (Nat.le_of_ble_eq_true rfl) rfl (Nat.le_of_ble_eq_true rfl) (fun q1 hq1 hTq1 => ?_)
  refine aw_istore_n (pc := 6) (lv' := [(3, .int q1.1), (0, .ref l0), (1, .int l1), (2, .int l2)]) d_M_readTold_6 rfl (by decide) rfl ?_
  refine aw_aload_n (pc := 7) d_M_readTold_7 rfl 1 rfl ?_
  refine aw_iconst (pc := 8) (x := 1) d_M_readTold_8 (by decide) ?_
  refine aw_cVrV (pc := 9) (ci := 12) (T := TX12) (N := 44) (As := [.int (b2i true)]) (st := []) (ok_M_must Y l0 true q1.2 t0) okV_M_must rfl (by decide) t0 w8_171 d_M_readTold_9 rfl (Nat.le_of_ble_eq_true rfl) rfl (Nat.le_of_ble_eq_true rfl) (fun q2 hq2 hTq2 => ?_)
  refine aw_iload_n (pc := 12) d_M_readTold_12 rfl 0 rfl ?_
  exact aw_ireturn (pc := 13) d_M_readTold_13 rfl rfl
/-! LastPagesModel.readTurns(II)I -/
theorem d_M_readTurns_0 : decode prog_14_method_71_code 0 = .ok (.iconst 0, 1) := by decide +kernel
theorem d_M_readTurns_1 : decode prog_14_method_71_code 1 = .ok (.istore_n 3, 1) := by decide +kernel
theorem d_M_readTurns_2 : decode prog_14_method_71_code 2 = .ok (.aload_n 0, 1) := by decide +kernel
theorem d_M_readTurns_3 : decode prog_14_method_71_code 3 = .ok (.getfield 245, 3) := by decide +kernel
theorem d_M_readTurns_6 : decode prog_14_method_71_code 6 = .ok (.ifCond .ne 71, 3) := by decide +kernel
theorem d_M_readTurns_9 : decode prog_14_method_71_code 9 = .ok (.aload_n 0, 1) := by decide +kernel
theorem d_M_readTurns_10 : decode prog_14_method_71_code 10 = .ok (.getfield 133, 3) := by decide +kernel
theorem d_M_readTurns_13 : decode prog_14_method_71_code 13 = .ok (.iconst 1, 1) := by decide +kernel
theorem d_M_readTurns_14 : decode prog_14_method_71_code 14 = .ok (.if_icmp .ne 63, 3) := by decide +kernel
theorem d_M_readTurns_17 : decode prog_14_method_71_code 17 = .ok (.aload_n 0, 1) := by decide +kernel
theorem d_M_readTurns_18 : decode prog_14_method_71_code 18 = .ok (.iconst 4, 1) := by decide +kernel
theorem d_M_readTurns_19 : decode prog_14_method_71_code 19 = .ok (.iconst 1, 1) := by decide +kernel
theorem d_M_readTurns_20 : decode prog_14_method_71_code 20 = .ok (.invokevirtual 289, 3) := by decide +kernel
theorem d_M_readTurns_23 : decode prog_14_method_71_code 23 = .ok (.istore 4, 2) := by decide +kernel
theorem d_M_readTurns_25 : decode prog_14_method_71_code 25 = .ok (.aload_n 0, 1) := by decide +kernel
theorem d_M_readTurns_26 : decode prog_14_method_71_code 26 = .ok (.getfield 245, 3) := by decide +kernel
theorem d_M_readTurns_29 : decode prog_14_method_71_code 29 = .ok (.ifCond .ne 18, 3) := by decide +kernel
theorem d_M_readTurns_32 : decode prog_14_method_71_code 32 = .ok (.iload_n 3, 1) := by decide +kernel
theorem d_M_readTurns_33 : decode prog_14_method_71_code 33 = .ok (.iload_n 2, 1) := by decide +kernel
theorem d_M_readTurns_34 : decode prog_14_method_71_code 34 = .ok (.if_icmp .ne 13, 3) := by decide +kernel
theorem d_M_readTurns_37 : decode prog_14_method_71_code 37 = .ok (.aload_n 0, 1) := by decide +kernel
theorem d_M_readTurns_38 : decode prog_14_method_71_code 38 = .ok (.bipush 6, 2) := by decide +kernel
theorem d_M_readTurns_40 : decode prog_14_method_71_code 40 = .ok (.aload_n 0, 1) := by decide +kernel
theorem d_M_readTurns_41 : decode prog_14_method_71_code 41 = .ok (.getfield 127, 3) := by decide +kernel
theorem d_M_readTurns_44 : decode prog_14_method_71_code 44 = .ok (.invokevirtual 251, 3) := by decide +kernel
theorem d_M_readTurns_47 : decode prog_14_method_71_code 47 = .ok (.aload_n 0, 1) := by decide +kernel
theorem d_M_readTurns_48 : decode prog_14_method_71_code 48 = .ok (.iconst 1, 1) := by decide +kernel
theorem d_M_readTurns_49 : decode prog_14_method_71_code 49 = .ok (.invokevirtual 261, 3) := by decide +kernel
theorem d_M_readTurns_52 : decode prog_14_method_71_code 52 = .ok (.aload_n 0, 1) := by decide +kernel
theorem d_M_readTurns_53 : decode prog_14_method_71_code 53 = .ok (.getfield 245, 3) := by decide +kernel
theorem d_M_readTurns_56 : decode prog_14_method_71_code 56 = .ok (.ifCond .le 5, 3) := by decide +kernel
theorem d_M_readTurns_59 : decode prog_14_method_71_code 59 = .ok (.iconst 0, 1) := by decide +kernel
theorem d_M_readTurns_60 : decode prog_14_method_71_code 60 = .ok (.ireturn, 1) := by decide +kernel
theorem d_M_readTurns_61 : decode prog_14_method_71_code 61 = .ok (.aload_n 0, 1) := by decide +kernel
theorem d_M_readTurns_62 : decode prog_14_method_71_code 62 = .ok (.getfield 35, 3) := by decide +kernel
theorem d_M_readTurns_65 : decode prog_14_method_71_code 65 = .ok (.iload_n 1, 1) := by decide +kernel
theorem d_M_readTurns_66 : decode prog_14_method_71_code 66 = .ok (.iload_n 3, 1) := by decide +kernel
theorem d_M_readTurns_67 : decode prog_14_method_71_code 67 = .ok (.iadd, 1) := by decide +kernel
theorem d_M_readTurns_68 : decode prog_14_method_71_code 68 = .ok (.iload 4, 2) := by decide +kernel
theorem d_M_readTurns_70 : decode prog_14_method_71_code 70 = .ok (.iastore, 1) := by decide +kernel
theorem d_M_readTurns_71 : decode prog_14_method_71_code 71 = .ok (.iinc 3 1, 3) := by decide +kernel
theorem d_M_readTurns_74 : decode prog_14_method_71_code 74 = .ok (.goto (-72), 3) := by decide +kernel
theorem d_M_readTurns_77 : decode prog_14_method_71_code 77 = .ok (.iload_n 3, 1) := by decide +kernel
theorem d_M_readTurns_78 : decode prog_14_method_71_code 78 = .ok (.ireturn, 1) := by decide +kernel
def M_readTurns_J47 (Y : Ly) (k2 : Int32 → Hp → Option (Int32 × Hp)) (l0 : Nat) (l1 : Int32) (l2 : Int32) (l3 : Int32) (l4 : Int32) (h : Hp) : Option (Int32 × Hp) :=
  (M_must Y l0 true h).bind fun q7 =>
  if (hGi q7 1212 l0) ≤ 0 then
    if inB (l1 + l3) (lnY Y (hGr q7 1220 l0)) = true then
      letH (hTi q7 (hGr q7 1220 l0) (Int32.toNatClampNeg (l1 + l3)) l4) fun h11 =>
      k2 (l3 + 1) h11
    else none
  else
    some (0, q7)
theorem M_readTurns_J47_ok (Y : Ly) (k2 : Int32 → Hp → Option (Int32 × Hp)) (l0 : Nat) (l1 : Int32) (l2 : Int32) (l3 : Int32) (l4 : Int32) (h : Hp) (hk2 : ∀ (l3_ : Int32) (h_ : Hp), AW Y 6 K_M_readTurns 2 [(0, .ref l0), (1, .int l1), (2, .int l2), (3, .int l3_)] [] h_ (k2 l3_ h_) rI) (tl0 : isO Y 12 l0) : AW Y 6 K_M_readTurns 47 [(0, .ref l0), (1, .int l1), (2, .int l2), (3, .int l3), (4, .int l4)] [] h (M_readTurns_J47 Y k2 l0 l1 l2 l3 l4 h) rI := by
  unfold M_readTurns_J47
  refine aw_aload_n (pc := 47) d_M_readTurns_47 rfl 0 rfl ?_
  refine aw_iconst (pc := 48) (x := 1) d_M_readTurns_48 (by decide) ?_
  refine aw_cVrV (pc := 49) (ci := 12) (T := TX12) (N := 44) (As := [.int (b2i true)]) (st := []) (ok_M_must Y l0 true h tl0) okV_M_must rfl (by decide) tl0 w8_171 d_M_readTurns_49 rfl (Nat.le_of_ble_eq_true rfl) rfl (Nat.le_of_ble_eq_true rfl) (fun q7 hq7 hTq7 => ?_)
  refine aw_aload_n (pc := 52) d_M_readTurns_52 rfl 0 rfl ?_
  refine gt_1212 (pc := 53) d_M_readTurns_53 w7_39 tl0 ?_
  refine aw_if_le (pc := 56) (tgt := 61) d_M_readTurns_56 (by decide) (fun c8 => ?_) (fun c8 => ?_)
  · refine aw_aload_n (pc := 61) d_M_readTurns_61 rfl 0 rfl ?_
    refine gt_1220 (pc := 62) d_M_readTurns_62 w7_47 tl0 (fun t9 => ?_)
    refine aw_iload_n (pc := 65) d_M_readTurns_65 rfl 1 rfl ?_
    refine aw_iload_n (pc := 66) d_M_readTurns_66 rfl 3 rfl ?_
    refine aw_iadd (pc := 67) d_M_readTurns_67 ?_
    refine aw_iload (pc := 68) d_M_readTurns_68 4 rfl ?_
    refine aw_iastore (pc := 70) d_M_readTurns_70 t9 (fun c10 => ?_)
    refine aw_letH (fun h11 => ?_)
    refine aw_iinc (pc := 71) (w := l3 + 1) (lv' := [(3, .int (l3 + 1)), (0, .ref l0), (1, .int l1), (2, .int l2), (4, .int l4)]) d_M_readTurns_71 3 rfl rfl (by decide) rfl ?_
    refine aw_goto (pc := 74) (tgt := 2) d_M_readTurns_74 (by decide) ?_
    exact aw_lv [1, 2, 3, 0] rfl (hk2 (l3 + 1) h11)
  · refine aw_iconst (pc := 59) (x := 0) d_M_readTurns_59 (by decide) ?_
    exact aw_ireturn (pc := 60) d_M_readTurns_60 rfl rfl
def M_readTurns_L2 (Y : Ly) (l0 : Nat) (l1 : Int32) (l2 : Int32) : Nat → Int32 → Hp → Option (Int32 × Hp)
  | 0, _, _ => none
  | F + 1, l3, h =>
    if (hGi h 1212 l0) = 0 then
      if (hGi h 1214 l0) = 1 then
        (M_told Y l0 4 1 h).bind fun q3 =>
        if (hGi q3.2 1212 l0) = 0 then
          if l3 = l2 then
            (M_fail Y l0 6 (hGi q3.2 1215 l0) q3.2).bind fun q6 =>
            M_readTurns_J47 Y (M_readTurns_L2 Y l0 l1 l2 F) l0 l1 l2 l3 q3.1 q6
          else
            M_readTurns_J47 Y (M_readTurns_L2 Y l0 l1 l2 F) l0 l1 l2 l3 q3.1 q3.2
        else
          M_readTurns_J47 Y (M_readTurns_L2 Y l0 l1 l2 F) l0 l1 l2 l3 q3.1 q3.2
      else
        some (l3, h)
    else
      some (l3, h)
theorem M_readTurns_L2_ok (Y : Ly) (l0 : Nat) (l1 : Int32) (l2 : Int32) (tl0 : isO Y 12 l0) : ∀ (F : Nat) (l3 : Int32) (h : Hp), AW Y 6 K_M_readTurns 2 [(0, .ref l0), (1, .int l1), (2, .int l2), (3, .int l3)] [] h (M_readTurns_L2 Y l0 l1 l2 F l3 h) rI := by
  intro F
  induction F with
  | zero =>
    intro l3 h
    exact aw_none
  | succ F ih =>
    intro l3 h
    unfold M_readTurns_L2
    refine aw_aload_n (pc := 2) d_M_readTurns_2 rfl 0 rfl ?_
    refine gt_1212 (pc := 3) d_M_readTurns_3 w7_39 tl0 ?_
    refine aw_if_ne (pc := 6) (tgt := 77) d_M_readTurns_6 (by decide) (fun c1 => ?_) (fun c1 => ?_)
    · refine aw_aload_n (pc := 9) d_M_readTurns_9 rfl 0 rfl ?_
      refine gt_1214 (pc := 10) d_M_readTurns_10 w7_41 tl0 ?_
      refine aw_iconst (pc := 13) (x := 1) d_M_readTurns_13 (by decide) ?_
      refine aw_icmp_ne (pc := 14) (tgt := 77) d_M_readTurns_14 (by decide) (fun c2 => ?_) (fun c2 => ?_)
      · refine aw_aload_n (pc := 17) d_M_readTurns_17 rfl 0 rfl ?_
        refine aw_iconst (pc := 18) (x := 4) d_M_readTurns_18 (by decide) ?_
        refine aw_iconst (pc := 19) (x := 1) d_M_readTurns_19 (by decide) ?_
        refine aw_cVrI (pc := 20) (ci := 12) (T := TX12) (N := 44) (As := [.int 4, .int 1]) (st := []) (ok_M_told Y l0 4 1 h tl0) okV_M_told rfl (by decide) tl0 w8_166 d_M_readTurns_20 rfl (Nat.le_of_ble_eq_true rfl) rfl (Nat.le_of_ble_eq_true rfl) (fun q3 hq3 hTq3 => ?_)
        refine aw_istore (pc := 23) (lv' := [(4, .int q3.1), (0, .ref l0), (1, .int l1), (2, .int l2), (3, .int l3)]) d_M_readTurns_23 (by decide) rfl ?_
        refine aw_aload_n (pc := 25) d_M_readTurns_25 rfl 1 rfl ?_
        refine gt_1212 (pc := 26) d_M_readTurns_26 w7_39 tl0 ?_
        refine aw_if_ne (pc := 29) (tgt := 47) d_M_readTurns_29 (by decide) (fun c4 => ?_) (fun c4 => ?_)
        · refine aw_iload_n (pc := 32) d_M_readTurns_32 rfl 4 rfl ?_
          refine aw_iload_n (pc := 33) d_M_readTurns_33 rfl 3 rfl ?_
          refine aw_icmp_ne (pc := 34) (tgt := 47) d_M_readTurns_34 (by decide) (fun c5 => ?_) (fun c5 => ?_)
          · refine aw_aload_n (pc := 37) d_M_readTurns_37 rfl 1 rfl ?_
            refine aw_bipush (pc := 38) (x := 6) d_M_readTurns_38 (by decide) ?_
            refine aw_aload_n (pc := 40) d_M_readTurns_40 rfl 1 rfl ?_
            refine gt_1215 (pc := 41) d_M_readTurns_41 w7_42 tl0 ?_
            refine aw_cVrV (pc := 44) (ci := 12) (T := TX12) (N := 44) (As := [.int 6, .int (hGi q3.2 1215 l0)]) (st := []) (ok_M_fail Y l0 6 (hGi q3.2 1215 l0) q3.2 tl0) okV_M_fail rfl (by decide) tl0 w8_30 d_M_readTurns_44 rfl (Nat.le_of_ble_eq_true rfl) rfl (Nat.le_of_ble_eq_true rfl) (fun q6 hq6 hTq6 => ?_)
            exact aw_lv [1, 2, 3, 4, 0] rfl (M_readTurns_J47_ok Y (M_readTurns_L2 Y l0 l1 l2 F) ih l0 l1 l2 l3 q3.1 q6 tl0)
          · exact aw_lv [1, 2, 3, 4, 0] rfl (M_readTurns_J47_ok Y (M_readTurns_L2 Y l0 l1 l2 F) ih l0 l1 l2 l3 q3.1 q3.2 tl0)
        · exact aw_lv [1, 2, 3, 4, 0] rfl (M_readTurns_J47_ok Y (M_readTurns_L2 Y l0 l1 l2 F) ih l0 l1 l2 l3 q3.1 q3.2 tl0)
      · refine aw_iload_n (pc := 77) d_M_readTurns_77 rfl 3 rfl ?_
        exact aw_ireturn (pc := 78) d_M_readTurns_78 rfl rfl
    · refine aw_iload_n (pc := 77) d_M_readTurns_77 rfl 3 rfl ?_
      exact aw_ireturn (pc := 78) d_M_readTurns_78 rfl rfl
def M_readTurns (Y : Ly) (l0 : Nat) (l1 : Int32) (l2 : Int32) (h : Hp) : Option (Int32 × Hp) :=
  M_readTurns_L2 Y l0 l1 l2 FU 0 h
theorem ok_M_readTurns (Y : Ly) (l0 : Nat) (l1 : Int32) (l2 : Int32) (h : Hp) (t0 : isO Y 12 l0) : AM Y 6 K_M_readTurns [.ref l0, .int l1, .int l2] h (M_readTurns Y l0 l1 l2 h) rI := by
  refine AM.of rfl (Nat.le_of_ble_eq_true rfl) ?_
  show AW Y 6 K_M_readTurns 0 [(0, .ref l0), (1, .int l1), (2, .int l2)] [] h (M_readTurns Y l0 l1 l2 h) rI
  unfold M_readTurns
  refine aw_iconst (pc := 0) (x := 0) d_M_readTurns_0 (by decide) ?_
  refine aw_istore_n (pc := 1) (lv' := [(3, .int 0), (0, .ref l0), (1, .int l1), (2, .int l2)]) d_M_readTurns_1 rfl (by decide) rfl ?_
  exact aw_lv [1, 2, 3, 0] rfl (M_readTurns_L2_ok Y l0 l1 l2 t0 FU 0 h)
/-! LastPagesModel.readBook()V -/
theorem d_M_readBook_0 : decode prog_14_method_77_code 0 = .ok (.aload_n 0, 1) := by decide +kernel
theorem d_M_readBook_1 : decode prog_14_method_77_code 1 = .ok (.iconst 2, 1) := by decide +kernel
theorem d_M_readBook_2 : decode prog_14_method_77_code 2 = .ok (.bipush 6, 2) := by decide +kernel
theorem d_M_readBook_4 : decode prog_14_method_77_code 4 = .ok (.invokevirtual 295, 3) := by decide +kernel
theorem d_M_readBook_7 : decode prog_14_method_77_code 7 = .ok (.istore_n 1, 1) := by decide +kernel
theorem d_M_readBook_8 : decode prog_14_method_77_code 8 = .ok (.aload_n 0, 1) := by decide +kernel
theorem d_M_readBook_9 : decode prog_14_method_77_code 9 = .ok (.aload_n 0, 1) := by decide +kernel
theorem d_M_readBook_10 : decode prog_14_method_77_code 10 = .ok (.invokevirtual 190, 3) := by decide +kernel
theorem d_M_readBook_13 : decode prog_14_method_77_code 13 = .ok (.invokevirtual 261, 3) := by decide +kernel
theorem d_M_readBook_16 : decode prog_14_method_77_code 16 = .ok (.aload_n 0, 1) := by decide +kernel
theorem d_M_readBook_17 : decode prog_14_method_77_code 17 = .ok (.getfield 35, 3) := by decide +kernel
theorem d_M_readBook_20 : decode prog_14_method_77_code 20 = .ok (.sipush 2386, 3) := by decide +kernel
theorem d_M_readBook_23 : decode prog_14_method_77_code 23 = .ok (.iload_n 1, 1) := by decide +kernel
theorem d_M_readBook_24 : decode prog_14_method_77_code 24 = .ok (.iadd, 1) := by decide +kernel
theorem d_M_readBook_25 : decode prog_14_method_77_code 25 = .ok (.aload_n 0, 1) := by decide +kernel
theorem d_M_readBook_26 : decode prog_14_method_77_code 26 = .ok (.iconst 4, 1) := by decide +kernel
theorem d_M_readBook_27 : decode prog_14_method_77_code 27 = .ok (.iconst 0, 1) := by decide +kernel
theorem d_M_readBook_28 : decode prog_14_method_77_code 28 = .ok (.invokevirtual 292, 3) := by decide +kernel
theorem d_M_readBook_31 : decode prog_14_method_77_code 31 = .ok (.iastore, 1) := by decide +kernel
theorem d_M_readBook_32 : decode prog_14_method_77_code 32 = .ok (.aload_n 0, 1) := by decide +kernel
theorem d_M_readBook_33 : decode prog_14_method_77_code 33 = .ok (.getfield 35, 3) := by decide +kernel
theorem d_M_readBook_36 : decode prog_14_method_77_code 36 = .ok (.sipush 2392, 3) := by decide +kernel
theorem d_M_readBook_39 : decode prog_14_method_77_code 39 = .ok (.iload_n 1, 1) := by decide +kernel
theorem d_M_readBook_40 : decode prog_14_method_77_code 40 = .ok (.iadd, 1) := by decide +kernel
theorem d_M_readBook_41 : decode prog_14_method_77_code 41 = .ok (.aload_n 0, 1) := by decide +kernel
theorem d_M_readBook_42 : decode prog_14_method_77_code 42 = .ok (.aload_n 0, 1) := by decide +kernel
theorem d_M_readBook_43 : decode prog_14_method_77_code 43 = .ok (.invokevirtual 193, 3) := by decide +kernel
theorem d_M_readBook_46 : decode prog_14_method_77_code 46 = .ok (.iconst 1, 1) := by decide +kernel
theorem d_M_readBook_47 : decode prog_14_method_77_code 47 = .ok (.bipush 6, 2) := by decide +kernel
theorem d_M_readBook_49 : decode prog_14_method_77_code 49 = .ok (.invokevirtual 298, 3) := by decide +kernel
theorem d_M_readBook_52 : decode prog_14_method_77_code 52 = .ok (.iastore, 1) := by decide +kernel
theorem d_M_readBook_53 : decode prog_14_method_77_code 53 = .ok (.aload_n 0, 1) := by decide +kernel
theorem d_M_readBook_54 : decode prog_14_method_77_code 54 = .ok (.getfield 35, 3) := by decide +kernel
theorem d_M_readBook_57 : decode prog_14_method_77_code 57 = .ok (.sipush 2398, 3) := by decide +kernel
theorem d_M_readBook_60 : decode prog_14_method_77_code 60 = .ok (.iload_n 1, 1) := by decide +kernel
theorem d_M_readBook_61 : decode prog_14_method_77_code 61 = .ok (.iadd, 1) := by decide +kernel
theorem d_M_readBook_62 : decode prog_14_method_77_code 62 = .ok (.aload_n 0, 1) := by decide +kernel
theorem d_M_readBook_63 : decode prog_14_method_77_code 63 = .ok (.sipush 2410, 3) := by decide +kernel
theorem d_M_readBook_66 : decode prog_14_method_77_code 66 = .ok (.bipush 10, 2) := by decide +kernel
theorem d_M_readBook_68 : decode prog_14_method_77_code 68 = .ok (.iload_n 1, 1) := by decide +kernel
theorem d_M_readBook_69 : decode prog_14_method_77_code 69 = .ok (.imul, 1) := by decide +kernel
theorem d_M_readBook_70 : decode prog_14_method_77_code 70 = .ok (.iadd, 1) := by decide +kernel
theorem d_M_readBook_71 : decode prog_14_method_77_code 71 = .ok (.bipush 10, 2) := by decide +kernel
theorem d_M_readBook_73 : decode prog_14_method_77_code 73 = .ok (.invokevirtual 302, 3) := by decide +kernel
theorem d_M_readBook_76 : decode prog_14_method_77_code 76 = .ok (.iastore, 1) := by decide +kernel
theorem d_M_readBook_77 : decode prog_14_method_77_code 77 = .ok (.aload_n 0, 1) := by decide +kernel
theorem d_M_readBook_78 : decode prog_14_method_77_code 78 = .ok (.getfield 245, 3) := by decide +kernel
theorem d_M_readBook_81 : decode prog_14_method_77_code 81 = .ok (.ifCond .ne 15, 3) := by decide +kernel
theorem d_M_readBook_84 : decode prog_14_method_77_code 84 = .ok (.aload_n 0, 1) := by decide +kernel
theorem d_M_readBook_85 : decode prog_14_method_77_code 85 = .ok (.getfield 35, 3) := by decide +kernel
theorem d_M_readBook_88 : decode prog_14_method_77_code 88 = .ok (.sipush 2306, 3) := by decide +kernel
theorem d_M_readBook_91 : decode prog_14_method_77_code 91 = .ok (.dup2, 1) := by decide +kernel
theorem d_M_readBook_92 : decode prog_14_method_77_code 92 = .ok (.iaload, 1) := by decide +kernel
theorem d_M_readBook_93 : decode prog_14_method_77_code 93 = .ok (.iconst 1, 1) := by decide +kernel
theorem d_M_readBook_94 : decode prog_14_method_77_code 94 = .ok (.iadd, 1) := by decide +kernel
theorem d_M_readBook_95 : decode prog_14_method_77_code 95 = .ok (.iastore, 1) := by decide +kernel
theorem d_M_readBook_96 : decode prog_14_method_77_code 96 = .ok (.return_, 1) := by decide +kernel
def M_readBook (Y : Ly) (l0 : Nat) (h : Hp) : Option Hp :=
  (M_readNew Y l0 2 6 h).bind fun q1 =>
  (M_isFrom Y l0 q1.2).bind fun q2 =>
  (M_must Y l0 q2 q1.2).bind fun q3 =>
  (M_readTold Y l0 4 0 q3).bind fun q5 =>
  if inB (2386 + q1.1) (lnY Y (hGr q3 1220 l0)) = true then
    letH (hTi q5.2 (hGr q3 1220 l0) (Int32.toNatClampNeg (2386 + q1.1)) q5.1) fun h7 =>
    (M_isMisses Y l0 h7).bind fun q9 =>
    (M_behindWord Y l0 q9 1 6 h7).bind fun q10 =>
    if inB (2392 + q1.1) (lnY Y (hGr h7 1220 l0)) = true then
      letH (hTi q10.2 (hGr h7 1220 l0) (Int32.toNatClampNeg (2392 + q1.1)) q10.1) fun h12 =>
      (M_readTurns Y l0 (2410 + (10 * q1.1)) 10 h12).bind fun q14 =>
      if inB (2398 + q1.1) (lnY Y (hGr h12 1220 l0)) = true then
        letH (hTi q14.2 (hGr h12 1220 l0) (Int32.toNatClampNeg (2398 + q1.1)) q14.1) fun h16 =>
        if (hGi h16 1212 l0) = 0 then
          if inB 2306 (lnY Y (hGr h16 1220 l0)) = true then
            if inB 2306 (lnY Y (hGr h16 1220 l0)) = true then
              letH (hTi h16 (hGr h16 1220 l0) (Int32.toNatClampNeg 2306) ((hAi h16 (hGr h16 1220 l0) (Int32.toNatClampNeg 2306)) + 1)) fun h21 =>
              some h21
            else none
          else none
        else
          some h16
      else none
    else none
  else none
theorem ok_M_readBook (Y : Ly) (l0 : Nat) (h : Hp) (t0 : isO Y 12 l0) : AM Y 7 K_M_readBook [.ref l0] h (M_readBook Y l0 h) rV := by
  refine AM.of rfl (Nat.le_of_ble_eq_true rfl) ?_
  show AW Y 7 K_M_readBook 0 [(0, .ref l0)] [] h (M_readBook Y l0 h) rV
  unfold M_readBook
  refine aw_aload_n (pc := 0) d_M_readBook_0 rfl 0 rfl ?_
  refine aw_iconst (pc := 1) (x := 2) d_M_readBook_1 (by decide) ?_
  refine aw_bipush (pc := 2) (x := 6) d_M_readBook_2 (by decide) ?_
  refine aw_cVrI (pc := 4) (ci := 12) (T := TX12) (N := 44) (As := [.int 2, .int 6]) (st := []) (ok_M_readNew Y l0 2 6 h t0) okV_M_readNew rfl (by decide) t0 w8_23 d_M_readBook_4 rfl (Nat.le_of_ble_eq_true rfl) rfl (Nat.le_of_ble_eq_true rfl) (fun q1 hq1 hTq1 => ?_)
  refine aw_istore_n (pc := 7) (lv' := [(1, .int q1.1), (0, .ref l0)]) d_M_readBook_7 rfl (by decide) rfl ?_
  refine aw_aload_n (pc := 8) d_M_readBook_8 rfl 1 rfl ?_
  refine aw_aload_n (pc := 9) d_M_readBook_9 rfl 1 rfl ?_
  refine aw_cVpZ (pc := 10) (ci := 12) (T := TX12) (N := 44) (As := []) (st := [.ref l0]) (ok_M_isFrom Y l0 q1.2 t0) okV_M_isFrom rfl (by decide) t0 w8_62 d_M_readBook_10 rfl (Nat.le_of_ble_eq_true rfl) rfl (Nat.le_of_ble_eq_true rfl) (fun q2 hq2 hTq2 => ?_)
  refine aw_cVrV (pc := 13) (ci := 12) (T := TX12) (N := 44) (As := [.int (b2i q2)]) (st := []) (ok_M_must Y l0 q2 q1.2 t0) okV_M_must rfl (by decide) t0 w8_171 d_M_readBook_13 rfl (Nat.le_of_ble_eq_true rfl) rfl (Nat.le_of_ble_eq_true rfl) (fun q3 hq3 hTq3 => ?_)
  refine aw_aload_n (pc := 16) d_M_readBook_16 rfl 1 rfl ?_
  refine gt_1220 (pc := 17) d_M_readBook_17 w7_47 t0 (fun t4 => ?_)
  refine aw_sipush (pc := 20) (x := 2386) d_M_readBook_20 (by decide) ?_
  refine aw_iload_n (pc := 23) d_M_readBook_23 rfl 0 rfl ?_
  refine aw_iadd (pc := 24) d_M_readBook_24 ?_
  refine aw_aload_n (pc := 25) d_M_readBook_25 rfl 1 rfl ?_
  refine aw_iconst (pc := 26) (x := 4) d_M_readBook_26 (by decide) ?_
  refine aw_iconst (pc := 27) (x := 0) d_M_readBook_27 (by decide) ?_
  refine aw_cVrI (pc := 28) (ci := 12) (T := TX12) (N := 44) (As := [.int 4, .int 0]) (st := [.int (2386 + q1.1), .ref (hGr q3 1220 l0)]) (ok_M_readTold Y l0 4 0 q3 t0) okV_M_readTold rfl (by decide) t0 w8_162 d_M_readBook_28 rfl (Nat.le_of_ble_eq_true rfl) rfl (Nat.le_of_ble_eq_true rfl) (fun q5 hq5 hTq5 => ?_)
  refine aw_iastore (pc := 31) d_M_readBook_31 t4 (fun c6 => ?_)
  refine aw_letH (fun h7 => ?_)
  refine aw_aload_n (pc := 32) d_M_readBook_32 rfl 1 rfl ?_
  refine gt_1220 (pc := 33) d_M_readBook_33 w7_47 t0 (fun t8 => ?_)
  refine aw_sipush (pc := 36) (x := 2392) d_M_readBook_36 (by decide) ?_
  refine aw_iload_n (pc := 39) d_M_readBook_39 rfl 0 rfl ?_
  refine aw_iadd (pc := 40) d_M_readBook_40 ?_
  refine aw_aload_n (pc := 41) d_M_readBook_41 rfl 1 rfl ?_
  refine aw_aload_n (pc := 42) d_M_readBook_42 rfl 1 rfl ?_
  refine aw_cVpZ (pc := 43) (ci := 12) (T := TX12) (N := 44) (As := []) (st := [.ref l0, .int (2392 + q1.1), .ref (hGr h7 1220 l0)]) (ok_M_isMisses Y l0 h7 t0) okV_M_isMisses rfl (by decide) t0 w8_66 d_M_readBook_43 rfl (Nat.le_of_ble_eq_true rfl) rfl (Nat.le_of_ble_eq_true rfl) (fun q9 hq9 hTq9 => ?_)
  refine aw_iconst (pc := 46) (x := 1) d_M_readBook_46 (by decide) ?_
  refine aw_bipush (pc := 47) (x := 6) d_M_readBook_47 (by decide) ?_
  refine aw_cVrI (pc := 49) (ci := 12) (T := TX12) (N := 44) (As := [.int (b2i q9), .int 1, .int 6]) (st := [.int (2392 + q1.1), .ref (hGr h7 1220 l0)]) (ok_M_behindWord Y l0 q9 1 6 h7 t0) okV_M_behindWord rfl (by decide) t0 w8_179 d_M_readBook_49 rfl (Nat.le_of_ble_eq_true rfl) rfl (Nat.le_of_ble_eq_true rfl) (fun q10 hq10 hTq10 => ?_)
  refine aw_iastore (pc := 52) d_M_readBook_52 t8 (fun c11 => ?_)
  refine aw_letH (fun h12 => ?_)
  refine aw_aload_n (pc := 53) d_M_readBook_53 rfl 1 rfl ?_
  refine gt_1220 (pc := 54) d_M_readBook_54 w7_47 t0 (fun t13 => ?_)
  refine aw_sipush (pc := 57) (x := 2398) d_M_readBook_57 (by decide) ?_
  refine aw_iload_n (pc := 60) d_M_readBook_60 rfl 0 rfl ?_
  refine aw_iadd (pc := 61) d_M_readBook_61 ?_
  refine aw_aload_n (pc := 62) d_M_readBook_62 rfl 1 rfl ?_
  refine aw_sipush (pc := 63) (x := 2410) d_M_readBook_63 (by decide) ?_
  refine aw_bipush (pc := 66) (x := 10) d_M_readBook_66 (by decide) ?_
  refine aw_iload_n (pc := 68) d_M_readBook_68 rfl 0 rfl ?_
  refine aw_imul (pc := 69) d_M_readBook_69 ?_
  refine aw_iadd (pc := 70) d_M_readBook_70 ?_
  refine aw_bipush (pc := 71) (x := 10) d_M_readBook_71 (by decide) ?_
  refine aw_cVrI (pc := 73) (ci := 12) (T := TX12) (N := 44) (As := [.int (2410 + (10 * q1.1)), .int 10]) (st := [.int (2398 + q1.1), .ref (hGr h12 1220 l0)]) (ok_M_readTurns Y l0 (2410 + (10 * q1.1)) 10 h12 t0) okV_M_readTurns rfl (by decide) t0 w8_183 d_M_readBook_73 rfl (Nat.le_of_ble_eq_true rfl) rfl (Nat.le_of_ble_eq_true rfl) (fun q14 hq14 hTq14 => ?_)
  refine aw_iastore (pc := 76) d_M_readBook_76 t13 (fun c15 => ?_)
  refine aw_letH (fun h16 => ?_)
  refine aw_aload_n (pc := 77) d_M_readBook_77 rfl 1 rfl ?_
  refine gt_1212 (pc := 78) d_M_readBook_78 w7_39 t0 ?_
  refine aw_if_ne (pc := 81) (tgt := 96) d_M_readBook_81 (by decide) (fun c17 => ?_) (fun c17 => ?_)
  · refine aw_aload_n (pc := 84) d_M_readBook_84 rfl 1 rfl ?_
    refine gt_1220 (pc := 85) d_M_readBook_85 w7_47 t0 (fun t18 => ?_)
    refine aw_sipush (pc := 88) (x := 2306) d_M_readBook_88 (by decide) ?_
    refine aw_dup2_11 (pc := 91) d_M_readBook_91 rfl rfl ?_
    refine aw_iaload (pc := 92) d_M_readBook_92 t18 (fun c19 => ?_)
    refine aw_iconst (pc := 93) (x := 1) d_M_readBook_93 (by decide) ?_
    refine aw_iadd (pc := 94) d_M_readBook_94 ?_
    refine aw_iastore (pc := 95) d_M_readBook_95 t18 (fun c20 => ?_)
    refine aw_letH (fun h21 => ?_)
    exact aw_return (pc := 96) d_M_readBook_96 rfl rfl
  · exact aw_return (pc := 96) d_M_readBook_96 rfl rfl
/-! LastPagesModel.readBooks()I -/
theorem d_M_readBooks_0 : decode prog_14_method_72_code 0 = .ok (.iconst 0, 1) := by decide +kernel
theorem d_M_readBooks_1 : decode prog_14_method_72_code 1 = .ok (.istore_n 1, 1) := by decide +kernel
theorem d_M_readBooks_2 : decode prog_14_method_72_code 2 = .ok (.aload_n 0, 1) := by decide +kernel
theorem d_M_readBooks_3 : decode prog_14_method_72_code 3 = .ok (.getfield 245, 3) := by decide +kernel
theorem d_M_readBooks_6 : decode prog_14_method_72_code 6 = .ok (.ifCond .ne 25, 3) := by decide +kernel
theorem d_M_readBooks_9 : decode prog_14_method_72_code 9 = .ok (.aload_n 0, 1) := by decide +kernel
theorem d_M_readBooks_10 : decode prog_14_method_72_code 10 = .ok (.getfield 133, 3) := by decide +kernel
theorem d_M_readBooks_13 : decode prog_14_method_72_code 13 = .ok (.iconst 1, 1) := by decide +kernel
theorem d_M_readBooks_14 : decode prog_14_method_72_code 14 = .ok (.if_icmp .ne 17, 3) := by decide +kernel
theorem d_M_readBooks_17 : decode prog_14_method_72_code 17 = .ok (.iload_n 1, 1) := by decide +kernel
theorem d_M_readBooks_18 : decode prog_14_method_72_code 18 = .ok (.iconst 1, 1) := by decide +kernel
theorem d_M_readBooks_19 : decode prog_14_method_72_code 19 = .ok (.aload_n 0, 1) := by decide +kernel
theorem d_M_readBooks_20 : decode prog_14_method_72_code 20 = .ok (.iconst 4, 1) := by decide +kernel
theorem d_M_readBooks_21 : decode prog_14_method_72_code 21 = .ok (.iconst 2, 1) := by decide +kernel
theorem d_M_readBooks_22 : decode prog_14_method_72_code 22 = .ok (.invokevirtual 292, 3) := by decide +kernel
theorem d_M_readBooks_25 : decode prog_14_method_72_code 25 = .ok (.ishl, 1) := by decide +kernel
theorem d_M_readBooks_26 : decode prog_14_method_72_code 26 = .ok (.ior, 1) := by decide +kernel
theorem d_M_readBooks_27 : decode prog_14_method_72_code 27 = .ok (.istore_n 1, 1) := by decide +kernel
theorem d_M_readBooks_28 : decode prog_14_method_72_code 28 = .ok (.goto (-26), 3) := by decide +kernel
theorem d_M_readBooks_31 : decode prog_14_method_72_code 31 = .ok (.iload_n 1, 1) := by decide +kernel
theorem d_M_readBooks_32 : decode prog_14_method_72_code 32 = .ok (.ireturn, 1) := by decide +kernel
def M_readBooks_L2 (Y : Ly) (l0 : Nat) : Nat → Int32 → Hp → Option (Int32 × Hp)
  | 0, _, _ => none
  | F + 1, l1, h =>
    if (hGi h 1212 l0) = 0 then
      if (hGi h 1214 l0) = 1 then
        (M_readTold Y l0 4 2 h).bind fun q3 =>
        M_readBooks_L2 Y l0 F (l1 ||| (1 <<< (q3.1 &&& 31))) q3.2
      else
        some (l1, h)
    else
      some (l1, h)
theorem M_readBooks_L2_ok (Y : Ly) (l0 : Nat) (tl0 : isO Y 12 l0) : ∀ (F : Nat) (l1 : Int32) (h : Hp), AW Y 7 K_M_readBooks 2 [(0, .ref l0), (1, .int l1)] [] h (M_readBooks_L2 Y l0 F l1 h) rI := by
  intro F
  induction F with
  | zero =>
    intro l1 h
    exact aw_none
  | succ F ih =>
    intro l1 h
    unfold M_readBooks_L2
    refine aw_aload_n (pc := 2) d_M_readBooks_2 rfl 0 rfl ?_
    refine gt_1212 (pc := 3) d_M_readBooks_3 w7_39 tl0 ?_
    refine aw_if_ne (pc := 6) (tgt := 31) d_M_readBooks_6 (by decide) (fun c1 => ?_) (fun c1 => ?_)
    · refine aw_aload_n (pc := 9) d_M_readBooks_9 rfl 0 rfl ?_
      refine gt_1214 (pc := 10) d_M_readBooks_10 w7_41 tl0 ?_
      refine aw_iconst (pc := 13) (x := 1) d_M_readBooks_13 (by decide) ?_
      refine aw_icmp_ne (pc := 14) (tgt := 31) d_M_readBooks_14 (by decide) (fun c2 => ?_) (fun c2 => ?_)
      · refine aw_iload_n (pc := 17) d_M_readBooks_17 rfl 1 rfl ?_
        refine aw_iconst (pc := 18) (x := 1) d_M_readBooks_18 (by decide) ?_
        refine aw_aload_n (pc := 19) d_M_readBooks_19 rfl 0 rfl ?_
        refine aw_iconst (pc := 20) (x := 4) d_M_readBooks_20 (by decide) ?_
        refine aw_iconst (pc := 21) (x := 2) d_M_readBooks_21 (by decide) ?_
        refine aw_cVrI (pc := 22) (ci := 12) (T := TX12) (N := 44) (As := [.int 4, .int 2]) (st := [.int 1, .int l1]) (ok_M_readTold Y l0 4 2 h tl0) okV_M_readTold rfl (by decide) tl0 w8_162 d_M_readBooks_22 rfl (Nat.le_of_ble_eq_true rfl) rfl (Nat.le_of_ble_eq_true rfl) (fun q3 hq3 hTq3 => ?_)
        refine aw_ishl (pc := 25) d_M_readBooks_25 ?_
        refine aw_ior (pc := 26) d_M_readBooks_26 ?_
        refine aw_istore_n (pc := 27) (lv' := [(1, .int (l1 ||| (1 <<< (q3.1 &&& 31)))), (0, .ref l0)]) d_M_readBooks_27 rfl (by decide) rfl ?_
        refine aw_goto (pc := 28) (tgt := 2) d_M_readBooks_28 (by decide) ?_
        exact aw_lv [1, 0] rfl (ih (l1 ||| (1 <<< (q3.1 &&& 31))) q3.2)
      · refine aw_iload_n (pc := 31) d_M_readBooks_31 rfl 1 rfl ?_
        exact aw_ireturn (pc := 32) d_M_readBooks_32 rfl rfl
    · refine aw_iload_n (pc := 31) d_M_readBooks_31 rfl 1 rfl ?_
      exact aw_ireturn (pc := 32) d_M_readBooks_32 rfl rfl
def M_readBooks (Y : Ly) (l0 : Nat) (h : Hp) : Option (Int32 × Hp) :=
  M_readBooks_L2 Y l0 FU 0 h
theorem ok_M_readBooks (Y : Ly) (l0 : Nat) (h : Hp) (t0 : isO Y 12 l0) : AM Y 7 K_M_readBooks [.ref l0] h (M_readBooks Y l0 h) rI := by
  refine AM.of rfl (Nat.le_of_ble_eq_true rfl) ?_
  show AW Y 7 K_M_readBooks 0 [(0, .ref l0)] [] h (M_readBooks Y l0 h) rI
  unfold M_readBooks
  refine aw_iconst (pc := 0) (x := 0) d_M_readBooks_0 (by decide) ?_
  refine aw_istore_n (pc := 1) (lv' := [(1, .int 0), (0, .ref l0)]) d_M_readBooks_1 rfl (by decide) rfl ?_
  exact aw_lv [1, 0] rfl (M_readBooks_L2_ok Y l0 t0 FU 0 h)
/-! LastPagesModel.readFinale()V -/
theorem d_M_readFinale_0 : decode prog_14_method_78_code 0 = .ok (.aload_n 0, 1) := by decide +kernel
theorem d_M_readFinale_1 : decode prog_14_method_78_code 1 = .ok (.iconst 3, 1) := by decide +kernel
theorem d_M_readFinale_2 : decode prog_14_method_78_code 2 = .ok (.bipush 8, 2) := by decide +kernel
theorem d_M_readFinale_4 : decode prog_14_method_78_code 4 = .ok (.invokevirtual 295, 3) := by decide +kernel
theorem d_M_readFinale_7 : decode prog_14_method_78_code 7 = .ok (.istore_n 1, 1) := by decide +kernel
theorem d_M_readFinale_8 : decode prog_14_method_78_code 8 = .ok (.aload_n 0, 1) := by decide +kernel
theorem d_M_readFinale_9 : decode prog_14_method_78_code 9 = .ok (.getfield 245, 3) := by decide +kernel
theorem d_M_readFinale_12 : decode prog_14_method_78_code 12 = .ok (.ifCond .ne 15, 3) := by decide +kernel
theorem d_M_readFinale_15 : decode prog_14_method_78_code 15 = .ok (.aload_n 0, 1) := by decide +kernel
theorem d_M_readFinale_16 : decode prog_14_method_78_code 16 = .ok (.getfield 133, 3) := by decide +kernel
theorem d_M_readFinale_19 : decode prog_14_method_78_code 19 = .ok (.iconst 1, 1) := by decide +kernel
theorem d_M_readFinale_20 : decode prog_14_method_78_code 20 = .ok (.if_icmp .eq 7, 3) := by decide +kernel
theorem d_M_readFinale_23 : decode prog_14_method_78_code 23 = .ok (.aload_n 0, 1) := by decide +kernel
theorem d_M_readFinale_24 : decode prog_14_method_78_code 24 = .ok (.invokevirtual 258, 3) := by decide +kernel
theorem d_M_readFinale_27 : decode prog_14_method_78_code 27 = .ok (.aload_n 0, 1) := by decide +kernel
theorem d_M_readFinale_28 : decode prog_14_method_78_code 28 = .ok (.getfield 35, 3) := by decide +kernel
theorem d_M_readFinale_31 : decode prog_14_method_78_code 31 = .ok (.sipush 2470, 3) := by decide +kernel
theorem d_M_readFinale_34 : decode prog_14_method_78_code 34 = .ok (.iload_n 1, 1) := by decide +kernel
theorem d_M_readFinale_35 : decode prog_14_method_78_code 35 = .ok (.iadd, 1) := by decide +kernel
theorem d_M_readFinale_36 : decode prog_14_method_78_code 36 = .ok (.aload_n 0, 1) := by decide +kernel
theorem d_M_readFinale_37 : decode prog_14_method_78_code 37 = .ok (.sipush 2478, 3) := by decide +kernel
theorem d_M_readFinale_40 : decode prog_14_method_78_code 40 = .ok (.bipush 6, 2) := by decide +kernel
theorem d_M_readFinale_42 : decode prog_14_method_78_code 42 = .ok (.iload_n 1, 1) := by decide +kernel
theorem d_M_readFinale_43 : decode prog_14_method_78_code 43 = .ok (.imul, 1) := by decide +kernel
theorem d_M_readFinale_44 : decode prog_14_method_78_code 44 = .ok (.iadd, 1) := by decide +kernel
theorem d_M_readFinale_45 : decode prog_14_method_78_code 45 = .ok (.bipush 6, 2) := by decide +kernel
theorem d_M_readFinale_47 : decode prog_14_method_78_code 47 = .ok (.invokevirtual 302, 3) := by decide +kernel
theorem d_M_readFinale_50 : decode prog_14_method_78_code 50 = .ok (.iastore, 1) := by decide +kernel
theorem d_M_readFinale_51 : decode prog_14_method_78_code 51 = .ok (.aload_n 0, 1) := by decide +kernel
theorem d_M_readFinale_52 : decode prog_14_method_78_code 52 = .ok (.getfield 245, 3) := by decide +kernel
theorem d_M_readFinale_55 : decode prog_14_method_78_code 55 = .ok (.ifCond .ne 15, 3) := by decide +kernel
theorem d_M_readFinale_58 : decode prog_14_method_78_code 58 = .ok (.aload_n 0, 1) := by decide +kernel
theorem d_M_readFinale_59 : decode prog_14_method_78_code 59 = .ok (.getfield 35, 3) := by decide +kernel
theorem d_M_readFinale_62 : decode prog_14_method_78_code 62 = .ok (.sipush 2307, 3) := by decide +kernel
theorem d_M_readFinale_65 : decode prog_14_method_78_code 65 = .ok (.dup2, 1) := by decide +kernel
theorem d_M_readFinale_66 : decode prog_14_method_78_code 66 = .ok (.iaload, 1) := by decide +kernel
theorem d_M_readFinale_67 : decode prog_14_method_78_code 67 = .ok (.iconst 1, 1) := by decide +kernel
theorem d_M_readFinale_68 : decode prog_14_method_78_code 68 = .ok (.iadd, 1) := by decide +kernel
theorem d_M_readFinale_69 : decode prog_14_method_78_code 69 = .ok (.iastore, 1) := by decide +kernel
theorem d_M_readFinale_70 : decode prog_14_method_78_code 70 = .ok (.return_, 1) := by decide +kernel
def M_readFinale_J27 (Y : Ly) (l0 : Nat) (l1 : Int32) (h : Hp) : Option Hp :=
  (M_readTurns Y l0 (2478 + (6 * l1)) 6 h).bind fun q5 =>
  if inB (2470 + l1) (lnY Y (hGr h 1220 l0)) = true then
    letH (hTi q5.2 (hGr h 1220 l0) (Int32.toNatClampNeg (2470 + l1)) q5.1) fun h7 =>
    if (hGi h7 1212 l0) = 0 then
      if inB 2307 (lnY Y (hGr h7 1220 l0)) = true then
        if inB 2307 (lnY Y (hGr h7 1220 l0)) = true then
          letH (hTi h7 (hGr h7 1220 l0) (Int32.toNatClampNeg 2307) ((hAi h7 (hGr h7 1220 l0) (Int32.toNatClampNeg 2307)) + 1)) fun h12 =>
          some h12
        else none
      else none
    else
      some h7
  else none
theorem M_readFinale_J27_ok (Y : Ly) (l0 : Nat) (l1 : Int32) (h : Hp) (tl0 : isO Y 12 l0) : AW Y 7 K_M_readFinale 27 [(0, .ref l0), (1, .int l1)] [] h (M_readFinale_J27 Y l0 l1 h) rV := by
  unfold M_readFinale_J27
  refine aw_aload_n (pc := 27) d_M_readFinale_27 rfl 0 rfl ?_
  refine gt_1220 (pc := 28) d_M_readFinale_28 w7_47 tl0 (fun t4 => ?_)
  refine aw_sipush (pc := 31) (x := 2470) d_M_readFinale_31 (by decide) ?_
  refine aw_iload_n (pc := 34) d_M_readFinale_34 rfl 1 rfl ?_
  refine aw_iadd (pc := 35) d_M_readFinale_35 ?_
  refine aw_aload_n (pc := 36) d_M_readFinale_36 rfl 0 rfl ?_
  refine aw_sipush (pc := 37) (x := 2478) d_M_readFinale_37 (by decide) ?_
  refine aw_bipush (pc := 40) (x := 6) d_M_readFinale_40 (by decide) ?_
  refine aw_iload_n (pc := 42) d_M_readFinale_42 rfl 1 rfl ?_
  refine aw_imul (pc := 43) d_M_readFinale_43 ?_
  refine aw_iadd (pc := 44) d_M_readFinale_44 ?_
  refine aw_bipush (pc := 45) (x := 6) d_M_readFinale_45 (by decide) ?_
  refine aw_cVrI (pc := 47) (ci := 12) (T := TX12) (N := 44) (As := [.int (2478 + (6 * l1)), .int 6]) (st := [.int (2470 + l1), .ref (hGr h 1220 l0)]) (ok_M_readTurns Y l0 (2478 + (6 * l1)) 6 h tl0) okV_M_readTurns rfl (by decide) tl0 w8_183 d_M_readFinale_47 rfl (Nat.le_of_ble_eq_true rfl) rfl (Nat.le_of_ble_eq_true rfl) (fun q5 hq5 hTq5 => ?_)
  refine aw_iastore (pc := 50) d_M_readFinale_50 t4 (fun c6 => ?_)
  refine aw_letH (fun h7 => ?_)
  refine aw_aload_n (pc := 51) d_M_readFinale_51 rfl 0 rfl ?_
  refine gt_1212 (pc := 52) d_M_readFinale_52 w7_39 tl0 ?_
  refine aw_if_ne (pc := 55) (tgt := 70) d_M_readFinale_55 (by decide) (fun c8 => ?_) (fun c8 => ?_)
  · refine aw_aload_n (pc := 58) d_M_readFinale_58 rfl 0 rfl ?_
    refine gt_1220 (pc := 59) d_M_readFinale_59 w7_47 tl0 (fun t9 => ?_)
    refine aw_sipush (pc := 62) (x := 2307) d_M_readFinale_62 (by decide) ?_
    refine aw_dup2_11 (pc := 65) d_M_readFinale_65 rfl rfl ?_
    refine aw_iaload (pc := 66) d_M_readFinale_66 t9 (fun c10 => ?_)
    refine aw_iconst (pc := 67) (x := 1) d_M_readFinale_67 (by decide) ?_
    refine aw_iadd (pc := 68) d_M_readFinale_68 ?_
    refine aw_iastore (pc := 69) d_M_readFinale_69 t9 (fun c11 => ?_)
    refine aw_letH (fun h12 => ?_)
    exact aw_return (pc := 70) d_M_readFinale_70 rfl rfl
  · exact aw_return (pc := 70) d_M_readFinale_70 rfl rfl
def M_readFinale (Y : Ly) (l0 : Nat) (h : Hp) : Option Hp :=
  (M_readNew Y l0 3 8 h).bind fun q1 =>
  if (hGi q1.2 1212 l0) = 0 then
    if (hGi q1.2 1214 l0) = 1 then
      M_readFinale_J27 Y l0 q1.1 q1.2
    else
      (M_amiss Y l0 q1.2).bind fun q13 =>
      M_readFinale_J27 Y l0 q1.1 q13
  else
    M_readFinale_J27 Y l0 q1.1 q1.2
theorem ok_M_readFinale (Y : Ly) (l0 : Nat) (h : Hp) (t0 : isO Y 12 l0) : AM Y 7 K_M_readFinale [.ref l0] h (M_readFinale Y l0 h) rV := by
  refine AM.of rfl (Nat.le_of_ble_eq_true rfl) ?_
  show AW Y 7 K_M_readFinale 0 [(0, .ref l0)] [] h (M_readFinale Y l0 h) rV
  unfold M_readFinale
  refine aw_aload_n (pc := 0) d_M_readFinale_0 rfl 0 rfl ?_
  refine aw_iconst (pc := 1) (x := 3) d_M_readFinale_1 (by decide) ?_
  refine aw_bipush (pc := 2) (x := 8) d_M_readFinale_2 (by decide) ?_
  refine aw_cVrI (pc := 4) (ci := 12) (T := TX12) (N := 44) (As := [.int 3, .int 8]) (st := []) (ok_M_readNew Y l0 3 8 h t0) okV_M_readNew rfl (by decide) t0 w8_23 d_M_readFinale_4 rfl (Nat.le_of_ble_eq_true rfl) rfl (Nat.le_of_ble_eq_true rfl) (fun q1 hq1 hTq1 => ?_)
  refine aw_istore_n (pc := 7) (lv' := [(1, .int q1.1), (0, .ref l0)]) d_M_readFinale_7 rfl (by decide) rfl ?_
  refine aw_aload_n (pc := 8) d_M_readFinale_8 rfl 1 rfl ?_
  refine gt_1212 (pc := 9) d_M_readFinale_9 w7_39 t0 ?_
  refine aw_if_ne (pc := 12) (tgt := 27) d_M_readFinale_12 (by decide) (fun c2 => ?_) (fun c2 => ?_)
  · refine aw_aload_n (pc := 15) d_M_readFinale_15 rfl 1 rfl ?_
    refine gt_1214 (pc := 16) d_M_readFinale_16 w7_41 t0 ?_
    refine aw_iconst (pc := 19) (x := 1) d_M_readFinale_19 (by decide) ?_
    refine aw_icmp_eq (pc := 20) (tgt := 27) d_M_readFinale_20 (by decide) (fun c3 => ?_) (fun c3 => ?_)
    · exact aw_lv [1, 0] rfl (M_readFinale_J27_ok Y l0 q1.1 q1.2 t0)
    · refine aw_aload_n (pc := 23) d_M_readFinale_23 rfl 1 rfl ?_
      refine aw_cVrV (pc := 24) (ci := 12) (T := TX12) (N := 44) (As := []) (st := []) (ok_M_amiss Y l0 q1.2 t0) okV_M_amiss rfl (by decide) t0 w8_135 d_M_readFinale_24 rfl (Nat.le_of_ble_eq_true rfl) rfl (Nat.le_of_ble_eq_true rfl) (fun q13 hq13 hTq13 => ?_)
      exact aw_lv [1, 0] rfl (M_readFinale_J27_ok Y l0 q1.1 q13 t0)
  · exact aw_lv [1, 0] rfl (M_readFinale_J27_ok Y l0 q1.1 q1.2 t0)
/-! LastPagesModel.readFollows()V -/
theorem d_M_readFollows_0 : decode prog_14_method_83_code 0 = .ok (.aload_n 0, 1) := by decide +kernel
theorem d_M_readFollows_1 : decode prog_14_method_83_code 1 = .ok (.invokevirtual 255, 3) := by decide +kernel
theorem d_M_readFollows_4 : decode prog_14_method_83_code 4 = .ok (.aload_n 0, 1) := by decide +kernel
theorem d_M_readFollows_5 : decode prog_14_method_83_code 5 = .ok (.iconst 4, 1) := by decide +kernel
theorem d_M_readFollows_6 : decode prog_14_method_83_code 6 = .ok (.iconst 2, 1) := by decide +kernel
theorem d_M_readFollows_7 : decode prog_14_method_83_code 7 = .ok (.invokevirtual 292, 3) := by decide +kernel
theorem d_M_readFollows_10 : decode prog_14_method_83_code 10 = .ok (.istore_n 1, 1) := by decide +kernel
theorem d_M_readFollows_11 : decode prog_14_method_83_code 11 = .ok (.aload_n 0, 1) := by decide +kernel
theorem d_M_readFollows_12 : decode prog_14_method_83_code 12 = .ok (.iconst 4, 1) := by decide +kernel
theorem d_M_readFollows_13 : decode prog_14_method_83_code 13 = .ok (.iconst 2, 1) := by decide +kernel
theorem d_M_readFollows_14 : decode prog_14_method_83_code 14 = .ok (.invokevirtual 289, 3) := by decide +kernel
theorem d_M_readFollows_17 : decode prog_14_method_83_code 17 = .ok (.istore_n 2, 1) := by decide +kernel
theorem d_M_readFollows_18 : decode prog_14_method_83_code 18 = .ok (.aload_n 0, 1) := by decide +kernel
theorem d_M_readFollows_19 : decode prog_14_method_83_code 19 = .ok (.getfield 245, 3) := by decide +kernel
theorem d_M_readFollows_22 : decode prog_14_method_83_code 22 = .ok (.ifCond .ne 17, 3) := by decide +kernel
theorem d_M_readFollows_25 : decode prog_14_method_83_code 25 = .ok (.iload_n 1, 1) := by decide +kernel
theorem d_M_readFollows_26 : decode prog_14_method_83_code 26 = .ok (.iload_n 2, 1) := by decide +kernel
theorem d_M_readFollows_27 : decode prog_14_method_83_code 27 = .ok (.if_icmp .ne 12, 3) := by decide +kernel
theorem d_M_readFollows_30 : decode prog_14_method_83_code 30 = .ok (.aload_n 0, 1) := by decide +kernel
theorem d_M_readFollows_31 : decode prog_14_method_83_code 31 = .ok (.iconst 5, 1) := by decide +kernel
theorem d_M_readFollows_32 : decode prog_14_method_83_code 32 = .ok (.aload_n 0, 1) := by decide +kernel
theorem d_M_readFollows_33 : decode prog_14_method_83_code 33 = .ok (.getfield 127, 3) := by decide +kernel
theorem d_M_readFollows_36 : decode prog_14_method_83_code 36 = .ok (.invokevirtual 251, 3) := by decide +kernel
theorem d_M_readFollows_39 : decode prog_14_method_83_code 39 = .ok (.aload_n 0, 1) := by decide +kernel
theorem d_M_readFollows_40 : decode prog_14_method_83_code 40 = .ok (.iconst 1, 1) := by decide +kernel
theorem d_M_readFollows_41 : decode prog_14_method_83_code 41 = .ok (.invokevirtual 261, 3) := by decide +kernel
theorem d_M_readFollows_44 : decode prog_14_method_83_code 44 = .ok (.aload_n 0, 1) := by decide +kernel
theorem d_M_readFollows_45 : decode prog_14_method_83_code 45 = .ok (.getfield 245, 3) := by decide +kernel
theorem d_M_readFollows_48 : decode prog_14_method_83_code 48 = .ok (.ifCond .ne 19, 3) := by decide +kernel
theorem d_M_readFollows_51 : decode prog_14_method_83_code 51 = .ok (.aload_n 0, 1) := by decide +kernel
theorem d_M_readFollows_52 : decode prog_14_method_83_code 52 = .ok (.getfield 35, 3) := by decide +kernel
theorem d_M_readFollows_55 : decode prog_14_method_83_code 55 = .ok (.sipush 2602, 3) := by decide +kernel
theorem d_M_readFollows_58 : decode prog_14_method_83_code 58 = .ok (.iload_n 1, 1) := by decide +kernel
theorem d_M_readFollows_59 : decode prog_14_method_83_code 59 = .ok (.iadd, 1) := by decide +kernel
theorem d_M_readFollows_60 : decode prog_14_method_83_code 60 = .ok (.dup2, 1) := by decide +kernel
theorem d_M_readFollows_61 : decode prog_14_method_83_code 61 = .ok (.iaload, 1) := by decide +kernel
theorem d_M_readFollows_62 : decode prog_14_method_83_code 62 = .ok (.iconst 1, 1) := by decide +kernel
theorem d_M_readFollows_63 : decode prog_14_method_83_code 63 = .ok (.iload_n 2, 1) := by decide +kernel
theorem d_M_readFollows_64 : decode prog_14_method_83_code 64 = .ok (.ishl, 1) := by decide +kernel
theorem d_M_readFollows_65 : decode prog_14_method_83_code 65 = .ok (.ior, 1) := by decide +kernel
theorem d_M_readFollows_66 : decode prog_14_method_83_code 66 = .ok (.iastore, 1) := by decide +kernel
theorem d_M_readFollows_67 : decode prog_14_method_83_code 67 = .ok (.return_, 1) := by decide +kernel
def M_readFollows_J39 (Y : Ly) (l0 : Nat) (l1 : Int32) (l2 : Int32) (h : Hp) : Option Hp :=
  (M_must Y l0 true h).bind fun q7 =>
  if (hGi q7 1212 l0) = 0 then
    if inB (2602 + l1) (lnY Y (hGr q7 1220 l0)) = true then
      if inB (2602 + l1) (lnY Y (hGr q7 1220 l0)) = true then
        letH (hTi q7 (hGr q7 1220 l0) (Int32.toNatClampNeg (2602 + l1)) ((hAi q7 (hGr q7 1220 l0) (Int32.toNatClampNeg (2602 + l1))) ||| (1 <<< (l2 &&& 31)))) fun h12 =>
        some h12
      else none
    else none
  else
    some q7
theorem M_readFollows_J39_ok (Y : Ly) (l0 : Nat) (l1 : Int32) (l2 : Int32) (h : Hp) (tl0 : isO Y 12 l0) : AW Y 7 K_M_readFollows 39 [(0, .ref l0), (1, .int l1), (2, .int l2)] [] h (M_readFollows_J39 Y l0 l1 l2 h) rV := by
  unfold M_readFollows_J39
  refine aw_aload_n (pc := 39) d_M_readFollows_39 rfl 0 rfl ?_
  refine aw_iconst (pc := 40) (x := 1) d_M_readFollows_40 (by decide) ?_
  refine aw_cVrV (pc := 41) (ci := 12) (T := TX12) (N := 44) (As := [.int (b2i true)]) (st := []) (ok_M_must Y l0 true h tl0) okV_M_must rfl (by decide) tl0 w8_171 d_M_readFollows_41 rfl (Nat.le_of_ble_eq_true rfl) rfl (Nat.le_of_ble_eq_true rfl) (fun q7 hq7 hTq7 => ?_)
  refine aw_aload_n (pc := 44) d_M_readFollows_44 rfl 0 rfl ?_
  refine gt_1212 (pc := 45) d_M_readFollows_45 w7_39 tl0 ?_
  refine aw_if_ne (pc := 48) (tgt := 67) d_M_readFollows_48 (by decide) (fun c8 => ?_) (fun c8 => ?_)
  · refine aw_aload_n (pc := 51) d_M_readFollows_51 rfl 0 rfl ?_
    refine gt_1220 (pc := 52) d_M_readFollows_52 w7_47 tl0 (fun t9 => ?_)
    refine aw_sipush (pc := 55) (x := 2602) d_M_readFollows_55 (by decide) ?_
    refine aw_iload_n (pc := 58) d_M_readFollows_58 rfl 1 rfl ?_
    refine aw_iadd (pc := 59) d_M_readFollows_59 ?_
    refine aw_dup2_11 (pc := 60) d_M_readFollows_60 rfl rfl ?_
    refine aw_iaload (pc := 61) d_M_readFollows_61 t9 (fun c10 => ?_)
    refine aw_iconst (pc := 62) (x := 1) d_M_readFollows_62 (by decide) ?_
    refine aw_iload_n (pc := 63) d_M_readFollows_63 rfl 2 rfl ?_
    refine aw_ishl (pc := 64) d_M_readFollows_64 ?_
    refine aw_ior (pc := 65) d_M_readFollows_65 ?_
    refine aw_iastore (pc := 66) d_M_readFollows_66 t9 (fun c11 => ?_)
    refine aw_letH (fun h12 => ?_)
    exact aw_return (pc := 67) d_M_readFollows_67 rfl rfl
  · exact aw_return (pc := 67) d_M_readFollows_67 rfl rfl
def M_readFollows (Y : Ly) (l0 : Nat) (h : Hp) : Option Hp :=
  (M_advance Y l0 h).bind fun q1 =>
  (M_readTold Y l0 4 2 q1).bind fun q2 =>
  (M_told Y l0 4 2 q2.2).bind fun q3 =>
  if (hGi q3.2 1212 l0) = 0 then
    if q2.1 = q3.1 then
      (M_fail Y l0 5 (hGi q3.2 1215 l0) q3.2).bind fun q6 =>
      M_readFollows_J39 Y l0 q2.1 q3.1 q6
    else
      M_readFollows_J39 Y l0 q2.1 q3.1 q3.2
  else
    M_readFollows_J39 Y l0 q2.1 q3.1 q3.2
theorem ok_M_readFollows (Y : Ly) (l0 : Nat) (h : Hp) (t0 : isO Y 12 l0) : AM Y 7 K_M_readFollows [.ref l0] h (M_readFollows Y l0 h) rV := by
  refine AM.of rfl (Nat.le_of_ble_eq_true rfl) ?_
  show AW Y 7 K_M_readFollows 0 [(0, .ref l0)] [] h (M_readFollows Y l0 h) rV
  unfold M_readFollows
  refine aw_aload_n (pc := 0) d_M_readFollows_0 rfl 0 rfl ?_
  refine aw_cVrV (pc := 1) (ci := 12) (T := TX12) (N := 44) (As := []) (st := []) (ok_M_advance Y l0 h t0) okV_M_advance rfl (by decide) t0 w7_224 d_M_readFollows_1 rfl (Nat.le_of_ble_eq_true rfl) rfl (Nat.le_of_ble_eq_true rfl) (fun q1 hq1 hTq1 => ?_)
  refine aw_aload_n (pc := 4) d_M_readFollows_4 rfl 0 rfl ?_
  refine aw_iconst (pc := 5) (x := 4) d_M_readFollows_5 (by decide) ?_
  refine aw_iconst (pc := 6) (x := 2) d_M_readFollows_6 (by decide) ?_
  refine aw_cVrI (pc := 7) (ci := 12) (T := TX12) (N := 44) (As := [.int 4, .int 2]) (st := []) (ok_M_readTold Y l0 4 2 q1 t0) okV_M_readTold rfl (by decide) t0 w8_162 d_M_readFollows_7 rfl (Nat.le_of_ble_eq_true rfl) rfl (Nat.le_of_ble_eq_true rfl) (fun q2 hq2 hTq2 => ?_)
  refine aw_istore_n (pc := 10) (lv' := [(1, .int q2.1), (0, .ref l0)]) d_M_readFollows_10 rfl (by decide) rfl ?_
  refine aw_aload_n (pc := 11) d_M_readFollows_11 rfl 1 rfl ?_
  refine aw_iconst (pc := 12) (x := 4) d_M_readFollows_12 (by decide) ?_
  refine aw_iconst (pc := 13) (x := 2) d_M_readFollows_13 (by decide) ?_
  refine aw_cVrI (pc := 14) (ci := 12) (T := TX12) (N := 44) (As := [.int 4, .int 2]) (st := []) (ok_M_told Y l0 4 2 q2.2 t0) okV_M_told rfl (by decide) t0 w8_166 d_M_readFollows_14 rfl (Nat.le_of_ble_eq_true rfl) rfl (Nat.le_of_ble_eq_true rfl) (fun q3 hq3 hTq3 => ?_)
  refine aw_istore_n (pc := 17) (lv' := [(2, .int q3.1), (1, .int q2.1), (0, .ref l0)]) d_M_readFollows_17 rfl (by decide) rfl ?_
  refine aw_aload_n (pc := 18) d_M_readFollows_18 rfl 2 rfl ?_
  refine gt_1212 (pc := 19) d_M_readFollows_19 w7_39 t0 ?_
  refine aw_if_ne (pc := 22) (tgt := 39) d_M_readFollows_22 (by decide) (fun c4 => ?_) (fun c4 => ?_)
  · refine aw_iload_n (pc := 25) d_M_readFollows_25 rfl 1 rfl ?_
    refine aw_iload_n (pc := 26) d_M_readFollows_26 rfl 0 rfl ?_
    refine aw_icmp_ne (pc := 27) (tgt := 39) d_M_readFollows_27 (by decide) (fun c5 => ?_) (fun c5 => ?_)
    · refine aw_aload_n (pc := 30) d_M_readFollows_30 rfl 2 rfl ?_
      refine aw_iconst (pc := 31) (x := 5) d_M_readFollows_31 (by decide) ?_
      refine aw_aload_n (pc := 32) d_M_readFollows_32 rfl 2 rfl ?_
      refine gt_1215 (pc := 33) d_M_readFollows_33 w7_42 t0 ?_
      refine aw_cVrV (pc := 36) (ci := 12) (T := TX12) (N := 44) (As := [.int 5, .int (hGi q3.2 1215 l0)]) (st := []) (ok_M_fail Y l0 5 (hGi q3.2 1215 l0) q3.2 t0) okV_M_fail rfl (by decide) t0 w8_30 d_M_readFollows_36 rfl (Nat.le_of_ble_eq_true rfl) rfl (Nat.le_of_ble_eq_true rfl) (fun q6 hq6 hTq6 => ?_)
      exact aw_lv [2, 1, 0] rfl (M_readFollows_J39_ok Y l0 q2.1 q3.1 q6 t0)
    · exact aw_lv [2, 1, 0] rfl (M_readFollows_J39_ok Y l0 q2.1 q3.1 q3.2 t0)
  · exact aw_lv [2, 1, 0] rfl (M_readFollows_J39_ok Y l0 q2.1 q3.1 q3.2 t0)
/-! LastPagesModel.readHint()V -/
theorem d_M_readHint_0 : decode prog_14_method_79_code 0 = .ok (.aload_n 0, 1) := by decide +kernel
theorem d_M_readHint_1 : decode prog_14_method_79_code 1 = .ok (.getfield 35, 3) := by decide +kernel
theorem d_M_readHint_4 : decode prog_14_method_79_code 4 = .ok (.sipush 2309, 3) := by decide +kernel
theorem d_M_readHint_7 : decode prog_14_method_79_code 7 = .ok (.iaload, 1) := by decide +kernel
theorem d_M_readHint_8 : decode prog_14_method_79_code 8 = .ok (.istore_n 1, 1) := by decide +kernel
theorem d_M_readHint_9 : decode prog_14_method_79_code 9 = .ok (.iload_n 1, 1) := by decide +kernel
theorem d_M_readHint_10 : decode prog_14_method_79_code 10 = .ok (.bipush 12, 2) := by decide +kernel
theorem d_M_readHint_12 : decode prog_14_method_79_code 12 = .ok (.if_icmp .ne 13, 3) := by decide +kernel
theorem d_M_readHint_15 : decode prog_14_method_79_code 15 = .ok (.aload_n 0, 1) := by decide +kernel
theorem d_M_readHint_16 : decode prog_14_method_79_code 16 = .ok (.bipush 6, 2) := by decide +kernel
theorem d_M_readHint_18 : decode prog_14_method_79_code 18 = .ok (.aload_n 0, 1) := by decide +kernel
theorem d_M_readHint_19 : decode prog_14_method_79_code 19 = .ok (.getfield 127, 3) := by decide +kernel
theorem d_M_readHint_22 : decode prog_14_method_79_code 22 = .ok (.invokevirtual 251, 3) := by decide +kernel
theorem d_M_readHint_25 : decode prog_14_method_79_code 25 = .ok (.aload_n 0, 1) := by decide +kernel
theorem d_M_readHint_26 : decode prog_14_method_79_code 26 = .ok (.getfield 245, 3) := by decide +kernel
theorem d_M_readHint_29 : decode prog_14_method_79_code 29 = .ok (.ifCond .le 4, 3) := by decide +kernel
theorem d_M_readHint_32 : decode prog_14_method_79_code 32 = .ok (.return_, 1) := by decide +kernel
theorem d_M_readHint_33 : decode prog_14_method_79_code 33 = .ok (.aload_n 0, 1) := by decide +kernel
theorem d_M_readHint_34 : decode prog_14_method_79_code 34 = .ok (.invokevirtual 255, 3) := by decide +kernel
theorem d_M_readHint_37 : decode prog_14_method_79_code 37 = .ok (.aload_n 0, 1) := by decide +kernel
theorem d_M_readHint_38 : decode prog_14_method_79_code 38 = .ok (.iconst 4, 1) := by decide +kernel
theorem d_M_readHint_39 : decode prog_14_method_79_code 39 = .ok (.iconst 2, 1) := by decide +kernel
theorem d_M_readHint_40 : decode prog_14_method_79_code 40 = .ok (.invokevirtual 292, 3) := by decide +kernel
theorem d_M_readHint_43 : decode prog_14_method_79_code 43 = .ok (.istore_n 2, 1) := by decide +kernel
theorem d_M_readHint_44 : decode prog_14_method_79_code 44 = .ok (.aload_n 0, 1) := by decide +kernel
theorem d_M_readHint_45 : decode prog_14_method_79_code 45 = .ok (.aload_n 0, 1) := by decide +kernel
theorem d_M_readHint_46 : decode prog_14_method_79_code 46 = .ok (.invokevirtual 202, 3) := by decide +kernel
theorem d_M_readHint_49 : decode prog_14_method_79_code 49 = .ok (.iconst 1, 1) := by decide +kernel
theorem d_M_readHint_50 : decode prog_14_method_79_code 50 = .ok (.aload_n 0, 1) := by decide +kernel
theorem d_M_readHint_51 : decode prog_14_method_79_code 51 = .ok (.getfield 35, 3) := by decide +kernel
theorem d_M_readHint_54 : decode prog_14_method_79_code 54 = .ok (.sipush 2392, 3) := by decide +kernel
theorem d_M_readHint_57 : decode prog_14_method_79_code 57 = .ok (.iload_n 2, 1) := by decide +kernel
theorem d_M_readHint_58 : decode prog_14_method_79_code 58 = .ok (.iadd, 1) := by decide +kernel
theorem d_M_readHint_59 : decode prog_14_method_79_code 59 = .ok (.iaload, 1) := by decide +kernel
theorem d_M_readHint_60 : decode prog_14_method_79_code 60 = .ok (.invokevirtual 298, 3) := by decide +kernel
theorem d_M_readHint_63 : decode prog_14_method_79_code 63 = .ok (.istore_n 3, 1) := by decide +kernel
theorem d_M_readHint_64 : decode prog_14_method_79_code 64 = .ok (.aload_n 0, 1) := by decide +kernel
theorem d_M_readHint_65 : decode prog_14_method_79_code 65 = .ok (.aload_n 0, 1) := by decide +kernel
theorem d_M_readHint_66 : decode prog_14_method_79_code 66 = .ok (.invokevirtual 205, 3) := by decide +kernel
theorem d_M_readHint_69 : decode prog_14_method_79_code 69 = .ok (.invokevirtual 261, 3) := by decide +kernel
theorem d_M_readHint_72 : decode prog_14_method_79_code 72 = .ok (.aload_n 0, 1) := by decide +kernel
theorem d_M_readHint_73 : decode prog_14_method_79_code 73 = .ok (.iconst 4, 1) := by decide +kernel
theorem d_M_readHint_74 : decode prog_14_method_79_code 74 = .ok (.iconst 1, 1) := by decide +kernel
theorem d_M_readHint_75 : decode prog_14_method_79_code 75 = .ok (.invokevirtual 292, 3) := by decide +kernel
theorem d_M_readHint_78 : decode prog_14_method_79_code 78 = .ok (.istore 4, 2) := by decide +kernel
theorem d_M_readHint_80 : decode prog_14_method_79_code 80 = .ok (.aload_n 0, 1) := by decide +kernel
theorem d_M_readHint_81 : decode prog_14_method_79_code 81 = .ok (.aload_n 0, 1) := by decide +kernel
theorem d_M_readHint_82 : decode prog_14_method_79_code 82 = .ok (.invokevirtual 208, 3) := by decide +kernel
theorem d_M_readHint_85 : decode prog_14_method_79_code 85 = .ok (.invokevirtual 261, 3) := by decide +kernel
theorem d_M_readHint_88 : decode prog_14_method_79_code 88 = .ok (.aload_n 0, 1) := by decide +kernel
theorem d_M_readHint_89 : decode prog_14_method_79_code 89 = .ok (.iconst 4, 1) := by decide +kernel
theorem d_M_readHint_90 : decode prog_14_method_79_code 90 = .ok (.iconst 4, 1) := by decide +kernel
theorem d_M_readHint_91 : decode prog_14_method_79_code 91 = .ok (.invokevirtual 292, 3) := by decide +kernel
theorem d_M_readHint_94 : decode prog_14_method_79_code 94 = .ok (.istore 5, 2) := by decide +kernel
theorem d_M_readHint_96 : decode prog_14_method_79_code 96 = .ok (.aload_n 0, 1) := by decide +kernel
theorem d_M_readHint_97 : decode prog_14_method_79_code 97 = .ok (.getfield 245, 3) := by decide +kernel
theorem d_M_readHint_100 : decode prog_14_method_79_code 100 = .ok (.ifCond .le 4, 3) := by decide +kernel
theorem d_M_readHint_103 : decode prog_14_method_79_code 103 = .ok (.return_, 1) := by decide +kernel
theorem d_M_readHint_104 : decode prog_14_method_79_code 104 = .ok (.aload_n 0, 1) := by decide +kernel
theorem d_M_readHint_105 : decode prog_14_method_79_code 105 = .ok (.getfield 35, 3) := by decide +kernel
theorem d_M_readHint_108 : decode prog_14_method_79_code 108 = .ok (.sipush 2526, 3) := by decide +kernel
theorem d_M_readHint_111 : decode prog_14_method_79_code 111 = .ok (.iload_n 1, 1) := by decide +kernel
theorem d_M_readHint_112 : decode prog_14_method_79_code 112 = .ok (.iadd, 1) := by decide +kernel
theorem d_M_readHint_113 : decode prog_14_method_79_code 113 = .ok (.iload_n 2, 1) := by decide +kernel
theorem d_M_readHint_114 : decode prog_14_method_79_code 114 = .ok (.iastore, 1) := by decide +kernel
theorem d_M_readHint_115 : decode prog_14_method_79_code 115 = .ok (.aload_n 0, 1) := by decide +kernel
theorem d_M_readHint_116 : decode prog_14_method_79_code 116 = .ok (.getfield 35, 3) := by decide +kernel
theorem d_M_readHint_119 : decode prog_14_method_79_code 119 = .ok (.sipush 2538, 3) := by decide +kernel
theorem d_M_readHint_122 : decode prog_14_method_79_code 122 = .ok (.iload_n 1, 1) := by decide +kernel
theorem d_M_readHint_123 : decode prog_14_method_79_code 123 = .ok (.iadd, 1) := by decide +kernel
theorem d_M_readHint_124 : decode prog_14_method_79_code 124 = .ok (.iload_n 3, 1) := by decide +kernel
theorem d_M_readHint_125 : decode prog_14_method_79_code 125 = .ok (.iastore, 1) := by decide +kernel
theorem d_M_readHint_126 : decode prog_14_method_79_code 126 = .ok (.aload_n 0, 1) := by decide +kernel
theorem d_M_readHint_127 : decode prog_14_method_79_code 127 = .ok (.getfield 35, 3) := by decide +kernel
theorem d_M_readHint_130 : decode prog_14_method_79_code 130 = .ok (.sipush 2550, 3) := by decide +kernel
theorem d_M_readHint_133 : decode prog_14_method_79_code 133 = .ok (.iload_n 1, 1) := by decide +kernel
theorem d_M_readHint_134 : decode prog_14_method_79_code 134 = .ok (.iadd, 1) := by decide +kernel
theorem d_M_readHint_135 : decode prog_14_method_79_code 135 = .ok (.iload 4, 2) := by decide +kernel
theorem d_M_readHint_137 : decode prog_14_method_79_code 137 = .ok (.iastore, 1) := by decide +kernel
theorem d_M_readHint_138 : decode prog_14_method_79_code 138 = .ok (.aload_n 0, 1) := by decide +kernel
theorem d_M_readHint_139 : decode prog_14_method_79_code 139 = .ok (.getfield 35, 3) := by decide +kernel
theorem d_M_readHint_142 : decode prog_14_method_79_code 142 = .ok (.sipush 2562, 3) := by decide +kernel
theorem d_M_readHint_145 : decode prog_14_method_79_code 145 = .ok (.iload_n 1, 1) := by decide +kernel
theorem d_M_readHint_146 : decode prog_14_method_79_code 146 = .ok (.iadd, 1) := by decide +kernel
theorem d_M_readHint_147 : decode prog_14_method_79_code 147 = .ok (.iload 5, 2) := by decide +kernel
theorem d_M_readHint_149 : decode prog_14_method_79_code 149 = .ok (.iastore, 1) := by decide +kernel
theorem d_M_readHint_150 : decode prog_14_method_79_code 150 = .ok (.aload_n 0, 1) := by decide +kernel
theorem d_M_readHint_151 : decode prog_14_method_79_code 151 = .ok (.getfield 35, 3) := by decide +kernel
theorem d_M_readHint_154 : decode prog_14_method_79_code 154 = .ok (.sipush 2309, 3) := by decide +kernel
theorem d_M_readHint_157 : decode prog_14_method_79_code 157 = .ok (.dup2, 1) := by decide +kernel
theorem d_M_readHint_158 : decode prog_14_method_79_code 158 = .ok (.iaload, 1) := by decide +kernel
theorem d_M_readHint_159 : decode prog_14_method_79_code 159 = .ok (.iconst 1, 1) := by decide +kernel
theorem d_M_readHint_160 : decode prog_14_method_79_code 160 = .ok (.iadd, 1) := by decide +kernel
theorem d_M_readHint_161 : decode prog_14_method_79_code 161 = .ok (.iastore, 1) := by decide +kernel
theorem d_M_readHint_162 : decode prog_14_method_79_code 162 = .ok (.return_, 1) := by decide +kernel
def M_readHint_J25 (Y : Ly) (l0 : Nat) (l1 : Int32) (h : Hp) : Option Hp :=
  if (hGi h 1212 l0) ≤ 0 then
    (M_advance Y l0 h).bind fun q6 =>
    (M_readTold Y l0 4 2 q6).bind fun q7 =>
    (M_isAt Y l0 q7.2).bind fun q8 =>
    if inB (2392 + q7.1) (lnY Y (hGr q7.2 1220 l0)) = true then
      (M_behindWord Y l0 q8 1 (hAi q7.2 (hGr q7.2 1220 l0) (Int32.toNatClampNeg (2392 + q7.1))) q7.2).bind fun q11 =>
      (M_isIs Y l0 q11.2).bind fun q12 =>
      (M_must Y l0 q12 q11.2).bind fun q13 =>
      (M_readTold Y l0 4 1 q13).bind fun q14 =>
      (M_isBy Y l0 q14.2).bind fun q15 =>
      (M_must Y l0 q15 q14.2).bind fun q16 =>
      (M_readTold Y l0 4 4 q16).bind fun q17 =>
      if (hGi q17.2 1212 l0) ≤ 0 then
        if inB (2526 + l1) (lnY Y (hGr q17.2 1220 l0)) = true then
          letH (hTi q17.2 (hGr q17.2 1220 l0) (Int32.toNatClampNeg (2526 + l1)) q7.1) fun h21 =>
          if inB (2538 + l1) (lnY Y (hGr h21 1220 l0)) = true then
            letH (hTi h21 (hGr h21 1220 l0) (Int32.toNatClampNeg (2538 + l1)) q11.1) fun h24 =>
            if inB (2550 + l1) (lnY Y (hGr h24 1220 l0)) = true then
              letH (hTi h24 (hGr h24 1220 l0) (Int32.toNatClampNeg (2550 + l1)) q14.1) fun h27 =>
              if inB (2562 + l1) (lnY Y (hGr h27 1220 l0)) = true then
                letH (hTi h27 (hGr h27 1220 l0) (Int32.toNatClampNeg (2562 + l1)) q17.1) fun h30 =>
                if inB 2309 (lnY Y (hGr h30 1220 l0)) = true then
                  if inB 2309 (lnY Y (hGr h30 1220 l0)) = true then
                    letH (hTi h30 (hGr h30 1220 l0) (Int32.toNatClampNeg 2309) ((hAi h30 (hGr h30 1220 l0) (Int32.toNatClampNeg 2309)) + 1)) fun h34 =>
                    some h34
                  else none
                else none
              else none
            else none
          else none
        else none
      else
        some q17.2
    else none
  else
    some h
theorem M_readHint_J25_ok (Y : Ly) (l0 : Nat) (l1 : Int32) (h : Hp) (tl0 : isO Y 12 l0) : AW Y 7 K_M_readHint 25 [(0, .ref l0), (1, .int l1)] [] h (M_readHint_J25 Y l0 l1 h) rV := by
  unfold M_readHint_J25
  refine aw_aload_n (pc := 25) d_M_readHint_25 rfl 0 rfl ?_
  refine gt_1212 (pc := 26) d_M_readHint_26 w7_39 tl0 ?_
  refine aw_if_le (pc := 29) (tgt := 33) d_M_readHint_29 (by decide) (fun c5 => ?_) (fun c5 => ?_)
  · refine aw_aload_n (pc := 33) d_M_readHint_33 rfl 0 rfl ?_
    refine aw_cVrV (pc := 34) (ci := 12) (T := TX12) (N := 44) (As := []) (st := []) (ok_M_advance Y l0 h tl0) okV_M_advance rfl (by decide) tl0 w7_224 d_M_readHint_34 rfl (Nat.le_of_ble_eq_true rfl) rfl (Nat.le_of_ble_eq_true rfl) (fun q6 hq6 hTq6 => ?_)
    refine aw_aload_n (pc := 37) d_M_readHint_37 rfl 0 rfl ?_
    refine aw_iconst (pc := 38) (x := 4) d_M_readHint_38 (by decide) ?_
    refine aw_iconst (pc := 39) (x := 2) d_M_readHint_39 (by decide) ?_
    refine aw_cVrI (pc := 40) (ci := 12) (T := TX12) (N := 44) (As := [.int 4, .int 2]) (st := []) (ok_M_readTold Y l0 4 2 q6 tl0) okV_M_readTold rfl (by decide) tl0 w8_162 d_M_readHint_40 rfl (Nat.le_of_ble_eq_true rfl) rfl (Nat.le_of_ble_eq_true rfl) (fun q7 hq7 hTq7 => ?_)
    refine aw_istore_n (pc := 43) (lv' := [(2, .int q7.1), (0, .ref l0), (1, .int l1)]) d_M_readHint_43 rfl (by decide) rfl ?_
    refine aw_aload_n (pc := 44) d_M_readHint_44 rfl 1 rfl ?_
    refine aw_aload_n (pc := 45) d_M_readHint_45 rfl 1 rfl ?_
    refine aw_cVpZ (pc := 46) (ci := 12) (T := TX12) (N := 44) (As := []) (st := [.ref l0]) (ok_M_isAt Y l0 q7.2 tl0) okV_M_isAt rfl (by decide) tl0 w8_78 d_M_readHint_46 rfl (Nat.le_of_ble_eq_true rfl) rfl (Nat.le_of_ble_eq_true rfl) (fun q8 hq8 hTq8 => ?_)
    refine aw_iconst (pc := 49) (x := 1) d_M_readHint_49 (by decide) ?_
    refine aw_aload_n (pc := 50) d_M_readHint_50 rfl 1 rfl ?_
    refine gt_1220 (pc := 51) d_M_readHint_51 w7_47 tl0 (fun t9 => ?_)
    refine aw_sipush (pc := 54) (x := 2392) d_M_readHint_54 (by decide) ?_
    refine aw_iload_n (pc := 57) d_M_readHint_57 rfl 0 rfl ?_
    refine aw_iadd (pc := 58) d_M_readHint_58 ?_
    refine aw_iaload (pc := 59) d_M_readHint_59 t9 (fun c10 => ?_)
    refine aw_cVrI (pc := 60) (ci := 12) (T := TX12) (N := 44) (As := [.int (b2i q8), .int 1, .int (hAi q7.2 (hGr q7.2 1220 l0) (Int32.toNatClampNeg (2392 + q7.1)))]) (st := []) (ok_M_behindWord Y l0 q8 1 (hAi q7.2 (hGr q7.2 1220 l0) (Int32.toNatClampNeg (2392 + q7.1))) q7.2 tl0) okV_M_behindWord rfl (by decide) tl0 w8_179 d_M_readHint_60 rfl (Nat.le_of_ble_eq_true rfl) rfl (Nat.le_of_ble_eq_true rfl) (fun q11 hq11 hTq11 => ?_)
    refine aw_istore_n (pc := 63) (lv' := [(3, .int q11.1), (2, .int q7.1), (0, .ref l0), (1, .int l1)]) d_M_readHint_63 rfl (by decide) rfl ?_
    refine aw_aload_n (pc := 64) d_M_readHint_64 rfl 2 rfl ?_
    refine aw_aload_n (pc := 65) d_M_readHint_65 rfl 2 rfl ?_
    refine aw_cVpZ (pc := 66) (ci := 12) (T := TX12) (N := 44) (As := []) (st := [.ref l0]) (ok_M_isIs Y l0 q11.2 tl0) okV_M_isIs rfl (by decide) tl0 w8_82 d_M_readHint_66 rfl (Nat.le_of_ble_eq_true rfl) rfl (Nat.le_of_ble_eq_true rfl) (fun q12 hq12 hTq12 => ?_)
    refine aw_cVrV (pc := 69) (ci := 12) (T := TX12) (N := 44) (As := [.int (b2i q12)]) (st := []) (ok_M_must Y l0 q12 q11.2 tl0) okV_M_must rfl (by decide) tl0 w8_171 d_M_readHint_69 rfl (Nat.le_of_ble_eq_true rfl) rfl (Nat.le_of_ble_eq_true rfl) (fun q13 hq13 hTq13 => ?_)
    refine aw_aload_n (pc := 72) d_M_readHint_72 rfl 2 rfl ?_
    refine aw_iconst (pc := 73) (x := 4) d_M_readHint_73 (by decide) ?_
    refine aw_iconst (pc := 74) (x := 1) d_M_readHint_74 (by decide) ?_
    refine aw_cVrI (pc := 75) (ci := 12) (T := TX12) (N := 44) (As := [.int 4, .int 1]) (st := []) (ok_M_readTold Y l0 4 1 q13 tl0) okV_M_readTold rfl (by decide) tl0 w8_162 d_M_readHint_75 rfl (Nat.le_of_ble_eq_true rfl) rfl (Nat.le_of_ble_eq_true rfl) (fun q14 hq14 hTq14 => ?_)
    refine aw_istore (pc := 78) (lv' := [(4, .int q14.1), (3, .int q11.1), (2, .int q7.1), (0, .ref l0), (1, .int l1)]) d_M_readHint_78 (by decide) rfl ?_
    refine aw_aload_n (pc := 80) d_M_readHint_80 rfl 3 rfl ?_
    refine aw_aload_n (pc := 81) d_M_readHint_81 rfl 3 rfl ?_
    refine aw_cVpZ (pc := 82) (ci := 12) (T := TX12) (N := 44) (As := []) (st := [.ref l0]) (ok_M_isBy Y l0 q14.2 tl0) okV_M_isBy rfl (by decide) tl0 w8_86 d_M_readHint_82 rfl (Nat.le_of_ble_eq_true rfl) rfl (Nat.le_of_ble_eq_true rfl) (fun q15 hq15 hTq15 => ?_)
    refine aw_cVrV (pc := 85) (ci := 12) (T := TX12) (N := 44) (As := [.int (b2i q15)]) (st := []) (ok_M_must Y l0 q15 q14.2 tl0) okV_M_must rfl (by decide) tl0 w8_171 d_M_readHint_85 rfl (Nat.le_of_ble_eq_true rfl) rfl (Nat.le_of_ble_eq_true rfl) (fun q16 hq16 hTq16 => ?_)
    refine aw_aload_n (pc := 88) d_M_readHint_88 rfl 3 rfl ?_
    refine aw_iconst (pc := 89) (x := 4) d_M_readHint_89 (by decide) ?_
    refine aw_iconst (pc := 90) (x := 4) d_M_readHint_90 (by decide) ?_
    refine aw_cVrI (pc := 91) (ci := 12) (T := TX12) (N := 44) (As := [.int 4, .int 4]) (st := []) (ok_M_readTold Y l0 4 4 q16 tl0) okV_M_readTold rfl (by decide) tl0 w8_162 d_M_readHint_91 rfl (Nat.le_of_ble_eq_true rfl) rfl (Nat.le_of_ble_eq_true rfl) (fun q17 hq17 hTq17 => ?_)
    refine aw_istore (pc := 94) (lv' := [(5, .int q17.1), (4, .int q14.1), (3, .int q11.1), (2, .int q7.1), (0, .ref l0), (1, .int l1)]) d_M_readHint_94 (by decide) rfl ?_
    refine aw_aload_n (pc := 96) d_M_readHint_96 rfl 4 rfl ?_
    refine gt_1212 (pc := 97) d_M_readHint_97 w7_39 tl0 ?_
    refine aw_if_le (pc := 100) (tgt := 104) d_M_readHint_100 (by decide) (fun c18 => ?_) (fun c18 => ?_)
    · refine aw_aload_n (pc := 104) d_M_readHint_104 rfl 4 rfl ?_
      refine gt_1220 (pc := 105) d_M_readHint_105 w7_47 tl0 (fun t19 => ?_)
      refine aw_sipush (pc := 108) (x := 2526) d_M_readHint_108 (by decide) ?_
      refine aw_iload_n (pc := 111) d_M_readHint_111 rfl 5 rfl ?_
      refine aw_iadd (pc := 112) d_M_readHint_112 ?_
      refine aw_iload_n (pc := 113) d_M_readHint_113 rfl 3 rfl ?_
      refine aw_iastore (pc := 114) d_M_readHint_114 t19 (fun c20 => ?_)
      refine aw_letH (fun h21 => ?_)
      refine aw_aload_n (pc := 115) d_M_readHint_115 rfl 4 rfl ?_
      refine gt_1220 (pc := 116) d_M_readHint_116 w7_47 tl0 (fun t22 => ?_)
      refine aw_sipush (pc := 119) (x := 2538) d_M_readHint_119 (by decide) ?_
      refine aw_iload_n (pc := 122) d_M_readHint_122 rfl 5 rfl ?_
      refine aw_iadd (pc := 123) d_M_readHint_123 ?_
      refine aw_iload_n (pc := 124) d_M_readHint_124 rfl 2 rfl ?_
      refine aw_iastore (pc := 125) d_M_readHint_125 t22 (fun c23 => ?_)
      refine aw_letH (fun h24 => ?_)
      refine aw_aload_n (pc := 126) d_M_readHint_126 rfl 4 rfl ?_
      refine gt_1220 (pc := 127) d_M_readHint_127 w7_47 tl0 (fun t25 => ?_)
      refine aw_sipush (pc := 130) (x := 2550) d_M_readHint_130 (by decide) ?_
      refine aw_iload_n (pc := 133) d_M_readHint_133 rfl 5 rfl ?_
      refine aw_iadd (pc := 134) d_M_readHint_134 ?_
      refine aw_iload (pc := 135) d_M_readHint_135 1 rfl ?_
      refine aw_iastore (pc := 137) d_M_readHint_137 t25 (fun c26 => ?_)
      refine aw_letH (fun h27 => ?_)
      refine aw_aload_n (pc := 138) d_M_readHint_138 rfl 4 rfl ?_
      refine gt_1220 (pc := 139) d_M_readHint_139 w7_47 tl0 (fun t28 => ?_)
      refine aw_sipush (pc := 142) (x := 2562) d_M_readHint_142 (by decide) ?_
      refine aw_iload_n (pc := 145) d_M_readHint_145 rfl 5 rfl ?_
      refine aw_iadd (pc := 146) d_M_readHint_146 ?_
      refine aw_iload (pc := 147) d_M_readHint_147 0 rfl ?_
      refine aw_iastore (pc := 149) d_M_readHint_149 t28 (fun c29 => ?_)
      refine aw_letH (fun h30 => ?_)
      refine aw_aload_n (pc := 150) d_M_readHint_150 rfl 4 rfl ?_
      refine gt_1220 (pc := 151) d_M_readHint_151 w7_47 tl0 (fun t31 => ?_)
      refine aw_sipush (pc := 154) (x := 2309) d_M_readHint_154 (by decide) ?_
      refine aw_dup2_11 (pc := 157) d_M_readHint_157 rfl rfl ?_
      refine aw_iaload (pc := 158) d_M_readHint_158 t31 (fun c32 => ?_)
      refine aw_iconst (pc := 159) (x := 1) d_M_readHint_159 (by decide) ?_
      refine aw_iadd (pc := 160) d_M_readHint_160 ?_
      refine aw_iastore (pc := 161) d_M_readHint_161 t31 (fun c33 => ?_)
      refine aw_letH (fun h34 => ?_)
      exact aw_return (pc := 162) d_M_readHint_162 rfl rfl
    · exact aw_return (pc := 103) d_M_readHint_103 rfl rfl
  · exact aw_return (pc := 32) d_M_readHint_32 rfl rfl
def M_readHint (Y : Ly) (l0 : Nat) (h : Hp) : Option Hp :=
  if inB 2309 (lnY Y (hGr h 1220 l0)) = true then
    if (hAi h (hGr h 1220 l0) (Int32.toNatClampNeg 2309)) = 12 then
      (M_fail Y l0 6 (hGi h 1215 l0) h).bind fun q4 =>
      M_readHint_J25 Y l0 (hAi h (hGr h 1220 l0) (Int32.toNatClampNeg 2309)) q4
    else
      M_readHint_J25 Y l0 (hAi h (hGr h 1220 l0) (Int32.toNatClampNeg 2309)) h
  else none
theorem ok_M_readHint (Y : Ly) (l0 : Nat) (h : Hp) (t0 : isO Y 12 l0) : AM Y 7 K_M_readHint [.ref l0] h (M_readHint Y l0 h) rV := by
  refine AM.of rfl (Nat.le_of_ble_eq_true rfl) ?_
  show AW Y 7 K_M_readHint 0 [(0, .ref l0)] [] h (M_readHint Y l0 h) rV
  unfold M_readHint
  refine aw_aload_n (pc := 0) d_M_readHint_0 rfl 0 rfl ?_
  refine gt_1220 (pc := 1) d_M_readHint_1 w7_47 t0 (fun t1 => ?_)
  refine aw_sipush (pc := 4) (x := 2309) d_M_readHint_4 (by decide) ?_
  refine aw_iaload (pc := 7) d_M_readHint_7 t1 (fun c2 => ?_)
  refine aw_istore_n (pc := 8) (lv' := [(1, .int (hAi h (hGr h 1220 l0) (Int32.toNatClampNeg 2309))), (0, .ref l0)]) d_M_readHint_8 rfl (by decide) rfl ?_
  refine aw_iload_n (pc := 9) d_M_readHint_9 rfl 0 rfl ?_
  refine aw_bipush (pc := 10) (x := 12) d_M_readHint_10 (by decide) ?_
  refine aw_icmp_ne (pc := 12) (tgt := 25) d_M_readHint_12 (by decide) (fun c3 => ?_) (fun c3 => ?_)
  · refine aw_aload_n (pc := 15) d_M_readHint_15 rfl 1 rfl ?_
    refine aw_bipush (pc := 16) (x := 6) d_M_readHint_16 (by decide) ?_
    refine aw_aload_n (pc := 18) d_M_readHint_18 rfl 1 rfl ?_
    refine gt_1215 (pc := 19) d_M_readHint_19 w7_42 t0 ?_
    refine aw_cVrV (pc := 22) (ci := 12) (T := TX12) (N := 44) (As := [.int 6, .int (hGi h 1215 l0)]) (st := []) (ok_M_fail Y l0 6 (hGi h 1215 l0) h t0) okV_M_fail rfl (by decide) t0 w8_30 d_M_readHint_22 rfl (Nat.le_of_ble_eq_true rfl) rfl (Nat.le_of_ble_eq_true rfl) (fun q4 hq4 hTq4 => ?_)
    exact aw_lv [1, 0] rfl (M_readHint_J25_ok Y l0 (hAi h (hGr h 1220 l0) (Int32.toNatClampNeg 2309)) q4 t0)
  · exact aw_lv [1, 0] rfl (M_readHint_J25_ok Y l0 (hAi h (hGr h 1220 l0) (Int32.toNatClampNeg 2309)) h t0)
/-! LastPagesModel.readOffer()V -/
theorem d_M_readOffer_0 : decode prog_14_method_81_code 0 = .ok (.aload_n 0, 1) := by decide +kernel
theorem d_M_readOffer_1 : decode prog_14_method_81_code 1 = .ok (.iconst 5, 1) := by decide +kernel
theorem d_M_readOffer_2 : decode prog_14_method_81_code 2 = .ok (.bipush 6, 2) := by decide +kernel
theorem d_M_readOffer_4 : decode prog_14_method_81_code 4 = .ok (.invokevirtual 295, 3) := by decide +kernel
theorem d_M_readOffer_7 : decode prog_14_method_81_code 7 = .ok (.istore_n 1, 1) := by decide +kernel
theorem d_M_readOffer_8 : decode prog_14_method_81_code 8 = .ok (.aload_n 0, 1) := by decide +kernel
theorem d_M_readOffer_9 : decode prog_14_method_81_code 9 = .ok (.getfield 35, 3) := by decide +kernel
theorem d_M_readOffer_12 : decode prog_14_method_81_code 12 = .ok (.sipush 2574, 3) := by decide +kernel
theorem d_M_readOffer_15 : decode prog_14_method_81_code 15 = .ok (.iload_n 1, 1) := by decide +kernel
theorem d_M_readOffer_16 : decode prog_14_method_81_code 16 = .ok (.iadd, 1) := by decide +kernel
theorem d_M_readOffer_17 : decode prog_14_method_81_code 17 = .ok (.aload_n 0, 1) := by decide +kernel
theorem d_M_readOffer_18 : decode prog_14_method_81_code 18 = .ok (.aload_n 0, 1) := by decide +kernel
theorem d_M_readOffer_19 : decode prog_14_method_81_code 19 = .ok (.invokevirtual 217, 3) := by decide +kernel
theorem d_M_readOffer_22 : decode prog_14_method_81_code 22 = .ok (.iconst 0, 1) := by decide +kernel
theorem d_M_readOffer_23 : decode prog_14_method_81_code 23 = .ok (.bipush 99, 2) := by decide +kernel
theorem d_M_readOffer_25 : decode prog_14_method_81_code 25 = .ok (.invokevirtual 298, 3) := by decide +kernel
theorem d_M_readOffer_28 : decode prog_14_method_81_code 28 = .ok (.iastore, 1) := by decide +kernel
theorem d_M_readOffer_29 : decode prog_14_method_81_code 29 = .ok (.aload_n 0, 1) := by decide +kernel
theorem d_M_readOffer_30 : decode prog_14_method_81_code 30 = .ok (.aload_n 0, 1) := by decide +kernel
theorem d_M_readOffer_31 : decode prog_14_method_81_code 31 = .ok (.invokevirtual 220, 3) := by decide +kernel
theorem d_M_readOffer_34 : decode prog_14_method_81_code 34 = .ok (.invokevirtual 261, 3) := by decide +kernel
theorem d_M_readOffer_37 : decode prog_14_method_81_code 37 = .ok (.aload_n 0, 1) := by decide +kernel
theorem d_M_readOffer_38 : decode prog_14_method_81_code 38 = .ok (.getfield 35, 3) := by decide +kernel
theorem d_M_readOffer_41 : decode prog_14_method_81_code 41 = .ok (.sipush 2580, 3) := by decide +kernel
theorem d_M_readOffer_44 : decode prog_14_method_81_code 44 = .ok (.iload_n 1, 1) := by decide +kernel
theorem d_M_readOffer_45 : decode prog_14_method_81_code 45 = .ok (.iadd, 1) := by decide +kernel
theorem d_M_readOffer_46 : decode prog_14_method_81_code 46 = .ok (.aload_n 0, 1) := by decide +kernel
theorem d_M_readOffer_47 : decode prog_14_method_81_code 47 = .ok (.invokevirtual 305, 3) := by decide +kernel
theorem d_M_readOffer_50 : decode prog_14_method_81_code 50 = .ok (.iastore, 1) := by decide +kernel
theorem d_M_readOffer_51 : decode prog_14_method_81_code 51 = .ok (.aload_n 0, 1) := by decide +kernel
theorem d_M_readOffer_52 : decode prog_14_method_81_code 52 = .ok (.getfield 245, 3) := by decide +kernel
theorem d_M_readOffer_55 : decode prog_14_method_81_code 55 = .ok (.ifCond .ne 15, 3) := by decide +kernel
theorem d_M_readOffer_58 : decode prog_14_method_81_code 58 = .ok (.aload_n 0, 1) := by decide +kernel
theorem d_M_readOffer_59 : decode prog_14_method_81_code 59 = .ok (.getfield 35, 3) := by decide +kernel
theorem d_M_readOffer_62 : decode prog_14_method_81_code 62 = .ok (.sipush 2310, 3) := by decide +kernel
theorem d_M_readOffer_65 : decode prog_14_method_81_code 65 = .ok (.dup2, 1) := by decide +kernel
theorem d_M_readOffer_66 : decode prog_14_method_81_code 66 = .ok (.iaload, 1) := by decide +kernel
theorem d_M_readOffer_67 : decode prog_14_method_81_code 67 = .ok (.iconst 1, 1) := by decide +kernel
theorem d_M_readOffer_68 : decode prog_14_method_81_code 68 = .ok (.iadd, 1) := by decide +kernel
theorem d_M_readOffer_69 : decode prog_14_method_81_code 69 = .ok (.iastore, 1) := by decide +kernel
theorem d_M_readOffer_70 : decode prog_14_method_81_code 70 = .ok (.return_, 1) := by decide +kernel
def M_readOffer (Y : Ly) (l0 : Nat) (h : Hp) : Option Hp :=
  (M_readNew Y l0 5 6 h).bind fun q1 =>
  (M_isCosts Y l0 q1.2).bind fun q3 =>
  (M_behindWord Y l0 q3 0 99 q1.2).bind fun q4 =>
  if inB (2574 + q1.1) (lnY Y (hGr q1.2 1220 l0)) = true then
    letH (hTi q4.2 (hGr q1.2 1220 l0) (Int32.toNatClampNeg (2574 + q1.1)) q4.1) fun h6 =>
    (M_isTells Y l0 h6).bind fun q7 =>
    (M_must Y l0 q7 h6).bind fun q8 =>
    (M_readBooks Y l0 q8).bind fun q10 =>
    if inB (2580 + q1.1) (lnY Y (hGr q8 1220 l0)) = true then
      letH (hTi q10.2 (hGr q8 1220 l0) (Int32.toNatClampNeg (2580 + q1.1)) q10.1) fun h12 =>
      if (hGi h12 1212 l0) = 0 then
        if inB 2310 (lnY Y (hGr h12 1220 l0)) = true then
          if inB 2310 (lnY Y (hGr h12 1220 l0)) = true then
            letH (hTi h12 (hGr h12 1220 l0) (Int32.toNatClampNeg 2310) ((hAi h12 (hGr h12 1220 l0) (Int32.toNatClampNeg 2310)) + 1)) fun h17 =>
            some h17
          else none
        else none
      else
        some h12
    else none
  else none
theorem ok_M_readOffer (Y : Ly) (l0 : Nat) (h : Hp) (t0 : isO Y 12 l0) : AM Y 8 K_M_readOffer [.ref l0] h (M_readOffer Y l0 h) rV := by
  refine AM.of rfl (Nat.le_of_ble_eq_true rfl) ?_
  show AW Y 8 K_M_readOffer 0 [(0, .ref l0)] [] h (M_readOffer Y l0 h) rV
  unfold M_readOffer
  refine aw_aload_n (pc := 0) d_M_readOffer_0 rfl 0 rfl ?_
  refine aw_iconst (pc := 1) (x := 5) d_M_readOffer_1 (by decide) ?_
  refine aw_bipush (pc := 2) (x := 6) d_M_readOffer_2 (by decide) ?_
  refine aw_cVrI (pc := 4) (ci := 12) (T := TX12) (N := 44) (As := [.int 5, .int 6]) (st := []) (ok_M_readNew Y l0 5 6 h t0) okV_M_readNew rfl (by decide) t0 w8_23 d_M_readOffer_4 rfl (Nat.le_of_ble_eq_true rfl) rfl (Nat.le_of_ble_eq_true rfl) (fun q1 hq1 hTq1 => ?_)
  refine aw_istore_n (pc := 7) (lv' := [(1, .int q1.1), (0, .ref l0)]) d_M_readOffer_7 rfl (by decide) rfl ?_
  refine aw_aload_n (pc := 8) d_M_readOffer_8 rfl 1 rfl ?_
  refine gt_1220 (pc := 9) d_M_readOffer_9 w7_47 t0 (fun t2 => ?_)
  refine aw_sipush (pc := 12) (x := 2574) d_M_readOffer_12 (by decide) ?_
  refine aw_iload_n (pc := 15) d_M_readOffer_15 rfl 0 rfl ?_
  refine aw_iadd (pc := 16) d_M_readOffer_16 ?_
  refine aw_aload_n (pc := 17) d_M_readOffer_17 rfl 1 rfl ?_
  refine aw_aload_n (pc := 18) d_M_readOffer_18 rfl 1 rfl ?_
  refine aw_cVpZ (pc := 19) (ci := 12) (T := TX12) (N := 44) (As := []) (st := [.ref l0, .int (2574 + q1.1), .ref (hGr q1.2 1220 l0)]) (ok_M_isCosts Y l0 q1.2 t0) okV_M_isCosts rfl (by decide) t0 w8_98 d_M_readOffer_19 rfl (Nat.le_of_ble_eq_true rfl) rfl (Nat.le_of_ble_eq_true rfl) (fun q3 hq3 hTq3 => ?_)
  refine aw_iconst (pc := 22) (x := 0) d_M_readOffer_22 (by decide) ?_
  refine aw_bipush (pc := 23) (x := 99) d_M_readOffer_23 (by decide) ?_
  refine aw_cVrI (pc := 25) (ci := 12) (T := TX12) (N := 44) (As := [.int (b2i q3), .int 0, .int 99]) (st := [.int (2574 + q1.1), .ref (hGr q1.2 1220 l0)]) (ok_M_behindWord Y l0 q3 0 99 q1.2 t0) okV_M_behindWord rfl (by decide) t0 w8_179 d_M_readOffer_25 rfl (Nat.le_of_ble_eq_true rfl) rfl (Nat.le_of_ble_eq_true rfl) (fun q4 hq4 hTq4 => ?_)
  refine aw_iastore (pc := 28) d_M_readOffer_28 t2 (fun c5 => ?_)
  refine aw_letH (fun h6 => ?_)
  refine aw_aload_n (pc := 29) d_M_readOffer_29 rfl 1 rfl ?_
  refine aw_aload_n (pc := 30) d_M_readOffer_30 rfl 1 rfl ?_
  refine aw_cVpZ (pc := 31) (ci := 12) (T := TX12) (N := 44) (As := []) (st := [.ref l0]) (ok_M_isTells Y l0 h6 t0) okV_M_isTells rfl (by decide) t0 w8_102 d_M_readOffer_31 rfl (Nat.le_of_ble_eq_true rfl) rfl (Nat.le_of_ble_eq_true rfl) (fun q7 hq7 hTq7 => ?_)
  refine aw_cVrV (pc := 34) (ci := 12) (T := TX12) (N := 44) (As := [.int (b2i q7)]) (st := []) (ok_M_must Y l0 q7 h6 t0) okV_M_must rfl (by decide) t0 w8_171 d_M_readOffer_34 rfl (Nat.le_of_ble_eq_true rfl) rfl (Nat.le_of_ble_eq_true rfl) (fun q8 hq8 hTq8 => ?_)
  refine aw_aload_n (pc := 37) d_M_readOffer_37 rfl 1 rfl ?_
  refine gt_1220 (pc := 38) d_M_readOffer_38 w7_47 t0 (fun t9 => ?_)
  refine aw_sipush (pc := 41) (x := 2580) d_M_readOffer_41 (by decide) ?_
  refine aw_iload_n (pc := 44) d_M_readOffer_44 rfl 0 rfl ?_
  refine aw_iadd (pc := 45) d_M_readOffer_45 ?_
  refine aw_aload_n (pc := 46) d_M_readOffer_46 rfl 1 rfl ?_
  refine aw_cVrI (pc := 47) (ci := 12) (T := TX12) (N := 44) (As := []) (st := [.int (2580 + q1.1), .ref (hGr q8 1220 l0)]) (ok_M_readBooks Y l0 q8 t0) okV_M_readBooks rfl (by decide) t0 w8_203 d_M_readOffer_47 rfl (Nat.le_of_ble_eq_true rfl) rfl (Nat.le_of_ble_eq_true rfl) (fun q10 hq10 hTq10 => ?_)
  refine aw_iastore (pc := 50) d_M_readOffer_50 t9 (fun c11 => ?_)
  refine aw_letH (fun h12 => ?_)
  refine aw_aload_n (pc := 51) d_M_readOffer_51 rfl 1 rfl ?_
  refine gt_1212 (pc := 52) d_M_readOffer_52 w7_39 t0 ?_
  refine aw_if_ne (pc := 55) (tgt := 70) d_M_readOffer_55 (by decide) (fun c13 => ?_) (fun c13 => ?_)
  · refine aw_aload_n (pc := 58) d_M_readOffer_58 rfl 1 rfl ?_
    refine gt_1220 (pc := 59) d_M_readOffer_59 w7_47 t0 (fun t14 => ?_)
    refine aw_sipush (pc := 62) (x := 2310) d_M_readOffer_62 (by decide) ?_
    refine aw_dup2_11 (pc := 65) d_M_readOffer_65 rfl rfl ?_
    refine aw_iaload (pc := 66) d_M_readOffer_66 t14 (fun c15 => ?_)
    refine aw_iconst (pc := 67) (x := 1) d_M_readOffer_67 (by decide) ?_
    refine aw_iadd (pc := 68) d_M_readOffer_68 ?_
    refine aw_iastore (pc := 69) d_M_readOffer_69 t14 (fun c16 => ?_)
    refine aw_letH (fun h17 => ?_)
    exact aw_return (pc := 70) d_M_readOffer_70 rfl rfl
  · exact aw_return (pc := 70) d_M_readOffer_70 rfl rfl
/-! LastPagesModel.readReader()V -/
theorem d_M_readReader_0 : decode prog_14_method_80_code 0 = .ok (.aload_n 0, 1) := by decide +kernel
theorem d_M_readReader_1 : decode prog_14_method_80_code 1 = .ok (.iconst 4, 1) := by decide +kernel
theorem d_M_readReader_2 : decode prog_14_method_80_code 2 = .ok (.bipush 6, 2) := by decide +kernel
theorem d_M_readReader_4 : decode prog_14_method_80_code 4 = .ok (.invokevirtual 295, 3) := by decide +kernel
theorem d_M_readReader_7 : decode prog_14_method_80_code 7 = .ok (.pop, 1) := by decide +kernel
theorem d_M_readReader_8 : decode prog_14_method_80_code 8 = .ok (.aload_n 0, 1) := by decide +kernel
theorem d_M_readReader_9 : decode prog_14_method_80_code 9 = .ok (.getfield 245, 3) := by decide +kernel
theorem d_M_readReader_12 : decode prog_14_method_80_code 12 = .ok (.ifCond .ne 15, 3) := by decide +kernel
theorem d_M_readReader_15 : decode prog_14_method_80_code 15 = .ok (.aload_n 0, 1) := by decide +kernel
theorem d_M_readReader_16 : decode prog_14_method_80_code 16 = .ok (.getfield 35, 3) := by decide +kernel
theorem d_M_readReader_19 : decode prog_14_method_80_code 19 = .ok (.sipush 2308, 3) := by decide +kernel
theorem d_M_readReader_22 : decode prog_14_method_80_code 22 = .ok (.dup2, 1) := by decide +kernel
theorem d_M_readReader_23 : decode prog_14_method_80_code 23 = .ok (.iaload, 1) := by decide +kernel
theorem d_M_readReader_24 : decode prog_14_method_80_code 24 = .ok (.iconst 1, 1) := by decide +kernel
theorem d_M_readReader_25 : decode prog_14_method_80_code 25 = .ok (.iadd, 1) := by decide +kernel
theorem d_M_readReader_26 : decode prog_14_method_80_code 26 = .ok (.iastore, 1) := by decide +kernel
theorem d_M_readReader_27 : decode prog_14_method_80_code 27 = .ok (.return_, 1) := by decide +kernel
def M_readReader (Y : Ly) (l0 : Nat) (h : Hp) : Option Hp :=
  (M_readNew Y l0 4 6 h).bind fun q1 =>
  if (hGi q1.2 1212 l0) = 0 then
    if inB 2308 (lnY Y (hGr q1.2 1220 l0)) = true then
      if inB 2308 (lnY Y (hGr q1.2 1220 l0)) = true then
        letH (hTi q1.2 (hGr q1.2 1220 l0) (Int32.toNatClampNeg 2308) ((hAi q1.2 (hGr q1.2 1220 l0) (Int32.toNatClampNeg 2308)) + 1)) fun h6 =>
        some h6
      else none
    else none
  else
    some q1.2
theorem ok_M_readReader (Y : Ly) (l0 : Nat) (h : Hp) (t0 : isO Y 12 l0) : AM Y 6 K_M_readReader [.ref l0] h (M_readReader Y l0 h) rV := by
  refine AM.of rfl (Nat.le_of_ble_eq_true rfl) ?_
  show AW Y 6 K_M_readReader 0 [(0, .ref l0)] [] h (M_readReader Y l0 h) rV
  unfold M_readReader
  refine aw_aload_n (pc := 0) d_M_readReader_0 rfl 0 rfl ?_
  refine aw_iconst (pc := 1) (x := 4) d_M_readReader_1 (by decide) ?_
  refine aw_bipush (pc := 2) (x := 6) d_M_readReader_2 (by decide) ?_
  refine aw_cVrI (pc := 4) (ci := 12) (T := TX12) (N := 44) (As := [.int 4, .int 6]) (st := []) (ok_M_readNew Y l0 4 6 h t0) okV_M_readNew rfl (by decide) t0 w8_23 d_M_readReader_4 rfl (Nat.le_of_ble_eq_true rfl) rfl (Nat.le_of_ble_eq_true rfl) (fun q1 hq1 hTq1 => ?_)
  refine aw_pop (pc := 7) d_M_readReader_7 rfl ?_
  refine aw_aload_n (pc := 8) d_M_readReader_8 rfl 0 rfl ?_
  refine gt_1212 (pc := 9) d_M_readReader_9 w7_39 t0 ?_
  refine aw_if_ne (pc := 12) (tgt := 27) d_M_readReader_12 (by decide) (fun c2 => ?_) (fun c2 => ?_)
  · refine aw_aload_n (pc := 15) d_M_readReader_15 rfl 0 rfl ?_
    refine gt_1220 (pc := 16) d_M_readReader_16 w7_47 t0 (fun t3 => ?_)
    refine aw_sipush (pc := 19) (x := 2308) d_M_readReader_19 (by decide) ?_
    refine aw_dup2_11 (pc := 22) d_M_readReader_22 rfl rfl ?_
    refine aw_iaload (pc := 23) d_M_readReader_23 t3 (fun c4 => ?_)
    refine aw_iconst (pc := 24) (x := 1) d_M_readReader_24 (by decide) ?_
    refine aw_iadd (pc := 25) d_M_readReader_25 ?_
    refine aw_iastore (pc := 26) d_M_readReader_26 t3 (fun c5 => ?_)
    refine aw_letH (fun h6 => ?_)
    exact aw_return (pc := 27) d_M_readReader_27 rfl rfl
  · exact aw_return (pc := 27) d_M_readReader_27 rfl rfl
/-! LastPagesModel.readRule()V -/
theorem d_M_readRule_0 : decode prog_14_method_76_code 0 = .ok (.aload_n 0, 1) := by decide +kernel
theorem d_M_readRule_1 : decode prog_14_method_76_code 1 = .ok (.invokevirtual 255, 3) := by decide +kernel
theorem d_M_readRule_4 : decode prog_14_method_76_code 4 = .ok (.aload_n 0, 1) := by decide +kernel
theorem d_M_readRule_5 : decode prog_14_method_76_code 5 = .ok (.iconst 4, 1) := by decide +kernel
theorem d_M_readRule_6 : decode prog_14_method_76_code 6 = .ok (.iconst 0, 1) := by decide +kernel
theorem d_M_readRule_7 : decode prog_14_method_76_code 7 = .ok (.invokevirtual 292, 3) := by decide +kernel
theorem d_M_readRule_10 : decode prog_14_method_76_code 10 = .ok (.istore_n 1, 1) := by decide +kernel
theorem d_M_readRule_11 : decode prog_14_method_76_code 11 = .ok (.aload_n 0, 1) := by decide +kernel
theorem d_M_readRule_12 : decode prog_14_method_76_code 12 = .ok (.iconst 4, 1) := by decide +kernel
theorem d_M_readRule_13 : decode prog_14_method_76_code 13 = .ok (.iconst 1, 1) := by decide +kernel
theorem d_M_readRule_14 : decode prog_14_method_76_code 14 = .ok (.invokevirtual 292, 3) := by decide +kernel
theorem d_M_readRule_17 : decode prog_14_method_76_code 17 = .ok (.istore_n 2, 1) := by decide +kernel
theorem d_M_readRule_18 : decode prog_14_method_76_code 18 = .ok (.aload_n 0, 1) := by decide +kernel
theorem d_M_readRule_19 : decode prog_14_method_76_code 19 = .ok (.aload_n 0, 1) := by decide +kernel
theorem d_M_readRule_20 : decode prog_14_method_76_code 20 = .ok (.invokevirtual 184, 3) := by decide +kernel
theorem d_M_readRule_23 : decode prog_14_method_76_code 23 = .ok (.invokevirtual 261, 3) := by decide +kernel
theorem d_M_readRule_26 : decode prog_14_method_76_code 26 = .ok (.aload_n 0, 1) := by decide +kernel
theorem d_M_readRule_27 : decode prog_14_method_76_code 27 = .ok (.iconst 4, 1) := by decide +kernel
theorem d_M_readRule_28 : decode prog_14_method_76_code 28 = .ok (.iconst 0, 1) := by decide +kernel
theorem d_M_readRule_29 : decode prog_14_method_76_code 29 = .ok (.invokevirtual 292, 3) := by decide +kernel
theorem d_M_readRule_32 : decode prog_14_method_76_code 32 = .ok (.istore_n 3, 1) := by decide +kernel
theorem d_M_readRule_33 : decode prog_14_method_76_code 33 = .ok (.aload_n 0, 1) := by decide +kernel
theorem d_M_readRule_34 : decode prog_14_method_76_code 34 = .ok (.getfield 245, 3) := by decide +kernel
theorem d_M_readRule_37 : decode prog_14_method_76_code 37 = .ok (.ifCond .ne 19, 3) := by decide +kernel
theorem d_M_readRule_40 : decode prog_14_method_76_code 40 = .ok (.aload_n 0, 1) := by decide +kernel
theorem d_M_readRule_41 : decode prog_14_method_76_code 41 = .ok (.getfield 35, 3) := by decide +kernel
theorem d_M_readRule_44 : decode prog_14_method_76_code 44 = .ok (.sipush 2322, 3) := by decide +kernel
theorem d_M_readRule_47 : decode prog_14_method_76_code 47 = .ok (.bipush 8, 2) := by decide +kernel
theorem d_M_readRule_49 : decode prog_14_method_76_code 49 = .ok (.iload_n 1, 1) := by decide +kernel
theorem d_M_readRule_50 : decode prog_14_method_76_code 50 = .ok (.imul, 1) := by decide +kernel
theorem d_M_readRule_51 : decode prog_14_method_76_code 51 = .ok (.iadd, 1) := by decide +kernel
theorem d_M_readRule_52 : decode prog_14_method_76_code 52 = .ok (.iload_n 2, 1) := by decide +kernel
theorem d_M_readRule_53 : decode prog_14_method_76_code 53 = .ok (.iadd, 1) := by decide +kernel
theorem d_M_readRule_54 : decode prog_14_method_76_code 54 = .ok (.iload_n 3, 1) := by decide +kernel
theorem d_M_readRule_55 : decode prog_14_method_76_code 55 = .ok (.iastore, 1) := by decide +kernel
theorem d_M_readRule_56 : decode prog_14_method_76_code 56 = .ok (.return_, 1) := by decide +kernel
def M_readRule (Y : Ly) (l0 : Nat) (h : Hp) : Option Hp :=
  (M_advance Y l0 h).bind fun q1 =>
  (M_readTold Y l0 4 0 q1).bind fun q2 =>
  (M_readTold Y l0 4 1 q2.2).bind fun q3 =>
  (M_isTo Y l0 q3.2).bind fun q4 =>
  (M_must Y l0 q4 q3.2).bind fun q5 =>
  (M_readTold Y l0 4 0 q5).bind fun q6 =>
  if (hGi q6.2 1212 l0) = 0 then
    if inB ((2322 + (8 * q2.1)) + q3.1) (lnY Y (hGr q6.2 1220 l0)) = true then
      letH (hTi q6.2 (hGr q6.2 1220 l0) (Int32.toNatClampNeg ((2322 + (8 * q2.1)) + q3.1)) q6.1) fun h10 =>
      some h10
    else none
  else
    some q6.2
theorem ok_M_readRule (Y : Ly) (l0 : Nat) (h : Hp) (t0 : isO Y 12 l0) : AM Y 7 K_M_readRule [.ref l0] h (M_readRule Y l0 h) rV := by
  refine AM.of rfl (Nat.le_of_ble_eq_true rfl) ?_
  show AW Y 7 K_M_readRule 0 [(0, .ref l0)] [] h (M_readRule Y l0 h) rV
  unfold M_readRule
  refine aw_aload_n (pc := 0) d_M_readRule_0 rfl 0 rfl ?_
  refine aw_cVrV (pc := 1) (ci := 12) (T := TX12) (N := 44) (As := []) (st := []) (ok_M_advance Y l0 h t0) okV_M_advance rfl (by decide) t0 w7_224 d_M_readRule_1 rfl (Nat.le_of_ble_eq_true rfl) rfl (Nat.le_of_ble_eq_true rfl) (fun q1 hq1 hTq1 => ?_)
  refine aw_aload_n (pc := 4) d_M_readRule_4 rfl 0 rfl ?_
  refine aw_iconst (pc := 5) (x := 4) d_M_readRule_5 (by decide) ?_
  refine aw_iconst (pc := 6) (x := 0) d_M_readRule_6 (by decide) ?_
  refine aw_cVrI (pc := 7) (ci := 12) (T := TX12) (N := 44) (As := [.int 4, .int 0]) (st := []) (ok_M_readTold Y l0 4 0 q1 t0) okV_M_readTold rfl (by decide) t0 w8_162 d_M_readRule_7 rfl (Nat.le_of_ble_eq_true rfl) rfl (Nat.le_of_ble_eq_true rfl) (fun q2 hq2 hTq2 => ?_)
  refine aw_istore_n (pc := 10) (lv' := [(1, .int q2.1), (0, .ref l0)]) d_M_readRule_10 rfl (by decide) rfl ?_
  refine aw_aload_n (pc := 11) d_M_readRule_11 rfl 1 rfl ?_
  refine aw_iconst (pc := 12) (x := 4) d_M_readRule_12 (by decide) ?_
  refine aw_iconst (pc := 13) (x := 1) d_M_readRule_13 (by decide) ?_
  refine aw_cVrI (pc := 14) (ci := 12) (T := TX12) (N := 44) (As := [.int 4, .int 1]) (st := []) (ok_M_readTold Y l0 4 1 q2.2 t0) okV_M_readTold rfl (by decide) t0 w8_162 d_M_readRule_14 rfl (Nat.le_of_ble_eq_true rfl) rfl (Nat.le_of_ble_eq_true rfl) (fun q3 hq3 hTq3 => ?_)
  refine aw_istore_n (pc := 17) (lv' := [(2, .int q3.1), (1, .int q2.1), (0, .ref l0)]) d_M_readRule_17 rfl (by decide) rfl ?_
  refine aw_aload_n (pc := 18) d_M_readRule_18 rfl 2 rfl ?_
  refine aw_aload_n (pc := 19) d_M_readRule_19 rfl 2 rfl ?_
  refine aw_cVpZ (pc := 20) (ci := 12) (T := TX12) (N := 44) (As := []) (st := [.ref l0]) (ok_M_isTo Y l0 q3.2 t0) okV_M_isTo rfl (by decide) t0 w8_54 d_M_readRule_20 rfl (Nat.le_of_ble_eq_true rfl) rfl (Nat.le_of_ble_eq_true rfl) (fun q4 hq4 hTq4 => ?_)
  refine aw_cVrV (pc := 23) (ci := 12) (T := TX12) (N := 44) (As := [.int (b2i q4)]) (st := []) (ok_M_must Y l0 q4 q3.2 t0) okV_M_must rfl (by decide) t0 w8_171 d_M_readRule_23 rfl (Nat.le_of_ble_eq_true rfl) rfl (Nat.le_of_ble_eq_true rfl) (fun q5 hq5 hTq5 => ?_)
  refine aw_aload_n (pc := 26) d_M_readRule_26 rfl 2 rfl ?_
  refine aw_iconst (pc := 27) (x := 4) d_M_readRule_27 (by decide) ?_
  refine aw_iconst (pc := 28) (x := 0) d_M_readRule_28 (by decide) ?_
  refine aw_cVrI (pc := 29) (ci := 12) (T := TX12) (N := 44) (As := [.int 4, .int 0]) (st := []) (ok_M_readTold Y l0 4 0 q5 t0) okV_M_readTold rfl (by decide) t0 w8_162 d_M_readRule_29 rfl (Nat.le_of_ble_eq_true rfl) rfl (Nat.le_of_ble_eq_true rfl) (fun q6 hq6 hTq6 => ?_)
  refine aw_istore_n (pc := 32) (lv' := [(3, .int q6.1), (2, .int q3.1), (1, .int q2.1), (0, .ref l0)]) d_M_readRule_32 rfl (by decide) rfl ?_
  refine aw_aload_n (pc := 33) d_M_readRule_33 rfl 3 rfl ?_
  refine gt_1212 (pc := 34) d_M_readRule_34 w7_39 t0 ?_
  refine aw_if_ne (pc := 37) (tgt := 56) d_M_readRule_37 (by decide) (fun c7 => ?_) (fun c7 => ?_)
  · refine aw_aload_n (pc := 40) d_M_readRule_40 rfl 3 rfl ?_
    refine gt_1220 (pc := 41) d_M_readRule_41 w7_47 t0 (fun t8 => ?_)
    refine aw_sipush (pc := 44) (x := 2322) d_M_readRule_44 (by decide) ?_
    refine aw_bipush (pc := 47) (x := 8) d_M_readRule_47 (by decide) ?_
    refine aw_iload_n (pc := 49) d_M_readRule_49 rfl 2 rfl ?_
    refine aw_imul (pc := 50) d_M_readRule_50 ?_
    refine aw_iadd (pc := 51) d_M_readRule_51 ?_
    refine aw_iload_n (pc := 52) d_M_readRule_52 rfl 1 rfl ?_
    refine aw_iadd (pc := 53) d_M_readRule_53 ?_
    refine aw_iload_n (pc := 54) d_M_readRule_54 rfl 0 rfl ?_
    refine aw_iastore (pc := 55) d_M_readRule_55 t8 (fun c9 => ?_)
    refine aw_letH (fun h10 => ?_)
    exact aw_return (pc := 56) d_M_readRule_56 rfl rfl
  · exact aw_return (pc := 56) d_M_readRule_56 rfl rfl
/-! LastPagesModel.readState()V -/
theorem d_M_readState_0 : decode prog_14_method_74_code 0 = .ok (.aload_n 0, 1) := by decide +kernel
theorem d_M_readState_1 : decode prog_14_method_74_code 1 = .ok (.iconst 0, 1) := by decide +kernel
theorem d_M_readState_2 : decode prog_14_method_74_code 2 = .ok (.bipush 8, 2) := by decide +kernel
theorem d_M_readState_4 : decode prog_14_method_74_code 4 = .ok (.invokevirtual 295, 3) := by decide +kernel
theorem d_M_readState_7 : decode prog_14_method_74_code 7 = .ok (.istore_n 1, 1) := by decide +kernel
theorem d_M_readState_8 : decode prog_14_method_74_code 8 = .ok (.aload_n 0, 1) := by decide +kernel
theorem d_M_readState_9 : decode prog_14_method_74_code 9 = .ok (.getfield 245, 3) := by decide +kernel
theorem d_M_readState_12 : decode prog_14_method_74_code 12 = .ok (.ifCond .ne 28, 3) := by decide +kernel
theorem d_M_readState_15 : decode prog_14_method_74_code 15 = .ok (.aload_n 0, 1) := by decide +kernel
theorem d_M_readState_16 : decode prog_14_method_74_code 16 = .ok (.invokevirtual 175, 3) := by decide +kernel
theorem d_M_readState_19 : decode prog_14_method_74_code 19 = .ok (.ifCond .eq 21, 3) := by decide +kernel
theorem d_M_readState_22 : decode prog_14_method_74_code 22 = .ok (.aload_n 0, 1) := by decide +kernel
theorem d_M_readState_23 : decode prog_14_method_74_code 23 = .ok (.invokevirtual 255, 3) := by decide +kernel
theorem d_M_readState_26 : decode prog_14_method_74_code 26 = .ok (.aload_n 0, 1) := by decide +kernel
theorem d_M_readState_27 : decode prog_14_method_74_code 27 = .ok (.getfield 35, 3) := by decide +kernel
theorem d_M_readState_30 : decode prog_14_method_74_code 30 = .ok (.sipush 2312, 3) := by decide +kernel
theorem d_M_readState_33 : decode prog_14_method_74_code 33 = .ok (.dup2, 1) := by decide +kernel
theorem d_M_readState_34 : decode prog_14_method_74_code 34 = .ok (.iaload, 1) := by decide +kernel
theorem d_M_readState_35 : decode prog_14_method_74_code 35 = .ok (.iconst 1, 1) := by decide +kernel
theorem d_M_readState_36 : decode prog_14_method_74_code 36 = .ok (.iload_n 1, 1) := by decide +kernel
theorem d_M_readState_37 : decode prog_14_method_74_code 37 = .ok (.ishl, 1) := by decide +kernel
theorem d_M_readState_38 : decode prog_14_method_74_code 38 = .ok (.ior, 1) := by decide +kernel
theorem d_M_readState_39 : decode prog_14_method_74_code 39 = .ok (.iastore, 1) := by decide +kernel
theorem d_M_readState_40 : decode prog_14_method_74_code 40 = .ok (.aload_n 0, 1) := by decide +kernel
theorem d_M_readState_41 : decode prog_14_method_74_code 41 = .ok (.getfield 245, 3) := by decide +kernel
theorem d_M_readState_44 : decode prog_14_method_74_code 44 = .ok (.ifCond .ne 15, 3) := by decide +kernel
theorem d_M_readState_47 : decode prog_14_method_74_code 47 = .ok (.aload_n 0, 1) := by decide +kernel
theorem d_M_readState_48 : decode prog_14_method_74_code 48 = .ok (.getfield 35, 3) := by decide +kernel
theorem d_M_readState_51 : decode prog_14_method_74_code 51 = .ok (.sipush 2304, 3) := by decide +kernel
theorem d_M_readState_54 : decode prog_14_method_74_code 54 = .ok (.dup2, 1) := by decide +kernel
theorem d_M_readState_55 : decode prog_14_method_74_code 55 = .ok (.iaload, 1) := by decide +kernel
theorem d_M_readState_56 : decode prog_14_method_74_code 56 = .ok (.iconst 1, 1) := by decide +kernel
theorem d_M_readState_57 : decode prog_14_method_74_code 57 = .ok (.iadd, 1) := by decide +kernel
theorem d_M_readState_58 : decode prog_14_method_74_code 58 = .ok (.iastore, 1) := by decide +kernel
theorem d_M_readState_59 : decode prog_14_method_74_code 59 = .ok (.return_, 1) := by decide +kernel
def M_readState_J40 (Y : Ly) (l0 : Nat) (h : Hp) : Option Hp :=
  if (hGi h 1212 l0) = 0 then
    if inB 2304 (lnY Y (hGr h 1220 l0)) = true then
      if inB 2304 (lnY Y (hGr h 1220 l0)) = true then
        letH (hTi h (hGr h 1220 l0) (Int32.toNatClampNeg 2304) ((hAi h (hGr h 1220 l0) (Int32.toNatClampNeg 2304)) + 1)) fun h14 =>
        some h14
      else none
    else none
  else
    some h
theorem M_readState_J40_ok (Y : Ly) (l0 : Nat) (h : Hp) (tl0 : isO Y 12 l0) : AW Y 6 K_M_readState 40 [(0, .ref l0)] [] h (M_readState_J40 Y l0 h) rV := by
  unfold M_readState_J40
  refine aw_aload_n (pc := 40) d_M_readState_40 rfl 0 rfl ?_
  refine gt_1212 (pc := 41) d_M_readState_41 w7_39 tl0 ?_
  refine aw_if_ne (pc := 44) (tgt := 59) d_M_readState_44 (by decide) (fun c10 => ?_) (fun c10 => ?_)
  · refine aw_aload_n (pc := 47) d_M_readState_47 rfl 0 rfl ?_
    refine gt_1220 (pc := 48) d_M_readState_48 w7_47 tl0 (fun t11 => ?_)
    refine aw_sipush (pc := 51) (x := 2304) d_M_readState_51 (by decide) ?_
    refine aw_dup2_11 (pc := 54) d_M_readState_54 rfl rfl ?_
    refine aw_iaload (pc := 55) d_M_readState_55 t11 (fun c12 => ?_)
    refine aw_iconst (pc := 56) (x := 1) d_M_readState_56 (by decide) ?_
    refine aw_iadd (pc := 57) d_M_readState_57 ?_
    refine aw_iastore (pc := 58) d_M_readState_58 t11 (fun c13 => ?_)
    refine aw_letH (fun h14 => ?_)
    exact aw_return (pc := 59) d_M_readState_59 rfl rfl
  · exact aw_return (pc := 59) d_M_readState_59 rfl rfl
def M_readState (Y : Ly) (l0 : Nat) (h : Hp) : Option Hp :=
  (M_readNew Y l0 0 8 h).bind fun q1 =>
  if (hGi q1.2 1212 l0) = 0 then
    (M_isFinal Y l0 q1.2).bind fun q3 =>
    if q3 = true then
      (M_advance Y l0 q1.2).bind fun q5 =>
      if inB 2312 (lnY Y (hGr q5 1220 l0)) = true then
        if inB 2312 (lnY Y (hGr q5 1220 l0)) = true then
          letH (hTi q5 (hGr q5 1220 l0) (Int32.toNatClampNeg 2312) ((hAi q5 (hGr q5 1220 l0) (Int32.toNatClampNeg 2312)) ||| (1 <<< (q1.1 &&& 31)))) fun h9 =>
          M_readState_J40 Y l0 h9
        else none
      else none
    else
      M_readState_J40 Y l0 q1.2
  else
    M_readState_J40 Y l0 q1.2
theorem ok_M_readState (Y : Ly) (l0 : Nat) (h : Hp) (t0 : isO Y 12 l0) : AM Y 6 K_M_readState [.ref l0] h (M_readState Y l0 h) rV := by
  refine AM.of rfl (Nat.le_of_ble_eq_true rfl) ?_
  show AW Y 6 K_M_readState 0 [(0, .ref l0)] [] h (M_readState Y l0 h) rV
  unfold M_readState
  refine aw_aload_n (pc := 0) d_M_readState_0 rfl 0 rfl ?_
  refine aw_iconst (pc := 1) (x := 0) d_M_readState_1 (by decide) ?_
  refine aw_bipush (pc := 2) (x := 8) d_M_readState_2 (by decide) ?_
  refine aw_cVrI (pc := 4) (ci := 12) (T := TX12) (N := 44) (As := [.int 0, .int 8]) (st := []) (ok_M_readNew Y l0 0 8 h t0) okV_M_readNew rfl (by decide) t0 w8_23 d_M_readState_4 rfl (Nat.le_of_ble_eq_true rfl) rfl (Nat.le_of_ble_eq_true rfl) (fun q1 hq1 hTq1 => ?_)
  refine aw_istore_n (pc := 7) (lv' := [(1, .int q1.1), (0, .ref l0)]) d_M_readState_7 rfl (by decide) rfl ?_
  refine aw_aload_n (pc := 8) d_M_readState_8 rfl 1 rfl ?_
  refine gt_1212 (pc := 9) d_M_readState_9 w7_39 t0 ?_
  refine aw_if_ne (pc := 12) (tgt := 40) d_M_readState_12 (by decide) (fun c2 => ?_) (fun c2 => ?_)
  · refine aw_aload_n (pc := 15) d_M_readState_15 rfl 1 rfl ?_
    refine aw_cVpZ (pc := 16) (ci := 12) (T := TX12) (N := 44) (As := []) (st := []) (ok_M_isFinal Y l0 q1.2 t0) okV_M_isFinal rfl (by decide) t0 w8_42 d_M_readState_16 rfl (Nat.le_of_ble_eq_true rfl) rfl (Nat.le_of_ble_eq_true rfl) (fun q3 hq3 hTq3 => ?_)
    refine aw_beq (pc := 19) (tgt := 40) d_M_readState_19 (by decide) (fun c4 => ?_) (fun c4 => ?_)
    · refine aw_aload_n (pc := 22) d_M_readState_22 rfl 1 rfl ?_
      refine aw_cVrV (pc := 23) (ci := 12) (T := TX12) (N := 44) (As := []) (st := []) (ok_M_advance Y l0 q1.2 t0) okV_M_advance rfl (by decide) t0 w7_224 d_M_readState_23 rfl (Nat.le_of_ble_eq_true rfl) rfl (Nat.le_of_ble_eq_true rfl) (fun q5 hq5 hTq5 => ?_)
      refine aw_aload_n (pc := 26) d_M_readState_26 rfl 1 rfl ?_
      refine gt_1220 (pc := 27) d_M_readState_27 w7_47 t0 (fun t6 => ?_)
      refine aw_sipush (pc := 30) (x := 2312) d_M_readState_30 (by decide) ?_
      refine aw_dup2_11 (pc := 33) d_M_readState_33 rfl rfl ?_
      refine aw_iaload (pc := 34) d_M_readState_34 t6 (fun c7 => ?_)
      refine aw_iconst (pc := 35) (x := 1) d_M_readState_35 (by decide) ?_
      refine aw_iload_n (pc := 36) d_M_readState_36 rfl 0 rfl ?_
      refine aw_ishl (pc := 37) d_M_readState_37 ?_
      refine aw_ior (pc := 38) d_M_readState_38 ?_
      refine aw_iastore (pc := 39) d_M_readState_39 t6 (fun c8 => ?_)
      refine aw_letH (fun h9 => ?_)
      exact aw_lv [1] rfl (M_readState_J40_ok Y l0 h9 t0)
    · exact aw_lv [1] rfl (M_readState_J40_ok Y l0 q1.2 t0)
  · exact aw_lv [1] rfl (M_readState_J40_ok Y l0 q1.2 t0)
/-! LastPagesModel.readTurn()V -/
theorem d_M_readTurn_0 : decode prog_14_method_75_code 0 = .ok (.aload_n 0, 1) := by decide +kernel
theorem d_M_readTurn_1 : decode prog_14_method_75_code 1 = .ok (.iconst 1, 1) := by decide +kernel
theorem d_M_readTurn_2 : decode prog_14_method_75_code 2 = .ok (.bipush 8, 2) := by decide +kernel
theorem d_M_readTurn_4 : decode prog_14_method_75_code 4 = .ok (.invokevirtual 295, 3) := by decide +kernel
theorem d_M_readTurn_7 : decode prog_14_method_75_code 7 = .ok (.istore_n 1, 1) := by decide +kernel
theorem d_M_readTurn_8 : decode prog_14_method_75_code 8 = .ok (.aload_n 0, 1) := by decide +kernel
theorem d_M_readTurn_9 : decode prog_14_method_75_code 9 = .ok (.getfield 35, 3) := by decide +kernel
theorem d_M_readTurn_12 : decode prog_14_method_75_code 12 = .ok (.sipush 2314, 3) := by decide +kernel
theorem d_M_readTurn_15 : decode prog_14_method_75_code 15 = .ok (.iload_n 1, 1) := by decide +kernel
theorem d_M_readTurn_16 : decode prog_14_method_75_code 16 = .ok (.iadd, 1) := by decide +kernel
theorem d_M_readTurn_17 : decode prog_14_method_75_code 17 = .ok (.iconst 1, 1) := by decide +kernel
theorem d_M_readTurn_18 : decode prog_14_method_75_code 18 = .ok (.iastore, 1) := by decide +kernel
theorem d_M_readTurn_19 : decode prog_14_method_75_code 19 = .ok (.aload_n 0, 1) := by decide +kernel
theorem d_M_readTurn_20 : decode prog_14_method_75_code 20 = .ok (.getfield 245, 3) := by decide +kernel
theorem d_M_readTurn_23 : decode prog_14_method_75_code 23 = .ok (.ifCond .ne 31, 3) := by decide +kernel
theorem d_M_readTurn_26 : decode prog_14_method_75_code 26 = .ok (.aload_n 0, 1) := by decide +kernel
theorem d_M_readTurn_27 : decode prog_14_method_75_code 27 = .ok (.invokevirtual 168, 3) := by decide +kernel
theorem d_M_readTurn_30 : decode prog_14_method_75_code 30 = .ok (.ifCond .eq 24, 3) := by decide +kernel
theorem d_M_readTurn_33 : decode prog_14_method_75_code 33 = .ok (.aload_n 0, 1) := by decide +kernel
theorem d_M_readTurn_34 : decode prog_14_method_75_code 34 = .ok (.invokevirtual 255, 3) := by decide +kernel
theorem d_M_readTurn_37 : decode prog_14_method_75_code 37 = .ok (.aload_n 0, 1) := by decide +kernel
theorem d_M_readTurn_38 : decode prog_14_method_75_code 38 = .ok (.getfield 35, 3) := by decide +kernel
theorem d_M_readTurn_41 : decode prog_14_method_75_code 41 = .ok (.sipush 2314, 3) := by decide +kernel
theorem d_M_readTurn_44 : decode prog_14_method_75_code 44 = .ok (.iload_n 1, 1) := by decide +kernel
theorem d_M_readTurn_45 : decode prog_14_method_75_code 45 = .ok (.iadd, 1) := by decide +kernel
theorem d_M_readTurn_46 : decode prog_14_method_75_code 46 = .ok (.aload_n 0, 1) := by decide +kernel
theorem d_M_readTurn_47 : decode prog_14_method_75_code 47 = .ok (.iconst 0, 1) := by decide +kernel
theorem d_M_readTurn_48 : decode prog_14_method_75_code 48 = .ok (.bipush 9, 2) := by decide +kernel
theorem d_M_readTurn_50 : decode prog_14_method_75_code 50 = .ok (.invokevirtual 265, 3) := by decide +kernel
theorem d_M_readTurn_53 : decode prog_14_method_75_code 53 = .ok (.iastore, 1) := by decide +kernel
theorem d_M_readTurn_54 : decode prog_14_method_75_code 54 = .ok (.aload_n 0, 1) := by decide +kernel
theorem d_M_readTurn_55 : decode prog_14_method_75_code 55 = .ok (.getfield 245, 3) := by decide +kernel
theorem d_M_readTurn_58 : decode prog_14_method_75_code 58 = .ok (.ifCond .ne 15, 3) := by decide +kernel
theorem d_M_readTurn_61 : decode prog_14_method_75_code 61 = .ok (.aload_n 0, 1) := by decide +kernel
theorem d_M_readTurn_62 : decode prog_14_method_75_code 62 = .ok (.getfield 35, 3) := by decide +kernel
theorem d_M_readTurn_65 : decode prog_14_method_75_code 65 = .ok (.sipush 2305, 3) := by decide +kernel
theorem d_M_readTurn_68 : decode prog_14_method_75_code 68 = .ok (.dup2, 1) := by decide +kernel
theorem d_M_readTurn_69 : decode prog_14_method_75_code 69 = .ok (.iaload, 1) := by decide +kernel
theorem d_M_readTurn_70 : decode prog_14_method_75_code 70 = .ok (.iconst 1, 1) := by decide +kernel
theorem d_M_readTurn_71 : decode prog_14_method_75_code 71 = .ok (.iadd, 1) := by decide +kernel
theorem d_M_readTurn_72 : decode prog_14_method_75_code 72 = .ok (.iastore, 1) := by decide +kernel
theorem d_M_readTurn_73 : decode prog_14_method_75_code 73 = .ok (.return_, 1) := by decide +kernel
def M_readTurn_J54 (Y : Ly) (l0 : Nat) (h : Hp) : Option Hp :=
  if (hGi h 1212 l0) = 0 then
    if inB 2305 (lnY Y (hGr h 1220 l0)) = true then
      if inB 2305 (lnY Y (hGr h 1220 l0)) = true then
        letH (hTi h (hGr h 1220 l0) (Int32.toNatClampNeg 2305) ((hAi h (hGr h 1220 l0) (Int32.toNatClampNeg 2305)) + 1)) fun h17 =>
        some h17
      else none
    else none
  else
    some h
theorem M_readTurn_J54_ok (Y : Ly) (l0 : Nat) (h : Hp) (tl0 : isO Y 12 l0) : AW Y 6 K_M_readTurn 54 [(0, .ref l0)] [] h (M_readTurn_J54 Y l0 h) rV := by
  unfold M_readTurn_J54
  refine aw_aload_n (pc := 54) d_M_readTurn_54 rfl 0 rfl ?_
  refine gt_1212 (pc := 55) d_M_readTurn_55 w7_39 tl0 ?_
  refine aw_if_ne (pc := 58) (tgt := 73) d_M_readTurn_58 (by decide) (fun c13 => ?_) (fun c13 => ?_)
  · refine aw_aload_n (pc := 61) d_M_readTurn_61 rfl 0 rfl ?_
    refine gt_1220 (pc := 62) d_M_readTurn_62 w7_47 tl0 (fun t14 => ?_)
    refine aw_sipush (pc := 65) (x := 2305) d_M_readTurn_65 (by decide) ?_
    refine aw_dup2_11 (pc := 68) d_M_readTurn_68 rfl rfl ?_
    refine aw_iaload (pc := 69) d_M_readTurn_69 t14 (fun c15 => ?_)
    refine aw_iconst (pc := 70) (x := 1) d_M_readTurn_70 (by decide) ?_
    refine aw_iadd (pc := 71) d_M_readTurn_71 ?_
    refine aw_iastore (pc := 72) d_M_readTurn_72 t14 (fun c16 => ?_)
    refine aw_letH (fun h17 => ?_)
    exact aw_return (pc := 73) d_M_readTurn_73 rfl rfl
  · exact aw_return (pc := 73) d_M_readTurn_73 rfl rfl
def M_readTurn (Y : Ly) (l0 : Nat) (h : Hp) : Option Hp :=
  (M_readNew Y l0 1 8 h).bind fun q1 =>
  if inB (2314 + q1.1) (lnY Y (hGr q1.2 1220 l0)) = true then
    letH (hTi q1.2 (hGr q1.2 1220 l0) (Int32.toNatClampNeg (2314 + q1.1)) 1) fun h4 =>
    if (hGi h4 1212 l0) = 0 then
      (M_isOdd Y l0 h4).bind fun q6 =>
      if q6 = true then
        (M_advance Y l0 h4).bind fun q8 =>
        (M_count Y l0 0 9 q8).bind fun q10 =>
        if inB (2314 + q1.1) (lnY Y (hGr q8 1220 l0)) = true then
          letH (hTi q10.2 (hGr q8 1220 l0) (Int32.toNatClampNeg (2314 + q1.1)) q10.1) fun h12 =>
          M_readTurn_J54 Y l0 h12
        else none
      else
        M_readTurn_J54 Y l0 h4
    else
      M_readTurn_J54 Y l0 h4
  else none
theorem ok_M_readTurn (Y : Ly) (l0 : Nat) (h : Hp) (t0 : isO Y 12 l0) : AM Y 6 K_M_readTurn [.ref l0] h (M_readTurn Y l0 h) rV := by
  refine AM.of rfl (Nat.le_of_ble_eq_true rfl) ?_
  show AW Y 6 K_M_readTurn 0 [(0, .ref l0)] [] h (M_readTurn Y l0 h) rV
  unfold M_readTurn
  refine aw_aload_n (pc := 0) d_M_readTurn_0 rfl 0 rfl ?_
  refine aw_iconst (pc := 1) (x := 1) d_M_readTurn_1 (by decide) ?_
  refine aw_bipush (pc := 2) (x := 8) d_M_readTurn_2 (by decide) ?_
  refine aw_cVrI (pc := 4) (ci := 12) (T := TX12) (N := 44) (As := [.int 1, .int 8]) (st := []) (ok_M_readNew Y l0 1 8 h t0) okV_M_readNew rfl (by decide) t0 w8_23 d_M_readTurn_4 rfl (Nat.le_of_ble_eq_true rfl) rfl (Nat.le_of_ble_eq_true rfl) (fun q1 hq1 hTq1 => ?_)
  refine aw_istore_n (pc := 7) (lv' := [(1, .int q1.1), (0, .ref l0)]) d_M_readTurn_7 rfl (by decide) rfl ?_
  refine aw_aload_n (pc := 8) d_M_readTurn_8 rfl 1 rfl ?_
  refine gt_1220 (pc := 9) d_M_readTurn_9 w7_47 t0 (fun t2 => ?_)
  refine aw_sipush (pc := 12) (x := 2314) d_M_readTurn_12 (by decide) ?_
  refine aw_iload_n (pc := 15) d_M_readTurn_15 rfl 0 rfl ?_
  refine aw_iadd (pc := 16) d_M_readTurn_16 ?_
  refine aw_iconst (pc := 17) (x := 1) d_M_readTurn_17 (by decide) ?_
  refine aw_iastore (pc := 18) d_M_readTurn_18 t2 (fun c3 => ?_)
  refine aw_letH (fun h4 => ?_)
  refine aw_aload_n (pc := 19) d_M_readTurn_19 rfl 1 rfl ?_
  refine gt_1212 (pc := 20) d_M_readTurn_20 w7_39 t0 ?_
  refine aw_if_ne (pc := 23) (tgt := 54) d_M_readTurn_23 (by decide) (fun c5 => ?_) (fun c5 => ?_)
  · refine aw_aload_n (pc := 26) d_M_readTurn_26 rfl 1 rfl ?_
    refine aw_cVpZ (pc := 27) (ci := 12) (T := TX12) (N := 44) (As := []) (st := []) (ok_M_isOdd Y l0 h4 t0) okV_M_isOdd rfl (by decide) t0 w8_127 d_M_readTurn_27 rfl (Nat.le_of_ble_eq_true rfl) rfl (Nat.le_of_ble_eq_true rfl) (fun q6 hq6 hTq6 => ?_)
    refine aw_beq (pc := 30) (tgt := 54) d_M_readTurn_30 (by decide) (fun c7 => ?_) (fun c7 => ?_)
    · refine aw_aload_n (pc := 33) d_M_readTurn_33 rfl 1 rfl ?_
      refine aw_cVrV (pc := 34) (ci := 12) (T := TX12) (N := 44) (As := []) (st := []) (ok_M_advance Y l0 h4 t0) okV_M_advance rfl (by decide) t0 w7_224 d_M_readTurn_34 rfl (Nat.le_of_ble_eq_true rfl) rfl (Nat.le_of_ble_eq_true rfl) (fun q8 hq8 hTq8 => ?_)
      refine aw_aload_n (pc := 37) d_M_readTurn_37 rfl 1 rfl ?_
      refine gt_1220 (pc := 38) d_M_readTurn_38 w7_47 t0 (fun t9 => ?_)
      refine aw_sipush (pc := 41) (x := 2314) d_M_readTurn_41 (by decide) ?_
      refine aw_iload_n (pc := 44) d_M_readTurn_44 rfl 0 rfl ?_
      refine aw_iadd (pc := 45) d_M_readTurn_45 ?_
      refine aw_aload_n (pc := 46) d_M_readTurn_46 rfl 1 rfl ?_
      refine aw_iconst (pc := 47) (x := 0) d_M_readTurn_47 (by decide) ?_
      refine aw_bipush (pc := 48) (x := 9) d_M_readTurn_48 (by decide) ?_
      refine aw_cVrI (pc := 50) (ci := 12) (T := TX12) (N := 44) (As := [.int 0, .int 9]) (st := [.int (2314 + q1.1), .ref (hGr q8 1220 l0)]) (ok_M_count Y l0 0 9 q8 t0) okV_M_count rfl (by decide) t0 w8_151 d_M_readTurn_50 rfl (Nat.le_of_ble_eq_true rfl) rfl (Nat.le_of_ble_eq_true rfl) (fun q10 hq10 hTq10 => ?_)
      refine aw_iastore (pc := 53) d_M_readTurn_53 t9 (fun c11 => ?_)
      refine aw_letH (fun h12 => ?_)
      exact aw_lv [1] rfl (M_readTurn_J54_ok Y l0 h12 t0)
    · exact aw_lv [1] rfl (M_readTurn_J54_ok Y l0 h4 t0)
  · exact aw_lv [1] rfl (M_readTurn_J54_ok Y l0 h4 t0)
/-! LastPagesModel.readWatch()V -/
theorem d_M_readWatch_0 : decode prog_14_method_82_code 0 = .ok (.aload_n 0, 1) := by decide +kernel
theorem d_M_readWatch_1 : decode prog_14_method_82_code 1 = .ok (.bipush 6, 2) := by decide +kernel
theorem d_M_readWatch_3 : decode prog_14_method_82_code 3 = .ok (.bipush 8, 2) := by decide +kernel
theorem d_M_readWatch_5 : decode prog_14_method_82_code 5 = .ok (.invokevirtual 295, 3) := by decide +kernel
theorem d_M_readWatch_8 : decode prog_14_method_82_code 8 = .ok (.istore_n 1, 1) := by decide +kernel
theorem d_M_readWatch_9 : decode prog_14_method_82_code 9 = .ok (.aload_n 0, 1) := by decide +kernel
theorem d_M_readWatch_10 : decode prog_14_method_82_code 10 = .ok (.getfield 35, 3) := by decide +kernel
theorem d_M_readWatch_13 : decode prog_14_method_82_code 13 = .ok (.sipush 2586, 3) := by decide +kernel
theorem d_M_readWatch_16 : decode prog_14_method_82_code 16 = .ok (.iload_n 1, 1) := by decide +kernel
theorem d_M_readWatch_17 : decode prog_14_method_82_code 17 = .ok (.iadd, 1) := by decide +kernel
theorem d_M_readWatch_18 : decode prog_14_method_82_code 18 = .ok (.aload_n 0, 1) := by decide +kernel
theorem d_M_readWatch_19 : decode prog_14_method_82_code 19 = .ok (.aload_n 0, 1) := by decide +kernel
theorem d_M_readWatch_20 : decode prog_14_method_82_code 20 = .ok (.invokevirtual 217, 3) := by decide +kernel
theorem d_M_readWatch_23 : decode prog_14_method_82_code 23 = .ok (.iconst 0, 1) := by decide +kernel
theorem d_M_readWatch_24 : decode prog_14_method_82_code 24 = .ok (.bipush 99, 2) := by decide +kernel
theorem d_M_readWatch_26 : decode prog_14_method_82_code 26 = .ok (.invokevirtual 298, 3) := by decide +kernel
theorem d_M_readWatch_29 : decode prog_14_method_82_code 29 = .ok (.iastore, 1) := by decide +kernel
theorem d_M_readWatch_30 : decode prog_14_method_82_code 30 = .ok (.aload_n 0, 1) := by decide +kernel
theorem d_M_readWatch_31 : decode prog_14_method_82_code 31 = .ok (.aload_n 0, 1) := by decide +kernel
theorem d_M_readWatch_32 : decode prog_14_method_82_code 32 = .ok (.invokevirtual 226, 3) := by decide +kernel
theorem d_M_readWatch_35 : decode prog_14_method_82_code 35 = .ok (.invokevirtual 261, 3) := by decide +kernel
theorem d_M_readWatch_38 : decode prog_14_method_82_code 38 = .ok (.aload_n 0, 1) := by decide +kernel
theorem d_M_readWatch_39 : decode prog_14_method_82_code 39 = .ok (.getfield 35, 3) := by decide +kernel
theorem d_M_readWatch_42 : decode prog_14_method_82_code 42 = .ok (.sipush 2594, 3) := by decide +kernel
theorem d_M_readWatch_45 : decode prog_14_method_82_code 45 = .ok (.iload_n 1, 1) := by decide +kernel
theorem d_M_readWatch_46 : decode prog_14_method_82_code 46 = .ok (.iadd, 1) := by decide +kernel
theorem d_M_readWatch_47 : decode prog_14_method_82_code 47 = .ok (.aload_n 0, 1) := by decide +kernel
theorem d_M_readWatch_48 : decode prog_14_method_82_code 48 = .ok (.invokevirtual 305, 3) := by decide +kernel
theorem d_M_readWatch_51 : decode prog_14_method_82_code 51 = .ok (.iastore, 1) := by decide +kernel
theorem d_M_readWatch_52 : decode prog_14_method_82_code 52 = .ok (.aload_n 0, 1) := by decide +kernel
theorem d_M_readWatch_53 : decode prog_14_method_82_code 53 = .ok (.getfield 245, 3) := by decide +kernel
theorem d_M_readWatch_56 : decode prog_14_method_82_code 56 = .ok (.ifCond .ne 15, 3) := by decide +kernel
theorem d_M_readWatch_59 : decode prog_14_method_82_code 59 = .ok (.aload_n 0, 1) := by decide +kernel
theorem d_M_readWatch_60 : decode prog_14_method_82_code 60 = .ok (.getfield 35, 3) := by decide +kernel
theorem d_M_readWatch_63 : decode prog_14_method_82_code 63 = .ok (.sipush 2311, 3) := by decide +kernel
theorem d_M_readWatch_66 : decode prog_14_method_82_code 66 = .ok (.dup2, 1) := by decide +kernel
theorem d_M_readWatch_67 : decode prog_14_method_82_code 67 = .ok (.iaload, 1) := by decide +kernel
theorem d_M_readWatch_68 : decode prog_14_method_82_code 68 = .ok (.iconst 1, 1) := by decide +kernel
theorem d_M_readWatch_69 : decode prog_14_method_82_code 69 = .ok (.iadd, 1) := by decide +kernel
theorem d_M_readWatch_70 : decode prog_14_method_82_code 70 = .ok (.iastore, 1) := by decide +kernel
theorem d_M_readWatch_71 : decode prog_14_method_82_code 71 = .ok (.return_, 1) := by decide +kernel
def M_readWatch (Y : Ly) (l0 : Nat) (h : Hp) : Option Hp :=
  (M_readNew Y l0 6 8 h).bind fun q1 =>
  (M_isCosts Y l0 q1.2).bind fun q3 =>
  (M_behindWord Y l0 q3 0 99 q1.2).bind fun q4 =>
  if inB (2586 + q1.1) (lnY Y (hGr q1.2 1220 l0)) = true then
    letH (hTi q4.2 (hGr q1.2 1220 l0) (Int32.toNatClampNeg (2586 + q1.1)) q4.1) fun h6 =>
    (M_isGuards Y l0 h6).bind fun q7 =>
    (M_must Y l0 q7 h6).bind fun q8 =>
    (M_readBooks Y l0 q8).bind fun q10 =>
    if inB (2594 + q1.1) (lnY Y (hGr q8 1220 l0)) = true then
      letH (hTi q10.2 (hGr q8 1220 l0) (Int32.toNatClampNeg (2594 + q1.1)) q10.1) fun h12 =>
      if (hGi h12 1212 l0) = 0 then
        if inB 2311 (lnY Y (hGr h12 1220 l0)) = true then
          if inB 2311 (lnY Y (hGr h12 1220 l0)) = true then
            letH (hTi h12 (hGr h12 1220 l0) (Int32.toNatClampNeg 2311) ((hAi h12 (hGr h12 1220 l0) (Int32.toNatClampNeg 2311)) + 1)) fun h17 =>
            some h17
          else none
        else none
      else
        some h12
    else none
  else none
theorem ok_M_readWatch (Y : Ly) (l0 : Nat) (h : Hp) (t0 : isO Y 12 l0) : AM Y 8 K_M_readWatch [.ref l0] h (M_readWatch Y l0 h) rV := by
  refine AM.of rfl (Nat.le_of_ble_eq_true rfl) ?_
  show AW Y 8 K_M_readWatch 0 [(0, .ref l0)] [] h (M_readWatch Y l0 h) rV
  unfold M_readWatch
  refine aw_aload_n (pc := 0) d_M_readWatch_0 rfl 0 rfl ?_
  refine aw_bipush (pc := 1) (x := 6) d_M_readWatch_1 (by decide) ?_
  refine aw_bipush (pc := 3) (x := 8) d_M_readWatch_3 (by decide) ?_
  refine aw_cVrI (pc := 5) (ci := 12) (T := TX12) (N := 44) (As := [.int 6, .int 8]) (st := []) (ok_M_readNew Y l0 6 8 h t0) okV_M_readNew rfl (by decide) t0 w8_23 d_M_readWatch_5 rfl (Nat.le_of_ble_eq_true rfl) rfl (Nat.le_of_ble_eq_true rfl) (fun q1 hq1 hTq1 => ?_)
  refine aw_istore_n (pc := 8) (lv' := [(1, .int q1.1), (0, .ref l0)]) d_M_readWatch_8 rfl (by decide) rfl ?_
  refine aw_aload_n (pc := 9) d_M_readWatch_9 rfl 1 rfl ?_
  refine gt_1220 (pc := 10) d_M_readWatch_10 w7_47 t0 (fun t2 => ?_)
  refine aw_sipush (pc := 13) (x := 2586) d_M_readWatch_13 (by decide) ?_
  refine aw_iload_n (pc := 16) d_M_readWatch_16 rfl 0 rfl ?_
  refine aw_iadd (pc := 17) d_M_readWatch_17 ?_
  refine aw_aload_n (pc := 18) d_M_readWatch_18 rfl 1 rfl ?_
  refine aw_aload_n (pc := 19) d_M_readWatch_19 rfl 1 rfl ?_
  refine aw_cVpZ (pc := 20) (ci := 12) (T := TX12) (N := 44) (As := []) (st := [.ref l0, .int (2586 + q1.1), .ref (hGr q1.2 1220 l0)]) (ok_M_isCosts Y l0 q1.2 t0) okV_M_isCosts rfl (by decide) t0 w8_98 d_M_readWatch_20 rfl (Nat.le_of_ble_eq_true rfl) rfl (Nat.le_of_ble_eq_true rfl) (fun q3 hq3 hTq3 => ?_)
  refine aw_iconst (pc := 23) (x := 0) d_M_readWatch_23 (by decide) ?_
  refine aw_bipush (pc := 24) (x := 99) d_M_readWatch_24 (by decide) ?_
  refine aw_cVrI (pc := 26) (ci := 12) (T := TX12) (N := 44) (As := [.int (b2i q3), .int 0, .int 99]) (st := [.int (2586 + q1.1), .ref (hGr q1.2 1220 l0)]) (ok_M_behindWord Y l0 q3 0 99 q1.2 t0) okV_M_behindWord rfl (by decide) t0 w8_179 d_M_readWatch_26 rfl (Nat.le_of_ble_eq_true rfl) rfl (Nat.le_of_ble_eq_true rfl) (fun q4 hq4 hTq4 => ?_)
  refine aw_iastore (pc := 29) d_M_readWatch_29 t2 (fun c5 => ?_)
  refine aw_letH (fun h6 => ?_)
  refine aw_aload_n (pc := 30) d_M_readWatch_30 rfl 1 rfl ?_
  refine aw_aload_n (pc := 31) d_M_readWatch_31 rfl 1 rfl ?_
  refine aw_cVpZ (pc := 32) (ci := 12) (T := TX12) (N := 44) (As := []) (st := [.ref l0]) (ok_M_isGuards Y l0 h6 t0) okV_M_isGuards rfl (by decide) t0 w8_110 d_M_readWatch_32 rfl (Nat.le_of_ble_eq_true rfl) rfl (Nat.le_of_ble_eq_true rfl) (fun q7 hq7 hTq7 => ?_)
  refine aw_cVrV (pc := 35) (ci := 12) (T := TX12) (N := 44) (As := [.int (b2i q7)]) (st := []) (ok_M_must Y l0 q7 h6 t0) okV_M_must rfl (by decide) t0 w8_171 d_M_readWatch_35 rfl (Nat.le_of_ble_eq_true rfl) rfl (Nat.le_of_ble_eq_true rfl) (fun q8 hq8 hTq8 => ?_)
  refine aw_aload_n (pc := 38) d_M_readWatch_38 rfl 1 rfl ?_
  refine gt_1220 (pc := 39) d_M_readWatch_39 w7_47 t0 (fun t9 => ?_)
  refine aw_sipush (pc := 42) (x := 2594) d_M_readWatch_42 (by decide) ?_
  refine aw_iload_n (pc := 45) d_M_readWatch_45 rfl 0 rfl ?_
  refine aw_iadd (pc := 46) d_M_readWatch_46 ?_
  refine aw_aload_n (pc := 47) d_M_readWatch_47 rfl 1 rfl ?_
  refine aw_cVrI (pc := 48) (ci := 12) (T := TX12) (N := 44) (As := []) (st := [.int (2594 + q1.1), .ref (hGr q8 1220 l0)]) (ok_M_readBooks Y l0 q8 t0) okV_M_readBooks rfl (by decide) t0 w8_203 d_M_readWatch_48 rfl (Nat.le_of_ble_eq_true rfl) rfl (Nat.le_of_ble_eq_true rfl) (fun q10 hq10 hTq10 => ?_)
  refine aw_iastore (pc := 51) d_M_readWatch_51 t9 (fun c11 => ?_)
  refine aw_letH (fun h12 => ?_)
  refine aw_aload_n (pc := 52) d_M_readWatch_52 rfl 1 rfl ?_
  refine gt_1212 (pc := 53) d_M_readWatch_53 w7_39 t0 ?_
  refine aw_if_ne (pc := 56) (tgt := 71) d_M_readWatch_56 (by decide) (fun c13 => ?_) (fun c13 => ?_)
  · refine aw_aload_n (pc := 59) d_M_readWatch_59 rfl 1 rfl ?_
    refine gt_1220 (pc := 60) d_M_readWatch_60 w7_47 t0 (fun t14 => ?_)
    refine aw_sipush (pc := 63) (x := 2311) d_M_readWatch_63 (by decide) ?_
    refine aw_dup2_11 (pc := 66) d_M_readWatch_66 rfl rfl ?_
    refine aw_iaload (pc := 67) d_M_readWatch_67 t14 (fun c15 => ?_)
    refine aw_iconst (pc := 68) (x := 1) d_M_readWatch_68 (by decide) ?_
    refine aw_iadd (pc := 69) d_M_readWatch_69 ?_
    refine aw_iastore (pc := 70) d_M_readWatch_70 t14 (fun c16 => ?_)
    refine aw_letH (fun h17 => ?_)
    exact aw_return (pc := 71) d_M_readWatch_71 rfl rfl
  · exact aw_return (pc := 71) d_M_readWatch_71 rfl rfl
/-! LastPagesModel.readPart()V -/
theorem d_M_readPart_0 : decode prog_14_method_84_code 0 = .ok (.aload_n 0, 1) := by decide +kernel
theorem d_M_readPart_1 : decode prog_14_method_84_code 1 = .ok (.invokevirtual 172, 3) := by decide +kernel
theorem d_M_readPart_4 : decode prog_14_method_84_code 4 = .ok (.ifCond .eq 10, 3) := by decide +kernel
theorem d_M_readPart_7 : decode prog_14_method_84_code 7 = .ok (.aload_n 0, 1) := by decide +kernel
theorem d_M_readPart_8 : decode prog_14_method_84_code 8 = .ok (.invokevirtual 308, 3) := by decide +kernel
theorem d_M_readPart_11 : decode prog_14_method_84_code 11 = .ok (.goto 133, 3) := by decide +kernel
theorem d_M_readPart_14 : decode prog_14_method_84_code 14 = .ok (.aload_n 0, 1) := by decide +kernel
theorem d_M_readPart_15 : decode prog_14_method_84_code 15 = .ok (.invokevirtual 178, 3) := by decide +kernel
theorem d_M_readPart_18 : decode prog_14_method_84_code 18 = .ok (.ifCond .eq 10, 3) := by decide +kernel
theorem d_M_readPart_21 : decode prog_14_method_84_code 21 = .ok (.aload_n 0, 1) := by decide +kernel
theorem d_M_readPart_22 : decode prog_14_method_84_code 22 = .ok (.invokevirtual 311, 3) := by decide +kernel
theorem d_M_readPart_25 : decode prog_14_method_84_code 25 = .ok (.goto 119, 3) := by decide +kernel
theorem d_M_readPart_28 : decode prog_14_method_84_code 28 = .ok (.aload_n 0, 1) := by decide +kernel
theorem d_M_readPart_29 : decode prog_14_method_84_code 29 = .ok (.invokevirtual 181, 3) := by decide +kernel
theorem d_M_readPart_32 : decode prog_14_method_84_code 32 = .ok (.ifCond .eq 10, 3) := by decide +kernel
theorem d_M_readPart_35 : decode prog_14_method_84_code 35 = .ok (.aload_n 0, 1) := by decide +kernel
theorem d_M_readPart_36 : decode prog_14_method_84_code 36 = .ok (.invokevirtual 314, 3) := by decide +kernel
theorem d_M_readPart_39 : decode prog_14_method_84_code 39 = .ok (.goto 105, 3) := by decide +kernel
theorem d_M_readPart_42 : decode prog_14_method_84_code 42 = .ok (.aload_n 0, 1) := by decide +kernel
theorem d_M_readPart_43 : decode prog_14_method_84_code 43 = .ok (.invokevirtual 187, 3) := by decide +kernel
theorem d_M_readPart_46 : decode prog_14_method_84_code 46 = .ok (.ifCond .eq 10, 3) := by decide +kernel
theorem d_M_readPart_49 : decode prog_14_method_84_code 49 = .ok (.aload_n 0, 1) := by decide +kernel
theorem d_M_readPart_50 : decode prog_14_method_84_code 50 = .ok (.invokevirtual 317, 3) := by decide +kernel
theorem d_M_readPart_53 : decode prog_14_method_84_code 53 = .ok (.goto 91, 3) := by decide +kernel
theorem d_M_readPart_56 : decode prog_14_method_84_code 56 = .ok (.aload_n 0, 1) := by decide +kernel
theorem d_M_readPart_57 : decode prog_14_method_84_code 57 = .ok (.invokevirtual 196, 3) := by decide +kernel
theorem d_M_readPart_60 : decode prog_14_method_84_code 60 = .ok (.ifCond .eq 10, 3) := by decide +kernel
theorem d_M_readPart_63 : decode prog_14_method_84_code 63 = .ok (.aload_n 0, 1) := by decide +kernel
theorem d_M_readPart_64 : decode prog_14_method_84_code 64 = .ok (.invokevirtual 320, 3) := by decide +kernel
theorem d_M_readPart_67 : decode prog_14_method_84_code 67 = .ok (.goto 77, 3) := by decide +kernel
theorem d_M_readPart_70 : decode prog_14_method_84_code 70 = .ok (.aload_n 0, 1) := by decide +kernel
theorem d_M_readPart_71 : decode prog_14_method_84_code 71 = .ok (.invokevirtual 199, 3) := by decide +kernel
theorem d_M_readPart_74 : decode prog_14_method_84_code 74 = .ok (.ifCond .eq 10, 3) := by decide +kernel
theorem d_M_readPart_77 : decode prog_14_method_84_code 77 = .ok (.aload_n 0, 1) := by decide +kernel
theorem d_M_readPart_78 : decode prog_14_method_84_code 78 = .ok (.invokevirtual 323, 3) := by decide +kernel
theorem d_M_readPart_81 : decode prog_14_method_84_code 81 = .ok (.goto 63, 3) := by decide +kernel
theorem d_M_readPart_84 : decode prog_14_method_84_code 84 = .ok (.aload_n 0, 1) := by decide +kernel
theorem d_M_readPart_85 : decode prog_14_method_84_code 85 = .ok (.invokevirtual 211, 3) := by decide +kernel
theorem d_M_readPart_88 : decode prog_14_method_84_code 88 = .ok (.ifCond .eq 10, 3) := by decide +kernel
theorem d_M_readPart_91 : decode prog_14_method_84_code 91 = .ok (.aload_n 0, 1) := by decide +kernel
theorem d_M_readPart_92 : decode prog_14_method_84_code 92 = .ok (.invokevirtual 326, 3) := by decide +kernel
theorem d_M_readPart_95 : decode prog_14_method_84_code 95 = .ok (.goto 49, 3) := by decide +kernel
theorem d_M_readPart_98 : decode prog_14_method_84_code 98 = .ok (.aload_n 0, 1) := by decide +kernel
theorem d_M_readPart_99 : decode prog_14_method_84_code 99 = .ok (.invokevirtual 214, 3) := by decide +kernel
theorem d_M_readPart_102 : decode prog_14_method_84_code 102 = .ok (.ifCond .eq 10, 3) := by decide +kernel
theorem d_M_readPart_105 : decode prog_14_method_84_code 105 = .ok (.aload_n 0, 1) := by decide +kernel
theorem d_M_readPart_106 : decode prog_14_method_84_code 106 = .ok (.invokevirtual 329, 3) := by decide +kernel
theorem d_M_readPart_109 : decode prog_14_method_84_code 109 = .ok (.goto 35, 3) := by decide +kernel
theorem d_M_readPart_112 : decode prog_14_method_84_code 112 = .ok (.aload_n 0, 1) := by decide +kernel
theorem d_M_readPart_113 : decode prog_14_method_84_code 113 = .ok (.invokevirtual 223, 3) := by decide +kernel
theorem d_M_readPart_116 : decode prog_14_method_84_code 116 = .ok (.ifCond .eq 10, 3) := by decide +kernel
theorem d_M_readPart_119 : decode prog_14_method_84_code 119 = .ok (.aload_n 0, 1) := by decide +kernel
theorem d_M_readPart_120 : decode prog_14_method_84_code 120 = .ok (.invokevirtual 332, 3) := by decide +kernel
theorem d_M_readPart_123 : decode prog_14_method_84_code 123 = .ok (.goto 21, 3) := by decide +kernel
theorem d_M_readPart_126 : decode prog_14_method_84_code 126 = .ok (.aload_n 0, 1) := by decide +kernel
theorem d_M_readPart_127 : decode prog_14_method_84_code 127 = .ok (.invokevirtual 229, 3) := by decide +kernel
theorem d_M_readPart_130 : decode prog_14_method_84_code 130 = .ok (.ifCond .eq 10, 3) := by decide +kernel
theorem d_M_readPart_133 : decode prog_14_method_84_code 133 = .ok (.aload_n 0, 1) := by decide +kernel
theorem d_M_readPart_134 : decode prog_14_method_84_code 134 = .ok (.invokevirtual 335, 3) := by decide +kernel
theorem d_M_readPart_137 : decode prog_14_method_84_code 137 = .ok (.goto 7, 3) := by decide +kernel
theorem d_M_readPart_140 : decode prog_14_method_84_code 140 = .ok (.aload_n 0, 1) := by decide +kernel
theorem d_M_readPart_141 : decode prog_14_method_84_code 141 = .ok (.invokevirtual 258, 3) := by decide +kernel
theorem d_M_readPart_144 : decode prog_14_method_84_code 144 = .ok (.return_, 1) := by decide +kernel
def M_readPart (Y : Ly) (l0 : Nat) (h : Hp) : Option Hp :=
  (M_isState Y l0 h).bind fun q1 =>
  if q1 = true then
    (M_readState Y l0 h).bind fun q3 =>
    some q3
  else
    (M_isTurn Y l0 h).bind fun q4 =>
    if q4 = true then
      (M_readTurn Y l0 h).bind fun q6 =>
      some q6
    else
      (M_isRule Y l0 h).bind fun q7 =>
      if q7 = true then
        (M_readRule Y l0 h).bind fun q9 =>
        some q9
      else
        (M_isBook Y l0 h).bind fun q10 =>
        if q10 = true then
          (M_readBook Y l0 h).bind fun q12 =>
          some q12
        else
          (M_isFinale Y l0 h).bind fun q13 =>
          if q13 = true then
            (M_readFinale Y l0 h).bind fun q15 =>
            some q15
          else
            (M_isHint Y l0 h).bind fun q16 =>
            if q16 = true then
              (M_readHint Y l0 h).bind fun q18 =>
              some q18
            else
              (M_isReader Y l0 h).bind fun q19 =>
              if q19 = true then
                (M_readReader Y l0 h).bind fun q21 =>
                some q21
              else
                (M_isOffer Y l0 h).bind fun q22 =>
                if q22 = true then
                  (M_readOffer Y l0 h).bind fun q24 =>
                  some q24
                else
                  (M_isWatch Y l0 h).bind fun q25 =>
                  if q25 = true then
                    (M_readWatch Y l0 h).bind fun q27 =>
                    some q27
                  else
                    (M_isFollows Y l0 h).bind fun q28 =>
                    if q28 = true then
                      (M_readFollows Y l0 h).bind fun q30 =>
                      some q30
                    else
                      (M_amiss Y l0 h).bind fun q31 =>
                      some q31
theorem ok_M_readPart (Y : Ly) (l0 : Nat) (h : Hp) (t0 : isO Y 12 l0) : AM Y 9 K_M_readPart [.ref l0] h (M_readPart Y l0 h) rV := by
  refine AM.of rfl (Nat.le_of_ble_eq_true rfl) ?_
  show AW Y 9 K_M_readPart 0 [(0, .ref l0)] [] h (M_readPart Y l0 h) rV
  unfold M_readPart
  refine aw_aload_n (pc := 0) d_M_readPart_0 rfl 0 rfl ?_
  refine aw_cVpZ (pc := 1) (ci := 12) (T := TX12) (N := 44) (As := []) (st := []) (ok_M_isState Y l0 h t0) okV_M_isState rfl (by decide) t0 w8_8 d_M_readPart_1 rfl (Nat.le_of_ble_eq_true rfl) rfl (Nat.le_of_ble_eq_true rfl) (fun q1 hq1 hTq1 => ?_)
  refine aw_beq (pc := 4) (tgt := 14) d_M_readPart_4 (by decide) (fun c2 => ?_) (fun c2 => ?_)
  · refine aw_aload_n (pc := 7) d_M_readPart_7 rfl 0 rfl ?_
    refine aw_cVrV (pc := 8) (ci := 12) (T := TX12) (N := 44) (As := []) (st := []) (ok_M_readState Y l0 h t0) okV_M_readState rfl (by decide) t0 w8_19 d_M_readPart_8 rfl (Nat.le_of_ble_eq_true rfl) rfl (Nat.le_of_ble_eq_true rfl) (fun q3 hq3 hTq3 => ?_)
    refine aw_goto (pc := 11) (tgt := 144) d_M_readPart_11 (by decide) ?_
    exact aw_return (pc := 144) d_M_readPart_144 rfl rfl
  · refine aw_aload_n (pc := 14) d_M_readPart_14 rfl 0 rfl ?_
    refine aw_cVpZ (pc := 15) (ci := 12) (T := TX12) (N := 44) (As := []) (st := []) (ok_M_isTurn Y l0 h t0) okV_M_isTurn rfl (by decide) t0 w8_46 d_M_readPart_15 rfl (Nat.le_of_ble_eq_true rfl) rfl (Nat.le_of_ble_eq_true rfl) (fun q4 hq4 hTq4 => ?_)
    refine aw_beq (pc := 18) (tgt := 28) d_M_readPart_18 (by decide) (fun c5 => ?_) (fun c5 => ?_)
    · refine aw_aload_n (pc := 21) d_M_readPart_21 rfl 0 rfl ?_
      refine aw_cVrV (pc := 22) (ci := 12) (T := TX12) (N := 44) (As := []) (st := []) (ok_M_readTurn Y l0 h t0) okV_M_readTurn rfl (by decide) t0 w8_147 d_M_readPart_22 rfl (Nat.le_of_ble_eq_true rfl) rfl (Nat.le_of_ble_eq_true rfl) (fun q6 hq6 hTq6 => ?_)
      refine aw_goto (pc := 25) (tgt := 144) d_M_readPart_25 (by decide) ?_
      exact aw_return (pc := 144) d_M_readPart_144 rfl rfl
    · refine aw_aload_n (pc := 28) d_M_readPart_28 rfl 0 rfl ?_
      refine aw_cVpZ (pc := 29) (ci := 12) (T := TX12) (N := 44) (As := []) (st := []) (ok_M_isRule Y l0 h t0) okV_M_isRule rfl (by decide) t0 w8_50 d_M_readPart_29 rfl (Nat.le_of_ble_eq_true rfl) rfl (Nat.le_of_ble_eq_true rfl) (fun q7 hq7 hTq7 => ?_)
      refine aw_beq (pc := 32) (tgt := 42) d_M_readPart_32 (by decide) (fun c8 => ?_) (fun c8 => ?_)
      · refine aw_aload_n (pc := 35) d_M_readPart_35 rfl 0 rfl ?_
        refine aw_cVrV (pc := 36) (ci := 12) (T := TX12) (N := 44) (As := []) (st := []) (ok_M_readRule Y l0 h t0) okV_M_readRule rfl (by decide) t0 w8_158 d_M_readPart_36 rfl (Nat.le_of_ble_eq_true rfl) rfl (Nat.le_of_ble_eq_true rfl) (fun q9 hq9 hTq9 => ?_)
        refine aw_goto (pc := 39) (tgt := 144) d_M_readPart_39 (by decide) ?_
        exact aw_return (pc := 144) d_M_readPart_144 rfl rfl
      · refine aw_aload_n (pc := 42) d_M_readPart_42 rfl 0 rfl ?_
        refine aw_cVpZ (pc := 43) (ci := 12) (T := TX12) (N := 44) (As := []) (st := []) (ok_M_isBook Y l0 h t0) okV_M_isBook rfl (by decide) t0 w8_58 d_M_readPart_43 rfl (Nat.le_of_ble_eq_true rfl) rfl (Nat.le_of_ble_eq_true rfl) (fun q10 hq10 hTq10 => ?_)
        refine aw_beq (pc := 46) (tgt := 56) d_M_readPart_46 (by decide) (fun c11 => ?_) (fun c11 => ?_)
        · refine aw_aload_n (pc := 49) d_M_readPart_49 rfl 0 rfl ?_
          refine aw_cVrV (pc := 50) (ci := 12) (T := TX12) (N := 44) (As := []) (st := []) (ok_M_readBook Y l0 h t0) okV_M_readBook rfl (by decide) t0 w8_175 d_M_readPart_50 rfl (Nat.le_of_ble_eq_true rfl) rfl (Nat.le_of_ble_eq_true rfl) (fun q12 hq12 hTq12 => ?_)
          refine aw_goto (pc := 53) (tgt := 144) d_M_readPart_53 (by decide) ?_
          exact aw_return (pc := 144) d_M_readPart_144 rfl rfl
        · refine aw_aload_n (pc := 56) d_M_readPart_56 rfl 0 rfl ?_
          refine aw_cVpZ (pc := 57) (ci := 12) (T := TX12) (N := 44) (As := []) (st := []) (ok_M_isFinale Y l0 h t0) okV_M_isFinale rfl (by decide) t0 w8_70 d_M_readPart_57 rfl (Nat.le_of_ble_eq_true rfl) rfl (Nat.le_of_ble_eq_true rfl) (fun q13 hq13 hTq13 => ?_)
          refine aw_beq (pc := 60) (tgt := 70) d_M_readPart_60 (by decide) (fun c14 => ?_) (fun c14 => ?_)
          · refine aw_aload_n (pc := 63) d_M_readPart_63 rfl 0 rfl ?_
            refine aw_cVrV (pc := 64) (ci := 12) (T := TX12) (N := 44) (As := []) (st := []) (ok_M_readFinale Y l0 h t0) okV_M_readFinale rfl (by decide) t0 w8_187 d_M_readPart_64 rfl (Nat.le_of_ble_eq_true rfl) rfl (Nat.le_of_ble_eq_true rfl) (fun q15 hq15 hTq15 => ?_)
            refine aw_goto (pc := 67) (tgt := 144) d_M_readPart_67 (by decide) ?_
            exact aw_return (pc := 144) d_M_readPart_144 rfl rfl
          · refine aw_aload_n (pc := 70) d_M_readPart_70 rfl 0 rfl ?_
            refine aw_cVpZ (pc := 71) (ci := 12) (T := TX12) (N := 44) (As := []) (st := []) (ok_M_isHint Y l0 h t0) okV_M_isHint rfl (by decide) t0 w8_74 d_M_readPart_71 rfl (Nat.le_of_ble_eq_true rfl) rfl (Nat.le_of_ble_eq_true rfl) (fun q16 hq16 hTq16 => ?_)
            refine aw_beq (pc := 74) (tgt := 84) d_M_readPart_74 (by decide) (fun c17 => ?_) (fun c17 => ?_)
            · refine aw_aload_n (pc := 77) d_M_readPart_77 rfl 0 rfl ?_
              refine aw_cVrV (pc := 78) (ci := 12) (T := TX12) (N := 44) (As := []) (st := []) (ok_M_readHint Y l0 h t0) okV_M_readHint rfl (by decide) t0 w8_191 d_M_readPart_78 rfl (Nat.le_of_ble_eq_true rfl) rfl (Nat.le_of_ble_eq_true rfl) (fun q18 hq18 hTq18 => ?_)
              refine aw_goto (pc := 81) (tgt := 144) d_M_readPart_81 (by decide) ?_
              exact aw_return (pc := 144) d_M_readPart_144 rfl rfl
            · refine aw_aload_n (pc := 84) d_M_readPart_84 rfl 0 rfl ?_
              refine aw_cVpZ (pc := 85) (ci := 12) (T := TX12) (N := 44) (As := []) (st := []) (ok_M_isReader Y l0 h t0) okV_M_isReader rfl (by decide) t0 w8_90 d_M_readPart_85 rfl (Nat.le_of_ble_eq_true rfl) rfl (Nat.le_of_ble_eq_true rfl) (fun q19 hq19 hTq19 => ?_)
              refine aw_beq (pc := 88) (tgt := 98) d_M_readPart_88 (by decide) (fun c20 => ?_) (fun c20 => ?_)
              · refine aw_aload_n (pc := 91) d_M_readPart_91 rfl 0 rfl ?_
                refine aw_cVrV (pc := 92) (ci := 12) (T := TX12) (N := 44) (As := []) (st := []) (ok_M_readReader Y l0 h t0) okV_M_readReader rfl (by decide) t0 w8_195 d_M_readPart_92 rfl (Nat.le_of_ble_eq_true rfl) rfl (Nat.le_of_ble_eq_true rfl) (fun q21 hq21 hTq21 => ?_)
                refine aw_goto (pc := 95) (tgt := 144) d_M_readPart_95 (by decide) ?_
                exact aw_return (pc := 144) d_M_readPart_144 rfl rfl
              · refine aw_aload_n (pc := 98) d_M_readPart_98 rfl 0 rfl ?_
                refine aw_cVpZ (pc := 99) (ci := 12) (T := TX12) (N := 44) (As := []) (st := []) (ok_M_isOffer Y l0 h t0) okV_M_isOffer rfl (by decide) t0 w8_94 d_M_readPart_99 rfl (Nat.le_of_ble_eq_true rfl) rfl (Nat.le_of_ble_eq_true rfl) (fun q22 hq22 hTq22 => ?_)
                refine aw_beq (pc := 102) (tgt := 112) d_M_readPart_102 (by decide) (fun c23 => ?_) (fun c23 => ?_)
                · refine aw_aload_n (pc := 105) d_M_readPart_105 rfl 0 rfl ?_
                  refine aw_cVrV (pc := 106) (ci := 12) (T := TX12) (N := 44) (As := []) (st := []) (ok_M_readOffer Y l0 h t0) okV_M_readOffer rfl (by decide) t0 w8_199 d_M_readPart_106 rfl (Nat.le_of_ble_eq_true rfl) rfl (Nat.le_of_ble_eq_true rfl) (fun q24 hq24 hTq24 => ?_)
                  refine aw_goto (pc := 109) (tgt := 144) d_M_readPart_109 (by decide) ?_
                  exact aw_return (pc := 144) d_M_readPart_144 rfl rfl
                · refine aw_aload_n (pc := 112) d_M_readPart_112 rfl 0 rfl ?_
                  refine aw_cVpZ (pc := 113) (ci := 12) (T := TX12) (N := 44) (As := []) (st := []) (ok_M_isWatch Y l0 h t0) okV_M_isWatch rfl (by decide) t0 w8_106 d_M_readPart_113 rfl (Nat.le_of_ble_eq_true rfl) rfl (Nat.le_of_ble_eq_true rfl) (fun q25 hq25 hTq25 => ?_)
                  refine aw_beq (pc := 116) (tgt := 126) d_M_readPart_116 (by decide) (fun c26 => ?_) (fun c26 => ?_)
                  · refine aw_aload_n (pc := 119) d_M_readPart_119 rfl 0 rfl ?_
                    refine aw_cVrV (pc := 120) (ci := 12) (T := TX12) (N := 44) (As := []) (st := []) (ok_M_readWatch Y l0 h t0) okV_M_readWatch rfl (by decide) t0 w8_207 d_M_readPart_120 rfl (Nat.le_of_ble_eq_true rfl) rfl (Nat.le_of_ble_eq_true rfl) (fun q27 hq27 hTq27 => ?_)
                    refine aw_goto (pc := 123) (tgt := 144) d_M_readPart_123 (by decide) ?_
                    exact aw_return (pc := 144) d_M_readPart_144 rfl rfl
                  · refine aw_aload_n (pc := 126) d_M_readPart_126 rfl 0 rfl ?_
                    refine aw_cVpZ (pc := 127) (ci := 12) (T := TX12) (N := 44) (As := []) (st := []) (ok_M_isFollows Y l0 h t0) okV_M_isFollows rfl (by decide) t0 w8_114 d_M_readPart_127 rfl (Nat.le_of_ble_eq_true rfl) rfl (Nat.le_of_ble_eq_true rfl) (fun q28 hq28 hTq28 => ?_)
                    refine aw_beq (pc := 130) (tgt := 140) d_M_readPart_130 (by decide) (fun c29 => ?_) (fun c29 => ?_)
                    · refine aw_aload_n (pc := 133) d_M_readPart_133 rfl 0 rfl ?_
                      refine aw_cVrV (pc := 134) (ci := 12) (T := TX12) (N := 44) (As := []) (st := []) (ok_M_readFollows Y l0 h t0) okV_M_readFollows rfl (by decide) t0 w8_211 d_M_readPart_134 rfl (Nat.le_of_ble_eq_true rfl) rfl (Nat.le_of_ble_eq_true rfl) (fun q30 hq30 hTq30 => ?_)
                      refine aw_goto (pc := 137) (tgt := 144) d_M_readPart_137 (by decide) ?_
                      exact aw_return (pc := 144) d_M_readPart_144 rfl rfl
                    · refine aw_aload_n (pc := 140) d_M_readPart_140 rfl 0 rfl ?_
                      refine aw_cVrV (pc := 141) (ci := 12) (T := TX12) (N := 44) (As := []) (st := []) (ok_M_amiss Y l0 h t0) okV_M_amiss rfl (by decide) t0 w8_135 d_M_readPart_141 rfl (Nat.le_of_ble_eq_true rfl) rfl (Nat.le_of_ble_eq_true rfl) (fun q31 hq31 hTq31 => ?_)
                      exact aw_return (pc := 144) d_M_readPart_144 rfl rfl
/-! LastPagesModel.readTest(I)V -/
theorem d_M_readTest_0 : decode prog_14_method_86_code 0 = .ok (.aload_n 0, 1) := by decide +kernel
theorem d_M_readTest_1 : decode prog_14_method_86_code 1 = .ok (.invokevirtual 236, 3) := by decide +kernel
theorem d_M_readTest_4 : decode prog_14_method_86_code 4 = .ok (.istore_n 2, 1) := by decide +kernel
theorem d_M_readTest_5 : decode prog_14_method_86_code 5 = .ok (.aload_n 0, 1) := by decide +kernel
theorem d_M_readTest_6 : decode prog_14_method_86_code 6 = .ok (.iload_n 2, 1) := by decide +kernel
theorem d_M_readTest_7 : decode prog_14_method_86_code 7 = .ok (.ifCond .lt 7, 3) := by decide +kernel
theorem d_M_readTest_10 : decode prog_14_method_86_code 10 = .ok (.iconst 1, 1) := by decide +kernel
theorem d_M_readTest_11 : decode prog_14_method_86_code 11 = .ok (.goto 4, 3) := by decide +kernel
theorem d_M_readTest_14 : decode prog_14_method_86_code 14 = .ok (.iconst 0, 1) := by decide +kernel
theorem d_M_readTest_15 : decode prog_14_method_86_code 15 = .ok (.invokevirtual 261, 3) := by decide +kernel
theorem d_M_readTest_18 : decode prog_14_method_86_code 18 = .ok (.aload_n 0, 1) := by decide +kernel
theorem d_M_readTest_19 : decode prog_14_method_86_code 19 = .ok (.getfield 35, 3) := by decide +kernel
theorem d_M_readTest_22 : decode prog_14_method_86_code 22 = .ok (.iload_n 1, 1) := by decide +kernel
theorem d_M_readTest_23 : decode prog_14_method_86_code 23 = .ok (.bipush 6, 2) := by decide +kernel
theorem d_M_readTest_25 : decode prog_14_method_86_code 25 = .ok (.iadd, 1) := by decide +kernel
theorem d_M_readTest_26 : decode prog_14_method_86_code 26 = .ok (.iload_n 2, 1) := by decide +kernel
theorem d_M_readTest_27 : decode prog_14_method_86_code 27 = .ok (.iastore, 1) := by decide +kernel
theorem d_M_readTest_28 : decode prog_14_method_86_code 28 = .ok (.iload_n 2, 1) := by decide +kernel
theorem d_M_readTest_29 : decode prog_14_method_86_code 29 = .ok (.iconst 1, 1) := by decide +kernel
theorem d_M_readTest_30 : decode prog_14_method_86_code 30 = .ok (.if_icmp .eq 17, 3) := by decide +kernel
theorem d_M_readTest_33 : decode prog_14_method_86_code 33 = .ok (.aload_n 0, 1) := by decide +kernel
theorem d_M_readTest_34 : decode prog_14_method_86_code 34 = .ok (.getfield 35, 3) := by decide +kernel
theorem d_M_readTest_37 : decode prog_14_method_86_code 37 = .ok (.iload_n 1, 1) := by decide +kernel
theorem d_M_readTest_38 : decode prog_14_method_86_code 38 = .ok (.iconst 1, 1) := by decide +kernel
theorem d_M_readTest_39 : decode prog_14_method_86_code 39 = .ok (.iadd, 1) := by decide +kernel
theorem d_M_readTest_40 : decode prog_14_method_86_code 40 = .ok (.aload_n 0, 1) := by decide +kernel
theorem d_M_readTest_41 : decode prog_14_method_86_code 41 = .ok (.iconst 0, 1) := by decide +kernel
theorem d_M_readTest_42 : decode prog_14_method_86_code 42 = .ok (.iconst 2, 1) := by decide +kernel
theorem d_M_readTest_43 : decode prog_14_method_86_code 43 = .ok (.invokevirtual 292, 3) := by decide +kernel
theorem d_M_readTest_46 : decode prog_14_method_86_code 46 = .ok (.iastore, 1) := by decide +kernel
theorem d_M_readTest_47 : decode prog_14_method_86_code 47 = .ok (.aload_n 0, 1) := by decide +kernel
theorem d_M_readTest_48 : decode prog_14_method_86_code 48 = .ok (.getfield 245, 3) := by decide +kernel
theorem d_M_readTest_51 : decode prog_14_method_86_code 51 = .ok (.ifCond .gt 7, 3) := by decide +kernel
theorem d_M_readTest_54 : decode prog_14_method_86_code 54 = .ok (.iload_n 2, 1) := by decide +kernel
theorem d_M_readTest_55 : decode prog_14_method_86_code 55 = .ok (.ifCond .ne 4, 3) := by decide +kernel
theorem d_M_readTest_58 : decode prog_14_method_86_code 58 = .ok (.return_, 1) := by decide +kernel
theorem d_M_readTest_59 : decode prog_14_method_86_code 59 = .ok (.aload_n 0, 1) := by decide +kernel
theorem d_M_readTest_60 : decode prog_14_method_86_code 60 = .ok (.getfield 35, 3) := by decide +kernel
theorem d_M_readTest_63 : decode prog_14_method_86_code 63 = .ok (.iload_n 1, 1) := by decide +kernel
theorem d_M_readTest_64 : decode prog_14_method_86_code 64 = .ok (.bipush 7, 2) := by decide +kernel
theorem d_M_readTest_66 : decode prog_14_method_86_code 66 = .ok (.iadd, 1) := by decide +kernel
theorem d_M_readTest_67 : decode prog_14_method_86_code 67 = .ok (.aload_n 0, 1) := by decide +kernel
theorem d_M_readTest_68 : decode prog_14_method_86_code 68 = .ok (.getfield 133, 3) := by decide +kernel
theorem d_M_readTest_71 : decode prog_14_method_86_code 71 = .ok (.iconst 3, 1) := by decide +kernel
theorem d_M_readTest_72 : decode prog_14_method_86_code 72 = .ok (.if_icmp .ne 10, 3) := by decide +kernel
theorem d_M_readTest_75 : decode prog_14_method_86_code 75 = .ok (.aload_n 0, 1) := by decide +kernel
theorem d_M_readTest_76 : decode prog_14_method_86_code 76 = .ok (.getfield 152, 3) := by decide +kernel
theorem d_M_readTest_79 : decode prog_14_method_86_code 79 = .ok (.goto 4, 3) := by decide +kernel
theorem d_M_readTest_82 : decode prog_14_method_86_code 82 = .ok (.iconst 0, 1) := by decide +kernel
theorem d_M_readTest_83 : decode prog_14_method_86_code 83 = .ok (.iastore, 1) := by decide +kernel
theorem d_M_readTest_84 : decode prog_14_method_86_code 84 = .ok (.aload_n 0, 1) := by decide +kernel
theorem d_M_readTest_85 : decode prog_14_method_86_code 85 = .ok (.aload_n 0, 1) := by decide +kernel
theorem d_M_readTest_86 : decode prog_14_method_86_code 86 = .ok (.bipush 60, 2) := by decide +kernel
theorem d_M_readTest_88 : decode prog_14_method_86_code 88 = .ok (.invokevirtual 344, 3) := by decide +kernel
theorem d_M_readTest_91 : decode prog_14_method_86_code 91 = .ok (.ifCond .ne 21, 3) := by decide +kernel
theorem d_M_readTest_94 : decode prog_14_method_86_code 94 = .ok (.aload_n 0, 1) := by decide +kernel
theorem d_M_readTest_95 : decode prog_14_method_86_code 95 = .ok (.bipush 62, 2) := by decide +kernel
theorem d_M_readTest_97 : decode prog_14_method_86_code 97 = .ok (.invokevirtual 344, 3) := by decide +kernel
theorem d_M_readTest_100 : decode prog_14_method_86_code 100 = .ok (.ifCond .ne 12, 3) := by decide +kernel
theorem d_M_readTest_103 : decode prog_14_method_86_code 103 = .ok (.aload_n 0, 1) := by decide +kernel
theorem d_M_readTest_104 : decode prog_14_method_86_code 104 = .ok (.bipush 61, 2) := by decide +kernel
theorem d_M_readTest_106 : decode prog_14_method_86_code 106 = .ok (.invokevirtual 344, 3) := by decide +kernel
theorem d_M_readTest_109 : decode prog_14_method_86_code 109 = .ok (.ifCond .eq 7, 3) := by decide +kernel
theorem d_M_readTest_112 : decode prog_14_method_86_code 112 = .ok (.iconst 1, 1) := by decide +kernel
theorem d_M_readTest_113 : decode prog_14_method_86_code 113 = .ok (.goto 4, 3) := by decide +kernel
theorem d_M_readTest_116 : decode prog_14_method_86_code 116 = .ok (.iconst 0, 1) := by decide +kernel
theorem d_M_readTest_117 : decode prog_14_method_86_code 117 = .ok (.invokevirtual 261, 3) := by decide +kernel
theorem d_M_readTest_120 : decode prog_14_method_86_code 120 = .ok (.aload_n 0, 1) := by decide +kernel
theorem d_M_readTest_121 : decode prog_14_method_86_code 121 = .ok (.getfield 35, 3) := by decide +kernel
theorem d_M_readTest_124 : decode prog_14_method_86_code 124 = .ok (.iload_n 1, 1) := by decide +kernel
theorem d_M_readTest_125 : decode prog_14_method_86_code 125 = .ok (.iconst 2, 1) := by decide +kernel
theorem d_M_readTest_126 : decode prog_14_method_86_code 126 = .ok (.iadd, 1) := by decide +kernel
theorem d_M_readTest_127 : decode prog_14_method_86_code 127 = .ok (.aload_n 0, 1) := by decide +kernel
theorem d_M_readTest_128 : decode prog_14_method_86_code 128 = .ok (.iconst 0, 1) := by decide +kernel
theorem d_M_readTest_129 : decode prog_14_method_86_code 129 = .ok (.iload_n 2, 1) := by decide +kernel
theorem d_M_readTest_130 : decode prog_14_method_86_code 130 = .ok (.iconst 1, 1) := by decide +kernel
theorem d_M_readTest_131 : decode prog_14_method_86_code 131 = .ok (.if_icmp .ne 8, 3) := by decide +kernel
theorem d_M_readTest_134 : decode prog_14_method_86_code 134 = .ok (.bipush 9, 2) := by decide +kernel
theorem d_M_readTest_136 : decode prog_14_method_86_code 136 = .ok (.goto 5, 3) := by decide +kernel
theorem d_M_readTest_139 : decode prog_14_method_86_code 139 = .ok (.bipush 99, 2) := by decide +kernel
theorem d_M_readTest_141 : decode prog_14_method_86_code 141 = .ok (.invokevirtual 265, 3) := by decide +kernel
theorem d_M_readTest_144 : decode prog_14_method_86_code 144 = .ok (.iastore, 1) := by decide +kernel
theorem d_M_readTest_145 : decode prog_14_method_86_code 145 = .ok (.return_, 1) := by decide +kernel
def M_readTest_J117 (Y : Ly) (l0 : Nat) (l1 : Int32) (l2 : Int32) (s0 : Bool) (s1 : Nat) (h : Hp) : Option Hp :=
  (M_must Y s1 s0 h).bind fun q16 =>
  if l2 = 1 then
    (M_count Y l0 0 9 q16).bind fun q19 =>
    if inB (l1 + 2) (lnY Y (hGr q16 1220 l0)) = true then
      letH (hTi q19.2 (hGr q16 1220 l0) (Int32.toNatClampNeg (l1 + 2)) q19.1) fun h21 =>
      some h21
    else none
  else
    (M_count Y l0 0 99 q16).bind fun q22 =>
    if inB (l1 + 2) (lnY Y (hGr q16 1220 l0)) = true then
      letH (hTi q22.2 (hGr q16 1220 l0) (Int32.toNatClampNeg (l1 + 2)) q22.1) fun h24 =>
      some h24
    else none
theorem M_readTest_J117_ok (Y : Ly) (l0 : Nat) (l1 : Int32) (l2 : Int32) (s0 : Bool) (s1 : Nat) (h : Hp) (tl0 : isO Y 12 l0) (ts1 : isO Y 12 s1) : AW Y 7 K_M_readTest 117 [(0, .ref l0), (1, .int l1), (2, .int l2)] [.int (b2i s0), .ref s1] h (M_readTest_J117 Y l0 l1 l2 s0 s1 h) rV := by
  unfold M_readTest_J117
  refine aw_cVrV (pc := 117) (ci := 12) (T := TX12) (N := 44) (As := [.int (b2i s0)]) (st := []) (ok_M_must Y s1 s0 h ts1) okV_M_must rfl (by decide) ts1 w8_171 d_M_readTest_117 rfl (Nat.le_of_ble_eq_true rfl) rfl (Nat.le_of_ble_eq_true rfl) (fun q16 hq16 hTq16 => ?_)
  refine aw_aload_n (pc := 120) d_M_readTest_120 rfl 0 rfl ?_
  refine gt_1220 (pc := 121) d_M_readTest_121 w7_47 tl0 (fun t17 => ?_)
  refine aw_iload_n (pc := 124) d_M_readTest_124 rfl 1 rfl ?_
  refine aw_iconst (pc := 125) (x := 2) d_M_readTest_125 (by decide) ?_
  refine aw_iadd (pc := 126) d_M_readTest_126 ?_
  refine aw_aload_n (pc := 127) d_M_readTest_127 rfl 0 rfl ?_
  refine aw_iconst (pc := 128) (x := 0) d_M_readTest_128 (by decide) ?_
  refine aw_iload_n (pc := 129) d_M_readTest_129 rfl 2 rfl ?_
  refine aw_iconst (pc := 130) (x := 1) d_M_readTest_130 (by decide) ?_
  refine aw_icmp_ne (pc := 131) (tgt := 139) d_M_readTest_131 (by decide) (fun c18 => ?_) (fun c18 => ?_)
  · refine aw_bipush (pc := 134) (x := 9) d_M_readTest_134 (by decide) ?_
    refine aw_goto (pc := 136) (tgt := 141) d_M_readTest_136 (by decide) ?_
    refine aw_cVrI (pc := 141) (ci := 12) (T := TX12) (N := 44) (As := [.int 0, .int 9]) (st := [.int (l1 + 2), .ref (hGr q16 1220 l0)]) (ok_M_count Y l0 0 9 q16 tl0) okV_M_count rfl (by decide) tl0 w8_151 d_M_readTest_141 rfl (Nat.le_of_ble_eq_true rfl) rfl (Nat.le_of_ble_eq_true rfl) (fun q19 hq19 hTq19 => ?_)
    refine aw_iastore (pc := 144) d_M_readTest_144 t17 (fun c20 => ?_)
    refine aw_letH (fun h21 => ?_)
    exact aw_return (pc := 145) d_M_readTest_145 rfl rfl
  · refine aw_bipush (pc := 139) (x := 99) d_M_readTest_139 (by decide) ?_
    refine aw_cVrI (pc := 141) (ci := 12) (T := TX12) (N := 44) (As := [.int 0, .int 99]) (st := [.int (l1 + 2), .ref (hGr q16 1220 l0)]) (ok_M_count Y l0 0 99 q16 tl0) okV_M_count rfl (by decide) tl0 w8_151 d_M_readTest_141 rfl (Nat.le_of_ble_eq_true rfl) rfl (Nat.le_of_ble_eq_true rfl) (fun q22 hq22 hTq22 => ?_)
    refine aw_iastore (pc := 144) d_M_readTest_144 t17 (fun c23 => ?_)
    refine aw_letH (fun h24 => ?_)
    exact aw_return (pc := 145) d_M_readTest_145 rfl rfl
def M_readTest_J112 (Y : Ly) (l0 : Nat) (l1 : Int32) (l2 : Int32) (s0 : Nat) (h : Hp) : Option Hp :=
  M_readTest_J117 Y l0 l1 l2 true s0 h
theorem M_readTest_J112_ok (Y : Ly) (l0 : Nat) (l1 : Int32) (l2 : Int32) (s0 : Nat) (h : Hp) (tl0 : isO Y 12 l0) (ts0 : isO Y 12 s0) : AW Y 7 K_M_readTest 112 [(0, .ref l0), (1, .int l1), (2, .int l2)] [.ref s0] h (M_readTest_J112 Y l0 l1 l2 s0 h) rV := by
  unfold M_readTest_J112
  refine aw_iconst (pc := 112) (x := 1) d_M_readTest_112 (by decide) ?_
  refine aw_goto (pc := 113) (tgt := 117) d_M_readTest_113 (by decide) ?_
  exact aw_lv [0, 1, 2] rfl (M_readTest_J117_ok Y l0 l1 l2 true s0 h tl0 ts0)
def M_readTest_J83 (Y : Ly) (l0 : Nat) (l1 : Int32) (l2 : Int32) (s0 : Int32) (s1 : Int32) (s2 : Nat) (h : Hp) : Option Hp :=
  if inB s1 (lnY Y s2) = true then
    letH (hTi h s2 (Int32.toNatClampNeg s1) s0) fun h13 =>
    (M_isSign Y l0 60 h13).bind fun q14 =>
    if q14 = true then
      M_readTest_J112 Y l0 l1 l2 l0 h13
    else
      (M_isSign Y l0 62 h13).bind fun q25 =>
      if q25 = true then
        M_readTest_J112 Y l0 l1 l2 l0 h13
      else
        (M_isSign Y l0 61 h13).bind fun q27 =>
        if q27 = true then
          M_readTest_J112 Y l0 l1 l2 l0 h13
        else
          M_readTest_J117 Y l0 l1 l2 false l0 h13
  else none
theorem M_readTest_J83_ok (Y : Ly) (l0 : Nat) (l1 : Int32) (l2 : Int32) (s0 : Int32) (s1 : Int32) (s2 : Nat) (h : Hp) (tl0 : isO Y 12 l0) (ts2 : isO Y 20 s2) : AW Y 7 K_M_readTest 83 [(0, .ref l0), (1, .int l1), (2, .int l2)] [.int s0, .int s1, .ref s2] h (M_readTest_J83 Y l0 l1 l2 s0 s1 s2 h) rV := by
  unfold M_readTest_J83
  refine aw_iastore (pc := 83) d_M_readTest_83 ts2 (fun c12 => ?_)
  refine aw_letH (fun h13 => ?_)
  refine aw_aload_n (pc := 84) d_M_readTest_84 rfl 0 rfl ?_
  refine aw_aload_n (pc := 85) d_M_readTest_85 rfl 0 rfl ?_
  refine aw_bipush (pc := 86) (x := 60) d_M_readTest_86 (by decide) ?_
  refine aw_cVpZ (pc := 88) (ci := 12) (T := TX12) (N := 44) (As := [.int 60]) (st := [.ref l0]) (ok_M_isSign Y l0 60 h13 tl0) okV_M_isSign rfl (by decide) tl0 w8_215 d_M_readTest_88 rfl (Nat.le_of_ble_eq_true rfl) rfl (Nat.le_of_ble_eq_true rfl) (fun q14 hq14 hTq14 => ?_)
  refine aw_bne (pc := 91) (tgt := 112) d_M_readTest_91 (by decide) (fun c15 => ?_) (fun c15 => ?_)
  · exact aw_lv [0, 1, 2] rfl (M_readTest_J112_ok Y l0 l1 l2 l0 h13 tl0 tl0)
  · refine aw_aload_n (pc := 94) d_M_readTest_94 rfl 0 rfl ?_
    refine aw_bipush (pc := 95) (x := 62) d_M_readTest_95 (by decide) ?_
    refine aw_cVpZ (pc := 97) (ci := 12) (T := TX12) (N := 44) (As := [.int 62]) (st := [.ref l0]) (ok_M_isSign Y l0 62 h13 tl0) okV_M_isSign rfl (by decide) tl0 w8_215 d_M_readTest_97 rfl (Nat.le_of_ble_eq_true rfl) rfl (Nat.le_of_ble_eq_true rfl) (fun q25 hq25 hTq25 => ?_)
    refine aw_bne (pc := 100) (tgt := 112) d_M_readTest_100 (by decide) (fun c26 => ?_) (fun c26 => ?_)
    · exact aw_lv [0, 1, 2] rfl (M_readTest_J112_ok Y l0 l1 l2 l0 h13 tl0 tl0)
    · refine aw_aload_n (pc := 103) d_M_readTest_103 rfl 0 rfl ?_
      refine aw_bipush (pc := 104) (x := 61) d_M_readTest_104 (by decide) ?_
      refine aw_cVpZ (pc := 106) (ci := 12) (T := TX12) (N := 44) (As := [.int 61]) (st := [.ref l0]) (ok_M_isSign Y l0 61 h13 tl0) okV_M_isSign rfl (by decide) tl0 w8_215 d_M_readTest_106 rfl (Nat.le_of_ble_eq_true rfl) rfl (Nat.le_of_ble_eq_true rfl) (fun q27 hq27 hTq27 => ?_)
      refine aw_beq (pc := 109) (tgt := 116) d_M_readTest_109 (by decide) (fun c28 => ?_) (fun c28 => ?_)
      · exact aw_lv [0, 1, 2] rfl (M_readTest_J112_ok Y l0 l1 l2 l0 h13 tl0 tl0)
      · refine aw_iconst (pc := 116) (x := 0) d_M_readTest_116 (by decide) ?_
        exact aw_lv [0, 1, 2] rfl (M_readTest_J117_ok Y l0 l1 l2 false l0 h13 tl0 tl0)
def M_readTest_J47 (Y : Ly) (l0 : Nat) (l1 : Int32) (l2 : Int32) (h : Hp) : Option Hp :=
  if 0 < (hGi h 1212 l0) then
    some h
  else
    if l2 = 0 then
      some h
    else
      if (hGi h 1214 l0) = 3 then
        M_readTest_J83 Y l0 l1 l2 (hGi h 1217 l0) (l1 + 7) (hGr h 1220 l0) h
      else
        M_readTest_J83 Y l0 l1 l2 0 (l1 + 7) (hGr h 1220 l0) h
theorem M_readTest_J47_ok (Y : Ly) (l0 : Nat) (l1 : Int32) (l2 : Int32) (h : Hp) (tl0 : isO Y 12 l0) : AW Y 7 K_M_readTest 47 [(0, .ref l0), (1, .int l1), (2, .int l2)] [] h (M_readTest_J47 Y l0 l1 l2 h) rV := by
  unfold M_readTest_J47
  refine aw_aload_n (pc := 47) d_M_readTest_47 rfl 0 rfl ?_
  refine gt_1212 (pc := 48) d_M_readTest_48 w7_39 tl0 ?_
  refine aw_if_gt (pc := 51) (tgt := 58) d_M_readTest_51 (by decide) (fun c8 => ?_) (fun c8 => ?_)
  · exact aw_return (pc := 58) d_M_readTest_58 rfl rfl
  · refine aw_iload_n (pc := 54) d_M_readTest_54 rfl 2 rfl ?_
    refine aw_if_ne (pc := 55) (tgt := 59) d_M_readTest_55 (by decide) (fun c9 => ?_) (fun c9 => ?_)
    · exact aw_return (pc := 58) d_M_readTest_58 rfl rfl
    · refine aw_aload_n (pc := 59) d_M_readTest_59 rfl 0 rfl ?_
      refine gt_1220 (pc := 60) d_M_readTest_60 w7_47 tl0 (fun t10 => ?_)
      refine aw_iload_n (pc := 63) d_M_readTest_63 rfl 1 rfl ?_
      refine aw_bipush (pc := 64) (x := 7) d_M_readTest_64 (by decide) ?_
      refine aw_iadd (pc := 66) d_M_readTest_66 ?_
      refine aw_aload_n (pc := 67) d_M_readTest_67 rfl 0 rfl ?_
      refine gt_1214 (pc := 68) d_M_readTest_68 w7_41 tl0 ?_
      refine aw_iconst (pc := 71) (x := 3) d_M_readTest_71 (by decide) ?_
      refine aw_icmp_ne (pc := 72) (tgt := 82) d_M_readTest_72 (by decide) (fun c11 => ?_) (fun c11 => ?_)
      · refine aw_aload_n (pc := 75) d_M_readTest_75 rfl 0 rfl ?_
        refine gt_1217 (pc := 76) d_M_readTest_76 w7_44 tl0 ?_
        refine aw_goto (pc := 79) (tgt := 83) d_M_readTest_79 (by decide) ?_
        exact aw_lv [0, 1, 2] rfl (M_readTest_J83_ok Y l0 l1 l2 (hGi h 1217 l0) (l1 + 7) (hGr h 1220 l0) h tl0 t10)
      · refine aw_iconst (pc := 82) (x := 0) d_M_readTest_82 (by decide) ?_
        exact aw_lv [0, 1, 2] rfl (M_readTest_J83_ok Y l0 l1 l2 0 (l1 + 7) (hGr h 1220 l0) h tl0 t10)
def M_readTest_J15 (Y : Ly) (l0 : Nat) (l1 : Int32) (l2 : Int32) (s0 : Bool) (s1 : Nat) (h : Hp) : Option Hp :=
  (M_must Y s1 s0 h).bind fun q3 =>
  if inB (l1 + 6) (lnY Y (hGr q3 1220 l0)) = true then
    letH (hTi q3 (hGr q3 1220 l0) (Int32.toNatClampNeg (l1 + 6)) l2) fun h6 =>
    if l2 = 1 then
      M_readTest_J47 Y l0 l1 l2 h6
    else
      (M_readTold Y l0 0 2 h6).bind fun q30 =>
      if inB (l1 + 1) (lnY Y (hGr h6 1220 l0)) = true then
        letH (hTi q30.2 (hGr h6 1220 l0) (Int32.toNatClampNeg (l1 + 1)) q30.1) fun h32 =>
        M_readTest_J47 Y l0 l1 l2 h32
      else none
  else none
theorem M_readTest_J15_ok (Y : Ly) (l0 : Nat) (l1 : Int32) (l2 : Int32) (s0 : Bool) (s1 : Nat) (h : Hp) (tl0 : isO Y 12 l0) (ts1 : isO Y 12 s1) : AW Y 7 K_M_readTest 15 [(0, .ref l0), (1, .int l1), (2, .int l2)] [.int (b2i s0), .ref s1] h (M_readTest_J15 Y l0 l1 l2 s0 s1 h) rV := by
  unfold M_readTest_J15
  refine aw_cVrV (pc := 15) (ci := 12) (T := TX12) (N := 44) (As := [.int (b2i s0)]) (st := []) (ok_M_must Y s1 s0 h ts1) okV_M_must rfl (by decide) ts1 w8_171 d_M_readTest_15 rfl (Nat.le_of_ble_eq_true rfl) rfl (Nat.le_of_ble_eq_true rfl) (fun q3 hq3 hTq3 => ?_)
  refine aw_aload_n (pc := 18) d_M_readTest_18 rfl 0 rfl ?_
  refine gt_1220 (pc := 19) d_M_readTest_19 w7_47 tl0 (fun t4 => ?_)
  refine aw_iload_n (pc := 22) d_M_readTest_22 rfl 1 rfl ?_
  refine aw_bipush (pc := 23) (x := 6) d_M_readTest_23 (by decide) ?_
  refine aw_iadd (pc := 25) d_M_readTest_25 ?_
  refine aw_iload_n (pc := 26) d_M_readTest_26 rfl 2 rfl ?_
  refine aw_iastore (pc := 27) d_M_readTest_27 t4 (fun c5 => ?_)
  refine aw_letH (fun h6 => ?_)
  refine aw_iload_n (pc := 28) d_M_readTest_28 rfl 2 rfl ?_
  refine aw_iconst (pc := 29) (x := 1) d_M_readTest_29 (by decide) ?_
  refine aw_icmp_eq (pc := 30) (tgt := 47) d_M_readTest_30 (by decide) (fun c7 => ?_) (fun c7 => ?_)
  · exact aw_lv [0, 1, 2] rfl (M_readTest_J47_ok Y l0 l1 l2 h6 tl0)
  · refine aw_aload_n (pc := 33) d_M_readTest_33 rfl 0 rfl ?_
    refine gt_1220 (pc := 34) d_M_readTest_34 w7_47 tl0 (fun t29 => ?_)
    refine aw_iload_n (pc := 37) d_M_readTest_37 rfl 1 rfl ?_
    refine aw_iconst (pc := 38) (x := 1) d_M_readTest_38 (by decide) ?_
    refine aw_iadd (pc := 39) d_M_readTest_39 ?_
    refine aw_aload_n (pc := 40) d_M_readTest_40 rfl 0 rfl ?_
    refine aw_iconst (pc := 41) (x := 0) d_M_readTest_41 (by decide) ?_
    refine aw_iconst (pc := 42) (x := 2) d_M_readTest_42 (by decide) ?_
    refine aw_cVrI (pc := 43) (ci := 12) (T := TX12) (N := 44) (As := [.int 0, .int 2]) (st := [.int (l1 + 1), .ref (hGr h6 1220 l0)]) (ok_M_readTold Y l0 0 2 h6 tl0) okV_M_readTold rfl (by decide) tl0 w8_162 d_M_readTest_43 rfl (Nat.le_of_ble_eq_true rfl) rfl (Nat.le_of_ble_eq_true rfl) (fun q30 hq30 hTq30 => ?_)
    refine aw_iastore (pc := 46) d_M_readTest_46 t29 (fun c31 => ?_)
    refine aw_letH (fun h32 => ?_)
    exact aw_lv [0, 1, 2] rfl (M_readTest_J47_ok Y l0 l1 l2 h32 tl0)
def M_readTest (Y : Ly) (l0 : Nat) (l1 : Int32) (h : Hp) : Option Hp :=
  (M_testWord Y l0 h).bind fun q1 =>
  if q1 < 0 then
    M_readTest_J15 Y l0 l1 q1 false l0 h
  else
    M_readTest_J15 Y l0 l1 q1 true l0 h
theorem ok_M_readTest (Y : Ly) (l0 : Nat) (l1 : Int32) (h : Hp) (t0 : isO Y 12 l0) : AM Y 7 K_M_readTest [.ref l0, .int l1] h (M_readTest Y l0 l1 h) rV := by
  refine AM.of rfl (Nat.le_of_ble_eq_true rfl) ?_
  show AW Y 7 K_M_readTest 0 [(0, .ref l0), (1, .int l1)] [] h (M_readTest Y l0 l1 h) rV
  unfold M_readTest
  refine aw_aload_n (pc := 0) d_M_readTest_0 rfl 0 rfl ?_
  refine aw_cVpI (pc := 1) (ci := 12) (T := TX12) (N := 44) (As := []) (st := []) (ok_M_testWord Y l0 h t0) okV_M_testWord rfl (by decide) t0 w8_123 d_M_readTest_1 rfl (Nat.le_of_ble_eq_true rfl) rfl (Nat.le_of_ble_eq_true rfl) (fun q1 hq1 hTq1 => ?_)
  refine aw_istore_n (pc := 4) (lv' := [(2, .int q1), (0, .ref l0), (1, .int l1)]) d_M_readTest_4 rfl (by decide) rfl ?_
  refine aw_aload_n (pc := 5) d_M_readTest_5 rfl 1 rfl ?_
  refine aw_iload_n (pc := 6) d_M_readTest_6 rfl 0 rfl ?_
  refine aw_if_lt (pc := 7) (tgt := 14) d_M_readTest_7 (by decide) (fun c2 => ?_) (fun c2 => ?_)
  · refine aw_iconst (pc := 14) (x := 0) d_M_readTest_14 (by decide) ?_
    exact aw_lv [1, 2, 0] rfl (M_readTest_J15_ok Y l0 l1 q1 false l0 h t0 t0)
  · refine aw_iconst (pc := 10) (x := 1) d_M_readTest_10 (by decide) ?_
    refine aw_goto (pc := 11) (tgt := 15) d_M_readTest_11 (by decide) ?_
    exact aw_lv [1, 2, 0] rfl (M_readTest_J15_ok Y l0 l1 q1 true l0 h t0 t0)
