/-! LastPagesModel.readBooks()I -/
theorem d_M_readBooks_0 : decode prog_14_method_72_code 0 = .ok (.iconst 0, 1) := by decide +kernel
theorem d_M_readBooks_1 : decode prog_14_method_72_code 1 = .ok (.istore_n 1, 1) := by decide +kernel
theorem d_M_readBooks_2 : decode prog_14_method_72_code 2 = .ok (.aload_n 0, 1) := by decide +kernel
theorem d_M_readBooks_3 : decode prog_14_method_72_code 3 = .ok (.getfield 245, 3) := by decide +kernel
theorem d_M_readBooks_6 : decode prog_14_method_72_code 6 = .ok (.ifCond .ne 25, 3) := by decide +kernel
theorem d_M_readBooks_9 : decode prog_14_method_72_code 9 = .ok (.aload_n 0, 1) := by decide +kernel
theorem d_M_readBooks_10 : decode prog_14_method_72_code 10 = .ok (.getfield 133, 3) := by decide +kernel
theorem d_M_readBooks_13 : decode prog_14_method_72_code 13 = .ok (.iconst 1, 1) := by decide +kernel
theorem d_M_readBooks_14 : decode prog_14_method_72_code 14 = .ok (.if_icmp .ne 17, 3) := by decide +kernel
theorem d_M_readBooks_17 : decode prog_14_method_72_code 17 = .ok (.iload_n 1, 1) := by decide +kernel
theorem d_M_readBooks_18 : decode prog_14_method_72_code 18 = .ok (.iconst 1, 1) := by decide +kernel
theorem d_M_readBooks_19 : decode prog_14_method_72_code 19 = .ok (.aload_n 0, 1) := by decide +kernel
theorem d_M_readBooks_20 : decode prog_14_method_72_code 20 = .ok (.iconst 4, 1) := by decide +kernel
theorem d_M_readBooks_21 : decode prog_14_method_72_code 21 = .ok (.iconst 2, 1) := by decide +kernel
theorem d_M_readBooks_22 : decode prog_14_method_72_code 22 = .ok (.invokevirtual 292, 3) := by decide +kernel
theorem d_M_readBooks_25 : decode prog_14_method_72_code 25 = .ok (.ishl, 1) := by decide +kernel
theorem d_M_readBooks_26 : decode prog_14_method_72_code 26 = .ok (.ior, 1) := by decide +kernel
theorem d_M_readBooks_27 : decode prog_14_method_72_code 27 = .ok (.istore_n 1, 1) := by decide +kernel
theorem d_M_readBooks_28 : decode prog_14_method_72_code 28 = .ok (.goto (-26), 3) := by decide +kernel
theorem d_M_readBooks_31 : decode prog_14_method_72_code 31 = .ok (.iload_n 1, 1) := by decide +kernel
theorem d_M_readBooks_32 : decode prog_14_method_72_code 32 = .ok (.ireturn, 1) := by decide +kernel
def M_readBooks_L2 (Y : Ly) (l0 : Nat) : Nat → Int32 → Hp → Option (Int32 × Hp)
  | 0, _, _ => none
  | F + 1, l1, h =>
    if (hGi h 1212 l0) = 0 then
      if (hGi h 1214 l0) = 1 then
        (M_readTold Y l0 4 2 h).bind fun q3 =>
        M_readBooks_L2 Y l0 F (l1 ||| ((1 : Int32) <<< (q3.1 &&& 31))) q3.2
      else
        some (l1, h)
    else
      some (l1, h)
theorem M_readBooks_L2_ok (Y : Ly) (l0 : Nat) (tl0 : isO Y 12 l0) : ∀ (F : Nat) (l1 : Int32) (h : Hp), AW Y 7 K_M_readBooks 2 [(0, .ref l0), (1, .int l1)] [] h (M_readBooks_L2 Y l0 F l1 h) rI := by
  intro F
  induction F with
  | zero =>
    intro l1 h
    exact aw_none
  | succ F ih =>
    intro l1 h
    unfold M_readBooks_L2
    refine aw_aload_n (pc := 2) d_M_readBooks_2 rfl 0 rfl ?_
    refine gt_1212 (pc := 3) d_M_readBooks_3 w7_39 tl0 ?_
    refine aw_if_ne (pc := 6) (tgt := 31) d_M_readBooks_6 (by decide) (fun c1 => ?_) (fun c1 => ?_)
    · refine aw_aload_n (pc := 9) d_M_readBooks_9 rfl 0 rfl ?_
      refine gt_1214 (pc := 10) d_M_readBooks_10 w7_41 tl0 ?_
      refine aw_iconst (pc := 13) (x := 1) d_M_readBooks_13 (by decide) ?_
      refine aw_icmp_ne (pc := 14) (tgt := 31) d_M_readBooks_14 (by decide) (fun c2 => ?_) (fun c2 => ?_)
      · refine aw_iload_n (pc := 17) d_M_readBooks_17 rfl 1 rfl ?_
        refine aw_iconst (pc := 18) (x := 1) d_M_readBooks_18 (by decide) ?_
        refine aw_aload_n (pc := 19) d_M_readBooks_19 rfl 0 rfl ?_
        refine aw_iconst (pc := 20) (x := 4) d_M_readBooks_20 (by decide) ?_
        refine aw_iconst (pc := 21) (x := 2) d_M_readBooks_21 (by decide) ?_
        refine aw_cVrI (pc := 22) (ci := 12) (T := TX12) (N := 44) (As := [.int 4, .int 2]) (st := [.int 1, .int l1]) (ok_M_readTold Y l0 4 2 h tl0) okV_M_readTold rfl (by decide) tl0 w8_162 d_M_readBooks_22 rfl (Nat.le_of_ble_eq_true rfl) rfl (Nat.le_of_ble_eq_true rfl) (fun q3 hq3 hTq3 => ?_)
        refine aw_ishl (pc := 25) d_M_readBooks_25 ?_
        refine aw_ior (pc := 26) d_M_readBooks_26 ?_
        refine aw_istore_n (pc := 27) (lv' := [(1, .int (l1 ||| ((1 : Int32) <<< (q3.1 &&& 31)))), (0, .ref l0)]) d_M_readBooks_27 rfl (by decide) rfl ?_
        refine aw_goto (pc := 28) (tgt := 2) d_M_readBooks_28 (by decide) ?_
        exact aw_lv [1, 0] rfl (ih (l1 ||| ((1 : Int32) <<< (q3.1 &&& 31))) q3.2)
      · refine aw_iload_n (pc := 31) d_M_readBooks_31 rfl 1 rfl ?_
        exact aw_ireturn (pc := 32) d_M_readBooks_32 rfl rfl
    · refine aw_iload_n (pc := 31) d_M_readBooks_31 rfl 1 rfl ?_
      exact aw_ireturn (pc := 32) d_M_readBooks_32 rfl rfl
def M_readBooks (Y : Ly) (l0 : Nat) (h : Hp) : Option (Int32 × Hp) :=
  M_readBooks_L2 Y l0 FU 0 h
theorem ok_M_readBooks (Y : Ly) (l0 : Nat) (h : Hp) (t0 : isO Y 12 l0) : AM Y 7 K_M_readBooks [.ref l0] h (M_readBooks Y l0 h) rI := by
  refine AM.of rfl (Nat.le_of_ble_eq_true rfl) ?_
  show AW Y 7 K_M_readBooks 0 [(0, .ref l0)] [] h (M_readBooks Y l0 h) rI
  unfold M_readBooks
  refine aw_iconst (pc := 0) (x := 0) d_M_readBooks_0 (by decide) ?_
  refine aw_istore_n (pc := 1) (lv' := [(1, .int 0), (0, .ref l0)]) d_M_readBooks_1 rfl (by decide) rfl ?_
  exact aw_lv [1, 0] rfl (M_readBooks_L2_ok Y l0 t0 FU 0 h)
/-! LastPagesModel.readFinale()V -/
theorem d_M_readFinale_0 : decode prog_14_method_78_code 0 = .ok (.aload_n 0, 1) := by decide +kernel
theorem d_M_readFinale_1 : decode prog_14_method_78_code 1 = .ok (.iconst 3, 1) := by decide +kernel
theorem d_M_readFinale_2 : decode prog_14_method_78_code 2 = .ok (.bipush 8, 2) := by decide +kernel
theorem d_M_readFinale_4 : decode prog_14_method_78_code 4 = .ok (.invokevirtual 295, 3) := by decide +kernel
theorem d_M_readFinale_7 : decode prog_14_method_78_code 7 = .ok (.istore_n 1, 1) := by decide +kernel
theorem d_M_readFinale_8 : decode prog_14_method_78_code 8 = .ok (.aload_n 0, 1) := by decide +kernel
theorem d_M_readFinale_9 : decode prog_14_method_78_code 9 = .ok (.getfield 245, 3) := by decide +kernel
theorem d_M_readFinale_12 : decode prog_14_method_78_code 12 = .ok (.ifCond .ne 15, 3) := by decide +kernel
theorem d_M_readFinale_15 : decode prog_14_method_78_code 15 = .ok (.aload_n 0, 1) := by decide +kernel
theorem d_M_readFinale_16 : decode prog_14_method_78_code 16 = .ok (.getfield 133, 3) := by decide +kernel
theorem d_M_readFinale_19 : decode prog_14_method_78_code 19 = .ok (.iconst 1, 1) := by decide +kernel
theorem d_M_readFinale_20 : decode prog_14_method_78_code 20 = .ok (.if_icmp .eq 7, 3) := by decide +kernel
theorem d_M_readFinale_23 : decode prog_14_method_78_code 23 = .ok (.aload_n 0, 1) := by decide +kernel
theorem d_M_readFinale_24 : decode prog_14_method_78_code 24 = .ok (.invokevirtual 258, 3) := by decide +kernel
theorem d_M_readFinale_27 : decode prog_14_method_78_code 27 = .ok (.aload_n 0, 1) := by decide +kernel
theorem d_M_readFinale_28 : decode prog_14_method_78_code 28 = .ok (.getfield 35, 3) := by decide +kernel
theorem d_M_readFinale_31 : decode prog_14_method_78_code 31 = .ok (.sipush 2470, 3) := by decide +kernel
theorem d_M_readFinale_34 : decode prog_14_method_78_code 34 = .ok (.iload_n 1, 1) := by decide +kernel
theorem d_M_readFinale_35 : decode prog_14_method_78_code 35 = .ok (.iadd, 1) := by decide +kernel
theorem d_M_readFinale_36 : decode prog_14_method_78_code 36 = .ok (.aload_n 0, 1) := by decide +kernel
theorem d_M_readFinale_37 : decode prog_14_method_78_code 37 = .ok (.sipush 2478, 3) := by decide +kernel
theorem d_M_readFinale_40 : decode prog_14_method_78_code 40 = .ok (.bipush 6, 2) := by decide +kernel
theorem d_M_readFinale_42 : decode prog_14_method_78_code 42 = .ok (.iload_n 1, 1) := by decide +kernel
theorem d_M_readFinale_43 : decode prog_14_method_78_code 43 = .ok (.imul, 1) := by decide +kernel
theorem d_M_readFinale_44 : decode prog_14_method_78_code 44 = .ok (.iadd, 1) := by decide +kernel
theorem d_M_readFinale_45 : decode prog_14_method_78_code 45 = .ok (.bipush 6, 2) := by decide +kernel
theorem d_M_readFinale_47 : decode prog_14_method_78_code 47 = .ok (.invokevirtual 302, 3) := by decide +kernel
theorem d_M_readFinale_50 : decode prog_14_method_78_code 50 = .ok (.iastore, 1) := by decide +kernel
theorem d_M_readFinale_51 : decode prog_14_method_78_code 51 = .ok (.aload_n 0, 1) := by decide +kernel
theorem d_M_readFinale_52 : decode prog_14_method_78_code 52 = .ok (.getfield 245, 3) := by decide +kernel
theorem d_M_readFinale_55 : decode prog_14_method_78_code 55 = .ok (.ifCond .ne 15, 3) := by decide +kernel
theorem d_M_readFinale_58 : decode prog_14_method_78_code 58 = .ok (.aload_n 0, 1) := by decide +kernel
theorem d_M_readFinale_59 : decode prog_14_method_78_code 59 = .ok (.getfield 35, 3) := by decide +kernel
theorem d_M_readFinale_62 : decode prog_14_method_78_code 62 = .ok (.sipush 2307, 3) := by decide +kernel
theorem d_M_readFinale_65 : decode prog_14_method_78_code 65 = .ok (.dup2, 1) := by decide +kernel
theorem d_M_readFinale_66 : decode prog_14_method_78_code 66 = .ok (.iaload, 1) := by decide +kernel
theorem d_M_readFinale_67 : decode prog_14_method_78_code 67 = .ok (.iconst 1, 1) := by decide +kernel
theorem d_M_readFinale_68 : decode prog_14_method_78_code 68 = .ok (.iadd, 1) := by decide +kernel
theorem d_M_readFinale_69 : decode prog_14_method_78_code 69 = .ok (.iastore, 1) := by decide +kernel
theorem d_M_readFinale_70 : decode prog_14_method_78_code 70 = .ok (.return_, 1) := by decide +kernel
def M_readFinale_J27 (Y : Ly) (l0 : Nat) (l1 : Int32) (h : Hp) : Option Hp :=
  (M_readTurns Y l0 (2478 + (6 * l1)) 6 h).bind fun q5 =>
  if inB (2470 + l1) (lnY Y (hGr h 1220 l0)) = true then
    letH (hTi q5.2 (hGr h 1220 l0) (Int32.toNatClampNeg (2470 + l1)) q5.1) fun h7 =>
    if (hGi h7 1212 l0) = 0 then
      if inB 2307 (lnY Y (hGr h7 1220 l0)) = true then
        if inB 2307 (lnY Y (hGr h7 1220 l0)) = true then
          letH (hTi h7 (hGr h7 1220 l0) (Int32.toNatClampNeg 2307) ((hAi h7 (hGr h7 1220 l0) (Int32.toNatClampNeg 2307)) + 1)) fun h12 =>
          some h12
        else none
      else none
    else
      some h7
  else none
theorem M_readFinale_J27_ok (Y : Ly) (l0 : Nat) (l1 : Int32) (h : Hp) (tl0 : isO Y 12 l0) : AW Y 7 K_M_readFinale 27 [(0, .ref l0), (1, .int l1)] [] h (M_readFinale_J27 Y l0 l1 h) rV := by
  unfold M_readFinale_J27
  refine aw_aload_n (pc := 27) d_M_readFinale_27 rfl 0 rfl ?_
  refine gt_1220 (pc := 28) d_M_readFinale_28 w7_47 tl0 (fun tt4 => ?_)
  refine aw_sipush (pc := 31) (x := 2470) d_M_readFinale_31 (by decide) ?_
  refine aw_iload_n (pc := 34) d_M_readFinale_34 rfl 1 rfl ?_
  refine aw_iadd (pc := 35) d_M_readFinale_35 ?_
  refine aw_aload_n (pc := 36) d_M_readFinale_36 rfl 0 rfl ?_
  refine aw_sipush (pc := 37) (x := 2478) d_M_readFinale_37 (by decide) ?_
  refine aw_bipush (pc := 40) (x := 6) d_M_readFinale_40 (by decide) ?_
  refine aw_iload_n (pc := 42) d_M_readFinale_42 rfl 1 rfl ?_
  refine aw_imul (pc := 43) d_M_readFinale_43 ?_
  refine aw_iadd (pc := 44) d_M_readFinale_44 ?_
  refine aw_bipush (pc := 45) (x := 6) d_M_readFinale_45 (by decide) ?_
  refine aw_cVrI (pc := 47) (ci := 12) (T := TX12) (N := 44) (As := [.int (2478 + (6 * l1)), .int 6]) (st := [.int (2470 + l1), .ref (hGr h 1220 l0)]) (ok_M_readTurns Y l0 (2478 + (6 * l1)) 6 h tl0) okV_M_readTurns rfl (by decide) tl0 w8_183 d_M_readFinale_47 rfl (Nat.le_of_ble_eq_true rfl) rfl (Nat.le_of_ble_eq_true rfl) (fun q5 hq5 hTq5 => ?_)
  refine aw_iastore (pc := 50) d_M_readFinale_50 tt4 (fun c6 => ?_)
  refine aw_letH (fun h7 => ?_)
  refine aw_aload_n (pc := 51) d_M_readFinale_51 rfl 0 rfl ?_
  refine gt_1212 (pc := 52) d_M_readFinale_52 w7_39 tl0 ?_
  refine aw_if_ne (pc := 55) (tgt := 70) d_M_readFinale_55 (by decide) (fun c8 => ?_) (fun c8 => ?_)
  · refine aw_aload_n (pc := 58) d_M_readFinale_58 rfl 0 rfl ?_
    refine gt_1220 (pc := 59) d_M_readFinale_59 w7_47 tl0 (fun tt9 => ?_)
    refine aw_sipush (pc := 62) (x := 2307) d_M_readFinale_62 (by decide) ?_
    refine aw_dup2_11 (pc := 65) d_M_readFinale_65 rfl rfl ?_
    refine aw_iaload (pc := 66) d_M_readFinale_66 tt9 (fun c10 => ?_)
    refine aw_iconst (pc := 67) (x := 1) d_M_readFinale_67 (by decide) ?_
    refine aw_iadd (pc := 68) d_M_readFinale_68 ?_
    refine aw_iastore (pc := 69) d_M_readFinale_69 tt9 (fun c11 => ?_)
    refine aw_letH (fun h12 => ?_)
    exact aw_return (pc := 70) d_M_readFinale_70 rfl rfl
  · exact aw_return (pc := 70) d_M_readFinale_70 rfl rfl
def M_readFinale (Y : Ly) (l0 : Nat) (h : Hp) : Option Hp :=
  (M_readNew Y l0 3 8 h).bind fun q1 =>
  if (hGi q1.2 1212 l0) = 0 then
    if (hGi q1.2 1214 l0) = 1 then
      M_readFinale_J27 Y l0 q1.1 q1.2
    else
      (M_amiss Y l0 q1.2).bind fun q13 =>
      M_readFinale_J27 Y l0 q1.1 q13
  else
    M_readFinale_J27 Y l0 q1.1 q1.2
theorem ok_M_readFinale (Y : Ly) (l0 : Nat) (h : Hp) (t0 : isO Y 12 l0) : AM Y 7 K_M_readFinale [.ref l0] h (M_readFinale Y l0 h) rV := by
  refine AM.of rfl (Nat.le_of_ble_eq_true rfl) ?_
  show AW Y 7 K_M_readFinale 0 [(0, .ref l0)] [] h (M_readFinale Y l0 h) rV
  unfold M_readFinale
  refine aw_aload_n (pc := 0) d_M_readFinale_0 rfl 0 rfl ?_
  refine aw_iconst (pc := 1) (x := 3) d_M_readFinale_1 (by decide) ?_
  refine aw_bipush (pc := 2) (x := 8) d_M_readFinale_2 (by decide) ?_
  refine aw_cVrI (pc := 4) (ci := 12) (T := TX12) (N := 44) (As := [.int 3, .int 8]) (st := []) (ok_M_readNew Y l0 3 8 h t0) okV_M_readNew rfl (by decide) t0 w8_23 d_M_readFinale_4 rfl (Nat.le_of_ble_eq_true rfl) rfl (Nat.le_of_ble_eq_true rfl) (fun q1 hq1 hTq1 => ?_)
  refine aw_istore_n (pc := 7) (lv' := [(1, .int q1.1), (0, .ref l0)]) d_M_readFinale_7 rfl (by decide) rfl ?_
  refine aw_aload_n (pc := 8) d_M_readFinale_8 rfl 1 rfl ?_
  refine gt_1212 (pc := 9) d_M_readFinale_9 w7_39 t0 ?_
  refine aw_if_ne (pc := 12) (tgt := 27) d_M_readFinale_12 (by decide) (fun c2 => ?_) (fun c2 => ?_)
  · refine aw_aload_n (pc := 15) d_M_readFinale_15 rfl 1 rfl ?_
    refine gt_1214 (pc := 16) d_M_readFinale_16 w7_41 t0 ?_
    refine aw_iconst (pc := 19) (x := 1) d_M_readFinale_19 (by decide) ?_
    refine aw_icmp_eq (pc := 20) (tgt := 27) d_M_readFinale_20 (by decide) (fun c3 => ?_) (fun c3 => ?_)
    · exact aw_lv [1, 0] rfl (M_readFinale_J27_ok Y l0 q1.1 q1.2 t0)
    · refine aw_aload_n (pc := 23) d_M_readFinale_23 rfl 1 rfl ?_
      refine aw_cVrV (pc := 24) (ci := 12) (T := TX12) (N := 44) (As := []) (st := []) (ok_M_amiss Y l0 q1.2 t0) okV_M_amiss rfl (by decide) t0 w8_135 d_M_readFinale_24 rfl (Nat.le_of_ble_eq_true rfl) rfl (Nat.le_of_ble_eq_true rfl) (fun q13 hq13 hTq13 => ?_)
      exact aw_lv [1, 0] rfl (M_readFinale_J27_ok Y l0 q1.1 q13 t0)
  · exact aw_lv [1, 0] rfl (M_readFinale_J27_ok Y l0 q1.1 q1.2 t0)
/-! LastPagesModel.readFollows()V -/
theorem d_M_readFollows_0 : decode prog_14_method_83_code 0 = .ok (.aload_n 0, 1) := by decide +kernel
theorem d_M_readFollows_1 : decode prog_14_method_83_code 1 = .ok (.invokevirtual 255, 3) := by decide +kernel
theorem d_M_readFollows_4 : decode prog_14_method_83_code 4 = .ok (.aload_n 0, 1) := by decide +kernel
theorem d_M_readFollows_5 : decode prog_14_method_83_code 5 = .ok (.iconst 4, 1) := by decide +kernel
theorem d_M_readFollows_6 : decode prog_14_method_83_code 6 = .ok (.iconst 2, 1) := by decide +kernel
theorem d_M_readFollows_7 : decode prog_14_method_83_code 7 = .ok (.invokevirtual 292, 3) := by decide +kernel
theorem d_M_readFollows_10 : decode prog_14_method_83_code 10 = .ok (.istore_n 1, 1) := by decide +kernel
theorem d_M_readFollows_11 : decode prog_14_method_83_code 11 = .ok (.aload_n 0, 1) := by decide +kernel
theorem d_M_readFollows_12 : decode prog_14_method_83_code 12 = .ok (.iconst 4, 1) := by decide +kernel
theorem d_M_readFollows_13 : decode prog_14_method_83_code 13 = .ok (.iconst 2, 1) := by decide +kernel
theorem d_M_readFollows_14 : decode prog_14_method_83_code 14 = .ok (.invokevirtual 289, 3) := by decide +kernel
theorem d_M_readFollows_17 : decode prog_14_method_83_code 17 = .ok (.istore_n 2, 1) := by decide +kernel
theorem d_M_readFollows_18 : decode prog_14_method_83_code 18 = .ok (.aload_n 0, 1) := by decide +kernel
theorem d_M_readFollows_19 : decode prog_14_method_83_code 19 = .ok (.getfield 245, 3) := by decide +kernel
theorem d_M_readFollows_22 : decode prog_14_method_83_code 22 = .ok (.ifCond .ne 17, 3) := by decide +kernel
theorem d_M_readFollows_25 : decode prog_14_method_83_code 25 = .ok (.iload_n 1, 1) := by decide +kernel
theorem d_M_readFollows_26 : decode prog_14_method_83_code 26 = .ok (.iload_n 2, 1) := by decide +kernel
theorem d_M_readFollows_27 : decode prog_14_method_83_code 27 = .ok (.if_icmp .ne 12, 3) := by decide +kernel
theorem d_M_readFollows_30 : decode prog_14_method_83_code 30 = .ok (.aload_n 0, 1) := by decide +kernel
theorem d_M_readFollows_31 : decode prog_14_method_83_code 31 = .ok (.iconst 5, 1) := by decide +kernel
theorem d_M_readFollows_32 : decode prog_14_method_83_code 32 = .ok (.aload_n 0, 1) := by decide +kernel
theorem d_M_readFollows_33 : decode prog_14_method_83_code 33 = .ok (.getfield 127, 3) := by decide +kernel
theorem d_M_readFollows_36 : decode prog_14_method_83_code 36 = .ok (.invokevirtual 251, 3) := by decide +kernel
theorem d_M_readFollows_39 : decode prog_14_method_83_code 39 = .ok (.aload_n 0, 1) := by decide +kernel
theorem d_M_readFollows_40 : decode prog_14_method_83_code 40 = .ok (.iconst 1, 1) := by decide +kernel
theorem d_M_readFollows_41 : decode prog_14_method_83_code 41 = .ok (.invokevirtual 261, 3) := by decide +kernel
theorem d_M_readFollows_44 : decode prog_14_method_83_code 44 = .ok (.aload_n 0, 1) := by decide +kernel
theorem d_M_readFollows_45 : decode prog_14_method_83_code 45 = .ok (.getfield 245, 3) := by decide +kernel
theorem d_M_readFollows_48 : decode prog_14_method_83_code 48 = .ok (.ifCond .ne 19, 3) := by decide +kernel
theorem d_M_readFollows_51 : decode prog_14_method_83_code 51 = .ok (.aload_n 0, 1) := by decide +kernel
theorem d_M_readFollows_52 : decode prog_14_method_83_code 52 = .ok (.getfield 35, 3) := by decide +kernel
theorem d_M_readFollows_55 : decode prog_14_method_83_code 55 = .ok (.sipush 2602, 3) := by decide +kernel
theorem d_M_readFollows_58 : decode prog_14_method_83_code 58 = .ok (.iload_n 1, 1) := by decide +kernel
theorem d_M_readFollows_59 : decode prog_14_method_83_code 59 = .ok (.iadd, 1) := by decide +kernel
theorem d_M_readFollows_60 : decode prog_14_method_83_code 60 = .ok (.dup2, 1) := by decide +kernel
theorem d_M_readFollows_61 : decode prog_14_method_83_code 61 = .ok (.iaload, 1) := by decide +kernel
theorem d_M_readFollows_62 : decode prog_14_method_83_code 62 = .ok (.iconst 1, 1) := by decide +kernel
theorem d_M_readFollows_63 : decode prog_14_method_83_code 63 = .ok (.iload_n 2, 1) := by decide +kernel
theorem d_M_readFollows_64 : decode prog_14_method_83_code 64 = .ok (.ishl, 1) := by decide +kernel
theorem d_M_readFollows_65 : decode prog_14_method_83_code 65 = .ok (.ior, 1) := by decide +kernel
theorem d_M_readFollows_66 : decode prog_14_method_83_code 66 = .ok (.iastore, 1) := by decide +kernel
theorem d_M_readFollows_67 : decode prog_14_method_83_code 67 = .ok (.return_, 1) := by decide +kernel
def M_readFollows_J39 (Y : Ly) (l0 : Nat) (l1 : Int32) (l2 : Int32) (h : Hp) : Option Hp :=
  (M_must Y l0 true h).bind fun q7 =>
  if (hGi q7 1212 l0) = 0 then
    if inB (2602 + l1) (lnY Y (hGr q7 1220 l0)) = true then
      if inB (2602 + l1) (lnY Y (hGr q7 1220 l0)) = true then
        letH (hTi q7 (hGr q7 1220 l0) (Int32.toNatClampNeg (2602 + l1)) ((hAi q7 (hGr q7 1220 l0) (Int32.toNatClampNeg (2602 + l1))) ||| ((1 : Int32) <<< (l2 &&& 31)))) fun h12 =>
        some h12
      else none
    else none
  else
    some q7
theorem M_readFollows_J39_ok (Y : Ly) (l0 : Nat) (l1 : Int32) (l2 : Int32) (h : Hp) (tl0 : isO Y 12 l0) : AW Y 7 K_M_readFollows 39 [(0, .ref l0), (1, .int l1), (2, .int l2)] [] h (M_readFollows_J39 Y l0 l1 l2 h) rV := by
  unfold M_readFollows_J39
  refine aw_aload_n (pc := 39) d_M_readFollows_39 rfl 0 rfl ?_
  refine aw_iconst (pc := 40) (x := 1) d_M_readFollows_40 (by decide) ?_
  refine aw_cVrV (pc := 41) (ci := 12) (T := TX12) (N := 44) (As := [.int (b2i true)]) (st := []) (ok_M_must Y l0 true h tl0) okV_M_must rfl (by decide) tl0 w8_171 d_M_readFollows_41 rfl (Nat.le_of_ble_eq_true rfl) rfl (Nat.le_of_ble_eq_true rfl) (fun q7 hq7 hTq7 => ?_)
  refine aw_aload_n (pc := 44) d_M_readFollows_44 rfl 0 rfl ?_
  refine gt_1212 (pc := 45) d_M_readFollows_45 w7_39 tl0 ?_
  refine aw_if_ne (pc := 48) (tgt := 67) d_M_readFollows_48 (by decide) (fun c8 => ?_) (fun c8 => ?_)
  · refine aw_aload_n (pc := 51) d_M_readFollows_51 rfl 0 rfl ?_
    refine gt_1220 (pc := 52) d_M_readFollows_52 w7_47 tl0 (fun tt9 => ?_)
    refine aw_sipush (pc := 55) (x := 2602) d_M_readFollows_55 (by decide) ?_
    refine aw_iload_n (pc := 58) d_M_readFollows_58 rfl 1 rfl ?_
    refine aw_iadd (pc := 59) d_M_readFollows_59 ?_
    refine aw_dup2_11 (pc := 60) d_M_readFollows_60 rfl rfl ?_
    refine aw_iaload (pc := 61) d_M_readFollows_61 tt9 (fun c10 => ?_)
    refine aw_iconst (pc := 62) (x := 1) d_M_readFollows_62 (by decide) ?_
    refine aw_iload_n (pc := 63) d_M_readFollows_63 rfl 2 rfl ?_
    refine aw_ishl (pc := 64) d_M_readFollows_64 ?_
    refine aw_ior (pc := 65) d_M_readFollows_65 ?_
    refine aw_iastore (pc := 66) d_M_readFollows_66 tt9 (fun c11 => ?_)
    refine aw_letH (fun h12 => ?_)
    exact aw_return (pc := 67) d_M_readFollows_67 rfl rfl
  · exact aw_return (pc := 67) d_M_readFollows_67 rfl rfl
def M_readFollows (Y : Ly) (l0 : Nat) (h : Hp) : Option Hp :=
  (M_advance Y l0 h).bind fun q1 =>
  (M_readTold Y l0 4 2 q1).bind fun q2 =>
  (M_told Y l0 4 2 q2.2).bind fun q3 =>
  if (hGi q3.2 1212 l0) = 0 then
    if q2.1 = q3.1 then
      (M_fail Y l0 5 (hGi q3.2 1215 l0) q3.2).bind fun q6 =>
      M_readFollows_J39 Y l0 q2.1 q3.1 q6
    else
      M_readFollows_J39 Y l0 q2.1 q3.1 q3.2
  else
    M_readFollows_J39 Y l0 q2.1 q3.1 q3.2
theorem ok_M_readFollows (Y : Ly) (l0 : Nat) (h : Hp) (t0 : isO Y 12 l0) : AM Y 7 K_M_readFollows [.ref l0] h (M_readFollows Y l0 h) rV := by
  refine AM.of rfl (Nat.le_of_ble_eq_true rfl) ?_
  show AW Y 7 K_M_readFollows 0 [(0, .ref l0)] [] h (M_readFollows Y l0 h) rV
  unfold M_readFollows
  refine aw_aload_n (pc := 0) d_M_readFollows_0 rfl 0 rfl ?_
  refine aw_cVrV (pc := 1) (ci := 12) (T := TX12) (N := 44) (As := []) (st := []) (ok_M_advance Y l0 h t0) okV_M_advance rfl (by decide) t0 w7_224 d_M_readFollows_1 rfl (Nat.le_of_ble_eq_true rfl) rfl (Nat.le_of_ble_eq_true rfl) (fun q1 hq1 hTq1 => ?_)
  refine aw_aload_n (pc := 4) d_M_readFollows_4 rfl 0 rfl ?_
  refine aw_iconst (pc := 5) (x := 4) d_M_readFollows_5 (by decide) ?_
  refine aw_iconst (pc := 6) (x := 2) d_M_readFollows_6 (by decide) ?_
  refine aw_cVrI (pc := 7) (ci := 12) (T := TX12) (N := 44) (As := [.int 4, .int 2]) (st := []) (ok_M_readTold Y l0 4 2 q1 t0) okV_M_readTold rfl (by decide) t0 w8_162 d_M_readFollows_7 rfl (Nat.le_of_ble_eq_true rfl) rfl (Nat.le_of_ble_eq_true rfl) (fun q2 hq2 hTq2 => ?_)
  refine aw_istore_n (pc := 10) (lv' := [(1, .int q2.1), (0, .ref l0)]) d_M_readFollows_10 rfl (by decide) rfl ?_
  refine aw_aload_n (pc := 11) d_M_readFollows_11 rfl 1 rfl ?_
  refine aw_iconst (pc := 12) (x := 4) d_M_readFollows_12 (by decide) ?_
  refine aw_iconst (pc := 13) (x := 2) d_M_readFollows_13 (by decide) ?_
  refine aw_cVrI (pc := 14) (ci := 12) (T := TX12) (N := 44) (As := [.int 4, .int 2]) (st := []) (ok_M_told Y l0 4 2 q2.2 t0) okV_M_told rfl (by decide) t0 w8_166 d_M_readFollows_14 rfl (Nat.le_of_ble_eq_true rfl) rfl (Nat.le_of_ble_eq_true rfl) (fun q3 hq3 hTq3 => ?_)
  refine aw_istore_n (pc := 17) (lv' := [(2, .int q3.1), (1, .int q2.1), (0, .ref l0)]) d_M_readFollows_17 rfl (by decide) rfl ?_
  refine aw_aload_n (pc := 18) d_M_readFollows_18 rfl 2 rfl ?_
  refine gt_1212 (pc := 19) d_M_readFollows_19 w7_39 t0 ?_
  refine aw_if_ne (pc := 22) (tgt := 39) d_M_readFollows_22 (by decide) (fun c4 => ?_) (fun c4 => ?_)
  · refine aw_iload_n (pc := 25) d_M_readFollows_25 rfl 1 rfl ?_
    refine aw_iload_n (pc := 26) d_M_readFollows_26 rfl 0 rfl ?_
    refine aw_icmp_ne (pc := 27) (tgt := 39) d_M_readFollows_27 (by decide) (fun c5 => ?_) (fun c5 => ?_)
    · refine aw_aload_n (pc := 30) d_M_readFollows_30 rfl 2 rfl ?_
      refine aw_iconst (pc := 31) (x := 5) d_M_readFollows_31 (by decide) ?_
      refine aw_aload_n (pc := 32) d_M_readFollows_32 rfl 2 rfl ?_
      refine gt_1215 (pc := 33) d_M_readFollows_33 w7_42 t0 ?_
      refine aw_cVrV (pc := 36) (ci := 12) (T := TX12) (N := 44) (As := [.int 5, .int (hGi q3.2 1215 l0)]) (st := []) (ok_M_fail Y l0 5 (hGi q3.2 1215 l0) q3.2 t0) okV_M_fail rfl (by decide) t0 w8_30 d_M_readFollows_36 rfl (Nat.le_of_ble_eq_true rfl) rfl (Nat.le_of_ble_eq_true rfl) (fun q6 hq6 hTq6 => ?_)
      exact aw_lv [2, 1, 0] rfl (M_readFollows_J39_ok Y l0 q2.1 q3.1 q6 t0)
    · exact aw_lv [2, 1, 0] rfl (M_readFollows_J39_ok Y l0 q2.1 q3.1 q3.2 t0)
  · exact aw_lv [2, 1, 0] rfl (M_readFollows_J39_ok Y l0 q2.1 q3.1 q3.2 t0)
/-! LastPagesModel.readHint()V -/
theorem d_M_readHint_0 : decode prog_14_method_79_code 0 = .ok (.aload_n 0, 1) := by decide +kernel
theorem d_M_readHint_1 : decode prog_14_method_79_code 1 = .ok (.getfield 35, 3) := by decide +kernel
theorem d_M_readHint_4 : decode prog_14_method_79_code 4 = .ok (.sipush 2309, 3) := by decide +kernel
theorem d_M_readHint_7 : decode prog_14_method_79_code 7 = .ok (.iaload, 1) := by decide +kernel
theorem d_M_readHint_8 : decode prog_14_method_79_code 8 = .ok (.istore_n 1, 1) := by decide +kernel
theorem d_M_readHint_9 : decode prog_14_method_79_code 9 = .ok (.iload_n 1, 1) := by decide +kernel
theorem d_M_readHint_10 : decode prog_14_method_79_code 10 = .ok (.bipush 12, 2) := by decide +kernel
theorem d_M_readHint_12 : decode prog_14_method_79_code 12 = .ok (.if_icmp .ne 13, 3) := by decide +kernel
theorem d_M_readHint_15 : decode prog_14_method_79_code 15 = .ok (.aload_n 0, 1) := by decide +kernel
theorem d_M_readHint_16 : decode prog_14_method_79_code 16 = .ok (.bipush 6, 2) := by decide +kernel
theorem d_M_readHint_18 : decode prog_14_method_79_code 18 = .ok (.aload_n 0, 1) := by decide +kernel
theorem d_M_readHint_19 : decode prog_14_method_79_code 19 = .ok (.getfield 127, 3) := by decide +kernel
theorem d_M_readHint_22 : decode prog_14_method_79_code 22 = .ok (.invokevirtual 251, 3) := by decide +kernel
theorem d_M_readHint_25 : decode prog_14_method_79_code 25 = .ok (.aload_n 0, 1) := by decide +kernel
theorem d_M_readHint_26 : decode prog_14_method_79_code 26 = .ok (.getfield 245, 3) := by decide +kernel
theorem d_M_readHint_29 : decode prog_14_method_79_code 29 = .ok (.ifCond .le 4, 3) := by decide +kernel
theorem d_M_readHint_32 : decode prog_14_method_79_code 32 = .ok (.return_, 1) := by decide +kernel
theorem d_M_readHint_33 : decode prog_14_method_79_code 33 = .ok (.aload_n 0, 1) := by decide +kernel
theorem d_M_readHint_34 : decode prog_14_method_79_code 34 = .ok (.invokevirtual 255, 3) := by decide +kernel
theorem d_M_readHint_37 : decode prog_14_method_79_code 37 = .ok (.aload_n 0, 1) := by decide +kernel
theorem d_M_readHint_38 : decode prog_14_method_79_code 38 = .ok (.iconst 4, 1) := by decide +kernel
theorem d_M_readHint_39 : decode prog_14_method_79_code 39 = .ok (.iconst 2, 1) := by decide +kernel
theorem d_M_readHint_40 : decode prog_14_method_79_code 40 = .ok (.invokevirtual 292, 3) := by decide +kernel
theorem d_M_readHint_43 : decode prog_14_method_79_code 43 = .ok (.istore_n 2, 1) := by decide +kernel
theorem d_M_readHint_44 : decode prog_14_method_79_code 44 = .ok (.aload_n 0, 1) := by decide +kernel
theorem d_M_readHint_45 : decode prog_14_method_79_code 45 = .ok (.aload_n 0, 1) := by decide +kernel
theorem d_M_readHint_46 : decode prog_14_method_79_code 46 = .ok (.invokevirtual 202, 3) := by decide +kernel
theorem d_M_readHint_49 : decode prog_14_method_79_code 49 = .ok (.iconst 1, 1) := by decide +kernel
theorem d_M_readHint_50 : decode prog_14_method_79_code 50 = .ok (.aload_n 0, 1) := by decide +kernel
theorem d_M_readHint_51 : decode prog_14_method_79_code 51 = .ok (.getfield 35, 3) := by decide +kernel
theorem d_M_readHint_54 : decode prog_14_method_79_code 54 = .ok (.sipush 2392, 3) := by decide +kernel
theorem d_M_readHint_57 : decode prog_14_method_79_code 57 = .ok (.iload_n 2, 1) := by decide +kernel
theorem d_M_readHint_58 : decode prog_14_method_79_code 58 = .ok (.iadd, 1) := by decide +kernel
theorem d_M_readHint_59 : decode prog_14_method_79_code 59 = .ok (.iaload, 1) := by decide +kernel
theorem d_M_readHint_60 : decode prog_14_method_79_code 60 = .ok (.invokevirtual 298, 3) := by decide +kernel
theorem d_M_readHint_63 : decode prog_14_method_79_code 63 = .ok (.istore_n 3, 1) := by decide +kernel
theorem d_M_readHint_64 : decode prog_14_method_79_code 64 = .ok (.aload_n 0, 1) := by decide +kernel
theorem d_M_readHint_65 : decode prog_14_method_79_code 65 = .ok (.aload_n 0, 1) := by decide +kernel
theorem d_M_readHint_66 : decode prog_14_method_79_code 66 = .ok (.invokevirtual 205, 3) := by decide +kernel
theorem d_M_readHint_69 : decode prog_14_method_79_code 69 = .ok (.invokevirtual 261, 3) := by decide +kernel
theorem d_M_readHint_72 : decode prog_14_method_79_code 72 = .ok (.aload_n 0, 1) := by decide +kernel
theorem d_M_readHint_73 : decode prog_14_method_79_code 73 = .ok (.iconst 4, 1) := by decide +kernel
theorem d_M_readHint_74 : decode prog_14_method_79_code 74 = .ok (.iconst 1, 1) := by decide +kernel
theorem d_M_readHint_75 : decode prog_14_method_79_code 75 = .ok (.invokevirtual 292, 3) := by decide +kernel
theorem d_M_readHint_78 : decode prog_14_method_79_code 78 = .ok (.istore 4, 2) := by decide +kernel
theorem d_M_readHint_80 : decode prog_14_method_79_code 80 = .ok (.aload_n 0, 1) := by decide +kernel
theorem d_M_readHint_81 : decode prog_14_method_79_code 81 = .ok (.aload_n 0, 1) := by decide +kernel
theorem d_M_readHint_82 : decode prog_14_method_79_code 82 = .ok (.invokevirtual 208, 3) := by decide +kernel
theorem d_M_readHint_85 : decode prog_14_method_79_code 85 = .ok (.invokevirtual 261, 3) := by decide +kernel
theorem d_M_readHint_88 : decode prog_14_method_79_code 88 = .ok (.aload_n 0, 1) := by decide +kernel
theorem d_M_readHint_89 : decode prog_14_method_79_code 89 = .ok (.iconst 4, 1) := by decide +kernel
theorem d_M_readHint_90 : decode prog_14_method_79_code 90 = .ok (.iconst 4, 1) := by decide +kernel
theorem d_M_readHint_91 : decode prog_14_method_79_code 91 = .ok (.invokevirtual 292, 3) := by decide +kernel
theorem d_M_readHint_94 : decode prog_14_method_79_code 94 = .ok (.istore 5, 2) := by decide +kernel
theorem d_M_readHint_96 : decode prog_14_method_79_code 96 = .ok (.aload_n 0, 1) := by decide +kernel
theorem d_M_readHint_97 : decode prog_14_method_79_code 97 = .ok (.getfield 245, 3) := by decide +kernel
theorem d_M_readHint_100 : decode prog_14_method_79_code 100 = .ok (.ifCond .le 4, 3) := by decide +kernel
theorem d_M_readHint_103 : decode prog_14_method_79_code 103 = .ok (.return_, 1) := by decide +kernel
theorem d_M_readHint_104 : decode prog_14_method_79_code 104 = .ok (.aload_n 0, 1) := by decide +kernel
theorem d_M_readHint_105 : decode prog_14_method_79_code 105 = .ok (.getfield 35, 3) := by decide +kernel
theorem d_M_readHint_108 : decode prog_14_method_79_code 108 = .ok (.sipush 2526, 3) := by decide +kernel
theorem d_M_readHint_111 : decode prog_14_method_79_code 111 = .ok (.iload_n 1, 1) := by decide +kernel
theorem d_M_readHint_112 : decode prog_14_method_79_code 112 = .ok (.iadd, 1) := by decide +kernel
theorem d_M_readHint_113 : decode prog_14_method_79_code 113 = .ok (.iload_n 2, 1) := by decide +kernel
theorem d_M_readHint_114 : decode prog_14_method_79_code 114 = .ok (.iastore, 1) := by decide +kernel
theorem d_M_readHint_115 : decode prog_14_method_79_code 115 = .ok (.aload_n 0, 1) := by decide +kernel
theorem d_M_readHint_116 : decode prog_14_method_79_code 116 = .ok (.getfield 35, 3) := by decide +kernel
theorem d_M_readHint_119 : decode prog_14_method_79_code 119 = .ok (.sipush 2538, 3) := by decide +kernel
theorem d_M_readHint_122 : decode prog_14_method_79_code 122 = .ok (.iload_n 1, 1) := by decide +kernel
theorem d_M_readHint_123 : decode prog_14_method_79_code 123 = .ok (.iadd, 1) := by decide +kernel
theorem d_M_readHint_124 : decode prog_14_method_79_code 124 = .ok (.iload_n 3, 1) := by decide +kernel
theorem d_M_readHint_125 : decode prog_14_method_79_code 125 = .ok (.iastore, 1) := by decide +kernel
theorem d_M_readHint_126 : decode prog_14_method_79_code 126 = .ok (.aload_n 0, 1) := by decide +kernel
theorem d_M_readHint_127 : decode prog_14_method_79_code 127 = .ok (.getfield 35, 3) := by decide +kernel
theorem d_M_readHint_130 : decode prog_14_method_79_code 130 = .ok (.sipush 2550, 3) := by decide +kernel
theorem d_M_readHint_133 : decode prog_14_method_79_code 133 = .ok (.iload_n 1, 1) := by decide +kernel
theorem d_M_readHint_134 : decode prog_14_method_79_code 134 = .ok (.iadd, 1) := by decide +kernel
theorem d_M_readHint_135 : decode prog_14_method_79_code 135 = .ok (.iload 4, 2) := by decide +kernel
theorem d_M_readHint_137 : decode prog_14_method_79_code 137 = .ok (.iastore, 1) := by decide +kernel
theorem d_M_readHint_138 : decode prog_14_method_79_code 138 = .ok (.aload_n 0, 1) := by decide +kernel
theorem d_M_readHint_139 : decode prog_14_method_79_code 139 = .ok (.getfield 35, 3) := by decide +kernel
theorem d_M_readHint_142 : decode prog_14_method_79_code 142 = .ok (.sipush 2562, 3) := by decide +kernel
theorem d_M_readHint_145 : decode prog_14_method_79_code 145 = .ok (.iload_n 1, 1) := by decide +kernel
theorem d_M_readHint_146 : decode prog_14_method_79_code 146 = .ok (.iadd, 1) := by decide +kernel
theorem d_M_readHint_147 : decode prog_14_method_79_code 147 = .ok (.iload 5, 2) := by decide +kernel
theorem d_M_readHint_149 : decode prog_14_method_79_code 149 = .ok (.iastore, 1) := by decide +kernel
theorem d_M_readHint_150 : decode prog_14_method_79_code 150 = .ok (.aload_n 0, 1) := by decide +kernel
theorem d_M_readHint_151 : decode prog_14_method_79_code 151 = .ok (.getfield 35, 3) := by decide +kernel
theorem d_M_readHint_154 : decode prog_14_method_79_code 154 = .ok (.sipush 2309, 3) := by decide +kernel
theorem d_M_readHint_157 : decode prog_14_method_79_code 157 = .ok (.dup2, 1) := by decide +kernel
theorem d_M_readHint_158 : decode prog_14_method_79_code 158 = .ok (.iaload, 1) := by decide +kernel
theorem d_M_readHint_159 : decode prog_14_method_79_code 159 = .ok (.iconst 1, 1) := by decide +kernel
theorem d_M_readHint_160 : decode prog_14_method_79_code 160 = .ok (.iadd, 1) := by decide +kernel
theorem d_M_readHint_161 : decode prog_14_method_79_code 161 = .ok (.iastore, 1) := by decide +kernel
theorem d_M_readHint_162 : decode prog_14_method_79_code 162 = .ok (.return_, 1) := by decide +kernel
def M_readHint_J25 (Y : Ly) (l0 : Nat) (l1 : Int32) (h : Hp) : Option Hp :=
  if (hGi h 1212 l0) ≤ 0 then
    (M_advance Y l0 h).bind fun q6 =>
    (M_readTold Y l0 4 2 q6).bind fun q7 =>
    (M_isAt Y l0 q7.2).bind fun q8 =>
    if inB (2392 + q7.1) (lnY Y (hGr q7.2 1220 l0)) = true then
      (M_behindWord Y l0 q8 1 (hAi q7.2 (hGr q7.2 1220 l0) (Int32.toNatClampNeg (2392 + q7.1))) q7.2).bind fun q11 =>
      (M_isIs Y l0 q11.2).bind fun q12 =>
      (M_must Y l0 q12 q11.2).bind fun q13 =>
      (M_readTold Y l0 4 1 q13).bind fun q14 =>
      (M_isBy Y l0 q14.2).bind fun q15 =>
      (M_must Y l0 q15 q14.2).bind fun q16 =>
      (M_readTold Y l0 4 4 q16).bind fun q17 =>
      if (hGi q17.2 1212 l0) ≤ 0 then
        if inB (2526 + l1) (lnY Y (hGr q17.2 1220 l0)) = true then
          letH (hTi q17.2 (hGr q17.2 1220 l0) (Int32.toNatClampNeg (2526 + l1)) q7.1) fun h21 =>
          if inB (2538 + l1) (lnY Y (hGr h21 1220 l0)) = true then
            letH (hTi h21 (hGr h21 1220 l0) (Int32.toNatClampNeg (2538 + l1)) q11.1) fun h24 =>
            if inB (2550 + l1) (lnY Y (hGr h24 1220 l0)) = true then
              letH (hTi h24 (hGr h24 1220 l0) (Int32.toNatClampNeg (2550 + l1)) q14.1) fun h27 =>
              if inB (2562 + l1) (lnY Y (hGr h27 1220 l0)) = true then
                letH (hTi h27 (hGr h27 1220 l0) (Int32.toNatClampNeg (2562 + l1)) q17.1) fun h30 =>
                if inB 2309 (lnY Y (hGr h30 1220 l0)) = true then
                  if inB 2309 (lnY Y (hGr h30 1220 l0)) = true then
                    letH (hTi h30 (hGr h30 1220 l0) (Int32.toNatClampNeg 2309) ((hAi h30 (hGr h30 1220 l0) (Int32.toNatClampNeg 2309)) + 1)) fun h34 =>
                    some h34
                  else none
                else none
              else none
            else none
          else none
        else none
      else
        some q17.2
    else none
  else
    some h
theorem M_readHint_J25_ok (Y : Ly) (l0 : Nat) (l1 : Int32) (h : Hp) (tl0 : isO Y 12 l0) : AW Y 7 K_M_readHint 25 [(0, .ref l0), (1, .int l1)] [] h (M_readHint_J25 Y l0 l1 h) rV := by
  unfold M_readHint_J25
  refine aw_aload_n (pc := 25) d_M_readHint_25 rfl 0 rfl ?_
  refine gt_1212 (pc := 26) d_M_readHint_26 w7_39 tl0 ?_
  refine aw_if_le (pc := 29) (tgt := 33) d_M_readHint_29 (by decide) (fun c5 => ?_) (fun c5 => ?_)
  · refine aw_aload_n (pc := 33) d_M_readHint_33 rfl 0 rfl ?_
    refine aw_cVrV (pc := 34) (ci := 12) (T := TX12) (N := 44) (As := []) (st := []) (ok_M_advance Y l0 h tl0) okV_M_advance rfl (by decide) tl0 w7_224 d_M_readHint_34 rfl (Nat.le_of_ble_eq_true rfl) rfl (Nat.le_of_ble_eq_true rfl) (fun q6 hq6 hTq6 => ?_)
    refine aw_aload_n (pc := 37) d_M_readHint_37 rfl 0 rfl ?_
    refine aw_iconst (pc := 38) (x := 4) d_M_readHint_38 (by decide) ?_
    refine aw_iconst (pc := 39) (x := 2) d_M_readHint_39 (by decide) ?_
    refine aw_cVrI (pc := 40) (ci := 12) (T := TX12) (N := 44) (As := [.int 4, .int 2]) (st := []) (ok_M_readTold Y l0 4 2 q6 tl0) okV_M_readTold rfl (by decide) tl0 w8_162 d_M_readHint_40 rfl (Nat.le_of_ble_eq_true rfl) rfl (Nat.le_of_ble_eq_true rfl) (fun q7 hq7 hTq7 => ?_)
    refine aw_istore_n (pc := 43) (lv' := [(2, .int q7.1), (0, .ref l0), (1, .int l1)]) d_M_readHint_43 rfl (by decide) rfl ?_
    refine aw_aload_n (pc := 44) d_M_readHint_44 rfl 1 rfl ?_
    refine aw_aload_n (pc := 45) d_M_readHint_45 rfl 1 rfl ?_
    refine aw_cVpZ (pc := 46) (ci := 12) (T := TX12) (N := 44) (As := []) (st := [.ref l0]) (ok_M_isAt Y l0 q7.2 tl0) okV_M_isAt rfl (by decide) tl0 w8_78 d_M_readHint_46 rfl (Nat.le_of_ble_eq_true rfl) rfl (Nat.le_of_ble_eq_true rfl) (fun q8 hq8 hTq8 => ?_)
    refine aw_iconst (pc := 49) (x := 1) d_M_readHint_49 (by decide) ?_
    refine aw_aload_n (pc := 50) d_M_readHint_50 rfl 1 rfl ?_
    refine gt_1220 (pc := 51) d_M_readHint_51 w7_47 tl0 (fun tt9 => ?_)
    refine aw_sipush (pc := 54) (x := 2392) d_M_readHint_54 (by decide) ?_
    refine aw_iload_n (pc := 57) d_M_readHint_57 rfl 0 rfl ?_
    refine aw_iadd (pc := 58) d_M_readHint_58 ?_
    refine aw_iaload (pc := 59) d_M_readHint_59 tt9 (fun c10 => ?_)
    refine aw_cVrI (pc := 60) (ci := 12) (T := TX12) (N := 44) (As := [.int (b2i q8), .int 1, .int (hAi q7.2 (hGr q7.2 1220 l0) (Int32.toNatClampNeg (2392 + q7.1)))]) (st := []) (ok_M_behindWord Y l0 q8 1 (hAi q7.2 (hGr q7.2 1220 l0) (Int32.toNatClampNeg (2392 + q7.1))) q7.2 tl0) okV_M_behindWord rfl (by decide) tl0 w8_179 d_M_readHint_60 rfl (Nat.le_of_ble_eq_true rfl) rfl (Nat.le_of_ble_eq_true rfl) (fun q11 hq11 hTq11 => ?_)
    refine aw_istore_n (pc := 63) (lv' := [(3, .int q11.1), (2, .int q7.1), (0, .ref l0), (1, .int l1)]) d_M_readHint_63 rfl (by decide) rfl ?_
    refine aw_aload_n (pc := 64) d_M_readHint_64 rfl 2 rfl ?_
    refine aw_aload_n (pc := 65) d_M_readHint_65 rfl 2 rfl ?_
    refine aw_cVpZ (pc := 66) (ci := 12) (T := TX12) (N := 44) (As := []) (st := [.ref l0]) (ok_M_isIs Y l0 q11.2 tl0) okV_M_isIs rfl (by decide) tl0 w8_82 d_M_readHint_66 rfl (Nat.le_of_ble_eq_true rfl) rfl (Nat.le_of_ble_eq_true rfl) (fun q12 hq12 hTq12 => ?_)
    refine aw_cVrV (pc := 69) (ci := 12) (T := TX12) (N := 44) (As := [.int (b2i q12)]) (st := []) (ok_M_must Y l0 q12 q11.2 tl0) okV_M_must rfl (by decide) tl0 w8_171 d_M_readHint_69 rfl (Nat.le_of_ble_eq_true rfl) rfl (Nat.le_of_ble_eq_true rfl) (fun q13 hq13 hTq13 => ?_)
    refine aw_aload_n (pc := 72) d_M_readHint_72 rfl 2 rfl ?_
    refine aw_iconst (pc := 73) (x := 4) d_M_readHint_73 (by decide) ?_
    refine aw_iconst (pc := 74) (x := 1) d_M_readHint_74 (by decide) ?_
    refine aw_cVrI (pc := 75) (ci := 12) (T := TX12) (N := 44) (As := [.int 4, .int 1]) (st := []) (ok_M_readTold Y l0 4 1 q13 tl0) okV_M_readTold rfl (by decide) tl0 w8_162 d_M_readHint_75 rfl (Nat.le_of_ble_eq_true rfl) rfl (Nat.le_of_ble_eq_true rfl) (fun q14 hq14 hTq14 => ?_)
    refine aw_istore (pc := 78) (lv' := [(4, .int q14.1), (3, .int q11.1), (2, .int q7.1), (0, .ref l0), (1, .int l1)]) d_M_readHint_78 (by decide) rfl ?_
    refine aw_aload_n (pc := 80) d_M_readHint_80 rfl 3 rfl ?_
    refine aw_aload_n (pc := 81) d_M_readHint_81 rfl 3 rfl ?_
    refine aw_cVpZ (pc := 82) (ci := 12) (T := TX12) (N := 44) (As := []) (st := [.ref l0]) (ok_M_isBy Y l0 q14.2 tl0) okV_M_isBy rfl (by decide) tl0 w8_86 d_M_readHint_82 rfl (Nat.le_of_ble_eq_true rfl) rfl (Nat.le_of_ble_eq_true rfl) (fun q15 hq15 hTq15 => ?_)
    refine aw_cVrV (pc := 85) (ci := 12) (T := TX12) (N := 44) (As := [.int (b2i q15)]) (st := []) (ok_M_must Y l0 q15 q14.2 tl0) okV_M_must rfl (by decide) tl0 w8_171 d_M_readHint_85 rfl (Nat.le_of_ble_eq_true rfl) rfl (Nat.le_of_ble_eq_true rfl) (fun q16 hq16 hTq16 => ?_)
    refine aw_aload_n (pc := 88) d_M_readHint_88 rfl 3 rfl ?_
    refine aw_iconst (pc := 89) (x := 4) d_M_readHint_89 (by decide) ?_
    refine aw_iconst (pc := 90) (x := 4) d_M_readHint_90 (by decide) ?_
    refine aw_cVrI (pc := 91) (ci := 12) (T := TX12) (N := 44) (As := [.int 4, .int 4]) (st := []) (ok_M_readTold Y l0 4 4 q16 tl0) okV_M_readTold rfl (by decide) tl0 w8_162 d_M_readHint_91 rfl (Nat.le_of_ble_eq_true rfl) rfl (Nat.le_of_ble_eq_true rfl) (fun q17 hq17 hTq17 => ?_)
    refine aw_istore (pc := 94) (lv' := [(5, .int q17.1), (4, .int q14.1), (3, .int q11.1), (2, .int q7.1), (0, .ref l0), (1, .int l1)]) d_M_readHint_94 (by decide) rfl ?_
    refine aw_aload_n (pc := 96) d_M_readHint_96 rfl 4 rfl ?_
    refine gt_1212 (pc := 97) d_M_readHint_97 w7_39 tl0 ?_
    refine aw_if_le (pc := 100) (tgt := 104) d_M_readHint_100 (by decide) (fun c18 => ?_) (fun c18 => ?_)
    · refine aw_aload_n (pc := 104) d_M_readHint_104 rfl 4 rfl ?_
      refine gt_1220 (pc := 105) d_M_readHint_105 w7_47 tl0 (fun tt19 => ?_)
      refine aw_sipush (pc := 108) (x := 2526) d_M_readHint_108 (by decide) ?_
      refine aw_iload_n (pc := 111) d_M_readHint_111 rfl 5 rfl ?_
      refine aw_iadd (pc := 112) d_M_readHint_112 ?_
      refine aw_iload_n (pc := 113) d_M_readHint_113 rfl 3 rfl ?_
      refine aw_iastore (pc := 114) d_M_readHint_114 tt19 (fun c20 => ?_)
      refine aw_letH (fun h21 => ?_)
      refine aw_aload_n (pc := 115) d_M_readHint_115 rfl 4 rfl ?_
      refine gt_1220 (pc := 116) d_M_readHint_116 w7_47 tl0 (fun tt22 => ?_)
      refine aw_sipush (pc := 119) (x := 2538) d_M_readHint_119 (by decide) ?_
      refine aw_iload_n (pc := 122) d_M_readHint_122 rfl 5 rfl ?_
      refine aw_iadd (pc := 123) d_M_readHint_123 ?_
      refine aw_iload_n (pc := 124) d_M_readHint_124 rfl 2 rfl ?_
      refine aw_iastore (pc := 125) d_M_readHint_125 tt22 (fun c23 => ?_)
      refine aw_letH (fun h24 => ?_)
      refine aw_aload_n (pc := 126) d_M_readHint_126 rfl 4 rfl ?_
      refine gt_1220 (pc := 127) d_M_readHint_127 w7_47 tl0 (fun tt25 => ?_)
      refine aw_sipush (pc := 130) (x := 2550) d_M_readHint_130 (by decide) ?_
      refine aw_iload_n (pc := 133) d_M_readHint_133 rfl 5 rfl ?_
      refine aw_iadd (pc := 134) d_M_readHint_134 ?_
      refine aw_iload (pc := 135) d_M_readHint_135 1 rfl ?_
      refine aw_iastore (pc := 137) d_M_readHint_137 tt25 (fun c26 => ?_)
      refine aw_letH (fun h27 => ?_)
      refine aw_aload_n (pc := 138) d_M_readHint_138 rfl 4 rfl ?_
      refine gt_1220 (pc := 139) d_M_readHint_139 w7_47 tl0 (fun tt28 => ?_)
      refine aw_sipush (pc := 142) (x := 2562) d_M_readHint_142 (by decide) ?_
      refine aw_iload_n (pc := 145) d_M_readHint_145 rfl 5 rfl ?_
      refine aw_iadd (pc := 146) d_M_readHint_146 ?_
      refine aw_iload (pc := 147) d_M_readHint_147 0 rfl ?_
      refine aw_iastore (pc := 149) d_M_readHint_149 tt28 (fun c29 => ?_)
      refine aw_letH (fun h30 => ?_)
      refine aw_aload_n (pc := 150) d_M_readHint_150 rfl 4 rfl ?_
      refine gt_1220 (pc := 151) d_M_readHint_151 w7_47 tl0 (fun tt31 => ?_)
      refine aw_sipush (pc := 154) (x := 2309) d_M_readHint_154 (by decide) ?_
      refine aw_dup2_11 (pc := 157) d_M_readHint_157 rfl rfl ?_
      refine aw_iaload (pc := 158) d_M_readHint_158 tt31 (fun c32 => ?_)
      refine aw_iconst (pc := 159) (x := 1) d_M_readHint_159 (by decide) ?_
      refine aw_iadd (pc := 160) d_M_readHint_160 ?_
      refine aw_iastore (pc := 161) d_M_readHint_161 tt31 (fun c33 => ?_)
      refine aw_letH (fun h34 => ?_)
      exact aw_return (pc := 162) d_M_readHint_162 rfl rfl
    · exact aw_return (pc := 103) d_M_readHint_103 rfl rfl
  · exact aw_return (pc := 32) d_M_readHint_32 rfl rfl
def M_readHint (Y : Ly) (l0 : Nat) (h : Hp) : Option Hp :=
  if inB 2309 (lnY Y (hGr h 1220 l0)) = true then
    if (hAi h (hGr h 1220 l0) (Int32.toNatClampNeg 2309)) = 12 then
      (M_fail Y l0 6 (hGi h 1215 l0) h).bind fun q4 =>
      M_readHint_J25 Y l0 (hAi h (hGr h 1220 l0) (Int32.toNatClampNeg 2309)) q4
    else
      M_readHint_J25 Y l0 (hAi h (hGr h 1220 l0) (Int32.toNatClampNeg 2309)) h
  else none
theorem ok_M_readHint (Y : Ly) (l0 : Nat) (h : Hp) (t0 : isO Y 12 l0) : AM Y 7 K_M_readHint [.ref l0] h (M_readHint Y l0 h) rV := by
  refine AM.of rfl (Nat.le_of_ble_eq_true rfl) ?_
  show AW Y 7 K_M_readHint 0 [(0, .ref l0)] [] h (M_readHint Y l0 h) rV
  unfold M_readHint
  refine aw_aload_n (pc := 0) d_M_readHint_0 rfl 0 rfl ?_
  refine gt_1220 (pc := 1) d_M_readHint_1 w7_47 t0 (fun tt1 => ?_)
  refine aw_sipush (pc := 4) (x := 2309) d_M_readHint_4 (by decide) ?_
  refine aw_iaload (pc := 7) d_M_readHint_7 tt1 (fun c2 => ?_)
  refine aw_istore_n (pc := 8) (lv' := [(1, .int (hAi h (hGr h 1220 l0) (Int32.toNatClampNeg 2309))), (0, .ref l0)]) d_M_readHint_8 rfl (by decide) rfl ?_
  refine aw_iload_n (pc := 9) d_M_readHint_9 rfl 0 rfl ?_
  refine aw_bipush (pc := 10) (x := 12) d_M_readHint_10 (by decide) ?_
  refine aw_icmp_ne (pc := 12) (tgt := 25) d_M_readHint_12 (by decide) (fun c3 => ?_) (fun c3 => ?_)
  · refine aw_aload_n (pc := 15) d_M_readHint_15 rfl 1 rfl ?_
    refine aw_bipush (pc := 16) (x := 6) d_M_readHint_16 (by decide) ?_
    refine aw_aload_n (pc := 18) d_M_readHint_18 rfl 1 rfl ?_
    refine gt_1215 (pc := 19) d_M_readHint_19 w7_42 t0 ?_
    refine aw_cVrV (pc := 22) (ci := 12) (T := TX12) (N := 44) (As := [.int 6, .int (hGi h 1215 l0)]) (st := []) (ok_M_fail Y l0 6 (hGi h 1215 l0) h t0) okV_M_fail rfl (by decide) t0 w8_30 d_M_readHint_22 rfl (Nat.le_of_ble_eq_true rfl) rfl (Nat.le_of_ble_eq_true rfl) (fun q4 hq4 hTq4 => ?_)
    exact aw_lv [1, 0] rfl (M_readHint_J25_ok Y l0 (hAi h (hGr h 1220 l0) (Int32.toNatClampNeg 2309)) q4 t0)
  · exact aw_lv [1, 0] rfl (M_readHint_J25_ok Y l0 (hAi h (hGr h 1220 l0) (Int32.toNatClampNeg 2309)) h t0)
/-! LastPagesModel.readOffer()V -/
theorem d_M_readOffer_0 : decode prog_14_method_81_code 0 = .ok (.aload_n 0, 1) := by decide +kernel
theorem d_M_readOffer_1 : decode prog_14_method_81_code 1 = .ok (.iconst 5, 1) := by decide +kernel
theorem d_M_readOffer_2 : decode prog_14_method_81_code 2 = .ok (.bipush 6, 2) := by decide +kernel
theorem d_M_readOffer_4 : decode prog_14_method_81_code 4 = .ok (.invokevirtual 295, 3) := by decide +kernel
theorem d_M_readOffer_7 : decode prog_14_method_81_code 7 = .ok (.istore_n 1, 1) := by decide +kernel
theorem d_M_readOffer_8 : decode prog_14_method_81_code 8 = .ok (.aload_n 0, 1) := by decide +kernel
theorem d_M_readOffer_9 : decode prog_14_method_81_code 9 = .ok (.getfield 35, 3) := by decide +kernel
theorem d_M_readOffer_12 : decode prog_14_method_81_code 12 = .ok (.sipush 2574, 3) := by decide +kernel
theorem d_M_readOffer_15 : decode prog_14_method_81_code 15 = .ok (.iload_n 1, 1) := by decide +kernel
theorem d_M_readOffer_16 : decode prog_14_method_81_code 16 = .ok (.iadd, 1) := by decide +kernel
theorem d_M_readOffer_17 : decode prog_14_method_81_code 17 = .ok (.aload_n 0, 1) := by decide +kernel
theorem d_M_readOffer_18 : decode prog_14_method_81_code 18 = .ok (.aload_n 0, 1) := by decide +kernel
theorem d_M_readOffer_19 : decode prog_14_method_81_code 19 = .ok (.invokevirtual 217, 3) := by decide +kernel
theorem d_M_readOffer_22 : decode prog_14_method_81_code 22 = .ok (.iconst 0, 1) := by decide +kernel
theorem d_M_readOffer_23 : decode prog_14_method_81_code 23 = .ok (.bipush 99, 2) := by decide +kernel
theorem d_M_readOffer_25 : decode prog_14_method_81_code 25 = .ok (.invokevirtual 298, 3) := by decide +kernel
theorem d_M_readOffer_28 : decode prog_14_method_81_code 28 = .ok (.iastore, 1) := by decide +kernel
theorem d_M_readOffer_29 : decode prog_14_method_81_code 29 = .ok (.aload_n 0, 1) := by decide +kernel
theorem d_M_readOffer_30 : decode prog_14_method_81_code 30 = .ok (.aload_n 0, 1) := by decide +kernel
theorem d_M_readOffer_31 : decode prog_14_method_81_code 31 = .ok (.invokevirtual 220, 3) := by decide +kernel
theorem d_M_readOffer_34 : decode prog_14_method_81_code 34 = .ok (.invokevirtual 261, 3) := by decide +kernel
theorem d_M_readOffer_37 : decode prog_14_method_81_code 37 = .ok (.aload_n 0, 1) := by decide +kernel
theorem d_M_readOffer_38 : decode prog_14_method_81_code 38 = .ok (.getfield 35, 3) := by decide +kernel
theorem d_M_readOffer_41 : decode prog_14_method_81_code 41 = .ok (.sipush 2580, 3) := by decide +kernel
theorem d_M_readOffer_44 : decode prog_14_method_81_code 44 = .ok (.iload_n 1, 1) := by decide +kernel
theorem d_M_readOffer_45 : decode prog_14_method_81_code 45 = .ok (.iadd, 1) := by decide +kernel
theorem d_M_readOffer_46 : decode prog_14_method_81_code 46 = .ok (.aload_n 0, 1) := by decide +kernel
theorem d_M_readOffer_47 : decode prog_14_method_81_code 47 = .ok (.invokevirtual 305, 3) := by decide +kernel
theorem d_M_readOffer_50 : decode prog_14_method_81_code 50 = .ok (.iastore, 1) := by decide +kernel
theorem d_M_readOffer_51 : decode prog_14_method_81_code 51 = .ok (.aload_n 0, 1) := by decide +kernel
theorem d_M_readOffer_52 : decode prog_14_method_81_code 52 = .ok (.getfield 245, 3) := by decide +kernel
theorem d_M_readOffer_55 : decode prog_14_method_81_code 55 = .ok (.ifCond .ne 15, 3) := by decide +kernel
theorem d_M_readOffer_58 : decode prog_14_method_81_code 58 = .ok (.aload_n 0, 1) := by decide +kernel
theorem d_M_readOffer_59 : decode prog_14_method_81_code 59 = .ok (.getfield 35, 3) := by decide +kernel
theorem d_M_readOffer_62 : decode prog_14_method_81_code 62 = .ok (.sipush 2310, 3) := by decide +kernel
theorem d_M_readOffer_65 : decode prog_14_method_81_code 65 = .ok (.dup2, 1) := by decide +kernel
theorem d_M_readOffer_66 : decode prog_14_method_81_code 66 = .ok (.iaload, 1) := by decide +kernel
theorem d_M_readOffer_67 : decode prog_14_method_81_code 67 = .ok (.iconst 1, 1) := by decide +kernel
theorem d_M_readOffer_68 : decode prog_14_method_81_code 68 = .ok (.iadd, 1) := by decide +kernel
theorem d_M_readOffer_69 : decode prog_14_method_81_code 69 = .ok (.iastore, 1) := by decide +kernel
theorem d_M_readOffer_70 : decode prog_14_method_81_code 70 = .ok (.return_, 1) := by decide +kernel
def M_readOffer (Y : Ly) (l0 : Nat) (h : Hp) : Option Hp :=
  (M_readNew Y l0 5 6 h).bind fun q1 =>
  (M_isCosts Y l0 q1.2).bind fun q3 =>
  (M_behindWord Y l0 q3 0 99 q1.2).bind fun q4 =>
  if inB (2574 + q1.1) (lnY Y (hGr q1.2 1220 l0)) = true then
    letH (hTi q4.2 (hGr q1.2 1220 l0) (Int32.toNatClampNeg (2574 + q1.1)) q4.1) fun h6 =>
    (M_isTells Y l0 h6).bind fun q7 =>
    (M_must Y l0 q7 h6).bind fun q8 =>
    (M_readBooks Y l0 q8).bind fun q10 =>
    if inB (2580 + q1.1) (lnY Y (hGr q8 1220 l0)) = true then
      letH (hTi q10.2 (hGr q8 1220 l0) (Int32.toNatClampNeg (2580 + q1.1)) q10.1) fun h12 =>
      if (hGi h12 1212 l0) = 0 then
        if inB 2310 (lnY Y (hGr h12 1220 l0)) = true then
          if inB 2310 (lnY Y (hGr h12 1220 l0)) = true then
            letH (hTi h12 (hGr h12 1220 l0) (Int32.toNatClampNeg 2310) ((hAi h12 (hGr h12 1220 l0) (Int32.toNatClampNeg 2310)) + 1)) fun h17 =>
            some h17
          else none
        else none
      else
        some h12
    else none
  else none
theorem ok_M_readOffer (Y : Ly) (l0 : Nat) (h : Hp) (t0 : isO Y 12 l0) : AM Y 8 K_M_readOffer [.ref l0] h (M_readOffer Y l0 h) rV := by
  refine AM.of rfl (Nat.le_of_ble_eq_true rfl) ?_
  show AW Y 8 K_M_readOffer 0 [(0, .ref l0)] [] h (M_readOffer Y l0 h) rV
  unfold M_readOffer
  refine aw_aload_n (pc := 0) d_M_readOffer_0 rfl 0 rfl ?_
  refine aw_iconst (pc := 1) (x := 5) d_M_readOffer_1 (by decide) ?_
  refine aw_bipush (pc := 2) (x := 6) d_M_readOffer_2 (by decide) ?_
  refine aw_cVrI (pc := 4) (ci := 12) (T := TX12) (N := 44) (As := [.int 5, .int 6]) (st := []) (ok_M_readNew Y l0 5 6 h t0) okV_M_readNew rfl (by decide) t0 w8_23 d_M_readOffer_4 rfl (Nat.le_of_ble_eq_true rfl) rfl (Nat.le_of_ble_eq_true rfl) (fun q1 hq1 hTq1 => ?_)
  refine aw_istore_n (pc := 7) (lv' := [(1, .int q1.1), (0, .ref l0)]) d_M_readOffer_7 rfl (by decide) rfl ?_
  refine aw_aload_n (pc := 8) d_M_readOffer_8 rfl 1 rfl ?_
  refine gt_1220 (pc := 9) d_M_readOffer_9 w7_47 t0 (fun tt2 => ?_)
  refine aw_sipush (pc := 12) (x := 2574) d_M_readOffer_12 (by decide) ?_
  refine aw_iload_n (pc := 15) d_M_readOffer_15 rfl 0 rfl ?_
  refine aw_iadd (pc := 16) d_M_readOffer_16 ?_
  refine aw_aload_n (pc := 17) d_M_readOffer_17 rfl 1 rfl ?_
  refine aw_aload_n (pc := 18) d_M_readOffer_18 rfl 1 rfl ?_
  refine aw_cVpZ (pc := 19) (ci := 12) (T := TX12) (N := 44) (As := []) (st := [.ref l0, .int (2574 + q1.1), .ref (hGr q1.2 1220 l0)]) (ok_M_isCosts Y l0 q1.2 t0) okV_M_isCosts rfl (by decide) t0 w8_98 d_M_readOffer_19 rfl (Nat.le_of_ble_eq_true rfl) rfl (Nat.le_of_ble_eq_true rfl) (fun q3 hq3 hTq3 => ?_)
  refine aw_iconst (pc := 22) (x := 0) d_M_readOffer_22 (by decide) ?_
  refine aw_bipush (pc := 23) (x := 99) d_M_readOffer_23 (by decide) ?_
  refine aw_cVrI (pc := 25) (ci := 12) (T := TX12) (N := 44) (As := [.int (b2i q3), .int 0, .int 99]) (st := [.int (2574 + q1.1), .ref (hGr q1.2 1220 l0)]) (ok_M_behindWord Y l0 q3 0 99 q1.2 t0) okV_M_behindWord rfl (by decide) t0 w8_179 d_M_readOffer_25 rfl (Nat.le_of_ble_eq_true rfl) rfl (Nat.le_of_ble_eq_true rfl) (fun q4 hq4 hTq4 => ?_)
  refine aw_iastore (pc := 28) d_M_readOffer_28 tt2 (fun c5 => ?_)
  refine aw_letH (fun h6 => ?_)
  refine aw_aload_n (pc := 29) d_M_readOffer_29 rfl 1 rfl ?_
  refine aw_aload_n (pc := 30) d_M_readOffer_30 rfl 1 rfl ?_
  refine aw_cVpZ (pc := 31) (ci := 12) (T := TX12) (N := 44) (As := []) (st := [.ref l0]) (ok_M_isTells Y l0 h6 t0) okV_M_isTells rfl (by decide) t0 w8_102 d_M_readOffer_31 rfl (Nat.le_of_ble_eq_true rfl) rfl (Nat.le_of_ble_eq_true rfl) (fun q7 hq7 hTq7 => ?_)
  refine aw_cVrV (pc := 34) (ci := 12) (T := TX12) (N := 44) (As := [.int (b2i q7)]) (st := []) (ok_M_must Y l0 q7 h6 t0) okV_M_must rfl (by decide) t0 w8_171 d_M_readOffer_34 rfl (Nat.le_of_ble_eq_true rfl) rfl (Nat.le_of_ble_eq_true rfl) (fun q8 hq8 hTq8 => ?_)
  refine aw_aload_n (pc := 37) d_M_readOffer_37 rfl 1 rfl ?_
  refine gt_1220 (pc := 38) d_M_readOffer_38 w7_47 t0 (fun tt9 => ?_)
  refine aw_sipush (pc := 41) (x := 2580) d_M_readOffer_41 (by decide) ?_
  refine aw_iload_n (pc := 44) d_M_readOffer_44 rfl 0 rfl ?_
  refine aw_iadd (pc := 45) d_M_readOffer_45 ?_
  refine aw_aload_n (pc := 46) d_M_readOffer_46 rfl 1 rfl ?_
  refine aw_cVrI (pc := 47) (ci := 12) (T := TX12) (N := 44) (As := []) (st := [.int (2580 + q1.1), .ref (hGr q8 1220 l0)]) (ok_M_readBooks Y l0 q8 t0) okV_M_readBooks rfl (by decide) t0 w8_203 d_M_readOffer_47 rfl (Nat.le_of_ble_eq_true rfl) rfl (Nat.le_of_ble_eq_true rfl) (fun q10 hq10 hTq10 => ?_)
  refine aw_iastore (pc := 50) d_M_readOffer_50 tt9 (fun c11 => ?_)
  refine aw_letH (fun h12 => ?_)
  refine aw_aload_n (pc := 51) d_M_readOffer_51 rfl 1 rfl ?_
  refine gt_1212 (pc := 52) d_M_readOffer_52 w7_39 t0 ?_
  refine aw_if_ne (pc := 55) (tgt := 70) d_M_readOffer_55 (by decide) (fun c13 => ?_) (fun c13 => ?_)
  · refine aw_aload_n (pc := 58) d_M_readOffer_58 rfl 1 rfl ?_
    refine gt_1220 (pc := 59) d_M_readOffer_59 w7_47 t0 (fun tt14 => ?_)
    refine aw_sipush (pc := 62) (x := 2310) d_M_readOffer_62 (by decide) ?_
    refine aw_dup2_11 (pc := 65) d_M_readOffer_65 rfl rfl ?_
    refine aw_iaload (pc := 66) d_M_readOffer_66 tt14 (fun c15 => ?_)
    refine aw_iconst (pc := 67) (x := 1) d_M_readOffer_67 (by decide) ?_
    refine aw_iadd (pc := 68) d_M_readOffer_68 ?_
    refine aw_iastore (pc := 69) d_M_readOffer_69 tt14 (fun c16 => ?_)
    refine aw_letH (fun h17 => ?_)
    exact aw_return (pc := 70) d_M_readOffer_70 rfl rfl
  · exact aw_return (pc := 70) d_M_readOffer_70 rfl rfl
/-! LastPagesModel.readReader()V -/
theorem d_M_readReader_0 : decode prog_14_method_80_code 0 = .ok (.aload_n 0, 1) := by decide +kernel
theorem d_M_readReader_1 : decode prog_14_method_80_code 1 = .ok (.iconst 4, 1) := by decide +kernel
theorem d_M_readReader_2 : decode prog_14_method_80_code 2 = .ok (.bipush 6, 2) := by decide +kernel
theorem d_M_readReader_4 : decode prog_14_method_80_code 4 = .ok (.invokevirtual 295, 3) := by decide +kernel
theorem d_M_readReader_7 : decode prog_14_method_80_code 7 = .ok (.pop, 1) := by decide +kernel
theorem d_M_readReader_8 : decode prog_14_method_80_code 8 = .ok (.aload_n 0, 1) := by decide +kernel
theorem d_M_readReader_9 : decode prog_14_method_80_code 9 = .ok (.getfield 245, 3) := by decide +kernel
theorem d_M_readReader_12 : decode prog_14_method_80_code 12 = .ok (.ifCond .ne 15, 3) := by decide +kernel
theorem d_M_readReader_15 : decode prog_14_method_80_code 15 = .ok (.aload_n 0, 1) := by decide +kernel
theorem d_M_readReader_16 : decode prog_14_method_80_code 16 = .ok (.getfield 35, 3) := by decide +kernel
theorem d_M_readReader_19 : decode prog_14_method_80_code 19 = .ok (.sipush 2308, 3) := by decide +kernel
theorem d_M_readReader_22 : decode prog_14_method_80_code 22 = .ok (.dup2, 1) := by decide +kernel
theorem d_M_readReader_23 : decode prog_14_method_80_code 23 = .ok (.iaload, 1) := by decide +kernel
theorem d_M_readReader_24 : decode prog_14_method_80_code 24 = .ok (.iconst 1, 1) := by decide +kernel
theorem d_M_readReader_25 : decode prog_14_method_80_code 25 = .ok (.iadd, 1) := by decide +kernel
theorem d_M_readReader_26 : decode prog_14_method_80_code 26 = .ok (.iastore, 1) := by decide +kernel
theorem d_M_readReader_27 : decode prog_14_method_80_code 27 = .ok (.return_, 1) := by decide +kernel
def M_readReader (Y : Ly) (l0 : Nat) (h : Hp) : Option Hp :=
  (M_readNew Y l0 4 6 h).bind fun q1 =>
  if (hGi q1.2 1212 l0) = 0 then
    if inB 2308 (lnY Y (hGr q1.2 1220 l0)) = true then
      if inB 2308 (lnY Y (hGr q1.2 1220 l0)) = true then
        letH (hTi q1.2 (hGr q1.2 1220 l0) (Int32.toNatClampNeg 2308) ((hAi q1.2 (hGr q1.2 1220 l0) (Int32.toNatClampNeg 2308)) + 1)) fun h6 =>
        some h6
      else none
    else none
  else
    some q1.2
theorem ok_M_readReader (Y : Ly) (l0 : Nat) (h : Hp) (t0 : isO Y 12 l0) : AM Y 6 K_M_readReader [.ref l0] h (M_readReader Y l0 h) rV := by
  refine AM.of rfl (Nat.le_of_ble_eq_true rfl) ?_
  show AW Y 6 K_M_readReader 0 [(0, .ref l0)] [] h (M_readReader Y l0 h) rV
  unfold M_readReader
  refine aw_aload_n (pc := 0) d_M_readReader_0 rfl 0 rfl ?_
  refine aw_iconst (pc := 1) (x := 4) d_M_readReader_1 (by decide) ?_
  refine aw_bipush (pc := 2) (x := 6) d_M_readReader_2 (by decide) ?_
  refine aw_cVrI (pc := 4) (ci := 12) (T := TX12) (N := 44) (As := [.int 4, .int 6]) (st := []) (ok_M_readNew Y l0 4 6 h t0) okV_M_readNew rfl (by decide) t0 w8_23 d_M_readReader_4 rfl (Nat.le_of_ble_eq_true rfl) rfl (Nat.le_of_ble_eq_true rfl) (fun q1 hq1 hTq1 => ?_)
  refine aw_pop (pc := 7) d_M_readReader_7 rfl ?_
  refine aw_aload_n (pc := 8) d_M_readReader_8 rfl 0 rfl ?_
  refine gt_1212 (pc := 9) d_M_readReader_9 w7_39 t0 ?_
  refine aw_if_ne (pc := 12) (tgt := 27) d_M_readReader_12 (by decide) (fun c2 => ?_) (fun c2 => ?_)
  · refine aw_aload_n (pc := 15) d_M_readReader_15 rfl 0 rfl ?_
    refine gt_1220 (pc := 16) d_M_readReader_16 w7_47 t0 (fun tt3 => ?_)
    refine aw_sipush (pc := 19) (x := 2308) d_M_readReader_19 (by decide) ?_
    refine aw_dup2_11 (pc := 22) d_M_readReader_22 rfl rfl ?_
    refine aw_iaload (pc := 23) d_M_readReader_23 tt3 (fun c4 => ?_)
    refine aw_iconst (pc := 24) (x := 1) d_M_readReader_24 (by decide) ?_
    refine aw_iadd (pc := 25) d_M_readReader_25 ?_
    refine aw_iastore (pc := 26) d_M_readReader_26 tt3 (fun c5 => ?_)
    refine aw_letH (fun h6 => ?_)
    exact aw_return (pc := 27) d_M_readReader_27 rfl rfl
  · exact aw_return (pc := 27) d_M_readReader_27 rfl rfl
/-! LastPagesModel.readRule()V -/
theorem d_M_readRule_0 : decode prog_14_method_76_code 0 = .ok (.aload_n 0, 1) := by decide +kernel
theorem d_M_readRule_1 : decode prog_14_method_76_code 1 = .ok (.invokevirtual 255, 3) := by decide +kernel
theorem d_M_readRule_4 : decode prog_14_method_76_code 4 = .ok (.aload_n 0, 1) := by decide +kernel
theorem d_M_readRule_5 : decode prog_14_method_76_code 5 = .ok (.iconst 4, 1) := by decide +kernel
theorem d_M_readRule_6 : decode prog_14_method_76_code 6 = .ok (.iconst 0, 1) := by decide +kernel
theorem d_M_readRule_7 : decode prog_14_method_76_code 7 = .ok (.invokevirtual 292, 3) := by decide +kernel
theorem d_M_readRule_10 : decode prog_14_method_76_code 10 = .ok (.istore_n 1, 1) := by decide +kernel
theorem d_M_readRule_11 : decode prog_14_method_76_code 11 = .ok (.aload_n 0, 1) := by decide +kernel
theorem d_M_readRule_12 : decode prog_14_method_76_code 12 = .ok (.iconst 4, 1) := by decide +kernel
theorem d_M_readRule_13 : decode prog_14_method_76_code 13 = .ok (.iconst 1, 1) := by decide +kernel
theorem d_M_readRule_14 : decode prog_14_method_76_code 14 = .ok (.invokevirtual 292, 3) := by decide +kernel
theorem d_M_readRule_17 : decode prog_14_method_76_code 17 = .ok (.istore_n 2, 1) := by decide +kernel
theorem d_M_readRule_18 : decode prog_14_method_76_code 18 = .ok (.aload_n 0, 1) := by decide +kernel
theorem d_M_readRule_19 : decode prog_14_method_76_code 19 = .ok (.aload_n 0, 1) := by decide +kernel
theorem d_M_readRule_20 : decode prog_14_method_76_code 20 = .ok (.invokevirtual 184, 3) := by decide +kernel
theorem d_M_readRule_23 : decode prog_14_method_76_code 23 = .ok (.invokevirtual 261, 3) := by decide +kernel
theorem d_M_readRule_26 : decode prog_14_method_76_code 26 = .ok (.aload_n 0, 1) := by decide +kernel
theorem d_M_readRule_27 : decode prog_14_method_76_code 27 = .ok (.iconst 4, 1) := by decide +kernel
theorem d_M_readRule_28 : decode prog_14_method_76_code 28 = .ok (.iconst 0, 1) := by decide +kernel
theorem d_M_readRule_29 : decode prog_14_method_76_code 29 = .ok (.invokevirtual 292, 3) := by decide +kernel
theorem d_M_readRule_32 : decode prog_14_method_76_code 32 = .ok (.istore_n 3, 1) := by decide +kernel
theorem d_M_readRule_33 : decode prog_14_method_76_code 33 = .ok (.aload_n 0, 1) := by decide +kernel
theorem d_M_readRule_34 : decode prog_14_method_76_code 34 = .ok (.getfield 245, 3) := by decide +kernel
theorem d_M_readRule_37 : decode prog_14_method_76_code 37 = .ok (.ifCond .ne 19, 3) := by decide +kernel
theorem d_M_readRule_40 : decode prog_14_method_76_code 40 = .ok (.aload_n 0, 1) := by decide +kernel
theorem d_M_readRule_41 : decode prog_14_method_76_code 41 = .ok (.getfield 35, 3) := by decide +kernel
theorem d_M_readRule_44 : decode prog_14_method_76_code 44 = .ok (.sipush 2322, 3) := by decide +kernel
theorem d_M_readRule_47 : decode prog_14_method_76_code 47 = .ok (.bipush 8, 2) := by decide +kernel
theorem d_M_readRule_49 : decode prog_14_method_76_code 49 = .ok (.iload_n 1, 1) := by decide +kernel
theorem d_M_readRule_50 : decode prog_14_method_76_code 50 = .ok (.imul, 1) := by decide +kernel
theorem d_M_readRule_51 : decode prog_14_method_76_code 51 = .ok (.iadd, 1) := by decide +kernel
theorem d_M_readRule_52 : decode prog_14_method_76_code 52 = .ok (.iload_n 2, 1) := by decide +kernel
theorem d_M_readRule_53 : decode prog_14_method_76_code 53 = .ok (.iadd, 1) := by decide +kernel
theorem d_M_readRule_54 : decode prog_14_method_76_code 54 = .ok (.iload_n 3, 1) := by decide +kernel
theorem d_M_readRule_55 : decode prog_14_method_76_code 55 = .ok (.iastore, 1) := by decide +kernel
theorem d_M_readRule_56 : decode prog_14_method_76_code 56 = .ok (.return_, 1) := by decide +kernel
def M_readRule (Y : Ly) (l0 : Nat) (h : Hp) : Option Hp :=
  (M_advance Y l0 h).bind fun q1 =>
  (M_readTold Y l0 4 0 q1).bind fun q2 =>
  (M_readTold Y l0 4 1 q2.2).bind fun q3 =>
  (M_isTo Y l0 q3.2).bind fun q4 =>
  (M_must Y l0 q4 q3.2).bind fun q5 =>
  (M_readTold Y l0 4 0 q5).bind fun q6 =>
  if (hGi q6.2 1212 l0) = 0 then
    if inB ((2322 + (8 * q2.1)) + q3.1) (lnY Y (hGr q6.2 1220 l0)) = true then
      letH (hTi q6.2 (hGr q6.2 1220 l0) (Int32.toNatClampNeg ((2322 + (8 * q2.1)) + q3.1)) q6.1) fun h10 =>
      some h10
    else none
  else
    some q6.2
theorem ok_M_readRule (Y : Ly) (l0 : Nat) (h : Hp) (t0 : isO Y 12 l0) : AM Y 7 K_M_readRule [.ref l0] h (M_readRule Y l0 h) rV := by
  refine AM.of rfl (Nat.le_of_ble_eq_true rfl) ?_
  show AW Y 7 K_M_readRule 0 [(0, .ref l0)] [] h (M_readRule Y l0 h) rV
  unfold M_readRule
  refine aw_aload_n (pc := 0) d_M_readRule_0 rfl 0 rfl ?_
  refine aw_cVrV (pc := 1) (ci := 12) (T := TX12) (N := 44) (As := []) (st := []) (ok_M_advance Y l0 h t0) okV_M_advance rfl (by decide) t0 w7_224 d_M_readRule_1 rfl (Nat.le_of_ble_eq_true rfl) rfl (Nat.le_of_ble_eq_true rfl) (fun q1 hq1 hTq1 => ?_)
  refine aw_aload_n (pc := 4) d_M_readRule_4 rfl 0 rfl ?_
  refine aw_iconst (pc := 5) (x := 4) d_M_readRule_5 (by decide) ?_
  refine aw_iconst (pc := 6) (x := 0) d_M_readRule_6 (by decide) ?_
  refine aw_cVrI (pc := 7) (ci := 12) (T := TX12) (N := 44) (As := [.int 4, .int 0]) (st := []) (ok_M_readTold Y l0 4 0 q1 t0) okV_M_readTold rfl (by decide) t0 w8_162 d_M_readRule_7 rfl (Nat.le_of_ble_eq_true rfl) rfl (Nat.le_of_ble_eq_true rfl) (fun q2 hq2 hTq2 => ?_)
  refine aw_istore_n (pc := 10) (lv' := [(1, .int q2.1), (0, .ref l0)]) d_M_readRule_10 rfl (by decide) rfl ?_
  refine aw_aload_n (pc := 11) d_M_readRule_11 rfl 1 rfl ?_
  refine aw_iconst (pc := 12) (x := 4) d_M_readRule_12 (by decide) ?_
  refine aw_iconst (pc := 13) (x := 1) d_M_readRule_13 (by decide) ?_
  refine aw_cVrI (pc := 14) (ci := 12) (T := TX12) (N := 44) (As := [.int 4, .int 1]) (st := []) (ok_M_readTold Y l0 4 1 q2.2 t0) okV_M_readTold rfl (by decide) t0 w8_162 d_M_readRule_14 rfl (Nat.le_of_ble_eq_true rfl) rfl (Nat.le_of_ble_eq_true rfl) (fun q3 hq3 hTq3 => ?_)
  refine aw_istore_n (pc := 17) (lv' := [(2, .int q3.1), (1, .int q2.1), (0, .ref l0)]) d_M_readRule_17 rfl (by decide) rfl ?_
  refine aw_aload_n (pc := 18) d_M_readRule_18 rfl 2 rfl ?_
  refine aw_aload_n (pc := 19) d_M_readRule_19 rfl 2 rfl ?_
  refine aw_cVpZ (pc := 20) (ci := 12) (T := TX12) (N := 44) (As := []) (st := [.ref l0]) (ok_M_isTo Y l0 q3.2 t0) okV_M_isTo rfl (by decide) t0 w8_54 d_M_readRule_20 rfl (Nat.le_of_ble_eq_true rfl) rfl (Nat.le_of_ble_eq_true rfl) (fun q4 hq4 hTq4 => ?_)
  refine aw_cVrV (pc := 23) (ci := 12) (T := TX12) (N := 44) (As := [.int (b2i q4)]) (st := []) (ok_M_must Y l0 q4 q3.2 t0) okV_M_must rfl (by decide) t0 w8_171 d_M_readRule_23 rfl (Nat.le_of_ble_eq_true rfl) rfl (Nat.le_of_ble_eq_true rfl) (fun q5 hq5 hTq5 => ?_)
  refine aw_aload_n (pc := 26) d_M_readRule_26 rfl 2 rfl ?_
  refine aw_iconst (pc := 27) (x := 4) d_M_readRule_27 (by decide) ?_
  refine aw_iconst (pc := 28) (x := 0) d_M_readRule_28 (by decide) ?_
  refine aw_cVrI (pc := 29) (ci := 12) (T := TX12) (N := 44) (As := [.int 4, .int 0]) (st := []) (ok_M_readTold Y l0 4 0 q5 t0) okV_M_readTold rfl (by decide) t0 w8_162 d_M_readRule_29 rfl (Nat.le_of_ble_eq_true rfl) rfl (Nat.le_of_ble_eq_true rfl) (fun q6 hq6 hTq6 => ?_)
  refine aw_istore_n (pc := 32) (lv' := [(3, .int q6.1), (2, .int q3.1), (1, .int q2.1), (0, .ref l0)]) d_M_readRule_32 rfl (by decide) rfl ?_
  refine aw_aload_n (pc := 33) d_M_readRule_33 rfl 3 rfl ?_
  refine gt_1212 (pc := 34) d_M_readRule_34 w7_39 t0 ?_
  refine aw_if_ne (pc := 37) (tgt := 56) d_M_readRule_37 (by decide) (fun c7 => ?_) (fun c7 => ?_)
  · refine aw_aload_n (pc := 40) d_M_readRule_40 rfl 3 rfl ?_
    refine gt_1220 (pc := 41) d_M_readRule_41 w7_47 t0 (fun tt8 => ?_)
    refine aw_sipush (pc := 44) (x := 2322) d_M_readRule_44 (by decide) ?_
    refine aw_bipush (pc := 47) (x := 8) d_M_readRule_47 (by decide) ?_
    refine aw_iload_n (pc := 49) d_M_readRule_49 rfl 2 rfl ?_
    refine aw_imul (pc := 50) d_M_readRule_50 ?_
    refine aw_iadd (pc := 51) d_M_readRule_51 ?_
    refine aw_iload_n (pc := 52) d_M_readRule_52 rfl 1 rfl ?_
    refine aw_iadd (pc := 53) d_M_readRule_53 ?_
    refine aw_iload_n (pc := 54) d_M_readRule_54 rfl 0 rfl ?_
    refine aw_iastore (pc := 55) d_M_readRule_55 tt8 (fun c9 => ?_)
    refine aw_letH (fun h10 => ?_)
    exact aw_return (pc := 56) d_M_readRule_56 rfl rfl
  · exact aw_return (pc := 56) d_M_readRule_56 rfl rfl
/-! LastPagesModel.readState()V -/
theorem d_M_readState_0 : decode prog_14_method_74_code 0 = .ok (.aload_n 0, 1) := by decide +kernel
theorem d_M_readState_1 : decode prog_14_method_74_code 1 = .ok (.iconst 0, 1) := by decide +kernel
theorem d_M_readState_2 : decode prog_14_method_74_code 2 = .ok (.bipush 8, 2) := by decide +kernel
theorem d_M_readState_4 : decode prog_14_method_74_code 4 = .ok (.invokevirtual 295, 3) := by decide +kernel
theorem d_M_readState_7 : decode prog_14_method_74_code 7 = .ok (.istore_n 1, 1) := by decide +kernel
theorem d_M_readState_8 : decode prog_14_method_74_code 8 = .ok (.aload_n 0, 1) := by decide +kernel
theorem d_M_readState_9 : decode prog_14_method_74_code 9 = .ok (.getfield 245, 3) := by decide +kernel
theorem d_M_readState_12 : decode prog_14_method_74_code 12 = .ok (.ifCond .ne 28, 3) := by decide +kernel
theorem d_M_readState_15 : decode prog_14_method_74_code 15 = .ok (.aload_n 0, 1) := by decide +kernel
theorem d_M_readState_16 : decode prog_14_method_74_code 16 = .ok (.invokevirtual 175, 3) := by decide +kernel
theorem d_M_readState_19 : decode prog_14_method_74_code 19 = .ok (.ifCond .eq 21, 3) := by decide +kernel
theorem d_M_readState_22 : decode prog_14_method_74_code 22 = .ok (.aload_n 0, 1) := by decide +kernel
theorem d_M_readState_23 : decode prog_14_method_74_code 23 = .ok (.invokevirtual 255, 3) := by decide +kernel
theorem d_M_readState_26 : decode prog_14_method_74_code 26 = .ok (.aload_n 0, 1) := by decide +kernel
theorem d_M_readState_27 : decode prog_14_method_74_code 27 = .ok (.getfield 35, 3) := by decide +kernel
theorem d_M_readState_30 : decode prog_14_method_74_code 30 = .ok (.sipush 2312, 3) := by decide +kernel
theorem d_M_readState_33 : decode prog_14_method_74_code 33 = .ok (.dup2, 1) := by decide +kernel
theorem d_M_readState_34 : decode prog_14_method_74_code 34 = .ok (.iaload, 1) := by decide +kernel
theorem d_M_readState_35 : decode prog_14_method_74_code 35 = .ok (.iconst 1, 1) := by decide +kernel
theorem d_M_readState_36 : decode prog_14_method_74_code 36 = .ok (.iload_n 1, 1) := by decide +kernel
theorem d_M_readState_37 : decode prog_14_method_74_code 37 = .ok (.ishl, 1) := by decide +kernel
theorem d_M_readState_38 : decode prog_14_method_74_code 38 = .ok (.ior, 1) := by decide +kernel
theorem d_M_readState_39 : decode prog_14_method_74_code 39 = .ok (.iastore, 1) := by decide +kernel
theorem d_M_readState_40 : decode prog_14_method_74_code 40 = .ok (.aload_n 0, 1) := by decide +kernel
theorem d_M_readState_41 : decode prog_14_method_74_code 41 = .ok (.getfield 245, 3) := by decide +kernel
theorem d_M_readState_44 : decode prog_14_method_74_code 44 = .ok (.ifCond .ne 15, 3) := by decide +kernel
theorem d_M_readState_47 : decode prog_14_method_74_code 47 = .ok (.aload_n 0, 1) := by decide +kernel
theorem d_M_readState_48 : decode prog_14_method_74_code 48 = .ok (.getfield 35, 3) := by decide +kernel
theorem d_M_readState_51 : decode prog_14_method_74_code 51 = .ok (.sipush 2304, 3) := by decide +kernel
theorem d_M_readState_54 : decode prog_14_method_74_code 54 = .ok (.dup2, 1) := by decide +kernel
theorem d_M_readState_55 : decode prog_14_method_74_code 55 = .ok (.iaload, 1) := by decide +kernel
theorem d_M_readState_56 : decode prog_14_method_74_code 56 = .ok (.iconst 1, 1) := by decide +kernel
theorem d_M_readState_57 : decode prog_14_method_74_code 57 = .ok (.iadd, 1) := by decide +kernel
theorem d_M_readState_58 : decode prog_14_method_74_code 58 = .ok (.iastore, 1) := by decide +kernel
theorem d_M_readState_59 : decode prog_14_method_74_code 59 = .ok (.return_, 1) := by decide +kernel
def M_readState_J40 (Y : Ly) (l0 : Nat) (h : Hp) : Option Hp :=
  if (hGi h 1212 l0) = 0 then
    if inB 2304 (lnY Y (hGr h 1220 l0)) = true then
      if inB 2304 (lnY Y (hGr h 1220 l0)) = true then
        letH (hTi h (hGr h 1220 l0) (Int32.toNatClampNeg 2304) ((hAi h (hGr h 1220 l0) (Int32.toNatClampNeg 2304)) + 1)) fun h14 =>
        some h14
      else none
    else none
  else
    some h
theorem M_readState_J40_ok (Y : Ly) (l0 : Nat) (h : Hp) (tl0 : isO Y 12 l0) : AW Y 6 K_M_readState 40 [(0, .ref l0)] [] h (M_readState_J40 Y l0 h) rV := by
  unfold M_readState_J40
  refine aw_aload_n (pc := 40) d_M_readState_40 rfl 0 rfl ?_
  refine gt_1212 (pc := 41) d_M_readState_41 w7_39 tl0 ?_
  refine aw_if_ne (pc := 44) (tgt := 59) d_M_readState_44 (by decide) (fun c10 => ?_) (fun c10 => ?_)
  · refine aw_aload_n (pc := 47) d_M_readState_47 rfl 0 rfl ?_
    refine gt_1220 (pc := 48) d_M_readState_48 w7_47 tl0 (fun tt11 => ?_)
    refine aw_sipush (pc := 51) (x := 2304) d_M_readState_51 (by decide) ?_
    refine aw_dup2_11 (pc := 54) d_M_readState_54 rfl rfl ?_
    refine aw_iaload (pc := 55) d_M_readState_55 tt11 (fun c12 => ?_)
    refine aw_iconst (pc := 56) (x := 1) d_M_readState_56 (by decide) ?_
    refine aw_iadd (pc := 57) d_M_readState_57 ?_
    refine aw_iastore (pc := 58) d_M_readState_58 tt11 (fun c13 => ?_)
    refine aw_letH (fun h14 => ?_)
    exact aw_return (pc := 59) d_M_readState_59 rfl rfl
  · exact aw_return (pc := 59) d_M_readState_59 rfl rfl
def M_readState (Y : Ly) (l0 : Nat) (h : Hp) : Option Hp :=
  (M_readNew Y l0 0 8 h).bind fun q1 =>
  if (hGi q1.2 1212 l0) = 0 then
    (M_isFinal Y l0 q1.2).bind fun q3 =>
    if q3 = true then
      (M_advance Y l0 q1.2).bind fun q5 =>
      if inB 2312 (lnY Y (hGr q5 1220 l0)) = true then
        if inB 2312 (lnY Y (hGr q5 1220 l0)) = true then
          letH (hTi q5 (hGr q5 1220 l0) (Int32.toNatClampNeg 2312) ((hAi q5 (hGr q5 1220 l0) (Int32.toNatClampNeg 2312)) ||| ((1 : Int32) <<< (q1.1 &&& 31)))) fun h9 =>
          M_readState_J40 Y l0 h9
        else none
      else none
    else
      M_readState_J40 Y l0 q1.2
  else
    M_readState_J40 Y l0 q1.2
theorem ok_M_readState (Y : Ly) (l0 : Nat) (h : Hp) (t0 : isO Y 12 l0) : AM Y 6 K_M_readState [.ref l0] h (M_readState Y l0 h) rV := by
  refine AM.of rfl (Nat.le_of_ble_eq_true rfl) ?_
  show AW Y 6 K_M_readState 0 [(0, .ref l0)] [] h (M_readState Y l0 h) rV
  unfold M_readState
  refine aw_aload_n (pc := 0) d_M_readState_0 rfl 0 rfl ?_
  refine aw_iconst (pc := 1) (x := 0) d_M_readState_1 (by decide) ?_
  refine aw_bipush (pc := 2) (x := 8) d_M_readState_2 (by decide) ?_
  refine aw_cVrI (pc := 4) (ci := 12) (T := TX12) (N := 44) (As := [.int 0, .int 8]) (st := []) (ok_M_readNew Y l0 0 8 h t0) okV_M_readNew rfl (by decide) t0 w8_23 d_M_readState_4 rfl (Nat.le_of_ble_eq_true rfl) rfl (Nat.le_of_ble_eq_true rfl) (fun q1 hq1 hTq1 => ?_)
  refine aw_istore_n (pc := 7) (lv' := [(1, .int q1.1), (0, .ref l0)]) d_M_readState_7 rfl (by decide) rfl ?_
  refine aw_aload_n (pc := 8) d_M_readState_8 rfl 1 rfl ?_
  refine gt_1212 (pc := 9) d_M_readState_9 w7_39 t0 ?_
  refine aw_if_ne (pc := 12) (tgt := 40) d_M_readState_12 (by decide) (fun c2 => ?_) (fun c2 => ?_)
  · refine aw_aload_n (pc := 15) d_M_readState_15 rfl 1 rfl ?_
    refine aw_cVpZ (pc := 16) (ci := 12) (T := TX12) (N := 44) (As := []) (st := []) (ok_M_isFinal Y l0 q1.2 t0) okV_M_isFinal rfl (by decide) t0 w8_42 d_M_readState_16 rfl (Nat.le_of_ble_eq_true rfl) rfl (Nat.le_of_ble_eq_true rfl) (fun q3 hq3 hTq3 => ?_)
    refine aw_beq (pc := 19) (tgt := 40) d_M_readState_19 (by decide) (fun c4 => ?_) (fun c4 => ?_)
    · refine aw_aload_n (pc := 22) d_M_readState_22 rfl 1 rfl ?_
      refine aw_cVrV (pc := 23) (ci := 12) (T := TX12) (N := 44) (As := []) (st := []) (ok_M_advance Y l0 q1.2 t0) okV_M_advance rfl (by decide) t0 w7_224 d_M_readState_23 rfl (Nat.le_of_ble_eq_true rfl) rfl (Nat.le_of_ble_eq_true rfl) (fun q5 hq5 hTq5 => ?_)
      refine aw_aload_n (pc := 26) d_M_readState_26 rfl 1 rfl ?_
      refine gt_1220 (pc := 27) d_M_readState_27 w7_47 t0 (fun tt6 => ?_)
      refine aw_sipush (pc := 30) (x := 2312) d_M_readState_30 (by decide) ?_
      refine aw_dup2_11 (pc := 33) d_M_readState_33 rfl rfl ?_
      refine aw_iaload (pc := 34) d_M_readState_34 tt6 (fun c7 => ?_)
      refine aw_iconst (pc := 35) (x := 1) d_M_readState_35 (by decide) ?_
      refine aw_iload_n (pc := 36) d_M_readState_36 rfl 0 rfl ?_
      refine aw_ishl (pc := 37) d_M_readState_37 ?_
      refine aw_ior (pc := 38) d_M_readState_38 ?_
      refine aw_iastore (pc := 39) d_M_readState_39 tt6 (fun c8 => ?_)
      refine aw_letH (fun h9 => ?_)
      exact aw_lv [1] rfl (M_readState_J40_ok Y l0 h9 t0)
    · exact aw_lv [1] rfl (M_readState_J40_ok Y l0 q1.2 t0)
  · exact aw_lv [1] rfl (M_readState_J40_ok Y l0 q1.2 t0)
/-! LastPagesModel.readTurn()V -/
theorem d_M_readTurn_0 : decode prog_14_method_75_code 0 = .ok (.aload_n 0, 1) := by decide +kernel
theorem d_M_readTurn_1 : decode prog_14_method_75_code 1 = .ok (.iconst 1, 1) := by decide +kernel
theorem d_M_readTurn_2 : decode prog_14_method_75_code 2 = .ok (.bipush 8, 2) := by decide +kernel
theorem d_M_readTurn_4 : decode prog_14_method_75_code 4 = .ok (.invokevirtual 295, 3) := by decide +kernel
theorem d_M_readTurn_7 : decode prog_14_method_75_code 7 = .ok (.istore_n 1, 1) := by decide +kernel
theorem d_M_readTurn_8 : decode prog_14_method_75_code 8 = .ok (.aload_n 0, 1) := by decide +kernel
theorem d_M_readTurn_9 : decode prog_14_method_75_code 9 = .ok (.getfield 35, 3) := by decide +kernel
theorem d_M_readTurn_12 : decode prog_14_method_75_code 12 = .ok (.sipush 2314, 3) := by decide +kernel
theorem d_M_readTurn_15 : decode prog_14_method_75_code 15 = .ok (.iload_n 1, 1) := by decide +kernel
theorem d_M_readTurn_16 : decode prog_14_method_75_code 16 = .ok (.iadd, 1) := by decide +kernel
theorem d_M_readTurn_17 : decode prog_14_method_75_code 17 = .ok (.iconst 1, 1) := by decide +kernel
theorem d_M_readTurn_18 : decode prog_14_method_75_code 18 = .ok (.iastore, 1) := by decide +kernel
theorem d_M_readTurn_19 : decode prog_14_method_75_code 19 = .ok (.aload_n 0, 1) := by decide +kernel
theorem d_M_readTurn_20 : decode prog_14_method_75_code 20 = .ok (.getfield 245, 3) := by decide +kernel
theorem d_M_readTurn_23 : decode prog_14_method_75_code 23 = .ok (.ifCond .ne 31, 3) := by decide +kernel
theorem d_M_readTurn_26 : decode prog_14_method_75_code 26 = .ok (.aload_n 0, 1) := by decide +kernel
theorem d_M_readTurn_27 : decode prog_14_method_75_code 27 = .ok (.invokevirtual 168, 3) := by decide +kernel
theorem d_M_readTurn_30 : decode prog_14_method_75_code 30 = .ok (.ifCond .eq 24, 3) := by decide +kernel
theorem d_M_readTurn_33 : decode prog_14_method_75_code 33 = .ok (.aload_n 0, 1) := by decide +kernel
theorem d_M_readTurn_34 : decode prog_14_method_75_code 34 = .ok (.invokevirtual 255, 3) := by decide +kernel
theorem d_M_readTurn_37 : decode prog_14_method_75_code 37 = .ok (.aload_n 0, 1) := by decide +kernel
theorem d_M_readTurn_38 : decode prog_14_method_75_code 38 = .ok (.getfield 35, 3) := by decide +kernel
theorem d_M_readTurn_41 : decode prog_14_method_75_code 41 = .ok (.sipush 2314, 3) := by decide +kernel
theorem d_M_readTurn_44 : decode prog_14_method_75_code 44 = .ok (.iload_n 1, 1) := by decide +kernel
theorem d_M_readTurn_45 : decode prog_14_method_75_code 45 = .ok (.iadd, 1) := by decide +kernel
theorem d_M_readTurn_46 : decode prog_14_method_75_code 46 = .ok (.aload_n 0, 1) := by decide +kernel
theorem d_M_readTurn_47 : decode prog_14_method_75_code 47 = .ok (.iconst 0, 1) := by decide +kernel
theorem d_M_readTurn_48 : decode prog_14_method_75_code 48 = .ok (.bipush 9, 2) := by decide +kernel
theorem d_M_readTurn_50 : decode prog_14_method_75_code 50 = .ok (.invokevirtual 265, 3) := by decide +kernel
theorem d_M_readTurn_53 : decode prog_14_method_75_code 53 = .ok (.iastore, 1) := by decide +kernel
theorem d_M_readTurn_54 : decode prog_14_method_75_code 54 = .ok (.aload_n 0, 1) := by decide +kernel
theorem d_M_readTurn_55 : decode prog_14_method_75_code 55 = .ok (.getfield 245, 3) := by decide +kernel
theorem d_M_readTurn_58 : decode prog_14_method_75_code 58 = .ok (.ifCond .ne 15, 3) := by decide +kernel
theorem d_M_readTurn_61 : decode prog_14_method_75_code 61 = .ok (.aload_n 0, 1) := by decide +kernel
theorem d_M_readTurn_62 : decode prog_14_method_75_code 62 = .ok (.getfield 35, 3) := by decide +kernel
theorem d_M_readTurn_65 : decode prog_14_method_75_code 65 = .ok (.sipush 2305, 3) := by decide +kernel
theorem d_M_readTurn_68 : decode prog_14_method_75_code 68 = .ok (.dup2, 1) := by decide +kernel
theorem d_M_readTurn_69 : decode prog_14_method_75_code 69 = .ok (.iaload, 1) := by decide +kernel
theorem d_M_readTurn_70 : decode prog_14_method_75_code 70 = .ok (.iconst 1, 1) := by decide +kernel
theorem d_M_readTurn_71 : decode prog_14_method_75_code 71 = .ok (.iadd, 1) := by decide +kernel
theorem d_M_readTurn_72 : decode prog_14_method_75_code 72 = .ok (.iastore, 1) := by decide +kernel
theorem d_M_readTurn_73 : decode prog_14_method_75_code 73 = .ok (.return_, 1) := by decide +kernel
def M_readTurn_J54 (Y : Ly) (l0 : Nat) (h : Hp) : Option Hp :=
  if (hGi h 1212 l0) = 0 then
    if inB 2305 (lnY Y (hGr h 1220 l0)) = true then
      if inB 2305 (lnY Y (hGr h 1220 l0)) = true then
        letH (hTi h (hGr h 1220 l0) (Int32.toNatClampNeg 2305) ((hAi h (hGr h 1220 l0) (Int32.toNatClampNeg 2305)) + 1)) fun h17 =>
        some h17
      else none
    else none
  else
    some h
theorem M_readTurn_J54_ok (Y : Ly) (l0 : Nat) (h : Hp) (tl0 : isO Y 12 l0) : AW Y 6 K_M_readTurn 54 [(0, .ref l0)] [] h (M_readTurn_J54 Y l0 h) rV := by
  unfold M_readTurn_J54
  refine aw_aload_n (pc := 54) d_M_readTurn_54 rfl 0 rfl ?_
  refine gt_1212 (pc := 55) d_M_readTurn_55 w7_39 tl0 ?_
  refine aw_if_ne (pc := 58) (tgt := 73) d_M_readTurn_58 (by decide) (fun c13 => ?_) (fun c13 => ?_)
  · refine aw_aload_n (pc := 61) d_M_readTurn_61 rfl 0 rfl ?_
    refine gt_1220 (pc := 62) d_M_readTurn_62 w7_47 tl0 (fun tt14 => ?_)
    refine aw_sipush (pc := 65) (x := 2305) d_M_readTurn_65 (by decide) ?_
    refine aw_dup2_11 (pc := 68) d_M_readTurn_68 rfl rfl ?_
    refine aw_iaload (pc := 69) d_M_readTurn_69 tt14 (fun c15 => ?_)
    refine aw_iconst (pc := 70) (x := 1) d_M_readTurn_70 (by decide) ?_
    refine aw_iadd (pc := 71) d_M_readTurn_71 ?_
    refine aw_iastore (pc := 72) d_M_readTurn_72 tt14 (fun c16 => ?_)
    refine aw_letH (fun h17 => ?_)
    exact aw_return (pc := 73) d_M_readTurn_73 rfl rfl
  · exact aw_return (pc := 73) d_M_readTurn_73 rfl rfl
def M_readTurn (Y : Ly) (l0 : Nat) (h : Hp) : Option Hp :=
  (M_readNew Y l0 1 8 h).bind fun q1 =>
  if inB (2314 + q1.1) (lnY Y (hGr q1.2 1220 l0)) = true then
    letH (hTi q1.2 (hGr q1.2 1220 l0) (Int32.toNatClampNeg (2314 + q1.1)) 1) fun h4 =>
    if (hGi h4 1212 l0) = 0 then
      (M_isOdd Y l0 h4).bind fun q6 =>
      if q6 = true then
        (M_advance Y l0 h4).bind fun q8 =>
        (M_count Y l0 0 9 q8).bind fun q10 =>
        if inB (2314 + q1.1) (lnY Y (hGr q8 1220 l0)) = true then
          letH (hTi q10.2 (hGr q8 1220 l0) (Int32.toNatClampNeg (2314 + q1.1)) q10.1) fun h12 =>
          M_readTurn_J54 Y l0 h12
        else none
      else
        M_readTurn_J54 Y l0 h4
    else
      M_readTurn_J54 Y l0 h4
  else none
theorem ok_M_readTurn (Y : Ly) (l0 : Nat) (h : Hp) (t0 : isO Y 12 l0) : AM Y 6 K_M_readTurn [.ref l0] h (M_readTurn Y l0 h) rV := by
  refine AM.of rfl (Nat.le_of_ble_eq_true rfl) ?_
  show AW Y 6 K_M_readTurn 0 [(0, .ref l0)] [] h (M_readTurn Y l0 h) rV
  unfold M_readTurn
  refine aw_aload_n (pc := 0) d_M_readTurn_0 rfl 0 rfl ?_
  refine aw_iconst (pc := 1) (x := 1) d_M_readTurn_1 (by decide) ?_
  refine aw_bipush (pc := 2) (x := 8) d_M_readTurn_2 (by decide) ?_
  refine aw_cVrI (pc := 4) (ci := 12) (T := TX12) (N := 44) (As := [.int 1, .int 8]) (st := []) (ok_M_readNew Y l0 1 8 h t0) okV_M_readNew rfl (by decide) t0 w8_23 d_M_readTurn_4 rfl (Nat.le_of_ble_eq_true rfl) rfl (Nat.le_of_ble_eq_true rfl) (fun q1 hq1 hTq1 => ?_)
  refine aw_istore_n (pc := 7) (lv' := [(1, .int q1.1), (0, .ref l0)]) d_M_readTurn_7 rfl (by decide) rfl ?_
  refine aw_aload_n (pc := 8) d_M_readTurn_8 rfl 1 rfl ?_
  refine gt_1220 (pc := 9) d_M_readTurn_9 w7_47 t0 (fun tt2 => ?_)
  refine aw_sipush (pc := 12) (x := 2314) d_M_readTurn_12 (by decide) ?_
  refine aw_iload_n (pc := 15) d_M_readTurn_15 rfl 0 rfl ?_
  refine aw_iadd (pc := 16) d_M_readTurn_16 ?_
  refine aw_iconst (pc := 17) (x := 1) d_M_readTurn_17 (by decide) ?_
  refine aw_iastore (pc := 18) d_M_readTurn_18 tt2 (fun c3 => ?_)
  refine aw_letH (fun h4 => ?_)
  refine aw_aload_n (pc := 19) d_M_readTurn_19 rfl 1 rfl ?_
  refine gt_1212 (pc := 20) d_M_readTurn_20 w7_39 t0 ?_
  refine aw_if_ne (pc := 23) (tgt := 54) d_M_readTurn_23 (by decide) (fun c5 => ?_) (fun c5 => ?_)
  · refine aw_aload_n (pc := 26) d_M_readTurn_26 rfl 1 rfl ?_
    refine aw_cVpZ (pc := 27) (ci := 12) (T := TX12) (N := 44) (As := []) (st := []) (ok_M_isOdd Y l0 h4 t0) okV_M_isOdd rfl (by decide) t0 w8_127 d_M_readTurn_27 rfl (Nat.le_of_ble_eq_true rfl) rfl (Nat.le_of_ble_eq_true rfl) (fun q6 hq6 hTq6 => ?_)
    refine aw_beq (pc := 30) (tgt := 54) d_M_readTurn_30 (by decide) (fun c7 => ?_) (fun c7 => ?_)
    · refine aw_aload_n (pc := 33) d_M_readTurn_33 rfl 1 rfl ?_
      refine aw_cVrV (pc := 34) (ci := 12) (T := TX12) (N := 44) (As := []) (st := []) (ok_M_advance Y l0 h4 t0) okV_M_advance rfl (by decide) t0 w7_224 d_M_readTurn_34 rfl (Nat.le_of_ble_eq_true rfl) rfl (Nat.le_of_ble_eq_true rfl) (fun q8 hq8 hTq8 => ?_)
      refine aw_aload_n (pc := 37) d_M_readTurn_37 rfl 1 rfl ?_
      refine gt_1220 (pc := 38) d_M_readTurn_38 w7_47 t0 (fun tt9 => ?_)
      refine aw_sipush (pc := 41) (x := 2314) d_M_readTurn_41 (by decide) ?_
      refine aw_iload_n (pc := 44) d_M_readTurn_44 rfl 0 rfl ?_
      refine aw_iadd (pc := 45) d_M_readTurn_45 ?_
      refine aw_aload_n (pc := 46) d_M_readTurn_46 rfl 1 rfl ?_
      refine aw_iconst (pc := 47) (x := 0) d_M_readTurn_47 (by decide) ?_
      refine aw_bipush (pc := 48) (x := 9) d_M_readTurn_48 (by decide) ?_
      refine aw_cVrI (pc := 50) (ci := 12) (T := TX12) (N := 44) (As := [.int 0, .int 9]) (st := [.int (2314 + q1.1), .ref (hGr q8 1220 l0)]) (ok_M_count Y l0 0 9 q8 t0) okV_M_count rfl (by decide) t0 w8_151 d_M_readTurn_50 rfl (Nat.le_of_ble_eq_true rfl) rfl (Nat.le_of_ble_eq_true rfl) (fun q10 hq10 hTq10 => ?_)
      refine aw_iastore (pc := 53) d_M_readTurn_53 tt9 (fun c11 => ?_)
      refine aw_letH (fun h12 => ?_)
      exact aw_lv [1] rfl (M_readTurn_J54_ok Y l0 h12 t0)
    · exact aw_lv [1] rfl (M_readTurn_J54_ok Y l0 h4 t0)
  · exact aw_lv [1] rfl (M_readTurn_J54_ok Y l0 h4 t0)
/-! LastPagesModel.readWatch()V -/
theorem d_M_readWatch_0 : decode prog_14_method_82_code 0 = .ok (.aload_n 0, 1) := by decide +kernel
theorem d_M_readWatch_1 : decode prog_14_method_82_code 1 = .ok (.bipush 6, 2) := by decide +kernel
theorem d_M_readWatch_3 : decode prog_14_method_82_code 3 = .ok (.bipush 8, 2) := by decide +kernel
theorem d_M_readWatch_5 : decode prog_14_method_82_code 5 = .ok (.invokevirtual 295, 3) := by decide +kernel
theorem d_M_readWatch_8 : decode prog_14_method_82_code 8 = .ok (.istore_n 1, 1) := by decide +kernel
theorem d_M_readWatch_9 : decode prog_14_method_82_code 9 = .ok (.aload_n 0, 1) := by decide +kernel
theorem d_M_readWatch_10 : decode prog_14_method_82_code 10 = .ok (.getfield 35, 3) := by decide +kernel
theorem d_M_readWatch_13 : decode prog_14_method_82_code 13 = .ok (.sipush 2586, 3) := by decide +kernel
theorem d_M_readWatch_16 : decode prog_14_method_82_code 16 = .ok (.iload_n 1, 1) := by decide +kernel
theorem d_M_readWatch_17 : decode prog_14_method_82_code 17 = .ok (.iadd, 1) := by decide +kernel
theorem d_M_readWatch_18 : decode prog_14_method_82_code 18 = .ok (.aload_n 0, 1) := by decide +kernel
theorem d_M_readWatch_19 : decode prog_14_method_82_code 19 = .ok (.aload_n 0, 1) := by decide +kernel
theorem d_M_readWatch_20 : decode prog_14_method_82_code 20 = .ok (.invokevirtual 217, 3) := by decide +kernel
theorem d_M_readWatch_23 : decode prog_14_method_82_code 23 = .ok (.iconst 0, 1) := by decide +kernel
theorem d_M_readWatch_24 : decode prog_14_method_82_code 24 = .ok (.bipush 99, 2) := by decide +kernel
theorem d_M_readWatch_26 : decode prog_14_method_82_code 26 = .ok (.invokevirtual 298, 3) := by decide +kernel
theorem d_M_readWatch_29 : decode prog_14_method_82_code 29 = .ok (.iastore, 1) := by decide +kernel
theorem d_M_readWatch_30 : decode prog_14_method_82_code 30 = .ok (.aload_n 0, 1) := by decide +kernel
theorem d_M_readWatch_31 : decode prog_14_method_82_code 31 = .ok (.aload_n 0, 1) := by decide +kernel
theorem d_M_readWatch_32 : decode prog_14_method_82_code 32 = .ok (.invokevirtual 226, 3) := by decide +kernel
theorem d_M_readWatch_35 : decode prog_14_method_82_code 35 = .ok (.invokevirtual 261, 3) := by decide +kernel
theorem d_M_readWatch_38 : decode prog_14_method_82_code 38 = .ok (.aload_n 0, 1) := by decide +kernel
theorem d_M_readWatch_39 : decode prog_14_method_82_code 39 = .ok (.getfield 35, 3) := by decide +kernel
theorem d_M_readWatch_42 : decode prog_14_method_82_code 42 = .ok (.sipush 2594, 3) := by decide +kernel
theorem d_M_readWatch_45 : decode prog_14_method_82_code 45 = .ok (.iload_n 1, 1) := by decide +kernel
theorem d_M_readWatch_46 : decode prog_14_method_82_code 46 = .ok (.iadd, 1) := by decide +kernel
theorem d_M_readWatch_47 : decode prog_14_method_82_code 47 = .ok (.aload_n 0, 1) := by decide +kernel
theorem d_M_readWatch_48 : decode prog_14_method_82_code 48 = .ok (.invokevirtual 305, 3) := by decide +kernel
theorem d_M_readWatch_51 : decode prog_14_method_82_code 51 = .ok (.iastore, 1) := by decide +kernel
theorem d_M_readWatch_52 : decode prog_14_method_82_code 52 = .ok (.aload_n 0, 1) := by decide +kernel
theorem d_M_readWatch_53 : decode prog_14_method_82_code 53 = .ok (.getfield 245, 3) := by decide +kernel
theorem d_M_readWatch_56 : decode prog_14_method_82_code 56 = .ok (.ifCond .ne 15, 3) := by decide +kernel
theorem d_M_readWatch_59 : decode prog_14_method_82_code 59 = .ok (.aload_n 0, 1) := by decide +kernel
theorem d_M_readWatch_60 : decode prog_14_method_82_code 60 = .ok (.getfield 35, 3) := by decide +kernel
theorem d_M_readWatch_63 : decode prog_14_method_82_code 63 = .ok (.sipush 2311, 3) := by decide +kernel
theorem d_M_readWatch_66 : decode prog_14_method_82_code 66 = .ok (.dup2, 1) := by decide +kernel
theorem d_M_readWatch_67 : decode prog_14_method_82_code 67 = .ok (.iaload, 1) := by decide +kernel
theorem d_M_readWatch_68 : decode prog_14_method_82_code 68 = .ok (.iconst 1, 1) := by decide +kernel
theorem d_M_readWatch_69 : decode prog_14_method_82_code 69 = .ok (.iadd, 1) := by decide +kernel
theorem d_M_readWatch_70 : decode prog_14_method_82_code 70 = .ok (.iastore, 1) := by decide +kernel
theorem d_M_readWatch_71 : decode prog_14_method_82_code 71 = .ok (.return_, 1) := by decide +kernel
def M_readWatch (Y : Ly) (l0 : Nat) (h : Hp) : Option Hp :=
  (M_readNew Y l0 6 8 h).bind fun q1 =>
  (M_isCosts Y l0 q1.2).bind fun q3 =>
  (M_behindWord Y l0 q3 0 99 q1.2).bind fun q4 =>
  if inB (2586 + q1.1) (lnY Y (hGr q1.2 1220 l0)) = true then
    letH (hTi q4.2 (hGr q1.2 1220 l0) (Int32.toNatClampNeg (2586 + q1.1)) q4.1) fun h6 =>
    (M_isGuards Y l0 h6).bind fun q7 =>
    (M_must Y l0 q7 h6).bind fun q8 =>
    (M_readBooks Y l0 q8).bind fun q10 =>
    if inB (2594 + q1.1) (lnY Y (hGr q8 1220 l0)) = true then
      letH (hTi q10.2 (hGr q8 1220 l0) (Int32.toNatClampNeg (2594 + q1.1)) q10.1) fun h12 =>
      if (hGi h12 1212 l0) = 0 then
        if inB 2311 (lnY Y (hGr h12 1220 l0)) = true then
          if inB 2311 (lnY Y (hGr h12 1220 l0)) = true then
            letH (hTi h12 (hGr h12 1220 l0) (Int32.toNatClampNeg 2311) ((hAi h12 (hGr h12 1220 l0) (Int32.toNatClampNeg 2311)) + 1)) fun h17 =>
            some h17
          else none
        else none
      else
        some h12
    else none
  else none
theorem ok_M_readWatch (Y : Ly) (l0 : Nat) (h : Hp) (t0 : isO Y 12 l0) : AM Y 8 K_M_readWatch [.ref l0] h (M_readWatch Y l0 h) rV := by
  refine AM.of rfl (Nat.le_of_ble_eq_true rfl) ?_
  show AW Y 8 K_M_readWatch 0 [(0, .ref l0)] [] h (M_readWatch Y l0 h) rV
  unfold M_readWatch
  refine aw_aload_n (pc := 0) d_M_readWatch_0 rfl 0 rfl ?_
  refine aw_bipush (pc := 1) (x := 6) d_M_readWatch_1 (by decide) ?_
  refine aw_bipush (pc := 3) (x := 8) d_M_readWatch_3 (by decide) ?_
  refine aw_cVrI (pc := 5) (ci := 12) (T := TX12) (N := 44) (As := [.int 6, .int 8]) (st := []) (ok_M_readNew Y l0 6 8 h t0) okV_M_readNew rfl (by decide) t0 w8_23 d_M_readWatch_5 rfl (Nat.le_of_ble_eq_true rfl) rfl (Nat.le_of_ble_eq_true rfl) (fun q1 hq1 hTq1 => ?_)
  refine aw_istore_n (pc := 8) (lv' := [(1, .int q1.1), (0, .ref l0)]) d_M_readWatch_8 rfl (by decide) rfl ?_
  refine aw_aload_n (pc := 9) d_M_readWatch_9 rfl 1 rfl ?_
  refine gt_1220 (pc := 10) d_M_readWatch_10 w7_47 t0 (fun tt2 => ?_)
  refine aw_sipush (pc := 13) (x := 2586) d_M_readWatch_13 (by decide) ?_
  refine aw_iload_n (pc := 16) d_M_readWatch_16 rfl 0 rfl ?_
  refine aw_iadd (pc := 17) d_M_readWatch_17 ?_
  refine aw_aload_n (pc := 18) d_M_readWatch_18 rfl 1 rfl ?_
  refine aw_aload_n (pc := 19) d_M_readWatch_19 rfl 1 rfl ?_
  refine aw_cVpZ (pc := 20) (ci := 12) (T := TX12) (N := 44) (As := []) (st := [.ref l0, .int (2586 + q1.1), .ref (hGr q1.2 1220 l0)]) (ok_M_isCosts Y l0 q1.2 t0) okV_M_isCosts rfl (by decide) t0 w8_98 d_M_readWatch_20 rfl (Nat.le_of_ble_eq_true rfl) rfl (Nat.le_of_ble_eq_true rfl) (fun q3 hq3 hTq3 => ?_)
  refine aw_iconst (pc := 23) (x := 0) d_M_readWatch_23 (by decide) ?_
  refine aw_bipush (pc := 24) (x := 99) d_M_readWatch_24 (by decide) ?_
  refine aw_cVrI (pc := 26) (ci := 12) (T := TX12) (N := 44) (As := [.int (b2i q3), .int 0, .int 99]) (st := [.int (2586 + q1.1), .ref (hGr q1.2 1220 l0)]) (ok_M_behindWord Y l0 q3 0 99 q1.2 t0) okV_M_behindWord rfl (by decide) t0 w8_179 d_M_readWatch_26 rfl (Nat.le_of_ble_eq_true rfl) rfl (Nat.le_of_ble_eq_true rfl) (fun q4 hq4 hTq4 => ?_)
  refine aw_iastore (pc := 29) d_M_readWatch_29 tt2 (fun c5 => ?_)
  refine aw_letH (fun h6 => ?_)
  refine aw_aload_n (pc := 30) d_M_readWatch_30 rfl 1 rfl ?_
  refine aw_aload_n (pc := 31) d_M_readWatch_31 rfl 1 rfl ?_
  refine aw_cVpZ (pc := 32) (ci := 12) (T := TX12) (N := 44) (As := []) (st := [.ref l0]) (ok_M_isGuards Y l0 h6 t0) okV_M_isGuards rfl (by decide) t0 w8_110 d_M_readWatch_32 rfl (Nat.le_of_ble_eq_true rfl) rfl (Nat.le_of_ble_eq_true rfl) (fun q7 hq7 hTq7 => ?_)
  refine aw_cVrV (pc := 35) (ci := 12) (T := TX12) (N := 44) (As := [.int (b2i q7)]) (st := []) (ok_M_must Y l0 q7 h6 t0) okV_M_must rfl (by decide) t0 w8_171 d_M_readWatch_35 rfl (Nat.le_of_ble_eq_true rfl) rfl (Nat.le_of_ble_eq_true rfl) (fun q8 hq8 hTq8 => ?_)
  refine aw_aload_n (pc := 38) d_M_readWatch_38 rfl 1 rfl ?_
  refine gt_1220 (pc := 39) d_M_readWatch_39 w7_47 t0 (fun tt9 => ?_)
  refine aw_sipush (pc := 42) (x := 2594) d_M_readWatch_42 (by decide) ?_
  refine aw_iload_n (pc := 45) d_M_readWatch_45 rfl 0 rfl ?_
  refine aw_iadd (pc := 46) d_M_readWatch_46 ?_
  refine aw_aload_n (pc := 47) d_M_readWatch_47 rfl 1 rfl ?_
  refine aw_cVrI (pc := 48) (ci := 12) (T := TX12) (N := 44) (As := []) (st := [.int (2594 + q1.1), .ref (hGr q8 1220 l0)]) (ok_M_readBooks Y l0 q8 t0) okV_M_readBooks rfl (by decide) t0 w8_203 d_M_readWatch_48 rfl (Nat.le_of_ble_eq_true rfl) rfl (Nat.le_of_ble_eq_true rfl) (fun q10 hq10 hTq10 => ?_)
  refine aw_iastore (pc := 51) d_M_readWatch_51 tt9 (fun c11 => ?_)
  refine aw_letH (fun h12 => ?_)
  refine aw_aload_n (pc := 52) d_M_readWatch_52 rfl 1 rfl ?_
  refine gt_1212 (pc := 53) d_M_readWatch_53 w7_39 t0 ?_
  refine aw_if_ne (pc := 56) (tgt := 71) d_M_readWatch_56 (by decide) (fun c13 => ?_) (fun c13 => ?_)
  · refine aw_aload_n (pc := 59) d_M_readWatch_59 rfl 1 rfl ?_
    refine gt_1220 (pc := 60) d_M_readWatch_60 w7_47 t0 (fun tt14 => ?_)
    refine aw_sipush (pc := 63) (x := 2311) d_M_readWatch_63 (by decide) ?_
    refine aw_dup2_11 (pc := 66) d_M_readWatch_66 rfl rfl ?_
    refine aw_iaload (pc := 67) d_M_readWatch_67 tt14 (fun c15 => ?_)
    refine aw_iconst (pc := 68) (x := 1) d_M_readWatch_68 (by decide) ?_
    refine aw_iadd (pc := 69) d_M_readWatch_69 ?_
    refine aw_iastore (pc := 70) d_M_readWatch_70 tt14 (fun c16 => ?_)
    refine aw_letH (fun h17 => ?_)
    exact aw_return (pc := 71) d_M_readWatch_71 rfl rfl
  · exact aw_return (pc := 71) d_M_readWatch_71 rfl rfl
/-! LastPagesModel.readPart()V -/
theorem d_M_readPart_0 : decode prog_14_method_84_code 0 = .ok (.aload_n 0, 1) := by decide +kernel
theorem d_M_readPart_1 : decode prog_14_method_84_code 1 = .ok (.invokevirtual 172, 3) := by decide +kernel
theorem d_M_readPart_4 : decode prog_14_method_84_code 4 = .ok (.ifCond .eq 10, 3) := by decide +kernel
theorem d_M_readPart_7 : decode prog_14_method_84_code 7 = .ok (.aload_n 0, 1) := by decide +kernel
theorem d_M_readPart_8 : decode prog_14_method_84_code 8 = .ok (.invokevirtual 308, 3) := by decide +kernel
theorem d_M_readPart_11 : decode prog_14_method_84_code 11 = .ok (.goto 133, 3) := by decide +kernel
theorem d_M_readPart_14 : decode prog_14_method_84_code 14 = .ok (.aload_n 0, 1) := by decide +kernel
theorem d_M_readPart_15 : decode prog_14_method_84_code 15 = .ok (.invokevirtual 178, 3) := by decide +kernel
theorem d_M_readPart_18 : decode prog_14_method_84_code 18 = .ok (.ifCond .eq 10, 3) := by decide +kernel
theorem d_M_readPart_21 : decode prog_14_method_84_code 21 = .ok (.aload_n 0, 1) := by decide +kernel
theorem d_M_readPart_22 : decode prog_14_method_84_code 22 = .ok (.invokevirtual 311, 3) := by decide +kernel
theorem d_M_readPart_25 : decode prog_14_method_84_code 25 = .ok (.goto 119, 3) := by decide +kernel
theorem d_M_readPart_28 : decode prog_14_method_84_code 28 = .ok (.aload_n 0, 1) := by decide +kernel
theorem d_M_readPart_29 : decode prog_14_method_84_code 29 = .ok (.invokevirtual 181, 3) := by decide +kernel
theorem d_M_readPart_32 : decode prog_14_method_84_code 32 = .ok (.ifCond .eq 10, 3) := by decide +kernel
theorem d_M_readPart_35 : decode prog_14_method_84_code 35 = .ok (.aload_n 0, 1) := by decide +kernel
theorem d_M_readPart_36 : decode prog_14_method_84_code 36 = .ok (.invokevirtual 314, 3) := by decide +kernel
theorem d_M_readPart_39 : decode prog_14_method_84_code 39 = .ok (.goto 105, 3) := by decide +kernel
theorem d_M_readPart_42 : decode prog_14_method_84_code 42 = .ok (.aload_n 0, 1) := by decide +kernel
theorem d_M_readPart_43 : decode prog_14_method_84_code 43 = .ok (.invokevirtual 187, 3) := by decide +kernel
theorem d_M_readPart_46 : decode prog_14_method_84_code 46 = .ok (.ifCond .eq 10, 3) := by decide +kernel
theorem d_M_readPart_49 : decode prog_14_method_84_code 49 = .ok (.aload_n 0, 1) := by decide +kernel
theorem d_M_readPart_50 : decode prog_14_method_84_code 50 = .ok (.invokevirtual 317, 3) := by decide +kernel
theorem d_M_readPart_53 : decode prog_14_method_84_code 53 = .ok (.goto 91, 3) := by decide +kernel
theorem d_M_readPart_56 : decode prog_14_method_84_code 56 = .ok (.aload_n 0, 1) := by decide +kernel
theorem d_M_readPart_57 : decode prog_14_method_84_code 57 = .ok (.invokevirtual 196, 3) := by decide +kernel
theorem d_M_readPart_60 : decode prog_14_method_84_code 60 = .ok (.ifCond .eq 10, 3) := by decide +kernel
theorem d_M_readPart_63 : decode prog_14_method_84_code 63 = .ok (.aload_n 0, 1) := by decide +kernel
theorem d_M_readPart_64 : decode prog_14_method_84_code 64 = .ok (.invokevirtual 320, 3) := by decide +kernel
theorem d_M_readPart_67 : decode prog_14_method_84_code 67 = .ok (.goto 77, 3) := by decide +kernel
theorem d_M_readPart_70 : decode prog_14_method_84_code 70 = .ok (.aload_n 0, 1) := by decide +kernel
theorem d_M_readPart_71 : decode prog_14_method_84_code 71 = .ok (.invokevirtual 199, 3) := by decide +kernel
theorem d_M_readPart_74 : decode prog_14_method_84_code 74 = .ok (.ifCond .eq 10, 3) := by decide +kernel
theorem d_M_readPart_77 : decode prog_14_method_84_code 77 = .ok (.aload_n 0, 1) := by decide +kernel
theorem d_M_readPart_78 : decode prog_14_method_84_code 78 = .ok (.invokevirtual 323, 3) := by decide +kernel
theorem d_M_readPart_81 : decode prog_14_method_84_code 81 = .ok (.goto 63, 3) := by decide +kernel
theorem d_M_readPart_84 : decode prog_14_method_84_code 84 = .ok (.aload_n 0, 1) := by decide +kernel
theorem d_M_readPart_85 : decode prog_14_method_84_code 85 = .ok (.invokevirtual 211, 3) := by decide +kernel
theorem d_M_readPart_88 : decode prog_14_method_84_code 88 = .ok (.ifCond .eq 10, 3) := by decide +kernel
theorem d_M_readPart_91 : decode prog_14_method_84_code 91 = .ok (.aload_n 0, 1) := by decide +kernel
theorem d_M_readPart_92 : decode prog_14_method_84_code 92 = .ok (.invokevirtual 326, 3) := by decide +kernel
theorem d_M_readPart_95 : decode prog_14_method_84_code 95 = .ok (.goto 49, 3) := by decide +kernel
theorem d_M_readPart_98 : decode prog_14_method_84_code 98 = .ok (.aload_n 0, 1) := by decide +kernel
theorem d_M_readPart_99 : decode prog_14_method_84_code 99 = .ok (.invokevirtual 214, 3) := by decide +kernel
theorem d_M_readPart_102 : decode prog_14_method_84_code 102 = .ok (.ifCond .eq 10, 3) := by decide +kernel
theorem d_M_readPart_105 : decode prog_14_method_84_code 105 = .ok (.aload_n 0, 1) := by decide +kernel
theorem d_M_readPart_106 : decode prog_14_method_84_code 106 = .ok (.invokevirtual 329, 3) := by decide +kernel
theorem d_M_readPart_109 : decode prog_14_method_84_code 109 = .ok (.goto 35, 3) := by decide +kernel
theorem d_M_readPart_112 : decode prog_14_method_84_code 112 = .ok (.aload_n 0, 1) := by decide +kernel
theorem d_M_readPart_113 : decode prog_14_method_84_code 113 = .ok (.invokevirtual 223, 3) := by decide +kernel
theorem d_M_readPart_116 : decode prog_14_method_84_code 116 = .ok (.ifCond .eq 10, 3) := by decide +kernel
theorem d_M_readPart_119 : decode prog_14_method_84_code 119 = .ok (.aload_n 0, 1) := by decide +kernel
theorem d_M_readPart_120 : decode prog_14_method_84_code 120 = .ok (.invokevirtual 332, 3) := by decide +kernel
theorem d_M_readPart_123 : decode prog_14_method_84_code 123 = .ok (.goto 21, 3) := by decide +kernel
theorem d_M_readPart_126 : decode prog_14_method_84_code 126 = .ok (.aload_n 0, 1) := by decide +kernel
theorem d_M_readPart_127 : decode prog_14_method_84_code 127 = .ok (.invokevirtual 229, 3) := by decide +kernel
theorem d_M_readPart_130 : decode prog_14_method_84_code 130 = .ok (.ifCond .eq 10, 3) := by decide +kernel
theorem d_M_readPart_133 : decode prog_14_method_84_code 133 = .ok (.aload_n 0, 1) := by decide +kernel
theorem d_M_readPart_134 : decode prog_14_method_84_code 134 = .ok (.invokevirtual 335, 3) := by decide +kernel
theorem d_M_readPart_137 : decode prog_14_method_84_code 137 = .ok (.goto 7, 3) := by decide +kernel
theorem d_M_readPart_140 : decode prog_14_method_84_code 140 = .ok (.aload_n 0, 1) := by decide +kernel
theorem d_M_readPart_141 : decode prog_14_method_84_code 141 = .ok (.invokevirtual 258, 3) := by decide +kernel
theorem d_M_readPart_144 : decode prog_14_method_84_code 144 = .ok (.return_, 1) := by decide +kernel
def M_readPart (Y : Ly) (l0 : Nat) (h : Hp) : Option Hp :=
  (M_isState Y l0 h).bind fun q1 =>
  if q1 = true then
    (M_readState Y l0 h).bind fun q3 =>
    some q3
  else
    (M_isTurn Y l0 h).bind fun q4 =>
    if q4 = true then
      (M_readTurn Y l0 h).bind fun q6 =>
      some q6
    else
      (M_isRule Y l0 h).bind fun q7 =>
      if q7 = true then
        (M_readRule Y l0 h).bind fun q9 =>
        some q9
      else
        (M_isBook Y l0 h).bind fun q10 =>
        if q10 = true then
          (M_readBook Y l0 h).bind fun q12 =>
          some q12
        else
          (M_isFinale Y l0 h).bind fun q13 =>
          if q13 = true then
            (M_readFinale Y l0 h).bind fun q15 =>
            some q15
          else
            (M_isHint Y l0 h).bind fun q16 =>
            if q16 = true then
              (M_readHint Y l0 h).bind fun q18 =>
              some q18
            else
              (M_isReader Y l0 h).bind fun q19 =>
              if q19 = true then
                (M_readReader Y l0 h).bind fun q21 =>
                some q21
              else
                (M_isOffer Y l0 h).bind fun q22 =>
                if q22 = true then
                  (M_readOffer Y l0 h).bind fun q24 =>
                  some q24
                else
                  (M_isWatch Y l0 h).bind fun q25 =>
                  if q25 = true then
                    (M_readWatch Y l0 h).bind fun q27 =>
                    some q27
                  else
                    (M_isFollows Y l0 h).bind fun q28 =>
                    if q28 = true then
                      (M_readFollows Y l0 h).bind fun q30 =>
                      some q30
                    else
                      (M_amiss Y l0 h).bind fun q31 =>
                      some q31
theorem ok_M_readPart (Y : Ly) (l0 : Nat) (h : Hp) (t0 : isO Y 12 l0) : AM Y 9 K_M_readPart [.ref l0] h (M_readPart Y l0 h) rV := by
  refine AM.of rfl (Nat.le_of_ble_eq_true rfl) ?_
  show AW Y 9 K_M_readPart 0 [(0, .ref l0)] [] h (M_readPart Y l0 h) rV
  unfold M_readPart
  refine aw_aload_n (pc := 0) d_M_readPart_0 rfl 0 rfl ?_
  refine aw_cVpZ (pc := 1) (ci := 12) (T := TX12) (N := 44) (As := []) (st := []) (ok_M_isState Y l0 h t0) okV_M_isState rfl (by decide) t0 w8_8 d_M_readPart_1 rfl (Nat.le_of_ble_eq_true rfl) rfl (Nat.le_of_ble_eq_true rfl) (fun q1 hq1 hTq1 => ?_)
  refine aw_beq (pc := 4) (tgt := 14) d_M_readPart_4 (by decide) (fun c2 => ?_) (fun c2 => ?_)
  · refine aw_aload_n (pc := 7) d_M_readPart_7 rfl 0 rfl ?_
    refine aw_cVrV (pc := 8) (ci := 12) (T := TX12) (N := 44) (As := []) (st := []) (ok_M_readState Y l0 h t0) okV_M_readState rfl (by decide) t0 w8_19 d_M_readPart_8 rfl (Nat.le_of_ble_eq_true rfl) rfl (Nat.le_of_ble_eq_true rfl) (fun q3 hq3 hTq3 => ?_)
    refine aw_goto (pc := 11) (tgt := 144) d_M_readPart_11 (by decide) ?_
    exact aw_return (pc := 144) d_M_readPart_144 rfl rfl
  · refine aw_aload_n (pc := 14) d_M_readPart_14 rfl 0 rfl ?_
    refine aw_cVpZ (pc := 15) (ci := 12) (T := TX12) (N := 44) (As := []) (st := []) (ok_M_isTurn Y l0 h t0) okV_M_isTurn rfl (by decide) t0 w8_46 d_M_readPart_15 rfl (Nat.le_of_ble_eq_true rfl) rfl (Nat.le_of_ble_eq_true rfl) (fun q4 hq4 hTq4 => ?_)
    refine aw_beq (pc := 18) (tgt := 28) d_M_readPart_18 (by decide) (fun c5 => ?_) (fun c5 => ?_)
    · refine aw_aload_n (pc := 21) d_M_readPart_21 rfl 0 rfl ?_
      refine aw_cVrV (pc := 22) (ci := 12) (T := TX12) (N := 44) (As := []) (st := []) (ok_M_readTurn Y l0 h t0) okV_M_readTurn rfl (by decide) t0 w8_147 d_M_readPart_22 rfl (Nat.le_of_ble_eq_true rfl) rfl (Nat.le_of_ble_eq_true rfl) (fun q6 hq6 hTq6 => ?_)
      refine aw_goto (pc := 25) (tgt := 144) d_M_readPart_25 (by decide) ?_
      exact aw_return (pc := 144) d_M_readPart_144 rfl rfl
    · refine aw_aload_n (pc := 28) d_M_readPart_28 rfl 0 rfl ?_
      refine aw_cVpZ (pc := 29) (ci := 12) (T := TX12) (N := 44) (As := []) (st := []) (ok_M_isRule Y l0 h t0) okV_M_isRule rfl (by decide) t0 w8_50 d_M_readPart_29 rfl (Nat.le_of_ble_eq_true rfl) rfl (Nat.le_of_ble_eq_true rfl) (fun q7 hq7 hTq7 => ?_)
      refine aw_beq (pc := 32) (tgt := 42) d_M_readPart_32 (by decide) (fun c8 => ?_) (fun c8 => ?_)
      · refine aw_aload_n (pc := 35) d_M_readPart_35 rfl 0 rfl ?_
        refine aw_cVrV (pc := 36) (ci := 12) (T := TX12) (N := 44) (As := []) (st := []) (ok_M_readRule Y l0 h t0) okV_M_readRule rfl (by decide) t0 w8_158 d_M_readPart_36 rfl (Nat.le_of_ble_eq_true rfl) rfl (Nat.le_of_ble_eq_true rfl) (fun q9 hq9 hTq9 => ?_)
        refine aw_goto (pc := 39) (tgt := 144) d_M_readPart_39 (by decide) ?_
        exact aw_return (pc := 144) d_M_readPart_144 rfl rfl
      · refine aw_aload_n (pc := 42) d_M_readPart_42 rfl 0 rfl ?_
        refine aw_cVpZ (pc := 43) (ci := 12) (T := TX12) (N := 44) (As := []) (st := []) (ok_M_isBook Y l0 h t0) okV_M_isBook rfl (by decide) t0 w8_58 d_M_readPart_43 rfl (Nat.le_of_ble_eq_true rfl) rfl (Nat.le_of_ble_eq_true rfl) (fun q10 hq10 hTq10 => ?_)
        refine aw_beq (pc := 46) (tgt := 56) d_M_readPart_46 (by decide) (fun c11 => ?_) (fun c11 => ?_)
        · refine aw_aload_n (pc := 49) d_M_readPart_49 rfl 0 rfl ?_
          refine aw_cVrV (pc := 50) (ci := 12) (T := TX12) (N := 44) (As := []) (st := []) (ok_M_readBook Y l0 h t0) okV_M_readBook rfl (by decide) t0 w8_175 d_M_readPart_50 rfl (Nat.le_of_ble_eq_true rfl) rfl (Nat.le_of_ble_eq_true rfl) (fun q12 hq12 hTq12 => ?_)
          refine aw_goto (pc := 53) (tgt := 144) d_M_readPart_53 (by decide) ?_
          exact aw_return (pc := 144) d_M_readPart_144 rfl rfl
        · refine aw_aload_n (pc := 56) d_M_readPart_56 rfl 0 rfl ?_
          refine aw_cVpZ (pc := 57) (ci := 12) (T := TX12) (N := 44) (As := []) (st := []) (ok_M_isFinale Y l0 h t0) okV_M_isFinale rfl (by decide) t0 w8_70 d_M_readPart_57 rfl (Nat.le_of_ble_eq_true rfl) rfl (Nat.le_of_ble_eq_true rfl) (fun q13 hq13 hTq13 => ?_)
          refine aw_beq (pc := 60) (tgt := 70) d_M_readPart_60 (by decide) (fun c14 => ?_) (fun c14 => ?_)
          · refine aw_aload_n (pc := 63) d_M_readPart_63 rfl 0 rfl ?_
            refine aw_cVrV (pc := 64) (ci := 12) (T := TX12) (N := 44) (As := []) (st := []) (ok_M_readFinale Y l0 h t0) okV_M_readFinale rfl (by decide) t0 w8_187 d_M_readPart_64 rfl (Nat.le_of_ble_eq_true rfl) rfl (Nat.le_of_ble_eq_true rfl) (fun q15 hq15 hTq15 => ?_)
            refine aw_goto (pc := 67) (tgt := 144) d_M_readPart_67 (by decide) ?_
            exact aw_return (pc := 144) d_M_readPart_144 rfl rfl
          · refine aw_aload_n (pc := 70) d_M_readPart_70 rfl 0 rfl ?_
            refine aw_cVpZ (pc := 71) (ci := 12) (T := TX12) (N := 44) (As := []) (st := []) (ok_M_isHint Y l0 h t0) okV_M_isHint rfl (by decide) t0 w8_74 d_M_readPart_71 rfl (Nat.le_of_ble_eq_true rfl) rfl (Nat.le_of_ble_eq_true rfl) (fun q16 hq16 hTq16 => ?_)
            refine aw_beq (pc := 74) (tgt := 84) d_M_readPart_74 (by decide) (fun c17 => ?_) (fun c17 => ?_)
            · refine aw_aload_n (pc := 77) d_M_readPart_77 rfl 0 rfl ?_
              refine aw_cVrV (pc := 78) (ci := 12) (T := TX12) (N := 44) (As := []) (st := []) (ok_M_readHint Y l0 h t0) okV_M_readHint rfl (by decide) t0 w8_191 d_M_readPart_78 rfl (Nat.le_of_ble_eq_true rfl) rfl (Nat.le_of_ble_eq_true rfl) (fun q18 hq18 hTq18 => ?_)
              refine aw_goto (pc := 81) (tgt := 144) d_M_readPart_81 (by decide) ?_
              exact aw_return (pc := 144) d_M_readPart_144 rfl rfl
            · refine aw_aload_n (pc := 84) d_M_readPart_84 rfl 0 rfl ?_
              refine aw_cVpZ (pc := 85) (ci := 12) (T := TX12) (N := 44) (As := []) (st := []) (ok_M_isReader Y l0 h t0) okV_M_isReader rfl (by decide) t0 w8_90 d_M_readPart_85 rfl (Nat.le_of_ble_eq_true rfl) rfl (Nat.le_of_ble_eq_true rfl) (fun q19 hq19 hTq19 => ?_)
              refine aw_beq (pc := 88) (tgt := 98) d_M_readPart_88 (by decide) (fun c20 => ?_) (fun c20 => ?_)
              · refine aw_aload_n (pc := 91) d_M_readPart_91 rfl 0 rfl ?_
                refine aw_cVrV (pc := 92) (ci := 12) (T := TX12) (N := 44) (As := []) (st := []) (ok_M_readReader Y l0 h t0) okV_M_readReader rfl (by decide) t0 w8_195 d_M_readPart_92 rfl (Nat.le_of_ble_eq_true rfl) rfl (Nat.le_of_ble_eq_true rfl) (fun q21 hq21 hTq21 => ?_)
                refine aw_goto (pc := 95) (tgt := 144) d_M_readPart_95 (by decide) ?_
                exact aw_return (pc := 144) d_M_readPart_144 rfl rfl
              · refine aw_aload_n (pc := 98) d_M_readPart_98 rfl 0 rfl ?_
                refine aw_cVpZ (pc := 99) (ci := 12) (T := TX12) (N := 44) (As := []) (st := []) (ok_M_isOffer Y l0 h t0) okV_M_isOffer rfl (by decide) t0 w8_94 d_M_readPart_99 rfl (Nat.le_of_ble_eq_true rfl) rfl (Nat.le_of_ble_eq_true rfl) (fun q22 hq22 hTq22 => ?_)
                refine aw_beq (pc := 102) (tgt := 112) d_M_readPart_102 (by decide) (fun c23 => ?_) (fun c23 => ?_)
                · refine aw_aload_n (pc := 105) d_M_readPart_105 rfl 0 rfl ?_
                  refine aw_cVrV (pc := 106) (ci := 12) (T := TX12) (N := 44) (As := []) (st := []) (ok_M_readOffer Y l0 h t0) okV_M_readOffer rfl (by decide) t0 w8_199 d_M_readPart_106 rfl (Nat.le_of_ble_eq_true rfl) rfl (Nat.le_of_ble_eq_true rfl) (fun q24 hq24 hTq24 => ?_)
                  refine aw_goto (pc := 109) (tgt := 144) d_M_readPart_109 (by decide) ?_
                  exact aw_return (pc := 144) d_M_readPart_144 rfl rfl
                · refine aw_aload_n (pc := 112) d_M_readPart_112 rfl 0 rfl ?_
                  refine aw_cVpZ (pc := 113) (ci := 12) (T := TX12) (N := 44) (As := []) (st := []) (ok_M_isWatch Y l0 h t0) okV_M_isWatch rfl (by decide) t0 w8_106 d_M_readPart_113 rfl (Nat.le_of_ble_eq_true rfl) rfl (Nat.le_of_ble_eq_true rfl) (fun q25 hq25 hTq25 => ?_)
                  refine aw_beq (pc := 116) (tgt := 126) d_M_readPart_116 (by decide) (fun c26 => ?_) (fun c26 => ?_)
                  · refine aw_aload_n (pc := 119) d_M_readPart_119 rfl 0 rfl ?_
                    refine aw_cVrV (pc := 120) (ci := 12) (T := TX12) (N := 44) (As := []) (st := []) (ok_M_readWatch Y l0 h t0) okV_M_readWatch rfl (by decide) t0 w8_207 d_M_readPart_120 rfl (Nat.le_of_ble_eq_true rfl) rfl (Nat.le_of_ble_eq_true rfl) (fun q27 hq27 hTq27 => ?_)
                    refine aw_goto (pc := 123) (tgt := 144) d_M_readPart_123 (by decide) ?_
                    exact aw_return (pc := 144) d_M_readPart_144 rfl rfl
                  · refine aw_aload_n (pc := 126) d_M_readPart_126 rfl 0 rfl ?_
                    refine aw_cVpZ (pc := 127) (ci := 12) (T := TX12) (N := 44) (As := []) (st := []) (ok_M_isFollows Y l0 h t0) okV_M_isFollows rfl (by decide) t0 w8_114 d_M_readPart_127 rfl (Nat.le_of_ble_eq_true rfl) rfl (Nat.le_of_ble_eq_true rfl) (fun q28 hq28 hTq28 => ?_)
                    refine aw_beq (pc := 130) (tgt := 140) d_M_readPart_130 (by decide) (fun c29 => ?_) (fun c29 => ?_)
                    · refine aw_aload_n (pc := 133) d_M_readPart_133 rfl 0 rfl ?_
                      refine aw_cVrV (pc := 134) (ci := 12) (T := TX12) (N := 44) (As := []) (st := []) (ok_M_readFollows Y l0 h t0) okV_M_readFollows rfl (by decide) t0 w8_211 d_M_readPart_134 rfl (Nat.le_of_ble_eq_true rfl) rfl (Nat.le_of_ble_eq_true rfl) (fun q30 hq30 hTq30 => ?_)
                      refine aw_goto (pc := 137) (tgt := 144) d_M_readPart_137 (by decide) ?_
                      exact aw_return (pc := 144) d_M_readPart_144 rfl rfl
                    · refine aw_aload_n (pc := 140) d_M_readPart_140 rfl 0 rfl ?_
                      refine aw_cVrV (pc := 141) (ci := 12) (T := TX12) (N := 44) (As := []) (st := []) (ok_M_amiss Y l0 h t0) okV_M_amiss rfl (by decide) t0 w8_135 d_M_readPart_141 rfl (Nat.le_of_ble_eq_true rfl) rfl (Nat.le_of_ble_eq_true rfl) (fun q31 hq31 hTq31 => ?_)
                      exact aw_return (pc := 144) d_M_readPart_144 rfl rfl
/-! LastPagesModel.readTest(I)V -/
theorem d_M_readTest_0 : decode prog_14_method_86_code 0 = .ok (.aload_n 0, 1) := by decide +kernel
theorem d_M_readTest_1 : decode prog_14_method_86_code 1 = .ok (.invokevirtual 236, 3) := by decide +kernel
theorem d_M_readTest_4 : decode prog_14_method_86_code 4 = .ok (.istore_n 2, 1) := by decide +kernel
theorem d_M_readTest_5 : decode prog_14_method_86_code 5 = .ok (.aload_n 0, 1) := by decide +kernel
theorem d_M_readTest_6 : decode prog_14_method_86_code 6 = .ok (.iload_n 2, 1) := by decide +kernel
theorem d_M_readTest_7 : decode prog_14_method_86_code 7 = .ok (.ifCond .lt 7, 3) := by decide +kernel
theorem d_M_readTest_10 : decode prog_14_method_86_code 10 = .ok (.iconst 1, 1) := by decide +kernel
theorem d_M_readTest_11 : decode prog_14_method_86_code 11 = .ok (.goto 4, 3) := by decide +kernel
theorem d_M_readTest_14 : decode prog_14_method_86_code 14 = .ok (.iconst 0, 1) := by decide +kernel
theorem d_M_readTest_15 : decode prog_14_method_86_code 15 = .ok (.invokevirtual 261, 3) := by decide +kernel
theorem d_M_readTest_18 : decode prog_14_method_86_code 18 = .ok (.aload_n 0, 1) := by decide +kernel
theorem d_M_readTest_19 : decode prog_14_method_86_code 19 = .ok (.getfield 35, 3) := by decide +kernel
theorem d_M_readTest_22 : decode prog_14_method_86_code 22 = .ok (.iload_n 1, 1) := by decide +kernel
theorem d_M_readTest_23 : decode prog_14_method_86_code 23 = .ok (.bipush 6, 2) := by decide +kernel
theorem d_M_readTest_25 : decode prog_14_method_86_code 25 = .ok (.iadd, 1) := by decide +kernel
theorem d_M_readTest_26 : decode prog_14_method_86_code 26 = .ok (.iload_n 2, 1) := by decide +kernel
theorem d_M_readTest_27 : decode prog_14_method_86_code 27 = .ok (.iastore, 1) := by decide +kernel
theorem d_M_readTest_28 : decode prog_14_method_86_code 28 = .ok (.iload_n 2, 1) := by decide +kernel
theorem d_M_readTest_29 : decode prog_14_method_86_code 29 = .ok (.iconst 1, 1) := by decide +kernel
theorem d_M_readTest_30 : decode prog_14_method_86_code 30 = .ok (.if_icmp .eq 17, 3) := by decide +kernel
theorem d_M_readTest_33 : decode prog_14_method_86_code 33 = .ok (.aload_n 0, 1) := by decide +kernel
theorem d_M_readTest_34 : decode prog_14_method_86_code 34 = .ok (.getfield 35, 3) := by decide +kernel
theorem d_M_readTest_37 : decode prog_14_method_86_code 37 = .ok (.iload_n 1, 1) := by decide +kernel
theorem d_M_readTest_38 : decode prog_14_method_86_code 38 = .ok (.iconst 1, 1) := by decide +kernel
theorem d_M_readTest_39 : decode prog_14_method_86_code 39 = .ok (.iadd, 1) := by decide +kernel
theorem d_M_readTest_40 : decode prog_14_method_86_code 40 = .ok (.aload_n 0, 1) := by decide +kernel
theorem d_M_readTest_41 : decode prog_14_method_86_code 41 = .ok (.iconst 0, 1) := by decide +kernel
theorem d_M_readTest_42 : decode prog_14_method_86_code 42 = .ok (.iconst 2, 1) := by decide +kernel
theorem d_M_readTest_43 : decode prog_14_method_86_code 43 = .ok (.invokevirtual 292, 3) := by decide +kernel
theorem d_M_readTest_46 : decode prog_14_method_86_code 46 = .ok (.iastore, 1) := by decide +kernel
theorem d_M_readTest_47 : decode prog_14_method_86_code 47 = .ok (.aload_n 0, 1) := by decide +kernel
theorem d_M_readTest_48 : decode prog_14_method_86_code 48 = .ok (.getfield 245, 3) := by decide +kernel
theorem d_M_readTest_51 : decode prog_14_method_86_code 51 = .ok (.ifCond .gt 7, 3) := by decide +kernel
theorem d_M_readTest_54 : decode prog_14_method_86_code 54 = .ok (.iload_n 2, 1) := by decide +kernel
theorem d_M_readTest_55 : decode prog_14_method_86_code 55 = .ok (.ifCond .ne 4, 3) := by decide +kernel
theorem d_M_readTest_58 : decode prog_14_method_86_code 58 = .ok (.return_, 1) := by decide +kernel
theorem d_M_readTest_59 : decode prog_14_method_86_code 59 = .ok (.aload_n 0, 1) := by decide +kernel
theorem d_M_readTest_60 : decode prog_14_method_86_code 60 = .ok (.getfield 35, 3) := by decide +kernel
theorem d_M_readTest_63 : decode prog_14_method_86_code 63 = .ok (.iload_n 1, 1) := by decide +kernel
theorem d_M_readTest_64 : decode prog_14_method_86_code 64 = .ok (.bipush 7, 2) := by decide +kernel
theorem d_M_readTest_66 : decode prog_14_method_86_code 66 = .ok (.iadd, 1) := by decide +kernel
theorem d_M_readTest_67 : decode prog_14_method_86_code 67 = .ok (.aload_n 0, 1) := by decide +kernel
theorem d_M_readTest_68 : decode prog_14_method_86_code 68 = .ok (.getfield 133, 3) := by decide +kernel
theorem d_M_readTest_71 : decode prog_14_method_86_code 71 = .ok (.iconst 3, 1) := by decide +kernel
theorem d_M_readTest_72 : decode prog_14_method_86_code 72 = .ok (.if_icmp .ne 10, 3) := by decide +kernel
theorem d_M_readTest_75 : decode prog_14_method_86_code 75 = .ok (.aload_n 0, 1) := by decide +kernel
theorem d_M_readTest_76 : decode prog_14_method_86_code 76 = .ok (.getfield 152, 3) := by decide +kernel
theorem d_M_readTest_79 : decode prog_14_method_86_code 79 = .ok (.goto 4, 3) := by decide +kernel
theorem d_M_readTest_82 : decode prog_14_method_86_code 82 = .ok (.iconst 0, 1) := by decide +kernel
theorem d_M_readTest_83 : decode prog_14_method_86_code 83 = .ok (.iastore, 1) := by decide +kernel
theorem d_M_readTest_84 : decode prog_14_method_86_code 84 = .ok (.aload_n 0, 1) := by decide +kernel
theorem d_M_readTest_85 : decode prog_14_method_86_code 85 = .ok (.aload_n 0, 1) := by decide +kernel
theorem d_M_readTest_86 : decode prog_14_method_86_code 86 = .ok (.bipush 60, 2) := by decide +kernel
theorem d_M_readTest_88 : decode prog_14_method_86_code 88 = .ok (.invokevirtual 344, 3) := by decide +kernel
theorem d_M_readTest_91 : decode prog_14_method_86_code 91 = .ok (.ifCond .ne 21, 3) := by decide +kernel
theorem d_M_readTest_94 : decode prog_14_method_86_code 94 = .ok (.aload_n 0, 1) := by decide +kernel
theorem d_M_readTest_95 : decode prog_14_method_86_code 95 = .ok (.bipush 62, 2) := by decide +kernel
theorem d_M_readTest_97 : decode prog_14_method_86_code 97 = .ok (.invokevirtual 344, 3) := by decide +kernel
theorem d_M_readTest_100 : decode prog_14_method_86_code 100 = .ok (.ifCond .ne 12, 3) := by decide +kernel
theorem d_M_readTest_103 : decode prog_14_method_86_code 103 = .ok (.aload_n 0, 1) := by decide +kernel
theorem d_M_readTest_104 : decode prog_14_method_86_code 104 = .ok (.bipush 61, 2) := by decide +kernel
theorem d_M_readTest_106 : decode prog_14_method_86_code 106 = .ok (.invokevirtual 344, 3) := by decide +kernel
theorem d_M_readTest_109 : decode prog_14_method_86_code 109 = .ok (.ifCond .eq 7, 3) := by decide +kernel
theorem d_M_readTest_112 : decode prog_14_method_86_code 112 = .ok (.iconst 1, 1) := by decide +kernel
theorem d_M_readTest_113 : decode prog_14_method_86_code 113 = .ok (.goto 4, 3) := by decide +kernel
theorem d_M_readTest_116 : decode prog_14_method_86_code 116 = .ok (.iconst 0, 1) := by decide +kernel
theorem d_M_readTest_117 : decode prog_14_method_86_code 117 = .ok (.invokevirtual 261, 3) := by decide +kernel
theorem d_M_readTest_120 : decode prog_14_method_86_code 120 = .ok (.aload_n 0, 1) := by decide +kernel
theorem d_M_readTest_121 : decode prog_14_method_86_code 121 = .ok (.getfield 35, 3) := by decide +kernel
theorem d_M_readTest_124 : decode prog_14_method_86_code 124 = .ok (.iload_n 1, 1) := by decide +kernel
theorem d_M_readTest_125 : decode prog_14_method_86_code 125 = .ok (.iconst 2, 1) := by decide +kernel
theorem d_M_readTest_126 : decode prog_14_method_86_code 126 = .ok (.iadd, 1) := by decide +kernel
theorem d_M_readTest_127 : decode prog_14_method_86_code 127 = .ok (.aload_n 0, 1) := by decide +kernel
theorem d_M_readTest_128 : decode prog_14_method_86_code 128 = .ok (.iconst 0, 1) := by decide +kernel
theorem d_M_readTest_129 : decode prog_14_method_86_code 129 = .ok (.iload_n 2, 1) := by decide +kernel
theorem d_M_readTest_130 : decode prog_14_method_86_code 130 = .ok (.iconst 1, 1) := by decide +kernel
theorem d_M_readTest_131 : decode prog_14_method_86_code 131 = .ok (.if_icmp .ne 8, 3) := by decide +kernel
theorem d_M_readTest_134 : decode prog_14_method_86_code 134 = .ok (.bipush 9, 2) := by decide +kernel
theorem d_M_readTest_136 : decode prog_14_method_86_code 136 = .ok (.goto 5, 3) := by decide +kernel
theorem d_M_readTest_139 : decode prog_14_method_86_code 139 = .ok (.bipush 99, 2) := by decide +kernel
theorem d_M_readTest_141 : decode prog_14_method_86_code 141 = .ok (.invokevirtual 265, 3) := by decide +kernel
theorem d_M_readTest_144 : decode prog_14_method_86_code 144 = .ok (.iastore, 1) := by decide +kernel
theorem d_M_readTest_145 : decode prog_14_method_86_code 145 = .ok (.return_, 1) := by decide +kernel
def M_readTest_J117 (Y : Ly) (l0 : Nat) (l1 : Int32) (l2 : Int32) (s0 : Bool) (s1 : Nat) (h : Hp) : Option Hp :=
  (M_must Y s1 s0 h).bind fun q16 =>
  if l2 = 1 then
    (M_count Y l0 0 9 q16).bind fun q19 =>
    if inB (l1 + 2) (lnY Y (hGr q16 1220 l0)) = true then
      letH (hTi q19.2 (hGr q16 1220 l0) (Int32.toNatClampNeg (l1 + 2)) q19.1) fun h21 =>
      some h21
    else none
  else
    (M_count Y l0 0 99 q16).bind fun q22 =>
    if inB (l1 + 2) (lnY Y (hGr q16 1220 l0)) = true then
      letH (hTi q22.2 (hGr q16 1220 l0) (Int32.toNatClampNeg (l1 + 2)) q22.1) fun h24 =>
      some h24
    else none
theorem M_readTest_J117_ok (Y : Ly) (l0 : Nat) (l1 : Int32) (l2 : Int32) (s0 : Bool) (s1 : Nat) (h : Hp) (tl0 : isO Y 12 l0) (ts1 : isO Y 12 s1) : AW Y 7 K_M_readTest 117 [(0, .ref l0), (1, .int l1), (2, .int l2)] [.int (b2i s0), .ref s1] h (M_readTest_J117 Y l0 l1 l2 s0 s1 h) rV := by
  unfold M_readTest_J117
  refine aw_cVrV (pc := 117) (ci := 12) (T := TX12) (N := 44) (As := [.int (b2i s0)]) (st := []) (ok_M_must Y s1 s0 h ts1) okV_M_must rfl (by decide) ts1 w8_171 d_M_readTest_117 rfl (Nat.le_of_ble_eq_true rfl) rfl (Nat.le_of_ble_eq_true rfl) (fun q16 hq16 hTq16 => ?_)
  refine aw_aload_n (pc := 120) d_M_readTest_120 rfl 0 rfl ?_
  refine gt_1220 (pc := 121) d_M_readTest_121 w7_47 tl0 (fun tt17 => ?_)
  refine aw_iload_n (pc := 124) d_M_readTest_124 rfl 1 rfl ?_
  refine aw_iconst (pc := 125) (x := 2) d_M_readTest_125 (by decide) ?_
  refine aw_iadd (pc := 126) d_M_readTest_126 ?_
  refine aw_aload_n (pc := 127) d_M_readTest_127 rfl 0 rfl ?_
  refine aw_iconst (pc := 128) (x := 0) d_M_readTest_128 (by decide) ?_
  refine aw_iload_n (pc := 129) d_M_readTest_129 rfl 2 rfl ?_
  refine aw_iconst (pc := 130) (x := 1) d_M_readTest_130 (by decide) ?_
  refine aw_icmp_ne (pc := 131) (tgt := 139) d_M_readTest_131 (by decide) (fun c18 => ?_) (fun c18 => ?_)
  · refine aw_bipush (pc := 134) (x := 9) d_M_readTest_134 (by decide) ?_
    refine aw_goto (pc := 136) (tgt := 141) d_M_readTest_136 (by decide) ?_
    refine aw_cVrI (pc := 141) (ci := 12) (T := TX12) (N := 44) (As := [.int 0, .int 9]) (st := [.int (l1 + 2), .ref (hGr q16 1220 l0)]) (ok_M_count Y l0 0 9 q16 tl0) okV_M_count rfl (by decide) tl0 w8_151 d_M_readTest_141 rfl (Nat.le_of_ble_eq_true rfl) rfl (Nat.le_of_ble_eq_true rfl) (fun q19 hq19 hTq19 => ?_)
    refine aw_iastore (pc := 144) d_M_readTest_144 tt17 (fun c20 => ?_)
    refine aw_letH (fun h21 => ?_)
    exact aw_return (pc := 145) d_M_readTest_145 rfl rfl
  · refine aw_bipush (pc := 139) (x := 99) d_M_readTest_139 (by decide) ?_
    refine aw_cVrI (pc := 141) (ci := 12) (T := TX12) (N := 44) (As := [.int 0, .int 99]) (st := [.int (l1 + 2), .ref (hGr q16 1220 l0)]) (ok_M_count Y l0 0 99 q16 tl0) okV_M_count rfl (by decide) tl0 w8_151 d_M_readTest_141 rfl (Nat.le_of_ble_eq_true rfl) rfl (Nat.le_of_ble_eq_true rfl) (fun q22 hq22 hTq22 => ?_)
    refine aw_iastore (pc := 144) d_M_readTest_144 tt17 (fun c23 => ?_)
    refine aw_letH (fun h24 => ?_)
    exact aw_return (pc := 145) d_M_readTest_145 rfl rfl
def M_readTest_J112 (Y : Ly) (l0 : Nat) (l1 : Int32) (l2 : Int32) (s0 : Nat) (h : Hp) : Option Hp :=
  M_readTest_J117 Y l0 l1 l2 true s0 h
theorem M_readTest_J112_ok (Y : Ly) (l0 : Nat) (l1 : Int32) (l2 : Int32) (s0 : Nat) (h : Hp) (tl0 : isO Y 12 l0) (ts0 : isO Y 12 s0) : AW Y 7 K_M_readTest 112 [(0, .ref l0), (1, .int l1), (2, .int l2)] [.ref s0] h (M_readTest_J112 Y l0 l1 l2 s0 h) rV := by
  unfold M_readTest_J112
  refine aw_iconst (pc := 112) (x := 1) d_M_readTest_112 (by decide) ?_
  refine aw_goto (pc := 113) (tgt := 117) d_M_readTest_113 (by decide) ?_
  exact aw_lv [0, 1, 2] rfl (M_readTest_J117_ok Y l0 l1 l2 true s0 h tl0 ts0)
def M_readTest_J83 (Y : Ly) (l0 : Nat) (l1 : Int32) (l2 : Int32) (s0 : Int32) (s1 : Int32) (s2 : Nat) (h : Hp) : Option Hp :=
  if inB s1 (lnY Y s2) = true then
    letH (hTi h s2 (Int32.toNatClampNeg s1) s0) fun h13 =>
    (M_isSign Y l0 60 h13).bind fun q14 =>
    if q14 = true then
      M_readTest_J112 Y l0 l1 l2 l0 h13
    else
      (M_isSign Y l0 62 h13).bind fun q25 =>
      if q25 = true then
        M_readTest_J112 Y l0 l1 l2 l0 h13
      else
        (M_isSign Y l0 61 h13).bind fun q27 =>
        if q27 = true then
          M_readTest_J112 Y l0 l1 l2 l0 h13
        else
          M_readTest_J117 Y l0 l1 l2 false l0 h13
  else none
theorem M_readTest_J83_ok (Y : Ly) (l0 : Nat) (l1 : Int32) (l2 : Int32) (s0 : Int32) (s1 : Int32) (s2 : Nat) (h : Hp) (tl0 : isO Y 12 l0) (ts2 : isO Y 20 s2) : AW Y 7 K_M_readTest 83 [(0, .ref l0), (1, .int l1), (2, .int l2)] [.int s0, .int s1, .ref s2] h (M_readTest_J83 Y l0 l1 l2 s0 s1 s2 h) rV := by
  unfold M_readTest_J83
  refine aw_iastore (pc := 83) d_M_readTest_83 ts2 (fun c12 => ?_)
  refine aw_letH (fun h13 => ?_)
  refine aw_aload_n (pc := 84) d_M_readTest_84 rfl 0 rfl ?_
  refine aw_aload_n (pc := 85) d_M_readTest_85 rfl 0 rfl ?_
  refine aw_bipush (pc := 86) (x := 60) d_M_readTest_86 (by decide) ?_
  refine aw_cVpZ (pc := 88) (ci := 12) (T := TX12) (N := 44) (As := [.int 60]) (st := [.ref l0]) (ok_M_isSign Y l0 60 h13 tl0) okV_M_isSign rfl (by decide) tl0 w8_215 d_M_readTest_88 rfl (Nat.le_of_ble_eq_true rfl) rfl (Nat.le_of_ble_eq_true rfl) (fun q14 hq14 hTq14 => ?_)
  refine aw_bne (pc := 91) (tgt := 112) d_M_readTest_91 (by decide) (fun c15 => ?_) (fun c15 => ?_)
  · exact aw_lv [0, 1, 2] rfl (M_readTest_J112_ok Y l0 l1 l2 l0 h13 tl0 tl0)
  · refine aw_aload_n (pc := 94) d_M_readTest_94 rfl 0 rfl ?_
    refine aw_bipush (pc := 95) (x := 62) d_M_readTest_95 (by decide) ?_
    refine aw_cVpZ (pc := 97) (ci := 12) (T := TX12) (N := 44) (As := [.int 62]) (st := [.ref l0]) (ok_M_isSign Y l0 62 h13 tl0) okV_M_isSign rfl (by decide) tl0 w8_215 d_M_readTest_97 rfl (Nat.le_of_ble_eq_true rfl) rfl (Nat.le_of_ble_eq_true rfl) (fun q25 hq25 hTq25 => ?_)
    refine aw_bne (pc := 100) (tgt := 112) d_M_readTest_100 (by decide) (fun c26 => ?_) (fun c26 => ?_)
    · exact aw_lv [0, 1, 2] rfl (M_readTest_J112_ok Y l0 l1 l2 l0 h13 tl0 tl0)
    · refine aw_aload_n (pc := 103) d_M_readTest_103 rfl 0 rfl ?_
      refine aw_bipush (pc := 104) (x := 61) d_M_readTest_104 (by decide) ?_
      refine aw_cVpZ (pc := 106) (ci := 12) (T := TX12) (N := 44) (As := [.int 61]) (st := [.ref l0]) (ok_M_isSign Y l0 61 h13 tl0) okV_M_isSign rfl (by decide) tl0 w8_215 d_M_readTest_106 rfl (Nat.le_of_ble_eq_true rfl) rfl (Nat.le_of_ble_eq_true rfl) (fun q27 hq27 hTq27 => ?_)
      refine aw_beq (pc := 109) (tgt := 116) d_M_readTest_109 (by decide) (fun c28 => ?_) (fun c28 => ?_)
      · exact aw_lv [0, 1, 2] rfl (M_readTest_J112_ok Y l0 l1 l2 l0 h13 tl0 tl0)
      · refine aw_iconst (pc := 116) (x := 0) d_M_readTest_116 (by decide) ?_
        exact aw_lv [0, 1, 2] rfl (M_readTest_J117_ok Y l0 l1 l2 false l0 h13 tl0 tl0)
def M_readTest_J47 (Y : Ly) (l0 : Nat) (l1 : Int32) (l2 : Int32) (h : Hp) : Option Hp :=
  if 0 < (hGi h 1212 l0) then
    some h
  else
    if l2 = 0 then
      some h
    else
      if (hGi h 1214 l0) = 3 then
        M_readTest_J83 Y l0 l1 l2 (hGi h 1217 l0) (l1 + 7) (hGr h 1220 l0) h
      else
        M_readTest_J83 Y l0 l1 l2 0 (l1 + 7) (hGr h 1220 l0) h
theorem M_readTest_J47_ok (Y : Ly) (l0 : Nat) (l1 : Int32) (l2 : Int32) (h : Hp) (tl0 : isO Y 12 l0) : AW Y 7 K_M_readTest 47 [(0, .ref l0), (1, .int l1), (2, .int l2)] [] h (M_readTest_J47 Y l0 l1 l2 h) rV := by
  unfold M_readTest_J47
  refine aw_aload_n (pc := 47) d_M_readTest_47 rfl 0 rfl ?_
  refine gt_1212 (pc := 48) d_M_readTest_48 w7_39 tl0 ?_
  refine aw_if_gt (pc := 51) (tgt := 58) d_M_readTest_51 (by decide) (fun c8 => ?_) (fun c8 => ?_)
  · exact aw_return (pc := 58) d_M_readTest_58 rfl rfl
  · refine aw_iload_n (pc := 54) d_M_readTest_54 rfl 2 rfl ?_
    refine aw_if_ne (pc := 55) (tgt := 59) d_M_readTest_55 (by decide) (fun c9 => ?_) (fun c9 => ?_)
    · exact aw_return (pc := 58) d_M_readTest_58 rfl rfl
    · refine aw_aload_n (pc := 59) d_M_readTest_59 rfl 0 rfl ?_
      refine gt_1220 (pc := 60) d_M_readTest_60 w7_47 tl0 (fun tt10 => ?_)
      refine aw_iload_n (pc := 63) d_M_readTest_63 rfl 1 rfl ?_
      refine aw_bipush (pc := 64) (x := 7) d_M_readTest_64 (by decide) ?_
      refine aw_iadd (pc := 66) d_M_readTest_66 ?_
      refine aw_aload_n (pc := 67) d_M_readTest_67 rfl 0 rfl ?_
      refine gt_1214 (pc := 68) d_M_readTest_68 w7_41 tl0 ?_
      refine aw_iconst (pc := 71) (x := 3) d_M_readTest_71 (by decide) ?_
      refine aw_icmp_ne (pc := 72) (tgt := 82) d_M_readTest_72 (by decide) (fun c11 => ?_) (fun c11 => ?_)
      · refine aw_aload_n (pc := 75) d_M_readTest_75 rfl 0 rfl ?_
        refine gt_1217 (pc := 76) d_M_readTest_76 w7_44 tl0 ?_
        refine aw_goto (pc := 79) (tgt := 83) d_M_readTest_79 (by decide) ?_
        exact aw_lv [0, 1, 2] rfl (M_readTest_J83_ok Y l0 l1 l2 (hGi h 1217 l0) (l1 + 7) (hGr h 1220 l0) h tl0 tt10)
      · refine aw_iconst (pc := 82) (x := 0) d_M_readTest_82 (by decide) ?_
        exact aw_lv [0, 1, 2] rfl (M_readTest_J83_ok Y l0 l1 l2 0 (l1 + 7) (hGr h 1220 l0) h tl0 tt10)
def M_readTest_J15 (Y : Ly) (l0 : Nat) (l1 : Int32) (l2 : Int32) (s0 : Bool) (s1 : Nat) (h : Hp) : Option Hp :=
  (M_must Y s1 s0 h).bind fun q3 =>
  if inB (l1 + 6) (lnY Y (hGr q3 1220 l0)) = true then
    letH (hTi q3 (hGr q3 1220 l0) (Int32.toNatClampNeg (l1 + 6)) l2) fun h6 =>
    if l2 = 1 then
      M_readTest_J47 Y l0 l1 l2 h6
    else
      (M_readTold Y l0 0 2 h6).bind fun q30 =>
      if inB (l1 + 1) (lnY Y (hGr h6 1220 l0)) = true then
        letH (hTi q30.2 (hGr h6 1220 l0) (Int32.toNatClampNeg (l1 + 1)) q30.1) fun h32 =>
        M_readTest_J47 Y l0 l1 l2 h32
      else none
  else none
theorem M_readTest_J15_ok (Y : Ly) (l0 : Nat) (l1 : Int32) (l2 : Int32) (s0 : Bool) (s1 : Nat) (h : Hp) (tl0 : isO Y 12 l0) (ts1 : isO Y 12 s1) : AW Y 7 K_M_readTest 15 [(0, .ref l0), (1, .int l1), (2, .int l2)] [.int (b2i s0), .ref s1] h (M_readTest_J15 Y l0 l1 l2 s0 s1 h) rV := by
  unfold M_readTest_J15
  refine aw_cVrV (pc := 15) (ci := 12) (T := TX12) (N := 44) (As := [.int (b2i s0)]) (st := []) (ok_M_must Y s1 s0 h ts1) okV_M_must rfl (by decide) ts1 w8_171 d_M_readTest_15 rfl (Nat.le_of_ble_eq_true rfl) rfl (Nat.le_of_ble_eq_true rfl) (fun q3 hq3 hTq3 => ?_)
  refine aw_aload_n (pc := 18) d_M_readTest_18 rfl 0 rfl ?_
  refine gt_1220 (pc := 19) d_M_readTest_19 w7_47 tl0 (fun tt4 => ?_)
  refine aw_iload_n (pc := 22) d_M_readTest_22 rfl 1 rfl ?_
  refine aw_bipush (pc := 23) (x := 6) d_M_readTest_23 (by decide) ?_
  refine aw_iadd (pc := 25) d_M_readTest_25 ?_
  refine aw_iload_n (pc := 26) d_M_readTest_26 rfl 2 rfl ?_
  refine aw_iastore (pc := 27) d_M_readTest_27 tt4 (fun c5 => ?_)
  refine aw_letH (fun h6 => ?_)
  refine aw_iload_n (pc := 28) d_M_readTest_28 rfl 2 rfl ?_
  refine aw_iconst (pc := 29) (x := 1) d_M_readTest_29 (by decide) ?_
  refine aw_icmp_eq (pc := 30) (tgt := 47) d_M_readTest_30 (by decide) (fun c7 => ?_) (fun c7 => ?_)
  · exact aw_lv [0, 1, 2] rfl (M_readTest_J47_ok Y l0 l1 l2 h6 tl0)
  · refine aw_aload_n (pc := 33) d_M_readTest_33 rfl 0 rfl ?_
    refine gt_1220 (pc := 34) d_M_readTest_34 w7_47 tl0 (fun tt29 => ?_)
    refine aw_iload_n (pc := 37) d_M_readTest_37 rfl 1 rfl ?_
    refine aw_iconst (pc := 38) (x := 1) d_M_readTest_38 (by decide) ?_
    refine aw_iadd (pc := 39) d_M_readTest_39 ?_
    refine aw_aload_n (pc := 40) d_M_readTest_40 rfl 0 rfl ?_
    refine aw_iconst (pc := 41) (x := 0) d_M_readTest_41 (by decide) ?_
    refine aw_iconst (pc := 42) (x := 2) d_M_readTest_42 (by decide) ?_
    refine aw_cVrI (pc := 43) (ci := 12) (T := TX12) (N := 44) (As := [.int 0, .int 2]) (st := [.int (l1 + 1), .ref (hGr h6 1220 l0)]) (ok_M_readTold Y l0 0 2 h6 tl0) okV_M_readTold rfl (by decide) tl0 w8_162 d_M_readTest_43 rfl (Nat.le_of_ble_eq_true rfl) rfl (Nat.le_of_ble_eq_true rfl) (fun q30 hq30 hTq30 => ?_)
    refine aw_iastore (pc := 46) d_M_readTest_46 tt29 (fun c31 => ?_)
    refine aw_letH (fun h32 => ?_)
    exact aw_lv [0, 1, 2] rfl (M_readTest_J47_ok Y l0 l1 l2 h32 tl0)
def M_readTest (Y : Ly) (l0 : Nat) (l1 : Int32) (h : Hp) : Option Hp :=
  (M_testWord Y l0 h).bind fun q1 =>
  if q1 < 0 then
    M_readTest_J15 Y l0 l1 q1 false l0 h
  else
    M_readTest_J15 Y l0 l1 q1 true l0 h
theorem ok_M_readTest (Y : Ly) (l0 : Nat) (l1 : Int32) (h : Hp) (t0 : isO Y 12 l0) : AM Y 7 K_M_readTest [.ref l0, .int l1] h (M_readTest Y l0 l1 h) rV := by
  refine AM.of rfl (Nat.le_of_ble_eq_true rfl) ?_
  show AW Y 7 K_M_readTest 0 [(0, .ref l0), (1, .int l1)] [] h (M_readTest Y l0 l1 h) rV
  unfold M_readTest
  refine aw_aload_n (pc := 0) d_M_readTest_0 rfl 0 rfl ?_
  refine aw_cVpI (pc := 1) (ci := 12) (T := TX12) (N := 44) (As := []) (st := []) (ok_M_testWord Y l0 h t0) okV_M_testWord rfl (by decide) t0 w8_123 d_M_readTest_1 rfl (Nat.le_of_ble_eq_true rfl) rfl (Nat.le_of_ble_eq_true rfl) (fun q1 hq1 hTq1 => ?_)
  refine aw_istore_n (pc := 4) (lv' := [(2, .int q1), (0, .ref l0), (1, .int l1)]) d_M_readTest_4 rfl (by decide) rfl ?_
  refine aw_aload_n (pc := 5) d_M_readTest_5 rfl 1 rfl ?_
  refine aw_iload_n (pc := 6) d_M_readTest_6 rfl 0 rfl ?_
  refine aw_if_lt (pc := 7) (tgt := 14) d_M_readTest_7 (by decide) (fun c2 => ?_) (fun c2 => ?_)
  · refine aw_iconst (pc := 14) (x := 0) d_M_readTest_14 (by decide) ?_
    exact aw_lv [1, 2, 0] rfl (M_readTest_J15_ok Y l0 l1 q1 false l0 h t0 t0)
  · refine aw_iconst (pc := 10) (x := 1) d_M_readTest_10 (by decide) ?_
    refine aw_goto (pc := 11) (tgt := 15) d_M_readTest_11 (by decide) ?_
    exact aw_lv [1, 2, 0] rfl (M_readTest_J15_ok Y l0 l1 q1 true l0 h t0 t0)
/-! LastPagesModel.readRest(I)V -/
theorem d_M_readRest_0 : decode prog_14_method_87_code 0 = .ok (.aload_n 0, 1) := by decide +kernel
theorem d_M_readRest_1 : decode prog_14_method_87_code 1 = .ok (.getfield 35, 3) := by decide +kernel
theorem d_M_readRest_4 : decode prog_14_method_87_code 4 = .ok (.iload_n 1, 1) := by decide +kernel
theorem d_M_readRest_5 : decode prog_14_method_87_code 5 = .ok (.iaload, 1) := by decide +kernel
theorem d_M_readRest_6 : decode prog_14_method_87_code 6 = .ok (.istore_n 2, 1) := by decide +kernel
theorem d_M_readRest_7 : decode prog_14_method_87_code 7 = .ok (.iload_n 2, 1) := by decide +kernel
theorem d_M_readRest_8 : decode prog_14_method_87_code 8 = .ok (.iconst 5, 1) := by decide +kernel
theorem d_M_readRest_9 : decode prog_14_method_87_code 9 = .ok (.if_icmp .ne 21, 3) := by decide +kernel
theorem d_M_readRest_12 : decode prog_14_method_87_code 12 = .ok (.aload_n 0, 1) := by decide +kernel
theorem d_M_readRest_13 : decode prog_14_method_87_code 13 = .ok (.getfield 35, 3) := by decide +kernel
theorem d_M_readRest_16 : decode prog_14_method_87_code 16 = .ok (.iload_n 1, 1) := by decide +kernel
theorem d_M_readRest_17 : decode prog_14_method_87_code 17 = .ok (.iconst 1, 1) := by decide +kernel
theorem d_M_readRest_18 : decode prog_14_method_87_code 18 = .ok (.iadd, 1) := by decide +kernel
theorem d_M_readRest_19 : decode prog_14_method_87_code 19 = .ok (.aload_n 0, 1) := by decide +kernel
theorem d_M_readRest_20 : decode prog_14_method_87_code 20 = .ok (.iconst 1, 1) := by decide +kernel
theorem d_M_readRest_21 : decode prog_14_method_87_code 21 = .ok (.bipush 99, 2) := by decide +kernel
theorem d_M_readRest_23 : decode prog_14_method_87_code 23 = .ok (.invokevirtual 265, 3) := by decide +kernel
theorem d_M_readRest_26 : decode prog_14_method_87_code 26 = .ok (.iastore, 1) := by decide +kernel
theorem d_M_readRest_27 : decode prog_14_method_87_code 27 = .ok (.goto 62, 3) := by decide +kernel
theorem d_M_readRest_30 : decode prog_14_method_87_code 30 = .ok (.iload_n 2, 1) := by decide +kernel
theorem d_M_readRest_31 : decode prog_14_method_87_code 31 = .ok (.iconst 4, 1) := by decide +kernel
theorem d_M_readRest_32 : decode prog_14_method_87_code 32 = .ok (.if_icmp .ne 11, 3) := by decide +kernel
theorem d_M_readRest_35 : decode prog_14_method_87_code 35 = .ok (.aload_n 0, 1) := by decide +kernel
theorem d_M_readRest_36 : decode prog_14_method_87_code 36 = .ok (.iload_n 1, 1) := by decide +kernel
theorem d_M_readRest_37 : decode prog_14_method_87_code 37 = .ok (.invokevirtual 353, 3) := by decide +kernel
theorem d_M_readRest_40 : decode prog_14_method_87_code 40 = .ok (.goto 49, 3) := by decide +kernel
theorem d_M_readRest_43 : decode prog_14_method_87_code 43 = .ok (.iload_n 2, 1) := by decide +kernel
theorem d_M_readRest_44 : decode prog_14_method_87_code 44 = .ok (.iconst 4, 1) := by decide +kernel
theorem d_M_readRest_45 : decode prog_14_method_87_code 45 = .ok (.if_icmp .ge 44, 3) := by decide +kernel
theorem d_M_readRest_48 : decode prog_14_method_87_code 48 = .ok (.aload_n 0, 1) := by decide +kernel
theorem d_M_readRest_49 : decode prog_14_method_87_code 49 = .ok (.getfield 35, 3) := by decide +kernel
theorem d_M_readRest_52 : decode prog_14_method_87_code 52 = .ok (.iload_n 1, 1) := by decide +kernel
theorem d_M_readRest_53 : decode prog_14_method_87_code 53 = .ok (.iconst 1, 1) := by decide +kernel
theorem d_M_readRest_54 : decode prog_14_method_87_code 54 = .ok (.iadd, 1) := by decide +kernel
theorem d_M_readRest_55 : decode prog_14_method_87_code 55 = .ok (.aload_n 0, 1) := by decide +kernel
theorem d_M_readRest_56 : decode prog_14_method_87_code 56 = .ok (.iconst 0, 1) := by decide +kernel
theorem d_M_readRest_57 : decode prog_14_method_87_code 57 = .ok (.iload_n 2, 1) := by decide +kernel
theorem d_M_readRest_58 : decode prog_14_method_87_code 58 = .ok (.iconst 2, 1) := by decide +kernel
theorem d_M_readRest_59 : decode prog_14_method_87_code 59 = .ok (.if_icmp .ne 7, 3) := by decide +kernel
theorem d_M_readRest_62 : decode prog_14_method_87_code 62 = .ok (.iconst 4, 1) := by decide +kernel
theorem d_M_readRest_63 : decode prog_14_method_87_code 63 = .ok (.goto 4, 3) := by decide +kernel
theorem d_M_readRest_66 : decode prog_14_method_87_code 66 = .ok (.iconst 2, 1) := by decide +kernel
theorem d_M_readRest_67 : decode prog_14_method_87_code 67 = .ok (.invokevirtual 292, 3) := by decide +kernel
theorem d_M_readRest_70 : decode prog_14_method_87_code 70 = .ok (.iastore, 1) := by decide +kernel
theorem d_M_readRest_71 : decode prog_14_method_87_code 71 = .ok (.iload_n 2, 1) := by decide +kernel
theorem d_M_readRest_72 : decode prog_14_method_87_code 72 = .ok (.ifCond .ne 17, 3) := by decide +kernel
theorem d_M_readRest_75 : decode prog_14_method_87_code 75 = .ok (.aload_n 0, 1) := by decide +kernel
theorem d_M_readRest_76 : decode prog_14_method_87_code 76 = .ok (.getfield 35, 3) := by decide +kernel
theorem d_M_readRest_79 : decode prog_14_method_87_code 79 = .ok (.iload_n 1, 1) := by decide +kernel
theorem d_M_readRest_80 : decode prog_14_method_87_code 80 = .ok (.iconst 2, 1) := by decide +kernel
theorem d_M_readRest_81 : decode prog_14_method_87_code 81 = .ok (.iadd, 1) := by decide +kernel
theorem d_M_readRest_82 : decode prog_14_method_87_code 82 = .ok (.aload_n 0, 1) := by decide +kernel
theorem d_M_readRest_83 : decode prog_14_method_87_code 83 = .ok (.iconst 0, 1) := by decide +kernel
theorem d_M_readRest_84 : decode prog_14_method_87_code 84 = .ok (.iconst 3, 1) := by decide +kernel
theorem d_M_readRest_85 : decode prog_14_method_87_code 85 = .ok (.invokevirtual 292, 3) := by decide +kernel
theorem d_M_readRest_88 : decode prog_14_method_87_code 88 = .ok (.iastore, 1) := by decide +kernel
theorem d_M_readRest_89 : decode prog_14_method_87_code 89 = .ok (.return_, 1) := by decide +kernel
def M_readRest_J67 (Y : Ly) (l0 : Nat) (l1 : Int32) (l2 : Int32) (s0 : Int32) (s1 : Bool) (s2 : Nat) (s3 : Int32) (s4 : Nat) (h : Hp) : Option Hp :=
  (M_readTold Y s2 (b2i s1) s0 h).bind fun q13 =>
  if inB s3 (lnY Y s4) = true then
    letH (hTi q13.2 s4 (Int32.toNatClampNeg s3) q13.1) fun h15 =>
    if l2 = 0 then
      (M_readTold Y l0 0 3 h15).bind fun q18 =>
      if inB (l1 + 2) (lnY Y (hGr h15 1220 l0)) = true then
        letH (hTi q18.2 (hGr h15 1220 l0) (Int32.toNatClampNeg (l1 + 2)) q18.1) fun h20 =>
        some h20
      else none
    else
      some h15
  else none
theorem M_readRest_J67_ok (Y : Ly) (l0 : Nat) (l1 : Int32) (l2 : Int32) (s0 : Int32) (s1 : Bool) (s2 : Nat) (s3 : Int32) (s4 : Nat) (h : Hp) (tl0 : isO Y 12 l0) (ts2 : isO Y 12 s2) (ts4 : isO Y 20 s4) : AW Y 8 K_M_readRest 67 [(0, .ref l0), (1, .int l1), (2, .int l2)] [.int s0, .int (b2i s1), .ref s2, .int s3, .ref s4] h (M_readRest_J67 Y l0 l1 l2 s0 s1 s2 s3 s4 h) rV := by
  unfold M_readRest_J67
  refine aw_cVrI (pc := 67) (ci := 12) (T := TX12) (N := 44) (As := [.int (b2i s1), .int s0]) (st := [.int s3, .ref s4]) (ok_M_readTold Y s2 (b2i s1) s0 h ts2) okV_M_readTold rfl (by decide) ts2 w8_162 d_M_readRest_67 rfl (Nat.le_of_ble_eq_true rfl) rfl (Nat.le_of_ble_eq_true rfl) (fun q13 hq13 hTq13 => ?_)
  refine aw_iastore (pc := 70) d_M_readRest_70 ts4 (fun c14 => ?_)
  refine aw_letH (fun h15 => ?_)
  refine aw_iload_n (pc := 71) d_M_readRest_71 rfl 2 rfl ?_
  refine aw_if_ne (pc := 72) (tgt := 89) d_M_readRest_72 (by decide) (fun c16 => ?_) (fun c16 => ?_)
  · refine aw_aload_n (pc := 75) d_M_readRest_75 rfl 0 rfl ?_
    refine gt_1220 (pc := 76) d_M_readRest_76 w7_47 tl0 (fun tt17 => ?_)
    refine aw_iload_n (pc := 79) d_M_readRest_79 rfl 1 rfl ?_
    refine aw_iconst (pc := 80) (x := 2) d_M_readRest_80 (by decide) ?_
    refine aw_iadd (pc := 81) d_M_readRest_81 ?_
    refine aw_aload_n (pc := 82) d_M_readRest_82 rfl 0 rfl ?_
    refine aw_iconst (pc := 83) (x := 0) d_M_readRest_83 (by decide) ?_
    refine aw_iconst (pc := 84) (x := 3) d_M_readRest_84 (by decide) ?_
    refine aw_cVrI (pc := 85) (ci := 12) (T := TX12) (N := 44) (As := [.int 0, .int 3]) (st := [.int (l1 + 2), .ref (hGr h15 1220 l0)]) (ok_M_readTold Y l0 0 3 h15 tl0) okV_M_readTold rfl (by decide) tl0 w8_162 d_M_readRest_85 rfl (Nat.le_of_ble_eq_true rfl) rfl (Nat.le_of_ble_eq_true rfl) (fun q18 hq18 hTq18 => ?_)
    refine aw_iastore (pc := 88) d_M_readRest_88 tt17 (fun c19 => ?_)
    refine aw_letH (fun h20 => ?_)
    exact aw_return (pc := 89) d_M_readRest_89 rfl rfl
  · exact aw_return (pc := 89) d_M_readRest_89 rfl rfl
def M_readRest (Y : Ly) (l0 : Nat) (l1 : Int32) (h : Hp) : Option Hp :=
  if inB l1 (lnY Y (hGr h 1220 l0)) = true then
    if (hAi h (hGr h 1220 l0) (Int32.toNatClampNeg l1)) = 5 then
      (M_count Y l0 1 99 h).bind fun q5 =>
      if inB (l1 + 1) (lnY Y (hGr h 1220 l0)) = true then
        letH (hTi q5.2 (hGr h 1220 l0) (Int32.toNatClampNeg (l1 + 1)) q5.1) fun h7 =>
        some h7
      else none
    else
      if (hAi h (hGr h 1220 l0) (Int32.toNatClampNeg l1)) = 4 then
        (M_readTest Y l0 l1 h).bind fun q9 =>
        some q9
      else
        if 4 ≤ (hAi h (hGr h 1220 l0) (Int32.toNatClampNeg l1)) then
          some h
        else
          if (hAi h (hGr h 1220 l0) (Int32.toNatClampNeg l1)) = 2 then
            M_readRest_J67 Y l0 l1 (hAi h (hGr h 1220 l0) (Int32.toNatClampNeg l1)) 4 false l0 (l1 + 1) (hGr h 1220 l0) h
          else
            M_readRest_J67 Y l0 l1 (hAi h (hGr h 1220 l0) (Int32.toNatClampNeg l1)) 2 false l0 (l1 + 1) (hGr h 1220 l0) h
  else none
theorem ok_M_readRest (Y : Ly) (l0 : Nat) (l1 : Int32) (h : Hp) (t0 : isO Y 12 l0) : AM Y 8 K_M_readRest [.ref l0, .int l1] h (M_readRest Y l0 l1 h) rV := by
  refine AM.of rfl (Nat.le_of_ble_eq_true rfl) ?_
  show AW Y 8 K_M_readRest 0 [(0, .ref l0), (1, .int l1)] [] h (M_readRest Y l0 l1 h) rV
  unfold M_readRest
  refine aw_aload_n (pc := 0) d_M_readRest_0 rfl 0 rfl ?_
  refine gt_1220 (pc := 1) d_M_readRest_1 w7_47 t0 (fun tt1 => ?_)
  refine aw_iload_n (pc := 4) d_M_readRest_4 rfl 1 rfl ?_
  refine aw_iaload (pc := 5) d_M_readRest_5 tt1 (fun c2 => ?_)
  refine aw_istore_n (pc := 6) (lv' := [(2, .int (hAi h (hGr h 1220 l0) (Int32.toNatClampNeg l1))), (0, .ref l0), (1, .int l1)]) d_M_readRest_6 rfl (by decide) rfl ?_
  refine aw_iload_n (pc := 7) d_M_readRest_7 rfl 0 rfl ?_
  refine aw_iconst (pc := 8) (x := 5) d_M_readRest_8 (by decide) ?_
  refine aw_icmp_ne (pc := 9) (tgt := 30) d_M_readRest_9 (by decide) (fun c3 => ?_) (fun c3 => ?_)
  · refine aw_aload_n (pc := 12) d_M_readRest_12 rfl 1 rfl ?_
    refine gt_1220 (pc := 13) d_M_readRest_13 w7_47 t0 (fun tt4 => ?_)
    refine aw_iload_n (pc := 16) d_M_readRest_16 rfl 2 rfl ?_
    refine aw_iconst (pc := 17) (x := 1) d_M_readRest_17 (by decide) ?_
    refine aw_iadd (pc := 18) d_M_readRest_18 ?_
    refine aw_aload_n (pc := 19) d_M_readRest_19 rfl 1 rfl ?_
    refine aw_iconst (pc := 20) (x := 1) d_M_readRest_20 (by decide) ?_
    refine aw_bipush (pc := 21) (x := 99) d_M_readRest_21 (by decide) ?_
    refine aw_cVrI (pc := 23) (ci := 12) (T := TX12) (N := 44) (As := [.int 1, .int 99]) (st := [.int (l1 + 1), .ref (hGr h 1220 l0)]) (ok_M_count Y l0 1 99 h t0) okV_M_count rfl (by decide) t0 w8_151 d_M_readRest_23 rfl (Nat.le_of_ble_eq_true rfl) rfl (Nat.le_of_ble_eq_true rfl) (fun q5 hq5 hTq5 => ?_)
    refine aw_iastore (pc := 26) d_M_readRest_26 tt4 (fun c6 => ?_)
    refine aw_letH (fun h7 => ?_)
    refine aw_goto (pc := 27) (tgt := 89) d_M_readRest_27 (by decide) ?_
    exact aw_return (pc := 89) d_M_readRest_89 rfl rfl
  · refine aw_iload_n (pc := 30) d_M_readRest_30 rfl 0 rfl ?_
    refine aw_iconst (pc := 31) (x := 4) d_M_readRest_31 (by decide) ?_
    refine aw_icmp_ne (pc := 32) (tgt := 43) d_M_readRest_32 (by decide) (fun c8 => ?_) (fun c8 => ?_)
    · refine aw_aload_n (pc := 35) d_M_readRest_35 rfl 1 rfl ?_
      refine aw_iload_n (pc := 36) d_M_readRest_36 rfl 2 rfl ?_
      refine aw_cVrV (pc := 37) (ci := 12) (T := TX12) (N := 44) (As := [.int l1]) (st := []) (ok_M_readTest Y l0 l1 h t0) okV_M_readTest rfl (by decide) t0 w8_239 d_M_readRest_37 rfl (Nat.le_of_ble_eq_true rfl) rfl (Nat.le_of_ble_eq_true rfl) (fun q9 hq9 hTq9 => ?_)
      refine aw_goto (pc := 40) (tgt := 89) d_M_readRest_40 (by decide) ?_
      exact aw_return (pc := 89) d_M_readRest_89 rfl rfl
    · refine aw_iload_n (pc := 43) d_M_readRest_43 rfl 0 rfl ?_
      refine aw_iconst (pc := 44) (x := 4) d_M_readRest_44 (by decide) ?_
      refine aw_icmp_ge (pc := 45) (tgt := 89) d_M_readRest_45 (by decide) (fun c10 => ?_) (fun c10 => ?_)
      · exact aw_return (pc := 89) d_M_readRest_89 rfl rfl
      · refine aw_aload_n (pc := 48) d_M_readRest_48 rfl 1 rfl ?_
        refine gt_1220 (pc := 49) d_M_readRest_49 w7_47 t0 (fun tt11 => ?_)
        refine aw_iload_n (pc := 52) d_M_readRest_52 rfl 2 rfl ?_
        refine aw_iconst (pc := 53) (x := 1) d_M_readRest_53 (by decide) ?_
        refine aw_iadd (pc := 54) d_M_readRest_54 ?_
        refine aw_aload_n (pc := 55) d_M_readRest_55 rfl 1 rfl ?_
        refine aw_iconst (pc := 56) (x := 0) d_M_readRest_56 (by decide) ?_
        refine aw_iload_n (pc := 57) d_M_readRest_57 rfl 0 rfl ?_
        refine aw_iconst (pc := 58) (x := 2) d_M_readRest_58 (by decide) ?_
        refine aw_icmp_ne (pc := 59) (tgt := 66) d_M_readRest_59 (by decide) (fun c12 => ?_) (fun c12 => ?_)
        · refine aw_iconst (pc := 62) (x := 4) d_M_readRest_62 (by decide) ?_
          refine aw_goto (pc := 63) (tgt := 67) d_M_readRest_63 (by decide) ?_
          exact aw_lv [1, 2, 0] rfl (M_readRest_J67_ok Y l0 l1 (hAi h (hGr h 1220 l0) (Int32.toNatClampNeg l1)) 4 false l0 (l1 + 1) (hGr h 1220 l0) h t0 t0 tt11)
        · refine aw_iconst (pc := 66) (x := 2) d_M_readRest_66 (by decide) ?_
          exact aw_lv [1, 2, 0] rfl (M_readRest_J67_ok Y l0 l1 (hAi h (hGr h 1220 l0) (Int32.toNatClampNeg l1)) 2 false l0 (l1 + 1) (hGr h 1220 l0) h t0 t0 tt11)
/-! LastPagesModel.readStep(I)V -/
theorem d_M_readStep_0 : decode prog_14_method_88_code 0 = .ok (.aload_n 0, 1) := by decide +kernel
theorem d_M_readStep_1 : decode prog_14_method_88_code 1 = .ok (.invokevirtual 232, 3) := by decide +kernel
theorem d_M_readStep_4 : decode prog_14_method_88_code 4 = .ok (.istore_n 2, 1) := by decide +kernel
theorem d_M_readStep_5 : decode prog_14_method_88_code 5 = .ok (.iload_n 2, 1) := by decide +kernel
theorem d_M_readStep_6 : decode prog_14_method_88_code 6 = .ok (.iconst 4, 1) := by decide +kernel
theorem d_M_readStep_7 : decode prog_14_method_88_code 7 = .ok (.if_icmp .eq 8, 3) := by decide +kernel
theorem d_M_readStep_10 : decode prog_14_method_88_code 10 = .ok (.iload_n 2, 1) := by decide +kernel
theorem d_M_readStep_11 : decode prog_14_method_88_code 11 = .ok (.iconst 5, 1) := by decide +kernel
theorem d_M_readStep_12 : decode prog_14_method_88_code 12 = .ok (.if_icmp .ne 7, 3) := by decide +kernel
theorem d_M_readStep_15 : decode prog_14_method_88_code 15 = .ok (.iconst 1, 1) := by decide +kernel
theorem d_M_readStep_16 : decode prog_14_method_88_code 16 = .ok (.goto 4, 3) := by decide +kernel
theorem d_M_readStep_19 : decode prog_14_method_88_code 19 = .ok (.iconst 0, 1) := by decide +kernel
theorem d_M_readStep_20 : decode prog_14_method_88_code 20 = .ok (.istore_n 3, 1) := by decide +kernel
theorem d_M_readStep_21 : decode prog_14_method_88_code 21 = .ok (.iload_n 2, 1) := by decide +kernel
theorem d_M_readStep_22 : decode prog_14_method_88_code 22 = .ok (.ifCond .ge 7, 3) := by decide +kernel
theorem d_M_readStep_25 : decode prog_14_method_88_code 25 = .ok (.aload_n 0, 1) := by decide +kernel
theorem d_M_readStep_26 : decode prog_14_method_88_code 26 = .ok (.invokevirtual 258, 3) := by decide +kernel
theorem d_M_readStep_29 : decode prog_14_method_88_code 29 = .ok (.aload_n 0, 1) := by decide +kernel
theorem d_M_readStep_30 : decode prog_14_method_88_code 30 = .ok (.getfield 245, 3) := by decide +kernel
theorem d_M_readStep_33 : decode prog_14_method_88_code 33 = .ok (.ifCond .ne 22, 3) := by decide +kernel
theorem d_M_readStep_36 : decode prog_14_method_88_code 36 = .ok (.aload_n 0, 1) := by decide +kernel
theorem d_M_readStep_37 : decode prog_14_method_88_code 37 = .ok (.getfield 356, 3) := by decide +kernel
theorem d_M_readStep_40 : decode prog_14_method_88_code 40 = .ok (.bipush 30, 2) := by decide +kernel
theorem d_M_readStep_42 : decode prog_14_method_88_code 42 = .ok (.if_icmp .ne 13, 3) := by decide +kernel
theorem d_M_readStep_45 : decode prog_14_method_88_code 45 = .ok (.aload_n 0, 1) := by decide +kernel
theorem d_M_readStep_46 : decode prog_14_method_88_code 46 = .ok (.bipush 6, 2) := by decide +kernel
theorem d_M_readStep_48 : decode prog_14_method_88_code 48 = .ok (.aload_n 0, 1) := by decide +kernel
theorem d_M_readStep_49 : decode prog_14_method_88_code 49 = .ok (.getfield 127, 3) := by decide +kernel
theorem d_M_readStep_52 : decode prog_14_method_88_code 52 = .ok (.invokevirtual 251, 3) := by decide +kernel
theorem d_M_readStep_55 : decode prog_14_method_88_code 55 = .ok (.aload_n 0, 1) := by decide +kernel
theorem d_M_readStep_56 : decode prog_14_method_88_code 56 = .ok (.getfield 245, 3) := by decide +kernel
theorem d_M_readStep_59 : decode prog_14_method_88_code 59 = .ok (.ifCond .ne 22, 3) := by decide +kernel
theorem d_M_readStep_62 : decode prog_14_method_88_code 62 = .ok (.iload_n 3, 1) := by decide +kernel
theorem d_M_readStep_63 : decode prog_14_method_88_code 63 = .ok (.ifCond .eq 18, 3) := by decide +kernel
theorem d_M_readStep_66 : decode prog_14_method_88_code 66 = .ok (.iload_n 1, 1) := by decide +kernel
theorem d_M_readStep_67 : decode prog_14_method_88_code 67 = .ok (.iconst 3, 1) := by decide +kernel
theorem d_M_readStep_68 : decode prog_14_method_88_code 68 = .ok (.if_icmp .ne 13, 3) := by decide +kernel
theorem d_M_readStep_71 : decode prog_14_method_88_code 71 = .ok (.aload_n 0, 1) := by decide +kernel
theorem d_M_readStep_72 : decode prog_14_method_88_code 72 = .ok (.bipush 7, 2) := by decide +kernel
theorem d_M_readStep_74 : decode prog_14_method_88_code 74 = .ok (.aload_n 0, 1) := by decide +kernel
theorem d_M_readStep_75 : decode prog_14_method_88_code 75 = .ok (.getfield 127, 3) := by decide +kernel
theorem d_M_readStep_78 : decode prog_14_method_88_code 78 = .ok (.invokevirtual 251, 3) := by decide +kernel
theorem d_M_readStep_81 : decode prog_14_method_88_code 81 = .ok (.aload_n 0, 1) := by decide +kernel
theorem d_M_readStep_82 : decode prog_14_method_88_code 82 = .ok (.getfield 245, 3) := by decide +kernel
theorem d_M_readStep_85 : decode prog_14_method_88_code 85 = .ok (.ifCond .le 4, 3) := by decide +kernel
theorem d_M_readStep_88 : decode prog_14_method_88_code 88 = .ok (.return_, 1) := by decide +kernel
theorem d_M_readStep_89 : decode prog_14_method_88_code 89 = .ok (.sipush 2610, 3) := by decide +kernel
theorem d_M_readStep_92 : decode prog_14_method_88_code 92 = .ok (.bipush 9, 2) := by decide +kernel
theorem d_M_readStep_94 : decode prog_14_method_88_code 94 = .ok (.aload_n 0, 1) := by decide +kernel
theorem d_M_readStep_95 : decode prog_14_method_88_code 95 = .ok (.getfield 356, 3) := by decide +kernel
theorem d_M_readStep_98 : decode prog_14_method_88_code 98 = .ok (.imul, 1) := by decide +kernel
theorem d_M_readStep_99 : decode prog_14_method_88_code 99 = .ok (.iadd, 1) := by decide +kernel
theorem d_M_readStep_100 : decode prog_14_method_88_code 100 = .ok (.istore 4, 2) := by decide +kernel
theorem d_M_readStep_102 : decode prog_14_method_88_code 102 = .ok (.aload_n 0, 1) := by decide +kernel
theorem d_M_readStep_103 : decode prog_14_method_88_code 103 = .ok (.dup, 1) := by decide +kernel
theorem d_M_readStep_104 : decode prog_14_method_88_code 104 = .ok (.getfield 356, 3) := by decide +kernel
theorem d_M_readStep_107 : decode prog_14_method_88_code 107 = .ok (.iconst 1, 1) := by decide +kernel
theorem d_M_readStep_108 : decode prog_14_method_88_code 108 = .ok (.iadd, 1) := by decide +kernel
theorem d_M_readStep_109 : decode prog_14_method_88_code 109 = .ok (.putfield 356, 3) := by decide +kernel
theorem d_M_readStep_112 : decode prog_14_method_88_code 112 = .ok (.aload_n 0, 1) := by decide +kernel
theorem d_M_readStep_113 : decode prog_14_method_88_code 113 = .ok (.invokevirtual 255, 3) := by decide +kernel
theorem d_M_readStep_116 : decode prog_14_method_88_code 116 = .ok (.aload_n 0, 1) := by decide +kernel
theorem d_M_readStep_117 : decode prog_14_method_88_code 117 = .ok (.getfield 35, 3) := by decide +kernel
theorem d_M_readStep_120 : decode prog_14_method_88_code 120 = .ok (.iload 4, 2) := by decide +kernel
theorem d_M_readStep_122 : decode prog_14_method_88_code 122 = .ok (.iload_n 2, 1) := by decide +kernel
theorem d_M_readStep_123 : decode prog_14_method_88_code 123 = .ok (.iastore, 1) := by decide +kernel
theorem d_M_readStep_124 : decode prog_14_method_88_code 124 = .ok (.aload_n 0, 1) := by decide +kernel
theorem d_M_readStep_125 : decode prog_14_method_88_code 125 = .ok (.iload 4, 2) := by decide +kernel
theorem d_M_readStep_127 : decode prog_14_method_88_code 127 = .ok (.invokevirtual 359, 3) := by decide +kernel
theorem d_M_readStep_130 : decode prog_14_method_88_code 130 = .ok (.aload_n 0, 1) := by decide +kernel
theorem d_M_readStep_131 : decode prog_14_method_88_code 131 = .ok (.aload_n 0, 1) := by decide +kernel
theorem d_M_readStep_132 : decode prog_14_method_88_code 132 = .ok (.bipush 59, 2) := by decide +kernel
theorem d_M_readStep_134 : decode prog_14_method_88_code 134 = .ok (.invokevirtual 344, 3) := by decide +kernel
theorem d_M_readStep_137 : decode prog_14_method_88_code 137 = .ok (.invokevirtual 261, 3) := by decide +kernel
theorem d_M_readStep_140 : decode prog_14_method_88_code 140 = .ok (.iload_n 3, 1) := by decide +kernel
theorem d_M_readStep_141 : decode prog_14_method_88_code 141 = .ok (.ifCond .eq 27, 3) := by decide +kernel
theorem d_M_readStep_144 : decode prog_14_method_88_code 144 = .ok (.aload_n 0, 1) := by decide +kernel
theorem d_M_readStep_145 : decode prog_14_method_88_code 145 = .ok (.getfield 245, 3) := by decide +kernel
theorem d_M_readStep_148 : decode prog_14_method_88_code 148 = .ok (.ifCond .ne 20, 3) := by decide +kernel
theorem d_M_readStep_151 : decode prog_14_method_88_code 151 = .ok (.aload_n 0, 1) := by decide +kernel
theorem d_M_readStep_152 : decode prog_14_method_88_code 152 = .ok (.invokevirtual 239, 3) := by decide +kernel
theorem d_M_readStep_155 : decode prog_14_method_88_code 155 = .ok (.ifCond .ne 13, 3) := by decide +kernel
theorem d_M_readStep_158 : decode prog_14_method_88_code 158 = .ok (.aload_n 0, 1) := by decide +kernel
theorem d_M_readStep_159 : decode prog_14_method_88_code 159 = .ok (.iload_n 1, 1) := by decide +kernel
theorem d_M_readStep_160 : decode prog_14_method_88_code 160 = .ok (.iconst 1, 1) := by decide +kernel
theorem d_M_readStep_161 : decode prog_14_method_88_code 161 = .ok (.iadd, 1) := by decide +kernel
theorem d_M_readStep_162 : decode prog_14_method_88_code 162 = .ok (.invokevirtual 362, 3) := by decide +kernel
theorem d_M_readStep_165 : decode prog_14_method_88_code 165 = .ok (.goto (-25), 3) := by decide +kernel
theorem d_M_readStep_168 : decode prog_14_method_88_code 168 = .ok (.iload_n 3, 1) := by decide +kernel
theorem d_M_readStep_169 : decode prog_14_method_88_code 169 = .ok (.ifCond .eq 21, 3) := by decide +kernel
theorem d_M_readStep_172 : decode prog_14_method_88_code 172 = .ok (.aload_n 0, 1) := by decide +kernel
theorem d_M_readStep_173 : decode prog_14_method_88_code 173 = .ok (.aload_n 0, 1) := by decide +kernel
theorem d_M_readStep_174 : decode prog_14_method_88_code 174 = .ok (.invokevirtual 239, 3) := by decide +kernel
theorem d_M_readStep_177 : decode prog_14_method_88_code 177 = .ok (.invokevirtual 261, 3) := by decide +kernel
theorem d_M_readStep_180 : decode prog_14_method_88_code 180 = .ok (.aload_n 0, 1) := by decide +kernel
theorem d_M_readStep_181 : decode prog_14_method_88_code 181 = .ok (.aload_n 0, 1) := by decide +kernel
theorem d_M_readStep_182 : decode prog_14_method_88_code 182 = .ok (.bipush 59, 2) := by decide +kernel
theorem d_M_readStep_184 : decode prog_14_method_88_code 184 = .ok (.invokevirtual 344, 3) := by decide +kernel
theorem d_M_readStep_187 : decode prog_14_method_88_code 187 = .ok (.invokevirtual 261, 3) := by decide +kernel
theorem d_M_readStep_190 : decode prog_14_method_88_code 190 = .ok (.aload_n 0, 1) := by decide +kernel
theorem d_M_readStep_191 : decode prog_14_method_88_code 191 = .ok (.getfield 35, 3) := by decide +kernel
theorem d_M_readStep_194 : decode prog_14_method_88_code 194 = .ok (.iload 4, 2) := by decide +kernel
theorem d_M_readStep_196 : decode prog_14_method_88_code 196 = .ok (.bipush 8, 2) := by decide +kernel
theorem d_M_readStep_198 : decode prog_14_method_88_code 198 = .ok (.iadd, 1) := by decide +kernel
theorem d_M_readStep_199 : decode prog_14_method_88_code 199 = .ok (.aload_n 0, 1) := by decide +kernel
theorem d_M_readStep_200 : decode prog_14_method_88_code 200 = .ok (.getfield 356, 3) := by decide +kernel
theorem d_M_readStep_203 : decode prog_14_method_88_code 203 = .ok (.iastore, 1) := by decide +kernel
theorem d_M_readStep_204 : decode prog_14_method_88_code 204 = .ok (.return_, 1) := by decide +kernel
def M_readStep_J168 (Y : Ly) (rec_M_readStep : Nat → Int32 → Hp → Option Hp) (l0 : Nat) (l3 : Bool) (l4 : Int32) (h : Hp) : Option Hp :=
  if l3 = true then
    (M_isEnd Y l0 h).bind fun q25 =>
    (M_must Y l0 q25 h).bind fun q26 =>
    (M_isSign Y l0 59 q26).bind fun q27 =>
    (M_must Y l0 q27 q26).bind fun q28 =>
    if inB (l4 + 8) (lnY Y (hGr q28 1220 l0)) = true then
      letH (hTi q28 (hGr q28 1220 l0) (Int32.toNatClampNeg (l4 + 8)) (hGi q28 1224 l0)) fun h31 =>
      some h31
    else none
  else
    if inB (l4 + 8) (lnY Y (hGr h 1220 l0)) = true then
      letH (hTi h (hGr h 1220 l0) (Int32.toNatClampNeg (l4 + 8)) (hGi h 1224 l0)) fun h34 =>
      some h34
    else none
theorem M_readStep_J168_ok (Y : Ly) {n n0 : Nat} (hn0 : n0 + 1 ≤ n) (hn1 : 9 ≤ n) (rec_M_readStep : Nat → Int32 → Hp → Option Hp) (hrec_M_readStep : ∀ (x0 : Nat) (x1 : Int32) (h : Hp), isO Y 12 x0 → AM Y n0 K_M_readStep [.ref x0, .int x1] h (rec_M_readStep x0 x1 h) rV) (l0 : Nat) (l3 : Bool) (l4 : Int32) (h : Hp) (tl0 : isO Y 12 l0) : AW Y n K_M_readStep 168 [(0, .ref l0), (3, .int (b2i l3)), (4, .int l4)] [] h (M_readStep_J168 Y rec_M_readStep l0 l3 l4 h) rV := by
  unfold M_readStep_J168
  refine aw_iload_n (pc := 168) d_M_readStep_168 rfl 1 rfl ?_
  refine aw_beq (pc := 169) (tgt := 190) d_M_readStep_169 (by decide) (fun c24 => ?_) (fun c24 => ?_)
  · refine aw_aload_n (pc := 172) d_M_readStep_172 rfl 0 rfl ?_
    refine aw_aload_n (pc := 173) d_M_readStep_173 rfl 0 rfl ?_
    refine aw_cVpZ (pc := 174) (ci := 12) (T := TX12) (N := 44) (As := []) (st := [.ref l0]) (ok_M_isEnd Y l0 h tl0) okV_M_isEnd rfl (by decide) tl0 w8_131 d_M_readStep_174 rfl (by omega) rfl (Nat.le_of_ble_eq_true rfl) (fun q25 hq25 hTq25 => ?_)
    refine aw_cVrV (pc := 177) (ci := 12) (T := TX12) (N := 44) (As := [.int (b2i q25)]) (st := []) (ok_M_must Y l0 q25 h tl0) okV_M_must rfl (by decide) tl0 w8_171 d_M_readStep_177 rfl (by omega) rfl (Nat.le_of_ble_eq_true rfl) (fun q26 hq26 hTq26 => ?_)
    refine aw_aload_n (pc := 180) d_M_readStep_180 rfl 0 rfl ?_
    refine aw_aload_n (pc := 181) d_M_readStep_181 rfl 0 rfl ?_
    refine aw_bipush (pc := 182) (x := 59) d_M_readStep_182 (by decide) ?_
    refine aw_cVpZ (pc := 184) (ci := 12) (T := TX12) (N := 44) (As := [.int 59]) (st := [.ref l0]) (ok_M_isSign Y l0 59 q26 tl0) okV_M_isSign rfl (by decide) tl0 w8_215 d_M_readStep_184 rfl (by omega) rfl (Nat.le_of_ble_eq_true rfl) (fun q27 hq27 hTq27 => ?_)
    refine aw_cVrV (pc := 187) (ci := 12) (T := TX12) (N := 44) (As := [.int (b2i q27)]) (st := []) (ok_M_must Y l0 q27 q26 tl0) okV_M_must rfl (by decide) tl0 w8_171 d_M_readStep_187 rfl (by omega) rfl (Nat.le_of_ble_eq_true rfl) (fun q28 hq28 hTq28 => ?_)
    refine aw_aload_n (pc := 190) d_M_readStep_190 rfl 0 rfl ?_
    refine gt_1220 (pc := 191) d_M_readStep_191 w7_47 tl0 (fun tt29 => ?_)
    refine aw_iload (pc := 194) d_M_readStep_194 2 rfl ?_
    refine aw_bipush (pc := 196) (x := 8) d_M_readStep_196 (by decide) ?_
    refine aw_iadd (pc := 198) d_M_readStep_198 ?_
    refine aw_aload_n (pc := 199) d_M_readStep_199 rfl 0 rfl ?_
    refine gt_1224 (pc := 200) d_M_readStep_200 w7_51 tl0 ?_
    refine aw_iastore (pc := 203) d_M_readStep_203 tt29 (fun c30 => ?_)
    refine aw_letH (fun h31 => ?_)
    exact aw_return (pc := 204) d_M_readStep_204 rfl rfl
  · refine aw_aload_n (pc := 190) d_M_readStep_190 rfl 0 rfl ?_
    refine gt_1220 (pc := 191) d_M_readStep_191 w7_47 tl0 (fun tt32 => ?_)
    refine aw_iload (pc := 194) d_M_readStep_194 2 rfl ?_
    refine aw_bipush (pc := 196) (x := 8) d_M_readStep_196 (by decide) ?_
    refine aw_iadd (pc := 198) d_M_readStep_198 ?_
    refine aw_aload_n (pc := 199) d_M_readStep_199 rfl 0 rfl ?_
    refine gt_1224 (pc := 200) d_M_readStep_200 w7_51 tl0 ?_
    refine aw_iastore (pc := 203) d_M_readStep_203 tt32 (fun c33 => ?_)
    refine aw_letH (fun h34 => ?_)
    exact aw_return (pc := 204) d_M_readStep_204 rfl rfl
def M_readStep_L140 (Y : Ly) (rec_M_readStep : Nat → Int32 → Hp → Option Hp) (l0 : Nat) (l1 : Int32) (l3 : Bool) (l4 : Int32) : Nat → Hp → Option Hp
  | 0, _ => none
  | F + 1, h =>
    if l3 = true then
      if (hGi h 1212 l0) = 0 then
        (M_isEnd Y l0 h).bind fun q22 =>
        if q22 = true then
          M_readStep_J168 Y rec_M_readStep l0 l3 l4 h
        else
          (rec_M_readStep l0 (l1 + 1) h).bind fun q35 =>
          M_readStep_L140 Y rec_M_readStep l0 l1 l3 l4 F q35
      else
        M_readStep_J168 Y rec_M_readStep l0 l3 l4 h
    else
      M_readStep_J168 Y rec_M_readStep l0 l3 l4 h
theorem M_readStep_L140_ok (Y : Ly) {n n0 : Nat} (hn0 : n0 + 1 ≤ n) (hn1 : 9 ≤ n) (rec_M_readStep : Nat → Int32 → Hp → Option Hp) (hrec_M_readStep : ∀ (x0 : Nat) (x1 : Int32) (h : Hp), isO Y 12 x0 → AM Y n0 K_M_readStep [.ref x0, .int x1] h (rec_M_readStep x0 x1 h) rV) (l0 : Nat) (l1 : Int32) (l3 : Bool) (l4 : Int32) (tl0 : isO Y 12 l0) : ∀ (F : Nat) (h : Hp), AW Y n K_M_readStep 140 [(0, .ref l0), (1, .int l1), (3, .int (b2i l3)), (4, .int l4)] [] h (M_readStep_L140 Y rec_M_readStep l0 l1 l3 l4 F h) rV := by
  intro F
  induction F with
  | zero =>
    intro h
    exact aw_none
  | succ F ih =>
    intro h
    unfold M_readStep_L140
    refine aw_iload_n (pc := 140) d_M_readStep_140 rfl 2 rfl ?_
    refine aw_beq (pc := 141) (tgt := 168) d_M_readStep_141 (by decide) (fun c20 => ?_) (fun c20 => ?_)
    · refine aw_aload_n (pc := 144) d_M_readStep_144 rfl 0 rfl ?_
      refine gt_1212 (pc := 145) d_M_readStep_145 w7_39 tl0 ?_
      refine aw_if_ne (pc := 148) (tgt := 168) d_M_readStep_148 (by decide) (fun c21 => ?_) (fun c21 => ?_)
      · refine aw_aload_n (pc := 151) d_M_readStep_151 rfl 0 rfl ?_
        refine aw_cVpZ (pc := 152) (ci := 12) (T := TX12) (N := 44) (As := []) (st := []) (ok_M_isEnd Y l0 h tl0) okV_M_isEnd rfl (by decide) tl0 w8_131 d_M_readStep_152 rfl (by omega) rfl (Nat.le_of_ble_eq_true rfl) (fun q22 hq22 hTq22 => ?_)
        refine aw_bne (pc := 155) (tgt := 168) d_M_readStep_155 (by decide) (fun c23 => ?_) (fun c23 => ?_)
        · exact aw_lv [0, 2, 3] rfl (M_readStep_J168_ok Y hn0 hn1 rec_M_readStep hrec_M_readStep l0 l3 l4 h tl0)
        · refine aw_aload_n (pc := 158) d_M_readStep_158 rfl 0 rfl ?_
          refine aw_iload_n (pc := 159) d_M_readStep_159 rfl 1 rfl ?_
          refine aw_iconst (pc := 160) (x := 1) d_M_readStep_160 (by decide) ?_
          refine aw_iadd (pc := 161) d_M_readStep_161 ?_
          refine aw_cVrV (pc := 162) (ci := 12) (T := TX12) (N := 44) (As := [.int (l1 + 1)]) (st := []) (hrec_M_readStep l0 (l1 + 1) h tl0) okV_M_readStep rfl (by decide) tl0 w8_231 d_M_readStep_162 rfl hn0 rfl (Nat.le_of_ble_eq_true rfl) (fun q35 hq35 hTq35 => ?_)
          refine aw_goto (pc := 165) (tgt := 140) d_M_readStep_165 (by decide) ?_
          exact aw_lv [0, 1, 2, 3] rfl (ih q35)
      · exact aw_lv [0, 2, 3] rfl (M_readStep_J168_ok Y hn0 hn1 rec_M_readStep hrec_M_readStep l0 l3 l4 h tl0)
    · exact aw_lv [0, 2, 3] rfl (M_readStep_J168_ok Y hn0 hn1 rec_M_readStep hrec_M_readStep l0 l3 l4 h tl0)
def M_readStep_J81 (Y : Ly) (rec_M_readStep : Nat → Int32 → Hp → Option Hp) (l0 : Nat) (l1 : Int32) (l2 : Int32) (l3 : Bool) (h : Hp) : Option Hp :=
  if (hGi h 1212 l0) ≤ 0 then
    letH (hSi h 1224 l0 ((hGi h 1224 l0) + 1)) fun h12 =>
    (M_advance Y l0 h12).bind fun q13 =>
    if inB (2610 + (9 * (hGi h 1224 l0))) (lnY Y (hGr q13 1220 l0)) = true then
      letH (hTi q13 (hGr q13 1220 l0) (Int32.toNatClampNeg (2610 + (9 * (hGi h 1224 l0)))) l2) fun h16 =>
      (M_readRest Y l0 (2610 + (9 * (hGi h 1224 l0))) h16).bind fun q17 =>
      (M_isSign Y l0 59 q17).bind fun q18 =>
      (M_must Y l0 q18 q17).bind fun q19 =>
      M_readStep_L140 Y rec_M_readStep l0 l1 l3 (2610 + (9 * (hGi h 1224 l0))) FU q19
    else none
  else
    some h
theorem M_readStep_J81_ok (Y : Ly) {n n0 : Nat} (hn0 : n0 + 1 ≤ n) (hn1 : 9 ≤ n) (rec_M_readStep : Nat → Int32 → Hp → Option Hp) (hrec_M_readStep : ∀ (x0 : Nat) (x1 : Int32) (h : Hp), isO Y 12 x0 → AM Y n0 K_M_readStep [.ref x0, .int x1] h (rec_M_readStep x0 x1 h) rV) (l0 : Nat) (l1 : Int32) (l2 : Int32) (l3 : Bool) (h : Hp) (tl0 : isO Y 12 l0) : AW Y n K_M_readStep 81 [(0, .ref l0), (1, .int l1), (2, .int l2), (3, .int (b2i l3))] [] h (M_readStep_J81 Y rec_M_readStep l0 l1 l2 l3 h) rV := by
  unfold M_readStep_J81
  refine aw_aload_n (pc := 81) d_M_readStep_81 rfl 0 rfl ?_
  refine gt_1212 (pc := 82) d_M_readStep_82 w7_39 tl0 ?_
  refine aw_if_le (pc := 85) (tgt := 89) d_M_readStep_85 (by decide) (fun c11 => ?_) (fun c11 => ?_)
  · refine aw_sipush (pc := 89) (x := 2610) d_M_readStep_89 (by decide) ?_
    refine aw_bipush (pc := 92) (x := 9) d_M_readStep_92 (by decide) ?_
    refine aw_aload_n (pc := 94) d_M_readStep_94 rfl 0 rfl ?_
    refine gt_1224 (pc := 95) d_M_readStep_95 w7_51 tl0 ?_
    refine aw_imul (pc := 98) d_M_readStep_98 ?_
    refine aw_iadd (pc := 99) d_M_readStep_99 ?_
    refine aw_istore (pc := 100) (lv' := [(4, .int (2610 + (9 * (hGi h 1224 l0)))), (0, .ref l0), (1, .int l1), (2, .int l2), (3, .int (b2i l3))]) d_M_readStep_100 (by decide) rfl ?_
    refine aw_aload_n (pc := 102) d_M_readStep_102 rfl 1 rfl ?_
    refine aw_dup (pc := 103) d_M_readStep_103 rfl ?_
    refine gt_1224 (pc := 104) d_M_readStep_104 w7_51 tl0 ?_
    refine aw_iconst (pc := 107) (x := 1) d_M_readStep_107 (by decide) ?_
    refine aw_iadd (pc := 108) d_M_readStep_108 ?_
    refine pt_1224 (pc := 109) d_M_readStep_109 w7_51 tl0 ?_
    refine aw_letH (fun h12 => ?_)
    refine aw_aload_n (pc := 112) d_M_readStep_112 rfl 1 rfl ?_
    refine aw_cVrV (pc := 113) (ci := 12) (T := TX12) (N := 44) (As := []) (st := []) (ok_M_advance Y l0 h12 tl0) okV_M_advance rfl (by decide) tl0 w7_224 d_M_readStep_113 rfl (by omega) rfl (Nat.le_of_ble_eq_true rfl) (fun q13 hq13 hTq13 => ?_)
    refine aw_aload_n (pc := 116) d_M_readStep_116 rfl 1 rfl ?_
    refine gt_1220 (pc := 117) d_M_readStep_117 w7_47 tl0 (fun tt14 => ?_)
    refine aw_iload (pc := 120) d_M_readStep_120 0 rfl ?_
    refine aw_iload_n (pc := 122) d_M_readStep_122 rfl 3 rfl ?_
    refine aw_iastore (pc := 123) d_M_readStep_123 tt14 (fun c15 => ?_)
    refine aw_letH (fun h16 => ?_)
    refine aw_aload_n (pc := 124) d_M_readStep_124 rfl 1 rfl ?_
    refine aw_iload (pc := 125) d_M_readStep_125 0 rfl ?_
    refine aw_cVrV (pc := 127) (ci := 12) (T := TX12) (N := 44) (As := [.int (2610 + (9 * (hGi h 1224 l0)))]) (st := []) (ok_M_readRest Y l0 (2610 + (9 * (hGi h 1224 l0))) h16 tl0) okV_M_readRest rfl (by decide) tl0 w8_235 d_M_readStep_127 rfl (by omega) rfl (Nat.le_of_ble_eq_true rfl) (fun q17 hq17 hTq17 => ?_)
    refine aw_aload_n (pc := 130) d_M_readStep_130 rfl 1 rfl ?_
    refine aw_aload_n (pc := 131) d_M_readStep_131 rfl 1 rfl ?_
    refine aw_bipush (pc := 132) (x := 59) d_M_readStep_132 (by decide) ?_
    refine aw_cVpZ (pc := 134) (ci := 12) (T := TX12) (N := 44) (As := [.int 59]) (st := [.ref l0]) (ok_M_isSign Y l0 59 q17 tl0) okV_M_isSign rfl (by decide) tl0 w8_215 d_M_readStep_134 rfl (by omega) rfl (Nat.le_of_ble_eq_true rfl) (fun q18 hq18 hTq18 => ?_)
    refine aw_cVrV (pc := 137) (ci := 12) (T := TX12) (N := 44) (As := [.int (b2i q18)]) (st := []) (ok_M_must Y l0 q18 q17 tl0) okV_M_must rfl (by decide) tl0 w8_171 d_M_readStep_137 rfl (by omega) rfl (Nat.le_of_ble_eq_true rfl) (fun q19 hq19 hTq19 => ?_)
    exact aw_lv [1, 2, 4, 0] rfl (M_readStep_L140_ok Y hn0 hn1 rec_M_readStep hrec_M_readStep l0 l1 l3 (2610 + (9 * (hGi h 1224 l0))) tl0 FU q19)
  · exact aw_return (pc := 88) d_M_readStep_88 rfl rfl
def M_readStep_J55 (Y : Ly) (rec_M_readStep : Nat → Int32 → Hp → Option Hp) (l0 : Nat) (l1 : Int32) (l2 : Int32) (l3 : Bool) (h : Hp) : Option Hp :=
  if (hGi h 1212 l0) = 0 then
    if l3 = true then
      if l1 = 3 then
        (M_fail Y l0 7 (hGi h 1215 l0) h).bind fun q10 =>
        M_readStep_J81 Y rec_M_readStep l0 l1 l2 l3 q10
      else
        M_readStep_J81 Y rec_M_readStep l0 l1 l2 l3 h
    else
      M_readStep_J81 Y rec_M_readStep l0 l1 l2 l3 h
  else
    M_readStep_J81 Y rec_M_readStep l0 l1 l2 l3 h
theorem M_readStep_J55_ok (Y : Ly) {n n0 : Nat} (hn0 : n0 + 1 ≤ n) (hn1 : 9 ≤ n) (rec_M_readStep : Nat → Int32 → Hp → Option Hp) (hrec_M_readStep : ∀ (x0 : Nat) (x1 : Int32) (h : Hp), isO Y 12 x0 → AM Y n0 K_M_readStep [.ref x0, .int x1] h (rec_M_readStep x0 x1 h) rV) (l0 : Nat) (l1 : Int32) (l2 : Int32) (l3 : Bool) (h : Hp) (tl0 : isO Y 12 l0) : AW Y n K_M_readStep 55 [(0, .ref l0), (1, .int l1), (2, .int l2), (3, .int (b2i l3))] [] h (M_readStep_J55 Y rec_M_readStep l0 l1 l2 l3 h) rV := by
  unfold M_readStep_J55
  refine aw_aload_n (pc := 55) d_M_readStep_55 rfl 0 rfl ?_
  refine gt_1212 (pc := 56) d_M_readStep_56 w7_39 tl0 ?_
  refine aw_if_ne (pc := 59) (tgt := 81) d_M_readStep_59 (by decide) (fun c7 => ?_) (fun c7 => ?_)
  · refine aw_iload_n (pc := 62) d_M_readStep_62 rfl 3 rfl ?_
    refine aw_beq (pc := 63) (tgt := 81) d_M_readStep_63 (by decide) (fun c8 => ?_) (fun c8 => ?_)
    · refine aw_iload_n (pc := 66) d_M_readStep_66 rfl 1 rfl ?_
      refine aw_iconst (pc := 67) (x := 3) d_M_readStep_67 (by decide) ?_
      refine aw_icmp_ne (pc := 68) (tgt := 81) d_M_readStep_68 (by decide) (fun c9 => ?_) (fun c9 => ?_)
      · refine aw_aload_n (pc := 71) d_M_readStep_71 rfl 0 rfl ?_
        refine aw_bipush (pc := 72) (x := 7) d_M_readStep_72 (by decide) ?_
        refine aw_aload_n (pc := 74) d_M_readStep_74 rfl 0 rfl ?_
        refine gt_1215 (pc := 75) d_M_readStep_75 w7_42 tl0 ?_
        refine aw_cVrV (pc := 78) (ci := 12) (T := TX12) (N := 44) (As := [.int 7, .int (hGi h 1215 l0)]) (st := []) (ok_M_fail Y l0 7 (hGi h 1215 l0) h tl0) okV_M_fail rfl (by decide) tl0 w8_30 d_M_readStep_78 rfl (by omega) rfl (Nat.le_of_ble_eq_true rfl) (fun q10 hq10 hTq10 => ?_)
        exact aw_lv [0, 1, 2, 3] rfl (M_readStep_J81_ok Y hn0 hn1 rec_M_readStep hrec_M_readStep l0 l1 l2 l3 q10 tl0)
      · exact aw_lv [0, 1, 2, 3] rfl (M_readStep_J81_ok Y hn0 hn1 rec_M_readStep hrec_M_readStep l0 l1 l2 l3 h tl0)
    · exact aw_lv [0, 1, 2, 3] rfl (M_readStep_J81_ok Y hn0 hn1 rec_M_readStep hrec_M_readStep l0 l1 l2 l3 h tl0)
  · exact aw_lv [0, 1, 2, 3] rfl (M_readStep_J81_ok Y hn0 hn1 rec_M_readStep hrec_M_readStep l0 l1 l2 l3 h tl0)
def M_readStep_J29 (Y : Ly) (rec_M_readStep : Nat → Int32 → Hp → Option Hp) (l0 : Nat) (l1 : Int32) (l2 : Int32) (l3 : Bool) (h : Hp) : Option Hp :=
  if (hGi h 1212 l0) = 0 then
    if (hGi h 1224 l0) = 30 then
      (M_fail Y l0 6 (hGi h 1215 l0) h).bind fun q6 =>
      M_readStep_J55 Y rec_M_readStep l0 l1 l2 l3 q6
    else
      M_readStep_J55 Y rec_M_readStep l0 l1 l2 l3 h
  else
    M_readStep_J55 Y rec_M_readStep l0 l1 l2 l3 h
theorem M_readStep_J29_ok (Y : Ly) {n n0 : Nat} (hn0 : n0 + 1 ≤ n) (hn1 : 9 ≤ n) (rec_M_readStep : Nat → Int32 → Hp → Option Hp) (hrec_M_readStep : ∀ (x0 : Nat) (x1 : Int32) (h : Hp), isO Y 12 x0 → AM Y n0 K_M_readStep [.ref x0, .int x1] h (rec_M_readStep x0 x1 h) rV) (l0 : Nat) (l1 : Int32) (l2 : Int32) (l3 : Bool) (h : Hp) (tl0 : isO Y 12 l0) : AW Y n K_M_readStep 29 [(0, .ref l0), (1, .int l1), (2, .int l2), (3, .int (b2i l3))] [] h (M_readStep_J29 Y rec_M_readStep l0 l1 l2 l3 h) rV := by
  unfold M_readStep_J29
  refine aw_aload_n (pc := 29) d_M_readStep_29 rfl 0 rfl ?_
  refine gt_1212 (pc := 30) d_M_readStep_30 w7_39 tl0 ?_
  refine aw_if_ne (pc := 33) (tgt := 55) d_M_readStep_33 (by decide) (fun c4 => ?_) (fun c4 => ?_)
  · refine aw_aload_n (pc := 36) d_M_readStep_36 rfl 0 rfl ?_
    refine gt_1224 (pc := 37) d_M_readStep_37 w7_51 tl0 ?_
    refine aw_bipush (pc := 40) (x := 30) d_M_readStep_40 (by decide) ?_
    refine aw_icmp_ne (pc := 42) (tgt := 55) d_M_readStep_42 (by decide) (fun c5 => ?_) (fun c5 => ?_)
    · refine aw_aload_n (pc := 45) d_M_readStep_45 rfl 0 rfl ?_
      refine aw_bipush (pc := 46) (x := 6) d_M_readStep_46 (by decide) ?_
      refine aw_aload_n (pc := 48) d_M_readStep_48 rfl 0 rfl ?_
      refine gt_1215 (pc := 49) d_M_readStep_49 w7_42 tl0 ?_
      refine aw_cVrV (pc := 52) (ci := 12) (T := TX12) (N := 44) (As := [.int 6, .int (hGi h 1215 l0)]) (st := []) (ok_M_fail Y l0 6 (hGi h 1215 l0) h tl0) okV_M_fail rfl (by decide) tl0 w8_30 d_M_readStep_52 rfl (by omega) rfl (Nat.le_of_ble_eq_true rfl) (fun q6 hq6 hTq6 => ?_)
      exact aw_lv [0, 1, 2, 3] rfl (M_readStep_J55_ok Y hn0 hn1 rec_M_readStep hrec_M_readStep l0 l1 l2 l3 q6 tl0)
    · exact aw_lv [0, 1, 2, 3] rfl (M_readStep_J55_ok Y hn0 hn1 rec_M_readStep hrec_M_readStep l0 l1 l2 l3 h tl0)
  · exact aw_lv [0, 1, 2, 3] rfl (M_readStep_J55_ok Y hn0 hn1 rec_M_readStep hrec_M_readStep l0 l1 l2 l3 h tl0)
def M_readStep_J20 (Y : Ly) (rec_M_readStep : Nat → Int32 → Hp → Option Hp) (l0 : Nat) (l1 : Int32) (l2 : Int32) (s0 : Bool) (h : Hp) : Option Hp :=
  if 0 ≤ l2 then
    M_readStep_J29 Y rec_M_readStep l0 l1 l2 s0 h
  else
    (M_amiss Y l0 h).bind fun q36 =>
    M_readStep_J29 Y rec_M_readStep l0 l1 l2 s0 q36
theorem M_readStep_J20_ok (Y : Ly) {n n0 : Nat} (hn0 : n0 + 1 ≤ n) (hn1 : 9 ≤ n) (rec_M_readStep : Nat → Int32 → Hp → Option Hp) (hrec_M_readStep : ∀ (x0 : Nat) (x1 : Int32) (h : Hp), isO Y 12 x0 → AM Y n0 K_M_readStep [.ref x0, .int x1] h (rec_M_readStep x0 x1 h) rV) (l0 : Nat) (l1 : Int32) (l2 : Int32) (s0 : Bool) (h : Hp) (tl0 : isO Y 12 l0) : AW Y n K_M_readStep 20 [(0, .ref l0), (1, .int l1), (2, .int l2)] [.int (b2i s0)] h (M_readStep_J20 Y rec_M_readStep l0 l1 l2 s0 h) rV := by
  unfold M_readStep_J20
  refine aw_istore_n (pc := 20) (lv' := [(3, .int (b2i s0)), (0, .ref l0), (1, .int l1), (2, .int l2)]) d_M_readStep_20 rfl (by decide) rfl ?_
  refine aw_iload_n (pc := 21) d_M_readStep_21 rfl 3 rfl ?_
  refine aw_if_ge (pc := 22) (tgt := 29) d_M_readStep_22 (by decide) (fun c3 => ?_) (fun c3 => ?_)
  · exact aw_lv [1, 2, 3, 0] rfl (M_readStep_J29_ok Y hn0 hn1 rec_M_readStep hrec_M_readStep l0 l1 l2 s0 h tl0)
  · refine aw_aload_n (pc := 25) d_M_readStep_25 rfl 1 rfl ?_
    refine aw_cVrV (pc := 26) (ci := 12) (T := TX12) (N := 44) (As := []) (st := []) (ok_M_amiss Y l0 h tl0) okV_M_amiss rfl (by decide) tl0 w8_135 d_M_readStep_26 rfl (by omega) rfl (Nat.le_of_ble_eq_true rfl) (fun q36 hq36 hTq36 => ?_)
    exact aw_lv [1, 2, 3, 0] rfl (M_readStep_J29_ok Y hn0 hn1 rec_M_readStep hrec_M_readStep l0 l1 l2 s0 q36 tl0)
def M_readStep_J15 (Y : Ly) (rec_M_readStep : Nat → Int32 → Hp → Option Hp) (l0 : Nat) (l1 : Int32) (l2 : Int32) (h : Hp) : Option Hp :=
  M_readStep_J20 Y rec_M_readStep l0 l1 l2 true h
theorem M_readStep_J15_ok (Y : Ly) {n n0 : Nat} (hn0 : n0 + 1 ≤ n) (hn1 : 9 ≤ n) (rec_M_readStep : Nat → Int32 → Hp → Option Hp) (hrec_M_readStep : ∀ (x0 : Nat) (x1 : Int32) (h : Hp), isO Y 12 x0 → AM Y n0 K_M_readStep [.ref x0, .int x1] h (rec_M_readStep x0 x1 h) rV) (l0 : Nat) (l1 : Int32) (l2 : Int32) (h : Hp) (tl0 : isO Y 12 l0) : AW Y n K_M_readStep 15 [(0, .ref l0), (1, .int l1), (2, .int l2)] [] h (M_readStep_J15 Y rec_M_readStep l0 l1 l2 h) rV := by
  unfold M_readStep_J15
  refine aw_iconst (pc := 15) (x := 1) d_M_readStep_15 (by decide) ?_
  refine aw_goto (pc := 16) (tgt := 20) d_M_readStep_16 (by decide) ?_
  exact aw_lv [0, 1, 2] rfl (M_readStep_J20_ok Y hn0 hn1 rec_M_readStep hrec_M_readStep l0 l1 l2 true h tl0)
def M_readStep_b (Y : Ly) (rec_M_readStep : Nat → Int32 → Hp → Option Hp) (l0 : Nat) (l1 : Int32) (h : Hp) : Option Hp :=
  (M_stepWord Y l0 h).bind fun q1 =>
  if q1 = 4 then
    M_readStep_J15 Y rec_M_readStep l0 l1 q1 h
  else
    if q1 = 5 then
      M_readStep_J15 Y rec_M_readStep l0 l1 q1 h
    else
      M_readStep_J20 Y rec_M_readStep l0 l1 q1 false h
theorem ok_M_readStep_b (Y : Ly) {n n0 : Nat} (hn0 : n0 + 1 ≤ n) (hn1 : 9 ≤ n) (rec_M_readStep : Nat → Int32 → Hp → Option Hp) (hrec_M_readStep : ∀ (x0 : Nat) (x1 : Int32) (h : Hp), isO Y 12 x0 → AM Y n0 K_M_readStep [.ref x0, .int x1] h (rec_M_readStep x0 x1 h) rV) (l0 : Nat) (l1 : Int32) (h : Hp) (t0 : isO Y 12 l0) : AM Y n K_M_readStep [.ref l0, .int l1] h (M_readStep_b Y rec_M_readStep l0 l1 h) rV := by
  refine AM.of rfl (Nat.le_of_ble_eq_true rfl) ?_
  show AW Y n K_M_readStep 0 [(0, .ref l0), (1, .int l1)] [] h (M_readStep_b Y rec_M_readStep l0 l1 h) rV
  unfold M_readStep_b
  refine aw_aload_n (pc := 0) d_M_readStep_0 rfl 0 rfl ?_
  refine aw_cVpI (pc := 1) (ci := 12) (T := TX12) (N := 44) (As := []) (st := []) (ok_M_stepWord Y l0 h t0) okV_M_stepWord rfl (by decide) t0 w8_119 d_M_readStep_1 rfl (by omega) rfl (Nat.le_of_ble_eq_true rfl) (fun q1 hq1 hTq1 => ?_)
  refine aw_istore_n (pc := 4) (lv' := [(2, .int q1), (0, .ref l0), (1, .int l1)]) d_M_readStep_4 rfl (by decide) rfl ?_
  refine aw_iload_n (pc := 5) d_M_readStep_5 rfl 0 rfl ?_
  refine aw_iconst (pc := 6) (x := 4) d_M_readStep_6 (by decide) ?_
  refine aw_icmp_eq (pc := 7) (tgt := 15) d_M_readStep_7 (by decide) (fun c2 => ?_) (fun c2 => ?_)
  · exact aw_lv [1, 2, 0] rfl (M_readStep_J15_ok Y hn0 hn1 rec_M_readStep hrec_M_readStep l0 l1 q1 h t0)
  · refine aw_iload_n (pc := 10) d_M_readStep_10 rfl 0 rfl ?_
    refine aw_iconst (pc := 11) (x := 5) d_M_readStep_11 (by decide) ?_
    refine aw_icmp_ne (pc := 12) (tgt := 19) d_M_readStep_12 (by decide) (fun c37 => ?_) (fun c37 => ?_)
    · exact aw_lv [1, 2, 0] rfl (M_readStep_J15_ok Y hn0 hn1 rec_M_readStep hrec_M_readStep l0 l1 q1 h t0)
    · refine aw_iconst (pc := 19) (x := 0) d_M_readStep_19 (by decide) ?_
      exact aw_lv [1, 2, 0] rfl (M_readStep_J20_ok Y hn0 hn1 rec_M_readStep hrec_M_readStep l0 l1 q1 false h t0)
def M_readStep (Y : Ly) : Nat → Nat → Int32 → Hp → Option Hp
  | 0, _, _, _ => none
  | d + 1, l0, l1, h => M_readStep_b Y (M_readStep Y d) l0 l1 h
theorem ok_M_readStep (Y : Ly) : ∀ (d : Nat) (l0 : Nat) (l1 : Int32) (h : Hp), isO Y 12 l0 → AM Y (9 + d) K_M_readStep [.ref l0, .int l1] h (M_readStep Y d l0 l1 h) rV
  | 0, l0, l1, h, _ => fun x hx => by cases hx
  | d + 1, l0, l1, h, t0 => ok_M_readStep_b Y (n := 9 + (d + 1)) (n0 := 9 + d) (by omega) (by omega) (M_readStep Y d) (fun x0 x1 h tx => ok_M_readStep Y d x0 x1 h tx) l0 l1 h t0
