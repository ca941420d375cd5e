/-! LastPagesModel.isDigit(I)Z -/
theorem d_M_isDigit_0 : decode prog_14_method_23_code 0 = .ok (.iload_n 0, 1) := by decide +kernel
theorem d_M_isDigit_1 : decode prog_14_method_23_code 1 = .ok (.bipush 48, 2) := by decide +kernel
theorem d_M_isDigit_3 : decode prog_14_method_23_code 3 = .ok (.if_icmp .lt 13, 3) := by decide +kernel
theorem d_M_isDigit_6 : decode prog_14_method_23_code 6 = .ok (.iload_n 0, 1) := by decide +kernel
theorem d_M_isDigit_7 : decode prog_14_method_23_code 7 = .ok (.bipush 57, 2) := by decide +kernel
theorem d_M_isDigit_9 : decode prog_14_method_23_code 9 = .ok (.if_icmp .gt 7, 3) := by decide +kernel
theorem d_M_isDigit_12 : decode prog_14_method_23_code 12 = .ok (.iconst 1, 1) := by decide +kernel
theorem d_M_isDigit_13 : decode prog_14_method_23_code 13 = .ok (.goto 4, 3) := by decide +kernel
theorem d_M_isDigit_16 : decode prog_14_method_23_code 16 = .ok (.iconst 0, 1) := by decide +kernel
theorem d_M_isDigit_17 : decode prog_14_method_23_code 17 = .ok (.ireturn, 1) := by decide +kernel
def M_isDigit (Y : Ly) (l0 : Int32) (h : Hp) : Option Bool :=
  if l0 < 48 then
    some false
  else
    if 57 < l0 then
      some false
    else
      some true
theorem ok_M_isDigit (Y : Ly) (l0 : Int32) (h : Hp) : AM Y 0 K_M_isDigit [.int l0] h (M_isDigit Y l0 h) (pZ h) := by
  refine AM.of rfl (Nat.le_of_ble_eq_true rfl) ?_
  show AW Y 0 K_M_isDigit 0 [(0, .int l0)] [] h (M_isDigit Y l0 h) (pZ h)
  unfold M_isDigit
  refine aw_iload_n (pc := 0) d_M_isDigit_0 rfl 0 rfl ?_
  refine aw_bipush (pc := 1) (x := 48) d_M_isDigit_1 (by decide) ?_
  refine aw_icmp_lt (pc := 3) (tgt := 16) d_M_isDigit_3 (by decide) (fun c1 => ?_) (fun c1 => ?_)
  · refine aw_iconst (pc := 16) (x := 0) d_M_isDigit_16 (by decide) ?_
    exact aw_zreturn (pc := 17) (b := false) d_M_isDigit_17 rfl rfl
  · refine aw_iload_n (pc := 6) d_M_isDigit_6 rfl 0 rfl ?_
    refine aw_bipush (pc := 7) (x := 57) d_M_isDigit_7 (by decide) ?_
    refine aw_icmp_gt (pc := 9) (tgt := 16) d_M_isDigit_9 (by decide) (fun c2 => ?_) (fun c2 => ?_)
    · refine aw_iconst (pc := 16) (x := 0) d_M_isDigit_16 (by decide) ?_
      exact aw_zreturn (pc := 17) (b := false) d_M_isDigit_17 rfl rfl
    · refine aw_iconst (pc := 12) (x := 1) d_M_isDigit_12 (by decide) ?_
      refine aw_goto (pc := 13) (tgt := 17) d_M_isDigit_13 (by decide) ?_
      exact aw_zreturn (pc := 17) (b := true) d_M_isDigit_17 rfl rfl
/-! LastPagesModel.isLetter(I)Z -/
theorem d_M_isLetter_0 : decode prog_14_method_22_code 0 = .ok (.iload_n 0, 1) := by decide +kernel
theorem d_M_isLetter_1 : decode prog_14_method_22_code 1 = .ok (.bipush 97, 2) := by decide +kernel
theorem d_M_isLetter_3 : decode prog_14_method_22_code 3 = .ok (.if_icmp .lt 13, 3) := by decide +kernel
theorem d_M_isLetter_6 : decode prog_14_method_22_code 6 = .ok (.iload_n 0, 1) := by decide +kernel
theorem d_M_isLetter_7 : decode prog_14_method_22_code 7 = .ok (.bipush 122, 2) := by decide +kernel
theorem d_M_isLetter_9 : decode prog_14_method_22_code 9 = .ok (.if_icmp .gt 7, 3) := by decide +kernel
theorem d_M_isLetter_12 : decode prog_14_method_22_code 12 = .ok (.iconst 1, 1) := by decide +kernel
theorem d_M_isLetter_13 : decode prog_14_method_22_code 13 = .ok (.goto 4, 3) := by decide +kernel
theorem d_M_isLetter_16 : decode prog_14_method_22_code 16 = .ok (.iconst 0, 1) := by decide +kernel
theorem d_M_isLetter_17 : decode prog_14_method_22_code 17 = .ok (.ireturn, 1) := by decide +kernel
def M_isLetter (Y : Ly) (l0 : Int32) (h : Hp) : Option Bool :=
  if l0 < 97 then
    some false
  else
    if 122 < l0 then
      some false
    else
      some true
theorem ok_M_isLetter (Y : Ly) (l0 : Int32) (h : Hp) : AM Y 0 K_M_isLetter [.int l0] h (M_isLetter Y l0 h) (pZ h) := by
  refine AM.of rfl (Nat.le_of_ble_eq_true rfl) ?_
  show AW Y 0 K_M_isLetter 0 [(0, .int l0)] [] h (M_isLetter Y l0 h) (pZ h)
  unfold M_isLetter
  refine aw_iload_n (pc := 0) d_M_isLetter_0 rfl 0 rfl ?_
  refine aw_bipush (pc := 1) (x := 97) d_M_isLetter_1 (by decide) ?_
  refine aw_icmp_lt (pc := 3) (tgt := 16) d_M_isLetter_3 (by decide) (fun c1 => ?_) (fun c1 => ?_)
  · refine aw_iconst (pc := 16) (x := 0) d_M_isLetter_16 (by decide) ?_
    exact aw_zreturn (pc := 17) (b := false) d_M_isLetter_17 rfl rfl
  · refine aw_iload_n (pc := 6) d_M_isLetter_6 rfl 0 rfl ?_
    refine aw_bipush (pc := 7) (x := 122) d_M_isLetter_7 (by decide) ?_
    refine aw_icmp_gt (pc := 9) (tgt := 16) d_M_isLetter_9 (by decide) (fun c2 => ?_) (fun c2 => ?_)
    · refine aw_iconst (pc := 16) (x := 0) d_M_isLetter_16 (by decide) ?_
      exact aw_zreturn (pc := 17) (b := false) d_M_isLetter_17 rfl rfl
    · refine aw_iconst (pc := 12) (x := 1) d_M_isLetter_12 (by decide) ?_
      refine aw_goto (pc := 13) (tgt := 17) d_M_isLetter_13 (by decide) ?_
      exact aw_zreturn (pc := 17) (b := true) d_M_isLetter_17 rfl rfl
/-! LastPagesModel.isSignByte(I)Z -/
theorem d_M_isSignByte_0 : decode prog_14_method_24_code 0 = .ok (.iload_n 1, 1) := by decide +kernel
theorem d_M_isSignByte_1 : decode prog_14_method_24_code 1 = .ok (.bipush 59, 2) := by decide +kernel
theorem d_M_isSignByte_3 : decode prog_14_method_24_code 3 = .ok (.if_icmp .eq 21, 3) := by decide +kernel
theorem d_M_isSignByte_6 : decode prog_14_method_24_code 6 = .ok (.iload_n 1, 1) := by decide +kernel
theorem d_M_isSignByte_7 : decode prog_14_method_24_code 7 = .ok (.bipush 60, 2) := by decide +kernel
theorem d_M_isSignByte_9 : decode prog_14_method_24_code 9 = .ok (.if_icmp .eq 15, 3) := by decide +kernel
theorem d_M_isSignByte_12 : decode prog_14_method_24_code 12 = .ok (.iload_n 1, 1) := by decide +kernel
theorem d_M_isSignByte_13 : decode prog_14_method_24_code 13 = .ok (.bipush 62, 2) := by decide +kernel
theorem d_M_isSignByte_15 : decode prog_14_method_24_code 15 = .ok (.if_icmp .eq 9, 3) := by decide +kernel
theorem d_M_isSignByte_18 : decode prog_14_method_24_code 18 = .ok (.iload_n 1, 1) := by decide +kernel
theorem d_M_isSignByte_19 : decode prog_14_method_24_code 19 = .ok (.bipush 61, 2) := by decide +kernel
theorem d_M_isSignByte_21 : decode prog_14_method_24_code 21 = .ok (.if_icmp .ne 7, 3) := by decide +kernel
theorem d_M_isSignByte_24 : decode prog_14_method_24_code 24 = .ok (.iconst 1, 1) := by decide +kernel
theorem d_M_isSignByte_25 : decode prog_14_method_24_code 25 = .ok (.goto 4, 3) := by decide +kernel
theorem d_M_isSignByte_28 : decode prog_14_method_24_code 28 = .ok (.iconst 0, 1) := by decide +kernel
theorem d_M_isSignByte_29 : decode prog_14_method_24_code 29 = .ok (.ireturn, 1) := by decide +kernel
def M_isSignByte (Y : Ly) (l0 : Nat) (l1 : Int32) (h : Hp) : Option Bool :=
  if l1 = 59 then
    some true
  else
    if l1 = 60 then
      some true
    else
      if l1 = 62 then
        some true
      else
        if l1 = 61 then
          some true
        else
          some false
theorem ok_M_isSignByte (Y : Ly) (l0 : Nat) (l1 : Int32) (h : Hp) (t0 : isO Y 12 l0) : AM Y 0 K_M_isSignByte [.ref l0, .int l1] h (M_isSignByte Y l0 l1 h) (pZ h) := by
  refine AM.of rfl (Nat.le_of_ble_eq_true rfl) ?_
  show AW Y 0 K_M_isSignByte 0 [(0, .ref l0), (1, .int l1)] [] h (M_isSignByte Y l0 l1 h) (pZ h)
  unfold M_isSignByte
  refine aw_iload_n (pc := 0) d_M_isSignByte_0 rfl 1 rfl ?_
  refine aw_bipush (pc := 1) (x := 59) d_M_isSignByte_1 (by decide) ?_
  refine aw_icmp_eq (pc := 3) (tgt := 24) d_M_isSignByte_3 (by decide) (fun c1 => ?_) (fun c1 => ?_)
  · refine aw_iconst (pc := 24) (x := 1) d_M_isSignByte_24 (by decide) ?_
    refine aw_goto (pc := 25) (tgt := 29) d_M_isSignByte_25 (by decide) ?_
    exact aw_zreturn (pc := 29) (b := true) d_M_isSignByte_29 rfl rfl
  · refine aw_iload_n (pc := 6) d_M_isSignByte_6 rfl 1 rfl ?_
    refine aw_bipush (pc := 7) (x := 60) d_M_isSignByte_7 (by decide) ?_
    refine aw_icmp_eq (pc := 9) (tgt := 24) d_M_isSignByte_9 (by decide) (fun c2 => ?_) (fun c2 => ?_)
    · refine aw_iconst (pc := 24) (x := 1) d_M_isSignByte_24 (by decide) ?_
      refine aw_goto (pc := 25) (tgt := 29) d_M_isSignByte_25 (by decide) ?_
      exact aw_zreturn (pc := 29) (b := true) d_M_isSignByte_29 rfl rfl
    · refine aw_iload_n (pc := 12) d_M_isSignByte_12 rfl 1 rfl ?_
      refine aw_bipush (pc := 13) (x := 62) d_M_isSignByte_13 (by decide) ?_
      refine aw_icmp_eq (pc := 15) (tgt := 24) d_M_isSignByte_15 (by decide) (fun c3 => ?_) (fun c3 => ?_)
      · refine aw_iconst (pc := 24) (x := 1) d_M_isSignByte_24 (by decide) ?_
        refine aw_goto (pc := 25) (tgt := 29) d_M_isSignByte_25 (by decide) ?_
        exact aw_zreturn (pc := 29) (b := true) d_M_isSignByte_29 rfl rfl
      · refine aw_iload_n (pc := 18) d_M_isSignByte_18 rfl 1 rfl ?_
        refine aw_bipush (pc := 19) (x := 61) d_M_isSignByte_19 (by decide) ?_
        refine aw_icmp_ne (pc := 21) (tgt := 28) d_M_isSignByte_21 (by decide) (fun c4 => ?_) (fun c4 => ?_)
        · refine aw_iconst (pc := 24) (x := 1) d_M_isSignByte_24 (by decide) ?_
          refine aw_goto (pc := 25) (tgt := 29) d_M_isSignByte_25 (by decide) ?_
          exact aw_zreturn (pc := 29) (b := true) d_M_isSignByte_29 rfl rfl
        · refine aw_iconst (pc := 28) (x := 0) d_M_isSignByte_28 (by decide) ?_
          exact aw_zreturn (pc := 29) (b := false) d_M_isSignByte_29 rfl rfl
/-! LastPagesModel.look2(I)I -/
theorem d_M_look2_0 : decode prog_14_method_21_code 0 = .ok (.iload_n 1, 1) := by decide +kernel
theorem d_M_look2_1 : decode prog_14_method_21_code 1 = .ok (.aload_n 0, 1) := by decide +kernel
theorem d_M_look2_2 : decode prog_14_method_21_code 2 = .ok (.getfield 121, 3) := by decide +kernel
theorem d_M_look2_5 : decode prog_14_method_21_code 5 = .ok (.if_icmp .ge 16, 3) := by decide +kernel
theorem d_M_look2_8 : decode prog_14_method_21_code 8 = .ok (.aload_n 0, 1) := by decide +kernel
theorem d_M_look2_9 : decode prog_14_method_21_code 9 = .ok (.getfield 24, 3) := by decide +kernel
theorem d_M_look2_12 : decode prog_14_method_21_code 12 = .ok (.iload_n 1, 1) := by decide +kernel
theorem d_M_look2_13 : decode prog_14_method_21_code 13 = .ok (.baload, 1) := by decide +kernel
theorem d_M_look2_14 : decode prog_14_method_21_code 14 = .ok (.sipush 255, 3) := by decide +kernel
theorem d_M_look2_17 : decode prog_14_method_21_code 17 = .ok (.iand, 1) := by decide +kernel
theorem d_M_look2_18 : decode prog_14_method_21_code 18 = .ok (.goto 4, 3) := by decide +kernel
theorem d_M_look2_21 : decode prog_14_method_21_code 21 = .ok (.iconst 0, 1) := by decide +kernel
theorem d_M_look2_22 : decode prog_14_method_21_code 22 = .ok (.ireturn, 1) := by decide +kernel
def M_look2 (Y : Ly) (l0 : Nat) (l1 : Int32) (h : Hp) : Option Int32 :=
  if (hGi h 1209 l0) ≤ l1 then
    some 0
  else
    if inB l1 (lnY Y (hGr h 1207 l0)) = true then
      some ((hAi h (hGr h 1207 l0) (Int32.toNatClampNeg l1)) &&& 255)
    else none
theorem ok_M_look2 (Y : Ly) (l0 : Nat) (l1 : Int32) (h : Hp) (t0 : isO Y 12 l0) : AM Y 0 K_M_look2 [.ref l0, .int l1] h (M_look2 Y l0 l1 h) (pI h) := by
  refine AM.of rfl (Nat.le_of_ble_eq_true rfl) ?_
  show AW Y 0 K_M_look2 0 [(0, .ref l0), (1, .int l1)] [] h (M_look2 Y l0 l1 h) (pI h)
  unfold M_look2
  refine aw_iload_n (pc := 0) d_M_look2_0 rfl 1 rfl ?_
  refine aw_aload_n (pc := 1) d_M_look2_1 rfl 0 rfl ?_
  refine gt_1209 (pc := 2) d_M_look2_2 w7_36 t0 ?_
  refine aw_icmp_ge (pc := 5) (tgt := 21) d_M_look2_5 (by decide) (fun c1 => ?_) (fun c1 => ?_)
  · refine aw_iconst (pc := 21) (x := 0) d_M_look2_21 (by decide) ?_
    exact aw_ireturn (pc := 22) d_M_look2_22 rfl rfl
  · refine aw_aload_n (pc := 8) d_M_look2_8 rfl 0 rfl ?_
    refine gt_1207 (pc := 9) d_M_look2_9 w7_34 t0 (fun tt2 => ?_)
    refine aw_iload_n (pc := 12) d_M_look2_12 rfl 1 rfl ?_
    refine aw_baload (pc := 13) d_M_look2_13 tt2 (fun c3 => ?_)
    refine aw_sipush (pc := 14) (x := 255) d_M_look2_14 (by decide) ?_
    refine aw_iand (pc := 17) d_M_look2_17 ?_
    refine aw_goto (pc := 18) (tgt := 22) d_M_look2_18 (by decide) ?_
    exact aw_ireturn (pc := 22) d_M_look2_22 rfl rfl
/-! LastPagesModel.advance()V -/
theorem d_M_advance_0 : decode prog_14_method_25_code 0 = .ok (.aload_n 0, 1) := by decide +kernel
theorem d_M_advance_1 : decode prog_14_method_25_code 1 = .ok (.aload_n 0, 1) := by decide +kernel
theorem d_M_advance_2 : decode prog_14_method_25_code 2 = .ok (.getfield 124, 3) := by decide +kernel
theorem d_M_advance_5 : decode prog_14_method_25_code 5 = .ok (.putfield 127, 3) := by decide +kernel
theorem d_M_advance_8 : decode prog_14_method_25_code 8 = .ok (.aload_n 0, 1) := by decide +kernel
theorem d_M_advance_9 : decode prog_14_method_25_code 9 = .ok (.getfield 127, 3) := by decide +kernel
theorem d_M_advance_12 : decode prog_14_method_25_code 12 = .ok (.aload_n 0, 1) := by decide +kernel
theorem d_M_advance_13 : decode prog_14_method_25_code 13 = .ok (.getfield 121, 3) := by decide +kernel
theorem d_M_advance_16 : decode prog_14_method_25_code 16 = .ok (.if_icmp .ge 42, 3) := by decide +kernel
theorem d_M_advance_19 : decode prog_14_method_25_code 19 = .ok (.aload_n 0, 1) := by decide +kernel
theorem d_M_advance_20 : decode prog_14_method_25_code 20 = .ok (.aload_n 0, 1) := by decide +kernel
theorem d_M_advance_21 : decode prog_14_method_25_code 21 = .ok (.getfield 127, 3) := by decide +kernel
theorem d_M_advance_24 : decode prog_14_method_25_code 24 = .ok (.invokevirtual 130, 3) := by decide +kernel
theorem d_M_advance_27 : decode prog_14_method_25_code 27 = .ok (.bipush 10, 2) := by decide +kernel
theorem d_M_advance_29 : decode prog_14_method_25_code 29 = .ok (.if_icmp .eq 16, 3) := by decide +kernel
theorem d_M_advance_32 : decode prog_14_method_25_code 32 = .ok (.aload_n 0, 1) := by decide +kernel
theorem d_M_advance_33 : decode prog_14_method_25_code 33 = .ok (.aload_n 0, 1) := by decide +kernel
theorem d_M_advance_34 : decode prog_14_method_25_code 34 = .ok (.getfield 127, 3) := by decide +kernel
theorem d_M_advance_37 : decode prog_14_method_25_code 37 = .ok (.invokevirtual 130, 3) := by decide +kernel
theorem d_M_advance_40 : decode prog_14_method_25_code 40 = .ok (.bipush 32, 2) := by decide +kernel
theorem d_M_advance_42 : decode prog_14_method_25_code 42 = .ok (.if_icmp .ne 16, 3) := by decide +kernel
theorem d_M_advance_45 : decode prog_14_method_25_code 45 = .ok (.aload_n 0, 1) := by decide +kernel
theorem d_M_advance_46 : decode prog_14_method_25_code 46 = .ok (.dup, 1) := by decide +kernel
theorem d_M_advance_47 : decode prog_14_method_25_code 47 = .ok (.getfield 127, 3) := by decide +kernel
theorem d_M_advance_50 : decode prog_14_method_25_code 50 = .ok (.iconst 1, 1) := by decide +kernel
theorem d_M_advance_51 : decode prog_14_method_25_code 51 = .ok (.iadd, 1) := by decide +kernel
theorem d_M_advance_52 : decode prog_14_method_25_code 52 = .ok (.putfield 127, 3) := by decide +kernel
theorem d_M_advance_55 : decode prog_14_method_25_code 55 = .ok (.goto (-47), 3) := by decide +kernel
theorem d_M_advance_58 : decode prog_14_method_25_code 58 = .ok (.aload_n 0, 1) := by decide +kernel
theorem d_M_advance_59 : decode prog_14_method_25_code 59 = .ok (.aload_n 0, 1) := by decide +kernel
theorem d_M_advance_60 : decode prog_14_method_25_code 60 = .ok (.getfield 127, 3) := by decide +kernel
theorem d_M_advance_63 : decode prog_14_method_25_code 63 = .ok (.putfield 124, 3) := by decide +kernel
theorem d_M_advance_66 : decode prog_14_method_25_code 66 = .ok (.aload_n 0, 1) := by decide +kernel
theorem d_M_advance_67 : decode prog_14_method_25_code 67 = .ok (.getfield 127, 3) := by decide +kernel
theorem d_M_advance_70 : decode prog_14_method_25_code 70 = .ok (.aload_n 0, 1) := by decide +kernel
theorem d_M_advance_71 : decode prog_14_method_25_code 71 = .ok (.getfield 121, 3) := by decide +kernel
theorem d_M_advance_74 : decode prog_14_method_25_code 74 = .ok (.if_icmp .lt 9, 3) := by decide +kernel
theorem d_M_advance_77 : decode prog_14_method_25_code 77 = .ok (.aload_n 0, 1) := by decide +kernel
theorem d_M_advance_78 : decode prog_14_method_25_code 78 = .ok (.iconst 0, 1) := by decide +kernel
theorem d_M_advance_79 : decode prog_14_method_25_code 79 = .ok (.putfield 133, 3) := by decide +kernel
theorem d_M_advance_82 : decode prog_14_method_25_code 82 = .ok (.return_, 1) := by decide +kernel
theorem d_M_advance_83 : decode prog_14_method_25_code 83 = .ok (.aload_n 0, 1) := by decide +kernel
theorem d_M_advance_84 : decode prog_14_method_25_code 84 = .ok (.aload_n 0, 1) := by decide +kernel
theorem d_M_advance_85 : decode prog_14_method_25_code 85 = .ok (.getfield 127, 3) := by decide +kernel
theorem d_M_advance_88 : decode prog_14_method_25_code 88 = .ok (.invokevirtual 130, 3) := by decide +kernel
theorem d_M_advance_91 : decode prog_14_method_25_code 91 = .ok (.istore_n 1, 1) := by decide +kernel
theorem d_M_advance_92 : decode prog_14_method_25_code 92 = .ok (.iload_n 1, 1) := by decide +kernel
theorem d_M_advance_93 : decode prog_14_method_25_code 93 = .ok (.invokestatic 136, 3) := by decide +kernel
theorem d_M_advance_96 : decode prog_14_method_25_code 96 = .ok (.ifCond .eq 102, 3) := by decide +kernel
theorem d_M_advance_99 : decode prog_14_method_25_code 99 = .ok (.aload_n 0, 1) := by decide +kernel
theorem d_M_advance_100 : decode prog_14_method_25_code 100 = .ok (.iconst 1, 1) := by decide +kernel
theorem d_M_advance_101 : decode prog_14_method_25_code 101 = .ok (.putfield 133, 3) := by decide +kernel
theorem d_M_advance_104 : decode prog_14_method_25_code 104 = .ok (.aload_n 0, 1) := by decide +kernel
theorem d_M_advance_105 : decode prog_14_method_25_code 105 = .ok (.lconst 0, 1) := by decide +kernel
theorem d_M_advance_106 : decode prog_14_method_25_code 106 = .ok (.putfield 139, 3) := by decide +kernel
theorem d_M_advance_109 : decode prog_14_method_25_code 109 = .ok (.aload_n 0, 1) := by decide +kernel
theorem d_M_advance_110 : decode prog_14_method_25_code 110 = .ok (.aload_n 0, 1) := by decide +kernel
theorem d_M_advance_111 : decode prog_14_method_25_code 111 = .ok (.getfield 124, 3) := by decide +kernel
theorem d_M_advance_114 : decode prog_14_method_25_code 114 = .ok (.invokevirtual 130, 3) := by decide +kernel
theorem d_M_advance_117 : decode prog_14_method_25_code 117 = .ok (.invokestatic 136, 3) := by decide +kernel
theorem d_M_advance_120 : decode prog_14_method_25_code 120 = .ok (.ifCond .eq 62, 3) := by decide +kernel
theorem d_M_advance_123 : decode prog_14_method_25_code 123 = .ok (.aload_n 0, 1) := by decide +kernel
theorem d_M_advance_124 : decode prog_14_method_25_code 124 = .ok (.aload_n 0, 1) := by decide +kernel
theorem d_M_advance_125 : decode prog_14_method_25_code 125 = .ok (.getfield 124, 3) := by decide +kernel
theorem d_M_advance_128 : decode prog_14_method_25_code 128 = .ok (.aload_n 0, 1) := by decide +kernel
theorem d_M_advance_129 : decode prog_14_method_25_code 129 = .ok (.getfield 127, 3) := by decide +kernel
theorem d_M_advance_132 : decode prog_14_method_25_code 132 = .ok (.isub, 1) := by decide +kernel
theorem d_M_advance_133 : decode prog_14_method_25_code 133 = .ok (.bipush 8, 2) := by decide +kernel
theorem d_M_advance_135 : decode prog_14_method_25_code 135 = .ok (.if_icmp .ge 28, 3) := by decide +kernel
theorem d_M_advance_138 : decode prog_14_method_25_code 138 = .ok (.aload_n 0, 1) := by decide +kernel
theorem d_M_advance_139 : decode prog_14_method_25_code 139 = .ok (.getfield 139, 3) := by decide +kernel
theorem d_M_advance_142 : decode prog_14_method_25_code 142 = .ok (.ldc2_w 142, 3) := by decide +kernel
theorem d_M_advance_145 : decode prog_14_method_25_code 145 = .ok (.lmul, 1) := by decide +kernel
theorem d_M_advance_146 : decode prog_14_method_25_code 146 = .ok (.aload_n 0, 1) := by decide +kernel
theorem d_M_advance_147 : decode prog_14_method_25_code 147 = .ok (.aload_n 0, 1) := by decide +kernel
theorem d_M_advance_148 : decode prog_14_method_25_code 148 = .ok (.getfield 124, 3) := by decide +kernel
theorem d_M_advance_151 : decode prog_14_method_25_code 151 = .ok (.invokevirtual 130, 3) := by decide +kernel
theorem d_M_advance_154 : decode prog_14_method_25_code 154 = .ok (.i2l, 1) := by decide +kernel
theorem d_M_advance_155 : decode prog_14_method_25_code 155 = .ok (.ladd, 1) := by decide +kernel
theorem d_M_advance_156 : decode prog_14_method_25_code 156 = .ok (.ldc2_w 144, 3) := by decide +kernel
theorem d_M_advance_159 : decode prog_14_method_25_code 159 = .ok (.lsub, 1) := by decide +kernel
theorem d_M_advance_160 : decode prog_14_method_25_code 160 = .ok (.goto 6, 3) := by decide +kernel
theorem d_M_advance_163 : decode prog_14_method_25_code 163 = .ok (.ldc2_w 109, 3) := by decide +kernel
theorem d_M_advance_166 : decode prog_14_method_25_code 166 = .ok (.putfield 139, 3) := by decide +kernel
theorem d_M_advance_169 : decode prog_14_method_25_code 169 = .ok (.aload_n 0, 1) := by decide +kernel
theorem d_M_advance_170 : decode prog_14_method_25_code 170 = .ok (.dup, 1) := by decide +kernel
theorem d_M_advance_171 : decode prog_14_method_25_code 171 = .ok (.getfield 124, 3) := by decide +kernel
theorem d_M_advance_174 : decode prog_14_method_25_code 174 = .ok (.iconst 1, 1) := by decide +kernel
theorem d_M_advance_175 : decode prog_14_method_25_code 175 = .ok (.iadd, 1) := by decide +kernel
theorem d_M_advance_176 : decode prog_14_method_25_code 176 = .ok (.putfield 124, 3) := by decide +kernel
theorem d_M_advance_179 : decode prog_14_method_25_code 179 = .ok (.goto (-70), 3) := by decide +kernel
theorem d_M_advance_182 : decode prog_14_method_25_code 182 = .ok (.aload_n 0, 1) := by decide +kernel
theorem d_M_advance_183 : decode prog_14_method_25_code 183 = .ok (.aload_n 0, 1) := by decide +kernel
theorem d_M_advance_184 : decode prog_14_method_25_code 184 = .ok (.getfield 124, 3) := by decide +kernel
theorem d_M_advance_187 : decode prog_14_method_25_code 187 = .ok (.aload_n 0, 1) := by decide +kernel
theorem d_M_advance_188 : decode prog_14_method_25_code 188 = .ok (.getfield 127, 3) := by decide +kernel
theorem d_M_advance_191 : decode prog_14_method_25_code 191 = .ok (.isub, 1) := by decide +kernel
theorem d_M_advance_192 : decode prog_14_method_25_code 192 = .ok (.putfield 146, 3) := by decide +kernel
theorem d_M_advance_195 : decode prog_14_method_25_code 195 = .ok (.goto 135, 3) := by decide +kernel
theorem d_M_advance_198 : decode prog_14_method_25_code 198 = .ok (.iload_n 1, 1) := by decide +kernel
theorem d_M_advance_199 : decode prog_14_method_25_code 199 = .ok (.invokestatic 149, 3) := by decide +kernel
theorem d_M_advance_202 : decode prog_14_method_25_code 202 = .ok (.ifCond .eq 96, 3) := by decide +kernel
theorem d_M_advance_205 : decode prog_14_method_25_code 205 = .ok (.aload_n 0, 1) := by decide +kernel
theorem d_M_advance_206 : decode prog_14_method_25_code 206 = .ok (.iconst 0, 1) := by decide +kernel
theorem d_M_advance_207 : decode prog_14_method_25_code 207 = .ok (.putfield 152, 3) := by decide +kernel
theorem d_M_advance_210 : decode prog_14_method_25_code 210 = .ok (.aload_n 0, 1) := by decide +kernel
theorem d_M_advance_211 : decode prog_14_method_25_code 211 = .ok (.aload_n 0, 1) := by decide +kernel
theorem d_M_advance_212 : decode prog_14_method_25_code 212 = .ok (.getfield 124, 3) := by decide +kernel
theorem d_M_advance_215 : decode prog_14_method_25_code 215 = .ok (.invokevirtual 130, 3) := by decide +kernel
theorem d_M_advance_218 : decode prog_14_method_25_code 218 = .ok (.invokestatic 149, 3) := by decide +kernel
theorem d_M_advance_221 : decode prog_14_method_25_code 221 = .ok (.ifCond .eq 52, 3) := by decide +kernel
theorem d_M_advance_224 : decode prog_14_method_25_code 224 = .ok (.aload_n 0, 1) := by decide +kernel
theorem d_M_advance_225 : decode prog_14_method_25_code 225 = .ok (.getfield 124, 3) := by decide +kernel
theorem d_M_advance_228 : decode prog_14_method_25_code 228 = .ok (.aload_n 0, 1) := by decide +kernel
theorem d_M_advance_229 : decode prog_14_method_25_code 229 = .ok (.getfield 127, 3) := by decide +kernel
theorem d_M_advance_232 : decode prog_14_method_25_code 232 = .ok (.isub, 1) := by decide +kernel
theorem d_M_advance_233 : decode prog_14_method_25_code 233 = .ok (.iconst 4, 1) := by decide +kernel
theorem d_M_advance_234 : decode prog_14_method_25_code 234 = .ok (.if_icmp .ge 26, 3) := by decide +kernel
theorem d_M_advance_237 : decode prog_14_method_25_code 237 = .ok (.aload_n 0, 1) := by decide +kernel
theorem d_M_advance_238 : decode prog_14_method_25_code 238 = .ok (.bipush 10, 2) := by decide +kernel
theorem d_M_advance_240 : decode prog_14_method_25_code 240 = .ok (.aload_n 0, 1) := by decide +kernel
theorem d_M_advance_241 : decode prog_14_method_25_code 241 = .ok (.getfield 152, 3) := by decide +kernel
theorem d_M_advance_244 : decode prog_14_method_25_code 244 = .ok (.imul, 1) := by decide +kernel
theorem d_M_advance_245 : decode prog_14_method_25_code 245 = .ok (.aload_n 0, 1) := by decide +kernel
theorem d_M_advance_246 : decode prog_14_method_25_code 246 = .ok (.aload_n 0, 1) := by decide +kernel
theorem d_M_advance_247 : decode prog_14_method_25_code 247 = .ok (.getfield 124, 3) := by decide +kernel
theorem d_M_advance_250 : decode prog_14_method_25_code 250 = .ok (.invokevirtual 130, 3) := by decide +kernel
theorem d_M_advance_253 : decode prog_14_method_25_code 253 = .ok (.iadd, 1) := by decide +kernel
theorem d_M_advance_254 : decode prog_14_method_25_code 254 = .ok (.bipush 48, 2) := by decide +kernel
theorem d_M_advance_256 : decode prog_14_method_25_code 256 = .ok (.isub, 1) := by decide +kernel
theorem d_M_advance_257 : decode prog_14_method_25_code 257 = .ok (.putfield 152, 3) := by decide +kernel
theorem d_M_advance_260 : decode prog_14_method_25_code 260 = .ok (.aload_n 0, 1) := by decide +kernel
theorem d_M_advance_261 : decode prog_14_method_25_code 261 = .ok (.dup, 1) := by decide +kernel
theorem d_M_advance_262 : decode prog_14_method_25_code 262 = .ok (.getfield 124, 3) := by decide +kernel
theorem d_M_advance_265 : decode prog_14_method_25_code 265 = .ok (.iconst 1, 1) := by decide +kernel
theorem d_M_advance_266 : decode prog_14_method_25_code 266 = .ok (.iadd, 1) := by decide +kernel
theorem d_M_advance_267 : decode prog_14_method_25_code 267 = .ok (.putfield 124, 3) := by decide +kernel
theorem d_M_advance_270 : decode prog_14_method_25_code 270 = .ok (.goto (-60), 3) := by decide +kernel
theorem d_M_advance_273 : decode prog_14_method_25_code 273 = .ok (.aload_n 0, 1) := by decide +kernel
theorem d_M_advance_274 : decode prog_14_method_25_code 274 = .ok (.aload_n 0, 1) := by decide +kernel
theorem d_M_advance_275 : decode prog_14_method_25_code 275 = .ok (.getfield 124, 3) := by decide +kernel
theorem d_M_advance_278 : decode prog_14_method_25_code 278 = .ok (.aload_n 0, 1) := by decide +kernel
theorem d_M_advance_279 : decode prog_14_method_25_code 279 = .ok (.getfield 127, 3) := by decide +kernel
theorem d_M_advance_282 : decode prog_14_method_25_code 282 = .ok (.isub, 1) := by decide +kernel
theorem d_M_advance_283 : decode prog_14_method_25_code 283 = .ok (.iconst 4, 1) := by decide +kernel
theorem d_M_advance_284 : decode prog_14_method_25_code 284 = .ok (.if_icmp .le 7, 3) := by decide +kernel
theorem d_M_advance_287 : decode prog_14_method_25_code 287 = .ok (.iconst 4, 1) := by decide +kernel
theorem d_M_advance_288 : decode prog_14_method_25_code 288 = .ok (.goto 4, 3) := by decide +kernel
theorem d_M_advance_291 : decode prog_14_method_25_code 291 = .ok (.iconst 2, 1) := by decide +kernel
theorem d_M_advance_292 : decode prog_14_method_25_code 292 = .ok (.putfield 133, 3) := by decide +kernel
theorem d_M_advance_295 : decode prog_14_method_25_code 295 = .ok (.goto 35, 3) := by decide +kernel
theorem d_M_advance_298 : decode prog_14_method_25_code 298 = .ok (.aload_n 0, 1) := by decide +kernel
theorem d_M_advance_299 : decode prog_14_method_25_code 299 = .ok (.aload_n 0, 1) := by decide +kernel
theorem d_M_advance_300 : decode prog_14_method_25_code 300 = .ok (.getfield 127, 3) := by decide +kernel
theorem d_M_advance_303 : decode prog_14_method_25_code 303 = .ok (.iconst 1, 1) := by decide +kernel
theorem d_M_advance_304 : decode prog_14_method_25_code 304 = .ok (.iadd, 1) := by decide +kernel
theorem d_M_advance_305 : decode prog_14_method_25_code 305 = .ok (.putfield 124, 3) := by decide +kernel
theorem d_M_advance_308 : decode prog_14_method_25_code 308 = .ok (.aload_n 0, 1) := by decide +kernel
theorem d_M_advance_309 : decode prog_14_method_25_code 309 = .ok (.iload_n 1, 1) := by decide +kernel
theorem d_M_advance_310 : decode prog_14_method_25_code 310 = .ok (.putfield 152, 3) := by decide +kernel
theorem d_M_advance_313 : decode prog_14_method_25_code 313 = .ok (.aload_n 0, 1) := by decide +kernel
theorem d_M_advance_314 : decode prog_14_method_25_code 314 = .ok (.aload_n 0, 1) := by decide +kernel
theorem d_M_advance_315 : decode prog_14_method_25_code 315 = .ok (.iload_n 1, 1) := by decide +kernel
theorem d_M_advance_316 : decode prog_14_method_25_code 316 = .ok (.invokevirtual 155, 3) := by decide +kernel
theorem d_M_advance_319 : decode prog_14_method_25_code 319 = .ok (.ifCond .eq 7, 3) := by decide +kernel
theorem d_M_advance_322 : decode prog_14_method_25_code 322 = .ok (.iconst 3, 1) := by decide +kernel
theorem d_M_advance_323 : decode prog_14_method_25_code 323 = .ok (.goto 4, 3) := by decide +kernel
theorem d_M_advance_326 : decode prog_14_method_25_code 326 = .ok (.iconst 4, 1) := by decide +kernel
theorem d_M_advance_327 : decode prog_14_method_25_code 327 = .ok (.putfield 133, 3) := by decide +kernel
theorem d_M_advance_330 : decode prog_14_method_25_code 330 = .ok (.return_, 1) := by decide +kernel
def M_advance_L109 (Y : Ly) (l0 : Nat) : Nat → Hp → Option Hp
  | 0, _ => none
  | F + 1, h =>
    (M_look2 Y l0 (hGi h 1216 l0) h).bind fun q10 =>
    (M_isLetter Y q10 h).bind fun q11 =>
    if q11 = true then
      if 8 ≤ ((hGi h 1216 l0) - (hGi h 1215 l0)) then
        letH (hSl h 1219 l0 (-1)) fun h14 =>
        letH (hSi h14 1216 l0 ((hGi h14 1216 l0) + 1)) fun h15 =>
        M_advance_L109 Y l0 F h15
      else
        (M_look2 Y l0 (hGi h 1216 l0) h).bind fun q16 =>
        letH (hSl h 1219 l0 ((((hGl h 1219 l0) * 32) + (Int32.toInt64 q16)) - 96)) fun h17 =>
        letH (hSi h17 1216 l0 ((hGi h17 1216 l0) + 1)) fun h18 =>
        M_advance_L109 Y l0 F h18
    else
      letH (hSi h 1218 l0 ((hGi h 1216 l0) - (hGi h 1215 l0))) fun h19 =>
      some h19
theorem M_advance_L109_ok (Y : Ly) (l0 : Nat) (tl0 : isO Y 12 l0) : ∀ (F : Nat) (h : Hp), AW Y 1 K_M_advance 109 [(0, .ref l0)] [] h (M_advance_L109 Y l0 F h) rV := by
  intro F
  induction F with
  | zero =>
    intro h
    exact aw_none
  | succ F ih =>
    intro h
    unfold M_advance_L109
    refine aw_aload_n (pc := 109) d_M_advance_109 rfl 0 rfl ?_
    refine aw_aload_n (pc := 110) d_M_advance_110 rfl 0 rfl ?_
    refine gt_1216 (pc := 111) d_M_advance_111 w7_43 tl0 ?_
    refine aw_cVpI (pc := 114) (ci := 12) (T := TX12) (N := 44) (As := [.int (hGi h 1216 l0)]) (st := []) (ok_M_look2 Y l0 (hGi h 1216 l0) h tl0) okV_M_look2 rfl (by decide) tl0 w7_228 d_M_advance_114 rfl (Nat.le_of_ble_eq_true rfl) rfl (Nat.le_of_ble_eq_true rfl) (fun q10 hq10 hTq10 => ?_)
    refine aw_cSpZ (pc := 117) (As := [.int q10]) (st := []) (ok_M_isLetter Y q10 h) okS_M_isLetter w7_232 d_M_advance_117 rfl (Nat.le_of_ble_eq_true rfl) rfl (Nat.le_of_ble_eq_true rfl) (fun q11 hq11 hTq11 => ?_)
    refine aw_beq (pc := 120) (tgt := 182) d_M_advance_120 (by decide) (fun c12 => ?_) (fun c12 => ?_)
    · refine aw_aload_n (pc := 123) d_M_advance_123 rfl 0 rfl ?_
      refine aw_aload_n (pc := 124) d_M_advance_124 rfl 0 rfl ?_
      refine gt_1216 (pc := 125) d_M_advance_125 w7_43 tl0 ?_
      refine aw_aload_n (pc := 128) d_M_advance_128 rfl 0 rfl ?_
      refine gt_1215 (pc := 129) d_M_advance_129 w7_42 tl0 ?_
      refine aw_isub (pc := 132) d_M_advance_132 ?_
      refine aw_bipush (pc := 133) (x := 8) d_M_advance_133 (by decide) ?_
      refine aw_icmp_ge (pc := 135) (tgt := 163) d_M_advance_135 (by decide) (fun c13 => ?_) (fun c13 => ?_)
      · refine aw_ldc2 (pc := 163) d_M_advance_163 w7_199 ?_
        refine pt_1219 (pc := 166) d_M_advance_166 w7_46 tl0 ?_
        refine aw_letH (fun h14 => ?_)
        refine aw_aload_n (pc := 169) d_M_advance_169 rfl 0 rfl ?_
        refine aw_dup (pc := 170) d_M_advance_170 rfl ?_
        refine gt_1216 (pc := 171) d_M_advance_171 w7_43 tl0 ?_
        refine aw_iconst (pc := 174) (x := 1) d_M_advance_174 (by decide) ?_
        refine aw_iadd (pc := 175) d_M_advance_175 ?_
        refine pt_1216 (pc := 176) d_M_advance_176 w7_43 tl0 ?_
        refine aw_letH (fun h15 => ?_)
        refine aw_goto (pc := 179) (tgt := 109) d_M_advance_179 (by decide) ?_
        exact aw_lv [0] rfl (ih h15)
      · refine aw_aload_n (pc := 138) d_M_advance_138 rfl 0 rfl ?_
        refine gt_1219 (pc := 139) d_M_advance_139 w7_46 tl0 ?_
        refine aw_ldc2 (pc := 142) d_M_advance_142 w7_235 ?_
        refine aw_lmul (pc := 145) d_M_advance_145 ?_
        refine aw_aload_n (pc := 146) d_M_advance_146 rfl 0 rfl ?_
        refine aw_aload_n (pc := 147) d_M_advance_147 rfl 0 rfl ?_
        refine gt_1216 (pc := 148) d_M_advance_148 w7_43 tl0 ?_
        refine aw_cVpI (pc := 151) (ci := 12) (T := TX12) (N := 44) (As := [.int (hGi h 1216 l0)]) (st := [.long ((hGl h 1219 l0) * 32), .ref l0]) (ok_M_look2 Y l0 (hGi h 1216 l0) h tl0) okV_M_look2 rfl (by decide) tl0 w7_228 d_M_advance_151 rfl (Nat.le_of_ble_eq_true rfl) rfl (Nat.le_of_ble_eq_true rfl) (fun q16 hq16 hTq16 => ?_)
        refine aw_i2l (pc := 154) d_M_advance_154 ?_
        refine aw_ladd (pc := 155) d_M_advance_155 ?_
        refine aw_ldc2 (pc := 156) d_M_advance_156 w7_236 ?_
        refine aw_lsub (pc := 159) d_M_advance_159 ?_
        refine aw_goto (pc := 160) (tgt := 166) d_M_advance_160 (by decide) ?_
        refine pt_1219 (pc := 166) d_M_advance_166 w7_46 tl0 ?_
        refine aw_letH (fun h17 => ?_)
        refine aw_aload_n (pc := 169) d_M_advance_169 rfl 0 rfl ?_
        refine aw_dup (pc := 170) d_M_advance_170 rfl ?_
        refine gt_1216 (pc := 171) d_M_advance_171 w7_43 tl0 ?_
        refine aw_iconst (pc := 174) (x := 1) d_M_advance_174 (by decide) ?_
        refine aw_iadd (pc := 175) d_M_advance_175 ?_
        refine pt_1216 (pc := 176) d_M_advance_176 w7_43 tl0 ?_
        refine aw_letH (fun h18 => ?_)
        refine aw_goto (pc := 179) (tgt := 109) d_M_advance_179 (by decide) ?_
        exact aw_lv [0] rfl (ih h18)
    · refine aw_aload_n (pc := 182) d_M_advance_182 rfl 0 rfl ?_
      refine aw_aload_n (pc := 183) d_M_advance_183 rfl 0 rfl ?_
      refine gt_1216 (pc := 184) d_M_advance_184 w7_43 tl0 ?_
      refine aw_aload_n (pc := 187) d_M_advance_187 rfl 0 rfl ?_
      refine gt_1215 (pc := 188) d_M_advance_188 w7_42 tl0 ?_
      refine aw_isub (pc := 191) d_M_advance_191 ?_
      refine pt_1218 (pc := 192) d_M_advance_192 w7_45 tl0 ?_
      refine aw_letH (fun h19 => ?_)
      refine aw_goto (pc := 195) (tgt := 330) d_M_advance_195 (by decide) ?_
      exact aw_return (pc := 330) d_M_advance_330 rfl rfl
def M_advance_L210 (Y : Ly) (l0 : Nat) : Nat → Hp → Option Hp
  | 0, _ => none
  | F + 1, h =>
    (M_look2 Y l0 (hGi h 1216 l0) h).bind fun q23 =>
    (M_isDigit Y q23 h).bind fun q24 =>
    if q24 = true then
      if 4 ≤ ((hGi h 1216 l0) - (hGi h 1215 l0)) then
        letH (hSi h 1216 l0 ((hGi h 1216 l0) + 1)) fun h27 =>
        M_advance_L210 Y l0 F h27
      else
        (M_look2 Y l0 (hGi h 1216 l0) h).bind fun q28 =>
        letH (hSi h 1217 l0 (((10 * (hGi h 1217 l0)) + q28) - 48)) fun h29 =>
        letH (hSi h29 1216 l0 ((hGi h29 1216 l0) + 1)) fun h30 =>
        M_advance_L210 Y l0 F h30
    else
      if ((hGi h 1216 l0) - (hGi h 1215 l0)) ≤ 4 then
        letH (hSi h 1214 l0 2) fun h32 =>
        some h32
      else
        letH (hSi h 1214 l0 4) fun h33 =>
        some h33
theorem M_advance_L210_ok (Y : Ly) (l0 : Nat) (tl0 : isO Y 12 l0) : ∀ (F : Nat) (h : Hp), AW Y 1 K_M_advance 210 [(0, .ref l0)] [] h (M_advance_L210 Y l0 F h) rV := by
  intro F
  induction F with
  | zero =>
    intro h
    exact aw_none
  | succ F ih =>
    intro h
    unfold M_advance_L210
    refine aw_aload_n (pc := 210) d_M_advance_210 rfl 0 rfl ?_
    refine aw_aload_n (pc := 211) d_M_advance_211 rfl 0 rfl ?_
    refine gt_1216 (pc := 212) d_M_advance_212 w7_43 tl0 ?_
    refine aw_cVpI (pc := 215) (ci := 12) (T := TX12) (N := 44) (As := [.int (hGi h 1216 l0)]) (st := []) (ok_M_look2 Y l0 (hGi h 1216 l0) h tl0) okV_M_look2 rfl (by decide) tl0 w7_228 d_M_advance_215 rfl (Nat.le_of_ble_eq_true rfl) rfl (Nat.le_of_ble_eq_true rfl) (fun q23 hq23 hTq23 => ?_)
    refine aw_cSpZ (pc := 218) (As := [.int q23]) (st := []) (ok_M_isDigit Y q23 h) okS_M_isDigit w7_237 d_M_advance_218 rfl (Nat.le_of_ble_eq_true rfl) rfl (Nat.le_of_ble_eq_true rfl) (fun q24 hq24 hTq24 => ?_)
    refine aw_beq (pc := 221) (tgt := 273) d_M_advance_221 (by decide) (fun c25 => ?_) (fun c25 => ?_)
    · refine aw_aload_n (pc := 224) d_M_advance_224 rfl 0 rfl ?_
      refine gt_1216 (pc := 225) d_M_advance_225 w7_43 tl0 ?_
      refine aw_aload_n (pc := 228) d_M_advance_228 rfl 0 rfl ?_
      refine gt_1215 (pc := 229) d_M_advance_229 w7_42 tl0 ?_
      refine aw_isub (pc := 232) d_M_advance_232 ?_
      refine aw_iconst (pc := 233) (x := 4) d_M_advance_233 (by decide) ?_
      refine aw_icmp_ge (pc := 234) (tgt := 260) d_M_advance_234 (by decide) (fun c26 => ?_) (fun c26 => ?_)
      · refine aw_aload_n (pc := 260) d_M_advance_260 rfl 0 rfl ?_
        refine aw_dup (pc := 261) d_M_advance_261 rfl ?_
        refine gt_1216 (pc := 262) d_M_advance_262 w7_43 tl0 ?_
        refine aw_iconst (pc := 265) (x := 1) d_M_advance_265 (by decide) ?_
        refine aw_iadd (pc := 266) d_M_advance_266 ?_
        refine pt_1216 (pc := 267) d_M_advance_267 w7_43 tl0 ?_
        refine aw_letH (fun h27 => ?_)
        refine aw_goto (pc := 270) (tgt := 210) d_M_advance_270 (by decide) ?_
        exact aw_lv [0] rfl (ih h27)
      · refine aw_aload_n (pc := 237) d_M_advance_237 rfl 0 rfl ?_
        refine aw_bipush (pc := 238) (x := 10) d_M_advance_238 (by decide) ?_
        refine aw_aload_n (pc := 240) d_M_advance_240 rfl 0 rfl ?_
        refine gt_1217 (pc := 241) d_M_advance_241 w7_44 tl0 ?_
        refine aw_imul (pc := 244) d_M_advance_244 ?_
        refine aw_aload_n (pc := 245) d_M_advance_245 rfl 0 rfl ?_
        refine aw_aload_n (pc := 246) d_M_advance_246 rfl 0 rfl ?_
        refine gt_1216 (pc := 247) d_M_advance_247 w7_43 tl0 ?_
        refine aw_cVpI (pc := 250) (ci := 12) (T := TX12) (N := 44) (As := [.int (hGi h 1216 l0)]) (st := [.int (10 * (hGi h 1217 l0)), .ref l0]) (ok_M_look2 Y l0 (hGi h 1216 l0) h tl0) okV_M_look2 rfl (by decide) tl0 w7_228 d_M_advance_250 rfl (Nat.le_of_ble_eq_true rfl) rfl (Nat.le_of_ble_eq_true rfl) (fun q28 hq28 hTq28 => ?_)
        refine aw_iadd (pc := 253) d_M_advance_253 ?_
        refine aw_bipush (pc := 254) (x := 48) d_M_advance_254 (by decide) ?_
        refine aw_isub (pc := 256) d_M_advance_256 ?_
        refine pt_1217 (pc := 257) d_M_advance_257 w7_44 tl0 ?_
        refine aw_letH (fun h29 => ?_)
        refine aw_aload_n (pc := 260) d_M_advance_260 rfl 0 rfl ?_
        refine aw_dup (pc := 261) d_M_advance_261 rfl ?_
        refine gt_1216 (pc := 262) d_M_advance_262 w7_43 tl0 ?_
        refine aw_iconst (pc := 265) (x := 1) d_M_advance_265 (by decide) ?_
        refine aw_iadd (pc := 266) d_M_advance_266 ?_
        refine pt_1216 (pc := 267) d_M_advance_267 w7_43 tl0 ?_
        refine aw_letH (fun h30 => ?_)
        refine aw_goto (pc := 270) (tgt := 210) d_M_advance_270 (by decide) ?_
        exact aw_lv [0] rfl (ih h30)
    · refine aw_aload_n (pc := 273) d_M_advance_273 rfl 0 rfl ?_
      refine aw_aload_n (pc := 274) d_M_advance_274 rfl 0 rfl ?_
      refine gt_1216 (pc := 275) d_M_advance_275 w7_43 tl0 ?_
      refine aw_aload_n (pc := 278) d_M_advance_278 rfl 0 rfl ?_
      refine gt_1215 (pc := 279) d_M_advance_279 w7_42 tl0 ?_
      refine aw_isub (pc := 282) d_M_advance_282 ?_
      refine aw_iconst (pc := 283) (x := 4) d_M_advance_283 (by decide) ?_
      refine aw_icmp_le (pc := 284) (tgt := 291) d_M_advance_284 (by decide) (fun c31 => ?_) (fun c31 => ?_)
      · refine aw_iconst (pc := 291) (x := 2) d_M_advance_291 (by decide) ?_
        refine pt_1214 (pc := 292) d_M_advance_292 w7_41 tl0 ?_
        refine aw_letH (fun h32 => ?_)
        refine aw_goto (pc := 295) (tgt := 330) d_M_advance_295 (by decide) ?_
        exact aw_return (pc := 330) d_M_advance_330 rfl rfl
      · refine aw_iconst (pc := 287) (x := 4) d_M_advance_287 (by decide) ?_
        refine aw_goto (pc := 288) (tgt := 292) d_M_advance_288 (by decide) ?_
        refine pt_1214 (pc := 292) d_M_advance_292 w7_41 tl0 ?_
        refine aw_letH (fun h33 => ?_)
        refine aw_goto (pc := 295) (tgt := 330) d_M_advance_295 (by decide) ?_
        exact aw_return (pc := 330) d_M_advance_330 rfl rfl
def M_advance_J58 (Y : Ly) (l0 : Nat) (h : Hp) : Option Hp :=
  letH (hSi h 1216 l0 (hGi h 1215 l0)) fun h3 =>
  if (hGi h3 1215 l0) < (hGi h3 1209 l0) then
    (M_look2 Y l0 (hGi h3 1215 l0) h3).bind fun q5 =>
    (M_isLetter Y q5 h3).bind fun q6 =>
    if q6 = true then
      letH (hSi h3 1214 l0 1) fun h8 =>
      letH (hSl h8 1219 l0 0) fun h9 =>
      M_advance_L109 Y l0 FU h9
    else
      (M_isDigit Y q5 h3).bind fun q20 =>
      if q20 = true then
        letH (hSi h3 1217 l0 0) fun h22 =>
        M_advance_L210 Y l0 FU h22
      else
        letH (hSi h3 1216 l0 ((hGi h3 1215 l0) + 1)) fun h34 =>
        letH (hSi h34 1217 l0 q5) fun h35 =>
        (M_isSignByte Y l0 q5 h35).bind fun q36 =>
        if q36 = true then
          letH (hSi h35 1214 l0 3) fun h38 =>
          some h38
        else
          letH (hSi h35 1214 l0 4) fun h39 =>
          some h39
  else
    letH (hSi h3 1214 l0 0) fun h40 =>
    some h40
theorem M_advance_J58_ok (Y : Ly) (l0 : Nat) (h : Hp) (tl0 : isO Y 12 l0) : AW Y 1 K_M_advance 58 [(0, .ref l0)] [] h (M_advance_J58 Y l0 h) rV := by
  unfold M_advance_J58
  refine aw_aload_n (pc := 58) d_M_advance_58 rfl 0 rfl ?_
  refine aw_aload_n (pc := 59) d_M_advance_59 rfl 0 rfl ?_
  refine gt_1215 (pc := 60) d_M_advance_60 w7_42 tl0 ?_
  refine pt_1216 (pc := 63) d_M_advance_63 w7_43 tl0 ?_
  refine aw_letH (fun h3 => ?_)
  refine aw_aload_n (pc := 66) d_M_advance_66 rfl 0 rfl ?_
  refine gt_1215 (pc := 67) d_M_advance_67 w7_42 tl0 ?_
  refine aw_aload_n (pc := 70) d_M_advance_70 rfl 0 rfl ?_
  refine gt_1209 (pc := 71) d_M_advance_71 w7_36 tl0 ?_
  refine aw_icmp_lt (pc := 74) (tgt := 83) d_M_advance_74 (by decide) (fun c4 => ?_) (fun c4 => ?_)
  · refine aw_aload_n (pc := 83) d_M_advance_83 rfl 0 rfl ?_
    refine aw_aload_n (pc := 84) d_M_advance_84 rfl 0 rfl ?_
    refine gt_1215 (pc := 85) d_M_advance_85 w7_42 tl0 ?_
    refine aw_cVpI (pc := 88) (ci := 12) (T := TX12) (N := 44) (As := [.int (hGi h3 1215 l0)]) (st := []) (ok_M_look2 Y l0 (hGi h3 1215 l0) h3 tl0) okV_M_look2 rfl (by decide) tl0 w7_228 d_M_advance_88 rfl (Nat.le_of_ble_eq_true rfl) rfl (Nat.le_of_ble_eq_true rfl) (fun q5 hq5 hTq5 => ?_)
    refine aw_istore_n (pc := 91) (lv' := [(1, .int q5), (0, .ref l0)]) d_M_advance_91 rfl (by decide) rfl ?_
    refine aw_iload_n (pc := 92) d_M_advance_92 rfl 0 rfl ?_
    refine aw_cSpZ (pc := 93) (As := [.int q5]) (st := []) (ok_M_isLetter Y q5 h3) okS_M_isLetter w7_232 d_M_advance_93 rfl (Nat.le_of_ble_eq_true rfl) rfl (Nat.le_of_ble_eq_true rfl) (fun q6 hq6 hTq6 => ?_)
    refine aw_beq (pc := 96) (tgt := 198) d_M_advance_96 (by decide) (fun c7 => ?_) (fun c7 => ?_)
    · refine aw_aload_n (pc := 99) d_M_advance_99 rfl 1 rfl ?_
      refine aw_iconst (pc := 100) (x := 1) d_M_advance_100 (by decide) ?_
      refine pt_1214 (pc := 101) d_M_advance_101 w7_41 tl0 ?_
      refine aw_letH (fun h8 => ?_)
      refine aw_aload_n (pc := 104) d_M_advance_104 rfl 1 rfl ?_
      refine aw_lconst (pc := 105) (x := 0) d_M_advance_105 (by decide) ?_
      refine pt_1219 (pc := 106) d_M_advance_106 w7_46 tl0 ?_
      refine aw_letH (fun h9 => ?_)
      exact aw_lv [1] rfl (M_advance_L109_ok Y l0 tl0 FU h9)
    · refine aw_iload_n (pc := 198) d_M_advance_198 rfl 0 rfl ?_
      refine aw_cSpZ (pc := 199) (As := [.int q5]) (st := []) (ok_M_isDigit Y q5 h3) okS_M_isDigit w7_237 d_M_advance_199 rfl (Nat.le_of_ble_eq_true rfl) rfl (Nat.le_of_ble_eq_true rfl) (fun q20 hq20 hTq20 => ?_)
      refine aw_beq (pc := 202) (tgt := 298) d_M_advance_202 (by decide) (fun c21 => ?_) (fun c21 => ?_)
      · refine aw_aload_n (pc := 205) d_M_advance_205 rfl 1 rfl ?_
        refine aw_iconst (pc := 206) (x := 0) d_M_advance_206 (by decide) ?_
        refine pt_1217 (pc := 207) d_M_advance_207 w7_44 tl0 ?_
        refine aw_letH (fun h22 => ?_)
        exact aw_lv [1] rfl (M_advance_L210_ok Y l0 tl0 FU h22)
      · refine aw_aload_n (pc := 298) d_M_advance_298 rfl 1 rfl ?_
        refine aw_aload_n (pc := 299) d_M_advance_299 rfl 1 rfl ?_
        refine gt_1215 (pc := 300) d_M_advance_300 w7_42 tl0 ?_
        refine aw_iconst (pc := 303) (x := 1) d_M_advance_303 (by decide) ?_
        refine aw_iadd (pc := 304) d_M_advance_304 ?_
        refine pt_1216 (pc := 305) d_M_advance_305 w7_43 tl0 ?_
        refine aw_letH (fun h34 => ?_)
        refine aw_aload_n (pc := 308) d_M_advance_308 rfl 1 rfl ?_
        refine aw_iload_n (pc := 309) d_M_advance_309 rfl 0 rfl ?_
        refine pt_1217 (pc := 310) d_M_advance_310 w7_44 tl0 ?_
        refine aw_letH (fun h35 => ?_)
        refine aw_aload_n (pc := 313) d_M_advance_313 rfl 1 rfl ?_
        refine aw_aload_n (pc := 314) d_M_advance_314 rfl 1 rfl ?_
        refine aw_iload_n (pc := 315) d_M_advance_315 rfl 0 rfl ?_
        refine aw_cVpZ (pc := 316) (ci := 12) (T := TX12) (N := 44) (As := [.int q5]) (st := [.ref l0]) (ok_M_isSignByte Y l0 q5 h35 tl0) okV_M_isSignByte rfl (by decide) tl0 w8_0 d_M_advance_316 rfl (Nat.le_of_ble_eq_true rfl) rfl (Nat.le_of_ble_eq_true rfl) (fun q36 hq36 hTq36 => ?_)
        refine aw_beq (pc := 319) (tgt := 326) d_M_advance_319 (by decide) (fun c37 => ?_) (fun c37 => ?_)
        · refine aw_iconst (pc := 322) (x := 3) d_M_advance_322 (by decide) ?_
          refine aw_goto (pc := 323) (tgt := 327) d_M_advance_323 (by decide) ?_
          refine pt_1214 (pc := 327) d_M_advance_327 w7_41 tl0 ?_
          refine aw_letH (fun h38 => ?_)
          exact aw_return (pc := 330) d_M_advance_330 rfl rfl
        · refine aw_iconst (pc := 326) (x := 4) d_M_advance_326 (by decide) ?_
          refine pt_1214 (pc := 327) d_M_advance_327 w7_41 tl0 ?_
          refine aw_letH (fun h39 => ?_)
          exact aw_return (pc := 330) d_M_advance_330 rfl rfl
  · refine aw_aload_n (pc := 77) d_M_advance_77 rfl 0 rfl ?_
    refine aw_iconst (pc := 78) (x := 0) d_M_advance_78 (by decide) ?_
    refine pt_1214 (pc := 79) d_M_advance_79 w7_41 tl0 ?_
    refine aw_letH (fun h40 => ?_)
    exact aw_return (pc := 82) d_M_advance_82 rfl rfl
def M_advance_L8 (Y : Ly) (l0 : Nat) : Nat → Hp → Option Hp
  | 0, _ => none
  | F + 1, h =>
    if (hGi h 1209 l0) ≤ (hGi h 1215 l0) then
      M_advance_J58 Y l0 h
    else
      (M_look2 Y l0 (hGi h 1215 l0) h).bind fun q41 =>
      if q41 = 10 then
        letH (hSi h 1215 l0 ((hGi h 1215 l0) + 1)) fun h43 =>
        M_advance_L8 Y l0 F h43
      else
        (M_look2 Y l0 (hGi h 1215 l0) h).bind fun q44 =>
        if q44 = 32 then
          letH (hSi h 1215 l0 ((hGi h 1215 l0) + 1)) fun h46 =>
          M_advance_L8 Y l0 F h46
        else
          M_advance_J58 Y l0 h
theorem M_advance_L8_ok (Y : Ly) (l0 : Nat) (tl0 : isO Y 12 l0) : ∀ (F : Nat) (h : Hp), AW Y 1 K_M_advance 8 [(0, .ref l0)] [] h (M_advance_L8 Y l0 F h) rV := by
  intro F
  induction F with
  | zero =>
    intro h
    exact aw_none
  | succ F ih =>
    intro h
    unfold M_advance_L8
    refine aw_aload_n (pc := 8) d_M_advance_8 rfl 0 rfl ?_
    refine gt_1215 (pc := 9) d_M_advance_9 w7_42 tl0 ?_
    refine aw_aload_n (pc := 12) d_M_advance_12 rfl 0 rfl ?_
    refine gt_1209 (pc := 13) d_M_advance_13 w7_36 tl0 ?_
    refine aw_icmp_ge (pc := 16) (tgt := 58) d_M_advance_16 (by decide) (fun c2 => ?_) (fun c2 => ?_)
    · exact aw_lv [0] rfl (M_advance_J58_ok Y l0 h tl0)
    · refine aw_aload_n (pc := 19) d_M_advance_19 rfl 0 rfl ?_
      refine aw_aload_n (pc := 20) d_M_advance_20 rfl 0 rfl ?_
      refine gt_1215 (pc := 21) d_M_advance_21 w7_42 tl0 ?_
      refine aw_cVpI (pc := 24) (ci := 12) (T := TX12) (N := 44) (As := [.int (hGi h 1215 l0)]) (st := []) (ok_M_look2 Y l0 (hGi h 1215 l0) h tl0) okV_M_look2 rfl (by decide) tl0 w7_228 d_M_advance_24 rfl (Nat.le_of_ble_eq_true rfl) rfl (Nat.le_of_ble_eq_true rfl) (fun q41 hq41 hTq41 => ?_)
      refine aw_bipush (pc := 27) (x := 10) d_M_advance_27 (by decide) ?_
      refine aw_icmp_eq (pc := 29) (tgt := 45) d_M_advance_29 (by decide) (fun c42 => ?_) (fun c42 => ?_)
      · refine aw_aload_n (pc := 45) d_M_advance_45 rfl 0 rfl ?_
        refine aw_dup (pc := 46) d_M_advance_46 rfl ?_
        refine gt_1215 (pc := 47) d_M_advance_47 w7_42 tl0 ?_
        refine aw_iconst (pc := 50) (x := 1) d_M_advance_50 (by decide) ?_
        refine aw_iadd (pc := 51) d_M_advance_51 ?_
        refine pt_1215 (pc := 52) d_M_advance_52 w7_42 tl0 ?_
        refine aw_letH (fun h43 => ?_)
        refine aw_goto (pc := 55) (tgt := 8) d_M_advance_55 (by decide) ?_
        exact aw_lv [0] rfl (ih h43)
      · refine aw_aload_n (pc := 32) d_M_advance_32 rfl 0 rfl ?_
        refine aw_aload_n (pc := 33) d_M_advance_33 rfl 0 rfl ?_
        refine gt_1215 (pc := 34) d_M_advance_34 w7_42 tl0 ?_
        refine aw_cVpI (pc := 37) (ci := 12) (T := TX12) (N := 44) (As := [.int (hGi h 1215 l0)]) (st := []) (ok_M_look2 Y l0 (hGi h 1215 l0) h tl0) okV_M_look2 rfl (by decide) tl0 w7_228 d_M_advance_37 rfl (Nat.le_of_ble_eq_true rfl) rfl (Nat.le_of_ble_eq_true rfl) (fun q44 hq44 hTq44 => ?_)
        refine aw_bipush (pc := 40) (x := 32) d_M_advance_40 (by decide) ?_
        refine aw_icmp_ne (pc := 42) (tgt := 58) d_M_advance_42 (by decide) (fun c45 => ?_) (fun c45 => ?_)
        · refine aw_aload_n (pc := 45) d_M_advance_45 rfl 0 rfl ?_
          refine aw_dup (pc := 46) d_M_advance_46 rfl ?_
          refine gt_1215 (pc := 47) d_M_advance_47 w7_42 tl0 ?_
          refine aw_iconst (pc := 50) (x := 1) d_M_advance_50 (by decide) ?_
          refine aw_iadd (pc := 51) d_M_advance_51 ?_
          refine pt_1215 (pc := 52) d_M_advance_52 w7_42 tl0 ?_
          refine aw_letH (fun h46 => ?_)
          refine aw_goto (pc := 55) (tgt := 8) d_M_advance_55 (by decide) ?_
          exact aw_lv [0] rfl (ih h46)
        · exact aw_lv [0] rfl (M_advance_J58_ok Y l0 h tl0)
def M_advance (Y : Ly) (l0 : Nat) (h : Hp) : Option Hp :=
  letH (hSi h 1215 l0 (hGi h 1216 l0)) fun h1 =>
  M_advance_L8 Y l0 FU h1
theorem ok_M_advance (Y : Ly) (l0 : Nat) (h : Hp) (t0 : isO Y 12 l0) : AM Y 1 K_M_advance [.ref l0] h (M_advance Y l0 h) rV := by
  refine AM.of rfl (Nat.le_of_ble_eq_true rfl) ?_
  show AW Y 1 K_M_advance 0 [(0, .ref l0)] [] h (M_advance Y l0 h) rV
  unfold M_advance
  refine aw_aload_n (pc := 0) d_M_advance_0 rfl 0 rfl ?_
  refine aw_aload_n (pc := 1) d_M_advance_1 rfl 0 rfl ?_
  refine gt_1216 (pc := 2) d_M_advance_2 w7_43 t0 ?_
  refine pt_1215 (pc := 5) d_M_advance_5 w7_42 t0 ?_
  refine aw_letH (fun h1 => ?_)
  exact aw_lv [0] rfl (M_advance_L8_ok Y l0 t0 FU h1)
/-! LastPagesModel.allBooks()I -/
theorem d_M_allBooks_0 : decode prog_14_method_146_code 0 = .ok (.iconst 1, 1) := by decide +kernel
theorem d_M_allBooks_1 : decode prog_14_method_146_code 1 = .ok (.aload_n 0, 1) := by decide +kernel
theorem d_M_allBooks_2 : decode prog_14_method_146_code 2 = .ok (.getfield 35, 3) := by decide +kernel
theorem d_M_allBooks_5 : decode prog_14_method_146_code 5 = .ok (.iconst 2, 1) := by decide +kernel
theorem d_M_allBooks_6 : decode prog_14_method_146_code 6 = .ok (.iaload, 1) := by decide +kernel
theorem d_M_allBooks_7 : decode prog_14_method_146_code 7 = .ok (.ishl, 1) := by decide +kernel
theorem d_M_allBooks_8 : decode prog_14_method_146_code 8 = .ok (.iconst 1, 1) := by decide +kernel
theorem d_M_allBooks_9 : decode prog_14_method_146_code 9 = .ok (.isub, 1) := by decide +kernel
theorem d_M_allBooks_10 : decode prog_14_method_146_code 10 = .ok (.ireturn, 1) := by decide +kernel
def M_allBooks (Y : Ly) (l0 : Nat) (h : Hp) : Option Int32 :=
  if inB 2 (lnY Y (hGr h 1220 l0)) = true then
    some (((1 : Int32) <<< ((hAi h (hGr h 1220 l0) (Int32.toNatClampNeg 2)) &&& 31)) - 1)
  else none
theorem ok_M_allBooks (Y : Ly) (l0 : Nat) (h : Hp) (t0 : isO Y 12 l0) : AM Y 0 K_M_allBooks [.ref l0] h (M_allBooks Y l0 h) (pI h) := by
  refine AM.of rfl (Nat.le_of_ble_eq_true rfl) ?_
  show AW Y 0 K_M_allBooks 0 [(0, .ref l0)] [] h (M_allBooks Y l0 h) (pI h)
  unfold M_allBooks
  refine aw_iconst (pc := 0) (x := 1) d_M_allBooks_0 (by decide) ?_
  refine aw_aload_n (pc := 1) d_M_allBooks_1 rfl 0 rfl ?_
  refine gt_1220 (pc := 2) d_M_allBooks_2 w7_47 t0 (fun tt1 => ?_)
  refine aw_iconst (pc := 5) (x := 2) d_M_allBooks_5 (by decide) ?_
  refine aw_iaload (pc := 6) d_M_allBooks_6 tt1 (fun c2 => ?_)
  refine aw_ishl (pc := 7) d_M_allBooks_7 ?_
  refine aw_iconst (pc := 8) (x := 1) d_M_allBooks_8 (by decide) ?_
  refine aw_isub (pc := 9) d_M_allBooks_9 ?_
  exact aw_ireturn (pc := 10) d_M_allBooks_10 rfl rfl
/-! LastPagesModel.allOffers()I -/
theorem d_M_allOffers_0 : decode prog_14_method_158_code 0 = .ok (.iconst 1, 1) := by decide +kernel
theorem d_M_allOffers_1 : decode prog_14_method_158_code 1 = .ok (.aload_n 0, 1) := by decide +kernel
theorem d_M_allOffers_2 : decode prog_14_method_158_code 2 = .ok (.getfield 35, 3) := by decide +kernel
theorem d_M_allOffers_5 : decode prog_14_method_158_code 5 = .ok (.bipush 6, 2) := by decide +kernel
theorem d_M_allOffers_7 : decode prog_14_method_158_code 7 = .ok (.iaload, 1) := by decide +kernel
theorem d_M_allOffers_8 : decode prog_14_method_158_code 8 = .ok (.ishl, 1) := by decide +kernel
theorem d_M_allOffers_9 : decode prog_14_method_158_code 9 = .ok (.iconst 1, 1) := by decide +kernel
theorem d_M_allOffers_10 : decode prog_14_method_158_code 10 = .ok (.isub, 1) := by decide +kernel
theorem d_M_allOffers_11 : decode prog_14_method_158_code 11 = .ok (.ireturn, 1) := by decide +kernel
def M_allOffers (Y : Ly) (l0 : Nat) (h : Hp) : Option Int32 :=
  if inB 6 (lnY Y (hGr h 1220 l0)) = true then
    some (((1 : Int32) <<< ((hAi h (hGr h 1220 l0) (Int32.toNatClampNeg 6)) &&& 31)) - 1)
  else none
theorem ok_M_allOffers (Y : Ly) (l0 : Nat) (h : Hp) (t0 : isO Y 12 l0) : AM Y 0 K_M_allOffers [.ref l0] h (M_allOffers Y l0 h) (pI h) := by
  refine AM.of rfl (Nat.le_of_ble_eq_true rfl) ?_
  show AW Y 0 K_M_allOffers 0 [(0, .ref l0)] [] h (M_allOffers Y l0 h) (pI h)
  unfold M_allOffers
  refine aw_iconst (pc := 0) (x := 1) d_M_allOffers_0 (by decide) ?_
  refine aw_aload_n (pc := 1) d_M_allOffers_1 rfl 0 rfl ?_
  refine gt_1220 (pc := 2) d_M_allOffers_2 w7_47 t0 (fun tt1 => ?_)
  refine aw_bipush (pc := 5) (x := 6) d_M_allOffers_5 (by decide) ?_
  refine aw_iaload (pc := 7) d_M_allOffers_7 tt1 (fun c2 => ?_)
  refine aw_ishl (pc := 8) d_M_allOffers_8 ?_
  refine aw_iconst (pc := 9) (x := 1) d_M_allOffers_9 (by decide) ?_
  refine aw_isub (pc := 10) d_M_allOffers_10 ?_
  exact aw_ireturn (pc := 11) d_M_allOffers_11 rfl rfl
/-! LastPagesModel.fail(II)V -/
theorem d_M_fail_0 : decode prog_14_method_55_code 0 = .ok (.aload_n 0, 1) := by decide +kernel
theorem d_M_fail_1 : decode prog_14_method_55_code 1 = .ok (.getfield 245, 3) := by decide +kernel
theorem d_M_fail_4 : decode prog_14_method_55_code 4 = .ok (.ifCond .le 4, 3) := by decide +kernel
theorem d_M_fail_7 : decode prog_14_method_55_code 7 = .ok (.return_, 1) := by decide +kernel
theorem d_M_fail_8 : decode prog_14_method_55_code 8 = .ok (.aload_n 0, 1) := by decide +kernel
theorem d_M_fail_9 : decode prog_14_method_55_code 9 = .ok (.iload_n 1, 1) := by decide +kernel
theorem d_M_fail_10 : decode prog_14_method_55_code 10 = .ok (.putfield 245, 3) := by decide +kernel
theorem d_M_fail_13 : decode prog_14_method_55_code 13 = .ok (.aload_n 0, 1) := by decide +kernel
theorem d_M_fail_14 : decode prog_14_method_55_code 14 = .ok (.iload_n 2, 1) := by decide +kernel
theorem d_M_fail_15 : decode prog_14_method_55_code 15 = .ok (.putfield 248, 3) := by decide +kernel
theorem d_M_fail_18 : decode prog_14_method_55_code 18 = .ok (.return_, 1) := by decide +kernel
def M_fail (Y : Ly) (l0 : Nat) (l1 : Int32) (l2 : Int32) (h : Hp) : Option Hp :=
  if (hGi h 1212 l0) ≤ 0 then
    letH (hSi h 1212 l0 l1) fun h2 =>
    letH (hSi h2 1213 l0 l2) fun h3 =>
    some h3
  else
    some h
theorem ok_M_fail (Y : Ly) (l0 : Nat) (l1 : Int32) (l2 : Int32) (h : Hp) (t0 : isO Y 12 l0) : AM Y 0 K_M_fail [.ref l0, .int l1, .int l2] h (M_fail Y l0 l1 l2 h) rV := by
  refine AM.of rfl (Nat.le_of_ble_eq_true rfl) ?_
  show AW Y 0 K_M_fail 0 [(0, .ref l0), (1, .int l1), (2, .int l2)] [] h (M_fail Y l0 l1 l2 h) rV
  unfold M_fail
  refine aw_aload_n (pc := 0) d_M_fail_0 rfl 0 rfl ?_
  refine gt_1212 (pc := 1) d_M_fail_1 w7_39 t0 ?_
  refine aw_if_le (pc := 4) (tgt := 8) d_M_fail_4 (by decide) (fun c1 => ?_) (fun c1 => ?_)
  · refine aw_aload_n (pc := 8) d_M_fail_8 rfl 0 rfl ?_
    refine aw_iload_n (pc := 9) d_M_fail_9 rfl 1 rfl ?_
    refine pt_1212 (pc := 10) d_M_fail_10 w7_39 t0 ?_
    refine aw_letH (fun h2 => ?_)
    refine aw_aload_n (pc := 13) d_M_fail_13 rfl 0 rfl ?_
    refine aw_iload_n (pc := 14) d_M_fail_14 rfl 2 rfl ?_
    refine pt_1213 (pc := 15) d_M_fail_15 w7_40 t0 ?_
    refine aw_letH (fun h3 => ?_)
    exact aw_return (pc := 18) d_M_fail_18 rfl rfl
  · exact aw_return (pc := 7) d_M_fail_7 rfl rfl
/-! LastPagesModel.amiss()V -/
theorem d_M_amiss_0 : decode prog_14_method_56_code 0 = .ok (.aload_n 0, 1) := by decide +kernel
theorem d_M_amiss_1 : decode prog_14_method_56_code 1 = .ok (.aload_n 0, 1) := by decide +kernel
theorem d_M_amiss_2 : decode prog_14_method_56_code 2 = .ok (.getfield 133, 3) := by decide +kernel
theorem d_M_amiss_5 : decode prog_14_method_56_code 5 = .ok (.iconst 4, 1) := by decide +kernel
theorem d_M_amiss_6 : decode prog_14_method_56_code 6 = .ok (.if_icmp .ne 7, 3) := by decide +kernel
theorem d_M_amiss_9 : decode prog_14_method_56_code 9 = .ok (.iconst 1, 1) := by decide +kernel
theorem d_M_amiss_10 : decode prog_14_method_56_code 10 = .ok (.goto 4, 3) := by decide +kernel
theorem d_M_amiss_13 : decode prog_14_method_56_code 13 = .ok (.iconst 2, 1) := by decide +kernel
theorem d_M_amiss_14 : decode prog_14_method_56_code 14 = .ok (.aload_n 0, 1) := by decide +kernel
theorem d_M_amiss_15 : decode prog_14_method_56_code 15 = .ok (.getfield 127, 3) := by decide +kernel
theorem d_M_amiss_18 : decode prog_14_method_56_code 18 = .ok (.invokevirtual 251, 3) := by decide +kernel
theorem d_M_amiss_21 : decode prog_14_method_56_code 21 = .ok (.return_, 1) := by decide +kernel
def M_amiss (Y : Ly) (l0 : Nat) (h : Hp) : Option Hp :=
  if (hGi h 1214 l0) = 4 then
    (M_fail Y l0 1 (hGi h 1215 l0) h).bind fun q2 =>
    some q2
  else
    (M_fail Y l0 2 (hGi h 1215 l0) h).bind fun q3 =>
    some q3
theorem ok_M_amiss (Y : Ly) (l0 : Nat) (h : Hp) (t0 : isO Y 12 l0) : AM Y 1 K_M_amiss [.ref l0] h (M_amiss Y l0 h) rV := by
  refine AM.of rfl (Nat.le_of_ble_eq_true rfl) ?_
  show AW Y 1 K_M_amiss 0 [(0, .ref l0)] [] h (M_amiss Y l0 h) rV
  unfold M_amiss
  refine aw_aload_n (pc := 0) d_M_amiss_0 rfl 0 rfl ?_
  refine aw_aload_n (pc := 1) d_M_amiss_1 rfl 0 rfl ?_
  refine gt_1214 (pc := 2) d_M_amiss_2 w7_41 t0 ?_
  refine aw_iconst (pc := 5) (x := 4) d_M_amiss_5 (by decide) ?_
  refine aw_icmp_ne (pc := 6) (tgt := 13) d_M_amiss_6 (by decide) (fun c1 => ?_) (fun c1 => ?_)
  · refine aw_iconst (pc := 9) (x := 1) d_M_amiss_9 (by decide) ?_
    refine aw_goto (pc := 10) (tgt := 14) d_M_amiss_10 (by decide) ?_
    refine aw_aload_n (pc := 14) d_M_amiss_14 rfl 0 rfl ?_
    refine gt_1215 (pc := 15) d_M_amiss_15 w7_42 t0 ?_
    refine aw_cVrV (pc := 18) (ci := 12) (T := TX12) (N := 44) (As := [.int 1, .int (hGi h 1215 l0)]) (st := []) (ok_M_fail Y l0 1 (hGi h 1215 l0) h t0) okV_M_fail rfl (by decide) t0 w8_30 d_M_amiss_18 rfl (Nat.le_of_ble_eq_true rfl) rfl (Nat.le_of_ble_eq_true rfl) (fun q2 hq2 hTq2 => ?_)
    exact aw_return (pc := 21) d_M_amiss_21 rfl rfl
  · refine aw_iconst (pc := 13) (x := 2) d_M_amiss_13 (by decide) ?_
    refine aw_aload_n (pc := 14) d_M_amiss_14 rfl 0 rfl ?_
    refine gt_1215 (pc := 15) d_M_amiss_15 w7_42 t0 ?_
    refine aw_cVrV (pc := 18) (ci := 12) (T := TX12) (N := 44) (As := [.int 2, .int (hGi h 1215 l0)]) (st := []) (ok_M_fail Y l0 2 (hGi h 1215 l0) h t0) okV_M_fail rfl (by decide) t0 w8_30 d_M_amiss_18 rfl (Nat.le_of_ble_eq_true rfl) rfl (Nat.le_of_ble_eq_true rfl) (fun q3 hq3 hTq3 => ?_)
    exact aw_return (pc := 21) d_M_amiss_21 rfl rfl
/-! LastPagesModel.copy(II)V -/
theorem d_M_copy_0 : decode prog_14_method_182_code 0 = .ok (.iconst 0, 1) := by decide +kernel
theorem d_M_copy_1 : decode prog_14_method_182_code 1 = .ok (.istore_n 3, 1) := by decide +kernel
theorem d_M_copy_2 : decode prog_14_method_182_code 2 = .ok (.iload_n 3, 1) := by decide +kernel
theorem d_M_copy_3 : decode prog_14_method_182_code 3 = .ok (.sipush 576, 3) := by decide +kernel
theorem d_M_copy_6 : decode prog_14_method_182_code 6 = .ok (.if_icmp .ge 33, 3) := by decide +kernel
theorem d_M_copy_9 : decode prog_14_method_182_code 9 = .ok (.aload_n 0, 1) := by decide +kernel
theorem d_M_copy_10 : decode prog_14_method_182_code 10 = .ok (.getfield 35, 3) := by decide +kernel
theorem d_M_copy_13 : decode prog_14_method_182_code 13 = .ok (.sipush 576, 3) := by decide +kernel
theorem d_M_copy_16 : decode prog_14_method_182_code 16 = .ok (.iload_n 2, 1) := by decide +kernel
theorem d_M_copy_17 : decode prog_14_method_182_code 17 = .ok (.imul, 1) := by decide +kernel
theorem d_M_copy_18 : decode prog_14_method_182_code 18 = .ok (.iload_n 3, 1) := by decide +kernel
theorem d_M_copy_19 : decode prog_14_method_182_code 19 = .ok (.iadd, 1) := by decide +kernel
theorem d_M_copy_20 : decode prog_14_method_182_code 20 = .ok (.aload_n 0, 1) := by decide +kernel
theorem d_M_copy_21 : decode prog_14_method_182_code 21 = .ok (.getfield 35, 3) := by decide +kernel
theorem d_M_copy_24 : decode prog_14_method_182_code 24 = .ok (.sipush 576, 3) := by decide +kernel
theorem d_M_copy_27 : decode prog_14_method_182_code 27 = .ok (.iload_n 1, 1) := by decide +kernel
theorem d_M_copy_28 : decode prog_14_method_182_code 28 = .ok (.imul, 1) := by decide +kernel
theorem d_M_copy_29 : decode prog_14_method_182_code 29 = .ok (.iload_n 3, 1) := by decide +kernel
theorem d_M_copy_30 : decode prog_14_method_182_code 30 = .ok (.iadd, 1) := by decide +kernel
theorem d_M_copy_31 : decode prog_14_method_182_code 31 = .ok (.iaload, 1) := by decide +kernel
theorem d_M_copy_32 : decode prog_14_method_182_code 32 = .ok (.iastore, 1) := by decide +kernel
theorem d_M_copy_33 : decode prog_14_method_182_code 33 = .ok (.iinc 3 1, 3) := by decide +kernel
theorem d_M_copy_36 : decode prog_14_method_182_code 36 = .ok (.goto (-34), 3) := by decide +kernel
theorem d_M_copy_39 : decode prog_14_method_182_code 39 = .ok (.iconst 0, 1) := by decide +kernel
theorem d_M_copy_40 : decode prog_14_method_182_code 40 = .ok (.istore_n 3, 1) := by decide +kernel
theorem d_M_copy_41 : decode prog_14_method_182_code 41 = .ok (.iload_n 3, 1) := by decide +kernel
theorem d_M_copy_42 : decode prog_14_method_182_code 42 = .ok (.bipush 56, 2) := by decide +kernel
theorem d_M_copy_44 : decode prog_14_method_182_code 44 = .ok (.if_icmp .ge 31, 3) := by decide +kernel
theorem d_M_copy_47 : decode prog_14_method_182_code 47 = .ok (.aload_n 0, 1) := by decide +kernel
theorem d_M_copy_48 : decode prog_14_method_182_code 48 = .ok (.getfield 41, 3) := by decide +kernel
theorem d_M_copy_51 : decode prog_14_method_182_code 51 = .ok (.bipush 56, 2) := by decide +kernel
theorem d_M_copy_53 : decode prog_14_method_182_code 53 = .ok (.iload_n 2, 1) := by decide +kernel
theorem d_M_copy_54 : decode prog_14_method_182_code 54 = .ok (.imul, 1) := by decide +kernel
theorem d_M_copy_55 : decode prog_14_method_182_code 55 = .ok (.iload_n 3, 1) := by decide +kernel
theorem d_M_copy_56 : decode prog_14_method_182_code 56 = .ok (.iadd, 1) := by decide +kernel
theorem d_M_copy_57 : decode prog_14_method_182_code 57 = .ok (.aload_n 0, 1) := by decide +kernel
theorem d_M_copy_58 : decode prog_14_method_182_code 58 = .ok (.getfield 41, 3) := by decide +kernel
theorem d_M_copy_61 : decode prog_14_method_182_code 61 = .ok (.bipush 56, 2) := by decide +kernel
theorem d_M_copy_63 : decode prog_14_method_182_code 63 = .ok (.iload_n 1, 1) := by decide +kernel
theorem d_M_copy_64 : decode prog_14_method_182_code 64 = .ok (.imul, 1) := by decide +kernel
theorem d_M_copy_65 : decode prog_14_method_182_code 65 = .ok (.iload_n 3, 1) := by decide +kernel
theorem d_M_copy_66 : decode prog_14_method_182_code 66 = .ok (.iadd, 1) := by decide +kernel
theorem d_M_copy_67 : decode prog_14_method_182_code 67 = .ok (.laload, 1) := by decide +kernel
theorem d_M_copy_68 : decode prog_14_method_182_code 68 = .ok (.lastore, 1) := by decide +kernel
theorem d_M_copy_69 : decode prog_14_method_182_code 69 = .ok (.iinc 3 1, 3) := by decide +kernel
theorem d_M_copy_72 : decode prog_14_method_182_code 72 = .ok (.goto (-31), 3) := by decide +kernel
theorem d_M_copy_75 : decode prog_14_method_182_code 75 = .ok (.return_, 1) := by decide +kernel
def M_copy_L41 (Y : Ly) (l0 : Nat) (l1 : Int32) (l2 : Int32) : Nat → Int32 → Hp → Option Hp
  | 0, _, _ => none
  | F + 1, l3, h =>
    if 56 ≤ l3 then
      some h
    else
      if inB ((56 * l1) + l3) (lnY Y (hGr h 1222 l0)) = true then
        if inB ((56 * l2) + l3) (lnY Y (hGr h 1222 l0)) = true then
          letH (hTl h (hGr h 1222 l0) (Int32.toNatClampNeg ((56 * l2) + l3)) (hAl h (hGr h 1222 l0) (Int32.toNatClampNeg ((56 * l1) + l3)))) fun h7 =>
          M_copy_L41 Y l0 l1 l2 F (l3 + 1) h7
        else none
      else none
theorem M_copy_L41_ok (Y : Ly) (l0 : Nat) (l1 : Int32) (l2 : Int32) (tl0 : isO Y 12 l0) : ∀ (F : Nat) (l3 : Int32) (h : Hp), AW Y 0 K_M_copy 41 [(0, .ref l0), (1, .int l1), (2, .int l2), (3, .int l3)] [] h (M_copy_L41 Y l0 l1 l2 F l3 h) rV := by
  intro F
  induction F with
  | zero =>
    intro l3 h
    exact aw_none
  | succ F ih =>
    intro l3 h
    unfold M_copy_L41
    refine aw_iload_n (pc := 41) d_M_copy_41 rfl 3 rfl ?_
    refine aw_bipush (pc := 42) (x := 56) d_M_copy_42 (by decide) ?_
    refine aw_icmp_ge (pc := 44) (tgt := 75) d_M_copy_44 (by decide) (fun c2 => ?_) (fun c2 => ?_)
    · exact aw_return (pc := 75) d_M_copy_75 rfl rfl
    · refine aw_aload_n (pc := 47) d_M_copy_47 rfl 0 rfl ?_
      refine gt_1222 (pc := 48) d_M_copy_48 w7_49 tl0 (fun tt3 => ?_)
      refine aw_bipush (pc := 51) (x := 56) d_M_copy_51 (by decide) ?_
      refine aw_iload_n (pc := 53) d_M_copy_53 rfl 2 rfl ?_
      refine aw_imul (pc := 54) d_M_copy_54 ?_
      refine aw_iload_n (pc := 55) d_M_copy_55 rfl 3 rfl ?_
      refine aw_iadd (pc := 56) d_M_copy_56 ?_
      refine aw_aload_n (pc := 57) d_M_copy_57 rfl 0 rfl ?_
      refine gt_1222 (pc := 58) d_M_copy_58 w7_49 tl0 (fun tt4 => ?_)
      refine aw_bipush (pc := 61) (x := 56) d_M_copy_61 (by decide) ?_
      refine aw_iload_n (pc := 63) d_M_copy_63 rfl 1 rfl ?_
      refine aw_imul (pc := 64) d_M_copy_64 ?_
      refine aw_iload_n (pc := 65) d_M_copy_65 rfl 3 rfl ?_
      refine aw_iadd (pc := 66) d_M_copy_66 ?_
      refine aw_laload (pc := 67) d_M_copy_67 tt4 (fun c5 => ?_)
      refine aw_lastore (pc := 68) d_M_copy_68 tt3 (fun c6 => ?_)
      refine aw_letH (fun h7 => ?_)
      refine aw_iinc (pc := 69) (w := l3 + 1) (lv' := [(3, .int (l3 + 1)), (0, .ref l0), (1, .int l1), (2, .int l2)]) d_M_copy_69 3 rfl rfl (by decide) rfl ?_
      refine aw_goto (pc := 72) (tgt := 41) d_M_copy_72 (by decide) ?_
      exact aw_lv [1, 2, 3, 0] rfl (ih (l3 + 1) h7)
def M_copy_L2 (Y : Ly) (l0 : Nat) (l1 : Int32) (l2 : Int32) : Nat → Int32 → Hp → Option Hp
  | 0, _, _ => none
  | F + 1, l3, h =>
    if 576 ≤ l3 then
      M_copy_L41 Y l0 l1 l2 FU 0 h
    else
      if inB ((576 * l1) + l3) (lnY Y (hGr h 1220 l0)) = true then
        if inB ((576 * l2) + l3) (lnY Y (hGr h 1220 l0)) = true then
          letH (hTi h (hGr h 1220 l0) (Int32.toNatClampNeg ((576 * l2) + l3)) (hAi h (hGr h 1220 l0) (Int32.toNatClampNeg ((576 * l1) + l3)))) fun h12 =>
          M_copy_L2 Y l0 l1 l2 F (l3 + 1) h12
        else none
      else none
theorem M_copy_L2_ok (Y : Ly) (l0 : Nat) (l1 : Int32) (l2 : Int32) (tl0 : isO Y 12 l0) : ∀ (F : Nat) (l3 : Int32) (h : Hp), AW Y 0 K_M_copy 2 [(0, .ref l0), (1, .int l1), (2, .int l2), (3, .int l3)] [] h (M_copy_L2 Y l0 l1 l2 F l3 h) rV := by
  intro F
  induction F with
  | zero =>
    intro l3 h
    exact aw_none
  | succ F ih =>
    intro l3 h
    unfold M_copy_L2
    refine aw_iload_n (pc := 2) d_M_copy_2 rfl 3 rfl ?_
    refine aw_sipush (pc := 3) (x := 576) d_M_copy_3 (by decide) ?_
    refine aw_icmp_ge (pc := 6) (tgt := 39) d_M_copy_6 (by decide) (fun c1 => ?_) (fun c1 => ?_)
    · refine aw_iconst (pc := 39) (x := 0) d_M_copy_39 (by decide) ?_
      refine aw_istore_n (pc := 40) (lv' := [(3, .int 0), (0, .ref l0), (1, .int l1), (2, .int l2)]) d_M_copy_40 rfl (by decide) rfl ?_
      exact aw_lv [1, 2, 3, 0] rfl (M_copy_L41_ok Y l0 l1 l2 tl0 FU 0 h)
    · refine aw_aload_n (pc := 9) d_M_copy_9 rfl 0 rfl ?_
      refine gt_1220 (pc := 10) d_M_copy_10 w7_47 tl0 (fun tt8 => ?_)
      refine aw_sipush (pc := 13) (x := 576) d_M_copy_13 (by decide) ?_
      refine aw_iload_n (pc := 16) d_M_copy_16 rfl 2 rfl ?_
      refine aw_imul (pc := 17) d_M_copy_17 ?_
      refine aw_iload_n (pc := 18) d_M_copy_18 rfl 3 rfl ?_
      refine aw_iadd (pc := 19) d_M_copy_19 ?_
      refine aw_aload_n (pc := 20) d_M_copy_20 rfl 0 rfl ?_
      refine gt_1220 (pc := 21) d_M_copy_21 w7_47 tl0 (fun tt9 => ?_)
      refine aw_sipush (pc := 24) (x := 576) d_M_copy_24 (by decide) ?_
      refine aw_iload_n (pc := 27) d_M_copy_27 rfl 1 rfl ?_
      refine aw_imul (pc := 28) d_M_copy_28 ?_
      refine aw_iload_n (pc := 29) d_M_copy_29 rfl 3 rfl ?_
      refine aw_iadd (pc := 30) d_M_copy_30 ?_
      refine aw_iaload (pc := 31) d_M_copy_31 tt9 (fun c10 => ?_)
      refine aw_iastore (pc := 32) d_M_copy_32 tt8 (fun c11 => ?_)
      refine aw_letH (fun h12 => ?_)
      refine aw_iinc (pc := 33) (w := l3 + 1) (lv' := [(3, .int (l3 + 1)), (0, .ref l0), (1, .int l1), (2, .int l2)]) d_M_copy_33 3 rfl rfl (by decide) rfl ?_
      refine aw_goto (pc := 36) (tgt := 2) d_M_copy_36 (by decide) ?_
      exact aw_lv [1, 2, 3, 0] rfl (ih (l3 + 1) h12)
def M_copy (Y : Ly) (l0 : Nat) (l1 : Int32) (l2 : Int32) (h : Hp) : Option Hp :=
  M_copy_L2 Y l0 l1 l2 FU 0 h
theorem ok_M_copy (Y : Ly) (l0 : Nat) (l1 : Int32) (l2 : Int32) (h : Hp) (t0 : isO Y 12 l0) : AM Y 0 K_M_copy [.ref l0, .int l1, .int l2] h (M_copy Y l0 l1 l2 h) rV := by
  refine AM.of rfl (Nat.le_of_ble_eq_true rfl) ?_
  show AW Y 0 K_M_copy 0 [(0, .ref l0), (1, .int l1), (2, .int l2)] [] h (M_copy Y l0 l1 l2 h) rV
  unfold M_copy
  refine aw_iconst (pc := 0) (x := 0) d_M_copy_0 (by decide) ?_
  refine aw_istore_n (pc := 1) (lv' := [(3, .int 0), (0, .ref l0), (1, .int l1), (2, .int l2)]) d_M_copy_1 rfl (by decide) rfl ?_
  exact aw_lv [1, 2, 3, 0] rfl (M_copy_L2_ok Y l0 l1 l2 t0 FU 0 h)
/-! LastPagesModel.refuse(I)I -/
theorem d_M_refuse_0 : decode prog_14_method_6_code 0 = .ok (.aload_n 0, 1) := by decide +kernel
theorem d_M_refuse_1 : decode prog_14_method_6_code 1 = .ok (.iload_n 1, 1) := by decide +kernel
theorem d_M_refuse_2 : decode prog_14_method_6_code 2 = .ok (.putfield 81, 3) := by decide +kernel
theorem d_M_refuse_5 : decode prog_14_method_6_code 5 = .ok (.iconst (-1), 1) := by decide +kernel
theorem d_M_refuse_6 : decode prog_14_method_6_code 6 = .ok (.ireturn, 1) := by decide +kernel
def M_refuse (Y : Ly) (l0 : Nat) (l1 : Int32) (h : Hp) : Option (Int32 × Hp) :=
  letH (hSi h 1200 l0 l1) fun h1 =>
  some ((-1), h1)
theorem ok_M_refuse (Y : Ly) (l0 : Nat) (l1 : Int32) (h : Hp) (t0 : isO Y 12 l0) : AM Y 0 K_M_refuse [.ref l0, .int l1] h (M_refuse Y l0 l1 h) rI := by
  refine AM.of rfl (Nat.le_of_ble_eq_true rfl) ?_
  show AW Y 0 K_M_refuse 0 [(0, .ref l0), (1, .int l1)] [] h (M_refuse Y l0 l1 h) rI
  unfold M_refuse
  refine aw_aload_n (pc := 0) d_M_refuse_0 rfl 0 rfl ?_
  refine aw_iload_n (pc := 1) d_M_refuse_1 rfl 1 rfl ?_
  refine pt_1200 (pc := 2) d_M_refuse_2 w7_27 t0 ?_
  refine aw_letH (fun h1 => ?_)
  refine aw_iconst (pc := 5) (x := (-1)) d_M_refuse_5 (by decide) ?_
  exact aw_ireturn (pc := 6) d_M_refuse_6 rfl rfl
/-! LastPagesModel.back()I -/
theorem d_M_back_0 : decode prog_14_method_184_code 0 = .ok (.aload_n 0, 1) := by decide +kernel
theorem d_M_back_1 : decode prog_14_method_184_code 1 = .ok (.iconst 0, 1) := by decide +kernel
theorem d_M_back_2 : decode prog_14_method_184_code 2 = .ok (.putfield 78, 3) := by decide +kernel
theorem d_M_back_5 : decode prog_14_method_184_code 5 = .ok (.aload_n 0, 1) := by decide +kernel
theorem d_M_back_6 : decode prog_14_method_184_code 6 = .ok (.iconst 0, 1) := by decide +kernel
theorem d_M_back_7 : decode prog_14_method_184_code 7 = .ok (.putfield 81, 3) := by decide +kernel
theorem d_M_back_10 : decode prog_14_method_184_code 10 = .ok (.aload_n 0, 1) := by decide +kernel
theorem d_M_back_11 : decode prog_14_method_184_code 11 = .ok (.getfield 574, 3) := by decide +kernel
theorem d_M_back_14 : decode prog_14_method_184_code 14 = .ok (.ifCond .ne 10, 3) := by decide +kernel
theorem d_M_back_17 : decode prog_14_method_184_code 17 = .ok (.aload_n 0, 1) := by decide +kernel
theorem d_M_back_18 : decode prog_14_method_184_code 18 = .ok (.bipush 8, 2) := by decide +kernel
theorem d_M_back_20 : decode prog_14_method_184_code 20 = .ok (.invokevirtual 367, 3) := by decide +kernel
theorem d_M_back_23 : decode prog_14_method_184_code 23 = .ok (.ireturn, 1) := by decide +kernel
theorem d_M_back_24 : decode prog_14_method_184_code 24 = .ok (.aload_n 0, 1) := by decide +kernel
theorem d_M_back_25 : decode prog_14_method_184_code 25 = .ok (.aload_n 0, 1) := by decide +kernel
theorem d_M_back_26 : decode prog_14_method_184_code 26 = .ok (.getfield 574, 3) := by decide +kernel
theorem d_M_back_29 : decode prog_14_method_184_code 29 = .ok (.iconst 0, 1) := by decide +kernel
theorem d_M_back_30 : decode prog_14_method_184_code 30 = .ok (.invokevirtual 350, 3) := by decide +kernel
theorem d_M_back_33 : decode prog_14_method_184_code 33 = .ok (.aload_n 0, 1) := by decide +kernel
theorem d_M_back_34 : decode prog_14_method_184_code 34 = .ok (.dup, 1) := by decide +kernel
theorem d_M_back_35 : decode prog_14_method_184_code 35 = .ok (.getfield 574, 3) := by decide +kernel
theorem d_M_back_38 : decode prog_14_method_184_code 38 = .ok (.iconst 1, 1) := by decide +kernel
theorem d_M_back_39 : decode prog_14_method_184_code 39 = .ok (.isub, 1) := by decide +kernel
theorem d_M_back_40 : decode prog_14_method_184_code 40 = .ok (.putfield 574, 3) := by decide +kernel
theorem d_M_back_43 : decode prog_14_method_184_code 43 = .ok (.aload_n 0, 1) := by decide +kernel
theorem d_M_back_44 : decode prog_14_method_184_code 44 = .ok (.getfield 574, 3) := by decide +kernel
theorem d_M_back_47 : decode prog_14_method_184_code 47 = .ok (.ireturn, 1) := by decide +kernel
def M_back (Y : Ly) (l0 : Nat) (h : Hp) : Option (Int32 × Hp) :=
  letH (hSi h 1201 l0 0) fun h1 =>
  letH (hSi h1 1200 l0 0) fun h2 =>
  if (hGi h2 1223 l0) = 0 then
    (M_refuse Y l0 8 h2).bind fun q4 =>
    some (q4.1, q4.2)
  else
    (M_copy Y l0 (hGi h2 1223 l0) 0 h2).bind fun q5 =>
    letH (hSi q5 1223 l0 ((hGi q5 1223 l0) - 1)) fun h6 =>
    some (hGi h6 1223 l0, h6)
theorem ok_M_back (Y : Ly) (l0 : Nat) (h : Hp) (t0 : isO Y 12 l0) : AM Y 1 K_M_back [.ref l0] h (M_back Y l0 h) rI := by
  refine AM.of rfl (Nat.le_of_ble_eq_true rfl) ?_
  show AW Y 1 K_M_back 0 [(0, .ref l0)] [] h (M_back Y l0 h) rI
  unfold M_back
  refine aw_aload_n (pc := 0) d_M_back_0 rfl 0 rfl ?_
  refine aw_iconst (pc := 1) (x := 0) d_M_back_1 (by decide) ?_
  refine pt_1201 (pc := 2) d_M_back_2 w7_28 t0 ?_
  refine aw_letH (fun h1 => ?_)
  refine aw_aload_n (pc := 5) d_M_back_5 rfl 0 rfl ?_
  refine aw_iconst (pc := 6) (x := 0) d_M_back_6 (by decide) ?_
  refine pt_1200 (pc := 7) d_M_back_7 w7_27 t0 ?_
  refine aw_letH (fun h2 => ?_)
  refine aw_aload_n (pc := 10) d_M_back_10 rfl 0 rfl ?_
  refine gt_1223 (pc := 11) d_M_back_11 w7_50 t0 ?_
  refine aw_if_ne (pc := 14) (tgt := 24) d_M_back_14 (by decide) (fun c3 => ?_) (fun c3 => ?_)
  · refine aw_aload_n (pc := 17) d_M_back_17 rfl 0 rfl ?_
    refine aw_bipush (pc := 18) (x := 8) d_M_back_18 (by decide) ?_
    refine aw_cVrI (pc := 20) (ci := 12) (T := TX12) (N := 44) (As := [.int 8]) (st := []) (ok_M_refuse Y l0 8 h2 t0) okV_M_refuse rfl (by decide) t0 w9_8 d_M_back_20 rfl (Nat.le_of_ble_eq_true rfl) rfl (Nat.le_of_ble_eq_true rfl) (fun q4 hq4 hTq4 => ?_)
    exact aw_ireturn (pc := 23) d_M_back_23 rfl rfl
  · refine aw_aload_n (pc := 24) d_M_back_24 rfl 0 rfl ?_
    refine aw_aload_n (pc := 25) d_M_back_25 rfl 0 rfl ?_
    refine gt_1223 (pc := 26) d_M_back_26 w7_50 t0 ?_
    refine aw_iconst (pc := 29) (x := 0) d_M_back_29 (by decide) ?_
    refine aw_cVrV (pc := 30) (ci := 12) (T := TX12) (N := 44) (As := [.int (hGi h2 1223 l0), .int 0]) (st := []) (ok_M_copy Y l0 (hGi h2 1223 l0) 0 h2 t0) okV_M_copy rfl (by decide) t0 w8_223 d_M_back_30 rfl (Nat.le_of_ble_eq_true rfl) rfl (Nat.le_of_ble_eq_true rfl) (fun q5 hq5 hTq5 => ?_)
    refine aw_aload_n (pc := 33) d_M_back_33 rfl 0 rfl ?_
    refine aw_dup (pc := 34) d_M_back_34 rfl ?_
    refine gt_1223 (pc := 35) d_M_back_35 w7_50 t0 ?_
    refine aw_iconst (pc := 38) (x := 1) d_M_back_38 (by decide) ?_
    refine aw_isub (pc := 39) d_M_back_39 ?_
    refine pt_1223 (pc := 40) d_M_back_40 w7_50 t0 ?_
    refine aw_letH (fun h6 => ?_)
    refine aw_aload_n (pc := 43) d_M_back_43 rfl 0 rfl ?_
    refine gt_1223 (pc := 44) d_M_back_44 w7_50 t0 ?_
    exact aw_ireturn (pc := 47) d_M_back_47 rfl rfl
/-! LastPagesModel.has(II)Z -/
theorem d_M_has_0 : decode prog_14_method_19_code 0 = .ok (.iload_n 0, 1) := by decide +kernel
theorem d_M_has_1 : decode prog_14_method_19_code 1 = .ok (.iload_n 1, 1) := by decide +kernel
theorem d_M_has_2 : decode prog_14_method_19_code 2 = .ok (.ishr, 1) := by decide +kernel
theorem d_M_has_3 : decode prog_14_method_19_code 3 = .ok (.iconst 1, 1) := by decide +kernel
theorem d_M_has_4 : decode prog_14_method_19_code 4 = .ok (.iand, 1) := by decide +kernel
theorem d_M_has_5 : decode prog_14_method_19_code 5 = .ok (.iconst 1, 1) := by decide +kernel
theorem d_M_has_6 : decode prog_14_method_19_code 6 = .ok (.if_icmp .ne 7, 3) := by decide +kernel
theorem d_M_has_9 : decode prog_14_method_19_code 9 = .ok (.iconst 1, 1) := by decide +kernel
theorem d_M_has_10 : decode prog_14_method_19_code 10 = .ok (.goto 4, 3) := by decide +kernel
theorem d_M_has_13 : decode prog_14_method_19_code 13 = .ok (.iconst 0, 1) := by decide +kernel
theorem d_M_has_14 : decode prog_14_method_19_code 14 = .ok (.ireturn, 1) := by decide +kernel
def M_has (Y : Ly) (l0 : Int32) (l1 : Int32) (h : Hp) : Option Bool :=
  if ((l0 >>> (l1 &&& 31)) &&& 1) = 1 then
    some true
  else
    some false
theorem ok_M_has (Y : Ly) (l0 : Int32) (l1 : Int32) (h : Hp) : AM Y 0 K_M_has [.int l0, .int l1] h (M_has Y l0 l1 h) (pZ h) := by
  refine AM.of rfl (Nat.le_of_ble_eq_true rfl) ?_
  show AW Y 0 K_M_has 0 [(0, .int l0), (1, .int l1)] [] h (M_has Y l0 l1 h) (pZ h)
  unfold M_has
  refine aw_iload_n (pc := 0) d_M_has_0 rfl 0 rfl ?_
  refine aw_iload_n (pc := 1) d_M_has_1 rfl 1 rfl ?_
  refine aw_ishr (pc := 2) d_M_has_2 ?_
  refine aw_iconst (pc := 3) (x := 1) d_M_has_3 (by decide) ?_
  refine aw_iand (pc := 4) d_M_has_4 ?_
  refine aw_iconst (pc := 5) (x := 1) d_M_has_5 (by decide) ?_
  refine aw_icmp_ne (pc := 6) (tgt := 13) d_M_has_6 (by decide) (fun c1 => ?_) (fun c1 => ?_)
  · refine aw_iconst (pc := 9) (x := 1) d_M_has_9 (by decide) ?_
    refine aw_goto (pc := 10) (tgt := 14) d_M_has_10 (by decide) ?_
    exact aw_zreturn (pc := 14) (b := true) d_M_has_14 rfl rfl
  · refine aw_iconst (pc := 13) (x := 0) d_M_has_13 (by decide) ?_
    exact aw_zreturn (pc := 14) (b := false) d_M_has_14 rfl rfl
/-! LastPagesModel.guardsOf(II)I -/
theorem d_M_guardsOf_0 : decode prog_14_method_167_code 0 = .ok (.iconst 0, 1) := by decide +kernel
theorem d_M_guardsOf_1 : decode prog_14_method_167_code 1 = .ok (.istore_n 3, 1) := by decide +kernel
theorem d_M_guardsOf_2 : decode prog_14_method_167_code 2 = .ok (.iconst 0, 1) := by decide +kernel
theorem d_M_guardsOf_3 : decode prog_14_method_167_code 3 = .ok (.istore 4, 2) := by decide +kernel
theorem d_M_guardsOf_5 : decode prog_14_method_167_code 5 = .ok (.iload 4, 2) := by decide +kernel
theorem d_M_guardsOf_7 : decode prog_14_method_167_code 7 = .ok (.aload_n 0, 1) := by decide +kernel
theorem d_M_guardsOf_8 : decode prog_14_method_167_code 8 = .ok (.getfield 35, 3) := by decide +kernel
theorem d_M_guardsOf_11 : decode prog_14_method_167_code 11 = .ok (.bipush 7, 2) := by decide +kernel
theorem d_M_guardsOf_13 : decode prog_14_method_167_code 13 = .ok (.iaload, 1) := by decide +kernel
theorem d_M_guardsOf_14 : decode prog_14_method_167_code 14 = .ok (.if_icmp .ge 44, 3) := by decide +kernel
theorem d_M_guardsOf_17 : decode prog_14_method_167_code 17 = .ok (.iload_n 3, 1) := by decide +kernel
theorem d_M_guardsOf_18 : decode prog_14_method_167_code 18 = .ok (.iload_n 2, 1) := by decide +kernel
theorem d_M_guardsOf_19 : decode prog_14_method_167_code 19 = .ok (.iload 4, 2) := by decide +kernel
theorem d_M_guardsOf_21 : decode prog_14_method_167_code 21 = .ok (.invokestatic 117, 3) := by decide +kernel
theorem d_M_guardsOf_24 : decode prog_14_method_167_code 24 = .ok (.ifCond .eq 25, 3) := by decide +kernel
theorem d_M_guardsOf_27 : decode prog_14_method_167_code 27 = .ok (.aload_n 0, 1) := by decide +kernel
theorem d_M_guardsOf_28 : decode prog_14_method_167_code 28 = .ok (.getfield 35, 3) := by decide +kernel
theorem d_M_guardsOf_31 : decode prog_14_method_167_code 31 = .ok (.sipush 290, 3) := by decide +kernel
theorem d_M_guardsOf_34 : decode prog_14_method_167_code 34 = .ok (.iload 4, 2) := by decide +kernel
theorem d_M_guardsOf_36 : decode prog_14_method_167_code 36 = .ok (.iadd, 1) := by decide +kernel
theorem d_M_guardsOf_37 : decode prog_14_method_167_code 37 = .ok (.iaload, 1) := by decide +kernel
theorem d_M_guardsOf_38 : decode prog_14_method_167_code 38 = .ok (.iload_n 1, 1) := by decide +kernel
theorem d_M_guardsOf_39 : decode prog_14_method_167_code 39 = .ok (.invokestatic 117, 3) := by decide +kernel
theorem d_M_guardsOf_42 : decode prog_14_method_167_code 42 = .ok (.ifCond .eq 7, 3) := by decide +kernel
theorem d_M_guardsOf_45 : decode prog_14_method_167_code 45 = .ok (.iconst 1, 1) := by decide +kernel
theorem d_M_guardsOf_46 : decode prog_14_method_167_code 46 = .ok (.goto 4, 3) := by decide +kernel
theorem d_M_guardsOf_49 : decode prog_14_method_167_code 49 = .ok (.iconst 0, 1) := by decide +kernel
theorem d_M_guardsOf_50 : decode prog_14_method_167_code 50 = .ok (.iadd, 1) := by decide +kernel
theorem d_M_guardsOf_51 : decode prog_14_method_167_code 51 = .ok (.istore_n 3, 1) := by decide +kernel
theorem d_M_guardsOf_52 : decode prog_14_method_167_code 52 = .ok (.iinc 4 1, 3) := by decide +kernel
theorem d_M_guardsOf_55 : decode prog_14_method_167_code 55 = .ok (.goto (-50), 3) := by decide +kernel
theorem d_M_guardsOf_58 : decode prog_14_method_167_code 58 = .ok (.iload_n 3, 1) := by decide +kernel
theorem d_M_guardsOf_59 : decode prog_14_method_167_code 59 = .ok (.ireturn, 1) := by decide +kernel
def M_guardsOf_L5 (Y : Ly) (l0 : Nat) (l1 : Int32) (l2 : Int32) (h : Hp) : Nat → Int32 → Int32 → Option Int32
  | 0, _, _ => none
  | F + 1, l3, l4 =>
    if inB 7 (lnY Y (hGr h 1220 l0)) = true then
      if (hAi h (hGr h 1220 l0) (Int32.toNatClampNeg 7)) ≤ l4 then
        some l3
      else
        (M_has Y l2 l4 h).bind fun q4 =>
        if q4 = true then
          if inB (290 + l4) (lnY Y (hGr h 1220 l0)) = true then
            (M_has Y (hAi h (hGr h 1220 l0) (Int32.toNatClampNeg (290 + l4))) l1 h).bind fun q8 =>
            if q8 = true then
              M_guardsOf_L5 Y l0 l1 l2 h F (l3 + 1) (l4 + 1)
            else
              M_guardsOf_L5 Y l0 l1 l2 h F (l3 + 0) (l4 + 1)
          else none
        else
          M_guardsOf_L5 Y l0 l1 l2 h F (l3 + 0) (l4 + 1)
    else none
theorem M_guardsOf_L5_ok (Y : Ly) (l0 : Nat) (l1 : Int32) (l2 : Int32) (h : Hp) (tl0 : isO Y 12 l0) : ∀ (F : Nat) (l3 : Int32) (l4 : Int32), AW Y 1 K_M_guardsOf 5 [(0, .ref l0), (1, .int l1), (2, .int l2), (3, .int l3), (4, .int l4)] [] h (M_guardsOf_L5 Y l0 l1 l2 h F l3 l4) (pI h) := by
  intro F
  induction F with
  | zero =>
    intro l3 l4
    exact aw_none
  | succ F ih =>
    intro l3 l4
    unfold M_guardsOf_L5
    refine aw_iload (pc := 5) d_M_guardsOf_5 4 rfl ?_
    refine aw_aload_n (pc := 7) d_M_guardsOf_7 rfl 0 rfl ?_
    refine gt_1220 (pc := 8) d_M_guardsOf_8 w7_47 tl0 (fun tt1 => ?_)
    refine aw_bipush (pc := 11) (x := 7) d_M_guardsOf_11 (by decide) ?_
    refine aw_iaload (pc := 13) d_M_guardsOf_13 tt1 (fun c2 => ?_)
    refine aw_icmp_ge (pc := 14) (tgt := 58) d_M_guardsOf_14 (by decide) (fun c3 => ?_) (fun c3 => ?_)
    · refine aw_iload_n (pc := 58) d_M_guardsOf_58 rfl 3 rfl ?_
      exact aw_ireturn (pc := 59) d_M_guardsOf_59 rfl rfl
    · refine aw_iload_n (pc := 17) d_M_guardsOf_17 rfl 3 rfl ?_
      refine aw_iload_n (pc := 18) d_M_guardsOf_18 rfl 2 rfl ?_
      refine aw_iload (pc := 19) d_M_guardsOf_19 4 rfl ?_
      refine aw_cSpZ (pc := 21) (As := [.int l2, .int l4]) (st := [.int l3]) (ok_M_has Y l2 l4 h) okS_M_has w9_110 d_M_guardsOf_21 rfl (Nat.le_of_ble_eq_true rfl) rfl (Nat.le_of_ble_eq_true rfl) (fun q4 hq4 hTq4 => ?_)
      refine aw_beq (pc := 24) (tgt := 49) d_M_guardsOf_24 (by decide) (fun c5 => ?_) (fun c5 => ?_)
      · refine aw_aload_n (pc := 27) d_M_guardsOf_27 rfl 0 rfl ?_
        refine gt_1220 (pc := 28) d_M_guardsOf_28 w7_47 tl0 (fun tt6 => ?_)
        refine aw_sipush (pc := 31) (x := 290) d_M_guardsOf_31 (by decide) ?_
        refine aw_iload (pc := 34) d_M_guardsOf_34 4 rfl ?_
        refine aw_iadd (pc := 36) d_M_guardsOf_36 ?_
        refine aw_iaload (pc := 37) d_M_guardsOf_37 tt6 (fun c7 => ?_)
        refine aw_iload_n (pc := 38) d_M_guardsOf_38 rfl 1 rfl ?_
        refine aw_cSpZ (pc := 39) (As := [.int (hAi h (hGr h 1220 l0) (Int32.toNatClampNeg (290 + l4))), .int l1]) (st := [.int l3]) (ok_M_has Y (hAi h (hGr h 1220 l0) (Int32.toNatClampNeg (290 + l4))) l1 h) okS_M_has w9_110 d_M_guardsOf_39 rfl (Nat.le_of_ble_eq_true rfl) rfl (Nat.le_of_ble_eq_true rfl) (fun q8 hq8 hTq8 => ?_)
        refine aw_beq (pc := 42) (tgt := 49) d_M_guardsOf_42 (by decide) (fun c9 => ?_) (fun c9 => ?_)
        · refine aw_iconst (pc := 45) (x := 1) d_M_guardsOf_45 (by decide) ?_
          refine aw_goto (pc := 46) (tgt := 50) d_M_guardsOf_46 (by decide) ?_
          refine aw_iadd (pc := 50) d_M_guardsOf_50 ?_
          refine aw_istore_n (pc := 51) (lv' := [(3, .int (l3 + 1)), (0, .ref l0), (1, .int l1), (2, .int l2), (4, .int l4)]) d_M_guardsOf_51 rfl (by decide) rfl ?_
          refine aw_iinc (pc := 52) (w := l4 + 1) (lv' := [(4, .int (l4 + 1)), (3, .int (l3 + 1)), (0, .ref l0), (1, .int l1), (2, .int l2)]) d_M_guardsOf_52 4 rfl rfl (by decide) rfl ?_
          refine aw_goto (pc := 55) (tgt := 5) d_M_guardsOf_55 (by decide) ?_
          exact aw_lv [2, 3, 4, 1, 0] rfl (ih (l3 + 1) (l4 + 1))
        · refine aw_iconst (pc := 49) (x := 0) d_M_guardsOf_49 (by decide) ?_
          refine aw_iadd (pc := 50) d_M_guardsOf_50 ?_
          refine aw_istore_n (pc := 51) (lv' := [(3, .int (l3 + 0)), (0, .ref l0), (1, .int l1), (2, .int l2), (4, .int l4)]) d_M_guardsOf_51 rfl (by decide) rfl ?_
          refine aw_iinc (pc := 52) (w := l4 + 1) (lv' := [(4, .int (l4 + 1)), (3, .int (l3 + 0)), (0, .ref l0), (1, .int l1), (2, .int l2)]) d_M_guardsOf_52 4 rfl rfl (by decide) rfl ?_
          refine aw_goto (pc := 55) (tgt := 5) d_M_guardsOf_55 (by decide) ?_
          exact aw_lv [2, 3, 4, 1, 0] rfl (ih (l3 + 0) (l4 + 1))
      · refine aw_iconst (pc := 49) (x := 0) d_M_guardsOf_49 (by decide) ?_
        refine aw_iadd (pc := 50) d_M_guardsOf_50 ?_
        refine aw_istore_n (pc := 51) (lv' := [(3, .int (l3 + 0)), (0, .ref l0), (1, .int l1), (2, .int l2), (4, .int l4)]) d_M_guardsOf_51 rfl (by decide) rfl ?_
        refine aw_iinc (pc := 52) (w := l4 + 1) (lv' := [(4, .int (l4 + 1)), (3, .int (l3 + 0)), (0, .ref l0), (1, .int l1), (2, .int l2)]) d_M_guardsOf_52 4 rfl rfl (by decide) rfl ?_
        refine aw_goto (pc := 55) (tgt := 5) d_M_guardsOf_55 (by decide) ?_
        exact aw_lv [2, 3, 4, 1, 0] rfl (ih (l3 + 0) (l4 + 1))
def M_guardsOf (Y : Ly) (l0 : Nat) (l1 : Int32) (l2 : Int32) (h : Hp) : Option Int32 :=
  M_guardsOf_L5 Y l0 l1 l2 h FU 0 0
theorem ok_M_guardsOf (Y : Ly) (l0 : Nat) (l1 : Int32) (l2 : Int32) (h : Hp) (t0 : isO Y 12 l0) : AM Y 1 K_M_guardsOf [.ref l0, .int l1, .int l2] h (M_guardsOf Y l0 l1 l2 h) (pI h) := by
  refine AM.of rfl (Nat.le_of_ble_eq_true rfl) ?_
  show AW Y 1 K_M_guardsOf 0 [(0, .ref l0), (1, .int l1), (2, .int l2)] [] h (M_guardsOf Y l0 l1 l2 h) (pI h)
  unfold M_guardsOf
  refine aw_iconst (pc := 0) (x := 0) d_M_guardsOf_0 (by decide) ?_
  refine aw_istore_n (pc := 1) (lv' := [(3, .int 0), (0, .ref l0), (1, .int l1), (2, .int l2)]) d_M_guardsOf_1 rfl (by decide) rfl ?_
  refine aw_iconst (pc := 2) (x := 0) d_M_guardsOf_2 (by decide) ?_
  refine aw_istore (pc := 3) (lv' := [(4, .int 0), (3, .int 0), (0, .ref l0), (1, .int l1), (2, .int l2)]) d_M_guardsOf_3 (by decide) rfl ?_
  exact aw_lv [2, 3, 4, 1, 0] rfl (M_guardsOf_L5_ok Y l0 l1 l2 h t0 FU 0 0)
/-! LastPagesModel.barest()I -/
theorem d_M_barest_0 : decode prog_14_method_171_code 0 = .ok (.aload_n 0, 1) := by decide +kernel
theorem d_M_barest_1 : decode prog_14_method_171_code 1 = .ok (.iconst 0, 1) := by decide +kernel
theorem d_M_barest_2 : decode prog_14_method_171_code 2 = .ok (.putfield 78, 3) := by decide +kernel
theorem d_M_barest_5 : decode prog_14_method_171_code 5 = .ok (.aload_n 0, 1) := by decide +kernel
theorem d_M_barest_6 : decode prog_14_method_171_code 6 = .ok (.iconst 0, 1) := by decide +kernel
theorem d_M_barest_7 : decode prog_14_method_171_code 7 = .ok (.putfield 81, 3) := by decide +kernel
theorem d_M_barest_10 : decode prog_14_method_171_code 10 = .ok (.iconst (-1), 1) := by decide +kernel
theorem d_M_barest_11 : decode prog_14_method_171_code 11 = .ok (.istore_n 1, 1) := by decide +kernel
theorem d_M_barest_12 : decode prog_14_method_171_code 12 = .ok (.iconst 0, 1) := by decide +kernel
theorem d_M_barest_13 : decode prog_14_method_171_code 13 = .ok (.istore_n 2, 1) := by decide +kernel
theorem d_M_barest_14 : decode prog_14_method_171_code 14 = .ok (.iload_n 2, 1) := by decide +kernel
theorem d_M_barest_15 : decode prog_14_method_171_code 15 = .ok (.aload_n 0, 1) := by decide +kernel
theorem d_M_barest_16 : decode prog_14_method_171_code 16 = .ok (.getfield 35, 3) := by decide +kernel
theorem d_M_barest_19 : decode prog_14_method_171_code 19 = .ok (.iconst 2, 1) := by decide +kernel
theorem d_M_barest_20 : decode prog_14_method_171_code 20 = .ok (.iaload, 1) := by decide +kernel
theorem d_M_barest_21 : decode prog_14_method_171_code 21 = .ok (.if_icmp .ge 34, 3) := by decide +kernel
theorem d_M_barest_24 : decode prog_14_method_171_code 24 = .ok (.iload_n 1, 1) := by decide +kernel
theorem d_M_barest_25 : decode prog_14_method_171_code 25 = .ok (.ifCond .lt 22, 3) := by decide +kernel
theorem d_M_barest_28 : decode prog_14_method_171_code 28 = .ok (.aload_n 0, 1) := by decide +kernel
theorem d_M_barest_29 : decode prog_14_method_171_code 29 = .ok (.iload_n 2, 1) := by decide +kernel
theorem d_M_barest_30 : decode prog_14_method_171_code 30 = .ok (.sipush 255, 3) := by decide +kernel
theorem d_M_barest_33 : decode prog_14_method_171_code 33 = .ok (.invokevirtual 509, 3) := by decide +kernel
theorem d_M_barest_36 : decode prog_14_method_171_code 36 = .ok (.aload_n 0, 1) := by decide +kernel
theorem d_M_barest_37 : decode prog_14_method_171_code 37 = .ok (.iload_n 1, 1) := by decide +kernel
theorem d_M_barest_38 : decode prog_14_method_171_code 38 = .ok (.sipush 255, 3) := by decide +kernel
theorem d_M_barest_41 : decode prog_14_method_171_code 41 = .ok (.invokevirtual 509, 3) := by decide +kernel
theorem d_M_barest_44 : decode prog_14_method_171_code 44 = .ok (.if_icmp .ge 5, 3) := by decide +kernel
theorem d_M_barest_47 : decode prog_14_method_171_code 47 = .ok (.iload_n 2, 1) := by decide +kernel
theorem d_M_barest_48 : decode prog_14_method_171_code 48 = .ok (.istore_n 1, 1) := by decide +kernel
theorem d_M_barest_49 : decode prog_14_method_171_code 49 = .ok (.iinc 2 1, 3) := by decide +kernel
theorem d_M_barest_52 : decode prog_14_method_171_code 52 = .ok (.goto (-38), 3) := by decide +kernel
theorem d_M_barest_55 : decode prog_14_method_171_code 55 = .ok (.iload_n 1, 1) := by decide +kernel
theorem d_M_barest_56 : decode prog_14_method_171_code 56 = .ok (.ifCond .ge 12, 3) := by decide +kernel
theorem d_M_barest_59 : decode prog_14_method_171_code 59 = .ok (.aload_n 0, 1) := by decide +kernel
theorem d_M_barest_60 : decode prog_14_method_171_code 60 = .ok (.bipush 8, 2) := by decide +kernel
theorem d_M_barest_62 : decode prog_14_method_171_code 62 = .ok (.invokevirtual 367, 3) := by decide +kernel
theorem d_M_barest_65 : decode prog_14_method_171_code 65 = .ok (.goto 4, 3) := by decide +kernel
theorem d_M_barest_68 : decode prog_14_method_171_code 68 = .ok (.iload_n 1, 1) := by decide +kernel
theorem d_M_barest_69 : decode prog_14_method_171_code 69 = .ok (.ireturn, 1) := by decide +kernel
def M_barest_L14 (Y : Ly) (l0 : Nat) (h : Hp) : Nat → Int32 → Int32 → Option (Int32 × Hp)
  | 0, _, _ => none
  | F + 1, l1, l2 =>
    if inB 2 (lnY Y (hGr h 1220 l0)) = true then
      if (hAi h (hGr h 1220 l0) (Int32.toNatClampNeg 2)) ≤ l2 then
        if 0 ≤ l1 then
          some (l1, h)
        else
          (M_refuse Y l0 8 h).bind fun q7 =>
          some (q7.1, q7.2)
      else
        if l1 < 0 then
          M_barest_L14 Y l0 h F l2 (l2 + 1)
        else
          (M_guardsOf Y l0 l2 255 h).bind fun q9 =>
          (M_guardsOf Y l0 l1 255 h).bind fun q10 =>
          if q10 ≤ q9 then
            M_barest_L14 Y l0 h F l1 (l2 + 1)
          else
            M_barest_L14 Y l0 h F l2 (l2 + 1)
    else none
theorem M_barest_L14_ok (Y : Ly) (l0 : Nat) (h : Hp) (tl0 : isO Y 12 l0) : ∀ (F : Nat) (l1 : Int32) (l2 : Int32), AW Y 2 K_M_barest 14 [(0, .ref l0), (1, .int l1), (2, .int l2)] [] h (M_barest_L14 Y l0 h F l1 l2) rI := by
  intro F
  induction F with
  | zero =>
    intro l1 l2
    exact aw_none
  | succ F ih =>
    intro l1 l2
    unfold M_barest_L14
    refine aw_iload_n (pc := 14) d_M_barest_14 rfl 2 rfl ?_
    refine aw_aload_n (pc := 15) d_M_barest_15 rfl 0 rfl ?_
    refine gt_1220 (pc := 16) d_M_barest_16 w7_47 tl0 (fun tt3 => ?_)
    refine aw_iconst (pc := 19) (x := 2) d_M_barest_19 (by decide) ?_
    refine aw_iaload (pc := 20) d_M_barest_20 tt3 (fun c4 => ?_)
    refine aw_icmp_ge (pc := 21) (tgt := 55) d_M_barest_21 (by decide) (fun c5 => ?_) (fun c5 => ?_)
    · refine aw_iload_n (pc := 55) d_M_barest_55 rfl 1 rfl ?_
      refine aw_if_ge (pc := 56) (tgt := 68) d_M_barest_56 (by decide) (fun c6 => ?_) (fun c6 => ?_)
      · refine aw_iload_n (pc := 68) d_M_barest_68 rfl 1 rfl ?_
        exact aw_ireturn (pc := 69) d_M_barest_69 rfl rfl
      · refine aw_aload_n (pc := 59) d_M_barest_59 rfl 0 rfl ?_
        refine aw_bipush (pc := 60) (x := 8) d_M_barest_60 (by decide) ?_
        refine aw_cVrI (pc := 62) (ci := 12) (T := TX12) (N := 44) (As := [.int 8]) (st := []) (ok_M_refuse Y l0 8 h tl0) okV_M_refuse rfl (by decide) tl0 w9_8 d_M_barest_62 rfl (Nat.le_of_ble_eq_true rfl) rfl (Nat.le_of_ble_eq_true rfl) (fun q7 hq7 hTq7 => ?_)
        refine aw_goto (pc := 65) (tgt := 69) d_M_barest_65 (by decide) ?_
        exact aw_ireturn (pc := 69) d_M_barest_69 rfl rfl
    · refine aw_iload_n (pc := 24) d_M_barest_24 rfl 1 rfl ?_
      refine aw_if_lt (pc := 25) (tgt := 47) d_M_barest_25 (by decide) (fun c8 => ?_) (fun c8 => ?_)
      · refine aw_iload_n (pc := 47) d_M_barest_47 rfl 2 rfl ?_
        refine aw_istore_n (pc := 48) (lv' := [(1, .int l2), (0, .ref l0), (2, .int l2)]) d_M_barest_48 rfl (by decide) rfl ?_
        refine aw_iinc (pc := 49) (w := l2 + 1) (lv' := [(2, .int (l2 + 1)), (1, .int l2), (0, .ref l0)]) d_M_barest_49 2 rfl rfl (by decide) rfl ?_
        refine aw_goto (pc := 52) (tgt := 14) d_M_barest_52 (by decide) ?_
        exact aw_lv [2, 1, 0] rfl (ih l2 (l2 + 1))
      · refine aw_aload_n (pc := 28) d_M_barest_28 rfl 0 rfl ?_
        refine aw_iload_n (pc := 29) d_M_barest_29 rfl 2 rfl ?_
        refine aw_sipush (pc := 30) (x := 255) d_M_barest_30 (by decide) ?_
        refine aw_cVpI (pc := 33) (ci := 12) (T := TX12) (N := 44) (As := [.int l2, .int 255]) (st := []) (ok_M_guardsOf Y l0 l2 255 h tl0) okV_M_guardsOf rfl (by decide) tl0 w10_108 d_M_barest_33 rfl (Nat.le_of_ble_eq_true rfl) rfl (Nat.le_of_ble_eq_true rfl) (fun q9 hq9 hTq9 => ?_)
        refine aw_aload_n (pc := 36) d_M_barest_36 rfl 0 rfl ?_
        refine aw_iload_n (pc := 37) d_M_barest_37 rfl 1 rfl ?_
        refine aw_sipush (pc := 38) (x := 255) d_M_barest_38 (by decide) ?_
        refine aw_cVpI (pc := 41) (ci := 12) (T := TX12) (N := 44) (As := [.int l1, .int 255]) (st := [.int q9]) (ok_M_guardsOf Y l0 l1 255 h tl0) okV_M_guardsOf rfl (by decide) tl0 w10_108 d_M_barest_41 rfl (Nat.le_of_ble_eq_true rfl) rfl (Nat.le_of_ble_eq_true rfl) (fun q10 hq10 hTq10 => ?_)
        refine aw_icmp_ge (pc := 44) (tgt := 49) d_M_barest_44 (by decide) (fun c11 => ?_) (fun c11 => ?_)
        · refine aw_iinc (pc := 49) (w := l2 + 1) (lv' := [(2, .int (l2 + 1)), (0, .ref l0), (1, .int l1)]) d_M_barest_49 2 rfl rfl (by decide) rfl ?_
          refine aw_goto (pc := 52) (tgt := 14) d_M_barest_52 (by decide) ?_
          exact aw_lv [1, 2, 0] rfl (ih l1 (l2 + 1))
        · refine aw_iload_n (pc := 47) d_M_barest_47 rfl 2 rfl ?_
          refine aw_istore_n (pc := 48) (lv' := [(1, .int l2), (0, .ref l0), (2, .int l2)]) d_M_barest_48 rfl (by decide) rfl ?_
          refine aw_iinc (pc := 49) (w := l2 + 1) (lv' := [(2, .int (l2 + 1)), (1, .int l2), (0, .ref l0)]) d_M_barest_49 2 rfl rfl (by decide) rfl ?_
          refine aw_goto (pc := 52) (tgt := 14) d_M_barest_52 (by decide) ?_
          exact aw_lv [2, 1, 0] rfl (ih l2 (l2 + 1))
def M_barest (Y : Ly) (l0 : Nat) (h : Hp) : Option (Int32 × Hp) :=
  letH (hSi h 1201 l0 0) fun h1 =>
  letH (hSi h1 1200 l0 0) fun h2 =>
  M_barest_L14 Y l0 h2 FU (-1) 0
theorem ok_M_barest (Y : Ly) (l0 : Nat) (h : Hp) (t0 : isO Y 12 l0) : AM Y 2 K_M_barest [.ref l0] h (M_barest Y l0 h) rI := by
  refine AM.of rfl (Nat.le_of_ble_eq_true rfl) ?_
  show AW Y 2 K_M_barest 0 [(0, .ref l0)] [] h (M_barest Y l0 h) rI
  unfold M_barest
  refine aw_aload_n (pc := 0) d_M_barest_0 rfl 0 rfl ?_
  refine aw_iconst (pc := 1) (x := 0) d_M_barest_1 (by decide) ?_
  refine pt_1201 (pc := 2) d_M_barest_2 w7_28 t0 ?_
  refine aw_letH (fun h1 => ?_)
  refine aw_aload_n (pc := 5) d_M_barest_5 rfl 0 rfl ?_
  refine aw_iconst (pc := 6) (x := 0) d_M_barest_6 (by decide) ?_
  refine pt_1200 (pc := 7) d_M_barest_7 w7_27 t0 ?_
  refine aw_letH (fun h2 => ?_)
  refine aw_iconst (pc := 10) (x := (-1)) d_M_barest_10 (by decide) ?_
  refine aw_istore_n (pc := 11) (lv' := [(1, .int (-1)), (0, .ref l0)]) d_M_barest_11 rfl (by decide) rfl ?_
  refine aw_iconst (pc := 12) (x := 0) d_M_barest_12 (by decide) ?_
  refine aw_istore_n (pc := 13) (lv' := [(2, .int 0), (1, .int (-1)), (0, .ref l0)]) d_M_barest_13 rfl (by decide) rfl ?_
  exact aw_lv [2, 1, 0] rfl (M_barest_L14_ok Y l0 h2 t0 FU (-1) 0)
/-! LastPagesModel.isIn(JJJ)Z -/
theorem d_M_isIn_0 : decode prog_14_method_8_code 0 = .ok (.lload_n 0, 1) := by decide +kernel
theorem d_M_isIn_1 : decode prog_14_method_8_code 1 = .ok (.lload_n 2, 1) := by decide +kernel
theorem d_M_isIn_2 : decode prog_14_method_8_code 2 = .ok (.lcmp, 1) := by decide +kernel
theorem d_M_isIn_3 : decode prog_14_method_8_code 3 = .ok (.ifCond .lt 14, 3) := by decide +kernel
theorem d_M_isIn_6 : decode prog_14_method_8_code 6 = .ok (.lload_n 0, 1) := by decide +kernel
theorem d_M_isIn_7 : decode prog_14_method_8_code 7 = .ok (.lload 4, 2) := by decide +kernel
theorem d_M_isIn_9 : decode prog_14_method_8_code 9 = .ok (.lcmp, 1) := by decide +kernel
theorem d_M_isIn_10 : decode prog_14_method_8_code 10 = .ok (.ifCond .gt 7, 3) := by decide +kernel
theorem d_M_isIn_13 : decode prog_14_method_8_code 13 = .ok (.iconst 1, 1) := by decide +kernel
theorem d_M_isIn_14 : decode prog_14_method_8_code 14 = .ok (.goto 4, 3) := by decide +kernel
theorem d_M_isIn_17 : decode prog_14_method_8_code 17 = .ok (.iconst 0, 1) := by decide +kernel
theorem d_M_isIn_18 : decode prog_14_method_8_code 18 = .ok (.ireturn, 1) := by decide +kernel
def M_isIn (Y : Ly) (l0 : Int64) (l2 : Int64) (l4 : Int64) (h : Hp) : Option Bool :=
  if l0 < l2 then
    some false
  else
    if l4 < l0 then
      some false
    else
      some true
theorem ok_M_isIn (Y : Ly) (l0 : Int64) (l2 : Int64) (l4 : Int64) (h : Hp) : AM Y 0 K_M_isIn [.long l0, .long l2, .long l4] h (M_isIn Y l0 l2 l4 h) (pZ h) := by
  refine AM.of rfl (Nat.le_of_ble_eq_true rfl) ?_
  show AW Y 0 K_M_isIn 0 [(0, .long l0), (2, .long l2), (4, .long l4)] [] h (M_isIn Y l0 l2 l4 h) (pZ h)
  unfold M_isIn
  refine aw_lload_n (pc := 0) d_M_isIn_0 rfl 0 rfl ?_
  refine aw_lload_n (pc := 1) d_M_isIn_1 rfl 1 rfl ?_
  refine aw_lcmp_lt (pc := 2) (tgt := 17) d_M_isIn_2 d_M_isIn_3 (by decide) (fun c1 => ?_) (fun c1 => ?_)
  · refine aw_iconst (pc := 17) (x := 0) d_M_isIn_17 (by decide) ?_
    exact aw_zreturn (pc := 18) (b := false) d_M_isIn_18 rfl rfl
  · refine aw_lload_n (pc := 6) d_M_isIn_6 rfl 0 rfl ?_
    refine aw_lload (pc := 7) d_M_isIn_7 2 rfl ?_
    refine aw_lcmp_gt (pc := 9) (tgt := 17) d_M_isIn_9 d_M_isIn_10 (by decide) (fun c2 => ?_) (fun c2 => ?_)
    · refine aw_iconst (pc := 17) (x := 0) d_M_isIn_17 (by decide) ?_
      exact aw_zreturn (pc := 18) (b := false) d_M_isIn_18 rfl rfl
    · refine aw_iconst (pc := 13) (x := 1) d_M_isIn_13 (by decide) ?_
      refine aw_goto (pc := 14) (tgt := 18) d_M_isIn_14 (by decide) ?_
      exact aw_zreturn (pc := 18) (b := true) d_M_isIn_18 rfl rfl
/-! LastPagesModel.count(II)I -/
theorem d_M_count_0 : decode prog_14_method_58_code 0 = .ok (.aload_n 0, 1) := by decide +kernel
theorem d_M_count_1 : decode prog_14_method_58_code 1 = .ok (.getfield 245, 3) := by decide +kernel
theorem d_M_count_4 : decode prog_14_method_58_code 4 = .ok (.ifCond .ne 15, 3) := by decide +kernel
theorem d_M_count_7 : decode prog_14_method_58_code 7 = .ok (.aload_n 0, 1) := by decide +kernel
theorem d_M_count_8 : decode prog_14_method_58_code 8 = .ok (.getfield 133, 3) := by decide +kernel
theorem d_M_count_11 : decode prog_14_method_58_code 11 = .ok (.iconst 2, 1) := by decide +kernel
theorem d_M_count_12 : decode prog_14_method_58_code 12 = .ok (.if_icmp .eq 7, 3) := by decide +kernel
theorem d_M_count_15 : decode prog_14_method_58_code 15 = .ok (.aload_n 0, 1) := by decide +kernel
theorem d_M_count_16 : decode prog_14_method_58_code 16 = .ok (.invokevirtual 258, 3) := by decide +kernel
theorem d_M_count_19 : decode prog_14_method_58_code 19 = .ok (.aload_n 0, 1) := by decide +kernel
theorem d_M_count_20 : decode prog_14_method_58_code 20 = .ok (.getfield 245, 3) := by decide +kernel
theorem d_M_count_23 : decode prog_14_method_58_code 23 = .ok (.ifCond .ne 27, 3) := by decide +kernel
theorem d_M_count_26 : decode prog_14_method_58_code 26 = .ok (.aload_n 0, 1) := by decide +kernel
theorem d_M_count_27 : decode prog_14_method_58_code 27 = .ok (.getfield 152, 3) := by decide +kernel
theorem d_M_count_30 : decode prog_14_method_58_code 30 = .ok (.i2l, 1) := by decide +kernel
theorem d_M_count_31 : decode prog_14_method_58_code 31 = .ok (.iload_n 1, 1) := by decide +kernel
theorem d_M_count_32 : decode prog_14_method_58_code 32 = .ok (.i2l, 1) := by decide +kernel
theorem d_M_count_33 : decode prog_14_method_58_code 33 = .ok (.iload_n 2, 1) := by decide +kernel
theorem d_M_count_34 : decode prog_14_method_58_code 34 = .ok (.i2l, 1) := by decide +kernel
theorem d_M_count_35 : decode prog_14_method_58_code 35 = .ok (.invokestatic 113, 3) := by decide +kernel
theorem d_M_count_38 : decode prog_14_method_58_code 38 = .ok (.ifCond .ne 12, 3) := by decide +kernel
theorem d_M_count_41 : decode prog_14_method_58_code 41 = .ok (.aload_n 0, 1) := by decide +kernel
theorem d_M_count_42 : decode prog_14_method_58_code 42 = .ok (.iconst 4, 1) := by decide +kernel
theorem d_M_count_43 : decode prog_14_method_58_code 43 = .ok (.aload_n 0, 1) := by decide +kernel
theorem d_M_count_44 : decode prog_14_method_58_code 44 = .ok (.getfield 127, 3) := by decide +kernel
theorem d_M_count_47 : decode prog_14_method_58_code 47 = .ok (.invokevirtual 251, 3) := by decide +kernel
theorem d_M_count_50 : decode prog_14_method_58_code 50 = .ok (.aload_n 0, 1) := by decide +kernel
theorem d_M_count_51 : decode prog_14_method_58_code 51 = .ok (.getfield 245, 3) := by decide +kernel
theorem d_M_count_54 : decode prog_14_method_58_code 54 = .ok (.ifCond .le 5, 3) := by decide +kernel
theorem d_M_count_57 : decode prog_14_method_58_code 57 = .ok (.iconst 0, 1) := by decide +kernel
theorem d_M_count_58 : decode prog_14_method_58_code 58 = .ok (.ireturn, 1) := by decide +kernel
theorem d_M_count_59 : decode prog_14_method_58_code 59 = .ok (.aload_n 0, 1) := by decide +kernel
theorem d_M_count_60 : decode prog_14_method_58_code 60 = .ok (.getfield 152, 3) := by decide +kernel
theorem d_M_count_63 : decode prog_14_method_58_code 63 = .ok (.istore_n 3, 1) := by decide +kernel
theorem d_M_count_64 : decode prog_14_method_58_code 64 = .ok (.aload_n 0, 1) := by decide +kernel
theorem d_M_count_65 : decode prog_14_method_58_code 65 = .ok (.invokevirtual 255, 3) := by decide +kernel
theorem d_M_count_68 : decode prog_14_method_58_code 68 = .ok (.iload_n 3, 1) := by decide +kernel
theorem d_M_count_69 : decode prog_14_method_58_code 69 = .ok (.ireturn, 1) := by decide +kernel
def M_count_J50 (Y : Ly) (l0 : Nat) (h : Hp) : Option (Int32 × Hp) :=
  if (hGi h 1212 l0) ≤ 0 then
    (M_advance Y l0 h).bind fun q7 =>
    some (hGi h 1217 l0, q7)
  else
    some (0, h)
theorem M_count_J50_ok (Y : Ly) (l0 : Nat) (h : Hp) (tl0 : isO Y 12 l0) : AW Y 2 K_M_count 50 [(0, .ref l0)] [] h (M_count_J50 Y l0 h) rI := by
  unfold M_count_J50
  refine aw_aload_n (pc := 50) d_M_count_50 rfl 0 rfl ?_
  refine gt_1212 (pc := 51) d_M_count_51 w7_39 tl0 ?_
  refine aw_if_le (pc := 54) (tgt := 59) d_M_count_54 (by decide) (fun c6 => ?_) (fun c6 => ?_)
  · refine aw_aload_n (pc := 59) d_M_count_59 rfl 0 rfl ?_
    refine gt_1217 (pc := 60) d_M_count_60 w7_44 tl0 ?_
    refine aw_istore_n (pc := 63) (lv' := [(3, .int (hGi h 1217 l0)), (0, .ref l0)]) d_M_count_63 rfl (by decide) rfl ?_
    refine aw_aload_n (pc := 64) d_M_count_64 rfl 1 rfl ?_
    refine aw_cVrV (pc := 65) (ci := 12) (T := TX12) (N := 44) (As := []) (st := []) (ok_M_advance Y l0 h tl0) okV_M_advance rfl (by decide) tl0 w7_224 d_M_count_65 rfl (Nat.le_of_ble_eq_true rfl) rfl (Nat.le_of_ble_eq_true rfl) (fun q7 hq7 hTq7 => ?_)
    refine aw_iload_n (pc := 68) d_M_count_68 rfl 0 rfl ?_
    exact aw_ireturn (pc := 69) d_M_count_69 rfl rfl
  · refine aw_iconst (pc := 57) (x := 0) d_M_count_57 (by decide) ?_
    exact aw_ireturn (pc := 58) d_M_count_58 rfl rfl
def M_count_J19 (Y : Ly) (l0 : Nat) (l1 : Int32) (l2 : Int32) (h : Hp) : Option (Int32 × Hp) :=
  if (hGi h 1212 l0) = 0 then
    (M_isIn Y (Int32.toInt64 (hGi h 1217 l0)) (Int32.toInt64 l1) (Int32.toInt64 l2) h).bind fun q4 =>
    if q4 = true then
      M_count_J50 Y l0 h
    else
      (M_fail Y l0 4 (hGi h 1215 l0) h).bind fun q8 =>
      M_count_J50 Y l0 q8
  else
    M_count_J50 Y l0 h
theorem M_count_J19_ok (Y : Ly) (l0 : Nat) (l1 : Int32) (l2 : Int32) (h : Hp) (tl0 : isO Y 12 l0) : AW Y 2 K_M_count 19 [(0, .ref l0), (1, .int l1), (2, .int l2)] [] h (M_count_J19 Y l0 l1 l2 h) rI := by
  unfold M_count_J19
  refine aw_aload_n (pc := 19) d_M_count_19 rfl 0 rfl ?_
  refine gt_1212 (pc := 20) d_M_count_20 w7_39 tl0 ?_
  refine aw_if_ne (pc := 23) (tgt := 50) d_M_count_23 (by decide) (fun c3 => ?_) (fun c3 => ?_)
  · refine aw_aload_n (pc := 26) d_M_count_26 rfl 0 rfl ?_
    refine gt_1217 (pc := 27) d_M_count_27 w7_44 tl0 ?_
    refine aw_i2l (pc := 30) d_M_count_30 ?_
    refine aw_iload_n (pc := 31) d_M_count_31 rfl 1 rfl ?_
    refine aw_i2l (pc := 32) d_M_count_32 ?_
    refine aw_iload_n (pc := 33) d_M_count_33 rfl 2 rfl ?_
    refine aw_i2l (pc := 34) d_M_count_34 ?_
    refine aw_cSpZ (pc := 35) (As := [.long (Int32.toInt64 (hGi h 1217 l0)), .long (Int32.toInt64 l1), .long (Int32.toInt64 l2)]) (st := []) (ok_M_isIn Y (Int32.toInt64 (hGi h 1217 l0)) (Int32.toInt64 l1) (Int32.toInt64 l2) h) okS_M_isIn w8_155 d_M_count_35 rfl (Nat.le_of_ble_eq_true rfl) rfl (Nat.le_of_ble_eq_true rfl) (fun q4 hq4 hTq4 => ?_)
    refine aw_bne (pc := 38) (tgt := 50) d_M_count_38 (by decide) (fun c5 => ?_) (fun c5 => ?_)
    · exact aw_lv [0] rfl (M_count_J50_ok Y l0 h tl0)
    · refine aw_aload_n (pc := 41) d_M_count_41 rfl 0 rfl ?_
      refine aw_iconst (pc := 42) (x := 4) d_M_count_42 (by decide) ?_
      refine aw_aload_n (pc := 43) d_M_count_43 rfl 0 rfl ?_
      refine gt_1215 (pc := 44) d_M_count_44 w7_42 tl0 ?_
      refine aw_cVrV (pc := 47) (ci := 12) (T := TX12) (N := 44) (As := [.int 4, .int (hGi h 1215 l0)]) (st := []) (ok_M_fail Y l0 4 (hGi h 1215 l0) h tl0) okV_M_fail rfl (by decide) tl0 w8_30 d_M_count_47 rfl (Nat.le_of_ble_eq_true rfl) rfl (Nat.le_of_ble_eq_true rfl) (fun q8 hq8 hTq8 => ?_)
      exact aw_lv [0] rfl (M_count_J50_ok Y l0 q8 tl0)
  · exact aw_lv [0] rfl (M_count_J50_ok Y l0 h tl0)
def M_count (Y : Ly) (l0 : Nat) (l1 : Int32) (l2 : Int32) (h : Hp) : Option (Int32 × Hp) :=
  if (hGi h 1212 l0) = 0 then
    if (hGi h 1214 l0) = 2 then
      M_count_J19 Y l0 l1 l2 h
    else
      (M_amiss Y l0 h).bind fun q9 =>
      M_count_J19 Y l0 l1 l2 q9
  else
    M_count_J19 Y l0 l1 l2 h
theorem ok_M_count (Y : Ly) (l0 : Nat) (l1 : Int32) (l2 : Int32) (h : Hp) (t0 : isO Y 12 l0) : AM Y 2 K_M_count [.ref l0, .int l1, .int l2] h (M_count Y l0 l1 l2 h) rI := by
  refine AM.of rfl (Nat.le_of_ble_eq_true rfl) ?_
  show AW Y 2 K_M_count 0 [(0, .ref l0), (1, .int l1), (2, .int l2)] [] h (M_count Y l0 l1 l2 h) rI
  unfold M_count
  refine aw_aload_n (pc := 0) d_M_count_0 rfl 0 rfl ?_
  refine gt_1212 (pc := 1) d_M_count_1 w7_39 t0 ?_
  refine aw_if_ne (pc := 4) (tgt := 19) d_M_count_4 (by decide) (fun c1 => ?_) (fun c1 => ?_)
  · refine aw_aload_n (pc := 7) d_M_count_7 rfl 0 rfl ?_
    refine gt_1214 (pc := 8) d_M_count_8 w7_41 t0 ?_
    refine aw_iconst (pc := 11) (x := 2) d_M_count_11 (by decide) ?_
    refine aw_icmp_eq (pc := 12) (tgt := 19) d_M_count_12 (by decide) (fun c2 => ?_) (fun c2 => ?_)
    · exact aw_lv [0, 1, 2] rfl (M_count_J19_ok Y l0 l1 l2 h t0)
    · refine aw_aload_n (pc := 15) d_M_count_15 rfl 0 rfl ?_
      refine aw_cVrV (pc := 16) (ci := 12) (T := TX12) (N := 44) (As := []) (st := []) (ok_M_amiss Y l0 h t0) okV_M_amiss rfl (by decide) t0 w8_135 d_M_count_16 rfl (Nat.le_of_ble_eq_true rfl) rfl (Nat.le_of_ble_eq_true rfl) (fun q9 hq9 hTq9 => ?_)
      exact aw_lv [0, 1, 2] rfl (M_count_J19_ok Y l0 l1 l2 q9 t0)
  · exact aw_lv [0, 1, 2] rfl (M_count_J19_ok Y l0 l1 l2 h t0)
/-! LastPagesModel.must(Z)V -/
theorem d_M_must_0 : decode prog_14_method_57_code 0 = .ok (.aload_n 0, 1) := by decide +kernel
theorem d_M_must_1 : decode prog_14_method_57_code 1 = .ok (.getfield 245, 3) := by decide +kernel
theorem d_M_must_4 : decode prog_14_method_57_code 4 = .ok (.ifCond .le 4, 3) := by decide +kernel
theorem d_M_must_7 : decode prog_14_method_57_code 7 = .ok (.return_, 1) := by decide +kernel
theorem d_M_must_8 : decode prog_14_method_57_code 8 = .ok (.iload_n 1, 1) := by decide +kernel
theorem d_M_must_9 : decode prog_14_method_57_code 9 = .ok (.ifCond .eq 10, 3) := by decide +kernel
theorem d_M_must_12 : decode prog_14_method_57_code 12 = .ok (.aload_n 0, 1) := by decide +kernel
theorem d_M_must_13 : decode prog_14_method_57_code 13 = .ok (.invokevirtual 255, 3) := by decide +kernel
theorem d_M_must_16 : decode prog_14_method_57_code 16 = .ok (.goto 7, 3) := by decide +kernel
theorem d_M_must_19 : decode prog_14_method_57_code 19 = .ok (.aload_n 0, 1) := by decide +kernel
theorem d_M_must_20 : decode prog_14_method_57_code 20 = .ok (.invokevirtual 258, 3) := by decide +kernel
theorem d_M_must_23 : decode prog_14_method_57_code 23 = .ok (.return_, 1) := by decide +kernel
def M_must (Y : Ly) (l0 : Nat) (l1 : Bool) (h : Hp) : Option Hp :=
  if (hGi h 1212 l0) ≤ 0 then
    if l1 = true then
      (M_advance Y l0 h).bind fun q3 =>
      some q3
    else
      (M_amiss Y l0 h).bind fun q4 =>
      some q4
  else
    some h
theorem ok_M_must (Y : Ly) (l0 : Nat) (l1 : Bool) (h : Hp) (t0 : isO Y 12 l0) : AM Y 2 K_M_must [.ref l0, .int (b2i l1)] h (M_must Y l0 l1 h) rV := by
  refine AM.of rfl (Nat.le_of_ble_eq_true rfl) ?_
  show AW Y 2 K_M_must 0 [(0, .ref l0), (1, .int (b2i l1))] [] h (M_must Y l0 l1 h) rV
  unfold M_must
  refine aw_aload_n (pc := 0) d_M_must_0 rfl 0 rfl ?_
  refine gt_1212 (pc := 1) d_M_must_1 w7_39 t0 ?_
  refine aw_if_le (pc := 4) (tgt := 8) d_M_must_4 (by decide) (fun c1 => ?_) (fun c1 => ?_)
  · refine aw_iload_n (pc := 8) d_M_must_8 rfl 1 rfl ?_
    refine aw_beq (pc := 9) (tgt := 19) d_M_must_9 (by decide) (fun c2 => ?_) (fun c2 => ?_)
    · refine aw_aload_n (pc := 12) d_M_must_12 rfl 0 rfl ?_
      refine aw_cVrV (pc := 13) (ci := 12) (T := TX12) (N := 44) (As := []) (st := []) (ok_M_advance Y l0 h t0) okV_M_advance rfl (by decide) t0 w7_224 d_M_must_13 rfl (Nat.le_of_ble_eq_true rfl) rfl (Nat.le_of_ble_eq_true rfl) (fun q3 hq3 hTq3 => ?_)
      refine aw_goto (pc := 16) (tgt := 23) d_M_must_16 (by decide) ?_
      exact aw_return (pc := 23) d_M_must_23 rfl rfl
    · refine aw_aload_n (pc := 19) d_M_must_19 rfl 0 rfl ?_
      refine aw_cVrV (pc := 20) (ci := 12) (T := TX12) (N := 44) (As := []) (st := []) (ok_M_amiss Y l0 h t0) okV_M_amiss rfl (by decide) t0 w8_135 d_M_must_20 rfl (Nat.le_of_ble_eq_true rfl) rfl (Nat.le_of_ble_eq_true rfl) (fun q4 hq4 hTq4 => ?_)
      exact aw_return (pc := 23) d_M_must_23 rfl rfl
  · exact aw_return (pc := 7) d_M_must_7 rfl rfl
/-! LastPagesModel.behindWord(ZII)I -/
theorem d_M_behindWord_0 : decode prog_14_method_59_code 0 = .ok (.aload_n 0, 1) := by decide +kernel
theorem d_M_behindWord_1 : decode prog_14_method_59_code 1 = .ok (.iload_n 1, 1) := by decide +kernel
theorem d_M_behindWord_2 : decode prog_14_method_59_code 2 = .ok (.invokevirtual 261, 3) := by decide +kernel
theorem d_M_behindWord_5 : decode prog_14_method_59_code 5 = .ok (.aload_n 0, 1) := by decide +kernel
theorem d_M_behindWord_6 : decode prog_14_method_59_code 6 = .ok (.iload_n 2, 1) := by decide +kernel
theorem d_M_behindWord_7 : decode prog_14_method_59_code 7 = .ok (.iload_n 3, 1) := by decide +kernel
theorem d_M_behindWord_8 : decode prog_14_method_59_code 8 = .ok (.invokevirtual 265, 3) := by decide +kernel
theorem d_M_behindWord_11 : decode prog_14_method_59_code 11 = .ok (.ireturn, 1) := by decide +kernel
def M_behindWord (Y : Ly) (l0 : Nat) (l1 : Bool) (l2 : Int32) (l3 : Int32) (h : Hp) : Option (Int32 × Hp) :=
  (M_must Y l0 l1 h).bind fun q1 =>
  (M_count Y l0 l2 l3 q1).bind fun q2 =>
  some (q2.1, q2.2)
theorem ok_M_behindWord (Y : Ly) (l0 : Nat) (l1 : Bool) (l2 : Int32) (l3 : Int32) (h : Hp) (t0 : isO Y 12 l0) : AM Y 3 K_M_behindWord [.ref l0, .int (b2i l1), .int l2, .int l3] h (M_behindWord Y l0 l1 l2 l3 h) rI := by
  refine AM.of rfl (Nat.le_of_ble_eq_true rfl) ?_
  show AW Y 3 K_M_behindWord 0 [(0, .ref l0), (1, .int (b2i l1)), (2, .int l2), (3, .int l3)] [] h (M_behindWord Y l0 l1 l2 l3 h) rI
  unfold M_behindWord
  refine aw_aload_n (pc := 0) d_M_behindWord_0 rfl 0 rfl ?_
  refine aw_iload_n (pc := 1) d_M_behindWord_1 rfl 1 rfl ?_
  refine aw_cVrV (pc := 2) (ci := 12) (T := TX12) (N := 44) (As := [.int (b2i l1)]) (st := []) (ok_M_must Y l0 l1 h t0) okV_M_must rfl (by decide) t0 w8_171 d_M_behindWord_2 rfl (Nat.le_of_ble_eq_true rfl) rfl (Nat.le_of_ble_eq_true rfl) (fun q1 hq1 hTq1 => ?_)
  refine aw_aload_n (pc := 5) d_M_behindWord_5 rfl 0 rfl ?_
  refine aw_iload_n (pc := 6) d_M_behindWord_6 rfl 2 rfl ?_
  refine aw_iload_n (pc := 7) d_M_behindWord_7 rfl 3 rfl ?_
  refine aw_cVrI (pc := 8) (ci := 12) (T := TX12) (N := 44) (As := [.int l2, .int l3]) (st := []) (ok_M_count Y l0 l2 l3 q1 t0) okV_M_count rfl (by decide) t0 w8_151 d_M_behindWord_8 rfl (Nat.le_of_ble_eq_true rfl) rfl (Nat.le_of_ble_eq_true rfl) (fun q2 hq2 hTq2 => ?_)
  exact aw_ireturn (pc := 11) d_M_behindWord_11 rfl rfl
/-! LastPagesModel.isBarred(IIII)Z -/
theorem d_M_isBarred_0 : decode prog_14_method_108_code 0 = .ok (.iconst 0, 1) := by decide +kernel
theorem d_M_isBarred_1 : decode prog_14_method_108_code 1 = .ok (.istore 5, 2) := by decide +kernel
theorem d_M_isBarred_3 : decode prog_14_method_108_code 3 = .ok (.iload 5, 2) := by decide +kernel
theorem d_M_isBarred_5 : decode prog_14_method_108_code 5 = .ok (.aload_n 0, 1) := by decide +kernel
theorem d_M_isBarred_6 : decode prog_14_method_108_code 6 = .ok (.getfield 35, 3) := by decide +kernel
theorem d_M_isBarred_9 : decode prog_14_method_108_code 9 = .ok (.iconst 5, 1) := by decide +kernel
theorem d_M_isBarred_10 : decode prog_14_method_108_code 10 = .ok (.iaload, 1) := by decide +kernel
theorem d_M_isBarred_11 : decode prog_14_method_108_code 11 = .ok (.if_icmp .ge 87, 3) := by decide +kernel
theorem d_M_isBarred_14 : decode prog_14_method_108_code 14 = .ok (.aload_n 0, 1) := by decide +kernel
theorem d_M_isBarred_15 : decode prog_14_method_108_code 15 = .ok (.getfield 35, 3) := by decide +kernel
theorem d_M_isBarred_18 : decode prog_14_method_108_code 18 = .ok (.sipush 222, 3) := by decide +kernel
theorem d_M_isBarred_21 : decode prog_14_method_108_code 21 = .ok (.iload 5, 2) := by decide +kernel
theorem d_M_isBarred_23 : decode prog_14_method_108_code 23 = .ok (.iadd, 1) := by decide +kernel
theorem d_M_isBarred_24 : decode prog_14_method_108_code 24 = .ok (.iaload, 1) := by decide +kernel
theorem d_M_isBarred_25 : decode prog_14_method_108_code 25 = .ok (.iload_n 1, 1) := by decide +kernel
theorem d_M_isBarred_26 : decode prog_14_method_108_code 26 = .ok (.if_icmp .ne 41, 3) := by decide +kernel
theorem d_M_isBarred_29 : decode prog_14_method_108_code 29 = .ok (.aload_n 0, 1) := by decide +kernel
theorem d_M_isBarred_30 : decode prog_14_method_108_code 30 = .ok (.getfield 35, 3) := by decide +kernel
theorem d_M_isBarred_33 : decode prog_14_method_108_code 33 = .ok (.sipush 234, 3) := by decide +kernel
theorem d_M_isBarred_36 : decode prog_14_method_108_code 36 = .ok (.iload 5, 2) := by decide +kernel
theorem d_M_isBarred_38 : decode prog_14_method_108_code 38 = .ok (.iadd, 1) := by decide +kernel
theorem d_M_isBarred_39 : decode prog_14_method_108_code 39 = .ok (.iaload, 1) := by decide +kernel
theorem d_M_isBarred_40 : decode prog_14_method_108_code 40 = .ok (.iload_n 2, 1) := by decide +kernel
theorem d_M_isBarred_41 : decode prog_14_method_108_code 41 = .ok (.if_icmp .ne 26, 3) := by decide +kernel
theorem d_M_isBarred_44 : decode prog_14_method_108_code 44 = .ok (.iload 4, 2) := by decide +kernel
theorem d_M_isBarred_46 : decode prog_14_method_108_code 46 = .ok (.aload_n 0, 1) := by decide +kernel
theorem d_M_isBarred_47 : decode prog_14_method_108_code 47 = .ok (.getfield 35, 3) := by decide +kernel
theorem d_M_isBarred_50 : decode prog_14_method_108_code 50 = .ok (.sipush 258, 3) := by decide +kernel
theorem d_M_isBarred_53 : decode prog_14_method_108_code 53 = .ok (.iload 5, 2) := by decide +kernel
theorem d_M_isBarred_55 : decode prog_14_method_108_code 55 = .ok (.iadd, 1) := by decide +kernel
theorem d_M_isBarred_56 : decode prog_14_method_108_code 56 = .ok (.iaload, 1) := by decide +kernel
theorem d_M_isBarred_57 : decode prog_14_method_108_code 57 = .ok (.invokestatic 117, 3) := by decide +kernel
theorem d_M_isBarred_60 : decode prog_14_method_108_code 60 = .ok (.ifCond .ne 7, 3) := by decide +kernel
theorem d_M_isBarred_63 : decode prog_14_method_108_code 63 = .ok (.iconst 1, 1) := by decide +kernel
theorem d_M_isBarred_64 : decode prog_14_method_108_code 64 = .ok (.goto 4, 3) := by decide +kernel
theorem d_M_isBarred_67 : decode prog_14_method_108_code 67 = .ok (.iconst 0, 1) := by decide +kernel
theorem d_M_isBarred_68 : decode prog_14_method_108_code 68 = .ok (.istore 6, 2) := by decide +kernel
theorem d_M_isBarred_70 : decode prog_14_method_108_code 70 = .ok (.iload 6, 2) := by decide +kernel
theorem d_M_isBarred_72 : decode prog_14_method_108_code 72 = .ok (.ifCond .eq 20, 3) := by decide +kernel
theorem d_M_isBarred_75 : decode prog_14_method_108_code 75 = .ok (.aload_n 0, 1) := by decide +kernel
theorem d_M_isBarred_76 : decode prog_14_method_108_code 76 = .ok (.getfield 35, 3) := by decide +kernel
theorem d_M_isBarred_79 : decode prog_14_method_108_code 79 = .ok (.sipush 246, 3) := by decide +kernel
theorem d_M_isBarred_82 : decode prog_14_method_108_code 82 = .ok (.iload 5, 2) := by decide +kernel
theorem d_M_isBarred_84 : decode prog_14_method_108_code 84 = .ok (.iadd, 1) := by decide +kernel
theorem d_M_isBarred_85 : decode prog_14_method_108_code 85 = .ok (.iaload, 1) := by decide +kernel
theorem d_M_isBarred_86 : decode prog_14_method_108_code 86 = .ok (.iload_n 3, 1) := by decide +kernel
theorem d_M_isBarred_87 : decode prog_14_method_108_code 87 = .ok (.if_icmp .eq 5, 3) := by decide +kernel
theorem d_M_isBarred_90 : decode prog_14_method_108_code 90 = .ok (.iconst 1, 1) := by decide +kernel
theorem d_M_isBarred_91 : decode prog_14_method_108_code 91 = .ok (.ireturn, 1) := by decide +kernel
theorem d_M_isBarred_92 : decode prog_14_method_108_code 92 = .ok (.iinc 5 1, 3) := by decide +kernel
theorem d_M_isBarred_95 : decode prog_14_method_108_code 95 = .ok (.goto (-92), 3) := by decide +kernel
theorem d_M_isBarred_98 : decode prog_14_method_108_code 98 = .ok (.iconst 0, 1) := by decide +kernel
theorem d_M_isBarred_99 : decode prog_14_method_108_code 99 = .ok (.ireturn, 1) := by decide +kernel
def M_isBarred_J68 (Y : Ly) (k3 : Int32 → Option Bool) (l0 : Nat) (l1 : Int32) (l2 : Int32) (l3 : Int32) (l4 : Int32) (l5 : Int32) (s0 : Bool) (h : Hp) : Option Bool :=
  if s0 = true then
    if inB (246 + l5) (lnY Y (hGr h 1220 l0)) = true then
      if (hAi h (hGr h 1220 l0) (Int32.toNatClampNeg (246 + l5))) = l3 then
        k3 (l5 + 1)
      else
        some true
    else none
  else
    k3 (l5 + 1)
theorem M_isBarred_J68_ok (Y : Ly) (k3 : Int32 → Option Bool) (l0 : Nat) (l1 : Int32) (l2 : Int32) (l3 : Int32) (l4 : Int32) (l5 : Int32) (s0 : Bool) (h : Hp) (hk3 : ∀ (l5_ : Int32), AW Y 1 K_M_isBarred 3 [(0, .ref l0), (1, .int l1), (2, .int l2), (3, .int l3), (4, .int l4), (5, .int l5_)] [] h (k3 l5_) (pZ h)) (tl0 : isO Y 12 l0) : AW Y 1 K_M_isBarred 68 [(0, .ref l0), (1, .int l1), (2, .int l2), (3, .int l3), (4, .int l4), (5, .int l5)] [.int (b2i s0)] h (M_isBarred_J68 Y k3 l0 l1 l2 l3 l4 l5 s0 h) (pZ h) := by
  unfold M_isBarred_J68
  refine aw_istore (pc := 68) (lv' := [(6, .int (b2i s0)), (0, .ref l0), (1, .int l1), (2, .int l2), (3, .int l3), (4, .int l4), (5, .int l5)]) d_M_isBarred_68 (by decide) rfl ?_
  refine aw_iload (pc := 70) d_M_isBarred_70 0 rfl ?_
  refine aw_beq (pc := 72) (tgt := 92) d_M_isBarred_72 (by decide) (fun c14 => ?_) (fun c14 => ?_)
  · refine aw_aload_n (pc := 75) d_M_isBarred_75 rfl 1 rfl ?_
    refine gt_1220 (pc := 76) d_M_isBarred_76 w7_47 tl0 (fun tt15 => ?_)
    refine aw_sipush (pc := 79) (x := 246) d_M_isBarred_79 (by decide) ?_
    refine aw_iload (pc := 82) d_M_isBarred_82 6 rfl ?_
    refine aw_iadd (pc := 84) d_M_isBarred_84 ?_
    refine aw_iaload (pc := 85) d_M_isBarred_85 tt15 (fun c16 => ?_)
    refine aw_iload_n (pc := 86) d_M_isBarred_86 rfl 4 rfl ?_
    refine aw_icmp_eq (pc := 87) (tgt := 92) d_M_isBarred_87 (by decide) (fun c17 => ?_) (fun c17 => ?_)
    · refine aw_iinc (pc := 92) (w := l5 + 1) (lv' := [(5, .int (l5 + 1)), (6, .int (b2i s0)), (0, .ref l0), (1, .int l1), (2, .int l2), (3, .int l3), (4, .int l4)]) d_M_isBarred_92 6 rfl rfl (by decide) rfl ?_
      refine aw_goto (pc := 95) (tgt := 3) d_M_isBarred_95 (by decide) ?_
      exact aw_lv [2, 3, 4, 5, 6, 0] rfl (hk3 (l5 + 1))
    · refine aw_iconst (pc := 90) (x := 1) d_M_isBarred_90 (by decide) ?_
      exact aw_zreturn (pc := 91) (b := true) d_M_isBarred_91 rfl rfl
  · refine aw_iinc (pc := 92) (w := l5 + 1) (lv' := [(5, .int (l5 + 1)), (6, .int (b2i s0)), (0, .ref l0), (1, .int l1), (2, .int l2), (3, .int l3), (4, .int l4)]) d_M_isBarred_92 6 rfl rfl (by decide) rfl ?_
    refine aw_goto (pc := 95) (tgt := 3) d_M_isBarred_95 (by decide) ?_
    exact aw_lv [2, 3, 4, 5, 6, 0] rfl (hk3 (l5 + 1))
def M_isBarred_J67 (Y : Ly) (k3 : Int32 → Option Bool) (l0 : Nat) (l1 : Int32) (l2 : Int32) (l3 : Int32) (l4 : Int32) (l5 : Int32) (h : Hp) : Option Bool :=
  M_isBarred_J68 Y k3 l0 l1 l2 l3 l4 l5 false h
theorem M_isBarred_J67_ok (Y : Ly) (k3 : Int32 → Option Bool) (l0 : Nat) (l1 : Int32) (l2 : Int32) (l3 : Int32) (l4 : Int32) (l5 : Int32) (h : Hp) (hk3 : ∀ (l5_ : Int32), AW Y 1 K_M_isBarred 3 [(0, .ref l0), (1, .int l1), (2, .int l2), (3, .int l3), (4, .int l4), (5, .int l5_)] [] h (k3 l5_) (pZ h)) (tl0 : isO Y 12 l0) : AW Y 1 K_M_isBarred 67 [(0, .ref l0), (1, .int l1), (2, .int l2), (3, .int l3), (4, .int l4), (5, .int l5)] [] h (M_isBarred_J67 Y k3 l0 l1 l2 l3 l4 l5 h) (pZ h) := by
  unfold M_isBarred_J67
  refine aw_iconst (pc := 67) (x := 0) d_M_isBarred_67 (by decide) ?_
  exact aw_lv [0, 1, 2, 3, 4, 5] rfl (M_isBarred_J68_ok Y k3 l0 l1 l2 l3 l4 l5 false h hk3 tl0)
def M_isBarred_L3 (Y : Ly) (l0 : Nat) (l1 : Int32) (l2 : Int32) (l3 : Int32) (l4 : Int32) (h : Hp) : Nat → Int32 → Option Bool
  | 0, _ => none
  | F + 1, l5 =>
    if inB 5 (lnY Y (hGr h 1220 l0)) = true then
      if (hAi h (hGr h 1220 l0) (Int32.toNatClampNeg 5)) ≤ l5 then
        some false
      else
        if inB (222 + l5) (lnY Y (hGr h 1220 l0)) = true then
          if (hAi h (hGr h 1220 l0) (Int32.toNatClampNeg (222 + l5))) = l1 then
            if inB (234 + l5) (lnY Y (hGr h 1220 l0)) = true then
              if (hAi h (hGr h 1220 l0) (Int32.toNatClampNeg (234 + l5))) = l2 then
                if inB (258 + l5) (lnY Y (hGr h 1220 l0)) = true then
                  (M_has Y l4 (hAi h (hGr h 1220 l0) (Int32.toNatClampNeg (258 + l5))) h).bind fun q12 =>
                  if q12 = true then
                    M_isBarred_J67 Y (M_isBarred_L3 Y l0 l1 l2 l3 l4 h F) l0 l1 l2 l3 l4 l5 h
                  else
                    M_isBarred_J68 Y (M_isBarred_L3 Y l0 l1 l2 l3 l4 h F) l0 l1 l2 l3 l4 l5 true h
                else none
              else
                M_isBarred_J67 Y (M_isBarred_L3 Y l0 l1 l2 l3 l4 h F) l0 l1 l2 l3 l4 l5 h
            else none
          else
            M_isBarred_J67 Y (M_isBarred_L3 Y l0 l1 l2 l3 l4 h F) l0 l1 l2 l3 l4 l5 h
        else none
    else none
theorem M_isBarred_L3_ok (Y : Ly) (l0 : Nat) (l1 : Int32) (l2 : Int32) (l3 : Int32) (l4 : Int32) (h : Hp) (tl0 : isO Y 12 l0) : ∀ (F : Nat) (l5 : Int32), AW Y 1 K_M_isBarred 3 [(0, .ref l0), (1, .int l1), (2, .int l2), (3, .int l3), (4, .int l4), (5, .int l5)] [] h (M_isBarred_L3 Y l0 l1 l2 l3 l4 h F l5) (pZ h) := by
  intro F
  induction F with
  | zero =>
    intro l5
    exact aw_none
  | succ F ih =>
    intro l5
    unfold M_isBarred_L3
    refine aw_iload (pc := 3) d_M_isBarred_3 5 rfl ?_
    refine aw_aload_n (pc := 5) d_M_isBarred_5 rfl 0 rfl ?_
    refine gt_1220 (pc := 6) d_M_isBarred_6 w7_47 tl0 (fun tt1 => ?_)
    refine aw_iconst (pc := 9) (x := 5) d_M_isBarred_9 (by decide) ?_
    refine aw_iaload (pc := 10) d_M_isBarred_10 tt1 (fun c2 => ?_)
    refine aw_icmp_ge (pc := 11) (tgt := 98) d_M_isBarred_11 (by decide) (fun c3 => ?_) (fun c3 => ?_)
    · refine aw_iconst (pc := 98) (x := 0) d_M_isBarred_98 (by decide) ?_
      exact aw_zreturn (pc := 99) (b := false) d_M_isBarred_99 rfl rfl
    · refine aw_aload_n (pc := 14) d_M_isBarred_14 rfl 0 rfl ?_
      refine gt_1220 (pc := 15) d_M_isBarred_15 w7_47 tl0 (fun tt4 => ?_)
      refine aw_sipush (pc := 18) (x := 222) d_M_isBarred_18 (by decide) ?_
      refine aw_iload (pc := 21) d_M_isBarred_21 5 rfl ?_
      refine aw_iadd (pc := 23) d_M_isBarred_23 ?_
      refine aw_iaload (pc := 24) d_M_isBarred_24 tt4 (fun c5 => ?_)
      refine aw_iload_n (pc := 25) d_M_isBarred_25 rfl 1 rfl ?_
      refine aw_icmp_ne (pc := 26) (tgt := 67) d_M_isBarred_26 (by decide) (fun c6 => ?_) (fun c6 => ?_)
      · refine aw_aload_n (pc := 29) d_M_isBarred_29 rfl 0 rfl ?_
        refine gt_1220 (pc := 30) d_M_isBarred_30 w7_47 tl0 (fun tt7 => ?_)
        refine aw_sipush (pc := 33) (x := 234) d_M_isBarred_33 (by decide) ?_
        refine aw_iload (pc := 36) d_M_isBarred_36 5 rfl ?_
        refine aw_iadd (pc := 38) d_M_isBarred_38 ?_
        refine aw_iaload (pc := 39) d_M_isBarred_39 tt7 (fun c8 => ?_)
        refine aw_iload_n (pc := 40) d_M_isBarred_40 rfl 2 rfl ?_
        refine aw_icmp_ne (pc := 41) (tgt := 67) d_M_isBarred_41 (by decide) (fun c9 => ?_) (fun c9 => ?_)
        · refine aw_iload (pc := 44) d_M_isBarred_44 4 rfl ?_
          refine aw_aload_n (pc := 46) d_M_isBarred_46 rfl 0 rfl ?_
          refine gt_1220 (pc := 47) d_M_isBarred_47 w7_47 tl0 (fun tt10 => ?_)
          refine aw_sipush (pc := 50) (x := 258) d_M_isBarred_50 (by decide) ?_
          refine aw_iload (pc := 53) d_M_isBarred_53 5 rfl ?_
          refine aw_iadd (pc := 55) d_M_isBarred_55 ?_
          refine aw_iaload (pc := 56) d_M_isBarred_56 tt10 (fun c11 => ?_)
          refine aw_cSpZ (pc := 57) (As := [.int l4, .int (hAi h (hGr h 1220 l0) (Int32.toNatClampNeg (258 + l5)))]) (st := []) (ok_M_has Y l4 (hAi h (hGr h 1220 l0) (Int32.toNatClampNeg (258 + l5))) h) okS_M_has w9_110 d_M_isBarred_57 rfl (Nat.le_of_ble_eq_true rfl) rfl (Nat.le_of_ble_eq_true rfl) (fun q12 hq12 hTq12 => ?_)
          refine aw_bne (pc := 60) (tgt := 67) d_M_isBarred_60 (by decide) (fun c13 => ?_) (fun c13 => ?_)
          · exact aw_lv [0, 1, 2, 3, 4, 5] rfl (M_isBarred_J67_ok Y (M_isBarred_L3 Y l0 l1 l2 l3 l4 h F) l0 l1 l2 l3 l4 l5 h ih tl0)
          · refine aw_iconst (pc := 63) (x := 1) d_M_isBarred_63 (by decide) ?_
            refine aw_goto (pc := 64) (tgt := 68) d_M_isBarred_64 (by decide) ?_
            exact aw_lv [0, 1, 2, 3, 4, 5] rfl (M_isBarred_J68_ok Y (M_isBarred_L3 Y l0 l1 l2 l3 l4 h F) l0 l1 l2 l3 l4 l5 true h ih tl0)
        · exact aw_lv [0, 1, 2, 3, 4, 5] rfl (M_isBarred_J67_ok Y (M_isBarred_L3 Y l0 l1 l2 l3 l4 h F) l0 l1 l2 l3 l4 l5 h ih tl0)
      · exact aw_lv [0, 1, 2, 3, 4, 5] rfl (M_isBarred_J67_ok Y (M_isBarred_L3 Y l0 l1 l2 l3 l4 h F) l0 l1 l2 l3 l4 l5 h ih tl0)
def M_isBarred (Y : Ly) (l0 : Nat) (l1 : Int32) (l2 : Int32) (l3 : Int32) (l4 : Int32) (h : Hp) : Option Bool :=
  M_isBarred_L3 Y l0 l1 l2 l3 l4 h FU 0
theorem ok_M_isBarred (Y : Ly) (l0 : Nat) (l1 : Int32) (l2 : Int32) (l3 : Int32) (l4 : Int32) (h : Hp) (t0 : isO Y 12 l0) : AM Y 1 K_M_isBarred [.ref l0, .int l1, .int l2, .int l3, .int l4] h (M_isBarred Y l0 l1 l2 l3 l4 h) (pZ h) := by
  refine AM.of rfl (Nat.le_of_ble_eq_true rfl) ?_
  show AW Y 1 K_M_isBarred 0 [(0, .ref l0), (1, .int l1), (2, .int l2), (3, .int l3), (4, .int l4)] [] h (M_isBarred Y l0 l1 l2 l3 l4 h) (pZ h)
  unfold M_isBarred
  refine aw_iconst (pc := 0) (x := 0) d_M_isBarred_0 (by decide) ?_
  refine aw_istore (pc := 1) (lv' := [(5, .int 0), (0, .ref l0), (1, .int l1), (2, .int l2), (3, .int l3), (4, .int l4)]) d_M_isBarred_1 (by decide) rfl ?_
  exact aw_lv [1, 2, 3, 4, 5, 0] rfl (M_isBarred_L3_ok Y l0 l1 l2 l3 l4 h t0 FU 0)
/-! LastPagesModel.goesBest(IIII)Z -/
theorem d_M_goesBest_0 : decode prog_14_method_127_code 0 = .ok (.aload_n 0, 1) := by decide +kernel
theorem d_M_goesBest_1 : decode prog_14_method_127_code 1 = .ok (.getfield 35, 3) := by decide +kernel
theorem d_M_goesBest_4 : decode prog_14_method_127_code 4 = .ok (.bipush 18, 2) := by decide +kernel
theorem d_M_goesBest_6 : decode prog_14_method_127_code 6 = .ok (.bipush 8, 2) := by decide +kernel
theorem d_M_goesBest_8 : decode prog_14_method_127_code 8 = .ok (.iload_n 3, 1) := by decide +kernel
theorem d_M_goesBest_9 : decode prog_14_method_127_code 9 = .ok (.imul, 1) := by decide +kernel
theorem d_M_goesBest_10 : decode prog_14_method_127_code 10 = .ok (.iadd, 1) := by decide +kernel
theorem d_M_goesBest_11 : decode prog_14_method_127_code 11 = .ok (.iload 4, 2) := by decide +kernel
theorem d_M_goesBest_13 : decode prog_14_method_127_code 13 = .ok (.iadd, 1) := by decide +kernel
theorem d_M_goesBest_14 : decode prog_14_method_127_code 14 = .ok (.iaload, 1) := by decide +kernel
theorem d_M_goesBest_15 : decode prog_14_method_127_code 15 = .ok (.istore 5, 2) := by decide +kernel
theorem d_M_goesBest_17 : decode prog_14_method_127_code 17 = .ok (.iload 5, 2) := by decide +kernel
theorem d_M_goesBest_19 : decode prog_14_method_127_code 19 = .ok (.ifCond .lt 38, 3) := by decide +kernel
theorem d_M_goesBest_22 : decode prog_14_method_127_code 22 = .ok (.aload_n 0, 1) := by decide +kernel
theorem d_M_goesBest_23 : decode prog_14_method_127_code 23 = .ok (.getfield 56, 3) := by decide +kernel
theorem d_M_goesBest_26 : decode prog_14_method_127_code 26 = .ok (.bipush 8, 2) := by decide +kernel
theorem d_M_goesBest_28 : decode prog_14_method_127_code 28 = .ok (.iload_n 2, 1) := by decide +kernel
theorem d_M_goesBest_29 : decode prog_14_method_127_code 29 = .ok (.iconst 1, 1) := by decide +kernel
theorem d_M_goesBest_30 : decode prog_14_method_127_code 30 = .ok (.iadd, 1) := by decide +kernel
theorem d_M_goesBest_31 : decode prog_14_method_127_code 31 = .ok (.imul, 1) := by decide +kernel
theorem d_M_goesBest_32 : decode prog_14_method_127_code 32 = .ok (.iload 5, 2) := by decide +kernel
theorem d_M_goesBest_34 : decode prog_14_method_127_code 34 = .ok (.iadd, 1) := by decide +kernel
theorem d_M_goesBest_35 : decode prog_14_method_127_code 35 = .ok (.iaload, 1) := by decide +kernel
theorem d_M_goesBest_36 : decode prog_14_method_127_code 36 = .ok (.ifCond .lt 21, 3) := by decide +kernel
theorem d_M_goesBest_39 : decode prog_14_method_127_code 39 = .ok (.aload_n 0, 1) := by decide +kernel
theorem d_M_goesBest_40 : decode prog_14_method_127_code 40 = .ok (.iload_n 1, 1) := by decide +kernel
theorem d_M_goesBest_41 : decode prog_14_method_127_code 41 = .ok (.iload_n 2, 1) := by decide +kernel
theorem d_M_goesBest_42 : decode prog_14_method_127_code 42 = .ok (.iload 4, 2) := by decide +kernel
theorem d_M_goesBest_44 : decode prog_14_method_127_code 44 = .ok (.aload_n 0, 1) := by decide +kernel
theorem d_M_goesBest_45 : decode prog_14_method_127_code 45 = .ok (.getfield 35, 3) := by decide +kernel
theorem d_M_goesBest_48 : decode prog_14_method_127_code 48 = .ok (.bipush 9, 2) := by decide +kernel
theorem d_M_goesBest_50 : decode prog_14_method_127_code 50 = .ok (.iaload, 1) := by decide +kernel
theorem d_M_goesBest_51 : decode prog_14_method_127_code 51 = .ok (.invokevirtual 399, 3) := by decide +kernel
theorem d_M_goesBest_54 : decode prog_14_method_127_code 54 = .ok (.ifCond .eq 5, 3) := by decide +kernel
theorem d_M_goesBest_57 : decode prog_14_method_127_code 57 = .ok (.iconst 0, 1) := by decide +kernel
theorem d_M_goesBest_58 : decode prog_14_method_127_code 58 = .ok (.ireturn, 1) := by decide +kernel
theorem d_M_goesBest_59 : decode prog_14_method_127_code 59 = .ok (.aload_n 0, 1) := by decide +kernel
theorem d_M_goesBest_60 : decode prog_14_method_127_code 60 = .ok (.getfield 35, 3) := by decide +kernel
theorem d_M_goesBest_63 : decode prog_14_method_127_code 63 = .ok (.bipush 10, 2) := by decide +kernel
theorem d_M_goesBest_65 : decode prog_14_method_127_code 65 = .ok (.iload 4, 2) := by decide +kernel
theorem d_M_goesBest_67 : decode prog_14_method_127_code 67 = .ok (.iadd, 1) := by decide +kernel
theorem d_M_goesBest_68 : decode prog_14_method_127_code 68 = .ok (.iaload, 1) := by decide +kernel
theorem d_M_goesBest_69 : decode prog_14_method_127_code 69 = .ok (.aload_n 0, 1) := by decide +kernel
theorem d_M_goesBest_70 : decode prog_14_method_127_code 70 = .ok (.getfield 56, 3) := by decide +kernel
theorem d_M_goesBest_73 : decode prog_14_method_127_code 73 = .ok (.bipush 8, 2) := by decide +kernel
theorem d_M_goesBest_75 : decode prog_14_method_127_code 75 = .ok (.iload_n 2, 1) := by decide +kernel
theorem d_M_goesBest_76 : decode prog_14_method_127_code 76 = .ok (.iconst 1, 1) := by decide +kernel
theorem d_M_goesBest_77 : decode prog_14_method_127_code 77 = .ok (.iadd, 1) := by decide +kernel
theorem d_M_goesBest_78 : decode prog_14_method_127_code 78 = .ok (.imul, 1) := by decide +kernel
theorem d_M_goesBest_79 : decode prog_14_method_127_code 79 = .ok (.iload 5, 2) := by decide +kernel
theorem d_M_goesBest_81 : decode prog_14_method_127_code 81 = .ok (.iadd, 1) := by decide +kernel
theorem d_M_goesBest_82 : decode prog_14_method_127_code 82 = .ok (.iaload, 1) := by decide +kernel
theorem d_M_goesBest_83 : decode prog_14_method_127_code 83 = .ok (.iadd, 1) := by decide +kernel
theorem d_M_goesBest_84 : decode prog_14_method_127_code 84 = .ok (.aload_n 0, 1) := by decide +kernel
theorem d_M_goesBest_85 : decode prog_14_method_127_code 85 = .ok (.getfield 56, 3) := by decide +kernel
theorem d_M_goesBest_88 : decode prog_14_method_127_code 88 = .ok (.bipush 8, 2) := by decide +kernel
theorem d_M_goesBest_90 : decode prog_14_method_127_code 90 = .ok (.iload_n 2, 1) := by decide +kernel
theorem d_M_goesBest_91 : decode prog_14_method_127_code 91 = .ok (.imul, 1) := by decide +kernel
theorem d_M_goesBest_92 : decode prog_14_method_127_code 92 = .ok (.iload_n 3, 1) := by decide +kernel
theorem d_M_goesBest_93 : decode prog_14_method_127_code 93 = .ok (.iadd, 1) := by decide +kernel
theorem d_M_goesBest_94 : decode prog_14_method_127_code 94 = .ok (.iaload, 1) := by decide +kernel
theorem d_M_goesBest_95 : decode prog_14_method_127_code 95 = .ok (.if_icmp .ne 7, 3) := by decide +kernel
theorem d_M_goesBest_98 : decode prog_14_method_127_code 98 = .ok (.iconst 1, 1) := by decide +kernel
theorem d_M_goesBest_99 : decode prog_14_method_127_code 99 = .ok (.goto 4, 3) := by decide +kernel
theorem d_M_goesBest_102 : decode prog_14_method_127_code 102 = .ok (.iconst 0, 1) := by decide +kernel
theorem d_M_goesBest_103 : decode prog_14_method_127_code 103 = .ok (.ireturn, 1) := by decide +kernel
def M_goesBest (Y : Ly) (l0 : Nat) (l1 : Int32) (l2 : Int32) (l3 : Int32) (l4 : Int32) (h : Hp) : Option Bool :=
  if inB ((18 + (8 * l3)) + l4) (lnY Y (hGr h 1220 l0)) = true then
    if (hAi h (hGr h 1220 l0) (Int32.toNatClampNeg ((18 + (8 * l3)) + l4))) < 0 then
      some false
    else
      if inB ((8 * (l2 + 1)) + (hAi h (hGr h 1220 l0) (Int32.toNatClampNeg ((18 + (8 * l3)) + l4)))) (lnY Y (hGr h 1229 l0)) = true then
        if (hAi h (hGr h 1229 l0) (Int32.toNatClampNeg ((8 * (l2 + 1)) + (hAi h (hGr h 1220 l0) (Int32.toNatClampNeg ((18 + (8 * l3)) + l4)))))) < 0 then
          some false
        else
          if inB 9 (lnY Y (hGr h 1220 l0)) = true then
            (M_isBarred Y l0 l1 l2 l4 (hAi h (hGr h 1220 l0) (Int32.toNatClampNeg 9)) h).bind fun q9 =>
            if q9 = true then
              some false
            else
              if inB (10 + l4) (lnY Y (hGr h 1220 l0)) = true then
                if inB ((8 * (l2 + 1)) + (hAi h (hGr h 1220 l0) (Int32.toNatClampNeg ((18 + (8 * l3)) + l4)))) (lnY Y (hGr h 1229 l0)) = true then
                  if inB ((8 * l2) + l3) (lnY Y (hGr h 1229 l0)) = true then
                    if ((hAi h (hGr h 1220 l0) (Int32.toNatClampNeg (10 + l4))) + (hAi h (hGr h 1229 l0) (Int32.toNatClampNeg ((8 * (l2 + 1)) + (hAi h (hGr h 1220 l0) (Int32.toNatClampNeg ((18 + (8 * l3)) + l4))))))) = (hAi h (hGr h 1229 l0) (Int32.toNatClampNeg ((8 * l2) + l3))) then
                      some true
                    else
                      some false
                  else none
                else none
              else none
          else none
      else none
  else none
theorem ok_M_goesBest (Y : Ly) (l0 : Nat) (l1 : Int32) (l2 : Int32) (l3 : Int32) (l4 : Int32) (h : Hp) (t0 : isO Y 12 l0) : AM Y 2 K_M_goesBest [.ref l0, .int l1, .int l2, .int l3, .int l4] h (M_goesBest Y l0 l1 l2 l3 l4 h) (pZ h) := by
  refine AM.of rfl (Nat.le_of_ble_eq_true rfl) ?_
  show AW Y 2 K_M_goesBest 0 [(0, .ref l0), (1, .int l1), (2, .int l2), (3, .int l3), (4, .int l4)] [] h (M_goesBest Y l0 l1 l2 l3 l4 h) (pZ h)
  unfold M_goesBest
  refine aw_aload_n (pc := 0) d_M_goesBest_0 rfl 0 rfl ?_
  refine gt_1220 (pc := 1) d_M_goesBest_1 w7_47 t0 (fun tt1 => ?_)
  refine aw_bipush (pc := 4) (x := 18) d_M_goesBest_4 (by decide) ?_
  refine aw_bipush (pc := 6) (x := 8) d_M_goesBest_6 (by decide) ?_
  refine aw_iload_n (pc := 8) d_M_goesBest_8 rfl 3 rfl ?_
  refine aw_imul (pc := 9) d_M_goesBest_9 ?_
  refine aw_iadd (pc := 10) d_M_goesBest_10 ?_
  refine aw_iload (pc := 11) d_M_goesBest_11 4 rfl ?_
  refine aw_iadd (pc := 13) d_M_goesBest_13 ?_
  refine aw_iaload (pc := 14) d_M_goesBest_14 tt1 (fun c2 => ?_)
  refine aw_istore (pc := 15) (lv' := [(5, .int (hAi h (hGr h 1220 l0) (Int32.toNatClampNeg ((18 + (8 * l3)) + l4)))), (0, .ref l0), (1, .int l1), (2, .int l2), (3, .int l3), (4, .int l4)]) d_M_goesBest_15 (by decide) rfl ?_
  refine aw_iload (pc := 17) d_M_goesBest_17 0 rfl ?_
  refine aw_if_lt (pc := 19) (tgt := 57) d_M_goesBest_19 (by decide) (fun c3 => ?_) (fun c3 => ?_)
  · refine aw_iconst (pc := 57) (x := 0) d_M_goesBest_57 (by decide) ?_
    exact aw_zreturn (pc := 58) (b := false) d_M_goesBest_58 rfl rfl
  · refine aw_aload_n (pc := 22) d_M_goesBest_22 rfl 1 rfl ?_
    refine gt_1229 (pc := 23) d_M_goesBest_23 w7_56 t0 (fun tt4 => ?_)
    refine aw_bipush (pc := 26) (x := 8) d_M_goesBest_26 (by decide) ?_
    refine aw_iload_n (pc := 28) d_M_goesBest_28 rfl 3 rfl ?_
    refine aw_iconst (pc := 29) (x := 1) d_M_goesBest_29 (by decide) ?_
    refine aw_iadd (pc := 30) d_M_goesBest_30 ?_
    refine aw_imul (pc := 31) d_M_goesBest_31 ?_
    refine aw_iload (pc := 32) d_M_goesBest_32 0 rfl ?_
    refine aw_iadd (pc := 34) d_M_goesBest_34 ?_
    refine aw_iaload (pc := 35) d_M_goesBest_35 tt4 (fun c5 => ?_)
    refine aw_if_lt (pc := 36) (tgt := 57) d_M_goesBest_36 (by decide) (fun c6 => ?_) (fun c6 => ?_)
    · refine aw_iconst (pc := 57) (x := 0) d_M_goesBest_57 (by decide) ?_
      exact aw_zreturn (pc := 58) (b := false) d_M_goesBest_58 rfl rfl
    · refine aw_aload_n (pc := 39) d_M_goesBest_39 rfl 1 rfl ?_
      refine aw_iload_n (pc := 40) d_M_goesBest_40 rfl 2 rfl ?_
      refine aw_iload_n (pc := 41) d_M_goesBest_41 rfl 3 rfl ?_
      refine aw_iload (pc := 42) d_M_goesBest_42 5 rfl ?_
      refine aw_aload_n (pc := 44) d_M_goesBest_44 rfl 1 rfl ?_
      refine gt_1220 (pc := 45) d_M_goesBest_45 w7_47 t0 (fun tt7 => ?_)
      refine aw_bipush (pc := 48) (x := 9) d_M_goesBest_48 (by decide) ?_
      refine aw_iaload (pc := 50) d_M_goesBest_50 tt7 (fun c8 => ?_)
      refine aw_cVpZ (pc := 51) (ci := 12) (T := TX12) (N := 44) (As := [.int l1, .int l2, .int l4, .int (hAi h (hGr h 1220 l0) (Int32.toNatClampNeg 9))]) (st := []) (ok_M_isBarred Y l0 l1 l2 l4 (hAi h (hGr h 1220 l0) (Int32.toNatClampNeg 9)) h t0) okV_M_isBarred rfl (by decide) t0 w9_106 d_M_goesBest_51 rfl (Nat.le_of_ble_eq_true rfl) rfl (Nat.le_of_ble_eq_true rfl) (fun q9 hq9 hTq9 => ?_)
      refine aw_beq (pc := 54) (tgt := 59) d_M_goesBest_54 (by decide) (fun c10 => ?_) (fun c10 => ?_)
      · refine aw_iconst (pc := 57) (x := 0) d_M_goesBest_57 (by decide) ?_
        exact aw_zreturn (pc := 58) (b := false) d_M_goesBest_58 rfl rfl
      · refine aw_aload_n (pc := 59) d_M_goesBest_59 rfl 1 rfl ?_
        refine gt_1220 (pc := 60) d_M_goesBest_60 w7_47 t0 (fun tt11 => ?_)
        refine aw_bipush (pc := 63) (x := 10) d_M_goesBest_63 (by decide) ?_
        refine aw_iload (pc := 65) d_M_goesBest_65 5 rfl ?_
        refine aw_iadd (pc := 67) d_M_goesBest_67 ?_
        refine aw_iaload (pc := 68) d_M_goesBest_68 tt11 (fun c12 => ?_)
        refine aw_aload_n (pc := 69) d_M_goesBest_69 rfl 1 rfl ?_
        refine gt_1229 (pc := 70) d_M_goesBest_70 w7_56 t0 (fun tt13 => ?_)
        refine aw_bipush (pc := 73) (x := 8) d_M_goesBest_73 (by decide) ?_
        refine aw_iload_n (pc := 75) d_M_goesBest_75 rfl 3 rfl ?_
        refine aw_iconst (pc := 76) (x := 1) d_M_goesBest_76 (by decide) ?_
        refine aw_iadd (pc := 77) d_M_goesBest_77 ?_
        refine aw_imul (pc := 78) d_M_goesBest_78 ?_
        refine aw_iload (pc := 79) d_M_goesBest_79 0 rfl ?_
        refine aw_iadd (pc := 81) d_M_goesBest_81 ?_
        refine aw_iaload (pc := 82) d_M_goesBest_82 tt13 (fun c14 => ?_)
        refine aw_iadd (pc := 83) d_M_goesBest_83 ?_
        refine aw_aload_n (pc := 84) d_M_goesBest_84 rfl 1 rfl ?_
        refine gt_1229 (pc := 85) d_M_goesBest_85 w7_56 t0 (fun tt15 => ?_)
        refine aw_bipush (pc := 88) (x := 8) d_M_goesBest_88 (by decide) ?_
        refine aw_iload_n (pc := 90) d_M_goesBest_90 rfl 3 rfl ?_
        refine aw_imul (pc := 91) d_M_goesBest_91 ?_
        refine aw_iload_n (pc := 92) d_M_goesBest_92 rfl 4 rfl ?_
        refine aw_iadd (pc := 93) d_M_goesBest_93 ?_
        refine aw_iaload (pc := 94) d_M_goesBest_94 tt15 (fun c16 => ?_)
        refine aw_icmp_ne (pc := 95) (tgt := 102) d_M_goesBest_95 (by decide) (fun c17 => ?_) (fun c17 => ?_)
        · refine aw_iconst (pc := 98) (x := 1) d_M_goesBest_98 (by decide) ?_
          refine aw_goto (pc := 99) (tgt := 103) d_M_goesBest_99 (by decide) ?_
          exact aw_zreturn (pc := 103) (b := true) d_M_goesBest_103 rfl rfl
        · refine aw_iconst (pc := 102) (x := 0) d_M_goesBest_102 (by decide) ?_
          exact aw_zreturn (pc := 103) (b := false) d_M_goesBest_103 rfl rfl
/-! LastPagesModel.placeOf(I)I -/
theorem d_M_placeOf_0 : decode prog_14_method_100_code 0 = .ok (.aload_n 0, 1) := by decide +kernel
theorem d_M_placeOf_1 : decode prog_14_method_100_code 1 = .ok (.getfield 35, 3) := by decide +kernel
theorem d_M_placeOf_4 : decode prog_14_method_100_code 4 = .ok (.bipush 82, 2) := by decide +kernel
theorem d_M_placeOf_6 : decode prog_14_method_100_code 6 = .ok (.iload_n 1, 1) := by decide +kernel
theorem d_M_placeOf_7 : decode prog_14_method_100_code 7 = .ok (.iadd, 1) := by decide +kernel
theorem d_M_placeOf_8 : decode prog_14_method_100_code 8 = .ok (.iaload, 1) := by decide +kernel
theorem d_M_placeOf_9 : decode prog_14_method_100_code 9 = .ok (.istore_n 2, 1) := by decide +kernel
theorem d_M_placeOf_10 : decode prog_14_method_100_code 10 = .ok (.iconst 0, 1) := by decide +kernel
theorem d_M_placeOf_11 : decode prog_14_method_100_code 11 = .ok (.istore_n 3, 1) := by decide +kernel
theorem d_M_placeOf_12 : decode prog_14_method_100_code 12 = .ok (.iload_n 3, 1) := by decide +kernel
theorem d_M_placeOf_13 : decode prog_14_method_100_code 13 = .ok (.aload_n 0, 1) := by decide +kernel
theorem d_M_placeOf_14 : decode prog_14_method_100_code 14 = .ok (.getfield 35, 3) := by decide +kernel
theorem d_M_placeOf_17 : decode prog_14_method_100_code 17 = .ok (.bipush 94, 2) := by decide +kernel
theorem d_M_placeOf_19 : decode prog_14_method_100_code 19 = .ok (.iload_n 1, 1) := by decide +kernel
theorem d_M_placeOf_20 : decode prog_14_method_100_code 20 = .ok (.iadd, 1) := by decide +kernel
theorem d_M_placeOf_21 : decode prog_14_method_100_code 21 = .ok (.iaload, 1) := by decide +kernel
theorem d_M_placeOf_22 : decode prog_14_method_100_code 22 = .ok (.if_icmp .ge 41, 3) := by decide +kernel
theorem d_M_placeOf_25 : decode prog_14_method_100_code 25 = .ok (.iload_n 2, 1) := by decide +kernel
theorem d_M_placeOf_26 : decode prog_14_method_100_code 26 = .ok (.ifCond .lt 37, 3) := by decide +kernel
theorem d_M_placeOf_29 : decode prog_14_method_100_code 29 = .ok (.aload_n 0, 1) := by decide +kernel
theorem d_M_placeOf_30 : decode prog_14_method_100_code 30 = .ok (.getfield 35, 3) := by decide +kernel
theorem d_M_placeOf_33 : decode prog_14_method_100_code 33 = .ok (.bipush 18, 2) := by decide +kernel
theorem d_M_placeOf_35 : decode prog_14_method_100_code 35 = .ok (.bipush 8, 2) := by decide +kernel
theorem d_M_placeOf_37 : decode prog_14_method_100_code 37 = .ok (.iload_n 2, 1) := by decide +kernel
theorem d_M_placeOf_38 : decode prog_14_method_100_code 38 = .ok (.imul, 1) := by decide +kernel
theorem d_M_placeOf_39 : decode prog_14_method_100_code 39 = .ok (.iadd, 1) := by decide +kernel
theorem d_M_placeOf_40 : decode prog_14_method_100_code 40 = .ok (.aload_n 0, 1) := by decide +kernel
theorem d_M_placeOf_41 : decode prog_14_method_100_code 41 = .ok (.getfield 35, 3) := by decide +kernel
theorem d_M_placeOf_44 : decode prog_14_method_100_code 44 = .ok (.bipush 106, 2) := by decide +kernel
theorem d_M_placeOf_46 : decode prog_14_method_100_code 46 = .ok (.bipush 10, 2) := by decide +kernel
theorem d_M_placeOf_48 : decode prog_14_method_100_code 48 = .ok (.iload_n 1, 1) := by decide +kernel
theorem d_M_placeOf_49 : decode prog_14_method_100_code 49 = .ok (.imul, 1) := by decide +kernel
theorem d_M_placeOf_50 : decode prog_14_method_100_code 50 = .ok (.iadd, 1) := by decide +kernel
theorem d_M_placeOf_51 : decode prog_14_method_100_code 51 = .ok (.iload_n 3, 1) := by decide +kernel
theorem d_M_placeOf_52 : decode prog_14_method_100_code 52 = .ok (.iadd, 1) := by decide +kernel
theorem d_M_placeOf_53 : decode prog_14_method_100_code 53 = .ok (.iaload, 1) := by decide +kernel
theorem d_M_placeOf_54 : decode prog_14_method_100_code 54 = .ok (.iadd, 1) := by decide +kernel
theorem d_M_placeOf_55 : decode prog_14_method_100_code 55 = .ok (.iaload, 1) := by decide +kernel
theorem d_M_placeOf_56 : decode prog_14_method_100_code 56 = .ok (.istore_n 2, 1) := by decide +kernel
theorem d_M_placeOf_57 : decode prog_14_method_100_code 57 = .ok (.iinc 3 1, 3) := by decide +kernel
theorem d_M_placeOf_60 : decode prog_14_method_100_code 60 = .ok (.goto (-48), 3) := by decide +kernel
theorem d_M_placeOf_63 : decode prog_14_method_100_code 63 = .ok (.iload_n 2, 1) := by decide +kernel
theorem d_M_placeOf_64 : decode prog_14_method_100_code 64 = .ok (.ireturn, 1) := by decide +kernel
def M_placeOf_L12 (Y : Ly) (l0 : Nat) (l1 : Int32) (h : Hp) : Nat → Int32 → Int32 → Option Int32
  | 0, _, _ => none
  | F + 1, l2, l3 =>
    if inB (94 + l1) (lnY Y (hGr h 1220 l0)) = true then
      if (hAi h (hGr h 1220 l0) (Int32.toNatClampNeg (94 + l1))) ≤ l3 then
        some l2
      else
        if l2 < 0 then
          some l2
        else
          if inB ((106 + (10 * l1)) + l3) (lnY Y (hGr h 1220 l0)) = true then
            if inB ((18 + (8 * l2)) + (hAi h (hGr h 1220 l0) (Int32.toNatClampNeg ((106 + (10 * l1)) + l3)))) (lnY Y (hGr h 1220 l0)) = true then
              M_placeOf_L12 Y l0 l1 h F (hAi h (hGr h 1220 l0) (Int32.toNatClampNeg ((18 + (8 * l2)) + (hAi h (hGr h 1220 l0) (Int32.toNatClampNeg ((106 + (10 * l1)) + l3)))))) (l3 + 1)
            else none
          else none
    else none
theorem M_placeOf_L12_ok (Y : Ly) (l0 : Nat) (l1 : Int32) (h : Hp) (tl0 : isO Y 12 l0) : ∀ (F : Nat) (l2 : Int32) (l3 : Int32), AW Y 0 K_M_placeOf 12 [(0, .ref l0), (1, .int l1), (2, .int l2), (3, .int l3)] [] h (M_placeOf_L12 Y l0 l1 h F l2 l3) (pI h) := by
  intro F
  induction F with
  | zero =>
    intro l2 l3
    exact aw_none
  | succ F ih =>
    intro l2 l3
    unfold M_placeOf_L12
    refine aw_iload_n (pc := 12) d_M_placeOf_12 rfl 3 rfl ?_
    refine aw_aload_n (pc := 13) d_M_placeOf_13 rfl 0 rfl ?_
    refine gt_1220 (pc := 14) d_M_placeOf_14 w7_47 tl0 (fun tt3 => ?_)
    refine aw_bipush (pc := 17) (x := 94) d_M_placeOf_17 (by decide) ?_
    refine aw_iload_n (pc := 19) d_M_placeOf_19 rfl 1 rfl ?_
    refine aw_iadd (pc := 20) d_M_placeOf_20 ?_
    refine aw_iaload (pc := 21) d_M_placeOf_21 tt3 (fun c4 => ?_)
    refine aw_icmp_ge (pc := 22) (tgt := 63) d_M_placeOf_22 (by decide) (fun c5 => ?_) (fun c5 => ?_)
    · refine aw_iload_n (pc := 63) d_M_placeOf_63 rfl 2 rfl ?_
      exact aw_ireturn (pc := 64) d_M_placeOf_64 rfl rfl
    · refine aw_iload_n (pc := 25) d_M_placeOf_25 rfl 2 rfl ?_
      refine aw_if_lt (pc := 26) (tgt := 63) d_M_placeOf_26 (by decide) (fun c6 => ?_) (fun c6 => ?_)
      · refine aw_iload_n (pc := 63) d_M_placeOf_63 rfl 2 rfl ?_
        exact aw_ireturn (pc := 64) d_M_placeOf_64 rfl rfl
      · refine aw_aload_n (pc := 29) d_M_placeOf_29 rfl 0 rfl ?_
        refine gt_1220 (pc := 30) d_M_placeOf_30 w7_47 tl0 (fun tt7 => ?_)
        refine aw_bipush (pc := 33) (x := 18) d_M_placeOf_33 (by decide) ?_
        refine aw_bipush (pc := 35) (x := 8) d_M_placeOf_35 (by decide) ?_
        refine aw_iload_n (pc := 37) d_M_placeOf_37 rfl 2 rfl ?_
        refine aw_imul (pc := 38) d_M_placeOf_38 ?_
        refine aw_iadd (pc := 39) d_M_placeOf_39 ?_
        refine aw_aload_n (pc := 40) d_M_placeOf_40 rfl 0 rfl ?_
        refine gt_1220 (pc := 41) d_M_placeOf_41 w7_47 tl0 (fun tt8 => ?_)
        refine aw_bipush (pc := 44) (x := 106) d_M_placeOf_44 (by decide) ?_
        refine aw_bipush (pc := 46) (x := 10) d_M_placeOf_46 (by decide) ?_
        refine aw_iload_n (pc := 48) d_M_placeOf_48 rfl 1 rfl ?_
        refine aw_imul (pc := 49) d_M_placeOf_49 ?_
        refine aw_iadd (pc := 50) d_M_placeOf_50 ?_
        refine aw_iload_n (pc := 51) d_M_placeOf_51 rfl 3 rfl ?_
        refine aw_iadd (pc := 52) d_M_placeOf_52 ?_
        refine aw_iaload (pc := 53) d_M_placeOf_53 tt8 (fun c9 => ?_)
        refine aw_iadd (pc := 54) d_M_placeOf_54 ?_
        refine aw_iaload (pc := 55) d_M_placeOf_55 tt7 (fun c10 => ?_)
        refine aw_istore_n (pc := 56) (lv' := [(2, .int (hAi h (hGr h 1220 l0) (Int32.toNatClampNeg ((18 + (8 * l2)) + (hAi h (hGr h 1220 l0) (Int32.toNatClampNeg ((106 + (10 * l1)) + l3))))))), (0, .ref l0), (1, .int l1), (3, .int l3)]) d_M_placeOf_56 rfl (by decide) rfl ?_
        refine aw_iinc (pc := 57) (w := l3 + 1) (lv' := [(3, .int (l3 + 1)), (2, .int (hAi h (hGr h 1220 l0) (Int32.toNatClampNeg ((18 + (8 * l2)) + (hAi h (hGr h 1220 l0) (Int32.toNatClampNeg ((106 + (10 * l1)) + l3))))))), (0, .ref l0), (1, .int l1)]) d_M_placeOf_57 3 rfl rfl (by decide) rfl ?_
        refine aw_goto (pc := 60) (tgt := 12) d_M_placeOf_60 (by decide) ?_
        exact aw_lv [2, 3, 1, 0] rfl (ih (hAi h (hGr h 1220 l0) (Int32.toNatClampNeg ((18 + (8 * l2)) + (hAi h (hGr h 1220 l0) (Int32.toNatClampNeg ((106 + (10 * l1)) + l3)))))) (l3 + 1))
def M_placeOf (Y : Ly) (l0 : Nat) (l1 : Int32) (h : Hp) : Option Int32 :=
  if inB (82 + l1) (lnY Y (hGr h 1220 l0)) = true then
    M_placeOf_L12 Y l0 l1 h FU (hAi h (hGr h 1220 l0) (Int32.toNatClampNeg (82 + l1))) 0
  else none
theorem ok_M_placeOf (Y : Ly) (l0 : Nat) (l1 : Int32) (h : Hp) (t0 : isO Y 12 l0) : AM Y 0 K_M_placeOf [.ref l0, .int l1] h (M_placeOf Y l0 l1 h) (pI h) := by
  refine AM.of rfl (Nat.le_of_ble_eq_true rfl) ?_
  show AW Y 0 K_M_placeOf 0 [(0, .ref l0), (1, .int l1)] [] h (M_placeOf Y l0 l1 h) (pI h)
  unfold M_placeOf
  refine aw_aload_n (pc := 0) d_M_placeOf_0 rfl 0 rfl ?_
  refine gt_1220 (pc := 1) d_M_placeOf_1 w7_47 t0 (fun tt1 => ?_)
  refine aw_bipush (pc := 4) (x := 82) d_M_placeOf_4 (by decide) ?_
  refine aw_iload_n (pc := 6) d_M_placeOf_6 rfl 1 rfl ?_
  refine aw_iadd (pc := 7) d_M_placeOf_7 ?_
  refine aw_iaload (pc := 8) d_M_placeOf_8 tt1 (fun c2 => ?_)
  refine aw_istore_n (pc := 9) (lv' := [(2, .int (hAi h (hGr h 1220 l0) (Int32.toNatClampNeg (82 + l1)))), (0, .ref l0), (1, .int l1)]) d_M_placeOf_9 rfl (by decide) rfl ?_
  refine aw_iconst (pc := 10) (x := 0) d_M_placeOf_10 (by decide) ?_
  refine aw_istore_n (pc := 11) (lv' := [(3, .int 0), (2, .int (hAi h (hGr h 1220 l0) (Int32.toNatClampNeg (82 + l1)))), (0, .ref l0), (1, .int l1)]) d_M_placeOf_11 rfl (by decide) rfl ?_
  exact aw_lv [2, 3, 1, 0] rfl (M_placeOf_L12_ok Y l0 l1 h t0 FU (hAi h (hGr h 1220 l0) (Int32.toNatClampNeg (82 + l1))) 0)
/-! LastPagesModel.laysBest(I)V -/
theorem d_M_laysBest_0 : decode prog_14_method_126_code 0 = .ok (.aload_n 0, 1) := by decide +kernel
theorem d_M_laysBest_1 : decode prog_14_method_126_code 1 = .ok (.iload_n 1, 1) := by decide +kernel
theorem d_M_laysBest_2 : decode prog_14_method_126_code 2 = .ok (.invokevirtual 387, 3) := by decide +kernel
theorem d_M_laysBest_5 : decode prog_14_method_126_code 5 = .ok (.istore_n 2, 1) := by decide +kernel
theorem d_M_laysBest_6 : decode prog_14_method_126_code 6 = .ok (.iconst 1, 1) := by decide +kernel
theorem d_M_laysBest_7 : decode prog_14_method_126_code 7 = .ok (.istore_n 3, 1) := by decide +kernel
theorem d_M_laysBest_8 : decode prog_14_method_126_code 8 = .ok (.iload_n 3, 1) := by decide +kernel
theorem d_M_laysBest_9 : decode prog_14_method_126_code 9 = .ok (.aload_n 0, 1) := by decide +kernel
theorem d_M_laysBest_10 : decode prog_14_method_126_code 10 = .ok (.getfield 35, 3) := by decide +kernel
theorem d_M_laysBest_13 : decode prog_14_method_126_code 13 = .ok (.bipush 88, 2) := by decide +kernel
theorem d_M_laysBest_15 : decode prog_14_method_126_code 15 = .ok (.iload_n 1, 1) := by decide +kernel
theorem d_M_laysBest_16 : decode prog_14_method_126_code 16 = .ok (.iadd, 1) := by decide +kernel
theorem d_M_laysBest_17 : decode prog_14_method_126_code 17 = .ok (.iaload, 1) := by decide +kernel
theorem d_M_laysBest_18 : decode prog_14_method_126_code 18 = .ok (.if_icmp .gt 54, 3) := by decide +kernel
theorem d_M_laysBest_21 : decode prog_14_method_126_code 21 = .ok (.iconst 0, 1) := by decide +kernel
theorem d_M_laysBest_22 : decode prog_14_method_126_code 22 = .ok (.istore 4, 2) := by decide +kernel
theorem d_M_laysBest_24 : decode prog_14_method_126_code 24 = .ok (.aload_n 0, 1) := by decide +kernel
theorem d_M_laysBest_25 : decode prog_14_method_126_code 25 = .ok (.iload_n 1, 1) := by decide +kernel
theorem d_M_laysBest_26 : decode prog_14_method_126_code 26 = .ok (.iload_n 3, 1) := by decide +kernel
theorem d_M_laysBest_27 : decode prog_14_method_126_code 27 = .ok (.iload_n 2, 1) := by decide +kernel
theorem d_M_laysBest_28 : decode prog_14_method_126_code 28 = .ok (.iload 4, 2) := by decide +kernel
theorem d_M_laysBest_30 : decode prog_14_method_126_code 30 = .ok (.invokevirtual 432, 3) := by decide +kernel
theorem d_M_laysBest_33 : decode prog_14_method_126_code 33 = .ok (.ifCond .ne 9, 3) := by decide +kernel
theorem d_M_laysBest_36 : decode prog_14_method_126_code 36 = .ok (.iinc 4 1, 3) := by decide +kernel
theorem d_M_laysBest_39 : decode prog_14_method_126_code 39 = .ok (.goto (-15), 3) := by decide +kernel
theorem d_M_laysBest_42 : decode prog_14_method_126_code 42 = .ok (.aload_n 0, 1) := by decide +kernel
theorem d_M_laysBest_43 : decode prog_14_method_126_code 43 = .ok (.getfield 59, 3) := by decide +kernel
theorem d_M_laysBest_46 : decode prog_14_method_126_code 46 = .ok (.iload_n 3, 1) := by decide +kernel
theorem d_M_laysBest_47 : decode prog_14_method_126_code 47 = .ok (.iload 4, 2) := by decide +kernel
theorem d_M_laysBest_49 : decode prog_14_method_126_code 49 = .ok (.iastore, 1) := by decide +kernel
theorem d_M_laysBest_50 : decode prog_14_method_126_code 50 = .ok (.aload_n 0, 1) := by decide +kernel
theorem d_M_laysBest_51 : decode prog_14_method_126_code 51 = .ok (.getfield 35, 3) := by decide +kernel
theorem d_M_laysBest_54 : decode prog_14_method_126_code 54 = .ok (.bipush 18, 2) := by decide +kernel
theorem d_M_laysBest_56 : decode prog_14_method_126_code 56 = .ok (.bipush 8, 2) := by decide +kernel
theorem d_M_laysBest_58 : decode prog_14_method_126_code 58 = .ok (.iload_n 2, 1) := by decide +kernel
theorem d_M_laysBest_59 : decode prog_14_method_126_code 59 = .ok (.imul, 1) := by decide +kernel
theorem d_M_laysBest_60 : decode prog_14_method_126_code 60 = .ok (.iadd, 1) := by decide +kernel
theorem d_M_laysBest_61 : decode prog_14_method_126_code 61 = .ok (.iload 4, 2) := by decide +kernel
theorem d_M_laysBest_63 : decode prog_14_method_126_code 63 = .ok (.iadd, 1) := by decide +kernel
theorem d_M_laysBest_64 : decode prog_14_method_126_code 64 = .ok (.iaload, 1) := by decide +kernel
theorem d_M_laysBest_65 : decode prog_14_method_126_code 65 = .ok (.istore_n 2, 1) := by decide +kernel
theorem d_M_laysBest_66 : decode prog_14_method_126_code 66 = .ok (.iinc 3 1, 3) := by decide +kernel
theorem d_M_laysBest_69 : decode prog_14_method_126_code 69 = .ok (.goto (-61), 3) := by decide +kernel
theorem d_M_laysBest_72 : decode prog_14_method_126_code 72 = .ok (.return_, 1) := by decide +kernel
def M_laysBest_L24 (Y : Ly) (l0 : Nat) (l1 : Int32) (l2 : Int32) (l3 : Int32) (h : Hp) (k8 : Int32 → Int32 → Hp → Option Hp) : Nat → Int32 → Option Hp
  | 0, _ => none
  | F + 1, l4 =>
    (M_goesBest Y l0 l1 l3 l2 l4 h).bind fun q5 =>
    if q5 = true then
      if inB l3 (lnY Y (hGr h 1230 l0)) = true then
        letH (hTi h (hGr h 1230 l0) (Int32.toNatClampNeg l3) l4) fun h9 =>
        if inB ((18 + (8 * l2)) + l4) (lnY Y (hGr h9 1220 l0)) = true then
          k8 (hAi h9 (hGr h9 1220 l0) (Int32.toNatClampNeg ((18 + (8 * l2)) + l4))) (l3 + 1) h9
        else none
      else none
    else
      M_laysBest_L24 Y l0 l1 l2 l3 h k8 F (l4 + 1)
theorem M_laysBest_L24_ok (Y : Ly) (l0 : Nat) (l1 : Int32) (l2 : Int32) (l3 : Int32) (h : Hp) (k8 : Int32 → Int32 → Hp → Option Hp) (tl0 : isO Y 12 l0) (hk8 : ∀ (l2_ : Int32) (l3_ : Int32) (h_ : Hp), AW Y 3 K_M_laysBest 8 [(0, .ref l0), (1, .int l1), (2, .int l2_), (3, .int l3_)] [] h_ (k8 l2_ l3_ h_) rV) : ∀ (F : Nat) (l4 : Int32), AW Y 3 K_M_laysBest 24 [(0, .ref l0), (1, .int l1), (2, .int l2), (3, .int l3), (4, .int l4)] [] h (M_laysBest_L24 Y l0 l1 l2 l3 h k8 F l4) rV := by
  intro F
  induction F with
  | zero =>
    intro l4
    exact aw_none
  | succ F ih =>
    intro l4
    unfold M_laysBest_L24
    refine aw_aload_n (pc := 24) d_M_laysBest_24 rfl 0 rfl ?_
    refine aw_iload_n (pc := 25) d_M_laysBest_25 rfl 1 rfl ?_
    refine aw_iload_n (pc := 26) d_M_laysBest_26 rfl 3 rfl ?_
    refine aw_iload_n (pc := 27) d_M_laysBest_27 rfl 2 rfl ?_
    refine aw_iload (pc := 28) d_M_laysBest_28 4 rfl ?_
    refine aw_cVpZ (pc := 30) (ci := 12) (T := TX12) (N := 44) (As := [.int l1, .int l3, .int l2, .int l4]) (st := []) (ok_M_goesBest Y l0 l1 l3 l2 l4 h tl0) okV_M_goesBest rfl (by decide) tl0 w9_167 d_M_laysBest_30 rfl (Nat.le_of_ble_eq_true rfl) rfl (Nat.le_of_ble_eq_true rfl) (fun q5 hq5 hTq5 => ?_)
    refine aw_bne (pc := 33) (tgt := 42) d_M_laysBest_33 (by decide) (fun c6 => ?_) (fun c6 => ?_)
    · refine aw_aload_n (pc := 42) d_M_laysBest_42 rfl 0 rfl ?_
      refine gt_1230 (pc := 43) d_M_laysBest_43 w7_57 tl0 (fun tt7 => ?_)
      refine aw_iload_n (pc := 46) d_M_laysBest_46 rfl 3 rfl ?_
      refine aw_iload (pc := 47) d_M_laysBest_47 4 rfl ?_
      refine aw_iastore (pc := 49) d_M_laysBest_49 tt7 (fun c8 => ?_)
      refine aw_letH (fun h9 => ?_)
      refine aw_aload_n (pc := 50) d_M_laysBest_50 rfl 0 rfl ?_
      refine gt_1220 (pc := 51) d_M_laysBest_51 w7_47 tl0 (fun tt10 => ?_)
      refine aw_bipush (pc := 54) (x := 18) d_M_laysBest_54 (by decide) ?_
      refine aw_bipush (pc := 56) (x := 8) d_M_laysBest_56 (by decide) ?_
      refine aw_iload_n (pc := 58) d_M_laysBest_58 rfl 2 rfl ?_
      refine aw_imul (pc := 59) d_M_laysBest_59 ?_
      refine aw_iadd (pc := 60) d_M_laysBest_60 ?_
      refine aw_iload (pc := 61) d_M_laysBest_61 4 rfl ?_
      refine aw_iadd (pc := 63) d_M_laysBest_63 ?_
      refine aw_iaload (pc := 64) d_M_laysBest_64 tt10 (fun c11 => ?_)
      refine aw_istore_n (pc := 65) (lv' := [(2, .int (hAi h9 (hGr h9 1220 l0) (Int32.toNatClampNeg ((18 + (8 * l2)) + l4)))), (0, .ref l0), (1, .int l1), (3, .int l3), (4, .int l4)]) d_M_laysBest_65 rfl (by decide) rfl ?_
      refine aw_iinc (pc := 66) (w := l3 + 1) (lv' := [(3, .int (l3 + 1)), (2, .int (hAi h9 (hGr h9 1220 l0) (Int32.toNatClampNeg ((18 + (8 * l2)) + l4)))), (0, .ref l0), (1, .int l1), (4, .int l4)]) d_M_laysBest_66 3 rfl rfl (by decide) rfl ?_
      refine aw_goto (pc := 69) (tgt := 8) d_M_laysBest_69 (by decide) ?_
      exact aw_lv [2, 3, 1, 0] rfl (hk8 (hAi h9 (hGr h9 1220 l0) (Int32.toNatClampNeg ((18 + (8 * l2)) + l4))) (l3 + 1) h9)
    · refine aw_iinc (pc := 36) (w := l4 + 1) (lv' := [(4, .int (l4 + 1)), (0, .ref l0), (1, .int l1), (2, .int l2), (3, .int l3)]) d_M_laysBest_36 4 rfl rfl (by decide) rfl ?_
      refine aw_goto (pc := 39) (tgt := 24) d_M_laysBest_39 (by decide) ?_
      exact aw_lv [1, 2, 3, 4, 0] rfl (ih (l4 + 1))
def M_laysBest_L8 (Y : Ly) (l0 : Nat) (l1 : Int32) : Nat → Int32 → Int32 → Hp → Option Hp
  | 0, _, _, _ => none
  | F + 1, l2, l3, h =>
    if inB (88 + l1) (lnY Y (hGr h 1220 l0)) = true then
      if (hAi h (hGr h 1220 l0) (Int32.toNatClampNeg (88 + l1))) < l3 then
        some h
      else
        M_laysBest_L24 Y l0 l1 l2 l3 h (M_laysBest_L8 Y l0 l1 F) FU 0
    else none
theorem M_laysBest_L8_ok (Y : Ly) (l0 : Nat) (l1 : Int32) (tl0 : isO Y 12 l0) : ∀ (F : Nat) (l2 : Int32) (l3 : Int32) (h : Hp), AW Y 3 K_M_laysBest 8 [(0, .ref l0), (1, .int l1), (2, .int l2), (3, .int l3)] [] h (M_laysBest_L8 Y l0 l1 F l2 l3 h) rV := by
  intro F
  induction F with
  | zero =>
    intro l2 l3 h
    exact aw_none
  | succ F ih =>
    intro l2 l3 h
    unfold M_laysBest_L8
    refine aw_iload_n (pc := 8) d_M_laysBest_8 rfl 3 rfl ?_
    refine aw_aload_n (pc := 9) d_M_laysBest_9 rfl 0 rfl ?_
    refine gt_1220 (pc := 10) d_M_laysBest_10 w7_47 tl0 (fun tt2 => ?_)
    refine aw_bipush (pc := 13) (x := 88) d_M_laysBest_13 (by decide) ?_
    refine aw_iload_n (pc := 15) d_M_laysBest_15 rfl 1 rfl ?_
    refine aw_iadd (pc := 16) d_M_laysBest_16 ?_
    refine aw_iaload (pc := 17) d_M_laysBest_17 tt2 (fun c3 => ?_)
    refine aw_icmp_gt (pc := 18) (tgt := 72) d_M_laysBest_18 (by decide) (fun c4 => ?_) (fun c4 => ?_)
    · exact aw_return (pc := 72) d_M_laysBest_72 rfl rfl
    · refine aw_iconst (pc := 21) (x := 0) d_M_laysBest_21 (by decide) ?_
      refine aw_istore (pc := 22) (lv' := [(4, .int 0), (0, .ref l0), (1, .int l1), (2, .int l2), (3, .int l3)]) d_M_laysBest_22 (by decide) rfl ?_
      exact aw_lv [1, 2, 3, 4, 0] rfl (M_laysBest_L24_ok Y l0 l1 l2 l3 h (M_laysBest_L8 Y l0 l1 F) tl0 ih FU 0)
def M_laysBest (Y : Ly) (l0 : Nat) (l1 : Int32) (h : Hp) : Option Hp :=
  (M_placeOf Y l0 l1 h).bind fun q1 =>
  M_laysBest_L8 Y l0 l1 FU q1 1 h
theorem ok_M_laysBest (Y : Ly) (l0 : Nat) (l1 : Int32) (h : Hp) (t0 : isO Y 12 l0) : AM Y 3 K_M_laysBest [.ref l0, .int l1] h (M_laysBest Y l0 l1 h) rV := by
  refine AM.of rfl (Nat.le_of_ble_eq_true rfl) ?_
  show AW Y 3 K_M_laysBest 0 [(0, .ref l0), (1, .int l1)] [] h (M_laysBest Y l0 l1 h) rV
  unfold M_laysBest
  refine aw_aload_n (pc := 0) d_M_laysBest_0 rfl 0 rfl ?_
  refine aw_iload_n (pc := 1) d_M_laysBest_1 rfl 1 rfl ?_
  refine aw_cVpI (pc := 2) (ci := 12) (T := TX12) (N := 44) (As := [.int l1]) (st := []) (ok_M_placeOf Y l0 l1 h t0) okV_M_placeOf rfl (by decide) t0 w9_45 d_M_laysBest_2 rfl (Nat.le_of_ble_eq_true rfl) rfl (Nat.le_of_ble_eq_true rfl) (fun q1 hq1 hTq1 => ?_)
  refine aw_istore_n (pc := 5) (lv' := [(2, .int q1), (0, .ref l0), (1, .int l1)]) d_M_laysBest_5 rfl (by decide) rfl ?_
  refine aw_iconst (pc := 6) (x := 1) d_M_laysBest_6 (by decide) ?_
  refine aw_istore_n (pc := 7) (lv' := [(3, .int 1), (2, .int q1), (0, .ref l0), (1, .int l1)]) d_M_laysBest_7 rfl (by decide) rfl ?_
  exact aw_lv [2, 3, 1, 0] rfl (M_laysBest_L8_ok Y l0 l1 t0 FU q1 1 h)
/-! LastPagesModel.bests(I)I -/
theorem d_M_bests_0 : decode prog_14_method_125_code 0 = .ok (.aload_n 0, 1) := by decide +kernel
theorem d_M_bests_1 : decode prog_14_method_125_code 1 = .ok (.getfield 35, 3) := by decide +kernel
theorem d_M_bests_4 : decode prog_14_method_125_code 4 = .ok (.bipush 88, 2) := by decide +kernel
theorem d_M_bests_6 : decode prog_14_method_125_code 6 = .ok (.iload_n 1, 1) := by decide +kernel
theorem d_M_bests_7 : decode prog_14_method_125_code 7 = .ok (.iadd, 1) := by decide +kernel
theorem d_M_bests_8 : decode prog_14_method_125_code 8 = .ok (.iaload, 1) := by decide +kernel
theorem d_M_bests_9 : decode prog_14_method_125_code 9 = .ok (.istore_n 2, 1) := by decide +kernel
theorem d_M_bests_10 : decode prog_14_method_125_code 10 = .ok (.iconst 0, 1) := by decide +kernel
theorem d_M_bests_11 : decode prog_14_method_125_code 11 = .ok (.istore_n 3, 1) := by decide +kernel
theorem d_M_bests_12 : decode prog_14_method_125_code 12 = .ok (.iload_n 3, 1) := by decide +kernel
theorem d_M_bests_13 : decode prog_14_method_125_code 13 = .ok (.bipush 8, 2) := by decide +kernel
theorem d_M_bests_15 : decode prog_14_method_125_code 15 = .ok (.if_icmp .ge 41, 3) := by decide +kernel
theorem d_M_bests_18 : decode prog_14_method_125_code 18 = .ok (.aload_n 0, 1) := by decide +kernel
theorem d_M_bests_19 : decode prog_14_method_125_code 19 = .ok (.getfield 56, 3) := by decide +kernel
theorem d_M_bests_22 : decode prog_14_method_125_code 22 = .ok (.bipush 8, 2) := by decide +kernel
theorem d_M_bests_24 : decode prog_14_method_125_code 24 = .ok (.iload_n 2, 1) := by decide +kernel
theorem d_M_bests_25 : decode prog_14_method_125_code 25 = .ok (.iconst 1, 1) := by decide +kernel
theorem d_M_bests_26 : decode prog_14_method_125_code 26 = .ok (.iadd, 1) := by decide +kernel
theorem d_M_bests_27 : decode prog_14_method_125_code 27 = .ok (.imul, 1) := by decide +kernel
theorem d_M_bests_28 : decode prog_14_method_125_code 28 = .ok (.iload_n 3, 1) := by decide +kernel
theorem d_M_bests_29 : decode prog_14_method_125_code 29 = .ok (.iadd, 1) := by decide +kernel
theorem d_M_bests_30 : decode prog_14_method_125_code 30 = .ok (.aload_n 0, 1) := by decide +kernel
theorem d_M_bests_31 : decode prog_14_method_125_code 31 = .ok (.getfield 35, 3) := by decide +kernel
theorem d_M_bests_34 : decode prog_14_method_125_code 34 = .ok (.bipush 8, 2) := by decide +kernel
theorem d_M_bests_36 : decode prog_14_method_125_code 36 = .ok (.iaload, 1) := by decide +kernel
theorem d_M_bests_37 : decode prog_14_method_125_code 37 = .ok (.iload_n 3, 1) := by decide +kernel
theorem d_M_bests_38 : decode prog_14_method_125_code 38 = .ok (.invokestatic 117, 3) := by decide +kernel
theorem d_M_bests_41 : decode prog_14_method_125_code 41 = .ok (.ifCond .eq 7, 3) := by decide +kernel
theorem d_M_bests_44 : decode prog_14_method_125_code 44 = .ok (.iconst 0, 1) := by decide +kernel
theorem d_M_bests_45 : decode prog_14_method_125_code 45 = .ok (.goto 4, 3) := by decide +kernel
theorem d_M_bests_48 : decode prog_14_method_125_code 48 = .ok (.iconst (-1), 1) := by decide +kernel
theorem d_M_bests_49 : decode prog_14_method_125_code 49 = .ok (.iastore, 1) := by decide +kernel
theorem d_M_bests_50 : decode prog_14_method_125_code 50 = .ok (.iinc 3 1, 3) := by decide +kernel
theorem d_M_bests_53 : decode prog_14_method_125_code 53 = .ok (.goto (-41), 3) := by decide +kernel
theorem d_M_bests_56 : decode prog_14_method_125_code 56 = .ok (.iload_n 2, 1) := by decide +kernel
theorem d_M_bests_57 : decode prog_14_method_125_code 57 = .ok (.istore_n 3, 1) := by decide +kernel
theorem d_M_bests_58 : decode prog_14_method_125_code 58 = .ok (.iload_n 3, 1) := by decide +kernel
theorem d_M_bests_59 : decode prog_14_method_125_code 59 = .ok (.ifCond .le 169, 3) := by decide +kernel
theorem d_M_bests_62 : decode prog_14_method_125_code 62 = .ok (.iconst 0, 1) := by decide +kernel
theorem d_M_bests_63 : decode prog_14_method_125_code 63 = .ok (.istore 4, 2) := by decide +kernel
theorem d_M_bests_65 : decode prog_14_method_125_code 65 = .ok (.iload 4, 2) := by decide +kernel
theorem d_M_bests_67 : decode prog_14_method_125_code 67 = .ok (.bipush 8, 2) := by decide +kernel
theorem d_M_bests_69 : decode prog_14_method_125_code 69 = .ok (.if_icmp .ge 153, 3) := by decide +kernel
theorem d_M_bests_72 : decode prog_14_method_125_code 72 = .ok (.iconst (-1), 1) := by decide +kernel
theorem d_M_bests_73 : decode prog_14_method_125_code 73 = .ok (.istore 5, 2) := by decide +kernel
theorem d_M_bests_75 : decode prog_14_method_125_code 75 = .ok (.iconst 0, 1) := by decide +kernel
theorem d_M_bests_76 : decode prog_14_method_125_code 76 = .ok (.istore 6, 2) := by decide +kernel
theorem d_M_bests_78 : decode prog_14_method_125_code 78 = .ok (.iload 6, 2) := by decide +kernel
theorem d_M_bests_80 : decode prog_14_method_125_code 80 = .ok (.aload_n 0, 1) := by decide +kernel
theorem d_M_bests_81 : decode prog_14_method_125_code 81 = .ok (.getfield 35, 3) := by decide +kernel
theorem d_M_bests_84 : decode prog_14_method_125_code 84 = .ok (.iconst 1, 1) := by decide +kernel
theorem d_M_bests_85 : decode prog_14_method_125_code 85 = .ok (.iaload, 1) := by decide +kernel
theorem d_M_bests_86 : decode prog_14_method_125_code 86 = .ok (.if_icmp .ge 116, 3) := by decide +kernel
theorem d_M_bests_89 : decode prog_14_method_125_code 89 = .ok (.aload_n 0, 1) := by decide +kernel
theorem d_M_bests_90 : decode prog_14_method_125_code 90 = .ok (.getfield 35, 3) := by decide +kernel
theorem d_M_bests_93 : decode prog_14_method_125_code 93 = .ok (.bipush 18, 2) := by decide +kernel
theorem d_M_bests_95 : decode prog_14_method_125_code 95 = .ok (.bipush 8, 2) := by decide +kernel
theorem d_M_bests_97 : decode prog_14_method_125_code 97 = .ok (.iload 4, 2) := by decide +kernel
theorem d_M_bests_99 : decode prog_14_method_125_code 99 = .ok (.imul, 1) := by decide +kernel
theorem d_M_bests_100 : decode prog_14_method_125_code 100 = .ok (.iadd, 1) := by decide +kernel
theorem d_M_bests_101 : decode prog_14_method_125_code 101 = .ok (.iload 6, 2) := by decide +kernel
theorem d_M_bests_103 : decode prog_14_method_125_code 103 = .ok (.iadd, 1) := by decide +kernel
theorem d_M_bests_104 : decode prog_14_method_125_code 104 = .ok (.iaload, 1) := by decide +kernel
theorem d_M_bests_105 : decode prog_14_method_125_code 105 = .ok (.istore 7, 2) := by decide +kernel
theorem d_M_bests_107 : decode prog_14_method_125_code 107 = .ok (.iload 7, 2) := by decide +kernel
theorem d_M_bests_109 : decode prog_14_method_125_code 109 = .ok (.ifCond .lt 87, 3) := by decide +kernel
theorem d_M_bests_112 : decode prog_14_method_125_code 112 = .ok (.aload_n 0, 1) := by decide +kernel
theorem d_M_bests_113 : decode prog_14_method_125_code 113 = .ok (.getfield 56, 3) := by decide +kernel
theorem d_M_bests_116 : decode prog_14_method_125_code 116 = .ok (.bipush 8, 2) := by decide +kernel
theorem d_M_bests_118 : decode prog_14_method_125_code 118 = .ok (.iload_n 3, 1) := by decide +kernel
theorem d_M_bests_119 : decode prog_14_method_125_code 119 = .ok (.iconst 1, 1) := by decide +kernel
theorem d_M_bests_120 : decode prog_14_method_125_code 120 = .ok (.iadd, 1) := by decide +kernel
theorem d_M_bests_121 : decode prog_14_method_125_code 121 = .ok (.imul, 1) := by decide +kernel
theorem d_M_bests_122 : decode prog_14_method_125_code 122 = .ok (.iload 7, 2) := by decide +kernel
theorem d_M_bests_124 : decode prog_14_method_125_code 124 = .ok (.iadd, 1) := by decide +kernel
theorem d_M_bests_125 : decode prog_14_method_125_code 125 = .ok (.iaload, 1) := by decide +kernel
theorem d_M_bests_126 : decode prog_14_method_125_code 126 = .ok (.ifCond .lt 70, 3) := by decide +kernel
theorem d_M_bests_129 : decode prog_14_method_125_code 129 = .ok (.aload_n 0, 1) := by decide +kernel
theorem d_M_bests_130 : decode prog_14_method_125_code 130 = .ok (.iload_n 1, 1) := by decide +kernel
theorem d_M_bests_131 : decode prog_14_method_125_code 131 = .ok (.iload_n 3, 1) := by decide +kernel
theorem d_M_bests_132 : decode prog_14_method_125_code 132 = .ok (.iload 6, 2) := by decide +kernel
theorem d_M_bests_134 : decode prog_14_method_125_code 134 = .ok (.aload_n 0, 1) := by decide +kernel
theorem d_M_bests_135 : decode prog_14_method_125_code 135 = .ok (.getfield 35, 3) := by decide +kernel
theorem d_M_bests_138 : decode prog_14_method_125_code 138 = .ok (.bipush 9, 2) := by decide +kernel
theorem d_M_bests_140 : decode prog_14_method_125_code 140 = .ok (.iaload, 1) := by decide +kernel
theorem d_M_bests_141 : decode prog_14_method_125_code 141 = .ok (.invokevirtual 399, 3) := by decide +kernel
theorem d_M_bests_144 : decode prog_14_method_125_code 144 = .ok (.ifCond .eq 6, 3) := by decide +kernel
theorem d_M_bests_147 : decode prog_14_method_125_code 147 = .ok (.goto 49, 3) := by decide +kernel
theorem d_M_bests_150 : decode prog_14_method_125_code 150 = .ok (.aload_n 0, 1) := by decide +kernel
theorem d_M_bests_151 : decode prog_14_method_125_code 151 = .ok (.getfield 35, 3) := by decide +kernel
theorem d_M_bests_154 : decode prog_14_method_125_code 154 = .ok (.bipush 10, 2) := by decide +kernel
theorem d_M_bests_156 : decode prog_14_method_125_code 156 = .ok (.iload 6, 2) := by decide +kernel
theorem d_M_bests_158 : decode prog_14_method_125_code 158 = .ok (.iadd, 1) := by decide +kernel
theorem d_M_bests_159 : decode prog_14_method_125_code 159 = .ok (.iaload, 1) := by decide +kernel
theorem d_M_bests_160 : decode prog_14_method_125_code 160 = .ok (.aload_n 0, 1) := by decide +kernel
theorem d_M_bests_161 : decode prog_14_method_125_code 161 = .ok (.getfield 56, 3) := by decide +kernel
theorem d_M_bests_164 : decode prog_14_method_125_code 164 = .ok (.bipush 8, 2) := by decide +kernel
theorem d_M_bests_166 : decode prog_14_method_125_code 166 = .ok (.iload_n 3, 1) := by decide +kernel
theorem d_M_bests_167 : decode prog_14_method_125_code 167 = .ok (.iconst 1, 1) := by decide +kernel
theorem d_M_bests_168 : decode prog_14_method_125_code 168 = .ok (.iadd, 1) := by decide +kernel
theorem d_M_bests_169 : decode prog_14_method_125_code 169 = .ok (.imul, 1) := by decide +kernel
theorem d_M_bests_170 : decode prog_14_method_125_code 170 = .ok (.iload 7, 2) := by decide +kernel
theorem d_M_bests_172 : decode prog_14_method_125_code 172 = .ok (.iadd, 1) := by decide +kernel
theorem d_M_bests_173 : decode prog_14_method_125_code 173 = .ok (.iaload, 1) := by decide +kernel
theorem d_M_bests_174 : decode prog_14_method_125_code 174 = .ok (.iadd, 1) := by decide +kernel
theorem d_M_bests_175 : decode prog_14_method_125_code 175 = .ok (.istore 8, 2) := by decide +kernel
theorem d_M_bests_177 : decode prog_14_method_125_code 177 = .ok (.iload 5, 2) := by decide +kernel
theorem d_M_bests_179 : decode prog_14_method_125_code 179 = .ok (.ifCond .ge 8, 3) := by decide +kernel
theorem d_M_bests_182 : decode prog_14_method_125_code 182 = .ok (.iload 8, 2) := by decide +kernel
theorem d_M_bests_184 : decode prog_14_method_125_code 184 = .ok (.goto 10, 3) := by decide +kernel
theorem d_M_bests_187 : decode prog_14_method_125_code 187 = .ok (.iload 5, 2) := by decide +kernel
theorem d_M_bests_189 : decode prog_14_method_125_code 189 = .ok (.iload 8, 2) := by decide +kernel
theorem d_M_bests_191 : decode prog_14_method_125_code 191 = .ok (.invokestatic 426, 3) := by decide +kernel
theorem d_M_bests_194 : decode prog_14_method_125_code 194 = .ok (.istore 5, 2) := by decide +kernel
theorem d_M_bests_196 : decode prog_14_method_125_code 196 = .ok (.iinc 6 1, 3) := by decide +kernel
theorem d_M_bests_199 : decode prog_14_method_125_code 199 = .ok (.goto (-121), 3) := by decide +kernel
theorem d_M_bests_202 : decode prog_14_method_125_code 202 = .ok (.aload_n 0, 1) := by decide +kernel
theorem d_M_bests_203 : decode prog_14_method_125_code 203 = .ok (.getfield 56, 3) := by decide +kernel
theorem d_M_bests_206 : decode prog_14_method_125_code 206 = .ok (.bipush 8, 2) := by decide +kernel
theorem d_M_bests_208 : decode prog_14_method_125_code 208 = .ok (.iload_n 3, 1) := by decide +kernel
theorem d_M_bests_209 : decode prog_14_method_125_code 209 = .ok (.imul, 1) := by decide +kernel
theorem d_M_bests_210 : decode prog_14_method_125_code 210 = .ok (.iload 4, 2) := by decide +kernel
theorem d_M_bests_212 : decode prog_14_method_125_code 212 = .ok (.iadd, 1) := by decide +kernel
theorem d_M_bests_213 : decode prog_14_method_125_code 213 = .ok (.iload 5, 2) := by decide +kernel
theorem d_M_bests_215 : decode prog_14_method_125_code 215 = .ok (.iastore, 1) := by decide +kernel
theorem d_M_bests_216 : decode prog_14_method_125_code 216 = .ok (.iinc 4 1, 3) := by decide +kernel
theorem d_M_bests_219 : decode prog_14_method_125_code 219 = .ok (.goto (-154), 3) := by decide +kernel
theorem d_M_bests_222 : decode prog_14_method_125_code 222 = .ok (.iinc 3 (-1), 3) := by decide +kernel
theorem d_M_bests_225 : decode prog_14_method_125_code 225 = .ok (.goto (-167), 3) := by decide +kernel
theorem d_M_bests_228 : decode prog_14_method_125_code 228 = .ok (.aload_n 0, 1) := by decide +kernel
theorem d_M_bests_229 : decode prog_14_method_125_code 229 = .ok (.iload_n 1, 1) := by decide +kernel
theorem d_M_bests_230 : decode prog_14_method_125_code 230 = .ok (.invokevirtual 429, 3) := by decide +kernel
theorem d_M_bests_233 : decode prog_14_method_125_code 233 = .ok (.aload_n 0, 1) := by decide +kernel
theorem d_M_bests_234 : decode prog_14_method_125_code 234 = .ok (.getfield 56, 3) := by decide +kernel
theorem d_M_bests_237 : decode prog_14_method_125_code 237 = .ok (.bipush 8, 2) := by decide +kernel
theorem d_M_bests_239 : decode prog_14_method_125_code 239 = .ok (.aload_n 0, 1) := by decide +kernel
theorem d_M_bests_240 : decode prog_14_method_125_code 240 = .ok (.iload_n 1, 1) := by decide +kernel
theorem d_M_bests_241 : decode prog_14_method_125_code 241 = .ok (.invokevirtual 387, 3) := by decide +kernel
theorem d_M_bests_244 : decode prog_14_method_125_code 244 = .ok (.iadd, 1) := by decide +kernel
theorem d_M_bests_245 : decode prog_14_method_125_code 245 = .ok (.iaload, 1) := by decide +kernel
theorem d_M_bests_246 : decode prog_14_method_125_code 246 = .ok (.ireturn, 1) := by decide +kernel
def M_bests_L78 (Y : Ly) (l0 : Nat) (l1 : Int32) (l3 : Int32) (l4 : Int32) (h : Hp) (k65 : Int32 → Hp → Option (Int32 × Hp)) : Nat → Int32 → Int32 → Option (Int32 × Hp)
  | 0, _, _ => none
  | F + 1, l5, l6 =>
    if inB 1 (lnY Y (hGr h 1220 l0)) = true then
      if (hAi h (hGr h 1220 l0) (Int32.toNatClampNeg 1)) ≤ l6 then
        if inB ((8 * l3) + l4) (lnY Y (hGr h 1229 l0)) = true then
          letH (hTi h (hGr h 1229 l0) (Int32.toNatClampNeg ((8 * l3) + l4)) l5) fun h15 =>
          k65 (l4 + 1) h15
        else none
      else
        if inB ((18 + (8 * l4)) + l6) (lnY Y (hGr h 1220 l0)) = true then
          if (hAi h (hGr h 1220 l0) (Int32.toNatClampNeg ((18 + (8 * l4)) + l6))) < 0 then
            M_bests_L78 Y l0 l1 l3 l4 h k65 F l5 (l6 + 1)
          else
            if inB ((8 * (l3 + 1)) + (hAi h (hGr h 1220 l0) (Int32.toNatClampNeg ((18 + (8 * l4)) + l6)))) (lnY Y (hGr h 1229 l0)) = true then
              if (hAi h (hGr h 1229 l0) (Int32.toNatClampNeg ((8 * (l3 + 1)) + (hAi h (hGr h 1220 l0) (Int32.toNatClampNeg ((18 + (8 * l4)) + l6)))))) < 0 then
                M_bests_L78 Y l0 l1 l3 l4 h k65 F l5 (l6 + 1)
              else
                if inB 9 (lnY Y (hGr h 1220 l0)) = true then
                  (M_isBarred Y l0 l1 l3 l6 (hAi h (hGr h 1220 l0) (Int32.toNatClampNeg 9)) h).bind fun q24 =>
                  if q24 = true then
                    M_bests_L78 Y l0 l1 l3 l4 h k65 F l5 (l6 + 1)
                  else
                    if inB (10 + l6) (lnY Y (hGr h 1220 l0)) = true then
                      if inB ((8 * (l3 + 1)) + (hAi h (hGr h 1220 l0) (Int32.toNatClampNeg ((18 + (8 * l4)) + l6)))) (lnY Y (hGr h 1229 l0)) = true then
                        if 0 ≤ l5 then
                          M_bests_L78 Y l0 l1 l3 l4 h k65 F (if ((hAi h (hGr h 1220 l0) (Int32.toNatClampNeg (10 + l6))) + (hAi h (hGr h 1229 l0) (Int32.toNatClampNeg ((8 * (l3 + 1)) + (hAi h (hGr h 1220 l0) (Int32.toNatClampNeg ((18 + (8 * l4)) + l6))))))) < l5 then ((hAi h (hGr h 1220 l0) (Int32.toNatClampNeg (10 + l6))) + (hAi h (hGr h 1229 l0) (Int32.toNatClampNeg ((8 * (l3 + 1)) + (hAi h (hGr h 1220 l0) (Int32.toNatClampNeg ((18 + (8 * l4)) + l6))))))) else l5) (l6 + 1)
                        else
                          M_bests_L78 Y l0 l1 l3 l4 h k65 F ((hAi h (hGr h 1220 l0) (Int32.toNatClampNeg (10 + l6))) + (hAi h (hGr h 1229 l0) (Int32.toNatClampNeg ((8 * (l3 + 1)) + (hAi h (hGr h 1220 l0) (Int32.toNatClampNeg ((18 + (8 * l4)) + l6))))))) (l6 + 1)
                      else none
                    else none
                else none
            else none
        else none
    else none
theorem M_bests_L78_ok (Y : Ly) (l0 : Nat) (l1 : Int32) (l3 : Int32) (l4 : Int32) (h : Hp) (k65 : Int32 → Hp → Option (Int32 × Hp)) (tl0 : isO Y 12 l0) (hk65 : ∀ (l4_ : Int32) (h_ : Hp), AW Y 4 K_M_bests 65 [(0, .ref l0), (1, .int l1), (3, .int l3), (4, .int l4_)] [] h_ (k65 l4_ h_) rI) : ∀ (F : Nat) (l5 : Int32) (l6 : Int32), AW Y 4 K_M_bests 78 [(0, .ref l0), (1, .int l1), (3, .int l3), (4, .int l4), (5, .int l5), (6, .int l6)] [] h (M_bests_L78 Y l0 l1 l3 l4 h k65 F l5 l6) rI := by
  intro F
  induction F with
  | zero =>
    intro l5 l6
    exact aw_none
  | succ F ih =>
    intro l5 l6
    unfold M_bests_L78
    refine aw_iload (pc := 78) d_M_bests_78 5 rfl ?_
    refine aw_aload_n (pc := 80) d_M_bests_80 rfl 0 rfl ?_
    refine gt_1220 (pc := 81) d_M_bests_81 w7_47 tl0 (fun tt10 => ?_)
    refine aw_iconst (pc := 84) (x := 1) d_M_bests_84 (by decide) ?_
    refine aw_iaload (pc := 85) d_M_bests_85 tt10 (fun c11 => ?_)
    refine aw_icmp_ge (pc := 86) (tgt := 202) d_M_bests_86 (by decide) (fun c12 => ?_) (fun c12 => ?_)
    · refine aw_aload_n (pc := 202) d_M_bests_202 rfl 0 rfl ?_
      refine gt_1229 (pc := 203) d_M_bests_203 w7_56 tl0 (fun tt13 => ?_)
      refine aw_bipush (pc := 206) (x := 8) d_M_bests_206 (by decide) ?_
      refine aw_iload_n (pc := 208) d_M_bests_208 rfl 2 rfl ?_
      refine aw_imul (pc := 209) d_M_bests_209 ?_
      refine aw_iload (pc := 210) d_M_bests_210 3 rfl ?_
      refine aw_iadd (pc := 212) d_M_bests_212 ?_
      refine aw_iload (pc := 213) d_M_bests_213 4 rfl ?_
      refine aw_iastore (pc := 215) d_M_bests_215 tt13 (fun c14 => ?_)
      refine aw_letH (fun h15 => ?_)
      refine aw_iinc (pc := 216) (w := l4 + 1) (lv' := [(4, .int (l4 + 1)), (0, .ref l0), (1, .int l1), (3, .int l3), (5, .int l5), (6, .int l6)]) d_M_bests_216 3 rfl rfl (by decide) rfl ?_
      refine aw_goto (pc := 219) (tgt := 65) d_M_bests_219 (by decide) ?_
      exact aw_lv [1, 2, 3, 0] rfl (hk65 (l4 + 1) h15)
    · refine aw_aload_n (pc := 89) d_M_bests_89 rfl 0 rfl ?_
      refine gt_1220 (pc := 90) d_M_bests_90 w7_47 tl0 (fun tt16 => ?_)
      refine aw_bipush (pc := 93) (x := 18) d_M_bests_93 (by decide) ?_
      refine aw_bipush (pc := 95) (x := 8) d_M_bests_95 (by decide) ?_
      refine aw_iload (pc := 97) d_M_bests_97 3 rfl ?_
      refine aw_imul (pc := 99) d_M_bests_99 ?_
      refine aw_iadd (pc := 100) d_M_bests_100 ?_
      refine aw_iload (pc := 101) d_M_bests_101 5 rfl ?_
      refine aw_iadd (pc := 103) d_M_bests_103 ?_
      refine aw_iaload (pc := 104) d_M_bests_104 tt16 (fun c17 => ?_)
      refine aw_istore (pc := 105) (lv' := [(7, .int (hAi h (hGr h 1220 l0) (Int32.toNatClampNeg ((18 + (8 * l4)) + l6)))), (0, .ref l0), (1, .int l1), (3, .int l3), (4, .int l4), (5, .int l5), (6, .int l6)]) d_M_bests_105 (by decide) rfl ?_
      refine aw_iload (pc := 107) d_M_bests_107 0 rfl ?_
      refine aw_if_lt (pc := 109) (tgt := 196) d_M_bests_109 (by decide) (fun c18 => ?_) (fun c18 => ?_)
      · refine aw_iinc (pc := 196) (w := l6 + 1) (lv' := [(6, .int (l6 + 1)), (7, .int (hAi h (hGr h 1220 l0) (Int32.toNatClampNeg ((18 + (8 * l4)) + l6)))), (0, .ref l0), (1, .int l1), (3, .int l3), (4, .int l4), (5, .int l5)]) d_M_bests_196 6 rfl rfl (by decide) rfl ?_
        refine aw_goto (pc := 199) (tgt := 78) d_M_bests_199 (by decide) ?_
        exact aw_lv [2, 3, 4, 5, 6, 0] rfl (ih l5 (l6 + 1))
      · refine aw_aload_n (pc := 112) d_M_bests_112 rfl 1 rfl ?_
        refine gt_1229 (pc := 113) d_M_bests_113 w7_56 tl0 (fun tt19 => ?_)
        refine aw_bipush (pc := 116) (x := 8) d_M_bests_116 (by decide) ?_
        refine aw_iload_n (pc := 118) d_M_bests_118 rfl 3 rfl ?_
        refine aw_iconst (pc := 119) (x := 1) d_M_bests_119 (by decide) ?_
        refine aw_iadd (pc := 120) d_M_bests_120 ?_
        refine aw_imul (pc := 121) d_M_bests_121 ?_
        refine aw_iload (pc := 122) d_M_bests_122 0 rfl ?_
        refine aw_iadd (pc := 124) d_M_bests_124 ?_
        refine aw_iaload (pc := 125) d_M_bests_125 tt19 (fun c20 => ?_)
        refine aw_if_lt (pc := 126) (tgt := 196) d_M_bests_126 (by decide) (fun c21 => ?_) (fun c21 => ?_)
        · refine aw_iinc (pc := 196) (w := l6 + 1) (lv' := [(6, .int (l6 + 1)), (7, .int (hAi h (hGr h 1220 l0) (Int32.toNatClampNeg ((18 + (8 * l4)) + l6)))), (0, .ref l0), (1, .int l1), (3, .int l3), (4, .int l4), (5, .int l5)]) d_M_bests_196 6 rfl rfl (by decide) rfl ?_
          refine aw_goto (pc := 199) (tgt := 78) d_M_bests_199 (by decide) ?_
          exact aw_lv [2, 3, 4, 5, 6, 0] rfl (ih l5 (l6 + 1))
        · refine aw_aload_n (pc := 129) d_M_bests_129 rfl 1 rfl ?_
          refine aw_iload_n (pc := 130) d_M_bests_130 rfl 2 rfl ?_
          refine aw_iload_n (pc := 131) d_M_bests_131 rfl 3 rfl ?_
          refine aw_iload (pc := 132) d_M_bests_132 6 rfl ?_
          refine aw_aload_n (pc := 134) d_M_bests_134 rfl 1 rfl ?_
          refine gt_1220 (pc := 135) d_M_bests_135 w7_47 tl0 (fun tt22 => ?_)
          refine aw_bipush (pc := 138) (x := 9) d_M_bests_138 (by decide) ?_
          refine aw_iaload (pc := 140) d_M_bests_140 tt22 (fun c23 => ?_)
          refine aw_cVpZ (pc := 141) (ci := 12) (T := TX12) (N := 44) (As := [.int l1, .int l3, .int l6, .int (hAi h (hGr h 1220 l0) (Int32.toNatClampNeg 9))]) (st := []) (ok_M_isBarred Y l0 l1 l3 l6 (hAi h (hGr h 1220 l0) (Int32.toNatClampNeg 9)) h tl0) okV_M_isBarred rfl (by decide) tl0 w9_106 d_M_bests_141 rfl (Nat.le_of_ble_eq_true rfl) rfl (Nat.le_of_ble_eq_true rfl) (fun q24 hq24 hTq24 => ?_)
          refine aw_beq (pc := 144) (tgt := 150) d_M_bests_144 (by decide) (fun c25 => ?_) (fun c25 => ?_)
          · refine aw_goto (pc := 147) (tgt := 196) d_M_bests_147 (by decide) ?_
            refine aw_iinc (pc := 196) (w := l6 + 1) (lv' := [(6, .int (l6 + 1)), (7, .int (hAi h (hGr h 1220 l0) (Int32.toNatClampNeg ((18 + (8 * l4)) + l6)))), (0, .ref l0), (1, .int l1), (3, .int l3), (4, .int l4), (5, .int l5)]) d_M_bests_196 6 rfl rfl (by decide) rfl ?_
            refine aw_goto (pc := 199) (tgt := 78) d_M_bests_199 (by decide) ?_
            exact aw_lv [2, 3, 4, 5, 6, 0] rfl (ih l5 (l6 + 1))
          · refine aw_aload_n (pc := 150) d_M_bests_150 rfl 1 rfl ?_
            refine gt_1220 (pc := 151) d_M_bests_151 w7_47 tl0 (fun tt26 => ?_)
            refine aw_bipush (pc := 154) (x := 10) d_M_bests_154 (by decide) ?_
            refine aw_iload (pc := 156) d_M_bests_156 6 rfl ?_
            refine aw_iadd (pc := 158) d_M_bests_158 ?_
            refine aw_iaload (pc := 159) d_M_bests_159 tt26 (fun c27 => ?_)
            refine aw_aload_n (pc := 160) d_M_bests_160 rfl 1 rfl ?_
            refine gt_1229 (pc := 161) d_M_bests_161 w7_56 tl0 (fun tt28 => ?_)
            refine aw_bipush (pc := 164) (x := 8) d_M_bests_164 (by decide) ?_
            refine aw_iload_n (pc := 166) d_M_bests_166 rfl 3 rfl ?_
            refine aw_iconst (pc := 167) (x := 1) d_M_bests_167 (by decide) ?_
            refine aw_iadd (pc := 168) d_M_bests_168 ?_
            refine aw_imul (pc := 169) d_M_bests_169 ?_
            refine aw_iload (pc := 170) d_M_bests_170 0 rfl ?_
            refine aw_iadd (pc := 172) d_M_bests_172 ?_
            refine aw_iaload (pc := 173) d_M_bests_173 tt28 (fun c29 => ?_)
            refine aw_iadd (pc := 174) d_M_bests_174 ?_
            refine aw_istore (pc := 175) (lv' := [(8, .int ((hAi h (hGr h 1220 l0) (Int32.toNatClampNeg (10 + l6))) + (hAi h (hGr h 1229 l0) (Int32.toNatClampNeg ((8 * (l3 + 1)) + (hAi h (hGr h 1220 l0) (Int32.toNatClampNeg ((18 + (8 * l4)) + l6)))))))), (7, .int (hAi h (hGr h 1220 l0) (Int32.toNatClampNeg ((18 + (8 * l4)) + l6)))), (0, .ref l0), (1, .int l1), (3, .int l3), (4, .int l4), (5, .int l5), (6, .int l6)]) d_M_bests_175 (by decide) rfl ?_
            refine aw_iload (pc := 177) d_M_bests_177 6 rfl ?_
            refine aw_if_ge (pc := 179) (tgt := 187) d_M_bests_179 (by decide) (fun c30 => ?_) (fun c30 => ?_)
            · refine aw_iload (pc := 187) d_M_bests_187 6 rfl ?_
              refine aw_iload (pc := 189) d_M_bests_189 0 rfl ?_
              refine aw_mmin (pc := 191) d_M_bests_191 w9_162 w3_164 w1_15 w3_165 (Nat.le_of_ble_eq_true rfl) (Nat.le_of_ble_eq_true rfl) ?_
              refine aw_istore (pc := 194) (lv' := [(5, .int (if ((hAi h (hGr h 1220 l0) (Int32.toNatClampNeg (10 + l6))) + (hAi h (hGr h 1229 l0) (Int32.toNatClampNeg ((8 * (l3 + 1)) + (hAi h (hGr h 1220 l0) (Int32.toNatClampNeg ((18 + (8 * l4)) + l6))))))) < l5 then ((hAi h (hGr h 1220 l0) (Int32.toNatClampNeg (10 + l6))) + (hAi h (hGr h 1229 l0) (Int32.toNatClampNeg ((8 * (l3 + 1)) + (hAi h (hGr h 1220 l0) (Int32.toNatClampNeg ((18 + (8 * l4)) + l6))))))) else l5)), (8, .int ((hAi h (hGr h 1220 l0) (Int32.toNatClampNeg (10 + l6))) + (hAi h (hGr h 1229 l0) (Int32.toNatClampNeg ((8 * (l3 + 1)) + (hAi h (hGr h 1220 l0) (Int32.toNatClampNeg ((18 + (8 * l4)) + l6)))))))), (7, .int (hAi h (hGr h 1220 l0) (Int32.toNatClampNeg ((18 + (8 * l4)) + l6)))), (0, .ref l0), (1, .int l1), (3, .int l3), (4, .int l4), (6, .int l6)]) d_M_bests_194 (by decide) rfl ?_
              refine aw_iinc (pc := 196) (w := l6 + 1) (lv' := [(6, .int (l6 + 1)), (5, .int (if ((hAi h (hGr h 1220 l0) (Int32.toNatClampNeg (10 + l6))) + (hAi h (hGr h 1229 l0) (Int32.toNatClampNeg ((8 * (l3 + 1)) + (hAi h (hGr h 1220 l0) (Int32.toNatClampNeg ((18 + (8 * l4)) + l6))))))) < l5 then ((hAi h (hGr h 1220 l0) (Int32.toNatClampNeg (10 + l6))) + (hAi h (hGr h 1229 l0) (Int32.toNatClampNeg ((8 * (l3 + 1)) + (hAi h (hGr h 1220 l0) (Int32.toNatClampNeg ((18 + (8 * l4)) + l6))))))) else l5)), (8, .int ((hAi h (hGr h 1220 l0) (Int32.toNatClampNeg (10 + l6))) + (hAi h (hGr h 1229 l0) (Int32.toNatClampNeg ((8 * (l3 + 1)) + (hAi h (hGr h 1220 l0) (Int32.toNatClampNeg ((18 + (8 * l4)) + l6)))))))), (7, .int (hAi h (hGr h 1220 l0) (Int32.toNatClampNeg ((18 + (8 * l4)) + l6)))), (0, .ref l0), (1, .int l1), (3, .int l3), (4, .int l4)]) d_M_bests_196 7 rfl rfl (by decide) rfl ?_
              refine aw_goto (pc := 199) (tgt := 78) d_M_bests_199 (by decide) ?_
              exact aw_lv [4, 5, 6, 7, 1, 0] rfl (ih (if ((hAi h (hGr h 1220 l0) (Int32.toNatClampNeg (10 + l6))) + (hAi h (hGr h 1229 l0) (Int32.toNatClampNeg ((8 * (l3 + 1)) + (hAi h (hGr h 1220 l0) (Int32.toNatClampNeg ((18 + (8 * l4)) + l6))))))) < l5 then ((hAi h (hGr h 1220 l0) (Int32.toNatClampNeg (10 + l6))) + (hAi h (hGr h 1229 l0) (Int32.toNatClampNeg ((8 * (l3 + 1)) + (hAi h (hGr h 1220 l0) (Int32.toNatClampNeg ((18 + (8 * l4)) + l6))))))) else l5) (l6 + 1))
            · refine aw_iload (pc := 182) d_M_bests_182 0 rfl ?_
              refine aw_goto (pc := 184) (tgt := 194) d_M_bests_184 (by decide) ?_
              refine aw_istore (pc := 194) (lv' := [(5, .int ((hAi h (hGr h 1220 l0) (Int32.toNatClampNeg (10 + l6))) + (hAi h (hGr h 1229 l0) (Int32.toNatClampNeg ((8 * (l3 + 1)) + (hAi h (hGr h 1220 l0) (Int32.toNatClampNeg ((18 + (8 * l4)) + l6)))))))), (8, .int ((hAi h (hGr h 1220 l0) (Int32.toNatClampNeg (10 + l6))) + (hAi h (hGr h 1229 l0) (Int32.toNatClampNeg ((8 * (l3 + 1)) + (hAi h (hGr h 1220 l0) (Int32.toNatClampNeg ((18 + (8 * l4)) + l6)))))))), (7, .int (hAi h (hGr h 1220 l0) (Int32.toNatClampNeg ((18 + (8 * l4)) + l6)))), (0, .ref l0), (1, .int l1), (3, .int l3), (4, .int l4), (6, .int l6)]) d_M_bests_194 (by decide) rfl ?_
              refine aw_iinc (pc := 196) (w := l6 + 1) (lv' := [(6, .int (l6 + 1)), (5, .int ((hAi h (hGr h 1220 l0) (Int32.toNatClampNeg (10 + l6))) + (hAi h (hGr h 1229 l0) (Int32.toNatClampNeg ((8 * (l3 + 1)) + (hAi h (hGr h 1220 l0) (Int32.toNatClampNeg ((18 + (8 * l4)) + l6)))))))), (8, .int ((hAi h (hGr h 1220 l0) (Int32.toNatClampNeg (10 + l6))) + (hAi h (hGr h 1229 l0) (Int32.toNatClampNeg ((8 * (l3 + 1)) + (hAi h (hGr h 1220 l0) (Int32.toNatClampNeg ((18 + (8 * l4)) + l6)))))))), (7, .int (hAi h (hGr h 1220 l0) (Int32.toNatClampNeg ((18 + (8 * l4)) + l6)))), (0, .ref l0), (1, .int l1), (3, .int l3), (4, .int l4)]) d_M_bests_196 7 rfl rfl (by decide) rfl ?_
              refine aw_goto (pc := 199) (tgt := 78) d_M_bests_199 (by decide) ?_
              exact aw_lv [4, 5, 6, 7, 1, 0] rfl (ih ((hAi h (hGr h 1220 l0) (Int32.toNatClampNeg (10 + l6))) + (hAi h (hGr h 1229 l0) (Int32.toNatClampNeg ((8 * (l3 + 1)) + (hAi h (hGr h 1220 l0) (Int32.toNatClampNeg ((18 + (8 * l4)) + l6))))))) (l6 + 1))
def M_bests_L65 (Y : Ly) (l0 : Nat) (l1 : Int32) (l3 : Int32) (k58 : Int32 → Hp → Option (Int32 × Hp)) : Nat → Int32 → Hp → Option (Int32 × Hp)
  | 0, _, _ => none
  | F + 1, l4, h =>
    if 8 ≤ l4 then
      k58 (l3 + (-1)) h
    else
      M_bests_L78 Y l0 l1 l3 l4 h (M_bests_L65 Y l0 l1 l3 k58 F) FU (-1) 0
theorem M_bests_L65_ok (Y : Ly) (l0 : Nat) (l1 : Int32) (l3 : Int32) (k58 : Int32 → Hp → Option (Int32 × Hp)) (tl0 : isO Y 12 l0) (hk58 : ∀ (l3_ : Int32) (h_ : Hp), AW Y 4 K_M_bests 58 [(0, .ref l0), (1, .int l1), (3, .int l3_)] [] h_ (k58 l3_ h_) rI) : ∀ (F : Nat) (l4 : Int32) (h : Hp), AW Y 4 K_M_bests 65 [(0, .ref l0), (1, .int l1), (3, .int l3), (4, .int l4)] [] h (M_bests_L65 Y l0 l1 l3 k58 F l4 h) rI := by
  intro F
  induction F with
  | zero =>
    intro l4 h
    exact aw_none
  | succ F ih =>
    intro l4 h
    unfold M_bests_L65
    refine aw_iload (pc := 65) d_M_bests_65 3 rfl ?_
    refine aw_bipush (pc := 67) (x := 8) d_M_bests_67 (by decide) ?_
    refine aw_icmp_ge (pc := 69) (tgt := 222) d_M_bests_69 (by decide) (fun c9 => ?_) (fun c9 => ?_)
    · refine aw_iinc (pc := 222) (w := l3 + (-1)) (lv' := [(3, .int (l3 + (-1))), (0, .ref l0), (1, .int l1), (4, .int l4)]) d_M_bests_222 2 rfl rfl (by decide) rfl ?_
      refine aw_goto (pc := 225) (tgt := 58) d_M_bests_225 (by decide) ?_
      exact aw_lv [1, 2, 0] rfl (hk58 (l3 + (-1)) h)
    · refine aw_iconst (pc := 72) (x := (-1)) d_M_bests_72 (by decide) ?_
      refine aw_istore (pc := 73) (lv' := [(5, .int (-1)), (0, .ref l0), (1, .int l1), (3, .int l3), (4, .int l4)]) d_M_bests_73 (by decide) rfl ?_
      refine aw_iconst (pc := 75) (x := 0) d_M_bests_75 (by decide) ?_
      refine aw_istore (pc := 76) (lv' := [(6, .int 0), (5, .int (-1)), (0, .ref l0), (1, .int l1), (3, .int l3), (4, .int l4)]) d_M_bests_76 (by decide) rfl ?_
      exact aw_lv [2, 3, 4, 5, 1, 0] rfl (M_bests_L78_ok Y l0 l1 l3 l4 h (M_bests_L65 Y l0 l1 l3 k58 F) tl0 ih FU (-1) 0)
def M_bests_L58 (Y : Ly) (l0 : Nat) (l1 : Int32) : Nat → Int32 → Hp → Option (Int32 × Hp)
  | 0, _, _ => none
  | F + 1, l3, h =>
    if l3 ≤ 0 then
      (M_laysBest Y l0 l1 h).bind fun q5 =>
      (M_placeOf Y l0 l1 q5).bind fun q7 =>
      if inB (8 + q7) (lnY Y (hGr q5 1229 l0)) = true then
        some (hAi q5 (hGr q5 1229 l0) (Int32.toNatClampNeg (8 + q7)), q5)
      else none
    else
      M_bests_L65 Y l0 l1 l3 (M_bests_L58 Y l0 l1 F) FU 0 h
theorem M_bests_L58_ok (Y : Ly) (l0 : Nat) (l1 : Int32) (tl0 : isO Y 12 l0) : ∀ (F : Nat) (l3 : Int32) (h : Hp), AW Y 4 K_M_bests 58 [(0, .ref l0), (1, .int l1), (3, .int l3)] [] h (M_bests_L58 Y l0 l1 F l3 h) rI := by
  intro F
  induction F with
  | zero =>
    intro l3 h
    exact aw_none
  | succ F ih =>
    intro l3 h
    unfold M_bests_L58
    refine aw_iload_n (pc := 58) d_M_bests_58 rfl 2 rfl ?_
    refine aw_if_le (pc := 59) (tgt := 228) d_M_bests_59 (by decide) (fun c4 => ?_) (fun c4 => ?_)
    · refine aw_aload_n (pc := 228) d_M_bests_228 rfl 0 rfl ?_
      refine aw_iload_n (pc := 229) d_M_bests_229 rfl 1 rfl ?_
      refine aw_cVrV (pc := 230) (ci := 12) (T := TX12) (N := 44) (As := [.int l1]) (st := []) (ok_M_laysBest Y l0 l1 h tl0) okV_M_laysBest rfl (by decide) tl0 w9_163 d_M_bests_230 rfl (Nat.le_of_ble_eq_true rfl) rfl (Nat.le_of_ble_eq_true rfl) (fun q5 hq5 hTq5 => ?_)
      refine aw_aload_n (pc := 233) d_M_bests_233 rfl 0 rfl ?_
      refine gt_1229 (pc := 234) d_M_bests_234 w7_56 tl0 (fun tt6 => ?_)
      refine aw_bipush (pc := 237) (x := 8) d_M_bests_237 (by decide) ?_
      refine aw_aload_n (pc := 239) d_M_bests_239 rfl 0 rfl ?_
      refine aw_iload_n (pc := 240) d_M_bests_240 rfl 1 rfl ?_
      refine aw_cVpI (pc := 241) (ci := 12) (T := TX12) (N := 44) (As := [.int l1]) (st := [.int 8, .ref (hGr q5 1229 l0)]) (ok_M_placeOf Y l0 l1 q5 tl0) okV_M_placeOf rfl (by decide) tl0 w9_45 d_M_bests_241 rfl (Nat.le_of_ble_eq_true rfl) rfl (Nat.le_of_ble_eq_true rfl) (fun q7 hq7 hTq7 => ?_)
      refine aw_iadd (pc := 244) d_M_bests_244 ?_
      refine aw_iaload (pc := 245) d_M_bests_245 tt6 (fun c8 => ?_)
      exact aw_ireturn (pc := 246) d_M_bests_246 rfl rfl
    · refine aw_iconst (pc := 62) (x := 0) d_M_bests_62 (by decide) ?_
      refine aw_istore (pc := 63) (lv' := [(4, .int 0), (0, .ref l0), (1, .int l1), (3, .int l3)]) d_M_bests_63 (by decide) rfl ?_
      exact aw_lv [1, 2, 3, 0] rfl (M_bests_L65_ok Y l0 l1 l3 (M_bests_L58 Y l0 l1 F) tl0 ih FU 0 h)
def M_bests_L12 (Y : Ly) (l0 : Nat) (l1 : Int32) (l2 : Int32) : Nat → Int32 → Hp → Option (Int32 × Hp)
  | 0, _, _ => none
  | F + 1, l3, h =>
    if 8 ≤ l3 then
      M_bests_L58 Y l0 l1 FU l2 h
    else
      if inB 8 (lnY Y (hGr h 1220 l0)) = true then
        (M_has Y (hAi h (hGr h 1220 l0) (Int32.toNatClampNeg 8)) l3 h).bind fun q34 =>
        if q34 = true then
          if inB ((8 * (l2 + 1)) + l3) (lnY Y (hGr h 1229 l0)) = true then
            letH (hTi h (hGr h 1229 l0) (Int32.toNatClampNeg ((8 * (l2 + 1)) + l3)) 0) fun h37 =>
            M_bests_L12 Y l0 l1 l2 F (l3 + 1) h37
          else none
        else
          if inB ((8 * (l2 + 1)) + l3) (lnY Y (hGr h 1229 l0)) = true then
            letH (hTi h (hGr h 1229 l0) (Int32.toNatClampNeg ((8 * (l2 + 1)) + l3)) (-1)) fun h39 =>
            M_bests_L12 Y l0 l1 l2 F (l3 + 1) h39
          else none
      else none
theorem M_bests_L12_ok (Y : Ly) (l0 : Nat) (l1 : Int32) (l2 : Int32) (tl0 : isO Y 12 l0) : ∀ (F : Nat) (l3 : Int32) (h : Hp), AW Y 4 K_M_bests 12 [(0, .ref l0), (1, .int l1), (2, .int l2), (3, .int l3)] [] h (M_bests_L12 Y l0 l1 l2 F l3 h) rI := by
  intro F
  induction F with
  | zero =>
    intro l3 h
    exact aw_none
  | succ F ih =>
    intro l3 h
    unfold M_bests_L12
    refine aw_iload_n (pc := 12) d_M_bests_12 rfl 3 rfl ?_
    refine aw_bipush (pc := 13) (x := 8) d_M_bests_13 (by decide) ?_
    refine aw_icmp_ge (pc := 15) (tgt := 56) d_M_bests_15 (by decide) (fun c3 => ?_) (fun c3 => ?_)
    · refine aw_iload_n (pc := 56) d_M_bests_56 rfl 2 rfl ?_
      refine aw_istore_n (pc := 57) (lv' := [(3, .int l2), (0, .ref l0), (1, .int l1), (2, .int l2)]) d_M_bests_57 rfl (by decide) rfl ?_
      exact aw_lv [1, 2, 0] rfl (M_bests_L58_ok Y l0 l1 tl0 FU l2 h)
    · refine aw_aload_n (pc := 18) d_M_bests_18 rfl 0 rfl ?_
      refine gt_1229 (pc := 19) d_M_bests_19 w7_56 tl0 (fun tt31 => ?_)
      refine aw_bipush (pc := 22) (x := 8) d_M_bests_22 (by decide) ?_
      refine aw_iload_n (pc := 24) d_M_bests_24 rfl 2 rfl ?_
      refine aw_iconst (pc := 25) (x := 1) d_M_bests_25 (by decide) ?_
      refine aw_iadd (pc := 26) d_M_bests_26 ?_
      refine aw_imul (pc := 27) d_M_bests_27 ?_
      refine aw_iload_n (pc := 28) d_M_bests_28 rfl 3 rfl ?_
      refine aw_iadd (pc := 29) d_M_bests_29 ?_
      refine aw_aload_n (pc := 30) d_M_bests_30 rfl 0 rfl ?_
      refine gt_1220 (pc := 31) d_M_bests_31 w7_47 tl0 (fun tt32 => ?_)
      refine aw_bipush (pc := 34) (x := 8) d_M_bests_34 (by decide) ?_
      refine aw_iaload (pc := 36) d_M_bests_36 tt32 (fun c33 => ?_)
      refine aw_iload_n (pc := 37) d_M_bests_37 rfl 3 rfl ?_
      refine aw_cSpZ (pc := 38) (As := [.int (hAi h (hGr h 1220 l0) (Int32.toNatClampNeg 8)), .int l3]) (st := [.int ((8 * (l2 + 1)) + l3), .ref (hGr h 1229 l0)]) (ok_M_has Y (hAi h (hGr h 1220 l0) (Int32.toNatClampNeg 8)) l3 h) okS_M_has w9_110 d_M_bests_38 rfl (Nat.le_of_ble_eq_true rfl) rfl (Nat.le_of_ble_eq_true rfl) (fun q34 hq34 hTq34 => ?_)
      refine aw_beq (pc := 41) (tgt := 48) d_M_bests_41 (by decide) (fun c35 => ?_) (fun c35 => ?_)
      · refine aw_iconst (pc := 44) (x := 0) d_M_bests_44 (by decide) ?_
        refine aw_goto (pc := 45) (tgt := 49) d_M_bests_45 (by decide) ?_
        refine aw_iastore (pc := 49) d_M_bests_49 tt31 (fun c36 => ?_)
        refine aw_letH (fun h37 => ?_)
        refine aw_iinc (pc := 50) (w := l3 + 1) (lv' := [(3, .int (l3 + 1)), (0, .ref l0), (1, .int l1), (2, .int l2)]) d_M_bests_50 3 rfl rfl (by decide) rfl ?_
        refine aw_goto (pc := 53) (tgt := 12) d_M_bests_53 (by decide) ?_
        exact aw_lv [1, 2, 3, 0] rfl (ih (l3 + 1) h37)
      · refine aw_iconst (pc := 48) (x := (-1)) d_M_bests_48 (by decide) ?_
        refine aw_iastore (pc := 49) d_M_bests_49 tt31 (fun c38 => ?_)
        refine aw_letH (fun h39 => ?_)
        refine aw_iinc (pc := 50) (w := l3 + 1) (lv' := [(3, .int (l3 + 1)), (0, .ref l0), (1, .int l1), (2, .int l2)]) d_M_bests_50 3 rfl rfl (by decide) rfl ?_
        refine aw_goto (pc := 53) (tgt := 12) d_M_bests_53 (by decide) ?_
        exact aw_lv [1, 2, 3, 0] rfl (ih (l3 + 1) h39)
def M_bests (Y : Ly) (l0 : Nat) (l1 : Int32) (h : Hp) : Option (Int32 × Hp) :=
  if inB (88 + l1) (lnY Y (hGr h 1220 l0)) = true then
    M_bests_L12 Y l0 l1 (hAi h (hGr h 1220 l0) (Int32.toNatClampNeg (88 + l1))) FU 0 h
  else none
theorem ok_M_bests (Y : Ly) (l0 : Nat) (l1 : Int32) (h : Hp) (t0 : isO Y 12 l0) : AM Y 4 K_M_bests [.ref l0, .int l1] h (M_bests Y l0 l1 h) rI := by
  refine AM.of rfl (Nat.le_of_ble_eq_true rfl) ?_
  show AW Y 4 K_M_bests 0 [(0, .ref l0), (1, .int l1)] [] h (M_bests Y l0 l1 h) rI
  unfold M_bests
  refine aw_aload_n (pc := 0) d_M_bests_0 rfl 0 rfl ?_
  refine gt_1220 (pc := 1) d_M_bests_1 w7_47 t0 (fun tt1 => ?_)
  refine aw_bipush (pc := 4) (x := 88) d_M_bests_4 (by decide) ?_
  refine aw_iload_n (pc := 6) d_M_bests_6 rfl 1 rfl ?_
  refine aw_iadd (pc := 7) d_M_bests_7 ?_
  refine aw_iaload (pc := 8) d_M_bests_8 tt1 (fun c2 => ?_)
  refine aw_istore_n (pc := 9) (lv' := [(2, .int (hAi h (hGr h 1220 l0) (Int32.toNatClampNeg (88 + l1)))), (0, .ref l0), (1, .int l1)]) d_M_bests_9 rfl (by decide) rfl ?_
  refine aw_iconst (pc := 10) (x := 0) d_M_bests_10 (by decide) ?_
  refine aw_istore_n (pc := 11) (lv' := [(3, .int 0), (2, .int (hAi h (hGr h 1220 l0) (Int32.toNatClampNeg (88 + l1)))), (0, .ref l0), (1, .int l1)]) d_M_bests_11 rfl (by decide) rfl ?_
  exact aw_lv [2, 3, 1, 0] rfl (M_bests_L12_ok Y l0 l1 (hAi h (hGr h 1220 l0) (Int32.toNatClampNeg (88 + l1))) t0 FU 0 h)
