/-! LastPagesModel.isOdd()Z -/
theorem d_M_isOdd_0 : decode prog_14_method_32_code 0 = .ok (.aload_n 0, 1) := by decide +kernel
theorem d_M_isOdd_1 : decode prog_14_method_32_code 1 = .ok (.bipush 111, 2) := by decide +kernel
theorem d_M_isOdd_3 : decode prog_14_method_32_code 3 = .ok (.bipush 100, 2) := by decide +kernel
theorem d_M_isOdd_5 : decode prog_14_method_32_code 5 = .ok (.bipush 100, 2) := by decide +kernel
theorem d_M_isOdd_7 : decode prog_14_method_32_code 7 = .ok (.iconst 0, 1) := by decide +kernel
theorem d_M_isOdd_8 : decode prog_14_method_32_code 8 = .ok (.iconst 0, 1) := by decide +kernel
theorem d_M_isOdd_9 : decode prog_14_method_32_code 9 = .ok (.iconst 0, 1) := by decide +kernel
theorem d_M_isOdd_10 : decode prog_14_method_32_code 10 = .ok (.invokestatic 158, 3) := by decide +kernel
theorem d_M_isOdd_13 : decode prog_14_method_32_code 13 = .ok (.invokevirtual 162, 3) := by decide +kernel
theorem d_M_isOdd_16 : decode prog_14_method_32_code 16 = .ok (.ireturn, 1) := by decide +kernel
def M_isOdd (Y : Ly) (l0 : Nat) (h : Hp) : Option Bool :=
  (M_spelled Y 111 100 100 0 0 0 h).bind fun q1 =>
  (M_isWord Y l0 q1 h).bind fun q2 =>
  some q2
theorem ok_M_isOdd (Y : Ly) (l0 : Nat) (h : Hp) (t0 : isO Y 12 l0) : AM Y 1 K_M_isOdd [.ref l0] h (M_isOdd Y l0 h) (pZ h) := by
  refine AM.of rfl (Nat.le_of_ble_eq_true rfl) ?_
  show AW Y 1 K_M_isOdd 0 [(0, .ref l0)] [] h (M_isOdd Y l0 h) (pZ h)
  unfold M_isOdd
  refine aw_aload_n (pc := 0) d_M_isOdd_0 rfl 0 rfl ?_
  refine aw_bipush (pc := 1) (x := 111) d_M_isOdd_1 (by decide) ?_
  refine aw_bipush (pc := 3) (x := 100) d_M_isOdd_3 (by decide) ?_
  refine aw_bipush (pc := 5) (x := 100) d_M_isOdd_5 (by decide) ?_
  refine aw_iconst (pc := 7) (x := 0) d_M_isOdd_7 (by decide) ?_
  refine aw_iconst (pc := 8) (x := 0) d_M_isOdd_8 (by decide) ?_
  refine aw_iconst (pc := 9) (x := 0) d_M_isOdd_9 (by decide) ?_
  refine aw_cSpL (pc := 10) (As := [.int 111, .int 100, .int 100, .int 0, .int 0, .int 0]) (st := [.ref l0]) (ok_M_spelled Y 111 100 100 0 0 0 h) okS_M_spelled w8_12 d_M_isOdd_10 rfl (Nat.le_of_ble_eq_true rfl) rfl (Nat.le_of_ble_eq_true rfl) (fun q1 hq1 hTq1 => ?_)
  refine aw_cVpZ (pc := 13) (ci := 12) (T := TX12) (N := 44) (As := [.long q1]) (st := []) (ok_M_isWord Y l0 q1 h t0) okV_M_isWord rfl (by decide) t0 w8_15 d_M_isOdd_13 rfl (Nat.le_of_ble_eq_true rfl) rfl (Nat.le_of_ble_eq_true rfl) (fun q2 hq2 hTq2 => ?_)
  exact aw_zreturn (pc := 16) (b := q2) d_M_isOdd_16 rfl rfl
/-! LastPagesModel.testWord()I -/
theorem d_M_testWord_0 : decode prog_14_method_51_code 0 = .ok (.aload_n 0, 1) := by decide +kernel
theorem d_M_testWord_1 : decode prog_14_method_51_code 1 = .ok (.bipush 100, 2) := by decide +kernel
theorem d_M_testWord_3 : decode prog_14_method_51_code 3 = .ok (.bipush 111, 2) := by decide +kernel
theorem d_M_testWord_5 : decode prog_14_method_51_code 5 = .ok (.bipush 110, 2) := by decide +kernel
theorem d_M_testWord_7 : decode prog_14_method_51_code 7 = .ok (.bipush 101, 2) := by decide +kernel
theorem d_M_testWord_9 : decode prog_14_method_51_code 9 = .ok (.iconst 0, 1) := by decide +kernel
theorem d_M_testWord_10 : decode prog_14_method_51_code 10 = .ok (.iconst 0, 1) := by decide +kernel
theorem d_M_testWord_11 : decode prog_14_method_51_code 11 = .ok (.invokestatic 158, 3) := by decide +kernel
theorem d_M_testWord_14 : decode prog_14_method_51_code 14 = .ok (.invokevirtual 162, 3) := by decide +kernel
theorem d_M_testWord_17 : decode prog_14_method_51_code 17 = .ok (.ifCond .eq 5, 3) := by decide +kernel
theorem d_M_testWord_20 : decode prog_14_method_51_code 20 = .ok (.iconst 0, 1) := by decide +kernel
theorem d_M_testWord_21 : decode prog_14_method_51_code 21 = .ok (.ireturn, 1) := by decide +kernel
theorem d_M_testWord_22 : decode prog_14_method_51_code 22 = .ok (.aload_n 0, 1) := by decide +kernel
theorem d_M_testWord_23 : decode prog_14_method_51_code 23 = .ok (.bipush 108, 2) := by decide +kernel
theorem d_M_testWord_25 : decode prog_14_method_51_code 25 = .ok (.bipush 101, 2) := by decide +kernel
theorem d_M_testWord_27 : decode prog_14_method_51_code 27 = .ok (.bipush 102, 2) := by decide +kernel
theorem d_M_testWord_29 : decode prog_14_method_51_code 29 = .ok (.bipush 116, 2) := by decide +kernel
theorem d_M_testWord_31 : decode prog_14_method_51_code 31 = .ok (.iconst 0, 1) := by decide +kernel
theorem d_M_testWord_32 : decode prog_14_method_51_code 32 = .ok (.iconst 0, 1) := by decide +kernel
theorem d_M_testWord_33 : decode prog_14_method_51_code 33 = .ok (.invokestatic 158, 3) := by decide +kernel
theorem d_M_testWord_36 : decode prog_14_method_51_code 36 = .ok (.invokevirtual 162, 3) := by decide +kernel
theorem d_M_testWord_39 : decode prog_14_method_51_code 39 = .ok (.ifCond .eq 7, 3) := by decide +kernel
theorem d_M_testWord_42 : decode prog_14_method_51_code 42 = .ok (.iconst 1, 1) := by decide +kernel
theorem d_M_testWord_43 : decode prog_14_method_51_code 43 = .ok (.goto 15, 3) := by decide +kernel
theorem d_M_testWord_46 : decode prog_14_method_51_code 46 = .ok (.aload_n 0, 1) := by decide +kernel
theorem d_M_testWord_47 : decode prog_14_method_51_code 47 = .ok (.invokevirtual 168, 3) := by decide +kernel
theorem d_M_testWord_50 : decode prog_14_method_51_code 50 = .ok (.ifCond .eq 7, 3) := by decide +kernel
theorem d_M_testWord_53 : decode prog_14_method_51_code 53 = .ok (.iconst 2, 1) := by decide +kernel
theorem d_M_testWord_54 : decode prog_14_method_51_code 54 = .ok (.goto 4, 3) := by decide +kernel
theorem d_M_testWord_57 : decode prog_14_method_51_code 57 = .ok (.iconst (-1), 1) := by decide +kernel
theorem d_M_testWord_58 : decode prog_14_method_51_code 58 = .ok (.ireturn, 1) := by decide +kernel
def M_testWord (Y : Ly) (l0 : Nat) (h : Hp) : Option Int32 :=
  (M_spelled Y 100 111 110 101 0 0 h).bind fun q1 =>
  (M_isWord Y l0 q1 h).bind fun q2 =>
  if q2 = true then
    some 0
  else
    (M_spelled Y 108 101 102 116 0 0 h).bind fun q4 =>
    (M_isWord Y l0 q4 h).bind fun q5 =>
    if q5 = true then
      some 1
    else
      (M_isOdd Y l0 h).bind fun q7 =>
      if q7 = true then
        some 2
      else
        some (-1)
theorem ok_M_testWord (Y : Ly) (l0 : Nat) (h : Hp) (t0 : isO Y 12 l0) : AM Y 2 K_M_testWord [.ref l0] h (M_testWord Y l0 h) (pI h) := by
  refine AM.of rfl (Nat.le_of_ble_eq_true rfl) ?_
  show AW Y 2 K_M_testWord 0 [(0, .ref l0)] [] h (M_testWord Y l0 h) (pI h)
  unfold M_testWord
  refine aw_aload_n (pc := 0) d_M_testWord_0 rfl 0 rfl ?_
  refine aw_bipush (pc := 1) (x := 100) d_M_testWord_1 (by decide) ?_
  refine aw_bipush (pc := 3) (x := 111) d_M_testWord_3 (by decide) ?_
  refine aw_bipush (pc := 5) (x := 110) d_M_testWord_5 (by decide) ?_
  refine aw_bipush (pc := 7) (x := 101) d_M_testWord_7 (by decide) ?_
  refine aw_iconst (pc := 9) (x := 0) d_M_testWord_9 (by decide) ?_
  refine aw_iconst (pc := 10) (x := 0) d_M_testWord_10 (by decide) ?_
  refine aw_cSpL (pc := 11) (As := [.int 100, .int 111, .int 110, .int 101, .int 0, .int 0]) (st := [.ref l0]) (ok_M_spelled Y 100 111 110 101 0 0 h) okS_M_spelled w8_12 d_M_testWord_11 rfl (Nat.le_of_ble_eq_true rfl) rfl (Nat.le_of_ble_eq_true rfl) (fun q1 hq1 hTq1 => ?_)
  refine aw_cVpZ (pc := 14) (ci := 12) (T := TX12) (N := 44) (As := [.long q1]) (st := []) (ok_M_isWord Y l0 q1 h t0) okV_M_isWord rfl (by decide) t0 w8_15 d_M_testWord_14 rfl (Nat.le_of_ble_eq_true rfl) rfl (Nat.le_of_ble_eq_true rfl) (fun q2 hq2 hTq2 => ?_)
  refine aw_beq (pc := 17) (tgt := 22) d_M_testWord_17 (by decide) (fun c3 => ?_) (fun c3 => ?_)
  · refine aw_iconst (pc := 20) (x := 0) d_M_testWord_20 (by decide) ?_
    exact aw_ireturn (pc := 21) d_M_testWord_21 rfl rfl
  · refine aw_aload_n (pc := 22) d_M_testWord_22 rfl 0 rfl ?_
    refine aw_bipush (pc := 23) (x := 108) d_M_testWord_23 (by decide) ?_
    refine aw_bipush (pc := 25) (x := 101) d_M_testWord_25 (by decide) ?_
    refine aw_bipush (pc := 27) (x := 102) d_M_testWord_27 (by decide) ?_
    refine aw_bipush (pc := 29) (x := 116) d_M_testWord_29 (by decide) ?_
    refine aw_iconst (pc := 31) (x := 0) d_M_testWord_31 (by decide) ?_
    refine aw_iconst (pc := 32) (x := 0) d_M_testWord_32 (by decide) ?_
    refine aw_cSpL (pc := 33) (As := [.int 108, .int 101, .int 102, .int 116, .int 0, .int 0]) (st := [.ref l0]) (ok_M_spelled Y 108 101 102 116 0 0 h) okS_M_spelled w8_12 d_M_testWord_33 rfl (Nat.le_of_ble_eq_true rfl) rfl (Nat.le_of_ble_eq_true rfl) (fun q4 hq4 hTq4 => ?_)
    refine aw_cVpZ (pc := 36) (ci := 12) (T := TX12) (N := 44) (As := [.long q4]) (st := []) (ok_M_isWord Y l0 q4 h t0) okV_M_isWord rfl (by decide) t0 w8_15 d_M_testWord_36 rfl (Nat.le_of_ble_eq_true rfl) rfl (Nat.le_of_ble_eq_true rfl) (fun q5 hq5 hTq5 => ?_)
    refine aw_beq (pc := 39) (tgt := 46) d_M_testWord_39 (by decide) (fun c6 => ?_) (fun c6 => ?_)
    · refine aw_iconst (pc := 42) (x := 1) d_M_testWord_42 (by decide) ?_
      refine aw_goto (pc := 43) (tgt := 58) d_M_testWord_43 (by decide) ?_
      exact aw_ireturn (pc := 58) d_M_testWord_58 rfl rfl
    · refine aw_aload_n (pc := 46) d_M_testWord_46 rfl 0 rfl ?_
      refine aw_cVpZ (pc := 47) (ci := 12) (T := TX12) (N := 44) (As := []) (st := []) (ok_M_isOdd Y l0 h t0) okV_M_isOdd rfl (by decide) t0 w8_127 d_M_testWord_47 rfl (Nat.le_of_ble_eq_true rfl) rfl (Nat.le_of_ble_eq_true rfl) (fun q7 hq7 hTq7 => ?_)
      refine aw_beq (pc := 50) (tgt := 57) d_M_testWord_50 (by decide) (fun c8 => ?_) (fun c8 => ?_)
      · refine aw_iconst (pc := 53) (x := 2) d_M_testWord_53 (by decide) ?_
        refine aw_goto (pc := 54) (tgt := 58) d_M_testWord_54 (by decide) ?_
        exact aw_ireturn (pc := 58) d_M_testWord_58 rfl rfl
      · refine aw_iconst (pc := 57) (x := (-1)) d_M_testWord_57 (by decide) ?_
        exact aw_ireturn (pc := 58) d_M_testWord_58 rfl rfl
/-! LastPagesModel.isKept()Z -/
theorem d_M_isKept_0 : decode prog_14_method_53_code 0 = .ok (.aload_n 0, 1) := by decide +kernel
theorem d_M_isKept_1 : decode prog_14_method_53_code 1 = .ok (.invokevirtual 172, 3) := by decide +kernel
theorem d_M_isKept_4 : decode prog_14_method_53_code 4 = .ok (.ifCond .ne 73, 3) := by decide +kernel
theorem d_M_isKept_7 : decode prog_14_method_53_code 7 = .ok (.aload_n 0, 1) := by decide +kernel
theorem d_M_isKept_8 : decode prog_14_method_53_code 8 = .ok (.invokevirtual 175, 3) := by decide +kernel
theorem d_M_isKept_11 : decode prog_14_method_53_code 11 = .ok (.ifCond .ne 66, 3) := by decide +kernel
theorem d_M_isKept_14 : decode prog_14_method_53_code 14 = .ok (.aload_n 0, 1) := by decide +kernel
theorem d_M_isKept_15 : decode prog_14_method_53_code 15 = .ok (.invokevirtual 178, 3) := by decide +kernel
theorem d_M_isKept_18 : decode prog_14_method_53_code 18 = .ok (.ifCond .ne 59, 3) := by decide +kernel
theorem d_M_isKept_21 : decode prog_14_method_53_code 21 = .ok (.aload_n 0, 1) := by decide +kernel
theorem d_M_isKept_22 : decode prog_14_method_53_code 22 = .ok (.invokevirtual 181, 3) := by decide +kernel
theorem d_M_isKept_25 : decode prog_14_method_53_code 25 = .ok (.ifCond .ne 52, 3) := by decide +kernel
theorem d_M_isKept_28 : decode prog_14_method_53_code 28 = .ok (.aload_n 0, 1) := by decide +kernel
theorem d_M_isKept_29 : decode prog_14_method_53_code 29 = .ok (.invokevirtual 184, 3) := by decide +kernel
theorem d_M_isKept_32 : decode prog_14_method_53_code 32 = .ok (.ifCond .ne 45, 3) := by decide +kernel
theorem d_M_isKept_35 : decode prog_14_method_53_code 35 = .ok (.aload_n 0, 1) := by decide +kernel
theorem d_M_isKept_36 : decode prog_14_method_53_code 36 = .ok (.invokevirtual 187, 3) := by decide +kernel
theorem d_M_isKept_39 : decode prog_14_method_53_code 39 = .ok (.ifCond .ne 38, 3) := by decide +kernel
theorem d_M_isKept_42 : decode prog_14_method_53_code 42 = .ok (.aload_n 0, 1) := by decide +kernel
theorem d_M_isKept_43 : decode prog_14_method_53_code 43 = .ok (.invokevirtual 190, 3) := by decide +kernel
theorem d_M_isKept_46 : decode prog_14_method_53_code 46 = .ok (.ifCond .ne 31, 3) := by decide +kernel
theorem d_M_isKept_49 : decode prog_14_method_53_code 49 = .ok (.aload_n 0, 1) := by decide +kernel
theorem d_M_isKept_50 : decode prog_14_method_53_code 50 = .ok (.invokevirtual 193, 3) := by decide +kernel
theorem d_M_isKept_53 : decode prog_14_method_53_code 53 = .ok (.ifCond .ne 24, 3) := by decide +kernel
theorem d_M_isKept_56 : decode prog_14_method_53_code 56 = .ok (.aload_n 0, 1) := by decide +kernel
theorem d_M_isKept_57 : decode prog_14_method_53_code 57 = .ok (.invokevirtual 196, 3) := by decide +kernel
theorem d_M_isKept_60 : decode prog_14_method_53_code 60 = .ok (.ifCond .ne 17, 3) := by decide +kernel
theorem d_M_isKept_63 : decode prog_14_method_53_code 63 = .ok (.aload_n 0, 1) := by decide +kernel
theorem d_M_isKept_64 : decode prog_14_method_53_code 64 = .ok (.invokevirtual 199, 3) := by decide +kernel
theorem d_M_isKept_67 : decode prog_14_method_53_code 67 = .ok (.ifCond .ne 10, 3) := by decide +kernel
theorem d_M_isKept_70 : decode prog_14_method_53_code 70 = .ok (.aload_n 0, 1) := by decide +kernel
theorem d_M_isKept_71 : decode prog_14_method_53_code 71 = .ok (.invokevirtual 202, 3) := by decide +kernel
theorem d_M_isKept_74 : decode prog_14_method_53_code 74 = .ok (.ifCond .eq 5, 3) := by decide +kernel
theorem d_M_isKept_77 : decode prog_14_method_53_code 77 = .ok (.iconst 1, 1) := by decide +kernel
theorem d_M_isKept_78 : decode prog_14_method_53_code 78 = .ok (.ireturn, 1) := by decide +kernel
theorem d_M_isKept_79 : decode prog_14_method_53_code 79 = .ok (.aload_n 0, 1) := by decide +kernel
theorem d_M_isKept_80 : decode prog_14_method_53_code 80 = .ok (.invokevirtual 205, 3) := by decide +kernel
theorem d_M_isKept_83 : decode prog_14_method_53_code 83 = .ok (.ifCond .ne 59, 3) := by decide +kernel
theorem d_M_isKept_86 : decode prog_14_method_53_code 86 = .ok (.aload_n 0, 1) := by decide +kernel
theorem d_M_isKept_87 : decode prog_14_method_53_code 87 = .ok (.invokevirtual 208, 3) := by decide +kernel
theorem d_M_isKept_90 : decode prog_14_method_53_code 90 = .ok (.ifCond .ne 52, 3) := by decide +kernel
theorem d_M_isKept_93 : decode prog_14_method_53_code 93 = .ok (.aload_n 0, 1) := by decide +kernel
theorem d_M_isKept_94 : decode prog_14_method_53_code 94 = .ok (.invokevirtual 211, 3) := by decide +kernel
theorem d_M_isKept_97 : decode prog_14_method_53_code 97 = .ok (.ifCond .ne 45, 3) := by decide +kernel
theorem d_M_isKept_100 : decode prog_14_method_53_code 100 = .ok (.aload_n 0, 1) := by decide +kernel
theorem d_M_isKept_101 : decode prog_14_method_53_code 101 = .ok (.invokevirtual 214, 3) := by decide +kernel
theorem d_M_isKept_104 : decode prog_14_method_53_code 104 = .ok (.ifCond .ne 38, 3) := by decide +kernel
theorem d_M_isKept_107 : decode prog_14_method_53_code 107 = .ok (.aload_n 0, 1) := by decide +kernel
theorem d_M_isKept_108 : decode prog_14_method_53_code 108 = .ok (.invokevirtual 217, 3) := by decide +kernel
theorem d_M_isKept_111 : decode prog_14_method_53_code 111 = .ok (.ifCond .ne 31, 3) := by decide +kernel
theorem d_M_isKept_114 : decode prog_14_method_53_code 114 = .ok (.aload_n 0, 1) := by decide +kernel
theorem d_M_isKept_115 : decode prog_14_method_53_code 115 = .ok (.invokevirtual 220, 3) := by decide +kernel
theorem d_M_isKept_118 : decode prog_14_method_53_code 118 = .ok (.ifCond .ne 24, 3) := by decide +kernel
theorem d_M_isKept_121 : decode prog_14_method_53_code 121 = .ok (.aload_n 0, 1) := by decide +kernel
theorem d_M_isKept_122 : decode prog_14_method_53_code 122 = .ok (.invokevirtual 223, 3) := by decide +kernel
theorem d_M_isKept_125 : decode prog_14_method_53_code 125 = .ok (.ifCond .ne 17, 3) := by decide +kernel
theorem d_M_isKept_128 : decode prog_14_method_53_code 128 = .ok (.aload_n 0, 1) := by decide +kernel
theorem d_M_isKept_129 : decode prog_14_method_53_code 129 = .ok (.invokevirtual 226, 3) := by decide +kernel
theorem d_M_isKept_132 : decode prog_14_method_53_code 132 = .ok (.ifCond .ne 10, 3) := by decide +kernel
theorem d_M_isKept_135 : decode prog_14_method_53_code 135 = .ok (.aload_n 0, 1) := by decide +kernel
theorem d_M_isKept_136 : decode prog_14_method_53_code 136 = .ok (.invokevirtual 229, 3) := by decide +kernel
theorem d_M_isKept_139 : decode prog_14_method_53_code 139 = .ok (.ifCond .eq 5, 3) := by decide +kernel
theorem d_M_isKept_142 : decode prog_14_method_53_code 142 = .ok (.iconst 1, 1) := by decide +kernel
theorem d_M_isKept_143 : decode prog_14_method_53_code 143 = .ok (.ireturn, 1) := by decide +kernel
theorem d_M_isKept_144 : decode prog_14_method_53_code 144 = .ok (.aload_n 0, 1) := by decide +kernel
theorem d_M_isKept_145 : decode prog_14_method_53_code 145 = .ok (.invokevirtual 232, 3) := by decide +kernel
theorem d_M_isKept_148 : decode prog_14_method_53_code 148 = .ok (.ifCond .ge 17, 3) := by decide +kernel
theorem d_M_isKept_151 : decode prog_14_method_53_code 151 = .ok (.aload_n 0, 1) := by decide +kernel
theorem d_M_isKept_152 : decode prog_14_method_53_code 152 = .ok (.invokevirtual 236, 3) := by decide +kernel
theorem d_M_isKept_155 : decode prog_14_method_53_code 155 = .ok (.ifCond .ge 10, 3) := by decide +kernel
theorem d_M_isKept_158 : decode prog_14_method_53_code 158 = .ok (.aload_n 0, 1) := by decide +kernel
theorem d_M_isKept_159 : decode prog_14_method_53_code 159 = .ok (.invokevirtual 239, 3) := by decide +kernel
theorem d_M_isKept_162 : decode prog_14_method_53_code 162 = .ok (.ifCond .eq 7, 3) := by decide +kernel
theorem d_M_isKept_165 : decode prog_14_method_53_code 165 = .ok (.iconst 1, 1) := by decide +kernel
theorem d_M_isKept_166 : decode prog_14_method_53_code 166 = .ok (.goto 4, 3) := by decide +kernel
theorem d_M_isKept_169 : decode prog_14_method_53_code 169 = .ok (.iconst 0, 1) := by decide +kernel
theorem d_M_isKept_170 : decode prog_14_method_53_code 170 = .ok (.ireturn, 1) := by decide +kernel
def M_isKept (Y : Ly) (l0 : Nat) (h : Hp) : Option Bool :=
  (M_isState Y l0 h).bind fun q1 =>
  if q1 = true then
    some true
  else
    (M_isFinal Y l0 h).bind fun q3 =>
    if q3 = true then
      some true
    else
      (M_isTurn Y l0 h).bind fun q5 =>
      if q5 = true then
        some true
      else
        (M_isRule Y l0 h).bind fun q7 =>
        if q7 = true then
          some true
        else
          (M_isTo Y l0 h).bind fun q9 =>
          if q9 = true then
            some true
          else
            (M_isBook Y l0 h).bind fun q11 =>
            if q11 = true then
              some true
            else
              (M_isFrom Y l0 h).bind fun q13 =>
              if q13 = true then
                some true
              else
                (M_isMisses Y l0 h).bind fun q15 =>
                if q15 = true then
                  some true
                else
                  (M_isFinale Y l0 h).bind fun q17 =>
                  if q17 = true then
                    some true
                  else
                    (M_isHint Y l0 h).bind fun q19 =>
                    if q19 = true then
                      some true
                    else
                      (M_isAt Y l0 h).bind fun q21 =>
                      if q21 = true then
                        some true
                      else
                        (M_isIs Y l0 h).bind fun q23 =>
                        if q23 = true then
                          some true
                        else
                          (M_isBy Y l0 h).bind fun q25 =>
                          if q25 = true then
                            some true
                          else
                            (M_isReader Y l0 h).bind fun q27 =>
                            if q27 = true then
                              some true
                            else
                              (M_isOffer Y l0 h).bind fun q29 =>
                              if q29 = true then
                                some true
                              else
                                (M_isCosts Y l0 h).bind fun q31 =>
                                if q31 = true then
                                  some true
                                else
                                  (M_isTells Y l0 h).bind fun q33 =>
                                  if q33 = true then
                                    some true
                                  else
                                    (M_isWatch Y l0 h).bind fun q35 =>
                                    if q35 = true then
                                      some true
                                    else
                                      (M_isGuards Y l0 h).bind fun q37 =>
                                      if q37 = true then
                                        some true
                                      else
                                        (M_isFollows Y l0 h).bind fun q39 =>
                                        if q39 = true then
                                          some true
                                        else
                                          (M_stepWord Y l0 h).bind fun q41 =>
                                          if 0 ≤ q41 then
                                            some true
                                          else
                                            (M_testWord Y l0 h).bind fun q43 =>
                                            if 0 ≤ q43 then
                                              some true
                                            else
                                              (M_isEnd Y l0 h).bind fun q45 =>
                                              if q45 = true then
                                                some true
                                              else
                                                some false
theorem ok_M_isKept (Y : Ly) (l0 : Nat) (h : Hp) (t0 : isO Y 12 l0) : AM Y 3 K_M_isKept [.ref l0] h (M_isKept Y l0 h) (pZ h) := by
  refine AM.of rfl (Nat.le_of_ble_eq_true rfl) ?_
  show AW Y 3 K_M_isKept 0 [(0, .ref l0)] [] h (M_isKept Y l0 h) (pZ h)
  unfold M_isKept
  refine aw_aload_n (pc := 0) d_M_isKept_0 rfl 0 rfl ?_
  refine aw_cVpZ (pc := 1) (ci := 12) (T := TX12) (N := 44) (As := []) (st := []) (ok_M_isState Y l0 h t0) okV_M_isState rfl (by decide) t0 w8_8 d_M_isKept_1 rfl (Nat.le_of_ble_eq_true rfl) rfl (Nat.le_of_ble_eq_true rfl) (fun q1 hq1 hTq1 => ?_)
  refine aw_bne (pc := 4) (tgt := 77) d_M_isKept_4 (by decide) (fun c2 => ?_) (fun c2 => ?_)
  · refine aw_iconst (pc := 77) (x := 1) d_M_isKept_77 (by decide) ?_
    exact aw_zreturn (pc := 78) (b := true) d_M_isKept_78 rfl rfl
  · refine aw_aload_n (pc := 7) d_M_isKept_7 rfl 0 rfl ?_
    refine aw_cVpZ (pc := 8) (ci := 12) (T := TX12) (N := 44) (As := []) (st := []) (ok_M_isFinal Y l0 h t0) okV_M_isFinal rfl (by decide) t0 w8_42 d_M_isKept_8 rfl (Nat.le_of_ble_eq_true rfl) rfl (Nat.le_of_ble_eq_true rfl) (fun q3 hq3 hTq3 => ?_)
    refine aw_bne (pc := 11) (tgt := 77) d_M_isKept_11 (by decide) (fun c4 => ?_) (fun c4 => ?_)
    · refine aw_iconst (pc := 77) (x := 1) d_M_isKept_77 (by decide) ?_
      exact aw_zreturn (pc := 78) (b := true) d_M_isKept_78 rfl rfl
    · refine aw_aload_n (pc := 14) d_M_isKept_14 rfl 0 rfl ?_
      refine aw_cVpZ (pc := 15) (ci := 12) (T := TX12) (N := 44) (As := []) (st := []) (ok_M_isTurn Y l0 h t0) okV_M_isTurn rfl (by decide) t0 w8_46 d_M_isKept_15 rfl (Nat.le_of_ble_eq_true rfl) rfl (Nat.le_of_ble_eq_true rfl) (fun q5 hq5 hTq5 => ?_)
      refine aw_bne (pc := 18) (tgt := 77) d_M_isKept_18 (by decide) (fun c6 => ?_) (fun c6 => ?_)
      · refine aw_iconst (pc := 77) (x := 1) d_M_isKept_77 (by decide) ?_
        exact aw_zreturn (pc := 78) (b := true) d_M_isKept_78 rfl rfl
      · refine aw_aload_n (pc := 21) d_M_isKept_21 rfl 0 rfl ?_
        refine aw_cVpZ (pc := 22) (ci := 12) (T := TX12) (N := 44) (As := []) (st := []) (ok_M_isRule Y l0 h t0) okV_M_isRule rfl (by decide) t0 w8_50 d_M_isKept_22 rfl (Nat.le_of_ble_eq_true rfl) rfl (Nat.le_of_ble_eq_true rfl) (fun q7 hq7 hTq7 => ?_)
        refine aw_bne (pc := 25) (tgt := 77) d_M_isKept_25 (by decide) (fun c8 => ?_) (fun c8 => ?_)
        · refine aw_iconst (pc := 77) (x := 1) d_M_isKept_77 (by decide) ?_
          exact aw_zreturn (pc := 78) (b := true) d_M_isKept_78 rfl rfl
        · refine aw_aload_n (pc := 28) d_M_isKept_28 rfl 0 rfl ?_
          refine aw_cVpZ (pc := 29) (ci := 12) (T := TX12) (N := 44) (As := []) (st := []) (ok_M_isTo Y l0 h t0) okV_M_isTo rfl (by decide) t0 w8_54 d_M_isKept_29 rfl (Nat.le_of_ble_eq_true rfl) rfl (Nat.le_of_ble_eq_true rfl) (fun q9 hq9 hTq9 => ?_)
          refine aw_bne (pc := 32) (tgt := 77) d_M_isKept_32 (by decide) (fun c10 => ?_) (fun c10 => ?_)
          · refine aw_iconst (pc := 77) (x := 1) d_M_isKept_77 (by decide) ?_
            exact aw_zreturn (pc := 78) (b := true) d_M_isKept_78 rfl rfl
          · refine aw_aload_n (pc := 35) d_M_isKept_35 rfl 0 rfl ?_
            refine aw_cVpZ (pc := 36) (ci := 12) (T := TX12) (N := 44) (As := []) (st := []) (ok_M_isBook Y l0 h t0) okV_M_isBook rfl (by decide) t0 w8_58 d_M_isKept_36 rfl (Nat.le_of_ble_eq_true rfl) rfl (Nat.le_of_ble_eq_true rfl) (fun q11 hq11 hTq11 => ?_)
            refine aw_bne (pc := 39) (tgt := 77) d_M_isKept_39 (by decide) (fun c12 => ?_) (fun c12 => ?_)
            · refine aw_iconst (pc := 77) (x := 1) d_M_isKept_77 (by decide) ?_
              exact aw_zreturn (pc := 78) (b := true) d_M_isKept_78 rfl rfl
            · refine aw_aload_n (pc := 42) d_M_isKept_42 rfl 0 rfl ?_
              refine aw_cVpZ (pc := 43) (ci := 12) (T := TX12) (N := 44) (As := []) (st := []) (ok_M_isFrom Y l0 h t0) okV_M_isFrom rfl (by decide) t0 w8_62 d_M_isKept_43 rfl (Nat.le_of_ble_eq_true rfl) rfl (Nat.le_of_ble_eq_true rfl) (fun q13 hq13 hTq13 => ?_)
              refine aw_bne (pc := 46) (tgt := 77) d_M_isKept_46 (by decide) (fun c14 => ?_) (fun c14 => ?_)
              · refine aw_iconst (pc := 77) (x := 1) d_M_isKept_77 (by decide) ?_
                exact aw_zreturn (pc := 78) (b := true) d_M_isKept_78 rfl rfl
              · refine aw_aload_n (pc := 49) d_M_isKept_49 rfl 0 rfl ?_
                refine aw_cVpZ (pc := 50) (ci := 12) (T := TX12) (N := 44) (As := []) (st := []) (ok_M_isMisses Y l0 h t0) okV_M_isMisses rfl (by decide) t0 w8_66 d_M_isKept_50 rfl (Nat.le_of_ble_eq_true rfl) rfl (Nat.le_of_ble_eq_true rfl) (fun q15 hq15 hTq15 => ?_)
                refine aw_bne (pc := 53) (tgt := 77) d_M_isKept_53 (by decide) (fun c16 => ?_) (fun c16 => ?_)
                · refine aw_iconst (pc := 77) (x := 1) d_M_isKept_77 (by decide) ?_
                  exact aw_zreturn (pc := 78) (b := true) d_M_isKept_78 rfl rfl
                · refine aw_aload_n (pc := 56) d_M_isKept_56 rfl 0 rfl ?_
                  refine aw_cVpZ (pc := 57) (ci := 12) (T := TX12) (N := 44) (As := []) (st := []) (ok_M_isFinale Y l0 h t0) okV_M_isFinale rfl (by decide) t0 w8_70 d_M_isKept_57 rfl (Nat.le_of_ble_eq_true rfl) rfl (Nat.le_of_ble_eq_true rfl) (fun q17 hq17 hTq17 => ?_)
                  refine aw_bne (pc := 60) (tgt := 77) d_M_isKept_60 (by decide) (fun c18 => ?_) (fun c18 => ?_)
                  · refine aw_iconst (pc := 77) (x := 1) d_M_isKept_77 (by decide) ?_
                    exact aw_zreturn (pc := 78) (b := true) d_M_isKept_78 rfl rfl
                  · refine aw_aload_n (pc := 63) d_M_isKept_63 rfl 0 rfl ?_
                    refine aw_cVpZ (pc := 64) (ci := 12) (T := TX12) (N := 44) (As := []) (st := []) (ok_M_isHint Y l0 h t0) okV_M_isHint rfl (by decide) t0 w8_74 d_M_isKept_64 rfl (Nat.le_of_ble_eq_true rfl) rfl (Nat.le_of_ble_eq_true rfl) (fun q19 hq19 hTq19 => ?_)
                    refine aw_bne (pc := 67) (tgt := 77) d_M_isKept_67 (by decide) (fun c20 => ?_) (fun c20 => ?_)
                    · refine aw_iconst (pc := 77) (x := 1) d_M_isKept_77 (by decide) ?_
                      exact aw_zreturn (pc := 78) (b := true) d_M_isKept_78 rfl rfl
                    · refine aw_aload_n (pc := 70) d_M_isKept_70 rfl 0 rfl ?_
                      refine aw_cVpZ (pc := 71) (ci := 12) (T := TX12) (N := 44) (As := []) (st := []) (ok_M_isAt Y l0 h t0) okV_M_isAt rfl (by decide) t0 w8_78 d_M_isKept_71 rfl (Nat.le_of_ble_eq_true rfl) rfl (Nat.le_of_ble_eq_true rfl) (fun q21 hq21 hTq21 => ?_)
                      refine aw_beq (pc := 74) (tgt := 79) d_M_isKept_74 (by decide) (fun c22 => ?_) (fun c22 => ?_)
                      · refine aw_iconst (pc := 77) (x := 1) d_M_isKept_77 (by decide) ?_
                        exact aw_zreturn (pc := 78) (b := true) d_M_isKept_78 rfl rfl
                      · refine aw_aload_n (pc := 79) d_M_isKept_79 rfl 0 rfl ?_
                        refine aw_cVpZ (pc := 80) (ci := 12) (T := TX12) (N := 44) (As := []) (st := []) (ok_M_isIs Y l0 h t0) okV_M_isIs rfl (by decide) t0 w8_82 d_M_isKept_80 rfl (Nat.le_of_ble_eq_true rfl) rfl (Nat.le_of_ble_eq_true rfl) (fun q23 hq23 hTq23 => ?_)
                        refine aw_bne (pc := 83) (tgt := 142) d_M_isKept_83 (by decide) (fun c24 => ?_) (fun c24 => ?_)
                        · refine aw_iconst (pc := 142) (x := 1) d_M_isKept_142 (by decide) ?_
                          exact aw_zreturn (pc := 143) (b := true) d_M_isKept_143 rfl rfl
                        · refine aw_aload_n (pc := 86) d_M_isKept_86 rfl 0 rfl ?_
                          refine aw_cVpZ (pc := 87) (ci := 12) (T := TX12) (N := 44) (As := []) (st := []) (ok_M_isBy Y l0 h t0) okV_M_isBy rfl (by decide) t0 w8_86 d_M_isKept_87 rfl (Nat.le_of_ble_eq_true rfl) rfl (Nat.le_of_ble_eq_true rfl) (fun q25 hq25 hTq25 => ?_)
                          refine aw_bne (pc := 90) (tgt := 142) d_M_isKept_90 (by decide) (fun c26 => ?_) (fun c26 => ?_)
                          · refine aw_iconst (pc := 142) (x := 1) d_M_isKept_142 (by decide) ?_
                            exact aw_zreturn (pc := 143) (b := true) d_M_isKept_143 rfl rfl
                          · refine aw_aload_n (pc := 93) d_M_isKept_93 rfl 0 rfl ?_
                            refine aw_cVpZ (pc := 94) (ci := 12) (T := TX12) (N := 44) (As := []) (st := []) (ok_M_isReader Y l0 h t0) okV_M_isReader rfl (by decide) t0 w8_90 d_M_isKept_94 rfl (Nat.le_of_ble_eq_true rfl) rfl (Nat.le_of_ble_eq_true rfl) (fun q27 hq27 hTq27 => ?_)
                            refine aw_bne (pc := 97) (tgt := 142) d_M_isKept_97 (by decide) (fun c28 => ?_) (fun c28 => ?_)
                            · refine aw_iconst (pc := 142) (x := 1) d_M_isKept_142 (by decide) ?_
                              exact aw_zreturn (pc := 143) (b := true) d_M_isKept_143 rfl rfl
                            · refine aw_aload_n (pc := 100) d_M_isKept_100 rfl 0 rfl ?_
                              refine aw_cVpZ (pc := 101) (ci := 12) (T := TX12) (N := 44) (As := []) (st := []) (ok_M_isOffer Y l0 h t0) okV_M_isOffer rfl (by decide) t0 w8_94 d_M_isKept_101 rfl (Nat.le_of_ble_eq_true rfl) rfl (Nat.le_of_ble_eq_true rfl) (fun q29 hq29 hTq29 => ?_)
                              refine aw_bne (pc := 104) (tgt := 142) d_M_isKept_104 (by decide) (fun c30 => ?_) (fun c30 => ?_)
                              · refine aw_iconst (pc := 142) (x := 1) d_M_isKept_142 (by decide) ?_
                                exact aw_zreturn (pc := 143) (b := true) d_M_isKept_143 rfl rfl
                              · refine aw_aload_n (pc := 107) d_M_isKept_107 rfl 0 rfl ?_
                                refine aw_cVpZ (pc := 108) (ci := 12) (T := TX12) (N := 44) (As := []) (st := []) (ok_M_isCosts Y l0 h t0) okV_M_isCosts rfl (by decide) t0 w8_98 d_M_isKept_108 rfl (Nat.le_of_ble_eq_true rfl) rfl (Nat.le_of_ble_eq_true rfl) (fun q31 hq31 hTq31 => ?_)
                                refine aw_bne (pc := 111) (tgt := 142) d_M_isKept_111 (by decide) (fun c32 => ?_) (fun c32 => ?_)
                                · refine aw_iconst (pc := 142) (x := 1) d_M_isKept_142 (by decide) ?_
                                  exact aw_zreturn (pc := 143) (b := true) d_M_isKept_143 rfl rfl
                                · refine aw_aload_n (pc := 114) d_M_isKept_114 rfl 0 rfl ?_
                                  refine aw_cVpZ (pc := 115) (ci := 12) (T := TX12) (N := 44) (As := []) (st := []) (ok_M_isTells Y l0 h t0) okV_M_isTells rfl (by decide) t0 w8_102 d_M_isKept_115 rfl (Nat.le_of_ble_eq_true rfl) rfl (Nat.le_of_ble_eq_true rfl) (fun q33 hq33 hTq33 => ?_)
                                  refine aw_bne (pc := 118) (tgt := 142) d_M_isKept_118 (by decide) (fun c34 => ?_) (fun c34 => ?_)
                                  · refine aw_iconst (pc := 142) (x := 1) d_M_isKept_142 (by decide) ?_
                                    exact aw_zreturn (pc := 143) (b := true) d_M_isKept_143 rfl rfl
                                  · refine aw_aload_n (pc := 121) d_M_isKept_121 rfl 0 rfl ?_
                                    refine aw_cVpZ (pc := 122) (ci := 12) (T := TX12) (N := 44) (As := []) (st := []) (ok_M_isWatch Y l0 h t0) okV_M_isWatch rfl (by decide) t0 w8_106 d_M_isKept_122 rfl (Nat.le_of_ble_eq_true rfl) rfl (Nat.le_of_ble_eq_true rfl) (fun q35 hq35 hTq35 => ?_)
                                    refine aw_bne (pc := 125) (tgt := 142) d_M_isKept_125 (by decide) (fun c36 => ?_) (fun c36 => ?_)
                                    · refine aw_iconst (pc := 142) (x := 1) d_M_isKept_142 (by decide) ?_
                                      exact aw_zreturn (pc := 143) (b := true) d_M_isKept_143 rfl rfl
                                    · refine aw_aload_n (pc := 128) d_M_isKept_128 rfl 0 rfl ?_
                                      refine aw_cVpZ (pc := 129) (ci := 12) (T := TX12) (N := 44) (As := []) (st := []) (ok_M_isGuards Y l0 h t0) okV_M_isGuards rfl (by decide) t0 w8_110 d_M_isKept_129 rfl (Nat.le_of_ble_eq_true rfl) rfl (Nat.le_of_ble_eq_true rfl) (fun q37 hq37 hTq37 => ?_)
                                      refine aw_bne (pc := 132) (tgt := 142) d_M_isKept_132 (by decide) (fun c38 => ?_) (fun c38 => ?_)
                                      · refine aw_iconst (pc := 142) (x := 1) d_M_isKept_142 (by decide) ?_
                                        exact aw_zreturn (pc := 143) (b := true) d_M_isKept_143 rfl rfl
                                      · refine aw_aload_n (pc := 135) d_M_isKept_135 rfl 0 rfl ?_
                                        refine aw_cVpZ (pc := 136) (ci := 12) (T := TX12) (N := 44) (As := []) (st := []) (ok_M_isFollows Y l0 h t0) okV_M_isFollows rfl (by decide) t0 w8_114 d_M_isKept_136 rfl (Nat.le_of_ble_eq_true rfl) rfl (Nat.le_of_ble_eq_true rfl) (fun q39 hq39 hTq39 => ?_)
                                        refine aw_beq (pc := 139) (tgt := 144) d_M_isKept_139 (by decide) (fun c40 => ?_) (fun c40 => ?_)
                                        · refine aw_iconst (pc := 142) (x := 1) d_M_isKept_142 (by decide) ?_
                                          exact aw_zreturn (pc := 143) (b := true) d_M_isKept_143 rfl rfl
                                        · refine aw_aload_n (pc := 144) d_M_isKept_144 rfl 0 rfl ?_
                                          refine aw_cVpI (pc := 145) (ci := 12) (T := TX12) (N := 44) (As := []) (st := []) (ok_M_stepWord Y l0 h t0) okV_M_stepWord rfl (by decide) t0 w8_119 d_M_isKept_145 rfl (Nat.le_of_ble_eq_true rfl) rfl (Nat.le_of_ble_eq_true rfl) (fun q41 hq41 hTq41 => ?_)
                                          refine aw_if_ge (pc := 148) (tgt := 165) d_M_isKept_148 (by decide) (fun c42 => ?_) (fun c42 => ?_)
                                          · refine aw_iconst (pc := 165) (x := 1) d_M_isKept_165 (by decide) ?_
                                            refine aw_goto (pc := 166) (tgt := 170) d_M_isKept_166 (by decide) ?_
                                            exact aw_zreturn (pc := 170) (b := true) d_M_isKept_170 rfl rfl
                                          · refine aw_aload_n (pc := 151) d_M_isKept_151 rfl 0 rfl ?_
                                            refine aw_cVpI (pc := 152) (ci := 12) (T := TX12) (N := 44) (As := []) (st := []) (ok_M_testWord Y l0 h t0) okV_M_testWord rfl (by decide) t0 w8_123 d_M_isKept_152 rfl (Nat.le_of_ble_eq_true rfl) rfl (Nat.le_of_ble_eq_true rfl) (fun q43 hq43 hTq43 => ?_)
                                            refine aw_if_ge (pc := 155) (tgt := 165) d_M_isKept_155 (by decide) (fun c44 => ?_) (fun c44 => ?_)
                                            · refine aw_iconst (pc := 165) (x := 1) d_M_isKept_165 (by decide) ?_
                                              refine aw_goto (pc := 166) (tgt := 170) d_M_isKept_166 (by decide) ?_
                                              exact aw_zreturn (pc := 170) (b := true) d_M_isKept_170 rfl rfl
                                            · refine aw_aload_n (pc := 158) d_M_isKept_158 rfl 0 rfl ?_
                                              refine aw_cVpZ (pc := 159) (ci := 12) (T := TX12) (N := 44) (As := []) (st := []) (ok_M_isEnd Y l0 h t0) okV_M_isEnd rfl (by decide) t0 w8_131 d_M_isKept_159 rfl (Nat.le_of_ble_eq_true rfl) rfl (Nat.le_of_ble_eq_true rfl) (fun q45 hq45 hTq45 => ?_)
                                              refine aw_beq (pc := 162) (tgt := 169) d_M_isKept_162 (by decide) (fun c46 => ?_) (fun c46 => ?_)
                                              · refine aw_iconst (pc := 165) (x := 1) d_M_isKept_165 (by decide) ?_
                                                refine aw_goto (pc := 166) (tgt := 170) d_M_isKept_166 (by decide) ?_
                                                exact aw_zreturn (pc := 170) (b := true) d_M_isKept_170 rfl rfl
                                              · refine aw_iconst (pc := 169) (x := 0) d_M_isKept_169 (by decide) ?_
                                                exact aw_zreturn (pc := 170) (b := false) d_M_isKept_170 rfl rfl
/-! LastPagesModel.isName()Z -/
theorem d_M_isName_0 : decode prog_14_method_54_code 0 = .ok (.aload_n 0, 1) := by decide +kernel
theorem d_M_isName_1 : decode prog_14_method_54_code 1 = .ok (.getfield 133, 3) := by decide +kernel
theorem d_M_isName_4 : decode prog_14_method_54_code 4 = .ok (.iconst 1, 1) := by decide +kernel
theorem d_M_isName_5 : decode prog_14_method_54_code 5 = .ok (.if_icmp .ne 23, 3) := by decide +kernel
theorem d_M_isName_8 : decode prog_14_method_54_code 8 = .ok (.aload_n 0, 1) := by decide +kernel
theorem d_M_isName_9 : decode prog_14_method_54_code 9 = .ok (.getfield 146, 3) := by decide +kernel
theorem d_M_isName_12 : decode prog_14_method_54_code 12 = .ok (.bipush 8, 2) := by decide +kernel
theorem d_M_isName_14 : decode prog_14_method_54_code 14 = .ok (.if_icmp .gt 14, 3) := by decide +kernel
theorem d_M_isName_17 : decode prog_14_method_54_code 17 = .ok (.aload_n 0, 1) := by decide +kernel
theorem d_M_isName_18 : decode prog_14_method_54_code 18 = .ok (.invokevirtual 242, 3) := by decide +kernel
theorem d_M_isName_21 : decode prog_14_method_54_code 21 = .ok (.ifCond .ne 7, 3) := by decide +kernel
theorem d_M_isName_24 : decode prog_14_method_54_code 24 = .ok (.iconst 1, 1) := by decide +kernel
theorem d_M_isName_25 : decode prog_14_method_54_code 25 = .ok (.goto 4, 3) := by decide +kernel
theorem d_M_isName_28 : decode prog_14_method_54_code 28 = .ok (.iconst 0, 1) := by decide +kernel
theorem d_M_isName_29 : decode prog_14_method_54_code 29 = .ok (.ireturn, 1) := by decide +kernel
def M_isName (Y : Ly) (l0 : Nat) (h : Hp) : Option Bool :=
  if (hGi h 1214 l0) = 1 then
    if 8 < (hGi h 1218 l0) then
      some false
    else
      (M_isKept Y l0 h).bind fun q3 =>
      if q3 = true then
        some false
      else
        some true
  else
    some false
theorem ok_M_isName (Y : Ly) (l0 : Nat) (h : Hp) (t0 : isO Y 12 l0) : AM Y 4 K_M_isName [.ref l0] h (M_isName Y l0 h) (pZ h) := by
  refine AM.of rfl (Nat.le_of_ble_eq_true rfl) ?_
  show AW Y 4 K_M_isName 0 [(0, .ref l0)] [] h (M_isName Y l0 h) (pZ h)
  unfold M_isName
  refine aw_aload_n (pc := 0) d_M_isName_0 rfl 0 rfl ?_
  refine gt_1214 (pc := 1) d_M_isName_1 w7_41 t0 ?_
  refine aw_iconst (pc := 4) (x := 1) d_M_isName_4 (by decide) ?_
  refine aw_icmp_ne (pc := 5) (tgt := 28) d_M_isName_5 (by decide) (fun c1 => ?_) (fun c1 => ?_)
  · refine aw_aload_n (pc := 8) d_M_isName_8 rfl 0 rfl ?_
    refine gt_1218 (pc := 9) d_M_isName_9 w7_45 t0 ?_
    refine aw_bipush (pc := 12) (x := 8) d_M_isName_12 (by decide) ?_
    refine aw_icmp_gt (pc := 14) (tgt := 28) d_M_isName_14 (by decide) (fun c2 => ?_) (fun c2 => ?_)
    · refine aw_iconst (pc := 28) (x := 0) d_M_isName_28 (by decide) ?_
      exact aw_zreturn (pc := 29) (b := false) d_M_isName_29 rfl rfl
    · refine aw_aload_n (pc := 17) d_M_isName_17 rfl 0 rfl ?_
      refine aw_cVpZ (pc := 18) (ci := 12) (T := TX12) (N := 44) (As := []) (st := []) (ok_M_isKept Y l0 h t0) okV_M_isKept rfl (by decide) t0 w8_38 d_M_isName_18 rfl (Nat.le_of_ble_eq_true rfl) rfl (Nat.le_of_ble_eq_true rfl) (fun q3 hq3 hTq3 => ?_)
      refine aw_bne (pc := 21) (tgt := 28) d_M_isName_21 (by decide) (fun c4 => ?_) (fun c4 => ?_)
      · refine aw_iconst (pc := 28) (x := 0) d_M_isName_28 (by decide) ?_
        exact aw_zreturn (pc := 29) (b := false) d_M_isName_29 rfl rfl
      · refine aw_iconst (pc := 24) (x := 1) d_M_isName_24 (by decide) ?_
        refine aw_goto (pc := 25) (tgt := 29) d_M_isName_25 (by decide) ?_
        exact aw_zreturn (pc := 29) (b := true) d_M_isName_29 rfl rfl
  · refine aw_iconst (pc := 28) (x := 0) d_M_isName_28 (by decide) ?_
    exact aw_zreturn (pc := 29) (b := false) d_M_isName_29 rfl rfl
/-! LastPagesModel.isSign(I)Z -/
theorem d_M_isSign_0 : decode prog_14_method_26_code 0 = .ok (.aload_n 0, 1) := by decide +kernel
theorem d_M_isSign_1 : decode prog_14_method_26_code 1 = .ok (.getfield 133, 3) := by decide +kernel
theorem d_M_isSign_4 : decode prog_14_method_26_code 4 = .ok (.iconst 3, 1) := by decide +kernel
theorem d_M_isSign_5 : decode prog_14_method_26_code 5 = .ok (.if_icmp .ne 15, 3) := by decide +kernel
theorem d_M_isSign_8 : decode prog_14_method_26_code 8 = .ok (.aload_n 0, 1) := by decide +kernel
theorem d_M_isSign_9 : decode prog_14_method_26_code 9 = .ok (.getfield 152, 3) := by decide +kernel
theorem d_M_isSign_12 : decode prog_14_method_26_code 12 = .ok (.iload_n 1, 1) := by decide +kernel
theorem d_M_isSign_13 : decode prog_14_method_26_code 13 = .ok (.if_icmp .ne 7, 3) := by decide +kernel
theorem d_M_isSign_16 : decode prog_14_method_26_code 16 = .ok (.iconst 1, 1) := by decide +kernel
theorem d_M_isSign_17 : decode prog_14_method_26_code 17 = .ok (.goto 4, 3) := by decide +kernel
theorem d_M_isSign_20 : decode prog_14_method_26_code 20 = .ok (.iconst 0, 1) := by decide +kernel
theorem d_M_isSign_21 : decode prog_14_method_26_code 21 = .ok (.ireturn, 1) := by decide +kernel
def M_isSign (Y : Ly) (l0 : Nat) (l1 : Int32) (h : Hp) : Option Bool :=
  if (hGi h 1214 l0) = 3 then
    if (hGi h 1217 l0) = l1 then
      some true
    else
      some false
  else
    some false
theorem ok_M_isSign (Y : Ly) (l0 : Nat) (l1 : Int32) (h : Hp) (t0 : isO Y 12 l0) : AM Y 0 K_M_isSign [.ref l0, .int l1] h (M_isSign Y l0 l1 h) (pZ h) := by
  refine AM.of rfl (Nat.le_of_ble_eq_true rfl) ?_
  show AW Y 0 K_M_isSign 0 [(0, .ref l0), (1, .int l1)] [] h (M_isSign Y l0 l1 h) (pZ h)
  unfold M_isSign
  refine aw_aload_n (pc := 0) d_M_isSign_0 rfl 0 rfl ?_
  refine gt_1214 (pc := 1) d_M_isSign_1 w7_41 t0 ?_
  refine aw_iconst (pc := 4) (x := 3) d_M_isSign_4 (by decide) ?_
  refine aw_icmp_ne (pc := 5) (tgt := 20) d_M_isSign_5 (by decide) (fun c1 => ?_) (fun c1 => ?_)
  · refine aw_aload_n (pc := 8) d_M_isSign_8 rfl 0 rfl ?_
    refine gt_1217 (pc := 9) d_M_isSign_9 w7_44 t0 ?_
    refine aw_iload_n (pc := 12) d_M_isSign_12 rfl 1 rfl ?_
    refine aw_icmp_ne (pc := 13) (tgt := 20) d_M_isSign_13 (by decide) (fun c2 => ?_) (fun c2 => ?_)
    · refine aw_iconst (pc := 16) (x := 1) d_M_isSign_16 (by decide) ?_
      refine aw_goto (pc := 17) (tgt := 21) d_M_isSign_17 (by decide) ?_
      exact aw_zreturn (pc := 21) (b := true) d_M_isSign_21 rfl rfl
    · refine aw_iconst (pc := 20) (x := 0) d_M_isSign_20 (by decide) ?_
      exact aw_zreturn (pc := 21) (b := false) d_M_isSign_21 rfl rfl
  · refine aw_iconst (pc := 20) (x := 0) d_M_isSign_20 (by decide) ?_
    exact aw_zreturn (pc := 21) (b := false) d_M_isSign_21 rfl rfl
/-! LastPagesModel.manyOf(I)I -/
theorem d_M_manyOf_0 : decode prog_14_method_65_code 0 = .ok (.iload_n 0, 1) := by decide +kernel
theorem d_M_manyOf_1 : decode prog_14_method_65_code 1 = .ok (.iconst 5, 1) := by decide +kernel
theorem d_M_manyOf_2 : decode prog_14_method_65_code 2 = .ok (.if_icmp .ge 7, 3) := by decide +kernel
theorem d_M_manyOf_5 : decode prog_14_method_65_code 5 = .ok (.iload_n 0, 1) := by decide +kernel
theorem d_M_manyOf_6 : decode prog_14_method_65_code 6 = .ok (.goto 6, 3) := by decide +kernel
theorem d_M_manyOf_9 : decode prog_14_method_65_code 9 = .ok (.iload_n 0, 1) := by decide +kernel
theorem d_M_manyOf_10 : decode prog_14_method_65_code 10 = .ok (.iconst 1, 1) := by decide +kernel
theorem d_M_manyOf_11 : decode prog_14_method_65_code 11 = .ok (.iadd, 1) := by decide +kernel
theorem d_M_manyOf_12 : decode prog_14_method_65_code 12 = .ok (.ireturn, 1) := by decide +kernel
def M_manyOf (Y : Ly) (l0 : Int32) (h : Hp) : Option Int32 :=
  if 5 ≤ l0 then
    some (l0 + 1)
  else
    some l0
theorem ok_M_manyOf (Y : Ly) (l0 : Int32) (h : Hp) : AM Y 0 K_M_manyOf [.int l0] h (M_manyOf Y l0 h) (pI h) := by
  refine AM.of rfl (Nat.le_of_ble_eq_true rfl) ?_
  show AW Y 0 K_M_manyOf 0 [(0, .int l0)] [] h (M_manyOf Y l0 h) (pI h)
  unfold M_manyOf
  refine aw_iload_n (pc := 0) d_M_manyOf_0 rfl 0 rfl ?_
  refine aw_iconst (pc := 1) (x := 5) d_M_manyOf_1 (by decide) ?_
  refine aw_icmp_ge (pc := 2) (tgt := 9) d_M_manyOf_2 (by decide) (fun c1 => ?_) (fun c1 => ?_)
  · refine aw_iload_n (pc := 9) d_M_manyOf_9 rfl 0 rfl ?_
    refine aw_iconst (pc := 10) (x := 1) d_M_manyOf_10 (by decide) ?_
    refine aw_iadd (pc := 11) d_M_manyOf_11 ?_
    exact aw_ireturn (pc := 12) d_M_manyOf_12 rfl rfl
  · refine aw_iload_n (pc := 5) d_M_manyOf_5 rfl 0 rfl ?_
    refine aw_goto (pc := 6) (tgt := 12) d_M_manyOf_6 (by decide) ?_
    exact aw_ireturn (pc := 12) d_M_manyOf_12 rfl rfl
/-! LastPagesModel.named(II)I -/
theorem d_M_named_0 : decode prog_14_method_66_code 0 = .ok (.iconst 0, 1) := by decide +kernel
theorem d_M_named_1 : decode prog_14_method_66_code 1 = .ok (.istore_n 3, 1) := by decide +kernel
theorem d_M_named_2 : decode prog_14_method_66_code 2 = .ok (.iload_n 3, 1) := by decide +kernel
theorem d_M_named_3 : decode prog_14_method_66_code 3 = .ok (.aload_n 0, 1) := by decide +kernel
theorem d_M_named_4 : decode prog_14_method_66_code 4 = .ok (.getfield 35, 3) := by decide +kernel
theorem d_M_named_7 : decode prog_14_method_66_code 7 = .ok (.sipush 576, 3) := by decide +kernel
theorem d_M_named_10 : decode prog_14_method_66_code 10 = .ok (.iload_n 1, 1) := by decide +kernel
theorem d_M_named_11 : decode prog_14_method_66_code 11 = .ok (.imul, 1) := by decide +kernel
theorem d_M_named_12 : decode prog_14_method_66_code 12 = .ok (.iload_n 2, 1) := by decide +kernel
theorem d_M_named_13 : decode prog_14_method_66_code 13 = .ok (.invokestatic 274, 3) := by decide +kernel
theorem d_M_named_16 : decode prog_14_method_66_code 16 = .ok (.iadd, 1) := by decide +kernel
theorem d_M_named_17 : decode prog_14_method_66_code 17 = .ok (.iaload, 1) := by decide +kernel
theorem d_M_named_18 : decode prog_14_method_66_code 18 = .ok (.if_icmp .ge 35, 3) := by decide +kernel
theorem d_M_named_21 : decode prog_14_method_66_code 21 = .ok (.aload_n 0, 1) := by decide +kernel
theorem d_M_named_22 : decode prog_14_method_66_code 22 = .ok (.getfield 41, 3) := by decide +kernel
theorem d_M_named_25 : decode prog_14_method_66_code 25 = .ok (.bipush 56, 2) := by decide +kernel
theorem d_M_named_27 : decode prog_14_method_66_code 27 = .ok (.iload_n 1, 1) := by decide +kernel
theorem d_M_named_28 : decode prog_14_method_66_code 28 = .ok (.imul, 1) := by decide +kernel
theorem d_M_named_29 : decode prog_14_method_66_code 29 = .ok (.bipush 8, 2) := by decide +kernel
theorem d_M_named_31 : decode prog_14_method_66_code 31 = .ok (.iload_n 2, 1) := by decide +kernel
theorem d_M_named_32 : decode prog_14_method_66_code 32 = .ok (.imul, 1) := by decide +kernel
theorem d_M_named_33 : decode prog_14_method_66_code 33 = .ok (.iadd, 1) := by decide +kernel
theorem d_M_named_34 : decode prog_14_method_66_code 34 = .ok (.iload_n 3, 1) := by decide +kernel
theorem d_M_named_35 : decode prog_14_method_66_code 35 = .ok (.iadd, 1) := by decide +kernel
theorem d_M_named_36 : decode prog_14_method_66_code 36 = .ok (.laload, 1) := by decide +kernel
theorem d_M_named_37 : decode prog_14_method_66_code 37 = .ok (.aload_n 0, 1) := by decide +kernel
theorem d_M_named_38 : decode prog_14_method_66_code 38 = .ok (.getfield 139, 3) := by decide +kernel
theorem d_M_named_41 : decode prog_14_method_66_code 41 = .ok (.lcmp, 1) := by decide +kernel
theorem d_M_named_42 : decode prog_14_method_66_code 42 = .ok (.ifCond .ne 5, 3) := by decide +kernel
theorem d_M_named_45 : decode prog_14_method_66_code 45 = .ok (.iload_n 3, 1) := by decide +kernel
theorem d_M_named_46 : decode prog_14_method_66_code 46 = .ok (.ireturn, 1) := by decide +kernel
theorem d_M_named_47 : decode prog_14_method_66_code 47 = .ok (.iinc 3 1, 3) := by decide +kernel
theorem d_M_named_50 : decode prog_14_method_66_code 50 = .ok (.goto (-48), 3) := by decide +kernel
theorem d_M_named_53 : decode prog_14_method_66_code 53 = .ok (.iconst (-1), 1) := by decide +kernel
theorem d_M_named_54 : decode prog_14_method_66_code 54 = .ok (.ireturn, 1) := by decide +kernel
def M_named_L2 (Y : Ly) (l0 : Nat) (l1 : Int32) (l2 : Int32) (h : Hp) : Nat → Int32 → Option Int32
  | 0, _ => none
  | F + 1, l3 =>
    (M_manyOf Y l2 h).bind fun q2 =>
    if inB ((576 * l1) + q2) (lnY Y (hGr h 1220 l0)) = true then
      if (hAi h (hGr h 1220 l0) (Int32.toNatClampNeg ((576 * l1) + q2))) ≤ l3 then
        some (-1)
      else
        if inB (((56 * l1) + (8 * l2)) + l3) (lnY Y (hGr h 1222 l0)) = true then
          if (hAl h (hGr h 1222 l0) (Int32.toNatClampNeg (((56 * l1) + (8 * l2)) + l3))) = (hGl h 1219 l0) then
            some l3
          else
            M_named_L2 Y l0 l1 l2 h F (l3 + 1)
        else none
    else none
theorem M_named_L2_ok (Y : Ly) (l0 : Nat) (l1 : Int32) (l2 : Int32) (h : Hp) (tl0 : isO Y 12 l0) : ∀ (F : Nat) (l3 : Int32), AW Y 1 K_M_named 2 [(0, .ref l0), (1, .int l1), (2, .int l2), (3, .int l3)] [] h (M_named_L2 Y l0 l1 l2 h F l3) (pI h) := by
  intro F
  induction F with
  | zero =>
    intro l3
    exact aw_none
  | succ F ih =>
    intro l3
    unfold M_named_L2
    refine aw_iload_n (pc := 2) d_M_named_2 rfl 3 rfl ?_
    refine aw_aload_n (pc := 3) d_M_named_3 rfl 0 rfl ?_
    refine gt_1220 (pc := 4) d_M_named_4 w7_47 tl0 (fun tt1 => ?_)
    refine aw_sipush (pc := 7) (x := 576) d_M_named_7 (by decide) ?_
    refine aw_iload_n (pc := 10) d_M_named_10 rfl 1 rfl ?_
    refine aw_imul (pc := 11) d_M_named_11 ?_
    refine aw_iload_n (pc := 12) d_M_named_12 rfl 2 rfl ?_
    refine aw_cSpI (pc := 13) (As := [.int l2]) (st := [.int (576 * l1), .ref (hGr h 1220 l0), .int l3]) (ok_M_manyOf Y l2 h) okS_M_manyOf w8_27 d_M_named_13 rfl (Nat.le_of_ble_eq_true rfl) rfl (Nat.le_of_ble_eq_true rfl) (fun q2 hq2 hTq2 => ?_)
    refine aw_iadd (pc := 16) d_M_named_16 ?_
    refine aw_iaload (pc := 17) d_M_named_17 tt1 (fun c3 => ?_)
    refine aw_icmp_ge (pc := 18) (tgt := 53) d_M_named_18 (by decide) (fun c4 => ?_) (fun c4 => ?_)
    · refine aw_iconst (pc := 53) (x := (-1)) d_M_named_53 (by decide) ?_
      exact aw_ireturn (pc := 54) d_M_named_54 rfl rfl
    · refine aw_aload_n (pc := 21) d_M_named_21 rfl 0 rfl ?_
      refine gt_1222 (pc := 22) d_M_named_22 w7_49 tl0 (fun tt5 => ?_)
      refine aw_bipush (pc := 25) (x := 56) d_M_named_25 (by decide) ?_
      refine aw_iload_n (pc := 27) d_M_named_27 rfl 1 rfl ?_
      refine aw_imul (pc := 28) d_M_named_28 ?_
      refine aw_bipush (pc := 29) (x := 8) d_M_named_29 (by decide) ?_
      refine aw_iload_n (pc := 31) d_M_named_31 rfl 2 rfl ?_
      refine aw_imul (pc := 32) d_M_named_32 ?_
      refine aw_iadd (pc := 33) d_M_named_33 ?_
      refine aw_iload_n (pc := 34) d_M_named_34 rfl 3 rfl ?_
      refine aw_iadd (pc := 35) d_M_named_35 ?_
      refine aw_laload (pc := 36) d_M_named_36 tt5 (fun c6 => ?_)
      refine aw_aload_n (pc := 37) d_M_named_37 rfl 0 rfl ?_
      refine gt_1219 (pc := 38) d_M_named_38 w7_46 tl0 ?_
      refine aw_lcmp_ne (pc := 41) (tgt := 47) d_M_named_41 d_M_named_42 (by decide) (fun c7 => ?_) (fun c7 => ?_)
      · refine aw_iload_n (pc := 45) d_M_named_45 rfl 3 rfl ?_
        exact aw_ireturn (pc := 46) d_M_named_46 rfl rfl
      · refine aw_iinc (pc := 47) (w := l3 + 1) (lv' := [(3, .int (l3 + 1)), (0, .ref l0), (1, .int l1), (2, .int l2)]) d_M_named_47 3 rfl rfl (by decide) rfl ?_
        refine aw_goto (pc := 50) (tgt := 2) d_M_named_50 (by decide) ?_
        exact aw_lv [1, 2, 3, 0] rfl (ih (l3 + 1))
def M_named (Y : Ly) (l0 : Nat) (l1 : Int32) (l2 : Int32) (h : Hp) : Option Int32 :=
  M_named_L2 Y l0 l1 l2 h FU 0
theorem ok_M_named (Y : Ly) (l0 : Nat) (l1 : Int32) (l2 : Int32) (h : Hp) (t0 : isO Y 12 l0) : AM Y 1 K_M_named [.ref l0, .int l1, .int l2] h (M_named Y l0 l1 l2 h) (pI h) := by
  refine AM.of rfl (Nat.le_of_ble_eq_true rfl) ?_
  show AW Y 1 K_M_named 0 [(0, .ref l0), (1, .int l1), (2, .int l2)] [] h (M_named Y l0 l1 l2 h) (pI h)
  unfold M_named
  refine aw_iconst (pc := 0) (x := 0) d_M_named_0 (by decide) ?_
  refine aw_istore_n (pc := 1) (lv' := [(3, .int 0), (0, .ref l0), (1, .int l1), (2, .int l2)]) d_M_named_1 rfl (by decide) rfl ?_
  exact aw_lv [1, 2, 3, 0] rfl (M_named_L2_ok Y l0 l1 l2 h t0 FU 0)
/-! LastPagesModel.isTaken()Z -/
theorem d_M_isTaken_0 : decode prog_14_method_67_code 0 = .ok (.iconst 0, 1) := by decide +kernel
theorem d_M_isTaken_1 : decode prog_14_method_67_code 1 = .ok (.istore_n 1, 1) := by decide +kernel
theorem d_M_isTaken_2 : decode prog_14_method_67_code 2 = .ok (.iload_n 1, 1) := by decide +kernel
theorem d_M_isTaken_3 : decode prog_14_method_67_code 3 = .ok (.bipush 7, 2) := by decide +kernel
theorem d_M_isTaken_5 : decode prog_14_method_67_code 5 = .ok (.if_icmp .ge 20, 3) := by decide +kernel
theorem d_M_isTaken_8 : decode prog_14_method_67_code 8 = .ok (.aload_n 0, 1) := by decide +kernel
theorem d_M_isTaken_9 : decode prog_14_method_67_code 9 = .ok (.iconst 4, 1) := by decide +kernel
theorem d_M_isTaken_10 : decode prog_14_method_67_code 10 = .ok (.iload_n 1, 1) := by decide +kernel
theorem d_M_isTaken_11 : decode prog_14_method_67_code 11 = .ok (.invokevirtual 277, 3) := by decide +kernel
theorem d_M_isTaken_14 : decode prog_14_method_67_code 14 = .ok (.ifCond .lt 5, 3) := by decide +kernel
theorem d_M_isTaken_17 : decode prog_14_method_67_code 17 = .ok (.iconst 1, 1) := by decide +kernel
theorem d_M_isTaken_18 : decode prog_14_method_67_code 18 = .ok (.ireturn, 1) := by decide +kernel
theorem d_M_isTaken_19 : decode prog_14_method_67_code 19 = .ok (.iinc 1 1, 3) := by decide +kernel
theorem d_M_isTaken_22 : decode prog_14_method_67_code 22 = .ok (.goto (-20), 3) := by decide +kernel
theorem d_M_isTaken_25 : decode prog_14_method_67_code 25 = .ok (.iconst 0, 1) := by decide +kernel
theorem d_M_isTaken_26 : decode prog_14_method_67_code 26 = .ok (.ireturn, 1) := by decide +kernel
def M_isTaken_L2 (Y : Ly) (l0 : Nat) (h : Hp) : Nat → Int32 → Option Bool
  | 0, _ => none
  | F + 1, l1 =>
    if 7 ≤ l1 then
      some false
    else
      (M_named Y l0 4 l1 h).bind fun q2 =>
      if q2 < 0 then
        M_isTaken_L2 Y l0 h F (l1 + 1)
      else
        some true
theorem M_isTaken_L2_ok (Y : Ly) (l0 : Nat) (h : Hp) (tl0 : isO Y 12 l0) : ∀ (F : Nat) (l1 : Int32), AW Y 2 K_M_isTaken 2 [(0, .ref l0), (1, .int l1)] [] h (M_isTaken_L2 Y l0 h F l1) (pZ h) := by
  intro F
  induction F with
  | zero =>
    intro l1
    exact aw_none
  | succ F ih =>
    intro l1
    unfold M_isTaken_L2
    refine aw_iload_n (pc := 2) d_M_isTaken_2 rfl 1 rfl ?_
    refine aw_bipush (pc := 3) (x := 7) d_M_isTaken_3 (by decide) ?_
    refine aw_icmp_ge (pc := 5) (tgt := 25) d_M_isTaken_5 (by decide) (fun c1 => ?_) (fun c1 => ?_)
    · refine aw_iconst (pc := 25) (x := 0) d_M_isTaken_25 (by decide) ?_
      exact aw_zreturn (pc := 26) (b := false) d_M_isTaken_26 rfl rfl
    · refine aw_aload_n (pc := 8) d_M_isTaken_8 rfl 0 rfl ?_
      refine aw_iconst (pc := 9) (x := 4) d_M_isTaken_9 (by decide) ?_
      refine aw_iload_n (pc := 10) d_M_isTaken_10 rfl 1 rfl ?_
      refine aw_cVpI (pc := 11) (ci := 12) (T := TX12) (N := 44) (As := [.int 4, .int l1]) (st := []) (ok_M_named Y l0 4 l1 h tl0) okV_M_named rfl (by decide) tl0 w8_143 d_M_isTaken_11 rfl (Nat.le_of_ble_eq_true rfl) rfl (Nat.le_of_ble_eq_true rfl) (fun q2 hq2 hTq2 => ?_)
      refine aw_if_lt (pc := 14) (tgt := 19) d_M_isTaken_14 (by decide) (fun c3 => ?_) (fun c3 => ?_)
      · refine aw_iinc (pc := 19) (w := l1 + 1) (lv' := [(1, .int (l1 + 1)), (0, .ref l0)]) d_M_isTaken_19 1 rfl rfl (by decide) rfl ?_
        refine aw_goto (pc := 22) (tgt := 2) d_M_isTaken_22 (by decide) ?_
        exact aw_lv [1, 0] rfl (ih (l1 + 1))
      · refine aw_iconst (pc := 17) (x := 1) d_M_isTaken_17 (by decide) ?_
        exact aw_zreturn (pc := 18) (b := true) d_M_isTaken_18 rfl rfl
def M_isTaken (Y : Ly) (l0 : Nat) (h : Hp) : Option Bool :=
  M_isTaken_L2 Y l0 h FU 0
theorem ok_M_isTaken (Y : Ly) (l0 : Nat) (h : Hp) (t0 : isO Y 12 l0) : AM Y 2 K_M_isTaken [.ref l0] h (M_isTaken Y l0 h) (pZ h) := by
  refine AM.of rfl (Nat.le_of_ble_eq_true rfl) ?_
  show AW Y 2 K_M_isTaken 0 [(0, .ref l0)] [] h (M_isTaken Y l0 h) (pZ h)
  unfold M_isTaken
  refine aw_iconst (pc := 0) (x := 0) d_M_isTaken_0 (by decide) ?_
  refine aw_istore_n (pc := 1) (lv' := [(1, .int 0), (0, .ref l0)]) d_M_isTaken_1 rfl (by decide) rfl ?_
  exact aw_lv [1, 0] rfl (M_isTaken_L2_ok Y l0 h t0 FU 0)
/-! LastPagesModel.isWell()Z -/
theorem d_M_isWell_0 : decode prog_14_method_63_code 0 = .ok (.aload_n 0, 1) := by decide +kernel
theorem d_M_isWell_1 : decode prog_14_method_63_code 1 = .ok (.aload_n 0, 1) := by decide +kernel
theorem d_M_isWell_2 : decode prog_14_method_63_code 2 = .ok (.getfield 245, 3) := by decide +kernel
theorem d_M_isWell_5 : decode prog_14_method_63_code 5 = .ok (.putfield 28, 3) := by decide +kernel
theorem d_M_isWell_8 : decode prog_14_method_63_code 8 = .ok (.aload_n 0, 1) := by decide +kernel
theorem d_M_isWell_9 : decode prog_14_method_63_code 9 = .ok (.aload_n 0, 1) := by decide +kernel
theorem d_M_isWell_10 : decode prog_14_method_63_code 10 = .ok (.getfield 245, 3) := by decide +kernel
theorem d_M_isWell_13 : decode prog_14_method_63_code 13 = .ok (.ifCond .ne 7, 3) := by decide +kernel
theorem d_M_isWell_16 : decode prog_14_method_63_code 16 = .ok (.iconst (-1), 1) := by decide +kernel
theorem d_M_isWell_17 : decode prog_14_method_63_code 17 = .ok (.goto 7, 3) := by decide +kernel
theorem d_M_isWell_20 : decode prog_14_method_63_code 20 = .ok (.aload_n 0, 1) := by decide +kernel
theorem d_M_isWell_21 : decode prog_14_method_63_code 21 = .ok (.getfield 248, 3) := by decide +kernel
theorem d_M_isWell_24 : decode prog_14_method_63_code 24 = .ok (.putfield 32, 3) := by decide +kernel
theorem d_M_isWell_27 : decode prog_14_method_63_code 27 = .ok (.aload_n 0, 1) := by decide +kernel
theorem d_M_isWell_28 : decode prog_14_method_63_code 28 = .ok (.getfield 245, 3) := by decide +kernel
theorem d_M_isWell_31 : decode prog_14_method_63_code 31 = .ok (.ifCond .eq 12, 3) := by decide +kernel
theorem d_M_isWell_34 : decode prog_14_method_63_code 34 = .ok (.aload_n 0, 1) := by decide +kernel
theorem d_M_isWell_35 : decode prog_14_method_63_code 35 = .ok (.bipush 10, 2) := by decide +kernel
theorem d_M_isWell_37 : decode prog_14_method_63_code 37 = .ok (.invokevirtual 93, 3) := by decide +kernel
theorem d_M_isWell_40 : decode prog_14_method_63_code 40 = .ok (.ifCond .eq 7, 3) := by decide +kernel
theorem d_M_isWell_43 : decode prog_14_method_63_code 43 = .ok (.iconst 1, 1) := by decide +kernel
theorem d_M_isWell_44 : decode prog_14_method_63_code 44 = .ok (.goto 4, 3) := by decide +kernel
theorem d_M_isWell_47 : decode prog_14_method_63_code 47 = .ok (.iconst 0, 1) := by decide +kernel
theorem d_M_isWell_48 : decode prog_14_method_63_code 48 = .ok (.ireturn, 1) := by decide +kernel
def M_isWell_J24 (Y : Ly) (l0 : Nat) (s0 : Int32) (s1 : Nat) (h : Hp) : Option (Bool × Hp) :=
  letH (hSi h 1211 s1 s0) fun h3 =>
  if (hGi h3 1212 l0) = 0 then
    some (true, h3)
  else
    (M_no Y l0 10 h3).bind fun q5 =>
    if q5.1 = true then
      some (true, q5.2)
    else
      some (false, q5.2)
theorem M_isWell_J24_ok (Y : Ly) (l0 : Nat) (s0 : Int32) (s1 : Nat) (h : Hp) (tl0 : isO Y 12 l0) (ts1 : isO Y 12 s1) : AW Y 1 K_M_isWell 24 [(0, .ref l0)] [.int s0, .ref s1] h (M_isWell_J24 Y l0 s0 s1 h) rZ := by
  unfold M_isWell_J24
  refine pt_1211 (pc := 24) d_M_isWell_24 w7_38 ts1 ?_
  refine aw_letH (fun h3 => ?_)
  refine aw_aload_n (pc := 27) d_M_isWell_27 rfl 0 rfl ?_
  refine gt_1212 (pc := 28) d_M_isWell_28 w7_39 tl0 ?_
  refine aw_if_eq (pc := 31) (tgt := 43) d_M_isWell_31 (by decide) (fun c4 => ?_) (fun c4 => ?_)
  · refine aw_iconst (pc := 43) (x := 1) d_M_isWell_43 (by decide) ?_
    refine aw_goto (pc := 44) (tgt := 48) d_M_isWell_44 (by decide) ?_
    exact aw_zreturn (pc := 48) (b := true) d_M_isWell_48 rfl rfl
  · refine aw_aload_n (pc := 34) d_M_isWell_34 rfl 0 rfl ?_
    refine aw_bipush (pc := 35) (x := 10) d_M_isWell_35 (by decide) ?_
    refine aw_cVrZ (pc := 37) (ci := 12) (T := TX12) (N := 44) (As := [.int 10]) (st := []) (ok_M_no Y l0 10 h3 tl0) okV_M_no rfl (by decide) tl0 w7_176 d_M_isWell_37 rfl (Nat.le_of_ble_eq_true rfl) rfl (Nat.le_of_ble_eq_true rfl) (fun q5 hq5 hTq5 => ?_)
    refine aw_beq (pc := 40) (tgt := 47) d_M_isWell_40 (by decide) (fun c6 => ?_) (fun c6 => ?_)
    · refine aw_iconst (pc := 43) (x := 1) d_M_isWell_43 (by decide) ?_
      refine aw_goto (pc := 44) (tgt := 48) d_M_isWell_44 (by decide) ?_
      exact aw_zreturn (pc := 48) (b := true) d_M_isWell_48 rfl rfl
    · refine aw_iconst (pc := 47) (x := 0) d_M_isWell_47 (by decide) ?_
      exact aw_zreturn (pc := 48) (b := false) d_M_isWell_48 rfl rfl
def M_isWell (Y : Ly) (l0 : Nat) (h : Hp) : Option (Bool × Hp) :=
  letH (hSi h 1210 l0 (hGi h 1212 l0)) fun h1 =>
  if (hGi h1 1212 l0) = 0 then
    M_isWell_J24 Y l0 (-1) l0 h1
  else
    M_isWell_J24 Y l0 (hGi h1 1213 l0) l0 h1
theorem ok_M_isWell (Y : Ly) (l0 : Nat) (h : Hp) (t0 : isO Y 12 l0) : AM Y 1 K_M_isWell [.ref l0] h (M_isWell Y l0 h) rZ := by
  refine AM.of rfl (Nat.le_of_ble_eq_true rfl) ?_
  show AW Y 1 K_M_isWell 0 [(0, .ref l0)] [] h (M_isWell Y l0 h) rZ
  unfold M_isWell
  refine aw_aload_n (pc := 0) d_M_isWell_0 rfl 0 rfl ?_
  refine aw_aload_n (pc := 1) d_M_isWell_1 rfl 0 rfl ?_
  refine gt_1212 (pc := 2) d_M_isWell_2 w7_39 t0 ?_
  refine pt_1210 (pc := 5) d_M_isWell_5 w7_37 t0 ?_
  refine aw_letH (fun h1 => ?_)
  refine aw_aload_n (pc := 8) d_M_isWell_8 rfl 0 rfl ?_
  refine aw_aload_n (pc := 9) d_M_isWell_9 rfl 0 rfl ?_
  refine gt_1212 (pc := 10) d_M_isWell_10 w7_39 t0 ?_
  refine aw_if_ne (pc := 13) (tgt := 20) d_M_isWell_13 (by decide) (fun c2 => ?_) (fun c2 => ?_)
  · refine aw_iconst (pc := 16) (x := (-1)) d_M_isWell_16 (by decide) ?_
    refine aw_goto (pc := 17) (tgt := 24) d_M_isWell_17 (by decide) ?_
    exact aw_lv [0] rfl (M_isWell_J24_ok Y l0 (-1) l0 h1 t0 t0)
  · refine aw_aload_n (pc := 20) d_M_isWell_20 rfl 0 rfl ?_
    refine gt_1213 (pc := 21) d_M_isWell_21 w7_40 t0 ?_
    exact aw_lv [0] rfl (M_isWell_J24_ok Y l0 (hGi h1 1213 l0) l0 h1 t0 t0)
/-! LastPagesModel.known(I)I -/
theorem d_M_known_0 : decode prog_14_method_160_code 0 = .ok (.aload_n 0, 1) := by decide +kernel
theorem d_M_known_1 : decode prog_14_method_160_code 1 = .ok (.iconst 0, 1) := by decide +kernel
theorem d_M_known_2 : decode prog_14_method_160_code 2 = .ok (.putfield 78, 3) := by decide +kernel
theorem d_M_known_5 : decode prog_14_method_160_code 5 = .ok (.aload_n 0, 1) := by decide +kernel
theorem d_M_known_6 : decode prog_14_method_160_code 6 = .ok (.iconst 0, 1) := by decide +kernel
theorem d_M_known_7 : decode prog_14_method_160_code 7 = .ok (.putfield 81, 3) := by decide +kernel
theorem d_M_known_10 : decode prog_14_method_160_code 10 = .ok (.iload_n 1, 1) := by decide +kernel
theorem d_M_known_11 : decode prog_14_method_160_code 11 = .ok (.i2l, 1) := by decide +kernel
theorem d_M_known_12 : decode prog_14_method_160_code 12 = .ok (.lconst 0, 1) := by decide +kernel
theorem d_M_known_13 : decode prog_14_method_160_code 13 = .ok (.aload_n 0, 1) := by decide +kernel
theorem d_M_known_14 : decode prog_14_method_160_code 14 = .ok (.invokevirtual 492, 3) := by decide +kernel
theorem d_M_known_17 : decode prog_14_method_160_code 17 = .ok (.i2l, 1) := by decide +kernel
theorem d_M_known_18 : decode prog_14_method_160_code 18 = .ok (.invokestatic 113, 3) := by decide +kernel
theorem d_M_known_21 : decode prog_14_method_160_code 21 = .ok (.ifCond .eq 11, 3) := by decide +kernel
theorem d_M_known_24 : decode prog_14_method_160_code 24 = .ok (.aload_n 0, 1) := by decide +kernel
theorem d_M_known_25 : decode prog_14_method_160_code 25 = .ok (.iload_n 1, 1) := by decide +kernel
theorem d_M_known_26 : decode prog_14_method_160_code 26 = .ok (.invokevirtual 495, 3) := by decide +kernel
theorem d_M_known_29 : decode prog_14_method_160_code 29 = .ok (.goto 8, 3) := by decide +kernel
theorem d_M_known_32 : decode prog_14_method_160_code 32 = .ok (.aload_n 0, 1) := by decide +kernel
theorem d_M_known_33 : decode prog_14_method_160_code 33 = .ok (.iconst 5, 1) := by decide +kernel
theorem d_M_known_34 : decode prog_14_method_160_code 34 = .ok (.invokevirtual 367, 3) := by decide +kernel
theorem d_M_known_37 : decode prog_14_method_160_code 37 = .ok (.ireturn, 1) := by decide +kernel
def M_known (Y : Ly) (l0 : Nat) (l1 : Int32) (h : Hp) : Option (Int32 × Hp) :=
  letH (hSi h 1201 l0 0) fun h1 =>
  letH (hSi h1 1200 l0 0) fun h2 =>
  (M_allOffers Y l0 h2).bind fun q3 =>
  (M_isIn Y (Int32.toInt64 l1) 0 (Int32.toInt64 q3) h2).bind fun q4 =>
  if q4 = true then
    (M_knownBy Y l0 l1 h2).bind fun q6 =>
    some (q6, h2)
  else
    (M_refuse Y l0 5 h2).bind fun q7 =>
    some (q7.1, q7.2)
theorem ok_M_known (Y : Ly) (l0 : Nat) (l1 : Int32) (h : Hp) (t0 : isO Y 12 l0) : AM Y 2 K_M_known [.ref l0, .int l1] h (M_known Y l0 l1 h) rI := by
  refine AM.of rfl (Nat.le_of_ble_eq_true rfl) ?_
  show AW Y 2 K_M_known 0 [(0, .ref l0), (1, .int l1)] [] h (M_known Y l0 l1 h) rI
  unfold M_known
  refine aw_aload_n (pc := 0) d_M_known_0 rfl 0 rfl ?_
  refine aw_iconst (pc := 1) (x := 0) d_M_known_1 (by decide) ?_
  refine pt_1201 (pc := 2) d_M_known_2 w7_28 t0 ?_
  refine aw_letH (fun h1 => ?_)
  refine aw_aload_n (pc := 5) d_M_known_5 rfl 0 rfl ?_
  refine aw_iconst (pc := 6) (x := 0) d_M_known_6 (by decide) ?_
  refine pt_1200 (pc := 7) d_M_known_7 w7_27 t0 ?_
  refine aw_letH (fun h2 => ?_)
  refine aw_iload_n (pc := 10) d_M_known_10 rfl 1 rfl ?_
  refine aw_i2l (pc := 11) d_M_known_11 ?_
  refine aw_lconst (pc := 12) (x := 0) d_M_known_12 (by decide) ?_
  refine aw_aload_n (pc := 13) d_M_known_13 rfl 0 rfl ?_
  refine aw_cVpI (pc := 14) (ci := 12) (T := TX12) (N := 44) (As := []) (st := [.long 0, .long (Int32.toInt64 l1)]) (ok_M_allOffers Y l0 h2 t0) okV_M_allOffers rfl (by decide) t0 w10_67 d_M_known_14 rfl (Nat.le_of_ble_eq_true rfl) rfl (Nat.le_of_ble_eq_true rfl) (fun q3 hq3 hTq3 => ?_)
  refine aw_i2l (pc := 17) d_M_known_17 ?_
  refine aw_cSpZ (pc := 18) (As := [.long (Int32.toInt64 l1), .long 0, .long (Int32.toInt64 q3)]) (st := []) (ok_M_isIn Y (Int32.toInt64 l1) 0 (Int32.toInt64 q3) h2) okS_M_isIn w8_155 d_M_known_18 rfl (Nat.le_of_ble_eq_true rfl) rfl (Nat.le_of_ble_eq_true rfl) (fun q4 hq4 hTq4 => ?_)
  refine aw_beq (pc := 21) (tgt := 32) d_M_known_21 (by decide) (fun c5 => ?_) (fun c5 => ?_)
  · refine aw_aload_n (pc := 24) d_M_known_24 rfl 0 rfl ?_
    refine aw_iload_n (pc := 25) d_M_known_25 rfl 1 rfl ?_
    refine aw_cVpI (pc := 26) (ci := 12) (T := TX12) (N := 44) (As := [.int l1]) (st := []) (ok_M_knownBy Y l0 l1 h2 t0) okV_M_knownBy rfl (by decide) t0 w10_71 d_M_known_26 rfl (Nat.le_of_ble_eq_true rfl) rfl (Nat.le_of_ble_eq_true rfl) (fun q6 hq6 hTq6 => ?_)
    refine aw_goto (pc := 29) (tgt := 37) d_M_known_29 (by decide) ?_
    exact aw_ireturn (pc := 37) d_M_known_37 rfl rfl
  · refine aw_aload_n (pc := 32) d_M_known_32 rfl 0 rfl ?_
    refine aw_iconst (pc := 33) (x := 5) d_M_known_33 (by decide) ?_
    refine aw_cVrI (pc := 34) (ci := 12) (T := TX12) (N := 44) (As := [.int 5]) (st := []) (ok_M_refuse Y l0 5 h2 t0) okV_M_refuse rfl (by decide) t0 w9_8 d_M_known_34 rfl (Nat.le_of_ble_eq_true rfl) rfl (Nat.le_of_ble_eq_true rfl) (fun q7 hq7 hTq7 => ?_)
    exact aw_ireturn (pc := 37) d_M_known_37 rfl rfl
/-! LastPagesModel.lead(III)Z -/
theorem d_M_lead_0 : decode prog_14_method_121_code 0 = .ok (.aload_n 0, 1) := by decide +kernel
theorem d_M_lead_1 : decode prog_14_method_121_code 1 = .ok (.iconst 0, 1) := by decide +kernel
theorem d_M_lead_2 : decode prog_14_method_121_code 2 = .ok (.putfield 78, 3) := by decide +kernel
theorem d_M_lead_5 : decode prog_14_method_121_code 5 = .ok (.aload_n 0, 1) := by decide +kernel
theorem d_M_lead_6 : decode prog_14_method_121_code 6 = .ok (.iconst 0, 1) := by decide +kernel
theorem d_M_lead_7 : decode prog_14_method_121_code 7 = .ok (.putfield 81, 3) := by decide +kernel
theorem d_M_lead_10 : decode prog_14_method_121_code 10 = .ok (.aload_n 0, 1) := by decide +kernel
theorem d_M_lead_11 : decode prog_14_method_121_code 11 = .ok (.iload_n 1, 1) := by decide +kernel
theorem d_M_lead_12 : decode prog_14_method_121_code 12 = .ok (.invokevirtual 376, 3) := by decide +kernel
theorem d_M_lead_15 : decode prog_14_method_121_code 15 = .ok (.ifCond .eq 24, 3) := by decide +kernel
theorem d_M_lead_18 : decode prog_14_method_121_code 18 = .ok (.aload_n 0, 1) := by decide +kernel
theorem d_M_lead_19 : decode prog_14_method_121_code 19 = .ok (.iload_n 2, 1) := by decide +kernel
theorem d_M_lead_20 : decode prog_14_method_121_code 20 = .ok (.invokevirtual 379, 3) := by decide +kernel
theorem d_M_lead_23 : decode prog_14_method_121_code 23 = .ok (.ifCond .eq 16, 3) := by decide +kernel
theorem d_M_lead_26 : decode prog_14_method_121_code 26 = .ok (.iload_n 3, 1) := by decide +kernel
theorem d_M_lead_27 : decode prog_14_method_121_code 27 = .ok (.iconst (-1), 1) := by decide +kernel
theorem d_M_lead_28 : decode prog_14_method_121_code 28 = .ok (.if_icmp .eq 17, 3) := by decide +kernel
theorem d_M_lead_31 : decode prog_14_method_121_code 31 = .ok (.aload_n 0, 1) := by decide +kernel
theorem d_M_lead_32 : decode prog_14_method_121_code 32 = .ok (.iload_n 3, 1) := by decide +kernel
theorem d_M_lead_33 : decode prog_14_method_121_code 33 = .ok (.invokevirtual 376, 3) := by decide +kernel
theorem d_M_lead_36 : decode prog_14_method_121_code 36 = .ok (.ifCond .ne 9, 3) := by decide +kernel
theorem d_M_lead_39 : decode prog_14_method_121_code 39 = .ok (.aload_n 0, 1) := by decide +kernel
theorem d_M_lead_40 : decode prog_14_method_121_code 40 = .ok (.iconst 2, 1) := by decide +kernel
theorem d_M_lead_41 : decode prog_14_method_121_code 41 = .ok (.invokevirtual 93, 3) := by decide +kernel
theorem d_M_lead_44 : decode prog_14_method_121_code 44 = .ok (.ireturn, 1) := by decide +kernel
theorem d_M_lead_45 : decode prog_14_method_121_code 45 = .ok (.aload_n 0, 1) := by decide +kernel
theorem d_M_lead_46 : decode prog_14_method_121_code 46 = .ok (.getfield 35, 3) := by decide +kernel
theorem d_M_lead_49 : decode prog_14_method_121_code 49 = .ok (.bipush 18, 2) := by decide +kernel
theorem d_M_lead_51 : decode prog_14_method_121_code 51 = .ok (.bipush 8, 2) := by decide +kernel
theorem d_M_lead_53 : decode prog_14_method_121_code 53 = .ok (.iload_n 1, 1) := by decide +kernel
theorem d_M_lead_54 : decode prog_14_method_121_code 54 = .ok (.imul, 1) := by decide +kernel
theorem d_M_lead_55 : decode prog_14_method_121_code 55 = .ok (.iadd, 1) := by decide +kernel
theorem d_M_lead_56 : decode prog_14_method_121_code 56 = .ok (.iload_n 2, 1) := by decide +kernel
theorem d_M_lead_57 : decode prog_14_method_121_code 57 = .ok (.iadd, 1) := by decide +kernel
theorem d_M_lead_58 : decode prog_14_method_121_code 58 = .ok (.iload_n 3, 1) := by decide +kernel
theorem d_M_lead_59 : decode prog_14_method_121_code 59 = .ok (.iastore, 1) := by decide +kernel
theorem d_M_lead_60 : decode prog_14_method_121_code 60 = .ok (.iconst 1, 1) := by decide +kernel
theorem d_M_lead_61 : decode prog_14_method_121_code 61 = .ok (.ireturn, 1) := by decide +kernel
def M_lead_J45 (Y : Ly) (l0 : Nat) (l1 : Int32) (l2 : Int32) (l3 : Int32) (h : Hp) : Option (Bool × Hp) :=
  if inB ((18 + (8 * l1)) + l2) (lnY Y (hGr h 1220 l0)) = true then
    letH (hTi h (hGr h 1220 l0) (Int32.toNatClampNeg ((18 + (8 * l1)) + l2)) l3) fun h10 =>
    some (true, h10)
  else none
theorem M_lead_J45_ok (Y : Ly) (l0 : Nat) (l1 : Int32) (l2 : Int32) (l3 : Int32) (h : Hp) (tl0 : isO Y 12 l0) : AW Y 2 K_M_lead 45 [(0, .ref l0), (1, .int l1), (2, .int l2), (3, .int l3)] [] h (M_lead_J45 Y l0 l1 l2 l3 h) rZ := by
  unfold M_lead_J45
  refine aw_aload_n (pc := 45) d_M_lead_45 rfl 0 rfl ?_
  refine gt_1220 (pc := 46) d_M_lead_46 w7_47 tl0 (fun tt8 => ?_)
  refine aw_bipush (pc := 49) (x := 18) d_M_lead_49 (by decide) ?_
  refine aw_bipush (pc := 51) (x := 8) d_M_lead_51 (by decide) ?_
  refine aw_iload_n (pc := 53) d_M_lead_53 rfl 1 rfl ?_
  refine aw_imul (pc := 54) d_M_lead_54 ?_
  refine aw_iadd (pc := 55) d_M_lead_55 ?_
  refine aw_iload_n (pc := 56) d_M_lead_56 rfl 2 rfl ?_
  refine aw_iadd (pc := 57) d_M_lead_57 ?_
  refine aw_iload_n (pc := 58) d_M_lead_58 rfl 3 rfl ?_
  refine aw_iastore (pc := 59) d_M_lead_59 tt8 (fun c9 => ?_)
  refine aw_letH (fun h10 => ?_)
  refine aw_iconst (pc := 60) (x := 1) d_M_lead_60 (by decide) ?_
  exact aw_zreturn (pc := 61) (b := true) d_M_lead_61 rfl rfl
def M_lead (Y : Ly) (l0 : Nat) (l1 : Int32) (l2 : Int32) (l3 : Int32) (h : Hp) : Option (Bool × Hp) :=
  letH (hSi h 1201 l0 0) fun h1 =>
  letH (hSi h1 1200 l0 0) fun h2 =>
  (M_isStateAt Y l0 l1 h2).bind fun q3 =>
  if q3 = true then
    (M_isTurnAt Y l0 l2 h2).bind fun q5 =>
    if q5 = true then
      if l3 = (-1) then
        M_lead_J45 Y l0 l1 l2 l3 h2
      else
        (M_isStateAt Y l0 l3 h2).bind fun q11 =>
        if q11 = true then
          M_lead_J45 Y l0 l1 l2 l3 h2
        else
          (M_no Y l0 2 h2).bind fun q13 =>
          some (q13.1, q13.2)
    else
      (M_no Y l0 2 h2).bind fun q14 =>
      some (q14.1, q14.2)
  else
    (M_no Y l0 2 h2).bind fun q15 =>
    some (q15.1, q15.2)
theorem ok_M_lead (Y : Ly) (l0 : Nat) (l1 : Int32) (l2 : Int32) (l3 : Int32) (h : Hp) (t0 : isO Y 12 l0) : AM Y 2 K_M_lead [.ref l0, .int l1, .int l2, .int l3] h (M_lead Y l0 l1 l2 l3 h) rZ := by
  refine AM.of rfl (Nat.le_of_ble_eq_true rfl) ?_
  show AW Y 2 K_M_lead 0 [(0, .ref l0), (1, .int l1), (2, .int l2), (3, .int l3)] [] h (M_lead Y l0 l1 l2 l3 h) rZ
  unfold M_lead
  refine aw_aload_n (pc := 0) d_M_lead_0 rfl 0 rfl ?_
  refine aw_iconst (pc := 1) (x := 0) d_M_lead_1 (by decide) ?_
  refine pt_1201 (pc := 2) d_M_lead_2 w7_28 t0 ?_
  refine aw_letH (fun h1 => ?_)
  refine aw_aload_n (pc := 5) d_M_lead_5 rfl 0 rfl ?_
  refine aw_iconst (pc := 6) (x := 0) d_M_lead_6 (by decide) ?_
  refine pt_1200 (pc := 7) d_M_lead_7 w7_27 t0 ?_
  refine aw_letH (fun h2 => ?_)
  refine aw_aload_n (pc := 10) d_M_lead_10 rfl 0 rfl ?_
  refine aw_iload_n (pc := 11) d_M_lead_11 rfl 1 rfl ?_
  refine aw_cVpZ (pc := 12) (ci := 12) (T := TX12) (N := 44) (As := [.int l1]) (st := []) (ok_M_isStateAt Y l0 l1 h2 t0) okV_M_isStateAt rfl (by decide) t0 w9_24 d_M_lead_12 rfl (Nat.le_of_ble_eq_true rfl) rfl (Nat.le_of_ble_eq_true rfl) (fun q3 hq3 hTq3 => ?_)
  refine aw_beq (pc := 15) (tgt := 39) d_M_lead_15 (by decide) (fun c4 => ?_) (fun c4 => ?_)
  · refine aw_aload_n (pc := 18) d_M_lead_18 rfl 0 rfl ?_
    refine aw_iload_n (pc := 19) d_M_lead_19 rfl 2 rfl ?_
    refine aw_cVpZ (pc := 20) (ci := 12) (T := TX12) (N := 44) (As := [.int l2]) (st := []) (ok_M_isTurnAt Y l0 l2 h2 t0) okV_M_isTurnAt rfl (by decide) t0 w9_28 d_M_lead_20 rfl (Nat.le_of_ble_eq_true rfl) rfl (Nat.le_of_ble_eq_true rfl) (fun q5 hq5 hTq5 => ?_)
    refine aw_beq (pc := 23) (tgt := 39) d_M_lead_23 (by decide) (fun c6 => ?_) (fun c6 => ?_)
    · refine aw_iload_n (pc := 26) d_M_lead_26 rfl 3 rfl ?_
      refine aw_iconst (pc := 27) (x := (-1)) d_M_lead_27 (by decide) ?_
      refine aw_icmp_eq (pc := 28) (tgt := 45) d_M_lead_28 (by decide) (fun c7 => ?_) (fun c7 => ?_)
      · exact aw_lv [0, 1, 2, 3] rfl (M_lead_J45_ok Y l0 l1 l2 l3 h2 t0)
      · refine aw_aload_n (pc := 31) d_M_lead_31 rfl 0 rfl ?_
        refine aw_iload_n (pc := 32) d_M_lead_32 rfl 3 rfl ?_
        refine aw_cVpZ (pc := 33) (ci := 12) (T := TX12) (N := 44) (As := [.int l3]) (st := []) (ok_M_isStateAt Y l0 l3 h2 t0) okV_M_isStateAt rfl (by decide) t0 w9_24 d_M_lead_33 rfl (Nat.le_of_ble_eq_true rfl) rfl (Nat.le_of_ble_eq_true rfl) (fun q11 hq11 hTq11 => ?_)
        refine aw_bne (pc := 36) (tgt := 45) d_M_lead_36 (by decide) (fun c12 => ?_) (fun c12 => ?_)
        · exact aw_lv [0, 1, 2, 3] rfl (M_lead_J45_ok Y l0 l1 l2 l3 h2 t0)
        · refine aw_aload_n (pc := 39) d_M_lead_39 rfl 0 rfl ?_
          refine aw_iconst (pc := 40) (x := 2) d_M_lead_40 (by decide) ?_
          refine aw_cVrZ (pc := 41) (ci := 12) (T := TX12) (N := 44) (As := [.int 2]) (st := []) (ok_M_no Y l0 2 h2 t0) okV_M_no rfl (by decide) t0 w7_176 d_M_lead_41 rfl (Nat.le_of_ble_eq_true rfl) rfl (Nat.le_of_ble_eq_true rfl) (fun q13 hq13 hTq13 => ?_)
          exact aw_zreturn (pc := 44) (b := q13.1) d_M_lead_44 rfl rfl
    · refine aw_aload_n (pc := 39) d_M_lead_39 rfl 0 rfl ?_
      refine aw_iconst (pc := 40) (x := 2) d_M_lead_40 (by decide) ?_
      refine aw_cVrZ (pc := 41) (ci := 12) (T := TX12) (N := 44) (As := [.int 2]) (st := []) (ok_M_no Y l0 2 h2 t0) okV_M_no rfl (by decide) t0 w7_176 d_M_lead_41 rfl (Nat.le_of_ble_eq_true rfl) rfl (Nat.le_of_ble_eq_true rfl) (fun q14 hq14 hTq14 => ?_)
      exact aw_zreturn (pc := 44) (b := q14.1) d_M_lead_44 rfl rfl
  · refine aw_aload_n (pc := 39) d_M_lead_39 rfl 0 rfl ?_
    refine aw_iconst (pc := 40) (x := 2) d_M_lead_40 (by decide) ?_
    refine aw_cVrZ (pc := 41) (ci := 12) (T := TX12) (N := 44) (As := [.int 2]) (st := []) (ok_M_no Y l0 2 h2 t0) okV_M_no rfl (by decide) t0 w7_176 d_M_lead_41 rfl (Nat.le_of_ble_eq_true rfl) rfl (Nat.le_of_ble_eq_true rfl) (fun q15 hq15 hTq15 => ?_)
    exact aw_zreturn (pc := 44) (b := q15.1) d_M_lead_44 rfl rfl
/-! LastPagesModel.lying(I)I -/
theorem d_M_lying_0 : decode prog_14_method_154_code 0 = .ok (.iconst (-1), 1) := by decide +kernel
theorem d_M_lying_1 : decode prog_14_method_154_code 1 = .ok (.istore_n 2, 1) := by decide +kernel
theorem d_M_lying_2 : decode prog_14_method_154_code 2 = .ok (.iconst 0, 1) := by decide +kernel
theorem d_M_lying_3 : decode prog_14_method_154_code 3 = .ok (.istore_n 3, 1) := by decide +kernel
theorem d_M_lying_4 : decode prog_14_method_154_code 4 = .ok (.iload_n 3, 1) := by decide +kernel
theorem d_M_lying_5 : decode prog_14_method_154_code 5 = .ok (.iconst 1, 1) := by decide +kernel
theorem d_M_lying_6 : decode prog_14_method_154_code 6 = .ok (.aload_n 0, 1) := by decide +kernel
theorem d_M_lying_7 : decode prog_14_method_154_code 7 = .ok (.getfield 35, 3) := by decide +kernel
theorem d_M_lying_10 : decode prog_14_method_154_code 10 = .ok (.iconst 4, 1) := by decide +kernel
theorem d_M_lying_11 : decode prog_14_method_154_code 11 = .ok (.iaload, 1) := by decide +kernel
theorem d_M_lying_12 : decode prog_14_method_154_code 12 = .ok (.ishl, 1) := by decide +kernel
theorem d_M_lying_13 : decode prog_14_method_154_code 13 = .ok (.if_icmp .ge 37, 3) := by decide +kernel
theorem d_M_lying_16 : decode prog_14_method_154_code 16 = .ok (.iload_n 2, 1) := by decide +kernel
theorem d_M_lying_17 : decode prog_14_method_154_code 17 = .ok (.ifCond .lt 14, 3) := by decide +kernel
theorem d_M_lying_20 : decode prog_14_method_154_code 20 = .ok (.iload_n 3, 1) := by decide +kernel
theorem d_M_lying_21 : decode prog_14_method_154_code 21 = .ok (.invokestatic 480, 3) := by decide +kernel
theorem d_M_lying_24 : decode prog_14_method_154_code 24 = .ok (.iload_n 2, 1) := by decide +kernel
theorem d_M_lying_25 : decode prog_14_method_154_code 25 = .ok (.invokestatic 480, 3) := by decide +kernel
theorem d_M_lying_28 : decode prog_14_method_154_code 28 = .ok (.if_icmp .ge 16, 3) := by decide +kernel
theorem d_M_lying_31 : decode prog_14_method_154_code 31 = .ok (.aload_n 0, 1) := by decide +kernel
theorem d_M_lying_32 : decode prog_14_method_154_code 32 = .ok (.iload_n 1, 1) := by decide +kernel
theorem d_M_lying_33 : decode prog_14_method_154_code 33 = .ok (.iload_n 3, 1) := by decide +kernel
theorem d_M_lying_34 : decode prog_14_method_154_code 34 = .ok (.invokevirtual 403, 3) := by decide +kernel
theorem d_M_lying_37 : decode prog_14_method_154_code 37 = .ok (.lconst 0, 1) := by decide +kernel
theorem d_M_lying_38 : decode prog_14_method_154_code 38 = .ok (.lcmp, 1) := by decide +kernel
theorem d_M_lying_39 : decode prog_14_method_154_code 39 = .ok (.ifCond .le 5, 3) := by decide +kernel
theorem d_M_lying_42 : decode prog_14_method_154_code 42 = .ok (.iload_n 3, 1) := by decide +kernel
theorem d_M_lying_43 : decode prog_14_method_154_code 43 = .ok (.istore_n 2, 1) := by decide +kernel
theorem d_M_lying_44 : decode prog_14_method_154_code 44 = .ok (.iinc 3 1, 3) := by decide +kernel
theorem d_M_lying_47 : decode prog_14_method_154_code 47 = .ok (.goto (-43), 3) := by decide +kernel
theorem d_M_lying_50 : decode prog_14_method_154_code 50 = .ok (.iload_n 2, 1) := by decide +kernel
theorem d_M_lying_51 : decode prog_14_method_154_code 51 = .ok (.ireturn, 1) := by decide +kernel
def M_lying_J31 (Y : Ly) (k4 : Int32 → Int32 → Hp → Option (Int32 × Hp)) (l0 : Nat) (l1 : Int32) (l2 : Int32) (l3 : Int32) (h : Hp) : Option (Int32 × Hp) :=
  (M_laysEndings Y l0 l1 l3 h).bind fun q5 =>
  if q5.1 ≤ 0 then
    k4 l2 (l3 + 1) q5.2
  else
    k4 l3 (l3 + 1) q5.2
theorem M_lying_J31_ok (Y : Ly) (k4 : Int32 → Int32 → Hp → Option (Int32 × Hp)) (l0 : Nat) (l1 : Int32) (l2 : Int32) (l3 : Int32) (h : Hp) (hk4 : ∀ (l2_ : Int32) (l3_ : Int32) (h_ : Hp), AW Y 3 K_M_lying 4 [(0, .ref l0), (1, .int l1), (2, .int l2_), (3, .int l3_)] [] h_ (k4 l2_ l3_ h_) rI) (tl0 : isO Y 12 l0) : AW Y 3 K_M_lying 31 [(0, .ref l0), (1, .int l1), (2, .int l2), (3, .int l3)] [] h (M_lying_J31 Y k4 l0 l1 l2 l3 h) rI := by
  unfold M_lying_J31
  refine aw_aload_n (pc := 31) d_M_lying_31 rfl 0 rfl ?_
  refine aw_iload_n (pc := 32) d_M_lying_32 rfl 1 rfl ?_
  refine aw_iload_n (pc := 33) d_M_lying_33 rfl 3 rfl ?_
  refine aw_cVrL (pc := 34) (ci := 12) (T := TX12) (N := 44) (As := [.int l1, .int l3]) (st := []) (ok_M_laysEndings Y l0 l1 l3 h tl0) okV_M_laysEndings rfl (by decide) tl0 w9_142 d_M_lying_34 rfl (Nat.le_of_ble_eq_true rfl) rfl (Nat.le_of_ble_eq_true rfl) (fun q5 hq5 hTq5 => ?_)
  refine aw_lconst (pc := 37) (x := 0) d_M_lying_37 (by decide) ?_
  refine aw_lcmp_le (pc := 38) (tgt := 44) d_M_lying_38 d_M_lying_39 (by decide) (fun c6 => ?_) (fun c6 => ?_)
  · refine aw_iinc (pc := 44) (w := l3 + 1) (lv' := [(3, .int (l3 + 1)), (0, .ref l0), (1, .int l1), (2, .int l2)]) d_M_lying_44 3 rfl rfl (by decide) rfl ?_
    refine aw_goto (pc := 47) (tgt := 4) d_M_lying_47 (by decide) ?_
    exact aw_lv [1, 2, 3, 0] rfl (hk4 l2 (l3 + 1) q5.2)
  · refine aw_iload_n (pc := 42) d_M_lying_42 rfl 3 rfl ?_
    refine aw_istore_n (pc := 43) (lv' := [(2, .int l3), (0, .ref l0), (1, .int l1), (3, .int l3)]) d_M_lying_43 rfl (by decide) rfl ?_
    refine aw_iinc (pc := 44) (w := l3 + 1) (lv' := [(3, .int (l3 + 1)), (2, .int l3), (0, .ref l0), (1, .int l1)]) d_M_lying_44 3 rfl rfl (by decide) rfl ?_
    refine aw_goto (pc := 47) (tgt := 4) d_M_lying_47 (by decide) ?_
    exact aw_lv [2, 3, 1, 0] rfl (hk4 l3 (l3 + 1) q5.2)
def M_lying_L4 (Y : Ly) (l0 : Nat) (l1 : Int32) : Nat → Int32 → Int32 → Hp → Option (Int32 × Hp)
  | 0, _, _, _ => none
  | F + 1, l2, l3, h =>
    if inB 4 (lnY Y (hGr h 1220 l0)) = true then
      if ((1 : Int32) <<< ((hAi h (hGr h 1220 l0) (Int32.toNatClampNeg 4)) &&& 31)) ≤ l3 then
        some (l2, h)
      else
        if l2 < 0 then
          M_lying_J31 Y (M_lying_L4 Y l0 l1 F) l0 l1 l2 l3 h
        else
          (M_sizeOf Y l3 h).bind fun q7 =>
          (M_sizeOf Y l2 h).bind fun q8 =>
          if q8 ≤ q7 then
            M_lying_L4 Y l0 l1 F l2 (l3 + 1) h
          else
            M_lying_J31 Y (M_lying_L4 Y l0 l1 F) l0 l1 l2 l3 h
    else none
theorem M_lying_L4_ok (Y : Ly) (l0 : Nat) (l1 : Int32) (tl0 : isO Y 12 l0) : ∀ (F : Nat) (l2 : Int32) (l3 : Int32) (h : Hp), AW Y 3 K_M_lying 4 [(0, .ref l0), (1, .int l1), (2, .int l2), (3, .int l3)] [] h (M_lying_L4 Y l0 l1 F l2 l3 h) rI := by
  intro F
  induction F with
  | zero =>
    intro l2 l3 h
    exact aw_none
  | succ F ih =>
    intro l2 l3 h
    unfold M_lying_L4
    refine aw_iload_n (pc := 4) d_M_lying_4 rfl 3 rfl ?_
    refine aw_iconst (pc := 5) (x := 1) d_M_lying_5 (by decide) ?_
    refine aw_aload_n (pc := 6) d_M_lying_6 rfl 0 rfl ?_
    refine gt_1220 (pc := 7) d_M_lying_7 w7_47 tl0 (fun tt1 => ?_)
    refine aw_iconst (pc := 10) (x := 4) d_M_lying_10 (by decide) ?_
    refine aw_iaload (pc := 11) d_M_lying_11 tt1 (fun c2 => ?_)
    refine aw_ishl (pc := 12) d_M_lying_12 ?_
    refine aw_icmp_ge (pc := 13) (tgt := 50) d_M_lying_13 (by decide) (fun c3 => ?_) (fun c3 => ?_)
    · refine aw_iload_n (pc := 50) d_M_lying_50 rfl 2 rfl ?_
      exact aw_ireturn (pc := 51) d_M_lying_51 rfl rfl
    · refine aw_iload_n (pc := 16) d_M_lying_16 rfl 2 rfl ?_
      refine aw_if_lt (pc := 17) (tgt := 31) d_M_lying_17 (by decide) (fun c4 => ?_) (fun c4 => ?_)
      · exact aw_lv [0, 1, 2, 3] rfl (M_lying_J31_ok Y (M_lying_L4 Y l0 l1 F) l0 l1 l2 l3 h ih tl0)
      · refine aw_iload_n (pc := 20) d_M_lying_20 rfl 3 rfl ?_
        refine aw_cSpI (pc := 21) (As := [.int l3]) (st := []) (ok_M_sizeOf Y l3 h) okS_M_sizeOf w10_32 d_M_lying_21 rfl (Nat.le_of_ble_eq_true rfl) rfl (Nat.le_of_ble_eq_true rfl) (fun q7 hq7 hTq7 => ?_)
        refine aw_iload_n (pc := 24) d_M_lying_24 rfl 2 rfl ?_
        refine aw_cSpI (pc := 25) (As := [.int l2]) (st := [.int q7]) (ok_M_sizeOf Y l2 h) okS_M_sizeOf w10_32 d_M_lying_25 rfl (Nat.le_of_ble_eq_true rfl) rfl (Nat.le_of_ble_eq_true rfl) (fun q8 hq8 hTq8 => ?_)
        refine aw_icmp_ge (pc := 28) (tgt := 44) d_M_lying_28 (by decide) (fun c9 => ?_) (fun c9 => ?_)
        · refine aw_iinc (pc := 44) (w := l3 + 1) (lv' := [(3, .int (l3 + 1)), (0, .ref l0), (1, .int l1), (2, .int l2)]) d_M_lying_44 3 rfl rfl (by decide) rfl ?_
          refine aw_goto (pc := 47) (tgt := 4) d_M_lying_47 (by decide) ?_
          exact aw_lv [1, 2, 3, 0] rfl (ih l2 (l3 + 1) h)
        · exact aw_lv [0, 1, 2, 3] rfl (M_lying_J31_ok Y (M_lying_L4 Y l0 l1 F) l0 l1 l2 l3 h ih tl0)
def M_lying (Y : Ly) (l0 : Nat) (l1 : Int32) (h : Hp) : Option (Int32 × Hp) :=
  M_lying_L4 Y l0 l1 FU (-1) 0 h
theorem ok_M_lying (Y : Ly) (l0 : Nat) (l1 : Int32) (h : Hp) (t0 : isO Y 12 l0) : AM Y 3 K_M_lying [.ref l0, .int l1] h (M_lying Y l0 l1 h) rI := by
  refine AM.of rfl (Nat.le_of_ble_eq_true rfl) ?_
  show AW Y 3 K_M_lying 0 [(0, .ref l0), (1, .int l1)] [] h (M_lying Y l0 l1 h) rI
  unfold M_lying
  refine aw_iconst (pc := 0) (x := (-1)) d_M_lying_0 (by decide) ?_
  refine aw_istore_n (pc := 1) (lv' := [(2, .int (-1)), (0, .ref l0), (1, .int l1)]) d_M_lying_1 rfl (by decide) rfl ?_
  refine aw_iconst (pc := 2) (x := 0) d_M_lying_2 (by decide) ?_
  refine aw_istore_n (pc := 3) (lv' := [(3, .int 0), (2, .int (-1)), (0, .ref l0), (1, .int l1)]) d_M_lying_3 rfl (by decide) rfl ?_
  exact aw_lv [2, 3, 1, 0] rfl (M_lying_L4_ok Y l0 l1 t0 FU (-1) 0 h)
/-! LastPagesModel.liarSet(I)I -/
theorem d_M_liarSet_0 : decode prog_14_method_156_code 0 = .ok (.aload_n 0, 1) := by decide +kernel
theorem d_M_liarSet_1 : decode prog_14_method_156_code 1 = .ok (.iconst 0, 1) := by decide +kernel
theorem d_M_liarSet_2 : decode prog_14_method_156_code 2 = .ok (.putfield 78, 3) := by decide +kernel
theorem d_M_liarSet_5 : decode prog_14_method_156_code 5 = .ok (.aload_n 0, 1) := by decide +kernel
theorem d_M_liarSet_6 : decode prog_14_method_156_code 6 = .ok (.iconst 0, 1) := by decide +kernel
theorem d_M_liarSet_7 : decode prog_14_method_156_code 7 = .ok (.putfield 81, 3) := by decide +kernel
theorem d_M_liarSet_10 : decode prog_14_method_156_code 10 = .ok (.aload_n 0, 1) := by decide +kernel
theorem d_M_liarSet_11 : decode prog_14_method_156_code 11 = .ok (.iload_n 1, 1) := by decide +kernel
theorem d_M_liarSet_12 : decode prog_14_method_156_code 12 = .ok (.invokevirtual 382, 3) := by decide +kernel
theorem d_M_liarSet_15 : decode prog_14_method_156_code 15 = .ok (.ifCond .ne 9, 3) := by decide +kernel
theorem d_M_liarSet_18 : decode prog_14_method_156_code 18 = .ok (.aload_n 0, 1) := by decide +kernel
theorem d_M_liarSet_19 : decode prog_14_method_156_code 19 = .ok (.iconst 2, 1) := by decide +kernel
theorem d_M_liarSet_20 : decode prog_14_method_156_code 20 = .ok (.invokevirtual 367, 3) := by decide +kernel
theorem d_M_liarSet_23 : decode prog_14_method_156_code 23 = .ok (.ireturn, 1) := by decide +kernel
theorem d_M_liarSet_24 : decode prog_14_method_156_code 24 = .ok (.aload_n 0, 1) := by decide +kernel
theorem d_M_liarSet_25 : decode prog_14_method_156_code 25 = .ok (.iload_n 1, 1) := by decide +kernel
theorem d_M_liarSet_26 : decode prog_14_method_156_code 26 = .ok (.invokevirtual 489, 3) := by decide +kernel
theorem d_M_liarSet_29 : decode prog_14_method_156_code 29 = .ok (.istore_n 2, 1) := by decide +kernel
theorem d_M_liarSet_30 : decode prog_14_method_156_code 30 = .ok (.iload_n 2, 1) := by decide +kernel
theorem d_M_liarSet_31 : decode prog_14_method_156_code 31 = .ok (.ifCond .ge 12, 3) := by decide +kernel
theorem d_M_liarSet_34 : decode prog_14_method_156_code 34 = .ok (.aload_n 0, 1) := by decide +kernel
theorem d_M_liarSet_35 : decode prog_14_method_156_code 35 = .ok (.bipush 8, 2) := by decide +kernel
theorem d_M_liarSet_37 : decode prog_14_method_156_code 37 = .ok (.invokevirtual 367, 3) := by decide +kernel
theorem d_M_liarSet_40 : decode prog_14_method_156_code 40 = .ok (.goto 4, 3) := by decide +kernel
theorem d_M_liarSet_43 : decode prog_14_method_156_code 43 = .ok (.iload_n 2, 1) := by decide +kernel
theorem d_M_liarSet_44 : decode prog_14_method_156_code 44 = .ok (.ireturn, 1) := by decide +kernel
def M_liarSet (Y : Ly) (l0 : Nat) (l1 : Int32) (h : Hp) : Option (Int32 × Hp) :=
  letH (hSi h 1201 l0 0) fun h1 =>
  letH (hSi h1 1200 l0 0) fun h2 =>
  (M_isBookAt Y l0 l1 h2).bind fun q3 =>
  if q3 = true then
    (M_lying Y l0 l1 h2).bind fun q5 =>
    if 0 ≤ q5.1 then
      some (q5.1, q5.2)
    else
      (M_refuse Y l0 8 q5.2).bind fun q7 =>
      some (q7.1, q7.2)
  else
    (M_refuse Y l0 2 h2).bind fun q8 =>
    some (q8.1, q8.2)
theorem ok_M_liarSet (Y : Ly) (l0 : Nat) (l1 : Int32) (h : Hp) (t0 : isO Y 12 l0) : AM Y 4 K_M_liarSet [.ref l0, .int l1] h (M_liarSet Y l0 l1 h) rI := by
  refine AM.of rfl (Nat.le_of_ble_eq_true rfl) ?_
  show AW Y 4 K_M_liarSet 0 [(0, .ref l0), (1, .int l1)] [] h (M_liarSet Y l0 l1 h) rI
  unfold M_liarSet
  refine aw_aload_n (pc := 0) d_M_liarSet_0 rfl 0 rfl ?_
  refine aw_iconst (pc := 1) (x := 0) d_M_liarSet_1 (by decide) ?_
  refine pt_1201 (pc := 2) d_M_liarSet_2 w7_28 t0 ?_
  refine aw_letH (fun h1 => ?_)
  refine aw_aload_n (pc := 5) d_M_liarSet_5 rfl 0 rfl ?_
  refine aw_iconst (pc := 6) (x := 0) d_M_liarSet_6 (by decide) ?_
  refine pt_1200 (pc := 7) d_M_liarSet_7 w7_27 t0 ?_
  refine aw_letH (fun h2 => ?_)
  refine aw_aload_n (pc := 10) d_M_liarSet_10 rfl 0 rfl ?_
  refine aw_iload_n (pc := 11) d_M_liarSet_11 rfl 1 rfl ?_
  refine aw_cVpZ (pc := 12) (ci := 12) (T := TX12) (N := 44) (As := [.int l1]) (st := []) (ok_M_isBookAt Y l0 l1 h2 t0) okV_M_isBookAt rfl (by decide) t0 w9_40 d_M_liarSet_12 rfl (Nat.le_of_ble_eq_true rfl) rfl (Nat.le_of_ble_eq_true rfl) (fun q3 hq3 hTq3 => ?_)
  refine aw_bne (pc := 15) (tgt := 24) d_M_liarSet_15 (by decide) (fun c4 => ?_) (fun c4 => ?_)
  · refine aw_aload_n (pc := 24) d_M_liarSet_24 rfl 0 rfl ?_
    refine aw_iload_n (pc := 25) d_M_liarSet_25 rfl 1 rfl ?_
    refine aw_cVrI (pc := 26) (ci := 12) (T := TX12) (N := 44) (As := [.int l1]) (st := []) (ok_M_lying Y l0 l1 h2 t0) okV_M_lying rfl (by decide) t0 w10_55 d_M_liarSet_26 rfl (Nat.le_of_ble_eq_true rfl) rfl (Nat.le_of_ble_eq_true rfl) (fun q5 hq5 hTq5 => ?_)
    refine aw_istore_n (pc := 29) (lv' := [(2, .int q5.1), (0, .ref l0), (1, .int l1)]) d_M_liarSet_29 rfl (by decide) rfl ?_
    refine aw_iload_n (pc := 30) d_M_liarSet_30 rfl 0 rfl ?_
    refine aw_if_ge (pc := 31) (tgt := 43) d_M_liarSet_31 (by decide) (fun c6 => ?_) (fun c6 => ?_)
    · refine aw_iload_n (pc := 43) d_M_liarSet_43 rfl 0 rfl ?_
      exact aw_ireturn (pc := 44) d_M_liarSet_44 rfl rfl
    · refine aw_aload_n (pc := 34) d_M_liarSet_34 rfl 1 rfl ?_
      refine aw_bipush (pc := 35) (x := 8) d_M_liarSet_35 (by decide) ?_
      refine aw_cVrI (pc := 37) (ci := 12) (T := TX12) (N := 44) (As := [.int 8]) (st := []) (ok_M_refuse Y l0 8 q5.2 t0) okV_M_refuse rfl (by decide) t0 w9_8 d_M_liarSet_37 rfl (Nat.le_of_ble_eq_true rfl) rfl (Nat.le_of_ble_eq_true rfl) (fun q7 hq7 hTq7 => ?_)
      refine aw_goto (pc := 40) (tgt := 44) d_M_liarSet_40 (by decide) ?_
      exact aw_ireturn (pc := 44) d_M_liarSet_44 rfl rfl
  · refine aw_aload_n (pc := 18) d_M_liarSet_18 rfl 0 rfl ?_
    refine aw_iconst (pc := 19) (x := 2) d_M_liarSet_19 (by decide) ?_
    refine aw_cVrI (pc := 20) (ci := 12) (T := TX12) (N := 44) (As := [.int 2]) (st := []) (ok_M_refuse Y l0 2 h2 t0) okV_M_refuse rfl (by decide) t0 w9_8 d_M_liarSet_20 rfl (Nat.le_of_ble_eq_true rfl) rfl (Nat.le_of_ble_eq_true rfl) (fun q8 hq8 hTq8 => ?_)
    exact aw_ireturn (pc := 23) d_M_liarSet_23 rfl rfl
/-! LastPagesModel.liars(I)I -/
theorem d_M_liars_0 : decode prog_14_method_155_code 0 = .ok (.aload_n 0, 1) := by decide +kernel
theorem d_M_liars_1 : decode prog_14_method_155_code 1 = .ok (.iconst 0, 1) := by decide +kernel
theorem d_M_liars_2 : decode prog_14_method_155_code 2 = .ok (.putfield 78, 3) := by decide +kernel
theorem d_M_liars_5 : decode prog_14_method_155_code 5 = .ok (.aload_n 0, 1) := by decide +kernel
theorem d_M_liars_6 : decode prog_14_method_155_code 6 = .ok (.iconst 0, 1) := by decide +kernel
theorem d_M_liars_7 : decode prog_14_method_155_code 7 = .ok (.putfield 81, 3) := by decide +kernel
theorem d_M_liars_10 : decode prog_14_method_155_code 10 = .ok (.aload_n 0, 1) := by decide +kernel
theorem d_M_liars_11 : decode prog_14_method_155_code 11 = .ok (.iload_n 1, 1) := by decide +kernel
theorem d_M_liars_12 : decode prog_14_method_155_code 12 = .ok (.invokevirtual 382, 3) := by decide +kernel
theorem d_M_liars_15 : decode prog_14_method_155_code 15 = .ok (.ifCond .ne 9, 3) := by decide +kernel
theorem d_M_liars_18 : decode prog_14_method_155_code 18 = .ok (.aload_n 0, 1) := by decide +kernel
theorem d_M_liars_19 : decode prog_14_method_155_code 19 = .ok (.iconst 2, 1) := by decide +kernel
theorem d_M_liars_20 : decode prog_14_method_155_code 20 = .ok (.invokevirtual 367, 3) := by decide +kernel
theorem d_M_liars_23 : decode prog_14_method_155_code 23 = .ok (.ireturn, 1) := by decide +kernel
theorem d_M_liars_24 : decode prog_14_method_155_code 24 = .ok (.aload_n 0, 1) := by decide +kernel
theorem d_M_liars_25 : decode prog_14_method_155_code 25 = .ok (.iload_n 1, 1) := by decide +kernel
theorem d_M_liars_26 : decode prog_14_method_155_code 26 = .ok (.invokevirtual 489, 3) := by decide +kernel
theorem d_M_liars_29 : decode prog_14_method_155_code 29 = .ok (.istore_n 2, 1) := by decide +kernel
theorem d_M_liars_30 : decode prog_14_method_155_code 30 = .ok (.iload_n 2, 1) := by decide +kernel
theorem d_M_liars_31 : decode prog_14_method_155_code 31 = .ok (.ifCond .ge 12, 3) := by decide +kernel
theorem d_M_liars_34 : decode prog_14_method_155_code 34 = .ok (.aload_n 0, 1) := by decide +kernel
theorem d_M_liars_35 : decode prog_14_method_155_code 35 = .ok (.bipush 8, 2) := by decide +kernel
theorem d_M_liars_37 : decode prog_14_method_155_code 37 = .ok (.invokevirtual 367, 3) := by decide +kernel
theorem d_M_liars_40 : decode prog_14_method_155_code 40 = .ok (.goto 7, 3) := by decide +kernel
theorem d_M_liars_43 : decode prog_14_method_155_code 43 = .ok (.iload_n 2, 1) := by decide +kernel
theorem d_M_liars_44 : decode prog_14_method_155_code 44 = .ok (.invokestatic 480, 3) := by decide +kernel
theorem d_M_liars_47 : decode prog_14_method_155_code 47 = .ok (.ireturn, 1) := by decide +kernel
def M_liars (Y : Ly) (l0 : Nat) (l1 : Int32) (h : Hp) : Option (Int32 × Hp) :=
  letH (hSi h 1201 l0 0) fun h1 =>
  letH (hSi h1 1200 l0 0) fun h2 =>
  (M_isBookAt Y l0 l1 h2).bind fun q3 =>
  if q3 = true then
    (M_lying Y l0 l1 h2).bind fun q5 =>
    if 0 ≤ q5.1 then
      (M_sizeOf Y q5.1 q5.2).bind fun q7 =>
      some (q7, q5.2)
    else
      (M_refuse Y l0 8 q5.2).bind fun q8 =>
      some (q8.1, q8.2)
  else
    (M_refuse Y l0 2 h2).bind fun q9 =>
    some (q9.1, q9.2)
theorem ok_M_liars (Y : Ly) (l0 : Nat) (l1 : Int32) (h : Hp) (t0 : isO Y 12 l0) : AM Y 4 K_M_liars [.ref l0, .int l1] h (M_liars Y l0 l1 h) rI := by
  refine AM.of rfl (Nat.le_of_ble_eq_true rfl) ?_
  show AW Y 4 K_M_liars 0 [(0, .ref l0), (1, .int l1)] [] h (M_liars Y l0 l1 h) rI
  unfold M_liars
  refine aw_aload_n (pc := 0) d_M_liars_0 rfl 0 rfl ?_
  refine aw_iconst (pc := 1) (x := 0) d_M_liars_1 (by decide) ?_
  refine pt_1201 (pc := 2) d_M_liars_2 w7_28 t0 ?_
  refine aw_letH (fun h1 => ?_)
  refine aw_aload_n (pc := 5) d_M_liars_5 rfl 0 rfl ?_
  refine aw_iconst (pc := 6) (x := 0) d_M_liars_6 (by decide) ?_
  refine pt_1200 (pc := 7) d_M_liars_7 w7_27 t0 ?_
  refine aw_letH (fun h2 => ?_)
  refine aw_aload_n (pc := 10) d_M_liars_10 rfl 0 rfl ?_
  refine aw_iload_n (pc := 11) d_M_liars_11 rfl 1 rfl ?_
  refine aw_cVpZ (pc := 12) (ci := 12) (T := TX12) (N := 44) (As := [.int l1]) (st := []) (ok_M_isBookAt Y l0 l1 h2 t0) okV_M_isBookAt rfl (by decide) t0 w9_40 d_M_liars_12 rfl (Nat.le_of_ble_eq_true rfl) rfl (Nat.le_of_ble_eq_true rfl) (fun q3 hq3 hTq3 => ?_)
  refine aw_bne (pc := 15) (tgt := 24) d_M_liars_15 (by decide) (fun c4 => ?_) (fun c4 => ?_)
  · refine aw_aload_n (pc := 24) d_M_liars_24 rfl 0 rfl ?_
    refine aw_iload_n (pc := 25) d_M_liars_25 rfl 1 rfl ?_
    refine aw_cVrI (pc := 26) (ci := 12) (T := TX12) (N := 44) (As := [.int l1]) (st := []) (ok_M_lying Y l0 l1 h2 t0) okV_M_lying rfl (by decide) t0 w10_55 d_M_liars_26 rfl (Nat.le_of_ble_eq_true rfl) rfl (Nat.le_of_ble_eq_true rfl) (fun q5 hq5 hTq5 => ?_)
    refine aw_istore_n (pc := 29) (lv' := [(2, .int q5.1), (0, .ref l0), (1, .int l1)]) d_M_liars_29 rfl (by decide) rfl ?_
    refine aw_iload_n (pc := 30) d_M_liars_30 rfl 0 rfl ?_
    refine aw_if_ge (pc := 31) (tgt := 43) d_M_liars_31 (by decide) (fun c6 => ?_) (fun c6 => ?_)
    · refine aw_iload_n (pc := 43) d_M_liars_43 rfl 0 rfl ?_
      refine aw_cSpI (pc := 44) (As := [.int q5.1]) (st := []) (ok_M_sizeOf Y q5.1 q5.2) okS_M_sizeOf w10_32 d_M_liars_44 rfl (Nat.le_of_ble_eq_true rfl) rfl (Nat.le_of_ble_eq_true rfl) (fun q7 hq7 hTq7 => ?_)
      exact aw_ireturn (pc := 47) d_M_liars_47 rfl rfl
    · refine aw_aload_n (pc := 34) d_M_liars_34 rfl 1 rfl ?_
      refine aw_bipush (pc := 35) (x := 8) d_M_liars_35 (by decide) ?_
      refine aw_cVrI (pc := 37) (ci := 12) (T := TX12) (N := 44) (As := [.int 8]) (st := []) (ok_M_refuse Y l0 8 q5.2 t0) okV_M_refuse rfl (by decide) t0 w9_8 d_M_liars_37 rfl (Nat.le_of_ble_eq_true rfl) rfl (Nat.le_of_ble_eq_true rfl) (fun q8 hq8 hTq8 => ?_)
      refine aw_goto (pc := 40) (tgt := 47) d_M_liars_40 (by decide) ?_
      exact aw_ireturn (pc := 47) d_M_liars_47 rfl rfl
  · refine aw_aload_n (pc := 18) d_M_liars_18 rfl 0 rfl ?_
    refine aw_iconst (pc := 19) (x := 2) d_M_liars_19 (by decide) ?_
    refine aw_cVrI (pc := 20) (ci := 12) (T := TX12) (N := 44) (As := [.int 2]) (st := []) (ok_M_refuse Y l0 2 h2 t0) okV_M_refuse rfl (by decide) t0 w9_8 d_M_liars_20 rfl (Nat.le_of_ble_eq_true rfl) rfl (Nat.le_of_ble_eq_true rfl) (fun q9 hq9 hTq9 => ?_)
    exact aw_ireturn (pc := 23) d_M_liars_23 rfl rfl
/-! LastPagesModel.runsWeeks(I)V -/
theorem d_M_runsWeeks_0 : decode prog_14_method_178_code 0 = .ok (.aload_n 0, 1) := by decide +kernel
theorem d_M_runsWeeks_1 : decode prog_14_method_178_code 1 = .ok (.iload_n 1, 1) := by decide +kernel
theorem d_M_runsWeeks_2 : decode prog_14_method_178_code 2 = .ok (.putfield 518, 3) := by decide +kernel
theorem d_M_runsWeeks_5 : decode prog_14_method_178_code 5 = .ok (.aload_n 0, 1) := by decide +kernel
theorem d_M_runsWeeks_6 : decode prog_14_method_178_code 6 = .ok (.iconst 0, 1) := by decide +kernel
theorem d_M_runsWeeks_7 : decode prog_14_method_178_code 7 = .ok (.putfield 537, 3) := by decide +kernel
theorem d_M_runsWeeks_10 : decode prog_14_method_178_code 10 = .ok (.aload_n 0, 1) := by decide +kernel
theorem d_M_runsWeeks_11 : decode prog_14_method_178_code 11 = .ok (.iconst 0, 1) := by decide +kernel
theorem d_M_runsWeeks_12 : decode prog_14_method_178_code 12 = .ok (.putfield 547, 3) := by decide +kernel
theorem d_M_runsWeeks_15 : decode prog_14_method_178_code 15 = .ok (.aload_n 0, 1) := by decide +kernel
theorem d_M_runsWeeks_16 : decode prog_14_method_178_code 16 = .ok (.iconst 0, 1) := by decide +kernel
theorem d_M_runsWeeks_17 : decode prog_14_method_178_code 17 = .ok (.putfield 534, 3) := by decide +kernel
theorem d_M_runsWeeks_20 : decode prog_14_method_178_code 20 = .ok (.aload_n 0, 1) := by decide +kernel
theorem d_M_runsWeeks_21 : decode prog_14_method_178_code 21 = .ok (.iconst 0, 1) := by decide +kernel
theorem d_M_runsWeeks_22 : decode prog_14_method_178_code 22 = .ok (.putfield 528, 3) := by decide +kernel
theorem d_M_runsWeeks_25 : decode prog_14_method_178_code 25 = .ok (.aload_n 0, 1) := by decide +kernel
theorem d_M_runsWeeks_26 : decode prog_14_method_178_code 26 = .ok (.iconst 0, 1) := by decide +kernel
theorem d_M_runsWeeks_27 : decode prog_14_method_178_code 27 = .ok (.putfield 525, 3) := by decide +kernel
theorem d_M_runsWeeks_30 : decode prog_14_method_178_code 30 = .ok (.aload_n 0, 1) := by decide +kernel
theorem d_M_runsWeeks_31 : decode prog_14_method_178_code 31 = .ok (.iconst 0, 1) := by decide +kernel
theorem d_M_runsWeeks_32 : decode prog_14_method_178_code 32 = .ok (.putfield 544, 3) := by decide +kernel
theorem d_M_runsWeeks_35 : decode prog_14_method_178_code 35 = .ok (.aload_n 0, 1) := by decide +kernel
theorem d_M_runsWeeks_36 : decode prog_14_method_178_code 36 = .ok (.iconst 0, 1) := by decide +kernel
theorem d_M_runsWeeks_37 : decode prog_14_method_178_code 37 = .ok (.putfield 540, 3) := by decide +kernel
theorem d_M_runsWeeks_40 : decode prog_14_method_178_code 40 = .ok (.aload_n 0, 1) := by decide +kernel
theorem d_M_runsWeeks_41 : decode prog_14_method_178_code 41 = .ok (.iconst 0, 1) := by decide +kernel
theorem d_M_runsWeeks_42 : decode prog_14_method_178_code 42 = .ok (.aload_n 0, 1) := by decide +kernel
theorem d_M_runsWeeks_43 : decode prog_14_method_178_code 43 = .ok (.getfield 35, 3) := by decide +kernel
theorem d_M_runsWeeks_46 : decode prog_14_method_178_code 46 = .ok (.sipush 305, 3) := by decide +kernel
theorem d_M_runsWeeks_49 : decode prog_14_method_178_code 49 = .ok (.iaload, 1) := by decide +kernel
theorem d_M_runsWeeks_50 : decode prog_14_method_178_code 50 = .ok (.invokevirtual 556, 3) := by decide +kernel
theorem d_M_runsWeeks_53 : decode prog_14_method_178_code 53 = .ok (.return_, 1) := by decide +kernel
def M_runsWeeks (Y : Ly) (l0 : Nat) (l1 : Int32) (h : Hp) : Option Hp :=
  letH (hSi h 1237 l0 l1) fun h1 =>
  letH (hSi h1 1238 l0 0) fun h2 =>
  letH (hSi h2 1239 l0 0) fun h3 =>
  letH (hSi h3 1240 l0 0) fun h4 =>
  letH (hSi h4 1241 l0 0) fun h5 =>
  letH (hSi h5 1242 l0 0) fun h6 =>
  letH (hSi h6 1243 l0 0) fun h7 =>
  letH (hSz h7 1236 l0 false) fun h8 =>
  if inB 305 (lnY Y (hGr h8 1220 l0)) = true then
    (M_doAll Y 6 l0 0 (hAi h8 (hGr h8 1220 l0) (Int32.toNatClampNeg 305)) h8).bind fun q11 =>
    some q11
  else none
theorem ok_M_runsWeeks (Y : Ly) (l0 : Nat) (l1 : Int32) (h : Hp) (t0 : isO Y 12 l0) : AM Y 23 K_M_runsWeeks [.ref l0, .int l1] h (M_runsWeeks Y l0 l1 h) rV := by
  refine AM.of rfl (Nat.le_of_ble_eq_true rfl) ?_
  show AW Y 23 K_M_runsWeeks 0 [(0, .ref l0), (1, .int l1)] [] h (M_runsWeeks Y l0 l1 h) rV
  unfold M_runsWeeks
  refine aw_aload_n (pc := 0) d_M_runsWeeks_0 rfl 0 rfl ?_
  refine aw_iload_n (pc := 1) d_M_runsWeeks_1 rfl 1 rfl ?_
  refine pt_1237 (pc := 2) d_M_runsWeeks_2 w7_64 t0 ?_
  refine aw_letH (fun h1 => ?_)
  refine aw_aload_n (pc := 5) d_M_runsWeeks_5 rfl 0 rfl ?_
  refine aw_iconst (pc := 6) (x := 0) d_M_runsWeeks_6 (by decide) ?_
  refine pt_1238 (pc := 7) d_M_runsWeeks_7 w7_65 t0 ?_
  refine aw_letH (fun h2 => ?_)
  refine aw_aload_n (pc := 10) d_M_runsWeeks_10 rfl 0 rfl ?_
  refine aw_iconst (pc := 11) (x := 0) d_M_runsWeeks_11 (by decide) ?_
  refine pt_1239 (pc := 12) d_M_runsWeeks_12 w7_66 t0 ?_
  refine aw_letH (fun h3 => ?_)
  refine aw_aload_n (pc := 15) d_M_runsWeeks_15 rfl 0 rfl ?_
  refine aw_iconst (pc := 16) (x := 0) d_M_runsWeeks_16 (by decide) ?_
  refine pt_1240 (pc := 17) d_M_runsWeeks_17 w7_67 t0 ?_
  refine aw_letH (fun h4 => ?_)
  refine aw_aload_n (pc := 20) d_M_runsWeeks_20 rfl 0 rfl ?_
  refine aw_iconst (pc := 21) (x := 0) d_M_runsWeeks_21 (by decide) ?_
  refine pt_1241 (pc := 22) d_M_runsWeeks_22 w7_68 t0 ?_
  refine aw_letH (fun h5 => ?_)
  refine aw_aload_n (pc := 25) d_M_runsWeeks_25 rfl 0 rfl ?_
  refine aw_iconst (pc := 26) (x := 0) d_M_runsWeeks_26 (by decide) ?_
  refine pt_1242 (pc := 27) d_M_runsWeeks_27 w7_69 t0 ?_
  refine aw_letH (fun h6 => ?_)
  refine aw_aload_n (pc := 30) d_M_runsWeeks_30 rfl 0 rfl ?_
  refine aw_iconst (pc := 31) (x := 0) d_M_runsWeeks_31 (by decide) ?_
  refine pt_1243 (pc := 32) d_M_runsWeeks_32 w7_70 t0 ?_
  refine aw_letH (fun h7 => ?_)
  refine aw_aload_n (pc := 35) d_M_runsWeeks_35 rfl 0 rfl ?_
  refine aw_iconst (pc := 36) (x := 0) d_M_runsWeeks_36 (by decide) ?_
  refine pt_1236 (pc := 37) (x := false) d_M_runsWeeks_37 w7_63 t0 ?_
  refine aw_letH (fun h8 => ?_)
  refine aw_aload_n (pc := 40) d_M_runsWeeks_40 rfl 0 rfl ?_
  refine aw_iconst (pc := 41) (x := 0) d_M_runsWeeks_41 (by decide) ?_
  refine aw_aload_n (pc := 42) d_M_runsWeeks_42 rfl 0 rfl ?_
  refine gt_1220 (pc := 43) d_M_runsWeeks_43 w7_47 t0 (fun tt9 => ?_)
  refine aw_sipush (pc := 46) (x := 305) d_M_runsWeeks_46 (by decide) ?_
  refine aw_iaload (pc := 49) d_M_runsWeeks_49 tt9 (fun c10 => ?_)
  refine aw_cVrV (pc := 50) (ci := 12) (T := TX12) (N := 44) (As := [.int 0, .int (hAi h8 (hGr h8 1220 l0) (Int32.toNatClampNeg 305))]) (st := []) (ok_M_doAll Y 6 l0 0 (hAi h8 (hGr h8 1220 l0) (Int32.toNatClampNeg 305)) h8 t0) okV_M_doAll rfl (by decide) t0 w10_133 d_M_runsWeeks_50 rfl (Nat.le_of_ble_eq_true rfl) rfl (Nat.le_of_ble_eq_true rfl) (fun q11 hq11 hTq11 => ?_)
  exact aw_return (pc := 53) d_M_runsWeeks_53 rfl rfl
/-! LastPagesModel.live(I)I -/
theorem d_M_live_0 : decode prog_14_method_179_code 0 = .ok (.aload_n 0, 1) := by decide +kernel
theorem d_M_live_1 : decode prog_14_method_179_code 1 = .ok (.iconst 0, 1) := by decide +kernel
theorem d_M_live_2 : decode prog_14_method_179_code 2 = .ok (.putfield 78, 3) := by decide +kernel
theorem d_M_live_5 : decode prog_14_method_179_code 5 = .ok (.aload_n 0, 1) := by decide +kernel
theorem d_M_live_6 : decode prog_14_method_179_code 6 = .ok (.iconst 0, 1) := by decide +kernel
theorem d_M_live_7 : decode prog_14_method_179_code 7 = .ok (.putfield 81, 3) := by decide +kernel
theorem d_M_live_10 : decode prog_14_method_179_code 10 = .ok (.iload_n 1, 1) := by decide +kernel
theorem d_M_live_11 : decode prog_14_method_179_code 11 = .ok (.i2l, 1) := by decide +kernel
theorem d_M_live_12 : decode prog_14_method_179_code 12 = .ok (.lconst 0, 1) := by decide +kernel
theorem d_M_live_13 : decode prog_14_method_179_code 13 = .ok (.ldc2_w 562, 3) := by decide +kernel
theorem d_M_live_16 : decode prog_14_method_179_code 16 = .ok (.invokestatic 113, 3) := by decide +kernel
theorem d_M_live_19 : decode prog_14_method_179_code 19 = .ok (.ifCond .ne 9, 3) := by decide +kernel
theorem d_M_live_22 : decode prog_14_method_179_code 22 = .ok (.aload_n 0, 1) := by decide +kernel
theorem d_M_live_23 : decode prog_14_method_179_code 23 = .ok (.iconst 5, 1) := by decide +kernel
theorem d_M_live_24 : decode prog_14_method_179_code 24 = .ok (.invokevirtual 367, 3) := by decide +kernel
theorem d_M_live_27 : decode prog_14_method_179_code 27 = .ok (.ireturn, 1) := by decide +kernel
theorem d_M_live_28 : decode prog_14_method_179_code 28 = .ok (.aload_n 0, 1) := by decide +kernel
theorem d_M_live_29 : decode prog_14_method_179_code 29 = .ok (.getfield 35, 3) := by decide +kernel
theorem d_M_live_32 : decode prog_14_method_179_code 32 = .ok (.sipush 304, 3) := by decide +kernel
theorem d_M_live_35 : decode prog_14_method_179_code 35 = .ok (.iaload, 1) := by decide +kernel
theorem d_M_live_36 : decode prog_14_method_179_code 36 = .ok (.ifCond .ne 10, 3) := by decide +kernel
theorem d_M_live_39 : decode prog_14_method_179_code 39 = .ok (.aload_n 0, 1) := by decide +kernel
theorem d_M_live_40 : decode prog_14_method_179_code 40 = .ok (.bipush 8, 2) := by decide +kernel
theorem d_M_live_42 : decode prog_14_method_179_code 42 = .ok (.invokevirtual 367, 3) := by decide +kernel
theorem d_M_live_45 : decode prog_14_method_179_code 45 = .ok (.ireturn, 1) := by decide +kernel
theorem d_M_live_46 : decode prog_14_method_179_code 46 = .ok (.aload_n 0, 1) := by decide +kernel
theorem d_M_live_47 : decode prog_14_method_179_code 47 = .ok (.iload_n 1, 1) := by decide +kernel
theorem d_M_live_48 : decode prog_14_method_179_code 48 = .ok (.invokevirtual 564, 3) := by decide +kernel
theorem d_M_live_51 : decode prog_14_method_179_code 51 = .ok (.aload_n 0, 1) := by decide +kernel
theorem d_M_live_52 : decode prog_14_method_179_code 52 = .ok (.getfield 71, 3) := by decide +kernel
theorem d_M_live_55 : decode prog_14_method_179_code 55 = .ok (.iconst 0, 1) := by decide +kernel
theorem d_M_live_56 : decode prog_14_method_179_code 56 = .ok (.aload_n 0, 1) := by decide +kernel
theorem d_M_live_57 : decode prog_14_method_179_code 57 = .ok (.getfield 547, 3) := by decide +kernel
theorem d_M_live_60 : decode prog_14_method_179_code 60 = .ok (.iastore, 1) := by decide +kernel
theorem d_M_live_61 : decode prog_14_method_179_code 61 = .ok (.aload_n 0, 1) := by decide +kernel
theorem d_M_live_62 : decode prog_14_method_179_code 62 = .ok (.getfield 71, 3) := by decide +kernel
theorem d_M_live_65 : decode prog_14_method_179_code 65 = .ok (.iconst 1, 1) := by decide +kernel
theorem d_M_live_66 : decode prog_14_method_179_code 66 = .ok (.aload_n 0, 1) := by decide +kernel
theorem d_M_live_67 : decode prog_14_method_179_code 67 = .ok (.getfield 534, 3) := by decide +kernel
theorem d_M_live_70 : decode prog_14_method_179_code 70 = .ok (.iastore, 1) := by decide +kernel
theorem d_M_live_71 : decode prog_14_method_179_code 71 = .ok (.aload_n 0, 1) := by decide +kernel
theorem d_M_live_72 : decode prog_14_method_179_code 72 = .ok (.getfield 71, 3) := by decide +kernel
theorem d_M_live_75 : decode prog_14_method_179_code 75 = .ok (.iconst 2, 1) := by decide +kernel
theorem d_M_live_76 : decode prog_14_method_179_code 76 = .ok (.aload_n 0, 1) := by decide +kernel
theorem d_M_live_77 : decode prog_14_method_179_code 77 = .ok (.getfield 528, 3) := by decide +kernel
theorem d_M_live_80 : decode prog_14_method_179_code 80 = .ok (.iastore, 1) := by decide +kernel
theorem d_M_live_81 : decode prog_14_method_179_code 81 = .ok (.aload_n 0, 1) := by decide +kernel
theorem d_M_live_82 : decode prog_14_method_179_code 82 = .ok (.getfield 71, 3) := by decide +kernel
theorem d_M_live_85 : decode prog_14_method_179_code 85 = .ok (.iconst 3, 1) := by decide +kernel
theorem d_M_live_86 : decode prog_14_method_179_code 86 = .ok (.aload_n 0, 1) := by decide +kernel
theorem d_M_live_87 : decode prog_14_method_179_code 87 = .ok (.getfield 525, 3) := by decide +kernel
theorem d_M_live_90 : decode prog_14_method_179_code 90 = .ok (.iastore, 1) := by decide +kernel
theorem d_M_live_91 : decode prog_14_method_179_code 91 = .ok (.aload_n 0, 1) := by decide +kernel
theorem d_M_live_92 : decode prog_14_method_179_code 92 = .ok (.getfield 71, 3) := by decide +kernel
theorem d_M_live_95 : decode prog_14_method_179_code 95 = .ok (.iconst 4, 1) := by decide +kernel
theorem d_M_live_96 : decode prog_14_method_179_code 96 = .ok (.aload_n 0, 1) := by decide +kernel
theorem d_M_live_97 : decode prog_14_method_179_code 97 = .ok (.getfield 544, 3) := by decide +kernel
theorem d_M_live_100 : decode prog_14_method_179_code 100 = .ok (.iastore, 1) := by decide +kernel
theorem d_M_live_101 : decode prog_14_method_179_code 101 = .ok (.aload_n 0, 1) := by decide +kernel
theorem d_M_live_102 : decode prog_14_method_179_code 102 = .ok (.iconst 1, 1) := by decide +kernel
theorem d_M_live_103 : decode prog_14_method_179_code 103 = .ok (.putfield 567, 3) := by decide +kernel
theorem d_M_live_106 : decode prog_14_method_179_code 106 = .ok (.aload_n 0, 1) := by decide +kernel
theorem d_M_live_107 : decode prog_14_method_179_code 107 = .ok (.getfield 537, 3) := by decide +kernel
theorem d_M_live_110 : decode prog_14_method_179_code 110 = .ok (.ireturn, 1) := by decide +kernel
def M_live (Y : Ly) (l0 : Nat) (l1 : Int32) (h : Hp) : Option (Int32 × Hp) :=
  letH (hSi h 1201 l0 0) fun h1 =>
  letH (hSi h1 1200 l0 0) fun h2 =>
  (M_isIn Y (Int32.toInt64 l1) 0 9999 h2).bind fun q3 =>
  if q3 = true then
    if inB 304 (lnY Y (hGr h2 1220 l0)) = true then
      if (hAi h2 (hGr h2 1220 l0) (Int32.toNatClampNeg 304)) = 0 then
        (M_refuse Y l0 8 h2).bind fun q8 =>
        some (q8.1, q8.2)
      else
        (M_runsWeeks Y l0 l1 h2).bind fun q9 =>
        if inB 0 (lnY Y (hGr q9 1234 l0)) = true then
          letH (hTi q9 (hGr q9 1234 l0) (Int32.toNatClampNeg 0) (hGi q9 1239 l0)) fun h12 =>
          if inB 1 (lnY Y (hGr h12 1234 l0)) = true then
            letH (hTi h12 (hGr h12 1234 l0) (Int32.toNatClampNeg 1) (hGi h12 1240 l0)) fun h15 =>
            if inB 2 (lnY Y (hGr h15 1234 l0)) = true then
              letH (hTi h15 (hGr h15 1234 l0) (Int32.toNatClampNeg 2) (hGi h15 1241 l0)) fun h18 =>
              if inB 3 (lnY Y (hGr h18 1234 l0)) = true then
                letH (hTi h18 (hGr h18 1234 l0) (Int32.toNatClampNeg 3) (hGi h18 1242 l0)) fun h21 =>
                if inB 4 (lnY Y (hGr h21 1234 l0)) = true then
                  letH (hTi h21 (hGr h21 1234 l0) (Int32.toNatClampNeg 4) (hGi h21 1243 l0)) fun h24 =>
                  letH (hSz h24 1235 l0 true) fun h25 =>
                  some (hGi h25 1238 l0, h25)
                else none
              else none
            else none
          else none
        else none
    else none
  else
    (M_refuse Y l0 5 h2).bind fun q26 =>
    some (q26.1, q26.2)
theorem ok_M_live (Y : Ly) (l0 : Nat) (l1 : Int32) (h : Hp) (t0 : isO Y 12 l0) : AM Y 24 K_M_live [.ref l0, .int l1] h (M_live Y l0 l1 h) rI := by
  refine AM.of rfl (Nat.le_of_ble_eq_true rfl) ?_
  show AW Y 24 K_M_live 0 [(0, .ref l0), (1, .int l1)] [] h (M_live Y l0 l1 h) rI
  unfold M_live
  refine aw_aload_n (pc := 0) d_M_live_0 rfl 0 rfl ?_
  refine aw_iconst (pc := 1) (x := 0) d_M_live_1 (by decide) ?_
  refine pt_1201 (pc := 2) d_M_live_2 w7_28 t0 ?_
  refine aw_letH (fun h1 => ?_)
  refine aw_aload_n (pc := 5) d_M_live_5 rfl 0 rfl ?_
  refine aw_iconst (pc := 6) (x := 0) d_M_live_6 (by decide) ?_
  refine pt_1200 (pc := 7) d_M_live_7 w7_27 t0 ?_
  refine aw_letH (fun h2 => ?_)
  refine aw_iload_n (pc := 10) d_M_live_10 rfl 1 rfl ?_
  refine aw_i2l (pc := 11) d_M_live_11 ?_
  refine aw_lconst (pc := 12) (x := 0) d_M_live_12 (by decide) ?_
  refine aw_ldc2 (pc := 13) d_M_live_13 w10_128 ?_
  refine aw_cSpZ (pc := 16) (As := [.long (Int32.toInt64 l1), .long 0, .long 9999]) (st := []) (ok_M_isIn Y (Int32.toInt64 l1) 0 9999 h2) okS_M_isIn w8_155 d_M_live_16 rfl (Nat.le_of_ble_eq_true rfl) rfl (Nat.le_of_ble_eq_true rfl) (fun q3 hq3 hTq3 => ?_)
  refine aw_bne (pc := 19) (tgt := 28) d_M_live_19 (by decide) (fun c4 => ?_) (fun c4 => ?_)
  · refine aw_aload_n (pc := 28) d_M_live_28 rfl 0 rfl ?_
    refine gt_1220 (pc := 29) d_M_live_29 w7_47 t0 (fun tt5 => ?_)
    refine aw_sipush (pc := 32) (x := 304) d_M_live_32 (by decide) ?_
    refine aw_iaload (pc := 35) d_M_live_35 tt5 (fun c6 => ?_)
    refine aw_if_ne (pc := 36) (tgt := 46) d_M_live_36 (by decide) (fun c7 => ?_) (fun c7 => ?_)
    · refine aw_aload_n (pc := 39) d_M_live_39 rfl 0 rfl ?_
      refine aw_bipush (pc := 40) (x := 8) d_M_live_40 (by decide) ?_
      refine aw_cVrI (pc := 42) (ci := 12) (T := TX12) (N := 44) (As := [.int 8]) (st := []) (ok_M_refuse Y l0 8 h2 t0) okV_M_refuse rfl (by decide) t0 w9_8 d_M_live_42 rfl (Nat.le_of_ble_eq_true rfl) rfl (Nat.le_of_ble_eq_true rfl) (fun q8 hq8 hTq8 => ?_)
      exact aw_ireturn (pc := 45) d_M_live_45 rfl rfl
    · refine aw_aload_n (pc := 46) d_M_live_46 rfl 0 rfl ?_
      refine aw_iload_n (pc := 47) d_M_live_47 rfl 1 rfl ?_
      refine aw_cVrV (pc := 48) (ci := 12) (T := TX12) (N := 44) (As := [.int l1]) (st := []) (ok_M_runsWeeks Y l0 l1 h2 t0) okV_M_runsWeeks rfl (by decide) t0 w10_129 d_M_live_48 rfl (Nat.le_of_ble_eq_true rfl) rfl (Nat.le_of_ble_eq_true rfl) (fun q9 hq9 hTq9 => ?_)
      refine aw_aload_n (pc := 51) d_M_live_51 rfl 0 rfl ?_
      refine gt_1234 (pc := 52) d_M_live_52 w7_61 t0 (fun tt10 => ?_)
      refine aw_iconst (pc := 55) (x := 0) d_M_live_55 (by decide) ?_
      refine aw_aload_n (pc := 56) d_M_live_56 rfl 0 rfl ?_
      refine gt_1239 (pc := 57) d_M_live_57 w7_66 t0 ?_
      refine aw_iastore (pc := 60) d_M_live_60 tt10 (fun c11 => ?_)
      refine aw_letH (fun h12 => ?_)
      refine aw_aload_n (pc := 61) d_M_live_61 rfl 0 rfl ?_
      refine gt_1234 (pc := 62) d_M_live_62 w7_61 t0 (fun tt13 => ?_)
      refine aw_iconst (pc := 65) (x := 1) d_M_live_65 (by decide) ?_
      refine aw_aload_n (pc := 66) d_M_live_66 rfl 0 rfl ?_
      refine gt_1240 (pc := 67) d_M_live_67 w7_67 t0 ?_
      refine aw_iastore (pc := 70) d_M_live_70 tt13 (fun c14 => ?_)
      refine aw_letH (fun h15 => ?_)
      refine aw_aload_n (pc := 71) d_M_live_71 rfl 0 rfl ?_
      refine gt_1234 (pc := 72) d_M_live_72 w7_61 t0 (fun tt16 => ?_)
      refine aw_iconst (pc := 75) (x := 2) d_M_live_75 (by decide) ?_
      refine aw_aload_n (pc := 76) d_M_live_76 rfl 0 rfl ?_
      refine gt_1241 (pc := 77) d_M_live_77 w7_68 t0 ?_
      refine aw_iastore (pc := 80) d_M_live_80 tt16 (fun c17 => ?_)
      refine aw_letH (fun h18 => ?_)
      refine aw_aload_n (pc := 81) d_M_live_81 rfl 0 rfl ?_
      refine gt_1234 (pc := 82) d_M_live_82 w7_61 t0 (fun tt19 => ?_)
      refine aw_iconst (pc := 85) (x := 3) d_M_live_85 (by decide) ?_
      refine aw_aload_n (pc := 86) d_M_live_86 rfl 0 rfl ?_
      refine gt_1242 (pc := 87) d_M_live_87 w7_69 t0 ?_
      refine aw_iastore (pc := 90) d_M_live_90 tt19 (fun c20 => ?_)
      refine aw_letH (fun h21 => ?_)
      refine aw_aload_n (pc := 91) d_M_live_91 rfl 0 rfl ?_
      refine gt_1234 (pc := 92) d_M_live_92 w7_61 t0 (fun tt22 => ?_)
      refine aw_iconst (pc := 95) (x := 4) d_M_live_95 (by decide) ?_
      refine aw_aload_n (pc := 96) d_M_live_96 rfl 0 rfl ?_
      refine gt_1243 (pc := 97) d_M_live_97 w7_70 t0 ?_
      refine aw_iastore (pc := 100) d_M_live_100 tt22 (fun c23 => ?_)
      refine aw_letH (fun h24 => ?_)
      refine aw_aload_n (pc := 101) d_M_live_101 rfl 0 rfl ?_
      refine aw_iconst (pc := 102) (x := 1) d_M_live_102 (by decide) ?_
      refine pt_1235 (pc := 103) (x := true) d_M_live_103 w7_62 t0 ?_
      refine aw_letH (fun h25 => ?_)
      refine aw_aload_n (pc := 106) d_M_live_106 rfl 0 rfl ?_
      refine gt_1238 (pc := 107) d_M_live_107 w7_65 t0 ?_
      exact aw_ireturn (pc := 110) d_M_live_110 rfl rfl
  · refine aw_aload_n (pc := 22) d_M_live_22 rfl 0 rfl ?_
    refine aw_iconst (pc := 23) (x := 5) d_M_live_23 (by decide) ?_
    refine aw_cVrI (pc := 24) (ci := 12) (T := TX12) (N := 44) (As := [.int 5]) (st := []) (ok_M_refuse Y l0 5 h2 t0) okV_M_refuse rfl (by decide) t0 w9_8 d_M_live_24 rfl (Nat.le_of_ble_eq_true rfl) rfl (Nat.le_of_ble_eq_true rfl) (fun q26 hq26 hTq26 => ?_)
    exact aw_ireturn (pc := 27) d_M_live_27 rfl rfl
/-! LastPagesModel.lived(I)I -/
theorem d_M_lived_0 : decode prog_14_method_180_code 0 = .ok (.aload_n 0, 1) := by decide +kernel
theorem d_M_lived_1 : decode prog_14_method_180_code 1 = .ok (.iconst 0, 1) := by decide +kernel
theorem d_M_lived_2 : decode prog_14_method_180_code 2 = .ok (.putfield 78, 3) := by decide +kernel
theorem d_M_lived_5 : decode prog_14_method_180_code 5 = .ok (.aload_n 0, 1) := by decide +kernel
theorem d_M_lived_6 : decode prog_14_method_180_code 6 = .ok (.iconst 0, 1) := by decide +kernel
theorem d_M_lived_7 : decode prog_14_method_180_code 7 = .ok (.putfield 81, 3) := by decide +kernel
theorem d_M_lived_10 : decode prog_14_method_180_code 10 = .ok (.iload_n 1, 1) := by decide +kernel
theorem d_M_lived_11 : decode prog_14_method_180_code 11 = .ok (.i2l, 1) := by decide +kernel
theorem d_M_lived_12 : decode prog_14_method_180_code 12 = .ok (.lconst 0, 1) := by decide +kernel
theorem d_M_lived_13 : decode prog_14_method_180_code 13 = .ok (.ldc2_w 570, 3) := by decide +kernel
theorem d_M_lived_16 : decode prog_14_method_180_code 16 = .ok (.invokestatic 113, 3) := by decide +kernel
theorem d_M_lived_19 : decode prog_14_method_180_code 19 = .ok (.ifCond .ne 9, 3) := by decide +kernel
theorem d_M_lived_22 : decode prog_14_method_180_code 22 = .ok (.aload_n 0, 1) := by decide +kernel
theorem d_M_lived_23 : decode prog_14_method_180_code 23 = .ok (.iconst 5, 1) := by decide +kernel
theorem d_M_lived_24 : decode prog_14_method_180_code 24 = .ok (.invokevirtual 367, 3) := by decide +kernel
theorem d_M_lived_27 : decode prog_14_method_180_code 27 = .ok (.ireturn, 1) := by decide +kernel
theorem d_M_lived_28 : decode prog_14_method_180_code 28 = .ok (.aload_n 0, 1) := by decide +kernel
theorem d_M_lived_29 : decode prog_14_method_180_code 29 = .ok (.getfield 567, 3) := by decide +kernel
theorem d_M_lived_32 : decode prog_14_method_180_code 32 = .ok (.ifCond .eq 12, 3) := by decide +kernel
theorem d_M_lived_35 : decode prog_14_method_180_code 35 = .ok (.aload_n 0, 1) := by decide +kernel
theorem d_M_lived_36 : decode prog_14_method_180_code 36 = .ok (.getfield 71, 3) := by decide +kernel
theorem d_M_lived_39 : decode prog_14_method_180_code 39 = .ok (.iload_n 1, 1) := by decide +kernel
theorem d_M_lived_40 : decode prog_14_method_180_code 40 = .ok (.iaload, 1) := by decide +kernel
theorem d_M_lived_41 : decode prog_14_method_180_code 41 = .ok (.goto 9, 3) := by decide +kernel
theorem d_M_lived_44 : decode prog_14_method_180_code 44 = .ok (.aload_n 0, 1) := by decide +kernel
theorem d_M_lived_45 : decode prog_14_method_180_code 45 = .ok (.bipush 8, 2) := by decide +kernel
theorem d_M_lived_47 : decode prog_14_method_180_code 47 = .ok (.invokevirtual 367, 3) := by decide +kernel
theorem d_M_lived_50 : decode prog_14_method_180_code 50 = .ok (.ireturn, 1) := by decide +kernel
def M_lived (Y : Ly) (l0 : Nat) (l1 : Int32) (h : Hp) : Option (Int32 × Hp) :=
  letH (hSi h 1201 l0 0) fun h1 =>
  letH (hSi h1 1200 l0 0) fun h2 =>
  (M_isIn Y (Int32.toInt64 l1) 0 4 h2).bind fun q3 =>
  if q3 = true then
    if (hGz h2 1235 l0) = true then
      if inB l1 (lnY Y (hGr h2 1234 l0)) = true then
        some (hAi h2 (hGr h2 1234 l0) (Int32.toNatClampNeg l1), h2)
      else none
    else
      (M_refuse Y l0 8 h2).bind fun q8 =>
      some (q8.1, q8.2)
  else
    (M_refuse Y l0 5 h2).bind fun q9 =>
    some (q9.1, q9.2)
theorem ok_M_lived (Y : Ly) (l0 : Nat) (l1 : Int32) (h : Hp) (t0 : isO Y 12 l0) : AM Y 1 K_M_lived [.ref l0, .int l1] h (M_lived Y l0 l1 h) rI := by
  refine AM.of rfl (Nat.le_of_ble_eq_true rfl) ?_
  show AW Y 1 K_M_lived 0 [(0, .ref l0), (1, .int l1)] [] h (M_lived Y l0 l1 h) rI
  unfold M_lived
  refine aw_aload_n (pc := 0) d_M_lived_0 rfl 0 rfl ?_
  refine aw_iconst (pc := 1) (x := 0) d_M_lived_1 (by decide) ?_
  refine pt_1201 (pc := 2) d_M_lived_2 w7_28 t0 ?_
  refine aw_letH (fun h1 => ?_)
  refine aw_aload_n (pc := 5) d_M_lived_5 rfl 0 rfl ?_
  refine aw_iconst (pc := 6) (x := 0) d_M_lived_6 (by decide) ?_
  refine pt_1200 (pc := 7) d_M_lived_7 w7_27 t0 ?_
  refine aw_letH (fun h2 => ?_)
  refine aw_iload_n (pc := 10) d_M_lived_10 rfl 1 rfl ?_
  refine aw_i2l (pc := 11) d_M_lived_11 ?_
  refine aw_lconst (pc := 12) (x := 0) d_M_lived_12 (by decide) ?_
  refine aw_ldc2 (pc := 13) d_M_lived_13 w10_162 ?_
  refine aw_cSpZ (pc := 16) (As := [.long (Int32.toInt64 l1), .long 0, .long 4]) (st := []) (ok_M_isIn Y (Int32.toInt64 l1) 0 4 h2) okS_M_isIn w8_155 d_M_lived_16 rfl (Nat.le_of_ble_eq_true rfl) rfl (Nat.le_of_ble_eq_true rfl) (fun q3 hq3 hTq3 => ?_)
  refine aw_bne (pc := 19) (tgt := 28) d_M_lived_19 (by decide) (fun c4 => ?_) (fun c4 => ?_)
  · refine aw_aload_n (pc := 28) d_M_lived_28 rfl 0 rfl ?_
    refine gt_1235 (pc := 29) d_M_lived_29 w7_62 t0 ?_
    refine aw_beq (pc := 32) (tgt := 44) d_M_lived_32 (by decide) (fun c5 => ?_) (fun c5 => ?_)
    · refine aw_aload_n (pc := 35) d_M_lived_35 rfl 0 rfl ?_
      refine gt_1234 (pc := 36) d_M_lived_36 w7_61 t0 (fun tt6 => ?_)
      refine aw_iload_n (pc := 39) d_M_lived_39 rfl 1 rfl ?_
      refine aw_iaload (pc := 40) d_M_lived_40 tt6 (fun c7 => ?_)
      refine aw_goto (pc := 41) (tgt := 50) d_M_lived_41 (by decide) ?_
      exact aw_ireturn (pc := 50) d_M_lived_50 rfl rfl
    · refine aw_aload_n (pc := 44) d_M_lived_44 rfl 0 rfl ?_
      refine aw_bipush (pc := 45) (x := 8) d_M_lived_45 (by decide) ?_
      refine aw_cVrI (pc := 47) (ci := 12) (T := TX12) (N := 44) (As := [.int 8]) (st := []) (ok_M_refuse Y l0 8 h2 t0) okV_M_refuse rfl (by decide) t0 w9_8 d_M_lived_47 rfl (Nat.le_of_ble_eq_true rfl) rfl (Nat.le_of_ble_eq_true rfl) (fun q8 hq8 hTq8 => ?_)
      exact aw_ireturn (pc := 50) d_M_lived_50 rfl rfl
  · refine aw_aload_n (pc := 22) d_M_lived_22 rfl 0 rfl ?_
    refine aw_iconst (pc := 23) (x := 5) d_M_lived_23 (by decide) ?_
    refine aw_cVrI (pc := 24) (ci := 12) (T := TX12) (N := 44) (As := [.int 5]) (st := []) (ok_M_refuse Y l0 5 h2 t0) okV_M_refuse rfl (by decide) t0 w9_8 d_M_lived_24 rfl (Nat.le_of_ble_eq_true rfl) rfl (Nat.le_of_ble_eq_true rfl) (fun q9 hq9 hTq9 => ?_)
    exact aw_ireturn (pc := 27) d_M_lived_27 rfl rfl
/-! LastPagesModel.loose(I)I -/
theorem d_M_loose_0 : decode prog_14_method_117_code 0 = .ok (.aload_n 0, 1) := by decide +kernel
theorem d_M_loose_1 : decode prog_14_method_117_code 1 = .ok (.iconst 0, 1) := by decide +kernel
theorem d_M_loose_2 : decode prog_14_method_117_code 2 = .ok (.putfield 78, 3) := by decide +kernel
theorem d_M_loose_5 : decode prog_14_method_117_code 5 = .ok (.aload_n 0, 1) := by decide +kernel
theorem d_M_loose_6 : decode prog_14_method_117_code 6 = .ok (.iconst 0, 1) := by decide +kernel
theorem d_M_loose_7 : decode prog_14_method_117_code 7 = .ok (.putfield 81, 3) := by decide +kernel
theorem d_M_loose_10 : decode prog_14_method_117_code 10 = .ok (.aload_n 0, 1) := by decide +kernel
theorem d_M_loose_11 : decode prog_14_method_117_code 11 = .ok (.iload_n 1, 1) := by decide +kernel
theorem d_M_loose_12 : decode prog_14_method_117_code 12 = .ok (.invokevirtual 382, 3) := by decide +kernel
theorem d_M_loose_15 : decode prog_14_method_117_code 15 = .ok (.ifCond .ne 9, 3) := by decide +kernel
theorem d_M_loose_18 : decode prog_14_method_117_code 18 = .ok (.aload_n 0, 1) := by decide +kernel
theorem d_M_loose_19 : decode prog_14_method_117_code 19 = .ok (.iconst 2, 1) := by decide +kernel
theorem d_M_loose_20 : decode prog_14_method_117_code 20 = .ok (.invokevirtual 367, 3) := by decide +kernel
theorem d_M_loose_23 : decode prog_14_method_117_code 23 = .ok (.ireturn, 1) := by decide +kernel
theorem d_M_loose_24 : decode prog_14_method_117_code 24 = .ok (.aload_n 0, 1) := by decide +kernel
theorem d_M_loose_25 : decode prog_14_method_117_code 25 = .ok (.getfield 35, 3) := by decide +kernel
theorem d_M_loose_28 : decode prog_14_method_117_code 28 = .ok (.bipush 100, 2) := by decide +kernel
theorem d_M_loose_30 : decode prog_14_method_117_code 30 = .ok (.iload_n 1, 1) := by decide +kernel
theorem d_M_loose_31 : decode prog_14_method_117_code 31 = .ok (.iadd, 1) := by decide +kernel
theorem d_M_loose_32 : decode prog_14_method_117_code 32 = .ok (.iaload, 1) := by decide +kernel
theorem d_M_loose_33 : decode prog_14_method_117_code 33 = .ok (.istore_n 2, 1) := by decide +kernel
theorem d_M_loose_34 : decode prog_14_method_117_code 34 = .ok (.iload_n 2, 1) := by decide +kernel
theorem d_M_loose_35 : decode prog_14_method_117_code 35 = .ok (.ifCond .ge 10, 3) := by decide +kernel
theorem d_M_loose_38 : decode prog_14_method_117_code 38 = .ok (.aload_n 0, 1) := by decide +kernel
theorem d_M_loose_39 : decode prog_14_method_117_code 39 = .ok (.bipush 8, 2) := by decide +kernel
theorem d_M_loose_41 : decode prog_14_method_117_code 41 = .ok (.invokevirtual 367, 3) := by decide +kernel
theorem d_M_loose_44 : decode prog_14_method_117_code 44 = .ok (.ireturn, 1) := by decide +kernel
theorem d_M_loose_45 : decode prog_14_method_117_code 45 = .ok (.aload_n 0, 1) := by decide +kernel
theorem d_M_loose_46 : decode prog_14_method_117_code 46 = .ok (.getfield 35, 3) := by decide +kernel
theorem d_M_loose_49 : decode prog_14_method_117_code 49 = .ok (.bipush 100, 2) := by decide +kernel
theorem d_M_loose_51 : decode prog_14_method_117_code 51 = .ok (.iload_n 1, 1) := by decide +kernel
theorem d_M_loose_52 : decode prog_14_method_117_code 52 = .ok (.iadd, 1) := by decide +kernel
theorem d_M_loose_53 : decode prog_14_method_117_code 53 = .ok (.iconst (-1), 1) := by decide +kernel
theorem d_M_loose_54 : decode prog_14_method_117_code 54 = .ok (.iastore, 1) := by decide +kernel
theorem d_M_loose_55 : decode prog_14_method_117_code 55 = .ok (.iload_n 2, 1) := by decide +kernel
theorem d_M_loose_56 : decode prog_14_method_117_code 56 = .ok (.ireturn, 1) := by decide +kernel
def M_loose (Y : Ly) (l0 : Nat) (l1 : Int32) (h : Hp) : Option (Int32 × Hp) :=
  letH (hSi h 1201 l0 0) fun h1 =>
  letH (hSi h1 1200 l0 0) fun h2 =>
  (M_isBookAt Y l0 l1 h2).bind fun q3 =>
  if q3 = true then
    if inB (100 + l1) (lnY Y (hGr h2 1220 l0)) = true then
      if 0 ≤ (hAi h2 (hGr h2 1220 l0) (Int32.toNatClampNeg (100 + l1))) then
        if inB (100 + l1) (lnY Y (hGr h2 1220 l0)) = true then
          letH (hTi h2 (hGr h2 1220 l0) (Int32.toNatClampNeg (100 + l1)) (-1)) fun h10 =>
          some (hAi h2 (hGr h2 1220 l0) (Int32.toNatClampNeg (100 + l1)), h10)
        else none
      else
        (M_refuse Y l0 8 h2).bind fun q11 =>
        some (q11.1, q11.2)
    else none
  else
    (M_refuse Y l0 2 h2).bind fun q12 =>
    some (q12.1, q12.2)
theorem ok_M_loose (Y : Ly) (l0 : Nat) (l1 : Int32) (h : Hp) (t0 : isO Y 12 l0) : AM Y 2 K_M_loose [.ref l0, .int l1] h (M_loose Y l0 l1 h) rI := by
  refine AM.of rfl (Nat.le_of_ble_eq_true rfl) ?_
  show AW Y 2 K_M_loose 0 [(0, .ref l0), (1, .int l1)] [] h (M_loose Y l0 l1 h) rI
  unfold M_loose
  refine aw_aload_n (pc := 0) d_M_loose_0 rfl 0 rfl ?_
  refine aw_iconst (pc := 1) (x := 0) d_M_loose_1 (by decide) ?_
  refine pt_1201 (pc := 2) d_M_loose_2 w7_28 t0 ?_
  refine aw_letH (fun h1 => ?_)
  refine aw_aload_n (pc := 5) d_M_loose_5 rfl 0 rfl ?_
  refine aw_iconst (pc := 6) (x := 0) d_M_loose_6 (by decide) ?_
  refine pt_1200 (pc := 7) d_M_loose_7 w7_27 t0 ?_
  refine aw_letH (fun h2 => ?_)
  refine aw_aload_n (pc := 10) d_M_loose_10 rfl 0 rfl ?_
  refine aw_iload_n (pc := 11) d_M_loose_11 rfl 1 rfl ?_
  refine aw_cVpZ (pc := 12) (ci := 12) (T := TX12) (N := 44) (As := [.int l1]) (st := []) (ok_M_isBookAt Y l0 l1 h2 t0) okV_M_isBookAt rfl (by decide) t0 w9_40 d_M_loose_12 rfl (Nat.le_of_ble_eq_true rfl) rfl (Nat.le_of_ble_eq_true rfl) (fun q3 hq3 hTq3 => ?_)
  refine aw_bne (pc := 15) (tgt := 24) d_M_loose_15 (by decide) (fun c4 => ?_) (fun c4 => ?_)
  · refine aw_aload_n (pc := 24) d_M_loose_24 rfl 0 rfl ?_
    refine gt_1220 (pc := 25) d_M_loose_25 w7_47 t0 (fun tt5 => ?_)
    refine aw_bipush (pc := 28) (x := 100) d_M_loose_28 (by decide) ?_
    refine aw_iload_n (pc := 30) d_M_loose_30 rfl 1 rfl ?_
    refine aw_iadd (pc := 31) d_M_loose_31 ?_
    refine aw_iaload (pc := 32) d_M_loose_32 tt5 (fun c6 => ?_)
    refine aw_istore_n (pc := 33) (lv' := [(2, .int (hAi h2 (hGr h2 1220 l0) (Int32.toNatClampNeg (100 + l1)))), (0, .ref l0), (1, .int l1)]) d_M_loose_33 rfl (by decide) rfl ?_
    refine aw_iload_n (pc := 34) d_M_loose_34 rfl 0 rfl ?_
    refine aw_if_ge (pc := 35) (tgt := 45) d_M_loose_35 (by decide) (fun c7 => ?_) (fun c7 => ?_)
    · refine aw_aload_n (pc := 45) d_M_loose_45 rfl 1 rfl ?_
      refine gt_1220 (pc := 46) d_M_loose_46 w7_47 t0 (fun tt8 => ?_)
      refine aw_bipush (pc := 49) (x := 100) d_M_loose_49 (by decide) ?_
      refine aw_iload_n (pc := 51) d_M_loose_51 rfl 2 rfl ?_
      refine aw_iadd (pc := 52) d_M_loose_52 ?_
      refine aw_iconst (pc := 53) (x := (-1)) d_M_loose_53 (by decide) ?_
      refine aw_iastore (pc := 54) d_M_loose_54 tt8 (fun c9 => ?_)
      refine aw_letH (fun h10 => ?_)
      refine aw_iload_n (pc := 55) d_M_loose_55 rfl 0 rfl ?_
      exact aw_ireturn (pc := 56) d_M_loose_56 rfl rfl
    · refine aw_aload_n (pc := 38) d_M_loose_38 rfl 1 rfl ?_
      refine aw_bipush (pc := 39) (x := 8) d_M_loose_39 (by decide) ?_
      refine aw_cVrI (pc := 41) (ci := 12) (T := TX12) (N := 44) (As := [.int 8]) (st := []) (ok_M_refuse Y l0 8 h2 t0) okV_M_refuse rfl (by decide) t0 w9_8 d_M_loose_41 rfl (Nat.le_of_ble_eq_true rfl) rfl (Nat.le_of_ble_eq_true rfl) (fun q11 hq11 hTq11 => ?_)
      exact aw_ireturn (pc := 44) d_M_loose_44 rfl rfl
  · refine aw_aload_n (pc := 18) d_M_loose_18 rfl 0 rfl ?_
    refine aw_iconst (pc := 19) (x := 2) d_M_loose_19 (by decide) ?_
    refine aw_cVrI (pc := 20) (ci := 12) (T := TX12) (N := 44) (As := [.int 2]) (st := []) (ok_M_refuse Y l0 2 h2 t0) okV_M_refuse rfl (by decide) t0 w9_8 d_M_loose_20 rfl (Nat.le_of_ble_eq_true rfl) rfl (Nat.le_of_ble_eq_true rfl) (fun q12 hq12 hTq12 => ?_)
    exact aw_ireturn (pc := 23) d_M_loose_23 rfl rfl
/-! LastPagesModel.rules()I -/
theorem d_M_rules_0 : decode prog_14_method_94_code 0 = .ok (.iconst 0, 1) := by decide +kernel
theorem d_M_rules_1 : decode prog_14_method_94_code 1 = .ok (.istore_n 1, 1) := by decide +kernel
theorem d_M_rules_2 : decode prog_14_method_94_code 2 = .ok (.iconst 0, 1) := by decide +kernel
theorem d_M_rules_3 : decode prog_14_method_94_code 3 = .ok (.istore_n 2, 1) := by decide +kernel
theorem d_M_rules_4 : decode prog_14_method_94_code 4 = .ok (.iload_n 2, 1) := by decide +kernel
theorem d_M_rules_5 : decode prog_14_method_94_code 5 = .ok (.bipush 64, 2) := by decide +kernel
theorem d_M_rules_7 : decode prog_14_method_94_code 7 = .ok (.if_icmp .ge 29, 3) := by decide +kernel
theorem d_M_rules_10 : decode prog_14_method_94_code 10 = .ok (.iload_n 1, 1) := by decide +kernel
theorem d_M_rules_11 : decode prog_14_method_94_code 11 = .ok (.aload_n 0, 1) := by decide +kernel
theorem d_M_rules_12 : decode prog_14_method_94_code 12 = .ok (.getfield 35, 3) := by decide +kernel
theorem d_M_rules_15 : decode prog_14_method_94_code 15 = .ok (.bipush 18, 2) := by decide +kernel
theorem d_M_rules_17 : decode prog_14_method_94_code 17 = .ok (.iload_n 2, 1) := by decide +kernel
theorem d_M_rules_18 : decode prog_14_method_94_code 18 = .ok (.iadd, 1) := by decide +kernel
theorem d_M_rules_19 : decode prog_14_method_94_code 19 = .ok (.iaload, 1) := by decide +kernel
theorem d_M_rules_20 : decode prog_14_method_94_code 20 = .ok (.ifCond .ge 7, 3) := by decide +kernel
theorem d_M_rules_23 : decode prog_14_method_94_code 23 = .ok (.iconst 0, 1) := by decide +kernel
theorem d_M_rules_24 : decode prog_14_method_94_code 24 = .ok (.goto 4, 3) := by decide +kernel
theorem d_M_rules_27 : decode prog_14_method_94_code 27 = .ok (.iconst 1, 1) := by decide +kernel
theorem d_M_rules_28 : decode prog_14_method_94_code 28 = .ok (.iadd, 1) := by decide +kernel
theorem d_M_rules_29 : decode prog_14_method_94_code 29 = .ok (.istore_n 1, 1) := by decide +kernel
theorem d_M_rules_30 : decode prog_14_method_94_code 30 = .ok (.iinc 2 1, 3) := by decide +kernel
theorem d_M_rules_33 : decode prog_14_method_94_code 33 = .ok (.goto (-29), 3) := by decide +kernel
theorem d_M_rules_36 : decode prog_14_method_94_code 36 = .ok (.iload_n 1, 1) := by decide +kernel
theorem d_M_rules_37 : decode prog_14_method_94_code 37 = .ok (.ireturn, 1) := by decide +kernel
def M_rules_L4 (Y : Ly) (l0 : Nat) (h : Hp) : Nat → Int32 → Int32 → Option Int32
  | 0, _, _ => none
  | F + 1, l1, l2 =>
    if 64 ≤ l2 then
      some l1
    else
      if inB (18 + l2) (lnY Y (hGr h 1220 l0)) = true then
        if 0 ≤ (hAi h (hGr h 1220 l0) (Int32.toNatClampNeg (18 + l2))) then
          M_rules_L4 Y l0 h F (l1 + 1) (l2 + 1)
        else
          M_rules_L4 Y l0 h F (l1 + 0) (l2 + 1)
      else none
theorem M_rules_L4_ok (Y : Ly) (l0 : Nat) (h : Hp) (tl0 : isO Y 12 l0) : ∀ (F : Nat) (l1 : Int32) (l2 : Int32), AW Y 0 K_M_rules 4 [(0, .ref l0), (1, .int l1), (2, .int l2)] [] h (M_rules_L4 Y l0 h F l1 l2) (pI h) := by
  intro F
  induction F with
  | zero =>
    intro l1 l2
    exact aw_none
  | succ F ih =>
    intro l1 l2
    unfold M_rules_L4
    refine aw_iload_n (pc := 4) d_M_rules_4 rfl 2 rfl ?_
    refine aw_bipush (pc := 5) (x := 64) d_M_rules_5 (by decide) ?_
    refine aw_icmp_ge (pc := 7) (tgt := 36) d_M_rules_7 (by decide) (fun c1 => ?_) (fun c1 => ?_)
    · refine aw_iload_n (pc := 36) d_M_rules_36 rfl 1 rfl ?_
      exact aw_ireturn (pc := 37) d_M_rules_37 rfl rfl
    · refine aw_iload_n (pc := 10) d_M_rules_10 rfl 1 rfl ?_
      refine aw_aload_n (pc := 11) d_M_rules_11 rfl 0 rfl ?_
      refine gt_1220 (pc := 12) d_M_rules_12 w7_47 tl0 (fun tt2 => ?_)
      refine aw_bipush (pc := 15) (x := 18) d_M_rules_15 (by decide) ?_
      refine aw_iload_n (pc := 17) d_M_rules_17 rfl 2 rfl ?_
      refine aw_iadd (pc := 18) d_M_rules_18 ?_
      refine aw_iaload (pc := 19) d_M_rules_19 tt2 (fun c3 => ?_)
      refine aw_if_ge (pc := 20) (tgt := 27) d_M_rules_20 (by decide) (fun c4 => ?_) (fun c4 => ?_)
      · refine aw_iconst (pc := 27) (x := 1) d_M_rules_27 (by decide) ?_
        refine aw_iadd (pc := 28) d_M_rules_28 ?_
        refine aw_istore_n (pc := 29) (lv' := [(1, .int (l1 + 1)), (0, .ref l0), (2, .int l2)]) d_M_rules_29 rfl (by decide) rfl ?_
        refine aw_iinc (pc := 30) (w := l2 + 1) (lv' := [(2, .int (l2 + 1)), (1, .int (l1 + 1)), (0, .ref l0)]) d_M_rules_30 2 rfl rfl (by decide) rfl ?_
        refine aw_goto (pc := 33) (tgt := 4) d_M_rules_33 (by decide) ?_
        exact aw_lv [2, 1, 0] rfl (ih (l1 + 1) (l2 + 1))
      · refine aw_iconst (pc := 23) (x := 0) d_M_rules_23 (by decide) ?_
        refine aw_goto (pc := 24) (tgt := 28) d_M_rules_24 (by decide) ?_
        refine aw_iadd (pc := 28) d_M_rules_28 ?_
        refine aw_istore_n (pc := 29) (lv' := [(1, .int (l1 + 0)), (0, .ref l0), (2, .int l2)]) d_M_rules_29 rfl (by decide) rfl ?_
        refine aw_iinc (pc := 30) (w := l2 + 1) (lv' := [(2, .int (l2 + 1)), (1, .int (l1 + 0)), (0, .ref l0)]) d_M_rules_30 2 rfl rfl (by decide) rfl ?_
        refine aw_goto (pc := 33) (tgt := 4) d_M_rules_33 (by decide) ?_
        exact aw_lv [2, 1, 0] rfl (ih (l1 + 0) (l2 + 1))
def M_rules (Y : Ly) (l0 : Nat) (h : Hp) : Option Int32 :=
  M_rules_L4 Y l0 h FU 0 0
theorem ok_M_rules (Y : Ly) (l0 : Nat) (h : Hp) (t0 : isO Y 12 l0) : AM Y 0 K_M_rules [.ref l0] h (M_rules Y l0 h) (pI h) := by
  refine AM.of rfl (Nat.le_of_ble_eq_true rfl) ?_
  show AW Y 0 K_M_rules 0 [(0, .ref l0)] [] h (M_rules Y l0 h) (pI h)
  unfold M_rules
  refine aw_iconst (pc := 0) (x := 0) d_M_rules_0 (by decide) ?_
  refine aw_istore_n (pc := 1) (lv' := [(1, .int 0), (0, .ref l0)]) d_M_rules_1 rfl (by decide) rfl ?_
  refine aw_iconst (pc := 2) (x := 0) d_M_rules_2 (by decide) ?_
  refine aw_istore_n (pc := 3) (lv' := [(2, .int 0), (1, .int 0), (0, .ref l0)]) d_M_rules_3 rfl (by decide) rfl ?_
  exact aw_lv [2, 1, 0] rfl (M_rules_L4_ok Y l0 h t0 FU 0 0)
/-! LastPagesModel.many(I)I -/
theorem d_M_many_0 : decode prog_14_method_96_code 0 = .ok (.aload_n 0, 1) := by decide +kernel
theorem d_M_many_1 : decode prog_14_method_96_code 1 = .ok (.iconst 0, 1) := by decide +kernel
theorem d_M_many_2 : decode prog_14_method_96_code 2 = .ok (.putfield 78, 3) := by decide +kernel
theorem d_M_many_5 : decode prog_14_method_96_code 5 = .ok (.aload_n 0, 1) := by decide +kernel
theorem d_M_many_6 : decode prog_14_method_96_code 6 = .ok (.iconst 0, 1) := by decide +kernel
theorem d_M_many_7 : decode prog_14_method_96_code 7 = .ok (.putfield 81, 3) := by decide +kernel
theorem d_M_many_10 : decode prog_14_method_96_code 10 = .ok (.iload_n 1, 1) := by decide +kernel
theorem d_M_many_11 : decode prog_14_method_96_code 11 = .ok (.i2l, 1) := by decide +kernel
theorem d_M_many_12 : decode prog_14_method_96_code 12 = .ok (.lconst 0, 1) := by decide +kernel
theorem d_M_many_13 : decode prog_14_method_96_code 13 = .ok (.ldc2_w 365, 3) := by decide +kernel
theorem d_M_many_16 : decode prog_14_method_96_code 16 = .ok (.invokestatic 113, 3) := by decide +kernel
theorem d_M_many_19 : decode prog_14_method_96_code 19 = .ok (.ifCond .ne 9, 3) := by decide +kernel
theorem d_M_many_22 : decode prog_14_method_96_code 22 = .ok (.aload_n 0, 1) := by decide +kernel
theorem d_M_many_23 : decode prog_14_method_96_code 23 = .ok (.iconst 5, 1) := by decide +kernel
theorem d_M_many_24 : decode prog_14_method_96_code 24 = .ok (.invokevirtual 367, 3) := by decide +kernel
theorem d_M_many_27 : decode prog_14_method_96_code 27 = .ok (.ireturn, 1) := by decide +kernel
theorem d_M_many_28 : decode prog_14_method_96_code 28 = .ok (.iload_n 1, 1) := by decide +kernel
theorem d_M_many_29 : decode prog_14_method_96_code 29 = .ok (.bipush 8, 2) := by decide +kernel
theorem d_M_many_31 : decode prog_14_method_96_code 31 = .ok (.if_icmp .ge 12, 3) := by decide +kernel
theorem d_M_many_34 : decode prog_14_method_96_code 34 = .ok (.aload_n 0, 1) := by decide +kernel
theorem d_M_many_35 : decode prog_14_method_96_code 35 = .ok (.getfield 35, 3) := by decide +kernel
theorem d_M_many_38 : decode prog_14_method_96_code 38 = .ok (.iload_n 1, 1) := by decide +kernel
theorem d_M_many_39 : decode prog_14_method_96_code 39 = .ok (.iaload, 1) := by decide +kernel
theorem d_M_many_40 : decode prog_14_method_96_code 40 = .ok (.goto 52, 3) := by decide +kernel
theorem d_M_many_43 : decode prog_14_method_96_code 43 = .ok (.iload_n 1, 1) := by decide +kernel
theorem d_M_many_44 : decode prog_14_method_96_code 44 = .ok (.bipush 8, 2) := by decide +kernel
theorem d_M_many_46 : decode prog_14_method_96_code 46 = .ok (.if_icmp .ne 10, 3) := by decide +kernel
theorem d_M_many_49 : decode prog_14_method_96_code 49 = .ok (.aload_n 0, 1) := by decide +kernel
theorem d_M_many_50 : decode prog_14_method_96_code 50 = .ok (.invokevirtual 370, 3) := by decide +kernel
theorem d_M_many_53 : decode prog_14_method_96_code 53 = .ok (.goto 39, 3) := by decide +kernel
theorem d_M_many_56 : decode prog_14_method_96_code 56 = .ok (.iload_n 1, 1) := by decide +kernel
theorem d_M_many_57 : decode prog_14_method_96_code 57 = .ok (.bipush 9, 2) := by decide +kernel
theorem d_M_many_59 : decode prog_14_method_96_code 59 = .ok (.if_icmp .ne 13, 3) := by decide +kernel
theorem d_M_many_62 : decode prog_14_method_96_code 62 = .ok (.aload_n 0, 1) := by decide +kernel
theorem d_M_many_63 : decode prog_14_method_96_code 63 = .ok (.getfield 35, 3) := by decide +kernel
theorem d_M_many_66 : decode prog_14_method_96_code 66 = .ok (.bipush 8, 2) := by decide +kernel
theorem d_M_many_68 : decode prog_14_method_96_code 68 = .ok (.iaload, 1) := by decide +kernel
theorem d_M_many_69 : decode prog_14_method_96_code 69 = .ok (.goto 23, 3) := by decide +kernel
theorem d_M_many_72 : decode prog_14_method_96_code 72 = .ok (.iload_n 1, 1) := by decide +kernel
theorem d_M_many_73 : decode prog_14_method_96_code 73 = .ok (.bipush 10, 2) := by decide +kernel
theorem d_M_many_75 : decode prog_14_method_96_code 75 = .ok (.if_icmp .ne 10, 3) := by decide +kernel
theorem d_M_many_78 : decode prog_14_method_96_code 78 = .ok (.aload_n 0, 1) := by decide +kernel
theorem d_M_many_79 : decode prog_14_method_96_code 79 = .ok (.invokevirtual 373, 3) := by decide +kernel
theorem d_M_many_82 : decode prog_14_method_96_code 82 = .ok (.goto 10, 3) := by decide +kernel
theorem d_M_many_85 : decode prog_14_method_96_code 85 = .ok (.aload_n 0, 1) := by decide +kernel
theorem d_M_many_86 : decode prog_14_method_96_code 86 = .ok (.getfield 35, 3) := by decide +kernel
theorem d_M_many_89 : decode prog_14_method_96_code 89 = .ok (.bipush 9, 2) := by decide +kernel
theorem d_M_many_91 : decode prog_14_method_96_code 91 = .ok (.iaload, 1) := by decide +kernel
theorem d_M_many_92 : decode prog_14_method_96_code 92 = .ok (.ireturn, 1) := by decide +kernel
def M_many (Y : Ly) (l0 : Nat) (l1 : Int32) (h : Hp) : Option (Int32 × Hp) :=
  letH (hSi h 1201 l0 0) fun h1 =>
  letH (hSi h1 1200 l0 0) fun h2 =>
  (M_isIn Y (Int32.toInt64 l1) 0 11 h2).bind fun q3 =>
  if q3 = true then
    if 8 ≤ l1 then
      if l1 = 8 then
        (M_rules Y l0 h2).bind fun q7 =>
        some (q7, h2)
      else
        if l1 = 9 then
          if inB 8 (lnY Y (hGr h2 1220 l0)) = true then
            some (hAi h2 (hGr h2 1220 l0) (Int32.toNatClampNeg 8), h2)
          else none
        else
          if l1 = 10 then
            (M_bound Y l0 h2).bind fun q12 =>
            some (q12, h2)
          else
            if inB 9 (lnY Y (hGr h2 1220 l0)) = true then
              some (hAi h2 (hGr h2 1220 l0) (Int32.toNatClampNeg 9), h2)
            else none
    else
      if inB l1 (lnY Y (hGr h2 1220 l0)) = true then
        some (hAi h2 (hGr h2 1220 l0) (Int32.toNatClampNeg l1), h2)
      else none
  else
    (M_refuse Y l0 5 h2).bind fun q17 =>
    some (q17.1, q17.2)
theorem ok_M_many (Y : Ly) (l0 : Nat) (l1 : Int32) (h : Hp) (t0 : isO Y 12 l0) : AM Y 1 K_M_many [.ref l0, .int l1] h (M_many Y l0 l1 h) rI := by
  refine AM.of rfl (Nat.le_of_ble_eq_true rfl) ?_
  show AW Y 1 K_M_many 0 [(0, .ref l0), (1, .int l1)] [] h (M_many Y l0 l1 h) rI
  unfold M_many
  refine aw_aload_n (pc := 0) d_M_many_0 rfl 0 rfl ?_
  refine aw_iconst (pc := 1) (x := 0) d_M_many_1 (by decide) ?_
  refine pt_1201 (pc := 2) d_M_many_2 w7_28 t0 ?_
  refine aw_letH (fun h1 => ?_)
  refine aw_aload_n (pc := 5) d_M_many_5 rfl 0 rfl ?_
  refine aw_iconst (pc := 6) (x := 0) d_M_many_6 (by decide) ?_
  refine pt_1200 (pc := 7) d_M_many_7 w7_27 t0 ?_
  refine aw_letH (fun h2 => ?_)
  refine aw_iload_n (pc := 10) d_M_many_10 rfl 1 rfl ?_
  refine aw_i2l (pc := 11) d_M_many_11 ?_
  refine aw_lconst (pc := 12) (x := 0) d_M_many_12 (by decide) ?_
  refine aw_ldc2 (pc := 13) d_M_many_13 w9_7 ?_
  refine aw_cSpZ (pc := 16) (As := [.long (Int32.toInt64 l1), .long 0, .long 11]) (st := []) (ok_M_isIn Y (Int32.toInt64 l1) 0 11 h2) okS_M_isIn w8_155 d_M_many_16 rfl (Nat.le_of_ble_eq_true rfl) rfl (Nat.le_of_ble_eq_true rfl) (fun q3 hq3 hTq3 => ?_)
  refine aw_bne (pc := 19) (tgt := 28) d_M_many_19 (by decide) (fun c4 => ?_) (fun c4 => ?_)
  · refine aw_iload_n (pc := 28) d_M_many_28 rfl 1 rfl ?_
    refine aw_bipush (pc := 29) (x := 8) d_M_many_29 (by decide) ?_
    refine aw_icmp_ge (pc := 31) (tgt := 43) d_M_many_31 (by decide) (fun c5 => ?_) (fun c5 => ?_)
    · refine aw_iload_n (pc := 43) d_M_many_43 rfl 1 rfl ?_
      refine aw_bipush (pc := 44) (x := 8) d_M_many_44 (by decide) ?_
      refine aw_icmp_ne (pc := 46) (tgt := 56) d_M_many_46 (by decide) (fun c6 => ?_) (fun c6 => ?_)
      · refine aw_aload_n (pc := 49) d_M_many_49 rfl 0 rfl ?_
        refine aw_cVpI (pc := 50) (ci := 12) (T := TX12) (N := 44) (As := []) (st := []) (ok_M_rules Y l0 h2 t0) okV_M_rules rfl (by decide) t0 w9_12 d_M_many_50 rfl (Nat.le_of_ble_eq_true rfl) rfl (Nat.le_of_ble_eq_true rfl) (fun q7 hq7 hTq7 => ?_)
        refine aw_goto (pc := 53) (tgt := 92) d_M_many_53 (by decide) ?_
        exact aw_ireturn (pc := 92) d_M_many_92 rfl rfl
      · refine aw_iload_n (pc := 56) d_M_many_56 rfl 1 rfl ?_
        refine aw_bipush (pc := 57) (x := 9) d_M_many_57 (by decide) ?_
        refine aw_icmp_ne (pc := 59) (tgt := 72) d_M_many_59 (by decide) (fun c8 => ?_) (fun c8 => ?_)
        · refine aw_aload_n (pc := 62) d_M_many_62 rfl 0 rfl ?_
          refine gt_1220 (pc := 63) d_M_many_63 w7_47 t0 (fun tt9 => ?_)
          refine aw_bipush (pc := 66) (x := 8) d_M_many_66 (by decide) ?_
          refine aw_iaload (pc := 68) d_M_many_68 tt9 (fun c10 => ?_)
          refine aw_goto (pc := 69) (tgt := 92) d_M_many_69 (by decide) ?_
          exact aw_ireturn (pc := 92) d_M_many_92 rfl rfl
        · refine aw_iload_n (pc := 72) d_M_many_72 rfl 1 rfl ?_
          refine aw_bipush (pc := 73) (x := 10) d_M_many_73 (by decide) ?_
          refine aw_icmp_ne (pc := 75) (tgt := 85) d_M_many_75 (by decide) (fun c11 => ?_) (fun c11 => ?_)
          · refine aw_aload_n (pc := 78) d_M_many_78 rfl 0 rfl ?_
            refine aw_cVpI (pc := 79) (ci := 12) (T := TX12) (N := 44) (As := []) (st := []) (ok_M_bound Y l0 h2 t0) okV_M_bound rfl (by decide) t0 w9_16 d_M_many_79 rfl (Nat.le_of_ble_eq_true rfl) rfl (Nat.le_of_ble_eq_true rfl) (fun q12 hq12 hTq12 => ?_)
            refine aw_goto (pc := 82) (tgt := 92) d_M_many_82 (by decide) ?_
            exact aw_ireturn (pc := 92) d_M_many_92 rfl rfl
          · refine aw_aload_n (pc := 85) d_M_many_85 rfl 0 rfl ?_
            refine gt_1220 (pc := 86) d_M_many_86 w7_47 t0 (fun tt13 => ?_)
            refine aw_bipush (pc := 89) (x := 9) d_M_many_89 (by decide) ?_
            refine aw_iaload (pc := 91) d_M_many_91 tt13 (fun c14 => ?_)
            exact aw_ireturn (pc := 92) d_M_many_92 rfl rfl
    · refine aw_aload_n (pc := 34) d_M_many_34 rfl 0 rfl ?_
      refine gt_1220 (pc := 35) d_M_many_35 w7_47 t0 (fun tt15 => ?_)
      refine aw_iload_n (pc := 38) d_M_many_38 rfl 1 rfl ?_
      refine aw_iaload (pc := 39) d_M_many_39 tt15 (fun c16 => ?_)
      refine aw_goto (pc := 40) (tgt := 92) d_M_many_40 (by decide) ?_
      exact aw_ireturn (pc := 92) d_M_many_92 rfl rfl
  · refine aw_aload_n (pc := 22) d_M_many_22 rfl 0 rfl ?_
    refine aw_iconst (pc := 23) (x := 5) d_M_many_23 (by decide) ?_
    refine aw_cVrI (pc := 24) (ci := 12) (T := TX12) (N := 44) (As := [.int 5]) (st := []) (ok_M_refuse Y l0 5 h2 t0) okV_M_refuse rfl (by decide) t0 w9_8 d_M_many_24 rfl (Nat.le_of_ble_eq_true rfl) rfl (Nat.le_of_ble_eq_true rfl) (fun q17 hq17 hTq17 => ?_)
    exact aw_ireturn (pc := 27) d_M_many_27 rfl rfl
/-! LastPagesModel.mark()I -/
theorem d_M_mark_0 : decode prog_14_method_183_code 0 = .ok (.aload_n 0, 1) := by decide +kernel
theorem d_M_mark_1 : decode prog_14_method_183_code 1 = .ok (.iconst 0, 1) := by decide +kernel
theorem d_M_mark_2 : decode prog_14_method_183_code 2 = .ok (.putfield 78, 3) := by decide +kernel
theorem d_M_mark_5 : decode prog_14_method_183_code 5 = .ok (.aload_n 0, 1) := by decide +kernel
theorem d_M_mark_6 : decode prog_14_method_183_code 6 = .ok (.iconst 0, 1) := by decide +kernel
theorem d_M_mark_7 : decode prog_14_method_183_code 7 = .ok (.putfield 81, 3) := by decide +kernel
theorem d_M_mark_10 : decode prog_14_method_183_code 10 = .ok (.aload_n 0, 1) := by decide +kernel
theorem d_M_mark_11 : decode prog_14_method_183_code 11 = .ok (.getfield 574, 3) := by decide +kernel
theorem d_M_mark_14 : decode prog_14_method_183_code 14 = .ok (.iconst 3, 1) := by decide +kernel
theorem d_M_mark_15 : decode prog_14_method_183_code 15 = .ok (.if_icmp .ne 10, 3) := by decide +kernel
theorem d_M_mark_18 : decode prog_14_method_183_code 18 = .ok (.aload_n 0, 1) := by decide +kernel
theorem d_M_mark_19 : decode prog_14_method_183_code 19 = .ok (.bipush 7, 2) := by decide +kernel
theorem d_M_mark_21 : decode prog_14_method_183_code 21 = .ok (.invokevirtual 367, 3) := by decide +kernel
theorem d_M_mark_24 : decode prog_14_method_183_code 24 = .ok (.ireturn, 1) := by decide +kernel
theorem d_M_mark_25 : decode prog_14_method_183_code 25 = .ok (.aload_n 0, 1) := by decide +kernel
theorem d_M_mark_26 : decode prog_14_method_183_code 26 = .ok (.dup, 1) := by decide +kernel
theorem d_M_mark_27 : decode prog_14_method_183_code 27 = .ok (.getfield 574, 3) := by decide +kernel
theorem d_M_mark_30 : decode prog_14_method_183_code 30 = .ok (.iconst 1, 1) := by decide +kernel
theorem d_M_mark_31 : decode prog_14_method_183_code 31 = .ok (.iadd, 1) := by decide +kernel
theorem d_M_mark_32 : decode prog_14_method_183_code 32 = .ok (.putfield 574, 3) := by decide +kernel
theorem d_M_mark_35 : decode prog_14_method_183_code 35 = .ok (.aload_n 0, 1) := by decide +kernel
theorem d_M_mark_36 : decode prog_14_method_183_code 36 = .ok (.iconst 0, 1) := by decide +kernel
theorem d_M_mark_37 : decode prog_14_method_183_code 37 = .ok (.aload_n 0, 1) := by decide +kernel
theorem d_M_mark_38 : decode prog_14_method_183_code 38 = .ok (.getfield 574, 3) := by decide +kernel
theorem d_M_mark_41 : decode prog_14_method_183_code 41 = .ok (.invokevirtual 350, 3) := by decide +kernel
theorem d_M_mark_44 : decode prog_14_method_183_code 44 = .ok (.aload_n 0, 1) := by decide +kernel
theorem d_M_mark_45 : decode prog_14_method_183_code 45 = .ok (.getfield 574, 3) := by decide +kernel
theorem d_M_mark_48 : decode prog_14_method_183_code 48 = .ok (.ireturn, 1) := by decide +kernel
def M_mark (Y : Ly) (l0 : Nat) (h : Hp) : Option (Int32 × Hp) :=
  letH (hSi h 1201 l0 0) fun h1 =>
  letH (hSi h1 1200 l0 0) fun h2 =>
  if (hGi h2 1223 l0) = 3 then
    (M_refuse Y l0 7 h2).bind fun q4 =>
    some (q4.1, q4.2)
  else
    letH (hSi h2 1223 l0 ((hGi h2 1223 l0) + 1)) fun h5 =>
    (M_copy Y l0 0 (hGi h5 1223 l0) h5).bind fun q6 =>
    some (hGi q6 1223 l0, q6)
theorem ok_M_mark (Y : Ly) (l0 : Nat) (h : Hp) (t0 : isO Y 12 l0) : AM Y 1 K_M_mark [.ref l0] h (M_mark Y l0 h) rI := by
  refine AM.of rfl (Nat.le_of_ble_eq_true rfl) ?_
  show AW Y 1 K_M_mark 0 [(0, .ref l0)] [] h (M_mark Y l0 h) rI
  unfold M_mark
  refine aw_aload_n (pc := 0) d_M_mark_0 rfl 0 rfl ?_
  refine aw_iconst (pc := 1) (x := 0) d_M_mark_1 (by decide) ?_
  refine pt_1201 (pc := 2) d_M_mark_2 w7_28 t0 ?_
  refine aw_letH (fun h1 => ?_)
  refine aw_aload_n (pc := 5) d_M_mark_5 rfl 0 rfl ?_
  refine aw_iconst (pc := 6) (x := 0) d_M_mark_6 (by decide) ?_
  refine pt_1200 (pc := 7) d_M_mark_7 w7_27 t0 ?_
  refine aw_letH (fun h2 => ?_)
  refine aw_aload_n (pc := 10) d_M_mark_10 rfl 0 rfl ?_
  refine gt_1223 (pc := 11) d_M_mark_11 w7_50 t0 ?_
  refine aw_iconst (pc := 14) (x := 3) d_M_mark_14 (by decide) ?_
  refine aw_icmp_ne (pc := 15) (tgt := 25) d_M_mark_15 (by decide) (fun c3 => ?_) (fun c3 => ?_)
  · refine aw_aload_n (pc := 18) d_M_mark_18 rfl 0 rfl ?_
    refine aw_bipush (pc := 19) (x := 7) d_M_mark_19 (by decide) ?_
    refine aw_cVrI (pc := 21) (ci := 12) (T := TX12) (N := 44) (As := [.int 7]) (st := []) (ok_M_refuse Y l0 7 h2 t0) okV_M_refuse rfl (by decide) t0 w9_8 d_M_mark_21 rfl (Nat.le_of_ble_eq_true rfl) rfl (Nat.le_of_ble_eq_true rfl) (fun q4 hq4 hTq4 => ?_)
    exact aw_ireturn (pc := 24) d_M_mark_24 rfl rfl
  · refine aw_aload_n (pc := 25) d_M_mark_25 rfl 0 rfl ?_
    refine aw_dup (pc := 26) d_M_mark_26 rfl ?_
    refine gt_1223 (pc := 27) d_M_mark_27 w7_50 t0 ?_
    refine aw_iconst (pc := 30) (x := 1) d_M_mark_30 (by decide) ?_
    refine aw_iadd (pc := 31) d_M_mark_31 ?_
    refine pt_1223 (pc := 32) d_M_mark_32 w7_50 t0 ?_
    refine aw_letH (fun h5 => ?_)
    refine aw_aload_n (pc := 35) d_M_mark_35 rfl 0 rfl ?_
    refine aw_iconst (pc := 36) (x := 0) d_M_mark_36 (by decide) ?_
    refine aw_aload_n (pc := 37) d_M_mark_37 rfl 0 rfl ?_
    refine gt_1223 (pc := 38) d_M_mark_38 w7_50 t0 ?_
    refine aw_cVrV (pc := 41) (ci := 12) (T := TX12) (N := 44) (As := [.int 0, .int (hGi h5 1223 l0)]) (st := []) (ok_M_copy Y l0 0 (hGi h5 1223 l0) h5 t0) okV_M_copy rfl (by decide) t0 w8_223 d_M_mark_41 rfl (Nat.le_of_ble_eq_true rfl) rfl (Nat.le_of_ble_eq_true rfl) (fun q6 hq6 hTq6 => ?_)
    refine aw_aload_n (pc := 44) d_M_mark_44 rfl 0 rfl ?_
    refine gt_1223 (pc := 45) d_M_mark_45 w7_50 t0 ?_
    exact aw_ireturn (pc := 48) d_M_mark_48 rfl rfl
/-! LastPagesModel.mostBooks()I -/
theorem d_M_mostBooks_0 : decode prog_14_method_143_code 0 = .ok (.iconst 0, 1) := by decide +kernel
theorem d_M_mostBooks_1 : decode prog_14_method_143_code 1 = .ok (.istore_n 1, 1) := by decide +kernel
theorem d_M_mostBooks_2 : decode prog_14_method_143_code 2 = .ok (.iload_n 1, 1) := by decide +kernel
theorem d_M_mostBooks_3 : decode prog_14_method_143_code 3 = .ok (.sipush 1792, 3) := by decide +kernel
theorem d_M_mostBooks_6 : decode prog_14_method_143_code 6 = .ok (.if_icmp .ge 16, 3) := by decide +kernel
theorem d_M_mostBooks_9 : decode prog_14_method_143_code 9 = .ok (.aload_n 0, 1) := by decide +kernel
theorem d_M_mostBooks_10 : decode prog_14_method_143_code 10 = .ok (.getfield 68, 3) := by decide +kernel
theorem d_M_mostBooks_13 : decode prog_14_method_143_code 13 = .ok (.iload_n 1, 1) := by decide +kernel
theorem d_M_mostBooks_14 : decode prog_14_method_143_code 14 = .ok (.iconst 0, 1) := by decide +kernel
theorem d_M_mostBooks_15 : decode prog_14_method_143_code 15 = .ok (.iastore, 1) := by decide +kernel
theorem d_M_mostBooks_16 : decode prog_14_method_143_code 16 = .ok (.iinc 1 1, 3) := by decide +kernel
theorem d_M_mostBooks_19 : decode prog_14_method_143_code 19 = .ok (.goto (-17), 3) := by decide +kernel
theorem d_M_mostBooks_22 : decode prog_14_method_143_code 22 = .ok (.aload_n 0, 1) := by decide +kernel
theorem d_M_mostBooks_23 : decode prog_14_method_143_code 23 = .ok (.getfield 35, 3) := by decide +kernel
theorem d_M_mostBooks_26 : decode prog_14_method_143_code 26 = .ok (.iconst 2, 1) := by decide +kernel
theorem d_M_mostBooks_27 : decode prog_14_method_143_code 27 = .ok (.iaload, 1) := by decide +kernel
theorem d_M_mostBooks_28 : decode prog_14_method_143_code 28 = .ok (.iconst 1, 1) := by decide +kernel
theorem d_M_mostBooks_29 : decode prog_14_method_143_code 29 = .ok (.isub, 1) := by decide +kernel
theorem d_M_mostBooks_30 : decode prog_14_method_143_code 30 = .ok (.istore_n 1, 1) := by decide +kernel
theorem d_M_mostBooks_31 : decode prog_14_method_143_code 31 = .ok (.iload_n 1, 1) := by decide +kernel
theorem d_M_mostBooks_32 : decode prog_14_method_143_code 32 = .ok (.ifCond .lt 112, 3) := by decide +kernel
theorem d_M_mostBooks_35 : decode prog_14_method_143_code 35 = .ok (.iconst 0, 1) := by decide +kernel
theorem d_M_mostBooks_36 : decode prog_14_method_143_code 36 = .ok (.istore_n 2, 1) := by decide +kernel
theorem d_M_mostBooks_37 : decode prog_14_method_143_code 37 = .ok (.iload_n 2, 1) := by decide +kernel
theorem d_M_mostBooks_38 : decode prog_14_method_143_code 38 = .ok (.sipush 256, 3) := by decide +kernel
theorem d_M_mostBooks_41 : decode prog_14_method_143_code 41 = .ok (.if_icmp .ge 97, 3) := by decide +kernel
theorem d_M_mostBooks_44 : decode prog_14_method_143_code 44 = .ok (.aload_n 0, 1) := by decide +kernel
theorem d_M_mostBooks_45 : decode prog_14_method_143_code 45 = .ok (.getfield 68, 3) := by decide +kernel
theorem d_M_mostBooks_48 : decode prog_14_method_143_code 48 = .ok (.sipush 256, 3) := by decide +kernel
theorem d_M_mostBooks_51 : decode prog_14_method_143_code 51 = .ok (.iload_n 1, 1) := by decide +kernel
theorem d_M_mostBooks_52 : decode prog_14_method_143_code 52 = .ok (.iconst 1, 1) := by decide +kernel
theorem d_M_mostBooks_53 : decode prog_14_method_143_code 53 = .ok (.iadd, 1) := by decide +kernel
theorem d_M_mostBooks_54 : decode prog_14_method_143_code 54 = .ok (.imul, 1) := by decide +kernel
theorem d_M_mostBooks_55 : decode prog_14_method_143_code 55 = .ok (.iload_n 2, 1) := by decide +kernel
theorem d_M_mostBooks_56 : decode prog_14_method_143_code 56 = .ok (.iadd, 1) := by decide +kernel
theorem d_M_mostBooks_57 : decode prog_14_method_143_code 57 = .ok (.iaload, 1) := by decide +kernel
theorem d_M_mostBooks_58 : decode prog_14_method_143_code 58 = .ok (.istore_n 3, 1) := by decide +kernel
theorem d_M_mostBooks_59 : decode prog_14_method_143_code 59 = .ok (.iconst 0, 1) := by decide +kernel
theorem d_M_mostBooks_60 : decode prog_14_method_143_code 60 = .ok (.istore 4, 2) := by decide +kernel
theorem d_M_mostBooks_62 : decode prog_14_method_143_code 62 = .ok (.iload 4, 2) := by decide +kernel
theorem d_M_mostBooks_64 : decode prog_14_method_143_code 64 = .ok (.bipush 8, 2) := by decide +kernel
theorem d_M_mostBooks_66 : decode prog_14_method_143_code 66 = .ok (.if_icmp .ge 53, 3) := by decide +kernel
theorem d_M_mostBooks_69 : decode prog_14_method_143_code 69 = .ok (.aload_n 0, 1) := by decide +kernel
theorem d_M_mostBooks_70 : decode prog_14_method_143_code 70 = .ok (.getfield 65, 3) := by decide +kernel
theorem d_M_mostBooks_73 : decode prog_14_method_143_code 73 = .ok (.iload_n 1, 1) := by decide +kernel
theorem d_M_mostBooks_74 : decode prog_14_method_143_code 74 = .ok (.iaload, 1) := by decide +kernel
theorem d_M_mostBooks_75 : decode prog_14_method_143_code 75 = .ok (.iload_n 2, 1) := by decide +kernel
theorem d_M_mostBooks_76 : decode prog_14_method_143_code 76 = .ok (.iand, 1) := by decide +kernel
theorem d_M_mostBooks_77 : decode prog_14_method_143_code 77 = .ok (.iload 4, 2) := by decide +kernel
theorem d_M_mostBooks_79 : decode prog_14_method_143_code 79 = .ok (.invokestatic 117, 3) := by decide +kernel
theorem d_M_mostBooks_82 : decode prog_14_method_143_code 82 = .ok (.ifCond .eq 31, 3) := by decide +kernel
theorem d_M_mostBooks_85 : decode prog_14_method_143_code 85 = .ok (.iload_n 3, 1) := by decide +kernel
theorem d_M_mostBooks_86 : decode prog_14_method_143_code 86 = .ok (.iconst 1, 1) := by decide +kernel
theorem d_M_mostBooks_87 : decode prog_14_method_143_code 87 = .ok (.aload_n 0, 1) := by decide +kernel
theorem d_M_mostBooks_88 : decode prog_14_method_143_code 88 = .ok (.getfield 68, 3) := by decide +kernel
theorem d_M_mostBooks_91 : decode prog_14_method_143_code 91 = .ok (.sipush 256, 3) := by decide +kernel
theorem d_M_mostBooks_94 : decode prog_14_method_143_code 94 = .ok (.iload_n 1, 1) := by decide +kernel
theorem d_M_mostBooks_95 : decode prog_14_method_143_code 95 = .ok (.iconst 1, 1) := by decide +kernel
theorem d_M_mostBooks_96 : decode prog_14_method_143_code 96 = .ok (.iadd, 1) := by decide +kernel
theorem d_M_mostBooks_97 : decode prog_14_method_143_code 97 = .ok (.imul, 1) := by decide +kernel
theorem d_M_mostBooks_98 : decode prog_14_method_143_code 98 = .ok (.iload_n 2, 1) := by decide +kernel
theorem d_M_mostBooks_99 : decode prog_14_method_143_code 99 = .ok (.iconst 1, 1) := by decide +kernel
theorem d_M_mostBooks_100 : decode prog_14_method_143_code 100 = .ok (.iload 4, 2) := by decide +kernel
theorem d_M_mostBooks_102 : decode prog_14_method_143_code 102 = .ok (.ishl, 1) := by decide +kernel
theorem d_M_mostBooks_103 : decode prog_14_method_143_code 103 = .ok (.iconst (-1), 1) := by decide +kernel
theorem d_M_mostBooks_104 : decode prog_14_method_143_code 104 = .ok (.ixor, 1) := by decide +kernel
theorem d_M_mostBooks_105 : decode prog_14_method_143_code 105 = .ok (.iand, 1) := by decide +kernel
theorem d_M_mostBooks_106 : decode prog_14_method_143_code 106 = .ok (.iadd, 1) := by decide +kernel
theorem d_M_mostBooks_107 : decode prog_14_method_143_code 107 = .ok (.iaload, 1) := by decide +kernel
theorem d_M_mostBooks_108 : decode prog_14_method_143_code 108 = .ok (.iadd, 1) := by decide +kernel
theorem d_M_mostBooks_109 : decode prog_14_method_143_code 109 = .ok (.invokestatic 286, 3) := by decide +kernel
theorem d_M_mostBooks_112 : decode prog_14_method_143_code 112 = .ok (.istore_n 3, 1) := by decide +kernel
theorem d_M_mostBooks_113 : decode prog_14_method_143_code 113 = .ok (.iinc 4 1, 3) := by decide +kernel
theorem d_M_mostBooks_116 : decode prog_14_method_143_code 116 = .ok (.goto (-54), 3) := by decide +kernel
theorem d_M_mostBooks_119 : decode prog_14_method_143_code 119 = .ok (.aload_n 0, 1) := by decide +kernel
theorem d_M_mostBooks_120 : decode prog_14_method_143_code 120 = .ok (.getfield 68, 3) := by decide +kernel
theorem d_M_mostBooks_123 : decode prog_14_method_143_code 123 = .ok (.sipush 256, 3) := by decide +kernel
theorem d_M_mostBooks_126 : decode prog_14_method_143_code 126 = .ok (.iload_n 1, 1) := by decide +kernel
theorem d_M_mostBooks_127 : decode prog_14_method_143_code 127 = .ok (.imul, 1) := by decide +kernel
theorem d_M_mostBooks_128 : decode prog_14_method_143_code 128 = .ok (.iload_n 2, 1) := by decide +kernel
theorem d_M_mostBooks_129 : decode prog_14_method_143_code 129 = .ok (.iadd, 1) := by decide +kernel
theorem d_M_mostBooks_130 : decode prog_14_method_143_code 130 = .ok (.iload_n 3, 1) := by decide +kernel
theorem d_M_mostBooks_131 : decode prog_14_method_143_code 131 = .ok (.iastore, 1) := by decide +kernel
theorem d_M_mostBooks_132 : decode prog_14_method_143_code 132 = .ok (.iinc 2 1, 3) := by decide +kernel
theorem d_M_mostBooks_135 : decode prog_14_method_143_code 135 = .ok (.goto (-98), 3) := by decide +kernel
theorem d_M_mostBooks_138 : decode prog_14_method_143_code 138 = .ok (.iinc 1 (-1), 3) := by decide +kernel
theorem d_M_mostBooks_141 : decode prog_14_method_143_code 141 = .ok (.goto (-110), 3) := by decide +kernel
theorem d_M_mostBooks_144 : decode prog_14_method_143_code 144 = .ok (.aload_n 0, 1) := by decide +kernel
theorem d_M_mostBooks_145 : decode prog_14_method_143_code 145 = .ok (.getfield 68, 3) := by decide +kernel
theorem d_M_mostBooks_148 : decode prog_14_method_143_code 148 = .ok (.sipush 255, 3) := by decide +kernel
theorem d_M_mostBooks_151 : decode prog_14_method_143_code 151 = .ok (.iaload, 1) := by decide +kernel
theorem d_M_mostBooks_152 : decode prog_14_method_143_code 152 = .ok (.ireturn, 1) := by decide +kernel
def M_mostBooks_L62 (Y : Ly) (l0 : Nat) (l1 : Int32) (l2 : Int32) (h : Hp) (k37 : Int32 → Hp → Option (Int32 × Hp)) : Nat → Int32 → Int32 → Option (Int32 × Hp)
  | 0, _, _ => none
  | F + 1, l3, l4 =>
    if 8 ≤ l4 then
      if inB ((256 * l1) + l2) (lnY Y (hGr h 1233 l0)) = true then
        letH (hTi h (hGr h 1233 l0) (Int32.toNatClampNeg ((256 * l1) + l2)) l3) fun h13 =>
        k37 (l2 + 1) h13
      else none
    else
      if inB l1 (lnY Y (hGr h 1232 l0)) = true then
        (M_has Y ((hAi h (hGr h 1232 l0) (Int32.toNatClampNeg l1)) &&& l2) l4 h).bind fun q16 =>
        if q16 = true then
          if inB ((256 * (l1 + 1)) + (l2 &&& (((1 : Int32) <<< (l4 &&& 31)) ^^^ (-1)))) (lnY Y (hGr h 1233 l0)) = true then
            M_mostBooks_L62 Y l0 l1 l2 h k37 F (if l3 < (1 + (hAi h (hGr h 1233 l0) (Int32.toNatClampNeg ((256 * (l1 + 1)) + (l2 &&& (((1 : Int32) <<< (l4 &&& 31)) ^^^ (-1))))))) then (1 + (hAi h (hGr h 1233 l0) (Int32.toNatClampNeg ((256 * (l1 + 1)) + (l2 &&& (((1 : Int32) <<< (l4 &&& 31)) ^^^ (-1))))))) else l3) (l4 + 1)
          else none
        else
          M_mostBooks_L62 Y l0 l1 l2 h k37 F l3 (l4 + 1)
      else none
theorem M_mostBooks_L62_ok (Y : Ly) (l0 : Nat) (l1 : Int32) (l2 : Int32) (h : Hp) (k37 : Int32 → Hp → Option (Int32 × Hp)) (tl0 : isO Y 12 l0) (hk37 : ∀ (l2_ : Int32) (h_ : Hp), AW Y 1 K_M_mostBooks 37 [(0, .ref l0), (1, .int l1), (2, .int l2_)] [] h_ (k37 l2_ h_) rI) : ∀ (F : Nat) (l3 : Int32) (l4 : Int32), AW Y 1 K_M_mostBooks 62 [(0, .ref l0), (1, .int l1), (2, .int l2), (3, .int l3), (4, .int l4)] [] h (M_mostBooks_L62 Y l0 l1 l2 h k37 F l3 l4) rI := by
  intro F
  induction F with
  | zero =>
    intro l3 l4
    exact aw_none
  | succ F ih =>
    intro l3 l4
    unfold M_mostBooks_L62
    refine aw_iload (pc := 62) d_M_mostBooks_62 4 rfl ?_
    refine aw_bipush (pc := 64) (x := 8) d_M_mostBooks_64 (by decide) ?_
    refine aw_icmp_ge (pc := 66) (tgt := 119) d_M_mostBooks_66 (by decide) (fun c10 => ?_) (fun c10 => ?_)
    · refine aw_aload_n (pc := 119) d_M_mostBooks_119 rfl 0 rfl ?_
      refine gt_1233 (pc := 120) d_M_mostBooks_120 w7_60 tl0 (fun tt11 => ?_)
      refine aw_sipush (pc := 123) (x := 256) d_M_mostBooks_123 (by decide) ?_
      refine aw_iload_n (pc := 126) d_M_mostBooks_126 rfl 1 rfl ?_
      refine aw_imul (pc := 127) d_M_mostBooks_127 ?_
      refine aw_iload_n (pc := 128) d_M_mostBooks_128 rfl 2 rfl ?_
      refine aw_iadd (pc := 129) d_M_mostBooks_129 ?_
      refine aw_iload_n (pc := 130) d_M_mostBooks_130 rfl 3 rfl ?_
      refine aw_iastore (pc := 131) d_M_mostBooks_131 tt11 (fun c12 => ?_)
      refine aw_letH (fun h13 => ?_)
      refine aw_iinc (pc := 132) (w := l2 + 1) (lv' := [(2, .int (l2 + 1)), (0, .ref l0), (1, .int l1), (3, .int l3), (4, .int l4)]) d_M_mostBooks_132 2 rfl rfl (by decide) rfl ?_
      refine aw_goto (pc := 135) (tgt := 37) d_M_mostBooks_135 (by decide) ?_
      exact aw_lv [1, 2, 0] rfl (hk37 (l2 + 1) h13)
    · refine aw_aload_n (pc := 69) d_M_mostBooks_69 rfl 0 rfl ?_
      refine gt_1232 (pc := 70) d_M_mostBooks_70 w7_59 tl0 (fun tt14 => ?_)
      refine aw_iload_n (pc := 73) d_M_mostBooks_73 rfl 1 rfl ?_
      refine aw_iaload (pc := 74) d_M_mostBooks_74 tt14 (fun c15 => ?_)
      refine aw_iload_n (pc := 75) d_M_mostBooks_75 rfl 2 rfl ?_
      refine aw_iand (pc := 76) d_M_mostBooks_76 ?_
      refine aw_iload (pc := 77) d_M_mostBooks_77 4 rfl ?_
      refine aw_cSpZ (pc := 79) (As := [.int ((hAi h (hGr h 1232 l0) (Int32.toNatClampNeg l1)) &&& l2), .int l4]) (st := []) (ok_M_has Y ((hAi h (hGr h 1232 l0) (Int32.toNatClampNeg l1)) &&& l2) l4 h) okS_M_has w9_110 d_M_mostBooks_79 rfl (Nat.le_of_ble_eq_true rfl) rfl (Nat.le_of_ble_eq_true rfl) (fun q16 hq16 hTq16 => ?_)
      refine aw_beq (pc := 82) (tgt := 113) d_M_mostBooks_82 (by decide) (fun c17 => ?_) (fun c17 => ?_)
      · refine aw_iload_n (pc := 85) d_M_mostBooks_85 rfl 3 rfl ?_
        refine aw_iconst (pc := 86) (x := 1) d_M_mostBooks_86 (by decide) ?_
        refine aw_aload_n (pc := 87) d_M_mostBooks_87 rfl 0 rfl ?_
        refine gt_1233 (pc := 88) d_M_mostBooks_88 w7_60 tl0 (fun tt18 => ?_)
        refine aw_sipush (pc := 91) (x := 256) d_M_mostBooks_91 (by decide) ?_
        refine aw_iload_n (pc := 94) d_M_mostBooks_94 rfl 1 rfl ?_
        refine aw_iconst (pc := 95) (x := 1) d_M_mostBooks_95 (by decide) ?_
        refine aw_iadd (pc := 96) d_M_mostBooks_96 ?_
        refine aw_imul (pc := 97) d_M_mostBooks_97 ?_
        refine aw_iload_n (pc := 98) d_M_mostBooks_98 rfl 2 rfl ?_
        refine aw_iconst (pc := 99) (x := 1) d_M_mostBooks_99 (by decide) ?_
        refine aw_iload (pc := 100) d_M_mostBooks_100 4 rfl ?_
        refine aw_ishl (pc := 102) d_M_mostBooks_102 ?_
        refine aw_iconst (pc := 103) (x := (-1)) d_M_mostBooks_103 (by decide) ?_
        refine aw_ixor (pc := 104) d_M_mostBooks_104 ?_
        refine aw_iand (pc := 105) d_M_mostBooks_105 ?_
        refine aw_iadd (pc := 106) d_M_mostBooks_106 ?_
        refine aw_iaload (pc := 107) d_M_mostBooks_107 tt18 (fun c19 => ?_)
        refine aw_iadd (pc := 108) d_M_mostBooks_108 ?_
        refine aw_mmax (pc := 109) d_M_mostBooks_109 w8_170 w2_66 w1_15 w2_67 (Nat.le_of_ble_eq_true rfl) (Nat.le_of_ble_eq_true rfl) ?_
        refine aw_istore_n (pc := 112) (lv' := [(3, .int (if l3 < (1 + (hAi h (hGr h 1233 l0) (Int32.toNatClampNeg ((256 * (l1 + 1)) + (l2 &&& (((1 : Int32) <<< (l4 &&& 31)) ^^^ (-1))))))) then (1 + (hAi h (hGr h 1233 l0) (Int32.toNatClampNeg ((256 * (l1 + 1)) + (l2 &&& (((1 : Int32) <<< (l4 &&& 31)) ^^^ (-1))))))) else l3)), (0, .ref l0), (1, .int l1), (2, .int l2), (4, .int l4)]) d_M_mostBooks_112 rfl (by decide) rfl ?_
        refine aw_iinc (pc := 113) (w := l4 + 1) (lv' := [(4, .int (l4 + 1)), (3, .int (if l3 < (1 + (hAi h (hGr h 1233 l0) (Int32.toNatClampNeg ((256 * (l1 + 1)) + (l2 &&& (((1 : Int32) <<< (l4 &&& 31)) ^^^ (-1))))))) then (1 + (hAi h (hGr h 1233 l0) (Int32.toNatClampNeg ((256 * (l1 + 1)) + (l2 &&& (((1 : Int32) <<< (l4 &&& 31)) ^^^ (-1))))))) else l3)), (0, .ref l0), (1, .int l1), (2, .int l2)]) d_M_mostBooks_113 4 rfl rfl (by decide) rfl ?_
        refine aw_goto (pc := 116) (tgt := 62) d_M_mostBooks_116 (by decide) ?_
        exact aw_lv [2, 3, 4, 1, 0] rfl (ih (if l3 < (1 + (hAi h (hGr h 1233 l0) (Int32.toNatClampNeg ((256 * (l1 + 1)) + (l2 &&& (((1 : Int32) <<< (l4 &&& 31)) ^^^ (-1))))))) then (1 + (hAi h (hGr h 1233 l0) (Int32.toNatClampNeg ((256 * (l1 + 1)) + (l2 &&& (((1 : Int32) <<< (l4 &&& 31)) ^^^ (-1))))))) else l3) (l4 + 1))
      · refine aw_iinc (pc := 113) (w := l4 + 1) (lv' := [(4, .int (l4 + 1)), (0, .ref l0), (1, .int l1), (2, .int l2), (3, .int l3)]) d_M_mostBooks_113 4 rfl rfl (by decide) rfl ?_
        refine aw_goto (pc := 116) (tgt := 62) d_M_mostBooks_116 (by decide) ?_
        exact aw_lv [1, 2, 3, 4, 0] rfl (ih l3 (l4 + 1))
def M_mostBooks_L37 (Y : Ly) (l0 : Nat) (l1 : Int32) (k31 : Int32 → Hp → Option (Int32 × Hp)) : Nat → Int32 → Hp → Option (Int32 × Hp)
  | 0, _, _ => none
  | F + 1, l2, h =>
    if 256 ≤ l2 then
      k31 (l1 + (-1)) h
    else
      if inB ((256 * (l1 + 1)) + l2) (lnY Y (hGr h 1233 l0)) = true then
        M_mostBooks_L62 Y l0 l1 l2 h (M_mostBooks_L37 Y l0 l1 k31 F) FU (hAi h (hGr h 1233 l0) (Int32.toNatClampNeg ((256 * (l1 + 1)) + l2))) 0
      else none
theorem M_mostBooks_L37_ok (Y : Ly) (l0 : Nat) (l1 : Int32) (k31 : Int32 → Hp → Option (Int32 × Hp)) (tl0 : isO Y 12 l0) (hk31 : ∀ (l1_ : Int32) (h_ : Hp), AW Y 1 K_M_mostBooks 31 [(0, .ref l0), (1, .int l1_)] [] h_ (k31 l1_ h_) rI) : ∀ (F : Nat) (l2 : Int32) (h : Hp), AW Y 1 K_M_mostBooks 37 [(0, .ref l0), (1, .int l1), (2, .int l2)] [] h (M_mostBooks_L37 Y l0 l1 k31 F l2 h) rI := by
  intro F
  induction F with
  | zero =>
    intro l2 h
    exact aw_none
  | succ F ih =>
    intro l2 h
    unfold M_mostBooks_L37
    refine aw_iload_n (pc := 37) d_M_mostBooks_37 rfl 2 rfl ?_
    refine aw_sipush (pc := 38) (x := 256) d_M_mostBooks_38 (by decide) ?_
    refine aw_icmp_ge (pc := 41) (tgt := 138) d_M_mostBooks_41 (by decide) (fun c7 => ?_) (fun c7 => ?_)
    · refine aw_iinc (pc := 138) (w := l1 + (-1)) (lv' := [(1, .int (l1 + (-1))), (0, .ref l0), (2, .int l2)]) d_M_mostBooks_138 1 rfl rfl (by decide) rfl ?_
      refine aw_goto (pc := 141) (tgt := 31) d_M_mostBooks_141 (by decide) ?_
      exact aw_lv [1, 0] rfl (hk31 (l1 + (-1)) h)
    · refine aw_aload_n (pc := 44) d_M_mostBooks_44 rfl 0 rfl ?_
      refine gt_1233 (pc := 45) d_M_mostBooks_45 w7_60 tl0 (fun tt8 => ?_)
      refine aw_sipush (pc := 48) (x := 256) d_M_mostBooks_48 (by decide) ?_
      refine aw_iload_n (pc := 51) d_M_mostBooks_51 rfl 1 rfl ?_
      refine aw_iconst (pc := 52) (x := 1) d_M_mostBooks_52 (by decide) ?_
      refine aw_iadd (pc := 53) d_M_mostBooks_53 ?_
      refine aw_imul (pc := 54) d_M_mostBooks_54 ?_
      refine aw_iload_n (pc := 55) d_M_mostBooks_55 rfl 2 rfl ?_
      refine aw_iadd (pc := 56) d_M_mostBooks_56 ?_
      refine aw_iaload (pc := 57) d_M_mostBooks_57 tt8 (fun c9 => ?_)
      refine aw_istore_n (pc := 58) (lv' := [(3, .int (hAi h (hGr h 1233 l0) (Int32.toNatClampNeg ((256 * (l1 + 1)) + l2)))), (0, .ref l0), (1, .int l1), (2, .int l2)]) d_M_mostBooks_58 rfl (by decide) rfl ?_
      refine aw_iconst (pc := 59) (x := 0) d_M_mostBooks_59 (by decide) ?_
      refine aw_istore (pc := 60) (lv' := [(4, .int 0), (3, .int (hAi h (hGr h 1233 l0) (Int32.toNatClampNeg ((256 * (l1 + 1)) + l2)))), (0, .ref l0), (1, .int l1), (2, .int l2)]) d_M_mostBooks_60 (by decide) rfl ?_
      exact aw_lv [2, 3, 4, 1, 0] rfl (M_mostBooks_L62_ok Y l0 l1 l2 h (M_mostBooks_L37 Y l0 l1 k31 F) tl0 ih FU (hAi h (hGr h 1233 l0) (Int32.toNatClampNeg ((256 * (l1 + 1)) + l2))) 0)
def M_mostBooks_L31 (Y : Ly) (l0 : Nat) : Nat → Int32 → Hp → Option (Int32 × Hp)
  | 0, _, _ => none
  | F + 1, l1, h =>
    if l1 < 0 then
      if inB 255 (lnY Y (hGr h 1233 l0)) = true then
        some (hAi h (hGr h 1233 l0) (Int32.toNatClampNeg 255), h)
      else none
    else
      M_mostBooks_L37 Y l0 l1 (M_mostBooks_L31 Y l0 F) FU 0 h
theorem M_mostBooks_L31_ok (Y : Ly) (l0 : Nat) (tl0 : isO Y 12 l0) : ∀ (F : Nat) (l1 : Int32) (h : Hp), AW Y 1 K_M_mostBooks 31 [(0, .ref l0), (1, .int l1)] [] h (M_mostBooks_L31 Y l0 F l1 h) rI := by
  intro F
  induction F with
  | zero =>
    intro l1 h
    exact aw_none
  | succ F ih =>
    intro l1 h
    unfold M_mostBooks_L31
    refine aw_iload_n (pc := 31) d_M_mostBooks_31 rfl 1 rfl ?_
    refine aw_if_lt (pc := 32) (tgt := 144) d_M_mostBooks_32 (by decide) (fun c4 => ?_) (fun c4 => ?_)
    · refine aw_aload_n (pc := 144) d_M_mostBooks_144 rfl 0 rfl ?_
      refine gt_1233 (pc := 145) d_M_mostBooks_145 w7_60 tl0 (fun tt5 => ?_)
      refine aw_sipush (pc := 148) (x := 255) d_M_mostBooks_148 (by decide) ?_
      refine aw_iaload (pc := 151) d_M_mostBooks_151 tt5 (fun c6 => ?_)
      exact aw_ireturn (pc := 152) d_M_mostBooks_152 rfl rfl
    · refine aw_iconst (pc := 35) (x := 0) d_M_mostBooks_35 (by decide) ?_
      refine aw_istore_n (pc := 36) (lv' := [(2, .int 0), (0, .ref l0), (1, .int l1)]) d_M_mostBooks_36 rfl (by decide) rfl ?_
      exact aw_lv [1, 2, 0] rfl (M_mostBooks_L37_ok Y l0 l1 (M_mostBooks_L31 Y l0 F) tl0 ih FU 0 h)
def M_mostBooks_L2 (Y : Ly) (l0 : Nat) : Nat → Int32 → Hp → Option (Int32 × Hp)
  | 0, _, _ => none
  | F + 1, l1, h =>
    if 1792 ≤ l1 then
      if inB 2 (lnY Y (hGr h 1220 l0)) = true then
        M_mostBooks_L31 Y l0 FU ((hAi h (hGr h 1220 l0) (Int32.toNatClampNeg 2)) - 1) h
      else none
    else
      if inB l1 (lnY Y (hGr h 1233 l0)) = true then
        letH (hTi h (hGr h 1233 l0) (Int32.toNatClampNeg l1) 0) fun h22 =>
        M_mostBooks_L2 Y l0 F (l1 + 1) h22
      else none
theorem M_mostBooks_L2_ok (Y : Ly) (l0 : Nat) (tl0 : isO Y 12 l0) : ∀ (F : Nat) (l1 : Int32) (h : Hp), AW Y 1 K_M_mostBooks 2 [(0, .ref l0), (1, .int l1)] [] h (M_mostBooks_L2 Y l0 F l1 h) rI := by
  intro F
  induction F with
  | zero =>
    intro l1 h
    exact aw_none
  | succ F ih =>
    intro l1 h
    unfold M_mostBooks_L2
    refine aw_iload_n (pc := 2) d_M_mostBooks_2 rfl 1 rfl ?_
    refine aw_sipush (pc := 3) (x := 1792) d_M_mostBooks_3 (by decide) ?_
    refine aw_icmp_ge (pc := 6) (tgt := 22) d_M_mostBooks_6 (by decide) (fun c1 => ?_) (fun c1 => ?_)
    · refine aw_aload_n (pc := 22) d_M_mostBooks_22 rfl 0 rfl ?_
      refine gt_1220 (pc := 23) d_M_mostBooks_23 w7_47 tl0 (fun tt2 => ?_)
      refine aw_iconst (pc := 26) (x := 2) d_M_mostBooks_26 (by decide) ?_
      refine aw_iaload (pc := 27) d_M_mostBooks_27 tt2 (fun c3 => ?_)
      refine aw_iconst (pc := 28) (x := 1) d_M_mostBooks_28 (by decide) ?_
      refine aw_isub (pc := 29) d_M_mostBooks_29 ?_
      refine aw_istore_n (pc := 30) (lv' := [(1, .int ((hAi h (hGr h 1220 l0) (Int32.toNatClampNeg 2)) - 1)), (0, .ref l0)]) d_M_mostBooks_30 rfl (by decide) rfl ?_
      exact aw_lv [1, 0] rfl (M_mostBooks_L31_ok Y l0 tl0 FU ((hAi h (hGr h 1220 l0) (Int32.toNatClampNeg 2)) - 1) h)
    · refine aw_aload_n (pc := 9) d_M_mostBooks_9 rfl 0 rfl ?_
      refine gt_1233 (pc := 10) d_M_mostBooks_10 w7_60 tl0 (fun tt20 => ?_)
      refine aw_iload_n (pc := 13) d_M_mostBooks_13 rfl 1 rfl ?_
      refine aw_iconst (pc := 14) (x := 0) d_M_mostBooks_14 (by decide) ?_
      refine aw_iastore (pc := 15) d_M_mostBooks_15 tt20 (fun c21 => ?_)
      refine aw_letH (fun h22 => ?_)
      refine aw_iinc (pc := 16) (w := l1 + 1) (lv' := [(1, .int (l1 + 1)), (0, .ref l0)]) d_M_mostBooks_16 1 rfl rfl (by decide) rfl ?_
      refine aw_goto (pc := 19) (tgt := 2) d_M_mostBooks_19 (by decide) ?_
      exact aw_lv [1, 0] rfl (ih (l1 + 1) h22)
def M_mostBooks (Y : Ly) (l0 : Nat) (h : Hp) : Option (Int32 × Hp) :=
  M_mostBooks_L2 Y l0 FU 0 h
theorem ok_M_mostBooks (Y : Ly) (l0 : Nat) (h : Hp) (t0 : isO Y 12 l0) : AM Y 1 K_M_mostBooks [.ref l0] h (M_mostBooks Y l0 h) rI := by
  refine AM.of rfl (Nat.le_of_ble_eq_true rfl) ?_
  show AW Y 1 K_M_mostBooks 0 [(0, .ref l0)] [] h (M_mostBooks Y l0 h) rI
  unfold M_mostBooks
  refine aw_iconst (pc := 0) (x := 0) d_M_mostBooks_0 (by decide) ?_
  refine aw_istore_n (pc := 1) (lv' := [(1, .int 0), (0, .ref l0)]) d_M_mostBooks_1 rfl (by decide) rfl ?_
  exact aw_lv [1, 0] rfl (M_mostBooks_L2_ok Y l0 t0 FU 0 h)
