/-! LastPagesModel.match()I -/
theorem d_M_match_0 : decode prog_14_method_144_code 0 = .ok (.aload_n 0, 1) := by decide +kernel
theorem d_M_match_1 : decode prog_14_method_144_code 1 = .ok (.iconst 0, 1) := by decide +kernel
theorem d_M_match_2 : decode prog_14_method_144_code 2 = .ok (.putfield 78, 3) := by decide +kernel
theorem d_M_match_5 : decode prog_14_method_144_code 5 = .ok (.aload_n 0, 1) := by decide +kernel
theorem d_M_match_6 : decode prog_14_method_144_code 6 = .ok (.iconst 0, 1) := by decide +kernel
theorem d_M_match_7 : decode prog_14_method_144_code 7 = .ok (.putfield 81, 3) := by decide +kernel
theorem d_M_match_10 : decode prog_14_method_144_code 10 = .ok (.aload_n 0, 1) := by decide +kernel
theorem d_M_match_11 : decode prog_14_method_144_code 11 = .ok (.invokevirtual 468, 3) := by decide +kernel
theorem d_M_match_14 : decode prog_14_method_144_code 14 = .ok (.aload_n 0, 1) := by decide +kernel
theorem d_M_match_15 : decode prog_14_method_144_code 15 = .ok (.invokevirtual 471, 3) := by decide +kernel
theorem d_M_match_18 : decode prog_14_method_144_code 18 = .ok (.ireturn, 1) := by decide +kernel
def M_match (Y : Ly) (l0 : Nat) (h : Hp) : Option (Int32 × Hp) :=
  letH (hSi h 1201 l0 0) fun h1 =>
  letH (hSi h1 1200 l0 0) fun h2 =>
  (M_laysFits Y l0 h2).bind fun q3 =>
  (M_mostBooks Y l0 q3).bind fun q4 =>
  some (q4.1, q4.2)
theorem ok_M_match (Y : Ly) (l0 : Nat) (h : Hp) (t0 : isO Y 12 l0) : AM Y 6 K_M_match [.ref l0] h (M_match Y l0 h) rI := by
  refine AM.of rfl (Nat.le_of_ble_eq_true rfl) ?_
  show AW Y 6 K_M_match 0 [(0, .ref l0)] [] h (M_match Y l0 h) rI
  unfold M_match
  refine aw_aload_n (pc := 0) d_M_match_0 rfl 0 rfl ?_
  refine aw_iconst (pc := 1) (x := 0) d_M_match_1 (by decide) ?_
  refine pt_1201 (pc := 2) d_M_match_2 w7_28 t0 ?_
  refine aw_letH (fun h1 => ?_)
  refine aw_aload_n (pc := 5) d_M_match_5 rfl 0 rfl ?_
  refine aw_iconst (pc := 6) (x := 0) d_M_match_6 (by decide) ?_
  refine pt_1200 (pc := 7) d_M_match_7 w7_27 t0 ?_
  refine aw_letH (fun h2 => ?_)
  refine aw_aload_n (pc := 10) d_M_match_10 rfl 0 rfl ?_
  refine aw_cVrV (pc := 11) (ci := 12) (T := TX12) (N := 44) (As := []) (st := []) (ok_M_laysFits Y l0 h2 t0) okV_M_laysFits rfl (by decide) t0 w10_0 d_M_match_11 rfl (Nat.le_of_ble_eq_true rfl) rfl (Nat.le_of_ble_eq_true rfl) (fun q3 hq3 hTq3 => ?_)
  refine aw_aload_n (pc := 14) d_M_match_14 rfl 0 rfl ?_
  refine aw_cVrI (pc := 15) (ci := 12) (T := TX12) (N := 44) (As := []) (st := []) (ok_M_mostBooks Y l0 q3 t0) okV_M_mostBooks rfl (by decide) t0 w10_4 d_M_match_15 rfl (Nat.le_of_ble_eq_true rfl) rfl (Nat.le_of_ble_eq_true rfl) (fun q4 hq4 hTq4 => ?_)
  exact aw_ireturn (pc := 18) d_M_match_18 rfl rfl
/-! LastPagesModel.may(II)I -/
theorem d_M_may_0 : decode prog_14_method_133_code 0 = .ok (.aload_n 0, 1) := by decide +kernel
theorem d_M_may_1 : decode prog_14_method_133_code 1 = .ok (.iconst 0, 1) := by decide +kernel
theorem d_M_may_2 : decode prog_14_method_133_code 2 = .ok (.putfield 78, 3) := by decide +kernel
theorem d_M_may_5 : decode prog_14_method_133_code 5 = .ok (.aload_n 0, 1) := by decide +kernel
theorem d_M_may_6 : decode prog_14_method_133_code 6 = .ok (.iconst 0, 1) := by decide +kernel
theorem d_M_may_7 : decode prog_14_method_133_code 7 = .ok (.putfield 81, 3) := by decide +kernel
theorem d_M_may_10 : decode prog_14_method_133_code 10 = .ok (.aload_n 0, 1) := by decide +kernel
theorem d_M_may_11 : decode prog_14_method_133_code 11 = .ok (.iload_n 1, 1) := by decide +kernel
theorem d_M_may_12 : decode prog_14_method_133_code 12 = .ok (.invokevirtual 382, 3) := by decide +kernel
theorem d_M_may_15 : decode prog_14_method_133_code 15 = .ok (.ifCond .ne 9, 3) := by decide +kernel
theorem d_M_may_18 : decode prog_14_method_133_code 18 = .ok (.aload_n 0, 1) := by decide +kernel
theorem d_M_may_19 : decode prog_14_method_133_code 19 = .ok (.iconst 2, 1) := by decide +kernel
theorem d_M_may_20 : decode prog_14_method_133_code 20 = .ok (.invokevirtual 367, 3) := by decide +kernel
theorem d_M_may_23 : decode prog_14_method_133_code 23 = .ok (.ireturn, 1) := by decide +kernel
theorem d_M_may_24 : decode prog_14_method_133_code 24 = .ok (.aload_n 0, 1) := by decide +kernel
theorem d_M_may_25 : decode prog_14_method_133_code 25 = .ok (.iload_n 1, 1) := by decide +kernel
theorem d_M_may_26 : decode prog_14_method_133_code 26 = .ok (.iload_n 2, 1) := by decide +kernel
theorem d_M_may_27 : decode prog_14_method_133_code 27 = .ok (.invokevirtual 441, 3) := by decide +kernel
theorem d_M_may_30 : decode prog_14_method_133_code 30 = .ok (.ifCond .ne 9, 3) := by decide +kernel
theorem d_M_may_33 : decode prog_14_method_133_code 33 = .ok (.aload_n 0, 1) := by decide +kernel
theorem d_M_may_34 : decode prog_14_method_133_code 34 = .ok (.iconst 5, 1) := by decide +kernel
theorem d_M_may_35 : decode prog_14_method_133_code 35 = .ok (.invokevirtual 367, 3) := by decide +kernel
theorem d_M_may_38 : decode prog_14_method_133_code 38 = .ok (.ireturn, 1) := by decide +kernel
theorem d_M_may_39 : decode prog_14_method_133_code 39 = .ok (.aload_n 0, 1) := by decide +kernel
theorem d_M_may_40 : decode prog_14_method_133_code 40 = .ok (.iload_n 1, 1) := by decide +kernel
theorem d_M_may_41 : decode prog_14_method_133_code 41 = .ok (.invokevirtual 446, 3) := by decide +kernel
theorem d_M_may_44 : decode prog_14_method_133_code 44 = .ok (.iconst 0, 1) := by decide +kernel
theorem d_M_may_45 : decode prog_14_method_133_code 45 = .ok (.istore_n 3, 1) := by decide +kernel
theorem d_M_may_46 : decode prog_14_method_133_code 46 = .ok (.iconst 0, 1) := by decide +kernel
theorem d_M_may_47 : decode prog_14_method_133_code 47 = .ok (.istore 4, 2) := by decide +kernel
theorem d_M_may_49 : decode prog_14_method_133_code 49 = .ok (.iload 4, 2) := by decide +kernel
theorem d_M_may_51 : decode prog_14_method_133_code 51 = .ok (.aload_n 0, 1) := by decide +kernel
theorem d_M_may_52 : decode prog_14_method_133_code 52 = .ok (.getfield 35, 3) := by decide +kernel
theorem d_M_may_55 : decode prog_14_method_133_code 55 = .ok (.iconst 1, 1) := by decide +kernel
theorem d_M_may_56 : decode prog_14_method_133_code 56 = .ok (.iaload, 1) := by decide +kernel
theorem d_M_may_57 : decode prog_14_method_133_code 57 = .ok (.if_icmp .ge 37, 3) := by decide +kernel
theorem d_M_may_60 : decode prog_14_method_133_code 60 = .ok (.iload_n 3, 1) := by decide +kernel
theorem d_M_may_61 : decode prog_14_method_133_code 61 = .ok (.aload_n 0, 1) := by decide +kernel
theorem d_M_may_62 : decode prog_14_method_133_code 62 = .ok (.getfield 47, 3) := by decide +kernel
theorem d_M_may_65 : decode prog_14_method_133_code 65 = .ok (.bipush 8, 2) := by decide +kernel
theorem d_M_may_67 : decode prog_14_method_133_code 67 = .ok (.iload_n 2, 1) := by decide +kernel
theorem d_M_may_68 : decode prog_14_method_133_code 68 = .ok (.imul, 1) := by decide +kernel
theorem d_M_may_69 : decode prog_14_method_133_code 69 = .ok (.iload 4, 2) := by decide +kernel
theorem d_M_may_71 : decode prog_14_method_133_code 71 = .ok (.iadd, 1) := by decide +kernel
theorem d_M_may_72 : decode prog_14_method_133_code 72 = .ok (.laload, 1) := by decide +kernel
theorem d_M_may_73 : decode prog_14_method_133_code 73 = .ok (.lconst 0, 1) := by decide +kernel
theorem d_M_may_74 : decode prog_14_method_133_code 74 = .ok (.lcmp, 1) := by decide +kernel
theorem d_M_may_75 : decode prog_14_method_133_code 75 = .ok (.ifCond .le 10, 3) := by decide +kernel
theorem d_M_may_78 : decode prog_14_method_133_code 78 = .ok (.iconst 1, 1) := by decide +kernel
theorem d_M_may_79 : decode prog_14_method_133_code 79 = .ok (.iload 4, 2) := by decide +kernel
theorem d_M_may_81 : decode prog_14_method_133_code 81 = .ok (.ishl, 1) := by decide +kernel
theorem d_M_may_82 : decode prog_14_method_133_code 82 = .ok (.goto 4, 3) := by decide +kernel
theorem d_M_may_85 : decode prog_14_method_133_code 85 = .ok (.iconst 0, 1) := by decide +kernel
theorem d_M_may_86 : decode prog_14_method_133_code 86 = .ok (.ior, 1) := by decide +kernel
theorem d_M_may_87 : decode prog_14_method_133_code 87 = .ok (.istore_n 3, 1) := by decide +kernel
theorem d_M_may_88 : decode prog_14_method_133_code 88 = .ok (.iinc 4 1, 3) := by decide +kernel
theorem d_M_may_91 : decode prog_14_method_133_code 91 = .ok (.goto (-42), 3) := by decide +kernel
theorem d_M_may_94 : decode prog_14_method_133_code 94 = .ok (.iload_n 3, 1) := by decide +kernel
theorem d_M_may_95 : decode prog_14_method_133_code 95 = .ok (.ireturn, 1) := by decide +kernel
def M_may_L49 (Y : Ly) (l0 : Nat) (l2 : Int32) (h : Hp) : Nat → Int32 → Int32 → Option (Int32 × Hp)
  | 0, _, _ => none
  | F + 1, l3, l4 =>
    if inB 1 (lnY Y (hGr h 1220 l0)) = true then
      if (hAi h (hGr h 1220 l0) (Int32.toNatClampNeg 1)) ≤ l4 then
        some (l3, h)
      else
        if inB ((8 * l2) + l4) (lnY Y (hGr h 1226 l0)) = true then
          if (hAl h (hGr h 1226 l0) (Int32.toNatClampNeg ((8 * l2) + l4))) ≤ 0 then
            M_may_L49 Y l0 l2 h F (l3 ||| 0) (l4 + 1)
          else
            M_may_L49 Y l0 l2 h F (l3 ||| ((1 : Int32) <<< (l4 &&& 31))) (l4 + 1)
        else none
    else none
theorem M_may_L49_ok (Y : Ly) (l0 : Nat) (l2 : Int32) (h : Hp) (tl0 : isO Y 12 l0) : ∀ (F : Nat) (l3 : Int32) (l4 : Int32), AW Y 4 K_M_may 49 [(0, .ref l0), (2, .int l2), (3, .int l3), (4, .int l4)] [] h (M_may_L49 Y l0 l2 h F l3 l4) rI := by
  intro F
  induction F with
  | zero =>
    intro l3 l4
    exact aw_none
  | succ F ih =>
    intro l3 l4
    unfold M_may_L49
    refine aw_iload (pc := 49) d_M_may_49 3 rfl ?_
    refine aw_aload_n (pc := 51) d_M_may_51 rfl 0 rfl ?_
    refine gt_1220 (pc := 52) d_M_may_52 w7_47 tl0 (fun tt8 => ?_)
    refine aw_iconst (pc := 55) (x := 1) d_M_may_55 (by decide) ?_
    refine aw_iaload (pc := 56) d_M_may_56 tt8 (fun c9 => ?_)
    refine aw_icmp_ge (pc := 57) (tgt := 94) d_M_may_57 (by decide) (fun c10 => ?_) (fun c10 => ?_)
    · refine aw_iload_n (pc := 94) d_M_may_94 rfl 2 rfl ?_
      exact aw_ireturn (pc := 95) d_M_may_95 rfl rfl
    · refine aw_iload_n (pc := 60) d_M_may_60 rfl 2 rfl ?_
      refine aw_aload_n (pc := 61) d_M_may_61 rfl 0 rfl ?_
      refine gt_1226 (pc := 62) d_M_may_62 w7_53 tl0 (fun tt11 => ?_)
      refine aw_bipush (pc := 65) (x := 8) d_M_may_65 (by decide) ?_
      refine aw_iload_n (pc := 67) d_M_may_67 rfl 1 rfl ?_
      refine aw_imul (pc := 68) d_M_may_68 ?_
      refine aw_iload (pc := 69) d_M_may_69 3 rfl ?_
      refine aw_iadd (pc := 71) d_M_may_71 ?_
      refine aw_laload (pc := 72) d_M_may_72 tt11 (fun c12 => ?_)
      refine aw_lconst (pc := 73) (x := 0) d_M_may_73 (by decide) ?_
      refine aw_lcmp_le (pc := 74) (tgt := 85) d_M_may_74 d_M_may_75 (by decide) (fun c13 => ?_) (fun c13 => ?_)
      · refine aw_iconst (pc := 85) (x := 0) d_M_may_85 (by decide) ?_
        refine aw_ior (pc := 86) d_M_may_86 ?_
        refine aw_istore_n (pc := 87) (lv' := [(3, .int (l3 ||| 0)), (0, .ref l0), (2, .int l2), (4, .int l4)]) d_M_may_87 rfl (by decide) rfl ?_
        refine aw_iinc (pc := 88) (w := l4 + 1) (lv' := [(4, .int (l4 + 1)), (3, .int (l3 ||| 0)), (0, .ref l0), (2, .int l2)]) d_M_may_88 3 rfl rfl (by decide) rfl ?_
        refine aw_goto (pc := 91) (tgt := 49) d_M_may_91 (by decide) ?_
        exact aw_lv [2, 3, 1, 0] rfl (ih (l3 ||| 0) (l4 + 1))
      · refine aw_iconst (pc := 78) (x := 1) d_M_may_78 (by decide) ?_
        refine aw_iload (pc := 79) d_M_may_79 3 rfl ?_
        refine aw_ishl (pc := 81) d_M_may_81 ?_
        refine aw_goto (pc := 82) (tgt := 86) d_M_may_82 (by decide) ?_
        refine aw_ior (pc := 86) d_M_may_86 ?_
        refine aw_istore_n (pc := 87) (lv' := [(3, .int (l3 ||| ((1 : Int32) <<< (l4 &&& 31)))), (0, .ref l0), (2, .int l2), (4, .int l4)]) d_M_may_87 rfl (by decide) rfl ?_
        refine aw_iinc (pc := 88) (w := l4 + 1) (lv' := [(4, .int (l4 + 1)), (3, .int (l3 ||| ((1 : Int32) <<< (l4 &&& 31)))), (0, .ref l0), (2, .int l2)]) d_M_may_88 3 rfl rfl (by decide) rfl ?_
        refine aw_goto (pc := 91) (tgt := 49) d_M_may_91 (by decide) ?_
        exact aw_lv [2, 3, 1, 0] rfl (ih (l3 ||| ((1 : Int32) <<< (l4 &&& 31))) (l4 + 1))
def M_may (Y : Ly) (l0 : Nat) (l1 : Int32) (l2 : Int32) (h : Hp) : Option (Int32 × Hp) :=
  letH (hSi h 1201 l0 0) fun h1 =>
  letH (hSi h1 1200 l0 0) fun h2 =>
  (M_isBookAt Y l0 l1 h2).bind fun q3 =>
  if q3 = true then
    (M_isPlace Y l0 l1 l2 h2).bind fun q5 =>
    if q5 = true then
      (M_laysTurns Y l0 l1 h2).bind fun q7 =>
      M_may_L49 Y l0 l2 q7 FU 0 0
    else
      (M_refuse Y l0 5 h2).bind fun q14 =>
      some (q14.1, q14.2)
  else
    (M_refuse Y l0 2 h2).bind fun q15 =>
    some (q15.1, q15.2)
theorem ok_M_may (Y : Ly) (l0 : Nat) (l1 : Int32) (l2 : Int32) (h : Hp) (t0 : isO Y 12 l0) : AM Y 4 K_M_may [.ref l0, .int l1, .int l2] h (M_may Y l0 l1 l2 h) rI := by
  refine AM.of rfl (Nat.le_of_ble_eq_true rfl) ?_
  show AW Y 4 K_M_may 0 [(0, .ref l0), (1, .int l1), (2, .int l2)] [] h (M_may Y l0 l1 l2 h) rI
  unfold M_may
  refine aw_aload_n (pc := 0) d_M_may_0 rfl 0 rfl ?_
  refine aw_iconst (pc := 1) (x := 0) d_M_may_1 (by decide) ?_
  refine pt_1201 (pc := 2) d_M_may_2 w7_28 t0 ?_
  refine aw_letH (fun h1 => ?_)
  refine aw_aload_n (pc := 5) d_M_may_5 rfl 0 rfl ?_
  refine aw_iconst (pc := 6) (x := 0) d_M_may_6 (by decide) ?_
  refine pt_1200 (pc := 7) d_M_may_7 w7_27 t0 ?_
  refine aw_letH (fun h2 => ?_)
  refine aw_aload_n (pc := 10) d_M_may_10 rfl 0 rfl ?_
  refine aw_iload_n (pc := 11) d_M_may_11 rfl 1 rfl ?_
  refine aw_cVpZ (pc := 12) (ci := 12) (T := TX12) (N := 44) (As := [.int l1]) (st := []) (ok_M_isBookAt Y l0 l1 h2 t0) okV_M_isBookAt rfl (by decide) t0 w9_40 d_M_may_12 rfl (Nat.le_of_ble_eq_true rfl) rfl (Nat.le_of_ble_eq_true rfl) (fun q3 hq3 hTq3 => ?_)
  refine aw_bne (pc := 15) (tgt := 24) d_M_may_15 (by decide) (fun c4 => ?_) (fun c4 => ?_)
  · refine aw_aload_n (pc := 24) d_M_may_24 rfl 0 rfl ?_
    refine aw_iload_n (pc := 25) d_M_may_25 rfl 1 rfl ?_
    refine aw_iload_n (pc := 26) d_M_may_26 rfl 2 rfl ?_
    refine aw_cVpZ (pc := 27) (ci := 12) (T := TX12) (N := 44) (As := [.int l1, .int l2]) (st := []) (ok_M_isPlace Y l0 l1 l2 h2 t0) okV_M_isPlace rfl (by decide) t0 w9_175 d_M_may_27 rfl (Nat.le_of_ble_eq_true rfl) rfl (Nat.le_of_ble_eq_true rfl) (fun q5 hq5 hTq5 => ?_)
    refine aw_bne (pc := 30) (tgt := 39) d_M_may_30 (by decide) (fun c6 => ?_) (fun c6 => ?_)
    · refine aw_aload_n (pc := 39) d_M_may_39 rfl 0 rfl ?_
      refine aw_iload_n (pc := 40) d_M_may_40 rfl 1 rfl ?_
      refine aw_cVrV (pc := 41) (ci := 12) (T := TX12) (N := 44) (As := [.int l1]) (st := []) (ok_M_laysTurns Y l0 l1 h2 t0) okV_M_laysTurns rfl (by decide) t0 w9_184 d_M_may_41 rfl (Nat.le_of_ble_eq_true rfl) rfl (Nat.le_of_ble_eq_true rfl) (fun q7 hq7 hTq7 => ?_)
      refine aw_iconst (pc := 44) (x := 0) d_M_may_44 (by decide) ?_
      refine aw_istore_n (pc := 45) (lv' := [(3, .int 0), (0, .ref l0), (1, .int l1), (2, .int l2)]) d_M_may_45 rfl (by decide) rfl ?_
      refine aw_iconst (pc := 46) (x := 0) d_M_may_46 (by decide) ?_
      refine aw_istore (pc := 47) (lv' := [(4, .int 0), (3, .int 0), (0, .ref l0), (1, .int l1), (2, .int l2)]) d_M_may_47 (by decide) rfl ?_
      exact aw_lv [2, 4, 1, 0] rfl (M_may_L49_ok Y l0 l2 q7 t0 FU 0 0)
    · refine aw_aload_n (pc := 33) d_M_may_33 rfl 0 rfl ?_
      refine aw_iconst (pc := 34) (x := 5) d_M_may_34 (by decide) ?_
      refine aw_cVrI (pc := 35) (ci := 12) (T := TX12) (N := 44) (As := [.int 5]) (st := []) (ok_M_refuse Y l0 5 h2 t0) okV_M_refuse rfl (by decide) t0 w9_8 d_M_may_35 rfl (Nat.le_of_ble_eq_true rfl) rfl (Nat.le_of_ble_eq_true rfl) (fun q14 hq14 hTq14 => ?_)
      exact aw_ireturn (pc := 38) d_M_may_38 rfl rfl
  · refine aw_aload_n (pc := 18) d_M_may_18 rfl 0 rfl ?_
    refine aw_iconst (pc := 19) (x := 2) d_M_may_19 (by decide) ?_
    refine aw_cVrI (pc := 20) (ci := 12) (T := TX12) (N := 44) (As := [.int 2]) (st := []) (ok_M_refuse Y l0 2 h2 t0) okV_M_refuse rfl (by decide) t0 w9_8 d_M_may_20 rfl (Nat.le_of_ble_eq_true rfl) rfl (Nat.le_of_ble_eq_true rfl) (fun q15 hq15 hTq15 => ?_)
    exact aw_ireturn (pc := 23) d_M_may_23 rfl rfl
/-! LastPagesModel.mean(II)Z -/
theorem d_M_mean_0 : decode prog_14_method_181_code 0 = .ok (.aload_n 0, 1) := by decide +kernel
theorem d_M_mean_1 : decode prog_14_method_181_code 1 = .ok (.iconst 0, 1) := by decide +kernel
theorem d_M_mean_2 : decode prog_14_method_181_code 2 = .ok (.putfield 78, 3) := by decide +kernel
theorem d_M_mean_5 : decode prog_14_method_181_code 5 = .ok (.aload_n 0, 1) := by decide +kernel
theorem d_M_mean_6 : decode prog_14_method_181_code 6 = .ok (.iconst 0, 1) := by decide +kernel
theorem d_M_mean_7 : decode prog_14_method_181_code 7 = .ok (.putfield 81, 3) := by decide +kernel
theorem d_M_mean_10 : decode prog_14_method_181_code 10 = .ok (.iload_n 2, 1) := by decide +kernel
theorem d_M_mean_11 : decode prog_14_method_181_code 11 = .ok (.i2l, 1) := by decide +kernel
theorem d_M_mean_12 : decode prog_14_method_181_code 12 = .ok (.lconst 1, 1) := by decide +kernel
theorem d_M_mean_13 : decode prog_14_method_181_code 13 = .ok (.ldc2_w 572, 3) := by decide +kernel
theorem d_M_mean_16 : decode prog_14_method_181_code 16 = .ok (.invokestatic 113, 3) := by decide +kernel
theorem d_M_mean_19 : decode prog_14_method_181_code 19 = .ok (.ifCond .eq 18, 3) := by decide +kernel
theorem d_M_mean_22 : decode prog_14_method_181_code 22 = .ok (.iload_n 1, 1) := by decide +kernel
theorem d_M_mean_23 : decode prog_14_method_181_code 23 = .ok (.i2l, 1) := by decide +kernel
theorem d_M_mean_24 : decode prog_14_method_181_code 24 = .ok (.lconst 0, 1) := by decide +kernel
theorem d_M_mean_25 : decode prog_14_method_181_code 25 = .ok (.sipush 10000, 3) := by decide +kernel
theorem d_M_mean_28 : decode prog_14_method_181_code 28 = .ok (.iload_n 2, 1) := by decide +kernel
theorem d_M_mean_29 : decode prog_14_method_181_code 29 = .ok (.isub, 1) := by decide +kernel
theorem d_M_mean_30 : decode prog_14_method_181_code 30 = .ok (.i2l, 1) := by decide +kernel
theorem d_M_mean_31 : decode prog_14_method_181_code 31 = .ok (.invokestatic 113, 3) := by decide +kernel
theorem d_M_mean_34 : decode prog_14_method_181_code 34 = .ok (.ifCond .ne 9, 3) := by decide +kernel
theorem d_M_mean_37 : decode prog_14_method_181_code 37 = .ok (.aload_n 0, 1) := by decide +kernel
theorem d_M_mean_38 : decode prog_14_method_181_code 38 = .ok (.iconst 5, 1) := by decide +kernel
theorem d_M_mean_39 : decode prog_14_method_181_code 39 = .ok (.invokevirtual 93, 3) := by decide +kernel
theorem d_M_mean_42 : decode prog_14_method_181_code 42 = .ok (.ireturn, 1) := by decide +kernel
theorem d_M_mean_43 : decode prog_14_method_181_code 43 = .ok (.aload_n 0, 1) := by decide +kernel
theorem d_M_mean_44 : decode prog_14_method_181_code 44 = .ok (.getfield 35, 3) := by decide +kernel
theorem d_M_mean_47 : decode prog_14_method_181_code 47 = .ok (.sipush 304, 3) := by decide +kernel
theorem d_M_mean_50 : decode prog_14_method_181_code 50 = .ok (.iaload, 1) := by decide +kernel
theorem d_M_mean_51 : decode prog_14_method_181_code 51 = .ok (.ifCond .ne 10, 3) := by decide +kernel
theorem d_M_mean_54 : decode prog_14_method_181_code 54 = .ok (.aload_n 0, 1) := by decide +kernel
theorem d_M_mean_55 : decode prog_14_method_181_code 55 = .ok (.bipush 8, 2) := by decide +kernel
theorem d_M_mean_57 : decode prog_14_method_181_code 57 = .ok (.invokevirtual 93, 3) := by decide +kernel
theorem d_M_mean_60 : decode prog_14_method_181_code 60 = .ok (.ireturn, 1) := by decide +kernel
theorem d_M_mean_61 : decode prog_14_method_181_code 61 = .ok (.iconst 0, 1) := by decide +kernel
theorem d_M_mean_62 : decode prog_14_method_181_code 62 = .ok (.istore_n 3, 1) := by decide +kernel
theorem d_M_mean_63 : decode prog_14_method_181_code 63 = .ok (.iload_n 3, 1) := by decide +kernel
theorem d_M_mean_64 : decode prog_14_method_181_code 64 = .ok (.sipush 304, 3) := by decide +kernel
theorem d_M_mean_67 : decode prog_14_method_181_code 67 = .ok (.if_icmp .ge 21, 3) := by decide +kernel
theorem d_M_mean_70 : decode prog_14_method_181_code 70 = .ok (.aload_n 0, 1) := by decide +kernel
theorem d_M_mean_71 : decode prog_14_method_181_code 71 = .ok (.getfield 38, 3) := by decide +kernel
theorem d_M_mean_74 : decode prog_14_method_181_code 74 = .ok (.iload_n 3, 1) := by decide +kernel
theorem d_M_mean_75 : decode prog_14_method_181_code 75 = .ok (.aload_n 0, 1) := by decide +kernel
theorem d_M_mean_76 : decode prog_14_method_181_code 76 = .ok (.getfield 35, 3) := by decide +kernel
theorem d_M_mean_79 : decode prog_14_method_181_code 79 = .ok (.iload_n 3, 1) := by decide +kernel
theorem d_M_mean_80 : decode prog_14_method_181_code 80 = .ok (.iaload, 1) := by decide +kernel
theorem d_M_mean_81 : decode prog_14_method_181_code 81 = .ok (.iastore, 1) := by decide +kernel
theorem d_M_mean_82 : decode prog_14_method_181_code 82 = .ok (.iinc 3 1, 3) := by decide +kernel
theorem d_M_mean_85 : decode prog_14_method_181_code 85 = .ok (.goto (-22), 3) := by decide +kernel
theorem d_M_mean_88 : decode prog_14_method_181_code 88 = .ok (.lconst 0, 1) := by decide +kernel
theorem d_M_mean_89 : decode prog_14_method_181_code 89 = .ok (.lstore_n 3, 1) := by decide +kernel
theorem d_M_mean_90 : decode prog_14_method_181_code 90 = .ok (.iconst 0, 1) := by decide +kernel
theorem d_M_mean_91 : decode prog_14_method_181_code 91 = .ok (.istore 5, 2) := by decide +kernel
theorem d_M_mean_93 : decode prog_14_method_181_code 93 = .ok (.iload 5, 2) := by decide +kernel
theorem d_M_mean_95 : decode prog_14_method_181_code 95 = .ok (.iload_n 2, 1) := by decide +kernel
theorem d_M_mean_96 : decode prog_14_method_181_code 96 = .ok (.if_icmp .ge 59, 3) := by decide +kernel
theorem d_M_mean_99 : decode prog_14_method_181_code 99 = .ok (.aload_n 0, 1) := by decide +kernel
theorem d_M_mean_100 : decode prog_14_method_181_code 100 = .ok (.iload_n 1, 1) := by decide +kernel
theorem d_M_mean_101 : decode prog_14_method_181_code 101 = .ok (.iload 5, 2) := by decide +kernel
theorem d_M_mean_103 : decode prog_14_method_181_code 103 = .ok (.iadd, 1) := by decide +kernel
theorem d_M_mean_104 : decode prog_14_method_181_code 104 = .ok (.invokevirtual 564, 3) := by decide +kernel
theorem d_M_mean_107 : decode prog_14_method_181_code 107 = .ok (.lload_n 3, 1) := by decide +kernel
theorem d_M_mean_108 : decode prog_14_method_181_code 108 = .ok (.aload_n 0, 1) := by decide +kernel
theorem d_M_mean_109 : decode prog_14_method_181_code 109 = .ok (.invokevirtual 373, 3) := by decide +kernel
theorem d_M_mean_112 : decode prog_14_method_181_code 112 = .ok (.invokestatic 480, 3) := by decide +kernel
theorem d_M_mean_115 : decode prog_14_method_181_code 115 = .ok (.i2l, 1) := by decide +kernel
theorem d_M_mean_116 : decode prog_14_method_181_code 116 = .ok (.ladd, 1) := by decide +kernel
theorem d_M_mean_117 : decode prog_14_method_181_code 117 = .ok (.lstore_n 3, 1) := by decide +kernel
theorem d_M_mean_118 : decode prog_14_method_181_code 118 = .ok (.iconst 0, 1) := by decide +kernel
theorem d_M_mean_119 : decode prog_14_method_181_code 119 = .ok (.istore 6, 2) := by decide +kernel
theorem d_M_mean_121 : decode prog_14_method_181_code 121 = .ok (.iload 6, 2) := by decide +kernel
theorem d_M_mean_123 : decode prog_14_method_181_code 123 = .ok (.sipush 304, 3) := by decide +kernel
theorem d_M_mean_126 : decode prog_14_method_181_code 126 = .ok (.if_icmp .ge 23, 3) := by decide +kernel
theorem d_M_mean_129 : decode prog_14_method_181_code 129 = .ok (.aload_n 0, 1) := by decide +kernel
theorem d_M_mean_130 : decode prog_14_method_181_code 130 = .ok (.getfield 35, 3) := by decide +kernel
theorem d_M_mean_133 : decode prog_14_method_181_code 133 = .ok (.iload 6, 2) := by decide +kernel
theorem d_M_mean_135 : decode prog_14_method_181_code 135 = .ok (.aload_n 0, 1) := by decide +kernel
theorem d_M_mean_136 : decode prog_14_method_181_code 136 = .ok (.getfield 38, 3) := by decide +kernel
theorem d_M_mean_139 : decode prog_14_method_181_code 139 = .ok (.iload 6, 2) := by decide +kernel
theorem d_M_mean_141 : decode prog_14_method_181_code 141 = .ok (.iaload, 1) := by decide +kernel
theorem d_M_mean_142 : decode prog_14_method_181_code 142 = .ok (.iastore, 1) := by decide +kernel
theorem d_M_mean_143 : decode prog_14_method_181_code 143 = .ok (.iinc 6 1, 3) := by decide +kernel
theorem d_M_mean_146 : decode prog_14_method_181_code 146 = .ok (.goto (-25), 3) := by decide +kernel
theorem d_M_mean_149 : decode prog_14_method_181_code 149 = .ok (.iinc 5 1, 3) := by decide +kernel
theorem d_M_mean_152 : decode prog_14_method_181_code 152 = .ok (.goto (-59), 3) := by decide +kernel
theorem d_M_mean_155 : decode prog_14_method_181_code 155 = .ok (.aload_n 0, 1) := by decide +kernel
theorem d_M_mean_156 : decode prog_14_method_181_code 156 = .ok (.lload_n 3, 1) := by decide +kernel
theorem d_M_mean_157 : decode prog_14_method_181_code 157 = .ok (.iload_n 2, 1) := by decide +kernel
theorem d_M_mean_158 : decode prog_14_method_181_code 158 = .ok (.i2l, 1) := by decide +kernel
theorem d_M_mean_159 : decode prog_14_method_181_code 159 = .ok (.invokevirtual 452, 3) := by decide +kernel
theorem d_M_mean_162 : decode prog_14_method_181_code 162 = .ok (.ireturn, 1) := by decide +kernel
def M_mean_L121 (Y : Ly) (l0 : Nat) (l1 : Int32) (l2 : Int32) (l3 : Int64) (l5 : Int32) (k93 : Int64 → Int32 → Hp → Option (Bool × Hp)) : Nat → Int32 → Hp → Option (Bool × Hp)
  | 0, _, _ => none
  | F + 1, l6, h =>
    if 304 ≤ l6 then
      k93 l3 (l5 + 1) h
    else
      if inB l6 (lnY Y (hGr h 1221 l0)) = true then
        if inB l6 (lnY Y (hGr h 1220 l0)) = true then
          letH (hTi h (hGr h 1220 l0) (Int32.toNatClampNeg l6) (hAi h (hGr h 1221 l0) (Int32.toNatClampNeg l6))) fun h22 =>
          M_mean_L121 Y l0 l1 l2 l3 l5 k93 F (l6 + 1) h22
        else none
      else none
theorem M_mean_L121_ok (Y : Ly) (l0 : Nat) (l1 : Int32) (l2 : Int32) (l3 : Int64) (l5 : Int32) (k93 : Int64 → Int32 → Hp → Option (Bool × Hp)) (tl0 : isO Y 12 l0) (hk93 : ∀ (l3_ : Int64) (l5_ : Int32) (h_ : Hp), AW Y 24 K_M_mean 93 [(0, .ref l0), (1, .int l1), (2, .int l2), (3, .long l3_), (5, .int l5_)] [] h_ (k93 l3_ l5_ h_) rZ) : ∀ (F : Nat) (l6 : Int32) (h : Hp), AW Y 24 K_M_mean 121 [(0, .ref l0), (1, .int l1), (2, .int l2), (3, .long l3), (5, .int l5), (6, .int l6)] [] h (M_mean_L121 Y l0 l1 l2 l3 l5 k93 F l6 h) rZ := by
  intro F
  induction F with
  | zero =>
    intro l6 h
    exact aw_none
  | succ F ih =>
    intro l6 h
    unfold M_mean_L121
    refine aw_iload (pc := 121) d_M_mean_121 5 rfl ?_
    refine aw_sipush (pc := 123) (x := 304) d_M_mean_123 (by decide) ?_
    refine aw_icmp_ge (pc := 126) (tgt := 149) d_M_mean_126 (by decide) (fun c17 => ?_) (fun c17 => ?_)
    · refine aw_iinc (pc := 149) (w := l5 + 1) (lv' := [(5, .int (l5 + 1)), (0, .ref l0), (1, .int l1), (2, .int l2), (3, .long l3), (6, .int l6)]) d_M_mean_149 4 rfl rfl (by decide) rfl ?_
      refine aw_goto (pc := 152) (tgt := 93) d_M_mean_152 (by decide) ?_
      exact aw_lv [1, 2, 3, 4, 0] rfl (hk93 l3 (l5 + 1) h)
    · refine aw_aload_n (pc := 129) d_M_mean_129 rfl 0 rfl ?_
      refine gt_1220 (pc := 130) d_M_mean_130 w7_47 tl0 (fun tt18 => ?_)
      refine aw_iload (pc := 133) d_M_mean_133 5 rfl ?_
      refine aw_aload_n (pc := 135) d_M_mean_135 rfl 0 rfl ?_
      refine gt_1221 (pc := 136) d_M_mean_136 w7_48 tl0 (fun tt19 => ?_)
      refine aw_iload (pc := 139) d_M_mean_139 5 rfl ?_
      refine aw_iaload (pc := 141) d_M_mean_141 tt19 (fun c20 => ?_)
      refine aw_iastore (pc := 142) d_M_mean_142 tt18 (fun c21 => ?_)
      refine aw_letH (fun h22 => ?_)
      refine aw_iinc (pc := 143) (w := l6 + 1) (lv' := [(6, .int (l6 + 1)), (0, .ref l0), (1, .int l1), (2, .int l2), (3, .long l3), (5, .int l5)]) d_M_mean_143 5 rfl rfl (by decide) rfl ?_
      refine aw_goto (pc := 146) (tgt := 121) d_M_mean_146 (by decide) ?_
      exact aw_lv [1, 2, 3, 4, 5, 0] rfl (ih (l6 + 1) h22)
def M_mean_L93 (Y : Ly) (l0 : Nat) (l1 : Int32) (l2 : Int32) : Nat → Int64 → Int32 → Hp → Option (Bool × Hp)
  | 0, _, _, _ => none
  | F + 1, l3, l5, h =>
    if l2 ≤ l5 then
      (M_fraction Y l0 l3 (Int32.toInt64 l2) h).bind fun q13 =>
      some (q13.1, q13.2)
    else
      (M_runsWeeks Y l0 (l1 + l5) h).bind fun q14 =>
      (M_bound Y l0 q14).bind fun q15 =>
      (M_sizeOf Y q15 q14).bind fun q16 =>
      M_mean_L121 Y l0 l1 l2 (l3 + (Int32.toInt64 q16)) l5 (M_mean_L93 Y l0 l1 l2 F) FU 0 q14
theorem M_mean_L93_ok (Y : Ly) (l0 : Nat) (l1 : Int32) (l2 : Int32) (tl0 : isO Y 12 l0) : ∀ (F : Nat) (l3 : Int64) (l5 : Int32) (h : Hp), AW Y 24 K_M_mean 93 [(0, .ref l0), (1, .int l1), (2, .int l2), (3, .long l3), (5, .int l5)] [] h (M_mean_L93 Y l0 l1 l2 F l3 l5 h) rZ := by
  intro F
  induction F with
  | zero =>
    intro l3 l5 h
    exact aw_none
  | succ F ih =>
    intro l3 l5 h
    unfold M_mean_L93
    refine aw_iload (pc := 93) d_M_mean_93 4 rfl ?_
    refine aw_iload_n (pc := 95) d_M_mean_95 rfl 2 rfl ?_
    refine aw_icmp_ge (pc := 96) (tgt := 155) d_M_mean_96 (by decide) (fun c12 => ?_) (fun c12 => ?_)
    · refine aw_aload_n (pc := 155) d_M_mean_155 rfl 0 rfl ?_
      refine aw_lload_n (pc := 156) d_M_mean_156 rfl 3 rfl ?_
      refine aw_iload_n (pc := 157) d_M_mean_157 rfl 2 rfl ?_
      refine aw_i2l (pc := 158) d_M_mean_158 ?_
      refine aw_cVrZ (pc := 159) (ci := 12) (T := TX12) (N := 44) (As := [.long l3, .long (Int32.toInt64 l2)]) (st := []) (ok_M_fraction Y l0 l3 (Int32.toInt64 l2) h tl0) okV_M_fraction rfl (by decide) tl0 w9_193 d_M_mean_159 rfl (Nat.le_of_ble_eq_true rfl) rfl (Nat.le_of_ble_eq_true rfl) (fun q13 hq13 hTq13 => ?_)
      exact aw_zreturn (pc := 162) (b := q13.1) d_M_mean_162 rfl rfl
    · refine aw_aload_n (pc := 99) d_M_mean_99 rfl 0 rfl ?_
      refine aw_iload_n (pc := 100) d_M_mean_100 rfl 1 rfl ?_
      refine aw_iload (pc := 101) d_M_mean_101 4 rfl ?_
      refine aw_iadd (pc := 103) d_M_mean_103 ?_
      refine aw_cVrV (pc := 104) (ci := 12) (T := TX12) (N := 44) (As := [.int (l1 + l5)]) (st := []) (ok_M_runsWeeks Y l0 (l1 + l5) h tl0) okV_M_runsWeeks rfl (by decide) tl0 w10_129 d_M_mean_104 rfl (Nat.le_of_ble_eq_true rfl) rfl (Nat.le_of_ble_eq_true rfl) (fun q14 hq14 hTq14 => ?_)
      refine aw_lload_n (pc := 107) d_M_mean_107 rfl 3 rfl ?_
      refine aw_aload_n (pc := 108) d_M_mean_108 rfl 0 rfl ?_
      refine aw_cVpI (pc := 109) (ci := 12) (T := TX12) (N := 44) (As := []) (st := [.long l3]) (ok_M_bound Y l0 q14 tl0) okV_M_bound rfl (by decide) tl0 w9_16 d_M_mean_109 rfl (Nat.le_of_ble_eq_true rfl) rfl (Nat.le_of_ble_eq_true rfl) (fun q15 hq15 hTq15 => ?_)
      refine aw_cSpI (pc := 112) (As := [.int q15]) (st := [.long l3]) (ok_M_sizeOf Y q15 q14) okS_M_sizeOf w10_32 d_M_mean_112 rfl (Nat.le_of_ble_eq_true rfl) rfl (Nat.le_of_ble_eq_true rfl) (fun q16 hq16 hTq16 => ?_)
      refine aw_i2l (pc := 115) d_M_mean_115 ?_
      refine aw_ladd (pc := 116) d_M_mean_116 ?_
      refine aw_lstore_n (pc := 117) (lv' := [(3, .long (l3 + (Int32.toInt64 q16))), (0, .ref l0), (1, .int l1), (2, .int l2), (5, .int l5)]) d_M_mean_117 rfl (by decide) rfl ?_
      refine aw_iconst (pc := 118) (x := 0) d_M_mean_118 (by decide) ?_
      refine aw_istore (pc := 119) (lv' := [(6, .int 0), (3, .long (l3 + (Int32.toInt64 q16))), (0, .ref l0), (1, .int l1), (2, .int l2), (5, .int l5)]) d_M_mean_119 (by decide) rfl ?_
      exact aw_lv [2, 3, 4, 1, 5, 0] rfl (M_mean_L121_ok Y l0 l1 l2 (l3 + (Int32.toInt64 q16)) l5 (M_mean_L93 Y l0 l1 l2 F) tl0 ih FU 0 q14)
def M_mean_L63 (Y : Ly) (l0 : Nat) (l1 : Int32) (l2 : Int32) : Nat → Int32 → Hp → Option (Bool × Hp)
  | 0, _, _ => none
  | F + 1, l3, h =>
    if 304 ≤ l3 then
      M_mean_L93 Y l0 l1 l2 FU 0 0 h
    else
      if inB l3 (lnY Y (hGr h 1220 l0)) = true then
        if inB l3 (lnY Y (hGr h 1221 l0)) = true then
          letH (hTi h (hGr h 1221 l0) (Int32.toNatClampNeg l3) (hAi h (hGr h 1220 l0) (Int32.toNatClampNeg l3))) fun h27 =>
          M_mean_L63 Y l0 l1 l2 F (l3 + 1) h27
        else none
      else none
theorem M_mean_L63_ok (Y : Ly) (l0 : Nat) (l1 : Int32) (l2 : Int32) (tl0 : isO Y 12 l0) : ∀ (F : Nat) (l3 : Int32) (h : Hp), AW Y 24 K_M_mean 63 [(0, .ref l0), (1, .int l1), (2, .int l2), (3, .int l3)] [] h (M_mean_L63 Y l0 l1 l2 F l3 h) rZ := by
  intro F
  induction F with
  | zero =>
    intro l3 h
    exact aw_none
  | succ F ih =>
    intro l3 h
    unfold M_mean_L63
    refine aw_iload_n (pc := 63) d_M_mean_63 rfl 3 rfl ?_
    refine aw_sipush (pc := 64) (x := 304) d_M_mean_64 (by decide) ?_
    refine aw_icmp_ge (pc := 67) (tgt := 88) d_M_mean_67 (by decide) (fun c11 => ?_) (fun c11 => ?_)
    · refine aw_lconst (pc := 88) (x := 0) d_M_mean_88 (by decide) ?_
      refine aw_lstore_n (pc := 89) (lv' := [(3, .long 0), (0, .ref l0), (1, .int l1), (2, .int l2)]) d_M_mean_89 rfl (by decide) rfl ?_
      refine aw_iconst (pc := 90) (x := 0) d_M_mean_90 (by decide) ?_
      refine aw_istore (pc := 91) (lv' := [(5, .int 0), (3, .long 0), (0, .ref l0), (1, .int l1), (2, .int l2)]) d_M_mean_91 (by decide) rfl ?_
      exact aw_lv [2, 3, 4, 1, 0] rfl (M_mean_L93_ok Y l0 l1 l2 tl0 FU 0 0 h)
    · refine aw_aload_n (pc := 70) d_M_mean_70 rfl 0 rfl ?_
      refine gt_1221 (pc := 71) d_M_mean_71 w7_48 tl0 (fun tt23 => ?_)
      refine aw_iload_n (pc := 74) d_M_mean_74 rfl 3 rfl ?_
      refine aw_aload_n (pc := 75) d_M_mean_75 rfl 0 rfl ?_
      refine gt_1220 (pc := 76) d_M_mean_76 w7_47 tl0 (fun tt24 => ?_)
      refine aw_iload_n (pc := 79) d_M_mean_79 rfl 3 rfl ?_
      refine aw_iaload (pc := 80) d_M_mean_80 tt24 (fun c25 => ?_)
      refine aw_iastore (pc := 81) d_M_mean_81 tt23 (fun c26 => ?_)
      refine aw_letH (fun h27 => ?_)
      refine aw_iinc (pc := 82) (w := l3 + 1) (lv' := [(3, .int (l3 + 1)), (0, .ref l0), (1, .int l1), (2, .int l2)]) d_M_mean_82 3 rfl rfl (by decide) rfl ?_
      refine aw_goto (pc := 85) (tgt := 63) d_M_mean_85 (by decide) ?_
      exact aw_lv [1, 2, 3, 0] rfl (ih (l3 + 1) h27)
def M_mean (Y : Ly) (l0 : Nat) (l1 : Int32) (l2 : Int32) (h : Hp) : Option (Bool × Hp) :=
  letH (hSi h 1201 l0 0) fun h1 =>
  letH (hSi h1 1200 l0 0) fun h2 =>
  (M_isIn Y (Int32.toInt64 l2) 1 20 h2).bind fun q3 =>
  if q3 = true then
    (M_isIn Y (Int32.toInt64 l1) 0 (Int32.toInt64 (10000 - l2)) h2).bind fun q5 =>
    if q5 = true then
      if inB 304 (lnY Y (hGr h2 1220 l0)) = true then
        if (hAi h2 (hGr h2 1220 l0) (Int32.toNatClampNeg 304)) = 0 then
          (M_no Y l0 8 h2).bind fun q10 =>
          some (q10.1, q10.2)
        else
          M_mean_L63 Y l0 l1 l2 FU 0 h2
      else none
    else
      (M_no Y l0 5 h2).bind fun q28 =>
      some (q28.1, q28.2)
  else
    (M_no Y l0 5 h2).bind fun q29 =>
    some (q29.1, q29.2)
theorem ok_M_mean (Y : Ly) (l0 : Nat) (l1 : Int32) (l2 : Int32) (h : Hp) (t0 : isO Y 12 l0) : AM Y 24 K_M_mean [.ref l0, .int l1, .int l2] h (M_mean Y l0 l1 l2 h) rZ := by
  refine AM.of rfl (Nat.le_of_ble_eq_true rfl) ?_
  show AW Y 24 K_M_mean 0 [(0, .ref l0), (1, .int l1), (2, .int l2)] [] h (M_mean Y l0 l1 l2 h) rZ
  unfold M_mean
  refine aw_aload_n (pc := 0) d_M_mean_0 rfl 0 rfl ?_
  refine aw_iconst (pc := 1) (x := 0) d_M_mean_1 (by decide) ?_
  refine pt_1201 (pc := 2) d_M_mean_2 w7_28 t0 ?_
  refine aw_letH (fun h1 => ?_)
  refine aw_aload_n (pc := 5) d_M_mean_5 rfl 0 rfl ?_
  refine aw_iconst (pc := 6) (x := 0) d_M_mean_6 (by decide) ?_
  refine pt_1200 (pc := 7) d_M_mean_7 w7_27 t0 ?_
  refine aw_letH (fun h2 => ?_)
  refine aw_iload_n (pc := 10) d_M_mean_10 rfl 2 rfl ?_
  refine aw_i2l (pc := 11) d_M_mean_11 ?_
  refine aw_lconst (pc := 12) (x := 1) d_M_mean_12 (by decide) ?_
  refine aw_ldc2 (pc := 13) d_M_mean_13 w10_167 ?_
  refine aw_cSpZ (pc := 16) (As := [.long (Int32.toInt64 l2), .long 1, .long 20]) (st := []) (ok_M_isIn Y (Int32.toInt64 l2) 1 20 h2) okS_M_isIn w8_155 d_M_mean_16 rfl (Nat.le_of_ble_eq_true rfl) rfl (Nat.le_of_ble_eq_true rfl) (fun q3 hq3 hTq3 => ?_)
  refine aw_beq (pc := 19) (tgt := 37) d_M_mean_19 (by decide) (fun c4 => ?_) (fun c4 => ?_)
  · refine aw_iload_n (pc := 22) d_M_mean_22 rfl 1 rfl ?_
    refine aw_i2l (pc := 23) d_M_mean_23 ?_
    refine aw_lconst (pc := 24) (x := 0) d_M_mean_24 (by decide) ?_
    refine aw_sipush (pc := 25) (x := 10000) d_M_mean_25 (by decide) ?_
    refine aw_iload_n (pc := 28) d_M_mean_28 rfl 2 rfl ?_
    refine aw_isub (pc := 29) d_M_mean_29 ?_
    refine aw_i2l (pc := 30) d_M_mean_30 ?_
    refine aw_cSpZ (pc := 31) (As := [.long (Int32.toInt64 l1), .long 0, .long (Int32.toInt64 (10000 - l2))]) (st := []) (ok_M_isIn Y (Int32.toInt64 l1) 0 (Int32.toInt64 (10000 - l2)) h2) okS_M_isIn w8_155 d_M_mean_31 rfl (Nat.le_of_ble_eq_true rfl) rfl (Nat.le_of_ble_eq_true rfl) (fun q5 hq5 hTq5 => ?_)
    refine aw_bne (pc := 34) (tgt := 43) d_M_mean_34 (by decide) (fun c6 => ?_) (fun c6 => ?_)
    · refine aw_aload_n (pc := 43) d_M_mean_43 rfl 0 rfl ?_
      refine gt_1220 (pc := 44) d_M_mean_44 w7_47 t0 (fun tt7 => ?_)
      refine aw_sipush (pc := 47) (x := 304) d_M_mean_47 (by decide) ?_
      refine aw_iaload (pc := 50) d_M_mean_50 tt7 (fun c8 => ?_)
      refine aw_if_ne (pc := 51) (tgt := 61) d_M_mean_51 (by decide) (fun c9 => ?_) (fun c9 => ?_)
      · refine aw_aload_n (pc := 54) d_M_mean_54 rfl 0 rfl ?_
        refine aw_bipush (pc := 55) (x := 8) d_M_mean_55 (by decide) ?_
        refine aw_cVrZ (pc := 57) (ci := 12) (T := TX12) (N := 44) (As := [.int 8]) (st := []) (ok_M_no Y l0 8 h2 t0) okV_M_no rfl (by decide) t0 w7_176 d_M_mean_57 rfl (Nat.le_of_ble_eq_true rfl) rfl (Nat.le_of_ble_eq_true rfl) (fun q10 hq10 hTq10 => ?_)
        exact aw_zreturn (pc := 60) (b := q10.1) d_M_mean_60 rfl rfl
      · refine aw_iconst (pc := 61) (x := 0) d_M_mean_61 (by decide) ?_
        refine aw_istore_n (pc := 62) (lv' := [(3, .int 0), (0, .ref l0), (1, .int l1), (2, .int l2)]) d_M_mean_62 rfl (by decide) rfl ?_
        exact aw_lv [1, 2, 3, 0] rfl (M_mean_L63_ok Y l0 l1 l2 t0 FU 0 h2)
    · refine aw_aload_n (pc := 37) d_M_mean_37 rfl 0 rfl ?_
      refine aw_iconst (pc := 38) (x := 5) d_M_mean_38 (by decide) ?_
      refine aw_cVrZ (pc := 39) (ci := 12) (T := TX12) (N := 44) (As := [.int 5]) (st := []) (ok_M_no Y l0 5 h2 t0) okV_M_no rfl (by decide) t0 w7_176 d_M_mean_39 rfl (Nat.le_of_ble_eq_true rfl) rfl (Nat.le_of_ble_eq_true rfl) (fun q28 hq28 hTq28 => ?_)
      exact aw_zreturn (pc := 42) (b := q28.1) d_M_mean_42 rfl rfl
  · refine aw_aload_n (pc := 37) d_M_mean_37 rfl 0 rfl ?_
    refine aw_iconst (pc := 38) (x := 5) d_M_mean_38 (by decide) ?_
    refine aw_cVrZ (pc := 39) (ci := 12) (T := TX12) (N := 44) (As := [.int 5]) (st := []) (ok_M_no Y l0 5 h2 t0) okV_M_no rfl (by decide) t0 w7_176 d_M_mean_39 rfl (Nat.le_of_ble_eq_true rfl) rfl (Nat.le_of_ble_eq_true rfl) (fun q29 hq29 hTq29 => ?_)
    exact aw_zreturn (pc := 42) (b := q29.1) d_M_mean_42 rfl rfl
/-! LastPagesModel.next(I)I -/
theorem d_M_next_0 : decode prog_14_method_131_code 0 = .ok (.aload_n 0, 1) := by decide +kernel
theorem d_M_next_1 : decode prog_14_method_131_code 1 = .ok (.iconst 0, 1) := by decide +kernel
theorem d_M_next_2 : decode prog_14_method_131_code 2 = .ok (.putfield 78, 3) := by decide +kernel
theorem d_M_next_5 : decode prog_14_method_131_code 5 = .ok (.aload_n 0, 1) := by decide +kernel
theorem d_M_next_6 : decode prog_14_method_131_code 6 = .ok (.iconst 0, 1) := by decide +kernel
theorem d_M_next_7 : decode prog_14_method_131_code 7 = .ok (.putfield 81, 3) := by decide +kernel
theorem d_M_next_10 : decode prog_14_method_131_code 10 = .ok (.aload_n 0, 1) := by decide +kernel
theorem d_M_next_11 : decode prog_14_method_131_code 11 = .ok (.iload_n 1, 1) := by decide +kernel
theorem d_M_next_12 : decode prog_14_method_131_code 12 = .ok (.invokevirtual 382, 3) := by decide +kernel
theorem d_M_next_15 : decode prog_14_method_131_code 15 = .ok (.ifCond .ne 9, 3) := by decide +kernel
theorem d_M_next_18 : decode prog_14_method_131_code 18 = .ok (.aload_n 0, 1) := by decide +kernel
theorem d_M_next_19 : decode prog_14_method_131_code 19 = .ok (.iconst 2, 1) := by decide +kernel
theorem d_M_next_20 : decode prog_14_method_131_code 20 = .ok (.invokevirtual 367, 3) := by decide +kernel
theorem d_M_next_23 : decode prog_14_method_131_code 23 = .ok (.ireturn, 1) := by decide +kernel
theorem d_M_next_24 : decode prog_14_method_131_code 24 = .ok (.aload_n 0, 1) := by decide +kernel
theorem d_M_next_25 : decode prog_14_method_131_code 25 = .ok (.iload_n 1, 1) := by decide +kernel
theorem d_M_next_26 : decode prog_14_method_131_code 26 = .ok (.invokevirtual 422, 3) := by decide +kernel
theorem d_M_next_29 : decode prog_14_method_131_code 29 = .ok (.ldc2_w 444, 3) := by decide +kernel
theorem d_M_next_32 : decode prog_14_method_131_code 32 = .ok (.lcmp, 1) := by decide +kernel
theorem d_M_next_33 : decode prog_14_method_131_code 33 = .ok (.ifCond .ge 10, 3) := by decide +kernel
theorem d_M_next_36 : decode prog_14_method_131_code 36 = .ok (.aload_n 0, 1) := by decide +kernel
theorem d_M_next_37 : decode prog_14_method_131_code 37 = .ok (.bipush 8, 2) := by decide +kernel
theorem d_M_next_39 : decode prog_14_method_131_code 39 = .ok (.invokevirtual 367, 3) := by decide +kernel
theorem d_M_next_42 : decode prog_14_method_131_code 42 = .ok (.ireturn, 1) := by decide +kernel
theorem d_M_next_43 : decode prog_14_method_131_code 43 = .ok (.aload_n 0, 1) := by decide +kernel
theorem d_M_next_44 : decode prog_14_method_131_code 44 = .ok (.iload_n 1, 1) := by decide +kernel
theorem d_M_next_45 : decode prog_14_method_131_code 45 = .ok (.invokevirtual 446, 3) := by decide +kernel
theorem d_M_next_48 : decode prog_14_method_131_code 48 = .ok (.iconst (-1), 1) := by decide +kernel
theorem d_M_next_49 : decode prog_14_method_131_code 49 = .ok (.istore_n 2, 1) := by decide +kernel
theorem d_M_next_50 : decode prog_14_method_131_code 50 = .ok (.lconst 0, 1) := by decide +kernel
theorem d_M_next_51 : decode prog_14_method_131_code 51 = .ok (.lstore_n 3, 1) := by decide +kernel
theorem d_M_next_52 : decode prog_14_method_131_code 52 = .ok (.iconst 1, 1) := by decide +kernel
theorem d_M_next_53 : decode prog_14_method_131_code 53 = .ok (.istore 5, 2) := by decide +kernel
theorem d_M_next_55 : decode prog_14_method_131_code 55 = .ok (.iload 5, 2) := by decide +kernel
theorem d_M_next_57 : decode prog_14_method_131_code 57 = .ok (.aload_n 0, 1) := by decide +kernel
theorem d_M_next_58 : decode prog_14_method_131_code 58 = .ok (.getfield 35, 3) := by decide +kernel
theorem d_M_next_61 : decode prog_14_method_131_code 61 = .ok (.bipush 88, 2) := by decide +kernel
theorem d_M_next_63 : decode prog_14_method_131_code 63 = .ok (.iload_n 1, 1) := by decide +kernel
theorem d_M_next_64 : decode prog_14_method_131_code 64 = .ok (.iadd, 1) := by decide +kernel
theorem d_M_next_65 : decode prog_14_method_131_code 65 = .ok (.iaload, 1) := by decide +kernel
theorem d_M_next_66 : decode prog_14_method_131_code 66 = .ok (.if_icmp .gt 72, 3) := by decide +kernel
theorem d_M_next_69 : decode prog_14_method_131_code 69 = .ok (.lconst 0, 1) := by decide +kernel
theorem d_M_next_70 : decode prog_14_method_131_code 70 = .ok (.lstore 6, 2) := by decide +kernel
theorem d_M_next_72 : decode prog_14_method_131_code 72 = .ok (.iconst 0, 1) := by decide +kernel
theorem d_M_next_73 : decode prog_14_method_131_code 73 = .ok (.istore 8, 2) := by decide +kernel
theorem d_M_next_75 : decode prog_14_method_131_code 75 = .ok (.iload 8, 2) := by decide +kernel
theorem d_M_next_77 : decode prog_14_method_131_code 77 = .ok (.aload_n 0, 1) := by decide +kernel
theorem d_M_next_78 : decode prog_14_method_131_code 78 = .ok (.getfield 35, 3) := by decide +kernel
theorem d_M_next_81 : decode prog_14_method_131_code 81 = .ok (.iconst 1, 1) := by decide +kernel
theorem d_M_next_82 : decode prog_14_method_131_code 82 = .ok (.iaload, 1) := by decide +kernel
theorem d_M_next_83 : decode prog_14_method_131_code 83 = .ok (.if_icmp .ge 29, 3) := by decide +kernel
theorem d_M_next_86 : decode prog_14_method_131_code 86 = .ok (.lload 6, 2) := by decide +kernel
theorem d_M_next_88 : decode prog_14_method_131_code 88 = .ok (.aload_n 0, 1) := by decide +kernel
theorem d_M_next_89 : decode prog_14_method_131_code 89 = .ok (.getfield 47, 3) := by decide +kernel
theorem d_M_next_92 : decode prog_14_method_131_code 92 = .ok (.bipush 8, 2) := by decide +kernel
theorem d_M_next_94 : decode prog_14_method_131_code 94 = .ok (.iload 5, 2) := by decide +kernel
theorem d_M_next_96 : decode prog_14_method_131_code 96 = .ok (.imul, 1) := by decide +kernel
theorem d_M_next_97 : decode prog_14_method_131_code 97 = .ok (.iload 8, 2) := by decide +kernel
theorem d_M_next_99 : decode prog_14_method_131_code 99 = .ok (.iadd, 1) := by decide +kernel
theorem d_M_next_100 : decode prog_14_method_131_code 100 = .ok (.laload, 1) := by decide +kernel
theorem d_M_next_101 : decode prog_14_method_131_code 101 = .ok (.invokestatic 449, 3) := by decide +kernel
theorem d_M_next_104 : decode prog_14_method_131_code 104 = .ok (.lstore 6, 2) := by decide +kernel
theorem d_M_next_106 : decode prog_14_method_131_code 106 = .ok (.iinc 8 1, 3) := by decide +kernel
theorem d_M_next_109 : decode prog_14_method_131_code 109 = .ok (.goto (-34), 3) := by decide +kernel
theorem d_M_next_112 : decode prog_14_method_131_code 112 = .ok (.iload_n 2, 1) := by decide +kernel
theorem d_M_next_113 : decode prog_14_method_131_code 113 = .ok (.ifCond .lt 13, 3) := by decide +kernel
theorem d_M_next_116 : decode prog_14_method_131_code 116 = .ok (.lload 6, 2) := by decide +kernel
theorem d_M_next_118 : decode prog_14_method_131_code 118 = .ok (.lload_n 3, 1) := by decide +kernel
theorem d_M_next_119 : decode prog_14_method_131_code 119 = .ok (.lcmp, 1) := by decide +kernel
theorem d_M_next_120 : decode prog_14_method_131_code 120 = .ok (.ifCond .lt 6, 3) := by decide +kernel
theorem d_M_next_123 : decode prog_14_method_131_code 123 = .ok (.goto 9, 3) := by decide +kernel
theorem d_M_next_126 : decode prog_14_method_131_code 126 = .ok (.iload 5, 2) := by decide +kernel
theorem d_M_next_128 : decode prog_14_method_131_code 128 = .ok (.istore_n 2, 1) := by decide +kernel
theorem d_M_next_129 : decode prog_14_method_131_code 129 = .ok (.lload 6, 2) := by decide +kernel
theorem d_M_next_131 : decode prog_14_method_131_code 131 = .ok (.lstore_n 3, 1) := by decide +kernel
theorem d_M_next_132 : decode prog_14_method_131_code 132 = .ok (.iinc 5 1, 3) := by decide +kernel
theorem d_M_next_135 : decode prog_14_method_131_code 135 = .ok (.goto (-80), 3) := by decide +kernel
theorem d_M_next_138 : decode prog_14_method_131_code 138 = .ok (.iload_n 2, 1) := by decide +kernel
theorem d_M_next_139 : decode prog_14_method_131_code 139 = .ok (.ireturn, 1) := by decide +kernel
def M_next_L75 (Y : Ly) (l0 : Nat) (l1 : Int32) (l2 : Int32) (l3 : Int64) (l5 : Int32) (h : Hp) (k55 : Int32 → Int64 → Int32 → Option (Int32 × Hp)) : Nat → Int64 → Int32 → Option (Int32 × Hp)
  | 0, _, _ => none
  | F + 1, l6, l8 =>
    if inB 1 (lnY Y (hGr h 1220 l0)) = true then
      if (hAi h (hGr h 1220 l0) (Int32.toNatClampNeg 1)) ≤ l8 then
        if l2 < 0 then
          k55 l5 l6 (l5 + 1)
        else
          if l6 < l3 then
            k55 l5 l6 (l5 + 1)
          else
            k55 l2 l3 (l5 + 1)
      else
        if inB ((8 * l5) + l8) (lnY Y (hGr h 1226 l0)) = true then
          M_next_L75 Y l0 l1 l2 l3 l5 h k55 F (if (hAl h (hGr h 1226 l0) (Int32.toNatClampNeg ((8 * l5) + l8))) < l6 then l6 else (hAl h (hGr h 1226 l0) (Int32.toNatClampNeg ((8 * l5) + l8)))) (l8 + 1)
        else none
    else none
theorem M_next_L75_ok (Y : Ly) (l0 : Nat) (l1 : Int32) (l2 : Int32) (l3 : Int64) (l5 : Int32) (h : Hp) (k55 : Int32 → Int64 → Int32 → Option (Int32 × Hp)) (tl0 : isO Y 12 l0) (hk55 : ∀ (l2_ : Int32) (l3_ : Int64) (l5_ : Int32), AW Y 4 K_M_next 55 [(0, .ref l0), (1, .int l1), (2, .int l2_), (3, .long l3_), (5, .int l5_)] [] h (k55 l2_ l3_ l5_) rI) : ∀ (F : Nat) (l6 : Int64) (l8 : Int32), AW Y 4 K_M_next 75 [(0, .ref l0), (1, .int l1), (2, .int l2), (3, .long l3), (5, .int l5), (6, .long l6), (8, .int l8)] [] h (M_next_L75 Y l0 l1 l2 l3 l5 h k55 F l6 l8) rI := by
  intro F
  induction F with
  | zero =>
    intro l6 l8
    exact aw_none
  | succ F ih =>
    intro l6 l8
    unfold M_next_L75
    refine aw_iload (pc := 75) d_M_next_75 6 rfl ?_
    refine aw_aload_n (pc := 77) d_M_next_77 rfl 0 rfl ?_
    refine gt_1220 (pc := 78) d_M_next_78 w7_47 tl0 (fun tt11 => ?_)
    refine aw_iconst (pc := 81) (x := 1) d_M_next_81 (by decide) ?_
    refine aw_iaload (pc := 82) d_M_next_82 tt11 (fun c12 => ?_)
    refine aw_icmp_ge (pc := 83) (tgt := 112) d_M_next_83 (by decide) (fun c13 => ?_) (fun c13 => ?_)
    · refine aw_iload_n (pc := 112) d_M_next_112 rfl 2 rfl ?_
      refine aw_if_lt (pc := 113) (tgt := 126) d_M_next_113 (by decide) (fun c14 => ?_) (fun c14 => ?_)
      · refine aw_iload (pc := 126) d_M_next_126 4 rfl ?_
        refine aw_istore_n (pc := 128) (lv' := [(2, .int l5), (0, .ref l0), (1, .int l1), (3, .long l3), (5, .int l5), (6, .long l6), (8, .int l8)]) d_M_next_128 rfl (by decide) rfl ?_
        refine aw_lload (pc := 129) d_M_next_129 5 rfl ?_
        refine aw_lstore_n (pc := 131) (lv' := [(3, .long l6), (2, .int l5), (0, .ref l0), (1, .int l1), (5, .int l5), (6, .long l6), (8, .int l8)]) d_M_next_131 rfl (by decide) rfl ?_
        refine aw_iinc (pc := 132) (w := l5 + 1) (lv' := [(5, .int (l5 + 1)), (3, .long l6), (2, .int l5), (0, .ref l0), (1, .int l1), (6, .long l6), (8, .int l8)]) d_M_next_132 4 rfl rfl (by decide) rfl ?_
        refine aw_goto (pc := 135) (tgt := 55) d_M_next_135 (by decide) ?_
        exact aw_lv [3, 4, 2, 1, 0] rfl (hk55 l5 l6 (l5 + 1))
      · refine aw_lload (pc := 116) d_M_next_116 5 rfl ?_
        refine aw_lload_n (pc := 118) d_M_next_118 rfl 3 rfl ?_
        refine aw_lcmp_lt (pc := 119) (tgt := 126) d_M_next_119 d_M_next_120 (by decide) (fun c15 => ?_) (fun c15 => ?_)
        · refine aw_iload (pc := 126) d_M_next_126 4 rfl ?_
          refine aw_istore_n (pc := 128) (lv' := [(2, .int l5), (0, .ref l0), (1, .int l1), (3, .long l3), (5, .int l5), (6, .long l6), (8, .int l8)]) d_M_next_128 rfl (by decide) rfl ?_
          refine aw_lload (pc := 129) d_M_next_129 5 rfl ?_
          refine aw_lstore_n (pc := 131) (lv' := [(3, .long l6), (2, .int l5), (0, .ref l0), (1, .int l1), (5, .int l5), (6, .long l6), (8, .int l8)]) d_M_next_131 rfl (by decide) rfl ?_
          refine aw_iinc (pc := 132) (w := l5 + 1) (lv' := [(5, .int (l5 + 1)), (3, .long l6), (2, .int l5), (0, .ref l0), (1, .int l1), (6, .long l6), (8, .int l8)]) d_M_next_132 4 rfl rfl (by decide) rfl ?_
          refine aw_goto (pc := 135) (tgt := 55) d_M_next_135 (by decide) ?_
          exact aw_lv [3, 4, 2, 1, 0] rfl (hk55 l5 l6 (l5 + 1))
        · refine aw_goto (pc := 123) (tgt := 132) d_M_next_123 (by decide) ?_
          refine aw_iinc (pc := 132) (w := l5 + 1) (lv' := [(5, .int (l5 + 1)), (0, .ref l0), (1, .int l1), (2, .int l2), (3, .long l3), (6, .long l6), (8, .int l8)]) d_M_next_132 4 rfl rfl (by decide) rfl ?_
          refine aw_goto (pc := 135) (tgt := 55) d_M_next_135 (by decide) ?_
          exact aw_lv [1, 2, 3, 4, 0] rfl (hk55 l2 l3 (l5 + 1))
    · refine aw_lload (pc := 86) d_M_next_86 5 rfl ?_
      refine aw_aload_n (pc := 88) d_M_next_88 rfl 0 rfl ?_
      refine gt_1226 (pc := 89) d_M_next_89 w7_53 tl0 (fun tt16 => ?_)
      refine aw_bipush (pc := 92) (x := 8) d_M_next_92 (by decide) ?_
      refine aw_iload (pc := 94) d_M_next_94 4 rfl ?_
      refine aw_imul (pc := 96) d_M_next_96 ?_
      refine aw_iload (pc := 97) d_M_next_97 6 rfl ?_
      refine aw_iadd (pc := 99) d_M_next_99 ?_
      refine aw_laload (pc := 100) d_M_next_100 tt16 (fun c17 => ?_)
      refine aw_mmaxl (pc := 101) d_M_next_101 w9_188 w5_158 w1_15 w5_159 (Nat.le_of_ble_eq_true rfl) (Nat.le_of_ble_eq_true rfl) ?_
      refine aw_lstore (pc := 104) (lv' := [(6, .long (if (hAl h (hGr h 1226 l0) (Int32.toNatClampNeg ((8 * l5) + l8))) < l6 then l6 else (hAl h (hGr h 1226 l0) (Int32.toNatClampNeg ((8 * l5) + l8))))), (0, .ref l0), (1, .int l1), (2, .int l2), (3, .long l3), (5, .int l5), (8, .int l8)]) d_M_next_104 (by decide) rfl ?_
      refine aw_iinc (pc := 106) (w := l8 + 1) (lv' := [(8, .int (l8 + 1)), (6, .long (if (hAl h (hGr h 1226 l0) (Int32.toNatClampNeg ((8 * l5) + l8))) < l6 then l6 else (hAl h (hGr h 1226 l0) (Int32.toNatClampNeg ((8 * l5) + l8))))), (0, .ref l0), (1, .int l1), (2, .int l2), (3, .long l3), (5, .int l5)]) d_M_next_106 6 rfl rfl (by decide) rfl ?_
      refine aw_goto (pc := 109) (tgt := 75) d_M_next_109 (by decide) ?_
      exact aw_lv [2, 3, 4, 5, 6, 1, 0] rfl (ih (if (hAl h (hGr h 1226 l0) (Int32.toNatClampNeg ((8 * l5) + l8))) < l6 then l6 else (hAl h (hGr h 1226 l0) (Int32.toNatClampNeg ((8 * l5) + l8)))) (l8 + 1))
def M_next_L55 (Y : Ly) (l0 : Nat) (l1 : Int32) (h : Hp) : Nat → Int32 → Int64 → Int32 → Option (Int32 × Hp)
  | 0, _, _, _ => none
  | F + 1, l2, l3, l5 =>
    if inB (88 + l1) (lnY Y (hGr h 1220 l0)) = true then
      if (hAi h (hGr h 1220 l0) (Int32.toNatClampNeg (88 + l1))) < l5 then
        some (l2, h)
      else
        M_next_L75 Y l0 l1 l2 l3 l5 h (M_next_L55 Y l0 l1 h F) FU 0 0
    else none
theorem M_next_L55_ok (Y : Ly) (l0 : Nat) (l1 : Int32) (h : Hp) (tl0 : isO Y 12 l0) : ∀ (F : Nat) (l2 : Int32) (l3 : Int64) (l5 : Int32), AW Y 4 K_M_next 55 [(0, .ref l0), (1, .int l1), (2, .int l2), (3, .long l3), (5, .int l5)] [] h (M_next_L55 Y l0 l1 h F l2 l3 l5) rI := by
  intro F
  induction F with
  | zero =>
    intro l2 l3 l5
    exact aw_none
  | succ F ih =>
    intro l2 l3 l5
    unfold M_next_L55
    refine aw_iload (pc := 55) d_M_next_55 4 rfl ?_
    refine aw_aload_n (pc := 57) d_M_next_57 rfl 0 rfl ?_
    refine gt_1220 (pc := 58) d_M_next_58 w7_47 tl0 (fun tt8 => ?_)
    refine aw_bipush (pc := 61) (x := 88) d_M_next_61 (by decide) ?_
    refine aw_iload_n (pc := 63) d_M_next_63 rfl 1 rfl ?_
    refine aw_iadd (pc := 64) d_M_next_64 ?_
    refine aw_iaload (pc := 65) d_M_next_65 tt8 (fun c9 => ?_)
    refine aw_icmp_gt (pc := 66) (tgt := 138) d_M_next_66 (by decide) (fun c10 => ?_) (fun c10 => ?_)
    · refine aw_iload_n (pc := 138) d_M_next_138 rfl 2 rfl ?_
      exact aw_ireturn (pc := 139) d_M_next_139 rfl rfl
    · refine aw_lconst (pc := 69) (x := 0) d_M_next_69 (by decide) ?_
      refine aw_lstore (pc := 70) (lv' := [(6, .long 0), (0, .ref l0), (1, .int l1), (2, .int l2), (3, .long l3), (5, .int l5)]) d_M_next_70 (by decide) rfl ?_
      refine aw_iconst (pc := 72) (x := 0) d_M_next_72 (by decide) ?_
      refine aw_istore (pc := 73) (lv' := [(8, .int 0), (6, .long 0), (0, .ref l0), (1, .int l1), (2, .int l2), (3, .long l3), (5, .int l5)]) d_M_next_73 (by decide) rfl ?_
      exact aw_lv [2, 3, 4, 5, 6, 1, 0] rfl (M_next_L75_ok Y l0 l1 l2 l3 l5 h (M_next_L55 Y l0 l1 h F) tl0 ih FU 0 0)
def M_next (Y : Ly) (l0 : Nat) (l1 : Int32) (h : Hp) : Option (Int32 × Hp) :=
  letH (hSi h 1201 l0 0) fun h1 =>
  letH (hSi h1 1200 l0 0) fun h2 =>
  (M_isBookAt Y l0 l1 h2).bind fun q3 =>
  if q3 = true then
    (M_endingsOf Y l0 l1 h2).bind fun q5 =>
    if 2 ≤ q5.1 then
      (M_laysTurns Y l0 l1 q5.2).bind fun q7 =>
      M_next_L55 Y l0 l1 q7 FU (-1) 0 1
    else
      (M_refuse Y l0 8 q5.2).bind fun q18 =>
      some (q18.1, q18.2)
  else
    (M_refuse Y l0 2 h2).bind fun q19 =>
    some (q19.1, q19.2)
theorem ok_M_next (Y : Ly) (l0 : Nat) (l1 : Int32) (h : Hp) (t0 : isO Y 12 l0) : AM Y 4 K_M_next [.ref l0, .int l1] h (M_next Y l0 l1 h) rI := by
  refine AM.of rfl (Nat.le_of_ble_eq_true rfl) ?_
  show AW Y 4 K_M_next 0 [(0, .ref l0), (1, .int l1)] [] h (M_next Y l0 l1 h) rI
  unfold M_next
  refine aw_aload_n (pc := 0) d_M_next_0 rfl 0 rfl ?_
  refine aw_iconst (pc := 1) (x := 0) d_M_next_1 (by decide) ?_
  refine pt_1201 (pc := 2) d_M_next_2 w7_28 t0 ?_
  refine aw_letH (fun h1 => ?_)
  refine aw_aload_n (pc := 5) d_M_next_5 rfl 0 rfl ?_
  refine aw_iconst (pc := 6) (x := 0) d_M_next_6 (by decide) ?_
  refine pt_1200 (pc := 7) d_M_next_7 w7_27 t0 ?_
  refine aw_letH (fun h2 => ?_)
  refine aw_aload_n (pc := 10) d_M_next_10 rfl 0 rfl ?_
  refine aw_iload_n (pc := 11) d_M_next_11 rfl 1 rfl ?_
  refine aw_cVpZ (pc := 12) (ci := 12) (T := TX12) (N := 44) (As := [.int l1]) (st := []) (ok_M_isBookAt Y l0 l1 h2 t0) okV_M_isBookAt rfl (by decide) t0 w9_40 d_M_next_12 rfl (Nat.le_of_ble_eq_true rfl) rfl (Nat.le_of_ble_eq_true rfl) (fun q3 hq3 hTq3 => ?_)
  refine aw_bne (pc := 15) (tgt := 24) d_M_next_15 (by decide) (fun c4 => ?_) (fun c4 => ?_)
  · refine aw_aload_n (pc := 24) d_M_next_24 rfl 0 rfl ?_
    refine aw_iload_n (pc := 25) d_M_next_25 rfl 1 rfl ?_
    refine aw_cVrL (pc := 26) (ci := 12) (T := TX12) (N := 44) (As := [.int l1]) (st := []) (ok_M_endingsOf Y l0 l1 h2 t0) okV_M_endingsOf rfl (by decide) t0 w9_138 d_M_next_26 rfl (Nat.le_of_ble_eq_true rfl) rfl (Nat.le_of_ble_eq_true rfl) (fun q5 hq5 hTq5 => ?_)
    refine aw_ldc2 (pc := 29) d_M_next_29 w9_183 ?_
    refine aw_lcmp_ge (pc := 32) (tgt := 43) d_M_next_32 d_M_next_33 (by decide) (fun c6 => ?_) (fun c6 => ?_)
    · refine aw_aload_n (pc := 43) d_M_next_43 rfl 0 rfl ?_
      refine aw_iload_n (pc := 44) d_M_next_44 rfl 1 rfl ?_
      refine aw_cVrV (pc := 45) (ci := 12) (T := TX12) (N := 44) (As := [.int l1]) (st := []) (ok_M_laysTurns Y l0 l1 q5.2 t0) okV_M_laysTurns rfl (by decide) t0 w9_184 d_M_next_45 rfl (Nat.le_of_ble_eq_true rfl) rfl (Nat.le_of_ble_eq_true rfl) (fun q7 hq7 hTq7 => ?_)
      refine aw_iconst (pc := 48) (x := (-1)) d_M_next_48 (by decide) ?_
      refine aw_istore_n (pc := 49) (lv' := [(2, .int (-1)), (0, .ref l0), (1, .int l1)]) d_M_next_49 rfl (by decide) rfl ?_
      refine aw_lconst (pc := 50) (x := 0) d_M_next_50 (by decide) ?_
      refine aw_lstore_n (pc := 51) (lv' := [(3, .long 0), (2, .int (-1)), (0, .ref l0), (1, .int l1)]) d_M_next_51 rfl (by decide) rfl ?_
      refine aw_iconst (pc := 52) (x := 1) d_M_next_52 (by decide) ?_
      refine aw_istore (pc := 53) (lv' := [(5, .int 1), (3, .long 0), (2, .int (-1)), (0, .ref l0), (1, .int l1)]) d_M_next_53 (by decide) rfl ?_
      exact aw_lv [3, 4, 2, 1, 0] rfl (M_next_L55_ok Y l0 l1 q7 t0 FU (-1) 0 1)
    · refine aw_aload_n (pc := 36) d_M_next_36 rfl 0 rfl ?_
      refine aw_bipush (pc := 37) (x := 8) d_M_next_37 (by decide) ?_
      refine aw_cVrI (pc := 39) (ci := 12) (T := TX12) (N := 44) (As := [.int 8]) (st := []) (ok_M_refuse Y l0 8 q5.2 t0) okV_M_refuse rfl (by decide) t0 w9_8 d_M_next_39 rfl (Nat.le_of_ble_eq_true rfl) rfl (Nat.le_of_ble_eq_true rfl) (fun q18 hq18 hTq18 => ?_)
      exact aw_ireturn (pc := 42) d_M_next_42 rfl rfl
  · refine aw_aload_n (pc := 18) d_M_next_18 rfl 0 rfl ?_
    refine aw_iconst (pc := 19) (x := 2) d_M_next_19 (by decide) ?_
    refine aw_cVrI (pc := 20) (ci := 12) (T := TX12) (N := 44) (As := [.int 2]) (st := []) (ok_M_refuse Y l0 2 h2 t0) okV_M_refuse rfl (by decide) t0 w9_8 d_M_next_20 rfl (Nat.le_of_ble_eq_true rfl) rfl (Nat.le_of_ble_eq_true rfl) (fun q19 hq19 hTq19 => ?_)
    exact aw_ireturn (pc := 23) d_M_next_23 rfl rfl
/-! LastPagesModel.odd(I)I -/
theorem d_M_odd_0 : decode prog_14_method_98_code 0 = .ok (.aload_n 0, 1) := by decide +kernel
theorem d_M_odd_1 : decode prog_14_method_98_code 1 = .ok (.iconst 0, 1) := by decide +kernel
theorem d_M_odd_2 : decode prog_14_method_98_code 2 = .ok (.putfield 78, 3) := by decide +kernel
theorem d_M_odd_5 : decode prog_14_method_98_code 5 = .ok (.aload_n 0, 1) := by decide +kernel
theorem d_M_odd_6 : decode prog_14_method_98_code 6 = .ok (.iconst 0, 1) := by decide +kernel
theorem d_M_odd_7 : decode prog_14_method_98_code 7 = .ok (.putfield 81, 3) := by decide +kernel
theorem d_M_odd_10 : decode prog_14_method_98_code 10 = .ok (.aload_n 0, 1) := by decide +kernel
theorem d_M_odd_11 : decode prog_14_method_98_code 11 = .ok (.iload_n 1, 1) := by decide +kernel
theorem d_M_odd_12 : decode prog_14_method_98_code 12 = .ok (.invokevirtual 379, 3) := by decide +kernel
theorem d_M_odd_15 : decode prog_14_method_98_code 15 = .ok (.ifCond .eq 15, 3) := by decide +kernel
theorem d_M_odd_18 : decode prog_14_method_98_code 18 = .ok (.aload_n 0, 1) := by decide +kernel
theorem d_M_odd_19 : decode prog_14_method_98_code 19 = .ok (.getfield 35, 3) := by decide +kernel
theorem d_M_odd_22 : decode prog_14_method_98_code 22 = .ok (.bipush 10, 2) := by decide +kernel
theorem d_M_odd_24 : decode prog_14_method_98_code 24 = .ok (.iload_n 1, 1) := by decide +kernel
theorem d_M_odd_25 : decode prog_14_method_98_code 25 = .ok (.iadd, 1) := by decide +kernel
theorem d_M_odd_26 : decode prog_14_method_98_code 26 = .ok (.iaload, 1) := by decide +kernel
theorem d_M_odd_27 : decode prog_14_method_98_code 27 = .ok (.goto 8, 3) := by decide +kernel
theorem d_M_odd_30 : decode prog_14_method_98_code 30 = .ok (.aload_n 0, 1) := by decide +kernel
theorem d_M_odd_31 : decode prog_14_method_98_code 31 = .ok (.iconst 2, 1) := by decide +kernel
theorem d_M_odd_32 : decode prog_14_method_98_code 32 = .ok (.invokevirtual 367, 3) := by decide +kernel
theorem d_M_odd_35 : decode prog_14_method_98_code 35 = .ok (.ireturn, 1) := by decide +kernel
def M_odd (Y : Ly) (l0 : Nat) (l1 : Int32) (h : Hp) : Option (Int32 × Hp) :=
  letH (hSi h 1201 l0 0) fun h1 =>
  letH (hSi h1 1200 l0 0) fun h2 =>
  (M_isTurnAt Y l0 l1 h2).bind fun q3 =>
  if q3 = true then
    if inB (10 + l1) (lnY Y (hGr h2 1220 l0)) = true then
      some (hAi h2 (hGr h2 1220 l0) (Int32.toNatClampNeg (10 + l1)), h2)
    else none
  else
    (M_refuse Y l0 2 h2).bind fun q7 =>
    some (q7.1, q7.2)
theorem ok_M_odd (Y : Ly) (l0 : Nat) (l1 : Int32) (h : Hp) (t0 : isO Y 12 l0) : AM Y 2 K_M_odd [.ref l0, .int l1] h (M_odd Y l0 l1 h) rI := by
  refine AM.of rfl (Nat.le_of_ble_eq_true rfl) ?_
  show AW Y 2 K_M_odd 0 [(0, .ref l0), (1, .int l1)] [] h (M_odd Y l0 l1 h) rI
  unfold M_odd
  refine aw_aload_n (pc := 0) d_M_odd_0 rfl 0 rfl ?_
  refine aw_iconst (pc := 1) (x := 0) d_M_odd_1 (by decide) ?_
  refine pt_1201 (pc := 2) d_M_odd_2 w7_28 t0 ?_
  refine aw_letH (fun h1 => ?_)
  refine aw_aload_n (pc := 5) d_M_odd_5 rfl 0 rfl ?_
  refine aw_iconst (pc := 6) (x := 0) d_M_odd_6 (by decide) ?_
  refine pt_1200 (pc := 7) d_M_odd_7 w7_27 t0 ?_
  refine aw_letH (fun h2 => ?_)
  refine aw_aload_n (pc := 10) d_M_odd_10 rfl 0 rfl ?_
  refine aw_iload_n (pc := 11) d_M_odd_11 rfl 1 rfl ?_
  refine aw_cVpZ (pc := 12) (ci := 12) (T := TX12) (N := 44) (As := [.int l1]) (st := []) (ok_M_isTurnAt Y l0 l1 h2 t0) okV_M_isTurnAt rfl (by decide) t0 w9_28 d_M_odd_12 rfl (Nat.le_of_ble_eq_true rfl) rfl (Nat.le_of_ble_eq_true rfl) (fun q3 hq3 hTq3 => ?_)
  refine aw_beq (pc := 15) (tgt := 30) d_M_odd_15 (by decide) (fun c4 => ?_) (fun c4 => ?_)
  · refine aw_aload_n (pc := 18) d_M_odd_18 rfl 0 rfl ?_
    refine gt_1220 (pc := 19) d_M_odd_19 w7_47 t0 (fun tt5 => ?_)
    refine aw_bipush (pc := 22) (x := 10) d_M_odd_22 (by decide) ?_
    refine aw_iload_n (pc := 24) d_M_odd_24 rfl 1 rfl ?_
    refine aw_iadd (pc := 25) d_M_odd_25 ?_
    refine aw_iaload (pc := 26) d_M_odd_26 tt5 (fun c6 => ?_)
    refine aw_goto (pc := 27) (tgt := 35) d_M_odd_27 (by decide) ?_
    exact aw_ireturn (pc := 35) d_M_odd_35 rfl rfl
  · refine aw_aload_n (pc := 30) d_M_odd_30 rfl 0 rfl ?_
    refine aw_iconst (pc := 31) (x := 2) d_M_odd_31 (by decide) ?_
    refine aw_cVrI (pc := 32) (ci := 12) (T := TX12) (N := 44) (As := [.int 2]) (st := []) (ok_M_refuse Y l0 2 h2 t0) okV_M_refuse rfl (by decide) t0 w9_8 d_M_odd_32 rfl (Nat.le_of_ble_eq_true rfl) rfl (Nat.le_of_ble_eq_true rfl) (fun q7 hq7 hTq7 => ?_)
    exact aw_ireturn (pc := 35) d_M_odd_35 rfl rfl
/-! LastPagesModel.oddness(I)I -/
theorem d_M_oddness_0 : decode prog_14_method_140_code 0 = .ok (.aload_n 0, 1) := by decide +kernel
theorem d_M_oddness_1 : decode prog_14_method_140_code 1 = .ok (.iconst 0, 1) := by decide +kernel
theorem d_M_oddness_2 : decode prog_14_method_140_code 2 = .ok (.putfield 78, 3) := by decide +kernel
theorem d_M_oddness_5 : decode prog_14_method_140_code 5 = .ok (.aload_n 0, 1) := by decide +kernel
theorem d_M_oddness_6 : decode prog_14_method_140_code 6 = .ok (.iconst 0, 1) := by decide +kernel
theorem d_M_oddness_7 : decode prog_14_method_140_code 7 = .ok (.putfield 81, 3) := by decide +kernel
theorem d_M_oddness_10 : decode prog_14_method_140_code 10 = .ok (.aload_n 0, 1) := by decide +kernel
theorem d_M_oddness_11 : decode prog_14_method_140_code 11 = .ok (.iload_n 1, 1) := by decide +kernel
theorem d_M_oddness_12 : decode prog_14_method_140_code 12 = .ok (.invokevirtual 393, 3) := by decide +kernel
theorem d_M_oddness_15 : decode prog_14_method_140_code 15 = .ok (.ifCond .eq 11, 3) := by decide +kernel
theorem d_M_oddness_18 : decode prog_14_method_140_code 18 = .ok (.aload_n 0, 1) := by decide +kernel
theorem d_M_oddness_19 : decode prog_14_method_140_code 19 = .ok (.iload_n 1, 1) := by decide +kernel
theorem d_M_oddness_20 : decode prog_14_method_140_code 20 = .ok (.invokevirtual 462, 3) := by decide +kernel
theorem d_M_oddness_23 : decode prog_14_method_140_code 23 = .ok (.goto 8, 3) := by decide +kernel
theorem d_M_oddness_26 : decode prog_14_method_140_code 26 = .ok (.aload_n 0, 1) := by decide +kernel
theorem d_M_oddness_27 : decode prog_14_method_140_code 27 = .ok (.iconst 2, 1) := by decide +kernel
theorem d_M_oddness_28 : decode prog_14_method_140_code 28 = .ok (.invokevirtual 367, 3) := by decide +kernel
theorem d_M_oddness_31 : decode prog_14_method_140_code 31 = .ok (.ireturn, 1) := by decide +kernel
def M_oddness (Y : Ly) (l0 : Nat) (l1 : Int32) (h : Hp) : Option (Int32 × Hp) :=
  letH (hSi h 1201 l0 0) fun h1 =>
  letH (hSi h1 1200 l0 0) fun h2 =>
  (M_isFinaleAt Y l0 l1 h2).bind fun q3 =>
  if q3 = true then
    (M_oddOf Y l0 l1 h2).bind fun q5 =>
    some (q5, h2)
  else
    (M_refuse Y l0 2 h2).bind fun q6 =>
    some (q6.1, q6.2)
theorem ok_M_oddness (Y : Ly) (l0 : Nat) (l1 : Int32) (h : Hp) (t0 : isO Y 12 l0) : AM Y 2 K_M_oddness [.ref l0, .int l1] h (M_oddness Y l0 l1 h) rI := by
  refine AM.of rfl (Nat.le_of_ble_eq_true rfl) ?_
  show AW Y 2 K_M_oddness 0 [(0, .ref l0), (1, .int l1)] [] h (M_oddness Y l0 l1 h) rI
  unfold M_oddness
  refine aw_aload_n (pc := 0) d_M_oddness_0 rfl 0 rfl ?_
  refine aw_iconst (pc := 1) (x := 0) d_M_oddness_1 (by decide) ?_
  refine pt_1201 (pc := 2) d_M_oddness_2 w7_28 t0 ?_
  refine aw_letH (fun h1 => ?_)
  refine aw_aload_n (pc := 5) d_M_oddness_5 rfl 0 rfl ?_
  refine aw_iconst (pc := 6) (x := 0) d_M_oddness_6 (by decide) ?_
  refine pt_1200 (pc := 7) d_M_oddness_7 w7_27 t0 ?_
  refine aw_letH (fun h2 => ?_)
  refine aw_aload_n (pc := 10) d_M_oddness_10 rfl 0 rfl ?_
  refine aw_iload_n (pc := 11) d_M_oddness_11 rfl 1 rfl ?_
  refine aw_cVpZ (pc := 12) (ci := 12) (T := TX12) (N := 44) (As := [.int l1]) (st := []) (ok_M_isFinaleAt Y l0 l1 h2 t0) okV_M_isFinaleAt rfl (by decide) t0 w9_61 d_M_oddness_12 rfl (Nat.le_of_ble_eq_true rfl) rfl (Nat.le_of_ble_eq_true rfl) (fun q3 hq3 hTq3 => ?_)
  refine aw_beq (pc := 15) (tgt := 26) d_M_oddness_15 (by decide) (fun c4 => ?_) (fun c4 => ?_)
  · refine aw_aload_n (pc := 18) d_M_oddness_18 rfl 0 rfl ?_
    refine aw_iload_n (pc := 19) d_M_oddness_19 rfl 1 rfl ?_
    refine aw_cVpI (pc := 20) (ci := 12) (T := TX12) (N := 44) (As := [.int l1]) (st := []) (ok_M_oddOf Y l0 l1 h2 t0) okV_M_oddOf rfl (by decide) t0 w9_232 d_M_oddness_20 rfl (Nat.le_of_ble_eq_true rfl) rfl (Nat.le_of_ble_eq_true rfl) (fun q5 hq5 hTq5 => ?_)
    refine aw_goto (pc := 23) (tgt := 31) d_M_oddness_23 (by decide) ?_
    exact aw_ireturn (pc := 31) d_M_oddness_31 rfl rfl
  · refine aw_aload_n (pc := 26) d_M_oddness_26 rfl 0 rfl ?_
    refine aw_iconst (pc := 27) (x := 2) d_M_oddness_27 (by decide) ?_
    refine aw_cVrI (pc := 28) (ci := 12) (T := TX12) (N := 44) (As := [.int 2]) (st := []) (ok_M_refuse Y l0 2 h2 t0) okV_M_refuse rfl (by decide) t0 w9_8 d_M_oddness_28 rfl (Nat.le_of_ble_eq_true rfl) rfl (Nat.le_of_ble_eq_true rfl) (fun q6 hq6 hTq6 => ?_)
    exact aw_ireturn (pc := 31) d_M_oddness_31 rfl rfl
/-! LastPagesModel.offer(II)I -/
theorem d_M_offer_0 : decode prog_14_method_105_code 0 = .ok (.aload_n 0, 1) := by decide +kernel
theorem d_M_offer_1 : decode prog_14_method_105_code 1 = .ok (.iconst 0, 1) := by decide +kernel
theorem d_M_offer_2 : decode prog_14_method_105_code 2 = .ok (.putfield 78, 3) := by decide +kernel
theorem d_M_offer_5 : decode prog_14_method_105_code 5 = .ok (.aload_n 0, 1) := by decide +kernel
theorem d_M_offer_6 : decode prog_14_method_105_code 6 = .ok (.iconst 0, 1) := by decide +kernel
theorem d_M_offer_7 : decode prog_14_method_105_code 7 = .ok (.putfield 81, 3) := by decide +kernel
theorem d_M_offer_10 : decode prog_14_method_105_code 10 = .ok (.iload_n 1, 1) := by decide +kernel
theorem d_M_offer_11 : decode prog_14_method_105_code 11 = .ok (.i2l, 1) := by decide +kernel
theorem d_M_offer_12 : decode prog_14_method_105_code 12 = .ok (.lconst 0, 1) := by decide +kernel
theorem d_M_offer_13 : decode prog_14_method_105_code 13 = .ok (.aload_n 0, 1) := by decide +kernel
theorem d_M_offer_14 : decode prog_14_method_105_code 14 = .ok (.getfield 35, 3) := by decide +kernel
theorem d_M_offer_17 : decode prog_14_method_105_code 17 = .ok (.bipush 6, 2) := by decide +kernel
theorem d_M_offer_19 : decode prog_14_method_105_code 19 = .ok (.iaload, 1) := by decide +kernel
theorem d_M_offer_20 : decode prog_14_method_105_code 20 = .ok (.iconst 1, 1) := by decide +kernel
theorem d_M_offer_21 : decode prog_14_method_105_code 21 = .ok (.isub, 1) := by decide +kernel
theorem d_M_offer_22 : decode prog_14_method_105_code 22 = .ok (.i2l, 1) := by decide +kernel
theorem d_M_offer_23 : decode prog_14_method_105_code 23 = .ok (.invokestatic 113, 3) := by decide +kernel
theorem d_M_offer_26 : decode prog_14_method_105_code 26 = .ok (.ifCond .ne 9, 3) := by decide +kernel
theorem d_M_offer_29 : decode prog_14_method_105_code 29 = .ok (.aload_n 0, 1) := by decide +kernel
theorem d_M_offer_30 : decode prog_14_method_105_code 30 = .ok (.iconst 2, 1) := by decide +kernel
theorem d_M_offer_31 : decode prog_14_method_105_code 31 = .ok (.invokevirtual 367, 3) := by decide +kernel
theorem d_M_offer_34 : decode prog_14_method_105_code 34 = .ok (.ireturn, 1) := by decide +kernel
theorem d_M_offer_35 : decode prog_14_method_105_code 35 = .ok (.iload_n 2, 1) := by decide +kernel
theorem d_M_offer_36 : decode prog_14_method_105_code 36 = .ok (.ifCond .ne 16, 3) := by decide +kernel
theorem d_M_offer_39 : decode prog_14_method_105_code 39 = .ok (.aload_n 0, 1) := by decide +kernel
theorem d_M_offer_40 : decode prog_14_method_105_code 40 = .ok (.getfield 35, 3) := by decide +kernel
theorem d_M_offer_43 : decode prog_14_method_105_code 43 = .ok (.sipush 270, 3) := by decide +kernel
theorem d_M_offer_46 : decode prog_14_method_105_code 46 = .ok (.iload_n 1, 1) := by decide +kernel
theorem d_M_offer_47 : decode prog_14_method_105_code 47 = .ok (.iadd, 1) := by decide +kernel
theorem d_M_offer_48 : decode prog_14_method_105_code 48 = .ok (.iaload, 1) := by decide +kernel
theorem d_M_offer_49 : decode prog_14_method_105_code 49 = .ok (.goto 26, 3) := by decide +kernel
theorem d_M_offer_52 : decode prog_14_method_105_code 52 = .ok (.iload_n 2, 1) := by decide +kernel
theorem d_M_offer_53 : decode prog_14_method_105_code 53 = .ok (.iconst 1, 1) := by decide +kernel
theorem d_M_offer_54 : decode prog_14_method_105_code 54 = .ok (.if_icmp .ne 16, 3) := by decide +kernel
theorem d_M_offer_57 : decode prog_14_method_105_code 57 = .ok (.aload_n 0, 1) := by decide +kernel
theorem d_M_offer_58 : decode prog_14_method_105_code 58 = .ok (.getfield 35, 3) := by decide +kernel
theorem d_M_offer_61 : decode prog_14_method_105_code 61 = .ok (.sipush 276, 3) := by decide +kernel
theorem d_M_offer_64 : decode prog_14_method_105_code 64 = .ok (.iload_n 1, 1) := by decide +kernel
theorem d_M_offer_65 : decode prog_14_method_105_code 65 = .ok (.iadd, 1) := by decide +kernel
theorem d_M_offer_66 : decode prog_14_method_105_code 66 = .ok (.iaload, 1) := by decide +kernel
theorem d_M_offer_67 : decode prog_14_method_105_code 67 = .ok (.goto 8, 3) := by decide +kernel
theorem d_M_offer_70 : decode prog_14_method_105_code 70 = .ok (.aload_n 0, 1) := by decide +kernel
theorem d_M_offer_71 : decode prog_14_method_105_code 71 = .ok (.iconst 5, 1) := by decide +kernel
theorem d_M_offer_72 : decode prog_14_method_105_code 72 = .ok (.invokevirtual 367, 3) := by decide +kernel
theorem d_M_offer_75 : decode prog_14_method_105_code 75 = .ok (.ireturn, 1) := by decide +kernel
def M_offer (Y : Ly) (l0 : Nat) (l1 : Int32) (l2 : Int32) (h : Hp) : Option (Int32 × Hp) :=
  letH (hSi h 1201 l0 0) fun h1 =>
  letH (hSi h1 1200 l0 0) fun h2 =>
  if inB 6 (lnY Y (hGr h2 1220 l0)) = true then
    (M_isIn Y (Int32.toInt64 l1) 0 (Int32.toInt64 ((hAi h2 (hGr h2 1220 l0) (Int32.toNatClampNeg 6)) - 1)) h2).bind fun q5 =>
    if q5 = true then
      if l2 = 0 then
        if inB (270 + l1) (lnY Y (hGr h2 1220 l0)) = true then
          some (hAi h2 (hGr h2 1220 l0) (Int32.toNatClampNeg (270 + l1)), h2)
        else none
      else
        if l2 = 1 then
          if inB (276 + l1) (lnY Y (hGr h2 1220 l0)) = true then
            some (hAi h2 (hGr h2 1220 l0) (Int32.toNatClampNeg (276 + l1)), h2)
          else none
        else
          (M_refuse Y l0 5 h2).bind fun q13 =>
          some (q13.1, q13.2)
    else
      (M_refuse Y l0 2 h2).bind fun q14 =>
      some (q14.1, q14.2)
  else none
theorem ok_M_offer (Y : Ly) (l0 : Nat) (l1 : Int32) (l2 : Int32) (h : Hp) (t0 : isO Y 12 l0) : AM Y 1 K_M_offer [.ref l0, .int l1, .int l2] h (M_offer Y l0 l1 l2 h) rI := by
  refine AM.of rfl (Nat.le_of_ble_eq_true rfl) ?_
  show AW Y 1 K_M_offer 0 [(0, .ref l0), (1, .int l1), (2, .int l2)] [] h (M_offer Y l0 l1 l2 h) rI
  unfold M_offer
  refine aw_aload_n (pc := 0) d_M_offer_0 rfl 0 rfl ?_
  refine aw_iconst (pc := 1) (x := 0) d_M_offer_1 (by decide) ?_
  refine pt_1201 (pc := 2) d_M_offer_2 w7_28 t0 ?_
  refine aw_letH (fun h1 => ?_)
  refine aw_aload_n (pc := 5) d_M_offer_5 rfl 0 rfl ?_
  refine aw_iconst (pc := 6) (x := 0) d_M_offer_6 (by decide) ?_
  refine pt_1200 (pc := 7) d_M_offer_7 w7_27 t0 ?_
  refine aw_letH (fun h2 => ?_)
  refine aw_iload_n (pc := 10) d_M_offer_10 rfl 1 rfl ?_
  refine aw_i2l (pc := 11) d_M_offer_11 ?_
  refine aw_lconst (pc := 12) (x := 0) d_M_offer_12 (by decide) ?_
  refine aw_aload_n (pc := 13) d_M_offer_13 rfl 0 rfl ?_
  refine gt_1220 (pc := 14) d_M_offer_14 w7_47 t0 (fun tt3 => ?_)
  refine aw_bipush (pc := 17) (x := 6) d_M_offer_17 (by decide) ?_
  refine aw_iaload (pc := 19) d_M_offer_19 tt3 (fun c4 => ?_)
  refine aw_iconst (pc := 20) (x := 1) d_M_offer_20 (by decide) ?_
  refine aw_isub (pc := 21) d_M_offer_21 ?_
  refine aw_i2l (pc := 22) d_M_offer_22 ?_
  refine aw_cSpZ (pc := 23) (As := [.long (Int32.toInt64 l1), .long 0, .long (Int32.toInt64 ((hAi h2 (hGr h2 1220 l0) (Int32.toNatClampNeg 6)) - 1))]) (st := []) (ok_M_isIn Y (Int32.toInt64 l1) 0 (Int32.toInt64 ((hAi h2 (hGr h2 1220 l0) (Int32.toNatClampNeg 6)) - 1)) h2) okS_M_isIn w8_155 d_M_offer_23 rfl (Nat.le_of_ble_eq_true rfl) rfl (Nat.le_of_ble_eq_true rfl) (fun q5 hq5 hTq5 => ?_)
  refine aw_bne (pc := 26) (tgt := 35) d_M_offer_26 (by decide) (fun c6 => ?_) (fun c6 => ?_)
  · refine aw_iload_n (pc := 35) d_M_offer_35 rfl 2 rfl ?_
    refine aw_if_ne (pc := 36) (tgt := 52) d_M_offer_36 (by decide) (fun c7 => ?_) (fun c7 => ?_)
    · refine aw_aload_n (pc := 39) d_M_offer_39 rfl 0 rfl ?_
      refine gt_1220 (pc := 40) d_M_offer_40 w7_47 t0 (fun tt8 => ?_)
      refine aw_sipush (pc := 43) (x := 270) d_M_offer_43 (by decide) ?_
      refine aw_iload_n (pc := 46) d_M_offer_46 rfl 1 rfl ?_
      refine aw_iadd (pc := 47) d_M_offer_47 ?_
      refine aw_iaload (pc := 48) d_M_offer_48 tt8 (fun c9 => ?_)
      refine aw_goto (pc := 49) (tgt := 75) d_M_offer_49 (by decide) ?_
      exact aw_ireturn (pc := 75) d_M_offer_75 rfl rfl
    · refine aw_iload_n (pc := 52) d_M_offer_52 rfl 2 rfl ?_
      refine aw_iconst (pc := 53) (x := 1) d_M_offer_53 (by decide) ?_
      refine aw_icmp_ne (pc := 54) (tgt := 70) d_M_offer_54 (by decide) (fun c10 => ?_) (fun c10 => ?_)
      · refine aw_aload_n (pc := 57) d_M_offer_57 rfl 0 rfl ?_
        refine gt_1220 (pc := 58) d_M_offer_58 w7_47 t0 (fun tt11 => ?_)
        refine aw_sipush (pc := 61) (x := 276) d_M_offer_61 (by decide) ?_
        refine aw_iload_n (pc := 64) d_M_offer_64 rfl 1 rfl ?_
        refine aw_iadd (pc := 65) d_M_offer_65 ?_
        refine aw_iaload (pc := 66) d_M_offer_66 tt11 (fun c12 => ?_)
        refine aw_goto (pc := 67) (tgt := 75) d_M_offer_67 (by decide) ?_
        exact aw_ireturn (pc := 75) d_M_offer_75 rfl rfl
      · refine aw_aload_n (pc := 70) d_M_offer_70 rfl 0 rfl ?_
        refine aw_iconst (pc := 71) (x := 5) d_M_offer_71 (by decide) ?_
        refine aw_cVrI (pc := 72) (ci := 12) (T := TX12) (N := 44) (As := [.int 5]) (st := []) (ok_M_refuse Y l0 5 h2 t0) okV_M_refuse rfl (by decide) t0 w9_8 d_M_offer_72 rfl (Nat.le_of_ble_eq_true rfl) rfl (Nat.le_of_ble_eq_true rfl) (fun q13 hq13 hTq13 => ?_)
        exact aw_ireturn (pc := 75) d_M_offer_75 rfl rfl
  · refine aw_aload_n (pc := 29) d_M_offer_29 rfl 0 rfl ?_
    refine aw_iconst (pc := 30) (x := 2) d_M_offer_30 (by decide) ?_
    refine aw_cVrI (pc := 31) (ci := 12) (T := TX12) (N := 44) (As := [.int 2]) (st := []) (ok_M_refuse Y l0 2 h2 t0) okV_M_refuse rfl (by decide) t0 w9_8 d_M_offer_31 rfl (Nat.le_of_ble_eq_true rfl) rfl (Nat.le_of_ble_eq_true rfl) (fun q14 hq14 hTq14 => ?_)
    exact aw_ireturn (pc := 34) d_M_offer_34 rfl rfl
/-! LastPagesModel.page(II)I -/
theorem d_M_page_0 : decode prog_14_method_102_code 0 = .ok (.aload_n 0, 1) := by decide +kernel
theorem d_M_page_1 : decode prog_14_method_102_code 1 = .ok (.iconst 0, 1) := by decide +kernel
theorem d_M_page_2 : decode prog_14_method_102_code 2 = .ok (.putfield 78, 3) := by decide +kernel
theorem d_M_page_5 : decode prog_14_method_102_code 5 = .ok (.aload_n 0, 1) := by decide +kernel
theorem d_M_page_6 : decode prog_14_method_102_code 6 = .ok (.iconst 0, 1) := by decide +kernel
theorem d_M_page_7 : decode prog_14_method_102_code 7 = .ok (.putfield 81, 3) := by decide +kernel
theorem d_M_page_10 : decode prog_14_method_102_code 10 = .ok (.aload_n 0, 1) := by decide +kernel
theorem d_M_page_11 : decode prog_14_method_102_code 11 = .ok (.iload_n 1, 1) := by decide +kernel
theorem d_M_page_12 : decode prog_14_method_102_code 12 = .ok (.invokevirtual 382, 3) := by decide +kernel
theorem d_M_page_15 : decode prog_14_method_102_code 15 = .ok (.ifCond .ne 9, 3) := by decide +kernel
theorem d_M_page_18 : decode prog_14_method_102_code 18 = .ok (.aload_n 0, 1) := by decide +kernel
theorem d_M_page_19 : decode prog_14_method_102_code 19 = .ok (.iconst 2, 1) := by decide +kernel
theorem d_M_page_20 : decode prog_14_method_102_code 20 = .ok (.invokevirtual 367, 3) := by decide +kernel
theorem d_M_page_23 : decode prog_14_method_102_code 23 = .ok (.ireturn, 1) := by decide +kernel
theorem d_M_page_24 : decode prog_14_method_102_code 24 = .ok (.iload_n 2, 1) := by decide +kernel
theorem d_M_page_25 : decode prog_14_method_102_code 25 = .ok (.i2l, 1) := by decide +kernel
theorem d_M_page_26 : decode prog_14_method_102_code 26 = .ok (.lconst 0, 1) := by decide +kernel
theorem d_M_page_27 : decode prog_14_method_102_code 27 = .ok (.aload_n 0, 1) := by decide +kernel
theorem d_M_page_28 : decode prog_14_method_102_code 28 = .ok (.getfield 35, 3) := by decide +kernel
theorem d_M_page_31 : decode prog_14_method_102_code 31 = .ok (.bipush 94, 2) := by decide +kernel
theorem d_M_page_33 : decode prog_14_method_102_code 33 = .ok (.iload_n 1, 1) := by decide +kernel
theorem d_M_page_34 : decode prog_14_method_102_code 34 = .ok (.iadd, 1) := by decide +kernel
theorem d_M_page_35 : decode prog_14_method_102_code 35 = .ok (.iaload, 1) := by decide +kernel
theorem d_M_page_36 : decode prog_14_method_102_code 36 = .ok (.iconst 1, 1) := by decide +kernel
theorem d_M_page_37 : decode prog_14_method_102_code 37 = .ok (.isub, 1) := by decide +kernel
theorem d_M_page_38 : decode prog_14_method_102_code 38 = .ok (.i2l, 1) := by decide +kernel
theorem d_M_page_39 : decode prog_14_method_102_code 39 = .ok (.invokestatic 113, 3) := by decide +kernel
theorem d_M_page_42 : decode prog_14_method_102_code 42 = .ok (.ifCond .eq 20, 3) := by decide +kernel
theorem d_M_page_45 : decode prog_14_method_102_code 45 = .ok (.aload_n 0, 1) := by decide +kernel
theorem d_M_page_46 : decode prog_14_method_102_code 46 = .ok (.getfield 35, 3) := by decide +kernel
theorem d_M_page_49 : decode prog_14_method_102_code 49 = .ok (.bipush 106, 2) := by decide +kernel
theorem d_M_page_51 : decode prog_14_method_102_code 51 = .ok (.bipush 10, 2) := by decide +kernel
theorem d_M_page_53 : decode prog_14_method_102_code 53 = .ok (.iload_n 1, 1) := by decide +kernel
theorem d_M_page_54 : decode prog_14_method_102_code 54 = .ok (.imul, 1) := by decide +kernel
theorem d_M_page_55 : decode prog_14_method_102_code 55 = .ok (.iadd, 1) := by decide +kernel
theorem d_M_page_56 : decode prog_14_method_102_code 56 = .ok (.iload_n 2, 1) := by decide +kernel
theorem d_M_page_57 : decode prog_14_method_102_code 57 = .ok (.iadd, 1) := by decide +kernel
theorem d_M_page_58 : decode prog_14_method_102_code 58 = .ok (.iaload, 1) := by decide +kernel
theorem d_M_page_59 : decode prog_14_method_102_code 59 = .ok (.goto 9, 3) := by decide +kernel
theorem d_M_page_62 : decode prog_14_method_102_code 62 = .ok (.aload_n 0, 1) := by decide +kernel
theorem d_M_page_63 : decode prog_14_method_102_code 63 = .ok (.bipush 8, 2) := by decide +kernel
theorem d_M_page_65 : decode prog_14_method_102_code 65 = .ok (.invokevirtual 367, 3) := by decide +kernel
theorem d_M_page_68 : decode prog_14_method_102_code 68 = .ok (.ireturn, 1) := by decide +kernel
def M_page (Y : Ly) (l0 : Nat) (l1 : Int32) (l2 : Int32) (h : Hp) : Option (Int32 × Hp) :=
  letH (hSi h 1201 l0 0) fun h1 =>
  letH (hSi h1 1200 l0 0) fun h2 =>
  (M_isBookAt Y l0 l1 h2).bind fun q3 =>
  if q3 = true then
    if inB (94 + l1) (lnY Y (hGr h2 1220 l0)) = true then
      (M_isIn Y (Int32.toInt64 l2) 0 (Int32.toInt64 ((hAi h2 (hGr h2 1220 l0) (Int32.toNatClampNeg (94 + l1))) - 1)) h2).bind fun q7 =>
      if q7 = true then
        if inB ((106 + (10 * l1)) + l2) (lnY Y (hGr h2 1220 l0)) = true then
          some (hAi h2 (hGr h2 1220 l0) (Int32.toNatClampNeg ((106 + (10 * l1)) + l2)), h2)
        else none
      else
        (M_refuse Y l0 8 h2).bind fun q11 =>
        some (q11.1, q11.2)
    else none
  else
    (M_refuse Y l0 2 h2).bind fun q12 =>
    some (q12.1, q12.2)
theorem ok_M_page (Y : Ly) (l0 : Nat) (l1 : Int32) (l2 : Int32) (h : Hp) (t0 : isO Y 12 l0) : AM Y 2 K_M_page [.ref l0, .int l1, .int l2] h (M_page Y l0 l1 l2 h) rI := by
  refine AM.of rfl (Nat.le_of_ble_eq_true rfl) ?_
  show AW Y 2 K_M_page 0 [(0, .ref l0), (1, .int l1), (2, .int l2)] [] h (M_page Y l0 l1 l2 h) rI
  unfold M_page
  refine aw_aload_n (pc := 0) d_M_page_0 rfl 0 rfl ?_
  refine aw_iconst (pc := 1) (x := 0) d_M_page_1 (by decide) ?_
  refine pt_1201 (pc := 2) d_M_page_2 w7_28 t0 ?_
  refine aw_letH (fun h1 => ?_)
  refine aw_aload_n (pc := 5) d_M_page_5 rfl 0 rfl ?_
  refine aw_iconst (pc := 6) (x := 0) d_M_page_6 (by decide) ?_
  refine pt_1200 (pc := 7) d_M_page_7 w7_27 t0 ?_
  refine aw_letH (fun h2 => ?_)
  refine aw_aload_n (pc := 10) d_M_page_10 rfl 0 rfl ?_
  refine aw_iload_n (pc := 11) d_M_page_11 rfl 1 rfl ?_
  refine aw_cVpZ (pc := 12) (ci := 12) (T := TX12) (N := 44) (As := [.int l1]) (st := []) (ok_M_isBookAt Y l0 l1 h2 t0) okV_M_isBookAt rfl (by decide) t0 w9_40 d_M_page_12 rfl (Nat.le_of_ble_eq_true rfl) rfl (Nat.le_of_ble_eq_true rfl) (fun q3 hq3 hTq3 => ?_)
  refine aw_bne (pc := 15) (tgt := 24) d_M_page_15 (by decide) (fun c4 => ?_) (fun c4 => ?_)
  · refine aw_iload_n (pc := 24) d_M_page_24 rfl 2 rfl ?_
    refine aw_i2l (pc := 25) d_M_page_25 ?_
    refine aw_lconst (pc := 26) (x := 0) d_M_page_26 (by decide) ?_
    refine aw_aload_n (pc := 27) d_M_page_27 rfl 0 rfl ?_
    refine gt_1220 (pc := 28) d_M_page_28 w7_47 t0 (fun tt5 => ?_)
    refine aw_bipush (pc := 31) (x := 94) d_M_page_31 (by decide) ?_
    refine aw_iload_n (pc := 33) d_M_page_33 rfl 1 rfl ?_
    refine aw_iadd (pc := 34) d_M_page_34 ?_
    refine aw_iaload (pc := 35) d_M_page_35 tt5 (fun c6 => ?_)
    refine aw_iconst (pc := 36) (x := 1) d_M_page_36 (by decide) ?_
    refine aw_isub (pc := 37) d_M_page_37 ?_
    refine aw_i2l (pc := 38) d_M_page_38 ?_
    refine aw_cSpZ (pc := 39) (As := [.long (Int32.toInt64 l2), .long 0, .long (Int32.toInt64 ((hAi h2 (hGr h2 1220 l0) (Int32.toNatClampNeg (94 + l1))) - 1))]) (st := []) (ok_M_isIn Y (Int32.toInt64 l2) 0 (Int32.toInt64 ((hAi h2 (hGr h2 1220 l0) (Int32.toNatClampNeg (94 + l1))) - 1)) h2) okS_M_isIn w8_155 d_M_page_39 rfl (Nat.le_of_ble_eq_true rfl) rfl (Nat.le_of_ble_eq_true rfl) (fun q7 hq7 hTq7 => ?_)
    refine aw_beq (pc := 42) (tgt := 62) d_M_page_42 (by decide) (fun c8 => ?_) (fun c8 => ?_)
    · refine aw_aload_n (pc := 45) d_M_page_45 rfl 0 rfl ?_
      refine gt_1220 (pc := 46) d_M_page_46 w7_47 t0 (fun tt9 => ?_)
      refine aw_bipush (pc := 49) (x := 106) d_M_page_49 (by decide) ?_
      refine aw_bipush (pc := 51) (x := 10) d_M_page_51 (by decide) ?_
      refine aw_iload_n (pc := 53) d_M_page_53 rfl 1 rfl ?_
      refine aw_imul (pc := 54) d_M_page_54 ?_
      refine aw_iadd (pc := 55) d_M_page_55 ?_
      refine aw_iload_n (pc := 56) d_M_page_56 rfl 2 rfl ?_
      refine aw_iadd (pc := 57) d_M_page_57 ?_
      refine aw_iaload (pc := 58) d_M_page_58 tt9 (fun c10 => ?_)
      refine aw_goto (pc := 59) (tgt := 68) d_M_page_59 (by decide) ?_
      exact aw_ireturn (pc := 68) d_M_page_68 rfl rfl
    · refine aw_aload_n (pc := 62) d_M_page_62 rfl 0 rfl ?_
      refine aw_bipush (pc := 63) (x := 8) d_M_page_63 (by decide) ?_
      refine aw_cVrI (pc := 65) (ci := 12) (T := TX12) (N := 44) (As := [.int 8]) (st := []) (ok_M_refuse Y l0 8 h2 t0) okV_M_refuse rfl (by decide) t0 w9_8 d_M_page_65 rfl (Nat.le_of_ble_eq_true rfl) rfl (Nat.le_of_ble_eq_true rfl) (fun q11 hq11 hTq11 => ?_)
      exact aw_ireturn (pc := 68) d_M_page_68 rfl rfl
  · refine aw_aload_n (pc := 18) d_M_page_18 rfl 0 rfl ?_
    refine aw_iconst (pc := 19) (x := 2) d_M_page_19 (by decide) ?_
    refine aw_cVrI (pc := 20) (ci := 12) (T := TX12) (N := 44) (As := [.int 2]) (st := []) (ok_M_refuse Y l0 2 h2 t0) okV_M_refuse rfl (by decide) t0 w9_8 d_M_page_20 rfl (Nat.le_of_ble_eq_true rfl) rfl (Nat.le_of_ble_eq_true rfl) (fun q12 hq12 hTq12 => ?_)
    exact aw_ireturn (pc := 23) d_M_page_23 rfl rfl
/-! LastPagesModel.trayed(I)I -/
theorem d_M_trayed_0 : decode prog_14_method_12_code 0 = .ok (.iload_n 1, 1) := by decide +kernel
theorem d_M_trayed_1 : decode prog_14_method_12_code 1 = .ok (.ifCond .lt 8, 3) := by decide +kernel
theorem d_M_trayed_4 : decode prog_14_method_12_code 4 = .ok (.iload_n 1, 1) := by decide +kernel
theorem d_M_trayed_5 : decode prog_14_method_12_code 5 = .ok (.iconst 4, 1) := by decide +kernel
theorem d_M_trayed_6 : decode prog_14_method_12_code 6 = .ok (.if_icmp .lt 7, 3) := by decide +kernel
theorem d_M_trayed_9 : decode prog_14_method_12_code 9 = .ok (.iconst 1, 1) := by decide +kernel
theorem d_M_trayed_10 : decode prog_14_method_12_code 10 = .ok (.goto 17, 3) := by decide +kernel
theorem d_M_trayed_13 : decode prog_14_method_12_code 13 = .ok (.aload_n 0, 1) := by decide +kernel
theorem d_M_trayed_14 : decode prog_14_method_12_code 14 = .ok (.getfield 17, 3) := by decide +kernel
theorem d_M_trayed_17 : decode prog_14_method_12_code 17 = .ok (.iload_n 1, 1) := by decide +kernel
theorem d_M_trayed_18 : decode prog_14_method_12_code 18 = .ok (.iaload, 1) := by decide +kernel
theorem d_M_trayed_19 : decode prog_14_method_12_code 19 = .ok (.ifCond .ge 7, 3) := by decide +kernel
theorem d_M_trayed_22 : decode prog_14_method_12_code 22 = .ok (.iconst 3, 1) := by decide +kernel
theorem d_M_trayed_23 : decode prog_14_method_12_code 23 = .ok (.goto 4, 3) := by decide +kernel
theorem d_M_trayed_26 : decode prog_14_method_12_code 26 = .ok (.iconst 0, 1) := by decide +kernel
theorem d_M_trayed_27 : decode prog_14_method_12_code 27 = .ok (.ireturn, 1) := by decide +kernel
def M_trayed (Y : Ly) (l0 : Nat) (l1 : Int32) (h : Hp) : Option Int32 :=
  if l1 < 0 then
    some 1
  else
    if l1 < 4 then
      if inB l1 (lnY Y (hGr h 1205 l0)) = true then
        if 0 ≤ (hAi h (hGr h 1205 l0) (Int32.toNatClampNeg l1)) then
          some 0
        else
          some 3
      else none
    else
      some 1
theorem ok_M_trayed (Y : Ly) (l0 : Nat) (l1 : Int32) (h : Hp) (t0 : isO Y 12 l0) : AM Y 0 K_M_trayed [.ref l0, .int l1] h (M_trayed Y l0 l1 h) (pI h) := by
  refine AM.of rfl (Nat.le_of_ble_eq_true rfl) ?_
  show AW Y 0 K_M_trayed 0 [(0, .ref l0), (1, .int l1)] [] h (M_trayed Y l0 l1 h) (pI h)
  unfold M_trayed
  refine aw_iload_n (pc := 0) d_M_trayed_0 rfl 1 rfl ?_
  refine aw_if_lt (pc := 1) (tgt := 9) d_M_trayed_1 (by decide) (fun c1 => ?_) (fun c1 => ?_)
  · refine aw_iconst (pc := 9) (x := 1) d_M_trayed_9 (by decide) ?_
    refine aw_goto (pc := 10) (tgt := 27) d_M_trayed_10 (by decide) ?_
    exact aw_ireturn (pc := 27) d_M_trayed_27 rfl rfl
  · refine aw_iload_n (pc := 4) d_M_trayed_4 rfl 1 rfl ?_
    refine aw_iconst (pc := 5) (x := 4) d_M_trayed_5 (by decide) ?_
    refine aw_icmp_lt (pc := 6) (tgt := 13) d_M_trayed_6 (by decide) (fun c2 => ?_) (fun c2 => ?_)
    · refine aw_aload_n (pc := 13) d_M_trayed_13 rfl 0 rfl ?_
      refine gt_1205 (pc := 14) d_M_trayed_14 w7_32 t0 (fun tt3 => ?_)
      refine aw_iload_n (pc := 17) d_M_trayed_17 rfl 1 rfl ?_
      refine aw_iaload (pc := 18) d_M_trayed_18 tt3 (fun c4 => ?_)
      refine aw_if_ge (pc := 19) (tgt := 26) d_M_trayed_19 (by decide) (fun c5 => ?_) (fun c5 => ?_)
      · refine aw_iconst (pc := 26) (x := 0) d_M_trayed_26 (by decide) ?_
        exact aw_ireturn (pc := 27) d_M_trayed_27 rfl rfl
      · refine aw_iconst (pc := 22) (x := 3) d_M_trayed_22 (by decide) ?_
        refine aw_goto (pc := 23) (tgt := 27) d_M_trayed_23 (by decide) ?_
        exact aw_ireturn (pc := 27) d_M_trayed_27 rfl rfl
    · refine aw_iconst (pc := 9) (x := 1) d_M_trayed_9 (by decide) ?_
      refine aw_goto (pc := 10) (tgt := 27) d_M_trayed_10 (by decide) ?_
      exact aw_ireturn (pc := 27) d_M_trayed_27 rfl rfl
/-! LastPagesModel.placed(II)I -/
theorem d_M_placed_0 : decode prog_14_method_13_code 0 = .ok (.aload_n 0, 1) := by decide +kernel
theorem d_M_placed_1 : decode prog_14_method_13_code 1 = .ok (.iload_n 1, 1) := by decide +kernel
theorem d_M_placed_2 : decode prog_14_method_13_code 2 = .ok (.invokevirtual 97, 3) := by decide +kernel
theorem d_M_placed_5 : decode prog_14_method_13_code 5 = .ok (.istore_n 3, 1) := by decide +kernel
theorem d_M_placed_6 : decode prog_14_method_13_code 6 = .ok (.iload_n 3, 1) := by decide +kernel
theorem d_M_placed_7 : decode prog_14_method_13_code 7 = .ok (.ifCond .le 7, 3) := by decide +kernel
theorem d_M_placed_10 : decode prog_14_method_13_code 10 = .ok (.iload_n 3, 1) := by decide +kernel
theorem d_M_placed_11 : decode prog_14_method_13_code 11 = .ok (.goto 22, 3) := by decide +kernel
theorem d_M_placed_14 : decode prog_14_method_13_code 14 = .ok (.iload_n 2, 1) := by decide +kernel
theorem d_M_placed_15 : decode prog_14_method_13_code 15 = .ok (.ifCond .lt 13, 3) := by decide +kernel
theorem d_M_placed_18 : decode prog_14_method_13_code 18 = .ok (.iload_n 2, 1) := by decide +kernel
theorem d_M_placed_19 : decode prog_14_method_13_code 19 = .ok (.aload_n 0, 1) := by decide +kernel
theorem d_M_placed_20 : decode prog_14_method_13_code 20 = .ok (.getfield 17, 3) := by decide +kernel
theorem d_M_placed_23 : decode prog_14_method_13_code 23 = .ok (.iload_n 1, 1) := by decide +kernel
theorem d_M_placed_24 : decode prog_14_method_13_code 24 = .ok (.iaload, 1) := by decide +kernel
theorem d_M_placed_25 : decode prog_14_method_13_code 25 = .ok (.if_icmp .lt 7, 3) := by decide +kernel
theorem d_M_placed_28 : decode prog_14_method_13_code 28 = .ok (.iconst 4, 1) := by decide +kernel
theorem d_M_placed_29 : decode prog_14_method_13_code 29 = .ok (.goto 4, 3) := by decide +kernel
theorem d_M_placed_32 : decode prog_14_method_13_code 32 = .ok (.iconst 0, 1) := by decide +kernel
theorem d_M_placed_33 : decode prog_14_method_13_code 33 = .ok (.ireturn, 1) := by decide +kernel
def M_placed (Y : Ly) (l0 : Nat) (l1 : Int32) (l2 : Int32) (h : Hp) : Option Int32 :=
  (M_trayed Y l0 l1 h).bind fun q1 =>
  if q1 ≤ 0 then
    if l2 < 0 then
      some 4
    else
      if inB l1 (lnY Y (hGr h 1205 l0)) = true then
        if l2 < (hAi h (hGr h 1205 l0) (Int32.toNatClampNeg l1)) then
          some 0
        else
          some 4
      else none
  else
    some q1
theorem ok_M_placed (Y : Ly) (l0 : Nat) (l1 : Int32) (l2 : Int32) (h : Hp) (t0 : isO Y 12 l0) : AM Y 1 K_M_placed [.ref l0, .int l1, .int l2] h (M_placed Y l0 l1 l2 h) (pI h) := by
  refine AM.of rfl (Nat.le_of_ble_eq_true rfl) ?_
  show AW Y 1 K_M_placed 0 [(0, .ref l0), (1, .int l1), (2, .int l2)] [] h (M_placed Y l0 l1 l2 h) (pI h)
  unfold M_placed
  refine aw_aload_n (pc := 0) d_M_placed_0 rfl 0 rfl ?_
  refine aw_iload_n (pc := 1) d_M_placed_1 rfl 1 rfl ?_
  refine aw_cVpI (pc := 2) (ci := 12) (T := TX12) (N := 44) (As := [.int l1]) (st := []) (ok_M_trayed Y l0 l1 h t0) okV_M_trayed rfl (by decide) t0 w7_188 d_M_placed_2 rfl (Nat.le_of_ble_eq_true rfl) rfl (Nat.le_of_ble_eq_true rfl) (fun q1 hq1 hTq1 => ?_)
  refine aw_istore_n (pc := 5) (lv' := [(3, .int q1), (0, .ref l0), (1, .int l1), (2, .int l2)]) d_M_placed_5 rfl (by decide) rfl ?_
  refine aw_iload_n (pc := 6) d_M_placed_6 rfl 0 rfl ?_
  refine aw_if_le (pc := 7) (tgt := 14) d_M_placed_7 (by decide) (fun c2 => ?_) (fun c2 => ?_)
  · refine aw_iload_n (pc := 14) d_M_placed_14 rfl 3 rfl ?_
    refine aw_if_lt (pc := 15) (tgt := 28) d_M_placed_15 (by decide) (fun c3 => ?_) (fun c3 => ?_)
    · refine aw_iconst (pc := 28) (x := 4) d_M_placed_28 (by decide) ?_
      refine aw_goto (pc := 29) (tgt := 33) d_M_placed_29 (by decide) ?_
      exact aw_ireturn (pc := 33) d_M_placed_33 rfl rfl
    · refine aw_iload_n (pc := 18) d_M_placed_18 rfl 3 rfl ?_
      refine aw_aload_n (pc := 19) d_M_placed_19 rfl 1 rfl ?_
      refine gt_1205 (pc := 20) d_M_placed_20 w7_32 t0 (fun tt4 => ?_)
      refine aw_iload_n (pc := 23) d_M_placed_23 rfl 2 rfl ?_
      refine aw_iaload (pc := 24) d_M_placed_24 tt4 (fun c5 => ?_)
      refine aw_icmp_lt (pc := 25) (tgt := 32) d_M_placed_25 (by decide) (fun c6 => ?_) (fun c6 => ?_)
      · refine aw_iconst (pc := 32) (x := 0) d_M_placed_32 (by decide) ?_
        exact aw_ireturn (pc := 33) d_M_placed_33 rfl rfl
      · refine aw_iconst (pc := 28) (x := 4) d_M_placed_28 (by decide) ?_
        refine aw_goto (pc := 29) (tgt := 33) d_M_placed_29 (by decide) ?_
        exact aw_ireturn (pc := 33) d_M_placed_33 rfl rfl
  · refine aw_iload_n (pc := 10) d_M_placed_10 rfl 0 rfl ?_
    refine aw_goto (pc := 11) (tgt := 33) d_M_placed_11 (by decide) ?_
    exact aw_ireturn (pc := 33) d_M_placed_33 rfl rfl
/-! LastPagesModel.pour(IIIII)Z -/
theorem d_M_pour_0 : decode prog_14_method_16_code 0 = .ok (.aload_n 0, 1) := by decide +kernel
theorem d_M_pour_1 : decode prog_14_method_16_code 1 = .ok (.iconst 0, 1) := by decide +kernel
theorem d_M_pour_2 : decode prog_14_method_16_code 2 = .ok (.putfield 78, 3) := by decide +kernel
theorem d_M_pour_5 : decode prog_14_method_16_code 5 = .ok (.aload_n 0, 1) := by decide +kernel
theorem d_M_pour_6 : decode prog_14_method_16_code 6 = .ok (.iconst 0, 1) := by decide +kernel
theorem d_M_pour_7 : decode prog_14_method_16_code 7 = .ok (.putfield 81, 3) := by decide +kernel
theorem d_M_pour_10 : decode prog_14_method_16_code 10 = .ok (.iload_n 1, 1) := by decide +kernel
theorem d_M_pour_11 : decode prog_14_method_16_code 11 = .ok (.ifCond .lt 17, 3) := by decide +kernel
theorem d_M_pour_14 : decode prog_14_method_16_code 14 = .ok (.iload_n 1, 1) := by decide +kernel
theorem d_M_pour_15 : decode prog_14_method_16_code 15 = .ok (.iconst 4, 1) := by decide +kernel
theorem d_M_pour_16 : decode prog_14_method_16_code 16 = .ok (.if_icmp .ge 12, 3) := by decide +kernel
theorem d_M_pour_19 : decode prog_14_method_16_code 19 = .ok (.iload_n 3, 1) := by decide +kernel
theorem d_M_pour_20 : decode prog_14_method_16_code 20 = .ok (.ifCond .lt 8, 3) := by decide +kernel
theorem d_M_pour_23 : decode prog_14_method_16_code 23 = .ok (.iload_n 3, 1) := by decide +kernel
theorem d_M_pour_24 : decode prog_14_method_16_code 24 = .ok (.iconst 4, 1) := by decide +kernel
theorem d_M_pour_25 : decode prog_14_method_16_code 25 = .ok (.if_icmp .lt 9, 3) := by decide +kernel
theorem d_M_pour_28 : decode prog_14_method_16_code 28 = .ok (.aload_n 0, 1) := by decide +kernel
theorem d_M_pour_29 : decode prog_14_method_16_code 29 = .ok (.iconst 1, 1) := by decide +kernel
theorem d_M_pour_30 : decode prog_14_method_16_code 30 = .ok (.invokevirtual 93, 3) := by decide +kernel
theorem d_M_pour_33 : decode prog_14_method_16_code 33 = .ok (.ireturn, 1) := by decide +kernel
theorem d_M_pour_34 : decode prog_14_method_16_code 34 = .ok (.aload_n 0, 1) := by decide +kernel
theorem d_M_pour_35 : decode prog_14_method_16_code 35 = .ok (.getfield 17, 3) := by decide +kernel
theorem d_M_pour_38 : decode prog_14_method_16_code 38 = .ok (.iload_n 1, 1) := by decide +kernel
theorem d_M_pour_39 : decode prog_14_method_16_code 39 = .ok (.iaload, 1) := by decide +kernel
theorem d_M_pour_40 : decode prog_14_method_16_code 40 = .ok (.ifCond .lt 12, 3) := by decide +kernel
theorem d_M_pour_43 : decode prog_14_method_16_code 43 = .ok (.aload_n 0, 1) := by decide +kernel
theorem d_M_pour_44 : decode prog_14_method_16_code 44 = .ok (.getfield 17, 3) := by decide +kernel
theorem d_M_pour_47 : decode prog_14_method_16_code 47 = .ok (.iload_n 3, 1) := by decide +kernel
theorem d_M_pour_48 : decode prog_14_method_16_code 48 = .ok (.iaload, 1) := by decide +kernel
theorem d_M_pour_49 : decode prog_14_method_16_code 49 = .ok (.ifCond .ge 9, 3) := by decide +kernel
theorem d_M_pour_52 : decode prog_14_method_16_code 52 = .ok (.aload_n 0, 1) := by decide +kernel
theorem d_M_pour_53 : decode prog_14_method_16_code 53 = .ok (.iconst 3, 1) := by decide +kernel
theorem d_M_pour_54 : decode prog_14_method_16_code 54 = .ok (.invokevirtual 93, 3) := by decide +kernel
theorem d_M_pour_57 : decode prog_14_method_16_code 57 = .ok (.ireturn, 1) := by decide +kernel
theorem d_M_pour_58 : decode prog_14_method_16_code 58 = .ok (.aload_n 0, 1) := by decide +kernel
theorem d_M_pour_59 : decode prog_14_method_16_code 59 = .ok (.getfield 13, 3) := by decide +kernel
theorem d_M_pour_62 : decode prog_14_method_16_code 62 = .ok (.iload_n 1, 1) := by decide +kernel
theorem d_M_pour_63 : decode prog_14_method_16_code 63 = .ok (.iaload, 1) := by decide +kernel
theorem d_M_pour_64 : decode prog_14_method_16_code 64 = .ok (.aload_n 0, 1) := by decide +kernel
theorem d_M_pour_65 : decode prog_14_method_16_code 65 = .ok (.getfield 13, 3) := by decide +kernel
theorem d_M_pour_68 : decode prog_14_method_16_code 68 = .ok (.iload_n 3, 1) := by decide +kernel
theorem d_M_pour_69 : decode prog_14_method_16_code 69 = .ok (.iaload, 1) := by decide +kernel
theorem d_M_pour_70 : decode prog_14_method_16_code 70 = .ok (.if_icmp .eq 10, 3) := by decide +kernel
theorem d_M_pour_73 : decode prog_14_method_16_code 73 = .ok (.aload_n 0, 1) := by decide +kernel
theorem d_M_pour_74 : decode prog_14_method_16_code 74 = .ok (.bipush 11, 2) := by decide +kernel
theorem d_M_pour_76 : decode prog_14_method_16_code 76 = .ok (.invokevirtual 93, 3) := by decide +kernel
theorem d_M_pour_79 : decode prog_14_method_16_code 79 = .ok (.ireturn, 1) := by decide +kernel
theorem d_M_pour_80 : decode prog_14_method_16_code 80 = .ok (.iload 5, 2) := by decide +kernel
theorem d_M_pour_82 : decode prog_14_method_16_code 82 = .ok (.ifCond .ge 10, 3) := by decide +kernel
theorem d_M_pour_85 : decode prog_14_method_16_code 85 = .ok (.aload_n 0, 1) := by decide +kernel
theorem d_M_pour_86 : decode prog_14_method_16_code 86 = .ok (.bipush 6, 2) := by decide +kernel
theorem d_M_pour_88 : decode prog_14_method_16_code 88 = .ok (.invokevirtual 93, 3) := by decide +kernel
theorem d_M_pour_91 : decode prog_14_method_16_code 91 = .ok (.ireturn, 1) := by decide +kernel
theorem d_M_pour_92 : decode prog_14_method_16_code 92 = .ok (.iload_n 2, 1) := by decide +kernel
theorem d_M_pour_93 : decode prog_14_method_16_code 93 = .ok (.ifCond .lt 43, 3) := by decide +kernel
theorem d_M_pour_96 : decode prog_14_method_16_code 96 = .ok (.iload 4, 2) := by decide +kernel
theorem d_M_pour_98 : decode prog_14_method_16_code 98 = .ok (.ifCond .lt 38, 3) := by decide +kernel
theorem d_M_pour_101 : decode prog_14_method_16_code 101 = .ok (.iload_n 2, 1) := by decide +kernel
theorem d_M_pour_102 : decode prog_14_method_16_code 102 = .ok (.i2l, 1) := by decide +kernel
theorem d_M_pour_103 : decode prog_14_method_16_code 103 = .ok (.iload 5, 2) := by decide +kernel
theorem d_M_pour_105 : decode prog_14_method_16_code 105 = .ok (.i2l, 1) := by decide +kernel
theorem d_M_pour_106 : decode prog_14_method_16_code 106 = .ok (.ladd, 1) := by decide +kernel
theorem d_M_pour_107 : decode prog_14_method_16_code 107 = .ok (.aload_n 0, 1) := by decide +kernel
theorem d_M_pour_108 : decode prog_14_method_16_code 108 = .ok (.getfield 17, 3) := by decide +kernel
theorem d_M_pour_111 : decode prog_14_method_16_code 111 = .ok (.iload_n 1, 1) := by decide +kernel
theorem d_M_pour_112 : decode prog_14_method_16_code 112 = .ok (.iaload, 1) := by decide +kernel
theorem d_M_pour_113 : decode prog_14_method_16_code 113 = .ok (.i2l, 1) := by decide +kernel
theorem d_M_pour_114 : decode prog_14_method_16_code 114 = .ok (.lcmp, 1) := by decide +kernel
theorem d_M_pour_115 : decode prog_14_method_16_code 115 = .ok (.ifCond .gt 21, 3) := by decide +kernel
theorem d_M_pour_118 : decode prog_14_method_16_code 118 = .ok (.iload 4, 2) := by decide +kernel
theorem d_M_pour_120 : decode prog_14_method_16_code 120 = .ok (.i2l, 1) := by decide +kernel
theorem d_M_pour_121 : decode prog_14_method_16_code 121 = .ok (.iload 5, 2) := by decide +kernel
theorem d_M_pour_123 : decode prog_14_method_16_code 123 = .ok (.i2l, 1) := by decide +kernel
theorem d_M_pour_124 : decode prog_14_method_16_code 124 = .ok (.ladd, 1) := by decide +kernel
theorem d_M_pour_125 : decode prog_14_method_16_code 125 = .ok (.aload_n 0, 1) := by decide +kernel
theorem d_M_pour_126 : decode prog_14_method_16_code 126 = .ok (.getfield 17, 3) := by decide +kernel
theorem d_M_pour_129 : decode prog_14_method_16_code 129 = .ok (.iload_n 3, 1) := by decide +kernel
theorem d_M_pour_130 : decode prog_14_method_16_code 130 = .ok (.iaload, 1) := by decide +kernel
theorem d_M_pour_131 : decode prog_14_method_16_code 131 = .ok (.i2l, 1) := by decide +kernel
theorem d_M_pour_132 : decode prog_14_method_16_code 132 = .ok (.lcmp, 1) := by decide +kernel
theorem d_M_pour_133 : decode prog_14_method_16_code 133 = .ok (.ifCond .le 9, 3) := by decide +kernel
theorem d_M_pour_136 : decode prog_14_method_16_code 136 = .ok (.aload_n 0, 1) := by decide +kernel
theorem d_M_pour_137 : decode prog_14_method_16_code 137 = .ok (.iconst 4, 1) := by decide +kernel
theorem d_M_pour_138 : decode prog_14_method_16_code 138 = .ok (.invokevirtual 93, 3) := by decide +kernel
theorem d_M_pour_141 : decode prog_14_method_16_code 141 = .ok (.ireturn, 1) := by decide +kernel
theorem d_M_pour_142 : decode prog_14_method_16_code 142 = .ok (.iload_n 2, 1) := by decide +kernel
theorem d_M_pour_143 : decode prog_14_method_16_code 143 = .ok (.iload 4, 2) := by decide +kernel
theorem d_M_pour_145 : decode prog_14_method_16_code 145 = .ok (.if_icmp .ge 7, 3) := by decide +kernel
theorem d_M_pour_148 : decode prog_14_method_16_code 148 = .ok (.iconst 1, 1) := by decide +kernel
theorem d_M_pour_149 : decode prog_14_method_16_code 149 = .ok (.goto 4, 3) := by decide +kernel
theorem d_M_pour_152 : decode prog_14_method_16_code 152 = .ok (.iconst 0, 1) := by decide +kernel
theorem d_M_pour_153 : decode prog_14_method_16_code 153 = .ok (.istore 6, 2) := by decide +kernel
theorem d_M_pour_155 : decode prog_14_method_16_code 155 = .ok (.iconst 0, 1) := by decide +kernel
theorem d_M_pour_156 : decode prog_14_method_16_code 156 = .ok (.istore 7, 2) := by decide +kernel
theorem d_M_pour_158 : decode prog_14_method_16_code 158 = .ok (.iload 7, 2) := by decide +kernel
theorem d_M_pour_160 : decode prog_14_method_16_code 160 = .ok (.iload 5, 2) := by decide +kernel
theorem d_M_pour_162 : decode prog_14_method_16_code 162 = .ok (.if_icmp .ge 57, 3) := by decide +kernel
theorem d_M_pour_165 : decode prog_14_method_16_code 165 = .ok (.iload 6, 2) := by decide +kernel
theorem d_M_pour_167 : decode prog_14_method_16_code 167 = .ok (.ifCond .eq 13, 3) := by decide +kernel
theorem d_M_pour_170 : decode prog_14_method_16_code 170 = .ok (.iload 5, 2) := by decide +kernel
theorem d_M_pour_172 : decode prog_14_method_16_code 172 = .ok (.iconst 1, 1) := by decide +kernel
theorem d_M_pour_173 : decode prog_14_method_16_code 173 = .ok (.isub, 1) := by decide +kernel
theorem d_M_pour_174 : decode prog_14_method_16_code 174 = .ok (.iload 7, 2) := by decide +kernel
theorem d_M_pour_176 : decode prog_14_method_16_code 176 = .ok (.isub, 1) := by decide +kernel
theorem d_M_pour_177 : decode prog_14_method_16_code 177 = .ok (.goto 5, 3) := by decide +kernel
theorem d_M_pour_180 : decode prog_14_method_16_code 180 = .ok (.iload 7, 2) := by decide +kernel
theorem d_M_pour_182 : decode prog_14_method_16_code 182 = .ok (.istore 8, 2) := by decide +kernel
theorem d_M_pour_184 : decode prog_14_method_16_code 184 = .ok (.aload_n 0, 1) := by decide +kernel
theorem d_M_pour_185 : decode prog_14_method_16_code 185 = .ok (.getfield 20, 3) := by decide +kernel
theorem d_M_pour_188 : decode prog_14_method_16_code 188 = .ok (.bipush 60, 2) := by decide +kernel
theorem d_M_pour_190 : decode prog_14_method_16_code 190 = .ok (.iload_n 3, 1) := by decide +kernel
theorem d_M_pour_191 : decode prog_14_method_16_code 191 = .ok (.imul, 1) := by decide +kernel
theorem d_M_pour_192 : decode prog_14_method_16_code 192 = .ok (.iload 4, 2) := by decide +kernel
theorem d_M_pour_194 : decode prog_14_method_16_code 194 = .ok (.iadd, 1) := by decide +kernel
theorem d_M_pour_195 : decode prog_14_method_16_code 195 = .ok (.iload 8, 2) := by decide +kernel
theorem d_M_pour_197 : decode prog_14_method_16_code 197 = .ok (.iadd, 1) := by decide +kernel
theorem d_M_pour_198 : decode prog_14_method_16_code 198 = .ok (.aload_n 0, 1) := by decide +kernel
theorem d_M_pour_199 : decode prog_14_method_16_code 199 = .ok (.getfield 20, 3) := by decide +kernel
theorem d_M_pour_202 : decode prog_14_method_16_code 202 = .ok (.bipush 60, 2) := by decide +kernel
theorem d_M_pour_204 : decode prog_14_method_16_code 204 = .ok (.iload_n 1, 1) := by decide +kernel
theorem d_M_pour_205 : decode prog_14_method_16_code 205 = .ok (.imul, 1) := by decide +kernel
theorem d_M_pour_206 : decode prog_14_method_16_code 206 = .ok (.iload_n 2, 1) := by decide +kernel
theorem d_M_pour_207 : decode prog_14_method_16_code 207 = .ok (.iadd, 1) := by decide +kernel
theorem d_M_pour_208 : decode prog_14_method_16_code 208 = .ok (.iload 8, 2) := by decide +kernel
theorem d_M_pour_210 : decode prog_14_method_16_code 210 = .ok (.iadd, 1) := by decide +kernel
theorem d_M_pour_211 : decode prog_14_method_16_code 211 = .ok (.laload, 1) := by decide +kernel
theorem d_M_pour_212 : decode prog_14_method_16_code 212 = .ok (.lastore, 1) := by decide +kernel
theorem d_M_pour_213 : decode prog_14_method_16_code 213 = .ok (.iinc 7 1, 3) := by decide +kernel
theorem d_M_pour_216 : decode prog_14_method_16_code 216 = .ok (.goto (-58), 3) := by decide +kernel
theorem d_M_pour_219 : decode prog_14_method_16_code 219 = .ok (.iconst 1, 1) := by decide +kernel
theorem d_M_pour_220 : decode prog_14_method_16_code 220 = .ok (.ireturn, 1) := by decide +kernel
def M_pour_J182 (Y : Ly) (k158 : Int32 → Hp → Option (Bool × Hp)) (l0 : Nat) (l1 : Int32) (l2 : Int32) (l3 : Int32) (l4 : Int32) (l5 : Int32) (l6 : Bool) (l7 : Int32) (s0 : Int32) (h : Hp) : Option (Bool × Hp) :=
  if inB (((60 * l1) + l2) + s0) (lnY Y (hGr h 1206 l0)) = true then
    if inB (((60 * l3) + l4) + s0) (lnY Y (hGr h 1206 l0)) = true then
      letH (hTl h (hGr h 1206 l0) (Int32.toNatClampNeg (((60 * l3) + l4) + s0)) (hAl h (hGr h 1206 l0) (Int32.toNatClampNeg (((60 * l1) + l2) + s0)))) fun h41 =>
      k158 (l7 + 1) h41
    else none
  else none
theorem M_pour_J182_ok (Y : Ly) (k158 : Int32 → Hp → Option (Bool × Hp)) (l0 : Nat) (l1 : Int32) (l2 : Int32) (l3 : Int32) (l4 : Int32) (l5 : Int32) (l6 : Bool) (l7 : Int32) (s0 : Int32) (h : Hp) (hk158 : ∀ (l7_ : Int32) (h_ : Hp), AW Y 1 K_M_pour 158 [(0, .ref l0), (1, .int l1), (2, .int l2), (3, .int l3), (4, .int l4), (5, .int l5), (6, .int (b2i l6)), (7, .int l7_)] [] h_ (k158 l7_ h_) rZ) (tl0 : isO Y 12 l0) : AW Y 1 K_M_pour 182 [(0, .ref l0), (1, .int l1), (2, .int l2), (3, .int l3), (4, .int l4), (5, .int l5), (6, .int (b2i l6)), (7, .int l7)] [.int s0] h (M_pour_J182 Y k158 l0 l1 l2 l3 l4 l5 l6 l7 s0 h) rZ := by
  unfold M_pour_J182
  refine aw_istore (pc := 182) (lv' := [(8, .int s0), (0, .ref l0), (1, .int l1), (2, .int l2), (3, .int l3), (4, .int l4), (5, .int l5), (6, .int (b2i l6)), (7, .int l7)]) d_M_pour_182 (by decide) rfl ?_
  refine aw_aload_n (pc := 184) d_M_pour_184 rfl 1 rfl ?_
  refine gt_1206 (pc := 185) d_M_pour_185 w7_33 tl0 (fun tt37 => ?_)
  refine aw_bipush (pc := 188) (x := 60) d_M_pour_188 (by decide) ?_
  refine aw_iload_n (pc := 190) d_M_pour_190 rfl 4 rfl ?_
  refine aw_imul (pc := 191) d_M_pour_191 ?_
  refine aw_iload (pc := 192) d_M_pour_192 5 rfl ?_
  refine aw_iadd (pc := 194) d_M_pour_194 ?_
  refine aw_iload (pc := 195) d_M_pour_195 0 rfl ?_
  refine aw_iadd (pc := 197) d_M_pour_197 ?_
  refine aw_aload_n (pc := 198) d_M_pour_198 rfl 1 rfl ?_
  refine gt_1206 (pc := 199) d_M_pour_199 w7_33 tl0 (fun tt38 => ?_)
  refine aw_bipush (pc := 202) (x := 60) d_M_pour_202 (by decide) ?_
  refine aw_iload_n (pc := 204) d_M_pour_204 rfl 2 rfl ?_
  refine aw_imul (pc := 205) d_M_pour_205 ?_
  refine aw_iload_n (pc := 206) d_M_pour_206 rfl 3 rfl ?_
  refine aw_iadd (pc := 207) d_M_pour_207 ?_
  refine aw_iload (pc := 208) d_M_pour_208 0 rfl ?_
  refine aw_iadd (pc := 210) d_M_pour_210 ?_
  refine aw_laload (pc := 211) d_M_pour_211 tt38 (fun c39 => ?_)
  refine aw_lastore (pc := 212) d_M_pour_212 tt37 (fun c40 => ?_)
  refine aw_letH (fun h41 => ?_)
  refine aw_iinc (pc := 213) (w := l7 + 1) (lv' := [(7, .int (l7 + 1)), (8, .int s0), (0, .ref l0), (1, .int l1), (2, .int l2), (3, .int l3), (4, .int l4), (5, .int l5), (6, .int (b2i l6))]) d_M_pour_213 8 rfl rfl (by decide) rfl ?_
  refine aw_goto (pc := 216) (tgt := 158) d_M_pour_216 (by decide) ?_
  exact aw_lv [2, 3, 4, 5, 6, 7, 8, 0] rfl (hk158 (l7 + 1) h41)
def M_pour_L158 (Y : Ly) (l0 : Nat) (l1 : Int32) (l2 : Int32) (l3 : Int32) (l4 : Int32) (l5 : Int32) (l6 : Bool) : Nat → Int32 → Hp → Option (Bool × Hp)
  | 0, _, _ => none
  | F + 1, l7, h =>
    if l5 ≤ l7 then
      some (true, h)
    else
      if l6 = true then
        M_pour_J182 Y (M_pour_L158 Y l0 l1 l2 l3 l4 l5 l6 F) l0 l1 l2 l3 l4 l5 l6 l7 ((l5 - 1) - l7) h
      else
        M_pour_J182 Y (M_pour_L158 Y l0 l1 l2 l3 l4 l5 l6 F) l0 l1 l2 l3 l4 l5 l6 l7 l7 h
theorem M_pour_L158_ok (Y : Ly) (l0 : Nat) (l1 : Int32) (l2 : Int32) (l3 : Int32) (l4 : Int32) (l5 : Int32) (l6 : Bool) (tl0 : isO Y 12 l0) : ∀ (F : Nat) (l7 : Int32) (h : Hp), AW Y 1 K_M_pour 158 [(0, .ref l0), (1, .int l1), (2, .int l2), (3, .int l3), (4, .int l4), (5, .int l5), (6, .int (b2i l6)), (7, .int l7)] [] h (M_pour_L158 Y l0 l1 l2 l3 l4 l5 l6 F l7 h) rZ := by
  intro F
  induction F with
  | zero =>
    intro l7 h
    exact aw_none
  | succ F ih =>
    intro l7 h
    unfold M_pour_L158
    refine aw_iload (pc := 158) d_M_pour_158 7 rfl ?_
    refine aw_iload (pc := 160) d_M_pour_160 5 rfl ?_
    refine aw_icmp_ge (pc := 162) (tgt := 219) d_M_pour_162 (by decide) (fun c35 => ?_) (fun c35 => ?_)
    · refine aw_iconst (pc := 219) (x := 1) d_M_pour_219 (by decide) ?_
      exact aw_zreturn (pc := 220) (b := true) d_M_pour_220 rfl rfl
    · refine aw_iload (pc := 165) d_M_pour_165 6 rfl ?_
      refine aw_beq (pc := 167) (tgt := 180) d_M_pour_167 (by decide) (fun c36 => ?_) (fun c36 => ?_)
      · refine aw_iload (pc := 170) d_M_pour_170 5 rfl ?_
        refine aw_iconst (pc := 172) (x := 1) d_M_pour_172 (by decide) ?_
        refine aw_isub (pc := 173) d_M_pour_173 ?_
        refine aw_iload (pc := 174) d_M_pour_174 7 rfl ?_
        refine aw_isub (pc := 176) d_M_pour_176 ?_
        refine aw_goto (pc := 177) (tgt := 182) d_M_pour_177 (by decide) ?_
        exact aw_lv [0, 1, 2, 3, 4, 5, 6, 7] rfl (M_pour_J182_ok Y (M_pour_L158 Y l0 l1 l2 l3 l4 l5 l6 F) l0 l1 l2 l3 l4 l5 l6 l7 ((l5 - 1) - l7) h ih tl0)
      · refine aw_iload (pc := 180) d_M_pour_180 7 rfl ?_
        exact aw_lv [0, 1, 2, 3, 4, 5, 6, 7] rfl (M_pour_J182_ok Y (M_pour_L158 Y l0 l1 l2 l3 l4 l5 l6 F) l0 l1 l2 l3 l4 l5 l6 l7 l7 h ih tl0)
def M_pour_J153 (Y : Ly) (l0 : Nat) (l1 : Int32) (l2 : Int32) (l3 : Int32) (l4 : Int32) (l5 : Int32) (s0 : Bool) (h : Hp) : Option (Bool × Hp) :=
  M_pour_L158 Y l0 l1 l2 l3 l4 l5 s0 FU 0 h
theorem M_pour_J153_ok (Y : Ly) (l0 : Nat) (l1 : Int32) (l2 : Int32) (l3 : Int32) (l4 : Int32) (l5 : Int32) (s0 : Bool) (h : Hp) (tl0 : isO Y 12 l0) : AW Y 1 K_M_pour 153 [(0, .ref l0), (1, .int l1), (2, .int l2), (3, .int l3), (4, .int l4), (5, .int l5)] [.int (b2i s0)] h (M_pour_J153 Y l0 l1 l2 l3 l4 l5 s0 h) rZ := by
  unfold M_pour_J153
  refine aw_istore (pc := 153) (lv' := [(6, .int (b2i s0)), (0, .ref l0), (1, .int l1), (2, .int l2), (3, .int l3), (4, .int l4), (5, .int l5)]) d_M_pour_153 (by decide) rfl ?_
  refine aw_iconst (pc := 155) (x := 0) d_M_pour_155 (by decide) ?_
  refine aw_istore (pc := 156) (lv' := [(7, .int 0), (6, .int (b2i s0)), (0, .ref l0), (1, .int l1), (2, .int l2), (3, .int l3), (4, .int l4), (5, .int l5)]) d_M_pour_156 (by decide) rfl ?_
  exact aw_lv [2, 3, 4, 5, 6, 7, 1, 0] rfl (M_pour_L158_ok Y l0 l1 l2 l3 l4 l5 s0 tl0 FU 0 h)
def M_pour (Y : Ly) (l0 : Nat) (l1 : Int32) (l2 : Int32) (l3 : Int32) (l4 : Int32) (l5 : Int32) (h : Hp) : Option (Bool × Hp) :=
  letH (hSi h 1201 l0 0) fun h1 =>
  letH (hSi h1 1200 l0 0) fun h2 =>
  if l1 < 0 then
    (M_no Y l0 1 h2).bind fun q4 =>
    some (q4.1, q4.2)
  else
    if 4 ≤ l1 then
      (M_no Y l0 1 h2).bind fun q6 =>
      some (q6.1, q6.2)
    else
      if l3 < 0 then
        (M_no Y l0 1 h2).bind fun q8 =>
        some (q8.1, q8.2)
      else
        if l3 < 4 then
          if inB l1 (lnY Y (hGr h2 1205 l0)) = true then
            if (hAi h2 (hGr h2 1205 l0) (Int32.toNatClampNeg l1)) < 0 then
              (M_no Y l0 3 h2).bind fun q13 =>
              some (q13.1, q13.2)
            else
              if inB l3 (lnY Y (hGr h2 1205 l0)) = true then
                if 0 ≤ (hAi h2 (hGr h2 1205 l0) (Int32.toNatClampNeg l3)) then
                  if inB l1 (lnY Y (hGr h2 1204 l0)) = true then
                    if inB l3 (lnY Y (hGr h2 1204 l0)) = true then
                      if (hAi h2 (hGr h2 1204 l0) (Int32.toNatClampNeg l1)) = (hAi h2 (hGr h2 1204 l0) (Int32.toNatClampNeg l3)) then
                        if 0 ≤ l5 then
                          if l2 < 0 then
                            (M_no Y l0 4 h2).bind fun q24 =>
                            some (q24.1, q24.2)
                          else
                            if l4 < 0 then
                              (M_no Y l0 4 h2).bind fun q26 =>
                              some (q26.1, q26.2)
                            else
                              if inB l1 (lnY Y (hGr h2 1205 l0)) = true then
                                if (Int32.toInt64 (hAi h2 (hGr h2 1205 l0) (Int32.toNatClampNeg l1))) < ((Int32.toInt64 l2) + (Int32.toInt64 l5)) then
                                  (M_no Y l0 4 h2).bind fun q30 =>
                                  some (q30.1, q30.2)
                                else
                                  if inB l3 (lnY Y (hGr h2 1205 l0)) = true then
                                    if ((Int32.toInt64 l4) + (Int32.toInt64 l5)) ≤ (Int32.toInt64 (hAi h2 (hGr h2 1205 l0) (Int32.toNatClampNeg l3))) then
                                      if l4 ≤ l2 then
                                        M_pour_J153 Y l0 l1 l2 l3 l4 l5 false h2
                                      else
                                        M_pour_J153 Y l0 l1 l2 l3 l4 l5 true h2
                                    else
                                      (M_no Y l0 4 h2).bind fun q42 =>
                                      some (q42.1, q42.2)
                                  else none
                              else none
                        else
                          (M_no Y l0 6 h2).bind fun q43 =>
                          some (q43.1, q43.2)
                      else
                        (M_no Y l0 11 h2).bind fun q44 =>
                        some (q44.1, q44.2)
                    else none
                  else none
                else
                  (M_no Y l0 3 h2).bind fun q45 =>
                  some (q45.1, q45.2)
              else none
          else none
        else
          (M_no Y l0 1 h2).bind fun q46 =>
          some (q46.1, q46.2)
theorem ok_M_pour (Y : Ly) (l0 : Nat) (l1 : Int32) (l2 : Int32) (l3 : Int32) (l4 : Int32) (l5 : Int32) (h : Hp) (t0 : isO Y 12 l0) : AM Y 1 K_M_pour [.ref l0, .int l1, .int l2, .int l3, .int l4, .int l5] h (M_pour Y l0 l1 l2 l3 l4 l5 h) rZ := by
  refine AM.of rfl (Nat.le_of_ble_eq_true rfl) ?_
  show AW Y 1 K_M_pour 0 [(0, .ref l0), (1, .int l1), (2, .int l2), (3, .int l3), (4, .int l4), (5, .int l5)] [] h (M_pour Y l0 l1 l2 l3 l4 l5 h) rZ
  unfold M_pour
  refine aw_aload_n (pc := 0) d_M_pour_0 rfl 0 rfl ?_
  refine aw_iconst (pc := 1) (x := 0) d_M_pour_1 (by decide) ?_
  refine pt_1201 (pc := 2) d_M_pour_2 w7_28 t0 ?_
  refine aw_letH (fun h1 => ?_)
  refine aw_aload_n (pc := 5) d_M_pour_5 rfl 0 rfl ?_
  refine aw_iconst (pc := 6) (x := 0) d_M_pour_6 (by decide) ?_
  refine pt_1200 (pc := 7) d_M_pour_7 w7_27 t0 ?_
  refine aw_letH (fun h2 => ?_)
  refine aw_iload_n (pc := 10) d_M_pour_10 rfl 1 rfl ?_
  refine aw_if_lt (pc := 11) (tgt := 28) d_M_pour_11 (by decide) (fun c3 => ?_) (fun c3 => ?_)
  · refine aw_aload_n (pc := 28) d_M_pour_28 rfl 0 rfl ?_
    refine aw_iconst (pc := 29) (x := 1) d_M_pour_29 (by decide) ?_
    refine aw_cVrZ (pc := 30) (ci := 12) (T := TX12) (N := 44) (As := [.int 1]) (st := []) (ok_M_no Y l0 1 h2 t0) okV_M_no rfl (by decide) t0 w7_176 d_M_pour_30 rfl (Nat.le_of_ble_eq_true rfl) rfl (Nat.le_of_ble_eq_true rfl) (fun q4 hq4 hTq4 => ?_)
    exact aw_zreturn (pc := 33) (b := q4.1) d_M_pour_33 rfl rfl
  · refine aw_iload_n (pc := 14) d_M_pour_14 rfl 1 rfl ?_
    refine aw_iconst (pc := 15) (x := 4) d_M_pour_15 (by decide) ?_
    refine aw_icmp_ge (pc := 16) (tgt := 28) d_M_pour_16 (by decide) (fun c5 => ?_) (fun c5 => ?_)
    · refine aw_aload_n (pc := 28) d_M_pour_28 rfl 0 rfl ?_
      refine aw_iconst (pc := 29) (x := 1) d_M_pour_29 (by decide) ?_
      refine aw_cVrZ (pc := 30) (ci := 12) (T := TX12) (N := 44) (As := [.int 1]) (st := []) (ok_M_no Y l0 1 h2 t0) okV_M_no rfl (by decide) t0 w7_176 d_M_pour_30 rfl (Nat.le_of_ble_eq_true rfl) rfl (Nat.le_of_ble_eq_true rfl) (fun q6 hq6 hTq6 => ?_)
      exact aw_zreturn (pc := 33) (b := q6.1) d_M_pour_33 rfl rfl
    · refine aw_iload_n (pc := 19) d_M_pour_19 rfl 3 rfl ?_
      refine aw_if_lt (pc := 20) (tgt := 28) d_M_pour_20 (by decide) (fun c7 => ?_) (fun c7 => ?_)
      · refine aw_aload_n (pc := 28) d_M_pour_28 rfl 0 rfl ?_
        refine aw_iconst (pc := 29) (x := 1) d_M_pour_29 (by decide) ?_
        refine aw_cVrZ (pc := 30) (ci := 12) (T := TX12) (N := 44) (As := [.int 1]) (st := []) (ok_M_no Y l0 1 h2 t0) okV_M_no rfl (by decide) t0 w7_176 d_M_pour_30 rfl (Nat.le_of_ble_eq_true rfl) rfl (Nat.le_of_ble_eq_true rfl) (fun q8 hq8 hTq8 => ?_)
        exact aw_zreturn (pc := 33) (b := q8.1) d_M_pour_33 rfl rfl
      · refine aw_iload_n (pc := 23) d_M_pour_23 rfl 3 rfl ?_
        refine aw_iconst (pc := 24) (x := 4) d_M_pour_24 (by decide) ?_
        refine aw_icmp_lt (pc := 25) (tgt := 34) d_M_pour_25 (by decide) (fun c9 => ?_) (fun c9 => ?_)
        · refine aw_aload_n (pc := 34) d_M_pour_34 rfl 0 rfl ?_
          refine gt_1205 (pc := 35) d_M_pour_35 w7_32 t0 (fun tt10 => ?_)
          refine aw_iload_n (pc := 38) d_M_pour_38 rfl 1 rfl ?_
          refine aw_iaload (pc := 39) d_M_pour_39 tt10 (fun c11 => ?_)
          refine aw_if_lt (pc := 40) (tgt := 52) d_M_pour_40 (by decide) (fun c12 => ?_) (fun c12 => ?_)
          · refine aw_aload_n (pc := 52) d_M_pour_52 rfl 0 rfl ?_
            refine aw_iconst (pc := 53) (x := 3) d_M_pour_53 (by decide) ?_
            refine aw_cVrZ (pc := 54) (ci := 12) (T := TX12) (N := 44) (As := [.int 3]) (st := []) (ok_M_no Y l0 3 h2 t0) okV_M_no rfl (by decide) t0 w7_176 d_M_pour_54 rfl (Nat.le_of_ble_eq_true rfl) rfl (Nat.le_of_ble_eq_true rfl) (fun q13 hq13 hTq13 => ?_)
            exact aw_zreturn (pc := 57) (b := q13.1) d_M_pour_57 rfl rfl
          · refine aw_aload_n (pc := 43) d_M_pour_43 rfl 0 rfl ?_
            refine gt_1205 (pc := 44) d_M_pour_44 w7_32 t0 (fun tt14 => ?_)
            refine aw_iload_n (pc := 47) d_M_pour_47 rfl 3 rfl ?_
            refine aw_iaload (pc := 48) d_M_pour_48 tt14 (fun c15 => ?_)
            refine aw_if_ge (pc := 49) (tgt := 58) d_M_pour_49 (by decide) (fun c16 => ?_) (fun c16 => ?_)
            · refine aw_aload_n (pc := 58) d_M_pour_58 rfl 0 rfl ?_
              refine gt_1204 (pc := 59) d_M_pour_59 w7_31 t0 (fun tt17 => ?_)
              refine aw_iload_n (pc := 62) d_M_pour_62 rfl 1 rfl ?_
              refine aw_iaload (pc := 63) d_M_pour_63 tt17 (fun c18 => ?_)
              refine aw_aload_n (pc := 64) d_M_pour_64 rfl 0 rfl ?_
              refine gt_1204 (pc := 65) d_M_pour_65 w7_31 t0 (fun tt19 => ?_)
              refine aw_iload_n (pc := 68) d_M_pour_68 rfl 3 rfl ?_
              refine aw_iaload (pc := 69) d_M_pour_69 tt19 (fun c20 => ?_)
              refine aw_icmp_eq (pc := 70) (tgt := 80) d_M_pour_70 (by decide) (fun c21 => ?_) (fun c21 => ?_)
              · refine aw_iload (pc := 80) d_M_pour_80 5 rfl ?_
                refine aw_if_ge (pc := 82) (tgt := 92) d_M_pour_82 (by decide) (fun c22 => ?_) (fun c22 => ?_)
                · refine aw_iload_n (pc := 92) d_M_pour_92 rfl 2 rfl ?_
                  refine aw_if_lt (pc := 93) (tgt := 136) d_M_pour_93 (by decide) (fun c23 => ?_) (fun c23 => ?_)
                  · refine aw_aload_n (pc := 136) d_M_pour_136 rfl 0 rfl ?_
                    refine aw_iconst (pc := 137) (x := 4) d_M_pour_137 (by decide) ?_
                    refine aw_cVrZ (pc := 138) (ci := 12) (T := TX12) (N := 44) (As := [.int 4]) (st := []) (ok_M_no Y l0 4 h2 t0) okV_M_no rfl (by decide) t0 w7_176 d_M_pour_138 rfl (Nat.le_of_ble_eq_true rfl) rfl (Nat.le_of_ble_eq_true rfl) (fun q24 hq24 hTq24 => ?_)
                    exact aw_zreturn (pc := 141) (b := q24.1) d_M_pour_141 rfl rfl
                  · refine aw_iload (pc := 96) d_M_pour_96 4 rfl ?_
                    refine aw_if_lt (pc := 98) (tgt := 136) d_M_pour_98 (by decide) (fun c25 => ?_) (fun c25 => ?_)
                    · refine aw_aload_n (pc := 136) d_M_pour_136 rfl 0 rfl ?_
                      refine aw_iconst (pc := 137) (x := 4) d_M_pour_137 (by decide) ?_
                      refine aw_cVrZ (pc := 138) (ci := 12) (T := TX12) (N := 44) (As := [.int 4]) (st := []) (ok_M_no Y l0 4 h2 t0) okV_M_no rfl (by decide) t0 w7_176 d_M_pour_138 rfl (Nat.le_of_ble_eq_true rfl) rfl (Nat.le_of_ble_eq_true rfl) (fun q26 hq26 hTq26 => ?_)
                      exact aw_zreturn (pc := 141) (b := q26.1) d_M_pour_141 rfl rfl
                    · refine aw_iload_n (pc := 101) d_M_pour_101 rfl 2 rfl ?_
                      refine aw_i2l (pc := 102) d_M_pour_102 ?_
                      refine aw_iload (pc := 103) d_M_pour_103 5 rfl ?_
                      refine aw_i2l (pc := 105) d_M_pour_105 ?_
                      refine aw_ladd (pc := 106) d_M_pour_106 ?_
                      refine aw_aload_n (pc := 107) d_M_pour_107 rfl 0 rfl ?_
                      refine gt_1205 (pc := 108) d_M_pour_108 w7_32 t0 (fun tt27 => ?_)
                      refine aw_iload_n (pc := 111) d_M_pour_111 rfl 1 rfl ?_
                      refine aw_iaload (pc := 112) d_M_pour_112 tt27 (fun c28 => ?_)
                      refine aw_i2l (pc := 113) d_M_pour_113 ?_
                      refine aw_lcmp_gt (pc := 114) (tgt := 136) d_M_pour_114 d_M_pour_115 (by decide) (fun c29 => ?_) (fun c29 => ?_)
                      · refine aw_aload_n (pc := 136) d_M_pour_136 rfl 0 rfl ?_
                        refine aw_iconst (pc := 137) (x := 4) d_M_pour_137 (by decide) ?_
                        refine aw_cVrZ (pc := 138) (ci := 12) (T := TX12) (N := 44) (As := [.int 4]) (st := []) (ok_M_no Y l0 4 h2 t0) okV_M_no rfl (by decide) t0 w7_176 d_M_pour_138 rfl (Nat.le_of_ble_eq_true rfl) rfl (Nat.le_of_ble_eq_true rfl) (fun q30 hq30 hTq30 => ?_)
                        exact aw_zreturn (pc := 141) (b := q30.1) d_M_pour_141 rfl rfl
                      · refine aw_iload (pc := 118) d_M_pour_118 4 rfl ?_
                        refine aw_i2l (pc := 120) d_M_pour_120 ?_
                        refine aw_iload (pc := 121) d_M_pour_121 5 rfl ?_
                        refine aw_i2l (pc := 123) d_M_pour_123 ?_
                        refine aw_ladd (pc := 124) d_M_pour_124 ?_
                        refine aw_aload_n (pc := 125) d_M_pour_125 rfl 0 rfl ?_
                        refine gt_1205 (pc := 126) d_M_pour_126 w7_32 t0 (fun tt31 => ?_)
                        refine aw_iload_n (pc := 129) d_M_pour_129 rfl 3 rfl ?_
                        refine aw_iaload (pc := 130) d_M_pour_130 tt31 (fun c32 => ?_)
                        refine aw_i2l (pc := 131) d_M_pour_131 ?_
                        refine aw_lcmp_le (pc := 132) (tgt := 142) d_M_pour_132 d_M_pour_133 (by decide) (fun c33 => ?_) (fun c33 => ?_)
                        · refine aw_iload_n (pc := 142) d_M_pour_142 rfl 2 rfl ?_
                          refine aw_iload (pc := 143) d_M_pour_143 4 rfl ?_
                          refine aw_icmp_ge (pc := 145) (tgt := 152) d_M_pour_145 (by decide) (fun c34 => ?_) (fun c34 => ?_)
                          · refine aw_iconst (pc := 152) (x := 0) d_M_pour_152 (by decide) ?_
                            exact aw_lv [0, 1, 2, 3, 4, 5] rfl (M_pour_J153_ok Y l0 l1 l2 l3 l4 l5 false h2 t0)
                          · refine aw_iconst (pc := 148) (x := 1) d_M_pour_148 (by decide) ?_
                            refine aw_goto (pc := 149) (tgt := 153) d_M_pour_149 (by decide) ?_
                            exact aw_lv [0, 1, 2, 3, 4, 5] rfl (M_pour_J153_ok Y l0 l1 l2 l3 l4 l5 true h2 t0)
                        · refine aw_aload_n (pc := 136) d_M_pour_136 rfl 0 rfl ?_
                          refine aw_iconst (pc := 137) (x := 4) d_M_pour_137 (by decide) ?_
                          refine aw_cVrZ (pc := 138) (ci := 12) (T := TX12) (N := 44) (As := [.int 4]) (st := []) (ok_M_no Y l0 4 h2 t0) okV_M_no rfl (by decide) t0 w7_176 d_M_pour_138 rfl (Nat.le_of_ble_eq_true rfl) rfl (Nat.le_of_ble_eq_true rfl) (fun q42 hq42 hTq42 => ?_)
                          exact aw_zreturn (pc := 141) (b := q42.1) d_M_pour_141 rfl rfl
                · refine aw_aload_n (pc := 85) d_M_pour_85 rfl 0 rfl ?_
                  refine aw_bipush (pc := 86) (x := 6) d_M_pour_86 (by decide) ?_
                  refine aw_cVrZ (pc := 88) (ci := 12) (T := TX12) (N := 44) (As := [.int 6]) (st := []) (ok_M_no Y l0 6 h2 t0) okV_M_no rfl (by decide) t0 w7_176 d_M_pour_88 rfl (Nat.le_of_ble_eq_true rfl) rfl (Nat.le_of_ble_eq_true rfl) (fun q43 hq43 hTq43 => ?_)
                  exact aw_zreturn (pc := 91) (b := q43.1) d_M_pour_91 rfl rfl
              · refine aw_aload_n (pc := 73) d_M_pour_73 rfl 0 rfl ?_
                refine aw_bipush (pc := 74) (x := 11) d_M_pour_74 (by decide) ?_
                refine aw_cVrZ (pc := 76) (ci := 12) (T := TX12) (N := 44) (As := [.int 11]) (st := []) (ok_M_no Y l0 11 h2 t0) okV_M_no rfl (by decide) t0 w7_176 d_M_pour_76 rfl (Nat.le_of_ble_eq_true rfl) rfl (Nat.le_of_ble_eq_true rfl) (fun q44 hq44 hTq44 => ?_)
                exact aw_zreturn (pc := 79) (b := q44.1) d_M_pour_79 rfl rfl
            · refine aw_aload_n (pc := 52) d_M_pour_52 rfl 0 rfl ?_
              refine aw_iconst (pc := 53) (x := 3) d_M_pour_53 (by decide) ?_
              refine aw_cVrZ (pc := 54) (ci := 12) (T := TX12) (N := 44) (As := [.int 3]) (st := []) (ok_M_no Y l0 3 h2 t0) okV_M_no rfl (by decide) t0 w7_176 d_M_pour_54 rfl (Nat.le_of_ble_eq_true rfl) rfl (Nat.le_of_ble_eq_true rfl) (fun q45 hq45 hTq45 => ?_)
              exact aw_zreturn (pc := 57) (b := q45.1) d_M_pour_57 rfl rfl
        · refine aw_aload_n (pc := 28) d_M_pour_28 rfl 0 rfl ?_
          refine aw_iconst (pc := 29) (x := 1) d_M_pour_29 (by decide) ?_
          refine aw_cVrZ (pc := 30) (ci := 12) (T := TX12) (N := 44) (As := [.int 1]) (st := []) (ok_M_no Y l0 1 h2 t0) okV_M_no rfl (by decide) t0 w7_176 d_M_pour_30 rfl (Nat.le_of_ble_eq_true rfl) rfl (Nat.le_of_ble_eq_true rfl) (fun q46 hq46 hTq46 => ?_)
          exact aw_zreturn (pc := 33) (b := q46.1) d_M_pour_33 rfl rfl
/-! LastPagesModel.read(II)J -/
theorem d_M_read_0 : decode prog_14_method_15_code 0 = .ok (.aload_n 0, 1) := by decide +kernel
theorem d_M_read_1 : decode prog_14_method_15_code 1 = .ok (.iconst 0, 1) := by decide +kernel
theorem d_M_read_2 : decode prog_14_method_15_code 2 = .ok (.putfield 78, 3) := by decide +kernel
theorem d_M_read_5 : decode prog_14_method_15_code 5 = .ok (.aload_n 0, 1) := by decide +kernel
theorem d_M_read_6 : decode prog_14_method_15_code 6 = .ok (.aload_n 0, 1) := by decide +kernel
theorem d_M_read_7 : decode prog_14_method_15_code 7 = .ok (.iload_n 1, 1) := by decide +kernel
theorem d_M_read_8 : decode prog_14_method_15_code 8 = .ok (.iload_n 2, 1) := by decide +kernel
theorem d_M_read_9 : decode prog_14_method_15_code 9 = .ok (.invokevirtual 101, 3) := by decide +kernel
theorem d_M_read_12 : decode prog_14_method_15_code 12 = .ok (.putfield 81, 3) := by decide +kernel
theorem d_M_read_15 : decode prog_14_method_15_code 15 = .ok (.aload_n 0, 1) := by decide +kernel
theorem d_M_read_16 : decode prog_14_method_15_code 16 = .ok (.getfield 81, 3) := by decide +kernel
theorem d_M_read_19 : decode prog_14_method_15_code 19 = .ok (.ifCond .le 9, 3) := by decide +kernel
theorem d_M_read_22 : decode prog_14_method_15_code 22 = .ok (.ldc2_w 109, 3) := by decide +kernel
theorem d_M_read_25 : decode prog_14_method_15_code 25 = .ok (.goto 14, 3) := by decide +kernel
theorem d_M_read_28 : decode prog_14_method_15_code 28 = .ok (.aload_n 0, 1) := by decide +kernel
theorem d_M_read_29 : decode prog_14_method_15_code 29 = .ok (.getfield 20, 3) := by decide +kernel
theorem d_M_read_32 : decode prog_14_method_15_code 32 = .ok (.bipush 60, 2) := by decide +kernel
theorem d_M_read_34 : decode prog_14_method_15_code 34 = .ok (.iload_n 1, 1) := by decide +kernel
theorem d_M_read_35 : decode prog_14_method_15_code 35 = .ok (.imul, 1) := by decide +kernel
theorem d_M_read_36 : decode prog_14_method_15_code 36 = .ok (.iload_n 2, 1) := by decide +kernel
theorem d_M_read_37 : decode prog_14_method_15_code 37 = .ok (.iadd, 1) := by decide +kernel
theorem d_M_read_38 : decode prog_14_method_15_code 38 = .ok (.laload, 1) := by decide +kernel
theorem d_M_read_39 : decode prog_14_method_15_code 39 = .ok (.lreturn, 1) := by decide +kernel
def M_read (Y : Ly) (l0 : Nat) (l1 : Int32) (l2 : Int32) (h : Hp) : Option (Int64 × Hp) :=
  letH (hSi h 1201 l0 0) fun h1 =>
  (M_placed Y l0 l1 l2 h1).bind fun q2 =>
  letH (hSi h1 1200 l0 q2) fun h3 =>
  if (hGi h3 1200 l0) ≤ 0 then
    if inB ((60 * l1) + l2) (lnY Y (hGr h3 1206 l0)) = true then
      some (hAl h3 (hGr h3 1206 l0) (Int32.toNatClampNeg ((60 * l1) + l2)), h3)
    else none
  else
    some ((-1), h3)
theorem ok_M_read (Y : Ly) (l0 : Nat) (l1 : Int32) (l2 : Int32) (h : Hp) (t0 : isO Y 12 l0) : AM Y 2 K_M_read [.ref l0, .int l1, .int l2] h (M_read Y l0 l1 l2 h) rL := by
  refine AM.of rfl (Nat.le_of_ble_eq_true rfl) ?_
  show AW Y 2 K_M_read 0 [(0, .ref l0), (1, .int l1), (2, .int l2)] [] h (M_read Y l0 l1 l2 h) rL
  unfold M_read
  refine aw_aload_n (pc := 0) d_M_read_0 rfl 0 rfl ?_
  refine aw_iconst (pc := 1) (x := 0) d_M_read_1 (by decide) ?_
  refine pt_1201 (pc := 2) d_M_read_2 w7_28 t0 ?_
  refine aw_letH (fun h1 => ?_)
  refine aw_aload_n (pc := 5) d_M_read_5 rfl 0 rfl ?_
  refine aw_aload_n (pc := 6) d_M_read_6 rfl 0 rfl ?_
  refine aw_iload_n (pc := 7) d_M_read_7 rfl 1 rfl ?_
  refine aw_iload_n (pc := 8) d_M_read_8 rfl 2 rfl ?_
  refine aw_cVpI (pc := 9) (ci := 12) (T := TX12) (N := 44) (As := [.int l1, .int l2]) (st := [.ref l0]) (ok_M_placed Y l0 l1 l2 h1 t0) okV_M_placed rfl (by decide) t0 w7_184 d_M_read_9 rfl (Nat.le_of_ble_eq_true rfl) rfl (Nat.le_of_ble_eq_true rfl) (fun q2 hq2 hTq2 => ?_)
  refine pt_1200 (pc := 12) d_M_read_12 w7_27 t0 ?_
  refine aw_letH (fun h3 => ?_)
  refine aw_aload_n (pc := 15) d_M_read_15 rfl 0 rfl ?_
  refine gt_1200 (pc := 16) d_M_read_16 w7_27 t0 ?_
  refine aw_if_le (pc := 19) (tgt := 28) d_M_read_19 (by decide) (fun c4 => ?_) (fun c4 => ?_)
  · refine aw_aload_n (pc := 28) d_M_read_28 rfl 0 rfl ?_
    refine gt_1206 (pc := 29) d_M_read_29 w7_33 t0 (fun tt5 => ?_)
    refine aw_bipush (pc := 32) (x := 60) d_M_read_32 (by decide) ?_
    refine aw_iload_n (pc := 34) d_M_read_34 rfl 1 rfl ?_
    refine aw_imul (pc := 35) d_M_read_35 ?_
    refine aw_iload_n (pc := 36) d_M_read_36 rfl 2 rfl ?_
    refine aw_iadd (pc := 37) d_M_read_37 ?_
    refine aw_laload (pc := 38) d_M_read_38 tt5 (fun c6 => ?_)
    exact aw_lreturn (pc := 39) d_M_read_39 rfl rfl
  · refine aw_ldc2 (pc := 22) d_M_read_22 w7_199 ?_
    refine aw_goto (pc := 25) (tgt := 39) d_M_read_25 (by decide) ?_
    exact aw_lreturn (pc := 39) d_M_read_39 rfl rfl
/-! LastPagesModel.readNew(II)I -/
theorem d_M_readNew_0 : decode prog_14_method_68_code 0 = .ok (.aload_n 0, 1) := by decide +kernel
theorem d_M_readNew_1 : decode prog_14_method_68_code 1 = .ok (.getfield 35, 3) := by decide +kernel
theorem d_M_readNew_4 : decode prog_14_method_68_code 4 = .ok (.sipush 2304, 3) := by decide +kernel
theorem d_M_readNew_7 : decode prog_14_method_68_code 7 = .ok (.iload_n 1, 1) := by decide +kernel
theorem d_M_readNew_8 : decode prog_14_method_68_code 8 = .ok (.invokestatic 274, 3) := by decide +kernel
theorem d_M_readNew_11 : decode prog_14_method_68_code 11 = .ok (.iadd, 1) := by decide +kernel
theorem d_M_readNew_12 : decode prog_14_method_68_code 12 = .ok (.iaload, 1) := by decide +kernel
theorem d_M_readNew_13 : decode prog_14_method_68_code 13 = .ok (.istore_n 3, 1) := by decide +kernel
theorem d_M_readNew_14 : decode prog_14_method_68_code 14 = .ok (.iload_n 3, 1) := by decide +kernel
theorem d_M_readNew_15 : decode prog_14_method_68_code 15 = .ok (.iload_n 2, 1) := by decide +kernel
theorem d_M_readNew_16 : decode prog_14_method_68_code 16 = .ok (.if_icmp .ne 13, 3) := by decide +kernel
theorem d_M_readNew_19 : decode prog_14_method_68_code 19 = .ok (.aload_n 0, 1) := by decide +kernel
theorem d_M_readNew_20 : decode prog_14_method_68_code 20 = .ok (.bipush 6, 2) := by decide +kernel
theorem d_M_readNew_22 : decode prog_14_method_68_code 22 = .ok (.aload_n 0, 1) := by decide +kernel
theorem d_M_readNew_23 : decode prog_14_method_68_code 23 = .ok (.getfield 127, 3) := by decide +kernel
theorem d_M_readNew_26 : decode prog_14_method_68_code 26 = .ok (.invokevirtual 251, 3) := by decide +kernel
theorem d_M_readNew_29 : decode prog_14_method_68_code 29 = .ok (.aload_n 0, 1) := by decide +kernel
theorem d_M_readNew_30 : decode prog_14_method_68_code 30 = .ok (.getfield 245, 3) := by decide +kernel
theorem d_M_readNew_33 : decode prog_14_method_68_code 33 = .ok (.ifCond .le 5, 3) := by decide +kernel
theorem d_M_readNew_36 : decode prog_14_method_68_code 36 = .ok (.iconst 0, 1) := by decide +kernel
theorem d_M_readNew_37 : decode prog_14_method_68_code 37 = .ok (.ireturn, 1) := by decide +kernel
theorem d_M_readNew_38 : decode prog_14_method_68_code 38 = .ok (.aload_n 0, 1) := by decide +kernel
theorem d_M_readNew_39 : decode prog_14_method_68_code 39 = .ok (.invokevirtual 255, 3) := by decide +kernel
theorem d_M_readNew_42 : decode prog_14_method_68_code 42 = .ok (.aload_n 0, 1) := by decide +kernel
theorem d_M_readNew_43 : decode prog_14_method_68_code 43 = .ok (.invokevirtual 280, 3) := by decide +kernel
theorem d_M_readNew_46 : decode prog_14_method_68_code 46 = .ok (.ifCond .ne 7, 3) := by decide +kernel
theorem d_M_readNew_49 : decode prog_14_method_68_code 49 = .ok (.aload_n 0, 1) := by decide +kernel
theorem d_M_readNew_50 : decode prog_14_method_68_code 50 = .ok (.invokevirtual 258, 3) := by decide +kernel
theorem d_M_readNew_53 : decode prog_14_method_68_code 53 = .ok (.aload_n 0, 1) := by decide +kernel
theorem d_M_readNew_54 : decode prog_14_method_68_code 54 = .ok (.getfield 245, 3) := by decide +kernel
theorem d_M_readNew_57 : decode prog_14_method_68_code 57 = .ok (.ifCond .ne 19, 3) := by decide +kernel
theorem d_M_readNew_60 : decode prog_14_method_68_code 60 = .ok (.aload_n 0, 1) := by decide +kernel
theorem d_M_readNew_61 : decode prog_14_method_68_code 61 = .ok (.invokevirtual 283, 3) := by decide +kernel
theorem d_M_readNew_64 : decode prog_14_method_68_code 64 = .ok (.ifCond .eq 12, 3) := by decide +kernel
theorem d_M_readNew_67 : decode prog_14_method_68_code 67 = .ok (.aload_n 0, 1) := by decide +kernel
theorem d_M_readNew_68 : decode prog_14_method_68_code 68 = .ok (.iconst 3, 1) := by decide +kernel
theorem d_M_readNew_69 : decode prog_14_method_68_code 69 = .ok (.aload_n 0, 1) := by decide +kernel
theorem d_M_readNew_70 : decode prog_14_method_68_code 70 = .ok (.getfield 127, 3) := by decide +kernel
theorem d_M_readNew_73 : decode prog_14_method_68_code 73 = .ok (.invokevirtual 251, 3) := by decide +kernel
theorem d_M_readNew_76 : decode prog_14_method_68_code 76 = .ok (.aload_n 0, 1) := by decide +kernel
theorem d_M_readNew_77 : decode prog_14_method_68_code 77 = .ok (.getfield 245, 3) := by decide +kernel
theorem d_M_readNew_80 : decode prog_14_method_68_code 80 = .ok (.ifCond .le 5, 3) := by decide +kernel
theorem d_M_readNew_83 : decode prog_14_method_68_code 83 = .ok (.iconst 0, 1) := by decide +kernel
theorem d_M_readNew_84 : decode prog_14_method_68_code 84 = .ok (.ireturn, 1) := by decide +kernel
theorem d_M_readNew_85 : decode prog_14_method_68_code 85 = .ok (.aload_n 0, 1) := by decide +kernel
theorem d_M_readNew_86 : decode prog_14_method_68_code 86 = .ok (.getfield 41, 3) := by decide +kernel
theorem d_M_readNew_89 : decode prog_14_method_68_code 89 = .ok (.sipush 224, 3) := by decide +kernel
theorem d_M_readNew_92 : decode prog_14_method_68_code 92 = .ok (.bipush 8, 2) := by decide +kernel
theorem d_M_readNew_94 : decode prog_14_method_68_code 94 = .ok (.iload_n 1, 1) := by decide +kernel
theorem d_M_readNew_95 : decode prog_14_method_68_code 95 = .ok (.imul, 1) := by decide +kernel
theorem d_M_readNew_96 : decode prog_14_method_68_code 96 = .ok (.iadd, 1) := by decide +kernel
theorem d_M_readNew_97 : decode prog_14_method_68_code 97 = .ok (.iload_n 3, 1) := by decide +kernel
theorem d_M_readNew_98 : decode prog_14_method_68_code 98 = .ok (.iadd, 1) := by decide +kernel
theorem d_M_readNew_99 : decode prog_14_method_68_code 99 = .ok (.aload_n 0, 1) := by decide +kernel
theorem d_M_readNew_100 : decode prog_14_method_68_code 100 = .ok (.getfield 139, 3) := by decide +kernel
theorem d_M_readNew_103 : decode prog_14_method_68_code 103 = .ok (.lastore, 1) := by decide +kernel
theorem d_M_readNew_104 : decode prog_14_method_68_code 104 = .ok (.aload_n 0, 1) := by decide +kernel
theorem d_M_readNew_105 : decode prog_14_method_68_code 105 = .ok (.invokevirtual 255, 3) := by decide +kernel
theorem d_M_readNew_108 : decode prog_14_method_68_code 108 = .ok (.iload_n 3, 1) := by decide +kernel
theorem d_M_readNew_109 : decode prog_14_method_68_code 109 = .ok (.ireturn, 1) := by decide +kernel
def M_readNew_J76 (Y : Ly) (l0 : Nat) (l1 : Int32) (l3 : Int32) (h : Hp) : Option (Int32 × Hp) :=
  if (hGi h 1212 l0) ≤ 0 then
    if inB ((224 + (8 * l1)) + l3) (lnY Y (hGr h 1222 l0)) = true then
      letH (hTl h (hGr h 1222 l0) (Int32.toNatClampNeg ((224 + (8 * l1)) + l3)) (hGl h 1219 l0)) fun h17 =>
      (M_advance Y l0 h17).bind fun q18 =>
      some (l3, q18)
    else none
  else
    some (0, h)
theorem M_readNew_J76_ok (Y : Ly) (l0 : Nat) (l1 : Int32) (l3 : Int32) (h : Hp) (tl0 : isO Y 12 l0) : AW Y 5 K_M_readNew 76 [(0, .ref l0), (1, .int l1), (3, .int l3)] [] h (M_readNew_J76 Y l0 l1 l3 h) rI := by
  unfold M_readNew_J76
  refine aw_aload_n (pc := 76) d_M_readNew_76 rfl 0 rfl ?_
  refine gt_1212 (pc := 77) d_M_readNew_77 w7_39 tl0 ?_
  refine aw_if_le (pc := 80) (tgt := 85) d_M_readNew_80 (by decide) (fun c14 => ?_) (fun c14 => ?_)
  · refine aw_aload_n (pc := 85) d_M_readNew_85 rfl 0 rfl ?_
    refine gt_1222 (pc := 86) d_M_readNew_86 w7_49 tl0 (fun tt15 => ?_)
    refine aw_sipush (pc := 89) (x := 224) d_M_readNew_89 (by decide) ?_
    refine aw_bipush (pc := 92) (x := 8) d_M_readNew_92 (by decide) ?_
    refine aw_iload_n (pc := 94) d_M_readNew_94 rfl 1 rfl ?_
    refine aw_imul (pc := 95) d_M_readNew_95 ?_
    refine aw_iadd (pc := 96) d_M_readNew_96 ?_
    refine aw_iload_n (pc := 97) d_M_readNew_97 rfl 2 rfl ?_
    refine aw_iadd (pc := 98) d_M_readNew_98 ?_
    refine aw_aload_n (pc := 99) d_M_readNew_99 rfl 0 rfl ?_
    refine gt_1219 (pc := 100) d_M_readNew_100 w7_46 tl0 ?_
    refine aw_lastore (pc := 103) d_M_readNew_103 tt15 (fun c16 => ?_)
    refine aw_letH (fun h17 => ?_)
    refine aw_aload_n (pc := 104) d_M_readNew_104 rfl 0 rfl ?_
    refine aw_cVrV (pc := 105) (ci := 12) (T := TX12) (N := 44) (As := []) (st := []) (ok_M_advance Y l0 h17 tl0) okV_M_advance rfl (by decide) tl0 w7_224 d_M_readNew_105 rfl (Nat.le_of_ble_eq_true rfl) rfl (Nat.le_of_ble_eq_true rfl) (fun q18 hq18 hTq18 => ?_)
    refine aw_iload_n (pc := 108) d_M_readNew_108 rfl 2 rfl ?_
    exact aw_ireturn (pc := 109) d_M_readNew_109 rfl rfl
  · refine aw_iconst (pc := 83) (x := 0) d_M_readNew_83 (by decide) ?_
    exact aw_ireturn (pc := 84) d_M_readNew_84 rfl rfl
def M_readNew_J53 (Y : Ly) (l0 : Nat) (l1 : Int32) (l3 : Int32) (h : Hp) : Option (Int32 × Hp) :=
  if (hGi h 1212 l0) = 0 then
    (M_isTaken Y l0 h).bind fun q11 =>
    if q11 = true then
      (M_fail Y l0 3 (hGi h 1215 l0) h).bind fun q13 =>
      M_readNew_J76 Y l0 l1 l3 q13
    else
      M_readNew_J76 Y l0 l1 l3 h
  else
    M_readNew_J76 Y l0 l1 l3 h
theorem M_readNew_J53_ok (Y : Ly) (l0 : Nat) (l1 : Int32) (l3 : Int32) (h : Hp) (tl0 : isO Y 12 l0) : AW Y 5 K_M_readNew 53 [(0, .ref l0), (1, .int l1), (3, .int l3)] [] h (M_readNew_J53 Y l0 l1 l3 h) rI := by
  unfold M_readNew_J53
  refine aw_aload_n (pc := 53) d_M_readNew_53 rfl 0 rfl ?_
  refine gt_1212 (pc := 54) d_M_readNew_54 w7_39 tl0 ?_
  refine aw_if_ne (pc := 57) (tgt := 76) d_M_readNew_57 (by decide) (fun c10 => ?_) (fun c10 => ?_)
  · refine aw_aload_n (pc := 60) d_M_readNew_60 rfl 0 rfl ?_
    refine aw_cVpZ (pc := 61) (ci := 12) (T := TX12) (N := 44) (As := []) (st := []) (ok_M_isTaken Y l0 h tl0) okV_M_isTaken rfl (by decide) tl0 w8_139 d_M_readNew_61 rfl (Nat.le_of_ble_eq_true rfl) rfl (Nat.le_of_ble_eq_true rfl) (fun q11 hq11 hTq11 => ?_)
    refine aw_beq (pc := 64) (tgt := 76) d_M_readNew_64 (by decide) (fun c12 => ?_) (fun c12 => ?_)
    · refine aw_aload_n (pc := 67) d_M_readNew_67 rfl 0 rfl ?_
      refine aw_iconst (pc := 68) (x := 3) d_M_readNew_68 (by decide) ?_
      refine aw_aload_n (pc := 69) d_M_readNew_69 rfl 0 rfl ?_
      refine gt_1215 (pc := 70) d_M_readNew_70 w7_42 tl0 ?_
      refine aw_cVrV (pc := 73) (ci := 12) (T := TX12) (N := 44) (As := [.int 3, .int (hGi h 1215 l0)]) (st := []) (ok_M_fail Y l0 3 (hGi h 1215 l0) h tl0) okV_M_fail rfl (by decide) tl0 w8_30 d_M_readNew_73 rfl (Nat.le_of_ble_eq_true rfl) rfl (Nat.le_of_ble_eq_true rfl) (fun q13 hq13 hTq13 => ?_)
      exact aw_lv [0, 1, 2] rfl (M_readNew_J76_ok Y l0 l1 l3 q13 tl0)
    · exact aw_lv [0, 1, 2] rfl (M_readNew_J76_ok Y l0 l1 l3 h tl0)
  · exact aw_lv [0, 1, 2] rfl (M_readNew_J76_ok Y l0 l1 l3 h tl0)
def M_readNew_J29 (Y : Ly) (l0 : Nat) (l1 : Int32) (l3 : Int32) (h : Hp) : Option (Int32 × Hp) :=
  if (hGi h 1212 l0) ≤ 0 then
    (M_advance Y l0 h).bind fun q7 =>
    (M_isName Y l0 q7).bind fun q8 =>
    if q8 = true then
      M_readNew_J53 Y l0 l1 l3 q7
    else
      (M_amiss Y l0 q7).bind fun q19 =>
      M_readNew_J53 Y l0 l1 l3 q19
  else
    some (0, h)
theorem M_readNew_J29_ok (Y : Ly) (l0 : Nat) (l1 : Int32) (l3 : Int32) (h : Hp) (tl0 : isO Y 12 l0) : AW Y 5 K_M_readNew 29 [(0, .ref l0), (1, .int l1), (3, .int l3)] [] h (M_readNew_J29 Y l0 l1 l3 h) rI := by
  unfold M_readNew_J29
  refine aw_aload_n (pc := 29) d_M_readNew_29 rfl 0 rfl ?_
  refine gt_1212 (pc := 30) d_M_readNew_30 w7_39 tl0 ?_
  refine aw_if_le (pc := 33) (tgt := 38) d_M_readNew_33 (by decide) (fun c6 => ?_) (fun c6 => ?_)
  · refine aw_aload_n (pc := 38) d_M_readNew_38 rfl 0 rfl ?_
    refine aw_cVrV (pc := 39) (ci := 12) (T := TX12) (N := 44) (As := []) (st := []) (ok_M_advance Y l0 h tl0) okV_M_advance rfl (by decide) tl0 w7_224 d_M_readNew_39 rfl (Nat.le_of_ble_eq_true rfl) rfl (Nat.le_of_ble_eq_true rfl) (fun q7 hq7 hTq7 => ?_)
    refine aw_aload_n (pc := 42) d_M_readNew_42 rfl 0 rfl ?_
    refine aw_cVpZ (pc := 43) (ci := 12) (T := TX12) (N := 44) (As := []) (st := []) (ok_M_isName Y l0 q7 tl0) okV_M_isName rfl (by decide) tl0 w8_34 d_M_readNew_43 rfl (Nat.le_of_ble_eq_true rfl) rfl (Nat.le_of_ble_eq_true rfl) (fun q8 hq8 hTq8 => ?_)
    refine aw_bne (pc := 46) (tgt := 53) d_M_readNew_46 (by decide) (fun c9 => ?_) (fun c9 => ?_)
    · exact aw_lv [0, 1, 2] rfl (M_readNew_J53_ok Y l0 l1 l3 q7 tl0)
    · refine aw_aload_n (pc := 49) d_M_readNew_49 rfl 0 rfl ?_
      refine aw_cVrV (pc := 50) (ci := 12) (T := TX12) (N := 44) (As := []) (st := []) (ok_M_amiss Y l0 q7 tl0) okV_M_amiss rfl (by decide) tl0 w8_135 d_M_readNew_50 rfl (Nat.le_of_ble_eq_true rfl) rfl (Nat.le_of_ble_eq_true rfl) (fun q19 hq19 hTq19 => ?_)
      exact aw_lv [0, 1, 2] rfl (M_readNew_J53_ok Y l0 l1 l3 q19 tl0)
  · refine aw_iconst (pc := 36) (x := 0) d_M_readNew_36 (by decide) ?_
    exact aw_ireturn (pc := 37) d_M_readNew_37 rfl rfl
def M_readNew (Y : Ly) (l0 : Nat) (l1 : Int32) (l2 : Int32) (h : Hp) : Option (Int32 × Hp) :=
  (M_manyOf Y l1 h).bind fun q2 =>
  if inB (2304 + q2) (lnY Y (hGr h 1220 l0)) = true then
    if (hAi h (hGr h 1220 l0) (Int32.toNatClampNeg (2304 + q2))) = l2 then
      (M_fail Y l0 6 (hGi h 1215 l0) h).bind fun q5 =>
      M_readNew_J29 Y l0 l1 (hAi h (hGr h 1220 l0) (Int32.toNatClampNeg (2304 + q2))) q5
    else
      M_readNew_J29 Y l0 l1 (hAi h (hGr h 1220 l0) (Int32.toNatClampNeg (2304 + q2))) h
  else none
theorem ok_M_readNew (Y : Ly) (l0 : Nat) (l1 : Int32) (l2 : Int32) (h : Hp) (t0 : isO Y 12 l0) : AM Y 5 K_M_readNew [.ref l0, .int l1, .int l2] h (M_readNew Y l0 l1 l2 h) rI := by
  refine AM.of rfl (Nat.le_of_ble_eq_true rfl) ?_
  show AW Y 5 K_M_readNew 0 [(0, .ref l0), (1, .int l1), (2, .int l2)] [] h (M_readNew Y l0 l1 l2 h) rI
  unfold M_readNew
  refine aw_aload_n (pc := 0) d_M_readNew_0 rfl 0 rfl ?_
  refine gt_1220 (pc := 1) d_M_readNew_1 w7_47 t0 (fun tt1 => ?_)
  refine aw_sipush (pc := 4) (x := 2304) d_M_readNew_4 (by decide) ?_
  refine aw_iload_n (pc := 7) d_M_readNew_7 rfl 1 rfl ?_
  refine aw_cSpI (pc := 8) (As := [.int l1]) (st := [.int 2304, .ref (hGr h 1220 l0)]) (ok_M_manyOf Y l1 h) okS_M_manyOf w8_27 d_M_readNew_8 rfl (Nat.le_of_ble_eq_true rfl) rfl (Nat.le_of_ble_eq_true rfl) (fun q2 hq2 hTq2 => ?_)
  refine aw_iadd (pc := 11) d_M_readNew_11 ?_
  refine aw_iaload (pc := 12) d_M_readNew_12 tt1 (fun c3 => ?_)
  refine aw_istore_n (pc := 13) (lv' := [(3, .int (hAi h (hGr h 1220 l0) (Int32.toNatClampNeg (2304 + q2)))), (0, .ref l0), (1, .int l1), (2, .int l2)]) d_M_readNew_13 rfl (by decide) rfl ?_
  refine aw_iload_n (pc := 14) d_M_readNew_14 rfl 0 rfl ?_
  refine aw_iload_n (pc := 15) d_M_readNew_15 rfl 3 rfl ?_
  refine aw_icmp_ne (pc := 16) (tgt := 29) d_M_readNew_16 (by decide) (fun c4 => ?_) (fun c4 => ?_)
  · refine aw_aload_n (pc := 19) d_M_readNew_19 rfl 1 rfl ?_
    refine aw_bipush (pc := 20) (x := 6) d_M_readNew_20 (by decide) ?_
    refine aw_aload_n (pc := 22) d_M_readNew_22 rfl 1 rfl ?_
    refine gt_1215 (pc := 23) d_M_readNew_23 w7_42 t0 ?_
    refine aw_cVrV (pc := 26) (ci := 12) (T := TX12) (N := 44) (As := [.int 6, .int (hGi h 1215 l0)]) (st := []) (ok_M_fail Y l0 6 (hGi h 1215 l0) h t0) okV_M_fail rfl (by decide) t0 w8_30 d_M_readNew_26 rfl (Nat.le_of_ble_eq_true rfl) rfl (Nat.le_of_ble_eq_true rfl) (fun q5 hq5 hTq5 => ?_)
    exact aw_lv [1, 2, 0] rfl (M_readNew_J29_ok Y l0 l1 (hAi h (hGr h 1220 l0) (Int32.toNatClampNeg (2304 + q2))) q5 t0)
  · exact aw_lv [1, 2, 0] rfl (M_readNew_J29_ok Y l0 l1 (hAi h (hGr h 1220 l0) (Int32.toNatClampNeg (2304 + q2))) h t0)
/-! LastPagesModel.told(II)I -/
theorem d_M_told_0 : decode prog_14_method_69_code 0 = .ok (.aload_n 0, 1) := by decide +kernel
theorem d_M_told_1 : decode prog_14_method_69_code 1 = .ok (.getfield 245, 3) := by decide +kernel
theorem d_M_told_4 : decode prog_14_method_69_code 4 = .ok (.ifCond .ne 14, 3) := by decide +kernel
theorem d_M_told_7 : decode prog_14_method_69_code 7 = .ok (.aload_n 0, 1) := by decide +kernel
theorem d_M_told_8 : decode prog_14_method_69_code 8 = .ok (.invokevirtual 280, 3) := by decide +kernel
theorem d_M_told_11 : decode prog_14_method_69_code 11 = .ok (.ifCond .ne 7, 3) := by decide +kernel
theorem d_M_told_14 : decode prog_14_method_69_code 14 = .ok (.aload_n 0, 1) := by decide +kernel
theorem d_M_told_15 : decode prog_14_method_69_code 15 = .ok (.invokevirtual 258, 3) := by decide +kernel
theorem d_M_told_18 : decode prog_14_method_69_code 18 = .ok (.aload_n 0, 1) := by decide +kernel
theorem d_M_told_19 : decode prog_14_method_69_code 19 = .ok (.getfield 245, 3) := by decide +kernel
theorem d_M_told_22 : decode prog_14_method_69_code 22 = .ok (.ifCond .le 5, 3) := by decide +kernel
theorem d_M_told_25 : decode prog_14_method_69_code 25 = .ok (.iconst 0, 1) := by decide +kernel
theorem d_M_told_26 : decode prog_14_method_69_code 26 = .ok (.ireturn, 1) := by decide +kernel
theorem d_M_told_27 : decode prog_14_method_69_code 27 = .ok (.aload_n 0, 1) := by decide +kernel
theorem d_M_told_28 : decode prog_14_method_69_code 28 = .ok (.iload_n 1, 1) := by decide +kernel
theorem d_M_told_29 : decode prog_14_method_69_code 29 = .ok (.iload_n 2, 1) := by decide +kernel
theorem d_M_told_30 : decode prog_14_method_69_code 30 = .ok (.invokevirtual 277, 3) := by decide +kernel
theorem d_M_told_33 : decode prog_14_method_69_code 33 = .ok (.istore_n 3, 1) := by decide +kernel
theorem d_M_told_34 : decode prog_14_method_69_code 34 = .ok (.iload_n 3, 1) := by decide +kernel
theorem d_M_told_35 : decode prog_14_method_69_code 35 = .ok (.ifCond .ge 12, 3) := by decide +kernel
theorem d_M_told_38 : decode prog_14_method_69_code 38 = .ok (.aload_n 0, 1) := by decide +kernel
theorem d_M_told_39 : decode prog_14_method_69_code 39 = .ok (.iconst 3, 1) := by decide +kernel
theorem d_M_told_40 : decode prog_14_method_69_code 40 = .ok (.aload_n 0, 1) := by decide +kernel
theorem d_M_told_41 : decode prog_14_method_69_code 41 = .ok (.getfield 127, 3) := by decide +kernel
theorem d_M_told_44 : decode prog_14_method_69_code 44 = .ok (.invokevirtual 251, 3) := by decide +kernel
theorem d_M_told_47 : decode prog_14_method_69_code 47 = .ok (.iconst 0, 1) := by decide +kernel
theorem d_M_told_48 : decode prog_14_method_69_code 48 = .ok (.iload_n 3, 1) := by decide +kernel
theorem d_M_told_49 : decode prog_14_method_69_code 49 = .ok (.invokestatic 286, 3) := by decide +kernel
theorem d_M_told_52 : decode prog_14_method_69_code 52 = .ok (.ireturn, 1) := by decide +kernel
def M_told_J18 (Y : Ly) (l0 : Nat) (l1 : Int32) (l2 : Int32) (h : Hp) : Option (Int32 × Hp) :=
  if (hGi h 1212 l0) ≤ 0 then
    (M_named Y l0 l1 l2 h).bind fun q5 =>
    if 0 ≤ q5 then
      some ((if 0 < q5 then q5 else 0), h)
    else
      (M_fail Y l0 3 (hGi h 1215 l0) h).bind fun q7 =>
      some ((if 0 < q5 then q5 else 0), q7)
  else
    some (0, h)
theorem M_told_J18_ok (Y : Ly) (l0 : Nat) (l1 : Int32) (l2 : Int32) (h : Hp) (tl0 : isO Y 12 l0) : AW Y 5 K_M_told 18 [(0, .ref l0), (1, .int l1), (2, .int l2)] [] h (M_told_J18 Y l0 l1 l2 h) rI := by
  unfold M_told_J18
  refine aw_aload_n (pc := 18) d_M_told_18 rfl 0 rfl ?_
  refine gt_1212 (pc := 19) d_M_told_19 w7_39 tl0 ?_
  refine aw_if_le (pc := 22) (tgt := 27) d_M_told_22 (by decide) (fun c4 => ?_) (fun c4 => ?_)
  · refine aw_aload_n (pc := 27) d_M_told_27 rfl 0 rfl ?_
    refine aw_iload_n (pc := 28) d_M_told_28 rfl 1 rfl ?_
    refine aw_iload_n (pc := 29) d_M_told_29 rfl 2 rfl ?_
    refine aw_cVpI (pc := 30) (ci := 12) (T := TX12) (N := 44) (As := [.int l1, .int l2]) (st := []) (ok_M_named Y l0 l1 l2 h tl0) okV_M_named rfl (by decide) tl0 w8_143 d_M_told_30 rfl (Nat.le_of_ble_eq_true rfl) rfl (Nat.le_of_ble_eq_true rfl) (fun q5 hq5 hTq5 => ?_)
    refine aw_istore_n (pc := 33) (lv' := [(3, .int q5), (0, .ref l0), (1, .int l1), (2, .int l2)]) d_M_told_33 rfl (by decide) rfl ?_
    refine aw_iload_n (pc := 34) d_M_told_34 rfl 0 rfl ?_
    refine aw_if_ge (pc := 35) (tgt := 47) d_M_told_35 (by decide) (fun c6 => ?_) (fun c6 => ?_)
    · refine aw_iconst (pc := 47) (x := 0) d_M_told_47 (by decide) ?_
      refine aw_iload_n (pc := 48) d_M_told_48 rfl 0 rfl ?_
      refine aw_mmax (pc := 49) d_M_told_49 w8_170 w2_66 w1_15 w2_67 (Nat.le_of_ble_eq_true rfl) (Nat.le_of_ble_eq_true rfl) ?_
      exact aw_ireturn (pc := 52) d_M_told_52 rfl rfl
    · refine aw_aload_n (pc := 38) d_M_told_38 rfl 1 rfl ?_
      refine aw_iconst (pc := 39) (x := 3) d_M_told_39 (by decide) ?_
      refine aw_aload_n (pc := 40) d_M_told_40 rfl 1 rfl ?_
      refine gt_1215 (pc := 41) d_M_told_41 w7_42 tl0 ?_
      refine aw_cVrV (pc := 44) (ci := 12) (T := TX12) (N := 44) (As := [.int 3, .int (hGi h 1215 l0)]) (st := []) (ok_M_fail Y l0 3 (hGi h 1215 l0) h tl0) okV_M_fail rfl (by decide) tl0 w8_30 d_M_told_44 rfl (Nat.le_of_ble_eq_true rfl) rfl (Nat.le_of_ble_eq_true rfl) (fun q7 hq7 hTq7 => ?_)
      refine aw_iconst (pc := 47) (x := 0) d_M_told_47 (by decide) ?_
      refine aw_iload_n (pc := 48) d_M_told_48 rfl 0 rfl ?_
      refine aw_mmax (pc := 49) d_M_told_49 w8_170 w2_66 w1_15 w2_67 (Nat.le_of_ble_eq_true rfl) (Nat.le_of_ble_eq_true rfl) ?_
      exact aw_ireturn (pc := 52) d_M_told_52 rfl rfl
  · refine aw_iconst (pc := 25) (x := 0) d_M_told_25 (by decide) ?_
    exact aw_ireturn (pc := 26) d_M_told_26 rfl rfl
def M_told (Y : Ly) (l0 : Nat) (l1 : Int32) (l2 : Int32) (h : Hp) : Option (Int32 × Hp) :=
  if (hGi h 1212 l0) = 0 then
    (M_isName Y l0 h).bind fun q2 =>
    if q2 = true then
      M_told_J18 Y l0 l1 l2 h
    else
      (M_amiss Y l0 h).bind fun q8 =>
      M_told_J18 Y l0 l1 l2 q8
  else
    M_told_J18 Y l0 l1 l2 h
theorem ok_M_told (Y : Ly) (l0 : Nat) (l1 : Int32) (l2 : Int32) (h : Hp) (t0 : isO Y 12 l0) : AM Y 5 K_M_told [.ref l0, .int l1, .int l2] h (M_told Y l0 l1 l2 h) rI := by
  refine AM.of rfl (Nat.le_of_ble_eq_true rfl) ?_
  show AW Y 5 K_M_told 0 [(0, .ref l0), (1, .int l1), (2, .int l2)] [] h (M_told Y l0 l1 l2 h) rI
  unfold M_told
  refine aw_aload_n (pc := 0) d_M_told_0 rfl 0 rfl ?_
  refine gt_1212 (pc := 1) d_M_told_1 w7_39 t0 ?_
  refine aw_if_ne (pc := 4) (tgt := 18) d_M_told_4 (by decide) (fun c1 => ?_) (fun c1 => ?_)
  · refine aw_aload_n (pc := 7) d_M_told_7 rfl 0 rfl ?_
    refine aw_cVpZ (pc := 8) (ci := 12) (T := TX12) (N := 44) (As := []) (st := []) (ok_M_isName Y l0 h t0) okV_M_isName rfl (by decide) t0 w8_34 d_M_told_8 rfl (Nat.le_of_ble_eq_true rfl) rfl (Nat.le_of_ble_eq_true rfl) (fun q2 hq2 hTq2 => ?_)
    refine aw_bne (pc := 11) (tgt := 18) d_M_told_11 (by decide) (fun c3 => ?_) (fun c3 => ?_)
    · exact aw_lv [0, 1, 2] rfl (M_told_J18_ok Y l0 l1 l2 h t0)
    · refine aw_aload_n (pc := 14) d_M_told_14 rfl 0 rfl ?_
      refine aw_cVrV (pc := 15) (ci := 12) (T := TX12) (N := 44) (As := []) (st := []) (ok_M_amiss Y l0 h t0) okV_M_amiss rfl (by decide) t0 w8_135 d_M_told_15 rfl (Nat.le_of_ble_eq_true rfl) rfl (Nat.le_of_ble_eq_true rfl) (fun q8 hq8 hTq8 => ?_)
      exact aw_lv [0, 1, 2] rfl (M_told_J18_ok Y l0 l1 l2 q8 t0)
  · exact aw_lv [0, 1, 2] rfl (M_told_J18_ok Y l0 l1 l2 h t0)
/-! LastPagesModel.readTold(II)I -/
theorem d_M_readTold_0 : decode prog_14_method_70_code 0 = .ok (.aload_n 0, 1) := by decide +kernel
theorem d_M_readTold_1 : decode prog_14_method_70_code 1 = .ok (.iload_n 1, 1) := by decide +kernel
theorem d_M_readTold_2 : decode prog_14_method_70_code 2 = .ok (.iload_n 2, 1) := by decide +kernel
theorem d_M_readTold_3 : decode prog_14_method_70_code 3 = .ok (.invokevirtual 289, 3) := by decide +kernel
theorem d_M_readTold_6 : decode prog_14_method_70_code 6 = .ok (.istore_n 3, 1) := by decide +kernel
theorem d_M_readTold_7 : decode prog_14_method_70_code 7 = .ok (.aload_n 0, 1) := by decide +kernel
theorem d_M_readTold_8 : decode prog_14_method_70_code 8 = .ok (.iconst 1, 1) := by decide +kernel
theorem d_M_readTold_9 : decode prog_14_method_70_code 9 = .ok (.invokevirtual 261, 3) := by decide +kernel
theorem d_M_readTold_12 : decode prog_14_method_70_code 12 = .ok (.iload_n 3, 1) := by decide +kernel
theorem d_M_readTold_13 : decode prog_14_method_70_code 13 = .ok (.ireturn, 1) := by decide +kernel
def M_readTold (Y : Ly) (l0 : Nat) (l1 : Int32) (l2 : Int32) (h : Hp) : Option (Int32 × Hp) :=
  (M_told Y l0 l1 l2 h).bind fun q1 =>
  (M_must Y l0 true q1.2).bind fun q2 =>
  some (q1.1, q2)
theorem ok_M_readTold (Y : Ly) (l0 : Nat) (l1 : Int32) (l2 : Int32) (h : Hp) (t0 : isO Y 12 l0) : AM Y 6 K_M_readTold [.ref l0, .int l1, .int l2] h (M_readTold Y l0 l1 l2 h) rI := by
  refine AM.of rfl (Nat.le_of_ble_eq_true rfl) ?_
  show AW Y 6 K_M_readTold 0 [(0, .ref l0), (1, .int l1), (2, .int l2)] [] h (M_readTold Y l0 l1 l2 h) rI
  unfold M_readTold
  refine aw_aload_n (pc := 0) d_M_readTold_0 rfl 0 rfl ?_
  refine aw_iload_n (pc := 1) d_M_readTold_1 rfl 1 rfl ?_
  refine aw_iload_n (pc := 2) d_M_readTold_2 rfl 2 rfl ?_
  refine aw_cVrI (pc := 3) (ci := 12) (T := TX12) (N := 44) (As := [.int l1, .int l2]) (st := []) (ok_M_told Y l0 l1 l2 h t0) okV_M_told rfl (by decide) t0 w8_166 d_M_readTold_3 rfl (Nat.le_of_ble_eq_true rfl) rfl (Nat.le_of_ble_eq_true rfl) (fun q1 hq1 hTq1 => ?_)
  refine aw_istore_n (pc := 6) (lv' := [(3, .int q1.1), (0, .ref l0), (1, .int l1), (2, .int l2)]) d_M_readTold_6 rfl (by decide) rfl ?_
  refine aw_aload_n (pc := 7) d_M_readTold_7 rfl 1 rfl ?_
  refine aw_iconst (pc := 8) (x := 1) d_M_readTold_8 (by decide) ?_
  refine aw_cVrV (pc := 9) (ci := 12) (T := TX12) (N := 44) (As := [.int (b2i true)]) (st := []) (ok_M_must Y l0 true q1.2 t0) okV_M_must rfl (by decide) t0 w8_171 d_M_readTold_9 rfl (Nat.le_of_ble_eq_true rfl) rfl (Nat.le_of_ble_eq_true rfl) (fun q2 hq2 hTq2 => ?_)
  refine aw_iload_n (pc := 12) d_M_readTold_12 rfl 0 rfl ?_
  exact aw_ireturn (pc := 13) d_M_readTold_13 rfl rfl
/-! LastPagesModel.readTurns(II)I -/
theorem d_M_readTurns_0 : decode prog_14_method_71_code 0 = .ok (.iconst 0, 1) := by decide +kernel
theorem d_M_readTurns_1 : decode prog_14_method_71_code 1 = .ok (.istore_n 3, 1) := by decide +kernel
theorem d_M_readTurns_2 : decode prog_14_method_71_code 2 = .ok (.aload_n 0, 1) := by decide +kernel
theorem d_M_readTurns_3 : decode prog_14_method_71_code 3 = .ok (.getfield 245, 3) := by decide +kernel
theorem d_M_readTurns_6 : decode prog_14_method_71_code 6 = .ok (.ifCond .ne 71, 3) := by decide +kernel
theorem d_M_readTurns_9 : decode prog_14_method_71_code 9 = .ok (.aload_n 0, 1) := by decide +kernel
theorem d_M_readTurns_10 : decode prog_14_method_71_code 10 = .ok (.getfield 133, 3) := by decide +kernel
theorem d_M_readTurns_13 : decode prog_14_method_71_code 13 = .ok (.iconst 1, 1) := by decide +kernel
theorem d_M_readTurns_14 : decode prog_14_method_71_code 14 = .ok (.if_icmp .ne 63, 3) := by decide +kernel
theorem d_M_readTurns_17 : decode prog_14_method_71_code 17 = .ok (.aload_n 0, 1) := by decide +kernel
theorem d_M_readTurns_18 : decode prog_14_method_71_code 18 = .ok (.iconst 4, 1) := by decide +kernel
theorem d_M_readTurns_19 : decode prog_14_method_71_code 19 = .ok (.iconst 1, 1) := by decide +kernel
theorem d_M_readTurns_20 : decode prog_14_method_71_code 20 = .ok (.invokevirtual 289, 3) := by decide +kernel
theorem d_M_readTurns_23 : decode prog_14_method_71_code 23 = .ok (.istore 4, 2) := by decide +kernel
theorem d_M_readTurns_25 : decode prog_14_method_71_code 25 = .ok (.aload_n 0, 1) := by decide +kernel
theorem d_M_readTurns_26 : decode prog_14_method_71_code 26 = .ok (.getfield 245, 3) := by decide +kernel
theorem d_M_readTurns_29 : decode prog_14_method_71_code 29 = .ok (.ifCond .ne 18, 3) := by decide +kernel
theorem d_M_readTurns_32 : decode prog_14_method_71_code 32 = .ok (.iload_n 3, 1) := by decide +kernel
theorem d_M_readTurns_33 : decode prog_14_method_71_code 33 = .ok (.iload_n 2, 1) := by decide +kernel
theorem d_M_readTurns_34 : decode prog_14_method_71_code 34 = .ok (.if_icmp .ne 13, 3) := by decide +kernel
theorem d_M_readTurns_37 : decode prog_14_method_71_code 37 = .ok (.aload_n 0, 1) := by decide +kernel
theorem d_M_readTurns_38 : decode prog_14_method_71_code 38 = .ok (.bipush 6, 2) := by decide +kernel
theorem d_M_readTurns_40 : decode prog_14_method_71_code 40 = .ok (.aload_n 0, 1) := by decide +kernel
theorem d_M_readTurns_41 : decode prog_14_method_71_code 41 = .ok (.getfield 127, 3) := by decide +kernel
theorem d_M_readTurns_44 : decode prog_14_method_71_code 44 = .ok (.invokevirtual 251, 3) := by decide +kernel
theorem d_M_readTurns_47 : decode prog_14_method_71_code 47 = .ok (.aload_n 0, 1) := by decide +kernel
theorem d_M_readTurns_48 : decode prog_14_method_71_code 48 = .ok (.iconst 1, 1) := by decide +kernel
theorem d_M_readTurns_49 : decode prog_14_method_71_code 49 = .ok (.invokevirtual 261, 3) := by decide +kernel
theorem d_M_readTurns_52 : decode prog_14_method_71_code 52 = .ok (.aload_n 0, 1) := by decide +kernel
theorem d_M_readTurns_53 : decode prog_14_method_71_code 53 = .ok (.getfield 245, 3) := by decide +kernel
theorem d_M_readTurns_56 : decode prog_14_method_71_code 56 = .ok (.ifCond .le 5, 3) := by decide +kernel
theorem d_M_readTurns_59 : decode prog_14_method_71_code 59 = .ok (.iconst 0, 1) := by decide +kernel
theorem d_M_readTurns_60 : decode prog_14_method_71_code 60 = .ok (.ireturn, 1) := by decide +kernel
theorem d_M_readTurns_61 : decode prog_14_method_71_code 61 = .ok (.aload_n 0, 1) := by decide +kernel
theorem d_M_readTurns_62 : decode prog_14_method_71_code 62 = .ok (.getfield 35, 3) := by decide +kernel
theorem d_M_readTurns_65 : decode prog_14_method_71_code 65 = .ok (.iload_n 1, 1) := by decide +kernel
theorem d_M_readTurns_66 : decode prog_14_method_71_code 66 = .ok (.iload_n 3, 1) := by decide +kernel
theorem d_M_readTurns_67 : decode prog_14_method_71_code 67 = .ok (.iadd, 1) := by decide +kernel
theorem d_M_readTurns_68 : decode prog_14_method_71_code 68 = .ok (.iload 4, 2) := by decide +kernel
theorem d_M_readTurns_70 : decode prog_14_method_71_code 70 = .ok (.iastore, 1) := by decide +kernel
theorem d_M_readTurns_71 : decode prog_14_method_71_code 71 = .ok (.iinc 3 1, 3) := by decide +kernel
theorem d_M_readTurns_74 : decode prog_14_method_71_code 74 = .ok (.goto (-72), 3) := by decide +kernel
theorem d_M_readTurns_77 : decode prog_14_method_71_code 77 = .ok (.iload_n 3, 1) := by decide +kernel
theorem d_M_readTurns_78 : decode prog_14_method_71_code 78 = .ok (.ireturn, 1) := by decide +kernel
def M_readTurns_J47 (Y : Ly) (k2 : Int32 → Hp → Option (Int32 × Hp)) (l0 : Nat) (l1 : Int32) (l2 : Int32) (l3 : Int32) (l4 : Int32) (h : Hp) : Option (Int32 × Hp) :=
  (M_must Y l0 true h).bind fun q7 =>
  if (hGi q7 1212 l0) ≤ 0 then
    if inB (l1 + l3) (lnY Y (hGr q7 1220 l0)) = true then
      letH (hTi q7 (hGr q7 1220 l0) (Int32.toNatClampNeg (l1 + l3)) l4) fun h11 =>
      k2 (l3 + 1) h11
    else none
  else
    some (0, q7)
theorem M_readTurns_J47_ok (Y : Ly) (k2 : Int32 → Hp → Option (Int32 × Hp)) (l0 : Nat) (l1 : Int32) (l2 : Int32) (l3 : Int32) (l4 : Int32) (h : Hp) (hk2 : ∀ (l3_ : Int32) (h_ : Hp), AW Y 6 K_M_readTurns 2 [(0, .ref l0), (1, .int l1), (2, .int l2), (3, .int l3_)] [] h_ (k2 l3_ h_) rI) (tl0 : isO Y 12 l0) : AW Y 6 K_M_readTurns 47 [(0, .ref l0), (1, .int l1), (2, .int l2), (3, .int l3), (4, .int l4)] [] h (M_readTurns_J47 Y k2 l0 l1 l2 l3 l4 h) rI := by
  unfold M_readTurns_J47
  refine aw_aload_n (pc := 47) d_M_readTurns_47 rfl 0 rfl ?_
  refine aw_iconst (pc := 48) (x := 1) d_M_readTurns_48 (by decide) ?_
  refine aw_cVrV (pc := 49) (ci := 12) (T := TX12) (N := 44) (As := [.int (b2i true)]) (st := []) (ok_M_must Y l0 true h tl0) okV_M_must rfl (by decide) tl0 w8_171 d_M_readTurns_49 rfl (Nat.le_of_ble_eq_true rfl) rfl (Nat.le_of_ble_eq_true rfl) (fun q7 hq7 hTq7 => ?_)
  refine aw_aload_n (pc := 52) d_M_readTurns_52 rfl 0 rfl ?_
  refine gt_1212 (pc := 53) d_M_readTurns_53 w7_39 tl0 ?_
  refine aw_if_le (pc := 56) (tgt := 61) d_M_readTurns_56 (by decide) (fun c8 => ?_) (fun c8 => ?_)
  · refine aw_aload_n (pc := 61) d_M_readTurns_61 rfl 0 rfl ?_
    refine gt_1220 (pc := 62) d_M_readTurns_62 w7_47 tl0 (fun tt9 => ?_)
    refine aw_iload_n (pc := 65) d_M_readTurns_65 rfl 1 rfl ?_
    refine aw_iload_n (pc := 66) d_M_readTurns_66 rfl 3 rfl ?_
    refine aw_iadd (pc := 67) d_M_readTurns_67 ?_
    refine aw_iload (pc := 68) d_M_readTurns_68 4 rfl ?_
    refine aw_iastore (pc := 70) d_M_readTurns_70 tt9 (fun c10 => ?_)
    refine aw_letH (fun h11 => ?_)
    refine aw_iinc (pc := 71) (w := l3 + 1) (lv' := [(3, .int (l3 + 1)), (0, .ref l0), (1, .int l1), (2, .int l2), (4, .int l4)]) d_M_readTurns_71 3 rfl rfl (by decide) rfl ?_
    refine aw_goto (pc := 74) (tgt := 2) d_M_readTurns_74 (by decide) ?_
    exact aw_lv [1, 2, 3, 0] rfl (hk2 (l3 + 1) h11)
  · refine aw_iconst (pc := 59) (x := 0) d_M_readTurns_59 (by decide) ?_
    exact aw_ireturn (pc := 60) d_M_readTurns_60 rfl rfl
def M_readTurns_L2 (Y : Ly) (l0 : Nat) (l1 : Int32) (l2 : Int32) : Nat → Int32 → Hp → Option (Int32 × Hp)
  | 0, _, _ => none
  | F + 1, l3, h =>
    if (hGi h 1212 l0) = 0 then
      if (hGi h 1214 l0) = 1 then
        (M_told Y l0 4 1 h).bind fun q3 =>
        if (hGi q3.2 1212 l0) = 0 then
          if l3 = l2 then
            (M_fail Y l0 6 (hGi q3.2 1215 l0) q3.2).bind fun q6 =>
            M_readTurns_J47 Y (M_readTurns_L2 Y l0 l1 l2 F) l0 l1 l2 l3 q3.1 q6
          else
            M_readTurns_J47 Y (M_readTurns_L2 Y l0 l1 l2 F) l0 l1 l2 l3 q3.1 q3.2
        else
          M_readTurns_J47 Y (M_readTurns_L2 Y l0 l1 l2 F) l0 l1 l2 l3 q3.1 q3.2
      else
        some (l3, h)
    else
      some (l3, h)
theorem M_readTurns_L2_ok (Y : Ly) (l0 : Nat) (l1 : Int32) (l2 : Int32) (tl0 : isO Y 12 l0) : ∀ (F : Nat) (l3 : Int32) (h : Hp), AW Y 6 K_M_readTurns 2 [(0, .ref l0), (1, .int l1), (2, .int l2), (3, .int l3)] [] h (M_readTurns_L2 Y l0 l1 l2 F l3 h) rI := by
  intro F
  induction F with
  | zero =>
    intro l3 h
    exact aw_none
  | succ F ih =>
    intro l3 h
    unfold M_readTurns_L2
    refine aw_aload_n (pc := 2) d_M_readTurns_2 rfl 0 rfl ?_
    refine gt_1212 (pc := 3) d_M_readTurns_3 w7_39 tl0 ?_
    refine aw_if_ne (pc := 6) (tgt := 77) d_M_readTurns_6 (by decide) (fun c1 => ?_) (fun c1 => ?_)
    · refine aw_aload_n (pc := 9) d_M_readTurns_9 rfl 0 rfl ?_
      refine gt_1214 (pc := 10) d_M_readTurns_10 w7_41 tl0 ?_
      refine aw_iconst (pc := 13) (x := 1) d_M_readTurns_13 (by decide) ?_
      refine aw_icmp_ne (pc := 14) (tgt := 77) d_M_readTurns_14 (by decide) (fun c2 => ?_) (fun c2 => ?_)
      · refine aw_aload_n (pc := 17) d_M_readTurns_17 rfl 0 rfl ?_
        refine aw_iconst (pc := 18) (x := 4) d_M_readTurns_18 (by decide) ?_
        refine aw_iconst (pc := 19) (x := 1) d_M_readTurns_19 (by decide) ?_
        refine aw_cVrI (pc := 20) (ci := 12) (T := TX12) (N := 44) (As := [.int 4, .int 1]) (st := []) (ok_M_told Y l0 4 1 h tl0) okV_M_told rfl (by decide) tl0 w8_166 d_M_readTurns_20 rfl (Nat.le_of_ble_eq_true rfl) rfl (Nat.le_of_ble_eq_true rfl) (fun q3 hq3 hTq3 => ?_)
        refine aw_istore (pc := 23) (lv' := [(4, .int q3.1), (0, .ref l0), (1, .int l1), (2, .int l2), (3, .int l3)]) d_M_readTurns_23 (by decide) rfl ?_
        refine aw_aload_n (pc := 25) d_M_readTurns_25 rfl 1 rfl ?_
        refine gt_1212 (pc := 26) d_M_readTurns_26 w7_39 tl0 ?_
        refine aw_if_ne (pc := 29) (tgt := 47) d_M_readTurns_29 (by decide) (fun c4 => ?_) (fun c4 => ?_)
        · refine aw_iload_n (pc := 32) d_M_readTurns_32 rfl 4 rfl ?_
          refine aw_iload_n (pc := 33) d_M_readTurns_33 rfl 3 rfl ?_
          refine aw_icmp_ne (pc := 34) (tgt := 47) d_M_readTurns_34 (by decide) (fun c5 => ?_) (fun c5 => ?_)
          · refine aw_aload_n (pc := 37) d_M_readTurns_37 rfl 1 rfl ?_
            refine aw_bipush (pc := 38) (x := 6) d_M_readTurns_38 (by decide) ?_
            refine aw_aload_n (pc := 40) d_M_readTurns_40 rfl 1 rfl ?_
            refine gt_1215 (pc := 41) d_M_readTurns_41 w7_42 tl0 ?_
            refine aw_cVrV (pc := 44) (ci := 12) (T := TX12) (N := 44) (As := [.int 6, .int (hGi q3.2 1215 l0)]) (st := []) (ok_M_fail Y l0 6 (hGi q3.2 1215 l0) q3.2 tl0) okV_M_fail rfl (by decide) tl0 w8_30 d_M_readTurns_44 rfl (Nat.le_of_ble_eq_true rfl) rfl (Nat.le_of_ble_eq_true rfl) (fun q6 hq6 hTq6 => ?_)
            exact aw_lv [1, 2, 3, 4, 0] rfl (M_readTurns_J47_ok Y (M_readTurns_L2 Y l0 l1 l2 F) l0 l1 l2 l3 q3.1 q6 ih tl0)
          · exact aw_lv [1, 2, 3, 4, 0] rfl (M_readTurns_J47_ok Y (M_readTurns_L2 Y l0 l1 l2 F) l0 l1 l2 l3 q3.1 q3.2 ih tl0)
        · exact aw_lv [1, 2, 3, 4, 0] rfl (M_readTurns_J47_ok Y (M_readTurns_L2 Y l0 l1 l2 F) l0 l1 l2 l3 q3.1 q3.2 ih tl0)
      · refine aw_iload_n (pc := 77) d_M_readTurns_77 rfl 3 rfl ?_
        exact aw_ireturn (pc := 78) d_M_readTurns_78 rfl rfl
    · refine aw_iload_n (pc := 77) d_M_readTurns_77 rfl 3 rfl ?_
      exact aw_ireturn (pc := 78) d_M_readTurns_78 rfl rfl
def M_readTurns (Y : Ly) (l0 : Nat) (l1 : Int32) (l2 : Int32) (h : Hp) : Option (Int32 × Hp) :=
  M_readTurns_L2 Y l0 l1 l2 FU 0 h
theorem ok_M_readTurns (Y : Ly) (l0 : Nat) (l1 : Int32) (l2 : Int32) (h : Hp) (t0 : isO Y 12 l0) : AM Y 6 K_M_readTurns [.ref l0, .int l1, .int l2] h (M_readTurns Y l0 l1 l2 h) rI := by
  refine AM.of rfl (Nat.le_of_ble_eq_true rfl) ?_
  show AW Y 6 K_M_readTurns 0 [(0, .ref l0), (1, .int l1), (2, .int l2)] [] h (M_readTurns Y l0 l1 l2 h) rI
  unfold M_readTurns
  refine aw_iconst (pc := 0) (x := 0) d_M_readTurns_0 (by decide) ?_
  refine aw_istore_n (pc := 1) (lv' := [(3, .int 0), (0, .ref l0), (1, .int l1), (2, .int l2)]) d_M_readTurns_1 rfl (by decide) rfl ?_
  exact aw_lv [1, 2, 3, 0] rfl (M_readTurns_L2_ok Y l0 l1 l2 t0 FU 0 h)
/-! LastPagesModel.readBook()V -/
theorem d_M_readBook_0 : decode prog_14_method_77_code 0 = .ok (.aload_n 0, 1) := by decide +kernel
theorem d_M_readBook_1 : decode prog_14_method_77_code 1 = .ok (.iconst 2, 1) := by decide +kernel
theorem d_M_readBook_2 : decode prog_14_method_77_code 2 = .ok (.bipush 6, 2) := by decide +kernel
theorem d_M_readBook_4 : decode prog_14_method_77_code 4 = .ok (.invokevirtual 295, 3) := by decide +kernel
theorem d_M_readBook_7 : decode prog_14_method_77_code 7 = .ok (.istore_n 1, 1) := by decide +kernel
theorem d_M_readBook_8 : decode prog_14_method_77_code 8 = .ok (.aload_n 0, 1) := by decide +kernel
theorem d_M_readBook_9 : decode prog_14_method_77_code 9 = .ok (.aload_n 0, 1) := by decide +kernel
theorem d_M_readBook_10 : decode prog_14_method_77_code 10 = .ok (.invokevirtual 190, 3) := by decide +kernel
theorem d_M_readBook_13 : decode prog_14_method_77_code 13 = .ok (.invokevirtual 261, 3) := by decide +kernel
theorem d_M_readBook_16 : decode prog_14_method_77_code 16 = .ok (.aload_n 0, 1) := by decide +kernel
theorem d_M_readBook_17 : decode prog_14_method_77_code 17 = .ok (.getfield 35, 3) := by decide +kernel
theorem d_M_readBook_20 : decode prog_14_method_77_code 20 = .ok (.sipush 2386, 3) := by decide +kernel
theorem d_M_readBook_23 : decode prog_14_method_77_code 23 = .ok (.iload_n 1, 1) := by decide +kernel
theorem d_M_readBook_24 : decode prog_14_method_77_code 24 = .ok (.iadd, 1) := by decide +kernel
theorem d_M_readBook_25 : decode prog_14_method_77_code 25 = .ok (.aload_n 0, 1) := by decide +kernel
theorem d_M_readBook_26 : decode prog_14_method_77_code 26 = .ok (.iconst 4, 1) := by decide +kernel
theorem d_M_readBook_27 : decode prog_14_method_77_code 27 = .ok (.iconst 0, 1) := by decide +kernel
theorem d_M_readBook_28 : decode prog_14_method_77_code 28 = .ok (.invokevirtual 292, 3) := by decide +kernel
theorem d_M_readBook_31 : decode prog_14_method_77_code 31 = .ok (.iastore, 1) := by decide +kernel
theorem d_M_readBook_32 : decode prog_14_method_77_code 32 = .ok (.aload_n 0, 1) := by decide +kernel
theorem d_M_readBook_33 : decode prog_14_method_77_code 33 = .ok (.getfield 35, 3) := by decide +kernel
theorem d_M_readBook_36 : decode prog_14_method_77_code 36 = .ok (.sipush 2392, 3) := by decide +kernel
theorem d_M_readBook_39 : decode prog_14_method_77_code 39 = .ok (.iload_n 1, 1) := by decide +kernel
theorem d_M_readBook_40 : decode prog_14_method_77_code 40 = .ok (.iadd, 1) := by decide +kernel
theorem d_M_readBook_41 : decode prog_14_method_77_code 41 = .ok (.aload_n 0, 1) := by decide +kernel
theorem d_M_readBook_42 : decode prog_14_method_77_code 42 = .ok (.aload_n 0, 1) := by decide +kernel
theorem d_M_readBook_43 : decode prog_14_method_77_code 43 = .ok (.invokevirtual 193, 3) := by decide +kernel
theorem d_M_readBook_46 : decode prog_14_method_77_code 46 = .ok (.iconst 1, 1) := by decide +kernel
theorem d_M_readBook_47 : decode prog_14_method_77_code 47 = .ok (.bipush 6, 2) := by decide +kernel
theorem d_M_readBook_49 : decode prog_14_method_77_code 49 = .ok (.invokevirtual 298, 3) := by decide +kernel
theorem d_M_readBook_52 : decode prog_14_method_77_code 52 = .ok (.iastore, 1) := by decide +kernel
theorem d_M_readBook_53 : decode prog_14_method_77_code 53 = .ok (.aload_n 0, 1) := by decide +kernel
theorem d_M_readBook_54 : decode prog_14_method_77_code 54 = .ok (.getfield 35, 3) := by decide +kernel
theorem d_M_readBook_57 : decode prog_14_method_77_code 57 = .ok (.sipush 2398, 3) := by decide +kernel
theorem d_M_readBook_60 : decode prog_14_method_77_code 60 = .ok (.iload_n 1, 1) := by decide +kernel
theorem d_M_readBook_61 : decode prog_14_method_77_code 61 = .ok (.iadd, 1) := by decide +kernel
theorem d_M_readBook_62 : decode prog_14_method_77_code 62 = .ok (.aload_n 0, 1) := by decide +kernel
theorem d_M_readBook_63 : decode prog_14_method_77_code 63 = .ok (.sipush 2410, 3) := by decide +kernel
theorem d_M_readBook_66 : decode prog_14_method_77_code 66 = .ok (.bipush 10, 2) := by decide +kernel
theorem d_M_readBook_68 : decode prog_14_method_77_code 68 = .ok (.iload_n 1, 1) := by decide +kernel
theorem d_M_readBook_69 : decode prog_14_method_77_code 69 = .ok (.imul, 1) := by decide +kernel
theorem d_M_readBook_70 : decode prog_14_method_77_code 70 = .ok (.iadd, 1) := by decide +kernel
theorem d_M_readBook_71 : decode prog_14_method_77_code 71 = .ok (.bipush 10, 2) := by decide +kernel
theorem d_M_readBook_73 : decode prog_14_method_77_code 73 = .ok (.invokevirtual 302, 3) := by decide +kernel
theorem d_M_readBook_76 : decode prog_14_method_77_code 76 = .ok (.iastore, 1) := by decide +kernel
theorem d_M_readBook_77 : decode prog_14_method_77_code 77 = .ok (.aload_n 0, 1) := by decide +kernel
theorem d_M_readBook_78 : decode prog_14_method_77_code 78 = .ok (.getfield 245, 3) := by decide +kernel
theorem d_M_readBook_81 : decode prog_14_method_77_code 81 = .ok (.ifCond .ne 15, 3) := by decide +kernel
theorem d_M_readBook_84 : decode prog_14_method_77_code 84 = .ok (.aload_n 0, 1) := by decide +kernel
theorem d_M_readBook_85 : decode prog_14_method_77_code 85 = .ok (.getfield 35, 3) := by decide +kernel
theorem d_M_readBook_88 : decode prog_14_method_77_code 88 = .ok (.sipush 2306, 3) := by decide +kernel
theorem d_M_readBook_91 : decode prog_14_method_77_code 91 = .ok (.dup2, 1) := by decide +kernel
theorem d_M_readBook_92 : decode prog_14_method_77_code 92 = .ok (.iaload, 1) := by decide +kernel
theorem d_M_readBook_93 : decode prog_14_method_77_code 93 = .ok (.iconst 1, 1) := by decide +kernel
theorem d_M_readBook_94 : decode prog_14_method_77_code 94 = .ok (.iadd, 1) := by decide +kernel
theorem d_M_readBook_95 : decode prog_14_method_77_code 95 = .ok (.iastore, 1) := by decide +kernel
theorem d_M_readBook_96 : decode prog_14_method_77_code 96 = .ok (.return_, 1) := by decide +kernel
def M_readBook (Y : Ly) (l0 : Nat) (h : Hp) : Option Hp :=
  (M_readNew Y l0 2 6 h).bind fun q1 =>
  (M_isFrom Y l0 q1.2).bind fun q2 =>
  (M_must Y l0 q2 q1.2).bind fun q3 =>
  (M_readTold Y l0 4 0 q3).bind fun q5 =>
  if inB (2386 + q1.1) (lnY Y (hGr q3 1220 l0)) = true then
    letH (hTi q5.2 (hGr q3 1220 l0) (Int32.toNatClampNeg (2386 + q1.1)) q5.1) fun h7 =>
    (M_isMisses Y l0 h7).bind fun q9 =>
    (M_behindWord Y l0 q9 1 6 h7).bind fun q10 =>
    if inB (2392 + q1.1) (lnY Y (hGr h7 1220 l0)) = true then
      letH (hTi q10.2 (hGr h7 1220 l0) (Int32.toNatClampNeg (2392 + q1.1)) q10.1) fun h12 =>
      (M_readTurns Y l0 (2410 + (10 * q1.1)) 10 h12).bind fun q14 =>
      if inB (2398 + q1.1) (lnY Y (hGr h12 1220 l0)) = true then
        letH (hTi q14.2 (hGr h12 1220 l0) (Int32.toNatClampNeg (2398 + q1.1)) q14.1) fun h16 =>
        if (hGi h16 1212 l0) = 0 then
          if inB 2306 (lnY Y (hGr h16 1220 l0)) = true then
            if inB 2306 (lnY Y (hGr h16 1220 l0)) = true then
              letH (hTi h16 (hGr h16 1220 l0) (Int32.toNatClampNeg 2306) ((hAi h16 (hGr h16 1220 l0) (Int32.toNatClampNeg 2306)) + 1)) fun h21 =>
              some h21
            else none
          else none
        else
          some h16
      else none
    else none
  else none
theorem ok_M_readBook (Y : Ly) (l0 : Nat) (h : Hp) (t0 : isO Y 12 l0) : AM Y 7 K_M_readBook [.ref l0] h (M_readBook Y l0 h) rV := by
  refine AM.of rfl (Nat.le_of_ble_eq_true rfl) ?_
  show AW Y 7 K_M_readBook 0 [(0, .ref l0)] [] h (M_readBook Y l0 h) rV
  unfold M_readBook
  refine aw_aload_n (pc := 0) d_M_readBook_0 rfl 0 rfl ?_
  refine aw_iconst (pc := 1) (x := 2) d_M_readBook_1 (by decide) ?_
  refine aw_bipush (pc := 2) (x := 6) d_M_readBook_2 (by decide) ?_
  refine aw_cVrI (pc := 4) (ci := 12) (T := TX12) (N := 44) (As := [.int 2, .int 6]) (st := []) (ok_M_readNew Y l0 2 6 h t0) okV_M_readNew rfl (by decide) t0 w8_23 d_M_readBook_4 rfl (Nat.le_of_ble_eq_true rfl) rfl (Nat.le_of_ble_eq_true rfl) (fun q1 hq1 hTq1 => ?_)
  refine aw_istore_n (pc := 7) (lv' := [(1, .int q1.1), (0, .ref l0)]) d_M_readBook_7 rfl (by decide) rfl ?_
  refine aw_aload_n (pc := 8) d_M_readBook_8 rfl 1 rfl ?_
  refine aw_aload_n (pc := 9) d_M_readBook_9 rfl 1 rfl ?_
  refine aw_cVpZ (pc := 10) (ci := 12) (T := TX12) (N := 44) (As := []) (st := [.ref l0]) (ok_M_isFrom Y l0 q1.2 t0) okV_M_isFrom rfl (by decide) t0 w8_62 d_M_readBook_10 rfl (Nat.le_of_ble_eq_true rfl) rfl (Nat.le_of_ble_eq_true rfl) (fun q2 hq2 hTq2 => ?_)
  refine aw_cVrV (pc := 13) (ci := 12) (T := TX12) (N := 44) (As := [.int (b2i q2)]) (st := []) (ok_M_must Y l0 q2 q1.2 t0) okV_M_must rfl (by decide) t0 w8_171 d_M_readBook_13 rfl (Nat.le_of_ble_eq_true rfl) rfl (Nat.le_of_ble_eq_true rfl) (fun q3 hq3 hTq3 => ?_)
  refine aw_aload_n (pc := 16) d_M_readBook_16 rfl 1 rfl ?_
  refine gt_1220 (pc := 17) d_M_readBook_17 w7_47 t0 (fun tt4 => ?_)
  refine aw_sipush (pc := 20) (x := 2386) d_M_readBook_20 (by decide) ?_
  refine aw_iload_n (pc := 23) d_M_readBook_23 rfl 0 rfl ?_
  refine aw_iadd (pc := 24) d_M_readBook_24 ?_
  refine aw_aload_n (pc := 25) d_M_readBook_25 rfl 1 rfl ?_
  refine aw_iconst (pc := 26) (x := 4) d_M_readBook_26 (by decide) ?_
  refine aw_iconst (pc := 27) (x := 0) d_M_readBook_27 (by decide) ?_
  refine aw_cVrI (pc := 28) (ci := 12) (T := TX12) (N := 44) (As := [.int 4, .int 0]) (st := [.int (2386 + q1.1), .ref (hGr q3 1220 l0)]) (ok_M_readTold Y l0 4 0 q3 t0) okV_M_readTold rfl (by decide) t0 w8_162 d_M_readBook_28 rfl (Nat.le_of_ble_eq_true rfl) rfl (Nat.le_of_ble_eq_true rfl) (fun q5 hq5 hTq5 => ?_)
  refine aw_iastore (pc := 31) d_M_readBook_31 tt4 (fun c6 => ?_)
  refine aw_letH (fun h7 => ?_)
  refine aw_aload_n (pc := 32) d_M_readBook_32 rfl 1 rfl ?_
  refine gt_1220 (pc := 33) d_M_readBook_33 w7_47 t0 (fun tt8 => ?_)
  refine aw_sipush (pc := 36) (x := 2392) d_M_readBook_36 (by decide) ?_
  refine aw_iload_n (pc := 39) d_M_readBook_39 rfl 0 rfl ?_
  refine aw_iadd (pc := 40) d_M_readBook_40 ?_
  refine aw_aload_n (pc := 41) d_M_readBook_41 rfl 1 rfl ?_
  refine aw_aload_n (pc := 42) d_M_readBook_42 rfl 1 rfl ?_
  refine aw_cVpZ (pc := 43) (ci := 12) (T := TX12) (N := 44) (As := []) (st := [.ref l0, .int (2392 + q1.1), .ref (hGr h7 1220 l0)]) (ok_M_isMisses Y l0 h7 t0) okV_M_isMisses rfl (by decide) t0 w8_66 d_M_readBook_43 rfl (Nat.le_of_ble_eq_true rfl) rfl (Nat.le_of_ble_eq_true rfl) (fun q9 hq9 hTq9 => ?_)
  refine aw_iconst (pc := 46) (x := 1) d_M_readBook_46 (by decide) ?_
  refine aw_bipush (pc := 47) (x := 6) d_M_readBook_47 (by decide) ?_
  refine aw_cVrI (pc := 49) (ci := 12) (T := TX12) (N := 44) (As := [.int (b2i q9), .int 1, .int 6]) (st := [.int (2392 + q1.1), .ref (hGr h7 1220 l0)]) (ok_M_behindWord Y l0 q9 1 6 h7 t0) okV_M_behindWord rfl (by decide) t0 w8_179 d_M_readBook_49 rfl (Nat.le_of_ble_eq_true rfl) rfl (Nat.le_of_ble_eq_true rfl) (fun q10 hq10 hTq10 => ?_)
  refine aw_iastore (pc := 52) d_M_readBook_52 tt8 (fun c11 => ?_)
  refine aw_letH (fun h12 => ?_)
  refine aw_aload_n (pc := 53) d_M_readBook_53 rfl 1 rfl ?_
  refine gt_1220 (pc := 54) d_M_readBook_54 w7_47 t0 (fun tt13 => ?_)
  refine aw_sipush (pc := 57) (x := 2398) d_M_readBook_57 (by decide) ?_
  refine aw_iload_n (pc := 60) d_M_readBook_60 rfl 0 rfl ?_
  refine aw_iadd (pc := 61) d_M_readBook_61 ?_
  refine aw_aload_n (pc := 62) d_M_readBook_62 rfl 1 rfl ?_
  refine aw_sipush (pc := 63) (x := 2410) d_M_readBook_63 (by decide) ?_
  refine aw_bipush (pc := 66) (x := 10) d_M_readBook_66 (by decide) ?_
  refine aw_iload_n (pc := 68) d_M_readBook_68 rfl 0 rfl ?_
  refine aw_imul (pc := 69) d_M_readBook_69 ?_
  refine aw_iadd (pc := 70) d_M_readBook_70 ?_
  refine aw_bipush (pc := 71) (x := 10) d_M_readBook_71 (by decide) ?_
  refine aw_cVrI (pc := 73) (ci := 12) (T := TX12) (N := 44) (As := [.int (2410 + (10 * q1.1)), .int 10]) (st := [.int (2398 + q1.1), .ref (hGr h12 1220 l0)]) (ok_M_readTurns Y l0 (2410 + (10 * q1.1)) 10 h12 t0) okV_M_readTurns rfl (by decide) t0 w8_183 d_M_readBook_73 rfl (Nat.le_of_ble_eq_true rfl) rfl (Nat.le_of_ble_eq_true rfl) (fun q14 hq14 hTq14 => ?_)
  refine aw_iastore (pc := 76) d_M_readBook_76 tt13 (fun c15 => ?_)
  refine aw_letH (fun h16 => ?_)
  refine aw_aload_n (pc := 77) d_M_readBook_77 rfl 1 rfl ?_
  refine gt_1212 (pc := 78) d_M_readBook_78 w7_39 t0 ?_
  refine aw_if_ne (pc := 81) (tgt := 96) d_M_readBook_81 (by decide) (fun c17 => ?_) (fun c17 => ?_)
  · refine aw_aload_n (pc := 84) d_M_readBook_84 rfl 1 rfl ?_
    refine gt_1220 (pc := 85) d_M_readBook_85 w7_47 t0 (fun tt18 => ?_)
    refine aw_sipush (pc := 88) (x := 2306) d_M_readBook_88 (by decide) ?_
    refine aw_dup2_11 (pc := 91) d_M_readBook_91 rfl rfl ?_
    refine aw_iaload (pc := 92) d_M_readBook_92 tt18 (fun c19 => ?_)
    refine aw_iconst (pc := 93) (x := 1) d_M_readBook_93 (by decide) ?_
    refine aw_iadd (pc := 94) d_M_readBook_94 ?_
    refine aw_iastore (pc := 95) d_M_readBook_95 tt18 (fun c20 => ?_)
    refine aw_letH (fun h21 => ?_)
    exact aw_return (pc := 96) d_M_readBook_96 rfl rfl
  · exact aw_return (pc := 96) d_M_readBook_96 rfl rfl
