/-! LastPages$Shelf.leastGuarded()I -/
theorem d_Sh_leastGuarded_0 : decode prog_6_method_26_code 0 = .ok (.iconst 1, 1) := by decide +kernel
theorem d_Sh_leastGuarded_1 : decode prog_6_method_26_code 1 = .ok (.aload_n 0, 1) := by decide +kernel
theorem d_Sh_leastGuarded_2 : decode prog_6_method_26_code 2 = .ok (.getfield 27, 3) := by decide +kernel
theorem d_Sh_leastGuarded_5 : decode prog_6_method_26_code 5 = .ok (.getfield 88, 3) := by decide +kernel
theorem d_Sh_leastGuarded_8 : decode prog_6_method_26_code 8 = .ok (.ishl, 1) := by decide +kernel
theorem d_Sh_leastGuarded_9 : decode prog_6_method_26_code 9 = .ok (.iconst 1, 1) := by decide +kernel
theorem d_Sh_leastGuarded_10 : decode prog_6_method_26_code 10 = .ok (.isub, 1) := by decide +kernel
theorem d_Sh_leastGuarded_11 : decode prog_6_method_26_code 11 = .ok (.istore_n 1, 1) := by decide +kernel
theorem d_Sh_leastGuarded_12 : decode prog_6_method_26_code 12 = .ok (.iconst (-1), 1) := by decide +kernel
theorem d_Sh_leastGuarded_13 : decode prog_6_method_26_code 13 = .ok (.istore_n 2, 1) := by decide +kernel
theorem d_Sh_leastGuarded_14 : decode prog_6_method_26_code 14 = .ok (.bipush 9, 2) := by decide +kernel
theorem d_Sh_leastGuarded_16 : decode prog_6_method_26_code 16 = .ok (.istore_n 3, 1) := by decide +kernel
theorem d_Sh_leastGuarded_17 : decode prog_6_method_26_code 17 = .ok (.iconst 0, 1) := by decide +kernel
theorem d_Sh_leastGuarded_18 : decode prog_6_method_26_code 18 = .ok (.istore 4, 2) := by decide +kernel
theorem d_Sh_leastGuarded_20 : decode prog_6_method_26_code 20 = .ok (.iload 4, 2) := by decide +kernel
theorem d_Sh_leastGuarded_22 : decode prog_6_method_26_code 22 = .ok (.aload_n 0, 1) := by decide +kernel
theorem d_Sh_leastGuarded_23 : decode prog_6_method_26_code 23 = .ok (.getfield 73, 3) := by decide +kernel
theorem d_Sh_leastGuarded_26 : decode prog_6_method_26_code 26 = .ok (.if_icmp .ge 33, 3) := by decide +kernel
theorem d_Sh_leastGuarded_29 : decode prog_6_method_26_code 29 = .ok (.aload_n 0, 1) := by decide +kernel
theorem d_Sh_leastGuarded_30 : decode prog_6_method_26_code 30 = .ok (.getfield 27, 3) := by decide +kernel
theorem d_Sh_leastGuarded_33 : decode prog_6_method_26_code 33 = .ok (.iload_n 1, 1) := by decide +kernel
theorem d_Sh_leastGuarded_34 : decode prog_6_method_26_code 34 = .ok (.iload 4, 2) := by decide +kernel
theorem d_Sh_leastGuarded_36 : decode prog_6_method_26_code 36 = .ok (.invokevirtual 154, 3) := by decide +kernel
theorem d_Sh_leastGuarded_39 : decode prog_6_method_26_code 39 = .ok (.istore 5, 2) := by decide +kernel
theorem d_Sh_leastGuarded_41 : decode prog_6_method_26_code 41 = .ok (.iload 5, 2) := by decide +kernel
theorem d_Sh_leastGuarded_43 : decode prog_6_method_26_code 43 = .ok (.iload_n 3, 1) := by decide +kernel
theorem d_Sh_leastGuarded_44 : decode prog_6_method_26_code 44 = .ok (.if_icmp .ge 9, 3) := by decide +kernel
theorem d_Sh_leastGuarded_47 : decode prog_6_method_26_code 47 = .ok (.iload 4, 2) := by decide +kernel
theorem d_Sh_leastGuarded_49 : decode prog_6_method_26_code 49 = .ok (.istore_n 2, 1) := by decide +kernel
theorem d_Sh_leastGuarded_50 : decode prog_6_method_26_code 50 = .ok (.iload 5, 2) := by decide +kernel
theorem d_Sh_leastGuarded_52 : decode prog_6_method_26_code 52 = .ok (.istore_n 3, 1) := by decide +kernel
theorem d_Sh_leastGuarded_53 : decode prog_6_method_26_code 53 = .ok (.iinc 4 1, 3) := by decide +kernel
theorem d_Sh_leastGuarded_56 : decode prog_6_method_26_code 56 = .ok (.goto (-36), 3) := by decide +kernel
theorem d_Sh_leastGuarded_59 : decode prog_6_method_26_code 59 = .ok (.iload_n 2, 1) := by decide +kernel
theorem d_Sh_leastGuarded_60 : decode prog_6_method_26_code 60 = .ok (.ireturn, 1) := by decide +kernel
def Sh_leastGuarded_L20 (Y : Ly) (l0 : Nat) (l1 : Int32) (h : Hp) : Nat → Int32 → Int32 → Int32 → Option Int32
  | 0, _, _, _ => none
  | F + 1, l2, l3, l4 =>
    if (hGi h 415 l0) ≤ l4 then
      some l2
    else
      (Lo_howOftenIn Y (hGr h 402 l0) l1 l4 h).bind fun q4 =>
      if l3 ≤ q4 then
        Sh_leastGuarded_L20 Y l0 l1 h F l2 l3 (l4 + 1)
      else
        Sh_leastGuarded_L20 Y l0 l1 h F l4 q4 (l4 + 1)
theorem Sh_leastGuarded_L20_ok (Y : Ly) (l0 : Nat) (l1 : Int32) (h : Hp) (tl0 : isO Y 4 l0) : ∀ (F : Nat) (l2 : Int32) (l3 : Int32) (l4 : Int32), AW Y 2 K_Sh_leastGuarded 20 [(0, .ref l0), (1, .int l1), (2, .int l2), (3, .int l3), (4, .int l4)] [] h (Sh_leastGuarded_L20 Y l0 l1 h F l2 l3 l4) (pI h) := by
  intro F
  induction F with
  | zero =>
    intro l2 l3 l4
    exact aw_none
  | succ F ih =>
    intro l2 l3 l4
    unfold Sh_leastGuarded_L20
    refine aw_iload (pc := 20) d_Sh_leastGuarded_20 4 rfl ?_
    refine aw_aload_n (pc := 22) d_Sh_leastGuarded_22 rfl 0 rfl ?_
    refine gt_415 (pc := 23) d_Sh_leastGuarded_23 w2_158 tl0 ?_
    refine aw_icmp_ge (pc := 26) (tgt := 59) d_Sh_leastGuarded_26 (by decide) (fun c2 => ?_) (fun c2 => ?_)
    · refine aw_iload_n (pc := 59) d_Sh_leastGuarded_59 rfl 2 rfl ?_
      exact aw_ireturn (pc := 60) d_Sh_leastGuarded_60 rfl rfl
    · refine aw_aload_n (pc := 29) d_Sh_leastGuarded_29 rfl 0 rfl ?_
      refine gt_402 (pc := 30) d_Sh_leastGuarded_30 w2_133 tl0 (fun tt3 => ?_)
      refine aw_iload_n (pc := 33) d_Sh_leastGuarded_33 rfl 1 rfl ?_
      refine aw_iload (pc := 34) d_Sh_leastGuarded_34 4 rfl ?_
      refine aw_cVpI (pc := 36) (ci := 3) (T := TX3) (N := 3) (As := [.int l1, .int l4]) (st := []) (ok_Lo_howOftenIn Y (hGr h 402 l0) l1 l4 h tt3) okV_Lo_howOftenIn rfl (by decide) tt3 w6_135 d_Sh_leastGuarded_36 rfl (Nat.le_of_ble_eq_true rfl) rfl (Nat.le_of_ble_eq_true rfl) (fun q4 hq4 hTq4 => ?_)
      refine aw_istore (pc := 39) (lv' := [(5, .int q4), (0, .ref l0), (1, .int l1), (2, .int l2), (3, .int l3), (4, .int l4)]) d_Sh_leastGuarded_39 (by decide) rfl ?_
      refine aw_iload (pc := 41) d_Sh_leastGuarded_41 0 rfl ?_
      refine aw_iload_n (pc := 43) d_Sh_leastGuarded_43 rfl 4 rfl ?_
      refine aw_icmp_ge (pc := 44) (tgt := 53) d_Sh_leastGuarded_44 (by decide) (fun c5 => ?_) (fun c5 => ?_)
      · refine aw_iinc (pc := 53) (w := l4 + 1) (lv' := [(4, .int (l4 + 1)), (5, .int q4), (0, .ref l0), (1, .int l1), (2, .int l2), (3, .int l3)]) d_Sh_leastGuarded_53 5 rfl rfl (by decide) rfl ?_
        refine aw_goto (pc := 56) (tgt := 20) d_Sh_leastGuarded_56 (by decide) ?_
        exact aw_lv [2, 3, 4, 5, 0] rfl (ih l2 l3 (l4 + 1))
      · refine aw_iload (pc := 47) d_Sh_leastGuarded_47 5 rfl ?_
        refine aw_istore_n (pc := 49) (lv' := [(2, .int l4), (5, .int q4), (0, .ref l0), (1, .int l1), (3, .int l3), (4, .int l4)]) d_Sh_leastGuarded_49 rfl (by decide) rfl ?_
        refine aw_iload (pc := 50) d_Sh_leastGuarded_50 1 rfl ?_
        refine aw_istore_n (pc := 52) (lv' := [(3, .int q4), (2, .int l4), (5, .int q4), (0, .ref l0), (1, .int l1), (4, .int l4)]) d_Sh_leastGuarded_52 rfl (by decide) rfl ?_
        refine aw_iinc (pc := 53) (w := l4 + 1) (lv' := [(4, .int (l4 + 1)), (3, .int q4), (2, .int l4), (5, .int q4), (0, .ref l0), (1, .int l1)]) d_Sh_leastGuarded_53 5 rfl rfl (by decide) rfl ?_
        refine aw_goto (pc := 56) (tgt := 20) d_Sh_leastGuarded_56 (by decide) ?_
        exact aw_lv [4, 5, 2, 1, 0] rfl (ih l4 q4 (l4 + 1))
def Sh_leastGuarded (Y : Ly) (l0 : Nat) (h : Hp) : Option Int32 :=
  Sh_leastGuarded_L20 Y l0 (((1 : Int32) <<< ((hGi h 302 (hGr h 402 l0)) &&& 31)) - 1) h FU (-1) 9 0
theorem ok_Sh_leastGuarded (Y : Ly) (l0 : Nat) (h : Hp) (t0 : isO Y 4 l0) : AM Y 2 K_Sh_leastGuarded [.ref l0] h (Sh_leastGuarded Y l0 h) (pI h) := by
  refine AM.of rfl (Nat.le_of_ble_eq_true rfl) ?_
  show AW Y 2 K_Sh_leastGuarded 0 [(0, .ref l0)] [] h (Sh_leastGuarded Y l0 h) (pI h)
  unfold Sh_leastGuarded
  refine aw_iconst (pc := 0) (x := 1) d_Sh_leastGuarded_0 (by decide) ?_
  refine aw_aload_n (pc := 1) d_Sh_leastGuarded_1 rfl 0 rfl ?_
  refine gt_402 (pc := 2) d_Sh_leastGuarded_2 w2_133 t0 (fun tt1 => ?_)
  refine gt_302 (pc := 5) d_Sh_leastGuarded_5 w2_73 tt1 ?_
  refine aw_ishl (pc := 8) d_Sh_leastGuarded_8 ?_
  refine aw_iconst (pc := 9) (x := 1) d_Sh_leastGuarded_9 (by decide) ?_
  refine aw_isub (pc := 10) d_Sh_leastGuarded_10 ?_
  refine aw_istore_n (pc := 11) (lv' := [(1, .int (((1 : Int32) <<< ((hGi h 302 (hGr h 402 l0)) &&& 31)) - 1)), (0, .ref l0)]) d_Sh_leastGuarded_11 rfl (by decide) rfl ?_
  refine aw_iconst (pc := 12) (x := (-1)) d_Sh_leastGuarded_12 (by decide) ?_
  refine aw_istore_n (pc := 13) (lv' := [(2, .int (-1)), (1, .int (((1 : Int32) <<< ((hGi h 302 (hGr h 402 l0)) &&& 31)) - 1)), (0, .ref l0)]) d_Sh_leastGuarded_13 rfl (by decide) rfl ?_
  refine aw_bipush (pc := 14) (x := 9) d_Sh_leastGuarded_14 (by decide) ?_
  refine aw_istore_n (pc := 16) (lv' := [(3, .int 9), (2, .int (-1)), (1, .int (((1 : Int32) <<< ((hGi h 302 (hGr h 402 l0)) &&& 31)) - 1)), (0, .ref l0)]) d_Sh_leastGuarded_16 rfl (by decide) rfl ?_
  refine aw_iconst (pc := 17) (x := 0) d_Sh_leastGuarded_17 (by decide) ?_
  refine aw_istore (pc := 18) (lv' := [(4, .int 0), (3, .int 9), (2, .int (-1)), (1, .int (((1 : Int32) <<< ((hGi h 302 (hGr h 402 l0)) &&& 31)) - 1)), (0, .ref l0)]) d_Sh_leastGuarded_18 (by decide) rfl ?_
  exact aw_lv [4, 3, 2, 1, 0] rfl (Sh_leastGuarded_L20_ok Y l0 (((1 : Int32) <<< ((hGi h 302 (hGr h 402 l0)) &&& 31)) - 1) h t0 FU (-1) 9 0)
/-! LastPages.barest()I -/
theorem d_LP_barest_0 : decode prog_1_method_55_code 0 = .ok (.aload_n 0, 1) := by decide +kernel
theorem d_LP_barest_1 : decode prog_1_method_55_code 1 = .ok (.aload_n 0, 1) := by decide +kernel
theorem d_LP_barest_2 : decode prog_1_method_55_code 2 = .ok (.getfield 68, 3) := by decide +kernel
theorem d_LP_barest_5 : decode prog_1_method_55_code 5 = .ok (.invokevirtual 412, 3) := by decide +kernel
theorem d_LP_barest_8 : decode prog_1_method_55_code 8 = .ok (.invokevirtual 249, 3) := by decide +kernel
theorem d_LP_barest_11 : decode prog_1_method_55_code 11 = .ok (.ireturn, 1) := by decide +kernel
def LP_barest (Y : Ly) (l0 : Nat) (h : Hp) : Option (Int32 × Hp) :=
  (Sh_leastGuarded Y (hGr h 1109 l0) h).bind fun q2 =>
  (LP_giveIfAny Y l0 q2 h).bind fun q3 =>
  some (q3.1, q3.2)
theorem ok_LP_barest (Y : Ly) (l0 : Nat) (h : Hp) (t0 : isO Y 11 l0) : AM Y 3 K_LP_barest [.ref l0] h (LP_barest Y l0 h) rI := by
  refine AM.of rfl (Nat.le_of_ble_eq_true rfl) ?_
  show AW Y 3 K_LP_barest 0 [(0, .ref l0)] [] h (LP_barest Y l0 h) rI
  unfold LP_barest
  refine aw_aload_n (pc := 0) d_LP_barest_0 rfl 0 rfl ?_
  refine aw_aload_n (pc := 1) d_LP_barest_1 rfl 0 rfl ?_
  refine gt_1109 (pc := 2) d_LP_barest_2 w3_9 t0 (fun tt1 => ?_)
  refine aw_cVpI (pc := 5) (ci := 4) (T := TX4) (N := 19) (As := []) (st := [.ref l0]) (ok_Sh_leastGuarded Y (hGr h 1109 l0) h tt1) okV_Sh_leastGuarded rfl (by decide) tt1 w6_148 d_LP_barest_5 rfl (Nat.le_of_ble_eq_true rfl) rfl (Nat.le_of_ble_eq_true rfl) (fun q2 hq2 hTq2 => ?_)
  refine aw_cVrI (pc := 8) (ci := 11) (T := TX11) (N := 18) (As := [.int q2]) (st := []) (ok_LP_giveIfAny Y l0 q2 h t0) okV_LP_giveIfAny rfl (by decide) t0 w4_183 d_LP_barest_8 rfl (Nat.le_of_ble_eq_true rfl) rfl (Nat.le_of_ble_eq_true rfl) (fun q3 hq3 hTq3 => ?_)
  exact aw_ireturn (pc := 11) d_LP_barest_11 rfl rfl
/-! LastPages.best(I)I -/
theorem d_LP_best_0 : decode prog_1_method_31_code 0 = .ok (.aload_n 0, 1) := by decide +kernel
theorem d_LP_best_1 : decode prog_1_method_31_code 1 = .ok (.getfield 68, 3) := by decide +kernel
theorem d_LP_best_4 : decode prog_1_method_31_code 4 = .ok (.iload_n 1, 1) := by decide +kernel
theorem d_LP_best_5 : decode prog_1_method_31_code 5 = .ok (.invokevirtual 255, 3) := by decide +kernel
theorem d_LP_best_8 : decode prog_1_method_31_code 8 = .ok (.ifCond .ne 9, 3) := by decide +kernel
theorem d_LP_best_11 : decode prog_1_method_31_code 11 = .ok (.aload_n 0, 1) := by decide +kernel
theorem d_LP_best_12 : decode prog_1_method_31_code 12 = .ok (.iconst 2, 1) := by decide +kernel
theorem d_LP_best_13 : decode prog_1_method_31_code 13 = .ok (.invokevirtual 133, 3) := by decide +kernel
theorem d_LP_best_16 : decode prog_1_method_31_code 16 = .ok (.ireturn, 1) := by decide +kernel
theorem d_LP_best_17 : decode prog_1_method_31_code 17 = .ok (.aload_n 0, 1) := by decide +kernel
theorem d_LP_best_18 : decode prog_1_method_31_code 18 = .ok (.aload_n 0, 1) := by decide +kernel
theorem d_LP_best_19 : decode prog_1_method_31_code 19 = .ok (.getfield 45, 3) := by decide +kernel
theorem d_LP_best_22 : decode prog_1_method_31_code 22 = .ok (.aload_n 0, 1) := by decide +kernel
theorem d_LP_best_23 : decode prog_1_method_31_code 23 = .ok (.getfield 68, 3) := by decide +kernel
theorem d_LP_best_26 : decode prog_1_method_31_code 26 = .ok (.iload_n 1, 1) := by decide +kernel
theorem d_LP_best_27 : decode prog_1_method_31_code 27 = .ok (.invokevirtual 326, 3) := by decide +kernel
theorem d_LP_best_30 : decode prog_1_method_31_code 30 = .ok (.invokevirtual 249, 3) := by decide +kernel
theorem d_LP_best_33 : decode prog_1_method_31_code 33 = .ok (.ireturn, 1) := by decide +kernel
def LP_best (Y : Ly) (l0 : Nat) (l1 : Int32) (h : Hp) : Option (Int32 × Hp) :=
  (Sh_hasBook Y (hGr h 1109 l0) l1 h).bind fun q2 =>
  if q2 = true then
    (En_findBest Y (hGr h 1105 l0) (hGr h 1109 l0) l1 h).bind fun q6 =>
    (LP_giveIfAny Y l0 q6.1 q6.2).bind fun q7 =>
    some (q7.1, q7.2)
  else
    (LP_fail Y l0 2 h).bind fun q8 =>
    some (q8.1, q8.2)
theorem ok_LP_best (Y : Ly) (l0 : Nat) (l1 : Int32) (h : Hp) (t0 : isO Y 11 l0) : AM Y 4 K_LP_best [.ref l0, .int l1] h (LP_best Y l0 l1 h) rI := by
  refine AM.of rfl (Nat.le_of_ble_eq_true rfl) ?_
  show AW Y 4 K_LP_best 0 [(0, .ref l0), (1, .int l1)] [] h (LP_best Y l0 l1 h) rI
  unfold LP_best
  refine aw_aload_n (pc := 0) d_LP_best_0 rfl 0 rfl ?_
  refine gt_1109 (pc := 1) d_LP_best_1 w3_9 t0 (fun tt1 => ?_)
  refine aw_iload_n (pc := 4) d_LP_best_4 rfl 1 rfl ?_
  refine aw_cVpZ (pc := 5) (ci := 4) (T := TX4) (N := 19) (As := [.int l1]) (st := []) (ok_Sh_hasBook Y (hGr h 1109 l0) l1 h tt1) okV_Sh_hasBook rfl (by decide) tt1 w4_199 d_LP_best_5 rfl (Nat.le_of_ble_eq_true rfl) rfl (Nat.le_of_ble_eq_true rfl) (fun q2 hq2 hTq2 => ?_)
  refine aw_bne (pc := 8) (tgt := 17) d_LP_best_8 (by decide) (fun c3 => ?_) (fun c3 => ?_)
  · refine aw_aload_n (pc := 17) d_LP_best_17 rfl 0 rfl ?_
    refine aw_aload_n (pc := 18) d_LP_best_18 rfl 0 rfl ?_
    refine gt_1105 (pc := 19) d_LP_best_19 w3_5 t0 (fun tt4 => ?_)
    refine aw_aload_n (pc := 22) d_LP_best_22 rfl 0 rfl ?_
    refine gt_1109 (pc := 23) d_LP_best_23 w3_9 t0 (fun tt5 => ?_)
    refine aw_iload_n (pc := 26) d_LP_best_26 rfl 1 rfl ?_
    refine aw_cVrI (pc := 27) (ci := 0) (T := TX0) (N := 8) (As := [.ref (hGr h 1109 l0), .int l1]) (st := [.ref l0]) (ok_En_findBest Y (hGr h 1105 l0) (hGr h 1109 l0) l1 h tt4 tt5) okV_En_findBest rfl (by decide) tt4 w5_114 d_LP_best_27 rfl (Nat.le_of_ble_eq_true rfl) rfl (Nat.le_of_ble_eq_true rfl) (fun q6 hq6 hTq6 => ?_)
    refine aw_cVrI (pc := 30) (ci := 11) (T := TX11) (N := 18) (As := [.int q6.1]) (st := []) (ok_LP_giveIfAny Y l0 q6.1 q6.2 t0) okV_LP_giveIfAny rfl (by decide) t0 w4_183 d_LP_best_30 rfl (Nat.le_of_ble_eq_true rfl) rfl (Nat.le_of_ble_eq_true rfl) (fun q7 hq7 hTq7 => ?_)
    exact aw_ireturn (pc := 33) d_LP_best_33 rfl rfl
  · refine aw_aload_n (pc := 11) d_LP_best_11 rfl 0 rfl ?_
    refine aw_iconst (pc := 12) (x := 2) d_LP_best_12 (by decide) ?_
    refine aw_cVrI (pc := 13) (ci := 11) (T := TX11) (N := 18) (As := [.int 2]) (st := []) (ok_LP_fail Y l0 2 h t0) okV_LP_fail rfl (by decide) t0 w3_114 d_LP_best_13 rfl (Nat.le_of_ble_eq_true rfl) rfl (Nat.le_of_ble_eq_true rfl) (fun q8 hq8 hTq8 => ?_)
    exact aw_ireturn (pc := 16) d_LP_best_16 rfl rfl
/-! LastPages.whyNoMissingPlace(II)I -/
theorem d_LP_whyNoMissingPlace_0 : decode prog_1_method_70_code 0 = .ok (.aload_n 0, 1) := by decide +kernel
theorem d_LP_whyNoMissingPlace_1 : decode prog_1_method_70_code 1 = .ok (.getfield 68, 3) := by decide +kernel
theorem d_LP_whyNoMissingPlace_4 : decode prog_1_method_70_code 4 = .ok (.iload_n 1, 1) := by decide +kernel
theorem d_LP_whyNoMissingPlace_5 : decode prog_1_method_70_code 5 = .ok (.invokevirtual 255, 3) := by decide +kernel
theorem d_LP_whyNoMissingPlace_8 : decode prog_1_method_70_code 8 = .ok (.ifCond .ne 5, 3) := by decide +kernel
theorem d_LP_whyNoMissingPlace_11 : decode prog_1_method_70_code 11 = .ok (.iconst 2, 1) := by decide +kernel
theorem d_LP_whyNoMissingPlace_12 : decode prog_1_method_70_code 12 = .ok (.ireturn, 1) := by decide +kernel
theorem d_LP_whyNoMissingPlace_13 : decode prog_1_method_70_code 13 = .ok (.iload_n 2, 1) := by decide +kernel
theorem d_LP_whyNoMissingPlace_14 : decode prog_1_method_70_code 14 = .ok (.iconst 1, 1) := by decide +kernel
theorem d_LP_whyNoMissingPlace_15 : decode prog_1_method_70_code 15 = .ok (.if_icmp .lt 16, 3) := by decide +kernel
theorem d_LP_whyNoMissingPlace_18 : decode prog_1_method_70_code 18 = .ok (.iload_n 2, 1) := by decide +kernel
theorem d_LP_whyNoMissingPlace_19 : decode prog_1_method_70_code 19 = .ok (.aload_n 0, 1) := by decide +kernel
theorem d_LP_whyNoMissingPlace_20 : decode prog_1_method_70_code 20 = .ok (.getfield 68, 3) := by decide +kernel
theorem d_LP_whyNoMissingPlace_23 : decode prog_1_method_70_code 23 = .ok (.getfield 264, 3) := by decide +kernel
theorem d_LP_whyNoMissingPlace_26 : decode prog_1_method_70_code 26 = .ok (.iload_n 1, 1) := by decide +kernel
theorem d_LP_whyNoMissingPlace_27 : decode prog_1_method_70_code 27 = .ok (.iaload, 1) := by decide +kernel
theorem d_LP_whyNoMissingPlace_28 : decode prog_1_method_70_code 28 = .ok (.if_icmp .le 7, 3) := by decide +kernel
theorem d_LP_whyNoMissingPlace_31 : decode prog_1_method_70_code 31 = .ok (.iconst 5, 1) := by decide +kernel
theorem d_LP_whyNoMissingPlace_32 : decode prog_1_method_70_code 32 = .ok (.goto 4, 3) := by decide +kernel
theorem d_LP_whyNoMissingPlace_35 : decode prog_1_method_70_code 35 = .ok (.iconst 0, 1) := by decide +kernel
theorem d_LP_whyNoMissingPlace_36 : decode prog_1_method_70_code 36 = .ok (.ireturn, 1) := by decide +kernel
def LP_whyNoMissingPlace (Y : Ly) (l0 : Nat) (l1 : Int32) (l2 : Int32) (h : Hp) : Option Int32 :=
  (Sh_hasBook Y (hGr h 1109 l0) l1 h).bind fun q2 =>
  if q2 = true then
    if l2 < 1 then
      some 5
    else
      if inB l1 (lnY Y (hGr h 407 (hGr h 1109 l0))) = true then
        if l2 ≤ (hAi h (hGr h 407 (hGr h 1109 l0)) (Int32.toNatClampNeg l1)) then
          some 0
        else
          some 5
      else none
  else
    some 2
theorem ok_LP_whyNoMissingPlace (Y : Ly) (l0 : Nat) (l1 : Int32) (l2 : Int32) (h : Hp) (t0 : isO Y 11 l0) : AM Y 1 K_LP_whyNoMissingPlace [.ref l0, .int l1, .int l2] h (LP_whyNoMissingPlace Y l0 l1 l2 h) (pI h) := by
  refine AM.of rfl (Nat.le_of_ble_eq_true rfl) ?_
  show AW Y 1 K_LP_whyNoMissingPlace 0 [(0, .ref l0), (1, .int l1), (2, .int l2)] [] h (LP_whyNoMissingPlace Y l0 l1 l2 h) (pI h)
  unfold LP_whyNoMissingPlace
  refine aw_aload_n (pc := 0) d_LP_whyNoMissingPlace_0 rfl 0 rfl ?_
  refine gt_1109 (pc := 1) d_LP_whyNoMissingPlace_1 w3_9 t0 (fun tt1 => ?_)
  refine aw_iload_n (pc := 4) d_LP_whyNoMissingPlace_4 rfl 1 rfl ?_
  refine aw_cVpZ (pc := 5) (ci := 4) (T := TX4) (N := 19) (As := [.int l1]) (st := []) (ok_Sh_hasBook Y (hGr h 1109 l0) l1 h tt1) okV_Sh_hasBook rfl (by decide) tt1 w4_199 d_LP_whyNoMissingPlace_5 rfl (Nat.le_of_ble_eq_true rfl) rfl (Nat.le_of_ble_eq_true rfl) (fun q2 hq2 hTq2 => ?_)
  refine aw_bne (pc := 8) (tgt := 13) d_LP_whyNoMissingPlace_8 (by decide) (fun c3 => ?_) (fun c3 => ?_)
  · refine aw_iload_n (pc := 13) d_LP_whyNoMissingPlace_13 rfl 2 rfl ?_
    refine aw_iconst (pc := 14) (x := 1) d_LP_whyNoMissingPlace_14 (by decide) ?_
    refine aw_icmp_lt (pc := 15) (tgt := 31) d_LP_whyNoMissingPlace_15 (by decide) (fun c4 => ?_) (fun c4 => ?_)
    · refine aw_iconst (pc := 31) (x := 5) d_LP_whyNoMissingPlace_31 (by decide) ?_
      refine aw_goto (pc := 32) (tgt := 36) d_LP_whyNoMissingPlace_32 (by decide) ?_
      exact aw_ireturn (pc := 36) d_LP_whyNoMissingPlace_36 rfl rfl
    · refine aw_iload_n (pc := 18) d_LP_whyNoMissingPlace_18 rfl 2 rfl ?_
      refine aw_aload_n (pc := 19) d_LP_whyNoMissingPlace_19 rfl 0 rfl ?_
      refine gt_1109 (pc := 20) d_LP_whyNoMissingPlace_20 w3_9 t0 (fun tt5 => ?_)
      refine gt_407 (pc := 23) d_LP_whyNoMissingPlace_23 w2_144 tt5 (fun tt6 => ?_)
      refine aw_iload_n (pc := 26) d_LP_whyNoMissingPlace_26 rfl 1 rfl ?_
      refine aw_iaload (pc := 27) d_LP_whyNoMissingPlace_27 tt6 (fun c7 => ?_)
      refine aw_icmp_le (pc := 28) (tgt := 35) d_LP_whyNoMissingPlace_28 (by decide) (fun c8 => ?_) (fun c8 => ?_)
      · refine aw_iconst (pc := 35) (x := 0) d_LP_whyNoMissingPlace_35 (by decide) ?_
        exact aw_ireturn (pc := 36) d_LP_whyNoMissingPlace_36 rfl rfl
      · refine aw_iconst (pc := 31) (x := 5) d_LP_whyNoMissingPlace_31 (by decide) ?_
        refine aw_goto (pc := 32) (tgt := 36) d_LP_whyNoMissingPlace_32 (by decide) ?_
        exact aw_ireturn (pc := 36) d_LP_whyNoMissingPlace_36 rfl rfl
  · refine aw_iconst (pc := 11) (x := 2) d_LP_whyNoMissingPlace_11 (by decide) ?_
    exact aw_ireturn (pc := 12) d_LP_whyNoMissingPlace_12 rfl rfl
/-! LastPages.bestAt(II)I -/
theorem d_LP_bestAt_0 : decode prog_1_method_32_code 0 = .ok (.aload_n 0, 1) := by decide +kernel
theorem d_LP_bestAt_1 : decode prog_1_method_32_code 1 = .ok (.iload_n 1, 1) := by decide +kernel
theorem d_LP_bestAt_2 : decode prog_1_method_32_code 2 = .ok (.iload_n 2, 1) := by decide +kernel
theorem d_LP_bestAt_3 : decode prog_1_method_32_code 3 = .ok (.invokevirtual 329, 3) := by decide +kernel
theorem d_LP_bestAt_6 : decode prog_1_method_32_code 6 = .ok (.istore_n 3, 1) := by decide +kernel
theorem d_LP_bestAt_7 : decode prog_1_method_32_code 7 = .ok (.iload_n 3, 1) := by decide +kernel
theorem d_LP_bestAt_8 : decode prog_1_method_32_code 8 = .ok (.ifCond .eq 9, 3) := by decide +kernel
theorem d_LP_bestAt_11 : decode prog_1_method_32_code 11 = .ok (.aload_n 0, 1) := by decide +kernel
theorem d_LP_bestAt_12 : decode prog_1_method_32_code 12 = .ok (.iload_n 3, 1) := by decide +kernel
theorem d_LP_bestAt_13 : decode prog_1_method_32_code 13 = .ok (.invokevirtual 133, 3) := by decide +kernel
theorem d_LP_bestAt_16 : decode prog_1_method_32_code 16 = .ok (.ireturn, 1) := by decide +kernel
theorem d_LP_bestAt_17 : decode prog_1_method_32_code 17 = .ok (.aload_n 0, 1) := by decide +kernel
theorem d_LP_bestAt_18 : decode prog_1_method_32_code 18 = .ok (.aload_n 0, 1) := by decide +kernel
theorem d_LP_bestAt_19 : decode prog_1_method_32_code 19 = .ok (.getfield 45, 3) := by decide +kernel
theorem d_LP_bestAt_22 : decode prog_1_method_32_code 22 = .ok (.aload_n 0, 1) := by decide +kernel
theorem d_LP_bestAt_23 : decode prog_1_method_32_code 23 = .ok (.getfield 68, 3) := by decide +kernel
theorem d_LP_bestAt_26 : decode prog_1_method_32_code 26 = .ok (.iload_n 1, 1) := by decide +kernel
theorem d_LP_bestAt_27 : decode prog_1_method_32_code 27 = .ok (.invokevirtual 326, 3) := by decide +kernel
theorem d_LP_bestAt_30 : decode prog_1_method_32_code 30 = .ok (.iconst (-1), 1) := by decide +kernel
theorem d_LP_bestAt_31 : decode prog_1_method_32_code 31 = .ok (.if_icmp .ne 7, 3) := by decide +kernel
theorem d_LP_bestAt_34 : decode prog_1_method_32_code 34 = .ok (.iconst (-1), 1) := by decide +kernel
theorem d_LP_bestAt_35 : decode prog_1_method_32_code 35 = .ok (.goto 13, 3) := by decide +kernel
theorem d_LP_bestAt_38 : decode prog_1_method_32_code 38 = .ok (.aload_n 0, 1) := by decide +kernel
theorem d_LP_bestAt_39 : decode prog_1_method_32_code 39 = .ok (.getfield 45, 3) := by decide +kernel
theorem d_LP_bestAt_42 : decode prog_1_method_32_code 42 = .ok (.iload_n 2, 1) := by decide +kernel
theorem d_LP_bestAt_43 : decode prog_1_method_32_code 43 = .ok (.iconst 1, 1) := by decide +kernel
theorem d_LP_bestAt_44 : decode prog_1_method_32_code 44 = .ok (.isub, 1) := by decide +kernel
theorem d_LP_bestAt_45 : decode prog_1_method_32_code 45 = .ok (.invokevirtual 332, 3) := by decide +kernel
theorem d_LP_bestAt_48 : decode prog_1_method_32_code 48 = .ok (.invokevirtual 249, 3) := by decide +kernel
theorem d_LP_bestAt_51 : decode prog_1_method_32_code 51 = .ok (.ireturn, 1) := by decide +kernel
def LP_bestAt (Y : Ly) (l0 : Nat) (l1 : Int32) (l2 : Int32) (h : Hp) : Option (Int32 × Hp) :=
  (LP_whyNoMissingPlace Y l0 l1 l2 h).bind fun q1 =>
  if q1 = 0 then
    (En_findBest Y (hGr h 1105 l0) (hGr h 1109 l0) l1 h).bind fun q5 =>
    if q5.1 = (-1) then
      (LP_giveIfAny Y l0 (-1) q5.2).bind fun q7 =>
      some (q7.1, q7.2)
    else
      (En_triedAt Y (hGr q5.2 1105 l0) (l2 - 1) q5.2).bind fun q9 =>
      (LP_giveIfAny Y l0 q9 q5.2).bind fun q10 =>
      some (q10.1, q10.2)
  else
    (LP_fail Y l0 q1 h).bind fun q11 =>
    some (q11.1, q11.2)
theorem ok_LP_bestAt (Y : Ly) (l0 : Nat) (l1 : Int32) (l2 : Int32) (h : Hp) (t0 : isO Y 11 l0) : AM Y 4 K_LP_bestAt [.ref l0, .int l1, .int l2] h (LP_bestAt Y l0 l1 l2 h) rI := by
  refine AM.of rfl (Nat.le_of_ble_eq_true rfl) ?_
  show AW Y 4 K_LP_bestAt 0 [(0, .ref l0), (1, .int l1), (2, .int l2)] [] h (LP_bestAt Y l0 l1 l2 h) rI
  unfold LP_bestAt
  refine aw_aload_n (pc := 0) d_LP_bestAt_0 rfl 0 rfl ?_
  refine aw_iload_n (pc := 1) d_LP_bestAt_1 rfl 1 rfl ?_
  refine aw_iload_n (pc := 2) d_LP_bestAt_2 rfl 2 rfl ?_
  refine aw_cVpI (pc := 3) (ci := 11) (T := TX11) (N := 18) (As := [.int l1, .int l2]) (st := []) (ok_LP_whyNoMissingPlace Y l0 l1 l2 h t0) okV_LP_whyNoMissingPlace rfl (by decide) t0 w5_127 d_LP_bestAt_3 rfl (Nat.le_of_ble_eq_true rfl) rfl (Nat.le_of_ble_eq_true rfl) (fun q1 hq1 hTq1 => ?_)
  refine aw_istore_n (pc := 6) (lv' := [(3, .int q1), (0, .ref l0), (1, .int l1), (2, .int l2)]) d_LP_bestAt_6 rfl (by decide) rfl ?_
  refine aw_iload_n (pc := 7) d_LP_bestAt_7 rfl 0 rfl ?_
  refine aw_if_eq (pc := 8) (tgt := 17) d_LP_bestAt_8 (by decide) (fun c2 => ?_) (fun c2 => ?_)
  · refine aw_aload_n (pc := 17) d_LP_bestAt_17 rfl 1 rfl ?_
    refine aw_aload_n (pc := 18) d_LP_bestAt_18 rfl 1 rfl ?_
    refine gt_1105 (pc := 19) d_LP_bestAt_19 w3_5 t0 (fun tt3 => ?_)
    refine aw_aload_n (pc := 22) d_LP_bestAt_22 rfl 1 rfl ?_
    refine gt_1109 (pc := 23) d_LP_bestAt_23 w3_9 t0 (fun tt4 => ?_)
    refine aw_iload_n (pc := 26) d_LP_bestAt_26 rfl 2 rfl ?_
    refine aw_cVrI (pc := 27) (ci := 0) (T := TX0) (N := 8) (As := [.ref (hGr h 1109 l0), .int l1]) (st := [.ref l0]) (ok_En_findBest Y (hGr h 1105 l0) (hGr h 1109 l0) l1 h tt3 tt4) okV_En_findBest rfl (by decide) tt3 w5_114 d_LP_bestAt_27 rfl (Nat.le_of_ble_eq_true rfl) rfl (Nat.le_of_ble_eq_true rfl) (fun q5 hq5 hTq5 => ?_)
    refine aw_iconst (pc := 30) (x := (-1)) d_LP_bestAt_30 (by decide) ?_
    refine aw_icmp_ne (pc := 31) (tgt := 38) d_LP_bestAt_31 (by decide) (fun c6 => ?_) (fun c6 => ?_)
    · refine aw_iconst (pc := 34) (x := (-1)) d_LP_bestAt_34 (by decide) ?_
      refine aw_goto (pc := 35) (tgt := 48) d_LP_bestAt_35 (by decide) ?_
      refine aw_cVrI (pc := 48) (ci := 11) (T := TX11) (N := 18) (As := [.int (-1)]) (st := []) (ok_LP_giveIfAny Y l0 (-1) q5.2 t0) okV_LP_giveIfAny rfl (by decide) t0 w4_183 d_LP_bestAt_48 rfl (Nat.le_of_ble_eq_true rfl) rfl (Nat.le_of_ble_eq_true rfl) (fun q7 hq7 hTq7 => ?_)
      exact aw_ireturn (pc := 51) d_LP_bestAt_51 rfl rfl
    · refine aw_aload_n (pc := 38) d_LP_bestAt_38 rfl 1 rfl ?_
      refine gt_1105 (pc := 39) d_LP_bestAt_39 w3_5 t0 (fun tt8 => ?_)
      refine aw_iload_n (pc := 42) d_LP_bestAt_42 rfl 3 rfl ?_
      refine aw_iconst (pc := 43) (x := 1) d_LP_bestAt_43 (by decide) ?_
      refine aw_isub (pc := 44) d_LP_bestAt_44 ?_
      refine aw_cVpI (pc := 45) (ci := 0) (T := TX0) (N := 8) (As := [.int (l2 - 1)]) (st := [.ref l0]) (ok_En_triedAt Y (hGr q5.2 1105 l0) (l2 - 1) q5.2 tt8) okV_En_triedAt rfl (by decide) tt8 w5_131 d_LP_bestAt_45 rfl (Nat.le_of_ble_eq_true rfl) rfl (Nat.le_of_ble_eq_true rfl) (fun q9 hq9 hTq9 => ?_)
      refine aw_cVrI (pc := 48) (ci := 11) (T := TX11) (N := 18) (As := [.int q9]) (st := []) (ok_LP_giveIfAny Y l0 q9 q5.2 t0) okV_LP_giveIfAny rfl (by decide) t0 w4_183 d_LP_bestAt_48 rfl (Nat.le_of_ble_eq_true rfl) rfl (Nat.le_of_ble_eq_true rfl) (fun q10 hq10 hTq10 => ?_)
      exact aw_ireturn (pc := 51) d_LP_bestAt_51 rfl rfl
  · refine aw_aload_n (pc := 11) d_LP_bestAt_11 rfl 1 rfl ?_
    refine aw_iload_n (pc := 12) d_LP_bestAt_12 rfl 0 rfl ?_
    refine aw_cVrI (pc := 13) (ci := 11) (T := TX11) (N := 18) (As := [.int q1]) (st := []) (ok_LP_fail Y l0 q1 h t0) okV_LP_fail rfl (by decide) t0 w3_114 d_LP_bestAt_13 rfl (Nat.le_of_ble_eq_true rfl) rfl (Nat.le_of_ble_eq_true rfl) (fun q11 hq11 hTq11 => ?_)
    exact aw_ireturn (pc := 16) d_LP_bestAt_16 rfl rfl
/-! LastPages.refuse(I)Z -/
theorem d_LP_refuse_0 : decode prog_1_method_66_code 0 = .ok (.aload_n 0, 1) := by decide +kernel
theorem d_LP_refuse_1 : decode prog_1_method_66_code 1 = .ok (.iload_n 1, 1) := by decide +kernel
theorem d_LP_refuse_2 : decode prog_1_method_66_code 2 = .ok (.putfield 82, 3) := by decide +kernel
theorem d_LP_refuse_5 : decode prog_1_method_66_code 5 = .ok (.iconst 0, 1) := by decide +kernel
theorem d_LP_refuse_6 : decode prog_1_method_66_code 6 = .ok (.ireturn, 1) := by decide +kernel
def LP_refuse (Y : Ly) (l0 : Nat) (l1 : Int32) (h : Hp) : Option (Bool × Hp) :=
  letH (hSi h 1112 l0 l1) fun h1 =>
  some (false, h1)
theorem ok_LP_refuse (Y : Ly) (l0 : Nat) (l1 : Int32) (h : Hp) (t0 : isO Y 11 l0) : AM Y 0 K_LP_refuse [.ref l0, .int l1] h (LP_refuse Y l0 l1 h) rZ := by
  refine AM.of rfl (Nat.le_of_ble_eq_true rfl) ?_
  show AW Y 0 K_LP_refuse 0 [(0, .ref l0), (1, .int l1)] [] h (LP_refuse Y l0 l1 h) rZ
  unfold LP_refuse
  refine aw_aload_n (pc := 0) d_LP_refuse_0 rfl 0 rfl ?_
  refine aw_iload_n (pc := 1) d_LP_refuse_1 rfl 1 rfl ?_
  refine pt_1112 (pc := 2) d_LP_refuse_2 w3_12 t0 ?_
  refine aw_letH (fun h1 => ?_)
  refine aw_iconst (pc := 5) (x := 0) d_LP_refuse_5 (by decide) ?_
  exact aw_zreturn (pc := 6) (b := false) d_LP_refuse_6 rfl rfl
/-! LastPages$Shelf.boundFinales()I -/
theorem d_Sh_boundFinales_0 : decode prog_6_method_18_code 0 = .ok (.iconst 0, 1) := by decide +kernel
theorem d_Sh_boundFinales_1 : decode prog_6_method_18_code 1 = .ok (.istore_n 1, 1) := by decide +kernel
theorem d_Sh_boundFinales_2 : decode prog_6_method_18_code 2 = .ok (.iconst 0, 1) := by decide +kernel
theorem d_Sh_boundFinales_3 : decode prog_6_method_18_code 3 = .ok (.istore_n 2, 1) := by decide +kernel
theorem d_Sh_boundFinales_4 : decode prog_6_method_18_code 4 = .ok (.iload_n 2, 1) := by decide +kernel
theorem d_Sh_boundFinales_5 : decode prog_6_method_18_code 5 = .ok (.aload_n 0, 1) := by decide +kernel
theorem d_Sh_boundFinales_6 : decode prog_6_method_18_code 6 = .ok (.getfield 73, 3) := by decide +kernel
theorem d_Sh_boundFinales_9 : decode prog_6_method_18_code 9 = .ok (.if_icmp .ge 34, 3) := by decide +kernel
theorem d_Sh_boundFinales_12 : decode prog_6_method_18_code 12 = .ok (.iload_n 1, 1) := by decide +kernel
theorem d_Sh_boundFinales_13 : decode prog_6_method_18_code 13 = .ok (.aload_n 0, 1) := by decide +kernel
theorem d_Sh_boundFinales_14 : decode prog_6_method_18_code 14 = .ok (.getfield 53, 3) := by decide +kernel
theorem d_Sh_boundFinales_17 : decode prog_6_method_18_code 17 = .ok (.iload_n 2, 1) := by decide +kernel
theorem d_Sh_boundFinales_18 : decode prog_6_method_18_code 18 = .ok (.iaload, 1) := by decide +kernel
theorem d_Sh_boundFinales_19 : decode prog_6_method_18_code 19 = .ok (.iconst (-1), 1) := by decide +kernel
theorem d_Sh_boundFinales_20 : decode prog_6_method_18_code 20 = .ok (.if_icmp .ne 7, 3) := by decide +kernel
theorem d_Sh_boundFinales_23 : decode prog_6_method_18_code 23 = .ok (.iconst 0, 1) := by decide +kernel
theorem d_Sh_boundFinales_24 : decode prog_6_method_18_code 24 = .ok (.goto 11, 3) := by decide +kernel
theorem d_Sh_boundFinales_27 : decode prog_6_method_18_code 27 = .ok (.iconst 1, 1) := by decide +kernel
theorem d_Sh_boundFinales_28 : decode prog_6_method_18_code 28 = .ok (.aload_n 0, 1) := by decide +kernel
theorem d_Sh_boundFinales_29 : decode prog_6_method_18_code 29 = .ok (.getfield 53, 3) := by decide +kernel
theorem d_Sh_boundFinales_32 : decode prog_6_method_18_code 32 = .ok (.iload_n 2, 1) := by decide +kernel
theorem d_Sh_boundFinales_33 : decode prog_6_method_18_code 33 = .ok (.iaload, 1) := by decide +kernel
theorem d_Sh_boundFinales_34 : decode prog_6_method_18_code 34 = .ok (.ishl, 1) := by decide +kernel
theorem d_Sh_boundFinales_35 : decode prog_6_method_18_code 35 = .ok (.ior, 1) := by decide +kernel
theorem d_Sh_boundFinales_36 : decode prog_6_method_18_code 36 = .ok (.istore_n 1, 1) := by decide +kernel
theorem d_Sh_boundFinales_37 : decode prog_6_method_18_code 37 = .ok (.iinc 2 1, 3) := by decide +kernel
theorem d_Sh_boundFinales_40 : decode prog_6_method_18_code 40 = .ok (.goto (-36), 3) := by decide +kernel
theorem d_Sh_boundFinales_43 : decode prog_6_method_18_code 43 = .ok (.iload_n 1, 1) := by decide +kernel
theorem d_Sh_boundFinales_44 : decode prog_6_method_18_code 44 = .ok (.ireturn, 1) := by decide +kernel
def Sh_boundFinales_L4 (Y : Ly) (l0 : Nat) (h : Hp) : Nat → Int32 → Int32 → Option Int32
  | 0, _, _ => none
  | F + 1, l1, l2 =>
    if (hGi h 415 l0) ≤ l2 then
      some l1
    else
      if inB l2 (lnY Y (hGr h 410 l0)) = true then
        if (hAi h (hGr h 410 l0) (Int32.toNatClampNeg l2)) = (-1) then
          Sh_boundFinales_L4 Y l0 h F (l1 ||| 0) (l2 + 1)
        else
          if inB l2 (lnY Y (hGr h 410 l0)) = true then
            Sh_boundFinales_L4 Y l0 h F (l1 ||| ((1 : Int32) <<< ((hAi h (hGr h 410 l0) (Int32.toNatClampNeg l2)) &&& 31))) (l2 + 1)
          else none
      else none
theorem Sh_boundFinales_L4_ok (Y : Ly) (l0 : Nat) (h : Hp) (tl0 : isO Y 4 l0) : ∀ (F : Nat) (l1 : Int32) (l2 : Int32), AW Y 0 K_Sh_boundFinales 4 [(0, .ref l0), (1, .int l1), (2, .int l2)] [] h (Sh_boundFinales_L4 Y l0 h F l1 l2) (pI h) := by
  intro F
  induction F with
  | zero =>
    intro l1 l2
    exact aw_none
  | succ F ih =>
    intro l1 l2
    unfold Sh_boundFinales_L4
    refine aw_iload_n (pc := 4) d_Sh_boundFinales_4 rfl 2 rfl ?_
    refine aw_aload_n (pc := 5) d_Sh_boundFinales_5 rfl 0 rfl ?_
    refine gt_415 (pc := 6) d_Sh_boundFinales_6 w2_158 tl0 ?_
    refine aw_icmp_ge (pc := 9) (tgt := 43) d_Sh_boundFinales_9 (by decide) (fun c1 => ?_) (fun c1 => ?_)
    · refine aw_iload_n (pc := 43) d_Sh_boundFinales_43 rfl 1 rfl ?_
      exact aw_ireturn (pc := 44) d_Sh_boundFinales_44 rfl rfl
    · refine aw_iload_n (pc := 12) d_Sh_boundFinales_12 rfl 1 rfl ?_
      refine aw_aload_n (pc := 13) d_Sh_boundFinales_13 rfl 0 rfl ?_
      refine gt_410 (pc := 14) d_Sh_boundFinales_14 w2_148 tl0 (fun tt2 => ?_)
      refine aw_iload_n (pc := 17) d_Sh_boundFinales_17 rfl 2 rfl ?_
      refine aw_iaload (pc := 18) d_Sh_boundFinales_18 tt2 (fun c3 => ?_)
      refine aw_iconst (pc := 19) (x := (-1)) d_Sh_boundFinales_19 (by decide) ?_
      refine aw_icmp_ne (pc := 20) (tgt := 27) d_Sh_boundFinales_20 (by decide) (fun c4 => ?_) (fun c4 => ?_)
      · refine aw_iconst (pc := 23) (x := 0) d_Sh_boundFinales_23 (by decide) ?_
        refine aw_goto (pc := 24) (tgt := 35) d_Sh_boundFinales_24 (by decide) ?_
        refine aw_ior (pc := 35) d_Sh_boundFinales_35 ?_
        refine aw_istore_n (pc := 36) (lv' := [(1, .int (l1 ||| 0)), (0, .ref l0), (2, .int l2)]) d_Sh_boundFinales_36 rfl (by decide) rfl ?_
        refine aw_iinc (pc := 37) (w := l2 + 1) (lv' := [(2, .int (l2 + 1)), (1, .int (l1 ||| 0)), (0, .ref l0)]) d_Sh_boundFinales_37 2 rfl rfl (by decide) rfl ?_
        refine aw_goto (pc := 40) (tgt := 4) d_Sh_boundFinales_40 (by decide) ?_
        exact aw_lv [2, 1, 0] rfl (ih (l1 ||| 0) (l2 + 1))
      · refine aw_iconst (pc := 27) (x := 1) d_Sh_boundFinales_27 (by decide) ?_
        refine aw_aload_n (pc := 28) d_Sh_boundFinales_28 rfl 0 rfl ?_
        refine gt_410 (pc := 29) d_Sh_boundFinales_29 w2_148 tl0 (fun tt5 => ?_)
        refine aw_iload_n (pc := 32) d_Sh_boundFinales_32 rfl 2 rfl ?_
        refine aw_iaload (pc := 33) d_Sh_boundFinales_33 tt5 (fun c6 => ?_)
        refine aw_ishl (pc := 34) d_Sh_boundFinales_34 ?_
        refine aw_ior (pc := 35) d_Sh_boundFinales_35 ?_
        refine aw_istore_n (pc := 36) (lv' := [(1, .int (l1 ||| ((1 : Int32) <<< ((hAi h (hGr h 410 l0) (Int32.toNatClampNeg l2)) &&& 31)))), (0, .ref l0), (2, .int l2)]) d_Sh_boundFinales_36 rfl (by decide) rfl ?_
        refine aw_iinc (pc := 37) (w := l2 + 1) (lv' := [(2, .int (l2 + 1)), (1, .int (l1 ||| ((1 : Int32) <<< ((hAi h (hGr h 410 l0) (Int32.toNatClampNeg l2)) &&& 31)))), (0, .ref l0)]) d_Sh_boundFinales_37 2 rfl rfl (by decide) rfl ?_
        refine aw_goto (pc := 40) (tgt := 4) d_Sh_boundFinales_40 (by decide) ?_
        exact aw_lv [2, 1, 0] rfl (ih (l1 ||| ((1 : Int32) <<< ((hAi h (hGr h 410 l0) (Int32.toNatClampNeg l2)) &&& 31))) (l2 + 1))
def Sh_boundFinales (Y : Ly) (l0 : Nat) (h : Hp) : Option Int32 :=
  Sh_boundFinales_L4 Y l0 h FU 0 0
theorem ok_Sh_boundFinales (Y : Ly) (l0 : Nat) (h : Hp) (t0 : isO Y 4 l0) : AM Y 0 K_Sh_boundFinales [.ref l0] h (Sh_boundFinales Y l0 h) (pI h) := by
  refine AM.of rfl (Nat.le_of_ble_eq_true rfl) ?_
  show AW Y 0 K_Sh_boundFinales 0 [(0, .ref l0)] [] h (Sh_boundFinales Y l0 h) (pI h)
  unfold Sh_boundFinales
  refine aw_iconst (pc := 0) (x := 0) d_Sh_boundFinales_0 (by decide) ?_
  refine aw_istore_n (pc := 1) (lv' := [(1, .int 0), (0, .ref l0)]) d_Sh_boundFinales_1 rfl (by decide) rfl ?_
  refine aw_iconst (pc := 2) (x := 0) d_Sh_boundFinales_2 (by decide) ?_
  refine aw_istore_n (pc := 3) (lv' := [(2, .int 0), (1, .int 0), (0, .ref l0)]) d_Sh_boundFinales_3 rfl (by decide) rfl ?_
  exact aw_lv [2, 1, 0] rfl (Sh_boundFinales_L4_ok Y l0 h t0 FU 0 0)
/-! LastPages$Shelf.canTake(III)Z -/
theorem d_Sh_canTake_0 : decode prog_6_method_19_code 0 = .ok (.aload_n 0, 1) := by decide +kernel
theorem d_Sh_canTake_1 : decode prog_6_method_19_code 1 = .ok (.iload_n 1, 1) := by decide +kernel
theorem d_Sh_canTake_2 : decode prog_6_method_19_code 2 = .ok (.invokevirtual 112, 3) := by decide +kernel
theorem d_Sh_canTake_5 : decode prog_6_method_19_code 5 = .ok (.ifCond .eq 36, 3) := by decide +kernel
theorem d_Sh_canTake_8 : decode prog_6_method_19_code 8 = .ok (.aload_n 0, 1) := by decide +kernel
theorem d_Sh_canTake_9 : decode prog_6_method_19_code 9 = .ok (.getfield 53, 3) := by decide +kernel
theorem d_Sh_canTake_12 : decode prog_6_method_19_code 12 = .ok (.iload_n 1, 1) := by decide +kernel
theorem d_Sh_canTake_13 : decode prog_6_method_19_code 13 = .ok (.iaload, 1) := by decide +kernel
theorem d_Sh_canTake_14 : decode prog_6_method_19_code 14 = .ok (.iconst (-1), 1) := by decide +kernel
theorem d_Sh_canTake_15 : decode prog_6_method_19_code 15 = .ok (.if_icmp .ne 26, 3) := by decide +kernel
theorem d_Sh_canTake_18 : decode prog_6_method_19_code 18 = .ok (.aload_n 0, 1) := by decide +kernel
theorem d_Sh_canTake_19 : decode prog_6_method_19_code 19 = .ok (.invokevirtual 119, 3) := by decide +kernel
theorem d_Sh_canTake_22 : decode prog_6_method_19_code 22 = .ok (.iload_n 2, 1) := by decide +kernel
theorem d_Sh_canTake_23 : decode prog_6_method_19_code 23 = .ok (.invokestatic 123, 3) := by decide +kernel
theorem d_Sh_canTake_26 : decode prog_6_method_19_code 26 = .ok (.ifCond .ne 15, 3) := by decide +kernel
theorem d_Sh_canTake_29 : decode prog_6_method_19_code 29 = .ok (.iload_n 3, 1) := by decide +kernel
theorem d_Sh_canTake_30 : decode prog_6_method_19_code 30 = .ok (.iload_n 2, 1) := by decide +kernel
theorem d_Sh_canTake_31 : decode prog_6_method_19_code 31 = .ok (.invokestatic 123, 3) := by decide +kernel
theorem d_Sh_canTake_34 : decode prog_6_method_19_code 34 = .ok (.ifCond .eq 7, 3) := by decide +kernel
theorem d_Sh_canTake_37 : decode prog_6_method_19_code 37 = .ok (.iconst 1, 1) := by decide +kernel
theorem d_Sh_canTake_38 : decode prog_6_method_19_code 38 = .ok (.goto 4, 3) := by decide +kernel
theorem d_Sh_canTake_41 : decode prog_6_method_19_code 41 = .ok (.iconst 0, 1) := by decide +kernel
theorem d_Sh_canTake_42 : decode prog_6_method_19_code 42 = .ok (.ireturn, 1) := by decide +kernel
def Sh_canTake (Y : Ly) (l0 : Nat) (l1 : Int32) (l2 : Int32) (l3 : Int32) (h : Hp) : Option Bool :=
  (Sh_hasBook Y l0 l1 h).bind fun q1 =>
  if q1 = true then
    if inB l1 (lnY Y (hGr h 410 l0)) = true then
      if (hAi h (hGr h 410 l0) (Int32.toNatClampNeg l1)) = (-1) then
        (Sh_boundFinales Y l0 h).bind fun q6 =>
        (LP_has Y q6 l2 h).bind fun q7 =>
        if q7 = true then
          some false
        else
          (LP_has Y l3 l2 h).bind fun q9 =>
          if q9 = true then
            some true
          else
            some false
      else
        some false
    else none
  else
    some false
theorem ok_Sh_canTake (Y : Ly) (l0 : Nat) (l1 : Int32) (l2 : Int32) (l3 : Int32) (h : Hp) (t0 : isO Y 4 l0) : AM Y 1 K_Sh_canTake [.ref l0, .int l1, .int l2, .int l3] h (Sh_canTake Y l0 l1 l2 l3 h) (pZ h) := by
  refine AM.of rfl (Nat.le_of_ble_eq_true rfl) ?_
  show AW Y 1 K_Sh_canTake 0 [(0, .ref l0), (1, .int l1), (2, .int l2), (3, .int l3)] [] h (Sh_canTake Y l0 l1 l2 l3 h) (pZ h)
  unfold Sh_canTake
  refine aw_aload_n (pc := 0) d_Sh_canTake_0 rfl 0 rfl ?_
  refine aw_iload_n (pc := 1) d_Sh_canTake_1 rfl 1 rfl ?_
  refine aw_cVpZ (pc := 2) (ci := 4) (T := TX4) (N := 19) (As := [.int l1]) (st := []) (ok_Sh_hasBook Y l0 l1 h t0) okV_Sh_hasBook rfl (by decide) t0 w4_204 d_Sh_canTake_2 rfl (Nat.le_of_ble_eq_true rfl) rfl (Nat.le_of_ble_eq_true rfl) (fun q1 hq1 hTq1 => ?_)
  refine aw_beq (pc := 5) (tgt := 41) d_Sh_canTake_5 (by decide) (fun c2 => ?_) (fun c2 => ?_)
  · refine aw_aload_n (pc := 8) d_Sh_canTake_8 rfl 0 rfl ?_
    refine gt_410 (pc := 9) d_Sh_canTake_9 w2_148 t0 (fun tt3 => ?_)
    refine aw_iload_n (pc := 12) d_Sh_canTake_12 rfl 1 rfl ?_
    refine aw_iaload (pc := 13) d_Sh_canTake_13 tt3 (fun c4 => ?_)
    refine aw_iconst (pc := 14) (x := (-1)) d_Sh_canTake_14 (by decide) ?_
    refine aw_icmp_ne (pc := 15) (tgt := 41) d_Sh_canTake_15 (by decide) (fun c5 => ?_) (fun c5 => ?_)
    · refine aw_aload_n (pc := 18) d_Sh_canTake_18 rfl 0 rfl ?_
      refine aw_cVpI (pc := 19) (ci := 4) (T := TX4) (N := 19) (As := []) (st := []) (ok_Sh_boundFinales Y l0 h t0) okV_Sh_boundFinales rfl (by decide) t0 w5_62 d_Sh_canTake_19 rfl (Nat.le_of_ble_eq_true rfl) rfl (Nat.le_of_ble_eq_true rfl) (fun q6 hq6 hTq6 => ?_)
      refine aw_iload_n (pc := 22) d_Sh_canTake_22 rfl 2 rfl ?_
      refine aw_cNpZ (pc := 23) (As := [.int q6, .int l2]) (st := []) (ok_LP_has Y q6 l2 h) okS_LP_has (List.mem_of_getElem? (i := 13) rfl) d_Sh_canTake_23 rfl (Nat.le_of_ble_eq_true rfl) rfl (Nat.le_of_ble_eq_true rfl) (fun q7 hq7 hTq7 => ?_)
      refine aw_bne (pc := 26) (tgt := 41) d_Sh_canTake_26 (by decide) (fun c8 => ?_) (fun c8 => ?_)
      · refine aw_iconst (pc := 41) (x := 0) d_Sh_canTake_41 (by decide) ?_
        exact aw_zreturn (pc := 42) (b := false) d_Sh_canTake_42 rfl rfl
      · refine aw_iload_n (pc := 29) d_Sh_canTake_29 rfl 3 rfl ?_
        refine aw_iload_n (pc := 30) d_Sh_canTake_30 rfl 2 rfl ?_
        refine aw_cNpZ (pc := 31) (As := [.int l3, .int l2]) (st := []) (ok_LP_has Y l3 l2 h) okS_LP_has (List.mem_of_getElem? (i := 13) rfl) d_Sh_canTake_31 rfl (Nat.le_of_ble_eq_true rfl) rfl (Nat.le_of_ble_eq_true rfl) (fun q9 hq9 hTq9 => ?_)
        refine aw_beq (pc := 34) (tgt := 41) d_Sh_canTake_34 (by decide) (fun c10 => ?_) (fun c10 => ?_)
        · refine aw_iconst (pc := 37) (x := 1) d_Sh_canTake_37 (by decide) ?_
          refine aw_goto (pc := 38) (tgt := 42) d_Sh_canTake_38 (by decide) ?_
          exact aw_zreturn (pc := 42) (b := true) d_Sh_canTake_42 rfl rfl
        · refine aw_iconst (pc := 41) (x := 0) d_Sh_canTake_41 (by decide) ?_
          exact aw_zreturn (pc := 42) (b := false) d_Sh_canTake_42 rfl rfl
    · refine aw_iconst (pc := 41) (x := 0) d_Sh_canTake_41 (by decide) ?_
      exact aw_zreturn (pc := 42) (b := false) d_Sh_canTake_42 rfl rfl
  · refine aw_iconst (pc := 41) (x := 0) d_Sh_canTake_41 (by decide) ?_
    exact aw_zreturn (pc := 42) (b := false) d_Sh_canTake_42 rfl rfl
/-! LastPages.bind(II)Z -/
theorem d_LP_bind_0 : decode prog_1_method_23_code 0 = .ok (.aload_n 0, 1) := by decide +kernel
theorem d_LP_bind_1 : decode prog_1_method_23_code 1 = .ok (.getfield 68, 3) := by decide +kernel
theorem d_LP_bind_4 : decode prog_1_method_23_code 4 = .ok (.iload_n 1, 1) := by decide +kernel
theorem d_LP_bind_5 : decode prog_1_method_23_code 5 = .ok (.invokevirtual 255, 3) := by decide +kernel
theorem d_LP_bind_8 : decode prog_1_method_23_code 8 = .ok (.ifCond .eq 17, 3) := by decide +kernel
theorem d_LP_bind_11 : decode prog_1_method_23_code 11 = .ok (.aload_n 0, 1) := by decide +kernel
theorem d_LP_bind_12 : decode prog_1_method_23_code 12 = .ok (.getfield 68, 3) := by decide +kernel
theorem d_LP_bind_15 : decode prog_1_method_23_code 15 = .ok (.getfield 193, 3) := by decide +kernel
theorem d_LP_bind_18 : decode prog_1_method_23_code 18 = .ok (.iload_n 2, 1) := by decide +kernel
theorem d_LP_bind_19 : decode prog_1_method_23_code 19 = .ok (.invokevirtual 279, 3) := by decide +kernel
theorem d_LP_bind_22 : decode prog_1_method_23_code 22 = .ok (.ifCond .ne 9, 3) := by decide +kernel
theorem d_LP_bind_25 : decode prog_1_method_23_code 25 = .ok (.aload_n 0, 1) := by decide +kernel
theorem d_LP_bind_26 : decode prog_1_method_23_code 26 = .ok (.iconst 2, 1) := by decide +kernel
theorem d_LP_bind_27 : decode prog_1_method_23_code 27 = .ok (.invokevirtual 113, 3) := by decide +kernel
theorem d_LP_bind_30 : decode prog_1_method_23_code 30 = .ok (.ireturn, 1) := by decide +kernel
theorem d_LP_bind_31 : decode prog_1_method_23_code 31 = .ok (.aload_n 0, 1) := by decide +kernel
theorem d_LP_bind_32 : decode prog_1_method_23_code 32 = .ok (.getfield 68, 3) := by decide +kernel
theorem d_LP_bind_35 : decode prog_1_method_23_code 35 = .ok (.iload_n 1, 1) := by decide +kernel
theorem d_LP_bind_36 : decode prog_1_method_23_code 36 = .ok (.iload_n 2, 1) := by decide +kernel
theorem d_LP_bind_37 : decode prog_1_method_23_code 37 = .ok (.aload_n 0, 1) := by decide +kernel
theorem d_LP_bind_38 : decode prog_1_method_23_code 38 = .ok (.getfield 45, 3) := by decide +kernel
theorem d_LP_bind_41 : decode prog_1_method_23_code 41 = .ok (.aload_n 0, 1) := by decide +kernel
theorem d_LP_bind_42 : decode prog_1_method_23_code 42 = .ok (.getfield 68, 3) := by decide +kernel
theorem d_LP_bind_45 : decode prog_1_method_23_code 45 = .ok (.iload_n 1, 1) := by decide +kernel
theorem d_LP_bind_46 : decode prog_1_method_23_code 46 = .ok (.invokevirtual 298, 3) := by decide +kernel
theorem d_LP_bind_49 : decode prog_1_method_23_code 49 = .ok (.invokevirtual 302, 3) := by decide +kernel
theorem d_LP_bind_52 : decode prog_1_method_23_code 52 = .ok (.ifCond .ne 10, 3) := by decide +kernel
theorem d_LP_bind_55 : decode prog_1_method_23_code 55 = .ok (.aload_n 0, 1) := by decide +kernel
theorem d_LP_bind_56 : decode prog_1_method_23_code 56 = .ok (.bipush 9, 2) := by decide +kernel
theorem d_LP_bind_58 : decode prog_1_method_23_code 58 = .ok (.invokevirtual 113, 3) := by decide +kernel
theorem d_LP_bind_61 : decode prog_1_method_23_code 61 = .ok (.ireturn, 1) := by decide +kernel
theorem d_LP_bind_62 : decode prog_1_method_23_code 62 = .ok (.aload_n 0, 1) := by decide +kernel
theorem d_LP_bind_63 : decode prog_1_method_23_code 63 = .ok (.getfield 68, 3) := by decide +kernel
theorem d_LP_bind_66 : decode prog_1_method_23_code 66 = .ok (.getfield 273, 3) := by decide +kernel
theorem d_LP_bind_69 : decode prog_1_method_23_code 69 = .ok (.iload_n 1, 1) := by decide +kernel
theorem d_LP_bind_70 : decode prog_1_method_23_code 70 = .ok (.iload_n 2, 1) := by decide +kernel
theorem d_LP_bind_71 : decode prog_1_method_23_code 71 = .ok (.iastore, 1) := by decide +kernel
theorem d_LP_bind_72 : decode prog_1_method_23_code 72 = .ok (.aload_n 0, 1) := by decide +kernel
theorem d_LP_bind_73 : decode prog_1_method_23_code 73 = .ok (.invokevirtual 121, 3) := by decide +kernel
theorem d_LP_bind_76 : decode prog_1_method_23_code 76 = .ok (.ireturn, 1) := by decide +kernel
def LP_bind (Y : Ly) (l0 : Nat) (l1 : Int32) (l2 : Int32) (h : Hp) : Option (Bool × Hp) :=
  (Sh_hasBook Y (hGr h 1109 l0) l1 h).bind fun q2 =>
  if q2 = true then
    (St_hasFinale Y (hGr h 400 (hGr h 1109 l0)) l2 h).bind fun q6 =>
    if q6 = true then
      (En_fittingFinales Y (hGr h 1105 l0) (hGr h 1109 l0) l1 h).bind fun q11 =>
      (Sh_canTake Y (hGr h 1109 l0) l1 l2 q11.1 q11.2).bind fun q12 =>
      if q12 = true then
        if inB l1 (lnY Y (hGr q11.2 410 (hGr q11.2 1109 l0))) = true then
          letH (hTi q11.2 (hGr q11.2 410 (hGr q11.2 1109 l0)) (Int32.toNatClampNeg l1) l2) fun h17 =>
          (LP_agree Y l0 h17).bind fun q18 =>
          some (q18.1, q18.2)
        else none
      else
        (LP_refuse Y l0 9 q11.2).bind fun q19 =>
        some (q19.1, q19.2)
    else
      (LP_refuse Y l0 2 h).bind fun q20 =>
      some (q20.1, q20.2)
  else
    (LP_refuse Y l0 2 h).bind fun q21 =>
    some (q21.1, q21.2)
theorem ok_LP_bind (Y : Ly) (l0 : Nat) (l1 : Int32) (l2 : Int32) (h : Hp) (t0 : isO Y 11 l0) : AM Y 4 K_LP_bind [.ref l0, .int l1, .int l2] h (LP_bind Y l0 l1 l2 h) rZ := by
  refine AM.of rfl (Nat.le_of_ble_eq_true rfl) ?_
  show AW Y 4 K_LP_bind 0 [(0, .ref l0), (1, .int l1), (2, .int l2)] [] h (LP_bind Y l0 l1 l2 h) rZ
  unfold LP_bind
  refine aw_aload_n (pc := 0) d_LP_bind_0 rfl 0 rfl ?_
  refine gt_1109 (pc := 1) d_LP_bind_1 w3_9 t0 (fun tt1 => ?_)
  refine aw_iload_n (pc := 4) d_LP_bind_4 rfl 1 rfl ?_
  refine aw_cVpZ (pc := 5) (ci := 4) (T := TX4) (N := 19) (As := [.int l1]) (st := []) (ok_Sh_hasBook Y (hGr h 1109 l0) l1 h tt1) okV_Sh_hasBook rfl (by decide) tt1 w4_199 d_LP_bind_5 rfl (Nat.le_of_ble_eq_true rfl) rfl (Nat.le_of_ble_eq_true rfl) (fun q2 hq2 hTq2 => ?_)
  refine aw_beq (pc := 8) (tgt := 25) d_LP_bind_8 (by decide) (fun c3 => ?_) (fun c3 => ?_)
  · refine aw_aload_n (pc := 11) d_LP_bind_11 rfl 0 rfl ?_
    refine gt_1109 (pc := 12) d_LP_bind_12 w3_9 t0 (fun tt4 => ?_)
    refine gt_400 (pc := 15) d_LP_bind_15 w2_129 tt4 (fun tt5 => ?_)
    refine aw_iload_n (pc := 18) d_LP_bind_18 rfl 2 rfl ?_
    refine aw_cVpZ (pc := 19) (ci := 6) (T := TX6) (N := 8) (As := [.int l2]) (st := []) (ok_St_hasFinale Y (hGr h 400 (hGr h 1109 l0)) l2 h tt5) okV_St_hasFinale rfl (by decide) tt5 w4_222 d_LP_bind_19 rfl (Nat.le_of_ble_eq_true rfl) rfl (Nat.le_of_ble_eq_true rfl) (fun q6 hq6 hTq6 => ?_)
    refine aw_bne (pc := 22) (tgt := 31) d_LP_bind_22 (by decide) (fun c7 => ?_) (fun c7 => ?_)
    · refine aw_aload_n (pc := 31) d_LP_bind_31 rfl 0 rfl ?_
      refine gt_1109 (pc := 32) d_LP_bind_32 w3_9 t0 (fun tt8 => ?_)
      refine aw_iload_n (pc := 35) d_LP_bind_35 rfl 1 rfl ?_
      refine aw_iload_n (pc := 36) d_LP_bind_36 rfl 2 rfl ?_
      refine aw_aload_n (pc := 37) d_LP_bind_37 rfl 0 rfl ?_
      refine gt_1105 (pc := 38) d_LP_bind_38 w3_5 t0 (fun tt9 => ?_)
      refine aw_aload_n (pc := 41) d_LP_bind_41 rfl 0 rfl ?_
      refine gt_1109 (pc := 42) d_LP_bind_42 w3_9 t0 (fun tt10 => ?_)
      refine aw_iload_n (pc := 45) d_LP_bind_45 rfl 1 rfl ?_
      refine aw_cVrI (pc := 46) (ci := 0) (T := TX0) (N := 8) (As := [.ref (hGr h 1109 l0), .int l1]) (st := [.int l2, .int l1, .ref (hGr h 1109 l0)]) (ok_En_fittingFinales Y (hGr h 1105 l0) (hGr h 1109 l0) l1 h tt9 tt10) okV_En_fittingFinales rfl (by decide) tt9 w5_23 d_LP_bind_46 rfl (Nat.le_of_ble_eq_true rfl) rfl (Nat.le_of_ble_eq_true rfl) (fun q11 hq11 hTq11 => ?_)
      refine aw_cVpZ (pc := 49) (ci := 4) (T := TX4) (N := 19) (As := [.int l1, .int l2, .int q11.1]) (st := []) (ok_Sh_canTake Y (hGr h 1109 l0) l1 l2 q11.1 q11.2 tt8) okV_Sh_canTake rfl (by decide) tt8 w5_58 d_LP_bind_49 rfl (Nat.le_of_ble_eq_true rfl) rfl (Nat.le_of_ble_eq_true rfl) (fun q12 hq12 hTq12 => ?_)
      refine aw_bne (pc := 52) (tgt := 62) d_LP_bind_52 (by decide) (fun c13 => ?_) (fun c13 => ?_)
      · refine aw_aload_n (pc := 62) d_LP_bind_62 rfl 0 rfl ?_
        refine gt_1109 (pc := 63) d_LP_bind_63 w3_9 t0 (fun tt14 => ?_)
        refine gt_410 (pc := 66) d_LP_bind_66 w2_150 tt14 (fun tt15 => ?_)
        refine aw_iload_n (pc := 69) d_LP_bind_69 rfl 1 rfl ?_
        refine aw_iload_n (pc := 70) d_LP_bind_70 rfl 2 rfl ?_
        refine aw_iastore (pc := 71) d_LP_bind_71 tt15 (fun c16 => ?_)
        refine aw_letH (fun h17 => ?_)
        refine aw_aload_n (pc := 72) d_LP_bind_72 rfl 0 rfl ?_
        refine aw_cVrZ (pc := 73) (ci := 11) (T := TX11) (N := 18) (As := []) (st := []) (ok_LP_agree Y l0 h17 t0) okV_LP_agree rfl (by decide) t0 w3_86 d_LP_bind_73 rfl (Nat.le_of_ble_eq_true rfl) rfl (Nat.le_of_ble_eq_true rfl) (fun q18 hq18 hTq18 => ?_)
        exact aw_zreturn (pc := 76) (b := q18.1) d_LP_bind_76 rfl rfl
      · refine aw_aload_n (pc := 55) d_LP_bind_55 rfl 0 rfl ?_
        refine aw_bipush (pc := 56) (x := 9) d_LP_bind_56 (by decide) ?_
        refine aw_cVrZ (pc := 58) (ci := 11) (T := TX11) (N := 18) (As := [.int 9]) (st := []) (ok_LP_refuse Y l0 9 q11.2 t0) okV_LP_refuse rfl (by decide) t0 w3_75 d_LP_bind_58 rfl (Nat.le_of_ble_eq_true rfl) rfl (Nat.le_of_ble_eq_true rfl) (fun q19 hq19 hTq19 => ?_)
        exact aw_zreturn (pc := 61) (b := q19.1) d_LP_bind_61 rfl rfl
    · refine aw_aload_n (pc := 25) d_LP_bind_25 rfl 0 rfl ?_
      refine aw_iconst (pc := 26) (x := 2) d_LP_bind_26 (by decide) ?_
      refine aw_cVrZ (pc := 27) (ci := 11) (T := TX11) (N := 18) (As := [.int 2]) (st := []) (ok_LP_refuse Y l0 2 h t0) okV_LP_refuse rfl (by decide) t0 w3_75 d_LP_bind_27 rfl (Nat.le_of_ble_eq_true rfl) rfl (Nat.le_of_ble_eq_true rfl) (fun q20 hq20 hTq20 => ?_)
      exact aw_zreturn (pc := 30) (b := q20.1) d_LP_bind_30 rfl rfl
  · refine aw_aload_n (pc := 25) d_LP_bind_25 rfl 0 rfl ?_
    refine aw_iconst (pc := 26) (x := 2) d_LP_bind_26 (by decide) ?_
    refine aw_cVrZ (pc := 27) (ci := 11) (T := TX11) (N := 18) (As := [.int 2]) (st := []) (ok_LP_refuse Y l0 2 h t0) okV_LP_refuse rfl (by decide) t0 w3_75 d_LP_bind_27 rfl (Nat.le_of_ble_eq_true rfl) rfl (Nat.le_of_ble_eq_true rfl) (fun q21 hq21 hTq21 => ?_)
    exact aw_zreturn (pc := 30) (b := q21.1) d_LP_bind_30 rfl rfl
/-! LastPages$Shelf.breakOf(I)I -/
theorem d_Sh_breakOf_0 : decode prog_6_method_14_code 0 = .ok (.aload_n 0, 1) := by decide +kernel
theorem d_Sh_breakOf_1 : decode prog_6_method_14_code 1 = .ok (.iload_n 1, 1) := by decide +kernel
theorem d_Sh_breakOf_2 : decode prog_6_method_14_code 2 = .ok (.invokevirtual 112, 3) := by decide +kernel
theorem d_Sh_breakOf_5 : decode prog_6_method_14_code 5 = .ok (.ifCond .ne 5, 3) := by decide +kernel
theorem d_Sh_breakOf_8 : decode prog_6_method_14_code 8 = .ok (.iconst (-1), 1) := by decide +kernel
theorem d_Sh_breakOf_9 : decode prog_6_method_14_code 9 = .ok (.ireturn, 1) := by decide +kernel
theorem d_Sh_breakOf_10 : decode prog_6_method_14_code 10 = .ok (.aload_n 0, 1) := by decide +kernel
theorem d_Sh_breakOf_11 : decode prog_6_method_14_code 11 = .ok (.getfield 41, 3) := by decide +kernel
theorem d_Sh_breakOf_14 : decode prog_6_method_14_code 14 = .ok (.iload_n 1, 1) := by decide +kernel
theorem d_Sh_breakOf_15 : decode prog_6_method_14_code 15 = .ok (.iaload, 1) := by decide +kernel
theorem d_Sh_breakOf_16 : decode prog_6_method_14_code 16 = .ok (.istore_n 2, 1) := by decide +kernel
theorem d_Sh_breakOf_17 : decode prog_6_method_14_code 17 = .ok (.iconst 0, 1) := by decide +kernel
theorem d_Sh_breakOf_18 : decode prog_6_method_14_code 18 = .ok (.istore_n 3, 1) := by decide +kernel
theorem d_Sh_breakOf_19 : decode prog_6_method_14_code 19 = .ok (.iload_n 3, 1) := by decide +kernel
theorem d_Sh_breakOf_20 : decode prog_6_method_14_code 20 = .ok (.aload_n 0, 1) := by decide +kernel
theorem d_Sh_breakOf_21 : decode prog_6_method_14_code 21 = .ok (.getfield 47, 3) := by decide +kernel
theorem d_Sh_breakOf_24 : decode prog_6_method_14_code 24 = .ok (.iload_n 1, 1) := by decide +kernel
theorem d_Sh_breakOf_25 : decode prog_6_method_14_code 25 = .ok (.iaload, 1) := by decide +kernel
theorem d_Sh_breakOf_26 : decode prog_6_method_14_code 26 = .ok (.if_icmp .ge 36, 3) := by decide +kernel
theorem d_Sh_breakOf_29 : decode prog_6_method_14_code 29 = .ok (.aload_n 0, 1) := by decide +kernel
theorem d_Sh_breakOf_30 : decode prog_6_method_14_code 30 = .ok (.getfield 12, 3) := by decide +kernel
theorem d_Sh_breakOf_33 : decode prog_6_method_14_code 33 = .ok (.iload_n 2, 1) := by decide +kernel
theorem d_Sh_breakOf_34 : decode prog_6_method_14_code 34 = .ok (.aload_n 0, 1) := by decide +kernel
theorem d_Sh_breakOf_35 : decode prog_6_method_14_code 35 = .ok (.getfield 50, 3) := by decide +kernel
theorem d_Sh_breakOf_38 : decode prog_6_method_14_code 38 = .ok (.iload_n 1, 1) := by decide +kernel
theorem d_Sh_breakOf_39 : decode prog_6_method_14_code 39 = .ok (.bipush 10, 2) := by decide +kernel
theorem d_Sh_breakOf_41 : decode prog_6_method_14_code 41 = .ok (.imul, 1) := by decide +kernel
theorem d_Sh_breakOf_42 : decode prog_6_method_14_code 42 = .ok (.iload_n 3, 1) := by decide +kernel
theorem d_Sh_breakOf_43 : decode prog_6_method_14_code 43 = .ok (.iadd, 1) := by decide +kernel
theorem d_Sh_breakOf_44 : decode prog_6_method_14_code 44 = .ok (.iaload, 1) := by decide +kernel
theorem d_Sh_breakOf_45 : decode prog_6_method_14_code 45 = .ok (.invokevirtual 116, 3) := by decide +kernel
theorem d_Sh_breakOf_48 : decode prog_6_method_14_code 48 = .ok (.istore_n 2, 1) := by decide +kernel
theorem d_Sh_breakOf_49 : decode prog_6_method_14_code 49 = .ok (.iload_n 2, 1) := by decide +kernel
theorem d_Sh_breakOf_50 : decode prog_6_method_14_code 50 = .ok (.iconst (-1), 1) := by decide +kernel
theorem d_Sh_breakOf_51 : decode prog_6_method_14_code 51 = .ok (.if_icmp .ne 5, 3) := by decide +kernel
theorem d_Sh_breakOf_54 : decode prog_6_method_14_code 54 = .ok (.iload_n 3, 1) := by decide +kernel
theorem d_Sh_breakOf_55 : decode prog_6_method_14_code 55 = .ok (.ireturn, 1) := by decide +kernel
theorem d_Sh_breakOf_56 : decode prog_6_method_14_code 56 = .ok (.iinc 3 1, 3) := by decide +kernel
theorem d_Sh_breakOf_59 : decode prog_6_method_14_code 59 = .ok (.goto (-40), 3) := by decide +kernel
theorem d_Sh_breakOf_62 : decode prog_6_method_14_code 62 = .ok (.iconst (-1), 1) := by decide +kernel
theorem d_Sh_breakOf_63 : decode prog_6_method_14_code 63 = .ok (.ireturn, 1) := by decide +kernel
def Sh_breakOf_L19 (Y : Ly) (l0 : Nat) (l1 : Int32) (h : Hp) : Nat → Int32 → Int32 → Option Int32
  | 0, _, _ => none
  | F + 1, l2, l3 =>
    if inB l1 (lnY Y (hGr h 408 l0)) = true then
      if (hAi h (hGr h 408 l0) (Int32.toNatClampNeg l1)) ≤ l3 then
        some (-1)
      else
        if inB ((l1 * 10) + l3) (lnY Y (hGr h 409 l0)) = true then
          (St_leadsTo Y (hGr h 400 l0) l2 (hAi h (hGr h 409 l0) (Int32.toNatClampNeg ((l1 * 10) + l3))) h).bind fun q11 =>
          if q11 = (-1) then
            some l3
          else
            Sh_breakOf_L19 Y l0 l1 h F q11 (l3 + 1)
        else none
    else none
theorem Sh_breakOf_L19_ok (Y : Ly) (l0 : Nat) (l1 : Int32) (h : Hp) (tl0 : isO Y 4 l0) : ∀ (F : Nat) (l2 : Int32) (l3 : Int32), AW Y 1 K_Sh_breakOf 19 [(0, .ref l0), (1, .int l1), (2, .int l2), (3, .int l3)] [] h (Sh_breakOf_L19 Y l0 l1 h F l2 l3) (pI h) := by
  intro F
  induction F with
  | zero =>
    intro l2 l3
    exact aw_none
  | succ F ih =>
    intro l2 l3
    unfold Sh_breakOf_L19
    refine aw_iload_n (pc := 19) d_Sh_breakOf_19 rfl 3 rfl ?_
    refine aw_aload_n (pc := 20) d_Sh_breakOf_20 rfl 0 rfl ?_
    refine gt_408 (pc := 21) d_Sh_breakOf_21 w2_145 tl0 (fun tt5 => ?_)
    refine aw_iload_n (pc := 24) d_Sh_breakOf_24 rfl 1 rfl ?_
    refine aw_iaload (pc := 25) d_Sh_breakOf_25 tt5 (fun c6 => ?_)
    refine aw_icmp_ge (pc := 26) (tgt := 62) d_Sh_breakOf_26 (by decide) (fun c7 => ?_) (fun c7 => ?_)
    · refine aw_iconst (pc := 62) (x := (-1)) d_Sh_breakOf_62 (by decide) ?_
      exact aw_ireturn (pc := 63) d_Sh_breakOf_63 rfl rfl
    · refine aw_aload_n (pc := 29) d_Sh_breakOf_29 rfl 0 rfl ?_
      refine gt_400 (pc := 30) d_Sh_breakOf_30 w2_124 tl0 (fun tt8 => ?_)
      refine aw_iload_n (pc := 33) d_Sh_breakOf_33 rfl 2 rfl ?_
      refine aw_aload_n (pc := 34) d_Sh_breakOf_34 rfl 0 rfl ?_
      refine gt_409 (pc := 35) d_Sh_breakOf_35 w2_147 tl0 (fun tt9 => ?_)
      refine aw_iload_n (pc := 38) d_Sh_breakOf_38 rfl 1 rfl ?_
      refine aw_bipush (pc := 39) (x := 10) d_Sh_breakOf_39 (by decide) ?_
      refine aw_imul (pc := 41) d_Sh_breakOf_41 ?_
      refine aw_iload_n (pc := 42) d_Sh_breakOf_42 rfl 3 rfl ?_
      refine aw_iadd (pc := 43) d_Sh_breakOf_43 ?_
      refine aw_iaload (pc := 44) d_Sh_breakOf_44 tt9 (fun c10 => ?_)
      refine aw_cVpI (pc := 45) (ci := 6) (T := TX6) (N := 8) (As := [.int l2, .int (hAi h (hGr h 409 l0) (Int32.toNatClampNeg ((l1 * 10) + l3)))]) (st := []) (ok_St_leadsTo Y (hGr h 400 l0) l2 (hAi h (hGr h 409 l0) (Int32.toNatClampNeg ((l1 * 10) + l3))) h tt8) okV_St_leadsTo rfl (by decide) tt8 w4_205 d_Sh_breakOf_45 rfl (Nat.le_of_ble_eq_true rfl) rfl (Nat.le_of_ble_eq_true rfl) (fun q11 hq11 hTq11 => ?_)
      refine aw_istore_n (pc := 48) (lv' := [(2, .int q11), (0, .ref l0), (1, .int l1), (3, .int l3)]) d_Sh_breakOf_48 rfl (by decide) rfl ?_
      refine aw_iload_n (pc := 49) d_Sh_breakOf_49 rfl 0 rfl ?_
      refine aw_iconst (pc := 50) (x := (-1)) d_Sh_breakOf_50 (by decide) ?_
      refine aw_icmp_ne (pc := 51) (tgt := 56) d_Sh_breakOf_51 (by decide) (fun c12 => ?_) (fun c12 => ?_)
      · refine aw_iload_n (pc := 54) d_Sh_breakOf_54 rfl 3 rfl ?_
        exact aw_ireturn (pc := 55) d_Sh_breakOf_55 rfl rfl
      · refine aw_iinc (pc := 56) (w := l3 + 1) (lv' := [(3, .int (l3 + 1)), (2, .int q11), (0, .ref l0), (1, .int l1)]) d_Sh_breakOf_56 3 rfl rfl (by decide) rfl ?_
        refine aw_goto (pc := 59) (tgt := 19) d_Sh_breakOf_59 (by decide) ?_
        exact aw_lv [2, 3, 1, 0] rfl (ih q11 (l3 + 1))
def Sh_breakOf (Y : Ly) (l0 : Nat) (l1 : Int32) (h : Hp) : Option Int32 :=
  (Sh_hasBook Y l0 l1 h).bind fun q1 =>
  if q1 = true then
    if inB l1 (lnY Y (hGr h 406 l0)) = true then
      Sh_breakOf_L19 Y l0 l1 h FU (hAi h (hGr h 406 l0) (Int32.toNatClampNeg l1)) 0
    else none
  else
    some (-1)
theorem ok_Sh_breakOf (Y : Ly) (l0 : Nat) (l1 : Int32) (h : Hp) (t0 : isO Y 4 l0) : AM Y 1 K_Sh_breakOf [.ref l0, .int l1] h (Sh_breakOf Y l0 l1 h) (pI h) := by
  refine AM.of rfl (Nat.le_of_ble_eq_true rfl) ?_
  show AW Y 1 K_Sh_breakOf 0 [(0, .ref l0), (1, .int l1)] [] h (Sh_breakOf Y l0 l1 h) (pI h)
  unfold Sh_breakOf
  refine aw_aload_n (pc := 0) d_Sh_breakOf_0 rfl 0 rfl ?_
  refine aw_iload_n (pc := 1) d_Sh_breakOf_1 rfl 1 rfl ?_
  refine aw_cVpZ (pc := 2) (ci := 4) (T := TX4) (N := 19) (As := [.int l1]) (st := []) (ok_Sh_hasBook Y l0 l1 h t0) okV_Sh_hasBook rfl (by decide) t0 w4_204 d_Sh_breakOf_2 rfl (Nat.le_of_ble_eq_true rfl) rfl (Nat.le_of_ble_eq_true rfl) (fun q1 hq1 hTq1 => ?_)
  refine aw_bne (pc := 5) (tgt := 10) d_Sh_breakOf_5 (by decide) (fun c2 => ?_) (fun c2 => ?_)
  · refine aw_aload_n (pc := 10) d_Sh_breakOf_10 rfl 0 rfl ?_
    refine gt_406 (pc := 11) d_Sh_breakOf_11 w2_139 t0 (fun tt3 => ?_)
    refine aw_iload_n (pc := 14) d_Sh_breakOf_14 rfl 1 rfl ?_
    refine aw_iaload (pc := 15) d_Sh_breakOf_15 tt3 (fun c4 => ?_)
    refine aw_istore_n (pc := 16) (lv' := [(2, .int (hAi h (hGr h 406 l0) (Int32.toNatClampNeg l1))), (0, .ref l0), (1, .int l1)]) d_Sh_breakOf_16 rfl (by decide) rfl ?_
    refine aw_iconst (pc := 17) (x := 0) d_Sh_breakOf_17 (by decide) ?_
    refine aw_istore_n (pc := 18) (lv' := [(3, .int 0), (2, .int (hAi h (hGr h 406 l0) (Int32.toNatClampNeg l1))), (0, .ref l0), (1, .int l1)]) d_Sh_breakOf_18 rfl (by decide) rfl ?_
    exact aw_lv [2, 3, 1, 0] rfl (Sh_breakOf_L19_ok Y l0 l1 h t0 FU (hAi h (hGr h 406 l0) (Int32.toNatClampNeg l1)) 0)
  · refine aw_iconst (pc := 8) (x := (-1)) d_Sh_breakOf_8 (by decide) ?_
    exact aw_ireturn (pc := 9) d_Sh_breakOf_9 rfl rfl
/-! LastPages.book(II)I -/
theorem d_LP_book_0 : decode prog_1_method_16_code 0 = .ok (.aload_n 0, 1) := by decide +kernel
theorem d_LP_book_1 : decode prog_1_method_16_code 1 = .ok (.getfield 68, 3) := by decide +kernel
theorem d_LP_book_4 : decode prog_1_method_16_code 4 = .ok (.iload_n 1, 1) := by decide +kernel
theorem d_LP_book_5 : decode prog_1_method_16_code 5 = .ok (.invokevirtual 255, 3) := by decide +kernel
theorem d_LP_book_8 : decode prog_1_method_16_code 8 = .ok (.ifCond .ne 9, 3) := by decide +kernel
theorem d_LP_book_11 : decode prog_1_method_16_code 11 = .ok (.aload_n 0, 1) := by decide +kernel
theorem d_LP_book_12 : decode prog_1_method_16_code 12 = .ok (.iconst 2, 1) := by decide +kernel
theorem d_LP_book_13 : decode prog_1_method_16_code 13 = .ok (.invokevirtual 133, 3) := by decide +kernel
theorem d_LP_book_16 : decode prog_1_method_16_code 16 = .ok (.ireturn, 1) := by decide +kernel
theorem d_LP_book_17 : decode prog_1_method_16_code 17 = .ok (.iload_n 2, 1) := by decide +kernel
theorem d_LP_book_18 : decode prog_1_method_16_code 18 = .ok (.tableswitch 120 0 5 #[38, 52, 66, 80, 93, 106], 38) := by decide +kernel
theorem d_LP_book_56 : decode prog_1_method_16_code 56 = .ok (.aload_n 0, 1) := by decide +kernel
theorem d_LP_book_57 : decode prog_1_method_16_code 57 = .ok (.aload_n 0, 1) := by decide +kernel
theorem d_LP_book_58 : decode prog_1_method_16_code 58 = .ok (.getfield 68, 3) := by decide +kernel
theorem d_LP_book_61 : decode prog_1_method_16_code 61 = .ok (.getfield 258, 3) := by decide +kernel
theorem d_LP_book_64 : decode prog_1_method_16_code 64 = .ok (.iload_n 1, 1) := by decide +kernel
theorem d_LP_book_65 : decode prog_1_method_16_code 65 = .ok (.iaload, 1) := by decide +kernel
theorem d_LP_book_66 : decode prog_1_method_16_code 66 = .ok (.invokevirtual 180, 3) := by decide +kernel
theorem d_LP_book_69 : decode prog_1_method_16_code 69 = .ok (.ireturn, 1) := by decide +kernel
theorem d_LP_book_70 : decode prog_1_method_16_code 70 = .ok (.aload_n 0, 1) := by decide +kernel
theorem d_LP_book_71 : decode prog_1_method_16_code 71 = .ok (.aload_n 0, 1) := by decide +kernel
theorem d_LP_book_72 : decode prog_1_method_16_code 72 = .ok (.getfield 68, 3) := by decide +kernel
theorem d_LP_book_75 : decode prog_1_method_16_code 75 = .ok (.getfield 261, 3) := by decide +kernel
theorem d_LP_book_78 : decode prog_1_method_16_code 78 = .ok (.iload_n 1, 1) := by decide +kernel
theorem d_LP_book_79 : decode prog_1_method_16_code 79 = .ok (.iaload, 1) := by decide +kernel
theorem d_LP_book_80 : decode prog_1_method_16_code 80 = .ok (.invokevirtual 180, 3) := by decide +kernel
theorem d_LP_book_83 : decode prog_1_method_16_code 83 = .ok (.ireturn, 1) := by decide +kernel
theorem d_LP_book_84 : decode prog_1_method_16_code 84 = .ok (.aload_n 0, 1) := by decide +kernel
theorem d_LP_book_85 : decode prog_1_method_16_code 85 = .ok (.aload_n 0, 1) := by decide +kernel
theorem d_LP_book_86 : decode prog_1_method_16_code 86 = .ok (.getfield 68, 3) := by decide +kernel
theorem d_LP_book_89 : decode prog_1_method_16_code 89 = .ok (.getfield 264, 3) := by decide +kernel
theorem d_LP_book_92 : decode prog_1_method_16_code 92 = .ok (.iload_n 1, 1) := by decide +kernel
theorem d_LP_book_93 : decode prog_1_method_16_code 93 = .ok (.iaload, 1) := by decide +kernel
theorem d_LP_book_94 : decode prog_1_method_16_code 94 = .ok (.invokevirtual 180, 3) := by decide +kernel
theorem d_LP_book_97 : decode prog_1_method_16_code 97 = .ok (.ireturn, 1) := by decide +kernel
theorem d_LP_book_98 : decode prog_1_method_16_code 98 = .ok (.aload_n 0, 1) := by decide +kernel
theorem d_LP_book_99 : decode prog_1_method_16_code 99 = .ok (.aload_n 0, 1) := by decide +kernel
theorem d_LP_book_100 : decode prog_1_method_16_code 100 = .ok (.getfield 68, 3) := by decide +kernel
theorem d_LP_book_103 : decode prog_1_method_16_code 103 = .ok (.iload_n 1, 1) := by decide +kernel
theorem d_LP_book_104 : decode prog_1_method_16_code 104 = .ok (.invokevirtual 267, 3) := by decide +kernel
theorem d_LP_book_107 : decode prog_1_method_16_code 107 = .ok (.invokevirtual 249, 3) := by decide +kernel
theorem d_LP_book_110 : decode prog_1_method_16_code 110 = .ok (.ireturn, 1) := by decide +kernel
theorem d_LP_book_111 : decode prog_1_method_16_code 111 = .ok (.aload_n 0, 1) := by decide +kernel
theorem d_LP_book_112 : decode prog_1_method_16_code 112 = .ok (.aload_n 0, 1) := by decide +kernel
theorem d_LP_book_113 : decode prog_1_method_16_code 113 = .ok (.getfield 68, 3) := by decide +kernel
theorem d_LP_book_116 : decode prog_1_method_16_code 116 = .ok (.iload_n 1, 1) := by decide +kernel
theorem d_LP_book_117 : decode prog_1_method_16_code 117 = .ok (.invokevirtual 270, 3) := by decide +kernel
theorem d_LP_book_120 : decode prog_1_method_16_code 120 = .ok (.invokevirtual 249, 3) := by decide +kernel
theorem d_LP_book_123 : decode prog_1_method_16_code 123 = .ok (.ireturn, 1) := by decide +kernel
theorem d_LP_book_124 : decode prog_1_method_16_code 124 = .ok (.aload_n 0, 1) := by decide +kernel
theorem d_LP_book_125 : decode prog_1_method_16_code 125 = .ok (.aload_n 0, 1) := by decide +kernel
theorem d_LP_book_126 : decode prog_1_method_16_code 126 = .ok (.getfield 68, 3) := by decide +kernel
theorem d_LP_book_129 : decode prog_1_method_16_code 129 = .ok (.getfield 273, 3) := by decide +kernel
theorem d_LP_book_132 : decode prog_1_method_16_code 132 = .ok (.iload_n 1, 1) := by decide +kernel
theorem d_LP_book_133 : decode prog_1_method_16_code 133 = .ok (.iaload, 1) := by decide +kernel
theorem d_LP_book_134 : decode prog_1_method_16_code 134 = .ok (.invokevirtual 249, 3) := by decide +kernel
theorem d_LP_book_137 : decode prog_1_method_16_code 137 = .ok (.ireturn, 1) := by decide +kernel
theorem d_LP_book_138 : decode prog_1_method_16_code 138 = .ok (.aload_n 0, 1) := by decide +kernel
theorem d_LP_book_139 : decode prog_1_method_16_code 139 = .ok (.iconst 5, 1) := by decide +kernel
theorem d_LP_book_140 : decode prog_1_method_16_code 140 = .ok (.invokevirtual 133, 3) := by decide +kernel
theorem d_LP_book_143 : decode prog_1_method_16_code 143 = .ok (.ireturn, 1) := by decide +kernel
def LP_book (Y : Ly) (l0 : Nat) (l1 : Int32) (l2 : Int32) (h : Hp) : Option (Int32 × Hp) :=
  (Sh_hasBook Y (hGr h 1109 l0) l1 h).bind fun q2 =>
  if q2 = true then
    if l2 = 0 then
      if inB l1 (lnY Y (hGr h 406 (hGr h 1109 l0))) = true then
        (LP_give Y l0 (hAi h (hGr h 406 (hGr h 1109 l0)) (Int32.toNatClampNeg l1)) h).bind fun q8 =>
        some (q8.1, q8.2)
      else none
    else
    if l2 = 1 then
      if inB l1 (lnY Y (hGr h 408 (hGr h 1109 l0))) = true then
        (LP_give Y l0 (hAi h (hGr h 408 (hGr h 1109 l0)) (Int32.toNatClampNeg l1)) h).bind fun q13 =>
        some (q13.1, q13.2)
      else none
    else
    if l2 = 2 then
      if inB l1 (lnY Y (hGr h 407 (hGr h 1109 l0))) = true then
        (LP_give Y l0 (hAi h (hGr h 407 (hGr h 1109 l0)) (Int32.toNatClampNeg l1)) h).bind fun q18 =>
        some (q18.1, q18.2)
      else none
    else
    if l2 = 3 then
      (Sh_placeOf Y (hGr h 1109 l0) l1 h).bind fun q21 =>
      (LP_giveIfAny Y l0 q21 h).bind fun q22 =>
      some (q22.1, q22.2)
    else
    if l2 = 4 then
      (Sh_breakOf Y (hGr h 1109 l0) l1 h).bind fun q25 =>
      (LP_giveIfAny Y l0 q25 h).bind fun q26 =>
      some (q26.1, q26.2)
    else
    if l2 = 5 then
      if inB l1 (lnY Y (hGr h 410 (hGr h 1109 l0))) = true then
        (LP_giveIfAny Y l0 (hAi h (hGr h 410 (hGr h 1109 l0)) (Int32.toNatClampNeg l1)) h).bind fun q31 =>
        some (q31.1, q31.2)
      else none
    else
    (LP_fail Y l0 5 h).bind fun q32 =>
    some (q32.1, q32.2)
  else
    (LP_fail Y l0 2 h).bind fun q33 =>
    some (q33.1, q33.2)
theorem ok_LP_book (Y : Ly) (l0 : Nat) (l1 : Int32) (l2 : Int32) (h : Hp) (t0 : isO Y 11 l0) : AM Y 2 K_LP_book [.ref l0, .int l1, .int l2] h (LP_book Y l0 l1 l2 h) rI := by
  refine AM.of rfl (Nat.le_of_ble_eq_true rfl) ?_
  show AW Y 2 K_LP_book 0 [(0, .ref l0), (1, .int l1), (2, .int l2)] [] h (LP_book Y l0 l1 l2 h) rI
  unfold LP_book
  refine aw_aload_n (pc := 0) d_LP_book_0 rfl 0 rfl ?_
  refine gt_1109 (pc := 1) d_LP_book_1 w3_9 t0 (fun tt1 => ?_)
  refine aw_iload_n (pc := 4) d_LP_book_4 rfl 1 rfl ?_
  refine aw_cVpZ (pc := 5) (ci := 4) (T := TX4) (N := 19) (As := [.int l1]) (st := []) (ok_Sh_hasBook Y (hGr h 1109 l0) l1 h tt1) okV_Sh_hasBook rfl (by decide) tt1 w4_199 d_LP_book_5 rfl (Nat.le_of_ble_eq_true rfl) rfl (Nat.le_of_ble_eq_true rfl) (fun q2 hq2 hTq2 => ?_)
  refine aw_bne (pc := 8) (tgt := 17) d_LP_book_8 (by decide) (fun c3 => ?_) (fun c3 => ?_)
  · refine aw_iload_n (pc := 17) d_LP_book_17 rfl 2 rfl ?_
    refine aw_cases (fun c4 => ?_) (fun c4 => ?_)
    · refine aw_tbl (pc := 18) (tgt := 56) (off := 38) d_LP_book_18 (by rw [c4]; decide) (by rw [c4]; decide) (by rw [c4]; rfl) (by decide) ?_
      refine aw_aload_n (pc := 56) d_LP_book_56 rfl 0 rfl ?_
      refine aw_aload_n (pc := 57) d_LP_book_57 rfl 0 rfl ?_
      refine gt_1109 (pc := 58) d_LP_book_58 w3_9 t0 (fun tt5 => ?_)
      refine gt_406 (pc := 61) d_LP_book_61 w2_140 tt5 (fun tt6 => ?_)
      refine aw_iload_n (pc := 64) d_LP_book_64 rfl 1 rfl ?_
      refine aw_iaload (pc := 65) d_LP_book_65 tt6 (fun c7 => ?_)
      refine aw_cVrI (pc := 66) (ci := 11) (T := TX11) (N := 18) (As := [.int (hAi h (hGr h 406 (hGr h 1109 l0)) (Int32.toNatClampNeg l1))]) (st := []) (ok_LP_give Y l0 (hAi h (hGr h 406 (hGr h 1109 l0)) (Int32.toNatClampNeg l1)) h t0) okV_LP_give rfl (by decide) t0 w4_88 d_LP_book_66 rfl (Nat.le_of_ble_eq_true rfl) rfl (Nat.le_of_ble_eq_true rfl) (fun q8 hq8 hTq8 => ?_)
      exact aw_ireturn (pc := 69) d_LP_book_69 rfl rfl
    refine aw_cases (fun c9 => ?_) (fun c9 => ?_)
    · refine aw_tbl (pc := 18) (tgt := 70) (off := 52) d_LP_book_18 (by rw [c9]; decide) (by rw [c9]; decide) (by rw [c9]; rfl) (by decide) ?_
      refine aw_aload_n (pc := 70) d_LP_book_70 rfl 0 rfl ?_
      refine aw_aload_n (pc := 71) d_LP_book_71 rfl 0 rfl ?_
      refine gt_1109 (pc := 72) d_LP_book_72 w3_9 t0 (fun tt10 => ?_)
      refine gt_408 (pc := 75) d_LP_book_75 w2_146 tt10 (fun tt11 => ?_)
      refine aw_iload_n (pc := 78) d_LP_book_78 rfl 1 rfl ?_
      refine aw_iaload (pc := 79) d_LP_book_79 tt11 (fun c12 => ?_)
      refine aw_cVrI (pc := 80) (ci := 11) (T := TX11) (N := 18) (As := [.int (hAi h (hGr h 408 (hGr h 1109 l0)) (Int32.toNatClampNeg l1))]) (st := []) (ok_LP_give Y l0 (hAi h (hGr h 408 (hGr h 1109 l0)) (Int32.toNatClampNeg l1)) h t0) okV_LP_give rfl (by decide) t0 w4_88 d_LP_book_80 rfl (Nat.le_of_ble_eq_true rfl) rfl (Nat.le_of_ble_eq_true rfl) (fun q13 hq13 hTq13 => ?_)
      exact aw_ireturn (pc := 83) d_LP_book_83 rfl rfl
    refine aw_cases (fun c14 => ?_) (fun c14 => ?_)
    · refine aw_tbl (pc := 18) (tgt := 84) (off := 66) d_LP_book_18 (by rw [c14]; decide) (by rw [c14]; decide) (by rw [c14]; rfl) (by decide) ?_
      refine aw_aload_n (pc := 84) d_LP_book_84 rfl 0 rfl ?_
      refine aw_aload_n (pc := 85) d_LP_book_85 rfl 0 rfl ?_
      refine gt_1109 (pc := 86) d_LP_book_86 w3_9 t0 (fun tt15 => ?_)
      refine gt_407 (pc := 89) d_LP_book_89 w2_144 tt15 (fun tt16 => ?_)
      refine aw_iload_n (pc := 92) d_LP_book_92 rfl 1 rfl ?_
      refine aw_iaload (pc := 93) d_LP_book_93 tt16 (fun c17 => ?_)
      refine aw_cVrI (pc := 94) (ci := 11) (T := TX11) (N := 18) (As := [.int (hAi h (hGr h 407 (hGr h 1109 l0)) (Int32.toNatClampNeg l1))]) (st := []) (ok_LP_give Y l0 (hAi h (hGr h 407 (hGr h 1109 l0)) (Int32.toNatClampNeg l1)) h t0) okV_LP_give rfl (by decide) t0 w4_88 d_LP_book_94 rfl (Nat.le_of_ble_eq_true rfl) rfl (Nat.le_of_ble_eq_true rfl) (fun q18 hq18 hTq18 => ?_)
      exact aw_ireturn (pc := 97) d_LP_book_97 rfl rfl
    refine aw_cases (fun c19 => ?_) (fun c19 => ?_)
    · refine aw_tbl (pc := 18) (tgt := 98) (off := 80) d_LP_book_18 (by rw [c19]; decide) (by rw [c19]; decide) (by rw [c19]; rfl) (by decide) ?_
      refine aw_aload_n (pc := 98) d_LP_book_98 rfl 0 rfl ?_
      refine aw_aload_n (pc := 99) d_LP_book_99 rfl 0 rfl ?_
      refine gt_1109 (pc := 100) d_LP_book_100 w3_9 t0 (fun tt20 => ?_)
      refine aw_iload_n (pc := 103) d_LP_book_103 rfl 1 rfl ?_
      refine aw_cVpI (pc := 104) (ci := 4) (T := TX4) (N := 19) (As := [.int l1]) (st := [.ref l0]) (ok_Sh_placeOf Y (hGr h 1109 l0) l1 h tt20) okV_Sh_placeOf rfl (by decide) tt20 w4_200 d_LP_book_104 rfl (Nat.le_of_ble_eq_true rfl) rfl (Nat.le_of_ble_eq_true rfl) (fun q21 hq21 hTq21 => ?_)
      refine aw_cVrI (pc := 107) (ci := 11) (T := TX11) (N := 18) (As := [.int q21]) (st := []) (ok_LP_giveIfAny Y l0 q21 h t0) okV_LP_giveIfAny rfl (by decide) t0 w4_183 d_LP_book_107 rfl (Nat.le_of_ble_eq_true rfl) rfl (Nat.le_of_ble_eq_true rfl) (fun q22 hq22 hTq22 => ?_)
      exact aw_ireturn (pc := 110) d_LP_book_110 rfl rfl
    refine aw_cases (fun c23 => ?_) (fun c23 => ?_)
    · refine aw_tbl (pc := 18) (tgt := 111) (off := 93) d_LP_book_18 (by rw [c23]; decide) (by rw [c23]; decide) (by rw [c23]; rfl) (by decide) ?_
      refine aw_aload_n (pc := 111) d_LP_book_111 rfl 0 rfl ?_
      refine aw_aload_n (pc := 112) d_LP_book_112 rfl 0 rfl ?_
      refine gt_1109 (pc := 113) d_LP_book_113 w3_9 t0 (fun tt24 => ?_)
      refine aw_iload_n (pc := 116) d_LP_book_116 rfl 1 rfl ?_
      refine aw_cVpI (pc := 117) (ci := 4) (T := TX4) (N := 19) (As := [.int l1]) (st := [.ref l0]) (ok_Sh_breakOf Y (hGr h 1109 l0) l1 h tt24) okV_Sh_breakOf rfl (by decide) tt24 w4_206 d_LP_book_117 rfl (Nat.le_of_ble_eq_true rfl) rfl (Nat.le_of_ble_eq_true rfl) (fun q25 hq25 hTq25 => ?_)
      refine aw_cVrI (pc := 120) (ci := 11) (T := TX11) (N := 18) (As := [.int q25]) (st := []) (ok_LP_giveIfAny Y l0 q25 h t0) okV_LP_giveIfAny rfl (by decide) t0 w4_183 d_LP_book_120 rfl (Nat.le_of_ble_eq_true rfl) rfl (Nat.le_of_ble_eq_true rfl) (fun q26 hq26 hTq26 => ?_)
      exact aw_ireturn (pc := 123) d_LP_book_123 rfl rfl
    refine aw_cases (fun c27 => ?_) (fun c27 => ?_)
    · refine aw_tbl (pc := 18) (tgt := 124) (off := 106) d_LP_book_18 (by rw [c27]; decide) (by rw [c27]; decide) (by rw [c27]; rfl) (by decide) ?_
      refine aw_aload_n (pc := 124) d_LP_book_124 rfl 0 rfl ?_
      refine aw_aload_n (pc := 125) d_LP_book_125 rfl 0 rfl ?_
      refine gt_1109 (pc := 126) d_LP_book_126 w3_9 t0 (fun tt28 => ?_)
      refine gt_410 (pc := 129) d_LP_book_129 w2_150 tt28 (fun tt29 => ?_)
      refine aw_iload_n (pc := 132) d_LP_book_132 rfl 1 rfl ?_
      refine aw_iaload (pc := 133) d_LP_book_133 tt29 (fun c30 => ?_)
      refine aw_cVrI (pc := 134) (ci := 11) (T := TX11) (N := 18) (As := [.int (hAi h (hGr h 410 (hGr h 1109 l0)) (Int32.toNatClampNeg l1))]) (st := []) (ok_LP_giveIfAny Y l0 (hAi h (hGr h 410 (hGr h 1109 l0)) (Int32.toNatClampNeg l1)) h t0) okV_LP_giveIfAny rfl (by decide) t0 w4_183 d_LP_book_134 rfl (Nat.le_of_ble_eq_true rfl) rfl (Nat.le_of_ble_eq_true rfl) (fun q31 hq31 hTq31 => ?_)
      exact aw_ireturn (pc := 137) d_LP_book_137 rfl rfl
    refine aw_tblX (pc := 18) (tgt := 138) d_LP_book_18 (by intro k hk; match k, hk with | 0, _ => exact Or.inr (fun q => c4 (q.trans (by decide))) | 1, _ => exact Or.inr (fun q => c9 (q.trans (by decide))) | 2, _ => exact Or.inr (fun q => c14 (q.trans (by decide))) | 3, _ => exact Or.inr (fun q => c19 (q.trans (by decide))) | 4, _ => exact Or.inr (fun q => c23 (q.trans (by decide))) | 5, _ => exact Or.inr (fun q => c27 (q.trans (by decide))) | k + 6, hk => exact absurd hk (by show ¬ (k + 6 < 6); omega)) rfl (by decide) ?_
    refine aw_aload_n (pc := 138) d_LP_book_138 rfl 0 rfl ?_
    refine aw_iconst (pc := 139) (x := 5) d_LP_book_139 (by decide) ?_
    refine aw_cVrI (pc := 140) (ci := 11) (T := TX11) (N := 18) (As := [.int 5]) (st := []) (ok_LP_fail Y l0 5 h t0) okV_LP_fail rfl (by decide) t0 w3_114 d_LP_book_140 rfl (Nat.le_of_ble_eq_true rfl) rfl (Nat.le_of_ble_eq_true rfl) (fun q32 hq32 hTq32 => ?_)
    exact aw_ireturn (pc := 143) d_LP_book_143 rfl rfl
  · refine aw_aload_n (pc := 11) d_LP_book_11 rfl 0 rfl ?_
    refine aw_iconst (pc := 12) (x := 2) d_LP_book_12 (by decide) ?_
    refine aw_cVrI (pc := 13) (ci := 11) (T := TX11) (N := 18) (As := [.int 2]) (st := []) (ok_LP_fail Y l0 2 h t0) okV_LP_fail rfl (by decide) t0 w3_114 d_LP_book_13 rfl (Nat.le_of_ble_eq_true rfl) rfl (Nat.le_of_ble_eq_true rfl) (fun q33 hq33 hTq33 => ?_)
    exact aw_ireturn (pc := 16) d_LP_book_16 rfl rfl
/-! LastPages.booksOf(I)I -/
theorem d_LP_booksOf_0 : decode prog_1_method_39_code 0 = .ok (.aload_n 0, 1) := by decide +kernel
theorem d_LP_booksOf_1 : decode prog_1_method_39_code 1 = .ok (.getfield 68, 3) := by decide +kernel
theorem d_LP_booksOf_4 : decode prog_1_method_39_code 4 = .ok (.getfield 193, 3) := by decide +kernel
theorem d_LP_booksOf_7 : decode prog_1_method_39_code 7 = .ok (.iload_n 1, 1) := by decide +kernel
theorem d_LP_booksOf_8 : decode prog_1_method_39_code 8 = .ok (.invokevirtual 279, 3) := by decide +kernel
theorem d_LP_booksOf_11 : decode prog_1_method_39_code 11 = .ok (.ifCond .ne 9, 3) := by decide +kernel
theorem d_LP_booksOf_14 : decode prog_1_method_39_code 14 = .ok (.aload_n 0, 1) := by decide +kernel
theorem d_LP_booksOf_15 : decode prog_1_method_39_code 15 = .ok (.iconst 2, 1) := by decide +kernel
theorem d_LP_booksOf_16 : decode prog_1_method_39_code 16 = .ok (.invokevirtual 133, 3) := by decide +kernel
theorem d_LP_booksOf_19 : decode prog_1_method_39_code 19 = .ok (.ireturn, 1) := by decide +kernel
theorem d_LP_booksOf_20 : decode prog_1_method_39_code 20 = .ok (.aload_n 0, 1) := by decide +kernel
theorem d_LP_booksOf_21 : decode prog_1_method_39_code 21 = .ok (.getfield 52, 3) := by decide +kernel
theorem d_LP_booksOf_24 : decode prog_1_method_39_code 24 = .ok (.aload_n 0, 1) := by decide +kernel
theorem d_LP_booksOf_25 : decode prog_1_method_39_code 25 = .ok (.getfield 68, 3) := by decide +kernel
theorem d_LP_booksOf_28 : decode prog_1_method_39_code 28 = .ok (.aload_n 0, 1) := by decide +kernel
theorem d_LP_booksOf_29 : decode prog_1_method_39_code 29 = .ok (.getfield 45, 3) := by decide +kernel
theorem d_LP_booksOf_32 : decode prog_1_method_39_code 32 = .ok (.invokevirtual 364, 3) := by decide +kernel
theorem d_LP_booksOf_35 : decode prog_1_method_39_code 35 = .ok (.aload_n 0, 1) := by decide +kernel
theorem d_LP_booksOf_36 : decode prog_1_method_39_code 36 = .ok (.aload_n 0, 1) := by decide +kernel
theorem d_LP_booksOf_37 : decode prog_1_method_39_code 37 = .ok (.getfield 52, 3) := by decide +kernel
theorem d_LP_booksOf_40 : decode prog_1_method_39_code 40 = .ok (.iload_n 1, 1) := by decide +kernel
theorem d_LP_booksOf_41 : decode prog_1_method_39_code 41 = .ok (.invokevirtual 367, 3) := by decide +kernel
theorem d_LP_booksOf_44 : decode prog_1_method_39_code 44 = .ok (.invokevirtual 180, 3) := by decide +kernel
theorem d_LP_booksOf_47 : decode prog_1_method_39_code 47 = .ok (.ireturn, 1) := by decide +kernel
def LP_booksOf (Y : Ly) (l0 : Nat) (l1 : Int32) (h : Hp) : Option (Int32 × Hp) :=
  (St_hasFinale Y (hGr h 400 (hGr h 1109 l0)) l1 h).bind fun q3 =>
  if q3 = true then
    (Fi_lookAt Y (hGr h 1106 l0) (hGr h 1109 l0) (hGr h 1105 l0) h).bind fun q8 =>
    (Fi_booksFor Y (hGr q8 1106 l0) l1 q8).bind fun q10 =>
    (LP_give Y l0 q10 q8).bind fun q11 =>
    some (q11.1, q11.2)
  else
    (LP_fail Y l0 2 h).bind fun q12 =>
    some (q12.1, q12.2)
theorem ok_LP_booksOf (Y : Ly) (l0 : Nat) (l1 : Int32) (h : Hp) (t0 : isO Y 11 l0) : AM Y 5 K_LP_booksOf [.ref l0, .int l1] h (LP_booksOf Y l0 l1 h) rI := by
  refine AM.of rfl (Nat.le_of_ble_eq_true rfl) ?_
  show AW Y 5 K_LP_booksOf 0 [(0, .ref l0), (1, .int l1)] [] h (LP_booksOf Y l0 l1 h) rI
  unfold LP_booksOf
  refine aw_aload_n (pc := 0) d_LP_booksOf_0 rfl 0 rfl ?_
  refine gt_1109 (pc := 1) d_LP_booksOf_1 w3_9 t0 (fun tt1 => ?_)
  refine gt_400 (pc := 4) d_LP_booksOf_4 w2_129 tt1 (fun tt2 => ?_)
  refine aw_iload_n (pc := 7) d_LP_booksOf_7 rfl 1 rfl ?_
  refine aw_cVpZ (pc := 8) (ci := 6) (T := TX6) (N := 8) (As := [.int l1]) (st := []) (ok_St_hasFinale Y (hGr h 400 (hGr h 1109 l0)) l1 h tt2) okV_St_hasFinale rfl (by decide) tt2 w4_222 d_LP_booksOf_8 rfl (Nat.le_of_ble_eq_true rfl) rfl (Nat.le_of_ble_eq_true rfl) (fun q3 hq3 hTq3 => ?_)
  refine aw_bne (pc := 11) (tgt := 20) d_LP_booksOf_11 (by decide) (fun c4 => ?_) (fun c4 => ?_)
  · refine aw_aload_n (pc := 20) d_LP_booksOf_20 rfl 0 rfl ?_
    refine gt_1106 (pc := 21) d_LP_booksOf_21 w3_6 t0 (fun tt5 => ?_)
    refine aw_aload_n (pc := 24) d_LP_booksOf_24 rfl 0 rfl ?_
    refine gt_1109 (pc := 25) d_LP_booksOf_25 w3_9 t0 (fun tt6 => ?_)
    refine aw_aload_n (pc := 28) d_LP_booksOf_28 rfl 0 rfl ?_
    refine gt_1105 (pc := 29) d_LP_booksOf_29 w3_5 t0 (fun tt7 => ?_)
    refine aw_cVrV (pc := 32) (ci := 1) (T := TX1) (N := 4) (As := [.ref (hGr h 1109 l0), .ref (hGr h 1105 l0)]) (st := []) (ok_Fi_lookAt Y (hGr h 1106 l0) (hGr h 1109 l0) (hGr h 1105 l0) h tt5 tt6 tt7) okV_Fi_lookAt rfl (by decide) tt5 w5_202 d_LP_booksOf_32 rfl (Nat.le_of_ble_eq_true rfl) rfl (Nat.le_of_ble_eq_true rfl) (fun q8 hq8 hTq8 => ?_)
    refine aw_aload_n (pc := 35) d_LP_booksOf_35 rfl 0 rfl ?_
    refine aw_aload_n (pc := 36) d_LP_booksOf_36 rfl 0 rfl ?_
    refine gt_1106 (pc := 37) d_LP_booksOf_37 w3_6 t0 (fun tt9 => ?_)
    refine aw_iload_n (pc := 40) d_LP_booksOf_40 rfl 1 rfl ?_
    refine aw_cVpI (pc := 41) (ci := 1) (T := TX1) (N := 4) (As := [.int l1]) (st := [.ref l0]) (ok_Fi_booksFor Y (hGr q8 1106 l0) l1 q8 tt9) okV_Fi_booksFor rfl (by decide) tt9 w5_208 d_LP_booksOf_41 rfl (Nat.le_of_ble_eq_true rfl) rfl (Nat.le_of_ble_eq_true rfl) (fun q10 hq10 hTq10 => ?_)
    refine aw_cVrI (pc := 44) (ci := 11) (T := TX11) (N := 18) (As := [.int q10]) (st := []) (ok_LP_give Y l0 q10 q8 t0) okV_LP_give rfl (by decide) t0 w4_88 d_LP_booksOf_44 rfl (Nat.le_of_ble_eq_true rfl) rfl (Nat.le_of_ble_eq_true rfl) (fun q11 hq11 hTq11 => ?_)
    exact aw_ireturn (pc := 47) d_LP_booksOf_47 rfl rfl
  · refine aw_aload_n (pc := 14) d_LP_booksOf_14 rfl 0 rfl ?_
    refine aw_iconst (pc := 15) (x := 2) d_LP_booksOf_15 (by decide) ?_
    refine aw_cVrI (pc := 16) (ci := 11) (T := TX11) (N := 18) (As := [.int 2]) (st := []) (ok_LP_fail Y l0 2 h t0) okV_LP_fail rfl (by decide) t0 w3_114 d_LP_booksOf_16 rfl (Nat.le_of_ble_eq_true rfl) rfl (Nat.le_of_ble_eq_true rfl) (fun q12 hq12 hTq12 => ?_)
    exact aw_ireturn (pc := 19) d_LP_booksOf_19 rfl rfl
/-! LastPages.bottom()J -/
theorem d_LP_bottom_0 : decode prog_1_method_4_code 0 = .ok (.aload_n 0, 1) := by decide +kernel
theorem d_LP_bottom_1 : decode prog_1_method_4_code 1 = .ok (.getfield 90, 3) := by decide +kernel
theorem d_LP_bottom_4 : decode prog_1_method_4_code 4 = .ok (.lreturn, 1) := by decide +kernel
def LP_bottom (Y : Ly) (l0 : Nat) (h : Hp) : Option Int64 :=
  some (hGl h 1114 l0)
theorem ok_LP_bottom (Y : Ly) (l0 : Nat) (h : Hp) (t0 : isO Y 11 l0) : AM Y 0 K_LP_bottom [.ref l0] h (LP_bottom Y l0 h) (pL h) := by
  refine AM.of rfl (Nat.le_of_ble_eq_true rfl) ?_
  show AW Y 0 K_LP_bottom 0 [(0, .ref l0)] [] h (LP_bottom Y l0 h) (pL h)
  unfold LP_bottom
  refine aw_aload_n (pc := 0) d_LP_bottom_0 rfl 0 rfl ?_
  refine gt_1114 (pc := 1) d_LP_bottom_1 w3_14 t0 ?_
  exact aw_lreturn (pc := 4) d_LP_bottom_4 rfl rfl
/-! LastPages$Lot.costOfSet(I)I -/
theorem d_Lo_costOfSet_0 : decode prog_5_method_6_code 0 = .ok (.iconst 0, 1) := by decide +kernel
theorem d_Lo_costOfSet_1 : decode prog_5_method_6_code 1 = .ok (.istore_n 2, 1) := by decide +kernel
theorem d_Lo_costOfSet_2 : decode prog_5_method_6_code 2 = .ok (.iconst 0, 1) := by decide +kernel
theorem d_Lo_costOfSet_3 : decode prog_5_method_6_code 3 = .ok (.istore_n 3, 1) := by decide +kernel
theorem d_Lo_costOfSet_4 : decode prog_5_method_6_code 4 = .ok (.iload_n 3, 1) := by decide +kernel
theorem d_Lo_costOfSet_5 : decode prog_5_method_6_code 5 = .ok (.aload_n 0, 1) := by decide +kernel
theorem d_Lo_costOfSet_6 : decode prog_5_method_6_code 6 = .ok (.getfield 7, 3) := by decide +kernel
theorem d_Lo_costOfSet_9 : decode prog_5_method_6_code 9 = .ok (.if_icmp .ge 30, 3) := by decide +kernel
theorem d_Lo_costOfSet_12 : decode prog_5_method_6_code 12 = .ok (.iload_n 2, 1) := by decide +kernel
theorem d_Lo_costOfSet_13 : decode prog_5_method_6_code 13 = .ok (.iload_n 1, 1) := by decide +kernel
theorem d_Lo_costOfSet_14 : decode prog_5_method_6_code 14 = .ok (.iload_n 3, 1) := by decide +kernel
theorem d_Lo_costOfSet_15 : decode prog_5_method_6_code 15 = .ok (.invokestatic 33, 3) := by decide +kernel
theorem d_Lo_costOfSet_18 : decode prog_5_method_6_code 18 = .ok (.ifCond .eq 12, 3) := by decide +kernel
theorem d_Lo_costOfSet_21 : decode prog_5_method_6_code 21 = .ok (.aload_n 0, 1) := by decide +kernel
theorem d_Lo_costOfSet_22 : decode prog_5_method_6_code 22 = .ok (.getfield 19, 3) := by decide +kernel
theorem d_Lo_costOfSet_25 : decode prog_5_method_6_code 25 = .ok (.iload_n 3, 1) := by decide +kernel
theorem d_Lo_costOfSet_26 : decode prog_5_method_6_code 26 = .ok (.iaload, 1) := by decide +kernel
theorem d_Lo_costOfSet_27 : decode prog_5_method_6_code 27 = .ok (.goto 4, 3) := by decide +kernel
theorem d_Lo_costOfSet_30 : decode prog_5_method_6_code 30 = .ok (.iconst 0, 1) := by decide +kernel
theorem d_Lo_costOfSet_31 : decode prog_5_method_6_code 31 = .ok (.iadd, 1) := by decide +kernel
theorem d_Lo_costOfSet_32 : decode prog_5_method_6_code 32 = .ok (.istore_n 2, 1) := by decide +kernel
theorem d_Lo_costOfSet_33 : decode prog_5_method_6_code 33 = .ok (.iinc 3 1, 3) := by decide +kernel
theorem d_Lo_costOfSet_36 : decode prog_5_method_6_code 36 = .ok (.goto (-32), 3) := by decide +kernel
theorem d_Lo_costOfSet_39 : decode prog_5_method_6_code 39 = .ok (.iload_n 2, 1) := by decide +kernel
theorem d_Lo_costOfSet_40 : decode prog_5_method_6_code 40 = .ok (.ireturn, 1) := by decide +kernel
def Lo_costOfSet_L4 (Y : Ly) (l0 : Nat) (l1 : Int32) (h : Hp) : Nat → Int32 → Int32 → Option Int32
  | 0, _, _ => none
  | F + 1, l2, l3 =>
    if (hGi h 302 l0) ≤ l3 then
      some l2
    else
      (LP_has Y l1 l3 h).bind fun q2 =>
      if q2 = true then
        if inB l3 (lnY Y (hGr h 300 l0)) = true then
          Lo_costOfSet_L4 Y l0 l1 h F (l2 + (hAi h (hGr h 300 l0) (Int32.toNatClampNeg l3))) (l3 + 1)
        else none
      else
        Lo_costOfSet_L4 Y l0 l1 h F (l2 + 0) (l3 + 1)
theorem Lo_costOfSet_L4_ok (Y : Ly) (l0 : Nat) (l1 : Int32) (h : Hp) (tl0 : isO Y 3 l0) : ∀ (F : Nat) (l2 : Int32) (l3 : Int32), AW Y 1 K_Lo_costOfSet 4 [(0, .ref l0), (1, .int l1), (2, .int l2), (3, .int l3)] [] h (Lo_costOfSet_L4 Y l0 l1 h F l2 l3) (pI h) := by
  intro F
  induction F with
  | zero =>
    intro l2 l3
    exact aw_none
  | succ F ih =>
    intro l2 l3
    unfold Lo_costOfSet_L4
    refine aw_iload_n (pc := 4) d_Lo_costOfSet_4 rfl 3 rfl ?_
    refine aw_aload_n (pc := 5) d_Lo_costOfSet_5 rfl 0 rfl ?_
    refine gt_302 (pc := 6) d_Lo_costOfSet_6 w2_72 tl0 ?_
    refine aw_icmp_ge (pc := 9) (tgt := 39) d_Lo_costOfSet_9 (by decide) (fun c1 => ?_) (fun c1 => ?_)
    · refine aw_iload_n (pc := 39) d_Lo_costOfSet_39 rfl 2 rfl ?_
      exact aw_ireturn (pc := 40) d_Lo_costOfSet_40 rfl rfl
    · refine aw_iload_n (pc := 12) d_Lo_costOfSet_12 rfl 2 rfl ?_
      refine aw_iload_n (pc := 13) d_Lo_costOfSet_13 rfl 1 rfl ?_
      refine aw_iload_n (pc := 14) d_Lo_costOfSet_14 rfl 3 rfl ?_
      refine aw_cNpZ (pc := 15) (As := [.int l1, .int l3]) (st := [.int l2]) (ok_LP_has Y l1 l3 h) okS_LP_has (List.mem_of_getElem? (i := 17) rfl) d_Lo_costOfSet_15 rfl (Nat.le_of_ble_eq_true rfl) rfl (Nat.le_of_ble_eq_true rfl) (fun q2 hq2 hTq2 => ?_)
      refine aw_beq (pc := 18) (tgt := 30) d_Lo_costOfSet_18 (by decide) (fun c3 => ?_) (fun c3 => ?_)
      · refine aw_aload_n (pc := 21) d_Lo_costOfSet_21 rfl 0 rfl ?_
        refine gt_300 (pc := 22) d_Lo_costOfSet_22 w2_68 tl0 (fun tt4 => ?_)
        refine aw_iload_n (pc := 25) d_Lo_costOfSet_25 rfl 3 rfl ?_
        refine aw_iaload (pc := 26) d_Lo_costOfSet_26 tt4 (fun c5 => ?_)
        refine aw_goto (pc := 27) (tgt := 31) d_Lo_costOfSet_27 (by decide) ?_
        refine aw_iadd (pc := 31) d_Lo_costOfSet_31 ?_
        refine aw_istore_n (pc := 32) (lv' := [(2, .int (l2 + (hAi h (hGr h 300 l0) (Int32.toNatClampNeg l3)))), (0, .ref l0), (1, .int l1), (3, .int l3)]) d_Lo_costOfSet_32 rfl (by decide) rfl ?_
        refine aw_iinc (pc := 33) (w := l3 + 1) (lv' := [(3, .int (l3 + 1)), (2, .int (l2 + (hAi h (hGr h 300 l0) (Int32.toNatClampNeg l3)))), (0, .ref l0), (1, .int l1)]) d_Lo_costOfSet_33 3 rfl rfl (by decide) rfl ?_
        refine aw_goto (pc := 36) (tgt := 4) d_Lo_costOfSet_36 (by decide) ?_
        exact aw_lv [2, 3, 1, 0] rfl (ih (l2 + (hAi h (hGr h 300 l0) (Int32.toNatClampNeg l3))) (l3 + 1))
      · refine aw_iconst (pc := 30) (x := 0) d_Lo_costOfSet_30 (by decide) ?_
        refine aw_iadd (pc := 31) d_Lo_costOfSet_31 ?_
        refine aw_istore_n (pc := 32) (lv' := [(2, .int (l2 + 0)), (0, .ref l0), (1, .int l1), (3, .int l3)]) d_Lo_costOfSet_32 rfl (by decide) rfl ?_
        refine aw_iinc (pc := 33) (w := l3 + 1) (lv' := [(3, .int (l3 + 1)), (2, .int (l2 + 0)), (0, .ref l0), (1, .int l1)]) d_Lo_costOfSet_33 3 rfl rfl (by decide) rfl ?_
        refine aw_goto (pc := 36) (tgt := 4) d_Lo_costOfSet_36 (by decide) ?_
        exact aw_lv [2, 3, 1, 0] rfl (ih (l2 + 0) (l3 + 1))
def Lo_costOfSet (Y : Ly) (l0 : Nat) (l1 : Int32) (h : Hp) : Option Int32 :=
  Lo_costOfSet_L4 Y l0 l1 h FU 0 0
theorem ok_Lo_costOfSet (Y : Ly) (l0 : Nat) (l1 : Int32) (h : Hp) (t0 : isO Y 3 l0) : AM Y 1 K_Lo_costOfSet [.ref l0, .int l1] h (Lo_costOfSet Y l0 l1 h) (pI h) := by
  refine AM.of rfl (Nat.le_of_ble_eq_true rfl) ?_
  show AW Y 1 K_Lo_costOfSet 0 [(0, .ref l0), (1, .int l1)] [] h (Lo_costOfSet Y l0 l1 h) (pI h)
  unfold Lo_costOfSet
  refine aw_iconst (pc := 0) (x := 0) d_Lo_costOfSet_0 (by decide) ?_
  refine aw_istore_n (pc := 1) (lv' := [(2, .int 0), (0, .ref l0), (1, .int l1)]) d_Lo_costOfSet_1 rfl (by decide) rfl ?_
  refine aw_iconst (pc := 2) (x := 0) d_Lo_costOfSet_2 (by decide) ?_
  refine aw_istore_n (pc := 3) (lv' := [(3, .int 0), (2, .int 0), (0, .ref l0), (1, .int l1)]) d_Lo_costOfSet_3 rfl (by decide) rfl ?_
  exact aw_lv [2, 3, 1, 0] rfl (Lo_costOfSet_L4_ok Y l0 l1 h t0 FU 0 0)
/-! LastPages$Lot.isCheaper(II)Z -/
theorem d_Lo_isCheaper_0 : decode prog_5_method_9_code 0 = .ok (.aload_n 0, 1) := by decide +kernel
theorem d_Lo_isCheaper_1 : decode prog_5_method_9_code 1 = .ok (.iload_n 1, 1) := by decide +kernel
theorem d_Lo_isCheaper_2 : decode prog_5_method_9_code 2 = .ok (.invokevirtual 39, 3) := by decide +kernel
theorem d_Lo_isCheaper_5 : decode prog_5_method_9_code 5 = .ok (.aload_n 0, 1) := by decide +kernel
theorem d_Lo_isCheaper_6 : decode prog_5_method_9_code 6 = .ok (.iload_n 2, 1) := by decide +kernel
theorem d_Lo_isCheaper_7 : decode prog_5_method_9_code 7 = .ok (.invokevirtual 39, 3) := by decide +kernel
theorem d_Lo_isCheaper_10 : decode prog_5_method_9_code 10 = .ok (.isub, 1) := by decide +kernel
theorem d_Lo_isCheaper_11 : decode prog_5_method_9_code 11 = .ok (.istore_n 3, 1) := by decide +kernel
theorem d_Lo_isCheaper_12 : decode prog_5_method_9_code 12 = .ok (.iload_n 3, 1) := by decide +kernel
theorem d_Lo_isCheaper_13 : decode prog_5_method_9_code 13 = .ok (.ifCond .lt 15, 3) := by decide +kernel
theorem d_Lo_isCheaper_16 : decode prog_5_method_9_code 16 = .ok (.iload_n 3, 1) := by decide +kernel
theorem d_Lo_isCheaper_17 : decode prog_5_method_9_code 17 = .ok (.ifCond .ne 15, 3) := by decide +kernel
theorem d_Lo_isCheaper_20 : decode prog_5_method_9_code 20 = .ok (.iload_n 1, 1) := by decide +kernel
theorem d_Lo_isCheaper_21 : decode prog_5_method_9_code 21 = .ok (.iload_n 2, 1) := by decide +kernel
theorem d_Lo_isCheaper_22 : decode prog_5_method_9_code 22 = .ok (.invokestatic 43, 3) := by decide +kernel
theorem d_Lo_isCheaper_25 : decode prog_5_method_9_code 25 = .ok (.ifCond .eq 7, 3) := by decide +kernel
theorem d_Lo_isCheaper_28 : decode prog_5_method_9_code 28 = .ok (.iconst 1, 1) := by decide +kernel
theorem d_Lo_isCheaper_29 : decode prog_5_method_9_code 29 = .ok (.goto 4, 3) := by decide +kernel
theorem d_Lo_isCheaper_32 : decode prog_5_method_9_code 32 = .ok (.iconst 0, 1) := by decide +kernel
theorem d_Lo_isCheaper_33 : decode prog_5_method_9_code 33 = .ok (.ireturn, 1) := by decide +kernel
def Lo_isCheaper (Y : Ly) (l0 : Nat) (l1 : Int32) (l2 : Int32) (h : Hp) : Option Bool :=
  (Lo_costOfSet Y l0 l1 h).bind fun q1 =>
  (Lo_costOfSet Y l0 l2 h).bind fun q2 =>
  if (q1 - q2) < 0 then
    some true
  else
    if (q1 - q2) = 0 then
      (LP_isFewer Y l1 l2 h).bind fun q5 =>
      if q5 = true then
        some true
      else
        some false
    else
      some false
theorem ok_Lo_isCheaper (Y : Ly) (l0 : Nat) (l1 : Int32) (l2 : Int32) (h : Hp) (t0 : isO Y 3 l0) : AM Y 2 K_Lo_isCheaper [.ref l0, .int l1, .int l2] h (Lo_isCheaper Y l0 l1 l2 h) (pZ h) := by
  refine AM.of rfl (Nat.le_of_ble_eq_true rfl) ?_
  show AW Y 2 K_Lo_isCheaper 0 [(0, .ref l0), (1, .int l1), (2, .int l2)] [] h (Lo_isCheaper Y l0 l1 l2 h) (pZ h)
  unfold Lo_isCheaper
  refine aw_aload_n (pc := 0) d_Lo_isCheaper_0 rfl 0 rfl ?_
  refine aw_iload_n (pc := 1) d_Lo_isCheaper_1 rfl 1 rfl ?_
  refine aw_cVpI (pc := 2) (ci := 3) (T := TX3) (N := 3) (As := [.int l1]) (st := []) (ok_Lo_costOfSet Y l0 l1 h t0) okV_Lo_costOfSet rfl (by decide) t0 w6_105 d_Lo_isCheaper_2 rfl (Nat.le_of_ble_eq_true rfl) rfl (Nat.le_of_ble_eq_true rfl) (fun q1 hq1 hTq1 => ?_)
  refine aw_aload_n (pc := 5) d_Lo_isCheaper_5 rfl 0 rfl ?_
  refine aw_iload_n (pc := 6) d_Lo_isCheaper_6 rfl 2 rfl ?_
  refine aw_cVpI (pc := 7) (ci := 3) (T := TX3) (N := 3) (As := [.int l2]) (st := [.int q1]) (ok_Lo_costOfSet Y l0 l2 h t0) okV_Lo_costOfSet rfl (by decide) t0 w6_105 d_Lo_isCheaper_7 rfl (Nat.le_of_ble_eq_true rfl) rfl (Nat.le_of_ble_eq_true rfl) (fun q2 hq2 hTq2 => ?_)
  refine aw_isub (pc := 10) d_Lo_isCheaper_10 ?_
  refine aw_istore_n (pc := 11) (lv' := [(3, .int (q1 - q2)), (0, .ref l0), (1, .int l1), (2, .int l2)]) d_Lo_isCheaper_11 rfl (by decide) rfl ?_
  refine aw_iload_n (pc := 12) d_Lo_isCheaper_12 rfl 0 rfl ?_
  refine aw_if_lt (pc := 13) (tgt := 28) d_Lo_isCheaper_13 (by decide) (fun c3 => ?_) (fun c3 => ?_)
  · refine aw_iconst (pc := 28) (x := 1) d_Lo_isCheaper_28 (by decide) ?_
    refine aw_goto (pc := 29) (tgt := 33) d_Lo_isCheaper_29 (by decide) ?_
    exact aw_zreturn (pc := 33) (b := true) d_Lo_isCheaper_33 rfl rfl
  · refine aw_iload_n (pc := 16) d_Lo_isCheaper_16 rfl 0 rfl ?_
    refine aw_if_ne (pc := 17) (tgt := 32) d_Lo_isCheaper_17 (by decide) (fun c4 => ?_) (fun c4 => ?_)
    · refine aw_iload_n (pc := 20) d_Lo_isCheaper_20 rfl 2 rfl ?_
      refine aw_iload_n (pc := 21) d_Lo_isCheaper_21 rfl 3 rfl ?_
      refine aw_cNpZ (pc := 22) (As := [.int l1, .int l2]) (st := []) (ok_LP_isFewer Y l1 l2 h) okS_LP_isFewer (List.mem_of_getElem? (i := 18) rfl) d_Lo_isCheaper_22 rfl (Nat.le_of_ble_eq_true rfl) rfl (Nat.le_of_ble_eq_true rfl) (fun q5 hq5 hTq5 => ?_)
      refine aw_beq (pc := 25) (tgt := 32) d_Lo_isCheaper_25 (by decide) (fun c6 => ?_) (fun c6 => ?_)
      · refine aw_iconst (pc := 28) (x := 1) d_Lo_isCheaper_28 (by decide) ?_
        refine aw_goto (pc := 29) (tgt := 33) d_Lo_isCheaper_29 (by decide) ?_
        exact aw_zreturn (pc := 33) (b := true) d_Lo_isCheaper_33 rfl rfl
      · refine aw_iconst (pc := 32) (x := 0) d_Lo_isCheaper_32 (by decide) ?_
        exact aw_zreturn (pc := 33) (b := false) d_Lo_isCheaper_33 rfl rfl
    · refine aw_iconst (pc := 32) (x := 0) d_Lo_isCheaper_32 (by decide) ?_
      exact aw_zreturn (pc := 33) (b := false) d_Lo_isCheaper_33 rfl rfl
/-! LastPages$Lot.booksOfSet(I)I -/
theorem d_Lo_booksOfSet_0 : decode prog_5_method_7_code 0 = .ok (.iconst 0, 1) := by decide +kernel
theorem d_Lo_booksOfSet_1 : decode prog_5_method_7_code 1 = .ok (.istore_n 2, 1) := by decide +kernel
theorem d_Lo_booksOfSet_2 : decode prog_5_method_7_code 2 = .ok (.iconst 0, 1) := by decide +kernel
theorem d_Lo_booksOfSet_3 : decode prog_5_method_7_code 3 = .ok (.istore_n 3, 1) := by decide +kernel
theorem d_Lo_booksOfSet_4 : decode prog_5_method_7_code 4 = .ok (.iload_n 3, 1) := by decide +kernel
theorem d_Lo_booksOfSet_5 : decode prog_5_method_7_code 5 = .ok (.aload_n 0, 1) := by decide +kernel
theorem d_Lo_booksOfSet_6 : decode prog_5_method_7_code 6 = .ok (.getfield 7, 3) := by decide +kernel
theorem d_Lo_booksOfSet_9 : decode prog_5_method_7_code 9 = .ok (.if_icmp .ge 30, 3) := by decide +kernel
theorem d_Lo_booksOfSet_12 : decode prog_5_method_7_code 12 = .ok (.iload_n 2, 1) := by decide +kernel
theorem d_Lo_booksOfSet_13 : decode prog_5_method_7_code 13 = .ok (.iload_n 1, 1) := by decide +kernel
theorem d_Lo_booksOfSet_14 : decode prog_5_method_7_code 14 = .ok (.iload_n 3, 1) := by decide +kernel
theorem d_Lo_booksOfSet_15 : decode prog_5_method_7_code 15 = .ok (.invokestatic 33, 3) := by decide +kernel
theorem d_Lo_booksOfSet_18 : decode prog_5_method_7_code 18 = .ok (.ifCond .eq 12, 3) := by decide +kernel
theorem d_Lo_booksOfSet_21 : decode prog_5_method_7_code 21 = .ok (.aload_n 0, 1) := by decide +kernel
theorem d_Lo_booksOfSet_22 : decode prog_5_method_7_code 22 = .ok (.getfield 23, 3) := by decide +kernel
theorem d_Lo_booksOfSet_25 : decode prog_5_method_7_code 25 = .ok (.iload_n 3, 1) := by decide +kernel
theorem d_Lo_booksOfSet_26 : decode prog_5_method_7_code 26 = .ok (.iaload, 1) := by decide +kernel
theorem d_Lo_booksOfSet_27 : decode prog_5_method_7_code 27 = .ok (.goto 4, 3) := by decide +kernel
theorem d_Lo_booksOfSet_30 : decode prog_5_method_7_code 30 = .ok (.iconst 0, 1) := by decide +kernel
theorem d_Lo_booksOfSet_31 : decode prog_5_method_7_code 31 = .ok (.ior, 1) := by decide +kernel
theorem d_Lo_booksOfSet_32 : decode prog_5_method_7_code 32 = .ok (.istore_n 2, 1) := by decide +kernel
theorem d_Lo_booksOfSet_33 : decode prog_5_method_7_code 33 = .ok (.iinc 3 1, 3) := by decide +kernel
theorem d_Lo_booksOfSet_36 : decode prog_5_method_7_code 36 = .ok (.goto (-32), 3) := by decide +kernel
theorem d_Lo_booksOfSet_39 : decode prog_5_method_7_code 39 = .ok (.iload_n 2, 1) := by decide +kernel
theorem d_Lo_booksOfSet_40 : decode prog_5_method_7_code 40 = .ok (.ireturn, 1) := by decide +kernel
def Lo_booksOfSet_L4 (Y : Ly) (l0 : Nat) (l1 : Int32) (h : Hp) : Nat → Int32 → Int32 → Option Int32
  | 0, _, _ => none
  | F + 1, l2, l3 =>
    if (hGi h 302 l0) ≤ l3 then
      some l2
    else
      (LP_has Y l1 l3 h).bind fun q2 =>
      if q2 = true then
        if inB l3 (lnY Y (hGr h 301 l0)) = true then
          Lo_booksOfSet_L4 Y l0 l1 h F (l2 ||| (hAi h (hGr h 301 l0) (Int32.toNatClampNeg l3))) (l3 + 1)
        else none
      else
        Lo_booksOfSet_L4 Y l0 l1 h F (l2 ||| 0) (l3 + 1)
theorem Lo_booksOfSet_L4_ok (Y : Ly) (l0 : Nat) (l1 : Int32) (h : Hp) (tl0 : isO Y 3 l0) : ∀ (F : Nat) (l2 : Int32) (l3 : Int32), AW Y 1 K_Lo_booksOfSet 4 [(0, .ref l0), (1, .int l1), (2, .int l2), (3, .int l3)] [] h (Lo_booksOfSet_L4 Y l0 l1 h F l2 l3) (pI h) := by
  intro F
  induction F with
  | zero =>
    intro l2 l3
    exact aw_none
  | succ F ih =>
    intro l2 l3
    unfold Lo_booksOfSet_L4
    refine aw_iload_n (pc := 4) d_Lo_booksOfSet_4 rfl 3 rfl ?_
    refine aw_aload_n (pc := 5) d_Lo_booksOfSet_5 rfl 0 rfl ?_
    refine gt_302 (pc := 6) d_Lo_booksOfSet_6 w2_72 tl0 ?_
    refine aw_icmp_ge (pc := 9) (tgt := 39) d_Lo_booksOfSet_9 (by decide) (fun c1 => ?_) (fun c1 => ?_)
    · refine aw_iload_n (pc := 39) d_Lo_booksOfSet_39 rfl 2 rfl ?_
      exact aw_ireturn (pc := 40) d_Lo_booksOfSet_40 rfl rfl
    · refine aw_iload_n (pc := 12) d_Lo_booksOfSet_12 rfl 2 rfl ?_
      refine aw_iload_n (pc := 13) d_Lo_booksOfSet_13 rfl 1 rfl ?_
      refine aw_iload_n (pc := 14) d_Lo_booksOfSet_14 rfl 3 rfl ?_
      refine aw_cNpZ (pc := 15) (As := [.int l1, .int l3]) (st := [.int l2]) (ok_LP_has Y l1 l3 h) okS_LP_has (List.mem_of_getElem? (i := 17) rfl) d_Lo_booksOfSet_15 rfl (Nat.le_of_ble_eq_true rfl) rfl (Nat.le_of_ble_eq_true rfl) (fun q2 hq2 hTq2 => ?_)
      refine aw_beq (pc := 18) (tgt := 30) d_Lo_booksOfSet_18 (by decide) (fun c3 => ?_) (fun c3 => ?_)
      · refine aw_aload_n (pc := 21) d_Lo_booksOfSet_21 rfl 0 rfl ?_
        refine gt_301 (pc := 22) d_Lo_booksOfSet_22 w2_70 tl0 (fun tt4 => ?_)
        refine aw_iload_n (pc := 25) d_Lo_booksOfSet_25 rfl 3 rfl ?_
        refine aw_iaload (pc := 26) d_Lo_booksOfSet_26 tt4 (fun c5 => ?_)
        refine aw_goto (pc := 27) (tgt := 31) d_Lo_booksOfSet_27 (by decide) ?_
        refine aw_ior (pc := 31) d_Lo_booksOfSet_31 ?_
        refine aw_istore_n (pc := 32) (lv' := [(2, .int (l2 ||| (hAi h (hGr h 301 l0) (Int32.toNatClampNeg l3)))), (0, .ref l0), (1, .int l1), (3, .int l3)]) d_Lo_booksOfSet_32 rfl (by decide) rfl ?_
        refine aw_iinc (pc := 33) (w := l3 + 1) (lv' := [(3, .int (l3 + 1)), (2, .int (l2 ||| (hAi h (hGr h 301 l0) (Int32.toNatClampNeg l3)))), (0, .ref l0), (1, .int l1)]) d_Lo_booksOfSet_33 3 rfl rfl (by decide) rfl ?_
        refine aw_goto (pc := 36) (tgt := 4) d_Lo_booksOfSet_36 (by decide) ?_
        exact aw_lv [2, 3, 1, 0] rfl (ih (l2 ||| (hAi h (hGr h 301 l0) (Int32.toNatClampNeg l3))) (l3 + 1))
      · refine aw_iconst (pc := 30) (x := 0) d_Lo_booksOfSet_30 (by decide) ?_
        refine aw_ior (pc := 31) d_Lo_booksOfSet_31 ?_
        refine aw_istore_n (pc := 32) (lv' := [(2, .int (l2 ||| 0)), (0, .ref l0), (1, .int l1), (3, .int l3)]) d_Lo_booksOfSet_32 rfl (by decide) rfl ?_
        refine aw_iinc (pc := 33) (w := l3 + 1) (lv' := [(3, .int (l3 + 1)), (2, .int (l2 ||| 0)), (0, .ref l0), (1, .int l1)]) d_Lo_booksOfSet_33 3 rfl rfl (by decide) rfl ?_
        refine aw_goto (pc := 36) (tgt := 4) d_Lo_booksOfSet_36 (by decide) ?_
        exact aw_lv [2, 3, 1, 0] rfl (ih (l2 ||| 0) (l3 + 1))
def Lo_booksOfSet (Y : Ly) (l0 : Nat) (l1 : Int32) (h : Hp) : Option Int32 :=
  Lo_booksOfSet_L4 Y l0 l1 h FU 0 0
theorem ok_Lo_booksOfSet (Y : Ly) (l0 : Nat) (l1 : Int32) (h : Hp) (t0 : isO Y 3 l0) : AM Y 1 K_Lo_booksOfSet [.ref l0, .int l1] h (Lo_booksOfSet Y l0 l1 h) (pI h) := by
  refine AM.of rfl (Nat.le_of_ble_eq_true rfl) ?_
  show AW Y 1 K_Lo_booksOfSet 0 [(0, .ref l0), (1, .int l1)] [] h (Lo_booksOfSet Y l0 l1 h) (pI h)
  unfold Lo_booksOfSet
  refine aw_iconst (pc := 0) (x := 0) d_Lo_booksOfSet_0 (by decide) ?_
  refine aw_istore_n (pc := 1) (lv' := [(2, .int 0), (0, .ref l0), (1, .int l1)]) d_Lo_booksOfSet_1 rfl (by decide) rfl ?_
  refine aw_iconst (pc := 2) (x := 0) d_Lo_booksOfSet_2 (by decide) ?_
  refine aw_istore_n (pc := 3) (lv' := [(3, .int 0), (2, .int 0), (0, .ref l0), (1, .int l1)]) d_Lo_booksOfSet_3 rfl (by decide) rfl ?_
  exact aw_lv [2, 3, 1, 0] rfl (Lo_booksOfSet_L4_ok Y l0 l1 h t0 FU 0 0)
/-! LastPages$Shelf.knownBy(I)I -/
theorem d_Sh_knownBy_0 : decode prog_6_method_20_code 0 = .ok (.aload_n 0, 1) := by decide +kernel
theorem d_Sh_knownBy_1 : decode prog_6_method_20_code 1 = .ok (.getfield 23, 3) := by decide +kernel
theorem d_Sh_knownBy_4 : decode prog_6_method_20_code 4 = .ok (.iload_n 1, 1) := by decide +kernel
theorem d_Sh_knownBy_5 : decode prog_6_method_20_code 5 = .ok (.invokevirtual 127, 3) := by decide +kernel
theorem d_Sh_knownBy_8 : decode prog_6_method_20_code 8 = .ok (.istore_n 2, 1) := by decide +kernel
theorem d_Sh_knownBy_9 : decode prog_6_method_20_code 9 = .ok (.iconst 0, 1) := by decide +kernel
theorem d_Sh_knownBy_10 : decode prog_6_method_20_code 10 = .ok (.istore_n 3, 1) := by decide +kernel
theorem d_Sh_knownBy_11 : decode prog_6_method_20_code 11 = .ok (.iload_n 3, 1) := by decide +kernel
theorem d_Sh_knownBy_12 : decode prog_6_method_20_code 12 = .ok (.aload_n 0, 1) := by decide +kernel
theorem d_Sh_knownBy_13 : decode prog_6_method_20_code 13 = .ok (.getfield 73, 3) := by decide +kernel
theorem d_Sh_knownBy_16 : decode prog_6_method_20_code 16 = .ok (.if_icmp .ge 50, 3) := by decide +kernel
theorem d_Sh_knownBy_19 : decode prog_6_method_20_code 19 = .ok (.iconst 0, 1) := by decide +kernel
theorem d_Sh_knownBy_20 : decode prog_6_method_20_code 20 = .ok (.istore 4, 2) := by decide +kernel
theorem d_Sh_knownBy_22 : decode prog_6_method_20_code 22 = .ok (.iload 4, 2) := by decide +kernel
theorem d_Sh_knownBy_24 : decode prog_6_method_20_code 24 = .ok (.aload_n 0, 1) := by decide +kernel
theorem d_Sh_knownBy_25 : decode prog_6_method_20_code 25 = .ok (.getfield 73, 3) := by decide +kernel
theorem d_Sh_knownBy_28 : decode prog_6_method_20_code 28 = .ok (.if_icmp .ge 32, 3) := by decide +kernel
theorem d_Sh_knownBy_31 : decode prog_6_method_20_code 31 = .ok (.iload_n 2, 1) := by decide +kernel
theorem d_Sh_knownBy_32 : decode prog_6_method_20_code 32 = .ok (.iload_n 2, 1) := by decide +kernel
theorem d_Sh_knownBy_33 : decode prog_6_method_20_code 33 = .ok (.iload 4, 2) := by decide +kernel
theorem d_Sh_knownBy_35 : decode prog_6_method_20_code 35 = .ok (.invokestatic 123, 3) := by decide +kernel
theorem d_Sh_knownBy_38 : decode prog_6_method_20_code 38 = .ok (.ifCond .eq 13, 3) := by decide +kernel
theorem d_Sh_knownBy_41 : decode prog_6_method_20_code 41 = .ok (.aload_n 0, 1) := by decide +kernel
theorem d_Sh_knownBy_42 : decode prog_6_method_20_code 42 = .ok (.getfield 56, 3) := by decide +kernel
theorem d_Sh_knownBy_45 : decode prog_6_method_20_code 45 = .ok (.iload 4, 2) := by decide +kernel
theorem d_Sh_knownBy_47 : decode prog_6_method_20_code 47 = .ok (.iaload, 1) := by decide +kernel
theorem d_Sh_knownBy_48 : decode prog_6_method_20_code 48 = .ok (.goto 4, 3) := by decide +kernel
theorem d_Sh_knownBy_51 : decode prog_6_method_20_code 51 = .ok (.iconst 0, 1) := by decide +kernel
theorem d_Sh_knownBy_52 : decode prog_6_method_20_code 52 = .ok (.ior, 1) := by decide +kernel
theorem d_Sh_knownBy_53 : decode prog_6_method_20_code 53 = .ok (.istore_n 2, 1) := by decide +kernel
theorem d_Sh_knownBy_54 : decode prog_6_method_20_code 54 = .ok (.iinc 4 1, 3) := by decide +kernel
theorem d_Sh_knownBy_57 : decode prog_6_method_20_code 57 = .ok (.goto (-35), 3) := by decide +kernel
theorem d_Sh_knownBy_60 : decode prog_6_method_20_code 60 = .ok (.iinc 3 1, 3) := by decide +kernel
theorem d_Sh_knownBy_63 : decode prog_6_method_20_code 63 = .ok (.goto (-52), 3) := by decide +kernel
theorem d_Sh_knownBy_66 : decode prog_6_method_20_code 66 = .ok (.iload_n 2, 1) := by decide +kernel
theorem d_Sh_knownBy_67 : decode prog_6_method_20_code 67 = .ok (.ireturn, 1) := by decide +kernel
def Sh_knownBy_L22 (Y : Ly) (l0 : Nat) (l3 : Int32) (h : Hp) (k11 : Int32 → Int32 → Option Int32) : Nat → Int32 → Int32 → Option Int32
  | 0, _, _ => none
  | F + 1, l2, l4 =>
    if (hGi h 415 l0) ≤ l4 then
      k11 l2 (l3 + 1)
    else
      (LP_has Y l2 l4 h).bind fun q5 =>
      if q5 = true then
        if inB l4 (lnY Y (hGr h 411 l0)) = true then
          Sh_knownBy_L22 Y l0 l3 h k11 F (l2 ||| (hAi h (hGr h 411 l0) (Int32.toNatClampNeg l4))) (l4 + 1)
        else none
      else
        Sh_knownBy_L22 Y l0 l3 h k11 F (l2 ||| 0) (l4 + 1)
theorem Sh_knownBy_L22_ok (Y : Ly) (l0 : Nat) (l3 : Int32) (h : Hp) (k11 : Int32 → Int32 → Option Int32) (tl0 : isO Y 4 l0) (hk11 : ∀ (l2_ : Int32) (l3_ : Int32), AW Y 2 K_Sh_knownBy 11 [(0, .ref l0), (2, .int l2_), (3, .int l3_)] [] h (k11 l2_ l3_) (pI h)) : ∀ (F : Nat) (l2 : Int32) (l4 : Int32), AW Y 2 K_Sh_knownBy 22 [(0, .ref l0), (2, .int l2), (3, .int l3), (4, .int l4)] [] h (Sh_knownBy_L22 Y l0 l3 h k11 F l2 l4) (pI h) := by
  intro F
  induction F with
  | zero =>
    intro l2 l4
    exact aw_none
  | succ F ih =>
    intro l2 l4
    unfold Sh_knownBy_L22
    refine aw_iload (pc := 22) d_Sh_knownBy_22 3 rfl ?_
    refine aw_aload_n (pc := 24) d_Sh_knownBy_24 rfl 0 rfl ?_
    refine gt_415 (pc := 25) d_Sh_knownBy_25 w2_158 tl0 ?_
    refine aw_icmp_ge (pc := 28) (tgt := 60) d_Sh_knownBy_28 (by decide) (fun c4 => ?_) (fun c4 => ?_)
    · refine aw_iinc (pc := 60) (w := l3 + 1) (lv' := [(3, .int (l3 + 1)), (0, .ref l0), (2, .int l2), (4, .int l4)]) d_Sh_knownBy_60 2 rfl rfl (by decide) rfl ?_
      refine aw_goto (pc := 63) (tgt := 11) d_Sh_knownBy_63 (by decide) ?_
      exact aw_lv [1, 2, 0] rfl (hk11 l2 (l3 + 1))
    · refine aw_iload_n (pc := 31) d_Sh_knownBy_31 rfl 1 rfl ?_
      refine aw_iload_n (pc := 32) d_Sh_knownBy_32 rfl 1 rfl ?_
      refine aw_iload (pc := 33) d_Sh_knownBy_33 3 rfl ?_
      refine aw_cNpZ (pc := 35) (As := [.int l2, .int l4]) (st := [.int l2]) (ok_LP_has Y l2 l4 h) okS_LP_has (List.mem_of_getElem? (i := 13) rfl) d_Sh_knownBy_35 rfl (Nat.le_of_ble_eq_true rfl) rfl (Nat.le_of_ble_eq_true rfl) (fun q5 hq5 hTq5 => ?_)
      refine aw_beq (pc := 38) (tgt := 51) d_Sh_knownBy_38 (by decide) (fun c6 => ?_) (fun c6 => ?_)
      · refine aw_aload_n (pc := 41) d_Sh_knownBy_41 rfl 0 rfl ?_
        refine gt_411 (pc := 42) d_Sh_knownBy_42 w2_151 tl0 (fun tt7 => ?_)
        refine aw_iload (pc := 45) d_Sh_knownBy_45 3 rfl ?_
        refine aw_iaload (pc := 47) d_Sh_knownBy_47 tt7 (fun c8 => ?_)
        refine aw_goto (pc := 48) (tgt := 52) d_Sh_knownBy_48 (by decide) ?_
        refine aw_ior (pc := 52) d_Sh_knownBy_52 ?_
        refine aw_istore_n (pc := 53) (lv' := [(2, .int (l2 ||| (hAi h (hGr h 411 l0) (Int32.toNatClampNeg l4)))), (0, .ref l0), (3, .int l3), (4, .int l4)]) d_Sh_knownBy_53 rfl (by decide) rfl ?_
        refine aw_iinc (pc := 54) (w := l4 + 1) (lv' := [(4, .int (l4 + 1)), (2, .int (l2 ||| (hAi h (hGr h 411 l0) (Int32.toNatClampNeg l4)))), (0, .ref l0), (3, .int l3)]) d_Sh_knownBy_54 3 rfl rfl (by decide) rfl ?_
        refine aw_goto (pc := 57) (tgt := 22) d_Sh_knownBy_57 (by decide) ?_
        exact aw_lv [2, 1, 3, 0] rfl (ih (l2 ||| (hAi h (hGr h 411 l0) (Int32.toNatClampNeg l4))) (l4 + 1))
      · refine aw_iconst (pc := 51) (x := 0) d_Sh_knownBy_51 (by decide) ?_
        refine aw_ior (pc := 52) d_Sh_knownBy_52 ?_
        refine aw_istore_n (pc := 53) (lv' := [(2, .int (l2 ||| 0)), (0, .ref l0), (3, .int l3), (4, .int l4)]) d_Sh_knownBy_53 rfl (by decide) rfl ?_
        refine aw_iinc (pc := 54) (w := l4 + 1) (lv' := [(4, .int (l4 + 1)), (2, .int (l2 ||| 0)), (0, .ref l0), (3, .int l3)]) d_Sh_knownBy_54 3 rfl rfl (by decide) rfl ?_
        refine aw_goto (pc := 57) (tgt := 22) d_Sh_knownBy_57 (by decide) ?_
        exact aw_lv [2, 1, 3, 0] rfl (ih (l2 ||| 0) (l4 + 1))
def Sh_knownBy_L11 (Y : Ly) (l0 : Nat) (h : Hp) : Nat → Int32 → Int32 → Option Int32
  | 0, _, _ => none
  | F + 1, l2, l3 =>
    if (hGi h 415 l0) ≤ l3 then
      some l2
    else
      Sh_knownBy_L22 Y l0 l3 h (Sh_knownBy_L11 Y l0 h F) FU l2 0
theorem Sh_knownBy_L11_ok (Y : Ly) (l0 : Nat) (h : Hp) (tl0 : isO Y 4 l0) : ∀ (F : Nat) (l2 : Int32) (l3 : Int32), AW Y 2 K_Sh_knownBy 11 [(0, .ref l0), (2, .int l2), (3, .int l3)] [] h (Sh_knownBy_L11 Y l0 h F l2 l3) (pI h) := by
  intro F
  induction F with
  | zero =>
    intro l2 l3
    exact aw_none
  | succ F ih =>
    intro l2 l3
    unfold Sh_knownBy_L11
    refine aw_iload_n (pc := 11) d_Sh_knownBy_11 rfl 2 rfl ?_
    refine aw_aload_n (pc := 12) d_Sh_knownBy_12 rfl 0 rfl ?_
    refine gt_415 (pc := 13) d_Sh_knownBy_13 w2_158 tl0 ?_
    refine aw_icmp_ge (pc := 16) (tgt := 66) d_Sh_knownBy_16 (by decide) (fun c3 => ?_) (fun c3 => ?_)
    · refine aw_iload_n (pc := 66) d_Sh_knownBy_66 rfl 1 rfl ?_
      exact aw_ireturn (pc := 67) d_Sh_knownBy_67 rfl rfl
    · refine aw_iconst (pc := 19) (x := 0) d_Sh_knownBy_19 (by decide) ?_
      refine aw_istore (pc := 20) (lv' := [(4, .int 0), (0, .ref l0), (2, .int l2), (3, .int l3)]) d_Sh_knownBy_20 (by decide) rfl ?_
      exact aw_lv [1, 2, 3, 0] rfl (Sh_knownBy_L22_ok Y l0 l3 h (Sh_knownBy_L11 Y l0 h F) tl0 ih FU l2 0)
def Sh_knownBy (Y : Ly) (l0 : Nat) (l1 : Int32) (h : Hp) : Option Int32 :=
  (Lo_booksOfSet Y (hGr h 401 l0) l1 h).bind fun q2 =>
  Sh_knownBy_L11 Y l0 h FU q2 0
theorem ok_Sh_knownBy (Y : Ly) (l0 : Nat) (l1 : Int32) (h : Hp) (t0 : isO Y 4 l0) : AM Y 2 K_Sh_knownBy [.ref l0, .int l1] h (Sh_knownBy Y l0 l1 h) (pI h) := by
  refine AM.of rfl (Nat.le_of_ble_eq_true rfl) ?_
  show AW Y 2 K_Sh_knownBy 0 [(0, .ref l0), (1, .int l1)] [] h (Sh_knownBy Y l0 l1 h) (pI h)
  unfold Sh_knownBy
  refine aw_aload_n (pc := 0) d_Sh_knownBy_0 rfl 0 rfl ?_
  refine gt_401 (pc := 1) d_Sh_knownBy_1 w2_130 t0 (fun tt1 => ?_)
  refine aw_iload_n (pc := 4) d_Sh_knownBy_4 rfl 1 rfl ?_
  refine aw_cVpI (pc := 5) (ci := 3) (T := TX3) (N := 3) (As := [.int l1]) (st := []) (ok_Lo_booksOfSet Y (hGr h 401 l0) l1 h tt1) okV_Lo_booksOfSet rfl (by decide) tt1 w6_78 d_Sh_knownBy_5 rfl (Nat.le_of_ble_eq_true rfl) rfl (Nat.le_of_ble_eq_true rfl) (fun q2 hq2 hTq2 => ?_)
  refine aw_istore_n (pc := 8) (lv' := [(2, .int q2), (0, .ref l0), (1, .int l1)]) d_Sh_knownBy_8 rfl (by decide) rfl ?_
  refine aw_iconst (pc := 9) (x := 0) d_Sh_knownBy_9 (by decide) ?_
  refine aw_istore_n (pc := 10) (lv' := [(3, .int 0), (2, .int q2), (0, .ref l0), (1, .int l1)]) d_Sh_knownBy_10 rfl (by decide) rfl ?_
  exact aw_lv [2, 1, 0] rfl (Sh_knownBy_L11_ok Y l0 h t0 FU q2 0)
/-! LastPages$Shelf.isBetterBuy(II)Z -/
theorem d_Sh_isBetterBuy_0 : decode prog_6_method_22_code 0 = .ok (.aload_n 0, 1) := by decide +kernel
theorem d_Sh_isBetterBuy_1 : decode prog_6_method_22_code 1 = .ok (.iload_n 1, 1) := by decide +kernel
theorem d_Sh_isBetterBuy_2 : decode prog_6_method_22_code 2 = .ok (.invokevirtual 137, 3) := by decide +kernel
theorem d_Sh_isBetterBuy_5 : decode prog_6_method_22_code 5 = .ok (.invokestatic 140, 3) := by decide +kernel
theorem d_Sh_isBetterBuy_8 : decode prog_6_method_22_code 8 = .ok (.aload_n 0, 1) := by decide +kernel
theorem d_Sh_isBetterBuy_9 : decode prog_6_method_22_code 9 = .ok (.iload_n 2, 1) := by decide +kernel
theorem d_Sh_isBetterBuy_10 : decode prog_6_method_22_code 10 = .ok (.invokevirtual 137, 3) := by decide +kernel
theorem d_Sh_isBetterBuy_13 : decode prog_6_method_22_code 13 = .ok (.invokestatic 140, 3) := by decide +kernel
theorem d_Sh_isBetterBuy_16 : decode prog_6_method_22_code 16 = .ok (.isub, 1) := by decide +kernel
theorem d_Sh_isBetterBuy_17 : decode prog_6_method_22_code 17 = .ok (.istore_n 3, 1) := by decide +kernel
theorem d_Sh_isBetterBuy_18 : decode prog_6_method_22_code 18 = .ok (.iload_n 3, 1) := by decide +kernel
theorem d_Sh_isBetterBuy_19 : decode prog_6_method_22_code 19 = .ok (.ifCond .gt 19, 3) := by decide +kernel
theorem d_Sh_isBetterBuy_22 : decode prog_6_method_22_code 22 = .ok (.iload_n 3, 1) := by decide +kernel
theorem d_Sh_isBetterBuy_23 : decode prog_6_method_22_code 23 = .ok (.ifCond .ne 19, 3) := by decide +kernel
theorem d_Sh_isBetterBuy_26 : decode prog_6_method_22_code 26 = .ok (.aload_n 0, 1) := by decide +kernel
theorem d_Sh_isBetterBuy_27 : decode prog_6_method_22_code 27 = .ok (.getfield 23, 3) := by decide +kernel
theorem d_Sh_isBetterBuy_30 : decode prog_6_method_22_code 30 = .ok (.iload_n 1, 1) := by decide +kernel
theorem d_Sh_isBetterBuy_31 : decode prog_6_method_22_code 31 = .ok (.iload_n 2, 1) := by decide +kernel
theorem d_Sh_isBetterBuy_32 : decode prog_6_method_22_code 32 = .ok (.invokevirtual 145, 3) := by decide +kernel
theorem d_Sh_isBetterBuy_35 : decode prog_6_method_22_code 35 = .ok (.ifCond .eq 7, 3) := by decide +kernel
theorem d_Sh_isBetterBuy_38 : decode prog_6_method_22_code 38 = .ok (.iconst 1, 1) := by decide +kernel
theorem d_Sh_isBetterBuy_39 : decode prog_6_method_22_code 39 = .ok (.goto 4, 3) := by decide +kernel
theorem d_Sh_isBetterBuy_42 : decode prog_6_method_22_code 42 = .ok (.iconst 0, 1) := by decide +kernel
theorem d_Sh_isBetterBuy_43 : decode prog_6_method_22_code 43 = .ok (.ireturn, 1) := by decide +kernel
def Sh_isBetterBuy (Y : Ly) (l0 : Nat) (l1 : Int32) (l2 : Int32) (h : Hp) : Option Bool :=
  (Sh_knownBy Y l0 l1 h).bind fun q1 =>
  (J_bitCount Y q1 h).bind fun q2 =>
  (Sh_knownBy Y l0 l2 h).bind fun q3 =>
  (J_bitCount Y q3 h).bind fun q4 =>
  if 0 < (q2 - q4) then
    some true
  else
    if (q2 - q4) = 0 then
      (Lo_isCheaper Y (hGr h 401 l0) l1 l2 h).bind fun q8 =>
      if q8 = true then
        some true
      else
        some false
    else
      some false
theorem ok_Sh_isBetterBuy (Y : Ly) (l0 : Nat) (l1 : Int32) (l2 : Int32) (h : Hp) (t0 : isO Y 4 l0) : AM Y 3 K_Sh_isBetterBuy [.ref l0, .int l1, .int l2] h (Sh_isBetterBuy Y l0 l1 l2 h) (pZ h) := by
  refine AM.of rfl (Nat.le_of_ble_eq_true rfl) ?_
  show AW Y 3 K_Sh_isBetterBuy 0 [(0, .ref l0), (1, .int l1), (2, .int l2)] [] h (Sh_isBetterBuy Y l0 l1 l2 h) (pZ h)
  unfold Sh_isBetterBuy
  refine aw_aload_n (pc := 0) d_Sh_isBetterBuy_0 rfl 0 rfl ?_
  refine aw_iload_n (pc := 1) d_Sh_isBetterBuy_1 rfl 1 rfl ?_
  refine aw_cVpI (pc := 2) (ci := 4) (T := TX4) (N := 19) (As := [.int l1]) (st := []) (ok_Sh_knownBy Y l0 l1 h t0) okV_Sh_knownBy rfl (by decide) t0 w6_99 d_Sh_isBetterBuy_2 rfl (Nat.le_of_ble_eq_true rfl) rfl (Nat.le_of_ble_eq_true rfl) (fun q1 hq1 hTq1 => ?_)
  refine aw_cSpI (pc := 5) (As := [.int q1]) (st := []) (ok_J_bitCount Y q1 h) okS_J_bitCount w6_100 d_Sh_isBetterBuy_5 rfl (Nat.le_of_ble_eq_true rfl) rfl (Nat.le_of_ble_eq_true rfl) (fun q2 hq2 hTq2 => ?_)
  refine aw_aload_n (pc := 8) d_Sh_isBetterBuy_8 rfl 0 rfl ?_
  refine aw_iload_n (pc := 9) d_Sh_isBetterBuy_9 rfl 2 rfl ?_
  refine aw_cVpI (pc := 10) (ci := 4) (T := TX4) (N := 19) (As := [.int l2]) (st := [.int q2]) (ok_Sh_knownBy Y l0 l2 h t0) okV_Sh_knownBy rfl (by decide) t0 w6_99 d_Sh_isBetterBuy_10 rfl (Nat.le_of_ble_eq_true rfl) rfl (Nat.le_of_ble_eq_true rfl) (fun q3 hq3 hTq3 => ?_)
  refine aw_cSpI (pc := 13) (As := [.int q3]) (st := [.int q2]) (ok_J_bitCount Y q3 h) okS_J_bitCount w6_100 d_Sh_isBetterBuy_13 rfl (Nat.le_of_ble_eq_true rfl) rfl (Nat.le_of_ble_eq_true rfl) (fun q4 hq4 hTq4 => ?_)
  refine aw_isub (pc := 16) d_Sh_isBetterBuy_16 ?_
  refine aw_istore_n (pc := 17) (lv' := [(3, .int (q2 - q4)), (0, .ref l0), (1, .int l1), (2, .int l2)]) d_Sh_isBetterBuy_17 rfl (by decide) rfl ?_
  refine aw_iload_n (pc := 18) d_Sh_isBetterBuy_18 rfl 0 rfl ?_
  refine aw_if_gt (pc := 19) (tgt := 38) d_Sh_isBetterBuy_19 (by decide) (fun c5 => ?_) (fun c5 => ?_)
  · refine aw_iconst (pc := 38) (x := 1) d_Sh_isBetterBuy_38 (by decide) ?_
    refine aw_goto (pc := 39) (tgt := 43) d_Sh_isBetterBuy_39 (by decide) ?_
    exact aw_zreturn (pc := 43) (b := true) d_Sh_isBetterBuy_43 rfl rfl
  · refine aw_iload_n (pc := 22) d_Sh_isBetterBuy_22 rfl 0 rfl ?_
    refine aw_if_ne (pc := 23) (tgt := 42) d_Sh_isBetterBuy_23 (by decide) (fun c6 => ?_) (fun c6 => ?_)
    · refine aw_aload_n (pc := 26) d_Sh_isBetterBuy_26 rfl 1 rfl ?_
      refine gt_401 (pc := 27) d_Sh_isBetterBuy_27 w2_130 t0 (fun tt7 => ?_)
      refine aw_iload_n (pc := 30) d_Sh_isBetterBuy_30 rfl 2 rfl ?_
      refine aw_iload_n (pc := 31) d_Sh_isBetterBuy_31 rfl 3 rfl ?_
      refine aw_cVpZ (pc := 32) (ci := 3) (T := TX3) (N := 3) (As := [.int l1, .int l2]) (st := []) (ok_Lo_isCheaper Y (hGr h 401 l0) l1 l2 h tt7) okV_Lo_isCheaper rfl (by decide) tt7 w6_101 d_Sh_isBetterBuy_32 rfl (Nat.le_of_ble_eq_true rfl) rfl (Nat.le_of_ble_eq_true rfl) (fun q8 hq8 hTq8 => ?_)
      refine aw_beq (pc := 35) (tgt := 42) d_Sh_isBetterBuy_35 (by decide) (fun c9 => ?_) (fun c9 => ?_)
      · refine aw_iconst (pc := 38) (x := 1) d_Sh_isBetterBuy_38 (by decide) ?_
        refine aw_goto (pc := 39) (tgt := 43) d_Sh_isBetterBuy_39 (by decide) ?_
        exact aw_zreturn (pc := 43) (b := true) d_Sh_isBetterBuy_43 rfl rfl
      · refine aw_iconst (pc := 42) (x := 0) d_Sh_isBetterBuy_42 (by decide) ?_
        exact aw_zreturn (pc := 43) (b := false) d_Sh_isBetterBuy_43 rfl rfl
    · refine aw_iconst (pc := 42) (x := 0) d_Sh_isBetterBuy_42 (by decide) ?_
      exact aw_zreturn (pc := 43) (b := false) d_Sh_isBetterBuy_43 rfl rfl
/-! LastPages$Shelf.bestOffers(I)I -/
theorem d_Sh_bestOffers_0 : decode prog_6_method_21_code 0 = .ok (.iconst 0, 1) := by decide +kernel
theorem d_Sh_bestOffers_1 : decode prog_6_method_21_code 1 = .ok (.istore_n 2, 1) := by decide +kernel
theorem d_Sh_bestOffers_2 : decode prog_6_method_21_code 2 = .ok (.iconst 1, 1) := by decide +kernel
theorem d_Sh_bestOffers_3 : decode prog_6_method_21_code 3 = .ok (.istore_n 3, 1) := by decide +kernel
theorem d_Sh_bestOffers_4 : decode prog_6_method_21_code 4 = .ok (.iload_n 3, 1) := by decide +kernel
theorem d_Sh_bestOffers_5 : decode prog_6_method_21_code 5 = .ok (.iconst 1, 1) := by decide +kernel
theorem d_Sh_bestOffers_6 : decode prog_6_method_21_code 6 = .ok (.aload_n 0, 1) := by decide +kernel
theorem d_Sh_bestOffers_7 : decode prog_6_method_21_code 7 = .ok (.getfield 23, 3) := by decide +kernel
theorem d_Sh_bestOffers_10 : decode prog_6_method_21_code 10 = .ok (.getfield 88, 3) := by decide +kernel
theorem d_Sh_bestOffers_13 : decode prog_6_method_21_code 13 = .ok (.ishl, 1) := by decide +kernel
theorem d_Sh_bestOffers_14 : decode prog_6_method_21_code 14 = .ok (.if_icmp .ge 32, 3) := by decide +kernel
theorem d_Sh_bestOffers_17 : decode prog_6_method_21_code 17 = .ok (.aload_n 0, 1) := by decide +kernel
theorem d_Sh_bestOffers_18 : decode prog_6_method_21_code 18 = .ok (.getfield 23, 3) := by decide +kernel
theorem d_Sh_bestOffers_21 : decode prog_6_method_21_code 21 = .ok (.iload_n 3, 1) := by decide +kernel
theorem d_Sh_bestOffers_22 : decode prog_6_method_21_code 22 = .ok (.invokevirtual 131, 3) := by decide +kernel
theorem d_Sh_bestOffers_25 : decode prog_6_method_21_code 25 = .ok (.iload_n 1, 1) := by decide +kernel
theorem d_Sh_bestOffers_26 : decode prog_6_method_21_code 26 = .ok (.if_icmp .gt 14, 3) := by decide +kernel
theorem d_Sh_bestOffers_29 : decode prog_6_method_21_code 29 = .ok (.aload_n 0, 1) := by decide +kernel
theorem d_Sh_bestOffers_30 : decode prog_6_method_21_code 30 = .ok (.iload_n 3, 1) := by decide +kernel
theorem d_Sh_bestOffers_31 : decode prog_6_method_21_code 31 = .ok (.iload_n 2, 1) := by decide +kernel
theorem d_Sh_bestOffers_32 : decode prog_6_method_21_code 32 = .ok (.invokevirtual 134, 3) := by decide +kernel
theorem d_Sh_bestOffers_35 : decode prog_6_method_21_code 35 = .ok (.ifCond .eq 5, 3) := by decide +kernel
theorem d_Sh_bestOffers_38 : decode prog_6_method_21_code 38 = .ok (.iload_n 3, 1) := by decide +kernel
theorem d_Sh_bestOffers_39 : decode prog_6_method_21_code 39 = .ok (.istore_n 2, 1) := by decide +kernel
theorem d_Sh_bestOffers_40 : decode prog_6_method_21_code 40 = .ok (.iinc 3 1, 3) := by decide +kernel
theorem d_Sh_bestOffers_43 : decode prog_6_method_21_code 43 = .ok (.goto (-39), 3) := by decide +kernel
theorem d_Sh_bestOffers_46 : decode prog_6_method_21_code 46 = .ok (.iload_n 2, 1) := by decide +kernel
theorem d_Sh_bestOffers_47 : decode prog_6_method_21_code 47 = .ok (.ireturn, 1) := by decide +kernel
def Sh_bestOffers_L4 (Y : Ly) (l0 : Nat) (l1 : Int32) (h : Hp) : Nat → Int32 → Int32 → Option Int32
  | 0, _, _ => none
  | F + 1, l2, l3 =>
    if ((1 : Int32) <<< ((hGi h 302 (hGr h 401 l0)) &&& 31)) ≤ l3 then
      some l2
    else
      (Lo_costOfSet Y (hGr h 401 l0) l3 h).bind fun q4 =>
      if l1 < q4 then
        Sh_bestOffers_L4 Y l0 l1 h F l2 (l3 + 1)
      else
        (Sh_isBetterBuy Y l0 l3 l2 h).bind fun q6 =>
        if q6 = true then
          Sh_bestOffers_L4 Y l0 l1 h F l3 (l3 + 1)
        else
          Sh_bestOffers_L4 Y l0 l1 h F l2 (l3 + 1)
theorem Sh_bestOffers_L4_ok (Y : Ly) (l0 : Nat) (l1 : Int32) (h : Hp) (tl0 : isO Y 4 l0) : ∀ (F : Nat) (l2 : Int32) (l3 : Int32), AW Y 4 K_Sh_bestOffers 4 [(0, .ref l0), (1, .int l1), (2, .int l2), (3, .int l3)] [] h (Sh_bestOffers_L4 Y l0 l1 h F l2 l3) (pI h) := by
  intro F
  induction F with
  | zero =>
    intro l2 l3
    exact aw_none
  | succ F ih =>
    intro l2 l3
    unfold Sh_bestOffers_L4
    refine aw_iload_n (pc := 4) d_Sh_bestOffers_4 rfl 3 rfl ?_
    refine aw_iconst (pc := 5) (x := 1) d_Sh_bestOffers_5 (by decide) ?_
    refine aw_aload_n (pc := 6) d_Sh_bestOffers_6 rfl 0 rfl ?_
    refine gt_401 (pc := 7) d_Sh_bestOffers_7 w2_130 tl0 (fun tt1 => ?_)
    refine gt_302 (pc := 10) d_Sh_bestOffers_10 w2_73 tt1 ?_
    refine aw_ishl (pc := 13) d_Sh_bestOffers_13 ?_
    refine aw_icmp_ge (pc := 14) (tgt := 46) d_Sh_bestOffers_14 (by decide) (fun c2 => ?_) (fun c2 => ?_)
    · refine aw_iload_n (pc := 46) d_Sh_bestOffers_46 rfl 2 rfl ?_
      exact aw_ireturn (pc := 47) d_Sh_bestOffers_47 rfl rfl
    · refine aw_aload_n (pc := 17) d_Sh_bestOffers_17 rfl 0 rfl ?_
      refine gt_401 (pc := 18) d_Sh_bestOffers_18 w2_130 tl0 (fun tt3 => ?_)
      refine aw_iload_n (pc := 21) d_Sh_bestOffers_21 rfl 3 rfl ?_
      refine aw_cVpI (pc := 22) (ci := 3) (T := TX3) (N := 3) (As := [.int l3]) (st := []) (ok_Lo_costOfSet Y (hGr h 401 l0) l3 h tt3) okV_Lo_costOfSet rfl (by decide) tt3 w6_91 d_Sh_bestOffers_22 rfl (Nat.le_of_ble_eq_true rfl) rfl (Nat.le_of_ble_eq_true rfl) (fun q4 hq4 hTq4 => ?_)
      refine aw_iload_n (pc := 25) d_Sh_bestOffers_25 rfl 1 rfl ?_
      refine aw_icmp_gt (pc := 26) (tgt := 40) d_Sh_bestOffers_26 (by decide) (fun c5 => ?_) (fun c5 => ?_)
      · refine aw_iinc (pc := 40) (w := l3 + 1) (lv' := [(3, .int (l3 + 1)), (0, .ref l0), (1, .int l1), (2, .int l2)]) d_Sh_bestOffers_40 3 rfl rfl (by decide) rfl ?_
        refine aw_goto (pc := 43) (tgt := 4) d_Sh_bestOffers_43 (by decide) ?_
        exact aw_lv [1, 2, 3, 0] rfl (ih l2 (l3 + 1))
      · refine aw_aload_n (pc := 29) d_Sh_bestOffers_29 rfl 0 rfl ?_
        refine aw_iload_n (pc := 30) d_Sh_bestOffers_30 rfl 3 rfl ?_
        refine aw_iload_n (pc := 31) d_Sh_bestOffers_31 rfl 2 rfl ?_
        refine aw_cVpZ (pc := 32) (ci := 4) (T := TX4) (N := 19) (As := [.int l3, .int l2]) (st := []) (ok_Sh_isBetterBuy Y l0 l3 l2 h tl0) okV_Sh_isBetterBuy rfl (by decide) tl0 w6_95 d_Sh_bestOffers_32 rfl (Nat.le_of_ble_eq_true rfl) rfl (Nat.le_of_ble_eq_true rfl) (fun q6 hq6 hTq6 => ?_)
        refine aw_beq (pc := 35) (tgt := 40) d_Sh_bestOffers_35 (by decide) (fun c7 => ?_) (fun c7 => ?_)
        · refine aw_iload_n (pc := 38) d_Sh_bestOffers_38 rfl 3 rfl ?_
          refine aw_istore_n (pc := 39) (lv' := [(2, .int l3), (0, .ref l0), (1, .int l1), (3, .int l3)]) d_Sh_bestOffers_39 rfl (by decide) rfl ?_
          refine aw_iinc (pc := 40) (w := l3 + 1) (lv' := [(3, .int (l3 + 1)), (2, .int l3), (0, .ref l0), (1, .int l1)]) d_Sh_bestOffers_40 3 rfl rfl (by decide) rfl ?_
          refine aw_goto (pc := 43) (tgt := 4) d_Sh_bestOffers_43 (by decide) ?_
          exact aw_lv [2, 3, 1, 0] rfl (ih l3 (l3 + 1))
        · refine aw_iinc (pc := 40) (w := l3 + 1) (lv' := [(3, .int (l3 + 1)), (0, .ref l0), (1, .int l1), (2, .int l2)]) d_Sh_bestOffers_40 3 rfl rfl (by decide) rfl ?_
          refine aw_goto (pc := 43) (tgt := 4) d_Sh_bestOffers_43 (by decide) ?_
          exact aw_lv [1, 2, 3, 0] rfl (ih l2 (l3 + 1))
def Sh_bestOffers (Y : Ly) (l0 : Nat) (l1 : Int32) (h : Hp) : Option Int32 :=
  Sh_bestOffers_L4 Y l0 l1 h FU 0 1
theorem ok_Sh_bestOffers (Y : Ly) (l0 : Nat) (l1 : Int32) (h : Hp) (t0 : isO Y 4 l0) : AM Y 4 K_Sh_bestOffers [.ref l0, .int l1] h (Sh_bestOffers Y l0 l1 h) (pI h) := by
  refine AM.of rfl (Nat.le_of_ble_eq_true rfl) ?_
  show AW Y 4 K_Sh_bestOffers 0 [(0, .ref l0), (1, .int l1)] [] h (Sh_bestOffers Y l0 l1 h) (pI h)
  unfold Sh_bestOffers
  refine aw_iconst (pc := 0) (x := 0) d_Sh_bestOffers_0 (by decide) ?_
  refine aw_istore_n (pc := 1) (lv' := [(2, .int 0), (0, .ref l0), (1, .int l1)]) d_Sh_bestOffers_1 rfl (by decide) rfl ?_
  refine aw_iconst (pc := 2) (x := 1) d_Sh_bestOffers_2 (by decide) ?_
  refine aw_istore_n (pc := 3) (lv' := [(3, .int 1), (2, .int 0), (0, .ref l0), (1, .int l1)]) d_Sh_bestOffers_3 rfl (by decide) rfl ?_
  exact aw_lv [2, 3, 1, 0] rfl (Sh_bestOffers_L4_ok Y l0 l1 h t0 FU 0 1)
/-! LastPages.buy(I)I -/
theorem d_LP_buy_0 : decode prog_1_method_50_code 0 = .ok (.iload_n 1, 1) := by decide +kernel
theorem d_LP_buy_1 : decode prog_1_method_50_code 1 = .ok (.ifCond .lt 10, 3) := by decide +kernel
theorem d_LP_buy_4 : decode prog_1_method_50_code 4 = .ok (.iload_n 1, 1) := by decide +kernel
theorem d_LP_buy_5 : decode prog_1_method_50_code 5 = .ok (.sipush 999, 3) := by decide +kernel
theorem d_LP_buy_8 : decode prog_1_method_50_code 8 = .ok (.if_icmp .le 9, 3) := by decide +kernel
theorem d_LP_buy_11 : decode prog_1_method_50_code 11 = .ok (.aload_n 0, 1) := by decide +kernel
theorem d_LP_buy_12 : decode prog_1_method_50_code 12 = .ok (.iconst 5, 1) := by decide +kernel
theorem d_LP_buy_13 : decode prog_1_method_50_code 13 = .ok (.invokevirtual 133, 3) := by decide +kernel
theorem d_LP_buy_16 : decode prog_1_method_50_code 16 = .ok (.ireturn, 1) := by decide +kernel
theorem d_LP_buy_17 : decode prog_1_method_50_code 17 = .ok (.aload_n 0, 1) := by decide +kernel
theorem d_LP_buy_18 : decode prog_1_method_50_code 18 = .ok (.aload_n 0, 1) := by decide +kernel
theorem d_LP_buy_19 : decode prog_1_method_50_code 19 = .ok (.getfield 68, 3) := by decide +kernel
theorem d_LP_buy_22 : decode prog_1_method_50_code 22 = .ok (.aload_n 0, 1) := by decide +kernel
theorem d_LP_buy_23 : decode prog_1_method_50_code 23 = .ok (.getfield 68, 3) := by decide +kernel
theorem d_LP_buy_26 : decode prog_1_method_50_code 26 = .ok (.iload_n 1, 1) := by decide +kernel
theorem d_LP_buy_27 : decode prog_1_method_50_code 27 = .ok (.invokevirtual 395, 3) := by decide +kernel
theorem d_LP_buy_30 : decode prog_1_method_50_code 30 = .ok (.invokevirtual 392, 3) := by decide +kernel
theorem d_LP_buy_33 : decode prog_1_method_50_code 33 = .ok (.invokestatic 398, 3) := by decide +kernel
theorem d_LP_buy_36 : decode prog_1_method_50_code 36 = .ok (.invokevirtual 180, 3) := by decide +kernel
theorem d_LP_buy_39 : decode prog_1_method_50_code 39 = .ok (.ireturn, 1) := by decide +kernel
def LP_buy (Y : Ly) (l0 : Nat) (l1 : Int32) (h : Hp) : Option (Int32 × Hp) :=
  if l1 < 0 then
    (LP_fail Y l0 5 h).bind fun q2 =>
    some (q2.1, q2.2)
  else
    if l1 ≤ 999 then
      (Sh_bestOffers Y (hGr h 1109 l0) l1 h).bind fun q6 =>
      (Sh_knownBy Y (hGr h 1109 l0) q6 h).bind fun q7 =>
      (J_bitCount Y q7 h).bind fun q8 =>
      (LP_give Y l0 q8 h).bind fun q9 =>
      some (q9.1, q9.2)
    else
      (LP_fail Y l0 5 h).bind fun q10 =>
      some (q10.1, q10.2)
theorem ok_LP_buy (Y : Ly) (l0 : Nat) (l1 : Int32) (h : Hp) (t0 : isO Y 11 l0) : AM Y 5 K_LP_buy [.ref l0, .int l1] h (LP_buy Y l0 l1 h) rI := by
  refine AM.of rfl (Nat.le_of_ble_eq_true rfl) ?_
  show AW Y 5 K_LP_buy 0 [(0, .ref l0), (1, .int l1)] [] h (LP_buy Y l0 l1 h) rI
  unfold LP_buy
  refine aw_iload_n (pc := 0) d_LP_buy_0 rfl 1 rfl ?_
  refine aw_if_lt (pc := 1) (tgt := 11) d_LP_buy_1 (by decide) (fun c1 => ?_) (fun c1 => ?_)
  · refine aw_aload_n (pc := 11) d_LP_buy_11 rfl 0 rfl ?_
    refine aw_iconst (pc := 12) (x := 5) d_LP_buy_12 (by decide) ?_
    refine aw_cVrI (pc := 13) (ci := 11) (T := TX11) (N := 18) (As := [.int 5]) (st := []) (ok_LP_fail Y l0 5 h t0) okV_LP_fail rfl (by decide) t0 w3_114 d_LP_buy_13 rfl (Nat.le_of_ble_eq_true rfl) rfl (Nat.le_of_ble_eq_true rfl) (fun q2 hq2 hTq2 => ?_)
    exact aw_ireturn (pc := 16) d_LP_buy_16 rfl rfl
  · refine aw_iload_n (pc := 4) d_LP_buy_4 rfl 1 rfl ?_
    refine aw_sipush (pc := 5) (x := 999) d_LP_buy_5 (by decide) ?_
    refine aw_icmp_le (pc := 8) (tgt := 17) d_LP_buy_8 (by decide) (fun c3 => ?_) (fun c3 => ?_)
    · refine aw_aload_n (pc := 17) d_LP_buy_17 rfl 0 rfl ?_
      refine aw_aload_n (pc := 18) d_LP_buy_18 rfl 0 rfl ?_
      refine gt_1109 (pc := 19) d_LP_buy_19 w3_9 t0 (fun tt4 => ?_)
      refine aw_aload_n (pc := 22) d_LP_buy_22 rfl 0 rfl ?_
      refine gt_1109 (pc := 23) d_LP_buy_23 w3_9 t0 (fun tt5 => ?_)
      refine aw_iload_n (pc := 26) d_LP_buy_26 rfl 1 rfl ?_
      refine aw_cVpI (pc := 27) (ci := 4) (T := TX4) (N := 19) (As := [.int l1]) (st := [.ref (hGr h 1109 l0), .ref l0]) (ok_Sh_bestOffers Y (hGr h 1109 l0) l1 h tt5) okV_Sh_bestOffers rfl (by decide) tt5 w6_87 d_LP_buy_27 rfl (Nat.le_of_ble_eq_true rfl) rfl (Nat.le_of_ble_eq_true rfl) (fun q6 hq6 hTq6 => ?_)
      refine aw_cVpI (pc := 30) (ci := 4) (T := TX4) (N := 19) (As := [.int q6]) (st := [.ref l0]) (ok_Sh_knownBy Y (hGr h 1109 l0) q6 h tt4) okV_Sh_knownBy rfl (by decide) tt4 w6_74 d_LP_buy_30 rfl (Nat.le_of_ble_eq_true rfl) rfl (Nat.le_of_ble_eq_true rfl) (fun q7 hq7 hTq7 => ?_)
      refine aw_cSpI (pc := 33) (As := [.int q7]) (st := [.ref l0]) (ok_J_bitCount Y q7 h) okS_J_bitCount w6_26 d_LP_buy_33 rfl (Nat.le_of_ble_eq_true rfl) rfl (Nat.le_of_ble_eq_true rfl) (fun q8 hq8 hTq8 => ?_)
      refine aw_cVrI (pc := 36) (ci := 11) (T := TX11) (N := 18) (As := [.int q8]) (st := []) (ok_LP_give Y l0 q8 h t0) okV_LP_give rfl (by decide) t0 w4_88 d_LP_buy_36 rfl (Nat.le_of_ble_eq_true rfl) rfl (Nat.le_of_ble_eq_true rfl) (fun q9 hq9 hTq9 => ?_)
      exact aw_ireturn (pc := 39) d_LP_buy_39 rfl rfl
    · refine aw_aload_n (pc := 11) d_LP_buy_11 rfl 0 rfl ?_
      refine aw_iconst (pc := 12) (x := 5) d_LP_buy_12 (by decide) ?_
      refine aw_cVrI (pc := 13) (ci := 11) (T := TX11) (N := 18) (As := [.int 5]) (st := []) (ok_LP_fail Y l0 5 h t0) okV_LP_fail rfl (by decide) t0 w3_114 d_LP_buy_13 rfl (Nat.le_of_ble_eq_true rfl) rfl (Nat.le_of_ble_eq_true rfl) (fun q10 hq10 hTq10 => ?_)
      exact aw_ireturn (pc := 16) d_LP_buy_16 rfl rfl
/-! LastPages.buySet(I)I -/
theorem d_LP_buySet_0 : decode prog_1_method_51_code 0 = .ok (.iload_n 1, 1) := by decide +kernel
theorem d_LP_buySet_1 : decode prog_1_method_51_code 1 = .ok (.ifCond .lt 10, 3) := by decide +kernel
theorem d_LP_buySet_4 : decode prog_1_method_51_code 4 = .ok (.iload_n 1, 1) := by decide +kernel
theorem d_LP_buySet_5 : decode prog_1_method_51_code 5 = .ok (.sipush 999, 3) := by decide +kernel
theorem d_LP_buySet_8 : decode prog_1_method_51_code 8 = .ok (.if_icmp .le 9, 3) := by decide +kernel
theorem d_LP_buySet_11 : decode prog_1_method_51_code 11 = .ok (.aload_n 0, 1) := by decide +kernel
theorem d_LP_buySet_12 : decode prog_1_method_51_code 12 = .ok (.iconst 5, 1) := by decide +kernel
theorem d_LP_buySet_13 : decode prog_1_method_51_code 13 = .ok (.invokevirtual 133, 3) := by decide +kernel
theorem d_LP_buySet_16 : decode prog_1_method_51_code 16 = .ok (.ireturn, 1) := by decide +kernel
theorem d_LP_buySet_17 : decode prog_1_method_51_code 17 = .ok (.aload_n 0, 1) := by decide +kernel
theorem d_LP_buySet_18 : decode prog_1_method_51_code 18 = .ok (.aload_n 0, 1) := by decide +kernel
theorem d_LP_buySet_19 : decode prog_1_method_51_code 19 = .ok (.getfield 68, 3) := by decide +kernel
theorem d_LP_buySet_22 : decode prog_1_method_51_code 22 = .ok (.iload_n 1, 1) := by decide +kernel
theorem d_LP_buySet_23 : decode prog_1_method_51_code 23 = .ok (.invokevirtual 395, 3) := by decide +kernel
theorem d_LP_buySet_26 : decode prog_1_method_51_code 26 = .ok (.invokevirtual 180, 3) := by decide +kernel
theorem d_LP_buySet_29 : decode prog_1_method_51_code 29 = .ok (.ireturn, 1) := by decide +kernel
def LP_buySet (Y : Ly) (l0 : Nat) (l1 : Int32) (h : Hp) : Option (Int32 × Hp) :=
  if l1 < 0 then
    (LP_fail Y l0 5 h).bind fun q2 =>
    some (q2.1, q2.2)
  else
    if l1 ≤ 999 then
      (Sh_bestOffers Y (hGr h 1109 l0) l1 h).bind fun q5 =>
      (LP_give Y l0 q5 h).bind fun q6 =>
      some (q6.1, q6.2)
    else
      (LP_fail Y l0 5 h).bind fun q7 =>
      some (q7.1, q7.2)
theorem ok_LP_buySet (Y : Ly) (l0 : Nat) (l1 : Int32) (h : Hp) (t0 : isO Y 11 l0) : AM Y 5 K_LP_buySet [.ref l0, .int l1] h (LP_buySet Y l0 l1 h) rI := by
  refine AM.of rfl (Nat.le_of_ble_eq_true rfl) ?_
  show AW Y 5 K_LP_buySet 0 [(0, .ref l0), (1, .int l1)] [] h (LP_buySet Y l0 l1 h) rI
  unfold LP_buySet
  refine aw_iload_n (pc := 0) d_LP_buySet_0 rfl 1 rfl ?_
  refine aw_if_lt (pc := 1) (tgt := 11) d_LP_buySet_1 (by decide) (fun c1 => ?_) (fun c1 => ?_)
  · refine aw_aload_n (pc := 11) d_LP_buySet_11 rfl 0 rfl ?_
    refine aw_iconst (pc := 12) (x := 5) d_LP_buySet_12 (by decide) ?_
    refine aw_cVrI (pc := 13) (ci := 11) (T := TX11) (N := 18) (As := [.int 5]) (st := []) (ok_LP_fail Y l0 5 h t0) okV_LP_fail rfl (by decide) t0 w3_114 d_LP_buySet_13 rfl (Nat.le_of_ble_eq_true rfl) rfl (Nat.le_of_ble_eq_true rfl) (fun q2 hq2 hTq2 => ?_)
    exact aw_ireturn (pc := 16) d_LP_buySet_16 rfl rfl
  · refine aw_iload_n (pc := 4) d_LP_buySet_4 rfl 1 rfl ?_
    refine aw_sipush (pc := 5) (x := 999) d_LP_buySet_5 (by decide) ?_
    refine aw_icmp_le (pc := 8) (tgt := 17) d_LP_buySet_8 (by decide) (fun c3 => ?_) (fun c3 => ?_)
    · refine aw_aload_n (pc := 17) d_LP_buySet_17 rfl 0 rfl ?_
      refine aw_aload_n (pc := 18) d_LP_buySet_18 rfl 0 rfl ?_
      refine gt_1109 (pc := 19) d_LP_buySet_19 w3_9 t0 (fun tt4 => ?_)
      refine aw_iload_n (pc := 22) d_LP_buySet_22 rfl 1 rfl ?_
      refine aw_cVpI (pc := 23) (ci := 4) (T := TX4) (N := 19) (As := [.int l1]) (st := [.ref l0]) (ok_Sh_bestOffers Y (hGr h 1109 l0) l1 h tt4) okV_Sh_bestOffers rfl (by decide) tt4 w6_87 d_LP_buySet_23 rfl (Nat.le_of_ble_eq_true rfl) rfl (Nat.le_of_ble_eq_true rfl) (fun q5 hq5 hTq5 => ?_)
      refine aw_cVrI (pc := 26) (ci := 11) (T := TX11) (N := 18) (As := [.int q5]) (st := []) (ok_LP_give Y l0 q5 h t0) okV_LP_give rfl (by decide) t0 w4_88 d_LP_buySet_26 rfl (Nat.le_of_ble_eq_true rfl) rfl (Nat.le_of_ble_eq_true rfl) (fun q6 hq6 hTq6 => ?_)
      exact aw_ireturn (pc := 29) d_LP_buySet_29 rfl rfl
    · refine aw_aload_n (pc := 11) d_LP_buySet_11 rfl 0 rfl ?_
      refine aw_iconst (pc := 12) (x := 5) d_LP_buySet_12 (by decide) ?_
      refine aw_cVrI (pc := 13) (ci := 11) (T := TX11) (N := 18) (As := [.int 5]) (st := []) (ok_LP_fail Y l0 5 h t0) okV_LP_fail rfl (by decide) t0 w3_114 d_LP_buySet_13 rfl (Nat.le_of_ble_eq_true rfl) rfl (Nat.le_of_ble_eq_true rfl) (fun q7 hq7 hTq7 => ?_)
      exact aw_ireturn (pc := 16) d_LP_buySet_16 rfl rfl
/-! LastPages$Shelf.hasReader(I)Z -/
theorem d_Sh_hasReader_0 : decode prog_6_method_8_code 0 = .ok (.iload_n 1, 1) := by decide +kernel
theorem d_Sh_hasReader_1 : decode prog_6_method_8_code 1 = .ok (.ifCond .lt 15, 3) := by decide +kernel
theorem d_Sh_hasReader_4 : decode prog_6_method_8_code 4 = .ok (.iload_n 1, 1) := by decide +kernel
theorem d_Sh_hasReader_5 : decode prog_6_method_8_code 5 = .ok (.aload_n 0, 1) := by decide +kernel
theorem d_Sh_hasReader_6 : decode prog_6_method_8_code 6 = .ok (.getfield 76, 3) := by decide +kernel
theorem d_Sh_hasReader_9 : decode prog_6_method_8_code 9 = .ok (.if_icmp .ge 7, 3) := by decide +kernel
theorem d_Sh_hasReader_12 : decode prog_6_method_8_code 12 = .ok (.iconst 1, 1) := by decide +kernel
theorem d_Sh_hasReader_13 : decode prog_6_method_8_code 13 = .ok (.goto 4, 3) := by decide +kernel
theorem d_Sh_hasReader_16 : decode prog_6_method_8_code 16 = .ok (.iconst 0, 1) := by decide +kernel
theorem d_Sh_hasReader_17 : decode prog_6_method_8_code 17 = .ok (.ireturn, 1) := by decide +kernel
def Sh_hasReader (Y : Ly) (l0 : Nat) (l1 : Int32) (h : Hp) : Option Bool :=
  if l1 < 0 then
    some false
  else
    if (hGi h 416 l0) ≤ l1 then
      some false
    else
      some true
theorem ok_Sh_hasReader (Y : Ly) (l0 : Nat) (l1 : Int32) (h : Hp) (t0 : isO Y 4 l0) : AM Y 0 K_Sh_hasReader [.ref l0, .int l1] h (Sh_hasReader Y l0 l1 h) (pZ h) := by
  refine AM.of rfl (Nat.le_of_ble_eq_true rfl) ?_
  show AW Y 0 K_Sh_hasReader 0 [(0, .ref l0), (1, .int l1)] [] h (Sh_hasReader Y l0 l1 h) (pZ h)
  unfold Sh_hasReader
  refine aw_iload_n (pc := 0) d_Sh_hasReader_0 rfl 1 rfl ?_
  refine aw_if_lt (pc := 1) (tgt := 16) d_Sh_hasReader_1 (by decide) (fun c1 => ?_) (fun c1 => ?_)
  · refine aw_iconst (pc := 16) (x := 0) d_Sh_hasReader_16 (by decide) ?_
    exact aw_zreturn (pc := 17) (b := false) d_Sh_hasReader_17 rfl rfl
  · refine aw_iload_n (pc := 4) d_Sh_hasReader_4 rfl 1 rfl ?_
    refine aw_aload_n (pc := 5) d_Sh_hasReader_5 rfl 0 rfl ?_
    refine gt_416 (pc := 6) d_Sh_hasReader_6 w2_163 t0 ?_
    refine aw_icmp_ge (pc := 9) (tgt := 16) d_Sh_hasReader_9 (by decide) (fun c2 => ?_) (fun c2 => ?_)
    · refine aw_iconst (pc := 16) (x := 0) d_Sh_hasReader_16 (by decide) ?_
      exact aw_zreturn (pc := 17) (b := false) d_Sh_hasReader_17 rfl rfl
    · refine aw_iconst (pc := 12) (x := 1) d_Sh_hasReader_12 (by decide) ?_
      refine aw_goto (pc := 13) (tgt := 17) d_Sh_hasReader_13 (by decide) ?_
      exact aw_zreturn (pc := 17) (b := true) d_Sh_hasReader_17 rfl rfl
/-! LastPages.call(IZ)Z -/
theorem d_LP_call_0 : decode prog_1_method_25_code 0 = .ok (.aload_n 0, 1) := by decide +kernel
theorem d_LP_call_1 : decode prog_1_method_25_code 1 = .ok (.getfield 68, 3) := by decide +kernel
theorem d_LP_call_4 : decode prog_1_method_25_code 4 = .ok (.iload_n 1, 1) := by decide +kernel
theorem d_LP_call_5 : decode prog_1_method_25_code 5 = .ok (.invokevirtual 306, 3) := by decide +kernel
theorem d_LP_call_8 : decode prog_1_method_25_code 8 = .ok (.ifCond .ne 9, 3) := by decide +kernel
theorem d_LP_call_11 : decode prog_1_method_25_code 11 = .ok (.aload_n 0, 1) := by decide +kernel
theorem d_LP_call_12 : decode prog_1_method_25_code 12 = .ok (.iconst 2, 1) := by decide +kernel
theorem d_LP_call_13 : decode prog_1_method_25_code 13 = .ok (.invokevirtual 113, 3) := by decide +kernel
theorem d_LP_call_16 : decode prog_1_method_25_code 16 = .ok (.ireturn, 1) := by decide +kernel
theorem d_LP_call_17 : decode prog_1_method_25_code 17 = .ok (.aload_n 0, 1) := by decide +kernel
theorem d_LP_call_18 : decode prog_1_method_25_code 18 = .ok (.getfield 68, 3) := by decide +kernel
theorem d_LP_call_21 : decode prog_1_method_25_code 21 = .ok (.getfield 236, 3) := by decide +kernel
theorem d_LP_call_24 : decode prog_1_method_25_code 24 = .ok (.iload_n 1, 1) := by decide +kernel
theorem d_LP_call_25 : decode prog_1_method_25_code 25 = .ok (.invokestatic 309, 3) := by decide +kernel
theorem d_LP_call_28 : decode prog_1_method_25_code 28 = .ok (.iload_n 2, 1) := by decide +kernel
theorem d_LP_call_29 : decode prog_1_method_25_code 29 = .ok (.if_icmp .ne 10, 3) := by decide +kernel
theorem d_LP_call_32 : decode prog_1_method_25_code 32 = .ok (.aload_n 0, 1) := by decide +kernel
theorem d_LP_call_33 : decode prog_1_method_25_code 33 = .ok (.bipush 9, 2) := by decide +kernel
theorem d_LP_call_35 : decode prog_1_method_25_code 35 = .ok (.invokevirtual 113, 3) := by decide +kernel
theorem d_LP_call_38 : decode prog_1_method_25_code 38 = .ok (.ireturn, 1) := by decide +kernel
theorem d_LP_call_39 : decode prog_1_method_25_code 39 = .ok (.aload_n 0, 1) := by decide +kernel
theorem d_LP_call_40 : decode prog_1_method_25_code 40 = .ok (.getfield 68, 3) := by decide +kernel
theorem d_LP_call_43 : decode prog_1_method_25_code 43 = .ok (.dup, 1) := by decide +kernel
theorem d_LP_call_44 : decode prog_1_method_25_code 44 = .ok (.getfield 236, 3) := by decide +kernel
theorem d_LP_call_47 : decode prog_1_method_25_code 47 = .ok (.iconst 1, 1) := by decide +kernel
theorem d_LP_call_48 : decode prog_1_method_25_code 48 = .ok (.iload_n 1, 1) := by decide +kernel
theorem d_LP_call_49 : decode prog_1_method_25_code 49 = .ok (.ishl, 1) := by decide +kernel
theorem d_LP_call_50 : decode prog_1_method_25_code 50 = .ok (.ixor, 1) := by decide +kernel
theorem d_LP_call_51 : decode prog_1_method_25_code 51 = .ok (.putfield 236, 3) := by decide +kernel
theorem d_LP_call_54 : decode prog_1_method_25_code 54 = .ok (.aload_n 0, 1) := by decide +kernel
theorem d_LP_call_55 : decode prog_1_method_25_code 55 = .ok (.invokevirtual 121, 3) := by decide +kernel
theorem d_LP_call_58 : decode prog_1_method_25_code 58 = .ok (.ireturn, 1) := by decide +kernel
def LP_call (Y : Ly) (l0 : Nat) (l1 : Int32) (l2 : Bool) (h : Hp) : Option (Bool × Hp) :=
  (Sh_hasReader Y (hGr h 1109 l0) l1 h).bind fun q2 =>
  if q2 = true then
    (LP_has Y (hGi h 417 (hGr h 1109 l0)) l1 h).bind fun q5 =>
    if (b2i q5) = (b2i l2) then
      (LP_refuse Y l0 9 h).bind fun q7 =>
      some (q7.1, q7.2)
    else
      letH (hSi h 417 (hGr h 1109 l0) ((hGi h 417 (hGr h 1109 l0)) ^^^ ((1 : Int32) <<< (l1 &&& 31)))) fun h9 =>
      (LP_agree Y l0 h9).bind fun q10 =>
      some (q10.1, q10.2)
  else
    (LP_refuse Y l0 2 h).bind fun q11 =>
    some (q11.1, q11.2)
theorem ok_LP_call (Y : Ly) (l0 : Nat) (l1 : Int32) (l2 : Bool) (h : Hp) (t0 : isO Y 11 l0) : AM Y 1 K_LP_call [.ref l0, .int l1, .int (b2i l2)] h (LP_call Y l0 l1 l2 h) rZ := by
  refine AM.of rfl (Nat.le_of_ble_eq_true rfl) ?_
  show AW Y 1 K_LP_call 0 [(0, .ref l0), (1, .int l1), (2, .int (b2i l2))] [] h (LP_call Y l0 l1 l2 h) rZ
  unfold LP_call
  refine aw_aload_n (pc := 0) d_LP_call_0 rfl 0 rfl ?_
  refine gt_1109 (pc := 1) d_LP_call_1 w3_9 t0 (fun tt1 => ?_)
  refine aw_iload_n (pc := 4) d_LP_call_4 rfl 1 rfl ?_
  refine aw_cVpZ (pc := 5) (ci := 4) (T := TX4) (N := 19) (As := [.int l1]) (st := []) (ok_Sh_hasReader Y (hGr h 1109 l0) l1 h tt1) okV_Sh_hasReader rfl (by decide) tt1 w5_75 d_LP_call_5 rfl (Nat.le_of_ble_eq_true rfl) rfl (Nat.le_of_ble_eq_true rfl) (fun q2 hq2 hTq2 => ?_)
  refine aw_bne (pc := 8) (tgt := 17) d_LP_call_8 (by decide) (fun c3 => ?_) (fun c3 => ?_)
  · refine aw_aload_n (pc := 17) d_LP_call_17 rfl 0 rfl ?_
    refine gt_1109 (pc := 18) d_LP_call_18 w3_9 t0 (fun tt4 => ?_)
    refine gt_417 (pc := 21) d_LP_call_21 w2_169 tt4 ?_
    refine aw_iload_n (pc := 24) d_LP_call_24 rfl 1 rfl ?_
    refine aw_cSpZ (pc := 25) (As := [.int (hGi h 417 (hGr h 1109 l0)), .int l1]) (st := []) (ok_LP_has Y (hGi h 417 (hGr h 1109 l0)) l1 h) okS_LP_has w5_79 d_LP_call_25 rfl (Nat.le_of_ble_eq_true rfl) rfl (Nat.le_of_ble_eq_true rfl) (fun q5 hq5 hTq5 => ?_)
    refine aw_iload_n (pc := 28) d_LP_call_28 rfl 2 rfl ?_
    refine aw_icmp_ne (pc := 29) (tgt := 39) d_LP_call_29 (by decide) (fun c6 => ?_) (fun c6 => ?_)
    · refine aw_aload_n (pc := 32) d_LP_call_32 rfl 0 rfl ?_
      refine aw_bipush (pc := 33) (x := 9) d_LP_call_33 (by decide) ?_
      refine aw_cVrZ (pc := 35) (ci := 11) (T := TX11) (N := 18) (As := [.int 9]) (st := []) (ok_LP_refuse Y l0 9 h t0) okV_LP_refuse rfl (by decide) t0 w3_75 d_LP_call_35 rfl (Nat.le_of_ble_eq_true rfl) rfl (Nat.le_of_ble_eq_true rfl) (fun q7 hq7 hTq7 => ?_)
      exact aw_zreturn (pc := 38) (b := q7.1) d_LP_call_38 rfl rfl
    · refine aw_aload_n (pc := 39) d_LP_call_39 rfl 0 rfl ?_
      refine gt_1109 (pc := 40) d_LP_call_40 w3_9 t0 (fun tt8 => ?_)
      refine aw_dup (pc := 43) d_LP_call_43 rfl ?_
      refine gt_417 (pc := 44) d_LP_call_44 w2_169 tt8 ?_
      refine aw_iconst (pc := 47) (x := 1) d_LP_call_47 (by decide) ?_
      refine aw_iload_n (pc := 48) d_LP_call_48 rfl 1 rfl ?_
      refine aw_ishl (pc := 49) d_LP_call_49 ?_
      refine aw_ixor (pc := 50) d_LP_call_50 ?_
      refine pt_417 (pc := 51) d_LP_call_51 w2_169 tt8 ?_
      refine aw_letH (fun h9 => ?_)
      refine aw_aload_n (pc := 54) d_LP_call_54 rfl 0 rfl ?_
      refine aw_cVrZ (pc := 55) (ci := 11) (T := TX11) (N := 18) (As := []) (st := []) (ok_LP_agree Y l0 h9 t0) okV_LP_agree rfl (by decide) t0 w3_86 d_LP_call_55 rfl (Nat.le_of_ble_eq_true rfl) rfl (Nat.le_of_ble_eq_true rfl) (fun q10 hq10 hTq10 => ?_)
      exact aw_zreturn (pc := 58) (b := q10.1) d_LP_call_58 rfl rfl
  · refine aw_aload_n (pc := 11) d_LP_call_11 rfl 0 rfl ?_
    refine aw_iconst (pc := 12) (x := 2) d_LP_call_12 (by decide) ?_
    refine aw_cVrZ (pc := 13) (ci := 11) (T := TX11) (N := 18) (As := [.int 2]) (st := []) (ok_LP_refuse Y l0 2 h t0) okV_LP_refuse rfl (by decide) t0 w3_75 d_LP_call_13 rfl (Nat.le_of_ble_eq_true rfl) rfl (Nat.le_of_ble_eq_true rfl) (fun q11 hq11 hTq11 => ?_)
    exact aw_zreturn (pc := 16) (b := q11.1) d_LP_call_16 rfl rfl
/-! LastPages.commonDivisor(JJ)J -/
theorem d_LP_commonDivisor_0 : decode prog_1_method_74_code 0 = .ok (.lload_n 0, 1) := by decide +kernel
theorem d_LP_commonDivisor_1 : decode prog_1_method_74_code 1 = .ok (.lstore 4, 2) := by decide +kernel
theorem d_LP_commonDivisor_3 : decode prog_1_method_74_code 3 = .ok (.lload_n 2, 1) := by decide +kernel
theorem d_LP_commonDivisor_4 : decode prog_1_method_74_code 4 = .ok (.lstore 6, 2) := by decide +kernel
theorem d_LP_commonDivisor_6 : decode prog_1_method_74_code 6 = .ok (.iconst 0, 1) := by decide +kernel
theorem d_LP_commonDivisor_7 : decode prog_1_method_74_code 7 = .ok (.istore 8, 2) := by decide +kernel
theorem d_LP_commonDivisor_9 : decode prog_1_method_74_code 9 = .ok (.iload 8, 2) := by decide +kernel
theorem d_LP_commonDivisor_11 : decode prog_1_method_74_code 11 = .ok (.bipush 100, 2) := by decide +kernel
theorem d_LP_commonDivisor_13 : decode prog_1_method_74_code 13 = .ok (.if_icmp .ge 31, 3) := by decide +kernel
theorem d_LP_commonDivisor_16 : decode prog_1_method_74_code 16 = .ok (.lload 6, 2) := by decide +kernel
theorem d_LP_commonDivisor_18 : decode prog_1_method_74_code 18 = .ok (.lconst 0, 1) := by decide +kernel
theorem d_LP_commonDivisor_19 : decode prog_1_method_74_code 19 = .ok (.lcmp, 1) := by decide +kernel
theorem d_LP_commonDivisor_20 : decode prog_1_method_74_code 20 = .ok (.ifCond .eq 24, 3) := by decide +kernel
theorem d_LP_commonDivisor_23 : decode prog_1_method_74_code 23 = .ok (.lload 4, 2) := by decide +kernel
theorem d_LP_commonDivisor_25 : decode prog_1_method_74_code 25 = .ok (.lload 6, 2) := by decide +kernel
theorem d_LP_commonDivisor_27 : decode prog_1_method_74_code 27 = .ok (.lrem, 1) := by decide +kernel
theorem d_LP_commonDivisor_28 : decode prog_1_method_74_code 28 = .ok (.lstore 9, 2) := by decide +kernel
theorem d_LP_commonDivisor_30 : decode prog_1_method_74_code 30 = .ok (.lload 6, 2) := by decide +kernel
theorem d_LP_commonDivisor_32 : decode prog_1_method_74_code 32 = .ok (.lstore 4, 2) := by decide +kernel
theorem d_LP_commonDivisor_34 : decode prog_1_method_74_code 34 = .ok (.lload 9, 2) := by decide +kernel
theorem d_LP_commonDivisor_36 : decode prog_1_method_74_code 36 = .ok (.lstore 6, 2) := by decide +kernel
theorem d_LP_commonDivisor_38 : decode prog_1_method_74_code 38 = .ok (.iinc 8 1, 3) := by decide +kernel
theorem d_LP_commonDivisor_41 : decode prog_1_method_74_code 41 = .ok (.goto (-32), 3) := by decide +kernel
theorem d_LP_commonDivisor_44 : decode prog_1_method_74_code 44 = .ok (.lload 4, 2) := by decide +kernel
theorem d_LP_commonDivisor_46 : decode prog_1_method_74_code 46 = .ok (.lreturn, 1) := by decide +kernel
def LP_commonDivisor_L9 (Y : Ly) (h : Hp) : Nat → Int64 → Int64 → Int32 → Option Int64
  | 0, _, _, _ => none
  | F + 1, l4, l6, l8 =>
    if 100 ≤ l8 then
      some l4
    else
      if l6 = 0 then
        some l4
      else
        if l6 = 0 then none else
        LP_commonDivisor_L9 Y h F l6 (l4 - l4 / l6 * l6) (l8 + 1)
theorem LP_commonDivisor_L9_ok (Y : Ly) (h : Hp) : ∀ (F : Nat) (l4 : Int64) (l6 : Int64) (l8 : Int32), AW Y 0 K_LP_commonDivisor 9 [(4, .long l4), (6, .long l6), (8, .int l8)] [] h (LP_commonDivisor_L9 Y h F l4 l6 l8) (pL h) := by
  intro F
  induction F with
  | zero =>
    intro l4 l6 l8
    exact aw_none
  | succ F ih =>
    intro l4 l6 l8
    unfold LP_commonDivisor_L9
    refine aw_iload (pc := 9) d_LP_commonDivisor_9 2 rfl ?_
    refine aw_bipush (pc := 11) (x := 100) d_LP_commonDivisor_11 (by decide) ?_
    refine aw_icmp_ge (pc := 13) (tgt := 44) d_LP_commonDivisor_13 (by decide) (fun c1 => ?_) (fun c1 => ?_)
    · refine aw_lload (pc := 44) d_LP_commonDivisor_44 0 rfl ?_
      exact aw_lreturn (pc := 46) d_LP_commonDivisor_46 rfl rfl
    · refine aw_lload (pc := 16) d_LP_commonDivisor_16 1 rfl ?_
      refine aw_lconst (pc := 18) (x := 0) d_LP_commonDivisor_18 (by decide) ?_
      refine aw_lcmp_eq (pc := 19) (tgt := 44) d_LP_commonDivisor_19 d_LP_commonDivisor_20 (by decide) (fun c2 => ?_) (fun c2 => ?_)
      · refine aw_lload (pc := 44) d_LP_commonDivisor_44 0 rfl ?_
        exact aw_lreturn (pc := 46) d_LP_commonDivisor_46 rfl rfl
      · refine aw_lload (pc := 23) d_LP_commonDivisor_23 0 rfl ?_
        refine aw_lload (pc := 25) d_LP_commonDivisor_25 1 rfl ?_
        refine aw_cases (fun _ => aw_none) (fun c3 => ?_)
        refine aw_lrem (pc := 27) d_LP_commonDivisor_27 c3 ?_
        refine aw_lstore (pc := 28) (lv' := [(9, .long (l4 - l4 / l6 * l6)), (4, .long l4), (6, .long l6), (8, .int l8)]) d_LP_commonDivisor_28 (by decide) rfl ?_
        refine aw_lload (pc := 30) d_LP_commonDivisor_30 2 rfl ?_
        refine aw_lstore (pc := 32) (lv' := [(4, .long l6), (9, .long (l4 - l4 / l6 * l6)), (6, .long l6), (8, .int l8)]) d_LP_commonDivisor_32 (by decide) rfl ?_
        refine aw_lload (pc := 34) d_LP_commonDivisor_34 1 rfl ?_
        refine aw_lstore (pc := 36) (lv' := [(6, .long (l4 - l4 / l6 * l6)), (4, .long l6), (9, .long (l4 - l4 / l6 * l6)), (8, .int l8)]) d_LP_commonDivisor_36 (by decide) rfl ?_
        refine aw_iinc (pc := 38) (w := l8 + 1) (lv' := [(8, .int (l8 + 1)), (6, .long (l4 - l4 / l6 * l6)), (4, .long l6), (9, .long (l4 - l4 / l6 * l6))]) d_LP_commonDivisor_38 3 rfl rfl (by decide) rfl ?_
        refine aw_goto (pc := 41) (tgt := 9) d_LP_commonDivisor_41 (by decide) ?_
        exact aw_lv [2, 1, 0] rfl (ih l6 (l4 - l4 / l6 * l6) (l8 + 1))
def LP_commonDivisor (Y : Ly) (l0 : Int64) (l2 : Int64) (h : Hp) : Option Int64 :=
  LP_commonDivisor_L9 Y h FU l0 l2 0
theorem ok_LP_commonDivisor (Y : Ly) (l0 : Int64) (l2 : Int64) (h : Hp) : AM Y 0 K_LP_commonDivisor [.long l0, .long l2] h (LP_commonDivisor Y l0 l2 h) (pL h) := by
  refine AM.of rfl (Nat.le_of_ble_eq_true rfl) ?_
  show AW Y 0 K_LP_commonDivisor 0 [(0, .long l0), (2, .long l2)] [] h (LP_commonDivisor Y l0 l2 h) (pL h)
  unfold LP_commonDivisor
  refine aw_lload_n (pc := 0) d_LP_commonDivisor_0 rfl 0 rfl ?_
  refine aw_lstore (pc := 1) (lv' := [(4, .long l0), (0, .long l0), (2, .long l2)]) d_LP_commonDivisor_1 (by decide) rfl ?_
  refine aw_lload_n (pc := 3) d_LP_commonDivisor_3 rfl 2 rfl ?_
  refine aw_lstore (pc := 4) (lv' := [(6, .long l2), (4, .long l0), (0, .long l0), (2, .long l2)]) d_LP_commonDivisor_4 (by decide) rfl ?_
  refine aw_iconst (pc := 6) (x := 0) d_LP_commonDivisor_6 (by decide) ?_
  refine aw_istore (pc := 7) (lv' := [(8, .int 0), (6, .long l2), (4, .long l0), (0, .long l0), (2, .long l2)]) d_LP_commonDivisor_7 (by decide) rfl ?_
  exact aw_lv [2, 1, 0] rfl (LP_commonDivisor_L9_ok Y h FU l0 l2 0)
/-! LastPages.tellFraction(JJ)V -/
theorem d_LP_tellFraction_0 : decode prog_1_method_73_code 0 = .ok (.lload_n 1, 1) := by decide +kernel
theorem d_LP_tellFraction_1 : decode prog_1_method_73_code 1 = .ok (.lload_n 3, 1) := by decide +kernel
theorem d_LP_tellFraction_2 : decode prog_1_method_73_code 2 = .ok (.invokestatic 449, 3) := by decide +kernel
theorem d_LP_tellFraction_5 : decode prog_1_method_73_code 5 = .ok (.lstore 5, 2) := by decide +kernel
theorem d_LP_tellFraction_7 : decode prog_1_method_73_code 7 = .ok (.lload 5, 2) := by decide +kernel
theorem d_LP_tellFraction_9 : decode prog_1_method_73_code 9 = .ok (.lconst 0, 1) := by decide +kernel
theorem d_LP_tellFraction_10 : decode prog_1_method_73_code 10 = .ok (.lcmp, 1) := by decide +kernel
theorem d_LP_tellFraction_11 : decode prog_1_method_73_code 11 = .ok (.ifCond .le 19, 3) := by decide +kernel
theorem d_LP_tellFraction_14 : decode prog_1_method_73_code 14 = .ok (.aload_n 0, 1) := by decide +kernel
theorem d_LP_tellFraction_15 : decode prog_1_method_73_code 15 = .ok (.lload_n 1, 1) := by decide +kernel
theorem d_LP_tellFraction_16 : decode prog_1_method_73_code 16 = .ok (.lload 5, 2) := by decide +kernel
theorem d_LP_tellFraction_18 : decode prog_1_method_73_code 18 = .ok (.ldiv, 1) := by decide +kernel
theorem d_LP_tellFraction_19 : decode prog_1_method_73_code 19 = .ok (.putfield 86, 3) := by decide +kernel
theorem d_LP_tellFraction_22 : decode prog_1_method_73_code 22 = .ok (.aload_n 0, 1) := by decide +kernel
theorem d_LP_tellFraction_23 : decode prog_1_method_73_code 23 = .ok (.lload_n 3, 1) := by decide +kernel
theorem d_LP_tellFraction_24 : decode prog_1_method_73_code 24 = .ok (.lload 5, 2) := by decide +kernel
theorem d_LP_tellFraction_26 : decode prog_1_method_73_code 26 = .ok (.ldiv, 1) := by decide +kernel
theorem d_LP_tellFraction_27 : decode prog_1_method_73_code 27 = .ok (.putfield 90, 3) := by decide +kernel
theorem d_LP_tellFraction_30 : decode prog_1_method_73_code 30 = .ok (.return_, 1) := by decide +kernel
def LP_tellFraction (Y : Ly) (l0 : Nat) (l1 : Int64) (l3 : Int64) (h : Hp) : Option Hp :=
  (LP_commonDivisor Y l1 l3 h).bind fun q1 =>
  if q1 ≤ 0 then
    some h
  else
    if q1 = 0 then none else
    letH (hSl h 1113 l0 (l1 / q1)) fun h4 =>
    if q1 = 0 then none else
    letH (hSl h4 1114 l0 (l3 / q1)) fun h6 =>
    some h6
theorem ok_LP_tellFraction (Y : Ly) (l0 : Nat) (l1 : Int64) (l3 : Int64) (h : Hp) (t0 : isO Y 11 l0) : AM Y 1 K_LP_tellFraction [.ref l0, .long l1, .long l3] h (LP_tellFraction Y l0 l1 l3 h) rV := by
  refine AM.of rfl (Nat.le_of_ble_eq_true rfl) ?_
  show AW Y 1 K_LP_tellFraction 0 [(0, .ref l0), (1, .long l1), (3, .long l3)] [] h (LP_tellFraction Y l0 l1 l3 h) rV
  unfold LP_tellFraction
  refine aw_lload_n (pc := 0) d_LP_tellFraction_0 rfl 1 rfl ?_
  refine aw_lload_n (pc := 1) d_LP_tellFraction_1 rfl 2 rfl ?_
  refine aw_cSpL (pc := 2) (As := [.long l1, .long l3]) (st := []) (ok_LP_commonDivisor Y l1 l3 h) okS_LP_commonDivisor w5_169 d_LP_tellFraction_2 rfl (Nat.le_of_ble_eq_true rfl) rfl (Nat.le_of_ble_eq_true rfl) (fun q1 hq1 hTq1 => ?_)
  refine aw_lstore (pc := 5) (lv' := [(5, .long q1), (0, .ref l0), (1, .long l1), (3, .long l3)]) d_LP_tellFraction_5 (by decide) rfl ?_
  refine aw_lload (pc := 7) d_LP_tellFraction_7 0 rfl ?_
  refine aw_lconst (pc := 9) (x := 0) d_LP_tellFraction_9 (by decide) ?_
  refine aw_lcmp_le (pc := 10) (tgt := 30) d_LP_tellFraction_10 d_LP_tellFraction_11 (by decide) (fun c2 => ?_) (fun c2 => ?_)
  · exact aw_return (pc := 30) d_LP_tellFraction_30 rfl rfl
  · refine aw_aload_n (pc := 14) d_LP_tellFraction_14 rfl 1 rfl ?_
    refine aw_lload_n (pc := 15) d_LP_tellFraction_15 rfl 2 rfl ?_
    refine aw_lload (pc := 16) d_LP_tellFraction_16 0 rfl ?_
    refine aw_cases (fun _ => aw_none) (fun c3 => ?_)
    refine aw_ldiv (pc := 18) d_LP_tellFraction_18 c3 ?_
    refine pt_1113 (pc := 19) d_LP_tellFraction_19 w3_13 t0 ?_
    refine aw_letH (fun h4 => ?_)
    refine aw_aload_n (pc := 22) d_LP_tellFraction_22 rfl 1 rfl ?_
    refine aw_lload_n (pc := 23) d_LP_tellFraction_23 rfl 3 rfl ?_
    refine aw_lload (pc := 24) d_LP_tellFraction_24 0 rfl ?_
    refine aw_cases (fun _ => aw_none) (fun c5 => ?_)
    refine aw_ldiv (pc := 26) d_LP_tellFraction_26 c5 ?_
    refine pt_1114 (pc := 27) d_LP_tellFraction_27 w3_14 t0 ?_
    refine aw_letH (fun h6 => ?_)
    exact aw_return (pc := 30) d_LP_tellFraction_30 rfl rfl
/-! LastPages.chance(III)Z -/
theorem d_LP_chance_0 : decode prog_1_method_34_code 0 = .ok (.aload_n 0, 1) := by decide +kernel
theorem d_LP_chance_1 : decode prog_1_method_34_code 1 = .ok (.getfield 68, 3) := by decide +kernel
theorem d_LP_chance_4 : decode prog_1_method_34_code 4 = .ok (.iload_n 1, 1) := by decide +kernel
theorem d_LP_chance_5 : decode prog_1_method_34_code 5 = .ok (.invokevirtual 255, 3) := by decide +kernel
theorem d_LP_chance_8 : decode prog_1_method_34_code 8 = .ok (.ifCond .eq 17, 3) := by decide +kernel
theorem d_LP_chance_11 : decode prog_1_method_34_code 11 = .ok (.aload_n 0, 1) := by decide +kernel
theorem d_LP_chance_12 : decode prog_1_method_34_code 12 = .ok (.getfield 68, 3) := by decide +kernel
theorem d_LP_chance_15 : decode prog_1_method_34_code 15 = .ok (.getfield 193, 3) := by decide +kernel
theorem d_LP_chance_18 : decode prog_1_method_34_code 18 = .ok (.iload_n 3, 1) := by decide +kernel
theorem d_LP_chance_19 : decode prog_1_method_34_code 19 = .ok (.invokevirtual 242, 3) := by decide +kernel
theorem d_LP_chance_22 : decode prog_1_method_34_code 22 = .ok (.ifCond .ne 9, 3) := by decide +kernel
theorem d_LP_chance_25 : decode prog_1_method_34_code 25 = .ok (.aload_n 0, 1) := by decide +kernel
theorem d_LP_chance_26 : decode prog_1_method_34_code 26 = .ok (.iconst 2, 1) := by decide +kernel
theorem d_LP_chance_27 : decode prog_1_method_34_code 27 = .ok (.invokevirtual 113, 3) := by decide +kernel
theorem d_LP_chance_30 : decode prog_1_method_34_code 30 = .ok (.ireturn, 1) := by decide +kernel
theorem d_LP_chance_31 : decode prog_1_method_34_code 31 = .ok (.aload_n 0, 1) := by decide +kernel
theorem d_LP_chance_32 : decode prog_1_method_34_code 32 = .ok (.iload_n 1, 1) := by decide +kernel
theorem d_LP_chance_33 : decode prog_1_method_34_code 33 = .ok (.iload_n 2, 1) := by decide +kernel
theorem d_LP_chance_34 : decode prog_1_method_34_code 34 = .ok (.invokevirtual 329, 3) := by decide +kernel
theorem d_LP_chance_37 : decode prog_1_method_34_code 37 = .ok (.istore 4, 2) := by decide +kernel
theorem d_LP_chance_39 : decode prog_1_method_34_code 39 = .ok (.iload 4, 2) := by decide +kernel
theorem d_LP_chance_41 : decode prog_1_method_34_code 41 = .ok (.ifCond .eq 10, 3) := by decide +kernel
theorem d_LP_chance_44 : decode prog_1_method_34_code 44 = .ok (.aload_n 0, 1) := by decide +kernel
theorem d_LP_chance_45 : decode prog_1_method_34_code 45 = .ok (.iload 4, 2) := by decide +kernel
theorem d_LP_chance_47 : decode prog_1_method_34_code 47 = .ok (.invokevirtual 113, 3) := by decide +kernel
theorem d_LP_chance_50 : decode prog_1_method_34_code 50 = .ok (.ireturn, 1) := by decide +kernel
theorem d_LP_chance_51 : decode prog_1_method_34_code 51 = .ok (.aload_n 0, 1) := by decide +kernel
theorem d_LP_chance_52 : decode prog_1_method_34_code 52 = .ok (.getfield 45, 3) := by decide +kernel
theorem d_LP_chance_55 : decode prog_1_method_34_code 55 = .ok (.aload_n 0, 1) := by decide +kernel
theorem d_LP_chance_56 : decode prog_1_method_34_code 56 = .ok (.getfield 68, 3) := by decide +kernel
theorem d_LP_chance_59 : decode prog_1_method_34_code 59 = .ok (.iload_n 1, 1) := by decide +kernel
theorem d_LP_chance_60 : decode prog_1_method_34_code 60 = .ok (.aload_n 0, 1) := by decide +kernel
theorem d_LP_chance_61 : decode prog_1_method_34_code 61 = .ok (.getfield 68, 3) := by decide +kernel
theorem d_LP_chance_64 : decode prog_1_method_34_code 64 = .ok (.getfield 236, 3) := by decide +kernel
theorem d_LP_chance_67 : decode prog_1_method_34_code 67 = .ok (.invokevirtual 322, 3) := by decide +kernel
theorem d_LP_chance_70 : decode prog_1_method_34_code 70 = .ok (.lstore 5, 2) := by decide +kernel
theorem d_LP_chance_72 : decode prog_1_method_34_code 72 = .ok (.lload 5, 2) := by decide +kernel
theorem d_LP_chance_74 : decode prog_1_method_34_code 74 = .ok (.lconst 0, 1) := by decide +kernel
theorem d_LP_chance_75 : decode prog_1_method_34_code 75 = .ok (.lcmp, 1) := by decide +kernel
theorem d_LP_chance_76 : decode prog_1_method_34_code 76 = .ok (.ifCond .ne 10, 3) := by decide +kernel
theorem d_LP_chance_79 : decode prog_1_method_34_code 79 = .ok (.aload_n 0, 1) := by decide +kernel
theorem d_LP_chance_80 : decode prog_1_method_34_code 80 = .ok (.bipush 8, 2) := by decide +kernel
theorem d_LP_chance_82 : decode prog_1_method_34_code 82 = .ok (.invokevirtual 113, 3) := by decide +kernel
theorem d_LP_chance_85 : decode prog_1_method_34_code 85 = .ok (.ireturn, 1) := by decide +kernel
theorem d_LP_chance_86 : decode prog_1_method_34_code 86 = .ok (.aload_n 0, 1) := by decide +kernel
theorem d_LP_chance_87 : decode prog_1_method_34_code 87 = .ok (.getfield 45, 3) := by decide +kernel
theorem d_LP_chance_90 : decode prog_1_method_34_code 90 = .ok (.invokevirtual 337, 3) := by decide +kernel
theorem d_LP_chance_93 : decode prog_1_method_34_code 93 = .ok (.aload_n 0, 1) := by decide +kernel
theorem d_LP_chance_94 : decode prog_1_method_34_code 94 = .ok (.aload_n 0, 1) := by decide +kernel
theorem d_LP_chance_95 : decode prog_1_method_34_code 95 = .ok (.getfield 45, 3) := by decide +kernel
theorem d_LP_chance_98 : decode prog_1_method_34_code 98 = .ok (.iload_n 2, 1) := by decide +kernel
theorem d_LP_chance_99 : decode prog_1_method_34_code 99 = .ok (.iconst 1, 1) := by decide +kernel
theorem d_LP_chance_100 : decode prog_1_method_34_code 100 = .ok (.isub, 1) := by decide +kernel
theorem d_LP_chance_101 : decode prog_1_method_34_code 101 = .ok (.iload_n 3, 1) := by decide +kernel
theorem d_LP_chance_102 : decode prog_1_method_34_code 102 = .ok (.invokevirtual 343, 3) := by decide +kernel
theorem d_LP_chance_105 : decode prog_1_method_34_code 105 = .ok (.lload 5, 2) := by decide +kernel
theorem d_LP_chance_107 : decode prog_1_method_34_code 107 = .ok (.invokevirtual 347, 3) := by decide +kernel
theorem d_LP_chance_110 : decode prog_1_method_34_code 110 = .ok (.aload_n 0, 1) := by decide +kernel
theorem d_LP_chance_111 : decode prog_1_method_34_code 111 = .ok (.invokevirtual 121, 3) := by decide +kernel
theorem d_LP_chance_114 : decode prog_1_method_34_code 114 = .ok (.ireturn, 1) := by decide +kernel
def LP_chance (Y : Ly) (l0 : Nat) (l1 : Int32) (l2 : Int32) (l3 : Int32) (h : Hp) : Option (Bool × Hp) :=
  (Sh_hasBook Y (hGr h 1109 l0) l1 h).bind fun q2 =>
  if q2 = true then
    (St_hasTurn Y (hGr h 400 (hGr h 1109 l0)) l3 h).bind fun q6 =>
    if q6 = true then
      (LP_whyNoMissingPlace Y l0 l1 l2 h).bind fun q8 =>
      if q8 = 0 then
        (En_countOf Y (hGr h 1105 l0) (hGr h 1109 l0) l1 (hGi h 417 (hGr h 1109 l0)) h).bind fun q13 =>
        if q13.1 = 0 then
          (LP_refuse Y l0 8 q13.2).bind fun q15 =>
          some (q15.1, q15.2)
        else
          (En_countBefore Y (hGr q13.2 1105 l0) q13.2).bind fun q17 =>
          (En_countWith Y (hGr q17 1105 l0) (l2 - 1) l3 q17).bind fun q19 =>
          (LP_tellFraction Y l0 q19 q13.1 q17).bind fun q20 =>
          (LP_agree Y l0 q20).bind fun q21 =>
          some (q21.1, q21.2)
      else
        (LP_refuse Y l0 q8 h).bind fun q22 =>
        some (q22.1, q22.2)
    else
      (LP_refuse Y l0 2 h).bind fun q23 =>
      some (q23.1, q23.2)
  else
    (LP_refuse Y l0 2 h).bind fun q24 =>
    some (q24.1, q24.2)
theorem ok_LP_chance (Y : Ly) (l0 : Nat) (l1 : Int32) (l2 : Int32) (l3 : Int32) (h : Hp) (t0 : isO Y 11 l0) : AM Y 4 K_LP_chance [.ref l0, .int l1, .int l2, .int l3] h (LP_chance Y l0 l1 l2 l3 h) rZ := by
  refine AM.of rfl (Nat.le_of_ble_eq_true rfl) ?_
  show AW Y 4 K_LP_chance 0 [(0, .ref l0), (1, .int l1), (2, .int l2), (3, .int l3)] [] h (LP_chance Y l0 l1 l2 l3 h) rZ
  unfold LP_chance
  refine aw_aload_n (pc := 0) d_LP_chance_0 rfl 0 rfl ?_
  refine gt_1109 (pc := 1) d_LP_chance_1 w3_9 t0 (fun tt1 => ?_)
  refine aw_iload_n (pc := 4) d_LP_chance_4 rfl 1 rfl ?_
  refine aw_cVpZ (pc := 5) (ci := 4) (T := TX4) (N := 19) (As := [.int l1]) (st := []) (ok_Sh_hasBook Y (hGr h 1109 l0) l1 h tt1) okV_Sh_hasBook rfl (by decide) tt1 w4_199 d_LP_chance_5 rfl (Nat.le_of_ble_eq_true rfl) rfl (Nat.le_of_ble_eq_true rfl) (fun q2 hq2 hTq2 => ?_)
  refine aw_beq (pc := 8) (tgt := 25) d_LP_chance_8 (by decide) (fun c3 => ?_) (fun c3 => ?_)
  · refine aw_aload_n (pc := 11) d_LP_chance_11 rfl 0 rfl ?_
    refine gt_1109 (pc := 12) d_LP_chance_12 w3_9 t0 (fun tt4 => ?_)
    refine gt_400 (pc := 15) d_LP_chance_15 w2_129 tt4 (fun tt5 => ?_)
    refine aw_iload_n (pc := 18) d_LP_chance_18 rfl 3 rfl ?_
    refine aw_cVpZ (pc := 19) (ci := 6) (T := TX6) (N := 8) (As := [.int l3]) (st := []) (ok_St_hasTurn Y (hGr h 400 (hGr h 1109 l0)) l3 h tt5) okV_St_hasTurn rfl (by decide) tt5 w4_181 d_LP_chance_19 rfl (Nat.le_of_ble_eq_true rfl) rfl (Nat.le_of_ble_eq_true rfl) (fun q6 hq6 hTq6 => ?_)
    refine aw_bne (pc := 22) (tgt := 31) d_LP_chance_22 (by decide) (fun c7 => ?_) (fun c7 => ?_)
    · refine aw_aload_n (pc := 31) d_LP_chance_31 rfl 0 rfl ?_
      refine aw_iload_n (pc := 32) d_LP_chance_32 rfl 1 rfl ?_
      refine aw_iload_n (pc := 33) d_LP_chance_33 rfl 2 rfl ?_
      refine aw_cVpI (pc := 34) (ci := 11) (T := TX11) (N := 18) (As := [.int l1, .int l2]) (st := []) (ok_LP_whyNoMissingPlace Y l0 l1 l2 h t0) okV_LP_whyNoMissingPlace rfl (by decide) t0 w5_127 d_LP_chance_34 rfl (Nat.le_of_ble_eq_true rfl) rfl (Nat.le_of_ble_eq_true rfl) (fun q8 hq8 hTq8 => ?_)
      refine aw_istore (pc := 37) (lv' := [(4, .int q8), (0, .ref l0), (1, .int l1), (2, .int l2), (3, .int l3)]) d_LP_chance_37 (by decide) rfl ?_
      refine aw_iload (pc := 39) d_LP_chance_39 0 rfl ?_
      refine aw_if_eq (pc := 41) (tgt := 51) d_LP_chance_41 (by decide) (fun c9 => ?_) (fun c9 => ?_)
      · refine aw_aload_n (pc := 51) d_LP_chance_51 rfl 1 rfl ?_
        refine gt_1105 (pc := 52) d_LP_chance_52 w3_5 t0 (fun tt10 => ?_)
        refine aw_aload_n (pc := 55) d_LP_chance_55 rfl 1 rfl ?_
        refine gt_1109 (pc := 56) d_LP_chance_56 w3_9 t0 (fun tt11 => ?_)
        refine aw_iload_n (pc := 59) d_LP_chance_59 rfl 2 rfl ?_
        refine aw_aload_n (pc := 60) d_LP_chance_60 rfl 1 rfl ?_
        refine gt_1109 (pc := 61) d_LP_chance_61 w3_9 t0 (fun tt12 => ?_)
        refine gt_417 (pc := 64) d_LP_chance_64 w2_169 tt12 ?_
        refine aw_cVrL (pc := 67) (ci := 0) (T := TX0) (N := 8) (As := [.ref (hGr h 1109 l0), .int l1, .int (hGi h 417 (hGr h 1109 l0))]) (st := []) (ok_En_countOf Y (hGr h 1105 l0) (hGr h 1109 l0) l1 (hGi h 417 (hGr h 1109 l0)) h tt10 tt11) okV_En_countOf rfl (by decide) tt10 w5_98 d_LP_chance_67 rfl (Nat.le_of_ble_eq_true rfl) rfl (Nat.le_of_ble_eq_true rfl) (fun q13 hq13 hTq13 => ?_)
        refine aw_lstore (pc := 70) (lv' := [(5, .long q13.1), (4, .int q8), (0, .ref l0), (1, .int l1), (2, .int l2), (3, .int l3)]) d_LP_chance_70 (by decide) rfl ?_
        refine aw_lload (pc := 72) d_LP_chance_72 0 rfl ?_
        refine aw_lconst (pc := 74) (x := 0) d_LP_chance_74 (by decide) ?_
        refine aw_lcmp_ne (pc := 75) (tgt := 86) d_LP_chance_75 d_LP_chance_76 (by decide) (fun c14 => ?_) (fun c14 => ?_)
        · refine aw_aload_n (pc := 79) d_LP_chance_79 rfl 2 rfl ?_
          refine aw_bipush (pc := 80) (x := 8) d_LP_chance_80 (by decide) ?_
          refine aw_cVrZ (pc := 82) (ci := 11) (T := TX11) (N := 18) (As := [.int 8]) (st := []) (ok_LP_refuse Y l0 8 q13.2 t0) okV_LP_refuse rfl (by decide) t0 w3_75 d_LP_chance_82 rfl (Nat.le_of_ble_eq_true rfl) rfl (Nat.le_of_ble_eq_true rfl) (fun q15 hq15 hTq15 => ?_)
          exact aw_zreturn (pc := 85) (b := q15.1) d_LP_chance_85 rfl rfl
        · refine aw_aload_n (pc := 86) d_LP_chance_86 rfl 2 rfl ?_
          refine gt_1105 (pc := 87) d_LP_chance_87 w3_5 t0 (fun tt16 => ?_)
          refine aw_cVrV (pc := 90) (ci := 0) (T := TX0) (N := 8) (As := []) (st := []) (ok_En_countBefore Y (hGr q13.2 1105 l0) q13.2 tt16) okV_En_countBefore rfl (by decide) tt16 w5_140 d_LP_chance_90 rfl (Nat.le_of_ble_eq_true rfl) rfl (Nat.le_of_ble_eq_true rfl) (fun q17 hq17 hTq17 => ?_)
          refine aw_aload_n (pc := 93) d_LP_chance_93 rfl 2 rfl ?_
          refine aw_aload_n (pc := 94) d_LP_chance_94 rfl 2 rfl ?_
          refine gt_1105 (pc := 95) d_LP_chance_95 w3_5 t0 (fun tt18 => ?_)
          refine aw_iload_n (pc := 98) d_LP_chance_98 rfl 4 rfl ?_
          refine aw_iconst (pc := 99) (x := 1) d_LP_chance_99 (by decide) ?_
          refine aw_isub (pc := 100) d_LP_chance_100 ?_
          refine aw_iload_n (pc := 101) d_LP_chance_101 rfl 5 rfl ?_
          refine aw_cVpL (pc := 102) (ci := 0) (T := TX0) (N := 8) (As := [.int (l2 - 1), .int l3]) (st := [.ref l0]) (ok_En_countWith Y (hGr q17 1105 l0) (l2 - 1) l3 q17 tt18) okV_En_countWith rfl (by decide) tt18 w5_164 d_LP_chance_102 rfl (Nat.le_of_ble_eq_true rfl) rfl (Nat.le_of_ble_eq_true rfl) (fun q19 hq19 hTq19 => ?_)
          refine aw_lload (pc := 105) d_LP_chance_105 0 rfl ?_
          refine aw_cVrV (pc := 107) (ci := 11) (T := TX11) (N := 18) (As := [.long q19, .long q13.1]) (st := []) (ok_LP_tellFraction Y l0 q19 q13.1 q17 t0) okV_LP_tellFraction rfl (by decide) t0 w5_165 d_LP_chance_107 rfl (Nat.le_of_ble_eq_true rfl) rfl (Nat.le_of_ble_eq_true rfl) (fun q20 hq20 hTq20 => ?_)
          refine aw_aload_n (pc := 110) d_LP_chance_110 rfl 2 rfl ?_
          refine aw_cVrZ (pc := 111) (ci := 11) (T := TX11) (N := 18) (As := []) (st := []) (ok_LP_agree Y l0 q20 t0) okV_LP_agree rfl (by decide) t0 w3_86 d_LP_chance_111 rfl (Nat.le_of_ble_eq_true rfl) rfl (Nat.le_of_ble_eq_true rfl) (fun q21 hq21 hTq21 => ?_)
          exact aw_zreturn (pc := 114) (b := q21.1) d_LP_chance_114 rfl rfl
      · refine aw_aload_n (pc := 44) d_LP_chance_44 rfl 1 rfl ?_
        refine aw_iload (pc := 45) d_LP_chance_45 0 rfl ?_
        refine aw_cVrZ (pc := 47) (ci := 11) (T := TX11) (N := 18) (As := [.int q8]) (st := []) (ok_LP_refuse Y l0 q8 h t0) okV_LP_refuse rfl (by decide) t0 w3_75 d_LP_chance_47 rfl (Nat.le_of_ble_eq_true rfl) rfl (Nat.le_of_ble_eq_true rfl) (fun q22 hq22 hTq22 => ?_)
        exact aw_zreturn (pc := 50) (b := q22.1) d_LP_chance_50 rfl rfl
    · refine aw_aload_n (pc := 25) d_LP_chance_25 rfl 0 rfl ?_
      refine aw_iconst (pc := 26) (x := 2) d_LP_chance_26 (by decide) ?_
      refine aw_cVrZ (pc := 27) (ci := 11) (T := TX11) (N := 18) (As := [.int 2]) (st := []) (ok_LP_refuse Y l0 2 h t0) okV_LP_refuse rfl (by decide) t0 w3_75 d_LP_chance_27 rfl (Nat.le_of_ble_eq_true rfl) rfl (Nat.le_of_ble_eq_true rfl) (fun q23 hq23 hTq23 => ?_)
      exact aw_zreturn (pc := 30) (b := q23.1) d_LP_chance_30 rfl rfl
  · refine aw_aload_n (pc := 25) d_LP_chance_25 rfl 0 rfl ?_
    refine aw_iconst (pc := 26) (x := 2) d_LP_chance_26 (by decide) ?_
    refine aw_cVrZ (pc := 27) (ci := 11) (T := TX11) (N := 18) (As := [.int 2]) (st := []) (ok_LP_refuse Y l0 2 h t0) okV_LP_refuse rfl (by decide) t0 w3_75 d_LP_chance_27 rfl (Nat.le_of_ble_eq_true rfl) rfl (Nat.le_of_ble_eq_true rfl) (fun q24 hq24 hTq24 => ?_)
    exact aw_zreturn (pc := 30) (b := q24.1) d_LP_chance_30 rfl rfl
/-! LastPages$Shelf.allBooks()I -/
theorem d_Sh_allBooks_0 : decode prog_6_method_16_code 0 = .ok (.iconst 1, 1) := by decide +kernel
theorem d_Sh_allBooks_1 : decode prog_6_method_16_code 1 = .ok (.aload_n 0, 1) := by decide +kernel
theorem d_Sh_allBooks_2 : decode prog_6_method_16_code 2 = .ok (.getfield 73, 3) := by decide +kernel
theorem d_Sh_allBooks_5 : decode prog_6_method_16_code 5 = .ok (.ishl, 1) := by decide +kernel
theorem d_Sh_allBooks_6 : decode prog_6_method_16_code 6 = .ok (.iconst 1, 1) := by decide +kernel
theorem d_Sh_allBooks_7 : decode prog_6_method_16_code 7 = .ok (.isub, 1) := by decide +kernel
theorem d_Sh_allBooks_8 : decode prog_6_method_16_code 8 = .ok (.ireturn, 1) := by decide +kernel
def Sh_allBooks (Y : Ly) (l0 : Nat) (h : Hp) : Option Int32 :=
  some (((1 : Int32) <<< ((hGi h 415 l0) &&& 31)) - 1)
theorem ok_Sh_allBooks (Y : Ly) (l0 : Nat) (h : Hp) (t0 : isO Y 4 l0) : AM Y 0 K_Sh_allBooks [.ref l0] h (Sh_allBooks Y l0 h) (pI h) := by
  refine AM.of rfl (Nat.le_of_ble_eq_true rfl) ?_
  show AW Y 0 K_Sh_allBooks 0 [(0, .ref l0)] [] h (Sh_allBooks Y l0 h) (pI h)
  unfold Sh_allBooks
  refine aw_iconst (pc := 0) (x := 1) d_Sh_allBooks_0 (by decide) ?_
  refine aw_aload_n (pc := 1) d_Sh_allBooks_1 rfl 0 rfl ?_
  refine gt_415 (pc := 2) d_Sh_allBooks_2 w2_158 t0 ?_
  refine aw_ishl (pc := 5) d_Sh_allBooks_5 ?_
  refine aw_iconst (pc := 6) (x := 1) d_Sh_allBooks_6 (by decide) ?_
  refine aw_isub (pc := 7) d_Sh_allBooks_7 ?_
  exact aw_ireturn (pc := 8) d_Sh_allBooks_8 rfl rfl
/-! LastPages$Shelf.leastCostToKnowAll()I -/
theorem d_Sh_leastCostToKnowAll_0 : decode prog_6_method_23_code 0 = .ok (.iconst (-1), 1) := by decide +kernel
theorem d_Sh_leastCostToKnowAll_1 : decode prog_6_method_23_code 1 = .ok (.istore_n 1, 1) := by decide +kernel
theorem d_Sh_leastCostToKnowAll_2 : decode prog_6_method_23_code 2 = .ok (.iconst 0, 1) := by decide +kernel
theorem d_Sh_leastCostToKnowAll_3 : decode prog_6_method_23_code 3 = .ok (.istore_n 2, 1) := by decide +kernel
theorem d_Sh_leastCostToKnowAll_4 : decode prog_6_method_23_code 4 = .ok (.iload_n 2, 1) := by decide +kernel
theorem d_Sh_leastCostToKnowAll_5 : decode prog_6_method_23_code 5 = .ok (.iconst 1, 1) := by decide +kernel
theorem d_Sh_leastCostToKnowAll_6 : decode prog_6_method_23_code 6 = .ok (.aload_n 0, 1) := by decide +kernel
theorem d_Sh_leastCostToKnowAll_7 : decode prog_6_method_23_code 7 = .ok (.getfield 23, 3) := by decide +kernel
theorem d_Sh_leastCostToKnowAll_10 : decode prog_6_method_23_code 10 = .ok (.getfield 88, 3) := by decide +kernel
theorem d_Sh_leastCostToKnowAll_13 : decode prog_6_method_23_code 13 = .ok (.ishl, 1) := by decide +kernel
theorem d_Sh_leastCostToKnowAll_14 : decode prog_6_method_23_code 14 = .ok (.if_icmp .ge 42, 3) := by decide +kernel
theorem d_Sh_leastCostToKnowAll_17 : decode prog_6_method_23_code 17 = .ok (.aload_n 0, 1) := by decide +kernel
theorem d_Sh_leastCostToKnowAll_18 : decode prog_6_method_23_code 18 = .ok (.getfield 23, 3) := by decide +kernel
theorem d_Sh_leastCostToKnowAll_21 : decode prog_6_method_23_code 21 = .ok (.iload_n 2, 1) := by decide +kernel
theorem d_Sh_leastCostToKnowAll_22 : decode prog_6_method_23_code 22 = .ok (.invokevirtual 131, 3) := by decide +kernel
theorem d_Sh_leastCostToKnowAll_25 : decode prog_6_method_23_code 25 = .ok (.istore_n 3, 1) := by decide +kernel
theorem d_Sh_leastCostToKnowAll_26 : decode prog_6_method_23_code 26 = .ok (.iload_n 1, 1) := by decide +kernel
theorem d_Sh_leastCostToKnowAll_27 : decode prog_6_method_23_code 27 = .ok (.iconst (-1), 1) := by decide +kernel
theorem d_Sh_leastCostToKnowAll_28 : decode prog_6_method_23_code 28 = .ok (.if_icmp .eq 8, 3) := by decide +kernel
theorem d_Sh_leastCostToKnowAll_31 : decode prog_6_method_23_code 31 = .ok (.iload_n 3, 1) := by decide +kernel
theorem d_Sh_leastCostToKnowAll_32 : decode prog_6_method_23_code 32 = .ok (.iload_n 1, 1) := by decide +kernel
theorem d_Sh_leastCostToKnowAll_33 : decode prog_6_method_23_code 33 = .ok (.if_icmp .ge 17, 3) := by decide +kernel
theorem d_Sh_leastCostToKnowAll_36 : decode prog_6_method_23_code 36 = .ok (.aload_n 0, 1) := by decide +kernel
theorem d_Sh_leastCostToKnowAll_37 : decode prog_6_method_23_code 37 = .ok (.iload_n 2, 1) := by decide +kernel
theorem d_Sh_leastCostToKnowAll_38 : decode prog_6_method_23_code 38 = .ok (.invokevirtual 137, 3) := by decide +kernel
theorem d_Sh_leastCostToKnowAll_41 : decode prog_6_method_23_code 41 = .ok (.aload_n 0, 1) := by decide +kernel
theorem d_Sh_leastCostToKnowAll_42 : decode prog_6_method_23_code 42 = .ok (.invokevirtual 148, 3) := by decide +kernel
theorem d_Sh_leastCostToKnowAll_45 : decode prog_6_method_23_code 45 = .ok (.if_icmp .ne 5, 3) := by decide +kernel
theorem d_Sh_leastCostToKnowAll_48 : decode prog_6_method_23_code 48 = .ok (.iload_n 3, 1) := by decide +kernel
theorem d_Sh_leastCostToKnowAll_49 : decode prog_6_method_23_code 49 = .ok (.istore_n 1, 1) := by decide +kernel
theorem d_Sh_leastCostToKnowAll_50 : decode prog_6_method_23_code 50 = .ok (.iinc 2 1, 3) := by decide +kernel
theorem d_Sh_leastCostToKnowAll_53 : decode prog_6_method_23_code 53 = .ok (.goto (-49), 3) := by decide +kernel
theorem d_Sh_leastCostToKnowAll_56 : decode prog_6_method_23_code 56 = .ok (.iload_n 1, 1) := by decide +kernel
theorem d_Sh_leastCostToKnowAll_57 : decode prog_6_method_23_code 57 = .ok (.ireturn, 1) := by decide +kernel
def Sh_leastCostToKnowAll_L4 (Y : Ly) (l0 : Nat) (h : Hp) : Nat → Int32 → Int32 → Option Int32
  | 0, _, _ => none
  | F + 1, l1, l2 =>
    if ((1 : Int32) <<< ((hGi h 302 (hGr h 401 l0)) &&& 31)) ≤ l2 then
      some l1
    else
      (Lo_costOfSet Y (hGr h 401 l0) l2 h).bind fun q4 =>
      if l1 = (-1) then
        (Sh_knownBy Y l0 l2 h).bind fun q6 =>
        (Sh_allBooks Y l0 h).bind fun q7 =>
        if q6 = q7 then
          Sh_leastCostToKnowAll_L4 Y l0 h F q4 (l2 + 1)
        else
          Sh_leastCostToKnowAll_L4 Y l0 h F l1 (l2 + 1)
      else
        if l1 ≤ q4 then
          Sh_leastCostToKnowAll_L4 Y l0 h F l1 (l2 + 1)
        else
          (Sh_knownBy Y l0 l2 h).bind fun q10 =>
          (Sh_allBooks Y l0 h).bind fun q11 =>
          if q10 = q11 then
            Sh_leastCostToKnowAll_L4 Y l0 h F q4 (l2 + 1)
          else
            Sh_leastCostToKnowAll_L4 Y l0 h F l1 (l2 + 1)
theorem Sh_leastCostToKnowAll_L4_ok (Y : Ly) (l0 : Nat) (h : Hp) (tl0 : isO Y 4 l0) : ∀ (F : Nat) (l1 : Int32) (l2 : Int32), AW Y 3 K_Sh_leastCostToKnowAll 4 [(0, .ref l0), (1, .int l1), (2, .int l2)] [] h (Sh_leastCostToKnowAll_L4 Y l0 h F l1 l2) (pI h) := by
  intro F
  induction F with
  | zero =>
    intro l1 l2
    exact aw_none
  | succ F ih =>
    intro l1 l2
    unfold Sh_leastCostToKnowAll_L4
    refine aw_iload_n (pc := 4) d_Sh_leastCostToKnowAll_4 rfl 2 rfl ?_
    refine aw_iconst (pc := 5) (x := 1) d_Sh_leastCostToKnowAll_5 (by decide) ?_
    refine aw_aload_n (pc := 6) d_Sh_leastCostToKnowAll_6 rfl 0 rfl ?_
    refine gt_401 (pc := 7) d_Sh_leastCostToKnowAll_7 w2_130 tl0 (fun tt1 => ?_)
    refine gt_302 (pc := 10) d_Sh_leastCostToKnowAll_10 w2_73 tt1 ?_
    refine aw_ishl (pc := 13) d_Sh_leastCostToKnowAll_13 ?_
    refine aw_icmp_ge (pc := 14) (tgt := 56) d_Sh_leastCostToKnowAll_14 (by decide) (fun c2 => ?_) (fun c2 => ?_)
    · refine aw_iload_n (pc := 56) d_Sh_leastCostToKnowAll_56 rfl 1 rfl ?_
      exact aw_ireturn (pc := 57) d_Sh_leastCostToKnowAll_57 rfl rfl
    · refine aw_aload_n (pc := 17) d_Sh_leastCostToKnowAll_17 rfl 0 rfl ?_
      refine gt_401 (pc := 18) d_Sh_leastCostToKnowAll_18 w2_130 tl0 (fun tt3 => ?_)
      refine aw_iload_n (pc := 21) d_Sh_leastCostToKnowAll_21 rfl 2 rfl ?_
      refine aw_cVpI (pc := 22) (ci := 3) (T := TX3) (N := 3) (As := [.int l2]) (st := []) (ok_Lo_costOfSet Y (hGr h 401 l0) l2 h tt3) okV_Lo_costOfSet rfl (by decide) tt3 w6_91 d_Sh_leastCostToKnowAll_22 rfl (Nat.le_of_ble_eq_true rfl) rfl (Nat.le_of_ble_eq_true rfl) (fun q4 hq4 hTq4 => ?_)
      refine aw_istore_n (pc := 25) (lv' := [(3, .int q4), (0, .ref l0), (1, .int l1), (2, .int l2)]) d_Sh_leastCostToKnowAll_25 rfl (by decide) rfl ?_
      refine aw_iload_n (pc := 26) d_Sh_leastCostToKnowAll_26 rfl 2 rfl ?_
      refine aw_iconst (pc := 27) (x := (-1)) d_Sh_leastCostToKnowAll_27 (by decide) ?_
      refine aw_icmp_eq (pc := 28) (tgt := 36) d_Sh_leastCostToKnowAll_28 (by decide) (fun c5 => ?_) (fun c5 => ?_)
      · refine aw_aload_n (pc := 36) d_Sh_leastCostToKnowAll_36 rfl 1 rfl ?_
        refine aw_iload_n (pc := 37) d_Sh_leastCostToKnowAll_37 rfl 3 rfl ?_
        refine aw_cVpI (pc := 38) (ci := 4) (T := TX4) (N := 19) (As := [.int l2]) (st := []) (ok_Sh_knownBy Y l0 l2 h tl0) okV_Sh_knownBy rfl (by decide) tl0 w6_99 d_Sh_leastCostToKnowAll_38 rfl (Nat.le_of_ble_eq_true rfl) rfl (Nat.le_of_ble_eq_true rfl) (fun q6 hq6 hTq6 => ?_)
        refine aw_aload_n (pc := 41) d_Sh_leastCostToKnowAll_41 rfl 1 rfl ?_
        refine aw_cVpI (pc := 42) (ci := 4) (T := TX4) (N := 19) (As := []) (st := [.int q6]) (ok_Sh_allBooks Y l0 h tl0) okV_Sh_allBooks rfl (by decide) tl0 w6_119 d_Sh_leastCostToKnowAll_42 rfl (Nat.le_of_ble_eq_true rfl) rfl (Nat.le_of_ble_eq_true rfl) (fun q7 hq7 hTq7 => ?_)
        refine aw_icmp_ne (pc := 45) (tgt := 50) d_Sh_leastCostToKnowAll_45 (by decide) (fun c8 => ?_) (fun c8 => ?_)
        · refine aw_iload_n (pc := 48) d_Sh_leastCostToKnowAll_48 rfl 0 rfl ?_
          refine aw_istore_n (pc := 49) (lv' := [(1, .int q4), (3, .int q4), (0, .ref l0), (2, .int l2)]) d_Sh_leastCostToKnowAll_49 rfl (by decide) rfl ?_
          refine aw_iinc (pc := 50) (w := l2 + 1) (lv' := [(2, .int (l2 + 1)), (1, .int q4), (3, .int q4), (0, .ref l0)]) d_Sh_leastCostToKnowAll_50 3 rfl rfl (by decide) rfl ?_
          refine aw_goto (pc := 53) (tgt := 4) d_Sh_leastCostToKnowAll_53 (by decide) ?_
          exact aw_lv [3, 1, 0] rfl (ih q4 (l2 + 1))
        · refine aw_iinc (pc := 50) (w := l2 + 1) (lv' := [(2, .int (l2 + 1)), (3, .int q4), (0, .ref l0), (1, .int l1)]) d_Sh_leastCostToKnowAll_50 3 rfl rfl (by decide) rfl ?_
          refine aw_goto (pc := 53) (tgt := 4) d_Sh_leastCostToKnowAll_53 (by decide) ?_
          exact aw_lv [2, 3, 0] rfl (ih l1 (l2 + 1))
      · refine aw_iload_n (pc := 31) d_Sh_leastCostToKnowAll_31 rfl 0 rfl ?_
        refine aw_iload_n (pc := 32) d_Sh_leastCostToKnowAll_32 rfl 2 rfl ?_
        refine aw_icmp_ge (pc := 33) (tgt := 50) d_Sh_leastCostToKnowAll_33 (by decide) (fun c9 => ?_) (fun c9 => ?_)
        · refine aw_iinc (pc := 50) (w := l2 + 1) (lv' := [(2, .int (l2 + 1)), (3, .int q4), (0, .ref l0), (1, .int l1)]) d_Sh_leastCostToKnowAll_50 3 rfl rfl (by decide) rfl ?_
          refine aw_goto (pc := 53) (tgt := 4) d_Sh_leastCostToKnowAll_53 (by decide) ?_
          exact aw_lv [2, 3, 0] rfl (ih l1 (l2 + 1))
        · refine aw_aload_n (pc := 36) d_Sh_leastCostToKnowAll_36 rfl 1 rfl ?_
          refine aw_iload_n (pc := 37) d_Sh_leastCostToKnowAll_37 rfl 3 rfl ?_
          refine aw_cVpI (pc := 38) (ci := 4) (T := TX4) (N := 19) (As := [.int l2]) (st := []) (ok_Sh_knownBy Y l0 l2 h tl0) okV_Sh_knownBy rfl (by decide) tl0 w6_99 d_Sh_leastCostToKnowAll_38 rfl (Nat.le_of_ble_eq_true rfl) rfl (Nat.le_of_ble_eq_true rfl) (fun q10 hq10 hTq10 => ?_)
          refine aw_aload_n (pc := 41) d_Sh_leastCostToKnowAll_41 rfl 1 rfl ?_
          refine aw_cVpI (pc := 42) (ci := 4) (T := TX4) (N := 19) (As := []) (st := [.int q10]) (ok_Sh_allBooks Y l0 h tl0) okV_Sh_allBooks rfl (by decide) tl0 w6_119 d_Sh_leastCostToKnowAll_42 rfl (Nat.le_of_ble_eq_true rfl) rfl (Nat.le_of_ble_eq_true rfl) (fun q11 hq11 hTq11 => ?_)
          refine aw_icmp_ne (pc := 45) (tgt := 50) d_Sh_leastCostToKnowAll_45 (by decide) (fun c12 => ?_) (fun c12 => ?_)
          · refine aw_iload_n (pc := 48) d_Sh_leastCostToKnowAll_48 rfl 0 rfl ?_
            refine aw_istore_n (pc := 49) (lv' := [(1, .int q4), (3, .int q4), (0, .ref l0), (2, .int l2)]) d_Sh_leastCostToKnowAll_49 rfl (by decide) rfl ?_
            refine aw_iinc (pc := 50) (w := l2 + 1) (lv' := [(2, .int (l2 + 1)), (1, .int q4), (3, .int q4), (0, .ref l0)]) d_Sh_leastCostToKnowAll_50 3 rfl rfl (by decide) rfl ?_
            refine aw_goto (pc := 53) (tgt := 4) d_Sh_leastCostToKnowAll_53 (by decide) ?_
            exact aw_lv [3, 1, 0] rfl (ih q4 (l2 + 1))
          · refine aw_iinc (pc := 50) (w := l2 + 1) (lv' := [(2, .int (l2 + 1)), (3, .int q4), (0, .ref l0), (1, .int l1)]) d_Sh_leastCostToKnowAll_50 3 rfl rfl (by decide) rfl ?_
            refine aw_goto (pc := 53) (tgt := 4) d_Sh_leastCostToKnowAll_53 (by decide) ?_
            exact aw_lv [2, 3, 0] rfl (ih l1 (l2 + 1))
def Sh_leastCostToKnowAll (Y : Ly) (l0 : Nat) (h : Hp) : Option Int32 :=
  Sh_leastCostToKnowAll_L4 Y l0 h FU (-1) 0
theorem ok_Sh_leastCostToKnowAll (Y : Ly) (l0 : Nat) (h : Hp) (t0 : isO Y 4 l0) : AM Y 3 K_Sh_leastCostToKnowAll [.ref l0] h (Sh_leastCostToKnowAll Y l0 h) (pI h) := by
  refine AM.of rfl (Nat.le_of_ble_eq_true rfl) ?_
  show AW Y 3 K_Sh_leastCostToKnowAll 0 [(0, .ref l0)] [] h (Sh_leastCostToKnowAll Y l0 h) (pI h)
  unfold Sh_leastCostToKnowAll
  refine aw_iconst (pc := 0) (x := (-1)) d_Sh_leastCostToKnowAll_0 (by decide) ?_
  refine aw_istore_n (pc := 1) (lv' := [(1, .int (-1)), (0, .ref l0)]) d_Sh_leastCostToKnowAll_1 rfl (by decide) rfl ?_
  refine aw_iconst (pc := 2) (x := 0) d_Sh_leastCostToKnowAll_2 (by decide) ?_
  refine aw_istore_n (pc := 3) (lv' := [(2, .int 0), (1, .int (-1)), (0, .ref l0)]) d_Sh_leastCostToKnowAll_3 rfl (by decide) rfl ?_
  exact aw_lv [2, 1, 0] rfl (Sh_leastCostToKnowAll_L4_ok Y l0 h t0 FU (-1) 0)
