/-! LastPages.cheapest()I -/
theorem d_LP_cheapest_0 : decode prog_1_method_52_code 0 = .ok (.aload_n 0, 1) := by decide +kernel
theorem d_LP_cheapest_1 : decode prog_1_method_52_code 1 = .ok (.aload_n 0, 1) := by decide +kernel
theorem d_LP_cheapest_2 : decode prog_1_method_52_code 2 = .ok (.getfield 68, 3) := by decide +kernel
theorem d_LP_cheapest_5 : decode prog_1_method_52_code 5 = .ok (.invokevirtual 403, 3) := by decide +kernel
theorem d_LP_cheapest_8 : decode prog_1_method_52_code 8 = .ok (.invokevirtual 249, 3) := by decide +kernel
theorem d_LP_cheapest_11 : decode prog_1_method_52_code 11 = .ok (.ireturn, 1) := by decide +kernel
def LP_cheapest (Y : Ly) (l0 : Nat) (h : Hp) : Option (Int32 × Hp) :=
  (Sh_leastCostToKnowAll Y (hGr h 1109 l0) h).bind fun q2 =>
  (LP_giveIfAny Y l0 q2 h).bind fun q3 =>
  some (q3.1, q3.2)
theorem ok_LP_cheapest (Y : Ly) (l0 : Nat) (h : Hp) (t0 : isO Y 11 l0) : AM Y 4 K_LP_cheapest [.ref l0] h (LP_cheapest Y l0 h) rI := by
  refine AM.of rfl (Nat.le_of_ble_eq_true rfl) ?_
  show AW Y 4 K_LP_cheapest 0 [(0, .ref l0)] [] h (LP_cheapest Y l0 h) rI
  unfold LP_cheapest
  refine aw_aload_n (pc := 0) d_LP_cheapest_0 rfl 0 rfl ?_
  refine aw_aload_n (pc := 1) d_LP_cheapest_1 rfl 0 rfl ?_
  refine gt_1109 (pc := 2) d_LP_cheapest_2 w3_9 t0 (fun tt1 => ?_)
  refine aw_cVpI (pc := 5) (ci := 4) (T := TX4) (N := 19) (As := []) (st := [.ref l0]) (ok_Sh_leastCostToKnowAll Y (hGr h 1109 l0) h tt1) okV_Sh_leastCostToKnowAll rfl (by decide) tt1 w6_115 d_LP_cheapest_5 rfl (Nat.le_of_ble_eq_true rfl) rfl (Nat.le_of_ble_eq_true rfl) (fun q2 hq2 hTq2 => ?_)
  refine aw_cVrI (pc := 8) (ci := 11) (T := TX11) (N := 18) (As := [.int q2]) (st := []) (ok_LP_giveIfAny Y l0 q2 h t0) okV_LP_giveIfAny rfl (by decide) t0 w4_183 d_LP_cheapest_8 rfl (Nat.le_of_ble_eq_true rfl) rfl (Nat.le_of_ble_eq_true rfl) (fun q3 hq3 hTq3 => ?_)
  exact aw_ireturn (pc := 11) d_LP_cheapest_11 rfl rfl
/-! LastPages.giveSize(I)I -/
theorem d_LP_giveSize_0 : decode prog_1_method_64_code 0 = .ok (.iload_n 1, 1) := by decide +kernel
theorem d_LP_giveSize_1 : decode prog_1_method_64_code 1 = .ok (.iconst (-1), 1) := by decide +kernel
theorem d_LP_giveSize_2 : decode prog_1_method_64_code 2 = .ok (.if_icmp .ne 12, 3) := by decide +kernel
theorem d_LP_giveSize_5 : decode prog_1_method_64_code 5 = .ok (.aload_n 0, 1) := by decide +kernel
theorem d_LP_giveSize_6 : decode prog_1_method_64_code 6 = .ok (.bipush 8, 2) := by decide +kernel
theorem d_LP_giveSize_8 : decode prog_1_method_64_code 8 = .ok (.invokevirtual 133, 3) := by decide +kernel
theorem d_LP_giveSize_11 : decode prog_1_method_64_code 11 = .ok (.goto 11, 3) := by decide +kernel
theorem d_LP_giveSize_14 : decode prog_1_method_64_code 14 = .ok (.aload_n 0, 1) := by decide +kernel
theorem d_LP_giveSize_15 : decode prog_1_method_64_code 15 = .ok (.iload_n 1, 1) := by decide +kernel
theorem d_LP_giveSize_16 : decode prog_1_method_64_code 16 = .ok (.invokestatic 398, 3) := by decide +kernel
theorem d_LP_giveSize_19 : decode prog_1_method_64_code 19 = .ok (.invokevirtual 180, 3) := by decide +kernel
theorem d_LP_giveSize_22 : decode prog_1_method_64_code 22 = .ok (.ireturn, 1) := by decide +kernel
def LP_giveSize (Y : Ly) (l0 : Nat) (l1 : Int32) (h : Hp) : Option (Int32 × Hp) :=
  if l1 = (-1) then
    (LP_fail Y l0 8 h).bind fun q2 =>
    some (q2.1, q2.2)
  else
    (J_bitCount Y l1 h).bind fun q3 =>
    (LP_give Y l0 q3 h).bind fun q4 =>
    some (q4.1, q4.2)
theorem ok_LP_giveSize (Y : Ly) (l0 : Nat) (l1 : Int32) (h : Hp) (t0 : isO Y 11 l0) : AM Y 1 K_LP_giveSize [.ref l0, .int l1] h (LP_giveSize Y l0 l1 h) rI := by
  refine AM.of rfl (Nat.le_of_ble_eq_true rfl) ?_
  show AW Y 1 K_LP_giveSize 0 [(0, .ref l0), (1, .int l1)] [] h (LP_giveSize Y l0 l1 h) rI
  unfold LP_giveSize
  refine aw_iload_n (pc := 0) d_LP_giveSize_0 rfl 1 rfl ?_
  refine aw_iconst (pc := 1) (x := (-1)) d_LP_giveSize_1 (by decide) ?_
  refine aw_icmp_ne (pc := 2) (tgt := 14) d_LP_giveSize_2 (by decide) (fun c1 => ?_) (fun c1 => ?_)
  · refine aw_aload_n (pc := 5) d_LP_giveSize_5 rfl 0 rfl ?_
    refine aw_bipush (pc := 6) (x := 8) d_LP_giveSize_6 (by decide) ?_
    refine aw_cVrI (pc := 8) (ci := 11) (T := TX11) (N := 18) (As := [.int 8]) (st := []) (ok_LP_fail Y l0 8 h t0) okV_LP_fail rfl (by decide) t0 w3_114 d_LP_giveSize_8 rfl (Nat.le_of_ble_eq_true rfl) rfl (Nat.le_of_ble_eq_true rfl) (fun q2 hq2 hTq2 => ?_)
    refine aw_goto (pc := 11) (tgt := 22) d_LP_giveSize_11 (by decide) ?_
    exact aw_ireturn (pc := 22) d_LP_giveSize_22 rfl rfl
  · refine aw_aload_n (pc := 14) d_LP_giveSize_14 rfl 0 rfl ?_
    refine aw_iload_n (pc := 15) d_LP_giveSize_15 rfl 1 rfl ?_
    refine aw_cSpI (pc := 16) (As := [.int l1]) (st := [.ref l0]) (ok_J_bitCount Y l1 h) okS_J_bitCount w6_26 d_LP_giveSize_16 rfl (Nat.le_of_ble_eq_true rfl) rfl (Nat.le_of_ble_eq_true rfl) (fun q3 hq3 hTq3 => ?_)
    refine aw_cVrI (pc := 19) (ci := 11) (T := TX11) (N := 18) (As := [.int q3]) (st := []) (ok_LP_give Y l0 q3 h t0) okV_LP_give rfl (by decide) t0 w4_88 d_LP_giveSize_19 rfl (Nat.le_of_ble_eq_true rfl) rfl (Nat.le_of_ble_eq_true rfl) (fun q4 hq4 hTq4 => ?_)
    exact aw_ireturn (pc := 22) d_LP_giveSize_22 rfl rfl
/-! LastPages.clash()I -/
theorem d_LP_clash_0 : decode prog_1_method_43_code 0 = .ok (.aload_n 0, 1) := by decide +kernel
theorem d_LP_clash_1 : decode prog_1_method_43_code 1 = .ok (.getfield 52, 3) := by decide +kernel
theorem d_LP_clash_4 : decode prog_1_method_43_code 4 = .ok (.aload_n 0, 1) := by decide +kernel
theorem d_LP_clash_5 : decode prog_1_method_43_code 5 = .ok (.getfield 68, 3) := by decide +kernel
theorem d_LP_clash_8 : decode prog_1_method_43_code 8 = .ok (.aload_n 0, 1) := by decide +kernel
theorem d_LP_clash_9 : decode prog_1_method_43_code 9 = .ok (.getfield 45, 3) := by decide +kernel
theorem d_LP_clash_12 : decode prog_1_method_43_code 12 = .ok (.invokevirtual 364, 3) := by decide +kernel
theorem d_LP_clash_15 : decode prog_1_method_43_code 15 = .ok (.aload_n 0, 1) := by decide +kernel
theorem d_LP_clash_16 : decode prog_1_method_43_code 16 = .ok (.aload_n 0, 1) := by decide +kernel
theorem d_LP_clash_17 : decode prog_1_method_43_code 17 = .ok (.getfield 52, 3) := by decide +kernel
theorem d_LP_clash_20 : decode prog_1_method_43_code 20 = .ok (.invokevirtual 380, 3) := by decide +kernel
theorem d_LP_clash_23 : decode prog_1_method_43_code 23 = .ok (.invokevirtual 383, 3) := by decide +kernel
theorem d_LP_clash_26 : decode prog_1_method_43_code 26 = .ok (.ireturn, 1) := by decide +kernel
def LP_clash (Y : Ly) (l0 : Nat) (h : Hp) : Option (Int32 × Hp) :=
  (Fi_lookAt Y (hGr h 1106 l0) (hGr h 1109 l0) (hGr h 1105 l0) h).bind fun q4 =>
  (Fi_leastClash Y (hGr q4 1106 l0) q4).bind fun q6 =>
  (LP_giveSize Y l0 q6 q4).bind fun q7 =>
  some (q7.1, q7.2)
theorem ok_LP_clash (Y : Ly) (l0 : Nat) (h : Hp) (t0 : isO Y 11 l0) : AM Y 5 K_LP_clash [.ref l0] h (LP_clash Y l0 h) rI := by
  refine AM.of rfl (Nat.le_of_ble_eq_true rfl) ?_
  show AW Y 5 K_LP_clash 0 [(0, .ref l0)] [] h (LP_clash Y l0 h) rI
  unfold LP_clash
  refine aw_aload_n (pc := 0) d_LP_clash_0 rfl 0 rfl ?_
  refine gt_1106 (pc := 1) d_LP_clash_1 w3_6 t0 (fun tt1 => ?_)
  refine aw_aload_n (pc := 4) d_LP_clash_4 rfl 0 rfl ?_
  refine gt_1109 (pc := 5) d_LP_clash_5 w3_9 t0 (fun tt2 => ?_)
  refine aw_aload_n (pc := 8) d_LP_clash_8 rfl 0 rfl ?_
  refine gt_1105 (pc := 9) d_LP_clash_9 w3_5 t0 (fun tt3 => ?_)
  refine aw_cVrV (pc := 12) (ci := 1) (T := TX1) (N := 4) (As := [.ref (hGr h 1109 l0), .ref (hGr h 1105 l0)]) (st := []) (ok_Fi_lookAt Y (hGr h 1106 l0) (hGr h 1109 l0) (hGr h 1105 l0) h tt1 tt2 tt3) okV_Fi_lookAt rfl (by decide) tt1 w5_202 d_LP_clash_12 rfl (Nat.le_of_ble_eq_true rfl) rfl (Nat.le_of_ble_eq_true rfl) (fun q4 hq4 hTq4 => ?_)
  refine aw_aload_n (pc := 15) d_LP_clash_15 rfl 0 rfl ?_
  refine aw_aload_n (pc := 16) d_LP_clash_16 rfl 0 rfl ?_
  refine gt_1106 (pc := 17) d_LP_clash_17 w3_6 t0 (fun tt5 => ?_)
  refine aw_cVpI (pc := 20) (ci := 1) (T := TX1) (N := 4) (As := []) (st := [.ref l0]) (ok_Fi_leastClash Y (hGr q4 1106 l0) q4 tt5) okV_Fi_leastClash rfl (by decide) tt5 w6_19 d_LP_clash_20 rfl (Nat.le_of_ble_eq_true rfl) rfl (Nat.le_of_ble_eq_true rfl) (fun q6 hq6 hTq6 => ?_)
  refine aw_cVrI (pc := 23) (ci := 11) (T := TX11) (N := 18) (As := [.int q6]) (st := []) (ok_LP_giveSize Y l0 q6 q4 t0) okV_LP_giveSize rfl (by decide) t0 w6_27 d_LP_clash_23 rfl (Nat.le_of_ble_eq_true rfl) rfl (Nat.le_of_ble_eq_true rfl) (fun q7 hq7 hTq7 => ?_)
  exact aw_ireturn (pc := 26) d_LP_clash_26 rfl rfl
/-! LastPages.clashSet()I -/
theorem d_LP_clashSet_0 : decode prog_1_method_44_code 0 = .ok (.aload_n 0, 1) := by decide +kernel
theorem d_LP_clashSet_1 : decode prog_1_method_44_code 1 = .ok (.getfield 52, 3) := by decide +kernel
theorem d_LP_clashSet_4 : decode prog_1_method_44_code 4 = .ok (.aload_n 0, 1) := by decide +kernel
theorem d_LP_clashSet_5 : decode prog_1_method_44_code 5 = .ok (.getfield 68, 3) := by decide +kernel
theorem d_LP_clashSet_8 : decode prog_1_method_44_code 8 = .ok (.aload_n 0, 1) := by decide +kernel
theorem d_LP_clashSet_9 : decode prog_1_method_44_code 9 = .ok (.getfield 45, 3) := by decide +kernel
theorem d_LP_clashSet_12 : decode prog_1_method_44_code 12 = .ok (.invokevirtual 364, 3) := by decide +kernel
theorem d_LP_clashSet_15 : decode prog_1_method_44_code 15 = .ok (.aload_n 0, 1) := by decide +kernel
theorem d_LP_clashSet_16 : decode prog_1_method_44_code 16 = .ok (.aload_n 0, 1) := by decide +kernel
theorem d_LP_clashSet_17 : decode prog_1_method_44_code 17 = .ok (.getfield 52, 3) := by decide +kernel
theorem d_LP_clashSet_20 : decode prog_1_method_44_code 20 = .ok (.invokevirtual 380, 3) := by decide +kernel
theorem d_LP_clashSet_23 : decode prog_1_method_44_code 23 = .ok (.invokevirtual 249, 3) := by decide +kernel
theorem d_LP_clashSet_26 : decode prog_1_method_44_code 26 = .ok (.ireturn, 1) := by decide +kernel
def LP_clashSet (Y : Ly) (l0 : Nat) (h : Hp) : Option (Int32 × Hp) :=
  (Fi_lookAt Y (hGr h 1106 l0) (hGr h 1109 l0) (hGr h 1105 l0) h).bind fun q4 =>
  (Fi_leastClash Y (hGr q4 1106 l0) q4).bind fun q6 =>
  (LP_giveIfAny Y l0 q6 q4).bind fun q7 =>
  some (q7.1, q7.2)
theorem ok_LP_clashSet (Y : Ly) (l0 : Nat) (h : Hp) (t0 : isO Y 11 l0) : AM Y 5 K_LP_clashSet [.ref l0] h (LP_clashSet Y l0 h) rI := by
  refine AM.of rfl (Nat.le_of_ble_eq_true rfl) ?_
  show AW Y 5 K_LP_clashSet 0 [(0, .ref l0)] [] h (LP_clashSet Y l0 h) rI
  unfold LP_clashSet
  refine aw_aload_n (pc := 0) d_LP_clashSet_0 rfl 0 rfl ?_
  refine gt_1106 (pc := 1) d_LP_clashSet_1 w3_6 t0 (fun tt1 => ?_)
  refine aw_aload_n (pc := 4) d_LP_clashSet_4 rfl 0 rfl ?_
  refine gt_1109 (pc := 5) d_LP_clashSet_5 w3_9 t0 (fun tt2 => ?_)
  refine aw_aload_n (pc := 8) d_LP_clashSet_8 rfl 0 rfl ?_
  refine gt_1105 (pc := 9) d_LP_clashSet_9 w3_5 t0 (fun tt3 => ?_)
  refine aw_cVrV (pc := 12) (ci := 1) (T := TX1) (N := 4) (As := [.ref (hGr h 1109 l0), .ref (hGr h 1105 l0)]) (st := []) (ok_Fi_lookAt Y (hGr h 1106 l0) (hGr h 1109 l0) (hGr h 1105 l0) h tt1 tt2 tt3) okV_Fi_lookAt rfl (by decide) tt1 w5_202 d_LP_clashSet_12 rfl (Nat.le_of_ble_eq_true rfl) rfl (Nat.le_of_ble_eq_true rfl) (fun q4 hq4 hTq4 => ?_)
  refine aw_aload_n (pc := 15) d_LP_clashSet_15 rfl 0 rfl ?_
  refine aw_aload_n (pc := 16) d_LP_clashSet_16 rfl 0 rfl ?_
  refine gt_1106 (pc := 17) d_LP_clashSet_17 w3_6 t0 (fun tt5 => ?_)
  refine aw_cVpI (pc := 20) (ci := 1) (T := TX1) (N := 4) (As := []) (st := [.ref l0]) (ok_Fi_leastClash Y (hGr q4 1106 l0) q4 tt5) okV_Fi_leastClash rfl (by decide) tt5 w6_19 d_LP_clashSet_20 rfl (Nat.le_of_ble_eq_true rfl) rfl (Nat.le_of_ble_eq_true rfl) (fun q6 hq6 hTq6 => ?_)
  refine aw_cVrI (pc := 23) (ci := 11) (T := TX11) (N := 18) (As := [.int q6]) (st := []) (ok_LP_giveIfAny Y l0 q6 q4 t0) okV_LP_giveIfAny rfl (by decide) t0 w4_183 d_LP_clashSet_23 rfl (Nat.le_of_ble_eq_true rfl) rfl (Nat.le_of_ble_eq_true rfl) (fun q7 hq7 hTq7 => ?_)
  exact aw_ireturn (pc := 26) d_LP_clashSet_26 rfl rfl
/-! LastPages.close(IZ)Z -/
theorem d_LP_close_0 : decode prog_1_method_27_code 0 = .ok (.aload_n 0, 1) := by decide +kernel
theorem d_LP_close_1 : decode prog_1_method_27_code 1 = .ok (.getfield 68, 3) := by decide +kernel
theorem d_LP_close_4 : decode prog_1_method_27_code 4 = .ok (.getfield 193, 3) := by decide +kernel
theorem d_LP_close_7 : decode prog_1_method_27_code 7 = .ok (.iload_n 1, 1) := by decide +kernel
theorem d_LP_close_8 : decode prog_1_method_27_code 8 = .ok (.invokevirtual 239, 3) := by decide +kernel
theorem d_LP_close_11 : decode prog_1_method_27_code 11 = .ok (.ifCond .ne 9, 3) := by decide +kernel
theorem d_LP_close_14 : decode prog_1_method_27_code 14 = .ok (.aload_n 0, 1) := by decide +kernel
theorem d_LP_close_15 : decode prog_1_method_27_code 15 = .ok (.iconst 2, 1) := by decide +kernel
theorem d_LP_close_16 : decode prog_1_method_27_code 16 = .ok (.invokevirtual 113, 3) := by decide +kernel
theorem d_LP_close_19 : decode prog_1_method_27_code 19 = .ok (.ireturn, 1) := by decide +kernel
theorem d_LP_close_20 : decode prog_1_method_27_code 20 = .ok (.aload_n 0, 1) := by decide +kernel
theorem d_LP_close_21 : decode prog_1_method_27_code 21 = .ok (.getfield 68, 3) := by decide +kernel
theorem d_LP_close_24 : decode prog_1_method_27_code 24 = .ok (.getfield 193, 3) := by decide +kernel
theorem d_LP_close_27 : decode prog_1_method_27_code 27 = .ok (.iload_n 1, 1) := by decide +kernel
theorem d_LP_close_28 : decode prog_1_method_27_code 28 = .ok (.invokevirtual 315, 3) := by decide +kernel
theorem d_LP_close_31 : decode prog_1_method_27_code 31 = .ok (.iload_n 2, 1) := by decide +kernel
theorem d_LP_close_32 : decode prog_1_method_27_code 32 = .ok (.if_icmp .ne 10, 3) := by decide +kernel
theorem d_LP_close_35 : decode prog_1_method_27_code 35 = .ok (.aload_n 0, 1) := by decide +kernel
theorem d_LP_close_36 : decode prog_1_method_27_code 36 = .ok (.bipush 9, 2) := by decide +kernel
theorem d_LP_close_38 : decode prog_1_method_27_code 38 = .ok (.invokevirtual 113, 3) := by decide +kernel
theorem d_LP_close_41 : decode prog_1_method_27_code 41 = .ok (.ireturn, 1) := by decide +kernel
theorem d_LP_close_42 : decode prog_1_method_27_code 42 = .ok (.aload_n 0, 1) := by decide +kernel
theorem d_LP_close_43 : decode prog_1_method_27_code 43 = .ok (.getfield 68, 3) := by decide +kernel
theorem d_LP_close_46 : decode prog_1_method_27_code 46 = .ok (.getfield 193, 3) := by decide +kernel
theorem d_LP_close_49 : decode prog_1_method_27_code 49 = .ok (.dup, 1) := by decide +kernel
theorem d_LP_close_50 : decode prog_1_method_27_code 50 = .ok (.getfield 230, 3) := by decide +kernel
theorem d_LP_close_53 : decode prog_1_method_27_code 53 = .ok (.iconst 1, 1) := by decide +kernel
theorem d_LP_close_54 : decode prog_1_method_27_code 54 = .ok (.iload_n 1, 1) := by decide +kernel
theorem d_LP_close_55 : decode prog_1_method_27_code 55 = .ok (.ishl, 1) := by decide +kernel
theorem d_LP_close_56 : decode prog_1_method_27_code 56 = .ok (.ixor, 1) := by decide +kernel
theorem d_LP_close_57 : decode prog_1_method_27_code 57 = .ok (.putfield 230, 3) := by decide +kernel
theorem d_LP_close_60 : decode prog_1_method_27_code 60 = .ok (.aload_n 0, 1) := by decide +kernel
theorem d_LP_close_61 : decode prog_1_method_27_code 61 = .ok (.invokevirtual 121, 3) := by decide +kernel
theorem d_LP_close_64 : decode prog_1_method_27_code 64 = .ok (.ireturn, 1) := by decide +kernel
def LP_close (Y : Ly) (l0 : Nat) (l1 : Int32) (l2 : Bool) (h : Hp) : Option (Bool × Hp) :=
  (St_hasState Y (hGr h 400 (hGr h 1109 l0)) l1 h).bind fun q3 =>
  if q3 = true then
    (St_isFinal Y (hGr h 400 (hGr h 1109 l0)) l1 h).bind fun q7 =>
    if (b2i q7) = (b2i l2) then
      (LP_refuse Y l0 9 h).bind fun q9 =>
      some (q9.1, q9.2)
    else
      letH (hSi h 606 (hGr h 400 (hGr h 1109 l0)) ((hGi h 606 (hGr h 400 (hGr h 1109 l0))) ^^^ ((1 : Int32) <<< (l1 &&& 31)))) fun h12 =>
      (LP_agree Y l0 h12).bind fun q13 =>
      some (q13.1, q13.2)
  else
    (LP_refuse Y l0 2 h).bind fun q14 =>
    some (q14.1, q14.2)
theorem ok_LP_close (Y : Ly) (l0 : Nat) (l1 : Int32) (l2 : Bool) (h : Hp) (t0 : isO Y 11 l0) : AM Y 2 K_LP_close [.ref l0, .int l1, .int (b2i l2)] h (LP_close Y l0 l1 l2 h) rZ := by
  refine AM.of rfl (Nat.le_of_ble_eq_true rfl) ?_
  show AW Y 2 K_LP_close 0 [(0, .ref l0), (1, .int l1), (2, .int (b2i l2))] [] h (LP_close Y l0 l1 l2 h) rZ
  unfold LP_close
  refine aw_aload_n (pc := 0) d_LP_close_0 rfl 0 rfl ?_
  refine gt_1109 (pc := 1) d_LP_close_1 w3_9 t0 (fun tt1 => ?_)
  refine gt_400 (pc := 4) d_LP_close_4 w2_129 tt1 (fun tt2 => ?_)
  refine aw_iload_n (pc := 7) d_LP_close_7 rfl 1 rfl ?_
  refine aw_cVpZ (pc := 8) (ci := 6) (T := TX6) (N := 8) (As := [.int l1]) (st := []) (ok_St_hasState Y (hGr h 400 (hGr h 1109 l0)) l1 h tt2) okV_St_hasState rfl (by decide) tt2 w4_180 d_LP_close_8 rfl (Nat.le_of_ble_eq_true rfl) rfl (Nat.le_of_ble_eq_true rfl) (fun q3 hq3 hTq3 => ?_)
  refine aw_bne (pc := 11) (tgt := 20) d_LP_close_11 (by decide) (fun c4 => ?_) (fun c4 => ?_)
  · refine aw_aload_n (pc := 20) d_LP_close_20 rfl 0 rfl ?_
    refine gt_1109 (pc := 21) d_LP_close_21 w3_9 t0 (fun tt5 => ?_)
    refine gt_400 (pc := 24) d_LP_close_24 w2_129 tt5 (fun tt6 => ?_)
    refine aw_iload_n (pc := 27) d_LP_close_27 rfl 1 rfl ?_
    refine aw_cVpZ (pc := 28) (ci := 6) (T := TX6) (N := 8) (As := [.int l1]) (st := []) (ok_St_isFinal Y (hGr h 400 (hGr h 1109 l0)) l1 h tt6) okV_St_isFinal rfl (by decide) tt6 w5_88 d_LP_close_28 rfl (Nat.le_of_ble_eq_true rfl) rfl (Nat.le_of_ble_eq_true rfl) (fun q7 hq7 hTq7 => ?_)
    refine aw_iload_n (pc := 31) d_LP_close_31 rfl 2 rfl ?_
    refine aw_icmp_ne (pc := 32) (tgt := 42) d_LP_close_32 (by decide) (fun c8 => ?_) (fun c8 => ?_)
    · refine aw_aload_n (pc := 35) d_LP_close_35 rfl 0 rfl ?_
      refine aw_bipush (pc := 36) (x := 9) d_LP_close_36 (by decide) ?_
      refine aw_cVrZ (pc := 38) (ci := 11) (T := TX11) (N := 18) (As := [.int 9]) (st := []) (ok_LP_refuse Y l0 9 h t0) okV_LP_refuse rfl (by decide) t0 w3_75 d_LP_close_38 rfl (Nat.le_of_ble_eq_true rfl) rfl (Nat.le_of_ble_eq_true rfl) (fun q9 hq9 hTq9 => ?_)
      exact aw_zreturn (pc := 41) (b := q9.1) d_LP_close_41 rfl rfl
    · refine aw_aload_n (pc := 42) d_LP_close_42 rfl 0 rfl ?_
      refine gt_1109 (pc := 43) d_LP_close_43 w3_9 t0 (fun tt10 => ?_)
      refine gt_400 (pc := 46) d_LP_close_46 w2_129 tt10 (fun tt11 => ?_)
      refine aw_dup (pc := 49) d_LP_close_49 rfl ?_
      refine gt_606 (pc := 50) d_LP_close_50 w1_195 tt11 ?_
      refine aw_iconst (pc := 53) (x := 1) d_LP_close_53 (by decide) ?_
      refine aw_iload_n (pc := 54) d_LP_close_54 rfl 1 rfl ?_
      refine aw_ishl (pc := 55) d_LP_close_55 ?_
      refine aw_ixor (pc := 56) d_LP_close_56 ?_
      refine pt_606 (pc := 57) d_LP_close_57 w1_195 tt11 ?_
      refine aw_letH (fun h12 => ?_)
      refine aw_aload_n (pc := 60) d_LP_close_60 rfl 0 rfl ?_
      refine aw_cVrZ (pc := 61) (ci := 11) (T := TX11) (N := 18) (As := []) (st := []) (ok_LP_agree Y l0 h12 t0) okV_LP_agree rfl (by decide) t0 w3_86 d_LP_close_61 rfl (Nat.le_of_ble_eq_true rfl) rfl (Nat.le_of_ble_eq_true rfl) (fun q13 hq13 hTq13 => ?_)
      exact aw_zreturn (pc := 64) (b := q13.1) d_LP_close_64 rfl rfl
  · refine aw_aload_n (pc := 14) d_LP_close_14 rfl 0 rfl ?_
    refine aw_iconst (pc := 15) (x := 2) d_LP_close_15 (by decide) ?_
    refine aw_cVrZ (pc := 16) (ci := 11) (T := TX11) (N := 18) (As := [.int 2]) (st := []) (ok_LP_refuse Y l0 2 h t0) okV_LP_refuse rfl (by decide) t0 w3_75 d_LP_close_16 rfl (Nat.le_of_ble_eq_true rfl) rfl (Nat.le_of_ble_eq_true rfl) (fun q14 hq14 hTq14 => ?_)
    exact aw_zreturn (pc := 19) (b := q14.1) d_LP_close_19 rfl rfl
/-! LastPages.trayAt(I)LLastPages$Tray; -/
theorem d_LP_trayAt_0 : decode prog_1_method_67_code 0 = .ok (.iload_n 1, 1) := by decide +kernel
theorem d_LP_trayAt_1 : decode prog_1_method_67_code 1 = .ok (.ifCond .lt 8, 3) := by decide +kernel
theorem d_LP_trayAt_4 : decode prog_1_method_67_code 4 = .ok (.iload_n 1, 1) := by decide +kernel
theorem d_LP_trayAt_5 : decode prog_1_method_67_code 5 = .ok (.iconst 4, 1) := by decide +kernel
theorem d_LP_trayAt_6 : decode prog_1_method_67_code 6 = .ok (.if_icmp .lt 7, 3) := by decide +kernel
theorem d_LP_trayAt_9 : decode prog_1_method_67_code 9 = .ok (.aconst_null, 1) := by decide +kernel
theorem d_LP_trayAt_10 : decode prog_1_method_67_code 10 = .ok (.goto 9, 3) := by decide +kernel
theorem d_LP_trayAt_13 : decode prog_1_method_67_code 13 = .ok (.aload_n 0, 1) := by decide +kernel
theorem d_LP_trayAt_14 : decode prog_1_method_67_code 14 = .ok (.getfield 11, 3) := by decide +kernel
theorem d_LP_trayAt_17 : decode prog_1_method_67_code 17 = .ok (.iload_n 1, 1) := by decide +kernel
theorem d_LP_trayAt_18 : decode prog_1_method_67_code 18 = .ok (.aaload, 1) := by decide +kernel
theorem d_LP_trayAt_19 : decode prog_1_method_67_code 19 = .ok (.areturn, 1) := by decide +kernel
def LP_trayAt (Y : Ly) (l0 : Nat) (l1 : Int32) (h : Hp) : Option (Option Nat) :=
  if l1 < 0 then
    some none
  else
    if l1 < 4 then
      if inB l1 (lnY Y (hGr h 1100 l0)) = true then
        some (some (hAr h (hGr h 1100 l0) (Int32.toNatClampNeg l1)))
      else none
    else
      some none
theorem ok_LP_trayAt (Y : Ly) (l0 : Nat) (l1 : Int32) (h : Hp) (t0 : isO Y 11 l0) : AM Y 0 K_LP_trayAt [.ref l0, .int l1] h (LP_trayAt Y l0 l1 h) (pQ h) := by
  refine AM.of rfl (Nat.le_of_ble_eq_true rfl) ?_
  show AW Y 0 K_LP_trayAt 0 [(0, .ref l0), (1, .int l1)] [] h (LP_trayAt Y l0 l1 h) (pQ h)
  unfold LP_trayAt
  refine aw_iload_n (pc := 0) d_LP_trayAt_0 rfl 1 rfl ?_
  refine aw_if_lt (pc := 1) (tgt := 9) d_LP_trayAt_1 (by decide) (fun c1 => ?_) (fun c1 => ?_)
  · refine aw_null (pc := 9) d_LP_trayAt_9 ?_
    refine aw_goto (pc := 10) (tgt := 19) d_LP_trayAt_10 (by decide) ?_
    exact aw_areturn (pc := 19) (v0 := none) d_LP_trayAt_19 rfl rfl
  · refine aw_iload_n (pc := 4) d_LP_trayAt_4 rfl 1 rfl ?_
    refine aw_iconst (pc := 5) (x := 4) d_LP_trayAt_5 (by decide) ?_
    refine aw_icmp_lt (pc := 6) (tgt := 13) d_LP_trayAt_6 (by decide) (fun c2 => ?_) (fun c2 => ?_)
    · refine aw_aload_n (pc := 13) d_LP_trayAt_13 rfl 0 rfl ?_
      refine gt_1100 (pc := 14) d_LP_trayAt_14 w3_0 t0 (fun tt3 => ?_)
      refine aw_iload_n (pc := 17) d_LP_trayAt_17 rfl 1 rfl ?_
      refine aw_aaload24 (pc := 18) d_LP_trayAt_18 tt3 (fun tt4 => ?_)
      exact aw_areturn (pc := 19) (v0 := (some (hAr h (hGr h 1100 l0) (Int32.toNatClampNeg l1)))) d_LP_trayAt_19 rfl rfl
    · refine aw_null (pc := 9) d_LP_trayAt_9 ?_
      refine aw_goto (pc := 10) (tgt := 19) d_LP_trayAt_10 (by decide) ?_
      exact aw_areturn (pc := 19) (v0 := none) d_LP_trayAt_19 rfl rfl
theorem ty_LP_trayAt {Y : Ly} {l0 : Nat} {l1 : Int32} {h : Hp} {x : Option Nat} (t0 : isO Y 11 l0) (hT : Ty Y h) (hx : LP_trayAt Y l0 l1 h = some x) : ∀ a, x = some a → isO Y 8 a := by
  intro a ha
  unfold LP_trayAt at hx
  repeat' split at hx
  all_goals first | (cases hx; cases ha; done) | (cases hx; cases ha; exact hT.2.2.2 _ (hT.1 1100 24 rfl _ t0) _ (inB_lt (by assumption))) | (cases hx; done)
/-! LastPages$Tray.cut(J)J -/
theorem d_Tr_cut_0 : decode prog_10_method_7_code 0 = .ok (.aload_n 0, 1) := by decide +kernel
theorem d_Tr_cut_1 : decode prog_10_method_7_code 1 = .ok (.getfield 19, 3) := by decide +kernel
theorem d_Tr_cut_4 : decode prog_10_method_7_code 4 = .ok (.tableswitch 42 0 2 #[28, 33, 38], 28) := by decide +kernel
theorem d_Tr_cut_32 : decode prog_10_method_7_code 32 = .ok (.lload_n 1, 1) := by decide +kernel
theorem d_Tr_cut_33 : decode prog_10_method_7_code 33 = .ok (.l2i, 1) := by decide +kernel
theorem d_Tr_cut_34 : decode prog_10_method_7_code 34 = .ok (.i2b, 1) := by decide +kernel
theorem d_Tr_cut_35 : decode prog_10_method_7_code 35 = .ok (.i2l, 1) := by decide +kernel
theorem d_Tr_cut_36 : decode prog_10_method_7_code 36 = .ok (.lreturn, 1) := by decide +kernel
theorem d_Tr_cut_37 : decode prog_10_method_7_code 37 = .ok (.lload_n 1, 1) := by decide +kernel
theorem d_Tr_cut_38 : decode prog_10_method_7_code 38 = .ok (.l2i, 1) := by decide +kernel
theorem d_Tr_cut_39 : decode prog_10_method_7_code 39 = .ok (.i2s, 1) := by decide +kernel
theorem d_Tr_cut_40 : decode prog_10_method_7_code 40 = .ok (.i2l, 1) := by decide +kernel
theorem d_Tr_cut_41 : decode prog_10_method_7_code 41 = .ok (.lreturn, 1) := by decide +kernel
theorem d_Tr_cut_42 : decode prog_10_method_7_code 42 = .ok (.lload_n 1, 1) := by decide +kernel
theorem d_Tr_cut_43 : decode prog_10_method_7_code 43 = .ok (.l2i, 1) := by decide +kernel
theorem d_Tr_cut_44 : decode prog_10_method_7_code 44 = .ok (.i2l, 1) := by decide +kernel
theorem d_Tr_cut_45 : decode prog_10_method_7_code 45 = .ok (.lreturn, 1) := by decide +kernel
theorem d_Tr_cut_46 : decode prog_10_method_7_code 46 = .ok (.lload_n 1, 1) := by decide +kernel
theorem d_Tr_cut_47 : decode prog_10_method_7_code 47 = .ok (.lreturn, 1) := by decide +kernel
def Tr_cut (Y : Ly) (l0 : Nat) (l1 : Int64) (h : Hp) : Option Int64 :=
  if (hGi h 802 l0) = 0 then
    some (Int32.toInt64 (Int8.toInt32 (Int32.toInt8 (Int64.toInt32 l1))))
  else
  if (hGi h 802 l0) = 1 then
    some (Int32.toInt64 (Int16.toInt32 (Int32.toInt16 (Int64.toInt32 l1))))
  else
  if (hGi h 802 l0) = 2 then
    some (Int32.toInt64 (Int64.toInt32 l1))
  else
  some l1
theorem ok_Tr_cut (Y : Ly) (l0 : Nat) (l1 : Int64) (h : Hp) (t0 : isO Y 8 l0) : AM Y 0 K_Tr_cut [.ref l0, .long l1] h (Tr_cut Y l0 l1 h) (pL h) := by
  refine AM.of rfl (Nat.le_of_ble_eq_true rfl) ?_
  show AW Y 0 K_Tr_cut 0 [(0, .ref l0), (1, .long l1)] [] h (Tr_cut Y l0 l1 h) (pL h)
  unfold Tr_cut
  refine aw_aload_n (pc := 0) d_Tr_cut_0 rfl 0 rfl ?_
  refine gt_802 (pc := 1) d_Tr_cut_1 w2_224 t0 ?_
  refine aw_cases (fun c1 => ?_) (fun c1 => ?_)
  · refine aw_tbl (pc := 4) (tgt := 32) (off := 28) d_Tr_cut_4 (by rw [c1]; decide) (by rw [c1]; decide) (by rw [c1]; rfl) (by decide) ?_
    refine aw_lload_n (pc := 32) d_Tr_cut_32 rfl 1 rfl ?_
    refine aw_l2i (pc := 33) d_Tr_cut_33 ?_
    refine aw_i2b (pc := 34) d_Tr_cut_34 ?_
    refine aw_i2l (pc := 35) d_Tr_cut_35 ?_
    exact aw_lreturn (pc := 36) d_Tr_cut_36 rfl rfl
  refine aw_cases (fun c2 => ?_) (fun c2 => ?_)
  · refine aw_tbl (pc := 4) (tgt := 37) (off := 33) d_Tr_cut_4 (by rw [c2]; decide) (by rw [c2]; decide) (by rw [c2]; rfl) (by decide) ?_
    refine aw_lload_n (pc := 37) d_Tr_cut_37 rfl 1 rfl ?_
    refine aw_l2i (pc := 38) d_Tr_cut_38 ?_
    refine aw_i2s (pc := 39) d_Tr_cut_39 ?_
    refine aw_i2l (pc := 40) d_Tr_cut_40 ?_
    exact aw_lreturn (pc := 41) d_Tr_cut_41 rfl rfl
  refine aw_cases (fun c3 => ?_) (fun c3 => ?_)
  · refine aw_tbl (pc := 4) (tgt := 42) (off := 38) d_Tr_cut_4 (by rw [c3]; decide) (by rw [c3]; decide) (by rw [c3]; rfl) (by decide) ?_
    refine aw_lload_n (pc := 42) d_Tr_cut_42 rfl 1 rfl ?_
    refine aw_l2i (pc := 43) d_Tr_cut_43 ?_
    refine aw_i2l (pc := 44) d_Tr_cut_44 ?_
    exact aw_lreturn (pc := 45) d_Tr_cut_45 rfl rfl
  refine aw_tblX (pc := 4) (tgt := 46) d_Tr_cut_4 (by intro k hk; match k, hk with | 0, _ => exact Or.inr (fun q => c1 (q.trans (by decide))) | 1, _ => exact Or.inr (fun q => c2 (q.trans (by decide))) | 2, _ => exact Or.inr (fun q => c3 (q.trans (by decide))) | k + 3, hk => exact absurd hk (by show ¬ (k + 3 < 3); omega)) rfl (by decide) ?_
  refine aw_lload_n (pc := 46) d_Tr_cut_46 rfl 1 rfl ?_
  exact aw_lreturn (pc := 47) d_Tr_cut_47 rfl rfl
/-! LastPages$Tray.hasAll(II)Z -/
theorem d_Tr_hasAll_0 : decode prog_10_method_3_code 0 = .ok (.iload_n 1, 1) := by decide +kernel
theorem d_Tr_hasAll_1 : decode prog_10_method_3_code 1 = .ok (.ifCond .lt 25, 3) := by decide +kernel
theorem d_Tr_hasAll_4 : decode prog_10_method_3_code 4 = .ok (.iload_n 1, 1) := by decide +kernel
theorem d_Tr_hasAll_5 : decode prog_10_method_3_code 5 = .ok (.aload_n 0, 1) := by decide +kernel
theorem d_Tr_hasAll_6 : decode prog_10_method_3_code 6 = .ok (.getfield 23, 3) := by decide +kernel
theorem d_Tr_hasAll_9 : decode prog_10_method_3_code 9 = .ok (.if_icmp .gt 17, 3) := by decide +kernel
theorem d_Tr_hasAll_12 : decode prog_10_method_3_code 12 = .ok (.iload_n 2, 1) := by decide +kernel
theorem d_Tr_hasAll_13 : decode prog_10_method_3_code 13 = .ok (.aload_n 0, 1) := by decide +kernel
theorem d_Tr_hasAll_14 : decode prog_10_method_3_code 14 = .ok (.getfield 23, 3) := by decide +kernel
theorem d_Tr_hasAll_17 : decode prog_10_method_3_code 17 = .ok (.iload_n 1, 1) := by decide +kernel
theorem d_Tr_hasAll_18 : decode prog_10_method_3_code 18 = .ok (.isub, 1) := by decide +kernel
theorem d_Tr_hasAll_19 : decode prog_10_method_3_code 19 = .ok (.if_icmp .gt 7, 3) := by decide +kernel
theorem d_Tr_hasAll_22 : decode prog_10_method_3_code 22 = .ok (.iconst 1, 1) := by decide +kernel
theorem d_Tr_hasAll_23 : decode prog_10_method_3_code 23 = .ok (.goto 4, 3) := by decide +kernel
theorem d_Tr_hasAll_26 : decode prog_10_method_3_code 26 = .ok (.iconst 0, 1) := by decide +kernel
theorem d_Tr_hasAll_27 : decode prog_10_method_3_code 27 = .ok (.ireturn, 1) := by decide +kernel
def Tr_hasAll (Y : Ly) (l0 : Nat) (l1 : Int32) (l2 : Int32) (h : Hp) : Option Bool :=
  if l1 < 0 then
    some false
  else
    if (hGi h 803 l0) < l1 then
      some false
    else
      if ((hGi h 803 l0) - l1) < l2 then
        some false
      else
        some true
theorem ok_Tr_hasAll (Y : Ly) (l0 : Nat) (l1 : Int32) (l2 : Int32) (h : Hp) (t0 : isO Y 8 l0) : AM Y 0 K_Tr_hasAll [.ref l0, .int l1, .int l2] h (Tr_hasAll Y l0 l1 l2 h) (pZ h) := by
  refine AM.of rfl (Nat.le_of_ble_eq_true rfl) ?_
  show AW Y 0 K_Tr_hasAll 0 [(0, .ref l0), (1, .int l1), (2, .int l2)] [] h (Tr_hasAll Y l0 l1 l2 h) (pZ h)
  unfold Tr_hasAll
  refine aw_iload_n (pc := 0) d_Tr_hasAll_0 rfl 1 rfl ?_
  refine aw_if_lt (pc := 1) (tgt := 26) d_Tr_hasAll_1 (by decide) (fun c1 => ?_) (fun c1 => ?_)
  · refine aw_iconst (pc := 26) (x := 0) d_Tr_hasAll_26 (by decide) ?_
    exact aw_zreturn (pc := 27) (b := false) d_Tr_hasAll_27 rfl rfl
  · refine aw_iload_n (pc := 4) d_Tr_hasAll_4 rfl 1 rfl ?_
    refine aw_aload_n (pc := 5) d_Tr_hasAll_5 rfl 0 rfl ?_
    refine gt_803 (pc := 6) d_Tr_hasAll_6 w2_226 t0 ?_
    refine aw_icmp_gt (pc := 9) (tgt := 26) d_Tr_hasAll_9 (by decide) (fun c2 => ?_) (fun c2 => ?_)
    · refine aw_iconst (pc := 26) (x := 0) d_Tr_hasAll_26 (by decide) ?_
      exact aw_zreturn (pc := 27) (b := false) d_Tr_hasAll_27 rfl rfl
    · refine aw_iload_n (pc := 12) d_Tr_hasAll_12 rfl 2 rfl ?_
      refine aw_aload_n (pc := 13) d_Tr_hasAll_13 rfl 0 rfl ?_
      refine gt_803 (pc := 14) d_Tr_hasAll_14 w2_226 t0 ?_
      refine aw_iload_n (pc := 17) d_Tr_hasAll_17 rfl 1 rfl ?_
      refine aw_isub (pc := 18) d_Tr_hasAll_18 ?_
      refine aw_icmp_gt (pc := 19) (tgt := 26) d_Tr_hasAll_19 (by decide) (fun c3 => ?_) (fun c3 => ?_)
      · refine aw_iconst (pc := 26) (x := 0) d_Tr_hasAll_26 (by decide) ?_
        exact aw_zreturn (pc := 27) (b := false) d_Tr_hasAll_27 rfl rfl
      · refine aw_iconst (pc := 22) (x := 1) d_Tr_hasAll_22 (by decide) ?_
        refine aw_goto (pc := 23) (tgt := 27) d_Tr_hasAll_23 (by decide) ?_
        exact aw_zreturn (pc := 27) (b := true) d_Tr_hasAll_27 rfl rfl
/-! LastPages$Tray.put(IJ)V -/
theorem d_Tr_put_0 : decode prog_10_method_4_code 0 = .ok (.aload_n 0, 1) := by decide +kernel
theorem d_Tr_put_1 : decode prog_10_method_4_code 1 = .ok (.iload_n 1, 1) := by decide +kernel
theorem d_Tr_put_2 : decode prog_10_method_4_code 2 = .ok (.iconst 1, 1) := by decide +kernel
theorem d_Tr_put_3 : decode prog_10_method_4_code 3 = .ok (.invokevirtual 32, 3) := by decide +kernel
theorem d_Tr_put_6 : decode prog_10_method_4_code 6 = .ok (.ifCond .eq 14, 3) := by decide +kernel
theorem d_Tr_put_9 : decode prog_10_method_4_code 9 = .ok (.aload_n 0, 1) := by decide +kernel
theorem d_Tr_put_10 : decode prog_10_method_4_code 10 = .ok (.getfield 9, 3) := by decide +kernel
theorem d_Tr_put_13 : decode prog_10_method_4_code 13 = .ok (.iload_n 1, 1) := by decide +kernel
theorem d_Tr_put_14 : decode prog_10_method_4_code 14 = .ok (.aload_n 0, 1) := by decide +kernel
theorem d_Tr_put_15 : decode prog_10_method_4_code 15 = .ok (.lload_n 2, 1) := by decide +kernel
theorem d_Tr_put_16 : decode prog_10_method_4_code 16 = .ok (.invokevirtual 36, 3) := by decide +kernel
theorem d_Tr_put_19 : decode prog_10_method_4_code 19 = .ok (.lastore, 1) := by decide +kernel
theorem d_Tr_put_20 : decode prog_10_method_4_code 20 = .ok (.return_, 1) := by decide +kernel
def Tr_put (Y : Ly) (l0 : Nat) (l1 : Int32) (l2 : Int64) (h : Hp) : Option Hp :=
  (Tr_hasAll Y l0 l1 1 h).bind fun q1 =>
  if q1 = true then
    (Tr_cut Y l0 l2 h).bind fun q4 =>
    if inB l1 (lnY Y (hGr h 800 l0)) = true then
      letH (hTl h (hGr h 800 l0) (Int32.toNatClampNeg l1) q4) fun h6 =>
      some h6
    else none
  else
    some h
theorem ok_Tr_put (Y : Ly) (l0 : Nat) (l1 : Int32) (l2 : Int64) (h : Hp) (t0 : isO Y 8 l0) : AM Y 1 K_Tr_put [.ref l0, .int l1, .long l2] h (Tr_put Y l0 l1 l2 h) rV := by
  refine AM.of rfl (Nat.le_of_ble_eq_true rfl) ?_
  show AW Y 1 K_Tr_put 0 [(0, .ref l0), (1, .int l1), (2, .long l2)] [] h (Tr_put Y l0 l1 l2 h) rV
  unfold Tr_put
  refine aw_aload_n (pc := 0) d_Tr_put_0 rfl 0 rfl ?_
  refine aw_iload_n (pc := 1) d_Tr_put_1 rfl 1 rfl ?_
  refine aw_iconst (pc := 2) (x := 1) d_Tr_put_2 (by decide) ?_
  refine aw_cVpZ (pc := 3) (ci := 8) (T := TX8) (N := 4) (As := [.int l1, .int 1]) (st := []) (ok_Tr_hasAll Y l0 l1 1 h t0) okV_Tr_hasAll rfl (by decide) t0 w3_105 d_Tr_put_3 rfl (Nat.le_of_ble_eq_true rfl) rfl (Nat.le_of_ble_eq_true rfl) (fun q1 hq1 hTq1 => ?_)
  refine aw_beq (pc := 6) (tgt := 20) d_Tr_put_6 (by decide) (fun c2 => ?_) (fun c2 => ?_)
  · refine aw_aload_n (pc := 9) d_Tr_put_9 rfl 0 rfl ?_
    refine gt_800 (pc := 10) d_Tr_put_10 w2_220 t0 (fun tt3 => ?_)
    refine aw_iload_n (pc := 13) d_Tr_put_13 rfl 1 rfl ?_
    refine aw_aload_n (pc := 14) d_Tr_put_14 rfl 0 rfl ?_
    refine aw_lload_n (pc := 15) d_Tr_put_15 rfl 2 rfl ?_
    refine aw_cVpL (pc := 16) (ci := 8) (T := TX8) (N := 4) (As := [.long l2]) (st := [.int l1, .ref (hGr h 800 l0)]) (ok_Tr_cut Y l0 l2 h t0) okV_Tr_cut rfl (by decide) t0 w3_106 d_Tr_put_16 rfl (Nat.le_of_ble_eq_true rfl) rfl (Nat.le_of_ble_eq_true rfl) (fun q4 hq4 hTq4 => ?_)
    refine aw_lastore (pc := 19) d_Tr_put_19 tt3 (fun c5 => ?_)
    refine aw_letH (fun h6 => ?_)
    exact aw_return (pc := 20) d_Tr_put_20 rfl rfl
  · exact aw_return (pc := 20) d_Tr_put_20 rfl rfl
/-! LastPages.copyFinale(II)I -/
theorem d_LP_copyFinale_0 : decode prog_1_method_22_code 0 = .ok (.aload_n 0, 1) := by decide +kernel
theorem d_LP_copyFinale_1 : decode prog_1_method_22_code 1 = .ok (.iload_n 2, 1) := by decide +kernel
theorem d_LP_copyFinale_2 : decode prog_1_method_22_code 2 = .ok (.invokevirtual 109, 3) := by decide +kernel
theorem d_LP_copyFinale_5 : decode prog_1_method_22_code 5 = .ok (.astore_n 3, 1) := by decide +kernel
theorem d_LP_copyFinale_6 : decode prog_1_method_22_code 6 = .ok (.aload_n 3, 1) := by decide +kernel
theorem d_LP_copyFinale_7 : decode prog_1_method_22_code 7 = .ok (.ifnonnull 9, 3) := by decide +kernel
theorem d_LP_copyFinale_10 : decode prog_1_method_22_code 10 = .ok (.aload_n 0, 1) := by decide +kernel
theorem d_LP_copyFinale_11 : decode prog_1_method_22_code 11 = .ok (.iconst 1, 1) := by decide +kernel
theorem d_LP_copyFinale_12 : decode prog_1_method_22_code 12 = .ok (.invokevirtual 133, 3) := by decide +kernel
theorem d_LP_copyFinale_15 : decode prog_1_method_22_code 15 = .ok (.ireturn, 1) := by decide +kernel
theorem d_LP_copyFinale_16 : decode prog_1_method_22_code 16 = .ok (.aload_n 0, 1) := by decide +kernel
theorem d_LP_copyFinale_17 : decode prog_1_method_22_code 17 = .ok (.getfield 68, 3) := by decide +kernel
theorem d_LP_copyFinale_20 : decode prog_1_method_22_code 20 = .ok (.getfield 193, 3) := by decide +kernel
theorem d_LP_copyFinale_23 : decode prog_1_method_22_code 23 = .ok (.iload_n 1, 1) := by decide +kernel
theorem d_LP_copyFinale_24 : decode prog_1_method_22_code 24 = .ok (.invokevirtual 279, 3) := by decide +kernel
theorem d_LP_copyFinale_27 : decode prog_1_method_22_code 27 = .ok (.ifCond .ne 9, 3) := by decide +kernel
theorem d_LP_copyFinale_30 : decode prog_1_method_22_code 30 = .ok (.aload_n 0, 1) := by decide +kernel
theorem d_LP_copyFinale_31 : decode prog_1_method_22_code 31 = .ok (.iconst 2, 1) := by decide +kernel
theorem d_LP_copyFinale_32 : decode prog_1_method_22_code 32 = .ok (.invokevirtual 133, 3) := by decide +kernel
theorem d_LP_copyFinale_35 : decode prog_1_method_22_code 35 = .ok (.ireturn, 1) := by decide +kernel
theorem d_LP_copyFinale_36 : decode prog_1_method_22_code 36 = .ok (.aload_n 3, 1) := by decide +kernel
theorem d_LP_copyFinale_37 : decode prog_1_method_22_code 37 = .ok (.getfield 141, 3) := by decide +kernel
theorem d_LP_copyFinale_40 : decode prog_1_method_22_code 40 = .ok (.ifCond .ne 9, 3) := by decide +kernel
theorem d_LP_copyFinale_43 : decode prog_1_method_22_code 43 = .ok (.aload_n 0, 1) := by decide +kernel
theorem d_LP_copyFinale_44 : decode prog_1_method_22_code 44 = .ok (.iconst 3, 1) := by decide +kernel
theorem d_LP_copyFinale_45 : decode prog_1_method_22_code 45 = .ok (.invokevirtual 133, 3) := by decide +kernel
theorem d_LP_copyFinale_48 : decode prog_1_method_22_code 48 = .ok (.ireturn, 1) := by decide +kernel
theorem d_LP_copyFinale_49 : decode prog_1_method_22_code 49 = .ok (.aload_n 0, 1) := by decide +kernel
theorem d_LP_copyFinale_50 : decode prog_1_method_22_code 50 = .ok (.getfield 68, 3) := by decide +kernel
theorem d_LP_copyFinale_53 : decode prog_1_method_22_code 53 = .ok (.getfield 193, 3) := by decide +kernel
theorem d_LP_copyFinale_56 : decode prog_1_method_22_code 56 = .ok (.getfield 292, 3) := by decide +kernel
theorem d_LP_copyFinale_59 : decode prog_1_method_22_code 59 = .ok (.iload_n 1, 1) := by decide +kernel
theorem d_LP_copyFinale_60 : decode prog_1_method_22_code 60 = .ok (.iaload, 1) := by decide +kernel
theorem d_LP_copyFinale_61 : decode prog_1_method_22_code 61 = .ok (.istore 4, 2) := by decide +kernel
theorem d_LP_copyFinale_63 : decode prog_1_method_22_code 63 = .ok (.aload_n 3, 1) := by decide +kernel
theorem d_LP_copyFinale_64 : decode prog_1_method_22_code 64 = .ok (.getfield 295, 3) := by decide +kernel
theorem d_LP_copyFinale_67 : decode prog_1_method_22_code 67 = .ok (.iload 4, 2) := by decide +kernel
theorem d_LP_copyFinale_69 : decode prog_1_method_22_code 69 = .ok (.if_icmp .ge 9, 3) := by decide +kernel
theorem d_LP_copyFinale_72 : decode prog_1_method_22_code 72 = .ok (.aload_n 0, 1) := by decide +kernel
theorem d_LP_copyFinale_73 : decode prog_1_method_22_code 73 = .ok (.iconst 4, 1) := by decide +kernel
theorem d_LP_copyFinale_74 : decode prog_1_method_22_code 74 = .ok (.invokevirtual 133, 3) := by decide +kernel
theorem d_LP_copyFinale_77 : decode prog_1_method_22_code 77 = .ok (.ireturn, 1) := by decide +kernel
theorem d_LP_copyFinale_78 : decode prog_1_method_22_code 78 = .ok (.iconst 0, 1) := by decide +kernel
theorem d_LP_copyFinale_79 : decode prog_1_method_22_code 79 = .ok (.istore 5, 2) := by decide +kernel
theorem d_LP_copyFinale_81 : decode prog_1_method_22_code 81 = .ok (.iload 5, 2) := by decide +kernel
theorem d_LP_copyFinale_83 : decode prog_1_method_22_code 83 = .ok (.iload 4, 2) := by decide +kernel
theorem d_LP_copyFinale_85 : decode prog_1_method_22_code 85 = .ok (.if_icmp .ge 29, 3) := by decide +kernel
theorem d_LP_copyFinale_88 : decode prog_1_method_22_code 88 = .ok (.aload_n 3, 1) := by decide +kernel
theorem d_LP_copyFinale_89 : decode prog_1_method_22_code 89 = .ok (.iload 5, 2) := by decide +kernel
theorem d_LP_copyFinale_91 : decode prog_1_method_22_code 91 = .ok (.aload_n 0, 1) := by decide +kernel
theorem d_LP_copyFinale_92 : decode prog_1_method_22_code 92 = .ok (.getfield 68, 3) := by decide +kernel
theorem d_LP_copyFinale_95 : decode prog_1_method_22_code 95 = .ok (.getfield 193, 3) := by decide +kernel
theorem d_LP_copyFinale_98 : decode prog_1_method_22_code 98 = .ok (.iload_n 1, 1) := by decide +kernel
theorem d_LP_copyFinale_99 : decode prog_1_method_22_code 99 = .ok (.iload 5, 2) := by decide +kernel
theorem d_LP_copyFinale_101 : decode prog_1_method_22_code 101 = .ok (.invokevirtual 282, 3) := by decide +kernel
theorem d_LP_copyFinale_104 : decode prog_1_method_22_code 104 = .ok (.i2l, 1) := by decide +kernel
theorem d_LP_copyFinale_105 : decode prog_1_method_22_code 105 = .ok (.invokevirtual 129, 3) := by decide +kernel
theorem d_LP_copyFinale_108 : decode prog_1_method_22_code 108 = .ok (.iinc 5 1, 3) := by decide +kernel
theorem d_LP_copyFinale_111 : decode prog_1_method_22_code 111 = .ok (.goto (-30), 3) := by decide +kernel
theorem d_LP_copyFinale_114 : decode prog_1_method_22_code 114 = .ok (.aload_n 0, 1) := by decide +kernel
theorem d_LP_copyFinale_115 : decode prog_1_method_22_code 115 = .ok (.iload 4, 2) := by decide +kernel
theorem d_LP_copyFinale_117 : decode prog_1_method_22_code 117 = .ok (.invokevirtual 180, 3) := by decide +kernel
theorem d_LP_copyFinale_120 : decode prog_1_method_22_code 120 = .ok (.ireturn, 1) := by decide +kernel
def LP_copyFinale_L81 (Y : Ly) (l0 : Nat) (l1 : Int32) (l3 : Nat) (l4 : Int32) : Nat → Int32 → Hp → Option (Int32 × Hp)
  | 0, _, _ => none
  | F + 1, l5, h =>
    if l4 ≤ l5 then
      (LP_give Y l0 l4 h).bind fun q17 =>
      some (q17.1, q17.2)
    else
      (St_turnInFinale Y (hGr h 400 (hGr h 1109 l0)) l1 l5 h).bind fun q20 =>
      (Tr_put Y l3 l5 (Int32.toInt64 q20) h).bind fun q21 =>
      LP_copyFinale_L81 Y l0 l1 l3 l4 F (l5 + 1) q21
theorem LP_copyFinale_L81_ok (Y : Ly) (l0 : Nat) (l1 : Int32) (l3 : Nat) (l4 : Int32) (tl0 : isO Y 11 l0) (tl3 : isO Y 8 l3) : ∀ (F : Nat) (l5 : Int32) (h : Hp), AW Y 2 K_LP_copyFinale 81 [(0, .ref l0), (1, .int l1), (3, .ref l3), (4, .int l4), (5, .int l5)] [] h (LP_copyFinale_L81 Y l0 l1 l3 l4 F l5 h) rI := by
  intro F
  induction F with
  | zero =>
    intro l5 h
    exact aw_none
  | succ F ih =>
    intro l5 h
    unfold LP_copyFinale_L81
    refine aw_iload (pc := 81) d_LP_copyFinale_81 4 rfl ?_
    refine aw_iload (pc := 83) d_LP_copyFinale_83 3 rfl ?_
    refine aw_icmp_ge (pc := 85) (tgt := 114) d_LP_copyFinale_85 (by decide) (fun c16 => ?_) (fun c16 => ?_)
    · refine aw_aload_n (pc := 114) d_LP_copyFinale_114 rfl 0 rfl ?_
      refine aw_iload (pc := 115) d_LP_copyFinale_115 3 rfl ?_
      refine aw_cVrI (pc := 117) (ci := 11) (T := TX11) (N := 18) (As := [.int l4]) (st := []) (ok_LP_give Y l0 l4 h tl0) okV_LP_give rfl (by decide) tl0 w4_88 d_LP_copyFinale_117 rfl (Nat.le_of_ble_eq_true rfl) rfl (Nat.le_of_ble_eq_true rfl) (fun q17 hq17 hTq17 => ?_)
      exact aw_ireturn (pc := 120) d_LP_copyFinale_120 rfl rfl
    · refine aw_aload_n (pc := 88) d_LP_copyFinale_88 rfl 2 rfl ?_
      refine aw_iload (pc := 89) d_LP_copyFinale_89 4 rfl ?_
      refine aw_aload_n (pc := 91) d_LP_copyFinale_91 rfl 0 rfl ?_
      refine gt_1109 (pc := 92) d_LP_copyFinale_92 w3_9 tl0 (fun tt18 => ?_)
      refine gt_400 (pc := 95) d_LP_copyFinale_95 w2_129 tt18 (fun tt19 => ?_)
      refine aw_iload_n (pc := 98) d_LP_copyFinale_98 rfl 1 rfl ?_
      refine aw_iload (pc := 99) d_LP_copyFinale_99 4 rfl ?_
      refine aw_cVpI (pc := 101) (ci := 6) (T := TX6) (N := 8) (As := [.int l1, .int l5]) (st := [.int l5, .ref l3]) (ok_St_turnInFinale Y (hGr h 400 (hGr h 1109 l0)) l1 l5 h tt19) okV_St_turnInFinale rfl (by decide) tt19 w4_226 d_LP_copyFinale_101 rfl (Nat.le_of_ble_eq_true rfl) rfl (Nat.le_of_ble_eq_true rfl) (fun q20 hq20 hTq20 => ?_)
      refine aw_i2l (pc := 104) d_LP_copyFinale_104 ?_
      refine aw_cVrV (pc := 105) (ci := 8) (T := TX8) (N := 4) (As := [.int l5, .long (Int32.toInt64 q20)]) (st := []) (ok_Tr_put Y l3 l5 (Int32.toInt64 q20) h tl3) okV_Tr_put rfl (by decide) tl3 w3_101 d_LP_copyFinale_105 rfl (Nat.le_of_ble_eq_true rfl) rfl (Nat.le_of_ble_eq_true rfl) (fun q21 hq21 hTq21 => ?_)
      refine aw_iinc (pc := 108) (w := l5 + 1) (lv' := [(5, .int (l5 + 1)), (0, .ref l0), (1, .int l1), (3, .ref l3), (4, .int l4)]) d_LP_copyFinale_108 4 rfl rfl (by decide) rfl ?_
      refine aw_goto (pc := 111) (tgt := 81) d_LP_copyFinale_111 (by decide) ?_
      exact aw_lv [1, 2, 3, 4, 0] rfl (ih (l5 + 1) q21)
def LP_copyFinale (Y : Ly) (l0 : Nat) (l1 : Int32) (l2 : Int32) (h : Hp) : Option (Int32 × Hp) :=
  (LP_trayAt Y l0 l2 h).bind fun q1 =>
  match q1 with
  | none =>
      (LP_fail Y l0 1 h).bind fun q5 =>
      some (q5.1, q5.2)
  | some a3 =>
      (St_hasFinale Y (hGr h 400 (hGr h 1109 l0)) l1 h).bind fun q8 =>
      if q8 = true then
        if (hGz h 801 a3) = true then
          if inB l1 (lnY Y (hGr h 602 (hGr h 400 (hGr h 1109 l0)))) = true then
            if (hAi h (hGr h 602 (hGr h 400 (hGr h 1109 l0))) (Int32.toNatClampNeg l1)) ≤ (hGi h 803 a3) then
              LP_copyFinale_L81 Y l0 l1 a3 (hAi h (hGr h 602 (hGr h 400 (hGr h 1109 l0))) (Int32.toNatClampNeg l1)) FU 0 h
            else
              (LP_fail Y l0 4 h).bind fun q22 =>
              some (q22.1, q22.2)
          else none
        else
          (LP_fail Y l0 3 h).bind fun q23 =>
          some (q23.1, q23.2)
      else
        (LP_fail Y l0 2 h).bind fun q24 =>
        some (q24.1, q24.2)
theorem ok_LP_copyFinale (Y : Ly) (l0 : Nat) (l1 : Int32) (l2 : Int32) (h : Hp) (t0 : isO Y 11 l0) : AM Y 2 K_LP_copyFinale [.ref l0, .int l1, .int l2] h (LP_copyFinale Y l0 l1 l2 h) rI := by
  refine AM.of rfl (Nat.le_of_ble_eq_true rfl) ?_
  show AW Y 2 K_LP_copyFinale 0 [(0, .ref l0), (1, .int l1), (2, .int l2)] [] h (LP_copyFinale Y l0 l1 l2 h) rI
  unfold LP_copyFinale
  refine aw_aload_n (pc := 0) d_LP_copyFinale_0 rfl 0 rfl ?_
  refine aw_iload_n (pc := 1) d_LP_copyFinale_1 rfl 2 rfl ?_
  refine aw_cVpQ (pc := 2) (ci := 11) (T := TX11) (N := 18) (As := [.int l2]) (st := []) (ok_LP_trayAt Y l0 l2 h t0) okV_LP_trayAt rfl (by decide) t0 w3_71 d_LP_copyFinale_2 rfl (Nat.le_of_ble_eq_true rfl) rfl (Nat.le_of_ble_eq_true rfl) (fun q1 hq1 hTq1 => ?_)
  have tt2 := ty_LP_trayAt t0 hTq1 hq1
  refine aw_astore_nQ (pc := 5) (lv' := [(3, va_rf q1), (0, .ref l0), (1, .int l1), (2, .int l2)]) d_LP_copyFinale_5 rfl (by decide) rfl ?_
  refine aw_aload_nQ (pc := 6) d_LP_copyFinale_6 rfl 0 rfl ?_
  refine aw_ifnonnullQ (pc := 7) (tgt := 16) (x := q1) d_LP_copyFinale_7 (by decide) (fun e4 => ?_) (fun a3 e4 => ?_)
  · rw [e4]
    show AW _ _ _ _ [(3, .null), (0, .ref l0), (1, .int l1), (2, .int l2)] [] _ _ _
    refine aw_aload_n (pc := 10) d_LP_copyFinale_10 rfl 1 rfl ?_
    refine aw_iconst (pc := 11) (x := 1) d_LP_copyFinale_11 (by decide) ?_
    refine aw_cVrI (pc := 12) (ci := 11) (T := TX11) (N := 18) (As := [.int 1]) (st := []) (ok_LP_fail Y l0 1 h t0) okV_LP_fail rfl (by decide) t0 w3_114 d_LP_copyFinale_12 rfl (Nat.le_of_ble_eq_true rfl) rfl (Nat.le_of_ble_eq_true rfl) (fun q5 hq5 hTq5 => ?_)
    exact aw_ireturn (pc := 15) d_LP_copyFinale_15 rfl rfl
  · rw [e4]
    show AW _ _ _ _ [(3, .ref a3), (0, .ref l0), (1, .int l1), (2, .int l2)] [] _ _ _
    refine aw_aload_n (pc := 16) d_LP_copyFinale_16 rfl 1 rfl ?_
    refine gt_1109 (pc := 17) d_LP_copyFinale_17 w3_9 t0 (fun tt6 => ?_)
    refine gt_400 (pc := 20) d_LP_copyFinale_20 w2_129 tt6 (fun tt7 => ?_)
    refine aw_iload_n (pc := 23) d_LP_copyFinale_23 rfl 2 rfl ?_
    refine aw_cVpZ (pc := 24) (ci := 6) (T := TX6) (N := 8) (As := [.int l1]) (st := []) (ok_St_hasFinale Y (hGr h 400 (hGr h 1109 l0)) l1 h tt7) okV_St_hasFinale rfl (by decide) tt7 w4_222 d_LP_copyFinale_24 rfl (Nat.le_of_ble_eq_true rfl) rfl (Nat.le_of_ble_eq_true rfl) (fun q8 hq8 hTq8 => ?_)
    refine aw_bne (pc := 27) (tgt := 36) d_LP_copyFinale_27 (by decide) (fun c9 => ?_) (fun c9 => ?_)
    · refine aw_aload_n (pc := 36) d_LP_copyFinale_36 rfl 0 rfl ?_
      refine gt_801 (pc := 37) d_LP_copyFinale_37 w2_223 (tt2 _ e4) ?_
      refine aw_bne (pc := 40) (tgt := 49) d_LP_copyFinale_40 (by decide) (fun c10 => ?_) (fun c10 => ?_)
      · refine aw_aload_n (pc := 49) d_LP_copyFinale_49 rfl 1 rfl ?_
        refine gt_1109 (pc := 50) d_LP_copyFinale_50 w3_9 t0 (fun tt11 => ?_)
        refine gt_400 (pc := 53) d_LP_copyFinale_53 w2_129 tt11 (fun tt12 => ?_)
        refine gt_602 (pc := 56) d_LP_copyFinale_56 w1_184 tt12 (fun tt13 => ?_)
        refine aw_iload_n (pc := 59) d_LP_copyFinale_59 rfl 2 rfl ?_
        refine aw_iaload (pc := 60) d_LP_copyFinale_60 tt13 (fun c14 => ?_)
        refine aw_istore (pc := 61) (lv' := [(4, .int (hAi h (hGr h 602 (hGr h 400 (hGr h 1109 l0))) (Int32.toNatClampNeg l1))), (3, .ref a3), (0, .ref l0), (1, .int l1), (2, .int l2)]) d_LP_copyFinale_61 (by decide) rfl ?_
        refine aw_aload_n (pc := 63) d_LP_copyFinale_63 rfl 1 rfl ?_
        refine gt_803 (pc := 64) d_LP_copyFinale_64 w2_227 (tt2 _ e4) ?_
        refine aw_iload (pc := 67) d_LP_copyFinale_67 0 rfl ?_
        refine aw_icmp_ge (pc := 69) (tgt := 78) d_LP_copyFinale_69 (by decide) (fun c15 => ?_) (fun c15 => ?_)
        · refine aw_iconst (pc := 78) (x := 0) d_LP_copyFinale_78 (by decide) ?_
          refine aw_istore (pc := 79) (lv' := [(5, .int 0), (4, .int (hAi h (hGr h 602 (hGr h 400 (hGr h 1109 l0))) (Int32.toNatClampNeg l1))), (3, .ref a3), (0, .ref l0), (1, .int l1), (2, .int l2)]) d_LP_copyFinale_79 (by decide) rfl ?_
          exact aw_lv [3, 4, 2, 1, 0] rfl (LP_copyFinale_L81_ok Y l0 l1 a3 (hAi h (hGr h 602 (hGr h 400 (hGr h 1109 l0))) (Int32.toNatClampNeg l1)) t0 (tt2 _ e4) FU 0 h)
        · refine aw_aload_n (pc := 72) d_LP_copyFinale_72 rfl 2 rfl ?_
          refine aw_iconst (pc := 73) (x := 4) d_LP_copyFinale_73 (by decide) ?_
          refine aw_cVrI (pc := 74) (ci := 11) (T := TX11) (N := 18) (As := [.int 4]) (st := []) (ok_LP_fail Y l0 4 h t0) okV_LP_fail rfl (by decide) t0 w3_114 d_LP_copyFinale_74 rfl (Nat.le_of_ble_eq_true rfl) rfl (Nat.le_of_ble_eq_true rfl) (fun q22 hq22 hTq22 => ?_)
          exact aw_ireturn (pc := 77) d_LP_copyFinale_77 rfl rfl
      · refine aw_aload_n (pc := 43) d_LP_copyFinale_43 rfl 1 rfl ?_
        refine aw_iconst (pc := 44) (x := 3) d_LP_copyFinale_44 (by decide) ?_
        refine aw_cVrI (pc := 45) (ci := 11) (T := TX11) (N := 18) (As := [.int 3]) (st := []) (ok_LP_fail Y l0 3 h t0) okV_LP_fail rfl (by decide) t0 w3_114 d_LP_copyFinale_45 rfl (Nat.le_of_ble_eq_true rfl) rfl (Nat.le_of_ble_eq_true rfl) (fun q23 hq23 hTq23 => ?_)
        exact aw_ireturn (pc := 48) d_LP_copyFinale_48 rfl rfl
    · refine aw_aload_n (pc := 30) d_LP_copyFinale_30 rfl 1 rfl ?_
      refine aw_iconst (pc := 31) (x := 2) d_LP_copyFinale_31 (by decide) ?_
      refine aw_cVrI (pc := 32) (ci := 11) (T := TX11) (N := 18) (As := [.int 2]) (st := []) (ok_LP_fail Y l0 2 h t0) okV_LP_fail rfl (by decide) t0 w3_114 d_LP_copyFinale_32 rfl (Nat.le_of_ble_eq_true rfl) rfl (Nat.le_of_ble_eq_true rfl) (fun q24 hq24 hTq24 => ?_)
      exact aw_ireturn (pc := 35) d_LP_copyFinale_35 rfl rfl
/-! LastPages.endings(I)J -/
theorem d_LP_endings_0 : decode prog_1_method_29_code 0 = .ok (.aload_n 0, 1) := by decide +kernel
theorem d_LP_endings_1 : decode prog_1_method_29_code 1 = .ok (.getfield 68, 3) := by decide +kernel
theorem d_LP_endings_4 : decode prog_1_method_29_code 4 = .ok (.iload_n 1, 1) := by decide +kernel
theorem d_LP_endings_5 : decode prog_1_method_29_code 5 = .ok (.invokevirtual 255, 3) := by decide +kernel
theorem d_LP_endings_8 : decode prog_1_method_29_code 8 = .ok (.ifCond .ne 10, 3) := by decide +kernel
theorem d_LP_endings_11 : decode prog_1_method_29_code 11 = .ok (.aload_n 0, 1) := by decide +kernel
theorem d_LP_endings_12 : decode prog_1_method_29_code 12 = .ok (.iconst 2, 1) := by decide +kernel
theorem d_LP_endings_13 : decode prog_1_method_29_code 13 = .ok (.invokevirtual 133, 3) := by decide +kernel
theorem d_LP_endings_16 : decode prog_1_method_29_code 16 = .ok (.i2l, 1) := by decide +kernel
theorem d_LP_endings_17 : decode prog_1_method_29_code 17 = .ok (.lreturn, 1) := by decide +kernel
theorem d_LP_endings_18 : decode prog_1_method_29_code 18 = .ok (.aload_n 0, 1) := by decide +kernel
theorem d_LP_endings_19 : decode prog_1_method_29_code 19 = .ok (.iconst 0, 1) := by decide +kernel
theorem d_LP_endings_20 : decode prog_1_method_29_code 20 = .ok (.putfield 82, 3) := by decide +kernel
theorem d_LP_endings_23 : decode prog_1_method_29_code 23 = .ok (.aload_n 0, 1) := by decide +kernel
theorem d_LP_endings_24 : decode prog_1_method_29_code 24 = .ok (.getfield 45, 3) := by decide +kernel
theorem d_LP_endings_27 : decode prog_1_method_29_code 27 = .ok (.aload_n 0, 1) := by decide +kernel
theorem d_LP_endings_28 : decode prog_1_method_29_code 28 = .ok (.getfield 68, 3) := by decide +kernel
theorem d_LP_endings_31 : decode prog_1_method_29_code 31 = .ok (.iload_n 1, 1) := by decide +kernel
theorem d_LP_endings_32 : decode prog_1_method_29_code 32 = .ok (.aload_n 0, 1) := by decide +kernel
theorem d_LP_endings_33 : decode prog_1_method_29_code 33 = .ok (.getfield 68, 3) := by decide +kernel
theorem d_LP_endings_36 : decode prog_1_method_29_code 36 = .ok (.getfield 236, 3) := by decide +kernel
theorem d_LP_endings_39 : decode prog_1_method_29_code 39 = .ok (.invokevirtual 322, 3) := by decide +kernel
theorem d_LP_endings_42 : decode prog_1_method_29_code 42 = .ok (.lreturn, 1) := by decide +kernel
def LP_endings (Y : Ly) (l0 : Nat) (l1 : Int32) (h : Hp) : Option (Int64 × Hp) :=
  (Sh_hasBook Y (hGr h 1109 l0) l1 h).bind fun q2 =>
  if q2 = true then
    letH (hSi h 1112 l0 0) fun h4 =>
    (En_countOf Y (hGr h4 1105 l0) (hGr h4 1109 l0) l1 (hGi h4 417 (hGr h4 1109 l0)) h4).bind fun q8 =>
    some (q8.1, q8.2)
  else
    (LP_fail Y l0 2 h).bind fun q9 =>
    some (Int32.toInt64 q9.1, q9.2)
theorem ok_LP_endings (Y : Ly) (l0 : Nat) (l1 : Int32) (h : Hp) (t0 : isO Y 11 l0) : AM Y 4 K_LP_endings [.ref l0, .int l1] h (LP_endings Y l0 l1 h) rL := by
  refine AM.of rfl (Nat.le_of_ble_eq_true rfl) ?_
  show AW Y 4 K_LP_endings 0 [(0, .ref l0), (1, .int l1)] [] h (LP_endings Y l0 l1 h) rL
  unfold LP_endings
  refine aw_aload_n (pc := 0) d_LP_endings_0 rfl 0 rfl ?_
  refine gt_1109 (pc := 1) d_LP_endings_1 w3_9 t0 (fun tt1 => ?_)
  refine aw_iload_n (pc := 4) d_LP_endings_4 rfl 1 rfl ?_
  refine aw_cVpZ (pc := 5) (ci := 4) (T := TX4) (N := 19) (As := [.int l1]) (st := []) (ok_Sh_hasBook Y (hGr h 1109 l0) l1 h tt1) okV_Sh_hasBook rfl (by decide) tt1 w4_199 d_LP_endings_5 rfl (Nat.le_of_ble_eq_true rfl) rfl (Nat.le_of_ble_eq_true rfl) (fun q2 hq2 hTq2 => ?_)
  refine aw_bne (pc := 8) (tgt := 18) d_LP_endings_8 (by decide) (fun c3 => ?_) (fun c3 => ?_)
  · refine aw_aload_n (pc := 18) d_LP_endings_18 rfl 0 rfl ?_
    refine aw_iconst (pc := 19) (x := 0) d_LP_endings_19 (by decide) ?_
    refine pt_1112 (pc := 20) d_LP_endings_20 w3_12 t0 ?_
    refine aw_letH (fun h4 => ?_)
    refine aw_aload_n (pc := 23) d_LP_endings_23 rfl 0 rfl ?_
    refine gt_1105 (pc := 24) d_LP_endings_24 w3_5 t0 (fun tt5 => ?_)
    refine aw_aload_n (pc := 27) d_LP_endings_27 rfl 0 rfl ?_
    refine gt_1109 (pc := 28) d_LP_endings_28 w3_9 t0 (fun tt6 => ?_)
    refine aw_iload_n (pc := 31) d_LP_endings_31 rfl 1 rfl ?_
    refine aw_aload_n (pc := 32) d_LP_endings_32 rfl 0 rfl ?_
    refine gt_1109 (pc := 33) d_LP_endings_33 w3_9 t0 (fun tt7 => ?_)
    refine gt_417 (pc := 36) d_LP_endings_36 w2_169 tt7 ?_
    refine aw_cVrL (pc := 39) (ci := 0) (T := TX0) (N := 8) (As := [.ref (hGr h4 1109 l0), .int l1, .int (hGi h4 417 (hGr h4 1109 l0))]) (st := []) (ok_En_countOf Y (hGr h4 1105 l0) (hGr h4 1109 l0) l1 (hGi h4 417 (hGr h4 1109 l0)) h4 tt5 tt6) okV_En_countOf rfl (by decide) tt5 w5_98 d_LP_endings_39 rfl (Nat.le_of_ble_eq_true rfl) rfl (Nat.le_of_ble_eq_true rfl) (fun q8 hq8 hTq8 => ?_)
    exact aw_lreturn (pc := 42) d_LP_endings_42 rfl rfl
  · refine aw_aload_n (pc := 11) d_LP_endings_11 rfl 0 rfl ?_
    refine aw_iconst (pc := 12) (x := 2) d_LP_endings_12 (by decide) ?_
    refine aw_cVrI (pc := 13) (ci := 11) (T := TX11) (N := 18) (As := [.int 2]) (st := []) (ok_LP_fail Y l0 2 h t0) okV_LP_fail rfl (by decide) t0 w3_114 d_LP_endings_13 rfl (Nat.le_of_ble_eq_true rfl) rfl (Nat.le_of_ble_eq_true rfl) (fun q9 hq9 hTq9 => ?_)
    refine aw_i2l (pc := 16) d_LP_endings_16 ?_
    exact aw_lreturn (pc := 17) d_LP_endings_17 rfl rfl
/-! LastPages.fault(I)I -/
theorem d_LP_fault_0 : decode prog_1_method_12_code 0 = .ok (.iload_n 1, 1) := by decide +kernel
theorem d_LP_fault_1 : decode prog_1_method_12_code 1 = .ok (.lookupswitch 37 #[(0, 27), (1, 32)], 27) := by decide +kernel
theorem d_LP_fault_28 : decode prog_1_method_12_code 28 = .ok (.aload_n 0, 1) := by decide +kernel
theorem d_LP_fault_29 : decode prog_1_method_12_code 29 = .ok (.getfield 93, 3) := by decide +kernel
theorem d_LP_fault_32 : decode prog_1_method_12_code 32 = .ok (.ireturn, 1) := by decide +kernel
theorem d_LP_fault_33 : decode prog_1_method_12_code 33 = .ok (.aload_n 0, 1) := by decide +kernel
theorem d_LP_fault_34 : decode prog_1_method_12_code 34 = .ok (.getfield 96, 3) := by decide +kernel
theorem d_LP_fault_37 : decode prog_1_method_12_code 37 = .ok (.ireturn, 1) := by decide +kernel
theorem d_LP_fault_38 : decode prog_1_method_12_code 38 = .ok (.iconst (-1), 1) := by decide +kernel
theorem d_LP_fault_39 : decode prog_1_method_12_code 39 = .ok (.ireturn, 1) := by decide +kernel
def LP_fault (Y : Ly) (l0 : Nat) (l1 : Int32) (h : Hp) : Option Int32 :=
  if l1 = 0 then
    some (hGi h 1115 l0)
  else
  if l1 = 1 then
    some (hGi h 1116 l0)
  else
  some (-1)
theorem ok_LP_fault (Y : Ly) (l0 : Nat) (l1 : Int32) (h : Hp) (t0 : isO Y 11 l0) : AM Y 0 K_LP_fault [.ref l0, .int l1] h (LP_fault Y l0 l1 h) (pI h) := by
  refine AM.of rfl (Nat.le_of_ble_eq_true rfl) ?_
  show AW Y 0 K_LP_fault 0 [(0, .ref l0), (1, .int l1)] [] h (LP_fault Y l0 l1 h) (pI h)
  unfold LP_fault
  refine aw_iload_n (pc := 0) d_LP_fault_0 rfl 1 rfl ?_
  refine aw_cases (fun c1 => ?_) (fun c1 => ?_)
  · refine aw_lks (pc := 1) (tgt := 28) (off := 27) d_LP_fault_1 (by decide) (by rw [c1]; rfl) (by decide) ?_
    refine aw_aload_n (pc := 28) d_LP_fault_28 rfl 0 rfl ?_
    refine gt_1115 (pc := 29) d_LP_fault_29 w3_15 t0 ?_
    exact aw_ireturn (pc := 32) d_LP_fault_32 rfl rfl
  refine aw_cases (fun c2 => ?_) (fun c2 => ?_)
  · refine aw_lks (pc := 1) (tgt := 33) (off := 32) d_LP_fault_1 (by decide) (by rw [c2]; rfl) (by decide) ?_
    refine aw_aload_n (pc := 33) d_LP_fault_33 rfl 0 rfl ?_
    refine gt_1116 (pc := 34) d_LP_fault_34 w3_16 t0 ?_
    exact aw_ireturn (pc := 37) d_LP_fault_37 rfl rfl
  refine aw_lksX (pc := 1) (tgt := 38) d_LP_fault_1 (by decide) (⟨fun q => c1 (toInt_inj_lit q (by decide)), ⟨fun q => c2 (toInt_inj_lit q (by decide)), trivial⟩⟩) (by decide) ?_
  refine aw_iconst (pc := 38) (x := (-1)) d_LP_fault_38 (by decide) ?_
  exact aw_ireturn (pc := 39) d_LP_fault_39 rfl rfl
/-! LastPages$Tokens.putFour(I)V -/
theorem d_To_putFour_0 : decode prog_9_method_2_code 0 = .ok (.bipush 24, 2) := by decide +kernel
theorem d_To_putFour_2 : decode prog_9_method_2_code 2 = .ok (.istore_n 2, 1) := by decide +kernel
theorem d_To_putFour_3 : decode prog_9_method_2_code 3 = .ok (.iload_n 2, 1) := by decide +kernel
theorem d_To_putFour_4 : decode prog_9_method_2_code 4 = .ok (.ifCond .lt 42, 3) := by decide +kernel
theorem d_To_putFour_7 : decode prog_9_method_2_code 7 = .ok (.aload_n 0, 1) := by decide +kernel
theorem d_To_putFour_8 : decode prog_9_method_2_code 8 = .ok (.getfield 19, 3) := by decide +kernel
theorem d_To_putFour_11 : decode prog_9_method_2_code 11 = .ok (.sipush 900, 3) := by decide +kernel
theorem d_To_putFour_14 : decode prog_9_method_2_code 14 = .ok (.if_icmp .ge 32, 3) := by decide +kernel
theorem d_To_putFour_17 : decode prog_9_method_2_code 17 = .ok (.aload_n 0, 1) := by decide +kernel
theorem d_To_putFour_18 : decode prog_9_method_2_code 18 = .ok (.getfield 9, 3) := by decide +kernel
theorem d_To_putFour_21 : decode prog_9_method_2_code 21 = .ok (.aload_n 0, 1) := by decide +kernel
theorem d_To_putFour_22 : decode prog_9_method_2_code 22 = .ok (.getfield 19, 3) := by decide +kernel
theorem d_To_putFour_25 : decode prog_9_method_2_code 25 = .ok (.iload_n 1, 1) := by decide +kernel
theorem d_To_putFour_26 : decode prog_9_method_2_code 26 = .ok (.iload_n 2, 1) := by decide +kernel
theorem d_To_putFour_27 : decode prog_9_method_2_code 27 = .ok (.ishr, 1) := by decide +kernel
theorem d_To_putFour_28 : decode prog_9_method_2_code 28 = .ok (.i2b, 1) := by decide +kernel
theorem d_To_putFour_29 : decode prog_9_method_2_code 29 = .ok (.bastore, 1) := by decide +kernel
theorem d_To_putFour_30 : decode prog_9_method_2_code 30 = .ok (.aload_n 0, 1) := by decide +kernel
theorem d_To_putFour_31 : decode prog_9_method_2_code 31 = .ok (.dup, 1) := by decide +kernel
theorem d_To_putFour_32 : decode prog_9_method_2_code 32 = .ok (.getfield 19, 3) := by decide +kernel
theorem d_To_putFour_35 : decode prog_9_method_2_code 35 = .ok (.iconst 1, 1) := by decide +kernel
theorem d_To_putFour_36 : decode prog_9_method_2_code 36 = .ok (.iadd, 1) := by decide +kernel
theorem d_To_putFour_37 : decode prog_9_method_2_code 37 = .ok (.putfield 19, 3) := by decide +kernel
theorem d_To_putFour_40 : decode prog_9_method_2_code 40 = .ok (.iinc 2 (-8), 3) := by decide +kernel
theorem d_To_putFour_43 : decode prog_9_method_2_code 43 = .ok (.goto (-40), 3) := by decide +kernel
theorem d_To_putFour_46 : decode prog_9_method_2_code 46 = .ok (.return_, 1) := by decide +kernel
def To_putFour_L3 (Y : Ly) (l0 : Nat) (l1 : Int32) : Nat → Int32 → Hp → Option Hp
  | 0, _, _ => none
  | F + 1, l2, h =>
    if l2 < 0 then
      some h
    else
      if 900 ≤ (hGi h 702 l0) then
        some h
      else
        if inB (hGi h 702 l0) (lnY Y (hGr h 700 l0)) = true then
          letH (hTi h (hGr h 700 l0) (Int32.toNatClampNeg (hGi h 702 l0)) (vp_nar .byte (Int8.toInt32 (Int32.toInt8 (l1 >>> (l2 &&& 31)))))) fun h5 =>
          letH (hSi h5 702 l0 ((hGi h5 702 l0) + 1)) fun h6 =>
          To_putFour_L3 Y l0 l1 F (l2 + (-8)) h6
        else none
theorem To_putFour_L3_ok (Y : Ly) (l0 : Nat) (l1 : Int32) (tl0 : isO Y 7 l0) : ∀ (F : Nat) (l2 : Int32) (h : Hp), AW Y 0 K_To_putFour 3 [(0, .ref l0), (1, .int l1), (2, .int l2)] [] h (To_putFour_L3 Y l0 l1 F l2 h) rV := by
  intro F
  induction F with
  | zero =>
    intro l2 h
    exact aw_none
  | succ F ih =>
    intro l2 h
    unfold To_putFour_L3
    refine aw_iload_n (pc := 3) d_To_putFour_3 rfl 2 rfl ?_
    refine aw_if_lt (pc := 4) (tgt := 46) d_To_putFour_4 (by decide) (fun c1 => ?_) (fun c1 => ?_)
    · exact aw_return (pc := 46) d_To_putFour_46 rfl rfl
    · refine aw_aload_n (pc := 7) d_To_putFour_7 rfl 0 rfl ?_
      refine gt_702 (pc := 8) d_To_putFour_8 w1_89 tl0 ?_
      refine aw_sipush (pc := 11) (x := 900) d_To_putFour_11 (by decide) ?_
      refine aw_icmp_ge (pc := 14) (tgt := 46) d_To_putFour_14 (by decide) (fun c2 => ?_) (fun c2 => ?_)
      · exact aw_return (pc := 46) d_To_putFour_46 rfl rfl
      · refine aw_aload_n (pc := 17) d_To_putFour_17 rfl 0 rfl ?_
        refine gt_700 (pc := 18) d_To_putFour_18 w1_87 tl0 (fun tt3 => ?_)
        refine aw_aload_n (pc := 21) d_To_putFour_21 rfl 0 rfl ?_
        refine gt_702 (pc := 22) d_To_putFour_22 w1_89 tl0 ?_
        refine aw_iload_n (pc := 25) d_To_putFour_25 rfl 1 rfl ?_
        refine aw_iload_n (pc := 26) d_To_putFour_26 rfl 2 rfl ?_
        refine aw_ishr (pc := 27) d_To_putFour_27 ?_
        refine aw_i2b (pc := 28) d_To_putFour_28 ?_
        refine aw_bastore (pc := 29) d_To_putFour_29 tt3 (fun c4 => ?_)
        refine aw_letH (fun h5 => ?_)
        refine aw_aload_n (pc := 30) d_To_putFour_30 rfl 0 rfl ?_
        refine aw_dup (pc := 31) d_To_putFour_31 rfl ?_
        refine gt_702 (pc := 32) d_To_putFour_32 w1_89 tl0 ?_
        refine aw_iconst (pc := 35) (x := 1) d_To_putFour_35 (by decide) ?_
        refine aw_iadd (pc := 36) d_To_putFour_36 ?_
        refine pt_702 (pc := 37) d_To_putFour_37 w1_89 tl0 ?_
        refine aw_letH (fun h6 => ?_)
        refine aw_iinc (pc := 40) (w := l2 + (-8)) (lv' := [(2, .int (l2 + (-8))), (0, .ref l0), (1, .int l1)]) d_To_putFour_40 2 rfl rfl (by decide) rfl ?_
        refine aw_goto (pc := 43) (tgt := 3) d_To_putFour_43 (by decide) ?_
        exact aw_lv [1, 2, 0] rfl (ih (l2 + (-8)) h6)
def To_putFour (Y : Ly) (l0 : Nat) (l1 : Int32) (h : Hp) : Option Hp :=
  To_putFour_L3 Y l0 l1 FU 24 h
theorem ok_To_putFour (Y : Ly) (l0 : Nat) (l1 : Int32) (h : Hp) (t0 : isO Y 7 l0) : AM Y 0 K_To_putFour [.ref l0, .int l1] h (To_putFour Y l0 l1 h) rV := by
  refine AM.of rfl (Nat.le_of_ble_eq_true rfl) ?_
  show AW Y 0 K_To_putFour 0 [(0, .ref l0), (1, .int l1)] [] h (To_putFour Y l0 l1 h) rV
  unfold To_putFour
  refine aw_bipush (pc := 0) (x := 24) d_To_putFour_0 (by decide) ?_
  refine aw_istore_n (pc := 2) (lv' := [(2, .int 24), (0, .ref l0), (1, .int l1)]) d_To_putFour_2 rfl (by decide) rfl ?_
  exact aw_lv [1, 2, 0] rfl (To_putFour_L3_ok Y l0 l1 t0 FU 24 h)
/-! LastPages.feed(IIIII)I -/
theorem d_LP_feed_0 : decode prog_1_method_9_code 0 = .ok (.aload_n 0, 1) := by decide +kernel
theorem d_LP_feed_1 : decode prog_1_method_9_code 1 = .ok (.getfield 18, 3) := by decide +kernel
theorem d_LP_feed_4 : decode prog_1_method_9_code 4 = .ok (.getfield 162, 3) := by decide +kernel
theorem d_LP_feed_7 : decode prog_1_method_9_code 7 = .ok (.bipush 20, 2) := by decide +kernel
theorem d_LP_feed_9 : decode prog_1_method_9_code 9 = .ok (.iadd, 1) := by decide +kernel
theorem d_LP_feed_10 : decode prog_1_method_9_code 10 = .ok (.sipush 900, 3) := by decide +kernel
theorem d_LP_feed_13 : decode prog_1_method_9_code 13 = .ok (.if_icmp .le 5, 3) := by decide +kernel
theorem d_LP_feed_16 : decode prog_1_method_9_code 16 = .ok (.iconst (-1), 1) := by decide +kernel
theorem d_LP_feed_17 : decode prog_1_method_9_code 17 = .ok (.ireturn, 1) := by decide +kernel
theorem d_LP_feed_18 : decode prog_1_method_9_code 18 = .ok (.aload_n 0, 1) := by decide +kernel
theorem d_LP_feed_19 : decode prog_1_method_9_code 19 = .ok (.getfield 18, 3) := by decide +kernel
theorem d_LP_feed_22 : decode prog_1_method_9_code 22 = .ok (.iload_n 1, 1) := by decide +kernel
theorem d_LP_feed_23 : decode prog_1_method_9_code 23 = .ok (.invokevirtual 165, 3) := by decide +kernel
theorem d_LP_feed_26 : decode prog_1_method_9_code 26 = .ok (.aload_n 0, 1) := by decide +kernel
theorem d_LP_feed_27 : decode prog_1_method_9_code 27 = .ok (.getfield 18, 3) := by decide +kernel
theorem d_LP_feed_30 : decode prog_1_method_9_code 30 = .ok (.iload_n 2, 1) := by decide +kernel
theorem d_LP_feed_31 : decode prog_1_method_9_code 31 = .ok (.invokevirtual 165, 3) := by decide +kernel
theorem d_LP_feed_34 : decode prog_1_method_9_code 34 = .ok (.aload_n 0, 1) := by decide +kernel
theorem d_LP_feed_35 : decode prog_1_method_9_code 35 = .ok (.getfield 18, 3) := by decide +kernel
theorem d_LP_feed_38 : decode prog_1_method_9_code 38 = .ok (.iload_n 3, 1) := by decide +kernel
theorem d_LP_feed_39 : decode prog_1_method_9_code 39 = .ok (.invokevirtual 165, 3) := by decide +kernel
theorem d_LP_feed_42 : decode prog_1_method_9_code 42 = .ok (.aload_n 0, 1) := by decide +kernel
theorem d_LP_feed_43 : decode prog_1_method_9_code 43 = .ok (.getfield 18, 3) := by decide +kernel
theorem d_LP_feed_46 : decode prog_1_method_9_code 46 = .ok (.iload 4, 2) := by decide +kernel
theorem d_LP_feed_48 : decode prog_1_method_9_code 48 = .ok (.invokevirtual 165, 3) := by decide +kernel
theorem d_LP_feed_51 : decode prog_1_method_9_code 51 = .ok (.aload_n 0, 1) := by decide +kernel
theorem d_LP_feed_52 : decode prog_1_method_9_code 52 = .ok (.getfield 18, 3) := by decide +kernel
theorem d_LP_feed_55 : decode prog_1_method_9_code 55 = .ok (.iload 5, 2) := by decide +kernel
theorem d_LP_feed_57 : decode prog_1_method_9_code 57 = .ok (.invokevirtual 165, 3) := by decide +kernel
theorem d_LP_feed_60 : decode prog_1_method_9_code 60 = .ok (.aload_n 0, 1) := by decide +kernel
theorem d_LP_feed_61 : decode prog_1_method_9_code 61 = .ok (.getfield 18, 3) := by decide +kernel
theorem d_LP_feed_64 : decode prog_1_method_9_code 64 = .ok (.getfield 162, 3) := by decide +kernel
theorem d_LP_feed_67 : decode prog_1_method_9_code 67 = .ok (.ireturn, 1) := by decide +kernel
def LP_feed (Y : Ly) (l0 : Nat) (l1 : Int32) (l2 : Int32) (l3 : Int32) (l4 : Int32) (l5 : Int32) (h : Hp) : Option (Int32 × Hp) :=
  if ((hGi h 702 (hGr h 1101 l0)) + 20) ≤ 900 then
    (To_putFour Y (hGr h 1101 l0) l1 h).bind fun q4 =>
    (To_putFour Y (hGr q4 1101 l0) l2 q4).bind fun q6 =>
    (To_putFour Y (hGr q6 1101 l0) l3 q6).bind fun q8 =>
    (To_putFour Y (hGr q8 1101 l0) l4 q8).bind fun q10 =>
    (To_putFour Y (hGr q10 1101 l0) l5 q10).bind fun q12 =>
    some (hGi q12 702 (hGr q12 1101 l0), q12)
  else
    some ((-1), h)
theorem ok_LP_feed (Y : Ly) (l0 : Nat) (l1 : Int32) (l2 : Int32) (l3 : Int32) (l4 : Int32) (l5 : Int32) (h : Hp) (t0 : isO Y 11 l0) : AM Y 1 K_LP_feed [.ref l0, .int l1, .int l2, .int l3, .int l4, .int l5] h (LP_feed Y l0 l1 l2 l3 l4 l5 h) rI := by
  refine AM.of rfl (Nat.le_of_ble_eq_true rfl) ?_
  show AW Y 1 K_LP_feed 0 [(0, .ref l0), (1, .int l1), (2, .int l2), (3, .int l3), (4, .int l4), (5, .int l5)] [] h (LP_feed Y l0 l1 l2 l3 l4 l5 h) rI
  unfold LP_feed
  refine aw_aload_n (pc := 0) d_LP_feed_0 rfl 0 rfl ?_
  refine gt_1101 (pc := 1) d_LP_feed_1 w3_1 t0 (fun tt1 => ?_)
  refine gt_702 (pc := 4) d_LP_feed_4 w1_90 tt1 ?_
  refine aw_bipush (pc := 7) (x := 20) d_LP_feed_7 (by decide) ?_
  refine aw_iadd (pc := 9) d_LP_feed_9 ?_
  refine aw_sipush (pc := 10) (x := 900) d_LP_feed_10 (by decide) ?_
  refine aw_icmp_le (pc := 13) (tgt := 18) d_LP_feed_13 (by decide) (fun c2 => ?_) (fun c2 => ?_)
  · refine aw_aload_n (pc := 18) d_LP_feed_18 rfl 0 rfl ?_
    refine gt_1101 (pc := 19) d_LP_feed_19 w3_1 t0 (fun tt3 => ?_)
    refine aw_iload_n (pc := 22) d_LP_feed_22 rfl 1 rfl ?_
    refine aw_cVrV (pc := 23) (ci := 7) (T := TX7) (N := 13) (As := [.int l1]) (st := []) (ok_To_putFour Y (hGr h 1101 l0) l1 h tt3) okV_To_putFour rfl (by decide) tt3 w3_134 d_LP_feed_23 rfl (Nat.le_of_ble_eq_true rfl) rfl (Nat.le_of_ble_eq_true rfl) (fun q4 hq4 hTq4 => ?_)
    refine aw_aload_n (pc := 26) d_LP_feed_26 rfl 0 rfl ?_
    refine gt_1101 (pc := 27) d_LP_feed_27 w3_1 t0 (fun tt5 => ?_)
    refine aw_iload_n (pc := 30) d_LP_feed_30 rfl 2 rfl ?_
    refine aw_cVrV (pc := 31) (ci := 7) (T := TX7) (N := 13) (As := [.int l2]) (st := []) (ok_To_putFour Y (hGr q4 1101 l0) l2 q4 tt5) okV_To_putFour rfl (by decide) tt5 w3_134 d_LP_feed_31 rfl (Nat.le_of_ble_eq_true rfl) rfl (Nat.le_of_ble_eq_true rfl) (fun q6 hq6 hTq6 => ?_)
    refine aw_aload_n (pc := 34) d_LP_feed_34 rfl 0 rfl ?_
    refine gt_1101 (pc := 35) d_LP_feed_35 w3_1 t0 (fun tt7 => ?_)
    refine aw_iload_n (pc := 38) d_LP_feed_38 rfl 3 rfl ?_
    refine aw_cVrV (pc := 39) (ci := 7) (T := TX7) (N := 13) (As := [.int l3]) (st := []) (ok_To_putFour Y (hGr q6 1101 l0) l3 q6 tt7) okV_To_putFour rfl (by decide) tt7 w3_134 d_LP_feed_39 rfl (Nat.le_of_ble_eq_true rfl) rfl (Nat.le_of_ble_eq_true rfl) (fun q8 hq8 hTq8 => ?_)
    refine aw_aload_n (pc := 42) d_LP_feed_42 rfl 0 rfl ?_
    refine gt_1101 (pc := 43) d_LP_feed_43 w3_1 t0 (fun tt9 => ?_)
    refine aw_iload (pc := 46) d_LP_feed_46 4 rfl ?_
    refine aw_cVrV (pc := 48) (ci := 7) (T := TX7) (N := 13) (As := [.int l4]) (st := []) (ok_To_putFour Y (hGr q8 1101 l0) l4 q8 tt9) okV_To_putFour rfl (by decide) tt9 w3_134 d_LP_feed_48 rfl (Nat.le_of_ble_eq_true rfl) rfl (Nat.le_of_ble_eq_true rfl) (fun q10 hq10 hTq10 => ?_)
    refine aw_aload_n (pc := 51) d_LP_feed_51 rfl 0 rfl ?_
    refine gt_1101 (pc := 52) d_LP_feed_52 w3_1 t0 (fun tt11 => ?_)
    refine aw_iload (pc := 55) d_LP_feed_55 5 rfl ?_
    refine aw_cVrV (pc := 57) (ci := 7) (T := TX7) (N := 13) (As := [.int l5]) (st := []) (ok_To_putFour Y (hGr q10 1101 l0) l5 q10 tt11) okV_To_putFour rfl (by decide) tt11 w3_134 d_LP_feed_57 rfl (Nat.le_of_ble_eq_true rfl) rfl (Nat.le_of_ble_eq_true rfl) (fun q12 hq12 hTq12 => ?_)
    refine aw_aload_n (pc := 60) d_LP_feed_60 rfl 0 rfl ?_
    refine gt_1101 (pc := 61) d_LP_feed_61 w3_1 t0 (fun tt13 => ?_)
    refine gt_702 (pc := 64) d_LP_feed_64 w1_90 tt13 ?_
    exact aw_ireturn (pc := 67) d_LP_feed_67 rfl rfl
  · refine aw_iconst (pc := 16) (x := (-1)) d_LP_feed_16 (by decide) ?_
    exact aw_ireturn (pc := 17) d_LP_feed_17 rfl rfl
/-! LastPages.finale(II)I -/
theorem d_LP_finale_0 : decode prog_1_method_18_code 0 = .ok (.aload_n 0, 1) := by decide +kernel
theorem d_LP_finale_1 : decode prog_1_method_18_code 1 = .ok (.getfield 68, 3) := by decide +kernel
theorem d_LP_finale_4 : decode prog_1_method_18_code 4 = .ok (.getfield 193, 3) := by decide +kernel
theorem d_LP_finale_7 : decode prog_1_method_18_code 7 = .ok (.iload_n 1, 1) := by decide +kernel
theorem d_LP_finale_8 : decode prog_1_method_18_code 8 = .ok (.invokevirtual 279, 3) := by decide +kernel
theorem d_LP_finale_11 : decode prog_1_method_18_code 11 = .ok (.ifCond .ne 9, 3) := by decide +kernel
theorem d_LP_finale_14 : decode prog_1_method_18_code 14 = .ok (.aload_n 0, 1) := by decide +kernel
theorem d_LP_finale_15 : decode prog_1_method_18_code 15 = .ok (.iconst 2, 1) := by decide +kernel
theorem d_LP_finale_16 : decode prog_1_method_18_code 16 = .ok (.invokevirtual 133, 3) := by decide +kernel
theorem d_LP_finale_19 : decode prog_1_method_18_code 19 = .ok (.ireturn, 1) := by decide +kernel
theorem d_LP_finale_20 : decode prog_1_method_18_code 20 = .ok (.aload_n 0, 1) := by decide +kernel
theorem d_LP_finale_21 : decode prog_1_method_18_code 21 = .ok (.aload_n 0, 1) := by decide +kernel
theorem d_LP_finale_22 : decode prog_1_method_18_code 22 = .ok (.getfield 68, 3) := by decide +kernel
theorem d_LP_finale_25 : decode prog_1_method_18_code 25 = .ok (.getfield 193, 3) := by decide +kernel
theorem d_LP_finale_28 : decode prog_1_method_18_code 28 = .ok (.iload_n 1, 1) := by decide +kernel
theorem d_LP_finale_29 : decode prog_1_method_18_code 29 = .ok (.iload_n 2, 1) := by decide +kernel
theorem d_LP_finale_30 : decode prog_1_method_18_code 30 = .ok (.iconst 1, 1) := by decide +kernel
theorem d_LP_finale_31 : decode prog_1_method_18_code 31 = .ok (.isub, 1) := by decide +kernel
theorem d_LP_finale_32 : decode prog_1_method_18_code 32 = .ok (.invokevirtual 282, 3) := by decide +kernel
theorem d_LP_finale_35 : decode prog_1_method_18_code 35 = .ok (.invokevirtual 249, 3) := by decide +kernel
theorem d_LP_finale_38 : decode prog_1_method_18_code 38 = .ok (.ireturn, 1) := by decide +kernel
def LP_finale (Y : Ly) (l0 : Nat) (l1 : Int32) (l2 : Int32) (h : Hp) : Option (Int32 × Hp) :=
  (St_hasFinale Y (hGr h 400 (hGr h 1109 l0)) l1 h).bind fun q3 =>
  if q3 = true then
    (St_turnInFinale Y (hGr h 400 (hGr h 1109 l0)) l1 (l2 - 1) h).bind fun q7 =>
    (LP_giveIfAny Y l0 q7 h).bind fun q8 =>
    some (q8.1, q8.2)
  else
    (LP_fail Y l0 2 h).bind fun q9 =>
    some (q9.1, q9.2)
theorem ok_LP_finale (Y : Ly) (l0 : Nat) (l1 : Int32) (l2 : Int32) (h : Hp) (t0 : isO Y 11 l0) : AM Y 2 K_LP_finale [.ref l0, .int l1, .int l2] h (LP_finale Y l0 l1 l2 h) rI := by
  refine AM.of rfl (Nat.le_of_ble_eq_true rfl) ?_
  show AW Y 2 K_LP_finale 0 [(0, .ref l0), (1, .int l1), (2, .int l2)] [] h (LP_finale Y l0 l1 l2 h) rI
  unfold LP_finale
  refine aw_aload_n (pc := 0) d_LP_finale_0 rfl 0 rfl ?_
  refine gt_1109 (pc := 1) d_LP_finale_1 w3_9 t0 (fun tt1 => ?_)
  refine gt_400 (pc := 4) d_LP_finale_4 w2_129 tt1 (fun tt2 => ?_)
  refine aw_iload_n (pc := 7) d_LP_finale_7 rfl 1 rfl ?_
  refine aw_cVpZ (pc := 8) (ci := 6) (T := TX6) (N := 8) (As := [.int l1]) (st := []) (ok_St_hasFinale Y (hGr h 400 (hGr h 1109 l0)) l1 h tt2) okV_St_hasFinale rfl (by decide) tt2 w4_222 d_LP_finale_8 rfl (Nat.le_of_ble_eq_true rfl) rfl (Nat.le_of_ble_eq_true rfl) (fun q3 hq3 hTq3 => ?_)
  refine aw_bne (pc := 11) (tgt := 20) d_LP_finale_11 (by decide) (fun c4 => ?_) (fun c4 => ?_)
  · refine aw_aload_n (pc := 20) d_LP_finale_20 rfl 0 rfl ?_
    refine aw_aload_n (pc := 21) d_LP_finale_21 rfl 0 rfl ?_
    refine gt_1109 (pc := 22) d_LP_finale_22 w3_9 t0 (fun tt5 => ?_)
    refine gt_400 (pc := 25) d_LP_finale_25 w2_129 tt5 (fun tt6 => ?_)
    refine aw_iload_n (pc := 28) d_LP_finale_28 rfl 1 rfl ?_
    refine aw_iload_n (pc := 29) d_LP_finale_29 rfl 2 rfl ?_
    refine aw_iconst (pc := 30) (x := 1) d_LP_finale_30 (by decide) ?_
    refine aw_isub (pc := 31) d_LP_finale_31 ?_
    refine aw_cVpI (pc := 32) (ci := 6) (T := TX6) (N := 8) (As := [.int l1, .int (l2 - 1)]) (st := [.ref l0]) (ok_St_turnInFinale Y (hGr h 400 (hGr h 1109 l0)) l1 (l2 - 1) h tt6) okV_St_turnInFinale rfl (by decide) tt6 w4_226 d_LP_finale_32 rfl (Nat.le_of_ble_eq_true rfl) rfl (Nat.le_of_ble_eq_true rfl) (fun q7 hq7 hTq7 => ?_)
    refine aw_cVrI (pc := 35) (ci := 11) (T := TX11) (N := 18) (As := [.int q7]) (st := []) (ok_LP_giveIfAny Y l0 q7 h t0) okV_LP_giveIfAny rfl (by decide) t0 w4_183 d_LP_finale_35 rfl (Nat.le_of_ble_eq_true rfl) rfl (Nat.le_of_ble_eq_true rfl) (fun q8 hq8 hTq8 => ?_)
    exact aw_ireturn (pc := 38) d_LP_finale_38 rfl rfl
  · refine aw_aload_n (pc := 14) d_LP_finale_14 rfl 0 rfl ?_
    refine aw_iconst (pc := 15) (x := 2) d_LP_finale_15 (by decide) ?_
    refine aw_cVrI (pc := 16) (ci := 11) (T := TX11) (N := 18) (As := [.int 2]) (st := []) (ok_LP_fail Y l0 2 h t0) okV_LP_fail rfl (by decide) t0 w3_114 d_LP_finale_16 rfl (Nat.le_of_ble_eq_true rfl) rfl (Nat.le_of_ble_eq_true rfl) (fun q9 hq9 hTq9 => ?_)
    exact aw_ireturn (pc := 19) d_LP_finale_19 rfl rfl
/-! LastPages.finalesOf(I)I -/
theorem d_LP_finalesOf_0 : decode prog_1_method_38_code 0 = .ok (.aload_n 0, 1) := by decide +kernel
theorem d_LP_finalesOf_1 : decode prog_1_method_38_code 1 = .ok (.getfield 68, 3) := by decide +kernel
theorem d_LP_finalesOf_4 : decode prog_1_method_38_code 4 = .ok (.iload_n 1, 1) := by decide +kernel
theorem d_LP_finalesOf_5 : decode prog_1_method_38_code 5 = .ok (.invokevirtual 255, 3) := by decide +kernel
theorem d_LP_finalesOf_8 : decode prog_1_method_38_code 8 = .ok (.ifCond .ne 9, 3) := by decide +kernel
theorem d_LP_finalesOf_11 : decode prog_1_method_38_code 11 = .ok (.aload_n 0, 1) := by decide +kernel
theorem d_LP_finalesOf_12 : decode prog_1_method_38_code 12 = .ok (.iconst 2, 1) := by decide +kernel
theorem d_LP_finalesOf_13 : decode prog_1_method_38_code 13 = .ok (.invokevirtual 133, 3) := by decide +kernel
theorem d_LP_finalesOf_16 : decode prog_1_method_38_code 16 = .ok (.ireturn, 1) := by decide +kernel
theorem d_LP_finalesOf_17 : decode prog_1_method_38_code 17 = .ok (.aload_n 0, 1) := by decide +kernel
theorem d_LP_finalesOf_18 : decode prog_1_method_38_code 18 = .ok (.aload_n 0, 1) := by decide +kernel
theorem d_LP_finalesOf_19 : decode prog_1_method_38_code 19 = .ok (.getfield 45, 3) := by decide +kernel
theorem d_LP_finalesOf_22 : decode prog_1_method_38_code 22 = .ok (.aload_n 0, 1) := by decide +kernel
theorem d_LP_finalesOf_23 : decode prog_1_method_38_code 23 = .ok (.getfield 68, 3) := by decide +kernel
theorem d_LP_finalesOf_26 : decode prog_1_method_38_code 26 = .ok (.iload_n 1, 1) := by decide +kernel
theorem d_LP_finalesOf_27 : decode prog_1_method_38_code 27 = .ok (.invokevirtual 298, 3) := by decide +kernel
theorem d_LP_finalesOf_30 : decode prog_1_method_38_code 30 = .ok (.invokevirtual 180, 3) := by decide +kernel
theorem d_LP_finalesOf_33 : decode prog_1_method_38_code 33 = .ok (.ireturn, 1) := by decide +kernel
def LP_finalesOf (Y : Ly) (l0 : Nat) (l1 : Int32) (h : Hp) : Option (Int32 × Hp) :=
  (Sh_hasBook Y (hGr h 1109 l0) l1 h).bind fun q2 =>
  if q2 = true then
    (En_fittingFinales Y (hGr h 1105 l0) (hGr h 1109 l0) l1 h).bind fun q6 =>
    (LP_give Y l0 q6.1 q6.2).bind fun q7 =>
    some (q7.1, q7.2)
  else
    (LP_fail Y l0 2 h).bind fun q8 =>
    some (q8.1, q8.2)
theorem ok_LP_finalesOf (Y : Ly) (l0 : Nat) (l1 : Int32) (h : Hp) (t0 : isO Y 11 l0) : AM Y 4 K_LP_finalesOf [.ref l0, .int l1] h (LP_finalesOf Y l0 l1 h) rI := by
  refine AM.of rfl (Nat.le_of_ble_eq_true rfl) ?_
  show AW Y 4 K_LP_finalesOf 0 [(0, .ref l0), (1, .int l1)] [] h (LP_finalesOf Y l0 l1 h) rI
  unfold LP_finalesOf
  refine aw_aload_n (pc := 0) d_LP_finalesOf_0 rfl 0 rfl ?_
  refine gt_1109 (pc := 1) d_LP_finalesOf_1 w3_9 t0 (fun tt1 => ?_)
  refine aw_iload_n (pc := 4) d_LP_finalesOf_4 rfl 1 rfl ?_
  refine aw_cVpZ (pc := 5) (ci := 4) (T := TX4) (N := 19) (As := [.int l1]) (st := []) (ok_Sh_hasBook Y (hGr h 1109 l0) l1 h tt1) okV_Sh_hasBook rfl (by decide) tt1 w4_199 d_LP_finalesOf_5 rfl (Nat.le_of_ble_eq_true rfl) rfl (Nat.le_of_ble_eq_true rfl) (fun q2 hq2 hTq2 => ?_)
  refine aw_bne (pc := 8) (tgt := 17) d_LP_finalesOf_8 (by decide) (fun c3 => ?_) (fun c3 => ?_)
  · refine aw_aload_n (pc := 17) d_LP_finalesOf_17 rfl 0 rfl ?_
    refine aw_aload_n (pc := 18) d_LP_finalesOf_18 rfl 0 rfl ?_
    refine gt_1105 (pc := 19) d_LP_finalesOf_19 w3_5 t0 (fun tt4 => ?_)
    refine aw_aload_n (pc := 22) d_LP_finalesOf_22 rfl 0 rfl ?_
    refine gt_1109 (pc := 23) d_LP_finalesOf_23 w3_9 t0 (fun tt5 => ?_)
    refine aw_iload_n (pc := 26) d_LP_finalesOf_26 rfl 1 rfl ?_
    refine aw_cVrI (pc := 27) (ci := 0) (T := TX0) (N := 8) (As := [.ref (hGr h 1109 l0), .int l1]) (st := [.ref l0]) (ok_En_fittingFinales Y (hGr h 1105 l0) (hGr h 1109 l0) l1 h tt4 tt5) okV_En_fittingFinales rfl (by decide) tt4 w5_23 d_LP_finalesOf_27 rfl (Nat.le_of_ble_eq_true rfl) rfl (Nat.le_of_ble_eq_true rfl) (fun q6 hq6 hTq6 => ?_)
    refine aw_cVrI (pc := 30) (ci := 11) (T := TX11) (N := 18) (As := [.int q6.1]) (st := []) (ok_LP_give Y l0 q6.1 q6.2 t0) okV_LP_give rfl (by decide) t0 w4_88 d_LP_finalesOf_30 rfl (Nat.le_of_ble_eq_true rfl) rfl (Nat.le_of_ble_eq_true rfl) (fun q7 hq7 hTq7 => ?_)
    exact aw_ireturn (pc := 33) d_LP_finalesOf_33 rfl rfl
  · refine aw_aload_n (pc := 11) d_LP_finalesOf_11 rfl 0 rfl ?_
    refine aw_iconst (pc := 12) (x := 2) d_LP_finalesOf_12 (by decide) ?_
    refine aw_cVrI (pc := 13) (ci := 11) (T := TX11) (N := 18) (As := [.int 2]) (st := []) (ok_LP_fail Y l0 2 h t0) okV_LP_fail rfl (by decide) t0 w3_114 d_LP_finalesOf_13 rfl (Nat.le_of_ble_eq_true rfl) rfl (Nat.le_of_ble_eq_true rfl) (fun q8 hq8 hTq8 => ?_)
    exact aw_ireturn (pc := 16) d_LP_finalesOf_16 rfl rfl
/-! LastPages.finish()I -/
theorem d_LP_finish_0 : decode prog_1_method_45_code 0 = .ok (.aload_n 0, 1) := by decide +kernel
theorem d_LP_finish_1 : decode prog_1_method_45_code 1 = .ok (.getfield 52, 3) := by decide +kernel
theorem d_LP_finish_4 : decode prog_1_method_45_code 4 = .ok (.aload_n 0, 1) := by decide +kernel
theorem d_LP_finish_5 : decode prog_1_method_45_code 5 = .ok (.getfield 68, 3) := by decide +kernel
theorem d_LP_finish_8 : decode prog_1_method_45_code 8 = .ok (.aload_n 0, 1) := by decide +kernel
theorem d_LP_finish_9 : decode prog_1_method_45_code 9 = .ok (.getfield 45, 3) := by decide +kernel
theorem d_LP_finish_12 : decode prog_1_method_45_code 12 = .ok (.invokevirtual 364, 3) := by decide +kernel
theorem d_LP_finish_15 : decode prog_1_method_45_code 15 = .ok (.aload_n 0, 1) := by decide +kernel
theorem d_LP_finish_16 : decode prog_1_method_45_code 16 = .ok (.aload_n 0, 1) := by decide +kernel
theorem d_LP_finish_17 : decode prog_1_method_45_code 17 = .ok (.getfield 52, 3) := by decide +kernel
theorem d_LP_finish_20 : decode prog_1_method_45_code 20 = .ok (.invokevirtual 386, 3) := by decide +kernel
theorem d_LP_finish_23 : decode prog_1_method_45_code 23 = .ok (.invokevirtual 383, 3) := by decide +kernel
theorem d_LP_finish_26 : decode prog_1_method_45_code 26 = .ok (.ireturn, 1) := by decide +kernel
def LP_finish (Y : Ly) (l0 : Nat) (h : Hp) : Option (Int32 × Hp) :=
  (Fi_lookAt Y (hGr h 1106 l0) (hGr h 1109 l0) (hGr h 1105 l0) h).bind fun q4 =>
  (Fi_fewestFinales Y (hGr q4 1106 l0) q4).bind fun q6 =>
  (LP_giveSize Y l0 q6 q4).bind fun q7 =>
  some (q7.1, q7.2)
theorem ok_LP_finish (Y : Ly) (l0 : Nat) (h : Hp) (t0 : isO Y 11 l0) : AM Y 5 K_LP_finish [.ref l0] h (LP_finish Y l0 h) rI := by
  refine AM.of rfl (Nat.le_of_ble_eq_true rfl) ?_
  show AW Y 5 K_LP_finish 0 [(0, .ref l0)] [] h (LP_finish Y l0 h) rI
  unfold LP_finish
  refine aw_aload_n (pc := 0) d_LP_finish_0 rfl 0 rfl ?_
  refine gt_1106 (pc := 1) d_LP_finish_1 w3_6 t0 (fun tt1 => ?_)
  refine aw_aload_n (pc := 4) d_LP_finish_4 rfl 0 rfl ?_
  refine gt_1109 (pc := 5) d_LP_finish_5 w3_9 t0 (fun tt2 => ?_)
  refine aw_aload_n (pc := 8) d_LP_finish_8 rfl 0 rfl ?_
  refine gt_1105 (pc := 9) d_LP_finish_9 w3_5 t0 (fun tt3 => ?_)
  refine aw_cVrV (pc := 12) (ci := 1) (T := TX1) (N := 4) (As := [.ref (hGr h 1109 l0), .ref (hGr h 1105 l0)]) (st := []) (ok_Fi_lookAt Y (hGr h 1106 l0) (hGr h 1109 l0) (hGr h 1105 l0) h tt1 tt2 tt3) okV_Fi_lookAt rfl (by decide) tt1 w5_202 d_LP_finish_12 rfl (Nat.le_of_ble_eq_true rfl) rfl (Nat.le_of_ble_eq_true rfl) (fun q4 hq4 hTq4 => ?_)
  refine aw_aload_n (pc := 15) d_LP_finish_15 rfl 0 rfl ?_
  refine aw_aload_n (pc := 16) d_LP_finish_16 rfl 0 rfl ?_
  refine gt_1106 (pc := 17) d_LP_finish_17 w3_6 t0 (fun tt5 => ?_)
  refine aw_cVpI (pc := 20) (ci := 1) (T := TX1) (N := 4) (As := []) (st := [.ref l0]) (ok_Fi_fewestFinales Y (hGr q4 1106 l0) q4 tt5) okV_Fi_fewestFinales rfl (by decide) tt5 w6_39 d_LP_finish_20 rfl (Nat.le_of_ble_eq_true rfl) rfl (Nat.le_of_ble_eq_true rfl) (fun q6 hq6 hTq6 => ?_)
  refine aw_cVrI (pc := 23) (ci := 11) (T := TX11) (N := 18) (As := [.int q6]) (st := []) (ok_LP_giveSize Y l0 q6 q4 t0) okV_LP_giveSize rfl (by decide) t0 w6_27 d_LP_finish_23 rfl (Nat.le_of_ble_eq_true rfl) rfl (Nat.le_of_ble_eq_true rfl) (fun q7 hq7 hTq7 => ?_)
  exact aw_ireturn (pc := 26) d_LP_finish_26 rfl rfl
/-! LastPages.finishSet()I -/
theorem d_LP_finishSet_0 : decode prog_1_method_46_code 0 = .ok (.aload_n 0, 1) := by decide +kernel
theorem d_LP_finishSet_1 : decode prog_1_method_46_code 1 = .ok (.getfield 52, 3) := by decide +kernel
theorem d_LP_finishSet_4 : decode prog_1_method_46_code 4 = .ok (.aload_n 0, 1) := by decide +kernel
theorem d_LP_finishSet_5 : decode prog_1_method_46_code 5 = .ok (.getfield 68, 3) := by decide +kernel
theorem d_LP_finishSet_8 : decode prog_1_method_46_code 8 = .ok (.aload_n 0, 1) := by decide +kernel
theorem d_LP_finishSet_9 : decode prog_1_method_46_code 9 = .ok (.getfield 45, 3) := by decide +kernel
theorem d_LP_finishSet_12 : decode prog_1_method_46_code 12 = .ok (.invokevirtual 364, 3) := by decide +kernel
theorem d_LP_finishSet_15 : decode prog_1_method_46_code 15 = .ok (.aload_n 0, 1) := by decide +kernel
theorem d_LP_finishSet_16 : decode prog_1_method_46_code 16 = .ok (.aload_n 0, 1) := by decide +kernel
theorem d_LP_finishSet_17 : decode prog_1_method_46_code 17 = .ok (.getfield 52, 3) := by decide +kernel
theorem d_LP_finishSet_20 : decode prog_1_method_46_code 20 = .ok (.invokevirtual 386, 3) := by decide +kernel
theorem d_LP_finishSet_23 : decode prog_1_method_46_code 23 = .ok (.invokevirtual 249, 3) := by decide +kernel
theorem d_LP_finishSet_26 : decode prog_1_method_46_code 26 = .ok (.ireturn, 1) := by decide +kernel
def LP_finishSet (Y : Ly) (l0 : Nat) (h : Hp) : Option (Int32 × Hp) :=
  (Fi_lookAt Y (hGr h 1106 l0) (hGr h 1109 l0) (hGr h 1105 l0) h).bind fun q4 =>
  (Fi_fewestFinales Y (hGr q4 1106 l0) q4).bind fun q6 =>
  (LP_giveIfAny Y l0 q6 q4).bind fun q7 =>
  some (q7.1, q7.2)
theorem ok_LP_finishSet (Y : Ly) (l0 : Nat) (h : Hp) (t0 : isO Y 11 l0) : AM Y 5 K_LP_finishSet [.ref l0] h (LP_finishSet Y l0 h) rI := by
  refine AM.of rfl (Nat.le_of_ble_eq_true rfl) ?_
  show AW Y 5 K_LP_finishSet 0 [(0, .ref l0)] [] h (LP_finishSet Y l0 h) rI
  unfold LP_finishSet
  refine aw_aload_n (pc := 0) d_LP_finishSet_0 rfl 0 rfl ?_
  refine gt_1106 (pc := 1) d_LP_finishSet_1 w3_6 t0 (fun tt1 => ?_)
  refine aw_aload_n (pc := 4) d_LP_finishSet_4 rfl 0 rfl ?_
  refine gt_1109 (pc := 5) d_LP_finishSet_5 w3_9 t0 (fun tt2 => ?_)
  refine aw_aload_n (pc := 8) d_LP_finishSet_8 rfl 0 rfl ?_
  refine gt_1105 (pc := 9) d_LP_finishSet_9 w3_5 t0 (fun tt3 => ?_)
  refine aw_cVrV (pc := 12) (ci := 1) (T := TX1) (N := 4) (As := [.ref (hGr h 1109 l0), .ref (hGr h 1105 l0)]) (st := []) (ok_Fi_lookAt Y (hGr h 1106 l0) (hGr h 1109 l0) (hGr h 1105 l0) h tt1 tt2 tt3) okV_Fi_lookAt rfl (by decide) tt1 w5_202 d_LP_finishSet_12 rfl (Nat.le_of_ble_eq_true rfl) rfl (Nat.le_of_ble_eq_true rfl) (fun q4 hq4 hTq4 => ?_)
  refine aw_aload_n (pc := 15) d_LP_finishSet_15 rfl 0 rfl ?_
  refine aw_aload_n (pc := 16) d_LP_finishSet_16 rfl 0 rfl ?_
  refine gt_1106 (pc := 17) d_LP_finishSet_17 w3_6 t0 (fun tt5 => ?_)
  refine aw_cVpI (pc := 20) (ci := 1) (T := TX1) (N := 4) (As := []) (st := [.ref l0]) (ok_Fi_fewestFinales Y (hGr q4 1106 l0) q4 tt5) okV_Fi_fewestFinales rfl (by decide) tt5 w6_39 d_LP_finishSet_20 rfl (Nat.le_of_ble_eq_true rfl) rfl (Nat.le_of_ble_eq_true rfl) (fun q6 hq6 hTq6 => ?_)
  refine aw_cVrI (pc := 23) (ci := 11) (T := TX11) (N := 18) (As := [.int q6]) (st := []) (ok_LP_giveIfAny Y l0 q6 q4 t0) okV_LP_giveIfAny rfl (by decide) t0 w4_183 d_LP_finishSet_23 rfl (Nat.le_of_ble_eq_true rfl) rfl (Nat.le_of_ble_eq_true rfl) (fun q7 hq7 hTq7 => ?_)
  exact aw_ireturn (pc := 26) d_LP_finishSet_26 rfl rfl
/-! LastPages.fits(II)I -/
theorem d_LP_fits_0 : decode prog_1_method_37_code 0 = .ok (.aload_n 0, 1) := by decide +kernel
theorem d_LP_fits_1 : decode prog_1_method_37_code 1 = .ok (.getfield 68, 3) := by decide +kernel
theorem d_LP_fits_4 : decode prog_1_method_37_code 4 = .ok (.iload_n 1, 1) := by decide +kernel
theorem d_LP_fits_5 : decode prog_1_method_37_code 5 = .ok (.invokevirtual 255, 3) := by decide +kernel
theorem d_LP_fits_8 : decode prog_1_method_37_code 8 = .ok (.ifCond .eq 17, 3) := by decide +kernel
theorem d_LP_fits_11 : decode prog_1_method_37_code 11 = .ok (.aload_n 0, 1) := by decide +kernel
theorem d_LP_fits_12 : decode prog_1_method_37_code 12 = .ok (.getfield 68, 3) := by decide +kernel
theorem d_LP_fits_15 : decode prog_1_method_37_code 15 = .ok (.getfield 193, 3) := by decide +kernel
theorem d_LP_fits_18 : decode prog_1_method_37_code 18 = .ok (.iload_n 2, 1) := by decide +kernel
theorem d_LP_fits_19 : decode prog_1_method_37_code 19 = .ok (.invokevirtual 279, 3) := by decide +kernel
theorem d_LP_fits_22 : decode prog_1_method_37_code 22 = .ok (.ifCond .ne 9, 3) := by decide +kernel
theorem d_LP_fits_25 : decode prog_1_method_37_code 25 = .ok (.aload_n 0, 1) := by decide +kernel
theorem d_LP_fits_26 : decode prog_1_method_37_code 26 = .ok (.iconst 2, 1) := by decide +kernel
theorem d_LP_fits_27 : decode prog_1_method_37_code 27 = .ok (.invokevirtual 133, 3) := by decide +kernel
theorem d_LP_fits_30 : decode prog_1_method_37_code 30 = .ok (.ireturn, 1) := by decide +kernel
theorem d_LP_fits_31 : decode prog_1_method_37_code 31 = .ok (.aload_n 0, 1) := by decide +kernel
theorem d_LP_fits_32 : decode prog_1_method_37_code 32 = .ok (.aload_n 0, 1) := by decide +kernel
theorem d_LP_fits_33 : decode prog_1_method_37_code 33 = .ok (.getfield 45, 3) := by decide +kernel
theorem d_LP_fits_36 : decode prog_1_method_37_code 36 = .ok (.aload_n 0, 1) := by decide +kernel
theorem d_LP_fits_37 : decode prog_1_method_37_code 37 = .ok (.getfield 68, 3) := by decide +kernel
theorem d_LP_fits_40 : decode prog_1_method_37_code 40 = .ok (.iload_n 1, 1) := by decide +kernel
theorem d_LP_fits_41 : decode prog_1_method_37_code 41 = .ok (.invokevirtual 298, 3) := by decide +kernel
theorem d_LP_fits_44 : decode prog_1_method_37_code 44 = .ok (.iload_n 2, 1) := by decide +kernel
theorem d_LP_fits_45 : decode prog_1_method_37_code 45 = .ok (.invokestatic 309, 3) := by decide +kernel
theorem d_LP_fits_48 : decode prog_1_method_37_code 48 = .ok (.ifCond .eq 7, 3) := by decide +kernel
theorem d_LP_fits_51 : decode prog_1_method_37_code 51 = .ok (.iconst 1, 1) := by decide +kernel
theorem d_LP_fits_52 : decode prog_1_method_37_code 52 = .ok (.goto 4, 3) := by decide +kernel
theorem d_LP_fits_55 : decode prog_1_method_37_code 55 = .ok (.iconst 0, 1) := by decide +kernel
theorem d_LP_fits_56 : decode prog_1_method_37_code 56 = .ok (.invokevirtual 180, 3) := by decide +kernel
theorem d_LP_fits_59 : decode prog_1_method_37_code 59 = .ok (.ireturn, 1) := by decide +kernel
def LP_fits (Y : Ly) (l0 : Nat) (l1 : Int32) (l2 : Int32) (h : Hp) : Option (Int32 × Hp) :=
  (Sh_hasBook Y (hGr h 1109 l0) l1 h).bind fun q2 =>
  if q2 = true then
    (St_hasFinale Y (hGr h 400 (hGr h 1109 l0)) l2 h).bind fun q6 =>
    if q6 = true then
      (En_fittingFinales Y (hGr h 1105 l0) (hGr h 1109 l0) l1 h).bind fun q10 =>
      (LP_has Y q10.1 l2 q10.2).bind fun q11 =>
      if q11 = true then
        (LP_give Y l0 1 q10.2).bind fun q13 =>
        some (q13.1, q13.2)
      else
        (LP_give Y l0 0 q10.2).bind fun q14 =>
        some (q14.1, q14.2)
    else
      (LP_fail Y l0 2 h).bind fun q15 =>
      some (q15.1, q15.2)
  else
    (LP_fail Y l0 2 h).bind fun q16 =>
    some (q16.1, q16.2)
theorem ok_LP_fits (Y : Ly) (l0 : Nat) (l1 : Int32) (l2 : Int32) (h : Hp) (t0 : isO Y 11 l0) : AM Y 4 K_LP_fits [.ref l0, .int l1, .int l2] h (LP_fits Y l0 l1 l2 h) rI := by
  refine AM.of rfl (Nat.le_of_ble_eq_true rfl) ?_
  show AW Y 4 K_LP_fits 0 [(0, .ref l0), (1, .int l1), (2, .int l2)] [] h (LP_fits Y l0 l1 l2 h) rI
  unfold LP_fits
  refine aw_aload_n (pc := 0) d_LP_fits_0 rfl 0 rfl ?_
  refine gt_1109 (pc := 1) d_LP_fits_1 w3_9 t0 (fun tt1 => ?_)
  refine aw_iload_n (pc := 4) d_LP_fits_4 rfl 1 rfl ?_
  refine aw_cVpZ (pc := 5) (ci := 4) (T := TX4) (N := 19) (As := [.int l1]) (st := []) (ok_Sh_hasBook Y (hGr h 1109 l0) l1 h tt1) okV_Sh_hasBook rfl (by decide) tt1 w4_199 d_LP_fits_5 rfl (Nat.le_of_ble_eq_true rfl) rfl (Nat.le_of_ble_eq_true rfl) (fun q2 hq2 hTq2 => ?_)
  refine aw_beq (pc := 8) (tgt := 25) d_LP_fits_8 (by decide) (fun c3 => ?_) (fun c3 => ?_)
  · refine aw_aload_n (pc := 11) d_LP_fits_11 rfl 0 rfl ?_
    refine gt_1109 (pc := 12) d_LP_fits_12 w3_9 t0 (fun tt4 => ?_)
    refine gt_400 (pc := 15) d_LP_fits_15 w2_129 tt4 (fun tt5 => ?_)
    refine aw_iload_n (pc := 18) d_LP_fits_18 rfl 2 rfl ?_
    refine aw_cVpZ (pc := 19) (ci := 6) (T := TX6) (N := 8) (As := [.int l2]) (st := []) (ok_St_hasFinale Y (hGr h 400 (hGr h 1109 l0)) l2 h tt5) okV_St_hasFinale rfl (by decide) tt5 w4_222 d_LP_fits_19 rfl (Nat.le_of_ble_eq_true rfl) rfl (Nat.le_of_ble_eq_true rfl) (fun q6 hq6 hTq6 => ?_)
    refine aw_bne (pc := 22) (tgt := 31) d_LP_fits_22 (by decide) (fun c7 => ?_) (fun c7 => ?_)
    · refine aw_aload_n (pc := 31) d_LP_fits_31 rfl 0 rfl ?_
      refine aw_aload_n (pc := 32) d_LP_fits_32 rfl 0 rfl ?_
      refine gt_1105 (pc := 33) d_LP_fits_33 w3_5 t0 (fun tt8 => ?_)
      refine aw_aload_n (pc := 36) d_LP_fits_36 rfl 0 rfl ?_
      refine gt_1109 (pc := 37) d_LP_fits_37 w3_9 t0 (fun tt9 => ?_)
      refine aw_iload_n (pc := 40) d_LP_fits_40 rfl 1 rfl ?_
      refine aw_cVrI (pc := 41) (ci := 0) (T := TX0) (N := 8) (As := [.ref (hGr h 1109 l0), .int l1]) (st := [.ref l0]) (ok_En_fittingFinales Y (hGr h 1105 l0) (hGr h 1109 l0) l1 h tt8 tt9) okV_En_fittingFinales rfl (by decide) tt8 w5_23 d_LP_fits_41 rfl (Nat.le_of_ble_eq_true rfl) rfl (Nat.le_of_ble_eq_true rfl) (fun q10 hq10 hTq10 => ?_)
      refine aw_iload_n (pc := 44) d_LP_fits_44 rfl 2 rfl ?_
      refine aw_cSpZ (pc := 45) (As := [.int q10.1, .int l2]) (st := [.ref l0]) (ok_LP_has Y q10.1 l2 q10.2) okS_LP_has w5_79 d_LP_fits_45 rfl (Nat.le_of_ble_eq_true rfl) rfl (Nat.le_of_ble_eq_true rfl) (fun q11 hq11 hTq11 => ?_)
      refine aw_beq (pc := 48) (tgt := 55) d_LP_fits_48 (by decide) (fun c12 => ?_) (fun c12 => ?_)
      · refine aw_iconst (pc := 51) (x := 1) d_LP_fits_51 (by decide) ?_
        refine aw_goto (pc := 52) (tgt := 56) d_LP_fits_52 (by decide) ?_
        refine aw_cVrI (pc := 56) (ci := 11) (T := TX11) (N := 18) (As := [.int 1]) (st := []) (ok_LP_give Y l0 1 q10.2 t0) okV_LP_give rfl (by decide) t0 w4_88 d_LP_fits_56 rfl (Nat.le_of_ble_eq_true rfl) rfl (Nat.le_of_ble_eq_true rfl) (fun q13 hq13 hTq13 => ?_)
        exact aw_ireturn (pc := 59) d_LP_fits_59 rfl rfl
      · refine aw_iconst (pc := 55) (x := 0) d_LP_fits_55 (by decide) ?_
        refine aw_cVrI (pc := 56) (ci := 11) (T := TX11) (N := 18) (As := [.int 0]) (st := []) (ok_LP_give Y l0 0 q10.2 t0) okV_LP_give rfl (by decide) t0 w4_88 d_LP_fits_56 rfl (Nat.le_of_ble_eq_true rfl) rfl (Nat.le_of_ble_eq_true rfl) (fun q14 hq14 hTq14 => ?_)
        exact aw_ireturn (pc := 59) d_LP_fits_59 rfl rfl
    · refine aw_aload_n (pc := 25) d_LP_fits_25 rfl 0 rfl ?_
      refine aw_iconst (pc := 26) (x := 2) d_LP_fits_26 (by decide) ?_
      refine aw_cVrI (pc := 27) (ci := 11) (T := TX11) (N := 18) (As := [.int 2]) (st := []) (ok_LP_fail Y l0 2 h t0) okV_LP_fail rfl (by decide) t0 w3_114 d_LP_fits_27 rfl (Nat.le_of_ble_eq_true rfl) rfl (Nat.le_of_ble_eq_true rfl) (fun q15 hq15 hTq15 => ?_)
      exact aw_ireturn (pc := 30) d_LP_fits_30 rfl rfl
  · refine aw_aload_n (pc := 25) d_LP_fits_25 rfl 0 rfl ?_
    refine aw_iconst (pc := 26) (x := 2) d_LP_fits_26 (by decide) ?_
    refine aw_cVrI (pc := 27) (ci := 11) (T := TX11) (N := 18) (As := [.int 2]) (st := []) (ok_LP_fail Y l0 2 h t0) okV_LP_fail rfl (by decide) t0 w3_114 d_LP_fits_27 rfl (Nat.le_of_ble_eq_true rfl) rfl (Nat.le_of_ble_eq_true rfl) (fun q16 hq16 hTq16 => ?_)
    exact aw_ireturn (pc := 30) d_LP_fits_30 rfl rfl
/-! LastPages$Shelf.guardsAll(II)Z -/
theorem d_Sh_guardsAll_0 : decode prog_6_method_25_code 0 = .ok (.iconst 0, 1) := by decide +kernel
theorem d_Sh_guardsAll_1 : decode prog_6_method_25_code 1 = .ok (.istore_n 3, 1) := by decide +kernel
theorem d_Sh_guardsAll_2 : decode prog_6_method_25_code 2 = .ok (.iload_n 3, 1) := by decide +kernel
theorem d_Sh_guardsAll_3 : decode prog_6_method_25_code 3 = .ok (.aload_n 0, 1) := by decide +kernel
theorem d_Sh_guardsAll_4 : decode prog_6_method_25_code 4 = .ok (.getfield 73, 3) := by decide +kernel
theorem d_Sh_guardsAll_7 : decode prog_6_method_25_code 7 = .ok (.if_icmp .ge 24, 3) := by decide +kernel
theorem d_Sh_guardsAll_10 : decode prog_6_method_25_code 10 = .ok (.aload_n 0, 1) := by decide +kernel
theorem d_Sh_guardsAll_11 : decode prog_6_method_25_code 11 = .ok (.getfield 27, 3) := by decide +kernel
theorem d_Sh_guardsAll_14 : decode prog_6_method_25_code 14 = .ok (.iload_n 1, 1) := by decide +kernel
theorem d_Sh_guardsAll_15 : decode prog_6_method_25_code 15 = .ok (.iload_n 3, 1) := by decide +kernel
theorem d_Sh_guardsAll_16 : decode prog_6_method_25_code 16 = .ok (.invokevirtual 154, 3) := by decide +kernel
theorem d_Sh_guardsAll_19 : decode prog_6_method_25_code 19 = .ok (.iload_n 2, 1) := by decide +kernel
theorem d_Sh_guardsAll_20 : decode prog_6_method_25_code 20 = .ok (.if_icmp .ge 5, 3) := by decide +kernel
theorem d_Sh_guardsAll_23 : decode prog_6_method_25_code 23 = .ok (.iconst 0, 1) := by decide +kernel
theorem d_Sh_guardsAll_24 : decode prog_6_method_25_code 24 = .ok (.ireturn, 1) := by decide +kernel
theorem d_Sh_guardsAll_25 : decode prog_6_method_25_code 25 = .ok (.iinc 3 1, 3) := by decide +kernel
theorem d_Sh_guardsAll_28 : decode prog_6_method_25_code 28 = .ok (.goto (-26), 3) := by decide +kernel
theorem d_Sh_guardsAll_31 : decode prog_6_method_25_code 31 = .ok (.iconst 1, 1) := by decide +kernel
theorem d_Sh_guardsAll_32 : decode prog_6_method_25_code 32 = .ok (.ireturn, 1) := by decide +kernel
def Sh_guardsAll_L2 (Y : Ly) (l0 : Nat) (l1 : Int32) (l2 : Int32) (h : Hp) : Nat → Int32 → Option Bool
  | 0, _ => none
  | F + 1, l3 =>
    if (hGi h 415 l0) ≤ l3 then
      some true
    else
      (Lo_howOftenIn Y (hGr h 402 l0) l1 l3 h).bind fun q3 =>
      if l2 ≤ q3 then
        Sh_guardsAll_L2 Y l0 l1 l2 h F (l3 + 1)
      else
        some false
theorem Sh_guardsAll_L2_ok (Y : Ly) (l0 : Nat) (l1 : Int32) (l2 : Int32) (h : Hp) (tl0 : isO Y 4 l0) : ∀ (F : Nat) (l3 : Int32), AW Y 2 K_Sh_guardsAll 2 [(0, .ref l0), (1, .int l1), (2, .int l2), (3, .int l3)] [] h (Sh_guardsAll_L2 Y l0 l1 l2 h F l3) (pZ h) := by
  intro F
  induction F with
  | zero =>
    intro l3
    exact aw_none
  | succ F ih =>
    intro l3
    unfold Sh_guardsAll_L2
    refine aw_iload_n (pc := 2) d_Sh_guardsAll_2 rfl 3 rfl ?_
    refine aw_aload_n (pc := 3) d_Sh_guardsAll_3 rfl 0 rfl ?_
    refine gt_415 (pc := 4) d_Sh_guardsAll_4 w2_158 tl0 ?_
    refine aw_icmp_ge (pc := 7) (tgt := 31) d_Sh_guardsAll_7 (by decide) (fun c1 => ?_) (fun c1 => ?_)
    · refine aw_iconst (pc := 31) (x := 1) d_Sh_guardsAll_31 (by decide) ?_
      exact aw_zreturn (pc := 32) (b := true) d_Sh_guardsAll_32 rfl rfl
    · refine aw_aload_n (pc := 10) d_Sh_guardsAll_10 rfl 0 rfl ?_
      refine gt_402 (pc := 11) d_Sh_guardsAll_11 w2_133 tl0 (fun tt2 => ?_)
      refine aw_iload_n (pc := 14) d_Sh_guardsAll_14 rfl 1 rfl ?_
      refine aw_iload_n (pc := 15) d_Sh_guardsAll_15 rfl 3 rfl ?_
      refine aw_cVpI (pc := 16) (ci := 3) (T := TX3) (N := 3) (As := [.int l1, .int l3]) (st := []) (ok_Lo_howOftenIn Y (hGr h 402 l0) l1 l3 h tt2) okV_Lo_howOftenIn rfl (by decide) tt2 w6_135 d_Sh_guardsAll_16 rfl (Nat.le_of_ble_eq_true rfl) rfl (Nat.le_of_ble_eq_true rfl) (fun q3 hq3 hTq3 => ?_)
      refine aw_iload_n (pc := 19) d_Sh_guardsAll_19 rfl 2 rfl ?_
      refine aw_icmp_ge (pc := 20) (tgt := 25) d_Sh_guardsAll_20 (by decide) (fun c4 => ?_) (fun c4 => ?_)
      · refine aw_iinc (pc := 25) (w := l3 + 1) (lv' := [(3, .int (l3 + 1)), (0, .ref l0), (1, .int l1), (2, .int l2)]) d_Sh_guardsAll_25 3 rfl rfl (by decide) rfl ?_
        refine aw_goto (pc := 28) (tgt := 2) d_Sh_guardsAll_28 (by decide) ?_
        exact aw_lv [1, 2, 3, 0] rfl (ih (l3 + 1))
      · refine aw_iconst (pc := 23) (x := 0) d_Sh_guardsAll_23 (by decide) ?_
        exact aw_zreturn (pc := 24) (b := false) d_Sh_guardsAll_24 rfl rfl
def Sh_guardsAll (Y : Ly) (l0 : Nat) (l1 : Int32) (l2 : Int32) (h : Hp) : Option Bool :=
  Sh_guardsAll_L2 Y l0 l1 l2 h FU 0
theorem ok_Sh_guardsAll (Y : Ly) (l0 : Nat) (l1 : Int32) (l2 : Int32) (h : Hp) (t0 : isO Y 4 l0) : AM Y 2 K_Sh_guardsAll [.ref l0, .int l1, .int l2] h (Sh_guardsAll Y l0 l1 l2 h) (pZ h) := by
  refine AM.of rfl (Nat.le_of_ble_eq_true rfl) ?_
  show AW Y 2 K_Sh_guardsAll 0 [(0, .ref l0), (1, .int l1), (2, .int l2)] [] h (Sh_guardsAll Y l0 l1 l2 h) (pZ h)
  unfold Sh_guardsAll
  refine aw_iconst (pc := 0) (x := 0) d_Sh_guardsAll_0 (by decide) ?_
  refine aw_istore_n (pc := 1) (lv' := [(3, .int 0), (0, .ref l0), (1, .int l1), (2, .int l2)]) d_Sh_guardsAll_1 rfl (by decide) rfl ?_
  exact aw_lv [1, 2, 3, 0] rfl (Sh_guardsAll_L2_ok Y l0 l1 l2 h t0 FU 0)
/-! LastPages$Shelf.bestWatches(I)I -/
theorem d_Sh_bestWatches_0 : decode prog_6_method_24_code 0 = .ok (.iconst (-1), 1) := by decide +kernel
theorem d_Sh_bestWatches_1 : decode prog_6_method_24_code 1 = .ok (.istore_n 2, 1) := by decide +kernel
theorem d_Sh_bestWatches_2 : decode prog_6_method_24_code 2 = .ok (.iconst 0, 1) := by decide +kernel
theorem d_Sh_bestWatches_3 : decode prog_6_method_24_code 3 = .ok (.istore_n 3, 1) := by decide +kernel
theorem d_Sh_bestWatches_4 : decode prog_6_method_24_code 4 = .ok (.iload_n 3, 1) := by decide +kernel
theorem d_Sh_bestWatches_5 : decode prog_6_method_24_code 5 = .ok (.iconst 1, 1) := by decide +kernel
theorem d_Sh_bestWatches_6 : decode prog_6_method_24_code 6 = .ok (.aload_n 0, 1) := by decide +kernel
theorem d_Sh_bestWatches_7 : decode prog_6_method_24_code 7 = .ok (.getfield 27, 3) := by decide +kernel
theorem d_Sh_bestWatches_10 : decode prog_6_method_24_code 10 = .ok (.getfield 88, 3) := by decide +kernel
theorem d_Sh_bestWatches_13 : decode prog_6_method_24_code 13 = .ok (.ishl, 1) := by decide +kernel
theorem d_Sh_bestWatches_14 : decode prog_6_method_24_code 14 = .ok (.if_icmp .ge 37, 3) := by decide +kernel
theorem d_Sh_bestWatches_17 : decode prog_6_method_24_code 17 = .ok (.iload_n 2, 1) := by decide +kernel
theorem d_Sh_bestWatches_18 : decode prog_6_method_24_code 18 = .ok (.iconst (-1), 1) := by decide +kernel
theorem d_Sh_bestWatches_19 : decode prog_6_method_24_code 19 = .ok (.if_icmp .eq 15, 3) := by decide +kernel
theorem d_Sh_bestWatches_22 : decode prog_6_method_24_code 22 = .ok (.aload_n 0, 1) := by decide +kernel
theorem d_Sh_bestWatches_23 : decode prog_6_method_24_code 23 = .ok (.getfield 27, 3) := by decide +kernel
theorem d_Sh_bestWatches_26 : decode prog_6_method_24_code 26 = .ok (.iload_n 3, 1) := by decide +kernel
theorem d_Sh_bestWatches_27 : decode prog_6_method_24_code 27 = .ok (.iload_n 2, 1) := by decide +kernel
theorem d_Sh_bestWatches_28 : decode prog_6_method_24_code 28 = .ok (.invokevirtual 145, 3) := by decide +kernel
theorem d_Sh_bestWatches_31 : decode prog_6_method_24_code 31 = .ok (.ifCond .eq 14, 3) := by decide +kernel
theorem d_Sh_bestWatches_34 : decode prog_6_method_24_code 34 = .ok (.aload_n 0, 1) := by decide +kernel
theorem d_Sh_bestWatches_35 : decode prog_6_method_24_code 35 = .ok (.iload_n 3, 1) := by decide +kernel
theorem d_Sh_bestWatches_36 : decode prog_6_method_24_code 36 = .ok (.iload_n 1, 1) := by decide +kernel
theorem d_Sh_bestWatches_37 : decode prog_6_method_24_code 37 = .ok (.invokevirtual 151, 3) := by decide +kernel
theorem d_Sh_bestWatches_40 : decode prog_6_method_24_code 40 = .ok (.ifCond .eq 5, 3) := by decide +kernel
theorem d_Sh_bestWatches_43 : decode prog_6_method_24_code 43 = .ok (.iload_n 3, 1) := by decide +kernel
theorem d_Sh_bestWatches_44 : decode prog_6_method_24_code 44 = .ok (.istore_n 2, 1) := by decide +kernel
theorem d_Sh_bestWatches_45 : decode prog_6_method_24_code 45 = .ok (.iinc 3 1, 3) := by decide +kernel
theorem d_Sh_bestWatches_48 : decode prog_6_method_24_code 48 = .ok (.goto (-44), 3) := by decide +kernel
theorem d_Sh_bestWatches_51 : decode prog_6_method_24_code 51 = .ok (.iload_n 2, 1) := by decide +kernel
theorem d_Sh_bestWatches_52 : decode prog_6_method_24_code 52 = .ok (.ireturn, 1) := by decide +kernel
def Sh_bestWatches_L4 (Y : Ly) (l0 : Nat) (l1 : Int32) (h : Hp) : Nat → Int32 → Int32 → Option Int32
  | 0, _, _ => none
  | F + 1, l2, l3 =>
    if ((1 : Int32) <<< ((hGi h 302 (hGr h 402 l0)) &&& 31)) ≤ l3 then
      some l2
    else
      if l2 = (-1) then
        (Sh_guardsAll Y l0 l3 l1 h).bind fun q4 =>
        if q4 = true then
          Sh_bestWatches_L4 Y l0 l1 h F l3 (l3 + 1)
        else
          Sh_bestWatches_L4 Y l0 l1 h F l2 (l3 + 1)
      else
        (Lo_isCheaper Y (hGr h 402 l0) l3 l2 h).bind fun q7 =>
        if q7 = true then
          (Sh_guardsAll Y l0 l3 l1 h).bind fun q9 =>
          if q9 = true then
            Sh_bestWatches_L4 Y l0 l1 h F l3 (l3 + 1)
          else
            Sh_bestWatches_L4 Y l0 l1 h F l2 (l3 + 1)
        else
          Sh_bestWatches_L4 Y l0 l1 h F l2 (l3 + 1)
theorem Sh_bestWatches_L4_ok (Y : Ly) (l0 : Nat) (l1 : Int32) (h : Hp) (tl0 : isO Y 4 l0) : ∀ (F : Nat) (l2 : Int32) (l3 : Int32), AW Y 3 K_Sh_bestWatches 4 [(0, .ref l0), (1, .int l1), (2, .int l2), (3, .int l3)] [] h (Sh_bestWatches_L4 Y l0 l1 h F l2 l3) (pI h) := by
  intro F
  induction F with
  | zero =>
    intro l2 l3
    exact aw_none
  | succ F ih =>
    intro l2 l3
    unfold Sh_bestWatches_L4
    refine aw_iload_n (pc := 4) d_Sh_bestWatches_4 rfl 3 rfl ?_
    refine aw_iconst (pc := 5) (x := 1) d_Sh_bestWatches_5 (by decide) ?_
    refine aw_aload_n (pc := 6) d_Sh_bestWatches_6 rfl 0 rfl ?_
    refine gt_402 (pc := 7) d_Sh_bestWatches_7 w2_133 tl0 (fun tt1 => ?_)
    refine gt_302 (pc := 10) d_Sh_bestWatches_10 w2_73 tt1 ?_
    refine aw_ishl (pc := 13) d_Sh_bestWatches_13 ?_
    refine aw_icmp_ge (pc := 14) (tgt := 51) d_Sh_bestWatches_14 (by decide) (fun c2 => ?_) (fun c2 => ?_)
    · refine aw_iload_n (pc := 51) d_Sh_bestWatches_51 rfl 2 rfl ?_
      exact aw_ireturn (pc := 52) d_Sh_bestWatches_52 rfl rfl
    · refine aw_iload_n (pc := 17) d_Sh_bestWatches_17 rfl 2 rfl ?_
      refine aw_iconst (pc := 18) (x := (-1)) d_Sh_bestWatches_18 (by decide) ?_
      refine aw_icmp_eq (pc := 19) (tgt := 34) d_Sh_bestWatches_19 (by decide) (fun c3 => ?_) (fun c3 => ?_)
      · refine aw_aload_n (pc := 34) d_Sh_bestWatches_34 rfl 0 rfl ?_
        refine aw_iload_n (pc := 35) d_Sh_bestWatches_35 rfl 3 rfl ?_
        refine aw_iload_n (pc := 36) d_Sh_bestWatches_36 rfl 1 rfl ?_
        refine aw_cVpZ (pc := 37) (ci := 4) (T := TX4) (N := 19) (As := [.int l3, .int l1]) (st := []) (ok_Sh_guardsAll Y l0 l3 l1 h tl0) okV_Sh_guardsAll rfl (by decide) tl0 w6_131 d_Sh_bestWatches_37 rfl (Nat.le_of_ble_eq_true rfl) rfl (Nat.le_of_ble_eq_true rfl) (fun q4 hq4 hTq4 => ?_)
        refine aw_beq (pc := 40) (tgt := 45) d_Sh_bestWatches_40 (by decide) (fun c5 => ?_) (fun c5 => ?_)
        · refine aw_iload_n (pc := 43) d_Sh_bestWatches_43 rfl 3 rfl ?_
          refine aw_istore_n (pc := 44) (lv' := [(2, .int l3), (0, .ref l0), (1, .int l1), (3, .int l3)]) d_Sh_bestWatches_44 rfl (by decide) rfl ?_
          refine aw_iinc (pc := 45) (w := l3 + 1) (lv' := [(3, .int (l3 + 1)), (2, .int l3), (0, .ref l0), (1, .int l1)]) d_Sh_bestWatches_45 3 rfl rfl (by decide) rfl ?_
          refine aw_goto (pc := 48) (tgt := 4) d_Sh_bestWatches_48 (by decide) ?_
          exact aw_lv [2, 3, 1, 0] rfl (ih l3 (l3 + 1))
        · refine aw_iinc (pc := 45) (w := l3 + 1) (lv' := [(3, .int (l3 + 1)), (0, .ref l0), (1, .int l1), (2, .int l2)]) d_Sh_bestWatches_45 3 rfl rfl (by decide) rfl ?_
          refine aw_goto (pc := 48) (tgt := 4) d_Sh_bestWatches_48 (by decide) ?_
          exact aw_lv [1, 2, 3, 0] rfl (ih l2 (l3 + 1))
      · refine aw_aload_n (pc := 22) d_Sh_bestWatches_22 rfl 0 rfl ?_
        refine gt_402 (pc := 23) d_Sh_bestWatches_23 w2_133 tl0 (fun tt6 => ?_)
        refine aw_iload_n (pc := 26) d_Sh_bestWatches_26 rfl 3 rfl ?_
        refine aw_iload_n (pc := 27) d_Sh_bestWatches_27 rfl 2 rfl ?_
        refine aw_cVpZ (pc := 28) (ci := 3) (T := TX3) (N := 3) (As := [.int l3, .int l2]) (st := []) (ok_Lo_isCheaper Y (hGr h 402 l0) l3 l2 h tt6) okV_Lo_isCheaper rfl (by decide) tt6 w6_101 d_Sh_bestWatches_28 rfl (Nat.le_of_ble_eq_true rfl) rfl (Nat.le_of_ble_eq_true rfl) (fun q7 hq7 hTq7 => ?_)
        refine aw_beq (pc := 31) (tgt := 45) d_Sh_bestWatches_31 (by decide) (fun c8 => ?_) (fun c8 => ?_)
        · refine aw_aload_n (pc := 34) d_Sh_bestWatches_34 rfl 0 rfl ?_
          refine aw_iload_n (pc := 35) d_Sh_bestWatches_35 rfl 3 rfl ?_
          refine aw_iload_n (pc := 36) d_Sh_bestWatches_36 rfl 1 rfl ?_
          refine aw_cVpZ (pc := 37) (ci := 4) (T := TX4) (N := 19) (As := [.int l3, .int l1]) (st := []) (ok_Sh_guardsAll Y l0 l3 l1 h tl0) okV_Sh_guardsAll rfl (by decide) tl0 w6_131 d_Sh_bestWatches_37 rfl (Nat.le_of_ble_eq_true rfl) rfl (Nat.le_of_ble_eq_true rfl) (fun q9 hq9 hTq9 => ?_)
          refine aw_beq (pc := 40) (tgt := 45) d_Sh_bestWatches_40 (by decide) (fun c10 => ?_) (fun c10 => ?_)
          · refine aw_iload_n (pc := 43) d_Sh_bestWatches_43 rfl 3 rfl ?_
            refine aw_istore_n (pc := 44) (lv' := [(2, .int l3), (0, .ref l0), (1, .int l1), (3, .int l3)]) d_Sh_bestWatches_44 rfl (by decide) rfl ?_
            refine aw_iinc (pc := 45) (w := l3 + 1) (lv' := [(3, .int (l3 + 1)), (2, .int l3), (0, .ref l0), (1, .int l1)]) d_Sh_bestWatches_45 3 rfl rfl (by decide) rfl ?_
            refine aw_goto (pc := 48) (tgt := 4) d_Sh_bestWatches_48 (by decide) ?_
            exact aw_lv [2, 3, 1, 0] rfl (ih l3 (l3 + 1))
          · refine aw_iinc (pc := 45) (w := l3 + 1) (lv' := [(3, .int (l3 + 1)), (0, .ref l0), (1, .int l1), (2, .int l2)]) d_Sh_bestWatches_45 3 rfl rfl (by decide) rfl ?_
            refine aw_goto (pc := 48) (tgt := 4) d_Sh_bestWatches_48 (by decide) ?_
            exact aw_lv [1, 2, 3, 0] rfl (ih l2 (l3 + 1))
        · refine aw_iinc (pc := 45) (w := l3 + 1) (lv' := [(3, .int (l3 + 1)), (0, .ref l0), (1, .int l1), (2, .int l2)]) d_Sh_bestWatches_45 3 rfl rfl (by decide) rfl ?_
          refine aw_goto (pc := 48) (tgt := 4) d_Sh_bestWatches_48 (by decide) ?_
          exact aw_lv [1, 2, 3, 0] rfl (ih l2 (l3 + 1))
def Sh_bestWatches (Y : Ly) (l0 : Nat) (l1 : Int32) (h : Hp) : Option Int32 :=
  Sh_bestWatches_L4 Y l0 l1 h FU (-1) 0
theorem ok_Sh_bestWatches (Y : Ly) (l0 : Nat) (l1 : Int32) (h : Hp) (t0 : isO Y 4 l0) : AM Y 3 K_Sh_bestWatches [.ref l0, .int l1] h (Sh_bestWatches Y l0 l1 h) (pI h) := by
  refine AM.of rfl (Nat.le_of_ble_eq_true rfl) ?_
  show AW Y 3 K_Sh_bestWatches 0 [(0, .ref l0), (1, .int l1)] [] h (Sh_bestWatches Y l0 l1 h) (pI h)
  unfold Sh_bestWatches
  refine aw_iconst (pc := 0) (x := (-1)) d_Sh_bestWatches_0 (by decide) ?_
  refine aw_istore_n (pc := 1) (lv' := [(2, .int (-1)), (0, .ref l0), (1, .int l1)]) d_Sh_bestWatches_1 rfl (by decide) rfl ?_
  refine aw_iconst (pc := 2) (x := 0) d_Sh_bestWatches_2 (by decide) ?_
  refine aw_istore_n (pc := 3) (lv' := [(3, .int 0), (2, .int (-1)), (0, .ref l0), (1, .int l1)]) d_Sh_bestWatches_3 rfl (by decide) rfl ?_
  exact aw_lv [2, 3, 1, 0] rfl (Sh_bestWatches_L4_ok Y l0 l1 h t0 FU (-1) 0)
/-! LastPages.guard(I)I -/
theorem d_LP_guard_0 : decode prog_1_method_53_code 0 = .ok (.iload_n 1, 1) := by decide +kernel
theorem d_LP_guard_1 : decode prog_1_method_53_code 1 = .ok (.iconst 1, 1) := by decide +kernel
theorem d_LP_guard_2 : decode prog_1_method_53_code 2 = .ok (.if_icmp .lt 8, 3) := by decide +kernel
theorem d_LP_guard_5 : decode prog_1_method_53_code 5 = .ok (.iload_n 1, 1) := by decide +kernel
theorem d_LP_guard_6 : decode prog_1_method_53_code 6 = .ok (.iconst 3, 1) := by decide +kernel
theorem d_LP_guard_7 : decode prog_1_method_53_code 7 = .ok (.if_icmp .le 9, 3) := by decide +kernel
theorem d_LP_guard_10 : decode prog_1_method_53_code 10 = .ok (.aload_n 0, 1) := by decide +kernel
theorem d_LP_guard_11 : decode prog_1_method_53_code 11 = .ok (.iconst 5, 1) := by decide +kernel
theorem d_LP_guard_12 : decode prog_1_method_53_code 12 = .ok (.invokevirtual 133, 3) := by decide +kernel
theorem d_LP_guard_15 : decode prog_1_method_53_code 15 = .ok (.ireturn, 1) := by decide +kernel
theorem d_LP_guard_16 : decode prog_1_method_53_code 16 = .ok (.aload_n 0, 1) := by decide +kernel
theorem d_LP_guard_17 : decode prog_1_method_53_code 17 = .ok (.getfield 68, 3) := by decide +kernel
theorem d_LP_guard_20 : decode prog_1_method_53_code 20 = .ok (.iload_n 1, 1) := by decide +kernel
theorem d_LP_guard_21 : decode prog_1_method_53_code 21 = .ok (.invokevirtual 406, 3) := by decide +kernel
theorem d_LP_guard_24 : decode prog_1_method_53_code 24 = .ok (.istore_n 2, 1) := by decide +kernel
theorem d_LP_guard_25 : decode prog_1_method_53_code 25 = .ok (.aload_n 0, 1) := by decide +kernel
theorem d_LP_guard_26 : decode prog_1_method_53_code 26 = .ok (.iload_n 2, 1) := by decide +kernel
theorem d_LP_guard_27 : decode prog_1_method_53_code 27 = .ok (.iconst (-1), 1) := by decide +kernel
theorem d_LP_guard_28 : decode prog_1_method_53_code 28 = .ok (.if_icmp .ne 7, 3) := by decide +kernel
theorem d_LP_guard_31 : decode prog_1_method_53_code 31 = .ok (.iconst (-1), 1) := by decide +kernel
theorem d_LP_guard_32 : decode prog_1_method_53_code 32 = .ok (.goto 14, 3) := by decide +kernel
theorem d_LP_guard_35 : decode prog_1_method_53_code 35 = .ok (.aload_n 0, 1) := by decide +kernel
theorem d_LP_guard_36 : decode prog_1_method_53_code 36 = .ok (.getfield 68, 3) := by decide +kernel
theorem d_LP_guard_39 : decode prog_1_method_53_code 39 = .ok (.getfield 223, 3) := by decide +kernel
theorem d_LP_guard_42 : decode prog_1_method_53_code 42 = .ok (.iload_n 2, 1) := by decide +kernel
theorem d_LP_guard_43 : decode prog_1_method_53_code 43 = .ok (.invokevirtual 409, 3) := by decide +kernel
theorem d_LP_guard_46 : decode prog_1_method_53_code 46 = .ok (.invokevirtual 249, 3) := by decide +kernel
theorem d_LP_guard_49 : decode prog_1_method_53_code 49 = .ok (.ireturn, 1) := by decide +kernel
def LP_guard (Y : Ly) (l0 : Nat) (l1 : Int32) (h : Hp) : Option (Int32 × Hp) :=
  if l1 < 1 then
    (LP_fail Y l0 5 h).bind fun q2 =>
    some (q2.1, q2.2)
  else
    if l1 ≤ 3 then
      (Sh_bestWatches Y (hGr h 1109 l0) l1 h).bind fun q5 =>
      if q5 = (-1) then
        (LP_giveIfAny Y l0 (-1) h).bind fun q7 =>
        some (q7.1, q7.2)
      else
        (Lo_costOfSet Y (hGr h 402 (hGr h 1109 l0)) q5 h).bind fun q10 =>
        (LP_giveIfAny Y l0 q10 h).bind fun q11 =>
        some (q11.1, q11.2)
    else
      (LP_fail Y l0 5 h).bind fun q12 =>
      some (q12.1, q12.2)
theorem ok_LP_guard (Y : Ly) (l0 : Nat) (l1 : Int32) (h : Hp) (t0 : isO Y 11 l0) : AM Y 4 K_LP_guard [.ref l0, .int l1] h (LP_guard Y l0 l1 h) rI := by
  refine AM.of rfl (Nat.le_of_ble_eq_true rfl) ?_
  show AW Y 4 K_LP_guard 0 [(0, .ref l0), (1, .int l1)] [] h (LP_guard Y l0 l1 h) rI
  unfold LP_guard
  refine aw_iload_n (pc := 0) d_LP_guard_0 rfl 1 rfl ?_
  refine aw_iconst (pc := 1) (x := 1) d_LP_guard_1 (by decide) ?_
  refine aw_icmp_lt (pc := 2) (tgt := 10) d_LP_guard_2 (by decide) (fun c1 => ?_) (fun c1 => ?_)
  · refine aw_aload_n (pc := 10) d_LP_guard_10 rfl 0 rfl ?_
    refine aw_iconst (pc := 11) (x := 5) d_LP_guard_11 (by decide) ?_
    refine aw_cVrI (pc := 12) (ci := 11) (T := TX11) (N := 18) (As := [.int 5]) (st := []) (ok_LP_fail Y l0 5 h t0) okV_LP_fail rfl (by decide) t0 w3_114 d_LP_guard_12 rfl (Nat.le_of_ble_eq_true rfl) rfl (Nat.le_of_ble_eq_true rfl) (fun q2 hq2 hTq2 => ?_)
    exact aw_ireturn (pc := 15) d_LP_guard_15 rfl rfl
  · refine aw_iload_n (pc := 5) d_LP_guard_5 rfl 1 rfl ?_
    refine aw_iconst (pc := 6) (x := 3) d_LP_guard_6 (by decide) ?_
    refine aw_icmp_le (pc := 7) (tgt := 16) d_LP_guard_7 (by decide) (fun c3 => ?_) (fun c3 => ?_)
    · refine aw_aload_n (pc := 16) d_LP_guard_16 rfl 0 rfl ?_
      refine gt_1109 (pc := 17) d_LP_guard_17 w3_9 t0 (fun tt4 => ?_)
      refine aw_iload_n (pc := 20) d_LP_guard_20 rfl 1 rfl ?_
      refine aw_cVpI (pc := 21) (ci := 4) (T := TX4) (N := 19) (As := [.int l1]) (st := []) (ok_Sh_bestWatches Y (hGr h 1109 l0) l1 h tt4) okV_Sh_bestWatches rfl (by decide) tt4 w6_127 d_LP_guard_21 rfl (Nat.le_of_ble_eq_true rfl) rfl (Nat.le_of_ble_eq_true rfl) (fun q5 hq5 hTq5 => ?_)
      refine aw_istore_n (pc := 24) (lv' := [(2, .int q5), (0, .ref l0), (1, .int l1)]) d_LP_guard_24 rfl (by decide) rfl ?_
      refine aw_aload_n (pc := 25) d_LP_guard_25 rfl 1 rfl ?_
      refine aw_iload_n (pc := 26) d_LP_guard_26 rfl 0 rfl ?_
      refine aw_iconst (pc := 27) (x := (-1)) d_LP_guard_27 (by decide) ?_
      refine aw_icmp_ne (pc := 28) (tgt := 35) d_LP_guard_28 (by decide) (fun c6 => ?_) (fun c6 => ?_)
      · refine aw_iconst (pc := 31) (x := (-1)) d_LP_guard_31 (by decide) ?_
        refine aw_goto (pc := 32) (tgt := 46) d_LP_guard_32 (by decide) ?_
        refine aw_cVrI (pc := 46) (ci := 11) (T := TX11) (N := 18) (As := [.int (-1)]) (st := []) (ok_LP_giveIfAny Y l0 (-1) h t0) okV_LP_giveIfAny rfl (by decide) t0 w4_183 d_LP_guard_46 rfl (Nat.le_of_ble_eq_true rfl) rfl (Nat.le_of_ble_eq_true rfl) (fun q7 hq7 hTq7 => ?_)
        exact aw_ireturn (pc := 49) d_LP_guard_49 rfl rfl
      · refine aw_aload_n (pc := 35) d_LP_guard_35 rfl 1 rfl ?_
        refine gt_1109 (pc := 36) d_LP_guard_36 w3_9 t0 (fun tt8 => ?_)
        refine gt_402 (pc := 39) d_LP_guard_39 w2_135 tt8 (fun tt9 => ?_)
        refine aw_iload_n (pc := 42) d_LP_guard_42 rfl 0 rfl ?_
        refine aw_cVpI (pc := 43) (ci := 3) (T := TX3) (N := 3) (As := [.int q5]) (st := [.ref l0]) (ok_Lo_costOfSet Y (hGr h 402 (hGr h 1109 l0)) q5 h tt9) okV_Lo_costOfSet rfl (by decide) tt9 w6_139 d_LP_guard_43 rfl (Nat.le_of_ble_eq_true rfl) rfl (Nat.le_of_ble_eq_true rfl) (fun q10 hq10 hTq10 => ?_)
        refine aw_cVrI (pc := 46) (ci := 11) (T := TX11) (N := 18) (As := [.int q10]) (st := []) (ok_LP_giveIfAny Y l0 q10 h t0) okV_LP_giveIfAny rfl (by decide) t0 w4_183 d_LP_guard_46 rfl (Nat.le_of_ble_eq_true rfl) rfl (Nat.le_of_ble_eq_true rfl) (fun q11 hq11 hTq11 => ?_)
        exact aw_ireturn (pc := 49) d_LP_guard_49 rfl rfl
    · refine aw_aload_n (pc := 10) d_LP_guard_10 rfl 0 rfl ?_
      refine aw_iconst (pc := 11) (x := 5) d_LP_guard_11 (by decide) ?_
      refine aw_cVrI (pc := 12) (ci := 11) (T := TX11) (N := 18) (As := [.int 5]) (st := []) (ok_LP_fail Y l0 5 h t0) okV_LP_fail rfl (by decide) t0 w3_114 d_LP_guard_12 rfl (Nat.le_of_ble_eq_true rfl) rfl (Nat.le_of_ble_eq_true rfl) (fun q12 hq12 hTq12 => ?_)
      exact aw_ireturn (pc := 15) d_LP_guard_15 rfl rfl
/-! LastPages.guardSet(I)I -/
theorem d_LP_guardSet_0 : decode prog_1_method_54_code 0 = .ok (.iload_n 1, 1) := by decide +kernel
theorem d_LP_guardSet_1 : decode prog_1_method_54_code 1 = .ok (.iconst 1, 1) := by decide +kernel
theorem d_LP_guardSet_2 : decode prog_1_method_54_code 2 = .ok (.if_icmp .lt 8, 3) := by decide +kernel
theorem d_LP_guardSet_5 : decode prog_1_method_54_code 5 = .ok (.iload_n 1, 1) := by decide +kernel
theorem d_LP_guardSet_6 : decode prog_1_method_54_code 6 = .ok (.iconst 3, 1) := by decide +kernel
theorem d_LP_guardSet_7 : decode prog_1_method_54_code 7 = .ok (.if_icmp .le 9, 3) := by decide +kernel
theorem d_LP_guardSet_10 : decode prog_1_method_54_code 10 = .ok (.aload_n 0, 1) := by decide +kernel
theorem d_LP_guardSet_11 : decode prog_1_method_54_code 11 = .ok (.iconst 5, 1) := by decide +kernel
theorem d_LP_guardSet_12 : decode prog_1_method_54_code 12 = .ok (.invokevirtual 133, 3) := by decide +kernel
theorem d_LP_guardSet_15 : decode prog_1_method_54_code 15 = .ok (.ireturn, 1) := by decide +kernel
theorem d_LP_guardSet_16 : decode prog_1_method_54_code 16 = .ok (.aload_n 0, 1) := by decide +kernel
theorem d_LP_guardSet_17 : decode prog_1_method_54_code 17 = .ok (.aload_n 0, 1) := by decide +kernel
theorem d_LP_guardSet_18 : decode prog_1_method_54_code 18 = .ok (.getfield 68, 3) := by decide +kernel
theorem d_LP_guardSet_21 : decode prog_1_method_54_code 21 = .ok (.iload_n 1, 1) := by decide +kernel
theorem d_LP_guardSet_22 : decode prog_1_method_54_code 22 = .ok (.invokevirtual 406, 3) := by decide +kernel
theorem d_LP_guardSet_25 : decode prog_1_method_54_code 25 = .ok (.invokevirtual 249, 3) := by decide +kernel
theorem d_LP_guardSet_28 : decode prog_1_method_54_code 28 = .ok (.ireturn, 1) := by decide +kernel
def LP_guardSet (Y : Ly) (l0 : Nat) (l1 : Int32) (h : Hp) : Option (Int32 × Hp) :=
  if l1 < 1 then
    (LP_fail Y l0 5 h).bind fun q2 =>
    some (q2.1, q2.2)
  else
    if l1 ≤ 3 then
      (Sh_bestWatches Y (hGr h 1109 l0) l1 h).bind fun q5 =>
      (LP_giveIfAny Y l0 q5 h).bind fun q6 =>
      some (q6.1, q6.2)
    else
      (LP_fail Y l0 5 h).bind fun q7 =>
      some (q7.1, q7.2)
theorem ok_LP_guardSet (Y : Ly) (l0 : Nat) (l1 : Int32) (h : Hp) (t0 : isO Y 11 l0) : AM Y 4 K_LP_guardSet [.ref l0, .int l1] h (LP_guardSet Y l0 l1 h) rI := by
  refine AM.of rfl (Nat.le_of_ble_eq_true rfl) ?_
  show AW Y 4 K_LP_guardSet 0 [(0, .ref l0), (1, .int l1)] [] h (LP_guardSet Y l0 l1 h) rI
  unfold LP_guardSet
  refine aw_iload_n (pc := 0) d_LP_guardSet_0 rfl 1 rfl ?_
  refine aw_iconst (pc := 1) (x := 1) d_LP_guardSet_1 (by decide) ?_
  refine aw_icmp_lt (pc := 2) (tgt := 10) d_LP_guardSet_2 (by decide) (fun c1 => ?_) (fun c1 => ?_)
  · refine aw_aload_n (pc := 10) d_LP_guardSet_10 rfl 0 rfl ?_
    refine aw_iconst (pc := 11) (x := 5) d_LP_guardSet_11 (by decide) ?_
    refine aw_cVrI (pc := 12) (ci := 11) (T := TX11) (N := 18) (As := [.int 5]) (st := []) (ok_LP_fail Y l0 5 h t0) okV_LP_fail rfl (by decide) t0 w3_114 d_LP_guardSet_12 rfl (Nat.le_of_ble_eq_true rfl) rfl (Nat.le_of_ble_eq_true rfl) (fun q2 hq2 hTq2 => ?_)
    exact aw_ireturn (pc := 15) d_LP_guardSet_15 rfl rfl
  · refine aw_iload_n (pc := 5) d_LP_guardSet_5 rfl 1 rfl ?_
    refine aw_iconst (pc := 6) (x := 3) d_LP_guardSet_6 (by decide) ?_
    refine aw_icmp_le (pc := 7) (tgt := 16) d_LP_guardSet_7 (by decide) (fun c3 => ?_) (fun c3 => ?_)
    · refine aw_aload_n (pc := 16) d_LP_guardSet_16 rfl 0 rfl ?_
      refine aw_aload_n (pc := 17) d_LP_guardSet_17 rfl 0 rfl ?_
      refine gt_1109 (pc := 18) d_LP_guardSet_18 w3_9 t0 (fun tt4 => ?_)
      refine aw_iload_n (pc := 21) d_LP_guardSet_21 rfl 1 rfl ?_
      refine aw_cVpI (pc := 22) (ci := 4) (T := TX4) (N := 19) (As := [.int l1]) (st := [.ref l0]) (ok_Sh_bestWatches Y (hGr h 1109 l0) l1 h tt4) okV_Sh_bestWatches rfl (by decide) tt4 w6_127 d_LP_guardSet_22 rfl (Nat.le_of_ble_eq_true rfl) rfl (Nat.le_of_ble_eq_true rfl) (fun q5 hq5 hTq5 => ?_)
      refine aw_cVrI (pc := 25) (ci := 11) (T := TX11) (N := 18) (As := [.int q5]) (st := []) (ok_LP_giveIfAny Y l0 q5 h t0) okV_LP_giveIfAny rfl (by decide) t0 w4_183 d_LP_guardSet_25 rfl (Nat.le_of_ble_eq_true rfl) rfl (Nat.le_of_ble_eq_true rfl) (fun q6 hq6 hTq6 => ?_)
      exact aw_ireturn (pc := 28) d_LP_guardSet_28 rfl rfl
    · refine aw_aload_n (pc := 10) d_LP_guardSet_10 rfl 0 rfl ?_
      refine aw_iconst (pc := 11) (x := 5) d_LP_guardSet_11 (by decide) ?_
      refine aw_cVrI (pc := 12) (ci := 11) (T := TX11) (N := 18) (As := [.int 5]) (st := []) (ok_LP_fail Y l0 5 h t0) okV_LP_fail rfl (by decide) t0 w3_114 d_LP_guardSet_12 rfl (Nat.le_of_ble_eq_true rfl) rfl (Nat.le_of_ble_eq_true rfl) (fun q7 hq7 hTq7 => ?_)
      exact aw_ireturn (pc := 15) d_LP_guardSet_15 rfl rfl
/-! LastPages.hint(II)I -/
theorem d_LP_hint_0 : decode prog_1_method_19_code 0 = .ok (.iload_n 1, 1) := by decide +kernel
theorem d_LP_hint_1 : decode prog_1_method_19_code 1 = .ok (.ifCond .lt 23, 3) := by decide +kernel
theorem d_LP_hint_4 : decode prog_1_method_19_code 4 = .ok (.iload_n 1, 1) := by decide +kernel
theorem d_LP_hint_5 : decode prog_1_method_19_code 5 = .ok (.aload_n 0, 1) := by decide +kernel
theorem d_LP_hint_6 : decode prog_1_method_19_code 6 = .ok (.getfield 68, 3) := by decide +kernel
theorem d_LP_hint_9 : decode prog_1_method_19_code 9 = .ok (.getfield 211, 3) := by decide +kernel
theorem d_LP_hint_12 : decode prog_1_method_19_code 12 = .ok (.if_icmp .ge 12, 3) := by decide +kernel
theorem d_LP_hint_15 : decode prog_1_method_19_code 15 = .ok (.iload_n 2, 1) := by decide +kernel
theorem d_LP_hint_16 : decode prog_1_method_19_code 16 = .ok (.ifCond .lt 8, 3) := by decide +kernel
theorem d_LP_hint_19 : decode prog_1_method_19_code 19 = .ok (.iload_n 2, 1) := by decide +kernel
theorem d_LP_hint_20 : decode prog_1_method_19_code 20 = .ok (.iconst 4, 1) := by decide +kernel
theorem d_LP_hint_21 : decode prog_1_method_19_code 21 = .ok (.if_icmp .lt 9, 3) := by decide +kernel
theorem d_LP_hint_24 : decode prog_1_method_19_code 24 = .ok (.aload_n 0, 1) := by decide +kernel
theorem d_LP_hint_25 : decode prog_1_method_19_code 25 = .ok (.iconst 5, 1) := by decide +kernel
theorem d_LP_hint_26 : decode prog_1_method_19_code 26 = .ok (.invokevirtual 133, 3) := by decide +kernel
theorem d_LP_hint_29 : decode prog_1_method_19_code 29 = .ok (.ireturn, 1) := by decide +kernel
theorem d_LP_hint_30 : decode prog_1_method_19_code 30 = .ok (.aload_n 0, 1) := by decide +kernel
theorem d_LP_hint_31 : decode prog_1_method_19_code 31 = .ok (.aload_n 0, 1) := by decide +kernel
theorem d_LP_hint_32 : decode prog_1_method_19_code 32 = .ok (.getfield 68, 3) := by decide +kernel
theorem d_LP_hint_35 : decode prog_1_method_19_code 35 = .ok (.iload_n 1, 1) := by decide +kernel
theorem d_LP_hint_36 : decode prog_1_method_19_code 36 = .ok (.iload_n 2, 1) := by decide +kernel
theorem d_LP_hint_37 : decode prog_1_method_19_code 37 = .ok (.invokevirtual 285, 3) := by decide +kernel
theorem d_LP_hint_40 : decode prog_1_method_19_code 40 = .ok (.invokevirtual 180, 3) := by decide +kernel
theorem d_LP_hint_43 : decode prog_1_method_19_code 43 = .ok (.ireturn, 1) := by decide +kernel
def LP_hint (Y : Ly) (l0 : Nat) (l1 : Int32) (l2 : Int32) (h : Hp) : Option (Int32 × Hp) :=
  if l1 < 0 then
    (LP_fail Y l0 5 h).bind fun q2 =>
    some (q2.1, q2.2)
  else
    if (hGi h 418 (hGr h 1109 l0)) ≤ l1 then
      (LP_fail Y l0 5 h).bind fun q5 =>
      some (q5.1, q5.2)
    else
      if l2 < 0 then
        (LP_fail Y l0 5 h).bind fun q7 =>
        some (q7.1, q7.2)
      else
        if l2 < 4 then
          (Sh_hintPart Y (hGr h 1109 l0) l1 l2 h).bind fun q10 =>
          (LP_give Y l0 q10 h).bind fun q11 =>
          some (q11.1, q11.2)
        else
          (LP_fail Y l0 5 h).bind fun q12 =>
          some (q12.1, q12.2)
theorem ok_LP_hint (Y : Ly) (l0 : Nat) (l1 : Int32) (l2 : Int32) (h : Hp) (t0 : isO Y 11 l0) : AM Y 1 K_LP_hint [.ref l0, .int l1, .int l2] h (LP_hint Y l0 l1 l2 h) rI := by
  refine AM.of rfl (Nat.le_of_ble_eq_true rfl) ?_
  show AW Y 1 K_LP_hint 0 [(0, .ref l0), (1, .int l1), (2, .int l2)] [] h (LP_hint Y l0 l1 l2 h) rI
  unfold LP_hint
  refine aw_iload_n (pc := 0) d_LP_hint_0 rfl 1 rfl ?_
  refine aw_if_lt (pc := 1) (tgt := 24) d_LP_hint_1 (by decide) (fun c1 => ?_) (fun c1 => ?_)
  · refine aw_aload_n (pc := 24) d_LP_hint_24 rfl 0 rfl ?_
    refine aw_iconst (pc := 25) (x := 5) d_LP_hint_25 (by decide) ?_
    refine aw_cVrI (pc := 26) (ci := 11) (T := TX11) (N := 18) (As := [.int 5]) (st := []) (ok_LP_fail Y l0 5 h t0) okV_LP_fail rfl (by decide) t0 w3_114 d_LP_hint_26 rfl (Nat.le_of_ble_eq_true rfl) rfl (Nat.le_of_ble_eq_true rfl) (fun q2 hq2 hTq2 => ?_)
    exact aw_ireturn (pc := 29) d_LP_hint_29 rfl rfl
  · refine aw_iload_n (pc := 4) d_LP_hint_4 rfl 1 rfl ?_
    refine aw_aload_n (pc := 5) d_LP_hint_5 rfl 0 rfl ?_
    refine gt_1109 (pc := 6) d_LP_hint_6 w3_9 t0 (fun tt3 => ?_)
    refine gt_418 (pc := 9) d_LP_hint_9 w2_173 tt3 ?_
    refine aw_icmp_ge (pc := 12) (tgt := 24) d_LP_hint_12 (by decide) (fun c4 => ?_) (fun c4 => ?_)
    · refine aw_aload_n (pc := 24) d_LP_hint_24 rfl 0 rfl ?_
      refine aw_iconst (pc := 25) (x := 5) d_LP_hint_25 (by decide) ?_
      refine aw_cVrI (pc := 26) (ci := 11) (T := TX11) (N := 18) (As := [.int 5]) (st := []) (ok_LP_fail Y l0 5 h t0) okV_LP_fail rfl (by decide) t0 w3_114 d_LP_hint_26 rfl (Nat.le_of_ble_eq_true rfl) rfl (Nat.le_of_ble_eq_true rfl) (fun q5 hq5 hTq5 => ?_)
      exact aw_ireturn (pc := 29) d_LP_hint_29 rfl rfl
    · refine aw_iload_n (pc := 15) d_LP_hint_15 rfl 2 rfl ?_
      refine aw_if_lt (pc := 16) (tgt := 24) d_LP_hint_16 (by decide) (fun c6 => ?_) (fun c6 => ?_)
      · refine aw_aload_n (pc := 24) d_LP_hint_24 rfl 0 rfl ?_
        refine aw_iconst (pc := 25) (x := 5) d_LP_hint_25 (by decide) ?_
        refine aw_cVrI (pc := 26) (ci := 11) (T := TX11) (N := 18) (As := [.int 5]) (st := []) (ok_LP_fail Y l0 5 h t0) okV_LP_fail rfl (by decide) t0 w3_114 d_LP_hint_26 rfl (Nat.le_of_ble_eq_true rfl) rfl (Nat.le_of_ble_eq_true rfl) (fun q7 hq7 hTq7 => ?_)
        exact aw_ireturn (pc := 29) d_LP_hint_29 rfl rfl
      · refine aw_iload_n (pc := 19) d_LP_hint_19 rfl 2 rfl ?_
        refine aw_iconst (pc := 20) (x := 4) d_LP_hint_20 (by decide) ?_
        refine aw_icmp_lt (pc := 21) (tgt := 30) d_LP_hint_21 (by decide) (fun c8 => ?_) (fun c8 => ?_)
        · refine aw_aload_n (pc := 30) d_LP_hint_30 rfl 0 rfl ?_
          refine aw_aload_n (pc := 31) d_LP_hint_31 rfl 0 rfl ?_
          refine gt_1109 (pc := 32) d_LP_hint_32 w3_9 t0 (fun tt9 => ?_)
          refine aw_iload_n (pc := 35) d_LP_hint_35 rfl 1 rfl ?_
          refine aw_iload_n (pc := 36) d_LP_hint_36 rfl 2 rfl ?_
          refine aw_cVpI (pc := 37) (ci := 4) (T := TX4) (N := 19) (As := [.int l1, .int l2]) (st := [.ref l0]) (ok_Sh_hintPart Y (hGr h 1109 l0) l1 l2 h tt9) okV_Sh_hintPart rfl (by decide) tt9 w4_235 d_LP_hint_37 rfl (Nat.le_of_ble_eq_true rfl) rfl (Nat.le_of_ble_eq_true rfl) (fun q10 hq10 hTq10 => ?_)
          refine aw_cVrI (pc := 40) (ci := 11) (T := TX11) (N := 18) (As := [.int q10]) (st := []) (ok_LP_give Y l0 q10 h t0) okV_LP_give rfl (by decide) t0 w4_88 d_LP_hint_40 rfl (Nat.le_of_ble_eq_true rfl) rfl (Nat.le_of_ble_eq_true rfl) (fun q11 hq11 hTq11 => ?_)
          exact aw_ireturn (pc := 43) d_LP_hint_43 rfl rfl
        · refine aw_aload_n (pc := 24) d_LP_hint_24 rfl 0 rfl ?_
          refine aw_iconst (pc := 25) (x := 5) d_LP_hint_25 (by decide) ?_
          refine aw_cVrI (pc := 26) (ci := 11) (T := TX11) (N := 18) (As := [.int 5]) (st := []) (ok_LP_fail Y l0 5 h t0) okV_LP_fail rfl (by decide) t0 w3_114 d_LP_hint_26 rfl (Nat.le_of_ble_eq_true rfl) rfl (Nat.le_of_ble_eq_true rfl) (fun q12 hq12 hTq12 => ?_)
          exact aw_ireturn (pc := 29) d_LP_hint_29 rfl rfl
/-! LastPages.hopeless()I -/
theorem d_LP_hopeless_0 : decode prog_1_method_30_code 0 = .ok (.iconst 0, 1) := by decide +kernel
theorem d_LP_hopeless_1 : decode prog_1_method_30_code 1 = .ok (.istore_n 1, 1) := by decide +kernel
theorem d_LP_hopeless_2 : decode prog_1_method_30_code 2 = .ok (.iconst 0, 1) := by decide +kernel
theorem d_LP_hopeless_3 : decode prog_1_method_30_code 3 = .ok (.istore_n 2, 1) := by decide +kernel
theorem d_LP_hopeless_4 : decode prog_1_method_30_code 4 = .ok (.iload_n 2, 1) := by decide +kernel
theorem d_LP_hopeless_5 : decode prog_1_method_30_code 5 = .ok (.aload_n 0, 1) := by decide +kernel
theorem d_LP_hopeless_6 : decode prog_1_method_30_code 6 = .ok (.getfield 68, 3) := by decide +kernel
theorem d_LP_hopeless_9 : decode prog_1_method_30_code 9 = .ok (.getfield 177, 3) := by decide +kernel
theorem d_LP_hopeless_12 : decode prog_1_method_30_code 12 = .ok (.if_icmp .ge 39, 3) := by decide +kernel
theorem d_LP_hopeless_15 : decode prog_1_method_30_code 15 = .ok (.aload_n 0, 1) := by decide +kernel
theorem d_LP_hopeless_16 : decode prog_1_method_30_code 16 = .ok (.getfield 45, 3) := by decide +kernel
theorem d_LP_hopeless_19 : decode prog_1_method_30_code 19 = .ok (.aload_n 0, 1) := by decide +kernel
theorem d_LP_hopeless_20 : decode prog_1_method_30_code 20 = .ok (.getfield 68, 3) := by decide +kernel
theorem d_LP_hopeless_23 : decode prog_1_method_30_code 23 = .ok (.iload_n 2, 1) := by decide +kernel
theorem d_LP_hopeless_24 : decode prog_1_method_30_code 24 = .ok (.aload_n 0, 1) := by decide +kernel
theorem d_LP_hopeless_25 : decode prog_1_method_30_code 25 = .ok (.getfield 68, 3) := by decide +kernel
theorem d_LP_hopeless_28 : decode prog_1_method_30_code 28 = .ok (.getfield 236, 3) := by decide +kernel
theorem d_LP_hopeless_31 : decode prog_1_method_30_code 31 = .ok (.invokevirtual 322, 3) := by decide +kernel
theorem d_LP_hopeless_34 : decode prog_1_method_30_code 34 = .ok (.lconst 0, 1) := by decide +kernel
theorem d_LP_hopeless_35 : decode prog_1_method_30_code 35 = .ok (.lcmp, 1) := by decide +kernel
theorem d_LP_hopeless_36 : decode prog_1_method_30_code 36 = .ok (.ifCond .ne 9, 3) := by decide +kernel
theorem d_LP_hopeless_39 : decode prog_1_method_30_code 39 = .ok (.iload_n 1, 1) := by decide +kernel
theorem d_LP_hopeless_40 : decode prog_1_method_30_code 40 = .ok (.iconst 1, 1) := by decide +kernel
theorem d_LP_hopeless_41 : decode prog_1_method_30_code 41 = .ok (.iload_n 2, 1) := by decide +kernel
theorem d_LP_hopeless_42 : decode prog_1_method_30_code 42 = .ok (.ishl, 1) := by decide +kernel
theorem d_LP_hopeless_43 : decode prog_1_method_30_code 43 = .ok (.ior, 1) := by decide +kernel
theorem d_LP_hopeless_44 : decode prog_1_method_30_code 44 = .ok (.istore_n 1, 1) := by decide +kernel
theorem d_LP_hopeless_45 : decode prog_1_method_30_code 45 = .ok (.iinc 2 1, 3) := by decide +kernel
theorem d_LP_hopeless_48 : decode prog_1_method_30_code 48 = .ok (.goto (-44), 3) := by decide +kernel
theorem d_LP_hopeless_51 : decode prog_1_method_30_code 51 = .ok (.aload_n 0, 1) := by decide +kernel
theorem d_LP_hopeless_52 : decode prog_1_method_30_code 52 = .ok (.iload_n 1, 1) := by decide +kernel
theorem d_LP_hopeless_53 : decode prog_1_method_30_code 53 = .ok (.invokevirtual 180, 3) := by decide +kernel
theorem d_LP_hopeless_56 : decode prog_1_method_30_code 56 = .ok (.ireturn, 1) := by decide +kernel
def LP_hopeless_L4 (Y : Ly) (l0 : Nat) : Nat → Int32 → Int32 → Hp → Option (Int32 × Hp)
  | 0, _, _, _ => none
  | F + 1, l1, l2, h =>
    if (hGi h 415 (hGr h 1109 l0)) ≤ l2 then
      (LP_give Y l0 l1 h).bind fun q3 =>
      some (q3.1, q3.2)
    else
      (En_countOf Y (hGr h 1105 l0) (hGr h 1109 l0) l2 (hGi h 417 (hGr h 1109 l0)) h).bind fun q7 =>
      if q7.1 = 0 then
        LP_hopeless_L4 Y l0 F (l1 ||| ((1 : Int32) <<< (l2 &&& 31))) (l2 + 1) q7.2
      else
        LP_hopeless_L4 Y l0 F l1 (l2 + 1) q7.2
theorem LP_hopeless_L4_ok (Y : Ly) (l0 : Nat) (tl0 : isO Y 11 l0) : ∀ (F : Nat) (l1 : Int32) (l2 : Int32) (h : Hp), AW Y 4 K_LP_hopeless 4 [(0, .ref l0), (1, .int l1), (2, .int l2)] [] h (LP_hopeless_L4 Y l0 F l1 l2 h) rI := by
  intro F
  induction F with
  | zero =>
    intro l1 l2 h
    exact aw_none
  | succ F ih =>
    intro l1 l2 h
    unfold LP_hopeless_L4
    refine aw_iload_n (pc := 4) d_LP_hopeless_4 rfl 2 rfl ?_
    refine aw_aload_n (pc := 5) d_LP_hopeless_5 rfl 0 rfl ?_
    refine gt_1109 (pc := 6) d_LP_hopeless_6 w3_9 tl0 (fun tt1 => ?_)
    refine gt_415 (pc := 9) d_LP_hopeless_9 w2_161 tt1 ?_
    refine aw_icmp_ge (pc := 12) (tgt := 51) d_LP_hopeless_12 (by decide) (fun c2 => ?_) (fun c2 => ?_)
    · refine aw_aload_n (pc := 51) d_LP_hopeless_51 rfl 0 rfl ?_
      refine aw_iload_n (pc := 52) d_LP_hopeless_52 rfl 1 rfl ?_
      refine aw_cVrI (pc := 53) (ci := 11) (T := TX11) (N := 18) (As := [.int l1]) (st := []) (ok_LP_give Y l0 l1 h tl0) okV_LP_give rfl (by decide) tl0 w4_88 d_LP_hopeless_53 rfl (Nat.le_of_ble_eq_true rfl) rfl (Nat.le_of_ble_eq_true rfl) (fun q3 hq3 hTq3 => ?_)
      exact aw_ireturn (pc := 56) d_LP_hopeless_56 rfl rfl
    · refine aw_aload_n (pc := 15) d_LP_hopeless_15 rfl 0 rfl ?_
      refine gt_1105 (pc := 16) d_LP_hopeless_16 w3_5 tl0 (fun tt4 => ?_)
      refine aw_aload_n (pc := 19) d_LP_hopeless_19 rfl 0 rfl ?_
      refine gt_1109 (pc := 20) d_LP_hopeless_20 w3_9 tl0 (fun tt5 => ?_)
      refine aw_iload_n (pc := 23) d_LP_hopeless_23 rfl 2 rfl ?_
      refine aw_aload_n (pc := 24) d_LP_hopeless_24 rfl 0 rfl ?_
      refine gt_1109 (pc := 25) d_LP_hopeless_25 w3_9 tl0 (fun tt6 => ?_)
      refine gt_417 (pc := 28) d_LP_hopeless_28 w2_169 tt6 ?_
      refine aw_cVrL (pc := 31) (ci := 0) (T := TX0) (N := 8) (As := [.ref (hGr h 1109 l0), .int l2, .int (hGi h 417 (hGr h 1109 l0))]) (st := []) (ok_En_countOf Y (hGr h 1105 l0) (hGr h 1109 l0) l2 (hGi h 417 (hGr h 1109 l0)) h tt4 tt5) okV_En_countOf rfl (by decide) tt4 w5_98 d_LP_hopeless_31 rfl (Nat.le_of_ble_eq_true rfl) rfl (Nat.le_of_ble_eq_true rfl) (fun q7 hq7 hTq7 => ?_)
      refine aw_lconst (pc := 34) (x := 0) d_LP_hopeless_34 (by decide) ?_
      refine aw_lcmp_ne (pc := 35) (tgt := 45) d_LP_hopeless_35 d_LP_hopeless_36 (by decide) (fun c8 => ?_) (fun c8 => ?_)
      · refine aw_iload_n (pc := 39) d_LP_hopeless_39 rfl 1 rfl ?_
        refine aw_iconst (pc := 40) (x := 1) d_LP_hopeless_40 (by decide) ?_
        refine aw_iload_n (pc := 41) d_LP_hopeless_41 rfl 2 rfl ?_
        refine aw_ishl (pc := 42) d_LP_hopeless_42 ?_
        refine aw_ior (pc := 43) d_LP_hopeless_43 ?_
        refine aw_istore_n (pc := 44) (lv' := [(1, .int (l1 ||| ((1 : Int32) <<< (l2 &&& 31)))), (0, .ref l0), (2, .int l2)]) d_LP_hopeless_44 rfl (by decide) rfl ?_
        refine aw_iinc (pc := 45) (w := l2 + 1) (lv' := [(2, .int (l2 + 1)), (1, .int (l1 ||| ((1 : Int32) <<< (l2 &&& 31)))), (0, .ref l0)]) d_LP_hopeless_45 2 rfl rfl (by decide) rfl ?_
        refine aw_goto (pc := 48) (tgt := 4) d_LP_hopeless_48 (by decide) ?_
        exact aw_lv [2, 1, 0] rfl (ih (l1 ||| ((1 : Int32) <<< (l2 &&& 31))) (l2 + 1) q7.2)
      · refine aw_iinc (pc := 45) (w := l2 + 1) (lv' := [(2, .int (l2 + 1)), (0, .ref l0), (1, .int l1)]) d_LP_hopeless_45 2 rfl rfl (by decide) rfl ?_
        refine aw_goto (pc := 48) (tgt := 4) d_LP_hopeless_48 (by decide) ?_
        exact aw_lv [1, 2, 0] rfl (ih l1 (l2 + 1) q7.2)
def LP_hopeless (Y : Ly) (l0 : Nat) (h : Hp) : Option (Int32 × Hp) :=
  LP_hopeless_L4 Y l0 FU 0 0 h
theorem ok_LP_hopeless (Y : Ly) (l0 : Nat) (h : Hp) (t0 : isO Y 11 l0) : AM Y 4 K_LP_hopeless [.ref l0] h (LP_hopeless Y l0 h) rI := by
  refine AM.of rfl (Nat.le_of_ble_eq_true rfl) ?_
  show AW Y 4 K_LP_hopeless 0 [(0, .ref l0)] [] h (LP_hopeless Y l0 h) rI
  unfold LP_hopeless
  refine aw_iconst (pc := 0) (x := 0) d_LP_hopeless_0 (by decide) ?_
  refine aw_istore_n (pc := 1) (lv' := [(1, .int 0), (0, .ref l0)]) d_LP_hopeless_1 rfl (by decide) rfl ?_
  refine aw_iconst (pc := 2) (x := 0) d_LP_hopeless_2 (by decide) ?_
  refine aw_istore_n (pc := 3) (lv' := [(2, .int 0), (1, .int 0), (0, .ref l0)]) d_LP_hopeless_3 rfl (by decide) rfl ?_
  exact aw_lv [2, 1, 0] rfl (LP_hopeless_L4_ok Y l0 t0 FU 0 0 h)
/-! LastPages$Tray.holdsTurns(II)Z -/
theorem d_Tr_holdsTurns_0 : decode prog_10_method_6_code 0 = .ok (.iconst 0, 1) := by decide +kernel
theorem d_Tr_holdsTurns_1 : decode prog_10_method_6_code 1 = .ok (.istore_n 3, 1) := by decide +kernel
theorem d_Tr_holdsTurns_2 : decode prog_10_method_6_code 2 = .ok (.iload_n 3, 1) := by decide +kernel
theorem d_Tr_holdsTurns_3 : decode prog_10_method_6_code 3 = .ok (.iload_n 1, 1) := by decide +kernel
theorem d_Tr_holdsTurns_4 : decode prog_10_method_6_code 4 = .ok (.if_icmp .ge 42, 3) := by decide +kernel
theorem d_Tr_holdsTurns_7 : decode prog_10_method_6_code 7 = .ok (.iload_n 3, 1) := by decide +kernel
theorem d_Tr_holdsTurns_8 : decode prog_10_method_6_code 8 = .ok (.aload_n 0, 1) := by decide +kernel
theorem d_Tr_holdsTurns_9 : decode prog_10_method_6_code 9 = .ok (.getfield 23, 3) := by decide +kernel
theorem d_Tr_holdsTurns_12 : decode prog_10_method_6_code 12 = .ok (.if_icmp .ge 34, 3) := by decide +kernel
theorem d_Tr_holdsTurns_15 : decode prog_10_method_6_code 15 = .ok (.aload_n 0, 1) := by decide +kernel
theorem d_Tr_holdsTurns_16 : decode prog_10_method_6_code 16 = .ok (.getfield 9, 3) := by decide +kernel
theorem d_Tr_holdsTurns_19 : decode prog_10_method_6_code 19 = .ok (.iload_n 3, 1) := by decide +kernel
theorem d_Tr_holdsTurns_20 : decode prog_10_method_6_code 20 = .ok (.laload, 1) := by decide +kernel
theorem d_Tr_holdsTurns_21 : decode prog_10_method_6_code 21 = .ok (.lconst 0, 1) := by decide +kernel
theorem d_Tr_holdsTurns_22 : decode prog_10_method_6_code 22 = .ok (.lcmp, 1) := by decide +kernel
theorem d_Tr_holdsTurns_23 : decode prog_10_method_6_code 23 = .ok (.ifCond .lt 15, 3) := by decide +kernel
theorem d_Tr_holdsTurns_26 : decode prog_10_method_6_code 26 = .ok (.aload_n 0, 1) := by decide +kernel
theorem d_Tr_holdsTurns_27 : decode prog_10_method_6_code 27 = .ok (.getfield 9, 3) := by decide +kernel
theorem d_Tr_holdsTurns_30 : decode prog_10_method_6_code 30 = .ok (.iload_n 3, 1) := by decide +kernel
theorem d_Tr_holdsTurns_31 : decode prog_10_method_6_code 31 = .ok (.laload, 1) := by decide +kernel
theorem d_Tr_holdsTurns_32 : decode prog_10_method_6_code 32 = .ok (.iload_n 2, 1) := by decide +kernel
theorem d_Tr_holdsTurns_33 : decode prog_10_method_6_code 33 = .ok (.i2l, 1) := by decide +kernel
theorem d_Tr_holdsTurns_34 : decode prog_10_method_6_code 34 = .ok (.lcmp, 1) := by decide +kernel
theorem d_Tr_holdsTurns_35 : decode prog_10_method_6_code 35 = .ok (.ifCond .lt 5, 3) := by decide +kernel
theorem d_Tr_holdsTurns_38 : decode prog_10_method_6_code 38 = .ok (.iconst 0, 1) := by decide +kernel
theorem d_Tr_holdsTurns_39 : decode prog_10_method_6_code 39 = .ok (.ireturn, 1) := by decide +kernel
theorem d_Tr_holdsTurns_40 : decode prog_10_method_6_code 40 = .ok (.iinc 3 1, 3) := by decide +kernel
theorem d_Tr_holdsTurns_43 : decode prog_10_method_6_code 43 = .ok (.goto (-41), 3) := by decide +kernel
theorem d_Tr_holdsTurns_46 : decode prog_10_method_6_code 46 = .ok (.iconst 1, 1) := by decide +kernel
theorem d_Tr_holdsTurns_47 : decode prog_10_method_6_code 47 = .ok (.ireturn, 1) := by decide +kernel
def Tr_holdsTurns_L2 (Y : Ly) (l0 : Nat) (l1 : Int32) (l2 : Int32) (h : Hp) : Nat → Int32 → Option Bool
  | 0, _ => none
  | F + 1, l3 =>
    if l1 ≤ l3 then
      some true
    else
      if (hGi h 803 l0) ≤ l3 then
        some true
      else
        if inB l3 (lnY Y (hGr h 800 l0)) = true then
          if (hAl h (hGr h 800 l0) (Int32.toNatClampNeg l3)) < 0 then
            some false
          else
            if inB l3 (lnY Y (hGr h 800 l0)) = true then
              if (hAl h (hGr h 800 l0) (Int32.toNatClampNeg l3)) < (Int32.toInt64 l2) then
                Tr_holdsTurns_L2 Y l0 l1 l2 h F (l3 + 1)
              else
                some false
            else none
        else none
theorem Tr_holdsTurns_L2_ok (Y : Ly) (l0 : Nat) (l1 : Int32) (l2 : Int32) (h : Hp) (tl0 : isO Y 8 l0) : ∀ (F : Nat) (l3 : Int32), AW Y 0 K_Tr_holdsTurns 2 [(0, .ref l0), (1, .int l1), (2, .int l2), (3, .int l3)] [] h (Tr_holdsTurns_L2 Y l0 l1 l2 h F l3) (pZ h) := by
  intro F
  induction F with
  | zero =>
    intro l3
    exact aw_none
  | succ F ih =>
    intro l3
    unfold Tr_holdsTurns_L2
    refine aw_iload_n (pc := 2) d_Tr_holdsTurns_2 rfl 3 rfl ?_
    refine aw_iload_n (pc := 3) d_Tr_holdsTurns_3 rfl 1 rfl ?_
    refine aw_icmp_ge (pc := 4) (tgt := 46) d_Tr_holdsTurns_4 (by decide) (fun c1 => ?_) (fun c1 => ?_)
    · refine aw_iconst (pc := 46) (x := 1) d_Tr_holdsTurns_46 (by decide) ?_
      exact aw_zreturn (pc := 47) (b := true) d_Tr_holdsTurns_47 rfl rfl
    · refine aw_iload_n (pc := 7) d_Tr_holdsTurns_7 rfl 3 rfl ?_
      refine aw_aload_n (pc := 8) d_Tr_holdsTurns_8 rfl 0 rfl ?_
      refine gt_803 (pc := 9) d_Tr_holdsTurns_9 w2_226 tl0 ?_
      refine aw_icmp_ge (pc := 12) (tgt := 46) d_Tr_holdsTurns_12 (by decide) (fun c2 => ?_) (fun c2 => ?_)
      · refine aw_iconst (pc := 46) (x := 1) d_Tr_holdsTurns_46 (by decide) ?_
        exact aw_zreturn (pc := 47) (b := true) d_Tr_holdsTurns_47 rfl rfl
      · refine aw_aload_n (pc := 15) d_Tr_holdsTurns_15 rfl 0 rfl ?_
        refine gt_800 (pc := 16) d_Tr_holdsTurns_16 w2_220 tl0 (fun tt3 => ?_)
        refine aw_iload_n (pc := 19) d_Tr_holdsTurns_19 rfl 3 rfl ?_
        refine aw_laload (pc := 20) d_Tr_holdsTurns_20 tt3 (fun c4 => ?_)
        refine aw_lconst (pc := 21) (x := 0) d_Tr_holdsTurns_21 (by decide) ?_
        refine aw_lcmp_lt (pc := 22) (tgt := 38) d_Tr_holdsTurns_22 d_Tr_holdsTurns_23 (by decide) (fun c5 => ?_) (fun c5 => ?_)
        · refine aw_iconst (pc := 38) (x := 0) d_Tr_holdsTurns_38 (by decide) ?_
          exact aw_zreturn (pc := 39) (b := false) d_Tr_holdsTurns_39 rfl rfl
        · refine aw_aload_n (pc := 26) d_Tr_holdsTurns_26 rfl 0 rfl ?_
          refine gt_800 (pc := 27) d_Tr_holdsTurns_27 w2_220 tl0 (fun tt6 => ?_)
          refine aw_iload_n (pc := 30) d_Tr_holdsTurns_30 rfl 3 rfl ?_
          refine aw_laload (pc := 31) d_Tr_holdsTurns_31 tt6 (fun c7 => ?_)
          refine aw_iload_n (pc := 32) d_Tr_holdsTurns_32 rfl 2 rfl ?_
          refine aw_i2l (pc := 33) d_Tr_holdsTurns_33 ?_
          refine aw_lcmp_lt (pc := 34) (tgt := 40) d_Tr_holdsTurns_34 d_Tr_holdsTurns_35 (by decide) (fun c8 => ?_) (fun c8 => ?_)
          · refine aw_iinc (pc := 40) (w := l3 + 1) (lv' := [(3, .int (l3 + 1)), (0, .ref l0), (1, .int l1), (2, .int l2)]) d_Tr_holdsTurns_40 3 rfl rfl (by decide) rfl ?_
            refine aw_goto (pc := 43) (tgt := 2) d_Tr_holdsTurns_43 (by decide) ?_
            exact aw_lv [1, 2, 3, 0] rfl (ih (l3 + 1))
          · refine aw_iconst (pc := 38) (x := 0) d_Tr_holdsTurns_38 (by decide) ?_
            exact aw_zreturn (pc := 39) (b := false) d_Tr_holdsTurns_39 rfl rfl
def Tr_holdsTurns (Y : Ly) (l0 : Nat) (l1 : Int32) (l2 : Int32) (h : Hp) : Option Bool :=
  Tr_holdsTurns_L2 Y l0 l1 l2 h FU 0
theorem ok_Tr_holdsTurns (Y : Ly) (l0 : Nat) (l1 : Int32) (l2 : Int32) (h : Hp) (t0 : isO Y 8 l0) : AM Y 0 K_Tr_holdsTurns [.ref l0, .int l1, .int l2] h (Tr_holdsTurns Y l0 l1 l2 h) (pZ h) := by
  refine AM.of rfl (Nat.le_of_ble_eq_true rfl) ?_
  show AW Y 0 K_Tr_holdsTurns 0 [(0, .ref l0), (1, .int l1), (2, .int l2)] [] h (Tr_holdsTurns Y l0 l1 l2 h) (pZ h)
  unfold Tr_holdsTurns
  refine aw_iconst (pc := 0) (x := 0) d_Tr_holdsTurns_0 (by decide) ?_
  refine aw_istore_n (pc := 1) (lv' := [(3, .int 0), (0, .ref l0), (1, .int l1), (2, .int l2)]) d_Tr_holdsTurns_1 rfl (by decide) rfl ?_
  exact aw_lv [1, 2, 3, 0] rfl (Tr_holdsTurns_L2_ok Y l0 l1 l2 h t0 FU 0)
/-! LastPages$Tray.numberAt(I)J -/
theorem d_Tr_numberAt_0 : decode prog_10_method_5_code 0 = .ok (.aload_n 0, 1) := by decide +kernel
theorem d_Tr_numberAt_1 : decode prog_10_method_5_code 1 = .ok (.iload_n 1, 1) := by decide +kernel
theorem d_Tr_numberAt_2 : decode prog_10_method_5_code 2 = .ok (.iconst 1, 1) := by decide +kernel
theorem d_Tr_numberAt_3 : decode prog_10_method_5_code 3 = .ok (.invokevirtual 32, 3) := by decide +kernel
theorem d_Tr_numberAt_6 : decode prog_10_method_5_code 6 = .ok (.ifCond .eq 12, 3) := by decide +kernel
theorem d_Tr_numberAt_9 : decode prog_10_method_5_code 9 = .ok (.aload_n 0, 1) := by decide +kernel
theorem d_Tr_numberAt_10 : decode prog_10_method_5_code 10 = .ok (.getfield 9, 3) := by decide +kernel
theorem d_Tr_numberAt_13 : decode prog_10_method_5_code 13 = .ok (.iload_n 1, 1) := by decide +kernel
theorem d_Tr_numberAt_14 : decode prog_10_method_5_code 14 = .ok (.laload, 1) := by decide +kernel
theorem d_Tr_numberAt_15 : decode prog_10_method_5_code 15 = .ok (.goto 6, 3) := by decide +kernel
theorem d_Tr_numberAt_18 : decode prog_10_method_5_code 18 = .ok (.ldc2_w 40, 3) := by decide +kernel
theorem d_Tr_numberAt_21 : decode prog_10_method_5_code 21 = .ok (.lreturn, 1) := by decide +kernel
def Tr_numberAt (Y : Ly) (l0 : Nat) (l1 : Int32) (h : Hp) : Option Int64 :=
  (Tr_hasAll Y l0 l1 1 h).bind fun q1 =>
  if q1 = true then
    if inB l1 (lnY Y (hGr h 800 l0)) = true then
      some (hAl h (hGr h 800 l0) (Int32.toNatClampNeg l1))
    else none
  else
    some (-1)
theorem ok_Tr_numberAt (Y : Ly) (l0 : Nat) (l1 : Int32) (h : Hp) (t0 : isO Y 8 l0) : AM Y 1 K_Tr_numberAt [.ref l0, .int l1] h (Tr_numberAt Y l0 l1 h) (pL h) := by
  refine AM.of rfl (Nat.le_of_ble_eq_true rfl) ?_
  show AW Y 1 K_Tr_numberAt 0 [(0, .ref l0), (1, .int l1)] [] h (Tr_numberAt Y l0 l1 h) (pL h)
  unfold Tr_numberAt
  refine aw_aload_n (pc := 0) d_Tr_numberAt_0 rfl 0 rfl ?_
  refine aw_iload_n (pc := 1) d_Tr_numberAt_1 rfl 1 rfl ?_
  refine aw_iconst (pc := 2) (x := 1) d_Tr_numberAt_2 (by decide) ?_
  refine aw_cVpZ (pc := 3) (ci := 8) (T := TX8) (N := 4) (As := [.int l1, .int 1]) (st := []) (ok_Tr_hasAll Y l0 l1 1 h t0) okV_Tr_hasAll rfl (by decide) t0 w3_105 d_Tr_numberAt_3 rfl (Nat.le_of_ble_eq_true rfl) rfl (Nat.le_of_ble_eq_true rfl) (fun q1 hq1 hTq1 => ?_)
  refine aw_beq (pc := 6) (tgt := 18) d_Tr_numberAt_6 (by decide) (fun c2 => ?_) (fun c2 => ?_)
  · refine aw_aload_n (pc := 9) d_Tr_numberAt_9 rfl 0 rfl ?_
    refine gt_800 (pc := 10) d_Tr_numberAt_10 w2_220 t0 (fun tt3 => ?_)
    refine aw_iload_n (pc := 13) d_Tr_numberAt_13 rfl 1 rfl ?_
    refine aw_laload (pc := 14) d_Tr_numberAt_14 tt3 (fun c4 => ?_)
    refine aw_goto (pc := 15) (tgt := 21) d_Tr_numberAt_15 (by decide) ?_
    exact aw_lreturn (pc := 21) d_Tr_numberAt_21 rfl rfl
  · refine aw_ldc2 (pc := 18) d_Tr_numberAt_18 w3_122 ?_
    exact aw_lreturn (pc := 21) d_Tr_numberAt_21 rfl rfl
/-! LastPages.isEnding(III)I -/
theorem d_LP_isEnding_0 : decode prog_1_method_36_code 0 = .ok (.aload_n 0, 1) := by decide +kernel
theorem d_LP_isEnding_1 : decode prog_1_method_36_code 1 = .ok (.iload_n 2, 1) := by decide +kernel
theorem d_LP_isEnding_2 : decode prog_1_method_36_code 2 = .ok (.invokevirtual 109, 3) := by decide +kernel
theorem d_LP_isEnding_5 : decode prog_1_method_36_code 5 = .ok (.astore 4, 2) := by decide +kernel
theorem d_LP_isEnding_7 : decode prog_1_method_36_code 7 = .ok (.aload 4, 2) := by decide +kernel
theorem d_LP_isEnding_9 : decode prog_1_method_36_code 9 = .ok (.ifnonnull 9, 3) := by decide +kernel
theorem d_LP_isEnding_12 : decode prog_1_method_36_code 12 = .ok (.aload_n 0, 1) := by decide +kernel
theorem d_LP_isEnding_13 : decode prog_1_method_36_code 13 = .ok (.iconst 1, 1) := by decide +kernel
theorem d_LP_isEnding_14 : decode prog_1_method_36_code 14 = .ok (.invokevirtual 133, 3) := by decide +kernel
theorem d_LP_isEnding_17 : decode prog_1_method_36_code 17 = .ok (.ireturn, 1) := by decide +kernel
theorem d_LP_isEnding_18 : decode prog_1_method_36_code 18 = .ok (.aload_n 0, 1) := by decide +kernel
theorem d_LP_isEnding_19 : decode prog_1_method_36_code 19 = .ok (.getfield 68, 3) := by decide +kernel
theorem d_LP_isEnding_22 : decode prog_1_method_36_code 22 = .ok (.iload_n 1, 1) := by decide +kernel
theorem d_LP_isEnding_23 : decode prog_1_method_36_code 23 = .ok (.invokevirtual 255, 3) := by decide +kernel
theorem d_LP_isEnding_26 : decode prog_1_method_36_code 26 = .ok (.ifCond .ne 9, 3) := by decide +kernel
theorem d_LP_isEnding_29 : decode prog_1_method_36_code 29 = .ok (.aload_n 0, 1) := by decide +kernel
theorem d_LP_isEnding_30 : decode prog_1_method_36_code 30 = .ok (.iconst 2, 1) := by decide +kernel
theorem d_LP_isEnding_31 : decode prog_1_method_36_code 31 = .ok (.invokevirtual 133, 3) := by decide +kernel
theorem d_LP_isEnding_34 : decode prog_1_method_36_code 34 = .ok (.ireturn, 1) := by decide +kernel
theorem d_LP_isEnding_35 : decode prog_1_method_36_code 35 = .ok (.aload 4, 2) := by decide +kernel
theorem d_LP_isEnding_37 : decode prog_1_method_36_code 37 = .ok (.getfield 141, 3) := by decide +kernel
theorem d_LP_isEnding_40 : decode prog_1_method_36_code 40 = .ok (.ifCond .ne 9, 3) := by decide +kernel
theorem d_LP_isEnding_43 : decode prog_1_method_36_code 43 = .ok (.aload_n 0, 1) := by decide +kernel
theorem d_LP_isEnding_44 : decode prog_1_method_36_code 44 = .ok (.iconst 3, 1) := by decide +kernel
theorem d_LP_isEnding_45 : decode prog_1_method_36_code 45 = .ok (.invokevirtual 133, 3) := by decide +kernel
theorem d_LP_isEnding_48 : decode prog_1_method_36_code 48 = .ok (.ireturn, 1) := by decide +kernel
theorem d_LP_isEnding_49 : decode prog_1_method_36_code 49 = .ok (.iload_n 3, 1) := by decide +kernel
theorem d_LP_isEnding_50 : decode prog_1_method_36_code 50 = .ok (.aload 4, 2) := by decide +kernel
theorem d_LP_isEnding_52 : decode prog_1_method_36_code 52 = .ok (.getfield 295, 3) := by decide +kernel
theorem d_LP_isEnding_55 : decode prog_1_method_36_code 55 = .ok (.if_icmp .le 9, 3) := by decide +kernel
theorem d_LP_isEnding_58 : decode prog_1_method_36_code 58 = .ok (.aload_n 0, 1) := by decide +kernel
theorem d_LP_isEnding_59 : decode prog_1_method_36_code 59 = .ok (.iconst 4, 1) := by decide +kernel
theorem d_LP_isEnding_60 : decode prog_1_method_36_code 60 = .ok (.invokevirtual 133, 3) := by decide +kernel
theorem d_LP_isEnding_63 : decode prog_1_method_36_code 63 = .ok (.ireturn, 1) := by decide +kernel
theorem d_LP_isEnding_64 : decode prog_1_method_36_code 64 = .ok (.iload_n 3, 1) := by decide +kernel
theorem d_LP_isEnding_65 : decode prog_1_method_36_code 65 = .ok (.aload_n 0, 1) := by decide +kernel
theorem d_LP_isEnding_66 : decode prog_1_method_36_code 66 = .ok (.getfield 68, 3) := by decide +kernel
theorem d_LP_isEnding_69 : decode prog_1_method_36_code 69 = .ok (.getfield 264, 3) := by decide +kernel
theorem d_LP_isEnding_72 : decode prog_1_method_36_code 72 = .ok (.iload_n 1, 1) := by decide +kernel
theorem d_LP_isEnding_73 : decode prog_1_method_36_code 73 = .ok (.iaload, 1) := by decide +kernel
theorem d_LP_isEnding_74 : decode prog_1_method_36_code 74 = .ok (.if_icmp .ne 22, 3) := by decide +kernel
theorem d_LP_isEnding_77 : decode prog_1_method_36_code 77 = .ok (.aload 4, 2) := by decide +kernel
theorem d_LP_isEnding_79 : decode prog_1_method_36_code 79 = .ok (.iload_n 3, 1) := by decide +kernel
theorem d_LP_isEnding_80 : decode prog_1_method_36_code 80 = .ok (.aload_n 0, 1) := by decide +kernel
theorem d_LP_isEnding_81 : decode prog_1_method_36_code 81 = .ok (.getfield 68, 3) := by decide +kernel
theorem d_LP_isEnding_84 : decode prog_1_method_36_code 84 = .ok (.getfield 193, 3) := by decide +kernel
theorem d_LP_isEnding_87 : decode prog_1_method_36_code 87 = .ok (.getfield 202, 3) := by decide +kernel
theorem d_LP_isEnding_90 : decode prog_1_method_36_code 90 = .ok (.invokevirtual 351, 3) := by decide +kernel
theorem d_LP_isEnding_93 : decode prog_1_method_36_code 93 = .ok (.ifCond .ne 9, 3) := by decide +kernel
theorem d_LP_isEnding_96 : decode prog_1_method_36_code 96 = .ok (.aload_n 0, 1) := by decide +kernel
theorem d_LP_isEnding_97 : decode prog_1_method_36_code 97 = .ok (.iconst 5, 1) := by decide +kernel
theorem d_LP_isEnding_98 : decode prog_1_method_36_code 98 = .ok (.invokevirtual 133, 3) := by decide +kernel
theorem d_LP_isEnding_101 : decode prog_1_method_36_code 101 = .ok (.ireturn, 1) := by decide +kernel
theorem d_LP_isEnding_102 : decode prog_1_method_36_code 102 = .ok (.aload_n 0, 1) := by decide +kernel
theorem d_LP_isEnding_103 : decode prog_1_method_36_code 103 = .ok (.getfield 45, 3) := by decide +kernel
theorem d_LP_isEnding_106 : decode prog_1_method_36_code 106 = .ok (.aload_n 0, 1) := by decide +kernel
theorem d_LP_isEnding_107 : decode prog_1_method_36_code 107 = .ok (.getfield 68, 3) := by decide +kernel
theorem d_LP_isEnding_110 : decode prog_1_method_36_code 110 = .ok (.iload_n 1, 1) := by decide +kernel
theorem d_LP_isEnding_111 : decode prog_1_method_36_code 111 = .ok (.aload_n 0, 1) := by decide +kernel
theorem d_LP_isEnding_112 : decode prog_1_method_36_code 112 = .ok (.getfield 68, 3) := by decide +kernel
theorem d_LP_isEnding_115 : decode prog_1_method_36_code 115 = .ok (.getfield 236, 3) := by decide +kernel
theorem d_LP_isEnding_118 : decode prog_1_method_36_code 118 = .ok (.invokevirtual 354, 3) := by decide +kernel
theorem d_LP_isEnding_121 : decode prog_1_method_36_code 121 = .ok (.iconst 0, 1) := by decide +kernel
theorem d_LP_isEnding_122 : decode prog_1_method_36_code 122 = .ok (.istore 5, 2) := by decide +kernel
theorem d_LP_isEnding_124 : decode prog_1_method_36_code 124 = .ok (.iload 5, 2) := by decide +kernel
theorem d_LP_isEnding_126 : decode prog_1_method_36_code 126 = .ok (.iload_n 3, 1) := by decide +kernel
theorem d_LP_isEnding_127 : decode prog_1_method_36_code 127 = .ok (.if_icmp .ge 26, 3) := by decide +kernel
theorem d_LP_isEnding_130 : decode prog_1_method_36_code 130 = .ok (.aload_n 0, 1) := by decide +kernel
theorem d_LP_isEnding_131 : decode prog_1_method_36_code 131 = .ok (.getfield 45, 3) := by decide +kernel
theorem d_LP_isEnding_134 : decode prog_1_method_36_code 134 = .ok (.iload 5, 2) := by decide +kernel
theorem d_LP_isEnding_136 : decode prog_1_method_36_code 136 = .ok (.aload 4, 2) := by decide +kernel
theorem d_LP_isEnding_138 : decode prog_1_method_36_code 138 = .ok (.iload 5, 2) := by decide +kernel
theorem d_LP_isEnding_140 : decode prog_1_method_36_code 140 = .ok (.invokevirtual 137, 3) := by decide +kernel
theorem d_LP_isEnding_143 : decode prog_1_method_36_code 143 = .ok (.l2i, 1) := by decide +kernel
theorem d_LP_isEnding_144 : decode prog_1_method_36_code 144 = .ok (.invokevirtual 358, 3) := by decide +kernel
theorem d_LP_isEnding_147 : decode prog_1_method_36_code 147 = .ok (.iinc 5 1, 3) := by decide +kernel
theorem d_LP_isEnding_150 : decode prog_1_method_36_code 150 = .ok (.goto (-26), 3) := by decide +kernel
theorem d_LP_isEnding_153 : decode prog_1_method_36_code 153 = .ok (.aload_n 0, 1) := by decide +kernel
theorem d_LP_isEnding_154 : decode prog_1_method_36_code 154 = .ok (.aload_n 0, 1) := by decide +kernel
theorem d_LP_isEnding_155 : decode prog_1_method_36_code 155 = .ok (.getfield 45, 3) := by decide +kernel
theorem d_LP_isEnding_158 : decode prog_1_method_36_code 158 = .ok (.invokevirtual 361, 3) := by decide +kernel
theorem d_LP_isEnding_161 : decode prog_1_method_36_code 161 = .ok (.ifCond .eq 7, 3) := by decide +kernel
theorem d_LP_isEnding_164 : decode prog_1_method_36_code 164 = .ok (.iconst 1, 1) := by decide +kernel
theorem d_LP_isEnding_165 : decode prog_1_method_36_code 165 = .ok (.goto 4, 3) := by decide +kernel
theorem d_LP_isEnding_168 : decode prog_1_method_36_code 168 = .ok (.iconst 0, 1) := by decide +kernel
theorem d_LP_isEnding_169 : decode prog_1_method_36_code 169 = .ok (.invokevirtual 180, 3) := by decide +kernel
theorem d_LP_isEnding_172 : decode prog_1_method_36_code 172 = .ok (.ireturn, 1) := by decide +kernel
def LP_isEnding_L124 (Y : Ly) (l0 : Nat) (l3 : Int32) (l4 : Nat) : Nat → Int32 → Hp → Option (Int32 × Hp)
  | 0, _, _ => none
  | F + 1, l5, h =>
    if l3 ≤ l5 then
      (En_isTriedOne Y (hGr h 1105 l0) h).bind fun q25 =>
      if q25 = true then
        (LP_give Y l0 1 h).bind fun q27 =>
        some (q27.1, q27.2)
      else
        (LP_give Y l0 0 h).bind fun q28 =>
        some (q28.1, q28.2)
    else
      (Tr_numberAt Y l4 l5 h).bind fun q30 =>
      (En_tryTurn Y (hGr h 1105 l0) l5 (Int64.toInt32 q30) h).bind fun q31 =>
      LP_isEnding_L124 Y l0 l3 l4 F (l5 + 1) q31
theorem LP_isEnding_L124_ok (Y : Ly) (l0 : Nat) (l3 : Int32) (l4 : Nat) (tl0 : isO Y 11 l0) (tl4 : isO Y 8 l4) : ∀ (F : Nat) (l5 : Int32) (h : Hp), AW Y 3 K_LP_isEnding 124 [(0, .ref l0), (3, .int l3), (4, .ref l4), (5, .int l5)] [] h (LP_isEnding_L124 Y l0 l3 l4 F l5 h) rI := by
  intro F
  induction F with
  | zero =>
    intro l5 h
    exact aw_none
  | succ F ih =>
    intro l5 h
    unfold LP_isEnding_L124
    refine aw_iload (pc := 124) d_LP_isEnding_124 3 rfl ?_
    refine aw_iload_n (pc := 126) d_LP_isEnding_126 rfl 1 rfl ?_
    refine aw_icmp_ge (pc := 127) (tgt := 153) d_LP_isEnding_127 (by decide) (fun c23 => ?_) (fun c23 => ?_)
    · refine aw_aload_n (pc := 153) d_LP_isEnding_153 rfl 0 rfl ?_
      refine aw_aload_n (pc := 154) d_LP_isEnding_154 rfl 0 rfl ?_
      refine gt_1105 (pc := 155) d_LP_isEnding_155 w3_5 tl0 (fun tt24 => ?_)
      refine aw_cVpZ (pc := 158) (ci := 0) (T := TX0) (N := 8) (As := []) (st := [.ref l0]) (ok_En_isTriedOne Y (hGr h 1105 l0) h tt24) okV_En_isTriedOne rfl (by decide) tt24 w5_189 d_LP_isEnding_158 rfl (Nat.le_of_ble_eq_true rfl) rfl (Nat.le_of_ble_eq_true rfl) (fun q25 hq25 hTq25 => ?_)
      refine aw_beq (pc := 161) (tgt := 168) d_LP_isEnding_161 (by decide) (fun c26 => ?_) (fun c26 => ?_)
      · refine aw_iconst (pc := 164) (x := 1) d_LP_isEnding_164 (by decide) ?_
        refine aw_goto (pc := 165) (tgt := 169) d_LP_isEnding_165 (by decide) ?_
        refine aw_cVrI (pc := 169) (ci := 11) (T := TX11) (N := 18) (As := [.int 1]) (st := []) (ok_LP_give Y l0 1 h tl0) okV_LP_give rfl (by decide) tl0 w4_88 d_LP_isEnding_169 rfl (Nat.le_of_ble_eq_true rfl) rfl (Nat.le_of_ble_eq_true rfl) (fun q27 hq27 hTq27 => ?_)
        exact aw_ireturn (pc := 172) d_LP_isEnding_172 rfl rfl
      · refine aw_iconst (pc := 168) (x := 0) d_LP_isEnding_168 (by decide) ?_
        refine aw_cVrI (pc := 169) (ci := 11) (T := TX11) (N := 18) (As := [.int 0]) (st := []) (ok_LP_give Y l0 0 h tl0) okV_LP_give rfl (by decide) tl0 w4_88 d_LP_isEnding_169 rfl (Nat.le_of_ble_eq_true rfl) rfl (Nat.le_of_ble_eq_true rfl) (fun q28 hq28 hTq28 => ?_)
        exact aw_ireturn (pc := 172) d_LP_isEnding_172 rfl rfl
    · refine aw_aload_n (pc := 130) d_LP_isEnding_130 rfl 0 rfl ?_
      refine gt_1105 (pc := 131) d_LP_isEnding_131 w3_5 tl0 (fun tt29 => ?_)
      refine aw_iload (pc := 134) d_LP_isEnding_134 3 rfl ?_
      refine aw_aload (pc := 136) d_LP_isEnding_136 2 rfl ?_
      refine aw_iload (pc := 138) d_LP_isEnding_138 3 rfl ?_
      refine aw_cVpL (pc := 140) (ci := 8) (T := TX8) (N := 4) (As := [.int l5]) (st := [.int l5, .ref (hGr h 1105 l0)]) (ok_Tr_numberAt Y l4 l5 h tl4) okV_Tr_numberAt rfl (by decide) tl4 w3_118 d_LP_isEnding_140 rfl (Nat.le_of_ble_eq_true rfl) rfl (Nat.le_of_ble_eq_true rfl) (fun q30 hq30 hTq30 => ?_)
      refine aw_l2i (pc := 143) d_LP_isEnding_143 ?_
      refine aw_cVrV (pc := 144) (ci := 0) (T := TX0) (N := 8) (As := [.int l5, .int (Int64.toInt32 q30)]) (st := []) (ok_En_tryTurn Y (hGr h 1105 l0) l5 (Int64.toInt32 q30) h tt29) okV_En_tryTurn rfl (by decide) tt29 w5_185 d_LP_isEnding_144 rfl (Nat.le_of_ble_eq_true rfl) rfl (Nat.le_of_ble_eq_true rfl) (fun q31 hq31 hTq31 => ?_)
      refine aw_iinc (pc := 147) (w := l5 + 1) (lv' := [(5, .int (l5 + 1)), (0, .ref l0), (3, .int l3), (4, .ref l4)]) d_LP_isEnding_147 3 rfl rfl (by decide) rfl ?_
      refine aw_goto (pc := 150) (tgt := 124) d_LP_isEnding_150 (by decide) ?_
      exact aw_lv [1, 2, 3, 0] rfl (ih (l5 + 1) q31)
def LP_isEnding (Y : Ly) (l0 : Nat) (l1 : Int32) (l2 : Int32) (l3 : Int32) (h : Hp) : Option (Int32 × Hp) :=
  (LP_trayAt Y l0 l2 h).bind fun q1 =>
  match q1 with
  | none =>
      (LP_fail Y l0 1 h).bind fun q5 =>
      some (q5.1, q5.2)
  | some a3 =>
      (Sh_hasBook Y (hGr h 1109 l0) l1 h).bind fun q7 =>
      if q7 = true then
        if (hGz h 801 a3) = true then
          if l3 ≤ (hGi h 803 a3) then
            if inB l1 (lnY Y (hGr h 407 (hGr h 1109 l0))) = true then
              if l3 = (hAi h (hGr h 407 (hGr h 1109 l0)) (Int32.toNatClampNeg l1)) then
                (Tr_holdsTurns Y a3 l3 (hGi h 605 (hGr h 400 (hGr h 1109 l0))) h).bind fun q17 =>
                if q17 = true then
                  (En_lookAt Y (hGr h 1105 l0) (hGr h 1109 l0) l1 (hGi h 417 (hGr h 1109 l0)) h).bind fun q22 =>
                  LP_isEnding_L124 Y l0 l3 a3 FU 0 q22
                else
                  (LP_fail Y l0 5 h).bind fun q32 =>
                  some (q32.1, q32.2)
              else
                (LP_fail Y l0 5 h).bind fun q33 =>
                some (q33.1, q33.2)
            else none
          else
            (LP_fail Y l0 4 h).bind fun q34 =>
            some (q34.1, q34.2)
        else
          (LP_fail Y l0 3 h).bind fun q35 =>
          some (q35.1, q35.2)
      else
        (LP_fail Y l0 2 h).bind fun q36 =>
        some (q36.1, q36.2)
theorem ok_LP_isEnding (Y : Ly) (l0 : Nat) (l1 : Int32) (l2 : Int32) (l3 : Int32) (h : Hp) (t0 : isO Y 11 l0) : AM Y 3 K_LP_isEnding [.ref l0, .int l1, .int l2, .int l3] h (LP_isEnding Y l0 l1 l2 l3 h) rI := by
  refine AM.of rfl (Nat.le_of_ble_eq_true rfl) ?_
  show AW Y 3 K_LP_isEnding 0 [(0, .ref l0), (1, .int l1), (2, .int l2), (3, .int l3)] [] h (LP_isEnding Y l0 l1 l2 l3 h) rI
  unfold LP_isEnding
  refine aw_aload_n (pc := 0) d_LP_isEnding_0 rfl 0 rfl ?_
  refine aw_iload_n (pc := 1) d_LP_isEnding_1 rfl 2 rfl ?_
  refine aw_cVpQ (pc := 2) (ci := 11) (T := TX11) (N := 18) (As := [.int l2]) (st := []) (ok_LP_trayAt Y l0 l2 h t0) okV_LP_trayAt rfl (by decide) t0 w3_71 d_LP_isEnding_2 rfl (Nat.le_of_ble_eq_true rfl) rfl (Nat.le_of_ble_eq_true rfl) (fun q1 hq1 hTq1 => ?_)
  have tt2 := ty_LP_trayAt t0 hTq1 hq1
  refine aw_astoreQ (pc := 5) (lv' := [(4, va_rf q1), (0, .ref l0), (1, .int l1), (2, .int l2), (3, .int l3)]) d_LP_isEnding_5 (by decide) rfl ?_
  refine aw_aloadQ (pc := 7) d_LP_isEnding_7 0 rfl ?_
  refine aw_ifnonnullQ (pc := 9) (tgt := 18) (x := q1) d_LP_isEnding_9 (by decide) (fun e4 => ?_) (fun a3 e4 => ?_)
  · rw [e4]
    show AW _ _ _ _ [(4, .null), (0, .ref l0), (1, .int l1), (2, .int l2), (3, .int l3)] [] _ _ _
    refine aw_aload_n (pc := 12) d_LP_isEnding_12 rfl 1 rfl ?_
    refine aw_iconst (pc := 13) (x := 1) d_LP_isEnding_13 (by decide) ?_
    refine aw_cVrI (pc := 14) (ci := 11) (T := TX11) (N := 18) (As := [.int 1]) (st := []) (ok_LP_fail Y l0 1 h t0) okV_LP_fail rfl (by decide) t0 w3_114 d_LP_isEnding_14 rfl (Nat.le_of_ble_eq_true rfl) rfl (Nat.le_of_ble_eq_true rfl) (fun q5 hq5 hTq5 => ?_)
    exact aw_ireturn (pc := 17) d_LP_isEnding_17 rfl rfl
  · rw [e4]
    show AW _ _ _ _ [(4, .ref a3), (0, .ref l0), (1, .int l1), (2, .int l2), (3, .int l3)] [] _ _ _
    refine aw_aload_n (pc := 18) d_LP_isEnding_18 rfl 1 rfl ?_
    refine gt_1109 (pc := 19) d_LP_isEnding_19 w3_9 t0 (fun tt6 => ?_)
    refine aw_iload_n (pc := 22) d_LP_isEnding_22 rfl 2 rfl ?_
    refine aw_cVpZ (pc := 23) (ci := 4) (T := TX4) (N := 19) (As := [.int l1]) (st := []) (ok_Sh_hasBook Y (hGr h 1109 l0) l1 h tt6) okV_Sh_hasBook rfl (by decide) tt6 w4_199 d_LP_isEnding_23 rfl (Nat.le_of_ble_eq_true rfl) rfl (Nat.le_of_ble_eq_true rfl) (fun q7 hq7 hTq7 => ?_)
    refine aw_bne (pc := 26) (tgt := 35) d_LP_isEnding_26 (by decide) (fun c8 => ?_) (fun c8 => ?_)
    · refine aw_aload (pc := 35) d_LP_isEnding_35 0 rfl ?_
      refine gt_801 (pc := 37) d_LP_isEnding_37 w2_223 (tt2 _ e4) ?_
      refine aw_bne (pc := 40) (tgt := 49) d_LP_isEnding_40 (by decide) (fun c9 => ?_) (fun c9 => ?_)
      · refine aw_iload_n (pc := 49) d_LP_isEnding_49 rfl 4 rfl ?_
        refine aw_aload (pc := 50) d_LP_isEnding_50 0 rfl ?_
        refine gt_803 (pc := 52) d_LP_isEnding_52 w2_227 (tt2 _ e4) ?_
        refine aw_icmp_le (pc := 55) (tgt := 64) d_LP_isEnding_55 (by decide) (fun c10 => ?_) (fun c10 => ?_)
        · refine aw_iload_n (pc := 64) d_LP_isEnding_64 rfl 4 rfl ?_
          refine aw_aload_n (pc := 65) d_LP_isEnding_65 rfl 1 rfl ?_
          refine gt_1109 (pc := 66) d_LP_isEnding_66 w3_9 t0 (fun tt11 => ?_)
          refine gt_407 (pc := 69) d_LP_isEnding_69 w2_144 tt11 (fun tt12 => ?_)
          refine aw_iload_n (pc := 72) d_LP_isEnding_72 rfl 2 rfl ?_
          refine aw_iaload (pc := 73) d_LP_isEnding_73 tt12 (fun c13 => ?_)
          refine aw_icmp_ne (pc := 74) (tgt := 96) d_LP_isEnding_74 (by decide) (fun c14 => ?_) (fun c14 => ?_)
          · refine aw_aload (pc := 77) d_LP_isEnding_77 0 rfl ?_
            refine aw_iload_n (pc := 79) d_LP_isEnding_79 rfl 4 rfl ?_
            refine aw_aload_n (pc := 80) d_LP_isEnding_80 rfl 1 rfl ?_
            refine gt_1109 (pc := 81) d_LP_isEnding_81 w3_9 t0 (fun tt15 => ?_)
            refine gt_400 (pc := 84) d_LP_isEnding_84 w2_129 tt15 (fun tt16 => ?_)
            refine gt_605 (pc := 87) d_LP_isEnding_87 w1_193 tt16 ?_
            refine aw_cVpZ (pc := 90) (ci := 8) (T := TX8) (N := 4) (As := [.int l3, .int (hGi h 605 (hGr h 400 (hGr h 1109 l0)))]) (st := []) (ok_Tr_holdsTurns Y a3 l3 (hGi h 605 (hGr h 400 (hGr h 1109 l0))) h (tt2 _ e4)) okV_Tr_holdsTurns rfl (by decide) (tt2 _ e4) w5_180 d_LP_isEnding_90 rfl (Nat.le_of_ble_eq_true rfl) rfl (Nat.le_of_ble_eq_true rfl) (fun q17 hq17 hTq17 => ?_)
            refine aw_bne (pc := 93) (tgt := 102) d_LP_isEnding_93 (by decide) (fun c18 => ?_) (fun c18 => ?_)
            · refine aw_aload_n (pc := 102) d_LP_isEnding_102 rfl 1 rfl ?_
              refine gt_1105 (pc := 103) d_LP_isEnding_103 w3_5 t0 (fun tt19 => ?_)
              refine aw_aload_n (pc := 106) d_LP_isEnding_106 rfl 1 rfl ?_
              refine gt_1109 (pc := 107) d_LP_isEnding_107 w3_9 t0 (fun tt20 => ?_)
              refine aw_iload_n (pc := 110) d_LP_isEnding_110 rfl 2 rfl ?_
              refine aw_aload_n (pc := 111) d_LP_isEnding_111 rfl 1 rfl ?_
              refine gt_1109 (pc := 112) d_LP_isEnding_112 w3_9 t0 (fun tt21 => ?_)
              refine gt_417 (pc := 115) d_LP_isEnding_115 w2_169 tt21 ?_
              refine aw_cVrV (pc := 118) (ci := 0) (T := TX0) (N := 8) (As := [.ref (hGr h 1109 l0), .int l1, .int (hGi h 417 (hGr h 1109 l0))]) (st := []) (ok_En_lookAt Y (hGr h 1105 l0) (hGr h 1109 l0) l1 (hGi h 417 (hGr h 1109 l0)) h tt19 tt20) okV_En_lookAt rfl (by decide) tt19 w5_184 d_LP_isEnding_118 rfl (Nat.le_of_ble_eq_true rfl) rfl (Nat.le_of_ble_eq_true rfl) (fun q22 hq22 hTq22 => ?_)
              refine aw_iconst (pc := 121) (x := 0) d_LP_isEnding_121 (by decide) ?_
              refine aw_istore (pc := 122) (lv' := [(5, .int 0), (4, .ref a3), (0, .ref l0), (1, .int l1), (2, .int l2), (3, .int l3)]) d_LP_isEnding_122 (by decide) rfl ?_
              exact aw_lv [2, 5, 1, 0] rfl (LP_isEnding_L124_ok Y l0 l3 a3 t0 (tt2 _ e4) FU 0 q22)
            · refine aw_aload_n (pc := 96) d_LP_isEnding_96 rfl 1 rfl ?_
              refine aw_iconst (pc := 97) (x := 5) d_LP_isEnding_97 (by decide) ?_
              refine aw_cVrI (pc := 98) (ci := 11) (T := TX11) (N := 18) (As := [.int 5]) (st := []) (ok_LP_fail Y l0 5 h t0) okV_LP_fail rfl (by decide) t0 w3_114 d_LP_isEnding_98 rfl (Nat.le_of_ble_eq_true rfl) rfl (Nat.le_of_ble_eq_true rfl) (fun q32 hq32 hTq32 => ?_)
              exact aw_ireturn (pc := 101) d_LP_isEnding_101 rfl rfl
          · refine aw_aload_n (pc := 96) d_LP_isEnding_96 rfl 1 rfl ?_
            refine aw_iconst (pc := 97) (x := 5) d_LP_isEnding_97 (by decide) ?_
            refine aw_cVrI (pc := 98) (ci := 11) (T := TX11) (N := 18) (As := [.int 5]) (st := []) (ok_LP_fail Y l0 5 h t0) okV_LP_fail rfl (by decide) t0 w3_114 d_LP_isEnding_98 rfl (Nat.le_of_ble_eq_true rfl) rfl (Nat.le_of_ble_eq_true rfl) (fun q33 hq33 hTq33 => ?_)
            exact aw_ireturn (pc := 101) d_LP_isEnding_101 rfl rfl
        · refine aw_aload_n (pc := 58) d_LP_isEnding_58 rfl 1 rfl ?_
          refine aw_iconst (pc := 59) (x := 4) d_LP_isEnding_59 (by decide) ?_
          refine aw_cVrI (pc := 60) (ci := 11) (T := TX11) (N := 18) (As := [.int 4]) (st := []) (ok_LP_fail Y l0 4 h t0) okV_LP_fail rfl (by decide) t0 w3_114 d_LP_isEnding_60 rfl (Nat.le_of_ble_eq_true rfl) rfl (Nat.le_of_ble_eq_true rfl) (fun q34 hq34 hTq34 => ?_)
          exact aw_ireturn (pc := 63) d_LP_isEnding_63 rfl rfl
      · refine aw_aload_n (pc := 43) d_LP_isEnding_43 rfl 1 rfl ?_
        refine aw_iconst (pc := 44) (x := 3) d_LP_isEnding_44 (by decide) ?_
        refine aw_cVrI (pc := 45) (ci := 11) (T := TX11) (N := 18) (As := [.int 3]) (st := []) (ok_LP_fail Y l0 3 h t0) okV_LP_fail rfl (by decide) t0 w3_114 d_LP_isEnding_45 rfl (Nat.le_of_ble_eq_true rfl) rfl (Nat.le_of_ble_eq_true rfl) (fun q35 hq35 hTq35 => ?_)
        exact aw_ireturn (pc := 48) d_LP_isEnding_48 rfl rfl
    · refine aw_aload_n (pc := 29) d_LP_isEnding_29 rfl 1 rfl ?_
      refine aw_iconst (pc := 30) (x := 2) d_LP_isEnding_30 (by decide) ?_
      refine aw_cVrI (pc := 31) (ci := 11) (T := TX11) (N := 18) (As := [.int 2]) (st := []) (ok_LP_fail Y l0 2 h t0) okV_LP_fail rfl (by decide) t0 w3_114 d_LP_isEnding_31 rfl (Nat.le_of_ble_eq_true rfl) rfl (Nat.le_of_ble_eq_true rfl) (fun q36 hq36 hTq36 => ?_)
      exact aw_ireturn (pc := 34) d_LP_isEnding_34 rfl rfl
/-! LastPages.keepFault(Z)V -/
theorem d_LP_keepFault_0 : decode prog_1_method_72_code 0 = .ok (.aload_n 0, 1) := by decide +kernel
theorem d_LP_keepFault_1 : decode prog_1_method_72_code 1 = .ok (.iload_n 1, 1) := by decide +kernel
theorem d_LP_keepFault_2 : decode prog_1_method_72_code 2 = .ok (.ifCond .eq 7, 3) := by decide +kernel
theorem d_LP_keepFault_5 : decode prog_1_method_72_code 5 = .ok (.iconst 0, 1) := by decide +kernel
theorem d_LP_keepFault_6 : decode prog_1_method_72_code 6 = .ok (.goto 10, 3) := by decide +kernel
theorem d_LP_keepFault_9 : decode prog_1_method_72_code 9 = .ok (.aload_n 0, 1) := by decide +kernel
theorem d_LP_keepFault_10 : decode prog_1_method_72_code 10 = .ok (.getfield 18, 3) := by decide +kernel
theorem d_LP_keepFault_13 : decode prog_1_method_72_code 13 = .ok (.getfield 447, 3) := by decide +kernel
theorem d_LP_keepFault_16 : decode prog_1_method_72_code 16 = .ok (.putfield 93, 3) := by decide +kernel
theorem d_LP_keepFault_19 : decode prog_1_method_72_code 19 = .ok (.aload_n 0, 1) := by decide +kernel
theorem d_LP_keepFault_20 : decode prog_1_method_72_code 20 = .ok (.iload_n 1, 1) := by decide +kernel
theorem d_LP_keepFault_21 : decode prog_1_method_72_code 21 = .ok (.ifCond .eq 7, 3) := by decide +kernel
theorem d_LP_keepFault_24 : decode prog_1_method_72_code 24 = .ok (.iconst (-1), 1) := by decide +kernel
theorem d_LP_keepFault_25 : decode prog_1_method_72_code 25 = .ok (.goto 10, 3) := by decide +kernel
theorem d_LP_keepFault_28 : decode prog_1_method_72_code 28 = .ok (.aload_n 0, 1) := by decide +kernel
theorem d_LP_keepFault_29 : decode prog_1_method_72_code 29 = .ok (.getfield 18, 3) := by decide +kernel
theorem d_LP_keepFault_32 : decode prog_1_method_72_code 32 = .ok (.getfield 448, 3) := by decide +kernel
theorem d_LP_keepFault_35 : decode prog_1_method_72_code 35 = .ok (.putfield 96, 3) := by decide +kernel
theorem d_LP_keepFault_38 : decode prog_1_method_72_code 38 = .ok (.return_, 1) := by decide +kernel
def LP_keepFault_J16 (Y : Ly) (l0 : Nat) (l1 : Bool) (s0 : Int32) (s1 : Nat) (h : Hp) : Option Hp :=
  letH (hSi h 1115 s1 s0) fun h2 =>
  if l1 = true then
    letH (hSi h2 1116 l0 (-1)) fun h4 =>
    some h4
  else
    letH (hSi h2 1116 l0 (hGi h2 712 (hGr h2 1101 l0))) fun h6 =>
    some h6
theorem LP_keepFault_J16_ok (Y : Ly) (l0 : Nat) (l1 : Bool) (s0 : Int32) (s1 : Nat) (h : Hp) (tl0 : isO Y 11 l0) (ts1 : isO Y 11 s1) : AW Y 0 K_LP_keepFault 16 [(0, .ref l0), (1, .int (b2i l1))] [.int s0, .ref s1] h (LP_keepFault_J16 Y l0 l1 s0 s1 h) rV := by
  unfold LP_keepFault_J16
  refine pt_1115 (pc := 16) d_LP_keepFault_16 w3_15 ts1 ?_
  refine aw_letH (fun h2 => ?_)
  refine aw_aload_n (pc := 19) d_LP_keepFault_19 rfl 0 rfl ?_
  refine aw_iload_n (pc := 20) d_LP_keepFault_20 rfl 1 rfl ?_
  refine aw_beq (pc := 21) (tgt := 28) d_LP_keepFault_21 (by decide) (fun c3 => ?_) (fun c3 => ?_)
  · refine aw_iconst (pc := 24) (x := (-1)) d_LP_keepFault_24 (by decide) ?_
    refine aw_goto (pc := 25) (tgt := 35) d_LP_keepFault_25 (by decide) ?_
    refine pt_1116 (pc := 35) d_LP_keepFault_35 w3_16 tl0 ?_
    refine aw_letH (fun h4 => ?_)
    exact aw_return (pc := 38) d_LP_keepFault_38 rfl rfl
  · refine aw_aload_n (pc := 28) d_LP_keepFault_28 rfl 0 rfl ?_
    refine gt_1101 (pc := 29) d_LP_keepFault_29 w3_1 tl0 (fun tt5 => ?_)
    refine gt_712 (pc := 32) d_LP_keepFault_32 w1_108 tt5 ?_
    refine pt_1116 (pc := 35) d_LP_keepFault_35 w3_16 tl0 ?_
    refine aw_letH (fun h6 => ?_)
    exact aw_return (pc := 38) d_LP_keepFault_38 rfl rfl
def LP_keepFault (Y : Ly) (l0 : Nat) (l1 : Bool) (h : Hp) : Option Hp :=
  if l1 = true then
    LP_keepFault_J16 Y l0 l1 0 l0 h
  else
    LP_keepFault_J16 Y l0 l1 (hGi h 711 (hGr h 1101 l0)) l0 h
theorem ok_LP_keepFault (Y : Ly) (l0 : Nat) (l1 : Bool) (h : Hp) (t0 : isO Y 11 l0) : AM Y 0 K_LP_keepFault [.ref l0, .int (b2i l1)] h (LP_keepFault Y l0 l1 h) rV := by
  refine AM.of rfl (Nat.le_of_ble_eq_true rfl) ?_
  show AW Y 0 K_LP_keepFault 0 [(0, .ref l0), (1, .int (b2i l1))] [] h (LP_keepFault Y l0 l1 h) rV
  unfold LP_keepFault
  refine aw_aload_n (pc := 0) d_LP_keepFault_0 rfl 0 rfl ?_
  refine aw_iload_n (pc := 1) d_LP_keepFault_1 rfl 1 rfl ?_
  refine aw_beq (pc := 2) (tgt := 9) d_LP_keepFault_2 (by decide) (fun c1 => ?_) (fun c1 => ?_)
  · refine aw_iconst (pc := 5) (x := 0) d_LP_keepFault_5 (by decide) ?_
    refine aw_goto (pc := 6) (tgt := 16) d_LP_keepFault_6 (by decide) ?_
    exact aw_lv [0, 1] rfl (LP_keepFault_J16_ok Y l0 l1 0 l0 h t0 t0)
  · refine aw_aload_n (pc := 9) d_LP_keepFault_9 rfl 0 rfl ?_
    refine gt_1101 (pc := 10) d_LP_keepFault_10 w3_1 t0 (fun tt7 => ?_)
    refine gt_711 (pc := 13) d_LP_keepFault_13 w1_106 tt7 ?_
    exact aw_lv [0, 1] rfl (LP_keepFault_J16_ok Y l0 l1 (hGi h 711 (hGr h 1101 l0)) l0 h t0 t0)
/-! LastPages.known(I)I -/
theorem d_LP_known_0 : decode prog_1_method_49_code 0 = .ok (.iload_n 1, 1) := by decide +kernel
theorem d_LP_known_1 : decode prog_1_method_49_code 1 = .ok (.ifCond .lt 19, 3) := by decide +kernel
theorem d_LP_known_4 : decode prog_1_method_49_code 4 = .ok (.iload_n 1, 1) := by decide +kernel
theorem d_LP_known_5 : decode prog_1_method_49_code 5 = .ok (.iconst 1, 1) := by decide +kernel
theorem d_LP_known_6 : decode prog_1_method_49_code 6 = .ok (.aload_n 0, 1) := by decide +kernel
theorem d_LP_known_7 : decode prog_1_method_49_code 7 = .ok (.getfield 68, 3) := by decide +kernel
theorem d_LP_known_10 : decode prog_1_method_49_code 10 = .ok (.getfield 214, 3) := by decide +kernel
theorem d_LP_known_13 : decode prog_1_method_49_code 13 = .ok (.getfield 218, 3) := by decide +kernel
theorem d_LP_known_16 : decode prog_1_method_49_code 16 = .ok (.ishl, 1) := by decide +kernel
theorem d_LP_known_17 : decode prog_1_method_49_code 17 = .ok (.if_icmp .lt 9, 3) := by decide +kernel
theorem d_LP_known_20 : decode prog_1_method_49_code 20 = .ok (.aload_n 0, 1) := by decide +kernel
theorem d_LP_known_21 : decode prog_1_method_49_code 21 = .ok (.iconst 5, 1) := by decide +kernel
theorem d_LP_known_22 : decode prog_1_method_49_code 22 = .ok (.invokevirtual 133, 3) := by decide +kernel
theorem d_LP_known_25 : decode prog_1_method_49_code 25 = .ok (.ireturn, 1) := by decide +kernel
theorem d_LP_known_26 : decode prog_1_method_49_code 26 = .ok (.aload_n 0, 1) := by decide +kernel
theorem d_LP_known_27 : decode prog_1_method_49_code 27 = .ok (.aload_n 0, 1) := by decide +kernel
theorem d_LP_known_28 : decode prog_1_method_49_code 28 = .ok (.getfield 68, 3) := by decide +kernel
theorem d_LP_known_31 : decode prog_1_method_49_code 31 = .ok (.iload_n 1, 1) := by decide +kernel
theorem d_LP_known_32 : decode prog_1_method_49_code 32 = .ok (.invokevirtual 392, 3) := by decide +kernel
theorem d_LP_known_35 : decode prog_1_method_49_code 35 = .ok (.invokevirtual 180, 3) := by decide +kernel
theorem d_LP_known_38 : decode prog_1_method_49_code 38 = .ok (.ireturn, 1) := by decide +kernel
def LP_known (Y : Ly) (l0 : Nat) (l1 : Int32) (h : Hp) : Option (Int32 × Hp) :=
  if l1 < 0 then
    (LP_fail Y l0 5 h).bind fun q2 =>
    some (q2.1, q2.2)
  else
    if l1 < ((1 : Int32) <<< ((hGi h 302 (hGr h 401 (hGr h 1109 l0))) &&& 31)) then
      (Sh_knownBy Y (hGr h 1109 l0) l1 h).bind fun q7 =>
      (LP_give Y l0 q7 h).bind fun q8 =>
      some (q8.1, q8.2)
    else
      (LP_fail Y l0 5 h).bind fun q9 =>
      some (q9.1, q9.2)
theorem ok_LP_known (Y : Ly) (l0 : Nat) (l1 : Int32) (h : Hp) (t0 : isO Y 11 l0) : AM Y 3 K_LP_known [.ref l0, .int l1] h (LP_known Y l0 l1 h) rI := by
  refine AM.of rfl (Nat.le_of_ble_eq_true rfl) ?_
  show AW Y 3 K_LP_known 0 [(0, .ref l0), (1, .int l1)] [] h (LP_known Y l0 l1 h) rI
  unfold LP_known
  refine aw_iload_n (pc := 0) d_LP_known_0 rfl 1 rfl ?_
  refine aw_if_lt (pc := 1) (tgt := 20) d_LP_known_1 (by decide) (fun c1 => ?_) (fun c1 => ?_)
  · refine aw_aload_n (pc := 20) d_LP_known_20 rfl 0 rfl ?_
    refine aw_iconst (pc := 21) (x := 5) d_LP_known_21 (by decide) ?_
    refine aw_cVrI (pc := 22) (ci := 11) (T := TX11) (N := 18) (As := [.int 5]) (st := []) (ok_LP_fail Y l0 5 h t0) okV_LP_fail rfl (by decide) t0 w3_114 d_LP_known_22 rfl (Nat.le_of_ble_eq_true rfl) rfl (Nat.le_of_ble_eq_true rfl) (fun q2 hq2 hTq2 => ?_)
    exact aw_ireturn (pc := 25) d_LP_known_25 rfl rfl
  · refine aw_iload_n (pc := 4) d_LP_known_4 rfl 1 rfl ?_
    refine aw_iconst (pc := 5) (x := 1) d_LP_known_5 (by decide) ?_
    refine aw_aload_n (pc := 6) d_LP_known_6 rfl 0 rfl ?_
    refine gt_1109 (pc := 7) d_LP_known_7 w3_9 t0 (fun tt3 => ?_)
    refine gt_401 (pc := 10) d_LP_known_10 w2_132 tt3 (fun tt4 => ?_)
    refine gt_302 (pc := 13) d_LP_known_13 w2_75 tt4 ?_
    refine aw_ishl (pc := 16) d_LP_known_16 ?_
    refine aw_icmp_lt (pc := 17) (tgt := 26) d_LP_known_17 (by decide) (fun c5 => ?_) (fun c5 => ?_)
    · refine aw_aload_n (pc := 26) d_LP_known_26 rfl 0 rfl ?_
      refine aw_aload_n (pc := 27) d_LP_known_27 rfl 0 rfl ?_
      refine gt_1109 (pc := 28) d_LP_known_28 w3_9 t0 (fun tt6 => ?_)
      refine aw_iload_n (pc := 31) d_LP_known_31 rfl 1 rfl ?_
      refine aw_cVpI (pc := 32) (ci := 4) (T := TX4) (N := 19) (As := [.int l1]) (st := [.ref l0]) (ok_Sh_knownBy Y (hGr h 1109 l0) l1 h tt6) okV_Sh_knownBy rfl (by decide) tt6 w6_74 d_LP_known_32 rfl (Nat.le_of_ble_eq_true rfl) rfl (Nat.le_of_ble_eq_true rfl) (fun q7 hq7 hTq7 => ?_)
      refine aw_cVrI (pc := 35) (ci := 11) (T := TX11) (N := 18) (As := [.int q7]) (st := []) (ok_LP_give Y l0 q7 h t0) okV_LP_give rfl (by decide) t0 w4_88 d_LP_known_35 rfl (Nat.le_of_ble_eq_true rfl) rfl (Nat.le_of_ble_eq_true rfl) (fun q8 hq8 hTq8 => ?_)
      exact aw_ireturn (pc := 38) d_LP_known_38 rfl rfl
    · refine aw_aload_n (pc := 20) d_LP_known_20 rfl 0 rfl ?_
      refine aw_iconst (pc := 21) (x := 5) d_LP_known_21 (by decide) ?_
      refine aw_cVrI (pc := 22) (ci := 11) (T := TX11) (N := 18) (As := [.int 5]) (st := []) (ok_LP_fail Y l0 5 h t0) okV_LP_fail rfl (by decide) t0 w3_114 d_LP_known_22 rfl (Nat.le_of_ble_eq_true rfl) rfl (Nat.le_of_ble_eq_true rfl) (fun q9 hq9 hTq9 => ?_)
      exact aw_ireturn (pc := 25) d_LP_known_25 rfl rfl
