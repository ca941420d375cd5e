/-! LastPages$Lot.hasOne(I)Z -/
theorem d_Lo_hasOne_0 : decode prog_5_method_3_code 0 = .ok (.iload_n 1, 1) := by decide +kernel
theorem d_Lo_hasOne_1 : decode prog_5_method_3_code 1 = .ok (.ifCond .lt 15, 3) := by decide +kernel
theorem d_Lo_hasOne_4 : decode prog_5_method_3_code 4 = .ok (.iload_n 1, 1) := by decide +kernel
theorem d_Lo_hasOne_5 : decode prog_5_method_3_code 5 = .ok (.aload_n 0, 1) := by decide +kernel
theorem d_Lo_hasOne_6 : decode prog_5_method_3_code 6 = .ok (.getfield 7, 3) := by decide +kernel
theorem d_Lo_hasOne_9 : decode prog_5_method_3_code 9 = .ok (.if_icmp .ge 7, 3) := by decide +kernel
theorem d_Lo_hasOne_12 : decode prog_5_method_3_code 12 = .ok (.iconst 1, 1) := by decide +kernel
theorem d_Lo_hasOne_13 : decode prog_5_method_3_code 13 = .ok (.goto 4, 3) := by decide +kernel
theorem d_Lo_hasOne_16 : decode prog_5_method_3_code 16 = .ok (.iconst 0, 1) := by decide +kernel
theorem d_Lo_hasOne_17 : decode prog_5_method_3_code 17 = .ok (.ireturn, 1) := by decide +kernel
def Lo_hasOne (Y : Ly) (l0 : Nat) (l1 : Int32) (h : Hp) : Option Bool :=
  if l1 < 0 then
    some false
  else
    if (hGi h 302 l0) ≤ l1 then
      some false
    else
      some true
theorem ok_Lo_hasOne (Y : Ly) (l0 : Nat) (l1 : Int32) (h : Hp) (t0 : isO Y 3 l0) : AM Y 0 K_Lo_hasOne [.ref l0, .int l1] h (Lo_hasOne Y l0 l1 h) (pZ h) := by
  refine AM.of rfl (Nat.le_of_ble_eq_true rfl) ?_
  show AW Y 0 K_Lo_hasOne 0 [(0, .ref l0), (1, .int l1)] [] h (Lo_hasOne Y l0 l1 h) (pZ h)
  unfold Lo_hasOne
  refine aw_iload_n (pc := 0) d_Lo_hasOne_0 rfl 1 rfl ?_
  refine aw_if_lt (pc := 1) (tgt := 16) d_Lo_hasOne_1 (by decide) (fun c1 => ?_) (fun c1 => ?_)
  · refine aw_iconst (pc := 16) (x := 0) d_Lo_hasOne_16 (by decide) ?_
    exact aw_zreturn (pc := 17) (b := false) d_Lo_hasOne_17 rfl rfl
  · refine aw_iload_n (pc := 4) d_Lo_hasOne_4 rfl 1 rfl ?_
    refine aw_aload_n (pc := 5) d_Lo_hasOne_5 rfl 0 rfl ?_
    refine gt_302 (pc := 6) d_Lo_hasOne_6 w2_72 t0 ?_
    refine aw_icmp_ge (pc := 9) (tgt := 16) d_Lo_hasOne_9 (by decide) (fun c2 => ?_) (fun c2 => ?_)
    · refine aw_iconst (pc := 16) (x := 0) d_Lo_hasOne_16 (by decide) ?_
      exact aw_zreturn (pc := 17) (b := false) d_Lo_hasOne_17 rfl rfl
    · refine aw_iconst (pc := 12) (x := 1) d_Lo_hasOne_12 (by decide) ?_
      refine aw_goto (pc := 13) (tgt := 17) d_Lo_hasOne_13 (by decide) ?_
      exact aw_zreturn (pc := 17) (b := true) d_Lo_hasOne_17 rfl rfl
/-! LastPages.lotPart(LLastPages$Lot;II)I -/
theorem d_LP_lotPart_0 : decode prog_1_method_71_code 0 = .ok (.aload_n 1, 1) := by decide +kernel
theorem d_LP_lotPart_1 : decode prog_1_method_71_code 1 = .ok (.iload_n 2, 1) := by decide +kernel
theorem d_LP_lotPart_2 : decode prog_1_method_71_code 2 = .ok (.invokevirtual 438, 3) := by decide +kernel
theorem d_LP_lotPart_5 : decode prog_1_method_71_code 5 = .ok (.ifCond .ne 9, 3) := by decide +kernel
theorem d_LP_lotPart_8 : decode prog_1_method_71_code 8 = .ok (.aload_n 0, 1) := by decide +kernel
theorem d_LP_lotPart_9 : decode prog_1_method_71_code 9 = .ok (.iconst 2, 1) := by decide +kernel
theorem d_LP_lotPart_10 : decode prog_1_method_71_code 10 = .ok (.invokevirtual 133, 3) := by decide +kernel
theorem d_LP_lotPart_13 : decode prog_1_method_71_code 13 = .ok (.ireturn, 1) := by decide +kernel
theorem d_LP_lotPart_14 : decode prog_1_method_71_code 14 = .ok (.iload_n 3, 1) := by decide +kernel
theorem d_LP_lotPart_15 : decode prog_1_method_71_code 15 = .ok (.lookupswitch 47 #[(0, 25), (1, 36)], 25) := by decide +kernel
theorem d_LP_lotPart_40 : decode prog_1_method_71_code 40 = .ok (.aload_n 0, 1) := by decide +kernel
theorem d_LP_lotPart_41 : decode prog_1_method_71_code 41 = .ok (.aload_n 1, 1) := by decide +kernel
theorem d_LP_lotPart_42 : decode prog_1_method_71_code 42 = .ok (.getfield 441, 3) := by decide +kernel
theorem d_LP_lotPart_45 : decode prog_1_method_71_code 45 = .ok (.iload_n 2, 1) := by decide +kernel
theorem d_LP_lotPart_46 : decode prog_1_method_71_code 46 = .ok (.iaload, 1) := by decide +kernel
theorem d_LP_lotPart_47 : decode prog_1_method_71_code 47 = .ok (.invokevirtual 180, 3) := by decide +kernel
theorem d_LP_lotPart_50 : decode prog_1_method_71_code 50 = .ok (.ireturn, 1) := by decide +kernel
theorem d_LP_lotPart_51 : decode prog_1_method_71_code 51 = .ok (.aload_n 0, 1) := by decide +kernel
theorem d_LP_lotPart_52 : decode prog_1_method_71_code 52 = .ok (.aload_n 1, 1) := by decide +kernel
theorem d_LP_lotPart_53 : decode prog_1_method_71_code 53 = .ok (.getfield 444, 3) := by decide +kernel
theorem d_LP_lotPart_56 : decode prog_1_method_71_code 56 = .ok (.iload_n 2, 1) := by decide +kernel
theorem d_LP_lotPart_57 : decode prog_1_method_71_code 57 = .ok (.iaload, 1) := by decide +kernel
theorem d_LP_lotPart_58 : decode prog_1_method_71_code 58 = .ok (.invokevirtual 180, 3) := by decide +kernel
theorem d_LP_lotPart_61 : decode prog_1_method_71_code 61 = .ok (.ireturn, 1) := by decide +kernel
theorem d_LP_lotPart_62 : decode prog_1_method_71_code 62 = .ok (.aload_n 0, 1) := by decide +kernel
theorem d_LP_lotPart_63 : decode prog_1_method_71_code 63 = .ok (.iconst 5, 1) := by decide +kernel
theorem d_LP_lotPart_64 : decode prog_1_method_71_code 64 = .ok (.invokevirtual 133, 3) := by decide +kernel
theorem d_LP_lotPart_67 : decode prog_1_method_71_code 67 = .ok (.ireturn, 1) := by decide +kernel
def LP_lotPart (Y : Ly) (l0 : Nat) (l1 : Nat) (l2 : Int32) (l3 : Int32) (h : Hp) : Option (Int32 × Hp) :=
  (Lo_hasOne Y l1 l2 h).bind fun q1 =>
  if q1 = true then
    if l3 = 0 then
      if inB l2 (lnY Y (hGr h 300 l1)) = true then
        (LP_give Y l0 (hAi h (hGr h 300 l1) (Int32.toNatClampNeg l2)) h).bind fun q6 =>
        some (q6.1, q6.2)
      else none
    else
    if l3 = 1 then
      if inB l2 (lnY Y (hGr h 301 l1)) = true then
        (LP_give Y l0 (hAi h (hGr h 301 l1) (Int32.toNatClampNeg l2)) h).bind fun q10 =>
        some (q10.1, q10.2)
      else none
    else
    (LP_fail Y l0 5 h).bind fun q11 =>
    some (q11.1, q11.2)
  else
    (LP_fail Y l0 2 h).bind fun q12 =>
    some (q12.1, q12.2)
theorem ok_LP_lotPart (Y : Ly) (l0 : Nat) (l1 : Nat) (l2 : Int32) (l3 : Int32) (h : Hp) (t0 : isO Y 11 l0) (t1 : isO Y 3 l1) : AM Y 1 K_LP_lotPart [.ref l0, .ref l1, .int l2, .int l3] h (LP_lotPart Y l0 l1 l2 l3 h) rI := by
  refine AM.of rfl (Nat.le_of_ble_eq_true rfl) ?_
  show AW Y 1 K_LP_lotPart 0 [(0, .ref l0), (1, .ref l1), (2, .int l2), (3, .int l3)] [] h (LP_lotPart Y l0 l1 l2 l3 h) rI
  unfold LP_lotPart
  refine aw_aload_n (pc := 0) d_LP_lotPart_0 rfl 1 rfl ?_
  refine aw_iload_n (pc := 1) d_LP_lotPart_1 rfl 2 rfl ?_
  refine aw_cVpZ (pc := 2) (ci := 3) (T := TX3) (N := 3) (As := [.int l2]) (st := []) (ok_Lo_hasOne Y l1 l2 h t1) okV_Lo_hasOne rfl (by decide) t1 w5_7 d_LP_lotPart_2 rfl (Nat.le_of_ble_eq_true rfl) rfl (Nat.le_of_ble_eq_true rfl) (fun q1 hq1 hTq1 => ?_)
  refine aw_bne (pc := 5) (tgt := 14) d_LP_lotPart_5 (by decide) (fun c2 => ?_) (fun c2 => ?_)
  · refine aw_iload_n (pc := 14) d_LP_lotPart_14 rfl 3 rfl ?_
    refine aw_cases (fun c3 => ?_) (fun c3 => ?_)
    · refine aw_lks (pc := 15) (tgt := 40) (off := 25) d_LP_lotPart_15 (by decide) (by rw [c3]; rfl) (by decide) ?_
      refine aw_aload_n (pc := 40) d_LP_lotPart_40 rfl 0 rfl ?_
      refine aw_aload_n (pc := 41) d_LP_lotPart_41 rfl 1 rfl ?_
      refine gt_300 (pc := 42) d_LP_lotPart_42 w2_69 t1 (fun tt4 => ?_)
      refine aw_iload_n (pc := 45) d_LP_lotPart_45 rfl 2 rfl ?_
      refine aw_iaload (pc := 46) d_LP_lotPart_46 tt4 (fun c5 => ?_)
      refine aw_cVrI (pc := 47) (ci := 11) (T := TX11) (N := 18) (As := [.int (hAi h (hGr h 300 l1) (Int32.toNatClampNeg l2))]) (st := []) (ok_LP_give Y l0 (hAi h (hGr h 300 l1) (Int32.toNatClampNeg l2)) h t0) okV_LP_give rfl (by decide) t0 w4_88 d_LP_lotPart_47 rfl (Nat.le_of_ble_eq_true rfl) rfl (Nat.le_of_ble_eq_true rfl) (fun q6 hq6 hTq6 => ?_)
      exact aw_ireturn (pc := 50) d_LP_lotPart_50 rfl rfl
    refine aw_cases (fun c7 => ?_) (fun c7 => ?_)
    · refine aw_lks (pc := 15) (tgt := 51) (off := 36) d_LP_lotPart_15 (by decide) (by rw [c7]; rfl) (by decide) ?_
      refine aw_aload_n (pc := 51) d_LP_lotPart_51 rfl 0 rfl ?_
      refine aw_aload_n (pc := 52) d_LP_lotPart_52 rfl 1 rfl ?_
      refine gt_301 (pc := 53) d_LP_lotPart_53 w2_71 t1 (fun tt8 => ?_)
      refine aw_iload_n (pc := 56) d_LP_lotPart_56 rfl 2 rfl ?_
      refine aw_iaload (pc := 57) d_LP_lotPart_57 tt8 (fun c9 => ?_)
      refine aw_cVrI (pc := 58) (ci := 11) (T := TX11) (N := 18) (As := [.int (hAi h (hGr h 301 l1) (Int32.toNatClampNeg l2))]) (st := []) (ok_LP_give Y l0 (hAi h (hGr h 301 l1) (Int32.toNatClampNeg l2)) h t0) okV_LP_give rfl (by decide) t0 w4_88 d_LP_lotPart_58 rfl (Nat.le_of_ble_eq_true rfl) rfl (Nat.le_of_ble_eq_true rfl) (fun q10 hq10 hTq10 => ?_)
      exact aw_ireturn (pc := 61) d_LP_lotPart_61 rfl rfl
    refine aw_lksX (pc := 15) (tgt := 62) d_LP_lotPart_15 (by decide) (⟨fun q => c3 (toInt_inj_lit q (by decide)), ⟨fun q => c7 (toInt_inj_lit q (by decide)), trivial⟩⟩) (by decide) ?_
    refine aw_aload_n (pc := 62) d_LP_lotPart_62 rfl 0 rfl ?_
    refine aw_iconst (pc := 63) (x := 5) d_LP_lotPart_63 (by decide) ?_
    refine aw_cVrI (pc := 64) (ci := 11) (T := TX11) (N := 18) (As := [.int 5]) (st := []) (ok_LP_fail Y l0 5 h t0) okV_LP_fail rfl (by decide) t0 w3_114 d_LP_lotPart_64 rfl (Nat.le_of_ble_eq_true rfl) rfl (Nat.le_of_ble_eq_true rfl) (fun q11 hq11 hTq11 => ?_)
    exact aw_ireturn (pc := 67) d_LP_lotPart_67 rfl rfl
  · refine aw_aload_n (pc := 8) d_LP_lotPart_8 rfl 0 rfl ?_
    refine aw_iconst (pc := 9) (x := 2) d_LP_lotPart_9 (by decide) ?_
    refine aw_cVrI (pc := 10) (ci := 11) (T := TX11) (N := 18) (As := [.int 2]) (st := []) (ok_LP_fail Y l0 2 h t0) okV_LP_fail rfl (by decide) t0 w3_114 d_LP_lotPart_10 rfl (Nat.le_of_ble_eq_true rfl) rfl (Nat.le_of_ble_eq_true rfl) (fun q12 hq12 hTq12 => ?_)
    exact aw_ireturn (pc := 13) d_LP_lotPart_13 rfl rfl
/-! LastPages$Story.countRules()I -/
theorem d_St_countRules_0 : decode prog_8_method_12_code 0 = .ok (.iconst 0, 1) := by decide +kernel
theorem d_St_countRules_1 : decode prog_8_method_12_code 1 = .ok (.istore_n 1, 1) := by decide +kernel
theorem d_St_countRules_2 : decode prog_8_method_12_code 2 = .ok (.iconst 0, 1) := by decide +kernel
theorem d_St_countRules_3 : decode prog_8_method_12_code 3 = .ok (.istore_n 2, 1) := by decide +kernel
theorem d_St_countRules_4 : decode prog_8_method_12_code 4 = .ok (.iload_n 2, 1) := by decide +kernel
theorem d_St_countRules_5 : decode prog_8_method_12_code 5 = .ok (.bipush 64, 2) := by decide +kernel
theorem d_St_countRules_7 : decode prog_8_method_12_code 7 = .ok (.if_icmp .ge 28, 3) := by decide +kernel
theorem d_St_countRules_10 : decode prog_8_method_12_code 10 = .ok (.aload_n 0, 1) := by decide +kernel
theorem d_St_countRules_11 : decode prog_8_method_12_code 11 = .ok (.iload_n 2, 1) := by decide +kernel
theorem d_St_countRules_12 : decode prog_8_method_12_code 12 = .ok (.bipush 8, 2) := by decide +kernel
theorem d_St_countRules_14 : decode prog_8_method_12_code 14 = .ok (.idiv, 1) := by decide +kernel
theorem d_St_countRules_15 : decode prog_8_method_12_code 15 = .ok (.iload_n 2, 1) := by decide +kernel
theorem d_St_countRules_16 : decode prog_8_method_12_code 16 = .ok (.bipush 8, 2) := by decide +kernel
theorem d_St_countRules_18 : decode prog_8_method_12_code 18 = .ok (.irem, 1) := by decide +kernel
theorem d_St_countRules_19 : decode prog_8_method_12_code 19 = .ok (.invokevirtual 56, 3) := by decide +kernel
theorem d_St_countRules_22 : decode prog_8_method_12_code 22 = .ok (.iconst (-1), 1) := by decide +kernel
theorem d_St_countRules_23 : decode prog_8_method_12_code 23 = .ok (.if_icmp .eq 6, 3) := by decide +kernel
theorem d_St_countRules_26 : decode prog_8_method_12_code 26 = .ok (.iinc 1 1, 3) := by decide +kernel
theorem d_St_countRules_29 : decode prog_8_method_12_code 29 = .ok (.iinc 2 1, 3) := by decide +kernel
theorem d_St_countRules_32 : decode prog_8_method_12_code 32 = .ok (.goto (-28), 3) := by decide +kernel
theorem d_St_countRules_35 : decode prog_8_method_12_code 35 = .ok (.iload_n 1, 1) := by decide +kernel
theorem d_St_countRules_36 : decode prog_8_method_12_code 36 = .ok (.ireturn, 1) := by decide +kernel
def St_countRules_L4 (Y : Ly) (l0 : Nat) (h : Hp) : Nat → Int32 → Int32 → Option Int32
  | 0, _, _ => none
  | F + 1, l1, l2 =>
    if 64 ≤ l2 then
      some l1
    else
      (St_leadsTo Y l0 (l2 / 8) (l2 - l2 / 8 * 8) h).bind fun q2 =>
      if q2 = (-1) then
        St_countRules_L4 Y l0 h F l1 (l2 + 1)
      else
        St_countRules_L4 Y l0 h F (l1 + 1) (l2 + 1)
theorem St_countRules_L4_ok (Y : Ly) (l0 : Nat) (h : Hp) (tl0 : isO Y 6 l0) : ∀ (F : Nat) (l1 : Int32) (l2 : Int32), AW Y 1 K_St_countRules 4 [(0, .ref l0), (1, .int l1), (2, .int l2)] [] h (St_countRules_L4 Y l0 h F l1 l2) (pI h) := by
  intro F
  induction F with
  | zero =>
    intro l1 l2
    exact aw_none
  | succ F ih =>
    intro l1 l2
    unfold St_countRules_L4
    refine aw_iload_n (pc := 4) d_St_countRules_4 rfl 2 rfl ?_
    refine aw_bipush (pc := 5) (x := 64) d_St_countRules_5 (by decide) ?_
    refine aw_icmp_ge (pc := 7) (tgt := 35) d_St_countRules_7 (by decide) (fun c1 => ?_) (fun c1 => ?_)
    · refine aw_iload_n (pc := 35) d_St_countRules_35 rfl 1 rfl ?_
      exact aw_ireturn (pc := 36) d_St_countRules_36 rfl rfl
    · refine aw_aload_n (pc := 10) d_St_countRules_10 rfl 0 rfl ?_
      refine aw_iload_n (pc := 11) d_St_countRules_11 rfl 2 rfl ?_
      refine aw_bipush (pc := 12) (x := 8) d_St_countRules_12 (by decide) ?_
      refine aw_idiv (pc := 14) d_St_countRules_14 (by decide) ?_
      refine aw_iload_n (pc := 15) d_St_countRules_15 rfl 2 rfl ?_
      refine aw_bipush (pc := 16) (x := 8) d_St_countRules_16 (by decide) ?_
      refine aw_irem (pc := 18) d_St_countRules_18 (by decide) ?_
      refine aw_cVpI (pc := 19) (ci := 6) (T := TX6) (N := 8) (As := [.int (l2 / 8), .int (l2 - l2 / 8 * 8)]) (st := []) (ok_St_leadsTo Y l0 (l2 / 8) (l2 - l2 / 8 * 8) h tl0) okV_St_leadsTo rfl (by decide) tl0 w4_168 d_St_countRules_19 rfl (Nat.le_of_ble_eq_true rfl) rfl (Nat.le_of_ble_eq_true rfl) (fun q2 hq2 hTq2 => ?_)
      refine aw_iconst (pc := 22) (x := (-1)) d_St_countRules_22 (by decide) ?_
      refine aw_icmp_eq (pc := 23) (tgt := 29) d_St_countRules_23 (by decide) (fun c3 => ?_) (fun c3 => ?_)
      · refine aw_iinc (pc := 29) (w := l2 + 1) (lv' := [(2, .int (l2 + 1)), (0, .ref l0), (1, .int l1)]) d_St_countRules_29 2 rfl rfl (by decide) rfl ?_
        refine aw_goto (pc := 32) (tgt := 4) d_St_countRules_32 (by decide) ?_
        exact aw_lv [1, 2, 0] rfl (ih l1 (l2 + 1))
      · refine aw_iinc (pc := 26) (w := l1 + 1) (lv' := [(1, .int (l1 + 1)), (0, .ref l0), (2, .int l2)]) d_St_countRules_26 1 rfl rfl (by decide) rfl ?_
        refine aw_iinc (pc := 29) (w := l2 + 1) (lv' := [(2, .int (l2 + 1)), (1, .int (l1 + 1)), (0, .ref l0)]) d_St_countRules_29 2 rfl rfl (by decide) rfl ?_
        refine aw_goto (pc := 32) (tgt := 4) d_St_countRules_32 (by decide) ?_
        exact aw_lv [2, 1, 0] rfl (ih (l1 + 1) (l2 + 1))
def St_countRules (Y : Ly) (l0 : Nat) (h : Hp) : Option Int32 :=
  St_countRules_L4 Y l0 h FU 0 0
theorem ok_St_countRules (Y : Ly) (l0 : Nat) (h : Hp) (t0 : isO Y 6 l0) : AM Y 1 K_St_countRules [.ref l0] h (St_countRules Y l0 h) (pI h) := by
  refine AM.of rfl (Nat.le_of_ble_eq_true rfl) ?_
  show AW Y 1 K_St_countRules 0 [(0, .ref l0)] [] h (St_countRules Y l0 h) (pI h)
  unfold St_countRules
  refine aw_iconst (pc := 0) (x := 0) d_St_countRules_0 (by decide) ?_
  refine aw_istore_n (pc := 1) (lv' := [(1, .int 0), (0, .ref l0)]) d_St_countRules_1 rfl (by decide) rfl ?_
  refine aw_iconst (pc := 2) (x := 0) d_St_countRules_2 (by decide) ?_
  refine aw_istore_n (pc := 3) (lv' := [(2, .int 0), (1, .int 0), (0, .ref l0)]) d_St_countRules_3 rfl (by decide) rfl ?_
  exact aw_lv [2, 1, 0] rfl (St_countRules_L4_ok Y l0 h t0 FU 0 0)
/-! LastPages.many(I)I -/
theorem d_LP_many_0 : decode prog_1_method_13_code 0 = .ok (.iload_n 1, 1) := by decide +kernel
theorem d_LP_many_1 : decode prog_1_method_13_code 1 = .ok (.tableswitch 228 0 11 #[63, 78, 93, 105, 120, 132, 144, 159, 174, 189, 204, 216], 63) := by decide +kernel
theorem d_LP_many_64 : decode prog_1_method_13_code 64 = .ok (.aload_n 0, 1) := by decide +kernel
theorem d_LP_many_65 : decode prog_1_method_13_code 65 = .ok (.aload_n 0, 1) := by decide +kernel
theorem d_LP_many_66 : decode prog_1_method_13_code 66 = .ok (.getfield 68, 3) := by decide +kernel
theorem d_LP_many_69 : decode prog_1_method_13_code 69 = .ok (.getfield 193, 3) := by decide +kernel
theorem d_LP_many_72 : decode prog_1_method_13_code 72 = .ok (.getfield 197, 3) := by decide +kernel
theorem d_LP_many_75 : decode prog_1_method_13_code 75 = .ok (.invokevirtual 180, 3) := by decide +kernel
theorem d_LP_many_78 : decode prog_1_method_13_code 78 = .ok (.ireturn, 1) := by decide +kernel
theorem d_LP_many_79 : decode prog_1_method_13_code 79 = .ok (.aload_n 0, 1) := by decide +kernel
theorem d_LP_many_80 : decode prog_1_method_13_code 80 = .ok (.aload_n 0, 1) := by decide +kernel
theorem d_LP_many_81 : decode prog_1_method_13_code 81 = .ok (.getfield 68, 3) := by decide +kernel
theorem d_LP_many_84 : decode prog_1_method_13_code 84 = .ok (.getfield 193, 3) := by decide +kernel
theorem d_LP_many_87 : decode prog_1_method_13_code 87 = .ok (.getfield 202, 3) := by decide +kernel
theorem d_LP_many_90 : decode prog_1_method_13_code 90 = .ok (.invokevirtual 180, 3) := by decide +kernel
theorem d_LP_many_93 : decode prog_1_method_13_code 93 = .ok (.ireturn, 1) := by decide +kernel
theorem d_LP_many_94 : decode prog_1_method_13_code 94 = .ok (.aload_n 0, 1) := by decide +kernel
theorem d_LP_many_95 : decode prog_1_method_13_code 95 = .ok (.aload_n 0, 1) := by decide +kernel
theorem d_LP_many_96 : decode prog_1_method_13_code 96 = .ok (.getfield 68, 3) := by decide +kernel
theorem d_LP_many_99 : decode prog_1_method_13_code 99 = .ok (.getfield 177, 3) := by decide +kernel
theorem d_LP_many_102 : decode prog_1_method_13_code 102 = .ok (.invokevirtual 180, 3) := by decide +kernel
theorem d_LP_many_105 : decode prog_1_method_13_code 105 = .ok (.ireturn, 1) := by decide +kernel
theorem d_LP_many_106 : decode prog_1_method_13_code 106 = .ok (.aload_n 0, 1) := by decide +kernel
theorem d_LP_many_107 : decode prog_1_method_13_code 107 = .ok (.aload_n 0, 1) := by decide +kernel
theorem d_LP_many_108 : decode prog_1_method_13_code 108 = .ok (.getfield 68, 3) := by decide +kernel
theorem d_LP_many_111 : decode prog_1_method_13_code 111 = .ok (.getfield 193, 3) := by decide +kernel
theorem d_LP_many_114 : decode prog_1_method_13_code 114 = .ok (.getfield 205, 3) := by decide +kernel
theorem d_LP_many_117 : decode prog_1_method_13_code 117 = .ok (.invokevirtual 180, 3) := by decide +kernel
theorem d_LP_many_120 : decode prog_1_method_13_code 120 = .ok (.ireturn, 1) := by decide +kernel
theorem d_LP_many_121 : decode prog_1_method_13_code 121 = .ok (.aload_n 0, 1) := by decide +kernel
theorem d_LP_many_122 : decode prog_1_method_13_code 122 = .ok (.aload_n 0, 1) := by decide +kernel
theorem d_LP_many_123 : decode prog_1_method_13_code 123 = .ok (.getfield 68, 3) := by decide +kernel
theorem d_LP_many_126 : decode prog_1_method_13_code 126 = .ok (.getfield 208, 3) := by decide +kernel
theorem d_LP_many_129 : decode prog_1_method_13_code 129 = .ok (.invokevirtual 180, 3) := by decide +kernel
theorem d_LP_many_132 : decode prog_1_method_13_code 132 = .ok (.ireturn, 1) := by decide +kernel
theorem d_LP_many_133 : decode prog_1_method_13_code 133 = .ok (.aload_n 0, 1) := by decide +kernel
theorem d_LP_many_134 : decode prog_1_method_13_code 134 = .ok (.aload_n 0, 1) := by decide +kernel
theorem d_LP_many_135 : decode prog_1_method_13_code 135 = .ok (.getfield 68, 3) := by decide +kernel
theorem d_LP_many_138 : decode prog_1_method_13_code 138 = .ok (.getfield 211, 3) := by decide +kernel
theorem d_LP_many_141 : decode prog_1_method_13_code 141 = .ok (.invokevirtual 180, 3) := by decide +kernel
theorem d_LP_many_144 : decode prog_1_method_13_code 144 = .ok (.ireturn, 1) := by decide +kernel
theorem d_LP_many_145 : decode prog_1_method_13_code 145 = .ok (.aload_n 0, 1) := by decide +kernel
theorem d_LP_many_146 : decode prog_1_method_13_code 146 = .ok (.aload_n 0, 1) := by decide +kernel
theorem d_LP_many_147 : decode prog_1_method_13_code 147 = .ok (.getfield 68, 3) := by decide +kernel
theorem d_LP_many_150 : decode prog_1_method_13_code 150 = .ok (.getfield 214, 3) := by decide +kernel
theorem d_LP_many_153 : decode prog_1_method_13_code 153 = .ok (.getfield 218, 3) := by decide +kernel
theorem d_LP_many_156 : decode prog_1_method_13_code 156 = .ok (.invokevirtual 180, 3) := by decide +kernel
theorem d_LP_many_159 : decode prog_1_method_13_code 159 = .ok (.ireturn, 1) := by decide +kernel
theorem d_LP_many_160 : decode prog_1_method_13_code 160 = .ok (.aload_n 0, 1) := by decide +kernel
theorem d_LP_many_161 : decode prog_1_method_13_code 161 = .ok (.aload_n 0, 1) := by decide +kernel
theorem d_LP_many_162 : decode prog_1_method_13_code 162 = .ok (.getfield 68, 3) := by decide +kernel
theorem d_LP_many_165 : decode prog_1_method_13_code 165 = .ok (.getfield 223, 3) := by decide +kernel
theorem d_LP_many_168 : decode prog_1_method_13_code 168 = .ok (.getfield 218, 3) := by decide +kernel
theorem d_LP_many_171 : decode prog_1_method_13_code 171 = .ok (.invokevirtual 180, 3) := by decide +kernel
theorem d_LP_many_174 : decode prog_1_method_13_code 174 = .ok (.ireturn, 1) := by decide +kernel
theorem d_LP_many_175 : decode prog_1_method_13_code 175 = .ok (.aload_n 0, 1) := by decide +kernel
theorem d_LP_many_176 : decode prog_1_method_13_code 176 = .ok (.aload_n 0, 1) := by decide +kernel
theorem d_LP_many_177 : decode prog_1_method_13_code 177 = .ok (.getfield 68, 3) := by decide +kernel
theorem d_LP_many_180 : decode prog_1_method_13_code 180 = .ok (.getfield 193, 3) := by decide +kernel
theorem d_LP_many_183 : decode prog_1_method_13_code 183 = .ok (.invokevirtual 226, 3) := by decide +kernel
theorem d_LP_many_186 : decode prog_1_method_13_code 186 = .ok (.invokevirtual 180, 3) := by decide +kernel
theorem d_LP_many_189 : decode prog_1_method_13_code 189 = .ok (.ireturn, 1) := by decide +kernel
theorem d_LP_many_190 : decode prog_1_method_13_code 190 = .ok (.aload_n 0, 1) := by decide +kernel
theorem d_LP_many_191 : decode prog_1_method_13_code 191 = .ok (.aload_n 0, 1) := by decide +kernel
theorem d_LP_many_192 : decode prog_1_method_13_code 192 = .ok (.getfield 68, 3) := by decide +kernel
theorem d_LP_many_195 : decode prog_1_method_13_code 195 = .ok (.getfield 193, 3) := by decide +kernel
theorem d_LP_many_198 : decode prog_1_method_13_code 198 = .ok (.getfield 230, 3) := by decide +kernel
theorem d_LP_many_201 : decode prog_1_method_13_code 201 = .ok (.invokevirtual 180, 3) := by decide +kernel
theorem d_LP_many_204 : decode prog_1_method_13_code 204 = .ok (.ireturn, 1) := by decide +kernel
theorem d_LP_many_205 : decode prog_1_method_13_code 205 = .ok (.aload_n 0, 1) := by decide +kernel
theorem d_LP_many_206 : decode prog_1_method_13_code 206 = .ok (.aload_n 0, 1) := by decide +kernel
theorem d_LP_many_207 : decode prog_1_method_13_code 207 = .ok (.getfield 68, 3) := by decide +kernel
theorem d_LP_many_210 : decode prog_1_method_13_code 210 = .ok (.invokevirtual 233, 3) := by decide +kernel
theorem d_LP_many_213 : decode prog_1_method_13_code 213 = .ok (.invokevirtual 180, 3) := by decide +kernel
theorem d_LP_many_216 : decode prog_1_method_13_code 216 = .ok (.ireturn, 1) := by decide +kernel
theorem d_LP_many_217 : decode prog_1_method_13_code 217 = .ok (.aload_n 0, 1) := by decide +kernel
theorem d_LP_many_218 : decode prog_1_method_13_code 218 = .ok (.aload_n 0, 1) := by decide +kernel
theorem d_LP_many_219 : decode prog_1_method_13_code 219 = .ok (.getfield 68, 3) := by decide +kernel
theorem d_LP_many_222 : decode prog_1_method_13_code 222 = .ok (.getfield 236, 3) := by decide +kernel
theorem d_LP_many_225 : decode prog_1_method_13_code 225 = .ok (.invokevirtual 180, 3) := by decide +kernel
theorem d_LP_many_228 : decode prog_1_method_13_code 228 = .ok (.ireturn, 1) := by decide +kernel
theorem d_LP_many_229 : decode prog_1_method_13_code 229 = .ok (.aload_n 0, 1) := by decide +kernel
theorem d_LP_many_230 : decode prog_1_method_13_code 230 = .ok (.iconst 5, 1) := by decide +kernel
theorem d_LP_many_231 : decode prog_1_method_13_code 231 = .ok (.invokevirtual 133, 3) := by decide +kernel
theorem d_LP_many_234 : decode prog_1_method_13_code 234 = .ok (.ireturn, 1) := by decide +kernel
def LP_many (Y : Ly) (l0 : Nat) (l1 : Int32) (h : Hp) : Option (Int32 × Hp) :=
  if l1 = 0 then
    (LP_give Y l0 (hGi h 604 (hGr h 400 (hGr h 1109 l0))) h).bind fun q4 =>
    some (q4.1, q4.2)
  else
  if l1 = 1 then
    (LP_give Y l0 (hGi h 605 (hGr h 400 (hGr h 1109 l0))) h).bind fun q8 =>
    some (q8.1, q8.2)
  else
  if l1 = 2 then
    (LP_give Y l0 (hGi h 415 (hGr h 1109 l0)) h).bind fun q11 =>
    some (q11.1, q11.2)
  else
  if l1 = 3 then
    (LP_give Y l0 (hGi h 607 (hGr h 400 (hGr h 1109 l0))) h).bind fun q15 =>
    some (q15.1, q15.2)
  else
  if l1 = 4 then
    (LP_give Y l0 (hGi h 416 (hGr h 1109 l0)) h).bind fun q18 =>
    some (q18.1, q18.2)
  else
  if l1 = 5 then
    (LP_give Y l0 (hGi h 418 (hGr h 1109 l0)) h).bind fun q21 =>
    some (q21.1, q21.2)
  else
  if l1 = 6 then
    (LP_give Y l0 (hGi h 302 (hGr h 401 (hGr h 1109 l0))) h).bind fun q25 =>
    some (q25.1, q25.2)
  else
  if l1 = 7 then
    (LP_give Y l0 (hGi h 302 (hGr h 402 (hGr h 1109 l0))) h).bind fun q29 =>
    some (q29.1, q29.2)
  else
  if l1 = 8 then
    (St_countRules Y (hGr h 400 (hGr h 1109 l0)) h).bind fun q33 =>
    (LP_give Y l0 q33 h).bind fun q34 =>
    some (q34.1, q34.2)
  else
  if l1 = 9 then
    (LP_give Y l0 (hGi h 606 (hGr h 400 (hGr h 1109 l0))) h).bind fun q38 =>
    some (q38.1, q38.2)
  else
  if l1 = 10 then
    (Sh_finished Y (hGr h 1109 l0) h).bind fun q41 =>
    (LP_give Y l0 q41 h).bind fun q42 =>
    some (q42.1, q42.2)
  else
  if l1 = 11 then
    (LP_give Y l0 (hGi h 417 (hGr h 1109 l0)) h).bind fun q45 =>
    some (q45.1, q45.2)
  else
  (LP_fail Y l0 5 h).bind fun q46 =>
  some (q46.1, q46.2)
theorem ok_LP_many (Y : Ly) (l0 : Nat) (l1 : Int32) (h : Hp) (t0 : isO Y 11 l0) : AM Y 2 K_LP_many [.ref l0, .int l1] h (LP_many Y l0 l1 h) rI := by
  refine AM.of rfl (Nat.le_of_ble_eq_true rfl) ?_
  show AW Y 2 K_LP_many 0 [(0, .ref l0), (1, .int l1)] [] h (LP_many Y l0 l1 h) rI
  unfold LP_many
  refine aw_iload_n (pc := 0) d_LP_many_0 rfl 1 rfl ?_
  refine aw_cases (fun c1 => ?_) (fun c1 => ?_)
  · refine aw_tbl (pc := 1) (tgt := 64) (off := 63) d_LP_many_1 (by rw [c1]; decide) (by rw [c1]; decide) (by rw [c1]; rfl) (by decide) ?_
    refine aw_aload_n (pc := 64) d_LP_many_64 rfl 0 rfl ?_
    refine aw_aload_n (pc := 65) d_LP_many_65 rfl 0 rfl ?_
    refine gt_1109 (pc := 66) d_LP_many_66 w3_9 t0 (fun tt2 => ?_)
    refine gt_400 (pc := 69) d_LP_many_69 w2_129 tt2 (fun tt3 => ?_)
    refine gt_604 (pc := 72) d_LP_many_72 w1_189 tt3 ?_
    refine aw_cVrI (pc := 75) (ci := 11) (T := TX11) (N := 18) (As := [.int (hGi h 604 (hGr h 400 (hGr h 1109 l0)))]) (st := []) (ok_LP_give Y l0 (hGi h 604 (hGr h 400 (hGr h 1109 l0))) h t0) okV_LP_give rfl (by decide) t0 w4_88 d_LP_many_75 rfl (Nat.le_of_ble_eq_true rfl) rfl (Nat.le_of_ble_eq_true rfl) (fun q4 hq4 hTq4 => ?_)
    exact aw_ireturn (pc := 78) d_LP_many_78 rfl rfl
  refine aw_cases (fun c5 => ?_) (fun c5 => ?_)
  · refine aw_tbl (pc := 1) (tgt := 79) (off := 78) d_LP_many_1 (by rw [c5]; decide) (by rw [c5]; decide) (by rw [c5]; rfl) (by decide) ?_
    refine aw_aload_n (pc := 79) d_LP_many_79 rfl 0 rfl ?_
    refine aw_aload_n (pc := 80) d_LP_many_80 rfl 0 rfl ?_
    refine gt_1109 (pc := 81) d_LP_many_81 w3_9 t0 (fun tt6 => ?_)
    refine gt_400 (pc := 84) d_LP_many_84 w2_129 tt6 (fun tt7 => ?_)
    refine gt_605 (pc := 87) d_LP_many_87 w1_193 tt7 ?_
    refine aw_cVrI (pc := 90) (ci := 11) (T := TX11) (N := 18) (As := [.int (hGi h 605 (hGr h 400 (hGr h 1109 l0)))]) (st := []) (ok_LP_give Y l0 (hGi h 605 (hGr h 400 (hGr h 1109 l0))) h t0) okV_LP_give rfl (by decide) t0 w4_88 d_LP_many_90 rfl (Nat.le_of_ble_eq_true rfl) rfl (Nat.le_of_ble_eq_true rfl) (fun q8 hq8 hTq8 => ?_)
    exact aw_ireturn (pc := 93) d_LP_many_93 rfl rfl
  refine aw_cases (fun c9 => ?_) (fun c9 => ?_)
  · refine aw_tbl (pc := 1) (tgt := 94) (off := 93) d_LP_many_1 (by rw [c9]; decide) (by rw [c9]; decide) (by rw [c9]; rfl) (by decide) ?_
    refine aw_aload_n (pc := 94) d_LP_many_94 rfl 0 rfl ?_
    refine aw_aload_n (pc := 95) d_LP_many_95 rfl 0 rfl ?_
    refine gt_1109 (pc := 96) d_LP_many_96 w3_9 t0 (fun tt10 => ?_)
    refine gt_415 (pc := 99) d_LP_many_99 w2_161 tt10 ?_
    refine aw_cVrI (pc := 102) (ci := 11) (T := TX11) (N := 18) (As := [.int (hGi h 415 (hGr h 1109 l0))]) (st := []) (ok_LP_give Y l0 (hGi h 415 (hGr h 1109 l0)) h t0) okV_LP_give rfl (by decide) t0 w4_88 d_LP_many_102 rfl (Nat.le_of_ble_eq_true rfl) rfl (Nat.le_of_ble_eq_true rfl) (fun q11 hq11 hTq11 => ?_)
    exact aw_ireturn (pc := 105) d_LP_many_105 rfl rfl
  refine aw_cases (fun c12 => ?_) (fun c12 => ?_)
  · refine aw_tbl (pc := 1) (tgt := 106) (off := 105) d_LP_many_1 (by rw [c12]; decide) (by rw [c12]; decide) (by rw [c12]; rfl) (by decide) ?_
    refine aw_aload_n (pc := 106) d_LP_many_106 rfl 0 rfl ?_
    refine aw_aload_n (pc := 107) d_LP_many_107 rfl 0 rfl ?_
    refine gt_1109 (pc := 108) d_LP_many_108 w3_9 t0 (fun tt13 => ?_)
    refine gt_400 (pc := 111) d_LP_many_111 w2_129 tt13 (fun tt14 => ?_)
    refine gt_607 (pc := 114) d_LP_many_114 w1_199 tt14 ?_
    refine aw_cVrI (pc := 117) (ci := 11) (T := TX11) (N := 18) (As := [.int (hGi h 607 (hGr h 400 (hGr h 1109 l0)))]) (st := []) (ok_LP_give Y l0 (hGi h 607 (hGr h 400 (hGr h 1109 l0))) h t0) okV_LP_give rfl (by decide) t0 w4_88 d_LP_many_117 rfl (Nat.le_of_ble_eq_true rfl) rfl (Nat.le_of_ble_eq_true rfl) (fun q15 hq15 hTq15 => ?_)
    exact aw_ireturn (pc := 120) d_LP_many_120 rfl rfl
  refine aw_cases (fun c16 => ?_) (fun c16 => ?_)
  · refine aw_tbl (pc := 1) (tgt := 121) (off := 120) d_LP_many_1 (by rw [c16]; decide) (by rw [c16]; decide) (by rw [c16]; rfl) (by decide) ?_
    refine aw_aload_n (pc := 121) d_LP_many_121 rfl 0 rfl ?_
    refine aw_aload_n (pc := 122) d_LP_many_122 rfl 0 rfl ?_
    refine gt_1109 (pc := 123) d_LP_many_123 w3_9 t0 (fun tt17 => ?_)
    refine gt_416 (pc := 126) d_LP_many_126 w2_165 tt17 ?_
    refine aw_cVrI (pc := 129) (ci := 11) (T := TX11) (N := 18) (As := [.int (hGi h 416 (hGr h 1109 l0))]) (st := []) (ok_LP_give Y l0 (hGi h 416 (hGr h 1109 l0)) h t0) okV_LP_give rfl (by decide) t0 w4_88 d_LP_many_129 rfl (Nat.le_of_ble_eq_true rfl) rfl (Nat.le_of_ble_eq_true rfl) (fun q18 hq18 hTq18 => ?_)
    exact aw_ireturn (pc := 132) d_LP_many_132 rfl rfl
  refine aw_cases (fun c19 => ?_) (fun c19 => ?_)
  · refine aw_tbl (pc := 1) (tgt := 133) (off := 132) d_LP_many_1 (by rw [c19]; decide) (by rw [c19]; decide) (by rw [c19]; rfl) (by decide) ?_
    refine aw_aload_n (pc := 133) d_LP_many_133 rfl 0 rfl ?_
    refine aw_aload_n (pc := 134) d_LP_many_134 rfl 0 rfl ?_
    refine gt_1109 (pc := 135) d_LP_many_135 w3_9 t0 (fun tt20 => ?_)
    refine gt_418 (pc := 138) d_LP_many_138 w2_173 tt20 ?_
    refine aw_cVrI (pc := 141) (ci := 11) (T := TX11) (N := 18) (As := [.int (hGi h 418 (hGr h 1109 l0))]) (st := []) (ok_LP_give Y l0 (hGi h 418 (hGr h 1109 l0)) h t0) okV_LP_give rfl (by decide) t0 w4_88 d_LP_many_141 rfl (Nat.le_of_ble_eq_true rfl) rfl (Nat.le_of_ble_eq_true rfl) (fun q21 hq21 hTq21 => ?_)
    exact aw_ireturn (pc := 144) d_LP_many_144 rfl rfl
  refine aw_cases (fun c22 => ?_) (fun c22 => ?_)
  · refine aw_tbl (pc := 1) (tgt := 145) (off := 144) d_LP_many_1 (by rw [c22]; decide) (by rw [c22]; decide) (by rw [c22]; rfl) (by decide) ?_
    refine aw_aload_n (pc := 145) d_LP_many_145 rfl 0 rfl ?_
    refine aw_aload_n (pc := 146) d_LP_many_146 rfl 0 rfl ?_
    refine gt_1109 (pc := 147) d_LP_many_147 w3_9 t0 (fun tt23 => ?_)
    refine gt_401 (pc := 150) d_LP_many_150 w2_132 tt23 (fun tt24 => ?_)
    refine gt_302 (pc := 153) d_LP_many_153 w2_75 tt24 ?_
    refine aw_cVrI (pc := 156) (ci := 11) (T := TX11) (N := 18) (As := [.int (hGi h 302 (hGr h 401 (hGr h 1109 l0)))]) (st := []) (ok_LP_give Y l0 (hGi h 302 (hGr h 401 (hGr h 1109 l0))) h t0) okV_LP_give rfl (by decide) t0 w4_88 d_LP_many_156 rfl (Nat.le_of_ble_eq_true rfl) rfl (Nat.le_of_ble_eq_true rfl) (fun q25 hq25 hTq25 => ?_)
    exact aw_ireturn (pc := 159) d_LP_many_159 rfl rfl
  refine aw_cases (fun c26 => ?_) (fun c26 => ?_)
  · refine aw_tbl (pc := 1) (tgt := 160) (off := 159) d_LP_many_1 (by rw [c26]; decide) (by rw [c26]; decide) (by rw [c26]; rfl) (by decide) ?_
    refine aw_aload_n (pc := 160) d_LP_many_160 rfl 0 rfl ?_
    refine aw_aload_n (pc := 161) d_LP_many_161 rfl 0 rfl ?_
    refine gt_1109 (pc := 162) d_LP_many_162 w3_9 t0 (fun tt27 => ?_)
    refine gt_402 (pc := 165) d_LP_many_165 w2_135 tt27 (fun tt28 => ?_)
    refine gt_302 (pc := 168) d_LP_many_168 w2_75 tt28 ?_
    refine aw_cVrI (pc := 171) (ci := 11) (T := TX11) (N := 18) (As := [.int (hGi h 302 (hGr h 402 (hGr h 1109 l0)))]) (st := []) (ok_LP_give Y l0 (hGi h 302 (hGr h 402 (hGr h 1109 l0))) h t0) okV_LP_give rfl (by decide) t0 w4_88 d_LP_many_171 rfl (Nat.le_of_ble_eq_true rfl) rfl (Nat.le_of_ble_eq_true rfl) (fun q29 hq29 hTq29 => ?_)
    exact aw_ireturn (pc := 174) d_LP_many_174 rfl rfl
  refine aw_cases (fun c30 => ?_) (fun c30 => ?_)
  · refine aw_tbl (pc := 1) (tgt := 175) (off := 174) d_LP_many_1 (by rw [c30]; decide) (by rw [c30]; decide) (by rw [c30]; rfl) (by decide) ?_
    refine aw_aload_n (pc := 175) d_LP_many_175 rfl 0 rfl ?_
    refine aw_aload_n (pc := 176) d_LP_many_176 rfl 0 rfl ?_
    refine gt_1109 (pc := 177) d_LP_many_177 w3_9 t0 (fun tt31 => ?_)
    refine gt_400 (pc := 180) d_LP_many_180 w2_129 tt31 (fun tt32 => ?_)
    refine aw_cVpI (pc := 183) (ci := 6) (T := TX6) (N := 8) (As := []) (st := [.ref l0]) (ok_St_countRules Y (hGr h 400 (hGr h 1109 l0)) h tt32) okV_St_countRules rfl (by decide) tt32 w4_164 d_LP_many_183 rfl (Nat.le_of_ble_eq_true rfl) rfl (Nat.le_of_ble_eq_true rfl) (fun q33 hq33 hTq33 => ?_)
    refine aw_cVrI (pc := 186) (ci := 11) (T := TX11) (N := 18) (As := [.int q33]) (st := []) (ok_LP_give Y l0 q33 h t0) okV_LP_give rfl (by decide) t0 w4_88 d_LP_many_186 rfl (Nat.le_of_ble_eq_true rfl) rfl (Nat.le_of_ble_eq_true rfl) (fun q34 hq34 hTq34 => ?_)
    exact aw_ireturn (pc := 189) d_LP_many_189 rfl rfl
  refine aw_cases (fun c35 => ?_) (fun c35 => ?_)
  · refine aw_tbl (pc := 1) (tgt := 190) (off := 189) d_LP_many_1 (by rw [c35]; decide) (by rw [c35]; decide) (by rw [c35]; rfl) (by decide) ?_
    refine aw_aload_n (pc := 190) d_LP_many_190 rfl 0 rfl ?_
    refine aw_aload_n (pc := 191) d_LP_many_191 rfl 0 rfl ?_
    refine gt_1109 (pc := 192) d_LP_many_192 w3_9 t0 (fun tt36 => ?_)
    refine gt_400 (pc := 195) d_LP_many_195 w2_129 tt36 (fun tt37 => ?_)
    refine gt_606 (pc := 198) d_LP_many_198 w1_195 tt37 ?_
    refine aw_cVrI (pc := 201) (ci := 11) (T := TX11) (N := 18) (As := [.int (hGi h 606 (hGr h 400 (hGr h 1109 l0)))]) (st := []) (ok_LP_give Y l0 (hGi h 606 (hGr h 400 (hGr h 1109 l0))) h t0) okV_LP_give rfl (by decide) t0 w4_88 d_LP_many_201 rfl (Nat.le_of_ble_eq_true rfl) rfl (Nat.le_of_ble_eq_true rfl) (fun q38 hq38 hTq38 => ?_)
    exact aw_ireturn (pc := 204) d_LP_many_204 rfl rfl
  refine aw_cases (fun c39 => ?_) (fun c39 => ?_)
  · refine aw_tbl (pc := 1) (tgt := 205) (off := 204) d_LP_many_1 (by rw [c39]; decide) (by rw [c39]; decide) (by rw [c39]; rfl) (by decide) ?_
    refine aw_aload_n (pc := 205) d_LP_many_205 rfl 0 rfl ?_
    refine aw_aload_n (pc := 206) d_LP_many_206 rfl 0 rfl ?_
    refine gt_1109 (pc := 207) d_LP_many_207 w3_9 t0 (fun tt40 => ?_)
    refine aw_cVpI (pc := 210) (ci := 4) (T := TX4) (N := 19) (As := []) (st := [.ref l0]) (ok_Sh_finished Y (hGr h 1109 l0) h tt40) okV_Sh_finished rfl (by decide) tt40 w4_172 d_LP_many_210 rfl (Nat.le_of_ble_eq_true rfl) rfl (Nat.le_of_ble_eq_true rfl) (fun q41 hq41 hTq41 => ?_)
    refine aw_cVrI (pc := 213) (ci := 11) (T := TX11) (N := 18) (As := [.int q41]) (st := []) (ok_LP_give Y l0 q41 h t0) okV_LP_give rfl (by decide) t0 w4_88 d_LP_many_213 rfl (Nat.le_of_ble_eq_true rfl) rfl (Nat.le_of_ble_eq_true rfl) (fun q42 hq42 hTq42 => ?_)
    exact aw_ireturn (pc := 216) d_LP_many_216 rfl rfl
  refine aw_cases (fun c43 => ?_) (fun c43 => ?_)
  · refine aw_tbl (pc := 1) (tgt := 217) (off := 216) d_LP_many_1 (by rw [c43]; decide) (by rw [c43]; decide) (by rw [c43]; rfl) (by decide) ?_
    refine aw_aload_n (pc := 217) d_LP_many_217 rfl 0 rfl ?_
    refine aw_aload_n (pc := 218) d_LP_many_218 rfl 0 rfl ?_
    refine gt_1109 (pc := 219) d_LP_many_219 w3_9 t0 (fun tt44 => ?_)
    refine gt_417 (pc := 222) d_LP_many_222 w2_169 tt44 ?_
    refine aw_cVrI (pc := 225) (ci := 11) (T := TX11) (N := 18) (As := [.int (hGi h 417 (hGr h 1109 l0))]) (st := []) (ok_LP_give Y l0 (hGi h 417 (hGr h 1109 l0)) h t0) okV_LP_give rfl (by decide) t0 w4_88 d_LP_many_225 rfl (Nat.le_of_ble_eq_true rfl) rfl (Nat.le_of_ble_eq_true rfl) (fun q45 hq45 hTq45 => ?_)
    exact aw_ireturn (pc := 228) d_LP_many_228 rfl rfl
  refine aw_tblX (pc := 1) (tgt := 229) d_LP_many_1 (by intro k hk; match k, hk with | 0, _ => exact Or.inr (fun q => c1 (q.trans (by decide))) | 1, _ => exact Or.inr (fun q => c5 (q.trans (by decide))) | 2, _ => exact Or.inr (fun q => c9 (q.trans (by decide))) | 3, _ => exact Or.inr (fun q => c12 (q.trans (by decide))) | 4, _ => exact Or.inr (fun q => c16 (q.trans (by decide))) | 5, _ => exact Or.inr (fun q => c19 (q.trans (by decide))) | 6, _ => exact Or.inr (fun q => c22 (q.trans (by decide))) | 7, _ => exact Or.inr (fun q => c26 (q.trans (by decide))) | 8, _ => exact Or.inr (fun q => c30 (q.trans (by decide))) | 9, _ => exact Or.inr (fun q => c35 (q.trans (by decide))) | 10, _ => exact Or.inr (fun q => c39 (q.trans (by decide))) | 11, _ => exact Or.inr (fun q => c43 (q.trans (by decide))) | k + 12, hk => exact absurd hk (by show ¬ (k + 12 < 12); omega)) rfl (by decide) ?_
  refine aw_aload_n (pc := 229) d_LP_many_229 rfl 0 rfl ?_
  refine aw_iconst (pc := 230) (x := 5) d_LP_many_230 (by decide) ?_
  refine aw_cVrI (pc := 231) (ci := 11) (T := TX11) (N := 18) (As := [.int 5]) (st := []) (ok_LP_fail Y l0 5 h t0) okV_LP_fail rfl (by decide) t0 w3_114 d_LP_many_231 rfl (Nat.le_of_ble_eq_true rfl) rfl (Nat.le_of_ble_eq_true rfl) (fun q46 hq46 hTq46 => ?_)
  exact aw_ireturn (pc := 234) d_LP_many_234 rfl rfl
/-! LastPages$Lot.copyFrom(LLastPages$Lot;)V -/
theorem d_Lo_copyFrom_0 : decode prog_5_method_2_code 0 = .ok (.aload_n 0, 1) := by decide +kernel
theorem d_Lo_copyFrom_1 : decode prog_5_method_2_code 1 = .ok (.aload_n 1, 1) := by decide +kernel
theorem d_Lo_copyFrom_2 : decode prog_5_method_2_code 2 = .ok (.getfield 7, 3) := by decide +kernel
theorem d_Lo_copyFrom_5 : decode prog_5_method_2_code 5 = .ok (.aload_n 0, 1) := by decide +kernel
theorem d_Lo_copyFrom_6 : decode prog_5_method_2_code 6 = .ok (.getfield 19, 3) := by decide +kernel
theorem d_Lo_copyFrom_9 : decode prog_5_method_2_code 9 = .ok (.arraylength, 1) := by decide +kernel
theorem d_Lo_copyFrom_10 : decode prog_5_method_2_code 10 = .ok (.invokestatic 26, 3) := by decide +kernel
theorem d_Lo_copyFrom_13 : decode prog_5_method_2_code 13 = .ok (.putfield 7, 3) := by decide +kernel
theorem d_Lo_copyFrom_16 : decode prog_5_method_2_code 16 = .ok (.iconst 0, 1) := by decide +kernel
theorem d_Lo_copyFrom_17 : decode prog_5_method_2_code 17 = .ok (.istore_n 2, 1) := by decide +kernel
theorem d_Lo_copyFrom_18 : decode prog_5_method_2_code 18 = .ok (.iload_n 2, 1) := by decide +kernel
theorem d_Lo_copyFrom_19 : decode prog_5_method_2_code 19 = .ok (.aload_n 0, 1) := by decide +kernel
theorem d_Lo_copyFrom_20 : decode prog_5_method_2_code 20 = .ok (.getfield 7, 3) := by decide +kernel
theorem d_Lo_copyFrom_23 : decode prog_5_method_2_code 23 = .ok (.if_icmp .ge 51, 3) := by decide +kernel
theorem d_Lo_copyFrom_26 : decode prog_5_method_2_code 26 = .ok (.iload_n 2, 1) := by decide +kernel
theorem d_Lo_copyFrom_27 : decode prog_5_method_2_code 27 = .ok (.aload_n 1, 1) := by decide +kernel
theorem d_Lo_copyFrom_28 : decode prog_5_method_2_code 28 = .ok (.getfield 19, 3) := by decide +kernel
theorem d_Lo_copyFrom_31 : decode prog_5_method_2_code 31 = .ok (.arraylength, 1) := by decide +kernel
theorem d_Lo_copyFrom_32 : decode prog_5_method_2_code 32 = .ok (.if_icmp .ge 42, 3) := by decide +kernel
theorem d_Lo_copyFrom_35 : decode prog_5_method_2_code 35 = .ok (.iload_n 2, 1) := by decide +kernel
theorem d_Lo_copyFrom_36 : decode prog_5_method_2_code 36 = .ok (.aload_n 1, 1) := by decide +kernel
theorem d_Lo_copyFrom_37 : decode prog_5_method_2_code 37 = .ok (.getfield 23, 3) := by decide +kernel
theorem d_Lo_copyFrom_40 : decode prog_5_method_2_code 40 = .ok (.arraylength, 1) := by decide +kernel
theorem d_Lo_copyFrom_41 : decode prog_5_method_2_code 41 = .ok (.if_icmp .ge 33, 3) := by decide +kernel
theorem d_Lo_copyFrom_44 : decode prog_5_method_2_code 44 = .ok (.aload_n 0, 1) := by decide +kernel
theorem d_Lo_copyFrom_45 : decode prog_5_method_2_code 45 = .ok (.getfield 19, 3) := by decide +kernel
theorem d_Lo_copyFrom_48 : decode prog_5_method_2_code 48 = .ok (.iload_n 2, 1) := by decide +kernel
theorem d_Lo_copyFrom_49 : decode prog_5_method_2_code 49 = .ok (.aload_n 1, 1) := by decide +kernel
theorem d_Lo_copyFrom_50 : decode prog_5_method_2_code 50 = .ok (.getfield 19, 3) := by decide +kernel
theorem d_Lo_copyFrom_53 : decode prog_5_method_2_code 53 = .ok (.iload_n 2, 1) := by decide +kernel
theorem d_Lo_copyFrom_54 : decode prog_5_method_2_code 54 = .ok (.iaload, 1) := by decide +kernel
theorem d_Lo_copyFrom_55 : decode prog_5_method_2_code 55 = .ok (.iastore, 1) := by decide +kernel
theorem d_Lo_copyFrom_56 : decode prog_5_method_2_code 56 = .ok (.aload_n 0, 1) := by decide +kernel
theorem d_Lo_copyFrom_57 : decode prog_5_method_2_code 57 = .ok (.getfield 23, 3) := by decide +kernel
theorem d_Lo_copyFrom_60 : decode prog_5_method_2_code 60 = .ok (.iload_n 2, 1) := by decide +kernel
theorem d_Lo_copyFrom_61 : decode prog_5_method_2_code 61 = .ok (.aload_n 1, 1) := by decide +kernel
theorem d_Lo_copyFrom_62 : decode prog_5_method_2_code 62 = .ok (.getfield 23, 3) := by decide +kernel
theorem d_Lo_copyFrom_65 : decode prog_5_method_2_code 65 = .ok (.iload_n 2, 1) := by decide +kernel
theorem d_Lo_copyFrom_66 : decode prog_5_method_2_code 66 = .ok (.iaload, 1) := by decide +kernel
theorem d_Lo_copyFrom_67 : decode prog_5_method_2_code 67 = .ok (.iastore, 1) := by decide +kernel
theorem d_Lo_copyFrom_68 : decode prog_5_method_2_code 68 = .ok (.iinc 2 1, 3) := by decide +kernel
theorem d_Lo_copyFrom_71 : decode prog_5_method_2_code 71 = .ok (.goto (-53), 3) := by decide +kernel
theorem d_Lo_copyFrom_74 : decode prog_5_method_2_code 74 = .ok (.return_, 1) := by decide +kernel
def Lo_copyFrom_L18 (Y : Ly) (l0 : Nat) (l1 : Nat) : Nat → Int32 → Hp → Option Hp
  | 0, _, _ => none
  | F + 1, l2, h =>
    if (hGi h 302 l0) ≤ l2 then
      some h
    else
      if (Int32.ofNat (lnY Y (hGr h 300 l1))) ≤ l2 then
        some h
      else
        if (Int32.ofNat (lnY Y (hGr h 301 l1))) ≤ l2 then
          some h
        else
          if inB l2 (lnY Y (hGr h 300 l1)) = true then
            if inB l2 (lnY Y (hGr h 300 l0)) = true then
              letH (hTi h (hGr h 300 l0) (Int32.toNatClampNeg l2) (hAi h (hGr h 300 l1) (Int32.toNatClampNeg l2))) fun h12 =>
              if inB l2 (lnY Y (hGr h12 301 l1)) = true then
                if inB l2 (lnY Y (hGr h12 301 l0)) = true then
                  letH (hTi h12 (hGr h12 301 l0) (Int32.toNatClampNeg l2) (hAi h12 (hGr h12 301 l1) (Int32.toNatClampNeg l2))) fun h17 =>
                  Lo_copyFrom_L18 Y l0 l1 F (l2 + 1) h17
                else none
              else none
            else none
          else none
theorem Lo_copyFrom_L18_ok (Y : Ly) (l0 : Nat) (l1 : Nat) (tl0 : isO Y 3 l0) (tl1 : isO Y 3 l1) : ∀ (F : Nat) (l2 : Int32) (h : Hp), AW Y 1 K_Lo_copyFrom 18 [(0, .ref l0), (1, .ref l1), (2, .int l2)] [] h (Lo_copyFrom_L18 Y l0 l1 F l2 h) rV := by
  intro F
  induction F with
  | zero =>
    intro l2 h
    exact aw_none
  | succ F ih =>
    intro l2 h
    unfold Lo_copyFrom_L18
    refine aw_iload_n (pc := 18) d_Lo_copyFrom_18 rfl 2 rfl ?_
    refine aw_aload_n (pc := 19) d_Lo_copyFrom_19 rfl 0 rfl ?_
    refine gt_302 (pc := 20) d_Lo_copyFrom_20 w2_72 tl0 ?_
    refine aw_icmp_ge (pc := 23) (tgt := 74) d_Lo_copyFrom_23 (by decide) (fun c3 => ?_) (fun c3 => ?_)
    · exact aw_return (pc := 74) d_Lo_copyFrom_74 rfl rfl
    · refine aw_iload_n (pc := 26) d_Lo_copyFrom_26 rfl 2 rfl ?_
      refine aw_aload_n (pc := 27) d_Lo_copyFrom_27 rfl 1 rfl ?_
      refine gt_300 (pc := 28) d_Lo_copyFrom_28 w2_68 tl1 (fun tt4 => ?_)
      refine aw_alen20 (pc := 31) d_Lo_copyFrom_31 tt4 ?_
      refine aw_icmp_ge (pc := 32) (tgt := 74) d_Lo_copyFrom_32 (by decide) (fun c5 => ?_) (fun c5 => ?_)
      · exact aw_return (pc := 74) d_Lo_copyFrom_74 rfl rfl
      · refine aw_iload_n (pc := 35) d_Lo_copyFrom_35 rfl 2 rfl ?_
        refine aw_aload_n (pc := 36) d_Lo_copyFrom_36 rfl 1 rfl ?_
        refine gt_301 (pc := 37) d_Lo_copyFrom_37 w2_70 tl1 (fun tt6 => ?_)
        refine aw_alen20 (pc := 40) d_Lo_copyFrom_40 tt6 ?_
        refine aw_icmp_ge (pc := 41) (tgt := 74) d_Lo_copyFrom_41 (by decide) (fun c7 => ?_) (fun c7 => ?_)
        · exact aw_return (pc := 74) d_Lo_copyFrom_74 rfl rfl
        · refine aw_aload_n (pc := 44) d_Lo_copyFrom_44 rfl 0 rfl ?_
          refine gt_300 (pc := 45) d_Lo_copyFrom_45 w2_68 tl0 (fun tt8 => ?_)
          refine aw_iload_n (pc := 48) d_Lo_copyFrom_48 rfl 2 rfl ?_
          refine aw_aload_n (pc := 49) d_Lo_copyFrom_49 rfl 1 rfl ?_
          refine gt_300 (pc := 50) d_Lo_copyFrom_50 w2_68 tl1 (fun tt9 => ?_)
          refine aw_iload_n (pc := 53) d_Lo_copyFrom_53 rfl 2 rfl ?_
          refine aw_iaload (pc := 54) d_Lo_copyFrom_54 tt9 (fun c10 => ?_)
          refine aw_iastore (pc := 55) d_Lo_copyFrom_55 tt8 (fun c11 => ?_)
          refine aw_letH (fun h12 => ?_)
          refine aw_aload_n (pc := 56) d_Lo_copyFrom_56 rfl 0 rfl ?_
          refine gt_301 (pc := 57) d_Lo_copyFrom_57 w2_70 tl0 (fun tt13 => ?_)
          refine aw_iload_n (pc := 60) d_Lo_copyFrom_60 rfl 2 rfl ?_
          refine aw_aload_n (pc := 61) d_Lo_copyFrom_61 rfl 1 rfl ?_
          refine gt_301 (pc := 62) d_Lo_copyFrom_62 w2_70 tl1 (fun tt14 => ?_)
          refine aw_iload_n (pc := 65) d_Lo_copyFrom_65 rfl 2 rfl ?_
          refine aw_iaload (pc := 66) d_Lo_copyFrom_66 tt14 (fun c15 => ?_)
          refine aw_iastore (pc := 67) d_Lo_copyFrom_67 tt13 (fun c16 => ?_)
          refine aw_letH (fun h17 => ?_)
          refine aw_iinc (pc := 68) (w := l2 + 1) (lv' := [(2, .int (l2 + 1)), (0, .ref l0), (1, .ref l1)]) d_Lo_copyFrom_68 2 rfl rfl (by decide) rfl ?_
          refine aw_goto (pc := 71) (tgt := 18) d_Lo_copyFrom_71 (by decide) ?_
          exact aw_lv [1, 2, 0] rfl (ih (l2 + 1) h17)
def Lo_copyFrom (Y : Ly) (l0 : Nat) (l1 : Nat) (h : Hp) : Option Hp :=
  letH (hSi h 302 l0 (if (Int32.ofNat (lnY Y (hGr h 300 l0))) < (hGi h 302 l1) then (Int32.ofNat (lnY Y (hGr h 300 l0))) else (hGi h 302 l1))) fun h2 =>
  Lo_copyFrom_L18 Y l0 l1 FU 0 h2
theorem ok_Lo_copyFrom (Y : Ly) (l0 : Nat) (l1 : Nat) (h : Hp) (t0 : isO Y 3 l0) (t1 : isO Y 3 l1) : AM Y 1 K_Lo_copyFrom [.ref l0, .ref l1] h (Lo_copyFrom Y l0 l1 h) rV := by
  refine AM.of rfl (Nat.le_of_ble_eq_true rfl) ?_
  show AW Y 1 K_Lo_copyFrom 0 [(0, .ref l0), (1, .ref l1)] [] h (Lo_copyFrom Y l0 l1 h) rV
  unfold Lo_copyFrom
  refine aw_aload_n (pc := 0) d_Lo_copyFrom_0 rfl 0 rfl ?_
  refine aw_aload_n (pc := 1) d_Lo_copyFrom_1 rfl 1 rfl ?_
  refine gt_302 (pc := 2) d_Lo_copyFrom_2 w2_72 t1 ?_
  refine aw_aload_n (pc := 5) d_Lo_copyFrom_5 rfl 0 rfl ?_
  refine gt_300 (pc := 6) d_Lo_copyFrom_6 w2_68 t0 (fun tt1 => ?_)
  refine aw_alen20 (pc := 9) d_Lo_copyFrom_9 tt1 ?_
  refine aw_mmin (pc := 10) d_Lo_copyFrom_10 w7_7 w3_164 w1_15 w3_165 (Nat.le_of_ble_eq_true rfl) (Nat.le_of_ble_eq_true rfl) ?_
  refine pt_302 (pc := 13) d_Lo_copyFrom_13 w2_72 t0 ?_
  refine aw_letH (fun h2 => ?_)
  refine aw_iconst (pc := 16) (x := 0) d_Lo_copyFrom_16 (by decide) ?_
  refine aw_istore_n (pc := 17) (lv' := [(2, .int 0), (0, .ref l0), (1, .ref l1)]) d_Lo_copyFrom_17 rfl (by decide) rfl ?_
  exact aw_lv [1, 2, 0] rfl (Lo_copyFrom_L18_ok Y l0 l1 t0 t1 FU 0 h2)
/-! LastPages$Story.copyFrom(LLastPages$Story;)V -/
theorem d_St_copyFrom_0 : decode prog_8_method_3_code 0 = .ok (.aload_n 0, 1) := by decide +kernel
theorem d_St_copyFrom_1 : decode prog_8_method_3_code 1 = .ok (.aload_n 1, 1) := by decide +kernel
theorem d_St_copyFrom_2 : decode prog_8_method_3_code 2 = .ok (.getfield 24, 3) := by decide +kernel
theorem d_St_copyFrom_5 : decode prog_8_method_3_code 5 = .ok (.putfield 24, 3) := by decide +kernel
theorem d_St_copyFrom_8 : decode prog_8_method_3_code 8 = .ok (.aload_n 0, 1) := by decide +kernel
theorem d_St_copyFrom_9 : decode prog_8_method_3_code 9 = .ok (.aload_n 1, 1) := by decide +kernel
theorem d_St_copyFrom_10 : decode prog_8_method_3_code 10 = .ok (.getfield 28, 3) := by decide +kernel
theorem d_St_copyFrom_13 : decode prog_8_method_3_code 13 = .ok (.putfield 28, 3) := by decide +kernel
theorem d_St_copyFrom_16 : decode prog_8_method_3_code 16 = .ok (.aload_n 0, 1) := by decide +kernel
theorem d_St_copyFrom_17 : decode prog_8_method_3_code 17 = .ok (.aload_n 1, 1) := by decide +kernel
theorem d_St_copyFrom_18 : decode prog_8_method_3_code 18 = .ok (.getfield 31, 3) := by decide +kernel
theorem d_St_copyFrom_21 : decode prog_8_method_3_code 21 = .ok (.putfield 31, 3) := by decide +kernel
theorem d_St_copyFrom_24 : decode prog_8_method_3_code 24 = .ok (.aload_n 0, 1) := by decide +kernel
theorem d_St_copyFrom_25 : decode prog_8_method_3_code 25 = .ok (.aload_n 1, 1) := by decide +kernel
theorem d_St_copyFrom_26 : decode prog_8_method_3_code 26 = .ok (.getfield 34, 3) := by decide +kernel
theorem d_St_copyFrom_29 : decode prog_8_method_3_code 29 = .ok (.putfield 34, 3) := by decide +kernel
theorem d_St_copyFrom_32 : decode prog_8_method_3_code 32 = .ok (.aload_n 1, 1) := by decide +kernel
theorem d_St_copyFrom_33 : decode prog_8_method_3_code 33 = .ok (.getfield 9, 3) := by decide +kernel
theorem d_St_copyFrom_36 : decode prog_8_method_3_code 36 = .ok (.iconst 0, 1) := by decide +kernel
theorem d_St_copyFrom_37 : decode prog_8_method_3_code 37 = .ok (.aload_n 0, 1) := by decide +kernel
theorem d_St_copyFrom_38 : decode prog_8_method_3_code 38 = .ok (.getfield 9, 3) := by decide +kernel
theorem d_St_copyFrom_41 : decode prog_8_method_3_code 41 = .ok (.iconst 0, 1) := by decide +kernel
theorem d_St_copyFrom_42 : decode prog_8_method_3_code 42 = .ok (.bipush 8, 2) := by decide +kernel
theorem d_St_copyFrom_44 : decode prog_8_method_3_code 44 = .ok (.invokestatic 43, 3) := by decide +kernel
theorem d_St_copyFrom_47 : decode prog_8_method_3_code 47 = .ok (.aload_n 1, 1) := by decide +kernel
theorem d_St_copyFrom_48 : decode prog_8_method_3_code 48 = .ok (.getfield 15, 3) := by decide +kernel
theorem d_St_copyFrom_51 : decode prog_8_method_3_code 51 = .ok (.iconst 0, 1) := by decide +kernel
theorem d_St_copyFrom_52 : decode prog_8_method_3_code 52 = .ok (.aload_n 0, 1) := by decide +kernel
theorem d_St_copyFrom_53 : decode prog_8_method_3_code 53 = .ok (.getfield 15, 3) := by decide +kernel
theorem d_St_copyFrom_56 : decode prog_8_method_3_code 56 = .ok (.iconst 0, 1) := by decide +kernel
theorem d_St_copyFrom_57 : decode prog_8_method_3_code 57 = .ok (.bipush 64, 2) := by decide +kernel
theorem d_St_copyFrom_59 : decode prog_8_method_3_code 59 = .ok (.invokestatic 43, 3) := by decide +kernel
theorem d_St_copyFrom_62 : decode prog_8_method_3_code 62 = .ok (.aload_n 1, 1) := by decide +kernel
theorem d_St_copyFrom_63 : decode prog_8_method_3_code 63 = .ok (.getfield 18, 3) := by decide +kernel
theorem d_St_copyFrom_66 : decode prog_8_method_3_code 66 = .ok (.iconst 0, 1) := by decide +kernel
theorem d_St_copyFrom_67 : decode prog_8_method_3_code 67 = .ok (.aload_n 0, 1) := by decide +kernel
theorem d_St_copyFrom_68 : decode prog_8_method_3_code 68 = .ok (.getfield 18, 3) := by decide +kernel
theorem d_St_copyFrom_71 : decode prog_8_method_3_code 71 = .ok (.iconst 0, 1) := by decide +kernel
theorem d_St_copyFrom_72 : decode prog_8_method_3_code 72 = .ok (.bipush 8, 2) := by decide +kernel
theorem d_St_copyFrom_74 : decode prog_8_method_3_code 74 = .ok (.invokestatic 43, 3) := by decide +kernel
theorem d_St_copyFrom_77 : decode prog_8_method_3_code 77 = .ok (.aload_n 1, 1) := by decide +kernel
theorem d_St_copyFrom_78 : decode prog_8_method_3_code 78 = .ok (.getfield 21, 3) := by decide +kernel
theorem d_St_copyFrom_81 : decode prog_8_method_3_code 81 = .ok (.iconst 0, 1) := by decide +kernel
theorem d_St_copyFrom_82 : decode prog_8_method_3_code 82 = .ok (.aload_n 0, 1) := by decide +kernel
theorem d_St_copyFrom_83 : decode prog_8_method_3_code 83 = .ok (.getfield 21, 3) := by decide +kernel
theorem d_St_copyFrom_86 : decode prog_8_method_3_code 86 = .ok (.iconst 0, 1) := by decide +kernel
theorem d_St_copyFrom_87 : decode prog_8_method_3_code 87 = .ok (.bipush 48, 2) := by decide +kernel
theorem d_St_copyFrom_89 : decode prog_8_method_3_code 89 = .ok (.invokestatic 43, 3) := by decide +kernel
theorem d_St_copyFrom_92 : decode prog_8_method_3_code 92 = .ok (.return_, 1) := by decide +kernel
def St_copyFrom (Y : Ly) (l0 : Nat) (l1 : Nat) (h : Hp) : Option Hp :=
  letH (hSi h 604 l0 (hGi h 604 l1)) fun h1 =>
  letH (hSi h1 605 l0 (hGi h1 605 l1)) fun h2 =>
  letH (hSi h2 606 l0 (hGi h2 606 l1)) fun h3 =>
  letH (hSi h3 607 l0 (hGi h3 607 l1)) fun h4 =>
  if cpB 0 0 8 (lnY Y (hGr h4 600 l1)) (lnY Y (hGr h4 600 l0)) = true then
    letH (hCi h4 (hGr h4 600 l1) (Int32.toNatClampNeg 0) (hGr h4 600 l0) (Int32.toNatClampNeg 0) (Int32.toNatClampNeg 8)) fun h7 =>
    if cpB 0 0 64 (lnY Y (hGr h7 601 l1)) (lnY Y (hGr h7 601 l0)) = true then
      letH (hCi h7 (hGr h7 601 l1) (Int32.toNatClampNeg 0) (hGr h7 601 l0) (Int32.toNatClampNeg 0) (Int32.toNatClampNeg 64)) fun h10 =>
      if cpB 0 0 8 (lnY Y (hGr h10 602 l1)) (lnY Y (hGr h10 602 l0)) = true then
        letH (hCi h10 (hGr h10 602 l1) (Int32.toNatClampNeg 0) (hGr h10 602 l0) (Int32.toNatClampNeg 0) (Int32.toNatClampNeg 8)) fun h13 =>
        if cpB 0 0 48 (lnY Y (hGr h13 603 l1)) (lnY Y (hGr h13 603 l0)) = true then
          letH (hCi h13 (hGr h13 603 l1) (Int32.toNatClampNeg 0) (hGr h13 603 l0) (Int32.toNatClampNeg 0) (Int32.toNatClampNeg 48)) fun h16 =>
          some h16
        else none
      else none
    else none
  else none
theorem ok_St_copyFrom (Y : Ly) (l0 : Nat) (l1 : Nat) (h : Hp) (t0 : isO Y 6 l0) (t1 : isO Y 6 l1) : AM Y 1 K_St_copyFrom [.ref l0, .ref l1] h (St_copyFrom Y l0 l1 h) rV := by
  refine AM.of rfl (Nat.le_of_ble_eq_true rfl) ?_
  show AW Y 1 K_St_copyFrom 0 [(0, .ref l0), (1, .ref l1)] [] h (St_copyFrom Y l0 l1 h) rV
  unfold St_copyFrom
  refine aw_aload_n (pc := 0) d_St_copyFrom_0 rfl 0 rfl ?_
  refine aw_aload_n (pc := 1) d_St_copyFrom_1 rfl 1 rfl ?_
  refine gt_604 (pc := 2) d_St_copyFrom_2 w1_186 t1 ?_
  refine pt_604 (pc := 5) d_St_copyFrom_5 w1_186 t0 ?_
  refine aw_letH (fun h1 => ?_)
  refine aw_aload_n (pc := 8) d_St_copyFrom_8 rfl 0 rfl ?_
  refine aw_aload_n (pc := 9) d_St_copyFrom_9 rfl 1 rfl ?_
  refine gt_605 (pc := 10) d_St_copyFrom_10 w1_190 t1 ?_
  refine pt_605 (pc := 13) d_St_copyFrom_13 w1_190 t0 ?_
  refine aw_letH (fun h2 => ?_)
  refine aw_aload_n (pc := 16) d_St_copyFrom_16 rfl 0 rfl ?_
  refine aw_aload_n (pc := 17) d_St_copyFrom_17 rfl 1 rfl ?_
  refine gt_606 (pc := 18) d_St_copyFrom_18 w1_194 t1 ?_
  refine pt_606 (pc := 21) d_St_copyFrom_21 w1_194 t0 ?_
  refine aw_letH (fun h3 => ?_)
  refine aw_aload_n (pc := 24) d_St_copyFrom_24 rfl 0 rfl ?_
  refine aw_aload_n (pc := 25) d_St_copyFrom_25 rfl 1 rfl ?_
  refine gt_607 (pc := 26) d_St_copyFrom_26 w1_196 t1 ?_
  refine pt_607 (pc := 29) d_St_copyFrom_29 w1_196 t0 ?_
  refine aw_letH (fun h4 => ?_)
  refine aw_aload_n (pc := 32) d_St_copyFrom_32 rfl 1 rfl ?_
  refine gt_600 (pc := 33) d_St_copyFrom_33 w1_179 t1 (fun tt5 => ?_)
  refine aw_iconst (pc := 36) (x := 0) d_St_copyFrom_36 (by decide) ?_
  refine aw_aload_n (pc := 37) d_St_copyFrom_37 rfl 0 rfl ?_
  refine gt_600 (pc := 38) d_St_copyFrom_38 w1_179 t0 (fun tt6 => ?_)
  refine aw_iconst (pc := 41) (x := 0) d_St_copyFrom_41 (by decide) ?_
  refine aw_bipush (pc := 42) (x := 8) d_St_copyFrom_42 (by decide) ?_
  refine aw_copyi (pc := 44) d_St_copyFrom_44 w4_50 w3_129 w3_128 w1_20 tt5 tt6 (Nat.le_of_ble_eq_true rfl) (Nat.le_of_ble_eq_true rfl) ?_
  refine aw_letH (fun h7 => ?_)
  refine aw_aload_n (pc := 47) d_St_copyFrom_47 rfl 1 rfl ?_
  refine gt_601 (pc := 48) d_St_copyFrom_48 w1_181 t1 (fun tt8 => ?_)
  refine aw_iconst (pc := 51) (x := 0) d_St_copyFrom_51 (by decide) ?_
  refine aw_aload_n (pc := 52) d_St_copyFrom_52 rfl 0 rfl ?_
  refine gt_601 (pc := 53) d_St_copyFrom_53 w1_181 t0 (fun tt9 => ?_)
  refine aw_iconst (pc := 56) (x := 0) d_St_copyFrom_56 (by decide) ?_
  refine aw_bipush (pc := 57) (x := 64) d_St_copyFrom_57 (by decide) ?_
  refine aw_copyi (pc := 59) d_St_copyFrom_59 w4_50 w3_129 w3_128 w1_20 tt8 tt9 (Nat.le_of_ble_eq_true rfl) (Nat.le_of_ble_eq_true rfl) ?_
  refine aw_letH (fun h10 => ?_)
  refine aw_aload_n (pc := 62) d_St_copyFrom_62 rfl 1 rfl ?_
  refine gt_602 (pc := 63) d_St_copyFrom_63 w1_182 t1 (fun tt11 => ?_)
  refine aw_iconst (pc := 66) (x := 0) d_St_copyFrom_66 (by decide) ?_
  refine aw_aload_n (pc := 67) d_St_copyFrom_67 rfl 0 rfl ?_
  refine gt_602 (pc := 68) d_St_copyFrom_68 w1_182 t0 (fun tt12 => ?_)
  refine aw_iconst (pc := 71) (x := 0) d_St_copyFrom_71 (by decide) ?_
  refine aw_bipush (pc := 72) (x := 8) d_St_copyFrom_72 (by decide) ?_
  refine aw_copyi (pc := 74) d_St_copyFrom_74 w4_50 w3_129 w3_128 w1_20 tt11 tt12 (Nat.le_of_ble_eq_true rfl) (Nat.le_of_ble_eq_true rfl) ?_
  refine aw_letH (fun h13 => ?_)
  refine aw_aload_n (pc := 77) d_St_copyFrom_77 rfl 1 rfl ?_
  refine gt_603 (pc := 78) d_St_copyFrom_78 w1_185 t1 (fun tt14 => ?_)
  refine aw_iconst (pc := 81) (x := 0) d_St_copyFrom_81 (by decide) ?_
  refine aw_aload_n (pc := 82) d_St_copyFrom_82 rfl 0 rfl ?_
  refine gt_603 (pc := 83) d_St_copyFrom_83 w1_185 t0 (fun tt15 => ?_)
  refine aw_iconst (pc := 86) (x := 0) d_St_copyFrom_86 (by decide) ?_
  refine aw_bipush (pc := 87) (x := 48) d_St_copyFrom_87 (by decide) ?_
  refine aw_copyi (pc := 89) d_St_copyFrom_89 w4_50 w3_129 w3_128 w1_20 tt14 tt15 (Nat.le_of_ble_eq_true rfl) (Nat.le_of_ble_eq_true rfl) ?_
  refine aw_letH (fun h16 => ?_)
  exact aw_return (pc := 92) d_St_copyFrom_92 rfl rfl
/-! LastPages$Weeks.copyFrom(LLastPages$Weeks;)V -/
theorem d_We_copyFrom_0 : decode prog_11_method_3_code 0 = .ok (.aload_n 0, 1) := by decide +kernel
theorem d_We_copyFrom_1 : decode prog_11_method_3_code 1 = .ok (.aload_n 1, 1) := by decide +kernel
theorem d_We_copyFrom_2 : decode prog_11_method_3_code 2 = .ok (.getfield 27, 3) := by decide +kernel
theorem d_We_copyFrom_5 : decode prog_11_method_3_code 5 = .ok (.putfield 27, 3) := by decide +kernel
theorem d_We_copyFrom_8 : decode prog_11_method_3_code 8 = .ok (.aload_n 0, 1) := by decide +kernel
theorem d_We_copyFrom_9 : decode prog_11_method_3_code 9 = .ok (.aload_n 1, 1) := by decide +kernel
theorem d_We_copyFrom_10 : decode prog_11_method_3_code 10 = .ok (.getfield 31, 3) := by decide +kernel
theorem d_We_copyFrom_13 : decode prog_11_method_3_code 13 = .ok (.putfield 31, 3) := by decide +kernel
theorem d_We_copyFrom_16 : decode prog_11_method_3_code 16 = .ok (.aload_n 0, 1) := by decide +kernel
theorem d_We_copyFrom_17 : decode prog_11_method_3_code 17 = .ok (.aload_n 1, 1) := by decide +kernel
theorem d_We_copyFrom_18 : decode prog_11_method_3_code 18 = .ok (.getfield 35, 3) := by decide +kernel
theorem d_We_copyFrom_21 : decode prog_11_method_3_code 21 = .ok (.putfield 35, 3) := by decide +kernel
theorem d_We_copyFrom_24 : decode prog_11_method_3_code 24 = .ok (.aload_n 1, 1) := by decide +kernel
theorem d_We_copyFrom_25 : decode prog_11_method_3_code 25 = .ok (.getfield 9, 3) := by decide +kernel
theorem d_We_copyFrom_28 : decode prog_11_method_3_code 28 = .ok (.iconst 0, 1) := by decide +kernel
theorem d_We_copyFrom_29 : decode prog_11_method_3_code 29 = .ok (.aload_n 0, 1) := by decide +kernel
theorem d_We_copyFrom_30 : decode prog_11_method_3_code 30 = .ok (.getfield 9, 3) := by decide +kernel
theorem d_We_copyFrom_33 : decode prog_11_method_3_code 33 = .ok (.iconst 0, 1) := by decide +kernel
theorem d_We_copyFrom_34 : decode prog_11_method_3_code 34 = .ok (.bipush 60, 2) := by decide +kernel
theorem d_We_copyFrom_36 : decode prog_11_method_3_code 36 = .ok (.invokestatic 38, 3) := by decide +kernel
theorem d_We_copyFrom_39 : decode prog_11_method_3_code 39 = .ok (.aload_n 1, 1) := by decide +kernel
theorem d_We_copyFrom_40 : decode prog_11_method_3_code 40 = .ok (.getfield 15, 3) := by decide +kernel
theorem d_We_copyFrom_43 : decode prog_11_method_3_code 43 = .ok (.iconst 0, 1) := by decide +kernel
theorem d_We_copyFrom_44 : decode prog_11_method_3_code 44 = .ok (.aload_n 0, 1) := by decide +kernel
theorem d_We_copyFrom_45 : decode prog_11_method_3_code 45 = .ok (.getfield 15, 3) := by decide +kernel
theorem d_We_copyFrom_48 : decode prog_11_method_3_code 48 = .ok (.iconst 0, 1) := by decide +kernel
theorem d_We_copyFrom_49 : decode prog_11_method_3_code 49 = .ok (.bipush 60, 2) := by decide +kernel
theorem d_We_copyFrom_51 : decode prog_11_method_3_code 51 = .ok (.invokestatic 38, 3) := by decide +kernel
theorem d_We_copyFrom_54 : decode prog_11_method_3_code 54 = .ok (.aload_n 1, 1) := by decide +kernel
theorem d_We_copyFrom_55 : decode prog_11_method_3_code 55 = .ok (.getfield 18, 3) := by decide +kernel
theorem d_We_copyFrom_58 : decode prog_11_method_3_code 58 = .ok (.iconst 0, 1) := by decide +kernel
theorem d_We_copyFrom_59 : decode prog_11_method_3_code 59 = .ok (.aload_n 0, 1) := by decide +kernel
theorem d_We_copyFrom_60 : decode prog_11_method_3_code 60 = .ok (.getfield 18, 3) := by decide +kernel
theorem d_We_copyFrom_63 : decode prog_11_method_3_code 63 = .ok (.iconst 0, 1) := by decide +kernel
theorem d_We_copyFrom_64 : decode prog_11_method_3_code 64 = .ok (.bipush 60, 2) := by decide +kernel
theorem d_We_copyFrom_66 : decode prog_11_method_3_code 66 = .ok (.invokestatic 38, 3) := by decide +kernel
theorem d_We_copyFrom_69 : decode prog_11_method_3_code 69 = .ok (.aload_n 1, 1) := by decide +kernel
theorem d_We_copyFrom_70 : decode prog_11_method_3_code 70 = .ok (.getfield 21, 3) := by decide +kernel
theorem d_We_copyFrom_73 : decode prog_11_method_3_code 73 = .ok (.iconst 0, 1) := by decide +kernel
theorem d_We_copyFrom_74 : decode prog_11_method_3_code 74 = .ok (.aload_n 0, 1) := by decide +kernel
theorem d_We_copyFrom_75 : decode prog_11_method_3_code 75 = .ok (.getfield 21, 3) := by decide +kernel
theorem d_We_copyFrom_78 : decode prog_11_method_3_code 78 = .ok (.iconst 0, 1) := by decide +kernel
theorem d_We_copyFrom_79 : decode prog_11_method_3_code 79 = .ok (.bipush 60, 2) := by decide +kernel
theorem d_We_copyFrom_81 : decode prog_11_method_3_code 81 = .ok (.invokestatic 38, 3) := by decide +kernel
theorem d_We_copyFrom_84 : decode prog_11_method_3_code 84 = .ok (.aload_n 1, 1) := by decide +kernel
theorem d_We_copyFrom_85 : decode prog_11_method_3_code 85 = .ok (.getfield 24, 3) := by decide +kernel
theorem d_We_copyFrom_88 : decode prog_11_method_3_code 88 = .ok (.iconst 0, 1) := by decide +kernel
theorem d_We_copyFrom_89 : decode prog_11_method_3_code 89 = .ok (.aload_n 0, 1) := by decide +kernel
theorem d_We_copyFrom_90 : decode prog_11_method_3_code 90 = .ok (.getfield 24, 3) := by decide +kernel
theorem d_We_copyFrom_93 : decode prog_11_method_3_code 93 = .ok (.iconst 0, 1) := by decide +kernel
theorem d_We_copyFrom_94 : decode prog_11_method_3_code 94 = .ok (.bipush 60, 2) := by decide +kernel
theorem d_We_copyFrom_96 : decode prog_11_method_3_code 96 = .ok (.invokestatic 38, 3) := by decide +kernel
theorem d_We_copyFrom_99 : decode prog_11_method_3_code 99 = .ok (.return_, 1) := by decide +kernel
def We_copyFrom (Y : Ly) (l0 : Nat) (l1 : Nat) (h : Hp) : Option Hp :=
  letH (hSz h 905 l0 (hGz h 905 l1)) fun h1 =>
  letH (hSi h1 906 l0 (hGi h1 906 l1)) fun h2 =>
  letH (hSi h2 907 l0 (hGi h2 907 l1)) fun h3 =>
  if cpB 0 0 60 (lnY Y (hGr h3 900 l1)) (lnY Y (hGr h3 900 l0)) = true then
    letH (hCi h3 (hGr h3 900 l1) (Int32.toNatClampNeg 0) (hGr h3 900 l0) (Int32.toNatClampNeg 0) (Int32.toNatClampNeg 60)) fun h6 =>
    if cpB 0 0 60 (lnY Y (hGr h6 901 l1)) (lnY Y (hGr h6 901 l0)) = true then
      letH (hCi h6 (hGr h6 901 l1) (Int32.toNatClampNeg 0) (hGr h6 901 l0) (Int32.toNatClampNeg 0) (Int32.toNatClampNeg 60)) fun h9 =>
      if cpB 0 0 60 (lnY Y (hGr h9 902 l1)) (lnY Y (hGr h9 902 l0)) = true then
        letH (hCi h9 (hGr h9 902 l1) (Int32.toNatClampNeg 0) (hGr h9 902 l0) (Int32.toNatClampNeg 0) (Int32.toNatClampNeg 60)) fun h12 =>
        if cpB 0 0 60 (lnY Y (hGr h12 903 l1)) (lnY Y (hGr h12 903 l0)) = true then
          letH (hCi h12 (hGr h12 903 l1) (Int32.toNatClampNeg 0) (hGr h12 903 l0) (Int32.toNatClampNeg 0) (Int32.toNatClampNeg 60)) fun h15 =>
          if cpB 0 0 60 (lnY Y (hGr h15 904 l1)) (lnY Y (hGr h15 904 l0)) = true then
            letH (hCi h15 (hGr h15 904 l1) (Int32.toNatClampNeg 0) (hGr h15 904 l0) (Int32.toNatClampNeg 0) (Int32.toNatClampNeg 60)) fun h18 =>
            some h18
          else none
        else none
      else none
    else none
  else none
theorem ok_We_copyFrom (Y : Ly) (l0 : Nat) (l1 : Nat) (h : Hp) (t0 : isO Y 9 l0) (t1 : isO Y 9 l1) : AM Y 1 K_We_copyFrom [.ref l0, .ref l1] h (We_copyFrom Y l0 l1 h) rV := by
  refine AM.of rfl (Nat.le_of_ble_eq_true rfl) ?_
  show AW Y 1 K_We_copyFrom 0 [(0, .ref l0), (1, .ref l1)] [] h (We_copyFrom Y l0 l1 h) rV
  unfold We_copyFrom
  refine aw_aload_n (pc := 0) d_We_copyFrom_0 rfl 0 rfl ?_
  refine aw_aload_n (pc := 1) d_We_copyFrom_1 rfl 1 rfl ?_
  refine gt_905 (pc := 2) d_We_copyFrom_2 w2_99 t1 ?_
  refine pt_905 (pc := 5) (x := hGz h 905 l1) d_We_copyFrom_5 w2_99 t0 ?_
  refine aw_letH (fun h1 => ?_)
  refine aw_aload_n (pc := 8) d_We_copyFrom_8 rfl 0 rfl ?_
  refine aw_aload_n (pc := 9) d_We_copyFrom_9 rfl 1 rfl ?_
  refine gt_906 (pc := 10) d_We_copyFrom_10 w2_102 t1 ?_
  refine pt_906 (pc := 13) d_We_copyFrom_13 w2_102 t0 ?_
  refine aw_letH (fun h2 => ?_)
  refine aw_aload_n (pc := 16) d_We_copyFrom_16 rfl 0 rfl ?_
  refine aw_aload_n (pc := 17) d_We_copyFrom_17 rfl 1 rfl ?_
  refine gt_907 (pc := 18) d_We_copyFrom_18 w2_104 t1 ?_
  refine pt_907 (pc := 21) d_We_copyFrom_21 w2_104 t0 ?_
  refine aw_letH (fun h3 => ?_)
  refine aw_aload_n (pc := 24) d_We_copyFrom_24 rfl 1 rfl ?_
  refine gt_900 (pc := 25) d_We_copyFrom_25 w2_89 t1 (fun tt4 => ?_)
  refine aw_iconst (pc := 28) (x := 0) d_We_copyFrom_28 (by decide) ?_
  refine aw_aload_n (pc := 29) d_We_copyFrom_29 rfl 0 rfl ?_
  refine gt_900 (pc := 30) d_We_copyFrom_30 w2_89 t0 (fun tt5 => ?_)
  refine aw_iconst (pc := 33) (x := 0) d_We_copyFrom_33 (by decide) ?_
  refine aw_bipush (pc := 34) (x := 60) d_We_copyFrom_34 (by decide) ?_
  refine aw_copyi (pc := 36) d_We_copyFrom_36 w7_12 w3_129 w3_128 w1_20 tt4 tt5 (Nat.le_of_ble_eq_true rfl) (Nat.le_of_ble_eq_true rfl) ?_
  refine aw_letH (fun h6 => ?_)
  refine aw_aload_n (pc := 39) d_We_copyFrom_39 rfl 1 rfl ?_
  refine gt_901 (pc := 40) d_We_copyFrom_40 w2_91 t1 (fun tt7 => ?_)
  refine aw_iconst (pc := 43) (x := 0) d_We_copyFrom_43 (by decide) ?_
  refine aw_aload_n (pc := 44) d_We_copyFrom_44 rfl 0 rfl ?_
  refine gt_901 (pc := 45) d_We_copyFrom_45 w2_91 t0 (fun tt8 => ?_)
  refine aw_iconst (pc := 48) (x := 0) d_We_copyFrom_48 (by decide) ?_
  refine aw_bipush (pc := 49) (x := 60) d_We_copyFrom_49 (by decide) ?_
  refine aw_copyi (pc := 51) d_We_copyFrom_51 w7_12 w3_129 w3_128 w1_20 tt7 tt8 (Nat.le_of_ble_eq_true rfl) (Nat.le_of_ble_eq_true rfl) ?_
  refine aw_letH (fun h9 => ?_)
  refine aw_aload_n (pc := 54) d_We_copyFrom_54 rfl 1 rfl ?_
  refine gt_902 (pc := 55) d_We_copyFrom_55 w2_93 t1 (fun tt10 => ?_)
  refine aw_iconst (pc := 58) (x := 0) d_We_copyFrom_58 (by decide) ?_
  refine aw_aload_n (pc := 59) d_We_copyFrom_59 rfl 0 rfl ?_
  refine gt_902 (pc := 60) d_We_copyFrom_60 w2_93 t0 (fun tt11 => ?_)
  refine aw_iconst (pc := 63) (x := 0) d_We_copyFrom_63 (by decide) ?_
  refine aw_bipush (pc := 64) (x := 60) d_We_copyFrom_64 (by decide) ?_
  refine aw_copyi (pc := 66) d_We_copyFrom_66 w7_12 w3_129 w3_128 w1_20 tt10 tt11 (Nat.le_of_ble_eq_true rfl) (Nat.le_of_ble_eq_true rfl) ?_
  refine aw_letH (fun h12 => ?_)
  refine aw_aload_n (pc := 69) d_We_copyFrom_69 rfl 1 rfl ?_
  refine gt_903 (pc := 70) d_We_copyFrom_70 w2_95 t1 (fun tt13 => ?_)
  refine aw_iconst (pc := 73) (x := 0) d_We_copyFrom_73 (by decide) ?_
  refine aw_aload_n (pc := 74) d_We_copyFrom_74 rfl 0 rfl ?_
  refine gt_903 (pc := 75) d_We_copyFrom_75 w2_95 t0 (fun tt14 => ?_)
  refine aw_iconst (pc := 78) (x := 0) d_We_copyFrom_78 (by decide) ?_
  refine aw_bipush (pc := 79) (x := 60) d_We_copyFrom_79 (by decide) ?_
  refine aw_copyi (pc := 81) d_We_copyFrom_81 w7_12 w3_129 w3_128 w1_20 tt13 tt14 (Nat.le_of_ble_eq_true rfl) (Nat.le_of_ble_eq_true rfl) ?_
  refine aw_letH (fun h15 => ?_)
  refine aw_aload_n (pc := 84) d_We_copyFrom_84 rfl 1 rfl ?_
  refine gt_904 (pc := 85) d_We_copyFrom_85 w2_97 t1 (fun tt16 => ?_)
  refine aw_iconst (pc := 88) (x := 0) d_We_copyFrom_88 (by decide) ?_
  refine aw_aload_n (pc := 89) d_We_copyFrom_89 rfl 0 rfl ?_
  refine gt_904 (pc := 90) d_We_copyFrom_90 w2_97 t0 (fun tt17 => ?_)
  refine aw_iconst (pc := 93) (x := 0) d_We_copyFrom_93 (by decide) ?_
  refine aw_bipush (pc := 94) (x := 60) d_We_copyFrom_94 (by decide) ?_
  refine aw_copyi (pc := 96) d_We_copyFrom_96 w7_12 w3_129 w3_128 w1_20 tt16 tt17 (Nat.le_of_ble_eq_true rfl) (Nat.le_of_ble_eq_true rfl) ?_
  refine aw_letH (fun h18 => ?_)
  exact aw_return (pc := 99) d_We_copyFrom_99 rfl rfl
/-! LastPages$Shelf.copyFrom(LLastPages$Shelf;)V -/
theorem d_Sh_copyFrom_0 : decode prog_6_method_3_code 0 = .ok (.aload_n 0, 1) := by decide +kernel
theorem d_Sh_copyFrom_1 : decode prog_6_method_3_code 1 = .ok (.getfield 12, 3) := by decide +kernel
theorem d_Sh_copyFrom_4 : decode prog_6_method_3_code 4 = .ok (.aload_n 1, 1) := by decide +kernel
theorem d_Sh_copyFrom_5 : decode prog_6_method_3_code 5 = .ok (.getfield 12, 3) := by decide +kernel
theorem d_Sh_copyFrom_8 : decode prog_6_method_3_code 8 = .ok (.invokevirtual 92, 3) := by decide +kernel
theorem d_Sh_copyFrom_11 : decode prog_6_method_3_code 11 = .ok (.aload_n 0, 1) := by decide +kernel
theorem d_Sh_copyFrom_12 : decode prog_6_method_3_code 12 = .ok (.getfield 23, 3) := by decide +kernel
theorem d_Sh_copyFrom_15 : decode prog_6_method_3_code 15 = .ok (.aload_n 1, 1) := by decide +kernel
theorem d_Sh_copyFrom_16 : decode prog_6_method_3_code 16 = .ok (.getfield 23, 3) := by decide +kernel
theorem d_Sh_copyFrom_19 : decode prog_6_method_3_code 19 = .ok (.invokevirtual 96, 3) := by decide +kernel
theorem d_Sh_copyFrom_22 : decode prog_6_method_3_code 22 = .ok (.aload_n 0, 1) := by decide +kernel
theorem d_Sh_copyFrom_23 : decode prog_6_method_3_code 23 = .ok (.getfield 27, 3) := by decide +kernel
theorem d_Sh_copyFrom_26 : decode prog_6_method_3_code 26 = .ok (.aload_n 1, 1) := by decide +kernel
theorem d_Sh_copyFrom_27 : decode prog_6_method_3_code 27 = .ok (.getfield 27, 3) := by decide +kernel
theorem d_Sh_copyFrom_30 : decode prog_6_method_3_code 30 = .ok (.invokevirtual 96, 3) := by decide +kernel
theorem d_Sh_copyFrom_33 : decode prog_6_method_3_code 33 = .ok (.aload_n 0, 1) := by decide +kernel
theorem d_Sh_copyFrom_34 : decode prog_6_method_3_code 34 = .ok (.getfield 65, 3) := by decide +kernel
theorem d_Sh_copyFrom_37 : decode prog_6_method_3_code 37 = .ok (.aload_n 1, 1) := by decide +kernel
theorem d_Sh_copyFrom_38 : decode prog_6_method_3_code 38 = .ok (.getfield 65, 3) := by decide +kernel
theorem d_Sh_copyFrom_41 : decode prog_6_method_3_code 41 = .ok (.invokevirtual 99, 3) := by decide +kernel
theorem d_Sh_copyFrom_44 : decode prog_6_method_3_code 44 = .ok (.aload_n 1, 1) := by decide +kernel
theorem d_Sh_copyFrom_45 : decode prog_6_method_3_code 45 = .ok (.getfield 30, 3) := by decide +kernel
theorem d_Sh_copyFrom_48 : decode prog_6_method_3_code 48 = .ok (.iconst 0, 1) := by decide +kernel
theorem d_Sh_copyFrom_49 : decode prog_6_method_3_code 49 = .ok (.aload_n 0, 1) := by decide +kernel
theorem d_Sh_copyFrom_50 : decode prog_6_method_3_code 50 = .ok (.getfield 30, 3) := by decide +kernel
theorem d_Sh_copyFrom_53 : decode prog_6_method_3_code 53 = .ok (.iconst 0, 1) := by decide +kernel
theorem d_Sh_copyFrom_54 : decode prog_6_method_3_code 54 = .ok (.bipush 50, 2) := by decide +kernel
theorem d_Sh_copyFrom_56 : decode prog_6_method_3_code 56 = .ok (.invokestatic 102, 3) := by decide +kernel
theorem d_Sh_copyFrom_59 : decode prog_6_method_3_code 59 = .ok (.aload_n 1, 1) := by decide +kernel
theorem d_Sh_copyFrom_60 : decode prog_6_method_3_code 60 = .ok (.getfield 34, 3) := by decide +kernel
theorem d_Sh_copyFrom_63 : decode prog_6_method_3_code 63 = .ok (.iconst 0, 1) := by decide +kernel
theorem d_Sh_copyFrom_64 : decode prog_6_method_3_code 64 = .ok (.aload_n 0, 1) := by decide +kernel
theorem d_Sh_copyFrom_65 : decode prog_6_method_3_code 65 = .ok (.getfield 34, 3) := by decide +kernel
theorem d_Sh_copyFrom_68 : decode prog_6_method_3_code 68 = .ok (.iconst 0, 1) := by decide +kernel
theorem d_Sh_copyFrom_69 : decode prog_6_method_3_code 69 = .ok (.bipush 50, 2) := by decide +kernel
theorem d_Sh_copyFrom_71 : decode prog_6_method_3_code 71 = .ok (.invokestatic 102, 3) := by decide +kernel
theorem d_Sh_copyFrom_74 : decode prog_6_method_3_code 74 = .ok (.aload_n 1, 1) := by decide +kernel
theorem d_Sh_copyFrom_75 : decode prog_6_method_3_code 75 = .ok (.getfield 38, 3) := by decide +kernel
theorem d_Sh_copyFrom_78 : decode prog_6_method_3_code 78 = .ok (.iconst 0, 1) := by decide +kernel
theorem d_Sh_copyFrom_79 : decode prog_6_method_3_code 79 = .ok (.aload_n 0, 1) := by decide +kernel
theorem d_Sh_copyFrom_80 : decode prog_6_method_3_code 80 = .ok (.getfield 38, 3) := by decide +kernel
theorem d_Sh_copyFrom_83 : decode prog_6_method_3_code 83 = .ok (.iconst 0, 1) := by decide +kernel
theorem d_Sh_copyFrom_84 : decode prog_6_method_3_code 84 = .ok (.bipush 50, 2) := by decide +kernel
theorem d_Sh_copyFrom_86 : decode prog_6_method_3_code 86 = .ok (.invokestatic 102, 3) := by decide +kernel
theorem d_Sh_copyFrom_89 : decode prog_6_method_3_code 89 = .ok (.aload_n 1, 1) := by decide +kernel
theorem d_Sh_copyFrom_90 : decode prog_6_method_3_code 90 = .ok (.getfield 41, 3) := by decide +kernel
theorem d_Sh_copyFrom_93 : decode prog_6_method_3_code 93 = .ok (.iconst 0, 1) := by decide +kernel
theorem d_Sh_copyFrom_94 : decode prog_6_method_3_code 94 = .ok (.aload_n 0, 1) := by decide +kernel
theorem d_Sh_copyFrom_95 : decode prog_6_method_3_code 95 = .ok (.getfield 41, 3) := by decide +kernel
theorem d_Sh_copyFrom_98 : decode prog_6_method_3_code 98 = .ok (.iconst 0, 1) := by decide +kernel
theorem d_Sh_copyFrom_99 : decode prog_6_method_3_code 99 = .ok (.bipush 6, 2) := by decide +kernel
theorem d_Sh_copyFrom_101 : decode prog_6_method_3_code 101 = .ok (.invokestatic 102, 3) := by decide +kernel
theorem d_Sh_copyFrom_104 : decode prog_6_method_3_code 104 = .ok (.aload_n 1, 1) := by decide +kernel
theorem d_Sh_copyFrom_105 : decode prog_6_method_3_code 105 = .ok (.getfield 44, 3) := by decide +kernel
theorem d_Sh_copyFrom_108 : decode prog_6_method_3_code 108 = .ok (.iconst 0, 1) := by decide +kernel
theorem d_Sh_copyFrom_109 : decode prog_6_method_3_code 109 = .ok (.aload_n 0, 1) := by decide +kernel
theorem d_Sh_copyFrom_110 : decode prog_6_method_3_code 110 = .ok (.getfield 44, 3) := by decide +kernel
theorem d_Sh_copyFrom_113 : decode prog_6_method_3_code 113 = .ok (.iconst 0, 1) := by decide +kernel
theorem d_Sh_copyFrom_114 : decode prog_6_method_3_code 114 = .ok (.bipush 6, 2) := by decide +kernel
theorem d_Sh_copyFrom_116 : decode prog_6_method_3_code 116 = .ok (.invokestatic 102, 3) := by decide +kernel
theorem d_Sh_copyFrom_119 : decode prog_6_method_3_code 119 = .ok (.aload_n 1, 1) := by decide +kernel
theorem d_Sh_copyFrom_120 : decode prog_6_method_3_code 120 = .ok (.getfield 47, 3) := by decide +kernel
theorem d_Sh_copyFrom_123 : decode prog_6_method_3_code 123 = .ok (.iconst 0, 1) := by decide +kernel
theorem d_Sh_copyFrom_124 : decode prog_6_method_3_code 124 = .ok (.aload_n 0, 1) := by decide +kernel
theorem d_Sh_copyFrom_125 : decode prog_6_method_3_code 125 = .ok (.getfield 47, 3) := by decide +kernel
theorem d_Sh_copyFrom_128 : decode prog_6_method_3_code 128 = .ok (.iconst 0, 1) := by decide +kernel
theorem d_Sh_copyFrom_129 : decode prog_6_method_3_code 129 = .ok (.bipush 6, 2) := by decide +kernel
theorem d_Sh_copyFrom_131 : decode prog_6_method_3_code 131 = .ok (.invokestatic 102, 3) := by decide +kernel
theorem d_Sh_copyFrom_134 : decode prog_6_method_3_code 134 = .ok (.aload_n 1, 1) := by decide +kernel
theorem d_Sh_copyFrom_135 : decode prog_6_method_3_code 135 = .ok (.getfield 50, 3) := by decide +kernel
theorem d_Sh_copyFrom_138 : decode prog_6_method_3_code 138 = .ok (.iconst 0, 1) := by decide +kernel
theorem d_Sh_copyFrom_139 : decode prog_6_method_3_code 139 = .ok (.aload_n 0, 1) := by decide +kernel
theorem d_Sh_copyFrom_140 : decode prog_6_method_3_code 140 = .ok (.getfield 50, 3) := by decide +kernel
theorem d_Sh_copyFrom_143 : decode prog_6_method_3_code 143 = .ok (.iconst 0, 1) := by decide +kernel
theorem d_Sh_copyFrom_144 : decode prog_6_method_3_code 144 = .ok (.bipush 60, 2) := by decide +kernel
theorem d_Sh_copyFrom_146 : decode prog_6_method_3_code 146 = .ok (.invokestatic 102, 3) := by decide +kernel
theorem d_Sh_copyFrom_149 : decode prog_6_method_3_code 149 = .ok (.aload_n 1, 1) := by decide +kernel
theorem d_Sh_copyFrom_150 : decode prog_6_method_3_code 150 = .ok (.getfield 53, 3) := by decide +kernel
theorem d_Sh_copyFrom_153 : decode prog_6_method_3_code 153 = .ok (.iconst 0, 1) := by decide +kernel
theorem d_Sh_copyFrom_154 : decode prog_6_method_3_code 154 = .ok (.aload_n 0, 1) := by decide +kernel
theorem d_Sh_copyFrom_155 : decode prog_6_method_3_code 155 = .ok (.getfield 53, 3) := by decide +kernel
theorem d_Sh_copyFrom_158 : decode prog_6_method_3_code 158 = .ok (.iconst 0, 1) := by decide +kernel
theorem d_Sh_copyFrom_159 : decode prog_6_method_3_code 159 = .ok (.bipush 6, 2) := by decide +kernel
theorem d_Sh_copyFrom_161 : decode prog_6_method_3_code 161 = .ok (.invokestatic 102, 3) := by decide +kernel
theorem d_Sh_copyFrom_164 : decode prog_6_method_3_code 164 = .ok (.aload_n 1, 1) := by decide +kernel
theorem d_Sh_copyFrom_165 : decode prog_6_method_3_code 165 = .ok (.getfield 56, 3) := by decide +kernel
theorem d_Sh_copyFrom_168 : decode prog_6_method_3_code 168 = .ok (.iconst 0, 1) := by decide +kernel
theorem d_Sh_copyFrom_169 : decode prog_6_method_3_code 169 = .ok (.aload_n 0, 1) := by decide +kernel
theorem d_Sh_copyFrom_170 : decode prog_6_method_3_code 170 = .ok (.getfield 56, 3) := by decide +kernel
theorem d_Sh_copyFrom_173 : decode prog_6_method_3_code 173 = .ok (.iconst 0, 1) := by decide +kernel
theorem d_Sh_copyFrom_174 : decode prog_6_method_3_code 174 = .ok (.bipush 6, 2) := by decide +kernel
theorem d_Sh_copyFrom_176 : decode prog_6_method_3_code 176 = .ok (.invokestatic 102, 3) := by decide +kernel
theorem d_Sh_copyFrom_179 : decode prog_6_method_3_code 179 = .ok (.aload_n 1, 1) := by decide +kernel
theorem d_Sh_copyFrom_180 : decode prog_6_method_3_code 180 = .ok (.getfield 59, 3) := by decide +kernel
theorem d_Sh_copyFrom_183 : decode prog_6_method_3_code 183 = .ok (.iconst 0, 1) := by decide +kernel
theorem d_Sh_copyFrom_184 : decode prog_6_method_3_code 184 = .ok (.aload_n 0, 1) := by decide +kernel
theorem d_Sh_copyFrom_185 : decode prog_6_method_3_code 185 = .ok (.getfield 59, 3) := by decide +kernel
theorem d_Sh_copyFrom_188 : decode prog_6_method_3_code 188 = .ok (.iconst 0, 1) := by decide +kernel
theorem d_Sh_copyFrom_189 : decode prog_6_method_3_code 189 = .ok (.bipush 48, 2) := by decide +kernel
theorem d_Sh_copyFrom_191 : decode prog_6_method_3_code 191 = .ok (.invokestatic 102, 3) := by decide +kernel
theorem d_Sh_copyFrom_194 : decode prog_6_method_3_code 194 = .ok (.aload_n 0, 1) := by decide +kernel
theorem d_Sh_copyFrom_195 : decode prog_6_method_3_code 195 = .ok (.aload_n 1, 1) := by decide +kernel
theorem d_Sh_copyFrom_196 : decode prog_6_method_3_code 196 = .ok (.getfield 69, 3) := by decide +kernel
theorem d_Sh_copyFrom_199 : decode prog_6_method_3_code 199 = .ok (.putfield 69, 3) := by decide +kernel
theorem d_Sh_copyFrom_202 : decode prog_6_method_3_code 202 = .ok (.aload_n 0, 1) := by decide +kernel
theorem d_Sh_copyFrom_203 : decode prog_6_method_3_code 203 = .ok (.aload_n 1, 1) := by decide +kernel
theorem d_Sh_copyFrom_204 : decode prog_6_method_3_code 204 = .ok (.getfield 73, 3) := by decide +kernel
theorem d_Sh_copyFrom_207 : decode prog_6_method_3_code 207 = .ok (.putfield 73, 3) := by decide +kernel
theorem d_Sh_copyFrom_210 : decode prog_6_method_3_code 210 = .ok (.aload_n 0, 1) := by decide +kernel
theorem d_Sh_copyFrom_211 : decode prog_6_method_3_code 211 = .ok (.aload_n 1, 1) := by decide +kernel
theorem d_Sh_copyFrom_212 : decode prog_6_method_3_code 212 = .ok (.getfield 76, 3) := by decide +kernel
theorem d_Sh_copyFrom_215 : decode prog_6_method_3_code 215 = .ok (.putfield 76, 3) := by decide +kernel
theorem d_Sh_copyFrom_218 : decode prog_6_method_3_code 218 = .ok (.aload_n 0, 1) := by decide +kernel
theorem d_Sh_copyFrom_219 : decode prog_6_method_3_code 219 = .ok (.aload_n 1, 1) := by decide +kernel
theorem d_Sh_copyFrom_220 : decode prog_6_method_3_code 220 = .ok (.getfield 79, 3) := by decide +kernel
theorem d_Sh_copyFrom_223 : decode prog_6_method_3_code 223 = .ok (.putfield 79, 3) := by decide +kernel
theorem d_Sh_copyFrom_226 : decode prog_6_method_3_code 226 = .ok (.aload_n 0, 1) := by decide +kernel
theorem d_Sh_copyFrom_227 : decode prog_6_method_3_code 227 = .ok (.aload_n 1, 1) := by decide +kernel
theorem d_Sh_copyFrom_228 : decode prog_6_method_3_code 228 = .ok (.getfield 82, 3) := by decide +kernel
theorem d_Sh_copyFrom_231 : decode prog_6_method_3_code 231 = .ok (.putfield 82, 3) := by decide +kernel
theorem d_Sh_copyFrom_234 : decode prog_6_method_3_code 234 = .ok (.return_, 1) := by decide +kernel
def Sh_copyFrom (Y : Ly) (l0 : Nat) (l1 : Nat) (h : Hp) : Option Hp :=
  (St_copyFrom Y (hGr h 400 l0) (hGr h 400 l1) h).bind fun q3 =>
  (Lo_copyFrom Y (hGr q3 401 l0) (hGr q3 401 l1) q3).bind fun q6 =>
  (Lo_copyFrom Y (hGr q6 402 l0) (hGr q6 402 l1) q6).bind fun q9 =>
  (We_copyFrom Y (hGr q9 413 l0) (hGr q9 413 l1) q9).bind fun q12 =>
  if cpB 0 0 50 (lnY Y (hGr q12 403 l1)) (lnY Y (hGr q12 403 l0)) = true then
    letH (hCl q12 (hGr q12 403 l1) (Int32.toNatClampNeg 0) (hGr q12 403 l0) (Int32.toNatClampNeg 0) (Int32.toNatClampNeg 50)) fun h15 =>
    if cpB 0 0 50 (lnY Y (hGr h15 404 l1)) (lnY Y (hGr h15 404 l0)) = true then
      letH (hCi h15 (hGr h15 404 l1) (Int32.toNatClampNeg 0) (hGr h15 404 l0) (Int32.toNatClampNeg 0) (Int32.toNatClampNeg 50)) fun h18 =>
      if cpB 0 0 50 (lnY Y (hGr h18 405 l1)) (lnY Y (hGr h18 405 l0)) = true then
        letH (hCi h18 (hGr h18 405 l1) (Int32.toNatClampNeg 0) (hGr h18 405 l0) (Int32.toNatClampNeg 0) (Int32.toNatClampNeg 50)) fun h21 =>
        if cpB 0 0 6 (lnY Y (hGr h21 406 l1)) (lnY Y (hGr h21 406 l0)) = true then
          letH (hCi h21 (hGr h21 406 l1) (Int32.toNatClampNeg 0) (hGr h21 406 l0) (Int32.toNatClampNeg 0) (Int32.toNatClampNeg 6)) fun h24 =>
          if cpB 0 0 6 (lnY Y (hGr h24 407 l1)) (lnY Y (hGr h24 407 l0)) = true then
            letH (hCi h24 (hGr h24 407 l1) (Int32.toNatClampNeg 0) (hGr h24 407 l0) (Int32.toNatClampNeg 0) (Int32.toNatClampNeg 6)) fun h27 =>
            if cpB 0 0 6 (lnY Y (hGr h27 408 l1)) (lnY Y (hGr h27 408 l0)) = true then
              letH (hCi h27 (hGr h27 408 l1) (Int32.toNatClampNeg 0) (hGr h27 408 l0) (Int32.toNatClampNeg 0) (Int32.toNatClampNeg 6)) fun h30 =>
              if cpB 0 0 60 (lnY Y (hGr h30 409 l1)) (lnY Y (hGr h30 409 l0)) = true then
                letH (hCi h30 (hGr h30 409 l1) (Int32.toNatClampNeg 0) (hGr h30 409 l0) (Int32.toNatClampNeg 0) (Int32.toNatClampNeg 60)) fun h33 =>
                if cpB 0 0 6 (lnY Y (hGr h33 410 l1)) (lnY Y (hGr h33 410 l0)) = true then
                  letH (hCi h33 (hGr h33 410 l1) (Int32.toNatClampNeg 0) (hGr h33 410 l0) (Int32.toNatClampNeg 0) (Int32.toNatClampNeg 6)) fun h36 =>
                  if cpB 0 0 6 (lnY Y (hGr h36 411 l1)) (lnY Y (hGr h36 411 l0)) = true then
                    letH (hCi h36 (hGr h36 411 l1) (Int32.toNatClampNeg 0) (hGr h36 411 l0) (Int32.toNatClampNeg 0) (Int32.toNatClampNeg 6)) fun h39 =>
                    if cpB 0 0 48 (lnY Y (hGr h39 412 l1)) (lnY Y (hGr h39 412 l0)) = true then
                      letH (hCi h39 (hGr h39 412 l1) (Int32.toNatClampNeg 0) (hGr h39 412 l0) (Int32.toNatClampNeg 0) (Int32.toNatClampNeg 48)) fun h42 =>
                      letH (hSi h42 414 l0 (hGi h42 414 l1)) fun h43 =>
                      letH (hSi h43 415 l0 (hGi h43 415 l1)) fun h44 =>
                      letH (hSi h44 416 l0 (hGi h44 416 l1)) fun h45 =>
                      letH (hSi h45 417 l0 (hGi h45 417 l1)) fun h46 =>
                      letH (hSi h46 418 l0 (hGi h46 418 l1)) fun h47 =>
                      some h47
                    else none
                  else none
                else none
              else none
            else none
          else none
        else none
      else none
    else none
  else none
theorem ok_Sh_copyFrom (Y : Ly) (l0 : Nat) (l1 : Nat) (h : Hp) (t0 : isO Y 4 l0) (t1 : isO Y 4 l1) : AM Y 2 K_Sh_copyFrom [.ref l0, .ref l1] h (Sh_copyFrom Y l0 l1 h) rV := by
  refine AM.of rfl (Nat.le_of_ble_eq_true rfl) ?_
  show AW Y 2 K_Sh_copyFrom 0 [(0, .ref l0), (1, .ref l1)] [] h (Sh_copyFrom Y l0 l1 h) rV
  unfold Sh_copyFrom
  refine aw_aload_n (pc := 0) d_Sh_copyFrom_0 rfl 0 rfl ?_
  refine gt_400 (pc := 1) d_Sh_copyFrom_1 w2_124 t0 (fun tt1 => ?_)
  refine aw_aload_n (pc := 4) d_Sh_copyFrom_4 rfl 1 rfl ?_
  refine gt_400 (pc := 5) d_Sh_copyFrom_5 w2_124 t1 (fun tt2 => ?_)
  refine aw_cVrV (pc := 8) (ci := 6) (T := TX6) (N := 8) (As := [.ref (hGr h 400 l1)]) (st := []) (ok_St_copyFrom Y (hGr h 400 l0) (hGr h 400 l1) h tt1 tt2) okV_St_copyFrom rfl (by decide) tt1 w6_239 d_Sh_copyFrom_8 rfl (Nat.le_of_ble_eq_true rfl) rfl (Nat.le_of_ble_eq_true rfl) (fun q3 hq3 hTq3 => ?_)
  refine aw_aload_n (pc := 11) d_Sh_copyFrom_11 rfl 0 rfl ?_
  refine gt_401 (pc := 12) d_Sh_copyFrom_12 w2_130 t0 (fun tt4 => ?_)
  refine aw_aload_n (pc := 15) d_Sh_copyFrom_15 rfl 1 rfl ?_
  refine gt_401 (pc := 16) d_Sh_copyFrom_16 w2_130 t1 (fun tt5 => ?_)
  refine aw_cVrV (pc := 19) (ci := 3) (T := TX3) (N := 3) (As := [.ref (hGr q3 401 l1)]) (st := []) (ok_Lo_copyFrom Y (hGr q3 401 l0) (hGr q3 401 l1) q3 tt4 tt5) okV_Lo_copyFrom rfl (by decide) tt4 w7_3 d_Sh_copyFrom_19 rfl (Nat.le_of_ble_eq_true rfl) rfl (Nat.le_of_ble_eq_true rfl) (fun q6 hq6 hTq6 => ?_)
  refine aw_aload_n (pc := 22) d_Sh_copyFrom_22 rfl 0 rfl ?_
  refine gt_402 (pc := 23) d_Sh_copyFrom_23 w2_133 t0 (fun tt7 => ?_)
  refine aw_aload_n (pc := 26) d_Sh_copyFrom_26 rfl 1 rfl ?_
  refine gt_402 (pc := 27) d_Sh_copyFrom_27 w2_133 t1 (fun tt8 => ?_)
  refine aw_cVrV (pc := 30) (ci := 3) (T := TX3) (N := 3) (As := [.ref (hGr q6 402 l1)]) (st := []) (ok_Lo_copyFrom Y (hGr q6 402 l0) (hGr q6 402 l1) q6 tt7 tt8) okV_Lo_copyFrom rfl (by decide) tt7 w7_3 d_Sh_copyFrom_30 rfl (Nat.le_of_ble_eq_true rfl) rfl (Nat.le_of_ble_eq_true rfl) (fun q9 hq9 hTq9 => ?_)
  refine aw_aload_n (pc := 33) d_Sh_copyFrom_33 rfl 0 rfl ?_
  refine gt_413 (pc := 34) d_Sh_copyFrom_34 w2_154 t0 (fun tt10 => ?_)
  refine aw_aload_n (pc := 37) d_Sh_copyFrom_37 rfl 1 rfl ?_
  refine gt_413 (pc := 38) d_Sh_copyFrom_38 w2_154 t1 (fun tt11 => ?_)
  refine aw_cVrV (pc := 41) (ci := 9) (T := TX9) (N := 8) (As := [.ref (hGr q9 413 l1)]) (st := []) (ok_We_copyFrom Y (hGr q9 413 l0) (hGr q9 413 l1) q9 tt10 tt11) okV_We_copyFrom rfl (by decide) tt10 w7_8 d_Sh_copyFrom_41 rfl (Nat.le_of_ble_eq_true rfl) rfl (Nat.le_of_ble_eq_true rfl) (fun q12 hq12 hTq12 => ?_)
  refine aw_aload_n (pc := 44) d_Sh_copyFrom_44 rfl 1 rfl ?_
  refine gt_403 (pc := 45) d_Sh_copyFrom_45 w2_136 t1 (fun tt13 => ?_)
  refine aw_iconst (pc := 48) (x := 0) d_Sh_copyFrom_48 (by decide) ?_
  refine aw_aload_n (pc := 49) d_Sh_copyFrom_49 rfl 0 rfl ?_
  refine gt_403 (pc := 50) d_Sh_copyFrom_50 w2_136 t0 (fun tt14 => ?_)
  refine aw_iconst (pc := 53) (x := 0) d_Sh_copyFrom_53 (by decide) ?_
  refine aw_bipush (pc := 54) (x := 50) d_Sh_copyFrom_54 (by decide) ?_
  refine aw_copyl (pc := 56) d_Sh_copyFrom_56 w4_41 w3_129 w3_128 w1_20 tt13 tt14 (Nat.le_of_ble_eq_true rfl) (Nat.le_of_ble_eq_true rfl) ?_
  refine aw_letH (fun h15 => ?_)
  refine aw_aload_n (pc := 59) d_Sh_copyFrom_59 rfl 1 rfl ?_
  refine gt_404 (pc := 60) d_Sh_copyFrom_60 w2_137 t1 (fun tt16 => ?_)
  refine aw_iconst (pc := 63) (x := 0) d_Sh_copyFrom_63 (by decide) ?_
  refine aw_aload_n (pc := 64) d_Sh_copyFrom_64 rfl 0 rfl ?_
  refine gt_404 (pc := 65) d_Sh_copyFrom_65 w2_137 t0 (fun tt17 => ?_)
  refine aw_iconst (pc := 68) (x := 0) d_Sh_copyFrom_68 (by decide) ?_
  refine aw_bipush (pc := 69) (x := 50) d_Sh_copyFrom_69 (by decide) ?_
  refine aw_copyi (pc := 71) d_Sh_copyFrom_71 w4_41 w3_129 w3_128 w1_20 tt16 tt17 (Nat.le_of_ble_eq_true rfl) (Nat.le_of_ble_eq_true rfl) ?_
  refine aw_letH (fun h18 => ?_)
  refine aw_aload_n (pc := 74) d_Sh_copyFrom_74 rfl 1 rfl ?_
  refine gt_405 (pc := 75) d_Sh_copyFrom_75 w2_138 t1 (fun tt19 => ?_)
  refine aw_iconst (pc := 78) (x := 0) d_Sh_copyFrom_78 (by decide) ?_
  refine aw_aload_n (pc := 79) d_Sh_copyFrom_79 rfl 0 rfl ?_
  refine gt_405 (pc := 80) d_Sh_copyFrom_80 w2_138 t0 (fun tt20 => ?_)
  refine aw_iconst (pc := 83) (x := 0) d_Sh_copyFrom_83 (by decide) ?_
  refine aw_bipush (pc := 84) (x := 50) d_Sh_copyFrom_84 (by decide) ?_
  refine aw_copyi (pc := 86) d_Sh_copyFrom_86 w4_41 w3_129 w3_128 w1_20 tt19 tt20 (Nat.le_of_ble_eq_true rfl) (Nat.le_of_ble_eq_true rfl) ?_
  refine aw_letH (fun h21 => ?_)
  refine aw_aload_n (pc := 89) d_Sh_copyFrom_89 rfl 1 rfl ?_
  refine gt_406 (pc := 90) d_Sh_copyFrom_90 w2_139 t1 (fun tt22 => ?_)
  refine aw_iconst (pc := 93) (x := 0) d_Sh_copyFrom_93 (by decide) ?_
  refine aw_aload_n (pc := 94) d_Sh_copyFrom_94 rfl 0 rfl ?_
  refine gt_406 (pc := 95) d_Sh_copyFrom_95 w2_139 t0 (fun tt23 => ?_)
  refine aw_iconst (pc := 98) (x := 0) d_Sh_copyFrom_98 (by decide) ?_
  refine aw_bipush (pc := 99) (x := 6) d_Sh_copyFrom_99 (by decide) ?_
  refine aw_copyi (pc := 101) d_Sh_copyFrom_101 w4_41 w3_129 w3_128 w1_20 tt22 tt23 (Nat.le_of_ble_eq_true rfl) (Nat.le_of_ble_eq_true rfl) ?_
  refine aw_letH (fun h24 => ?_)
  refine aw_aload_n (pc := 104) d_Sh_copyFrom_104 rfl 1 rfl ?_
  refine gt_407 (pc := 105) d_Sh_copyFrom_105 w2_141 t1 (fun tt25 => ?_)
  refine aw_iconst (pc := 108) (x := 0) d_Sh_copyFrom_108 (by decide) ?_
  refine aw_aload_n (pc := 109) d_Sh_copyFrom_109 rfl 0 rfl ?_
  refine gt_407 (pc := 110) d_Sh_copyFrom_110 w2_141 t0 (fun tt26 => ?_)
  refine aw_iconst (pc := 113) (x := 0) d_Sh_copyFrom_113 (by decide) ?_
  refine aw_bipush (pc := 114) (x := 6) d_Sh_copyFrom_114 (by decide) ?_
  refine aw_copyi (pc := 116) d_Sh_copyFrom_116 w4_41 w3_129 w3_128 w1_20 tt25 tt26 (Nat.le_of_ble_eq_true rfl) (Nat.le_of_ble_eq_true rfl) ?_
  refine aw_letH (fun h27 => ?_)
  refine aw_aload_n (pc := 119) d_Sh_copyFrom_119 rfl 1 rfl ?_
  refine gt_408 (pc := 120) d_Sh_copyFrom_120 w2_145 t1 (fun tt28 => ?_)
  refine aw_iconst (pc := 123) (x := 0) d_Sh_copyFrom_123 (by decide) ?_
  refine aw_aload_n (pc := 124) d_Sh_copyFrom_124 rfl 0 rfl ?_
  refine gt_408 (pc := 125) d_Sh_copyFrom_125 w2_145 t0 (fun tt29 => ?_)
  refine aw_iconst (pc := 128) (x := 0) d_Sh_copyFrom_128 (by decide) ?_
  refine aw_bipush (pc := 129) (x := 6) d_Sh_copyFrom_129 (by decide) ?_
  refine aw_copyi (pc := 131) d_Sh_copyFrom_131 w4_41 w3_129 w3_128 w1_20 tt28 tt29 (Nat.le_of_ble_eq_true rfl) (Nat.le_of_ble_eq_true rfl) ?_
  refine aw_letH (fun h30 => ?_)
  refine aw_aload_n (pc := 134) d_Sh_copyFrom_134 rfl 1 rfl ?_
  refine gt_409 (pc := 135) d_Sh_copyFrom_135 w2_147 t1 (fun tt31 => ?_)
  refine aw_iconst (pc := 138) (x := 0) d_Sh_copyFrom_138 (by decide) ?_
  refine aw_aload_n (pc := 139) d_Sh_copyFrom_139 rfl 0 rfl ?_
  refine gt_409 (pc := 140) d_Sh_copyFrom_140 w2_147 t0 (fun tt32 => ?_)
  refine aw_iconst (pc := 143) (x := 0) d_Sh_copyFrom_143 (by decide) ?_
  refine aw_bipush (pc := 144) (x := 60) d_Sh_copyFrom_144 (by decide) ?_
  refine aw_copyi (pc := 146) d_Sh_copyFrom_146 w4_41 w3_129 w3_128 w1_20 tt31 tt32 (Nat.le_of_ble_eq_true rfl) (Nat.le_of_ble_eq_true rfl) ?_
  refine aw_letH (fun h33 => ?_)
  refine aw_aload_n (pc := 149) d_Sh_copyFrom_149 rfl 1 rfl ?_
  refine gt_410 (pc := 150) d_Sh_copyFrom_150 w2_148 t1 (fun tt34 => ?_)
  refine aw_iconst (pc := 153) (x := 0) d_Sh_copyFrom_153 (by decide) ?_
  refine aw_aload_n (pc := 154) d_Sh_copyFrom_154 rfl 0 rfl ?_
  refine gt_410 (pc := 155) d_Sh_copyFrom_155 w2_148 t0 (fun tt35 => ?_)
  refine aw_iconst (pc := 158) (x := 0) d_Sh_copyFrom_158 (by decide) ?_
  refine aw_bipush (pc := 159) (x := 6) d_Sh_copyFrom_159 (by decide) ?_
  refine aw_copyi (pc := 161) d_Sh_copyFrom_161 w4_41 w3_129 w3_128 w1_20 tt34 tt35 (Nat.le_of_ble_eq_true rfl) (Nat.le_of_ble_eq_true rfl) ?_
  refine aw_letH (fun h36 => ?_)
  refine aw_aload_n (pc := 164) d_Sh_copyFrom_164 rfl 1 rfl ?_
  refine gt_411 (pc := 165) d_Sh_copyFrom_165 w2_151 t1 (fun tt37 => ?_)
  refine aw_iconst (pc := 168) (x := 0) d_Sh_copyFrom_168 (by decide) ?_
  refine aw_aload_n (pc := 169) d_Sh_copyFrom_169 rfl 0 rfl ?_
  refine gt_411 (pc := 170) d_Sh_copyFrom_170 w2_151 t0 (fun tt38 => ?_)
  refine aw_iconst (pc := 173) (x := 0) d_Sh_copyFrom_173 (by decide) ?_
  refine aw_bipush (pc := 174) (x := 6) d_Sh_copyFrom_174 (by decide) ?_
  refine aw_copyi (pc := 176) d_Sh_copyFrom_176 w4_41 w3_129 w3_128 w1_20 tt37 tt38 (Nat.le_of_ble_eq_true rfl) (Nat.le_of_ble_eq_true rfl) ?_
  refine aw_letH (fun h39 => ?_)
  refine aw_aload_n (pc := 179) d_Sh_copyFrom_179 rfl 1 rfl ?_
  refine gt_412 (pc := 180) d_Sh_copyFrom_180 w2_153 t1 (fun tt40 => ?_)
  refine aw_iconst (pc := 183) (x := 0) d_Sh_copyFrom_183 (by decide) ?_
  refine aw_aload_n (pc := 184) d_Sh_copyFrom_184 rfl 0 rfl ?_
  refine gt_412 (pc := 185) d_Sh_copyFrom_185 w2_153 t0 (fun tt41 => ?_)
  refine aw_iconst (pc := 188) (x := 0) d_Sh_copyFrom_188 (by decide) ?_
  refine aw_bipush (pc := 189) (x := 48) d_Sh_copyFrom_189 (by decide) ?_
  refine aw_copyi (pc := 191) d_Sh_copyFrom_191 w4_41 w3_129 w3_128 w1_20 tt40 tt41 (Nat.le_of_ble_eq_true rfl) (Nat.le_of_ble_eq_true rfl) ?_
  refine aw_letH (fun h42 => ?_)
  refine aw_aload_n (pc := 194) d_Sh_copyFrom_194 rfl 0 rfl ?_
  refine aw_aload_n (pc := 195) d_Sh_copyFrom_195 rfl 1 rfl ?_
  refine gt_414 (pc := 196) d_Sh_copyFrom_196 w2_157 t1 ?_
  refine pt_414 (pc := 199) d_Sh_copyFrom_199 w2_157 t0 ?_
  refine aw_letH (fun h43 => ?_)
  refine aw_aload_n (pc := 202) d_Sh_copyFrom_202 rfl 0 rfl ?_
  refine aw_aload_n (pc := 203) d_Sh_copyFrom_203 rfl 1 rfl ?_
  refine gt_415 (pc := 204) d_Sh_copyFrom_204 w2_158 t1 ?_
  refine pt_415 (pc := 207) d_Sh_copyFrom_207 w2_158 t0 ?_
  refine aw_letH (fun h44 => ?_)
  refine aw_aload_n (pc := 210) d_Sh_copyFrom_210 rfl 0 rfl ?_
  refine aw_aload_n (pc := 211) d_Sh_copyFrom_211 rfl 1 rfl ?_
  refine gt_416 (pc := 212) d_Sh_copyFrom_212 w2_163 t1 ?_
  refine pt_416 (pc := 215) d_Sh_copyFrom_215 w2_163 t0 ?_
  refine aw_letH (fun h45 => ?_)
  refine aw_aload_n (pc := 218) d_Sh_copyFrom_218 rfl 0 rfl ?_
  refine aw_aload_n (pc := 219) d_Sh_copyFrom_219 rfl 1 rfl ?_
  refine gt_417 (pc := 220) d_Sh_copyFrom_220 w2_166 t1 ?_
  refine pt_417 (pc := 223) d_Sh_copyFrom_223 w2_166 t0 ?_
  refine aw_letH (fun h46 => ?_)
  refine aw_aload_n (pc := 226) d_Sh_copyFrom_226 rfl 0 rfl ?_
  refine aw_aload_n (pc := 227) d_Sh_copyFrom_227 rfl 1 rfl ?_
  refine gt_418 (pc := 228) d_Sh_copyFrom_228 w2_170 t1 ?_
  refine pt_418 (pc := 231) d_Sh_copyFrom_231 w2_170 t0 ?_
  refine aw_letH (fun h47 => ?_)
  exact aw_return (pc := 234) d_Sh_copyFrom_234 rfl rfl
/-! LastPages.mark()I -/
theorem d_LP_mark_0 : decode prog_1_method_59_code 0 = .ok (.aload_n 0, 1) := by decide +kernel
theorem d_LP_mark_1 : decode prog_1_method_59_code 1 = .ok (.aload_n 0, 1) := by decide +kernel
theorem d_LP_mark_2 : decode prog_1_method_59_code 2 = .ok (.getfield 99, 3) := by decide +kernel
theorem d_LP_mark_5 : decode prog_1_method_59_code 5 = .ok (.invokevirtual 431, 3) := by decide +kernel
theorem d_LP_mark_8 : decode prog_1_method_59_code 8 = .ok (.astore_n 1, 1) := by decide +kernel
theorem d_LP_mark_9 : decode prog_1_method_59_code 9 = .ok (.aload_n 1, 1) := by decide +kernel
theorem d_LP_mark_10 : decode prog_1_method_59_code 10 = .ok (.ifnonnull 10, 3) := by decide +kernel
theorem d_LP_mark_13 : decode prog_1_method_59_code 13 = .ok (.aload_n 0, 1) := by decide +kernel
theorem d_LP_mark_14 : decode prog_1_method_59_code 14 = .ok (.bipush 7, 2) := by decide +kernel
theorem d_LP_mark_16 : decode prog_1_method_59_code 16 = .ok (.invokevirtual 133, 3) := by decide +kernel
theorem d_LP_mark_19 : decode prog_1_method_59_code 19 = .ok (.ireturn, 1) := by decide +kernel
theorem d_LP_mark_20 : decode prog_1_method_59_code 20 = .ok (.aload_n 1, 1) := by decide +kernel
theorem d_LP_mark_21 : decode prog_1_method_59_code 21 = .ok (.aload_n 0, 1) := by decide +kernel
theorem d_LP_mark_22 : decode prog_1_method_59_code 22 = .ok (.getfield 68, 3) := by decide +kernel
theorem d_LP_mark_25 : decode prog_1_method_59_code 25 = .ok (.invokevirtual 435, 3) := by decide +kernel
theorem d_LP_mark_28 : decode prog_1_method_59_code 28 = .ok (.aload_n 0, 1) := by decide +kernel
theorem d_LP_mark_29 : decode prog_1_method_59_code 29 = .ok (.dup, 1) := by decide +kernel
theorem d_LP_mark_30 : decode prog_1_method_59_code 30 = .ok (.getfield 99, 3) := by decide +kernel
theorem d_LP_mark_33 : decode prog_1_method_59_code 33 = .ok (.iconst 1, 1) := by decide +kernel
theorem d_LP_mark_34 : decode prog_1_method_59_code 34 = .ok (.iadd, 1) := by decide +kernel
theorem d_LP_mark_35 : decode prog_1_method_59_code 35 = .ok (.putfield 99, 3) := by decide +kernel
theorem d_LP_mark_38 : decode prog_1_method_59_code 38 = .ok (.aload_n 0, 1) := by decide +kernel
theorem d_LP_mark_39 : decode prog_1_method_59_code 39 = .ok (.aload_n 0, 1) := by decide +kernel
theorem d_LP_mark_40 : decode prog_1_method_59_code 40 = .ok (.getfield 99, 3) := by decide +kernel
theorem d_LP_mark_43 : decode prog_1_method_59_code 43 = .ok (.invokevirtual 180, 3) := by decide +kernel
theorem d_LP_mark_46 : decode prog_1_method_59_code 46 = .ok (.ireturn, 1) := by decide +kernel
def LP_mark (Y : Ly) (l0 : Nat) (h : Hp) : Option (Int32 × Hp) :=
  (LP_markAt Y l0 (hGi h 1117 l0) h).bind fun q1 =>
  match q1 with
  | none =>
      (LP_fail Y l0 7 h).bind fun q5 =>
      some (q5.1, q5.2)
  | some a3 =>
      (Sh_copyFrom Y a3 (hGr h 1109 l0) h).bind fun q7 =>
      letH (hSi q7 1117 l0 ((hGi q7 1117 l0) + 1)) fun h8 =>
      (LP_give Y l0 (hGi h8 1117 l0) h8).bind fun q9 =>
      some (q9.1, q9.2)
theorem ok_LP_mark (Y : Ly) (l0 : Nat) (h : Hp) (t0 : isO Y 11 l0) : AM Y 3 K_LP_mark [.ref l0] h (LP_mark Y l0 h) rI := by
  refine AM.of rfl (Nat.le_of_ble_eq_true rfl) ?_
  show AW Y 3 K_LP_mark 0 [(0, .ref l0)] [] h (LP_mark Y l0 h) rI
  unfold LP_mark
  refine aw_aload_n (pc := 0) d_LP_mark_0 rfl 0 rfl ?_
  refine aw_aload_n (pc := 1) d_LP_mark_1 rfl 0 rfl ?_
  refine gt_1117 (pc := 2) d_LP_mark_2 w3_17 t0 ?_
  refine aw_cVpQ (pc := 5) (ci := 11) (T := TX11) (N := 18) (As := [.int (hGi h 1117 l0)]) (st := []) (ok_LP_markAt Y l0 (hGi h 1117 l0) h t0) okV_LP_markAt rfl (by decide) t0 w6_231 d_LP_mark_5 rfl (Nat.le_of_ble_eq_true rfl) rfl (Nat.le_of_ble_eq_true rfl) (fun q1 hq1 hTq1 => ?_)
  have tt2 := ty_LP_markAt t0 hTq1 hq1
  refine aw_astore_nQ (pc := 8) (lv' := [(1, va_rf q1), (0, .ref l0)]) d_LP_mark_8 rfl (by decide) rfl ?_
  refine aw_aload_nQ (pc := 9) d_LP_mark_9 rfl 0 rfl ?_
  refine aw_ifnonnullQ (pc := 10) (tgt := 20) (x := q1) d_LP_mark_10 (by decide) (fun e4 => ?_) (fun a3 e4 => ?_)
  · rw [e4]
    show AW _ _ _ _ [(1, .null), (0, .ref l0)] [] _ _ _
    refine aw_aload_n (pc := 13) d_LP_mark_13 rfl 1 rfl ?_
    refine aw_bipush (pc := 14) (x := 7) d_LP_mark_14 (by decide) ?_
    refine aw_cVrI (pc := 16) (ci := 11) (T := TX11) (N := 18) (As := [.int 7]) (st := []) (ok_LP_fail Y l0 7 h t0) okV_LP_fail rfl (by decide) t0 w3_114 d_LP_mark_16 rfl (Nat.le_of_ble_eq_true rfl) rfl (Nat.le_of_ble_eq_true rfl) (fun q5 hq5 hTq5 => ?_)
    exact aw_ireturn (pc := 19) d_LP_mark_19 rfl rfl
  · rw [e4]
    show AW _ _ _ _ [(1, .ref a3), (0, .ref l0)] [] _ _ _
    refine aw_aload_n (pc := 20) d_LP_mark_20 rfl 0 rfl ?_
    refine aw_aload_n (pc := 21) d_LP_mark_21 rfl 1 rfl ?_
    refine gt_1109 (pc := 22) d_LP_mark_22 w3_9 t0 (fun tt6 => ?_)
    refine aw_cVrV (pc := 25) (ci := 4) (T := TX4) (N := 19) (As := [.ref (hGr h 1109 l0)]) (st := []) (ok_Sh_copyFrom Y a3 (hGr h 1109 l0) h (tt2 _ e4) tt6) okV_Sh_copyFrom rfl (by decide) (tt2 _ e4) w6_235 d_LP_mark_25 rfl (Nat.le_of_ble_eq_true rfl) rfl (Nat.le_of_ble_eq_true rfl) (fun q7 hq7 hTq7 => ?_)
    refine aw_aload_n (pc := 28) d_LP_mark_28 rfl 1 rfl ?_
    refine aw_dup (pc := 29) d_LP_mark_29 rfl ?_
    refine gt_1117 (pc := 30) d_LP_mark_30 w3_17 t0 ?_
    refine aw_iconst (pc := 33) (x := 1) d_LP_mark_33 (by decide) ?_
    refine aw_iadd (pc := 34) d_LP_mark_34 ?_
    refine pt_1117 (pc := 35) d_LP_mark_35 w3_17 t0 ?_
    refine aw_letH (fun h8 => ?_)
    refine aw_aload_n (pc := 38) d_LP_mark_38 rfl 1 rfl ?_
    refine aw_aload_n (pc := 39) d_LP_mark_39 rfl 1 rfl ?_
    refine gt_1117 (pc := 40) d_LP_mark_40 w3_17 t0 ?_
    refine aw_cVrI (pc := 43) (ci := 11) (T := TX11) (N := 18) (As := [.int (hGi h8 1117 l0)]) (st := []) (ok_LP_give Y l0 (hGi h8 1117 l0) h8 t0) okV_LP_give rfl (by decide) t0 w4_88 d_LP_mark_43 rfl (Nat.le_of_ble_eq_true rfl) rfl (Nat.le_of_ble_eq_true rfl) (fun q9 hq9 hTq9 => ?_)
    exact aw_ireturn (pc := 46) d_LP_mark_46 rfl rfl
/-! LastPages.match()I -/
theorem d_LP_match_0 : decode prog_1_method_41_code 0 = .ok (.aload_n 0, 1) := by decide +kernel
theorem d_LP_match_1 : decode prog_1_method_41_code 1 = .ok (.getfield 52, 3) := by decide +kernel
theorem d_LP_match_4 : decode prog_1_method_41_code 4 = .ok (.aload_n 0, 1) := by decide +kernel
theorem d_LP_match_5 : decode prog_1_method_41_code 5 = .ok (.getfield 68, 3) := by decide +kernel
theorem d_LP_match_8 : decode prog_1_method_41_code 8 = .ok (.aload_n 0, 1) := by decide +kernel
theorem d_LP_match_9 : decode prog_1_method_41_code 9 = .ok (.getfield 45, 3) := by decide +kernel
theorem d_LP_match_12 : decode prog_1_method_41_code 12 = .ok (.invokevirtual 364, 3) := by decide +kernel
theorem d_LP_match_15 : decode prog_1_method_41_code 15 = .ok (.aload_n 0, 1) := by decide +kernel
theorem d_LP_match_16 : decode prog_1_method_41_code 16 = .ok (.aload_n 0, 1) := by decide +kernel
theorem d_LP_match_17 : decode prog_1_method_41_code 17 = .ok (.getfield 52, 3) := by decide +kernel
theorem d_LP_match_20 : decode prog_1_method_41_code 20 = .ok (.invokevirtual 373, 3) := by decide +kernel
theorem d_LP_match_23 : decode prog_1_method_41_code 23 = .ok (.invokevirtual 180, 3) := by decide +kernel
theorem d_LP_match_26 : decode prog_1_method_41_code 26 = .ok (.ireturn, 1) := by decide +kernel
def LP_match (Y : Ly) (l0 : Nat) (h : Hp) : Option (Int32 × Hp) :=
  (Fi_lookAt Y (hGr h 1106 l0) (hGr h 1109 l0) (hGr h 1105 l0) h).bind fun q4 =>
  (Fi_mostAtOnce Y (hGr q4 1106 l0) q4).bind fun q6 =>
  (LP_give Y l0 q6 q4).bind fun q7 =>
  some (q7.1, q7.2)
theorem ok_LP_match (Y : Ly) (l0 : Nat) (h : Hp) (t0 : isO Y 11 l0) : AM Y 5 K_LP_match [.ref l0] h (LP_match Y l0 h) rI := by
  refine AM.of rfl (Nat.le_of_ble_eq_true rfl) ?_
  show AW Y 5 K_LP_match 0 [(0, .ref l0)] [] h (LP_match Y l0 h) rI
  unfold LP_match
  refine aw_aload_n (pc := 0) d_LP_match_0 rfl 0 rfl ?_
  refine gt_1106 (pc := 1) d_LP_match_1 w3_6 t0 (fun tt1 => ?_)
  refine aw_aload_n (pc := 4) d_LP_match_4 rfl 0 rfl ?_
  refine gt_1109 (pc := 5) d_LP_match_5 w3_9 t0 (fun tt2 => ?_)
  refine aw_aload_n (pc := 8) d_LP_match_8 rfl 0 rfl ?_
  refine gt_1105 (pc := 9) d_LP_match_9 w3_5 t0 (fun tt3 => ?_)
  refine aw_cVrV (pc := 12) (ci := 1) (T := TX1) (N := 4) (As := [.ref (hGr h 1109 l0), .ref (hGr h 1105 l0)]) (st := []) (ok_Fi_lookAt Y (hGr h 1106 l0) (hGr h 1109 l0) (hGr h 1105 l0) h tt1 tt2 tt3) okV_Fi_lookAt rfl (by decide) tt1 w5_202 d_LP_match_12 rfl (Nat.le_of_ble_eq_true rfl) rfl (Nat.le_of_ble_eq_true rfl) (fun q4 hq4 hTq4 => ?_)
  refine aw_aload_n (pc := 15) d_LP_match_15 rfl 0 rfl ?_
  refine aw_aload_n (pc := 16) d_LP_match_16 rfl 0 rfl ?_
  refine gt_1106 (pc := 17) d_LP_match_17 w3_6 t0 (fun tt5 => ?_)
  refine aw_cVpI (pc := 20) (ci := 1) (T := TX1) (N := 4) (As := []) (st := [.ref l0]) (ok_Fi_mostAtOnce Y (hGr q4 1106 l0) q4 tt5) okV_Fi_mostAtOnce rfl (by decide) tt5 w5_227 d_LP_match_20 rfl (Nat.le_of_ble_eq_true rfl) rfl (Nat.le_of_ble_eq_true rfl) (fun q6 hq6 hTq6 => ?_)
  refine aw_cVrI (pc := 23) (ci := 11) (T := TX11) (N := 18) (As := [.int q6]) (st := []) (ok_LP_give Y l0 q6 q4 t0) okV_LP_give rfl (by decide) t0 w4_88 d_LP_match_23 rfl (Nat.le_of_ble_eq_true rfl) rfl (Nat.le_of_ble_eq_true rfl) (fun q7 hq7 hTq7 => ?_)
  exact aw_ireturn (pc := 26) d_LP_match_26 rfl rfl
/-! LastPages.may(II)I -/
theorem d_LP_may_0 : decode prog_1_method_35_code 0 = .ok (.aload_n 0, 1) := by decide +kernel
theorem d_LP_may_1 : decode prog_1_method_35_code 1 = .ok (.iload_n 1, 1) := by decide +kernel
theorem d_LP_may_2 : decode prog_1_method_35_code 2 = .ok (.iload_n 2, 1) := by decide +kernel
theorem d_LP_may_3 : decode prog_1_method_35_code 3 = .ok (.invokevirtual 329, 3) := by decide +kernel
theorem d_LP_may_6 : decode prog_1_method_35_code 6 = .ok (.istore_n 3, 1) := by decide +kernel
theorem d_LP_may_7 : decode prog_1_method_35_code 7 = .ok (.iload_n 3, 1) := by decide +kernel
theorem d_LP_may_8 : decode prog_1_method_35_code 8 = .ok (.ifCond .eq 9, 3) := by decide +kernel
theorem d_LP_may_11 : decode prog_1_method_35_code 11 = .ok (.aload_n 0, 1) := by decide +kernel
theorem d_LP_may_12 : decode prog_1_method_35_code 12 = .ok (.iload_n 3, 1) := by decide +kernel
theorem d_LP_may_13 : decode prog_1_method_35_code 13 = .ok (.invokevirtual 133, 3) := by decide +kernel
theorem d_LP_may_16 : decode prog_1_method_35_code 16 = .ok (.ireturn, 1) := by decide +kernel
theorem d_LP_may_17 : decode prog_1_method_35_code 17 = .ok (.aload_n 0, 1) := by decide +kernel
theorem d_LP_may_18 : decode prog_1_method_35_code 18 = .ok (.getfield 45, 3) := by decide +kernel
theorem d_LP_may_21 : decode prog_1_method_35_code 21 = .ok (.aload_n 0, 1) := by decide +kernel
theorem d_LP_may_22 : decode prog_1_method_35_code 22 = .ok (.getfield 68, 3) := by decide +kernel
theorem d_LP_may_25 : decode prog_1_method_35_code 25 = .ok (.iload_n 1, 1) := by decide +kernel
theorem d_LP_may_26 : decode prog_1_method_35_code 26 = .ok (.aload_n 0, 1) := by decide +kernel
theorem d_LP_may_27 : decode prog_1_method_35_code 27 = .ok (.getfield 68, 3) := by decide +kernel
theorem d_LP_may_30 : decode prog_1_method_35_code 30 = .ok (.getfield 236, 3) := by decide +kernel
theorem d_LP_may_33 : decode prog_1_method_35_code 33 = .ok (.invokevirtual 322, 3) := by decide +kernel
theorem d_LP_may_36 : decode prog_1_method_35_code 36 = .ok (.pop2, 1) := by decide +kernel
theorem d_LP_may_37 : decode prog_1_method_35_code 37 = .ok (.aload_n 0, 1) := by decide +kernel
theorem d_LP_may_38 : decode prog_1_method_35_code 38 = .ok (.getfield 45, 3) := by decide +kernel
theorem d_LP_may_41 : decode prog_1_method_35_code 41 = .ok (.invokevirtual 337, 3) := by decide +kernel
theorem d_LP_may_44 : decode prog_1_method_35_code 44 = .ok (.iconst 0, 1) := by decide +kernel
theorem d_LP_may_45 : decode prog_1_method_35_code 45 = .ok (.istore 4, 2) := by decide +kernel
theorem d_LP_may_47 : decode prog_1_method_35_code 47 = .ok (.iconst 0, 1) := by decide +kernel
theorem d_LP_may_48 : decode prog_1_method_35_code 48 = .ok (.istore 5, 2) := by decide +kernel
theorem d_LP_may_50 : decode prog_1_method_35_code 50 = .ok (.iload 5, 2) := by decide +kernel
theorem d_LP_may_52 : decode prog_1_method_35_code 52 = .ok (.aload_n 0, 1) := by decide +kernel
theorem d_LP_may_53 : decode prog_1_method_35_code 53 = .ok (.getfield 68, 3) := by decide +kernel
theorem d_LP_may_56 : decode prog_1_method_35_code 56 = .ok (.getfield 193, 3) := by decide +kernel
theorem d_LP_may_59 : decode prog_1_method_35_code 59 = .ok (.getfield 202, 3) := by decide +kernel
theorem d_LP_may_62 : decode prog_1_method_35_code 62 = .ok (.if_icmp .ge 35, 3) := by decide +kernel
theorem d_LP_may_65 : decode prog_1_method_35_code 65 = .ok (.aload_n 0, 1) := by decide +kernel
theorem d_LP_may_66 : decode prog_1_method_35_code 66 = .ok (.getfield 45, 3) := by decide +kernel
theorem d_LP_may_69 : decode prog_1_method_35_code 69 = .ok (.iload_n 2, 1) := by decide +kernel
theorem d_LP_may_70 : decode prog_1_method_35_code 70 = .ok (.iconst 1, 1) := by decide +kernel
theorem d_LP_may_71 : decode prog_1_method_35_code 71 = .ok (.isub, 1) := by decide +kernel
theorem d_LP_may_72 : decode prog_1_method_35_code 72 = .ok (.iload 5, 2) := by decide +kernel
theorem d_LP_may_74 : decode prog_1_method_35_code 74 = .ok (.invokevirtual 343, 3) := by decide +kernel
theorem d_LP_may_77 : decode prog_1_method_35_code 77 = .ok (.lconst 0, 1) := by decide +kernel
theorem d_LP_may_78 : decode prog_1_method_35_code 78 = .ok (.lcmp, 1) := by decide +kernel
theorem d_LP_may_79 : decode prog_1_method_35_code 79 = .ok (.ifCond .le 12, 3) := by decide +kernel
theorem d_LP_may_82 : decode prog_1_method_35_code 82 = .ok (.iload 4, 2) := by decide +kernel
theorem d_LP_may_84 : decode prog_1_method_35_code 84 = .ok (.iconst 1, 1) := by decide +kernel
theorem d_LP_may_85 : decode prog_1_method_35_code 85 = .ok (.iload 5, 2) := by decide +kernel
theorem d_LP_may_87 : decode prog_1_method_35_code 87 = .ok (.ishl, 1) := by decide +kernel
theorem d_LP_may_88 : decode prog_1_method_35_code 88 = .ok (.ior, 1) := by decide +kernel
theorem d_LP_may_89 : decode prog_1_method_35_code 89 = .ok (.istore 4, 2) := by decide +kernel
theorem d_LP_may_91 : decode prog_1_method_35_code 91 = .ok (.iinc 5 1, 3) := by decide +kernel
theorem d_LP_may_94 : decode prog_1_method_35_code 94 = .ok (.goto (-44), 3) := by decide +kernel
theorem d_LP_may_97 : decode prog_1_method_35_code 97 = .ok (.aload_n 0, 1) := by decide +kernel
theorem d_LP_may_98 : decode prog_1_method_35_code 98 = .ok (.iload 4, 2) := by decide +kernel
theorem d_LP_may_100 : decode prog_1_method_35_code 100 = .ok (.invokevirtual 180, 3) := by decide +kernel
theorem d_LP_may_103 : decode prog_1_method_35_code 103 = .ok (.ireturn, 1) := by decide +kernel
def LP_may_L50 (Y : Ly) (l0 : Nat) (l2 : Int32) (h : Hp) : Nat → Int32 → Int32 → Option (Int32 × Hp)
  | 0, _, _ => none
  | F + 1, l4, l5 =>
    if (hGi h 605 (hGr h 400 (hGr h 1109 l0))) ≤ l5 then
      (LP_give Y l0 l4 h).bind fun q12 =>
      some (q12.1, q12.2)
    else
      (En_countWith Y (hGr h 1105 l0) (l2 - 1) l5 h).bind fun q14 =>
      if q14 ≤ 0 then
        LP_may_L50 Y l0 l2 h F l4 (l5 + 1)
      else
        LP_may_L50 Y l0 l2 h F (l4 ||| ((1 : Int32) <<< (l5 &&& 31))) (l5 + 1)
theorem LP_may_L50_ok (Y : Ly) (l0 : Nat) (l2 : Int32) (h : Hp) (tl0 : isO Y 11 l0) : ∀ (F : Nat) (l4 : Int32) (l5 : Int32), AW Y 4 K_LP_may 50 [(0, .ref l0), (2, .int l2), (4, .int l4), (5, .int l5)] [] h (LP_may_L50 Y l0 l2 h F l4 l5) rI := by
  intro F
  induction F with
  | zero =>
    intro l4 l5
    exact aw_none
  | succ F ih =>
    intro l4 l5
    unfold LP_may_L50
    refine aw_iload (pc := 50) d_LP_may_50 3 rfl ?_
    refine aw_aload_n (pc := 52) d_LP_may_52 rfl 0 rfl ?_
    refine gt_1109 (pc := 53) d_LP_may_53 w3_9 tl0 (fun tt9 => ?_)
    refine gt_400 (pc := 56) d_LP_may_56 w2_129 tt9 (fun tt10 => ?_)
    refine gt_605 (pc := 59) d_LP_may_59 w1_193 tt10 ?_
    refine aw_icmp_ge (pc := 62) (tgt := 97) d_LP_may_62 (by decide) (fun c11 => ?_) (fun c11 => ?_)
    · refine aw_aload_n (pc := 97) d_LP_may_97 rfl 0 rfl ?_
      refine aw_iload (pc := 98) d_LP_may_98 2 rfl ?_
      refine aw_cVrI (pc := 100) (ci := 11) (T := TX11) (N := 18) (As := [.int l4]) (st := []) (ok_LP_give Y l0 l4 h tl0) okV_LP_give rfl (by decide) tl0 w4_88 d_LP_may_100 rfl (Nat.le_of_ble_eq_true rfl) rfl (Nat.le_of_ble_eq_true rfl) (fun q12 hq12 hTq12 => ?_)
      exact aw_ireturn (pc := 103) d_LP_may_103 rfl rfl
    · refine aw_aload_n (pc := 65) d_LP_may_65 rfl 0 rfl ?_
      refine gt_1105 (pc := 66) d_LP_may_66 w3_5 tl0 (fun tt13 => ?_)
      refine aw_iload_n (pc := 69) d_LP_may_69 rfl 1 rfl ?_
      refine aw_iconst (pc := 70) (x := 1) d_LP_may_70 (by decide) ?_
      refine aw_isub (pc := 71) d_LP_may_71 ?_
      refine aw_iload (pc := 72) d_LP_may_72 3 rfl ?_
      refine aw_cVpL (pc := 74) (ci := 0) (T := TX0) (N := 8) (As := [.int (l2 - 1), .int l5]) (st := []) (ok_En_countWith Y (hGr h 1105 l0) (l2 - 1) l5 h tt13) okV_En_countWith rfl (by decide) tt13 w5_164 d_LP_may_74 rfl (Nat.le_of_ble_eq_true rfl) rfl (Nat.le_of_ble_eq_true rfl) (fun q14 hq14 hTq14 => ?_)
      refine aw_lconst (pc := 77) (x := 0) d_LP_may_77 (by decide) ?_
      refine aw_lcmp_le (pc := 78) (tgt := 91) d_LP_may_78 d_LP_may_79 (by decide) (fun c15 => ?_) (fun c15 => ?_)
      · refine aw_iinc (pc := 91) (w := l5 + 1) (lv' := [(5, .int (l5 + 1)), (0, .ref l0), (2, .int l2), (4, .int l4)]) d_LP_may_91 3 rfl rfl (by decide) rfl ?_
        refine aw_goto (pc := 94) (tgt := 50) d_LP_may_94 (by decide) ?_
        exact aw_lv [1, 2, 3, 0] rfl (ih l4 (l5 + 1))
      · refine aw_iload (pc := 82) d_LP_may_82 2 rfl ?_
        refine aw_iconst (pc := 84) (x := 1) d_LP_may_84 (by decide) ?_
        refine aw_iload (pc := 85) d_LP_may_85 3 rfl ?_
        refine aw_ishl (pc := 87) d_LP_may_87 ?_
        refine aw_ior (pc := 88) d_LP_may_88 ?_
        refine aw_istore (pc := 89) (lv' := [(4, .int (l4 ||| ((1 : Int32) <<< (l5 &&& 31)))), (0, .ref l0), (2, .int l2), (5, .int l5)]) d_LP_may_89 (by decide) rfl ?_
        refine aw_iinc (pc := 91) (w := l5 + 1) (lv' := [(5, .int (l5 + 1)), (4, .int (l4 ||| ((1 : Int32) <<< (l5 &&& 31)))), (0, .ref l0), (2, .int l2)]) d_LP_may_91 3 rfl rfl (by decide) rfl ?_
        refine aw_goto (pc := 94) (tgt := 50) d_LP_may_94 (by decide) ?_
        exact aw_lv [2, 3, 1, 0] rfl (ih (l4 ||| ((1 : Int32) <<< (l5 &&& 31))) (l5 + 1))
def LP_may (Y : Ly) (l0 : Nat) (l1 : Int32) (l2 : Int32) (h : Hp) : Option (Int32 × Hp) :=
  (LP_whyNoMissingPlace Y l0 l1 l2 h).bind fun q1 =>
  if q1 = 0 then
    (En_countOf Y (hGr h 1105 l0) (hGr h 1109 l0) l1 (hGi h 417 (hGr h 1109 l0)) h).bind fun q6 =>
    (En_countBefore Y (hGr q6.2 1105 l0) q6.2).bind fun q8 =>
    LP_may_L50 Y l0 l2 q8 FU 0 0
  else
    (LP_fail Y l0 q1 h).bind fun q16 =>
    some (q16.1, q16.2)
theorem ok_LP_may (Y : Ly) (l0 : Nat) (l1 : Int32) (l2 : Int32) (h : Hp) (t0 : isO Y 11 l0) : AM Y 4 K_LP_may [.ref l0, .int l1, .int l2] h (LP_may Y l0 l1 l2 h) rI := by
  refine AM.of rfl (Nat.le_of_ble_eq_true rfl) ?_
  show AW Y 4 K_LP_may 0 [(0, .ref l0), (1, .int l1), (2, .int l2)] [] h (LP_may Y l0 l1 l2 h) rI
  unfold LP_may
  refine aw_aload_n (pc := 0) d_LP_may_0 rfl 0 rfl ?_
  refine aw_iload_n (pc := 1) d_LP_may_1 rfl 1 rfl ?_
  refine aw_iload_n (pc := 2) d_LP_may_2 rfl 2 rfl ?_
  refine aw_cVpI (pc := 3) (ci := 11) (T := TX11) (N := 18) (As := [.int l1, .int l2]) (st := []) (ok_LP_whyNoMissingPlace Y l0 l1 l2 h t0) okV_LP_whyNoMissingPlace rfl (by decide) t0 w5_127 d_LP_may_3 rfl (Nat.le_of_ble_eq_true rfl) rfl (Nat.le_of_ble_eq_true rfl) (fun q1 hq1 hTq1 => ?_)
  refine aw_istore_n (pc := 6) (lv' := [(3, .int q1), (0, .ref l0), (1, .int l1), (2, .int l2)]) d_LP_may_6 rfl (by decide) rfl ?_
  refine aw_iload_n (pc := 7) d_LP_may_7 rfl 0 rfl ?_
  refine aw_if_eq (pc := 8) (tgt := 17) d_LP_may_8 (by decide) (fun c2 => ?_) (fun c2 => ?_)
  · refine aw_aload_n (pc := 17) d_LP_may_17 rfl 1 rfl ?_
    refine gt_1105 (pc := 18) d_LP_may_18 w3_5 t0 (fun tt3 => ?_)
    refine aw_aload_n (pc := 21) d_LP_may_21 rfl 1 rfl ?_
    refine gt_1109 (pc := 22) d_LP_may_22 w3_9 t0 (fun tt4 => ?_)
    refine aw_iload_n (pc := 25) d_LP_may_25 rfl 2 rfl ?_
    refine aw_aload_n (pc := 26) d_LP_may_26 rfl 1 rfl ?_
    refine gt_1109 (pc := 27) d_LP_may_27 w3_9 t0 (fun tt5 => ?_)
    refine gt_417 (pc := 30) d_LP_may_30 w2_169 tt5 ?_
    refine aw_cVrL (pc := 33) (ci := 0) (T := TX0) (N := 8) (As := [.ref (hGr h 1109 l0), .int l1, .int (hGi h 417 (hGr h 1109 l0))]) (st := []) (ok_En_countOf Y (hGr h 1105 l0) (hGr h 1109 l0) l1 (hGi h 417 (hGr h 1109 l0)) h tt3 tt4) okV_En_countOf rfl (by decide) tt3 w5_98 d_LP_may_33 rfl (Nat.le_of_ble_eq_true rfl) rfl (Nat.le_of_ble_eq_true rfl) (fun q6 hq6 hTq6 => ?_)
    refine aw_pop2_2 (pc := 36) d_LP_may_36 rfl ?_
    refine aw_aload_n (pc := 37) d_LP_may_37 rfl 1 rfl ?_
    refine gt_1105 (pc := 38) d_LP_may_38 w3_5 t0 (fun tt7 => ?_)
    refine aw_cVrV (pc := 41) (ci := 0) (T := TX0) (N := 8) (As := []) (st := []) (ok_En_countBefore Y (hGr q6.2 1105 l0) q6.2 tt7) okV_En_countBefore rfl (by decide) tt7 w5_140 d_LP_may_41 rfl (Nat.le_of_ble_eq_true rfl) rfl (Nat.le_of_ble_eq_true rfl) (fun q8 hq8 hTq8 => ?_)
    refine aw_iconst (pc := 44) (x := 0) d_LP_may_44 (by decide) ?_
    refine aw_istore (pc := 45) (lv' := [(4, .int 0), (3, .int q1), (0, .ref l0), (1, .int l1), (2, .int l2)]) d_LP_may_45 (by decide) rfl ?_
    refine aw_iconst (pc := 47) (x := 0) d_LP_may_47 (by decide) ?_
    refine aw_istore (pc := 48) (lv' := [(5, .int 0), (4, .int 0), (3, .int q1), (0, .ref l0), (1, .int l1), (2, .int l2)]) d_LP_may_48 (by decide) rfl ?_
    exact aw_lv [3, 5, 1, 0] rfl (LP_may_L50_ok Y l0 l2 q8 t0 FU 0 0)
  · refine aw_aload_n (pc := 11) d_LP_may_11 rfl 1 rfl ?_
    refine aw_iload_n (pc := 12) d_LP_may_12 rfl 0 rfl ?_
    refine aw_cVrI (pc := 13) (ci := 11) (T := TX11) (N := 18) (As := [.int q1]) (st := []) (ok_LP_fail Y l0 q1 h t0) okV_LP_fail rfl (by decide) t0 w3_114 d_LP_may_13 rfl (Nat.le_of_ble_eq_true rfl) rfl (Nat.le_of_ble_eq_true rfl) (fun q16 hq16 hTq16 => ?_)
    exact aw_ireturn (pc := 16) d_LP_may_16 rfl rfl
/-! LastPages$Life.keep(LLastPages$Shelf;)V -/
theorem d_Li_keep_0 : decode prog_4_method_2_code 0 = .ok (.aload_n 1, 1) := by decide +kernel
theorem d_Li_keep_1 : decode prog_4_method_2_code 1 = .ok (.getfield 34, 3) := by decide +kernel
theorem d_Li_keep_4 : decode prog_4_method_2_code 4 = .ok (.iconst 0, 1) := by decide +kernel
theorem d_Li_keep_5 : decode prog_4_method_2_code 5 = .ok (.aload_n 0, 1) := by decide +kernel
theorem d_Li_keep_6 : decode prog_4_method_2_code 6 = .ok (.getfield 21, 3) := by decide +kernel
theorem d_Li_keep_9 : decode prog_4_method_2_code 9 = .ok (.iconst 0, 1) := by decide +kernel
theorem d_Li_keep_10 : decode prog_4_method_2_code 10 = .ok (.bipush 6, 2) := by decide +kernel
theorem d_Li_keep_12 : decode prog_4_method_2_code 12 = .ok (.invokestatic 39, 3) := by decide +kernel
theorem d_Li_keep_15 : decode prog_4_method_2_code 15 = .ok (.aload_n 0, 1) := by decide +kernel
theorem d_Li_keep_16 : decode prog_4_method_2_code 16 = .ok (.aload_n 1, 1) := by decide +kernel
theorem d_Li_keep_17 : decode prog_4_method_2_code 17 = .ok (.getfield 45, 3) := by decide +kernel
theorem d_Li_keep_20 : decode prog_4_method_2_code 20 = .ok (.putfield 24, 3) := by decide +kernel
theorem d_Li_keep_23 : decode prog_4_method_2_code 23 = .ok (.return_, 1) := by decide +kernel
def Li_keep (Y : Ly) (l0 : Nat) (l1 : Nat) (h : Hp) : Option Hp :=
  if cpB 0 0 6 (lnY Y (hGr h 410 l1)) (lnY Y (hGr h 203 l0)) = true then
    letH (hCi h (hGr h 410 l1) (Int32.toNatClampNeg 0) (hGr h 203 l0) (Int32.toNatClampNeg 0) (Int32.toNatClampNeg 6)) fun h3 =>
    letH (hSi h3 204 l0 (hGi h3 417 l1)) fun h4 =>
    some h4
  else none
theorem ok_Li_keep (Y : Ly) (l0 : Nat) (l1 : Nat) (h : Hp) (t0 : isO Y 2 l0) (t1 : isO Y 4 l1) : AM Y 1 K_Li_keep [.ref l0, .ref l1] h (Li_keep Y l0 l1 h) rV := by
  refine AM.of rfl (Nat.le_of_ble_eq_true rfl) ?_
  show AW Y 1 K_Li_keep 0 [(0, .ref l0), (1, .ref l1)] [] h (Li_keep Y l0 l1 h) rV
  unfold Li_keep
  refine aw_aload_n (pc := 0) d_Li_keep_0 rfl 1 rfl ?_
  refine gt_410 (pc := 1) d_Li_keep_1 w2_149 t1 (fun tt1 => ?_)
  refine aw_iconst (pc := 4) (x := 0) d_Li_keep_4 (by decide) ?_
  refine aw_aload_n (pc := 5) d_Li_keep_5 rfl 0 rfl ?_
  refine gt_203 (pc := 6) d_Li_keep_6 w2_32 t0 (fun tt2 => ?_)
  refine aw_iconst (pc := 9) (x := 0) d_Li_keep_9 (by decide) ?_
  refine aw_bipush (pc := 10) (x := 6) d_Li_keep_10 (by decide) ?_
  refine aw_copyi (pc := 12) d_Li_keep_12 w6_222 w3_129 w3_128 w1_20 tt1 tt2 (Nat.le_of_ble_eq_true rfl) (Nat.le_of_ble_eq_true rfl) ?_
  refine aw_letH (fun h3 => ?_)
  refine aw_aload_n (pc := 15) d_Li_keep_15 rfl 0 rfl ?_
  refine aw_aload_n (pc := 16) d_Li_keep_16 rfl 1 rfl ?_
  refine gt_417 (pc := 17) d_Li_keep_17 w2_167 t1 ?_
  refine pt_204 (pc := 20) d_Li_keep_20 w2_33 t0 ?_
  refine aw_letH (fun h4 => ?_)
  exact aw_return (pc := 23) d_Li_keep_23 rfl rfl
/-! LastPages$Life.restore(LLastPages$Shelf;)V -/
theorem d_Li_restore_0 : decode prog_4_method_3_code 0 = .ok (.aload_n 0, 1) := by decide +kernel
theorem d_Li_restore_1 : decode prog_4_method_3_code 1 = .ok (.getfield 21, 3) := by decide +kernel
theorem d_Li_restore_4 : decode prog_4_method_3_code 4 = .ok (.iconst 0, 1) := by decide +kernel
theorem d_Li_restore_5 : decode prog_4_method_3_code 5 = .ok (.aload_n 1, 1) := by decide +kernel
theorem d_Li_restore_6 : decode prog_4_method_3_code 6 = .ok (.getfield 34, 3) := by decide +kernel
theorem d_Li_restore_9 : decode prog_4_method_3_code 9 = .ok (.iconst 0, 1) := by decide +kernel
theorem d_Li_restore_10 : decode prog_4_method_3_code 10 = .ok (.bipush 6, 2) := by decide +kernel
theorem d_Li_restore_12 : decode prog_4_method_3_code 12 = .ok (.invokestatic 39, 3) := by decide +kernel
theorem d_Li_restore_15 : decode prog_4_method_3_code 15 = .ok (.aload_n 1, 1) := by decide +kernel
theorem d_Li_restore_16 : decode prog_4_method_3_code 16 = .ok (.aload_n 0, 1) := by decide +kernel
theorem d_Li_restore_17 : decode prog_4_method_3_code 17 = .ok (.getfield 24, 3) := by decide +kernel
theorem d_Li_restore_20 : decode prog_4_method_3_code 20 = .ok (.putfield 45, 3) := by decide +kernel
theorem d_Li_restore_23 : decode prog_4_method_3_code 23 = .ok (.return_, 1) := by decide +kernel
def Li_restore (Y : Ly) (l0 : Nat) (l1 : Nat) (h : Hp) : Option Hp :=
  if cpB 0 0 6 (lnY Y (hGr h 203 l0)) (lnY Y (hGr h 410 l1)) = true then
    letH (hCi h (hGr h 203 l0) (Int32.toNatClampNeg 0) (hGr h 410 l1) (Int32.toNatClampNeg 0) (Int32.toNatClampNeg 6)) fun h3 =>
    letH (hSi h3 417 l1 (hGi h3 204 l0)) fun h4 =>
    some h4
  else none
theorem ok_Li_restore (Y : Ly) (l0 : Nat) (l1 : Nat) (h : Hp) (t0 : isO Y 2 l0) (t1 : isO Y 4 l1) : AM Y 1 K_Li_restore [.ref l0, .ref l1] h (Li_restore Y l0 l1 h) rV := by
  refine AM.of rfl (Nat.le_of_ble_eq_true rfl) ?_
  show AW Y 1 K_Li_restore 0 [(0, .ref l0), (1, .ref l1)] [] h (Li_restore Y l0 l1 h) rV
  unfold Li_restore
  refine aw_aload_n (pc := 0) d_Li_restore_0 rfl 0 rfl ?_
  refine gt_203 (pc := 1) d_Li_restore_1 w2_32 t0 (fun tt1 => ?_)
  refine aw_iconst (pc := 4) (x := 0) d_Li_restore_4 (by decide) ?_
  refine aw_aload_n (pc := 5) d_Li_restore_5 rfl 1 rfl ?_
  refine gt_410 (pc := 6) d_Li_restore_6 w2_149 t1 (fun tt2 => ?_)
  refine aw_iconst (pc := 9) (x := 0) d_Li_restore_9 (by decide) ?_
  refine aw_bipush (pc := 10) (x := 6) d_Li_restore_10 (by decide) ?_
  refine aw_copyi (pc := 12) d_Li_restore_12 w6_222 w3_129 w3_128 w1_20 tt1 tt2 (Nat.le_of_ble_eq_true rfl) (Nat.le_of_ble_eq_true rfl) ?_
  refine aw_letH (fun h3 => ?_)
  refine aw_aload_n (pc := 15) d_Li_restore_15 rfl 1 rfl ?_
  refine aw_aload_n (pc := 16) d_Li_restore_16 rfl 0 rfl ?_
  refine gt_204 (pc := 17) d_Li_restore_17 w2_33 t0 ?_
  refine pt_417 (pc := 20) d_Li_restore_20 w2_167 t1 ?_
  refine aw_letH (fun h4 => ?_)
  exact aw_return (pc := 23) d_Li_restore_23 rfl rfl
/-! LastPages.mean(II)Z -/
theorem d_LP_mean_0 : decode prog_1_method_58_code 0 = .ok (.iload_n 1, 1) := by decide +kernel
theorem d_LP_mean_1 : decode prog_1_method_58_code 1 = .ok (.ifCond .lt 32, 3) := by decide +kernel
theorem d_LP_mean_4 : decode prog_1_method_58_code 4 = .ok (.iload_n 1, 1) := by decide +kernel
theorem d_LP_mean_5 : decode prog_1_method_58_code 5 = .ok (.sipush 9999, 3) := by decide +kernel
theorem d_LP_mean_8 : decode prog_1_method_58_code 8 = .ok (.if_icmp .gt 25, 3) := by decide +kernel
theorem d_LP_mean_11 : decode prog_1_method_58_code 11 = .ok (.iload_n 2, 1) := by decide +kernel
theorem d_LP_mean_12 : decode prog_1_method_58_code 12 = .ok (.iconst 1, 1) := by decide +kernel
theorem d_LP_mean_13 : decode prog_1_method_58_code 13 = .ok (.if_icmp .lt 20, 3) := by decide +kernel
theorem d_LP_mean_16 : decode prog_1_method_58_code 16 = .ok (.iload_n 2, 1) := by decide +kernel
theorem d_LP_mean_17 : decode prog_1_method_58_code 17 = .ok (.bipush 20, 2) := by decide +kernel
theorem d_LP_mean_19 : decode prog_1_method_58_code 19 = .ok (.if_icmp .gt 14, 3) := by decide +kernel
theorem d_LP_mean_22 : decode prog_1_method_58_code 22 = .ok (.iload_n 1, 1) := by decide +kernel
theorem d_LP_mean_23 : decode prog_1_method_58_code 23 = .ok (.iload_n 2, 1) := by decide +kernel
theorem d_LP_mean_24 : decode prog_1_method_58_code 24 = .ok (.iadd, 1) := by decide +kernel
theorem d_LP_mean_25 : decode prog_1_method_58_code 25 = .ok (.iconst 1, 1) := by decide +kernel
theorem d_LP_mean_26 : decode prog_1_method_58_code 26 = .ok (.isub, 1) := by decide +kernel
theorem d_LP_mean_27 : decode prog_1_method_58_code 27 = .ok (.sipush 9999, 3) := by decide +kernel
theorem d_LP_mean_30 : decode prog_1_method_58_code 30 = .ok (.if_icmp .le 9, 3) := by decide +kernel
theorem d_LP_mean_33 : decode prog_1_method_58_code 33 = .ok (.aload_n 0, 1) := by decide +kernel
theorem d_LP_mean_34 : decode prog_1_method_58_code 34 = .ok (.iconst 5, 1) := by decide +kernel
theorem d_LP_mean_35 : decode prog_1_method_58_code 35 = .ok (.invokevirtual 113, 3) := by decide +kernel
theorem d_LP_mean_38 : decode prog_1_method_58_code 38 = .ok (.ireturn, 1) := by decide +kernel
theorem d_LP_mean_39 : decode prog_1_method_58_code 39 = .ok (.aload_n 0, 1) := by decide +kernel
theorem d_LP_mean_40 : decode prog_1_method_58_code 40 = .ok (.getfield 68, 3) := by decide +kernel
theorem d_LP_mean_43 : decode prog_1_method_58_code 43 = .ok (.getfield 187, 3) := by decide +kernel
theorem d_LP_mean_46 : decode prog_1_method_58_code 46 = .ok (.getfield 415, 3) := by decide +kernel
theorem d_LP_mean_49 : decode prog_1_method_58_code 49 = .ok (.ifCond .ne 10, 3) := by decide +kernel
theorem d_LP_mean_52 : decode prog_1_method_58_code 52 = .ok (.aload_n 0, 1) := by decide +kernel
theorem d_LP_mean_53 : decode prog_1_method_58_code 53 = .ok (.bipush 8, 2) := by decide +kernel
theorem d_LP_mean_55 : decode prog_1_method_58_code 55 = .ok (.invokevirtual 113, 3) := by decide +kernel
theorem d_LP_mean_58 : decode prog_1_method_58_code 58 = .ok (.ireturn, 1) := by decide +kernel
theorem d_LP_mean_59 : decode prog_1_method_58_code 59 = .ok (.iconst 0, 1) := by decide +kernel
theorem d_LP_mean_60 : decode prog_1_method_58_code 60 = .ok (.istore_n 3, 1) := by decide +kernel
theorem d_LP_mean_61 : decode prog_1_method_58_code 61 = .ok (.iconst 0, 1) := by decide +kernel
theorem d_LP_mean_62 : decode prog_1_method_58_code 62 = .ok (.istore 4, 2) := by decide +kernel
theorem d_LP_mean_64 : decode prog_1_method_58_code 64 = .ok (.iload 4, 2) := by decide +kernel
theorem d_LP_mean_66 : decode prog_1_method_58_code 66 = .ok (.iload_n 2, 1) := by decide +kernel
theorem d_LP_mean_67 : decode prog_1_method_58_code 67 = .ok (.if_icmp .ge 63, 3) := by decide +kernel
theorem d_LP_mean_70 : decode prog_1_method_58_code 70 = .ok (.aload_n 0, 1) := by decide +kernel
theorem d_LP_mean_71 : decode prog_1_method_58_code 71 = .ok (.getfield 59, 3) := by decide +kernel
theorem d_LP_mean_74 : decode prog_1_method_58_code 74 = .ok (.aload_n 0, 1) := by decide +kernel
theorem d_LP_mean_75 : decode prog_1_method_58_code 75 = .ok (.getfield 68, 3) := by decide +kernel
theorem d_LP_mean_78 : decode prog_1_method_58_code 78 = .ok (.invokevirtual 424, 3) := by decide +kernel
theorem d_LP_mean_81 : decode prog_1_method_58_code 81 = .ok (.aload_n 0, 1) := by decide +kernel
theorem d_LP_mean_82 : decode prog_1_method_58_code 82 = .ok (.getfield 59, 3) := by decide +kernel
theorem d_LP_mean_85 : decode prog_1_method_58_code 85 = .ok (.aload_n 0, 1) := by decide +kernel
theorem d_LP_mean_86 : decode prog_1_method_58_code 86 = .ok (.getfield 68, 3) := by decide +kernel
theorem d_LP_mean_89 : decode prog_1_method_58_code 89 = .ok (.aload_n 0, 1) := by decide +kernel
theorem d_LP_mean_90 : decode prog_1_method_58_code 90 = .ok (.getfield 45, 3) := by decide +kernel
theorem d_LP_mean_93 : decode prog_1_method_58_code 93 = .ok (.iload_n 1, 1) := by decide +kernel
theorem d_LP_mean_94 : decode prog_1_method_58_code 94 = .ok (.iload 4, 2) := by decide +kernel
theorem d_LP_mean_96 : decode prog_1_method_58_code 96 = .ok (.iadd, 1) := by decide +kernel
theorem d_LP_mean_97 : decode prog_1_method_58_code 97 = .ok (.invokevirtual 416, 3) := by decide +kernel
theorem d_LP_mean_100 : decode prog_1_method_58_code 100 = .ok (.iload_n 3, 1) := by decide +kernel
theorem d_LP_mean_101 : decode prog_1_method_58_code 101 = .ok (.aload_n 0, 1) := by decide +kernel
theorem d_LP_mean_102 : decode prog_1_method_58_code 102 = .ok (.getfield 68, 3) := by decide +kernel
theorem d_LP_mean_105 : decode prog_1_method_58_code 105 = .ok (.invokevirtual 233, 3) := by decide +kernel
theorem d_LP_mean_108 : decode prog_1_method_58_code 108 = .ok (.invokestatic 398, 3) := by decide +kernel
theorem d_LP_mean_111 : decode prog_1_method_58_code 111 = .ok (.iadd, 1) := by decide +kernel
theorem d_LP_mean_112 : decode prog_1_method_58_code 112 = .ok (.istore_n 3, 1) := by decide +kernel
theorem d_LP_mean_113 : decode prog_1_method_58_code 113 = .ok (.aload_n 0, 1) := by decide +kernel
theorem d_LP_mean_114 : decode prog_1_method_58_code 114 = .ok (.getfield 59, 3) := by decide +kernel
theorem d_LP_mean_117 : decode prog_1_method_58_code 117 = .ok (.aload_n 0, 1) := by decide +kernel
theorem d_LP_mean_118 : decode prog_1_method_58_code 118 = .ok (.getfield 68, 3) := by decide +kernel
theorem d_LP_mean_121 : decode prog_1_method_58_code 121 = .ok (.invokevirtual 428, 3) := by decide +kernel
theorem d_LP_mean_124 : decode prog_1_method_58_code 124 = .ok (.iinc 4 1, 3) := by decide +kernel
theorem d_LP_mean_127 : decode prog_1_method_58_code 127 = .ok (.goto (-63), 3) := by decide +kernel
theorem d_LP_mean_130 : decode prog_1_method_58_code 130 = .ok (.aload_n 0, 1) := by decide +kernel
theorem d_LP_mean_131 : decode prog_1_method_58_code 131 = .ok (.iload_n 3, 1) := by decide +kernel
theorem d_LP_mean_132 : decode prog_1_method_58_code 132 = .ok (.i2l, 1) := by decide +kernel
theorem d_LP_mean_133 : decode prog_1_method_58_code 133 = .ok (.iload_n 2, 1) := by decide +kernel
theorem d_LP_mean_134 : decode prog_1_method_58_code 134 = .ok (.i2l, 1) := by decide +kernel
theorem d_LP_mean_135 : decode prog_1_method_58_code 135 = .ok (.invokevirtual 347, 3) := by decide +kernel
theorem d_LP_mean_138 : decode prog_1_method_58_code 138 = .ok (.aload_n 0, 1) := by decide +kernel
theorem d_LP_mean_139 : decode prog_1_method_58_code 139 = .ok (.invokevirtual 121, 3) := by decide +kernel
theorem d_LP_mean_142 : decode prog_1_method_58_code 142 = .ok (.ireturn, 1) := by decide +kernel
def LP_mean_L64 (Y : Ly) (l0 : Nat) (l1 : Int32) (l2 : Int32) : Nat → Int32 → Int32 → Hp → Option (Bool × Hp)
  | 0, _, _, _ => none
  | F + 1, l3, l4, h =>
    if l2 ≤ l4 then
      (LP_tellFraction Y l0 (Int32.toInt64 l3) (Int32.toInt64 l2) h).bind fun q14 =>
      (LP_agree Y l0 q14).bind fun q15 =>
      some (q15.1, q15.2)
    else
      (Li_keep Y (hGr h 1107 l0) (hGr h 1109 l0) h).bind fun q18 =>
      (Li_run Y (hGr q18 1107 l0) (hGr q18 1109 l0) (hGr q18 1105 l0) (l1 + l4) q18).bind fun q22 =>
      (Sh_finished Y (hGr q22 1109 l0) q22).bind fun q24 =>
      (J_bitCount Y q24 q22).bind fun q25 =>
      (Li_restore Y (hGr q22 1107 l0) (hGr q22 1109 l0) q22).bind fun q28 =>
      LP_mean_L64 Y l0 l1 l2 F (l3 + q25) (l4 + 1) q28
theorem LP_mean_L64_ok (Y : Ly) (l0 : Nat) (l1 : Int32) (l2 : Int32) (tl0 : isO Y 11 l0) : ∀ (F : Nat) (l3 : Int32) (l4 : Int32) (h : Hp), AW Y 6 K_LP_mean 64 [(0, .ref l0), (1, .int l1), (2, .int l2), (3, .int l3), (4, .int l4)] [] h (LP_mean_L64 Y l0 l1 l2 F l3 l4 h) rZ := by
  intro F
  induction F with
  | zero =>
    intro l3 l4 h
    exact aw_none
  | succ F ih =>
    intro l3 l4 h
    unfold LP_mean_L64
    refine aw_iload (pc := 64) d_LP_mean_64 4 rfl ?_
    refine aw_iload_n (pc := 66) d_LP_mean_66 rfl 2 rfl ?_
    refine aw_icmp_ge (pc := 67) (tgt := 130) d_LP_mean_67 (by decide) (fun c13 => ?_) (fun c13 => ?_)
    · refine aw_aload_n (pc := 130) d_LP_mean_130 rfl 0 rfl ?_
      refine aw_iload_n (pc := 131) d_LP_mean_131 rfl 3 rfl ?_
      refine aw_i2l (pc := 132) d_LP_mean_132 ?_
      refine aw_iload_n (pc := 133) d_LP_mean_133 rfl 2 rfl ?_
      refine aw_i2l (pc := 134) d_LP_mean_134 ?_
      refine aw_cVrV (pc := 135) (ci := 11) (T := TX11) (N := 18) (As := [.long (Int32.toInt64 l3), .long (Int32.toInt64 l2)]) (st := []) (ok_LP_tellFraction Y l0 (Int32.toInt64 l3) (Int32.toInt64 l2) h tl0) okV_LP_tellFraction rfl (by decide) tl0 w5_165 d_LP_mean_135 rfl (Nat.le_of_ble_eq_true rfl) rfl (Nat.le_of_ble_eq_true rfl) (fun q14 hq14 hTq14 => ?_)
      refine aw_aload_n (pc := 138) d_LP_mean_138 rfl 0 rfl ?_
      refine aw_cVrZ (pc := 139) (ci := 11) (T := TX11) (N := 18) (As := []) (st := []) (ok_LP_agree Y l0 q14 tl0) okV_LP_agree rfl (by decide) tl0 w3_86 d_LP_mean_139 rfl (Nat.le_of_ble_eq_true rfl) rfl (Nat.le_of_ble_eq_true rfl) (fun q15 hq15 hTq15 => ?_)
      exact aw_zreturn (pc := 142) (b := q15.1) d_LP_mean_142 rfl rfl
    · refine aw_aload_n (pc := 70) d_LP_mean_70 rfl 0 rfl ?_
      refine gt_1107 (pc := 71) d_LP_mean_71 w3_7 tl0 (fun tt16 => ?_)
      refine aw_aload_n (pc := 74) d_LP_mean_74 rfl 0 rfl ?_
      refine gt_1109 (pc := 75) d_LP_mean_75 w3_9 tl0 (fun tt17 => ?_)
      refine aw_cVrV (pc := 78) (ci := 2) (T := TX2) (N := 7) (As := [.ref (hGr h 1109 l0)]) (st := []) (ok_Li_keep Y (hGr h 1107 l0) (hGr h 1109 l0) h tt16 tt17) okV_Li_keep rfl (by decide) tt16 w6_218 d_LP_mean_78 rfl (Nat.le_of_ble_eq_true rfl) rfl (Nat.le_of_ble_eq_true rfl) (fun q18 hq18 hTq18 => ?_)
      refine aw_aload_n (pc := 81) d_LP_mean_81 rfl 0 rfl ?_
      refine gt_1107 (pc := 82) d_LP_mean_82 w3_7 tl0 (fun tt19 => ?_)
      refine aw_aload_n (pc := 85) d_LP_mean_85 rfl 0 rfl ?_
      refine gt_1109 (pc := 86) d_LP_mean_86 w3_9 tl0 (fun tt20 => ?_)
      refine aw_aload_n (pc := 89) d_LP_mean_89 rfl 0 rfl ?_
      refine gt_1105 (pc := 90) d_LP_mean_90 w3_5 tl0 (fun tt21 => ?_)
      refine aw_iload_n (pc := 93) d_LP_mean_93 rfl 1 rfl ?_
      refine aw_iload (pc := 94) d_LP_mean_94 4 rfl ?_
      refine aw_iadd (pc := 96) d_LP_mean_96 ?_
      refine aw_cVrV (pc := 97) (ci := 2) (T := TX2) (N := 7) (As := [.ref (hGr q18 1109 l0), .ref (hGr q18 1105 l0), .int (l1 + l4)]) (st := []) (ok_Li_run Y (hGr q18 1107 l0) (hGr q18 1109 l0) (hGr q18 1105 l0) (l1 + l4) q18 tt19 tt20 tt21) okV_Li_run rfl (by decide) tt19 w6_156 d_LP_mean_97 rfl (Nat.le_of_ble_eq_true rfl) rfl (Nat.le_of_ble_eq_true rfl) (fun q22 hq22 hTq22 => ?_)
      refine aw_iload_n (pc := 100) d_LP_mean_100 rfl 3 rfl ?_
      refine aw_aload_n (pc := 101) d_LP_mean_101 rfl 0 rfl ?_
      refine gt_1109 (pc := 102) d_LP_mean_102 w3_9 tl0 (fun tt23 => ?_)
      refine aw_cVpI (pc := 105) (ci := 4) (T := TX4) (N := 19) (As := []) (st := [.int l3]) (ok_Sh_finished Y (hGr q22 1109 l0) q22 tt23) okV_Sh_finished rfl (by decide) tt23 w4_172 d_LP_mean_105 rfl (Nat.le_of_ble_eq_true rfl) rfl (Nat.le_of_ble_eq_true rfl) (fun q24 hq24 hTq24 => ?_)
      refine aw_cSpI (pc := 108) (As := [.int q24]) (st := [.int l3]) (ok_J_bitCount Y q24 q22) okS_J_bitCount w6_26 d_LP_mean_108 rfl (Nat.le_of_ble_eq_true rfl) rfl (Nat.le_of_ble_eq_true rfl) (fun q25 hq25 hTq25 => ?_)
      refine aw_iadd (pc := 111) d_LP_mean_111 ?_
      refine aw_istore_n (pc := 112) (lv' := [(3, .int (l3 + q25)), (0, .ref l0), (1, .int l1), (2, .int l2), (4, .int l4)]) d_LP_mean_112 rfl (by decide) rfl ?_
      refine aw_aload_n (pc := 113) d_LP_mean_113 rfl 1 rfl ?_
      refine gt_1107 (pc := 114) d_LP_mean_114 w3_7 tl0 (fun tt26 => ?_)
      refine aw_aload_n (pc := 117) d_LP_mean_117 rfl 1 rfl ?_
      refine gt_1109 (pc := 118) d_LP_mean_118 w3_9 tl0 (fun tt27 => ?_)
      refine aw_cVrV (pc := 121) (ci := 2) (T := TX2) (N := 7) (As := [.ref (hGr q22 1109 l0)]) (st := []) (ok_Li_restore Y (hGr q22 1107 l0) (hGr q22 1109 l0) q22 tt26 tt27) okV_Li_restore rfl (by decide) tt26 w6_223 d_LP_mean_121 rfl (Nat.le_of_ble_eq_true rfl) rfl (Nat.le_of_ble_eq_true rfl) (fun q28 hq28 hTq28 => ?_)
      refine aw_iinc (pc := 124) (w := l4 + 1) (lv' := [(4, .int (l4 + 1)), (3, .int (l3 + q25)), (0, .ref l0), (1, .int l1), (2, .int l2)]) d_LP_mean_124 4 rfl rfl (by decide) rfl ?_
      refine aw_goto (pc := 127) (tgt := 64) d_LP_mean_127 (by decide) ?_
      exact aw_lv [2, 3, 4, 1, 0] rfl (ih (l3 + q25) (l4 + 1) q28)
def LP_mean (Y : Ly) (l0 : Nat) (l1 : Int32) (l2 : Int32) (h : Hp) : Option (Bool × Hp) :=
  if l1 < 0 then
    (LP_refuse Y l0 5 h).bind fun q2 =>
    some (q2.1, q2.2)
  else
    if 9999 < l1 then
      (LP_refuse Y l0 5 h).bind fun q4 =>
      some (q4.1, q4.2)
    else
      if l2 < 1 then
        (LP_refuse Y l0 5 h).bind fun q6 =>
        some (q6.1, q6.2)
      else
        if 20 < l2 then
          (LP_refuse Y l0 5 h).bind fun q8 =>
          some (q8.1, q8.2)
        else
          if ((l1 + l2) - 1) ≤ 9999 then
            if (hGz h 905 (hGr h 413 (hGr h 1109 l0))) = true then
              LP_mean_L64 Y l0 l1 l2 FU 0 0 h
            else
              (LP_refuse Y l0 8 h).bind fun q29 =>
              some (q29.1, q29.2)
          else
            (LP_refuse Y l0 5 h).bind fun q30 =>
            some (q30.1, q30.2)
theorem ok_LP_mean (Y : Ly) (l0 : Nat) (l1 : Int32) (l2 : Int32) (h : Hp) (t0 : isO Y 11 l0) : AM Y 6 K_LP_mean [.ref l0, .int l1, .int l2] h (LP_mean Y l0 l1 l2 h) rZ := by
  refine AM.of rfl (Nat.le_of_ble_eq_true rfl) ?_
  show AW Y 6 K_LP_mean 0 [(0, .ref l0), (1, .int l1), (2, .int l2)] [] h (LP_mean Y l0 l1 l2 h) rZ
  unfold LP_mean
  refine aw_iload_n (pc := 0) d_LP_mean_0 rfl 1 rfl ?_
  refine aw_if_lt (pc := 1) (tgt := 33) d_LP_mean_1 (by decide) (fun c1 => ?_) (fun c1 => ?_)
  · refine aw_aload_n (pc := 33) d_LP_mean_33 rfl 0 rfl ?_
    refine aw_iconst (pc := 34) (x := 5) d_LP_mean_34 (by decide) ?_
    refine aw_cVrZ (pc := 35) (ci := 11) (T := TX11) (N := 18) (As := [.int 5]) (st := []) (ok_LP_refuse Y l0 5 h t0) okV_LP_refuse rfl (by decide) t0 w3_75 d_LP_mean_35 rfl (Nat.le_of_ble_eq_true rfl) rfl (Nat.le_of_ble_eq_true rfl) (fun q2 hq2 hTq2 => ?_)
    exact aw_zreturn (pc := 38) (b := q2.1) d_LP_mean_38 rfl rfl
  · refine aw_iload_n (pc := 4) d_LP_mean_4 rfl 1 rfl ?_
    refine aw_sipush (pc := 5) (x := 9999) d_LP_mean_5 (by decide) ?_
    refine aw_icmp_gt (pc := 8) (tgt := 33) d_LP_mean_8 (by decide) (fun c3 => ?_) (fun c3 => ?_)
    · refine aw_aload_n (pc := 33) d_LP_mean_33 rfl 0 rfl ?_
      refine aw_iconst (pc := 34) (x := 5) d_LP_mean_34 (by decide) ?_
      refine aw_cVrZ (pc := 35) (ci := 11) (T := TX11) (N := 18) (As := [.int 5]) (st := []) (ok_LP_refuse Y l0 5 h t0) okV_LP_refuse rfl (by decide) t0 w3_75 d_LP_mean_35 rfl (Nat.le_of_ble_eq_true rfl) rfl (Nat.le_of_ble_eq_true rfl) (fun q4 hq4 hTq4 => ?_)
      exact aw_zreturn (pc := 38) (b := q4.1) d_LP_mean_38 rfl rfl
    · refine aw_iload_n (pc := 11) d_LP_mean_11 rfl 2 rfl ?_
      refine aw_iconst (pc := 12) (x := 1) d_LP_mean_12 (by decide) ?_
      refine aw_icmp_lt (pc := 13) (tgt := 33) d_LP_mean_13 (by decide) (fun c5 => ?_) (fun c5 => ?_)
      · refine aw_aload_n (pc := 33) d_LP_mean_33 rfl 0 rfl ?_
        refine aw_iconst (pc := 34) (x := 5) d_LP_mean_34 (by decide) ?_
        refine aw_cVrZ (pc := 35) (ci := 11) (T := TX11) (N := 18) (As := [.int 5]) (st := []) (ok_LP_refuse Y l0 5 h t0) okV_LP_refuse rfl (by decide) t0 w3_75 d_LP_mean_35 rfl (Nat.le_of_ble_eq_true rfl) rfl (Nat.le_of_ble_eq_true rfl) (fun q6 hq6 hTq6 => ?_)
        exact aw_zreturn (pc := 38) (b := q6.1) d_LP_mean_38 rfl rfl
      · refine aw_iload_n (pc := 16) d_LP_mean_16 rfl 2 rfl ?_
        refine aw_bipush (pc := 17) (x := 20) d_LP_mean_17 (by decide) ?_
        refine aw_icmp_gt (pc := 19) (tgt := 33) d_LP_mean_19 (by decide) (fun c7 => ?_) (fun c7 => ?_)
        · refine aw_aload_n (pc := 33) d_LP_mean_33 rfl 0 rfl ?_
          refine aw_iconst (pc := 34) (x := 5) d_LP_mean_34 (by decide) ?_
          refine aw_cVrZ (pc := 35) (ci := 11) (T := TX11) (N := 18) (As := [.int 5]) (st := []) (ok_LP_refuse Y l0 5 h t0) okV_LP_refuse rfl (by decide) t0 w3_75 d_LP_mean_35 rfl (Nat.le_of_ble_eq_true rfl) rfl (Nat.le_of_ble_eq_true rfl) (fun q8 hq8 hTq8 => ?_)
          exact aw_zreturn (pc := 38) (b := q8.1) d_LP_mean_38 rfl rfl
        · refine aw_iload_n (pc := 22) d_LP_mean_22 rfl 1 rfl ?_
          refine aw_iload_n (pc := 23) d_LP_mean_23 rfl 2 rfl ?_
          refine aw_iadd (pc := 24) d_LP_mean_24 ?_
          refine aw_iconst (pc := 25) (x := 1) d_LP_mean_25 (by decide) ?_
          refine aw_isub (pc := 26) d_LP_mean_26 ?_
          refine aw_sipush (pc := 27) (x := 9999) d_LP_mean_27 (by decide) ?_
          refine aw_icmp_le (pc := 30) (tgt := 39) d_LP_mean_30 (by decide) (fun c9 => ?_) (fun c9 => ?_)
          · refine aw_aload_n (pc := 39) d_LP_mean_39 rfl 0 rfl ?_
            refine gt_1109 (pc := 40) d_LP_mean_40 w3_9 t0 (fun tt10 => ?_)
            refine gt_413 (pc := 43) d_LP_mean_43 w2_156 tt10 (fun tt11 => ?_)
            refine gt_905 (pc := 46) d_LP_mean_46 w2_101 tt11 ?_
            refine aw_bne (pc := 49) (tgt := 59) d_LP_mean_49 (by decide) (fun c12 => ?_) (fun c12 => ?_)
            · refine aw_iconst (pc := 59) (x := 0) d_LP_mean_59 (by decide) ?_
              refine aw_istore_n (pc := 60) (lv' := [(3, .int 0), (0, .ref l0), (1, .int l1), (2, .int l2)]) d_LP_mean_60 rfl (by decide) rfl ?_
              refine aw_iconst (pc := 61) (x := 0) d_LP_mean_61 (by decide) ?_
              refine aw_istore (pc := 62) (lv' := [(4, .int 0), (3, .int 0), (0, .ref l0), (1, .int l1), (2, .int l2)]) d_LP_mean_62 (by decide) rfl ?_
              exact aw_lv [2, 3, 4, 1, 0] rfl (LP_mean_L64_ok Y l0 l1 l2 t0 FU 0 0 h)
            · refine aw_aload_n (pc := 52) d_LP_mean_52 rfl 0 rfl ?_
              refine aw_bipush (pc := 53) (x := 8) d_LP_mean_53 (by decide) ?_
              refine aw_cVrZ (pc := 55) (ci := 11) (T := TX11) (N := 18) (As := [.int 8]) (st := []) (ok_LP_refuse Y l0 8 h t0) okV_LP_refuse rfl (by decide) t0 w3_75 d_LP_mean_55 rfl (Nat.le_of_ble_eq_true rfl) rfl (Nat.le_of_ble_eq_true rfl) (fun q29 hq29 hTq29 => ?_)
              exact aw_zreturn (pc := 58) (b := q29.1) d_LP_mean_58 rfl rfl
          · refine aw_aload_n (pc := 33) d_LP_mean_33 rfl 0 rfl ?_
            refine aw_iconst (pc := 34) (x := 5) d_LP_mean_34 (by decide) ?_
            refine aw_cVrZ (pc := 35) (ci := 11) (T := TX11) (N := 18) (As := [.int 5]) (st := []) (ok_LP_refuse Y l0 5 h t0) okV_LP_refuse rfl (by decide) t0 w3_75 d_LP_mean_35 rfl (Nat.le_of_ble_eq_true rfl) rfl (Nat.le_of_ble_eq_true rfl) (fun q30 hq30 hTq30 => ?_)
            exact aw_zreturn (pc := 38) (b := q30.1) d_LP_mean_38 rfl rfl
/-! LastPages.next(I)I -/
theorem d_LP_next_0 : decode prog_1_method_33_code 0 = .ok (.aload_n 0, 1) := by decide +kernel
theorem d_LP_next_1 : decode prog_1_method_33_code 1 = .ok (.getfield 68, 3) := by decide +kernel
theorem d_LP_next_4 : decode prog_1_method_33_code 4 = .ok (.iload_n 1, 1) := by decide +kernel
theorem d_LP_next_5 : decode prog_1_method_33_code 5 = .ok (.invokevirtual 255, 3) := by decide +kernel
theorem d_LP_next_8 : decode prog_1_method_33_code 8 = .ok (.ifCond .ne 9, 3) := by decide +kernel
theorem d_LP_next_11 : decode prog_1_method_33_code 11 = .ok (.aload_n 0, 1) := by decide +kernel
theorem d_LP_next_12 : decode prog_1_method_33_code 12 = .ok (.iconst 2, 1) := by decide +kernel
theorem d_LP_next_13 : decode prog_1_method_33_code 13 = .ok (.invokevirtual 133, 3) := by decide +kernel
theorem d_LP_next_16 : decode prog_1_method_33_code 16 = .ok (.ireturn, 1) := by decide +kernel
theorem d_LP_next_17 : decode prog_1_method_33_code 17 = .ok (.aload_n 0, 1) := by decide +kernel
theorem d_LP_next_18 : decode prog_1_method_33_code 18 = .ok (.getfield 45, 3) := by decide +kernel
theorem d_LP_next_21 : decode prog_1_method_33_code 21 = .ok (.aload_n 0, 1) := by decide +kernel
theorem d_LP_next_22 : decode prog_1_method_33_code 22 = .ok (.getfield 68, 3) := by decide +kernel
theorem d_LP_next_25 : decode prog_1_method_33_code 25 = .ok (.iload_n 1, 1) := by decide +kernel
theorem d_LP_next_26 : decode prog_1_method_33_code 26 = .ok (.aload_n 0, 1) := by decide +kernel
theorem d_LP_next_27 : decode prog_1_method_33_code 27 = .ok (.getfield 68, 3) := by decide +kernel
theorem d_LP_next_30 : decode prog_1_method_33_code 30 = .ok (.getfield 236, 3) := by decide +kernel
theorem d_LP_next_33 : decode prog_1_method_33_code 33 = .ok (.invokevirtual 322, 3) := by decide +kernel
theorem d_LP_next_36 : decode prog_1_method_33_code 36 = .ok (.ldc2_w 335, 3) := by decide +kernel
theorem d_LP_next_39 : decode prog_1_method_33_code 39 = .ok (.lcmp, 1) := by decide +kernel
theorem d_LP_next_40 : decode prog_1_method_33_code 40 = .ok (.ifCond .ge 10, 3) := by decide +kernel
theorem d_LP_next_43 : decode prog_1_method_33_code 43 = .ok (.aload_n 0, 1) := by decide +kernel
theorem d_LP_next_44 : decode prog_1_method_33_code 44 = .ok (.bipush 8, 2) := by decide +kernel
theorem d_LP_next_46 : decode prog_1_method_33_code 46 = .ok (.invokevirtual 133, 3) := by decide +kernel
theorem d_LP_next_49 : decode prog_1_method_33_code 49 = .ok (.ireturn, 1) := by decide +kernel
theorem d_LP_next_50 : decode prog_1_method_33_code 50 = .ok (.aload_n 0, 1) := by decide +kernel
theorem d_LP_next_51 : decode prog_1_method_33_code 51 = .ok (.getfield 45, 3) := by decide +kernel
theorem d_LP_next_54 : decode prog_1_method_33_code 54 = .ok (.invokevirtual 337, 3) := by decide +kernel
theorem d_LP_next_57 : decode prog_1_method_33_code 57 = .ok (.aload_n 0, 1) := by decide +kernel
theorem d_LP_next_58 : decode prog_1_method_33_code 58 = .ok (.aload_n 0, 1) := by decide +kernel
theorem d_LP_next_59 : decode prog_1_method_33_code 59 = .ok (.getfield 45, 3) := by decide +kernel
theorem d_LP_next_62 : decode prog_1_method_33_code 62 = .ok (.invokevirtual 340, 3) := by decide +kernel
theorem d_LP_next_65 : decode prog_1_method_33_code 65 = .ok (.iconst 1, 1) := by decide +kernel
theorem d_LP_next_66 : decode prog_1_method_33_code 66 = .ok (.iadd, 1) := by decide +kernel
theorem d_LP_next_67 : decode prog_1_method_33_code 67 = .ok (.invokevirtual 180, 3) := by decide +kernel
theorem d_LP_next_70 : decode prog_1_method_33_code 70 = .ok (.ireturn, 1) := by decide +kernel
def LP_next (Y : Ly) (l0 : Nat) (l1 : Int32) (h : Hp) : Option (Int32 × Hp) :=
  (Sh_hasBook Y (hGr h 1109 l0) l1 h).bind fun q2 =>
  if q2 = true then
    (En_countOf Y (hGr h 1105 l0) (hGr h 1109 l0) l1 (hGi h 417 (hGr h 1109 l0)) h).bind fun q7 =>
    if 2 ≤ q7.1 then
      (En_countBefore Y (hGr q7.2 1105 l0) q7.2).bind fun q10 =>
      (En_mostTelling Y (hGr q10 1105 l0) q10).bind fun q12 =>
      (LP_give Y l0 (q12 + 1) q10).bind fun q13 =>
      some (q13.1, q13.2)
    else
      (LP_fail Y l0 8 q7.2).bind fun q14 =>
      some (q14.1, q14.2)
  else
    (LP_fail Y l0 2 h).bind fun q15 =>
    some (q15.1, q15.2)
theorem ok_LP_next (Y : Ly) (l0 : Nat) (l1 : Int32) (h : Hp) (t0 : isO Y 11 l0) : AM Y 4 K_LP_next [.ref l0, .int l1] h (LP_next Y l0 l1 h) rI := by
  refine AM.of rfl (Nat.le_of_ble_eq_true rfl) ?_
  show AW Y 4 K_LP_next 0 [(0, .ref l0), (1, .int l1)] [] h (LP_next Y l0 l1 h) rI
  unfold LP_next
  refine aw_aload_n (pc := 0) d_LP_next_0 rfl 0 rfl ?_
  refine gt_1109 (pc := 1) d_LP_next_1 w3_9 t0 (fun tt1 => ?_)
  refine aw_iload_n (pc := 4) d_LP_next_4 rfl 1 rfl ?_
  refine aw_cVpZ (pc := 5) (ci := 4) (T := TX4) (N := 19) (As := [.int l1]) (st := []) (ok_Sh_hasBook Y (hGr h 1109 l0) l1 h tt1) okV_Sh_hasBook rfl (by decide) tt1 w4_199 d_LP_next_5 rfl (Nat.le_of_ble_eq_true rfl) rfl (Nat.le_of_ble_eq_true rfl) (fun q2 hq2 hTq2 => ?_)
  refine aw_bne (pc := 8) (tgt := 17) d_LP_next_8 (by decide) (fun c3 => ?_) (fun c3 => ?_)
  · refine aw_aload_n (pc := 17) d_LP_next_17 rfl 0 rfl ?_
    refine gt_1105 (pc := 18) d_LP_next_18 w3_5 t0 (fun tt4 => ?_)
    refine aw_aload_n (pc := 21) d_LP_next_21 rfl 0 rfl ?_
    refine gt_1109 (pc := 22) d_LP_next_22 w3_9 t0 (fun tt5 => ?_)
    refine aw_iload_n (pc := 25) d_LP_next_25 rfl 1 rfl ?_
    refine aw_aload_n (pc := 26) d_LP_next_26 rfl 0 rfl ?_
    refine gt_1109 (pc := 27) d_LP_next_27 w3_9 t0 (fun tt6 => ?_)
    refine gt_417 (pc := 30) d_LP_next_30 w2_169 tt6 ?_
    refine aw_cVrL (pc := 33) (ci := 0) (T := TX0) (N := 8) (As := [.ref (hGr h 1109 l0), .int l1, .int (hGi h 417 (hGr h 1109 l0))]) (st := []) (ok_En_countOf Y (hGr h 1105 l0) (hGr h 1109 l0) l1 (hGi h 417 (hGr h 1109 l0)) h tt4 tt5) okV_En_countOf rfl (by decide) tt4 w5_98 d_LP_next_33 rfl (Nat.le_of_ble_eq_true rfl) rfl (Nat.le_of_ble_eq_true rfl) (fun q7 hq7 hTq7 => ?_)
    refine aw_ldc2 (pc := 36) d_LP_next_36 w5_139 ?_
    refine aw_lcmp_ge (pc := 39) (tgt := 50) d_LP_next_39 d_LP_next_40 (by decide) (fun c8 => ?_) (fun c8 => ?_)
    · refine aw_aload_n (pc := 50) d_LP_next_50 rfl 0 rfl ?_
      refine gt_1105 (pc := 51) d_LP_next_51 w3_5 t0 (fun tt9 => ?_)
      refine aw_cVrV (pc := 54) (ci := 0) (T := TX0) (N := 8) (As := []) (st := []) (ok_En_countBefore Y (hGr q7.2 1105 l0) q7.2 tt9) okV_En_countBefore rfl (by decide) tt9 w5_140 d_LP_next_54 rfl (Nat.le_of_ble_eq_true rfl) rfl (Nat.le_of_ble_eq_true rfl) (fun q10 hq10 hTq10 => ?_)
      refine aw_aload_n (pc := 57) d_LP_next_57 rfl 0 rfl ?_
      refine aw_aload_n (pc := 58) d_LP_next_58 rfl 0 rfl ?_
      refine gt_1105 (pc := 59) d_LP_next_59 w3_5 t0 (fun tt11 => ?_)
      refine aw_cVpI (pc := 62) (ci := 0) (T := TX0) (N := 8) (As := []) (st := [.ref l0]) (ok_En_mostTelling Y (hGr q10 1105 l0) q10 tt11) okV_En_mostTelling rfl (by decide) tt11 w5_149 d_LP_next_62 rfl (Nat.le_of_ble_eq_true rfl) rfl (Nat.le_of_ble_eq_true rfl) (fun q12 hq12 hTq12 => ?_)
      refine aw_iconst (pc := 65) (x := 1) d_LP_next_65 (by decide) ?_
      refine aw_iadd (pc := 66) d_LP_next_66 ?_
      refine aw_cVrI (pc := 67) (ci := 11) (T := TX11) (N := 18) (As := [.int (q12 + 1)]) (st := []) (ok_LP_give Y l0 (q12 + 1) q10 t0) okV_LP_give rfl (by decide) t0 w4_88 d_LP_next_67 rfl (Nat.le_of_ble_eq_true rfl) rfl (Nat.le_of_ble_eq_true rfl) (fun q13 hq13 hTq13 => ?_)
      exact aw_ireturn (pc := 70) d_LP_next_70 rfl rfl
    · refine aw_aload_n (pc := 43) d_LP_next_43 rfl 0 rfl ?_
      refine aw_bipush (pc := 44) (x := 8) d_LP_next_44 (by decide) ?_
      refine aw_cVrI (pc := 46) (ci := 11) (T := TX11) (N := 18) (As := [.int 8]) (st := []) (ok_LP_fail Y l0 8 q7.2 t0) okV_LP_fail rfl (by decide) t0 w3_114 d_LP_next_46 rfl (Nat.le_of_ble_eq_true rfl) rfl (Nat.le_of_ble_eq_true rfl) (fun q14 hq14 hTq14 => ?_)
      exact aw_ireturn (pc := 49) d_LP_next_49 rfl rfl
  · refine aw_aload_n (pc := 11) d_LP_next_11 rfl 0 rfl ?_
    refine aw_iconst (pc := 12) (x := 2) d_LP_next_12 (by decide) ?_
    refine aw_cVrI (pc := 13) (ci := 11) (T := TX11) (N := 18) (As := [.int 2]) (st := []) (ok_LP_fail Y l0 2 h t0) okV_LP_fail rfl (by decide) t0 w3_114 d_LP_next_13 rfl (Nat.le_of_ble_eq_true rfl) rfl (Nat.le_of_ble_eq_true rfl) (fun q15 hq15 hTq15 => ?_)
    exact aw_ireturn (pc := 16) d_LP_next_16 rfl rfl
/-! LastPages.odd(I)I -/
theorem d_LP_odd_0 : decode prog_1_method_15_code 0 = .ok (.aload_n 0, 1) := by decide +kernel
theorem d_LP_odd_1 : decode prog_1_method_15_code 1 = .ok (.getfield 68, 3) := by decide +kernel
theorem d_LP_odd_4 : decode prog_1_method_15_code 4 = .ok (.getfield 193, 3) := by decide +kernel
theorem d_LP_odd_7 : decode prog_1_method_15_code 7 = .ok (.iload_n 1, 1) := by decide +kernel
theorem d_LP_odd_8 : decode prog_1_method_15_code 8 = .ok (.invokevirtual 242, 3) := by decide +kernel
theorem d_LP_odd_11 : decode prog_1_method_15_code 11 = .ok (.ifCond .ne 9, 3) := by decide +kernel
theorem d_LP_odd_14 : decode prog_1_method_15_code 14 = .ok (.aload_n 0, 1) := by decide +kernel
theorem d_LP_odd_15 : decode prog_1_method_15_code 15 = .ok (.iconst 2, 1) := by decide +kernel
theorem d_LP_odd_16 : decode prog_1_method_15_code 16 = .ok (.invokevirtual 133, 3) := by decide +kernel
theorem d_LP_odd_19 : decode prog_1_method_15_code 19 = .ok (.ireturn, 1) := by decide +kernel
theorem d_LP_odd_20 : decode prog_1_method_15_code 20 = .ok (.aload_n 0, 1) := by decide +kernel
theorem d_LP_odd_21 : decode prog_1_method_15_code 21 = .ok (.aload_n 0, 1) := by decide +kernel
theorem d_LP_odd_22 : decode prog_1_method_15_code 22 = .ok (.getfield 68, 3) := by decide +kernel
theorem d_LP_odd_25 : decode prog_1_method_15_code 25 = .ok (.getfield 193, 3) := by decide +kernel
theorem d_LP_odd_28 : decode prog_1_method_15_code 28 = .ok (.iload_n 1, 1) := by decide +kernel
theorem d_LP_odd_29 : decode prog_1_method_15_code 29 = .ok (.invokevirtual 252, 3) := by decide +kernel
theorem d_LP_odd_32 : decode prog_1_method_15_code 32 = .ok (.invokevirtual 180, 3) := by decide +kernel
theorem d_LP_odd_35 : decode prog_1_method_15_code 35 = .ok (.ireturn, 1) := by decide +kernel
def LP_odd (Y : Ly) (l0 : Nat) (l1 : Int32) (h : Hp) : Option (Int32 × Hp) :=
  (St_hasTurn Y (hGr h 400 (hGr h 1109 l0)) l1 h).bind fun q3 =>
  if q3 = true then
    (St_oddOf Y (hGr h 400 (hGr h 1109 l0)) l1 h).bind fun q7 =>
    (LP_give Y l0 q7 h).bind fun q8 =>
    some (q8.1, q8.2)
  else
    (LP_fail Y l0 2 h).bind fun q9 =>
    some (q9.1, q9.2)
theorem ok_LP_odd (Y : Ly) (l0 : Nat) (l1 : Int32) (h : Hp) (t0 : isO Y 11 l0) : AM Y 2 K_LP_odd [.ref l0, .int l1] h (LP_odd Y l0 l1 h) rI := by
  refine AM.of rfl (Nat.le_of_ble_eq_true rfl) ?_
  show AW Y 2 K_LP_odd 0 [(0, .ref l0), (1, .int l1)] [] h (LP_odd Y l0 l1 h) rI
  unfold LP_odd
  refine aw_aload_n (pc := 0) d_LP_odd_0 rfl 0 rfl ?_
  refine gt_1109 (pc := 1) d_LP_odd_1 w3_9 t0 (fun tt1 => ?_)
  refine gt_400 (pc := 4) d_LP_odd_4 w2_129 tt1 (fun tt2 => ?_)
  refine aw_iload_n (pc := 7) d_LP_odd_7 rfl 1 rfl ?_
  refine aw_cVpZ (pc := 8) (ci := 6) (T := TX6) (N := 8) (As := [.int l1]) (st := []) (ok_St_hasTurn Y (hGr h 400 (hGr h 1109 l0)) l1 h tt2) okV_St_hasTurn rfl (by decide) tt2 w4_181 d_LP_odd_8 rfl (Nat.le_of_ble_eq_true rfl) rfl (Nat.le_of_ble_eq_true rfl) (fun q3 hq3 hTq3 => ?_)
  refine aw_bne (pc := 11) (tgt := 20) d_LP_odd_11 (by decide) (fun c4 => ?_) (fun c4 => ?_)
  · refine aw_aload_n (pc := 20) d_LP_odd_20 rfl 0 rfl ?_
    refine aw_aload_n (pc := 21) d_LP_odd_21 rfl 0 rfl ?_
    refine gt_1109 (pc := 22) d_LP_odd_22 w3_9 t0 (fun tt5 => ?_)
    refine gt_400 (pc := 25) d_LP_odd_25 w2_129 tt5 (fun tt6 => ?_)
    refine aw_iload_n (pc := 28) d_LP_odd_28 rfl 1 rfl ?_
    refine aw_cVpI (pc := 29) (ci := 6) (T := TX6) (N := 8) (As := [.int l1]) (st := [.ref l0]) (ok_St_oddOf Y (hGr h 400 (hGr h 1109 l0)) l1 h tt6) okV_St_oddOf rfl (by decide) tt6 w4_191 d_LP_odd_29 rfl (Nat.le_of_ble_eq_true rfl) rfl (Nat.le_of_ble_eq_true rfl) (fun q7 hq7 hTq7 => ?_)
    refine aw_cVrI (pc := 32) (ci := 11) (T := TX11) (N := 18) (As := [.int q7]) (st := []) (ok_LP_give Y l0 q7 h t0) okV_LP_give rfl (by decide) t0 w4_88 d_LP_odd_32 rfl (Nat.le_of_ble_eq_true rfl) rfl (Nat.le_of_ble_eq_true rfl) (fun q8 hq8 hTq8 => ?_)
    exact aw_ireturn (pc := 35) d_LP_odd_35 rfl rfl
  · refine aw_aload_n (pc := 14) d_LP_odd_14 rfl 0 rfl ?_
    refine aw_iconst (pc := 15) (x := 2) d_LP_odd_15 (by decide) ?_
    refine aw_cVrI (pc := 16) (ci := 11) (T := TX11) (N := 18) (As := [.int 2]) (st := []) (ok_LP_fail Y l0 2 h t0) okV_LP_fail rfl (by decide) t0 w3_114 d_LP_odd_16 rfl (Nat.le_of_ble_eq_true rfl) rfl (Nat.le_of_ble_eq_true rfl) (fun q9 hq9 hTq9 => ?_)
    exact aw_ireturn (pc := 19) d_LP_odd_19 rfl rfl
/-! LastPages.oddness(I)I -/
theorem d_LP_oddness_0 : decode prog_1_method_40_code 0 = .ok (.aload_n 0, 1) := by decide +kernel
theorem d_LP_oddness_1 : decode prog_1_method_40_code 1 = .ok (.getfield 68, 3) := by decide +kernel
theorem d_LP_oddness_4 : decode prog_1_method_40_code 4 = .ok (.getfield 193, 3) := by decide +kernel
theorem d_LP_oddness_7 : decode prog_1_method_40_code 7 = .ok (.iload_n 1, 1) := by decide +kernel
theorem d_LP_oddness_8 : decode prog_1_method_40_code 8 = .ok (.invokevirtual 279, 3) := by decide +kernel
theorem d_LP_oddness_11 : decode prog_1_method_40_code 11 = .ok (.ifCond .ne 9, 3) := by decide +kernel
theorem d_LP_oddness_14 : decode prog_1_method_40_code 14 = .ok (.aload_n 0, 1) := by decide +kernel
theorem d_LP_oddness_15 : decode prog_1_method_40_code 15 = .ok (.iconst 2, 1) := by decide +kernel
theorem d_LP_oddness_16 : decode prog_1_method_40_code 16 = .ok (.invokevirtual 133, 3) := by decide +kernel
theorem d_LP_oddness_19 : decode prog_1_method_40_code 19 = .ok (.ireturn, 1) := by decide +kernel
theorem d_LP_oddness_20 : decode prog_1_method_40_code 20 = .ok (.aload_n 0, 1) := by decide +kernel
theorem d_LP_oddness_21 : decode prog_1_method_40_code 21 = .ok (.aload_n 0, 1) := by decide +kernel
theorem d_LP_oddness_22 : decode prog_1_method_40_code 22 = .ok (.getfield 68, 3) := by decide +kernel
theorem d_LP_oddness_25 : decode prog_1_method_40_code 25 = .ok (.getfield 193, 3) := by decide +kernel
theorem d_LP_oddness_28 : decode prog_1_method_40_code 28 = .ok (.iload_n 1, 1) := by decide +kernel
theorem d_LP_oddness_29 : decode prog_1_method_40_code 29 = .ok (.invokevirtual 370, 3) := by decide +kernel
theorem d_LP_oddness_32 : decode prog_1_method_40_code 32 = .ok (.invokevirtual 180, 3) := by decide +kernel
theorem d_LP_oddness_35 : decode prog_1_method_40_code 35 = .ok (.ireturn, 1) := by decide +kernel
def LP_oddness (Y : Ly) (l0 : Nat) (l1 : Int32) (h : Hp) : Option (Int32 × Hp) :=
  (St_hasFinale Y (hGr h 400 (hGr h 1109 l0)) l1 h).bind fun q3 =>
  if q3 = true then
    (St_sumOdd Y (hGr h 400 (hGr h 1109 l0)) l1 h).bind fun q7 =>
    (LP_give Y l0 q7 h).bind fun q8 =>
    some (q8.1, q8.2)
  else
    (LP_fail Y l0 2 h).bind fun q9 =>
    some (q9.1, q9.2)
theorem ok_LP_oddness (Y : Ly) (l0 : Nat) (l1 : Int32) (h : Hp) (t0 : isO Y 11 l0) : AM Y 3 K_LP_oddness [.ref l0, .int l1] h (LP_oddness Y l0 l1 h) rI := by
  refine AM.of rfl (Nat.le_of_ble_eq_true rfl) ?_
  show AW Y 3 K_LP_oddness 0 [(0, .ref l0), (1, .int l1)] [] h (LP_oddness Y l0 l1 h) rI
  unfold LP_oddness
  refine aw_aload_n (pc := 0) d_LP_oddness_0 rfl 0 rfl ?_
  refine gt_1109 (pc := 1) d_LP_oddness_1 w3_9 t0 (fun tt1 => ?_)
  refine gt_400 (pc := 4) d_LP_oddness_4 w2_129 tt1 (fun tt2 => ?_)
  refine aw_iload_n (pc := 7) d_LP_oddness_7 rfl 1 rfl ?_
  refine aw_cVpZ (pc := 8) (ci := 6) (T := TX6) (N := 8) (As := [.int l1]) (st := []) (ok_St_hasFinale Y (hGr h 400 (hGr h 1109 l0)) l1 h tt2) okV_St_hasFinale rfl (by decide) tt2 w4_222 d_LP_oddness_8 rfl (Nat.le_of_ble_eq_true rfl) rfl (Nat.le_of_ble_eq_true rfl) (fun q3 hq3 hTq3 => ?_)
  refine aw_bne (pc := 11) (tgt := 20) d_LP_oddness_11 (by decide) (fun c4 => ?_) (fun c4 => ?_)
  · refine aw_aload_n (pc := 20) d_LP_oddness_20 rfl 0 rfl ?_
    refine aw_aload_n (pc := 21) d_LP_oddness_21 rfl 0 rfl ?_
    refine gt_1109 (pc := 22) d_LP_oddness_22 w3_9 t0 (fun tt5 => ?_)
    refine gt_400 (pc := 25) d_LP_oddness_25 w2_129 tt5 (fun tt6 => ?_)
    refine aw_iload_n (pc := 28) d_LP_oddness_28 rfl 1 rfl ?_
    refine aw_cVpI (pc := 29) (ci := 6) (T := TX6) (N := 8) (As := [.int l1]) (st := [.ref l0]) (ok_St_sumOdd Y (hGr h 400 (hGr h 1109 l0)) l1 h tt6) okV_St_sumOdd rfl (by decide) tt6 w5_217 d_LP_oddness_29 rfl (Nat.le_of_ble_eq_true rfl) rfl (Nat.le_of_ble_eq_true rfl) (fun q7 hq7 hTq7 => ?_)
    refine aw_cVrI (pc := 32) (ci := 11) (T := TX11) (N := 18) (As := [.int q7]) (st := []) (ok_LP_give Y l0 q7 h t0) okV_LP_give rfl (by decide) t0 w4_88 d_LP_oddness_32 rfl (Nat.le_of_ble_eq_true rfl) rfl (Nat.le_of_ble_eq_true rfl) (fun q8 hq8 hTq8 => ?_)
    exact aw_ireturn (pc := 35) d_LP_oddness_35 rfl rfl
  · refine aw_aload_n (pc := 14) d_LP_oddness_14 rfl 0 rfl ?_
    refine aw_iconst (pc := 15) (x := 2) d_LP_oddness_15 (by decide) ?_
    refine aw_cVrI (pc := 16) (ci := 11) (T := TX11) (N := 18) (As := [.int 2]) (st := []) (ok_LP_fail Y l0 2 h t0) okV_LP_fail rfl (by decide) t0 w3_114 d_LP_oddness_16 rfl (Nat.le_of_ble_eq_true rfl) rfl (Nat.le_of_ble_eq_true rfl) (fun q9 hq9 hTq9 => ?_)
    exact aw_ireturn (pc := 19) d_LP_oddness_19 rfl rfl
/-! LastPages.offer(II)I -/
theorem d_LP_offer_0 : decode prog_1_method_20_code 0 = .ok (.aload_n 0, 1) := by decide +kernel
theorem d_LP_offer_1 : decode prog_1_method_20_code 1 = .ok (.aload_n 0, 1) := by decide +kernel
theorem d_LP_offer_2 : decode prog_1_method_20_code 2 = .ok (.getfield 68, 3) := by decide +kernel
theorem d_LP_offer_5 : decode prog_1_method_20_code 5 = .ok (.getfield 214, 3) := by decide +kernel
theorem d_LP_offer_8 : decode prog_1_method_20_code 8 = .ok (.iload_n 1, 1) := by decide +kernel
theorem d_LP_offer_9 : decode prog_1_method_20_code 9 = .ok (.iload_n 2, 1) := by decide +kernel
theorem d_LP_offer_10 : decode prog_1_method_20_code 10 = .ok (.invokevirtual 288, 3) := by decide +kernel
theorem d_LP_offer_13 : decode prog_1_method_20_code 13 = .ok (.ireturn, 1) := by decide +kernel
def LP_offer (Y : Ly) (l0 : Nat) (l1 : Int32) (l2 : Int32) (h : Hp) : Option (Int32 × Hp) :=
  (LP_lotPart Y l0 (hGr h 401 (hGr h 1109 l0)) l1 l2 h).bind fun q3 =>
  some (q3.1, q3.2)
theorem ok_LP_offer (Y : Ly) (l0 : Nat) (l1 : Int32) (l2 : Int32) (h : Hp) (t0 : isO Y 11 l0) : AM Y 2 K_LP_offer [.ref l0, .int l1, .int l2] h (LP_offer Y l0 l1 l2 h) rI := by
  refine AM.of rfl (Nat.le_of_ble_eq_true rfl) ?_
  show AW Y 2 K_LP_offer 0 [(0, .ref l0), (1, .int l1), (2, .int l2)] [] h (LP_offer Y l0 l1 l2 h) rI
  unfold LP_offer
  refine aw_aload_n (pc := 0) d_LP_offer_0 rfl 0 rfl ?_
  refine aw_aload_n (pc := 1) d_LP_offer_1 rfl 0 rfl ?_
  refine gt_1109 (pc := 2) d_LP_offer_2 w3_9 t0 (fun tt1 => ?_)
  refine gt_401 (pc := 5) d_LP_offer_5 w2_132 tt1 (fun tt2 => ?_)
  refine aw_iload_n (pc := 8) d_LP_offer_8 rfl 1 rfl ?_
  refine aw_iload_n (pc := 9) d_LP_offer_9 rfl 2 rfl ?_
  refine aw_cVrI (pc := 10) (ci := 11) (T := TX11) (N := 18) (As := [.ref (hGr h 401 (hGr h 1109 l0)), .int l1, .int l2]) (st := []) (ok_LP_lotPart Y l0 (hGr h 401 (hGr h 1109 l0)) l1 l2 h t0 tt2) okV_LP_lotPart rfl (by decide) t0 w5_3 d_LP_offer_10 rfl (Nat.le_of_ble_eq_true rfl) rfl (Nat.le_of_ble_eq_true rfl) (fun q3 hq3 hTq3 => ?_)
  exact aw_ireturn (pc := 13) d_LP_offer_13 rfl rfl
/-! LastPages$Shelf.turnOnPage(II)I -/
theorem d_Sh_turnOnPage_0 : decode prog_6_method_13_code 0 = .ok (.aload_n 0, 1) := by decide +kernel
theorem d_Sh_turnOnPage_1 : decode prog_6_method_13_code 1 = .ok (.iload_n 1, 1) := by decide +kernel
theorem d_Sh_turnOnPage_2 : decode prog_6_method_13_code 2 = .ok (.invokevirtual 112, 3) := by decide +kernel
theorem d_Sh_turnOnPage_5 : decode prog_6_method_13_code 5 = .ok (.ifCond .eq 17, 3) := by decide +kernel
theorem d_Sh_turnOnPage_8 : decode prog_6_method_13_code 8 = .ok (.iload_n 2, 1) := by decide +kernel
theorem d_Sh_turnOnPage_9 : decode prog_6_method_13_code 9 = .ok (.ifCond .lt 13, 3) := by decide +kernel
theorem d_Sh_turnOnPage_12 : decode prog_6_method_13_code 12 = .ok (.iload_n 2, 1) := by decide +kernel
theorem d_Sh_turnOnPage_13 : decode prog_6_method_13_code 13 = .ok (.aload_n 0, 1) := by decide +kernel
theorem d_Sh_turnOnPage_14 : decode prog_6_method_13_code 14 = .ok (.getfield 47, 3) := by decide +kernel
theorem d_Sh_turnOnPage_17 : decode prog_6_method_13_code 17 = .ok (.iload_n 1, 1) := by decide +kernel
theorem d_Sh_turnOnPage_18 : decode prog_6_method_13_code 18 = .ok (.iaload, 1) := by decide +kernel
theorem d_Sh_turnOnPage_19 : decode prog_6_method_13_code 19 = .ok (.if_icmp .lt 5, 3) := by decide +kernel
theorem d_Sh_turnOnPage_22 : decode prog_6_method_13_code 22 = .ok (.iconst (-1), 1) := by decide +kernel
theorem d_Sh_turnOnPage_23 : decode prog_6_method_13_code 23 = .ok (.ireturn, 1) := by decide +kernel
theorem d_Sh_turnOnPage_24 : decode prog_6_method_13_code 24 = .ok (.aload_n 0, 1) := by decide +kernel
theorem d_Sh_turnOnPage_25 : decode prog_6_method_13_code 25 = .ok (.getfield 50, 3) := by decide +kernel
theorem d_Sh_turnOnPage_28 : decode prog_6_method_13_code 28 = .ok (.iload_n 1, 1) := by decide +kernel
theorem d_Sh_turnOnPage_29 : decode prog_6_method_13_code 29 = .ok (.bipush 10, 2) := by decide +kernel
theorem d_Sh_turnOnPage_31 : decode prog_6_method_13_code 31 = .ok (.imul, 1) := by decide +kernel
theorem d_Sh_turnOnPage_32 : decode prog_6_method_13_code 32 = .ok (.iload_n 2, 1) := by decide +kernel
theorem d_Sh_turnOnPage_33 : decode prog_6_method_13_code 33 = .ok (.iadd, 1) := by decide +kernel
theorem d_Sh_turnOnPage_34 : decode prog_6_method_13_code 34 = .ok (.iaload, 1) := by decide +kernel
theorem d_Sh_turnOnPage_35 : decode prog_6_method_13_code 35 = .ok (.ireturn, 1) := by decide +kernel
def Sh_turnOnPage (Y : Ly) (l0 : Nat) (l1 : Int32) (l2 : Int32) (h : Hp) : Option Int32 :=
  (Sh_hasBook Y l0 l1 h).bind fun q1 =>
  if q1 = true then
    if l2 < 0 then
      some (-1)
    else
      if inB l1 (lnY Y (hGr h 408 l0)) = true then
        if l2 < (hAi h (hGr h 408 l0) (Int32.toNatClampNeg l1)) then
          if inB ((l1 * 10) + l2) (lnY Y (hGr h 409 l0)) = true then
            some (hAi h (hGr h 409 l0) (Int32.toNatClampNeg ((l1 * 10) + l2)))
          else none
        else
          some (-1)
      else none
  else
    some (-1)
theorem ok_Sh_turnOnPage (Y : Ly) (l0 : Nat) (l1 : Int32) (l2 : Int32) (h : Hp) (t0 : isO Y 4 l0) : AM Y 1 K_Sh_turnOnPage [.ref l0, .int l1, .int l2] h (Sh_turnOnPage Y l0 l1 l2 h) (pI h) := by
  refine AM.of rfl (Nat.le_of_ble_eq_true rfl) ?_
  show AW Y 1 K_Sh_turnOnPage 0 [(0, .ref l0), (1, .int l1), (2, .int l2)] [] h (Sh_turnOnPage Y l0 l1 l2 h) (pI h)
  unfold Sh_turnOnPage
  refine aw_aload_n (pc := 0) d_Sh_turnOnPage_0 rfl 0 rfl ?_
  refine aw_iload_n (pc := 1) d_Sh_turnOnPage_1 rfl 1 rfl ?_
  refine aw_cVpZ (pc := 2) (ci := 4) (T := TX4) (N := 19) (As := [.int l1]) (st := []) (ok_Sh_hasBook Y l0 l1 h t0) okV_Sh_hasBook rfl (by decide) t0 w4_204 d_Sh_turnOnPage_2 rfl (Nat.le_of_ble_eq_true rfl) rfl (Nat.le_of_ble_eq_true rfl) (fun q1 hq1 hTq1 => ?_)
  refine aw_beq (pc := 5) (tgt := 22) d_Sh_turnOnPage_5 (by decide) (fun c2 => ?_) (fun c2 => ?_)
  · refine aw_iload_n (pc := 8) d_Sh_turnOnPage_8 rfl 2 rfl ?_
    refine aw_if_lt (pc := 9) (tgt := 22) d_Sh_turnOnPage_9 (by decide) (fun c3 => ?_) (fun c3 => ?_)
    · refine aw_iconst (pc := 22) (x := (-1)) d_Sh_turnOnPage_22 (by decide) ?_
      exact aw_ireturn (pc := 23) d_Sh_turnOnPage_23 rfl rfl
    · refine aw_iload_n (pc := 12) d_Sh_turnOnPage_12 rfl 2 rfl ?_
      refine aw_aload_n (pc := 13) d_Sh_turnOnPage_13 rfl 0 rfl ?_
      refine gt_408 (pc := 14) d_Sh_turnOnPage_14 w2_145 t0 (fun tt4 => ?_)
      refine aw_iload_n (pc := 17) d_Sh_turnOnPage_17 rfl 1 rfl ?_
      refine aw_iaload (pc := 18) d_Sh_turnOnPage_18 tt4 (fun c5 => ?_)
      refine aw_icmp_lt (pc := 19) (tgt := 24) d_Sh_turnOnPage_19 (by decide) (fun c6 => ?_) (fun c6 => ?_)
      · refine aw_aload_n (pc := 24) d_Sh_turnOnPage_24 rfl 0 rfl ?_
        refine gt_409 (pc := 25) d_Sh_turnOnPage_25 w2_147 t0 (fun tt7 => ?_)
        refine aw_iload_n (pc := 28) d_Sh_turnOnPage_28 rfl 1 rfl ?_
        refine aw_bipush (pc := 29) (x := 10) d_Sh_turnOnPage_29 (by decide) ?_
        refine aw_imul (pc := 31) d_Sh_turnOnPage_31 ?_
        refine aw_iload_n (pc := 32) d_Sh_turnOnPage_32 rfl 2 rfl ?_
        refine aw_iadd (pc := 33) d_Sh_turnOnPage_33 ?_
        refine aw_iaload (pc := 34) d_Sh_turnOnPage_34 tt7 (fun c8 => ?_)
        exact aw_ireturn (pc := 35) d_Sh_turnOnPage_35 rfl rfl
      · refine aw_iconst (pc := 22) (x := (-1)) d_Sh_turnOnPage_22 (by decide) ?_
        exact aw_ireturn (pc := 23) d_Sh_turnOnPage_23 rfl rfl
  · refine aw_iconst (pc := 22) (x := (-1)) d_Sh_turnOnPage_22 (by decide) ?_
    exact aw_ireturn (pc := 23) d_Sh_turnOnPage_23 rfl rfl
