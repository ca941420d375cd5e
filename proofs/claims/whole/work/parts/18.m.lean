/-! LastPages$Tokens.begin(I)V -/
theorem d_To_begin_0 : decode prog_9_method_3_code 0 = .ok (.aload_n 0, 1) := by decide +kernel
theorem d_To_begin_1 : decode prog_9_method_3_code 1 = .ok (.iconst 0, 1) := by decide +kernel
theorem d_To_begin_2 : decode prog_9_method_3_code 2 = .ok (.putfield 19, 3) := by decide +kernel
theorem d_To_begin_5 : decode prog_9_method_3_code 5 = .ok (.aload_n 0, 1) := by decide +kernel
theorem d_To_begin_6 : decode prog_9_method_3_code 6 = .ok (.iload_n 1, 1) := by decide +kernel
theorem d_To_begin_7 : decode prog_9_method_3_code 7 = .ok (.sipush 900, 3) := by decide +kernel
theorem d_To_begin_10 : decode prog_9_method_3_code 10 = .ok (.invokestatic 65, 3) := by decide +kernel
theorem d_To_begin_13 : decode prog_9_method_3_code 13 = .ok (.putfield 23, 3) := by decide +kernel
theorem d_To_begin_16 : decode prog_9_method_3_code 16 = .ok (.aload_n 0, 1) := by decide +kernel
theorem d_To_begin_17 : decode prog_9_method_3_code 17 = .ok (.iconst 0, 1) := by decide +kernel
theorem d_To_begin_18 : decode prog_9_method_3_code 18 = .ok (.putfield 26, 3) := by decide +kernel
theorem d_To_begin_21 : decode prog_9_method_3_code 21 = .ok (.aload_n 0, 1) := by decide +kernel
theorem d_To_begin_22 : decode prog_9_method_3_code 22 = .ok (.iconst 0, 1) := by decide +kernel
theorem d_To_begin_23 : decode prog_9_method_3_code 23 = .ok (.putfield 48, 3) := by decide +kernel
theorem d_To_begin_26 : decode prog_9_method_3_code 26 = .ok (.aload_n 0, 1) := by decide +kernel
theorem d_To_begin_27 : decode prog_9_method_3_code 27 = .ok (.iconst (-1), 1) := by decide +kernel
theorem d_To_begin_28 : decode prog_9_method_3_code 28 = .ok (.putfield 51, 3) := by decide +kernel
theorem d_To_begin_31 : decode prog_9_method_3_code 31 = .ok (.aload_n 0, 1) := by decide +kernel
theorem d_To_begin_32 : decode prog_9_method_3_code 32 = .ok (.invokevirtual 71, 3) := by decide +kernel
theorem d_To_begin_35 : decode prog_9_method_3_code 35 = .ok (.return_, 1) := by decide +kernel
def To_begin (Y : Ly) (l0 : Nat) (l1 : Int32) (h : Hp) : Option Hp :=
  letH (hSi h 702 l0 0) fun h1 =>
  letH (hSi h1 703 l0 (if 900 < l1 then 900 else l1)) fun h2 =>
  letH (hSi h2 704 l0 0) fun h3 =>
  letH (hSi h3 711 l0 0) fun h4 =>
  letH (hSi h4 712 l0 (-1)) fun h5 =>
  (To_advance Y l0 h5).bind fun q6 =>
  some q6
theorem ok_To_begin (Y : Ly) (l0 : Nat) (l1 : Int32) (h : Hp) (t0 : isO Y 7 l0) : AM Y 2 K_To_begin [.ref l0, .int l1] h (To_begin Y l0 l1 h) rV := by
  refine AM.of rfl (Nat.le_of_ble_eq_true rfl) ?_
  show AW Y 2 K_To_begin 0 [(0, .ref l0), (1, .int l1)] [] h (To_begin Y l0 l1 h) rV
  unfold To_begin
  refine aw_aload_n (pc := 0) d_To_begin_0 rfl 0 rfl ?_
  refine aw_iconst (pc := 1) (x := 0) d_To_begin_1 (by decide) ?_
  refine pt_702 (pc := 2) d_To_begin_2 w1_89 t0 ?_
  refine aw_letH (fun h1 => ?_)
  refine aw_aload_n (pc := 5) d_To_begin_5 rfl 0 rfl ?_
  refine aw_iload_n (pc := 6) d_To_begin_6 rfl 1 rfl ?_
  refine aw_sipush (pc := 7) (x := 900) d_To_begin_7 (by decide) ?_
  refine aw_mmin (pc := 10) d_To_begin_10 w3_163 w3_164 w1_15 w3_165 (Nat.le_of_ble_eq_true rfl) (Nat.le_of_ble_eq_true rfl) ?_
  refine pt_703 (pc := 13) d_To_begin_13 w1_91 t0 ?_
  refine aw_letH (fun h2 => ?_)
  refine aw_aload_n (pc := 16) d_To_begin_16 rfl 0 rfl ?_
  refine aw_iconst (pc := 17) (x := 0) d_To_begin_17 (by decide) ?_
  refine pt_704 (pc := 18) d_To_begin_18 w1_92 t0 ?_
  refine aw_letH (fun h3 => ?_)
  refine aw_aload_n (pc := 21) d_To_begin_21 rfl 0 rfl ?_
  refine aw_iconst (pc := 22) (x := 0) d_To_begin_22 (by decide) ?_
  refine pt_711 (pc := 23) d_To_begin_23 w1_105 t0 ?_
  refine aw_letH (fun h4 => ?_)
  refine aw_aload_n (pc := 26) d_To_begin_26 rfl 0 rfl ?_
  refine aw_iconst (pc := 27) (x := (-1)) d_To_begin_27 (by decide) ?_
  refine pt_712 (pc := 28) d_To_begin_28 w1_107 t0 ?_
  refine aw_letH (fun h5 => ?_)
  refine aw_aload_n (pc := 31) d_To_begin_31 rfl 0 rfl ?_
  refine aw_cVrV (pc := 32) (ci := 7) (T := TX7) (N := 13) (As := []) (st := []) (ok_To_advance Y l0 h5 t0) okV_To_advance rfl (by decide) t0 w3_166 d_To_begin_32 rfl (Nat.le_of_ble_eq_true rfl) rfl (Nat.le_of_ble_eq_true rfl) (fun q6 hq6 hTq6 => ?_)
  exact aw_return (pc := 35) d_To_begin_35 rfl rfl
/-! LastPages$ShelfReader.readShelf(LLastPages$Tokens;LLastPages$Shelf;I)Z -/
theorem d_SR_readShelf_0 : decode prog_7_method_2_code 0 = .ok (.aload_n 2, 1) := by decide +kernel
theorem d_SR_readShelf_1 : decode prog_7_method_2_code 1 = .ok (.invokevirtual 19, 3) := by decide +kernel
theorem d_SR_readShelf_4 : decode prog_7_method_2_code 4 = .ok (.aload_n 1, 1) := by decide +kernel
theorem d_SR_readShelf_5 : decode prog_7_method_2_code 5 = .ok (.iload_n 3, 1) := by decide +kernel
theorem d_SR_readShelf_6 : decode prog_7_method_2_code 6 = .ok (.invokevirtual 24, 3) := by decide +kernel
theorem d_SR_readShelf_9 : decode prog_7_method_2_code 9 = .ok (.iconst 0, 1) := by decide +kernel
theorem d_SR_readShelf_10 : decode prog_7_method_2_code 10 = .ok (.istore 4, 2) := by decide +kernel
theorem d_SR_readShelf_12 : decode prog_7_method_2_code 12 = .ok (.iload 4, 2) := by decide +kernel
theorem d_SR_readShelf_14 : decode prog_7_method_2_code 14 = .ok (.sipush 900, 3) := by decide +kernel
theorem d_SR_readShelf_17 : decode prog_7_method_2_code 17 = .ok (.if_icmp .gt 27, 3) := by decide +kernel
theorem d_SR_readShelf_20 : decode prog_7_method_2_code 20 = .ok (.aload_n 1, 1) := by decide +kernel
theorem d_SR_readShelf_21 : decode prog_7_method_2_code 21 = .ok (.getfield 30, 3) := by decide +kernel
theorem d_SR_readShelf_24 : decode prog_7_method_2_code 24 = .ok (.ifCond .eq 20, 3) := by decide +kernel
theorem d_SR_readShelf_27 : decode prog_7_method_2_code 27 = .ok (.aload_n 0, 1) := by decide +kernel
theorem d_SR_readShelf_28 : decode prog_7_method_2_code 28 = .ok (.aload_n 1, 1) := by decide +kernel
theorem d_SR_readShelf_29 : decode prog_7_method_2_code 29 = .ok (.aload_n 2, 1) := by decide +kernel
theorem d_SR_readShelf_30 : decode prog_7_method_2_code 30 = .ok (.invokevirtual 33, 3) := by decide +kernel
theorem d_SR_readShelf_33 : decode prog_7_method_2_code 33 = .ok (.ifCond .ne 5, 3) := by decide +kernel
theorem d_SR_readShelf_36 : decode prog_7_method_2_code 36 = .ok (.iconst 0, 1) := by decide +kernel
theorem d_SR_readShelf_37 : decode prog_7_method_2_code 37 = .ok (.ireturn, 1) := by decide +kernel
theorem d_SR_readShelf_38 : decode prog_7_method_2_code 38 = .ok (.iinc 4 1, 3) := by decide +kernel
theorem d_SR_readShelf_41 : decode prog_7_method_2_code 41 = .ok (.goto (-29), 3) := by decide +kernel
theorem d_SR_readShelf_44 : decode prog_7_method_2_code 44 = .ok (.iconst 1, 1) := by decide +kernel
theorem d_SR_readShelf_45 : decode prog_7_method_2_code 45 = .ok (.ireturn, 1) := by decide +kernel
def SR_readShelf_L12 (Y : Ly) (l0 : Nat) (l1 : Nat) (l2 : Nat) : Nat → Int32 → Hp → Option (Bool × Hp)
  | 0, _, _ => none
  | F + 1, l4, h =>
    if 900 < l4 then
      some (true, h)
    else
      if (hGi h 705 l1) = 0 then
        some (true, h)
      else
        (SR_readPart Y l0 l1 l2 h).bind fun q5 =>
        if q5.1 = true then
          SR_readShelf_L12 Y l0 l1 l2 F (l4 + 1) q5.2
        else
          some (false, q5.2)
theorem SR_readShelf_L12_ok (Y : Ly) (l0 : Nat) (l1 : Nat) (l2 : Nat) (tl0 : isO Y 5 l0) (tl1 : isO Y 7 l1) (tl2 : isO Y 4 l2) : ∀ (F : Nat) (l4 : Int32) (h : Hp), AW Y 5 K_SR_readShelf 12 [(0, .ref l0), (1, .ref l1), (2, .ref l2), (4, .int l4)] [] h (SR_readShelf_L12 Y l0 l1 l2 F l4 h) rZ := by
  intro F
  induction F with
  | zero =>
    intro l4 h
    exact aw_none
  | succ F ih =>
    intro l4 h
    unfold SR_readShelf_L12
    refine aw_iload (pc := 12) d_SR_readShelf_12 3 rfl ?_
    refine aw_sipush (pc := 14) (x := 900) d_SR_readShelf_14 (by decide) ?_
    refine aw_icmp_gt (pc := 17) (tgt := 44) d_SR_readShelf_17 (by decide) (fun c3 => ?_) (fun c3 => ?_)
    · refine aw_iconst (pc := 44) (x := 1) d_SR_readShelf_44 (by decide) ?_
      exact aw_zreturn (pc := 45) (b := true) d_SR_readShelf_45 rfl rfl
    · refine aw_aload_n (pc := 20) d_SR_readShelf_20 rfl 1 rfl ?_
      refine gt_705 (pc := 21) d_SR_readShelf_21 w1_94 tl1 ?_
      refine aw_if_eq (pc := 24) (tgt := 44) d_SR_readShelf_24 (by decide) (fun c4 => ?_) (fun c4 => ?_)
      · refine aw_iconst (pc := 44) (x := 1) d_SR_readShelf_44 (by decide) ?_
        exact aw_zreturn (pc := 45) (b := true) d_SR_readShelf_45 rfl rfl
      · refine aw_aload_n (pc := 27) d_SR_readShelf_27 rfl 0 rfl ?_
        refine aw_aload_n (pc := 28) d_SR_readShelf_28 rfl 1 rfl ?_
        refine aw_aload_n (pc := 29) d_SR_readShelf_29 rfl 2 rfl ?_
        refine aw_cVrZ (pc := 30) (ci := 5) (T := TX5) (N := 2) (As := [.ref l1, .ref l2]) (st := []) (ok_SR_readPart Y l0 l1 l2 h tl0 tl1 tl2) okV_SR_readPart rfl (by decide) tl0 w3_181 d_SR_readShelf_30 rfl (Nat.le_of_ble_eq_true rfl) rfl (Nat.le_of_ble_eq_true rfl) (fun q5 hq5 hTq5 => ?_)
        refine aw_bne (pc := 33) (tgt := 38) d_SR_readShelf_33 (by decide) (fun c6 => ?_) (fun c6 => ?_)
        · refine aw_iinc (pc := 38) (w := l4 + 1) (lv' := [(4, .int (l4 + 1)), (0, .ref l0), (1, .ref l1), (2, .ref l2)]) d_SR_readShelf_38 3 rfl rfl (by decide) rfl ?_
          refine aw_goto (pc := 41) (tgt := 12) d_SR_readShelf_41 (by decide) ?_
          exact aw_lv [1, 2, 3, 0] rfl (ih (l4 + 1) q5.2)
        · refine aw_iconst (pc := 36) (x := 0) d_SR_readShelf_36 (by decide) ?_
          exact aw_zreturn (pc := 37) (b := false) d_SR_readShelf_37 rfl rfl
def SR_readShelf (Y : Ly) (l0 : Nat) (l1 : Nat) (l2 : Nat) (l3 : Int32) (h : Hp) : Option (Bool × Hp) :=
  (Sh_empty Y l2 h).bind fun q1 =>
  (To_begin Y l1 l3 q1).bind fun q2 =>
  SR_readShelf_L12 Y l0 l1 l2 FU 0 q2
theorem ok_SR_readShelf (Y : Ly) (l0 : Nat) (l1 : Nat) (l2 : Nat) (l3 : Int32) (h : Hp) (t0 : isO Y 5 l0) (t1 : isO Y 7 l1) (t2 : isO Y 4 l2) : AM Y 5 K_SR_readShelf [.ref l0, .ref l1, .ref l2, .int l3] h (SR_readShelf Y l0 l1 l2 l3 h) rZ := by
  refine AM.of rfl (Nat.le_of_ble_eq_true rfl) ?_
  show AW Y 5 K_SR_readShelf 0 [(0, .ref l0), (1, .ref l1), (2, .ref l2), (3, .int l3)] [] h (SR_readShelf Y l0 l1 l2 l3 h) rZ
  unfold SR_readShelf
  refine aw_aload_n (pc := 0) d_SR_readShelf_0 rfl 2 rfl ?_
  refine aw_cVrV (pc := 1) (ci := 4) (T := TX4) (N := 19) (As := []) (st := []) (ok_Sh_empty Y l2 h t2) okV_Sh_empty rfl (by decide) t2 w3_146 d_SR_readShelf_1 rfl (Nat.le_of_ble_eq_true rfl) rfl (Nat.le_of_ble_eq_true rfl) (fun q1 hq1 hTq1 => ?_)
  refine aw_aload_n (pc := 4) d_SR_readShelf_4 rfl 1 rfl ?_
  refine aw_iload_n (pc := 5) d_SR_readShelf_5 rfl 3 rfl ?_
  refine aw_cVrV (pc := 6) (ci := 7) (T := TX7) (N := 13) (As := [.int l3]) (st := []) (ok_To_begin Y l1 l3 q1 t1) okV_To_begin rfl (by decide) t1 w3_159 d_SR_readShelf_6 rfl (Nat.le_of_ble_eq_true rfl) rfl (Nat.le_of_ble_eq_true rfl) (fun q2 hq2 hTq2 => ?_)
  refine aw_iconst (pc := 9) (x := 0) d_SR_readShelf_9 (by decide) ?_
  refine aw_istore (pc := 10) (lv' := [(4, .int 0), (0, .ref l0), (1, .ref l1), (2, .ref l2), (3, .int l3)]) d_SR_readShelf_10 (by decide) rfl ?_
  exact aw_lv [1, 2, 3, 0] rfl (SR_readShelf_L12_ok Y l0 l1 l2 t0 t1 t2 FU 0 q2)
/-! LastPages.shelf(I)I -/
theorem d_LP_shelf_0 : decode prog_1_method_10_code 0 = .ok (.iload_n 1, 1) := by decide +kernel
theorem d_LP_shelf_1 : decode prog_1_method_10_code 1 = .ok (.ifCond .lt 14, 3) := by decide +kernel
theorem d_LP_shelf_4 : decode prog_1_method_10_code 4 = .ok (.iload_n 1, 1) := by decide +kernel
theorem d_LP_shelf_5 : decode prog_1_method_10_code 5 = .ok (.aload_n 0, 1) := by decide +kernel
theorem d_LP_shelf_6 : decode prog_1_method_10_code 6 = .ok (.getfield 18, 3) := by decide +kernel
theorem d_LP_shelf_9 : decode prog_1_method_10_code 9 = .ok (.getfield 162, 3) := by decide +kernel
theorem d_LP_shelf_12 : decode prog_1_method_10_code 12 = .ok (.if_icmp .le 9, 3) := by decide +kernel
theorem d_LP_shelf_15 : decode prog_1_method_10_code 15 = .ok (.aload_n 0, 1) := by decide +kernel
theorem d_LP_shelf_16 : decode prog_1_method_10_code 16 = .ok (.iconst 5, 1) := by decide +kernel
theorem d_LP_shelf_17 : decode prog_1_method_10_code 17 = .ok (.invokevirtual 133, 3) := by decide +kernel
theorem d_LP_shelf_20 : decode prog_1_method_10_code 20 = .ok (.ireturn, 1) := by decide +kernel
theorem d_LP_shelf_21 : decode prog_1_method_10_code 21 = .ok (.aload_n 0, 1) := by decide +kernel
theorem d_LP_shelf_22 : decode prog_1_method_10_code 22 = .ok (.getfield 25, 3) := by decide +kernel
theorem d_LP_shelf_25 : decode prog_1_method_10_code 25 = .ok (.aload_n 0, 1) := by decide +kernel
theorem d_LP_shelf_26 : decode prog_1_method_10_code 26 = .ok (.getfield 18, 3) := by decide +kernel
theorem d_LP_shelf_29 : decode prog_1_method_10_code 29 = .ok (.aload_n 0, 1) := by decide +kernel
theorem d_LP_shelf_30 : decode prog_1_method_10_code 30 = .ok (.getfield 72, 3) := by decide +kernel
theorem d_LP_shelf_33 : decode prog_1_method_10_code 33 = .ok (.iload_n 1, 1) := by decide +kernel
theorem d_LP_shelf_34 : decode prog_1_method_10_code 34 = .ok (.invokevirtual 169, 3) := by decide +kernel
theorem d_LP_shelf_37 : decode prog_1_method_10_code 37 = .ok (.istore_n 2, 1) := by decide +kernel
theorem d_LP_shelf_38 : decode prog_1_method_10_code 38 = .ok (.aload_n 0, 1) := by decide +kernel
theorem d_LP_shelf_39 : decode prog_1_method_10_code 39 = .ok (.iload_n 2, 1) := by decide +kernel
theorem d_LP_shelf_40 : decode prog_1_method_10_code 40 = .ok (.invokevirtual 173, 3) := by decide +kernel
theorem d_LP_shelf_43 : decode prog_1_method_10_code 43 = .ok (.iload_n 2, 1) := by decide +kernel
theorem d_LP_shelf_44 : decode prog_1_method_10_code 44 = .ok (.ifCond .ne 10, 3) := by decide +kernel
theorem d_LP_shelf_47 : decode prog_1_method_10_code 47 = .ok (.aload_n 0, 1) := by decide +kernel
theorem d_LP_shelf_48 : decode prog_1_method_10_code 48 = .ok (.bipush 10, 2) := by decide +kernel
theorem d_LP_shelf_50 : decode prog_1_method_10_code 50 = .ok (.invokevirtual 133, 3) := by decide +kernel
theorem d_LP_shelf_53 : decode prog_1_method_10_code 53 = .ok (.ireturn, 1) := by decide +kernel
theorem d_LP_shelf_54 : decode prog_1_method_10_code 54 = .ok (.aload_n 0, 1) := by decide +kernel
theorem d_LP_shelf_55 : decode prog_1_method_10_code 55 = .ok (.getfield 68, 3) := by decide +kernel
theorem d_LP_shelf_58 : decode prog_1_method_10_code 58 = .ok (.astore_n 3, 1) := by decide +kernel
theorem d_LP_shelf_59 : decode prog_1_method_10_code 59 = .ok (.aload_n 0, 1) := by decide +kernel
theorem d_LP_shelf_60 : decode prog_1_method_10_code 60 = .ok (.aload_n 0, 1) := by decide +kernel
theorem d_LP_shelf_61 : decode prog_1_method_10_code 61 = .ok (.getfield 72, 3) := by decide +kernel
theorem d_LP_shelf_64 : decode prog_1_method_10_code 64 = .ok (.putfield 68, 3) := by decide +kernel
theorem d_LP_shelf_67 : decode prog_1_method_10_code 67 = .ok (.aload_n 0, 1) := by decide +kernel
theorem d_LP_shelf_68 : decode prog_1_method_10_code 68 = .ok (.aload_n 3, 1) := by decide +kernel
theorem d_LP_shelf_69 : decode prog_1_method_10_code 69 = .ok (.putfield 72, 3) := by decide +kernel
theorem d_LP_shelf_72 : decode prog_1_method_10_code 72 = .ok (.aload_n 0, 1) := by decide +kernel
theorem d_LP_shelf_73 : decode prog_1_method_10_code 73 = .ok (.aload_n 0, 1) := by decide +kernel
theorem d_LP_shelf_74 : decode prog_1_method_10_code 74 = .ok (.getfield 68, 3) := by decide +kernel
theorem d_LP_shelf_77 : decode prog_1_method_10_code 77 = .ok (.getfield 177, 3) := by decide +kernel
theorem d_LP_shelf_80 : decode prog_1_method_10_code 80 = .ok (.invokevirtual 180, 3) := by decide +kernel
theorem d_LP_shelf_83 : decode prog_1_method_10_code 83 = .ok (.ireturn, 1) := by decide +kernel
def LP_shelf (Y : Ly) (l0 : Nat) (l1 : Int32) (h : Hp) : Option (Int32 × Hp) :=
  if l1 < 0 then
    (LP_fail Y l0 5 h).bind fun q2 =>
    some (q2.1, q2.2)
  else
    if l1 ≤ (hGi h 702 (hGr h 1101 l0)) then
      (SR_readShelf Y (hGr h 1102 l0) (hGr h 1101 l0) (hGr h 1110 l0) l1 h).bind fun q8 =>
      (LP_keepFault Y l0 q8.1 q8.2).bind fun q9 =>
      if q8.1 = true then
        letH (hSr q9 1109 l0 (hGr q9 1110 l0)) fun h13 =>
        letH (hSr h13 1110 l0 (hGr q9 1109 l0)) fun h14 =>
        (LP_give Y l0 (hGi h14 415 (hGr h14 1109 l0)) h14).bind fun q16 =>
        some (q16.1, q16.2)
      else
        (LP_fail Y l0 10 q9).bind fun q17 =>
        some (q17.1, q17.2)
    else
      (LP_fail Y l0 5 h).bind fun q18 =>
      some (q18.1, q18.2)
theorem ok_LP_shelf (Y : Ly) (l0 : Nat) (l1 : Int32) (h : Hp) (t0 : isO Y 11 l0) : AM Y 6 K_LP_shelf [.ref l0, .int l1] h (LP_shelf Y l0 l1 h) rI := by
  refine AM.of rfl (Nat.le_of_ble_eq_true rfl) ?_
  show AW Y 6 K_LP_shelf 0 [(0, .ref l0), (1, .int l1)] [] h (LP_shelf Y l0 l1 h) rI
  unfold LP_shelf
  refine aw_iload_n (pc := 0) d_LP_shelf_0 rfl 1 rfl ?_
  refine aw_if_lt (pc := 1) (tgt := 15) d_LP_shelf_1 (by decide) (fun c1 => ?_) (fun c1 => ?_)
  · refine aw_aload_n (pc := 15) d_LP_shelf_15 rfl 0 rfl ?_
    refine aw_iconst (pc := 16) (x := 5) d_LP_shelf_16 (by decide) ?_
    refine aw_cVrI (pc := 17) (ci := 11) (T := TX11) (N := 18) (As := [.int 5]) (st := []) (ok_LP_fail Y l0 5 h t0) okV_LP_fail rfl (by decide) t0 w3_114 d_LP_shelf_17 rfl (Nat.le_of_ble_eq_true rfl) rfl (Nat.le_of_ble_eq_true rfl) (fun q2 hq2 hTq2 => ?_)
    exact aw_ireturn (pc := 20) d_LP_shelf_20 rfl rfl
  · refine aw_iload_n (pc := 4) d_LP_shelf_4 rfl 1 rfl ?_
    refine aw_aload_n (pc := 5) d_LP_shelf_5 rfl 0 rfl ?_
    refine gt_1101 (pc := 6) d_LP_shelf_6 w3_1 t0 (fun tt3 => ?_)
    refine gt_702 (pc := 9) d_LP_shelf_9 w1_90 tt3 ?_
    refine aw_icmp_le (pc := 12) (tgt := 21) d_LP_shelf_12 (by decide) (fun c4 => ?_) (fun c4 => ?_)
    · refine aw_aload_n (pc := 21) d_LP_shelf_21 rfl 0 rfl ?_
      refine gt_1102 (pc := 22) d_LP_shelf_22 w3_2 t0 (fun tt5 => ?_)
      refine aw_aload_n (pc := 25) d_LP_shelf_25 rfl 0 rfl ?_
      refine gt_1101 (pc := 26) d_LP_shelf_26 w3_1 t0 (fun tt6 => ?_)
      refine aw_aload_n (pc := 29) d_LP_shelf_29 rfl 0 rfl ?_
      refine gt_1110 (pc := 30) d_LP_shelf_30 w3_10 t0 (fun tt7 => ?_)
      refine aw_iload_n (pc := 33) d_LP_shelf_33 rfl 1 rfl ?_
      refine aw_cVrZ (pc := 34) (ci := 5) (T := TX5) (N := 2) (As := [.ref (hGr h 1101 l0), .ref (hGr h 1110 l0), .int l1]) (st := []) (ok_SR_readShelf Y (hGr h 1102 l0) (hGr h 1101 l0) (hGr h 1110 l0) l1 h tt5 tt6 tt7) okV_SR_readShelf rfl (by decide) tt5 w3_142 d_LP_shelf_34 rfl (Nat.le_of_ble_eq_true rfl) rfl (Nat.le_of_ble_eq_true rfl) (fun q8 hq8 hTq8 => ?_)
      refine aw_istore_n (pc := 37) (lv' := [(2, .int (b2i q8.1)), (0, .ref l0), (1, .int l1)]) d_LP_shelf_37 rfl (by decide) rfl ?_
      refine aw_aload_n (pc := 38) d_LP_shelf_38 rfl 1 rfl ?_
      refine aw_iload_n (pc := 39) d_LP_shelf_39 rfl 0 rfl ?_
      refine aw_cVrV (pc := 40) (ci := 11) (T := TX11) (N := 18) (As := [.int (b2i q8.1)]) (st := []) (ok_LP_keepFault Y l0 q8.1 q8.2 t0) okV_LP_keepFault rfl (by decide) t0 w4_84 d_LP_shelf_40 rfl (Nat.le_of_ble_eq_true rfl) rfl (Nat.le_of_ble_eq_true rfl) (fun q9 hq9 hTq9 => ?_)
      refine aw_iload_n (pc := 43) d_LP_shelf_43 rfl 0 rfl ?_
      refine aw_bne (pc := 44) (tgt := 54) d_LP_shelf_44 (by decide) (fun c10 => ?_) (fun c10 => ?_)
      · refine aw_aload_n (pc := 54) d_LP_shelf_54 rfl 1 rfl ?_
        refine gt_1109 (pc := 55) d_LP_shelf_55 w3_9 t0 (fun tt11 => ?_)
        refine aw_astore_n (pc := 58) (lv' := [(3, .ref (hGr q9 1109 l0)), (2, .int (b2i q8.1)), (0, .ref l0), (1, .int l1)]) d_LP_shelf_58 rfl (by decide) rfl ?_
        refine aw_aload_n (pc := 59) d_LP_shelf_59 rfl 2 rfl ?_
        refine aw_aload_n (pc := 60) d_LP_shelf_60 rfl 2 rfl ?_
        refine gt_1110 (pc := 61) d_LP_shelf_61 w3_10 t0 (fun tt12 => ?_)
        refine pt_1109 (pc := 64) d_LP_shelf_64 w3_9 t0 tt12 ?_
        refine aw_letH (fun h13 => ?_)
        refine aw_aload_n (pc := 67) d_LP_shelf_67 rfl 2 rfl ?_
        refine aw_aload_n (pc := 68) d_LP_shelf_68 rfl 0 rfl ?_
        refine pt_1110 (pc := 69) d_LP_shelf_69 w3_10 t0 tt11 ?_
        refine aw_letH (fun h14 => ?_)
        refine aw_aload_n (pc := 72) d_LP_shelf_72 rfl 2 rfl ?_
        refine aw_aload_n (pc := 73) d_LP_shelf_73 rfl 2 rfl ?_
        refine gt_1109 (pc := 74) d_LP_shelf_74 w3_9 t0 (fun tt15 => ?_)
        refine gt_415 (pc := 77) d_LP_shelf_77 w2_161 tt15 ?_
        refine aw_cVrI (pc := 80) (ci := 11) (T := TX11) (N := 18) (As := [.int (hGi h14 415 (hGr h14 1109 l0))]) (st := []) (ok_LP_give Y l0 (hGi h14 415 (hGr h14 1109 l0)) h14 t0) okV_LP_give rfl (by decide) t0 w4_88 d_LP_shelf_80 rfl (Nat.le_of_ble_eq_true rfl) rfl (Nat.le_of_ble_eq_true rfl) (fun q16 hq16 hTq16 => ?_)
        exact aw_ireturn (pc := 83) d_LP_shelf_83 rfl rfl
      · refine aw_aload_n (pc := 47) d_LP_shelf_47 rfl 1 rfl ?_
        refine aw_bipush (pc := 48) (x := 10) d_LP_shelf_48 (by decide) ?_
        refine aw_cVrI (pc := 50) (ci := 11) (T := TX11) (N := 18) (As := [.int 10]) (st := []) (ok_LP_fail Y l0 10 q9 t0) okV_LP_fail rfl (by decide) t0 w3_114 d_LP_shelf_50 rfl (Nat.le_of_ble_eq_true rfl) rfl (Nat.le_of_ble_eq_true rfl) (fun q17 hq17 hTq17 => ?_)
        exact aw_ireturn (pc := 53) d_LP_shelf_53 rfl rfl
    · refine aw_aload_n (pc := 15) d_LP_shelf_15 rfl 0 rfl ?_
      refine aw_iconst (pc := 16) (x := 5) d_LP_shelf_16 (by decide) ?_
      refine aw_cVrI (pc := 17) (ci := 11) (T := TX11) (N := 18) (As := [.int 5]) (st := []) (ok_LP_fail Y l0 5 h t0) okV_LP_fail rfl (by decide) t0 w3_114 d_LP_shelf_17 rfl (Nat.le_of_ble_eq_true rfl) rfl (Nat.le_of_ble_eq_true rfl) (fun q18 hq18 hTq18 => ?_)
      exact aw_ireturn (pc := 20) d_LP_shelf_20 rfl rfl
/-! LastPages.status()I -/
theorem d_LP_status_0 : decode prog_1_method_2_code 0 = .ok (.aload_n 0, 1) := by decide +kernel
theorem d_LP_status_1 : decode prog_1_method_2_code 1 = .ok (.getfield 82, 3) := by decide +kernel
theorem d_LP_status_4 : decode prog_1_method_2_code 4 = .ok (.ireturn, 1) := by decide +kernel
def LP_status (Y : Ly) (l0 : Nat) (h : Hp) : Option Int32 :=
  some (hGi h 1112 l0)
theorem ok_LP_status (Y : Ly) (l0 : Nat) (h : Hp) (t0 : isO Y 11 l0) : AM Y 0 K_LP_status [.ref l0] h (LP_status Y l0 h) (pI h) := by
  refine AM.of rfl (Nat.le_of_ble_eq_true rfl) ?_
  show AW Y 0 K_LP_status 0 [(0, .ref l0)] [] h (LP_status Y l0 h) (pI h)
  unfold LP_status
  refine aw_aload_n (pc := 0) d_LP_status_0 rfl 0 rfl ?_
  refine gt_1112 (pc := 1) d_LP_status_1 w3_12 t0 ?_
  exact aw_ireturn (pc := 4) d_LP_status_4 rfl rfl
/-! LastPages.strange(II)Z -/
theorem d_LP_strange_0 : decode prog_1_method_26_code 0 = .ok (.aload_n 0, 1) := by decide +kernel
theorem d_LP_strange_1 : decode prog_1_method_26_code 1 = .ok (.getfield 68, 3) := by decide +kernel
theorem d_LP_strange_4 : decode prog_1_method_26_code 4 = .ok (.getfield 193, 3) := by decide +kernel
theorem d_LP_strange_7 : decode prog_1_method_26_code 7 = .ok (.iload_n 1, 1) := by decide +kernel
theorem d_LP_strange_8 : decode prog_1_method_26_code 8 = .ok (.invokevirtual 242, 3) := by decide +kernel
theorem d_LP_strange_11 : decode prog_1_method_26_code 11 = .ok (.ifCond .ne 9, 3) := by decide +kernel
theorem d_LP_strange_14 : decode prog_1_method_26_code 14 = .ok (.aload_n 0, 1) := by decide +kernel
theorem d_LP_strange_15 : decode prog_1_method_26_code 15 = .ok (.iconst 2, 1) := by decide +kernel
theorem d_LP_strange_16 : decode prog_1_method_26_code 16 = .ok (.invokevirtual 113, 3) := by decide +kernel
theorem d_LP_strange_19 : decode prog_1_method_26_code 19 = .ok (.ireturn, 1) := by decide +kernel
theorem d_LP_strange_20 : decode prog_1_method_26_code 20 = .ok (.iload_n 2, 1) := by decide +kernel
theorem d_LP_strange_21 : decode prog_1_method_26_code 21 = .ok (.ifCond .lt 9, 3) := by decide +kernel
theorem d_LP_strange_24 : decode prog_1_method_26_code 24 = .ok (.iload_n 2, 1) := by decide +kernel
theorem d_LP_strange_25 : decode prog_1_method_26_code 25 = .ok (.bipush 9, 2) := by decide +kernel
theorem d_LP_strange_27 : decode prog_1_method_26_code 27 = .ok (.if_icmp .le 9, 3) := by decide +kernel
theorem d_LP_strange_30 : decode prog_1_method_26_code 30 = .ok (.aload_n 0, 1) := by decide +kernel
theorem d_LP_strange_31 : decode prog_1_method_26_code 31 = .ok (.iconst 5, 1) := by decide +kernel
theorem d_LP_strange_32 : decode prog_1_method_26_code 32 = .ok (.invokevirtual 113, 3) := by decide +kernel
theorem d_LP_strange_35 : decode prog_1_method_26_code 35 = .ok (.ireturn, 1) := by decide +kernel
theorem d_LP_strange_36 : decode prog_1_method_26_code 36 = .ok (.aload_n 0, 1) := by decide +kernel
theorem d_LP_strange_37 : decode prog_1_method_26_code 37 = .ok (.getfield 68, 3) := by decide +kernel
theorem d_LP_strange_40 : decode prog_1_method_26_code 40 = .ok (.getfield 193, 3) := by decide +kernel
theorem d_LP_strange_43 : decode prog_1_method_26_code 43 = .ok (.getfield 312, 3) := by decide +kernel
theorem d_LP_strange_46 : decode prog_1_method_26_code 46 = .ok (.iload_n 1, 1) := by decide +kernel
theorem d_LP_strange_47 : decode prog_1_method_26_code 47 = .ok (.iload_n 2, 1) := by decide +kernel
theorem d_LP_strange_48 : decode prog_1_method_26_code 48 = .ok (.iastore, 1) := by decide +kernel
theorem d_LP_strange_49 : decode prog_1_method_26_code 49 = .ok (.aload_n 0, 1) := by decide +kernel
theorem d_LP_strange_50 : decode prog_1_method_26_code 50 = .ok (.invokevirtual 121, 3) := by decide +kernel
theorem d_LP_strange_53 : decode prog_1_method_26_code 53 = .ok (.ireturn, 1) := by decide +kernel
def LP_strange (Y : Ly) (l0 : Nat) (l1 : Int32) (l2 : Int32) (h : Hp) : Option (Bool × Hp) :=
  (St_hasTurn Y (hGr h 400 (hGr h 1109 l0)) l1 h).bind fun q3 =>
  if q3 = true then
    if l2 < 0 then
      (LP_refuse Y l0 5 h).bind fun q6 =>
      some (q6.1, q6.2)
    else
      if l2 ≤ 9 then
        if inB l1 (lnY Y (hGr h 600 (hGr h 400 (hGr h 1109 l0)))) = true then
          letH (hTi h (hGr h 600 (hGr h 400 (hGr h 1109 l0))) (Int32.toNatClampNeg l1) l2) fun h12 =>
          (LP_agree Y l0 h12).bind fun q13 =>
          some (q13.1, q13.2)
        else none
      else
        (LP_refuse Y l0 5 h).bind fun q14 =>
        some (q14.1, q14.2)
  else
    (LP_refuse Y l0 2 h).bind fun q15 =>
    some (q15.1, q15.2)
theorem ok_LP_strange (Y : Ly) (l0 : Nat) (l1 : Int32) (l2 : Int32) (h : Hp) (t0 : isO Y 11 l0) : AM Y 1 K_LP_strange [.ref l0, .int l1, .int l2] h (LP_strange Y l0 l1 l2 h) rZ := by
  refine AM.of rfl (Nat.le_of_ble_eq_true rfl) ?_
  show AW Y 1 K_LP_strange 0 [(0, .ref l0), (1, .int l1), (2, .int l2)] [] h (LP_strange Y l0 l1 l2 h) rZ
  unfold LP_strange
  refine aw_aload_n (pc := 0) d_LP_strange_0 rfl 0 rfl ?_
  refine gt_1109 (pc := 1) d_LP_strange_1 w3_9 t0 (fun tt1 => ?_)
  refine gt_400 (pc := 4) d_LP_strange_4 w2_129 tt1 (fun tt2 => ?_)
  refine aw_iload_n (pc := 7) d_LP_strange_7 rfl 1 rfl ?_
  refine aw_cVpZ (pc := 8) (ci := 6) (T := TX6) (N := 8) (As := [.int l1]) (st := []) (ok_St_hasTurn Y (hGr h 400 (hGr h 1109 l0)) l1 h tt2) okV_St_hasTurn rfl (by decide) tt2 w4_181 d_LP_strange_8 rfl (Nat.le_of_ble_eq_true rfl) rfl (Nat.le_of_ble_eq_true rfl) (fun q3 hq3 hTq3 => ?_)
  refine aw_bne (pc := 11) (tgt := 20) d_LP_strange_11 (by decide) (fun c4 => ?_) (fun c4 => ?_)
  · refine aw_iload_n (pc := 20) d_LP_strange_20 rfl 2 rfl ?_
    refine aw_if_lt (pc := 21) (tgt := 30) d_LP_strange_21 (by decide) (fun c5 => ?_) (fun c5 => ?_)
    · refine aw_aload_n (pc := 30) d_LP_strange_30 rfl 0 rfl ?_
      refine aw_iconst (pc := 31) (x := 5) d_LP_strange_31 (by decide) ?_
      refine aw_cVrZ (pc := 32) (ci := 11) (T := TX11) (N := 18) (As := [.int 5]) (st := []) (ok_LP_refuse Y l0 5 h t0) okV_LP_refuse rfl (by decide) t0 w3_75 d_LP_strange_32 rfl (Nat.le_of_ble_eq_true rfl) rfl (Nat.le_of_ble_eq_true rfl) (fun q6 hq6 hTq6 => ?_)
      exact aw_zreturn (pc := 35) (b := q6.1) d_LP_strange_35 rfl rfl
    · refine aw_iload_n (pc := 24) d_LP_strange_24 rfl 2 rfl ?_
      refine aw_bipush (pc := 25) (x := 9) d_LP_strange_25 (by decide) ?_
      refine aw_icmp_le (pc := 27) (tgt := 36) d_LP_strange_27 (by decide) (fun c7 => ?_) (fun c7 => ?_)
      · refine aw_aload_n (pc := 36) d_LP_strange_36 rfl 0 rfl ?_
        refine gt_1109 (pc := 37) d_LP_strange_37 w3_9 t0 (fun tt8 => ?_)
        refine gt_400 (pc := 40) d_LP_strange_40 w2_129 tt8 (fun tt9 => ?_)
        refine gt_600 (pc := 43) d_LP_strange_43 w1_180 tt9 (fun tt10 => ?_)
        refine aw_iload_n (pc := 46) d_LP_strange_46 rfl 1 rfl ?_
        refine aw_iload_n (pc := 47) d_LP_strange_47 rfl 2 rfl ?_
        refine aw_iastore (pc := 48) d_LP_strange_48 tt10 (fun c11 => ?_)
        refine aw_letH (fun h12 => ?_)
        refine aw_aload_n (pc := 49) d_LP_strange_49 rfl 0 rfl ?_
        refine aw_cVrZ (pc := 50) (ci := 11) (T := TX11) (N := 18) (As := []) (st := []) (ok_LP_agree Y l0 h12 t0) okV_LP_agree rfl (by decide) t0 w3_86 d_LP_strange_50 rfl (Nat.le_of_ble_eq_true rfl) rfl (Nat.le_of_ble_eq_true rfl) (fun q13 hq13 hTq13 => ?_)
        exact aw_zreturn (pc := 53) (b := q13.1) d_LP_strange_53 rfl rfl
      · refine aw_aload_n (pc := 30) d_LP_strange_30 rfl 0 rfl ?_
        refine aw_iconst (pc := 31) (x := 5) d_LP_strange_31 (by decide) ?_
        refine aw_cVrZ (pc := 32) (ci := 11) (T := TX11) (N := 18) (As := [.int 5]) (st := []) (ok_LP_refuse Y l0 5 h t0) okV_LP_refuse rfl (by decide) t0 w3_75 d_LP_strange_32 rfl (Nat.le_of_ble_eq_true rfl) rfl (Nat.le_of_ble_eq_true rfl) (fun q14 hq14 hTq14 => ?_)
        exact aw_zreturn (pc := 35) (b := q14.1) d_LP_strange_35 rfl rfl
  · refine aw_aload_n (pc := 14) d_LP_strange_14 rfl 0 rfl ?_
    refine aw_iconst (pc := 15) (x := 2) d_LP_strange_15 (by decide) ?_
    refine aw_cVrZ (pc := 16) (ci := 11) (T := TX11) (N := 18) (As := [.int 2]) (st := []) (ok_LP_refuse Y l0 2 h t0) okV_LP_refuse rfl (by decide) t0 w3_75 d_LP_strange_16 rfl (Nat.le_of_ble_eq_true rfl) rfl (Nat.le_of_ble_eq_true rfl) (fun q15 hq15 hTq15 => ?_)
    exact aw_zreturn (pc := 19) (b := q15.1) d_LP_strange_19 rfl rfl
/-! LastPages.top()J -/
theorem d_LP_top_0 : decode prog_1_method_3_code 0 = .ok (.aload_n 0, 1) := by decide +kernel
theorem d_LP_top_1 : decode prog_1_method_3_code 1 = .ok (.getfield 86, 3) := by decide +kernel
theorem d_LP_top_4 : decode prog_1_method_3_code 4 = .ok (.lreturn, 1) := by decide +kernel
def LP_top (Y : Ly) (l0 : Nat) (h : Hp) : Option Int64 :=
  some (hGl h 1113 l0)
theorem ok_LP_top (Y : Ly) (l0 : Nat) (h : Hp) (t0 : isO Y 11 l0) : AM Y 0 K_LP_top [.ref l0] h (LP_top Y l0 h) (pL h) := by
  refine AM.of rfl (Nat.le_of_ble_eq_true rfl) ?_
  show AW Y 0 K_LP_top 0 [(0, .ref l0)] [] h (LP_top Y l0 h) (pL h)
  unfold LP_top
  refine aw_aload_n (pc := 0) d_LP_top_0 rfl 0 rfl ?_
  refine gt_1113 (pc := 1) d_LP_top_1 w3_13 t0 ?_
  exact aw_lreturn (pc := 4) d_LP_top_4 rfl rfl
/-! LastPages$Tray.lay(II)V -/
theorem d_Tr_lay_0 : decode prog_10_method_2_code 0 = .ok (.aload_n 0, 1) := by decide +kernel
theorem d_Tr_lay_1 : decode prog_10_method_2_code 1 = .ok (.iconst 1, 1) := by decide +kernel
theorem d_Tr_lay_2 : decode prog_10_method_2_code 2 = .ok (.putfield 15, 3) := by decide +kernel
theorem d_Tr_lay_5 : decode prog_10_method_2_code 5 = .ok (.aload_n 0, 1) := by decide +kernel
theorem d_Tr_lay_6 : decode prog_10_method_2_code 6 = .ok (.iload_n 1, 1) := by decide +kernel
theorem d_Tr_lay_7 : decode prog_10_method_2_code 7 = .ok (.putfield 19, 3) := by decide +kernel
theorem d_Tr_lay_10 : decode prog_10_method_2_code 10 = .ok (.aload_n 0, 1) := by decide +kernel
theorem d_Tr_lay_11 : decode prog_10_method_2_code 11 = .ok (.iload_n 2, 1) := by decide +kernel
theorem d_Tr_lay_12 : decode prog_10_method_2_code 12 = .ok (.putfield 23, 3) := by decide +kernel
theorem d_Tr_lay_15 : decode prog_10_method_2_code 15 = .ok (.aload_n 0, 1) := by decide +kernel
theorem d_Tr_lay_16 : decode prog_10_method_2_code 16 = .ok (.getfield 9, 3) := by decide +kernel
theorem d_Tr_lay_19 : decode prog_10_method_2_code 19 = .ok (.lconst 0, 1) := by decide +kernel
theorem d_Tr_lay_20 : decode prog_10_method_2_code 20 = .ok (.invokestatic 26, 3) := by decide +kernel
theorem d_Tr_lay_23 : decode prog_10_method_2_code 23 = .ok (.return_, 1) := by decide +kernel
def Tr_lay (Y : Ly) (l0 : Nat) (l1 : Int32) (l2 : Int32) (h : Hp) : Option Hp :=
  letH (hSz h 801 l0 true) fun h1 =>
  letH (hSi h1 802 l0 l1) fun h2 =>
  letH (hSi h2 803 l0 l2) fun h3 =>
  (J_fillL Y (hGr h3 800 l0) 0 h3).bind fun q5 =>
  some q5
theorem ok_Tr_lay (Y : Ly) (l0 : Nat) (l1 : Int32) (l2 : Int32) (h : Hp) (t0 : isO Y 8 l0) : AM Y 1 K_Tr_lay [.ref l0, .int l1, .int l2] h (Tr_lay Y l0 l1 l2 h) rV := by
  refine AM.of rfl (Nat.le_of_ble_eq_true rfl) ?_
  show AW Y 1 K_Tr_lay 0 [(0, .ref l0), (1, .int l1), (2, .int l2)] [] h (Tr_lay Y l0 l1 l2 h) rV
  unfold Tr_lay
  refine aw_aload_n (pc := 0) d_Tr_lay_0 rfl 0 rfl ?_
  refine aw_iconst (pc := 1) (x := 1) d_Tr_lay_1 (by decide) ?_
  refine pt_801 (pc := 2) (x := true) d_Tr_lay_2 w2_222 t0 ?_
  refine aw_letH (fun h1 => ?_)
  refine aw_aload_n (pc := 5) d_Tr_lay_5 rfl 0 rfl ?_
  refine aw_iload_n (pc := 6) d_Tr_lay_6 rfl 1 rfl ?_
  refine pt_802 (pc := 7) d_Tr_lay_7 w2_224 t0 ?_
  refine aw_letH (fun h2 => ?_)
  refine aw_aload_n (pc := 10) d_Tr_lay_10 rfl 0 rfl ?_
  refine aw_iload_n (pc := 11) d_Tr_lay_11 rfl 2 rfl ?_
  refine pt_803 (pc := 12) d_Tr_lay_12 w2_226 t0 ?_
  refine aw_letH (fun h3 => ?_)
  refine aw_aload_n (pc := 15) d_Tr_lay_15 rfl 0 rfl ?_
  refine gt_800 (pc := 16) d_Tr_lay_16 w2_220 t0 (fun tt4 => ?_)
  refine aw_lconst (pc := 19) (x := 0) d_Tr_lay_19 (by decide) ?_
  refine aw_cSrV (pc := 20) (As := [.ref (hGr h3 800 l0), .long 0]) (st := []) (ok_J_fillL Y (hGr h3 800 l0) 0 h3 tt4) okS_J_fillL w3_83 d_Tr_lay_20 rfl (Nat.le_of_ble_eq_true rfl) rfl (Nat.le_of_ble_eq_true rfl) (fun q5 hq5 hTq5 => ?_)
  exact aw_return (pc := 23) d_Tr_lay_23 rfl rfl
/-! LastPages.tray(III)Z -/
theorem d_LP_tray_0 : decode prog_1_method_5_code 0 = .ok (.aload_n 0, 1) := by decide +kernel
theorem d_LP_tray_1 : decode prog_1_method_5_code 1 = .ok (.iload_n 1, 1) := by decide +kernel
theorem d_LP_tray_2 : decode prog_1_method_5_code 2 = .ok (.invokevirtual 109, 3) := by decide +kernel
theorem d_LP_tray_5 : decode prog_1_method_5_code 5 = .ok (.astore 4, 2) := by decide +kernel
theorem d_LP_tray_7 : decode prog_1_method_5_code 7 = .ok (.aload 4, 2) := by decide +kernel
theorem d_LP_tray_9 : decode prog_1_method_5_code 9 = .ok (.ifnull 12, 3) := by decide +kernel
theorem d_LP_tray_12 : decode prog_1_method_5_code 12 = .ok (.iload_n 2, 1) := by decide +kernel
theorem d_LP_tray_13 : decode prog_1_method_5_code 13 = .ok (.ifCond .lt 8, 3) := by decide +kernel
theorem d_LP_tray_16 : decode prog_1_method_5_code 16 = .ok (.iload_n 2, 1) := by decide +kernel
theorem d_LP_tray_17 : decode prog_1_method_5_code 17 = .ok (.iconst 4, 1) := by decide +kernel
theorem d_LP_tray_18 : decode prog_1_method_5_code 18 = .ok (.if_icmp .lt 9, 3) := by decide +kernel
theorem d_LP_tray_21 : decode prog_1_method_5_code 21 = .ok (.aload_n 0, 1) := by decide +kernel
theorem d_LP_tray_22 : decode prog_1_method_5_code 22 = .ok (.iconst 1, 1) := by decide +kernel
theorem d_LP_tray_23 : decode prog_1_method_5_code 23 = .ok (.invokevirtual 113, 3) := by decide +kernel
theorem d_LP_tray_26 : decode prog_1_method_5_code 26 = .ok (.ireturn, 1) := by decide +kernel
theorem d_LP_tray_27 : decode prog_1_method_5_code 27 = .ok (.iload_n 3, 1) := by decide +kernel
theorem d_LP_tray_28 : decode prog_1_method_5_code 28 = .ok (.bipush 60, 2) := by decide +kernel
theorem d_LP_tray_30 : decode prog_1_method_5_code 30 = .ok (.if_icmp .le 9, 3) := by decide +kernel
theorem d_LP_tray_33 : decode prog_1_method_5_code 33 = .ok (.aload_n 0, 1) := by decide +kernel
theorem d_LP_tray_34 : decode prog_1_method_5_code 34 = .ok (.iconst 5, 1) := by decide +kernel
theorem d_LP_tray_35 : decode prog_1_method_5_code 35 = .ok (.invokevirtual 113, 3) := by decide +kernel
theorem d_LP_tray_38 : decode prog_1_method_5_code 38 = .ok (.ireturn, 1) := by decide +kernel
theorem d_LP_tray_39 : decode prog_1_method_5_code 39 = .ok (.iload_n 3, 1) := by decide +kernel
theorem d_LP_tray_40 : decode prog_1_method_5_code 40 = .ok (.ifCond .ge 10, 3) := by decide +kernel
theorem d_LP_tray_43 : decode prog_1_method_5_code 43 = .ok (.aload_n 0, 1) := by decide +kernel
theorem d_LP_tray_44 : decode prog_1_method_5_code 44 = .ok (.bipush 6, 2) := by decide +kernel
theorem d_LP_tray_46 : decode prog_1_method_5_code 46 = .ok (.invokevirtual 113, 3) := by decide +kernel
theorem d_LP_tray_49 : decode prog_1_method_5_code 49 = .ok (.ireturn, 1) := by decide +kernel
theorem d_LP_tray_50 : decode prog_1_method_5_code 50 = .ok (.aload 4, 2) := by decide +kernel
theorem d_LP_tray_52 : decode prog_1_method_5_code 52 = .ok (.iload_n 2, 1) := by decide +kernel
theorem d_LP_tray_53 : decode prog_1_method_5_code 53 = .ok (.iload_n 3, 1) := by decide +kernel
theorem d_LP_tray_54 : decode prog_1_method_5_code 54 = .ok (.invokevirtual 117, 3) := by decide +kernel
theorem d_LP_tray_57 : decode prog_1_method_5_code 57 = .ok (.aload_n 0, 1) := by decide +kernel
theorem d_LP_tray_58 : decode prog_1_method_5_code 58 = .ok (.invokevirtual 121, 3) := by decide +kernel
theorem d_LP_tray_61 : decode prog_1_method_5_code 61 = .ok (.ireturn, 1) := by decide +kernel
def LP_tray (Y : Ly) (l0 : Nat) (l1 : Int32) (l2 : Int32) (l3 : Int32) (h : Hp) : Option (Bool × Hp) :=
  (LP_trayAt Y l0 l1 h).bind fun q1 =>
  match q1 with
  | none =>
      (LP_refuse Y l0 1 h).bind fun q5 =>
      some (q5.1, q5.2)
  | some a3 =>
      if l2 < 0 then
        (LP_refuse Y l0 1 h).bind fun q7 =>
        some (q7.1, q7.2)
      else
        if l2 < 4 then
          if l3 ≤ 60 then
            if 0 ≤ l3 then
              (Tr_lay Y a3 l2 l3 h).bind fun q11 =>
              (LP_agree Y l0 q11).bind fun q12 =>
              some (q12.1, q12.2)
            else
              (LP_refuse Y l0 6 h).bind fun q13 =>
              some (q13.1, q13.2)
          else
            (LP_refuse Y l0 5 h).bind fun q14 =>
            some (q14.1, q14.2)
        else
          (LP_refuse Y l0 1 h).bind fun q15 =>
          some (q15.1, q15.2)
theorem ok_LP_tray (Y : Ly) (l0 : Nat) (l1 : Int32) (l2 : Int32) (l3 : Int32) (h : Hp) (t0 : isO Y 11 l0) : AM Y 2 K_LP_tray [.ref l0, .int l1, .int l2, .int l3] h (LP_tray Y l0 l1 l2 l3 h) rZ := by
  refine AM.of rfl (Nat.le_of_ble_eq_true rfl) ?_
  show AW Y 2 K_LP_tray 0 [(0, .ref l0), (1, .int l1), (2, .int l2), (3, .int l3)] [] h (LP_tray Y l0 l1 l2 l3 h) rZ
  unfold LP_tray
  refine aw_aload_n (pc := 0) d_LP_tray_0 rfl 0 rfl ?_
  refine aw_iload_n (pc := 1) d_LP_tray_1 rfl 1 rfl ?_
  refine aw_cVpQ (pc := 2) (ci := 11) (T := TX11) (N := 18) (As := [.int l1]) (st := []) (ok_LP_trayAt Y l0 l1 h t0) okV_LP_trayAt rfl (by decide) t0 w3_71 d_LP_tray_2 rfl (Nat.le_of_ble_eq_true rfl) rfl (Nat.le_of_ble_eq_true rfl) (fun q1 hq1 hTq1 => ?_)
  have tt2 := ty_LP_trayAt t0 hTq1 hq1
  refine aw_astoreQ (pc := 5) (lv' := [(4, va_rf q1), (0, .ref l0), (1, .int l1), (2, .int l2), (3, .int l3)]) d_LP_tray_5 (by decide) rfl ?_
  refine aw_aloadQ (pc := 7) d_LP_tray_7 0 rfl ?_
  refine aw_ifnullQ (pc := 9) (tgt := 21) (x := q1) d_LP_tray_9 (by decide) (fun e4 => ?_) (fun a3 e4 => ?_)
  · rw [e4]
    show AW _ _ _ _ [(4, .null), (0, .ref l0), (1, .int l1), (2, .int l2), (3, .int l3)] [] _ _ _
    refine aw_aload_n (pc := 21) d_LP_tray_21 rfl 1 rfl ?_
    refine aw_iconst (pc := 22) (x := 1) d_LP_tray_22 (by decide) ?_
    refine aw_cVrZ (pc := 23) (ci := 11) (T := TX11) (N := 18) (As := [.int 1]) (st := []) (ok_LP_refuse Y l0 1 h t0) okV_LP_refuse rfl (by decide) t0 w3_75 d_LP_tray_23 rfl (Nat.le_of_ble_eq_true rfl) rfl (Nat.le_of_ble_eq_true rfl) (fun q5 hq5 hTq5 => ?_)
    exact aw_zreturn (pc := 26) (b := q5.1) d_LP_tray_26 rfl rfl
  · rw [e4]
    show AW _ _ _ _ [(4, .ref a3), (0, .ref l0), (1, .int l1), (2, .int l2), (3, .int l3)] [] _ _ _
    refine aw_iload_n (pc := 12) d_LP_tray_12 rfl 3 rfl ?_
    refine aw_if_lt (pc := 13) (tgt := 21) d_LP_tray_13 (by decide) (fun c6 => ?_) (fun c6 => ?_)
    · refine aw_aload_n (pc := 21) d_LP_tray_21 rfl 1 rfl ?_
      refine aw_iconst (pc := 22) (x := 1) d_LP_tray_22 (by decide) ?_
      refine aw_cVrZ (pc := 23) (ci := 11) (T := TX11) (N := 18) (As := [.int 1]) (st := []) (ok_LP_refuse Y l0 1 h t0) okV_LP_refuse rfl (by decide) t0 w3_75 d_LP_tray_23 rfl (Nat.le_of_ble_eq_true rfl) rfl (Nat.le_of_ble_eq_true rfl) (fun q7 hq7 hTq7 => ?_)
      exact aw_zreturn (pc := 26) (b := q7.1) d_LP_tray_26 rfl rfl
    · refine aw_iload_n (pc := 16) d_LP_tray_16 rfl 3 rfl ?_
      refine aw_iconst (pc := 17) (x := 4) d_LP_tray_17 (by decide) ?_
      refine aw_icmp_lt (pc := 18) (tgt := 27) d_LP_tray_18 (by decide) (fun c8 => ?_) (fun c8 => ?_)
      · refine aw_iload_n (pc := 27) d_LP_tray_27 rfl 4 rfl ?_
        refine aw_bipush (pc := 28) (x := 60) d_LP_tray_28 (by decide) ?_
        refine aw_icmp_le (pc := 30) (tgt := 39) d_LP_tray_30 (by decide) (fun c9 => ?_) (fun c9 => ?_)
        · refine aw_iload_n (pc := 39) d_LP_tray_39 rfl 4 rfl ?_
          refine aw_if_ge (pc := 40) (tgt := 50) d_LP_tray_40 (by decide) (fun c10 => ?_) (fun c10 => ?_)
          · refine aw_aload (pc := 50) d_LP_tray_50 0 rfl ?_
            refine aw_iload_n (pc := 52) d_LP_tray_52 rfl 3 rfl ?_
            refine aw_iload_n (pc := 53) d_LP_tray_53 rfl 4 rfl ?_
            refine aw_cVrV (pc := 54) (ci := 8) (T := TX8) (N := 4) (As := [.int l2, .int l3]) (st := []) (ok_Tr_lay Y a3 l2 l3 h (tt2 _ e4)) okV_Tr_lay rfl (by decide) (tt2 _ e4) w3_79 d_LP_tray_54 rfl (Nat.le_of_ble_eq_true rfl) rfl (Nat.le_of_ble_eq_true rfl) (fun q11 hq11 hTq11 => ?_)
            refine aw_aload_n (pc := 57) d_LP_tray_57 rfl 1 rfl ?_
            refine aw_cVrZ (pc := 58) (ci := 11) (T := TX11) (N := 18) (As := []) (st := []) (ok_LP_agree Y l0 q11 t0) okV_LP_agree rfl (by decide) t0 w3_86 d_LP_tray_58 rfl (Nat.le_of_ble_eq_true rfl) rfl (Nat.le_of_ble_eq_true rfl) (fun q12 hq12 hTq12 => ?_)
            exact aw_zreturn (pc := 61) (b := q12.1) d_LP_tray_61 rfl rfl
          · refine aw_aload_n (pc := 43) d_LP_tray_43 rfl 1 rfl ?_
            refine aw_bipush (pc := 44) (x := 6) d_LP_tray_44 (by decide) ?_
            refine aw_cVrZ (pc := 46) (ci := 11) (T := TX11) (N := 18) (As := [.int 6]) (st := []) (ok_LP_refuse Y l0 6 h t0) okV_LP_refuse rfl (by decide) t0 w3_75 d_LP_tray_46 rfl (Nat.le_of_ble_eq_true rfl) rfl (Nat.le_of_ble_eq_true rfl) (fun q13 hq13 hTq13 => ?_)
            exact aw_zreturn (pc := 49) (b := q13.1) d_LP_tray_49 rfl rfl
        · refine aw_aload_n (pc := 33) d_LP_tray_33 rfl 1 rfl ?_
          refine aw_iconst (pc := 34) (x := 5) d_LP_tray_34 (by decide) ?_
          refine aw_cVrZ (pc := 35) (ci := 11) (T := TX11) (N := 18) (As := [.int 5]) (st := []) (ok_LP_refuse Y l0 5 h t0) okV_LP_refuse rfl (by decide) t0 w3_75 d_LP_tray_35 rfl (Nat.le_of_ble_eq_true rfl) rfl (Nat.le_of_ble_eq_true rfl) (fun q14 hq14 hTq14 => ?_)
          exact aw_zreturn (pc := 38) (b := q14.1) d_LP_tray_38 rfl rfl
      · refine aw_aload_n (pc := 21) d_LP_tray_21 rfl 1 rfl ?_
        refine aw_iconst (pc := 22) (x := 1) d_LP_tray_22 (by decide) ?_
        refine aw_cVrZ (pc := 23) (ci := 11) (T := TX11) (N := 18) (As := [.int 1]) (st := []) (ok_LP_refuse Y l0 1 h t0) okV_LP_refuse rfl (by decide) t0 w3_75 d_LP_tray_23 rfl (Nat.le_of_ble_eq_true rfl) rfl (Nat.le_of_ble_eq_true rfl) (fun q15 hq15 hTq15 => ?_)
        exact aw_zreturn (pc := 26) (b := q15.1) d_LP_tray_26 rfl rfl
/-! LastPages.watch(II)I -/
theorem d_LP_watch_0 : decode prog_1_method_21_code 0 = .ok (.aload_n 0, 1) := by decide +kernel
theorem d_LP_watch_1 : decode prog_1_method_21_code 1 = .ok (.aload_n 0, 1) := by decide +kernel
theorem d_LP_watch_2 : decode prog_1_method_21_code 2 = .ok (.getfield 68, 3) := by decide +kernel
theorem d_LP_watch_5 : decode prog_1_method_21_code 5 = .ok (.getfield 223, 3) := by decide +kernel
theorem d_LP_watch_8 : decode prog_1_method_21_code 8 = .ok (.iload_n 1, 1) := by decide +kernel
theorem d_LP_watch_9 : decode prog_1_method_21_code 9 = .ok (.iload_n 2, 1) := by decide +kernel
theorem d_LP_watch_10 : decode prog_1_method_21_code 10 = .ok (.invokevirtual 288, 3) := by decide +kernel
theorem d_LP_watch_13 : decode prog_1_method_21_code 13 = .ok (.ireturn, 1) := by decide +kernel
def LP_watch (Y : Ly) (l0 : Nat) (l1 : Int32) (l2 : Int32) (h : Hp) : Option (Int32 × Hp) :=
  (LP_lotPart Y l0 (hGr h 402 (hGr h 1109 l0)) l1 l2 h).bind fun q3 =>
  some (q3.1, q3.2)
theorem ok_LP_watch (Y : Ly) (l0 : Nat) (l1 : Int32) (l2 : Int32) (h : Hp) (t0 : isO Y 11 l0) : AM Y 2 K_LP_watch [.ref l0, .int l1, .int l2] h (LP_watch Y l0 l1 l2 h) rI := by
  refine AM.of rfl (Nat.le_of_ble_eq_true rfl) ?_
  show AW Y 2 K_LP_watch 0 [(0, .ref l0), (1, .int l1), (2, .int l2)] [] h (LP_watch Y l0 l1 l2 h) rI
  unfold LP_watch
  refine aw_aload_n (pc := 0) d_LP_watch_0 rfl 0 rfl ?_
  refine aw_aload_n (pc := 1) d_LP_watch_1 rfl 0 rfl ?_
  refine gt_1109 (pc := 2) d_LP_watch_2 w3_9 t0 (fun tt1 => ?_)
  refine gt_402 (pc := 5) d_LP_watch_5 w2_135 tt1 (fun tt2 => ?_)
  refine aw_iload_n (pc := 8) d_LP_watch_8 rfl 1 rfl ?_
  refine aw_iload_n (pc := 9) d_LP_watch_9 rfl 2 rfl ?_
  refine aw_cVrI (pc := 10) (ci := 11) (T := TX11) (N := 18) (As := [.ref (hGr h 402 (hGr h 1109 l0)), .int l1, .int l2]) (st := []) (ok_LP_lotPart Y l0 (hGr h 402 (hGr h 1109 l0)) l1 l2 h t0 tt2) okV_LP_lotPart rfl (by decide) t0 w5_3 d_LP_watch_10 rfl (Nat.le_of_ble_eq_true rfl) rfl (Nat.le_of_ble_eq_true rfl) (fun q3 hq3 hTq3 => ?_)
  exact aw_ireturn (pc := 13) d_LP_watch_13 rfl rfl
/-! LastPages.ways()J -/
theorem d_LP_ways_0 : decode prog_1_method_42_code 0 = .ok (.aload_n 0, 1) := by decide +kernel
theorem d_LP_ways_1 : decode prog_1_method_42_code 1 = .ok (.getfield 52, 3) := by decide +kernel
theorem d_LP_ways_4 : decode prog_1_method_42_code 4 = .ok (.aload_n 0, 1) := by decide +kernel
theorem d_LP_ways_5 : decode prog_1_method_42_code 5 = .ok (.getfield 68, 3) := by decide +kernel
theorem d_LP_ways_8 : decode prog_1_method_42_code 8 = .ok (.aload_n 0, 1) := by decide +kernel
theorem d_LP_ways_9 : decode prog_1_method_42_code 9 = .ok (.getfield 45, 3) := by decide +kernel
theorem d_LP_ways_12 : decode prog_1_method_42_code 12 = .ok (.invokevirtual 364, 3) := by decide +kernel
theorem d_LP_ways_15 : decode prog_1_method_42_code 15 = .ok (.aload_n 0, 1) := by decide +kernel
theorem d_LP_ways_16 : decode prog_1_method_42_code 16 = .ok (.iconst 0, 1) := by decide +kernel
theorem d_LP_ways_17 : decode prog_1_method_42_code 17 = .ok (.putfield 82, 3) := by decide +kernel
theorem d_LP_ways_20 : decode prog_1_method_42_code 20 = .ok (.aload_n 0, 1) := by decide +kernel
theorem d_LP_ways_21 : decode prog_1_method_42_code 21 = .ok (.getfield 52, 3) := by decide +kernel
theorem d_LP_ways_24 : decode prog_1_method_42_code 24 = .ok (.invokevirtual 376, 3) := by decide +kernel
theorem d_LP_ways_27 : decode prog_1_method_42_code 27 = .ok (.lreturn, 1) := by decide +kernel
def LP_ways (Y : Ly) (l0 : Nat) (h : Hp) : Option (Int64 × Hp) :=
  (Fi_lookAt Y (hGr h 1106 l0) (hGr h 1109 l0) (hGr h 1105 l0) h).bind fun q4 =>
  letH (hSi q4 1112 l0 0) fun h5 =>
  (Fi_countWays Y (hGr h5 1106 l0) h5).bind fun q7 =>
  some (q7.1, q7.2)
theorem ok_LP_ways (Y : Ly) (l0 : Nat) (h : Hp) (t0 : isO Y 11 l0) : AM Y 5 K_LP_ways [.ref l0] h (LP_ways Y l0 h) rL := by
  refine AM.of rfl (Nat.le_of_ble_eq_true rfl) ?_
  show AW Y 5 K_LP_ways 0 [(0, .ref l0)] [] h (LP_ways Y l0 h) rL
  unfold LP_ways
  refine aw_aload_n (pc := 0) d_LP_ways_0 rfl 0 rfl ?_
  refine gt_1106 (pc := 1) d_LP_ways_1 w3_6 t0 (fun tt1 => ?_)
  refine aw_aload_n (pc := 4) d_LP_ways_4 rfl 0 rfl ?_
  refine gt_1109 (pc := 5) d_LP_ways_5 w3_9 t0 (fun tt2 => ?_)
  refine aw_aload_n (pc := 8) d_LP_ways_8 rfl 0 rfl ?_
  refine gt_1105 (pc := 9) d_LP_ways_9 w3_5 t0 (fun tt3 => ?_)
  refine aw_cVrV (pc := 12) (ci := 1) (T := TX1) (N := 4) (As := [.ref (hGr h 1109 l0), .ref (hGr h 1105 l0)]) (st := []) (ok_Fi_lookAt Y (hGr h 1106 l0) (hGr h 1109 l0) (hGr h 1105 l0) h tt1 tt2 tt3) okV_Fi_lookAt rfl (by decide) tt1 w5_202 d_LP_ways_12 rfl (Nat.le_of_ble_eq_true rfl) rfl (Nat.le_of_ble_eq_true rfl) (fun q4 hq4 hTq4 => ?_)
  refine aw_aload_n (pc := 15) d_LP_ways_15 rfl 0 rfl ?_
  refine aw_iconst (pc := 16) (x := 0) d_LP_ways_16 (by decide) ?_
  refine pt_1112 (pc := 17) d_LP_ways_17 w3_12 t0 ?_
  refine aw_letH (fun h5 => ?_)
  refine aw_aload_n (pc := 20) d_LP_ways_20 rfl 0 rfl ?_
  refine gt_1106 (pc := 21) d_LP_ways_21 w3_6 t0 (fun tt6 => ?_)
  refine aw_cVrL (pc := 24) (ci := 1) (T := TX1) (N := 4) (As := []) (st := []) (ok_Fi_countWays Y (hGr h5 1106 l0) h5 tt6) okV_Fi_countWays rfl (by decide) tt6 w6_6 d_LP_ways_24 rfl (Nat.le_of_ble_eq_true rfl) rfl (Nat.le_of_ble_eq_true rfl) (fun q7 hq7 hTq7 => ?_)
  exact aw_lreturn (pc := 27) d_LP_ways_27 rfl rfl
/-! LastPages$WeeksReader.mayStep(LLastPages$Tokens;LLastPages$Weeks;)Z -/
theorem d_WR_mayStep_0 : decode prog_12_method_4_code 0 = .ok (.aload_n 1, 1) := by decide +kernel
theorem d_WR_mayStep_1 : decode prog_12_method_4_code 1 = .ok (.getfield 37, 3) := by decide +kernel
theorem d_WR_mayStep_4 : decode prog_12_method_4_code 4 = .ok (.tableswitch 119 21 30 #[56, 56, 56, 56, 80, 119, 119, 80, 119, 56], 56) := by decide +kernel
theorem d_WR_mayStep_60 : decode prog_12_method_4_code 60 = .ok (.aload_n 2, 1) := by decide +kernel
theorem d_WR_mayStep_61 : decode prog_12_method_4_code 61 = .ok (.getfield 65, 3) := by decide +kernel
theorem d_WR_mayStep_64 : decode prog_12_method_4_code 64 = .ok (.bipush 30, 2) := by decide +kernel
theorem d_WR_mayStep_66 : decode prog_12_method_4_code 66 = .ok (.if_icmp .lt 12, 3) := by decide +kernel
theorem d_WR_mayStep_69 : decode prog_12_method_4_code 69 = .ok (.aload_n 1, 1) := by decide +kernel
theorem d_WR_mayStep_70 : decode prog_12_method_4_code 70 = .ok (.bipush 6, 2) := by decide +kernel
theorem d_WR_mayStep_72 : decode prog_12_method_4_code 72 = .ok (.invokevirtual 55, 3) := by decide +kernel
theorem d_WR_mayStep_75 : decode prog_12_method_4_code 75 = .ok (.ifCond .eq 7, 3) := by decide +kernel
theorem d_WR_mayStep_78 : decode prog_12_method_4_code 78 = .ok (.iconst 1, 1) := by decide +kernel
theorem d_WR_mayStep_79 : decode prog_12_method_4_code 79 = .ok (.goto 4, 3) := by decide +kernel
theorem d_WR_mayStep_82 : decode prog_12_method_4_code 82 = .ok (.iconst 0, 1) := by decide +kernel
theorem d_WR_mayStep_83 : decode prog_12_method_4_code 83 = .ok (.ireturn, 1) := by decide +kernel
theorem d_WR_mayStep_84 : decode prog_12_method_4_code 84 = .ok (.aload_n 2, 1) := by decide +kernel
theorem d_WR_mayStep_85 : decode prog_12_method_4_code 85 = .ok (.getfield 65, 3) := by decide +kernel
theorem d_WR_mayStep_88 : decode prog_12_method_4_code 88 = .ok (.bipush 30, 2) := by decide +kernel
theorem d_WR_mayStep_90 : decode prog_12_method_4_code 90 = .ok (.if_icmp .lt 10, 3) := by decide +kernel
theorem d_WR_mayStep_93 : decode prog_12_method_4_code 93 = .ok (.aload_n 1, 1) := by decide +kernel
theorem d_WR_mayStep_94 : decode prog_12_method_4_code 94 = .ok (.bipush 6, 2) := by decide +kernel
theorem d_WR_mayStep_96 : decode prog_12_method_4_code 96 = .ok (.invokevirtual 55, 3) := by decide +kernel
theorem d_WR_mayStep_99 : decode prog_12_method_4_code 99 = .ok (.ireturn, 1) := by decide +kernel
theorem d_WR_mayStep_100 : decode prog_12_method_4_code 100 = .ok (.aload_n 0, 1) := by decide +kernel
theorem d_WR_mayStep_101 : decode prog_12_method_4_code 101 = .ok (.getfield 15, 3) := by decide +kernel
theorem d_WR_mayStep_104 : decode prog_12_method_4_code 104 = .ok (.iconst 3, 1) := by decide +kernel
theorem d_WR_mayStep_105 : decode prog_12_method_4_code 105 = .ok (.if_icmp .lt 12, 3) := by decide +kernel
theorem d_WR_mayStep_108 : decode prog_12_method_4_code 108 = .ok (.aload_n 1, 1) := by decide +kernel
theorem d_WR_mayStep_109 : decode prog_12_method_4_code 109 = .ok (.bipush 7, 2) := by decide +kernel
theorem d_WR_mayStep_111 : decode prog_12_method_4_code 111 = .ok (.invokevirtual 55, 3) := by decide +kernel
theorem d_WR_mayStep_114 : decode prog_12_method_4_code 114 = .ok (.ifCond .eq 7, 3) := by decide +kernel
theorem d_WR_mayStep_117 : decode prog_12_method_4_code 117 = .ok (.iconst 1, 1) := by decide +kernel
theorem d_WR_mayStep_118 : decode prog_12_method_4_code 118 = .ok (.goto 4, 3) := by decide +kernel
theorem d_WR_mayStep_121 : decode prog_12_method_4_code 121 = .ok (.iconst 0, 1) := by decide +kernel
theorem d_WR_mayStep_122 : decode prog_12_method_4_code 122 = .ok (.ireturn, 1) := by decide +kernel
theorem d_WR_mayStep_123 : decode prog_12_method_4_code 123 = .ok (.aload_n 1, 1) := by decide +kernel
theorem d_WR_mayStep_124 : decode prog_12_method_4_code 124 = .ok (.iconst 2, 1) := by decide +kernel
theorem d_WR_mayStep_125 : decode prog_12_method_4_code 125 = .ok (.invokevirtual 55, 3) := by decide +kernel
theorem d_WR_mayStep_128 : decode prog_12_method_4_code 128 = .ok (.ireturn, 1) := by decide +kernel
def WR_mayStep (Y : Ly) (l0 : Nat) (l1 : Nat) (l2 : Nat) (h : Hp) : Option (Bool × Hp) :=
  if (hGi h 708 l1) = 21 then
    if (hGi h 907 l2) < 30 then
      some (true, h)
    else
      (To_blame Y l1 6 h).bind fun q3 =>
      if q3.1 = true then
        some (true, q3.2)
      else
        some (false, q3.2)
  else
  if (hGi h 708 l1) = 22 then
    if (hGi h 907 l2) < 30 then
      some (true, h)
    else
      (To_blame Y l1 6 h).bind fun q7 =>
      if q7.1 = true then
        some (true, q7.2)
      else
        some (false, q7.2)
  else
  if (hGi h 708 l1) = 23 then
    if (hGi h 907 l2) < 30 then
      some (true, h)
    else
      (To_blame Y l1 6 h).bind fun q11 =>
      if q11.1 = true then
        some (true, q11.2)
      else
        some (false, q11.2)
  else
  if (hGi h 708 l1) = 24 then
    if (hGi h 907 l2) < 30 then
      some (true, h)
    else
      (To_blame Y l1 6 h).bind fun q15 =>
      if q15.1 = true then
        some (true, q15.2)
      else
        some (false, q15.2)
  else
  if (hGi h 708 l1) = 25 then
    if (hGi h 907 l2) < 30 then
      if (hGi h 1001 l0) < 3 then
        some (true, h)
      else
        (To_blame Y l1 7 h).bind fun q20 =>
        if q20.1 = true then
          some (true, q20.2)
        else
          some (false, q20.2)
    else
      (To_blame Y l1 6 h).bind fun q22 =>
      some (q22.1, q22.2)
  else
  if (hGi h 708 l1) = 28 then
    if (hGi h 907 l2) < 30 then
      if (hGi h 1001 l0) < 3 then
        some (true, h)
      else
        (To_blame Y l1 7 h).bind fun q26 =>
        if q26.1 = true then
          some (true, q26.2)
        else
          some (false, q26.2)
    else
      (To_blame Y l1 6 h).bind fun q28 =>
      some (q28.1, q28.2)
  else
  if (hGi h 708 l1) = 30 then
    if (hGi h 907 l2) < 30 then
      some (true, h)
    else
      (To_blame Y l1 6 h).bind fun q31 =>
      if q31.1 = true then
        some (true, q31.2)
      else
        some (false, q31.2)
  else
  (To_blame Y l1 2 h).bind fun q33 =>
  some (q33.1, q33.2)
theorem ok_WR_mayStep (Y : Ly) (l0 : Nat) (l1 : Nat) (l2 : Nat) (h : Hp) (t0 : isO Y 10 l0) (t1 : isO Y 7 l1) (t2 : isO Y 9 l2) : AM Y 1 K_WR_mayStep [.ref l0, .ref l1, .ref l2] h (WR_mayStep Y l0 l1 l2 h) rZ := by
  refine AM.of rfl (Nat.le_of_ble_eq_true rfl) ?_
  show AW Y 1 K_WR_mayStep 0 [(0, .ref l0), (1, .ref l1), (2, .ref l2)] [] h (WR_mayStep Y l0 l1 l2 h) rZ
  unfold WR_mayStep
  refine aw_aload_n (pc := 0) d_WR_mayStep_0 rfl 1 rfl ?_
  refine gt_708 (pc := 1) d_WR_mayStep_1 w1_99 t1 ?_
  refine aw_cases (fun c1 => ?_) (fun c1 => ?_)
  · refine aw_tbl (pc := 4) (tgt := 60) (off := 56) d_WR_mayStep_4 (by rw [c1]; decide) (by rw [c1]; decide) (by rw [c1]; rfl) (by decide) ?_
    refine aw_aload_n (pc := 60) d_WR_mayStep_60 rfl 2 rfl ?_
    refine gt_907 (pc := 61) d_WR_mayStep_61 w2_105 t2 ?_
    refine aw_bipush (pc := 64) (x := 30) d_WR_mayStep_64 (by decide) ?_
    refine aw_icmp_lt (pc := 66) (tgt := 78) d_WR_mayStep_66 (by decide) (fun c2 => ?_) (fun c2 => ?_)
    · refine aw_iconst (pc := 78) (x := 1) d_WR_mayStep_78 (by decide) ?_
      refine aw_goto (pc := 79) (tgt := 83) d_WR_mayStep_79 (by decide) ?_
      exact aw_zreturn (pc := 83) (b := true) d_WR_mayStep_83 rfl rfl
    · refine aw_aload_n (pc := 69) d_WR_mayStep_69 rfl 1 rfl ?_
      refine aw_bipush (pc := 70) (x := 6) d_WR_mayStep_70 (by decide) ?_
      refine aw_cVrZ (pc := 72) (ci := 7) (T := TX7) (N := 13) (As := [.int 6]) (st := []) (ok_To_blame Y l1 6 h t1) okV_To_blame rfl (by decide) t1 w4_106 d_WR_mayStep_72 rfl (Nat.le_of_ble_eq_true rfl) rfl (Nat.le_of_ble_eq_true rfl) (fun q3 hq3 hTq3 => ?_)
      refine aw_beq (pc := 75) (tgt := 82) d_WR_mayStep_75 (by decide) (fun c4 => ?_) (fun c4 => ?_)
      · refine aw_iconst (pc := 78) (x := 1) d_WR_mayStep_78 (by decide) ?_
        refine aw_goto (pc := 79) (tgt := 83) d_WR_mayStep_79 (by decide) ?_
        exact aw_zreturn (pc := 83) (b := true) d_WR_mayStep_83 rfl rfl
      · refine aw_iconst (pc := 82) (x := 0) d_WR_mayStep_82 (by decide) ?_
        exact aw_zreturn (pc := 83) (b := false) d_WR_mayStep_83 rfl rfl
  refine aw_cases (fun c5 => ?_) (fun c5 => ?_)
  · refine aw_tbl (pc := 4) (tgt := 60) (off := 56) d_WR_mayStep_4 (by rw [c5]; decide) (by rw [c5]; decide) (by rw [c5]; rfl) (by decide) ?_
    refine aw_aload_n (pc := 60) d_WR_mayStep_60 rfl 2 rfl ?_
    refine gt_907 (pc := 61) d_WR_mayStep_61 w2_105 t2 ?_
    refine aw_bipush (pc := 64) (x := 30) d_WR_mayStep_64 (by decide) ?_
    refine aw_icmp_lt (pc := 66) (tgt := 78) d_WR_mayStep_66 (by decide) (fun c6 => ?_) (fun c6 => ?_)
    · refine aw_iconst (pc := 78) (x := 1) d_WR_mayStep_78 (by decide) ?_
      refine aw_goto (pc := 79) (tgt := 83) d_WR_mayStep_79 (by decide) ?_
      exact aw_zreturn (pc := 83) (b := true) d_WR_mayStep_83 rfl rfl
    · refine aw_aload_n (pc := 69) d_WR_mayStep_69 rfl 1 rfl ?_
      refine aw_bipush (pc := 70) (x := 6) d_WR_mayStep_70 (by decide) ?_
      refine aw_cVrZ (pc := 72) (ci := 7) (T := TX7) (N := 13) (As := [.int 6]) (st := []) (ok_To_blame Y l1 6 h t1) okV_To_blame rfl (by decide) t1 w4_106 d_WR_mayStep_72 rfl (Nat.le_of_ble_eq_true rfl) rfl (Nat.le_of_ble_eq_true rfl) (fun q7 hq7 hTq7 => ?_)
      refine aw_beq (pc := 75) (tgt := 82) d_WR_mayStep_75 (by decide) (fun c8 => ?_) (fun c8 => ?_)
      · refine aw_iconst (pc := 78) (x := 1) d_WR_mayStep_78 (by decide) ?_
        refine aw_goto (pc := 79) (tgt := 83) d_WR_mayStep_79 (by decide) ?_
        exact aw_zreturn (pc := 83) (b := true) d_WR_mayStep_83 rfl rfl
      · refine aw_iconst (pc := 82) (x := 0) d_WR_mayStep_82 (by decide) ?_
        exact aw_zreturn (pc := 83) (b := false) d_WR_mayStep_83 rfl rfl
  refine aw_cases (fun c9 => ?_) (fun c9 => ?_)
  · refine aw_tbl (pc := 4) (tgt := 60) (off := 56) d_WR_mayStep_4 (by rw [c9]; decide) (by rw [c9]; decide) (by rw [c9]; rfl) (by decide) ?_
    refine aw_aload_n (pc := 60) d_WR_mayStep_60 rfl 2 rfl ?_
    refine gt_907 (pc := 61) d_WR_mayStep_61 w2_105 t2 ?_
    refine aw_bipush (pc := 64) (x := 30) d_WR_mayStep_64 (by decide) ?_
    refine aw_icmp_lt (pc := 66) (tgt := 78) d_WR_mayStep_66 (by decide) (fun c10 => ?_) (fun c10 => ?_)
    · refine aw_iconst (pc := 78) (x := 1) d_WR_mayStep_78 (by decide) ?_
      refine aw_goto (pc := 79) (tgt := 83) d_WR_mayStep_79 (by decide) ?_
      exact aw_zreturn (pc := 83) (b := true) d_WR_mayStep_83 rfl rfl
    · refine aw_aload_n (pc := 69) d_WR_mayStep_69 rfl 1 rfl ?_
      refine aw_bipush (pc := 70) (x := 6) d_WR_mayStep_70 (by decide) ?_
      refine aw_cVrZ (pc := 72) (ci := 7) (T := TX7) (N := 13) (As := [.int 6]) (st := []) (ok_To_blame Y l1 6 h t1) okV_To_blame rfl (by decide) t1 w4_106 d_WR_mayStep_72 rfl (Nat.le_of_ble_eq_true rfl) rfl (Nat.le_of_ble_eq_true rfl) (fun q11 hq11 hTq11 => ?_)
      refine aw_beq (pc := 75) (tgt := 82) d_WR_mayStep_75 (by decide) (fun c12 => ?_) (fun c12 => ?_)
      · refine aw_iconst (pc := 78) (x := 1) d_WR_mayStep_78 (by decide) ?_
        refine aw_goto (pc := 79) (tgt := 83) d_WR_mayStep_79 (by decide) ?_
        exact aw_zreturn (pc := 83) (b := true) d_WR_mayStep_83 rfl rfl
      · refine aw_iconst (pc := 82) (x := 0) d_WR_mayStep_82 (by decide) ?_
        exact aw_zreturn (pc := 83) (b := false) d_WR_mayStep_83 rfl rfl
  refine aw_cases (fun c13 => ?_) (fun c13 => ?_)
  · refine aw_tbl (pc := 4) (tgt := 60) (off := 56) d_WR_mayStep_4 (by rw [c13]; decide) (by rw [c13]; decide) (by rw [c13]; rfl) (by decide) ?_
    refine aw_aload_n (pc := 60) d_WR_mayStep_60 rfl 2 rfl ?_
    refine gt_907 (pc := 61) d_WR_mayStep_61 w2_105 t2 ?_
    refine aw_bipush (pc := 64) (x := 30) d_WR_mayStep_64 (by decide) ?_
    refine aw_icmp_lt (pc := 66) (tgt := 78) d_WR_mayStep_66 (by decide) (fun c14 => ?_) (fun c14 => ?_)
    · refine aw_iconst (pc := 78) (x := 1) d_WR_mayStep_78 (by decide) ?_
      refine aw_goto (pc := 79) (tgt := 83) d_WR_mayStep_79 (by decide) ?_
      exact aw_zreturn (pc := 83) (b := true) d_WR_mayStep_83 rfl rfl
    · refine aw_aload_n (pc := 69) d_WR_mayStep_69 rfl 1 rfl ?_
      refine aw_bipush (pc := 70) (x := 6) d_WR_mayStep_70 (by decide) ?_
      refine aw_cVrZ (pc := 72) (ci := 7) (T := TX7) (N := 13) (As := [.int 6]) (st := []) (ok_To_blame Y l1 6 h t1) okV_To_blame rfl (by decide) t1 w4_106 d_WR_mayStep_72 rfl (Nat.le_of_ble_eq_true rfl) rfl (Nat.le_of_ble_eq_true rfl) (fun q15 hq15 hTq15 => ?_)
      refine aw_beq (pc := 75) (tgt := 82) d_WR_mayStep_75 (by decide) (fun c16 => ?_) (fun c16 => ?_)
      · refine aw_iconst (pc := 78) (x := 1) d_WR_mayStep_78 (by decide) ?_
        refine aw_goto (pc := 79) (tgt := 83) d_WR_mayStep_79 (by decide) ?_
        exact aw_zreturn (pc := 83) (b := true) d_WR_mayStep_83 rfl rfl
      · refine aw_iconst (pc := 82) (x := 0) d_WR_mayStep_82 (by decide) ?_
        exact aw_zreturn (pc := 83) (b := false) d_WR_mayStep_83 rfl rfl
  refine aw_cases (fun c17 => ?_) (fun c17 => ?_)
  · refine aw_tbl (pc := 4) (tgt := 84) (off := 80) d_WR_mayStep_4 (by rw [c17]; decide) (by rw [c17]; decide) (by rw [c17]; rfl) (by decide) ?_
    refine aw_aload_n (pc := 84) d_WR_mayStep_84 rfl 2 rfl ?_
    refine gt_907 (pc := 85) d_WR_mayStep_85 w2_105 t2 ?_
    refine aw_bipush (pc := 88) (x := 30) d_WR_mayStep_88 (by decide) ?_
    refine aw_icmp_lt (pc := 90) (tgt := 100) d_WR_mayStep_90 (by decide) (fun c18 => ?_) (fun c18 => ?_)
    · refine aw_aload_n (pc := 100) d_WR_mayStep_100 rfl 0 rfl ?_
      refine gt_1001 (pc := 101) d_WR_mayStep_101 w1_159 t0 ?_
      refine aw_iconst (pc := 104) (x := 3) d_WR_mayStep_104 (by decide) ?_
      refine aw_icmp_lt (pc := 105) (tgt := 117) d_WR_mayStep_105 (by decide) (fun c19 => ?_) (fun c19 => ?_)
      · refine aw_iconst (pc := 117) (x := 1) d_WR_mayStep_117 (by decide) ?_
        refine aw_goto (pc := 118) (tgt := 122) d_WR_mayStep_118 (by decide) ?_
        exact aw_zreturn (pc := 122) (b := true) d_WR_mayStep_122 rfl rfl
      · refine aw_aload_n (pc := 108) d_WR_mayStep_108 rfl 1 rfl ?_
        refine aw_bipush (pc := 109) (x := 7) d_WR_mayStep_109 (by decide) ?_
        refine aw_cVrZ (pc := 111) (ci := 7) (T := TX7) (N := 13) (As := [.int 7]) (st := []) (ok_To_blame Y l1 7 h t1) okV_To_blame rfl (by decide) t1 w4_106 d_WR_mayStep_111 rfl (Nat.le_of_ble_eq_true rfl) rfl (Nat.le_of_ble_eq_true rfl) (fun q20 hq20 hTq20 => ?_)
        refine aw_beq (pc := 114) (tgt := 121) d_WR_mayStep_114 (by decide) (fun c21 => ?_) (fun c21 => ?_)
        · refine aw_iconst (pc := 117) (x := 1) d_WR_mayStep_117 (by decide) ?_
          refine aw_goto (pc := 118) (tgt := 122) d_WR_mayStep_118 (by decide) ?_
          exact aw_zreturn (pc := 122) (b := true) d_WR_mayStep_122 rfl rfl
        · refine aw_iconst (pc := 121) (x := 0) d_WR_mayStep_121 (by decide) ?_
          exact aw_zreturn (pc := 122) (b := false) d_WR_mayStep_122 rfl rfl
    · refine aw_aload_n (pc := 93) d_WR_mayStep_93 rfl 1 rfl ?_
      refine aw_bipush (pc := 94) (x := 6) d_WR_mayStep_94 (by decide) ?_
      refine aw_cVrZ (pc := 96) (ci := 7) (T := TX7) (N := 13) (As := [.int 6]) (st := []) (ok_To_blame Y l1 6 h t1) okV_To_blame rfl (by decide) t1 w4_106 d_WR_mayStep_96 rfl (Nat.le_of_ble_eq_true rfl) rfl (Nat.le_of_ble_eq_true rfl) (fun q22 hq22 hTq22 => ?_)
      exact aw_zreturn (pc := 99) (b := q22.1) d_WR_mayStep_99 rfl rfl
  refine aw_cases (fun c23 => ?_) (fun c23 => ?_)
  · refine aw_tbl (pc := 4) (tgt := 84) (off := 80) d_WR_mayStep_4 (by rw [c23]; decide) (by rw [c23]; decide) (by rw [c23]; rfl) (by decide) ?_
    refine aw_aload_n (pc := 84) d_WR_mayStep_84 rfl 2 rfl ?_
    refine gt_907 (pc := 85) d_WR_mayStep_85 w2_105 t2 ?_
    refine aw_bipush (pc := 88) (x := 30) d_WR_mayStep_88 (by decide) ?_
    refine aw_icmp_lt (pc := 90) (tgt := 100) d_WR_mayStep_90 (by decide) (fun c24 => ?_) (fun c24 => ?_)
    · refine aw_aload_n (pc := 100) d_WR_mayStep_100 rfl 0 rfl ?_
      refine gt_1001 (pc := 101) d_WR_mayStep_101 w1_159 t0 ?_
      refine aw_iconst (pc := 104) (x := 3) d_WR_mayStep_104 (by decide) ?_
      refine aw_icmp_lt (pc := 105) (tgt := 117) d_WR_mayStep_105 (by decide) (fun c25 => ?_) (fun c25 => ?_)
      · refine aw_iconst (pc := 117) (x := 1) d_WR_mayStep_117 (by decide) ?_
        refine aw_goto (pc := 118) (tgt := 122) d_WR_mayStep_118 (by decide) ?_
        exact aw_zreturn (pc := 122) (b := true) d_WR_mayStep_122 rfl rfl
      · refine aw_aload_n (pc := 108) d_WR_mayStep_108 rfl 1 rfl ?_
        refine aw_bipush (pc := 109) (x := 7) d_WR_mayStep_109 (by decide) ?_
        refine aw_cVrZ (pc := 111) (ci := 7) (T := TX7) (N := 13) (As := [.int 7]) (st := []) (ok_To_blame Y l1 7 h t1) okV_To_blame rfl (by decide) t1 w4_106 d_WR_mayStep_111 rfl (Nat.le_of_ble_eq_true rfl) rfl (Nat.le_of_ble_eq_true rfl) (fun q26 hq26 hTq26 => ?_)
        refine aw_beq (pc := 114) (tgt := 121) d_WR_mayStep_114 (by decide) (fun c27 => ?_) (fun c27 => ?_)
        · refine aw_iconst (pc := 117) (x := 1) d_WR_mayStep_117 (by decide) ?_
          refine aw_goto (pc := 118) (tgt := 122) d_WR_mayStep_118 (by decide) ?_
          exact aw_zreturn (pc := 122) (b := true) d_WR_mayStep_122 rfl rfl
        · refine aw_iconst (pc := 121) (x := 0) d_WR_mayStep_121 (by decide) ?_
          exact aw_zreturn (pc := 122) (b := false) d_WR_mayStep_122 rfl rfl
    · refine aw_aload_n (pc := 93) d_WR_mayStep_93 rfl 1 rfl ?_
      refine aw_bipush (pc := 94) (x := 6) d_WR_mayStep_94 (by decide) ?_
      refine aw_cVrZ (pc := 96) (ci := 7) (T := TX7) (N := 13) (As := [.int 6]) (st := []) (ok_To_blame Y l1 6 h t1) okV_To_blame rfl (by decide) t1 w4_106 d_WR_mayStep_96 rfl (Nat.le_of_ble_eq_true rfl) rfl (Nat.le_of_ble_eq_true rfl) (fun q28 hq28 hTq28 => ?_)
      exact aw_zreturn (pc := 99) (b := q28.1) d_WR_mayStep_99 rfl rfl
  refine aw_cases (fun c29 => ?_) (fun c29 => ?_)
  · refine aw_tbl (pc := 4) (tgt := 60) (off := 56) d_WR_mayStep_4 (by rw [c29]; decide) (by rw [c29]; decide) (by rw [c29]; rfl) (by decide) ?_
    refine aw_aload_n (pc := 60) d_WR_mayStep_60 rfl 2 rfl ?_
    refine gt_907 (pc := 61) d_WR_mayStep_61 w2_105 t2 ?_
    refine aw_bipush (pc := 64) (x := 30) d_WR_mayStep_64 (by decide) ?_
    refine aw_icmp_lt (pc := 66) (tgt := 78) d_WR_mayStep_66 (by decide) (fun c30 => ?_) (fun c30 => ?_)
    · refine aw_iconst (pc := 78) (x := 1) d_WR_mayStep_78 (by decide) ?_
      refine aw_goto (pc := 79) (tgt := 83) d_WR_mayStep_79 (by decide) ?_
      exact aw_zreturn (pc := 83) (b := true) d_WR_mayStep_83 rfl rfl
    · refine aw_aload_n (pc := 69) d_WR_mayStep_69 rfl 1 rfl ?_
      refine aw_bipush (pc := 70) (x := 6) d_WR_mayStep_70 (by decide) ?_
      refine aw_cVrZ (pc := 72) (ci := 7) (T := TX7) (N := 13) (As := [.int 6]) (st := []) (ok_To_blame Y l1 6 h t1) okV_To_blame rfl (by decide) t1 w4_106 d_WR_mayStep_72 rfl (Nat.le_of_ble_eq_true rfl) rfl (Nat.le_of_ble_eq_true rfl) (fun q31 hq31 hTq31 => ?_)
      refine aw_beq (pc := 75) (tgt := 82) d_WR_mayStep_75 (by decide) (fun c32 => ?_) (fun c32 => ?_)
      · refine aw_iconst (pc := 78) (x := 1) d_WR_mayStep_78 (by decide) ?_
        refine aw_goto (pc := 79) (tgt := 83) d_WR_mayStep_79 (by decide) ?_
        exact aw_zreturn (pc := 83) (b := true) d_WR_mayStep_83 rfl rfl
      · refine aw_iconst (pc := 82) (x := 0) d_WR_mayStep_82 (by decide) ?_
        exact aw_zreturn (pc := 83) (b := false) d_WR_mayStep_83 rfl rfl
  refine aw_tblX (pc := 4) (tgt := 123) d_WR_mayStep_4 (by intro k hk; match k, hk with | 0, _ => exact Or.inr (fun q => c1 (q.trans (by decide))) | 1, _ => exact Or.inr (fun q => c5 (q.trans (by decide))) | 2, _ => exact Or.inr (fun q => c9 (q.trans (by decide))) | 3, _ => exact Or.inr (fun q => c13 (q.trans (by decide))) | 4, _ => exact Or.inr (fun q => c17 (q.trans (by decide))) | 5, _ => exact Or.inl rfl | 6, _ => exact Or.inl rfl | 7, _ => exact Or.inr (fun q => c23 (q.trans (by decide))) | 8, _ => exact Or.inl rfl | 9, _ => exact Or.inr (fun q => c29 (q.trans (by decide))) | k + 10, hk => exact absurd hk (by show ¬ (k + 10 < 10); omega)) rfl (by decide) ?_
  refine aw_aload_n (pc := 123) d_WR_mayStep_123 rfl 1 rfl ?_
  refine aw_iconst (pc := 124) (x := 2) d_WR_mayStep_124 (by decide) ?_
  refine aw_cVrZ (pc := 125) (ci := 7) (T := TX7) (N := 13) (As := [.int 2]) (st := []) (ok_To_blame Y l1 2 h t1) okV_To_blame rfl (by decide) t1 w4_106 d_WR_mayStep_125 rfl (Nat.le_of_ble_eq_true rfl) rfl (Nat.le_of_ble_eq_true rfl) (fun q33 hq33 hTq33 => ?_)
  exact aw_zreturn (pc := 128) (b := q33.1) d_WR_mayStep_128 rfl rfl
/-! LastPages$Weeks.addRow(IIII)V -/
theorem d_We_addRow_0 : decode prog_11_method_5_code 0 = .ok (.aload_n 0, 1) := by decide +kernel
theorem d_We_addRow_1 : decode prog_11_method_5_code 1 = .ok (.getfield 31, 3) := by decide +kernel
theorem d_We_addRow_4 : decode prog_11_method_5_code 4 = .ok (.bipush 60, 2) := by decide +kernel
theorem d_We_addRow_6 : decode prog_11_method_5_code 6 = .ok (.if_icmp .ge 84, 3) := by decide +kernel
theorem d_We_addRow_9 : decode prog_11_method_5_code 9 = .ok (.aload_n 0, 1) := by decide +kernel
theorem d_We_addRow_10 : decode prog_11_method_5_code 10 = .ok (.getfield 9, 3) := by decide +kernel
theorem d_We_addRow_13 : decode prog_11_method_5_code 13 = .ok (.aload_n 0, 1) := by decide +kernel
theorem d_We_addRow_14 : decode prog_11_method_5_code 14 = .ok (.getfield 31, 3) := by decide +kernel
theorem d_We_addRow_17 : decode prog_11_method_5_code 17 = .ok (.iload_n 1, 1) := by decide +kernel
theorem d_We_addRow_18 : decode prog_11_method_5_code 18 = .ok (.iastore, 1) := by decide +kernel
theorem d_We_addRow_19 : decode prog_11_method_5_code 19 = .ok (.aload_n 0, 1) := by decide +kernel
theorem d_We_addRow_20 : decode prog_11_method_5_code 20 = .ok (.getfield 18, 3) := by decide +kernel
theorem d_We_addRow_23 : decode prog_11_method_5_code 23 = .ok (.aload_n 0, 1) := by decide +kernel
theorem d_We_addRow_24 : decode prog_11_method_5_code 24 = .ok (.getfield 31, 3) := by decide +kernel
theorem d_We_addRow_27 : decode prog_11_method_5_code 27 = .ok (.iload_n 2, 1) := by decide +kernel
theorem d_We_addRow_28 : decode prog_11_method_5_code 28 = .ok (.iastore, 1) := by decide +kernel
theorem d_We_addRow_29 : decode prog_11_method_5_code 29 = .ok (.aload_n 0, 1) := by decide +kernel
theorem d_We_addRow_30 : decode prog_11_method_5_code 30 = .ok (.getfield 15, 3) := by decide +kernel
theorem d_We_addRow_33 : decode prog_11_method_5_code 33 = .ok (.aload_n 0, 1) := by decide +kernel
theorem d_We_addRow_34 : decode prog_11_method_5_code 34 = .ok (.getfield 31, 3) := by decide +kernel
theorem d_We_addRow_37 : decode prog_11_method_5_code 37 = .ok (.iload_n 3, 1) := by decide +kernel
theorem d_We_addRow_38 : decode prog_11_method_5_code 38 = .ok (.iastore, 1) := by decide +kernel
theorem d_We_addRow_39 : decode prog_11_method_5_code 39 = .ok (.aload_n 0, 1) := by decide +kernel
theorem d_We_addRow_40 : decode prog_11_method_5_code 40 = .ok (.getfield 21, 3) := by decide +kernel
theorem d_We_addRow_43 : decode prog_11_method_5_code 43 = .ok (.aload_n 0, 1) := by decide +kernel
theorem d_We_addRow_44 : decode prog_11_method_5_code 44 = .ok (.getfield 31, 3) := by decide +kernel
theorem d_We_addRow_47 : decode prog_11_method_5_code 47 = .ok (.iload 4, 2) := by decide +kernel
theorem d_We_addRow_49 : decode prog_11_method_5_code 49 = .ok (.iastore, 1) := by decide +kernel
theorem d_We_addRow_50 : decode prog_11_method_5_code 50 = .ok (.aload_n 0, 1) := by decide +kernel
theorem d_We_addRow_51 : decode prog_11_method_5_code 51 = .ok (.getfield 24, 3) := by decide +kernel
theorem d_We_addRow_54 : decode prog_11_method_5_code 54 = .ok (.aload_n 0, 1) := by decide +kernel
theorem d_We_addRow_55 : decode prog_11_method_5_code 55 = .ok (.getfield 31, 3) := by decide +kernel
theorem d_We_addRow_58 : decode prog_11_method_5_code 58 = .ok (.iconst (-1), 1) := by decide +kernel
theorem d_We_addRow_59 : decode prog_11_method_5_code 59 = .ok (.iastore, 1) := by decide +kernel
theorem d_We_addRow_60 : decode prog_11_method_5_code 60 = .ok (.aload_n 0, 1) := by decide +kernel
theorem d_We_addRow_61 : decode prog_11_method_5_code 61 = .ok (.dup, 1) := by decide +kernel
theorem d_We_addRow_62 : decode prog_11_method_5_code 62 = .ok (.getfield 31, 3) := by decide +kernel
theorem d_We_addRow_65 : decode prog_11_method_5_code 65 = .ok (.iconst 1, 1) := by decide +kernel
theorem d_We_addRow_66 : decode prog_11_method_5_code 66 = .ok (.iadd, 1) := by decide +kernel
theorem d_We_addRow_67 : decode prog_11_method_5_code 67 = .ok (.putfield 31, 3) := by decide +kernel
theorem d_We_addRow_70 : decode prog_11_method_5_code 70 = .ok (.aload_n 0, 1) := by decide +kernel
theorem d_We_addRow_71 : decode prog_11_method_5_code 71 = .ok (.dup, 1) := by decide +kernel
theorem d_We_addRow_72 : decode prog_11_method_5_code 72 = .ok (.getfield 35, 3) := by decide +kernel
theorem d_We_addRow_75 : decode prog_11_method_5_code 75 = .ok (.iload_n 1, 1) := by decide +kernel
theorem d_We_addRow_76 : decode prog_11_method_5_code 76 = .ok (.bipush 29, 2) := by decide +kernel
theorem d_We_addRow_78 : decode prog_11_method_5_code 78 = .ok (.if_icmp .ne 7, 3) := by decide +kernel
theorem d_We_addRow_81 : decode prog_11_method_5_code 81 = .ok (.iconst 0, 1) := by decide +kernel
theorem d_We_addRow_82 : decode prog_11_method_5_code 82 = .ok (.goto 4, 3) := by decide +kernel
theorem d_We_addRow_85 : decode prog_11_method_5_code 85 = .ok (.iconst 1, 1) := by decide +kernel
theorem d_We_addRow_86 : decode prog_11_method_5_code 86 = .ok (.iadd, 1) := by decide +kernel
theorem d_We_addRow_87 : decode prog_11_method_5_code 87 = .ok (.putfield 35, 3) := by decide +kernel
theorem d_We_addRow_90 : decode prog_11_method_5_code 90 = .ok (.return_, 1) := by decide +kernel
def We_addRow (Y : Ly) (l0 : Nat) (l1 : Int32) (l2 : Int32) (l3 : Int32) (l4 : Int32) (h : Hp) : Option Hp :=
  if 60 ≤ (hGi h 906 l0) then
    some h
  else
    if inB (hGi h 906 l0) (lnY Y (hGr h 900 l0)) = true then
      letH (hTi h (hGr h 900 l0) (Int32.toNatClampNeg (hGi h 906 l0)) l1) fun h4 =>
      if inB (hGi h4 906 l0) (lnY Y (hGr h4 902 l0)) = true then
        letH (hTi h4 (hGr h4 902 l0) (Int32.toNatClampNeg (hGi h4 906 l0)) l2) fun h7 =>
        if inB (hGi h7 906 l0) (lnY Y (hGr h7 901 l0)) = true then
          letH (hTi h7 (hGr h7 901 l0) (Int32.toNatClampNeg (hGi h7 906 l0)) l3) fun h10 =>
          if inB (hGi h10 906 l0) (lnY Y (hGr h10 903 l0)) = true then
            letH (hTi h10 (hGr h10 903 l0) (Int32.toNatClampNeg (hGi h10 906 l0)) l4) fun h13 =>
            if inB (hGi h13 906 l0) (lnY Y (hGr h13 904 l0)) = true then
              letH (hTi h13 (hGr h13 904 l0) (Int32.toNatClampNeg (hGi h13 906 l0)) (-1)) fun h16 =>
              letH (hSi h16 906 l0 ((hGi h16 906 l0) + 1)) fun h17 =>
              if l1 = 29 then
                letH (hSi h17 907 l0 ((hGi h17 907 l0) + 0)) fun h19 =>
                some h19
              else
                letH (hSi h17 907 l0 ((hGi h17 907 l0) + 1)) fun h20 =>
                some h20
            else none
          else none
        else none
      else none
    else none
theorem ok_We_addRow (Y : Ly) (l0 : Nat) (l1 : Int32) (l2 : Int32) (l3 : Int32) (l4 : Int32) (h : Hp) (t0 : isO Y 9 l0) : AM Y 0 K_We_addRow [.ref l0, .int l1, .int l2, .int l3, .int l4] h (We_addRow Y l0 l1 l2 l3 l4 h) rV := by
  refine AM.of rfl (Nat.le_of_ble_eq_true rfl) ?_
  show AW Y 0 K_We_addRow 0 [(0, .ref l0), (1, .int l1), (2, .int l2), (3, .int l3), (4, .int l4)] [] h (We_addRow Y l0 l1 l2 l3 l4 h) rV
  unfold We_addRow
  refine aw_aload_n (pc := 0) d_We_addRow_0 rfl 0 rfl ?_
  refine gt_906 (pc := 1) d_We_addRow_1 w2_102 t0 ?_
  refine aw_bipush (pc := 4) (x := 60) d_We_addRow_4 (by decide) ?_
  refine aw_icmp_ge (pc := 6) (tgt := 90) d_We_addRow_6 (by decide) (fun c1 => ?_) (fun c1 => ?_)
  · exact aw_return (pc := 90) d_We_addRow_90 rfl rfl
  · refine aw_aload_n (pc := 9) d_We_addRow_9 rfl 0 rfl ?_
    refine gt_900 (pc := 10) d_We_addRow_10 w2_89 t0 (fun tt2 => ?_)
    refine aw_aload_n (pc := 13) d_We_addRow_13 rfl 0 rfl ?_
    refine gt_906 (pc := 14) d_We_addRow_14 w2_102 t0 ?_
    refine aw_iload_n (pc := 17) d_We_addRow_17 rfl 1 rfl ?_
    refine aw_iastore (pc := 18) d_We_addRow_18 tt2 (fun c3 => ?_)
    refine aw_letH (fun h4 => ?_)
    refine aw_aload_n (pc := 19) d_We_addRow_19 rfl 0 rfl ?_
    refine gt_902 (pc := 20) d_We_addRow_20 w2_93 t0 (fun tt5 => ?_)
    refine aw_aload_n (pc := 23) d_We_addRow_23 rfl 0 rfl ?_
    refine gt_906 (pc := 24) d_We_addRow_24 w2_102 t0 ?_
    refine aw_iload_n (pc := 27) d_We_addRow_27 rfl 2 rfl ?_
    refine aw_iastore (pc := 28) d_We_addRow_28 tt5 (fun c6 => ?_)
    refine aw_letH (fun h7 => ?_)
    refine aw_aload_n (pc := 29) d_We_addRow_29 rfl 0 rfl ?_
    refine gt_901 (pc := 30) d_We_addRow_30 w2_91 t0 (fun tt8 => ?_)
    refine aw_aload_n (pc := 33) d_We_addRow_33 rfl 0 rfl ?_
    refine gt_906 (pc := 34) d_We_addRow_34 w2_102 t0 ?_
    refine aw_iload_n (pc := 37) d_We_addRow_37 rfl 3 rfl ?_
    refine aw_iastore (pc := 38) d_We_addRow_38 tt8 (fun c9 => ?_)
    refine aw_letH (fun h10 => ?_)
    refine aw_aload_n (pc := 39) d_We_addRow_39 rfl 0 rfl ?_
    refine gt_903 (pc := 40) d_We_addRow_40 w2_95 t0 (fun tt11 => ?_)
    refine aw_aload_n (pc := 43) d_We_addRow_43 rfl 0 rfl ?_
    refine gt_906 (pc := 44) d_We_addRow_44 w2_102 t0 ?_
    refine aw_iload (pc := 47) d_We_addRow_47 4 rfl ?_
    refine aw_iastore (pc := 49) d_We_addRow_49 tt11 (fun c12 => ?_)
    refine aw_letH (fun h13 => ?_)
    refine aw_aload_n (pc := 50) d_We_addRow_50 rfl 0 rfl ?_
    refine gt_904 (pc := 51) d_We_addRow_51 w2_97 t0 (fun tt14 => ?_)
    refine aw_aload_n (pc := 54) d_We_addRow_54 rfl 0 rfl ?_
    refine gt_906 (pc := 55) d_We_addRow_55 w2_102 t0 ?_
    refine aw_iconst (pc := 58) (x := (-1)) d_We_addRow_58 (by decide) ?_
    refine aw_iastore (pc := 59) d_We_addRow_59 tt14 (fun c15 => ?_)
    refine aw_letH (fun h16 => ?_)
    refine aw_aload_n (pc := 60) d_We_addRow_60 rfl 0 rfl ?_
    refine aw_dup (pc := 61) d_We_addRow_61 rfl ?_
    refine gt_906 (pc := 62) d_We_addRow_62 w2_102 t0 ?_
    refine aw_iconst (pc := 65) (x := 1) d_We_addRow_65 (by decide) ?_
    refine aw_iadd (pc := 66) d_We_addRow_66 ?_
    refine pt_906 (pc := 67) d_We_addRow_67 w2_102 t0 ?_
    refine aw_letH (fun h17 => ?_)
    refine aw_aload_n (pc := 70) d_We_addRow_70 rfl 0 rfl ?_
    refine aw_dup (pc := 71) d_We_addRow_71 rfl ?_
    refine gt_907 (pc := 72) d_We_addRow_72 w2_104 t0 ?_
    refine aw_iload_n (pc := 75) d_We_addRow_75 rfl 1 rfl ?_
    refine aw_bipush (pc := 76) (x := 29) d_We_addRow_76 (by decide) ?_
    refine aw_icmp_ne (pc := 78) (tgt := 85) d_We_addRow_78 (by decide) (fun c18 => ?_) (fun c18 => ?_)
    · refine aw_iconst (pc := 81) (x := 0) d_We_addRow_81 (by decide) ?_
      refine aw_goto (pc := 82) (tgt := 86) d_We_addRow_82 (by decide) ?_
      refine aw_iadd (pc := 86) d_We_addRow_86 ?_
      refine pt_907 (pc := 87) d_We_addRow_87 w2_104 t0 ?_
      refine aw_letH (fun h19 => ?_)
      exact aw_return (pc := 90) d_We_addRow_90 rfl rfl
    · refine aw_iconst (pc := 85) (x := 1) d_We_addRow_85 (by decide) ?_
      refine aw_iadd (pc := 86) d_We_addRow_86 ?_
      refine pt_907 (pc := 87) d_We_addRow_87 w2_104 t0 ?_
      refine aw_letH (fun h20 => ?_)
      exact aw_return (pc := 90) d_We_addRow_90 rfl rfl
/-! LastPages$Weeks.closeRow(I)V -/
theorem d_We_closeRow_0 : decode prog_11_method_6_code 0 = .ok (.aload_n 0, 1) := by decide +kernel
theorem d_We_closeRow_1 : decode prog_11_method_6_code 1 = .ok (.getfield 31, 3) := by decide +kernel
theorem d_We_closeRow_4 : decode prog_11_method_6_code 4 = .ok (.istore_n 2, 1) := by decide +kernel
theorem d_We_closeRow_5 : decode prog_11_method_6_code 5 = .ok (.aload_n 0, 1) := by decide +kernel
theorem d_We_closeRow_6 : decode prog_11_method_6_code 6 = .ok (.bipush 29, 2) := by decide +kernel
theorem d_We_closeRow_8 : decode prog_11_method_6_code 8 = .ok (.iconst (-1), 1) := by decide +kernel
theorem d_We_closeRow_9 : decode prog_11_method_6_code 9 = .ok (.iconst 0, 1) := by decide +kernel
theorem d_We_closeRow_10 : decode prog_11_method_6_code 10 = .ok (.iconst 0, 1) := by decide +kernel
theorem d_We_closeRow_11 : decode prog_11_method_6_code 11 = .ok (.invokevirtual 44, 3) := by decide +kernel
theorem d_We_closeRow_14 : decode prog_11_method_6_code 14 = .ok (.aload_n 0, 1) := by decide +kernel
theorem d_We_closeRow_15 : decode prog_11_method_6_code 15 = .ok (.iload_n 1, 1) := by decide +kernel
theorem d_We_closeRow_16 : decode prog_11_method_6_code 16 = .ok (.invokevirtual 48, 3) := by decide +kernel
theorem d_We_closeRow_19 : decode prog_11_method_6_code 19 = .ok (.ifCond .eq 25, 3) := by decide +kernel
theorem d_We_closeRow_22 : decode prog_11_method_6_code 22 = .ok (.aload_n 0, 1) := by decide +kernel
theorem d_We_closeRow_23 : decode prog_11_method_6_code 23 = .ok (.iload_n 2, 1) := by decide +kernel
theorem d_We_closeRow_24 : decode prog_11_method_6_code 24 = .ok (.invokevirtual 48, 3) := by decide +kernel
theorem d_We_closeRow_27 : decode prog_11_method_6_code 27 = .ok (.ifCond .eq 17, 3) := by decide +kernel
theorem d_We_closeRow_30 : decode prog_11_method_6_code 30 = .ok (.aload_n 0, 1) := by decide +kernel
theorem d_We_closeRow_31 : decode prog_11_method_6_code 31 = .ok (.getfield 24, 3) := by decide +kernel
theorem d_We_closeRow_34 : decode prog_11_method_6_code 34 = .ok (.iload_n 1, 1) := by decide +kernel
theorem d_We_closeRow_35 : decode prog_11_method_6_code 35 = .ok (.iload_n 2, 1) := by decide +kernel
theorem d_We_closeRow_36 : decode prog_11_method_6_code 36 = .ok (.iastore, 1) := by decide +kernel
theorem d_We_closeRow_37 : decode prog_11_method_6_code 37 = .ok (.aload_n 0, 1) := by decide +kernel
theorem d_We_closeRow_38 : decode prog_11_method_6_code 38 = .ok (.getfield 24, 3) := by decide +kernel
theorem d_We_closeRow_41 : decode prog_11_method_6_code 41 = .ok (.iload_n 2, 1) := by decide +kernel
theorem d_We_closeRow_42 : decode prog_11_method_6_code 42 = .ok (.iload_n 1, 1) := by decide +kernel
theorem d_We_closeRow_43 : decode prog_11_method_6_code 43 = .ok (.iastore, 1) := by decide +kernel
theorem d_We_closeRow_44 : decode prog_11_method_6_code 44 = .ok (.return_, 1) := by decide +kernel
def We_closeRow (Y : Ly) (l0 : Nat) (l1 : Int32) (h : Hp) : Option Hp :=
  (We_addRow Y l0 29 (-1) 0 0 h).bind fun q1 =>
  (We_hasRow Y l0 l1 q1).bind fun q2 =>
  if q2 = true then
    (We_hasRow Y l0 (hGi h 906 l0) q1).bind fun q4 =>
    if q4 = true then
      if inB l1 (lnY Y (hGr q1 904 l0)) = true then
        letH (hTi q1 (hGr q1 904 l0) (Int32.toNatClampNeg l1) (hGi h 906 l0)) fun h8 =>
        if inB (hGi h 906 l0) (lnY Y (hGr h8 904 l0)) = true then
          letH (hTi h8 (hGr h8 904 l0) (Int32.toNatClampNeg (hGi h 906 l0)) l1) fun h11 =>
          some h11
        else none
      else none
    else
      some q1
  else
    some q1
theorem ok_We_closeRow (Y : Ly) (l0 : Nat) (l1 : Int32) (h : Hp) (t0 : isO Y 9 l0) : AM Y 1 K_We_closeRow [.ref l0, .int l1] h (We_closeRow Y l0 l1 h) rV := by
  refine AM.of rfl (Nat.le_of_ble_eq_true rfl) ?_
  show AW Y 1 K_We_closeRow 0 [(0, .ref l0), (1, .int l1)] [] h (We_closeRow Y l0 l1 h) rV
  unfold We_closeRow
  refine aw_aload_n (pc := 0) d_We_closeRow_0 rfl 0 rfl ?_
  refine gt_906 (pc := 1) d_We_closeRow_1 w2_102 t0 ?_
  refine aw_istore_n (pc := 4) (lv' := [(2, .int (hGi h 906 l0)), (0, .ref l0), (1, .int l1)]) d_We_closeRow_4 rfl (by decide) rfl ?_
  refine aw_aload_n (pc := 5) d_We_closeRow_5 rfl 1 rfl ?_
  refine aw_bipush (pc := 6) (x := 29) d_We_closeRow_6 (by decide) ?_
  refine aw_iconst (pc := 8) (x := (-1)) d_We_closeRow_8 (by decide) ?_
  refine aw_iconst (pc := 9) (x := 0) d_We_closeRow_9 (by decide) ?_
  refine aw_iconst (pc := 10) (x := 0) d_We_closeRow_10 (by decide) ?_
  refine aw_cVrV (pc := 11) (ci := 9) (T := TX9) (N := 8) (As := [.int 29, .int (-1), .int 0, .int 0]) (st := []) (ok_We_addRow Y l0 29 (-1) 0 0 h t0) okV_We_addRow rfl (by decide) t0 w4_111 d_We_closeRow_11 rfl (Nat.le_of_ble_eq_true rfl) rfl (Nat.le_of_ble_eq_true rfl) (fun q1 hq1 hTq1 => ?_)
  refine aw_aload_n (pc := 14) d_We_closeRow_14 rfl 1 rfl ?_
  refine aw_iload_n (pc := 15) d_We_closeRow_15 rfl 2 rfl ?_
  refine aw_cVpZ (pc := 16) (ci := 9) (T := TX9) (N := 8) (As := [.int l1]) (st := []) (ok_We_hasRow Y l0 l1 q1 t0) okV_We_hasRow rfl (by decide) t0 w4_115 d_We_closeRow_16 rfl (Nat.le_of_ble_eq_true rfl) rfl (Nat.le_of_ble_eq_true rfl) (fun q2 hq2 hTq2 => ?_)
  refine aw_beq (pc := 19) (tgt := 44) d_We_closeRow_19 (by decide) (fun c3 => ?_) (fun c3 => ?_)
  · refine aw_aload_n (pc := 22) d_We_closeRow_22 rfl 1 rfl ?_
    refine aw_iload_n (pc := 23) d_We_closeRow_23 rfl 0 rfl ?_
    refine aw_cVpZ (pc := 24) (ci := 9) (T := TX9) (N := 8) (As := [.int (hGi h 906 l0)]) (st := []) (ok_We_hasRow Y l0 (hGi h 906 l0) q1 t0) okV_We_hasRow rfl (by decide) t0 w4_115 d_We_closeRow_24 rfl (Nat.le_of_ble_eq_true rfl) rfl (Nat.le_of_ble_eq_true rfl) (fun q4 hq4 hTq4 => ?_)
    refine aw_beq (pc := 27) (tgt := 44) d_We_closeRow_27 (by decide) (fun c5 => ?_) (fun c5 => ?_)
    · refine aw_aload_n (pc := 30) d_We_closeRow_30 rfl 1 rfl ?_
      refine gt_904 (pc := 31) d_We_closeRow_31 w2_97 t0 (fun tt6 => ?_)
      refine aw_iload_n (pc := 34) d_We_closeRow_34 rfl 2 rfl ?_
      refine aw_iload_n (pc := 35) d_We_closeRow_35 rfl 0 rfl ?_
      refine aw_iastore (pc := 36) d_We_closeRow_36 tt6 (fun c7 => ?_)
      refine aw_letH (fun h8 => ?_)
      refine aw_aload_n (pc := 37) d_We_closeRow_37 rfl 1 rfl ?_
      refine gt_904 (pc := 38) d_We_closeRow_38 w2_97 t0 (fun tt9 => ?_)
      refine aw_iload_n (pc := 41) d_We_closeRow_41 rfl 0 rfl ?_
      refine aw_iload_n (pc := 42) d_We_closeRow_42 rfl 2 rfl ?_
      refine aw_iastore (pc := 43) d_We_closeRow_43 tt9 (fun c10 => ?_)
      refine aw_letH (fun h11 => ?_)
      exact aw_return (pc := 44) d_We_closeRow_44 rfl rfl
    · exact aw_return (pc := 44) d_We_closeRow_44 rfl rfl
  · exact aw_return (pc := 44) d_We_closeRow_44 rfl rfl
/-! LastPages$WeeksReader.readEnd(LLastPages$Tokens;LLastPages$Weeks;)Z -/
theorem d_WR_readEnd_0 : decode prog_12_method_3_code 0 = .ok (.aload_n 0, 1) := by decide +kernel
theorem d_WR_readEnd_1 : decode prog_12_method_3_code 1 = .ok (.getfield 15, 3) := by decide +kernel
theorem d_WR_readEnd_4 : decode prog_12_method_3_code 4 = .ok (.iconst 1, 1) := by decide +kernel
theorem d_WR_readEnd_5 : decode prog_12_method_3_code 5 = .ok (.if_icmp .lt 11, 3) := by decide +kernel
theorem d_WR_readEnd_8 : decode prog_12_method_3_code 8 = .ok (.aload_n 0, 1) := by decide +kernel
theorem d_WR_readEnd_9 : decode prog_12_method_3_code 9 = .ok (.getfield 15, 3) := by decide +kernel
theorem d_WR_readEnd_12 : decode prog_12_method_3_code 12 = .ok (.iconst 3, 1) := by decide +kernel
theorem d_WR_readEnd_13 : decode prog_12_method_3_code 13 = .ok (.if_icmp .le 9, 3) := by decide +kernel
theorem d_WR_readEnd_16 : decode prog_12_method_3_code 16 = .ok (.aload_n 1, 1) := by decide +kernel
theorem d_WR_readEnd_17 : decode prog_12_method_3_code 17 = .ok (.iconst 2, 1) := by decide +kernel
theorem d_WR_readEnd_18 : decode prog_12_method_3_code 18 = .ok (.invokevirtual 55, 3) := by decide +kernel
theorem d_WR_readEnd_21 : decode prog_12_method_3_code 21 = .ok (.ireturn, 1) := by decide +kernel
theorem d_WR_readEnd_22 : decode prog_12_method_3_code 22 = .ok (.aload_n 0, 1) := by decide +kernel
theorem d_WR_readEnd_23 : decode prog_12_method_3_code 23 = .ok (.dup, 1) := by decide +kernel
theorem d_WR_readEnd_24 : decode prog_12_method_3_code 24 = .ok (.getfield 15, 3) := by decide +kernel
theorem d_WR_readEnd_27 : decode prog_12_method_3_code 27 = .ok (.iconst 1, 1) := by decide +kernel
theorem d_WR_readEnd_28 : decode prog_12_method_3_code 28 = .ok (.isub, 1) := by decide +kernel
theorem d_WR_readEnd_29 : decode prog_12_method_3_code 29 = .ok (.putfield 15, 3) := by decide +kernel
theorem d_WR_readEnd_32 : decode prog_12_method_3_code 32 = .ok (.aload_n 2, 1) := by decide +kernel
theorem d_WR_readEnd_33 : decode prog_12_method_3_code 33 = .ok (.aload_n 0, 1) := by decide +kernel
theorem d_WR_readEnd_34 : decode prog_12_method_3_code 34 = .ok (.getfield 9, 3) := by decide +kernel
theorem d_WR_readEnd_37 : decode prog_12_method_3_code 37 = .ok (.aload_n 0, 1) := by decide +kernel
theorem d_WR_readEnd_38 : decode prog_12_method_3_code 38 = .ok (.getfield 15, 3) := by decide +kernel
theorem d_WR_readEnd_41 : decode prog_12_method_3_code 41 = .ok (.iaload, 1) := by decide +kernel
theorem d_WR_readEnd_42 : decode prog_12_method_3_code 42 = .ok (.invokevirtual 59, 3) := by decide +kernel
theorem d_WR_readEnd_45 : decode prog_12_method_3_code 45 = .ok (.aload_n 1, 1) := by decide +kernel
theorem d_WR_readEnd_46 : decode prog_12_method_3_code 46 = .ok (.invokevirtual 62, 3) := by decide +kernel
theorem d_WR_readEnd_49 : decode prog_12_method_3_code 49 = .ok (.aload_n 1, 1) := by decide +kernel
theorem d_WR_readEnd_50 : decode prog_12_method_3_code 50 = .ok (.invokevirtual 51, 3) := by decide +kernel
theorem d_WR_readEnd_53 : decode prog_12_method_3_code 53 = .ok (.ireturn, 1) := by decide +kernel
def WR_readEnd (Y : Ly) (l0 : Nat) (l1 : Nat) (l2 : Nat) (h : Hp) : Option (Bool × Hp) :=
  if (hGi h 1001 l0) < 1 then
    (To_blame Y l1 2 h).bind fun q2 =>
    some (q2.1, q2.2)
  else
    if (hGi h 1001 l0) ≤ 3 then
      letH (hSi h 1001 l0 ((hGi h 1001 l0) - 1)) fun h4 =>
      if inB (hGi h4 1001 l0) (lnY Y (hGr h4 1000 l0)) = true then
        (We_closeRow Y l2 (hAi h4 (hGr h4 1000 l0) (Int32.toNatClampNeg (hGi h4 1001 l0))) h4).bind fun q7 =>
        (To_advance Y l1 q7).bind fun q8 =>
        (To_passSemicolon Y l1 q8).bind fun q9 =>
        some (q9.1, q9.2)
      else none
    else
      (To_blame Y l1 2 h).bind fun q10 =>
      some (q10.1, q10.2)
theorem ok_WR_readEnd (Y : Ly) (l0 : Nat) (l1 : Nat) (l2 : Nat) (h : Hp) (t0 : isO Y 10 l0) (t1 : isO Y 7 l1) (t2 : isO Y 9 l2) : AM Y 3 K_WR_readEnd [.ref l0, .ref l1, .ref l2] h (WR_readEnd Y l0 l1 l2 h) rZ := by
  refine AM.of rfl (Nat.le_of_ble_eq_true rfl) ?_
  show AW Y 3 K_WR_readEnd 0 [(0, .ref l0), (1, .ref l1), (2, .ref l2)] [] h (WR_readEnd Y l0 l1 l2 h) rZ
  unfold WR_readEnd
  refine aw_aload_n (pc := 0) d_WR_readEnd_0 rfl 0 rfl ?_
  refine gt_1001 (pc := 1) d_WR_readEnd_1 w1_159 t0 ?_
  refine aw_iconst (pc := 4) (x := 1) d_WR_readEnd_4 (by decide) ?_
  refine aw_icmp_lt (pc := 5) (tgt := 16) d_WR_readEnd_5 (by decide) (fun c1 => ?_) (fun c1 => ?_)
  · refine aw_aload_n (pc := 16) d_WR_readEnd_16 rfl 1 rfl ?_
    refine aw_iconst (pc := 17) (x := 2) d_WR_readEnd_17 (by decide) ?_
    refine aw_cVrZ (pc := 18) (ci := 7) (T := TX7) (N := 13) (As := [.int 2]) (st := []) (ok_To_blame Y l1 2 h t1) okV_To_blame rfl (by decide) t1 w4_106 d_WR_readEnd_18 rfl (Nat.le_of_ble_eq_true rfl) rfl (Nat.le_of_ble_eq_true rfl) (fun q2 hq2 hTq2 => ?_)
    exact aw_zreturn (pc := 21) (b := q2.1) d_WR_readEnd_21 rfl rfl
  · refine aw_aload_n (pc := 8) d_WR_readEnd_8 rfl 0 rfl ?_
    refine gt_1001 (pc := 9) d_WR_readEnd_9 w1_159 t0 ?_
    refine aw_iconst (pc := 12) (x := 3) d_WR_readEnd_12 (by decide) ?_
    refine aw_icmp_le (pc := 13) (tgt := 22) d_WR_readEnd_13 (by decide) (fun c3 => ?_) (fun c3 => ?_)
    · refine aw_aload_n (pc := 22) d_WR_readEnd_22 rfl 0 rfl ?_
      refine aw_dup (pc := 23) d_WR_readEnd_23 rfl ?_
      refine gt_1001 (pc := 24) d_WR_readEnd_24 w1_159 t0 ?_
      refine aw_iconst (pc := 27) (x := 1) d_WR_readEnd_27 (by decide) ?_
      refine aw_isub (pc := 28) d_WR_readEnd_28 ?_
      refine pt_1001 (pc := 29) d_WR_readEnd_29 w1_159 t0 ?_
      refine aw_letH (fun h4 => ?_)
      refine aw_aload_n (pc := 32) d_WR_readEnd_32 rfl 2 rfl ?_
      refine aw_aload_n (pc := 33) d_WR_readEnd_33 rfl 0 rfl ?_
      refine gt_1000 (pc := 34) d_WR_readEnd_34 w1_158 t0 (fun tt5 => ?_)
      refine aw_aload_n (pc := 37) d_WR_readEnd_37 rfl 0 rfl ?_
      refine gt_1001 (pc := 38) d_WR_readEnd_38 w1_159 t0 ?_
      refine aw_iaload (pc := 41) d_WR_readEnd_41 tt5 (fun c6 => ?_)
      refine aw_cVrV (pc := 42) (ci := 9) (T := TX9) (N := 8) (As := [.int (hAi h4 (hGr h4 1000 l0) (Int32.toNatClampNeg (hGi h4 1001 l0)))]) (st := []) (ok_We_closeRow Y l2 (hAi h4 (hGr h4 1000 l0) (Int32.toNatClampNeg (hGi h4 1001 l0))) h4 t2) okV_We_closeRow rfl (by decide) t2 w4_107 d_WR_readEnd_42 rfl (Nat.le_of_ble_eq_true rfl) rfl (Nat.le_of_ble_eq_true rfl) (fun q7 hq7 hTq7 => ?_)
      refine aw_aload_n (pc := 45) d_WR_readEnd_45 rfl 1 rfl ?_
      refine aw_cVrV (pc := 46) (ci := 7) (T := TX7) (N := 13) (As := []) (st := []) (ok_To_advance Y l1 q7 t1) okV_To_advance rfl (by decide) t1 w4_119 d_WR_readEnd_46 rfl (Nat.le_of_ble_eq_true rfl) rfl (Nat.le_of_ble_eq_true rfl) (fun q8 hq8 hTq8 => ?_)
      refine aw_aload_n (pc := 49) d_WR_readEnd_49 rfl 1 rfl ?_
      refine aw_cVrZ (pc := 50) (ci := 7) (T := TX7) (N := 13) (As := []) (st := []) (ok_To_passSemicolon Y l1 q8 t1) okV_To_passSemicolon rfl (by decide) t1 w4_120 d_WR_readEnd_50 rfl (Nat.le_of_ble_eq_true rfl) rfl (Nat.le_of_ble_eq_true rfl) (fun q9 hq9 hTq9 => ?_)
      exact aw_zreturn (pc := 53) (b := q9.1) d_WR_readEnd_53 rfl rfl
    · refine aw_aload_n (pc := 16) d_WR_readEnd_16 rfl 1 rfl ?_
      refine aw_iconst (pc := 17) (x := 2) d_WR_readEnd_17 (by decide) ?_
      refine aw_cVrZ (pc := 18) (ci := 7) (T := TX7) (N := 13) (As := [.int 2]) (st := []) (ok_To_blame Y l1 2 h t1) okV_To_blame rfl (by decide) t1 w4_106 d_WR_readEnd_18 rfl (Nat.le_of_ble_eq_true rfl) rfl (Nat.le_of_ble_eq_true rfl) (fun q10 hq10 hTq10 => ?_)
      exact aw_zreturn (pc := 21) (b := q10.1) d_WR_readEnd_21 rfl rfl
/-! LastPages$WeeksReader.readAbout(LLastPages$Tokens;LLastPages$Shelf;LLastPages$Weeks;II)Z -/
theorem d_WR_readAbout_0 : decode prog_12_method_7_code 0 = .ok (.aload_n 1, 1) := by decide +kernel
theorem d_WR_readAbout_1 : decode prog_12_method_7_code 1 = .ok (.aload_n 2, 1) := by decide +kernel
theorem d_WR_readAbout_2 : decode prog_12_method_7_code 2 = .ok (.iload 5, 2) := by decide +kernel
theorem d_WR_readAbout_4 : decode prog_12_method_7_code 4 = .ok (.invokevirtual 85, 3) := by decide +kernel
theorem d_WR_readAbout_7 : decode prog_12_method_7_code 7 = .ok (.ifCond .ne 5, 3) := by decide +kernel
theorem d_WR_readAbout_10 : decode prog_12_method_7_code 10 = .ok (.iconst 0, 1) := by decide +kernel
theorem d_WR_readAbout_11 : decode prog_12_method_7_code 11 = .ok (.ireturn, 1) := by decide +kernel
theorem d_WR_readAbout_12 : decode prog_12_method_7_code 12 = .ok (.aload_n 3, 1) := by decide +kernel
theorem d_WR_readAbout_13 : decode prog_12_method_7_code 13 = .ok (.iload 4, 2) := by decide +kernel
theorem d_WR_readAbout_15 : decode prog_12_method_7_code 15 = .ok (.aload_n 1, 1) := by decide +kernel
theorem d_WR_readAbout_16 : decode prog_12_method_7_code 16 = .ok (.getfield 89, 3) := by decide +kernel
theorem d_WR_readAbout_19 : decode prog_12_method_7_code 19 = .ok (.iconst 0, 1) := by decide +kernel
theorem d_WR_readAbout_20 : decode prog_12_method_7_code 20 = .ok (.iconst 0, 1) := by decide +kernel
theorem d_WR_readAbout_21 : decode prog_12_method_7_code 21 = .ok (.invokevirtual 81, 3) := by decide +kernel
theorem d_WR_readAbout_24 : decode prog_12_method_7_code 24 = .ok (.iconst 1, 1) := by decide +kernel
theorem d_WR_readAbout_25 : decode prog_12_method_7_code 25 = .ok (.ireturn, 1) := by decide +kernel
def WR_readAbout (Y : Ly) (l0 : Nat) (l1 : Nat) (l2 : Nat) (l3 : Nat) (l4 : Int32) (l5 : Int32) (h : Hp) : Option (Bool × Hp) :=
  (To_passOld Y l1 l2 l5 h).bind fun q1 =>
  if q1.1 = true then
    (We_addRow Y l3 l4 (hGi q1.2 710 l1) 0 0 q1.2).bind fun q3 =>
    some (true, q3)
  else
    some (false, q1.2)
theorem ok_WR_readAbout (Y : Ly) (l0 : Nat) (l1 : Nat) (l2 : Nat) (l3 : Nat) (l4 : Int32) (l5 : Int32) (h : Hp) (t0 : isO Y 10 l0) (t1 : isO Y 7 l1) (t2 : isO Y 4 l2) (t3 : isO Y 9 l3) : AM Y 3 K_WR_readAbout [.ref l0, .ref l1, .ref l2, .ref l3, .int l4, .int l5] h (WR_readAbout Y l0 l1 l2 l3 l4 l5 h) rZ := by
  refine AM.of rfl (Nat.le_of_ble_eq_true rfl) ?_
  show AW Y 3 K_WR_readAbout 0 [(0, .ref l0), (1, .ref l1), (2, .ref l2), (3, .ref l3), (4, .int l4), (5, .int l5)] [] h (WR_readAbout Y l0 l1 l2 l3 l4 l5 h) rZ
  unfold WR_readAbout
  refine aw_aload_n (pc := 0) d_WR_readAbout_0 rfl 1 rfl ?_
  refine aw_aload_n (pc := 1) d_WR_readAbout_1 rfl 2 rfl ?_
  refine aw_iload (pc := 2) d_WR_readAbout_2 5 rfl ?_
  refine aw_cVrZ (pc := 4) (ci := 7) (T := TX7) (N := 13) (As := [.ref l2, .int l5]) (st := []) (ok_To_passOld Y l1 l2 l5 h t1 t2) okV_To_passOld rfl (by decide) t1 w4_133 d_WR_readAbout_4 rfl (Nat.le_of_ble_eq_true rfl) rfl (Nat.le_of_ble_eq_true rfl) (fun q1 hq1 hTq1 => ?_)
  refine aw_bne (pc := 7) (tgt := 12) d_WR_readAbout_7 (by decide) (fun c2 => ?_) (fun c2 => ?_)
  · refine aw_aload_n (pc := 12) d_WR_readAbout_12 rfl 3 rfl ?_
    refine aw_iload (pc := 13) d_WR_readAbout_13 4 rfl ?_
    refine aw_aload_n (pc := 15) d_WR_readAbout_15 rfl 1 rfl ?_
    refine gt_710 (pc := 16) d_WR_readAbout_16 w1_104 t1 ?_
    refine aw_iconst (pc := 19) (x := 0) d_WR_readAbout_19 (by decide) ?_
    refine aw_iconst (pc := 20) (x := 0) d_WR_readAbout_20 (by decide) ?_
    refine aw_cVrV (pc := 21) (ci := 9) (T := TX9) (N := 8) (As := [.int l4, .int (hGi q1.2 710 l1), .int 0, .int 0]) (st := []) (ok_We_addRow Y l3 l4 (hGi q1.2 710 l1) 0 0 q1.2 t3) okV_We_addRow rfl (by decide) t3 w4_134 d_WR_readAbout_21 rfl (Nat.le_of_ble_eq_true rfl) rfl (Nat.le_of_ble_eq_true rfl) (fun q3 hq3 hTq3 => ?_)
    refine aw_iconst (pc := 24) (x := 1) d_WR_readAbout_24 (by decide) ?_
    exact aw_zreturn (pc := 25) (b := true) d_WR_readAbout_25 rfl rfl
  · refine aw_iconst (pc := 10) (x := 0) d_WR_readAbout_10 (by decide) ?_
    exact aw_zreturn (pc := 11) (b := false) d_WR_readAbout_11 rfl rfl
/-! LastPages$WeeksReader.readBind(LLastPages$Tokens;LLastPages$Shelf;LLastPages$Weeks;)Z -/
theorem d_WR_readBind_0 : decode prog_12_method_6_code 0 = .ok (.aload_n 1, 1) := by decide +kernel
theorem d_WR_readBind_1 : decode prog_12_method_6_code 1 = .ok (.aload_n 2, 1) := by decide +kernel
theorem d_WR_readBind_2 : decode prog_12_method_6_code 2 = .ok (.bipush 6, 2) := by decide +kernel
theorem d_WR_readBind_4 : decode prog_12_method_6_code 4 = .ok (.invokevirtual 85, 3) := by decide +kernel
theorem d_WR_readBind_7 : decode prog_12_method_6_code 7 = .ok (.ifCond .ne 5, 3) := by decide +kernel
theorem d_WR_readBind_10 : decode prog_12_method_6_code 10 = .ok (.iconst 0, 1) := by decide +kernel
theorem d_WR_readBind_11 : decode prog_12_method_6_code 11 = .ok (.ireturn, 1) := by decide +kernel
theorem d_WR_readBind_12 : decode prog_12_method_6_code 12 = .ok (.aload_n 1, 1) := by decide +kernel
theorem d_WR_readBind_13 : decode prog_12_method_6_code 13 = .ok (.getfield 89, 3) := by decide +kernel
theorem d_WR_readBind_16 : decode prog_12_method_6_code 16 = .ok (.istore 4, 2) := by decide +kernel
theorem d_WR_readBind_18 : decode prog_12_method_6_code 18 = .ok (.aload_n 1, 1) := by decide +kernel
theorem d_WR_readBind_19 : decode prog_12_method_6_code 19 = .ok (.aload_n 2, 1) := by decide +kernel
theorem d_WR_readBind_20 : decode prog_12_method_6_code 20 = .ok (.bipush 9, 2) := by decide +kernel
theorem d_WR_readBind_22 : decode prog_12_method_6_code 22 = .ok (.invokevirtual 85, 3) := by decide +kernel
theorem d_WR_readBind_25 : decode prog_12_method_6_code 25 = .ok (.ifCond .ne 5, 3) := by decide +kernel
theorem d_WR_readBind_28 : decode prog_12_method_6_code 28 = .ok (.iconst 0, 1) := by decide +kernel
theorem d_WR_readBind_29 : decode prog_12_method_6_code 29 = .ok (.ireturn, 1) := by decide +kernel
theorem d_WR_readBind_30 : decode prog_12_method_6_code 30 = .ok (.aload_n 3, 1) := by decide +kernel
theorem d_WR_readBind_31 : decode prog_12_method_6_code 31 = .ok (.bipush 21, 2) := by decide +kernel
theorem d_WR_readBind_33 : decode prog_12_method_6_code 33 = .ok (.iload 4, 2) := by decide +kernel
theorem d_WR_readBind_35 : decode prog_12_method_6_code 35 = .ok (.iconst 0, 1) := by decide +kernel
theorem d_WR_readBind_36 : decode prog_12_method_6_code 36 = .ok (.aload_n 1, 1) := by decide +kernel
theorem d_WR_readBind_37 : decode prog_12_method_6_code 37 = .ok (.getfield 89, 3) := by decide +kernel
theorem d_WR_readBind_40 : decode prog_12_method_6_code 40 = .ok (.invokevirtual 81, 3) := by decide +kernel
theorem d_WR_readBind_43 : decode prog_12_method_6_code 43 = .ok (.iconst 1, 1) := by decide +kernel
theorem d_WR_readBind_44 : decode prog_12_method_6_code 44 = .ok (.ireturn, 1) := by decide +kernel
def WR_readBind (Y : Ly) (l0 : Nat) (l1 : Nat) (l2 : Nat) (l3 : Nat) (h : Hp) : Option (Bool × Hp) :=
  (To_passOld Y l1 l2 6 h).bind fun q1 =>
  if q1.1 = true then
    (To_passOld Y l1 l2 9 q1.2).bind fun q3 =>
    if q3.1 = true then
      (We_addRow Y l3 21 (hGi q1.2 710 l1) 0 (hGi q3.2 710 l1) q3.2).bind fun q5 =>
      some (true, q5)
    else
      some (false, q3.2)
  else
    some (false, q1.2)
theorem ok_WR_readBind (Y : Ly) (l0 : Nat) (l1 : Nat) (l2 : Nat) (l3 : Nat) (h : Hp) (t0 : isO Y 10 l0) (t1 : isO Y 7 l1) (t2 : isO Y 4 l2) (t3 : isO Y 9 l3) : AM Y 3 K_WR_readBind [.ref l0, .ref l1, .ref l2, .ref l3] h (WR_readBind Y l0 l1 l2 l3 h) rZ := by
  refine AM.of rfl (Nat.le_of_ble_eq_true rfl) ?_
  show AW Y 3 K_WR_readBind 0 [(0, .ref l0), (1, .ref l1), (2, .ref l2), (3, .ref l3)] [] h (WR_readBind Y l0 l1 l2 l3 h) rZ
  unfold WR_readBind
  refine aw_aload_n (pc := 0) d_WR_readBind_0 rfl 1 rfl ?_
  refine aw_aload_n (pc := 1) d_WR_readBind_1 rfl 2 rfl ?_
  refine aw_bipush (pc := 2) (x := 6) d_WR_readBind_2 (by decide) ?_
  refine aw_cVrZ (pc := 4) (ci := 7) (T := TX7) (N := 13) (As := [.ref l2, .int 6]) (st := []) (ok_To_passOld Y l1 l2 6 h t1 t2) okV_To_passOld rfl (by decide) t1 w4_133 d_WR_readBind_4 rfl (Nat.le_of_ble_eq_true rfl) rfl (Nat.le_of_ble_eq_true rfl) (fun q1 hq1 hTq1 => ?_)
  refine aw_bne (pc := 7) (tgt := 12) d_WR_readBind_7 (by decide) (fun c2 => ?_) (fun c2 => ?_)
  · refine aw_aload_n (pc := 12) d_WR_readBind_12 rfl 1 rfl ?_
    refine gt_710 (pc := 13) d_WR_readBind_13 w1_104 t1 ?_
    refine aw_istore (pc := 16) (lv' := [(4, .int (hGi q1.2 710 l1)), (0, .ref l0), (1, .ref l1), (2, .ref l2), (3, .ref l3)]) d_WR_readBind_16 (by decide) rfl ?_
    refine aw_aload_n (pc := 18) d_WR_readBind_18 rfl 2 rfl ?_
    refine aw_aload_n (pc := 19) d_WR_readBind_19 rfl 3 rfl ?_
    refine aw_bipush (pc := 20) (x := 9) d_WR_readBind_20 (by decide) ?_
    refine aw_cVrZ (pc := 22) (ci := 7) (T := TX7) (N := 13) (As := [.ref l2, .int 9]) (st := []) (ok_To_passOld Y l1 l2 9 q1.2 t1 t2) okV_To_passOld rfl (by decide) t1 w4_133 d_WR_readBind_22 rfl (Nat.le_of_ble_eq_true rfl) rfl (Nat.le_of_ble_eq_true rfl) (fun q3 hq3 hTq3 => ?_)
    refine aw_bne (pc := 25) (tgt := 30) d_WR_readBind_25 (by decide) (fun c4 => ?_) (fun c4 => ?_)
    · refine aw_aload_n (pc := 30) d_WR_readBind_30 rfl 4 rfl ?_
      refine aw_bipush (pc := 31) (x := 21) d_WR_readBind_31 (by decide) ?_
      refine aw_iload (pc := 33) d_WR_readBind_33 0 rfl ?_
      refine aw_iconst (pc := 35) (x := 0) d_WR_readBind_35 (by decide) ?_
      refine aw_aload_n (pc := 36) d_WR_readBind_36 rfl 2 rfl ?_
      refine gt_710 (pc := 37) d_WR_readBind_37 w1_104 t1 ?_
      refine aw_cVrV (pc := 40) (ci := 9) (T := TX9) (N := 8) (As := [.int 21, .int (hGi q1.2 710 l1), .int 0, .int (hGi q3.2 710 l1)]) (st := []) (ok_We_addRow Y l3 21 (hGi q1.2 710 l1) 0 (hGi q3.2 710 l1) q3.2 t3) okV_We_addRow rfl (by decide) t3 w4_134 d_WR_readBind_40 rfl (Nat.le_of_ble_eq_true rfl) rfl (Nat.le_of_ble_eq_true rfl) (fun q5 hq5 hTq5 => ?_)
      refine aw_iconst (pc := 43) (x := 1) d_WR_readBind_43 (by decide) ?_
      exact aw_zreturn (pc := 44) (b := true) d_WR_readBind_44 rfl rfl
    · refine aw_iconst (pc := 28) (x := 0) d_WR_readBind_28 (by decide) ?_
      exact aw_zreturn (pc := 29) (b := false) d_WR_readBind_29 rfl rfl
  · refine aw_iconst (pc := 10) (x := 0) d_WR_readBind_10 (by decide) ?_
    exact aw_zreturn (pc := 11) (b := false) d_WR_readBind_11 rfl rfl
/-! LastPages$WeeksReader.openRow(LLastPages$Weeks;)V -/
theorem d_WR_openRow_0 : decode prog_12_method_10_code 0 = .ok (.aload_n 0, 1) := by decide +kernel
theorem d_WR_openRow_1 : decode prog_12_method_10_code 1 = .ok (.getfield 15, 3) := by decide +kernel
theorem d_WR_openRow_4 : decode prog_12_method_10_code 4 = .ok (.ifCond .lt 34, 3) := by decide +kernel
theorem d_WR_openRow_7 : decode prog_12_method_10_code 7 = .ok (.aload_n 0, 1) := by decide +kernel
theorem d_WR_openRow_8 : decode prog_12_method_10_code 8 = .ok (.getfield 15, 3) := by decide +kernel
theorem d_WR_openRow_11 : decode prog_12_method_10_code 11 = .ok (.iconst 3, 1) := by decide +kernel
theorem d_WR_openRow_12 : decode prog_12_method_10_code 12 = .ok (.if_icmp .ge 26, 3) := by decide +kernel
theorem d_WR_openRow_15 : decode prog_12_method_10_code 15 = .ok (.aload_n 0, 1) := by decide +kernel
theorem d_WR_openRow_16 : decode prog_12_method_10_code 16 = .ok (.getfield 9, 3) := by decide +kernel
theorem d_WR_openRow_19 : decode prog_12_method_10_code 19 = .ok (.aload_n 0, 1) := by decide +kernel
theorem d_WR_openRow_20 : decode prog_12_method_10_code 20 = .ok (.getfield 15, 3) := by decide +kernel
theorem d_WR_openRow_23 : decode prog_12_method_10_code 23 = .ok (.aload_n 1, 1) := by decide +kernel
theorem d_WR_openRow_24 : decode prog_12_method_10_code 24 = .ok (.getfield 103, 3) := by decide +kernel
theorem d_WR_openRow_27 : decode prog_12_method_10_code 27 = .ok (.iastore, 1) := by decide +kernel
theorem d_WR_openRow_28 : decode prog_12_method_10_code 28 = .ok (.aload_n 0, 1) := by decide +kernel
theorem d_WR_openRow_29 : decode prog_12_method_10_code 29 = .ok (.dup, 1) := by decide +kernel
theorem d_WR_openRow_30 : decode prog_12_method_10_code 30 = .ok (.getfield 15, 3) := by decide +kernel
theorem d_WR_openRow_33 : decode prog_12_method_10_code 33 = .ok (.iconst 1, 1) := by decide +kernel
theorem d_WR_openRow_34 : decode prog_12_method_10_code 34 = .ok (.iadd, 1) := by decide +kernel
theorem d_WR_openRow_35 : decode prog_12_method_10_code 35 = .ok (.putfield 15, 3) := by decide +kernel
theorem d_WR_openRow_38 : decode prog_12_method_10_code 38 = .ok (.return_, 1) := by decide +kernel
def WR_openRow (Y : Ly) (l0 : Nat) (l1 : Nat) (h : Hp) : Option Hp :=
  if (hGi h 1001 l0) < 0 then
    some h
  else
    if 3 ≤ (hGi h 1001 l0) then
      some h
    else
      if inB (hGi h 1001 l0) (lnY Y (hGr h 1000 l0)) = true then
        letH (hTi h (hGr h 1000 l0) (Int32.toNatClampNeg (hGi h 1001 l0)) (hGi h 906 l1)) fun h5 =>
        letH (hSi h5 1001 l0 ((hGi h5 1001 l0) + 1)) fun h6 =>
        some h6
      else none
theorem ok_WR_openRow (Y : Ly) (l0 : Nat) (l1 : Nat) (h : Hp) (t0 : isO Y 10 l0) (t1 : isO Y 9 l1) : AM Y 0 K_WR_openRow [.ref l0, .ref l1] h (WR_openRow Y l0 l1 h) rV := by
  refine AM.of rfl (Nat.le_of_ble_eq_true rfl) ?_
  show AW Y 0 K_WR_openRow 0 [(0, .ref l0), (1, .ref l1)] [] h (WR_openRow Y l0 l1 h) rV
  unfold WR_openRow
  refine aw_aload_n (pc := 0) d_WR_openRow_0 rfl 0 rfl ?_
  refine gt_1001 (pc := 1) d_WR_openRow_1 w1_159 t0 ?_
  refine aw_if_lt (pc := 4) (tgt := 38) d_WR_openRow_4 (by decide) (fun c1 => ?_) (fun c1 => ?_)
  · exact aw_return (pc := 38) d_WR_openRow_38 rfl rfl
  · refine aw_aload_n (pc := 7) d_WR_openRow_7 rfl 0 rfl ?_
    refine gt_1001 (pc := 8) d_WR_openRow_8 w1_159 t0 ?_
    refine aw_iconst (pc := 11) (x := 3) d_WR_openRow_11 (by decide) ?_
    refine aw_icmp_ge (pc := 12) (tgt := 38) d_WR_openRow_12 (by decide) (fun c2 => ?_) (fun c2 => ?_)
    · exact aw_return (pc := 38) d_WR_openRow_38 rfl rfl
    · refine aw_aload_n (pc := 15) d_WR_openRow_15 rfl 0 rfl ?_
      refine gt_1000 (pc := 16) d_WR_openRow_16 w1_158 t0 (fun tt3 => ?_)
      refine aw_aload_n (pc := 19) d_WR_openRow_19 rfl 0 rfl ?_
      refine gt_1001 (pc := 20) d_WR_openRow_20 w1_159 t0 ?_
      refine aw_aload_n (pc := 23) d_WR_openRow_23 rfl 1 rfl ?_
      refine gt_906 (pc := 24) d_WR_openRow_24 w2_103 t1 ?_
      refine aw_iastore (pc := 27) d_WR_openRow_27 tt3 (fun c4 => ?_)
      refine aw_letH (fun h5 => ?_)
      refine aw_aload_n (pc := 28) d_WR_openRow_28 rfl 0 rfl ?_
      refine aw_dup (pc := 29) d_WR_openRow_29 rfl ?_
      refine gt_1001 (pc := 30) d_WR_openRow_30 w1_159 t0 ?_
      refine aw_iconst (pc := 33) (x := 1) d_WR_openRow_33 (by decide) ?_
      refine aw_iadd (pc := 34) d_WR_openRow_34 ?_
      refine pt_1001 (pc := 35) d_WR_openRow_35 w1_159 t0 ?_
      refine aw_letH (fun h6 => ?_)
      exact aw_return (pc := 38) d_WR_openRow_38 rfl rfl
/-! LastPages$WeeksReader.readLoop(LLastPages$Tokens;LLastPages$Weeks;)Z -/
theorem d_WR_readLoop_0 : decode prog_12_method_8_code 0 = .ok (.aload_n 1, 1) := by decide +kernel
theorem d_WR_readLoop_1 : decode prog_12_method_8_code 1 = .ok (.iconst 1, 1) := by decide +kernel
theorem d_WR_readLoop_2 : decode prog_12_method_8_code 2 = .ok (.bipush 99, 2) := by decide +kernel
theorem d_WR_readLoop_4 : decode prog_12_method_8_code 4 = .ok (.invokevirtual 92, 3) := by decide +kernel
theorem d_WR_readLoop_7 : decode prog_12_method_8_code 7 = .ok (.ifCond .ne 5, 3) := by decide +kernel
theorem d_WR_readLoop_10 : decode prog_12_method_8_code 10 = .ok (.iconst 0, 1) := by decide +kernel
theorem d_WR_readLoop_11 : decode prog_12_method_8_code 11 = .ok (.ireturn, 1) := by decide +kernel
theorem d_WR_readLoop_12 : decode prog_12_method_8_code 12 = .ok (.aload_n 0, 1) := by decide +kernel
theorem d_WR_readLoop_13 : decode prog_12_method_8_code 13 = .ok (.aload_n 2, 1) := by decide +kernel
theorem d_WR_readLoop_14 : decode prog_12_method_8_code 14 = .ok (.invokevirtual 96, 3) := by decide +kernel
theorem d_WR_readLoop_17 : decode prog_12_method_8_code 17 = .ok (.aload_n 2, 1) := by decide +kernel
theorem d_WR_readLoop_18 : decode prog_12_method_8_code 18 = .ok (.bipush 28, 2) := by decide +kernel
theorem d_WR_readLoop_20 : decode prog_12_method_8_code 20 = .ok (.iconst (-1), 1) := by decide +kernel
theorem d_WR_readLoop_21 : decode prog_12_method_8_code 21 = .ok (.iconst 0, 1) := by decide +kernel
theorem d_WR_readLoop_22 : decode prog_12_method_8_code 22 = .ok (.aload_n 1, 1) := by decide +kernel
theorem d_WR_readLoop_23 : decode prog_12_method_8_code 23 = .ok (.getfield 89, 3) := by decide +kernel
theorem d_WR_readLoop_26 : decode prog_12_method_8_code 26 = .ok (.invokevirtual 81, 3) := by decide +kernel
theorem d_WR_readLoop_29 : decode prog_12_method_8_code 29 = .ok (.iconst 1, 1) := by decide +kernel
theorem d_WR_readLoop_30 : decode prog_12_method_8_code 30 = .ok (.ireturn, 1) := by decide +kernel
def WR_readLoop (Y : Ly) (l0 : Nat) (l1 : Nat) (l2 : Nat) (h : Hp) : Option (Bool × Hp) :=
  (To_passNumber Y l1 1 99 h).bind fun q1 =>
  if q1.1 = true then
    (WR_openRow Y l0 l2 q1.2).bind fun q3 =>
    (We_addRow Y l2 28 (-1) 0 (hGi q3 710 l1) q3).bind fun q4 =>
    some (true, q4)
  else
    some (false, q1.2)
theorem ok_WR_readLoop (Y : Ly) (l0 : Nat) (l1 : Nat) (l2 : Nat) (h : Hp) (t0 : isO Y 10 l0) (t1 : isO Y 7 l1) (t2 : isO Y 9 l2) : AM Y 3 K_WR_readLoop [.ref l0, .ref l1, .ref l2] h (WR_readLoop Y l0 l1 l2 h) rZ := by
  refine AM.of rfl (Nat.le_of_ble_eq_true rfl) ?_
  show AW Y 3 K_WR_readLoop 0 [(0, .ref l0), (1, .ref l1), (2, .ref l2)] [] h (WR_readLoop Y l0 l1 l2 h) rZ
  unfold WR_readLoop
  refine aw_aload_n (pc := 0) d_WR_readLoop_0 rfl 1 rfl ?_
  refine aw_iconst (pc := 1) (x := 1) d_WR_readLoop_1 (by decide) ?_
  refine aw_bipush (pc := 2) (x := 99) d_WR_readLoop_2 (by decide) ?_
  refine aw_cVrZ (pc := 4) (ci := 7) (T := TX7) (N := 13) (As := [.int 1, .int 99]) (st := []) (ok_To_passNumber Y l1 1 99 h t1) okV_To_passNumber rfl (by decide) t1 w4_147 d_WR_readLoop_4 rfl (Nat.le_of_ble_eq_true rfl) rfl (Nat.le_of_ble_eq_true rfl) (fun q1 hq1 hTq1 => ?_)
  refine aw_bne (pc := 7) (tgt := 12) d_WR_readLoop_7 (by decide) (fun c2 => ?_) (fun c2 => ?_)
  · refine aw_aload_n (pc := 12) d_WR_readLoop_12 rfl 0 rfl ?_
    refine aw_aload_n (pc := 13) d_WR_readLoop_13 rfl 2 rfl ?_
    refine aw_cVrV (pc := 14) (ci := 10) (T := TX10) (N := 2) (As := [.ref l2]) (st := []) (ok_WR_openRow Y l0 l2 q1.2 t0 t2) okV_WR_openRow rfl (by decide) t0 w4_148 d_WR_readLoop_14 rfl (Nat.le_of_ble_eq_true rfl) rfl (Nat.le_of_ble_eq_true rfl) (fun q3 hq3 hTq3 => ?_)
    refine aw_aload_n (pc := 17) d_WR_readLoop_17 rfl 2 rfl ?_
    refine aw_bipush (pc := 18) (x := 28) d_WR_readLoop_18 (by decide) ?_
    refine aw_iconst (pc := 20) (x := (-1)) d_WR_readLoop_20 (by decide) ?_
    refine aw_iconst (pc := 21) (x := 0) d_WR_readLoop_21 (by decide) ?_
    refine aw_aload_n (pc := 22) d_WR_readLoop_22 rfl 1 rfl ?_
    refine gt_710 (pc := 23) d_WR_readLoop_23 w1_104 t1 ?_
    refine aw_cVrV (pc := 26) (ci := 9) (T := TX9) (N := 8) (As := [.int 28, .int (-1), .int 0, .int (hGi q3 710 l1)]) (st := []) (ok_We_addRow Y l2 28 (-1) 0 (hGi q3 710 l1) q3 t2) okV_We_addRow rfl (by decide) t2 w4_134 d_WR_readLoop_26 rfl (Nat.le_of_ble_eq_true rfl) rfl (Nat.le_of_ble_eq_true rfl) (fun q4 hq4 hTq4 => ?_)
    refine aw_iconst (pc := 29) (x := 1) d_WR_readLoop_29 (by decide) ?_
    exact aw_zreturn (pc := 30) (b := true) d_WR_readLoop_30 rfl rfl
  · refine aw_iconst (pc := 10) (x := 0) d_WR_readLoop_10 (by decide) ?_
    exact aw_zreturn (pc := 11) (b := false) d_WR_readLoop_11 rfl rfl
/-! LastPages$Tokens.passCompares()Z -/
theorem d_To_passCompares_0 : decode prog_9_method_11_code 0 = .ok (.aload_n 0, 1) := by decide +kernel
theorem d_To_passCompares_1 : decode prog_9_method_11_code 1 = .ok (.getfield 29, 3) := by decide +kernel
theorem d_To_passCompares_4 : decode prog_9_method_11_code 4 = .ok (.iconst 3, 1) := by decide +kernel
theorem d_To_passCompares_5 : decode prog_9_method_11_code 5 = .ok (.if_icmp .ne 17, 3) := by decide +kernel
theorem d_To_passCompares_8 : decode prog_9_method_11_code 8 = .ok (.aload_n 0, 1) := by decide +kernel
theorem d_To_passCompares_9 : decode prog_9_method_11_code 9 = .ok (.getfield 9, 3) := by decide +kernel
theorem d_To_passCompares_12 : decode prog_9_method_11_code 12 = .ok (.aload_n 0, 1) := by decide +kernel
theorem d_To_passCompares_13 : decode prog_9_method_11_code 13 = .ok (.getfield 32, 3) := by decide +kernel
theorem d_To_passCompares_16 : decode prog_9_method_11_code 16 = .ok (.baload, 1) := by decide +kernel
theorem d_To_passCompares_17 : decode prog_9_method_11_code 17 = .ok (.bipush 59, 2) := by decide +kernel
theorem d_To_passCompares_19 : decode prog_9_method_11_code 19 = .ok (.if_icmp .ne 9, 3) := by decide +kernel
theorem d_To_passCompares_22 : decode prog_9_method_11_code 22 = .ok (.aload_n 0, 1) := by decide +kernel
theorem d_To_passCompares_23 : decode prog_9_method_11_code 23 = .ok (.iconst 2, 1) := by decide +kernel
theorem d_To_passCompares_24 : decode prog_9_method_11_code 24 = .ok (.invokevirtual 88, 3) := by decide +kernel
theorem d_To_passCompares_27 : decode prog_9_method_11_code 27 = .ok (.ireturn, 1) := by decide +kernel
theorem d_To_passCompares_28 : decode prog_9_method_11_code 28 = .ok (.aload_n 0, 1) := by decide +kernel
theorem d_To_passCompares_29 : decode prog_9_method_11_code 29 = .ok (.aload_n 0, 1) := by decide +kernel
theorem d_To_passCompares_30 : decode prog_9_method_11_code 30 = .ok (.getfield 9, 3) := by decide +kernel
theorem d_To_passCompares_33 : decode prog_9_method_11_code 33 = .ok (.aload_n 0, 1) := by decide +kernel
theorem d_To_passCompares_34 : decode prog_9_method_11_code 34 = .ok (.getfield 32, 3) := by decide +kernel
theorem d_To_passCompares_37 : decode prog_9_method_11_code 37 = .ok (.baload, 1) := by decide +kernel
theorem d_To_passCompares_38 : decode prog_9_method_11_code 38 = .ok (.putfield 45, 3) := by decide +kernel
theorem d_To_passCompares_41 : decode prog_9_method_11_code 41 = .ok (.aload_n 0, 1) := by decide +kernel
theorem d_To_passCompares_42 : decode prog_9_method_11_code 42 = .ok (.invokevirtual 71, 3) := by decide +kernel
theorem d_To_passCompares_45 : decode prog_9_method_11_code 45 = .ok (.iconst 1, 1) := by decide +kernel
theorem d_To_passCompares_46 : decode prog_9_method_11_code 46 = .ok (.ireturn, 1) := by decide +kernel
def To_passCompares (Y : Ly) (l0 : Nat) (h : Hp) : Option (Bool × Hp) :=
  if (hGi h 705 l0) = 3 then
    if inB (hGi h 706 l0) (lnY Y (hGr h 700 l0)) = true then
      if (hAi h (hGr h 700 l0) (Int32.toNatClampNeg (hGi h 706 l0))) = 59 then
        (To_blame Y l0 2 h).bind fun q5 =>
        some (q5.1, q5.2)
      else
        if inB (hGi h 706 l0) (lnY Y (hGr h 700 l0)) = true then
          letH (hSi h 710 l0 (hAi h (hGr h 700 l0) (Int32.toNatClampNeg (hGi h 706 l0)))) fun h8 =>
          (To_advance Y l0 h8).bind fun q9 =>
          some (true, q9)
        else none
    else none
  else
    (To_blame Y l0 2 h).bind fun q10 =>
    some (q10.1, q10.2)
theorem ok_To_passCompares (Y : Ly) (l0 : Nat) (h : Hp) (t0 : isO Y 7 l0) : AM Y 2 K_To_passCompares [.ref l0] h (To_passCompares Y l0 h) rZ := by
  refine AM.of rfl (Nat.le_of_ble_eq_true rfl) ?_
  show AW Y 2 K_To_passCompares 0 [(0, .ref l0)] [] h (To_passCompares Y l0 h) rZ
  unfold To_passCompares
  refine aw_aload_n (pc := 0) d_To_passCompares_0 rfl 0 rfl ?_
  refine gt_705 (pc := 1) d_To_passCompares_1 w1_93 t0 ?_
  refine aw_iconst (pc := 4) (x := 3) d_To_passCompares_4 (by decide) ?_
  refine aw_icmp_ne (pc := 5) (tgt := 22) d_To_passCompares_5 (by decide) (fun c1 => ?_) (fun c1 => ?_)
  · refine aw_aload_n (pc := 8) d_To_passCompares_8 rfl 0 rfl ?_
    refine gt_700 (pc := 9) d_To_passCompares_9 w1_87 t0 (fun tt2 => ?_)
    refine aw_aload_n (pc := 12) d_To_passCompares_12 rfl 0 rfl ?_
    refine gt_706 (pc := 13) d_To_passCompares_13 w1_96 t0 ?_
    refine aw_baload (pc := 16) d_To_passCompares_16 tt2 (fun c3 => ?_)
    refine aw_bipush (pc := 17) (x := 59) d_To_passCompares_17 (by decide) ?_
    refine aw_icmp_ne (pc := 19) (tgt := 28) d_To_passCompares_19 (by decide) (fun c4 => ?_) (fun c4 => ?_)
    · refine aw_aload_n (pc := 22) d_To_passCompares_22 rfl 0 rfl ?_
      refine aw_iconst (pc := 23) (x := 2) d_To_passCompares_23 (by decide) ?_
      refine aw_cVrZ (pc := 24) (ci := 7) (T := TX7) (N := 13) (As := [.int 2]) (st := []) (ok_To_blame Y l0 2 h t0) okV_To_blame rfl (by decide) t0 w3_202 d_To_passCompares_24 rfl (Nat.le_of_ble_eq_true rfl) rfl (Nat.le_of_ble_eq_true rfl) (fun q5 hq5 hTq5 => ?_)
      exact aw_zreturn (pc := 27) (b := q5.1) d_To_passCompares_27 rfl rfl
    · refine aw_aload_n (pc := 28) d_To_passCompares_28 rfl 0 rfl ?_
      refine aw_aload_n (pc := 29) d_To_passCompares_29 rfl 0 rfl ?_
      refine gt_700 (pc := 30) d_To_passCompares_30 w1_87 t0 (fun tt6 => ?_)
      refine aw_aload_n (pc := 33) d_To_passCompares_33 rfl 0 rfl ?_
      refine gt_706 (pc := 34) d_To_passCompares_34 w1_96 t0 ?_
      refine aw_baload (pc := 37) d_To_passCompares_37 tt6 (fun c7 => ?_)
      refine pt_710 (pc := 38) d_To_passCompares_38 w1_102 t0 ?_
      refine aw_letH (fun h8 => ?_)
      refine aw_aload_n (pc := 41) d_To_passCompares_41 rfl 0 rfl ?_
      refine aw_cVrV (pc := 42) (ci := 7) (T := TX7) (N := 13) (As := []) (st := []) (ok_To_advance Y l0 h8 t0) okV_To_advance rfl (by decide) t0 w3_166 d_To_passCompares_42 rfl (Nat.le_of_ble_eq_true rfl) rfl (Nat.le_of_ble_eq_true rfl) (fun q9 hq9 hTq9 => ?_)
      refine aw_iconst (pc := 45) (x := 1) d_To_passCompares_45 (by decide) ?_
      exact aw_zreturn (pc := 46) (b := true) d_To_passCompares_46 rfl rfl
  · refine aw_aload_n (pc := 22) d_To_passCompares_22 rfl 0 rfl ?_
    refine aw_iconst (pc := 23) (x := 2) d_To_passCompares_23 (by decide) ?_
    refine aw_cVrZ (pc := 24) (ci := 7) (T := TX7) (N := 13) (As := [.int 2]) (st := []) (ok_To_blame Y l0 2 h t0) okV_To_blame rfl (by decide) t0 w3_202 d_To_passCompares_24 rfl (Nat.le_of_ble_eq_true rfl) rfl (Nat.le_of_ble_eq_true rfl) (fun q10 hq10 hTq10 => ?_)
    exact aw_zreturn (pc := 27) (b := q10.1) d_To_passCompares_27 rfl rfl
/-! LastPages$WeeksReader.readTest(LLastPages$Tokens;LLastPages$Shelf;LLastPages$Weeks;)Z -/
theorem d_WR_readTest_0 : decode prog_12_method_9_code 0 = .ok (.aload_n 1, 1) := by decide +kernel
theorem d_WR_readTest_1 : decode prog_12_method_9_code 1 = .ok (.getfield 37, 3) := by decide +kernel
theorem d_WR_readTest_4 : decode prog_12_method_9_code 4 = .ok (.istore 4, 2) := by decide +kernel
theorem d_WR_readTest_6 : decode prog_12_method_9_code 6 = .ok (.iload 4, 2) := by decide +kernel
theorem d_WR_readTest_8 : decode prog_12_method_9_code 8 = .ok (.bipush 26, 2) := by decide +kernel
theorem d_WR_readTest_10 : decode prog_12_method_9_code 10 = .ok (.if_icmp .eq 22, 3) := by decide +kernel
theorem d_WR_readTest_13 : decode prog_12_method_9_code 13 = .ok (.iload 4, 2) := by decide +kernel
theorem d_WR_readTest_15 : decode prog_12_method_9_code 15 = .ok (.bipush 27, 2) := by decide +kernel
theorem d_WR_readTest_17 : decode prog_12_method_9_code 17 = .ok (.if_icmp .eq 15, 3) := by decide +kernel
theorem d_WR_readTest_20 : decode prog_12_method_9_code 20 = .ok (.iload 4, 2) := by decide +kernel
theorem d_WR_readTest_22 : decode prog_12_method_9_code 22 = .ok (.iconst 3, 1) := by decide +kernel
theorem d_WR_readTest_23 : decode prog_12_method_9_code 23 = .ok (.if_icmp .eq 9, 3) := by decide +kernel
theorem d_WR_readTest_26 : decode prog_12_method_9_code 26 = .ok (.aload_n 1, 1) := by decide +kernel
theorem d_WR_readTest_27 : decode prog_12_method_9_code 27 = .ok (.iconst 2, 1) := by decide +kernel
theorem d_WR_readTest_28 : decode prog_12_method_9_code 28 = .ok (.invokevirtual 55, 3) := by decide +kernel
theorem d_WR_readTest_31 : decode prog_12_method_9_code 31 = .ok (.ireturn, 1) := by decide +kernel
theorem d_WR_readTest_32 : decode prog_12_method_9_code 32 = .ok (.aload_n 1, 1) := by decide +kernel
theorem d_WR_readTest_33 : decode prog_12_method_9_code 33 = .ok (.invokevirtual 62, 3) := by decide +kernel
theorem d_WR_readTest_36 : decode prog_12_method_9_code 36 = .ok (.iload 4, 2) := by decide +kernel
theorem d_WR_readTest_38 : decode prog_12_method_9_code 38 = .ok (.bipush 27, 2) := by decide +kernel
theorem d_WR_readTest_40 : decode prog_12_method_9_code 40 = .ok (.if_icmp .eq 15, 3) := by decide +kernel
theorem d_WR_readTest_43 : decode prog_12_method_9_code 43 = .ok (.aload_n 1, 1) := by decide +kernel
theorem d_WR_readTest_44 : decode prog_12_method_9_code 44 = .ok (.aload_n 2, 1) := by decide +kernel
theorem d_WR_readTest_45 : decode prog_12_method_9_code 45 = .ok (.bipush 6, 2) := by decide +kernel
theorem d_WR_readTest_47 : decode prog_12_method_9_code 47 = .ok (.invokevirtual 85, 3) := by decide +kernel
theorem d_WR_readTest_50 : decode prog_12_method_9_code 50 = .ok (.ifCond .ne 5, 3) := by decide +kernel
theorem d_WR_readTest_53 : decode prog_12_method_9_code 53 = .ok (.iconst 0, 1) := by decide +kernel
theorem d_WR_readTest_54 : decode prog_12_method_9_code 54 = .ok (.ireturn, 1) := by decide +kernel
theorem d_WR_readTest_55 : decode prog_12_method_9_code 55 = .ok (.iload 4, 2) := by decide +kernel
theorem d_WR_readTest_57 : decode prog_12_method_9_code 57 = .ok (.bipush 27, 2) := by decide +kernel
theorem d_WR_readTest_59 : decode prog_12_method_9_code 59 = .ok (.if_icmp .ne 7, 3) := by decide +kernel
theorem d_WR_readTest_62 : decode prog_12_method_9_code 62 = .ok (.iconst (-1), 1) := by decide +kernel
theorem d_WR_readTest_63 : decode prog_12_method_9_code 63 = .ok (.goto 7, 3) := by decide +kernel
theorem d_WR_readTest_66 : decode prog_12_method_9_code 66 = .ok (.aload_n 1, 1) := by decide +kernel
theorem d_WR_readTest_67 : decode prog_12_method_9_code 67 = .ok (.getfield 89, 3) := by decide +kernel
theorem d_WR_readTest_70 : decode prog_12_method_9_code 70 = .ok (.istore 5, 2) := by decide +kernel
theorem d_WR_readTest_72 : decode prog_12_method_9_code 72 = .ok (.iload 4, 2) := by decide +kernel
theorem d_WR_readTest_74 : decode prog_12_method_9_code 74 = .ok (.bipush 26, 2) := by decide +kernel
theorem d_WR_readTest_76 : decode prog_12_method_9_code 76 = .ok (.if_icmp .eq 12, 3) := by decide +kernel
theorem d_WR_readTest_79 : decode prog_12_method_9_code 79 = .ok (.aload_n 1, 1) := by decide +kernel
theorem d_WR_readTest_80 : decode prog_12_method_9_code 80 = .ok (.invokevirtual 100, 3) := by decide +kernel
theorem d_WR_readTest_83 : decode prog_12_method_9_code 83 = .ok (.ifCond .ne 5, 3) := by decide +kernel
theorem d_WR_readTest_86 : decode prog_12_method_9_code 86 = .ok (.iconst 0, 1) := by decide +kernel
theorem d_WR_readTest_87 : decode prog_12_method_9_code 87 = .ok (.ireturn, 1) := by decide +kernel
theorem d_WR_readTest_88 : decode prog_12_method_9_code 88 = .ok (.aload_n 1, 1) := by decide +kernel
theorem d_WR_readTest_89 : decode prog_12_method_9_code 89 = .ok (.getfield 89, 3) := by decide +kernel
theorem d_WR_readTest_92 : decode prog_12_method_9_code 92 = .ok (.istore 6, 2) := by decide +kernel
theorem d_WR_readTest_94 : decode prog_12_method_9_code 94 = .ok (.iload 4, 2) := by decide +kernel
theorem d_WR_readTest_96 : decode prog_12_method_9_code 96 = .ok (.bipush 26, 2) := by decide +kernel
theorem d_WR_readTest_98 : decode prog_12_method_9_code 98 = .ok (.if_icmp .eq 27, 3) := by decide +kernel
theorem d_WR_readTest_101 : decode prog_12_method_9_code 101 = .ok (.aload_n 1, 1) := by decide +kernel
theorem d_WR_readTest_102 : decode prog_12_method_9_code 102 = .ok (.iconst 0, 1) := by decide +kernel
theorem d_WR_readTest_103 : decode prog_12_method_9_code 103 = .ok (.iload 4, 2) := by decide +kernel
theorem d_WR_readTest_105 : decode prog_12_method_9_code 105 = .ok (.bipush 27, 2) := by decide +kernel
theorem d_WR_readTest_107 : decode prog_12_method_9_code 107 = .ok (.if_icmp .ne 8, 3) := by decide +kernel
theorem d_WR_readTest_110 : decode prog_12_method_9_code 110 = .ok (.bipush 9, 2) := by decide +kernel
theorem d_WR_readTest_112 : decode prog_12_method_9_code 112 = .ok (.goto 5, 3) := by decide +kernel
theorem d_WR_readTest_115 : decode prog_12_method_9_code 115 = .ok (.bipush 99, 2) := by decide +kernel
theorem d_WR_readTest_117 : decode prog_12_method_9_code 117 = .ok (.invokevirtual 92, 3) := by decide +kernel
theorem d_WR_readTest_120 : decode prog_12_method_9_code 120 = .ok (.ifCond .ne 5, 3) := by decide +kernel
theorem d_WR_readTest_123 : decode prog_12_method_9_code 123 = .ok (.iconst 0, 1) := by decide +kernel
theorem d_WR_readTest_124 : decode prog_12_method_9_code 124 = .ok (.ireturn, 1) := by decide +kernel
theorem d_WR_readTest_125 : decode prog_12_method_9_code 125 = .ok (.aload_n 0, 1) := by decide +kernel
theorem d_WR_readTest_126 : decode prog_12_method_9_code 126 = .ok (.aload_n 3, 1) := by decide +kernel
theorem d_WR_readTest_127 : decode prog_12_method_9_code 127 = .ok (.invokevirtual 96, 3) := by decide +kernel
theorem d_WR_readTest_130 : decode prog_12_method_9_code 130 = .ok (.aload_n 3, 1) := by decide +kernel
theorem d_WR_readTest_131 : decode prog_12_method_9_code 131 = .ok (.iload 4, 2) := by decide +kernel
theorem d_WR_readTest_133 : decode prog_12_method_9_code 133 = .ok (.iload 5, 2) := by decide +kernel
theorem d_WR_readTest_135 : decode prog_12_method_9_code 135 = .ok (.iload 6, 2) := by decide +kernel
theorem d_WR_readTest_137 : decode prog_12_method_9_code 137 = .ok (.aload_n 1, 1) := by decide +kernel
theorem d_WR_readTest_138 : decode prog_12_method_9_code 138 = .ok (.getfield 89, 3) := by decide +kernel
theorem d_WR_readTest_141 : decode prog_12_method_9_code 141 = .ok (.invokevirtual 81, 3) := by decide +kernel
theorem d_WR_readTest_144 : decode prog_12_method_9_code 144 = .ok (.iconst 1, 1) := by decide +kernel
theorem d_WR_readTest_145 : decode prog_12_method_9_code 145 = .ok (.ireturn, 1) := by decide +kernel
def WR_readTest_J125 (Y : Ly) (l0 : Nat) (l1 : Nat) (l3 : Nat) (l4 : Int32) (l5 : Int32) (l6 : Int32) (h : Hp) : Option (Bool × Hp) :=
  (WR_openRow Y l0 l3 h).bind fun q7 =>
  (We_addRow Y l3 l4 l5 l6 (hGi q7 710 l1) q7).bind fun q8 =>
  some (true, q8)
theorem WR_readTest_J125_ok (Y : Ly) (l0 : Nat) (l1 : Nat) (l3 : Nat) (l4 : Int32) (l5 : Int32) (l6 : Int32) (h : Hp) (tl0 : isO Y 10 l0) (tl1 : isO Y 7 l1) (tl3 : isO Y 9 l3) : AW Y 3 K_WR_readTest 125 [(0, .ref l0), (1, .ref l1), (3, .ref l3), (4, .int l4), (5, .int l5), (6, .int l6)] [] h (WR_readTest_J125 Y l0 l1 l3 l4 l5 l6 h) rZ := by
  unfold WR_readTest_J125
  refine aw_aload_n (pc := 125) d_WR_readTest_125 rfl 0 rfl ?_
  refine aw_aload_n (pc := 126) d_WR_readTest_126 rfl 2 rfl ?_
  refine aw_cVrV (pc := 127) (ci := 10) (T := TX10) (N := 2) (As := [.ref l3]) (st := []) (ok_WR_openRow Y l0 l3 h tl0 tl3) okV_WR_openRow rfl (by decide) tl0 w4_148 d_WR_readTest_127 rfl (Nat.le_of_ble_eq_true rfl) rfl (Nat.le_of_ble_eq_true rfl) (fun q7 hq7 hTq7 => ?_)
  refine aw_aload_n (pc := 130) d_WR_readTest_130 rfl 2 rfl ?_
  refine aw_iload (pc := 131) d_WR_readTest_131 3 rfl ?_
  refine aw_iload (pc := 133) d_WR_readTest_133 4 rfl ?_
  refine aw_iload (pc := 135) d_WR_readTest_135 5 rfl ?_
  refine aw_aload_n (pc := 137) d_WR_readTest_137 rfl 1 rfl ?_
  refine gt_710 (pc := 138) d_WR_readTest_138 w1_104 tl1 ?_
  refine aw_cVrV (pc := 141) (ci := 9) (T := TX9) (N := 8) (As := [.int l4, .int l5, .int l6, .int (hGi q7 710 l1)]) (st := []) (ok_We_addRow Y l3 l4 l5 l6 (hGi q7 710 l1) q7 tl3) okV_We_addRow rfl (by decide) tl3 w4_134 d_WR_readTest_141 rfl (Nat.le_of_ble_eq_true rfl) rfl (Nat.le_of_ble_eq_true rfl) (fun q8 hq8 hTq8 => ?_)
  refine aw_iconst (pc := 144) (x := 1) d_WR_readTest_144 (by decide) ?_
  exact aw_zreturn (pc := 145) (b := true) d_WR_readTest_145 rfl rfl
def WR_readTest_J117 (Y : Ly) (l0 : Nat) (l1 : Nat) (l3 : Nat) (l4 : Int32) (l5 : Int32) (l6 : Int32) (s0 : Int32) (s1 : Bool) (s2 : Nat) (h : Hp) : Option (Bool × Hp) :=
  (To_passNumber Y s2 (b2i s1) s0 h).bind fun q10 =>
  if q10.1 = true then
    WR_readTest_J125 Y l0 l1 l3 l4 l5 l6 q10.2
  else
    some (false, q10.2)
theorem WR_readTest_J117_ok (Y : Ly) (l0 : Nat) (l1 : Nat) (l3 : Nat) (l4 : Int32) (l5 : Int32) (l6 : Int32) (s0 : Int32) (s1 : Bool) (s2 : Nat) (h : Hp) (tl0 : isO Y 10 l0) (tl1 : isO Y 7 l1) (tl3 : isO Y 9 l3) (ts2 : isO Y 7 s2) : AW Y 3 K_WR_readTest 117 [(0, .ref l0), (1, .ref l1), (3, .ref l3), (4, .int l4), (5, .int l5), (6, .int l6)] [.int s0, .int (b2i s1), .ref s2] h (WR_readTest_J117 Y l0 l1 l3 l4 l5 l6 s0 s1 s2 h) rZ := by
  unfold WR_readTest_J117
  refine aw_cVrZ (pc := 117) (ci := 7) (T := TX7) (N := 13) (As := [.int (b2i s1), .int s0]) (st := []) (ok_To_passNumber Y s2 (b2i s1) s0 h ts2) okV_To_passNumber rfl (by decide) ts2 w4_147 d_WR_readTest_117 rfl (Nat.le_of_ble_eq_true rfl) rfl (Nat.le_of_ble_eq_true rfl) (fun q10 hq10 hTq10 => ?_)
  refine aw_bne (pc := 120) (tgt := 125) d_WR_readTest_120 (by decide) (fun c11 => ?_) (fun c11 => ?_)
  · exact aw_lv [0, 1, 2, 3, 4, 5] rfl (WR_readTest_J125_ok Y l0 l1 l3 l4 l5 l6 q10.2 tl0 tl1 tl3)
  · refine aw_iconst (pc := 123) (x := 0) d_WR_readTest_123 (by decide) ?_
    exact aw_zreturn (pc := 124) (b := false) d_WR_readTest_124 rfl rfl
def WR_readTest_J88 (Y : Ly) (l0 : Nat) (l1 : Nat) (l3 : Nat) (l4 : Int32) (l5 : Int32) (h : Hp) : Option (Bool × Hp) :=
  if l4 = 26 then
    WR_readTest_J125 Y l0 l1 l3 l4 l5 (hGi h 710 l1) h
  else
    if l4 = 27 then
      WR_readTest_J117 Y l0 l1 l3 l4 l5 (hGi h 710 l1) 9 false l1 h
    else
      WR_readTest_J117 Y l0 l1 l3 l4 l5 (hGi h 710 l1) 99 false l1 h
theorem WR_readTest_J88_ok (Y : Ly) (l0 : Nat) (l1 : Nat) (l3 : Nat) (l4 : Int32) (l5 : Int32) (h : Hp) (tl0 : isO Y 10 l0) (tl1 : isO Y 7 l1) (tl3 : isO Y 9 l3) : AW Y 3 K_WR_readTest 88 [(0, .ref l0), (1, .ref l1), (3, .ref l3), (4, .int l4), (5, .int l5)] [] h (WR_readTest_J88 Y l0 l1 l3 l4 l5 h) rZ := by
  unfold WR_readTest_J88
  refine aw_aload_n (pc := 88) d_WR_readTest_88 rfl 1 rfl ?_
  refine gt_710 (pc := 89) d_WR_readTest_89 w1_104 tl1 ?_
  refine aw_istore (pc := 92) (lv' := [(6, .int (hGi h 710 l1)), (0, .ref l0), (1, .ref l1), (3, .ref l3), (4, .int l4), (5, .int l5)]) d_WR_readTest_92 (by decide) rfl ?_
  refine aw_iload (pc := 94) d_WR_readTest_94 4 rfl ?_
  refine aw_bipush (pc := 96) (x := 26) d_WR_readTest_96 (by decide) ?_
  refine aw_icmp_eq (pc := 98) (tgt := 125) d_WR_readTest_98 (by decide) (fun c6 => ?_) (fun c6 => ?_)
  · exact aw_lv [1, 2, 3, 4, 5, 0] rfl (WR_readTest_J125_ok Y l0 l1 l3 l4 l5 (hGi h 710 l1) h tl0 tl1 tl3)
  · refine aw_aload_n (pc := 101) d_WR_readTest_101 rfl 2 rfl ?_
    refine aw_iconst (pc := 102) (x := 0) d_WR_readTest_102 (by decide) ?_
    refine aw_iload (pc := 103) d_WR_readTest_103 4 rfl ?_
    refine aw_bipush (pc := 105) (x := 27) d_WR_readTest_105 (by decide) ?_
    refine aw_icmp_ne (pc := 107) (tgt := 115) d_WR_readTest_107 (by decide) (fun c9 => ?_) (fun c9 => ?_)
    · refine aw_bipush (pc := 110) (x := 9) d_WR_readTest_110 (by decide) ?_
      refine aw_goto (pc := 112) (tgt := 117) d_WR_readTest_112 (by decide) ?_
      exact aw_lv [1, 2, 3, 4, 5, 0] rfl (WR_readTest_J117_ok Y l0 l1 l3 l4 l5 (hGi h 710 l1) 9 false l1 h tl0 tl1 tl3 tl1)
    · refine aw_bipush (pc := 115) (x := 99) d_WR_readTest_115 (by decide) ?_
      exact aw_lv [1, 2, 3, 4, 5, 0] rfl (WR_readTest_J117_ok Y l0 l1 l3 l4 l5 (hGi h 710 l1) 99 false l1 h tl0 tl1 tl3 tl1)
def WR_readTest_J70 (Y : Ly) (l0 : Nat) (l1 : Nat) (l3 : Nat) (l4 : Int32) (s0 : Int32) (h : Hp) : Option (Bool × Hp) :=
  if l4 = 26 then
    WR_readTest_J88 Y l0 l1 l3 l4 s0 h
  else
    (To_passCompares Y l1 h).bind fun q12 =>
    if q12.1 = true then
      WR_readTest_J88 Y l0 l1 l3 l4 s0 q12.2
    else
      some (false, q12.2)
theorem WR_readTest_J70_ok (Y : Ly) (l0 : Nat) (l1 : Nat) (l3 : Nat) (l4 : Int32) (s0 : Int32) (h : Hp) (tl0 : isO Y 10 l0) (tl1 : isO Y 7 l1) (tl3 : isO Y 9 l3) : AW Y 3 K_WR_readTest 70 [(0, .ref l0), (1, .ref l1), (3, .ref l3), (4, .int l4)] [.int s0] h (WR_readTest_J70 Y l0 l1 l3 l4 s0 h) rZ := by
  unfold WR_readTest_J70
  refine aw_istore (pc := 70) (lv' := [(5, .int s0), (0, .ref l0), (1, .ref l1), (3, .ref l3), (4, .int l4)]) d_WR_readTest_70 (by decide) rfl ?_
  refine aw_iload (pc := 72) d_WR_readTest_72 4 rfl ?_
  refine aw_bipush (pc := 74) (x := 26) d_WR_readTest_74 (by decide) ?_
  refine aw_icmp_eq (pc := 76) (tgt := 88) d_WR_readTest_76 (by decide) (fun c5 => ?_) (fun c5 => ?_)
  · exact aw_lv [1, 2, 3, 4, 0] rfl (WR_readTest_J88_ok Y l0 l1 l3 l4 s0 h tl0 tl1 tl3)
  · refine aw_aload_n (pc := 79) d_WR_readTest_79 rfl 2 rfl ?_
    refine aw_cVrZ (pc := 80) (ci := 7) (T := TX7) (N := 13) (As := []) (st := []) (ok_To_passCompares Y l1 h tl1) okV_To_passCompares rfl (by decide) tl1 w4_143 d_WR_readTest_80 rfl (Nat.le_of_ble_eq_true rfl) rfl (Nat.le_of_ble_eq_true rfl) (fun q12 hq12 hTq12 => ?_)
    refine aw_bne (pc := 83) (tgt := 88) d_WR_readTest_83 (by decide) (fun c13 => ?_) (fun c13 => ?_)
    · exact aw_lv [1, 2, 3, 4, 0] rfl (WR_readTest_J88_ok Y l0 l1 l3 l4 s0 q12.2 tl0 tl1 tl3)
    · refine aw_iconst (pc := 86) (x := 0) d_WR_readTest_86 (by decide) ?_
      exact aw_zreturn (pc := 87) (b := false) d_WR_readTest_87 rfl rfl
def WR_readTest_J55 (Y : Ly) (l0 : Nat) (l1 : Nat) (l3 : Nat) (l4 : Int32) (h : Hp) : Option (Bool × Hp) :=
  if l4 = 27 then
    WR_readTest_J70 Y l0 l1 l3 l4 (-1) h
  else
    WR_readTest_J70 Y l0 l1 l3 l4 (hGi h 710 l1) h
theorem WR_readTest_J55_ok (Y : Ly) (l0 : Nat) (l1 : Nat) (l3 : Nat) (l4 : Int32) (h : Hp) (tl0 : isO Y 10 l0) (tl1 : isO Y 7 l1) (tl3 : isO Y 9 l3) : AW Y 3 K_WR_readTest 55 [(0, .ref l0), (1, .ref l1), (3, .ref l3), (4, .int l4)] [] h (WR_readTest_J55 Y l0 l1 l3 l4 h) rZ := by
  unfold WR_readTest_J55
  refine aw_iload (pc := 55) d_WR_readTest_55 3 rfl ?_
  refine aw_bipush (pc := 57) (x := 27) d_WR_readTest_57 (by decide) ?_
  refine aw_icmp_ne (pc := 59) (tgt := 66) d_WR_readTest_59 (by decide) (fun c4 => ?_) (fun c4 => ?_)
  · refine aw_iconst (pc := 62) (x := (-1)) d_WR_readTest_62 (by decide) ?_
    refine aw_goto (pc := 63) (tgt := 70) d_WR_readTest_63 (by decide) ?_
    exact aw_lv [0, 1, 2, 3] rfl (WR_readTest_J70_ok Y l0 l1 l3 l4 (-1) h tl0 tl1 tl3)
  · refine aw_aload_n (pc := 66) d_WR_readTest_66 rfl 1 rfl ?_
    refine gt_710 (pc := 67) d_WR_readTest_67 w1_104 tl1 ?_
    exact aw_lv [0, 1, 2, 3] rfl (WR_readTest_J70_ok Y l0 l1 l3 l4 (hGi h 710 l1) h tl0 tl1 tl3)
def WR_readTest_J32 (Y : Ly) (l0 : Nat) (l1 : Nat) (l2 : Nat) (l3 : Nat) (l4 : Int32) (h : Hp) : Option (Bool × Hp) :=
  (To_advance Y l1 h).bind fun q2 =>
  if l4 = 27 then
    WR_readTest_J55 Y l0 l1 l3 l4 q2
  else
    (To_passOld Y l1 l2 6 q2).bind fun q14 =>
    if q14.1 = true then
      WR_readTest_J55 Y l0 l1 l3 l4 q14.2
    else
      some (false, q14.2)
theorem WR_readTest_J32_ok (Y : Ly) (l0 : Nat) (l1 : Nat) (l2 : Nat) (l3 : Nat) (l4 : Int32) (h : Hp) (tl0 : isO Y 10 l0) (tl1 : isO Y 7 l1) (tl2 : isO Y 4 l2) (tl3 : isO Y 9 l3) : AW Y 3 K_WR_readTest 32 [(0, .ref l0), (1, .ref l1), (2, .ref l2), (3, .ref l3), (4, .int l4)] [] h (WR_readTest_J32 Y l0 l1 l2 l3 l4 h) rZ := by
  unfold WR_readTest_J32
  refine aw_aload_n (pc := 32) d_WR_readTest_32 rfl 1 rfl ?_
  refine aw_cVrV (pc := 33) (ci := 7) (T := TX7) (N := 13) (As := []) (st := []) (ok_To_advance Y l1 h tl1) okV_To_advance rfl (by decide) tl1 w4_119 d_WR_readTest_33 rfl (Nat.le_of_ble_eq_true rfl) rfl (Nat.le_of_ble_eq_true rfl) (fun q2 hq2 hTq2 => ?_)
  refine aw_iload (pc := 36) d_WR_readTest_36 4 rfl ?_
  refine aw_bipush (pc := 38) (x := 27) d_WR_readTest_38 (by decide) ?_
  refine aw_icmp_eq (pc := 40) (tgt := 55) d_WR_readTest_40 (by decide) (fun c3 => ?_) (fun c3 => ?_)
  · exact aw_lv [0, 1, 3, 4] rfl (WR_readTest_J55_ok Y l0 l1 l3 l4 q2 tl0 tl1 tl3)
  · refine aw_aload_n (pc := 43) d_WR_readTest_43 rfl 1 rfl ?_
    refine aw_aload_n (pc := 44) d_WR_readTest_44 rfl 2 rfl ?_
    refine aw_bipush (pc := 45) (x := 6) d_WR_readTest_45 (by decide) ?_
    refine aw_cVrZ (pc := 47) (ci := 7) (T := TX7) (N := 13) (As := [.ref l2, .int 6]) (st := []) (ok_To_passOld Y l1 l2 6 q2 tl1 tl2) okV_To_passOld rfl (by decide) tl1 w4_133 d_WR_readTest_47 rfl (Nat.le_of_ble_eq_true rfl) rfl (Nat.le_of_ble_eq_true rfl) (fun q14 hq14 hTq14 => ?_)
    refine aw_bne (pc := 50) (tgt := 55) d_WR_readTest_50 (by decide) (fun c15 => ?_) (fun c15 => ?_)
    · exact aw_lv [0, 1, 3, 4] rfl (WR_readTest_J55_ok Y l0 l1 l3 l4 q14.2 tl0 tl1 tl3)
    · refine aw_iconst (pc := 53) (x := 0) d_WR_readTest_53 (by decide) ?_
      exact aw_zreturn (pc := 54) (b := false) d_WR_readTest_54 rfl rfl
def WR_readTest (Y : Ly) (l0 : Nat) (l1 : Nat) (l2 : Nat) (l3 : Nat) (h : Hp) : Option (Bool × Hp) :=
  if (hGi h 708 l1) = 26 then
    WR_readTest_J32 Y l0 l1 l2 l3 (hGi h 708 l1) h
  else
    if (hGi h 708 l1) = 27 then
      WR_readTest_J32 Y l0 l1 l2 l3 (hGi h 708 l1) h
    else
      if (hGi h 708 l1) = 3 then
        WR_readTest_J32 Y l0 l1 l2 l3 (hGi h 708 l1) h
      else
        (To_blame Y l1 2 h).bind fun q18 =>
        some (q18.1, q18.2)
theorem ok_WR_readTest (Y : Ly) (l0 : Nat) (l1 : Nat) (l2 : Nat) (l3 : Nat) (h : Hp) (t0 : isO Y 10 l0) (t1 : isO Y 7 l1) (t2 : isO Y 4 l2) (t3 : isO Y 9 l3) : AM Y 3 K_WR_readTest [.ref l0, .ref l1, .ref l2, .ref l3] h (WR_readTest Y l0 l1 l2 l3 h) rZ := by
  refine AM.of rfl (Nat.le_of_ble_eq_true rfl) ?_
  show AW Y 3 K_WR_readTest 0 [(0, .ref l0), (1, .ref l1), (2, .ref l2), (3, .ref l3)] [] h (WR_readTest Y l0 l1 l2 l3 h) rZ
  unfold WR_readTest
  refine aw_aload_n (pc := 0) d_WR_readTest_0 rfl 1 rfl ?_
  refine gt_708 (pc := 1) d_WR_readTest_1 w1_99 t1 ?_
  refine aw_istore (pc := 4) (lv' := [(4, .int (hGi h 708 l1)), (0, .ref l0), (1, .ref l1), (2, .ref l2), (3, .ref l3)]) d_WR_readTest_4 (by decide) rfl ?_
  refine aw_iload (pc := 6) d_WR_readTest_6 0 rfl ?_
  refine aw_bipush (pc := 8) (x := 26) d_WR_readTest_8 (by decide) ?_
  refine aw_icmp_eq (pc := 10) (tgt := 32) d_WR_readTest_10 (by decide) (fun c1 => ?_) (fun c1 => ?_)
  · exact aw_lv [1, 2, 3, 4, 0] rfl (WR_readTest_J32_ok Y l0 l1 l2 l3 (hGi h 708 l1) h t0 t1 t2 t3)
  · refine aw_iload (pc := 13) d_WR_readTest_13 0 rfl ?_
    refine aw_bipush (pc := 15) (x := 27) d_WR_readTest_15 (by decide) ?_
    refine aw_icmp_eq (pc := 17) (tgt := 32) d_WR_readTest_17 (by decide) (fun c16 => ?_) (fun c16 => ?_)
    · exact aw_lv [1, 2, 3, 4, 0] rfl (WR_readTest_J32_ok Y l0 l1 l2 l3 (hGi h 708 l1) h t0 t1 t2 t3)
    · refine aw_iload (pc := 20) d_WR_readTest_20 0 rfl ?_
      refine aw_iconst (pc := 22) (x := 3) d_WR_readTest_22 (by decide) ?_
      refine aw_icmp_eq (pc := 23) (tgt := 32) d_WR_readTest_23 (by decide) (fun c17 => ?_) (fun c17 => ?_)
      · exact aw_lv [1, 2, 3, 4, 0] rfl (WR_readTest_J32_ok Y l0 l1 l2 l3 (hGi h 708 l1) h t0 t1 t2 t3)
      · refine aw_aload_n (pc := 26) d_WR_readTest_26 rfl 2 rfl ?_
        refine aw_iconst (pc := 27) (x := 2) d_WR_readTest_27 (by decide) ?_
        refine aw_cVrZ (pc := 28) (ci := 7) (T := TX7) (N := 13) (As := [.int 2]) (st := []) (ok_To_blame Y l1 2 h t1) okV_To_blame rfl (by decide) t1 w4_106 d_WR_readTest_28 rfl (Nat.le_of_ble_eq_true rfl) rfl (Nat.le_of_ble_eq_true rfl) (fun q18 hq18 hTq18 => ?_)
        exact aw_zreturn (pc := 31) (b := q18.1) d_WR_readTest_31 rfl rfl
/-! LastPages$WeeksReader.readStep(LLastPages$Tokens;LLastPages$Shelf;LLastPages$Weeks;)Z -/
theorem d_WR_readStep_0 : decode prog_12_method_5_code 0 = .ok (.aload_n 1, 1) := by decide +kernel
theorem d_WR_readStep_1 : decode prog_12_method_5_code 1 = .ok (.getfield 37, 3) := by decide +kernel
theorem d_WR_readStep_4 : decode prog_12_method_5_code 4 = .ok (.istore 4, 2) := by decide +kernel
theorem d_WR_readStep_6 : decode prog_12_method_5_code 6 = .ok (.aload_n 1, 1) := by decide +kernel
theorem d_WR_readStep_7 : decode prog_12_method_5_code 7 = .ok (.invokevirtual 62, 3) := by decide +kernel
theorem d_WR_readStep_10 : decode prog_12_method_5_code 10 = .ok (.iload 4, 2) := by decide +kernel
theorem d_WR_readStep_12 : decode prog_12_method_5_code 12 = .ok (.tableswitch 95 21 28 #[48, 56, 68, 56, 80, 95, 95, 88], 48) := by decide +kernel
theorem d_WR_readStep_60 : decode prog_12_method_5_code 60 = .ok (.aload_n 0, 1) := by decide +kernel
theorem d_WR_readStep_61 : decode prog_12_method_5_code 61 = .ok (.aload_n 1, 1) := by decide +kernel
theorem d_WR_readStep_62 : decode prog_12_method_5_code 62 = .ok (.aload_n 2, 1) := by decide +kernel
theorem d_WR_readStep_63 : decode prog_12_method_5_code 63 = .ok (.aload_n 3, 1) := by decide +kernel
theorem d_WR_readStep_64 : decode prog_12_method_5_code 64 = .ok (.invokevirtual 68, 3) := by decide +kernel
theorem d_WR_readStep_67 : decode prog_12_method_5_code 67 = .ok (.ireturn, 1) := by decide +kernel
theorem d_WR_readStep_68 : decode prog_12_method_5_code 68 = .ok (.aload_n 0, 1) := by decide +kernel
theorem d_WR_readStep_69 : decode prog_12_method_5_code 69 = .ok (.aload_n 1, 1) := by decide +kernel
theorem d_WR_readStep_70 : decode prog_12_method_5_code 70 = .ok (.aload_n 2, 1) := by decide +kernel
theorem d_WR_readStep_71 : decode prog_12_method_5_code 71 = .ok (.aload_n 3, 1) := by decide +kernel
theorem d_WR_readStep_72 : decode prog_12_method_5_code 72 = .ok (.iload 4, 2) := by decide +kernel
theorem d_WR_readStep_74 : decode prog_12_method_5_code 74 = .ok (.bipush 6, 2) := by decide +kernel
theorem d_WR_readStep_76 : decode prog_12_method_5_code 76 = .ok (.invokevirtual 71, 3) := by decide +kernel
theorem d_WR_readStep_79 : decode prog_12_method_5_code 79 = .ok (.ireturn, 1) := by decide +kernel
theorem d_WR_readStep_80 : decode prog_12_method_5_code 80 = .ok (.aload_n 0, 1) := by decide +kernel
theorem d_WR_readStep_81 : decode prog_12_method_5_code 81 = .ok (.aload_n 1, 1) := by decide +kernel
theorem d_WR_readStep_82 : decode prog_12_method_5_code 82 = .ok (.aload_n 2, 1) := by decide +kernel
theorem d_WR_readStep_83 : decode prog_12_method_5_code 83 = .ok (.aload_n 3, 1) := by decide +kernel
theorem d_WR_readStep_84 : decode prog_12_method_5_code 84 = .ok (.iload 4, 2) := by decide +kernel
theorem d_WR_readStep_86 : decode prog_12_method_5_code 86 = .ok (.bipush 14, 2) := by decide +kernel
theorem d_WR_readStep_88 : decode prog_12_method_5_code 88 = .ok (.invokevirtual 71, 3) := by decide +kernel
theorem d_WR_readStep_91 : decode prog_12_method_5_code 91 = .ok (.ireturn, 1) := by decide +kernel
theorem d_WR_readStep_92 : decode prog_12_method_5_code 92 = .ok (.aload_n 0, 1) := by decide +kernel
theorem d_WR_readStep_93 : decode prog_12_method_5_code 93 = .ok (.aload_n 1, 1) := by decide +kernel
theorem d_WR_readStep_94 : decode prog_12_method_5_code 94 = .ok (.aload_n 2, 1) := by decide +kernel
theorem d_WR_readStep_95 : decode prog_12_method_5_code 95 = .ok (.aload_n 3, 1) := by decide +kernel
theorem d_WR_readStep_96 : decode prog_12_method_5_code 96 = .ok (.invokevirtual 75, 3) := by decide +kernel
theorem d_WR_readStep_99 : decode prog_12_method_5_code 99 = .ok (.ireturn, 1) := by decide +kernel
theorem d_WR_readStep_100 : decode prog_12_method_5_code 100 = .ok (.aload_n 0, 1) := by decide +kernel
theorem d_WR_readStep_101 : decode prog_12_method_5_code 101 = .ok (.aload_n 1, 1) := by decide +kernel
theorem d_WR_readStep_102 : decode prog_12_method_5_code 102 = .ok (.aload_n 3, 1) := by decide +kernel
theorem d_WR_readStep_103 : decode prog_12_method_5_code 103 = .ok (.invokevirtual 78, 3) := by decide +kernel
theorem d_WR_readStep_106 : decode prog_12_method_5_code 106 = .ok (.ireturn, 1) := by decide +kernel
theorem d_WR_readStep_107 : decode prog_12_method_5_code 107 = .ok (.aload_n 3, 1) := by decide +kernel
theorem d_WR_readStep_108 : decode prog_12_method_5_code 108 = .ok (.iload 4, 2) := by decide +kernel
theorem d_WR_readStep_110 : decode prog_12_method_5_code 110 = .ok (.iconst (-1), 1) := by decide +kernel
theorem d_WR_readStep_111 : decode prog_12_method_5_code 111 = .ok (.iconst 0, 1) := by decide +kernel
theorem d_WR_readStep_112 : decode prog_12_method_5_code 112 = .ok (.iconst 0, 1) := by decide +kernel
theorem d_WR_readStep_113 : decode prog_12_method_5_code 113 = .ok (.invokevirtual 81, 3) := by decide +kernel
theorem d_WR_readStep_116 : decode prog_12_method_5_code 116 = .ok (.iconst 1, 1) := by decide +kernel
theorem d_WR_readStep_117 : decode prog_12_method_5_code 117 = .ok (.ireturn, 1) := by decide +kernel
def WR_readStep (Y : Ly) (l0 : Nat) (l1 : Nat) (l2 : Nat) (l3 : Nat) (h : Hp) : Option (Bool × Hp) :=
  (To_advance Y l1 h).bind fun q1 =>
  if (hGi h 708 l1) = 21 then
    (WR_readBind Y l0 l1 l2 l3 q1).bind fun q3 =>
    some (q3.1, q3.2)
  else
  if (hGi h 708 l1) = 22 then
    (WR_readAbout Y l0 l1 l2 l3 (hGi h 708 l1) 6 q1).bind fun q5 =>
    some (q5.1, q5.2)
  else
  if (hGi h 708 l1) = 23 then
    (WR_readAbout Y l0 l1 l2 l3 (hGi h 708 l1) 14 q1).bind fun q7 =>
    some (q7.1, q7.2)
  else
  if (hGi h 708 l1) = 24 then
    (WR_readAbout Y l0 l1 l2 l3 (hGi h 708 l1) 6 q1).bind fun q9 =>
    some (q9.1, q9.2)
  else
  if (hGi h 708 l1) = 25 then
    (WR_readTest Y l0 l1 l2 l3 q1).bind fun q11 =>
    some (q11.1, q11.2)
  else
  if (hGi h 708 l1) = 28 then
    (WR_readLoop Y l0 l1 l3 q1).bind fun q13 =>
    some (q13.1, q13.2)
  else
  (We_addRow Y l3 (hGi h 708 l1) (-1) 0 0 q1).bind fun q14 =>
  some (true, q14)
theorem ok_WR_readStep (Y : Ly) (l0 : Nat) (l1 : Nat) (l2 : Nat) (l3 : Nat) (h : Hp) (t0 : isO Y 10 l0) (t1 : isO Y 7 l1) (t2 : isO Y 4 l2) (t3 : isO Y 9 l3) : AM Y 4 K_WR_readStep [.ref l0, .ref l1, .ref l2, .ref l3] h (WR_readStep Y l0 l1 l2 l3 h) rZ := by
  refine AM.of rfl (Nat.le_of_ble_eq_true rfl) ?_
  show AW Y 4 K_WR_readStep 0 [(0, .ref l0), (1, .ref l1), (2, .ref l2), (3, .ref l3)] [] h (WR_readStep Y l0 l1 l2 l3 h) rZ
  unfold WR_readStep
  refine aw_aload_n (pc := 0) d_WR_readStep_0 rfl 1 rfl ?_
  refine gt_708 (pc := 1) d_WR_readStep_1 w1_99 t1 ?_
  refine aw_istore (pc := 4) (lv' := [(4, .int (hGi h 708 l1)), (0, .ref l0), (1, .ref l1), (2, .ref l2), (3, .ref l3)]) d_WR_readStep_4 (by decide) rfl ?_
  refine aw_aload_n (pc := 6) d_WR_readStep_6 rfl 2 rfl ?_
  refine aw_cVrV (pc := 7) (ci := 7) (T := TX7) (N := 13) (As := []) (st := []) (ok_To_advance Y l1 h t1) okV_To_advance rfl (by decide) t1 w4_119 d_WR_readStep_7 rfl (Nat.le_of_ble_eq_true rfl) rfl (Nat.le_of_ble_eq_true rfl) (fun q1 hq1 hTq1 => ?_)
  refine aw_iload (pc := 10) d_WR_readStep_10 0 rfl ?_
  refine aw_cases (fun c2 => ?_) (fun c2 => ?_)
  · refine aw_tbl (pc := 12) (tgt := 60) (off := 48) d_WR_readStep_12 (by rw [c2]; decide) (by rw [c2]; decide) (by rw [c2]; rfl) (by decide) ?_
    refine aw_aload_n (pc := 60) d_WR_readStep_60 rfl 1 rfl ?_
    refine aw_aload_n (pc := 61) d_WR_readStep_61 rfl 2 rfl ?_
    refine aw_aload_n (pc := 62) d_WR_readStep_62 rfl 3 rfl ?_
    refine aw_aload_n (pc := 63) d_WR_readStep_63 rfl 4 rfl ?_
    refine aw_cVrZ (pc := 64) (ci := 10) (T := TX10) (N := 2) (As := [.ref l1, .ref l2, .ref l3]) (st := []) (ok_WR_readBind Y l0 l1 l2 l3 q1 t0 t1 t2 t3) okV_WR_readBind rfl (by decide) t0 w4_129 d_WR_readStep_64 rfl (Nat.le_of_ble_eq_true rfl) rfl (Nat.le_of_ble_eq_true rfl) (fun q3 hq3 hTq3 => ?_)
    exact aw_zreturn (pc := 67) (b := q3.1) d_WR_readStep_67 rfl rfl
  refine aw_cases (fun c4 => ?_) (fun c4 => ?_)
  · refine aw_tbl (pc := 12) (tgt := 68) (off := 56) d_WR_readStep_12 (by rw [c4]; decide) (by rw [c4]; decide) (by rw [c4]; rfl) (by decide) ?_
    refine aw_aload_n (pc := 68) d_WR_readStep_68 rfl 1 rfl ?_
    refine aw_aload_n (pc := 69) d_WR_readStep_69 rfl 2 rfl ?_
    refine aw_aload_n (pc := 70) d_WR_readStep_70 rfl 3 rfl ?_
    refine aw_aload_n (pc := 71) d_WR_readStep_71 rfl 4 rfl ?_
    refine aw_iload (pc := 72) d_WR_readStep_72 0 rfl ?_
    refine aw_bipush (pc := 74) (x := 6) d_WR_readStep_74 (by decide) ?_
    refine aw_cVrZ (pc := 76) (ci := 10) (T := TX10) (N := 2) (As := [.ref l1, .ref l2, .ref l3, .int (hGi h 708 l1), .int 6]) (st := []) (ok_WR_readAbout Y l0 l1 l2 l3 (hGi h 708 l1) 6 q1 t0 t1 t2 t3) okV_WR_readAbout rfl (by decide) t0 w4_135 d_WR_readStep_76 rfl (Nat.le_of_ble_eq_true rfl) rfl (Nat.le_of_ble_eq_true rfl) (fun q5 hq5 hTq5 => ?_)
    exact aw_zreturn (pc := 79) (b := q5.1) d_WR_readStep_79 rfl rfl
  refine aw_cases (fun c6 => ?_) (fun c6 => ?_)
  · refine aw_tbl (pc := 12) (tgt := 80) (off := 68) d_WR_readStep_12 (by rw [c6]; decide) (by rw [c6]; decide) (by rw [c6]; rfl) (by decide) ?_
    refine aw_aload_n (pc := 80) d_WR_readStep_80 rfl 1 rfl ?_
    refine aw_aload_n (pc := 81) d_WR_readStep_81 rfl 2 rfl ?_
    refine aw_aload_n (pc := 82) d_WR_readStep_82 rfl 3 rfl ?_
    refine aw_aload_n (pc := 83) d_WR_readStep_83 rfl 4 rfl ?_
    refine aw_iload (pc := 84) d_WR_readStep_84 0 rfl ?_
    refine aw_bipush (pc := 86) (x := 14) d_WR_readStep_86 (by decide) ?_
    refine aw_cVrZ (pc := 88) (ci := 10) (T := TX10) (N := 2) (As := [.ref l1, .ref l2, .ref l3, .int (hGi h 708 l1), .int 14]) (st := []) (ok_WR_readAbout Y l0 l1 l2 l3 (hGi h 708 l1) 14 q1 t0 t1 t2 t3) okV_WR_readAbout rfl (by decide) t0 w4_135 d_WR_readStep_88 rfl (Nat.le_of_ble_eq_true rfl) rfl (Nat.le_of_ble_eq_true rfl) (fun q7 hq7 hTq7 => ?_)
    exact aw_zreturn (pc := 91) (b := q7.1) d_WR_readStep_91 rfl rfl
  refine aw_cases (fun c8 => ?_) (fun c8 => ?_)
  · refine aw_tbl (pc := 12) (tgt := 68) (off := 56) d_WR_readStep_12 (by rw [c8]; decide) (by rw [c8]; decide) (by rw [c8]; rfl) (by decide) ?_
    refine aw_aload_n (pc := 68) d_WR_readStep_68 rfl 1 rfl ?_
    refine aw_aload_n (pc := 69) d_WR_readStep_69 rfl 2 rfl ?_
    refine aw_aload_n (pc := 70) d_WR_readStep_70 rfl 3 rfl ?_
    refine aw_aload_n (pc := 71) d_WR_readStep_71 rfl 4 rfl ?_
    refine aw_iload (pc := 72) d_WR_readStep_72 0 rfl ?_
    refine aw_bipush (pc := 74) (x := 6) d_WR_readStep_74 (by decide) ?_
    refine aw_cVrZ (pc := 76) (ci := 10) (T := TX10) (N := 2) (As := [.ref l1, .ref l2, .ref l3, .int (hGi h 708 l1), .int 6]) (st := []) (ok_WR_readAbout Y l0 l1 l2 l3 (hGi h 708 l1) 6 q1 t0 t1 t2 t3) okV_WR_readAbout rfl (by decide) t0 w4_135 d_WR_readStep_76 rfl (Nat.le_of_ble_eq_true rfl) rfl (Nat.le_of_ble_eq_true rfl) (fun q9 hq9 hTq9 => ?_)
    exact aw_zreturn (pc := 79) (b := q9.1) d_WR_readStep_79 rfl rfl
  refine aw_cases (fun c10 => ?_) (fun c10 => ?_)
  · refine aw_tbl (pc := 12) (tgt := 92) (off := 80) d_WR_readStep_12 (by rw [c10]; decide) (by rw [c10]; decide) (by rw [c10]; rfl) (by decide) ?_
    refine aw_aload_n (pc := 92) d_WR_readStep_92 rfl 1 rfl ?_
    refine aw_aload_n (pc := 93) d_WR_readStep_93 rfl 2 rfl ?_
    refine aw_aload_n (pc := 94) d_WR_readStep_94 rfl 3 rfl ?_
    refine aw_aload_n (pc := 95) d_WR_readStep_95 rfl 4 rfl ?_
    refine aw_cVrZ (pc := 96) (ci := 10) (T := TX10) (N := 2) (As := [.ref l1, .ref l2, .ref l3]) (st := []) (ok_WR_readTest Y l0 l1 l2 l3 q1 t0 t1 t2 t3) okV_WR_readTest rfl (by decide) t0 w4_139 d_WR_readStep_96 rfl (Nat.le_of_ble_eq_true rfl) rfl (Nat.le_of_ble_eq_true rfl) (fun q11 hq11 hTq11 => ?_)
    exact aw_zreturn (pc := 99) (b := q11.1) d_WR_readStep_99 rfl rfl
  refine aw_cases (fun c12 => ?_) (fun c12 => ?_)
  · refine aw_tbl (pc := 12) (tgt := 100) (off := 88) d_WR_readStep_12 (by rw [c12]; decide) (by rw [c12]; decide) (by rw [c12]; rfl) (by decide) ?_
    refine aw_aload_n (pc := 100) d_WR_readStep_100 rfl 1 rfl ?_
    refine aw_aload_n (pc := 101) d_WR_readStep_101 rfl 2 rfl ?_
    refine aw_aload_n (pc := 102) d_WR_readStep_102 rfl 4 rfl ?_
    refine aw_cVrZ (pc := 103) (ci := 10) (T := TX10) (N := 2) (As := [.ref l1, .ref l3]) (st := []) (ok_WR_readLoop Y l0 l1 l3 q1 t0 t1 t3) okV_WR_readLoop rfl (by decide) t0 w4_152 d_WR_readStep_103 rfl (Nat.le_of_ble_eq_true rfl) rfl (Nat.le_of_ble_eq_true rfl) (fun q13 hq13 hTq13 => ?_)
    exact aw_zreturn (pc := 106) (b := q13.1) d_WR_readStep_106 rfl rfl
  refine aw_tblX (pc := 12) (tgt := 107) d_WR_readStep_12 (by intro k hk; match k, hk with | 0, _ => exact Or.inr (fun q => c2 (q.trans (by decide))) | 1, _ => exact Or.inr (fun q => c4 (q.trans (by decide))) | 2, _ => exact Or.inr (fun q => c6 (q.trans (by decide))) | 3, _ => exact Or.inr (fun q => c8 (q.trans (by decide))) | 4, _ => exact Or.inr (fun q => c10 (q.trans (by decide))) | 5, _ => exact Or.inl rfl | 6, _ => exact Or.inl rfl | 7, _ => exact Or.inr (fun q => c12 (q.trans (by decide))) | k + 8, hk => exact absurd hk (by show ¬ (k + 8 < 8); omega)) rfl (by decide) ?_
  refine aw_aload_n (pc := 107) d_WR_readStep_107 rfl 4 rfl ?_
  refine aw_iload (pc := 108) d_WR_readStep_108 0 rfl ?_
  refine aw_iconst (pc := 110) (x := (-1)) d_WR_readStep_110 (by decide) ?_
  refine aw_iconst (pc := 111) (x := 0) d_WR_readStep_111 (by decide) ?_
  refine aw_iconst (pc := 112) (x := 0) d_WR_readStep_112 (by decide) ?_
  refine aw_cVrV (pc := 113) (ci := 9) (T := TX9) (N := 8) (As := [.int (hGi h 708 l1), .int (-1), .int 0, .int 0]) (st := []) (ok_We_addRow Y l3 (hGi h 708 l1) (-1) 0 0 q1 t3) okV_We_addRow rfl (by decide) t3 w4_134 d_WR_readStep_113 rfl (Nat.le_of_ble_eq_true rfl) rfl (Nat.le_of_ble_eq_true rfl) (fun q14 hq14 hTq14 => ?_)
  refine aw_iconst (pc := 116) (x := 1) d_WR_readStep_116 (by decide) ?_
  exact aw_zreturn (pc := 117) (b := true) d_WR_readStep_117 rfl rfl
/-! LastPages$WeeksReader.readWeeks(LLastPages$Tokens;LLastPages$Shelf;LLastPages$Weeks;I)Z -/
theorem d_WR_readWeeks_0 : decode prog_12_method_2_code 0 = .ok (.aload_n 3, 1) := by decide +kernel
theorem d_WR_readWeeks_1 : decode prog_12_method_2_code 1 = .ok (.invokevirtual 19, 3) := by decide +kernel
theorem d_WR_readWeeks_4 : decode prog_12_method_2_code 4 = .ok (.aload_n 3, 1) := by decide +kernel
theorem d_WR_readWeeks_5 : decode prog_12_method_2_code 5 = .ok (.iconst 1, 1) := by decide +kernel
theorem d_WR_readWeeks_6 : decode prog_12_method_2_code 6 = .ok (.putfield 24, 3) := by decide +kernel
theorem d_WR_readWeeks_9 : decode prog_12_method_2_code 9 = .ok (.aload_n 0, 1) := by decide +kernel
theorem d_WR_readWeeks_10 : decode prog_12_method_2_code 10 = .ok (.iconst 0, 1) := by decide +kernel
theorem d_WR_readWeeks_11 : decode prog_12_method_2_code 11 = .ok (.putfield 15, 3) := by decide +kernel
theorem d_WR_readWeeks_14 : decode prog_12_method_2_code 14 = .ok (.aload_n 1, 1) := by decide +kernel
theorem d_WR_readWeeks_15 : decode prog_12_method_2_code 15 = .ok (.iload 4, 2) := by decide +kernel
theorem d_WR_readWeeks_17 : decode prog_12_method_2_code 17 = .ok (.invokevirtual 28, 3) := by decide +kernel
theorem d_WR_readWeeks_20 : decode prog_12_method_2_code 20 = .ok (.iconst 0, 1) := by decide +kernel
theorem d_WR_readWeeks_21 : decode prog_12_method_2_code 21 = .ok (.istore 5, 2) := by decide +kernel
theorem d_WR_readWeeks_23 : decode prog_12_method_2_code 23 = .ok (.iload 5, 2) := by decide +kernel
theorem d_WR_readWeeks_25 : decode prog_12_method_2_code 25 = .ok (.sipush 300, 3) := by decide +kernel
theorem d_WR_readWeeks_28 : decode prog_12_method_2_code 28 = .ok (.if_icmp .gt 74, 3) := by decide +kernel
theorem d_WR_readWeeks_31 : decode prog_12_method_2_code 31 = .ok (.aload_n 1, 1) := by decide +kernel
theorem d_WR_readWeeks_32 : decode prog_12_method_2_code 32 = .ok (.getfield 34, 3) := by decide +kernel
theorem d_WR_readWeeks_35 : decode prog_12_method_2_code 35 = .ok (.ifCond .eq 67, 3) := by decide +kernel
theorem d_WR_readWeeks_38 : decode prog_12_method_2_code 38 = .ok (.aload_n 1, 1) := by decide +kernel
theorem d_WR_readWeeks_39 : decode prog_12_method_2_code 39 = .ok (.getfield 37, 3) := by decide +kernel
theorem d_WR_readWeeks_42 : decode prog_12_method_2_code 42 = .ok (.bipush 29, 2) := by decide +kernel
theorem d_WR_readWeeks_44 : decode prog_12_method_2_code 44 = .ok (.if_icmp .ne 12, 3) := by decide +kernel
theorem d_WR_readWeeks_47 : decode prog_12_method_2_code 47 = .ok (.aload_n 0, 1) := by decide +kernel
theorem d_WR_readWeeks_48 : decode prog_12_method_2_code 48 = .ok (.aload_n 1, 1) := by decide +kernel
theorem d_WR_readWeeks_49 : decode prog_12_method_2_code 49 = .ok (.aload_n 3, 1) := by decide +kernel
theorem d_WR_readWeeks_50 : decode prog_12_method_2_code 50 = .ok (.invokevirtual 40, 3) := by decide +kernel
theorem d_WR_readWeeks_53 : decode prog_12_method_2_code 53 = .ok (.goto 34, 3) := by decide +kernel
theorem d_WR_readWeeks_56 : decode prog_12_method_2_code 56 = .ok (.aload_n 0, 1) := by decide +kernel
theorem d_WR_readWeeks_57 : decode prog_12_method_2_code 57 = .ok (.aload_n 1, 1) := by decide +kernel
theorem d_WR_readWeeks_58 : decode prog_12_method_2_code 58 = .ok (.aload_n 3, 1) := by decide +kernel
theorem d_WR_readWeeks_59 : decode prog_12_method_2_code 59 = .ok (.invokevirtual 44, 3) := by decide +kernel
theorem d_WR_readWeeks_62 : decode prog_12_method_2_code 62 = .ok (.ifCond .eq 24, 3) := by decide +kernel
theorem d_WR_readWeeks_65 : decode prog_12_method_2_code 65 = .ok (.aload_n 0, 1) := by decide +kernel
theorem d_WR_readWeeks_66 : decode prog_12_method_2_code 66 = .ok (.aload_n 1, 1) := by decide +kernel
theorem d_WR_readWeeks_67 : decode prog_12_method_2_code 67 = .ok (.aload_n 2, 1) := by decide +kernel
theorem d_WR_readWeeks_68 : decode prog_12_method_2_code 68 = .ok (.aload_n 3, 1) := by decide +kernel
theorem d_WR_readWeeks_69 : decode prog_12_method_2_code 69 = .ok (.invokevirtual 47, 3) := by decide +kernel
theorem d_WR_readWeeks_72 : decode prog_12_method_2_code 72 = .ok (.ifCond .eq 14, 3) := by decide +kernel
theorem d_WR_readWeeks_75 : decode prog_12_method_2_code 75 = .ok (.aload_n 1, 1) := by decide +kernel
theorem d_WR_readWeeks_76 : decode prog_12_method_2_code 76 = .ok (.invokevirtual 51, 3) := by decide +kernel
theorem d_WR_readWeeks_79 : decode prog_12_method_2_code 79 = .ok (.ifCond .eq 7, 3) := by decide +kernel
theorem d_WR_readWeeks_82 : decode prog_12_method_2_code 82 = .ok (.iconst 1, 1) := by decide +kernel
theorem d_WR_readWeeks_83 : decode prog_12_method_2_code 83 = .ok (.goto 4, 3) := by decide +kernel
theorem d_WR_readWeeks_86 : decode prog_12_method_2_code 86 = .ok (.iconst 0, 1) := by decide +kernel
theorem d_WR_readWeeks_87 : decode prog_12_method_2_code 87 = .ok (.istore 6, 2) := by decide +kernel
theorem d_WR_readWeeks_89 : decode prog_12_method_2_code 89 = .ok (.iload 6, 2) := by decide +kernel
theorem d_WR_readWeeks_91 : decode prog_12_method_2_code 91 = .ok (.ifCond .ne 5, 3) := by decide +kernel
theorem d_WR_readWeeks_94 : decode prog_12_method_2_code 94 = .ok (.iconst 0, 1) := by decide +kernel
theorem d_WR_readWeeks_95 : decode prog_12_method_2_code 95 = .ok (.ireturn, 1) := by decide +kernel
theorem d_WR_readWeeks_96 : decode prog_12_method_2_code 96 = .ok (.iinc 5 1, 3) := by decide +kernel
theorem d_WR_readWeeks_99 : decode prog_12_method_2_code 99 = .ok (.goto (-76), 3) := by decide +kernel
theorem d_WR_readWeeks_102 : decode prog_12_method_2_code 102 = .ok (.aload_n 0, 1) := by decide +kernel
theorem d_WR_readWeeks_103 : decode prog_12_method_2_code 103 = .ok (.getfield 15, 3) := by decide +kernel
theorem d_WR_readWeeks_106 : decode prog_12_method_2_code 106 = .ok (.ifCond .eq 11, 3) := by decide +kernel
theorem d_WR_readWeeks_109 : decode prog_12_method_2_code 109 = .ok (.aload_n 1, 1) := by decide +kernel
theorem d_WR_readWeeks_110 : decode prog_12_method_2_code 110 = .ok (.iconst 2, 1) := by decide +kernel
theorem d_WR_readWeeks_111 : decode prog_12_method_2_code 111 = .ok (.invokevirtual 55, 3) := by decide +kernel
theorem d_WR_readWeeks_114 : decode prog_12_method_2_code 114 = .ok (.ifCond .eq 7, 3) := by decide +kernel
theorem d_WR_readWeeks_117 : decode prog_12_method_2_code 117 = .ok (.iconst 1, 1) := by decide +kernel
theorem d_WR_readWeeks_118 : decode prog_12_method_2_code 118 = .ok (.goto 4, 3) := by decide +kernel
theorem d_WR_readWeeks_121 : decode prog_12_method_2_code 121 = .ok (.iconst 0, 1) := by decide +kernel
theorem d_WR_readWeeks_122 : decode prog_12_method_2_code 122 = .ok (.ireturn, 1) := by decide +kernel
def WR_readWeeks_J102 (Y : Ly) (l0 : Nat) (l1 : Nat) (h : Hp) : Option (Bool × Hp) :=
  if (hGi h 1001 l0) = 0 then
    some (true, h)
  else
    (To_blame Y l1 2 h).bind fun q7 =>
    if q7.1 = true then
      some (true, q7.2)
    else
      some (false, q7.2)
theorem WR_readWeeks_J102_ok (Y : Ly) (l0 : Nat) (l1 : Nat) (h : Hp) (tl0 : isO Y 10 l0) (tl1 : isO Y 7 l1) : AW Y 5 K_WR_readWeeks 102 [(0, .ref l0), (1, .ref l1)] [] h (WR_readWeeks_J102 Y l0 l1 h) rZ := by
  unfold WR_readWeeks_J102
  refine aw_aload_n (pc := 102) d_WR_readWeeks_102 rfl 0 rfl ?_
  refine gt_1001 (pc := 103) d_WR_readWeeks_103 w1_159 tl0 ?_
  refine aw_if_eq (pc := 106) (tgt := 117) d_WR_readWeeks_106 (by decide) (fun c6 => ?_) (fun c6 => ?_)
  · refine aw_iconst (pc := 117) (x := 1) d_WR_readWeeks_117 (by decide) ?_
    refine aw_goto (pc := 118) (tgt := 122) d_WR_readWeeks_118 (by decide) ?_
    exact aw_zreturn (pc := 122) (b := true) d_WR_readWeeks_122 rfl rfl
  · refine aw_aload_n (pc := 109) d_WR_readWeeks_109 rfl 1 rfl ?_
    refine aw_iconst (pc := 110) (x := 2) d_WR_readWeeks_110 (by decide) ?_
    refine aw_cVrZ (pc := 111) (ci := 7) (T := TX7) (N := 13) (As := [.int 2]) (st := []) (ok_To_blame Y l1 2 h tl1) okV_To_blame rfl (by decide) tl1 w4_106 d_WR_readWeeks_111 rfl (Nat.le_of_ble_eq_true rfl) rfl (Nat.le_of_ble_eq_true rfl) (fun q7 hq7 hTq7 => ?_)
    refine aw_beq (pc := 114) (tgt := 121) d_WR_readWeeks_114 (by decide) (fun c8 => ?_) (fun c8 => ?_)
    · refine aw_iconst (pc := 117) (x := 1) d_WR_readWeeks_117 (by decide) ?_
      refine aw_goto (pc := 118) (tgt := 122) d_WR_readWeeks_118 (by decide) ?_
      exact aw_zreturn (pc := 122) (b := true) d_WR_readWeeks_122 rfl rfl
    · refine aw_iconst (pc := 121) (x := 0) d_WR_readWeeks_121 (by decide) ?_
      exact aw_zreturn (pc := 122) (b := false) d_WR_readWeeks_122 rfl rfl
def WR_readWeeks_L23 (Y : Ly) (l0 : Nat) (l1 : Nat) (l2 : Nat) (l3 : Nat) : Nat → Int32 → Hp → Option (Bool × Hp)
  | 0, _, _ => none
  | F + 1, l5, h =>
    if 300 < l5 then
      WR_readWeeks_J102 Y l0 l1 h
    else
      if (hGi h 705 l1) = 0 then
        WR_readWeeks_J102 Y l0 l1 h
      else
        if (hGi h 708 l1) = 29 then
          (WR_readEnd Y l0 l1 l3 h).bind fun q11 =>
          if q11.1 = true then
            WR_readWeeks_L23 Y l0 l1 l2 l3 F (l5 + 1) q11.2
          else
            some (false, q11.2)
        else
          (WR_mayStep Y l0 l1 l3 h).bind fun q13 =>
          if q13.1 = true then
            (WR_readStep Y l0 l1 l2 l3 q13.2).bind fun q15 =>
            if q15.1 = true then
              (To_passSemicolon Y l1 q15.2).bind fun q17 =>
              if q17.1 = true then
                if (1 : Int32) = 0 then
                  some (false, q17.2)
                else
                  WR_readWeeks_L23 Y l0 l1 l2 l3 F (l5 + 1) q17.2
              else
                if (0 : Int32) = 0 then
                  some (false, q17.2)
                else
                  WR_readWeeks_L23 Y l0 l1 l2 l3 F (l5 + 1) q17.2
            else
              if (0 : Int32) = 0 then
                some (false, q15.2)
              else
                WR_readWeeks_L23 Y l0 l1 l2 l3 F (l5 + 1) q15.2
          else
            if (0 : Int32) = 0 then
              some (false, q13.2)
            else
              WR_readWeeks_L23 Y l0 l1 l2 l3 F (l5 + 1) q13.2
theorem WR_readWeeks_L23_ok (Y : Ly) (l0 : Nat) (l1 : Nat) (l2 : Nat) (l3 : Nat) (tl0 : isO Y 10 l0) (tl1 : isO Y 7 l1) (tl2 : isO Y 4 l2) (tl3 : isO Y 9 l3) : ∀ (F : Nat) (l5 : Int32) (h : Hp), AW Y 5 K_WR_readWeeks 23 [(0, .ref l0), (1, .ref l1), (2, .ref l2), (3, .ref l3), (5, .int l5)] [] h (WR_readWeeks_L23 Y l0 l1 l2 l3 F l5 h) rZ := by
  intro F
  induction F with
  | zero =>
    intro l5 h
    exact aw_none
  | succ F ih =>
    intro l5 h
    unfold WR_readWeeks_L23
    refine aw_iload (pc := 23) d_WR_readWeeks_23 4 rfl ?_
    refine aw_sipush (pc := 25) (x := 300) d_WR_readWeeks_25 (by decide) ?_
    refine aw_icmp_gt (pc := 28) (tgt := 102) d_WR_readWeeks_28 (by decide) (fun c5 => ?_) (fun c5 => ?_)
    · exact aw_lv [0, 1] rfl (WR_readWeeks_J102_ok Y l0 l1 h tl0 tl1)
    · refine aw_aload_n (pc := 31) d_WR_readWeeks_31 rfl 1 rfl ?_
      refine gt_705 (pc := 32) d_WR_readWeeks_32 w1_95 tl1 ?_
      refine aw_if_eq (pc := 35) (tgt := 102) d_WR_readWeeks_35 (by decide) (fun c9 => ?_) (fun c9 => ?_)
      · exact aw_lv [0, 1] rfl (WR_readWeeks_J102_ok Y l0 l1 h tl0 tl1)
      · refine aw_aload_n (pc := 38) d_WR_readWeeks_38 rfl 1 rfl ?_
        refine gt_708 (pc := 39) d_WR_readWeeks_39 w1_99 tl1 ?_
        refine aw_bipush (pc := 42) (x := 29) d_WR_readWeeks_42 (by decide) ?_
        refine aw_icmp_ne (pc := 44) (tgt := 56) d_WR_readWeeks_44 (by decide) (fun c10 => ?_) (fun c10 => ?_)
        · refine aw_aload_n (pc := 47) d_WR_readWeeks_47 rfl 0 rfl ?_
          refine aw_aload_n (pc := 48) d_WR_readWeeks_48 rfl 1 rfl ?_
          refine aw_aload_n (pc := 49) d_WR_readWeeks_49 rfl 3 rfl ?_
          refine aw_cVrZ (pc := 50) (ci := 10) (T := TX10) (N := 2) (As := [.ref l1, .ref l3]) (st := []) (ok_WR_readEnd Y l0 l1 l3 h tl0 tl1 tl3) okV_WR_readEnd rfl (by decide) tl0 w4_102 d_WR_readWeeks_50 rfl (Nat.le_of_ble_eq_true rfl) rfl (Nat.le_of_ble_eq_true rfl) (fun q11 hq11 hTq11 => ?_)
          refine aw_goto (pc := 53) (tgt := 87) d_WR_readWeeks_53 (by decide) ?_
          refine aw_istore (pc := 87) (lv' := [(6, .int (b2i q11.1)), (0, .ref l0), (1, .ref l1), (2, .ref l2), (3, .ref l3), (5, .int l5)]) d_WR_readWeeks_87 (by decide) rfl ?_
          refine aw_iload (pc := 89) d_WR_readWeeks_89 0 rfl ?_
          refine aw_bne (pc := 91) (tgt := 96) d_WR_readWeeks_91 (by decide) (fun c12 => ?_) (fun c12 => ?_)
          · refine aw_iinc (pc := 96) (w := l5 + 1) (lv' := [(5, .int (l5 + 1)), (6, .int (b2i q11.1)), (0, .ref l0), (1, .ref l1), (2, .ref l2), (3, .ref l3)]) d_WR_readWeeks_96 5 rfl rfl (by decide) rfl ?_
            refine aw_goto (pc := 99) (tgt := 23) d_WR_readWeeks_99 (by decide) ?_
            exact aw_lv [2, 3, 4, 5, 0] rfl (ih (l5 + 1) q11.2)
          · refine aw_iconst (pc := 94) (x := 0) d_WR_readWeeks_94 (by decide) ?_
            exact aw_zreturn (pc := 95) (b := false) d_WR_readWeeks_95 rfl rfl
        · refine aw_aload_n (pc := 56) d_WR_readWeeks_56 rfl 0 rfl ?_
          refine aw_aload_n (pc := 57) d_WR_readWeeks_57 rfl 1 rfl ?_
          refine aw_aload_n (pc := 58) d_WR_readWeeks_58 rfl 3 rfl ?_
          refine aw_cVrZ (pc := 59) (ci := 10) (T := TX10) (N := 2) (As := [.ref l1, .ref l3]) (st := []) (ok_WR_mayStep Y l0 l1 l3 h tl0 tl1 tl3) okV_WR_mayStep rfl (by decide) tl0 w4_121 d_WR_readWeeks_59 rfl (Nat.le_of_ble_eq_true rfl) rfl (Nat.le_of_ble_eq_true rfl) (fun q13 hq13 hTq13 => ?_)
          refine aw_beq (pc := 62) (tgt := 86) d_WR_readWeeks_62 (by decide) (fun c14 => ?_) (fun c14 => ?_)
          · refine aw_aload_n (pc := 65) d_WR_readWeeks_65 rfl 0 rfl ?_
            refine aw_aload_n (pc := 66) d_WR_readWeeks_66 rfl 1 rfl ?_
            refine aw_aload_n (pc := 67) d_WR_readWeeks_67 rfl 2 rfl ?_
            refine aw_aload_n (pc := 68) d_WR_readWeeks_68 rfl 3 rfl ?_
            refine aw_cVrZ (pc := 69) (ci := 10) (T := TX10) (N := 2) (As := [.ref l1, .ref l2, .ref l3]) (st := []) (ok_WR_readStep Y l0 l1 l2 l3 q13.2 tl0 tl1 tl2 tl3) okV_WR_readStep rfl (by decide) tl0 w4_125 d_WR_readWeeks_69 rfl (Nat.le_of_ble_eq_true rfl) rfl (Nat.le_of_ble_eq_true rfl) (fun q15 hq15 hTq15 => ?_)
            refine aw_beq (pc := 72) (tgt := 86) d_WR_readWeeks_72 (by decide) (fun c16 => ?_) (fun c16 => ?_)
            · refine aw_aload_n (pc := 75) d_WR_readWeeks_75 rfl 1 rfl ?_
              refine aw_cVrZ (pc := 76) (ci := 7) (T := TX7) (N := 13) (As := []) (st := []) (ok_To_passSemicolon Y l1 q15.2 tl1) okV_To_passSemicolon rfl (by decide) tl1 w4_120 d_WR_readWeeks_76 rfl (Nat.le_of_ble_eq_true rfl) rfl (Nat.le_of_ble_eq_true rfl) (fun q17 hq17 hTq17 => ?_)
              refine aw_beq (pc := 79) (tgt := 86) d_WR_readWeeks_79 (by decide) (fun c18 => ?_) (fun c18 => ?_)
              · refine aw_iconst (pc := 82) (x := 1) d_WR_readWeeks_82 (by decide) ?_
                refine aw_goto (pc := 83) (tgt := 87) d_WR_readWeeks_83 (by decide) ?_
                refine aw_istore (pc := 87) (lv' := [(6, .int 1), (0, .ref l0), (1, .ref l1), (2, .ref l2), (3, .ref l3), (5, .int l5)]) d_WR_readWeeks_87 (by decide) rfl ?_
                refine aw_iload (pc := 89) d_WR_readWeeks_89 0 rfl ?_
                refine aw_if_ne (pc := 91) (tgt := 96) d_WR_readWeeks_91 (by decide) (fun c19 => ?_) (fun c19 => ?_)
                · refine aw_iconst (pc := 94) (x := 0) d_WR_readWeeks_94 (by decide) ?_
                  exact aw_zreturn (pc := 95) (b := false) d_WR_readWeeks_95 rfl rfl
                · refine aw_iinc (pc := 96) (w := l5 + 1) (lv' := [(5, .int (l5 + 1)), (6, .int 1), (0, .ref l0), (1, .ref l1), (2, .ref l2), (3, .ref l3)]) d_WR_readWeeks_96 5 rfl rfl (by decide) rfl ?_
                  refine aw_goto (pc := 99) (tgt := 23) d_WR_readWeeks_99 (by decide) ?_
                  exact aw_lv [2, 3, 4, 5, 0] rfl (ih (l5 + 1) q17.2)
              · refine aw_iconst (pc := 86) (x := 0) d_WR_readWeeks_86 (by decide) ?_
                refine aw_istore (pc := 87) (lv' := [(6, .int 0), (0, .ref l0), (1, .ref l1), (2, .ref l2), (3, .ref l3), (5, .int l5)]) d_WR_readWeeks_87 (by decide) rfl ?_
                refine aw_iload (pc := 89) d_WR_readWeeks_89 0 rfl ?_
                refine aw_if_ne (pc := 91) (tgt := 96) d_WR_readWeeks_91 (by decide) (fun c20 => ?_) (fun c20 => ?_)
                · refine aw_iconst (pc := 94) (x := 0) d_WR_readWeeks_94 (by decide) ?_
                  exact aw_zreturn (pc := 95) (b := false) d_WR_readWeeks_95 rfl rfl
                · refine aw_iinc (pc := 96) (w := l5 + 1) (lv' := [(5, .int (l5 + 1)), (6, .int 0), (0, .ref l0), (1, .ref l1), (2, .ref l2), (3, .ref l3)]) d_WR_readWeeks_96 5 rfl rfl (by decide) rfl ?_
                  refine aw_goto (pc := 99) (tgt := 23) d_WR_readWeeks_99 (by decide) ?_
                  exact aw_lv [2, 3, 4, 5, 0] rfl (ih (l5 + 1) q17.2)
            · refine aw_iconst (pc := 86) (x := 0) d_WR_readWeeks_86 (by decide) ?_
              refine aw_istore (pc := 87) (lv' := [(6, .int 0), (0, .ref l0), (1, .ref l1), (2, .ref l2), (3, .ref l3), (5, .int l5)]) d_WR_readWeeks_87 (by decide) rfl ?_
              refine aw_iload (pc := 89) d_WR_readWeeks_89 0 rfl ?_
              refine aw_if_ne (pc := 91) (tgt := 96) d_WR_readWeeks_91 (by decide) (fun c21 => ?_) (fun c21 => ?_)
              · refine aw_iconst (pc := 94) (x := 0) d_WR_readWeeks_94 (by decide) ?_
                exact aw_zreturn (pc := 95) (b := false) d_WR_readWeeks_95 rfl rfl
              · refine aw_iinc (pc := 96) (w := l5 + 1) (lv' := [(5, .int (l5 + 1)), (6, .int 0), (0, .ref l0), (1, .ref l1), (2, .ref l2), (3, .ref l3)]) d_WR_readWeeks_96 5 rfl rfl (by decide) rfl ?_
                refine aw_goto (pc := 99) (tgt := 23) d_WR_readWeeks_99 (by decide) ?_
                exact aw_lv [2, 3, 4, 5, 0] rfl (ih (l5 + 1) q15.2)
          · refine aw_iconst (pc := 86) (x := 0) d_WR_readWeeks_86 (by decide) ?_
            refine aw_istore (pc := 87) (lv' := [(6, .int 0), (0, .ref l0), (1, .ref l1), (2, .ref l2), (3, .ref l3), (5, .int l5)]) d_WR_readWeeks_87 (by decide) rfl ?_
            refine aw_iload (pc := 89) d_WR_readWeeks_89 0 rfl ?_
            refine aw_if_ne (pc := 91) (tgt := 96) d_WR_readWeeks_91 (by decide) (fun c22 => ?_) (fun c22 => ?_)
            · refine aw_iconst (pc := 94) (x := 0) d_WR_readWeeks_94 (by decide) ?_
              exact aw_zreturn (pc := 95) (b := false) d_WR_readWeeks_95 rfl rfl
            · refine aw_iinc (pc := 96) (w := l5 + 1) (lv' := [(5, .int (l5 + 1)), (6, .int 0), (0, .ref l0), (1, .ref l1), (2, .ref l2), (3, .ref l3)]) d_WR_readWeeks_96 5 rfl rfl (by decide) rfl ?_
              refine aw_goto (pc := 99) (tgt := 23) d_WR_readWeeks_99 (by decide) ?_
              exact aw_lv [2, 3, 4, 5, 0] rfl (ih (l5 + 1) q13.2)
def WR_readWeeks (Y : Ly) (l0 : Nat) (l1 : Nat) (l2 : Nat) (l3 : Nat) (l4 : Int32) (h : Hp) : Option (Bool × Hp) :=
  (We_empty Y l3 h).bind fun q1 =>
  letH (hSz q1 905 l3 true) fun h2 =>
  letH (hSi h2 1001 l0 0) fun h3 =>
  (To_begin Y l1 l4 h3).bind fun q4 =>
  WR_readWeeks_L23 Y l0 l1 l2 l3 FU 0 q4
theorem ok_WR_readWeeks (Y : Ly) (l0 : Nat) (l1 : Nat) (l2 : Nat) (l3 : Nat) (l4 : Int32) (h : Hp) (t0 : isO Y 10 l0) (t1 : isO Y 7 l1) (t2 : isO Y 4 l2) (t3 : isO Y 9 l3) : AM Y 5 K_WR_readWeeks [.ref l0, .ref l1, .ref l2, .ref l3, .int l4] h (WR_readWeeks Y l0 l1 l2 l3 l4 h) rZ := by
  refine AM.of rfl (Nat.le_of_ble_eq_true rfl) ?_
  show AW Y 5 K_WR_readWeeks 0 [(0, .ref l0), (1, .ref l1), (2, .ref l2), (3, .ref l3), (4, .int l4)] [] h (WR_readWeeks Y l0 l1 l2 l3 l4 h) rZ
  unfold WR_readWeeks
  refine aw_aload_n (pc := 0) d_WR_readWeeks_0 rfl 3 rfl ?_
  refine aw_cVrV (pc := 1) (ci := 9) (T := TX9) (N := 8) (As := []) (st := []) (ok_We_empty Y l3 h t3) okV_We_empty rfl (by decide) t3 w4_100 d_WR_readWeeks_1 rfl (Nat.le_of_ble_eq_true rfl) rfl (Nat.le_of_ble_eq_true rfl) (fun q1 hq1 hTq1 => ?_)
  refine aw_aload_n (pc := 4) d_WR_readWeeks_4 rfl 3 rfl ?_
  refine aw_iconst (pc := 5) (x := 1) d_WR_readWeeks_5 (by decide) ?_
  refine pt_905 (pc := 6) (x := true) d_WR_readWeeks_6 w2_100 t3 ?_
  refine aw_letH (fun h2 => ?_)
  refine aw_aload_n (pc := 9) d_WR_readWeeks_9 rfl 0 rfl ?_
  refine aw_iconst (pc := 10) (x := 0) d_WR_readWeeks_10 (by decide) ?_
  refine pt_1001 (pc := 11) d_WR_readWeeks_11 w1_159 t0 ?_
  refine aw_letH (fun h3 => ?_)
  refine aw_aload_n (pc := 14) d_WR_readWeeks_14 rfl 1 rfl ?_
  refine aw_iload (pc := 15) d_WR_readWeeks_15 4 rfl ?_
  refine aw_cVrV (pc := 17) (ci := 7) (T := TX7) (N := 13) (As := [.int l4]) (st := []) (ok_To_begin Y l1 l4 h3 t1) okV_To_begin rfl (by decide) t1 w4_101 d_WR_readWeeks_17 rfl (Nat.le_of_ble_eq_true rfl) rfl (Nat.le_of_ble_eq_true rfl) (fun q4 hq4 hTq4 => ?_)
  refine aw_iconst (pc := 20) (x := 0) d_WR_readWeeks_20 (by decide) ?_
  refine aw_istore (pc := 21) (lv' := [(5, .int 0), (0, .ref l0), (1, .ref l1), (2, .ref l2), (3, .ref l3), (4, .int l4)]) d_WR_readWeeks_21 (by decide) rfl ?_
  exact aw_lv [1, 2, 3, 4, 0] rfl (WR_readWeeks_L23_ok Y l0 l1 l2 l3 t0 t1 t2 t3 FU 0 q4)
/-! LastPages.weeks(I)I -/
theorem d_LP_weeks_0 : decode prog_1_method_11_code 0 = .ok (.iload_n 1, 1) := by decide +kernel
theorem d_LP_weeks_1 : decode prog_1_method_11_code 1 = .ok (.ifCond .lt 21, 3) := by decide +kernel
theorem d_LP_weeks_4 : decode prog_1_method_11_code 4 = .ok (.iload_n 1, 1) := by decide +kernel
theorem d_LP_weeks_5 : decode prog_1_method_11_code 5 = .ok (.aload_n 0, 1) := by decide +kernel
theorem d_LP_weeks_6 : decode prog_1_method_11_code 6 = .ok (.getfield 18, 3) := by decide +kernel
theorem d_LP_weeks_9 : decode prog_1_method_11_code 9 = .ok (.getfield 162, 3) := by decide +kernel
theorem d_LP_weeks_12 : decode prog_1_method_11_code 12 = .ok (.if_icmp .gt 10, 3) := by decide +kernel
theorem d_LP_weeks_15 : decode prog_1_method_11_code 15 = .ok (.iload_n 1, 1) := by decide +kernel
theorem d_LP_weeks_16 : decode prog_1_method_11_code 16 = .ok (.sipush 300, 3) := by decide +kernel
theorem d_LP_weeks_19 : decode prog_1_method_11_code 19 = .ok (.if_icmp .le 9, 3) := by decide +kernel
theorem d_LP_weeks_22 : decode prog_1_method_11_code 22 = .ok (.aload_n 0, 1) := by decide +kernel
theorem d_LP_weeks_23 : decode prog_1_method_11_code 23 = .ok (.iconst 5, 1) := by decide +kernel
theorem d_LP_weeks_24 : decode prog_1_method_11_code 24 = .ok (.invokevirtual 133, 3) := by decide +kernel
theorem d_LP_weeks_27 : decode prog_1_method_11_code 27 = .ok (.ireturn, 1) := by decide +kernel
theorem d_LP_weeks_28 : decode prog_1_method_11_code 28 = .ok (.aload_n 0, 1) := by decide +kernel
theorem d_LP_weeks_29 : decode prog_1_method_11_code 29 = .ok (.getfield 32, 3) := by decide +kernel
theorem d_LP_weeks_32 : decode prog_1_method_11_code 32 = .ok (.aload_n 0, 1) := by decide +kernel
theorem d_LP_weeks_33 : decode prog_1_method_11_code 33 = .ok (.getfield 18, 3) := by decide +kernel
theorem d_LP_weeks_36 : decode prog_1_method_11_code 36 = .ok (.aload_n 0, 1) := by decide +kernel
theorem d_LP_weeks_37 : decode prog_1_method_11_code 37 = .ok (.getfield 68, 3) := by decide +kernel
theorem d_LP_weeks_40 : decode prog_1_method_11_code 40 = .ok (.aload_n 0, 1) := by decide +kernel
theorem d_LP_weeks_41 : decode prog_1_method_11_code 41 = .ok (.getfield 78, 3) := by decide +kernel
theorem d_LP_weeks_44 : decode prog_1_method_11_code 44 = .ok (.iload_n 1, 1) := by decide +kernel
theorem d_LP_weeks_45 : decode prog_1_method_11_code 45 = .ok (.invokevirtual 183, 3) := by decide +kernel
theorem d_LP_weeks_48 : decode prog_1_method_11_code 48 = .ok (.istore_n 2, 1) := by decide +kernel
theorem d_LP_weeks_49 : decode prog_1_method_11_code 49 = .ok (.aload_n 0, 1) := by decide +kernel
theorem d_LP_weeks_50 : decode prog_1_method_11_code 50 = .ok (.iload_n 2, 1) := by decide +kernel
theorem d_LP_weeks_51 : decode prog_1_method_11_code 51 = .ok (.invokevirtual 173, 3) := by decide +kernel
theorem d_LP_weeks_54 : decode prog_1_method_11_code 54 = .ok (.iload_n 2, 1) := by decide +kernel
theorem d_LP_weeks_55 : decode prog_1_method_11_code 55 = .ok (.ifCond .ne 10, 3) := by decide +kernel
theorem d_LP_weeks_58 : decode prog_1_method_11_code 58 = .ok (.aload_n 0, 1) := by decide +kernel
theorem d_LP_weeks_59 : decode prog_1_method_11_code 59 = .ok (.bipush 10, 2) := by decide +kernel
theorem d_LP_weeks_61 : decode prog_1_method_11_code 61 = .ok (.invokevirtual 133, 3) := by decide +kernel
theorem d_LP_weeks_64 : decode prog_1_method_11_code 64 = .ok (.ireturn, 1) := by decide +kernel
theorem d_LP_weeks_65 : decode prog_1_method_11_code 65 = .ok (.aload_n 0, 1) := by decide +kernel
theorem d_LP_weeks_66 : decode prog_1_method_11_code 66 = .ok (.getfield 68, 3) := by decide +kernel
theorem d_LP_weeks_69 : decode prog_1_method_11_code 69 = .ok (.getfield 187, 3) := by decide +kernel
theorem d_LP_weeks_72 : decode prog_1_method_11_code 72 = .ok (.astore_n 3, 1) := by decide +kernel
theorem d_LP_weeks_73 : decode prog_1_method_11_code 73 = .ok (.aload_n 0, 1) := by decide +kernel
theorem d_LP_weeks_74 : decode prog_1_method_11_code 74 = .ok (.getfield 68, 3) := by decide +kernel
theorem d_LP_weeks_77 : decode prog_1_method_11_code 77 = .ok (.aload_n 0, 1) := by decide +kernel
theorem d_LP_weeks_78 : decode prog_1_method_11_code 78 = .ok (.getfield 78, 3) := by decide +kernel
theorem d_LP_weeks_81 : decode prog_1_method_11_code 81 = .ok (.putfield 187, 3) := by decide +kernel
theorem d_LP_weeks_84 : decode prog_1_method_11_code 84 = .ok (.aload_n 0, 1) := by decide +kernel
theorem d_LP_weeks_85 : decode prog_1_method_11_code 85 = .ok (.aload_n 3, 1) := by decide +kernel
theorem d_LP_weeks_86 : decode prog_1_method_11_code 86 = .ok (.putfield 78, 3) := by decide +kernel
theorem d_LP_weeks_89 : decode prog_1_method_11_code 89 = .ok (.aload_n 0, 1) := by decide +kernel
theorem d_LP_weeks_90 : decode prog_1_method_11_code 90 = .ok (.aload_n 0, 1) := by decide +kernel
theorem d_LP_weeks_91 : decode prog_1_method_11_code 91 = .ok (.getfield 68, 3) := by decide +kernel
theorem d_LP_weeks_94 : decode prog_1_method_11_code 94 = .ok (.getfield 187, 3) := by decide +kernel
theorem d_LP_weeks_97 : decode prog_1_method_11_code 97 = .ok (.getfield 190, 3) := by decide +kernel
theorem d_LP_weeks_100 : decode prog_1_method_11_code 100 = .ok (.invokevirtual 180, 3) := by decide +kernel
theorem d_LP_weeks_103 : decode prog_1_method_11_code 103 = .ok (.ireturn, 1) := by decide +kernel
def LP_weeks (Y : Ly) (l0 : Nat) (l1 : Int32) (h : Hp) : Option (Int32 × Hp) :=
  if l1 < 0 then
    (LP_fail Y l0 5 h).bind fun q2 =>
    some (q2.1, q2.2)
  else
    if (hGi h 702 (hGr h 1101 l0)) < l1 then
      (LP_fail Y l0 5 h).bind fun q5 =>
      some (q5.1, q5.2)
    else
      if l1 ≤ 300 then
        (WR_readWeeks Y (hGr h 1103 l0) (hGr h 1101 l0) (hGr h 1109 l0) (hGr h 1111 l0) l1 h).bind fun q11 =>
        (LP_keepFault Y l0 q11.1 q11.2).bind fun q12 =>
        if q11.1 = true then
          letH (hSr q12 413 (hGr q12 1109 l0) (hGr q12 1111 l0)) fun h18 =>
          letH (hSr h18 1111 l0 (hGr q12 413 (hGr q12 1109 l0))) fun h19 =>
          (LP_give Y l0 (hGi h19 907 (hGr h19 413 (hGr h19 1109 l0))) h19).bind fun q22 =>
          some (q22.1, q22.2)
        else
          (LP_fail Y l0 10 q12).bind fun q23 =>
          some (q23.1, q23.2)
      else
        (LP_fail Y l0 5 h).bind fun q24 =>
        some (q24.1, q24.2)
theorem ok_LP_weeks (Y : Ly) (l0 : Nat) (l1 : Int32) (h : Hp) (t0 : isO Y 11 l0) : AM Y 6 K_LP_weeks [.ref l0, .int l1] h (LP_weeks Y l0 l1 h) rI := by
  refine AM.of rfl (Nat.le_of_ble_eq_true rfl) ?_
  show AW Y 6 K_LP_weeks 0 [(0, .ref l0), (1, .int l1)] [] h (LP_weeks Y l0 l1 h) rI
  unfold LP_weeks
  refine aw_iload_n (pc := 0) d_LP_weeks_0 rfl 1 rfl ?_
  refine aw_if_lt (pc := 1) (tgt := 22) d_LP_weeks_1 (by decide) (fun c1 => ?_) (fun c1 => ?_)
  · refine aw_aload_n (pc := 22) d_LP_weeks_22 rfl 0 rfl ?_
    refine aw_iconst (pc := 23) (x := 5) d_LP_weeks_23 (by decide) ?_
    refine aw_cVrI (pc := 24) (ci := 11) (T := TX11) (N := 18) (As := [.int 5]) (st := []) (ok_LP_fail Y l0 5 h t0) okV_LP_fail rfl (by decide) t0 w3_114 d_LP_weeks_24 rfl (Nat.le_of_ble_eq_true rfl) rfl (Nat.le_of_ble_eq_true rfl) (fun q2 hq2 hTq2 => ?_)
    exact aw_ireturn (pc := 27) d_LP_weeks_27 rfl rfl
  · refine aw_iload_n (pc := 4) d_LP_weeks_4 rfl 1 rfl ?_
    refine aw_aload_n (pc := 5) d_LP_weeks_5 rfl 0 rfl ?_
    refine gt_1101 (pc := 6) d_LP_weeks_6 w3_1 t0 (fun tt3 => ?_)
    refine gt_702 (pc := 9) d_LP_weeks_9 w1_90 tt3 ?_
    refine aw_icmp_gt (pc := 12) (tgt := 22) d_LP_weeks_12 (by decide) (fun c4 => ?_) (fun c4 => ?_)
    · refine aw_aload_n (pc := 22) d_LP_weeks_22 rfl 0 rfl ?_
      refine aw_iconst (pc := 23) (x := 5) d_LP_weeks_23 (by decide) ?_
      refine aw_cVrI (pc := 24) (ci := 11) (T := TX11) (N := 18) (As := [.int 5]) (st := []) (ok_LP_fail Y l0 5 h t0) okV_LP_fail rfl (by decide) t0 w3_114 d_LP_weeks_24 rfl (Nat.le_of_ble_eq_true rfl) rfl (Nat.le_of_ble_eq_true rfl) (fun q5 hq5 hTq5 => ?_)
      exact aw_ireturn (pc := 27) d_LP_weeks_27 rfl rfl
    · refine aw_iload_n (pc := 15) d_LP_weeks_15 rfl 1 rfl ?_
      refine aw_sipush (pc := 16) (x := 300) d_LP_weeks_16 (by decide) ?_
      refine aw_icmp_le (pc := 19) (tgt := 28) d_LP_weeks_19 (by decide) (fun c6 => ?_) (fun c6 => ?_)
      · refine aw_aload_n (pc := 28) d_LP_weeks_28 rfl 0 rfl ?_
        refine gt_1103 (pc := 29) d_LP_weeks_29 w3_3 t0 (fun tt7 => ?_)
        refine aw_aload_n (pc := 32) d_LP_weeks_32 rfl 0 rfl ?_
        refine gt_1101 (pc := 33) d_LP_weeks_33 w3_1 t0 (fun tt8 => ?_)
        refine aw_aload_n (pc := 36) d_LP_weeks_36 rfl 0 rfl ?_
        refine gt_1109 (pc := 37) d_LP_weeks_37 w3_9 t0 (fun tt9 => ?_)
        refine aw_aload_n (pc := 40) d_LP_weeks_40 rfl 0 rfl ?_
        refine gt_1111 (pc := 41) d_LP_weeks_41 w3_11 t0 (fun tt10 => ?_)
        refine aw_iload_n (pc := 44) d_LP_weeks_44 rfl 1 rfl ?_
        refine aw_cVrZ (pc := 45) (ci := 10) (T := TX10) (N := 2) (As := [.ref (hGr h 1101 l0), .ref (hGr h 1109 l0), .ref (hGr h 1111 l0), .int l1]) (st := []) (ok_WR_readWeeks Y (hGr h 1103 l0) (hGr h 1101 l0) (hGr h 1109 l0) (hGr h 1111 l0) l1 h tt7 tt8 tt9 tt10) okV_WR_readWeeks rfl (by decide) tt7 w4_96 d_LP_weeks_45 rfl (Nat.le_of_ble_eq_true rfl) rfl (Nat.le_of_ble_eq_true rfl) (fun q11 hq11 hTq11 => ?_)
        refine aw_istore_n (pc := 48) (lv' := [(2, .int (b2i q11.1)), (0, .ref l0), (1, .int l1)]) d_LP_weeks_48 rfl (by decide) rfl ?_
        refine aw_aload_n (pc := 49) d_LP_weeks_49 rfl 1 rfl ?_
        refine aw_iload_n (pc := 50) d_LP_weeks_50 rfl 0 rfl ?_
        refine aw_cVrV (pc := 51) (ci := 11) (T := TX11) (N := 18) (As := [.int (b2i q11.1)]) (st := []) (ok_LP_keepFault Y l0 q11.1 q11.2 t0) okV_LP_keepFault rfl (by decide) t0 w4_84 d_LP_weeks_51 rfl (Nat.le_of_ble_eq_true rfl) rfl (Nat.le_of_ble_eq_true rfl) (fun q12 hq12 hTq12 => ?_)
        refine aw_iload_n (pc := 54) d_LP_weeks_54 rfl 0 rfl ?_
        refine aw_bne (pc := 55) (tgt := 65) d_LP_weeks_55 (by decide) (fun c13 => ?_) (fun c13 => ?_)
        · refine aw_aload_n (pc := 65) d_LP_weeks_65 rfl 1 rfl ?_
          refine gt_1109 (pc := 66) d_LP_weeks_66 w3_9 t0 (fun tt14 => ?_)
          refine gt_413 (pc := 69) d_LP_weeks_69 w2_156 tt14 (fun tt15 => ?_)
          refine aw_astore_n (pc := 72) (lv' := [(3, .ref (hGr q12 413 (hGr q12 1109 l0))), (2, .int (b2i q11.1)), (0, .ref l0), (1, .int l1)]) d_LP_weeks_72 rfl (by decide) rfl ?_
          refine aw_aload_n (pc := 73) d_LP_weeks_73 rfl 2 rfl ?_
          refine gt_1109 (pc := 74) d_LP_weeks_74 w3_9 t0 (fun tt16 => ?_)
          refine aw_aload_n (pc := 77) d_LP_weeks_77 rfl 2 rfl ?_
          refine gt_1111 (pc := 78) d_LP_weeks_78 w3_11 t0 (fun tt17 => ?_)
          refine pt_413 (pc := 81) d_LP_weeks_81 w2_156 tt16 tt17 ?_
          refine aw_letH (fun h18 => ?_)
          refine aw_aload_n (pc := 84) d_LP_weeks_84 rfl 2 rfl ?_
          refine aw_aload_n (pc := 85) d_LP_weeks_85 rfl 0 rfl ?_
          refine pt_1111 (pc := 86) d_LP_weeks_86 w3_11 t0 tt15 ?_
          refine aw_letH (fun h19 => ?_)
          refine aw_aload_n (pc := 89) d_LP_weeks_89 rfl 2 rfl ?_
          refine aw_aload_n (pc := 90) d_LP_weeks_90 rfl 2 rfl ?_
          refine gt_1109 (pc := 91) d_LP_weeks_91 w3_9 t0 (fun tt20 => ?_)
          refine gt_413 (pc := 94) d_LP_weeks_94 w2_156 tt20 (fun tt21 => ?_)
          refine gt_907 (pc := 97) d_LP_weeks_97 w2_106 tt21 ?_
          refine aw_cVrI (pc := 100) (ci := 11) (T := TX11) (N := 18) (As := [.int (hGi h19 907 (hGr h19 413 (hGr h19 1109 l0)))]) (st := []) (ok_LP_give Y l0 (hGi h19 907 (hGr h19 413 (hGr h19 1109 l0))) h19 t0) okV_LP_give rfl (by decide) t0 w4_88 d_LP_weeks_100 rfl (Nat.le_of_ble_eq_true rfl) rfl (Nat.le_of_ble_eq_true rfl) (fun q22 hq22 hTq22 => ?_)
          exact aw_ireturn (pc := 103) d_LP_weeks_103 rfl rfl
        · refine aw_aload_n (pc := 58) d_LP_weeks_58 rfl 1 rfl ?_
          refine aw_bipush (pc := 59) (x := 10) d_LP_weeks_59 (by decide) ?_
          refine aw_cVrI (pc := 61) (ci := 11) (T := TX11) (N := 18) (As := [.int 10]) (st := []) (ok_LP_fail Y l0 10 q12 t0) okV_LP_fail rfl (by decide) t0 w3_114 d_LP_weeks_61 rfl (Nat.le_of_ble_eq_true rfl) rfl (Nat.le_of_ble_eq_true rfl) (fun q23 hq23 hTq23 => ?_)
          exact aw_ireturn (pc := 64) d_LP_weeks_64 rfl rfl
      · refine aw_aload_n (pc := 22) d_LP_weeks_22 rfl 0 rfl ?_
        refine aw_iconst (pc := 23) (x := 5) d_LP_weeks_23 (by decide) ?_
        refine aw_cVrI (pc := 24) (ci := 11) (T := TX11) (N := 18) (As := [.int 5]) (st := []) (ok_LP_fail Y l0 5 h t0) okV_LP_fail rfl (by decide) t0 w3_114 d_LP_weeks_24 rfl (Nat.le_of_ble_eq_true rfl) rfl (Nat.le_of_ble_eq_true rfl) (fun q24 hq24 hTq24 => ?_)
        exact aw_ireturn (pc := 27) d_LP_weeks_27 rfl rfl
/-! LastPages.write(IIJ)Z -/
theorem d_LP_write_0 : decode prog_1_method_6_code 0 = .ok (.aload_n 0, 1) := by decide +kernel
theorem d_LP_write_1 : decode prog_1_method_6_code 1 = .ok (.iload_n 1, 1) := by decide +kernel
theorem d_LP_write_2 : decode prog_1_method_6_code 2 = .ok (.invokevirtual 109, 3) := by decide +kernel
theorem d_LP_write_5 : decode prog_1_method_6_code 5 = .ok (.astore 5, 2) := by decide +kernel
theorem d_LP_write_7 : decode prog_1_method_6_code 7 = .ok (.aload 5, 2) := by decide +kernel
theorem d_LP_write_9 : decode prog_1_method_6_code 9 = .ok (.iload_n 2, 1) := by decide +kernel
theorem d_LP_write_10 : decode prog_1_method_6_code 10 = .ok (.invokestatic 125, 3) := by decide +kernel
theorem d_LP_write_13 : decode prog_1_method_6_code 13 = .ok (.istore 6, 2) := by decide +kernel
theorem d_LP_write_15 : decode prog_1_method_6_code 15 = .ok (.aload 5, 2) := by decide +kernel
theorem d_LP_write_17 : decode prog_1_method_6_code 17 = .ok (.ifnull 8, 3) := by decide +kernel
theorem d_LP_write_20 : decode prog_1_method_6_code 20 = .ok (.iload 6, 2) := by decide +kernel
theorem d_LP_write_22 : decode prog_1_method_6_code 22 = .ok (.ifCond .eq 10, 3) := by decide +kernel
theorem d_LP_write_25 : decode prog_1_method_6_code 25 = .ok (.aload_n 0, 1) := by decide +kernel
theorem d_LP_write_26 : decode prog_1_method_6_code 26 = .ok (.iload 6, 2) := by decide +kernel
theorem d_LP_write_28 : decode prog_1_method_6_code 28 = .ok (.invokevirtual 113, 3) := by decide +kernel
theorem d_LP_write_31 : decode prog_1_method_6_code 31 = .ok (.ireturn, 1) := by decide +kernel
theorem d_LP_write_32 : decode prog_1_method_6_code 32 = .ok (.aload 5, 2) := by decide +kernel
theorem d_LP_write_34 : decode prog_1_method_6_code 34 = .ok (.iload_n 2, 1) := by decide +kernel
theorem d_LP_write_35 : decode prog_1_method_6_code 35 = .ok (.lload_n 3, 1) := by decide +kernel
theorem d_LP_write_36 : decode prog_1_method_6_code 36 = .ok (.invokevirtual 129, 3) := by decide +kernel
theorem d_LP_write_39 : decode prog_1_method_6_code 39 = .ok (.aload_n 0, 1) := by decide +kernel
theorem d_LP_write_40 : decode prog_1_method_6_code 40 = .ok (.invokevirtual 121, 3) := by decide +kernel
theorem d_LP_write_43 : decode prog_1_method_6_code 43 = .ok (.ireturn, 1) := by decide +kernel
def LP_write (Y : Ly) (l0 : Nat) (l1 : Int32) (l2 : Int32) (l3 : Int64) (h : Hp) : Option (Bool × Hp) :=
  (LP_trayAt Y l0 l1 h).bind fun q1 =>
  (LP_whyNoPlace Y q1 l2 h).bind fun q3 =>
  match q1 with
  | none =>
      (LP_refuse Y l0 q3 h).bind fun q6 =>
      some (q6.1, q6.2)
  | some a4 =>
      if q3 = 0 then
        (Tr_put Y a4 l2 l3 h).bind fun q8 =>
        (LP_agree Y l0 q8).bind fun q9 =>
        some (q9.1, q9.2)
      else
        (LP_refuse Y l0 q3 h).bind fun q10 =>
        some (q10.1, q10.2)
theorem ok_LP_write (Y : Ly) (l0 : Nat) (l1 : Int32) (l2 : Int32) (l3 : Int64) (h : Hp) (t0 : isO Y 11 l0) : AM Y 2 K_LP_write [.ref l0, .int l1, .int l2, .long l3] h (LP_write Y l0 l1 l2 l3 h) rZ := by
  refine AM.of rfl (Nat.le_of_ble_eq_true rfl) ?_
  show AW Y 2 K_LP_write 0 [(0, .ref l0), (1, .int l1), (2, .int l2), (3, .long l3)] [] h (LP_write Y l0 l1 l2 l3 h) rZ
  unfold LP_write
  refine aw_aload_n (pc := 0) d_LP_write_0 rfl 0 rfl ?_
  refine aw_iload_n (pc := 1) d_LP_write_1 rfl 1 rfl ?_
  refine aw_cVpQ (pc := 2) (ci := 11) (T := TX11) (N := 18) (As := [.int l1]) (st := []) (ok_LP_trayAt Y l0 l1 h t0) okV_LP_trayAt rfl (by decide) t0 w3_71 d_LP_write_2 rfl (Nat.le_of_ble_eq_true rfl) rfl (Nat.le_of_ble_eq_true rfl) (fun q1 hq1 hTq1 => ?_)
  have tt2 := ty_LP_trayAt t0 hTq1 hq1
  refine aw_astoreQ (pc := 5) (lv' := [(5, va_rf q1), (0, .ref l0), (1, .int l1), (2, .int l2), (3, .long l3)]) d_LP_write_5 (by decide) rfl ?_
  refine aw_aloadQ (pc := 7) d_LP_write_7 0 rfl ?_
  refine aw_iload_n (pc := 9) d_LP_write_9 rfl 3 rfl ?_
  refine aw_cSpI (pc := 10) (As := [va_rf q1, .int l2]) (st := []) (ok_LP_whyNoPlace Y q1 l2 h tt2) okS_LP_whyNoPlace w3_94 d_LP_write_10 rfl (Nat.le_of_ble_eq_true rfl) rfl (Nat.le_of_ble_eq_true rfl) (fun q3 hq3 hTq3 => ?_)
  refine aw_istore (pc := 13) (lv' := [(6, .int q3), (5, va_rf q1), (0, .ref l0), (1, .int l1), (2, .int l2), (3, .long l3)]) d_LP_write_13 (by decide) (by cases q1 <;> rfl) ?_
  refine aw_aloadQ (pc := 15) d_LP_write_15 1 rfl ?_
  refine aw_ifnullQ (pc := 17) (tgt := 25) (x := q1) d_LP_write_17 (by decide) (fun e5 => ?_) (fun a4 e5 => ?_)
  · rw [e5]
    show AW _ _ _ _ [(6, .int q3), (5, .null), (0, .ref l0), (1, .int l1), (2, .int l2), (3, .long l3)] [] _ _ _
    refine aw_aload_n (pc := 25) d_LP_write_25 rfl 2 rfl ?_
    refine aw_iload (pc := 26) d_LP_write_26 0 rfl ?_
    refine aw_cVrZ (pc := 28) (ci := 11) (T := TX11) (N := 18) (As := [.int q3]) (st := []) (ok_LP_refuse Y l0 q3 h t0) okV_LP_refuse rfl (by decide) t0 w3_75 d_LP_write_28 rfl (Nat.le_of_ble_eq_true rfl) rfl (Nat.le_of_ble_eq_true rfl) (fun q6 hq6 hTq6 => ?_)
    exact aw_zreturn (pc := 31) (b := q6.1) d_LP_write_31 rfl rfl
  · rw [e5]
    show AW _ _ _ _ [(6, .int q3), (5, .ref a4), (0, .ref l0), (1, .int l1), (2, .int l2), (3, .long l3)] [] _ _ _
    refine aw_iload (pc := 20) d_LP_write_20 0 rfl ?_
    refine aw_if_eq (pc := 22) (tgt := 32) d_LP_write_22 (by decide) (fun c7 => ?_) (fun c7 => ?_)
    · refine aw_aload (pc := 32) d_LP_write_32 1 rfl ?_
      refine aw_iload_n (pc := 34) d_LP_write_34 rfl 4 rfl ?_
      refine aw_lload_n (pc := 35) d_LP_write_35 rfl 5 rfl ?_
      refine aw_cVrV (pc := 36) (ci := 8) (T := TX8) (N := 4) (As := [.int l2, .long l3]) (st := []) (ok_Tr_put Y a4 l2 l3 h (tt2 _ e5)) okV_Tr_put rfl (by decide) (tt2 _ e5) w3_101 d_LP_write_36 rfl (Nat.le_of_ble_eq_true rfl) rfl (Nat.le_of_ble_eq_true rfl) (fun q8 hq8 hTq8 => ?_)
      refine aw_aload_n (pc := 39) d_LP_write_39 rfl 2 rfl ?_
      refine aw_cVrZ (pc := 40) (ci := 11) (T := TX11) (N := 18) (As := []) (st := []) (ok_LP_agree Y l0 q8 t0) okV_LP_agree rfl (by decide) t0 w3_86 d_LP_write_40 rfl (Nat.le_of_ble_eq_true rfl) rfl (Nat.le_of_ble_eq_true rfl) (fun q9 hq9 hTq9 => ?_)
      exact aw_zreturn (pc := 43) (b := q9.1) d_LP_write_43 rfl rfl
    · refine aw_aload_n (pc := 25) d_LP_write_25 rfl 2 rfl ?_
      refine aw_iload (pc := 26) d_LP_write_26 0 rfl ?_
      refine aw_cVrZ (pc := 28) (ci := 11) (T := TX11) (N := 18) (As := [.int q3]) (st := []) (ok_LP_refuse Y l0 q3 h t0) okV_LP_refuse rfl (by decide) t0 w3_75 d_LP_write_28 rfl (Nat.le_of_ble_eq_true rfl) rfl (Nat.le_of_ble_eq_true rfl) (fun q10 hq10 hTq10 => ?_)
      exact aw_zreturn (pc := 31) (b := q10.1) d_LP_write_31 rfl rfl
