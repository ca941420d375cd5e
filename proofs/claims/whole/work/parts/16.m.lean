/-! LastPages.page(II)I -/
theorem d_LP_page_0 : decode prog_1_method_17_code 0 = .ok (.aload_n 0, 1) := by decide +kernel
theorem d_LP_page_1 : decode prog_1_method_17_code 1 = .ok (.getfield 68, 3) := by decide +kernel
theorem d_LP_page_4 : decode prog_1_method_17_code 4 = .ok (.iload_n 1, 1) := by decide +kernel
theorem d_LP_page_5 : decode prog_1_method_17_code 5 = .ok (.invokevirtual 255, 3) := by decide +kernel
theorem d_LP_page_8 : decode prog_1_method_17_code 8 = .ok (.ifCond .ne 9, 3) := by decide +kernel
theorem d_LP_page_11 : decode prog_1_method_17_code 11 = .ok (.aload_n 0, 1) := by decide +kernel
theorem d_LP_page_12 : decode prog_1_method_17_code 12 = .ok (.iconst 2, 1) := by decide +kernel
theorem d_LP_page_13 : decode prog_1_method_17_code 13 = .ok (.invokevirtual 133, 3) := by decide +kernel
theorem d_LP_page_16 : decode prog_1_method_17_code 16 = .ok (.ireturn, 1) := by decide +kernel
theorem d_LP_page_17 : decode prog_1_method_17_code 17 = .ok (.aload_n 0, 1) := by decide +kernel
theorem d_LP_page_18 : decode prog_1_method_17_code 18 = .ok (.aload_n 0, 1) := by decide +kernel
theorem d_LP_page_19 : decode prog_1_method_17_code 19 = .ok (.getfield 68, 3) := by decide +kernel
theorem d_LP_page_22 : decode prog_1_method_17_code 22 = .ok (.iload_n 1, 1) := by decide +kernel
theorem d_LP_page_23 : decode prog_1_method_17_code 23 = .ok (.iload_n 2, 1) := by decide +kernel
theorem d_LP_page_24 : decode prog_1_method_17_code 24 = .ok (.invokevirtual 276, 3) := by decide +kernel
theorem d_LP_page_27 : decode prog_1_method_17_code 27 = .ok (.invokevirtual 249, 3) := by decide +kernel
theorem d_LP_page_30 : decode prog_1_method_17_code 30 = .ok (.ireturn, 1) := by decide +kernel
def LP_page (Y : Ly) (l0 : Nat) (l1 : Int32) (l2 : Int32) (h : Hp) : Option (Int32 × Hp) :=
  (Sh_hasBook Y (hGr h 1109 l0) l1 h).bind fun q2 =>
  if q2 = true then
    (Sh_turnOnPage Y (hGr h 1109 l0) l1 l2 h).bind fun q5 =>
    (LP_giveIfAny Y l0 q5 h).bind fun q6 =>
    some (q6.1, q6.2)
  else
    (LP_fail Y l0 2 h).bind fun q7 =>
    some (q7.1, q7.2)
theorem ok_LP_page (Y : Ly) (l0 : Nat) (l1 : Int32) (l2 : Int32) (h : Hp) (t0 : isO Y 11 l0) : AM Y 2 K_LP_page [.ref l0, .int l1, .int l2] h (LP_page Y l0 l1 l2 h) rI := by
  refine AM.of rfl (Nat.le_of_ble_eq_true rfl) ?_
  show AW Y 2 K_LP_page 0 [(0, .ref l0), (1, .int l1), (2, .int l2)] [] h (LP_page Y l0 l1 l2 h) rI
  unfold LP_page
  refine aw_aload_n (pc := 0) d_LP_page_0 rfl 0 rfl ?_
  refine gt_1109 (pc := 1) d_LP_page_1 w3_9 t0 (fun tt1 => ?_)
  refine aw_iload_n (pc := 4) d_LP_page_4 rfl 1 rfl ?_
  refine aw_cVpZ (pc := 5) (ci := 4) (T := TX4) (N := 19) (As := [.int l1]) (st := []) (ok_Sh_hasBook Y (hGr h 1109 l0) l1 h tt1) okV_Sh_hasBook rfl (by decide) tt1 w4_199 d_LP_page_5 rfl (Nat.le_of_ble_eq_true rfl) rfl (Nat.le_of_ble_eq_true rfl) (fun q2 hq2 hTq2 => ?_)
  refine aw_bne (pc := 8) (tgt := 17) d_LP_page_8 (by decide) (fun c3 => ?_) (fun c3 => ?_)
  · refine aw_aload_n (pc := 17) d_LP_page_17 rfl 0 rfl ?_
    refine aw_aload_n (pc := 18) d_LP_page_18 rfl 0 rfl ?_
    refine gt_1109 (pc := 19) d_LP_page_19 w3_9 t0 (fun tt4 => ?_)
    refine aw_iload_n (pc := 22) d_LP_page_22 rfl 1 rfl ?_
    refine aw_iload_n (pc := 23) d_LP_page_23 rfl 2 rfl ?_
    refine aw_cVpI (pc := 24) (ci := 4) (T := TX4) (N := 19) (As := [.int l1, .int l2]) (st := [.ref l0]) (ok_Sh_turnOnPage Y (hGr h 1109 l0) l1 l2 h tt4) okV_Sh_turnOnPage rfl (by decide) tt4 w4_214 d_LP_page_24 rfl (Nat.le_of_ble_eq_true rfl) rfl (Nat.le_of_ble_eq_true rfl) (fun q5 hq5 hTq5 => ?_)
    refine aw_cVrI (pc := 27) (ci := 11) (T := TX11) (N := 18) (As := [.int q5]) (st := []) (ok_LP_giveIfAny Y l0 q5 h t0) okV_LP_giveIfAny rfl (by decide) t0 w4_183 d_LP_page_27 rfl (Nat.le_of_ble_eq_true rfl) rfl (Nat.le_of_ble_eq_true rfl) (fun q6 hq6 hTq6 => ?_)
    exact aw_ireturn (pc := 30) d_LP_page_30 rfl rfl
  · refine aw_aload_n (pc := 11) d_LP_page_11 rfl 0 rfl ?_
    refine aw_iconst (pc := 12) (x := 2) d_LP_page_12 (by decide) ?_
    refine aw_cVrI (pc := 13) (ci := 11) (T := TX11) (N := 18) (As := [.int 2]) (st := []) (ok_LP_fail Y l0 2 h t0) okV_LP_fail rfl (by decide) t0 w3_114 d_LP_page_13 rfl (Nat.le_of_ble_eq_true rfl) rfl (Nat.le_of_ble_eq_true rfl) (fun q7 hq7 hTq7 => ?_)
    exact aw_ireturn (pc := 16) d_LP_page_16 rfl rfl
/-! LastPages.pour(IIIII)Z -/
theorem d_LP_pour_0 : decode prog_1_method_8_code 0 = .ok (.aload_n 0, 1) := by decide +kernel
theorem d_LP_pour_1 : decode prog_1_method_8_code 1 = .ok (.iload_n 1, 1) := by decide +kernel
theorem d_LP_pour_2 : decode prog_1_method_8_code 2 = .ok (.invokevirtual 109, 3) := by decide +kernel
theorem d_LP_pour_5 : decode prog_1_method_8_code 5 = .ok (.astore 6, 2) := by decide +kernel
theorem d_LP_pour_7 : decode prog_1_method_8_code 7 = .ok (.aload_n 0, 1) := by decide +kernel
theorem d_LP_pour_8 : decode prog_1_method_8_code 8 = .ok (.iload_n 3, 1) := by decide +kernel
theorem d_LP_pour_9 : decode prog_1_method_8_code 9 = .ok (.invokevirtual 109, 3) := by decide +kernel
theorem d_LP_pour_12 : decode prog_1_method_8_code 12 = .ok (.astore 7, 2) := by decide +kernel
theorem d_LP_pour_14 : decode prog_1_method_8_code 14 = .ok (.aload 6, 2) := by decide +kernel
theorem d_LP_pour_16 : decode prog_1_method_8_code 16 = .ok (.ifnull 8, 3) := by decide +kernel
theorem d_LP_pour_19 : decode prog_1_method_8_code 19 = .ok (.aload 7, 2) := by decide +kernel
theorem d_LP_pour_21 : decode prog_1_method_8_code 21 = .ok (.ifnonnull 9, 3) := by decide +kernel
theorem d_LP_pour_24 : decode prog_1_method_8_code 24 = .ok (.aload_n 0, 1) := by decide +kernel
theorem d_LP_pour_25 : decode prog_1_method_8_code 25 = .ok (.iconst 1, 1) := by decide +kernel
theorem d_LP_pour_26 : decode prog_1_method_8_code 26 = .ok (.invokevirtual 113, 3) := by decide +kernel
theorem d_LP_pour_29 : decode prog_1_method_8_code 29 = .ok (.ireturn, 1) := by decide +kernel
theorem d_LP_pour_30 : decode prog_1_method_8_code 30 = .ok (.aload 6, 2) := by decide +kernel
theorem d_LP_pour_32 : decode prog_1_method_8_code 32 = .ok (.getfield 141, 3) := by decide +kernel
theorem d_LP_pour_35 : decode prog_1_method_8_code 35 = .ok (.ifCond .eq 11, 3) := by decide +kernel
theorem d_LP_pour_38 : decode prog_1_method_8_code 38 = .ok (.aload 7, 2) := by decide +kernel
theorem d_LP_pour_40 : decode prog_1_method_8_code 40 = .ok (.getfield 141, 3) := by decide +kernel
theorem d_LP_pour_43 : decode prog_1_method_8_code 43 = .ok (.ifCond .ne 9, 3) := by decide +kernel
theorem d_LP_pour_46 : decode prog_1_method_8_code 46 = .ok (.aload_n 0, 1) := by decide +kernel
theorem d_LP_pour_47 : decode prog_1_method_8_code 47 = .ok (.iconst 3, 1) := by decide +kernel
theorem d_LP_pour_48 : decode prog_1_method_8_code 48 = .ok (.invokevirtual 113, 3) := by decide +kernel
theorem d_LP_pour_51 : decode prog_1_method_8_code 51 = .ok (.ireturn, 1) := by decide +kernel
theorem d_LP_pour_52 : decode prog_1_method_8_code 52 = .ok (.aload 6, 2) := by decide +kernel
theorem d_LP_pour_54 : decode prog_1_method_8_code 54 = .ok (.getfield 145, 3) := by decide +kernel
theorem d_LP_pour_57 : decode prog_1_method_8_code 57 = .ok (.aload 7, 2) := by decide +kernel
theorem d_LP_pour_59 : decode prog_1_method_8_code 59 = .ok (.getfield 145, 3) := by decide +kernel
theorem d_LP_pour_62 : decode prog_1_method_8_code 62 = .ok (.if_icmp .eq 10, 3) := by decide +kernel
theorem d_LP_pour_65 : decode prog_1_method_8_code 65 = .ok (.aload_n 0, 1) := by decide +kernel
theorem d_LP_pour_66 : decode prog_1_method_8_code 66 = .ok (.bipush 11, 2) := by decide +kernel
theorem d_LP_pour_68 : decode prog_1_method_8_code 68 = .ok (.invokevirtual 113, 3) := by decide +kernel
theorem d_LP_pour_71 : decode prog_1_method_8_code 71 = .ok (.ireturn, 1) := by decide +kernel
theorem d_LP_pour_72 : decode prog_1_method_8_code 72 = .ok (.iload 5, 2) := by decide +kernel
theorem d_LP_pour_74 : decode prog_1_method_8_code 74 = .ok (.ifCond .ge 10, 3) := by decide +kernel
theorem d_LP_pour_77 : decode prog_1_method_8_code 77 = .ok (.aload_n 0, 1) := by decide +kernel
theorem d_LP_pour_78 : decode prog_1_method_8_code 78 = .ok (.bipush 6, 2) := by decide +kernel
theorem d_LP_pour_80 : decode prog_1_method_8_code 80 = .ok (.invokevirtual 113, 3) := by decide +kernel
theorem d_LP_pour_83 : decode prog_1_method_8_code 83 = .ok (.ireturn, 1) := by decide +kernel
theorem d_LP_pour_84 : decode prog_1_method_8_code 84 = .ok (.aload 6, 2) := by decide +kernel
theorem d_LP_pour_86 : decode prog_1_method_8_code 86 = .ok (.iload_n 2, 1) := by decide +kernel
theorem d_LP_pour_87 : decode prog_1_method_8_code 87 = .ok (.iload 5, 2) := by decide +kernel
theorem d_LP_pour_89 : decode prog_1_method_8_code 89 = .ok (.invokevirtual 148, 3) := by decide +kernel
theorem d_LP_pour_92 : decode prog_1_method_8_code 92 = .ok (.ifCond .eq 15, 3) := by decide +kernel
theorem d_LP_pour_95 : decode prog_1_method_8_code 95 = .ok (.aload 7, 2) := by decide +kernel
theorem d_LP_pour_97 : decode prog_1_method_8_code 97 = .ok (.iload 4, 2) := by decide +kernel
theorem d_LP_pour_99 : decode prog_1_method_8_code 99 = .ok (.iload 5, 2) := by decide +kernel
theorem d_LP_pour_101 : decode prog_1_method_8_code 101 = .ok (.invokevirtual 148, 3) := by decide +kernel
theorem d_LP_pour_104 : decode prog_1_method_8_code 104 = .ok (.ifCond .ne 9, 3) := by decide +kernel
theorem d_LP_pour_107 : decode prog_1_method_8_code 107 = .ok (.aload_n 0, 1) := by decide +kernel
theorem d_LP_pour_108 : decode prog_1_method_8_code 108 = .ok (.iconst 4, 1) := by decide +kernel
theorem d_LP_pour_109 : decode prog_1_method_8_code 109 = .ok (.invokevirtual 113, 3) := by decide +kernel
theorem d_LP_pour_112 : decode prog_1_method_8_code 112 = .ok (.ireturn, 1) := by decide +kernel
theorem d_LP_pour_113 : decode prog_1_method_8_code 113 = .ok (.aload 6, 2) := by decide +kernel
theorem d_LP_pour_115 : decode prog_1_method_8_code 115 = .ok (.getfield 152, 3) := by decide +kernel
theorem d_LP_pour_118 : decode prog_1_method_8_code 118 = .ok (.iload_n 2, 1) := by decide +kernel
theorem d_LP_pour_119 : decode prog_1_method_8_code 119 = .ok (.aload 7, 2) := by decide +kernel
theorem d_LP_pour_121 : decode prog_1_method_8_code 121 = .ok (.getfield 152, 3) := by decide +kernel
theorem d_LP_pour_124 : decode prog_1_method_8_code 124 = .ok (.iload 4, 2) := by decide +kernel
theorem d_LP_pour_126 : decode prog_1_method_8_code 126 = .ok (.iload 5, 2) := by decide +kernel
theorem d_LP_pour_128 : decode prog_1_method_8_code 128 = .ok (.invokestatic 156, 3) := by decide +kernel
theorem d_LP_pour_131 : decode prog_1_method_8_code 131 = .ok (.aload_n 0, 1) := by decide +kernel
theorem d_LP_pour_132 : decode prog_1_method_8_code 132 = .ok (.invokevirtual 121, 3) := by decide +kernel
theorem d_LP_pour_135 : decode prog_1_method_8_code 135 = .ok (.ireturn, 1) := by decide +kernel
def LP_pour (Y : Ly) (l0 : Nat) (l1 : Int32) (l2 : Int32) (l3 : Int32) (l4 : Int32) (l5 : Int32) (h : Hp) : Option (Bool × Hp) :=
  (LP_trayAt Y l0 l1 h).bind fun q1 =>
  (LP_trayAt Y l0 l3 h).bind fun q3 =>
  match q1 with
  | none =>
      (LP_refuse Y l0 1 h).bind fun q7 =>
      some (q7.1, q7.2)
  | some a5 =>
      match q3 with
      | none =>
          (LP_refuse Y l0 1 h).bind fun q10 =>
          some (q10.1, q10.2)
      | some a8 =>
          if (hGz h 801 a5) = true then
            if (hGz h 801 a8) = true then
              if (hGi h 802 a5) = (hGi h 802 a8) then
                if 0 ≤ l5 then
                  (Tr_hasAll Y a5 l2 l5 h).bind fun q15 =>
                  if q15 = true then
                    (Tr_hasAll Y a8 l4 l5 h).bind fun q17 =>
                    if q17 = true then
                      if cpB l2 l4 l5 (lnY Y (hGr h 800 a5)) (lnY Y (hGr h 800 a8)) = true then
                        letH (hCl h (hGr h 800 a5) (Int32.toNatClampNeg l2) (hGr h 800 a8) (Int32.toNatClampNeg l4) (Int32.toNatClampNeg l5)) fun h21 =>
                        (LP_agree Y l0 h21).bind fun q22 =>
                        some (q22.1, q22.2)
                      else none
                    else
                      (LP_refuse Y l0 4 h).bind fun q23 =>
                      some (q23.1, q23.2)
                  else
                    (LP_refuse Y l0 4 h).bind fun q24 =>
                    some (q24.1, q24.2)
                else
                  (LP_refuse Y l0 6 h).bind fun q25 =>
                  some (q25.1, q25.2)
              else
                (LP_refuse Y l0 11 h).bind fun q26 =>
                some (q26.1, q26.2)
            else
              (LP_refuse Y l0 3 h).bind fun q27 =>
              some (q27.1, q27.2)
          else
            (LP_refuse Y l0 3 h).bind fun q28 =>
            some (q28.1, q28.2)
theorem ok_LP_pour (Y : Ly) (l0 : Nat) (l1 : Int32) (l2 : Int32) (l3 : Int32) (l4 : Int32) (l5 : Int32) (h : Hp) (t0 : isO Y 11 l0) : AM Y 1 K_LP_pour [.ref l0, .int l1, .int l2, .int l3, .int l4, .int l5] h (LP_pour Y l0 l1 l2 l3 l4 l5 h) rZ := by
  refine AM.of rfl (Nat.le_of_ble_eq_true rfl) ?_
  show AW Y 1 K_LP_pour 0 [(0, .ref l0), (1, .int l1), (2, .int l2), (3, .int l3), (4, .int l4), (5, .int l5)] [] h (LP_pour Y l0 l1 l2 l3 l4 l5 h) rZ
  unfold LP_pour
  refine aw_aload_n (pc := 0) d_LP_pour_0 rfl 0 rfl ?_
  refine aw_iload_n (pc := 1) d_LP_pour_1 rfl 1 rfl ?_
  refine aw_cVpQ (pc := 2) (ci := 11) (T := TX11) (N := 18) (As := [.int l1]) (st := []) (ok_LP_trayAt Y l0 l1 h t0) okV_LP_trayAt rfl (by decide) t0 w3_71 d_LP_pour_2 rfl (Nat.le_of_ble_eq_true rfl) rfl (Nat.le_of_ble_eq_true rfl) (fun q1 hq1 hTq1 => ?_)
  have tt2 := ty_LP_trayAt t0 hTq1 hq1
  refine aw_astoreQ (pc := 5) (lv' := [(6, va_rf q1), (0, .ref l0), (1, .int l1), (2, .int l2), (3, .int l3), (4, .int l4), (5, .int l5)]) d_LP_pour_5 (by decide) rfl ?_
  refine aw_aload_n (pc := 7) d_LP_pour_7 rfl 1 rfl ?_
  refine aw_iload_n (pc := 8) d_LP_pour_8 rfl 4 rfl ?_
  refine aw_cVpQ (pc := 9) (ci := 11) (T := TX11) (N := 18) (As := [.int l3]) (st := []) (ok_LP_trayAt Y l0 l3 h t0) okV_LP_trayAt rfl (by decide) t0 w3_71 d_LP_pour_9 rfl (Nat.le_of_ble_eq_true rfl) rfl (Nat.le_of_ble_eq_true rfl) (fun q3 hq3 hTq3 => ?_)
  have tt4 := ty_LP_trayAt t0 hTq3 hq3
  refine aw_astoreQ (pc := 12) (lv' := [(7, va_rf q3), (6, va_rf q1), (0, .ref l0), (1, .int l1), (2, .int l2), (3, .int l3), (4, .int l4), (5, .int l5)]) d_LP_pour_12 (by decide) (by cases q1 <;> rfl) ?_
  refine aw_aloadQ (pc := 14) d_LP_pour_14 1 rfl ?_
  refine aw_ifnullQ (pc := 16) (tgt := 24) (x := q1) d_LP_pour_16 (by decide) (fun e6 => ?_) (fun a5 e6 => ?_)
  · rw [e6]
    show AW _ _ _ _ [(7, va_rf q3), (6, .null), (0, .ref l0), (1, .int l1), (2, .int l2), (3, .int l3), (4, .int l4), (5, .int l5)] [] _ _ _
    refine aw_aload_n (pc := 24) d_LP_pour_24 rfl 2 rfl ?_
    refine aw_iconst (pc := 25) (x := 1) d_LP_pour_25 (by decide) ?_
    refine aw_cVrZ (pc := 26) (ci := 11) (T := TX11) (N := 18) (As := [.int 1]) (st := []) (ok_LP_refuse Y l0 1 h t0) okV_LP_refuse rfl (by decide) t0 w3_75 d_LP_pour_26 rfl (Nat.le_of_ble_eq_true rfl) rfl (Nat.le_of_ble_eq_true rfl) (fun q7 hq7 hTq7 => ?_)
    exact aw_zreturn (pc := 29) (b := q7.1) d_LP_pour_29 rfl rfl
  · rw [e6]
    show AW _ _ _ _ [(7, va_rf q3), (6, .ref a5), (0, .ref l0), (1, .int l1), (2, .int l2), (3, .int l3), (4, .int l4), (5, .int l5)] [] _ _ _
    refine aw_aloadQ (pc := 19) d_LP_pour_19 0 rfl ?_
    refine aw_ifnonnullQ (pc := 21) (tgt := 30) (x := q3) d_LP_pour_21 (by decide) (fun e9 => ?_) (fun a8 e9 => ?_)
    · rw [e9]
      show AW _ _ _ _ [(7, .null), (6, .ref a5), (0, .ref l0), (1, .int l1), (2, .int l2), (3, .int l3), (4, .int l4), (5, .int l5)] [] _ _ _
      refine aw_aload_n (pc := 24) d_LP_pour_24 rfl 2 rfl ?_
      refine aw_iconst (pc := 25) (x := 1) d_LP_pour_25 (by decide) ?_
      refine aw_cVrZ (pc := 26) (ci := 11) (T := TX11) (N := 18) (As := [.int 1]) (st := []) (ok_LP_refuse Y l0 1 h t0) okV_LP_refuse rfl (by decide) t0 w3_75 d_LP_pour_26 rfl (Nat.le_of_ble_eq_true rfl) rfl (Nat.le_of_ble_eq_true rfl) (fun q10 hq10 hTq10 => ?_)
      exact aw_zreturn (pc := 29) (b := q10.1) d_LP_pour_29 rfl rfl
    · rw [e9]
      show AW _ _ _ _ [(7, .ref a8), (6, .ref a5), (0, .ref l0), (1, .int l1), (2, .int l2), (3, .int l3), (4, .int l4), (5, .int l5)] [] _ _ _
      refine aw_aload (pc := 30) d_LP_pour_30 1 rfl ?_
      refine gt_801 (pc := 32) d_LP_pour_32 w2_223 (tt2 _ e6) ?_
      refine aw_beq (pc := 35) (tgt := 46) d_LP_pour_35 (by decide) (fun c11 => ?_) (fun c11 => ?_)
      · refine aw_aload (pc := 38) d_LP_pour_38 0 rfl ?_
        refine gt_801 (pc := 40) d_LP_pour_40 w2_223 (tt4 _ e9) ?_
        refine aw_bne (pc := 43) (tgt := 52) d_LP_pour_43 (by decide) (fun c12 => ?_) (fun c12 => ?_)
        · refine aw_aload (pc := 52) d_LP_pour_52 1 rfl ?_
          refine gt_802 (pc := 54) d_LP_pour_54 w2_225 (tt2 _ e6) ?_
          refine aw_aload (pc := 57) d_LP_pour_57 0 rfl ?_
          refine gt_802 (pc := 59) d_LP_pour_59 w2_225 (tt4 _ e9) ?_
          refine aw_icmp_eq (pc := 62) (tgt := 72) d_LP_pour_62 (by decide) (fun c13 => ?_) (fun c13 => ?_)
          · refine aw_iload (pc := 72) d_LP_pour_72 7 rfl ?_
            refine aw_if_ge (pc := 74) (tgt := 84) d_LP_pour_74 (by decide) (fun c14 => ?_) (fun c14 => ?_)
            · refine aw_aload (pc := 84) d_LP_pour_84 1 rfl ?_
              refine aw_iload_n (pc := 86) d_LP_pour_86 rfl 4 rfl ?_
              refine aw_iload (pc := 87) d_LP_pour_87 7 rfl ?_
              refine aw_cVpZ (pc := 89) (ci := 8) (T := TX8) (N := 4) (As := [.int l2, .int l5]) (st := []) (ok_Tr_hasAll Y a5 l2 l5 h (tt2 _ e6)) okV_Tr_hasAll rfl (by decide) (tt2 _ e6) w3_97 d_LP_pour_89 rfl (Nat.le_of_ble_eq_true rfl) rfl (Nat.le_of_ble_eq_true rfl) (fun q15 hq15 hTq15 => ?_)
              refine aw_beq (pc := 92) (tgt := 107) d_LP_pour_92 (by decide) (fun c16 => ?_) (fun c16 => ?_)
              · refine aw_aload (pc := 95) d_LP_pour_95 0 rfl ?_
                refine aw_iload (pc := 97) d_LP_pour_97 6 rfl ?_
                refine aw_iload (pc := 99) d_LP_pour_99 7 rfl ?_
                refine aw_cVpZ (pc := 101) (ci := 8) (T := TX8) (N := 4) (As := [.int l4, .int l5]) (st := []) (ok_Tr_hasAll Y a8 l4 l5 h (tt4 _ e9)) okV_Tr_hasAll rfl (by decide) (tt4 _ e9) w3_97 d_LP_pour_101 rfl (Nat.le_of_ble_eq_true rfl) rfl (Nat.le_of_ble_eq_true rfl) (fun q17 hq17 hTq17 => ?_)
                refine aw_bne (pc := 104) (tgt := 113) d_LP_pour_104 (by decide) (fun c18 => ?_) (fun c18 => ?_)
                · refine aw_aload (pc := 113) d_LP_pour_113 1 rfl ?_
                  refine gt_800 (pc := 115) d_LP_pour_115 w2_221 (tt2 _ e6) (fun tt19 => ?_)
                  refine aw_iload_n (pc := 118) d_LP_pour_118 rfl 4 rfl ?_
                  refine aw_aload (pc := 119) d_LP_pour_119 0 rfl ?_
                  refine gt_800 (pc := 121) d_LP_pour_121 w2_221 (tt4 _ e9) (fun tt20 => ?_)
                  refine aw_iload (pc := 124) d_LP_pour_124 6 rfl ?_
                  refine aw_iload (pc := 126) d_LP_pour_126 7 rfl ?_
                  refine aw_copyl (pc := 128) d_LP_pour_128 w3_127 w3_129 w3_128 w1_20 tt19 tt20 (Nat.le_of_ble_eq_true rfl) (Nat.le_of_ble_eq_true rfl) ?_
                  refine aw_letH (fun h21 => ?_)
                  refine aw_aload_n (pc := 131) d_LP_pour_131 rfl 2 rfl ?_
                  refine aw_cVrZ (pc := 132) (ci := 11) (T := TX11) (N := 18) (As := []) (st := []) (ok_LP_agree Y l0 h21 t0) okV_LP_agree rfl (by decide) t0 w3_86 d_LP_pour_132 rfl (Nat.le_of_ble_eq_true rfl) rfl (Nat.le_of_ble_eq_true rfl) (fun q22 hq22 hTq22 => ?_)
                  exact aw_zreturn (pc := 135) (b := q22.1) d_LP_pour_135 rfl rfl
                · refine aw_aload_n (pc := 107) d_LP_pour_107 rfl 2 rfl ?_
                  refine aw_iconst (pc := 108) (x := 4) d_LP_pour_108 (by decide) ?_
                  refine aw_cVrZ (pc := 109) (ci := 11) (T := TX11) (N := 18) (As := [.int 4]) (st := []) (ok_LP_refuse Y l0 4 h t0) okV_LP_refuse rfl (by decide) t0 w3_75 d_LP_pour_109 rfl (Nat.le_of_ble_eq_true rfl) rfl (Nat.le_of_ble_eq_true rfl) (fun q23 hq23 hTq23 => ?_)
                  exact aw_zreturn (pc := 112) (b := q23.1) d_LP_pour_112 rfl rfl
              · refine aw_aload_n (pc := 107) d_LP_pour_107 rfl 2 rfl ?_
                refine aw_iconst (pc := 108) (x := 4) d_LP_pour_108 (by decide) ?_
                refine aw_cVrZ (pc := 109) (ci := 11) (T := TX11) (N := 18) (As := [.int 4]) (st := []) (ok_LP_refuse Y l0 4 h t0) okV_LP_refuse rfl (by decide) t0 w3_75 d_LP_pour_109 rfl (Nat.le_of_ble_eq_true rfl) rfl (Nat.le_of_ble_eq_true rfl) (fun q24 hq24 hTq24 => ?_)
                exact aw_zreturn (pc := 112) (b := q24.1) d_LP_pour_112 rfl rfl
            · refine aw_aload_n (pc := 77) d_LP_pour_77 rfl 2 rfl ?_
              refine aw_bipush (pc := 78) (x := 6) d_LP_pour_78 (by decide) ?_
              refine aw_cVrZ (pc := 80) (ci := 11) (T := TX11) (N := 18) (As := [.int 6]) (st := []) (ok_LP_refuse Y l0 6 h t0) okV_LP_refuse rfl (by decide) t0 w3_75 d_LP_pour_80 rfl (Nat.le_of_ble_eq_true rfl) rfl (Nat.le_of_ble_eq_true rfl) (fun q25 hq25 hTq25 => ?_)
              exact aw_zreturn (pc := 83) (b := q25.1) d_LP_pour_83 rfl rfl
          · refine aw_aload_n (pc := 65) d_LP_pour_65 rfl 2 rfl ?_
            refine aw_bipush (pc := 66) (x := 11) d_LP_pour_66 (by decide) ?_
            refine aw_cVrZ (pc := 68) (ci := 11) (T := TX11) (N := 18) (As := [.int 11]) (st := []) (ok_LP_refuse Y l0 11 h t0) okV_LP_refuse rfl (by decide) t0 w3_75 d_LP_pour_68 rfl (Nat.le_of_ble_eq_true rfl) rfl (Nat.le_of_ble_eq_true rfl) (fun q26 hq26 hTq26 => ?_)
            exact aw_zreturn (pc := 71) (b := q26.1) d_LP_pour_71 rfl rfl
        · refine aw_aload_n (pc := 46) d_LP_pour_46 rfl 2 rfl ?_
          refine aw_iconst (pc := 47) (x := 3) d_LP_pour_47 (by decide) ?_
          refine aw_cVrZ (pc := 48) (ci := 11) (T := TX11) (N := 18) (As := [.int 3]) (st := []) (ok_LP_refuse Y l0 3 h t0) okV_LP_refuse rfl (by decide) t0 w3_75 d_LP_pour_48 rfl (Nat.le_of_ble_eq_true rfl) rfl (Nat.le_of_ble_eq_true rfl) (fun q27 hq27 hTq27 => ?_)
          exact aw_zreturn (pc := 51) (b := q27.1) d_LP_pour_51 rfl rfl
      · refine aw_aload_n (pc := 46) d_LP_pour_46 rfl 2 rfl ?_
        refine aw_iconst (pc := 47) (x := 3) d_LP_pour_47 (by decide) ?_
        refine aw_cVrZ (pc := 48) (ci := 11) (T := TX11) (N := 18) (As := [.int 3]) (st := []) (ok_LP_refuse Y l0 3 h t0) okV_LP_refuse rfl (by decide) t0 w3_75 d_LP_pour_48 rfl (Nat.le_of_ble_eq_true rfl) rfl (Nat.le_of_ble_eq_true rfl) (fun q28 hq28 hTq28 => ?_)
        exact aw_zreturn (pc := 51) (b := q28.1) d_LP_pour_51 rfl rfl
/-! LastPages.whyNoPlace(LLastPages$Tray;I)I -/
theorem d_LP_whyNoPlace_0 : decode prog_1_method_69_code 0 = .ok (.aload_n 0, 1) := by decide +kernel
theorem d_LP_whyNoPlace_1 : decode prog_1_method_69_code 1 = .ok (.ifnonnull 5, 3) := by decide +kernel
theorem d_LP_whyNoPlace_4 : decode prog_1_method_69_code 4 = .ok (.iconst 1, 1) := by decide +kernel
theorem d_LP_whyNoPlace_5 : decode prog_1_method_69_code 5 = .ok (.ireturn, 1) := by decide +kernel
theorem d_LP_whyNoPlace_6 : decode prog_1_method_69_code 6 = .ok (.aload_n 0, 1) := by decide +kernel
theorem d_LP_whyNoPlace_7 : decode prog_1_method_69_code 7 = .ok (.getfield 141, 3) := by decide +kernel
theorem d_LP_whyNoPlace_10 : decode prog_1_method_69_code 10 = .ok (.ifCond .ne 5, 3) := by decide +kernel
theorem d_LP_whyNoPlace_13 : decode prog_1_method_69_code 13 = .ok (.iconst 3, 1) := by decide +kernel
theorem d_LP_whyNoPlace_14 : decode prog_1_method_69_code 14 = .ok (.ireturn, 1) := by decide +kernel
theorem d_LP_whyNoPlace_15 : decode prog_1_method_69_code 15 = .ok (.aload_n 0, 1) := by decide +kernel
theorem d_LP_whyNoPlace_16 : decode prog_1_method_69_code 16 = .ok (.iload_n 1, 1) := by decide +kernel
theorem d_LP_whyNoPlace_17 : decode prog_1_method_69_code 17 = .ok (.iconst 1, 1) := by decide +kernel
theorem d_LP_whyNoPlace_18 : decode prog_1_method_69_code 18 = .ok (.invokevirtual 148, 3) := by decide +kernel
theorem d_LP_whyNoPlace_21 : decode prog_1_method_69_code 21 = .ok (.ifCond .eq 7, 3) := by decide +kernel
theorem d_LP_whyNoPlace_24 : decode prog_1_method_69_code 24 = .ok (.iconst 0, 1) := by decide +kernel
theorem d_LP_whyNoPlace_25 : decode prog_1_method_69_code 25 = .ok (.goto 4, 3) := by decide +kernel
theorem d_LP_whyNoPlace_28 : decode prog_1_method_69_code 28 = .ok (.iconst 4, 1) := by decide +kernel
theorem d_LP_whyNoPlace_29 : decode prog_1_method_69_code 29 = .ok (.ireturn, 1) := by decide +kernel
def LP_whyNoPlace (Y : Ly) (l0 : Option Nat) (l1 : Int32) (h : Hp) : Option Int32 :=
  match l0 with
  | none =>
      some 1
  | some a1 =>
      if (hGz h 801 a1) = true then
        (Tr_hasAll Y a1 l1 1 h).bind fun q4 =>
        if q4 = true then
          some 0
        else
          some 4
      else
        some 3
theorem ok_LP_whyNoPlace (Y : Ly) (l0 : Option Nat) (l1 : Int32) (h : Hp) (t0 : ∀ a, l0 = some a → isO Y 8 a) : AM Y 1 K_LP_whyNoPlace [va_rf l0, .int l1] h (LP_whyNoPlace Y l0 l1 h) (pI h) := by
  refine AM.of rfl (by cases l0 <;> exact Nat.le_of_ble_eq_true rfl) ?_
  rw [show lv_args 0 [va_rf l0, .int l1] = [(0, va_rf l0), (1, .int l1)] by cases l0 <;> rfl]
  show AW Y 1 K_LP_whyNoPlace 0 [(0, va_rf l0), (1, .int l1)] [] h (LP_whyNoPlace Y l0 l1 h) (pI h)
  unfold LP_whyNoPlace
  refine aw_aload_nQ (pc := 0) d_LP_whyNoPlace_0 rfl 0 rfl ?_
  refine aw_ifnonnullQ (pc := 1) (tgt := 6) (x := l0) d_LP_whyNoPlace_1 (by decide) (fun e2 => ?_) (fun a1 e2 => ?_)
  · rw [e2]
    show AW _ _ _ _ [(0, .null), (1, .int l1)] [] _ _ _
    refine aw_iconst (pc := 4) (x := 1) d_LP_whyNoPlace_4 (by decide) ?_
    exact aw_ireturn (pc := 5) d_LP_whyNoPlace_5 rfl rfl
  · rw [e2]
    show AW _ _ _ _ [(0, .ref a1), (1, .int l1)] [] _ _ _
    refine aw_aload_n (pc := 6) d_LP_whyNoPlace_6 rfl 0 rfl ?_
    refine gt_801 (pc := 7) d_LP_whyNoPlace_7 w2_223 (t0 _ e2) ?_
    refine aw_bne (pc := 10) (tgt := 15) d_LP_whyNoPlace_10 (by decide) (fun c3 => ?_) (fun c3 => ?_)
    · refine aw_aload_n (pc := 15) d_LP_whyNoPlace_15 rfl 0 rfl ?_
      refine aw_iload_n (pc := 16) d_LP_whyNoPlace_16 rfl 1 rfl ?_
      refine aw_iconst (pc := 17) (x := 1) d_LP_whyNoPlace_17 (by decide) ?_
      refine aw_cVpZ (pc := 18) (ci := 8) (T := TX8) (N := 4) (As := [.int l1, .int 1]) (st := []) (ok_Tr_hasAll Y a1 l1 1 h (t0 _ e2)) okV_Tr_hasAll rfl (by decide) (t0 _ e2) w3_97 d_LP_whyNoPlace_18 rfl (Nat.le_of_ble_eq_true rfl) rfl (Nat.le_of_ble_eq_true rfl) (fun q4 hq4 hTq4 => ?_)
      refine aw_beq (pc := 21) (tgt := 28) d_LP_whyNoPlace_21 (by decide) (fun c5 => ?_) (fun c5 => ?_)
      · refine aw_iconst (pc := 24) (x := 0) d_LP_whyNoPlace_24 (by decide) ?_
        refine aw_goto (pc := 25) (tgt := 29) d_LP_whyNoPlace_25 (by decide) ?_
        exact aw_ireturn (pc := 29) d_LP_whyNoPlace_29 rfl rfl
      · refine aw_iconst (pc := 28) (x := 4) d_LP_whyNoPlace_28 (by decide) ?_
        exact aw_ireturn (pc := 29) d_LP_whyNoPlace_29 rfl rfl
    · refine aw_iconst (pc := 13) (x := 3) d_LP_whyNoPlace_13 (by decide) ?_
      exact aw_ireturn (pc := 14) d_LP_whyNoPlace_14 rfl rfl
/-! LastPages.read(II)J -/
theorem d_LP_read_0 : decode prog_1_method_7_code 0 = .ok (.aload_n 0, 1) := by decide +kernel
theorem d_LP_read_1 : decode prog_1_method_7_code 1 = .ok (.iload_n 1, 1) := by decide +kernel
theorem d_LP_read_2 : decode prog_1_method_7_code 2 = .ok (.invokevirtual 109, 3) := by decide +kernel
theorem d_LP_read_5 : decode prog_1_method_7_code 5 = .ok (.astore_n 3, 1) := by decide +kernel
theorem d_LP_read_6 : decode prog_1_method_7_code 6 = .ok (.aload_n 3, 1) := by decide +kernel
theorem d_LP_read_7 : decode prog_1_method_7_code 7 = .ok (.iload_n 2, 1) := by decide +kernel
theorem d_LP_read_8 : decode prog_1_method_7_code 8 = .ok (.invokestatic 125, 3) := by decide +kernel
theorem d_LP_read_11 : decode prog_1_method_7_code 11 = .ok (.istore 4, 2) := by decide +kernel
theorem d_LP_read_13 : decode prog_1_method_7_code 13 = .ok (.aload_n 3, 1) := by decide +kernel
theorem d_LP_read_14 : decode prog_1_method_7_code 14 = .ok (.ifnull 8, 3) := by decide +kernel
theorem d_LP_read_17 : decode prog_1_method_7_code 17 = .ok (.iload 4, 2) := by decide +kernel
theorem d_LP_read_19 : decode prog_1_method_7_code 19 = .ok (.ifCond .eq 11, 3) := by decide +kernel
theorem d_LP_read_22 : decode prog_1_method_7_code 22 = .ok (.aload_n 0, 1) := by decide +kernel
theorem d_LP_read_23 : decode prog_1_method_7_code 23 = .ok (.iload 4, 2) := by decide +kernel
theorem d_LP_read_25 : decode prog_1_method_7_code 25 = .ok (.invokevirtual 133, 3) := by decide +kernel
theorem d_LP_read_28 : decode prog_1_method_7_code 28 = .ok (.i2l, 1) := by decide +kernel
theorem d_LP_read_29 : decode prog_1_method_7_code 29 = .ok (.lreturn, 1) := by decide +kernel
theorem d_LP_read_30 : decode prog_1_method_7_code 30 = .ok (.aload_n 0, 1) := by decide +kernel
theorem d_LP_read_31 : decode prog_1_method_7_code 31 = .ok (.iconst 0, 1) := by decide +kernel
theorem d_LP_read_32 : decode prog_1_method_7_code 32 = .ok (.putfield 82, 3) := by decide +kernel
theorem d_LP_read_35 : decode prog_1_method_7_code 35 = .ok (.aload_n 3, 1) := by decide +kernel
theorem d_LP_read_36 : decode prog_1_method_7_code 36 = .ok (.iload_n 2, 1) := by decide +kernel
theorem d_LP_read_37 : decode prog_1_method_7_code 37 = .ok (.invokevirtual 137, 3) := by decide +kernel
theorem d_LP_read_40 : decode prog_1_method_7_code 40 = .ok (.lreturn, 1) := by decide +kernel
def LP_read (Y : Ly) (l0 : Nat) (l1 : Int32) (l2 : Int32) (h : Hp) : Option (Int64 × Hp) :=
  (LP_trayAt Y l0 l1 h).bind fun q1 =>
  (LP_whyNoPlace Y q1 l2 h).bind fun q3 =>
  match q1 with
  | none =>
      (LP_fail Y l0 q3 h).bind fun q6 =>
      some (Int32.toInt64 q6.1, q6.2)
  | some a4 =>
      if q3 = 0 then
        letH (hSi h 1112 l0 0) fun h8 =>
        (Tr_numberAt Y a4 l2 h8).bind fun q9 =>
        some (q9, h8)
      else
        (LP_fail Y l0 q3 h).bind fun q10 =>
        some (Int32.toInt64 q10.1, q10.2)
theorem ok_LP_read (Y : Ly) (l0 : Nat) (l1 : Int32) (l2 : Int32) (h : Hp) (t0 : isO Y 11 l0) : AM Y 2 K_LP_read [.ref l0, .int l1, .int l2] h (LP_read Y l0 l1 l2 h) rL := by
  refine AM.of rfl (Nat.le_of_ble_eq_true rfl) ?_
  show AW Y 2 K_LP_read 0 [(0, .ref l0), (1, .int l1), (2, .int l2)] [] h (LP_read Y l0 l1 l2 h) rL
  unfold LP_read
  refine aw_aload_n (pc := 0) d_LP_read_0 rfl 0 rfl ?_
  refine aw_iload_n (pc := 1) d_LP_read_1 rfl 1 rfl ?_
  refine aw_cVpQ (pc := 2) (ci := 11) (T := TX11) (N := 18) (As := [.int l1]) (st := []) (ok_LP_trayAt Y l0 l1 h t0) okV_LP_trayAt rfl (by decide) t0 w3_71 d_LP_read_2 rfl (Nat.le_of_ble_eq_true rfl) rfl (Nat.le_of_ble_eq_true rfl) (fun q1 hq1 hTq1 => ?_)
  have tt2 := ty_LP_trayAt t0 hTq1 hq1
  refine aw_astore_nQ (pc := 5) (lv' := [(3, va_rf q1), (0, .ref l0), (1, .int l1), (2, .int l2)]) d_LP_read_5 rfl (by decide) rfl ?_
  refine aw_aload_nQ (pc := 6) d_LP_read_6 rfl 0 rfl ?_
  refine aw_iload_n (pc := 7) d_LP_read_7 rfl 3 rfl ?_
  refine aw_cSpI (pc := 8) (As := [va_rf q1, .int l2]) (st := []) (ok_LP_whyNoPlace Y q1 l2 h tt2) okS_LP_whyNoPlace w3_94 d_LP_read_8 rfl (Nat.le_of_ble_eq_true rfl) rfl (Nat.le_of_ble_eq_true rfl) (fun q3 hq3 hTq3 => ?_)
  refine aw_istore (pc := 11) (lv' := [(4, .int q3), (3, va_rf q1), (0, .ref l0), (1, .int l1), (2, .int l2)]) d_LP_read_11 (by decide) (by cases q1 <;> rfl) ?_
  refine aw_aload_nQ (pc := 13) d_LP_read_13 rfl 1 rfl ?_
  refine aw_ifnullQ (pc := 14) (tgt := 22) (x := q1) d_LP_read_14 (by decide) (fun e5 => ?_) (fun a4 e5 => ?_)
  · rw [e5]
    show AW _ _ _ _ [(4, .int q3), (3, .null), (0, .ref l0), (1, .int l1), (2, .int l2)] [] _ _ _
    refine aw_aload_n (pc := 22) d_LP_read_22 rfl 2 rfl ?_
    refine aw_iload (pc := 23) d_LP_read_23 0 rfl ?_
    refine aw_cVrI (pc := 25) (ci := 11) (T := TX11) (N := 18) (As := [.int q3]) (st := []) (ok_LP_fail Y l0 q3 h t0) okV_LP_fail rfl (by decide) t0 w3_114 d_LP_read_25 rfl (Nat.le_of_ble_eq_true rfl) rfl (Nat.le_of_ble_eq_true rfl) (fun q6 hq6 hTq6 => ?_)
    refine aw_i2l (pc := 28) d_LP_read_28 ?_
    exact aw_lreturn (pc := 29) d_LP_read_29 rfl rfl
  · rw [e5]
    show AW _ _ _ _ [(4, .int q3), (3, .ref a4), (0, .ref l0), (1, .int l1), (2, .int l2)] [] _ _ _
    refine aw_iload (pc := 17) d_LP_read_17 0 rfl ?_
    refine aw_if_eq (pc := 19) (tgt := 30) d_LP_read_19 (by decide) (fun c7 => ?_) (fun c7 => ?_)
    · refine aw_aload_n (pc := 30) d_LP_read_30 rfl 2 rfl ?_
      refine aw_iconst (pc := 31) (x := 0) d_LP_read_31 (by decide) ?_
      refine pt_1112 (pc := 32) d_LP_read_32 w3_12 t0 ?_
      refine aw_letH (fun h8 => ?_)
      refine aw_aload_n (pc := 35) d_LP_read_35 rfl 1 rfl ?_
      refine aw_iload_n (pc := 36) d_LP_read_36 rfl 4 rfl ?_
      refine aw_cVpL (pc := 37) (ci := 8) (T := TX8) (N := 4) (As := [.int l2]) (st := []) (ok_Tr_numberAt Y a4 l2 h8 (tt2 _ e5)) okV_Tr_numberAt rfl (by decide) (tt2 _ e5) w3_118 d_LP_read_37 rfl (Nat.le_of_ble_eq_true rfl) rfl (Nat.le_of_ble_eq_true rfl) (fun q9 hq9 hTq9 => ?_)
      exact aw_lreturn (pc := 40) d_LP_read_40 rfl rfl
    · refine aw_aload_n (pc := 22) d_LP_read_22 rfl 2 rfl ?_
      refine aw_iload (pc := 23) d_LP_read_23 0 rfl ?_
      refine aw_cVrI (pc := 25) (ci := 11) (T := TX11) (N := 18) (As := [.int q3]) (st := []) (ok_LP_fail Y l0 q3 h t0) okV_LP_fail rfl (by decide) t0 w3_114 d_LP_read_25 rfl (Nat.le_of_ble_eq_true rfl) rfl (Nat.le_of_ble_eq_true rfl) (fun q10 hq10 hTq10 => ?_)
      refine aw_i2l (pc := 28) d_LP_read_28 ?_
      exact aw_lreturn (pc := 29) d_LP_read_29 rfl rfl
/-! LastPages.rule(II)I -/
theorem d_LP_rule_0 : decode prog_1_method_14_code 0 = .ok (.aload_n 0, 1) := by decide +kernel
theorem d_LP_rule_1 : decode prog_1_method_14_code 1 = .ok (.getfield 68, 3) := by decide +kernel
theorem d_LP_rule_4 : decode prog_1_method_14_code 4 = .ok (.getfield 193, 3) := by decide +kernel
theorem d_LP_rule_7 : decode prog_1_method_14_code 7 = .ok (.iload_n 1, 1) := by decide +kernel
theorem d_LP_rule_8 : decode prog_1_method_14_code 8 = .ok (.invokevirtual 239, 3) := by decide +kernel
theorem d_LP_rule_11 : decode prog_1_method_14_code 11 = .ok (.ifCond .eq 17, 3) := by decide +kernel
theorem d_LP_rule_14 : decode prog_1_method_14_code 14 = .ok (.aload_n 0, 1) := by decide +kernel
theorem d_LP_rule_15 : decode prog_1_method_14_code 15 = .ok (.getfield 68, 3) := by decide +kernel
theorem d_LP_rule_18 : decode prog_1_method_14_code 18 = .ok (.getfield 193, 3) := by decide +kernel
theorem d_LP_rule_21 : decode prog_1_method_14_code 21 = .ok (.iload_n 2, 1) := by decide +kernel
theorem d_LP_rule_22 : decode prog_1_method_14_code 22 = .ok (.invokevirtual 242, 3) := by decide +kernel
theorem d_LP_rule_25 : decode prog_1_method_14_code 25 = .ok (.ifCond .ne 9, 3) := by decide +kernel
theorem d_LP_rule_28 : decode prog_1_method_14_code 28 = .ok (.aload_n 0, 1) := by decide +kernel
theorem d_LP_rule_29 : decode prog_1_method_14_code 29 = .ok (.iconst 2, 1) := by decide +kernel
theorem d_LP_rule_30 : decode prog_1_method_14_code 30 = .ok (.invokevirtual 133, 3) := by decide +kernel
theorem d_LP_rule_33 : decode prog_1_method_14_code 33 = .ok (.ireturn, 1) := by decide +kernel
theorem d_LP_rule_34 : decode prog_1_method_14_code 34 = .ok (.aload_n 0, 1) := by decide +kernel
theorem d_LP_rule_35 : decode prog_1_method_14_code 35 = .ok (.aload_n 0, 1) := by decide +kernel
theorem d_LP_rule_36 : decode prog_1_method_14_code 36 = .ok (.getfield 68, 3) := by decide +kernel
theorem d_LP_rule_39 : decode prog_1_method_14_code 39 = .ok (.getfield 193, 3) := by decide +kernel
theorem d_LP_rule_42 : decode prog_1_method_14_code 42 = .ok (.iload_n 1, 1) := by decide +kernel
theorem d_LP_rule_43 : decode prog_1_method_14_code 43 = .ok (.iload_n 2, 1) := by decide +kernel
theorem d_LP_rule_44 : decode prog_1_method_14_code 44 = .ok (.invokevirtual 245, 3) := by decide +kernel
theorem d_LP_rule_47 : decode prog_1_method_14_code 47 = .ok (.invokevirtual 249, 3) := by decide +kernel
theorem d_LP_rule_50 : decode prog_1_method_14_code 50 = .ok (.ireturn, 1) := by decide +kernel
def LP_rule (Y : Ly) (l0 : Nat) (l1 : Int32) (l2 : Int32) (h : Hp) : Option (Int32 × Hp) :=
  (St_hasState Y (hGr h 400 (hGr h 1109 l0)) l1 h).bind fun q3 =>
  if q3 = true then
    (St_hasTurn Y (hGr h 400 (hGr h 1109 l0)) l2 h).bind fun q7 =>
    if q7 = true then
      (St_leadsTo Y (hGr h 400 (hGr h 1109 l0)) l1 l2 h).bind fun q11 =>
      (LP_giveIfAny Y l0 q11 h).bind fun q12 =>
      some (q12.1, q12.2)
    else
      (LP_fail Y l0 2 h).bind fun q13 =>
      some (q13.1, q13.2)
  else
    (LP_fail Y l0 2 h).bind fun q14 =>
    some (q14.1, q14.2)
theorem ok_LP_rule (Y : Ly) (l0 : Nat) (l1 : Int32) (l2 : Int32) (h : Hp) (t0 : isO Y 11 l0) : AM Y 2 K_LP_rule [.ref l0, .int l1, .int l2] h (LP_rule Y l0 l1 l2 h) rI := by
  refine AM.of rfl (Nat.le_of_ble_eq_true rfl) ?_
  show AW Y 2 K_LP_rule 0 [(0, .ref l0), (1, .int l1), (2, .int l2)] [] h (LP_rule Y l0 l1 l2 h) rI
  unfold LP_rule
  refine aw_aload_n (pc := 0) d_LP_rule_0 rfl 0 rfl ?_
  refine gt_1109 (pc := 1) d_LP_rule_1 w3_9 t0 (fun tt1 => ?_)
  refine gt_400 (pc := 4) d_LP_rule_4 w2_129 tt1 (fun tt2 => ?_)
  refine aw_iload_n (pc := 7) d_LP_rule_7 rfl 1 rfl ?_
  refine aw_cVpZ (pc := 8) (ci := 6) (T := TX6) (N := 8) (As := [.int l1]) (st := []) (ok_St_hasState Y (hGr h 400 (hGr h 1109 l0)) l1 h tt2) okV_St_hasState rfl (by decide) tt2 w4_180 d_LP_rule_8 rfl (Nat.le_of_ble_eq_true rfl) rfl (Nat.le_of_ble_eq_true rfl) (fun q3 hq3 hTq3 => ?_)
  refine aw_beq (pc := 11) (tgt := 28) d_LP_rule_11 (by decide) (fun c4 => ?_) (fun c4 => ?_)
  · refine aw_aload_n (pc := 14) d_LP_rule_14 rfl 0 rfl ?_
    refine gt_1109 (pc := 15) d_LP_rule_15 w3_9 t0 (fun tt5 => ?_)
    refine gt_400 (pc := 18) d_LP_rule_18 w2_129 tt5 (fun tt6 => ?_)
    refine aw_iload_n (pc := 21) d_LP_rule_21 rfl 2 rfl ?_
    refine aw_cVpZ (pc := 22) (ci := 6) (T := TX6) (N := 8) (As := [.int l2]) (st := []) (ok_St_hasTurn Y (hGr h 400 (hGr h 1109 l0)) l2 h tt6) okV_St_hasTurn rfl (by decide) tt6 w4_181 d_LP_rule_22 rfl (Nat.le_of_ble_eq_true rfl) rfl (Nat.le_of_ble_eq_true rfl) (fun q7 hq7 hTq7 => ?_)
    refine aw_bne (pc := 25) (tgt := 34) d_LP_rule_25 (by decide) (fun c8 => ?_) (fun c8 => ?_)
    · refine aw_aload_n (pc := 34) d_LP_rule_34 rfl 0 rfl ?_
      refine aw_aload_n (pc := 35) d_LP_rule_35 rfl 0 rfl ?_
      refine gt_1109 (pc := 36) d_LP_rule_36 w3_9 t0 (fun tt9 => ?_)
      refine gt_400 (pc := 39) d_LP_rule_39 w2_129 tt9 (fun tt10 => ?_)
      refine aw_iload_n (pc := 42) d_LP_rule_42 rfl 1 rfl ?_
      refine aw_iload_n (pc := 43) d_LP_rule_43 rfl 2 rfl ?_
      refine aw_cVpI (pc := 44) (ci := 6) (T := TX6) (N := 8) (As := [.int l1, .int l2]) (st := [.ref l0]) (ok_St_leadsTo Y (hGr h 400 (hGr h 1109 l0)) l1 l2 h tt10) okV_St_leadsTo rfl (by decide) tt10 w4_182 d_LP_rule_44 rfl (Nat.le_of_ble_eq_true rfl) rfl (Nat.le_of_ble_eq_true rfl) (fun q11 hq11 hTq11 => ?_)
      refine aw_cVrI (pc := 47) (ci := 11) (T := TX11) (N := 18) (As := [.int q11]) (st := []) (ok_LP_giveIfAny Y l0 q11 h t0) okV_LP_giveIfAny rfl (by decide) t0 w4_183 d_LP_rule_47 rfl (Nat.le_of_ble_eq_true rfl) rfl (Nat.le_of_ble_eq_true rfl) (fun q12 hq12 hTq12 => ?_)
      exact aw_ireturn (pc := 50) d_LP_rule_50 rfl rfl
    · refine aw_aload_n (pc := 28) d_LP_rule_28 rfl 0 rfl ?_
      refine aw_iconst (pc := 29) (x := 2) d_LP_rule_29 (by decide) ?_
      refine aw_cVrI (pc := 30) (ci := 11) (T := TX11) (N := 18) (As := [.int 2]) (st := []) (ok_LP_fail Y l0 2 h t0) okV_LP_fail rfl (by decide) t0 w3_114 d_LP_rule_30 rfl (Nat.le_of_ble_eq_true rfl) rfl (Nat.le_of_ble_eq_true rfl) (fun q13 hq13 hTq13 => ?_)
      exact aw_ireturn (pc := 33) d_LP_rule_33 rfl rfl
  · refine aw_aload_n (pc := 28) d_LP_rule_28 rfl 0 rfl ?_
    refine aw_iconst (pc := 29) (x := 2) d_LP_rule_29 (by decide) ?_
    refine aw_cVrI (pc := 30) (ci := 11) (T := TX11) (N := 18) (As := [.int 2]) (st := []) (ok_LP_fail Y l0 2 h t0) okV_LP_fail rfl (by decide) t0 w3_114 d_LP_rule_30 rfl (Nat.le_of_ble_eq_true rfl) rfl (Nat.le_of_ble_eq_true rfl) (fun q14 hq14 hTq14 => ?_)
    exact aw_ireturn (pc := 33) d_LP_rule_33 rfl rfl
/-! LastPages$Story.empty()V -/
theorem d_St_empty_0 : decode prog_8_method_2_code 0 = .ok (.aload_n 0, 1) := by decide +kernel
theorem d_St_empty_1 : decode prog_8_method_2_code 1 = .ok (.iconst 0, 1) := by decide +kernel
theorem d_St_empty_2 : decode prog_8_method_2_code 2 = .ok (.putfield 24, 3) := by decide +kernel
theorem d_St_empty_5 : decode prog_8_method_2_code 5 = .ok (.aload_n 0, 1) := by decide +kernel
theorem d_St_empty_6 : decode prog_8_method_2_code 6 = .ok (.iconst 0, 1) := by decide +kernel
theorem d_St_empty_7 : decode prog_8_method_2_code 7 = .ok (.putfield 28, 3) := by decide +kernel
theorem d_St_empty_10 : decode prog_8_method_2_code 10 = .ok (.aload_n 0, 1) := by decide +kernel
theorem d_St_empty_11 : decode prog_8_method_2_code 11 = .ok (.iconst 0, 1) := by decide +kernel
theorem d_St_empty_12 : decode prog_8_method_2_code 12 = .ok (.putfield 31, 3) := by decide +kernel
theorem d_St_empty_15 : decode prog_8_method_2_code 15 = .ok (.aload_n 0, 1) := by decide +kernel
theorem d_St_empty_16 : decode prog_8_method_2_code 16 = .ok (.iconst 0, 1) := by decide +kernel
theorem d_St_empty_17 : decode prog_8_method_2_code 17 = .ok (.putfield 34, 3) := by decide +kernel
theorem d_St_empty_20 : decode prog_8_method_2_code 20 = .ok (.aload_n 0, 1) := by decide +kernel
theorem d_St_empty_21 : decode prog_8_method_2_code 21 = .ok (.getfield 15, 3) := by decide +kernel
theorem d_St_empty_24 : decode prog_8_method_2_code 24 = .ok (.iconst (-1), 1) := by decide +kernel
theorem d_St_empty_25 : decode prog_8_method_2_code 25 = .ok (.invokestatic 37, 3) := by decide +kernel
theorem d_St_empty_28 : decode prog_8_method_2_code 28 = .ok (.return_, 1) := by decide +kernel
def St_empty (Y : Ly) (l0 : Nat) (h : Hp) : Option Hp :=
  letH (hSi h 604 l0 0) fun h1 =>
  letH (hSi h1 605 l0 0) fun h2 =>
  letH (hSi h2 606 l0 0) fun h3 =>
  letH (hSi h3 607 l0 0) fun h4 =>
  (J_fillI Y (hGr h4 601 l0) (-1) h4).bind fun q6 =>
  some q6
theorem ok_St_empty (Y : Ly) (l0 : Nat) (h : Hp) (t0 : isO Y 6 l0) : AM Y 1 K_St_empty [.ref l0] h (St_empty Y l0 h) rV := by
  refine AM.of rfl (Nat.le_of_ble_eq_true rfl) ?_
  show AW Y 1 K_St_empty 0 [(0, .ref l0)] [] h (St_empty Y l0 h) rV
  unfold St_empty
  refine aw_aload_n (pc := 0) d_St_empty_0 rfl 0 rfl ?_
  refine aw_iconst (pc := 1) (x := 0) d_St_empty_1 (by decide) ?_
  refine pt_604 (pc := 2) d_St_empty_2 w1_186 t0 ?_
  refine aw_letH (fun h1 => ?_)
  refine aw_aload_n (pc := 5) d_St_empty_5 rfl 0 rfl ?_
  refine aw_iconst (pc := 6) (x := 0) d_St_empty_6 (by decide) ?_
  refine pt_605 (pc := 7) d_St_empty_7 w1_190 t0 ?_
  refine aw_letH (fun h2 => ?_)
  refine aw_aload_n (pc := 10) d_St_empty_10 rfl 0 rfl ?_
  refine aw_iconst (pc := 11) (x := 0) d_St_empty_11 (by decide) ?_
  refine pt_606 (pc := 12) d_St_empty_12 w1_194 t0 ?_
  refine aw_letH (fun h3 => ?_)
  refine aw_aload_n (pc := 15) d_St_empty_15 rfl 0 rfl ?_
  refine aw_iconst (pc := 16) (x := 0) d_St_empty_16 (by decide) ?_
  refine pt_607 (pc := 17) d_St_empty_17 w1_196 t0 ?_
  refine aw_letH (fun h4 => ?_)
  refine aw_aload_n (pc := 20) d_St_empty_20 rfl 0 rfl ?_
  refine gt_601 (pc := 21) d_St_empty_21 w1_181 t0 (fun tt5 => ?_)
  refine aw_iconst (pc := 24) (x := (-1)) d_St_empty_24 (by decide) ?_
  refine aw_cSrV (pc := 25) (As := [.ref (hGr h4 601 l0), .int (-1)]) (st := []) (ok_J_fillI Y (hGr h4 601 l0) (-1) h4 tt5) okS_J_fillI w3_154 d_St_empty_25 rfl (Nat.le_of_ble_eq_true rfl) rfl (Nat.le_of_ble_eq_true rfl) (fun q6 hq6 hTq6 => ?_)
  exact aw_return (pc := 28) d_St_empty_28 rfl rfl
/-! LastPages$Weeks.empty()V -/
theorem d_We_empty_0 : decode prog_11_method_2_code 0 = .ok (.aload_n 0, 1) := by decide +kernel
theorem d_We_empty_1 : decode prog_11_method_2_code 1 = .ok (.iconst 0, 1) := by decide +kernel
theorem d_We_empty_2 : decode prog_11_method_2_code 2 = .ok (.putfield 27, 3) := by decide +kernel
theorem d_We_empty_5 : decode prog_11_method_2_code 5 = .ok (.aload_n 0, 1) := by decide +kernel
theorem d_We_empty_6 : decode prog_11_method_2_code 6 = .ok (.iconst 0, 1) := by decide +kernel
theorem d_We_empty_7 : decode prog_11_method_2_code 7 = .ok (.putfield 31, 3) := by decide +kernel
theorem d_We_empty_10 : decode prog_11_method_2_code 10 = .ok (.aload_n 0, 1) := by decide +kernel
theorem d_We_empty_11 : decode prog_11_method_2_code 11 = .ok (.iconst 0, 1) := by decide +kernel
theorem d_We_empty_12 : decode prog_11_method_2_code 12 = .ok (.putfield 35, 3) := by decide +kernel
theorem d_We_empty_15 : decode prog_11_method_2_code 15 = .ok (.return_, 1) := by decide +kernel
def We_empty (Y : Ly) (l0 : Nat) (h : Hp) : Option Hp :=
  letH (hSz h 905 l0 false) fun h1 =>
  letH (hSi h1 906 l0 0) fun h2 =>
  letH (hSi h2 907 l0 0) fun h3 =>
  some h3
theorem ok_We_empty (Y : Ly) (l0 : Nat) (h : Hp) (t0 : isO Y 9 l0) : AM Y 0 K_We_empty [.ref l0] h (We_empty Y l0 h) rV := by
  refine AM.of rfl (Nat.le_of_ble_eq_true rfl) ?_
  show AW Y 0 K_We_empty 0 [(0, .ref l0)] [] h (We_empty Y l0 h) rV
  unfold We_empty
  refine aw_aload_n (pc := 0) d_We_empty_0 rfl 0 rfl ?_
  refine aw_iconst (pc := 1) (x := 0) d_We_empty_1 (by decide) ?_
  refine pt_905 (pc := 2) (x := false) d_We_empty_2 w2_99 t0 ?_
  refine aw_letH (fun h1 => ?_)
  refine aw_aload_n (pc := 5) d_We_empty_5 rfl 0 rfl ?_
  refine aw_iconst (pc := 6) (x := 0) d_We_empty_6 (by decide) ?_
  refine pt_906 (pc := 7) d_We_empty_7 w2_102 t0 ?_
  refine aw_letH (fun h2 => ?_)
  refine aw_aload_n (pc := 10) d_We_empty_10 rfl 0 rfl ?_
  refine aw_iconst (pc := 11) (x := 0) d_We_empty_11 (by decide) ?_
  refine pt_907 (pc := 12) d_We_empty_12 w2_104 t0 ?_
  refine aw_letH (fun h3 => ?_)
  exact aw_return (pc := 15) d_We_empty_15 rfl rfl
/-! LastPages$Shelf.empty()V -/
theorem d_Sh_empty_0 : decode prog_6_method_2_code 0 = .ok (.aload_n 0, 1) := by decide +kernel
theorem d_Sh_empty_1 : decode prog_6_method_2_code 1 = .ok (.getfield 12, 3) := by decide +kernel
theorem d_Sh_empty_4 : decode prog_6_method_2_code 4 = .ok (.invokevirtual 85, 3) := by decide +kernel
theorem d_Sh_empty_7 : decode prog_6_method_2_code 7 = .ok (.aload_n 0, 1) := by decide +kernel
theorem d_Sh_empty_8 : decode prog_6_method_2_code 8 = .ok (.getfield 23, 3) := by decide +kernel
theorem d_Sh_empty_11 : decode prog_6_method_2_code 11 = .ok (.iconst 0, 1) := by decide +kernel
theorem d_Sh_empty_12 : decode prog_6_method_2_code 12 = .ok (.putfield 88, 3) := by decide +kernel
theorem d_Sh_empty_15 : decode prog_6_method_2_code 15 = .ok (.aload_n 0, 1) := by decide +kernel
theorem d_Sh_empty_16 : decode prog_6_method_2_code 16 = .ok (.getfield 27, 3) := by decide +kernel
theorem d_Sh_empty_19 : decode prog_6_method_2_code 19 = .ok (.iconst 0, 1) := by decide +kernel
theorem d_Sh_empty_20 : decode prog_6_method_2_code 20 = .ok (.putfield 88, 3) := by decide +kernel
theorem d_Sh_empty_23 : decode prog_6_method_2_code 23 = .ok (.aload_n 0, 1) := by decide +kernel
theorem d_Sh_empty_24 : decode prog_6_method_2_code 24 = .ok (.getfield 65, 3) := by decide +kernel
theorem d_Sh_empty_27 : decode prog_6_method_2_code 27 = .ok (.invokevirtual 91, 3) := by decide +kernel
theorem d_Sh_empty_30 : decode prog_6_method_2_code 30 = .ok (.aload_n 0, 1) := by decide +kernel
theorem d_Sh_empty_31 : decode prog_6_method_2_code 31 = .ok (.iconst 0, 1) := by decide +kernel
theorem d_Sh_empty_32 : decode prog_6_method_2_code 32 = .ok (.putfield 69, 3) := by decide +kernel
theorem d_Sh_empty_35 : decode prog_6_method_2_code 35 = .ok (.aload_n 0, 1) := by decide +kernel
theorem d_Sh_empty_36 : decode prog_6_method_2_code 36 = .ok (.iconst 0, 1) := by decide +kernel
theorem d_Sh_empty_37 : decode prog_6_method_2_code 37 = .ok (.putfield 73, 3) := by decide +kernel
theorem d_Sh_empty_40 : decode prog_6_method_2_code 40 = .ok (.aload_n 0, 1) := by decide +kernel
theorem d_Sh_empty_41 : decode prog_6_method_2_code 41 = .ok (.iconst 0, 1) := by decide +kernel
theorem d_Sh_empty_42 : decode prog_6_method_2_code 42 = .ok (.putfield 76, 3) := by decide +kernel
theorem d_Sh_empty_45 : decode prog_6_method_2_code 45 = .ok (.aload_n 0, 1) := by decide +kernel
theorem d_Sh_empty_46 : decode prog_6_method_2_code 46 = .ok (.iconst 0, 1) := by decide +kernel
theorem d_Sh_empty_47 : decode prog_6_method_2_code 47 = .ok (.putfield 79, 3) := by decide +kernel
theorem d_Sh_empty_50 : decode prog_6_method_2_code 50 = .ok (.aload_n 0, 1) := by decide +kernel
theorem d_Sh_empty_51 : decode prog_6_method_2_code 51 = .ok (.iconst 0, 1) := by decide +kernel
theorem d_Sh_empty_52 : decode prog_6_method_2_code 52 = .ok (.putfield 82, 3) := by decide +kernel
theorem d_Sh_empty_55 : decode prog_6_method_2_code 55 = .ok (.return_, 1) := by decide +kernel
def Sh_empty (Y : Ly) (l0 : Nat) (h : Hp) : Option Hp :=
  (St_empty Y (hGr h 400 l0) h).bind fun q2 =>
  letH (hSi q2 302 (hGr q2 401 l0) 0) fun h4 =>
  letH (hSi h4 302 (hGr h4 402 l0) 0) fun h6 =>
  (We_empty Y (hGr h6 413 l0) h6).bind fun q8 =>
  letH (hSi q8 414 l0 0) fun h9 =>
  letH (hSi h9 415 l0 0) fun h10 =>
  letH (hSi h10 416 l0 0) fun h11 =>
  letH (hSi h11 417 l0 0) fun h12 =>
  letH (hSi h12 418 l0 0) fun h13 =>
  some h13
theorem ok_Sh_empty (Y : Ly) (l0 : Nat) (h : Hp) (t0 : isO Y 4 l0) : AM Y 2 K_Sh_empty [.ref l0] h (Sh_empty Y l0 h) rV := by
  refine AM.of rfl (Nat.le_of_ble_eq_true rfl) ?_
  show AW Y 2 K_Sh_empty 0 [(0, .ref l0)] [] h (Sh_empty Y l0 h) rV
  unfold Sh_empty
  refine aw_aload_n (pc := 0) d_Sh_empty_0 rfl 0 rfl ?_
  refine gt_400 (pc := 1) d_Sh_empty_1 w2_124 t0 (fun tt1 => ?_)
  refine aw_cVrV (pc := 4) (ci := 6) (T := TX6) (N := 8) (As := []) (st := []) (ok_St_empty Y (hGr h 400 l0) h tt1) okV_St_empty rfl (by decide) tt1 w3_150 d_Sh_empty_4 rfl (Nat.le_of_ble_eq_true rfl) rfl (Nat.le_of_ble_eq_true rfl) (fun q2 hq2 hTq2 => ?_)
  refine aw_aload_n (pc := 7) d_Sh_empty_7 rfl 0 rfl ?_
  refine gt_401 (pc := 8) d_Sh_empty_8 w2_130 t0 (fun tt3 => ?_)
  refine aw_iconst (pc := 11) (x := 0) d_Sh_empty_11 (by decide) ?_
  refine pt_302 (pc := 12) d_Sh_empty_12 w2_73 tt3 ?_
  refine aw_letH (fun h4 => ?_)
  refine aw_aload_n (pc := 15) d_Sh_empty_15 rfl 0 rfl ?_
  refine gt_402 (pc := 16) d_Sh_empty_16 w2_133 t0 (fun tt5 => ?_)
  refine aw_iconst (pc := 19) (x := 0) d_Sh_empty_19 (by decide) ?_
  refine pt_302 (pc := 20) d_Sh_empty_20 w2_73 tt5 ?_
  refine aw_letH (fun h6 => ?_)
  refine aw_aload_n (pc := 23) d_Sh_empty_23 rfl 0 rfl ?_
  refine gt_413 (pc := 24) d_Sh_empty_24 w2_154 t0 (fun tt7 => ?_)
  refine aw_cVrV (pc := 27) (ci := 9) (T := TX9) (N := 8) (As := []) (st := []) (ok_We_empty Y (hGr h6 413 l0) h6 tt7) okV_We_empty rfl (by decide) tt7 w3_155 d_Sh_empty_27 rfl (Nat.le_of_ble_eq_true rfl) rfl (Nat.le_of_ble_eq_true rfl) (fun q8 hq8 hTq8 => ?_)
  refine aw_aload_n (pc := 30) d_Sh_empty_30 rfl 0 rfl ?_
  refine aw_iconst (pc := 31) (x := 0) d_Sh_empty_31 (by decide) ?_
  refine pt_414 (pc := 32) d_Sh_empty_32 w2_157 t0 ?_
  refine aw_letH (fun h9 => ?_)
  refine aw_aload_n (pc := 35) d_Sh_empty_35 rfl 0 rfl ?_
  refine aw_iconst (pc := 36) (x := 0) d_Sh_empty_36 (by decide) ?_
  refine pt_415 (pc := 37) d_Sh_empty_37 w2_158 t0 ?_
  refine aw_letH (fun h10 => ?_)
  refine aw_aload_n (pc := 40) d_Sh_empty_40 rfl 0 rfl ?_
  refine aw_iconst (pc := 41) (x := 0) d_Sh_empty_41 (by decide) ?_
  refine pt_416 (pc := 42) d_Sh_empty_42 w2_163 t0 ?_
  refine aw_letH (fun h11 => ?_)
  refine aw_aload_n (pc := 45) d_Sh_empty_45 rfl 0 rfl ?_
  refine aw_iconst (pc := 46) (x := 0) d_Sh_empty_46 (by decide) ?_
  refine pt_417 (pc := 47) d_Sh_empty_47 w2_166 t0 ?_
  refine aw_letH (fun h12 => ?_)
  refine aw_aload_n (pc := 50) d_Sh_empty_50 rfl 0 rfl ?_
  refine aw_iconst (pc := 51) (x := 0) d_Sh_empty_51 (by decide) ?_
  refine pt_418 (pc := 52) d_Sh_empty_52 w2_170 t0 ?_
  refine aw_letH (fun h13 => ?_)
  exact aw_return (pc := 55) d_Sh_empty_55 rfl rfl
/-! LastPages$Shelf.addBook(II[II)V -/
theorem d_Sh_addBook_0 : decode prog_6_method_9_code 0 = .ok (.aload_n 0, 1) := by decide +kernel
theorem d_Sh_addBook_1 : decode prog_6_method_9_code 1 = .ok (.getfield 73, 3) := by decide +kernel
theorem d_Sh_addBook_4 : decode prog_6_method_9_code 4 = .ok (.bipush 6, 2) := by decide +kernel
theorem d_Sh_addBook_6 : decode prog_6_method_9_code 6 = .ok (.if_icmp .ge 96, 3) := by decide +kernel
theorem d_Sh_addBook_9 : decode prog_6_method_9_code 9 = .ok (.iload 4, 2) := by decide +kernel
theorem d_Sh_addBook_11 : decode prog_6_method_9_code 11 = .ok (.bipush 10, 2) := by decide +kernel
theorem d_Sh_addBook_13 : decode prog_6_method_9_code 13 = .ok (.if_icmp .gt 89, 3) := by decide +kernel
theorem d_Sh_addBook_16 : decode prog_6_method_9_code 16 = .ok (.iload 4, 2) := by decide +kernel
theorem d_Sh_addBook_18 : decode prog_6_method_9_code 18 = .ok (.aload_n 3, 1) := by decide +kernel
theorem d_Sh_addBook_19 : decode prog_6_method_9_code 19 = .ok (.arraylength, 1) := by decide +kernel
theorem d_Sh_addBook_20 : decode prog_6_method_9_code 20 = .ok (.if_icmp .gt 82, 3) := by decide +kernel
theorem d_Sh_addBook_23 : decode prog_6_method_9_code 23 = .ok (.aload_n 0, 1) := by decide +kernel
theorem d_Sh_addBook_24 : decode prog_6_method_9_code 24 = .ok (.getfield 41, 3) := by decide +kernel
theorem d_Sh_addBook_27 : decode prog_6_method_9_code 27 = .ok (.aload_n 0, 1) := by decide +kernel
theorem d_Sh_addBook_28 : decode prog_6_method_9_code 28 = .ok (.getfield 73, 3) := by decide +kernel
theorem d_Sh_addBook_31 : decode prog_6_method_9_code 31 = .ok (.iload_n 1, 1) := by decide +kernel
theorem d_Sh_addBook_32 : decode prog_6_method_9_code 32 = .ok (.iastore, 1) := by decide +kernel
theorem d_Sh_addBook_33 : decode prog_6_method_9_code 33 = .ok (.aload_n 0, 1) := by decide +kernel
theorem d_Sh_addBook_34 : decode prog_6_method_9_code 34 = .ok (.getfield 44, 3) := by decide +kernel
theorem d_Sh_addBook_37 : decode prog_6_method_9_code 37 = .ok (.aload_n 0, 1) := by decide +kernel
theorem d_Sh_addBook_38 : decode prog_6_method_9_code 38 = .ok (.getfield 73, 3) := by decide +kernel
theorem d_Sh_addBook_41 : decode prog_6_method_9_code 41 = .ok (.iload_n 2, 1) := by decide +kernel
theorem d_Sh_addBook_42 : decode prog_6_method_9_code 42 = .ok (.iastore, 1) := by decide +kernel
theorem d_Sh_addBook_43 : decode prog_6_method_9_code 43 = .ok (.aload_n 0, 1) := by decide +kernel
theorem d_Sh_addBook_44 : decode prog_6_method_9_code 44 = .ok (.getfield 47, 3) := by decide +kernel
theorem d_Sh_addBook_47 : decode prog_6_method_9_code 47 = .ok (.aload_n 0, 1) := by decide +kernel
theorem d_Sh_addBook_48 : decode prog_6_method_9_code 48 = .ok (.getfield 73, 3) := by decide +kernel
theorem d_Sh_addBook_51 : decode prog_6_method_9_code 51 = .ok (.iload 4, 2) := by decide +kernel
theorem d_Sh_addBook_53 : decode prog_6_method_9_code 53 = .ok (.iastore, 1) := by decide +kernel
theorem d_Sh_addBook_54 : decode prog_6_method_9_code 54 = .ok (.aload_n 3, 1) := by decide +kernel
theorem d_Sh_addBook_55 : decode prog_6_method_9_code 55 = .ok (.iconst 0, 1) := by decide +kernel
theorem d_Sh_addBook_56 : decode prog_6_method_9_code 56 = .ok (.aload_n 0, 1) := by decide +kernel
theorem d_Sh_addBook_57 : decode prog_6_method_9_code 57 = .ok (.getfield 50, 3) := by decide +kernel
theorem d_Sh_addBook_60 : decode prog_6_method_9_code 60 = .ok (.aload_n 0, 1) := by decide +kernel
theorem d_Sh_addBook_61 : decode prog_6_method_9_code 61 = .ok (.getfield 73, 3) := by decide +kernel
theorem d_Sh_addBook_64 : decode prog_6_method_9_code 64 = .ok (.bipush 10, 2) := by decide +kernel
theorem d_Sh_addBook_66 : decode prog_6_method_9_code 66 = .ok (.imul, 1) := by decide +kernel
theorem d_Sh_addBook_67 : decode prog_6_method_9_code 67 = .ok (.iload 4, 2) := by decide +kernel
theorem d_Sh_addBook_69 : decode prog_6_method_9_code 69 = .ok (.invokestatic 102, 3) := by decide +kernel
theorem d_Sh_addBook_72 : decode prog_6_method_9_code 72 = .ok (.aload_n 0, 1) := by decide +kernel
theorem d_Sh_addBook_73 : decode prog_6_method_9_code 73 = .ok (.getfield 53, 3) := by decide +kernel
theorem d_Sh_addBook_76 : decode prog_6_method_9_code 76 = .ok (.aload_n 0, 1) := by decide +kernel
theorem d_Sh_addBook_77 : decode prog_6_method_9_code 77 = .ok (.getfield 73, 3) := by decide +kernel
theorem d_Sh_addBook_80 : decode prog_6_method_9_code 80 = .ok (.iconst (-1), 1) := by decide +kernel
theorem d_Sh_addBook_81 : decode prog_6_method_9_code 81 = .ok (.iastore, 1) := by decide +kernel
theorem d_Sh_addBook_82 : decode prog_6_method_9_code 82 = .ok (.aload_n 0, 1) := by decide +kernel
theorem d_Sh_addBook_83 : decode prog_6_method_9_code 83 = .ok (.getfield 56, 3) := by decide +kernel
theorem d_Sh_addBook_86 : decode prog_6_method_9_code 86 = .ok (.aload_n 0, 1) := by decide +kernel
theorem d_Sh_addBook_87 : decode prog_6_method_9_code 87 = .ok (.getfield 73, 3) := by decide +kernel
theorem d_Sh_addBook_90 : decode prog_6_method_9_code 90 = .ok (.iconst 0, 1) := by decide +kernel
theorem d_Sh_addBook_91 : decode prog_6_method_9_code 91 = .ok (.iastore, 1) := by decide +kernel
theorem d_Sh_addBook_92 : decode prog_6_method_9_code 92 = .ok (.aload_n 0, 1) := by decide +kernel
theorem d_Sh_addBook_93 : decode prog_6_method_9_code 93 = .ok (.dup, 1) := by decide +kernel
theorem d_Sh_addBook_94 : decode prog_6_method_9_code 94 = .ok (.getfield 73, 3) := by decide +kernel
theorem d_Sh_addBook_97 : decode prog_6_method_9_code 97 = .ok (.iconst 1, 1) := by decide +kernel
theorem d_Sh_addBook_98 : decode prog_6_method_9_code 98 = .ok (.iadd, 1) := by decide +kernel
theorem d_Sh_addBook_99 : decode prog_6_method_9_code 99 = .ok (.putfield 73, 3) := by decide +kernel
theorem d_Sh_addBook_102 : decode prog_6_method_9_code 102 = .ok (.return_, 1) := by decide +kernel
def Sh_addBook (Y : Ly) (l0 : Nat) (l1 : Int32) (l2 : Int32) (l3 : Nat) (l4 : Int32) (h : Hp) : Option Hp :=
  if 6 ≤ (hGi h 415 l0) then
    some h
  else
    if 10 < l4 then
      some h
    else
      if (Int32.ofNat (lnY Y l3)) < l4 then
        some h
      else
        if inB (hGi h 415 l0) (lnY Y (hGr h 406 l0)) = true then
          letH (hTi h (hGr h 406 l0) (Int32.toNatClampNeg (hGi h 415 l0)) l1) fun h6 =>
          if inB (hGi h6 415 l0) (lnY Y (hGr h6 407 l0)) = true then
            letH (hTi h6 (hGr h6 407 l0) (Int32.toNatClampNeg (hGi h6 415 l0)) l2) fun h9 =>
            if inB (hGi h9 415 l0) (lnY Y (hGr h9 408 l0)) = true then
              letH (hTi h9 (hGr h9 408 l0) (Int32.toNatClampNeg (hGi h9 415 l0)) l4) fun h12 =>
              if cpB 0 ((hGi h12 415 l0) * 10) l4 (lnY Y l3) (lnY Y (hGr h12 409 l0)) = true then
                letH (hCi h12 l3 (Int32.toNatClampNeg 0) (hGr h12 409 l0) (Int32.toNatClampNeg ((hGi h12 415 l0) * 10)) (Int32.toNatClampNeg l4)) fun h14 =>
                if inB (hGi h14 415 l0) (lnY Y (hGr h14 410 l0)) = true then
                  letH (hTi h14 (hGr h14 410 l0) (Int32.toNatClampNeg (hGi h14 415 l0)) (-1)) fun h17 =>
                  if inB (hGi h17 415 l0) (lnY Y (hGr h17 411 l0)) = true then
                    letH (hTi h17 (hGr h17 411 l0) (Int32.toNatClampNeg (hGi h17 415 l0)) 0) fun h20 =>
                    letH (hSi h20 415 l0 ((hGi h20 415 l0) + 1)) fun h21 =>
                    some h21
                  else none
                else none
              else none
            else none
          else none
        else none
theorem ok_Sh_addBook (Y : Ly) (l0 : Nat) (l1 : Int32) (l2 : Int32) (l3 : Nat) (l4 : Int32) (h : Hp) (t0 : isO Y 4 l0) (t3 : isO Y 20 l3) : AM Y 1 K_Sh_addBook [.ref l0, .int l1, .int l2, .ref l3, .int l4] h (Sh_addBook Y l0 l1 l2 l3 l4 h) rV := by
  refine AM.of rfl (Nat.le_of_ble_eq_true rfl) ?_
  show AW Y 1 K_Sh_addBook 0 [(0, .ref l0), (1, .int l1), (2, .int l2), (3, .ref l3), (4, .int l4)] [] h (Sh_addBook Y l0 l1 l2 l3 l4 h) rV
  unfold Sh_addBook
  refine aw_aload_n (pc := 0) d_Sh_addBook_0 rfl 0 rfl ?_
  refine gt_415 (pc := 1) d_Sh_addBook_1 w2_158 t0 ?_
  refine aw_bipush (pc := 4) (x := 6) d_Sh_addBook_4 (by decide) ?_
  refine aw_icmp_ge (pc := 6) (tgt := 102) d_Sh_addBook_6 (by decide) (fun c1 => ?_) (fun c1 => ?_)
  · exact aw_return (pc := 102) d_Sh_addBook_102 rfl rfl
  · refine aw_iload (pc := 9) d_Sh_addBook_9 4 rfl ?_
    refine aw_bipush (pc := 11) (x := 10) d_Sh_addBook_11 (by decide) ?_
    refine aw_icmp_gt (pc := 13) (tgt := 102) d_Sh_addBook_13 (by decide) (fun c2 => ?_) (fun c2 => ?_)
    · exact aw_return (pc := 102) d_Sh_addBook_102 rfl rfl
    · refine aw_iload (pc := 16) d_Sh_addBook_16 4 rfl ?_
      refine aw_aload_n (pc := 18) d_Sh_addBook_18 rfl 3 rfl ?_
      refine aw_alen20 (pc := 19) d_Sh_addBook_19 t3 ?_
      refine aw_icmp_gt (pc := 20) (tgt := 102) d_Sh_addBook_20 (by decide) (fun c3 => ?_) (fun c3 => ?_)
      · exact aw_return (pc := 102) d_Sh_addBook_102 rfl rfl
      · refine aw_aload_n (pc := 23) d_Sh_addBook_23 rfl 0 rfl ?_
        refine gt_406 (pc := 24) d_Sh_addBook_24 w2_139 t0 (fun tt4 => ?_)
        refine aw_aload_n (pc := 27) d_Sh_addBook_27 rfl 0 rfl ?_
        refine gt_415 (pc := 28) d_Sh_addBook_28 w2_158 t0 ?_
        refine aw_iload_n (pc := 31) d_Sh_addBook_31 rfl 1 rfl ?_
        refine aw_iastore (pc := 32) d_Sh_addBook_32 tt4 (fun c5 => ?_)
        refine aw_letH (fun h6 => ?_)
        refine aw_aload_n (pc := 33) d_Sh_addBook_33 rfl 0 rfl ?_
        refine gt_407 (pc := 34) d_Sh_addBook_34 w2_141 t0 (fun tt7 => ?_)
        refine aw_aload_n (pc := 37) d_Sh_addBook_37 rfl 0 rfl ?_
        refine gt_415 (pc := 38) d_Sh_addBook_38 w2_158 t0 ?_
        refine aw_iload_n (pc := 41) d_Sh_addBook_41 rfl 2 rfl ?_
        refine aw_iastore (pc := 42) d_Sh_addBook_42 tt7 (fun c8 => ?_)
        refine aw_letH (fun h9 => ?_)
        refine aw_aload_n (pc := 43) d_Sh_addBook_43 rfl 0 rfl ?_
        refine gt_408 (pc := 44) d_Sh_addBook_44 w2_145 t0 (fun tt10 => ?_)
        refine aw_aload_n (pc := 47) d_Sh_addBook_47 rfl 0 rfl ?_
        refine gt_415 (pc := 48) d_Sh_addBook_48 w2_158 t0 ?_
        refine aw_iload (pc := 51) d_Sh_addBook_51 4 rfl ?_
        refine aw_iastore (pc := 53) d_Sh_addBook_53 tt10 (fun c11 => ?_)
        refine aw_letH (fun h12 => ?_)
        refine aw_aload_n (pc := 54) d_Sh_addBook_54 rfl 3 rfl ?_
        refine aw_iconst (pc := 55) (x := 0) d_Sh_addBook_55 (by decide) ?_
        refine aw_aload_n (pc := 56) d_Sh_addBook_56 rfl 0 rfl ?_
        refine gt_409 (pc := 57) d_Sh_addBook_57 w2_147 t0 (fun tt13 => ?_)
        refine aw_aload_n (pc := 60) d_Sh_addBook_60 rfl 0 rfl ?_
        refine gt_415 (pc := 61) d_Sh_addBook_61 w2_158 t0 ?_
        refine aw_bipush (pc := 64) (x := 10) d_Sh_addBook_64 (by decide) ?_
        refine aw_imul (pc := 66) d_Sh_addBook_66 ?_
        refine aw_iload (pc := 67) d_Sh_addBook_67 4 rfl ?_
        refine aw_copyi (pc := 69) d_Sh_addBook_69 w4_41 w3_129 w3_128 w1_20 t3 tt13 (Nat.le_of_ble_eq_true rfl) (Nat.le_of_ble_eq_true rfl) ?_
        refine aw_letH (fun h14 => ?_)
        refine aw_aload_n (pc := 72) d_Sh_addBook_72 rfl 0 rfl ?_
        refine gt_410 (pc := 73) d_Sh_addBook_73 w2_148 t0 (fun tt15 => ?_)
        refine aw_aload_n (pc := 76) d_Sh_addBook_76 rfl 0 rfl ?_
        refine gt_415 (pc := 77) d_Sh_addBook_77 w2_158 t0 ?_
        refine aw_iconst (pc := 80) (x := (-1)) d_Sh_addBook_80 (by decide) ?_
        refine aw_iastore (pc := 81) d_Sh_addBook_81 tt15 (fun c16 => ?_)
        refine aw_letH (fun h17 => ?_)
        refine aw_aload_n (pc := 82) d_Sh_addBook_82 rfl 0 rfl ?_
        refine gt_411 (pc := 83) d_Sh_addBook_83 w2_151 t0 (fun tt18 => ?_)
        refine aw_aload_n (pc := 86) d_Sh_addBook_86 rfl 0 rfl ?_
        refine gt_415 (pc := 87) d_Sh_addBook_87 w2_158 t0 ?_
        refine aw_iconst (pc := 90) (x := 0) d_Sh_addBook_90 (by decide) ?_
        refine aw_iastore (pc := 91) d_Sh_addBook_91 tt18 (fun c19 => ?_)
        refine aw_letH (fun h20 => ?_)
        refine aw_aload_n (pc := 92) d_Sh_addBook_92 rfl 0 rfl ?_
        refine aw_dup (pc := 93) d_Sh_addBook_93 rfl ?_
        refine gt_415 (pc := 94) d_Sh_addBook_94 w2_158 t0 ?_
        refine aw_iconst (pc := 97) (x := 1) d_Sh_addBook_97 (by decide) ?_
        refine aw_iadd (pc := 98) d_Sh_addBook_98 ?_
        refine pt_415 (pc := 99) d_Sh_addBook_99 w2_158 t0 ?_
        refine aw_letH (fun h21 => ?_)
        exact aw_return (pc := 102) d_Sh_addBook_102 rfl rfl
/-! LastPages$Tokens.sortOf(I)I -/
theorem d_To_sortOf_0 : decode prog_9_method_5_code 0 = .ok (.iload_n 0, 1) := by decide +kernel
theorem d_To_sortOf_1 : decode prog_9_method_5_code 1 = .ok (.bipush 97, 2) := by decide +kernel
theorem d_To_sortOf_3 : decode prog_9_method_5_code 3 = .ok (.if_icmp .lt 11, 3) := by decide +kernel
theorem d_To_sortOf_6 : decode prog_9_method_5_code 6 = .ok (.iload_n 0, 1) := by decide +kernel
theorem d_To_sortOf_7 : decode prog_9_method_5_code 7 = .ok (.bipush 122, 2) := by decide +kernel
theorem d_To_sortOf_9 : decode prog_9_method_5_code 9 = .ok (.if_icmp .gt 5, 3) := by decide +kernel
theorem d_To_sortOf_12 : decode prog_9_method_5_code 12 = .ok (.iconst 1, 1) := by decide +kernel
theorem d_To_sortOf_13 : decode prog_9_method_5_code 13 = .ok (.ireturn, 1) := by decide +kernel
theorem d_To_sortOf_14 : decode prog_9_method_5_code 14 = .ok (.iload_n 0, 1) := by decide +kernel
theorem d_To_sortOf_15 : decode prog_9_method_5_code 15 = .ok (.bipush 48, 2) := by decide +kernel
theorem d_To_sortOf_17 : decode prog_9_method_5_code 17 = .ok (.if_icmp .lt 11, 3) := by decide +kernel
theorem d_To_sortOf_20 : decode prog_9_method_5_code 20 = .ok (.iload_n 0, 1) := by decide +kernel
theorem d_To_sortOf_21 : decode prog_9_method_5_code 21 = .ok (.bipush 57, 2) := by decide +kernel
theorem d_To_sortOf_23 : decode prog_9_method_5_code 23 = .ok (.if_icmp .gt 5, 3) := by decide +kernel
theorem d_To_sortOf_26 : decode prog_9_method_5_code 26 = .ok (.iconst 2, 1) := by decide +kernel
theorem d_To_sortOf_27 : decode prog_9_method_5_code 27 = .ok (.ireturn, 1) := by decide +kernel
theorem d_To_sortOf_28 : decode prog_9_method_5_code 28 = .ok (.iload_n 0, 1) := by decide +kernel
theorem d_To_sortOf_29 : decode prog_9_method_5_code 29 = .ok (.bipush 10, 2) := by decide +kernel
theorem d_To_sortOf_31 : decode prog_9_method_5_code 31 = .ok (.if_icmp .eq 9, 3) := by decide +kernel
theorem d_To_sortOf_34 : decode prog_9_method_5_code 34 = .ok (.iload_n 0, 1) := by decide +kernel
theorem d_To_sortOf_35 : decode prog_9_method_5_code 35 = .ok (.bipush 32, 2) := by decide +kernel
theorem d_To_sortOf_37 : decode prog_9_method_5_code 37 = .ok (.if_icmp .ne 5, 3) := by decide +kernel
theorem d_To_sortOf_40 : decode prog_9_method_5_code 40 = .ok (.iconst 4, 1) := by decide +kernel
theorem d_To_sortOf_41 : decode prog_9_method_5_code 41 = .ok (.ireturn, 1) := by decide +kernel
theorem d_To_sortOf_42 : decode prog_9_method_5_code 42 = .ok (.iload_n 0, 1) := by decide +kernel
theorem d_To_sortOf_43 : decode prog_9_method_5_code 43 = .ok (.bipush 59, 2) := by decide +kernel
theorem d_To_sortOf_45 : decode prog_9_method_5_code 45 = .ok (.if_icmp .eq 21, 3) := by decide +kernel
theorem d_To_sortOf_48 : decode prog_9_method_5_code 48 = .ok (.iload_n 0, 1) := by decide +kernel
theorem d_To_sortOf_49 : decode prog_9_method_5_code 49 = .ok (.bipush 60, 2) := by decide +kernel
theorem d_To_sortOf_51 : decode prog_9_method_5_code 51 = .ok (.if_icmp .eq 15, 3) := by decide +kernel
theorem d_To_sortOf_54 : decode prog_9_method_5_code 54 = .ok (.iload_n 0, 1) := by decide +kernel
theorem d_To_sortOf_55 : decode prog_9_method_5_code 55 = .ok (.bipush 62, 2) := by decide +kernel
theorem d_To_sortOf_57 : decode prog_9_method_5_code 57 = .ok (.if_icmp .eq 9, 3) := by decide +kernel
theorem d_To_sortOf_60 : decode prog_9_method_5_code 60 = .ok (.iload_n 0, 1) := by decide +kernel
theorem d_To_sortOf_61 : decode prog_9_method_5_code 61 = .ok (.bipush 61, 2) := by decide +kernel
theorem d_To_sortOf_63 : decode prog_9_method_5_code 63 = .ok (.if_icmp .ne 7, 3) := by decide +kernel
theorem d_To_sortOf_66 : decode prog_9_method_5_code 66 = .ok (.iconst 3, 1) := by decide +kernel
theorem d_To_sortOf_67 : decode prog_9_method_5_code 67 = .ok (.goto 4, 3) := by decide +kernel
theorem d_To_sortOf_70 : decode prog_9_method_5_code 70 = .ok (.iconst 5, 1) := by decide +kernel
theorem d_To_sortOf_71 : decode prog_9_method_5_code 71 = .ok (.ireturn, 1) := by decide +kernel
def To_sortOf_J28 (Y : Ly) (l0 : Int32) (h : Hp) : Option Int32 :=
  if l0 = 10 then
    some 4
  else
    if l0 = 32 then
      some 4
    else
      if l0 = 59 then
        some 3
      else
        if l0 = 60 then
          some 3
        else
          if l0 = 62 then
            some 3
          else
            if l0 = 61 then
              some 3
            else
              some 5
theorem To_sortOf_J28_ok (Y : Ly) (l0 : Int32) (h : Hp) : AW Y 0 K_To_sortOf 28 [(0, .int l0)] [] h (To_sortOf_J28 Y l0 h) (pI h) := by
  unfold To_sortOf_J28
  refine aw_iload_n (pc := 28) d_To_sortOf_28 rfl 0 rfl ?_
  refine aw_bipush (pc := 29) (x := 10) d_To_sortOf_29 (by decide) ?_
  refine aw_icmp_eq (pc := 31) (tgt := 40) d_To_sortOf_31 (by decide) (fun c3 => ?_) (fun c3 => ?_)
  · refine aw_iconst (pc := 40) (x := 4) d_To_sortOf_40 (by decide) ?_
    exact aw_ireturn (pc := 41) d_To_sortOf_41 rfl rfl
  · refine aw_iload_n (pc := 34) d_To_sortOf_34 rfl 0 rfl ?_
    refine aw_bipush (pc := 35) (x := 32) d_To_sortOf_35 (by decide) ?_
    refine aw_icmp_ne (pc := 37) (tgt := 42) d_To_sortOf_37 (by decide) (fun c4 => ?_) (fun c4 => ?_)
    · refine aw_iconst (pc := 40) (x := 4) d_To_sortOf_40 (by decide) ?_
      exact aw_ireturn (pc := 41) d_To_sortOf_41 rfl rfl
    · refine aw_iload_n (pc := 42) d_To_sortOf_42 rfl 0 rfl ?_
      refine aw_bipush (pc := 43) (x := 59) d_To_sortOf_43 (by decide) ?_
      refine aw_icmp_eq (pc := 45) (tgt := 66) d_To_sortOf_45 (by decide) (fun c5 => ?_) (fun c5 => ?_)
      · refine aw_iconst (pc := 66) (x := 3) d_To_sortOf_66 (by decide) ?_
        refine aw_goto (pc := 67) (tgt := 71) d_To_sortOf_67 (by decide) ?_
        exact aw_ireturn (pc := 71) d_To_sortOf_71 rfl rfl
      · refine aw_iload_n (pc := 48) d_To_sortOf_48 rfl 0 rfl ?_
        refine aw_bipush (pc := 49) (x := 60) d_To_sortOf_49 (by decide) ?_
        refine aw_icmp_eq (pc := 51) (tgt := 66) d_To_sortOf_51 (by decide) (fun c6 => ?_) (fun c6 => ?_)
        · refine aw_iconst (pc := 66) (x := 3) d_To_sortOf_66 (by decide) ?_
          refine aw_goto (pc := 67) (tgt := 71) d_To_sortOf_67 (by decide) ?_
          exact aw_ireturn (pc := 71) d_To_sortOf_71 rfl rfl
        · refine aw_iload_n (pc := 54) d_To_sortOf_54 rfl 0 rfl ?_
          refine aw_bipush (pc := 55) (x := 62) d_To_sortOf_55 (by decide) ?_
          refine aw_icmp_eq (pc := 57) (tgt := 66) d_To_sortOf_57 (by decide) (fun c7 => ?_) (fun c7 => ?_)
          · refine aw_iconst (pc := 66) (x := 3) d_To_sortOf_66 (by decide) ?_
            refine aw_goto (pc := 67) (tgt := 71) d_To_sortOf_67 (by decide) ?_
            exact aw_ireturn (pc := 71) d_To_sortOf_71 rfl rfl
          · refine aw_iload_n (pc := 60) d_To_sortOf_60 rfl 0 rfl ?_
            refine aw_bipush (pc := 61) (x := 61) d_To_sortOf_61 (by decide) ?_
            refine aw_icmp_ne (pc := 63) (tgt := 70) d_To_sortOf_63 (by decide) (fun c8 => ?_) (fun c8 => ?_)
            · refine aw_iconst (pc := 66) (x := 3) d_To_sortOf_66 (by decide) ?_
              refine aw_goto (pc := 67) (tgt := 71) d_To_sortOf_67 (by decide) ?_
              exact aw_ireturn (pc := 71) d_To_sortOf_71 rfl rfl
            · refine aw_iconst (pc := 70) (x := 5) d_To_sortOf_70 (by decide) ?_
              exact aw_ireturn (pc := 71) d_To_sortOf_71 rfl rfl
def To_sortOf_J14 (Y : Ly) (l0 : Int32) (h : Hp) : Option Int32 :=
  if l0 < 48 then
    To_sortOf_J28 Y l0 h
  else
    if 57 < l0 then
      To_sortOf_J28 Y l0 h
    else
      some 2
theorem To_sortOf_J14_ok (Y : Ly) (l0 : Int32) (h : Hp) : AW Y 0 K_To_sortOf 14 [(0, .int l0)] [] h (To_sortOf_J14 Y l0 h) (pI h) := by
  unfold To_sortOf_J14
  refine aw_iload_n (pc := 14) d_To_sortOf_14 rfl 0 rfl ?_
  refine aw_bipush (pc := 15) (x := 48) d_To_sortOf_15 (by decide) ?_
  refine aw_icmp_lt (pc := 17) (tgt := 28) d_To_sortOf_17 (by decide) (fun c2 => ?_) (fun c2 => ?_)
  · exact aw_lv [0] rfl (To_sortOf_J28_ok Y l0 h)
  · refine aw_iload_n (pc := 20) d_To_sortOf_20 rfl 0 rfl ?_
    refine aw_bipush (pc := 21) (x := 57) d_To_sortOf_21 (by decide) ?_
    refine aw_icmp_gt (pc := 23) (tgt := 28) d_To_sortOf_23 (by decide) (fun c9 => ?_) (fun c9 => ?_)
    · exact aw_lv [0] rfl (To_sortOf_J28_ok Y l0 h)
    · refine aw_iconst (pc := 26) (x := 2) d_To_sortOf_26 (by decide) ?_
      exact aw_ireturn (pc := 27) d_To_sortOf_27 rfl rfl
def To_sortOf (Y : Ly) (l0 : Int32) (h : Hp) : Option Int32 :=
  if l0 < 97 then
    To_sortOf_J14 Y l0 h
  else
    if 122 < l0 then
      To_sortOf_J14 Y l0 h
    else
      some 1
theorem ok_To_sortOf (Y : Ly) (l0 : Int32) (h : Hp) : AM Y 0 K_To_sortOf [.int l0] h (To_sortOf Y l0 h) (pI h) := by
  refine AM.of rfl (Nat.le_of_ble_eq_true rfl) ?_
  show AW Y 0 K_To_sortOf 0 [(0, .int l0)] [] h (To_sortOf Y l0 h) (pI h)
  unfold To_sortOf
  refine aw_iload_n (pc := 0) d_To_sortOf_0 rfl 0 rfl ?_
  refine aw_bipush (pc := 1) (x := 97) d_To_sortOf_1 (by decide) ?_
  refine aw_icmp_lt (pc := 3) (tgt := 14) d_To_sortOf_3 (by decide) (fun c1 => ?_) (fun c1 => ?_)
  · exact aw_lv [0] rfl (To_sortOf_J14_ok Y l0 h)
  · refine aw_iload_n (pc := 6) d_To_sortOf_6 rfl 0 rfl ?_
    refine aw_bipush (pc := 7) (x := 122) d_To_sortOf_7 (by decide) ?_
    refine aw_icmp_gt (pc := 9) (tgt := 14) d_To_sortOf_9 (by decide) (fun c10 => ?_) (fun c10 => ?_)
    · exact aw_lv [0] rfl (To_sortOf_J14_ok Y l0 h)
    · refine aw_iconst (pc := 12) (x := 1) d_To_sortOf_12 (by decide) ?_
      exact aw_ireturn (pc := 13) d_To_sortOf_13 rfl rfl
/-! LastPages$Tokens.takeNumber()V -/
theorem d_To_takeNumber_0 : decode prog_9_method_7_code 0 = .ok (.aload_n 0, 1) := by decide +kernel
theorem d_To_takeNumber_1 : decode prog_9_method_7_code 1 = .ok (.iconst 0, 1) := by decide +kernel
theorem d_To_takeNumber_2 : decode prog_9_method_7_code 2 = .ok (.putfield 35, 3) := by decide +kernel
theorem d_To_takeNumber_5 : decode prog_9_method_7_code 5 = .ok (.aload_n 0, 1) := by decide +kernel
theorem d_To_takeNumber_6 : decode prog_9_method_7_code 6 = .ok (.getfield 26, 3) := by decide +kernel
theorem d_To_takeNumber_9 : decode prog_9_method_7_code 9 = .ok (.aload_n 0, 1) := by decide +kernel
theorem d_To_takeNumber_10 : decode prog_9_method_7_code 10 = .ok (.getfield 32, 3) := by decide +kernel
theorem d_To_takeNumber_13 : decode prog_9_method_7_code 13 = .ok (.isub, 1) := by decide +kernel
theorem d_To_takeNumber_14 : decode prog_9_method_7_code 14 = .ok (.iconst 4, 1) := by decide +kernel
theorem d_To_takeNumber_15 : decode prog_9_method_7_code 15 = .ok (.if_icmp .le 9, 3) := by decide +kernel
theorem d_To_takeNumber_18 : decode prog_9_method_7_code 18 = .ok (.aload_n 0, 1) := by decide +kernel
theorem d_To_takeNumber_19 : decode prog_9_method_7_code 19 = .ok (.iconst 5, 1) := by decide +kernel
theorem d_To_takeNumber_20 : decode prog_9_method_7_code 20 = .ok (.putfield 29, 3) := by decide +kernel
theorem d_To_takeNumber_23 : decode prog_9_method_7_code 23 = .ok (.return_, 1) := by decide +kernel
theorem d_To_takeNumber_24 : decode prog_9_method_7_code 24 = .ok (.aload_n 0, 1) := by decide +kernel
theorem d_To_takeNumber_25 : decode prog_9_method_7_code 25 = .ok (.getfield 32, 3) := by decide +kernel
theorem d_To_takeNumber_28 : decode prog_9_method_7_code 28 = .ok (.istore_n 1, 1) := by decide +kernel
theorem d_To_takeNumber_29 : decode prog_9_method_7_code 29 = .ok (.iload_n 1, 1) := by decide +kernel
theorem d_To_takeNumber_30 : decode prog_9_method_7_code 30 = .ok (.aload_n 0, 1) := by decide +kernel
theorem d_To_takeNumber_31 : decode prog_9_method_7_code 31 = .ok (.getfield 26, 3) := by decide +kernel
theorem d_To_takeNumber_34 : decode prog_9_method_7_code 34 = .ok (.if_icmp .ge 30, 3) := by decide +kernel
theorem d_To_takeNumber_37 : decode prog_9_method_7_code 37 = .ok (.aload_n 0, 1) := by decide +kernel
theorem d_To_takeNumber_38 : decode prog_9_method_7_code 38 = .ok (.aload_n 0, 1) := by decide +kernel
theorem d_To_takeNumber_39 : decode prog_9_method_7_code 39 = .ok (.getfield 35, 3) := by decide +kernel
theorem d_To_takeNumber_42 : decode prog_9_method_7_code 42 = .ok (.bipush 10, 2) := by decide +kernel
theorem d_To_takeNumber_44 : decode prog_9_method_7_code 44 = .ok (.imul, 1) := by decide +kernel
theorem d_To_takeNumber_45 : decode prog_9_method_7_code 45 = .ok (.aload_n 0, 1) := by decide +kernel
theorem d_To_takeNumber_46 : decode prog_9_method_7_code 46 = .ok (.getfield 9, 3) := by decide +kernel
theorem d_To_takeNumber_49 : decode prog_9_method_7_code 49 = .ok (.iload_n 1, 1) := by decide +kernel
theorem d_To_takeNumber_50 : decode prog_9_method_7_code 50 = .ok (.baload, 1) := by decide +kernel
theorem d_To_takeNumber_51 : decode prog_9_method_7_code 51 = .ok (.iadd, 1) := by decide +kernel
theorem d_To_takeNumber_52 : decode prog_9_method_7_code 52 = .ok (.bipush 48, 2) := by decide +kernel
theorem d_To_takeNumber_54 : decode prog_9_method_7_code 54 = .ok (.isub, 1) := by decide +kernel
theorem d_To_takeNumber_55 : decode prog_9_method_7_code 55 = .ok (.putfield 35, 3) := by decide +kernel
theorem d_To_takeNumber_58 : decode prog_9_method_7_code 58 = .ok (.iinc 1 1, 3) := by decide +kernel
theorem d_To_takeNumber_61 : decode prog_9_method_7_code 61 = .ok (.goto (-32), 3) := by decide +kernel
theorem d_To_takeNumber_64 : decode prog_9_method_7_code 64 = .ok (.return_, 1) := by decide +kernel
def To_takeNumber_L29 (Y : Ly) (l0 : Nat) : Nat → Int32 → Hp → Option Hp
  | 0, _, _ => none
  | F + 1, l1, h =>
    if (hGi h 704 l0) ≤ l1 then
      some h
    else
      if inB l1 (lnY Y (hGr h 700 l0)) = true then
        letH (hSi h 707 l0 ((((hGi h 707 l0) * 10) + (hAi h (hGr h 700 l0) (Int32.toNatClampNeg l1))) - 48)) fun h6 =>
        To_takeNumber_L29 Y l0 F (l1 + 1) h6
      else none
theorem To_takeNumber_L29_ok (Y : Ly) (l0 : Nat) (tl0 : isO Y 7 l0) : ∀ (F : Nat) (l1 : Int32) (h : Hp), AW Y 0 K_To_takeNumber 29 [(0, .ref l0), (1, .int l1)] [] h (To_takeNumber_L29 Y l0 F l1 h) rV := by
  intro F
  induction F with
  | zero =>
    intro l1 h
    exact aw_none
  | succ F ih =>
    intro l1 h
    unfold To_takeNumber_L29
    refine aw_iload_n (pc := 29) d_To_takeNumber_29 rfl 1 rfl ?_
    refine aw_aload_n (pc := 30) d_To_takeNumber_30 rfl 0 rfl ?_
    refine gt_704 (pc := 31) d_To_takeNumber_31 w1_92 tl0 ?_
    refine aw_icmp_ge (pc := 34) (tgt := 64) d_To_takeNumber_34 (by decide) (fun c3 => ?_) (fun c3 => ?_)
    · exact aw_return (pc := 64) d_To_takeNumber_64 rfl rfl
    · refine aw_aload_n (pc := 37) d_To_takeNumber_37 rfl 0 rfl ?_
      refine aw_aload_n (pc := 38) d_To_takeNumber_38 rfl 0 rfl ?_
      refine gt_707 (pc := 39) d_To_takeNumber_39 w1_97 tl0 ?_
      refine aw_bipush (pc := 42) (x := 10) d_To_takeNumber_42 (by decide) ?_
      refine aw_imul (pc := 44) d_To_takeNumber_44 ?_
      refine aw_aload_n (pc := 45) d_To_takeNumber_45 rfl 0 rfl ?_
      refine gt_700 (pc := 46) d_To_takeNumber_46 w1_87 tl0 (fun tt4 => ?_)
      refine aw_iload_n (pc := 49) d_To_takeNumber_49 rfl 1 rfl ?_
      refine aw_baload (pc := 50) d_To_takeNumber_50 tt4 (fun c5 => ?_)
      refine aw_iadd (pc := 51) d_To_takeNumber_51 ?_
      refine aw_bipush (pc := 52) (x := 48) d_To_takeNumber_52 (by decide) ?_
      refine aw_isub (pc := 54) d_To_takeNumber_54 ?_
      refine pt_707 (pc := 55) d_To_takeNumber_55 w1_97 tl0 ?_
      refine aw_letH (fun h6 => ?_)
      refine aw_iinc (pc := 58) (w := l1 + 1) (lv' := [(1, .int (l1 + 1)), (0, .ref l0)]) d_To_takeNumber_58 1 rfl rfl (by decide) rfl ?_
      refine aw_goto (pc := 61) (tgt := 29) d_To_takeNumber_61 (by decide) ?_
      exact aw_lv [1, 0] rfl (ih (l1 + 1) h6)
def To_takeNumber (Y : Ly) (l0 : Nat) (h : Hp) : Option Hp :=
  letH (hSi h 707 l0 0) fun h1 =>
  if ((hGi h1 704 l0) - (hGi h1 706 l0)) ≤ 4 then
    To_takeNumber_L29 Y l0 FU (hGi h1 706 l0) h1
  else
    letH (hSi h1 705 l0 5) fun h7 =>
    some h7
theorem ok_To_takeNumber (Y : Ly) (l0 : Nat) (h : Hp) (t0 : isO Y 7 l0) : AM Y 0 K_To_takeNumber [.ref l0] h (To_takeNumber Y l0 h) rV := by
  refine AM.of rfl (Nat.le_of_ble_eq_true rfl) ?_
  show AW Y 0 K_To_takeNumber 0 [(0, .ref l0)] [] h (To_takeNumber Y l0 h) rV
  unfold To_takeNumber
  refine aw_aload_n (pc := 0) d_To_takeNumber_0 rfl 0 rfl ?_
  refine aw_iconst (pc := 1) (x := 0) d_To_takeNumber_1 (by decide) ?_
  refine pt_707 (pc := 2) d_To_takeNumber_2 w1_97 t0 ?_
  refine aw_letH (fun h1 => ?_)
  refine aw_aload_n (pc := 5) d_To_takeNumber_5 rfl 0 rfl ?_
  refine gt_704 (pc := 6) d_To_takeNumber_6 w1_92 t0 ?_
  refine aw_aload_n (pc := 9) d_To_takeNumber_9 rfl 0 rfl ?_
  refine gt_706 (pc := 10) d_To_takeNumber_10 w1_96 t0 ?_
  refine aw_isub (pc := 13) d_To_takeNumber_13 ?_
  refine aw_iconst (pc := 14) (x := 4) d_To_takeNumber_14 (by decide) ?_
  refine aw_icmp_le (pc := 15) (tgt := 24) d_To_takeNumber_15 (by decide) (fun c2 => ?_) (fun c2 => ?_)
  · refine aw_aload_n (pc := 24) d_To_takeNumber_24 rfl 0 rfl ?_
    refine gt_706 (pc := 25) d_To_takeNumber_25 w1_96 t0 ?_
    refine aw_istore_n (pc := 28) (lv' := [(1, .int (hGi h1 706 l0)), (0, .ref l0)]) d_To_takeNumber_28 rfl (by decide) rfl ?_
    exact aw_lv [1, 0] rfl (To_takeNumber_L29_ok Y l0 t0 FU (hGi h1 706 l0) h1)
  · refine aw_aload_n (pc := 18) d_To_takeNumber_18 rfl 0 rfl ?_
    refine aw_iconst (pc := 19) (x := 5) d_To_takeNumber_19 (by decide) ?_
    refine pt_705 (pc := 20) d_To_takeNumber_20 w1_93 t0 ?_
    refine aw_letH (fun h7 => ?_)
    exact aw_return (pc := 23) d_To_takeNumber_23 rfl rfl
/-! LastPages$Tokens.takeWord()V -/
theorem d_To_takeWord_0 : decode prog_9_method_6_code 0 = .ok (.aload_n 0, 1) := by decide +kernel
theorem d_To_takeWord_1 : decode prog_9_method_6_code 1 = .ok (.getfield 26, 3) := by decide +kernel
theorem d_To_takeWord_4 : decode prog_9_method_6_code 4 = .ok (.aload_n 0, 1) := by decide +kernel
theorem d_To_takeWord_5 : decode prog_9_method_6_code 5 = .ok (.getfield 32, 3) := by decide +kernel
theorem d_To_takeWord_8 : decode prog_9_method_6_code 8 = .ok (.isub, 1) := by decide +kernel
theorem d_To_takeWord_9 : decode prog_9_method_6_code 9 = .ok (.bipush 8, 2) := by decide +kernel
theorem d_To_takeWord_11 : decode prog_9_method_6_code 11 = .ok (.if_icmp .le 4, 3) := by decide +kernel
theorem d_To_takeWord_14 : decode prog_9_method_6_code 14 = .ok (.return_, 1) := by decide +kernel
theorem d_To_takeWord_15 : decode prog_9_method_6_code 15 = .ok (.aload_n 0, 1) := by decide +kernel
theorem d_To_takeWord_16 : decode prog_9_method_6_code 16 = .ok (.getfield 32, 3) := by decide +kernel
theorem d_To_takeWord_19 : decode prog_9_method_6_code 19 = .ok (.istore_n 1, 1) := by decide +kernel
theorem d_To_takeWord_20 : decode prog_9_method_6_code 20 = .ok (.iload_n 1, 1) := by decide +kernel
theorem d_To_takeWord_21 : decode prog_9_method_6_code 21 = .ok (.aload_n 0, 1) := by decide +kernel
theorem d_To_takeWord_22 : decode prog_9_method_6_code 22 = .ok (.getfield 26, 3) := by decide +kernel
theorem d_To_takeWord_25 : decode prog_9_method_6_code 25 = .ok (.if_icmp .ge 32, 3) := by decide +kernel
theorem d_To_takeWord_28 : decode prog_9_method_6_code 28 = .ok (.aload_n 0, 1) := by decide +kernel
theorem d_To_takeWord_29 : decode prog_9_method_6_code 29 = .ok (.aload_n 0, 1) := by decide +kernel
theorem d_To_takeWord_30 : decode prog_9_method_6_code 30 = .ok (.getfield 41, 3) := by decide +kernel
theorem d_To_takeWord_33 : decode prog_9_method_6_code 33 = .ok (.iconst 5, 1) := by decide +kernel
theorem d_To_takeWord_34 : decode prog_9_method_6_code 34 = .ok (.lshl, 1) := by decide +kernel
theorem d_To_takeWord_35 : decode prog_9_method_6_code 35 = .ok (.aload_n 0, 1) := by decide +kernel
theorem d_To_takeWord_36 : decode prog_9_method_6_code 36 = .ok (.getfield 9, 3) := by decide +kernel
theorem d_To_takeWord_39 : decode prog_9_method_6_code 39 = .ok (.iload_n 1, 1) := by decide +kernel
theorem d_To_takeWord_40 : decode prog_9_method_6_code 40 = .ok (.baload, 1) := by decide +kernel
theorem d_To_takeWord_41 : decode prog_9_method_6_code 41 = .ok (.bipush 97, 2) := by decide +kernel
theorem d_To_takeWord_43 : decode prog_9_method_6_code 43 = .ok (.isub, 1) := by decide +kernel
theorem d_To_takeWord_44 : decode prog_9_method_6_code 44 = .ok (.iconst 1, 1) := by decide +kernel
theorem d_To_takeWord_45 : decode prog_9_method_6_code 45 = .ok (.iadd, 1) := by decide +kernel
theorem d_To_takeWord_46 : decode prog_9_method_6_code 46 = .ok (.i2l, 1) := by decide +kernel
theorem d_To_takeWord_47 : decode prog_9_method_6_code 47 = .ok (.lor, 1) := by decide +kernel
theorem d_To_takeWord_48 : decode prog_9_method_6_code 48 = .ok (.putfield 41, 3) := by decide +kernel
theorem d_To_takeWord_51 : decode prog_9_method_6_code 51 = .ok (.iinc 1 1, 3) := by decide +kernel
theorem d_To_takeWord_54 : decode prog_9_method_6_code 54 = .ok (.goto (-34), 3) := by decide +kernel
theorem d_To_takeWord_57 : decode prog_9_method_6_code 57 = .ok (.iconst 0, 1) := by decide +kernel
theorem d_To_takeWord_58 : decode prog_9_method_6_code 58 = .ok (.istore_n 1, 1) := by decide +kernel
theorem d_To_takeWord_59 : decode prog_9_method_6_code 59 = .ok (.iload_n 1, 1) := by decide +kernel
theorem d_To_takeWord_60 : decode prog_9_method_6_code 60 = .ok (.bipush 31, 2) := by decide +kernel
theorem d_To_takeWord_62 : decode prog_9_method_6_code 62 = .ok (.if_icmp .ge 28, 3) := by decide +kernel
theorem d_To_takeWord_65 : decode prog_9_method_6_code 65 = .ok (.aload_n 0, 1) := by decide +kernel
theorem d_To_takeWord_66 : decode prog_9_method_6_code 66 = .ok (.getfield 15, 3) := by decide +kernel
theorem d_To_takeWord_69 : decode prog_9_method_6_code 69 = .ok (.iload_n 1, 1) := by decide +kernel
theorem d_To_takeWord_70 : decode prog_9_method_6_code 70 = .ok (.laload, 1) := by decide +kernel
theorem d_To_takeWord_71 : decode prog_9_method_6_code 71 = .ok (.aload_n 0, 1) := by decide +kernel
theorem d_To_takeWord_72 : decode prog_9_method_6_code 72 = .ok (.getfield 41, 3) := by decide +kernel
theorem d_To_takeWord_75 : decode prog_9_method_6_code 75 = .ok (.lcmp, 1) := by decide +kernel
theorem d_To_takeWord_76 : decode prog_9_method_6_code 76 = .ok (.ifCond .ne 8, 3) := by decide +kernel
theorem d_To_takeWord_79 : decode prog_9_method_6_code 79 = .ok (.aload_n 0, 1) := by decide +kernel
theorem d_To_takeWord_80 : decode prog_9_method_6_code 80 = .ok (.iload_n 1, 1) := by decide +kernel
theorem d_To_takeWord_81 : decode prog_9_method_6_code 81 = .ok (.putfield 38, 3) := by decide +kernel
theorem d_To_takeWord_84 : decode prog_9_method_6_code 84 = .ok (.iinc 1 1, 3) := by decide +kernel
theorem d_To_takeWord_87 : decode prog_9_method_6_code 87 = .ok (.goto (-28), 3) := by decide +kernel
theorem d_To_takeWord_90 : decode prog_9_method_6_code 90 = .ok (.return_, 1) := by decide +kernel
def To_takeWord_L59 (Y : Ly) (l0 : Nat) : Nat → Int32 → Hp → Option Hp
  | 0, _, _ => none
  | F + 1, l1, h =>
    if 31 ≤ l1 then
      some h
    else
      if inB l1 (lnY Y (hGr h 701 l0)) = true then
        if (hAl h (hGr h 701 l0) (Int32.toNatClampNeg l1)) = (hGl h 709 l0) then
          letH (hSi h 708 l0 l1) fun h7 =>
          To_takeWord_L59 Y l0 F (l1 + 1) h7
        else
          To_takeWord_L59 Y l0 F (l1 + 1) h
      else none
theorem To_takeWord_L59_ok (Y : Ly) (l0 : Nat) (tl0 : isO Y 7 l0) : ∀ (F : Nat) (l1 : Int32) (h : Hp), AW Y 0 K_To_takeWord 59 [(0, .ref l0), (1, .int l1)] [] h (To_takeWord_L59 Y l0 F l1 h) rV := by
  intro F
  induction F with
  | zero =>
    intro l1 h
    exact aw_none
  | succ F ih =>
    intro l1 h
    unfold To_takeWord_L59
    refine aw_iload_n (pc := 59) d_To_takeWord_59 rfl 1 rfl ?_
    refine aw_bipush (pc := 60) (x := 31) d_To_takeWord_60 (by decide) ?_
    refine aw_icmp_ge (pc := 62) (tgt := 90) d_To_takeWord_62 (by decide) (fun c3 => ?_) (fun c3 => ?_)
    · exact aw_return (pc := 90) d_To_takeWord_90 rfl rfl
    · refine aw_aload_n (pc := 65) d_To_takeWord_65 rfl 0 rfl ?_
      refine gt_701 (pc := 66) d_To_takeWord_66 w1_88 tl0 (fun tt4 => ?_)
      refine aw_iload_n (pc := 69) d_To_takeWord_69 rfl 1 rfl ?_
      refine aw_laload (pc := 70) d_To_takeWord_70 tt4 (fun c5 => ?_)
      refine aw_aload_n (pc := 71) d_To_takeWord_71 rfl 0 rfl ?_
      refine gt_709 (pc := 72) d_To_takeWord_72 w1_101 tl0 ?_
      refine aw_lcmp_ne (pc := 75) (tgt := 84) d_To_takeWord_75 d_To_takeWord_76 (by decide) (fun c6 => ?_) (fun c6 => ?_)
      · refine aw_aload_n (pc := 79) d_To_takeWord_79 rfl 0 rfl ?_
        refine aw_iload_n (pc := 80) d_To_takeWord_80 rfl 1 rfl ?_
        refine pt_708 (pc := 81) d_To_takeWord_81 w1_98 tl0 ?_
        refine aw_letH (fun h7 => ?_)
        refine aw_iinc (pc := 84) (w := l1 + 1) (lv' := [(1, .int (l1 + 1)), (0, .ref l0)]) d_To_takeWord_84 1 rfl rfl (by decide) rfl ?_
        refine aw_goto (pc := 87) (tgt := 59) d_To_takeWord_87 (by decide) ?_
        exact aw_lv [1, 0] rfl (ih (l1 + 1) h7)
      · refine aw_iinc (pc := 84) (w := l1 + 1) (lv' := [(1, .int (l1 + 1)), (0, .ref l0)]) d_To_takeWord_84 1 rfl rfl (by decide) rfl ?_
        refine aw_goto (pc := 87) (tgt := 59) d_To_takeWord_87 (by decide) ?_
        exact aw_lv [1, 0] rfl (ih (l1 + 1) h)
def To_takeWord_L20 (Y : Ly) (l0 : Nat) : Nat → Int32 → Hp → Option Hp
  | 0, _, _ => none
  | F + 1, l1, h =>
    if (hGi h 704 l0) ≤ l1 then
      To_takeWord_L59 Y l0 FU 0 h
    else
      if inB l1 (lnY Y (hGr h 700 l0)) = true then
        letH (hSl h 709 l0 (((hGl h 709 l0) <<< (Int32.toInt64 5 &&& 63)) ||| (Int32.toInt64 (((hAi h (hGr h 700 l0) (Int32.toNatClampNeg l1)) - 97) + 1)))) fun h10 =>
        To_takeWord_L20 Y l0 F (l1 + 1) h10
      else none
theorem To_takeWord_L20_ok (Y : Ly) (l0 : Nat) (tl0 : isO Y 7 l0) : ∀ (F : Nat) (l1 : Int32) (h : Hp), AW Y 0 K_To_takeWord 20 [(0, .ref l0), (1, .int l1)] [] h (To_takeWord_L20 Y l0 F l1 h) rV := by
  intro F
  induction F with
  | zero =>
    intro l1 h
    exact aw_none
  | succ F ih =>
    intro l1 h
    unfold To_takeWord_L20
    refine aw_iload_n (pc := 20) d_To_takeWord_20 rfl 1 rfl ?_
    refine aw_aload_n (pc := 21) d_To_takeWord_21 rfl 0 rfl ?_
    refine gt_704 (pc := 22) d_To_takeWord_22 w1_92 tl0 ?_
    refine aw_icmp_ge (pc := 25) (tgt := 57) d_To_takeWord_25 (by decide) (fun c2 => ?_) (fun c2 => ?_)
    · refine aw_iconst (pc := 57) (x := 0) d_To_takeWord_57 (by decide) ?_
      refine aw_istore_n (pc := 58) (lv' := [(1, .int 0), (0, .ref l0)]) d_To_takeWord_58 rfl (by decide) rfl ?_
      exact aw_lv [1, 0] rfl (To_takeWord_L59_ok Y l0 tl0 FU 0 h)
    · refine aw_aload_n (pc := 28) d_To_takeWord_28 rfl 0 rfl ?_
      refine aw_aload_n (pc := 29) d_To_takeWord_29 rfl 0 rfl ?_
      refine gt_709 (pc := 30) d_To_takeWord_30 w1_101 tl0 ?_
      refine aw_iconst (pc := 33) (x := 5) d_To_takeWord_33 (by decide) ?_
      refine aw_lshl (pc := 34) d_To_takeWord_34 ?_
      refine aw_aload_n (pc := 35) d_To_takeWord_35 rfl 0 rfl ?_
      refine gt_700 (pc := 36) d_To_takeWord_36 w1_87 tl0 (fun tt8 => ?_)
      refine aw_iload_n (pc := 39) d_To_takeWord_39 rfl 1 rfl ?_
      refine aw_baload (pc := 40) d_To_takeWord_40 tt8 (fun c9 => ?_)
      refine aw_bipush (pc := 41) (x := 97) d_To_takeWord_41 (by decide) ?_
      refine aw_isub (pc := 43) d_To_takeWord_43 ?_
      refine aw_iconst (pc := 44) (x := 1) d_To_takeWord_44 (by decide) ?_
      refine aw_iadd (pc := 45) d_To_takeWord_45 ?_
      refine aw_i2l (pc := 46) d_To_takeWord_46 ?_
      refine aw_lor (pc := 47) d_To_takeWord_47 ?_
      refine pt_709 (pc := 48) d_To_takeWord_48 w1_101 tl0 ?_
      refine aw_letH (fun h10 => ?_)
      refine aw_iinc (pc := 51) (w := l1 + 1) (lv' := [(1, .int (l1 + 1)), (0, .ref l0)]) d_To_takeWord_51 1 rfl rfl (by decide) rfl ?_
      refine aw_goto (pc := 54) (tgt := 20) d_To_takeWord_54 (by decide) ?_
      exact aw_lv [1, 0] rfl (ih (l1 + 1) h10)
def To_takeWord (Y : Ly) (l0 : Nat) (h : Hp) : Option Hp :=
  if ((hGi h 704 l0) - (hGi h 706 l0)) ≤ 8 then
    To_takeWord_L20 Y l0 FU (hGi h 706 l0) h
  else
    some h
theorem ok_To_takeWord (Y : Ly) (l0 : Nat) (h : Hp) (t0 : isO Y 7 l0) : AM Y 0 K_To_takeWord [.ref l0] h (To_takeWord Y l0 h) rV := by
  refine AM.of rfl (Nat.le_of_ble_eq_true rfl) ?_
  show AW Y 0 K_To_takeWord 0 [(0, .ref l0)] [] h (To_takeWord Y l0 h) rV
  unfold To_takeWord
  refine aw_aload_n (pc := 0) d_To_takeWord_0 rfl 0 rfl ?_
  refine gt_704 (pc := 1) d_To_takeWord_1 w1_92 t0 ?_
  refine aw_aload_n (pc := 4) d_To_takeWord_4 rfl 0 rfl ?_
  refine gt_706 (pc := 5) d_To_takeWord_5 w1_96 t0 ?_
  refine aw_isub (pc := 8) d_To_takeWord_8 ?_
  refine aw_bipush (pc := 9) (x := 8) d_To_takeWord_9 (by decide) ?_
  refine aw_icmp_le (pc := 11) (tgt := 15) d_To_takeWord_11 (by decide) (fun c1 => ?_) (fun c1 => ?_)
  · refine aw_aload_n (pc := 15) d_To_takeWord_15 rfl 0 rfl ?_
    refine gt_706 (pc := 16) d_To_takeWord_16 w1_96 t0 ?_
    refine aw_istore_n (pc := 19) (lv' := [(1, .int (hGi h 706 l0)), (0, .ref l0)]) d_To_takeWord_19 rfl (by decide) rfl ?_
    exact aw_lv [1, 0] rfl (To_takeWord_L20_ok Y l0 t0 FU (hGi h 706 l0) h)
  · exact aw_return (pc := 14) d_To_takeWord_14 rfl rfl
/-! LastPages$Tokens.advance()V -/
theorem d_To_advance_0 : decode prog_9_method_4_code 0 = .ok (.aload_n 0, 1) := by decide +kernel
theorem d_To_advance_1 : decode prog_9_method_4_code 1 = .ok (.getfield 26, 3) := by decide +kernel
theorem d_To_advance_4 : decode prog_9_method_4_code 4 = .ok (.istore_n 1, 1) := by decide +kernel
theorem d_To_advance_5 : decode prog_9_method_4_code 5 = .ok (.iload_n 1, 1) := by decide +kernel
theorem d_To_advance_6 : decode prog_9_method_4_code 6 = .ok (.aload_n 0, 1) := by decide +kernel
theorem d_To_advance_7 : decode prog_9_method_4_code 7 = .ok (.getfield 23, 3) := by decide +kernel
theorem d_To_advance_10 : decode prog_9_method_4_code 10 = .ok (.if_icmp .ge 29, 3) := by decide +kernel
theorem d_To_advance_13 : decode prog_9_method_4_code 13 = .ok (.aload_n 0, 1) := by decide +kernel
theorem d_To_advance_14 : decode prog_9_method_4_code 14 = .ok (.getfield 9, 3) := by decide +kernel
theorem d_To_advance_17 : decode prog_9_method_4_code 17 = .ok (.iload_n 1, 1) := by decide +kernel
theorem d_To_advance_18 : decode prog_9_method_4_code 18 = .ok (.baload, 1) := by decide +kernel
theorem d_To_advance_19 : decode prog_9_method_4_code 19 = .ok (.invokestatic 74, 3) := by decide +kernel
theorem d_To_advance_22 : decode prog_9_method_4_code 22 = .ok (.iconst 4, 1) := by decide +kernel
theorem d_To_advance_23 : decode prog_9_method_4_code 23 = .ok (.if_icmp .ne 16, 3) := by decide +kernel
theorem d_To_advance_26 : decode prog_9_method_4_code 26 = .ok (.aload_n 0, 1) := by decide +kernel
theorem d_To_advance_27 : decode prog_9_method_4_code 27 = .ok (.iload_n 1, 1) := by decide +kernel
theorem d_To_advance_28 : decode prog_9_method_4_code 28 = .ok (.iconst 1, 1) := by decide +kernel
theorem d_To_advance_29 : decode prog_9_method_4_code 29 = .ok (.iadd, 1) := by decide +kernel
theorem d_To_advance_30 : decode prog_9_method_4_code 30 = .ok (.putfield 26, 3) := by decide +kernel
theorem d_To_advance_33 : decode prog_9_method_4_code 33 = .ok (.iinc 1 1, 3) := by decide +kernel
theorem d_To_advance_36 : decode prog_9_method_4_code 36 = .ok (.goto (-31), 3) := by decide +kernel
theorem d_To_advance_39 : decode prog_9_method_4_code 39 = .ok (.aload_n 0, 1) := by decide +kernel
theorem d_To_advance_40 : decode prog_9_method_4_code 40 = .ok (.aload_n 0, 1) := by decide +kernel
theorem d_To_advance_41 : decode prog_9_method_4_code 41 = .ok (.getfield 26, 3) := by decide +kernel
theorem d_To_advance_44 : decode prog_9_method_4_code 44 = .ok (.putfield 32, 3) := by decide +kernel
theorem d_To_advance_47 : decode prog_9_method_4_code 47 = .ok (.aload_n 0, 1) := by decide +kernel
theorem d_To_advance_48 : decode prog_9_method_4_code 48 = .ok (.iconst (-1), 1) := by decide +kernel
theorem d_To_advance_49 : decode prog_9_method_4_code 49 = .ok (.putfield 38, 3) := by decide +kernel
theorem d_To_advance_52 : decode prog_9_method_4_code 52 = .ok (.aload_n 0, 1) := by decide +kernel
theorem d_To_advance_53 : decode prog_9_method_4_code 53 = .ok (.lconst 0, 1) := by decide +kernel
theorem d_To_advance_54 : decode prog_9_method_4_code 54 = .ok (.putfield 41, 3) := by decide +kernel
theorem d_To_advance_57 : decode prog_9_method_4_code 57 = .ok (.aload_n 0, 1) := by decide +kernel
theorem d_To_advance_58 : decode prog_9_method_4_code 58 = .ok (.aload_n 0, 1) := by decide +kernel
theorem d_To_advance_59 : decode prog_9_method_4_code 59 = .ok (.getfield 32, 3) := by decide +kernel
theorem d_To_advance_62 : decode prog_9_method_4_code 62 = .ok (.aload_n 0, 1) := by decide +kernel
theorem d_To_advance_63 : decode prog_9_method_4_code 63 = .ok (.getfield 23, 3) := by decide +kernel
theorem d_To_advance_66 : decode prog_9_method_4_code 66 = .ok (.if_icmp .ge 18, 3) := by decide +kernel
theorem d_To_advance_69 : decode prog_9_method_4_code 69 = .ok (.aload_n 0, 1) := by decide +kernel
theorem d_To_advance_70 : decode prog_9_method_4_code 70 = .ok (.getfield 9, 3) := by decide +kernel
theorem d_To_advance_73 : decode prog_9_method_4_code 73 = .ok (.aload_n 0, 1) := by decide +kernel
theorem d_To_advance_74 : decode prog_9_method_4_code 74 = .ok (.getfield 32, 3) := by decide +kernel
theorem d_To_advance_77 : decode prog_9_method_4_code 77 = .ok (.baload, 1) := by decide +kernel
theorem d_To_advance_78 : decode prog_9_method_4_code 78 = .ok (.invokestatic 74, 3) := by decide +kernel
theorem d_To_advance_81 : decode prog_9_method_4_code 81 = .ok (.goto 4, 3) := by decide +kernel
theorem d_To_advance_84 : decode prog_9_method_4_code 84 = .ok (.iconst 0, 1) := by decide +kernel
theorem d_To_advance_85 : decode prog_9_method_4_code 85 = .ok (.putfield 29, 3) := by decide +kernel
theorem d_To_advance_88 : decode prog_9_method_4_code 88 = .ok (.aload_n 0, 1) := by decide +kernel
theorem d_To_advance_89 : decode prog_9_method_4_code 89 = .ok (.getfield 29, 3) := by decide +kernel
theorem d_To_advance_92 : decode prog_9_method_4_code 92 = .ok (.iconst 1, 1) := by decide +kernel
theorem d_To_advance_93 : decode prog_9_method_4_code 93 = .ok (.if_icmp .eq 11, 3) := by decide +kernel
theorem d_To_advance_96 : decode prog_9_method_4_code 96 = .ok (.aload_n 0, 1) := by decide +kernel
theorem d_To_advance_97 : decode prog_9_method_4_code 97 = .ok (.getfield 29, 3) := by decide +kernel
theorem d_To_advance_100 : decode prog_9_method_4_code 100 = .ok (.iconst 2, 1) := by decide +kernel
theorem d_To_advance_101 : decode prog_9_method_4_code 101 = .ok (.if_icmp .ne 7, 3) := by decide +kernel
theorem d_To_advance_104 : decode prog_9_method_4_code 104 = .ok (.iconst 1, 1) := by decide +kernel
theorem d_To_advance_105 : decode prog_9_method_4_code 105 = .ok (.goto 4, 3) := by decide +kernel
theorem d_To_advance_108 : decode prog_9_method_4_code 108 = .ok (.iconst 0, 1) := by decide +kernel
theorem d_To_advance_109 : decode prog_9_method_4_code 109 = .ok (.istore_n 1, 1) := by decide +kernel
theorem d_To_advance_110 : decode prog_9_method_4_code 110 = .ok (.aload_n 0, 1) := by decide +kernel
theorem d_To_advance_111 : decode prog_9_method_4_code 111 = .ok (.getfield 32, 3) := by decide +kernel
theorem d_To_advance_114 : decode prog_9_method_4_code 114 = .ok (.istore_n 2, 1) := by decide +kernel
theorem d_To_advance_115 : decode prog_9_method_4_code 115 = .ok (.iload_n 2, 1) := by decide +kernel
theorem d_To_advance_116 : decode prog_9_method_4_code 116 = .ok (.aload_n 0, 1) := by decide +kernel
theorem d_To_advance_117 : decode prog_9_method_4_code 117 = .ok (.getfield 23, 3) := by decide +kernel
theorem d_To_advance_120 : decode prog_9_method_4_code 120 = .ok (.if_icmp .ge 44, 3) := by decide +kernel
theorem d_To_advance_123 : decode prog_9_method_4_code 123 = .ok (.iload_n 2, 1) := by decide +kernel
theorem d_To_advance_124 : decode prog_9_method_4_code 124 = .ok (.aload_n 0, 1) := by decide +kernel
theorem d_To_advance_125 : decode prog_9_method_4_code 125 = .ok (.getfield 32, 3) := by decide +kernel
theorem d_To_advance_128 : decode prog_9_method_4_code 128 = .ok (.if_icmp .eq 23, 3) := by decide +kernel
theorem d_To_advance_131 : decode prog_9_method_4_code 131 = .ok (.iload_n 1, 1) := by decide +kernel
theorem d_To_advance_132 : decode prog_9_method_4_code 132 = .ok (.ifCond .eq 32, 3) := by decide +kernel
theorem d_To_advance_135 : decode prog_9_method_4_code 135 = .ok (.aload_n 0, 1) := by decide +kernel
theorem d_To_advance_136 : decode prog_9_method_4_code 136 = .ok (.getfield 9, 3) := by decide +kernel
theorem d_To_advance_139 : decode prog_9_method_4_code 139 = .ok (.iload_n 2, 1) := by decide +kernel
theorem d_To_advance_140 : decode prog_9_method_4_code 140 = .ok (.baload, 1) := by decide +kernel
theorem d_To_advance_141 : decode prog_9_method_4_code 141 = .ok (.invokestatic 74, 3) := by decide +kernel
theorem d_To_advance_144 : decode prog_9_method_4_code 144 = .ok (.aload_n 0, 1) := by decide +kernel
theorem d_To_advance_145 : decode prog_9_method_4_code 145 = .ok (.getfield 29, 3) := by decide +kernel
theorem d_To_advance_148 : decode prog_9_method_4_code 148 = .ok (.if_icmp .ne 16, 3) := by decide +kernel
theorem d_To_advance_151 : decode prog_9_method_4_code 151 = .ok (.aload_n 0, 1) := by decide +kernel
theorem d_To_advance_152 : decode prog_9_method_4_code 152 = .ok (.iload_n 2, 1) := by decide +kernel
theorem d_To_advance_153 : decode prog_9_method_4_code 153 = .ok (.iconst 1, 1) := by decide +kernel
theorem d_To_advance_154 : decode prog_9_method_4_code 154 = .ok (.iadd, 1) := by decide +kernel
theorem d_To_advance_155 : decode prog_9_method_4_code 155 = .ok (.putfield 26, 3) := by decide +kernel
theorem d_To_advance_158 : decode prog_9_method_4_code 158 = .ok (.iinc 2 1, 3) := by decide +kernel
theorem d_To_advance_161 : decode prog_9_method_4_code 161 = .ok (.goto (-46), 3) := by decide +kernel
theorem d_To_advance_164 : decode prog_9_method_4_code 164 = .ok (.aload_n 0, 1) := by decide +kernel
theorem d_To_advance_165 : decode prog_9_method_4_code 165 = .ok (.getfield 29, 3) := by decide +kernel
theorem d_To_advance_168 : decode prog_9_method_4_code 168 = .ok (.iconst 1, 1) := by decide +kernel
theorem d_To_advance_169 : decode prog_9_method_4_code 169 = .ok (.if_icmp .ne 10, 3) := by decide +kernel
theorem d_To_advance_172 : decode prog_9_method_4_code 172 = .ok (.aload_n 0, 1) := by decide +kernel
theorem d_To_advance_173 : decode prog_9_method_4_code 173 = .ok (.invokevirtual 78, 3) := by decide +kernel
theorem d_To_advance_176 : decode prog_9_method_4_code 176 = .ok (.goto 15, 3) := by decide +kernel
theorem d_To_advance_179 : decode prog_9_method_4_code 179 = .ok (.aload_n 0, 1) := by decide +kernel
theorem d_To_advance_180 : decode prog_9_method_4_code 180 = .ok (.getfield 29, 3) := by decide +kernel
theorem d_To_advance_183 : decode prog_9_method_4_code 183 = .ok (.iconst 2, 1) := by decide +kernel
theorem d_To_advance_184 : decode prog_9_method_4_code 184 = .ok (.if_icmp .ne 7, 3) := by decide +kernel
theorem d_To_advance_187 : decode prog_9_method_4_code 187 = .ok (.aload_n 0, 1) := by decide +kernel
theorem d_To_advance_188 : decode prog_9_method_4_code 188 = .ok (.invokevirtual 81, 3) := by decide +kernel
theorem d_To_advance_191 : decode prog_9_method_4_code 191 = .ok (.return_, 1) := by decide +kernel
def To_advance_J164 (Y : Ly) (l0 : Nat) (h : Hp) : Option Hp :=
  if (hGi h 705 l0) = 1 then
    (To_takeWord Y l0 h).bind fun q10 =>
    some q10
  else
    if (hGi h 705 l0) = 2 then
      (To_takeNumber Y l0 h).bind fun q12 =>
      some q12
    else
      some h
theorem To_advance_J164_ok (Y : Ly) (l0 : Nat) (h : Hp) (tl0 : isO Y 7 l0) : AW Y 1 K_To_advance 164 [(0, .ref l0)] [] h (To_advance_J164 Y l0 h) rV := by
  unfold To_advance_J164
  refine aw_aload_n (pc := 164) d_To_advance_164 rfl 0 rfl ?_
  refine gt_705 (pc := 165) d_To_advance_165 w1_93 tl0 ?_
  refine aw_iconst (pc := 168) (x := 1) d_To_advance_168 (by decide) ?_
  refine aw_icmp_ne (pc := 169) (tgt := 179) d_To_advance_169 (by decide) (fun c9 => ?_) (fun c9 => ?_)
  · refine aw_aload_n (pc := 172) d_To_advance_172 rfl 0 rfl ?_
    refine aw_cVrV (pc := 173) (ci := 7) (T := TX7) (N := 13) (As := []) (st := []) (ok_To_takeWord Y l0 h tl0) okV_To_takeWord rfl (by decide) tl0 w3_173 d_To_advance_173 rfl (Nat.le_of_ble_eq_true rfl) rfl (Nat.le_of_ble_eq_true rfl) (fun q10 hq10 hTq10 => ?_)
    refine aw_goto (pc := 176) (tgt := 191) d_To_advance_176 (by decide) ?_
    exact aw_return (pc := 191) d_To_advance_191 rfl rfl
  · refine aw_aload_n (pc := 179) d_To_advance_179 rfl 0 rfl ?_
    refine gt_705 (pc := 180) d_To_advance_180 w1_93 tl0 ?_
    refine aw_iconst (pc := 183) (x := 2) d_To_advance_183 (by decide) ?_
    refine aw_icmp_ne (pc := 184) (tgt := 191) d_To_advance_184 (by decide) (fun c11 => ?_) (fun c11 => ?_)
    · refine aw_aload_n (pc := 187) d_To_advance_187 rfl 0 rfl ?_
      refine aw_cVrV (pc := 188) (ci := 7) (T := TX7) (N := 13) (As := []) (st := []) (ok_To_takeNumber Y l0 h tl0) okV_To_takeNumber rfl (by decide) tl0 w3_177 d_To_advance_188 rfl (Nat.le_of_ble_eq_true rfl) rfl (Nat.le_of_ble_eq_true rfl) (fun q12 hq12 hTq12 => ?_)
      exact aw_return (pc := 191) d_To_advance_191 rfl rfl
    · exact aw_return (pc := 191) d_To_advance_191 rfl rfl
def To_advance_L115 (Y : Ly) (l0 : Nat) (l1 : Bool) : Nat → Int32 → Hp → Option Hp
  | 0, _, _ => none
  | F + 1, l2, h =>
    if (hGi h 703 l0) ≤ l2 then
      To_advance_J164 Y l0 h
    else
      if l2 = (hGi h 706 l0) then
        letH (hSi h 704 l0 (l2 + 1)) fun h14 =>
        To_advance_L115 Y l0 l1 F (l2 + 1) h14
      else
        if l1 = true then
          if inB l2 (lnY Y (hGr h 700 l0)) = true then
            (To_sortOf Y (hAi h (hGr h 700 l0) (Int32.toNatClampNeg l2)) h).bind fun q18 =>
            if q18 = (hGi h 705 l0) then
              letH (hSi h 704 l0 (l2 + 1)) fun h20 =>
              To_advance_L115 Y l0 l1 F (l2 + 1) h20
            else
              To_advance_J164 Y l0 h
          else none
        else
          To_advance_J164 Y l0 h
theorem To_advance_L115_ok (Y : Ly) (l0 : Nat) (l1 : Bool) (tl0 : isO Y 7 l0) : ∀ (F : Nat) (l2 : Int32) (h : Hp), AW Y 1 K_To_advance 115 [(0, .ref l0), (1, .int (b2i l1)), (2, .int l2)] [] h (To_advance_L115 Y l0 l1 F l2 h) rV := by
  intro F
  induction F with
  | zero =>
    intro l2 h
    exact aw_none
  | succ F ih =>
    intro l2 h
    unfold To_advance_L115
    refine aw_iload_n (pc := 115) d_To_advance_115 rfl 2 rfl ?_
    refine aw_aload_n (pc := 116) d_To_advance_116 rfl 0 rfl ?_
    refine gt_703 (pc := 117) d_To_advance_117 w1_91 tl0 ?_
    refine aw_icmp_ge (pc := 120) (tgt := 164) d_To_advance_120 (by decide) (fun c8 => ?_) (fun c8 => ?_)
    · exact aw_lv [0] rfl (To_advance_J164_ok Y l0 h tl0)
    · refine aw_iload_n (pc := 123) d_To_advance_123 rfl 2 rfl ?_
      refine aw_aload_n (pc := 124) d_To_advance_124 rfl 0 rfl ?_
      refine gt_706 (pc := 125) d_To_advance_125 w1_96 tl0 ?_
      refine aw_icmp_eq (pc := 128) (tgt := 151) d_To_advance_128 (by decide) (fun c13 => ?_) (fun c13 => ?_)
      · refine aw_aload_n (pc := 151) d_To_advance_151 rfl 0 rfl ?_
        refine aw_iload_n (pc := 152) d_To_advance_152 rfl 2 rfl ?_
        refine aw_iconst (pc := 153) (x := 1) d_To_advance_153 (by decide) ?_
        refine aw_iadd (pc := 154) d_To_advance_154 ?_
        refine pt_704 (pc := 155) d_To_advance_155 w1_92 tl0 ?_
        refine aw_letH (fun h14 => ?_)
        refine aw_iinc (pc := 158) (w := l2 + 1) (lv' := [(2, .int (l2 + 1)), (0, .ref l0), (1, .int (b2i l1))]) d_To_advance_158 2 rfl rfl (by decide) rfl ?_
        refine aw_goto (pc := 161) (tgt := 115) d_To_advance_161 (by decide) ?_
        exact aw_lv [1, 2, 0] rfl (ih (l2 + 1) h14)
      · refine aw_iload_n (pc := 131) d_To_advance_131 rfl 1 rfl ?_
        refine aw_beq (pc := 132) (tgt := 164) d_To_advance_132 (by decide) (fun c15 => ?_) (fun c15 => ?_)
        · refine aw_aload_n (pc := 135) d_To_advance_135 rfl 0 rfl ?_
          refine gt_700 (pc := 136) d_To_advance_136 w1_87 tl0 (fun tt16 => ?_)
          refine aw_iload_n (pc := 139) d_To_advance_139 rfl 2 rfl ?_
          refine aw_baload (pc := 140) d_To_advance_140 tt16 (fun c17 => ?_)
          refine aw_cSpI (pc := 141) (As := [.int (hAi h (hGr h 700 l0) (Int32.toNatClampNeg l2))]) (st := []) (ok_To_sortOf Y (hAi h (hGr h 700 l0) (Int32.toNatClampNeg l2)) h) okS_To_sortOf w3_170 d_To_advance_141 rfl (Nat.le_of_ble_eq_true rfl) rfl (Nat.le_of_ble_eq_true rfl) (fun q18 hq18 hTq18 => ?_)
          refine aw_aload_n (pc := 144) d_To_advance_144 rfl 0 rfl ?_
          refine gt_705 (pc := 145) d_To_advance_145 w1_93 tl0 ?_
          refine aw_icmp_ne (pc := 148) (tgt := 164) d_To_advance_148 (by decide) (fun c19 => ?_) (fun c19 => ?_)
          · refine aw_aload_n (pc := 151) d_To_advance_151 rfl 0 rfl ?_
            refine aw_iload_n (pc := 152) d_To_advance_152 rfl 2 rfl ?_
            refine aw_iconst (pc := 153) (x := 1) d_To_advance_153 (by decide) ?_
            refine aw_iadd (pc := 154) d_To_advance_154 ?_
            refine pt_704 (pc := 155) d_To_advance_155 w1_92 tl0 ?_
            refine aw_letH (fun h20 => ?_)
            refine aw_iinc (pc := 158) (w := l2 + 1) (lv' := [(2, .int (l2 + 1)), (0, .ref l0), (1, .int (b2i l1))]) d_To_advance_158 2 rfl rfl (by decide) rfl ?_
            refine aw_goto (pc := 161) (tgt := 115) d_To_advance_161 (by decide) ?_
            exact aw_lv [1, 2, 0] rfl (ih (l2 + 1) h20)
          · exact aw_lv [0] rfl (To_advance_J164_ok Y l0 h tl0)
        · exact aw_lv [0] rfl (To_advance_J164_ok Y l0 h tl0)
def To_advance_J109 (Y : Ly) (l0 : Nat) (s0 : Bool) (h : Hp) : Option Hp :=
  To_advance_L115 Y l0 s0 FU (hGi h 706 l0) h
theorem To_advance_J109_ok (Y : Ly) (l0 : Nat) (s0 : Bool) (h : Hp) (tl0 : isO Y 7 l0) : AW Y 1 K_To_advance 109 [(0, .ref l0)] [.int (b2i s0)] h (To_advance_J109 Y l0 s0 h) rV := by
  unfold To_advance_J109
  refine aw_istore_n (pc := 109) (lv' := [(1, .int (b2i s0)), (0, .ref l0)]) d_To_advance_109 rfl (by decide) rfl ?_
  refine aw_aload_n (pc := 110) d_To_advance_110 rfl 1 rfl ?_
  refine gt_706 (pc := 111) d_To_advance_111 w1_96 tl0 ?_
  refine aw_istore_n (pc := 114) (lv' := [(2, .int (hGi h 706 l0)), (1, .int (b2i s0)), (0, .ref l0)]) d_To_advance_114 rfl (by decide) rfl ?_
  exact aw_lv [2, 1, 0] rfl (To_advance_L115_ok Y l0 s0 tl0 FU (hGi h 706 l0) h)
def To_advance_J104 (Y : Ly) (l0 : Nat) (h : Hp) : Option Hp :=
  To_advance_J109 Y l0 true h
theorem To_advance_J104_ok (Y : Ly) (l0 : Nat) (h : Hp) (tl0 : isO Y 7 l0) : AW Y 1 K_To_advance 104 [(0, .ref l0)] [] h (To_advance_J104 Y l0 h) rV := by
  unfold To_advance_J104
  refine aw_iconst (pc := 104) (x := 1) d_To_advance_104 (by decide) ?_
  refine aw_goto (pc := 105) (tgt := 109) d_To_advance_105 (by decide) ?_
  exact aw_lv [0] rfl (To_advance_J109_ok Y l0 true h tl0)
def To_advance_J85 (Y : Ly) (l0 : Nat) (s0 : Int32) (s1 : Nat) (h : Hp) : Option Hp :=
  letH (hSi h 705 s1 s0) fun h6 =>
  if (hGi h6 705 l0) = 1 then
    To_advance_J104 Y l0 h6
  else
    if (hGi h6 705 l0) = 2 then
      To_advance_J104 Y l0 h6
    else
      To_advance_J109 Y l0 false h6
theorem To_advance_J85_ok (Y : Ly) (l0 : Nat) (s0 : Int32) (s1 : Nat) (h : Hp) (tl0 : isO Y 7 l0) (ts1 : isO Y 7 s1) : AW Y 1 K_To_advance 85 [(0, .ref l0)] [.int s0, .ref s1] h (To_advance_J85 Y l0 s0 s1 h) rV := by
  unfold To_advance_J85
  refine pt_705 (pc := 85) d_To_advance_85 w1_93 ts1 ?_
  refine aw_letH (fun h6 => ?_)
  refine aw_aload_n (pc := 88) d_To_advance_88 rfl 0 rfl ?_
  refine gt_705 (pc := 89) d_To_advance_89 w1_93 tl0 ?_
  refine aw_iconst (pc := 92) (x := 1) d_To_advance_92 (by decide) ?_
  refine aw_icmp_eq (pc := 93) (tgt := 104) d_To_advance_93 (by decide) (fun c7 => ?_) (fun c7 => ?_)
  · exact aw_lv [0] rfl (To_advance_J104_ok Y l0 h6 tl0)
  · refine aw_aload_n (pc := 96) d_To_advance_96 rfl 0 rfl ?_
    refine gt_705 (pc := 97) d_To_advance_97 w1_93 tl0 ?_
    refine aw_iconst (pc := 100) (x := 2) d_To_advance_100 (by decide) ?_
    refine aw_icmp_ne (pc := 101) (tgt := 108) d_To_advance_101 (by decide) (fun c21 => ?_) (fun c21 => ?_)
    · exact aw_lv [0] rfl (To_advance_J104_ok Y l0 h6 tl0)
    · refine aw_iconst (pc := 108) (x := 0) d_To_advance_108 (by decide) ?_
      exact aw_lv [0] rfl (To_advance_J109_ok Y l0 false h6 tl0)
def To_advance_J39 (Y : Ly) (l0 : Nat) (h : Hp) : Option Hp :=
  letH (hSi h 706 l0 (hGi h 704 l0)) fun h2 =>
  letH (hSi h2 708 l0 (-1)) fun h3 =>
  letH (hSl h3 709 l0 0) fun h4 =>
  if (hGi h4 703 l0) ≤ (hGi h4 706 l0) then
    To_advance_J85 Y l0 0 l0 h4
  else
    if inB (hGi h4 706 l0) (lnY Y (hGr h4 700 l0)) = true then
      (To_sortOf Y (hAi h4 (hGr h4 700 l0) (Int32.toNatClampNeg (hGi h4 706 l0))) h4).bind fun q24 =>
      To_advance_J85 Y l0 q24 l0 h4
    else none
theorem To_advance_J39_ok (Y : Ly) (l0 : Nat) (h : Hp) (tl0 : isO Y 7 l0) : AW Y 1 K_To_advance 39 [(0, .ref l0)] [] h (To_advance_J39 Y l0 h) rV := by
  unfold To_advance_J39
  refine aw_aload_n (pc := 39) d_To_advance_39 rfl 0 rfl ?_
  refine aw_aload_n (pc := 40) d_To_advance_40 rfl 0 rfl ?_
  refine gt_704 (pc := 41) d_To_advance_41 w1_92 tl0 ?_
  refine pt_706 (pc := 44) d_To_advance_44 w1_96 tl0 ?_
  refine aw_letH (fun h2 => ?_)
  refine aw_aload_n (pc := 47) d_To_advance_47 rfl 0 rfl ?_
  refine aw_iconst (pc := 48) (x := (-1)) d_To_advance_48 (by decide) ?_
  refine pt_708 (pc := 49) d_To_advance_49 w1_98 tl0 ?_
  refine aw_letH (fun h3 => ?_)
  refine aw_aload_n (pc := 52) d_To_advance_52 rfl 0 rfl ?_
  refine aw_lconst (pc := 53) (x := 0) d_To_advance_53 (by decide) ?_
  refine pt_709 (pc := 54) d_To_advance_54 w1_101 tl0 ?_
  refine aw_letH (fun h4 => ?_)
  refine aw_aload_n (pc := 57) d_To_advance_57 rfl 0 rfl ?_
  refine aw_aload_n (pc := 58) d_To_advance_58 rfl 0 rfl ?_
  refine gt_706 (pc := 59) d_To_advance_59 w1_96 tl0 ?_
  refine aw_aload_n (pc := 62) d_To_advance_62 rfl 0 rfl ?_
  refine gt_703 (pc := 63) d_To_advance_63 w1_91 tl0 ?_
  refine aw_icmp_ge (pc := 66) (tgt := 84) d_To_advance_66 (by decide) (fun c5 => ?_) (fun c5 => ?_)
  · refine aw_iconst (pc := 84) (x := 0) d_To_advance_84 (by decide) ?_
    exact aw_lv [0] rfl (To_advance_J85_ok Y l0 0 l0 h4 tl0 tl0)
  · refine aw_aload_n (pc := 69) d_To_advance_69 rfl 0 rfl ?_
    refine gt_700 (pc := 70) d_To_advance_70 w1_87 tl0 (fun tt22 => ?_)
    refine aw_aload_n (pc := 73) d_To_advance_73 rfl 0 rfl ?_
    refine gt_706 (pc := 74) d_To_advance_74 w1_96 tl0 ?_
    refine aw_baload (pc := 77) d_To_advance_77 tt22 (fun c23 => ?_)
    refine aw_cSpI (pc := 78) (As := [.int (hAi h4 (hGr h4 700 l0) (Int32.toNatClampNeg (hGi h4 706 l0)))]) (st := [.ref l0]) (ok_To_sortOf Y (hAi h4 (hGr h4 700 l0) (Int32.toNatClampNeg (hGi h4 706 l0))) h4) okS_To_sortOf w3_170 d_To_advance_78 rfl (Nat.le_of_ble_eq_true rfl) rfl (Nat.le_of_ble_eq_true rfl) (fun q24 hq24 hTq24 => ?_)
    refine aw_goto (pc := 81) (tgt := 85) d_To_advance_81 (by decide) ?_
    exact aw_lv [0] rfl (To_advance_J85_ok Y l0 q24 l0 h4 tl0 tl0)
def To_advance_L5 (Y : Ly) (l0 : Nat) : Nat → Int32 → Hp → Option Hp
  | 0, _, _ => none
  | F + 1, l1, h =>
    if (hGi h 703 l0) ≤ l1 then
      To_advance_J39 Y l0 h
    else
      if inB l1 (lnY Y (hGr h 700 l0)) = true then
        (To_sortOf Y (hAi h (hGr h 700 l0) (Int32.toNatClampNeg l1)) h).bind fun q27 =>
        if q27 = 4 then
          letH (hSi h 704 l0 (l1 + 1)) fun h29 =>
          To_advance_L5 Y l0 F (l1 + 1) h29
        else
          To_advance_J39 Y l0 h
      else none
theorem To_advance_L5_ok (Y : Ly) (l0 : Nat) (tl0 : isO Y 7 l0) : ∀ (F : Nat) (l1 : Int32) (h : Hp), AW Y 1 K_To_advance 5 [(0, .ref l0), (1, .int l1)] [] h (To_advance_L5 Y l0 F l1 h) rV := by
  intro F
  induction F with
  | zero =>
    intro l1 h
    exact aw_none
  | succ F ih =>
    intro l1 h
    unfold To_advance_L5
    refine aw_iload_n (pc := 5) d_To_advance_5 rfl 1 rfl ?_
    refine aw_aload_n (pc := 6) d_To_advance_6 rfl 0 rfl ?_
    refine gt_703 (pc := 7) d_To_advance_7 w1_91 tl0 ?_
    refine aw_icmp_ge (pc := 10) (tgt := 39) d_To_advance_10 (by decide) (fun c1 => ?_) (fun c1 => ?_)
    · exact aw_lv [0] rfl (To_advance_J39_ok Y l0 h tl0)
    · refine aw_aload_n (pc := 13) d_To_advance_13 rfl 0 rfl ?_
      refine gt_700 (pc := 14) d_To_advance_14 w1_87 tl0 (fun tt25 => ?_)
      refine aw_iload_n (pc := 17) d_To_advance_17 rfl 1 rfl ?_
      refine aw_baload (pc := 18) d_To_advance_18 tt25 (fun c26 => ?_)
      refine aw_cSpI (pc := 19) (As := [.int (hAi h (hGr h 700 l0) (Int32.toNatClampNeg l1))]) (st := []) (ok_To_sortOf Y (hAi h (hGr h 700 l0) (Int32.toNatClampNeg l1)) h) okS_To_sortOf w3_170 d_To_advance_19 rfl (Nat.le_of_ble_eq_true rfl) rfl (Nat.le_of_ble_eq_true rfl) (fun q27 hq27 hTq27 => ?_)
      refine aw_iconst (pc := 22) (x := 4) d_To_advance_22 (by decide) ?_
      refine aw_icmp_ne (pc := 23) (tgt := 39) d_To_advance_23 (by decide) (fun c28 => ?_) (fun c28 => ?_)
      · refine aw_aload_n (pc := 26) d_To_advance_26 rfl 0 rfl ?_
        refine aw_iload_n (pc := 27) d_To_advance_27 rfl 1 rfl ?_
        refine aw_iconst (pc := 28) (x := 1) d_To_advance_28 (by decide) ?_
        refine aw_iadd (pc := 29) d_To_advance_29 ?_
        refine pt_704 (pc := 30) d_To_advance_30 w1_92 tl0 ?_
        refine aw_letH (fun h29 => ?_)
        refine aw_iinc (pc := 33) (w := l1 + 1) (lv' := [(1, .int (l1 + 1)), (0, .ref l0)]) d_To_advance_33 1 rfl rfl (by decide) rfl ?_
        refine aw_goto (pc := 36) (tgt := 5) d_To_advance_36 (by decide) ?_
        exact aw_lv [1, 0] rfl (ih (l1 + 1) h29)
      · exact aw_lv [0] rfl (To_advance_J39_ok Y l0 h tl0)
def To_advance (Y : Ly) (l0 : Nat) (h : Hp) : Option Hp :=
  To_advance_L5 Y l0 FU (hGi h 704 l0) h
theorem ok_To_advance (Y : Ly) (l0 : Nat) (h : Hp) (t0 : isO Y 7 l0) : AM Y 1 K_To_advance [.ref l0] h (To_advance Y l0 h) rV := by
  refine AM.of rfl (Nat.le_of_ble_eq_true rfl) ?_
  show AW Y 1 K_To_advance 0 [(0, .ref l0)] [] h (To_advance Y l0 h) rV
  unfold To_advance
  refine aw_aload_n (pc := 0) d_To_advance_0 rfl 0 rfl ?_
  refine gt_704 (pc := 1) d_To_advance_1 w1_92 t0 ?_
  refine aw_istore_n (pc := 4) (lv' := [(1, .int (hGi h 704 l0)), (0, .ref l0)]) d_To_advance_4 rfl (by decide) rfl ?_
  exact aw_lv [1, 0] rfl (To_advance_L5_ok Y l0 t0 FU (hGi h 704 l0) h)
/-! LastPages$Tokens.blame(I)Z -/
theorem d_To_blame_0 : decode prog_9_method_8_code 0 = .ok (.aload_n 0, 1) := by decide +kernel
theorem d_To_blame_1 : decode prog_9_method_8_code 1 = .ok (.aload_n 0, 1) := by decide +kernel
theorem d_To_blame_2 : decode prog_9_method_8_code 2 = .ok (.getfield 29, 3) := by decide +kernel
theorem d_To_blame_5 : decode prog_9_method_8_code 5 = .ok (.iconst 5, 1) := by decide +kernel
theorem d_To_blame_6 : decode prog_9_method_8_code 6 = .ok (.if_icmp .ne 7, 3) := by decide +kernel
theorem d_To_blame_9 : decode prog_9_method_8_code 9 = .ok (.iconst 1, 1) := by decide +kernel
theorem d_To_blame_10 : decode prog_9_method_8_code 10 = .ok (.goto 4, 3) := by decide +kernel
theorem d_To_blame_13 : decode prog_9_method_8_code 13 = .ok (.iload_n 1, 1) := by decide +kernel
theorem d_To_blame_14 : decode prog_9_method_8_code 14 = .ok (.putfield 48, 3) := by decide +kernel
theorem d_To_blame_17 : decode prog_9_method_8_code 17 = .ok (.aload_n 0, 1) := by decide +kernel
theorem d_To_blame_18 : decode prog_9_method_8_code 18 = .ok (.aload_n 0, 1) := by decide +kernel
theorem d_To_blame_19 : decode prog_9_method_8_code 19 = .ok (.getfield 32, 3) := by decide +kernel
theorem d_To_blame_22 : decode prog_9_method_8_code 22 = .ok (.putfield 51, 3) := by decide +kernel
theorem d_To_blame_25 : decode prog_9_method_8_code 25 = .ok (.iconst 0, 1) := by decide +kernel
theorem d_To_blame_26 : decode prog_9_method_8_code 26 = .ok (.ireturn, 1) := by decide +kernel
def To_blame (Y : Ly) (l0 : Nat) (l1 : Int32) (h : Hp) : Option (Bool × Hp) :=
  if (hGi h 705 l0) = 5 then
    letH (hSi h 711 l0 1) fun h2 =>
    letH (hSi h2 712 l0 (hGi h2 706 l0)) fun h3 =>
    some (false, h3)
  else
    letH (hSi h 711 l0 l1) fun h4 =>
    letH (hSi h4 712 l0 (hGi h4 706 l0)) fun h5 =>
    some (false, h5)
theorem ok_To_blame (Y : Ly) (l0 : Nat) (l1 : Int32) (h : Hp) (t0 : isO Y 7 l0) : AM Y 0 K_To_blame [.ref l0, .int l1] h (To_blame Y l0 l1 h) rZ := by
  refine AM.of rfl (Nat.le_of_ble_eq_true rfl) ?_
  show AW Y 0 K_To_blame 0 [(0, .ref l0), (1, .int l1)] [] h (To_blame Y l0 l1 h) rZ
  unfold To_blame
  refine aw_aload_n (pc := 0) d_To_blame_0 rfl 0 rfl ?_
  refine aw_aload_n (pc := 1) d_To_blame_1 rfl 0 rfl ?_
  refine gt_705 (pc := 2) d_To_blame_2 w1_93 t0 ?_
  refine aw_iconst (pc := 5) (x := 5) d_To_blame_5 (by decide) ?_
  refine aw_icmp_ne (pc := 6) (tgt := 13) d_To_blame_6 (by decide) (fun c1 => ?_) (fun c1 => ?_)
  · refine aw_iconst (pc := 9) (x := 1) d_To_blame_9 (by decide) ?_
    refine aw_goto (pc := 10) (tgt := 14) d_To_blame_10 (by decide) ?_
    refine pt_711 (pc := 14) d_To_blame_14 w1_105 t0 ?_
    refine aw_letH (fun h2 => ?_)
    refine aw_aload_n (pc := 17) d_To_blame_17 rfl 0 rfl ?_
    refine aw_aload_n (pc := 18) d_To_blame_18 rfl 0 rfl ?_
    refine gt_706 (pc := 19) d_To_blame_19 w1_96 t0 ?_
    refine pt_712 (pc := 22) d_To_blame_22 w1_107 t0 ?_
    refine aw_letH (fun h3 => ?_)
    refine aw_iconst (pc := 25) (x := 0) d_To_blame_25 (by decide) ?_
    exact aw_zreturn (pc := 26) (b := false) d_To_blame_26 rfl rfl
  · refine aw_iload_n (pc := 13) d_To_blame_13 rfl 1 rfl ?_
    refine pt_711 (pc := 14) d_To_blame_14 w1_105 t0 ?_
    refine aw_letH (fun h4 => ?_)
    refine aw_aload_n (pc := 17) d_To_blame_17 rfl 0 rfl ?_
    refine aw_aload_n (pc := 18) d_To_blame_18 rfl 0 rfl ?_
    refine gt_706 (pc := 19) d_To_blame_19 w1_96 t0 ?_
    refine pt_712 (pc := 22) d_To_blame_22 w1_107 t0 ?_
    refine aw_letH (fun h5 => ?_)
    refine aw_iconst (pc := 25) (x := 0) d_To_blame_25 (by decide) ?_
    exact aw_zreturn (pc := 26) (b := false) d_To_blame_26 rfl rfl
/-! LastPages$Tokens.isSemicolon()Z -/
theorem d_To_isSemicolon_0 : decode prog_9_method_9_code 0 = .ok (.aload_n 0, 1) := by decide +kernel
theorem d_To_isSemicolon_1 : decode prog_9_method_9_code 1 = .ok (.getfield 29, 3) := by decide +kernel
theorem d_To_isSemicolon_4 : decode prog_9_method_9_code 4 = .ok (.iconst 3, 1) := by decide +kernel
theorem d_To_isSemicolon_5 : decode prog_9_method_9_code 5 = .ok (.if_icmp .ne 21, 3) := by decide +kernel
theorem d_To_isSemicolon_8 : decode prog_9_method_9_code 8 = .ok (.aload_n 0, 1) := by decide +kernel
theorem d_To_isSemicolon_9 : decode prog_9_method_9_code 9 = .ok (.getfield 9, 3) := by decide +kernel
theorem d_To_isSemicolon_12 : decode prog_9_method_9_code 12 = .ok (.aload_n 0, 1) := by decide +kernel
theorem d_To_isSemicolon_13 : decode prog_9_method_9_code 13 = .ok (.getfield 32, 3) := by decide +kernel
theorem d_To_isSemicolon_16 : decode prog_9_method_9_code 16 = .ok (.baload, 1) := by decide +kernel
theorem d_To_isSemicolon_17 : decode prog_9_method_9_code 17 = .ok (.bipush 59, 2) := by decide +kernel
theorem d_To_isSemicolon_19 : decode prog_9_method_9_code 19 = .ok (.if_icmp .ne 7, 3) := by decide +kernel
theorem d_To_isSemicolon_22 : decode prog_9_method_9_code 22 = .ok (.iconst 1, 1) := by decide +kernel
theorem d_To_isSemicolon_23 : decode prog_9_method_9_code 23 = .ok (.goto 4, 3) := by decide +kernel
theorem d_To_isSemicolon_26 : decode prog_9_method_9_code 26 = .ok (.iconst 0, 1) := by decide +kernel
theorem d_To_isSemicolon_27 : decode prog_9_method_9_code 27 = .ok (.ireturn, 1) := by decide +kernel
def To_isSemicolon (Y : Ly) (l0 : Nat) (h : Hp) : Option Bool :=
  if (hGi h 705 l0) = 3 then
    if inB (hGi h 706 l0) (lnY Y (hGr h 700 l0)) = true then
      if (hAi h (hGr h 700 l0) (Int32.toNatClampNeg (hGi h 706 l0))) = 59 then
        some true
      else
        some false
    else none
  else
    some false
theorem ok_To_isSemicolon (Y : Ly) (l0 : Nat) (h : Hp) (t0 : isO Y 7 l0) : AM Y 0 K_To_isSemicolon [.ref l0] h (To_isSemicolon Y l0 h) (pZ h) := by
  refine AM.of rfl (Nat.le_of_ble_eq_true rfl) ?_
  show AW Y 0 K_To_isSemicolon 0 [(0, .ref l0)] [] h (To_isSemicolon Y l0 h) (pZ h)
  unfold To_isSemicolon
  refine aw_aload_n (pc := 0) d_To_isSemicolon_0 rfl 0 rfl ?_
  refine gt_705 (pc := 1) d_To_isSemicolon_1 w1_93 t0 ?_
  refine aw_iconst (pc := 4) (x := 3) d_To_isSemicolon_4 (by decide) ?_
  refine aw_icmp_ne (pc := 5) (tgt := 26) d_To_isSemicolon_5 (by decide) (fun c1 => ?_) (fun c1 => ?_)
  · refine aw_aload_n (pc := 8) d_To_isSemicolon_8 rfl 0 rfl ?_
    refine gt_700 (pc := 9) d_To_isSemicolon_9 w1_87 t0 (fun tt2 => ?_)
    refine aw_aload_n (pc := 12) d_To_isSemicolon_12 rfl 0 rfl ?_
    refine gt_706 (pc := 13) d_To_isSemicolon_13 w1_96 t0 ?_
    refine aw_baload (pc := 16) d_To_isSemicolon_16 tt2 (fun c3 => ?_)
    refine aw_bipush (pc := 17) (x := 59) d_To_isSemicolon_17 (by decide) ?_
    refine aw_icmp_ne (pc := 19) (tgt := 26) d_To_isSemicolon_19 (by decide) (fun c4 => ?_) (fun c4 => ?_)
    · refine aw_iconst (pc := 22) (x := 1) d_To_isSemicolon_22 (by decide) ?_
      refine aw_goto (pc := 23) (tgt := 27) d_To_isSemicolon_23 (by decide) ?_
      exact aw_zreturn (pc := 27) (b := true) d_To_isSemicolon_27 rfl rfl
    · refine aw_iconst (pc := 26) (x := 0) d_To_isSemicolon_26 (by decide) ?_
      exact aw_zreturn (pc := 27) (b := false) d_To_isSemicolon_27 rfl rfl
  · refine aw_iconst (pc := 26) (x := 0) d_To_isSemicolon_26 (by decide) ?_
    exact aw_zreturn (pc := 27) (b := false) d_To_isSemicolon_27 rfl rfl
/-! LastPages$Shelf.numberOf(JI)I -/
theorem d_Sh_numberOf_0 : decode prog_6_method_6_code 0 = .ok (.iconst 0, 1) := by decide +kernel
theorem d_Sh_numberOf_1 : decode prog_6_method_6_code 1 = .ok (.istore 4, 2) := by decide +kernel
theorem d_Sh_numberOf_3 : decode prog_6_method_6_code 3 = .ok (.iload 4, 2) := by decide +kernel
theorem d_Sh_numberOf_5 : decode prog_6_method_6_code 5 = .ok (.aload_n 0, 1) := by decide +kernel
theorem d_Sh_numberOf_6 : decode prog_6_method_6_code 6 = .ok (.getfield 69, 3) := by decide +kernel
theorem d_Sh_numberOf_9 : decode prog_6_method_6_code 9 = .ok (.if_icmp .ge 40, 3) := by decide +kernel
theorem d_Sh_numberOf_12 : decode prog_6_method_6_code 12 = .ok (.aload_n 0, 1) := by decide +kernel
theorem d_Sh_numberOf_13 : decode prog_6_method_6_code 13 = .ok (.getfield 30, 3) := by decide +kernel
theorem d_Sh_numberOf_16 : decode prog_6_method_6_code 16 = .ok (.iload 4, 2) := by decide +kernel
theorem d_Sh_numberOf_18 : decode prog_6_method_6_code 18 = .ok (.laload, 1) := by decide +kernel
theorem d_Sh_numberOf_19 : decode prog_6_method_6_code 19 = .ok (.lload_n 1, 1) := by decide +kernel
theorem d_Sh_numberOf_20 : decode prog_6_method_6_code 20 = .ok (.lcmp, 1) := by decide +kernel
theorem d_Sh_numberOf_21 : decode prog_6_method_6_code 21 = .ok (.ifCond .ne 22, 3) := by decide +kernel
theorem d_Sh_numberOf_24 : decode prog_6_method_6_code 24 = .ok (.aload_n 0, 1) := by decide +kernel
theorem d_Sh_numberOf_25 : decode prog_6_method_6_code 25 = .ok (.getfield 34, 3) := by decide +kernel
theorem d_Sh_numberOf_28 : decode prog_6_method_6_code 28 = .ok (.iload 4, 2) := by decide +kernel
theorem d_Sh_numberOf_30 : decode prog_6_method_6_code 30 = .ok (.iaload, 1) := by decide +kernel
theorem d_Sh_numberOf_31 : decode prog_6_method_6_code 31 = .ok (.iload_n 3, 1) := by decide +kernel
theorem d_Sh_numberOf_32 : decode prog_6_method_6_code 32 = .ok (.if_icmp .ne 11, 3) := by decide +kernel
theorem d_Sh_numberOf_35 : decode prog_6_method_6_code 35 = .ok (.aload_n 0, 1) := by decide +kernel
theorem d_Sh_numberOf_36 : decode prog_6_method_6_code 36 = .ok (.getfield 38, 3) := by decide +kernel
theorem d_Sh_numberOf_39 : decode prog_6_method_6_code 39 = .ok (.iload 4, 2) := by decide +kernel
theorem d_Sh_numberOf_41 : decode prog_6_method_6_code 41 = .ok (.iaload, 1) := by decide +kernel
theorem d_Sh_numberOf_42 : decode prog_6_method_6_code 42 = .ok (.ireturn, 1) := by decide +kernel
theorem d_Sh_numberOf_43 : decode prog_6_method_6_code 43 = .ok (.iinc 4 1, 3) := by decide +kernel
theorem d_Sh_numberOf_46 : decode prog_6_method_6_code 46 = .ok (.goto (-43), 3) := by decide +kernel
theorem d_Sh_numberOf_49 : decode prog_6_method_6_code 49 = .ok (.iconst (-1), 1) := by decide +kernel
theorem d_Sh_numberOf_50 : decode prog_6_method_6_code 50 = .ok (.ireturn, 1) := by decide +kernel
def Sh_numberOf_L3 (Y : Ly) (l0 : Nat) (l1 : Int64) (l3 : Int32) (h : Hp) : Nat → Int32 → Option Int32
  | 0, _ => none
  | F + 1, l4 =>
    if (hGi h 414 l0) ≤ l4 then
      some (-1)
    else
      if inB l4 (lnY Y (hGr h 403 l0)) = true then
        if (hAl h (hGr h 403 l0) (Int32.toNatClampNeg l4)) = l1 then
          if inB l4 (lnY Y (hGr h 404 l0)) = true then
            if (hAi h (hGr h 404 l0) (Int32.toNatClampNeg l4)) = l3 then
              if inB l4 (lnY Y (hGr h 405 l0)) = true then
                some (hAi h (hGr h 405 l0) (Int32.toNatClampNeg l4))
              else none
            else
              Sh_numberOf_L3 Y l0 l1 l3 h F (l4 + 1)
          else none
        else
          Sh_numberOf_L3 Y l0 l1 l3 h F (l4 + 1)
      else none
theorem Sh_numberOf_L3_ok (Y : Ly) (l0 : Nat) (l1 : Int64) (l3 : Int32) (h : Hp) (tl0 : isO Y 4 l0) : ∀ (F : Nat) (l4 : Int32), AW Y 0 K_Sh_numberOf 3 [(0, .ref l0), (1, .long l1), (3, .int l3), (4, .int l4)] [] h (Sh_numberOf_L3 Y l0 l1 l3 h F l4) (pI h) := by
  intro F
  induction F with
  | zero =>
    intro l4
    exact aw_none
  | succ F ih =>
    intro l4
    unfold Sh_numberOf_L3
    refine aw_iload (pc := 3) d_Sh_numberOf_3 3 rfl ?_
    refine aw_aload_n (pc := 5) d_Sh_numberOf_5 rfl 0 rfl ?_
    refine gt_414 (pc := 6) d_Sh_numberOf_6 w2_157 tl0 ?_
    refine aw_icmp_ge (pc := 9) (tgt := 49) d_Sh_numberOf_9 (by decide) (fun c1 => ?_) (fun c1 => ?_)
    · refine aw_iconst (pc := 49) (x := (-1)) d_Sh_numberOf_49 (by decide) ?_
      exact aw_ireturn (pc := 50) d_Sh_numberOf_50 rfl rfl
    · refine aw_aload_n (pc := 12) d_Sh_numberOf_12 rfl 0 rfl ?_
      refine gt_403 (pc := 13) d_Sh_numberOf_13 w2_136 tl0 (fun tt2 => ?_)
      refine aw_iload (pc := 16) d_Sh_numberOf_16 3 rfl ?_
      refine aw_laload (pc := 18) d_Sh_numberOf_18 tt2 (fun c3 => ?_)
      refine aw_lload_n (pc := 19) d_Sh_numberOf_19 rfl 1 rfl ?_
      refine aw_lcmp_ne (pc := 20) (tgt := 43) d_Sh_numberOf_20 d_Sh_numberOf_21 (by decide) (fun c4 => ?_) (fun c4 => ?_)
      · refine aw_aload_n (pc := 24) d_Sh_numberOf_24 rfl 0 rfl ?_
        refine gt_404 (pc := 25) d_Sh_numberOf_25 w2_137 tl0 (fun tt5 => ?_)
        refine aw_iload (pc := 28) d_Sh_numberOf_28 3 rfl ?_
        refine aw_iaload (pc := 30) d_Sh_numberOf_30 tt5 (fun c6 => ?_)
        refine aw_iload_n (pc := 31) d_Sh_numberOf_31 rfl 2 rfl ?_
        refine aw_icmp_ne (pc := 32) (tgt := 43) d_Sh_numberOf_32 (by decide) (fun c7 => ?_) (fun c7 => ?_)
        · refine aw_aload_n (pc := 35) d_Sh_numberOf_35 rfl 0 rfl ?_
          refine gt_405 (pc := 36) d_Sh_numberOf_36 w2_138 tl0 (fun tt8 => ?_)
          refine aw_iload (pc := 39) d_Sh_numberOf_39 3 rfl ?_
          refine aw_iaload (pc := 41) d_Sh_numberOf_41 tt8 (fun c9 => ?_)
          exact aw_ireturn (pc := 42) d_Sh_numberOf_42 rfl rfl
        · refine aw_iinc (pc := 43) (w := l4 + 1) (lv' := [(4, .int (l4 + 1)), (0, .ref l0), (1, .long l1), (3, .int l3)]) d_Sh_numberOf_43 3 rfl rfl (by decide) rfl ?_
          refine aw_goto (pc := 46) (tgt := 3) d_Sh_numberOf_46 (by decide) ?_
          exact aw_lv [1, 2, 3, 0] rfl (ih (l4 + 1))
      · refine aw_iinc (pc := 43) (w := l4 + 1) (lv' := [(4, .int (l4 + 1)), (0, .ref l0), (1, .long l1), (3, .int l3)]) d_Sh_numberOf_43 3 rfl rfl (by decide) rfl ?_
        refine aw_goto (pc := 46) (tgt := 3) d_Sh_numberOf_46 (by decide) ?_
        exact aw_lv [1, 2, 3, 0] rfl (ih (l4 + 1))
def Sh_numberOf (Y : Ly) (l0 : Nat) (l1 : Int64) (l3 : Int32) (h : Hp) : Option Int32 :=
  Sh_numberOf_L3 Y l0 l1 l3 h FU 0
theorem ok_Sh_numberOf (Y : Ly) (l0 : Nat) (l1 : Int64) (l3 : Int32) (h : Hp) (t0 : isO Y 4 l0) : AM Y 0 K_Sh_numberOf [.ref l0, .long l1, .int l3] h (Sh_numberOf Y l0 l1 l3 h) (pI h) := by
  refine AM.of rfl (Nat.le_of_ble_eq_true rfl) ?_
  show AW Y 0 K_Sh_numberOf 0 [(0, .ref l0), (1, .long l1), (3, .int l3)] [] h (Sh_numberOf Y l0 l1 l3 h) (pI h)
  unfold Sh_numberOf
  refine aw_iconst (pc := 0) (x := 0) d_Sh_numberOf_0 (by decide) ?_
  refine aw_istore (pc := 1) (lv' := [(4, .int 0), (0, .ref l0), (1, .long l1), (3, .int l3)]) d_Sh_numberOf_1 (by decide) rfl ?_
  exact aw_lv [1, 2, 3, 0] rfl (Sh_numberOf_L3_ok Y l0 l1 l3 h t0 FU 0)
/-! LastPages$Tokens.isName()Z -/
theorem d_To_isName_0 : decode prog_9_method_14_code 0 = .ok (.aload_n 0, 1) := by decide +kernel
theorem d_To_isName_1 : decode prog_9_method_14_code 1 = .ok (.getfield 29, 3) := by decide +kernel
theorem d_To_isName_4 : decode prog_9_method_14_code 4 = .ok (.iconst 1, 1) := by decide +kernel
theorem d_To_isName_5 : decode prog_9_method_14_code 5 = .ok (.if_icmp .ne 24, 3) := by decide +kernel
theorem d_To_isName_8 : decode prog_9_method_14_code 8 = .ok (.aload_n 0, 1) := by decide +kernel
theorem d_To_isName_9 : decode prog_9_method_14_code 9 = .ok (.getfield 38, 3) := by decide +kernel
theorem d_To_isName_12 : decode prog_9_method_14_code 12 = .ok (.iconst (-1), 1) := by decide +kernel
theorem d_To_isName_13 : decode prog_9_method_14_code 13 = .ok (.if_icmp .ne 16, 3) := by decide +kernel
theorem d_To_isName_16 : decode prog_9_method_14_code 16 = .ok (.aload_n 0, 1) := by decide +kernel
theorem d_To_isName_17 : decode prog_9_method_14_code 17 = .ok (.getfield 41, 3) := by decide +kernel
theorem d_To_isName_20 : decode prog_9_method_14_code 20 = .ok (.lconst 0, 1) := by decide +kernel
theorem d_To_isName_21 : decode prog_9_method_14_code 21 = .ok (.lcmp, 1) := by decide +kernel
theorem d_To_isName_22 : decode prog_9_method_14_code 22 = .ok (.ifCond .eq 7, 3) := by decide +kernel
theorem d_To_isName_25 : decode prog_9_method_14_code 25 = .ok (.iconst 1, 1) := by decide +kernel
theorem d_To_isName_26 : decode prog_9_method_14_code 26 = .ok (.goto 4, 3) := by decide +kernel
theorem d_To_isName_29 : decode prog_9_method_14_code 29 = .ok (.iconst 0, 1) := by decide +kernel
theorem d_To_isName_30 : decode prog_9_method_14_code 30 = .ok (.ireturn, 1) := by decide +kernel
def To_isName (Y : Ly) (l0 : Nat) (h : Hp) : Option Bool :=
  if (hGi h 705 l0) = 1 then
    if (hGi h 708 l0) = (-1) then
      if (hGl h 709 l0) = 0 then
        some false
      else
        some true
    else
      some false
  else
    some false
theorem ok_To_isName (Y : Ly) (l0 : Nat) (h : Hp) (t0 : isO Y 7 l0) : AM Y 0 K_To_isName [.ref l0] h (To_isName Y l0 h) (pZ h) := by
  refine AM.of rfl (Nat.le_of_ble_eq_true rfl) ?_
  show AW Y 0 K_To_isName 0 [(0, .ref l0)] [] h (To_isName Y l0 h) (pZ h)
  unfold To_isName
  refine aw_aload_n (pc := 0) d_To_isName_0 rfl 0 rfl ?_
  refine gt_705 (pc := 1) d_To_isName_1 w1_93 t0 ?_
  refine aw_iconst (pc := 4) (x := 1) d_To_isName_4 (by decide) ?_
  refine aw_icmp_ne (pc := 5) (tgt := 29) d_To_isName_5 (by decide) (fun c1 => ?_) (fun c1 => ?_)
  · refine aw_aload_n (pc := 8) d_To_isName_8 rfl 0 rfl ?_
    refine gt_708 (pc := 9) d_To_isName_9 w1_98 t0 ?_
    refine aw_iconst (pc := 12) (x := (-1)) d_To_isName_12 (by decide) ?_
    refine aw_icmp_ne (pc := 13) (tgt := 29) d_To_isName_13 (by decide) (fun c2 => ?_) (fun c2 => ?_)
    · refine aw_aload_n (pc := 16) d_To_isName_16 rfl 0 rfl ?_
      refine gt_709 (pc := 17) d_To_isName_17 w1_101 t0 ?_
      refine aw_lconst (pc := 20) (x := 0) d_To_isName_20 (by decide) ?_
      refine aw_lcmp_eq (pc := 21) (tgt := 29) d_To_isName_21 d_To_isName_22 (by decide) (fun c3 => ?_) (fun c3 => ?_)
      · refine aw_iconst (pc := 29) (x := 0) d_To_isName_29 (by decide) ?_
        exact aw_zreturn (pc := 30) (b := false) d_To_isName_30 rfl rfl
      · refine aw_iconst (pc := 25) (x := 1) d_To_isName_25 (by decide) ?_
        refine aw_goto (pc := 26) (tgt := 30) d_To_isName_26 (by decide) ?_
        exact aw_zreturn (pc := 30) (b := true) d_To_isName_30 rfl rfl
    · refine aw_iconst (pc := 29) (x := 0) d_To_isName_29 (by decide) ?_
      exact aw_zreturn (pc := 30) (b := false) d_To_isName_30 rfl rfl
  · refine aw_iconst (pc := 29) (x := 0) d_To_isName_29 (by decide) ?_
    exact aw_zreturn (pc := 30) (b := false) d_To_isName_30 rfl rfl
/-! LastPages$Tokens.seeOld(LLastPages$Shelf;I)Z -/
theorem d_To_seeOld_0 : decode prog_9_method_16_code 0 = .ok (.aload_n 0, 1) := by decide +kernel
theorem d_To_seeOld_1 : decode prog_9_method_16_code 1 = .ok (.invokevirtual 92, 3) := by decide +kernel
theorem d_To_seeOld_4 : decode prog_9_method_16_code 4 = .ok (.ifCond .ne 9, 3) := by decide +kernel
theorem d_To_seeOld_7 : decode prog_9_method_16_code 7 = .ok (.aload_n 0, 1) := by decide +kernel
theorem d_To_seeOld_8 : decode prog_9_method_16_code 8 = .ok (.iconst 2, 1) := by decide +kernel
theorem d_To_seeOld_9 : decode prog_9_method_16_code 9 = .ok (.invokevirtual 88, 3) := by decide +kernel
theorem d_To_seeOld_12 : decode prog_9_method_16_code 12 = .ok (.ireturn, 1) := by decide +kernel
theorem d_To_seeOld_13 : decode prog_9_method_16_code 13 = .ok (.aload_n 0, 1) := by decide +kernel
theorem d_To_seeOld_14 : decode prog_9_method_16_code 14 = .ok (.aload_n 1, 1) := by decide +kernel
theorem d_To_seeOld_15 : decode prog_9_method_16_code 15 = .ok (.aload_n 0, 1) := by decide +kernel
theorem d_To_seeOld_16 : decode prog_9_method_16_code 16 = .ok (.getfield 41, 3) := by decide +kernel
theorem d_To_seeOld_19 : decode prog_9_method_16_code 19 = .ok (.iload_n 2, 1) := by decide +kernel
theorem d_To_seeOld_20 : decode prog_9_method_16_code 20 = .ok (.invokevirtual 105, 3) := by decide +kernel
theorem d_To_seeOld_23 : decode prog_9_method_16_code 23 = .ok (.putfield 45, 3) := by decide +kernel
theorem d_To_seeOld_26 : decode prog_9_method_16_code 26 = .ok (.aload_n 0, 1) := by decide +kernel
theorem d_To_seeOld_27 : decode prog_9_method_16_code 27 = .ok (.getfield 45, 3) := by decide +kernel
theorem d_To_seeOld_30 : decode prog_9_method_16_code 30 = .ok (.iconst (-1), 1) := by decide +kernel
theorem d_To_seeOld_31 : decode prog_9_method_16_code 31 = .ok (.if_icmp .ne 11, 3) := by decide +kernel
theorem d_To_seeOld_34 : decode prog_9_method_16_code 34 = .ok (.aload_n 0, 1) := by decide +kernel
theorem d_To_seeOld_35 : decode prog_9_method_16_code 35 = .ok (.iconst 3, 1) := by decide +kernel
theorem d_To_seeOld_36 : decode prog_9_method_16_code 36 = .ok (.invokevirtual 88, 3) := by decide +kernel
theorem d_To_seeOld_39 : decode prog_9_method_16_code 39 = .ok (.ifCond .eq 7, 3) := by decide +kernel
theorem d_To_seeOld_42 : decode prog_9_method_16_code 42 = .ok (.iconst 1, 1) := by decide +kernel
theorem d_To_seeOld_43 : decode prog_9_method_16_code 43 = .ok (.goto 4, 3) := by decide +kernel
theorem d_To_seeOld_46 : decode prog_9_method_16_code 46 = .ok (.iconst 0, 1) := by decide +kernel
theorem d_To_seeOld_47 : decode prog_9_method_16_code 47 = .ok (.ireturn, 1) := by decide +kernel
def To_seeOld (Y : Ly) (l0 : Nat) (l1 : Nat) (l2 : Int32) (h : Hp) : Option (Bool × Hp) :=
  (To_isName Y l0 h).bind fun q1 =>
  if q1 = true then
    (Sh_numberOf Y l1 (hGl h 709 l0) l2 h).bind fun q3 =>
    letH (hSi h 710 l0 q3) fun h4 =>
    if (hGi h4 710 l0) = (-1) then
      (To_blame Y l0 3 h4).bind fun q6 =>
      if q6.1 = true then
        some (true, q6.2)
      else
        some (false, q6.2)
    else
      some (true, h4)
  else
    (To_blame Y l0 2 h).bind fun q8 =>
    some (q8.1, q8.2)
theorem ok_To_seeOld (Y : Ly) (l0 : Nat) (l1 : Nat) (l2 : Int32) (h : Hp) (t0 : isO Y 7 l0) (t1 : isO Y 4 l1) : AM Y 1 K_To_seeOld [.ref l0, .ref l1, .int l2] h (To_seeOld Y l0 l1 l2 h) rZ := by
  refine AM.of rfl (Nat.le_of_ble_eq_true rfl) ?_
  show AW Y 1 K_To_seeOld 0 [(0, .ref l0), (1, .ref l1), (2, .int l2)] [] h (To_seeOld Y l0 l1 l2 h) rZ
  unfold To_seeOld
  refine aw_aload_n (pc := 0) d_To_seeOld_0 rfl 0 rfl ?_
  refine aw_cVpZ (pc := 1) (ci := 7) (T := TX7) (N := 13) (As := []) (st := []) (ok_To_isName Y l0 h t0) okV_To_isName rfl (by decide) t0 w3_198 d_To_seeOld_1 rfl (Nat.le_of_ble_eq_true rfl) rfl (Nat.le_of_ble_eq_true rfl) (fun q1 hq1 hTq1 => ?_)
  refine aw_bne (pc := 4) (tgt := 13) d_To_seeOld_4 (by decide) (fun c2 => ?_) (fun c2 => ?_)
  · refine aw_aload_n (pc := 13) d_To_seeOld_13 rfl 0 rfl ?_
    refine aw_aload_n (pc := 14) d_To_seeOld_14 rfl 1 rfl ?_
    refine aw_aload_n (pc := 15) d_To_seeOld_15 rfl 0 rfl ?_
    refine gt_709 (pc := 16) d_To_seeOld_16 w1_101 t0 ?_
    refine aw_iload_n (pc := 19) d_To_seeOld_19 rfl 2 rfl ?_
    refine aw_cVpI (pc := 20) (ci := 4) (T := TX4) (N := 19) (As := [.long (hGl h 709 l0), .int l2]) (st := [.ref l0]) (ok_Sh_numberOf Y l1 (hGl h 709 l0) l2 h t1) okV_Sh_numberOf rfl (by decide) t1 w4_7 d_To_seeOld_20 rfl (Nat.le_of_ble_eq_true rfl) rfl (Nat.le_of_ble_eq_true rfl) (fun q3 hq3 hTq3 => ?_)
    refine pt_710 (pc := 23) d_To_seeOld_23 w1_102 t0 ?_
    refine aw_letH (fun h4 => ?_)
    refine aw_aload_n (pc := 26) d_To_seeOld_26 rfl 0 rfl ?_
    refine gt_710 (pc := 27) d_To_seeOld_27 w1_102 t0 ?_
    refine aw_iconst (pc := 30) (x := (-1)) d_To_seeOld_30 (by decide) ?_
    refine aw_icmp_ne (pc := 31) (tgt := 42) d_To_seeOld_31 (by decide) (fun c5 => ?_) (fun c5 => ?_)
    · refine aw_aload_n (pc := 34) d_To_seeOld_34 rfl 0 rfl ?_
      refine aw_iconst (pc := 35) (x := 3) d_To_seeOld_35 (by decide) ?_
      refine aw_cVrZ (pc := 36) (ci := 7) (T := TX7) (N := 13) (As := [.int 3]) (st := []) (ok_To_blame Y l0 3 h4 t0) okV_To_blame rfl (by decide) t0 w3_202 d_To_seeOld_36 rfl (Nat.le_of_ble_eq_true rfl) rfl (Nat.le_of_ble_eq_true rfl) (fun q6 hq6 hTq6 => ?_)
      refine aw_beq (pc := 39) (tgt := 46) d_To_seeOld_39 (by decide) (fun c7 => ?_) (fun c7 => ?_)
      · refine aw_iconst (pc := 42) (x := 1) d_To_seeOld_42 (by decide) ?_
        refine aw_goto (pc := 43) (tgt := 47) d_To_seeOld_43 (by decide) ?_
        exact aw_zreturn (pc := 47) (b := true) d_To_seeOld_47 rfl rfl
      · refine aw_iconst (pc := 46) (x := 0) d_To_seeOld_46 (by decide) ?_
        exact aw_zreturn (pc := 47) (b := false) d_To_seeOld_47 rfl rfl
    · refine aw_iconst (pc := 42) (x := 1) d_To_seeOld_42 (by decide) ?_
      refine aw_goto (pc := 43) (tgt := 47) d_To_seeOld_43 (by decide) ?_
      exact aw_zreturn (pc := 47) (b := true) d_To_seeOld_47 rfl rfl
  · refine aw_aload_n (pc := 7) d_To_seeOld_7 rfl 0 rfl ?_
    refine aw_iconst (pc := 8) (x := 2) d_To_seeOld_8 (by decide) ?_
    refine aw_cVrZ (pc := 9) (ci := 7) (T := TX7) (N := 13) (As := [.int 2]) (st := []) (ok_To_blame Y l0 2 h t0) okV_To_blame rfl (by decide) t0 w3_202 d_To_seeOld_9 rfl (Nat.le_of_ble_eq_true rfl) rfl (Nat.le_of_ble_eq_true rfl) (fun q8 hq8 hTq8 => ?_)
    exact aw_zreturn (pc := 12) (b := q8.1) d_To_seeOld_12 rfl rfl
/-! LastPages$ShelfReader.readTurns(LLastPages$Tokens;LLastPages$Shelf;I)Z -/
theorem d_SR_readTurns_0 : decode prog_7_method_9_code 0 = .ok (.aload_n 0, 1) := by decide +kernel
theorem d_SR_readTurns_1 : decode prog_7_method_9_code 1 = .ok (.iconst 0, 1) := by decide +kernel
theorem d_SR_readTurns_2 : decode prog_7_method_9_code 2 = .ok (.putfield 15, 3) := by decide +kernel
theorem d_SR_readTurns_5 : decode prog_7_method_9_code 5 = .ok (.iconst 0, 1) := by decide +kernel
theorem d_SR_readTurns_6 : decode prog_7_method_9_code 6 = .ok (.istore 4, 2) := by decide +kernel
theorem d_SR_readTurns_8 : decode prog_7_method_9_code 8 = .ok (.iload 4, 2) := by decide +kernel
theorem d_SR_readTurns_10 : decode prog_7_method_9_code 10 = .ok (.bipush 10, 2) := by decide +kernel
theorem d_SR_readTurns_12 : decode prog_7_method_9_code 12 = .ok (.if_icmp .gt 73, 3) := by decide +kernel
theorem d_SR_readTurns_15 : decode prog_7_method_9_code 15 = .ok (.aload_n 1, 1) := by decide +kernel
theorem d_SR_readTurns_16 : decode prog_7_method_9_code 16 = .ok (.invokevirtual 145, 3) := by decide +kernel
theorem d_SR_readTurns_19 : decode prog_7_method_9_code 19 = .ok (.ifCond .ne 66, 3) := by decide +kernel
theorem d_SR_readTurns_22 : decode prog_7_method_9_code 22 = .ok (.aload_n 1, 1) := by decide +kernel
theorem d_SR_readTurns_23 : decode prog_7_method_9_code 23 = .ok (.aload_n 2, 1) := by decide +kernel
theorem d_SR_readTurns_24 : decode prog_7_method_9_code 24 = .ok (.iconst 2, 1) := by decide +kernel
theorem d_SR_readTurns_25 : decode prog_7_method_9_code 25 = .ok (.invokevirtual 148, 3) := by decide +kernel
theorem d_SR_readTurns_28 : decode prog_7_method_9_code 28 = .ok (.ifCond .ne 5, 3) := by decide +kernel
theorem d_SR_readTurns_31 : decode prog_7_method_9_code 31 = .ok (.iconst 0, 1) := by decide +kernel
theorem d_SR_readTurns_32 : decode prog_7_method_9_code 32 = .ok (.ireturn, 1) := by decide +kernel
theorem d_SR_readTurns_33 : decode prog_7_method_9_code 33 = .ok (.iload 4, 2) := by decide +kernel
theorem d_SR_readTurns_35 : decode prog_7_method_9_code 35 = .ok (.iload_n 3, 1) := by decide +kernel
theorem d_SR_readTurns_36 : decode prog_7_method_9_code 36 = .ok (.if_icmp .ge 13, 3) := by decide +kernel
theorem d_SR_readTurns_39 : decode prog_7_method_9_code 39 = .ok (.iload 4, 2) := by decide +kernel
theorem d_SR_readTurns_41 : decode prog_7_method_9_code 41 = .ok (.aload_n 0, 1) := by decide +kernel
theorem d_SR_readTurns_42 : decode prog_7_method_9_code 42 = .ok (.getfield 9, 3) := by decide +kernel
theorem d_SR_readTurns_45 : decode prog_7_method_9_code 45 = .ok (.arraylength, 1) := by decide +kernel
theorem d_SR_readTurns_46 : decode prog_7_method_9_code 46 = .ok (.if_icmp .lt 10, 3) := by decide +kernel
theorem d_SR_readTurns_49 : decode prog_7_method_9_code 49 = .ok (.aload_n 1, 1) := by decide +kernel
theorem d_SR_readTurns_50 : decode prog_7_method_9_code 50 = .ok (.bipush 6, 2) := by decide +kernel
theorem d_SR_readTurns_52 : decode prog_7_method_9_code 52 = .ok (.invokevirtual 75, 3) := by decide +kernel
theorem d_SR_readTurns_55 : decode prog_7_method_9_code 55 = .ok (.ireturn, 1) := by decide +kernel
theorem d_SR_readTurns_56 : decode prog_7_method_9_code 56 = .ok (.aload_n 0, 1) := by decide +kernel
theorem d_SR_readTurns_57 : decode prog_7_method_9_code 57 = .ok (.getfield 9, 3) := by decide +kernel
theorem d_SR_readTurns_60 : decode prog_7_method_9_code 60 = .ok (.iload 4, 2) := by decide +kernel
theorem d_SR_readTurns_62 : decode prog_7_method_9_code 62 = .ok (.aload_n 1, 1) := by decide +kernel
theorem d_SR_readTurns_63 : decode prog_7_method_9_code 63 = .ok (.getfield 110, 3) := by decide +kernel
theorem d_SR_readTurns_66 : decode prog_7_method_9_code 66 = .ok (.iastore, 1) := by decide +kernel
theorem d_SR_readTurns_67 : decode prog_7_method_9_code 67 = .ok (.aload_n 0, 1) := by decide +kernel
theorem d_SR_readTurns_68 : decode prog_7_method_9_code 68 = .ok (.iload 4, 2) := by decide +kernel
theorem d_SR_readTurns_70 : decode prog_7_method_9_code 70 = .ok (.iconst 1, 1) := by decide +kernel
theorem d_SR_readTurns_71 : decode prog_7_method_9_code 71 = .ok (.iadd, 1) := by decide +kernel
theorem d_SR_readTurns_72 : decode prog_7_method_9_code 72 = .ok (.putfield 15, 3) := by decide +kernel
theorem d_SR_readTurns_75 : decode prog_7_method_9_code 75 = .ok (.aload_n 1, 1) := by decide +kernel
theorem d_SR_readTurns_76 : decode prog_7_method_9_code 76 = .ok (.invokevirtual 88, 3) := by decide +kernel
theorem d_SR_readTurns_79 : decode prog_7_method_9_code 79 = .ok (.iinc 4 1, 3) := by decide +kernel
theorem d_SR_readTurns_82 : decode prog_7_method_9_code 82 = .ok (.goto (-74), 3) := by decide +kernel
theorem d_SR_readTurns_85 : decode prog_7_method_9_code 85 = .ok (.iconst 1, 1) := by decide +kernel
theorem d_SR_readTurns_86 : decode prog_7_method_9_code 86 = .ok (.ireturn, 1) := by decide +kernel
def SR_readTurns_L8 (Y : Ly) (l0 : Nat) (l1 : Nat) (l2 : Nat) (l3 : Int32) : Nat → Int32 → Hp → Option (Bool × Hp)
  | 0, _, _ => none
  | F + 1, l4, h =>
    if 10 < l4 then
      some (true, h)
    else
      (To_isSemicolon Y l1 h).bind fun q3 =>
      if q3 = true then
        some (true, h)
      else
        (To_seeOld Y l1 l2 2 h).bind fun q5 =>
        if q5.1 = true then
          if l3 ≤ l4 then
            (To_blame Y l1 6 q5.2).bind fun q8 =>
            some (q8.1, q8.2)
          else
            if l4 < (Int32.ofNat (lnY Y (hGr q5.2 500 l0))) then
              if inB l4 (lnY Y (hGr q5.2 500 l0)) = true then
                letH (hTi q5.2 (hGr q5.2 500 l0) (Int32.toNatClampNeg l4) (hGi q5.2 710 l1)) fun h13 =>
                letH (hSi h13 501 l0 (l4 + 1)) fun h14 =>
                (To_advance Y l1 h14).bind fun q15 =>
                SR_readTurns_L8 Y l0 l1 l2 l3 F (l4 + 1) q15
              else none
            else
              (To_blame Y l1 6 q5.2).bind fun q16 =>
              some (q16.1, q16.2)
        else
          some (false, q5.2)
theorem SR_readTurns_L8_ok (Y : Ly) (l0 : Nat) (l1 : Nat) (l2 : Nat) (l3 : Int32) (tl0 : isO Y 5 l0) (tl1 : isO Y 7 l1) (tl2 : isO Y 4 l2) : ∀ (F : Nat) (l4 : Int32) (h : Hp), AW Y 2 K_SR_readTurns 8 [(0, .ref l0), (1, .ref l1), (2, .ref l2), (3, .int l3), (4, .int l4)] [] h (SR_readTurns_L8 Y l0 l1 l2 l3 F l4 h) rZ := by
  intro F
  induction F with
  | zero =>
    intro l4 h
    exact aw_none
  | succ F ih =>
    intro l4 h
    unfold SR_readTurns_L8
    refine aw_iload (pc := 8) d_SR_readTurns_8 4 rfl ?_
    refine aw_bipush (pc := 10) (x := 10) d_SR_readTurns_10 (by decide) ?_
    refine aw_icmp_gt (pc := 12) (tgt := 85) d_SR_readTurns_12 (by decide) (fun c2 => ?_) (fun c2 => ?_)
    · refine aw_iconst (pc := 85) (x := 1) d_SR_readTurns_85 (by decide) ?_
      exact aw_zreturn (pc := 86) (b := true) d_SR_readTurns_86 rfl rfl
    · refine aw_aload_n (pc := 15) d_SR_readTurns_15 rfl 1 rfl ?_
      refine aw_cVpZ (pc := 16) (ci := 7) (T := TX7) (N := 13) (As := []) (st := []) (ok_To_isSemicolon Y l1 h tl1) okV_To_isSemicolon rfl (by decide) tl1 w4_35 d_SR_readTurns_16 rfl (Nat.le_of_ble_eq_true rfl) rfl (Nat.le_of_ble_eq_true rfl) (fun q3 hq3 hTq3 => ?_)
      refine aw_bne (pc := 19) (tgt := 85) d_SR_readTurns_19 (by decide) (fun c4 => ?_) (fun c4 => ?_)
      · refine aw_iconst (pc := 85) (x := 1) d_SR_readTurns_85 (by decide) ?_
        exact aw_zreturn (pc := 86) (b := true) d_SR_readTurns_86 rfl rfl
      · refine aw_aload_n (pc := 22) d_SR_readTurns_22 rfl 1 rfl ?_
        refine aw_aload_n (pc := 23) d_SR_readTurns_23 rfl 2 rfl ?_
        refine aw_iconst (pc := 24) (x := 2) d_SR_readTurns_24 (by decide) ?_
        refine aw_cVrZ (pc := 25) (ci := 7) (T := TX7) (N := 13) (As := [.ref l2, .int 2]) (st := []) (ok_To_seeOld Y l1 l2 2 h tl1 tl2) okV_To_seeOld rfl (by decide) tl1 w4_36 d_SR_readTurns_25 rfl (Nat.le_of_ble_eq_true rfl) rfl (Nat.le_of_ble_eq_true rfl) (fun q5 hq5 hTq5 => ?_)
        refine aw_bne (pc := 28) (tgt := 33) d_SR_readTurns_28 (by decide) (fun c6 => ?_) (fun c6 => ?_)
        · refine aw_iload (pc := 33) d_SR_readTurns_33 4 rfl ?_
          refine aw_iload_n (pc := 35) d_SR_readTurns_35 rfl 3 rfl ?_
          refine aw_icmp_ge (pc := 36) (tgt := 49) d_SR_readTurns_36 (by decide) (fun c7 => ?_) (fun c7 => ?_)
          · refine aw_aload_n (pc := 49) d_SR_readTurns_49 rfl 1 rfl ?_
            refine aw_bipush (pc := 50) (x := 6) d_SR_readTurns_50 (by decide) ?_
            refine aw_cVrZ (pc := 52) (ci := 7) (T := TX7) (N := 13) (As := [.int 6]) (st := []) (ok_To_blame Y l1 6 q5.2 tl1) okV_To_blame rfl (by decide) tl1 w3_189 d_SR_readTurns_52 rfl (Nat.le_of_ble_eq_true rfl) rfl (Nat.le_of_ble_eq_true rfl) (fun q8 hq8 hTq8 => ?_)
            exact aw_zreturn (pc := 55) (b := q8.1) d_SR_readTurns_55 rfl rfl
          · refine aw_iload (pc := 39) d_SR_readTurns_39 4 rfl ?_
            refine aw_aload_n (pc := 41) d_SR_readTurns_41 rfl 0 rfl ?_
            refine gt_500 (pc := 42) d_SR_readTurns_42 w1_144 tl0 (fun tt9 => ?_)
            refine aw_alen20 (pc := 45) d_SR_readTurns_45 tt9 ?_
            refine aw_icmp_lt (pc := 46) (tgt := 56) d_SR_readTurns_46 (by decide) (fun c10 => ?_) (fun c10 => ?_)
            · refine aw_aload_n (pc := 56) d_SR_readTurns_56 rfl 0 rfl ?_
              refine gt_500 (pc := 57) d_SR_readTurns_57 w1_144 tl0 (fun tt11 => ?_)
              refine aw_iload (pc := 60) d_SR_readTurns_60 4 rfl ?_
              refine aw_aload_n (pc := 62) d_SR_readTurns_62 rfl 1 rfl ?_
              refine gt_710 (pc := 63) d_SR_readTurns_63 w1_103 tl1 ?_
              refine aw_iastore (pc := 66) d_SR_readTurns_66 tt11 (fun c12 => ?_)
              refine aw_letH (fun h13 => ?_)
              refine aw_aload_n (pc := 67) d_SR_readTurns_67 rfl 0 rfl ?_
              refine aw_iload (pc := 68) d_SR_readTurns_68 4 rfl ?_
              refine aw_iconst (pc := 70) (x := 1) d_SR_readTurns_70 (by decide) ?_
              refine aw_iadd (pc := 71) d_SR_readTurns_71 ?_
              refine pt_501 (pc := 72) d_SR_readTurns_72 w1_145 tl0 ?_
              refine aw_letH (fun h14 => ?_)
              refine aw_aload_n (pc := 75) d_SR_readTurns_75 rfl 1 rfl ?_
              refine aw_cVrV (pc := 76) (ci := 7) (T := TX7) (N := 13) (As := []) (st := []) (ok_To_advance Y l1 h14 tl1) okV_To_advance rfl (by decide) tl1 w3_193 d_SR_readTurns_76 rfl (Nat.le_of_ble_eq_true rfl) rfl (Nat.le_of_ble_eq_true rfl) (fun q15 hq15 hTq15 => ?_)
              refine aw_iinc (pc := 79) (w := l4 + 1) (lv' := [(4, .int (l4 + 1)), (0, .ref l0), (1, .ref l1), (2, .ref l2), (3, .int l3)]) d_SR_readTurns_79 4 rfl rfl (by decide) rfl ?_
              refine aw_goto (pc := 82) (tgt := 8) d_SR_readTurns_82 (by decide) ?_
              exact aw_lv [1, 2, 3, 4, 0] rfl (ih (l4 + 1) q15)
            · refine aw_aload_n (pc := 49) d_SR_readTurns_49 rfl 1 rfl ?_
              refine aw_bipush (pc := 50) (x := 6) d_SR_readTurns_50 (by decide) ?_
              refine aw_cVrZ (pc := 52) (ci := 7) (T := TX7) (N := 13) (As := [.int 6]) (st := []) (ok_To_blame Y l1 6 q5.2 tl1) okV_To_blame rfl (by decide) tl1 w3_189 d_SR_readTurns_52 rfl (Nat.le_of_ble_eq_true rfl) rfl (Nat.le_of_ble_eq_true rfl) (fun q16 hq16 hTq16 => ?_)
              exact aw_zreturn (pc := 55) (b := q16.1) d_SR_readTurns_55 rfl rfl
        · refine aw_iconst (pc := 31) (x := 0) d_SR_readTurns_31 (by decide) ?_
          exact aw_zreturn (pc := 32) (b := false) d_SR_readTurns_32 rfl rfl
def SR_readTurns (Y : Ly) (l0 : Nat) (l1 : Nat) (l2 : Nat) (l3 : Int32) (h : Hp) : Option (Bool × Hp) :=
  letH (hSi h 501 l0 0) fun h1 =>
  SR_readTurns_L8 Y l0 l1 l2 l3 FU 0 h1
theorem ok_SR_readTurns (Y : Ly) (l0 : Nat) (l1 : Nat) (l2 : Nat) (l3 : Int32) (h : Hp) (t0 : isO Y 5 l0) (t1 : isO Y 7 l1) (t2 : isO Y 4 l2) : AM Y 2 K_SR_readTurns [.ref l0, .ref l1, .ref l2, .int l3] h (SR_readTurns Y l0 l1 l2 l3 h) rZ := by
  refine AM.of rfl (Nat.le_of_ble_eq_true rfl) ?_
  show AW Y 2 K_SR_readTurns 0 [(0, .ref l0), (1, .ref l1), (2, .ref l2), (3, .int l3)] [] h (SR_readTurns Y l0 l1 l2 l3 h) rZ
  unfold SR_readTurns
  refine aw_aload_n (pc := 0) d_SR_readTurns_0 rfl 0 rfl ?_
  refine aw_iconst (pc := 1) (x := 0) d_SR_readTurns_1 (by decide) ?_
  refine pt_501 (pc := 2) d_SR_readTurns_2 w1_145 t0 ?_
  refine aw_letH (fun h1 => ?_)
  refine aw_iconst (pc := 5) (x := 0) d_SR_readTurns_5 (by decide) ?_
  refine aw_istore (pc := 6) (lv' := [(4, .int 0), (0, .ref l0), (1, .ref l1), (2, .ref l2), (3, .int l3)]) d_SR_readTurns_6 (by decide) rfl ?_
  exact aw_lv [1, 2, 3, 4, 0] rfl (SR_readTurns_L8_ok Y l0 l1 l2 l3 t0 t1 t2 FU 0 h1)
/-! LastPages$Shelf.addName(JII)V -/
theorem d_Sh_addName_0 : decode prog_6_method_4_code 0 = .ok (.aload_n 0, 1) := by decide +kernel
theorem d_Sh_addName_1 : decode prog_6_method_4_code 1 = .ok (.getfield 69, 3) := by decide +kernel
theorem d_Sh_addName_4 : decode prog_6_method_4_code 4 = .ok (.bipush 50, 2) := by decide +kernel
theorem d_Sh_addName_6 : decode prog_6_method_4_code 6 = .ok (.if_icmp .ge 44, 3) := by decide +kernel
theorem d_Sh_addName_9 : decode prog_6_method_4_code 9 = .ok (.aload_n 0, 1) := by decide +kernel
theorem d_Sh_addName_10 : decode prog_6_method_4_code 10 = .ok (.getfield 30, 3) := by decide +kernel
theorem d_Sh_addName_13 : decode prog_6_method_4_code 13 = .ok (.aload_n 0, 1) := by decide +kernel
theorem d_Sh_addName_14 : decode prog_6_method_4_code 14 = .ok (.getfield 69, 3) := by decide +kernel
theorem d_Sh_addName_17 : decode prog_6_method_4_code 17 = .ok (.lload_n 1, 1) := by decide +kernel
theorem d_Sh_addName_18 : decode prog_6_method_4_code 18 = .ok (.lastore, 1) := by decide +kernel
theorem d_Sh_addName_19 : decode prog_6_method_4_code 19 = .ok (.aload_n 0, 1) := by decide +kernel
theorem d_Sh_addName_20 : decode prog_6_method_4_code 20 = .ok (.getfield 34, 3) := by decide +kernel
theorem d_Sh_addName_23 : decode prog_6_method_4_code 23 = .ok (.aload_n 0, 1) := by decide +kernel
theorem d_Sh_addName_24 : decode prog_6_method_4_code 24 = .ok (.getfield 69, 3) := by decide +kernel
theorem d_Sh_addName_27 : decode prog_6_method_4_code 27 = .ok (.iload_n 3, 1) := by decide +kernel
theorem d_Sh_addName_28 : decode prog_6_method_4_code 28 = .ok (.iastore, 1) := by decide +kernel
theorem d_Sh_addName_29 : decode prog_6_method_4_code 29 = .ok (.aload_n 0, 1) := by decide +kernel
theorem d_Sh_addName_30 : decode prog_6_method_4_code 30 = .ok (.getfield 38, 3) := by decide +kernel
theorem d_Sh_addName_33 : decode prog_6_method_4_code 33 = .ok (.aload_n 0, 1) := by decide +kernel
theorem d_Sh_addName_34 : decode prog_6_method_4_code 34 = .ok (.getfield 69, 3) := by decide +kernel
theorem d_Sh_addName_37 : decode prog_6_method_4_code 37 = .ok (.iload 4, 2) := by decide +kernel
theorem d_Sh_addName_39 : decode prog_6_method_4_code 39 = .ok (.iastore, 1) := by decide +kernel
theorem d_Sh_addName_40 : decode prog_6_method_4_code 40 = .ok (.aload_n 0, 1) := by decide +kernel
theorem d_Sh_addName_41 : decode prog_6_method_4_code 41 = .ok (.dup, 1) := by decide +kernel
theorem d_Sh_addName_42 : decode prog_6_method_4_code 42 = .ok (.getfield 69, 3) := by decide +kernel
theorem d_Sh_addName_45 : decode prog_6_method_4_code 45 = .ok (.iconst 1, 1) := by decide +kernel
theorem d_Sh_addName_46 : decode prog_6_method_4_code 46 = .ok (.iadd, 1) := by decide +kernel
theorem d_Sh_addName_47 : decode prog_6_method_4_code 47 = .ok (.putfield 69, 3) := by decide +kernel
theorem d_Sh_addName_50 : decode prog_6_method_4_code 50 = .ok (.return_, 1) := by decide +kernel
def Sh_addName (Y : Ly) (l0 : Nat) (l1 : Int64) (l3 : Int32) (l4 : Int32) (h : Hp) : Option Hp :=
  if 50 ≤ (hGi h 414 l0) then
    some h
  else
    if inB (hGi h 414 l0) (lnY Y (hGr h 403 l0)) = true then
      letH (hTl h (hGr h 403 l0) (Int32.toNatClampNeg (hGi h 414 l0)) l1) fun h4 =>
      if inB (hGi h4 414 l0) (lnY Y (hGr h4 404 l0)) = true then
        letH (hTi h4 (hGr h4 404 l0) (Int32.toNatClampNeg (hGi h4 414 l0)) l3) fun h7 =>
        if inB (hGi h7 414 l0) (lnY Y (hGr h7 405 l0)) = true then
          letH (hTi h7 (hGr h7 405 l0) (Int32.toNatClampNeg (hGi h7 414 l0)) l4) fun h10 =>
          letH (hSi h10 414 l0 ((hGi h10 414 l0) + 1)) fun h11 =>
          some h11
        else none
      else none
    else none
theorem ok_Sh_addName (Y : Ly) (l0 : Nat) (l1 : Int64) (l3 : Int32) (l4 : Int32) (h : Hp) (t0 : isO Y 4 l0) : AM Y 0 K_Sh_addName [.ref l0, .long l1, .int l3, .int l4] h (Sh_addName Y l0 l1 l3 l4 h) rV := by
  refine AM.of rfl (Nat.le_of_ble_eq_true rfl) ?_
  show AW Y 0 K_Sh_addName 0 [(0, .ref l0), (1, .long l1), (3, .int l3), (4, .int l4)] [] h (Sh_addName Y l0 l1 l3 l4 h) rV
  unfold Sh_addName
  refine aw_aload_n (pc := 0) d_Sh_addName_0 rfl 0 rfl ?_
  refine gt_414 (pc := 1) d_Sh_addName_1 w2_157 t0 ?_
  refine aw_bipush (pc := 4) (x := 50) d_Sh_addName_4 (by decide) ?_
  refine aw_icmp_ge (pc := 6) (tgt := 50) d_Sh_addName_6 (by decide) (fun c1 => ?_) (fun c1 => ?_)
  · exact aw_return (pc := 50) d_Sh_addName_50 rfl rfl
  · refine aw_aload_n (pc := 9) d_Sh_addName_9 rfl 0 rfl ?_
    refine gt_403 (pc := 10) d_Sh_addName_10 w2_136 t0 (fun tt2 => ?_)
    refine aw_aload_n (pc := 13) d_Sh_addName_13 rfl 0 rfl ?_
    refine gt_414 (pc := 14) d_Sh_addName_14 w2_157 t0 ?_
    refine aw_lload_n (pc := 17) d_Sh_addName_17 rfl 1 rfl ?_
    refine aw_lastore (pc := 18) d_Sh_addName_18 tt2 (fun c3 => ?_)
    refine aw_letH (fun h4 => ?_)
    refine aw_aload_n (pc := 19) d_Sh_addName_19 rfl 0 rfl ?_
    refine gt_404 (pc := 20) d_Sh_addName_20 w2_137 t0 (fun tt5 => ?_)
    refine aw_aload_n (pc := 23) d_Sh_addName_23 rfl 0 rfl ?_
    refine gt_414 (pc := 24) d_Sh_addName_24 w2_157 t0 ?_
    refine aw_iload_n (pc := 27) d_Sh_addName_27 rfl 2 rfl ?_
    refine aw_iastore (pc := 28) d_Sh_addName_28 tt5 (fun c6 => ?_)
    refine aw_letH (fun h7 => ?_)
    refine aw_aload_n (pc := 29) d_Sh_addName_29 rfl 0 rfl ?_
    refine gt_405 (pc := 30) d_Sh_addName_30 w2_138 t0 (fun tt8 => ?_)
    refine aw_aload_n (pc := 33) d_Sh_addName_33 rfl 0 rfl ?_
    refine gt_414 (pc := 34) d_Sh_addName_34 w2_157 t0 ?_
    refine aw_iload (pc := 37) d_Sh_addName_37 3 rfl ?_
    refine aw_iastore (pc := 39) d_Sh_addName_39 tt8 (fun c9 => ?_)
    refine aw_letH (fun h10 => ?_)
    refine aw_aload_n (pc := 40) d_Sh_addName_40 rfl 0 rfl ?_
    refine aw_dup (pc := 41) d_Sh_addName_41 rfl ?_
    refine gt_414 (pc := 42) d_Sh_addName_42 w2_157 t0 ?_
    refine aw_iconst (pc := 45) (x := 1) d_Sh_addName_45 (by decide) ?_
    refine aw_iadd (pc := 46) d_Sh_addName_46 ?_
    refine pt_414 (pc := 47) d_Sh_addName_47 w2_157 t0 ?_
    refine aw_letH (fun h11 => ?_)
    exact aw_return (pc := 50) d_Sh_addName_50 rfl rfl
/-! LastPages$Shelf.hasName(J)Z -/
theorem d_Sh_hasName_0 : decode prog_6_method_5_code 0 = .ok (.iconst 0, 1) := by decide +kernel
theorem d_Sh_hasName_1 : decode prog_6_method_5_code 1 = .ok (.istore_n 3, 1) := by decide +kernel
theorem d_Sh_hasName_2 : decode prog_6_method_5_code 2 = .ok (.iload_n 3, 1) := by decide +kernel
theorem d_Sh_hasName_3 : decode prog_6_method_5_code 3 = .ok (.aload_n 0, 1) := by decide +kernel
theorem d_Sh_hasName_4 : decode prog_6_method_5_code 4 = .ok (.getfield 69, 3) := by decide +kernel
theorem d_Sh_hasName_7 : decode prog_6_method_5_code 7 = .ok (.if_icmp .ge 22, 3) := by decide +kernel
theorem d_Sh_hasName_10 : decode prog_6_method_5_code 10 = .ok (.aload_n 0, 1) := by decide +kernel
theorem d_Sh_hasName_11 : decode prog_6_method_5_code 11 = .ok (.getfield 30, 3) := by decide +kernel
theorem d_Sh_hasName_14 : decode prog_6_method_5_code 14 = .ok (.iload_n 3, 1) := by decide +kernel
theorem d_Sh_hasName_15 : decode prog_6_method_5_code 15 = .ok (.laload, 1) := by decide +kernel
theorem d_Sh_hasName_16 : decode prog_6_method_5_code 16 = .ok (.lload_n 1, 1) := by decide +kernel
theorem d_Sh_hasName_17 : decode prog_6_method_5_code 17 = .ok (.lcmp, 1) := by decide +kernel
theorem d_Sh_hasName_18 : decode prog_6_method_5_code 18 = .ok (.ifCond .ne 5, 3) := by decide +kernel
theorem d_Sh_hasName_21 : decode prog_6_method_5_code 21 = .ok (.iconst 1, 1) := by decide +kernel
theorem d_Sh_hasName_22 : decode prog_6_method_5_code 22 = .ok (.ireturn, 1) := by decide +kernel
theorem d_Sh_hasName_23 : decode prog_6_method_5_code 23 = .ok (.iinc 3 1, 3) := by decide +kernel
theorem d_Sh_hasName_26 : decode prog_6_method_5_code 26 = .ok (.goto (-24), 3) := by decide +kernel
theorem d_Sh_hasName_29 : decode prog_6_method_5_code 29 = .ok (.iconst 0, 1) := by decide +kernel
theorem d_Sh_hasName_30 : decode prog_6_method_5_code 30 = .ok (.ireturn, 1) := by decide +kernel
def Sh_hasName_L2 (Y : Ly) (l0 : Nat) (l1 : Int64) (h : Hp) : Nat → Int32 → Option Bool
  | 0, _ => none
  | F + 1, l3 =>
    if (hGi h 414 l0) ≤ l3 then
      some false
    else
      if inB l3 (lnY Y (hGr h 403 l0)) = true then
        if (hAl h (hGr h 403 l0) (Int32.toNatClampNeg l3)) = l1 then
          some true
        else
          Sh_hasName_L2 Y l0 l1 h F (l3 + 1)
      else none
theorem Sh_hasName_L2_ok (Y : Ly) (l0 : Nat) (l1 : Int64) (h : Hp) (tl0 : isO Y 4 l0) : ∀ (F : Nat) (l3 : Int32), AW Y 0 K_Sh_hasName 2 [(0, .ref l0), (1, .long l1), (3, .int l3)] [] h (Sh_hasName_L2 Y l0 l1 h F l3) (pZ h) := by
  intro F
  induction F with
  | zero =>
    intro l3
    exact aw_none
  | succ F ih =>
    intro l3
    unfold Sh_hasName_L2
    refine aw_iload_n (pc := 2) d_Sh_hasName_2 rfl 2 rfl ?_
    refine aw_aload_n (pc := 3) d_Sh_hasName_3 rfl 0 rfl ?_
    refine gt_414 (pc := 4) d_Sh_hasName_4 w2_157 tl0 ?_
    refine aw_icmp_ge (pc := 7) (tgt := 29) d_Sh_hasName_7 (by decide) (fun c1 => ?_) (fun c1 => ?_)
    · refine aw_iconst (pc := 29) (x := 0) d_Sh_hasName_29 (by decide) ?_
      exact aw_zreturn (pc := 30) (b := false) d_Sh_hasName_30 rfl rfl
    · refine aw_aload_n (pc := 10) d_Sh_hasName_10 rfl 0 rfl ?_
      refine gt_403 (pc := 11) d_Sh_hasName_11 w2_136 tl0 (fun tt2 => ?_)
      refine aw_iload_n (pc := 14) d_Sh_hasName_14 rfl 2 rfl ?_
      refine aw_laload (pc := 15) d_Sh_hasName_15 tt2 (fun c3 => ?_)
      refine aw_lload_n (pc := 16) d_Sh_hasName_16 rfl 1 rfl ?_
      refine aw_lcmp_ne (pc := 17) (tgt := 23) d_Sh_hasName_17 d_Sh_hasName_18 (by decide) (fun c4 => ?_) (fun c4 => ?_)
      · refine aw_iconst (pc := 21) (x := 1) d_Sh_hasName_21 (by decide) ?_
        exact aw_zreturn (pc := 22) (b := true) d_Sh_hasName_22 rfl rfl
      · refine aw_iinc (pc := 23) (w := l3 + 1) (lv' := [(3, .int (l3 + 1)), (0, .ref l0), (1, .long l1)]) d_Sh_hasName_23 2 rfl rfl (by decide) rfl ?_
        refine aw_goto (pc := 26) (tgt := 2) d_Sh_hasName_26 (by decide) ?_
        exact aw_lv [1, 2, 0] rfl (ih (l3 + 1))
def Sh_hasName (Y : Ly) (l0 : Nat) (l1 : Int64) (h : Hp) : Option Bool :=
  Sh_hasName_L2 Y l0 l1 h FU 0
theorem ok_Sh_hasName (Y : Ly) (l0 : Nat) (l1 : Int64) (h : Hp) (t0 : isO Y 4 l0) : AM Y 0 K_Sh_hasName [.ref l0, .long l1] h (Sh_hasName Y l0 l1 h) (pZ h) := by
  refine AM.of rfl (Nat.le_of_ble_eq_true rfl) ?_
  show AW Y 0 K_Sh_hasName 0 [(0, .ref l0), (1, .long l1)] [] h (Sh_hasName Y l0 l1 h) (pZ h)
  unfold Sh_hasName
  refine aw_iconst (pc := 0) (x := 0) d_Sh_hasName_0 (by decide) ?_
  refine aw_istore_n (pc := 1) (lv' := [(3, .int 0), (0, .ref l0), (1, .long l1)]) d_Sh_hasName_1 rfl (by decide) rfl ?_
  exact aw_lv [1, 2, 0] rfl (Sh_hasName_L2_ok Y l0 l1 h t0 FU 0)
/-! LastPages$Tokens.passNew(LLastPages$Shelf;II)Z -/
theorem d_To_passNew_0 : decode prog_9_method_15_code 0 = .ok (.aload_n 0, 1) := by decide +kernel
theorem d_To_passNew_1 : decode prog_9_method_15_code 1 = .ok (.invokevirtual 92, 3) := by decide +kernel
theorem d_To_passNew_4 : decode prog_9_method_15_code 4 = .ok (.ifCond .ne 9, 3) := by decide +kernel
theorem d_To_passNew_7 : decode prog_9_method_15_code 7 = .ok (.aload_n 0, 1) := by decide +kernel
theorem d_To_passNew_8 : decode prog_9_method_15_code 8 = .ok (.iconst 2, 1) := by decide +kernel
theorem d_To_passNew_9 : decode prog_9_method_15_code 9 = .ok (.invokevirtual 88, 3) := by decide +kernel
theorem d_To_passNew_12 : decode prog_9_method_15_code 12 = .ok (.ireturn, 1) := by decide +kernel
theorem d_To_passNew_13 : decode prog_9_method_15_code 13 = .ok (.aload_n 1, 1) := by decide +kernel
theorem d_To_passNew_14 : decode prog_9_method_15_code 14 = .ok (.aload_n 0, 1) := by decide +kernel
theorem d_To_passNew_15 : decode prog_9_method_15_code 15 = .ok (.getfield 41, 3) := by decide +kernel
theorem d_To_passNew_18 : decode prog_9_method_15_code 18 = .ok (.invokevirtual 95, 3) := by decide +kernel
theorem d_To_passNew_21 : decode prog_9_method_15_code 21 = .ok (.ifCond .eq 9, 3) := by decide +kernel
theorem d_To_passNew_24 : decode prog_9_method_15_code 24 = .ok (.aload_n 0, 1) := by decide +kernel
theorem d_To_passNew_25 : decode prog_9_method_15_code 25 = .ok (.iconst 3, 1) := by decide +kernel
theorem d_To_passNew_26 : decode prog_9_method_15_code 26 = .ok (.invokevirtual 88, 3) := by decide +kernel
theorem d_To_passNew_29 : decode prog_9_method_15_code 29 = .ok (.ireturn, 1) := by decide +kernel
theorem d_To_passNew_30 : decode prog_9_method_15_code 30 = .ok (.aload_n 1, 1) := by decide +kernel
theorem d_To_passNew_31 : decode prog_9_method_15_code 31 = .ok (.aload_n 0, 1) := by decide +kernel
theorem d_To_passNew_32 : decode prog_9_method_15_code 32 = .ok (.getfield 41, 3) := by decide +kernel
theorem d_To_passNew_35 : decode prog_9_method_15_code 35 = .ok (.iload_n 2, 1) := by decide +kernel
theorem d_To_passNew_36 : decode prog_9_method_15_code 36 = .ok (.iload_n 3, 1) := by decide +kernel
theorem d_To_passNew_37 : decode prog_9_method_15_code 37 = .ok (.invokevirtual 101, 3) := by decide +kernel
theorem d_To_passNew_40 : decode prog_9_method_15_code 40 = .ok (.aload_n 0, 1) := by decide +kernel
theorem d_To_passNew_41 : decode prog_9_method_15_code 41 = .ok (.invokevirtual 71, 3) := by decide +kernel
theorem d_To_passNew_44 : decode prog_9_method_15_code 44 = .ok (.iconst 1, 1) := by decide +kernel
theorem d_To_passNew_45 : decode prog_9_method_15_code 45 = .ok (.ireturn, 1) := by decide +kernel
def To_passNew (Y : Ly) (l0 : Nat) (l1 : Nat) (l2 : Int32) (l3 : Int32) (h : Hp) : Option (Bool × Hp) :=
  (To_isName Y l0 h).bind fun q1 =>
  if q1 = true then
    (Sh_hasName Y l1 (hGl h 709 l0) h).bind fun q3 =>
    if q3 = true then
      (To_blame Y l0 3 h).bind fun q5 =>
      some (q5.1, q5.2)
    else
      (Sh_addName Y l1 (hGl h 709 l0) l2 l3 h).bind fun q6 =>
      (To_advance Y l0 q6).bind fun q7 =>
      some (true, q7)
  else
    (To_blame Y l0 2 h).bind fun q8 =>
    some (q8.1, q8.2)
theorem ok_To_passNew (Y : Ly) (l0 : Nat) (l1 : Nat) (l2 : Int32) (l3 : Int32) (h : Hp) (t0 : isO Y 7 l0) (t1 : isO Y 4 l1) : AM Y 2 K_To_passNew [.ref l0, .ref l1, .int l2, .int l3] h (To_passNew Y l0 l1 l2 l3 h) rZ := by
  refine AM.of rfl (Nat.le_of_ble_eq_true rfl) ?_
  show AW Y 2 K_To_passNew 0 [(0, .ref l0), (1, .ref l1), (2, .int l2), (3, .int l3)] [] h (To_passNew Y l0 l1 l2 l3 h) rZ
  unfold To_passNew
  refine aw_aload_n (pc := 0) d_To_passNew_0 rfl 0 rfl ?_
  refine aw_cVpZ (pc := 1) (ci := 7) (T := TX7) (N := 13) (As := []) (st := []) (ok_To_isName Y l0 h t0) okV_To_isName rfl (by decide) t0 w3_198 d_To_passNew_1 rfl (Nat.le_of_ble_eq_true rfl) rfl (Nat.le_of_ble_eq_true rfl) (fun q1 hq1 hTq1 => ?_)
  refine aw_bne (pc := 4) (tgt := 13) d_To_passNew_4 (by decide) (fun c2 => ?_) (fun c2 => ?_)
  · refine aw_aload_n (pc := 13) d_To_passNew_13 rfl 1 rfl ?_
    refine aw_aload_n (pc := 14) d_To_passNew_14 rfl 0 rfl ?_
    refine gt_709 (pc := 15) d_To_passNew_15 w1_101 t0 ?_
    refine aw_cVpZ (pc := 18) (ci := 4) (T := TX4) (N := 19) (As := [.long (hGl h 709 l0)]) (st := []) (ok_Sh_hasName Y l1 (hGl h 709 l0) h t1) okV_Sh_hasName rfl (by decide) t1 w3_203 d_To_passNew_18 rfl (Nat.le_of_ble_eq_true rfl) rfl (Nat.le_of_ble_eq_true rfl) (fun q3 hq3 hTq3 => ?_)
    refine aw_beq (pc := 21) (tgt := 30) d_To_passNew_21 (by decide) (fun c4 => ?_) (fun c4 => ?_)
    · refine aw_aload_n (pc := 24) d_To_passNew_24 rfl 0 rfl ?_
      refine aw_iconst (pc := 25) (x := 3) d_To_passNew_25 (by decide) ?_
      refine aw_cVrZ (pc := 26) (ci := 7) (T := TX7) (N := 13) (As := [.int 3]) (st := []) (ok_To_blame Y l0 3 h t0) okV_To_blame rfl (by decide) t0 w3_202 d_To_passNew_26 rfl (Nat.le_of_ble_eq_true rfl) rfl (Nat.le_of_ble_eq_true rfl) (fun q5 hq5 hTq5 => ?_)
      exact aw_zreturn (pc := 29) (b := q5.1) d_To_passNew_29 rfl rfl
    · refine aw_aload_n (pc := 30) d_To_passNew_30 rfl 1 rfl ?_
      refine aw_aload_n (pc := 31) d_To_passNew_31 rfl 0 rfl ?_
      refine gt_709 (pc := 32) d_To_passNew_32 w1_101 t0 ?_
      refine aw_iload_n (pc := 35) d_To_passNew_35 rfl 2 rfl ?_
      refine aw_iload_n (pc := 36) d_To_passNew_36 rfl 3 rfl ?_
      refine aw_cVrV (pc := 37) (ci := 4) (T := TX4) (N := 19) (As := [.long (hGl h 709 l0), .int l2, .int l3]) (st := []) (ok_Sh_addName Y l1 (hGl h 709 l0) l2 l3 h t1) okV_Sh_addName rfl (by decide) t1 w3_207 d_To_passNew_37 rfl (Nat.le_of_ble_eq_true rfl) rfl (Nat.le_of_ble_eq_true rfl) (fun q6 hq6 hTq6 => ?_)
      refine aw_aload_n (pc := 40) d_To_passNew_40 rfl 0 rfl ?_
      refine aw_cVrV (pc := 41) (ci := 7) (T := TX7) (N := 13) (As := []) (st := []) (ok_To_advance Y l0 q6 t0) okV_To_advance rfl (by decide) t0 w3_166 d_To_passNew_41 rfl (Nat.le_of_ble_eq_true rfl) rfl (Nat.le_of_ble_eq_true rfl) (fun q7 hq7 hTq7 => ?_)
      refine aw_iconst (pc := 44) (x := 1) d_To_passNew_44 (by decide) ?_
      exact aw_zreturn (pc := 45) (b := true) d_To_passNew_45 rfl rfl
  · refine aw_aload_n (pc := 7) d_To_passNew_7 rfl 0 rfl ?_
    refine aw_iconst (pc := 8) (x := 2) d_To_passNew_8 (by decide) ?_
    refine aw_cVrZ (pc := 9) (ci := 7) (T := TX7) (N := 13) (As := [.int 2]) (st := []) (ok_To_blame Y l0 2 h t0) okV_To_blame rfl (by decide) t0 w3_202 d_To_passNew_9 rfl (Nat.le_of_ble_eq_true rfl) rfl (Nat.le_of_ble_eq_true rfl) (fun q8 hq8 hTq8 => ?_)
    exact aw_zreturn (pc := 12) (b := q8.1) d_To_passNew_12 rfl rfl
