/-! LastPagesModel.cut(IJ)J -/
theorem d_M_cut_0 : decode prog_14_method_10_code 0 = .ok (.iload_n 0, 1) := by decide +kernel
theorem d_M_cut_1 : decode prog_14_method_10_code 1 = .ok (.ifCond .ne 10, 3) := by decide +kernel
theorem d_M_cut_4 : decode prog_14_method_10_code 4 = .ok (.lload_n 1, 1) := by decide +kernel
theorem d_M_cut_5 : decode prog_14_method_10_code 5 = .ok (.l2i, 1) := by decide +kernel
theorem d_M_cut_6 : decode prog_14_method_10_code 6 = .ok (.i2b, 1) := by decide +kernel
theorem d_M_cut_7 : decode prog_14_method_10_code 7 = .ok (.i2l, 1) := by decide +kernel
theorem d_M_cut_8 : decode prog_14_method_10_code 8 = .ok (.goto 27, 3) := by decide +kernel
theorem d_M_cut_11 : decode prog_14_method_10_code 11 = .ok (.iload_n 0, 1) := by decide +kernel
theorem d_M_cut_12 : decode prog_14_method_10_code 12 = .ok (.iconst 1, 1) := by decide +kernel
theorem d_M_cut_13 : decode prog_14_method_10_code 13 = .ok (.if_icmp .ne 10, 3) := by decide +kernel
theorem d_M_cut_16 : decode prog_14_method_10_code 16 = .ok (.lload_n 1, 1) := by decide +kernel
theorem d_M_cut_17 : decode prog_14_method_10_code 17 = .ok (.l2i, 1) := by decide +kernel
theorem d_M_cut_18 : decode prog_14_method_10_code 18 = .ok (.i2s, 1) := by decide +kernel
theorem d_M_cut_19 : decode prog_14_method_10_code 19 = .ok (.i2l, 1) := by decide +kernel
theorem d_M_cut_20 : decode prog_14_method_10_code 20 = .ok (.goto 15, 3) := by decide +kernel
theorem d_M_cut_23 : decode prog_14_method_10_code 23 = .ok (.iload_n 0, 1) := by decide +kernel
theorem d_M_cut_24 : decode prog_14_method_10_code 24 = .ok (.iconst 2, 1) := by decide +kernel
theorem d_M_cut_25 : decode prog_14_method_10_code 25 = .ok (.if_icmp .ne 9, 3) := by decide +kernel
theorem d_M_cut_28 : decode prog_14_method_10_code 28 = .ok (.lload_n 1, 1) := by decide +kernel
theorem d_M_cut_29 : decode prog_14_method_10_code 29 = .ok (.l2i, 1) := by decide +kernel
theorem d_M_cut_30 : decode prog_14_method_10_code 30 = .ok (.i2l, 1) := by decide +kernel
theorem d_M_cut_31 : decode prog_14_method_10_code 31 = .ok (.goto 4, 3) := by decide +kernel
theorem d_M_cut_34 : decode prog_14_method_10_code 34 = .ok (.lload_n 1, 1) := by decide +kernel
theorem d_M_cut_35 : decode prog_14_method_10_code 35 = .ok (.lreturn, 1) := by decide +kernel
def M_cut (Y : Ly) (l0 : Int32) (l1 : Int64) (h : Hp) : Option Int64 :=
  if l0 = 0 then
    some (Int32.toInt64 (Int8.toInt32 (Int32.toInt8 (Int64.toInt32 l1))))
  else
    if l0 = 1 then
      some (Int32.toInt64 (Int16.toInt32 (Int32.toInt16 (Int64.toInt32 l1))))
    else
      if l0 = 2 then
        some (Int32.toInt64 (Int64.toInt32 l1))
      else
        some l1
theorem ok_M_cut (Y : Ly) (l0 : Int32) (l1 : Int64) (h : Hp) : AM Y 0 K_M_cut [.int l0, .long l1] h (M_cut Y l0 l1 h) (pL h) := by
  refine AM.of rfl (Nat.le_of_ble_eq_true rfl) ?_
  show AW Y 0 K_M_cut 0 [(0, .int l0), (1, .long l1)] [] h (M_cut Y l0 l1 h) (pL h)
  unfold M_cut
  refine aw_iload_n (pc := 0) d_M_cut_0 rfl 0 rfl ?_
  refine aw_if_ne (pc := 1) (tgt := 11) d_M_cut_1 (by decide) (fun c1 => ?_) (fun c1 => ?_)
  · refine aw_lload_n (pc := 4) d_M_cut_4 rfl 1 rfl ?_
    refine aw_l2i (pc := 5) d_M_cut_5 ?_
    refine aw_i2b (pc := 6) d_M_cut_6 ?_
    refine aw_i2l (pc := 7) d_M_cut_7 ?_
    refine aw_goto (pc := 8) (tgt := 35) d_M_cut_8 (by decide) ?_
    exact aw_lreturn (pc := 35) d_M_cut_35 rfl rfl
  · refine aw_iload_n (pc := 11) d_M_cut_11 rfl 0 rfl ?_
    refine aw_iconst (pc := 12) (x := 1) d_M_cut_12 (by decide) ?_
    refine aw_icmp_ne (pc := 13) (tgt := 23) d_M_cut_13 (by decide) (fun c2 => ?_) (fun c2 => ?_)
    · refine aw_lload_n (pc := 16) d_M_cut_16 rfl 1 rfl ?_
      refine aw_l2i (pc := 17) d_M_cut_17 ?_
      refine aw_i2s (pc := 18) d_M_cut_18 ?_
      refine aw_i2l (pc := 19) d_M_cut_19 ?_
      refine aw_goto (pc := 20) (tgt := 35) d_M_cut_20 (by decide) ?_
      exact aw_lreturn (pc := 35) d_M_cut_35 rfl rfl
    · refine aw_iload_n (pc := 23) d_M_cut_23 rfl 0 rfl ?_
      refine aw_iconst (pc := 24) (x := 2) d_M_cut_24 (by decide) ?_
      refine aw_icmp_ne (pc := 25) (tgt := 34) d_M_cut_25 (by decide) (fun c3 => ?_) (fun c3 => ?_)
      · refine aw_lload_n (pc := 28) d_M_cut_28 rfl 1 rfl ?_
        refine aw_l2i (pc := 29) d_M_cut_29 ?_
        refine aw_i2l (pc := 30) d_M_cut_30 ?_
        refine aw_goto (pc := 31) (tgt := 35) d_M_cut_31 (by decide) ?_
        exact aw_lreturn (pc := 35) d_M_cut_35 rfl rfl
      · refine aw_lload_n (pc := 34) d_M_cut_34 rfl 1 rfl ?_
        exact aw_lreturn (pc := 35) d_M_cut_35 rfl rfl
/-! LastPagesModel.draw(I)I -/
theorem d_M_draw_0 : decode prog_14_method_172_code 0 = .ok (.aload_n 0, 1) := by decide +kernel
theorem d_M_draw_1 : decode prog_14_method_172_code 1 = .ok (.aload_n 0, 1) := by decide +kernel
theorem d_M_draw_2 : decode prog_14_method_172_code 2 = .ok (.getfield 518, 3) := by decide +kernel
theorem d_M_draw_5 : decode prog_14_method_172_code 5 = .ok (.sipush 2971, 3) := by decide +kernel
theorem d_M_draw_8 : decode prog_14_method_172_code 8 = .ok (.imul, 1) := by decide +kernel
theorem d_M_draw_9 : decode prog_14_method_172_code 9 = .ok (.sipush 10687, 3) := by decide +kernel
theorem d_M_draw_12 : decode prog_14_method_172_code 12 = .ok (.iadd, 1) := by decide +kernel
theorem d_M_draw_13 : decode prog_14_method_172_code 13 = .ok (.ldc_w 521, 3) := by decide +kernel
theorem d_M_draw_16 : decode prog_14_method_172_code 16 = .ok (.irem, 1) := by decide +kernel
theorem d_M_draw_17 : decode prog_14_method_172_code 17 = .ok (.putfield 518, 3) := by decide +kernel
theorem d_M_draw_20 : decode prog_14_method_172_code 20 = .ok (.aload_n 0, 1) := by decide +kernel
theorem d_M_draw_21 : decode prog_14_method_172_code 21 = .ok (.getfield 518, 3) := by decide +kernel
theorem d_M_draw_24 : decode prog_14_method_172_code 24 = .ok (.bipush 8, 2) := by decide +kernel
theorem d_M_draw_26 : decode prog_14_method_172_code 26 = .ok (.idiv, 1) := by decide +kernel
theorem d_M_draw_27 : decode prog_14_method_172_code 27 = .ok (.iload_n 1, 1) := by decide +kernel
theorem d_M_draw_28 : decode prog_14_method_172_code 28 = .ok (.irem, 1) := by decide +kernel
theorem d_M_draw_29 : decode prog_14_method_172_code 29 = .ok (.ireturn, 1) := by decide +kernel
def M_draw (Y : Ly) (l0 : Nat) (l1 : Int32) (h : Hp) : Option (Int32 × Hp) :=
  letH (hSi h 1237 l0 ((((hGi h 1237 l0) * 2971) + 10687) - (((hGi h 1237 l0) * 2971) + 10687) / 65536 * 65536)) fun h1 =>
  if l1 = 0 then none else
  some (((hGi h1 1237 l0) / 8) - ((hGi h1 1237 l0) / 8) / l1 * l1, h1)
theorem ok_M_draw (Y : Ly) (l0 : Nat) (l1 : Int32) (h : Hp) (t0 : isO Y 12 l0) : AM Y 0 K_M_draw [.ref l0, .int l1] h (M_draw Y l0 l1 h) rI := by
  refine AM.of rfl (Nat.le_of_ble_eq_true rfl) ?_
  show AW Y 0 K_M_draw 0 [(0, .ref l0), (1, .int l1)] [] h (M_draw Y l0 l1 h) rI
  unfold M_draw
  refine aw_aload_n (pc := 0) d_M_draw_0 rfl 0 rfl ?_
  refine aw_aload_n (pc := 1) d_M_draw_1 rfl 0 rfl ?_
  refine gt_1237 (pc := 2) d_M_draw_2 w7_64 t0 ?_
  refine aw_sipush (pc := 5) (x := 2971) d_M_draw_5 (by decide) ?_
  refine aw_imul (pc := 8) d_M_draw_8 ?_
  refine aw_sipush (pc := 9) (x := 10687) d_M_draw_9 (by decide) ?_
  refine aw_iadd (pc := 12) d_M_draw_12 ?_
  refine aw_ldcw (pc := 13) d_M_draw_13 w10_153 ?_
  refine aw_irem (pc := 16) d_M_draw_16 (by decide) ?_
  refine pt_1237 (pc := 17) d_M_draw_17 w7_64 t0 ?_
  refine aw_letH (fun h1 => ?_)
  refine aw_aload_n (pc := 20) d_M_draw_20 rfl 0 rfl ?_
  refine gt_1237 (pc := 21) d_M_draw_21 w7_64 t0 ?_
  refine aw_bipush (pc := 24) (x := 8) d_M_draw_24 (by decide) ?_
  refine aw_idiv (pc := 26) d_M_draw_26 (by decide) ?_
  refine aw_iload_n (pc := 27) d_M_draw_27 rfl 1 rfl ?_
  refine aw_cases (fun _ => aw_none) (fun c2 => ?_)
  refine aw_irem (pc := 28) d_M_draw_28 c2 ?_
  exact aw_ireturn (pc := 29) d_M_draw_29 rfl rfl
/-! LastPagesModel.guesses(I)Z -/
theorem d_M_guesses_0 : decode prog_14_method_173_code 0 = .ok (.aload_n 0, 1) := by decide +kernel
theorem d_M_guesses_1 : decode prog_14_method_173_code 1 = .ok (.getfield 35, 3) := by decide +kernel
theorem d_M_guesses_4 : decode prog_14_method_173_code 4 = .ok (.bipush 100, 2) := by decide +kernel
theorem d_M_guesses_6 : decode prog_14_method_173_code 6 = .ok (.iload_n 1, 1) := by decide +kernel
theorem d_M_guesses_7 : decode prog_14_method_173_code 7 = .ok (.iadd, 1) := by decide +kernel
theorem d_M_guesses_8 : decode prog_14_method_173_code 8 = .ok (.iaload, 1) := by decide +kernel
theorem d_M_guesses_9 : decode prog_14_method_173_code 9 = .ok (.ifCond .lt 5, 3) := by decide +kernel
theorem d_M_guesses_12 : decode prog_14_method_173_code 12 = .ok (.iconst 0, 1) := by decide +kernel
theorem d_M_guesses_13 : decode prog_14_method_173_code 13 = .ok (.ireturn, 1) := by decide +kernel
theorem d_M_guesses_14 : decode prog_14_method_173_code 14 = .ok (.aload_n 0, 1) := by decide +kernel
theorem d_M_guesses_15 : decode prog_14_method_173_code 15 = .ok (.iload_n 1, 1) := by decide +kernel
theorem d_M_guesses_16 : decode prog_14_method_173_code 16 = .ok (.invokevirtual 459, 3) := by decide +kernel
theorem d_M_guesses_19 : decode prog_14_method_173_code 19 = .ok (.istore_n 2, 1) := by decide +kernel
theorem d_M_guesses_20 : decode prog_14_method_173_code 20 = .ok (.iconst 0, 1) := by decide +kernel
theorem d_M_guesses_21 : decode prog_14_method_173_code 21 = .ok (.istore_n 3, 1) := by decide +kernel
theorem d_M_guesses_22 : decode prog_14_method_173_code 22 = .ok (.iload_n 3, 1) := by decide +kernel
theorem d_M_guesses_23 : decode prog_14_method_173_code 23 = .ok (.aload_n 0, 1) := by decide +kernel
theorem d_M_guesses_24 : decode prog_14_method_173_code 24 = .ok (.getfield 35, 3) := by decide +kernel
theorem d_M_guesses_27 : decode prog_14_method_173_code 27 = .ok (.iconst 2, 1) := by decide +kernel
theorem d_M_guesses_28 : decode prog_14_method_173_code 28 = .ok (.iaload, 1) := by decide +kernel
theorem d_M_guesses_29 : decode prog_14_method_173_code 29 = .ok (.if_icmp .ge 37, 3) := by decide +kernel
theorem d_M_guesses_32 : decode prog_14_method_173_code 32 = .ok (.aload_n 0, 1) := by decide +kernel
theorem d_M_guesses_33 : decode prog_14_method_173_code 33 = .ok (.getfield 35, 3) := by decide +kernel
theorem d_M_guesses_36 : decode prog_14_method_173_code 36 = .ok (.bipush 100, 2) := by decide +kernel
theorem d_M_guesses_38 : decode prog_14_method_173_code 38 = .ok (.iload_n 3, 1) := by decide +kernel
theorem d_M_guesses_39 : decode prog_14_method_173_code 39 = .ok (.iadd, 1) := by decide +kernel
theorem d_M_guesses_40 : decode prog_14_method_173_code 40 = .ok (.iaload, 1) := by decide +kernel
theorem d_M_guesses_41 : decode prog_14_method_173_code 41 = .ok (.ifCond .lt 19, 3) := by decide +kernel
theorem d_M_guesses_44 : decode prog_14_method_173_code 44 = .ok (.iload_n 2, 1) := by decide +kernel
theorem d_M_guesses_45 : decode prog_14_method_173_code 45 = .ok (.iconst 1, 1) := by decide +kernel
theorem d_M_guesses_46 : decode prog_14_method_173_code 46 = .ok (.aload_n 0, 1) := by decide +kernel
theorem d_M_guesses_47 : decode prog_14_method_173_code 47 = .ok (.getfield 35, 3) := by decide +kernel
theorem d_M_guesses_50 : decode prog_14_method_173_code 50 = .ok (.bipush 100, 2) := by decide +kernel
theorem d_M_guesses_52 : decode prog_14_method_173_code 52 = .ok (.iload_n 3, 1) := by decide +kernel
theorem d_M_guesses_53 : decode prog_14_method_173_code 53 = .ok (.iadd, 1) := by decide +kernel
theorem d_M_guesses_54 : decode prog_14_method_173_code 54 = .ok (.iaload, 1) := by decide +kernel
theorem d_M_guesses_55 : decode prog_14_method_173_code 55 = .ok (.ishl, 1) := by decide +kernel
theorem d_M_guesses_56 : decode prog_14_method_173_code 56 = .ok (.iconst (-1), 1) := by decide +kernel
theorem d_M_guesses_57 : decode prog_14_method_173_code 57 = .ok (.ixor, 1) := by decide +kernel
theorem d_M_guesses_58 : decode prog_14_method_173_code 58 = .ok (.iand, 1) := by decide +kernel
theorem d_M_guesses_59 : decode prog_14_method_173_code 59 = .ok (.istore_n 2, 1) := by decide +kernel
theorem d_M_guesses_60 : decode prog_14_method_173_code 60 = .ok (.iinc 3 1, 3) := by decide +kernel
theorem d_M_guesses_63 : decode prog_14_method_173_code 63 = .ok (.goto (-41), 3) := by decide +kernel
theorem d_M_guesses_66 : decode prog_14_method_173_code 66 = .ok (.iload_n 2, 1) := by decide +kernel
theorem d_M_guesses_67 : decode prog_14_method_173_code 67 = .ok (.ifCond .ne 5, 3) := by decide +kernel
theorem d_M_guesses_70 : decode prog_14_method_173_code 70 = .ok (.iconst 0, 1) := by decide +kernel
theorem d_M_guesses_71 : decode prog_14_method_173_code 71 = .ok (.ireturn, 1) := by decide +kernel
theorem d_M_guesses_72 : decode prog_14_method_173_code 72 = .ok (.aload_n 0, 1) := by decide +kernel
theorem d_M_guesses_73 : decode prog_14_method_173_code 73 = .ok (.iload_n 2, 1) := by decide +kernel
theorem d_M_guesses_74 : decode prog_14_method_173_code 74 = .ok (.invokestatic 480, 3) := by decide +kernel
theorem d_M_guesses_77 : decode prog_14_method_173_code 77 = .ok (.invokevirtual 522, 3) := by decide +kernel
theorem d_M_guesses_80 : decode prog_14_method_173_code 80 = .ok (.istore_n 3, 1) := by decide +kernel
theorem d_M_guesses_81 : decode prog_14_method_173_code 81 = .ok (.iconst 0, 1) := by decide +kernel
theorem d_M_guesses_82 : decode prog_14_method_173_code 82 = .ok (.istore 4, 2) := by decide +kernel
theorem d_M_guesses_84 : decode prog_14_method_173_code 84 = .ok (.iload_n 2, 1) := by decide +kernel
theorem d_M_guesses_85 : decode prog_14_method_173_code 85 = .ok (.iload 4, 2) := by decide +kernel
theorem d_M_guesses_87 : decode prog_14_method_173_code 87 = .ok (.invokestatic 117, 3) := by decide +kernel
theorem d_M_guesses_90 : decode prog_14_method_173_code 90 = .ok (.ifCond .eq 7, 3) := by decide +kernel
theorem d_M_guesses_93 : decode prog_14_method_173_code 93 = .ok (.iload_n 3, 1) := by decide +kernel
theorem d_M_guesses_94 : decode prog_14_method_173_code 94 = .ok (.ifCond .le 26, 3) := by decide +kernel
theorem d_M_guesses_97 : decode prog_14_method_173_code 97 = .ok (.iload_n 3, 1) := by decide +kernel
theorem d_M_guesses_98 : decode prog_14_method_173_code 98 = .ok (.iload_n 2, 1) := by decide +kernel
theorem d_M_guesses_99 : decode prog_14_method_173_code 99 = .ok (.iload 4, 2) := by decide +kernel
theorem d_M_guesses_101 : decode prog_14_method_173_code 101 = .ok (.invokestatic 117, 3) := by decide +kernel
theorem d_M_guesses_104 : decode prog_14_method_173_code 104 = .ok (.ifCond .eq 7, 3) := by decide +kernel
theorem d_M_guesses_107 : decode prog_14_method_173_code 107 = .ok (.iconst 1, 1) := by decide +kernel
theorem d_M_guesses_108 : decode prog_14_method_173_code 108 = .ok (.goto 4, 3) := by decide +kernel
theorem d_M_guesses_111 : decode prog_14_method_173_code 111 = .ok (.iconst 0, 1) := by decide +kernel
theorem d_M_guesses_112 : decode prog_14_method_173_code 112 = .ok (.isub, 1) := by decide +kernel
theorem d_M_guesses_113 : decode prog_14_method_173_code 113 = .ok (.istore_n 3, 1) := by decide +kernel
theorem d_M_guesses_114 : decode prog_14_method_173_code 114 = .ok (.iinc 4 1, 3) := by decide +kernel
theorem d_M_guesses_117 : decode prog_14_method_173_code 117 = .ok (.goto (-33), 3) := by decide +kernel
theorem d_M_guesses_120 : decode prog_14_method_173_code 120 = .ok (.aload_n 0, 1) := by decide +kernel
theorem d_M_guesses_121 : decode prog_14_method_173_code 121 = .ok (.getfield 35, 3) := by decide +kernel
theorem d_M_guesses_124 : decode prog_14_method_173_code 124 = .ok (.bipush 100, 2) := by decide +kernel
theorem d_M_guesses_126 : decode prog_14_method_173_code 126 = .ok (.iload_n 1, 1) := by decide +kernel
theorem d_M_guesses_127 : decode prog_14_method_173_code 127 = .ok (.iadd, 1) := by decide +kernel
theorem d_M_guesses_128 : decode prog_14_method_173_code 128 = .ok (.iload 4, 2) := by decide +kernel
theorem d_M_guesses_130 : decode prog_14_method_173_code 130 = .ok (.iastore, 1) := by decide +kernel
theorem d_M_guesses_131 : decode prog_14_method_173_code 131 = .ok (.aload_n 0, 1) := by decide +kernel
theorem d_M_guesses_132 : decode prog_14_method_173_code 132 = .ok (.dup, 1) := by decide +kernel
theorem d_M_guesses_133 : decode prog_14_method_173_code 133 = .ok (.getfield 525, 3) := by decide +kernel
theorem d_M_guesses_136 : decode prog_14_method_173_code 136 = .ok (.iconst 1, 1) := by decide +kernel
theorem d_M_guesses_137 : decode prog_14_method_173_code 137 = .ok (.iadd, 1) := by decide +kernel
theorem d_M_guesses_138 : decode prog_14_method_173_code 138 = .ok (.putfield 525, 3) := by decide +kernel
theorem d_M_guesses_141 : decode prog_14_method_173_code 141 = .ok (.iconst 1, 1) := by decide +kernel
theorem d_M_guesses_142 : decode prog_14_method_173_code 142 = .ok (.ireturn, 1) := by decide +kernel
def M_guesses_J97 (Y : Ly) (k84 : Int32 → Int32 → Option (Bool × Hp)) (l0 : Nat) (l1 : Int32) (l2 : Int32) (l3 : Int32) (l4 : Int32) (h : Hp) : Option (Bool × Hp) :=
  (M_has Y l2 l4 h).bind fun q18 =>
  if q18 = true then
    k84 (l3 - 1) (l4 + 1)
  else
    k84 (l3 - 0) (l4 + 1)
theorem M_guesses_J97_ok (Y : Ly) (k84 : Int32 → Int32 → Option (Bool × Hp)) (l0 : Nat) (l1 : Int32) (l2 : Int32) (l3 : Int32) (l4 : Int32) (h : Hp) (hk84 : ∀ (l3_ : Int32) (l4_ : Int32), AW Y 5 K_M_guesses 84 [(0, .ref l0), (1, .int l1), (2, .int l2), (3, .int l3_), (4, .int l4_)] [] h (k84 l3_ l4_) rZ) (tl0 : isO Y 12 l0) : AW Y 5 K_M_guesses 97 [(0, .ref l0), (1, .int l1), (2, .int l2), (3, .int l3), (4, .int l4)] [] h (M_guesses_J97 Y k84 l0 l1 l2 l3 l4 h) rZ := by
  unfold M_guesses_J97
  refine aw_iload_n (pc := 97) d_M_guesses_97 rfl 3 rfl ?_
  refine aw_iload_n (pc := 98) d_M_guesses_98 rfl 2 rfl ?_
  refine aw_iload (pc := 99) d_M_guesses_99 4 rfl ?_
  refine aw_cSpZ (pc := 101) (As := [.int l2, .int l4]) (st := [.int l3]) (ok_M_has Y l2 l4 h) okS_M_has w9_110 d_M_guesses_101 rfl (Nat.le_of_ble_eq_true rfl) rfl (Nat.le_of_ble_eq_true rfl) (fun q18 hq18 hTq18 => ?_)
  refine aw_beq (pc := 104) (tgt := 111) d_M_guesses_104 (by decide) (fun c19 => ?_) (fun c19 => ?_)
  · refine aw_iconst (pc := 107) (x := 1) d_M_guesses_107 (by decide) ?_
    refine aw_goto (pc := 108) (tgt := 112) d_M_guesses_108 (by decide) ?_
    refine aw_isub (pc := 112) d_M_guesses_112 ?_
    refine aw_istore_n (pc := 113) (lv' := [(3, .int (l3 - 1)), (0, .ref l0), (1, .int l1), (2, .int l2), (4, .int l4)]) d_M_guesses_113 rfl (by decide) rfl ?_
    refine aw_iinc (pc := 114) (w := l4 + 1) (lv' := [(4, .int (l4 + 1)), (3, .int (l3 - 1)), (0, .ref l0), (1, .int l1), (2, .int l2)]) d_M_guesses_114 4 rfl rfl (by decide) rfl ?_
    refine aw_goto (pc := 117) (tgt := 84) d_M_guesses_117 (by decide) ?_
    exact aw_lv [2, 3, 4, 1, 0] rfl (hk84 (l3 - 1) (l4 + 1))
  · refine aw_iconst (pc := 111) (x := 0) d_M_guesses_111 (by decide) ?_
    refine aw_isub (pc := 112) d_M_guesses_112 ?_
    refine aw_istore_n (pc := 113) (lv' := [(3, .int (l3 - 0)), (0, .ref l0), (1, .int l1), (2, .int l2), (4, .int l4)]) d_M_guesses_113 rfl (by decide) rfl ?_
    refine aw_iinc (pc := 114) (w := l4 + 1) (lv' := [(4, .int (l4 + 1)), (3, .int (l3 - 0)), (0, .ref l0), (1, .int l1), (2, .int l2)]) d_M_guesses_114 4 rfl rfl (by decide) rfl ?_
    refine aw_goto (pc := 117) (tgt := 84) d_M_guesses_117 (by decide) ?_
    exact aw_lv [2, 3, 4, 1, 0] rfl (hk84 (l3 - 0) (l4 + 1))
def M_guesses_L84 (Y : Ly) (l0 : Nat) (l1 : Int32) (l2 : Int32) (h : Hp) : Nat → Int32 → Int32 → Option (Bool × Hp)
  | 0, _, _ => none
  | F + 1, l3, l4 =>
    (M_has Y l2 l4 h).bind fun q11 =>
    if q11 = true then
      if l3 ≤ 0 then
        if inB (100 + l1) (lnY Y (hGr h 1220 l0)) = true then
          letH (hTi h (hGr h 1220 l0) (Int32.toNatClampNeg (100 + l1)) l4) fun h16 =>
          letH (hSi h16 1242 l0 ((hGi h16 1242 l0) + 1)) fun h17 =>
          some (true, h17)
        else none
      else
        M_guesses_J97 Y (M_guesses_L84 Y l0 l1 l2 h F) l0 l1 l2 l3 l4 h
    else
      M_guesses_J97 Y (M_guesses_L84 Y l0 l1 l2 h F) l0 l1 l2 l3 l4 h
theorem M_guesses_L84_ok (Y : Ly) (l0 : Nat) (l1 : Int32) (l2 : Int32) (h : Hp) (tl0 : isO Y 12 l0) : ∀ (F : Nat) (l3 : Int32) (l4 : Int32), AW Y 5 K_M_guesses 84 [(0, .ref l0), (1, .int l1), (2, .int l2), (3, .int l3), (4, .int l4)] [] h (M_guesses_L84 Y l0 l1 l2 h F l3 l4) rZ := by
  intro F
  induction F with
  | zero =>
    intro l3 l4
    exact aw_none
  | succ F ih =>
    intro l3 l4
    unfold M_guesses_L84
    refine aw_iload_n (pc := 84) d_M_guesses_84 rfl 2 rfl ?_
    refine aw_iload (pc := 85) d_M_guesses_85 4 rfl ?_
    refine aw_cSpZ (pc := 87) (As := [.int l2, .int l4]) (st := []) (ok_M_has Y l2 l4 h) okS_M_has w9_110 d_M_guesses_87 rfl (Nat.le_of_ble_eq_true rfl) rfl (Nat.le_of_ble_eq_true rfl) (fun q11 hq11 hTq11 => ?_)
    refine aw_beq (pc := 90) (tgt := 97) d_M_guesses_90 (by decide) (fun c12 => ?_) (fun c12 => ?_)
    · refine aw_iload_n (pc := 93) d_M_guesses_93 rfl 3 rfl ?_
      refine aw_if_le (pc := 94) (tgt := 120) d_M_guesses_94 (by decide) (fun c13 => ?_) (fun c13 => ?_)
      · refine aw_aload_n (pc := 120) d_M_guesses_120 rfl 0 rfl ?_
        refine gt_1220 (pc := 121) d_M_guesses_121 w7_47 tl0 (fun tt14 => ?_)
        refine aw_bipush (pc := 124) (x := 100) d_M_guesses_124 (by decide) ?_
        refine aw_iload_n (pc := 126) d_M_guesses_126 rfl 1 rfl ?_
        refine aw_iadd (pc := 127) d_M_guesses_127 ?_
        refine aw_iload (pc := 128) d_M_guesses_128 4 rfl ?_
        refine aw_iastore (pc := 130) d_M_guesses_130 tt14 (fun c15 => ?_)
        refine aw_letH (fun h16 => ?_)
        refine aw_aload_n (pc := 131) d_M_guesses_131 rfl 0 rfl ?_
        refine aw_dup (pc := 132) d_M_guesses_132 rfl ?_
        refine gt_1242 (pc := 133) d_M_guesses_133 w7_69 tl0 ?_
        refine aw_iconst (pc := 136) (x := 1) d_M_guesses_136 (by decide) ?_
        refine aw_iadd (pc := 137) d_M_guesses_137 ?_
        refine pt_1242 (pc := 138) d_M_guesses_138 w7_69 tl0 ?_
        refine aw_letH (fun h17 => ?_)
        refine aw_iconst (pc := 141) (x := 1) d_M_guesses_141 (by decide) ?_
        exact aw_zreturn (pc := 142) (b := true) d_M_guesses_142 rfl rfl
      · exact aw_lv [0, 1, 2, 3, 4] rfl (M_guesses_J97_ok Y (M_guesses_L84 Y l0 l1 l2 h F) l0 l1 l2 l3 l4 h ih tl0)
    · exact aw_lv [0, 1, 2, 3, 4] rfl (M_guesses_J97_ok Y (M_guesses_L84 Y l0 l1 l2 h F) l0 l1 l2 l3 l4 h ih tl0)
def M_guesses_L22 (Y : Ly) (l0 : Nat) (l1 : Int32) (h : Hp) : Nat → Int32 → Int32 → Option (Bool × Hp)
  | 0, _, _ => none
  | F + 1, l2, l3 =>
    if inB 2 (lnY Y (hGr h 1220 l0)) = true then
      if (hAi h (hGr h 1220 l0) (Int32.toNatClampNeg 2)) ≤ l3 then
        if l2 = 0 then
          some (false, h)
        else
          (M_sizeOf Y l2 h).bind fun q9 =>
          (M_draw Y l0 q9 h).bind fun q10 =>
          M_guesses_L84 Y l0 l1 l2 q10.2 FU q10.1 0
      else
        if inB (100 + l3) (lnY Y (hGr h 1220 l0)) = true then
          if (hAi h (hGr h 1220 l0) (Int32.toNatClampNeg (100 + l3))) < 0 then
            M_guesses_L22 Y l0 l1 h F l2 (l3 + 1)
          else
            if inB (100 + l3) (lnY Y (hGr h 1220 l0)) = true then
              M_guesses_L22 Y l0 l1 h F (l2 &&& (((1 : Int32) <<< ((hAi h (hGr h 1220 l0) (Int32.toNatClampNeg (100 + l3))) &&& 31)) ^^^ (-1))) (l3 + 1)
            else none
        else none
    else none
theorem M_guesses_L22_ok (Y : Ly) (l0 : Nat) (l1 : Int32) (h : Hp) (tl0 : isO Y 12 l0) : ∀ (F : Nat) (l2 : Int32) (l3 : Int32), AW Y 5 K_M_guesses 22 [(0, .ref l0), (1, .int l1), (2, .int l2), (3, .int l3)] [] h (M_guesses_L22 Y l0 l1 h F l2 l3) rZ := by
  intro F
  induction F with
  | zero =>
    intro l2 l3
    exact aw_none
  | succ F ih =>
    intro l2 l3
    unfold M_guesses_L22
    refine aw_iload_n (pc := 22) d_M_guesses_22 rfl 3 rfl ?_
    refine aw_aload_n (pc := 23) d_M_guesses_23 rfl 0 rfl ?_
    refine gt_1220 (pc := 24) d_M_guesses_24 w7_47 tl0 (fun tt5 => ?_)
    refine aw_iconst (pc := 27) (x := 2) d_M_guesses_27 (by decide) ?_
    refine aw_iaload (pc := 28) d_M_guesses_28 tt5 (fun c6 => ?_)
    refine aw_icmp_ge (pc := 29) (tgt := 66) d_M_guesses_29 (by decide) (fun c7 => ?_) (fun c7 => ?_)
    · refine aw_iload_n (pc := 66) d_M_guesses_66 rfl 2 rfl ?_
      refine aw_if_ne (pc := 67) (tgt := 72) d_M_guesses_67 (by decide) (fun c8 => ?_) (fun c8 => ?_)
      · refine aw_iconst (pc := 70) (x := 0) d_M_guesses_70 (by decide) ?_
        exact aw_zreturn (pc := 71) (b := false) d_M_guesses_71 rfl rfl
      · refine aw_aload_n (pc := 72) d_M_guesses_72 rfl 0 rfl ?_
        refine aw_iload_n (pc := 73) d_M_guesses_73 rfl 2 rfl ?_
        refine aw_cSpI (pc := 74) (As := [.int l2]) (st := [.ref l0]) (ok_M_sizeOf Y l2 h) okS_M_sizeOf w10_32 d_M_guesses_74 rfl (Nat.le_of_ble_eq_true rfl) rfl (Nat.le_of_ble_eq_true rfl) (fun q9 hq9 hTq9 => ?_)
        refine aw_cVrI (pc := 77) (ci := 12) (T := TX12) (N := 44) (As := [.int q9]) (st := []) (ok_M_draw Y l0 q9 h tl0) okV_M_draw rfl (by decide) tl0 w10_149 d_M_guesses_77 rfl (Nat.le_of_ble_eq_true rfl) rfl (Nat.le_of_ble_eq_true rfl) (fun q10 hq10 hTq10 => ?_)
        refine aw_istore_n (pc := 80) (lv' := [(3, .int q10.1), (0, .ref l0), (1, .int l1), (2, .int l2)]) d_M_guesses_80 rfl (by decide) rfl ?_
        refine aw_iconst (pc := 81) (x := 0) d_M_guesses_81 (by decide) ?_
        refine aw_istore (pc := 82) (lv' := [(4, .int 0), (3, .int q10.1), (0, .ref l0), (1, .int l1), (2, .int l2)]) d_M_guesses_82 (by decide) rfl ?_
        exact aw_lv [2, 3, 4, 1, 0] rfl (M_guesses_L84_ok Y l0 l1 l2 q10.2 tl0 FU q10.1 0)
    · refine aw_aload_n (pc := 32) d_M_guesses_32 rfl 0 rfl ?_
      refine gt_1220 (pc := 33) d_M_guesses_33 w7_47 tl0 (fun tt20 => ?_)
      refine aw_bipush (pc := 36) (x := 100) d_M_guesses_36 (by decide) ?_
      refine aw_iload_n (pc := 38) d_M_guesses_38 rfl 3 rfl ?_
      refine aw_iadd (pc := 39) d_M_guesses_39 ?_
      refine aw_iaload (pc := 40) d_M_guesses_40 tt20 (fun c21 => ?_)
      refine aw_if_lt (pc := 41) (tgt := 60) d_M_guesses_41 (by decide) (fun c22 => ?_) (fun c22 => ?_)
      · refine aw_iinc (pc := 60) (w := l3 + 1) (lv' := [(3, .int (l3 + 1)), (0, .ref l0), (1, .int l1), (2, .int l2)]) d_M_guesses_60 3 rfl rfl (by decide) rfl ?_
        refine aw_goto (pc := 63) (tgt := 22) d_M_guesses_63 (by decide) ?_
        exact aw_lv [1, 2, 3, 0] rfl (ih l2 (l3 + 1))
      · refine aw_iload_n (pc := 44) d_M_guesses_44 rfl 2 rfl ?_
        refine aw_iconst (pc := 45) (x := 1) d_M_guesses_45 (by decide) ?_
        refine aw_aload_n (pc := 46) d_M_guesses_46 rfl 0 rfl ?_
        refine gt_1220 (pc := 47) d_M_guesses_47 w7_47 tl0 (fun tt23 => ?_)
        refine aw_bipush (pc := 50) (x := 100) d_M_guesses_50 (by decide) ?_
        refine aw_iload_n (pc := 52) d_M_guesses_52 rfl 3 rfl ?_
        refine aw_iadd (pc := 53) d_M_guesses_53 ?_
        refine aw_iaload (pc := 54) d_M_guesses_54 tt23 (fun c24 => ?_)
        refine aw_ishl (pc := 55) d_M_guesses_55 ?_
        refine aw_iconst (pc := 56) (x := (-1)) d_M_guesses_56 (by decide) ?_
        refine aw_ixor (pc := 57) d_M_guesses_57 ?_
        refine aw_iand (pc := 58) d_M_guesses_58 ?_
        refine aw_istore_n (pc := 59) (lv' := [(2, .int (l2 &&& (((1 : Int32) <<< ((hAi h (hGr h 1220 l0) (Int32.toNatClampNeg (100 + l3))) &&& 31)) ^^^ (-1)))), (0, .ref l0), (1, .int l1), (3, .int l3)]) d_M_guesses_59 rfl (by decide) rfl ?_
        refine aw_iinc (pc := 60) (w := l3 + 1) (lv' := [(3, .int (l3 + 1)), (2, .int (l2 &&& (((1 : Int32) <<< ((hAi h (hGr h 1220 l0) (Int32.toNatClampNeg (100 + l3))) &&& 31)) ^^^ (-1)))), (0, .ref l0), (1, .int l1)]) d_M_guesses_60 3 rfl rfl (by decide) rfl ?_
        refine aw_goto (pc := 63) (tgt := 22) d_M_guesses_63 (by decide) ?_
        exact aw_lv [2, 3, 1, 0] rfl (ih (l2 &&& (((1 : Int32) <<< ((hAi h (hGr h 1220 l0) (Int32.toNatClampNeg (100 + l3))) &&& 31)) ^^^ (-1))) (l3 + 1))
def M_guesses (Y : Ly) (l0 : Nat) (l1 : Int32) (h : Hp) : Option (Bool × Hp) :=
  if inB (100 + l1) (lnY Y (hGr h 1220 l0)) = true then
    if (hAi h (hGr h 1220 l0) (Int32.toNatClampNeg (100 + l1))) < 0 then
      (M_finalesFor Y l0 l1 h).bind fun q4 =>
      M_guesses_L22 Y l0 l1 h FU q4 0
    else
      some (false, h)
  else none
theorem ok_M_guesses (Y : Ly) (l0 : Nat) (l1 : Int32) (h : Hp) (t0 : isO Y 12 l0) : AM Y 5 K_M_guesses [.ref l0, .int l1] h (M_guesses Y l0 l1 h) rZ := by
  refine AM.of rfl (Nat.le_of_ble_eq_true rfl) ?_
  show AW Y 5 K_M_guesses 0 [(0, .ref l0), (1, .int l1)] [] h (M_guesses Y l0 l1 h) rZ
  unfold M_guesses
  refine aw_aload_n (pc := 0) d_M_guesses_0 rfl 0 rfl ?_
  refine gt_1220 (pc := 1) d_M_guesses_1 w7_47 t0 (fun tt1 => ?_)
  refine aw_bipush (pc := 4) (x := 100) d_M_guesses_4 (by decide) ?_
  refine aw_iload_n (pc := 6) d_M_guesses_6 rfl 1 rfl ?_
  refine aw_iadd (pc := 7) d_M_guesses_7 ?_
  refine aw_iaload (pc := 8) d_M_guesses_8 tt1 (fun c2 => ?_)
  refine aw_if_lt (pc := 9) (tgt := 14) d_M_guesses_9 (by decide) (fun c3 => ?_) (fun c3 => ?_)
  · refine aw_aload_n (pc := 14) d_M_guesses_14 rfl 0 rfl ?_
    refine aw_iload_n (pc := 15) d_M_guesses_15 rfl 1 rfl ?_
    refine aw_cVpI (pc := 16) (ci := 12) (T := TX12) (N := 44) (As := [.int l1]) (st := []) (ok_M_finalesFor Y l0 l1 h t0) okV_M_finalesFor rfl (by decide) t0 w9_220 d_M_guesses_16 rfl (Nat.le_of_ble_eq_true rfl) rfl (Nat.le_of_ble_eq_true rfl) (fun q4 hq4 hTq4 => ?_)
    refine aw_istore_n (pc := 19) (lv' := [(2, .int q4), (0, .ref l0), (1, .int l1)]) d_M_guesses_19 rfl (by decide) rfl ?_
    refine aw_iconst (pc := 20) (x := 0) d_M_guesses_20 (by decide) ?_
    refine aw_istore_n (pc := 21) (lv' := [(3, .int 0), (2, .int q4), (0, .ref l0), (1, .int l1)]) d_M_guesses_21 rfl (by decide) rfl ?_
    exact aw_lv [2, 3, 1, 0] rfl (M_guesses_L22_ok Y l0 l1 h t0 FU q4 0)
  · refine aw_iconst (pc := 12) (x := 0) d_M_guesses_12 (by decide) ?_
    exact aw_zreturn (pc := 13) (b := false) d_M_guesses_13 rfl rfl
/-! LastPagesModel.does(I)Z -/
theorem d_M_does_0 : decode prog_14_method_174_code 0 = .ok (.aload_n 0, 1) := by decide +kernel
theorem d_M_does_1 : decode prog_14_method_174_code 1 = .ok (.getfield 35, 3) := by decide +kernel
theorem d_M_does_4 : decode prog_14_method_174_code 4 = .ok (.iload_n 1, 1) := by decide +kernel
theorem d_M_does_5 : decode prog_14_method_174_code 5 = .ok (.iaload, 1) := by decide +kernel
theorem d_M_does_6 : decode prog_14_method_174_code 6 = .ok (.istore_n 2, 1) := by decide +kernel
theorem d_M_does_7 : decode prog_14_method_174_code 7 = .ok (.aload_n 0, 1) := by decide +kernel
theorem d_M_does_8 : decode prog_14_method_174_code 8 = .ok (.getfield 35, 3) := by decide +kernel
theorem d_M_does_11 : decode prog_14_method_174_code 11 = .ok (.iload_n 1, 1) := by decide +kernel
theorem d_M_does_12 : decode prog_14_method_174_code 12 = .ok (.iconst 1, 1) := by decide +kernel
theorem d_M_does_13 : decode prog_14_method_174_code 13 = .ok (.iadd, 1) := by decide +kernel
theorem d_M_does_14 : decode prog_14_method_174_code 14 = .ok (.iaload, 1) := by decide +kernel
theorem d_M_does_15 : decode prog_14_method_174_code 15 = .ok (.istore_n 3, 1) := by decide +kernel
theorem d_M_does_16 : decode prog_14_method_174_code 16 = .ok (.iload_n 2, 1) := by decide +kernel
theorem d_M_does_17 : decode prog_14_method_174_code 17 = .ok (.iconst 2, 1) := by decide +kernel
theorem d_M_does_18 : decode prog_14_method_174_code 18 = .ok (.if_icmp .ne 18, 3) := by decide +kernel
theorem d_M_does_21 : decode prog_14_method_174_code 21 = .ok (.aload_n 0, 1) := by decide +kernel
theorem d_M_does_22 : decode prog_14_method_174_code 22 = .ok (.getfield 35, 3) := by decide +kernel
theorem d_M_does_25 : decode prog_14_method_174_code 25 = .ok (.bipush 9, 2) := by decide +kernel
theorem d_M_does_27 : decode prog_14_method_174_code 27 = .ok (.dup2, 1) := by decide +kernel
theorem d_M_does_28 : decode prog_14_method_174_code 28 = .ok (.iaload, 1) := by decide +kernel
theorem d_M_does_29 : decode prog_14_method_174_code 29 = .ok (.iconst 1, 1) := by decide +kernel
theorem d_M_does_30 : decode prog_14_method_174_code 30 = .ok (.iload_n 3, 1) := by decide +kernel
theorem d_M_does_31 : decode prog_14_method_174_code 31 = .ok (.ishl, 1) := by decide +kernel
theorem d_M_does_32 : decode prog_14_method_174_code 32 = .ok (.ixor, 1) := by decide +kernel
theorem d_M_does_33 : decode prog_14_method_174_code 33 = .ok (.iastore, 1) := by decide +kernel
theorem d_M_does_34 : decode prog_14_method_174_code 34 = .ok (.iconst 1, 1) := by decide +kernel
theorem d_M_does_35 : decode prog_14_method_174_code 35 = .ok (.ireturn, 1) := by decide +kernel
theorem d_M_does_36 : decode prog_14_method_174_code 36 = .ok (.iload_n 2, 1) := by decide +kernel
theorem d_M_does_37 : decode prog_14_method_174_code 37 = .ok (.iconst 1, 1) := by decide +kernel
theorem d_M_does_38 : decode prog_14_method_174_code 38 = .ok (.if_icmp .ne 54, 3) := by decide +kernel
theorem d_M_does_41 : decode prog_14_method_174_code 41 = .ok (.aload_n 0, 1) := by decide +kernel
theorem d_M_does_42 : decode prog_14_method_174_code 42 = .ok (.getfield 35, 3) := by decide +kernel
theorem d_M_does_45 : decode prog_14_method_174_code 45 = .ok (.bipush 100, 2) := by decide +kernel
theorem d_M_does_47 : decode prog_14_method_174_code 47 = .ok (.iload_n 3, 1) := by decide +kernel
theorem d_M_does_48 : decode prog_14_method_174_code 48 = .ok (.iadd, 1) := by decide +kernel
theorem d_M_does_49 : decode prog_14_method_174_code 49 = .ok (.iaload, 1) := by decide +kernel
theorem d_M_does_50 : decode prog_14_method_174_code 50 = .ok (.ifCond .lt 7, 3) := by decide +kernel
theorem d_M_does_53 : decode prog_14_method_174_code 53 = .ok (.iconst 1, 1) := by decide +kernel
theorem d_M_does_54 : decode prog_14_method_174_code 54 = .ok (.goto 4, 3) := by decide +kernel
theorem d_M_does_57 : decode prog_14_method_174_code 57 = .ok (.iconst 0, 1) := by decide +kernel
theorem d_M_does_58 : decode prog_14_method_174_code 58 = .ok (.istore 4, 2) := by decide +kernel
theorem d_M_does_60 : decode prog_14_method_174_code 60 = .ok (.aload_n 0, 1) := by decide +kernel
theorem d_M_does_61 : decode prog_14_method_174_code 61 = .ok (.getfield 35, 3) := by decide +kernel
theorem d_M_does_64 : decode prog_14_method_174_code 64 = .ok (.bipush 100, 2) := by decide +kernel
theorem d_M_does_66 : decode prog_14_method_174_code 66 = .ok (.iload_n 3, 1) := by decide +kernel
theorem d_M_does_67 : decode prog_14_method_174_code 67 = .ok (.iadd, 1) := by decide +kernel
theorem d_M_does_68 : decode prog_14_method_174_code 68 = .ok (.iconst (-1), 1) := by decide +kernel
theorem d_M_does_69 : decode prog_14_method_174_code 69 = .ok (.iastore, 1) := by decide +kernel
theorem d_M_does_70 : decode prog_14_method_174_code 70 = .ok (.aload_n 0, 1) := by decide +kernel
theorem d_M_does_71 : decode prog_14_method_174_code 71 = .ok (.dup, 1) := by decide +kernel
theorem d_M_does_72 : decode prog_14_method_174_code 72 = .ok (.getfield 528, 3) := by decide +kernel
theorem d_M_does_75 : decode prog_14_method_174_code 75 = .ok (.iload 4, 2) := by decide +kernel
theorem d_M_does_77 : decode prog_14_method_174_code 77 = .ok (.ifCond .eq 7, 3) := by decide +kernel
theorem d_M_does_80 : decode prog_14_method_174_code 80 = .ok (.iconst 1, 1) := by decide +kernel
theorem d_M_does_81 : decode prog_14_method_174_code 81 = .ok (.goto 4, 3) := by decide +kernel
theorem d_M_does_84 : decode prog_14_method_174_code 84 = .ok (.iconst 0, 1) := by decide +kernel
theorem d_M_does_85 : decode prog_14_method_174_code 85 = .ok (.iadd, 1) := by decide +kernel
theorem d_M_does_86 : decode prog_14_method_174_code 86 = .ok (.putfield 528, 3) := by decide +kernel
theorem d_M_does_89 : decode prog_14_method_174_code 89 = .ok (.iload 4, 2) := by decide +kernel
theorem d_M_does_91 : decode prog_14_method_174_code 91 = .ok (.ireturn, 1) := by decide +kernel
theorem d_M_does_92 : decode prog_14_method_174_code 92 = .ok (.iload_n 2, 1) := by decide +kernel
theorem d_M_does_93 : decode prog_14_method_174_code 93 = .ok (.ifCond .ne 19, 3) := by decide +kernel
theorem d_M_does_96 : decode prog_14_method_174_code 96 = .ok (.aload_n 0, 1) := by decide +kernel
theorem d_M_does_97 : decode prog_14_method_174_code 97 = .ok (.iload_n 3, 1) := by decide +kernel
theorem d_M_does_98 : decode prog_14_method_174_code 98 = .ok (.aload_n 0, 1) := by decide +kernel
theorem d_M_does_99 : decode prog_14_method_174_code 99 = .ok (.getfield 35, 3) := by decide +kernel
theorem d_M_does_102 : decode prog_14_method_174_code 102 = .ok (.iload_n 1, 1) := by decide +kernel
theorem d_M_does_103 : decode prog_14_method_174_code 103 = .ok (.iconst 2, 1) := by decide +kernel
theorem d_M_does_104 : decode prog_14_method_174_code 104 = .ok (.iadd, 1) := by decide +kernel
theorem d_M_does_105 : decode prog_14_method_174_code 105 = .ok (.iaload, 1) := by decide +kernel
theorem d_M_does_106 : decode prog_14_method_174_code 106 = .ok (.invokevirtual 417, 3) := by decide +kernel
theorem d_M_does_109 : decode prog_14_method_174_code 109 = .ok (.goto 8, 3) := by decide +kernel
theorem d_M_does_112 : decode prog_14_method_174_code 112 = .ok (.aload_n 0, 1) := by decide +kernel
theorem d_M_does_113 : decode prog_14_method_174_code 113 = .ok (.iload_n 3, 1) := by decide +kernel
theorem d_M_does_114 : decode prog_14_method_174_code 114 = .ok (.invokevirtual 531, 3) := by decide +kernel
theorem d_M_does_117 : decode prog_14_method_174_code 117 = .ok (.istore 4, 2) := by decide +kernel
theorem d_M_does_119 : decode prog_14_method_174_code 119 = .ok (.aload_n 0, 1) := by decide +kernel
theorem d_M_does_120 : decode prog_14_method_174_code 120 = .ok (.dup, 1) := by decide +kernel
theorem d_M_does_121 : decode prog_14_method_174_code 121 = .ok (.getfield 534, 3) := by decide +kernel
theorem d_M_does_124 : decode prog_14_method_174_code 124 = .ok (.iload 4, 2) := by decide +kernel
theorem d_M_does_126 : decode prog_14_method_174_code 126 = .ok (.ifCond .eq 7, 3) := by decide +kernel
theorem d_M_does_129 : decode prog_14_method_174_code 129 = .ok (.iconst 1, 1) := by decide +kernel
theorem d_M_does_130 : decode prog_14_method_174_code 130 = .ok (.goto 4, 3) := by decide +kernel
theorem d_M_does_133 : decode prog_14_method_174_code 133 = .ok (.iconst 0, 1) := by decide +kernel
theorem d_M_does_134 : decode prog_14_method_174_code 134 = .ok (.iadd, 1) := by decide +kernel
theorem d_M_does_135 : decode prog_14_method_174_code 135 = .ok (.putfield 534, 3) := by decide +kernel
theorem d_M_does_138 : decode prog_14_method_174_code 138 = .ok (.iload 4, 2) := by decide +kernel
theorem d_M_does_140 : decode prog_14_method_174_code 140 = .ok (.ireturn, 1) := by decide +kernel
def M_does_J58 (Y : Ly) (l0 : Nat) (l3 : Int32) (s0 : Bool) (h : Hp) : Option (Bool × Hp) :=
  if inB (100 + l3) (lnY Y (hGr h 1220 l0)) = true then
    letH (hTi h (hGr h 1220 l0) (Int32.toNatClampNeg (100 + l3)) (-1)) fun h16 =>
    if s0 = true then
      letH (hSi h16 1241 l0 ((hGi h16 1241 l0) + 1)) fun h18 =>
      some (s0, h18)
    else
      letH (hSi h16 1241 l0 ((hGi h16 1241 l0) + 0)) fun h19 =>
      some (s0, h19)
  else none
theorem M_does_J58_ok (Y : Ly) (l0 : Nat) (l3 : Int32) (s0 : Bool) (h : Hp) (tl0 : isO Y 12 l0) : AW Y 6 K_M_does 58 [(0, .ref l0), (3, .int l3)] [.int (b2i s0)] h (M_does_J58 Y l0 l3 s0 h) rZ := by
  unfold M_does_J58
  refine aw_istore (pc := 58) (lv' := [(4, .int (b2i s0)), (0, .ref l0), (3, .int l3)]) d_M_does_58 (by decide) rfl ?_
  refine aw_aload_n (pc := 60) d_M_does_60 rfl 1 rfl ?_
  refine gt_1220 (pc := 61) d_M_does_61 w7_47 tl0 (fun tt14 => ?_)
  refine aw_bipush (pc := 64) (x := 100) d_M_does_64 (by decide) ?_
  refine aw_iload_n (pc := 66) d_M_does_66 rfl 2 rfl ?_
  refine aw_iadd (pc := 67) d_M_does_67 ?_
  refine aw_iconst (pc := 68) (x := (-1)) d_M_does_68 (by decide) ?_
  refine aw_iastore (pc := 69) d_M_does_69 tt14 (fun c15 => ?_)
  refine aw_letH (fun h16 => ?_)
  refine aw_aload_n (pc := 70) d_M_does_70 rfl 1 rfl ?_
  refine aw_dup (pc := 71) d_M_does_71 rfl ?_
  refine gt_1241 (pc := 72) d_M_does_72 w7_68 tl0 ?_
  refine aw_iload (pc := 75) d_M_does_75 0 rfl ?_
  refine aw_beq (pc := 77) (tgt := 84) d_M_does_77 (by decide) (fun c17 => ?_) (fun c17 => ?_)
  · refine aw_iconst (pc := 80) (x := 1) d_M_does_80 (by decide) ?_
    refine aw_goto (pc := 81) (tgt := 85) d_M_does_81 (by decide) ?_
    refine aw_iadd (pc := 85) d_M_does_85 ?_
    refine pt_1241 (pc := 86) d_M_does_86 w7_68 tl0 ?_
    refine aw_letH (fun h18 => ?_)
    refine aw_iload (pc := 89) d_M_does_89 0 rfl ?_
    exact aw_zreturn (pc := 91) (b := s0) d_M_does_91 rfl rfl
  · refine aw_iconst (pc := 84) (x := 0) d_M_does_84 (by decide) ?_
    refine aw_iadd (pc := 85) d_M_does_85 ?_
    refine pt_1241 (pc := 86) d_M_does_86 w7_68 tl0 ?_
    refine aw_letH (fun h19 => ?_)
    refine aw_iload (pc := 89) d_M_does_89 0 rfl ?_
    exact aw_zreturn (pc := 91) (b := s0) d_M_does_91 rfl rfl
def M_does_J117 (Y : Ly) (l0 : Nat) (s0 : Bool) (h : Hp) : Option (Bool × Hp) :=
  if s0 = true then
    letH (hSi h 1240 l0 ((hGi h 1240 l0) + 1)) fun h25 =>
    some (s0, h25)
  else
    letH (hSi h 1240 l0 ((hGi h 1240 l0) + 0)) fun h26 =>
    some (s0, h26)
theorem M_does_J117_ok (Y : Ly) (l0 : Nat) (s0 : Bool) (h : Hp) (tl0 : isO Y 12 l0) : AW Y 6 K_M_does 117 [(0, .ref l0)] [.int (b2i s0)] h (M_does_J117 Y l0 s0 h) rZ := by
  unfold M_does_J117
  refine aw_istore (pc := 117) (lv' := [(4, .int (b2i s0)), (0, .ref l0)]) d_M_does_117 (by decide) rfl ?_
  refine aw_aload_n (pc := 119) d_M_does_119 rfl 1 rfl ?_
  refine aw_dup (pc := 120) d_M_does_120 rfl ?_
  refine gt_1240 (pc := 121) d_M_does_121 w7_67 tl0 ?_
  refine aw_iload (pc := 124) d_M_does_124 0 rfl ?_
  refine aw_beq (pc := 126) (tgt := 133) d_M_does_126 (by decide) (fun c24 => ?_) (fun c24 => ?_)
  · refine aw_iconst (pc := 129) (x := 1) d_M_does_129 (by decide) ?_
    refine aw_goto (pc := 130) (tgt := 134) d_M_does_130 (by decide) ?_
    refine aw_iadd (pc := 134) d_M_does_134 ?_
    refine pt_1240 (pc := 135) d_M_does_135 w7_67 tl0 ?_
    refine aw_letH (fun h25 => ?_)
    refine aw_iload (pc := 138) d_M_does_138 0 rfl ?_
    exact aw_zreturn (pc := 140) (b := s0) d_M_does_140 rfl rfl
  · refine aw_iconst (pc := 133) (x := 0) d_M_does_133 (by decide) ?_
    refine aw_iadd (pc := 134) d_M_does_134 ?_
    refine pt_1240 (pc := 135) d_M_does_135 w7_67 tl0 ?_
    refine aw_letH (fun h26 => ?_)
    refine aw_iload (pc := 138) d_M_does_138 0 rfl ?_
    exact aw_zreturn (pc := 140) (b := s0) d_M_does_140 rfl rfl
def M_does (Y : Ly) (l0 : Nat) (l1 : Int32) (h : Hp) : Option (Bool × Hp) :=
  if inB l1 (lnY Y (hGr h 1220 l0)) = true then
    if inB (l1 + 1) (lnY Y (hGr h 1220 l0)) = true then
      if (hAi h (hGr h 1220 l0) (Int32.toNatClampNeg l1)) = 2 then
        if inB 9 (lnY Y (hGr h 1220 l0)) = true then
          if inB 9 (lnY Y (hGr h 1220 l0)) = true then
            letH (hTi h (hGr h 1220 l0) (Int32.toNatClampNeg 9) ((hAi h (hGr h 1220 l0) (Int32.toNatClampNeg 9)) ^^^ ((1 : Int32) <<< ((hAi h (hGr h 1220 l0) (Int32.toNatClampNeg (l1 + 1))) &&& 31)))) fun h9 =>
            some (true, h9)
          else none
        else none
      else
        if (hAi h (hGr h 1220 l0) (Int32.toNatClampNeg l1)) = 1 then
          if inB (100 + (hAi h (hGr h 1220 l0) (Int32.toNatClampNeg (l1 + 1)))) (lnY Y (hGr h 1220 l0)) = true then
            if (hAi h (hGr h 1220 l0) (Int32.toNatClampNeg (100 + (hAi h (hGr h 1220 l0) (Int32.toNatClampNeg (l1 + 1)))))) < 0 then
              M_does_J58 Y l0 (hAi h (hGr h 1220 l0) (Int32.toNatClampNeg (l1 + 1))) false h
            else
              M_does_J58 Y l0 (hAi h (hGr h 1220 l0) (Int32.toNatClampNeg (l1 + 1))) true h
          else none
        else
          if (hAi h (hGr h 1220 l0) (Int32.toNatClampNeg l1)) = 0 then
            if inB (l1 + 2) (lnY Y (hGr h 1220 l0)) = true then
              (M_binds Y l0 (hAi h (hGr h 1220 l0) (Int32.toNatClampNeg (l1 + 1))) (hAi h (hGr h 1220 l0) (Int32.toNatClampNeg (l1 + 2))) h).bind fun q23 =>
              M_does_J117 Y l0 q23.1 q23.2
            else none
          else
            (M_guesses Y l0 (hAi h (hGr h 1220 l0) (Int32.toNatClampNeg (l1 + 1))) h).bind fun q27 =>
            M_does_J117 Y l0 q27.1 q27.2
    else none
  else none
theorem ok_M_does (Y : Ly) (l0 : Nat) (l1 : Int32) (h : Hp) (t0 : isO Y 12 l0) : AM Y 6 K_M_does [.ref l0, .int l1] h (M_does Y l0 l1 h) rZ := by
  refine AM.of rfl (Nat.le_of_ble_eq_true rfl) ?_
  show AW Y 6 K_M_does 0 [(0, .ref l0), (1, .int l1)] [] h (M_does Y l0 l1 h) rZ
  unfold M_does
  refine aw_aload_n (pc := 0) d_M_does_0 rfl 0 rfl ?_
  refine gt_1220 (pc := 1) d_M_does_1 w7_47 t0 (fun tt1 => ?_)
  refine aw_iload_n (pc := 4) d_M_does_4 rfl 1 rfl ?_
  refine aw_iaload (pc := 5) d_M_does_5 tt1 (fun c2 => ?_)
  refine aw_istore_n (pc := 6) (lv' := [(2, .int (hAi h (hGr h 1220 l0) (Int32.toNatClampNeg l1))), (0, .ref l0), (1, .int l1)]) d_M_does_6 rfl (by decide) rfl ?_
  refine aw_aload_n (pc := 7) d_M_does_7 rfl 1 rfl ?_
  refine gt_1220 (pc := 8) d_M_does_8 w7_47 t0 (fun tt3 => ?_)
  refine aw_iload_n (pc := 11) d_M_does_11 rfl 2 rfl ?_
  refine aw_iconst (pc := 12) (x := 1) d_M_does_12 (by decide) ?_
  refine aw_iadd (pc := 13) d_M_does_13 ?_
  refine aw_iaload (pc := 14) d_M_does_14 tt3 (fun c4 => ?_)
  refine aw_istore_n (pc := 15) (lv' := [(3, .int (hAi h (hGr h 1220 l0) (Int32.toNatClampNeg (l1 + 1)))), (2, .int (hAi h (hGr h 1220 l0) (Int32.toNatClampNeg l1))), (0, .ref l0), (1, .int l1)]) d_M_does_15 rfl (by decide) rfl ?_
  refine aw_iload_n (pc := 16) d_M_does_16 rfl 1 rfl ?_
  refine aw_iconst (pc := 17) (x := 2) d_M_does_17 (by decide) ?_
  refine aw_icmp_ne (pc := 18) (tgt := 36) d_M_does_18 (by decide) (fun c5 => ?_) (fun c5 => ?_)
  · refine aw_aload_n (pc := 21) d_M_does_21 rfl 2 rfl ?_
    refine gt_1220 (pc := 22) d_M_does_22 w7_47 t0 (fun tt6 => ?_)
    refine aw_bipush (pc := 25) (x := 9) d_M_does_25 (by decide) ?_
    refine aw_dup2_11 (pc := 27) d_M_does_27 rfl rfl ?_
    refine aw_iaload (pc := 28) d_M_does_28 tt6 (fun c7 => ?_)
    refine aw_iconst (pc := 29) (x := 1) d_M_does_29 (by decide) ?_
    refine aw_iload_n (pc := 30) d_M_does_30 rfl 0 rfl ?_
    refine aw_ishl (pc := 31) d_M_does_31 ?_
    refine aw_ixor (pc := 32) d_M_does_32 ?_
    refine aw_iastore (pc := 33) d_M_does_33 tt6 (fun c8 => ?_)
    refine aw_letH (fun h9 => ?_)
    refine aw_iconst (pc := 34) (x := 1) d_M_does_34 (by decide) ?_
    exact aw_zreturn (pc := 35) (b := true) d_M_does_35 rfl rfl
  · refine aw_iload_n (pc := 36) d_M_does_36 rfl 1 rfl ?_
    refine aw_iconst (pc := 37) (x := 1) d_M_does_37 (by decide) ?_
    refine aw_icmp_ne (pc := 38) (tgt := 92) d_M_does_38 (by decide) (fun c10 => ?_) (fun c10 => ?_)
    · refine aw_aload_n (pc := 41) d_M_does_41 rfl 2 rfl ?_
      refine gt_1220 (pc := 42) d_M_does_42 w7_47 t0 (fun tt11 => ?_)
      refine aw_bipush (pc := 45) (x := 100) d_M_does_45 (by decide) ?_
      refine aw_iload_n (pc := 47) d_M_does_47 rfl 0 rfl ?_
      refine aw_iadd (pc := 48) d_M_does_48 ?_
      refine aw_iaload (pc := 49) d_M_does_49 tt11 (fun c12 => ?_)
      refine aw_if_lt (pc := 50) (tgt := 57) d_M_does_50 (by decide) (fun c13 => ?_) (fun c13 => ?_)
      · refine aw_iconst (pc := 57) (x := 0) d_M_does_57 (by decide) ?_
        exact aw_lv [2, 0] rfl (M_does_J58_ok Y l0 (hAi h (hGr h 1220 l0) (Int32.toNatClampNeg (l1 + 1))) false h t0)
      · refine aw_iconst (pc := 53) (x := 1) d_M_does_53 (by decide) ?_
        refine aw_goto (pc := 54) (tgt := 58) d_M_does_54 (by decide) ?_
        exact aw_lv [2, 0] rfl (M_does_J58_ok Y l0 (hAi h (hGr h 1220 l0) (Int32.toNatClampNeg (l1 + 1))) true h t0)
    · refine aw_iload_n (pc := 92) d_M_does_92 rfl 1 rfl ?_
      refine aw_if_ne (pc := 93) (tgt := 112) d_M_does_93 (by decide) (fun c20 => ?_) (fun c20 => ?_)
      · refine aw_aload_n (pc := 96) d_M_does_96 rfl 2 rfl ?_
        refine aw_iload_n (pc := 97) d_M_does_97 rfl 0 rfl ?_
        refine aw_aload_n (pc := 98) d_M_does_98 rfl 2 rfl ?_
        refine gt_1220 (pc := 99) d_M_does_99 w7_47 t0 (fun tt21 => ?_)
        refine aw_iload_n (pc := 102) d_M_does_102 rfl 3 rfl ?_
        refine aw_iconst (pc := 103) (x := 2) d_M_does_103 (by decide) ?_
        refine aw_iadd (pc := 104) d_M_does_104 ?_
        refine aw_iaload (pc := 105) d_M_does_105 tt21 (fun c22 => ?_)
        refine aw_cVrZ (pc := 106) (ci := 12) (T := TX12) (N := 44) (As := [.int (hAi h (hGr h 1220 l0) (Int32.toNatClampNeg (l1 + 1))), .int (hAi h (hGr h 1220 l0) (Int32.toNatClampNeg (l1 + 2)))]) (st := []) (ok_M_binds Y l0 (hAi h (hGr h 1220 l0) (Int32.toNatClampNeg (l1 + 1))) (hAi h (hGr h 1220 l0) (Int32.toNatClampNeg (l1 + 2))) h t0) okV_M_binds rfl (by decide) t0 w9_90 d_M_does_106 rfl (Nat.le_of_ble_eq_true rfl) rfl (Nat.le_of_ble_eq_true rfl) (fun q23 hq23 hTq23 => ?_)
        refine aw_goto (pc := 109) (tgt := 117) d_M_does_109 (by decide) ?_
        exact aw_lv [2] rfl (M_does_J117_ok Y l0 q23.1 q23.2 t0)
      · refine aw_aload_n (pc := 112) d_M_does_112 rfl 2 rfl ?_
        refine aw_iload_n (pc := 113) d_M_does_113 rfl 0 rfl ?_
        refine aw_cVrZ (pc := 114) (ci := 12) (T := TX12) (N := 44) (As := [.int (hAi h (hGr h 1220 l0) (Int32.toNatClampNeg (l1 + 1)))]) (st := []) (ok_M_guesses Y l0 (hAi h (hGr h 1220 l0) (Int32.toNatClampNeg (l1 + 1))) h t0) okV_M_guesses rfl (by decide) t0 w10_145 d_M_does_114 rfl (Nat.le_of_ble_eq_true rfl) rfl (Nat.le_of_ble_eq_true rfl) (fun q27 hq27 hTq27 => ?_)
        exact aw_lv [2] rfl (M_does_J117_ok Y l0 q27.1 q27.2 t0)
/-! LastPagesModel.oddOf(I)I -/
theorem d_M_oddOf_0 : decode prog_14_method_139_code 0 = .ok (.iconst 0, 1) := by decide +kernel
theorem d_M_oddOf_1 : decode prog_14_method_139_code 1 = .ok (.istore_n 2, 1) := by decide +kernel
theorem d_M_oddOf_2 : decode prog_14_method_139_code 2 = .ok (.iconst 0, 1) := by decide +kernel
theorem d_M_oddOf_3 : decode prog_14_method_139_code 3 = .ok (.istore_n 3, 1) := by decide +kernel
theorem d_M_oddOf_4 : decode prog_14_method_139_code 4 = .ok (.iload_n 3, 1) := by decide +kernel
theorem d_M_oddOf_5 : decode prog_14_method_139_code 5 = .ok (.aload_n 0, 1) := by decide +kernel
theorem d_M_oddOf_6 : decode prog_14_method_139_code 6 = .ok (.getfield 35, 3) := by decide +kernel
theorem d_M_oddOf_9 : decode prog_14_method_139_code 9 = .ok (.sipush 166, 3) := by decide +kernel
theorem d_M_oddOf_12 : decode prog_14_method_139_code 12 = .ok (.iload_n 1, 1) := by decide +kernel
theorem d_M_oddOf_13 : decode prog_14_method_139_code 13 = .ok (.iadd, 1) := by decide +kernel
theorem d_M_oddOf_14 : decode prog_14_method_139_code 14 = .ok (.iaload, 1) := by decide +kernel
theorem d_M_oddOf_15 : decode prog_14_method_139_code 15 = .ok (.if_icmp .ge 35, 3) := by decide +kernel
theorem d_M_oddOf_18 : decode prog_14_method_139_code 18 = .ok (.iload_n 2, 1) := by decide +kernel
theorem d_M_oddOf_19 : decode prog_14_method_139_code 19 = .ok (.aload_n 0, 1) := by decide +kernel
theorem d_M_oddOf_20 : decode prog_14_method_139_code 20 = .ok (.getfield 35, 3) := by decide +kernel
theorem d_M_oddOf_23 : decode prog_14_method_139_code 23 = .ok (.bipush 10, 2) := by decide +kernel
theorem d_M_oddOf_25 : decode prog_14_method_139_code 25 = .ok (.aload_n 0, 1) := by decide +kernel
theorem d_M_oddOf_26 : decode prog_14_method_139_code 26 = .ok (.getfield 35, 3) := by decide +kernel
theorem d_M_oddOf_29 : decode prog_14_method_139_code 29 = .ok (.sipush 174, 3) := by decide +kernel
theorem d_M_oddOf_32 : decode prog_14_method_139_code 32 = .ok (.bipush 6, 2) := by decide +kernel
theorem d_M_oddOf_34 : decode prog_14_method_139_code 34 = .ok (.iload_n 1, 1) := by decide +kernel
theorem d_M_oddOf_35 : decode prog_14_method_139_code 35 = .ok (.imul, 1) := by decide +kernel
theorem d_M_oddOf_36 : decode prog_14_method_139_code 36 = .ok (.iadd, 1) := by decide +kernel
theorem d_M_oddOf_37 : decode prog_14_method_139_code 37 = .ok (.iload_n 3, 1) := by decide +kernel
theorem d_M_oddOf_38 : decode prog_14_method_139_code 38 = .ok (.iadd, 1) := by decide +kernel
theorem d_M_oddOf_39 : decode prog_14_method_139_code 39 = .ok (.iaload, 1) := by decide +kernel
theorem d_M_oddOf_40 : decode prog_14_method_139_code 40 = .ok (.iadd, 1) := by decide +kernel
theorem d_M_oddOf_41 : decode prog_14_method_139_code 41 = .ok (.iaload, 1) := by decide +kernel
theorem d_M_oddOf_42 : decode prog_14_method_139_code 42 = .ok (.iadd, 1) := by decide +kernel
theorem d_M_oddOf_43 : decode prog_14_method_139_code 43 = .ok (.istore_n 2, 1) := by decide +kernel
theorem d_M_oddOf_44 : decode prog_14_method_139_code 44 = .ok (.iinc 3 1, 3) := by decide +kernel
theorem d_M_oddOf_47 : decode prog_14_method_139_code 47 = .ok (.goto (-43), 3) := by decide +kernel
theorem d_M_oddOf_50 : decode prog_14_method_139_code 50 = .ok (.iload_n 2, 1) := by decide +kernel
theorem d_M_oddOf_51 : decode prog_14_method_139_code 51 = .ok (.ireturn, 1) := by decide +kernel
def M_oddOf_L4 (Y : Ly) (l0 : Nat) (l1 : Int32) (h : Hp) : Nat → Int32 → Int32 → Option Int32
  | 0, _, _ => none
  | F + 1, l2, l3 =>
    if inB (166 + l1) (lnY Y (hGr h 1220 l0)) = true then
      if (hAi h (hGr h 1220 l0) (Int32.toNatClampNeg (166 + l1))) ≤ l3 then
        some l2
      else
        if inB ((174 + (6 * l1)) + l3) (lnY Y (hGr h 1220 l0)) = true then
          if inB (10 + (hAi h (hGr h 1220 l0) (Int32.toNatClampNeg ((174 + (6 * l1)) + l3)))) (lnY Y (hGr h 1220 l0)) = true then
            M_oddOf_L4 Y l0 l1 h F (l2 + (hAi h (hGr h 1220 l0) (Int32.toNatClampNeg (10 + (hAi h (hGr h 1220 l0) (Int32.toNatClampNeg ((174 + (6 * l1)) + l3))))))) (l3 + 1)
          else none
        else none
    else none
theorem M_oddOf_L4_ok (Y : Ly) (l0 : Nat) (l1 : Int32) (h : Hp) (tl0 : isO Y 12 l0) : ∀ (F : Nat) (l2 : Int32) (l3 : Int32), AW Y 0 K_M_oddOf 4 [(0, .ref l0), (1, .int l1), (2, .int l2), (3, .int l3)] [] h (M_oddOf_L4 Y l0 l1 h F l2 l3) (pI h) := by
  intro F
  induction F with
  | zero =>
    intro l2 l3
    exact aw_none
  | succ F ih =>
    intro l2 l3
    unfold M_oddOf_L4
    refine aw_iload_n (pc := 4) d_M_oddOf_4 rfl 3 rfl ?_
    refine aw_aload_n (pc := 5) d_M_oddOf_5 rfl 0 rfl ?_
    refine gt_1220 (pc := 6) d_M_oddOf_6 w7_47 tl0 (fun tt1 => ?_)
    refine aw_sipush (pc := 9) (x := 166) d_M_oddOf_9 (by decide) ?_
    refine aw_iload_n (pc := 12) d_M_oddOf_12 rfl 1 rfl ?_
    refine aw_iadd (pc := 13) d_M_oddOf_13 ?_
    refine aw_iaload (pc := 14) d_M_oddOf_14 tt1 (fun c2 => ?_)
    refine aw_icmp_ge (pc := 15) (tgt := 50) d_M_oddOf_15 (by decide) (fun c3 => ?_) (fun c3 => ?_)
    · refine aw_iload_n (pc := 50) d_M_oddOf_50 rfl 2 rfl ?_
      exact aw_ireturn (pc := 51) d_M_oddOf_51 rfl rfl
    · refine aw_iload_n (pc := 18) d_M_oddOf_18 rfl 2 rfl ?_
      refine aw_aload_n (pc := 19) d_M_oddOf_19 rfl 0 rfl ?_
      refine gt_1220 (pc := 20) d_M_oddOf_20 w7_47 tl0 (fun tt4 => ?_)
      refine aw_bipush (pc := 23) (x := 10) d_M_oddOf_23 (by decide) ?_
      refine aw_aload_n (pc := 25) d_M_oddOf_25 rfl 0 rfl ?_
      refine gt_1220 (pc := 26) d_M_oddOf_26 w7_47 tl0 (fun tt5 => ?_)
      refine aw_sipush (pc := 29) (x := 174) d_M_oddOf_29 (by decide) ?_
      refine aw_bipush (pc := 32) (x := 6) d_M_oddOf_32 (by decide) ?_
      refine aw_iload_n (pc := 34) d_M_oddOf_34 rfl 1 rfl ?_
      refine aw_imul (pc := 35) d_M_oddOf_35 ?_
      refine aw_iadd (pc := 36) d_M_oddOf_36 ?_
      refine aw_iload_n (pc := 37) d_M_oddOf_37 rfl 3 rfl ?_
      refine aw_iadd (pc := 38) d_M_oddOf_38 ?_
      refine aw_iaload (pc := 39) d_M_oddOf_39 tt5 (fun c6 => ?_)
      refine aw_iadd (pc := 40) d_M_oddOf_40 ?_
      refine aw_iaload (pc := 41) d_M_oddOf_41 tt4 (fun c7 => ?_)
      refine aw_iadd (pc := 42) d_M_oddOf_42 ?_
      refine aw_istore_n (pc := 43) (lv' := [(2, .int (l2 + (hAi h (hGr h 1220 l0) (Int32.toNatClampNeg (10 + (hAi h (hGr h 1220 l0) (Int32.toNatClampNeg ((174 + (6 * l1)) + l3)))))))), (0, .ref l0), (1, .int l1), (3, .int l3)]) d_M_oddOf_43 rfl (by decide) rfl ?_
      refine aw_iinc (pc := 44) (w := l3 + 1) (lv' := [(3, .int (l3 + 1)), (2, .int (l2 + (hAi h (hGr h 1220 l0) (Int32.toNatClampNeg (10 + (hAi h (hGr h 1220 l0) (Int32.toNatClampNeg ((174 + (6 * l1)) + l3)))))))), (0, .ref l0), (1, .int l1)]) d_M_oddOf_44 3 rfl rfl (by decide) rfl ?_
      refine aw_goto (pc := 47) (tgt := 4) d_M_oddOf_47 (by decide) ?_
      exact aw_lv [2, 3, 1, 0] rfl (ih (l2 + (hAi h (hGr h 1220 l0) (Int32.toNatClampNeg (10 + (hAi h (hGr h 1220 l0) (Int32.toNatClampNeg ((174 + (6 * l1)) + l3))))))) (l3 + 1))
def M_oddOf (Y : Ly) (l0 : Nat) (l1 : Int32) (h : Hp) : Option Int32 :=
  M_oddOf_L4 Y l0 l1 h FU 0 0
theorem ok_M_oddOf (Y : Ly) (l0 : Nat) (l1 : Int32) (h : Hp) (t0 : isO Y 12 l0) : AM Y 0 K_M_oddOf [.ref l0, .int l1] h (M_oddOf Y l0 l1 h) (pI h) := by
  refine AM.of rfl (Nat.le_of_ble_eq_true rfl) ?_
  show AW Y 0 K_M_oddOf 0 [(0, .ref l0), (1, .int l1)] [] h (M_oddOf Y l0 l1 h) (pI h)
  unfold M_oddOf
  refine aw_iconst (pc := 0) (x := 0) d_M_oddOf_0 (by decide) ?_
  refine aw_istore_n (pc := 1) (lv' := [(2, .int 0), (0, .ref l0), (1, .int l1)]) d_M_oddOf_1 rfl (by decide) rfl ?_
  refine aw_iconst (pc := 2) (x := 0) d_M_oddOf_2 (by decide) ?_
  refine aw_istore_n (pc := 3) (lv' := [(3, .int 0), (2, .int 0), (0, .ref l0), (1, .int l1)]) d_M_oddOf_3 rfl (by decide) rfl ?_
  exact aw_lv [2, 3, 1, 0] rfl (M_oddOf_L4_ok Y l0 l1 h t0 FU 0 0)
/-! LastPagesModel.isSo(I)Z -/
theorem d_M_isSo_0 : decode prog_14_method_175_code 0 = .ok (.aload_n 0, 1) := by decide +kernel
theorem d_M_isSo_1 : decode prog_14_method_175_code 1 = .ok (.getfield 35, 3) := by decide +kernel
theorem d_M_isSo_4 : decode prog_14_method_175_code 4 = .ok (.iload_n 1, 1) := by decide +kernel
theorem d_M_isSo_5 : decode prog_14_method_175_code 5 = .ok (.bipush 6, 2) := by decide +kernel
theorem d_M_isSo_7 : decode prog_14_method_175_code 7 = .ok (.iadd, 1) := by decide +kernel
theorem d_M_isSo_8 : decode prog_14_method_175_code 8 = .ok (.iaload, 1) := by decide +kernel
theorem d_M_isSo_9 : decode prog_14_method_175_code 9 = .ok (.istore_n 2, 1) := by decide +kernel
theorem d_M_isSo_10 : decode prog_14_method_175_code 10 = .ok (.aload_n 0, 1) := by decide +kernel
theorem d_M_isSo_11 : decode prog_14_method_175_code 11 = .ok (.getfield 35, 3) := by decide +kernel
theorem d_M_isSo_14 : decode prog_14_method_175_code 14 = .ok (.iload_n 1, 1) := by decide +kernel
theorem d_M_isSo_15 : decode prog_14_method_175_code 15 = .ok (.iconst 1, 1) := by decide +kernel
theorem d_M_isSo_16 : decode prog_14_method_175_code 16 = .ok (.iadd, 1) := by decide +kernel
theorem d_M_isSo_17 : decode prog_14_method_175_code 17 = .ok (.iaload, 1) := by decide +kernel
theorem d_M_isSo_18 : decode prog_14_method_175_code 18 = .ok (.istore_n 3, 1) := by decide +kernel
theorem d_M_isSo_19 : decode prog_14_method_175_code 19 = .ok (.iload_n 2, 1) := by decide +kernel
theorem d_M_isSo_20 : decode prog_14_method_175_code 20 = .ok (.ifCond .ne 21, 3) := by decide +kernel
theorem d_M_isSo_23 : decode prog_14_method_175_code 23 = .ok (.aload_n 0, 1) := by decide +kernel
theorem d_M_isSo_24 : decode prog_14_method_175_code 24 = .ok (.getfield 35, 3) := by decide +kernel
theorem d_M_isSo_27 : decode prog_14_method_175_code 27 = .ok (.bipush 100, 2) := by decide +kernel
theorem d_M_isSo_29 : decode prog_14_method_175_code 29 = .ok (.iload_n 3, 1) := by decide +kernel
theorem d_M_isSo_30 : decode prog_14_method_175_code 30 = .ok (.iadd, 1) := by decide +kernel
theorem d_M_isSo_31 : decode prog_14_method_175_code 31 = .ok (.iaload, 1) := by decide +kernel
theorem d_M_isSo_32 : decode prog_14_method_175_code 32 = .ok (.ifCond .lt 7, 3) := by decide +kernel
theorem d_M_isSo_35 : decode prog_14_method_175_code 35 = .ok (.iconst 1, 1) := by decide +kernel
theorem d_M_isSo_36 : decode prog_14_method_175_code 36 = .ok (.goto 4, 3) := by decide +kernel
theorem d_M_isSo_39 : decode prog_14_method_175_code 39 = .ok (.iconst 0, 1) := by decide +kernel
theorem d_M_isSo_40 : decode prog_14_method_175_code 40 = .ok (.ireturn, 1) := by decide +kernel
theorem d_M_isSo_41 : decode prog_14_method_175_code 41 = .ok (.iload_n 2, 1) := by decide +kernel
theorem d_M_isSo_42 : decode prog_14_method_175_code 42 = .ok (.iconst 1, 1) := by decide +kernel
theorem d_M_isSo_43 : decode prog_14_method_175_code 43 = .ok (.if_icmp .ne 20, 3) := by decide +kernel
theorem d_M_isSo_46 : decode prog_14_method_175_code 46 = .ok (.aload_n 0, 1) := by decide +kernel
theorem d_M_isSo_47 : decode prog_14_method_175_code 47 = .ok (.getfield 35, 3) := by decide +kernel
theorem d_M_isSo_50 : decode prog_14_method_175_code 50 = .ok (.iconst 2, 1) := by decide +kernel
theorem d_M_isSo_51 : decode prog_14_method_175_code 51 = .ok (.iaload, 1) := by decide +kernel
theorem d_M_isSo_52 : decode prog_14_method_175_code 52 = .ok (.aload_n 0, 1) := by decide +kernel
theorem d_M_isSo_53 : decode prog_14_method_175_code 53 = .ok (.invokevirtual 373, 3) := by decide +kernel
theorem d_M_isSo_56 : decode prog_14_method_175_code 56 = .ok (.invokestatic 480, 3) := by decide +kernel
theorem d_M_isSo_59 : decode prog_14_method_175_code 59 = .ok (.isub, 1) := by decide +kernel
theorem d_M_isSo_60 : decode prog_14_method_175_code 60 = .ok (.goto 32, 3) := by decide +kernel
theorem d_M_isSo_63 : decode prog_14_method_175_code 63 = .ok (.aload_n 0, 1) := by decide +kernel
theorem d_M_isSo_64 : decode prog_14_method_175_code 64 = .ok (.getfield 35, 3) := by decide +kernel
theorem d_M_isSo_67 : decode prog_14_method_175_code 67 = .ok (.bipush 100, 2) := by decide +kernel
theorem d_M_isSo_69 : decode prog_14_method_175_code 69 = .ok (.iload_n 3, 1) := by decide +kernel
theorem d_M_isSo_70 : decode prog_14_method_175_code 70 = .ok (.iadd, 1) := by decide +kernel
theorem d_M_isSo_71 : decode prog_14_method_175_code 71 = .ok (.iaload, 1) := by decide +kernel
theorem d_M_isSo_72 : decode prog_14_method_175_code 72 = .ok (.ifCond .ge 7, 3) := by decide +kernel
theorem d_M_isSo_75 : decode prog_14_method_175_code 75 = .ok (.iconst 0, 1) := by decide +kernel
theorem d_M_isSo_76 : decode prog_14_method_175_code 76 = .ok (.goto 16, 3) := by decide +kernel
theorem d_M_isSo_79 : decode prog_14_method_175_code 79 = .ok (.aload_n 0, 1) := by decide +kernel
theorem d_M_isSo_80 : decode prog_14_method_175_code 80 = .ok (.aload_n 0, 1) := by decide +kernel
theorem d_M_isSo_81 : decode prog_14_method_175_code 81 = .ok (.getfield 35, 3) := by decide +kernel
theorem d_M_isSo_84 : decode prog_14_method_175_code 84 = .ok (.bipush 100, 2) := by decide +kernel
theorem d_M_isSo_86 : decode prog_14_method_175_code 86 = .ok (.iload_n 3, 1) := by decide +kernel
theorem d_M_isSo_87 : decode prog_14_method_175_code 87 = .ok (.iadd, 1) := by decide +kernel
theorem d_M_isSo_88 : decode prog_14_method_175_code 88 = .ok (.iaload, 1) := by decide +kernel
theorem d_M_isSo_89 : decode prog_14_method_175_code 89 = .ok (.invokevirtual 462, 3) := by decide +kernel
theorem d_M_isSo_92 : decode prog_14_method_175_code 92 = .ok (.istore 4, 2) := by decide +kernel
theorem d_M_isSo_94 : decode prog_14_method_175_code 94 = .ok (.aload_n 0, 1) := by decide +kernel
theorem d_M_isSo_95 : decode prog_14_method_175_code 95 = .ok (.getfield 35, 3) := by decide +kernel
theorem d_M_isSo_98 : decode prog_14_method_175_code 98 = .ok (.iload_n 1, 1) := by decide +kernel
theorem d_M_isSo_99 : decode prog_14_method_175_code 99 = .ok (.bipush 7, 2) := by decide +kernel
theorem d_M_isSo_101 : decode prog_14_method_175_code 101 = .ok (.iadd, 1) := by decide +kernel
theorem d_M_isSo_102 : decode prog_14_method_175_code 102 = .ok (.iaload, 1) := by decide +kernel
theorem d_M_isSo_103 : decode prog_14_method_175_code 103 = .ok (.bipush 60, 2) := by decide +kernel
theorem d_M_isSo_105 : decode prog_14_method_175_code 105 = .ok (.if_icmp .ne 24, 3) := by decide +kernel
theorem d_M_isSo_108 : decode prog_14_method_175_code 108 = .ok (.iload 4, 2) := by decide +kernel
theorem d_M_isSo_110 : decode prog_14_method_175_code 110 = .ok (.aload_n 0, 1) := by decide +kernel
theorem d_M_isSo_111 : decode prog_14_method_175_code 111 = .ok (.getfield 35, 3) := by decide +kernel
theorem d_M_isSo_114 : decode prog_14_method_175_code 114 = .ok (.iload_n 1, 1) := by decide +kernel
theorem d_M_isSo_115 : decode prog_14_method_175_code 115 = .ok (.iconst 2, 1) := by decide +kernel
theorem d_M_isSo_116 : decode prog_14_method_175_code 116 = .ok (.iadd, 1) := by decide +kernel
theorem d_M_isSo_117 : decode prog_14_method_175_code 117 = .ok (.iaload, 1) := by decide +kernel
theorem d_M_isSo_118 : decode prog_14_method_175_code 118 = .ok (.if_icmp .ge 7, 3) := by decide +kernel
theorem d_M_isSo_121 : decode prog_14_method_175_code 121 = .ok (.iconst 1, 1) := by decide +kernel
theorem d_M_isSo_122 : decode prog_14_method_175_code 122 = .ok (.goto 60, 3) := by decide +kernel
theorem d_M_isSo_125 : decode prog_14_method_175_code 125 = .ok (.iconst 0, 1) := by decide +kernel
theorem d_M_isSo_126 : decode prog_14_method_175_code 126 = .ok (.goto 56, 3) := by decide +kernel
theorem d_M_isSo_129 : decode prog_14_method_175_code 129 = .ok (.aload_n 0, 1) := by decide +kernel
theorem d_M_isSo_130 : decode prog_14_method_175_code 130 = .ok (.getfield 35, 3) := by decide +kernel
theorem d_M_isSo_133 : decode prog_14_method_175_code 133 = .ok (.iload_n 1, 1) := by decide +kernel
theorem d_M_isSo_134 : decode prog_14_method_175_code 134 = .ok (.bipush 7, 2) := by decide +kernel
theorem d_M_isSo_136 : decode prog_14_method_175_code 136 = .ok (.iadd, 1) := by decide +kernel
theorem d_M_isSo_137 : decode prog_14_method_175_code 137 = .ok (.iaload, 1) := by decide +kernel
theorem d_M_isSo_138 : decode prog_14_method_175_code 138 = .ok (.bipush 62, 2) := by decide +kernel
theorem d_M_isSo_140 : decode prog_14_method_175_code 140 = .ok (.if_icmp .ne 24, 3) := by decide +kernel
theorem d_M_isSo_143 : decode prog_14_method_175_code 143 = .ok (.iload 4, 2) := by decide +kernel
theorem d_M_isSo_145 : decode prog_14_method_175_code 145 = .ok (.aload_n 0, 1) := by decide +kernel
theorem d_M_isSo_146 : decode prog_14_method_175_code 146 = .ok (.getfield 35, 3) := by decide +kernel
theorem d_M_isSo_149 : decode prog_14_method_175_code 149 = .ok (.iload_n 1, 1) := by decide +kernel
theorem d_M_isSo_150 : decode prog_14_method_175_code 150 = .ok (.iconst 2, 1) := by decide +kernel
theorem d_M_isSo_151 : decode prog_14_method_175_code 151 = .ok (.iadd, 1) := by decide +kernel
theorem d_M_isSo_152 : decode prog_14_method_175_code 152 = .ok (.iaload, 1) := by decide +kernel
theorem d_M_isSo_153 : decode prog_14_method_175_code 153 = .ok (.if_icmp .le 7, 3) := by decide +kernel
theorem d_M_isSo_156 : decode prog_14_method_175_code 156 = .ok (.iconst 1, 1) := by decide +kernel
theorem d_M_isSo_157 : decode prog_14_method_175_code 157 = .ok (.goto 25, 3) := by decide +kernel
theorem d_M_isSo_160 : decode prog_14_method_175_code 160 = .ok (.iconst 0, 1) := by decide +kernel
theorem d_M_isSo_161 : decode prog_14_method_175_code 161 = .ok (.goto 21, 3) := by decide +kernel
theorem d_M_isSo_164 : decode prog_14_method_175_code 164 = .ok (.iload 4, 2) := by decide +kernel
theorem d_M_isSo_166 : decode prog_14_method_175_code 166 = .ok (.aload_n 0, 1) := by decide +kernel
theorem d_M_isSo_167 : decode prog_14_method_175_code 167 = .ok (.getfield 35, 3) := by decide +kernel
theorem d_M_isSo_170 : decode prog_14_method_175_code 170 = .ok (.iload_n 1, 1) := by decide +kernel
theorem d_M_isSo_171 : decode prog_14_method_175_code 171 = .ok (.iconst 2, 1) := by decide +kernel
theorem d_M_isSo_172 : decode prog_14_method_175_code 172 = .ok (.iadd, 1) := by decide +kernel
theorem d_M_isSo_173 : decode prog_14_method_175_code 173 = .ok (.iaload, 1) := by decide +kernel
theorem d_M_isSo_174 : decode prog_14_method_175_code 174 = .ok (.if_icmp .ne 7, 3) := by decide +kernel
theorem d_M_isSo_177 : decode prog_14_method_175_code 177 = .ok (.iconst 1, 1) := by decide +kernel
theorem d_M_isSo_178 : decode prog_14_method_175_code 178 = .ok (.goto 4, 3) := by decide +kernel
theorem d_M_isSo_181 : decode prog_14_method_175_code 181 = .ok (.iconst 0, 1) := by decide +kernel
theorem d_M_isSo_182 : decode prog_14_method_175_code 182 = .ok (.ireturn, 1) := by decide +kernel
def M_isSo_J92 (Y : Ly) (l0 : Nat) (l1 : Int32) (s0 : Int32) (h : Hp) : Option Bool :=
  if inB (l1 + 7) (lnY Y (hGr h 1220 l0)) = true then
    if (hAi h (hGr h 1220 l0) (Int32.toNatClampNeg (l1 + 7))) = 60 then
      if inB (l1 + 2) (lnY Y (hGr h 1220 l0)) = true then
        if (hAi h (hGr h 1220 l0) (Int32.toNatClampNeg (l1 + 2))) ≤ s0 then
          some false
        else
          some true
      else none
    else
      if inB (l1 + 7) (lnY Y (hGr h 1220 l0)) = true then
        if (hAi h (hGr h 1220 l0) (Int32.toNatClampNeg (l1 + 7))) = 62 then
          if inB (l1 + 2) (lnY Y (hGr h 1220 l0)) = true then
            if s0 ≤ (hAi h (hGr h 1220 l0) (Int32.toNatClampNeg (l1 + 2))) then
              some false
            else
              some true
          else none
        else
          if inB (l1 + 2) (lnY Y (hGr h 1220 l0)) = true then
            if s0 = (hAi h (hGr h 1220 l0) (Int32.toNatClampNeg (l1 + 2))) then
              some true
            else
              some false
          else none
      else none
  else none
theorem M_isSo_J92_ok (Y : Ly) (l0 : Nat) (l1 : Int32) (s0 : Int32) (h : Hp) (tl0 : isO Y 12 l0) : AW Y 2 K_M_isSo 92 [(0, .ref l0), (1, .int l1)] [.int s0] h (M_isSo_J92 Y l0 l1 s0 h) (pZ h) := by
  unfold M_isSo_J92
  refine aw_istore (pc := 92) (lv' := [(4, .int s0), (0, .ref l0), (1, .int l1)]) d_M_isSo_92 (by decide) rfl ?_
  refine aw_aload_n (pc := 94) d_M_isSo_94 rfl 1 rfl ?_
  refine gt_1220 (pc := 95) d_M_isSo_95 w7_47 tl0 (fun tt14 => ?_)
  refine aw_iload_n (pc := 98) d_M_isSo_98 rfl 2 rfl ?_
  refine aw_bipush (pc := 99) (x := 7) d_M_isSo_99 (by decide) ?_
  refine aw_iadd (pc := 101) d_M_isSo_101 ?_
  refine aw_iaload (pc := 102) d_M_isSo_102 tt14 (fun c15 => ?_)
  refine aw_bipush (pc := 103) (x := 60) d_M_isSo_103 (by decide) ?_
  refine aw_icmp_ne (pc := 105) (tgt := 129) d_M_isSo_105 (by decide) (fun c16 => ?_) (fun c16 => ?_)
  · refine aw_iload (pc := 108) d_M_isSo_108 0 rfl ?_
    refine aw_aload_n (pc := 110) d_M_isSo_110 rfl 1 rfl ?_
    refine gt_1220 (pc := 111) d_M_isSo_111 w7_47 tl0 (fun tt17 => ?_)
    refine aw_iload_n (pc := 114) d_M_isSo_114 rfl 2 rfl ?_
    refine aw_iconst (pc := 115) (x := 2) d_M_isSo_115 (by decide) ?_
    refine aw_iadd (pc := 116) d_M_isSo_116 ?_
    refine aw_iaload (pc := 117) d_M_isSo_117 tt17 (fun c18 => ?_)
    refine aw_icmp_ge (pc := 118) (tgt := 125) d_M_isSo_118 (by decide) (fun c19 => ?_) (fun c19 => ?_)
    · refine aw_iconst (pc := 125) (x := 0) d_M_isSo_125 (by decide) ?_
      refine aw_goto (pc := 126) (tgt := 182) d_M_isSo_126 (by decide) ?_
      exact aw_zreturn (pc := 182) (b := false) d_M_isSo_182 rfl rfl
    · refine aw_iconst (pc := 121) (x := 1) d_M_isSo_121 (by decide) ?_
      refine aw_goto (pc := 122) (tgt := 182) d_M_isSo_122 (by decide) ?_
      exact aw_zreturn (pc := 182) (b := true) d_M_isSo_182 rfl rfl
  · refine aw_aload_n (pc := 129) d_M_isSo_129 rfl 1 rfl ?_
    refine gt_1220 (pc := 130) d_M_isSo_130 w7_47 tl0 (fun tt20 => ?_)
    refine aw_iload_n (pc := 133) d_M_isSo_133 rfl 2 rfl ?_
    refine aw_bipush (pc := 134) (x := 7) d_M_isSo_134 (by decide) ?_
    refine aw_iadd (pc := 136) d_M_isSo_136 ?_
    refine aw_iaload (pc := 137) d_M_isSo_137 tt20 (fun c21 => ?_)
    refine aw_bipush (pc := 138) (x := 62) d_M_isSo_138 (by decide) ?_
    refine aw_icmp_ne (pc := 140) (tgt := 164) d_M_isSo_140 (by decide) (fun c22 => ?_) (fun c22 => ?_)
    · refine aw_iload (pc := 143) d_M_isSo_143 0 rfl ?_
      refine aw_aload_n (pc := 145) d_M_isSo_145 rfl 1 rfl ?_
      refine gt_1220 (pc := 146) d_M_isSo_146 w7_47 tl0 (fun tt23 => ?_)
      refine aw_iload_n (pc := 149) d_M_isSo_149 rfl 2 rfl ?_
      refine aw_iconst (pc := 150) (x := 2) d_M_isSo_150 (by decide) ?_
      refine aw_iadd (pc := 151) d_M_isSo_151 ?_
      refine aw_iaload (pc := 152) d_M_isSo_152 tt23 (fun c24 => ?_)
      refine aw_icmp_le (pc := 153) (tgt := 160) d_M_isSo_153 (by decide) (fun c25 => ?_) (fun c25 => ?_)
      · refine aw_iconst (pc := 160) (x := 0) d_M_isSo_160 (by decide) ?_
        refine aw_goto (pc := 161) (tgt := 182) d_M_isSo_161 (by decide) ?_
        exact aw_zreturn (pc := 182) (b := false) d_M_isSo_182 rfl rfl
      · refine aw_iconst (pc := 156) (x := 1) d_M_isSo_156 (by decide) ?_
        refine aw_goto (pc := 157) (tgt := 182) d_M_isSo_157 (by decide) ?_
        exact aw_zreturn (pc := 182) (b := true) d_M_isSo_182 rfl rfl
    · refine aw_iload (pc := 164) d_M_isSo_164 0 rfl ?_
      refine aw_aload_n (pc := 166) d_M_isSo_166 rfl 1 rfl ?_
      refine gt_1220 (pc := 167) d_M_isSo_167 w7_47 tl0 (fun tt26 => ?_)
      refine aw_iload_n (pc := 170) d_M_isSo_170 rfl 2 rfl ?_
      refine aw_iconst (pc := 171) (x := 2) d_M_isSo_171 (by decide) ?_
      refine aw_iadd (pc := 172) d_M_isSo_172 ?_
      refine aw_iaload (pc := 173) d_M_isSo_173 tt26 (fun c27 => ?_)
      refine aw_icmp_ne (pc := 174) (tgt := 181) d_M_isSo_174 (by decide) (fun c28 => ?_) (fun c28 => ?_)
      · refine aw_iconst (pc := 177) (x := 1) d_M_isSo_177 (by decide) ?_
        refine aw_goto (pc := 178) (tgt := 182) d_M_isSo_178 (by decide) ?_
        exact aw_zreturn (pc := 182) (b := true) d_M_isSo_182 rfl rfl
      · refine aw_iconst (pc := 181) (x := 0) d_M_isSo_181 (by decide) ?_
        exact aw_zreturn (pc := 182) (b := false) d_M_isSo_182 rfl rfl
def M_isSo (Y : Ly) (l0 : Nat) (l1 : Int32) (h : Hp) : Option Bool :=
  if inB (l1 + 6) (lnY Y (hGr h 1220 l0)) = true then
    if inB (l1 + 1) (lnY Y (hGr h 1220 l0)) = true then
      if (hAi h (hGr h 1220 l0) (Int32.toNatClampNeg (l1 + 6))) = 0 then
        if inB (100 + (hAi h (hGr h 1220 l0) (Int32.toNatClampNeg (l1 + 1)))) (lnY Y (hGr h 1220 l0)) = true then
          if (hAi h (hGr h 1220 l0) (Int32.toNatClampNeg (100 + (hAi h (hGr h 1220 l0) (Int32.toNatClampNeg (l1 + 1)))))) < 0 then
            some false
          else
            some true
        else none
      else
        if (hAi h (hGr h 1220 l0) (Int32.toNatClampNeg (l1 + 6))) = 1 then
          if inB 2 (lnY Y (hGr h 1220 l0)) = true then
            (M_bound Y l0 h).bind fun q12 =>
            (M_sizeOf Y q12 h).bind fun q13 =>
            M_isSo_J92 Y l0 l1 ((hAi h (hGr h 1220 l0) (Int32.toNatClampNeg 2)) - q13) h
          else none
        else
          if inB (100 + (hAi h (hGr h 1220 l0) (Int32.toNatClampNeg (l1 + 1)))) (lnY Y (hGr h 1220 l0)) = true then
            if 0 ≤ (hAi h (hGr h 1220 l0) (Int32.toNatClampNeg (100 + (hAi h (hGr h 1220 l0) (Int32.toNatClampNeg (l1 + 1)))))) then
              if inB (100 + (hAi h (hGr h 1220 l0) (Int32.toNatClampNeg (l1 + 1)))) (lnY Y (hGr h 1220 l0)) = true then
                (M_oddOf Y l0 (hAi h (hGr h 1220 l0) (Int32.toNatClampNeg (100 + (hAi h (hGr h 1220 l0) (Int32.toNatClampNeg (l1 + 1)))))) h).bind fun q34 =>
                M_isSo_J92 Y l0 l1 q34 h
              else none
            else
              M_isSo_J92 Y l0 l1 0 h
          else none
    else none
  else none
theorem ok_M_isSo (Y : Ly) (l0 : Nat) (l1 : Int32) (h : Hp) (t0 : isO Y 12 l0) : AM Y 2 K_M_isSo [.ref l0, .int l1] h (M_isSo Y l0 l1 h) (pZ h) := by
  refine AM.of rfl (Nat.le_of_ble_eq_true rfl) ?_
  show AW Y 2 K_M_isSo 0 [(0, .ref l0), (1, .int l1)] [] h (M_isSo Y l0 l1 h) (pZ h)
  unfold M_isSo
  refine aw_aload_n (pc := 0) d_M_isSo_0 rfl 0 rfl ?_
  refine gt_1220 (pc := 1) d_M_isSo_1 w7_47 t0 (fun tt1 => ?_)
  refine aw_iload_n (pc := 4) d_M_isSo_4 rfl 1 rfl ?_
  refine aw_bipush (pc := 5) (x := 6) d_M_isSo_5 (by decide) ?_
  refine aw_iadd (pc := 7) d_M_isSo_7 ?_
  refine aw_iaload (pc := 8) d_M_isSo_8 tt1 (fun c2 => ?_)
  refine aw_istore_n (pc := 9) (lv' := [(2, .int (hAi h (hGr h 1220 l0) (Int32.toNatClampNeg (l1 + 6)))), (0, .ref l0), (1, .int l1)]) d_M_isSo_9 rfl (by decide) rfl ?_
  refine aw_aload_n (pc := 10) d_M_isSo_10 rfl 1 rfl ?_
  refine gt_1220 (pc := 11) d_M_isSo_11 w7_47 t0 (fun tt3 => ?_)
  refine aw_iload_n (pc := 14) d_M_isSo_14 rfl 2 rfl ?_
  refine aw_iconst (pc := 15) (x := 1) d_M_isSo_15 (by decide) ?_
  refine aw_iadd (pc := 16) d_M_isSo_16 ?_
  refine aw_iaload (pc := 17) d_M_isSo_17 tt3 (fun c4 => ?_)
  refine aw_istore_n (pc := 18) (lv' := [(3, .int (hAi h (hGr h 1220 l0) (Int32.toNatClampNeg (l1 + 1)))), (2, .int (hAi h (hGr h 1220 l0) (Int32.toNatClampNeg (l1 + 6)))), (0, .ref l0), (1, .int l1)]) d_M_isSo_18 rfl (by decide) rfl ?_
  refine aw_iload_n (pc := 19) d_M_isSo_19 rfl 1 rfl ?_
  refine aw_if_ne (pc := 20) (tgt := 41) d_M_isSo_20 (by decide) (fun c5 => ?_) (fun c5 => ?_)
  · refine aw_aload_n (pc := 23) d_M_isSo_23 rfl 2 rfl ?_
    refine gt_1220 (pc := 24) d_M_isSo_24 w7_47 t0 (fun tt6 => ?_)
    refine aw_bipush (pc := 27) (x := 100) d_M_isSo_27 (by decide) ?_
    refine aw_iload_n (pc := 29) d_M_isSo_29 rfl 0 rfl ?_
    refine aw_iadd (pc := 30) d_M_isSo_30 ?_
    refine aw_iaload (pc := 31) d_M_isSo_31 tt6 (fun c7 => ?_)
    refine aw_if_lt (pc := 32) (tgt := 39) d_M_isSo_32 (by decide) (fun c8 => ?_) (fun c8 => ?_)
    · refine aw_iconst (pc := 39) (x := 0) d_M_isSo_39 (by decide) ?_
      exact aw_zreturn (pc := 40) (b := false) d_M_isSo_40 rfl rfl
    · refine aw_iconst (pc := 35) (x := 1) d_M_isSo_35 (by decide) ?_
      refine aw_goto (pc := 36) (tgt := 40) d_M_isSo_36 (by decide) ?_
      exact aw_zreturn (pc := 40) (b := true) d_M_isSo_40 rfl rfl
  · refine aw_iload_n (pc := 41) d_M_isSo_41 rfl 1 rfl ?_
    refine aw_iconst (pc := 42) (x := 1) d_M_isSo_42 (by decide) ?_
    refine aw_icmp_ne (pc := 43) (tgt := 63) d_M_isSo_43 (by decide) (fun c9 => ?_) (fun c9 => ?_)
    · refine aw_aload_n (pc := 46) d_M_isSo_46 rfl 2 rfl ?_
      refine gt_1220 (pc := 47) d_M_isSo_47 w7_47 t0 (fun tt10 => ?_)
      refine aw_iconst (pc := 50) (x := 2) d_M_isSo_50 (by decide) ?_
      refine aw_iaload (pc := 51) d_M_isSo_51 tt10 (fun c11 => ?_)
      refine aw_aload_n (pc := 52) d_M_isSo_52 rfl 2 rfl ?_
      refine aw_cVpI (pc := 53) (ci := 12) (T := TX12) (N := 44) (As := []) (st := [.int (hAi h (hGr h 1220 l0) (Int32.toNatClampNeg 2))]) (ok_M_bound Y l0 h t0) okV_M_bound rfl (by decide) t0 w9_16 d_M_isSo_53 rfl (Nat.le_of_ble_eq_true rfl) rfl (Nat.le_of_ble_eq_true rfl) (fun q12 hq12 hTq12 => ?_)
      refine aw_cSpI (pc := 56) (As := [.int q12]) (st := [.int (hAi h (hGr h 1220 l0) (Int32.toNatClampNeg 2))]) (ok_M_sizeOf Y q12 h) okS_M_sizeOf w10_32 d_M_isSo_56 rfl (Nat.le_of_ble_eq_true rfl) rfl (Nat.le_of_ble_eq_true rfl) (fun q13 hq13 hTq13 => ?_)
      refine aw_isub (pc := 59) d_M_isSo_59 ?_
      refine aw_goto (pc := 60) (tgt := 92) d_M_isSo_60 (by decide) ?_
      exact aw_lv [2, 3] rfl (M_isSo_J92_ok Y l0 l1 ((hAi h (hGr h 1220 l0) (Int32.toNatClampNeg 2)) - q13) h t0)
    · refine aw_aload_n (pc := 63) d_M_isSo_63 rfl 2 rfl ?_
      refine gt_1220 (pc := 64) d_M_isSo_64 w7_47 t0 (fun tt29 => ?_)
      refine aw_bipush (pc := 67) (x := 100) d_M_isSo_67 (by decide) ?_
      refine aw_iload_n (pc := 69) d_M_isSo_69 rfl 0 rfl ?_
      refine aw_iadd (pc := 70) d_M_isSo_70 ?_
      refine aw_iaload (pc := 71) d_M_isSo_71 tt29 (fun c30 => ?_)
      refine aw_if_ge (pc := 72) (tgt := 79) d_M_isSo_72 (by decide) (fun c31 => ?_) (fun c31 => ?_)
      · refine aw_aload_n (pc := 79) d_M_isSo_79 rfl 2 rfl ?_
        refine aw_aload_n (pc := 80) d_M_isSo_80 rfl 2 rfl ?_
        refine gt_1220 (pc := 81) d_M_isSo_81 w7_47 t0 (fun tt32 => ?_)
        refine aw_bipush (pc := 84) (x := 100) d_M_isSo_84 (by decide) ?_
        refine aw_iload_n (pc := 86) d_M_isSo_86 rfl 0 rfl ?_
        refine aw_iadd (pc := 87) d_M_isSo_87 ?_
        refine aw_iaload (pc := 88) d_M_isSo_88 tt32 (fun c33 => ?_)
        refine aw_cVpI (pc := 89) (ci := 12) (T := TX12) (N := 44) (As := [.int (hAi h (hGr h 1220 l0) (Int32.toNatClampNeg (100 + (hAi h (hGr h 1220 l0) (Int32.toNatClampNeg (l1 + 1))))))]) (st := []) (ok_M_oddOf Y l0 (hAi h (hGr h 1220 l0) (Int32.toNatClampNeg (100 + (hAi h (hGr h 1220 l0) (Int32.toNatClampNeg (l1 + 1)))))) h t0) okV_M_oddOf rfl (by decide) t0 w9_232 d_M_isSo_89 rfl (Nat.le_of_ble_eq_true rfl) rfl (Nat.le_of_ble_eq_true rfl) (fun q34 hq34 hTq34 => ?_)
        exact aw_lv [2, 3] rfl (M_isSo_J92_ok Y l0 l1 q34 h t0)
      · refine aw_iconst (pc := 75) (x := 0) d_M_isSo_75 (by decide) ?_
        refine aw_goto (pc := 76) (tgt := 92) d_M_isSo_76 (by decide) ?_
        exact aw_lv [2, 3] rfl (M_isSo_J92_ok Y l0 l1 0 h t0)
/-! LastPagesModel.doOne(I)V -/
theorem d_M_doOne_0 : decode prog_14_method_176_code 0 = .ok (.aload_n 0, 1) := by decide +kernel
theorem d_M_doOne_1 : decode prog_14_method_176_code 1 = .ok (.getfield 537, 3) := by decide +kernel
theorem d_M_doOne_4 : decode prog_14_method_176_code 4 = .ok (.sipush 300, 3) := by decide +kernel
theorem d_M_doOne_7 : decode prog_14_method_176_code 7 = .ok (.if_icmp .ne 14, 3) := by decide +kernel
theorem d_M_doOne_10 : decode prog_14_method_176_code 10 = .ok (.aload_n 0, 1) := by decide +kernel
theorem d_M_doOne_11 : decode prog_14_method_176_code 11 = .ok (.iconst 1, 1) := by decide +kernel
theorem d_M_doOne_12 : decode prog_14_method_176_code 12 = .ok (.putfield 540, 3) := by decide +kernel
theorem d_M_doOne_15 : decode prog_14_method_176_code 15 = .ok (.aload_n 0, 1) := by decide +kernel
theorem d_M_doOne_16 : decode prog_14_method_176_code 16 = .ok (.iconst 1, 1) := by decide +kernel
theorem d_M_doOne_17 : decode prog_14_method_176_code 17 = .ok (.putfield 544, 3) := by decide +kernel
theorem d_M_doOne_20 : decode prog_14_method_176_code 20 = .ok (.return_, 1) := by decide +kernel
theorem d_M_doOne_21 : decode prog_14_method_176_code 21 = .ok (.aload_n 0, 1) := by decide +kernel
theorem d_M_doOne_22 : decode prog_14_method_176_code 22 = .ok (.dup, 1) := by decide +kernel
theorem d_M_doOne_23 : decode prog_14_method_176_code 23 = .ok (.getfield 537, 3) := by decide +kernel
theorem d_M_doOne_26 : decode prog_14_method_176_code 26 = .ok (.iconst 1, 1) := by decide +kernel
theorem d_M_doOne_27 : decode prog_14_method_176_code 27 = .ok (.iadd, 1) := by decide +kernel
theorem d_M_doOne_28 : decode prog_14_method_176_code 28 = .ok (.putfield 537, 3) := by decide +kernel
theorem d_M_doOne_31 : decode prog_14_method_176_code 31 = .ok (.sipush 306, 3) := by decide +kernel
theorem d_M_doOne_34 : decode prog_14_method_176_code 34 = .ok (.bipush 9, 2) := by decide +kernel
theorem d_M_doOne_36 : decode prog_14_method_176_code 36 = .ok (.iload_n 1, 1) := by decide +kernel
theorem d_M_doOne_37 : decode prog_14_method_176_code 37 = .ok (.imul, 1) := by decide +kernel
theorem d_M_doOne_38 : decode prog_14_method_176_code 38 = .ok (.iadd, 1) := by decide +kernel
theorem d_M_doOne_39 : decode prog_14_method_176_code 39 = .ok (.istore_n 2, 1) := by decide +kernel
theorem d_M_doOne_40 : decode prog_14_method_176_code 40 = .ok (.aload_n 0, 1) := by decide +kernel
theorem d_M_doOne_41 : decode prog_14_method_176_code 41 = .ok (.getfield 35, 3) := by decide +kernel
theorem d_M_doOne_44 : decode prog_14_method_176_code 44 = .ok (.iload_n 2, 1) := by decide +kernel
theorem d_M_doOne_45 : decode prog_14_method_176_code 45 = .ok (.iaload, 1) := by decide +kernel
theorem d_M_doOne_46 : decode prog_14_method_176_code 46 = .ok (.istore_n 3, 1) := by decide +kernel
theorem d_M_doOne_47 : decode prog_14_method_176_code 47 = .ok (.iload_n 3, 1) := by decide +kernel
theorem d_M_doOne_48 : decode prog_14_method_176_code 48 = .ok (.iconst 4, 1) := by decide +kernel
theorem d_M_doOne_49 : decode prog_14_method_176_code 49 = .ok (.if_icmp .ge 28, 3) := by decide +kernel
theorem d_M_doOne_52 : decode prog_14_method_176_code 52 = .ok (.aload_n 0, 1) := by decide +kernel
theorem d_M_doOne_53 : decode prog_14_method_176_code 53 = .ok (.dup, 1) := by decide +kernel
theorem d_M_doOne_54 : decode prog_14_method_176_code 54 = .ok (.getfield 547, 3) := by decide +kernel
theorem d_M_doOne_57 : decode prog_14_method_176_code 57 = .ok (.aload_n 0, 1) := by decide +kernel
theorem d_M_doOne_58 : decode prog_14_method_176_code 58 = .ok (.iload_n 2, 1) := by decide +kernel
theorem d_M_doOne_59 : decode prog_14_method_176_code 59 = .ok (.invokevirtual 550, 3) := by decide +kernel
theorem d_M_doOne_62 : decode prog_14_method_176_code 62 = .ok (.ifCond .eq 7, 3) := by decide +kernel
theorem d_M_doOne_65 : decode prog_14_method_176_code 65 = .ok (.iconst 0, 1) := by decide +kernel
theorem d_M_doOne_66 : decode prog_14_method_176_code 66 = .ok (.goto 4, 3) := by decide +kernel
theorem d_M_doOne_69 : decode prog_14_method_176_code 69 = .ok (.iconst 1, 1) := by decide +kernel
theorem d_M_doOne_70 : decode prog_14_method_176_code 70 = .ok (.iadd, 1) := by decide +kernel
theorem d_M_doOne_71 : decode prog_14_method_176_code 71 = .ok (.putfield 547, 3) := by decide +kernel
theorem d_M_doOne_74 : decode prog_14_method_176_code 74 = .ok (.goto 98, 3) := by decide +kernel
theorem d_M_doOne_77 : decode prog_14_method_176_code 77 = .ok (.iload_n 3, 1) := by decide +kernel
theorem d_M_doOne_78 : decode prog_14_method_176_code 78 = .ok (.iconst 4, 1) := by decide +kernel
theorem d_M_doOne_79 : decode prog_14_method_176_code 79 = .ok (.if_icmp .ne 30, 3) := by decide +kernel
theorem d_M_doOne_82 : decode prog_14_method_176_code 82 = .ok (.aload_n 0, 1) := by decide +kernel
theorem d_M_doOne_83 : decode prog_14_method_176_code 83 = .ok (.iload_n 2, 1) := by decide +kernel
theorem d_M_doOne_84 : decode prog_14_method_176_code 84 = .ok (.invokevirtual 553, 3) := by decide +kernel
theorem d_M_doOne_87 : decode prog_14_method_176_code 87 = .ok (.ifCond .eq 22, 3) := by decide +kernel
theorem d_M_doOne_90 : decode prog_14_method_176_code 90 = .ok (.aload_n 0, 1) := by decide +kernel
theorem d_M_doOne_91 : decode prog_14_method_176_code 91 = .ok (.iload_n 1, 1) := by decide +kernel
theorem d_M_doOne_92 : decode prog_14_method_176_code 92 = .ok (.iconst 1, 1) := by decide +kernel
theorem d_M_doOne_93 : decode prog_14_method_176_code 93 = .ok (.iadd, 1) := by decide +kernel
theorem d_M_doOne_94 : decode prog_14_method_176_code 94 = .ok (.aload_n 0, 1) := by decide +kernel
theorem d_M_doOne_95 : decode prog_14_method_176_code 95 = .ok (.getfield 35, 3) := by decide +kernel
theorem d_M_doOne_98 : decode prog_14_method_176_code 98 = .ok (.iload_n 2, 1) := by decide +kernel
theorem d_M_doOne_99 : decode prog_14_method_176_code 99 = .ok (.bipush 8, 2) := by decide +kernel
theorem d_M_doOne_101 : decode prog_14_method_176_code 101 = .ok (.iadd, 1) := by decide +kernel
theorem d_M_doOne_102 : decode prog_14_method_176_code 102 = .ok (.iaload, 1) := by decide +kernel
theorem d_M_doOne_103 : decode prog_14_method_176_code 103 = .ok (.invokevirtual 556, 3) := by decide +kernel
theorem d_M_doOne_106 : decode prog_14_method_176_code 106 = .ok (.goto 66, 3) := by decide +kernel
theorem d_M_doOne_109 : decode prog_14_method_176_code 109 = .ok (.iload_n 3, 1) := by decide +kernel
theorem d_M_doOne_110 : decode prog_14_method_176_code 110 = .ok (.iconst 5, 1) := by decide +kernel
theorem d_M_doOne_111 : decode prog_14_method_176_code 111 = .ok (.if_icmp .ne 51, 3) := by decide +kernel
theorem d_M_doOne_114 : decode prog_14_method_176_code 114 = .ok (.iconst 0, 1) := by decide +kernel
theorem d_M_doOne_115 : decode prog_14_method_176_code 115 = .ok (.istore 4, 2) := by decide +kernel
theorem d_M_doOne_117 : decode prog_14_method_176_code 117 = .ok (.iload 4, 2) := by decide +kernel
theorem d_M_doOne_119 : decode prog_14_method_176_code 119 = .ok (.aload_n 0, 1) := by decide +kernel
theorem d_M_doOne_120 : decode prog_14_method_176_code 120 = .ok (.getfield 35, 3) := by decide +kernel
theorem d_M_doOne_123 : decode prog_14_method_176_code 123 = .ok (.iload_n 2, 1) := by decide +kernel
theorem d_M_doOne_124 : decode prog_14_method_176_code 124 = .ok (.iconst 1, 1) := by decide +kernel
theorem d_M_doOne_125 : decode prog_14_method_176_code 125 = .ok (.iadd, 1) := by decide +kernel
theorem d_M_doOne_126 : decode prog_14_method_176_code 126 = .ok (.iaload, 1) := by decide +kernel
theorem d_M_doOne_127 : decode prog_14_method_176_code 127 = .ok (.if_icmp .ge 32, 3) := by decide +kernel
theorem d_M_doOne_130 : decode prog_14_method_176_code 130 = .ok (.aload_n 0, 1) := by decide +kernel
theorem d_M_doOne_131 : decode prog_14_method_176_code 131 = .ok (.getfield 540, 3) := by decide +kernel
theorem d_M_doOne_134 : decode prog_14_method_176_code 134 = .ok (.ifCond .ne 25, 3) := by decide +kernel
theorem d_M_doOne_137 : decode prog_14_method_176_code 137 = .ok (.aload_n 0, 1) := by decide +kernel
theorem d_M_doOne_138 : decode prog_14_method_176_code 138 = .ok (.iload_n 1, 1) := by decide +kernel
theorem d_M_doOne_139 : decode prog_14_method_176_code 139 = .ok (.iconst 1, 1) := by decide +kernel
theorem d_M_doOne_140 : decode prog_14_method_176_code 140 = .ok (.iadd, 1) := by decide +kernel
theorem d_M_doOne_141 : decode prog_14_method_176_code 141 = .ok (.aload_n 0, 1) := by decide +kernel
theorem d_M_doOne_142 : decode prog_14_method_176_code 142 = .ok (.getfield 35, 3) := by decide +kernel
theorem d_M_doOne_145 : decode prog_14_method_176_code 145 = .ok (.iload_n 2, 1) := by decide +kernel
theorem d_M_doOne_146 : decode prog_14_method_176_code 146 = .ok (.bipush 8, 2) := by decide +kernel
theorem d_M_doOne_148 : decode prog_14_method_176_code 148 = .ok (.iadd, 1) := by decide +kernel
theorem d_M_doOne_149 : decode prog_14_method_176_code 149 = .ok (.iaload, 1) := by decide +kernel
theorem d_M_doOne_150 : decode prog_14_method_176_code 150 = .ok (.invokevirtual 556, 3) := by decide +kernel
theorem d_M_doOne_153 : decode prog_14_method_176_code 153 = .ok (.iinc 4 1, 3) := by decide +kernel
theorem d_M_doOne_156 : decode prog_14_method_176_code 156 = .ok (.goto (-39), 3) := by decide +kernel
theorem d_M_doOne_159 : decode prog_14_method_176_code 159 = .ok (.goto 13, 3) := by decide +kernel
theorem d_M_doOne_162 : decode prog_14_method_176_code 162 = .ok (.iload_n 3, 1) := by decide +kernel
theorem d_M_doOne_163 : decode prog_14_method_176_code 163 = .ok (.iconst 5, 1) := by decide +kernel
theorem d_M_doOne_164 : decode prog_14_method_176_code 164 = .ok (.if_icmp .le 8, 3) := by decide +kernel
theorem d_M_doOne_167 : decode prog_14_method_176_code 167 = .ok (.aload_n 0, 1) := by decide +kernel
theorem d_M_doOne_168 : decode prog_14_method_176_code 168 = .ok (.iconst 1, 1) := by decide +kernel
theorem d_M_doOne_169 : decode prog_14_method_176_code 169 = .ok (.putfield 540, 3) := by decide +kernel
theorem d_M_doOne_172 : decode prog_14_method_176_code 172 = .ok (.return_, 1) := by decide +kernel
def M_doOne_L117 (Y : Ly) (rec_M_doAll : Nat → Int32 → Int32 → Hp → Option Hp) (l0 : Nat) (l1 : Int32) (l2 : Int32) : Nat → Int32 → Hp → Option Hp
  | 0, _, _ => none
  | F + 1, l4, h =>
    if inB (l2 + 1) (lnY Y (hGr h 1220 l0)) = true then
      if (hAi h (hGr h 1220 l0) (Int32.toNatClampNeg (l2 + 1))) ≤ l4 then
        some h
      else
        if (hGz h 1236 l0) = true then
          some h
        else
          if inB (l2 + 8) (lnY Y (hGr h 1220 l0)) = true then
            (rec_M_doAll l0 (l1 + 1) (hAi h (hGr h 1220 l0) (Int32.toNatClampNeg (l2 + 8))) h).bind fun q21 =>
            M_doOne_L117 Y rec_M_doAll l0 l1 l2 F (l4 + 1) q21
          else none
    else none
theorem M_doOne_L117_ok (Y : Ly) {n n0 : Nat} (hn0 : n0 + 1 ≤ n) (hn1 : 7 ≤ n) (rec_M_doAll : Nat → Int32 → Int32 → Hp → Option Hp) (hrec_M_doAll : ∀ (x0 : Nat) (x1 : Int32) (x2 : Int32) (h : Hp), isO Y 12 x0 → AM Y n0 K_M_doAll [.ref x0, .int x1, .int x2] h (rec_M_doAll x0 x1 x2 h) rV) (l0 : Nat) (l1 : Int32) (l2 : Int32) (tl0 : isO Y 12 l0) : ∀ (F : Nat) (l4 : Int32) (h : Hp), AW Y n K_M_doOne 117 [(0, .ref l0), (1, .int l1), (2, .int l2), (4, .int l4)] [] h (M_doOne_L117 Y rec_M_doAll l0 l1 l2 F l4 h) rV := by
  intro F
  induction F with
  | zero =>
    intro l4 h
    exact aw_none
  | succ F ih =>
    intro l4 h
    unfold M_doOne_L117
    refine aw_iload (pc := 117) d_M_doOne_117 3 rfl ?_
    refine aw_aload_n (pc := 119) d_M_doOne_119 rfl 0 rfl ?_
    refine gt_1220 (pc := 120) d_M_doOne_120 w7_47 tl0 (fun tt15 => ?_)
    refine aw_iload_n (pc := 123) d_M_doOne_123 rfl 2 rfl ?_
    refine aw_iconst (pc := 124) (x := 1) d_M_doOne_124 (by decide) ?_
    refine aw_iadd (pc := 125) d_M_doOne_125 ?_
    refine aw_iaload (pc := 126) d_M_doOne_126 tt15 (fun c16 => ?_)
    refine aw_icmp_ge (pc := 127) (tgt := 159) d_M_doOne_127 (by decide) (fun c17 => ?_) (fun c17 => ?_)
    · refine aw_goto (pc := 159) (tgt := 172) d_M_doOne_159 (by decide) ?_
      exact aw_return (pc := 172) d_M_doOne_172 rfl rfl
    · refine aw_aload_n (pc := 130) d_M_doOne_130 rfl 0 rfl ?_
      refine gt_1236 (pc := 131) d_M_doOne_131 w7_63 tl0 ?_
      refine aw_bne (pc := 134) (tgt := 159) d_M_doOne_134 (by decide) (fun c18 => ?_) (fun c18 => ?_)
      · refine aw_goto (pc := 159) (tgt := 172) d_M_doOne_159 (by decide) ?_
        exact aw_return (pc := 172) d_M_doOne_172 rfl rfl
      · refine aw_aload_n (pc := 137) d_M_doOne_137 rfl 0 rfl ?_
        refine aw_iload_n (pc := 138) d_M_doOne_138 rfl 1 rfl ?_
        refine aw_iconst (pc := 139) (x := 1) d_M_doOne_139 (by decide) ?_
        refine aw_iadd (pc := 140) d_M_doOne_140 ?_
        refine aw_aload_n (pc := 141) d_M_doOne_141 rfl 0 rfl ?_
        refine gt_1220 (pc := 142) d_M_doOne_142 w7_47 tl0 (fun tt19 => ?_)
        refine aw_iload_n (pc := 145) d_M_doOne_145 rfl 2 rfl ?_
        refine aw_bipush (pc := 146) (x := 8) d_M_doOne_146 (by decide) ?_
        refine aw_iadd (pc := 148) d_M_doOne_148 ?_
        refine aw_iaload (pc := 149) d_M_doOne_149 tt19 (fun c20 => ?_)
        refine aw_cVrV (pc := 150) (ci := 12) (T := TX12) (N := 44) (As := [.int (l1 + 1), .int (hAi h (hGr h 1220 l0) (Int32.toNatClampNeg (l2 + 8)))]) (st := []) (hrec_M_doAll l0 (l1 + 1) (hAi h (hGr h 1220 l0) (Int32.toNatClampNeg (l2 + 8))) h tl0) okV_M_doAll rfl (by decide) tl0 w10_133 d_M_doOne_150 rfl hn0 rfl (Nat.le_of_ble_eq_true rfl) (fun q21 hq21 hTq21 => ?_)
        refine aw_iinc (pc := 153) (w := l4 + 1) (lv' := [(4, .int (l4 + 1)), (0, .ref l0), (1, .int l1), (2, .int l2)]) d_M_doOne_153 3 rfl rfl (by decide) rfl ?_
        refine aw_goto (pc := 156) (tgt := 117) d_M_doOne_156 (by decide) ?_
        exact aw_lv [1, 2, 3, 0] rfl (ih (l4 + 1) q21)
def M_doOne_J109 (Y : Ly) (rec_M_doAll : Nat → Int32 → Int32 → Hp → Option Hp) (l0 : Nat) (l1 : Int32) (l2 : Int32) (l3 : Int32) (h : Hp) : Option Hp :=
  if l3 = 5 then
    M_doOne_L117 Y rec_M_doAll l0 l1 l2 FU 0 h
  else
    if l3 ≤ 5 then
      some h
    else
      letH (hSz h 1236 l0 true) fun h23 =>
      some h23
theorem M_doOne_J109_ok (Y : Ly) {n n0 : Nat} (hn0 : n0 + 1 ≤ n) (hn1 : 7 ≤ n) (rec_M_doAll : Nat → Int32 → Int32 → Hp → Option Hp) (hrec_M_doAll : ∀ (x0 : Nat) (x1 : Int32) (x2 : Int32) (h : Hp), isO Y 12 x0 → AM Y n0 K_M_doAll [.ref x0, .int x1, .int x2] h (rec_M_doAll x0 x1 x2 h) rV) (l0 : Nat) (l1 : Int32) (l2 : Int32) (l3 : Int32) (h : Hp) (tl0 : isO Y 12 l0) : AW Y n K_M_doOne 109 [(0, .ref l0), (1, .int l1), (2, .int l2), (3, .int l3)] [] h (M_doOne_J109 Y rec_M_doAll l0 l1 l2 l3 h) rV := by
  unfold M_doOne_J109
  refine aw_iload_n (pc := 109) d_M_doOne_109 rfl 3 rfl ?_
  refine aw_iconst (pc := 110) (x := 5) d_M_doOne_110 (by decide) ?_
  refine aw_icmp_ne (pc := 111) (tgt := 162) d_M_doOne_111 (by decide) (fun c14 => ?_) (fun c14 => ?_)
  · refine aw_iconst (pc := 114) (x := 0) d_M_doOne_114 (by decide) ?_
    refine aw_istore (pc := 115) (lv' := [(4, .int 0), (0, .ref l0), (1, .int l1), (2, .int l2), (3, .int l3)]) d_M_doOne_115 (by decide) rfl ?_
    exact aw_lv [1, 2, 3, 0] rfl (M_doOne_L117_ok Y hn0 hn1 rec_M_doAll hrec_M_doAll l0 l1 l2 tl0 FU 0 h)
  · refine aw_iload_n (pc := 162) d_M_doOne_162 rfl 3 rfl ?_
    refine aw_iconst (pc := 163) (x := 5) d_M_doOne_163 (by decide) ?_
    refine aw_icmp_le (pc := 164) (tgt := 172) d_M_doOne_164 (by decide) (fun c22 => ?_) (fun c22 => ?_)
    · exact aw_return (pc := 172) d_M_doOne_172 rfl rfl
    · refine aw_aload_n (pc := 167) d_M_doOne_167 rfl 0 rfl ?_
      refine aw_iconst (pc := 168) (x := 1) d_M_doOne_168 (by decide) ?_
      refine pt_1236 (pc := 169) (x := true) d_M_doOne_169 w7_63 tl0 ?_
      refine aw_letH (fun h23 => ?_)
      exact aw_return (pc := 172) d_M_doOne_172 rfl rfl
def M_doOne_b (Y : Ly) (rec_M_doAll : Nat → Int32 → Int32 → Hp → Option Hp) (l0 : Nat) (l1 : Int32) (h : Hp) : Option Hp :=
  if (hGi h 1238 l0) = 300 then
    letH (hSz h 1236 l0 true) fun h2 =>
    letH (hSi h2 1243 l0 1) fun h3 =>
    some h3
  else
    letH (hSi h 1238 l0 ((hGi h 1238 l0) + 1)) fun h4 =>
    if inB (306 + (9 * l1)) (lnY Y (hGr h4 1220 l0)) = true then
      if 4 ≤ (hAi h4 (hGr h4 1220 l0) (Int32.toNatClampNeg (306 + (9 * l1)))) then
        if (hAi h4 (hGr h4 1220 l0) (Int32.toNatClampNeg (306 + (9 * l1)))) = 4 then
          (M_isSo Y l0 (306 + (9 * l1)) h4).bind fun q9 =>
          if q9 = true then
            if inB ((306 + (9 * l1)) + 8) (lnY Y (hGr h4 1220 l0)) = true then
              (rec_M_doAll l0 (l1 + 1) (hAi h4 (hGr h4 1220 l0) (Int32.toNatClampNeg ((306 + (9 * l1)) + 8))) h4).bind fun q13 =>
              some q13
            else none
          else
            M_doOne_J109 Y rec_M_doAll l0 l1 (306 + (9 * l1)) (hAi h4 (hGr h4 1220 l0) (Int32.toNatClampNeg (306 + (9 * l1)))) h4
        else
          M_doOne_J109 Y rec_M_doAll l0 l1 (306 + (9 * l1)) (hAi h4 (hGr h4 1220 l0) (Int32.toNatClampNeg (306 + (9 * l1)))) h4
      else
        (M_does Y l0 (306 + (9 * l1)) h4).bind fun q24 =>
        if q24.1 = true then
          letH (hSi q24.2 1239 l0 ((hGi h4 1239 l0) + 0)) fun h26 =>
          some h26
        else
          letH (hSi q24.2 1239 l0 ((hGi h4 1239 l0) + 1)) fun h27 =>
          some h27
    else none
theorem ok_M_doOne_b (Y : Ly) {n n0 : Nat} (hn0 : n0 + 1 ≤ n) (hn1 : 7 ≤ n) (rec_M_doAll : Nat → Int32 → Int32 → Hp → Option Hp) (hrec_M_doAll : ∀ (x0 : Nat) (x1 : Int32) (x2 : Int32) (h : Hp), isO Y 12 x0 → AM Y n0 K_M_doAll [.ref x0, .int x1, .int x2] h (rec_M_doAll x0 x1 x2 h) rV) (l0 : Nat) (l1 : Int32) (h : Hp) (t0 : isO Y 12 l0) : AM Y n K_M_doOne [.ref l0, .int l1] h (M_doOne_b Y rec_M_doAll l0 l1 h) rV := by
  refine AM.of rfl (Nat.le_of_ble_eq_true rfl) ?_
  show AW Y n K_M_doOne 0 [(0, .ref l0), (1, .int l1)] [] h (M_doOne_b Y rec_M_doAll l0 l1 h) rV
  unfold M_doOne_b
  refine aw_aload_n (pc := 0) d_M_doOne_0 rfl 0 rfl ?_
  refine gt_1238 (pc := 1) d_M_doOne_1 w7_65 t0 ?_
  refine aw_sipush (pc := 4) (x := 300) d_M_doOne_4 (by decide) ?_
  refine aw_icmp_ne (pc := 7) (tgt := 21) d_M_doOne_7 (by decide) (fun c1 => ?_) (fun c1 => ?_)
  · refine aw_aload_n (pc := 10) d_M_doOne_10 rfl 0 rfl ?_
    refine aw_iconst (pc := 11) (x := 1) d_M_doOne_11 (by decide) ?_
    refine pt_1236 (pc := 12) (x := true) d_M_doOne_12 w7_63 t0 ?_
    refine aw_letH (fun h2 => ?_)
    refine aw_aload_n (pc := 15) d_M_doOne_15 rfl 0 rfl ?_
    refine aw_iconst (pc := 16) (x := 1) d_M_doOne_16 (by decide) ?_
    refine pt_1243 (pc := 17) d_M_doOne_17 w7_70 t0 ?_
    refine aw_letH (fun h3 => ?_)
    exact aw_return (pc := 20) d_M_doOne_20 rfl rfl
  · refine aw_aload_n (pc := 21) d_M_doOne_21 rfl 0 rfl ?_
    refine aw_dup (pc := 22) d_M_doOne_22 rfl ?_
    refine gt_1238 (pc := 23) d_M_doOne_23 w7_65 t0 ?_
    refine aw_iconst (pc := 26) (x := 1) d_M_doOne_26 (by decide) ?_
    refine aw_iadd (pc := 27) d_M_doOne_27 ?_
    refine pt_1238 (pc := 28) d_M_doOne_28 w7_65 t0 ?_
    refine aw_letH (fun h4 => ?_)
    refine aw_sipush (pc := 31) (x := 306) d_M_doOne_31 (by decide) ?_
    refine aw_bipush (pc := 34) (x := 9) d_M_doOne_34 (by decide) ?_
    refine aw_iload_n (pc := 36) d_M_doOne_36 rfl 1 rfl ?_
    refine aw_imul (pc := 37) d_M_doOne_37 ?_
    refine aw_iadd (pc := 38) d_M_doOne_38 ?_
    refine aw_istore_n (pc := 39) (lv' := [(2, .int (306 + (9 * l1))), (0, .ref l0), (1, .int l1)]) d_M_doOne_39 rfl (by decide) rfl ?_
    refine aw_aload_n (pc := 40) d_M_doOne_40 rfl 1 rfl ?_
    refine gt_1220 (pc := 41) d_M_doOne_41 w7_47 t0 (fun tt5 => ?_)
    refine aw_iload_n (pc := 44) d_M_doOne_44 rfl 0 rfl ?_
    refine aw_iaload (pc := 45) d_M_doOne_45 tt5 (fun c6 => ?_)
    refine aw_istore_n (pc := 46) (lv' := [(3, .int (hAi h4 (hGr h4 1220 l0) (Int32.toNatClampNeg (306 + (9 * l1))))), (2, .int (306 + (9 * l1))), (0, .ref l0), (1, .int l1)]) d_M_doOne_46 rfl (by decide) rfl ?_
    refine aw_iload_n (pc := 47) d_M_doOne_47 rfl 0 rfl ?_
    refine aw_iconst (pc := 48) (x := 4) d_M_doOne_48 (by decide) ?_
    refine aw_icmp_ge (pc := 49) (tgt := 77) d_M_doOne_49 (by decide) (fun c7 => ?_) (fun c7 => ?_)
    · refine aw_iload_n (pc := 77) d_M_doOne_77 rfl 0 rfl ?_
      refine aw_iconst (pc := 78) (x := 4) d_M_doOne_78 (by decide) ?_
      refine aw_icmp_ne (pc := 79) (tgt := 109) d_M_doOne_79 (by decide) (fun c8 => ?_) (fun c8 => ?_)
      · refine aw_aload_n (pc := 82) d_M_doOne_82 rfl 2 rfl ?_
        refine aw_iload_n (pc := 83) d_M_doOne_83 rfl 1 rfl ?_
        refine aw_cVpZ (pc := 84) (ci := 12) (T := TX12) (N := 44) (As := [.int (306 + (9 * l1))]) (st := []) (ok_M_isSo Y l0 (306 + (9 * l1)) h4 t0) okV_M_isSo rfl (by decide) t0 w10_154 d_M_doOne_84 rfl (by omega) rfl (Nat.le_of_ble_eq_true rfl) (fun q9 hq9 hTq9 => ?_)
        refine aw_beq (pc := 87) (tgt := 109) d_M_doOne_87 (by decide) (fun c10 => ?_) (fun c10 => ?_)
        · refine aw_aload_n (pc := 90) d_M_doOne_90 rfl 2 rfl ?_
          refine aw_iload_n (pc := 91) d_M_doOne_91 rfl 3 rfl ?_
          refine aw_iconst (pc := 92) (x := 1) d_M_doOne_92 (by decide) ?_
          refine aw_iadd (pc := 93) d_M_doOne_93 ?_
          refine aw_aload_n (pc := 94) d_M_doOne_94 rfl 2 rfl ?_
          refine gt_1220 (pc := 95) d_M_doOne_95 w7_47 t0 (fun tt11 => ?_)
          refine aw_iload_n (pc := 98) d_M_doOne_98 rfl 1 rfl ?_
          refine aw_bipush (pc := 99) (x := 8) d_M_doOne_99 (by decide) ?_
          refine aw_iadd (pc := 101) d_M_doOne_101 ?_
          refine aw_iaload (pc := 102) d_M_doOne_102 tt11 (fun c12 => ?_)
          refine aw_cVrV (pc := 103) (ci := 12) (T := TX12) (N := 44) (As := [.int (l1 + 1), .int (hAi h4 (hGr h4 1220 l0) (Int32.toNatClampNeg ((306 + (9 * l1)) + 8)))]) (st := []) (hrec_M_doAll l0 (l1 + 1) (hAi h4 (hGr h4 1220 l0) (Int32.toNatClampNeg ((306 + (9 * l1)) + 8))) h4 t0) okV_M_doAll rfl (by decide) t0 w10_133 d_M_doOne_103 rfl hn0 rfl (Nat.le_of_ble_eq_true rfl) (fun q13 hq13 hTq13 => ?_)
          refine aw_goto (pc := 106) (tgt := 172) d_M_doOne_106 (by decide) ?_
          exact aw_return (pc := 172) d_M_doOne_172 rfl rfl
        · exact aw_lv [2, 3, 1, 0] rfl (M_doOne_J109_ok Y hn0 hn1 rec_M_doAll hrec_M_doAll l0 l1 (306 + (9 * l1)) (hAi h4 (hGr h4 1220 l0) (Int32.toNatClampNeg (306 + (9 * l1)))) h4 t0)
      · exact aw_lv [2, 3, 1, 0] rfl (M_doOne_J109_ok Y hn0 hn1 rec_M_doAll hrec_M_doAll l0 l1 (306 + (9 * l1)) (hAi h4 (hGr h4 1220 l0) (Int32.toNatClampNeg (306 + (9 * l1)))) h4 t0)
    · refine aw_aload_n (pc := 52) d_M_doOne_52 rfl 2 rfl ?_
      refine aw_dup (pc := 53) d_M_doOne_53 rfl ?_
      refine gt_1239 (pc := 54) d_M_doOne_54 w7_66 t0 ?_
      refine aw_aload_n (pc := 57) d_M_doOne_57 rfl 2 rfl ?_
      refine aw_iload_n (pc := 58) d_M_doOne_58 rfl 1 rfl ?_
      refine aw_cVrZ (pc := 59) (ci := 12) (T := TX12) (N := 44) (As := [.int (306 + (9 * l1))]) (st := [.int (hGi h4 1239 l0), .ref l0]) (ok_M_does Y l0 (306 + (9 * l1)) h4 t0) okV_M_does rfl (by decide) t0 w10_141 d_M_doOne_59 rfl (by omega) rfl (Nat.le_of_ble_eq_true rfl) (fun q24 hq24 hTq24 => ?_)
      refine aw_beq (pc := 62) (tgt := 69) d_M_doOne_62 (by decide) (fun c25 => ?_) (fun c25 => ?_)
      · refine aw_iconst (pc := 65) (x := 0) d_M_doOne_65 (by decide) ?_
        refine aw_goto (pc := 66) (tgt := 70) d_M_doOne_66 (by decide) ?_
        refine aw_iadd (pc := 70) d_M_doOne_70 ?_
        refine pt_1239 (pc := 71) d_M_doOne_71 w7_66 t0 ?_
        refine aw_letH (fun h26 => ?_)
        refine aw_goto (pc := 74) (tgt := 172) d_M_doOne_74 (by decide) ?_
        exact aw_return (pc := 172) d_M_doOne_172 rfl rfl
      · refine aw_iconst (pc := 69) (x := 1) d_M_doOne_69 (by decide) ?_
        refine aw_iadd (pc := 70) d_M_doOne_70 ?_
        refine pt_1239 (pc := 71) d_M_doOne_71 w7_66 t0 ?_
        refine aw_letH (fun h27 => ?_)
        refine aw_goto (pc := 74) (tgt := 172) d_M_doOne_74 (by decide) ?_
        exact aw_return (pc := 172) d_M_doOne_172 rfl rfl
/-! LastPagesModel.doAll(II)V -/
theorem d_M_doAll_0 : decode prog_14_method_177_code 0 = .ok (.iload_n 1, 1) := by decide +kernel
theorem d_M_doAll_1 : decode prog_14_method_177_code 1 = .ok (.istore_n 3, 1) := by decide +kernel
theorem d_M_doAll_2 : decode prog_14_method_177_code 2 = .ok (.iload_n 3, 1) := by decide +kernel
theorem d_M_doAll_3 : decode prog_14_method_177_code 3 = .ok (.iload_n 2, 1) := by decide +kernel
theorem d_M_doAll_4 : decode prog_14_method_177_code 4 = .ok (.if_icmp .ge 35, 3) := by decide +kernel
theorem d_M_doAll_7 : decode prog_14_method_177_code 7 = .ok (.aload_n 0, 1) := by decide +kernel
theorem d_M_doAll_8 : decode prog_14_method_177_code 8 = .ok (.getfield 540, 3) := by decide +kernel
theorem d_M_doAll_11 : decode prog_14_method_177_code 11 = .ok (.ifCond .ne 28, 3) := by decide +kernel
theorem d_M_doAll_14 : decode prog_14_method_177_code 14 = .ok (.aload_n 0, 1) := by decide +kernel
theorem d_M_doAll_15 : decode prog_14_method_177_code 15 = .ok (.iload_n 3, 1) := by decide +kernel
theorem d_M_doAll_16 : decode prog_14_method_177_code 16 = .ok (.invokevirtual 559, 3) := by decide +kernel
theorem d_M_doAll_19 : decode prog_14_method_177_code 19 = .ok (.aload_n 0, 1) := by decide +kernel
theorem d_M_doAll_20 : decode prog_14_method_177_code 20 = .ok (.getfield 35, 3) := by decide +kernel
theorem d_M_doAll_23 : decode prog_14_method_177_code 23 = .ok (.sipush 306, 3) := by decide +kernel
theorem d_M_doAll_26 : decode prog_14_method_177_code 26 = .ok (.bipush 9, 2) := by decide +kernel
theorem d_M_doAll_28 : decode prog_14_method_177_code 28 = .ok (.iload_n 3, 1) := by decide +kernel
theorem d_M_doAll_29 : decode prog_14_method_177_code 29 = .ok (.imul, 1) := by decide +kernel
theorem d_M_doAll_30 : decode prog_14_method_177_code 30 = .ok (.iadd, 1) := by decide +kernel
theorem d_M_doAll_31 : decode prog_14_method_177_code 31 = .ok (.bipush 8, 2) := by decide +kernel
theorem d_M_doAll_33 : decode prog_14_method_177_code 33 = .ok (.iadd, 1) := by decide +kernel
theorem d_M_doAll_34 : decode prog_14_method_177_code 34 = .ok (.iaload, 1) := by decide +kernel
theorem d_M_doAll_35 : decode prog_14_method_177_code 35 = .ok (.istore_n 3, 1) := by decide +kernel
theorem d_M_doAll_36 : decode prog_14_method_177_code 36 = .ok (.goto (-34), 3) := by decide +kernel
theorem d_M_doAll_39 : decode prog_14_method_177_code 39 = .ok (.return_, 1) := by decide +kernel
def M_doAll_L2 (Y : Ly) (rec_M_doOne : Nat → Int32 → Hp → Option Hp) (l0 : Nat) (l2 : Int32) : Nat → Int32 → Hp → Option Hp
  | 0, _, _ => none
  | F + 1, l3, h =>
    if l2 ≤ l3 then
      some h
    else
      if (hGz h 1236 l0) = true then
        some h
      else
        (rec_M_doOne l0 l3 h).bind fun q3 =>
        if inB ((306 + (9 * l3)) + 8) (lnY Y (hGr q3 1220 l0)) = true then
          M_doAll_L2 Y rec_M_doOne l0 l2 F (hAi q3 (hGr q3 1220 l0) (Int32.toNatClampNeg ((306 + (9 * l3)) + 8))) q3
        else none
theorem M_doAll_L2_ok (Y : Ly) {n n0 : Nat} (hn0 : n0 + 1 ≤ n) (hn1 : 8 ≤ n) (rec_M_doOne : Nat → Int32 → Hp → Option Hp) (hrec_M_doOne : ∀ (x0 : Nat) (x1 : Int32) (h : Hp), isO Y 12 x0 → AM Y n0 K_M_doOne [.ref x0, .int x1] h (rec_M_doOne x0 x1 h) rV) (l0 : Nat) (l2 : Int32) (tl0 : isO Y 12 l0) : ∀ (F : Nat) (l3 : Int32) (h : Hp), AW Y n K_M_doAll 2 [(0, .ref l0), (2, .int l2), (3, .int l3)] [] h (M_doAll_L2 Y rec_M_doOne l0 l2 F l3 h) rV := by
  intro F
  induction F with
  | zero =>
    intro l3 h
    exact aw_none
  | succ F ih =>
    intro l3 h
    unfold M_doAll_L2
    refine aw_iload_n (pc := 2) d_M_doAll_2 rfl 2 rfl ?_
    refine aw_iload_n (pc := 3) d_M_doAll_3 rfl 1 rfl ?_
    refine aw_icmp_ge (pc := 4) (tgt := 39) d_M_doAll_4 (by decide) (fun c1 => ?_) (fun c1 => ?_)
    · exact aw_return (pc := 39) d_M_doAll_39 rfl rfl
    · refine aw_aload_n (pc := 7) d_M_doAll_7 rfl 0 rfl ?_
      refine gt_1236 (pc := 8) d_M_doAll_8 w7_63 tl0 ?_
      refine aw_bne (pc := 11) (tgt := 39) d_M_doAll_11 (by decide) (fun c2 => ?_) (fun c2 => ?_)
      · exact aw_return (pc := 39) d_M_doAll_39 rfl rfl
      · refine aw_aload_n (pc := 14) d_M_doAll_14 rfl 0 rfl ?_
        refine aw_iload_n (pc := 15) d_M_doAll_15 rfl 2 rfl ?_
        refine aw_cVrV (pc := 16) (ci := 12) (T := TX12) (N := 44) (As := [.int l3]) (st := []) (hrec_M_doOne l0 l3 h tl0) okV_M_doOne rfl (by decide) tl0 w10_137 d_M_doAll_16 rfl hn0 rfl (Nat.le_of_ble_eq_true rfl) (fun q3 hq3 hTq3 => ?_)
        refine aw_aload_n (pc := 19) d_M_doAll_19 rfl 0 rfl ?_
        refine gt_1220 (pc := 20) d_M_doAll_20 w7_47 tl0 (fun tt4 => ?_)
        refine aw_sipush (pc := 23) (x := 306) d_M_doAll_23 (by decide) ?_
        refine aw_bipush (pc := 26) (x := 9) d_M_doAll_26 (by decide) ?_
        refine aw_iload_n (pc := 28) d_M_doAll_28 rfl 2 rfl ?_
        refine aw_imul (pc := 29) d_M_doAll_29 ?_
        refine aw_iadd (pc := 30) d_M_doAll_30 ?_
        refine aw_bipush (pc := 31) (x := 8) d_M_doAll_31 (by decide) ?_
        refine aw_iadd (pc := 33) d_M_doAll_33 ?_
        refine aw_iaload (pc := 34) d_M_doAll_34 tt4 (fun c5 => ?_)
        refine aw_istore_n (pc := 35) (lv' := [(3, .int (hAi q3 (hGr q3 1220 l0) (Int32.toNatClampNeg ((306 + (9 * l3)) + 8)))), (0, .ref l0), (2, .int l2)]) d_M_doAll_35 rfl (by decide) rfl ?_
        refine aw_goto (pc := 36) (tgt := 2) d_M_doAll_36 (by decide) ?_
        exact aw_lv [1, 2, 0] rfl (ih (hAi q3 (hGr q3 1220 l0) (Int32.toNatClampNeg ((306 + (9 * l3)) + 8))) q3)
def M_doAll_b (Y : Ly) (rec_M_doOne : Nat → Int32 → Hp → Option Hp) (l0 : Nat) (l1 : Int32) (l2 : Int32) (h : Hp) : Option Hp :=
  M_doAll_L2 Y rec_M_doOne l0 l2 FU l1 h
theorem ok_M_doAll_b (Y : Ly) {n n0 : Nat} (hn0 : n0 + 1 ≤ n) (hn1 : 8 ≤ n) (rec_M_doOne : Nat → Int32 → Hp → Option Hp) (hrec_M_doOne : ∀ (x0 : Nat) (x1 : Int32) (h : Hp), isO Y 12 x0 → AM Y n0 K_M_doOne [.ref x0, .int x1] h (rec_M_doOne x0 x1 h) rV) (l0 : Nat) (l1 : Int32) (l2 : Int32) (h : Hp) (t0 : isO Y 12 l0) : AM Y n K_M_doAll [.ref l0, .int l1, .int l2] h (M_doAll_b Y rec_M_doOne l0 l1 l2 h) rV := by
  refine AM.of rfl (Nat.le_of_ble_eq_true rfl) ?_
  show AW Y n K_M_doAll 0 [(0, .ref l0), (1, .int l1), (2, .int l2)] [] h (M_doAll_b Y rec_M_doOne l0 l1 l2 h) rV
  unfold M_doAll_b
  refine aw_iload_n (pc := 0) d_M_doAll_0 rfl 1 rfl ?_
  refine aw_istore_n (pc := 1) (lv' := [(3, .int l1), (0, .ref l0), (1, .int l1), (2, .int l2)]) d_M_doAll_1 rfl (by decide) rfl ?_
  exact aw_lv [1, 3, 0] rfl (M_doAll_L2_ok Y hn0 hn1 rec_M_doOne hrec_M_doOne l0 l2 t0 FU l1 h)
def M_doAll (Y : Ly) : Nat → Nat → Int32 → Int32 → Hp → Option Hp
  | 0, _, _, _, _ => none
  | d + 1, l0, l1, l2, h => M_doAll_b Y (fun x0 x1 h => M_doOne_b Y (M_doAll Y d) x0 x1 h) l0 l1 l2 h
theorem ok_M_doAll (Y : Ly) : ∀ (d : Nat) (l0 : Nat) (l1 : Int32) (l2 : Int32) (h : Hp), isO Y 12 l0 → AM Y (8 + 2 * d) K_M_doAll [.ref l0, .int l1, .int l2] h (M_doAll Y d l0 l1 l2 h) rV
  | 0, l0, l1, l2, h, _ => fun x hx => by cases hx
  | d + 1, l0, l1, l2, h, t0 => ok_M_doAll_b Y (n := 8 + 2 * (d + 1)) (n0 := 8 + 2 * d + 1) (by omega) (by omega) (fun x0 x1 h => M_doOne_b Y (M_doAll Y d) x0 x1 h) (fun x0 x1 h tx => ok_M_doOne_b Y (n := 8 + 2 * d + 1) (n0 := 8 + 2 * d) (by omega) (by omega) (M_doAll Y d) (fun x0 x1 x2 h tx => ok_M_doAll Y d x0 x1 x2 h tx) x0 x1 h tx) l0 l1 l2 h t0
/-! LastPagesModel.empties(I)V -/
theorem d_M_empties_0 : decode prog_14_method_73_code 0 = .ok (.iconst 0, 1) := by decide +kernel
theorem d_M_empties_1 : decode prog_14_method_73_code 1 = .ok (.istore_n 2, 1) := by decide +kernel
theorem d_M_empties_2 : decode prog_14_method_73_code 2 = .ok (.iload_n 2, 1) := by decide +kernel
theorem d_M_empties_3 : decode prog_14_method_73_code 3 = .ok (.sipush 576, 3) := by decide +kernel
theorem d_M_empties_6 : decode prog_14_method_73_code 6 = .ok (.if_icmp .ge 22, 3) := by decide +kernel
theorem d_M_empties_9 : decode prog_14_method_73_code 9 = .ok (.aload_n 0, 1) := by decide +kernel
theorem d_M_empties_10 : decode prog_14_method_73_code 10 = .ok (.getfield 35, 3) := by decide +kernel
theorem d_M_empties_13 : decode prog_14_method_73_code 13 = .ok (.sipush 576, 3) := by decide +kernel
theorem d_M_empties_16 : decode prog_14_method_73_code 16 = .ok (.iload_n 1, 1) := by decide +kernel
theorem d_M_empties_17 : decode prog_14_method_73_code 17 = .ok (.imul, 1) := by decide +kernel
theorem d_M_empties_18 : decode prog_14_method_73_code 18 = .ok (.iload_n 2, 1) := by decide +kernel
theorem d_M_empties_19 : decode prog_14_method_73_code 19 = .ok (.iadd, 1) := by decide +kernel
theorem d_M_empties_20 : decode prog_14_method_73_code 20 = .ok (.iconst 0, 1) := by decide +kernel
theorem d_M_empties_21 : decode prog_14_method_73_code 21 = .ok (.iastore, 1) := by decide +kernel
theorem d_M_empties_22 : decode prog_14_method_73_code 22 = .ok (.iinc 2 1, 3) := by decide +kernel
theorem d_M_empties_25 : decode prog_14_method_73_code 25 = .ok (.goto (-23), 3) := by decide +kernel
theorem d_M_empties_28 : decode prog_14_method_73_code 28 = .ok (.iconst 0, 1) := by decide +kernel
theorem d_M_empties_29 : decode prog_14_method_73_code 29 = .ok (.istore_n 2, 1) := by decide +kernel
theorem d_M_empties_30 : decode prog_14_method_73_code 30 = .ok (.iload_n 2, 1) := by decide +kernel
theorem d_M_empties_31 : decode prog_14_method_73_code 31 = .ok (.bipush 64, 2) := by decide +kernel
theorem d_M_empties_33 : decode prog_14_method_73_code 33 = .ok (.if_icmp .ge 25, 3) := by decide +kernel
theorem d_M_empties_36 : decode prog_14_method_73_code 36 = .ok (.aload_n 0, 1) := by decide +kernel
theorem d_M_empties_37 : decode prog_14_method_73_code 37 = .ok (.getfield 35, 3) := by decide +kernel
theorem d_M_empties_40 : decode prog_14_method_73_code 40 = .ok (.sipush 576, 3) := by decide +kernel
theorem d_M_empties_43 : decode prog_14_method_73_code 43 = .ok (.iload_n 1, 1) := by decide +kernel
theorem d_M_empties_44 : decode prog_14_method_73_code 44 = .ok (.imul, 1) := by decide +kernel
theorem d_M_empties_45 : decode prog_14_method_73_code 45 = .ok (.bipush 18, 2) := by decide +kernel
theorem d_M_empties_47 : decode prog_14_method_73_code 47 = .ok (.iadd, 1) := by decide +kernel
theorem d_M_empties_48 : decode prog_14_method_73_code 48 = .ok (.iload_n 2, 1) := by decide +kernel
theorem d_M_empties_49 : decode prog_14_method_73_code 49 = .ok (.iadd, 1) := by decide +kernel
theorem d_M_empties_50 : decode prog_14_method_73_code 50 = .ok (.iconst (-1), 1) := by decide +kernel
theorem d_M_empties_51 : decode prog_14_method_73_code 51 = .ok (.iastore, 1) := by decide +kernel
theorem d_M_empties_52 : decode prog_14_method_73_code 52 = .ok (.iinc 2 1, 3) := by decide +kernel
theorem d_M_empties_55 : decode prog_14_method_73_code 55 = .ok (.goto (-25), 3) := by decide +kernel
theorem d_M_empties_58 : decode prog_14_method_73_code 58 = .ok (.iconst 0, 1) := by decide +kernel
theorem d_M_empties_59 : decode prog_14_method_73_code 59 = .ok (.istore_n 2, 1) := by decide +kernel
theorem d_M_empties_60 : decode prog_14_method_73_code 60 = .ok (.iload_n 2, 1) := by decide +kernel
theorem d_M_empties_61 : decode prog_14_method_73_code 61 = .ok (.bipush 6, 2) := by decide +kernel
theorem d_M_empties_63 : decode prog_14_method_73_code 63 = .ok (.if_icmp .ge 25, 3) := by decide +kernel
theorem d_M_empties_66 : decode prog_14_method_73_code 66 = .ok (.aload_n 0, 1) := by decide +kernel
theorem d_M_empties_67 : decode prog_14_method_73_code 67 = .ok (.getfield 35, 3) := by decide +kernel
theorem d_M_empties_70 : decode prog_14_method_73_code 70 = .ok (.sipush 576, 3) := by decide +kernel
theorem d_M_empties_73 : decode prog_14_method_73_code 73 = .ok (.iload_n 1, 1) := by decide +kernel
theorem d_M_empties_74 : decode prog_14_method_73_code 74 = .ok (.imul, 1) := by decide +kernel
theorem d_M_empties_75 : decode prog_14_method_73_code 75 = .ok (.bipush 100, 2) := by decide +kernel
theorem d_M_empties_77 : decode prog_14_method_73_code 77 = .ok (.iadd, 1) := by decide +kernel
theorem d_M_empties_78 : decode prog_14_method_73_code 78 = .ok (.iload_n 2, 1) := by decide +kernel
theorem d_M_empties_79 : decode prog_14_method_73_code 79 = .ok (.iadd, 1) := by decide +kernel
theorem d_M_empties_80 : decode prog_14_method_73_code 80 = .ok (.iconst (-1), 1) := by decide +kernel
theorem d_M_empties_81 : decode prog_14_method_73_code 81 = .ok (.iastore, 1) := by decide +kernel
theorem d_M_empties_82 : decode prog_14_method_73_code 82 = .ok (.iinc 2 1, 3) := by decide +kernel
theorem d_M_empties_85 : decode prog_14_method_73_code 85 = .ok (.goto (-25), 3) := by decide +kernel
theorem d_M_empties_88 : decode prog_14_method_73_code 88 = .ok (.return_, 1) := by decide +kernel
def M_empties_L60 (Y : Ly) (l0 : Nat) (l1 : Int32) : Nat → Int32 → Hp → Option Hp
  | 0, _, _ => none
  | F + 1, l2, h =>
    if 6 ≤ l2 then
      some h
    else
      if inB (((576 * l1) + 100) + l2) (lnY Y (hGr h 1220 l0)) = true then
        letH (hTi h (hGr h 1220 l0) (Int32.toNatClampNeg (((576 * l1) + 100) + l2)) (-1)) fun h6 =>
        M_empties_L60 Y l0 l1 F (l2 + 1) h6
      else none
theorem M_empties_L60_ok (Y : Ly) (l0 : Nat) (l1 : Int32) (tl0 : isO Y 12 l0) : ∀ (F : Nat) (l2 : Int32) (h : Hp), AW Y 0 K_M_empties 60 [(0, .ref l0), (1, .int l1), (2, .int l2)] [] h (M_empties_L60 Y l0 l1 F l2 h) rV := by
  intro F
  induction F with
  | zero =>
    intro l2 h
    exact aw_none
  | succ F ih =>
    intro l2 h
    unfold M_empties_L60
    refine aw_iload_n (pc := 60) d_M_empties_60 rfl 2 rfl ?_
    refine aw_bipush (pc := 61) (x := 6) d_M_empties_61 (by decide) ?_
    refine aw_icmp_ge (pc := 63) (tgt := 88) d_M_empties_63 (by decide) (fun c3 => ?_) (fun c3 => ?_)
    · exact aw_return (pc := 88) d_M_empties_88 rfl rfl
    · refine aw_aload_n (pc := 66) d_M_empties_66 rfl 0 rfl ?_
      refine gt_1220 (pc := 67) d_M_empties_67 w7_47 tl0 (fun tt4 => ?_)
      refine aw_sipush (pc := 70) (x := 576) d_M_empties_70 (by decide) ?_
      refine aw_iload_n (pc := 73) d_M_empties_73 rfl 1 rfl ?_
      refine aw_imul (pc := 74) d_M_empties_74 ?_
      refine aw_bipush (pc := 75) (x := 100) d_M_empties_75 (by decide) ?_
      refine aw_iadd (pc := 77) d_M_empties_77 ?_
      refine aw_iload_n (pc := 78) d_M_empties_78 rfl 2 rfl ?_
      refine aw_iadd (pc := 79) d_M_empties_79 ?_
      refine aw_iconst (pc := 80) (x := (-1)) d_M_empties_80 (by decide) ?_
      refine aw_iastore (pc := 81) d_M_empties_81 tt4 (fun c5 => ?_)
      refine aw_letH (fun h6 => ?_)
      refine aw_iinc (pc := 82) (w := l2 + 1) (lv' := [(2, .int (l2 + 1)), (0, .ref l0), (1, .int l1)]) d_M_empties_82 2 rfl rfl (by decide) rfl ?_
      refine aw_goto (pc := 85) (tgt := 60) d_M_empties_85 (by decide) ?_
      exact aw_lv [1, 2, 0] rfl (ih (l2 + 1) h6)
def M_empties_L30 (Y : Ly) (l0 : Nat) (l1 : Int32) : Nat → Int32 → Hp → Option Hp
  | 0, _, _ => none
  | F + 1, l2, h =>
    if 64 ≤ l2 then
      M_empties_L60 Y l0 l1 FU 0 h
    else
      if inB (((576 * l1) + 18) + l2) (lnY Y (hGr h 1220 l0)) = true then
        letH (hTi h (hGr h 1220 l0) (Int32.toNatClampNeg (((576 * l1) + 18) + l2)) (-1)) fun h9 =>
        M_empties_L30 Y l0 l1 F (l2 + 1) h9
      else none
theorem M_empties_L30_ok (Y : Ly) (l0 : Nat) (l1 : Int32) (tl0 : isO Y 12 l0) : ∀ (F : Nat) (l2 : Int32) (h : Hp), AW Y 0 K_M_empties 30 [(0, .ref l0), (1, .int l1), (2, .int l2)] [] h (M_empties_L30 Y l0 l1 F l2 h) rV := by
  intro F
  induction F with
  | zero =>
    intro l2 h
    exact aw_none
  | succ F ih =>
    intro l2 h
    unfold M_empties_L30
    refine aw_iload_n (pc := 30) d_M_empties_30 rfl 2 rfl ?_
    refine aw_bipush (pc := 31) (x := 64) d_M_empties_31 (by decide) ?_
    refine aw_icmp_ge (pc := 33) (tgt := 58) d_M_empties_33 (by decide) (fun c2 => ?_) (fun c2 => ?_)
    · refine aw_iconst (pc := 58) (x := 0) d_M_empties_58 (by decide) ?_
      refine aw_istore_n (pc := 59) (lv' := [(2, .int 0), (0, .ref l0), (1, .int l1)]) d_M_empties_59 rfl (by decide) rfl ?_
      exact aw_lv [1, 2, 0] rfl (M_empties_L60_ok Y l0 l1 tl0 FU 0 h)
    · refine aw_aload_n (pc := 36) d_M_empties_36 rfl 0 rfl ?_
      refine gt_1220 (pc := 37) d_M_empties_37 w7_47 tl0 (fun tt7 => ?_)
      refine aw_sipush (pc := 40) (x := 576) d_M_empties_40 (by decide) ?_
      refine aw_iload_n (pc := 43) d_M_empties_43 rfl 1 rfl ?_
      refine aw_imul (pc := 44) d_M_empties_44 ?_
      refine aw_bipush (pc := 45) (x := 18) d_M_empties_45 (by decide) ?_
      refine aw_iadd (pc := 47) d_M_empties_47 ?_
      refine aw_iload_n (pc := 48) d_M_empties_48 rfl 2 rfl ?_
      refine aw_iadd (pc := 49) d_M_empties_49 ?_
      refine aw_iconst (pc := 50) (x := (-1)) d_M_empties_50 (by decide) ?_
      refine aw_iastore (pc := 51) d_M_empties_51 tt7 (fun c8 => ?_)
      refine aw_letH (fun h9 => ?_)
      refine aw_iinc (pc := 52) (w := l2 + 1) (lv' := [(2, .int (l2 + 1)), (0, .ref l0), (1, .int l1)]) d_M_empties_52 2 rfl rfl (by decide) rfl ?_
      refine aw_goto (pc := 55) (tgt := 30) d_M_empties_55 (by decide) ?_
      exact aw_lv [1, 2, 0] rfl (ih (l2 + 1) h9)
def M_empties_L2 (Y : Ly) (l0 : Nat) (l1 : Int32) : Nat → Int32 → Hp → Option Hp
  | 0, _, _ => none
  | F + 1, l2, h =>
    if 576 ≤ l2 then
      M_empties_L30 Y l0 l1 FU 0 h
    else
      if inB ((576 * l1) + l2) (lnY Y (hGr h 1220 l0)) = true then
        letH (hTi h (hGr h 1220 l0) (Int32.toNatClampNeg ((576 * l1) + l2)) 0) fun h12 =>
        M_empties_L2 Y l0 l1 F (l2 + 1) h12
      else none
theorem M_empties_L2_ok (Y : Ly) (l0 : Nat) (l1 : Int32) (tl0 : isO Y 12 l0) : ∀ (F : Nat) (l2 : Int32) (h : Hp), AW Y 0 K_M_empties 2 [(0, .ref l0), (1, .int l1), (2, .int l2)] [] h (M_empties_L2 Y l0 l1 F l2 h) rV := by
  intro F
  induction F with
  | zero =>
    intro l2 h
    exact aw_none
  | succ F ih =>
    intro l2 h
    unfold M_empties_L2
    refine aw_iload_n (pc := 2) d_M_empties_2 rfl 2 rfl ?_
    refine aw_sipush (pc := 3) (x := 576) d_M_empties_3 (by decide) ?_
    refine aw_icmp_ge (pc := 6) (tgt := 28) d_M_empties_6 (by decide) (fun c1 => ?_) (fun c1 => ?_)
    · refine aw_iconst (pc := 28) (x := 0) d_M_empties_28 (by decide) ?_
      refine aw_istore_n (pc := 29) (lv' := [(2, .int 0), (0, .ref l0), (1, .int l1)]) d_M_empties_29 rfl (by decide) rfl ?_
      exact aw_lv [1, 2, 0] rfl (M_empties_L30_ok Y l0 l1 tl0 FU 0 h)
    · refine aw_aload_n (pc := 9) d_M_empties_9 rfl 0 rfl ?_
      refine gt_1220 (pc := 10) d_M_empties_10 w7_47 tl0 (fun tt10 => ?_)
      refine aw_sipush (pc := 13) (x := 576) d_M_empties_13 (by decide) ?_
      refine aw_iload_n (pc := 16) d_M_empties_16 rfl 1 rfl ?_
      refine aw_imul (pc := 17) d_M_empties_17 ?_
      refine aw_iload_n (pc := 18) d_M_empties_18 rfl 2 rfl ?_
      refine aw_iadd (pc := 19) d_M_empties_19 ?_
      refine aw_iconst (pc := 20) (x := 0) d_M_empties_20 (by decide) ?_
      refine aw_iastore (pc := 21) d_M_empties_21 tt10 (fun c11 => ?_)
      refine aw_letH (fun h12 => ?_)
      refine aw_iinc (pc := 22) (w := l2 + 1) (lv' := [(2, .int (l2 + 1)), (0, .ref l0), (1, .int l1)]) d_M_empties_22 2 rfl rfl (by decide) rfl ?_
      refine aw_goto (pc := 25) (tgt := 2) d_M_empties_25 (by decide) ?_
      exact aw_lv [1, 2, 0] rfl (ih (l2 + 1) h12)
def M_empties (Y : Ly) (l0 : Nat) (l1 : Int32) (h : Hp) : Option Hp :=
  M_empties_L2 Y l0 l1 FU 0 h
theorem ok_M_empties (Y : Ly) (l0 : Nat) (l1 : Int32) (h : Hp) (t0 : isO Y 12 l0) : AM Y 0 K_M_empties [.ref l0, .int l1] h (M_empties Y l0 l1 h) rV := by
  refine AM.of rfl (Nat.le_of_ble_eq_true rfl) ?_
  show AW Y 0 K_M_empties 0 [(0, .ref l0), (1, .int l1)] [] h (M_empties Y l0 l1 h) rV
  unfold M_empties
  refine aw_iconst (pc := 0) (x := 0) d_M_empties_0 (by decide) ?_
  refine aw_istore_n (pc := 1) (lv' := [(2, .int 0), (0, .ref l0), (1, .int l1)]) d_M_empties_1 rfl (by decide) rfl ?_
  exact aw_lv [1, 2, 0] rfl (M_empties_L2_ok Y l0 l1 t0 FU 0 h)
/-! LastPagesModel.endings(I)J -/
theorem d_M_endings_0 : decode prog_14_method_122_code 0 = .ok (.aload_n 0, 1) := by decide +kernel
theorem d_M_endings_1 : decode prog_14_method_122_code 1 = .ok (.iconst 0, 1) := by decide +kernel
theorem d_M_endings_2 : decode prog_14_method_122_code 2 = .ok (.putfield 78, 3) := by decide +kernel
theorem d_M_endings_5 : decode prog_14_method_122_code 5 = .ok (.aload_n 0, 1) := by decide +kernel
theorem d_M_endings_6 : decode prog_14_method_122_code 6 = .ok (.iconst 0, 1) := by decide +kernel
theorem d_M_endings_7 : decode prog_14_method_122_code 7 = .ok (.putfield 81, 3) := by decide +kernel
theorem d_M_endings_10 : decode prog_14_method_122_code 10 = .ok (.aload_n 0, 1) := by decide +kernel
theorem d_M_endings_11 : decode prog_14_method_122_code 11 = .ok (.iload_n 1, 1) := by decide +kernel
theorem d_M_endings_12 : decode prog_14_method_122_code 12 = .ok (.invokevirtual 382, 3) := by decide +kernel
theorem d_M_endings_15 : decode prog_14_method_122_code 15 = .ok (.ifCond .eq 11, 3) := by decide +kernel
theorem d_M_endings_18 : decode prog_14_method_122_code 18 = .ok (.aload_n 0, 1) := by decide +kernel
theorem d_M_endings_19 : decode prog_14_method_122_code 19 = .ok (.iload_n 1, 1) := by decide +kernel
theorem d_M_endings_20 : decode prog_14_method_122_code 20 = .ok (.invokevirtual 422, 3) := by decide +kernel
theorem d_M_endings_23 : decode prog_14_method_122_code 23 = .ok (.goto 9, 3) := by decide +kernel
theorem d_M_endings_26 : decode prog_14_method_122_code 26 = .ok (.aload_n 0, 1) := by decide +kernel
theorem d_M_endings_27 : decode prog_14_method_122_code 27 = .ok (.iconst 2, 1) := by decide +kernel
theorem d_M_endings_28 : decode prog_14_method_122_code 28 = .ok (.invokevirtual 367, 3) := by decide +kernel
theorem d_M_endings_31 : decode prog_14_method_122_code 31 = .ok (.i2l, 1) := by decide +kernel
theorem d_M_endings_32 : decode prog_14_method_122_code 32 = .ok (.lreturn, 1) := by decide +kernel
def M_endings (Y : Ly) (l0 : Nat) (l1 : Int32) (h : Hp) : Option (Int64 × Hp) :=
  letH (hSi h 1201 l0 0) fun h1 =>
  letH (hSi h1 1200 l0 0) fun h2 =>
  (M_isBookAt Y l0 l1 h2).bind fun q3 =>
  if q3 = true then
    (M_endingsOf Y l0 l1 h2).bind fun q5 =>
    some (q5.1, q5.2)
  else
    (M_refuse Y l0 2 h2).bind fun q6 =>
    some (Int32.toInt64 q6.1, q6.2)
theorem ok_M_endings (Y : Ly) (l0 : Nat) (l1 : Int32) (h : Hp) (t0 : isO Y 12 l0) : AM Y 4 K_M_endings [.ref l0, .int l1] h (M_endings Y l0 l1 h) rL := by
  refine AM.of rfl (Nat.le_of_ble_eq_true rfl) ?_
  show AW Y 4 K_M_endings 0 [(0, .ref l0), (1, .int l1)] [] h (M_endings Y l0 l1 h) rL
  unfold M_endings
  refine aw_aload_n (pc := 0) d_M_endings_0 rfl 0 rfl ?_
  refine aw_iconst (pc := 1) (x := 0) d_M_endings_1 (by decide) ?_
  refine pt_1201 (pc := 2) d_M_endings_2 w7_28 t0 ?_
  refine aw_letH (fun h1 => ?_)
  refine aw_aload_n (pc := 5) d_M_endings_5 rfl 0 rfl ?_
  refine aw_iconst (pc := 6) (x := 0) d_M_endings_6 (by decide) ?_
  refine pt_1200 (pc := 7) d_M_endings_7 w7_27 t0 ?_
  refine aw_letH (fun h2 => ?_)
  refine aw_aload_n (pc := 10) d_M_endings_10 rfl 0 rfl ?_
  refine aw_iload_n (pc := 11) d_M_endings_11 rfl 1 rfl ?_
  refine aw_cVpZ (pc := 12) (ci := 12) (T := TX12) (N := 44) (As := [.int l1]) (st := []) (ok_M_isBookAt Y l0 l1 h2 t0) okV_M_isBookAt rfl (by decide) t0 w9_40 d_M_endings_12 rfl (Nat.le_of_ble_eq_true rfl) rfl (Nat.le_of_ble_eq_true rfl) (fun q3 hq3 hTq3 => ?_)
  refine aw_beq (pc := 15) (tgt := 26) d_M_endings_15 (by decide) (fun c4 => ?_) (fun c4 => ?_)
  · refine aw_aload_n (pc := 18) d_M_endings_18 rfl 0 rfl ?_
    refine aw_iload_n (pc := 19) d_M_endings_19 rfl 1 rfl ?_
    refine aw_cVrL (pc := 20) (ci := 12) (T := TX12) (N := 44) (As := [.int l1]) (st := []) (ok_M_endingsOf Y l0 l1 h2 t0) okV_M_endingsOf rfl (by decide) t0 w9_138 d_M_endings_20 rfl (Nat.le_of_ble_eq_true rfl) rfl (Nat.le_of_ble_eq_true rfl) (fun q5 hq5 hTq5 => ?_)
    refine aw_goto (pc := 23) (tgt := 32) d_M_endings_23 (by decide) ?_
    exact aw_lreturn (pc := 32) d_M_endings_32 rfl rfl
  · refine aw_aload_n (pc := 26) d_M_endings_26 rfl 0 rfl ?_
    refine aw_iconst (pc := 27) (x := 2) d_M_endings_27 (by decide) ?_
    refine aw_cVrI (pc := 28) (ci := 12) (T := TX12) (N := 44) (As := [.int 2]) (st := []) (ok_M_refuse Y l0 2 h2 t0) okV_M_refuse rfl (by decide) t0 w9_8 d_M_endings_28 rfl (Nat.le_of_ble_eq_true rfl) rfl (Nat.le_of_ble_eq_true rfl) (fun q6 hq6 hTq6 => ?_)
    refine aw_i2l (pc := 31) d_M_endings_31 ?_
    exact aw_lreturn (pc := 32) d_M_endings_32 rfl rfl
/-! LastPagesModel.fault(I)I -/
theorem d_M_fault_0 : decode prog_14_method_64_code 0 = .ok (.aload_n 0, 1) := by decide +kernel
theorem d_M_fault_1 : decode prog_14_method_64_code 1 = .ok (.iconst 0, 1) := by decide +kernel
theorem d_M_fault_2 : decode prog_14_method_64_code 2 = .ok (.putfield 78, 3) := by decide +kernel
theorem d_M_fault_5 : decode prog_14_method_64_code 5 = .ok (.iload_n 1, 1) := by decide +kernel
theorem d_M_fault_6 : decode prog_14_method_64_code 6 = .ok (.ifCond .ne 10, 3) := by decide +kernel
theorem d_M_fault_9 : decode prog_14_method_64_code 9 = .ok (.aload_n 0, 1) := by decide +kernel
theorem d_M_fault_10 : decode prog_14_method_64_code 10 = .ok (.getfield 28, 3) := by decide +kernel
theorem d_M_fault_13 : decode prog_14_method_64_code 13 = .ok (.goto 16, 3) := by decide +kernel
theorem d_M_fault_16 : decode prog_14_method_64_code 16 = .ok (.iload_n 1, 1) := by decide +kernel
theorem d_M_fault_17 : decode prog_14_method_64_code 17 = .ok (.iconst 1, 1) := by decide +kernel
theorem d_M_fault_18 : decode prog_14_method_64_code 18 = .ok (.if_icmp .ne 10, 3) := by decide +kernel
theorem d_M_fault_21 : decode prog_14_method_64_code 21 = .ok (.aload_n 0, 1) := by decide +kernel
theorem d_M_fault_22 : decode prog_14_method_64_code 22 = .ok (.getfield 32, 3) := by decide +kernel
theorem d_M_fault_25 : decode prog_14_method_64_code 25 = .ok (.goto 4, 3) := by decide +kernel
theorem d_M_fault_28 : decode prog_14_method_64_code 28 = .ok (.iconst (-1), 1) := by decide +kernel
theorem d_M_fault_29 : decode prog_14_method_64_code 29 = .ok (.ireturn, 1) := by decide +kernel
def M_fault (Y : Ly) (l0 : Nat) (l1 : Int32) (h : Hp) : Option (Int32 × Hp) :=
  letH (hSi h 1201 l0 0) fun h1 =>
  if l1 = 0 then
    some (hGi h1 1210 l0, h1)
  else
    if l1 = 1 then
      some (hGi h1 1211 l0, h1)
    else
      some ((-1), h1)
theorem ok_M_fault (Y : Ly) (l0 : Nat) (l1 : Int32) (h : Hp) (t0 : isO Y 12 l0) : AM Y 0 K_M_fault [.ref l0, .int l1] h (M_fault Y l0 l1 h) rI := by
  refine AM.of rfl (Nat.le_of_ble_eq_true rfl) ?_
  show AW Y 0 K_M_fault 0 [(0, .ref l0), (1, .int l1)] [] h (M_fault Y l0 l1 h) rI
  unfold M_fault
  refine aw_aload_n (pc := 0) d_M_fault_0 rfl 0 rfl ?_
  refine aw_iconst (pc := 1) (x := 0) d_M_fault_1 (by decide) ?_
  refine pt_1201 (pc := 2) d_M_fault_2 w7_28 t0 ?_
  refine aw_letH (fun h1 => ?_)
  refine aw_iload_n (pc := 5) d_M_fault_5 rfl 1 rfl ?_
  refine aw_if_ne (pc := 6) (tgt := 16) d_M_fault_6 (by decide) (fun c2 => ?_) (fun c2 => ?_)
  · refine aw_aload_n (pc := 9) d_M_fault_9 rfl 0 rfl ?_
    refine gt_1210 (pc := 10) d_M_fault_10 w7_37 t0 ?_
    refine aw_goto (pc := 13) (tgt := 29) d_M_fault_13 (by decide) ?_
    exact aw_ireturn (pc := 29) d_M_fault_29 rfl rfl
  · refine aw_iload_n (pc := 16) d_M_fault_16 rfl 1 rfl ?_
    refine aw_iconst (pc := 17) (x := 1) d_M_fault_17 (by decide) ?_
    refine aw_icmp_ne (pc := 18) (tgt := 28) d_M_fault_18 (by decide) (fun c3 => ?_) (fun c3 => ?_)
    · refine aw_aload_n (pc := 21) d_M_fault_21 rfl 0 rfl ?_
      refine gt_1211 (pc := 22) d_M_fault_22 w7_38 t0 ?_
      refine aw_goto (pc := 25) (tgt := 29) d_M_fault_25 (by decide) ?_
      exact aw_ireturn (pc := 29) d_M_fault_29 rfl rfl
    · refine aw_iconst (pc := 28) (x := (-1)) d_M_fault_28 (by decide) ?_
      exact aw_ireturn (pc := 29) d_M_fault_29 rfl rfl
/-! LastPagesModel.lay(I)V -/
theorem d_M_lay_0 : decode prog_14_method_61_code 0 = .ok (.iconst 3, 1) := by decide +kernel
theorem d_M_lay_1 : decode prog_14_method_61_code 1 = .ok (.istore_n 2, 1) := by decide +kernel
theorem d_M_lay_2 : decode prog_14_method_61_code 2 = .ok (.iload_n 2, 1) := by decide +kernel
theorem d_M_lay_3 : decode prog_14_method_61_code 3 = .ok (.ifCond .lt 35, 3) := by decide +kernel
theorem d_M_lay_6 : decode prog_14_method_61_code 6 = .ok (.aload_n 0, 1) := by decide +kernel
theorem d_M_lay_7 : decode prog_14_method_61_code 7 = .ok (.getfield 24, 3) := by decide +kernel
theorem d_M_lay_10 : decode prog_14_method_61_code 10 = .ok (.aload_n 0, 1) := by decide +kernel
theorem d_M_lay_11 : decode prog_14_method_61_code 11 = .ok (.getfield 268, 3) := by decide +kernel
theorem d_M_lay_14 : decode prog_14_method_61_code 14 = .ok (.iload_n 1, 1) := by decide +kernel
theorem d_M_lay_15 : decode prog_14_method_61_code 15 = .ok (.bipush 8, 2) := by decide +kernel
theorem d_M_lay_17 : decode prog_14_method_61_code 17 = .ok (.iload_n 2, 1) := by decide +kernel
theorem d_M_lay_18 : decode prog_14_method_61_code 18 = .ok (.imul, 1) := by decide +kernel
theorem d_M_lay_19 : decode prog_14_method_61_code 19 = .ok (.ishr, 1) := by decide +kernel
theorem d_M_lay_20 : decode prog_14_method_61_code 20 = .ok (.i2b, 1) := by decide +kernel
theorem d_M_lay_21 : decode prog_14_method_61_code 21 = .ok (.bastore, 1) := by decide +kernel
theorem d_M_lay_22 : decode prog_14_method_61_code 22 = .ok (.aload_n 0, 1) := by decide +kernel
theorem d_M_lay_23 : decode prog_14_method_61_code 23 = .ok (.dup, 1) := by decide +kernel
theorem d_M_lay_24 : decode prog_14_method_61_code 24 = .ok (.getfield 268, 3) := by decide +kernel
theorem d_M_lay_27 : decode prog_14_method_61_code 27 = .ok (.iconst 1, 1) := by decide +kernel
theorem d_M_lay_28 : decode prog_14_method_61_code 28 = .ok (.iadd, 1) := by decide +kernel
theorem d_M_lay_29 : decode prog_14_method_61_code 29 = .ok (.putfield 268, 3) := by decide +kernel
theorem d_M_lay_32 : decode prog_14_method_61_code 32 = .ok (.iinc 2 (-1), 3) := by decide +kernel
theorem d_M_lay_35 : decode prog_14_method_61_code 35 = .ok (.goto (-33), 3) := by decide +kernel
theorem d_M_lay_38 : decode prog_14_method_61_code 38 = .ok (.return_, 1) := by decide +kernel
def M_lay_L2 (Y : Ly) (l0 : Nat) (l1 : Int32) : Nat → Int32 → Hp → Option Hp
  | 0, _, _ => none
  | F + 1, l2, h =>
    if l2 < 0 then
      some h
    else
      if inB (hGi h 1208 l0) (lnY Y (hGr h 1207 l0)) = true then
        letH (hTi h (hGr h 1207 l0) (Int32.toNatClampNeg (hGi h 1208 l0)) (vp_nar .byte (Int8.toInt32 (Int32.toInt8 (l1 >>> ((8 * l2) &&& 31)))))) fun h4 =>
        letH (hSi h4 1208 l0 ((hGi h4 1208 l0) + 1)) fun h5 =>
        M_lay_L2 Y l0 l1 F (l2 + (-1)) h5
      else none
theorem M_lay_L2_ok (Y : Ly) (l0 : Nat) (l1 : Int32) (tl0 : isO Y 12 l0) : ∀ (F : Nat) (l2 : Int32) (h : Hp), AW Y 0 K_M_lay 2 [(0, .ref l0), (1, .int l1), (2, .int l2)] [] h (M_lay_L2 Y l0 l1 F l2 h) rV := by
  intro F
  induction F with
  | zero =>
    intro l2 h
    exact aw_none
  | succ F ih =>
    intro l2 h
    unfold M_lay_L2
    refine aw_iload_n (pc := 2) d_M_lay_2 rfl 2 rfl ?_
    refine aw_if_lt (pc := 3) (tgt := 38) d_M_lay_3 (by decide) (fun c1 => ?_) (fun c1 => ?_)
    · exact aw_return (pc := 38) d_M_lay_38 rfl rfl
    · refine aw_aload_n (pc := 6) d_M_lay_6 rfl 0 rfl ?_
      refine gt_1207 (pc := 7) d_M_lay_7 w7_34 tl0 (fun tt2 => ?_)
      refine aw_aload_n (pc := 10) d_M_lay_10 rfl 0 rfl ?_
      refine gt_1208 (pc := 11) d_M_lay_11 w7_35 tl0 ?_
      refine aw_iload_n (pc := 14) d_M_lay_14 rfl 1 rfl ?_
      refine aw_bipush (pc := 15) (x := 8) d_M_lay_15 (by decide) ?_
      refine aw_iload_n (pc := 17) d_M_lay_17 rfl 2 rfl ?_
      refine aw_imul (pc := 18) d_M_lay_18 ?_
      refine aw_ishr (pc := 19) d_M_lay_19 ?_
      refine aw_i2b (pc := 20) d_M_lay_20 ?_
      refine aw_bastore (pc := 21) d_M_lay_21 tt2 (fun c3 => ?_)
      refine aw_letH (fun h4 => ?_)
      refine aw_aload_n (pc := 22) d_M_lay_22 rfl 0 rfl ?_
      refine aw_dup (pc := 23) d_M_lay_23 rfl ?_
      refine gt_1208 (pc := 24) d_M_lay_24 w7_35 tl0 ?_
      refine aw_iconst (pc := 27) (x := 1) d_M_lay_27 (by decide) ?_
      refine aw_iadd (pc := 28) d_M_lay_28 ?_
      refine pt_1208 (pc := 29) d_M_lay_29 w7_35 tl0 ?_
      refine aw_letH (fun h5 => ?_)
      refine aw_iinc (pc := 32) (w := l2 + (-1)) (lv' := [(2, .int (l2 + (-1))), (0, .ref l0), (1, .int l1)]) d_M_lay_32 2 rfl rfl (by decide) rfl ?_
      refine aw_goto (pc := 35) (tgt := 2) d_M_lay_35 (by decide) ?_
      exact aw_lv [1, 2, 0] rfl (ih (l2 + (-1)) h5)
def M_lay (Y : Ly) (l0 : Nat) (l1 : Int32) (h : Hp) : Option Hp :=
  M_lay_L2 Y l0 l1 FU 3 h
theorem ok_M_lay (Y : Ly) (l0 : Nat) (l1 : Int32) (h : Hp) (t0 : isO Y 12 l0) : AM Y 0 K_M_lay [.ref l0, .int l1] h (M_lay Y l0 l1 h) rV := by
  refine AM.of rfl (Nat.le_of_ble_eq_true rfl) ?_
  show AW Y 0 K_M_lay 0 [(0, .ref l0), (1, .int l1)] [] h (M_lay Y l0 l1 h) rV
  unfold M_lay
  refine aw_iconst (pc := 0) (x := 3) d_M_lay_0 (by decide) ?_
  refine aw_istore_n (pc := 1) (lv' := [(2, .int 3), (0, .ref l0), (1, .int l1)]) d_M_lay_1 rfl (by decide) rfl ?_
  exact aw_lv [1, 2, 0] rfl (M_lay_L2_ok Y l0 l1 t0 FU 3 h)
/-! LastPagesModel.feed(IIIII)I -/
theorem d_M_feed_0 : decode prog_14_method_60_code 0 = .ok (.aload_n 0, 1) := by decide +kernel
theorem d_M_feed_1 : decode prog_14_method_60_code 1 = .ok (.iconst 0, 1) := by decide +kernel
theorem d_M_feed_2 : decode prog_14_method_60_code 2 = .ok (.putfield 78, 3) := by decide +kernel
theorem d_M_feed_5 : decode prog_14_method_60_code 5 = .ok (.aload_n 0, 1) := by decide +kernel
theorem d_M_feed_6 : decode prog_14_method_60_code 6 = .ok (.getfield 268, 3) := by decide +kernel
theorem d_M_feed_9 : decode prog_14_method_60_code 9 = .ok (.bipush 20, 2) := by decide +kernel
theorem d_M_feed_11 : decode prog_14_method_60_code 11 = .ok (.iadd, 1) := by decide +kernel
theorem d_M_feed_12 : decode prog_14_method_60_code 12 = .ok (.sipush 900, 3) := by decide +kernel
theorem d_M_feed_15 : decode prog_14_method_60_code 15 = .ok (.if_icmp .le 5, 3) := by decide +kernel
theorem d_M_feed_18 : decode prog_14_method_60_code 18 = .ok (.iconst (-1), 1) := by decide +kernel
theorem d_M_feed_19 : decode prog_14_method_60_code 19 = .ok (.ireturn, 1) := by decide +kernel
theorem d_M_feed_20 : decode prog_14_method_60_code 20 = .ok (.aload_n 0, 1) := by decide +kernel
theorem d_M_feed_21 : decode prog_14_method_60_code 21 = .ok (.iload_n 1, 1) := by decide +kernel
theorem d_M_feed_22 : decode prog_14_method_60_code 22 = .ok (.invokevirtual 271, 3) := by decide +kernel
theorem d_M_feed_25 : decode prog_14_method_60_code 25 = .ok (.aload_n 0, 1) := by decide +kernel
theorem d_M_feed_26 : decode prog_14_method_60_code 26 = .ok (.iload_n 2, 1) := by decide +kernel
theorem d_M_feed_27 : decode prog_14_method_60_code 27 = .ok (.invokevirtual 271, 3) := by decide +kernel
theorem d_M_feed_30 : decode prog_14_method_60_code 30 = .ok (.aload_n 0, 1) := by decide +kernel
theorem d_M_feed_31 : decode prog_14_method_60_code 31 = .ok (.iload_n 3, 1) := by decide +kernel
theorem d_M_feed_32 : decode prog_14_method_60_code 32 = .ok (.invokevirtual 271, 3) := by decide +kernel
theorem d_M_feed_35 : decode prog_14_method_60_code 35 = .ok (.aload_n 0, 1) := by decide +kernel
theorem d_M_feed_36 : decode prog_14_method_60_code 36 = .ok (.iload 4, 2) := by decide +kernel
theorem d_M_feed_38 : decode prog_14_method_60_code 38 = .ok (.invokevirtual 271, 3) := by decide +kernel
theorem d_M_feed_41 : decode prog_14_method_60_code 41 = .ok (.aload_n 0, 1) := by decide +kernel
theorem d_M_feed_42 : decode prog_14_method_60_code 42 = .ok (.iload 5, 2) := by decide +kernel
theorem d_M_feed_44 : decode prog_14_method_60_code 44 = .ok (.invokevirtual 271, 3) := by decide +kernel
theorem d_M_feed_47 : decode prog_14_method_60_code 47 = .ok (.aload_n 0, 1) := by decide +kernel
theorem d_M_feed_48 : decode prog_14_method_60_code 48 = .ok (.getfield 268, 3) := by decide +kernel
theorem d_M_feed_51 : decode prog_14_method_60_code 51 = .ok (.ireturn, 1) := by decide +kernel
def M_feed (Y : Ly) (l0 : Nat) (l1 : Int32) (l2 : Int32) (l3 : Int32) (l4 : Int32) (l5 : Int32) (h : Hp) : Option (Int32 × Hp) :=
  letH (hSi h 1201 l0 0) fun h1 =>
  if ((hGi h1 1208 l0) + 20) ≤ 900 then
    (M_lay Y l0 l1 h1).bind fun q3 =>
    (M_lay Y l0 l2 q3).bind fun q4 =>
    (M_lay Y l0 l3 q4).bind fun q5 =>
    (M_lay Y l0 l4 q5).bind fun q6 =>
    (M_lay Y l0 l5 q6).bind fun q7 =>
    some (hGi q7 1208 l0, q7)
  else
    some ((-1), h1)
theorem ok_M_feed (Y : Ly) (l0 : Nat) (l1 : Int32) (l2 : Int32) (l3 : Int32) (l4 : Int32) (l5 : Int32) (h : Hp) (t0 : isO Y 12 l0) : AM Y 1 K_M_feed [.ref l0, .int l1, .int l2, .int l3, .int l4, .int l5] h (M_feed Y l0 l1 l2 l3 l4 l5 h) rI := by
  refine AM.of rfl (Nat.le_of_ble_eq_true rfl) ?_
  show AW Y 1 K_M_feed 0 [(0, .ref l0), (1, .int l1), (2, .int l2), (3, .int l3), (4, .int l4), (5, .int l5)] [] h (M_feed Y l0 l1 l2 l3 l4 l5 h) rI
  unfold M_feed
  refine aw_aload_n (pc := 0) d_M_feed_0 rfl 0 rfl ?_
  refine aw_iconst (pc := 1) (x := 0) d_M_feed_1 (by decide) ?_
  refine pt_1201 (pc := 2) d_M_feed_2 w7_28 t0 ?_
  refine aw_letH (fun h1 => ?_)
  refine aw_aload_n (pc := 5) d_M_feed_5 rfl 0 rfl ?_
  refine gt_1208 (pc := 6) d_M_feed_6 w7_35 t0 ?_
  refine aw_bipush (pc := 9) (x := 20) d_M_feed_9 (by decide) ?_
  refine aw_iadd (pc := 11) d_M_feed_11 ?_
  refine aw_sipush (pc := 12) (x := 900) d_M_feed_12 (by decide) ?_
  refine aw_icmp_le (pc := 15) (tgt := 20) d_M_feed_15 (by decide) (fun c2 => ?_) (fun c2 => ?_)
  · refine aw_aload_n (pc := 20) d_M_feed_20 rfl 0 rfl ?_
    refine aw_iload_n (pc := 21) d_M_feed_21 rfl 1 rfl ?_
    refine aw_cVrV (pc := 22) (ci := 12) (T := TX12) (N := 44) (As := [.int l1]) (st := []) (ok_M_lay Y l0 l1 h1 t0) okV_M_lay rfl (by decide) t0 w7_208 d_M_feed_22 rfl (Nat.le_of_ble_eq_true rfl) rfl (Nat.le_of_ble_eq_true rfl) (fun q3 hq3 hTq3 => ?_)
    refine aw_aload_n (pc := 25) d_M_feed_25 rfl 0 rfl ?_
    refine aw_iload_n (pc := 26) d_M_feed_26 rfl 2 rfl ?_
    refine aw_cVrV (pc := 27) (ci := 12) (T := TX12) (N := 44) (As := [.int l2]) (st := []) (ok_M_lay Y l0 l2 q3 t0) okV_M_lay rfl (by decide) t0 w7_208 d_M_feed_27 rfl (Nat.le_of_ble_eq_true rfl) rfl (Nat.le_of_ble_eq_true rfl) (fun q4 hq4 hTq4 => ?_)
    refine aw_aload_n (pc := 30) d_M_feed_30 rfl 0 rfl ?_
    refine aw_iload_n (pc := 31) d_M_feed_31 rfl 3 rfl ?_
    refine aw_cVrV (pc := 32) (ci := 12) (T := TX12) (N := 44) (As := [.int l3]) (st := []) (ok_M_lay Y l0 l3 q4 t0) okV_M_lay rfl (by decide) t0 w7_208 d_M_feed_32 rfl (Nat.le_of_ble_eq_true rfl) rfl (Nat.le_of_ble_eq_true rfl) (fun q5 hq5 hTq5 => ?_)
    refine aw_aload_n (pc := 35) d_M_feed_35 rfl 0 rfl ?_
    refine aw_iload (pc := 36) d_M_feed_36 4 rfl ?_
    refine aw_cVrV (pc := 38) (ci := 12) (T := TX12) (N := 44) (As := [.int l4]) (st := []) (ok_M_lay Y l0 l4 q5 t0) okV_M_lay rfl (by decide) t0 w7_208 d_M_feed_38 rfl (Nat.le_of_ble_eq_true rfl) rfl (Nat.le_of_ble_eq_true rfl) (fun q6 hq6 hTq6 => ?_)
    refine aw_aload_n (pc := 41) d_M_feed_41 rfl 0 rfl ?_
    refine aw_iload (pc := 42) d_M_feed_42 5 rfl ?_
    refine aw_cVrV (pc := 44) (ci := 12) (T := TX12) (N := 44) (As := [.int l5]) (st := []) (ok_M_lay Y l0 l5 q6 t0) okV_M_lay rfl (by decide) t0 w7_208 d_M_feed_44 rfl (Nat.le_of_ble_eq_true rfl) rfl (Nat.le_of_ble_eq_true rfl) (fun q7 hq7 hTq7 => ?_)
    refine aw_aload_n (pc := 47) d_M_feed_47 rfl 0 rfl ?_
    refine gt_1208 (pc := 48) d_M_feed_48 w7_35 t0 ?_
    exact aw_ireturn (pc := 51) d_M_feed_51 rfl rfl
  · refine aw_iconst (pc := 18) (x := (-1)) d_M_feed_18 (by decide) ?_
    exact aw_ireturn (pc := 19) d_M_feed_19 rfl rfl
/-! LastPagesModel.finale(II)I -/
theorem d_M_finale_0 : decode prog_14_method_103_code 0 = .ok (.aload_n 0, 1) := by decide +kernel
theorem d_M_finale_1 : decode prog_14_method_103_code 1 = .ok (.iconst 0, 1) := by decide +kernel
theorem d_M_finale_2 : decode prog_14_method_103_code 2 = .ok (.putfield 78, 3) := by decide +kernel
theorem d_M_finale_5 : decode prog_14_method_103_code 5 = .ok (.aload_n 0, 1) := by decide +kernel
theorem d_M_finale_6 : decode prog_14_method_103_code 6 = .ok (.iconst 0, 1) := by decide +kernel
theorem d_M_finale_7 : decode prog_14_method_103_code 7 = .ok (.putfield 81, 3) := by decide +kernel
theorem d_M_finale_10 : decode prog_14_method_103_code 10 = .ok (.aload_n 0, 1) := by decide +kernel
theorem d_M_finale_11 : decode prog_14_method_103_code 11 = .ok (.iload_n 1, 1) := by decide +kernel
theorem d_M_finale_12 : decode prog_14_method_103_code 12 = .ok (.invokevirtual 393, 3) := by decide +kernel
theorem d_M_finale_15 : decode prog_14_method_103_code 15 = .ok (.ifCond .ne 9, 3) := by decide +kernel
theorem d_M_finale_18 : decode prog_14_method_103_code 18 = .ok (.aload_n 0, 1) := by decide +kernel
theorem d_M_finale_19 : decode prog_14_method_103_code 19 = .ok (.iconst 2, 1) := by decide +kernel
theorem d_M_finale_20 : decode prog_14_method_103_code 20 = .ok (.invokevirtual 367, 3) := by decide +kernel
theorem d_M_finale_23 : decode prog_14_method_103_code 23 = .ok (.ireturn, 1) := by decide +kernel
theorem d_M_finale_24 : decode prog_14_method_103_code 24 = .ok (.iload_n 2, 1) := by decide +kernel
theorem d_M_finale_25 : decode prog_14_method_103_code 25 = .ok (.i2l, 1) := by decide +kernel
theorem d_M_finale_26 : decode prog_14_method_103_code 26 = .ok (.lconst 1, 1) := by decide +kernel
theorem d_M_finale_27 : decode prog_14_method_103_code 27 = .ok (.aload_n 0, 1) := by decide +kernel
theorem d_M_finale_28 : decode prog_14_method_103_code 28 = .ok (.getfield 35, 3) := by decide +kernel
theorem d_M_finale_31 : decode prog_14_method_103_code 31 = .ok (.sipush 166, 3) := by decide +kernel
theorem d_M_finale_34 : decode prog_14_method_103_code 34 = .ok (.iload_n 1, 1) := by decide +kernel
theorem d_M_finale_35 : decode prog_14_method_103_code 35 = .ok (.iadd, 1) := by decide +kernel
theorem d_M_finale_36 : decode prog_14_method_103_code 36 = .ok (.iaload, 1) := by decide +kernel
theorem d_M_finale_37 : decode prog_14_method_103_code 37 = .ok (.i2l, 1) := by decide +kernel
theorem d_M_finale_38 : decode prog_14_method_103_code 38 = .ok (.invokestatic 113, 3) := by decide +kernel
theorem d_M_finale_41 : decode prog_14_method_103_code 41 = .ok (.ifCond .eq 23, 3) := by decide +kernel
theorem d_M_finale_44 : decode prog_14_method_103_code 44 = .ok (.aload_n 0, 1) := by decide +kernel
theorem d_M_finale_45 : decode prog_14_method_103_code 45 = .ok (.getfield 35, 3) := by decide +kernel
theorem d_M_finale_48 : decode prog_14_method_103_code 48 = .ok (.sipush 174, 3) := by decide +kernel
theorem d_M_finale_51 : decode prog_14_method_103_code 51 = .ok (.bipush 6, 2) := by decide +kernel
theorem d_M_finale_53 : decode prog_14_method_103_code 53 = .ok (.iload_n 1, 1) := by decide +kernel
theorem d_M_finale_54 : decode prog_14_method_103_code 54 = .ok (.imul, 1) := by decide +kernel
theorem d_M_finale_55 : decode prog_14_method_103_code 55 = .ok (.iadd, 1) := by decide +kernel
theorem d_M_finale_56 : decode prog_14_method_103_code 56 = .ok (.iload_n 2, 1) := by decide +kernel
theorem d_M_finale_57 : decode prog_14_method_103_code 57 = .ok (.iadd, 1) := by decide +kernel
theorem d_M_finale_58 : decode prog_14_method_103_code 58 = .ok (.iconst 1, 1) := by decide +kernel
theorem d_M_finale_59 : decode prog_14_method_103_code 59 = .ok (.isub, 1) := by decide +kernel
theorem d_M_finale_60 : decode prog_14_method_103_code 60 = .ok (.iaload, 1) := by decide +kernel
theorem d_M_finale_61 : decode prog_14_method_103_code 61 = .ok (.goto 9, 3) := by decide +kernel
theorem d_M_finale_64 : decode prog_14_method_103_code 64 = .ok (.aload_n 0, 1) := by decide +kernel
theorem d_M_finale_65 : decode prog_14_method_103_code 65 = .ok (.bipush 8, 2) := by decide +kernel
theorem d_M_finale_67 : decode prog_14_method_103_code 67 = .ok (.invokevirtual 367, 3) := by decide +kernel
theorem d_M_finale_70 : decode prog_14_method_103_code 70 = .ok (.ireturn, 1) := by decide +kernel
def M_finale (Y : Ly) (l0 : Nat) (l1 : Int32) (l2 : Int32) (h : Hp) : Option (Int32 × Hp) :=
  letH (hSi h 1201 l0 0) fun h1 =>
  letH (hSi h1 1200 l0 0) fun h2 =>
  (M_isFinaleAt Y l0 l1 h2).bind fun q3 =>
  if q3 = true then
    if inB (166 + l1) (lnY Y (hGr h2 1220 l0)) = true then
      (M_isIn Y (Int32.toInt64 l2) 1 (Int32.toInt64 (hAi h2 (hGr h2 1220 l0) (Int32.toNatClampNeg (166 + l1)))) h2).bind fun q7 =>
      if q7 = true then
        if inB (((174 + (6 * l1)) + l2) - 1) (lnY Y (hGr h2 1220 l0)) = true then
          some (hAi h2 (hGr h2 1220 l0) (Int32.toNatClampNeg (((174 + (6 * l1)) + l2) - 1)), h2)
        else none
      else
        (M_refuse Y l0 8 h2).bind fun q11 =>
        some (q11.1, q11.2)
    else none
  else
    (M_refuse Y l0 2 h2).bind fun q12 =>
    some (q12.1, q12.2)
theorem ok_M_finale (Y : Ly) (l0 : Nat) (l1 : Int32) (l2 : Int32) (h : Hp) (t0 : isO Y 12 l0) : AM Y 2 K_M_finale [.ref l0, .int l1, .int l2] h (M_finale Y l0 l1 l2 h) rI := by
  refine AM.of rfl (Nat.le_of_ble_eq_true rfl) ?_
  show AW Y 2 K_M_finale 0 [(0, .ref l0), (1, .int l1), (2, .int l2)] [] h (M_finale Y l0 l1 l2 h) rI
  unfold M_finale
  refine aw_aload_n (pc := 0) d_M_finale_0 rfl 0 rfl ?_
  refine aw_iconst (pc := 1) (x := 0) d_M_finale_1 (by decide) ?_
  refine pt_1201 (pc := 2) d_M_finale_2 w7_28 t0 ?_
  refine aw_letH (fun h1 => ?_)
  refine aw_aload_n (pc := 5) d_M_finale_5 rfl 0 rfl ?_
  refine aw_iconst (pc := 6) (x := 0) d_M_finale_6 (by decide) ?_
  refine pt_1200 (pc := 7) d_M_finale_7 w7_27 t0 ?_
  refine aw_letH (fun h2 => ?_)
  refine aw_aload_n (pc := 10) d_M_finale_10 rfl 0 rfl ?_
  refine aw_iload_n (pc := 11) d_M_finale_11 rfl 1 rfl ?_
  refine aw_cVpZ (pc := 12) (ci := 12) (T := TX12) (N := 44) (As := [.int l1]) (st := []) (ok_M_isFinaleAt Y l0 l1 h2 t0) okV_M_isFinaleAt rfl (by decide) t0 w9_61 d_M_finale_12 rfl (Nat.le_of_ble_eq_true rfl) rfl (Nat.le_of_ble_eq_true rfl) (fun q3 hq3 hTq3 => ?_)
  refine aw_bne (pc := 15) (tgt := 24) d_M_finale_15 (by decide) (fun c4 => ?_) (fun c4 => ?_)
  · refine aw_iload_n (pc := 24) d_M_finale_24 rfl 2 rfl ?_
    refine aw_i2l (pc := 25) d_M_finale_25 ?_
    refine aw_lconst (pc := 26) (x := 1) d_M_finale_26 (by decide) ?_
    refine aw_aload_n (pc := 27) d_M_finale_27 rfl 0 rfl ?_
    refine gt_1220 (pc := 28) d_M_finale_28 w7_47 t0 (fun tt5 => ?_)
    refine aw_sipush (pc := 31) (x := 166) d_M_finale_31 (by decide) ?_
    refine aw_iload_n (pc := 34) d_M_finale_34 rfl 1 rfl ?_
    refine aw_iadd (pc := 35) d_M_finale_35 ?_
    refine aw_iaload (pc := 36) d_M_finale_36 tt5 (fun c6 => ?_)
    refine aw_i2l (pc := 37) d_M_finale_37 ?_
    refine aw_cSpZ (pc := 38) (As := [.long (Int32.toInt64 l2), .long 1, .long (Int32.toInt64 (hAi h2 (hGr h2 1220 l0) (Int32.toNatClampNeg (166 + l1))))]) (st := []) (ok_M_isIn Y (Int32.toInt64 l2) 1 (Int32.toInt64 (hAi h2 (hGr h2 1220 l0) (Int32.toNatClampNeg (166 + l1)))) h2) okS_M_isIn w8_155 d_M_finale_38 rfl (Nat.le_of_ble_eq_true rfl) rfl (Nat.le_of_ble_eq_true rfl) (fun q7 hq7 hTq7 => ?_)
    refine aw_beq (pc := 41) (tgt := 64) d_M_finale_41 (by decide) (fun c8 => ?_) (fun c8 => ?_)
    · refine aw_aload_n (pc := 44) d_M_finale_44 rfl 0 rfl ?_
      refine gt_1220 (pc := 45) d_M_finale_45 w7_47 t0 (fun tt9 => ?_)
      refine aw_sipush (pc := 48) (x := 174) d_M_finale_48 (by decide) ?_
      refine aw_bipush (pc := 51) (x := 6) d_M_finale_51 (by decide) ?_
      refine aw_iload_n (pc := 53) d_M_finale_53 rfl 1 rfl ?_
      refine aw_imul (pc := 54) d_M_finale_54 ?_
      refine aw_iadd (pc := 55) d_M_finale_55 ?_
      refine aw_iload_n (pc := 56) d_M_finale_56 rfl 2 rfl ?_
      refine aw_iadd (pc := 57) d_M_finale_57 ?_
      refine aw_iconst (pc := 58) (x := 1) d_M_finale_58 (by decide) ?_
      refine aw_isub (pc := 59) d_M_finale_59 ?_
      refine aw_iaload (pc := 60) d_M_finale_60 tt9 (fun c10 => ?_)
      refine aw_goto (pc := 61) (tgt := 70) d_M_finale_61 (by decide) ?_
      exact aw_ireturn (pc := 70) d_M_finale_70 rfl rfl
    · refine aw_aload_n (pc := 64) d_M_finale_64 rfl 0 rfl ?_
      refine aw_bipush (pc := 65) (x := 8) d_M_finale_65 (by decide) ?_
      refine aw_cVrI (pc := 67) (ci := 12) (T := TX12) (N := 44) (As := [.int 8]) (st := []) (ok_M_refuse Y l0 8 h2 t0) okV_M_refuse rfl (by decide) t0 w9_8 d_M_finale_67 rfl (Nat.le_of_ble_eq_true rfl) rfl (Nat.le_of_ble_eq_true rfl) (fun q11 hq11 hTq11 => ?_)
      exact aw_ireturn (pc := 70) d_M_finale_70 rfl rfl
  · refine aw_aload_n (pc := 18) d_M_finale_18 rfl 0 rfl ?_
    refine aw_iconst (pc := 19) (x := 2) d_M_finale_19 (by decide) ?_
    refine aw_cVrI (pc := 20) (ci := 12) (T := TX12) (N := 44) (As := [.int 2]) (st := []) (ok_M_refuse Y l0 2 h2 t0) okV_M_refuse rfl (by decide) t0 w9_8 d_M_finale_20 rfl (Nat.le_of_ble_eq_true rfl) rfl (Nat.le_of_ble_eq_true rfl) (fun q12 hq12 hTq12 => ?_)
    exact aw_ireturn (pc := 23) d_M_finale_23 rfl rfl
/-! LastPagesModel.finalesOf(I)I -/
theorem d_M_finalesOf_0 : decode prog_14_method_137_code 0 = .ok (.aload_n 0, 1) := by decide +kernel
theorem d_M_finalesOf_1 : decode prog_14_method_137_code 1 = .ok (.iconst 0, 1) := by decide +kernel
theorem d_M_finalesOf_2 : decode prog_14_method_137_code 2 = .ok (.putfield 78, 3) := by decide +kernel
theorem d_M_finalesOf_5 : decode prog_14_method_137_code 5 = .ok (.aload_n 0, 1) := by decide +kernel
theorem d_M_finalesOf_6 : decode prog_14_method_137_code 6 = .ok (.iconst 0, 1) := by decide +kernel
theorem d_M_finalesOf_7 : decode prog_14_method_137_code 7 = .ok (.putfield 81, 3) := by decide +kernel
theorem d_M_finalesOf_10 : decode prog_14_method_137_code 10 = .ok (.aload_n 0, 1) := by decide +kernel
theorem d_M_finalesOf_11 : decode prog_14_method_137_code 11 = .ok (.iload_n 1, 1) := by decide +kernel
theorem d_M_finalesOf_12 : decode prog_14_method_137_code 12 = .ok (.invokevirtual 382, 3) := by decide +kernel
theorem d_M_finalesOf_15 : decode prog_14_method_137_code 15 = .ok (.ifCond .eq 11, 3) := by decide +kernel
theorem d_M_finalesOf_18 : decode prog_14_method_137_code 18 = .ok (.aload_n 0, 1) := by decide +kernel
theorem d_M_finalesOf_19 : decode prog_14_method_137_code 19 = .ok (.iload_n 1, 1) := by decide +kernel
theorem d_M_finalesOf_20 : decode prog_14_method_137_code 20 = .ok (.invokevirtual 459, 3) := by decide +kernel
theorem d_M_finalesOf_23 : decode prog_14_method_137_code 23 = .ok (.goto 8, 3) := by decide +kernel
theorem d_M_finalesOf_26 : decode prog_14_method_137_code 26 = .ok (.aload_n 0, 1) := by decide +kernel
theorem d_M_finalesOf_27 : decode prog_14_method_137_code 27 = .ok (.iconst 2, 1) := by decide +kernel
theorem d_M_finalesOf_28 : decode prog_14_method_137_code 28 = .ok (.invokevirtual 367, 3) := by decide +kernel
theorem d_M_finalesOf_31 : decode prog_14_method_137_code 31 = .ok (.ireturn, 1) := by decide +kernel
def M_finalesOf (Y : Ly) (l0 : Nat) (l1 : Int32) (h : Hp) : Option (Int32 × Hp) :=
  letH (hSi h 1201 l0 0) fun h1 =>
  letH (hSi h1 1200 l0 0) fun h2 =>
  (M_isBookAt Y l0 l1 h2).bind fun q3 =>
  if q3 = true then
    (M_finalesFor Y l0 l1 h2).bind fun q5 =>
    some (q5, h2)
  else
    (M_refuse Y l0 2 h2).bind fun q6 =>
    some (q6.1, q6.2)
theorem ok_M_finalesOf (Y : Ly) (l0 : Nat) (l1 : Int32) (h : Hp) (t0 : isO Y 12 l0) : AM Y 5 K_M_finalesOf [.ref l0, .int l1] h (M_finalesOf Y l0 l1 h) rI := by
  refine AM.of rfl (Nat.le_of_ble_eq_true rfl) ?_
  show AW Y 5 K_M_finalesOf 0 [(0, .ref l0), (1, .int l1)] [] h (M_finalesOf Y l0 l1 h) rI
  unfold M_finalesOf
  refine aw_aload_n (pc := 0) d_M_finalesOf_0 rfl 0 rfl ?_
  refine aw_iconst (pc := 1) (x := 0) d_M_finalesOf_1 (by decide) ?_
  refine pt_1201 (pc := 2) d_M_finalesOf_2 w7_28 t0 ?_
  refine aw_letH (fun h1 => ?_)
  refine aw_aload_n (pc := 5) d_M_finalesOf_5 rfl 0 rfl ?_
  refine aw_iconst (pc := 6) (x := 0) d_M_finalesOf_6 (by decide) ?_
  refine pt_1200 (pc := 7) d_M_finalesOf_7 w7_27 t0 ?_
  refine aw_letH (fun h2 => ?_)
  refine aw_aload_n (pc := 10) d_M_finalesOf_10 rfl 0 rfl ?_
  refine aw_iload_n (pc := 11) d_M_finalesOf_11 rfl 1 rfl ?_
  refine aw_cVpZ (pc := 12) (ci := 12) (T := TX12) (N := 44) (As := [.int l1]) (st := []) (ok_M_isBookAt Y l0 l1 h2 t0) okV_M_isBookAt rfl (by decide) t0 w9_40 d_M_finalesOf_12 rfl (Nat.le_of_ble_eq_true rfl) rfl (Nat.le_of_ble_eq_true rfl) (fun q3 hq3 hTq3 => ?_)
  refine aw_beq (pc := 15) (tgt := 26) d_M_finalesOf_15 (by decide) (fun c4 => ?_) (fun c4 => ?_)
  · refine aw_aload_n (pc := 18) d_M_finalesOf_18 rfl 0 rfl ?_
    refine aw_iload_n (pc := 19) d_M_finalesOf_19 rfl 1 rfl ?_
    refine aw_cVpI (pc := 20) (ci := 12) (T := TX12) (N := 44) (As := [.int l1]) (st := []) (ok_M_finalesFor Y l0 l1 h2 t0) okV_M_finalesFor rfl (by decide) t0 w9_220 d_M_finalesOf_20 rfl (Nat.le_of_ble_eq_true rfl) rfl (Nat.le_of_ble_eq_true rfl) (fun q5 hq5 hTq5 => ?_)
    refine aw_goto (pc := 23) (tgt := 31) d_M_finalesOf_23 (by decide) ?_
    exact aw_ireturn (pc := 31) d_M_finalesOf_31 rfl rfl
  · refine aw_aload_n (pc := 26) d_M_finalesOf_26 rfl 0 rfl ?_
    refine aw_iconst (pc := 27) (x := 2) d_M_finalesOf_27 (by decide) ?_
    refine aw_cVrI (pc := 28) (ci := 12) (T := TX12) (N := 44) (As := [.int 2]) (st := []) (ok_M_refuse Y l0 2 h2 t0) okV_M_refuse rfl (by decide) t0 w9_8 d_M_finalesOf_28 rfl (Nat.le_of_ble_eq_true rfl) rfl (Nat.le_of_ble_eq_true rfl) (fun q6 hq6 hTq6 => ?_)
    exact aw_ireturn (pc := 31) d_M_finalesOf_31 rfl rfl
/-! LastPagesModel.finishing()I -/
theorem d_M_finishing_0 : decode prog_14_method_151_code 0 = .ok (.aload_n 0, 1) := by decide +kernel
theorem d_M_finishing_1 : decode prog_14_method_151_code 1 = .ok (.invokevirtual 468, 3) := by decide +kernel
theorem d_M_finishing_4 : decode prog_14_method_151_code 4 = .ok (.iconst (-1), 1) := by decide +kernel
theorem d_M_finishing_5 : decode prog_14_method_151_code 5 = .ok (.istore_n 1, 1) := by decide +kernel
theorem d_M_finishing_6 : decode prog_14_method_151_code 6 = .ok (.iconst 0, 1) := by decide +kernel
theorem d_M_finishing_7 : decode prog_14_method_151_code 7 = .ok (.istore_n 2, 1) := by decide +kernel
theorem d_M_finishing_8 : decode prog_14_method_151_code 8 = .ok (.iload_n 2, 1) := by decide +kernel
theorem d_M_finishing_9 : decode prog_14_method_151_code 9 = .ok (.iconst 1, 1) := by decide +kernel
theorem d_M_finishing_10 : decode prog_14_method_151_code 10 = .ok (.aload_n 0, 1) := by decide +kernel
theorem d_M_finishing_11 : decode prog_14_method_151_code 11 = .ok (.getfield 35, 3) := by decide +kernel
theorem d_M_finishing_14 : decode prog_14_method_151_code 14 = .ok (.iconst 3, 1) := by decide +kernel
theorem d_M_finishing_15 : decode prog_14_method_151_code 15 = .ok (.iaload, 1) := by decide +kernel
theorem d_M_finishing_16 : decode prog_14_method_151_code 16 = .ok (.ishl, 1) := by decide +kernel
theorem d_M_finishing_17 : decode prog_14_method_151_code 17 = .ok (.if_icmp .ge 77, 3) := by decide +kernel
theorem d_M_finishing_20 : decode prog_14_method_151_code 20 = .ok (.iload_n 1, 1) := by decide +kernel
theorem d_M_finishing_21 : decode prog_14_method_151_code 21 = .ok (.ifCond .lt 17, 3) := by decide +kernel
theorem d_M_finishing_24 : decode prog_14_method_151_code 24 = .ok (.iload_n 2, 1) := by decide +kernel
theorem d_M_finishing_25 : decode prog_14_method_151_code 25 = .ok (.invokestatic 480, 3) := by decide +kernel
theorem d_M_finishing_28 : decode prog_14_method_151_code 28 = .ok (.iload_n 1, 1) := by decide +kernel
theorem d_M_finishing_29 : decode prog_14_method_151_code 29 = .ok (.invokestatic 480, 3) := by decide +kernel
theorem d_M_finishing_32 : decode prog_14_method_151_code 32 = .ok (.if_icmp .lt 6, 3) := by decide +kernel
theorem d_M_finishing_35 : decode prog_14_method_151_code 35 = .ok (.goto 53, 3) := by decide +kernel
theorem d_M_finishing_38 : decode prog_14_method_151_code 38 = .ok (.iconst 1, 1) := by decide +kernel
theorem d_M_finishing_39 : decode prog_14_method_151_code 39 = .ok (.istore_n 3, 1) := by decide +kernel
theorem d_M_finishing_40 : decode prog_14_method_151_code 40 = .ok (.iconst 0, 1) := by decide +kernel
theorem d_M_finishing_41 : decode prog_14_method_151_code 41 = .ok (.istore 4, 2) := by decide +kernel
theorem d_M_finishing_43 : decode prog_14_method_151_code 43 = .ok (.iload 4, 2) := by decide +kernel
theorem d_M_finishing_45 : decode prog_14_method_151_code 45 = .ok (.aload_n 0, 1) := by decide +kernel
theorem d_M_finishing_46 : decode prog_14_method_151_code 46 = .ok (.getfield 35, 3) := by decide +kernel
theorem d_M_finishing_49 : decode prog_14_method_151_code 49 = .ok (.iconst 2, 1) := by decide +kernel
theorem d_M_finishing_50 : decode prog_14_method_151_code 50 = .ok (.iaload, 1) := by decide +kernel
theorem d_M_finishing_51 : decode prog_14_method_151_code 51 = .ok (.if_icmp .ge 31, 3) := by decide +kernel
theorem d_M_finishing_54 : decode prog_14_method_151_code 54 = .ok (.iload_n 3, 1) := by decide +kernel
theorem d_M_finishing_55 : decode prog_14_method_151_code 55 = .ok (.ifCond .eq 19, 3) := by decide +kernel
theorem d_M_finishing_58 : decode prog_14_method_151_code 58 = .ok (.aload_n 0, 1) := by decide +kernel
theorem d_M_finishing_59 : decode prog_14_method_151_code 59 = .ok (.getfield 65, 3) := by decide +kernel
theorem d_M_finishing_62 : decode prog_14_method_151_code 62 = .ok (.iload 4, 2) := by decide +kernel
theorem d_M_finishing_64 : decode prog_14_method_151_code 64 = .ok (.iaload, 1) := by decide +kernel
theorem d_M_finishing_65 : decode prog_14_method_151_code 65 = .ok (.iload_n 2, 1) := by decide +kernel
theorem d_M_finishing_66 : decode prog_14_method_151_code 66 = .ok (.iand, 1) := by decide +kernel
theorem d_M_finishing_67 : decode prog_14_method_151_code 67 = .ok (.ifCond .eq 7, 3) := by decide +kernel
theorem d_M_finishing_70 : decode prog_14_method_151_code 70 = .ok (.iconst 1, 1) := by decide +kernel
theorem d_M_finishing_71 : decode prog_14_method_151_code 71 = .ok (.goto 4, 3) := by decide +kernel
theorem d_M_finishing_74 : decode prog_14_method_151_code 74 = .ok (.iconst 0, 1) := by decide +kernel
theorem d_M_finishing_75 : decode prog_14_method_151_code 75 = .ok (.istore_n 3, 1) := by decide +kernel
theorem d_M_finishing_76 : decode prog_14_method_151_code 76 = .ok (.iinc 4 1, 3) := by decide +kernel
theorem d_M_finishing_79 : decode prog_14_method_151_code 79 = .ok (.goto (-36), 3) := by decide +kernel
theorem d_M_finishing_82 : decode prog_14_method_151_code 82 = .ok (.iload_n 3, 1) := by decide +kernel
theorem d_M_finishing_83 : decode prog_14_method_151_code 83 = .ok (.ifCond .eq 5, 3) := by decide +kernel
theorem d_M_finishing_86 : decode prog_14_method_151_code 86 = .ok (.iload_n 2, 1) := by decide +kernel
theorem d_M_finishing_87 : decode prog_14_method_151_code 87 = .ok (.istore_n 1, 1) := by decide +kernel
theorem d_M_finishing_88 : decode prog_14_method_151_code 88 = .ok (.iinc 2 1, 3) := by decide +kernel
theorem d_M_finishing_91 : decode prog_14_method_151_code 91 = .ok (.goto (-83), 3) := by decide +kernel
theorem d_M_finishing_94 : decode prog_14_method_151_code 94 = .ok (.iload_n 1, 1) := by decide +kernel
theorem d_M_finishing_95 : decode prog_14_method_151_code 95 = .ok (.ireturn, 1) := by decide +kernel
def M_finishing_L43 (Y : Ly) (l0 : Nat) (l1 : Int32) (l2 : Int32) (h : Hp) (k8 : Int32 → Int32 → Option (Int32 × Hp)) : Nat → Bool → Int32 → Option (Int32 × Hp)
  | 0, _, _ => none
  | F + 1, l3, l4 =>
    if inB 2 (lnY Y (hGr h 1220 l0)) = true then
      if (hAi h (hGr h 1220 l0) (Int32.toNatClampNeg 2)) ≤ l4 then
        if l3 = true then
          k8 l2 (l2 + 1)
        else
          k8 l1 (l2 + 1)
      else
        if l3 = true then
          if inB l4 (lnY Y (hGr h 1232 l0)) = true then
            if ((hAi h (hGr h 1232 l0) (Int32.toNatClampNeg l4)) &&& l2) = 0 then
              M_finishing_L43 Y l0 l1 l2 h k8 F false (l4 + 1)
            else
              M_finishing_L43 Y l0 l1 l2 h k8 F true (l4 + 1)
          else none
        else
          M_finishing_L43 Y l0 l1 l2 h k8 F false (l4 + 1)
    else none
theorem M_finishing_L43_ok (Y : Ly) (l0 : Nat) (l1 : Int32) (l2 : Int32) (h : Hp) (k8 : Int32 → Int32 → Option (Int32 × Hp)) (tl0 : isO Y 12 l0) (hk8 : ∀ (l1_ : Int32) (l2_ : Int32), AW Y 6 K_M_finishing 8 [(0, .ref l0), (1, .int l1_), (2, .int l2_)] [] h (k8 l1_ l2_) rI) : ∀ (F : Nat) (l3 : Bool) (l4 : Int32), AW Y 6 K_M_finishing 43 [(0, .ref l0), (1, .int l1), (2, .int l2), (3, .int (b2i l3)), (4, .int l4)] [] h (M_finishing_L43 Y l0 l1 l2 h k8 F l3 l4) rI := by
  intro F
  induction F with
  | zero =>
    intro l3 l4
    exact aw_none
  | succ F ih =>
    intro l3 l4
    unfold M_finishing_L43
    refine aw_iload (pc := 43) d_M_finishing_43 4 rfl ?_
    refine aw_aload_n (pc := 45) d_M_finishing_45 rfl 0 rfl ?_
    refine gt_1220 (pc := 46) d_M_finishing_46 w7_47 tl0 (fun tt6 => ?_)
    refine aw_iconst (pc := 49) (x := 2) d_M_finishing_49 (by decide) ?_
    refine aw_iaload (pc := 50) d_M_finishing_50 tt6 (fun c7 => ?_)
    refine aw_icmp_ge (pc := 51) (tgt := 82) d_M_finishing_51 (by decide) (fun c8 => ?_) (fun c8 => ?_)
    · refine aw_iload_n (pc := 82) d_M_finishing_82 rfl 3 rfl ?_
      refine aw_beq (pc := 83) (tgt := 88) d_M_finishing_83 (by decide) (fun c9 => ?_) (fun c9 => ?_)
      · refine aw_iload_n (pc := 86) d_M_finishing_86 rfl 2 rfl ?_
        refine aw_istore_n (pc := 87) (lv' := [(1, .int l2), (0, .ref l0), (2, .int l2), (3, .int (b2i l3)), (4, .int l4)]) d_M_finishing_87 rfl (by decide) rfl ?_
        refine aw_iinc (pc := 88) (w := l2 + 1) (lv' := [(2, .int (l2 + 1)), (1, .int l2), (0, .ref l0), (3, .int (b2i l3)), (4, .int l4)]) d_M_finishing_88 2 rfl rfl (by decide) rfl ?_
        refine aw_goto (pc := 91) (tgt := 8) d_M_finishing_91 (by decide) ?_
        exact aw_lv [2, 1, 0] rfl (hk8 l2 (l2 + 1))
      · refine aw_iinc (pc := 88) (w := l2 + 1) (lv' := [(2, .int (l2 + 1)), (0, .ref l0), (1, .int l1), (3, .int (b2i l3)), (4, .int l4)]) d_M_finishing_88 2 rfl rfl (by decide) rfl ?_
        refine aw_goto (pc := 91) (tgt := 8) d_M_finishing_91 (by decide) ?_
        exact aw_lv [1, 2, 0] rfl (hk8 l1 (l2 + 1))
    · refine aw_iload_n (pc := 54) d_M_finishing_54 rfl 3 rfl ?_
      refine aw_beq (pc := 55) (tgt := 74) d_M_finishing_55 (by decide) (fun c10 => ?_) (fun c10 => ?_)
      · refine aw_aload_n (pc := 58) d_M_finishing_58 rfl 0 rfl ?_
        refine gt_1232 (pc := 59) d_M_finishing_59 w7_59 tl0 (fun tt11 => ?_)
        refine aw_iload (pc := 62) d_M_finishing_62 4 rfl ?_
        refine aw_iaload (pc := 64) d_M_finishing_64 tt11 (fun c12 => ?_)
        refine aw_iload_n (pc := 65) d_M_finishing_65 rfl 2 rfl ?_
        refine aw_iand (pc := 66) d_M_finishing_66 ?_
        refine aw_if_eq (pc := 67) (tgt := 74) d_M_finishing_67 (by decide) (fun c13 => ?_) (fun c13 => ?_)
        · refine aw_iconst (pc := 74) (x := 0) d_M_finishing_74 (by decide) ?_
          refine aw_istore_n (pc := 75) (lv' := [(3, .int 0), (0, .ref l0), (1, .int l1), (2, .int l2), (4, .int l4)]) d_M_finishing_75 rfl (by decide) rfl ?_
          refine aw_iinc (pc := 76) (w := l4 + 1) (lv' := [(4, .int (l4 + 1)), (3, .int 0), (0, .ref l0), (1, .int l1), (2, .int l2)]) d_M_finishing_76 4 rfl rfl (by decide) rfl ?_
          refine aw_goto (pc := 79) (tgt := 43) d_M_finishing_79 (by decide) ?_
          exact aw_lv [2, 3, 4, 1, 0] rfl (ih false (l4 + 1))
        · refine aw_iconst (pc := 70) (x := 1) d_M_finishing_70 (by decide) ?_
          refine aw_goto (pc := 71) (tgt := 75) d_M_finishing_71 (by decide) ?_
          refine aw_istore_n (pc := 75) (lv' := [(3, .int 1), (0, .ref l0), (1, .int l1), (2, .int l2), (4, .int l4)]) d_M_finishing_75 rfl (by decide) rfl ?_
          refine aw_iinc (pc := 76) (w := l4 + 1) (lv' := [(4, .int (l4 + 1)), (3, .int 1), (0, .ref l0), (1, .int l1), (2, .int l2)]) d_M_finishing_76 4 rfl rfl (by decide) rfl ?_
          refine aw_goto (pc := 79) (tgt := 43) d_M_finishing_79 (by decide) ?_
          exact aw_lv [2, 3, 4, 1, 0] rfl (ih true (l4 + 1))
      · refine aw_iconst (pc := 74) (x := 0) d_M_finishing_74 (by decide) ?_
        refine aw_istore_n (pc := 75) (lv' := [(3, .int 0), (0, .ref l0), (1, .int l1), (2, .int l2), (4, .int l4)]) d_M_finishing_75 rfl (by decide) rfl ?_
        refine aw_iinc (pc := 76) (w := l4 + 1) (lv' := [(4, .int (l4 + 1)), (3, .int 0), (0, .ref l0), (1, .int l1), (2, .int l2)]) d_M_finishing_76 4 rfl rfl (by decide) rfl ?_
        refine aw_goto (pc := 79) (tgt := 43) d_M_finishing_79 (by decide) ?_
        exact aw_lv [2, 3, 4, 1, 0] rfl (ih false (l4 + 1))
def M_finishing_J38 (Y : Ly) (k8 : Int32 → Int32 → Option (Int32 × Hp)) (l0 : Nat) (l1 : Int32) (l2 : Int32) (h : Hp) : Option (Int32 × Hp) :=
  M_finishing_L43 Y l0 l1 l2 h k8 FU true 0
theorem M_finishing_J38_ok (Y : Ly) (k8 : Int32 → Int32 → Option (Int32 × Hp)) (l0 : Nat) (l1 : Int32) (l2 : Int32) (h : Hp) (hk8 : ∀ (l1_ : Int32) (l2_ : Int32), AW Y 6 K_M_finishing 8 [(0, .ref l0), (1, .int l1_), (2, .int l2_)] [] h (k8 l1_ l2_) rI) (tl0 : isO Y 12 l0) : AW Y 6 K_M_finishing 38 [(0, .ref l0), (1, .int l1), (2, .int l2)] [] h (M_finishing_J38 Y k8 l0 l1 l2 h) rI := by
  unfold M_finishing_J38
  refine aw_iconst (pc := 38) (x := 1) d_M_finishing_38 (by decide) ?_
  refine aw_istore_n (pc := 39) (lv' := [(3, .int 1), (0, .ref l0), (1, .int l1), (2, .int l2)]) d_M_finishing_39 rfl (by decide) rfl ?_
  refine aw_iconst (pc := 40) (x := 0) d_M_finishing_40 (by decide) ?_
  refine aw_istore (pc := 41) (lv' := [(4, .int 0), (3, .int 1), (0, .ref l0), (1, .int l1), (2, .int l2)]) d_M_finishing_41 (by decide) rfl ?_
  exact aw_lv [2, 3, 4, 1, 0] rfl (M_finishing_L43_ok Y l0 l1 l2 h k8 tl0 hk8 FU true 0)
def M_finishing_L8 (Y : Ly) (l0 : Nat) (h : Hp) : Nat → Int32 → Int32 → Option (Int32 × Hp)
  | 0, _, _ => none
  | F + 1, l1, l2 =>
    if inB 3 (lnY Y (hGr h 1220 l0)) = true then
      if ((1 : Int32) <<< ((hAi h (hGr h 1220 l0) (Int32.toNatClampNeg 3)) &&& 31)) ≤ l2 then
        some (l1, h)
      else
        if l1 < 0 then
          M_finishing_J38 Y (M_finishing_L8 Y l0 h F) l0 l1 l2 h
        else
          (M_sizeOf Y l2 h).bind fun q14 =>
          (M_sizeOf Y l1 h).bind fun q15 =>
          if q14 < q15 then
            M_finishing_J38 Y (M_finishing_L8 Y l0 h F) l0 l1 l2 h
          else
            M_finishing_L8 Y l0 h F l1 (l2 + 1)
    else none
theorem M_finishing_L8_ok (Y : Ly) (l0 : Nat) (h : Hp) (tl0 : isO Y 12 l0) : ∀ (F : Nat) (l1 : Int32) (l2 : Int32), AW Y 6 K_M_finishing 8 [(0, .ref l0), (1, .int l1), (2, .int l2)] [] h (M_finishing_L8 Y l0 h F l1 l2) rI := by
  intro F
  induction F with
  | zero =>
    intro l1 l2
    exact aw_none
  | succ F ih =>
    intro l1 l2
    unfold M_finishing_L8
    refine aw_iload_n (pc := 8) d_M_finishing_8 rfl 2 rfl ?_
    refine aw_iconst (pc := 9) (x := 1) d_M_finishing_9 (by decide) ?_
    refine aw_aload_n (pc := 10) d_M_finishing_10 rfl 0 rfl ?_
    refine gt_1220 (pc := 11) d_M_finishing_11 w7_47 tl0 (fun tt2 => ?_)
    refine aw_iconst (pc := 14) (x := 3) d_M_finishing_14 (by decide) ?_
    refine aw_iaload (pc := 15) d_M_finishing_15 tt2 (fun c3 => ?_)
    refine aw_ishl (pc := 16) d_M_finishing_16 ?_
    refine aw_icmp_ge (pc := 17) (tgt := 94) d_M_finishing_17 (by decide) (fun c4 => ?_) (fun c4 => ?_)
    · refine aw_iload_n (pc := 94) d_M_finishing_94 rfl 1 rfl ?_
      exact aw_ireturn (pc := 95) d_M_finishing_95 rfl rfl
    · refine aw_iload_n (pc := 20) d_M_finishing_20 rfl 1 rfl ?_
      refine aw_if_lt (pc := 21) (tgt := 38) d_M_finishing_21 (by decide) (fun c5 => ?_) (fun c5 => ?_)
      · exact aw_lv [0, 1, 2] rfl (M_finishing_J38_ok Y (M_finishing_L8 Y l0 h F) l0 l1 l2 h ih tl0)
      · refine aw_iload_n (pc := 24) d_M_finishing_24 rfl 2 rfl ?_
        refine aw_cSpI (pc := 25) (As := [.int l2]) (st := []) (ok_M_sizeOf Y l2 h) okS_M_sizeOf w10_32 d_M_finishing_25 rfl (Nat.le_of_ble_eq_true rfl) rfl (Nat.le_of_ble_eq_true rfl) (fun q14 hq14 hTq14 => ?_)
        refine aw_iload_n (pc := 28) d_M_finishing_28 rfl 1 rfl ?_
        refine aw_cSpI (pc := 29) (As := [.int l1]) (st := [.int q14]) (ok_M_sizeOf Y l1 h) okS_M_sizeOf w10_32 d_M_finishing_29 rfl (Nat.le_of_ble_eq_true rfl) rfl (Nat.le_of_ble_eq_true rfl) (fun q15 hq15 hTq15 => ?_)
        refine aw_icmp_lt (pc := 32) (tgt := 38) d_M_finishing_32 (by decide) (fun c16 => ?_) (fun c16 => ?_)
        · exact aw_lv [0, 1, 2] rfl (M_finishing_J38_ok Y (M_finishing_L8 Y l0 h F) l0 l1 l2 h ih tl0)
        · refine aw_goto (pc := 35) (tgt := 88) d_M_finishing_35 (by decide) ?_
          refine aw_iinc (pc := 88) (w := l2 + 1) (lv' := [(2, .int (l2 + 1)), (0, .ref l0), (1, .int l1)]) d_M_finishing_88 2 rfl rfl (by decide) rfl ?_
          refine aw_goto (pc := 91) (tgt := 8) d_M_finishing_91 (by decide) ?_
          exact aw_lv [1, 2, 0] rfl (ih l1 (l2 + 1))
def M_finishing (Y : Ly) (l0 : Nat) (h : Hp) : Option (Int32 × Hp) :=
  (M_laysFits Y l0 h).bind fun q1 =>
  M_finishing_L8 Y l0 q1 FU (-1) 0
theorem ok_M_finishing (Y : Ly) (l0 : Nat) (h : Hp) (t0 : isO Y 12 l0) : AM Y 6 K_M_finishing [.ref l0] h (M_finishing Y l0 h) rI := by
  refine AM.of rfl (Nat.le_of_ble_eq_true rfl) ?_
  show AW Y 6 K_M_finishing 0 [(0, .ref l0)] [] h (M_finishing Y l0 h) rI
  unfold M_finishing
  refine aw_aload_n (pc := 0) d_M_finishing_0 rfl 0 rfl ?_
  refine aw_cVrV (pc := 1) (ci := 12) (T := TX12) (N := 44) (As := []) (st := []) (ok_M_laysFits Y l0 h t0) okV_M_laysFits rfl (by decide) t0 w10_0 d_M_finishing_1 rfl (Nat.le_of_ble_eq_true rfl) rfl (Nat.le_of_ble_eq_true rfl) (fun q1 hq1 hTq1 => ?_)
  refine aw_iconst (pc := 4) (x := (-1)) d_M_finishing_4 (by decide) ?_
  refine aw_istore_n (pc := 5) (lv' := [(1, .int (-1)), (0, .ref l0)]) d_M_finishing_5 rfl (by decide) rfl ?_
  refine aw_iconst (pc := 6) (x := 0) d_M_finishing_6 (by decide) ?_
  refine aw_istore_n (pc := 7) (lv' := [(2, .int 0), (1, .int (-1)), (0, .ref l0)]) d_M_finishing_7 rfl (by decide) rfl ?_
  exact aw_lv [2, 1, 0] rfl (M_finishing_L8_ok Y l0 q1 t0 FU (-1) 0)
