/-! LastPagesModel.laysEndings(II)J -/
theorem d_M_laysEndings_0 : decode prog_14_method_109_code 0 = .ok (.aload_n 0, 1) := by decide +kernel
theorem d_M_laysEndings_1 : decode prog_14_method_109_code 1 = .ok (.getfield 35, 3) := by decide +kernel
theorem d_M_laysEndings_4 : decode prog_14_method_109_code 4 = .ok (.bipush 88, 2) := by decide +kernel
theorem d_M_laysEndings_6 : decode prog_14_method_109_code 6 = .ok (.iload_n 1, 1) := by decide +kernel
theorem d_M_laysEndings_7 : decode prog_14_method_109_code 7 = .ok (.iadd, 1) := by decide +kernel
theorem d_M_laysEndings_8 : decode prog_14_method_109_code 8 = .ok (.iaload, 1) := by decide +kernel
theorem d_M_laysEndings_9 : decode prog_14_method_109_code 9 = .ok (.istore_n 3, 1) := by decide +kernel
theorem d_M_laysEndings_10 : decode prog_14_method_109_code 10 = .ok (.iconst 0, 1) := by decide +kernel
theorem d_M_laysEndings_11 : decode prog_14_method_109_code 11 = .ok (.istore 4, 2) := by decide +kernel
theorem d_M_laysEndings_13 : decode prog_14_method_109_code 13 = .ok (.iload 4, 2) := by decide +kernel
theorem d_M_laysEndings_15 : decode prog_14_method_109_code 15 = .ok (.bipush 8, 2) := by decide +kernel
theorem d_M_laysEndings_17 : decode prog_14_method_109_code 17 = .ok (.if_icmp .ge 43, 3) := by decide +kernel
theorem d_M_laysEndings_20 : decode prog_14_method_109_code 20 = .ok (.aload_n 0, 1) := by decide +kernel
theorem d_M_laysEndings_21 : decode prog_14_method_109_code 21 = .ok (.getfield 44, 3) := by decide +kernel
theorem d_M_laysEndings_24 : decode prog_14_method_109_code 24 = .ok (.bipush 8, 2) := by decide +kernel
theorem d_M_laysEndings_26 : decode prog_14_method_109_code 26 = .ok (.iload_n 3, 1) := by decide +kernel
theorem d_M_laysEndings_27 : decode prog_14_method_109_code 27 = .ok (.iconst 1, 1) := by decide +kernel
theorem d_M_laysEndings_28 : decode prog_14_method_109_code 28 = .ok (.iadd, 1) := by decide +kernel
theorem d_M_laysEndings_29 : decode prog_14_method_109_code 29 = .ok (.imul, 1) := by decide +kernel
theorem d_M_laysEndings_30 : decode prog_14_method_109_code 30 = .ok (.iload 4, 2) := by decide +kernel
theorem d_M_laysEndings_32 : decode prog_14_method_109_code 32 = .ok (.iadd, 1) := by decide +kernel
theorem d_M_laysEndings_33 : decode prog_14_method_109_code 33 = .ok (.aload_n 0, 1) := by decide +kernel
theorem d_M_laysEndings_34 : decode prog_14_method_109_code 34 = .ok (.getfield 35, 3) := by decide +kernel
theorem d_M_laysEndings_37 : decode prog_14_method_109_code 37 = .ok (.bipush 8, 2) := by decide +kernel
theorem d_M_laysEndings_39 : decode prog_14_method_109_code 39 = .ok (.iaload, 1) := by decide +kernel
theorem d_M_laysEndings_40 : decode prog_14_method_109_code 40 = .ok (.iload 4, 2) := by decide +kernel
theorem d_M_laysEndings_42 : decode prog_14_method_109_code 42 = .ok (.invokestatic 117, 3) := by decide +kernel
theorem d_M_laysEndings_45 : decode prog_14_method_109_code 45 = .ok (.ifCond .eq 7, 3) := by decide +kernel
theorem d_M_laysEndings_48 : decode prog_14_method_109_code 48 = .ok (.lconst 1, 1) := by decide +kernel
theorem d_M_laysEndings_49 : decode prog_14_method_109_code 49 = .ok (.goto 4, 3) := by decide +kernel
theorem d_M_laysEndings_52 : decode prog_14_method_109_code 52 = .ok (.lconst 0, 1) := by decide +kernel
theorem d_M_laysEndings_53 : decode prog_14_method_109_code 53 = .ok (.lastore, 1) := by decide +kernel
theorem d_M_laysEndings_54 : decode prog_14_method_109_code 54 = .ok (.iinc 4 1, 3) := by decide +kernel
theorem d_M_laysEndings_57 : decode prog_14_method_109_code 57 = .ok (.goto (-44), 3) := by decide +kernel
theorem d_M_laysEndings_60 : decode prog_14_method_109_code 60 = .ok (.iload_n 3, 1) := by decide +kernel
theorem d_M_laysEndings_61 : decode prog_14_method_109_code 61 = .ok (.istore 4, 2) := by decide +kernel
theorem d_M_laysEndings_63 : decode prog_14_method_109_code 63 = .ok (.iload 4, 2) := by decide +kernel
theorem d_M_laysEndings_65 : decode prog_14_method_109_code 65 = .ok (.ifCond .le 119, 3) := by decide +kernel
theorem d_M_laysEndings_68 : decode prog_14_method_109_code 68 = .ok (.iconst 0, 1) := by decide +kernel
theorem d_M_laysEndings_69 : decode prog_14_method_109_code 69 = .ok (.istore 5, 2) := by decide +kernel
theorem d_M_laysEndings_71 : decode prog_14_method_109_code 71 = .ok (.iload 5, 2) := by decide +kernel
theorem d_M_laysEndings_73 : decode prog_14_method_109_code 73 = .ok (.bipush 8, 2) := by decide +kernel
theorem d_M_laysEndings_75 : decode prog_14_method_109_code 75 = .ok (.if_icmp .ge 103, 3) := by decide +kernel
theorem d_M_laysEndings_78 : decode prog_14_method_109_code 78 = .ok (.lconst 0, 1) := by decide +kernel
theorem d_M_laysEndings_79 : decode prog_14_method_109_code 79 = .ok (.lstore 6, 2) := by decide +kernel
theorem d_M_laysEndings_81 : decode prog_14_method_109_code 81 = .ok (.iconst 0, 1) := by decide +kernel
theorem d_M_laysEndings_82 : decode prog_14_method_109_code 82 = .ok (.istore 8, 2) := by decide +kernel
theorem d_M_laysEndings_84 : decode prog_14_method_109_code 84 = .ok (.iload 8, 2) := by decide +kernel
theorem d_M_laysEndings_86 : decode prog_14_method_109_code 86 = .ok (.aload_n 0, 1) := by decide +kernel
theorem d_M_laysEndings_87 : decode prog_14_method_109_code 87 = .ok (.getfield 35, 3) := by decide +kernel
theorem d_M_laysEndings_90 : decode prog_14_method_109_code 90 = .ok (.iconst 1, 1) := by decide +kernel
theorem d_M_laysEndings_91 : decode prog_14_method_109_code 91 = .ok (.iaload, 1) := by decide +kernel
theorem d_M_laysEndings_92 : decode prog_14_method_109_code 92 = .ok (.if_icmp .ge 65, 3) := by decide +kernel
theorem d_M_laysEndings_95 : decode prog_14_method_109_code 95 = .ok (.aload_n 0, 1) := by decide +kernel
theorem d_M_laysEndings_96 : decode prog_14_method_109_code 96 = .ok (.getfield 35, 3) := by decide +kernel
theorem d_M_laysEndings_99 : decode prog_14_method_109_code 99 = .ok (.bipush 18, 2) := by decide +kernel
theorem d_M_laysEndings_101 : decode prog_14_method_109_code 101 = .ok (.bipush 8, 2) := by decide +kernel
theorem d_M_laysEndings_103 : decode prog_14_method_109_code 103 = .ok (.iload 5, 2) := by decide +kernel
theorem d_M_laysEndings_105 : decode prog_14_method_109_code 105 = .ok (.imul, 1) := by decide +kernel
theorem d_M_laysEndings_106 : decode prog_14_method_109_code 106 = .ok (.iadd, 1) := by decide +kernel
theorem d_M_laysEndings_107 : decode prog_14_method_109_code 107 = .ok (.iload 8, 2) := by decide +kernel
theorem d_M_laysEndings_109 : decode prog_14_method_109_code 109 = .ok (.iadd, 1) := by decide +kernel
theorem d_M_laysEndings_110 : decode prog_14_method_109_code 110 = .ok (.iaload, 1) := by decide +kernel
theorem d_M_laysEndings_111 : decode prog_14_method_109_code 111 = .ok (.istore 9, 2) := by decide +kernel
theorem d_M_laysEndings_113 : decode prog_14_method_109_code 113 = .ok (.iload 9, 2) := by decide +kernel
theorem d_M_laysEndings_115 : decode prog_14_method_109_code 115 = .ok (.ifCond .lt 36, 3) := by decide +kernel
theorem d_M_laysEndings_118 : decode prog_14_method_109_code 118 = .ok (.aload_n 0, 1) := by decide +kernel
theorem d_M_laysEndings_119 : decode prog_14_method_109_code 119 = .ok (.iload_n 1, 1) := by decide +kernel
theorem d_M_laysEndings_120 : decode prog_14_method_109_code 120 = .ok (.iload 4, 2) := by decide +kernel
theorem d_M_laysEndings_122 : decode prog_14_method_109_code 122 = .ok (.iload 8, 2) := by decide +kernel
theorem d_M_laysEndings_124 : decode prog_14_method_109_code 124 = .ok (.iload_n 2, 1) := by decide +kernel
theorem d_M_laysEndings_125 : decode prog_14_method_109_code 125 = .ok (.invokevirtual 399, 3) := by decide +kernel
theorem d_M_laysEndings_128 : decode prog_14_method_109_code 128 = .ok (.ifCond .ne 23, 3) := by decide +kernel
theorem d_M_laysEndings_131 : decode prog_14_method_109_code 131 = .ok (.lload 6, 2) := by decide +kernel
theorem d_M_laysEndings_133 : decode prog_14_method_109_code 133 = .ok (.aload_n 0, 1) := by decide +kernel
theorem d_M_laysEndings_134 : decode prog_14_method_109_code 134 = .ok (.getfield 44, 3) := by decide +kernel
theorem d_M_laysEndings_137 : decode prog_14_method_109_code 137 = .ok (.bipush 8, 2) := by decide +kernel
theorem d_M_laysEndings_139 : decode prog_14_method_109_code 139 = .ok (.iload 4, 2) := by decide +kernel
theorem d_M_laysEndings_141 : decode prog_14_method_109_code 141 = .ok (.iconst 1, 1) := by decide +kernel
theorem d_M_laysEndings_142 : decode prog_14_method_109_code 142 = .ok (.iadd, 1) := by decide +kernel
theorem d_M_laysEndings_143 : decode prog_14_method_109_code 143 = .ok (.imul, 1) := by decide +kernel
theorem d_M_laysEndings_144 : decode prog_14_method_109_code 144 = .ok (.iload 9, 2) := by decide +kernel
theorem d_M_laysEndings_146 : decode prog_14_method_109_code 146 = .ok (.iadd, 1) := by decide +kernel
theorem d_M_laysEndings_147 : decode prog_14_method_109_code 147 = .ok (.laload, 1) := by decide +kernel
theorem d_M_laysEndings_148 : decode prog_14_method_109_code 148 = .ok (.ladd, 1) := by decide +kernel
theorem d_M_laysEndings_149 : decode prog_14_method_109_code 149 = .ok (.lstore 6, 2) := by decide +kernel
theorem d_M_laysEndings_151 : decode prog_14_method_109_code 151 = .ok (.iinc 8 1, 3) := by decide +kernel
theorem d_M_laysEndings_154 : decode prog_14_method_109_code 154 = .ok (.goto (-70), 3) := by decide +kernel
theorem d_M_laysEndings_157 : decode prog_14_method_109_code 157 = .ok (.aload_n 0, 1) := by decide +kernel
theorem d_M_laysEndings_158 : decode prog_14_method_109_code 158 = .ok (.getfield 44, 3) := by decide +kernel
theorem d_M_laysEndings_161 : decode prog_14_method_109_code 161 = .ok (.bipush 8, 2) := by decide +kernel
theorem d_M_laysEndings_163 : decode prog_14_method_109_code 163 = .ok (.iload 4, 2) := by decide +kernel
theorem d_M_laysEndings_165 : decode prog_14_method_109_code 165 = .ok (.imul, 1) := by decide +kernel
theorem d_M_laysEndings_166 : decode prog_14_method_109_code 166 = .ok (.iload 5, 2) := by decide +kernel
theorem d_M_laysEndings_168 : decode prog_14_method_109_code 168 = .ok (.iadd, 1) := by decide +kernel
theorem d_M_laysEndings_169 : decode prog_14_method_109_code 169 = .ok (.lload 6, 2) := by decide +kernel
theorem d_M_laysEndings_171 : decode prog_14_method_109_code 171 = .ok (.lastore, 1) := by decide +kernel
theorem d_M_laysEndings_172 : decode prog_14_method_109_code 172 = .ok (.iinc 5 1, 3) := by decide +kernel
theorem d_M_laysEndings_175 : decode prog_14_method_109_code 175 = .ok (.goto (-104), 3) := by decide +kernel
theorem d_M_laysEndings_178 : decode prog_14_method_109_code 178 = .ok (.iinc 4 (-1), 3) := by decide +kernel
theorem d_M_laysEndings_181 : decode prog_14_method_109_code 181 = .ok (.goto (-118), 3) := by decide +kernel
theorem d_M_laysEndings_184 : decode prog_14_method_109_code 184 = .ok (.aload_n 0, 1) := by decide +kernel
theorem d_M_laysEndings_185 : decode prog_14_method_109_code 185 = .ok (.iload_n 1, 1) := by decide +kernel
theorem d_M_laysEndings_186 : decode prog_14_method_109_code 186 = .ok (.invokevirtual 387, 3) := by decide +kernel
theorem d_M_laysEndings_189 : decode prog_14_method_109_code 189 = .ok (.istore 4, 2) := by decide +kernel
theorem d_M_laysEndings_191 : decode prog_14_method_109_code 191 = .ok (.iload 4, 2) := by decide +kernel
theorem d_M_laysEndings_193 : decode prog_14_method_109_code 193 = .ok (.ifCond .ge 7, 3) := by decide +kernel
theorem d_M_laysEndings_196 : decode prog_14_method_109_code 196 = .ok (.lconst 0, 1) := by decide +kernel
theorem d_M_laysEndings_197 : decode prog_14_method_109_code 197 = .ok (.goto 13, 3) := by decide +kernel
theorem d_M_laysEndings_200 : decode prog_14_method_109_code 200 = .ok (.aload_n 0, 1) := by decide +kernel
theorem d_M_laysEndings_201 : decode prog_14_method_109_code 201 = .ok (.getfield 44, 3) := by decide +kernel
theorem d_M_laysEndings_204 : decode prog_14_method_109_code 204 = .ok (.bipush 8, 2) := by decide +kernel
theorem d_M_laysEndings_206 : decode prog_14_method_109_code 206 = .ok (.iload 4, 2) := by decide +kernel
theorem d_M_laysEndings_208 : decode prog_14_method_109_code 208 = .ok (.iadd, 1) := by decide +kernel
theorem d_M_laysEndings_209 : decode prog_14_method_109_code 209 = .ok (.laload, 1) := by decide +kernel
theorem d_M_laysEndings_210 : decode prog_14_method_109_code 210 = .ok (.lreturn, 1) := by decide +kernel
def M_laysEndings_L84 (Y : Ly) (l0 : Nat) (l1 : Int32) (l2 : Int32) (l4 : Int32) (l5 : Int32) (h : Hp) (k71 : Int32 → Hp → Option (Int64 × Hp)) : Nat → Int64 → Int32 → Option (Int64 × Hp)
  | 0, _, _ => none
  | F + 1, l6, l8 =>
    if inB 1 (lnY Y (hGr h 1220 l0)) = true then
      if (hAi h (hGr h 1220 l0) (Int32.toNatClampNeg 1)) ≤ l8 then
        if inB ((8 * l4) + l5) (lnY Y (hGr h 1225 l0)) = true then
          letH (hTl h (hGr h 1225 l0) (Int32.toNatClampNeg ((8 * l4) + l5)) l6) fun h15 =>
          k71 (l5 + 1) h15
        else none
      else
        if inB ((18 + (8 * l5)) + l8) (lnY Y (hGr h 1220 l0)) = true then
          if (hAi h (hGr h 1220 l0) (Int32.toNatClampNeg ((18 + (8 * l5)) + l8))) < 0 then
            M_laysEndings_L84 Y l0 l1 l2 l4 l5 h k71 F l6 (l8 + 1)
          else
            (M_isBarred Y l0 l1 l4 l8 l2 h).bind fun q19 =>
            if q19 = true then
              M_laysEndings_L84 Y l0 l1 l2 l4 l5 h k71 F l6 (l8 + 1)
            else
              if inB ((8 * (l4 + 1)) + (hAi h (hGr h 1220 l0) (Int32.toNatClampNeg ((18 + (8 * l5)) + l8)))) (lnY Y (hGr h 1225 l0)) = true then
                M_laysEndings_L84 Y l0 l1 l2 l4 l5 h k71 F (l6 + (hAl h (hGr h 1225 l0) (Int32.toNatClampNeg ((8 * (l4 + 1)) + (hAi h (hGr h 1220 l0) (Int32.toNatClampNeg ((18 + (8 * l5)) + l8))))))) (l8 + 1)
              else none
        else none
    else none
theorem M_laysEndings_L84_ok (Y : Ly) (l0 : Nat) (l1 : Int32) (l2 : Int32) (l4 : Int32) (l5 : Int32) (h : Hp) (k71 : Int32 → Hp → Option (Int64 × Hp)) (tl0 : isO Y 12 l0) (hk71 : ∀ (l5_ : Int32) (h_ : Hp), AW Y 2 K_M_laysEndings 71 [(0, .ref l0), (1, .int l1), (2, .int l2), (4, .int l4), (5, .int l5_)] [] h_ (k71 l5_ h_) rL) : ∀ (F : Nat) (l6 : Int64) (l8 : Int32), AW Y 2 K_M_laysEndings 84 [(0, .ref l0), (1, .int l1), (2, .int l2), (4, .int l4), (5, .int l5), (6, .long l6), (8, .int l8)] [] h (M_laysEndings_L84 Y l0 l1 l2 l4 l5 h k71 F l6 l8) rL := by
  intro F
  induction F with
  | zero =>
    intro l6 l8
    exact aw_none
  | succ F ih =>
    intro l6 l8
    unfold M_laysEndings_L84
    refine aw_iload (pc := 84) d_M_laysEndings_84 6 rfl ?_
    refine aw_aload_n (pc := 86) d_M_laysEndings_86 rfl 0 rfl ?_
    refine gt_1220 (pc := 87) d_M_laysEndings_87 w7_47 tl0 (fun tt10 => ?_)
    refine aw_iconst (pc := 90) (x := 1) d_M_laysEndings_90 (by decide) ?_
    refine aw_iaload (pc := 91) d_M_laysEndings_91 tt10 (fun c11 => ?_)
    refine aw_icmp_ge (pc := 92) (tgt := 157) d_M_laysEndings_92 (by decide) (fun c12 => ?_) (fun c12 => ?_)
    · refine aw_aload_n (pc := 157) d_M_laysEndings_157 rfl 0 rfl ?_
      refine gt_1225 (pc := 158) d_M_laysEndings_158 w7_52 tl0 (fun tt13 => ?_)
      refine aw_bipush (pc := 161) (x := 8) d_M_laysEndings_161 (by decide) ?_
      refine aw_iload (pc := 163) d_M_laysEndings_163 3 rfl ?_
      refine aw_imul (pc := 165) d_M_laysEndings_165 ?_
      refine aw_iload (pc := 166) d_M_laysEndings_166 4 rfl ?_
      refine aw_iadd (pc := 168) d_M_laysEndings_168 ?_
      refine aw_lload (pc := 169) d_M_laysEndings_169 5 rfl ?_
      refine aw_lastore (pc := 171) d_M_laysEndings_171 tt13 (fun c14 => ?_)
      refine aw_letH (fun h15 => ?_)
      refine aw_iinc (pc := 172) (w := l5 + 1) (lv' := [(5, .int (l5 + 1)), (0, .ref l0), (1, .int l1), (2, .int l2), (4, .int l4), (6, .long l6), (8, .int l8)]) d_M_laysEndings_172 4 rfl rfl (by decide) rfl ?_
      refine aw_goto (pc := 175) (tgt := 71) d_M_laysEndings_175 (by decide) ?_
      exact aw_lv [1, 2, 3, 4, 0] rfl (hk71 (l5 + 1) h15)
    · refine aw_aload_n (pc := 95) d_M_laysEndings_95 rfl 0 rfl ?_
      refine gt_1220 (pc := 96) d_M_laysEndings_96 w7_47 tl0 (fun tt16 => ?_)
      refine aw_bipush (pc := 99) (x := 18) d_M_laysEndings_99 (by decide) ?_
      refine aw_bipush (pc := 101) (x := 8) d_M_laysEndings_101 (by decide) ?_
      refine aw_iload (pc := 103) d_M_laysEndings_103 4 rfl ?_
      refine aw_imul (pc := 105) d_M_laysEndings_105 ?_
      refine aw_iadd (pc := 106) d_M_laysEndings_106 ?_
      refine aw_iload (pc := 107) d_M_laysEndings_107 6 rfl ?_
      refine aw_iadd (pc := 109) d_M_laysEndings_109 ?_
      refine aw_iaload (pc := 110) d_M_laysEndings_110 tt16 (fun c17 => ?_)
      refine aw_istore (pc := 111) (lv' := [(9, .int (hAi h (hGr h 1220 l0) (Int32.toNatClampNeg ((18 + (8 * l5)) + l8)))), (0, .ref l0), (1, .int l1), (2, .int l2), (4, .int l4), (5, .int l5), (6, .long l6), (8, .int l8)]) d_M_laysEndings_111 (by decide) rfl ?_
      refine aw_iload (pc := 113) d_M_laysEndings_113 0 rfl ?_
      refine aw_if_lt (pc := 115) (tgt := 151) d_M_laysEndings_115 (by decide) (fun c18 => ?_) (fun c18 => ?_)
      · refine aw_iinc (pc := 151) (w := l8 + 1) (lv' := [(8, .int (l8 + 1)), (9, .int (hAi h (hGr h 1220 l0) (Int32.toNatClampNeg ((18 + (8 * l5)) + l8)))), (0, .ref l0), (1, .int l1), (2, .int l2), (4, .int l4), (5, .int l5), (6, .long l6)]) d_M_laysEndings_151 7 rfl rfl (by decide) rfl ?_
        refine aw_goto (pc := 154) (tgt := 84) d_M_laysEndings_154 (by decide) ?_
        exact aw_lv [2, 3, 4, 5, 6, 7, 0] rfl (ih l6 (l8 + 1))
      · refine aw_aload_n (pc := 118) d_M_laysEndings_118 rfl 1 rfl ?_
        refine aw_iload_n (pc := 119) d_M_laysEndings_119 rfl 2 rfl ?_
        refine aw_iload (pc := 120) d_M_laysEndings_120 4 rfl ?_
        refine aw_iload (pc := 122) d_M_laysEndings_122 7 rfl ?_
        refine aw_iload_n (pc := 124) d_M_laysEndings_124 rfl 3 rfl ?_
        refine aw_cVpZ (pc := 125) (ci := 12) (T := TX12) (N := 44) (As := [.int l1, .int l4, .int l8, .int l2]) (st := []) (ok_M_isBarred Y l0 l1 l4 l8 l2 h tl0) okV_M_isBarred rfl (by decide) tl0 w9_106 d_M_laysEndings_125 rfl (Nat.le_of_ble_eq_true rfl) rfl (Nat.le_of_ble_eq_true rfl) (fun q19 hq19 hTq19 => ?_)
        refine aw_bne (pc := 128) (tgt := 151) d_M_laysEndings_128 (by decide) (fun c20 => ?_) (fun c20 => ?_)
        · refine aw_iinc (pc := 151) (w := l8 + 1) (lv' := [(8, .int (l8 + 1)), (9, .int (hAi h (hGr h 1220 l0) (Int32.toNatClampNeg ((18 + (8 * l5)) + l8)))), (0, .ref l0), (1, .int l1), (2, .int l2), (4, .int l4), (5, .int l5), (6, .long l6)]) d_M_laysEndings_151 7 rfl rfl (by decide) rfl ?_
          refine aw_goto (pc := 154) (tgt := 84) d_M_laysEndings_154 (by decide) ?_
          exact aw_lv [2, 3, 4, 5, 6, 7, 0] rfl (ih l6 (l8 + 1))
        · refine aw_lload (pc := 131) d_M_laysEndings_131 6 rfl ?_
          refine aw_aload_n (pc := 133) d_M_laysEndings_133 rfl 1 rfl ?_
          refine gt_1225 (pc := 134) d_M_laysEndings_134 w7_52 tl0 (fun tt21 => ?_)
          refine aw_bipush (pc := 137) (x := 8) d_M_laysEndings_137 (by decide) ?_
          refine aw_iload (pc := 139) d_M_laysEndings_139 4 rfl ?_
          refine aw_iconst (pc := 141) (x := 1) d_M_laysEndings_141 (by decide) ?_
          refine aw_iadd (pc := 142) d_M_laysEndings_142 ?_
          refine aw_imul (pc := 143) d_M_laysEndings_143 ?_
          refine aw_iload (pc := 144) d_M_laysEndings_144 0 rfl ?_
          refine aw_iadd (pc := 146) d_M_laysEndings_146 ?_
          refine aw_laload (pc := 147) d_M_laysEndings_147 tt21 (fun c22 => ?_)
          refine aw_ladd (pc := 148) d_M_laysEndings_148 ?_
          refine aw_lstore (pc := 149) (lv' := [(6, .long (l6 + (hAl h (hGr h 1225 l0) (Int32.toNatClampNeg ((8 * (l4 + 1)) + (hAi h (hGr h 1220 l0) (Int32.toNatClampNeg ((18 + (8 * l5)) + l8)))))))), (9, .int (hAi h (hGr h 1220 l0) (Int32.toNatClampNeg ((18 + (8 * l5)) + l8)))), (0, .ref l0), (1, .int l1), (2, .int l2), (4, .int l4), (5, .int l5), (8, .int l8)]) d_M_laysEndings_149 (by decide) rfl ?_
          refine aw_iinc (pc := 151) (w := l8 + 1) (lv' := [(8, .int (l8 + 1)), (6, .long (l6 + (hAl h (hGr h 1225 l0) (Int32.toNatClampNeg ((8 * (l4 + 1)) + (hAi h (hGr h 1220 l0) (Int32.toNatClampNeg ((18 + (8 * l5)) + l8)))))))), (9, .int (hAi h (hGr h 1220 l0) (Int32.toNatClampNeg ((18 + (8 * l5)) + l8)))), (0, .ref l0), (1, .int l1), (2, .int l2), (4, .int l4), (5, .int l5)]) d_M_laysEndings_151 7 rfl rfl (by decide) rfl ?_
          refine aw_goto (pc := 154) (tgt := 84) d_M_laysEndings_154 (by decide) ?_
          exact aw_lv [3, 4, 5, 6, 7, 1, 0] rfl (ih (l6 + (hAl h (hGr h 1225 l0) (Int32.toNatClampNeg ((8 * (l4 + 1)) + (hAi h (hGr h 1220 l0) (Int32.toNatClampNeg ((18 + (8 * l5)) + l8))))))) (l8 + 1))
def M_laysEndings_L71 (Y : Ly) (l0 : Nat) (l1 : Int32) (l2 : Int32) (l4 : Int32) (k63 : Int32 → Hp → Option (Int64 × Hp)) : Nat → Int32 → Hp → Option (Int64 × Hp)
  | 0, _, _ => none
  | F + 1, l5, h =>
    if 8 ≤ l5 then
      k63 (l4 + (-1)) h
    else
      M_laysEndings_L84 Y l0 l1 l2 l4 l5 h (M_laysEndings_L71 Y l0 l1 l2 l4 k63 F) FU 0 0
theorem M_laysEndings_L71_ok (Y : Ly) (l0 : Nat) (l1 : Int32) (l2 : Int32) (l4 : Int32) (k63 : Int32 → Hp → Option (Int64 × Hp)) (tl0 : isO Y 12 l0) (hk63 : ∀ (l4_ : Int32) (h_ : Hp), AW Y 2 K_M_laysEndings 63 [(0, .ref l0), (1, .int l1), (2, .int l2), (4, .int l4_)] [] h_ (k63 l4_ h_) rL) : ∀ (F : Nat) (l5 : Int32) (h : Hp), AW Y 2 K_M_laysEndings 71 [(0, .ref l0), (1, .int l1), (2, .int l2), (4, .int l4), (5, .int l5)] [] h (M_laysEndings_L71 Y l0 l1 l2 l4 k63 F l5 h) rL := by
  intro F
  induction F with
  | zero =>
    intro l5 h
    exact aw_none
  | succ F ih =>
    intro l5 h
    unfold M_laysEndings_L71
    refine aw_iload (pc := 71) d_M_laysEndings_71 4 rfl ?_
    refine aw_bipush (pc := 73) (x := 8) d_M_laysEndings_73 (by decide) ?_
    refine aw_icmp_ge (pc := 75) (tgt := 178) d_M_laysEndings_75 (by decide) (fun c9 => ?_) (fun c9 => ?_)
    · refine aw_iinc (pc := 178) (w := l4 + (-1)) (lv' := [(4, .int (l4 + (-1))), (0, .ref l0), (1, .int l1), (2, .int l2), (5, .int l5)]) d_M_laysEndings_178 3 rfl rfl (by decide) rfl ?_
      refine aw_goto (pc := 181) (tgt := 63) d_M_laysEndings_181 (by decide) ?_
      exact aw_lv [1, 2, 3, 0] rfl (hk63 (l4 + (-1)) h)
    · refine aw_lconst (pc := 78) (x := 0) d_M_laysEndings_78 (by decide) ?_
      refine aw_lstore (pc := 79) (lv' := [(6, .long 0), (0, .ref l0), (1, .int l1), (2, .int l2), (4, .int l4), (5, .int l5)]) d_M_laysEndings_79 (by decide) rfl ?_
      refine aw_iconst (pc := 81) (x := 0) d_M_laysEndings_81 (by decide) ?_
      refine aw_istore (pc := 82) (lv' := [(8, .int 0), (6, .long 0), (0, .ref l0), (1, .int l1), (2, .int l2), (4, .int l4), (5, .int l5)]) d_M_laysEndings_82 (by decide) rfl ?_
      exact aw_lv [2, 3, 4, 5, 6, 1, 0] rfl (M_laysEndings_L84_ok Y l0 l1 l2 l4 l5 h (M_laysEndings_L71 Y l0 l1 l2 l4 k63 F) tl0 ih FU 0 0)
def M_laysEndings_L63 (Y : Ly) (l0 : Nat) (l1 : Int32) (l2 : Int32) : Nat → Int32 → Hp → Option (Int64 × Hp)
  | 0, _, _ => none
  | F + 1, l4, h =>
    if l4 ≤ 0 then
      (M_placeOf Y l0 l1 h).bind fun q5 =>
      if 0 ≤ q5 then
        if inB (8 + q5) (lnY Y (hGr h 1225 l0)) = true then
          some (hAl h (hGr h 1225 l0) (Int32.toNatClampNeg (8 + q5)), h)
        else none
      else
        some (0, h)
    else
      M_laysEndings_L71 Y l0 l1 l2 l4 (M_laysEndings_L63 Y l0 l1 l2 F) FU 0 h
theorem M_laysEndings_L63_ok (Y : Ly) (l0 : Nat) (l1 : Int32) (l2 : Int32) (tl0 : isO Y 12 l0) : ∀ (F : Nat) (l4 : Int32) (h : Hp), AW Y 2 K_M_laysEndings 63 [(0, .ref l0), (1, .int l1), (2, .int l2), (4, .int l4)] [] h (M_laysEndings_L63 Y l0 l1 l2 F l4 h) rL := by
  intro F
  induction F with
  | zero =>
    intro l4 h
    exact aw_none
  | succ F ih =>
    intro l4 h
    unfold M_laysEndings_L63
    refine aw_iload (pc := 63) d_M_laysEndings_63 3 rfl ?_
    refine aw_if_le (pc := 65) (tgt := 184) d_M_laysEndings_65 (by decide) (fun c4 => ?_) (fun c4 => ?_)
    · refine aw_aload_n (pc := 184) d_M_laysEndings_184 rfl 0 rfl ?_
      refine aw_iload_n (pc := 185) d_M_laysEndings_185 rfl 1 rfl ?_
      refine aw_cVpI (pc := 186) (ci := 12) (T := TX12) (N := 44) (As := [.int l1]) (st := []) (ok_M_placeOf Y l0 l1 h tl0) okV_M_placeOf rfl (by decide) tl0 w9_45 d_M_laysEndings_186 rfl (Nat.le_of_ble_eq_true rfl) rfl (Nat.le_of_ble_eq_true rfl) (fun q5 hq5 hTq5 => ?_)
      refine aw_istore (pc := 189) (lv' := [(4, .int q5), (0, .ref l0), (1, .int l1), (2, .int l2)]) d_M_laysEndings_189 (by decide) rfl ?_
      refine aw_iload (pc := 191) d_M_laysEndings_191 0 rfl ?_
      refine aw_if_ge (pc := 193) (tgt := 200) d_M_laysEndings_193 (by decide) (fun c6 => ?_) (fun c6 => ?_)
      · refine aw_aload_n (pc := 200) d_M_laysEndings_200 rfl 1 rfl ?_
        refine gt_1225 (pc := 201) d_M_laysEndings_201 w7_52 tl0 (fun tt7 => ?_)
        refine aw_bipush (pc := 204) (x := 8) d_M_laysEndings_204 (by decide) ?_
        refine aw_iload (pc := 206) d_M_laysEndings_206 0 rfl ?_
        refine aw_iadd (pc := 208) d_M_laysEndings_208 ?_
        refine aw_laload (pc := 209) d_M_laysEndings_209 tt7 (fun c8 => ?_)
        exact aw_lreturn (pc := 210) d_M_laysEndings_210 rfl rfl
      · refine aw_lconst (pc := 196) (x := 0) d_M_laysEndings_196 (by decide) ?_
        refine aw_goto (pc := 197) (tgt := 210) d_M_laysEndings_197 (by decide) ?_
        exact aw_lreturn (pc := 210) d_M_laysEndings_210 rfl rfl
    · refine aw_iconst (pc := 68) (x := 0) d_M_laysEndings_68 (by decide) ?_
      refine aw_istore (pc := 69) (lv' := [(5, .int 0), (0, .ref l0), (1, .int l1), (2, .int l2), (4, .int l4)]) d_M_laysEndings_69 (by decide) rfl ?_
      exact aw_lv [1, 2, 3, 4, 0] rfl (M_laysEndings_L71_ok Y l0 l1 l2 l4 (M_laysEndings_L63 Y l0 l1 l2 F) tl0 ih FU 0 h)
def M_laysEndings_L13 (Y : Ly) (l0 : Nat) (l1 : Int32) (l2 : Int32) (l3 : Int32) : Nat → Int32 → Hp → Option (Int64 × Hp)
  | 0, _, _ => none
  | F + 1, l4, h =>
    if 8 ≤ l4 then
      M_laysEndings_L63 Y l0 l1 l2 FU l3 h
    else
      if inB 8 (lnY Y (hGr h 1220 l0)) = true then
        (M_has Y (hAi h (hGr h 1220 l0) (Int32.toNatClampNeg 8)) l4 h).bind fun q26 =>
        if q26 = true then
          if inB ((8 * (l3 + 1)) + l4) (lnY Y (hGr h 1225 l0)) = true then
            letH (hTl h (hGr h 1225 l0) (Int32.toNatClampNeg ((8 * (l3 + 1)) + l4)) 1) fun h29 =>
            M_laysEndings_L13 Y l0 l1 l2 l3 F (l4 + 1) h29
          else none
        else
          if inB ((8 * (l3 + 1)) + l4) (lnY Y (hGr h 1225 l0)) = true then
            letH (hTl h (hGr h 1225 l0) (Int32.toNatClampNeg ((8 * (l3 + 1)) + l4)) 0) fun h31 =>
            M_laysEndings_L13 Y l0 l1 l2 l3 F (l4 + 1) h31
          else none
      else none
theorem M_laysEndings_L13_ok (Y : Ly) (l0 : Nat) (l1 : Int32) (l2 : Int32) (l3 : Int32) (tl0 : isO Y 12 l0) : ∀ (F : Nat) (l4 : Int32) (h : Hp), AW Y 2 K_M_laysEndings 13 [(0, .ref l0), (1, .int l1), (2, .int l2), (3, .int l3), (4, .int l4)] [] h (M_laysEndings_L13 Y l0 l1 l2 l3 F l4 h) rL := by
  intro F
  induction F with
  | zero =>
    intro l4 h
    exact aw_none
  | succ F ih =>
    intro l4 h
    unfold M_laysEndings_L13
    refine aw_iload (pc := 13) d_M_laysEndings_13 4 rfl ?_
    refine aw_bipush (pc := 15) (x := 8) d_M_laysEndings_15 (by decide) ?_
    refine aw_icmp_ge (pc := 17) (tgt := 60) d_M_laysEndings_17 (by decide) (fun c3 => ?_) (fun c3 => ?_)
    · refine aw_iload_n (pc := 60) d_M_laysEndings_60 rfl 3 rfl ?_
      refine aw_istore (pc := 61) (lv' := [(4, .int l3), (0, .ref l0), (1, .int l1), (2, .int l2), (3, .int l3)]) d_M_laysEndings_61 (by decide) rfl ?_
      exact aw_lv [1, 2, 3, 0] rfl (M_laysEndings_L63_ok Y l0 l1 l2 tl0 FU l3 h)
    · refine aw_aload_n (pc := 20) d_M_laysEndings_20 rfl 0 rfl ?_
      refine gt_1225 (pc := 21) d_M_laysEndings_21 w7_52 tl0 (fun tt23 => ?_)
      refine aw_bipush (pc := 24) (x := 8) d_M_laysEndings_24 (by decide) ?_
      refine aw_iload_n (pc := 26) d_M_laysEndings_26 rfl 3 rfl ?_
      refine aw_iconst (pc := 27) (x := 1) d_M_laysEndings_27 (by decide) ?_
      refine aw_iadd (pc := 28) d_M_laysEndings_28 ?_
      refine aw_imul (pc := 29) d_M_laysEndings_29 ?_
      refine aw_iload (pc := 30) d_M_laysEndings_30 4 rfl ?_
      refine aw_iadd (pc := 32) d_M_laysEndings_32 ?_
      refine aw_aload_n (pc := 33) d_M_laysEndings_33 rfl 0 rfl ?_
      refine gt_1220 (pc := 34) d_M_laysEndings_34 w7_47 tl0 (fun tt24 => ?_)
      refine aw_bipush (pc := 37) (x := 8) d_M_laysEndings_37 (by decide) ?_
      refine aw_iaload (pc := 39) d_M_laysEndings_39 tt24 (fun c25 => ?_)
      refine aw_iload (pc := 40) d_M_laysEndings_40 4 rfl ?_
      refine aw_cSpZ (pc := 42) (As := [.int (hAi h (hGr h 1220 l0) (Int32.toNatClampNeg 8)), .int l4]) (st := [.int ((8 * (l3 + 1)) + l4), .ref (hGr h 1225 l0)]) (ok_M_has Y (hAi h (hGr h 1220 l0) (Int32.toNatClampNeg 8)) l4 h) okS_M_has w9_110 d_M_laysEndings_42 rfl (Nat.le_of_ble_eq_true rfl) rfl (Nat.le_of_ble_eq_true rfl) (fun q26 hq26 hTq26 => ?_)
      refine aw_beq (pc := 45) (tgt := 52) d_M_laysEndings_45 (by decide) (fun c27 => ?_) (fun c27 => ?_)
      · refine aw_lconst (pc := 48) (x := 1) d_M_laysEndings_48 (by decide) ?_
        refine aw_goto (pc := 49) (tgt := 53) d_M_laysEndings_49 (by decide) ?_
        refine aw_lastore (pc := 53) d_M_laysEndings_53 tt23 (fun c28 => ?_)
        refine aw_letH (fun h29 => ?_)
        refine aw_iinc (pc := 54) (w := l4 + 1) (lv' := [(4, .int (l4 + 1)), (0, .ref l0), (1, .int l1), (2, .int l2), (3, .int l3)]) d_M_laysEndings_54 4 rfl rfl (by decide) rfl ?_
        refine aw_goto (pc := 57) (tgt := 13) d_M_laysEndings_57 (by decide) ?_
        exact aw_lv [1, 2, 3, 4, 0] rfl (ih (l4 + 1) h29)
      · refine aw_lconst (pc := 52) (x := 0) d_M_laysEndings_52 (by decide) ?_
        refine aw_lastore (pc := 53) d_M_laysEndings_53 tt23 (fun c30 => ?_)
        refine aw_letH (fun h31 => ?_)
        refine aw_iinc (pc := 54) (w := l4 + 1) (lv' := [(4, .int (l4 + 1)), (0, .ref l0), (1, .int l1), (2, .int l2), (3, .int l3)]) d_M_laysEndings_54 4 rfl rfl (by decide) rfl ?_
        refine aw_goto (pc := 57) (tgt := 13) d_M_laysEndings_57 (by decide) ?_
        exact aw_lv [1, 2, 3, 4, 0] rfl (ih (l4 + 1) h31)
def M_laysEndings (Y : Ly) (l0 : Nat) (l1 : Int32) (l2 : Int32) (h : Hp) : Option (Int64 × Hp) :=
  if inB (88 + l1) (lnY Y (hGr h 1220 l0)) = true then
    M_laysEndings_L13 Y l0 l1 l2 (hAi h (hGr h 1220 l0) (Int32.toNatClampNeg (88 + l1))) FU 0 h
  else none
theorem ok_M_laysEndings (Y : Ly) (l0 : Nat) (l1 : Int32) (l2 : Int32) (h : Hp) (t0 : isO Y 12 l0) : AM Y 2 K_M_laysEndings [.ref l0, .int l1, .int l2] h (M_laysEndings Y l0 l1 l2 h) rL := by
  refine AM.of rfl (Nat.le_of_ble_eq_true rfl) ?_
  show AW Y 2 K_M_laysEndings 0 [(0, .ref l0), (1, .int l1), (2, .int l2)] [] h (M_laysEndings Y l0 l1 l2 h) rL
  unfold M_laysEndings
  refine aw_aload_n (pc := 0) d_M_laysEndings_0 rfl 0 rfl ?_
  refine gt_1220 (pc := 1) d_M_laysEndings_1 w7_47 t0 (fun tt1 => ?_)
  refine aw_bipush (pc := 4) (x := 88) d_M_laysEndings_4 (by decide) ?_
  refine aw_iload_n (pc := 6) d_M_laysEndings_6 rfl 1 rfl ?_
  refine aw_iadd (pc := 7) d_M_laysEndings_7 ?_
  refine aw_iaload (pc := 8) d_M_laysEndings_8 tt1 (fun c2 => ?_)
  refine aw_istore_n (pc := 9) (lv' := [(3, .int (hAi h (hGr h 1220 l0) (Int32.toNatClampNeg (88 + l1)))), (0, .ref l0), (1, .int l1), (2, .int l2)]) d_M_laysEndings_9 rfl (by decide) rfl ?_
  refine aw_iconst (pc := 10) (x := 0) d_M_laysEndings_10 (by decide) ?_
  refine aw_istore (pc := 11) (lv' := [(4, .int 0), (3, .int (hAi h (hGr h 1220 l0) (Int32.toNatClampNeg (88 + l1)))), (0, .ref l0), (1, .int l1), (2, .int l2)]) d_M_laysEndings_11 (by decide) rfl ?_
  exact aw_lv [2, 3, 4, 1, 0] rfl (M_laysEndings_L13_ok Y l0 l1 l2 (hAi h (hGr h 1220 l0) (Int32.toNatClampNeg (88 + l1))) t0 FU 0 h)
/-! LastPagesModel.endingsOf(I)J -/
theorem d_M_endingsOf_0 : decode prog_14_method_111_code 0 = .ok (.aload_n 0, 1) := by decide +kernel
theorem d_M_endingsOf_1 : decode prog_14_method_111_code 1 = .ok (.iload_n 1, 1) := by decide +kernel
theorem d_M_endingsOf_2 : decode prog_14_method_111_code 2 = .ok (.aload_n 0, 1) := by decide +kernel
theorem d_M_endingsOf_3 : decode prog_14_method_111_code 3 = .ok (.getfield 35, 3) := by decide +kernel
theorem d_M_endingsOf_6 : decode prog_14_method_111_code 6 = .ok (.bipush 9, 2) := by decide +kernel
theorem d_M_endingsOf_8 : decode prog_14_method_111_code 8 = .ok (.iaload, 1) := by decide +kernel
theorem d_M_endingsOf_9 : decode prog_14_method_111_code 9 = .ok (.invokevirtual 403, 3) := by decide +kernel
theorem d_M_endingsOf_12 : decode prog_14_method_111_code 12 = .ok (.lreturn, 1) := by decide +kernel
def M_endingsOf (Y : Ly) (l0 : Nat) (l1 : Int32) (h : Hp) : Option (Int64 × Hp) :=
  if inB 9 (lnY Y (hGr h 1220 l0)) = true then
    (M_laysEndings Y l0 l1 (hAi h (hGr h 1220 l0) (Int32.toNatClampNeg 9)) h).bind fun q3 =>
    some (q3.1, q3.2)
  else none
theorem ok_M_endingsOf (Y : Ly) (l0 : Nat) (l1 : Int32) (h : Hp) (t0 : isO Y 12 l0) : AM Y 3 K_M_endingsOf [.ref l0, .int l1] h (M_endingsOf Y l0 l1 h) rL := by
  refine AM.of rfl (Nat.le_of_ble_eq_true rfl) ?_
  show AW Y 3 K_M_endingsOf 0 [(0, .ref l0), (1, .int l1)] [] h (M_endingsOf Y l0 l1 h) rL
  unfold M_endingsOf
  refine aw_aload_n (pc := 0) d_M_endingsOf_0 rfl 0 rfl ?_
  refine aw_iload_n (pc := 1) d_M_endingsOf_1 rfl 1 rfl ?_
  refine aw_aload_n (pc := 2) d_M_endingsOf_2 rfl 0 rfl ?_
  refine gt_1220 (pc := 3) d_M_endingsOf_3 w7_47 t0 (fun tt1 => ?_)
  refine aw_bipush (pc := 6) (x := 9) d_M_endingsOf_6 (by decide) ?_
  refine aw_iaload (pc := 8) d_M_endingsOf_8 tt1 (fun c2 => ?_)
  refine aw_cVrL (pc := 9) (ci := 12) (T := TX12) (N := 44) (As := [.int l1, .int (hAi h (hGr h 1220 l0) (Int32.toNatClampNeg 9))]) (st := []) (ok_M_laysEndings Y l0 l1 (hAi h (hGr h 1220 l0) (Int32.toNatClampNeg 9)) h t0) okV_M_laysEndings rfl (by decide) t0 w9_142 d_M_endingsOf_9 rfl (Nat.le_of_ble_eq_true rfl) rfl (Nat.le_of_ble_eq_true rfl) (fun q3 hq3 hTq3 => ?_)
  exact aw_lreturn (pc := 12) d_M_endingsOf_12 rfl rfl
/-! LastPagesModel.isBookAt(I)Z -/
theorem d_M_isBookAt_0 : decode prog_14_method_90_code 0 = .ok (.iload_n 1, 1) := by decide +kernel
theorem d_M_isBookAt_1 : decode prog_14_method_90_code 1 = .ok (.i2l, 1) := by decide +kernel
theorem d_M_isBookAt_2 : decode prog_14_method_90_code 2 = .ok (.lconst 0, 1) := by decide +kernel
theorem d_M_isBookAt_3 : decode prog_14_method_90_code 3 = .ok (.aload_n 0, 1) := by decide +kernel
theorem d_M_isBookAt_4 : decode prog_14_method_90_code 4 = .ok (.getfield 35, 3) := by decide +kernel
theorem d_M_isBookAt_7 : decode prog_14_method_90_code 7 = .ok (.iconst 2, 1) := by decide +kernel
theorem d_M_isBookAt_8 : decode prog_14_method_90_code 8 = .ok (.iaload, 1) := by decide +kernel
theorem d_M_isBookAt_9 : decode prog_14_method_90_code 9 = .ok (.iconst 1, 1) := by decide +kernel
theorem d_M_isBookAt_10 : decode prog_14_method_90_code 10 = .ok (.isub, 1) := by decide +kernel
theorem d_M_isBookAt_11 : decode prog_14_method_90_code 11 = .ok (.i2l, 1) := by decide +kernel
theorem d_M_isBookAt_12 : decode prog_14_method_90_code 12 = .ok (.invokestatic 113, 3) := by decide +kernel
theorem d_M_isBookAt_15 : decode prog_14_method_90_code 15 = .ok (.ireturn, 1) := by decide +kernel
def M_isBookAt (Y : Ly) (l0 : Nat) (l1 : Int32) (h : Hp) : Option Bool :=
  if inB 2 (lnY Y (hGr h 1220 l0)) = true then
    (M_isIn Y (Int32.toInt64 l1) 0 (Int32.toInt64 ((hAi h (hGr h 1220 l0) (Int32.toNatClampNeg 2)) - 1)) h).bind fun q3 =>
    some q3
  else none
theorem ok_M_isBookAt (Y : Ly) (l0 : Nat) (l1 : Int32) (h : Hp) (t0 : isO Y 12 l0) : AM Y 1 K_M_isBookAt [.ref l0, .int l1] h (M_isBookAt Y l0 l1 h) (pZ h) := by
  refine AM.of rfl (Nat.le_of_ble_eq_true rfl) ?_
  show AW Y 1 K_M_isBookAt 0 [(0, .ref l0), (1, .int l1)] [] h (M_isBookAt Y l0 l1 h) (pZ h)
  unfold M_isBookAt
  refine aw_iload_n (pc := 0) d_M_isBookAt_0 rfl 1 rfl ?_
  refine aw_i2l (pc := 1) d_M_isBookAt_1 ?_
  refine aw_lconst (pc := 2) (x := 0) d_M_isBookAt_2 (by decide) ?_
  refine aw_aload_n (pc := 3) d_M_isBookAt_3 rfl 0 rfl ?_
  refine gt_1220 (pc := 4) d_M_isBookAt_4 w7_47 t0 (fun tt1 => ?_)
  refine aw_iconst (pc := 7) (x := 2) d_M_isBookAt_7 (by decide) ?_
  refine aw_iaload (pc := 8) d_M_isBookAt_8 tt1 (fun c2 => ?_)
  refine aw_iconst (pc := 9) (x := 1) d_M_isBookAt_9 (by decide) ?_
  refine aw_isub (pc := 10) d_M_isBookAt_10 ?_
  refine aw_i2l (pc := 11) d_M_isBookAt_11 ?_
  refine aw_cSpZ (pc := 12) (As := [.long (Int32.toInt64 l1), .long 0, .long (Int32.toInt64 ((hAi h (hGr h 1220 l0) (Int32.toNatClampNeg 2)) - 1))]) (st := []) (ok_M_isIn Y (Int32.toInt64 l1) 0 (Int32.toInt64 ((hAi h (hGr h 1220 l0) (Int32.toNatClampNeg 2)) - 1)) h) okS_M_isIn w8_155 d_M_isBookAt_12 rfl (Nat.le_of_ble_eq_true rfl) rfl (Nat.le_of_ble_eq_true rfl) (fun q3 hq3 hTq3 => ?_)
  exact aw_zreturn (pc := 15) (b := q3) d_M_isBookAt_15 rfl rfl
/-! LastPagesModel.whyNoBest(I)I -/
theorem d_M_whyNoBest_0 : decode prog_14_method_124_code 0 = .ok (.aload_n 0, 1) := by decide +kernel
theorem d_M_whyNoBest_1 : decode prog_14_method_124_code 1 = .ok (.iload_n 1, 1) := by decide +kernel
theorem d_M_whyNoBest_2 : decode prog_14_method_124_code 2 = .ok (.invokevirtual 382, 3) := by decide +kernel
theorem d_M_whyNoBest_5 : decode prog_14_method_124_code 5 = .ok (.ifCond .ne 7, 3) := by decide +kernel
theorem d_M_whyNoBest_8 : decode prog_14_method_124_code 8 = .ok (.iconst 2, 1) := by decide +kernel
theorem d_M_whyNoBest_9 : decode prog_14_method_124_code 9 = .ok (.goto 19, 3) := by decide +kernel
theorem d_M_whyNoBest_12 : decode prog_14_method_124_code 12 = .ok (.aload_n 0, 1) := by decide +kernel
theorem d_M_whyNoBest_13 : decode prog_14_method_124_code 13 = .ok (.iload_n 1, 1) := by decide +kernel
theorem d_M_whyNoBest_14 : decode prog_14_method_124_code 14 = .ok (.invokevirtual 422, 3) := by decide +kernel
theorem d_M_whyNoBest_17 : decode prog_14_method_124_code 17 = .ok (.lconst 0, 1) := by decide +kernel
theorem d_M_whyNoBest_18 : decode prog_14_method_124_code 18 = .ok (.lcmp, 1) := by decide +kernel
theorem d_M_whyNoBest_19 : decode prog_14_method_124_code 19 = .ok (.ifCond .ne 8, 3) := by decide +kernel
theorem d_M_whyNoBest_22 : decode prog_14_method_124_code 22 = .ok (.bipush 8, 2) := by decide +kernel
theorem d_M_whyNoBest_24 : decode prog_14_method_124_code 24 = .ok (.goto 4, 3) := by decide +kernel
theorem d_M_whyNoBest_27 : decode prog_14_method_124_code 27 = .ok (.iconst 0, 1) := by decide +kernel
theorem d_M_whyNoBest_28 : decode prog_14_method_124_code 28 = .ok (.ireturn, 1) := by decide +kernel
def M_whyNoBest (Y : Ly) (l0 : Nat) (l1 : Int32) (h : Hp) : Option (Int32 × Hp) :=
  (M_isBookAt Y l0 l1 h).bind fun q1 =>
  if q1 = true then
    (M_endingsOf Y l0 l1 h).bind fun q3 =>
    if q3.1 = 0 then
      some (8, q3.2)
    else
      some (0, q3.2)
  else
    some (2, h)
theorem ok_M_whyNoBest (Y : Ly) (l0 : Nat) (l1 : Int32) (h : Hp) (t0 : isO Y 12 l0) : AM Y 4 K_M_whyNoBest [.ref l0, .int l1] h (M_whyNoBest Y l0 l1 h) rI := by
  refine AM.of rfl (Nat.le_of_ble_eq_true rfl) ?_
  show AW Y 4 K_M_whyNoBest 0 [(0, .ref l0), (1, .int l1)] [] h (M_whyNoBest Y l0 l1 h) rI
  unfold M_whyNoBest
  refine aw_aload_n (pc := 0) d_M_whyNoBest_0 rfl 0 rfl ?_
  refine aw_iload_n (pc := 1) d_M_whyNoBest_1 rfl 1 rfl ?_
  refine aw_cVpZ (pc := 2) (ci := 12) (T := TX12) (N := 44) (As := [.int l1]) (st := []) (ok_M_isBookAt Y l0 l1 h t0) okV_M_isBookAt rfl (by decide) t0 w9_40 d_M_whyNoBest_2 rfl (Nat.le_of_ble_eq_true rfl) rfl (Nat.le_of_ble_eq_true rfl) (fun q1 hq1 hTq1 => ?_)
  refine aw_bne (pc := 5) (tgt := 12) d_M_whyNoBest_5 (by decide) (fun c2 => ?_) (fun c2 => ?_)
  · refine aw_aload_n (pc := 12) d_M_whyNoBest_12 rfl 0 rfl ?_
    refine aw_iload_n (pc := 13) d_M_whyNoBest_13 rfl 1 rfl ?_
    refine aw_cVrL (pc := 14) (ci := 12) (T := TX12) (N := 44) (As := [.int l1]) (st := []) (ok_M_endingsOf Y l0 l1 h t0) okV_M_endingsOf rfl (by decide) t0 w9_138 d_M_whyNoBest_14 rfl (Nat.le_of_ble_eq_true rfl) rfl (Nat.le_of_ble_eq_true rfl) (fun q3 hq3 hTq3 => ?_)
    refine aw_lconst (pc := 17) (x := 0) d_M_whyNoBest_17 (by decide) ?_
    refine aw_lcmp_ne (pc := 18) (tgt := 27) d_M_whyNoBest_18 d_M_whyNoBest_19 (by decide) (fun c4 => ?_) (fun c4 => ?_)
    · refine aw_bipush (pc := 22) (x := 8) d_M_whyNoBest_22 (by decide) ?_
      refine aw_goto (pc := 24) (tgt := 28) d_M_whyNoBest_24 (by decide) ?_
      exact aw_ireturn (pc := 28) d_M_whyNoBest_28 rfl rfl
    · refine aw_iconst (pc := 27) (x := 0) d_M_whyNoBest_27 (by decide) ?_
      exact aw_ireturn (pc := 28) d_M_whyNoBest_28 rfl rfl
  · refine aw_iconst (pc := 8) (x := 2) d_M_whyNoBest_8 (by decide) ?_
    refine aw_goto (pc := 9) (tgt := 28) d_M_whyNoBest_9 (by decide) ?_
    exact aw_ireturn (pc := 28) d_M_whyNoBest_28 rfl rfl
/-! LastPagesModel.best(I)I -/
theorem d_M_best_0 : decode prog_14_method_128_code 0 = .ok (.aload_n 0, 1) := by decide +kernel
theorem d_M_best_1 : decode prog_14_method_128_code 1 = .ok (.iconst 0, 1) := by decide +kernel
theorem d_M_best_2 : decode prog_14_method_128_code 2 = .ok (.putfield 78, 3) := by decide +kernel
theorem d_M_best_5 : decode prog_14_method_128_code 5 = .ok (.aload_n 0, 1) := by decide +kernel
theorem d_M_best_6 : decode prog_14_method_128_code 6 = .ok (.aload_n 0, 1) := by decide +kernel
theorem d_M_best_7 : decode prog_14_method_128_code 7 = .ok (.iload_n 1, 1) := by decide +kernel
theorem d_M_best_8 : decode prog_14_method_128_code 8 = .ok (.invokevirtual 435, 3) := by decide +kernel
theorem d_M_best_11 : decode prog_14_method_128_code 11 = .ok (.putfield 81, 3) := by decide +kernel
theorem d_M_best_14 : decode prog_14_method_128_code 14 = .ok (.aload_n 0, 1) := by decide +kernel
theorem d_M_best_15 : decode prog_14_method_128_code 15 = .ok (.getfield 81, 3) := by decide +kernel
theorem d_M_best_18 : decode prog_14_method_128_code 18 = .ok (.ifCond .le 7, 3) := by decide +kernel
theorem d_M_best_21 : decode prog_14_method_128_code 21 = .ok (.iconst (-1), 1) := by decide +kernel
theorem d_M_best_22 : decode prog_14_method_128_code 22 = .ok (.goto 8, 3) := by decide +kernel
theorem d_M_best_25 : decode prog_14_method_128_code 25 = .ok (.aload_n 0, 1) := by decide +kernel
theorem d_M_best_26 : decode prog_14_method_128_code 26 = .ok (.iload_n 1, 1) := by decide +kernel
theorem d_M_best_27 : decode prog_14_method_128_code 27 = .ok (.invokevirtual 438, 3) := by decide +kernel
theorem d_M_best_30 : decode prog_14_method_128_code 30 = .ok (.ireturn, 1) := by decide +kernel
def M_best (Y : Ly) (l0 : Nat) (l1 : Int32) (h : Hp) : Option (Int32 × Hp) :=
  letH (hSi h 1201 l0 0) fun h1 =>
  (M_whyNoBest Y l0 l1 h1).bind fun q2 =>
  letH (hSi q2.2 1200 l0 q2.1) fun h3 =>
  if (hGi h3 1200 l0) ≤ 0 then
    (M_bests Y l0 l1 h3).bind fun q5 =>
    some (q5.1, q5.2)
  else
    some ((-1), h3)
theorem ok_M_best (Y : Ly) (l0 : Nat) (l1 : Int32) (h : Hp) (t0 : isO Y 12 l0) : AM Y 5 K_M_best [.ref l0, .int l1] h (M_best Y l0 l1 h) rI := by
  refine AM.of rfl (Nat.le_of_ble_eq_true rfl) ?_
  show AW Y 5 K_M_best 0 [(0, .ref l0), (1, .int l1)] [] h (M_best Y l0 l1 h) rI
  unfold M_best
  refine aw_aload_n (pc := 0) d_M_best_0 rfl 0 rfl ?_
  refine aw_iconst (pc := 1) (x := 0) d_M_best_1 (by decide) ?_
  refine pt_1201 (pc := 2) d_M_best_2 w7_28 t0 ?_
  refine aw_letH (fun h1 => ?_)
  refine aw_aload_n (pc := 5) d_M_best_5 rfl 0 rfl ?_
  refine aw_aload_n (pc := 6) d_M_best_6 rfl 0 rfl ?_
  refine aw_iload_n (pc := 7) d_M_best_7 rfl 1 rfl ?_
  refine aw_cVrI (pc := 8) (ci := 12) (T := TX12) (N := 44) (As := [.int l1]) (st := [.ref l0]) (ok_M_whyNoBest Y l0 l1 h1 t0) okV_M_whyNoBest rfl (by decide) t0 w9_154 d_M_best_8 rfl (Nat.le_of_ble_eq_true rfl) rfl (Nat.le_of_ble_eq_true rfl) (fun q2 hq2 hTq2 => ?_)
  refine pt_1200 (pc := 11) d_M_best_11 w7_27 t0 ?_
  refine aw_letH (fun h3 => ?_)
  refine aw_aload_n (pc := 14) d_M_best_14 rfl 0 rfl ?_
  refine gt_1200 (pc := 15) d_M_best_15 w7_27 t0 ?_
  refine aw_if_le (pc := 18) (tgt := 25) d_M_best_18 (by decide) (fun c4 => ?_) (fun c4 => ?_)
  · refine aw_aload_n (pc := 25) d_M_best_25 rfl 0 rfl ?_
    refine aw_iload_n (pc := 26) d_M_best_26 rfl 1 rfl ?_
    refine aw_cVrI (pc := 27) (ci := 12) (T := TX12) (N := 44) (As := [.int l1]) (st := []) (ok_M_bests Y l0 l1 h3 t0) okV_M_bests rfl (by decide) t0 w9_158 d_M_best_27 rfl (Nat.le_of_ble_eq_true rfl) rfl (Nat.le_of_ble_eq_true rfl) (fun q5 hq5 hTq5 => ?_)
    exact aw_ireturn (pc := 30) d_M_best_30 rfl rfl
  · refine aw_iconst (pc := 21) (x := (-1)) d_M_best_21 (by decide) ?_
    refine aw_goto (pc := 22) (tgt := 30) d_M_best_22 (by decide) ?_
    exact aw_ireturn (pc := 30) d_M_best_30 rfl rfl
/-! LastPagesModel.isPlace(II)Z -/
theorem d_M_isPlace_0 : decode prog_14_method_129_code 0 = .ok (.iload_n 2, 1) := by decide +kernel
theorem d_M_isPlace_1 : decode prog_14_method_129_code 1 = .ok (.i2l, 1) := by decide +kernel
theorem d_M_isPlace_2 : decode prog_14_method_129_code 2 = .ok (.lconst 1, 1) := by decide +kernel
theorem d_M_isPlace_3 : decode prog_14_method_129_code 3 = .ok (.aload_n 0, 1) := by decide +kernel
theorem d_M_isPlace_4 : decode prog_14_method_129_code 4 = .ok (.getfield 35, 3) := by decide +kernel
theorem d_M_isPlace_7 : decode prog_14_method_129_code 7 = .ok (.bipush 88, 2) := by decide +kernel
theorem d_M_isPlace_9 : decode prog_14_method_129_code 9 = .ok (.iload_n 1, 1) := by decide +kernel
theorem d_M_isPlace_10 : decode prog_14_method_129_code 10 = .ok (.iadd, 1) := by decide +kernel
theorem d_M_isPlace_11 : decode prog_14_method_129_code 11 = .ok (.iaload, 1) := by decide +kernel
theorem d_M_isPlace_12 : decode prog_14_method_129_code 12 = .ok (.i2l, 1) := by decide +kernel
theorem d_M_isPlace_13 : decode prog_14_method_129_code 13 = .ok (.invokestatic 113, 3) := by decide +kernel
theorem d_M_isPlace_16 : decode prog_14_method_129_code 16 = .ok (.ireturn, 1) := by decide +kernel
def M_isPlace (Y : Ly) (l0 : Nat) (l1 : Int32) (l2 : Int32) (h : Hp) : Option Bool :=
  if inB (88 + l1) (lnY Y (hGr h 1220 l0)) = true then
    (M_isIn Y (Int32.toInt64 l2) 1 (Int32.toInt64 (hAi h (hGr h 1220 l0) (Int32.toNatClampNeg (88 + l1)))) h).bind fun q3 =>
    some q3
  else none
theorem ok_M_isPlace (Y : Ly) (l0 : Nat) (l1 : Int32) (l2 : Int32) (h : Hp) (t0 : isO Y 12 l0) : AM Y 1 K_M_isPlace [.ref l0, .int l1, .int l2] h (M_isPlace Y l0 l1 l2 h) (pZ h) := by
  refine AM.of rfl (Nat.le_of_ble_eq_true rfl) ?_
  show AW Y 1 K_M_isPlace 0 [(0, .ref l0), (1, .int l1), (2, .int l2)] [] h (M_isPlace Y l0 l1 l2 h) (pZ h)
  unfold M_isPlace
  refine aw_iload_n (pc := 0) d_M_isPlace_0 rfl 2 rfl ?_
  refine aw_i2l (pc := 1) d_M_isPlace_1 ?_
  refine aw_lconst (pc := 2) (x := 1) d_M_isPlace_2 (by decide) ?_
  refine aw_aload_n (pc := 3) d_M_isPlace_3 rfl 0 rfl ?_
  refine gt_1220 (pc := 4) d_M_isPlace_4 w7_47 t0 (fun tt1 => ?_)
  refine aw_bipush (pc := 7) (x := 88) d_M_isPlace_7 (by decide) ?_
  refine aw_iload_n (pc := 9) d_M_isPlace_9 rfl 1 rfl ?_
  refine aw_iadd (pc := 10) d_M_isPlace_10 ?_
  refine aw_iaload (pc := 11) d_M_isPlace_11 tt1 (fun c2 => ?_)
  refine aw_i2l (pc := 12) d_M_isPlace_12 ?_
  refine aw_cSpZ (pc := 13) (As := [.long (Int32.toInt64 l2), .long 1, .long (Int32.toInt64 (hAi h (hGr h 1220 l0) (Int32.toNatClampNeg (88 + l1))))]) (st := []) (ok_M_isIn Y (Int32.toInt64 l2) 1 (Int32.toInt64 (hAi h (hGr h 1220 l0) (Int32.toNatClampNeg (88 + l1)))) h) okS_M_isIn w8_155 d_M_isPlace_13 rfl (Nat.le_of_ble_eq_true rfl) rfl (Nat.le_of_ble_eq_true rfl) (fun q3 hq3 hTq3 => ?_)
  exact aw_zreturn (pc := 16) (b := q3) d_M_isPlace_16 rfl rfl
/-! LastPagesModel.bestAt(II)I -/
theorem d_M_bestAt_0 : decode prog_14_method_130_code 0 = .ok (.aload_n 0, 1) := by decide +kernel
theorem d_M_bestAt_1 : decode prog_14_method_130_code 1 = .ok (.iconst 0, 1) := by decide +kernel
theorem d_M_bestAt_2 : decode prog_14_method_130_code 2 = .ok (.putfield 78, 3) := by decide +kernel
theorem d_M_bestAt_5 : decode prog_14_method_130_code 5 = .ok (.aload_n 0, 1) := by decide +kernel
theorem d_M_bestAt_6 : decode prog_14_method_130_code 6 = .ok (.aload_n 0, 1) := by decide +kernel
theorem d_M_bestAt_7 : decode prog_14_method_130_code 7 = .ok (.iload_n 1, 1) := by decide +kernel
theorem d_M_bestAt_8 : decode prog_14_method_130_code 8 = .ok (.invokevirtual 382, 3) := by decide +kernel
theorem d_M_bestAt_11 : decode prog_14_method_130_code 11 = .ok (.ifCond .eq 16, 3) := by decide +kernel
theorem d_M_bestAt_14 : decode prog_14_method_130_code 14 = .ok (.aload_n 0, 1) := by decide +kernel
theorem d_M_bestAt_15 : decode prog_14_method_130_code 15 = .ok (.iload_n 1, 1) := by decide +kernel
theorem d_M_bestAt_16 : decode prog_14_method_130_code 16 = .ok (.iload_n 2, 1) := by decide +kernel
theorem d_M_bestAt_17 : decode prog_14_method_130_code 17 = .ok (.invokevirtual 441, 3) := by decide +kernel
theorem d_M_bestAt_20 : decode prog_14_method_130_code 20 = .ok (.ifCond .ne 7, 3) := by decide +kernel
theorem d_M_bestAt_23 : decode prog_14_method_130_code 23 = .ok (.iconst 5, 1) := by decide +kernel
theorem d_M_bestAt_24 : decode prog_14_method_130_code 24 = .ok (.goto 8, 3) := by decide +kernel
theorem d_M_bestAt_27 : decode prog_14_method_130_code 27 = .ok (.aload_n 0, 1) := by decide +kernel
theorem d_M_bestAt_28 : decode prog_14_method_130_code 28 = .ok (.iload_n 1, 1) := by decide +kernel
theorem d_M_bestAt_29 : decode prog_14_method_130_code 29 = .ok (.invokevirtual 435, 3) := by decide +kernel
theorem d_M_bestAt_32 : decode prog_14_method_130_code 32 = .ok (.putfield 81, 3) := by decide +kernel
theorem d_M_bestAt_35 : decode prog_14_method_130_code 35 = .ok (.aload_n 0, 1) := by decide +kernel
theorem d_M_bestAt_36 : decode prog_14_method_130_code 36 = .ok (.getfield 81, 3) := by decide +kernel
theorem d_M_bestAt_39 : decode prog_14_method_130_code 39 = .ok (.ifCond .le 5, 3) := by decide +kernel
theorem d_M_bestAt_42 : decode prog_14_method_130_code 42 = .ok (.iconst (-1), 1) := by decide +kernel
theorem d_M_bestAt_43 : decode prog_14_method_130_code 43 = .ok (.ireturn, 1) := by decide +kernel
theorem d_M_bestAt_44 : decode prog_14_method_130_code 44 = .ok (.aload_n 0, 1) := by decide +kernel
theorem d_M_bestAt_45 : decode prog_14_method_130_code 45 = .ok (.iload_n 1, 1) := by decide +kernel
theorem d_M_bestAt_46 : decode prog_14_method_130_code 46 = .ok (.invokevirtual 438, 3) := by decide +kernel
theorem d_M_bestAt_49 : decode prog_14_method_130_code 49 = .ok (.pop, 1) := by decide +kernel
theorem d_M_bestAt_50 : decode prog_14_method_130_code 50 = .ok (.aload_n 0, 1) := by decide +kernel
theorem d_M_bestAt_51 : decode prog_14_method_130_code 51 = .ok (.getfield 59, 3) := by decide +kernel
theorem d_M_bestAt_54 : decode prog_14_method_130_code 54 = .ok (.iload_n 2, 1) := by decide +kernel
theorem d_M_bestAt_55 : decode prog_14_method_130_code 55 = .ok (.iaload, 1) := by decide +kernel
theorem d_M_bestAt_56 : decode prog_14_method_130_code 56 = .ok (.ireturn, 1) := by decide +kernel
def M_bestAt_J32 (Y : Ly) (l0 : Nat) (l1 : Int32) (l2 : Int32) (s0 : Int32) (s1 : Nat) (h : Hp) : Option (Int32 × Hp) :=
  letH (hSi h 1200 s1 s0) fun h7 =>
  if (hGi h7 1200 l0) ≤ 0 then
    (M_bests Y l0 l1 h7).bind fun q9 =>
    if inB l2 (lnY Y (hGr q9.2 1230 l0)) = true then
      some (hAi q9.2 (hGr q9.2 1230 l0) (Int32.toNatClampNeg l2), q9.2)
    else none
  else
    some ((-1), h7)
theorem M_bestAt_J32_ok (Y : Ly) (l0 : Nat) (l1 : Int32) (l2 : Int32) (s0 : Int32) (s1 : Nat) (h : Hp) (tl0 : isO Y 12 l0) (ts1 : isO Y 12 s1) : AW Y 5 K_M_bestAt 32 [(0, .ref l0), (1, .int l1), (2, .int l2)] [.int s0, .ref s1] h (M_bestAt_J32 Y l0 l1 l2 s0 s1 h) rI := by
  unfold M_bestAt_J32
  refine pt_1200 (pc := 32) d_M_bestAt_32 w7_27 ts1 ?_
  refine aw_letH (fun h7 => ?_)
  refine aw_aload_n (pc := 35) d_M_bestAt_35 rfl 0 rfl ?_
  refine gt_1200 (pc := 36) d_M_bestAt_36 w7_27 tl0 ?_
  refine aw_if_le (pc := 39) (tgt := 44) d_M_bestAt_39 (by decide) (fun c8 => ?_) (fun c8 => ?_)
  · refine aw_aload_n (pc := 44) d_M_bestAt_44 rfl 0 rfl ?_
    refine aw_iload_n (pc := 45) d_M_bestAt_45 rfl 1 rfl ?_
    refine aw_cVrI (pc := 46) (ci := 12) (T := TX12) (N := 44) (As := [.int l1]) (st := []) (ok_M_bests Y l0 l1 h7 tl0) okV_M_bests rfl (by decide) tl0 w9_158 d_M_bestAt_46 rfl (Nat.le_of_ble_eq_true rfl) rfl (Nat.le_of_ble_eq_true rfl) (fun q9 hq9 hTq9 => ?_)
    refine aw_pop (pc := 49) d_M_bestAt_49 rfl ?_
    refine aw_aload_n (pc := 50) d_M_bestAt_50 rfl 0 rfl ?_
    refine gt_1230 (pc := 51) d_M_bestAt_51 w7_57 tl0 (fun tt10 => ?_)
    refine aw_iload_n (pc := 54) d_M_bestAt_54 rfl 2 rfl ?_
    refine aw_iaload (pc := 55) d_M_bestAt_55 tt10 (fun c11 => ?_)
    exact aw_ireturn (pc := 56) d_M_bestAt_56 rfl rfl
  · refine aw_iconst (pc := 42) (x := (-1)) d_M_bestAt_42 (by decide) ?_
    exact aw_ireturn (pc := 43) d_M_bestAt_43 rfl rfl
def M_bestAt_J27 (Y : Ly) (l0 : Nat) (l1 : Int32) (l2 : Int32) (s0 : Nat) (h : Hp) : Option (Int32 × Hp) :=
  (M_whyNoBest Y l0 l1 h).bind fun q6 =>
  M_bestAt_J32 Y l0 l1 l2 q6.1 s0 q6.2
theorem M_bestAt_J27_ok (Y : Ly) (l0 : Nat) (l1 : Int32) (l2 : Int32) (s0 : Nat) (h : Hp) (tl0 : isO Y 12 l0) (ts0 : isO Y 12 s0) : AW Y 5 K_M_bestAt 27 [(0, .ref l0), (1, .int l1), (2, .int l2)] [.ref s0] h (M_bestAt_J27 Y l0 l1 l2 s0 h) rI := by
  unfold M_bestAt_J27
  refine aw_aload_n (pc := 27) d_M_bestAt_27 rfl 0 rfl ?_
  refine aw_iload_n (pc := 28) d_M_bestAt_28 rfl 1 rfl ?_
  refine aw_cVrI (pc := 29) (ci := 12) (T := TX12) (N := 44) (As := [.int l1]) (st := [.ref s0]) (ok_M_whyNoBest Y l0 l1 h tl0) okV_M_whyNoBest rfl (by decide) tl0 w9_154 d_M_bestAt_29 rfl (Nat.le_of_ble_eq_true rfl) rfl (Nat.le_of_ble_eq_true rfl) (fun q6 hq6 hTq6 => ?_)
  exact aw_lv [0, 1, 2] rfl (M_bestAt_J32_ok Y l0 l1 l2 q6.1 s0 q6.2 tl0 ts0)
def M_bestAt (Y : Ly) (l0 : Nat) (l1 : Int32) (l2 : Int32) (h : Hp) : Option (Int32 × Hp) :=
  letH (hSi h 1201 l0 0) fun h1 =>
  (M_isBookAt Y l0 l1 h1).bind fun q2 =>
  if q2 = true then
    (M_isPlace Y l0 l1 l2 h1).bind fun q4 =>
    if q4 = true then
      M_bestAt_J27 Y l0 l1 l2 l0 h1
    else
      M_bestAt_J32 Y l0 l1 l2 5 l0 h1
  else
    M_bestAt_J27 Y l0 l1 l2 l0 h1
theorem ok_M_bestAt (Y : Ly) (l0 : Nat) (l1 : Int32) (l2 : Int32) (h : Hp) (t0 : isO Y 12 l0) : AM Y 5 K_M_bestAt [.ref l0, .int l1, .int l2] h (M_bestAt Y l0 l1 l2 h) rI := by
  refine AM.of rfl (Nat.le_of_ble_eq_true rfl) ?_
  show AW Y 5 K_M_bestAt 0 [(0, .ref l0), (1, .int l1), (2, .int l2)] [] h (M_bestAt Y l0 l1 l2 h) rI
  unfold M_bestAt
  refine aw_aload_n (pc := 0) d_M_bestAt_0 rfl 0 rfl ?_
  refine aw_iconst (pc := 1) (x := 0) d_M_bestAt_1 (by decide) ?_
  refine pt_1201 (pc := 2) d_M_bestAt_2 w7_28 t0 ?_
  refine aw_letH (fun h1 => ?_)
  refine aw_aload_n (pc := 5) d_M_bestAt_5 rfl 0 rfl ?_
  refine aw_aload_n (pc := 6) d_M_bestAt_6 rfl 0 rfl ?_
  refine aw_iload_n (pc := 7) d_M_bestAt_7 rfl 1 rfl ?_
  refine aw_cVpZ (pc := 8) (ci := 12) (T := TX12) (N := 44) (As := [.int l1]) (st := [.ref l0]) (ok_M_isBookAt Y l0 l1 h1 t0) okV_M_isBookAt rfl (by decide) t0 w9_40 d_M_bestAt_8 rfl (Nat.le_of_ble_eq_true rfl) rfl (Nat.le_of_ble_eq_true rfl) (fun q2 hq2 hTq2 => ?_)
  refine aw_beq (pc := 11) (tgt := 27) d_M_bestAt_11 (by decide) (fun c3 => ?_) (fun c3 => ?_)
  · refine aw_aload_n (pc := 14) d_M_bestAt_14 rfl 0 rfl ?_
    refine aw_iload_n (pc := 15) d_M_bestAt_15 rfl 1 rfl ?_
    refine aw_iload_n (pc := 16) d_M_bestAt_16 rfl 2 rfl ?_
    refine aw_cVpZ (pc := 17) (ci := 12) (T := TX12) (N := 44) (As := [.int l1, .int l2]) (st := [.ref l0]) (ok_M_isPlace Y l0 l1 l2 h1 t0) okV_M_isPlace rfl (by decide) t0 w9_175 d_M_bestAt_17 rfl (Nat.le_of_ble_eq_true rfl) rfl (Nat.le_of_ble_eq_true rfl) (fun q4 hq4 hTq4 => ?_)
    refine aw_bne (pc := 20) (tgt := 27) d_M_bestAt_20 (by decide) (fun c5 => ?_) (fun c5 => ?_)
    · exact aw_lv [0, 1, 2] rfl (M_bestAt_J27_ok Y l0 l1 l2 l0 h1 t0 t0)
    · refine aw_iconst (pc := 23) (x := 5) d_M_bestAt_23 (by decide) ?_
      refine aw_goto (pc := 24) (tgt := 32) d_M_bestAt_24 (by decide) ?_
      exact aw_lv [0, 1, 2] rfl (M_bestAt_J32_ok Y l0 l1 l2 5 l0 h1 t0 t0)
  · exact aw_lv [0, 1, 2] rfl (M_bestAt_J27_ok Y l0 l1 l2 l0 h1 t0 t0)
/-! LastPagesModel.holderOf(I)I -/
theorem d_M_holderOf_0 : decode prog_14_method_114_code 0 = .ok (.iconst 0, 1) := by decide +kernel
theorem d_M_holderOf_1 : decode prog_14_method_114_code 1 = .ok (.istore_n 2, 1) := by decide +kernel
theorem d_M_holderOf_2 : decode prog_14_method_114_code 2 = .ok (.iload_n 2, 1) := by decide +kernel
theorem d_M_holderOf_3 : decode prog_14_method_114_code 3 = .ok (.aload_n 0, 1) := by decide +kernel
theorem d_M_holderOf_4 : decode prog_14_method_114_code 4 = .ok (.getfield 35, 3) := by decide +kernel
theorem d_M_holderOf_7 : decode prog_14_method_114_code 7 = .ok (.iconst 2, 1) := by decide +kernel
theorem d_M_holderOf_8 : decode prog_14_method_114_code 8 = .ok (.iaload, 1) := by decide +kernel
theorem d_M_holderOf_9 : decode prog_14_method_114_code 9 = .ok (.if_icmp .ge 24, 3) := by decide +kernel
theorem d_M_holderOf_12 : decode prog_14_method_114_code 12 = .ok (.aload_n 0, 1) := by decide +kernel
theorem d_M_holderOf_13 : decode prog_14_method_114_code 13 = .ok (.getfield 35, 3) := by decide +kernel
theorem d_M_holderOf_16 : decode prog_14_method_114_code 16 = .ok (.bipush 100, 2) := by decide +kernel
theorem d_M_holderOf_18 : decode prog_14_method_114_code 18 = .ok (.iload_n 2, 1) := by decide +kernel
theorem d_M_holderOf_19 : decode prog_14_method_114_code 19 = .ok (.iadd, 1) := by decide +kernel
theorem d_M_holderOf_20 : decode prog_14_method_114_code 20 = .ok (.iaload, 1) := by decide +kernel
theorem d_M_holderOf_21 : decode prog_14_method_114_code 21 = .ok (.iload_n 1, 1) := by decide +kernel
theorem d_M_holderOf_22 : decode prog_14_method_114_code 22 = .ok (.if_icmp .ne 5, 3) := by decide +kernel
theorem d_M_holderOf_25 : decode prog_14_method_114_code 25 = .ok (.iload_n 2, 1) := by decide +kernel
theorem d_M_holderOf_26 : decode prog_14_method_114_code 26 = .ok (.ireturn, 1) := by decide +kernel
theorem d_M_holderOf_27 : decode prog_14_method_114_code 27 = .ok (.iinc 2 1, 3) := by decide +kernel
theorem d_M_holderOf_30 : decode prog_14_method_114_code 30 = .ok (.goto (-28), 3) := by decide +kernel
theorem d_M_holderOf_33 : decode prog_14_method_114_code 33 = .ok (.iconst (-1), 1) := by decide +kernel
theorem d_M_holderOf_34 : decode prog_14_method_114_code 34 = .ok (.ireturn, 1) := by decide +kernel
def M_holderOf_L2 (Y : Ly) (l0 : Nat) (l1 : Int32) (h : Hp) : Nat → Int32 → Option Int32
  | 0, _ => none
  | F + 1, l2 =>
    if inB 2 (lnY Y (hGr h 1220 l0)) = true then
      if (hAi h (hGr h 1220 l0) (Int32.toNatClampNeg 2)) ≤ l2 then
        some (-1)
      else
        if inB (100 + l2) (lnY Y (hGr h 1220 l0)) = true then
          if (hAi h (hGr h 1220 l0) (Int32.toNatClampNeg (100 + l2))) = l1 then
            some l2
          else
            M_holderOf_L2 Y l0 l1 h F (l2 + 1)
        else none
    else none
theorem M_holderOf_L2_ok (Y : Ly) (l0 : Nat) (l1 : Int32) (h : Hp) (tl0 : isO Y 12 l0) : ∀ (F : Nat) (l2 : Int32), AW Y 0 K_M_holderOf 2 [(0, .ref l0), (1, .int l1), (2, .int l2)] [] h (M_holderOf_L2 Y l0 l1 h F l2) (pI h) := by
  intro F
  induction F with
  | zero =>
    intro l2
    exact aw_none
  | succ F ih =>
    intro l2
    unfold M_holderOf_L2
    refine aw_iload_n (pc := 2) d_M_holderOf_2 rfl 2 rfl ?_
    refine aw_aload_n (pc := 3) d_M_holderOf_3 rfl 0 rfl ?_
    refine gt_1220 (pc := 4) d_M_holderOf_4 w7_47 tl0 (fun tt1 => ?_)
    refine aw_iconst (pc := 7) (x := 2) d_M_holderOf_7 (by decide) ?_
    refine aw_iaload (pc := 8) d_M_holderOf_8 tt1 (fun c2 => ?_)
    refine aw_icmp_ge (pc := 9) (tgt := 33) d_M_holderOf_9 (by decide) (fun c3 => ?_) (fun c3 => ?_)
    · refine aw_iconst (pc := 33) (x := (-1)) d_M_holderOf_33 (by decide) ?_
      exact aw_ireturn (pc := 34) d_M_holderOf_34 rfl rfl
    · refine aw_aload_n (pc := 12) d_M_holderOf_12 rfl 0 rfl ?_
      refine gt_1220 (pc := 13) d_M_holderOf_13 w7_47 tl0 (fun tt4 => ?_)
      refine aw_bipush (pc := 16) (x := 100) d_M_holderOf_16 (by decide) ?_
      refine aw_iload_n (pc := 18) d_M_holderOf_18 rfl 2 rfl ?_
      refine aw_iadd (pc := 19) d_M_holderOf_19 ?_
      refine aw_iaload (pc := 20) d_M_holderOf_20 tt4 (fun c5 => ?_)
      refine aw_iload_n (pc := 21) d_M_holderOf_21 rfl 1 rfl ?_
      refine aw_icmp_ne (pc := 22) (tgt := 27) d_M_holderOf_22 (by decide) (fun c6 => ?_) (fun c6 => ?_)
      · refine aw_iload_n (pc := 25) d_M_holderOf_25 rfl 2 rfl ?_
        exact aw_ireturn (pc := 26) d_M_holderOf_26 rfl rfl
      · refine aw_iinc (pc := 27) (w := l2 + 1) (lv' := [(2, .int (l2 + 1)), (0, .ref l0), (1, .int l1)]) d_M_holderOf_27 2 rfl rfl (by decide) rfl ?_
        refine aw_goto (pc := 30) (tgt := 2) d_M_holderOf_30 (by decide) ?_
        exact aw_lv [1, 2, 0] rfl (ih (l2 + 1))
def M_holderOf (Y : Ly) (l0 : Nat) (l1 : Int32) (h : Hp) : Option Int32 :=
  M_holderOf_L2 Y l0 l1 h FU 0
theorem ok_M_holderOf (Y : Ly) (l0 : Nat) (l1 : Int32) (h : Hp) (t0 : isO Y 12 l0) : AM Y 0 K_M_holderOf [.ref l0, .int l1] h (M_holderOf Y l0 l1 h) (pI h) := by
  refine AM.of rfl (Nat.le_of_ble_eq_true rfl) ?_
  show AW Y 0 K_M_holderOf 0 [(0, .ref l0), (1, .int l1)] [] h (M_holderOf Y l0 l1 h) (pI h)
  unfold M_holderOf
  refine aw_iconst (pc := 0) (x := 0) d_M_holderOf_0 (by decide) ?_
  refine aw_istore_n (pc := 1) (lv' := [(2, .int 0), (0, .ref l0), (1, .int l1)]) d_M_holderOf_1 rfl (by decide) rfl ?_
  exact aw_lv [1, 2, 0] rfl (M_holderOf_L2_ok Y l0 l1 h t0 FU 0)
/-! LastPagesModel.leads(I[II)Z -/
theorem d_M_leads_0 : decode prog_14_method_112_code 0 = .ok (.aload_n 0, 1) := by decide +kernel
theorem d_M_leads_1 : decode prog_14_method_112_code 1 = .ok (.iload_n 1, 1) := by decide +kernel
theorem d_M_leads_2 : decode prog_14_method_112_code 2 = .ok (.invokevirtual 387, 3) := by decide +kernel
theorem d_M_leads_5 : decode prog_14_method_112_code 5 = .ok (.istore 4, 2) := by decide +kernel
theorem d_M_leads_7 : decode prog_14_method_112_code 7 = .ok (.iconst 1, 1) := by decide +kernel
theorem d_M_leads_8 : decode prog_14_method_112_code 8 = .ok (.istore 5, 2) := by decide +kernel
theorem d_M_leads_10 : decode prog_14_method_112_code 10 = .ok (.iload 5, 2) := by decide +kernel
theorem d_M_leads_12 : decode prog_14_method_112_code 12 = .ok (.aload_n 0, 1) := by decide +kernel
theorem d_M_leads_13 : decode prog_14_method_112_code 13 = .ok (.getfield 35, 3) := by decide +kernel
theorem d_M_leads_16 : decode prog_14_method_112_code 16 = .ok (.bipush 88, 2) := by decide +kernel
theorem d_M_leads_18 : decode prog_14_method_112_code 18 = .ok (.iload_n 1, 1) := by decide +kernel
theorem d_M_leads_19 : decode prog_14_method_112_code 19 = .ok (.iadd, 1) := by decide +kernel
theorem d_M_leads_20 : decode prog_14_method_112_code 20 = .ok (.iaload, 1) := by decide +kernel
theorem d_M_leads_21 : decode prog_14_method_112_code 21 = .ok (.if_icmp .gt 65, 3) := by decide +kernel
theorem d_M_leads_24 : decode prog_14_method_112_code 24 = .ok (.iload 4, 2) := by decide +kernel
theorem d_M_leads_26 : decode prog_14_method_112_code 26 = .ok (.ifCond .lt 60, 3) := by decide +kernel
theorem d_M_leads_29 : decode prog_14_method_112_code 29 = .ok (.aload_n 2, 1) := by decide +kernel
theorem d_M_leads_30 : decode prog_14_method_112_code 30 = .ok (.iload_n 3, 1) := by decide +kernel
theorem d_M_leads_31 : decode prog_14_method_112_code 31 = .ok (.iload 5, 2) := by decide +kernel
theorem d_M_leads_33 : decode prog_14_method_112_code 33 = .ok (.iadd, 1) := by decide +kernel
theorem d_M_leads_34 : decode prog_14_method_112_code 34 = .ok (.iconst 1, 1) := by decide +kernel
theorem d_M_leads_35 : decode prog_14_method_112_code 35 = .ok (.isub, 1) := by decide +kernel
theorem d_M_leads_36 : decode prog_14_method_112_code 36 = .ok (.iaload, 1) := by decide +kernel
theorem d_M_leads_37 : decode prog_14_method_112_code 37 = .ok (.istore 6, 2) := by decide +kernel
theorem d_M_leads_39 : decode prog_14_method_112_code 39 = .ok (.aload_n 0, 1) := by decide +kernel
theorem d_M_leads_40 : decode prog_14_method_112_code 40 = .ok (.iload_n 1, 1) := by decide +kernel
theorem d_M_leads_41 : decode prog_14_method_112_code 41 = .ok (.iload 5, 2) := by decide +kernel
theorem d_M_leads_43 : decode prog_14_method_112_code 43 = .ok (.iload 6, 2) := by decide +kernel
theorem d_M_leads_45 : decode prog_14_method_112_code 45 = .ok (.aload_n 0, 1) := by decide +kernel
theorem d_M_leads_46 : decode prog_14_method_112_code 46 = .ok (.getfield 35, 3) := by decide +kernel
theorem d_M_leads_49 : decode prog_14_method_112_code 49 = .ok (.bipush 9, 2) := by decide +kernel
theorem d_M_leads_51 : decode prog_14_method_112_code 51 = .ok (.iaload, 1) := by decide +kernel
theorem d_M_leads_52 : decode prog_14_method_112_code 52 = .ok (.invokevirtual 399, 3) := by decide +kernel
theorem d_M_leads_55 : decode prog_14_method_112_code 55 = .ok (.ifCond .eq 7, 3) := by decide +kernel
theorem d_M_leads_58 : decode prog_14_method_112_code 58 = .ok (.iconst (-1), 1) := by decide +kernel
theorem d_M_leads_59 : decode prog_14_method_112_code 59 = .ok (.goto 19, 3) := by decide +kernel
theorem d_M_leads_62 : decode prog_14_method_112_code 62 = .ok (.aload_n 0, 1) := by decide +kernel
theorem d_M_leads_63 : decode prog_14_method_112_code 63 = .ok (.getfield 35, 3) := by decide +kernel
theorem d_M_leads_66 : decode prog_14_method_112_code 66 = .ok (.bipush 18, 2) := by decide +kernel
theorem d_M_leads_68 : decode prog_14_method_112_code 68 = .ok (.bipush 8, 2) := by decide +kernel
theorem d_M_leads_70 : decode prog_14_method_112_code 70 = .ok (.iload 4, 2) := by decide +kernel
theorem d_M_leads_72 : decode prog_14_method_112_code 72 = .ok (.imul, 1) := by decide +kernel
theorem d_M_leads_73 : decode prog_14_method_112_code 73 = .ok (.iadd, 1) := by decide +kernel
theorem d_M_leads_74 : decode prog_14_method_112_code 74 = .ok (.iload 6, 2) := by decide +kernel
theorem d_M_leads_76 : decode prog_14_method_112_code 76 = .ok (.iadd, 1) := by decide +kernel
theorem d_M_leads_77 : decode prog_14_method_112_code 77 = .ok (.iaload, 1) := by decide +kernel
theorem d_M_leads_78 : decode prog_14_method_112_code 78 = .ok (.istore 4, 2) := by decide +kernel
theorem d_M_leads_80 : decode prog_14_method_112_code 80 = .ok (.iinc 5 1, 3) := by decide +kernel
theorem d_M_leads_83 : decode prog_14_method_112_code 83 = .ok (.goto (-73), 3) := by decide +kernel
theorem d_M_leads_86 : decode prog_14_method_112_code 86 = .ok (.iload 4, 2) := by decide +kernel
theorem d_M_leads_88 : decode prog_14_method_112_code 88 = .ok (.ifCond .lt 22, 3) := by decide +kernel
theorem d_M_leads_91 : decode prog_14_method_112_code 91 = .ok (.aload_n 0, 1) := by decide +kernel
theorem d_M_leads_92 : decode prog_14_method_112_code 92 = .ok (.getfield 35, 3) := by decide +kernel
theorem d_M_leads_95 : decode prog_14_method_112_code 95 = .ok (.bipush 8, 2) := by decide +kernel
theorem d_M_leads_97 : decode prog_14_method_112_code 97 = .ok (.iaload, 1) := by decide +kernel
theorem d_M_leads_98 : decode prog_14_method_112_code 98 = .ok (.iload 4, 2) := by decide +kernel
theorem d_M_leads_100 : decode prog_14_method_112_code 100 = .ok (.invokestatic 117, 3) := by decide +kernel
theorem d_M_leads_103 : decode prog_14_method_112_code 103 = .ok (.ifCond .eq 7, 3) := by decide +kernel
theorem d_M_leads_106 : decode prog_14_method_112_code 106 = .ok (.iconst 1, 1) := by decide +kernel
theorem d_M_leads_107 : decode prog_14_method_112_code 107 = .ok (.goto 4, 3) := by decide +kernel
theorem d_M_leads_110 : decode prog_14_method_112_code 110 = .ok (.iconst 0, 1) := by decide +kernel
theorem d_M_leads_111 : decode prog_14_method_112_code 111 = .ok (.ireturn, 1) := by decide +kernel
def M_leads_J86 (Y : Ly) (l0 : Nat) (l4 : Int32) (h : Hp) : Option Bool :=
  if l4 < 0 then
    some false
  else
    if inB 8 (lnY Y (hGr h 1220 l0)) = true then
      (M_has Y (hAi h (hGr h 1220 l0) (Int32.toNatClampNeg 8)) l4 h).bind fun q8 =>
      if q8 = true then
        some true
      else
        some false
    else none
theorem M_leads_J86_ok (Y : Ly) (l0 : Nat) (l4 : Int32) (h : Hp) (tl0 : isO Y 12 l0) : AW Y 2 K_M_leads 86 [(0, .ref l0), (4, .int l4)] [] h (M_leads_J86 Y l0 l4 h) (pZ h) := by
  unfold M_leads_J86
  refine aw_iload (pc := 86) d_M_leads_86 1 rfl ?_
  refine aw_if_lt (pc := 88) (tgt := 110) d_M_leads_88 (by decide) (fun c5 => ?_) (fun c5 => ?_)
  · refine aw_iconst (pc := 110) (x := 0) d_M_leads_110 (by decide) ?_
    exact aw_zreturn (pc := 111) (b := false) d_M_leads_111 rfl rfl
  · refine aw_aload_n (pc := 91) d_M_leads_91 rfl 0 rfl ?_
    refine gt_1220 (pc := 92) d_M_leads_92 w7_47 tl0 (fun tt6 => ?_)
    refine aw_bipush (pc := 95) (x := 8) d_M_leads_95 (by decide) ?_
    refine aw_iaload (pc := 97) d_M_leads_97 tt6 (fun c7 => ?_)
    refine aw_iload (pc := 98) d_M_leads_98 1 rfl ?_
    refine aw_cSpZ (pc := 100) (As := [.int (hAi h (hGr h 1220 l0) (Int32.toNatClampNeg 8)), .int l4]) (st := []) (ok_M_has Y (hAi h (hGr h 1220 l0) (Int32.toNatClampNeg 8)) l4 h) okS_M_has w9_110 d_M_leads_100 rfl (Nat.le_of_ble_eq_true rfl) rfl (Nat.le_of_ble_eq_true rfl) (fun q8 hq8 hTq8 => ?_)
    refine aw_beq (pc := 103) (tgt := 110) d_M_leads_103 (by decide) (fun c9 => ?_) (fun c9 => ?_)
    · refine aw_iconst (pc := 106) (x := 1) d_M_leads_106 (by decide) ?_
      refine aw_goto (pc := 107) (tgt := 111) d_M_leads_107 (by decide) ?_
      exact aw_zreturn (pc := 111) (b := true) d_M_leads_111 rfl rfl
    · refine aw_iconst (pc := 110) (x := 0) d_M_leads_110 (by decide) ?_
      exact aw_zreturn (pc := 111) (b := false) d_M_leads_111 rfl rfl
def M_leads_L10 (Y : Ly) (l0 : Nat) (l1 : Int32) (l2 : Nat) (l3 : Int32) (h : Hp) : Nat → Int32 → Int32 → Option Bool
  | 0, _, _ => none
  | F + 1, l4, l5 =>
    if inB (88 + l1) (lnY Y (hGr h 1220 l0)) = true then
      if (hAi h (hGr h 1220 l0) (Int32.toNatClampNeg (88 + l1))) < l5 then
        M_leads_J86 Y l0 l4 h
      else
        if l4 < 0 then
          M_leads_J86 Y l0 l4 h
        else
          if inB ((l3 + l5) - 1) (lnY Y l2) = true then
            if inB 9 (lnY Y (hGr h 1220 l0)) = true then
              (M_isBarred Y l0 l1 l5 (hAi h l2 (Int32.toNatClampNeg ((l3 + l5) - 1))) (hAi h (hGr h 1220 l0) (Int32.toNatClampNeg 9)) h).bind fun q14 =>
              if q14 = true then
                M_leads_L10 Y l0 l1 l2 l3 h F (-1) (l5 + 1)
              else
                if inB ((18 + (8 * l4)) + (hAi h l2 (Int32.toNatClampNeg ((l3 + l5) - 1)))) (lnY Y (hGr h 1220 l0)) = true then
                  M_leads_L10 Y l0 l1 l2 l3 h F (hAi h (hGr h 1220 l0) (Int32.toNatClampNeg ((18 + (8 * l4)) + (hAi h l2 (Int32.toNatClampNeg ((l3 + l5) - 1)))))) (l5 + 1)
                else none
            else none
          else none
    else none
theorem M_leads_L10_ok (Y : Ly) (l0 : Nat) (l1 : Int32) (l2 : Nat) (l3 : Int32) (h : Hp) (tl0 : isO Y 12 l0) (tl2 : isO Y 20 l2) : ∀ (F : Nat) (l4 : Int32) (l5 : Int32), AW Y 2 K_M_leads 10 [(0, .ref l0), (1, .int l1), (2, .ref l2), (3, .int l3), (4, .int l4), (5, .int l5)] [] h (M_leads_L10 Y l0 l1 l2 l3 h F l4 l5) (pZ h) := by
  intro F
  induction F with
  | zero =>
    intro l4 l5
    exact aw_none
  | succ F ih =>
    intro l4 l5
    unfold M_leads_L10
    refine aw_iload (pc := 10) d_M_leads_10 5 rfl ?_
    refine aw_aload_n (pc := 12) d_M_leads_12 rfl 0 rfl ?_
    refine gt_1220 (pc := 13) d_M_leads_13 w7_47 tl0 (fun tt2 => ?_)
    refine aw_bipush (pc := 16) (x := 88) d_M_leads_16 (by decide) ?_
    refine aw_iload_n (pc := 18) d_M_leads_18 rfl 1 rfl ?_
    refine aw_iadd (pc := 19) d_M_leads_19 ?_
    refine aw_iaload (pc := 20) d_M_leads_20 tt2 (fun c3 => ?_)
    refine aw_icmp_gt (pc := 21) (tgt := 86) d_M_leads_21 (by decide) (fun c4 => ?_) (fun c4 => ?_)
    · exact aw_lv [0, 4] rfl (M_leads_J86_ok Y l0 l4 h tl0)
    · refine aw_iload (pc := 24) d_M_leads_24 4 rfl ?_
      refine aw_if_lt (pc := 26) (tgt := 86) d_M_leads_26 (by decide) (fun c10 => ?_) (fun c10 => ?_)
      · exact aw_lv [0, 4] rfl (M_leads_J86_ok Y l0 l4 h tl0)
      · refine aw_aload_n (pc := 29) d_M_leads_29 rfl 2 rfl ?_
        refine aw_iload_n (pc := 30) d_M_leads_30 rfl 3 rfl ?_
        refine aw_iload (pc := 31) d_M_leads_31 5 rfl ?_
        refine aw_iadd (pc := 33) d_M_leads_33 ?_
        refine aw_iconst (pc := 34) (x := 1) d_M_leads_34 (by decide) ?_
        refine aw_isub (pc := 35) d_M_leads_35 ?_
        refine aw_iaload (pc := 36) d_M_leads_36 tl2 (fun c11 => ?_)
        refine aw_istore (pc := 37) (lv' := [(6, .int (hAi h l2 (Int32.toNatClampNeg ((l3 + l5) - 1)))), (0, .ref l0), (1, .int l1), (2, .ref l2), (3, .int l3), (4, .int l4), (5, .int l5)]) d_M_leads_37 (by decide) rfl ?_
        refine aw_aload_n (pc := 39) d_M_leads_39 rfl 1 rfl ?_
        refine aw_iload_n (pc := 40) d_M_leads_40 rfl 2 rfl ?_
        refine aw_iload (pc := 41) d_M_leads_41 6 rfl ?_
        refine aw_iload (pc := 43) d_M_leads_43 0 rfl ?_
        refine aw_aload_n (pc := 45) d_M_leads_45 rfl 1 rfl ?_
        refine gt_1220 (pc := 46) d_M_leads_46 w7_47 tl0 (fun tt12 => ?_)
        refine aw_bipush (pc := 49) (x := 9) d_M_leads_49 (by decide) ?_
        refine aw_iaload (pc := 51) d_M_leads_51 tt12 (fun c13 => ?_)
        refine aw_cVpZ (pc := 52) (ci := 12) (T := TX12) (N := 44) (As := [.int l1, .int l5, .int (hAi h l2 (Int32.toNatClampNeg ((l3 + l5) - 1))), .int (hAi h (hGr h 1220 l0) (Int32.toNatClampNeg 9))]) (st := []) (ok_M_isBarred Y l0 l1 l5 (hAi h l2 (Int32.toNatClampNeg ((l3 + l5) - 1))) (hAi h (hGr h 1220 l0) (Int32.toNatClampNeg 9)) h tl0) okV_M_isBarred rfl (by decide) tl0 w9_106 d_M_leads_52 rfl (Nat.le_of_ble_eq_true rfl) rfl (Nat.le_of_ble_eq_true rfl) (fun q14 hq14 hTq14 => ?_)
        refine aw_beq (pc := 55) (tgt := 62) d_M_leads_55 (by decide) (fun c15 => ?_) (fun c15 => ?_)
        · refine aw_iconst (pc := 58) (x := (-1)) d_M_leads_58 (by decide) ?_
          refine aw_goto (pc := 59) (tgt := 78) d_M_leads_59 (by decide) ?_
          refine aw_istore (pc := 78) (lv' := [(4, .int (-1)), (6, .int (hAi h l2 (Int32.toNatClampNeg ((l3 + l5) - 1)))), (0, .ref l0), (1, .int l1), (2, .ref l2), (3, .int l3), (5, .int l5)]) d_M_leads_78 (by decide) rfl ?_
          refine aw_iinc (pc := 80) (w := l5 + 1) (lv' := [(5, .int (l5 + 1)), (4, .int (-1)), (6, .int (hAi h l2 (Int32.toNatClampNeg ((l3 + l5) - 1)))), (0, .ref l0), (1, .int l1), (2, .ref l2), (3, .int l3)]) d_M_leads_80 6 rfl rfl (by decide) rfl ?_
          refine aw_goto (pc := 83) (tgt := 10) d_M_leads_83 (by decide) ?_
          exact aw_lv [3, 4, 5, 6, 1, 0] rfl (ih (-1) (l5 + 1))
        · refine aw_aload_n (pc := 62) d_M_leads_62 rfl 1 rfl ?_
          refine gt_1220 (pc := 63) d_M_leads_63 w7_47 tl0 (fun tt16 => ?_)
          refine aw_bipush (pc := 66) (x := 18) d_M_leads_66 (by decide) ?_
          refine aw_bipush (pc := 68) (x := 8) d_M_leads_68 (by decide) ?_
          refine aw_iload (pc := 70) d_M_leads_70 5 rfl ?_
          refine aw_imul (pc := 72) d_M_leads_72 ?_
          refine aw_iadd (pc := 73) d_M_leads_73 ?_
          refine aw_iload (pc := 74) d_M_leads_74 0 rfl ?_
          refine aw_iadd (pc := 76) d_M_leads_76 ?_
          refine aw_iaload (pc := 77) d_M_leads_77 tt16 (fun c17 => ?_)
          refine aw_istore (pc := 78) (lv' := [(4, .int (hAi h (hGr h 1220 l0) (Int32.toNatClampNeg ((18 + (8 * l4)) + (hAi h l2 (Int32.toNatClampNeg ((l3 + l5) - 1))))))), (6, .int (hAi h l2 (Int32.toNatClampNeg ((l3 + l5) - 1)))), (0, .ref l0), (1, .int l1), (2, .ref l2), (3, .int l3), (5, .int l5)]) d_M_leads_78 (by decide) rfl ?_
          refine aw_iinc (pc := 80) (w := l5 + 1) (lv' := [(5, .int (l5 + 1)), (4, .int (hAi h (hGr h 1220 l0) (Int32.toNatClampNeg ((18 + (8 * l4)) + (hAi h l2 (Int32.toNatClampNeg ((l3 + l5) - 1))))))), (6, .int (hAi h l2 (Int32.toNatClampNeg ((l3 + l5) - 1)))), (0, .ref l0), (1, .int l1), (2, .ref l2), (3, .int l3)]) d_M_leads_80 6 rfl rfl (by decide) rfl ?_
          refine aw_goto (pc := 83) (tgt := 10) d_M_leads_83 (by decide) ?_
          exact aw_lv [3, 4, 5, 6, 1, 0] rfl (ih (hAi h (hGr h 1220 l0) (Int32.toNatClampNeg ((18 + (8 * l4)) + (hAi h l2 (Int32.toNatClampNeg ((l3 + l5) - 1)))))) (l5 + 1))
def M_leads (Y : Ly) (l0 : Nat) (l1 : Int32) (l2 : Nat) (l3 : Int32) (h : Hp) : Option Bool :=
  (M_placeOf Y l0 l1 h).bind fun q1 =>
  M_leads_L10 Y l0 l1 l2 l3 h FU q1 1
theorem ok_M_leads (Y : Ly) (l0 : Nat) (l1 : Int32) (l2 : Nat) (l3 : Int32) (h : Hp) (t0 : isO Y 12 l0) (t2 : isO Y 20 l2) : AM Y 2 K_M_leads [.ref l0, .int l1, .ref l2, .int l3] h (M_leads Y l0 l1 l2 l3 h) (pZ h) := by
  refine AM.of rfl (Nat.le_of_ble_eq_true rfl) ?_
  show AW Y 2 K_M_leads 0 [(0, .ref l0), (1, .int l1), (2, .ref l2), (3, .int l3)] [] h (M_leads Y l0 l1 l2 l3 h) (pZ h)
  unfold M_leads
  refine aw_aload_n (pc := 0) d_M_leads_0 rfl 0 rfl ?_
  refine aw_iload_n (pc := 1) d_M_leads_1 rfl 1 rfl ?_
  refine aw_cVpI (pc := 2) (ci := 12) (T := TX12) (N := 44) (As := [.int l1]) (st := []) (ok_M_placeOf Y l0 l1 h t0) okV_M_placeOf rfl (by decide) t0 w9_45 d_M_leads_2 rfl (Nat.le_of_ble_eq_true rfl) rfl (Nat.le_of_ble_eq_true rfl) (fun q1 hq1 hTq1 => ?_)
  refine aw_istore (pc := 5) (lv' := [(4, .int q1), (0, .ref l0), (1, .int l1), (2, .ref l2), (3, .int l3)]) d_M_leads_5 (by decide) rfl ?_
  refine aw_iconst (pc := 7) (x := 1) d_M_leads_7 (by decide) ?_
  refine aw_istore (pc := 8) (lv' := [(5, .int 1), (4, .int q1), (0, .ref l0), (1, .int l1), (2, .ref l2), (3, .int l3)]) d_M_leads_8 (by decide) rfl ?_
  exact aw_lv [2, 3, 4, 5, 1, 0] rfl (M_leads_L10_ok Y l0 l1 l2 l3 h t0 t2 FU q1 1)
/-! LastPagesModel.isFit(II)Z -/
theorem d_M_isFit_0 : decode prog_14_method_113_code 0 = .ok (.aload_n 0, 1) := by decide +kernel
theorem d_M_isFit_1 : decode prog_14_method_113_code 1 = .ok (.getfield 35, 3) := by decide +kernel
theorem d_M_isFit_4 : decode prog_14_method_113_code 4 = .ok (.sipush 166, 3) := by decide +kernel
theorem d_M_isFit_7 : decode prog_14_method_113_code 7 = .ok (.iload_n 2, 1) := by decide +kernel
theorem d_M_isFit_8 : decode prog_14_method_113_code 8 = .ok (.iadd, 1) := by decide +kernel
theorem d_M_isFit_9 : decode prog_14_method_113_code 9 = .ok (.iaload, 1) := by decide +kernel
theorem d_M_isFit_10 : decode prog_14_method_113_code 10 = .ok (.aload_n 0, 1) := by decide +kernel
theorem d_M_isFit_11 : decode prog_14_method_113_code 11 = .ok (.getfield 35, 3) := by decide +kernel
theorem d_M_isFit_14 : decode prog_14_method_113_code 14 = .ok (.bipush 88, 2) := by decide +kernel
theorem d_M_isFit_16 : decode prog_14_method_113_code 16 = .ok (.iload_n 1, 1) := by decide +kernel
theorem d_M_isFit_17 : decode prog_14_method_113_code 17 = .ok (.iadd, 1) := by decide +kernel
theorem d_M_isFit_18 : decode prog_14_method_113_code 18 = .ok (.iaload, 1) := by decide +kernel
theorem d_M_isFit_19 : decode prog_14_method_113_code 19 = .ok (.if_icmp .ne 27, 3) := by decide +kernel
theorem d_M_isFit_22 : decode prog_14_method_113_code 22 = .ok (.aload_n 0, 1) := by decide +kernel
theorem d_M_isFit_23 : decode prog_14_method_113_code 23 = .ok (.iload_n 1, 1) := by decide +kernel
theorem d_M_isFit_24 : decode prog_14_method_113_code 24 = .ok (.aload_n 0, 1) := by decide +kernel
theorem d_M_isFit_25 : decode prog_14_method_113_code 25 = .ok (.getfield 35, 3) := by decide +kernel
theorem d_M_isFit_28 : decode prog_14_method_113_code 28 = .ok (.sipush 174, 3) := by decide +kernel
theorem d_M_isFit_31 : decode prog_14_method_113_code 31 = .ok (.bipush 6, 2) := by decide +kernel
theorem d_M_isFit_33 : decode prog_14_method_113_code 33 = .ok (.iload_n 2, 1) := by decide +kernel
theorem d_M_isFit_34 : decode prog_14_method_113_code 34 = .ok (.imul, 1) := by decide +kernel
theorem d_M_isFit_35 : decode prog_14_method_113_code 35 = .ok (.iadd, 1) := by decide +kernel
theorem d_M_isFit_36 : decode prog_14_method_113_code 36 = .ok (.invokevirtual 407, 3) := by decide +kernel
theorem d_M_isFit_39 : decode prog_14_method_113_code 39 = .ok (.ifCond .eq 7, 3) := by decide +kernel
theorem d_M_isFit_42 : decode prog_14_method_113_code 42 = .ok (.iconst 1, 1) := by decide +kernel
theorem d_M_isFit_43 : decode prog_14_method_113_code 43 = .ok (.goto 4, 3) := by decide +kernel
theorem d_M_isFit_46 : decode prog_14_method_113_code 46 = .ok (.iconst 0, 1) := by decide +kernel
theorem d_M_isFit_47 : decode prog_14_method_113_code 47 = .ok (.ireturn, 1) := by decide +kernel
def M_isFit (Y : Ly) (l0 : Nat) (l1 : Int32) (l2 : Int32) (h : Hp) : Option Bool :=
  if inB (166 + l2) (lnY Y (hGr h 1220 l0)) = true then
    if inB (88 + l1) (lnY Y (hGr h 1220 l0)) = true then
      if (hAi h (hGr h 1220 l0) (Int32.toNatClampNeg (166 + l2))) = (hAi h (hGr h 1220 l0) (Int32.toNatClampNeg (88 + l1))) then
        (M_leads Y l0 l1 (hGr h 1220 l0) (174 + (6 * l2)) h).bind fun q7 =>
        if q7 = true then
          some true
        else
          some false
      else
        some false
    else none
  else none
theorem ok_M_isFit (Y : Ly) (l0 : Nat) (l1 : Int32) (l2 : Int32) (h : Hp) (t0 : isO Y 12 l0) : AM Y 3 K_M_isFit [.ref l0, .int l1, .int l2] h (M_isFit Y l0 l1 l2 h) (pZ h) := by
  refine AM.of rfl (Nat.le_of_ble_eq_true rfl) ?_
  show AW Y 3 K_M_isFit 0 [(0, .ref l0), (1, .int l1), (2, .int l2)] [] h (M_isFit Y l0 l1 l2 h) (pZ h)
  unfold M_isFit
  refine aw_aload_n (pc := 0) d_M_isFit_0 rfl 0 rfl ?_
  refine gt_1220 (pc := 1) d_M_isFit_1 w7_47 t0 (fun tt1 => ?_)
  refine aw_sipush (pc := 4) (x := 166) d_M_isFit_4 (by decide) ?_
  refine aw_iload_n (pc := 7) d_M_isFit_7 rfl 2 rfl ?_
  refine aw_iadd (pc := 8) d_M_isFit_8 ?_
  refine aw_iaload (pc := 9) d_M_isFit_9 tt1 (fun c2 => ?_)
  refine aw_aload_n (pc := 10) d_M_isFit_10 rfl 0 rfl ?_
  refine gt_1220 (pc := 11) d_M_isFit_11 w7_47 t0 (fun tt3 => ?_)
  refine aw_bipush (pc := 14) (x := 88) d_M_isFit_14 (by decide) ?_
  refine aw_iload_n (pc := 16) d_M_isFit_16 rfl 1 rfl ?_
  refine aw_iadd (pc := 17) d_M_isFit_17 ?_
  refine aw_iaload (pc := 18) d_M_isFit_18 tt3 (fun c4 => ?_)
  refine aw_icmp_ne (pc := 19) (tgt := 46) d_M_isFit_19 (by decide) (fun c5 => ?_) (fun c5 => ?_)
  · refine aw_aload_n (pc := 22) d_M_isFit_22 rfl 0 rfl ?_
    refine aw_iload_n (pc := 23) d_M_isFit_23 rfl 1 rfl ?_
    refine aw_aload_n (pc := 24) d_M_isFit_24 rfl 0 rfl ?_
    refine gt_1220 (pc := 25) d_M_isFit_25 w7_47 t0 (fun tt6 => ?_)
    refine aw_sipush (pc := 28) (x := 174) d_M_isFit_28 (by decide) ?_
    refine aw_bipush (pc := 31) (x := 6) d_M_isFit_31 (by decide) ?_
    refine aw_iload_n (pc := 33) d_M_isFit_33 rfl 2 rfl ?_
    refine aw_imul (pc := 34) d_M_isFit_34 ?_
    refine aw_iadd (pc := 35) d_M_isFit_35 ?_
    refine aw_cVpZ (pc := 36) (ci := 12) (T := TX12) (N := 44) (As := [.int l1, .ref (hGr h 1220 l0), .int (174 + (6 * l2))]) (st := []) (ok_M_leads Y l0 l1 (hGr h 1220 l0) (174 + (6 * l2)) h t0 tt6) okV_M_leads rfl (by decide) t0 w9_102 d_M_isFit_36 rfl (Nat.le_of_ble_eq_true rfl) rfl (Nat.le_of_ble_eq_true rfl) (fun q7 hq7 hTq7 => ?_)
    refine aw_beq (pc := 39) (tgt := 46) d_M_isFit_39 (by decide) (fun c8 => ?_) (fun c8 => ?_)
    · refine aw_iconst (pc := 42) (x := 1) d_M_isFit_42 (by decide) ?_
      refine aw_goto (pc := 43) (tgt := 47) d_M_isFit_43 (by decide) ?_
      exact aw_zreturn (pc := 47) (b := true) d_M_isFit_47 rfl rfl
    · refine aw_iconst (pc := 46) (x := 0) d_M_isFit_46 (by decide) ?_
      exact aw_zreturn (pc := 47) (b := false) d_M_isFit_47 rfl rfl
  · refine aw_iconst (pc := 46) (x := 0) d_M_isFit_46 (by decide) ?_
    exact aw_zreturn (pc := 47) (b := false) d_M_isFit_47 rfl rfl
/-! LastPagesModel.binds(II)Z -/
theorem d_M_binds_0 : decode prog_14_method_115_code 0 = .ok (.aload_n 0, 1) := by decide +kernel
theorem d_M_binds_1 : decode prog_14_method_115_code 1 = .ok (.getfield 35, 3) := by decide +kernel
theorem d_M_binds_4 : decode prog_14_method_115_code 4 = .ok (.bipush 100, 2) := by decide +kernel
theorem d_M_binds_6 : decode prog_14_method_115_code 6 = .ok (.iload_n 1, 1) := by decide +kernel
theorem d_M_binds_7 : decode prog_14_method_115_code 7 = .ok (.iadd, 1) := by decide +kernel
theorem d_M_binds_8 : decode prog_14_method_115_code 8 = .ok (.iaload, 1) := by decide +kernel
theorem d_M_binds_9 : decode prog_14_method_115_code 9 = .ok (.ifCond .ge 20, 3) := by decide +kernel
theorem d_M_binds_12 : decode prog_14_method_115_code 12 = .ok (.aload_n 0, 1) := by decide +kernel
theorem d_M_binds_13 : decode prog_14_method_115_code 13 = .ok (.iload_n 2, 1) := by decide +kernel
theorem d_M_binds_14 : decode prog_14_method_115_code 14 = .ok (.invokevirtual 411, 3) := by decide +kernel
theorem d_M_binds_17 : decode prog_14_method_115_code 17 = .ok (.ifCond .ge 12, 3) := by decide +kernel
theorem d_M_binds_20 : decode prog_14_method_115_code 20 = .ok (.aload_n 0, 1) := by decide +kernel
theorem d_M_binds_21 : decode prog_14_method_115_code 21 = .ok (.iload_n 1, 1) := by decide +kernel
theorem d_M_binds_22 : decode prog_14_method_115_code 22 = .ok (.iload_n 2, 1) := by decide +kernel
theorem d_M_binds_23 : decode prog_14_method_115_code 23 = .ok (.invokevirtual 414, 3) := by decide +kernel
theorem d_M_binds_26 : decode prog_14_method_115_code 26 = .ok (.ifCond .ne 5, 3) := by decide +kernel
theorem d_M_binds_29 : decode prog_14_method_115_code 29 = .ok (.iconst 0, 1) := by decide +kernel
theorem d_M_binds_30 : decode prog_14_method_115_code 30 = .ok (.ireturn, 1) := by decide +kernel
theorem d_M_binds_31 : decode prog_14_method_115_code 31 = .ok (.aload_n 0, 1) := by decide +kernel
theorem d_M_binds_32 : decode prog_14_method_115_code 32 = .ok (.getfield 35, 3) := by decide +kernel
theorem d_M_binds_35 : decode prog_14_method_115_code 35 = .ok (.bipush 100, 2) := by decide +kernel
theorem d_M_binds_37 : decode prog_14_method_115_code 37 = .ok (.iload_n 1, 1) := by decide +kernel
theorem d_M_binds_38 : decode prog_14_method_115_code 38 = .ok (.iadd, 1) := by decide +kernel
theorem d_M_binds_39 : decode prog_14_method_115_code 39 = .ok (.iload_n 2, 1) := by decide +kernel
theorem d_M_binds_40 : decode prog_14_method_115_code 40 = .ok (.iastore, 1) := by decide +kernel
theorem d_M_binds_41 : decode prog_14_method_115_code 41 = .ok (.iconst 1, 1) := by decide +kernel
theorem d_M_binds_42 : decode prog_14_method_115_code 42 = .ok (.ireturn, 1) := by decide +kernel
def M_binds (Y : Ly) (l0 : Nat) (l1 : Int32) (l2 : Int32) (h : Hp) : Option (Bool × Hp) :=
  if inB (100 + l1) (lnY Y (hGr h 1220 l0)) = true then
    if 0 ≤ (hAi h (hGr h 1220 l0) (Int32.toNatClampNeg (100 + l1))) then
      some (false, h)
    else
      (M_holderOf Y l0 l2 h).bind fun q4 =>
      if 0 ≤ q4 then
        some (false, h)
      else
        (M_isFit Y l0 l1 l2 h).bind fun q6 =>
        if q6 = true then
          if inB (100 + l1) (lnY Y (hGr h 1220 l0)) = true then
            letH (hTi h (hGr h 1220 l0) (Int32.toNatClampNeg (100 + l1)) l2) fun h10 =>
            some (true, h10)
          else none
        else
          some (false, h)
  else none
theorem ok_M_binds (Y : Ly) (l0 : Nat) (l1 : Int32) (l2 : Int32) (h : Hp) (t0 : isO Y 12 l0) : AM Y 4 K_M_binds [.ref l0, .int l1, .int l2] h (M_binds Y l0 l1 l2 h) rZ := by
  refine AM.of rfl (Nat.le_of_ble_eq_true rfl) ?_
  show AW Y 4 K_M_binds 0 [(0, .ref l0), (1, .int l1), (2, .int l2)] [] h (M_binds Y l0 l1 l2 h) rZ
  unfold M_binds
  refine aw_aload_n (pc := 0) d_M_binds_0 rfl 0 rfl ?_
  refine gt_1220 (pc := 1) d_M_binds_1 w7_47 t0 (fun tt1 => ?_)
  refine aw_bipush (pc := 4) (x := 100) d_M_binds_4 (by decide) ?_
  refine aw_iload_n (pc := 6) d_M_binds_6 rfl 1 rfl ?_
  refine aw_iadd (pc := 7) d_M_binds_7 ?_
  refine aw_iaload (pc := 8) d_M_binds_8 tt1 (fun c2 => ?_)
  refine aw_if_ge (pc := 9) (tgt := 29) d_M_binds_9 (by decide) (fun c3 => ?_) (fun c3 => ?_)
  · refine aw_iconst (pc := 29) (x := 0) d_M_binds_29 (by decide) ?_
    exact aw_zreturn (pc := 30) (b := false) d_M_binds_30 rfl rfl
  · refine aw_aload_n (pc := 12) d_M_binds_12 rfl 0 rfl ?_
    refine aw_iload_n (pc := 13) d_M_binds_13 rfl 2 rfl ?_
    refine aw_cVpI (pc := 14) (ci := 12) (T := TX12) (N := 44) (As := [.int l2]) (st := []) (ok_M_holderOf Y l0 l2 h t0) okV_M_holderOf rfl (by decide) t0 w9_94 d_M_binds_14 rfl (Nat.le_of_ble_eq_true rfl) rfl (Nat.le_of_ble_eq_true rfl) (fun q4 hq4 hTq4 => ?_)
    refine aw_if_ge (pc := 17) (tgt := 29) d_M_binds_17 (by decide) (fun c5 => ?_) (fun c5 => ?_)
    · refine aw_iconst (pc := 29) (x := 0) d_M_binds_29 (by decide) ?_
      exact aw_zreturn (pc := 30) (b := false) d_M_binds_30 rfl rfl
    · refine aw_aload_n (pc := 20) d_M_binds_20 rfl 0 rfl ?_
      refine aw_iload_n (pc := 21) d_M_binds_21 rfl 1 rfl ?_
      refine aw_iload_n (pc := 22) d_M_binds_22 rfl 2 rfl ?_
      refine aw_cVpZ (pc := 23) (ci := 12) (T := TX12) (N := 44) (As := [.int l1, .int l2]) (st := []) (ok_M_isFit Y l0 l1 l2 h t0) okV_M_isFit rfl (by decide) t0 w9_98 d_M_binds_23 rfl (Nat.le_of_ble_eq_true rfl) rfl (Nat.le_of_ble_eq_true rfl) (fun q6 hq6 hTq6 => ?_)
      refine aw_bne (pc := 26) (tgt := 31) d_M_binds_26 (by decide) (fun c7 => ?_) (fun c7 => ?_)
      · refine aw_aload_n (pc := 31) d_M_binds_31 rfl 0 rfl ?_
        refine gt_1220 (pc := 32) d_M_binds_32 w7_47 t0 (fun tt8 => ?_)
        refine aw_bipush (pc := 35) (x := 100) d_M_binds_35 (by decide) ?_
        refine aw_iload_n (pc := 37) d_M_binds_37 rfl 1 rfl ?_
        refine aw_iadd (pc := 38) d_M_binds_38 ?_
        refine aw_iload_n (pc := 39) d_M_binds_39 rfl 2 rfl ?_
        refine aw_iastore (pc := 40) d_M_binds_40 tt8 (fun c9 => ?_)
        refine aw_letH (fun h10 => ?_)
        refine aw_iconst (pc := 41) (x := 1) d_M_binds_41 (by decide) ?_
        exact aw_zreturn (pc := 42) (b := true) d_M_binds_42 rfl rfl
      · refine aw_iconst (pc := 29) (x := 0) d_M_binds_29 (by decide) ?_
        exact aw_zreturn (pc := 30) (b := false) d_M_binds_30 rfl rfl
/-! LastPagesModel.isFinaleAt(I)Z -/
theorem d_M_isFinaleAt_0 : decode prog_14_method_92_code 0 = .ok (.iload_n 1, 1) := by decide +kernel
theorem d_M_isFinaleAt_1 : decode prog_14_method_92_code 1 = .ok (.i2l, 1) := by decide +kernel
theorem d_M_isFinaleAt_2 : decode prog_14_method_92_code 2 = .ok (.lconst 0, 1) := by decide +kernel
theorem d_M_isFinaleAt_3 : decode prog_14_method_92_code 3 = .ok (.aload_n 0, 1) := by decide +kernel
theorem d_M_isFinaleAt_4 : decode prog_14_method_92_code 4 = .ok (.getfield 35, 3) := by decide +kernel
theorem d_M_isFinaleAt_7 : decode prog_14_method_92_code 7 = .ok (.iconst 3, 1) := by decide +kernel
theorem d_M_isFinaleAt_8 : decode prog_14_method_92_code 8 = .ok (.iaload, 1) := by decide +kernel
theorem d_M_isFinaleAt_9 : decode prog_14_method_92_code 9 = .ok (.iconst 1, 1) := by decide +kernel
theorem d_M_isFinaleAt_10 : decode prog_14_method_92_code 10 = .ok (.isub, 1) := by decide +kernel
theorem d_M_isFinaleAt_11 : decode prog_14_method_92_code 11 = .ok (.i2l, 1) := by decide +kernel
theorem d_M_isFinaleAt_12 : decode prog_14_method_92_code 12 = .ok (.invokestatic 113, 3) := by decide +kernel
theorem d_M_isFinaleAt_15 : decode prog_14_method_92_code 15 = .ok (.ireturn, 1) := by decide +kernel
def M_isFinaleAt (Y : Ly) (l0 : Nat) (l1 : Int32) (h : Hp) : Option Bool :=
  if inB 3 (lnY Y (hGr h 1220 l0)) = true then
    (M_isIn Y (Int32.toInt64 l1) 0 (Int32.toInt64 ((hAi h (hGr h 1220 l0) (Int32.toNatClampNeg 3)) - 1)) h).bind fun q3 =>
    some q3
  else none
theorem ok_M_isFinaleAt (Y : Ly) (l0 : Nat) (l1 : Int32) (h : Hp) (t0 : isO Y 12 l0) : AM Y 1 K_M_isFinaleAt [.ref l0, .int l1] h (M_isFinaleAt Y l0 l1 h) (pZ h) := by
  refine AM.of rfl (Nat.le_of_ble_eq_true rfl) ?_
  show AW Y 1 K_M_isFinaleAt 0 [(0, .ref l0), (1, .int l1)] [] h (M_isFinaleAt Y l0 l1 h) (pZ h)
  unfold M_isFinaleAt
  refine aw_iload_n (pc := 0) d_M_isFinaleAt_0 rfl 1 rfl ?_
  refine aw_i2l (pc := 1) d_M_isFinaleAt_1 ?_
  refine aw_lconst (pc := 2) (x := 0) d_M_isFinaleAt_2 (by decide) ?_
  refine aw_aload_n (pc := 3) d_M_isFinaleAt_3 rfl 0 rfl ?_
  refine gt_1220 (pc := 4) d_M_isFinaleAt_4 w7_47 t0 (fun tt1 => ?_)
  refine aw_iconst (pc := 7) (x := 3) d_M_isFinaleAt_7 (by decide) ?_
  refine aw_iaload (pc := 8) d_M_isFinaleAt_8 tt1 (fun c2 => ?_)
  refine aw_iconst (pc := 9) (x := 1) d_M_isFinaleAt_9 (by decide) ?_
  refine aw_isub (pc := 10) d_M_isFinaleAt_10 ?_
  refine aw_i2l (pc := 11) d_M_isFinaleAt_11 ?_
  refine aw_cSpZ (pc := 12) (As := [.long (Int32.toInt64 l1), .long 0, .long (Int32.toInt64 ((hAi h (hGr h 1220 l0) (Int32.toNatClampNeg 3)) - 1))]) (st := []) (ok_M_isIn Y (Int32.toInt64 l1) 0 (Int32.toInt64 ((hAi h (hGr h 1220 l0) (Int32.toNatClampNeg 3)) - 1)) h) okS_M_isIn w8_155 d_M_isFinaleAt_12 rfl (Nat.le_of_ble_eq_true rfl) rfl (Nat.le_of_ble_eq_true rfl) (fun q3 hq3 hTq3 => ?_)
  exact aw_zreturn (pc := 15) (b := q3) d_M_isFinaleAt_15 rfl rfl
/-! LastPagesModel.no(I)Z -/
theorem d_M_no_0 : decode prog_14_method_7_code 0 = .ok (.aload_n 0, 1) := by decide +kernel
theorem d_M_no_1 : decode prog_14_method_7_code 1 = .ok (.iload_n 1, 1) := by decide +kernel
theorem d_M_no_2 : decode prog_14_method_7_code 2 = .ok (.putfield 81, 3) := by decide +kernel
theorem d_M_no_5 : decode prog_14_method_7_code 5 = .ok (.iconst 0, 1) := by decide +kernel
theorem d_M_no_6 : decode prog_14_method_7_code 6 = .ok (.ireturn, 1) := by decide +kernel
def M_no (Y : Ly) (l0 : Nat) (l1 : Int32) (h : Hp) : Option (Bool × Hp) :=
  letH (hSi h 1200 l0 l1) fun h1 =>
  some (false, h1)
theorem ok_M_no (Y : Ly) (l0 : Nat) (l1 : Int32) (h : Hp) (t0 : isO Y 12 l0) : AM Y 0 K_M_no [.ref l0, .int l1] h (M_no Y l0 l1 h) rZ := by
  refine AM.of rfl (Nat.le_of_ble_eq_true rfl) ?_
  show AW Y 0 K_M_no 0 [(0, .ref l0), (1, .int l1)] [] h (M_no Y l0 l1 h) rZ
  unfold M_no
  refine aw_aload_n (pc := 0) d_M_no_0 rfl 0 rfl ?_
  refine aw_iload_n (pc := 1) d_M_no_1 rfl 1 rfl ?_
  refine pt_1200 (pc := 2) d_M_no_2 w7_27 t0 ?_
  refine aw_letH (fun h1 => ?_)
  refine aw_iconst (pc := 5) (x := 0) d_M_no_5 (by decide) ?_
  exact aw_zreturn (pc := 6) (b := false) d_M_no_6 rfl rfl
/-! LastPagesModel.bind(II)Z -/
theorem d_M_bind_0 : decode prog_14_method_116_code 0 = .ok (.aload_n 0, 1) := by decide +kernel
theorem d_M_bind_1 : decode prog_14_method_116_code 1 = .ok (.iconst 0, 1) := by decide +kernel
theorem d_M_bind_2 : decode prog_14_method_116_code 2 = .ok (.putfield 78, 3) := by decide +kernel
theorem d_M_bind_5 : decode prog_14_method_116_code 5 = .ok (.aload_n 0, 1) := by decide +kernel
theorem d_M_bind_6 : decode prog_14_method_116_code 6 = .ok (.iconst 0, 1) := by decide +kernel
theorem d_M_bind_7 : decode prog_14_method_116_code 7 = .ok (.putfield 81, 3) := by decide +kernel
theorem d_M_bind_10 : decode prog_14_method_116_code 10 = .ok (.aload_n 0, 1) := by decide +kernel
theorem d_M_bind_11 : decode prog_14_method_116_code 11 = .ok (.iload_n 1, 1) := by decide +kernel
theorem d_M_bind_12 : decode prog_14_method_116_code 12 = .ok (.invokevirtual 382, 3) := by decide +kernel
theorem d_M_bind_15 : decode prog_14_method_116_code 15 = .ok (.ifCond .eq 11, 3) := by decide +kernel
theorem d_M_bind_18 : decode prog_14_method_116_code 18 = .ok (.aload_n 0, 1) := by decide +kernel
theorem d_M_bind_19 : decode prog_14_method_116_code 19 = .ok (.iload_n 2, 1) := by decide +kernel
theorem d_M_bind_20 : decode prog_14_method_116_code 20 = .ok (.invokevirtual 393, 3) := by decide +kernel
theorem d_M_bind_23 : decode prog_14_method_116_code 23 = .ok (.ifCond .ne 9, 3) := by decide +kernel
theorem d_M_bind_26 : decode prog_14_method_116_code 26 = .ok (.aload_n 0, 1) := by decide +kernel
theorem d_M_bind_27 : decode prog_14_method_116_code 27 = .ok (.iconst 2, 1) := by decide +kernel
theorem d_M_bind_28 : decode prog_14_method_116_code 28 = .ok (.invokevirtual 93, 3) := by decide +kernel
theorem d_M_bind_31 : decode prog_14_method_116_code 31 = .ok (.ireturn, 1) := by decide +kernel
theorem d_M_bind_32 : decode prog_14_method_116_code 32 = .ok (.aload_n 0, 1) := by decide +kernel
theorem d_M_bind_33 : decode prog_14_method_116_code 33 = .ok (.iload_n 1, 1) := by decide +kernel
theorem d_M_bind_34 : decode prog_14_method_116_code 34 = .ok (.iload_n 2, 1) := by decide +kernel
theorem d_M_bind_35 : decode prog_14_method_116_code 35 = .ok (.invokevirtual 417, 3) := by decide +kernel
theorem d_M_bind_38 : decode prog_14_method_116_code 38 = .ok (.ifCond .ne 12, 3) := by decide +kernel
theorem d_M_bind_41 : decode prog_14_method_116_code 41 = .ok (.aload_n 0, 1) := by decide +kernel
theorem d_M_bind_42 : decode prog_14_method_116_code 42 = .ok (.bipush 9, 2) := by decide +kernel
theorem d_M_bind_44 : decode prog_14_method_116_code 44 = .ok (.invokevirtual 93, 3) := by decide +kernel
theorem d_M_bind_47 : decode prog_14_method_116_code 47 = .ok (.ifCond .eq 7, 3) := by decide +kernel
theorem d_M_bind_50 : decode prog_14_method_116_code 50 = .ok (.iconst 1, 1) := by decide +kernel
theorem d_M_bind_51 : decode prog_14_method_116_code 51 = .ok (.goto 4, 3) := by decide +kernel
theorem d_M_bind_54 : decode prog_14_method_116_code 54 = .ok (.iconst 0, 1) := by decide +kernel
theorem d_M_bind_55 : decode prog_14_method_116_code 55 = .ok (.ireturn, 1) := by decide +kernel
def M_bind (Y : Ly) (l0 : Nat) (l1 : Int32) (l2 : Int32) (h : Hp) : Option (Bool × Hp) :=
  letH (hSi h 1201 l0 0) fun h1 =>
  letH (hSi h1 1200 l0 0) fun h2 =>
  (M_isBookAt Y l0 l1 h2).bind fun q3 =>
  if q3 = true then
    (M_isFinaleAt Y l0 l2 h2).bind fun q5 =>
    if q5 = true then
      (M_binds Y l0 l1 l2 h2).bind fun q7 =>
      if q7.1 = true then
        some (true, q7.2)
      else
        (M_no Y l0 9 q7.2).bind fun q9 =>
        if q9.1 = true then
          some (true, q9.2)
        else
          some (false, q9.2)
    else
      (M_no Y l0 2 h2).bind fun q11 =>
      some (q11.1, q11.2)
  else
    (M_no Y l0 2 h2).bind fun q12 =>
    some (q12.1, q12.2)
theorem ok_M_bind (Y : Ly) (l0 : Nat) (l1 : Int32) (l2 : Int32) (h : Hp) (t0 : isO Y 12 l0) : AM Y 5 K_M_bind [.ref l0, .int l1, .int l2] h (M_bind Y l0 l1 l2 h) rZ := by
  refine AM.of rfl (Nat.le_of_ble_eq_true rfl) ?_
  show AW Y 5 K_M_bind 0 [(0, .ref l0), (1, .int l1), (2, .int l2)] [] h (M_bind Y l0 l1 l2 h) rZ
  unfold M_bind
  refine aw_aload_n (pc := 0) d_M_bind_0 rfl 0 rfl ?_
  refine aw_iconst (pc := 1) (x := 0) d_M_bind_1 (by decide) ?_
  refine pt_1201 (pc := 2) d_M_bind_2 w7_28 t0 ?_
  refine aw_letH (fun h1 => ?_)
  refine aw_aload_n (pc := 5) d_M_bind_5 rfl 0 rfl ?_
  refine aw_iconst (pc := 6) (x := 0) d_M_bind_6 (by decide) ?_
  refine pt_1200 (pc := 7) d_M_bind_7 w7_27 t0 ?_
  refine aw_letH (fun h2 => ?_)
  refine aw_aload_n (pc := 10) d_M_bind_10 rfl 0 rfl ?_
  refine aw_iload_n (pc := 11) d_M_bind_11 rfl 1 rfl ?_
  refine aw_cVpZ (pc := 12) (ci := 12) (T := TX12) (N := 44) (As := [.int l1]) (st := []) (ok_M_isBookAt Y l0 l1 h2 t0) okV_M_isBookAt rfl (by decide) t0 w9_40 d_M_bind_12 rfl (Nat.le_of_ble_eq_true rfl) rfl (Nat.le_of_ble_eq_true rfl) (fun q3 hq3 hTq3 => ?_)
  refine aw_beq (pc := 15) (tgt := 26) d_M_bind_15 (by decide) (fun c4 => ?_) (fun c4 => ?_)
  · refine aw_aload_n (pc := 18) d_M_bind_18 rfl 0 rfl ?_
    refine aw_iload_n (pc := 19) d_M_bind_19 rfl 2 rfl ?_
    refine aw_cVpZ (pc := 20) (ci := 12) (T := TX12) (N := 44) (As := [.int l2]) (st := []) (ok_M_isFinaleAt Y l0 l2 h2 t0) okV_M_isFinaleAt rfl (by decide) t0 w9_61 d_M_bind_20 rfl (Nat.le_of_ble_eq_true rfl) rfl (Nat.le_of_ble_eq_true rfl) (fun q5 hq5 hTq5 => ?_)
    refine aw_bne (pc := 23) (tgt := 32) d_M_bind_23 (by decide) (fun c6 => ?_) (fun c6 => ?_)
    · refine aw_aload_n (pc := 32) d_M_bind_32 rfl 0 rfl ?_
      refine aw_iload_n (pc := 33) d_M_bind_33 rfl 1 rfl ?_
      refine aw_iload_n (pc := 34) d_M_bind_34 rfl 2 rfl ?_
      refine aw_cVrZ (pc := 35) (ci := 12) (T := TX12) (N := 44) (As := [.int l1, .int l2]) (st := []) (ok_M_binds Y l0 l1 l2 h2 t0) okV_M_binds rfl (by decide) t0 w9_90 d_M_bind_35 rfl (Nat.le_of_ble_eq_true rfl) rfl (Nat.le_of_ble_eq_true rfl) (fun q7 hq7 hTq7 => ?_)
      refine aw_bne (pc := 38) (tgt := 50) d_M_bind_38 (by decide) (fun c8 => ?_) (fun c8 => ?_)
      · refine aw_iconst (pc := 50) (x := 1) d_M_bind_50 (by decide) ?_
        refine aw_goto (pc := 51) (tgt := 55) d_M_bind_51 (by decide) ?_
        exact aw_zreturn (pc := 55) (b := true) d_M_bind_55 rfl rfl
      · refine aw_aload_n (pc := 41) d_M_bind_41 rfl 0 rfl ?_
        refine aw_bipush (pc := 42) (x := 9) d_M_bind_42 (by decide) ?_
        refine aw_cVrZ (pc := 44) (ci := 12) (T := TX12) (N := 44) (As := [.int 9]) (st := []) (ok_M_no Y l0 9 q7.2 t0) okV_M_no rfl (by decide) t0 w7_176 d_M_bind_44 rfl (Nat.le_of_ble_eq_true rfl) rfl (Nat.le_of_ble_eq_true rfl) (fun q9 hq9 hTq9 => ?_)
        refine aw_beq (pc := 47) (tgt := 54) d_M_bind_47 (by decide) (fun c10 => ?_) (fun c10 => ?_)
        · refine aw_iconst (pc := 50) (x := 1) d_M_bind_50 (by decide) ?_
          refine aw_goto (pc := 51) (tgt := 55) d_M_bind_51 (by decide) ?_
          exact aw_zreturn (pc := 55) (b := true) d_M_bind_55 rfl rfl
        · refine aw_iconst (pc := 54) (x := 0) d_M_bind_54 (by decide) ?_
          exact aw_zreturn (pc := 55) (b := false) d_M_bind_55 rfl rfl
    · refine aw_aload_n (pc := 26) d_M_bind_26 rfl 0 rfl ?_
      refine aw_iconst (pc := 27) (x := 2) d_M_bind_27 (by decide) ?_
      refine aw_cVrZ (pc := 28) (ci := 12) (T := TX12) (N := 44) (As := [.int 2]) (st := []) (ok_M_no Y l0 2 h2 t0) okV_M_no rfl (by decide) t0 w7_176 d_M_bind_28 rfl (Nat.le_of_ble_eq_true rfl) rfl (Nat.le_of_ble_eq_true rfl) (fun q11 hq11 hTq11 => ?_)
      exact aw_zreturn (pc := 31) (b := q11.1) d_M_bind_31 rfl rfl
  · refine aw_aload_n (pc := 26) d_M_bind_26 rfl 0 rfl ?_
    refine aw_iconst (pc := 27) (x := 2) d_M_bind_27 (by decide) ?_
    refine aw_cVrZ (pc := 28) (ci := 12) (T := TX12) (N := 44) (As := [.int 2]) (st := []) (ok_M_no Y l0 2 h2 t0) okV_M_no rfl (by decide) t0 w7_176 d_M_bind_28 rfl (Nat.le_of_ble_eq_true rfl) rfl (Nat.le_of_ble_eq_true rfl) (fun q12 hq12 hTq12 => ?_)
    exact aw_zreturn (pc := 31) (b := q12.1) d_M_bind_31 rfl rfl
/-! LastPagesModel.goesTo(I)I -/
theorem d_M_goesTo_0 : decode prog_14_method_99_code 0 = .ok (.aload_n 0, 1) := by decide +kernel
theorem d_M_goesTo_1 : decode prog_14_method_99_code 1 = .ok (.getfield 35, 3) := by decide +kernel
theorem d_M_goesTo_4 : decode prog_14_method_99_code 4 = .ok (.bipush 82, 2) := by decide +kernel
theorem d_M_goesTo_6 : decode prog_14_method_99_code 6 = .ok (.iload_n 1, 1) := by decide +kernel
theorem d_M_goesTo_7 : decode prog_14_method_99_code 7 = .ok (.iadd, 1) := by decide +kernel
theorem d_M_goesTo_8 : decode prog_14_method_99_code 8 = .ok (.iaload, 1) := by decide +kernel
theorem d_M_goesTo_9 : decode prog_14_method_99_code 9 = .ok (.istore_n 2, 1) := by decide +kernel
theorem d_M_goesTo_10 : decode prog_14_method_99_code 10 = .ok (.iconst 0, 1) := by decide +kernel
theorem d_M_goesTo_11 : decode prog_14_method_99_code 11 = .ok (.istore_n 3, 1) := by decide +kernel
theorem d_M_goesTo_12 : decode prog_14_method_99_code 12 = .ok (.iload_n 3, 1) := by decide +kernel
theorem d_M_goesTo_13 : decode prog_14_method_99_code 13 = .ok (.aload_n 0, 1) := by decide +kernel
theorem d_M_goesTo_14 : decode prog_14_method_99_code 14 = .ok (.getfield 35, 3) := by decide +kernel
theorem d_M_goesTo_17 : decode prog_14_method_99_code 17 = .ok (.bipush 94, 2) := by decide +kernel
theorem d_M_goesTo_19 : decode prog_14_method_99_code 19 = .ok (.iload_n 1, 1) := by decide +kernel
theorem d_M_goesTo_20 : decode prog_14_method_99_code 20 = .ok (.iadd, 1) := by decide +kernel
theorem d_M_goesTo_21 : decode prog_14_method_99_code 21 = .ok (.iaload, 1) := by decide +kernel
theorem d_M_goesTo_22 : decode prog_14_method_99_code 22 = .ok (.if_icmp .ge 43, 3) := by decide +kernel
theorem d_M_goesTo_25 : decode prog_14_method_99_code 25 = .ok (.aload_n 0, 1) := by decide +kernel
theorem d_M_goesTo_26 : decode prog_14_method_99_code 26 = .ok (.getfield 35, 3) := by decide +kernel
theorem d_M_goesTo_29 : decode prog_14_method_99_code 29 = .ok (.bipush 18, 2) := by decide +kernel
theorem d_M_goesTo_31 : decode prog_14_method_99_code 31 = .ok (.bipush 8, 2) := by decide +kernel
theorem d_M_goesTo_33 : decode prog_14_method_99_code 33 = .ok (.iload_n 2, 1) := by decide +kernel
theorem d_M_goesTo_34 : decode prog_14_method_99_code 34 = .ok (.imul, 1) := by decide +kernel
theorem d_M_goesTo_35 : decode prog_14_method_99_code 35 = .ok (.iadd, 1) := by decide +kernel
theorem d_M_goesTo_36 : decode prog_14_method_99_code 36 = .ok (.aload_n 0, 1) := by decide +kernel
theorem d_M_goesTo_37 : decode prog_14_method_99_code 37 = .ok (.getfield 35, 3) := by decide +kernel
theorem d_M_goesTo_40 : decode prog_14_method_99_code 40 = .ok (.bipush 106, 2) := by decide +kernel
theorem d_M_goesTo_42 : decode prog_14_method_99_code 42 = .ok (.bipush 10, 2) := by decide +kernel
theorem d_M_goesTo_44 : decode prog_14_method_99_code 44 = .ok (.iload_n 1, 1) := by decide +kernel
theorem d_M_goesTo_45 : decode prog_14_method_99_code 45 = .ok (.imul, 1) := by decide +kernel
theorem d_M_goesTo_46 : decode prog_14_method_99_code 46 = .ok (.iadd, 1) := by decide +kernel
theorem d_M_goesTo_47 : decode prog_14_method_99_code 47 = .ok (.iload_n 3, 1) := by decide +kernel
theorem d_M_goesTo_48 : decode prog_14_method_99_code 48 = .ok (.iadd, 1) := by decide +kernel
theorem d_M_goesTo_49 : decode prog_14_method_99_code 49 = .ok (.iaload, 1) := by decide +kernel
theorem d_M_goesTo_50 : decode prog_14_method_99_code 50 = .ok (.iadd, 1) := by decide +kernel
theorem d_M_goesTo_51 : decode prog_14_method_99_code 51 = .ok (.iaload, 1) := by decide +kernel
theorem d_M_goesTo_52 : decode prog_14_method_99_code 52 = .ok (.istore_n 2, 1) := by decide +kernel
theorem d_M_goesTo_53 : decode prog_14_method_99_code 53 = .ok (.iload_n 2, 1) := by decide +kernel
theorem d_M_goesTo_54 : decode prog_14_method_99_code 54 = .ok (.ifCond .ge 5, 3) := by decide +kernel
theorem d_M_goesTo_57 : decode prog_14_method_99_code 57 = .ok (.iload_n 3, 1) := by decide +kernel
theorem d_M_goesTo_58 : decode prog_14_method_99_code 58 = .ok (.ireturn, 1) := by decide +kernel
theorem d_M_goesTo_59 : decode prog_14_method_99_code 59 = .ok (.iinc 3 1, 3) := by decide +kernel
theorem d_M_goesTo_62 : decode prog_14_method_99_code 62 = .ok (.goto (-50), 3) := by decide +kernel
theorem d_M_goesTo_65 : decode prog_14_method_99_code 65 = .ok (.aload_n 0, 1) := by decide +kernel
theorem d_M_goesTo_66 : decode prog_14_method_99_code 66 = .ok (.getfield 35, 3) := by decide +kernel
theorem d_M_goesTo_69 : decode prog_14_method_99_code 69 = .ok (.bipush 94, 2) := by decide +kernel
theorem d_M_goesTo_71 : decode prog_14_method_99_code 71 = .ok (.iload_n 1, 1) := by decide +kernel
theorem d_M_goesTo_72 : decode prog_14_method_99_code 72 = .ok (.iadd, 1) := by decide +kernel
theorem d_M_goesTo_73 : decode prog_14_method_99_code 73 = .ok (.iaload, 1) := by decide +kernel
theorem d_M_goesTo_74 : decode prog_14_method_99_code 74 = .ok (.ireturn, 1) := by decide +kernel
def M_goesTo_L12 (Y : Ly) (l0 : Nat) (l1 : Int32) (h : Hp) : Nat → Int32 → Int32 → Option Int32
  | 0, _, _ => none
  | F + 1, l2, l3 =>
    if inB (94 + l1) (lnY Y (hGr h 1220 l0)) = true then
      if (hAi h (hGr h 1220 l0) (Int32.toNatClampNeg (94 + l1))) ≤ l3 then
        if inB (94 + l1) (lnY Y (hGr h 1220 l0)) = true then
          some (hAi h (hGr h 1220 l0) (Int32.toNatClampNeg (94 + l1)))
        else none
      else
        if inB ((106 + (10 * l1)) + l3) (lnY Y (hGr h 1220 l0)) = true then
          if inB ((18 + (8 * l2)) + (hAi h (hGr h 1220 l0) (Int32.toNatClampNeg ((106 + (10 * l1)) + l3)))) (lnY Y (hGr h 1220 l0)) = true then
            if 0 ≤ (hAi h (hGr h 1220 l0) (Int32.toNatClampNeg ((18 + (8 * l2)) + (hAi h (hGr h 1220 l0) (Int32.toNatClampNeg ((106 + (10 * l1)) + l3)))))) then
              M_goesTo_L12 Y l0 l1 h F (hAi h (hGr h 1220 l0) (Int32.toNatClampNeg ((18 + (8 * l2)) + (hAi h (hGr h 1220 l0) (Int32.toNatClampNeg ((106 + (10 * l1)) + l3)))))) (l3 + 1)
            else
              some l3
          else none
        else none
    else none
theorem M_goesTo_L12_ok (Y : Ly) (l0 : Nat) (l1 : Int32) (h : Hp) (tl0 : isO Y 12 l0) : ∀ (F : Nat) (l2 : Int32) (l3 : Int32), AW Y 0 K_M_goesTo 12 [(0, .ref l0), (1, .int l1), (2, .int l2), (3, .int l3)] [] h (M_goesTo_L12 Y l0 l1 h F l2 l3) (pI h) := by
  intro F
  induction F with
  | zero =>
    intro l2 l3
    exact aw_none
  | succ F ih =>
    intro l2 l3
    unfold M_goesTo_L12
    refine aw_iload_n (pc := 12) d_M_goesTo_12 rfl 3 rfl ?_
    refine aw_aload_n (pc := 13) d_M_goesTo_13 rfl 0 rfl ?_
    refine gt_1220 (pc := 14) d_M_goesTo_14 w7_47 tl0 (fun tt3 => ?_)
    refine aw_bipush (pc := 17) (x := 94) d_M_goesTo_17 (by decide) ?_
    refine aw_iload_n (pc := 19) d_M_goesTo_19 rfl 1 rfl ?_
    refine aw_iadd (pc := 20) d_M_goesTo_20 ?_
    refine aw_iaload (pc := 21) d_M_goesTo_21 tt3 (fun c4 => ?_)
    refine aw_icmp_ge (pc := 22) (tgt := 65) d_M_goesTo_22 (by decide) (fun c5 => ?_) (fun c5 => ?_)
    · refine aw_aload_n (pc := 65) d_M_goesTo_65 rfl 0 rfl ?_
      refine gt_1220 (pc := 66) d_M_goesTo_66 w7_47 tl0 (fun tt6 => ?_)
      refine aw_bipush (pc := 69) (x := 94) d_M_goesTo_69 (by decide) ?_
      refine aw_iload_n (pc := 71) d_M_goesTo_71 rfl 1 rfl ?_
      refine aw_iadd (pc := 72) d_M_goesTo_72 ?_
      refine aw_iaload (pc := 73) d_M_goesTo_73 tt6 (fun c7 => ?_)
      exact aw_ireturn (pc := 74) d_M_goesTo_74 rfl rfl
    · refine aw_aload_n (pc := 25) d_M_goesTo_25 rfl 0 rfl ?_
      refine gt_1220 (pc := 26) d_M_goesTo_26 w7_47 tl0 (fun tt8 => ?_)
      refine aw_bipush (pc := 29) (x := 18) d_M_goesTo_29 (by decide) ?_
      refine aw_bipush (pc := 31) (x := 8) d_M_goesTo_31 (by decide) ?_
      refine aw_iload_n (pc := 33) d_M_goesTo_33 rfl 2 rfl ?_
      refine aw_imul (pc := 34) d_M_goesTo_34 ?_
      refine aw_iadd (pc := 35) d_M_goesTo_35 ?_
      refine aw_aload_n (pc := 36) d_M_goesTo_36 rfl 0 rfl ?_
      refine gt_1220 (pc := 37) d_M_goesTo_37 w7_47 tl0 (fun tt9 => ?_)
      refine aw_bipush (pc := 40) (x := 106) d_M_goesTo_40 (by decide) ?_
      refine aw_bipush (pc := 42) (x := 10) d_M_goesTo_42 (by decide) ?_
      refine aw_iload_n (pc := 44) d_M_goesTo_44 rfl 1 rfl ?_
      refine aw_imul (pc := 45) d_M_goesTo_45 ?_
      refine aw_iadd (pc := 46) d_M_goesTo_46 ?_
      refine aw_iload_n (pc := 47) d_M_goesTo_47 rfl 3 rfl ?_
      refine aw_iadd (pc := 48) d_M_goesTo_48 ?_
      refine aw_iaload (pc := 49) d_M_goesTo_49 tt9 (fun c10 => ?_)
      refine aw_iadd (pc := 50) d_M_goesTo_50 ?_
      refine aw_iaload (pc := 51) d_M_goesTo_51 tt8 (fun c11 => ?_)
      refine aw_istore_n (pc := 52) (lv' := [(2, .int (hAi h (hGr h 1220 l0) (Int32.toNatClampNeg ((18 + (8 * l2)) + (hAi h (hGr h 1220 l0) (Int32.toNatClampNeg ((106 + (10 * l1)) + l3))))))), (0, .ref l0), (1, .int l1), (3, .int l3)]) d_M_goesTo_52 rfl (by decide) rfl ?_
      refine aw_iload_n (pc := 53) d_M_goesTo_53 rfl 0 rfl ?_
      refine aw_if_ge (pc := 54) (tgt := 59) d_M_goesTo_54 (by decide) (fun c12 => ?_) (fun c12 => ?_)
      · refine aw_iinc (pc := 59) (w := l3 + 1) (lv' := [(3, .int (l3 + 1)), (2, .int (hAi h (hGr h 1220 l0) (Int32.toNatClampNeg ((18 + (8 * l2)) + (hAi h (hGr h 1220 l0) (Int32.toNatClampNeg ((106 + (10 * l1)) + l3))))))), (0, .ref l0), (1, .int l1)]) d_M_goesTo_59 3 rfl rfl (by decide) rfl ?_
        refine aw_goto (pc := 62) (tgt := 12) d_M_goesTo_62 (by decide) ?_
        exact aw_lv [2, 3, 1, 0] rfl (ih (hAi h (hGr h 1220 l0) (Int32.toNatClampNeg ((18 + (8 * l2)) + (hAi h (hGr h 1220 l0) (Int32.toNatClampNeg ((106 + (10 * l1)) + l3)))))) (l3 + 1))
      · refine aw_iload_n (pc := 57) d_M_goesTo_57 rfl 3 rfl ?_
        exact aw_ireturn (pc := 58) d_M_goesTo_58 rfl rfl
def M_goesTo (Y : Ly) (l0 : Nat) (l1 : Int32) (h : Hp) : Option Int32 :=
  if inB (82 + l1) (lnY Y (hGr h 1220 l0)) = true then
    M_goesTo_L12 Y l0 l1 h FU (hAi h (hGr h 1220 l0) (Int32.toNatClampNeg (82 + l1))) 0
  else none
theorem ok_M_goesTo (Y : Ly) (l0 : Nat) (l1 : Int32) (h : Hp) (t0 : isO Y 12 l0) : AM Y 0 K_M_goesTo [.ref l0, .int l1] h (M_goesTo Y l0 l1 h) (pI h) := by
  refine AM.of rfl (Nat.le_of_ble_eq_true rfl) ?_
  show AW Y 0 K_M_goesTo 0 [(0, .ref l0), (1, .int l1)] [] h (M_goesTo Y l0 l1 h) (pI h)
  unfold M_goesTo
  refine aw_aload_n (pc := 0) d_M_goesTo_0 rfl 0 rfl ?_
  refine gt_1220 (pc := 1) d_M_goesTo_1 w7_47 t0 (fun tt1 => ?_)
  refine aw_bipush (pc := 4) (x := 82) d_M_goesTo_4 (by decide) ?_
  refine aw_iload_n (pc := 6) d_M_goesTo_6 rfl 1 rfl ?_
  refine aw_iadd (pc := 7) d_M_goesTo_7 ?_
  refine aw_iaload (pc := 8) d_M_goesTo_8 tt1 (fun c2 => ?_)
  refine aw_istore_n (pc := 9) (lv' := [(2, .int (hAi h (hGr h 1220 l0) (Int32.toNatClampNeg (82 + l1)))), (0, .ref l0), (1, .int l1)]) d_M_goesTo_9 rfl (by decide) rfl ?_
  refine aw_iconst (pc := 10) (x := 0) d_M_goesTo_10 (by decide) ?_
  refine aw_istore_n (pc := 11) (lv' := [(3, .int 0), (2, .int (hAi h (hGr h 1220 l0) (Int32.toNatClampNeg (82 + l1)))), (0, .ref l0), (1, .int l1)]) d_M_goesTo_11 rfl (by decide) rfl ?_
  exact aw_lv [2, 3, 1, 0] rfl (M_goesTo_L12_ok Y l0 l1 h t0 FU (hAi h (hGr h 1220 l0) (Int32.toNatClampNeg (82 + l1))) 0)
/-! LastPagesModel.book(II)I -/
theorem d_M_book_0 : decode prog_14_method_101_code 0 = .ok (.aload_n 0, 1) := by decide +kernel
theorem d_M_book_1 : decode prog_14_method_101_code 1 = .ok (.iconst 0, 1) := by decide +kernel
theorem d_M_book_2 : decode prog_14_method_101_code 2 = .ok (.putfield 78, 3) := by decide +kernel
theorem d_M_book_5 : decode prog_14_method_101_code 5 = .ok (.aload_n 0, 1) := by decide +kernel
theorem d_M_book_6 : decode prog_14_method_101_code 6 = .ok (.iconst 0, 1) := by decide +kernel
theorem d_M_book_7 : decode prog_14_method_101_code 7 = .ok (.putfield 81, 3) := by decide +kernel
theorem d_M_book_10 : decode prog_14_method_101_code 10 = .ok (.aload_n 0, 1) := by decide +kernel
theorem d_M_book_11 : decode prog_14_method_101_code 11 = .ok (.iload_n 1, 1) := by decide +kernel
theorem d_M_book_12 : decode prog_14_method_101_code 12 = .ok (.invokevirtual 382, 3) := by decide +kernel
theorem d_M_book_15 : decode prog_14_method_101_code 15 = .ok (.ifCond .ne 9, 3) := by decide +kernel
theorem d_M_book_18 : decode prog_14_method_101_code 18 = .ok (.aload_n 0, 1) := by decide +kernel
theorem d_M_book_19 : decode prog_14_method_101_code 19 = .ok (.iconst 2, 1) := by decide +kernel
theorem d_M_book_20 : decode prog_14_method_101_code 20 = .ok (.invokevirtual 367, 3) := by decide +kernel
theorem d_M_book_23 : decode prog_14_method_101_code 23 = .ok (.ireturn, 1) := by decide +kernel
theorem d_M_book_24 : decode prog_14_method_101_code 24 = .ok (.iload_n 2, 1) := by decide +kernel
theorem d_M_book_25 : decode prog_14_method_101_code 25 = .ok (.i2l, 1) := by decide +kernel
theorem d_M_book_26 : decode prog_14_method_101_code 26 = .ok (.lconst 0, 1) := by decide +kernel
theorem d_M_book_27 : decode prog_14_method_101_code 27 = .ok (.ldc2_w 385, 3) := by decide +kernel
theorem d_M_book_30 : decode prog_14_method_101_code 30 = .ok (.invokestatic 113, 3) := by decide +kernel
theorem d_M_book_33 : decode prog_14_method_101_code 33 = .ok (.ifCond .ne 9, 3) := by decide +kernel
theorem d_M_book_36 : decode prog_14_method_101_code 36 = .ok (.aload_n 0, 1) := by decide +kernel
theorem d_M_book_37 : decode prog_14_method_101_code 37 = .ok (.iconst 5, 1) := by decide +kernel
theorem d_M_book_38 : decode prog_14_method_101_code 38 = .ok (.invokevirtual 367, 3) := by decide +kernel
theorem d_M_book_41 : decode prog_14_method_101_code 41 = .ok (.ireturn, 1) := by decide +kernel
theorem d_M_book_42 : decode prog_14_method_101_code 42 = .ok (.iload_n 2, 1) := by decide +kernel
theorem d_M_book_43 : decode prog_14_method_101_code 43 = .ok (.iconst 3, 1) := by decide +kernel
theorem d_M_book_44 : decode prog_14_method_101_code 44 = .ok (.if_icmp .ge 46, 3) := by decide +kernel
theorem d_M_book_47 : decode prog_14_method_101_code 47 = .ok (.iload_n 2, 1) := by decide +kernel
theorem d_M_book_48 : decode prog_14_method_101_code 48 = .ok (.ifCond .ne 15, 3) := by decide +kernel
theorem d_M_book_51 : decode prog_14_method_101_code 51 = .ok (.aload_n 0, 1) := by decide +kernel
theorem d_M_book_52 : decode prog_14_method_101_code 52 = .ok (.getfield 35, 3) := by decide +kernel
theorem d_M_book_55 : decode prog_14_method_101_code 55 = .ok (.bipush 82, 2) := by decide +kernel
theorem d_M_book_57 : decode prog_14_method_101_code 57 = .ok (.iload_n 1, 1) := by decide +kernel
theorem d_M_book_58 : decode prog_14_method_101_code 58 = .ok (.iadd, 1) := by decide +kernel
theorem d_M_book_59 : decode prog_14_method_101_code 59 = .ok (.iaload, 1) := by decide +kernel
theorem d_M_book_60 : decode prog_14_method_101_code 60 = .ok (.goto 29, 3) := by decide +kernel
theorem d_M_book_63 : decode prog_14_method_101_code 63 = .ok (.iload_n 2, 1) := by decide +kernel
theorem d_M_book_64 : decode prog_14_method_101_code 64 = .ok (.iconst 1, 1) := by decide +kernel
theorem d_M_book_65 : decode prog_14_method_101_code 65 = .ok (.if_icmp .ne 15, 3) := by decide +kernel
theorem d_M_book_68 : decode prog_14_method_101_code 68 = .ok (.aload_n 0, 1) := by decide +kernel
theorem d_M_book_69 : decode prog_14_method_101_code 69 = .ok (.getfield 35, 3) := by decide +kernel
theorem d_M_book_72 : decode prog_14_method_101_code 72 = .ok (.bipush 94, 2) := by decide +kernel
theorem d_M_book_74 : decode prog_14_method_101_code 74 = .ok (.iload_n 1, 1) := by decide +kernel
theorem d_M_book_75 : decode prog_14_method_101_code 75 = .ok (.iadd, 1) := by decide +kernel
theorem d_M_book_76 : decode prog_14_method_101_code 76 = .ok (.iaload, 1) := by decide +kernel
theorem d_M_book_77 : decode prog_14_method_101_code 77 = .ok (.goto 12, 3) := by decide +kernel
theorem d_M_book_80 : decode prog_14_method_101_code 80 = .ok (.aload_n 0, 1) := by decide +kernel
theorem d_M_book_81 : decode prog_14_method_101_code 81 = .ok (.getfield 35, 3) := by decide +kernel
theorem d_M_book_84 : decode prog_14_method_101_code 84 = .ok (.bipush 88, 2) := by decide +kernel
theorem d_M_book_86 : decode prog_14_method_101_code 86 = .ok (.iload_n 1, 1) := by decide +kernel
theorem d_M_book_87 : decode prog_14_method_101_code 87 = .ok (.iadd, 1) := by decide +kernel
theorem d_M_book_88 : decode prog_14_method_101_code 88 = .ok (.iaload, 1) := by decide +kernel
theorem d_M_book_89 : decode prog_14_method_101_code 89 = .ok (.ireturn, 1) := by decide +kernel
theorem d_M_book_90 : decode prog_14_method_101_code 90 = .ok (.iload_n 2, 1) := by decide +kernel
theorem d_M_book_91 : decode prog_14_method_101_code 91 = .ok (.iconst 3, 1) := by decide +kernel
theorem d_M_book_92 : decode prog_14_method_101_code 92 = .ok (.if_icmp .ne 11, 3) := by decide +kernel
theorem d_M_book_95 : decode prog_14_method_101_code 95 = .ok (.aload_n 0, 1) := by decide +kernel
theorem d_M_book_96 : decode prog_14_method_101_code 96 = .ok (.iload_n 1, 1) := by decide +kernel
theorem d_M_book_97 : decode prog_14_method_101_code 97 = .ok (.invokevirtual 387, 3) := by decide +kernel
theorem d_M_book_100 : decode prog_14_method_101_code 100 = .ok (.goto 37, 3) := by decide +kernel
theorem d_M_book_103 : decode prog_14_method_101_code 103 = .ok (.iload_n 2, 1) := by decide +kernel
theorem d_M_book_104 : decode prog_14_method_101_code 104 = .ok (.iconst 4, 1) := by decide +kernel
theorem d_M_book_105 : decode prog_14_method_101_code 105 = .ok (.if_icmp .ne 23, 3) := by decide +kernel
theorem d_M_book_108 : decode prog_14_method_101_code 108 = .ok (.aload_n 0, 1) := by decide +kernel
theorem d_M_book_109 : decode prog_14_method_101_code 109 = .ok (.iload_n 1, 1) := by decide +kernel
theorem d_M_book_110 : decode prog_14_method_101_code 110 = .ok (.invokevirtual 387, 3) := by decide +kernel
theorem d_M_book_113 : decode prog_14_method_101_code 113 = .ok (.ifCond .ge 11, 3) := by decide +kernel
theorem d_M_book_116 : decode prog_14_method_101_code 116 = .ok (.aload_n 0, 1) := by decide +kernel
theorem d_M_book_117 : decode prog_14_method_101_code 117 = .ok (.iload_n 1, 1) := by decide +kernel
theorem d_M_book_118 : decode prog_14_method_101_code 118 = .ok (.invokevirtual 390, 3) := by decide +kernel
theorem d_M_book_121 : decode prog_14_method_101_code 121 = .ok (.goto 16, 3) := by decide +kernel
theorem d_M_book_124 : decode prog_14_method_101_code 124 = .ok (.iconst (-1), 1) := by decide +kernel
theorem d_M_book_125 : decode prog_14_method_101_code 125 = .ok (.goto 12, 3) := by decide +kernel
theorem d_M_book_128 : decode prog_14_method_101_code 128 = .ok (.aload_n 0, 1) := by decide +kernel
theorem d_M_book_129 : decode prog_14_method_101_code 129 = .ok (.getfield 35, 3) := by decide +kernel
theorem d_M_book_132 : decode prog_14_method_101_code 132 = .ok (.bipush 100, 2) := by decide +kernel
theorem d_M_book_134 : decode prog_14_method_101_code 134 = .ok (.iload_n 1, 1) := by decide +kernel
theorem d_M_book_135 : decode prog_14_method_101_code 135 = .ok (.iadd, 1) := by decide +kernel
theorem d_M_book_136 : decode prog_14_method_101_code 136 = .ok (.iaload, 1) := by decide +kernel
theorem d_M_book_137 : decode prog_14_method_101_code 137 = .ok (.istore_n 3, 1) := by decide +kernel
theorem d_M_book_138 : decode prog_14_method_101_code 138 = .ok (.iload_n 3, 1) := by decide +kernel
theorem d_M_book_139 : decode prog_14_method_101_code 139 = .ok (.ifCond .ge 12, 3) := by decide +kernel
theorem d_M_book_142 : decode prog_14_method_101_code 142 = .ok (.aload_n 0, 1) := by decide +kernel
theorem d_M_book_143 : decode prog_14_method_101_code 143 = .ok (.bipush 8, 2) := by decide +kernel
theorem d_M_book_145 : decode prog_14_method_101_code 145 = .ok (.invokevirtual 367, 3) := by decide +kernel
theorem d_M_book_148 : decode prog_14_method_101_code 148 = .ok (.goto 4, 3) := by decide +kernel
theorem d_M_book_151 : decode prog_14_method_101_code 151 = .ok (.iload_n 3, 1) := by decide +kernel
theorem d_M_book_152 : decode prog_14_method_101_code 152 = .ok (.ireturn, 1) := by decide +kernel
def M_book (Y : Ly) (l0 : Nat) (l1 : Int32) (l2 : Int32) (h : Hp) : Option (Int32 × Hp) :=
  letH (hSi h 1201 l0 0) fun h1 =>
  letH (hSi h1 1200 l0 0) fun h2 =>
  (M_isBookAt Y l0 l1 h2).bind fun q3 =>
  if q3 = true then
    (M_isIn Y (Int32.toInt64 l2) 0 5 h2).bind fun q5 =>
    if q5 = true then
      if 3 ≤ l2 then
        if l2 = 3 then
          (M_placeOf Y l0 l1 h2).bind fun q9 =>
          if 0 ≤ q9 then
            some (q9, h2)
          else
            (M_refuse Y l0 8 h2).bind fun q11 =>
            some (q11.1, q11.2)
        else
          if l2 = 4 then
            (M_placeOf Y l0 l1 h2).bind fun q13 =>
            if 0 ≤ q13 then
              if 0 ≤ ((-1) : Int32) then
                some ((-1), h2)
              else
                (M_refuse Y l0 8 h2).bind fun q16 =>
                some (q16.1, q16.2)
            else
              (M_goesTo Y l0 l1 h2).bind fun q17 =>
              if 0 ≤ q17 then
                some (q17, h2)
              else
                (M_refuse Y l0 8 h2).bind fun q19 =>
                some (q19.1, q19.2)
          else
            if inB (100 + l1) (lnY Y (hGr h2 1220 l0)) = true then
              if 0 ≤ (hAi h2 (hGr h2 1220 l0) (Int32.toNatClampNeg (100 + l1))) then
                some (hAi h2 (hGr h2 1220 l0) (Int32.toNatClampNeg (100 + l1)), h2)
              else
                (M_refuse Y l0 8 h2).bind fun q23 =>
                some (q23.1, q23.2)
            else none
      else
        if l2 = 0 then
          if inB (82 + l1) (lnY Y (hGr h2 1220 l0)) = true then
            some (hAi h2 (hGr h2 1220 l0) (Int32.toNatClampNeg (82 + l1)), h2)
          else none
        else
          if l2 = 1 then
            if inB (94 + l1) (lnY Y (hGr h2 1220 l0)) = true then
              some (hAi h2 (hGr h2 1220 l0) (Int32.toNatClampNeg (94 + l1)), h2)
            else none
          else
            if inB (88 + l1) (lnY Y (hGr h2 1220 l0)) = true then
              some (hAi h2 (hGr h2 1220 l0) (Int32.toNatClampNeg (88 + l1)), h2)
            else none
    else
      (M_refuse Y l0 5 h2).bind fun q32 =>
      some (q32.1, q32.2)
  else
    (M_refuse Y l0 2 h2).bind fun q33 =>
    some (q33.1, q33.2)
theorem ok_M_book (Y : Ly) (l0 : Nat) (l1 : Int32) (l2 : Int32) (h : Hp) (t0 : isO Y 12 l0) : AM Y 2 K_M_book [.ref l0, .int l1, .int l2] h (M_book Y l0 l1 l2 h) rI := by
  refine AM.of rfl (Nat.le_of_ble_eq_true rfl) ?_
  show AW Y 2 K_M_book 0 [(0, .ref l0), (1, .int l1), (2, .int l2)] [] h (M_book Y l0 l1 l2 h) rI
  unfold M_book
  refine aw_aload_n (pc := 0) d_M_book_0 rfl 0 rfl ?_
  refine aw_iconst (pc := 1) (x := 0) d_M_book_1 (by decide) ?_
  refine pt_1201 (pc := 2) d_M_book_2 w7_28 t0 ?_
  refine aw_letH (fun h1 => ?_)
  refine aw_aload_n (pc := 5) d_M_book_5 rfl 0 rfl ?_
  refine aw_iconst (pc := 6) (x := 0) d_M_book_6 (by decide) ?_
  refine pt_1200 (pc := 7) d_M_book_7 w7_27 t0 ?_
  refine aw_letH (fun h2 => ?_)
  refine aw_aload_n (pc := 10) d_M_book_10 rfl 0 rfl ?_
  refine aw_iload_n (pc := 11) d_M_book_11 rfl 1 rfl ?_
  refine aw_cVpZ (pc := 12) (ci := 12) (T := TX12) (N := 44) (As := [.int l1]) (st := []) (ok_M_isBookAt Y l0 l1 h2 t0) okV_M_isBookAt rfl (by decide) t0 w9_40 d_M_book_12 rfl (Nat.le_of_ble_eq_true rfl) rfl (Nat.le_of_ble_eq_true rfl) (fun q3 hq3 hTq3 => ?_)
  refine aw_bne (pc := 15) (tgt := 24) d_M_book_15 (by decide) (fun c4 => ?_) (fun c4 => ?_)
  · refine aw_iload_n (pc := 24) d_M_book_24 rfl 2 rfl ?_
    refine aw_i2l (pc := 25) d_M_book_25 ?_
    refine aw_lconst (pc := 26) (x := 0) d_M_book_26 (by decide) ?_
    refine aw_ldc2 (pc := 27) d_M_book_27 w9_44 ?_
    refine aw_cSpZ (pc := 30) (As := [.long (Int32.toInt64 l2), .long 0, .long 5]) (st := []) (ok_M_isIn Y (Int32.toInt64 l2) 0 5 h2) okS_M_isIn w8_155 d_M_book_30 rfl (Nat.le_of_ble_eq_true rfl) rfl (Nat.le_of_ble_eq_true rfl) (fun q5 hq5 hTq5 => ?_)
    refine aw_bne (pc := 33) (tgt := 42) d_M_book_33 (by decide) (fun c6 => ?_) (fun c6 => ?_)
    · refine aw_iload_n (pc := 42) d_M_book_42 rfl 2 rfl ?_
      refine aw_iconst (pc := 43) (x := 3) d_M_book_43 (by decide) ?_
      refine aw_icmp_ge (pc := 44) (tgt := 90) d_M_book_44 (by decide) (fun c7 => ?_) (fun c7 => ?_)
      · refine aw_iload_n (pc := 90) d_M_book_90 rfl 2 rfl ?_
        refine aw_iconst (pc := 91) (x := 3) d_M_book_91 (by decide) ?_
        refine aw_icmp_ne (pc := 92) (tgt := 103) d_M_book_92 (by decide) (fun c8 => ?_) (fun c8 => ?_)
        · refine aw_aload_n (pc := 95) d_M_book_95 rfl 0 rfl ?_
          refine aw_iload_n (pc := 96) d_M_book_96 rfl 1 rfl ?_
          refine aw_cVpI (pc := 97) (ci := 12) (T := TX12) (N := 44) (As := [.int l1]) (st := []) (ok_M_placeOf Y l0 l1 h2 t0) okV_M_placeOf rfl (by decide) t0 w9_45 d_M_book_97 rfl (Nat.le_of_ble_eq_true rfl) rfl (Nat.le_of_ble_eq_true rfl) (fun q9 hq9 hTq9 => ?_)
          refine aw_goto (pc := 100) (tgt := 137) d_M_book_100 (by decide) ?_
          refine aw_istore_n (pc := 137) (lv' := [(3, .int q9), (0, .ref l0), (1, .int l1), (2, .int l2)]) d_M_book_137 rfl (by decide) rfl ?_
          refine aw_iload_n (pc := 138) d_M_book_138 rfl 0 rfl ?_
          refine aw_if_ge (pc := 139) (tgt := 151) d_M_book_139 (by decide) (fun c10 => ?_) (fun c10 => ?_)
          · refine aw_iload_n (pc := 151) d_M_book_151 rfl 0 rfl ?_
            exact aw_ireturn (pc := 152) d_M_book_152 rfl rfl
          · refine aw_aload_n (pc := 142) d_M_book_142 rfl 1 rfl ?_
            refine aw_bipush (pc := 143) (x := 8) d_M_book_143 (by decide) ?_
            refine aw_cVrI (pc := 145) (ci := 12) (T := TX12) (N := 44) (As := [.int 8]) (st := []) (ok_M_refuse Y l0 8 h2 t0) okV_M_refuse rfl (by decide) t0 w9_8 d_M_book_145 rfl (Nat.le_of_ble_eq_true rfl) rfl (Nat.le_of_ble_eq_true rfl) (fun q11 hq11 hTq11 => ?_)
            refine aw_goto (pc := 148) (tgt := 152) d_M_book_148 (by decide) ?_
            exact aw_ireturn (pc := 152) d_M_book_152 rfl rfl
        · refine aw_iload_n (pc := 103) d_M_book_103 rfl 2 rfl ?_
          refine aw_iconst (pc := 104) (x := 4) d_M_book_104 (by decide) ?_
          refine aw_icmp_ne (pc := 105) (tgt := 128) d_M_book_105 (by decide) (fun c12 => ?_) (fun c12 => ?_)
          · refine aw_aload_n (pc := 108) d_M_book_108 rfl 0 rfl ?_
            refine aw_iload_n (pc := 109) d_M_book_109 rfl 1 rfl ?_
            refine aw_cVpI (pc := 110) (ci := 12) (T := TX12) (N := 44) (As := [.int l1]) (st := []) (ok_M_placeOf Y l0 l1 h2 t0) okV_M_placeOf rfl (by decide) t0 w9_45 d_M_book_110 rfl (Nat.le_of_ble_eq_true rfl) rfl (Nat.le_of_ble_eq_true rfl) (fun q13 hq13 hTq13 => ?_)
            refine aw_if_ge (pc := 113) (tgt := 124) d_M_book_113 (by decide) (fun c14 => ?_) (fun c14 => ?_)
            · refine aw_iconst (pc := 124) (x := (-1)) d_M_book_124 (by decide) ?_
              refine aw_goto (pc := 125) (tgt := 137) d_M_book_125 (by decide) ?_
              refine aw_istore_n (pc := 137) (lv' := [(3, .int (-1)), (0, .ref l0), (1, .int l1), (2, .int l2)]) d_M_book_137 rfl (by decide) rfl ?_
              refine aw_iload_n (pc := 138) d_M_book_138 rfl 0 rfl ?_
              refine aw_if_ge (pc := 139) (tgt := 151) d_M_book_139 (by decide) (fun c15 => ?_) (fun c15 => ?_)
              · refine aw_iload_n (pc := 151) d_M_book_151 rfl 0 rfl ?_
                exact aw_ireturn (pc := 152) d_M_book_152 rfl rfl
              · refine aw_aload_n (pc := 142) d_M_book_142 rfl 1 rfl ?_
                refine aw_bipush (pc := 143) (x := 8) d_M_book_143 (by decide) ?_
                refine aw_cVrI (pc := 145) (ci := 12) (T := TX12) (N := 44) (As := [.int 8]) (st := []) (ok_M_refuse Y l0 8 h2 t0) okV_M_refuse rfl (by decide) t0 w9_8 d_M_book_145 rfl (Nat.le_of_ble_eq_true rfl) rfl (Nat.le_of_ble_eq_true rfl) (fun q16 hq16 hTq16 => ?_)
                refine aw_goto (pc := 148) (tgt := 152) d_M_book_148 (by decide) ?_
                exact aw_ireturn (pc := 152) d_M_book_152 rfl rfl
            · refine aw_aload_n (pc := 116) d_M_book_116 rfl 0 rfl ?_
              refine aw_iload_n (pc := 117) d_M_book_117 rfl 1 rfl ?_
              refine aw_cVpI (pc := 118) (ci := 12) (T := TX12) (N := 44) (As := [.int l1]) (st := []) (ok_M_goesTo Y l0 l1 h2 t0) okV_M_goesTo rfl (by decide) t0 w9_49 d_M_book_118 rfl (Nat.le_of_ble_eq_true rfl) rfl (Nat.le_of_ble_eq_true rfl) (fun q17 hq17 hTq17 => ?_)
              refine aw_goto (pc := 121) (tgt := 137) d_M_book_121 (by decide) ?_
              refine aw_istore_n (pc := 137) (lv' := [(3, .int q17), (0, .ref l0), (1, .int l1), (2, .int l2)]) d_M_book_137 rfl (by decide) rfl ?_
              refine aw_iload_n (pc := 138) d_M_book_138 rfl 0 rfl ?_
              refine aw_if_ge (pc := 139) (tgt := 151) d_M_book_139 (by decide) (fun c18 => ?_) (fun c18 => ?_)
              · refine aw_iload_n (pc := 151) d_M_book_151 rfl 0 rfl ?_
                exact aw_ireturn (pc := 152) d_M_book_152 rfl rfl
              · refine aw_aload_n (pc := 142) d_M_book_142 rfl 1 rfl ?_
                refine aw_bipush (pc := 143) (x := 8) d_M_book_143 (by decide) ?_
                refine aw_cVrI (pc := 145) (ci := 12) (T := TX12) (N := 44) (As := [.int 8]) (st := []) (ok_M_refuse Y l0 8 h2 t0) okV_M_refuse rfl (by decide) t0 w9_8 d_M_book_145 rfl (Nat.le_of_ble_eq_true rfl) rfl (Nat.le_of_ble_eq_true rfl) (fun q19 hq19 hTq19 => ?_)
                refine aw_goto (pc := 148) (tgt := 152) d_M_book_148 (by decide) ?_
                exact aw_ireturn (pc := 152) d_M_book_152 rfl rfl
          · refine aw_aload_n (pc := 128) d_M_book_128 rfl 0 rfl ?_
            refine gt_1220 (pc := 129) d_M_book_129 w7_47 t0 (fun tt20 => ?_)
            refine aw_bipush (pc := 132) (x := 100) d_M_book_132 (by decide) ?_
            refine aw_iload_n (pc := 134) d_M_book_134 rfl 1 rfl ?_
            refine aw_iadd (pc := 135) d_M_book_135 ?_
            refine aw_iaload (pc := 136) d_M_book_136 tt20 (fun c21 => ?_)
            refine aw_istore_n (pc := 137) (lv' := [(3, .int (hAi h2 (hGr h2 1220 l0) (Int32.toNatClampNeg (100 + l1)))), (0, .ref l0), (1, .int l1), (2, .int l2)]) d_M_book_137 rfl (by decide) rfl ?_
            refine aw_iload_n (pc := 138) d_M_book_138 rfl 0 rfl ?_
            refine aw_if_ge (pc := 139) (tgt := 151) d_M_book_139 (by decide) (fun c22 => ?_) (fun c22 => ?_)
            · refine aw_iload_n (pc := 151) d_M_book_151 rfl 0 rfl ?_
              exact aw_ireturn (pc := 152) d_M_book_152 rfl rfl
            · refine aw_aload_n (pc := 142) d_M_book_142 rfl 1 rfl ?_
              refine aw_bipush (pc := 143) (x := 8) d_M_book_143 (by decide) ?_
              refine aw_cVrI (pc := 145) (ci := 12) (T := TX12) (N := 44) (As := [.int 8]) (st := []) (ok_M_refuse Y l0 8 h2 t0) okV_M_refuse rfl (by decide) t0 w9_8 d_M_book_145 rfl (Nat.le_of_ble_eq_true rfl) rfl (Nat.le_of_ble_eq_true rfl) (fun q23 hq23 hTq23 => ?_)
              refine aw_goto (pc := 148) (tgt := 152) d_M_book_148 (by decide) ?_
              exact aw_ireturn (pc := 152) d_M_book_152 rfl rfl
      · refine aw_iload_n (pc := 47) d_M_book_47 rfl 2 rfl ?_
        refine aw_if_ne (pc := 48) (tgt := 63) d_M_book_48 (by decide) (fun c24 => ?_) (fun c24 => ?_)
        · refine aw_aload_n (pc := 51) d_M_book_51 rfl 0 rfl ?_
          refine gt_1220 (pc := 52) d_M_book_52 w7_47 t0 (fun tt25 => ?_)
          refine aw_bipush (pc := 55) (x := 82) d_M_book_55 (by decide) ?_
          refine aw_iload_n (pc := 57) d_M_book_57 rfl 1 rfl ?_
          refine aw_iadd (pc := 58) d_M_book_58 ?_
          refine aw_iaload (pc := 59) d_M_book_59 tt25 (fun c26 => ?_)
          refine aw_goto (pc := 60) (tgt := 89) d_M_book_60 (by decide) ?_
          exact aw_ireturn (pc := 89) d_M_book_89 rfl rfl
        · refine aw_iload_n (pc := 63) d_M_book_63 rfl 2 rfl ?_
          refine aw_iconst (pc := 64) (x := 1) d_M_book_64 (by decide) ?_
          refine aw_icmp_ne (pc := 65) (tgt := 80) d_M_book_65 (by decide) (fun c27 => ?_) (fun c27 => ?_)
          · refine aw_aload_n (pc := 68) d_M_book_68 rfl 0 rfl ?_
            refine gt_1220 (pc := 69) d_M_book_69 w7_47 t0 (fun tt28 => ?_)
            refine aw_bipush (pc := 72) (x := 94) d_M_book_72 (by decide) ?_
            refine aw_iload_n (pc := 74) d_M_book_74 rfl 1 rfl ?_
            refine aw_iadd (pc := 75) d_M_book_75 ?_
            refine aw_iaload (pc := 76) d_M_book_76 tt28 (fun c29 => ?_)
            refine aw_goto (pc := 77) (tgt := 89) d_M_book_77 (by decide) ?_
            exact aw_ireturn (pc := 89) d_M_book_89 rfl rfl
          · refine aw_aload_n (pc := 80) d_M_book_80 rfl 0 rfl ?_
            refine gt_1220 (pc := 81) d_M_book_81 w7_47 t0 (fun tt30 => ?_)
            refine aw_bipush (pc := 84) (x := 88) d_M_book_84 (by decide) ?_
            refine aw_iload_n (pc := 86) d_M_book_86 rfl 1 rfl ?_
            refine aw_iadd (pc := 87) d_M_book_87 ?_
            refine aw_iaload (pc := 88) d_M_book_88 tt30 (fun c31 => ?_)
            exact aw_ireturn (pc := 89) d_M_book_89 rfl rfl
    · refine aw_aload_n (pc := 36) d_M_book_36 rfl 0 rfl ?_
      refine aw_iconst (pc := 37) (x := 5) d_M_book_37 (by decide) ?_
      refine aw_cVrI (pc := 38) (ci := 12) (T := TX12) (N := 44) (As := [.int 5]) (st := []) (ok_M_refuse Y l0 5 h2 t0) okV_M_refuse rfl (by decide) t0 w9_8 d_M_book_38 rfl (Nat.le_of_ble_eq_true rfl) rfl (Nat.le_of_ble_eq_true rfl) (fun q32 hq32 hTq32 => ?_)
      exact aw_ireturn (pc := 41) d_M_book_41 rfl rfl
  · refine aw_aload_n (pc := 18) d_M_book_18 rfl 0 rfl ?_
    refine aw_iconst (pc := 19) (x := 2) d_M_book_19 (by decide) ?_
    refine aw_cVrI (pc := 20) (ci := 12) (T := TX12) (N := 44) (As := [.int 2]) (st := []) (ok_M_refuse Y l0 2 h2 t0) okV_M_refuse rfl (by decide) t0 w9_8 d_M_book_20 rfl (Nat.le_of_ble_eq_true rfl) rfl (Nat.le_of_ble_eq_true rfl) (fun q33 hq33 hTq33 => ?_)
    exact aw_ireturn (pc := 23) d_M_book_23 rfl rfl
/-! LastPagesModel.booksOf(I)I -/
theorem d_M_booksOf_0 : decode prog_14_method_138_code 0 = .ok (.aload_n 0, 1) := by decide +kernel
theorem d_M_booksOf_1 : decode prog_14_method_138_code 1 = .ok (.iconst 0, 1) := by decide +kernel
theorem d_M_booksOf_2 : decode prog_14_method_138_code 2 = .ok (.putfield 78, 3) := by decide +kernel
theorem d_M_booksOf_5 : decode prog_14_method_138_code 5 = .ok (.aload_n 0, 1) := by decide +kernel
theorem d_M_booksOf_6 : decode prog_14_method_138_code 6 = .ok (.iconst 0, 1) := by decide +kernel
theorem d_M_booksOf_7 : decode prog_14_method_138_code 7 = .ok (.putfield 81, 3) := by decide +kernel
theorem d_M_booksOf_10 : decode prog_14_method_138_code 10 = .ok (.aload_n 0, 1) := by decide +kernel
theorem d_M_booksOf_11 : decode prog_14_method_138_code 11 = .ok (.iload_n 1, 1) := by decide +kernel
theorem d_M_booksOf_12 : decode prog_14_method_138_code 12 = .ok (.invokevirtual 393, 3) := by decide +kernel
theorem d_M_booksOf_15 : decode prog_14_method_138_code 15 = .ok (.ifCond .ne 9, 3) := by decide +kernel
theorem d_M_booksOf_18 : decode prog_14_method_138_code 18 = .ok (.aload_n 0, 1) := by decide +kernel
theorem d_M_booksOf_19 : decode prog_14_method_138_code 19 = .ok (.iconst 2, 1) := by decide +kernel
theorem d_M_booksOf_20 : decode prog_14_method_138_code 20 = .ok (.invokevirtual 367, 3) := by decide +kernel
theorem d_M_booksOf_23 : decode prog_14_method_138_code 23 = .ok (.ireturn, 1) := by decide +kernel
theorem d_M_booksOf_24 : decode prog_14_method_138_code 24 = .ok (.iconst 0, 1) := by decide +kernel
theorem d_M_booksOf_25 : decode prog_14_method_138_code 25 = .ok (.istore_n 2, 1) := by decide +kernel
theorem d_M_booksOf_26 : decode prog_14_method_138_code 26 = .ok (.iconst 0, 1) := by decide +kernel
theorem d_M_booksOf_27 : decode prog_14_method_138_code 27 = .ok (.istore_n 3, 1) := by decide +kernel
theorem d_M_booksOf_28 : decode prog_14_method_138_code 28 = .ok (.iload_n 3, 1) := by decide +kernel
theorem d_M_booksOf_29 : decode prog_14_method_138_code 29 = .ok (.aload_n 0, 1) := by decide +kernel
theorem d_M_booksOf_30 : decode prog_14_method_138_code 30 = .ok (.getfield 35, 3) := by decide +kernel
theorem d_M_booksOf_33 : decode prog_14_method_138_code 33 = .ok (.iconst 2, 1) := by decide +kernel
theorem d_M_booksOf_34 : decode prog_14_method_138_code 34 = .ok (.iaload, 1) := by decide +kernel
theorem d_M_booksOf_35 : decode prog_14_method_138_code 35 = .ok (.if_icmp .ge 28, 3) := by decide +kernel
theorem d_M_booksOf_38 : decode prog_14_method_138_code 38 = .ok (.iload_n 2, 1) := by decide +kernel
theorem d_M_booksOf_39 : decode prog_14_method_138_code 39 = .ok (.aload_n 0, 1) := by decide +kernel
theorem d_M_booksOf_40 : decode prog_14_method_138_code 40 = .ok (.iload_n 3, 1) := by decide +kernel
theorem d_M_booksOf_41 : decode prog_14_method_138_code 41 = .ok (.iload_n 1, 1) := by decide +kernel
theorem d_M_booksOf_42 : decode prog_14_method_138_code 42 = .ok (.invokevirtual 414, 3) := by decide +kernel
theorem d_M_booksOf_45 : decode prog_14_method_138_code 45 = .ok (.ifCond .eq 9, 3) := by decide +kernel
theorem d_M_booksOf_48 : decode prog_14_method_138_code 48 = .ok (.iconst 1, 1) := by decide +kernel
theorem d_M_booksOf_49 : decode prog_14_method_138_code 49 = .ok (.iload_n 3, 1) := by decide +kernel
theorem d_M_booksOf_50 : decode prog_14_method_138_code 50 = .ok (.ishl, 1) := by decide +kernel
theorem d_M_booksOf_51 : decode prog_14_method_138_code 51 = .ok (.goto 4, 3) := by decide +kernel
theorem d_M_booksOf_54 : decode prog_14_method_138_code 54 = .ok (.iconst 0, 1) := by decide +kernel
theorem d_M_booksOf_55 : decode prog_14_method_138_code 55 = .ok (.ior, 1) := by decide +kernel
theorem d_M_booksOf_56 : decode prog_14_method_138_code 56 = .ok (.istore_n 2, 1) := by decide +kernel
theorem d_M_booksOf_57 : decode prog_14_method_138_code 57 = .ok (.iinc 3 1, 3) := by decide +kernel
theorem d_M_booksOf_60 : decode prog_14_method_138_code 60 = .ok (.goto (-32), 3) := by decide +kernel
theorem d_M_booksOf_63 : decode prog_14_method_138_code 63 = .ok (.iload_n 2, 1) := by decide +kernel
theorem d_M_booksOf_64 : decode prog_14_method_138_code 64 = .ok (.ireturn, 1) := by decide +kernel
def M_booksOf_L28 (Y : Ly) (l0 : Nat) (l1 : Int32) (h : Hp) : Nat → Int32 → Int32 → Option (Int32 × Hp)
  | 0, _, _ => none
  | F + 1, l2, l3 =>
    if inB 2 (lnY Y (hGr h 1220 l0)) = true then
      if (hAi h (hGr h 1220 l0) (Int32.toNatClampNeg 2)) ≤ l3 then
        some (l2, h)
      else
        (M_isFit Y l0 l3 l1 h).bind fun q8 =>
        if q8 = true then
          M_booksOf_L28 Y l0 l1 h F (l2 ||| ((1 : Int32) <<< (l3 &&& 31))) (l3 + 1)
        else
          M_booksOf_L28 Y l0 l1 h F (l2 ||| 0) (l3 + 1)
    else none
theorem M_booksOf_L28_ok (Y : Ly) (l0 : Nat) (l1 : Int32) (h : Hp) (tl0 : isO Y 12 l0) : ∀ (F : Nat) (l2 : Int32) (l3 : Int32), AW Y 4 K_M_booksOf 28 [(0, .ref l0), (1, .int l1), (2, .int l2), (3, .int l3)] [] h (M_booksOf_L28 Y l0 l1 h F l2 l3) rI := by
  intro F
  induction F with
  | zero =>
    intro l2 l3
    exact aw_none
  | succ F ih =>
    intro l2 l3
    unfold M_booksOf_L28
    refine aw_iload_n (pc := 28) d_M_booksOf_28 rfl 3 rfl ?_
    refine aw_aload_n (pc := 29) d_M_booksOf_29 rfl 0 rfl ?_
    refine gt_1220 (pc := 30) d_M_booksOf_30 w7_47 tl0 (fun tt5 => ?_)
    refine aw_iconst (pc := 33) (x := 2) d_M_booksOf_33 (by decide) ?_
    refine aw_iaload (pc := 34) d_M_booksOf_34 tt5 (fun c6 => ?_)
    refine aw_icmp_ge (pc := 35) (tgt := 63) d_M_booksOf_35 (by decide) (fun c7 => ?_) (fun c7 => ?_)
    · refine aw_iload_n (pc := 63) d_M_booksOf_63 rfl 2 rfl ?_
      exact aw_ireturn (pc := 64) d_M_booksOf_64 rfl rfl
    · refine aw_iload_n (pc := 38) d_M_booksOf_38 rfl 2 rfl ?_
      refine aw_aload_n (pc := 39) d_M_booksOf_39 rfl 0 rfl ?_
      refine aw_iload_n (pc := 40) d_M_booksOf_40 rfl 3 rfl ?_
      refine aw_iload_n (pc := 41) d_M_booksOf_41 rfl 1 rfl ?_
      refine aw_cVpZ (pc := 42) (ci := 12) (T := TX12) (N := 44) (As := [.int l3, .int l1]) (st := [.int l2]) (ok_M_isFit Y l0 l3 l1 h tl0) okV_M_isFit rfl (by decide) tl0 w9_98 d_M_booksOf_42 rfl (Nat.le_of_ble_eq_true rfl) rfl (Nat.le_of_ble_eq_true rfl) (fun q8 hq8 hTq8 => ?_)
      refine aw_beq (pc := 45) (tgt := 54) d_M_booksOf_45 (by decide) (fun c9 => ?_) (fun c9 => ?_)
      · refine aw_iconst (pc := 48) (x := 1) d_M_booksOf_48 (by decide) ?_
        refine aw_iload_n (pc := 49) d_M_booksOf_49 rfl 3 rfl ?_
        refine aw_ishl (pc := 50) d_M_booksOf_50 ?_
        refine aw_goto (pc := 51) (tgt := 55) d_M_booksOf_51 (by decide) ?_
        refine aw_ior (pc := 55) d_M_booksOf_55 ?_
        refine aw_istore_n (pc := 56) (lv' := [(2, .int (l2 ||| ((1 : Int32) <<< (l3 &&& 31)))), (0, .ref l0), (1, .int l1), (3, .int l3)]) d_M_booksOf_56 rfl (by decide) rfl ?_
        refine aw_iinc (pc := 57) (w := l3 + 1) (lv' := [(3, .int (l3 + 1)), (2, .int (l2 ||| ((1 : Int32) <<< (l3 &&& 31)))), (0, .ref l0), (1, .int l1)]) d_M_booksOf_57 3 rfl rfl (by decide) rfl ?_
        refine aw_goto (pc := 60) (tgt := 28) d_M_booksOf_60 (by decide) ?_
        exact aw_lv [2, 3, 1, 0] rfl (ih (l2 ||| ((1 : Int32) <<< (l3 &&& 31))) (l3 + 1))
      · refine aw_iconst (pc := 54) (x := 0) d_M_booksOf_54 (by decide) ?_
        refine aw_ior (pc := 55) d_M_booksOf_55 ?_
        refine aw_istore_n (pc := 56) (lv' := [(2, .int (l2 ||| 0)), (0, .ref l0), (1, .int l1), (3, .int l3)]) d_M_booksOf_56 rfl (by decide) rfl ?_
        refine aw_iinc (pc := 57) (w := l3 + 1) (lv' := [(3, .int (l3 + 1)), (2, .int (l2 ||| 0)), (0, .ref l0), (1, .int l1)]) d_M_booksOf_57 3 rfl rfl (by decide) rfl ?_
        refine aw_goto (pc := 60) (tgt := 28) d_M_booksOf_60 (by decide) ?_
        exact aw_lv [2, 3, 1, 0] rfl (ih (l2 ||| 0) (l3 + 1))
def M_booksOf (Y : Ly) (l0 : Nat) (l1 : Int32) (h : Hp) : Option (Int32 × Hp) :=
  letH (hSi h 1201 l0 0) fun h1 =>
  letH (hSi h1 1200 l0 0) fun h2 =>
  (M_isFinaleAt Y l0 l1 h2).bind fun q3 =>
  if q3 = true then
    M_booksOf_L28 Y l0 l1 h2 FU 0 0
  else
    (M_refuse Y l0 2 h2).bind fun q10 =>
    some (q10.1, q10.2)
theorem ok_M_booksOf (Y : Ly) (l0 : Nat) (l1 : Int32) (h : Hp) (t0 : isO Y 12 l0) : AM Y 4 K_M_booksOf [.ref l0, .int l1] h (M_booksOf Y l0 l1 h) rI := by
  refine AM.of rfl (Nat.le_of_ble_eq_true rfl) ?_
  show AW Y 4 K_M_booksOf 0 [(0, .ref l0), (1, .int l1)] [] h (M_booksOf Y l0 l1 h) rI
  unfold M_booksOf
  refine aw_aload_n (pc := 0) d_M_booksOf_0 rfl 0 rfl ?_
  refine aw_iconst (pc := 1) (x := 0) d_M_booksOf_1 (by decide) ?_
  refine pt_1201 (pc := 2) d_M_booksOf_2 w7_28 t0 ?_
  refine aw_letH (fun h1 => ?_)
  refine aw_aload_n (pc := 5) d_M_booksOf_5 rfl 0 rfl ?_
  refine aw_iconst (pc := 6) (x := 0) d_M_booksOf_6 (by decide) ?_
  refine pt_1200 (pc := 7) d_M_booksOf_7 w7_27 t0 ?_
  refine aw_letH (fun h2 => ?_)
  refine aw_aload_n (pc := 10) d_M_booksOf_10 rfl 0 rfl ?_
  refine aw_iload_n (pc := 11) d_M_booksOf_11 rfl 1 rfl ?_
  refine aw_cVpZ (pc := 12) (ci := 12) (T := TX12) (N := 44) (As := [.int l1]) (st := []) (ok_M_isFinaleAt Y l0 l1 h2 t0) okV_M_isFinaleAt rfl (by decide) t0 w9_61 d_M_booksOf_12 rfl (Nat.le_of_ble_eq_true rfl) rfl (Nat.le_of_ble_eq_true rfl) (fun q3 hq3 hTq3 => ?_)
  refine aw_bne (pc := 15) (tgt := 24) d_M_booksOf_15 (by decide) (fun c4 => ?_) (fun c4 => ?_)
  · refine aw_iconst (pc := 24) (x := 0) d_M_booksOf_24 (by decide) ?_
    refine aw_istore_n (pc := 25) (lv' := [(2, .int 0), (0, .ref l0), (1, .int l1)]) d_M_booksOf_25 rfl (by decide) rfl ?_
    refine aw_iconst (pc := 26) (x := 0) d_M_booksOf_26 (by decide) ?_
    refine aw_istore_n (pc := 27) (lv' := [(3, .int 0), (2, .int 0), (0, .ref l0), (1, .int l1)]) d_M_booksOf_27 rfl (by decide) rfl ?_
    exact aw_lv [2, 3, 1, 0] rfl (M_booksOf_L28_ok Y l0 l1 h2 t0 FU 0 0)
  · refine aw_aload_n (pc := 18) d_M_booksOf_18 rfl 0 rfl ?_
    refine aw_iconst (pc := 19) (x := 2) d_M_booksOf_19 (by decide) ?_
    refine aw_cVrI (pc := 20) (ci := 12) (T := TX12) (N := 44) (As := [.int 2]) (st := []) (ok_M_refuse Y l0 2 h2 t0) okV_M_refuse rfl (by decide) t0 w9_8 d_M_booksOf_20 rfl (Nat.le_of_ble_eq_true rfl) rfl (Nat.le_of_ble_eq_true rfl) (fun q10 hq10 hTq10 => ?_)
    exact aw_ireturn (pc := 23) d_M_booksOf_23 rfl rfl
/-! LastPagesModel.bottom()J -/
theorem d_M_bottom_0 : decode prog_14_method_5_code 0 = .ok (.aload_n 0, 1) := by decide +kernel
theorem d_M_bottom_1 : decode prog_14_method_5_code 1 = .ok (.iconst 0, 1) := by decide +kernel
theorem d_M_bottom_2 : decode prog_14_method_5_code 2 = .ok (.putfield 78, 3) := by decide +kernel
theorem d_M_bottom_5 : decode prog_14_method_5_code 5 = .ok (.aload_n 0, 1) := by decide +kernel
theorem d_M_bottom_6 : decode prog_14_method_5_code 6 = .ok (.getfield 7, 3) := by decide +kernel
theorem d_M_bottom_9 : decode prog_14_method_5_code 9 = .ok (.lreturn, 1) := by decide +kernel
def M_bottom (Y : Ly) (l0 : Nat) (h : Hp) : Option (Int64 × Hp) :=
  letH (hSi h 1201 l0 0) fun h1 =>
  some (hGl h1 1203 l0, h1)
theorem ok_M_bottom (Y : Ly) (l0 : Nat) (h : Hp) (t0 : isO Y 12 l0) : AM Y 0 K_M_bottom [.ref l0] h (M_bottom Y l0 h) rL := by
  refine AM.of rfl (Nat.le_of_ble_eq_true rfl) ?_
  show AW Y 0 K_M_bottom 0 [(0, .ref l0)] [] h (M_bottom Y l0 h) rL
  unfold M_bottom
  refine aw_aload_n (pc := 0) d_M_bottom_0 rfl 0 rfl ?_
  refine aw_iconst (pc := 1) (x := 0) d_M_bottom_1 (by decide) ?_
  refine pt_1201 (pc := 2) d_M_bottom_2 w7_28 t0 ?_
  refine aw_letH (fun h1 => ?_)
  refine aw_aload_n (pc := 5) d_M_bottom_5 rfl 0 rfl ?_
  refine gt_1203 (pc := 6) d_M_bottom_6 w7_30 t0 ?_
  exact aw_lreturn (pc := 9) d_M_bottom_9 rfl rfl
/-! LastPagesModel.bound()I -/
theorem d_M_bound_0 : decode prog_14_method_95_code 0 = .ok (.iconst 0, 1) := by decide +kernel
theorem d_M_bound_1 : decode prog_14_method_95_code 1 = .ok (.istore_n 1, 1) := by decide +kernel
theorem d_M_bound_2 : decode prog_14_method_95_code 2 = .ok (.iconst 0, 1) := by decide +kernel
theorem d_M_bound_3 : decode prog_14_method_95_code 3 = .ok (.istore_n 2, 1) := by decide +kernel
theorem d_M_bound_4 : decode prog_14_method_95_code 4 = .ok (.iload_n 2, 1) := by decide +kernel
theorem d_M_bound_5 : decode prog_14_method_95_code 5 = .ok (.aload_n 0, 1) := by decide +kernel
theorem d_M_bound_6 : decode prog_14_method_95_code 6 = .ok (.getfield 35, 3) := by decide +kernel
theorem d_M_bound_9 : decode prog_14_method_95_code 9 = .ok (.iconst 2, 1) := by decide +kernel
theorem d_M_bound_10 : decode prog_14_method_95_code 10 = .ok (.iaload, 1) := by decide +kernel
theorem d_M_bound_11 : decode prog_14_method_95_code 11 = .ok (.if_icmp .ge 31, 3) := by decide +kernel
theorem d_M_bound_14 : decode prog_14_method_95_code 14 = .ok (.iload_n 1, 1) := by decide +kernel
theorem d_M_bound_15 : decode prog_14_method_95_code 15 = .ok (.aload_n 0, 1) := by decide +kernel
theorem d_M_bound_16 : decode prog_14_method_95_code 16 = .ok (.getfield 35, 3) := by decide +kernel
theorem d_M_bound_19 : decode prog_14_method_95_code 19 = .ok (.bipush 100, 2) := by decide +kernel
theorem d_M_bound_21 : decode prog_14_method_95_code 21 = .ok (.iload_n 2, 1) := by decide +kernel
theorem d_M_bound_22 : decode prog_14_method_95_code 22 = .ok (.iadd, 1) := by decide +kernel
theorem d_M_bound_23 : decode prog_14_method_95_code 23 = .ok (.iaload, 1) := by decide +kernel
theorem d_M_bound_24 : decode prog_14_method_95_code 24 = .ok (.ifCond .ge 7, 3) := by decide +kernel
theorem d_M_bound_27 : decode prog_14_method_95_code 27 = .ok (.iconst 0, 1) := by decide +kernel
theorem d_M_bound_28 : decode prog_14_method_95_code 28 = .ok (.goto 6, 3) := by decide +kernel
theorem d_M_bound_31 : decode prog_14_method_95_code 31 = .ok (.iconst 1, 1) := by decide +kernel
theorem d_M_bound_32 : decode prog_14_method_95_code 32 = .ok (.iload_n 2, 1) := by decide +kernel
theorem d_M_bound_33 : decode prog_14_method_95_code 33 = .ok (.ishl, 1) := by decide +kernel
theorem d_M_bound_34 : decode prog_14_method_95_code 34 = .ok (.ior, 1) := by decide +kernel
theorem d_M_bound_35 : decode prog_14_method_95_code 35 = .ok (.istore_n 1, 1) := by decide +kernel
theorem d_M_bound_36 : decode prog_14_method_95_code 36 = .ok (.iinc 2 1, 3) := by decide +kernel
theorem d_M_bound_39 : decode prog_14_method_95_code 39 = .ok (.goto (-35), 3) := by decide +kernel
theorem d_M_bound_42 : decode prog_14_method_95_code 42 = .ok (.iload_n 1, 1) := by decide +kernel
theorem d_M_bound_43 : decode prog_14_method_95_code 43 = .ok (.ireturn, 1) := by decide +kernel
def M_bound_L4 (Y : Ly) (l0 : Nat) (h : Hp) : Nat → Int32 → Int32 → Option Int32
  | 0, _, _ => none
  | F + 1, l1, l2 =>
    if inB 2 (lnY Y (hGr h 1220 l0)) = true then
      if (hAi h (hGr h 1220 l0) (Int32.toNatClampNeg 2)) ≤ l2 then
        some l1
      else
        if inB (100 + l2) (lnY Y (hGr h 1220 l0)) = true then
          if 0 ≤ (hAi h (hGr h 1220 l0) (Int32.toNatClampNeg (100 + l2))) then
            M_bound_L4 Y l0 h F (l1 ||| ((1 : Int32) <<< (l2 &&& 31))) (l2 + 1)
          else
            M_bound_L4 Y l0 h F (l1 ||| 0) (l2 + 1)
        else none
    else none
theorem M_bound_L4_ok (Y : Ly) (l0 : Nat) (h : Hp) (tl0 : isO Y 12 l0) : ∀ (F : Nat) (l1 : Int32) (l2 : Int32), AW Y 0 K_M_bound 4 [(0, .ref l0), (1, .int l1), (2, .int l2)] [] h (M_bound_L4 Y l0 h F l1 l2) (pI h) := by
  intro F
  induction F with
  | zero =>
    intro l1 l2
    exact aw_none
  | succ F ih =>
    intro l1 l2
    unfold M_bound_L4
    refine aw_iload_n (pc := 4) d_M_bound_4 rfl 2 rfl ?_
    refine aw_aload_n (pc := 5) d_M_bound_5 rfl 0 rfl ?_
    refine gt_1220 (pc := 6) d_M_bound_6 w7_47 tl0 (fun tt1 => ?_)
    refine aw_iconst (pc := 9) (x := 2) d_M_bound_9 (by decide) ?_
    refine aw_iaload (pc := 10) d_M_bound_10 tt1 (fun c2 => ?_)
    refine aw_icmp_ge (pc := 11) (tgt := 42) d_M_bound_11 (by decide) (fun c3 => ?_) (fun c3 => ?_)
    · refine aw_iload_n (pc := 42) d_M_bound_42 rfl 1 rfl ?_
      exact aw_ireturn (pc := 43) d_M_bound_43 rfl rfl
    · refine aw_iload_n (pc := 14) d_M_bound_14 rfl 1 rfl ?_
      refine aw_aload_n (pc := 15) d_M_bound_15 rfl 0 rfl ?_
      refine gt_1220 (pc := 16) d_M_bound_16 w7_47 tl0 (fun tt4 => ?_)
      refine aw_bipush (pc := 19) (x := 100) d_M_bound_19 (by decide) ?_
      refine aw_iload_n (pc := 21) d_M_bound_21 rfl 2 rfl ?_
      refine aw_iadd (pc := 22) d_M_bound_22 ?_
      refine aw_iaload (pc := 23) d_M_bound_23 tt4 (fun c5 => ?_)
      refine aw_if_ge (pc := 24) (tgt := 31) d_M_bound_24 (by decide) (fun c6 => ?_) (fun c6 => ?_)
      · refine aw_iconst (pc := 31) (x := 1) d_M_bound_31 (by decide) ?_
        refine aw_iload_n (pc := 32) d_M_bound_32 rfl 2 rfl ?_
        refine aw_ishl (pc := 33) d_M_bound_33 ?_
        refine aw_ior (pc := 34) d_M_bound_34 ?_
        refine aw_istore_n (pc := 35) (lv' := [(1, .int (l1 ||| ((1 : Int32) <<< (l2 &&& 31)))), (0, .ref l0), (2, .int l2)]) d_M_bound_35 rfl (by decide) rfl ?_
        refine aw_iinc (pc := 36) (w := l2 + 1) (lv' := [(2, .int (l2 + 1)), (1, .int (l1 ||| ((1 : Int32) <<< (l2 &&& 31)))), (0, .ref l0)]) d_M_bound_36 2 rfl rfl (by decide) rfl ?_
        refine aw_goto (pc := 39) (tgt := 4) d_M_bound_39 (by decide) ?_
        exact aw_lv [2, 1, 0] rfl (ih (l1 ||| ((1 : Int32) <<< (l2 &&& 31))) (l2 + 1))
      · refine aw_iconst (pc := 27) (x := 0) d_M_bound_27 (by decide) ?_
        refine aw_goto (pc := 28) (tgt := 34) d_M_bound_28 (by decide) ?_
        refine aw_ior (pc := 34) d_M_bound_34 ?_
        refine aw_istore_n (pc := 35) (lv' := [(1, .int (l1 ||| 0)), (0, .ref l0), (2, .int l2)]) d_M_bound_35 rfl (by decide) rfl ?_
        refine aw_iinc (pc := 36) (w := l2 + 1) (lv' := [(2, .int (l2 + 1)), (1, .int (l1 ||| 0)), (0, .ref l0)]) d_M_bound_36 2 rfl rfl (by decide) rfl ?_
        refine aw_goto (pc := 39) (tgt := 4) d_M_bound_39 (by decide) ?_
        exact aw_lv [2, 1, 0] rfl (ih (l1 ||| 0) (l2 + 1))
def M_bound (Y : Ly) (l0 : Nat) (h : Hp) : Option Int32 :=
  M_bound_L4 Y l0 h FU 0 0
theorem ok_M_bound (Y : Ly) (l0 : Nat) (h : Hp) (t0 : isO Y 12 l0) : AM Y 0 K_M_bound [.ref l0] h (M_bound Y l0 h) (pI h) := by
  refine AM.of rfl (Nat.le_of_ble_eq_true rfl) ?_
  show AW Y 0 K_M_bound 0 [(0, .ref l0)] [] h (M_bound Y l0 h) (pI h)
  unfold M_bound
  refine aw_iconst (pc := 0) (x := 0) d_M_bound_0 (by decide) ?_
  refine aw_istore_n (pc := 1) (lv' := [(1, .int 0), (0, .ref l0)]) d_M_bound_1 rfl (by decide) rfl ?_
  refine aw_iconst (pc := 2) (x := 0) d_M_bound_2 (by decide) ?_
  refine aw_istore_n (pc := 3) (lv' := [(2, .int 0), (1, .int 0), (0, .ref l0)]) d_M_bound_3 rfl (by decide) rfl ?_
  exact aw_lv [2, 1, 0] rfl (M_bound_L4_ok Y l0 h t0 FU 0 0)
/-! LastPagesModel.costOf(I)I -/
theorem d_M_costOf_0 : decode prog_14_method_159_code 0 = .ok (.iconst 0, 1) := by decide +kernel
theorem d_M_costOf_1 : decode prog_14_method_159_code 1 = .ok (.istore_n 2, 1) := by decide +kernel
theorem d_M_costOf_2 : decode prog_14_method_159_code 2 = .ok (.iconst 0, 1) := by decide +kernel
theorem d_M_costOf_3 : decode prog_14_method_159_code 3 = .ok (.istore_n 3, 1) := by decide +kernel
theorem d_M_costOf_4 : decode prog_14_method_159_code 4 = .ok (.iload_n 3, 1) := by decide +kernel
theorem d_M_costOf_5 : decode prog_14_method_159_code 5 = .ok (.aload_n 0, 1) := by decide +kernel
theorem d_M_costOf_6 : decode prog_14_method_159_code 6 = .ok (.getfield 35, 3) := by decide +kernel
theorem d_M_costOf_9 : decode prog_14_method_159_code 9 = .ok (.bipush 6, 2) := by decide +kernel
theorem d_M_costOf_11 : decode prog_14_method_159_code 11 = .ok (.iaload, 1) := by decide +kernel
theorem d_M_costOf_12 : decode prog_14_method_159_code 12 = .ok (.if_icmp .ge 34, 3) := by decide +kernel
theorem d_M_costOf_15 : decode prog_14_method_159_code 15 = .ok (.iload_n 2, 1) := by decide +kernel
theorem d_M_costOf_16 : decode prog_14_method_159_code 16 = .ok (.iload_n 1, 1) := by decide +kernel
theorem d_M_costOf_17 : decode prog_14_method_159_code 17 = .ok (.iload_n 3, 1) := by decide +kernel
theorem d_M_costOf_18 : decode prog_14_method_159_code 18 = .ok (.invokestatic 117, 3) := by decide +kernel
theorem d_M_costOf_21 : decode prog_14_method_159_code 21 = .ok (.ifCond .eq 16, 3) := by decide +kernel
theorem d_M_costOf_24 : decode prog_14_method_159_code 24 = .ok (.aload_n 0, 1) := by decide +kernel
theorem d_M_costOf_25 : decode prog_14_method_159_code 25 = .ok (.getfield 35, 3) := by decide +kernel
theorem d_M_costOf_28 : decode prog_14_method_159_code 28 = .ok (.sipush 270, 3) := by decide +kernel
theorem d_M_costOf_31 : decode prog_14_method_159_code 31 = .ok (.iload_n 3, 1) := by decide +kernel
theorem d_M_costOf_32 : decode prog_14_method_159_code 32 = .ok (.iadd, 1) := by decide +kernel
theorem d_M_costOf_33 : decode prog_14_method_159_code 33 = .ok (.iaload, 1) := by decide +kernel
theorem d_M_costOf_34 : decode prog_14_method_159_code 34 = .ok (.goto 4, 3) := by decide +kernel
theorem d_M_costOf_37 : decode prog_14_method_159_code 37 = .ok (.iconst 0, 1) := by decide +kernel
theorem d_M_costOf_38 : decode prog_14_method_159_code 38 = .ok (.iadd, 1) := by decide +kernel
theorem d_M_costOf_39 : decode prog_14_method_159_code 39 = .ok (.istore_n 2, 1) := by decide +kernel
theorem d_M_costOf_40 : decode prog_14_method_159_code 40 = .ok (.iinc 3 1, 3) := by decide +kernel
theorem d_M_costOf_43 : decode prog_14_method_159_code 43 = .ok (.goto (-39), 3) := by decide +kernel
theorem d_M_costOf_46 : decode prog_14_method_159_code 46 = .ok (.iload_n 2, 1) := by decide +kernel
theorem d_M_costOf_47 : decode prog_14_method_159_code 47 = .ok (.ireturn, 1) := by decide +kernel
def M_costOf_L4 (Y : Ly) (l0 : Nat) (l1 : Int32) (h : Hp) : Nat → Int32 → Int32 → Option Int32
  | 0, _, _ => none
  | F + 1, l2, l3 =>
    if inB 6 (lnY Y (hGr h 1220 l0)) = true then
      if (hAi h (hGr h 1220 l0) (Int32.toNatClampNeg 6)) ≤ l3 then
        some l2
      else
        (M_has Y l1 l3 h).bind fun q4 =>
        if q4 = true then
          if inB (270 + l3) (lnY Y (hGr h 1220 l0)) = true then
            M_costOf_L4 Y l0 l1 h F (l2 + (hAi h (hGr h 1220 l0) (Int32.toNatClampNeg (270 + l3)))) (l3 + 1)
          else none
        else
          M_costOf_L4 Y l0 l1 h F (l2 + 0) (l3 + 1)
    else none
theorem M_costOf_L4_ok (Y : Ly) (l0 : Nat) (l1 : Int32) (h : Hp) (tl0 : isO Y 12 l0) : ∀ (F : Nat) (l2 : Int32) (l3 : Int32), AW Y 1 K_M_costOf 4 [(0, .ref l0), (1, .int l1), (2, .int l2), (3, .int l3)] [] h (M_costOf_L4 Y l0 l1 h F l2 l3) (pI h) := by
  intro F
  induction F with
  | zero =>
    intro l2 l3
    exact aw_none
  | succ F ih =>
    intro l2 l3
    unfold M_costOf_L4
    refine aw_iload_n (pc := 4) d_M_costOf_4 rfl 3 rfl ?_
    refine aw_aload_n (pc := 5) d_M_costOf_5 rfl 0 rfl ?_
    refine gt_1220 (pc := 6) d_M_costOf_6 w7_47 tl0 (fun tt1 => ?_)
    refine aw_bipush (pc := 9) (x := 6) d_M_costOf_9 (by decide) ?_
    refine aw_iaload (pc := 11) d_M_costOf_11 tt1 (fun c2 => ?_)
    refine aw_icmp_ge (pc := 12) (tgt := 46) d_M_costOf_12 (by decide) (fun c3 => ?_) (fun c3 => ?_)
    · refine aw_iload_n (pc := 46) d_M_costOf_46 rfl 2 rfl ?_
      exact aw_ireturn (pc := 47) d_M_costOf_47 rfl rfl
    · refine aw_iload_n (pc := 15) d_M_costOf_15 rfl 2 rfl ?_
      refine aw_iload_n (pc := 16) d_M_costOf_16 rfl 1 rfl ?_
      refine aw_iload_n (pc := 17) d_M_costOf_17 rfl 3 rfl ?_
      refine aw_cSpZ (pc := 18) (As := [.int l1, .int l3]) (st := [.int l2]) (ok_M_has Y l1 l3 h) okS_M_has w9_110 d_M_costOf_18 rfl (Nat.le_of_ble_eq_true rfl) rfl (Nat.le_of_ble_eq_true rfl) (fun q4 hq4 hTq4 => ?_)
      refine aw_beq (pc := 21) (tgt := 37) d_M_costOf_21 (by decide) (fun c5 => ?_) (fun c5 => ?_)
      · refine aw_aload_n (pc := 24) d_M_costOf_24 rfl 0 rfl ?_
        refine gt_1220 (pc := 25) d_M_costOf_25 w7_47 tl0 (fun tt6 => ?_)
        refine aw_sipush (pc := 28) (x := 270) d_M_costOf_28 (by decide) ?_
        refine aw_iload_n (pc := 31) d_M_costOf_31 rfl 3 rfl ?_
        refine aw_iadd (pc := 32) d_M_costOf_32 ?_
        refine aw_iaload (pc := 33) d_M_costOf_33 tt6 (fun c7 => ?_)
        refine aw_goto (pc := 34) (tgt := 38) d_M_costOf_34 (by decide) ?_
        refine aw_iadd (pc := 38) d_M_costOf_38 ?_
        refine aw_istore_n (pc := 39) (lv' := [(2, .int (l2 + (hAi h (hGr h 1220 l0) (Int32.toNatClampNeg (270 + l3))))), (0, .ref l0), (1, .int l1), (3, .int l3)]) d_M_costOf_39 rfl (by decide) rfl ?_
        refine aw_iinc (pc := 40) (w := l3 + 1) (lv' := [(3, .int (l3 + 1)), (2, .int (l2 + (hAi h (hGr h 1220 l0) (Int32.toNatClampNeg (270 + l3))))), (0, .ref l0), (1, .int l1)]) d_M_costOf_40 3 rfl rfl (by decide) rfl ?_
        refine aw_goto (pc := 43) (tgt := 4) d_M_costOf_43 (by decide) ?_
        exact aw_lv [2, 3, 1, 0] rfl (ih (l2 + (hAi h (hGr h 1220 l0) (Int32.toNatClampNeg (270 + l3)))) (l3 + 1))
      · refine aw_iconst (pc := 37) (x := 0) d_M_costOf_37 (by decide) ?_
        refine aw_iadd (pc := 38) d_M_costOf_38 ?_
        refine aw_istore_n (pc := 39) (lv' := [(2, .int (l2 + 0)), (0, .ref l0), (1, .int l1), (3, .int l3)]) d_M_costOf_39 rfl (by decide) rfl ?_
        refine aw_iinc (pc := 40) (w := l3 + 1) (lv' := [(3, .int (l3 + 1)), (2, .int (l2 + 0)), (0, .ref l0), (1, .int l1)]) d_M_costOf_40 3 rfl rfl (by decide) rfl ?_
        refine aw_goto (pc := 43) (tgt := 4) d_M_costOf_43 (by decide) ?_
        exact aw_lv [2, 3, 1, 0] rfl (ih (l2 + 0) (l3 + 1))
def M_costOf (Y : Ly) (l0 : Nat) (l1 : Int32) (h : Hp) : Option Int32 :=
  M_costOf_L4 Y l0 l1 h FU 0 0
theorem ok_M_costOf (Y : Ly) (l0 : Nat) (l1 : Int32) (h : Hp) (t0 : isO Y 12 l0) : AM Y 1 K_M_costOf [.ref l0, .int l1] h (M_costOf Y l0 l1 h) (pI h) := by
  refine AM.of rfl (Nat.le_of_ble_eq_true rfl) ?_
  show AW Y 1 K_M_costOf 0 [(0, .ref l0), (1, .int l1)] [] h (M_costOf Y l0 l1 h) (pI h)
  unfold M_costOf
  refine aw_iconst (pc := 0) (x := 0) d_M_costOf_0 (by decide) ?_
  refine aw_istore_n (pc := 1) (lv' := [(2, .int 0), (0, .ref l0), (1, .int l1)]) d_M_costOf_1 rfl (by decide) rfl ?_
  refine aw_iconst (pc := 2) (x := 0) d_M_costOf_2 (by decide) ?_
  refine aw_istore_n (pc := 3) (lv' := [(3, .int 0), (2, .int 0), (0, .ref l0), (1, .int l1)]) d_M_costOf_3 rfl (by decide) rfl ?_
  exact aw_lv [2, 3, 1, 0] rfl (M_costOf_L4_ok Y l0 l1 h t0 FU 0 0)
/-! LastPagesModel.knownBy(I)I -/
theorem d_M_knownBy_0 : decode prog_14_method_157_code 0 = .ok (.iconst 0, 1) := by decide +kernel
theorem d_M_knownBy_1 : decode prog_14_method_157_code 1 = .ok (.istore_n 2, 1) := by decide +kernel
theorem d_M_knownBy_2 : decode prog_14_method_157_code 2 = .ok (.iconst 0, 1) := by decide +kernel
theorem d_M_knownBy_3 : decode prog_14_method_157_code 3 = .ok (.istore_n 3, 1) := by decide +kernel
theorem d_M_knownBy_4 : decode prog_14_method_157_code 4 = .ok (.iload_n 3, 1) := by decide +kernel
theorem d_M_knownBy_5 : decode prog_14_method_157_code 5 = .ok (.aload_n 0, 1) := by decide +kernel
theorem d_M_knownBy_6 : decode prog_14_method_157_code 6 = .ok (.getfield 35, 3) := by decide +kernel
theorem d_M_knownBy_9 : decode prog_14_method_157_code 9 = .ok (.bipush 6, 2) := by decide +kernel
theorem d_M_knownBy_11 : decode prog_14_method_157_code 11 = .ok (.iaload, 1) := by decide +kernel
theorem d_M_knownBy_12 : decode prog_14_method_157_code 12 = .ok (.if_icmp .ge 34, 3) := by decide +kernel
theorem d_M_knownBy_15 : decode prog_14_method_157_code 15 = .ok (.iload_n 2, 1) := by decide +kernel
theorem d_M_knownBy_16 : decode prog_14_method_157_code 16 = .ok (.iload_n 1, 1) := by decide +kernel
theorem d_M_knownBy_17 : decode prog_14_method_157_code 17 = .ok (.iload_n 3, 1) := by decide +kernel
theorem d_M_knownBy_18 : decode prog_14_method_157_code 18 = .ok (.invokestatic 117, 3) := by decide +kernel
theorem d_M_knownBy_21 : decode prog_14_method_157_code 21 = .ok (.ifCond .eq 16, 3) := by decide +kernel
theorem d_M_knownBy_24 : decode prog_14_method_157_code 24 = .ok (.aload_n 0, 1) := by decide +kernel
theorem d_M_knownBy_25 : decode prog_14_method_157_code 25 = .ok (.getfield 35, 3) := by decide +kernel
theorem d_M_knownBy_28 : decode prog_14_method_157_code 28 = .ok (.sipush 276, 3) := by decide +kernel
theorem d_M_knownBy_31 : decode prog_14_method_157_code 31 = .ok (.iload_n 3, 1) := by decide +kernel
theorem d_M_knownBy_32 : decode prog_14_method_157_code 32 = .ok (.iadd, 1) := by decide +kernel
theorem d_M_knownBy_33 : decode prog_14_method_157_code 33 = .ok (.iaload, 1) := by decide +kernel
theorem d_M_knownBy_34 : decode prog_14_method_157_code 34 = .ok (.goto 4, 3) := by decide +kernel
theorem d_M_knownBy_37 : decode prog_14_method_157_code 37 = .ok (.iconst 0, 1) := by decide +kernel
theorem d_M_knownBy_38 : decode prog_14_method_157_code 38 = .ok (.ior, 1) := by decide +kernel
theorem d_M_knownBy_39 : decode prog_14_method_157_code 39 = .ok (.istore_n 2, 1) := by decide +kernel
theorem d_M_knownBy_40 : decode prog_14_method_157_code 40 = .ok (.iinc 3 1, 3) := by decide +kernel
theorem d_M_knownBy_43 : decode prog_14_method_157_code 43 = .ok (.goto (-39), 3) := by decide +kernel
theorem d_M_knownBy_46 : decode prog_14_method_157_code 46 = .ok (.iconst (-1), 1) := by decide +kernel
theorem d_M_knownBy_47 : decode prog_14_method_157_code 47 = .ok (.istore_n 3, 1) := by decide +kernel
theorem d_M_knownBy_48 : decode prog_14_method_157_code 48 = .ok (.iload_n 2, 1) := by decide +kernel
theorem d_M_knownBy_49 : decode prog_14_method_157_code 49 = .ok (.iload_n 3, 1) := by decide +kernel
theorem d_M_knownBy_50 : decode prog_14_method_157_code 50 = .ok (.if_icmp .eq 55, 3) := by decide +kernel
theorem d_M_knownBy_53 : decode prog_14_method_157_code 53 = .ok (.iload_n 2, 1) := by decide +kernel
theorem d_M_knownBy_54 : decode prog_14_method_157_code 54 = .ok (.istore_n 3, 1) := by decide +kernel
theorem d_M_knownBy_55 : decode prog_14_method_157_code 55 = .ok (.iconst 0, 1) := by decide +kernel
theorem d_M_knownBy_56 : decode prog_14_method_157_code 56 = .ok (.istore 4, 2) := by decide +kernel
theorem d_M_knownBy_58 : decode prog_14_method_157_code 58 = .ok (.iload 4, 2) := by decide +kernel
theorem d_M_knownBy_60 : decode prog_14_method_157_code 60 = .ok (.aload_n 0, 1) := by decide +kernel
theorem d_M_knownBy_61 : decode prog_14_method_157_code 61 = .ok (.getfield 35, 3) := by decide +kernel
theorem d_M_knownBy_64 : decode prog_14_method_157_code 64 = .ok (.iconst 2, 1) := by decide +kernel
theorem d_M_knownBy_65 : decode prog_14_method_157_code 65 = .ok (.iaload, 1) := by decide +kernel
theorem d_M_knownBy_66 : decode prog_14_method_157_code 66 = .ok (.if_icmp .ge 36, 3) := by decide +kernel
theorem d_M_knownBy_69 : decode prog_14_method_157_code 69 = .ok (.iload_n 2, 1) := by decide +kernel
theorem d_M_knownBy_70 : decode prog_14_method_157_code 70 = .ok (.iload_n 3, 1) := by decide +kernel
theorem d_M_knownBy_71 : decode prog_14_method_157_code 71 = .ok (.iload 4, 2) := by decide +kernel
theorem d_M_knownBy_73 : decode prog_14_method_157_code 73 = .ok (.invokestatic 117, 3) := by decide +kernel
theorem d_M_knownBy_76 : decode prog_14_method_157_code 76 = .ok (.ifCond .eq 17, 3) := by decide +kernel
theorem d_M_knownBy_79 : decode prog_14_method_157_code 79 = .ok (.aload_n 0, 1) := by decide +kernel
theorem d_M_knownBy_80 : decode prog_14_method_157_code 80 = .ok (.getfield 35, 3) := by decide +kernel
theorem d_M_knownBy_83 : decode prog_14_method_157_code 83 = .ok (.sipush 298, 3) := by decide +kernel
theorem d_M_knownBy_86 : decode prog_14_method_157_code 86 = .ok (.iload 4, 2) := by decide +kernel
theorem d_M_knownBy_88 : decode prog_14_method_157_code 88 = .ok (.iadd, 1) := by decide +kernel
theorem d_M_knownBy_89 : decode prog_14_method_157_code 89 = .ok (.iaload, 1) := by decide +kernel
theorem d_M_knownBy_90 : decode prog_14_method_157_code 90 = .ok (.goto 4, 3) := by decide +kernel
theorem d_M_knownBy_93 : decode prog_14_method_157_code 93 = .ok (.iconst 0, 1) := by decide +kernel
theorem d_M_knownBy_94 : decode prog_14_method_157_code 94 = .ok (.ior, 1) := by decide +kernel
theorem d_M_knownBy_95 : decode prog_14_method_157_code 95 = .ok (.istore_n 2, 1) := by decide +kernel
theorem d_M_knownBy_96 : decode prog_14_method_157_code 96 = .ok (.iinc 4 1, 3) := by decide +kernel
theorem d_M_knownBy_99 : decode prog_14_method_157_code 99 = .ok (.goto (-41), 3) := by decide +kernel
theorem d_M_knownBy_102 : decode prog_14_method_157_code 102 = .ok (.goto (-54), 3) := by decide +kernel
theorem d_M_knownBy_105 : decode prog_14_method_157_code 105 = .ok (.iload_n 2, 1) := by decide +kernel
theorem d_M_knownBy_106 : decode prog_14_method_157_code 106 = .ok (.ireturn, 1) := by decide +kernel
def M_knownBy_L58 (Y : Ly) (l0 : Nat) (l3 : Int32) (h : Hp) (k48 : Int32 → Int32 → Option Int32) : Nat → Int32 → Int32 → Option Int32
  | 0, _, _ => none
  | F + 1, l2, l4 =>
    if inB 2 (lnY Y (hGr h 1220 l0)) = true then
      if (hAi h (hGr h 1220 l0) (Int32.toNatClampNeg 2)) ≤ l4 then
        k48 l2 l3
      else
        (M_has Y l3 l4 h).bind fun q8 =>
        if q8 = true then
          if inB (298 + l4) (lnY Y (hGr h 1220 l0)) = true then
            M_knownBy_L58 Y l0 l3 h k48 F (l2 ||| (hAi h (hGr h 1220 l0) (Int32.toNatClampNeg (298 + l4)))) (l4 + 1)
          else none
        else
          M_knownBy_L58 Y l0 l3 h k48 F (l2 ||| 0) (l4 + 1)
    else none
theorem M_knownBy_L58_ok (Y : Ly) (l0 : Nat) (l3 : Int32) (h : Hp) (k48 : Int32 → Int32 → Option Int32) (tl0 : isO Y 12 l0) (hk48 : ∀ (l2_ : Int32) (l3_ : Int32), AW Y 1 K_M_knownBy 48 [(0, .ref l0), (2, .int l2_), (3, .int l3_)] [] h (k48 l2_ l3_) (pI h)) : ∀ (F : Nat) (l2 : Int32) (l4 : Int32), AW Y 1 K_M_knownBy 58 [(0, .ref l0), (2, .int l2), (3, .int l3), (4, .int l4)] [] h (M_knownBy_L58 Y l0 l3 h k48 F l2 l4) (pI h) := by
  intro F
  induction F with
  | zero =>
    intro l2 l4
    exact aw_none
  | succ F ih =>
    intro l2 l4
    unfold M_knownBy_L58
    refine aw_iload (pc := 58) d_M_knownBy_58 3 rfl ?_
    refine aw_aload_n (pc := 60) d_M_knownBy_60 rfl 0 rfl ?_
    refine gt_1220 (pc := 61) d_M_knownBy_61 w7_47 tl0 (fun tt5 => ?_)
    refine aw_iconst (pc := 64) (x := 2) d_M_knownBy_64 (by decide) ?_
    refine aw_iaload (pc := 65) d_M_knownBy_65 tt5 (fun c6 => ?_)
    refine aw_icmp_ge (pc := 66) (tgt := 102) d_M_knownBy_66 (by decide) (fun c7 => ?_) (fun c7 => ?_)
    · refine aw_goto (pc := 102) (tgt := 48) d_M_knownBy_102 (by decide) ?_
      exact aw_lv [0, 1, 2] rfl (hk48 l2 l3)
    · refine aw_iload_n (pc := 69) d_M_knownBy_69 rfl 1 rfl ?_
      refine aw_iload_n (pc := 70) d_M_knownBy_70 rfl 2 rfl ?_
      refine aw_iload (pc := 71) d_M_knownBy_71 3 rfl ?_
      refine aw_cSpZ (pc := 73) (As := [.int l3, .int l4]) (st := [.int l2]) (ok_M_has Y l3 l4 h) okS_M_has w9_110 d_M_knownBy_73 rfl (Nat.le_of_ble_eq_true rfl) rfl (Nat.le_of_ble_eq_true rfl) (fun q8 hq8 hTq8 => ?_)
      refine aw_beq (pc := 76) (tgt := 93) d_M_knownBy_76 (by decide) (fun c9 => ?_) (fun c9 => ?_)
      · refine aw_aload_n (pc := 79) d_M_knownBy_79 rfl 0 rfl ?_
        refine gt_1220 (pc := 80) d_M_knownBy_80 w7_47 tl0 (fun tt10 => ?_)
        refine aw_sipush (pc := 83) (x := 298) d_M_knownBy_83 (by decide) ?_
        refine aw_iload (pc := 86) d_M_knownBy_86 3 rfl ?_
        refine aw_iadd (pc := 88) d_M_knownBy_88 ?_
        refine aw_iaload (pc := 89) d_M_knownBy_89 tt10 (fun c11 => ?_)
        refine aw_goto (pc := 90) (tgt := 94) d_M_knownBy_90 (by decide) ?_
        refine aw_ior (pc := 94) d_M_knownBy_94 ?_
        refine aw_istore_n (pc := 95) (lv' := [(2, .int (l2 ||| (hAi h (hGr h 1220 l0) (Int32.toNatClampNeg (298 + l4))))), (0, .ref l0), (3, .int l3), (4, .int l4)]) d_M_knownBy_95 rfl (by decide) rfl ?_
        refine aw_iinc (pc := 96) (w := l4 + 1) (lv' := [(4, .int (l4 + 1)), (2, .int (l2 ||| (hAi h (hGr h 1220 l0) (Int32.toNatClampNeg (298 + l4))))), (0, .ref l0), (3, .int l3)]) d_M_knownBy_96 3 rfl rfl (by decide) rfl ?_
        refine aw_goto (pc := 99) (tgt := 58) d_M_knownBy_99 (by decide) ?_
        exact aw_lv [2, 1, 3, 0] rfl (ih (l2 ||| (hAi h (hGr h 1220 l0) (Int32.toNatClampNeg (298 + l4)))) (l4 + 1))
      · refine aw_iconst (pc := 93) (x := 0) d_M_knownBy_93 (by decide) ?_
        refine aw_ior (pc := 94) d_M_knownBy_94 ?_
        refine aw_istore_n (pc := 95) (lv' := [(2, .int (l2 ||| 0)), (0, .ref l0), (3, .int l3), (4, .int l4)]) d_M_knownBy_95 rfl (by decide) rfl ?_
        refine aw_iinc (pc := 96) (w := l4 + 1) (lv' := [(4, .int (l4 + 1)), (2, .int (l2 ||| 0)), (0, .ref l0), (3, .int l3)]) d_M_knownBy_96 3 rfl rfl (by decide) rfl ?_
        refine aw_goto (pc := 99) (tgt := 58) d_M_knownBy_99 (by decide) ?_
        exact aw_lv [2, 1, 3, 0] rfl (ih (l2 ||| 0) (l4 + 1))
def M_knownBy_L48 (Y : Ly) (l0 : Nat) (h : Hp) : Nat → Int32 → Int32 → Option Int32
  | 0, _, _ => none
  | F + 1, l2, l3 =>
    if l2 = l3 then
      some l2
    else
      M_knownBy_L58 Y l0 l2 h (M_knownBy_L48 Y l0 h F) FU l2 0
theorem M_knownBy_L48_ok (Y : Ly) (l0 : Nat) (h : Hp) (tl0 : isO Y 12 l0) : ∀ (F : Nat) (l2 : Int32) (l3 : Int32), AW Y 1 K_M_knownBy 48 [(0, .ref l0), (2, .int l2), (3, .int l3)] [] h (M_knownBy_L48 Y l0 h F l2 l3) (pI h) := by
  intro F
  induction F with
  | zero =>
    intro l2 l3
    exact aw_none
  | succ F ih =>
    intro l2 l3
    unfold M_knownBy_L48
    refine aw_iload_n (pc := 48) d_M_knownBy_48 rfl 1 rfl ?_
    refine aw_iload_n (pc := 49) d_M_knownBy_49 rfl 2 rfl ?_
    refine aw_icmp_eq (pc := 50) (tgt := 105) d_M_knownBy_50 (by decide) (fun c4 => ?_) (fun c4 => ?_)
    · refine aw_iload_n (pc := 105) d_M_knownBy_105 rfl 1 rfl ?_
      exact aw_ireturn (pc := 106) d_M_knownBy_106 rfl rfl
    · refine aw_iload_n (pc := 53) d_M_knownBy_53 rfl 1 rfl ?_
      refine aw_istore_n (pc := 54) (lv' := [(3, .int l2), (0, .ref l0), (2, .int l2)]) d_M_knownBy_54 rfl (by decide) rfl ?_
      refine aw_iconst (pc := 55) (x := 0) d_M_knownBy_55 (by decide) ?_
      refine aw_istore (pc := 56) (lv' := [(4, .int 0), (3, .int l2), (0, .ref l0), (2, .int l2)]) d_M_knownBy_56 (by decide) rfl ?_
      exact aw_lv [2, 3, 1, 0] rfl (M_knownBy_L58_ok Y l0 l2 h (M_knownBy_L48 Y l0 h F) tl0 ih FU l2 0)
def M_knownBy_L4 (Y : Ly) (l0 : Nat) (l1 : Int32) (h : Hp) : Nat → Int32 → Int32 → Option Int32
  | 0, _, _ => none
  | F + 1, l2, l3 =>
    if inB 6 (lnY Y (hGr h 1220 l0)) = true then
      if (hAi h (hGr h 1220 l0) (Int32.toNatClampNeg 6)) ≤ l3 then
        M_knownBy_L48 Y l0 h FU l2 (-1)
      else
        (M_has Y l1 l3 h).bind fun q12 =>
        if q12 = true then
          if inB (276 + l3) (lnY Y (hGr h 1220 l0)) = true then
            M_knownBy_L4 Y l0 l1 h F (l2 ||| (hAi h (hGr h 1220 l0) (Int32.toNatClampNeg (276 + l3)))) (l3 + 1)
          else none
        else
          M_knownBy_L4 Y l0 l1 h F (l2 ||| 0) (l3 + 1)
    else none
theorem M_knownBy_L4_ok (Y : Ly) (l0 : Nat) (l1 : Int32) (h : Hp) (tl0 : isO Y 12 l0) : ∀ (F : Nat) (l2 : Int32) (l3 : Int32), AW Y 1 K_M_knownBy 4 [(0, .ref l0), (1, .int l1), (2, .int l2), (3, .int l3)] [] h (M_knownBy_L4 Y l0 l1 h F l2 l3) (pI h) := by
  intro F
  induction F with
  | zero =>
    intro l2 l3
    exact aw_none
  | succ F ih =>
    intro l2 l3
    unfold M_knownBy_L4
    refine aw_iload_n (pc := 4) d_M_knownBy_4 rfl 3 rfl ?_
    refine aw_aload_n (pc := 5) d_M_knownBy_5 rfl 0 rfl ?_
    refine gt_1220 (pc := 6) d_M_knownBy_6 w7_47 tl0 (fun tt1 => ?_)
    refine aw_bipush (pc := 9) (x := 6) d_M_knownBy_9 (by decide) ?_
    refine aw_iaload (pc := 11) d_M_knownBy_11 tt1 (fun c2 => ?_)
    refine aw_icmp_ge (pc := 12) (tgt := 46) d_M_knownBy_12 (by decide) (fun c3 => ?_) (fun c3 => ?_)
    · refine aw_iconst (pc := 46) (x := (-1)) d_M_knownBy_46 (by decide) ?_
      refine aw_istore_n (pc := 47) (lv' := [(3, .int (-1)), (0, .ref l0), (1, .int l1), (2, .int l2)]) d_M_knownBy_47 rfl (by decide) rfl ?_
      exact aw_lv [1, 3, 0] rfl (M_knownBy_L48_ok Y l0 h tl0 FU l2 (-1))
    · refine aw_iload_n (pc := 15) d_M_knownBy_15 rfl 2 rfl ?_
      refine aw_iload_n (pc := 16) d_M_knownBy_16 rfl 1 rfl ?_
      refine aw_iload_n (pc := 17) d_M_knownBy_17 rfl 3 rfl ?_
      refine aw_cSpZ (pc := 18) (As := [.int l1, .int l3]) (st := [.int l2]) (ok_M_has Y l1 l3 h) okS_M_has w9_110 d_M_knownBy_18 rfl (Nat.le_of_ble_eq_true rfl) rfl (Nat.le_of_ble_eq_true rfl) (fun q12 hq12 hTq12 => ?_)
      refine aw_beq (pc := 21) (tgt := 37) d_M_knownBy_21 (by decide) (fun c13 => ?_) (fun c13 => ?_)
      · refine aw_aload_n (pc := 24) d_M_knownBy_24 rfl 0 rfl ?_
        refine gt_1220 (pc := 25) d_M_knownBy_25 w7_47 tl0 (fun tt14 => ?_)
        refine aw_sipush (pc := 28) (x := 276) d_M_knownBy_28 (by decide) ?_
        refine aw_iload_n (pc := 31) d_M_knownBy_31 rfl 3 rfl ?_
        refine aw_iadd (pc := 32) d_M_knownBy_32 ?_
        refine aw_iaload (pc := 33) d_M_knownBy_33 tt14 (fun c15 => ?_)
        refine aw_goto (pc := 34) (tgt := 38) d_M_knownBy_34 (by decide) ?_
        refine aw_ior (pc := 38) d_M_knownBy_38 ?_
        refine aw_istore_n (pc := 39) (lv' := [(2, .int (l2 ||| (hAi h (hGr h 1220 l0) (Int32.toNatClampNeg (276 + l3))))), (0, .ref l0), (1, .int l1), (3, .int l3)]) d_M_knownBy_39 rfl (by decide) rfl ?_
        refine aw_iinc (pc := 40) (w := l3 + 1) (lv' := [(3, .int (l3 + 1)), (2, .int (l2 ||| (hAi h (hGr h 1220 l0) (Int32.toNatClampNeg (276 + l3))))), (0, .ref l0), (1, .int l1)]) d_M_knownBy_40 3 rfl rfl (by decide) rfl ?_
        refine aw_goto (pc := 43) (tgt := 4) d_M_knownBy_43 (by decide) ?_
        exact aw_lv [2, 3, 1, 0] rfl (ih (l2 ||| (hAi h (hGr h 1220 l0) (Int32.toNatClampNeg (276 + l3)))) (l3 + 1))
      · refine aw_iconst (pc := 37) (x := 0) d_M_knownBy_37 (by decide) ?_
        refine aw_ior (pc := 38) d_M_knownBy_38 ?_
        refine aw_istore_n (pc := 39) (lv' := [(2, .int (l2 ||| 0)), (0, .ref l0), (1, .int l1), (3, .int l3)]) d_M_knownBy_39 rfl (by decide) rfl ?_
        refine aw_iinc (pc := 40) (w := l3 + 1) (lv' := [(3, .int (l3 + 1)), (2, .int (l2 ||| 0)), (0, .ref l0), (1, .int l1)]) d_M_knownBy_40 3 rfl rfl (by decide) rfl ?_
        refine aw_goto (pc := 43) (tgt := 4) d_M_knownBy_43 (by decide) ?_
        exact aw_lv [2, 3, 1, 0] rfl (ih (l2 ||| 0) (l3 + 1))
def M_knownBy (Y : Ly) (l0 : Nat) (l1 : Int32) (h : Hp) : Option Int32 :=
  M_knownBy_L4 Y l0 l1 h FU 0 0
theorem ok_M_knownBy (Y : Ly) (l0 : Nat) (l1 : Int32) (h : Hp) (t0 : isO Y 12 l0) : AM Y 1 K_M_knownBy [.ref l0, .int l1] h (M_knownBy Y l0 l1 h) (pI h) := by
  refine AM.of rfl (Nat.le_of_ble_eq_true rfl) ?_
  show AW Y 1 K_M_knownBy 0 [(0, .ref l0), (1, .int l1)] [] h (M_knownBy Y l0 l1 h) (pI h)
  unfold M_knownBy
  refine aw_iconst (pc := 0) (x := 0) d_M_knownBy_0 (by decide) ?_
  refine aw_istore_n (pc := 1) (lv' := [(2, .int 0), (0, .ref l0), (1, .int l1)]) d_M_knownBy_1 rfl (by decide) rfl ?_
  refine aw_iconst (pc := 2) (x := 0) d_M_knownBy_2 (by decide) ?_
  refine aw_istore_n (pc := 3) (lv' := [(3, .int 0), (2, .int 0), (0, .ref l0), (1, .int l1)]) d_M_knownBy_3 rfl (by decide) rfl ?_
  exact aw_lv [2, 3, 1, 0] rfl (M_knownBy_L4_ok Y l0 l1 h t0 FU 0 0)
