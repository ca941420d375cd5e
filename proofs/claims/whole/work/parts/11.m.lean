/-! LastPages$Endings.findBest(LLastPages$Shelf;I)I -/
theorem d_En_findBest_0 : decode prog_2_method_11_code 0 = .ok (.aload_n 0, 1) := by decide +kernel
theorem d_En_findBest_1 : decode prog_2_method_11_code 1 = .ok (.aload_n 1, 1) := by decide +kernel
theorem d_En_findBest_2 : decode prog_2_method_11_code 2 = .ok (.iload_n 2, 1) := by decide +kernel
theorem d_En_findBest_3 : decode prog_2_method_11_code 3 = .ok (.aload_n 1, 1) := by decide +kernel
theorem d_En_findBest_4 : decode prog_2_method_11_code 4 = .ok (.getfield 118, 3) := by decide +kernel
theorem d_En_findBest_7 : decode prog_2_method_11_code 7 = .ok (.invokevirtual 86, 3) := by decide +kernel
theorem d_En_findBest_10 : decode prog_2_method_11_code 10 = .ok (.iconst 0, 1) := by decide +kernel
theorem d_En_findBest_11 : decode prog_2_method_11_code 11 = .ok (.istore_n 3, 1) := by decide +kernel
theorem d_En_findBest_12 : decode prog_2_method_11_code 12 = .ok (.iload_n 3, 1) := by decide +kernel
theorem d_En_findBest_13 : decode prog_2_method_11_code 13 = .ok (.aload_n 0, 1) := by decide +kernel
theorem d_En_findBest_14 : decode prog_2_method_11_code 14 = .ok (.getfield 31, 3) := by decide +kernel
theorem d_En_findBest_17 : decode prog_2_method_11_code 17 = .ok (.getfield 90, 3) := by decide +kernel
theorem d_En_findBest_20 : decode prog_2_method_11_code 20 = .ok (.if_icmp .ge 39, 3) := by decide +kernel
theorem d_En_findBest_23 : decode prog_2_method_11_code 23 = .ok (.aload_n 0, 1) := by decide +kernel
theorem d_En_findBest_24 : decode prog_2_method_11_code 24 = .ok (.getfield 25, 3) := by decide +kernel
theorem d_En_findBest_27 : decode prog_2_method_11_code 27 = .ok (.aload_n 0, 1) := by decide +kernel
theorem d_En_findBest_28 : decode prog_2_method_11_code 28 = .ok (.getfield 35, 3) := by decide +kernel
theorem d_En_findBest_31 : decode prog_2_method_11_code 31 = .ok (.bipush 8, 2) := by decide +kernel
theorem d_En_findBest_33 : decode prog_2_method_11_code 33 = .ok (.imul, 1) := by decide +kernel
theorem d_En_findBest_34 : decode prog_2_method_11_code 34 = .ok (.iload_n 3, 1) := by decide +kernel
theorem d_En_findBest_35 : decode prog_2_method_11_code 35 = .ok (.iadd, 1) := by decide +kernel
theorem d_En_findBest_36 : decode prog_2_method_11_code 36 = .ok (.aload_n 0, 1) := by decide +kernel
theorem d_En_findBest_37 : decode prog_2_method_11_code 37 = .ok (.getfield 31, 3) := by decide +kernel
theorem d_En_findBest_40 : decode prog_2_method_11_code 40 = .ok (.iload_n 3, 1) := by decide +kernel
theorem d_En_findBest_41 : decode prog_2_method_11_code 41 = .ok (.invokevirtual 93, 3) := by decide +kernel
theorem d_En_findBest_44 : decode prog_2_method_11_code 44 = .ok (.ifCond .eq 7, 3) := by decide +kernel
theorem d_En_findBest_47 : decode prog_2_method_11_code 47 = .ok (.iconst 0, 1) := by decide +kernel
theorem d_En_findBest_48 : decode prog_2_method_11_code 48 = .ok (.goto 4, 3) := by decide +kernel
theorem d_En_findBest_51 : decode prog_2_method_11_code 51 = .ok (.iconst (-1), 1) := by decide +kernel
theorem d_En_findBest_52 : decode prog_2_method_11_code 52 = .ok (.iastore, 1) := by decide +kernel
theorem d_En_findBest_53 : decode prog_2_method_11_code 53 = .ok (.iinc 3 1, 3) := by decide +kernel
theorem d_En_findBest_56 : decode prog_2_method_11_code 56 = .ok (.goto (-44), 3) := by decide +kernel
theorem d_En_findBest_59 : decode prog_2_method_11_code 59 = .ok (.aload_n 0, 1) := by decide +kernel
theorem d_En_findBest_60 : decode prog_2_method_11_code 60 = .ok (.getfield 35, 3) := by decide +kernel
theorem d_En_findBest_63 : decode prog_2_method_11_code 63 = .ok (.iconst 1, 1) := by decide +kernel
theorem d_En_findBest_64 : decode prog_2_method_11_code 64 = .ok (.isub, 1) := by decide +kernel
theorem d_En_findBest_65 : decode prog_2_method_11_code 65 = .ok (.istore_n 3, 1) := by decide +kernel
theorem d_En_findBest_66 : decode prog_2_method_11_code 66 = .ok (.iload_n 3, 1) := by decide +kernel
theorem d_En_findBest_67 : decode prog_2_method_11_code 67 = .ok (.ifCond .lt 38, 3) := by decide +kernel
theorem d_En_findBest_70 : decode prog_2_method_11_code 70 = .ok (.iconst 0, 1) := by decide +kernel
theorem d_En_findBest_71 : decode prog_2_method_11_code 71 = .ok (.istore 4, 2) := by decide +kernel
theorem d_En_findBest_73 : decode prog_2_method_11_code 73 = .ok (.iload 4, 2) := by decide +kernel
theorem d_En_findBest_75 : decode prog_2_method_11_code 75 = .ok (.aload_n 0, 1) := by decide +kernel
theorem d_En_findBest_76 : decode prog_2_method_11_code 76 = .ok (.getfield 31, 3) := by decide +kernel
theorem d_En_findBest_79 : decode prog_2_method_11_code 79 = .ok (.getfield 90, 3) := by decide +kernel
theorem d_En_findBest_82 : decode prog_2_method_11_code 82 = .ok (.if_icmp .ge 17, 3) := by decide +kernel
theorem d_En_findBest_85 : decode prog_2_method_11_code 85 = .ok (.aload_n 0, 1) := by decide +kernel
theorem d_En_findBest_86 : decode prog_2_method_11_code 86 = .ok (.iload_n 3, 1) := by decide +kernel
theorem d_En_findBest_87 : decode prog_2_method_11_code 87 = .ok (.iload 4, 2) := by decide +kernel
theorem d_En_findBest_89 : decode prog_2_method_11_code 89 = .ok (.invokevirtual 121, 3) := by decide +kernel
theorem d_En_findBest_92 : decode prog_2_method_11_code 92 = .ok (.pop, 1) := by decide +kernel
theorem d_En_findBest_93 : decode prog_2_method_11_code 93 = .ok (.iinc 4 1, 3) := by decide +kernel
theorem d_En_findBest_96 : decode prog_2_method_11_code 96 = .ok (.goto (-23), 3) := by decide +kernel
theorem d_En_findBest_99 : decode prog_2_method_11_code 99 = .ok (.iinc 3 (-1), 3) := by decide +kernel
theorem d_En_findBest_102 : decode prog_2_method_11_code 102 = .ok (.goto (-36), 3) := by decide +kernel
theorem d_En_findBest_105 : decode prog_2_method_11_code 105 = .ok (.aload_n 0, 1) := by decide +kernel
theorem d_En_findBest_106 : decode prog_2_method_11_code 106 = .ok (.getfield 39, 3) := by decide +kernel
theorem d_En_findBest_109 : decode prog_2_method_11_code 109 = .ok (.ifCond .lt 25, 3) := by decide +kernel
theorem d_En_findBest_112 : decode prog_2_method_11_code 112 = .ok (.aload_n 0, 1) := by decide +kernel
theorem d_En_findBest_113 : decode prog_2_method_11_code 113 = .ok (.getfield 39, 3) := by decide +kernel
theorem d_En_findBest_116 : decode prog_2_method_11_code 116 = .ok (.bipush 8, 2) := by decide +kernel
theorem d_En_findBest_118 : decode prog_2_method_11_code 118 = .ok (.if_icmp .ge 16, 3) := by decide +kernel
theorem d_En_findBest_121 : decode prog_2_method_11_code 121 = .ok (.aload_n 0, 1) := by decide +kernel
theorem d_En_findBest_122 : decode prog_2_method_11_code 122 = .ok (.getfield 25, 3) := by decide +kernel
theorem d_En_findBest_125 : decode prog_2_method_11_code 125 = .ok (.aload_n 0, 1) := by decide +kernel
theorem d_En_findBest_126 : decode prog_2_method_11_code 126 = .ok (.getfield 39, 3) := by decide +kernel
theorem d_En_findBest_129 : decode prog_2_method_11_code 129 = .ok (.iaload, 1) := by decide +kernel
theorem d_En_findBest_130 : decode prog_2_method_11_code 130 = .ok (.iconst (-1), 1) := by decide +kernel
theorem d_En_findBest_131 : decode prog_2_method_11_code 131 = .ok (.if_icmp .ne 5, 3) := by decide +kernel
theorem d_En_findBest_134 : decode prog_2_method_11_code 134 = .ok (.iconst (-1), 1) := by decide +kernel
theorem d_En_findBest_135 : decode prog_2_method_11_code 135 = .ok (.ireturn, 1) := by decide +kernel
theorem d_En_findBest_136 : decode prog_2_method_11_code 136 = .ok (.aload_n 0, 1) := by decide +kernel
theorem d_En_findBest_137 : decode prog_2_method_11_code 137 = .ok (.getfield 39, 3) := by decide +kernel
theorem d_En_findBest_140 : decode prog_2_method_11_code 140 = .ok (.istore_n 3, 1) := by decide +kernel
theorem d_En_findBest_141 : decode prog_2_method_11_code 141 = .ok (.iconst 0, 1) := by decide +kernel
theorem d_En_findBest_142 : decode prog_2_method_11_code 142 = .ok (.istore 4, 2) := by decide +kernel
theorem d_En_findBest_144 : decode prog_2_method_11_code 144 = .ok (.iload 4, 2) := by decide +kernel
theorem d_En_findBest_146 : decode prog_2_method_11_code 146 = .ok (.aload_n 0, 1) := by decide +kernel
theorem d_En_findBest_147 : decode prog_2_method_11_code 147 = .ok (.getfield 35, 3) := by decide +kernel
theorem d_En_findBest_150 : decode prog_2_method_11_code 150 = .ok (.if_icmp .ge 38, 3) := by decide +kernel
theorem d_En_findBest_153 : decode prog_2_method_11_code 153 = .ok (.aload_n 0, 1) := by decide +kernel
theorem d_En_findBest_154 : decode prog_2_method_11_code 154 = .ok (.getfield 15, 3) := by decide +kernel
theorem d_En_findBest_157 : decode prog_2_method_11_code 157 = .ok (.iload 4, 2) := by decide +kernel
theorem d_En_findBest_159 : decode prog_2_method_11_code 159 = .ok (.aload_n 0, 1) := by decide +kernel
theorem d_En_findBest_160 : decode prog_2_method_11_code 160 = .ok (.iload 4, 2) := by decide +kernel
theorem d_En_findBest_162 : decode prog_2_method_11_code 162 = .ok (.iload_n 3, 1) := by decide +kernel
theorem d_En_findBest_163 : decode prog_2_method_11_code 163 = .ok (.invokevirtual 121, 3) := by decide +kernel
theorem d_En_findBest_166 : decode prog_2_method_11_code 166 = .ok (.iastore, 1) := by decide +kernel
theorem d_En_findBest_167 : decode prog_2_method_11_code 167 = .ok (.aload_n 0, 1) := by decide +kernel
theorem d_En_findBest_168 : decode prog_2_method_11_code 168 = .ok (.iload 4, 2) := by decide +kernel
theorem d_En_findBest_170 : decode prog_2_method_11_code 170 = .ok (.iload_n 3, 1) := by decide +kernel
theorem d_En_findBest_171 : decode prog_2_method_11_code 171 = .ok (.aload_n 0, 1) := by decide +kernel
theorem d_En_findBest_172 : decode prog_2_method_11_code 172 = .ok (.getfield 15, 3) := by decide +kernel
theorem d_En_findBest_175 : decode prog_2_method_11_code 175 = .ok (.iload 4, 2) := by decide +kernel
theorem d_En_findBest_177 : decode prog_2_method_11_code 177 = .ok (.iaload, 1) := by decide +kernel
theorem d_En_findBest_178 : decode prog_2_method_11_code 178 = .ok (.invokevirtual 100, 3) := by decide +kernel
theorem d_En_findBest_181 : decode prog_2_method_11_code 181 = .ok (.istore_n 3, 1) := by decide +kernel
theorem d_En_findBest_182 : decode prog_2_method_11_code 182 = .ok (.iinc 4 1, 3) := by decide +kernel
theorem d_En_findBest_185 : decode prog_2_method_11_code 185 = .ok (.goto (-41), 3) := by decide +kernel
theorem d_En_findBest_188 : decode prog_2_method_11_code 188 = .ok (.aload_n 0, 1) := by decide +kernel
theorem d_En_findBest_189 : decode prog_2_method_11_code 189 = .ok (.getfield 25, 3) := by decide +kernel
theorem d_En_findBest_192 : decode prog_2_method_11_code 192 = .ok (.aload_n 0, 1) := by decide +kernel
theorem d_En_findBest_193 : decode prog_2_method_11_code 193 = .ok (.getfield 39, 3) := by decide +kernel
theorem d_En_findBest_196 : decode prog_2_method_11_code 196 = .ok (.iaload, 1) := by decide +kernel
theorem d_En_findBest_197 : decode prog_2_method_11_code 197 = .ok (.ireturn, 1) := by decide +kernel
def En_findBest_L144 (Y : Ly) (l0 : Nat) : Nat → Int32 → Int32 → Hp → Option (Int32 × Hp)
  | 0, _, _, _ => none
  | F + 1, l3, l4, h =>
    if (hGi h 6 l0) ≤ l4 then
      if inB (hGi h 7 l0) (lnY Y (hGr h 4 l0)) = true then
        some (hAi h (hGr h 4 l0) (Int32.toNatClampNeg (hGi h 7 l0)), h)
      else none
    else
      (En_leastOver Y l0 l4 l3 h).bind fun q14 =>
      if inB l4 (lnY Y (hGr h 1 l0)) = true then
        letH (hTi q14.2 (hGr h 1 l0) (Int32.toNatClampNeg l4) q14.1) fun h16 =>
        if inB l4 (lnY Y (hGr h16 1 l0)) = true then
          (En_stepTo Y l0 l4 l3 (hAi h16 (hGr h16 1 l0) (Int32.toNatClampNeg l4)) h16).bind fun q19 =>
          En_findBest_L144 Y l0 F q19 (l4 + 1) h16
        else none
      else none
theorem En_findBest_L144_ok (Y : Ly) (l0 : Nat) (tl0 : isO Y 0 l0) : ∀ (F : Nat) (l3 : Int32) (l4 : Int32) (h : Hp), AW Y 3 K_En_findBest 144 [(0, .ref l0), (3, .int l3), (4, .int l4)] [] h (En_findBest_L144 Y l0 F l3 l4 h) rI := by
  intro F
  induction F with
  | zero =>
    intro l3 l4 h
    exact aw_none
  | succ F ih =>
    intro l3 l4 h
    unfold En_findBest_L144
    refine aw_iload (pc := 144) d_En_findBest_144 2 rfl ?_
    refine aw_aload_n (pc := 146) d_En_findBest_146 rfl 0 rfl ?_
    refine gt_6 (pc := 147) d_En_findBest_147 w1_224 tl0 ?_
    refine aw_icmp_ge (pc := 150) (tgt := 188) d_En_findBest_150 (by decide) (fun c10 => ?_) (fun c10 => ?_)
    · refine aw_aload_n (pc := 188) d_En_findBest_188 rfl 0 rfl ?_
      refine gt_4 (pc := 189) d_En_findBest_189 w1_222 tl0 (fun tt11 => ?_)
      refine aw_aload_n (pc := 192) d_En_findBest_192 rfl 0 rfl ?_
      refine gt_7 (pc := 193) d_En_findBest_193 w1_225 tl0 ?_
      refine aw_iaload (pc := 196) d_En_findBest_196 tt11 (fun c12 => ?_)
      exact aw_ireturn (pc := 197) d_En_findBest_197 rfl rfl
    · refine aw_aload_n (pc := 153) d_En_findBest_153 rfl 0 rfl ?_
      refine gt_1 (pc := 154) d_En_findBest_154 w1_219 tl0 (fun tt13 => ?_)
      refine aw_iload (pc := 157) d_En_findBest_157 2 rfl ?_
      refine aw_aload_n (pc := 159) d_En_findBest_159 rfl 0 rfl ?_
      refine aw_iload (pc := 160) d_En_findBest_160 2 rfl ?_
      refine aw_iload_n (pc := 162) d_En_findBest_162 rfl 1 rfl ?_
      refine aw_cVrI (pc := 163) (ci := 0) (T := TX0) (N := 8) (As := [.int l4, .int l3]) (st := [.int l4, .ref (hGr h 1 l0)]) (ok_En_leastOver Y l0 l4 l3 h tl0) okV_En_leastOver rfl (by decide) tl0 w5_118 d_En_findBest_163 rfl (Nat.le_of_ble_eq_true rfl) rfl (Nat.le_of_ble_eq_true rfl) (fun q14 hq14 hTq14 => ?_)
      refine aw_iastore (pc := 166) d_En_findBest_166 tt13 (fun c15 => ?_)
      refine aw_letH (fun h16 => ?_)
      refine aw_aload_n (pc := 167) d_En_findBest_167 rfl 0 rfl ?_
      refine aw_iload (pc := 168) d_En_findBest_168 2 rfl ?_
      refine aw_iload_n (pc := 170) d_En_findBest_170 rfl 1 rfl ?_
      refine aw_aload_n (pc := 171) d_En_findBest_171 rfl 0 rfl ?_
      refine gt_1 (pc := 172) d_En_findBest_172 w1_219 tl0 (fun tt17 => ?_)
      refine aw_iload (pc := 175) d_En_findBest_175 2 rfl ?_
      refine aw_iaload (pc := 177) d_En_findBest_177 tt17 (fun c18 => ?_)
      refine aw_cVpI (pc := 178) (ci := 0) (T := TX0) (N := 8) (As := [.int l4, .int l3, .int (hAi h16 (hGr h16 1 l0) (Int32.toNatClampNeg l4))]) (st := []) (ok_En_stepTo Y l0 l4 l3 (hAi h16 (hGr h16 1 l0) (Int32.toNatClampNeg l4)) h16 tl0) okV_En_stepTo rfl (by decide) tl0 w5_48 d_En_findBest_178 rfl (Nat.le_of_ble_eq_true rfl) rfl (Nat.le_of_ble_eq_true rfl) (fun q19 hq19 hTq19 => ?_)
      refine aw_istore_n (pc := 181) (lv' := [(3, .int q19), (0, .ref l0), (4, .int l4)]) d_En_findBest_181 rfl (by decide) rfl ?_
      refine aw_iinc (pc := 182) (w := l4 + 1) (lv' := [(4, .int (l4 + 1)), (3, .int q19), (0, .ref l0)]) d_En_findBest_182 2 rfl rfl (by decide) rfl ?_
      refine aw_goto (pc := 185) (tgt := 144) d_En_findBest_185 (by decide) ?_
      exact aw_lv [2, 1, 0] rfl (ih q19 (l4 + 1) h16)
def En_findBest_L73 (Y : Ly) (l0 : Nat) (l3 : Int32) (k66 : Int32 → Hp → Option (Int32 × Hp)) : Nat → Int32 → Hp → Option (Int32 × Hp)
  | 0, _, _ => none
  | F + 1, l4, h =>
    if (hGi h 604 (hGr h 5 l0)) ≤ l4 then
      k66 (l3 + (-1)) h
    else
      (En_leastOver Y l0 l3 l4 h).bind fun q22 =>
      En_findBest_L73 Y l0 l3 k66 F (l4 + 1) q22.2
theorem En_findBest_L73_ok (Y : Ly) (l0 : Nat) (l3 : Int32) (k66 : Int32 → Hp → Option (Int32 × Hp)) (tl0 : isO Y 0 l0) (hk66 : ∀ (l3_ : Int32) (h_ : Hp), AW Y 3 K_En_findBest 66 [(0, .ref l0), (3, .int l3_)] [] h_ (k66 l3_ h_) rI) : ∀ (F : Nat) (l4 : Int32) (h : Hp), AW Y 3 K_En_findBest 73 [(0, .ref l0), (3, .int l3), (4, .int l4)] [] h (En_findBest_L73 Y l0 l3 k66 F l4 h) rI := by
  intro F
  induction F with
  | zero =>
    intro l4 h
    exact aw_none
  | succ F ih =>
    intro l4 h
    unfold En_findBest_L73
    refine aw_iload (pc := 73) d_En_findBest_73 2 rfl ?_
    refine aw_aload_n (pc := 75) d_En_findBest_75 rfl 0 rfl ?_
    refine gt_5 (pc := 76) d_En_findBest_76 w1_223 tl0 (fun tt20 => ?_)
    refine gt_604 (pc := 79) d_En_findBest_79 w1_188 tt20 ?_
    refine aw_icmp_ge (pc := 82) (tgt := 99) d_En_findBest_82 (by decide) (fun c21 => ?_) (fun c21 => ?_)
    · refine aw_iinc (pc := 99) (w := l3 + (-1)) (lv' := [(3, .int (l3 + (-1))), (0, .ref l0), (4, .int l4)]) d_En_findBest_99 1 rfl rfl (by decide) rfl ?_
      refine aw_goto (pc := 102) (tgt := 66) d_En_findBest_102 (by decide) ?_
      exact aw_lv [1, 0] rfl (hk66 (l3 + (-1)) h)
    · refine aw_aload_n (pc := 85) d_En_findBest_85 rfl 0 rfl ?_
      refine aw_iload_n (pc := 86) d_En_findBest_86 rfl 1 rfl ?_
      refine aw_iload (pc := 87) d_En_findBest_87 2 rfl ?_
      refine aw_cVrI (pc := 89) (ci := 0) (T := TX0) (N := 8) (As := [.int l3, .int l4]) (st := []) (ok_En_leastOver Y l0 l3 l4 h tl0) okV_En_leastOver rfl (by decide) tl0 w5_118 d_En_findBest_89 rfl (Nat.le_of_ble_eq_true rfl) rfl (Nat.le_of_ble_eq_true rfl) (fun q22 hq22 hTq22 => ?_)
      refine aw_pop (pc := 92) d_En_findBest_92 rfl ?_
      refine aw_iinc (pc := 93) (w := l4 + 1) (lv' := [(4, .int (l4 + 1)), (0, .ref l0), (3, .int l3)]) d_En_findBest_93 2 rfl rfl (by decide) rfl ?_
      refine aw_goto (pc := 96) (tgt := 73) d_En_findBest_96 (by decide) ?_
      exact aw_lv [1, 2, 0] rfl (ih (l4 + 1) q22.2)
def En_findBest_L66 (Y : Ly) (l0 : Nat) : Nat → Int32 → Hp → Option (Int32 × Hp)
  | 0, _, _ => none
  | F + 1, l3, h =>
    if l3 < 0 then
      if (hGi h 7 l0) < 0 then
        some ((-1), h)
      else
        if 8 ≤ (hGi h 7 l0) then
          some ((-1), h)
        else
          if inB (hGi h 7 l0) (lnY Y (hGr h 4 l0)) = true then
            if (hAi h (hGr h 4 l0) (Int32.toNatClampNeg (hGi h 7 l0))) = (-1) then
              some ((-1), h)
            else
              En_findBest_L144 Y l0 FU (hGi h 7 l0) 0 h
          else none
    else
      En_findBest_L73 Y l0 l3 (En_findBest_L66 Y l0 F) FU 0 h
theorem En_findBest_L66_ok (Y : Ly) (l0 : Nat) (tl0 : isO Y 0 l0) : ∀ (F : Nat) (l3 : Int32) (h : Hp), AW Y 3 K_En_findBest 66 [(0, .ref l0), (3, .int l3)] [] h (En_findBest_L66 Y l0 F l3 h) rI := by
  intro F
  induction F with
  | zero =>
    intro l3 h
    exact aw_none
  | succ F ih =>
    intro l3 h
    unfold En_findBest_L66
    refine aw_iload_n (pc := 66) d_En_findBest_66 rfl 1 rfl ?_
    refine aw_if_lt (pc := 67) (tgt := 105) d_En_findBest_67 (by decide) (fun c4 => ?_) (fun c4 => ?_)
    · refine aw_aload_n (pc := 105) d_En_findBest_105 rfl 0 rfl ?_
      refine gt_7 (pc := 106) d_En_findBest_106 w1_225 tl0 ?_
      refine aw_if_lt (pc := 109) (tgt := 134) d_En_findBest_109 (by decide) (fun c5 => ?_) (fun c5 => ?_)
      · refine aw_iconst (pc := 134) (x := (-1)) d_En_findBest_134 (by decide) ?_
        exact aw_ireturn (pc := 135) d_En_findBest_135 rfl rfl
      · refine aw_aload_n (pc := 112) d_En_findBest_112 rfl 0 rfl ?_
        refine gt_7 (pc := 113) d_En_findBest_113 w1_225 tl0 ?_
        refine aw_bipush (pc := 116) (x := 8) d_En_findBest_116 (by decide) ?_
        refine aw_icmp_ge (pc := 118) (tgt := 134) d_En_findBest_118 (by decide) (fun c6 => ?_) (fun c6 => ?_)
        · refine aw_iconst (pc := 134) (x := (-1)) d_En_findBest_134 (by decide) ?_
          exact aw_ireturn (pc := 135) d_En_findBest_135 rfl rfl
        · refine aw_aload_n (pc := 121) d_En_findBest_121 rfl 0 rfl ?_
          refine gt_4 (pc := 122) d_En_findBest_122 w1_222 tl0 (fun tt7 => ?_)
          refine aw_aload_n (pc := 125) d_En_findBest_125 rfl 0 rfl ?_
          refine gt_7 (pc := 126) d_En_findBest_126 w1_225 tl0 ?_
          refine aw_iaload (pc := 129) d_En_findBest_129 tt7 (fun c8 => ?_)
          refine aw_iconst (pc := 130) (x := (-1)) d_En_findBest_130 (by decide) ?_
          refine aw_icmp_ne (pc := 131) (tgt := 136) d_En_findBest_131 (by decide) (fun c9 => ?_) (fun c9 => ?_)
          · refine aw_iconst (pc := 134) (x := (-1)) d_En_findBest_134 (by decide) ?_
            exact aw_ireturn (pc := 135) d_En_findBest_135 rfl rfl
          · refine aw_aload_n (pc := 136) d_En_findBest_136 rfl 0 rfl ?_
            refine gt_7 (pc := 137) d_En_findBest_137 w1_225 tl0 ?_
            refine aw_istore_n (pc := 140) (lv' := [(3, .int (hGi h 7 l0)), (0, .ref l0)]) d_En_findBest_140 rfl (by decide) rfl ?_
            refine aw_iconst (pc := 141) (x := 0) d_En_findBest_141 (by decide) ?_
            refine aw_istore (pc := 142) (lv' := [(4, .int 0), (3, .int (hGi h 7 l0)), (0, .ref l0)]) d_En_findBest_142 (by decide) rfl ?_
            exact aw_lv [2, 1, 0] rfl (En_findBest_L144_ok Y l0 tl0 FU (hGi h 7 l0) 0 h)
    · refine aw_iconst (pc := 70) (x := 0) d_En_findBest_70 (by decide) ?_
      refine aw_istore (pc := 71) (lv' := [(4, .int 0), (0, .ref l0), (3, .int l3)]) d_En_findBest_71 (by decide) rfl ?_
      exact aw_lv [1, 2, 0] rfl (En_findBest_L73_ok Y l0 l3 (En_findBest_L66 Y l0 F) tl0 ih FU 0 h)
def En_findBest_L12 (Y : Ly) (l0 : Nat) : Nat → Int32 → Hp → Option (Int32 × Hp)
  | 0, _, _ => none
  | F + 1, l3, h =>
    if (hGi h 604 (hGr h 5 l0)) ≤ l3 then
      En_findBest_L66 Y l0 FU ((hGi h 6 l0) - 1) h
    else
      (St_isFinal Y (hGr h 5 l0) l3 h).bind fun q25 =>
      if q25 = true then
        if inB (((hGi h 6 l0) * 8) + l3) (lnY Y (hGr h 4 l0)) = true then
          letH (hTi h (hGr h 4 l0) (Int32.toNatClampNeg (((hGi h 6 l0) * 8) + l3)) 0) fun h28 =>
          En_findBest_L12 Y l0 F (l3 + 1) h28
        else none
      else
        if inB (((hGi h 6 l0) * 8) + l3) (lnY Y (hGr h 4 l0)) = true then
          letH (hTi h (hGr h 4 l0) (Int32.toNatClampNeg (((hGi h 6 l0) * 8) + l3)) (-1)) fun h30 =>
          En_findBest_L12 Y l0 F (l3 + 1) h30
        else none
theorem En_findBest_L12_ok (Y : Ly) (l0 : Nat) (tl0 : isO Y 0 l0) : ∀ (F : Nat) (l3 : Int32) (h : Hp), AW Y 3 K_En_findBest 12 [(0, .ref l0), (3, .int l3)] [] h (En_findBest_L12 Y l0 F l3 h) rI := by
  intro F
  induction F with
  | zero =>
    intro l3 h
    exact aw_none
  | succ F ih =>
    intro l3 h
    unfold En_findBest_L12
    refine aw_iload_n (pc := 12) d_En_findBest_12 rfl 1 rfl ?_
    refine aw_aload_n (pc := 13) d_En_findBest_13 rfl 0 rfl ?_
    refine gt_5 (pc := 14) d_En_findBest_14 w1_223 tl0 (fun tt2 => ?_)
    refine gt_604 (pc := 17) d_En_findBest_17 w1_188 tt2 ?_
    refine aw_icmp_ge (pc := 20) (tgt := 59) d_En_findBest_20 (by decide) (fun c3 => ?_) (fun c3 => ?_)
    · refine aw_aload_n (pc := 59) d_En_findBest_59 rfl 0 rfl ?_
      refine gt_6 (pc := 60) d_En_findBest_60 w1_224 tl0 ?_
      refine aw_iconst (pc := 63) (x := 1) d_En_findBest_63 (by decide) ?_
      refine aw_isub (pc := 64) d_En_findBest_64 ?_
      refine aw_istore_n (pc := 65) (lv' := [(3, .int ((hGi h 6 l0) - 1)), (0, .ref l0)]) d_En_findBest_65 rfl (by decide) rfl ?_
      exact aw_lv [1, 0] rfl (En_findBest_L66_ok Y l0 tl0 FU ((hGi h 6 l0) - 1) h)
    · refine aw_aload_n (pc := 23) d_En_findBest_23 rfl 0 rfl ?_
      refine gt_4 (pc := 24) d_En_findBest_24 w1_222 tl0 (fun tt23 => ?_)
      refine aw_aload_n (pc := 27) d_En_findBest_27 rfl 0 rfl ?_
      refine gt_6 (pc := 28) d_En_findBest_28 w1_224 tl0 ?_
      refine aw_bipush (pc := 31) (x := 8) d_En_findBest_31 (by decide) ?_
      refine aw_imul (pc := 33) d_En_findBest_33 ?_
      refine aw_iload_n (pc := 34) d_En_findBest_34 rfl 1 rfl ?_
      refine aw_iadd (pc := 35) d_En_findBest_35 ?_
      refine aw_aload_n (pc := 36) d_En_findBest_36 rfl 0 rfl ?_
      refine gt_5 (pc := 37) d_En_findBest_37 w1_223 tl0 (fun tt24 => ?_)
      refine aw_iload_n (pc := 40) d_En_findBest_40 rfl 1 rfl ?_
      refine aw_cVpZ (pc := 41) (ci := 6) (T := TX6) (N := 8) (As := [.int l3]) (st := [.int (((hGi h 6 l0) * 8) + l3), .ref (hGr h 4 l0)]) (ok_St_isFinal Y (hGr h 5 l0) l3 h tt24) okV_St_isFinal rfl (by decide) tt24 w5_53 d_En_findBest_41 rfl (Nat.le_of_ble_eq_true rfl) rfl (Nat.le_of_ble_eq_true rfl) (fun q25 hq25 hTq25 => ?_)
      refine aw_beq (pc := 44) (tgt := 51) d_En_findBest_44 (by decide) (fun c26 => ?_) (fun c26 => ?_)
      · refine aw_iconst (pc := 47) (x := 0) d_En_findBest_47 (by decide) ?_
        refine aw_goto (pc := 48) (tgt := 52) d_En_findBest_48 (by decide) ?_
        refine aw_iastore (pc := 52) d_En_findBest_52 tt23 (fun c27 => ?_)
        refine aw_letH (fun h28 => ?_)
        refine aw_iinc (pc := 53) (w := l3 + 1) (lv' := [(3, .int (l3 + 1)), (0, .ref l0)]) d_En_findBest_53 1 rfl rfl (by decide) rfl ?_
        refine aw_goto (pc := 56) (tgt := 12) d_En_findBest_56 (by decide) ?_
        exact aw_lv [1, 0] rfl (ih (l3 + 1) h28)
      · refine aw_iconst (pc := 51) (x := (-1)) d_En_findBest_51 (by decide) ?_
        refine aw_iastore (pc := 52) d_En_findBest_52 tt23 (fun c29 => ?_)
        refine aw_letH (fun h30 => ?_)
        refine aw_iinc (pc := 53) (w := l3 + 1) (lv' := [(3, .int (l3 + 1)), (0, .ref l0)]) d_En_findBest_53 1 rfl rfl (by decide) rfl ?_
        refine aw_goto (pc := 56) (tgt := 12) d_En_findBest_56 (by decide) ?_
        exact aw_lv [1, 0] rfl (ih (l3 + 1) h30)
def En_findBest (Y : Ly) (l0 : Nat) (l1 : Nat) (l2 : Int32) (h : Hp) : Option (Int32 × Hp) :=
  (En_lookAt Y l0 l1 l2 (hGi h 417 l1) h).bind fun q1 =>
  En_findBest_L12 Y l0 FU 0 q1
theorem ok_En_findBest (Y : Ly) (l0 : Nat) (l1 : Nat) (l2 : Int32) (h : Hp) (t0 : isO Y 0 l0) (t1 : isO Y 4 l1) : AM Y 3 K_En_findBest [.ref l0, .ref l1, .int l2] h (En_findBest Y l0 l1 l2 h) rI := by
  refine AM.of rfl (Nat.le_of_ble_eq_true rfl) ?_
  show AW Y 3 K_En_findBest 0 [(0, .ref l0), (1, .ref l1), (2, .int l2)] [] h (En_findBest Y l0 l1 l2 h) rI
  unfold En_findBest
  refine aw_aload_n (pc := 0) d_En_findBest_0 rfl 0 rfl ?_
  refine aw_aload_n (pc := 1) d_En_findBest_1 rfl 1 rfl ?_
  refine aw_iload_n (pc := 2) d_En_findBest_2 rfl 2 rfl ?_
  refine aw_aload_n (pc := 3) d_En_findBest_3 rfl 1 rfl ?_
  refine gt_417 (pc := 4) d_En_findBest_4 w2_168 t1 ?_
  refine aw_cVrV (pc := 7) (ci := 0) (T := TX0) (N := 8) (As := [.ref l1, .int l2, .int (hGi h 417 l1)]) (st := []) (ok_En_lookAt Y l0 l1 l2 (hGi h 417 l1) h t0 t1) okV_En_lookAt rfl (by decide) t0 w5_27 d_En_findBest_7 rfl (Nat.le_of_ble_eq_true rfl) rfl (Nat.le_of_ble_eq_true rfl) (fun q1 hq1 hTq1 => ?_)
  refine aw_iconst (pc := 10) (x := 0) d_En_findBest_10 (by decide) ?_
  refine aw_istore_n (pc := 11) (lv' := [(3, .int 0), (0, .ref l0), (1, .ref l1), (2, .int l2)]) d_En_findBest_11 rfl (by decide) rfl ?_
  exact aw_lv [1, 0] rfl (En_findBest_L12_ok Y l0 t0 FU 0 q1)
/-! LastPages$Endings.isTriedOne()Z -/
theorem d_En_isTriedOne_0 : decode prog_2_method_15_code 0 = .ok (.aload_n 0, 1) := by decide +kernel
theorem d_En_isTriedOne_1 : decode prog_2_method_15_code 1 = .ok (.getfield 39, 3) := by decide +kernel
theorem d_En_isTriedOne_4 : decode prog_2_method_15_code 4 = .ok (.istore_n 1, 1) := by decide +kernel
theorem d_En_isTriedOne_5 : decode prog_2_method_15_code 5 = .ok (.iconst 0, 1) := by decide +kernel
theorem d_En_isTriedOne_6 : decode prog_2_method_15_code 6 = .ok (.istore_n 2, 1) := by decide +kernel
theorem d_En_isTriedOne_7 : decode prog_2_method_15_code 7 = .ok (.iload_n 2, 1) := by decide +kernel
theorem d_En_isTriedOne_8 : decode prog_2_method_15_code 8 = .ok (.aload_n 0, 1) := by decide +kernel
theorem d_En_isTriedOne_9 : decode prog_2_method_15_code 9 = .ok (.getfield 35, 3) := by decide +kernel
theorem d_En_isTriedOne_12 : decode prog_2_method_15_code 12 = .ok (.if_icmp .ge 22, 3) := by decide +kernel
theorem d_En_isTriedOne_15 : decode prog_2_method_15_code 15 = .ok (.aload_n 0, 1) := by decide +kernel
theorem d_En_isTriedOne_16 : decode prog_2_method_15_code 16 = .ok (.iload_n 2, 1) := by decide +kernel
theorem d_En_isTriedOne_17 : decode prog_2_method_15_code 17 = .ok (.iload_n 1, 1) := by decide +kernel
theorem d_En_isTriedOne_18 : decode prog_2_method_15_code 18 = .ok (.aload_n 0, 1) := by decide +kernel
theorem d_En_isTriedOne_19 : decode prog_2_method_15_code 19 = .ok (.getfield 15, 3) := by decide +kernel
theorem d_En_isTriedOne_22 : decode prog_2_method_15_code 22 = .ok (.iload_n 2, 1) := by decide +kernel
theorem d_En_isTriedOne_23 : decode prog_2_method_15_code 23 = .ok (.iaload, 1) := by decide +kernel
theorem d_En_isTriedOne_24 : decode prog_2_method_15_code 24 = .ok (.invokevirtual 100, 3) := by decide +kernel
theorem d_En_isTriedOne_27 : decode prog_2_method_15_code 27 = .ok (.istore_n 1, 1) := by decide +kernel
theorem d_En_isTriedOne_28 : decode prog_2_method_15_code 28 = .ok (.iinc 2 1, 3) := by decide +kernel
theorem d_En_isTriedOne_31 : decode prog_2_method_15_code 31 = .ok (.goto (-24), 3) := by decide +kernel
theorem d_En_isTriedOne_34 : decode prog_2_method_15_code 34 = .ok (.aload_n 0, 1) := by decide +kernel
theorem d_En_isTriedOne_35 : decode prog_2_method_15_code 35 = .ok (.getfield 31, 3) := by decide +kernel
theorem d_En_isTriedOne_38 : decode prog_2_method_15_code 38 = .ok (.iload_n 1, 1) := by decide +kernel
theorem d_En_isTriedOne_39 : decode prog_2_method_15_code 39 = .ok (.invokevirtual 93, 3) := by decide +kernel
theorem d_En_isTriedOne_42 : decode prog_2_method_15_code 42 = .ok (.ireturn, 1) := by decide +kernel
def En_isTriedOne_L7 (Y : Ly) (l0 : Nat) (h : Hp) : Nat → Int32 → Int32 → Option Bool
  | 0, _, _ => none
  | F + 1, l1, l2 =>
    if (hGi h 6 l0) ≤ l2 then
      (St_isFinal Y (hGr h 5 l0) l1 h).bind fun q3 =>
      some q3
    else
      if inB l2 (lnY Y (hGr h 1 l0)) = true then
        (En_stepTo Y l0 l2 l1 (hAi h (hGr h 1 l0) (Int32.toNatClampNeg l2)) h).bind fun q6 =>
        En_isTriedOne_L7 Y l0 h F q6 (l2 + 1)
      else none
theorem En_isTriedOne_L7_ok (Y : Ly) (l0 : Nat) (h : Hp) (tl0 : isO Y 0 l0) : ∀ (F : Nat) (l1 : Int32) (l2 : Int32), AW Y 2 K_En_isTriedOne 7 [(0, .ref l0), (1, .int l1), (2, .int l2)] [] h (En_isTriedOne_L7 Y l0 h F l1 l2) (pZ h) := by
  intro F
  induction F with
  | zero =>
    intro l1 l2
    exact aw_none
  | succ F ih =>
    intro l1 l2
    unfold En_isTriedOne_L7
    refine aw_iload_n (pc := 7) d_En_isTriedOne_7 rfl 2 rfl ?_
    refine aw_aload_n (pc := 8) d_En_isTriedOne_8 rfl 0 rfl ?_
    refine gt_6 (pc := 9) d_En_isTriedOne_9 w1_224 tl0 ?_
    refine aw_icmp_ge (pc := 12) (tgt := 34) d_En_isTriedOne_12 (by decide) (fun c1 => ?_) (fun c1 => ?_)
    · refine aw_aload_n (pc := 34) d_En_isTriedOne_34 rfl 0 rfl ?_
      refine gt_5 (pc := 35) d_En_isTriedOne_35 w1_223 tl0 (fun tt2 => ?_)
      refine aw_iload_n (pc := 38) d_En_isTriedOne_38 rfl 1 rfl ?_
      refine aw_cVpZ (pc := 39) (ci := 6) (T := TX6) (N := 8) (As := [.int l1]) (st := []) (ok_St_isFinal Y (hGr h 5 l0) l1 h tt2) okV_St_isFinal rfl (by decide) tt2 w5_53 d_En_isTriedOne_39 rfl (Nat.le_of_ble_eq_true rfl) rfl (Nat.le_of_ble_eq_true rfl) (fun q3 hq3 hTq3 => ?_)
      exact aw_zreturn (pc := 42) (b := q3) d_En_isTriedOne_42 rfl rfl
    · refine aw_aload_n (pc := 15) d_En_isTriedOne_15 rfl 0 rfl ?_
      refine aw_iload_n (pc := 16) d_En_isTriedOne_16 rfl 2 rfl ?_
      refine aw_iload_n (pc := 17) d_En_isTriedOne_17 rfl 1 rfl ?_
      refine aw_aload_n (pc := 18) d_En_isTriedOne_18 rfl 0 rfl ?_
      refine gt_1 (pc := 19) d_En_isTriedOne_19 w1_219 tl0 (fun tt4 => ?_)
      refine aw_iload_n (pc := 22) d_En_isTriedOne_22 rfl 2 rfl ?_
      refine aw_iaload (pc := 23) d_En_isTriedOne_23 tt4 (fun c5 => ?_)
      refine aw_cVpI (pc := 24) (ci := 0) (T := TX0) (N := 8) (As := [.int l2, .int l1, .int (hAi h (hGr h 1 l0) (Int32.toNatClampNeg l2))]) (st := []) (ok_En_stepTo Y l0 l2 l1 (hAi h (hGr h 1 l0) (Int32.toNatClampNeg l2)) h tl0) okV_En_stepTo rfl (by decide) tl0 w5_48 d_En_isTriedOne_24 rfl (Nat.le_of_ble_eq_true rfl) rfl (Nat.le_of_ble_eq_true rfl) (fun q6 hq6 hTq6 => ?_)
      refine aw_istore_n (pc := 27) (lv' := [(1, .int q6), (0, .ref l0), (2, .int l2)]) d_En_isTriedOne_27 rfl (by decide) rfl ?_
      refine aw_iinc (pc := 28) (w := l2 + 1) (lv' := [(2, .int (l2 + 1)), (1, .int q6), (0, .ref l0)]) d_En_isTriedOne_28 2 rfl rfl (by decide) rfl ?_
      refine aw_goto (pc := 31) (tgt := 7) d_En_isTriedOne_31 (by decide) ?_
      exact aw_lv [2, 1, 0] rfl (ih q6 (l2 + 1))
def En_isTriedOne (Y : Ly) (l0 : Nat) (h : Hp) : Option Bool :=
  En_isTriedOne_L7 Y l0 h FU (hGi h 7 l0) 0
theorem ok_En_isTriedOne (Y : Ly) (l0 : Nat) (h : Hp) (t0 : isO Y 0 l0) : AM Y 2 K_En_isTriedOne [.ref l0] h (En_isTriedOne Y l0 h) (pZ h) := by
  refine AM.of rfl (Nat.le_of_ble_eq_true rfl) ?_
  show AW Y 2 K_En_isTriedOne 0 [(0, .ref l0)] [] h (En_isTriedOne Y l0 h) (pZ h)
  unfold En_isTriedOne
  refine aw_aload_n (pc := 0) d_En_isTriedOne_0 rfl 0 rfl ?_
  refine gt_7 (pc := 1) d_En_isTriedOne_1 w1_225 t0 ?_
  refine aw_istore_n (pc := 4) (lv' := [(1, .int (hGi h 7 l0)), (0, .ref l0)]) d_En_isTriedOne_4 rfl (by decide) rfl ?_
  refine aw_iconst (pc := 5) (x := 0) d_En_isTriedOne_5 (by decide) ?_
  refine aw_istore_n (pc := 6) (lv' := [(2, .int 0), (1, .int (hGi h 7 l0)), (0, .ref l0)]) d_En_isTriedOne_6 rfl (by decide) rfl ?_
  exact aw_lv [2, 1, 0] rfl (En_isTriedOne_L7_ok Y l0 h t0 FU (hGi h 7 l0) 0)
/-! LastPages$Story.hasFinale(I)Z -/
theorem d_St_hasFinale_0 : decode prog_8_method_6_code 0 = .ok (.iload_n 1, 1) := by decide +kernel
theorem d_St_hasFinale_1 : decode prog_8_method_6_code 1 = .ok (.ifCond .lt 15, 3) := by decide +kernel
theorem d_St_hasFinale_4 : decode prog_8_method_6_code 4 = .ok (.iload_n 1, 1) := by decide +kernel
theorem d_St_hasFinale_5 : decode prog_8_method_6_code 5 = .ok (.aload_n 0, 1) := by decide +kernel
theorem d_St_hasFinale_6 : decode prog_8_method_6_code 6 = .ok (.getfield 34, 3) := by decide +kernel
theorem d_St_hasFinale_9 : decode prog_8_method_6_code 9 = .ok (.if_icmp .ge 7, 3) := by decide +kernel
theorem d_St_hasFinale_12 : decode prog_8_method_6_code 12 = .ok (.iconst 1, 1) := by decide +kernel
theorem d_St_hasFinale_13 : decode prog_8_method_6_code 13 = .ok (.goto 4, 3) := by decide +kernel
theorem d_St_hasFinale_16 : decode prog_8_method_6_code 16 = .ok (.iconst 0, 1) := by decide +kernel
theorem d_St_hasFinale_17 : decode prog_8_method_6_code 17 = .ok (.ireturn, 1) := by decide +kernel
def St_hasFinale (Y : Ly) (l0 : Nat) (l1 : Int32) (h : Hp) : Option Bool :=
  if l1 < 0 then
    some false
  else
    if (hGi h 607 l0) ≤ l1 then
      some false
    else
      some true
theorem ok_St_hasFinale (Y : Ly) (l0 : Nat) (l1 : Int32) (h : Hp) (t0 : isO Y 6 l0) : AM Y 0 K_St_hasFinale [.ref l0, .int l1] h (St_hasFinale Y l0 l1 h) (pZ h) := by
  refine AM.of rfl (Nat.le_of_ble_eq_true rfl) ?_
  show AW Y 0 K_St_hasFinale 0 [(0, .ref l0), (1, .int l1)] [] h (St_hasFinale Y l0 l1 h) (pZ h)
  unfold St_hasFinale
  refine aw_iload_n (pc := 0) d_St_hasFinale_0 rfl 1 rfl ?_
  refine aw_if_lt (pc := 1) (tgt := 16) d_St_hasFinale_1 (by decide) (fun c1 => ?_) (fun c1 => ?_)
  · refine aw_iconst (pc := 16) (x := 0) d_St_hasFinale_16 (by decide) ?_
    exact aw_zreturn (pc := 17) (b := false) d_St_hasFinale_17 rfl rfl
  · refine aw_iload_n (pc := 4) d_St_hasFinale_4 rfl 1 rfl ?_
    refine aw_aload_n (pc := 5) d_St_hasFinale_5 rfl 0 rfl ?_
    refine gt_607 (pc := 6) d_St_hasFinale_6 w1_196 t0 ?_
    refine aw_icmp_ge (pc := 9) (tgt := 16) d_St_hasFinale_9 (by decide) (fun c2 => ?_) (fun c2 => ?_)
    · refine aw_iconst (pc := 16) (x := 0) d_St_hasFinale_16 (by decide) ?_
      exact aw_zreturn (pc := 17) (b := false) d_St_hasFinale_17 rfl rfl
    · refine aw_iconst (pc := 12) (x := 1) d_St_hasFinale_12 (by decide) ?_
      refine aw_goto (pc := 13) (tgt := 17) d_St_hasFinale_13 (by decide) ?_
      exact aw_zreturn (pc := 17) (b := true) d_St_hasFinale_17 rfl rfl
/-! LastPages$Story.turnInFinale(II)I -/
theorem d_St_turnInFinale_0 : decode prog_8_method_15_code 0 = .ok (.aload_n 0, 1) := by decide +kernel
theorem d_St_turnInFinale_1 : decode prog_8_method_15_code 1 = .ok (.iload_n 1, 1) := by decide +kernel
theorem d_St_turnInFinale_2 : decode prog_8_method_15_code 2 = .ok (.invokevirtual 64, 3) := by decide +kernel
theorem d_St_turnInFinale_5 : decode prog_8_method_15_code 5 = .ok (.ifCond .eq 17, 3) := by decide +kernel
theorem d_St_turnInFinale_8 : decode prog_8_method_15_code 8 = .ok (.iload_n 2, 1) := by decide +kernel
theorem d_St_turnInFinale_9 : decode prog_8_method_15_code 9 = .ok (.ifCond .lt 13, 3) := by decide +kernel
theorem d_St_turnInFinale_12 : decode prog_8_method_15_code 12 = .ok (.iload_n 2, 1) := by decide +kernel
theorem d_St_turnInFinale_13 : decode prog_8_method_15_code 13 = .ok (.aload_n 0, 1) := by decide +kernel
theorem d_St_turnInFinale_14 : decode prog_8_method_15_code 14 = .ok (.getfield 18, 3) := by decide +kernel
theorem d_St_turnInFinale_17 : decode prog_8_method_15_code 17 = .ok (.iload_n 1, 1) := by decide +kernel
theorem d_St_turnInFinale_18 : decode prog_8_method_15_code 18 = .ok (.iaload, 1) := by decide +kernel
theorem d_St_turnInFinale_19 : decode prog_8_method_15_code 19 = .ok (.if_icmp .lt 5, 3) := by decide +kernel
theorem d_St_turnInFinale_22 : decode prog_8_method_15_code 22 = .ok (.iconst (-1), 1) := by decide +kernel
theorem d_St_turnInFinale_23 : decode prog_8_method_15_code 23 = .ok (.ireturn, 1) := by decide +kernel
theorem d_St_turnInFinale_24 : decode prog_8_method_15_code 24 = .ok (.aload_n 0, 1) := by decide +kernel
theorem d_St_turnInFinale_25 : decode prog_8_method_15_code 25 = .ok (.getfield 21, 3) := by decide +kernel
theorem d_St_turnInFinale_28 : decode prog_8_method_15_code 28 = .ok (.iload_n 1, 1) := by decide +kernel
theorem d_St_turnInFinale_29 : decode prog_8_method_15_code 29 = .ok (.bipush 6, 2) := by decide +kernel
theorem d_St_turnInFinale_31 : decode prog_8_method_15_code 31 = .ok (.imul, 1) := by decide +kernel
theorem d_St_turnInFinale_32 : decode prog_8_method_15_code 32 = .ok (.iload_n 2, 1) := by decide +kernel
theorem d_St_turnInFinale_33 : decode prog_8_method_15_code 33 = .ok (.iadd, 1) := by decide +kernel
theorem d_St_turnInFinale_34 : decode prog_8_method_15_code 34 = .ok (.iaload, 1) := by decide +kernel
theorem d_St_turnInFinale_35 : decode prog_8_method_15_code 35 = .ok (.ireturn, 1) := by decide +kernel
def St_turnInFinale (Y : Ly) (l0 : Nat) (l1 : Int32) (l2 : Int32) (h : Hp) : Option Int32 :=
  (St_hasFinale Y l0 l1 h).bind fun q1 =>
  if q1 = true then
    if l2 < 0 then
      some (-1)
    else
      if inB l1 (lnY Y (hGr h 602 l0)) = true then
        if l2 < (hAi h (hGr h 602 l0) (Int32.toNatClampNeg l1)) then
          if inB ((l1 * 6) + l2) (lnY Y (hGr h 603 l0)) = true then
            some (hAi h (hGr h 603 l0) (Int32.toNatClampNeg ((l1 * 6) + l2)))
          else none
        else
          some (-1)
      else none
  else
    some (-1)
theorem ok_St_turnInFinale (Y : Ly) (l0 : Nat) (l1 : Int32) (l2 : Int32) (h : Hp) (t0 : isO Y 6 l0) : AM Y 1 K_St_turnInFinale [.ref l0, .int l1, .int l2] h (St_turnInFinale Y l0 l1 l2 h) (pI h) := by
  refine AM.of rfl (Nat.le_of_ble_eq_true rfl) ?_
  show AW Y 1 K_St_turnInFinale 0 [(0, .ref l0), (1, .int l1), (2, .int l2)] [] h (St_turnInFinale Y l0 l1 l2 h) (pI h)
  unfold St_turnInFinale
  refine aw_aload_n (pc := 0) d_St_turnInFinale_0 rfl 0 rfl ?_
  refine aw_iload_n (pc := 1) d_St_turnInFinale_1 rfl 1 rfl ?_
  refine aw_cVpZ (pc := 2) (ci := 6) (T := TX6) (N := 8) (As := [.int l1]) (st := []) (ok_St_hasFinale Y l0 l1 h t0) okV_St_hasFinale rfl (by decide) t0 w4_230 d_St_turnInFinale_2 rfl (Nat.le_of_ble_eq_true rfl) rfl (Nat.le_of_ble_eq_true rfl) (fun q1 hq1 hTq1 => ?_)
  refine aw_beq (pc := 5) (tgt := 22) d_St_turnInFinale_5 (by decide) (fun c2 => ?_) (fun c2 => ?_)
  · refine aw_iload_n (pc := 8) d_St_turnInFinale_8 rfl 2 rfl ?_
    refine aw_if_lt (pc := 9) (tgt := 22) d_St_turnInFinale_9 (by decide) (fun c3 => ?_) (fun c3 => ?_)
    · refine aw_iconst (pc := 22) (x := (-1)) d_St_turnInFinale_22 (by decide) ?_
      exact aw_ireturn (pc := 23) d_St_turnInFinale_23 rfl rfl
    · refine aw_iload_n (pc := 12) d_St_turnInFinale_12 rfl 2 rfl ?_
      refine aw_aload_n (pc := 13) d_St_turnInFinale_13 rfl 0 rfl ?_
      refine gt_602 (pc := 14) d_St_turnInFinale_14 w1_182 t0 (fun tt4 => ?_)
      refine aw_iload_n (pc := 17) d_St_turnInFinale_17 rfl 1 rfl ?_
      refine aw_iaload (pc := 18) d_St_turnInFinale_18 tt4 (fun c5 => ?_)
      refine aw_icmp_lt (pc := 19) (tgt := 24) d_St_turnInFinale_19 (by decide) (fun c6 => ?_) (fun c6 => ?_)
      · refine aw_aload_n (pc := 24) d_St_turnInFinale_24 rfl 0 rfl ?_
        refine gt_603 (pc := 25) d_St_turnInFinale_25 w1_185 t0 (fun tt7 => ?_)
        refine aw_iload_n (pc := 28) d_St_turnInFinale_28 rfl 1 rfl ?_
        refine aw_bipush (pc := 29) (x := 6) d_St_turnInFinale_29 (by decide) ?_
        refine aw_imul (pc := 31) d_St_turnInFinale_31 ?_
        refine aw_iload_n (pc := 32) d_St_turnInFinale_32 rfl 2 rfl ?_
        refine aw_iadd (pc := 33) d_St_turnInFinale_33 ?_
        refine aw_iaload (pc := 34) d_St_turnInFinale_34 tt7 (fun c8 => ?_)
        exact aw_ireturn (pc := 35) d_St_turnInFinale_35 rfl rfl
      · refine aw_iconst (pc := 22) (x := (-1)) d_St_turnInFinale_22 (by decide) ?_
        exact aw_ireturn (pc := 23) d_St_turnInFinale_23 rfl rfl
  · refine aw_iconst (pc := 22) (x := (-1)) d_St_turnInFinale_22 (by decide) ?_
    exact aw_ireturn (pc := 23) d_St_turnInFinale_23 rfl rfl
/-! LastPages$Endings.fittingFinales(LLastPages$Shelf;I)I -/
theorem d_En_fittingFinales_0 : decode prog_2_method_16_code 0 = .ok (.aload_n 0, 1) := by decide +kernel
theorem d_En_fittingFinales_1 : decode prog_2_method_16_code 1 = .ok (.aload_n 1, 1) := by decide +kernel
theorem d_En_fittingFinales_2 : decode prog_2_method_16_code 2 = .ok (.iload_n 2, 1) := by decide +kernel
theorem d_En_fittingFinales_3 : decode prog_2_method_16_code 3 = .ok (.aload_n 1, 1) := by decide +kernel
theorem d_En_fittingFinales_4 : decode prog_2_method_16_code 4 = .ok (.getfield 118, 3) := by decide +kernel
theorem d_En_fittingFinales_7 : decode prog_2_method_16_code 7 = .ok (.invokevirtual 86, 3) := by decide +kernel
theorem d_En_fittingFinales_10 : decode prog_2_method_16_code 10 = .ok (.iconst 0, 1) := by decide +kernel
theorem d_En_fittingFinales_11 : decode prog_2_method_16_code 11 = .ok (.istore_n 3, 1) := by decide +kernel
theorem d_En_fittingFinales_12 : decode prog_2_method_16_code 12 = .ok (.iconst 0, 1) := by decide +kernel
theorem d_En_fittingFinales_13 : decode prog_2_method_16_code 13 = .ok (.istore 4, 2) := by decide +kernel
theorem d_En_fittingFinales_15 : decode prog_2_method_16_code 15 = .ok (.iload 4, 2) := by decide +kernel
theorem d_En_fittingFinales_17 : decode prog_2_method_16_code 17 = .ok (.aload_n 0, 1) := by decide +kernel
theorem d_En_fittingFinales_18 : decode prog_2_method_16_code 18 = .ok (.getfield 31, 3) := by decide +kernel
theorem d_En_fittingFinales_21 : decode prog_2_method_16_code 21 = .ok (.getfield 127, 3) := by decide +kernel
theorem d_En_fittingFinales_24 : decode prog_2_method_16_code 24 = .ok (.if_icmp .ge 76, 3) := by decide +kernel
theorem d_En_fittingFinales_27 : decode prog_2_method_16_code 27 = .ok (.iconst 0, 1) := by decide +kernel
theorem d_En_fittingFinales_28 : decode prog_2_method_16_code 28 = .ok (.istore 5, 2) := by decide +kernel
theorem d_En_fittingFinales_30 : decode prog_2_method_16_code 30 = .ok (.iload 5, 2) := by decide +kernel
theorem d_En_fittingFinales_32 : decode prog_2_method_16_code 32 = .ok (.aload_n 0, 1) := by decide +kernel
theorem d_En_fittingFinales_33 : decode prog_2_method_16_code 33 = .ok (.getfield 35, 3) := by decide +kernel
theorem d_En_fittingFinales_36 : decode prog_2_method_16_code 36 = .ok (.if_icmp .ge 27, 3) := by decide +kernel
theorem d_En_fittingFinales_39 : decode prog_2_method_16_code 39 = .ok (.aload_n 0, 1) := by decide +kernel
theorem d_En_fittingFinales_40 : decode prog_2_method_16_code 40 = .ok (.getfield 15, 3) := by decide +kernel
theorem d_En_fittingFinales_43 : decode prog_2_method_16_code 43 = .ok (.iload 5, 2) := by decide +kernel
theorem d_En_fittingFinales_45 : decode prog_2_method_16_code 45 = .ok (.aload_n 0, 1) := by decide +kernel
theorem d_En_fittingFinales_46 : decode prog_2_method_16_code 46 = .ok (.getfield 31, 3) := by decide +kernel
theorem d_En_fittingFinales_49 : decode prog_2_method_16_code 49 = .ok (.iload 4, 2) := by decide +kernel
theorem d_En_fittingFinales_51 : decode prog_2_method_16_code 51 = .ok (.iload 5, 2) := by decide +kernel
theorem d_En_fittingFinales_53 : decode prog_2_method_16_code 53 = .ok (.invokevirtual 130, 3) := by decide +kernel
theorem d_En_fittingFinales_56 : decode prog_2_method_16_code 56 = .ok (.iastore, 1) := by decide +kernel
theorem d_En_fittingFinales_57 : decode prog_2_method_16_code 57 = .ok (.iinc 5 1, 3) := by decide +kernel
theorem d_En_fittingFinales_60 : decode prog_2_method_16_code 60 = .ok (.goto (-30), 3) := by decide +kernel
theorem d_En_fittingFinales_63 : decode prog_2_method_16_code 63 = .ok (.aload_n 0, 1) := by decide +kernel
theorem d_En_fittingFinales_64 : decode prog_2_method_16_code 64 = .ok (.getfield 31, 3) := by decide +kernel
theorem d_En_fittingFinales_67 : decode prog_2_method_16_code 67 = .ok (.getfield 133, 3) := by decide +kernel
theorem d_En_fittingFinales_70 : decode prog_2_method_16_code 70 = .ok (.iload 4, 2) := by decide +kernel
theorem d_En_fittingFinales_72 : decode prog_2_method_16_code 72 = .ok (.iaload, 1) := by decide +kernel
theorem d_En_fittingFinales_73 : decode prog_2_method_16_code 73 = .ok (.aload_n 0, 1) := by decide +kernel
theorem d_En_fittingFinales_74 : decode prog_2_method_16_code 74 = .ok (.getfield 35, 3) := by decide +kernel
theorem d_En_fittingFinales_77 : decode prog_2_method_16_code 77 = .ok (.if_icmp .ne 17, 3) := by decide +kernel
theorem d_En_fittingFinales_80 : decode prog_2_method_16_code 80 = .ok (.aload_n 0, 1) := by decide +kernel
theorem d_En_fittingFinales_81 : decode prog_2_method_16_code 81 = .ok (.invokevirtual 136, 3) := by decide +kernel
theorem d_En_fittingFinales_84 : decode prog_2_method_16_code 84 = .ok (.ifCond .eq 10, 3) := by decide +kernel
theorem d_En_fittingFinales_87 : decode prog_2_method_16_code 87 = .ok (.iload_n 3, 1) := by decide +kernel
theorem d_En_fittingFinales_88 : decode prog_2_method_16_code 88 = .ok (.iconst 1, 1) := by decide +kernel
theorem d_En_fittingFinales_89 : decode prog_2_method_16_code 89 = .ok (.iload 4, 2) := by decide +kernel
theorem d_En_fittingFinales_91 : decode prog_2_method_16_code 91 = .ok (.ishl, 1) := by decide +kernel
theorem d_En_fittingFinales_92 : decode prog_2_method_16_code 92 = .ok (.ior, 1) := by decide +kernel
theorem d_En_fittingFinales_93 : decode prog_2_method_16_code 93 = .ok (.istore_n 3, 1) := by decide +kernel
theorem d_En_fittingFinales_94 : decode prog_2_method_16_code 94 = .ok (.iinc 4 1, 3) := by decide +kernel
theorem d_En_fittingFinales_97 : decode prog_2_method_16_code 97 = .ok (.goto (-82), 3) := by decide +kernel
theorem d_En_fittingFinales_100 : decode prog_2_method_16_code 100 = .ok (.iload_n 3, 1) := by decide +kernel
theorem d_En_fittingFinales_101 : decode prog_2_method_16_code 101 = .ok (.ireturn, 1) := by decide +kernel
def En_fittingFinales_L30 (Y : Ly) (l0 : Nat) (l3 : Int32) (l4 : Int32) (k15 : Int32 → Int32 → Hp → Option (Int32 × Hp)) : Nat → Int32 → Hp → Option (Int32 × Hp)
  | 0, _, _ => none
  | F + 1, l5, h =>
    if (hGi h 6 l0) ≤ l5 then
      if inB l4 (lnY Y (hGr h 602 (hGr h 5 l0))) = true then
        if (hAi h (hGr h 602 (hGr h 5 l0)) (Int32.toNatClampNeg l4)) = (hGi h 6 l0) then
          (En_isTriedOne Y l0 h).bind fun q9 =>
          if q9 = true then
            k15 (l3 ||| ((1 : Int32) <<< (l4 &&& 31))) (l4 + 1) h
          else
            k15 l3 (l4 + 1) h
        else
          k15 l3 (l4 + 1) h
      else none
    else
      (St_turnInFinale Y (hGr h 5 l0) l4 l5 h).bind fun q13 =>
      if inB l5 (lnY Y (hGr h 1 l0)) = true then
        letH (hTi h (hGr h 1 l0) (Int32.toNatClampNeg l5) q13) fun h15 =>
        En_fittingFinales_L30 Y l0 l3 l4 k15 F (l5 + 1) h15
      else none
theorem En_fittingFinales_L30_ok (Y : Ly) (l0 : Nat) (l3 : Int32) (l4 : Int32) (k15 : Int32 → Int32 → Hp → Option (Int32 × Hp)) (tl0 : isO Y 0 l0) (hk15 : ∀ (l3_ : Int32) (l4_ : Int32) (h_ : Hp), AW Y 3 K_En_fittingFinales 15 [(0, .ref l0), (3, .int l3_), (4, .int l4_)] [] h_ (k15 l3_ l4_ h_) rI) : ∀ (F : Nat) (l5 : Int32) (h : Hp), AW Y 3 K_En_fittingFinales 30 [(0, .ref l0), (3, .int l3), (4, .int l4), (5, .int l5)] [] h (En_fittingFinales_L30 Y l0 l3 l4 k15 F l5 h) rI := by
  intro F
  induction F with
  | zero =>
    intro l5 h
    exact aw_none
  | succ F ih =>
    intro l5 h
    unfold En_fittingFinales_L30
    refine aw_iload (pc := 30) d_En_fittingFinales_30 3 rfl ?_
    refine aw_aload_n (pc := 32) d_En_fittingFinales_32 rfl 0 rfl ?_
    refine gt_6 (pc := 33) d_En_fittingFinales_33 w1_224 tl0 ?_
    refine aw_icmp_ge (pc := 36) (tgt := 63) d_En_fittingFinales_36 (by decide) (fun c4 => ?_) (fun c4 => ?_)
    · refine aw_aload_n (pc := 63) d_En_fittingFinales_63 rfl 0 rfl ?_
      refine gt_5 (pc := 64) d_En_fittingFinales_64 w1_223 tl0 (fun tt5 => ?_)
      refine gt_602 (pc := 67) d_En_fittingFinales_67 w1_183 tt5 (fun tt6 => ?_)
      refine aw_iload (pc := 70) d_En_fittingFinales_70 2 rfl ?_
      refine aw_iaload (pc := 72) d_En_fittingFinales_72 tt6 (fun c7 => ?_)
      refine aw_aload_n (pc := 73) d_En_fittingFinales_73 rfl 0 rfl ?_
      refine gt_6 (pc := 74) d_En_fittingFinales_74 w1_224 tl0 ?_
      refine aw_icmp_ne (pc := 77) (tgt := 94) d_En_fittingFinales_77 (by decide) (fun c8 => ?_) (fun c8 => ?_)
      · refine aw_aload_n (pc := 80) d_En_fittingFinales_80 rfl 0 rfl ?_
        refine aw_cVpZ (pc := 81) (ci := 0) (T := TX0) (N := 8) (As := []) (st := []) (ok_En_isTriedOne Y l0 h tl0) okV_En_isTriedOne rfl (by decide) tl0 w5_44 d_En_fittingFinales_81 rfl (Nat.le_of_ble_eq_true rfl) rfl (Nat.le_of_ble_eq_true rfl) (fun q9 hq9 hTq9 => ?_)
        refine aw_beq (pc := 84) (tgt := 94) d_En_fittingFinales_84 (by decide) (fun c10 => ?_) (fun c10 => ?_)
        · refine aw_iload_n (pc := 87) d_En_fittingFinales_87 rfl 1 rfl ?_
          refine aw_iconst (pc := 88) (x := 1) d_En_fittingFinales_88 (by decide) ?_
          refine aw_iload (pc := 89) d_En_fittingFinales_89 2 rfl ?_
          refine aw_ishl (pc := 91) d_En_fittingFinales_91 ?_
          refine aw_ior (pc := 92) d_En_fittingFinales_92 ?_
          refine aw_istore_n (pc := 93) (lv' := [(3, .int (l3 ||| ((1 : Int32) <<< (l4 &&& 31)))), (0, .ref l0), (4, .int l4), (5, .int l5)]) d_En_fittingFinales_93 rfl (by decide) rfl ?_
          refine aw_iinc (pc := 94) (w := l4 + 1) (lv' := [(4, .int (l4 + 1)), (3, .int (l3 ||| ((1 : Int32) <<< (l4 &&& 31)))), (0, .ref l0), (5, .int l5)]) d_En_fittingFinales_94 2 rfl rfl (by decide) rfl ?_
          refine aw_goto (pc := 97) (tgt := 15) d_En_fittingFinales_97 (by decide) ?_
          exact aw_lv [2, 1, 0] rfl (hk15 (l3 ||| ((1 : Int32) <<< (l4 &&& 31))) (l4 + 1) h)
        · refine aw_iinc (pc := 94) (w := l4 + 1) (lv' := [(4, .int (l4 + 1)), (0, .ref l0), (3, .int l3), (5, .int l5)]) d_En_fittingFinales_94 2 rfl rfl (by decide) rfl ?_
          refine aw_goto (pc := 97) (tgt := 15) d_En_fittingFinales_97 (by decide) ?_
          exact aw_lv [1, 2, 0] rfl (hk15 l3 (l4 + 1) h)
      · refine aw_iinc (pc := 94) (w := l4 + 1) (lv' := [(4, .int (l4 + 1)), (0, .ref l0), (3, .int l3), (5, .int l5)]) d_En_fittingFinales_94 2 rfl rfl (by decide) rfl ?_
        refine aw_goto (pc := 97) (tgt := 15) d_En_fittingFinales_97 (by decide) ?_
        exact aw_lv [1, 2, 0] rfl (hk15 l3 (l4 + 1) h)
    · refine aw_aload_n (pc := 39) d_En_fittingFinales_39 rfl 0 rfl ?_
      refine gt_1 (pc := 40) d_En_fittingFinales_40 w1_219 tl0 (fun tt11 => ?_)
      refine aw_iload (pc := 43) d_En_fittingFinales_43 3 rfl ?_
      refine aw_aload_n (pc := 45) d_En_fittingFinales_45 rfl 0 rfl ?_
      refine gt_5 (pc := 46) d_En_fittingFinales_46 w1_223 tl0 (fun tt12 => ?_)
      refine aw_iload (pc := 49) d_En_fittingFinales_49 2 rfl ?_
      refine aw_iload (pc := 51) d_En_fittingFinales_51 3 rfl ?_
      refine aw_cVpI (pc := 53) (ci := 6) (T := TX6) (N := 8) (As := [.int l4, .int l5]) (st := [.int l5, .ref (hGr h 1 l0)]) (ok_St_turnInFinale Y (hGr h 5 l0) l4 l5 h tt12) okV_St_turnInFinale rfl (by decide) tt12 w5_43 d_En_fittingFinales_53 rfl (Nat.le_of_ble_eq_true rfl) rfl (Nat.le_of_ble_eq_true rfl) (fun q13 hq13 hTq13 => ?_)
      refine aw_iastore (pc := 56) d_En_fittingFinales_56 tt11 (fun c14 => ?_)
      refine aw_letH (fun h15 => ?_)
      refine aw_iinc (pc := 57) (w := l5 + 1) (lv' := [(5, .int (l5 + 1)), (0, .ref l0), (3, .int l3), (4, .int l4)]) d_En_fittingFinales_57 3 rfl rfl (by decide) rfl ?_
      refine aw_goto (pc := 60) (tgt := 30) d_En_fittingFinales_60 (by decide) ?_
      exact aw_lv [1, 2, 3, 0] rfl (ih (l5 + 1) h15)
def En_fittingFinales_L15 (Y : Ly) (l0 : Nat) : Nat → Int32 → Int32 → Hp → Option (Int32 × Hp)
  | 0, _, _, _ => none
  | F + 1, l3, l4, h =>
    if (hGi h 607 (hGr h 5 l0)) ≤ l4 then
      some (l3, h)
    else
      En_fittingFinales_L30 Y l0 l3 l4 (En_fittingFinales_L15 Y l0 F) FU 0 h
theorem En_fittingFinales_L15_ok (Y : Ly) (l0 : Nat) (tl0 : isO Y 0 l0) : ∀ (F : Nat) (l3 : Int32) (l4 : Int32) (h : Hp), AW Y 3 K_En_fittingFinales 15 [(0, .ref l0), (3, .int l3), (4, .int l4)] [] h (En_fittingFinales_L15 Y l0 F l3 l4 h) rI := by
  intro F
  induction F with
  | zero =>
    intro l3 l4 h
    exact aw_none
  | succ F ih =>
    intro l3 l4 h
    unfold En_fittingFinales_L15
    refine aw_iload (pc := 15) d_En_fittingFinales_15 2 rfl ?_
    refine aw_aload_n (pc := 17) d_En_fittingFinales_17 rfl 0 rfl ?_
    refine gt_5 (pc := 18) d_En_fittingFinales_18 w1_223 tl0 (fun tt2 => ?_)
    refine gt_607 (pc := 21) d_En_fittingFinales_21 w1_200 tt2 ?_
    refine aw_icmp_ge (pc := 24) (tgt := 100) d_En_fittingFinales_24 (by decide) (fun c3 => ?_) (fun c3 => ?_)
    · refine aw_iload_n (pc := 100) d_En_fittingFinales_100 rfl 1 rfl ?_
      exact aw_ireturn (pc := 101) d_En_fittingFinales_101 rfl rfl
    · refine aw_iconst (pc := 27) (x := 0) d_En_fittingFinales_27 (by decide) ?_
      refine aw_istore (pc := 28) (lv' := [(5, .int 0), (0, .ref l0), (3, .int l3), (4, .int l4)]) d_En_fittingFinales_28 (by decide) rfl ?_
      exact aw_lv [1, 2, 3, 0] rfl (En_fittingFinales_L30_ok Y l0 l3 l4 (En_fittingFinales_L15 Y l0 F) tl0 ih FU 0 h)
def En_fittingFinales (Y : Ly) (l0 : Nat) (l1 : Nat) (l2 : Int32) (h : Hp) : Option (Int32 × Hp) :=
  (En_lookAt Y l0 l1 l2 (hGi h 417 l1) h).bind fun q1 =>
  En_fittingFinales_L15 Y l0 FU 0 0 q1
theorem ok_En_fittingFinales (Y : Ly) (l0 : Nat) (l1 : Nat) (l2 : Int32) (h : Hp) (t0 : isO Y 0 l0) (t1 : isO Y 4 l1) : AM Y 3 K_En_fittingFinales [.ref l0, .ref l1, .int l2] h (En_fittingFinales Y l0 l1 l2 h) rI := by
  refine AM.of rfl (Nat.le_of_ble_eq_true rfl) ?_
  show AW Y 3 K_En_fittingFinales 0 [(0, .ref l0), (1, .ref l1), (2, .int l2)] [] h (En_fittingFinales Y l0 l1 l2 h) rI
  unfold En_fittingFinales
  refine aw_aload_n (pc := 0) d_En_fittingFinales_0 rfl 0 rfl ?_
  refine aw_aload_n (pc := 1) d_En_fittingFinales_1 rfl 1 rfl ?_
  refine aw_iload_n (pc := 2) d_En_fittingFinales_2 rfl 2 rfl ?_
  refine aw_aload_n (pc := 3) d_En_fittingFinales_3 rfl 1 rfl ?_
  refine gt_417 (pc := 4) d_En_fittingFinales_4 w2_168 t1 ?_
  refine aw_cVrV (pc := 7) (ci := 0) (T := TX0) (N := 8) (As := [.ref l1, .int l2, .int (hGi h 417 l1)]) (st := []) (ok_En_lookAt Y l0 l1 l2 (hGi h 417 l1) h t0 t1) okV_En_lookAt rfl (by decide) t0 w5_27 d_En_fittingFinales_7 rfl (Nat.le_of_ble_eq_true rfl) rfl (Nat.le_of_ble_eq_true rfl) (fun q1 hq1 hTq1 => ?_)
  refine aw_iconst (pc := 10) (x := 0) d_En_fittingFinales_10 (by decide) ?_
  refine aw_istore_n (pc := 11) (lv' := [(3, .int 0), (0, .ref l0), (1, .ref l1), (2, .int l2)]) d_En_fittingFinales_11 rfl (by decide) rfl ?_
  refine aw_iconst (pc := 12) (x := 0) d_En_fittingFinales_12 (by decide) ?_
  refine aw_istore (pc := 13) (lv' := [(4, .int 0), (3, .int 0), (0, .ref l0), (1, .ref l1), (2, .int l2)]) d_En_fittingFinales_13 (by decide) rfl ?_
  exact aw_lv [2, 1, 0] rfl (En_fittingFinales_L15_ok Y l0 t0 FU 0 0 q1)
/-! LastPages$Endings.mostTelling()I -/
theorem d_En_mostTelling_0 : decode prog_2_method_10_code 0 = .ok (.iconst (-1), 1) := by decide +kernel
theorem d_En_mostTelling_1 : decode prog_2_method_10_code 1 = .ok (.istore_n 1, 1) := by decide +kernel
theorem d_En_mostTelling_2 : decode prog_2_method_10_code 2 = .ok (.lconst 0, 1) := by decide +kernel
theorem d_En_mostTelling_3 : decode prog_2_method_10_code 3 = .ok (.lstore_n 2, 1) := by decide +kernel
theorem d_En_mostTelling_4 : decode prog_2_method_10_code 4 = .ok (.iconst 0, 1) := by decide +kernel
theorem d_En_mostTelling_5 : decode prog_2_method_10_code 5 = .ok (.istore 4, 2) := by decide +kernel
theorem d_En_mostTelling_7 : decode prog_2_method_10_code 7 = .ok (.iload 4, 2) := by decide +kernel
theorem d_En_mostTelling_9 : decode prog_2_method_10_code 9 = .ok (.aload_n 0, 1) := by decide +kernel
theorem d_En_mostTelling_10 : decode prog_2_method_10_code 10 = .ok (.getfield 35, 3) := by decide +kernel
theorem d_En_mostTelling_13 : decode prog_2_method_10_code 13 = .ok (.if_icmp .ge 66, 3) := by decide +kernel
theorem d_En_mostTelling_16 : decode prog_2_method_10_code 16 = .ok (.lconst 0, 1) := by decide +kernel
theorem d_En_mostTelling_17 : decode prog_2_method_10_code 17 = .ok (.lstore 5, 2) := by decide +kernel
theorem d_En_mostTelling_19 : decode prog_2_method_10_code 19 = .ok (.iconst 0, 1) := by decide +kernel
theorem d_En_mostTelling_20 : decode prog_2_method_10_code 20 = .ok (.istore 7, 2) := by decide +kernel
theorem d_En_mostTelling_22 : decode prog_2_method_10_code 22 = .ok (.iload 7, 2) := by decide +kernel
theorem d_En_mostTelling_24 : decode prog_2_method_10_code 24 = .ok (.aload_n 0, 1) := by decide +kernel
theorem d_En_mostTelling_25 : decode prog_2_method_10_code 25 = .ok (.getfield 31, 3) := by decide +kernel
theorem d_En_mostTelling_28 : decode prog_2_method_10_code 28 = .ok (.getfield 61, 3) := by decide +kernel
theorem d_En_mostTelling_31 : decode prog_2_method_10_code 31 = .ok (.if_icmp .ge 24, 3) := by decide +kernel
theorem d_En_mostTelling_34 : decode prog_2_method_10_code 34 = .ok (.lload 5, 2) := by decide +kernel
theorem d_En_mostTelling_36 : decode prog_2_method_10_code 36 = .ok (.aload_n 0, 1) := by decide +kernel
theorem d_En_mostTelling_37 : decode prog_2_method_10_code 37 = .ok (.iload 4, 2) := by decide +kernel
theorem d_En_mostTelling_39 : decode prog_2_method_10_code 39 = .ok (.iload 7, 2) := by decide +kernel
theorem d_En_mostTelling_41 : decode prog_2_method_10_code 41 = .ok (.invokevirtual 111, 3) := by decide +kernel
theorem d_En_mostTelling_44 : decode prog_2_method_10_code 44 = .ok (.invokestatic 114, 3) := by decide +kernel
theorem d_En_mostTelling_47 : decode prog_2_method_10_code 47 = .ok (.lstore 5, 2) := by decide +kernel
theorem d_En_mostTelling_49 : decode prog_2_method_10_code 49 = .ok (.iinc 7 1, 3) := by decide +kernel
theorem d_En_mostTelling_52 : decode prog_2_method_10_code 52 = .ok (.goto (-30), 3) := by decide +kernel
theorem d_En_mostTelling_55 : decode prog_2_method_10_code 55 = .ok (.iload_n 1, 1) := by decide +kernel
theorem d_En_mostTelling_56 : decode prog_2_method_10_code 56 = .ok (.iconst (-1), 1) := by decide +kernel
theorem d_En_mostTelling_57 : decode prog_2_method_10_code 57 = .ok (.if_icmp .eq 10, 3) := by decide +kernel
theorem d_En_mostTelling_60 : decode prog_2_method_10_code 60 = .ok (.lload 5, 2) := by decide +kernel
theorem d_En_mostTelling_62 : decode prog_2_method_10_code 62 = .ok (.lload_n 2, 1) := by decide +kernel
theorem d_En_mostTelling_63 : decode prog_2_method_10_code 63 = .ok (.lcmp, 1) := by decide +kernel
theorem d_En_mostTelling_64 : decode prog_2_method_10_code 64 = .ok (.ifCond .ge 9, 3) := by decide +kernel
theorem d_En_mostTelling_67 : decode prog_2_method_10_code 67 = .ok (.iload 4, 2) := by decide +kernel
theorem d_En_mostTelling_69 : decode prog_2_method_10_code 69 = .ok (.istore_n 1, 1) := by decide +kernel
theorem d_En_mostTelling_70 : decode prog_2_method_10_code 70 = .ok (.lload 5, 2) := by decide +kernel
theorem d_En_mostTelling_72 : decode prog_2_method_10_code 72 = .ok (.lstore_n 2, 1) := by decide +kernel
theorem d_En_mostTelling_73 : decode prog_2_method_10_code 73 = .ok (.iinc 4 1, 3) := by decide +kernel
theorem d_En_mostTelling_76 : decode prog_2_method_10_code 76 = .ok (.goto (-69), 3) := by decide +kernel
theorem d_En_mostTelling_79 : decode prog_2_method_10_code 79 = .ok (.iload_n 1, 1) := by decide +kernel
theorem d_En_mostTelling_80 : decode prog_2_method_10_code 80 = .ok (.ireturn, 1) := by decide +kernel
def En_mostTelling_L22 (Y : Ly) (l0 : Nat) (l1 : Int32) (l2 : Int64) (l4 : Int32) (h : Hp) (k7 : Int32 → Int64 → Int32 → Option Int32) : Nat → Int64 → Int32 → Option Int32
  | 0, _, _ => none
  | F + 1, l5, l7 =>
    if (hGi h 605 (hGr h 5 l0)) ≤ l7 then
      if l1 = (-1) then
        k7 l4 l5 (l4 + 1)
      else
        if l2 ≤ l5 then
          k7 l1 l2 (l4 + 1)
        else
          k7 l4 l5 (l4 + 1)
    else
      (En_countWith Y l0 l4 l7 h).bind fun q6 =>
      En_mostTelling_L22 Y l0 l1 l2 l4 h k7 F (if q6 < l5 then l5 else q6) (l7 + 1)
theorem En_mostTelling_L22_ok (Y : Ly) (l0 : Nat) (l1 : Int32) (l2 : Int64) (l4 : Int32) (h : Hp) (k7 : Int32 → Int64 → Int32 → Option Int32) (tl0 : isO Y 0 l0) (hk7 : ∀ (l1_ : Int32) (l2_ : Int64) (l4_ : Int32), AW Y 3 K_En_mostTelling 7 [(0, .ref l0), (1, .int l1_), (2, .long l2_), (4, .int l4_)] [] h (k7 l1_ l2_ l4_) (pI h)) : ∀ (F : Nat) (l5 : Int64) (l7 : Int32), AW Y 3 K_En_mostTelling 22 [(0, .ref l0), (1, .int l1), (2, .long l2), (4, .int l4), (5, .long l5), (7, .int l7)] [] h (En_mostTelling_L22 Y l0 l1 l2 l4 h k7 F l5 l7) (pI h) := by
  intro F
  induction F with
  | zero =>
    intro l5 l7
    exact aw_none
  | succ F ih =>
    intro l5 l7
    unfold En_mostTelling_L22
    refine aw_iload (pc := 22) d_En_mostTelling_22 5 rfl ?_
    refine aw_aload_n (pc := 24) d_En_mostTelling_24 rfl 0 rfl ?_
    refine gt_5 (pc := 25) d_En_mostTelling_25 w1_223 tl0 (fun tt2 => ?_)
    refine gt_605 (pc := 28) d_En_mostTelling_28 w1_191 tt2 ?_
    refine aw_icmp_ge (pc := 31) (tgt := 55) d_En_mostTelling_31 (by decide) (fun c3 => ?_) (fun c3 => ?_)
    · refine aw_iload_n (pc := 55) d_En_mostTelling_55 rfl 1 rfl ?_
      refine aw_iconst (pc := 56) (x := (-1)) d_En_mostTelling_56 (by decide) ?_
      refine aw_icmp_eq (pc := 57) (tgt := 67) d_En_mostTelling_57 (by decide) (fun c4 => ?_) (fun c4 => ?_)
      · refine aw_iload (pc := 67) d_En_mostTelling_67 3 rfl ?_
        refine aw_istore_n (pc := 69) (lv' := [(1, .int l4), (0, .ref l0), (2, .long l2), (4, .int l4), (5, .long l5), (7, .int l7)]) d_En_mostTelling_69 rfl (by decide) rfl ?_
        refine aw_lload (pc := 70) d_En_mostTelling_70 4 rfl ?_
        refine aw_lstore_n (pc := 72) (lv' := [(2, .long l5), (1, .int l4), (0, .ref l0), (4, .int l4), (5, .long l5), (7, .int l7)]) d_En_mostTelling_72 rfl (by decide) rfl ?_
        refine aw_iinc (pc := 73) (w := l4 + 1) (lv' := [(4, .int (l4 + 1)), (2, .long l5), (1, .int l4), (0, .ref l0), (5, .long l5), (7, .int l7)]) d_En_mostTelling_73 3 rfl rfl (by decide) rfl ?_
        refine aw_goto (pc := 76) (tgt := 7) d_En_mostTelling_76 (by decide) ?_
        exact aw_lv [3, 2, 1, 0] rfl (hk7 l4 l5 (l4 + 1))
      · refine aw_lload (pc := 60) d_En_mostTelling_60 4 rfl ?_
        refine aw_lload_n (pc := 62) d_En_mostTelling_62 rfl 2 rfl ?_
        refine aw_lcmp_ge (pc := 63) (tgt := 73) d_En_mostTelling_63 d_En_mostTelling_64 (by decide) (fun c5 => ?_) (fun c5 => ?_)
        · refine aw_iinc (pc := 73) (w := l4 + 1) (lv' := [(4, .int (l4 + 1)), (0, .ref l0), (1, .int l1), (2, .long l2), (5, .long l5), (7, .int l7)]) d_En_mostTelling_73 3 rfl rfl (by decide) rfl ?_
          refine aw_goto (pc := 76) (tgt := 7) d_En_mostTelling_76 (by decide) ?_
          exact aw_lv [1, 2, 3, 0] rfl (hk7 l1 l2 (l4 + 1))
        · refine aw_iload (pc := 67) d_En_mostTelling_67 3 rfl ?_
          refine aw_istore_n (pc := 69) (lv' := [(1, .int l4), (0, .ref l0), (2, .long l2), (4, .int l4), (5, .long l5), (7, .int l7)]) d_En_mostTelling_69 rfl (by decide) rfl ?_
          refine aw_lload (pc := 70) d_En_mostTelling_70 4 rfl ?_
          refine aw_lstore_n (pc := 72) (lv' := [(2, .long l5), (1, .int l4), (0, .ref l0), (4, .int l4), (5, .long l5), (7, .int l7)]) d_En_mostTelling_72 rfl (by decide) rfl ?_
          refine aw_iinc (pc := 73) (w := l4 + 1) (lv' := [(4, .int (l4 + 1)), (2, .long l5), (1, .int l4), (0, .ref l0), (5, .long l5), (7, .int l7)]) d_En_mostTelling_73 3 rfl rfl (by decide) rfl ?_
          refine aw_goto (pc := 76) (tgt := 7) d_En_mostTelling_76 (by decide) ?_
          exact aw_lv [3, 2, 1, 0] rfl (hk7 l4 l5 (l4 + 1))
    · refine aw_lload (pc := 34) d_En_mostTelling_34 4 rfl ?_
      refine aw_aload_n (pc := 36) d_En_mostTelling_36 rfl 0 rfl ?_
      refine aw_iload (pc := 37) d_En_mostTelling_37 3 rfl ?_
      refine aw_iload (pc := 39) d_En_mostTelling_39 5 rfl ?_
      refine aw_cVpL (pc := 41) (ci := 0) (T := TX0) (N := 8) (As := [.int l4, .int l7]) (st := [.long l5]) (ok_En_countWith Y l0 l4 l7 h tl0) okV_En_countWith rfl (by decide) tl0 w5_153 d_En_mostTelling_41 rfl (Nat.le_of_ble_eq_true rfl) rfl (Nat.le_of_ble_eq_true rfl) (fun q6 hq6 hTq6 => ?_)
      refine aw_mmaxl (pc := 44) d_En_mostTelling_44 w5_157 w5_158 w1_15 w5_159 (Nat.le_of_ble_eq_true rfl) (Nat.le_of_ble_eq_true rfl) ?_
      refine aw_lstore (pc := 47) (lv' := [(5, .long (if q6 < l5 then l5 else q6)), (0, .ref l0), (1, .int l1), (2, .long l2), (4, .int l4), (7, .int l7)]) d_En_mostTelling_47 (by decide) rfl ?_
      refine aw_iinc (pc := 49) (w := l7 + 1) (lv' := [(7, .int (l7 + 1)), (5, .long (if q6 < l5 then l5 else q6)), (0, .ref l0), (1, .int l1), (2, .long l2), (4, .int l4)]) d_En_mostTelling_49 5 rfl rfl (by decide) rfl ?_
      refine aw_goto (pc := 52) (tgt := 22) d_En_mostTelling_52 (by decide) ?_
      exact aw_lv [2, 3, 4, 5, 1, 0] rfl (ih (if q6 < l5 then l5 else q6) (l7 + 1))
def En_mostTelling_L7 (Y : Ly) (l0 : Nat) (h : Hp) : Nat → Int32 → Int64 → Int32 → Option Int32
  | 0, _, _, _ => none
  | F + 1, l1, l2, l4 =>
    if (hGi h 6 l0) ≤ l4 then
      some l1
    else
      En_mostTelling_L22 Y l0 l1 l2 l4 h (En_mostTelling_L7 Y l0 h F) FU 0 0
theorem En_mostTelling_L7_ok (Y : Ly) (l0 : Nat) (h : Hp) (tl0 : isO Y 0 l0) : ∀ (F : Nat) (l1 : Int32) (l2 : Int64) (l4 : Int32), AW Y 3 K_En_mostTelling 7 [(0, .ref l0), (1, .int l1), (2, .long l2), (4, .int l4)] [] h (En_mostTelling_L7 Y l0 h F l1 l2 l4) (pI h) := by
  intro F
  induction F with
  | zero =>
    intro l1 l2 l4
    exact aw_none
  | succ F ih =>
    intro l1 l2 l4
    unfold En_mostTelling_L7
    refine aw_iload (pc := 7) d_En_mostTelling_7 3 rfl ?_
    refine aw_aload_n (pc := 9) d_En_mostTelling_9 rfl 0 rfl ?_
    refine gt_6 (pc := 10) d_En_mostTelling_10 w1_224 tl0 ?_
    refine aw_icmp_ge (pc := 13) (tgt := 79) d_En_mostTelling_13 (by decide) (fun c1 => ?_) (fun c1 => ?_)
    · refine aw_iload_n (pc := 79) d_En_mostTelling_79 rfl 1 rfl ?_
      exact aw_ireturn (pc := 80) d_En_mostTelling_80 rfl rfl
    · refine aw_lconst (pc := 16) (x := 0) d_En_mostTelling_16 (by decide) ?_
      refine aw_lstore (pc := 17) (lv' := [(5, .long 0), (0, .ref l0), (1, .int l1), (2, .long l2), (4, .int l4)]) d_En_mostTelling_17 (by decide) rfl ?_
      refine aw_iconst (pc := 19) (x := 0) d_En_mostTelling_19 (by decide) ?_
      refine aw_istore (pc := 20) (lv' := [(7, .int 0), (5, .long 0), (0, .ref l0), (1, .int l1), (2, .long l2), (4, .int l4)]) d_En_mostTelling_20 (by decide) rfl ?_
      exact aw_lv [2, 3, 4, 5, 1, 0] rfl (En_mostTelling_L22_ok Y l0 l1 l2 l4 h (En_mostTelling_L7 Y l0 h F) tl0 ih FU 0 0)
def En_mostTelling (Y : Ly) (l0 : Nat) (h : Hp) : Option Int32 :=
  En_mostTelling_L7 Y l0 h FU (-1) 0 0
theorem ok_En_mostTelling (Y : Ly) (l0 : Nat) (h : Hp) (t0 : isO Y 0 l0) : AM Y 3 K_En_mostTelling [.ref l0] h (En_mostTelling Y l0 h) (pI h) := by
  refine AM.of rfl (Nat.le_of_ble_eq_true rfl) ?_
  show AW Y 3 K_En_mostTelling 0 [(0, .ref l0)] [] h (En_mostTelling Y l0 h) (pI h)
  unfold En_mostTelling
  refine aw_iconst (pc := 0) (x := (-1)) d_En_mostTelling_0 (by decide) ?_
  refine aw_istore_n (pc := 1) (lv' := [(1, .int (-1)), (0, .ref l0)]) d_En_mostTelling_1 rfl (by decide) rfl ?_
  refine aw_lconst (pc := 2) (x := 0) d_En_mostTelling_2 (by decide) ?_
  refine aw_lstore_n (pc := 3) (lv' := [(2, .long 0), (1, .int (-1)), (0, .ref l0)]) d_En_mostTelling_3 rfl (by decide) rfl ?_
  refine aw_iconst (pc := 4) (x := 0) d_En_mostTelling_4 (by decide) ?_
  refine aw_istore (pc := 5) (lv' := [(4, .int 0), (2, .long 0), (1, .int (-1)), (0, .ref l0)]) d_En_mostTelling_5 (by decide) rfl ?_
  exact aw_lv [3, 2, 1, 0] rfl (En_mostTelling_L7_ok Y l0 h t0 FU (-1) 0 0)
/-! LastPages$Endings.triedAt(I)I -/
theorem d_En_triedAt_0 : decode prog_2_method_14_code 0 = .ok (.aload_n 0, 1) := by decide +kernel
theorem d_En_triedAt_1 : decode prog_2_method_14_code 1 = .ok (.iload_n 1, 1) := by decide +kernel
theorem d_En_triedAt_2 : decode prog_2_method_14_code 2 = .ok (.invokevirtual 80, 3) := by decide +kernel
theorem d_En_triedAt_5 : decode prog_2_method_14_code 5 = .ok (.ifCond .eq 12, 3) := by decide +kernel
theorem d_En_triedAt_8 : decode prog_2_method_14_code 8 = .ok (.aload_n 0, 1) := by decide +kernel
theorem d_En_triedAt_9 : decode prog_2_method_14_code 9 = .ok (.getfield 15, 3) := by decide +kernel
theorem d_En_triedAt_12 : decode prog_2_method_14_code 12 = .ok (.iload_n 1, 1) := by decide +kernel
theorem d_En_triedAt_13 : decode prog_2_method_14_code 13 = .ok (.iaload, 1) := by decide +kernel
theorem d_En_triedAt_14 : decode prog_2_method_14_code 14 = .ok (.goto 4, 3) := by decide +kernel
theorem d_En_triedAt_17 : decode prog_2_method_14_code 17 = .ok (.iconst (-1), 1) := by decide +kernel
theorem d_En_triedAt_18 : decode prog_2_method_14_code 18 = .ok (.ireturn, 1) := by decide +kernel
def En_triedAt (Y : Ly) (l0 : Nat) (l1 : Int32) (h : Hp) : Option Int32 :=
  (En_isPlace Y l0 l1 h).bind fun q1 =>
  if q1 = true then
    if inB l1 (lnY Y (hGr h 1 l0)) = true then
      some (hAi h (hGr h 1 l0) (Int32.toNatClampNeg l1))
    else none
  else
    some (-1)
theorem ok_En_triedAt (Y : Ly) (l0 : Nat) (l1 : Int32) (h : Hp) (t0 : isO Y 0 l0) : AM Y 1 K_En_triedAt [.ref l0, .int l1] h (En_triedAt Y l0 l1 h) (pI h) := by
  refine AM.of rfl (Nat.le_of_ble_eq_true rfl) ?_
  show AW Y 1 K_En_triedAt 0 [(0, .ref l0), (1, .int l1)] [] h (En_triedAt Y l0 l1 h) (pI h)
  unfold En_triedAt
  refine aw_aload_n (pc := 0) d_En_triedAt_0 rfl 0 rfl ?_
  refine aw_iload_n (pc := 1) d_En_triedAt_1 rfl 1 rfl ?_
  refine aw_cVpZ (pc := 2) (ci := 0) (T := TX0) (N := 8) (As := [.int l1]) (st := []) (ok_En_isPlace Y l0 l1 h t0) okV_En_isPlace rfl (by decide) t0 w5_39 d_En_triedAt_2 rfl (Nat.le_of_ble_eq_true rfl) rfl (Nat.le_of_ble_eq_true rfl) (fun q1 hq1 hTq1 => ?_)
  refine aw_beq (pc := 5) (tgt := 17) d_En_triedAt_5 (by decide) (fun c2 => ?_) (fun c2 => ?_)
  · refine aw_aload_n (pc := 8) d_En_triedAt_8 rfl 0 rfl ?_
    refine gt_1 (pc := 9) d_En_triedAt_9 w1_219 t0 (fun tt3 => ?_)
    refine aw_iload_n (pc := 12) d_En_triedAt_12 rfl 1 rfl ?_
    refine aw_iaload (pc := 13) d_En_triedAt_13 tt3 (fun c4 => ?_)
    refine aw_goto (pc := 14) (tgt := 18) d_En_triedAt_14 (by decide) ?_
    exact aw_ireturn (pc := 18) d_En_triedAt_18 rfl rfl
  · refine aw_iconst (pc := 17) (x := (-1)) d_En_triedAt_17 (by decide) ?_
    exact aw_ireturn (pc := 18) d_En_triedAt_18 rfl rfl
/-! LastPages$Endings.tryTurn(II)V -/
theorem d_En_tryTurn_0 : decode prog_2_method_13_code 0 = .ok (.aload_n 0, 1) := by decide +kernel
theorem d_En_tryTurn_1 : decode prog_2_method_13_code 1 = .ok (.iload_n 1, 1) := by decide +kernel
theorem d_En_tryTurn_2 : decode prog_2_method_13_code 2 = .ok (.invokevirtual 80, 3) := by decide +kernel
theorem d_En_tryTurn_5 : decode prog_2_method_13_code 5 = .ok (.ifCond .eq 10, 3) := by decide +kernel
theorem d_En_tryTurn_8 : decode prog_2_method_13_code 8 = .ok (.aload_n 0, 1) := by decide +kernel
theorem d_En_tryTurn_9 : decode prog_2_method_13_code 9 = .ok (.getfield 15, 3) := by decide +kernel
theorem d_En_tryTurn_12 : decode prog_2_method_13_code 12 = .ok (.iload_n 1, 1) := by decide +kernel
theorem d_En_tryTurn_13 : decode prog_2_method_13_code 13 = .ok (.iload_n 2, 1) := by decide +kernel
theorem d_En_tryTurn_14 : decode prog_2_method_13_code 14 = .ok (.iastore, 1) := by decide +kernel
theorem d_En_tryTurn_15 : decode prog_2_method_13_code 15 = .ok (.return_, 1) := by decide +kernel
def En_tryTurn (Y : Ly) (l0 : Nat) (l1 : Int32) (l2 : Int32) (h : Hp) : Option Hp :=
  (En_isPlace Y l0 l1 h).bind fun q1 =>
  if q1 = true then
    if inB l1 (lnY Y (hGr h 1 l0)) = true then
      letH (hTi h (hGr h 1 l0) (Int32.toNatClampNeg l1) l2) fun h5 =>
      some h5
    else none
  else
    some h
theorem ok_En_tryTurn (Y : Ly) (l0 : Nat) (l1 : Int32) (l2 : Int32) (h : Hp) (t0 : isO Y 0 l0) : AM Y 1 K_En_tryTurn [.ref l0, .int l1, .int l2] h (En_tryTurn Y l0 l1 l2 h) rV := by
  refine AM.of rfl (Nat.le_of_ble_eq_true rfl) ?_
  show AW Y 1 K_En_tryTurn 0 [(0, .ref l0), (1, .int l1), (2, .int l2)] [] h (En_tryTurn Y l0 l1 l2 h) rV
  unfold En_tryTurn
  refine aw_aload_n (pc := 0) d_En_tryTurn_0 rfl 0 rfl ?_
  refine aw_iload_n (pc := 1) d_En_tryTurn_1 rfl 1 rfl ?_
  refine aw_cVpZ (pc := 2) (ci := 0) (T := TX0) (N := 8) (As := [.int l1]) (st := []) (ok_En_isPlace Y l0 l1 h t0) okV_En_isPlace rfl (by decide) t0 w5_39 d_En_tryTurn_2 rfl (Nat.le_of_ble_eq_true rfl) rfl (Nat.le_of_ble_eq_true rfl) (fun q1 hq1 hTq1 => ?_)
  refine aw_beq (pc := 5) (tgt := 15) d_En_tryTurn_5 (by decide) (fun c2 => ?_) (fun c2 => ?_)
  · refine aw_aload_n (pc := 8) d_En_tryTurn_8 rfl 0 rfl ?_
    refine gt_1 (pc := 9) d_En_tryTurn_9 w1_219 t0 (fun tt3 => ?_)
    refine aw_iload_n (pc := 12) d_En_tryTurn_12 rfl 1 rfl ?_
    refine aw_iload_n (pc := 13) d_En_tryTurn_13 rfl 2 rfl ?_
    refine aw_iastore (pc := 14) d_En_tryTurn_14 tt3 (fun c4 => ?_)
    refine aw_letH (fun h5 => ?_)
    exact aw_return (pc := 15) d_En_tryTurn_15 rfl rfl
  · exact aw_return (pc := 15) d_En_tryTurn_15 rfl rfl
/-! LastPages$Fitting.booksFor(I)I -/
theorem d_Fi_booksFor_0 : decode prog_3_method_3_code 0 = .ok (.iconst 0, 1) := by decide +kernel
theorem d_Fi_booksFor_1 : decode prog_3_method_3_code 1 = .ok (.istore_n 2, 1) := by decide +kernel
theorem d_Fi_booksFor_2 : decode prog_3_method_3_code 2 = .ok (.iconst 0, 1) := by decide +kernel
theorem d_Fi_booksFor_3 : decode prog_3_method_3_code 3 = .ok (.istore_n 3, 1) := by decide +kernel
theorem d_Fi_booksFor_4 : decode prog_3_method_3_code 4 = .ok (.iload_n 3, 1) := by decide +kernel
theorem d_Fi_booksFor_5 : decode prog_3_method_3_code 5 = .ok (.aload_n 0, 1) := by decide +kernel
theorem d_Fi_booksFor_6 : decode prog_3_method_3_code 6 = .ok (.getfield 19, 3) := by decide +kernel
theorem d_Fi_booksFor_9 : decode prog_3_method_3_code 9 = .ok (.if_icmp .ge 32, 3) := by decide +kernel
theorem d_Fi_booksFor_12 : decode prog_3_method_3_code 12 = .ok (.iload_n 2, 1) := by decide +kernel
theorem d_Fi_booksFor_13 : decode prog_3_method_3_code 13 = .ok (.aload_n 0, 1) := by decide +kernel
theorem d_Fi_booksFor_14 : decode prog_3_method_3_code 14 = .ok (.getfield 9, 3) := by decide +kernel
theorem d_Fi_booksFor_17 : decode prog_3_method_3_code 17 = .ok (.iload_n 3, 1) := by decide +kernel
theorem d_Fi_booksFor_18 : decode prog_3_method_3_code 18 = .ok (.iaload, 1) := by decide +kernel
theorem d_Fi_booksFor_19 : decode prog_3_method_3_code 19 = .ok (.iload_n 1, 1) := by decide +kernel
theorem d_Fi_booksFor_20 : decode prog_3_method_3_code 20 = .ok (.invokestatic 48, 3) := by decide +kernel
theorem d_Fi_booksFor_23 : decode prog_3_method_3_code 23 = .ok (.ifCond .eq 9, 3) := by decide +kernel
theorem d_Fi_booksFor_26 : decode prog_3_method_3_code 26 = .ok (.iconst 1, 1) := by decide +kernel
theorem d_Fi_booksFor_27 : decode prog_3_method_3_code 27 = .ok (.iload_n 3, 1) := by decide +kernel
theorem d_Fi_booksFor_28 : decode prog_3_method_3_code 28 = .ok (.ishl, 1) := by decide +kernel
theorem d_Fi_booksFor_29 : decode prog_3_method_3_code 29 = .ok (.goto 4, 3) := by decide +kernel
theorem d_Fi_booksFor_32 : decode prog_3_method_3_code 32 = .ok (.iconst 0, 1) := by decide +kernel
theorem d_Fi_booksFor_33 : decode prog_3_method_3_code 33 = .ok (.ior, 1) := by decide +kernel
theorem d_Fi_booksFor_34 : decode prog_3_method_3_code 34 = .ok (.istore_n 2, 1) := by decide +kernel
theorem d_Fi_booksFor_35 : decode prog_3_method_3_code 35 = .ok (.iinc 3 1, 3) := by decide +kernel
theorem d_Fi_booksFor_38 : decode prog_3_method_3_code 38 = .ok (.goto (-34), 3) := by decide +kernel
theorem d_Fi_booksFor_41 : decode prog_3_method_3_code 41 = .ok (.iload_n 2, 1) := by decide +kernel
theorem d_Fi_booksFor_42 : decode prog_3_method_3_code 42 = .ok (.ireturn, 1) := by decide +kernel
def Fi_booksFor_L4 (Y : Ly) (l0 : Nat) (l1 : Int32) (h : Hp) : Nat → Int32 → Int32 → Option Int32
  | 0, _, _ => none
  | F + 1, l2, l3 =>
    if (hGi h 102 l0) ≤ l3 then
      some l2
    else
      if inB l3 (lnY Y (hGr h 100 l0)) = true then
        (LP_has Y (hAi h (hGr h 100 l0) (Int32.toNatClampNeg l3)) l1 h).bind fun q4 =>
        if q4 = true then
          Fi_booksFor_L4 Y l0 l1 h F (l2 ||| ((1 : Int32) <<< (l3 &&& 31))) (l3 + 1)
        else
          Fi_booksFor_L4 Y l0 l1 h F (l2 ||| 0) (l3 + 1)
      else none
theorem Fi_booksFor_L4_ok (Y : Ly) (l0 : Nat) (l1 : Int32) (h : Hp) (tl0 : isO Y 1 l0) : ∀ (F : Nat) (l2 : Int32) (l3 : Int32), AW Y 1 K_Fi_booksFor 4 [(0, .ref l0), (1, .int l1), (2, .int l2), (3, .int l3)] [] h (Fi_booksFor_L4 Y l0 l1 h F l2 l3) (pI h) := by
  intro F
  induction F with
  | zero =>
    intro l2 l3
    exact aw_none
  | succ F ih =>
    intro l2 l3
    unfold Fi_booksFor_L4
    refine aw_iload_n (pc := 4) d_Fi_booksFor_4 rfl 3 rfl ?_
    refine aw_aload_n (pc := 5) d_Fi_booksFor_5 rfl 0 rfl ?_
    refine gt_102 (pc := 6) d_Fi_booksFor_6 w2_11 tl0 ?_
    refine aw_icmp_ge (pc := 9) (tgt := 41) d_Fi_booksFor_9 (by decide) (fun c1 => ?_) (fun c1 => ?_)
    · refine aw_iload_n (pc := 41) d_Fi_booksFor_41 rfl 2 rfl ?_
      exact aw_ireturn (pc := 42) d_Fi_booksFor_42 rfl rfl
    · refine aw_iload_n (pc := 12) d_Fi_booksFor_12 rfl 2 rfl ?_
      refine aw_aload_n (pc := 13) d_Fi_booksFor_13 rfl 0 rfl ?_
      refine gt_100 (pc := 14) d_Fi_booksFor_14 w2_9 tl0 (fun tt2 => ?_)
      refine aw_iload_n (pc := 17) d_Fi_booksFor_17 rfl 3 rfl ?_
      refine aw_iaload (pc := 18) d_Fi_booksFor_18 tt2 (fun c3 => ?_)
      refine aw_iload_n (pc := 19) d_Fi_booksFor_19 rfl 1 rfl ?_
      refine aw_cNpZ (pc := 20) (As := [.int (hAi h (hGr h 100 l0) (Int32.toNatClampNeg l3)), .int l1]) (st := [.int l2]) (ok_LP_has Y (hAi h (hGr h 100 l0) (Int32.toNatClampNeg l3)) l1 h) okS_LP_has (List.mem_of_getElem? (i := 14) rfl) d_Fi_booksFor_20 rfl (Nat.le_of_ble_eq_true rfl) rfl (Nat.le_of_ble_eq_true rfl) (fun q4 hq4 hTq4 => ?_)
      refine aw_beq (pc := 23) (tgt := 32) d_Fi_booksFor_23 (by decide) (fun c5 => ?_) (fun c5 => ?_)
      · refine aw_iconst (pc := 26) (x := 1) d_Fi_booksFor_26 (by decide) ?_
        refine aw_iload_n (pc := 27) d_Fi_booksFor_27 rfl 3 rfl ?_
        refine aw_ishl (pc := 28) d_Fi_booksFor_28 ?_
        refine aw_goto (pc := 29) (tgt := 33) d_Fi_booksFor_29 (by decide) ?_
        refine aw_ior (pc := 33) d_Fi_booksFor_33 ?_
        refine aw_istore_n (pc := 34) (lv' := [(2, .int (l2 ||| ((1 : Int32) <<< (l3 &&& 31)))), (0, .ref l0), (1, .int l1), (3, .int l3)]) d_Fi_booksFor_34 rfl (by decide) rfl ?_
        refine aw_iinc (pc := 35) (w := l3 + 1) (lv' := [(3, .int (l3 + 1)), (2, .int (l2 ||| ((1 : Int32) <<< (l3 &&& 31)))), (0, .ref l0), (1, .int l1)]) d_Fi_booksFor_35 3 rfl rfl (by decide) rfl ?_
        refine aw_goto (pc := 38) (tgt := 4) d_Fi_booksFor_38 (by decide) ?_
        exact aw_lv [2, 3, 1, 0] rfl (ih (l2 ||| ((1 : Int32) <<< (l3 &&& 31))) (l3 + 1))
      · refine aw_iconst (pc := 32) (x := 0) d_Fi_booksFor_32 (by decide) ?_
        refine aw_ior (pc := 33) d_Fi_booksFor_33 ?_
        refine aw_istore_n (pc := 34) (lv' := [(2, .int (l2 ||| 0)), (0, .ref l0), (1, .int l1), (3, .int l3)]) d_Fi_booksFor_34 rfl (by decide) rfl ?_
        refine aw_iinc (pc := 35) (w := l3 + 1) (lv' := [(3, .int (l3 + 1)), (2, .int (l2 ||| 0)), (0, .ref l0), (1, .int l1)]) d_Fi_booksFor_35 3 rfl rfl (by decide) rfl ?_
        refine aw_goto (pc := 38) (tgt := 4) d_Fi_booksFor_38 (by decide) ?_
        exact aw_lv [2, 3, 1, 0] rfl (ih (l2 ||| 0) (l3 + 1))
def Fi_booksFor (Y : Ly) (l0 : Nat) (l1 : Int32) (h : Hp) : Option Int32 :=
  Fi_booksFor_L4 Y l0 l1 h FU 0 0
theorem ok_Fi_booksFor (Y : Ly) (l0 : Nat) (l1 : Int32) (h : Hp) (t0 : isO Y 1 l0) : AM Y 1 K_Fi_booksFor [.ref l0, .int l1] h (Fi_booksFor Y l0 l1 h) (pI h) := by
  refine AM.of rfl (Nat.le_of_ble_eq_true rfl) ?_
  show AW Y 1 K_Fi_booksFor 0 [(0, .ref l0), (1, .int l1)] [] h (Fi_booksFor Y l0 l1 h) (pI h)
  unfold Fi_booksFor
  refine aw_iconst (pc := 0) (x := 0) d_Fi_booksFor_0 (by decide) ?_
  refine aw_istore_n (pc := 1) (lv' := [(2, .int 0), (0, .ref l0), (1, .int l1)]) d_Fi_booksFor_1 rfl (by decide) rfl ?_
  refine aw_iconst (pc := 2) (x := 0) d_Fi_booksFor_2 (by decide) ?_
  refine aw_istore_n (pc := 3) (lv' := [(3, .int 0), (2, .int 0), (0, .ref l0), (1, .int l1)]) d_Fi_booksFor_3 rfl (by decide) rfl ?_
  exact aw_lv [2, 3, 1, 0] rfl (Fi_booksFor_L4_ok Y l0 l1 h t0 FU 0 0)
/-! LastPages$Fitting.giveOut(II)V -/
theorem d_Fi_giveOut_0 : decode prog_3_method_8_code 0 = .ok (.iconst 0, 1) := by decide +kernel
theorem d_Fi_giveOut_1 : decode prog_3_method_8_code 1 = .ok (.istore_n 3, 1) := by decide +kernel
theorem d_Fi_giveOut_2 : decode prog_3_method_8_code 2 = .ok (.iload_n 3, 1) := by decide +kernel
theorem d_Fi_giveOut_3 : decode prog_3_method_8_code 3 = .ok (.aload_n 0, 1) := by decide +kernel
theorem d_Fi_giveOut_4 : decode prog_3_method_8_code 4 = .ok (.getfield 23, 3) := by decide +kernel
theorem d_Fi_giveOut_7 : decode prog_3_method_8_code 7 = .ok (.if_icmp .ge 36, 3) := by decide +kernel
theorem d_Fi_giveOut_10 : decode prog_3_method_8_code 10 = .ok (.iload_n 2, 1) := by decide +kernel
theorem d_Fi_giveOut_11 : decode prog_3_method_8_code 11 = .ok (.iload_n 3, 1) := by decide +kernel
theorem d_Fi_giveOut_12 : decode prog_3_method_8_code 12 = .ok (.invokestatic 48, 3) := by decide +kernel
theorem d_Fi_giveOut_15 : decode prog_3_method_8_code 15 = .ok (.ifCond .eq 22, 3) := by decide +kernel
theorem d_Fi_giveOut_18 : decode prog_3_method_8_code 18 = .ok (.aload_n 0, 1) := by decide +kernel
theorem d_Fi_giveOut_19 : decode prog_3_method_8_code 19 = .ok (.getfield 15, 3) := by decide +kernel
theorem d_Fi_giveOut_22 : decode prog_3_method_8_code 22 = .ok (.iload_n 1, 1) := by decide +kernel
theorem d_Fi_giveOut_23 : decode prog_3_method_8_code 23 = .ok (.iconst 1, 1) := by decide +kernel
theorem d_Fi_giveOut_24 : decode prog_3_method_8_code 24 = .ok (.iload_n 3, 1) := by decide +kernel
theorem d_Fi_giveOut_25 : decode prog_3_method_8_code 25 = .ok (.ishl, 1) := by decide +kernel
theorem d_Fi_giveOut_26 : decode prog_3_method_8_code 26 = .ok (.ior, 1) := by decide +kernel
theorem d_Fi_giveOut_27 : decode prog_3_method_8_code 27 = .ok (.dup2, 1) := by decide +kernel
theorem d_Fi_giveOut_28 : decode prog_3_method_8_code 28 = .ok (.laload, 1) := by decide +kernel
theorem d_Fi_giveOut_29 : decode prog_3_method_8_code 29 = .ok (.aload_n 0, 1) := by decide +kernel
theorem d_Fi_giveOut_30 : decode prog_3_method_8_code 30 = .ok (.getfield 15, 3) := by decide +kernel
theorem d_Fi_giveOut_33 : decode prog_3_method_8_code 33 = .ok (.iload_n 1, 1) := by decide +kernel
theorem d_Fi_giveOut_34 : decode prog_3_method_8_code 34 = .ok (.laload, 1) := by decide +kernel
theorem d_Fi_giveOut_35 : decode prog_3_method_8_code 35 = .ok (.ladd, 1) := by decide +kernel
theorem d_Fi_giveOut_36 : decode prog_3_method_8_code 36 = .ok (.lastore, 1) := by decide +kernel
theorem d_Fi_giveOut_37 : decode prog_3_method_8_code 37 = .ok (.iinc 3 1, 3) := by decide +kernel
theorem d_Fi_giveOut_40 : decode prog_3_method_8_code 40 = .ok (.goto (-38), 3) := by decide +kernel
theorem d_Fi_giveOut_43 : decode prog_3_method_8_code 43 = .ok (.return_, 1) := by decide +kernel
def Fi_giveOut_L2 (Y : Ly) (l0 : Nat) (l1 : Int32) (l2 : Int32) : Nat → Int32 → Hp → Option Hp
  | 0, _, _ => none
  | F + 1, l3, h =>
    if (hGi h 103 l0) ≤ l3 then
      some h
    else
      (LP_has Y l2 l3 h).bind fun q2 =>
      if q2 = true then
        if inB (l1 ||| ((1 : Int32) <<< (l3 &&& 31))) (lnY Y (hGr h 101 l0)) = true then
          if inB l1 (lnY Y (hGr h 101 l0)) = true then
            if inB (l1 ||| ((1 : Int32) <<< (l3 &&& 31))) (lnY Y (hGr h 101 l0)) = true then
              letH (hTl h (hGr h 101 l0) (Int32.toNatClampNeg (l1 ||| ((1 : Int32) <<< (l3 &&& 31)))) ((hAl h (hGr h 101 l0) (Int32.toNatClampNeg (l1 ||| ((1 : Int32) <<< (l3 &&& 31))))) + (hAl h (hGr h 101 l0) (Int32.toNatClampNeg l1)))) fun h9 =>
              Fi_giveOut_L2 Y l0 l1 l2 F (l3 + 1) h9
            else none
          else none
        else none
      else
        Fi_giveOut_L2 Y l0 l1 l2 F (l3 + 1) h
theorem Fi_giveOut_L2_ok (Y : Ly) (l0 : Nat) (l1 : Int32) (l2 : Int32) (tl0 : isO Y 1 l0) : ∀ (F : Nat) (l3 : Int32) (h : Hp), AW Y 1 K_Fi_giveOut 2 [(0, .ref l0), (1, .int l1), (2, .int l2), (3, .int l3)] [] h (Fi_giveOut_L2 Y l0 l1 l2 F l3 h) rV := by
  intro F
  induction F with
  | zero =>
    intro l3 h
    exact aw_none
  | succ F ih =>
    intro l3 h
    unfold Fi_giveOut_L2
    refine aw_iload_n (pc := 2) d_Fi_giveOut_2 rfl 3 rfl ?_
    refine aw_aload_n (pc := 3) d_Fi_giveOut_3 rfl 0 rfl ?_
    refine gt_103 (pc := 4) d_Fi_giveOut_4 w2_12 tl0 ?_
    refine aw_icmp_ge (pc := 7) (tgt := 43) d_Fi_giveOut_7 (by decide) (fun c1 => ?_) (fun c1 => ?_)
    · exact aw_return (pc := 43) d_Fi_giveOut_43 rfl rfl
    · refine aw_iload_n (pc := 10) d_Fi_giveOut_10 rfl 2 rfl ?_
      refine aw_iload_n (pc := 11) d_Fi_giveOut_11 rfl 3 rfl ?_
      refine aw_cNpZ (pc := 12) (As := [.int l2, .int l3]) (st := []) (ok_LP_has Y l2 l3 h) okS_LP_has (List.mem_of_getElem? (i := 14) rfl) d_Fi_giveOut_12 rfl (Nat.le_of_ble_eq_true rfl) rfl (Nat.le_of_ble_eq_true rfl) (fun q2 hq2 hTq2 => ?_)
      refine aw_beq (pc := 15) (tgt := 37) d_Fi_giveOut_15 (by decide) (fun c3 => ?_) (fun c3 => ?_)
      · refine aw_aload_n (pc := 18) d_Fi_giveOut_18 rfl 0 rfl ?_
        refine gt_101 (pc := 19) d_Fi_giveOut_19 w2_10 tl0 (fun tt4 => ?_)
        refine aw_iload_n (pc := 22) d_Fi_giveOut_22 rfl 1 rfl ?_
        refine aw_iconst (pc := 23) (x := 1) d_Fi_giveOut_23 (by decide) ?_
        refine aw_iload_n (pc := 24) d_Fi_giveOut_24 rfl 3 rfl ?_
        refine aw_ishl (pc := 25) d_Fi_giveOut_25 ?_
        refine aw_ior (pc := 26) d_Fi_giveOut_26 ?_
        refine aw_dup2_11 (pc := 27) d_Fi_giveOut_27 rfl rfl ?_
        refine aw_laload (pc := 28) d_Fi_giveOut_28 tt4 (fun c5 => ?_)
        refine aw_aload_n (pc := 29) d_Fi_giveOut_29 rfl 0 rfl ?_
        refine gt_101 (pc := 30) d_Fi_giveOut_30 w2_10 tl0 (fun tt6 => ?_)
        refine aw_iload_n (pc := 33) d_Fi_giveOut_33 rfl 1 rfl ?_
        refine aw_laload (pc := 34) d_Fi_giveOut_34 tt6 (fun c7 => ?_)
        refine aw_ladd (pc := 35) d_Fi_giveOut_35 ?_
        refine aw_lastore (pc := 36) d_Fi_giveOut_36 tt4 (fun c8 => ?_)
        refine aw_letH (fun h9 => ?_)
        refine aw_iinc (pc := 37) (w := l3 + 1) (lv' := [(3, .int (l3 + 1)), (0, .ref l0), (1, .int l1), (2, .int l2)]) d_Fi_giveOut_37 3 rfl rfl (by decide) rfl ?_
        refine aw_goto (pc := 40) (tgt := 2) d_Fi_giveOut_40 (by decide) ?_
        exact aw_lv [1, 2, 3, 0] rfl (ih (l3 + 1) h9)
      · refine aw_iinc (pc := 37) (w := l3 + 1) (lv' := [(3, .int (l3 + 1)), (0, .ref l0), (1, .int l1), (2, .int l2)]) d_Fi_giveOut_37 3 rfl rfl (by decide) rfl ?_
        refine aw_goto (pc := 40) (tgt := 2) d_Fi_giveOut_40 (by decide) ?_
        exact aw_lv [1, 2, 3, 0] rfl (ih (l3 + 1) h)
def Fi_giveOut (Y : Ly) (l0 : Nat) (l1 : Int32) (l2 : Int32) (h : Hp) : Option Hp :=
  Fi_giveOut_L2 Y l0 l1 l2 FU 0 h
theorem ok_Fi_giveOut (Y : Ly) (l0 : Nat) (l1 : Int32) (l2 : Int32) (h : Hp) (t0 : isO Y 1 l0) : AM Y 1 K_Fi_giveOut [.ref l0, .int l1, .int l2] h (Fi_giveOut Y l0 l1 l2 h) rV := by
  refine AM.of rfl (Nat.le_of_ble_eq_true rfl) ?_
  show AW Y 1 K_Fi_giveOut 0 [(0, .ref l0), (1, .int l1), (2, .int l2)] [] h (Fi_giveOut Y l0 l1 l2 h) rV
  unfold Fi_giveOut
  refine aw_iconst (pc := 0) (x := 0) d_Fi_giveOut_0 (by decide) ?_
  refine aw_istore_n (pc := 1) (lv' := [(3, .int 0), (0, .ref l0), (1, .int l1), (2, .int l2)]) d_Fi_giveOut_1 rfl (by decide) rfl ?_
  exact aw_lv [1, 2, 3, 0] rfl (Fi_giveOut_L2_ok Y l0 l1 l2 t0 FU 0 h)
/-! LastPages$Fitting.countWays()J -/
theorem d_Fi_countWays_0 : decode prog_3_method_7_code 0 = .ok (.aload_n 0, 1) := by decide +kernel
theorem d_Fi_countWays_1 : decode prog_3_method_7_code 1 = .ok (.getfield 15, 3) := by decide +kernel
theorem d_Fi_countWays_4 : decode prog_3_method_7_code 4 = .ok (.lconst 0, 1) := by decide +kernel
theorem d_Fi_countWays_5 : decode prog_3_method_7_code 5 = .ok (.invokestatic 67, 3) := by decide +kernel
theorem d_Fi_countWays_8 : decode prog_3_method_7_code 8 = .ok (.aload_n 0, 1) := by decide +kernel
theorem d_Fi_countWays_9 : decode prog_3_method_7_code 9 = .ok (.getfield 15, 3) := by decide +kernel
theorem d_Fi_countWays_12 : decode prog_3_method_7_code 12 = .ok (.iconst 0, 1) := by decide +kernel
theorem d_Fi_countWays_13 : decode prog_3_method_7_code 13 = .ok (.lconst 1, 1) := by decide +kernel
theorem d_Fi_countWays_14 : decode prog_3_method_7_code 14 = .ok (.lastore, 1) := by decide +kernel
theorem d_Fi_countWays_15 : decode prog_3_method_7_code 15 = .ok (.iconst 0, 1) := by decide +kernel
theorem d_Fi_countWays_16 : decode prog_3_method_7_code 16 = .ok (.istore_n 1, 1) := by decide +kernel
theorem d_Fi_countWays_17 : decode prog_3_method_7_code 17 = .ok (.iload_n 1, 1) := by decide +kernel
theorem d_Fi_countWays_18 : decode prog_3_method_7_code 18 = .ok (.aload_n 0, 1) := by decide +kernel
theorem d_Fi_countWays_19 : decode prog_3_method_7_code 19 = .ok (.getfield 19, 3) := by decide +kernel
theorem d_Fi_countWays_22 : decode prog_3_method_7_code 22 = .ok (.if_icmp .ge 61, 3) := by decide +kernel
theorem d_Fi_countWays_25 : decode prog_3_method_7_code 25 = .ok (.iconst 0, 1) := by decide +kernel
theorem d_Fi_countWays_26 : decode prog_3_method_7_code 26 = .ok (.istore_n 2, 1) := by decide +kernel
theorem d_Fi_countWays_27 : decode prog_3_method_7_code 27 = .ok (.iload_n 2, 1) := by decide +kernel
theorem d_Fi_countWays_28 : decode prog_3_method_7_code 28 = .ok (.iconst 1, 1) := by decide +kernel
theorem d_Fi_countWays_29 : decode prog_3_method_7_code 29 = .ok (.aload_n 0, 1) := by decide +kernel
theorem d_Fi_countWays_30 : decode prog_3_method_7_code 30 = .ok (.getfield 23, 3) := by decide +kernel
theorem d_Fi_countWays_33 : decode prog_3_method_7_code 33 = .ok (.ishl, 1) := by decide +kernel
theorem d_Fi_countWays_34 : decode prog_3_method_7_code 34 = .ok (.if_icmp .ge 43, 3) := by decide +kernel
theorem d_Fi_countWays_37 : decode prog_3_method_7_code 37 = .ok (.iload_n 2, 1) := by decide +kernel
theorem d_Fi_countWays_38 : decode prog_3_method_7_code 38 = .ok (.invokestatic 52, 3) := by decide +kernel
theorem d_Fi_countWays_41 : decode prog_3_method_7_code 41 = .ok (.iload_n 1, 1) := by decide +kernel
theorem d_Fi_countWays_42 : decode prog_3_method_7_code 42 = .ok (.if_icmp .ne 29, 3) := by decide +kernel
theorem d_Fi_countWays_45 : decode prog_3_method_7_code 45 = .ok (.aload_n 0, 1) := by decide +kernel
theorem d_Fi_countWays_46 : decode prog_3_method_7_code 46 = .ok (.getfield 15, 3) := by decide +kernel
theorem d_Fi_countWays_49 : decode prog_3_method_7_code 49 = .ok (.iload_n 2, 1) := by decide +kernel
theorem d_Fi_countWays_50 : decode prog_3_method_7_code 50 = .ok (.laload, 1) := by decide +kernel
theorem d_Fi_countWays_51 : decode prog_3_method_7_code 51 = .ok (.lconst 0, 1) := by decide +kernel
theorem d_Fi_countWays_52 : decode prog_3_method_7_code 52 = .ok (.lcmp, 1) := by decide +kernel
theorem d_Fi_countWays_53 : decode prog_3_method_7_code 53 = .ok (.ifCond .le 18, 3) := by decide +kernel
theorem d_Fi_countWays_56 : decode prog_3_method_7_code 56 = .ok (.aload_n 0, 1) := by decide +kernel
theorem d_Fi_countWays_57 : decode prog_3_method_7_code 57 = .ok (.iload_n 2, 1) := by decide +kernel
theorem d_Fi_countWays_58 : decode prog_3_method_7_code 58 = .ok (.aload_n 0, 1) := by decide +kernel
theorem d_Fi_countWays_59 : decode prog_3_method_7_code 59 = .ok (.getfield 9, 3) := by decide +kernel
theorem d_Fi_countWays_62 : decode prog_3_method_7_code 62 = .ok (.iload_n 1, 1) := by decide +kernel
theorem d_Fi_countWays_63 : decode prog_3_method_7_code 63 = .ok (.iaload, 1) := by decide +kernel
theorem d_Fi_countWays_64 : decode prog_3_method_7_code 64 = .ok (.iload_n 2, 1) := by decide +kernel
theorem d_Fi_countWays_65 : decode prog_3_method_7_code 65 = .ok (.iconst (-1), 1) := by decide +kernel
theorem d_Fi_countWays_66 : decode prog_3_method_7_code 66 = .ok (.ixor, 1) := by decide +kernel
theorem d_Fi_countWays_67 : decode prog_3_method_7_code 67 = .ok (.iand, 1) := by decide +kernel
theorem d_Fi_countWays_68 : decode prog_3_method_7_code 68 = .ok (.invokevirtual 73, 3) := by decide +kernel
theorem d_Fi_countWays_71 : decode prog_3_method_7_code 71 = .ok (.iinc 2 1, 3) := by decide +kernel
theorem d_Fi_countWays_74 : decode prog_3_method_7_code 74 = .ok (.goto (-47), 3) := by decide +kernel
theorem d_Fi_countWays_77 : decode prog_3_method_7_code 77 = .ok (.iinc 1 1, 3) := by decide +kernel
theorem d_Fi_countWays_80 : decode prog_3_method_7_code 80 = .ok (.goto (-63), 3) := by decide +kernel
theorem d_Fi_countWays_83 : decode prog_3_method_7_code 83 = .ok (.lconst 0, 1) := by decide +kernel
theorem d_Fi_countWays_84 : decode prog_3_method_7_code 84 = .ok (.lstore_n 1, 1) := by decide +kernel
theorem d_Fi_countWays_85 : decode prog_3_method_7_code 85 = .ok (.iconst 0, 1) := by decide +kernel
theorem d_Fi_countWays_86 : decode prog_3_method_7_code 86 = .ok (.istore_n 3, 1) := by decide +kernel
theorem d_Fi_countWays_87 : decode prog_3_method_7_code 87 = .ok (.iload_n 3, 1) := by decide +kernel
theorem d_Fi_countWays_88 : decode prog_3_method_7_code 88 = .ok (.iconst 1, 1) := by decide +kernel
theorem d_Fi_countWays_89 : decode prog_3_method_7_code 89 = .ok (.aload_n 0, 1) := by decide +kernel
theorem d_Fi_countWays_90 : decode prog_3_method_7_code 90 = .ok (.getfield 23, 3) := by decide +kernel
theorem d_Fi_countWays_93 : decode prog_3_method_7_code 93 = .ok (.ishl, 1) := by decide +kernel
theorem d_Fi_countWays_94 : decode prog_3_method_7_code 94 = .ok (.if_icmp .ge 33, 3) := by decide +kernel
theorem d_Fi_countWays_97 : decode prog_3_method_7_code 97 = .ok (.lload_n 1, 1) := by decide +kernel
theorem d_Fi_countWays_98 : decode prog_3_method_7_code 98 = .ok (.iload_n 3, 1) := by decide +kernel
theorem d_Fi_countWays_99 : decode prog_3_method_7_code 99 = .ok (.invokestatic 52, 3) := by decide +kernel
theorem d_Fi_countWays_102 : decode prog_3_method_7_code 102 = .ok (.aload_n 0, 1) := by decide +kernel
theorem d_Fi_countWays_103 : decode prog_3_method_7_code 103 = .ok (.getfield 19, 3) := by decide +kernel
theorem d_Fi_countWays_106 : decode prog_3_method_7_code 106 = .ok (.if_icmp .ne 12, 3) := by decide +kernel
theorem d_Fi_countWays_109 : decode prog_3_method_7_code 109 = .ok (.aload_n 0, 1) := by decide +kernel
theorem d_Fi_countWays_110 : decode prog_3_method_7_code 110 = .ok (.getfield 15, 3) := by decide +kernel
theorem d_Fi_countWays_113 : decode prog_3_method_7_code 113 = .ok (.iload_n 3, 1) := by decide +kernel
theorem d_Fi_countWays_114 : decode prog_3_method_7_code 114 = .ok (.laload, 1) := by decide +kernel
theorem d_Fi_countWays_115 : decode prog_3_method_7_code 115 = .ok (.goto 4, 3) := by decide +kernel
theorem d_Fi_countWays_118 : decode prog_3_method_7_code 118 = .ok (.lconst 0, 1) := by decide +kernel
theorem d_Fi_countWays_119 : decode prog_3_method_7_code 119 = .ok (.ladd, 1) := by decide +kernel
theorem d_Fi_countWays_120 : decode prog_3_method_7_code 120 = .ok (.lstore_n 1, 1) := by decide +kernel
theorem d_Fi_countWays_121 : decode prog_3_method_7_code 121 = .ok (.iinc 3 1, 3) := by decide +kernel
theorem d_Fi_countWays_124 : decode prog_3_method_7_code 124 = .ok (.goto (-37), 3) := by decide +kernel
theorem d_Fi_countWays_127 : decode prog_3_method_7_code 127 = .ok (.lload_n 1, 1) := by decide +kernel
theorem d_Fi_countWays_128 : decode prog_3_method_7_code 128 = .ok (.lreturn, 1) := by decide +kernel
def Fi_countWays_L87 (Y : Ly) (l0 : Nat) (h : Hp) : Nat → Int64 → Int32 → Option (Int64 × Hp)
  | 0, _, _ => none
  | F + 1, l1, l3 =>
    if ((1 : Int32) <<< ((hGi h 103 l0) &&& 31)) ≤ l3 then
      some (l1, h)
    else
      (J_bitCount Y l3 h).bind fun q8 =>
      if q8 = (hGi h 102 l0) then
        if inB l3 (lnY Y (hGr h 101 l0)) = true then
          Fi_countWays_L87 Y l0 h F (l1 + (hAl h (hGr h 101 l0) (Int32.toNatClampNeg l3))) (l3 + 1)
        else none
      else
        Fi_countWays_L87 Y l0 h F (l1 + 0) (l3 + 1)
theorem Fi_countWays_L87_ok (Y : Ly) (l0 : Nat) (h : Hp) (tl0 : isO Y 1 l0) : ∀ (F : Nat) (l1 : Int64) (l3 : Int32), AW Y 2 K_Fi_countWays 87 [(0, .ref l0), (1, .long l1), (3, .int l3)] [] h (Fi_countWays_L87 Y l0 h F l1 l3) rL := by
  intro F
  induction F with
  | zero =>
    intro l1 l3
    exact aw_none
  | succ F ih =>
    intro l1 l3
    unfold Fi_countWays_L87
    refine aw_iload_n (pc := 87) d_Fi_countWays_87 rfl 2 rfl ?_
    refine aw_iconst (pc := 88) (x := 1) d_Fi_countWays_88 (by decide) ?_
    refine aw_aload_n (pc := 89) d_Fi_countWays_89 rfl 0 rfl ?_
    refine gt_103 (pc := 90) d_Fi_countWays_90 w2_12 tl0 ?_
    refine aw_ishl (pc := 93) d_Fi_countWays_93 ?_
    refine aw_icmp_ge (pc := 94) (tgt := 127) d_Fi_countWays_94 (by decide) (fun c7 => ?_) (fun c7 => ?_)
    · refine aw_lload_n (pc := 127) d_Fi_countWays_127 rfl 1 rfl ?_
      exact aw_lreturn (pc := 128) d_Fi_countWays_128 rfl rfl
    · refine aw_lload_n (pc := 97) d_Fi_countWays_97 rfl 1 rfl ?_
      refine aw_iload_n (pc := 98) d_Fi_countWays_98 rfl 2 rfl ?_
      refine aw_cSpI (pc := 99) (As := [.int l3]) (st := [.long l1]) (ok_J_bitCount Y l3 h) okS_J_bitCount w5_235 d_Fi_countWays_99 rfl (Nat.le_of_ble_eq_true rfl) rfl (Nat.le_of_ble_eq_true rfl) (fun q8 hq8 hTq8 => ?_)
      refine aw_aload_n (pc := 102) d_Fi_countWays_102 rfl 0 rfl ?_
      refine gt_102 (pc := 103) d_Fi_countWays_103 w2_11 tl0 ?_
      refine aw_icmp_ne (pc := 106) (tgt := 118) d_Fi_countWays_106 (by decide) (fun c9 => ?_) (fun c9 => ?_)
      · refine aw_aload_n (pc := 109) d_Fi_countWays_109 rfl 0 rfl ?_
        refine gt_101 (pc := 110) d_Fi_countWays_110 w2_10 tl0 (fun tt10 => ?_)
        refine aw_iload_n (pc := 113) d_Fi_countWays_113 rfl 2 rfl ?_
        refine aw_laload (pc := 114) d_Fi_countWays_114 tt10 (fun c11 => ?_)
        refine aw_goto (pc := 115) (tgt := 119) d_Fi_countWays_115 (by decide) ?_
        refine aw_ladd (pc := 119) d_Fi_countWays_119 ?_
        refine aw_lstore_n (pc := 120) (lv' := [(1, .long (l1 + (hAl h (hGr h 101 l0) (Int32.toNatClampNeg l3)))), (0, .ref l0), (3, .int l3)]) d_Fi_countWays_120 rfl (by decide) rfl ?_
        refine aw_iinc (pc := 121) (w := l3 + 1) (lv' := [(3, .int (l3 + 1)), (1, .long (l1 + (hAl h (hGr h 101 l0) (Int32.toNatClampNeg l3)))), (0, .ref l0)]) d_Fi_countWays_121 2 rfl rfl (by decide) rfl ?_
        refine aw_goto (pc := 124) (tgt := 87) d_Fi_countWays_124 (by decide) ?_
        exact aw_lv [2, 1, 0] rfl (ih (l1 + (hAl h (hGr h 101 l0) (Int32.toNatClampNeg l3))) (l3 + 1))
      · refine aw_lconst (pc := 118) (x := 0) d_Fi_countWays_118 (by decide) ?_
        refine aw_ladd (pc := 119) d_Fi_countWays_119 ?_
        refine aw_lstore_n (pc := 120) (lv' := [(1, .long (l1 + 0)), (0, .ref l0), (3, .int l3)]) d_Fi_countWays_120 rfl (by decide) rfl ?_
        refine aw_iinc (pc := 121) (w := l3 + 1) (lv' := [(3, .int (l3 + 1)), (1, .long (l1 + 0)), (0, .ref l0)]) d_Fi_countWays_121 2 rfl rfl (by decide) rfl ?_
        refine aw_goto (pc := 124) (tgt := 87) d_Fi_countWays_124 (by decide) ?_
        exact aw_lv [2, 1, 0] rfl (ih (l1 + 0) (l3 + 1))
def Fi_countWays_L27 (Y : Ly) (l0 : Nat) (l1 : Int32) (k17 : Int32 → Hp → Option (Int64 × Hp)) : Nat → Int32 → Hp → Option (Int64 × Hp)
  | 0, _, _ => none
  | F + 1, l2, h =>
    if ((1 : Int32) <<< ((hGi h 103 l0) &&& 31)) ≤ l2 then
      k17 (l1 + 1) h
    else
      (J_bitCount Y l2 h).bind fun q13 =>
      if q13 = l1 then
        if inB l2 (lnY Y (hGr h 101 l0)) = true then
          if (hAl h (hGr h 101 l0) (Int32.toNatClampNeg l2)) ≤ 0 then
            Fi_countWays_L27 Y l0 l1 k17 F (l2 + 1) h
          else
            if inB l1 (lnY Y (hGr h 100 l0)) = true then
              (Fi_giveOut Y l0 l2 ((hAi h (hGr h 100 l0) (Int32.toNatClampNeg l1)) &&& (l2 ^^^ (-1))) h).bind fun q20 =>
              Fi_countWays_L27 Y l0 l1 k17 F (l2 + 1) q20
            else none
        else none
      else
        Fi_countWays_L27 Y l0 l1 k17 F (l2 + 1) h
theorem Fi_countWays_L27_ok (Y : Ly) (l0 : Nat) (l1 : Int32) (k17 : Int32 → Hp → Option (Int64 × Hp)) (tl0 : isO Y 1 l0) (hk17 : ∀ (l1_ : Int32) (h_ : Hp), AW Y 2 K_Fi_countWays 17 [(0, .ref l0), (1, .int l1_)] [] h_ (k17 l1_ h_) rL) : ∀ (F : Nat) (l2 : Int32) (h : Hp), AW Y 2 K_Fi_countWays 27 [(0, .ref l0), (1, .int l1), (2, .int l2)] [] h (Fi_countWays_L27 Y l0 l1 k17 F l2 h) rL := by
  intro F
  induction F with
  | zero =>
    intro l2 h
    exact aw_none
  | succ F ih =>
    intro l2 h
    unfold Fi_countWays_L27
    refine aw_iload_n (pc := 27) d_Fi_countWays_27 rfl 2 rfl ?_
    refine aw_iconst (pc := 28) (x := 1) d_Fi_countWays_28 (by decide) ?_
    refine aw_aload_n (pc := 29) d_Fi_countWays_29 rfl 0 rfl ?_
    refine gt_103 (pc := 30) d_Fi_countWays_30 w2_12 tl0 ?_
    refine aw_ishl (pc := 33) d_Fi_countWays_33 ?_
    refine aw_icmp_ge (pc := 34) (tgt := 77) d_Fi_countWays_34 (by decide) (fun c12 => ?_) (fun c12 => ?_)
    · refine aw_iinc (pc := 77) (w := l1 + 1) (lv' := [(1, .int (l1 + 1)), (0, .ref l0), (2, .int l2)]) d_Fi_countWays_77 1 rfl rfl (by decide) rfl ?_
      refine aw_goto (pc := 80) (tgt := 17) d_Fi_countWays_80 (by decide) ?_
      exact aw_lv [1, 0] rfl (hk17 (l1 + 1) h)
    · refine aw_iload_n (pc := 37) d_Fi_countWays_37 rfl 2 rfl ?_
      refine aw_cSpI (pc := 38) (As := [.int l2]) (st := []) (ok_J_bitCount Y l2 h) okS_J_bitCount w5_235 d_Fi_countWays_38 rfl (Nat.le_of_ble_eq_true rfl) rfl (Nat.le_of_ble_eq_true rfl) (fun q13 hq13 hTq13 => ?_)
      refine aw_iload_n (pc := 41) d_Fi_countWays_41 rfl 1 rfl ?_
      refine aw_icmp_ne (pc := 42) (tgt := 71) d_Fi_countWays_42 (by decide) (fun c14 => ?_) (fun c14 => ?_)
      · refine aw_aload_n (pc := 45) d_Fi_countWays_45 rfl 0 rfl ?_
        refine gt_101 (pc := 46) d_Fi_countWays_46 w2_10 tl0 (fun tt15 => ?_)
        refine aw_iload_n (pc := 49) d_Fi_countWays_49 rfl 2 rfl ?_
        refine aw_laload (pc := 50) d_Fi_countWays_50 tt15 (fun c16 => ?_)
        refine aw_lconst (pc := 51) (x := 0) d_Fi_countWays_51 (by decide) ?_
        refine aw_lcmp_le (pc := 52) (tgt := 71) d_Fi_countWays_52 d_Fi_countWays_53 (by decide) (fun c17 => ?_) (fun c17 => ?_)
        · refine aw_iinc (pc := 71) (w := l2 + 1) (lv' := [(2, .int (l2 + 1)), (0, .ref l0), (1, .int l1)]) d_Fi_countWays_71 2 rfl rfl (by decide) rfl ?_
          refine aw_goto (pc := 74) (tgt := 27) d_Fi_countWays_74 (by decide) ?_
          exact aw_lv [1, 2, 0] rfl (ih (l2 + 1) h)
        · refine aw_aload_n (pc := 56) d_Fi_countWays_56 rfl 0 rfl ?_
          refine aw_iload_n (pc := 57) d_Fi_countWays_57 rfl 2 rfl ?_
          refine aw_aload_n (pc := 58) d_Fi_countWays_58 rfl 0 rfl ?_
          refine gt_100 (pc := 59) d_Fi_countWays_59 w2_9 tl0 (fun tt18 => ?_)
          refine aw_iload_n (pc := 62) d_Fi_countWays_62 rfl 1 rfl ?_
          refine aw_iaload (pc := 63) d_Fi_countWays_63 tt18 (fun c19 => ?_)
          refine aw_iload_n (pc := 64) d_Fi_countWays_64 rfl 2 rfl ?_
          refine aw_iconst (pc := 65) (x := (-1)) d_Fi_countWays_65 (by decide) ?_
          refine aw_ixor (pc := 66) d_Fi_countWays_66 ?_
          refine aw_iand (pc := 67) d_Fi_countWays_67 ?_
          refine aw_cVrV (pc := 68) (ci := 1) (T := TX1) (N := 4) (As := [.int l2, .int ((hAi h (hGr h 100 l0) (Int32.toNatClampNeg l1)) &&& (l2 ^^^ (-1)))]) (st := []) (ok_Fi_giveOut Y l0 l2 ((hAi h (hGr h 100 l0) (Int32.toNatClampNeg l1)) &&& (l2 ^^^ (-1))) h tl0) okV_Fi_giveOut rfl (by decide) tl0 w6_11 d_Fi_countWays_68 rfl (Nat.le_of_ble_eq_true rfl) rfl (Nat.le_of_ble_eq_true rfl) (fun q20 hq20 hTq20 => ?_)
          refine aw_iinc (pc := 71) (w := l2 + 1) (lv' := [(2, .int (l2 + 1)), (0, .ref l0), (1, .int l1)]) d_Fi_countWays_71 2 rfl rfl (by decide) rfl ?_
          refine aw_goto (pc := 74) (tgt := 27) d_Fi_countWays_74 (by decide) ?_
          exact aw_lv [1, 2, 0] rfl (ih (l2 + 1) q20)
      · refine aw_iinc (pc := 71) (w := l2 + 1) (lv' := [(2, .int (l2 + 1)), (0, .ref l0), (1, .int l1)]) d_Fi_countWays_71 2 rfl rfl (by decide) rfl ?_
        refine aw_goto (pc := 74) (tgt := 27) d_Fi_countWays_74 (by decide) ?_
        exact aw_lv [1, 2, 0] rfl (ih (l2 + 1) h)
def Fi_countWays_L17 (Y : Ly) (l0 : Nat) : Nat → Int32 → Hp → Option (Int64 × Hp)
  | 0, _, _ => none
  | F + 1, l1, h =>
    if (hGi h 102 l0) ≤ l1 then
      Fi_countWays_L87 Y l0 h FU 0 0
    else
      Fi_countWays_L27 Y l0 l1 (Fi_countWays_L17 Y l0 F) FU 0 h
theorem Fi_countWays_L17_ok (Y : Ly) (l0 : Nat) (tl0 : isO Y 1 l0) : ∀ (F : Nat) (l1 : Int32) (h : Hp), AW Y 2 K_Fi_countWays 17 [(0, .ref l0), (1, .int l1)] [] h (Fi_countWays_L17 Y l0 F l1 h) rL := by
  intro F
  induction F with
  | zero =>
    intro l1 h
    exact aw_none
  | succ F ih =>
    intro l1 h
    unfold Fi_countWays_L17
    refine aw_iload_n (pc := 17) d_Fi_countWays_17 rfl 1 rfl ?_
    refine aw_aload_n (pc := 18) d_Fi_countWays_18 rfl 0 rfl ?_
    refine gt_102 (pc := 19) d_Fi_countWays_19 w2_11 tl0 ?_
    refine aw_icmp_ge (pc := 22) (tgt := 83) d_Fi_countWays_22 (by decide) (fun c6 => ?_) (fun c6 => ?_)
    · refine aw_lconst (pc := 83) (x := 0) d_Fi_countWays_83 (by decide) ?_
      refine aw_lstore_n (pc := 84) (lv' := [(1, .long 0), (0, .ref l0)]) d_Fi_countWays_84 rfl (by decide) rfl ?_
      refine aw_iconst (pc := 85) (x := 0) d_Fi_countWays_85 (by decide) ?_
      refine aw_istore_n (pc := 86) (lv' := [(3, .int 0), (1, .long 0), (0, .ref l0)]) d_Fi_countWays_86 rfl (by decide) rfl ?_
      exact aw_lv [2, 1, 0] rfl (Fi_countWays_L87_ok Y l0 h tl0 FU 0 0)
    · refine aw_iconst (pc := 25) (x := 0) d_Fi_countWays_25 (by decide) ?_
      refine aw_istore_n (pc := 26) (lv' := [(2, .int 0), (0, .ref l0), (1, .int l1)]) d_Fi_countWays_26 rfl (by decide) rfl ?_
      exact aw_lv [1, 2, 0] rfl (Fi_countWays_L27_ok Y l0 l1 (Fi_countWays_L17 Y l0 F) tl0 ih FU 0 h)
def Fi_countWays (Y : Ly) (l0 : Nat) (h : Hp) : Option (Int64 × Hp) :=
  (J_fillL Y (hGr h 101 l0) 0 h).bind fun q2 =>
  if inB 0 (lnY Y (hGr q2 101 l0)) = true then
    letH (hTl q2 (hGr q2 101 l0) (Int32.toNatClampNeg 0) 1) fun h5 =>
    Fi_countWays_L17 Y l0 FU 0 h5
  else none
theorem ok_Fi_countWays (Y : Ly) (l0 : Nat) (h : Hp) (t0 : isO Y 1 l0) : AM Y 2 K_Fi_countWays [.ref l0] h (Fi_countWays Y l0 h) rL := by
  refine AM.of rfl (Nat.le_of_ble_eq_true rfl) ?_
  show AW Y 2 K_Fi_countWays 0 [(0, .ref l0)] [] h (Fi_countWays Y l0 h) rL
  unfold Fi_countWays
  refine aw_aload_n (pc := 0) d_Fi_countWays_0 rfl 0 rfl ?_
  refine gt_101 (pc := 1) d_Fi_countWays_1 w2_10 t0 (fun tt1 => ?_)
  refine aw_lconst (pc := 4) (x := 0) d_Fi_countWays_4 (by decide) ?_
  refine aw_cSrV (pc := 5) (As := [.ref (hGr h 101 l0), .long 0]) (st := []) (ok_J_fillL Y (hGr h 101 l0) 0 h tt1) okS_J_fillL w6_10 d_Fi_countWays_5 rfl (Nat.le_of_ble_eq_true rfl) rfl (Nat.le_of_ble_eq_true rfl) (fun q2 hq2 hTq2 => ?_)
  refine aw_aload_n (pc := 8) d_Fi_countWays_8 rfl 0 rfl ?_
  refine gt_101 (pc := 9) d_Fi_countWays_9 w2_10 t0 (fun tt3 => ?_)
  refine aw_iconst (pc := 12) (x := 0) d_Fi_countWays_12 (by decide) ?_
  refine aw_lconst (pc := 13) (x := 1) d_Fi_countWays_13 (by decide) ?_
  refine aw_lastore (pc := 14) d_Fi_countWays_14 tt3 (fun c4 => ?_)
  refine aw_letH (fun h5 => ?_)
  refine aw_iconst (pc := 15) (x := 0) d_Fi_countWays_15 (by decide) ?_
  refine aw_istore_n (pc := 16) (lv' := [(1, .int 0), (0, .ref l0)]) d_Fi_countWays_16 rfl (by decide) rfl ?_
  exact aw_lv [1, 0] rfl (Fi_countWays_L17_ok Y l0 t0 FU 0 h5)
/-! LastPages$Fitting.servesAll(I)Z -/
theorem d_Fi_servesAll_0 : decode prog_3_method_10_code 0 = .ok (.iconst 0, 1) := by decide +kernel
theorem d_Fi_servesAll_1 : decode prog_3_method_10_code 1 = .ok (.istore_n 2, 1) := by decide +kernel
theorem d_Fi_servesAll_2 : decode prog_3_method_10_code 2 = .ok (.iload_n 2, 1) := by decide +kernel
theorem d_Fi_servesAll_3 : decode prog_3_method_10_code 3 = .ok (.aload_n 0, 1) := by decide +kernel
theorem d_Fi_servesAll_4 : decode prog_3_method_10_code 4 = .ok (.getfield 19, 3) := by decide +kernel
theorem d_Fi_servesAll_7 : decode prog_3_method_10_code 7 = .ok (.if_icmp .ge 22, 3) := by decide +kernel
theorem d_Fi_servesAll_10 : decode prog_3_method_10_code 10 = .ok (.aload_n 0, 1) := by decide +kernel
theorem d_Fi_servesAll_11 : decode prog_3_method_10_code 11 = .ok (.getfield 9, 3) := by decide +kernel
theorem d_Fi_servesAll_14 : decode prog_3_method_10_code 14 = .ok (.iload_n 2, 1) := by decide +kernel
theorem d_Fi_servesAll_15 : decode prog_3_method_10_code 15 = .ok (.iaload, 1) := by decide +kernel
theorem d_Fi_servesAll_16 : decode prog_3_method_10_code 16 = .ok (.iload_n 1, 1) := by decide +kernel
theorem d_Fi_servesAll_17 : decode prog_3_method_10_code 17 = .ok (.iand, 1) := by decide +kernel
theorem d_Fi_servesAll_18 : decode prog_3_method_10_code 18 = .ok (.ifCond .ne 5, 3) := by decide +kernel
theorem d_Fi_servesAll_21 : decode prog_3_method_10_code 21 = .ok (.iconst 0, 1) := by decide +kernel
theorem d_Fi_servesAll_22 : decode prog_3_method_10_code 22 = .ok (.ireturn, 1) := by decide +kernel
theorem d_Fi_servesAll_23 : decode prog_3_method_10_code 23 = .ok (.iinc 2 1, 3) := by decide +kernel
theorem d_Fi_servesAll_26 : decode prog_3_method_10_code 26 = .ok (.goto (-24), 3) := by decide +kernel
theorem d_Fi_servesAll_29 : decode prog_3_method_10_code 29 = .ok (.iconst 1, 1) := by decide +kernel
theorem d_Fi_servesAll_30 : decode prog_3_method_10_code 30 = .ok (.ireturn, 1) := by decide +kernel
def Fi_servesAll_L2 (Y : Ly) (l0 : Nat) (l1 : Int32) (h : Hp) : Nat → Int32 → Option Bool
  | 0, _ => none
  | F + 1, l2 =>
    if (hGi h 102 l0) ≤ l2 then
      some true
    else
      if inB l2 (lnY Y (hGr h 100 l0)) = true then
        if ((hAi h (hGr h 100 l0) (Int32.toNatClampNeg l2)) &&& l1) = 0 then
          some false
        else
          Fi_servesAll_L2 Y l0 l1 h F (l2 + 1)
      else none
theorem Fi_servesAll_L2_ok (Y : Ly) (l0 : Nat) (l1 : Int32) (h : Hp) (tl0 : isO Y 1 l0) : ∀ (F : Nat) (l2 : Int32), AW Y 0 K_Fi_servesAll 2 [(0, .ref l0), (1, .int l1), (2, .int l2)] [] h (Fi_servesAll_L2 Y l0 l1 h F l2) (pZ h) := by
  intro F
  induction F with
  | zero =>
    intro l2
    exact aw_none
  | succ F ih =>
    intro l2
    unfold Fi_servesAll_L2
    refine aw_iload_n (pc := 2) d_Fi_servesAll_2 rfl 2 rfl ?_
    refine aw_aload_n (pc := 3) d_Fi_servesAll_3 rfl 0 rfl ?_
    refine gt_102 (pc := 4) d_Fi_servesAll_4 w2_11 tl0 ?_
    refine aw_icmp_ge (pc := 7) (tgt := 29) d_Fi_servesAll_7 (by decide) (fun c1 => ?_) (fun c1 => ?_)
    · refine aw_iconst (pc := 29) (x := 1) d_Fi_servesAll_29 (by decide) ?_
      exact aw_zreturn (pc := 30) (b := true) d_Fi_servesAll_30 rfl rfl
    · refine aw_aload_n (pc := 10) d_Fi_servesAll_10 rfl 0 rfl ?_
      refine gt_100 (pc := 11) d_Fi_servesAll_11 w2_9 tl0 (fun tt2 => ?_)
      refine aw_iload_n (pc := 14) d_Fi_servesAll_14 rfl 2 rfl ?_
      refine aw_iaload (pc := 15) d_Fi_servesAll_15 tt2 (fun c3 => ?_)
      refine aw_iload_n (pc := 16) d_Fi_servesAll_16 rfl 1 rfl ?_
      refine aw_iand (pc := 17) d_Fi_servesAll_17 ?_
      refine aw_if_ne (pc := 18) (tgt := 23) d_Fi_servesAll_18 (by decide) (fun c4 => ?_) (fun c4 => ?_)
      · refine aw_iconst (pc := 21) (x := 0) d_Fi_servesAll_21 (by decide) ?_
        exact aw_zreturn (pc := 22) (b := false) d_Fi_servesAll_22 rfl rfl
      · refine aw_iinc (pc := 23) (w := l2 + 1) (lv' := [(2, .int (l2 + 1)), (0, .ref l0), (1, .int l1)]) d_Fi_servesAll_23 2 rfl rfl (by decide) rfl ?_
        refine aw_goto (pc := 26) (tgt := 2) d_Fi_servesAll_26 (by decide) ?_
        exact aw_lv [1, 2, 0] rfl (ih (l2 + 1))
def Fi_servesAll (Y : Ly) (l0 : Nat) (l1 : Int32) (h : Hp) : Option Bool :=
  Fi_servesAll_L2 Y l0 l1 h FU 0
theorem ok_Fi_servesAll (Y : Ly) (l0 : Nat) (l1 : Int32) (h : Hp) (t0 : isO Y 1 l0) : AM Y 0 K_Fi_servesAll [.ref l0, .int l1] h (Fi_servesAll Y l0 l1 h) (pZ h) := by
  refine AM.of rfl (Nat.le_of_ble_eq_true rfl) ?_
  show AW Y 0 K_Fi_servesAll 0 [(0, .ref l0), (1, .int l1)] [] h (Fi_servesAll Y l0 l1 h) (pZ h)
  unfold Fi_servesAll
  refine aw_iconst (pc := 0) (x := 0) d_Fi_servesAll_0 (by decide) ?_
  refine aw_istore_n (pc := 1) (lv' := [(2, .int 0), (0, .ref l0), (1, .int l1)]) d_Fi_servesAll_1 rfl (by decide) rfl ?_
  exact aw_lv [1, 2, 0] rfl (Fi_servesAll_L2_ok Y l0 l1 h t0 FU 0)
/-! LastPages$Fitting.fewestFinales()I -/
theorem d_Fi_fewestFinales_0 : decode prog_3_method_9_code 0 = .ok (.iconst (-1), 1) := by decide +kernel
theorem d_Fi_fewestFinales_1 : decode prog_3_method_9_code 1 = .ok (.istore_n 1, 1) := by decide +kernel
theorem d_Fi_fewestFinales_2 : decode prog_3_method_9_code 2 = .ok (.iconst 0, 1) := by decide +kernel
theorem d_Fi_fewestFinales_3 : decode prog_3_method_9_code 3 = .ok (.istore_n 2, 1) := by decide +kernel
theorem d_Fi_fewestFinales_4 : decode prog_3_method_9_code 4 = .ok (.iload_n 2, 1) := by decide +kernel
theorem d_Fi_fewestFinales_5 : decode prog_3_method_9_code 5 = .ok (.iconst 1, 1) := by decide +kernel
theorem d_Fi_fewestFinales_6 : decode prog_3_method_9_code 6 = .ok (.aload_n 0, 1) := by decide +kernel
theorem d_Fi_fewestFinales_7 : decode prog_3_method_9_code 7 = .ok (.getfield 23, 3) := by decide +kernel
theorem d_Fi_fewestFinales_10 : decode prog_3_method_9_code 10 = .ok (.ishl, 1) := by decide +kernel
theorem d_Fi_fewestFinales_11 : decode prog_3_method_9_code 11 = .ok (.if_icmp .ge 27, 3) := by decide +kernel
theorem d_Fi_fewestFinales_14 : decode prog_3_method_9_code 14 = .ok (.iload_n 2, 1) := by decide +kernel
theorem d_Fi_fewestFinales_15 : decode prog_3_method_9_code 15 = .ok (.iload_n 1, 1) := by decide +kernel
theorem d_Fi_fewestFinales_16 : decode prog_3_method_9_code 16 = .ok (.invokestatic 64, 3) := by decide +kernel
theorem d_Fi_fewestFinales_19 : decode prog_3_method_9_code 19 = .ok (.ifCond .eq 13, 3) := by decide +kernel
theorem d_Fi_fewestFinales_22 : decode prog_3_method_9_code 22 = .ok (.aload_n 0, 1) := by decide +kernel
theorem d_Fi_fewestFinales_23 : decode prog_3_method_9_code 23 = .ok (.iload_n 2, 1) := by decide +kernel
theorem d_Fi_fewestFinales_24 : decode prog_3_method_9_code 24 = .ok (.invokevirtual 77, 3) := by decide +kernel
theorem d_Fi_fewestFinales_27 : decode prog_3_method_9_code 27 = .ok (.ifCond .eq 5, 3) := by decide +kernel
theorem d_Fi_fewestFinales_30 : decode prog_3_method_9_code 30 = .ok (.iload_n 2, 1) := by decide +kernel
theorem d_Fi_fewestFinales_31 : decode prog_3_method_9_code 31 = .ok (.istore_n 1, 1) := by decide +kernel
theorem d_Fi_fewestFinales_32 : decode prog_3_method_9_code 32 = .ok (.iinc 2 1, 3) := by decide +kernel
theorem d_Fi_fewestFinales_35 : decode prog_3_method_9_code 35 = .ok (.goto (-31), 3) := by decide +kernel
theorem d_Fi_fewestFinales_38 : decode prog_3_method_9_code 38 = .ok (.iload_n 1, 1) := by decide +kernel
theorem d_Fi_fewestFinales_39 : decode prog_3_method_9_code 39 = .ok (.ireturn, 1) := by decide +kernel
def Fi_fewestFinales_L4 (Y : Ly) (l0 : Nat) (h : Hp) : Nat → Int32 → Int32 → Option Int32
  | 0, _, _ => none
  | F + 1, l1, l2 =>
    if ((1 : Int32) <<< ((hGi h 103 l0) &&& 31)) ≤ l2 then
      some l1
    else
      (LP_isFewer Y l2 l1 h).bind fun q2 =>
      if q2 = true then
        (Fi_servesAll Y l0 l2 h).bind fun q4 =>
        if q4 = true then
          Fi_fewestFinales_L4 Y l0 h F l2 (l2 + 1)
        else
          Fi_fewestFinales_L4 Y l0 h F l1 (l2 + 1)
      else
        Fi_fewestFinales_L4 Y l0 h F l1 (l2 + 1)
theorem Fi_fewestFinales_L4_ok (Y : Ly) (l0 : Nat) (h : Hp) (tl0 : isO Y 1 l0) : ∀ (F : Nat) (l1 : Int32) (l2 : Int32), AW Y 2 K_Fi_fewestFinales 4 [(0, .ref l0), (1, .int l1), (2, .int l2)] [] h (Fi_fewestFinales_L4 Y l0 h F l1 l2) (pI h) := by
  intro F
  induction F with
  | zero =>
    intro l1 l2
    exact aw_none
  | succ F ih =>
    intro l1 l2
    unfold Fi_fewestFinales_L4
    refine aw_iload_n (pc := 4) d_Fi_fewestFinales_4 rfl 2 rfl ?_
    refine aw_iconst (pc := 5) (x := 1) d_Fi_fewestFinales_5 (by decide) ?_
    refine aw_aload_n (pc := 6) d_Fi_fewestFinales_6 rfl 0 rfl ?_
    refine gt_103 (pc := 7) d_Fi_fewestFinales_7 w2_12 tl0 ?_
    refine aw_ishl (pc := 10) d_Fi_fewestFinales_10 ?_
    refine aw_icmp_ge (pc := 11) (tgt := 38) d_Fi_fewestFinales_11 (by decide) (fun c1 => ?_) (fun c1 => ?_)
    · refine aw_iload_n (pc := 38) d_Fi_fewestFinales_38 rfl 1 rfl ?_
      exact aw_ireturn (pc := 39) d_Fi_fewestFinales_39 rfl rfl
    · refine aw_iload_n (pc := 14) d_Fi_fewestFinales_14 rfl 2 rfl ?_
      refine aw_iload_n (pc := 15) d_Fi_fewestFinales_15 rfl 1 rfl ?_
      refine aw_cNpZ (pc := 16) (As := [.int l2, .int l1]) (st := []) (ok_LP_isFewer Y l2 l1 h) okS_LP_isFewer (List.mem_of_getElem? (i := 15) rfl) d_Fi_fewestFinales_16 rfl (Nat.le_of_ble_eq_true rfl) rfl (Nat.le_of_ble_eq_true rfl) (fun q2 hq2 hTq2 => ?_)
      refine aw_beq (pc := 19) (tgt := 32) d_Fi_fewestFinales_19 (by decide) (fun c3 => ?_) (fun c3 => ?_)
      · refine aw_aload_n (pc := 22) d_Fi_fewestFinales_22 rfl 0 rfl ?_
        refine aw_iload_n (pc := 23) d_Fi_fewestFinales_23 rfl 2 rfl ?_
        refine aw_cVpZ (pc := 24) (ci := 1) (T := TX1) (N := 4) (As := [.int l2]) (st := []) (ok_Fi_servesAll Y l0 l2 h tl0) okV_Fi_servesAll rfl (by decide) tl0 w6_43 d_Fi_fewestFinales_24 rfl (Nat.le_of_ble_eq_true rfl) rfl (Nat.le_of_ble_eq_true rfl) (fun q4 hq4 hTq4 => ?_)
        refine aw_beq (pc := 27) (tgt := 32) d_Fi_fewestFinales_27 (by decide) (fun c5 => ?_) (fun c5 => ?_)
        · refine aw_iload_n (pc := 30) d_Fi_fewestFinales_30 rfl 2 rfl ?_
          refine aw_istore_n (pc := 31) (lv' := [(1, .int l2), (0, .ref l0), (2, .int l2)]) d_Fi_fewestFinales_31 rfl (by decide) rfl ?_
          refine aw_iinc (pc := 32) (w := l2 + 1) (lv' := [(2, .int (l2 + 1)), (1, .int l2), (0, .ref l0)]) d_Fi_fewestFinales_32 2 rfl rfl (by decide) rfl ?_
          refine aw_goto (pc := 35) (tgt := 4) d_Fi_fewestFinales_35 (by decide) ?_
          exact aw_lv [2, 1, 0] rfl (ih l2 (l2 + 1))
        · refine aw_iinc (pc := 32) (w := l2 + 1) (lv' := [(2, .int (l2 + 1)), (0, .ref l0), (1, .int l1)]) d_Fi_fewestFinales_32 2 rfl rfl (by decide) rfl ?_
          refine aw_goto (pc := 35) (tgt := 4) d_Fi_fewestFinales_35 (by decide) ?_
          exact aw_lv [1, 2, 0] rfl (ih l1 (l2 + 1))
      · refine aw_iinc (pc := 32) (w := l2 + 1) (lv' := [(2, .int (l2 + 1)), (0, .ref l0), (1, .int l1)]) d_Fi_fewestFinales_32 2 rfl rfl (by decide) rfl ?_
        refine aw_goto (pc := 35) (tgt := 4) d_Fi_fewestFinales_35 (by decide) ?_
        exact aw_lv [1, 2, 0] rfl (ih l1 (l2 + 1))
def Fi_fewestFinales (Y : Ly) (l0 : Nat) (h : Hp) : Option Int32 :=
  Fi_fewestFinales_L4 Y l0 h FU (-1) 0
theorem ok_Fi_fewestFinales (Y : Ly) (l0 : Nat) (h : Hp) (t0 : isO Y 1 l0) : AM Y 2 K_Fi_fewestFinales [.ref l0] h (Fi_fewestFinales Y l0 h) (pI h) := by
  refine AM.of rfl (Nat.le_of_ble_eq_true rfl) ?_
  show AW Y 2 K_Fi_fewestFinales 0 [(0, .ref l0)] [] h (Fi_fewestFinales Y l0 h) (pI h)
  unfold Fi_fewestFinales
  refine aw_iconst (pc := 0) (x := (-1)) d_Fi_fewestFinales_0 (by decide) ?_
  refine aw_istore_n (pc := 1) (lv' := [(1, .int (-1)), (0, .ref l0)]) d_Fi_fewestFinales_1 rfl (by decide) rfl ?_
  refine aw_iconst (pc := 2) (x := 0) d_Fi_fewestFinales_2 (by decide) ?_
  refine aw_istore_n (pc := 3) (lv' := [(2, .int 0), (1, .int (-1)), (0, .ref l0)]) d_Fi_fewestFinales_3 rfl (by decide) rfl ?_
  exact aw_lv [2, 1, 0] rfl (Fi_fewestFinales_L4_ok Y l0 h t0 FU (-1) 0)
/-! LastPages$Fitting.tooMany(I)I -/
theorem d_Fi_tooMany_0 : decode prog_3_method_4_code 0 = .ok (.iconst 0, 1) := by decide +kernel
theorem d_Fi_tooMany_1 : decode prog_3_method_4_code 1 = .ok (.istore_n 2, 1) := by decide +kernel
theorem d_Fi_tooMany_2 : decode prog_3_method_4_code 2 = .ok (.iconst 0, 1) := by decide +kernel
theorem d_Fi_tooMany_3 : decode prog_3_method_4_code 3 = .ok (.istore_n 3, 1) := by decide +kernel
theorem d_Fi_tooMany_4 : decode prog_3_method_4_code 4 = .ok (.iload_n 3, 1) := by decide +kernel
theorem d_Fi_tooMany_5 : decode prog_3_method_4_code 5 = .ok (.aload_n 0, 1) := by decide +kernel
theorem d_Fi_tooMany_6 : decode prog_3_method_4_code 6 = .ok (.getfield 19, 3) := by decide +kernel
theorem d_Fi_tooMany_9 : decode prog_3_method_4_code 9 = .ok (.if_icmp .ge 30, 3) := by decide +kernel
theorem d_Fi_tooMany_12 : decode prog_3_method_4_code 12 = .ok (.iload_n 2, 1) := by decide +kernel
theorem d_Fi_tooMany_13 : decode prog_3_method_4_code 13 = .ok (.iload_n 1, 1) := by decide +kernel
theorem d_Fi_tooMany_14 : decode prog_3_method_4_code 14 = .ok (.iload_n 3, 1) := by decide +kernel
theorem d_Fi_tooMany_15 : decode prog_3_method_4_code 15 = .ok (.invokestatic 48, 3) := by decide +kernel
theorem d_Fi_tooMany_18 : decode prog_3_method_4_code 18 = .ok (.ifCond .eq 12, 3) := by decide +kernel
theorem d_Fi_tooMany_21 : decode prog_3_method_4_code 21 = .ok (.aload_n 0, 1) := by decide +kernel
theorem d_Fi_tooMany_22 : decode prog_3_method_4_code 22 = .ok (.getfield 9, 3) := by decide +kernel
theorem d_Fi_tooMany_25 : decode prog_3_method_4_code 25 = .ok (.iload_n 3, 1) := by decide +kernel
theorem d_Fi_tooMany_26 : decode prog_3_method_4_code 26 = .ok (.iaload, 1) := by decide +kernel
theorem d_Fi_tooMany_27 : decode prog_3_method_4_code 27 = .ok (.goto 4, 3) := by decide +kernel
theorem d_Fi_tooMany_30 : decode prog_3_method_4_code 30 = .ok (.iconst 0, 1) := by decide +kernel
theorem d_Fi_tooMany_31 : decode prog_3_method_4_code 31 = .ok (.ior, 1) := by decide +kernel
theorem d_Fi_tooMany_32 : decode prog_3_method_4_code 32 = .ok (.istore_n 2, 1) := by decide +kernel
theorem d_Fi_tooMany_33 : decode prog_3_method_4_code 33 = .ok (.iinc 3 1, 3) := by decide +kernel
theorem d_Fi_tooMany_36 : decode prog_3_method_4_code 36 = .ok (.goto (-32), 3) := by decide +kernel
theorem d_Fi_tooMany_39 : decode prog_3_method_4_code 39 = .ok (.iload_n 1, 1) := by decide +kernel
theorem d_Fi_tooMany_40 : decode prog_3_method_4_code 40 = .ok (.invokestatic 52, 3) := by decide +kernel
theorem d_Fi_tooMany_43 : decode prog_3_method_4_code 43 = .ok (.iload_n 2, 1) := by decide +kernel
theorem d_Fi_tooMany_44 : decode prog_3_method_4_code 44 = .ok (.invokestatic 52, 3) := by decide +kernel
theorem d_Fi_tooMany_47 : decode prog_3_method_4_code 47 = .ok (.isub, 1) := by decide +kernel
theorem d_Fi_tooMany_48 : decode prog_3_method_4_code 48 = .ok (.ireturn, 1) := by decide +kernel
def Fi_tooMany_L4 (Y : Ly) (l0 : Nat) (l1 : Int32) (h : Hp) : Nat → Int32 → Int32 → Option Int32
  | 0, _, _ => none
  | F + 1, l2, l3 =>
    if (hGi h 102 l0) ≤ l3 then
      (J_bitCount Y l1 h).bind fun q2 =>
      (J_bitCount Y l2 h).bind fun q3 =>
      some (q2 - q3)
    else
      (LP_has Y l1 l3 h).bind fun q4 =>
      if q4 = true then
        if inB l3 (lnY Y (hGr h 100 l0)) = true then
          Fi_tooMany_L4 Y l0 l1 h F (l2 ||| (hAi h (hGr h 100 l0) (Int32.toNatClampNeg l3))) (l3 + 1)
        else none
      else
        Fi_tooMany_L4 Y l0 l1 h F (l2 ||| 0) (l3 + 1)
theorem Fi_tooMany_L4_ok (Y : Ly) (l0 : Nat) (l1 : Int32) (h : Hp) (tl0 : isO Y 1 l0) : ∀ (F : Nat) (l2 : Int32) (l3 : Int32), AW Y 1 K_Fi_tooMany 4 [(0, .ref l0), (1, .int l1), (2, .int l2), (3, .int l3)] [] h (Fi_tooMany_L4 Y l0 l1 h F l2 l3) (pI h) := by
  intro F
  induction F with
  | zero =>
    intro l2 l3
    exact aw_none
  | succ F ih =>
    intro l2 l3
    unfold Fi_tooMany_L4
    refine aw_iload_n (pc := 4) d_Fi_tooMany_4 rfl 3 rfl ?_
    refine aw_aload_n (pc := 5) d_Fi_tooMany_5 rfl 0 rfl ?_
    refine gt_102 (pc := 6) d_Fi_tooMany_6 w2_11 tl0 ?_
    refine aw_icmp_ge (pc := 9) (tgt := 39) d_Fi_tooMany_9 (by decide) (fun c1 => ?_) (fun c1 => ?_)
    · refine aw_iload_n (pc := 39) d_Fi_tooMany_39 rfl 1 rfl ?_
      refine aw_cSpI (pc := 40) (As := [.int l1]) (st := []) (ok_J_bitCount Y l1 h) okS_J_bitCount w5_235 d_Fi_tooMany_40 rfl (Nat.le_of_ble_eq_true rfl) rfl (Nat.le_of_ble_eq_true rfl) (fun q2 hq2 hTq2 => ?_)
      refine aw_iload_n (pc := 43) d_Fi_tooMany_43 rfl 2 rfl ?_
      refine aw_cSpI (pc := 44) (As := [.int l2]) (st := [.int q2]) (ok_J_bitCount Y l2 h) okS_J_bitCount w5_235 d_Fi_tooMany_44 rfl (Nat.le_of_ble_eq_true rfl) rfl (Nat.le_of_ble_eq_true rfl) (fun q3 hq3 hTq3 => ?_)
      refine aw_isub (pc := 47) d_Fi_tooMany_47 ?_
      exact aw_ireturn (pc := 48) d_Fi_tooMany_48 rfl rfl
    · refine aw_iload_n (pc := 12) d_Fi_tooMany_12 rfl 2 rfl ?_
      refine aw_iload_n (pc := 13) d_Fi_tooMany_13 rfl 1 rfl ?_
      refine aw_iload_n (pc := 14) d_Fi_tooMany_14 rfl 3 rfl ?_
      refine aw_cNpZ (pc := 15) (As := [.int l1, .int l3]) (st := [.int l2]) (ok_LP_has Y l1 l3 h) okS_LP_has (List.mem_of_getElem? (i := 14) rfl) d_Fi_tooMany_15 rfl (Nat.le_of_ble_eq_true rfl) rfl (Nat.le_of_ble_eq_true rfl) (fun q4 hq4 hTq4 => ?_)
      refine aw_beq (pc := 18) (tgt := 30) d_Fi_tooMany_18 (by decide) (fun c5 => ?_) (fun c5 => ?_)
      · refine aw_aload_n (pc := 21) d_Fi_tooMany_21 rfl 0 rfl ?_
        refine gt_100 (pc := 22) d_Fi_tooMany_22 w2_9 tl0 (fun tt6 => ?_)
        refine aw_iload_n (pc := 25) d_Fi_tooMany_25 rfl 3 rfl ?_
        refine aw_iaload (pc := 26) d_Fi_tooMany_26 tt6 (fun c7 => ?_)
        refine aw_goto (pc := 27) (tgt := 31) d_Fi_tooMany_27 (by decide) ?_
        refine aw_ior (pc := 31) d_Fi_tooMany_31 ?_
        refine aw_istore_n (pc := 32) (lv' := [(2, .int (l2 ||| (hAi h (hGr h 100 l0) (Int32.toNatClampNeg l3)))), (0, .ref l0), (1, .int l1), (3, .int l3)]) d_Fi_tooMany_32 rfl (by decide) rfl ?_
        refine aw_iinc (pc := 33) (w := l3 + 1) (lv' := [(3, .int (l3 + 1)), (2, .int (l2 ||| (hAi h (hGr h 100 l0) (Int32.toNatClampNeg l3)))), (0, .ref l0), (1, .int l1)]) d_Fi_tooMany_33 3 rfl rfl (by decide) rfl ?_
        refine aw_goto (pc := 36) (tgt := 4) d_Fi_tooMany_36 (by decide) ?_
        exact aw_lv [2, 3, 1, 0] rfl (ih (l2 ||| (hAi h (hGr h 100 l0) (Int32.toNatClampNeg l3))) (l3 + 1))
      · refine aw_iconst (pc := 30) (x := 0) d_Fi_tooMany_30 (by decide) ?_
        refine aw_ior (pc := 31) d_Fi_tooMany_31 ?_
        refine aw_istore_n (pc := 32) (lv' := [(2, .int (l2 ||| 0)), (0, .ref l0), (1, .int l1), (3, .int l3)]) d_Fi_tooMany_32 rfl (by decide) rfl ?_
        refine aw_iinc (pc := 33) (w := l3 + 1) (lv' := [(3, .int (l3 + 1)), (2, .int (l2 ||| 0)), (0, .ref l0), (1, .int l1)]) d_Fi_tooMany_33 3 rfl rfl (by decide) rfl ?_
        refine aw_goto (pc := 36) (tgt := 4) d_Fi_tooMany_36 (by decide) ?_
        exact aw_lv [2, 3, 1, 0] rfl (ih (l2 ||| 0) (l3 + 1))
def Fi_tooMany (Y : Ly) (l0 : Nat) (l1 : Int32) (h : Hp) : Option Int32 :=
  Fi_tooMany_L4 Y l0 l1 h FU 0 0
theorem ok_Fi_tooMany (Y : Ly) (l0 : Nat) (l1 : Int32) (h : Hp) (t0 : isO Y 1 l0) : AM Y 1 K_Fi_tooMany [.ref l0, .int l1] h (Fi_tooMany Y l0 l1 h) (pI h) := by
  refine AM.of rfl (Nat.le_of_ble_eq_true rfl) ?_
  show AW Y 1 K_Fi_tooMany 0 [(0, .ref l0), (1, .int l1)] [] h (Fi_tooMany Y l0 l1 h) (pI h)
  unfold Fi_tooMany
  refine aw_iconst (pc := 0) (x := 0) d_Fi_tooMany_0 (by decide) ?_
  refine aw_istore_n (pc := 1) (lv' := [(2, .int 0), (0, .ref l0), (1, .int l1)]) d_Fi_tooMany_1 rfl (by decide) rfl ?_
  refine aw_iconst (pc := 2) (x := 0) d_Fi_tooMany_2 (by decide) ?_
  refine aw_istore_n (pc := 3) (lv' := [(3, .int 0), (2, .int 0), (0, .ref l0), (1, .int l1)]) d_Fi_tooMany_3 rfl (by decide) rfl ?_
  exact aw_lv [2, 3, 1, 0] rfl (Fi_tooMany_L4_ok Y l0 l1 h t0 FU 0 0)
/-! LastPages$Fitting.leastClash()I -/
theorem d_Fi_leastClash_0 : decode prog_3_method_6_code 0 = .ok (.iconst (-1), 1) := by decide +kernel
theorem d_Fi_leastClash_1 : decode prog_3_method_6_code 1 = .ok (.istore_n 1, 1) := by decide +kernel
theorem d_Fi_leastClash_2 : decode prog_3_method_6_code 2 = .ok (.iconst 1, 1) := by decide +kernel
theorem d_Fi_leastClash_3 : decode prog_3_method_6_code 3 = .ok (.istore_n 2, 1) := by decide +kernel
theorem d_Fi_leastClash_4 : decode prog_3_method_6_code 4 = .ok (.iload_n 2, 1) := by decide +kernel
theorem d_Fi_leastClash_5 : decode prog_3_method_6_code 5 = .ok (.iconst 1, 1) := by decide +kernel
theorem d_Fi_leastClash_6 : decode prog_3_method_6_code 6 = .ok (.aload_n 0, 1) := by decide +kernel
theorem d_Fi_leastClash_7 : decode prog_3_method_6_code 7 = .ok (.getfield 19, 3) := by decide +kernel
theorem d_Fi_leastClash_10 : decode prog_3_method_6_code 10 = .ok (.ishl, 1) := by decide +kernel
theorem d_Fi_leastClash_11 : decode prog_3_method_6_code 11 = .ok (.if_icmp .ge 27, 3) := by decide +kernel
theorem d_Fi_leastClash_14 : decode prog_3_method_6_code 14 = .ok (.iload_n 2, 1) := by decide +kernel
theorem d_Fi_leastClash_15 : decode prog_3_method_6_code 15 = .ok (.iload_n 1, 1) := by decide +kernel
theorem d_Fi_leastClash_16 : decode prog_3_method_6_code 16 = .ok (.invokestatic 64, 3) := by decide +kernel
theorem d_Fi_leastClash_19 : decode prog_3_method_6_code 19 = .ok (.ifCond .eq 13, 3) := by decide +kernel
theorem d_Fi_leastClash_22 : decode prog_3_method_6_code 22 = .ok (.aload_n 0, 1) := by decide +kernel
theorem d_Fi_leastClash_23 : decode prog_3_method_6_code 23 = .ok (.iload_n 2, 1) := by decide +kernel
theorem d_Fi_leastClash_24 : decode prog_3_method_6_code 24 = .ok (.invokevirtual 58, 3) := by decide +kernel
theorem d_Fi_leastClash_27 : decode prog_3_method_6_code 27 = .ok (.ifCond .le 5, 3) := by decide +kernel
theorem d_Fi_leastClash_30 : decode prog_3_method_6_code 30 = .ok (.iload_n 2, 1) := by decide +kernel
theorem d_Fi_leastClash_31 : decode prog_3_method_6_code 31 = .ok (.istore_n 1, 1) := by decide +kernel
theorem d_Fi_leastClash_32 : decode prog_3_method_6_code 32 = .ok (.iinc 2 1, 3) := by decide +kernel
theorem d_Fi_leastClash_35 : decode prog_3_method_6_code 35 = .ok (.goto (-31), 3) := by decide +kernel
theorem d_Fi_leastClash_38 : decode prog_3_method_6_code 38 = .ok (.iload_n 1, 1) := by decide +kernel
theorem d_Fi_leastClash_39 : decode prog_3_method_6_code 39 = .ok (.ireturn, 1) := by decide +kernel
def Fi_leastClash_L4 (Y : Ly) (l0 : Nat) (h : Hp) : Nat → Int32 → Int32 → Option Int32
  | 0, _, _ => none
  | F + 1, l1, l2 =>
    if ((1 : Int32) <<< ((hGi h 102 l0) &&& 31)) ≤ l2 then
      some l1
    else
      (LP_isFewer Y l2 l1 h).bind fun q2 =>
      if q2 = true then
        (Fi_tooMany Y l0 l2 h).bind fun q4 =>
        if q4 ≤ 0 then
          Fi_leastClash_L4 Y l0 h F l1 (l2 + 1)
        else
          Fi_leastClash_L4 Y l0 h F l2 (l2 + 1)
      else
        Fi_leastClash_L4 Y l0 h F l1 (l2 + 1)
theorem Fi_leastClash_L4_ok (Y : Ly) (l0 : Nat) (h : Hp) (tl0 : isO Y 1 l0) : ∀ (F : Nat) (l1 : Int32) (l2 : Int32), AW Y 2 K_Fi_leastClash 4 [(0, .ref l0), (1, .int l1), (2, .int l2)] [] h (Fi_leastClash_L4 Y l0 h F l1 l2) (pI h) := by
  intro F
  induction F with
  | zero =>
    intro l1 l2
    exact aw_none
  | succ F ih =>
    intro l1 l2
    unfold Fi_leastClash_L4
    refine aw_iload_n (pc := 4) d_Fi_leastClash_4 rfl 2 rfl ?_
    refine aw_iconst (pc := 5) (x := 1) d_Fi_leastClash_5 (by decide) ?_
    refine aw_aload_n (pc := 6) d_Fi_leastClash_6 rfl 0 rfl ?_
    refine gt_102 (pc := 7) d_Fi_leastClash_7 w2_11 tl0 ?_
    refine aw_ishl (pc := 10) d_Fi_leastClash_10 ?_
    refine aw_icmp_ge (pc := 11) (tgt := 38) d_Fi_leastClash_11 (by decide) (fun c1 => ?_) (fun c1 => ?_)
    · refine aw_iload_n (pc := 38) d_Fi_leastClash_38 rfl 1 rfl ?_
      exact aw_ireturn (pc := 39) d_Fi_leastClash_39 rfl rfl
    · refine aw_iload_n (pc := 14) d_Fi_leastClash_14 rfl 2 rfl ?_
      refine aw_iload_n (pc := 15) d_Fi_leastClash_15 rfl 1 rfl ?_
      refine aw_cNpZ (pc := 16) (As := [.int l2, .int l1]) (st := []) (ok_LP_isFewer Y l2 l1 h) okS_LP_isFewer (List.mem_of_getElem? (i := 15) rfl) d_Fi_leastClash_16 rfl (Nat.le_of_ble_eq_true rfl) rfl (Nat.le_of_ble_eq_true rfl) (fun q2 hq2 hTq2 => ?_)
      refine aw_beq (pc := 19) (tgt := 32) d_Fi_leastClash_19 (by decide) (fun c3 => ?_) (fun c3 => ?_)
      · refine aw_aload_n (pc := 22) d_Fi_leastClash_22 rfl 0 rfl ?_
        refine aw_iload_n (pc := 23) d_Fi_leastClash_23 rfl 2 rfl ?_
        refine aw_cVpI (pc := 24) (ci := 1) (T := TX1) (N := 4) (As := [.int l2]) (st := []) (ok_Fi_tooMany Y l0 l2 h tl0) okV_Fi_tooMany rfl (by decide) tl0 w5_231 d_Fi_leastClash_24 rfl (Nat.le_of_ble_eq_true rfl) rfl (Nat.le_of_ble_eq_true rfl) (fun q4 hq4 hTq4 => ?_)
        refine aw_if_le (pc := 27) (tgt := 32) d_Fi_leastClash_27 (by decide) (fun c5 => ?_) (fun c5 => ?_)
        · refine aw_iinc (pc := 32) (w := l2 + 1) (lv' := [(2, .int (l2 + 1)), (0, .ref l0), (1, .int l1)]) d_Fi_leastClash_32 2 rfl rfl (by decide) rfl ?_
          refine aw_goto (pc := 35) (tgt := 4) d_Fi_leastClash_35 (by decide) ?_
          exact aw_lv [1, 2, 0] rfl (ih l1 (l2 + 1))
        · refine aw_iload_n (pc := 30) d_Fi_leastClash_30 rfl 2 rfl ?_
          refine aw_istore_n (pc := 31) (lv' := [(1, .int l2), (0, .ref l0), (2, .int l2)]) d_Fi_leastClash_31 rfl (by decide) rfl ?_
          refine aw_iinc (pc := 32) (w := l2 + 1) (lv' := [(2, .int (l2 + 1)), (1, .int l2), (0, .ref l0)]) d_Fi_leastClash_32 2 rfl rfl (by decide) rfl ?_
          refine aw_goto (pc := 35) (tgt := 4) d_Fi_leastClash_35 (by decide) ?_
          exact aw_lv [2, 1, 0] rfl (ih l2 (l2 + 1))
      · refine aw_iinc (pc := 32) (w := l2 + 1) (lv' := [(2, .int (l2 + 1)), (0, .ref l0), (1, .int l1)]) d_Fi_leastClash_32 2 rfl rfl (by decide) rfl ?_
        refine aw_goto (pc := 35) (tgt := 4) d_Fi_leastClash_35 (by decide) ?_
        exact aw_lv [1, 2, 0] rfl (ih l1 (l2 + 1))
def Fi_leastClash (Y : Ly) (l0 : Nat) (h : Hp) : Option Int32 :=
  Fi_leastClash_L4 Y l0 h FU (-1) 1
theorem ok_Fi_leastClash (Y : Ly) (l0 : Nat) (h : Hp) (t0 : isO Y 1 l0) : AM Y 2 K_Fi_leastClash [.ref l0] h (Fi_leastClash Y l0 h) (pI h) := by
  refine AM.of rfl (Nat.le_of_ble_eq_true rfl) ?_
  show AW Y 2 K_Fi_leastClash 0 [(0, .ref l0)] [] h (Fi_leastClash Y l0 h) (pI h)
  unfold Fi_leastClash
  refine aw_iconst (pc := 0) (x := (-1)) d_Fi_leastClash_0 (by decide) ?_
  refine aw_istore_n (pc := 1) (lv' := [(1, .int (-1)), (0, .ref l0)]) d_Fi_leastClash_1 rfl (by decide) rfl ?_
  refine aw_iconst (pc := 2) (x := 1) d_Fi_leastClash_2 (by decide) ?_
  refine aw_istore_n (pc := 3) (lv' := [(2, .int 1), (1, .int (-1)), (0, .ref l0)]) d_Fi_leastClash_3 rfl (by decide) rfl ?_
  exact aw_lv [2, 1, 0] rfl (Fi_leastClash_L4_ok Y l0 h t0 FU (-1) 1)
/-! LastPages$Fitting.lookAt(LLastPages$Shelf;LLastPages$Endings;)V -/
theorem d_Fi_lookAt_0 : decode prog_3_method_2_code 0 = .ok (.aload_n 0, 1) := by decide +kernel
theorem d_Fi_lookAt_1 : decode prog_3_method_2_code 1 = .ok (.aload_n 1, 1) := by decide +kernel
theorem d_Fi_lookAt_2 : decode prog_3_method_2_code 2 = .ok (.getfield 26, 3) := by decide +kernel
theorem d_Fi_lookAt_5 : decode prog_3_method_2_code 5 = .ok (.bipush 6, 2) := by decide +kernel
theorem d_Fi_lookAt_7 : decode prog_3_method_2_code 7 = .ok (.invokestatic 29, 3) := by decide +kernel
theorem d_Fi_lookAt_10 : decode prog_3_method_2_code 10 = .ok (.putfield 19, 3) := by decide +kernel
theorem d_Fi_lookAt_13 : decode prog_3_method_2_code 13 = .ok (.aload_n 0, 1) := by decide +kernel
theorem d_Fi_lookAt_14 : decode prog_3_method_2_code 14 = .ok (.aload_n 1, 1) := by decide +kernel
theorem d_Fi_lookAt_15 : decode prog_3_method_2_code 15 = .ok (.getfield 35, 3) := by decide +kernel
theorem d_Fi_lookAt_18 : decode prog_3_method_2_code 18 = .ok (.getfield 39, 3) := by decide +kernel
theorem d_Fi_lookAt_21 : decode prog_3_method_2_code 21 = .ok (.bipush 8, 2) := by decide +kernel
theorem d_Fi_lookAt_23 : decode prog_3_method_2_code 23 = .ok (.invokestatic 29, 3) := by decide +kernel
theorem d_Fi_lookAt_26 : decode prog_3_method_2_code 26 = .ok (.putfield 23, 3) := by decide +kernel
theorem d_Fi_lookAt_29 : decode prog_3_method_2_code 29 = .ok (.iconst 0, 1) := by decide +kernel
theorem d_Fi_lookAt_30 : decode prog_3_method_2_code 30 = .ok (.istore_n 3, 1) := by decide +kernel
theorem d_Fi_lookAt_31 : decode prog_3_method_2_code 31 = .ok (.iload_n 3, 1) := by decide +kernel
theorem d_Fi_lookAt_32 : decode prog_3_method_2_code 32 = .ok (.aload_n 0, 1) := by decide +kernel
theorem d_Fi_lookAt_33 : decode prog_3_method_2_code 33 = .ok (.getfield 19, 3) := by decide +kernel
theorem d_Fi_lookAt_36 : decode prog_3_method_2_code 36 = .ok (.if_icmp .ge 21, 3) := by decide +kernel
theorem d_Fi_lookAt_39 : decode prog_3_method_2_code 39 = .ok (.aload_n 0, 1) := by decide +kernel
theorem d_Fi_lookAt_40 : decode prog_3_method_2_code 40 = .ok (.getfield 9, 3) := by decide +kernel
theorem d_Fi_lookAt_43 : decode prog_3_method_2_code 43 = .ok (.iload_n 3, 1) := by decide +kernel
theorem d_Fi_lookAt_44 : decode prog_3_method_2_code 44 = .ok (.aload_n 2, 1) := by decide +kernel
theorem d_Fi_lookAt_45 : decode prog_3_method_2_code 45 = .ok (.aload_n 1, 1) := by decide +kernel
theorem d_Fi_lookAt_46 : decode prog_3_method_2_code 46 = .ok (.iload_n 3, 1) := by decide +kernel
theorem d_Fi_lookAt_47 : decode prog_3_method_2_code 47 = .ok (.invokevirtual 42, 3) := by decide +kernel
theorem d_Fi_lookAt_50 : decode prog_3_method_2_code 50 = .ok (.iastore, 1) := by decide +kernel
theorem d_Fi_lookAt_51 : decode prog_3_method_2_code 51 = .ok (.iinc 3 1, 3) := by decide +kernel
theorem d_Fi_lookAt_54 : decode prog_3_method_2_code 54 = .ok (.goto (-23), 3) := by decide +kernel
theorem d_Fi_lookAt_57 : decode prog_3_method_2_code 57 = .ok (.return_, 1) := by decide +kernel
def Fi_lookAt_L31 (Y : Ly) (l0 : Nat) (l1 : Nat) (l2 : Nat) : Nat → Int32 → Hp → Option Hp
  | 0, _, _ => none
  | F + 1, l3, h =>
    if (hGi h 102 l0) ≤ l3 then
      some h
    else
      (En_fittingFinales Y l2 l1 l3 h).bind fun q6 =>
      if inB l3 (lnY Y (hGr h 100 l0)) = true then
        letH (hTi q6.2 (hGr h 100 l0) (Int32.toNatClampNeg l3) q6.1) fun h8 =>
        Fi_lookAt_L31 Y l0 l1 l2 F (l3 + 1) h8
      else none
theorem Fi_lookAt_L31_ok (Y : Ly) (l0 : Nat) (l1 : Nat) (l2 : Nat) (tl0 : isO Y 1 l0) (tl1 : isO Y 4 l1) (tl2 : isO Y 0 l2) : ∀ (F : Nat) (l3 : Int32) (h : Hp), AW Y 4 K_Fi_lookAt 31 [(0, .ref l0), (1, .ref l1), (2, .ref l2), (3, .int l3)] [] h (Fi_lookAt_L31 Y l0 l1 l2 F l3 h) rV := by
  intro F
  induction F with
  | zero =>
    intro l3 h
    exact aw_none
  | succ F ih =>
    intro l3 h
    unfold Fi_lookAt_L31
    refine aw_iload_n (pc := 31) d_Fi_lookAt_31 rfl 3 rfl ?_
    refine aw_aload_n (pc := 32) d_Fi_lookAt_32 rfl 0 rfl ?_
    refine gt_102 (pc := 33) d_Fi_lookAt_33 w2_11 tl0 ?_
    refine aw_icmp_ge (pc := 36) (tgt := 57) d_Fi_lookAt_36 (by decide) (fun c4 => ?_) (fun c4 => ?_)
    · exact aw_return (pc := 57) d_Fi_lookAt_57 rfl rfl
    · refine aw_aload_n (pc := 39) d_Fi_lookAt_39 rfl 0 rfl ?_
      refine gt_100 (pc := 40) d_Fi_lookAt_40 w2_9 tl0 (fun tt5 => ?_)
      refine aw_iload_n (pc := 43) d_Fi_lookAt_43 rfl 3 rfl ?_
      refine aw_aload_n (pc := 44) d_Fi_lookAt_44 rfl 2 rfl ?_
      refine aw_aload_n (pc := 45) d_Fi_lookAt_45 rfl 1 rfl ?_
      refine aw_iload_n (pc := 46) d_Fi_lookAt_46 rfl 3 rfl ?_
      refine aw_cVrI (pc := 47) (ci := 0) (T := TX0) (N := 8) (As := [.ref l1, .int l3]) (st := [.int l3, .ref (hGr h 100 l0)]) (ok_En_fittingFinales Y l2 l1 l3 h tl2 tl1) okV_En_fittingFinales rfl (by decide) tl2 w5_207 d_Fi_lookAt_47 rfl (Nat.le_of_ble_eq_true rfl) rfl (Nat.le_of_ble_eq_true rfl) (fun q6 hq6 hTq6 => ?_)
      refine aw_iastore (pc := 50) d_Fi_lookAt_50 tt5 (fun c7 => ?_)
      refine aw_letH (fun h8 => ?_)
      refine aw_iinc (pc := 51) (w := l3 + 1) (lv' := [(3, .int (l3 + 1)), (0, .ref l0), (1, .ref l1), (2, .ref l2)]) d_Fi_lookAt_51 3 rfl rfl (by decide) rfl ?_
      refine aw_goto (pc := 54) (tgt := 31) d_Fi_lookAt_54 (by decide) ?_
      exact aw_lv [1, 2, 3, 0] rfl (ih (l3 + 1) h8)
def Fi_lookAt (Y : Ly) (l0 : Nat) (l1 : Nat) (l2 : Nat) (h : Hp) : Option Hp :=
  letH (hSi h 102 l0 (if 6 < (hGi h 415 l1) then 6 else (hGi h 415 l1))) fun h1 =>
  letH (hSi h1 103 l0 (if 8 < (hGi h1 607 (hGr h1 400 l1)) then 8 else (hGi h1 607 (hGr h1 400 l1)))) fun h3 =>
  Fi_lookAt_L31 Y l0 l1 l2 FU 0 h3
theorem ok_Fi_lookAt (Y : Ly) (l0 : Nat) (l1 : Nat) (l2 : Nat) (h : Hp) (t0 : isO Y 1 l0) (t1 : isO Y 4 l1) (t2 : isO Y 0 l2) : AM Y 4 K_Fi_lookAt [.ref l0, .ref l1, .ref l2] h (Fi_lookAt Y l0 l1 l2 h) rV := by
  refine AM.of rfl (Nat.le_of_ble_eq_true rfl) ?_
  show AW Y 4 K_Fi_lookAt 0 [(0, .ref l0), (1, .ref l1), (2, .ref l2)] [] h (Fi_lookAt Y l0 l1 l2 h) rV
  unfold Fi_lookAt
  refine aw_aload_n (pc := 0) d_Fi_lookAt_0 rfl 0 rfl ?_
  refine aw_aload_n (pc := 1) d_Fi_lookAt_1 rfl 1 rfl ?_
  refine gt_415 (pc := 2) d_Fi_lookAt_2 w2_159 t1 ?_
  refine aw_bipush (pc := 5) (x := 6) d_Fi_lookAt_5 (by decide) ?_
  refine aw_mmin (pc := 7) d_Fi_lookAt_7 w5_206 w3_164 w1_15 w3_165 (Nat.le_of_ble_eq_true rfl) (Nat.le_of_ble_eq_true rfl) ?_
  refine pt_102 (pc := 10) d_Fi_lookAt_10 w2_11 t0 ?_
  refine aw_letH (fun h1 => ?_)
  refine aw_aload_n (pc := 13) d_Fi_lookAt_13 rfl 0 rfl ?_
  refine aw_aload_n (pc := 14) d_Fi_lookAt_14 rfl 1 rfl ?_
  refine gt_400 (pc := 15) d_Fi_lookAt_15 w2_126 t1 (fun tt2 => ?_)
  refine gt_607 (pc := 18) d_Fi_lookAt_18 w1_197 tt2 ?_
  refine aw_bipush (pc := 21) (x := 8) d_Fi_lookAt_21 (by decide) ?_
  refine aw_mmin (pc := 23) d_Fi_lookAt_23 w5_206 w3_164 w1_15 w3_165 (Nat.le_of_ble_eq_true rfl) (Nat.le_of_ble_eq_true rfl) ?_
  refine pt_103 (pc := 26) d_Fi_lookAt_26 w2_12 t0 ?_
  refine aw_letH (fun h3 => ?_)
  refine aw_iconst (pc := 29) (x := 0) d_Fi_lookAt_29 (by decide) ?_
  refine aw_istore_n (pc := 30) (lv' := [(3, .int 0), (0, .ref l0), (1, .ref l1), (2, .ref l2)]) d_Fi_lookAt_30 rfl (by decide) rfl ?_
  exact aw_lv [1, 2, 3, 0] rfl (Fi_lookAt_L31_ok Y l0 l1 l2 t0 t1 t2 FU 0 h3)
/-! LastPages$Fitting.mostAtOnce()I -/
theorem d_Fi_mostAtOnce_0 : decode prog_3_method_5_code 0 = .ok (.iconst 0, 1) := by decide +kernel
theorem d_Fi_mostAtOnce_1 : decode prog_3_method_5_code 1 = .ok (.istore_n 1, 1) := by decide +kernel
theorem d_Fi_mostAtOnce_2 : decode prog_3_method_5_code 2 = .ok (.iconst 1, 1) := by decide +kernel
theorem d_Fi_mostAtOnce_3 : decode prog_3_method_5_code 3 = .ok (.istore_n 2, 1) := by decide +kernel
theorem d_Fi_mostAtOnce_4 : decode prog_3_method_5_code 4 = .ok (.iload_n 2, 1) := by decide +kernel
theorem d_Fi_mostAtOnce_5 : decode prog_3_method_5_code 5 = .ok (.iconst 1, 1) := by decide +kernel
theorem d_Fi_mostAtOnce_6 : decode prog_3_method_5_code 6 = .ok (.aload_n 0, 1) := by decide +kernel
theorem d_Fi_mostAtOnce_7 : decode prog_3_method_5_code 7 = .ok (.getfield 19, 3) := by decide +kernel
theorem d_Fi_mostAtOnce_10 : decode prog_3_method_5_code 10 = .ok (.ishl, 1) := by decide +kernel
theorem d_Fi_mostAtOnce_11 : decode prog_3_method_5_code 11 = .ok (.if_icmp .ge 19, 3) := by decide +kernel
theorem d_Fi_mostAtOnce_14 : decode prog_3_method_5_code 14 = .ok (.iload_n 1, 1) := by decide +kernel
theorem d_Fi_mostAtOnce_15 : decode prog_3_method_5_code 15 = .ok (.aload_n 0, 1) := by decide +kernel
theorem d_Fi_mostAtOnce_16 : decode prog_3_method_5_code 16 = .ok (.iload_n 2, 1) := by decide +kernel
theorem d_Fi_mostAtOnce_17 : decode prog_3_method_5_code 17 = .ok (.invokevirtual 58, 3) := by decide +kernel
theorem d_Fi_mostAtOnce_20 : decode prog_3_method_5_code 20 = .ok (.invokestatic 61, 3) := by decide +kernel
theorem d_Fi_mostAtOnce_23 : decode prog_3_method_5_code 23 = .ok (.istore_n 1, 1) := by decide +kernel
theorem d_Fi_mostAtOnce_24 : decode prog_3_method_5_code 24 = .ok (.iinc 2 1, 3) := by decide +kernel
theorem d_Fi_mostAtOnce_27 : decode prog_3_method_5_code 27 = .ok (.goto (-23), 3) := by decide +kernel
theorem d_Fi_mostAtOnce_30 : decode prog_3_method_5_code 30 = .ok (.aload_n 0, 1) := by decide +kernel
theorem d_Fi_mostAtOnce_31 : decode prog_3_method_5_code 31 = .ok (.getfield 19, 3) := by decide +kernel
theorem d_Fi_mostAtOnce_34 : decode prog_3_method_5_code 34 = .ok (.iload_n 1, 1) := by decide +kernel
theorem d_Fi_mostAtOnce_35 : decode prog_3_method_5_code 35 = .ok (.isub, 1) := by decide +kernel
theorem d_Fi_mostAtOnce_36 : decode prog_3_method_5_code 36 = .ok (.ireturn, 1) := by decide +kernel
def Fi_mostAtOnce_L4 (Y : Ly) (l0 : Nat) (h : Hp) : Nat → Int32 → Int32 → Option Int32
  | 0, _, _ => none
  | F + 1, l1, l2 =>
    if ((1 : Int32) <<< ((hGi h 102 l0) &&& 31)) ≤ l2 then
      some ((hGi h 102 l0) - l1)
    else
      (Fi_tooMany Y l0 l2 h).bind fun q2 =>
      Fi_mostAtOnce_L4 Y l0 h F (if l1 < q2 then q2 else l1) (l2 + 1)
theorem Fi_mostAtOnce_L4_ok (Y : Ly) (l0 : Nat) (h : Hp) (tl0 : isO Y 1 l0) : ∀ (F : Nat) (l1 : Int32) (l2 : Int32), AW Y 2 K_Fi_mostAtOnce 4 [(0, .ref l0), (1, .int l1), (2, .int l2)] [] h (Fi_mostAtOnce_L4 Y l0 h F l1 l2) (pI h) := by
  intro F
  induction F with
  | zero =>
    intro l1 l2
    exact aw_none
  | succ F ih =>
    intro l1 l2
    unfold Fi_mostAtOnce_L4
    refine aw_iload_n (pc := 4) d_Fi_mostAtOnce_4 rfl 2 rfl ?_
    refine aw_iconst (pc := 5) (x := 1) d_Fi_mostAtOnce_5 (by decide) ?_
    refine aw_aload_n (pc := 6) d_Fi_mostAtOnce_6 rfl 0 rfl ?_
    refine gt_102 (pc := 7) d_Fi_mostAtOnce_7 w2_11 tl0 ?_
    refine aw_ishl (pc := 10) d_Fi_mostAtOnce_10 ?_
    refine aw_icmp_ge (pc := 11) (tgt := 30) d_Fi_mostAtOnce_11 (by decide) (fun c1 => ?_) (fun c1 => ?_)
    · refine aw_aload_n (pc := 30) d_Fi_mostAtOnce_30 rfl 0 rfl ?_
      refine gt_102 (pc := 31) d_Fi_mostAtOnce_31 w2_11 tl0 ?_
      refine aw_iload_n (pc := 34) d_Fi_mostAtOnce_34 rfl 1 rfl ?_
      refine aw_isub (pc := 35) d_Fi_mostAtOnce_35 ?_
      exact aw_ireturn (pc := 36) d_Fi_mostAtOnce_36 rfl rfl
    · refine aw_iload_n (pc := 14) d_Fi_mostAtOnce_14 rfl 1 rfl ?_
      refine aw_aload_n (pc := 15) d_Fi_mostAtOnce_15 rfl 0 rfl ?_
      refine aw_iload_n (pc := 16) d_Fi_mostAtOnce_16 rfl 2 rfl ?_
      refine aw_cVpI (pc := 17) (ci := 1) (T := TX1) (N := 4) (As := [.int l2]) (st := [.int l1]) (ok_Fi_tooMany Y l0 l2 h tl0) okV_Fi_tooMany rfl (by decide) tl0 w5_231 d_Fi_mostAtOnce_17 rfl (Nat.le_of_ble_eq_true rfl) rfl (Nat.le_of_ble_eq_true rfl) (fun q2 hq2 hTq2 => ?_)
      refine aw_mmax (pc := 20) d_Fi_mostAtOnce_20 w6_1 w2_66 w1_15 w2_67 (Nat.le_of_ble_eq_true rfl) (Nat.le_of_ble_eq_true rfl) ?_
      refine aw_istore_n (pc := 23) (lv' := [(1, .int (if l1 < q2 then q2 else l1)), (0, .ref l0), (2, .int l2)]) d_Fi_mostAtOnce_23 rfl (by decide) rfl ?_
      refine aw_iinc (pc := 24) (w := l2 + 1) (lv' := [(2, .int (l2 + 1)), (1, .int (if l1 < q2 then q2 else l1)), (0, .ref l0)]) d_Fi_mostAtOnce_24 2 rfl rfl (by decide) rfl ?_
      refine aw_goto (pc := 27) (tgt := 4) d_Fi_mostAtOnce_27 (by decide) ?_
      exact aw_lv [2, 1, 0] rfl (ih (if l1 < q2 then q2 else l1) (l2 + 1))
def Fi_mostAtOnce (Y : Ly) (l0 : Nat) (h : Hp) : Option Int32 :=
  Fi_mostAtOnce_L4 Y l0 h FU 0 1
theorem ok_Fi_mostAtOnce (Y : Ly) (l0 : Nat) (h : Hp) (t0 : isO Y 1 l0) : AM Y 2 K_Fi_mostAtOnce [.ref l0] h (Fi_mostAtOnce Y l0 h) (pI h) := by
  refine AM.of rfl (Nat.le_of_ble_eq_true rfl) ?_
  show AW Y 2 K_Fi_mostAtOnce 0 [(0, .ref l0)] [] h (Fi_mostAtOnce Y l0 h) (pI h)
  unfold Fi_mostAtOnce
  refine aw_iconst (pc := 0) (x := 0) d_Fi_mostAtOnce_0 (by decide) ?_
  refine aw_istore_n (pc := 1) (lv' := [(1, .int 0), (0, .ref l0)]) d_Fi_mostAtOnce_1 rfl (by decide) rfl ?_
  refine aw_iconst (pc := 2) (x := 1) d_Fi_mostAtOnce_2 (by decide) ?_
  refine aw_istore_n (pc := 3) (lv' := [(2, .int 1), (1, .int 0), (0, .ref l0)]) d_Fi_mostAtOnce_3 rfl (by decide) rfl ?_
  exact aw_lv [2, 1, 0] rfl (Fi_mostAtOnce_L4_ok Y l0 h t0 FU 0 1)
/-! java/lang/Integer.numberOfTrailingZeros(I)I -/
theorem d_J_ntz_0 : decode prog_15_method_48_code 0 = .ok (.iload_n 0, 1) := by decide +kernel
theorem d_J_ntz_1 : decode prog_15_method_48_code 1 = .ok (.iconst (-1), 1) := by decide +kernel
theorem d_J_ntz_2 : decode prog_15_method_48_code 2 = .ok (.ixor, 1) := by decide +kernel
theorem d_J_ntz_3 : decode prog_15_method_48_code 3 = .ok (.iload_n 0, 1) := by decide +kernel
theorem d_J_ntz_4 : decode prog_15_method_48_code 4 = .ok (.iconst 1, 1) := by decide +kernel
theorem d_J_ntz_5 : decode prog_15_method_48_code 5 = .ok (.isub, 1) := by decide +kernel
theorem d_J_ntz_6 : decode prog_15_method_48_code 6 = .ok (.iand, 1) := by decide +kernel
theorem d_J_ntz_7 : decode prog_15_method_48_code 7 = .ok (.istore_n 0, 1) := by decide +kernel
theorem d_J_ntz_8 : decode prog_15_method_48_code 8 = .ok (.iload_n 0, 1) := by decide +kernel
theorem d_J_ntz_9 : decode prog_15_method_48_code 9 = .ok (.ifCond .gt 8, 3) := by decide +kernel
theorem d_J_ntz_12 : decode prog_15_method_48_code 12 = .ok (.iload_n 0, 1) := by decide +kernel
theorem d_J_ntz_13 : decode prog_15_method_48_code 13 = .ok (.bipush 32, 2) := by decide +kernel
theorem d_J_ntz_15 : decode prog_15_method_48_code 15 = .ok (.iand, 1) := by decide +kernel
theorem d_J_ntz_16 : decode prog_15_method_48_code 16 = .ok (.ireturn, 1) := by decide +kernel
theorem d_J_ntz_17 : decode prog_15_method_48_code 17 = .ok (.iconst 1, 1) := by decide +kernel
theorem d_J_ntz_18 : decode prog_15_method_48_code 18 = .ok (.istore_n 1, 1) := by decide +kernel
theorem d_J_ntz_19 : decode prog_15_method_48_code 19 = .ok (.iload_n 0, 1) := by decide +kernel
theorem d_J_ntz_20 : decode prog_15_method_48_code 20 = .ok (.ldc_w 264, 3) := by decide +kernel
theorem d_J_ntz_23 : decode prog_15_method_48_code 23 = .ok (.if_icmp .le 11, 3) := by decide +kernel
theorem d_J_ntz_26 : decode prog_15_method_48_code 26 = .ok (.iinc 1 16, 3) := by decide +kernel
theorem d_J_ntz_29 : decode prog_15_method_48_code 29 = .ok (.iload_n 0, 1) := by decide +kernel
theorem d_J_ntz_30 : decode prog_15_method_48_code 30 = .ok (.bipush 16, 2) := by decide +kernel
theorem d_J_ntz_32 : decode prog_15_method_48_code 32 = .ok (.iushr, 1) := by decide +kernel
theorem d_J_ntz_33 : decode prog_15_method_48_code 33 = .ok (.istore_n 0, 1) := by decide +kernel
theorem d_J_ntz_34 : decode prog_15_method_48_code 34 = .ok (.iload_n 0, 1) := by decide +kernel
theorem d_J_ntz_35 : decode prog_15_method_48_code 35 = .ok (.sipush 256, 3) := by decide +kernel
theorem d_J_ntz_38 : decode prog_15_method_48_code 38 = .ok (.if_icmp .le 11, 3) := by decide +kernel
theorem d_J_ntz_41 : decode prog_15_method_48_code 41 = .ok (.iinc 1 8, 3) := by decide +kernel
theorem d_J_ntz_44 : decode prog_15_method_48_code 44 = .ok (.iload_n 0, 1) := by decide +kernel
theorem d_J_ntz_45 : decode prog_15_method_48_code 45 = .ok (.bipush 8, 2) := by decide +kernel
theorem d_J_ntz_47 : decode prog_15_method_48_code 47 = .ok (.iushr, 1) := by decide +kernel
theorem d_J_ntz_48 : decode prog_15_method_48_code 48 = .ok (.istore_n 0, 1) := by decide +kernel
theorem d_J_ntz_49 : decode prog_15_method_48_code 49 = .ok (.iload_n 0, 1) := by decide +kernel
theorem d_J_ntz_50 : decode prog_15_method_48_code 50 = .ok (.bipush 16, 2) := by decide +kernel
theorem d_J_ntz_52 : decode prog_15_method_48_code 52 = .ok (.if_icmp .le 10, 3) := by decide +kernel
theorem d_J_ntz_55 : decode prog_15_method_48_code 55 = .ok (.iinc 1 4, 3) := by decide +kernel
theorem d_J_ntz_58 : decode prog_15_method_48_code 58 = .ok (.iload_n 0, 1) := by decide +kernel
theorem d_J_ntz_59 : decode prog_15_method_48_code 59 = .ok (.iconst 4, 1) := by decide +kernel
theorem d_J_ntz_60 : decode prog_15_method_48_code 60 = .ok (.iushr, 1) := by decide +kernel
theorem d_J_ntz_61 : decode prog_15_method_48_code 61 = .ok (.istore_n 0, 1) := by decide +kernel
theorem d_J_ntz_62 : decode prog_15_method_48_code 62 = .ok (.iload_n 0, 1) := by decide +kernel
theorem d_J_ntz_63 : decode prog_15_method_48_code 63 = .ok (.iconst 4, 1) := by decide +kernel
theorem d_J_ntz_64 : decode prog_15_method_48_code 64 = .ok (.if_icmp .le 10, 3) := by decide +kernel
theorem d_J_ntz_67 : decode prog_15_method_48_code 67 = .ok (.iinc 1 2, 3) := by decide +kernel
theorem d_J_ntz_70 : decode prog_15_method_48_code 70 = .ok (.iload_n 0, 1) := by decide +kernel
theorem d_J_ntz_71 : decode prog_15_method_48_code 71 = .ok (.iconst 2, 1) := by decide +kernel
theorem d_J_ntz_72 : decode prog_15_method_48_code 72 = .ok (.iushr, 1) := by decide +kernel
theorem d_J_ntz_73 : decode prog_15_method_48_code 73 = .ok (.istore_n 0, 1) := by decide +kernel
theorem d_J_ntz_74 : decode prog_15_method_48_code 74 = .ok (.iload_n 1, 1) := by decide +kernel
theorem d_J_ntz_75 : decode prog_15_method_48_code 75 = .ok (.iload_n 0, 1) := by decide +kernel
theorem d_J_ntz_76 : decode prog_15_method_48_code 76 = .ok (.iconst 1, 1) := by decide +kernel
theorem d_J_ntz_77 : decode prog_15_method_48_code 77 = .ok (.iushr, 1) := by decide +kernel
theorem d_J_ntz_78 : decode prog_15_method_48_code 78 = .ok (.iadd, 1) := by decide +kernel
theorem d_J_ntz_79 : decode prog_15_method_48_code 79 = .ok (.ireturn, 1) := by decide +kernel
def J_ntz_J62 (Y : Ly) (l0 : Int32) (l1 : Int32) (h : Hp) : Option Int32 :=
  if l0 ≤ 4 then
    some (l1 + ((Int32.toUInt32 l0 >>> (Int32.toUInt32 1 &&& Int32.toUInt32 31)).toInt32))
  else
    some ((l1 + 2) + ((Int32.toUInt32 ((Int32.toUInt32 l0 >>> (Int32.toUInt32 2 &&& Int32.toUInt32 31)).toInt32) >>> (Int32.toUInt32 1 &&& Int32.toUInt32 31)).toInt32))
theorem J_ntz_J62_ok (Y : Ly) (l0 : Int32) (l1 : Int32) (h : Hp) : AW Y 0 K_J_ntz 62 [(0, .int l0), (1, .int l1)] [] h (J_ntz_J62 Y l0 l1 h) (pI h) := by
  unfold J_ntz_J62
  refine aw_iload_n (pc := 62) d_J_ntz_62 rfl 0 rfl ?_
  refine aw_iconst (pc := 63) (x := 4) d_J_ntz_63 (by decide) ?_
  refine aw_icmp_le (pc := 64) (tgt := 74) d_J_ntz_64 (by decide) (fun c5 => ?_) (fun c5 => ?_)
  · refine aw_iload_n (pc := 74) d_J_ntz_74 rfl 1 rfl ?_
    refine aw_iload_n (pc := 75) d_J_ntz_75 rfl 0 rfl ?_
    refine aw_iconst (pc := 76) (x := 1) d_J_ntz_76 (by decide) ?_
    refine aw_iushr (pc := 77) d_J_ntz_77 ?_
    refine aw_iadd (pc := 78) d_J_ntz_78 ?_
    exact aw_ireturn (pc := 79) d_J_ntz_79 rfl rfl
  · refine aw_iinc (pc := 67) (w := l1 + 2) (lv' := [(1, .int (l1 + 2)), (0, .int l0)]) d_J_ntz_67 1 rfl rfl (by decide) rfl ?_
    refine aw_iload_n (pc := 70) d_J_ntz_70 rfl 1 rfl ?_
    refine aw_iconst (pc := 71) (x := 2) d_J_ntz_71 (by decide) ?_
    refine aw_iushr (pc := 72) d_J_ntz_72 ?_
    refine aw_istore_n (pc := 73) (lv' := [(0, .int ((Int32.toUInt32 l0 >>> (Int32.toUInt32 2 &&& Int32.toUInt32 31)).toInt32)), (1, .int (l1 + 2))]) d_J_ntz_73 rfl (by decide) rfl ?_
    refine aw_iload_n (pc := 74) d_J_ntz_74 rfl 1 rfl ?_
    refine aw_iload_n (pc := 75) d_J_ntz_75 rfl 0 rfl ?_
    refine aw_iconst (pc := 76) (x := 1) d_J_ntz_76 (by decide) ?_
    refine aw_iushr (pc := 77) d_J_ntz_77 ?_
    refine aw_iadd (pc := 78) d_J_ntz_78 ?_
    exact aw_ireturn (pc := 79) d_J_ntz_79 rfl rfl
def J_ntz_J49 (Y : Ly) (l0 : Int32) (l1 : Int32) (h : Hp) : Option Int32 :=
  if l0 ≤ 16 then
    J_ntz_J62 Y l0 l1 h
  else
    J_ntz_J62 Y ((Int32.toUInt32 l0 >>> (Int32.toUInt32 4 &&& Int32.toUInt32 31)).toInt32) (l1 + 4) h
theorem J_ntz_J49_ok (Y : Ly) (l0 : Int32) (l1 : Int32) (h : Hp) : AW Y 0 K_J_ntz 49 [(0, .int l0), (1, .int l1)] [] h (J_ntz_J49 Y l0 l1 h) (pI h) := by
  unfold J_ntz_J49
  refine aw_iload_n (pc := 49) d_J_ntz_49 rfl 0 rfl ?_
  refine aw_bipush (pc := 50) (x := 16) d_J_ntz_50 (by decide) ?_
  refine aw_icmp_le (pc := 52) (tgt := 62) d_J_ntz_52 (by decide) (fun c4 => ?_) (fun c4 => ?_)
  · exact aw_lv [0, 1] rfl (J_ntz_J62_ok Y l0 l1 h)
  · refine aw_iinc (pc := 55) (w := l1 + 4) (lv' := [(1, .int (l1 + 4)), (0, .int l0)]) d_J_ntz_55 1 rfl rfl (by decide) rfl ?_
    refine aw_iload_n (pc := 58) d_J_ntz_58 rfl 1 rfl ?_
    refine aw_iconst (pc := 59) (x := 4) d_J_ntz_59 (by decide) ?_
    refine aw_iushr (pc := 60) d_J_ntz_60 ?_
    refine aw_istore_n (pc := 61) (lv' := [(0, .int ((Int32.toUInt32 l0 >>> (Int32.toUInt32 4 &&& Int32.toUInt32 31)).toInt32)), (1, .int (l1 + 4))]) d_J_ntz_61 rfl (by decide) rfl ?_
    exact aw_lv [0, 1] rfl (J_ntz_J62_ok Y ((Int32.toUInt32 l0 >>> (Int32.toUInt32 4 &&& Int32.toUInt32 31)).toInt32) (l1 + 4) h)
def J_ntz_J34 (Y : Ly) (l0 : Int32) (l1 : Int32) (h : Hp) : Option Int32 :=
  if l0 ≤ 256 then
    J_ntz_J49 Y l0 l1 h
  else
    J_ntz_J49 Y ((Int32.toUInt32 l0 >>> (Int32.toUInt32 8 &&& Int32.toUInt32 31)).toInt32) (l1 + 8) h
theorem J_ntz_J34_ok (Y : Ly) (l0 : Int32) (l1 : Int32) (h : Hp) : AW Y 0 K_J_ntz 34 [(0, .int l0), (1, .int l1)] [] h (J_ntz_J34 Y l0 l1 h) (pI h) := by
  unfold J_ntz_J34
  refine aw_iload_n (pc := 34) d_J_ntz_34 rfl 0 rfl ?_
  refine aw_sipush (pc := 35) (x := 256) d_J_ntz_35 (by decide) ?_
  refine aw_icmp_le (pc := 38) (tgt := 49) d_J_ntz_38 (by decide) (fun c3 => ?_) (fun c3 => ?_)
  · exact aw_lv [0, 1] rfl (J_ntz_J49_ok Y l0 l1 h)
  · refine aw_iinc (pc := 41) (w := l1 + 8) (lv' := [(1, .int (l1 + 8)), (0, .int l0)]) d_J_ntz_41 1 rfl rfl (by decide) rfl ?_
    refine aw_iload_n (pc := 44) d_J_ntz_44 rfl 1 rfl ?_
    refine aw_bipush (pc := 45) (x := 8) d_J_ntz_45 (by decide) ?_
    refine aw_iushr (pc := 47) d_J_ntz_47 ?_
    refine aw_istore_n (pc := 48) (lv' := [(0, .int ((Int32.toUInt32 l0 >>> (Int32.toUInt32 8 &&& Int32.toUInt32 31)).toInt32)), (1, .int (l1 + 8))]) d_J_ntz_48 rfl (by decide) rfl ?_
    exact aw_lv [0, 1] rfl (J_ntz_J49_ok Y ((Int32.toUInt32 l0 >>> (Int32.toUInt32 8 &&& Int32.toUInt32 31)).toInt32) (l1 + 8) h)
def J_ntz (Y : Ly) (l0 : Int32) (h : Hp) : Option Int32 :=
  if 0 < ((l0 ^^^ (-1)) &&& (l0 - 1)) then
    if ((l0 ^^^ (-1)) &&& (l0 - 1)) ≤ 65536 then
      J_ntz_J34 Y ((l0 ^^^ (-1)) &&& (l0 - 1)) 1 h
    else
      J_ntz_J34 Y ((Int32.toUInt32 ((l0 ^^^ (-1)) &&& (l0 - 1)) >>> (Int32.toUInt32 16 &&& Int32.toUInt32 31)).toInt32) (1 + 16) h
  else
    some (((l0 ^^^ (-1)) &&& (l0 - 1)) &&& 32)
theorem ok_J_ntz (Y : Ly) (l0 : Int32) (h : Hp) : AM Y 0 K_J_ntz [.int l0] h (J_ntz Y l0 h) (pI h) := by
  refine AM.of rfl (Nat.le_of_ble_eq_true rfl) ?_
  show AW Y 0 K_J_ntz 0 [(0, .int l0)] [] h (J_ntz Y l0 h) (pI h)
  unfold J_ntz
  refine aw_iload_n (pc := 0) d_J_ntz_0 rfl 0 rfl ?_
  refine aw_iconst (pc := 1) (x := (-1)) d_J_ntz_1 (by decide) ?_
  refine aw_ixor (pc := 2) d_J_ntz_2 ?_
  refine aw_iload_n (pc := 3) d_J_ntz_3 rfl 0 rfl ?_
  refine aw_iconst (pc := 4) (x := 1) d_J_ntz_4 (by decide) ?_
  refine aw_isub (pc := 5) d_J_ntz_5 ?_
  refine aw_iand (pc := 6) d_J_ntz_6 ?_
  refine aw_istore_n (pc := 7) (lv' := [(0, .int ((l0 ^^^ (-1)) &&& (l0 - 1)))]) d_J_ntz_7 rfl (by decide) rfl ?_
  refine aw_iload_n (pc := 8) d_J_ntz_8 rfl 0 rfl ?_
  refine aw_if_gt (pc := 9) (tgt := 17) d_J_ntz_9 (by decide) (fun c1 => ?_) (fun c1 => ?_)
  · refine aw_iconst (pc := 17) (x := 1) d_J_ntz_17 (by decide) ?_
    refine aw_istore_n (pc := 18) (lv' := [(1, .int 1), (0, .int ((l0 ^^^ (-1)) &&& (l0 - 1)))]) d_J_ntz_18 rfl (by decide) rfl ?_
    refine aw_iload_n (pc := 19) d_J_ntz_19 rfl 1 rfl ?_
    refine aw_ldcw (pc := 20) d_J_ntz_20 w6_201 ?_
    refine aw_icmp_le (pc := 23) (tgt := 34) d_J_ntz_23 (by decide) (fun c2 => ?_) (fun c2 => ?_)
    · exact aw_lv [1, 0] rfl (J_ntz_J34_ok Y ((l0 ^^^ (-1)) &&& (l0 - 1)) 1 h)
    · refine aw_iinc (pc := 26) (w := 1 + 16) (lv' := [(1, .int (1 + 16)), (0, .int ((l0 ^^^ (-1)) &&& (l0 - 1)))]) d_J_ntz_26 0 rfl rfl (by decide) rfl ?_
      refine aw_iload_n (pc := 29) d_J_ntz_29 rfl 1 rfl ?_
      refine aw_bipush (pc := 30) (x := 16) d_J_ntz_30 (by decide) ?_
      refine aw_iushr (pc := 32) d_J_ntz_32 ?_
      refine aw_istore_n (pc := 33) (lv' := [(0, .int ((Int32.toUInt32 ((l0 ^^^ (-1)) &&& (l0 - 1)) >>> (Int32.toUInt32 16 &&& Int32.toUInt32 31)).toInt32)), (1, .int (1 + 16))]) d_J_ntz_33 rfl (by decide) rfl ?_
      exact aw_lv [0, 1] rfl (J_ntz_J34_ok Y ((Int32.toUInt32 ((l0 ^^^ (-1)) &&& (l0 - 1)) >>> (Int32.toUInt32 16 &&& Int32.toUInt32 31)).toInt32) (1 + 16) h)
  · refine aw_iload_n (pc := 12) d_J_ntz_12 rfl 0 rfl ?_
    refine aw_bipush (pc := 13) (x := 32) d_J_ntz_13 (by decide) ?_
    refine aw_iand (pc := 15) d_J_ntz_15 ?_
    exact aw_ireturn (pc := 16) d_J_ntz_16 rfl rfl
/-! LastPages.agree()Z -/
theorem d_LP_agree_0 : decode prog_1_method_65_code 0 = .ok (.aload_n 0, 1) := by decide +kernel
theorem d_LP_agree_1 : decode prog_1_method_65_code 1 = .ok (.iconst 0, 1) := by decide +kernel
theorem d_LP_agree_2 : decode prog_1_method_65_code 2 = .ok (.putfield 82, 3) := by decide +kernel
theorem d_LP_agree_5 : decode prog_1_method_65_code 5 = .ok (.iconst 1, 1) := by decide +kernel
theorem d_LP_agree_6 : decode prog_1_method_65_code 6 = .ok (.ireturn, 1) := by decide +kernel
def LP_agree (Y : Ly) (l0 : Nat) (h : Hp) : Option (Bool × Hp) :=
  letH (hSi h 1112 l0 0) fun h1 =>
  some (true, h1)
theorem ok_LP_agree (Y : Ly) (l0 : Nat) (h : Hp) (t0 : isO Y 11 l0) : AM Y 0 K_LP_agree [.ref l0] h (LP_agree Y l0 h) rZ := by
  refine AM.of rfl (Nat.le_of_ble_eq_true rfl) ?_
  show AW Y 0 K_LP_agree 0 [(0, .ref l0)] [] h (LP_agree Y l0 h) rZ
  unfold LP_agree
  refine aw_aload_n (pc := 0) d_LP_agree_0 rfl 0 rfl ?_
  refine aw_iconst (pc := 1) (x := 0) d_LP_agree_1 (by decide) ?_
  refine pt_1112 (pc := 2) d_LP_agree_2 w3_12 t0 ?_
  refine aw_letH (fun h1 => ?_)
  refine aw_iconst (pc := 5) (x := 1) d_LP_agree_5 (by decide) ?_
  exact aw_zreturn (pc := 6) (b := true) d_LP_agree_6 rfl rfl
/-! LastPages.fail(I)I -/
theorem d_LP_fail_0 : decode prog_1_method_62_code 0 = .ok (.aload_n 0, 1) := by decide +kernel
theorem d_LP_fail_1 : decode prog_1_method_62_code 1 = .ok (.iload_n 1, 1) := by decide +kernel
theorem d_LP_fail_2 : decode prog_1_method_62_code 2 = .ok (.putfield 82, 3) := by decide +kernel
theorem d_LP_fail_5 : decode prog_1_method_62_code 5 = .ok (.iconst (-1), 1) := by decide +kernel
theorem d_LP_fail_6 : decode prog_1_method_62_code 6 = .ok (.ireturn, 1) := by decide +kernel
def LP_fail (Y : Ly) (l0 : Nat) (l1 : Int32) (h : Hp) : Option (Int32 × Hp) :=
  letH (hSi h 1112 l0 l1) fun h1 =>
  some ((-1), h1)
theorem ok_LP_fail (Y : Ly) (l0 : Nat) (l1 : Int32) (h : Hp) (t0 : isO Y 11 l0) : AM Y 0 K_LP_fail [.ref l0, .int l1] h (LP_fail Y l0 l1 h) rI := by
  refine AM.of rfl (Nat.le_of_ble_eq_true rfl) ?_
  show AW Y 0 K_LP_fail 0 [(0, .ref l0), (1, .int l1)] [] h (LP_fail Y l0 l1 h) rI
  unfold LP_fail
  refine aw_aload_n (pc := 0) d_LP_fail_0 rfl 0 rfl ?_
  refine aw_iload_n (pc := 1) d_LP_fail_1 rfl 1 rfl ?_
  refine pt_1112 (pc := 2) d_LP_fail_2 w3_12 t0 ?_
  refine aw_letH (fun h1 => ?_)
  refine aw_iconst (pc := 5) (x := (-1)) d_LP_fail_5 (by decide) ?_
  exact aw_ireturn (pc := 6) d_LP_fail_6 rfl rfl
/-! LastPages.give(I)I -/
theorem d_LP_give_0 : decode prog_1_method_61_code 0 = .ok (.aload_n 0, 1) := by decide +kernel
theorem d_LP_give_1 : decode prog_1_method_61_code 1 = .ok (.iconst 0, 1) := by decide +kernel
theorem d_LP_give_2 : decode prog_1_method_61_code 2 = .ok (.putfield 82, 3) := by decide +kernel
theorem d_LP_give_5 : decode prog_1_method_61_code 5 = .ok (.iload_n 1, 1) := by decide +kernel
theorem d_LP_give_6 : decode prog_1_method_61_code 6 = .ok (.ireturn, 1) := by decide +kernel
def LP_give (Y : Ly) (l0 : Nat) (l1 : Int32) (h : Hp) : Option (Int32 × Hp) :=
  letH (hSi h 1112 l0 0) fun h1 =>
  some (l1, h1)
theorem ok_LP_give (Y : Ly) (l0 : Nat) (l1 : Int32) (h : Hp) (t0 : isO Y 11 l0) : AM Y 0 K_LP_give [.ref l0, .int l1] h (LP_give Y l0 l1 h) rI := by
  refine AM.of rfl (Nat.le_of_ble_eq_true rfl) ?_
  show AW Y 0 K_LP_give 0 [(0, .ref l0), (1, .int l1)] [] h (LP_give Y l0 l1 h) rI
  unfold LP_give
  refine aw_aload_n (pc := 0) d_LP_give_0 rfl 0 rfl ?_
  refine aw_iconst (pc := 1) (x := 0) d_LP_give_1 (by decide) ?_
  refine pt_1112 (pc := 2) d_LP_give_2 w3_12 t0 ?_
  refine aw_letH (fun h1 => ?_)
  refine aw_iload_n (pc := 5) d_LP_give_5 rfl 1 rfl ?_
  exact aw_ireturn (pc := 6) d_LP_give_6 rfl rfl
/-! LastPages.markAt(I)LLastPages$Shelf; -/
theorem d_LP_markAt_0 : decode prog_1_method_68_code 0 = .ok (.iload_n 1, 1) := by decide +kernel
theorem d_LP_markAt_1 : decode prog_1_method_68_code 1 = .ok (.ifCond .lt 8, 3) := by decide +kernel
theorem d_LP_markAt_4 : decode prog_1_method_68_code 4 = .ok (.iload_n 1, 1) := by decide +kernel
theorem d_LP_markAt_5 : decode prog_1_method_68_code 5 = .ok (.iconst 3, 1) := by decide +kernel
theorem d_LP_markAt_6 : decode prog_1_method_68_code 6 = .ok (.if_icmp .lt 7, 3) := by decide +kernel
theorem d_LP_markAt_9 : decode prog_1_method_68_code 9 = .ok (.aconst_null, 1) := by decide +kernel
theorem d_LP_markAt_10 : decode prog_1_method_68_code 10 = .ok (.goto 9, 3) := by decide +kernel
theorem d_LP_markAt_13 : decode prog_1_method_68_code 13 = .ok (.aload_n 0, 1) := by decide +kernel
theorem d_LP_markAt_14 : decode prog_1_method_68_code 14 = .ok (.getfield 38, 3) := by decide +kernel
theorem d_LP_markAt_17 : decode prog_1_method_68_code 17 = .ok (.iload_n 1, 1) := by decide +kernel
theorem d_LP_markAt_18 : decode prog_1_method_68_code 18 = .ok (.aaload, 1) := by decide +kernel
theorem d_LP_markAt_19 : decode prog_1_method_68_code 19 = .ok (.areturn, 1) := by decide +kernel
def LP_markAt (Y : Ly) (l0 : Nat) (l1 : Int32) (h : Hp) : Option (Option Nat) :=
  if l1 < 0 then
    some none
  else
    if l1 < 3 then
      if inB l1 (lnY Y (hGr h 1104 l0)) = true then
        some (some (hAr h (hGr h 1104 l0) (Int32.toNatClampNeg l1)))
      else none
    else
      some none
theorem ok_LP_markAt (Y : Ly) (l0 : Nat) (l1 : Int32) (h : Hp) (t0 : isO Y 11 l0) : AM Y 0 K_LP_markAt [.ref l0, .int l1] h (LP_markAt Y l0 l1 h) (pQ h) := by
  refine AM.of rfl (Nat.le_of_ble_eq_true rfl) ?_
  show AW Y 0 K_LP_markAt 0 [(0, .ref l0), (1, .int l1)] [] h (LP_markAt Y l0 l1 h) (pQ h)
  unfold LP_markAt
  refine aw_iload_n (pc := 0) d_LP_markAt_0 rfl 1 rfl ?_
  refine aw_if_lt (pc := 1) (tgt := 9) d_LP_markAt_1 (by decide) (fun c1 => ?_) (fun c1 => ?_)
  · refine aw_null (pc := 9) d_LP_markAt_9 ?_
    refine aw_goto (pc := 10) (tgt := 19) d_LP_markAt_10 (by decide) ?_
    exact aw_areturn (pc := 19) (v0 := none) d_LP_markAt_19 rfl rfl
  · refine aw_iload_n (pc := 4) d_LP_markAt_4 rfl 1 rfl ?_
    refine aw_iconst (pc := 5) (x := 3) d_LP_markAt_5 (by decide) ?_
    refine aw_icmp_lt (pc := 6) (tgt := 13) d_LP_markAt_6 (by decide) (fun c2 => ?_) (fun c2 => ?_)
    · refine aw_aload_n (pc := 13) d_LP_markAt_13 rfl 0 rfl ?_
      refine gt_1104 (pc := 14) d_LP_markAt_14 w3_4 t0 (fun tt3 => ?_)
      refine aw_iload_n (pc := 17) d_LP_markAt_17 rfl 1 rfl ?_
      refine aw_aaload23 (pc := 18) d_LP_markAt_18 tt3 (fun tt4 => ?_)
      exact aw_areturn (pc := 19) (v0 := (some (hAr h (hGr h 1104 l0) (Int32.toNatClampNeg l1)))) d_LP_markAt_19 rfl rfl
    · refine aw_null (pc := 9) d_LP_markAt_9 ?_
      refine aw_goto (pc := 10) (tgt := 19) d_LP_markAt_10 (by decide) ?_
      exact aw_areturn (pc := 19) (v0 := none) d_LP_markAt_19 rfl rfl
theorem ty_LP_markAt {Y : Ly} {l0 : Nat} {l1 : Int32} {h : Hp} {x : Option Nat} (t0 : isO Y 11 l0) (hT : Ty Y h) (hx : LP_markAt Y l0 l1 h = some x) : ∀ a, x = some a → isO Y 4 a := by
  intro a ha
  unfold LP_markAt at hx
  repeat' split at hx
  all_goals first | (cases hx; cases ha; done) | (cases hx; cases ha; exact hT.2.2.1 _ (hT.1 1104 23 rfl _ t0) _ (inB_lt (by assumption))) | (cases hx; done)
/-! LastPages.back()I -/
theorem d_LP_back_0 : decode prog_1_method_60_code 0 = .ok (.aload_n 0, 1) := by decide +kernel
theorem d_LP_back_1 : decode prog_1_method_60_code 1 = .ok (.aload_n 0, 1) := by decide +kernel
theorem d_LP_back_2 : decode prog_1_method_60_code 2 = .ok (.getfield 99, 3) := by decide +kernel
theorem d_LP_back_5 : decode prog_1_method_60_code 5 = .ok (.iconst 1, 1) := by decide +kernel
theorem d_LP_back_6 : decode prog_1_method_60_code 6 = .ok (.isub, 1) := by decide +kernel
theorem d_LP_back_7 : decode prog_1_method_60_code 7 = .ok (.invokevirtual 431, 3) := by decide +kernel
theorem d_LP_back_10 : decode prog_1_method_60_code 10 = .ok (.astore_n 1, 1) := by decide +kernel
theorem d_LP_back_11 : decode prog_1_method_60_code 11 = .ok (.aload_n 1, 1) := by decide +kernel
theorem d_LP_back_12 : decode prog_1_method_60_code 12 = .ok (.ifnonnull 10, 3) := by decide +kernel
theorem d_LP_back_15 : decode prog_1_method_60_code 15 = .ok (.aload_n 0, 1) := by decide +kernel
theorem d_LP_back_16 : decode prog_1_method_60_code 16 = .ok (.bipush 8, 2) := by decide +kernel
theorem d_LP_back_18 : decode prog_1_method_60_code 18 = .ok (.invokevirtual 133, 3) := by decide +kernel
theorem d_LP_back_21 : decode prog_1_method_60_code 21 = .ok (.ireturn, 1) := by decide +kernel
theorem d_LP_back_22 : decode prog_1_method_60_code 22 = .ok (.aload_n 0, 1) := by decide +kernel
theorem d_LP_back_23 : decode prog_1_method_60_code 23 = .ok (.dup, 1) := by decide +kernel
theorem d_LP_back_24 : decode prog_1_method_60_code 24 = .ok (.getfield 99, 3) := by decide +kernel
theorem d_LP_back_27 : decode prog_1_method_60_code 27 = .ok (.iconst 1, 1) := by decide +kernel
theorem d_LP_back_28 : decode prog_1_method_60_code 28 = .ok (.isub, 1) := by decide +kernel
theorem d_LP_back_29 : decode prog_1_method_60_code 29 = .ok (.putfield 99, 3) := by decide +kernel
theorem d_LP_back_32 : decode prog_1_method_60_code 32 = .ok (.aload_n 0, 1) := by decide +kernel
theorem d_LP_back_33 : decode prog_1_method_60_code 33 = .ok (.getfield 38, 3) := by decide +kernel
theorem d_LP_back_36 : decode prog_1_method_60_code 36 = .ok (.aload_n 0, 1) := by decide +kernel
theorem d_LP_back_37 : decode prog_1_method_60_code 37 = .ok (.getfield 99, 3) := by decide +kernel
theorem d_LP_back_40 : decode prog_1_method_60_code 40 = .ok (.aload_n 0, 1) := by decide +kernel
theorem d_LP_back_41 : decode prog_1_method_60_code 41 = .ok (.getfield 68, 3) := by decide +kernel
theorem d_LP_back_44 : decode prog_1_method_60_code 44 = .ok (.aastore, 1) := by decide +kernel
theorem d_LP_back_45 : decode prog_1_method_60_code 45 = .ok (.aload_n 0, 1) := by decide +kernel
theorem d_LP_back_46 : decode prog_1_method_60_code 46 = .ok (.aload_n 1, 1) := by decide +kernel
theorem d_LP_back_47 : decode prog_1_method_60_code 47 = .ok (.putfield 68, 3) := by decide +kernel
theorem d_LP_back_50 : decode prog_1_method_60_code 50 = .ok (.aload_n 0, 1) := by decide +kernel
theorem d_LP_back_51 : decode prog_1_method_60_code 51 = .ok (.aload_n 0, 1) := by decide +kernel
theorem d_LP_back_52 : decode prog_1_method_60_code 52 = .ok (.getfield 99, 3) := by decide +kernel
theorem d_LP_back_55 : decode prog_1_method_60_code 55 = .ok (.invokevirtual 180, 3) := by decide +kernel
theorem d_LP_back_58 : decode prog_1_method_60_code 58 = .ok (.ireturn, 1) := by decide +kernel
def LP_back (Y : Ly) (l0 : Nat) (h : Hp) : Option (Int32 × Hp) :=
  (LP_markAt Y l0 ((hGi h 1117 l0) - 1) h).bind fun q1 =>
  match q1 with
  | none =>
      (LP_fail Y l0 8 h).bind fun q5 =>
      some (q5.1, q5.2)
  | some a3 =>
      letH (hSi h 1117 l0 ((hGi h 1117 l0) - 1)) fun h6 =>
      if inB (hGi h6 1117 l0) (lnY Y (hGr h6 1104 l0)) = true then
        letH (hTr h6 (hGr h6 1104 l0) (Int32.toNatClampNeg (hGi h6 1117 l0)) (hGr h6 1109 l0)) fun h10 =>
        letH (hSr h10 1109 l0 a3) fun h11 =>
        (LP_give Y l0 (hGi h11 1117 l0) h11).bind fun q12 =>
        some (q12.1, q12.2)
      else none
theorem ok_LP_back (Y : Ly) (l0 : Nat) (h : Hp) (t0 : isO Y 11 l0) : AM Y 1 K_LP_back [.ref l0] h (LP_back Y l0 h) rI := by
  refine AM.of rfl (Nat.le_of_ble_eq_true rfl) ?_
  show AW Y 1 K_LP_back 0 [(0, .ref l0)] [] h (LP_back Y l0 h) rI
  unfold LP_back
  refine aw_aload_n (pc := 0) d_LP_back_0 rfl 0 rfl ?_
  refine aw_aload_n (pc := 1) d_LP_back_1 rfl 0 rfl ?_
  refine gt_1117 (pc := 2) d_LP_back_2 w3_17 t0 ?_
  refine aw_iconst (pc := 5) (x := 1) d_LP_back_5 (by decide) ?_
  refine aw_isub (pc := 6) d_LP_back_6 ?_
  refine aw_cVpQ (pc := 7) (ci := 11) (T := TX11) (N := 18) (As := [.int ((hGi h 1117 l0) - 1)]) (st := []) (ok_LP_markAt Y l0 ((hGi h 1117 l0) - 1) h t0) okV_LP_markAt rfl (by decide) t0 w6_231 d_LP_back_7 rfl (Nat.le_of_ble_eq_true rfl) rfl (Nat.le_of_ble_eq_true rfl) (fun q1 hq1 hTq1 => ?_)
  have tt2 := ty_LP_markAt t0 hTq1 hq1
  refine aw_astore_nQ (pc := 10) (lv' := [(1, va_rf q1), (0, .ref l0)]) d_LP_back_10 rfl (by decide) rfl ?_
  refine aw_aload_nQ (pc := 11) d_LP_back_11 rfl 0 rfl ?_
  refine aw_ifnonnullQ (pc := 12) (tgt := 22) (x := q1) d_LP_back_12 (by decide) (fun e4 => ?_) (fun a3 e4 => ?_)
  · rw [e4]
    show AW _ _ _ _ [(1, .null), (0, .ref l0)] [] _ _ _
    refine aw_aload_n (pc := 15) d_LP_back_15 rfl 1 rfl ?_
    refine aw_bipush (pc := 16) (x := 8) d_LP_back_16 (by decide) ?_
    refine aw_cVrI (pc := 18) (ci := 11) (T := TX11) (N := 18) (As := [.int 8]) (st := []) (ok_LP_fail Y l0 8 h t0) okV_LP_fail rfl (by decide) t0 w3_114 d_LP_back_18 rfl (Nat.le_of_ble_eq_true rfl) rfl (Nat.le_of_ble_eq_true rfl) (fun q5 hq5 hTq5 => ?_)
    exact aw_ireturn (pc := 21) d_LP_back_21 rfl rfl
  · rw [e4]
    show AW _ _ _ _ [(1, .ref a3), (0, .ref l0)] [] _ _ _
    refine aw_aload_n (pc := 22) d_LP_back_22 rfl 1 rfl ?_
    refine aw_dup (pc := 23) d_LP_back_23 rfl ?_
    refine gt_1117 (pc := 24) d_LP_back_24 w3_17 t0 ?_
    refine aw_iconst (pc := 27) (x := 1) d_LP_back_27 (by decide) ?_
    refine aw_isub (pc := 28) d_LP_back_28 ?_
    refine pt_1117 (pc := 29) d_LP_back_29 w3_17 t0 ?_
    refine aw_letH (fun h6 => ?_)
    refine aw_aload_n (pc := 32) d_LP_back_32 rfl 1 rfl ?_
    refine gt_1104 (pc := 33) d_LP_back_33 w3_4 t0 (fun tt7 => ?_)
    refine aw_aload_n (pc := 36) d_LP_back_36 rfl 1 rfl ?_
    refine gt_1117 (pc := 37) d_LP_back_37 w3_17 t0 ?_
    refine aw_aload_n (pc := 40) d_LP_back_40 rfl 1 rfl ?_
    refine gt_1109 (pc := 41) d_LP_back_41 w3_9 t0 (fun tt8 => ?_)
    refine aw_aastore23 (pc := 44) d_LP_back_44 tt7 tt8 ?_
    refine aw_letH (fun h10 => ?_)
    refine aw_aload_n (pc := 45) d_LP_back_45 rfl 1 rfl ?_
    refine aw_aload_n (pc := 46) d_LP_back_46 rfl 0 rfl ?_
    refine pt_1109 (pc := 47) d_LP_back_47 w3_9 t0 (tt2 _ e4) ?_
    refine aw_letH (fun h11 => ?_)
    refine aw_aload_n (pc := 50) d_LP_back_50 rfl 1 rfl ?_
    refine aw_aload_n (pc := 51) d_LP_back_51 rfl 1 rfl ?_
    refine gt_1117 (pc := 52) d_LP_back_52 w3_17 t0 ?_
    refine aw_cVrI (pc := 55) (ci := 11) (T := TX11) (N := 18) (As := [.int (hGi h11 1117 l0)]) (st := []) (ok_LP_give Y l0 (hGi h11 1117 l0) h11 t0) okV_LP_give rfl (by decide) t0 w4_88 d_LP_back_55 rfl (Nat.le_of_ble_eq_true rfl) rfl (Nat.le_of_ble_eq_true rfl) (fun q12 hq12 hTq12 => ?_)
    exact aw_ireturn (pc := 58) d_LP_back_58 rfl rfl
/-! LastPages.giveIfAny(I)I -/
theorem d_LP_giveIfAny_0 : decode prog_1_method_63_code 0 = .ok (.iload_n 1, 1) := by decide +kernel
theorem d_LP_giveIfAny_1 : decode prog_1_method_63_code 1 = .ok (.iconst (-1), 1) := by decide +kernel
theorem d_LP_giveIfAny_2 : decode prog_1_method_63_code 2 = .ok (.if_icmp .ne 12, 3) := by decide +kernel
theorem d_LP_giveIfAny_5 : decode prog_1_method_63_code 5 = .ok (.aload_n 0, 1) := by decide +kernel
theorem d_LP_giveIfAny_6 : decode prog_1_method_63_code 6 = .ok (.bipush 8, 2) := by decide +kernel
theorem d_LP_giveIfAny_8 : decode prog_1_method_63_code 8 = .ok (.invokevirtual 133, 3) := by decide +kernel
theorem d_LP_giveIfAny_11 : decode prog_1_method_63_code 11 = .ok (.goto 8, 3) := by decide +kernel
theorem d_LP_giveIfAny_14 : decode prog_1_method_63_code 14 = .ok (.aload_n 0, 1) := by decide +kernel
theorem d_LP_giveIfAny_15 : decode prog_1_method_63_code 15 = .ok (.iload_n 1, 1) := by decide +kernel
theorem d_LP_giveIfAny_16 : decode prog_1_method_63_code 16 = .ok (.invokevirtual 180, 3) := by decide +kernel
theorem d_LP_giveIfAny_19 : decode prog_1_method_63_code 19 = .ok (.ireturn, 1) := by decide +kernel
def LP_giveIfAny (Y : Ly) (l0 : Nat) (l1 : Int32) (h : Hp) : Option (Int32 × Hp) :=
  if l1 = (-1) then
    (LP_fail Y l0 8 h).bind fun q2 =>
    some (q2.1, q2.2)
  else
    (LP_give Y l0 l1 h).bind fun q3 =>
    some (q3.1, q3.2)
theorem ok_LP_giveIfAny (Y : Ly) (l0 : Nat) (l1 : Int32) (h : Hp) (t0 : isO Y 11 l0) : AM Y 1 K_LP_giveIfAny [.ref l0, .int l1] h (LP_giveIfAny Y l0 l1 h) rI := by
  refine AM.of rfl (Nat.le_of_ble_eq_true rfl) ?_
  show AW Y 1 K_LP_giveIfAny 0 [(0, .ref l0), (1, .int l1)] [] h (LP_giveIfAny Y l0 l1 h) rI
  unfold LP_giveIfAny
  refine aw_iload_n (pc := 0) d_LP_giveIfAny_0 rfl 1 rfl ?_
  refine aw_iconst (pc := 1) (x := (-1)) d_LP_giveIfAny_1 (by decide) ?_
  refine aw_icmp_ne (pc := 2) (tgt := 14) d_LP_giveIfAny_2 (by decide) (fun c1 => ?_) (fun c1 => ?_)
  · refine aw_aload_n (pc := 5) d_LP_giveIfAny_5 rfl 0 rfl ?_
    refine aw_bipush (pc := 6) (x := 8) d_LP_giveIfAny_6 (by decide) ?_
    refine aw_cVrI (pc := 8) (ci := 11) (T := TX11) (N := 18) (As := [.int 8]) (st := []) (ok_LP_fail Y l0 8 h t0) okV_LP_fail rfl (by decide) t0 w3_114 d_LP_giveIfAny_8 rfl (Nat.le_of_ble_eq_true rfl) rfl (Nat.le_of_ble_eq_true rfl) (fun q2 hq2 hTq2 => ?_)
    refine aw_goto (pc := 11) (tgt := 19) d_LP_giveIfAny_11 (by decide) ?_
    exact aw_ireturn (pc := 19) d_LP_giveIfAny_19 rfl rfl
  · refine aw_aload_n (pc := 14) d_LP_giveIfAny_14 rfl 0 rfl ?_
    refine aw_iload_n (pc := 15) d_LP_giveIfAny_15 rfl 1 rfl ?_
    refine aw_cVrI (pc := 16) (ci := 11) (T := TX11) (N := 18) (As := [.int l1]) (st := []) (ok_LP_give Y l0 l1 h t0) okV_LP_give rfl (by decide) t0 w4_88 d_LP_giveIfAny_16 rfl (Nat.le_of_ble_eq_true rfl) rfl (Nat.le_of_ble_eq_true rfl) (fun q3 hq3 hTq3 => ?_)
    exact aw_ireturn (pc := 19) d_LP_giveIfAny_19 rfl rfl
/-! LastPages$Lot.howOftenIn(II)I -/
theorem d_Lo_howOftenIn_0 : decode prog_5_method_8_code 0 = .ok (.iconst 0, 1) := by decide +kernel
theorem d_Lo_howOftenIn_1 : decode prog_5_method_8_code 1 = .ok (.istore_n 3, 1) := by decide +kernel
theorem d_Lo_howOftenIn_2 : decode prog_5_method_8_code 2 = .ok (.iconst 0, 1) := by decide +kernel
theorem d_Lo_howOftenIn_3 : decode prog_5_method_8_code 3 = .ok (.istore 4, 2) := by decide +kernel
theorem d_Lo_howOftenIn_5 : decode prog_5_method_8_code 5 = .ok (.iload 4, 2) := by decide +kernel
theorem d_Lo_howOftenIn_7 : decode prog_5_method_8_code 7 = .ok (.aload_n 0, 1) := by decide +kernel
theorem d_Lo_howOftenIn_8 : decode prog_5_method_8_code 8 = .ok (.getfield 7, 3) := by decide +kernel
theorem d_Lo_howOftenIn_11 : decode prog_5_method_8_code 11 = .ok (.if_icmp .ge 40, 3) := by decide +kernel
theorem d_Lo_howOftenIn_14 : decode prog_5_method_8_code 14 = .ok (.iload_n 3, 1) := by decide +kernel
theorem d_Lo_howOftenIn_15 : decode prog_5_method_8_code 15 = .ok (.iload_n 1, 1) := by decide +kernel
theorem d_Lo_howOftenIn_16 : decode prog_5_method_8_code 16 = .ok (.iload 4, 2) := by decide +kernel
theorem d_Lo_howOftenIn_18 : decode prog_5_method_8_code 18 = .ok (.invokestatic 33, 3) := by decide +kernel
theorem d_Lo_howOftenIn_21 : decode prog_5_method_8_code 21 = .ok (.ifCond .eq 21, 3) := by decide +kernel
theorem d_Lo_howOftenIn_24 : decode prog_5_method_8_code 24 = .ok (.aload_n 0, 1) := by decide +kernel
theorem d_Lo_howOftenIn_25 : decode prog_5_method_8_code 25 = .ok (.getfield 23, 3) := by decide +kernel
theorem d_Lo_howOftenIn_28 : decode prog_5_method_8_code 28 = .ok (.iload 4, 2) := by decide +kernel
theorem d_Lo_howOftenIn_30 : decode prog_5_method_8_code 30 = .ok (.iaload, 1) := by decide +kernel
theorem d_Lo_howOftenIn_31 : decode prog_5_method_8_code 31 = .ok (.iload_n 2, 1) := by decide +kernel
theorem d_Lo_howOftenIn_32 : decode prog_5_method_8_code 32 = .ok (.invokestatic 33, 3) := by decide +kernel
theorem d_Lo_howOftenIn_35 : decode prog_5_method_8_code 35 = .ok (.ifCond .eq 7, 3) := by decide +kernel
theorem d_Lo_howOftenIn_38 : decode prog_5_method_8_code 38 = .ok (.iconst 1, 1) := by decide +kernel
theorem d_Lo_howOftenIn_39 : decode prog_5_method_8_code 39 = .ok (.goto 4, 3) := by decide +kernel
theorem d_Lo_howOftenIn_42 : decode prog_5_method_8_code 42 = .ok (.iconst 0, 1) := by decide +kernel
theorem d_Lo_howOftenIn_43 : decode prog_5_method_8_code 43 = .ok (.iadd, 1) := by decide +kernel
theorem d_Lo_howOftenIn_44 : decode prog_5_method_8_code 44 = .ok (.istore_n 3, 1) := by decide +kernel
theorem d_Lo_howOftenIn_45 : decode prog_5_method_8_code 45 = .ok (.iinc 4 1, 3) := by decide +kernel
theorem d_Lo_howOftenIn_48 : decode prog_5_method_8_code 48 = .ok (.goto (-43), 3) := by decide +kernel
theorem d_Lo_howOftenIn_51 : decode prog_5_method_8_code 51 = .ok (.iload_n 3, 1) := by decide +kernel
theorem d_Lo_howOftenIn_52 : decode prog_5_method_8_code 52 = .ok (.ireturn, 1) := by decide +kernel
def Lo_howOftenIn_L5 (Y : Ly) (l0 : Nat) (l1 : Int32) (l2 : Int32) (h : Hp) : Nat → Int32 → Int32 → Option Int32
  | 0, _, _ => none
  | F + 1, l3, l4 =>
    if (hGi h 302 l0) ≤ l4 then
      some l3
    else
      (LP_has Y l1 l4 h).bind fun q2 =>
      if q2 = true then
        if inB l4 (lnY Y (hGr h 301 l0)) = true then
          (LP_has Y (hAi h (hGr h 301 l0) (Int32.toNatClampNeg l4)) l2 h).bind fun q6 =>
          if q6 = true then
            Lo_howOftenIn_L5 Y l0 l1 l2 h F (l3 + 1) (l4 + 1)
          else
            Lo_howOftenIn_L5 Y l0 l1 l2 h F (l3 + 0) (l4 + 1)
        else none
      else
        Lo_howOftenIn_L5 Y l0 l1 l2 h F (l3 + 0) (l4 + 1)
theorem Lo_howOftenIn_L5_ok (Y : Ly) (l0 : Nat) (l1 : Int32) (l2 : Int32) (h : Hp) (tl0 : isO Y 3 l0) : ∀ (F : Nat) (l3 : Int32) (l4 : Int32), AW Y 1 K_Lo_howOftenIn 5 [(0, .ref l0), (1, .int l1), (2, .int l2), (3, .int l3), (4, .int l4)] [] h (Lo_howOftenIn_L5 Y l0 l1 l2 h F l3 l4) (pI h) := by
  intro F
  induction F with
  | zero =>
    intro l3 l4
    exact aw_none
  | succ F ih =>
    intro l3 l4
    unfold Lo_howOftenIn_L5
    refine aw_iload (pc := 5) d_Lo_howOftenIn_5 4 rfl ?_
    refine aw_aload_n (pc := 7) d_Lo_howOftenIn_7 rfl 0 rfl ?_
    refine gt_302 (pc := 8) d_Lo_howOftenIn_8 w2_72 tl0 ?_
    refine aw_icmp_ge (pc := 11) (tgt := 51) d_Lo_howOftenIn_11 (by decide) (fun c1 => ?_) (fun c1 => ?_)
    · refine aw_iload_n (pc := 51) d_Lo_howOftenIn_51 rfl 3 rfl ?_
      exact aw_ireturn (pc := 52) d_Lo_howOftenIn_52 rfl rfl
    · refine aw_iload_n (pc := 14) d_Lo_howOftenIn_14 rfl 3 rfl ?_
      refine aw_iload_n (pc := 15) d_Lo_howOftenIn_15 rfl 1 rfl ?_
      refine aw_iload (pc := 16) d_Lo_howOftenIn_16 4 rfl ?_
      refine aw_cNpZ (pc := 18) (As := [.int l1, .int l4]) (st := [.int l3]) (ok_LP_has Y l1 l4 h) okS_LP_has (List.mem_of_getElem? (i := 17) rfl) d_Lo_howOftenIn_18 rfl (Nat.le_of_ble_eq_true rfl) rfl (Nat.le_of_ble_eq_true rfl) (fun q2 hq2 hTq2 => ?_)
      refine aw_beq (pc := 21) (tgt := 42) d_Lo_howOftenIn_21 (by decide) (fun c3 => ?_) (fun c3 => ?_)
      · refine aw_aload_n (pc := 24) d_Lo_howOftenIn_24 rfl 0 rfl ?_
        refine gt_301 (pc := 25) d_Lo_howOftenIn_25 w2_70 tl0 (fun tt4 => ?_)
        refine aw_iload (pc := 28) d_Lo_howOftenIn_28 4 rfl ?_
        refine aw_iaload (pc := 30) d_Lo_howOftenIn_30 tt4 (fun c5 => ?_)
        refine aw_iload_n (pc := 31) d_Lo_howOftenIn_31 rfl 2 rfl ?_
        refine aw_cNpZ (pc := 32) (As := [.int (hAi h (hGr h 301 l0) (Int32.toNatClampNeg l4)), .int l2]) (st := [.int l3]) (ok_LP_has Y (hAi h (hGr h 301 l0) (Int32.toNatClampNeg l4)) l2 h) okS_LP_has (List.mem_of_getElem? (i := 17) rfl) d_Lo_howOftenIn_32 rfl (Nat.le_of_ble_eq_true rfl) rfl (Nat.le_of_ble_eq_true rfl) (fun q6 hq6 hTq6 => ?_)
        refine aw_beq (pc := 35) (tgt := 42) d_Lo_howOftenIn_35 (by decide) (fun c7 => ?_) (fun c7 => ?_)
        · refine aw_iconst (pc := 38) (x := 1) d_Lo_howOftenIn_38 (by decide) ?_
          refine aw_goto (pc := 39) (tgt := 43) d_Lo_howOftenIn_39 (by decide) ?_
          refine aw_iadd (pc := 43) d_Lo_howOftenIn_43 ?_
          refine aw_istore_n (pc := 44) (lv' := [(3, .int (l3 + 1)), (0, .ref l0), (1, .int l1), (2, .int l2), (4, .int l4)]) d_Lo_howOftenIn_44 rfl (by decide) rfl ?_
          refine aw_iinc (pc := 45) (w := l4 + 1) (lv' := [(4, .int (l4 + 1)), (3, .int (l3 + 1)), (0, .ref l0), (1, .int l1), (2, .int l2)]) d_Lo_howOftenIn_45 4 rfl rfl (by decide) rfl ?_
          refine aw_goto (pc := 48) (tgt := 5) d_Lo_howOftenIn_48 (by decide) ?_
          exact aw_lv [2, 3, 4, 1, 0] rfl (ih (l3 + 1) (l4 + 1))
        · refine aw_iconst (pc := 42) (x := 0) d_Lo_howOftenIn_42 (by decide) ?_
          refine aw_iadd (pc := 43) d_Lo_howOftenIn_43 ?_
          refine aw_istore_n (pc := 44) (lv' := [(3, .int (l3 + 0)), (0, .ref l0), (1, .int l1), (2, .int l2), (4, .int l4)]) d_Lo_howOftenIn_44 rfl (by decide) rfl ?_
          refine aw_iinc (pc := 45) (w := l4 + 1) (lv' := [(4, .int (l4 + 1)), (3, .int (l3 + 0)), (0, .ref l0), (1, .int l1), (2, .int l2)]) d_Lo_howOftenIn_45 4 rfl rfl (by decide) rfl ?_
          refine aw_goto (pc := 48) (tgt := 5) d_Lo_howOftenIn_48 (by decide) ?_
          exact aw_lv [2, 3, 4, 1, 0] rfl (ih (l3 + 0) (l4 + 1))
      · refine aw_iconst (pc := 42) (x := 0) d_Lo_howOftenIn_42 (by decide) ?_
        refine aw_iadd (pc := 43) d_Lo_howOftenIn_43 ?_
        refine aw_istore_n (pc := 44) (lv' := [(3, .int (l3 + 0)), (0, .ref l0), (1, .int l1), (2, .int l2), (4, .int l4)]) d_Lo_howOftenIn_44 rfl (by decide) rfl ?_
        refine aw_iinc (pc := 45) (w := l4 + 1) (lv' := [(4, .int (l4 + 1)), (3, .int (l3 + 0)), (0, .ref l0), (1, .int l1), (2, .int l2)]) d_Lo_howOftenIn_45 4 rfl rfl (by decide) rfl ?_
        refine aw_goto (pc := 48) (tgt := 5) d_Lo_howOftenIn_48 (by decide) ?_
        exact aw_lv [2, 3, 4, 1, 0] rfl (ih (l3 + 0) (l4 + 1))
def Lo_howOftenIn (Y : Ly) (l0 : Nat) (l1 : Int32) (l2 : Int32) (h : Hp) : Option Int32 :=
  Lo_howOftenIn_L5 Y l0 l1 l2 h FU 0 0
theorem ok_Lo_howOftenIn (Y : Ly) (l0 : Nat) (l1 : Int32) (l2 : Int32) (h : Hp) (t0 : isO Y 3 l0) : AM Y 1 K_Lo_howOftenIn [.ref l0, .int l1, .int l2] h (Lo_howOftenIn Y l0 l1 l2 h) (pI h) := by
  refine AM.of rfl (Nat.le_of_ble_eq_true rfl) ?_
  show AW Y 1 K_Lo_howOftenIn 0 [(0, .ref l0), (1, .int l1), (2, .int l2)] [] h (Lo_howOftenIn Y l0 l1 l2 h) (pI h)
  unfold Lo_howOftenIn
  refine aw_iconst (pc := 0) (x := 0) d_Lo_howOftenIn_0 (by decide) ?_
  refine aw_istore_n (pc := 1) (lv' := [(3, .int 0), (0, .ref l0), (1, .int l1), (2, .int l2)]) d_Lo_howOftenIn_1 rfl (by decide) rfl ?_
  refine aw_iconst (pc := 2) (x := 0) d_Lo_howOftenIn_2 (by decide) ?_
  refine aw_istore (pc := 3) (lv' := [(4, .int 0), (3, .int 0), (0, .ref l0), (1, .int l1), (2, .int l2)]) d_Lo_howOftenIn_3 (by decide) rfl ?_
  exact aw_lv [2, 3, 4, 1, 0] rfl (Lo_howOftenIn_L5_ok Y l0 l1 l2 h t0 FU 0 0)
