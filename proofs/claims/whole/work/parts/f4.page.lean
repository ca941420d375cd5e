/-! ===== the whole object ===== -/
theorem cE_q24_4 (G : Gm) (a : Nat) : cE G a (24, 4, [(-1), (-1), (-1), (-1)]) = .inl (G.2 4, 4, .inr (.inr (.inr (.inr (fun _ => none))))) := by
  have e : (fun i => rfS a (([(-1), (-1), (-1), (-1)] : List Int).getD i (-1))) = (fun _ => none) := by
    funext i
    match i with
    | 0 => rfl
    | 1 => rfl
    | 2 => rfl
    | 3 => rfl
    | i + 4 => rfl
  show (Sum.inl (G.2 4, 4, .inr (.inr (.inr (.inr (fun i => rfS a (([(-1), (-1), (-1), (-1)] : List Int).getD i (-1))))))) : va_E) = _
  rw [e]
theorem cE_q23_3 (G : Gm) (a : Nat) : cE G a (23, 3, [(-1), (-1), (-1)]) = .inl (G.2 3, 3, .inr (.inr (.inr (.inr (fun _ => none))))) := by
  have e : (fun i => rfS a (([(-1), (-1), (-1)] : List Int).getD i (-1))) = (fun _ => none) := by
    funext i
    match i with
    | 0 => rfl
    | 1 => rfl
    | 2 => rfl
    | i + 3 => rfl
  show (Sum.inl (G.2 3, 3, .inr (.inr (.inr (.inr (fun i => rfS a (([(-1), (-1), (-1)] : List Int).getD i (-1))))))) : va_E) = _
  rw [e]
abbrev K_LP_init : Mk := (⟨"LastPages", "<init>", "()V"⟩, prog_1_method_1_code, 2, (Option.none : Option Jvm.ClassFile.FieldType))
theorem okI_LP_init : okI ⟨"LastPages", "<init>", "()V"⟩ prog_1_method_1_code 2 0 := ⟨w1_26, w1_25, w1_1, ⟨by decide, by decide, by decide +kernel⟩, by decide, rfl⟩
theorem d_LP_init_0 : decode prog_1_method_1_code 0 = .ok (.aload_n 0, 1) := by decide +kernel
theorem d_LP_init_1 : decode prog_1_method_1_code 1 = .ok (.invokespecial 3, 3) := by decide +kernel
theorem d_LP_init_4 : decode prog_1_method_1_code 4 = .ok (.aload_n 0, 1) := by decide +kernel
theorem d_LP_init_5 : decode prog_1_method_1_code 5 = .ok (.iconst 4, 1) := by decide +kernel
theorem d_LP_init_6 : decode prog_1_method_1_code 6 = .ok (.anewarray 9, 3) := by decide +kernel
theorem d_LP_init_9 : decode prog_1_method_1_code 9 = .ok (.putfield 11, 3) := by decide +kernel
theorem d_LP_init_12 : decode prog_1_method_1_code 12 = .ok (.aload_n 0, 1) := by decide +kernel
theorem d_LP_init_13 : decode prog_1_method_1_code 13 = .ok (.new 15, 3) := by decide +kernel
theorem d_LP_init_16 : decode prog_1_method_1_code 16 = .ok (.dup, 1) := by decide +kernel
theorem d_LP_init_17 : decode prog_1_method_1_code 17 = .ok (.invokespecial 17, 3) := by decide +kernel
theorem d_LP_init_20 : decode prog_1_method_1_code 20 = .ok (.putfield 18, 3) := by decide +kernel
theorem d_LP_init_23 : decode prog_1_method_1_code 23 = .ok (.aload_n 0, 1) := by decide +kernel
theorem d_LP_init_24 : decode prog_1_method_1_code 24 = .ok (.new 22, 3) := by decide +kernel
theorem d_LP_init_27 : decode prog_1_method_1_code 27 = .ok (.dup, 1) := by decide +kernel
theorem d_LP_init_28 : decode prog_1_method_1_code 28 = .ok (.invokespecial 24, 3) := by decide +kernel
theorem d_LP_init_31 : decode prog_1_method_1_code 31 = .ok (.putfield 25, 3) := by decide +kernel
theorem d_LP_init_34 : decode prog_1_method_1_code 34 = .ok (.aload_n 0, 1) := by decide +kernel
theorem d_LP_init_35 : decode prog_1_method_1_code 35 = .ok (.new 29, 3) := by decide +kernel
theorem d_LP_init_38 : decode prog_1_method_1_code 38 = .ok (.dup, 1) := by decide +kernel
theorem d_LP_init_39 : decode prog_1_method_1_code 39 = .ok (.invokespecial 31, 3) := by decide +kernel
theorem d_LP_init_42 : decode prog_1_method_1_code 42 = .ok (.putfield 32, 3) := by decide +kernel
theorem d_LP_init_45 : decode prog_1_method_1_code 45 = .ok (.aload_n 0, 1) := by decide +kernel
theorem d_LP_init_46 : decode prog_1_method_1_code 46 = .ok (.iconst 3, 1) := by decide +kernel
theorem d_LP_init_47 : decode prog_1_method_1_code 47 = .ok (.anewarray 36, 3) := by decide +kernel
theorem d_LP_init_50 : decode prog_1_method_1_code 50 = .ok (.putfield 38, 3) := by decide +kernel
theorem d_LP_init_53 : decode prog_1_method_1_code 53 = .ok (.aload_n 0, 1) := by decide +kernel
theorem d_LP_init_54 : decode prog_1_method_1_code 54 = .ok (.new 42, 3) := by decide +kernel
theorem d_LP_init_57 : decode prog_1_method_1_code 57 = .ok (.dup, 1) := by decide +kernel
theorem d_LP_init_58 : decode prog_1_method_1_code 58 = .ok (.invokespecial 44, 3) := by decide +kernel
theorem d_LP_init_61 : decode prog_1_method_1_code 61 = .ok (.putfield 45, 3) := by decide +kernel
theorem d_LP_init_64 : decode prog_1_method_1_code 64 = .ok (.aload_n 0, 1) := by decide +kernel
theorem d_LP_init_65 : decode prog_1_method_1_code 65 = .ok (.new 49, 3) := by decide +kernel
theorem d_LP_init_68 : decode prog_1_method_1_code 68 = .ok (.dup, 1) := by decide +kernel
theorem d_LP_init_69 : decode prog_1_method_1_code 69 = .ok (.invokespecial 51, 3) := by decide +kernel
theorem d_LP_init_72 : decode prog_1_method_1_code 72 = .ok (.putfield 52, 3) := by decide +kernel
theorem d_LP_init_75 : decode prog_1_method_1_code 75 = .ok (.aload_n 0, 1) := by decide +kernel
theorem d_LP_init_76 : decode prog_1_method_1_code 76 = .ok (.new 56, 3) := by decide +kernel
theorem d_LP_init_79 : decode prog_1_method_1_code 79 = .ok (.dup, 1) := by decide +kernel
theorem d_LP_init_80 : decode prog_1_method_1_code 80 = .ok (.invokespecial 58, 3) := by decide +kernel
theorem d_LP_init_83 : decode prog_1_method_1_code 83 = .ok (.putfield 59, 3) := by decide +kernel
theorem d_LP_init_86 : decode prog_1_method_1_code 86 = .ok (.aload_n 0, 1) := by decide +kernel
theorem d_LP_init_87 : decode prog_1_method_1_code 87 = .ok (.iconst 5, 1) := by decide +kernel
theorem d_LP_init_88 : decode prog_1_method_1_code 88 = .ok (.newarray .int, 2) := by decide +kernel
theorem d_LP_init_90 : decode prog_1_method_1_code 90 = .ok (.putfield 63, 3) := by decide +kernel
theorem d_LP_init_93 : decode prog_1_method_1_code 93 = .ok (.aload_n 0, 1) := by decide +kernel
theorem d_LP_init_94 : decode prog_1_method_1_code 94 = .ok (.new 36, 3) := by decide +kernel
theorem d_LP_init_97 : decode prog_1_method_1_code 97 = .ok (.dup, 1) := by decide +kernel
theorem d_LP_init_98 : decode prog_1_method_1_code 98 = .ok (.invokespecial 67, 3) := by decide +kernel
theorem d_LP_init_101 : decode prog_1_method_1_code 101 = .ok (.putfield 68, 3) := by decide +kernel
theorem d_LP_init_104 : decode prog_1_method_1_code 104 = .ok (.aload_n 0, 1) := by decide +kernel
theorem d_LP_init_105 : decode prog_1_method_1_code 105 = .ok (.new 36, 3) := by decide +kernel
theorem d_LP_init_108 : decode prog_1_method_1_code 108 = .ok (.dup, 1) := by decide +kernel
theorem d_LP_init_109 : decode prog_1_method_1_code 109 = .ok (.invokespecial 67, 3) := by decide +kernel
theorem d_LP_init_112 : decode prog_1_method_1_code 112 = .ok (.putfield 72, 3) := by decide +kernel
theorem d_LP_init_115 : decode prog_1_method_1_code 115 = .ok (.aload_n 0, 1) := by decide +kernel
theorem d_LP_init_116 : decode prog_1_method_1_code 116 = .ok (.new 75, 3) := by decide +kernel
theorem d_LP_init_119 : decode prog_1_method_1_code 119 = .ok (.dup, 1) := by decide +kernel
theorem d_LP_init_120 : decode prog_1_method_1_code 120 = .ok (.invokespecial 77, 3) := by decide +kernel
theorem d_LP_init_123 : decode prog_1_method_1_code 123 = .ok (.putfield 78, 3) := by decide +kernel
theorem d_LP_init_126 : decode prog_1_method_1_code 126 = .ok (.aload_n 0, 1) := by decide +kernel
theorem d_LP_init_127 : decode prog_1_method_1_code 127 = .ok (.iconst 0, 1) := by decide +kernel
theorem d_LP_init_128 : decode prog_1_method_1_code 128 = .ok (.putfield 82, 3) := by decide +kernel
theorem d_LP_init_131 : decode prog_1_method_1_code 131 = .ok (.aload_n 0, 1) := by decide +kernel
theorem d_LP_init_132 : decode prog_1_method_1_code 132 = .ok (.lconst 0, 1) := by decide +kernel
theorem d_LP_init_133 : decode prog_1_method_1_code 133 = .ok (.putfield 86, 3) := by decide +kernel
theorem d_LP_init_136 : decode prog_1_method_1_code 136 = .ok (.aload_n 0, 1) := by decide +kernel
theorem d_LP_init_137 : decode prog_1_method_1_code 137 = .ok (.lconst 1, 1) := by decide +kernel
theorem d_LP_init_138 : decode prog_1_method_1_code 138 = .ok (.putfield 90, 3) := by decide +kernel
theorem d_LP_init_141 : decode prog_1_method_1_code 141 = .ok (.aload_n 0, 1) := by decide +kernel
theorem d_LP_init_142 : decode prog_1_method_1_code 142 = .ok (.iconst (-1), 1) := by decide +kernel
theorem d_LP_init_143 : decode prog_1_method_1_code 143 = .ok (.putfield 93, 3) := by decide +kernel
theorem d_LP_init_146 : decode prog_1_method_1_code 146 = .ok (.aload_n 0, 1) := by decide +kernel
theorem d_LP_init_147 : decode prog_1_method_1_code 147 = .ok (.iconst (-1), 1) := by decide +kernel
theorem d_LP_init_148 : decode prog_1_method_1_code 148 = .ok (.putfield 96, 3) := by decide +kernel
theorem d_LP_init_151 : decode prog_1_method_1_code 151 = .ok (.aload_n 0, 1) := by decide +kernel
theorem d_LP_init_152 : decode prog_1_method_1_code 152 = .ok (.iconst 0, 1) := by decide +kernel
theorem d_LP_init_153 : decode prog_1_method_1_code 153 = .ok (.putfield 99, 3) := by decide +kernel
theorem d_LP_init_156 : decode prog_1_method_1_code 156 = .ok (.iconst 0, 1) := by decide +kernel
theorem d_LP_init_157 : decode prog_1_method_1_code 157 = .ok (.istore_n 1, 1) := by decide +kernel
theorem d_LP_init_158 : decode prog_1_method_1_code 158 = .ok (.iload_n 1, 1) := by decide +kernel
theorem d_LP_init_159 : decode prog_1_method_1_code 159 = .ok (.iconst 4, 1) := by decide +kernel
theorem d_LP_init_160 : decode prog_1_method_1_code 160 = .ok (.if_icmp .ge 22, 3) := by decide +kernel
theorem d_LP_init_163 : decode prog_1_method_1_code 163 = .ok (.aload_n 0, 1) := by decide +kernel
theorem d_LP_init_164 : decode prog_1_method_1_code 164 = .ok (.getfield 11, 3) := by decide +kernel
theorem d_LP_init_167 : decode prog_1_method_1_code 167 = .ok (.iload_n 1, 1) := by decide +kernel
theorem d_LP_init_168 : decode prog_1_method_1_code 168 = .ok (.new 9, 3) := by decide +kernel
theorem d_LP_init_171 : decode prog_1_method_1_code 171 = .ok (.dup, 1) := by decide +kernel
theorem d_LP_init_172 : decode prog_1_method_1_code 172 = .ok (.invokespecial 102, 3) := by decide +kernel
theorem d_LP_init_175 : decode prog_1_method_1_code 175 = .ok (.aastore, 1) := by decide +kernel
theorem d_LP_init_176 : decode prog_1_method_1_code 176 = .ok (.iinc 1 1, 3) := by decide +kernel
theorem d_LP_init_179 : decode prog_1_method_1_code 179 = .ok (.goto (-21), 3) := by decide +kernel
theorem d_LP_init_182 : decode prog_1_method_1_code 182 = .ok (.iconst 0, 1) := by decide +kernel
theorem d_LP_init_183 : decode prog_1_method_1_code 183 = .ok (.istore_n 1, 1) := by decide +kernel
theorem d_LP_init_184 : decode prog_1_method_1_code 184 = .ok (.iload_n 1, 1) := by decide +kernel
theorem d_LP_init_185 : decode prog_1_method_1_code 185 = .ok (.iconst 3, 1) := by decide +kernel
theorem d_LP_init_186 : decode prog_1_method_1_code 186 = .ok (.if_icmp .ge 22, 3) := by decide +kernel
theorem d_LP_init_189 : decode prog_1_method_1_code 189 = .ok (.aload_n 0, 1) := by decide +kernel
theorem d_LP_init_190 : decode prog_1_method_1_code 190 = .ok (.getfield 38, 3) := by decide +kernel
theorem d_LP_init_193 : decode prog_1_method_1_code 193 = .ok (.iload_n 1, 1) := by decide +kernel
theorem d_LP_init_194 : decode prog_1_method_1_code 194 = .ok (.new 36, 3) := by decide +kernel
theorem d_LP_init_197 : decode prog_1_method_1_code 197 = .ok (.dup, 1) := by decide +kernel
theorem d_LP_init_198 : decode prog_1_method_1_code 198 = .ok (.invokespecial 67, 3) := by decide +kernel
theorem d_LP_init_201 : decode prog_1_method_1_code 201 = .ok (.aastore, 1) := by decide +kernel
theorem d_LP_init_202 : decode prog_1_method_1_code 202 = .ok (.iinc 1 1, 3) := by decide +kernel
theorem d_LP_init_205 : decode prog_1_method_1_code 205 = .ok (.goto (-21), 3) := by decide +kernel
theorem d_LP_init_208 : decode prog_1_method_1_code 208 = .ok (.aload_n 0, 1) := by decide +kernel
theorem d_LP_init_209 : decode prog_1_method_1_code 209 = .ok (.getfield 63, 3) := by decide +kernel
theorem d_LP_init_212 : decode prog_1_method_1_code 212 = .ok (.iconst (-1), 1) := by decide +kernel
theorem d_LP_init_213 : decode prog_1_method_1_code 213 = .ok (.invokestatic 103, 3) := by decide +kernel
theorem d_LP_init_216 : decode prog_1_method_1_code 216 = .ok (.return_, 1) := by decide +kernel
def r_LP_init_1 : List Sp := [] ++ [(24, 4, [(-1), (-1), (-1), (-1)])]
def r_LP_init_2 : List Sp := r_LP_init_1 ++ [dO 7]
def r_LP_init_3 : List Sp := r_LP_init_1 ++ (spT nT).map (sh 2)
def r_LP_init_4 : List Sp := r_LP_init_3 ++ [dO 5]
def r_LP_init_5 : List Sp := r_LP_init_3 ++ c_SR_init.map (sh 5)
def r_LP_init_6 : List Sp := r_LP_init_5 ++ [dO 10]
def r_LP_init_7 : List Sp := r_LP_init_5 ++ c_WR_init.map (sh 7)
def r_LP_init_8 : List Sp := r_LP_init_7 ++ [(23, 3, [(-1), (-1), (-1)])]
def r_LP_init_9 : List Sp := r_LP_init_8 ++ [dO 0]
def r_LP_init_10 : List Sp := r_LP_init_8 ++ c_En_init.map (sh 10)
def r_LP_init_11 : List Sp := r_LP_init_10 ++ [dO 1]
def r_LP_init_12 : List Sp := r_LP_init_10 ++ c_Fi_init.map (sh 21)
def r_LP_init_13 : List Sp := r_LP_init_12 ++ [dO 2]
def r_LP_init_14 : List Sp := r_LP_init_12 ++ c_Li_init.map (sh 24)
def r_LP_init_15 : List Sp := r_LP_init_14 ++ [(20, 5, [])]
def r_LP_init_16 : List Sp := r_LP_init_15 ++ [dO 4]
def r_LP_init_17 : List Sp := r_LP_init_15 ++ c_Sh_init.map (sh 30)
def r_LP_init_18 : List Sp := r_LP_init_17 ++ [dO 4]
def r_LP_init_19 : List Sp := r_LP_init_17 ++ c_Sh_init.map (sh 58)
def r_LP_init_20 : List Sp := r_LP_init_19 ++ [dO 9]
def r_LP_init_21 : List Sp := r_LP_init_19 ++ c_We_init.map (sh 86)
def r_LP_init_22 : List Sp := r_LP_init_21 ++ [dO 8]
def r_LP_init_23 : List Sp := r_LP_init_21 ++ c_Tr_init.map (sh 92)
def r_LP_init_24 : List Sp := r_LP_init_23.set 0 (24, 4, [92, (-1), (-1), (-1)])
def r_LP_init_25 : List Sp := r_LP_init_24 ++ [dO 8]
def r_LP_init_26 : List Sp := r_LP_init_24 ++ c_Tr_init.map (sh 94)
def r_LP_init_27 : List Sp := r_LP_init_26.set 0 (24, 4, [92, 94, (-1), (-1)])
def r_LP_init_28 : List Sp := r_LP_init_27 ++ [dO 8]
def r_LP_init_29 : List Sp := r_LP_init_27 ++ c_Tr_init.map (sh 96)
def r_LP_init_30 : List Sp := r_LP_init_29.set 0 (24, 4, [92, 94, 96, (-1)])
def r_LP_init_31 : List Sp := r_LP_init_30 ++ [dO 8]
def r_LP_init_32 : List Sp := r_LP_init_30 ++ c_Tr_init.map (sh 98)
def r_LP_init_33 : List Sp := r_LP_init_32.set 0 (24, 4, [92, 94, 96, 98])
def r_LP_init_34 : List Sp := r_LP_init_33 ++ [dO 4]
def r_LP_init_35 : List Sp := r_LP_init_33 ++ c_Sh_init.map (sh 100)
def r_LP_init_36 : List Sp := r_LP_init_35.set 8 (23, 3, [100, (-1), (-1)])
def r_LP_init_37 : List Sp := r_LP_init_36 ++ [dO 4]
def r_LP_init_38 : List Sp := r_LP_init_36 ++ c_Sh_init.map (sh 128)
def r_LP_init_39 : List Sp := r_LP_init_38.set 8 (23, 3, [100, 128, (-1)])
def r_LP_init_40 : List Sp := r_LP_init_39 ++ [dO 4]
def r_LP_init_41 : List Sp := r_LP_init_39 ++ c_Sh_init.map (sh 156)
def r_LP_init_42 : List Sp := r_LP_init_41.set 8 (23, 3, [100, 128, 156])
def r_LP_init_43 : List Sp := r_LP_init_42.set 28 (20, 5, List.replicate 5 (-1))
def c_LP_init : List Sp := (11, 0, [1, 2, 5, 7, 9, 10, 21, 24, 29, 30, 58, 86, 0, 0, 1, (-1), (-1), 0]) :: r_LP_init_43
set_option maxRecDepth 100000 in
theorem ok_LP_init (G : Gm) (a q v : Nat) : CM G 5 183 6136 K_LP_init a [] [dO 11] c_LP_init (XT q v a) := by
  refine CM.of rfl (Nat.le_of_ble_eq_true rfl) ?_
  show CW G 5 K_LP_init a 183 6136 (CQp G a c_LP_init) (XT q v a) 0 [(0, .ref a)] [] ((11, 0, [(-1), (-1), (-1), (-1), (-1), (-1), (-1), (-1), (-1), (-1), (-1), (-1), 0, 0, 0, 0, 0, 0]) :: []) 0 0
  refine cw_aload_n (pc := 0) d_LP_init_0 rfl 0 rfl ?_
  refine cw_objinit (pc := 1) d_LP_init_1 w1_27 w1_28 w1_29 (by decide) ?_
  refine cw_aload_n (pc := 4) d_LP_init_4 rfl 0 rfl ?_
  refine cw_iconst (pc := 5) (x := 4) d_LP_init_5 (by decide) ?_
  refine cw_newq (pc := 6) (kd := 24) (t0 := 4) (N := 4) (C := RX8) (vals := [(-1), (-1), (-1), (-1)]) w1_30 (fun _ h => h.2.2) rfl (cE_q24_4 G a) (by decide) (by decide) (by decide) d_LP_init_6 (by decide +kernel) (by decide) (by decide) ?_
  show CW G 5 K_LP_init a 183 6136 (CQp G a c_LP_init) (XT q v a) 9 [(0, .ref a)] [.ref (a + 1), .ref a] ((11, 0, [(-1), (-1), (-1), (-1), (-1), (-1), (-1), (-1), (-1), (-1), (-1), (-1), 0, 0, 0, 0, 0, 0]) :: r_LP_init_1) 1 4
  refine cw_put (pc := 9) (ci := 11) (k := 0) (N := 18) (t := 2) (C := RX11) (T := TX11) (tys := tyX11) (v := 1) (ty := .array (.object "LastPages$Tray")) rfl (by decide) inX11 tyX11_ok nmX11 (by decide) rfl rfl rfl w3_0 (Or.inr ⟨rfl, rfl, rfl⟩) d_LP_init_9 rfl rfl rfl rfl rfl ?_
  show CW G 5 K_LP_init a 183 6136 (CQp G a c_LP_init) (XT q v a) 12 [(0, .ref a)] [] ((11, 0, [1, (-1), (-1), (-1), (-1), (-1), (-1), (-1), (-1), (-1), (-1), (-1), 0, 0, 0, 0, 0, 0]) :: r_LP_init_1) 1 4
  refine cw_aload_n (pc := 12) d_LP_init_12 rfl 0 rfl ?_
  refine cw_new (pc := 13) (ci := 7) (N := 13) (C := RX7) (T := TX7) rfl (by decide) inX7 tyX7_ok fsX7 w1_32 w1_33 w1_2 d_LP_init_13 (by decide +kernel) (by decide) (by decide) ?_
  show CW G 5 K_LP_init a 183 6136 (CQp G a c_LP_init) (XT q v a) 16 [(0, .ref a)] [.ref (a + 2), .ref a] ((11, 0, [1, (-1), (-1), (-1), (-1), (-1), (-1), (-1), (-1), (-1), (-1), (-1), 0, 0, 0, 0, 0, 0]) :: r_LP_init_2) 2 17
  refine cw_dup (pc := 16) d_LP_init_16 rfl ?_
  refine cw_ctor (pc := 17) (b := a + 2) (st0 := [.ref (a + 2), .ref (a + 2), .ref a]) (sp0 := (11, 0, [1, (-1), (-1), (-1), (-1), (-1), (-1), (-1), (-1), (-1), (-1), (-1), 0, 0, 0, 0, 0, 0]) :: r_LP_init_1) okI_To_init (ok_To_init G _ q v) w1_34 d_LP_init_17 rfl (by decide) (by decide) rfl rfl rfl (by decide +kernel) (Nat.le_of_ble_eq_true rfl) (XT_b q v _) (fun s U H locs h hS hU hW => XT_in (Nat.le_add_right _ _) h hS hU hW) (by decide) (by decide) ?_
  show CW G 5 K_LP_init a 183 6136 (CQp G a c_LP_init) (XT q v a) 20 [(0, .ref a)] [.ref (a + 2), .ref a] ((11, 0, [1, (-1), (-1), (-1), (-1), (-1), (-1), (-1), (-1), (-1), (-1), (-1), 0, 0, 0, 0, 0, 0]) :: r_LP_init_3) 4 948
  refine cw_put (pc := 20) (ci := 11) (k := 1) (N := 18) (t := 2) (C := RX11) (T := TX11) (tys := tyX11) (v := 2) (ty := .object "LastPages$Tokens") rfl (by decide) inX11 tyX11_ok nmX11 (by decide) rfl rfl rfl w3_1 (Or.inr ⟨rfl, rfl, rfl⟩) d_LP_init_20 rfl rfl rfl rfl rfl ?_
  show CW G 5 K_LP_init a 183 6136 (CQp G a c_LP_init) (XT q v a) 23 [(0, .ref a)] [] ((11, 0, [1, 2, (-1), (-1), (-1), (-1), (-1), (-1), (-1), (-1), (-1), (-1), 0, 0, 0, 0, 0, 0]) :: r_LP_init_3) 4 948
  refine cw_aload_n (pc := 23) d_LP_init_23 rfl 0 rfl ?_
  refine cw_new (pc := 24) (ci := 5) (N := 2) (C := RX5) (T := TX5) rfl (by decide) inX5 tyX5_ok fsX5 w1_138 w1_139 w1_7 d_LP_init_24 (by decide +kernel) (by decide) (by decide) ?_
  show CW G 5 K_LP_init a 183 6136 (CQp G a c_LP_init) (XT q v a) 27 [(0, .ref a)] [.ref (a + 5), .ref a] ((11, 0, [1, 2, (-1), (-1), (-1), (-1), (-1), (-1), (-1), (-1), (-1), (-1), 0, 0, 0, 0, 0, 0]) :: r_LP_init_4) 5 950
  refine cw_dup (pc := 27) d_LP_init_27 rfl ?_
  refine cw_ctorN (pc := 28) (b := a + 5) (st0 := [.ref (a + 5), .ref (a + 5), .ref a]) (sp0 := (11, 0, [1, 2, (-1), (-1), (-1), (-1), (-1), (-1), (-1), (-1), (-1), (-1), 0, 0, 0, 0, 0, 0]) :: r_LP_init_3) okI_SR_init (ok_SR_init G _) (List.mem_of_getElem? (i := 0) rfl) d_LP_init_28 rfl (by decide) (by decide) rfl rfl rfl (by decide +kernel) (Nat.le_of_ble_eq_true rfl) (fun _ _ _ _ _ => trivial) (fun _ _ _ _ _ _ _ _ => trivial) (by decide) (by decide) ?_
  show CW G 5 K_LP_init a 183 6136 (CQp G a c_LP_init) (XT q v a) 31 [(0, .ref a)] [.ref (a + 5), .ref a] ((11, 0, [1, 2, (-1), (-1), (-1), (-1), (-1), (-1), (-1), (-1), (-1), (-1), 0, 0, 0, 0, 0, 0]) :: r_LP_init_5) 6 960
  refine cw_put (pc := 31) (ci := 11) (k := 2) (N := 18) (t := 2) (C := RX11) (T := TX11) (tys := tyX11) (v := 5) (ty := .object "LastPages$ShelfReader") rfl (by decide) inX11 tyX11_ok nmX11 (by decide) rfl rfl rfl w3_2 (Or.inr ⟨rfl, rfl, rfl⟩) d_LP_init_31 rfl rfl rfl rfl rfl ?_
  show CW G 5 K_LP_init a 183 6136 (CQp G a c_LP_init) (XT q v a) 34 [(0, .ref a)] [] ((11, 0, [1, 2, 5, (-1), (-1), (-1), (-1), (-1), (-1), (-1), (-1), (-1), 0, 0, 0, 0, 0, 0]) :: r_LP_init_5) 6 960
  refine cw_aload_n (pc := 34) d_LP_init_34 rfl 0 rfl ?_
  refine cw_new (pc := 35) (ci := 10) (N := 2) (C := RX10) (T := TX10) rfl (by decide) inX10 tyX10_ok fsX10 w1_152 w1_153 w1_8 d_LP_init_35 (by decide +kernel) (by decide) (by decide) ?_
  show CW G 5 K_LP_init a 183 6136 (CQp G a c_LP_init) (XT q v a) 38 [(0, .ref a)] [.ref (a + 7), .ref a] ((11, 0, [1, 2, 5, (-1), (-1), (-1), (-1), (-1), (-1), (-1), (-1), (-1), 0, 0, 0, 0, 0, 0]) :: r_LP_init_6) 7 962
  refine cw_dup (pc := 38) d_LP_init_38 rfl ?_
  refine cw_ctorN (pc := 39) (b := a + 7) (st0 := [.ref (a + 7), .ref (a + 7), .ref a]) (sp0 := (11, 0, [1, 2, 5, (-1), (-1), (-1), (-1), (-1), (-1), (-1), (-1), (-1), 0, 0, 0, 0, 0, 0]) :: r_LP_init_5) okI_WR_init (ok_WR_init G _) (List.mem_of_getElem? (i := 1) rfl) d_LP_init_39 rfl (by decide) (by decide) rfl rfl rfl (by decide +kernel) (Nat.le_of_ble_eq_true rfl) (fun _ _ _ _ _ => trivial) (fun _ _ _ _ _ _ _ _ => trivial) (by decide) (by decide) ?_
  show CW G 5 K_LP_init a 183 6136 (CQp G a c_LP_init) (XT q v a) 42 [(0, .ref a)] [.ref (a + 7), .ref a] ((11, 0, [1, 2, 5, (-1), (-1), (-1), (-1), (-1), (-1), (-1), (-1), (-1), 0, 0, 0, 0, 0, 0]) :: r_LP_init_7) 8 965
  refine cw_put (pc := 42) (ci := 11) (k := 3) (N := 18) (t := 2) (C := RX11) (T := TX11) (tys := tyX11) (v := 7) (ty := .object "LastPages$WeeksReader") rfl (by decide) inX11 tyX11_ok nmX11 (by decide) rfl rfl rfl w3_3 (Or.inr ⟨rfl, rfl, rfl⟩) d_LP_init_42 rfl rfl rfl rfl rfl ?_
  show CW G 5 K_LP_init a 183 6136 (CQp G a c_LP_init) (XT q v a) 45 [(0, .ref a)] [] ((11, 0, [1, 2, 5, 7, (-1), (-1), (-1), (-1), (-1), (-1), (-1), (-1), 0, 0, 0, 0, 0, 0]) :: r_LP_init_7) 8 965
  refine cw_aload_n (pc := 45) d_LP_init_45 rfl 0 rfl ?_
  refine cw_iconst (pc := 46) (x := 3) d_LP_init_46 (by decide) ?_
  refine cw_newq (pc := 47) (kd := 23) (t0 := 3) (N := 3) (C := RX4) (vals := [(-1), (-1), (-1)]) w1_165 (fun _ h => h.2.1) rfl (cE_q23_3 G a) (by decide) (by decide) (by decide) d_LP_init_47 (by decide +kernel) (by decide) (by decide) ?_
  show CW G 5 K_LP_init a 183 6136 (CQp G a c_LP_init) (XT q v a) 50 [(0, .ref a)] [.ref (a + 9), .ref a] ((11, 0, [1, 2, 5, 7, (-1), (-1), (-1), (-1), (-1), (-1), (-1), (-1), 0, 0, 0, 0, 0, 0]) :: r_LP_init_8) 9 968
  refine cw_put (pc := 50) (ci := 11) (k := 4) (N := 18) (t := 2) (C := RX11) (T := TX11) (tys := tyX11) (v := 9) (ty := .array (.object "LastPages$Shelf")) rfl (by decide) inX11 tyX11_ok nmX11 (by decide) rfl rfl rfl w3_4 (Or.inr ⟨rfl, rfl, rfl⟩) d_LP_init_50 rfl rfl rfl rfl rfl ?_
  show CW G 5 K_LP_init a 183 6136 (CQp G a c_LP_init) (XT q v a) 53 [(0, .ref a)] [] ((11, 0, [1, 2, 5, 7, 9, (-1), (-1), (-1), (-1), (-1), (-1), (-1), 0, 0, 0, 0, 0, 0]) :: r_LP_init_8) 9 968
  refine cw_aload_n (pc := 53) d_LP_init_53 rfl 0 rfl ?_
  refine cw_new (pc := 54) (ci := 0) (N := 8) (C := RX0) (T := TX0) rfl (by decide) inX0 tyX0_ok fsX0 w1_167 w1_168 w1_9 d_LP_init_54 (by decide +kernel) (by decide) (by decide) ?_
  show CW G 5 K_LP_init a 183 6136 (CQp G a c_LP_init) (XT q v a) 57 [(0, .ref a)] [.ref (a + 10), .ref a] ((11, 0, [1, 2, 5, 7, 9, (-1), (-1), (-1), (-1), (-1), (-1), (-1), 0, 0, 0, 0, 0, 0]) :: r_LP_init_9) 10 976
  refine cw_dup (pc := 57) d_LP_init_57 rfl ?_
  refine cw_ctorN (pc := 58) (b := a + 10) (st0 := [.ref (a + 10), .ref (a + 10), .ref a]) (sp0 := (11, 0, [1, 2, 5, 7, 9, (-1), (-1), (-1), (-1), (-1), (-1), (-1), 0, 0, 0, 0, 0, 0]) :: r_LP_init_8) okI_En_init (ok_En_init G _) (List.mem_of_getElem? (i := 2) rfl) d_LP_init_58 rfl (by decide) (by decide) rfl rfl rfl (by decide +kernel) (Nat.le_of_ble_eq_true rfl) (fun _ _ _ _ _ => trivial) (fun _ _ _ _ _ _ _ _ => trivial) (by decide) (by decide) ?_
  show CW G 5 K_LP_init a 183 6136 (CQp G a c_LP_init) (XT q v a) 61 [(0, .ref a)] [.ref (a + 10), .ref a] ((11, 0, [1, 2, 5, 7, 9, (-1), (-1), (-1), (-1), (-1), (-1), (-1), 0, 0, 0, 0, 0, 0]) :: r_LP_init_10) 20 1292
  refine cw_put (pc := 61) (ci := 11) (k := 5) (N := 18) (t := 2) (C := RX11) (T := TX11) (tys := tyX11) (v := 10) (ty := .object "LastPages$Endings") rfl (by decide) inX11 tyX11_ok nmX11 (by decide) rfl rfl rfl w3_5 (Or.inr ⟨rfl, rfl, rfl⟩) d_LP_init_61 rfl rfl rfl rfl rfl ?_
  show CW G 5 K_LP_init a 183 6136 (CQp G a c_LP_init) (XT q v a) 64 [(0, .ref a)] [] ((11, 0, [1, 2, 5, 7, 9, 10, (-1), (-1), (-1), (-1), (-1), (-1), 0, 0, 0, 0, 0, 0]) :: r_LP_init_10) 20 1292
  refine cw_aload_n (pc := 64) d_LP_init_64 rfl 0 rfl ?_
  refine cw_new (pc := 65) (ci := 1) (N := 4) (C := RX1) (T := TX1) rfl (by decide) inX1 tyX1_ok fsX1 w2_3 w2_4 w1_11 d_LP_init_65 (by decide +kernel) (by decide) (by decide) ?_
  show CW G 5 K_LP_init a 183 6136 (CQp G a c_LP_init) (XT q v a) 68 [(0, .ref a)] [.ref (a + 21), .ref a] ((11, 0, [1, 2, 5, 7, 9, 10, (-1), (-1), (-1), (-1), (-1), (-1), 0, 0, 0, 0, 0, 0]) :: r_LP_init_11) 21 1296
  refine cw_dup (pc := 68) d_LP_init_68 rfl ?_
  refine cw_ctorN (pc := 69) (b := a + 21) (st0 := [.ref (a + 21), .ref (a + 21), .ref a]) (sp0 := (11, 0, [1, 2, 5, 7, 9, 10, (-1), (-1), (-1), (-1), (-1), (-1), 0, 0, 0, 0, 0, 0]) :: r_LP_init_10) okI_Fi_init (ok_Fi_init G _) (List.mem_of_getElem? (i := 4) rfl) d_LP_init_69 rfl (by decide) (by decide) rfl rfl rfl (by decide +kernel) (Nat.le_of_ble_eq_true rfl) (fun _ _ _ _ _ => trivial) (fun _ _ _ _ _ _ _ _ => trivial) (by decide) (by decide) ?_
  show CW G 5 K_LP_init a 183 6136 (CQp G a c_LP_init) (XT q v a) 72 [(0, .ref a)] [.ref (a + 21), .ref a] ((11, 0, [1, 2, 5, 7, 9, 10, (-1), (-1), (-1), (-1), (-1), (-1), 0, 0, 0, 0, 0, 0]) :: r_LP_init_12) 23 1558
  refine cw_put (pc := 72) (ci := 11) (k := 6) (N := 18) (t := 2) (C := RX11) (T := TX11) (tys := tyX11) (v := 21) (ty := .object "LastPages$Fitting") rfl (by decide) inX11 tyX11_ok nmX11 (by decide) rfl rfl rfl w3_6 (Or.inr ⟨rfl, rfl, rfl⟩) d_LP_init_72 rfl rfl rfl rfl rfl ?_
  show CW G 5 K_LP_init a 183 6136 (CQp G a c_LP_init) (XT q v a) 75 [(0, .ref a)] [] ((11, 0, [1, 2, 5, 7, 9, 10, 21, (-1), (-1), (-1), (-1), (-1), 0, 0, 0, 0, 0, 0]) :: r_LP_init_12) 23 1558
  refine cw_aload_n (pc := 75) d_LP_init_75 rfl 0 rfl ?_
  refine cw_new (pc := 76) (ci := 2) (N := 7) (C := RX2) (T := TX2) rfl (by decide) inX2 tyX2_ok fsX2 w2_22 w2_23 w1_12 d_LP_init_76 (by decide +kernel) (by decide) (by decide) ?_
  show CW G 5 K_LP_init a 183 6136 (CQp G a c_LP_init) (XT q v a) 79 [(0, .ref a)] [.ref (a + 24), .ref a] ((11, 0, [1, 2, 5, 7, 9, 10, 21, (-1), (-1), (-1), (-1), (-1), 0, 0, 0, 0, 0, 0]) :: r_LP_init_13) 24 1565
  refine cw_dup (pc := 79) d_LP_init_79 rfl ?_
  refine cw_ctorN (pc := 80) (b := a + 24) (st0 := [.ref (a + 24), .ref (a + 24), .ref a]) (sp0 := (11, 0, [1, 2, 5, 7, 9, 10, 21, (-1), (-1), (-1), (-1), (-1), 0, 0, 0, 0, 0, 0]) :: r_LP_init_12) okI_Li_init (ok_Li_init G _) (List.mem_of_getElem? (i := 5) rfl) d_LP_init_80 rfl (by decide) (by decide) rfl rfl rfl (by decide +kernel) (Nat.le_of_ble_eq_true rfl) (fun _ _ _ _ _ => trivial) (fun _ _ _ _ _ _ _ _ => trivial) (by decide) (by decide) ?_
  show CW G 5 K_LP_init a 183 6136 (CQp G a c_LP_init) (XT q v a) 83 [(0, .ref a)] [.ref (a + 24), .ref a] ((11, 0, [1, 2, 5, 7, 9, 10, 21, (-1), (-1), (-1), (-1), (-1), 0, 0, 0, 0, 0, 0]) :: r_LP_init_14) 28 1642
  refine cw_put (pc := 83) (ci := 11) (k := 7) (N := 18) (t := 2) (C := RX11) (T := TX11) (tys := tyX11) (v := 24) (ty := .object "LastPages$Life") rfl (by decide) inX11 tyX11_ok nmX11 (by decide) rfl rfl rfl w3_7 (Or.inr ⟨rfl, rfl, rfl⟩) d_LP_init_83 rfl rfl rfl rfl rfl ?_
  show CW G 5 K_LP_init a 183 6136 (CQp G a c_LP_init) (XT q v a) 86 [(0, .ref a)] [] ((11, 0, [1, 2, 5, 7, 9, 10, 21, 24, (-1), (-1), (-1), (-1), 0, 0, 0, 0, 0, 0]) :: r_LP_init_14) 28 1642
  refine cw_aload_n (pc := 86) d_LP_init_86 rfl 0 rfl ?_
  refine cw_iconst (pc := 87) (x := 5) d_LP_init_87 (by decide) ?_
  refine cw_newi (pc := 88) (N := 5) w1_151 (by decide) (by decide) (by decide) d_LP_init_88 (by decide +kernel) (by decide) (by decide) ?_
  show CW G 5 K_LP_init a 183 6136 (CQp G a c_LP_init) (XT q v a) 90 [(0, .ref a)] [.ref (a + 29), .ref a] ((11, 0, [1, 2, 5, 7, 9, 10, 21, 24, (-1), (-1), (-1), (-1), 0, 0, 0, 0, 0, 0]) :: r_LP_init_15) 29 1647
  refine cw_put (pc := 90) (ci := 11) (k := 8) (N := 18) (t := 2) (C := RX11) (T := TX11) (tys := tyX11) (v := 29) (ty := .array .int) rfl (by decide) inX11 tyX11_ok nmX11 (by decide) rfl rfl rfl w3_8 (Or.inr ⟨rfl, rfl, rfl⟩) d_LP_init_90 rfl rfl rfl rfl rfl ?_
  show CW G 5 K_LP_init a 183 6136 (CQp G a c_LP_init) (XT q v a) 93 [(0, .ref a)] [] ((11, 0, [1, 2, 5, 7, 9, 10, 21, 24, 29, (-1), (-1), (-1), 0, 0, 0, 0, 0, 0]) :: r_LP_init_15) 29 1647
  refine cw_aload_n (pc := 93) d_LP_init_93 rfl 0 rfl ?_
  refine cw_new (pc := 94) (ci := 4) (N := 19) (C := RX4) (T := TX4) rfl (by decide) inX4 tyX4_ok fsX4 w1_165 w2_52 w1_13 d_LP_init_94 (by decide +kernel) (by decide) (by decide) ?_
  show CW G 5 K_LP_init a 183 6136 (CQp G a c_LP_init) (XT q v a) 97 [(0, .ref a)] [.ref (a + 30), .ref a] ((11, 0, [1, 2, 5, 7, 9, 10, 21, 24, 29, (-1), (-1), (-1), 0, 0, 0, 0, 0, 0]) :: r_LP_init_16) 30 1666
  refine cw_dup (pc := 97) d_LP_init_97 rfl ?_
  refine cw_ctorN (pc := 98) (b := a + 30) (st0 := [.ref (a + 30), .ref (a + 30), .ref a]) (sp0 := (11, 0, [1, 2, 5, 7, 9, 10, 21, 24, 29, (-1), (-1), (-1), 0, 0, 0, 0, 0, 0]) :: r_LP_init_15) okI_Sh_init (ok_Sh_init G _) (List.mem_of_getElem? (i := 6) rfl) d_LP_init_98 rfl (by decide) (by decide) rfl rfl rfl (by decide +kernel) (Nat.le_of_ble_eq_true rfl) (fun _ _ _ _ _ => trivial) (fun _ _ _ _ _ _ _ _ => trivial) (by decide) (by decide) ?_
  show CW G 5 K_LP_init a 183 6136 (CQp G a c_LP_init) (XT q v a) 101 [(0, .ref a)] [.ref (a + 30), .ref a] ((11, 0, [1, 2, 5, 7, 9, 10, 21, 24, 29, (-1), (-1), (-1), 0, 0, 0, 0, 0, 0]) :: r_LP_init_17) 57 2432
  refine cw_put (pc := 101) (ci := 11) (k := 9) (N := 18) (t := 2) (C := RX11) (T := TX11) (tys := tyX11) (v := 30) (ty := .object "LastPages$Shelf") rfl (by decide) inX11 tyX11_ok nmX11 (by decide) rfl rfl rfl w3_9 (Or.inl rfl) d_LP_init_101 rfl rfl rfl rfl rfl ?_
  show CW G 5 K_LP_init a 183 6136 (CQp G a c_LP_init) (XT q v a) 104 [(0, .ref a)] [] ((11, 0, [1, 2, 5, 7, 9, 10, 21, 24, 29, 30, (-1), (-1), 0, 0, 0, 0, 0, 0]) :: r_LP_init_17) 57 2432
  refine cw_aload_n (pc := 104) d_LP_init_104 rfl 0 rfl ?_
  refine cw_new (pc := 105) (ci := 4) (N := 19) (C := RX4) (T := TX4) rfl (by decide) inX4 tyX4_ok fsX4 w1_165 w2_52 w1_13 d_LP_init_105 (by decide +kernel) (by decide) (by decide) ?_
  show CW G 5 K_LP_init a 183 6136 (CQp G a c_LP_init) (XT q v a) 108 [(0, .ref a)] [.ref (a + 58), .ref a] ((11, 0, [1, 2, 5, 7, 9, 10, 21, 24, 29, 30, (-1), (-1), 0, 0, 0, 0, 0, 0]) :: r_LP_init_18) 58 2451
  refine cw_dup (pc := 108) d_LP_init_108 rfl ?_
  refine cw_ctorN (pc := 109) (b := a + 58) (st0 := [.ref (a + 58), .ref (a + 58), .ref a]) (sp0 := (11, 0, [1, 2, 5, 7, 9, 10, 21, 24, 29, 30, (-1), (-1), 0, 0, 0, 0, 0, 0]) :: r_LP_init_17) okI_Sh_init (ok_Sh_init G _) (List.mem_of_getElem? (i := 6) rfl) d_LP_init_109 rfl (by decide) (by decide) rfl rfl rfl (by decide +kernel) (Nat.le_of_ble_eq_true rfl) (fun _ _ _ _ _ => trivial) (fun _ _ _ _ _ _ _ _ => trivial) (by decide) (by decide) ?_
  show CW G 5 K_LP_init a 183 6136 (CQp G a c_LP_init) (XT q v a) 112 [(0, .ref a)] [.ref (a + 58), .ref a] ((11, 0, [1, 2, 5, 7, 9, 10, 21, 24, 29, 30, (-1), (-1), 0, 0, 0, 0, 0, 0]) :: r_LP_init_19) 85 3217
  refine cw_put (pc := 112) (ci := 11) (k := 10) (N := 18) (t := 2) (C := RX11) (T := TX11) (tys := tyX11) (v := 58) (ty := .object "LastPages$Shelf") rfl (by decide) inX11 tyX11_ok nmX11 (by decide) rfl rfl rfl w3_10 (Or.inl rfl) d_LP_init_112 rfl rfl rfl rfl rfl ?_
  show CW G 5 K_LP_init a 183 6136 (CQp G a c_LP_init) (XT q v a) 115 [(0, .ref a)] [] ((11, 0, [1, 2, 5, 7, 9, 10, 21, 24, 29, 30, 58, (-1), 0, 0, 0, 0, 0, 0]) :: r_LP_init_19) 85 3217
  refine cw_aload_n (pc := 115) d_LP_init_115 rfl 0 rfl ?_
  refine cw_new (pc := 116) (ci := 9) (N := 8) (C := RX9) (T := TX9) rfl (by decide) inX9 tyX9_ok fsX9 w2_213 w2_84 w1_16 d_LP_init_116 (by decide +kernel) (by decide) (by decide) ?_
  show CW G 5 K_LP_init a 183 6136 (CQp G a c_LP_init) (XT q v a) 119 [(0, .ref a)] [.ref (a + 86), .ref a] ((11, 0, [1, 2, 5, 7, 9, 10, 21, 24, 29, 30, 58, (-1), 0, 0, 0, 0, 0, 0]) :: r_LP_init_20) 86 3225
  refine cw_dup (pc := 119) d_LP_init_119 rfl ?_
  refine cw_ctorN (pc := 120) (b := a + 86) (st0 := [.ref (a + 86), .ref (a + 86), .ref a]) (sp0 := (11, 0, [1, 2, 5, 7, 9, 10, 21, 24, 29, 30, 58, (-1), 0, 0, 0, 0, 0, 0]) :: r_LP_init_19) okI_We_init (ok_We_init G _) (List.mem_of_getElem? (i := 9) rfl) d_LP_init_120 rfl (by decide) (by decide) rfl rfl rfl (by decide +kernel) (Nat.le_of_ble_eq_true rfl) (fun _ _ _ _ _ => trivial) (fun _ _ _ _ _ _ _ _ => trivial) (by decide) (by decide) ?_
  show CW G 5 K_LP_init a 183 6136 (CQp G a c_LP_init) (XT q v a) 123 [(0, .ref a)] [.ref (a + 86), .ref a] ((11, 0, [1, 2, 5, 7, 9, 10, 21, 24, 29, 30, 58, (-1), 0, 0, 0, 0, 0, 0]) :: r_LP_init_21) 91 3525
  refine cw_put (pc := 123) (ci := 11) (k := 11) (N := 18) (t := 2) (C := RX11) (T := TX11) (tys := tyX11) (v := 86) (ty := .object "LastPages$Weeks") rfl (by decide) inX11 tyX11_ok nmX11 (by decide) rfl rfl rfl w3_11 (Or.inl rfl) d_LP_init_123 rfl rfl rfl rfl rfl ?_
  show CW G 5 K_LP_init a 183 6136 (CQp G a c_LP_init) (XT q v a) 126 [(0, .ref a)] [] ((11, 0, [1, 2, 5, 7, 9, 10, 21, 24, 29, 30, 58, 86, 0, 0, 0, 0, 0, 0]) :: r_LP_init_21) 91 3525
  refine cw_aload_n (pc := 126) d_LP_init_126 rfl 0 rfl ?_
  refine cw_iconst (pc := 127) (x := 0) d_LP_init_127 (by decide) ?_
  refine cw_put (pc := 128) (ci := 11) (k := 12) (N := 18) (t := 0) (C := RX11) (T := TX11) (tys := tyX11) (v := 0) (ty := .int) rfl (by decide) inX11 tyX11_ok nmX11 (by decide) rfl rfl rfl w3_12 (Or.inl rfl) d_LP_init_128 rfl rfl rfl rfl rfl ?_
  show CW G 5 K_LP_init a 183 6136 (CQp G a c_LP_init) (XT q v a) 131 [(0, .ref a)] [] ((11, 0, [1, 2, 5, 7, 9, 10, 21, 24, 29, 30, 58, 86, 0, 0, 0, 0, 0, 0]) :: r_LP_init_21) 91 3525
  refine cw_aload_n (pc := 131) d_LP_init_131 rfl 0 rfl ?_
  refine cw_lconst (pc := 132) (x := 0) d_LP_init_132 (by decide) ?_
  refine cw_put (pc := 133) (ci := 11) (k := 13) (N := 18) (t := 1) (C := RX11) (T := TX11) (tys := tyX11) (v := 0) (ty := .long) rfl (by decide) inX11 tyX11_ok nmX11 (by decide) rfl rfl rfl w3_13 (Or.inl rfl) d_LP_init_133 rfl rfl rfl rfl rfl ?_
  show CW G 5 K_LP_init a 183 6136 (CQp G a c_LP_init) (XT q v a) 136 [(0, .ref a)] [] ((11, 0, [1, 2, 5, 7, 9, 10, 21, 24, 29, 30, 58, 86, 0, 0, 0, 0, 0, 0]) :: r_LP_init_21) 91 3525
  refine cw_aload_n (pc := 136) d_LP_init_136 rfl 0 rfl ?_
  refine cw_lconst (pc := 137) (x := 1) d_LP_init_137 (by decide) ?_
  refine cw_put (pc := 138) (ci := 11) (k := 14) (N := 18) (t := 1) (C := RX11) (T := TX11) (tys := tyX11) (v := 1) (ty := .long) rfl (by decide) inX11 tyX11_ok nmX11 (by decide) rfl rfl rfl w3_14 (Or.inl rfl) d_LP_init_138 rfl rfl rfl rfl rfl ?_
  show CW G 5 K_LP_init a 183 6136 (CQp G a c_LP_init) (XT q v a) 141 [(0, .ref a)] [] ((11, 0, [1, 2, 5, 7, 9, 10, 21, 24, 29, 30, 58, 86, 0, 0, 1, 0, 0, 0]) :: r_LP_init_21) 91 3525
  refine cw_aload_n (pc := 141) d_LP_init_141 rfl 0 rfl ?_
  refine cw_iconst (pc := 142) (x := (-1)) d_LP_init_142 (by decide) ?_
  refine cw_put (pc := 143) (ci := 11) (k := 15) (N := 18) (t := 0) (C := RX11) (T := TX11) (tys := tyX11) (v := (-1)) (ty := .int) rfl (by decide) inX11 tyX11_ok nmX11 (by decide) rfl rfl rfl w3_15 (Or.inl rfl) d_LP_init_143 rfl rfl rfl rfl rfl ?_
  show CW G 5 K_LP_init a 183 6136 (CQp G a c_LP_init) (XT q v a) 146 [(0, .ref a)] [] ((11, 0, [1, 2, 5, 7, 9, 10, 21, 24, 29, 30, 58, 86, 0, 0, 1, (-1), 0, 0]) :: r_LP_init_21) 91 3525
  refine cw_aload_n (pc := 146) d_LP_init_146 rfl 0 rfl ?_
  refine cw_iconst (pc := 147) (x := (-1)) d_LP_init_147 (by decide) ?_
  refine cw_put (pc := 148) (ci := 11) (k := 16) (N := 18) (t := 0) (C := RX11) (T := TX11) (tys := tyX11) (v := (-1)) (ty := .int) rfl (by decide) inX11 tyX11_ok nmX11 (by decide) rfl rfl rfl w3_16 (Or.inl rfl) d_LP_init_148 rfl rfl rfl rfl rfl ?_
  show CW G 5 K_LP_init a 183 6136 (CQp G a c_LP_init) (XT q v a) 151 [(0, .ref a)] [] ((11, 0, [1, 2, 5, 7, 9, 10, 21, 24, 29, 30, 58, 86, 0, 0, 1, (-1), (-1), 0]) :: r_LP_init_21) 91 3525
  refine cw_aload_n (pc := 151) d_LP_init_151 rfl 0 rfl ?_
  refine cw_iconst (pc := 152) (x := 0) d_LP_init_152 (by decide) ?_
  refine cw_put (pc := 153) (ci := 11) (k := 17) (N := 18) (t := 0) (C := RX11) (T := TX11) (tys := tyX11) (v := 0) (ty := .int) rfl (by decide) inX11 tyX11_ok nmX11 (by decide) rfl rfl rfl w3_17 (Or.inl rfl) d_LP_init_153 rfl rfl rfl rfl rfl ?_
  show CW G 5 K_LP_init a 183 6136 (CQp G a c_LP_init) (XT q v a) 156 [(0, .ref a)] [] ((11, 0, [1, 2, 5, 7, 9, 10, 21, 24, 29, 30, 58, 86, 0, 0, 1, (-1), (-1), 0]) :: r_LP_init_21) 91 3525
  refine cw_iconst (pc := 156) (x := 0) d_LP_init_156 (by decide) ?_
  refine cw_istore_n (pc := 157) (lv' := [(1, .int 0), (0, .ref a)]) d_LP_init_157 rfl (by decide) rfl ?_
  refine cw_iload_n (pc := 158) d_LP_init_158 rfl 0 rfl ?_
  refine cw_iconst (pc := 159) (x := 4) d_LP_init_159 (by decide) ?_
  refine cw_ge_f (pc := 160) (tgt := 182) d_LP_init_160 (by decide) (by decide) ?_
  refine cw_aload_n (pc := 163) d_LP_init_163 rfl 1 rfl ?_
  refine cw_get (pc := 164) (ci := 11) (k := 0) (N := 18) (t := 2) (C := RX11) (T := TX11) (v := 1) (v0 := .ref (a + 1)) rfl (by decide) inX11 (by decide) rfl rfl w3_0 d_LP_init_164 rfl rfl rfl ?_
  refine cw_iload_n (pc := 167) d_LP_init_167 rfl 0 rfl ?_
  refine cw_new (pc := 168) (ci := 8) (N := 4) (C := RX8) (T := TX8) rfl (by decide) inX8 tyX8_ok fsX8 w1_30 w2_215 w1_17 d_LP_init_168 (by decide +kernel) (by decide) (by decide) ?_
  show CW G 5 K_LP_init a 183 6136 (CQp G a c_LP_init) (XT q v a) 171 [(1, .int 0), (0, .ref a)] [.ref (a + 92), .int 0, .ref (a + 1)] ((11, 0, [1, 2, 5, 7, 9, 10, 21, 24, 29, 30, 58, 86, 0, 0, 1, (-1), (-1), 0]) :: r_LP_init_22) 92 3529
  refine cw_dup (pc := 171) d_LP_init_171 rfl ?_
  refine cw_ctorN (pc := 172) (b := a + 92) (st0 := [.ref (a + 92), .ref (a + 92), .int 0, .ref (a + 1)]) (sp0 := (11, 0, [1, 2, 5, 7, 9, 10, 21, 24, 29, 30, 58, 86, 0, 0, 1, (-1), (-1), 0]) :: r_LP_init_21) okI_Tr_init (ok_Tr_init G _) (List.mem_of_getElem? (i := 10) rfl) d_LP_init_172 rfl (by decide) (by decide) rfl rfl rfl (by decide +kernel) (Nat.le_of_ble_eq_true rfl) (fun _ _ _ _ _ => trivial) (fun _ _ _ _ _ _ _ _ => trivial) (by decide) (by decide) ?_
  show CW G 5 K_LP_init a 183 6136 (CQp G a c_LP_init) (XT q v a) 175 [(1, .int 0), (0, .ref a)] [.ref (a + 92), .int 0, .ref (a + 1)] ((11, 0, [1, 2, 5, 7, 9, 10, 21, 24, 29, 30, 58, 86, 0, 0, 1, (-1), (-1), 0]) :: r_LP_init_23) 93 3589
  refine cw_aast (pc := 175) (q0 := 1) (t0 := 4) (qk := 92) (ci := 8) (kd := 24) (N := 4) (off := 0) (r := (RX8, TX8, 4)) (vals := [(-1), (-1), (-1), (-1)]) (sp1 := (11, 0, [1, 2, 5, 7, 9, 10, 21, 24, 29, 30, 58, 86, 0, 0, 1, (-1), (-1), 0]) :: r_LP_init_24) rfl rfl (by decide) rfl (fun _ => rfl) rfl rfl (by decide) (by decide) (by decide) rfl d_LP_init_175 rfl ?_
  show CW G 5 K_LP_init a 183 6136 (CQp G a c_LP_init) (XT q v a) 176 [(1, .int 0), (0, .ref a)] [] ((11, 0, [1, 2, 5, 7, 9, 10, 21, 24, 29, 30, 58, 86, 0, 0, 1, (-1), (-1), 0]) :: r_LP_init_24) 93 3589
  refine cw_iinc (pc := 176) (x := 0) (v := 1) (lv' := [(1, .int 1), (0, .ref a)]) (q := 0) d_LP_init_176 rfl (by decide) (by decide) rfl ?_
  refine cw_goto (pc := 179) (tgt := 158) d_LP_init_179 (by decide) ?_
  refine cw_iload_n (pc := 158) d_LP_init_158 rfl 0 rfl ?_
  refine cw_iconst (pc := 159) (x := 4) d_LP_init_159 (by decide) ?_
  refine cw_ge_f (pc := 160) (tgt := 182) d_LP_init_160 (by decide) (by decide) ?_
  refine cw_aload_n (pc := 163) d_LP_init_163 rfl 1 rfl ?_
  refine cw_get (pc := 164) (ci := 11) (k := 0) (N := 18) (t := 2) (C := RX11) (T := TX11) (v := 1) (v0 := .ref (a + 1)) rfl (by decide) inX11 (by decide) rfl rfl w3_0 d_LP_init_164 rfl rfl rfl ?_
  refine cw_iload_n (pc := 167) d_LP_init_167 rfl 0 rfl ?_
  refine cw_new (pc := 168) (ci := 8) (N := 4) (C := RX8) (T := TX8) rfl (by decide) inX8 tyX8_ok fsX8 w1_30 w2_215 w1_17 d_LP_init_168 (by decide +kernel) (by decide) (by decide) ?_
  show CW G 5 K_LP_init a 183 6136 (CQp G a c_LP_init) (XT q v a) 171 [(1, .int 1), (0, .ref a)] [.ref (a + 94), .int 1, .ref (a + 1)] ((11, 0, [1, 2, 5, 7, 9, 10, 21, 24, 29, 30, 58, 86, 0, 0, 1, (-1), (-1), 0]) :: r_LP_init_25) 94 3593
  refine cw_dup (pc := 171) d_LP_init_171 rfl ?_
  refine cw_ctorN (pc := 172) (b := a + 94) (st0 := [.ref (a + 94), .ref (a + 94), .int 1, .ref (a + 1)]) (sp0 := (11, 0, [1, 2, 5, 7, 9, 10, 21, 24, 29, 30, 58, 86, 0, 0, 1, (-1), (-1), 0]) :: r_LP_init_24) okI_Tr_init (ok_Tr_init G _) (List.mem_of_getElem? (i := 10) rfl) d_LP_init_172 rfl (by decide) (by decide) rfl rfl rfl (by decide +kernel) (Nat.le_of_ble_eq_true rfl) (fun _ _ _ _ _ => trivial) (fun _ _ _ _ _ _ _ _ => trivial) (by decide) (by decide) ?_
  show CW G 5 K_LP_init a 183 6136 (CQp G a c_LP_init) (XT q v a) 175 [(1, .int 1), (0, .ref a)] [.ref (a + 94), .int 1, .ref (a + 1)] ((11, 0, [1, 2, 5, 7, 9, 10, 21, 24, 29, 30, 58, 86, 0, 0, 1, (-1), (-1), 0]) :: r_LP_init_26) 95 3653
  refine cw_aast (pc := 175) (q0 := 1) (t0 := 4) (qk := 94) (ci := 8) (kd := 24) (N := 4) (off := 1) (r := (RX8, TX8, 4)) (vals := [92, (-1), (-1), (-1)]) (sp1 := (11, 0, [1, 2, 5, 7, 9, 10, 21, 24, 29, 30, 58, 86, 0, 0, 1, (-1), (-1), 0]) :: r_LP_init_27) rfl rfl (by decide) rfl (fun _ => rfl) rfl rfl (by decide) (by decide) (by decide) rfl d_LP_init_175 rfl ?_
  show CW G 5 K_LP_init a 183 6136 (CQp G a c_LP_init) (XT q v a) 176 [(1, .int 1), (0, .ref a)] [] ((11, 0, [1, 2, 5, 7, 9, 10, 21, 24, 29, 30, 58, 86, 0, 0, 1, (-1), (-1), 0]) :: r_LP_init_27) 95 3653
  refine cw_iinc (pc := 176) (x := 1) (v := 2) (lv' := [(1, .int 2), (0, .ref a)]) (q := 0) d_LP_init_176 rfl (by decide) (by decide) rfl ?_
  refine cw_goto (pc := 179) (tgt := 158) d_LP_init_179 (by decide) ?_
  refine cw_iload_n (pc := 158) d_LP_init_158 rfl 0 rfl ?_
  refine cw_iconst (pc := 159) (x := 4) d_LP_init_159 (by decide) ?_
  refine cw_ge_f (pc := 160) (tgt := 182) d_LP_init_160 (by decide) (by decide) ?_
  refine cw_aload_n (pc := 163) d_LP_init_163 rfl 1 rfl ?_
  refine cw_get (pc := 164) (ci := 11) (k := 0) (N := 18) (t := 2) (C := RX11) (T := TX11) (v := 1) (v0 := .ref (a + 1)) rfl (by decide) inX11 (by decide) rfl rfl w3_0 d_LP_init_164 rfl rfl rfl ?_
  refine cw_iload_n (pc := 167) d_LP_init_167 rfl 0 rfl ?_
  refine cw_new (pc := 168) (ci := 8) (N := 4) (C := RX8) (T := TX8) rfl (by decide) inX8 tyX8_ok fsX8 w1_30 w2_215 w1_17 d_LP_init_168 (by decide +kernel) (by decide) (by decide) ?_
  show CW G 5 K_LP_init a 183 6136 (CQp G a c_LP_init) (XT q v a) 171 [(1, .int 2), (0, .ref a)] [.ref (a + 96), .int 2, .ref (a + 1)] ((11, 0, [1, 2, 5, 7, 9, 10, 21, 24, 29, 30, 58, 86, 0, 0, 1, (-1), (-1), 0]) :: r_LP_init_28) 96 3657
  refine cw_dup (pc := 171) d_LP_init_171 rfl ?_
  refine cw_ctorN (pc := 172) (b := a + 96) (st0 := [.ref (a + 96), .ref (a + 96), .int 2, .ref (a + 1)]) (sp0 := (11, 0, [1, 2, 5, 7, 9, 10, 21, 24, 29, 30, 58, 86, 0, 0, 1, (-1), (-1), 0]) :: r_LP_init_27) okI_Tr_init (ok_Tr_init G _) (List.mem_of_getElem? (i := 10) rfl) d_LP_init_172 rfl (by decide) (by decide) rfl rfl rfl (by decide +kernel) (Nat.le_of_ble_eq_true rfl) (fun _ _ _ _ _ => trivial) (fun _ _ _ _ _ _ _ _ => trivial) (by decide) (by decide) ?_
  show CW G 5 K_LP_init a 183 6136 (CQp G a c_LP_init) (XT q v a) 175 [(1, .int 2), (0, .ref a)] [.ref (a + 96), .int 2, .ref (a + 1)] ((11, 0, [1, 2, 5, 7, 9, 10, 21, 24, 29, 30, 58, 86, 0, 0, 1, (-1), (-1), 0]) :: r_LP_init_29) 97 3717
  refine cw_aast (pc := 175) (q0 := 1) (t0 := 4) (qk := 96) (ci := 8) (kd := 24) (N := 4) (off := 2) (r := (RX8, TX8, 4)) (vals := [92, 94, (-1), (-1)]) (sp1 := (11, 0, [1, 2, 5, 7, 9, 10, 21, 24, 29, 30, 58, 86, 0, 0, 1, (-1), (-1), 0]) :: r_LP_init_30) rfl rfl (by decide) rfl (fun _ => rfl) rfl rfl (by decide) (by decide) (by decide) rfl d_LP_init_175 rfl ?_
  show CW G 5 K_LP_init a 183 6136 (CQp G a c_LP_init) (XT q v a) 176 [(1, .int 2), (0, .ref a)] [] ((11, 0, [1, 2, 5, 7, 9, 10, 21, 24, 29, 30, 58, 86, 0, 0, 1, (-1), (-1), 0]) :: r_LP_init_30) 97 3717
  refine cw_iinc (pc := 176) (x := 2) (v := 3) (lv' := [(1, .int 3), (0, .ref a)]) (q := 0) d_LP_init_176 rfl (by decide) (by decide) rfl ?_
  refine cw_goto (pc := 179) (tgt := 158) d_LP_init_179 (by decide) ?_
  refine cw_iload_n (pc := 158) d_LP_init_158 rfl 0 rfl ?_
  refine cw_iconst (pc := 159) (x := 4) d_LP_init_159 (by decide) ?_
  refine cw_ge_f (pc := 160) (tgt := 182) d_LP_init_160 (by decide) (by decide) ?_
  refine cw_aload_n (pc := 163) d_LP_init_163 rfl 1 rfl ?_
  refine cw_get (pc := 164) (ci := 11) (k := 0) (N := 18) (t := 2) (C := RX11) (T := TX11) (v := 1) (v0 := .ref (a + 1)) rfl (by decide) inX11 (by decide) rfl rfl w3_0 d_LP_init_164 rfl rfl rfl ?_
  refine cw_iload_n (pc := 167) d_LP_init_167 rfl 0 rfl ?_
  refine cw_new (pc := 168) (ci := 8) (N := 4) (C := RX8) (T := TX8) rfl (by decide) inX8 tyX8_ok fsX8 w1_30 w2_215 w1_17 d_LP_init_168 (by decide +kernel) (by decide) (by decide) ?_
  show CW G 5 K_LP_init a 183 6136 (CQp G a c_LP_init) (XT q v a) 171 [(1, .int 3), (0, .ref a)] [.ref (a + 98), .int 3, .ref (a + 1)] ((11, 0, [1, 2, 5, 7, 9, 10, 21, 24, 29, 30, 58, 86, 0, 0, 1, (-1), (-1), 0]) :: r_LP_init_31) 98 3721
  refine cw_dup (pc := 171) d_LP_init_171 rfl ?_
  refine cw_ctorN (pc := 172) (b := a + 98) (st0 := [.ref (a + 98), .ref (a + 98), .int 3, .ref (a + 1)]) (sp0 := (11, 0, [1, 2, 5, 7, 9, 10, 21, 24, 29, 30, 58, 86, 0, 0, 1, (-1), (-1), 0]) :: r_LP_init_30) okI_Tr_init (ok_Tr_init G _) (List.mem_of_getElem? (i := 10) rfl) d_LP_init_172 rfl (by decide) (by decide) rfl rfl rfl (by decide +kernel) (Nat.le_of_ble_eq_true rfl) (fun _ _ _ _ _ => trivial) (fun _ _ _ _ _ _ _ _ => trivial) (by decide) (by decide) ?_
  show CW G 5 K_LP_init a 183 6136 (CQp G a c_LP_init) (XT q v a) 175 [(1, .int 3), (0, .ref a)] [.ref (a + 98), .int 3, .ref (a + 1)] ((11, 0, [1, 2, 5, 7, 9, 10, 21, 24, 29, 30, 58, 86, 0, 0, 1, (-1), (-1), 0]) :: r_LP_init_32) 99 3781
  refine cw_aast (pc := 175) (q0 := 1) (t0 := 4) (qk := 98) (ci := 8) (kd := 24) (N := 4) (off := 3) (r := (RX8, TX8, 4)) (vals := [92, 94, 96, (-1)]) (sp1 := (11, 0, [1, 2, 5, 7, 9, 10, 21, 24, 29, 30, 58, 86, 0, 0, 1, (-1), (-1), 0]) :: r_LP_init_33) rfl rfl (by decide) rfl (fun _ => rfl) rfl rfl (by decide) (by decide) (by decide) rfl d_LP_init_175 rfl ?_
  show CW G 5 K_LP_init a 183 6136 (CQp G a c_LP_init) (XT q v a) 176 [(1, .int 3), (0, .ref a)] [] ((11, 0, [1, 2, 5, 7, 9, 10, 21, 24, 29, 30, 58, 86, 0, 0, 1, (-1), (-1), 0]) :: r_LP_init_33) 99 3781
  refine cw_iinc (pc := 176) (x := 3) (v := 4) (lv' := [(1, .int 4), (0, .ref a)]) (q := 0) d_LP_init_176 rfl (by decide) (by decide) rfl ?_
  refine cw_goto (pc := 179) (tgt := 158) d_LP_init_179 (by decide) ?_
  refine cw_iload_n (pc := 158) d_LP_init_158 rfl 0 rfl ?_
  refine cw_iconst (pc := 159) (x := 4) d_LP_init_159 (by decide) ?_
  refine cw_ge_t (pc := 160) (tgt := 182) d_LP_init_160 (by decide) (by decide) ?_
  refine cw_iconst (pc := 182) (x := 0) d_LP_init_182 (by decide) ?_
  refine cw_istore_n (pc := 183) (lv' := [(1, .int 0), (0, .ref a)]) d_LP_init_183 rfl (by decide) rfl ?_
  refine cw_iload_n (pc := 184) d_LP_init_184 rfl 0 rfl ?_
  refine cw_iconst (pc := 185) (x := 3) d_LP_init_185 (by decide) ?_
  refine cw_ge_f (pc := 186) (tgt := 208) d_LP_init_186 (by decide) (by decide) ?_
  refine cw_aload_n (pc := 189) d_LP_init_189 rfl 1 rfl ?_
  refine cw_get (pc := 190) (ci := 11) (k := 4) (N := 18) (t := 2) (C := RX11) (T := TX11) (v := 9) (v0 := .ref (a + 9)) rfl (by decide) inX11 (by decide) rfl rfl w3_4 d_LP_init_190 rfl rfl rfl ?_
  refine cw_iload_n (pc := 193) d_LP_init_193 rfl 0 rfl ?_
  refine cw_new (pc := 194) (ci := 4) (N := 19) (C := RX4) (T := TX4) rfl (by decide) inX4 tyX4_ok fsX4 w1_165 w2_52 w1_13 d_LP_init_194 (by decide +kernel) (by decide) (by decide) ?_
  show CW G 5 K_LP_init a 183 6136 (CQp G a c_LP_init) (XT q v a) 197 [(1, .int 0), (0, .ref a)] [.ref (a + 100), .int 0, .ref (a + 9)] ((11, 0, [1, 2, 5, 7, 9, 10, 21, 24, 29, 30, 58, 86, 0, 0, 1, (-1), (-1), 0]) :: r_LP_init_34) 100 3800
  refine cw_dup (pc := 197) d_LP_init_197 rfl ?_
  refine cw_ctorN (pc := 198) (b := a + 100) (st0 := [.ref (a + 100), .ref (a + 100), .int 0, .ref (a + 9)]) (sp0 := (11, 0, [1, 2, 5, 7, 9, 10, 21, 24, 29, 30, 58, 86, 0, 0, 1, (-1), (-1), 0]) :: r_LP_init_33) okI_Sh_init (ok_Sh_init G _) (List.mem_of_getElem? (i := 6) rfl) d_LP_init_198 rfl (by decide) (by decide) rfl rfl rfl (by decide +kernel) (Nat.le_of_ble_eq_true rfl) (fun _ _ _ _ _ => trivial) (fun _ _ _ _ _ _ _ _ => trivial) (by decide) (by decide) ?_
  show CW G 5 K_LP_init a 183 6136 (CQp G a c_LP_init) (XT q v a) 201 [(1, .int 0), (0, .ref a)] [.ref (a + 100), .int 0, .ref (a + 9)] ((11, 0, [1, 2, 5, 7, 9, 10, 21, 24, 29, 30, 58, 86, 0, 0, 1, (-1), (-1), 0]) :: r_LP_init_35) 127 4566
  refine cw_aast (pc := 201) (q0 := 9) (t0 := 3) (qk := 100) (ci := 4) (kd := 23) (N := 3) (off := 0) (r := (RX4, TX4, 19)) (vals := [(-1), (-1), (-1)]) (sp1 := (11, 0, [1, 2, 5, 7, 9, 10, 21, 24, 29, 30, 58, 86, 0, 0, 1, (-1), (-1), 0]) :: r_LP_init_36) rfl rfl (by decide) rfl (fun _ => rfl) rfl rfl (by decide) (by decide) (by decide) rfl d_LP_init_201 rfl ?_
  show CW G 5 K_LP_init a 183 6136 (CQp G a c_LP_init) (XT q v a) 202 [(1, .int 0), (0, .ref a)] [] ((11, 0, [1, 2, 5, 7, 9, 10, 21, 24, 29, 30, 58, 86, 0, 0, 1, (-1), (-1), 0]) :: r_LP_init_36) 127 4566
  refine cw_iinc (pc := 202) (x := 0) (v := 1) (lv' := [(1, .int 1), (0, .ref a)]) (q := 0) d_LP_init_202 rfl (by decide) (by decide) rfl ?_
  refine cw_goto (pc := 205) (tgt := 184) d_LP_init_205 (by decide) ?_
  refine cw_iload_n (pc := 184) d_LP_init_184 rfl 0 rfl ?_
  refine cw_iconst (pc := 185) (x := 3) d_LP_init_185 (by decide) ?_
  refine cw_ge_f (pc := 186) (tgt := 208) d_LP_init_186 (by decide) (by decide) ?_
  refine cw_aload_n (pc := 189) d_LP_init_189 rfl 1 rfl ?_
  refine cw_get (pc := 190) (ci := 11) (k := 4) (N := 18) (t := 2) (C := RX11) (T := TX11) (v := 9) (v0 := .ref (a + 9)) rfl (by decide) inX11 (by decide) rfl rfl w3_4 d_LP_init_190 rfl rfl rfl ?_
  refine cw_iload_n (pc := 193) d_LP_init_193 rfl 0 rfl ?_
  refine cw_new (pc := 194) (ci := 4) (N := 19) (C := RX4) (T := TX4) rfl (by decide) inX4 tyX4_ok fsX4 w1_165 w2_52 w1_13 d_LP_init_194 (by decide +kernel) (by decide) (by decide) ?_
  show CW G 5 K_LP_init a 183 6136 (CQp G a c_LP_init) (XT q v a) 197 [(1, .int 1), (0, .ref a)] [.ref (a + 128), .int 1, .ref (a + 9)] ((11, 0, [1, 2, 5, 7, 9, 10, 21, 24, 29, 30, 58, 86, 0, 0, 1, (-1), (-1), 0]) :: r_LP_init_37) 128 4585
  refine cw_dup (pc := 197) d_LP_init_197 rfl ?_
  refine cw_ctorN (pc := 198) (b := a + 128) (st0 := [.ref (a + 128), .ref (a + 128), .int 1, .ref (a + 9)]) (sp0 := (11, 0, [1, 2, 5, 7, 9, 10, 21, 24, 29, 30, 58, 86, 0, 0, 1, (-1), (-1), 0]) :: r_LP_init_36) okI_Sh_init (ok_Sh_init G _) (List.mem_of_getElem? (i := 6) rfl) d_LP_init_198 rfl (by decide) (by decide) rfl rfl rfl (by decide +kernel) (Nat.le_of_ble_eq_true rfl) (fun _ _ _ _ _ => trivial) (fun _ _ _ _ _ _ _ _ => trivial) (by decide) (by decide) ?_
  show CW G 5 K_LP_init a 183 6136 (CQp G a c_LP_init) (XT q v a) 201 [(1, .int 1), (0, .ref a)] [.ref (a + 128), .int 1, .ref (a + 9)] ((11, 0, [1, 2, 5, 7, 9, 10, 21, 24, 29, 30, 58, 86, 0, 0, 1, (-1), (-1), 0]) :: r_LP_init_38) 155 5351
  refine cw_aast (pc := 201) (q0 := 9) (t0 := 3) (qk := 128) (ci := 4) (kd := 23) (N := 3) (off := 1) (r := (RX4, TX4, 19)) (vals := [100, (-1), (-1)]) (sp1 := (11, 0, [1, 2, 5, 7, 9, 10, 21, 24, 29, 30, 58, 86, 0, 0, 1, (-1), (-1), 0]) :: r_LP_init_39) rfl rfl (by decide) rfl (fun _ => rfl) rfl rfl (by decide) (by decide) (by decide) rfl d_LP_init_201 rfl ?_
  show CW G 5 K_LP_init a 183 6136 (CQp G a c_LP_init) (XT q v a) 202 [(1, .int 1), (0, .ref a)] [] ((11, 0, [1, 2, 5, 7, 9, 10, 21, 24, 29, 30, 58, 86, 0, 0, 1, (-1), (-1), 0]) :: r_LP_init_39) 155 5351
  refine cw_iinc (pc := 202) (x := 1) (v := 2) (lv' := [(1, .int 2), (0, .ref a)]) (q := 0) d_LP_init_202 rfl (by decide) (by decide) rfl ?_
  refine cw_goto (pc := 205) (tgt := 184) d_LP_init_205 (by decide) ?_
  refine cw_iload_n (pc := 184) d_LP_init_184 rfl 0 rfl ?_
  refine cw_iconst (pc := 185) (x := 3) d_LP_init_185 (by decide) ?_
  refine cw_ge_f (pc := 186) (tgt := 208) d_LP_init_186 (by decide) (by decide) ?_
  refine cw_aload_n (pc := 189) d_LP_init_189 rfl 1 rfl ?_
  refine cw_get (pc := 190) (ci := 11) (k := 4) (N := 18) (t := 2) (C := RX11) (T := TX11) (v := 9) (v0 := .ref (a + 9)) rfl (by decide) inX11 (by decide) rfl rfl w3_4 d_LP_init_190 rfl rfl rfl ?_
  refine cw_iload_n (pc := 193) d_LP_init_193 rfl 0 rfl ?_
  refine cw_new (pc := 194) (ci := 4) (N := 19) (C := RX4) (T := TX4) rfl (by decide) inX4 tyX4_ok fsX4 w1_165 w2_52 w1_13 d_LP_init_194 (by decide +kernel) (by decide) (by decide) ?_
  show CW G 5 K_LP_init a 183 6136 (CQp G a c_LP_init) (XT q v a) 197 [(1, .int 2), (0, .ref a)] [.ref (a + 156), .int 2, .ref (a + 9)] ((11, 0, [1, 2, 5, 7, 9, 10, 21, 24, 29, 30, 58, 86, 0, 0, 1, (-1), (-1), 0]) :: r_LP_init_40) 156 5370
  refine cw_dup (pc := 197) d_LP_init_197 rfl ?_
  refine cw_ctorN (pc := 198) (b := a + 156) (st0 := [.ref (a + 156), .ref (a + 156), .int 2, .ref (a + 9)]) (sp0 := (11, 0, [1, 2, 5, 7, 9, 10, 21, 24, 29, 30, 58, 86, 0, 0, 1, (-1), (-1), 0]) :: r_LP_init_39) okI_Sh_init (ok_Sh_init G _) (List.mem_of_getElem? (i := 6) rfl) d_LP_init_198 rfl (by decide) (by decide) rfl rfl rfl (by decide +kernel) (Nat.le_of_ble_eq_true rfl) (fun _ _ _ _ _ => trivial) (fun _ _ _ _ _ _ _ _ => trivial) (by decide) (by decide) ?_
  show CW G 5 K_LP_init a 183 6136 (CQp G a c_LP_init) (XT q v a) 201 [(1, .int 2), (0, .ref a)] [.ref (a + 156), .int 2, .ref (a + 9)] ((11, 0, [1, 2, 5, 7, 9, 10, 21, 24, 29, 30, 58, 86, 0, 0, 1, (-1), (-1), 0]) :: r_LP_init_41) 183 6136
  refine cw_aast (pc := 201) (q0 := 9) (t0 := 3) (qk := 156) (ci := 4) (kd := 23) (N := 3) (off := 2) (r := (RX4, TX4, 19)) (vals := [100, 128, (-1)]) (sp1 := (11, 0, [1, 2, 5, 7, 9, 10, 21, 24, 29, 30, 58, 86, 0, 0, 1, (-1), (-1), 0]) :: r_LP_init_42) rfl rfl (by decide) rfl (fun _ => rfl) rfl rfl (by decide) (by decide) (by decide) rfl d_LP_init_201 rfl ?_
  show CW G 5 K_LP_init a 183 6136 (CQp G a c_LP_init) (XT q v a) 202 [(1, .int 2), (0, .ref a)] [] ((11, 0, [1, 2, 5, 7, 9, 10, 21, 24, 29, 30, 58, 86, 0, 0, 1, (-1), (-1), 0]) :: r_LP_init_42) 183 6136
  refine cw_iinc (pc := 202) (x := 2) (v := 3) (lv' := [(1, .int 3), (0, .ref a)]) (q := 0) d_LP_init_202 rfl (by decide) (by decide) rfl ?_
  refine cw_goto (pc := 205) (tgt := 184) d_LP_init_205 (by decide) ?_
  refine cw_iload_n (pc := 184) d_LP_init_184 rfl 0 rfl ?_
  refine cw_iconst (pc := 185) (x := 3) d_LP_init_185 (by decide) ?_
  refine cw_ge_t (pc := 186) (tgt := 208) d_LP_init_186 (by decide) (by decide) ?_
  refine cw_aload_n (pc := 208) d_LP_init_208 rfl 1 rfl ?_
  refine cw_get (pc := 209) (ci := 11) (k := 8) (N := 18) (t := 2) (C := RX11) (T := TX11) (v := 29) (v0 := .ref (a + 29)) rfl (by decide) inX11 (by decide) rfl rfl w3_8 d_LP_init_209 rfl rfl rfl ?_
  refine cw_iconst (pc := 212) (x := (-1)) d_LP_init_212 (by decide) ?_
  refine cw_fill (pc := 213) (q0 := 29) (N := 5) (vals := []) (x := (-1)) (xi := (-1)) rfl (by decide) w2_237 d_LP_init_213 (by decide) (by decide) (by decide) (by decide) (Nat.zero_le _) ?_
  show CW G 5 K_LP_init a 183 6136 (CQp G a c_LP_init) (XT q v a) 216 [(1, .int 3), (0, .ref a)] [] ((11, 0, [1, 2, 5, 7, 9, 10, 21, 24, 29, 30, 58, 86, 0, 0, 1, (-1), (-1), 0]) :: r_LP_init_43) 183 6136
  exact cw_ret (pc := 216) d_LP_init_216 rfl rfl rfl rfl
