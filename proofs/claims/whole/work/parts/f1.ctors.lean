/-! ===== constructors ===== -/
theorem fsX0 : ∀ j, j < 8 → defaultValue (tyX0 j) = vp_V (dfE (ftab 0)) j := by decide +kernel
theorem fsX1 : ∀ j, j < 4 → defaultValue (tyX1 j) = vp_V (dfE (ftab 1)) j := by decide +kernel
theorem fsX2 : ∀ j, j < 7 → defaultValue (tyX2 j) = vp_V (dfE (ftab 2)) j := by decide +kernel
theorem fsX3 : ∀ j, j < 3 → defaultValue (tyX3 j) = vp_V (dfE (ftab 3)) j := by decide +kernel
theorem fsX4 : ∀ j, j < 19 → defaultValue (tyX4 j) = vp_V (dfE (ftab 4)) j := by decide +kernel
theorem fsX5 : ∀ j, j < 2 → defaultValue (tyX5 j) = vp_V (dfE (ftab 5)) j := by decide +kernel
theorem fsX6 : ∀ j, j < 8 → defaultValue (tyX6 j) = vp_V (dfE (ftab 6)) j := by decide +kernel
theorem fsX7 : ∀ j, j < 13 → defaultValue (tyX7 j) = vp_V (dfE (ftab 7)) j := by decide +kernel
theorem fsX8 : ∀ j, j < 4 → defaultValue (tyX8 j) = vp_V (dfE (ftab 8)) j := by decide +kernel
theorem fsX9 : ∀ j, j < 8 → defaultValue (tyX9 j) = vp_V (dfE (ftab 9)) j := by decide +kernel
theorem fsX10 : ∀ j, j < 2 → defaultValue (tyX10 j) = vp_V (dfE (ftab 10)) j := by decide +kernel
theorem fsX11 : ∀ j, j < 18 → defaultValue (tyX11 j) = vp_V (dfE (ftab 11)) j := by decide +kernel
theorem fsX12 : ∀ j, j < 44 → defaultValue (tyX12 j) = vp_V (dfE (ftab 12)) j := by decide +kernel
abbrev K_Tr_init : Mk := (⟨"LastPages$Tray", "<init>", "()V"⟩, prog_10_method_1_code, 1, (Option.none : Option Jvm.ClassFile.FieldType))
theorem okI_Tr_init : okI ⟨"LastPages$Tray", "<init>", "()V"⟩ prog_10_method_1_code 1 0 := ⟨w2_218, w2_217, w1_17, ⟨by decide, by decide, by decide +kernel⟩, by decide, rfl⟩
theorem d_Tr_init_0 : decode prog_10_method_1_code 0 = .ok (.aload_n 0, 1) := by decide +kernel
theorem d_Tr_init_1 : decode prog_10_method_1_code 1 = .ok (.invokespecial 3, 3) := by decide +kernel
theorem d_Tr_init_4 : decode prog_10_method_1_code 4 = .ok (.aload_n 0, 1) := by decide +kernel
theorem d_Tr_init_5 : decode prog_10_method_1_code 5 = .ok (.bipush 60, 2) := by decide +kernel
theorem d_Tr_init_7 : decode prog_10_method_1_code 7 = .ok (.newarray .long, 2) := by decide +kernel
theorem d_Tr_init_9 : decode prog_10_method_1_code 9 = .ok (.putfield 9, 3) := by decide +kernel
theorem d_Tr_init_12 : decode prog_10_method_1_code 12 = .ok (.aload_n 0, 1) := by decide +kernel
theorem d_Tr_init_13 : decode prog_10_method_1_code 13 = .ok (.iconst 0, 1) := by decide +kernel
theorem d_Tr_init_14 : decode prog_10_method_1_code 14 = .ok (.putfield 15, 3) := by decide +kernel
theorem d_Tr_init_17 : decode prog_10_method_1_code 17 = .ok (.aload_n 0, 1) := by decide +kernel
theorem d_Tr_init_18 : decode prog_10_method_1_code 18 = .ok (.iconst 0, 1) := by decide +kernel
theorem d_Tr_init_19 : decode prog_10_method_1_code 19 = .ok (.putfield 19, 3) := by decide +kernel
theorem d_Tr_init_22 : decode prog_10_method_1_code 22 = .ok (.aload_n 0, 1) := by decide +kernel
theorem d_Tr_init_23 : decode prog_10_method_1_code 23 = .ok (.iconst 0, 1) := by decide +kernel
theorem d_Tr_init_24 : decode prog_10_method_1_code 24 = .ok (.putfield 23, 3) := by decide +kernel
theorem d_Tr_init_27 : decode prog_10_method_1_code 27 = .ok (.return_, 1) := by decide +kernel
def r_Tr_init_1 : List Sp := [] ++ [(22, 60, [])]
def c_Tr_init : List Sp := (8, 0, [1, 0, 0, 0]) :: r_Tr_init_1
set_option maxRecDepth 100000 in
theorem ok_Tr_init (G : Gm) (a : Nat) : CM G 1 1 60 K_Tr_init a [] [dO 8] c_Tr_init (fun _ => True) := by
  refine CM.of rfl (Nat.le_of_ble_eq_true rfl) ?_
  show CW G 1 K_Tr_init a 1 60 (CQp G a c_Tr_init) (fun _ => True) 0 [(0, .ref a)] [] ((8, 0, [(-1), 0, 0, 0]) :: []) 0 0
  refine cw_aload_n (pc := 0) d_Tr_init_0 rfl 0 rfl ?_
  refine cw_objinit (pc := 1) d_Tr_init_1 w2_219 w1_28 w1_29 (by decide) ?_
  refine cw_aload_n (pc := 4) d_Tr_init_4 rfl 0 rfl ?_
  refine cw_bipush (pc := 5) (x := 60) d_Tr_init_5 (by decide) ?_
  refine cw_newl (pc := 7) (N := 60) w1_137 (by decide) (by decide) (by decide) d_Tr_init_7 (by decide +kernel) (by decide) (by decide) ?_
  show CW G 1 K_Tr_init a 1 60 (CQp G a c_Tr_init) (fun _ => True) 9 [(0, .ref a)] [.ref (a + 1), .ref a] ((8, 0, [(-1), 0, 0, 0]) :: r_Tr_init_1) 1 60
  refine cw_put (pc := 9) (ci := 8) (k := 0) (N := 4) (t := 2) (C := RX8) (T := TX8) (tys := tyX8) (v := 1) (ty := .array .long) rfl (by decide) inX8 tyX8_ok nmX8 (by decide) rfl rfl rfl w2_220 (Or.inr ⟨rfl, rfl, rfl⟩) d_Tr_init_9 rfl rfl rfl rfl rfl ?_
  show CW G 1 K_Tr_init a 1 60 (CQp G a c_Tr_init) (fun _ => True) 12 [(0, .ref a)] [] ((8, 0, [1, 0, 0, 0]) :: r_Tr_init_1) 1 60
  refine cw_aload_n (pc := 12) d_Tr_init_12 rfl 0 rfl ?_
  refine cw_iconst (pc := 13) (x := 0) d_Tr_init_13 (by decide) ?_
  refine cw_put (pc := 14) (ci := 8) (k := 1) (N := 4) (t := 0) (C := RX8) (T := TX8) (tys := tyX8) (v := 0) (ty := .boolean) rfl (by decide) inX8 tyX8_ok nmX8 (by decide) rfl rfl rfl w2_222 (Or.inl rfl) d_Tr_init_14 rfl rfl rfl rfl rfl ?_
  show CW G 1 K_Tr_init a 1 60 (CQp G a c_Tr_init) (fun _ => True) 17 [(0, .ref a)] [] ((8, 0, [1, 0, 0, 0]) :: r_Tr_init_1) 1 60
  refine cw_aload_n (pc := 17) d_Tr_init_17 rfl 0 rfl ?_
  refine cw_iconst (pc := 18) (x := 0) d_Tr_init_18 (by decide) ?_
  refine cw_put (pc := 19) (ci := 8) (k := 2) (N := 4) (t := 0) (C := RX8) (T := TX8) (tys := tyX8) (v := 0) (ty := .int) rfl (by decide) inX8 tyX8_ok nmX8 (by decide) rfl rfl rfl w2_224 (Or.inl rfl) d_Tr_init_19 rfl rfl rfl rfl rfl ?_
  show CW G 1 K_Tr_init a 1 60 (CQp G a c_Tr_init) (fun _ => True) 22 [(0, .ref a)] [] ((8, 0, [1, 0, 0, 0]) :: r_Tr_init_1) 1 60
  refine cw_aload_n (pc := 22) d_Tr_init_22 rfl 0 rfl ?_
  refine cw_iconst (pc := 23) (x := 0) d_Tr_init_23 (by decide) ?_
  refine cw_put (pc := 24) (ci := 8) (k := 3) (N := 4) (t := 0) (C := RX8) (T := TX8) (tys := tyX8) (v := 0) (ty := .int) rfl (by decide) inX8 tyX8_ok nmX8 (by decide) rfl rfl rfl w2_226 (Or.inl rfl) d_Tr_init_24 rfl rfl rfl rfl rfl ?_
  show CW G 1 K_Tr_init a 1 60 (CQp G a c_Tr_init) (fun _ => True) 27 [(0, .ref a)] [] ((8, 0, [1, 0, 0, 0]) :: r_Tr_init_1) 1 60
  exact cw_ret (pc := 27) d_Tr_init_27 rfl rfl rfl rfl
abbrev K_St_init : Mk := (⟨"LastPages$Story", "<init>", "()V"⟩, prog_8_method_1_code, 1, (Option.none : Option Jvm.ClassFile.FieldType))
theorem okI_St_init : okI ⟨"LastPages$Story", "<init>", "()V"⟩ prog_8_method_1_code 1 0 := ⟨w1_177, w1_176, w1_10, ⟨by decide, by decide, by decide +kernel⟩, by decide, rfl⟩
theorem d_St_init_0 : decode prog_8_method_1_code 0 = .ok (.aload_n 0, 1) := by decide +kernel
theorem d_St_init_1 : decode prog_8_method_1_code 1 = .ok (.invokespecial 3, 3) := by decide +kernel
theorem d_St_init_4 : decode prog_8_method_1_code 4 = .ok (.aload_n 0, 1) := by decide +kernel
theorem d_St_init_5 : decode prog_8_method_1_code 5 = .ok (.bipush 8, 2) := by decide +kernel
theorem d_St_init_7 : decode prog_8_method_1_code 7 = .ok (.newarray .int, 2) := by decide +kernel
theorem d_St_init_9 : decode prog_8_method_1_code 9 = .ok (.putfield 9, 3) := by decide +kernel
theorem d_St_init_12 : decode prog_8_method_1_code 12 = .ok (.aload_n 0, 1) := by decide +kernel
theorem d_St_init_13 : decode prog_8_method_1_code 13 = .ok (.bipush 64, 2) := by decide +kernel
theorem d_St_init_15 : decode prog_8_method_1_code 15 = .ok (.newarray .int, 2) := by decide +kernel
theorem d_St_init_17 : decode prog_8_method_1_code 17 = .ok (.putfield 15, 3) := by decide +kernel
theorem d_St_init_20 : decode prog_8_method_1_code 20 = .ok (.aload_n 0, 1) := by decide +kernel
theorem d_St_init_21 : decode prog_8_method_1_code 21 = .ok (.bipush 8, 2) := by decide +kernel
theorem d_St_init_23 : decode prog_8_method_1_code 23 = .ok (.newarray .int, 2) := by decide +kernel
theorem d_St_init_25 : decode prog_8_method_1_code 25 = .ok (.putfield 18, 3) := by decide +kernel
theorem d_St_init_28 : decode prog_8_method_1_code 28 = .ok (.aload_n 0, 1) := by decide +kernel
theorem d_St_init_29 : decode prog_8_method_1_code 29 = .ok (.bipush 48, 2) := by decide +kernel
theorem d_St_init_31 : decode prog_8_method_1_code 31 = .ok (.newarray .int, 2) := by decide +kernel
theorem d_St_init_33 : decode prog_8_method_1_code 33 = .ok (.putfield 21, 3) := by decide +kernel
theorem d_St_init_36 : decode prog_8_method_1_code 36 = .ok (.aload_n 0, 1) := by decide +kernel
theorem d_St_init_37 : decode prog_8_method_1_code 37 = .ok (.iconst 0, 1) := by decide +kernel
theorem d_St_init_38 : decode prog_8_method_1_code 38 = .ok (.putfield 24, 3) := by decide +kernel
theorem d_St_init_41 : decode prog_8_method_1_code 41 = .ok (.aload_n 0, 1) := by decide +kernel
theorem d_St_init_42 : decode prog_8_method_1_code 42 = .ok (.iconst 0, 1) := by decide +kernel
theorem d_St_init_43 : decode prog_8_method_1_code 43 = .ok (.putfield 28, 3) := by decide +kernel
theorem d_St_init_46 : decode prog_8_method_1_code 46 = .ok (.aload_n 0, 1) := by decide +kernel
theorem d_St_init_47 : decode prog_8_method_1_code 47 = .ok (.iconst 0, 1) := by decide +kernel
theorem d_St_init_48 : decode prog_8_method_1_code 48 = .ok (.putfield 31, 3) := by decide +kernel
theorem d_St_init_51 : decode prog_8_method_1_code 51 = .ok (.aload_n 0, 1) := by decide +kernel
theorem d_St_init_52 : decode prog_8_method_1_code 52 = .ok (.iconst 0, 1) := by decide +kernel
theorem d_St_init_53 : decode prog_8_method_1_code 53 = .ok (.putfield 34, 3) := by decide +kernel
theorem d_St_init_56 : decode prog_8_method_1_code 56 = .ok (.return_, 1) := by decide +kernel
def r_St_init_1 : List Sp := [] ++ [(20, 8, [])]
def r_St_init_2 : List Sp := r_St_init_1 ++ [(20, 64, [])]
def r_St_init_3 : List Sp := r_St_init_2 ++ [(20, 8, [])]
def r_St_init_4 : List Sp := r_St_init_3 ++ [(20, 48, [])]
def c_St_init : List Sp := (6, 0, [1, 2, 3, 4, 0, 0, 0, 0]) :: r_St_init_4
set_option maxRecDepth 100000 in
theorem ok_St_init (G : Gm) (a : Nat) : CM G 1 4 128 K_St_init a [] [dO 6] c_St_init (fun _ => True) := by
  refine CM.of rfl (Nat.le_of_ble_eq_true rfl) ?_
  show CW G 1 K_St_init a 4 128 (CQp G a c_St_init) (fun _ => True) 0 [(0, .ref a)] [] ((6, 0, [(-1), (-1), (-1), (-1), 0, 0, 0, 0]) :: []) 0 0
  refine cw_aload_n (pc := 0) d_St_init_0 rfl 0 rfl ?_
  refine cw_objinit (pc := 1) d_St_init_1 w1_178 w1_28 w1_29 (by decide) ?_
  refine cw_aload_n (pc := 4) d_St_init_4 rfl 0 rfl ?_
  refine cw_bipush (pc := 5) (x := 8) d_St_init_5 (by decide) ?_
  refine cw_newi (pc := 7) (N := 8) w1_151 (by decide) (by decide) (by decide) d_St_init_7 (by decide +kernel) (by decide) (by decide) ?_
  show CW G 1 K_St_init a 4 128 (CQp G a c_St_init) (fun _ => True) 9 [(0, .ref a)] [.ref (a + 1), .ref a] ((6, 0, [(-1), (-1), (-1), (-1), 0, 0, 0, 0]) :: r_St_init_1) 1 8
  refine cw_put (pc := 9) (ci := 6) (k := 0) (N := 8) (t := 2) (C := RX6) (T := TX6) (tys := tyX6) (v := 1) (ty := .array .int) rfl (by decide) inX6 tyX6_ok nmX6 (by decide) rfl rfl rfl w1_179 (Or.inr ⟨rfl, rfl, rfl⟩) d_St_init_9 rfl rfl rfl rfl rfl ?_
  show CW G 1 K_St_init a 4 128 (CQp G a c_St_init) (fun _ => True) 12 [(0, .ref a)] [] ((6, 0, [1, (-1), (-1), (-1), 0, 0, 0, 0]) :: r_St_init_1) 1 8
  refine cw_aload_n (pc := 12) d_St_init_12 rfl 0 rfl ?_
  refine cw_bipush (pc := 13) (x := 64) d_St_init_13 (by decide) ?_
  refine cw_newi (pc := 15) (N := 64) w1_151 (by decide) (by decide) (by decide) d_St_init_15 (by decide +kernel) (by decide) (by decide) ?_
  show CW G 1 K_St_init a 4 128 (CQp G a c_St_init) (fun _ => True) 17 [(0, .ref a)] [.ref (a + 2), .ref a] ((6, 0, [1, (-1), (-1), (-1), 0, 0, 0, 0]) :: r_St_init_2) 2 72
  refine cw_put (pc := 17) (ci := 6) (k := 1) (N := 8) (t := 2) (C := RX6) (T := TX6) (tys := tyX6) (v := 2) (ty := .array .int) rfl (by decide) inX6 tyX6_ok nmX6 (by decide) rfl rfl rfl w1_181 (Or.inr ⟨rfl, rfl, rfl⟩) d_St_init_17 rfl rfl rfl rfl rfl ?_
  show CW G 1 K_St_init a 4 128 (CQp G a c_St_init) (fun _ => True) 20 [(0, .ref a)] [] ((6, 0, [1, 2, (-1), (-1), 0, 0, 0, 0]) :: r_St_init_2) 2 72
  refine cw_aload_n (pc := 20) d_St_init_20 rfl 0 rfl ?_
  refine cw_bipush (pc := 21) (x := 8) d_St_init_21 (by decide) ?_
  refine cw_newi (pc := 23) (N := 8) w1_151 (by decide) (by decide) (by decide) d_St_init_23 (by decide +kernel) (by decide) (by decide) ?_
  show CW G 1 K_St_init a 4 128 (CQp G a c_St_init) (fun _ => True) 25 [(0, .ref a)] [.ref (a + 3), .ref a] ((6, 0, [1, 2, (-1), (-1), 0, 0, 0, 0]) :: r_St_init_3) 3 80
  refine cw_put (pc := 25) (ci := 6) (k := 2) (N := 8) (t := 2) (C := RX6) (T := TX6) (tys := tyX6) (v := 3) (ty := .array .int) rfl (by decide) inX6 tyX6_ok nmX6 (by decide) rfl rfl rfl w1_182 (Or.inr ⟨rfl, rfl, rfl⟩) d_St_init_25 rfl rfl rfl rfl rfl ?_
  show CW G 1 K_St_init a 4 128 (CQp G a c_St_init) (fun _ => True) 28 [(0, .ref a)] [] ((6, 0, [1, 2, 3, (-1), 0, 0, 0, 0]) :: r_St_init_3) 3 80
  refine cw_aload_n (pc := 28) d_St_init_28 rfl 0 rfl ?_
  refine cw_bipush (pc := 29) (x := 48) d_St_init_29 (by decide) ?_
  refine cw_newi (pc := 31) (N := 48) w1_151 (by decide) (by decide) (by decide) d_St_init_31 (by decide +kernel) (by decide) (by decide) ?_
  show CW G 1 K_St_init a 4 128 (CQp G a c_St_init) (fun _ => True) 33 [(0, .ref a)] [.ref (a + 4), .ref a] ((6, 0, [1, 2, 3, (-1), 0, 0, 0, 0]) :: r_St_init_4) 4 128
  refine cw_put (pc := 33) (ci := 6) (k := 3) (N := 8) (t := 2) (C := RX6) (T := TX6) (tys := tyX6) (v := 4) (ty := .array .int) rfl (by decide) inX6 tyX6_ok nmX6 (by decide) rfl rfl rfl w1_185 (Or.inr ⟨rfl, rfl, rfl⟩) d_St_init_33 rfl rfl rfl rfl rfl ?_
  show CW G 1 K_St_init a 4 128 (CQp G a c_St_init) (fun _ => True) 36 [(0, .ref a)] [] ((6, 0, [1, 2, 3, 4, 0, 0, 0, 0]) :: r_St_init_4) 4 128
  refine cw_aload_n (pc := 36) d_St_init_36 rfl 0 rfl ?_
  refine cw_iconst (pc := 37) (x := 0) d_St_init_37 (by decide) ?_
  refine cw_put (pc := 38) (ci := 6) (k := 4) (N := 8) (t := 0) (C := RX6) (T := TX6) (tys := tyX6) (v := 0) (ty := .int) rfl (by decide) inX6 tyX6_ok nmX6 (by decide) rfl rfl rfl w1_186 (Or.inl rfl) d_St_init_38 rfl rfl rfl rfl rfl ?_
  show CW G 1 K_St_init a 4 128 (CQp G a c_St_init) (fun _ => True) 41 [(0, .ref a)] [] ((6, 0, [1, 2, 3, 4, 0, 0, 0, 0]) :: r_St_init_4) 4 128
  refine cw_aload_n (pc := 41) d_St_init_41 rfl 0 rfl ?_
  refine cw_iconst (pc := 42) (x := 0) d_St_init_42 (by decide) ?_
  refine cw_put (pc := 43) (ci := 6) (k := 5) (N := 8) (t := 0) (C := RX6) (T := TX6) (tys := tyX6) (v := 0) (ty := .int) rfl (by decide) inX6 tyX6_ok nmX6 (by decide) rfl rfl rfl w1_190 (Or.inl rfl) d_St_init_43 rfl rfl rfl rfl rfl ?_
  show CW G 1 K_St_init a 4 128 (CQp G a c_St_init) (fun _ => True) 46 [(0, .ref a)] [] ((6, 0, [1, 2, 3, 4, 0, 0, 0, 0]) :: r_St_init_4) 4 128
  refine cw_aload_n (pc := 46) d_St_init_46 rfl 0 rfl ?_
  refine cw_iconst (pc := 47) (x := 0) d_St_init_47 (by decide) ?_
  refine cw_put (pc := 48) (ci := 6) (k := 6) (N := 8) (t := 0) (C := RX6) (T := TX6) (tys := tyX6) (v := 0) (ty := .int) rfl (by decide) inX6 tyX6_ok nmX6 (by decide) rfl rfl rfl w1_194 (Or.inl rfl) d_St_init_48 rfl rfl rfl rfl rfl ?_
  show CW G 1 K_St_init a 4 128 (CQp G a c_St_init) (fun _ => True) 51 [(0, .ref a)] [] ((6, 0, [1, 2, 3, 4, 0, 0, 0, 0]) :: r_St_init_4) 4 128
  refine cw_aload_n (pc := 51) d_St_init_51 rfl 0 rfl ?_
  refine cw_iconst (pc := 52) (x := 0) d_St_init_52 (by decide) ?_
  refine cw_put (pc := 53) (ci := 6) (k := 7) (N := 8) (t := 0) (C := RX6) (T := TX6) (tys := tyX6) (v := 0) (ty := .int) rfl (by decide) inX6 tyX6_ok nmX6 (by decide) rfl rfl rfl w1_196 (Or.inl rfl) d_St_init_53 rfl rfl rfl rfl rfl ?_
  show CW G 1 K_St_init a 4 128 (CQp G a c_St_init) (fun _ => True) 56 [(0, .ref a)] [] ((6, 0, [1, 2, 3, 4, 0, 0, 0, 0]) :: r_St_init_4) 4 128
  exact cw_ret (pc := 56) d_St_init_56 rfl rfl rfl rfl
abbrev K_We_init : Mk := (⟨"LastPages$Weeks", "<init>", "()V"⟩, prog_11_method_1_code, 1, (Option.none : Option Jvm.ClassFile.FieldType))
theorem okI_We_init : okI ⟨"LastPages$Weeks", "<init>", "()V"⟩ prog_11_method_1_code 1 0 := ⟨w2_87, w2_86, w1_16, ⟨by decide, by decide, by decide +kernel⟩, by decide, rfl⟩
theorem d_We_init_0 : decode prog_11_method_1_code 0 = .ok (.aload_n 0, 1) := by decide +kernel
theorem d_We_init_1 : decode prog_11_method_1_code 1 = .ok (.invokespecial 3, 3) := by decide +kernel
theorem d_We_init_4 : decode prog_11_method_1_code 4 = .ok (.aload_n 0, 1) := by decide +kernel
theorem d_We_init_5 : decode prog_11_method_1_code 5 = .ok (.bipush 60, 2) := by decide +kernel
theorem d_We_init_7 : decode prog_11_method_1_code 7 = .ok (.newarray .int, 2) := by decide +kernel
theorem d_We_init_9 : decode prog_11_method_1_code 9 = .ok (.putfield 9, 3) := by decide +kernel
theorem d_We_init_12 : decode prog_11_method_1_code 12 = .ok (.aload_n 0, 1) := by decide +kernel
theorem d_We_init_13 : decode prog_11_method_1_code 13 = .ok (.bipush 60, 2) := by decide +kernel
theorem d_We_init_15 : decode prog_11_method_1_code 15 = .ok (.newarray .int, 2) := by decide +kernel
theorem d_We_init_17 : decode prog_11_method_1_code 17 = .ok (.putfield 15, 3) := by decide +kernel
theorem d_We_init_20 : decode prog_11_method_1_code 20 = .ok (.aload_n 0, 1) := by decide +kernel
theorem d_We_init_21 : decode prog_11_method_1_code 21 = .ok (.bipush 60, 2) := by decide +kernel
theorem d_We_init_23 : decode prog_11_method_1_code 23 = .ok (.newarray .int, 2) := by decide +kernel
theorem d_We_init_25 : decode prog_11_method_1_code 25 = .ok (.putfield 18, 3) := by decide +kernel
theorem d_We_init_28 : decode prog_11_method_1_code 28 = .ok (.aload_n 0, 1) := by decide +kernel
theorem d_We_init_29 : decode prog_11_method_1_code 29 = .ok (.bipush 60, 2) := by decide +kernel
theorem d_We_init_31 : decode prog_11_method_1_code 31 = .ok (.newarray .int, 2) := by decide +kernel
theorem d_We_init_33 : decode prog_11_method_1_code 33 = .ok (.putfield 21, 3) := by decide +kernel
theorem d_We_init_36 : decode prog_11_method_1_code 36 = .ok (.aload_n 0, 1) := by decide +kernel
theorem d_We_init_37 : decode prog_11_method_1_code 37 = .ok (.bipush 60, 2) := by decide +kernel
theorem d_We_init_39 : decode prog_11_method_1_code 39 = .ok (.newarray .int, 2) := by decide +kernel
theorem d_We_init_41 : decode prog_11_method_1_code 41 = .ok (.putfield 24, 3) := by decide +kernel
theorem d_We_init_44 : decode prog_11_method_1_code 44 = .ok (.aload_n 0, 1) := by decide +kernel
theorem d_We_init_45 : decode prog_11_method_1_code 45 = .ok (.iconst 0, 1) := by decide +kernel
theorem d_We_init_46 : decode prog_11_method_1_code 46 = .ok (.putfield 27, 3) := by decide +kernel
theorem d_We_init_49 : decode prog_11_method_1_code 49 = .ok (.aload_n 0, 1) := by decide +kernel
theorem d_We_init_50 : decode prog_11_method_1_code 50 = .ok (.iconst 0, 1) := by decide +kernel
theorem d_We_init_51 : decode prog_11_method_1_code 51 = .ok (.putfield 31, 3) := by decide +kernel
theorem d_We_init_54 : decode prog_11_method_1_code 54 = .ok (.aload_n 0, 1) := by decide +kernel
theorem d_We_init_55 : decode prog_11_method_1_code 55 = .ok (.iconst 0, 1) := by decide +kernel
theorem d_We_init_56 : decode prog_11_method_1_code 56 = .ok (.putfield 35, 3) := by decide +kernel
theorem d_We_init_59 : decode prog_11_method_1_code 59 = .ok (.return_, 1) := by decide +kernel
def r_We_init_1 : List Sp := [] ++ [(20, 60, [])]
def r_We_init_2 : List Sp := r_We_init_1 ++ [(20, 60, [])]
def r_We_init_3 : List Sp := r_We_init_2 ++ [(20, 60, [])]
def r_We_init_4 : List Sp := r_We_init_3 ++ [(20, 60, [])]
def r_We_init_5 : List Sp := r_We_init_4 ++ [(20, 60, [])]
def c_We_init : List Sp := (9, 0, [1, 2, 3, 4, 5, 0, 0, 0]) :: r_We_init_5
set_option maxRecDepth 100000 in
theorem ok_We_init (G : Gm) (a : Nat) : CM G 1 5 300 K_We_init a [] [dO 9] c_We_init (fun _ => True) := by
  refine CM.of rfl (Nat.le_of_ble_eq_true rfl) ?_
  show CW G 1 K_We_init a 5 300 (CQp G a c_We_init) (fun _ => True) 0 [(0, .ref a)] [] ((9, 0, [(-1), (-1), (-1), (-1), (-1), 0, 0, 0]) :: []) 0 0
  refine cw_aload_n (pc := 0) d_We_init_0 rfl 0 rfl ?_
  refine cw_objinit (pc := 1) d_We_init_1 w2_88 w1_28 w1_29 (by decide) ?_
  refine cw_aload_n (pc := 4) d_We_init_4 rfl 0 rfl ?_
  refine cw_bipush (pc := 5) (x := 60) d_We_init_5 (by decide) ?_
  refine cw_newi (pc := 7) (N := 60) w1_151 (by decide) (by decide) (by decide) d_We_init_7 (by decide +kernel) (by decide) (by decide) ?_
  show CW G 1 K_We_init a 5 300 (CQp G a c_We_init) (fun _ => True) 9 [(0, .ref a)] [.ref (a + 1), .ref a] ((9, 0, [(-1), (-1), (-1), (-1), (-1), 0, 0, 0]) :: r_We_init_1) 1 60
  refine cw_put (pc := 9) (ci := 9) (k := 0) (N := 8) (t := 2) (C := RX9) (T := TX9) (tys := tyX9) (v := 1) (ty := .array .int) rfl (by decide) inX9 tyX9_ok nmX9 (by decide) rfl rfl rfl w2_89 (Or.inr ⟨rfl, rfl, rfl⟩) d_We_init_9 rfl rfl rfl rfl rfl ?_
  show CW G 1 K_We_init a 5 300 (CQp G a c_We_init) (fun _ => True) 12 [(0, .ref a)] [] ((9, 0, [1, (-1), (-1), (-1), (-1), 0, 0, 0]) :: r_We_init_1) 1 60
  refine cw_aload_n (pc := 12) d_We_init_12 rfl 0 rfl ?_
  refine cw_bipush (pc := 13) (x := 60) d_We_init_13 (by decide) ?_
  refine cw_newi (pc := 15) (N := 60) w1_151 (by decide) (by decide) (by decide) d_We_init_15 (by decide +kernel) (by decide) (by decide) ?_
  show CW G 1 K_We_init a 5 300 (CQp G a c_We_init) (fun _ => True) 17 [(0, .ref a)] [.ref (a + 2), .ref a] ((9, 0, [1, (-1), (-1), (-1), (-1), 0, 0, 0]) :: r_We_init_2) 2 120
  refine cw_put (pc := 17) (ci := 9) (k := 1) (N := 8) (t := 2) (C := RX9) (T := TX9) (tys := tyX9) (v := 2) (ty := .array .int) rfl (by decide) inX9 tyX9_ok nmX9 (by decide) rfl rfl rfl w2_91 (Or.inr ⟨rfl, rfl, rfl⟩) d_We_init_17 rfl rfl rfl rfl rfl ?_
  show CW G 1 K_We_init a 5 300 (CQp G a c_We_init) (fun _ => True) 20 [(0, .ref a)] [] ((9, 0, [1, 2, (-1), (-1), (-1), 0, 0, 0]) :: r_We_init_2) 2 120
  refine cw_aload_n (pc := 20) d_We_init_20 rfl 0 rfl ?_
  refine cw_bipush (pc := 21) (x := 60) d_We_init_21 (by decide) ?_
  refine cw_newi (pc := 23) (N := 60) w1_151 (by decide) (by decide) (by decide) d_We_init_23 (by decide +kernel) (by decide) (by decide) ?_
  show CW G 1 K_We_init a 5 300 (CQp G a c_We_init) (fun _ => True) 25 [(0, .ref a)] [.ref (a + 3), .ref a] ((9, 0, [1, 2, (-1), (-1), (-1), 0, 0, 0]) :: r_We_init_3) 3 180
  refine cw_put (pc := 25) (ci := 9) (k := 2) (N := 8) (t := 2) (C := RX9) (T := TX9) (tys := tyX9) (v := 3) (ty := .array .int) rfl (by decide) inX9 tyX9_ok nmX9 (by decide) rfl rfl rfl w2_93 (Or.inr ⟨rfl, rfl, rfl⟩) d_We_init_25 rfl rfl rfl rfl rfl ?_
  show CW G 1 K_We_init a 5 300 (CQp G a c_We_init) (fun _ => True) 28 [(0, .ref a)] [] ((9, 0, [1, 2, 3, (-1), (-1), 0, 0, 0]) :: r_We_init_3) 3 180
  refine cw_aload_n (pc := 28) d_We_init_28 rfl 0 rfl ?_
  refine cw_bipush (pc := 29) (x := 60) d_We_init_29 (by decide) ?_
  refine cw_newi (pc := 31) (N := 60) w1_151 (by decide) (by decide) (by decide) d_We_init_31 (by decide +kernel) (by decide) (by decide) ?_
  show CW G 1 K_We_init a 5 300 (CQp G a c_We_init) (fun _ => True) 33 [(0, .ref a)] [.ref (a + 4), .ref a] ((9, 0, [1, 2, 3, (-1), (-1), 0, 0, 0]) :: r_We_init_4) 4 240
  refine cw_put (pc := 33) (ci := 9) (k := 3) (N := 8) (t := 2) (C := RX9) (T := TX9) (tys := tyX9) (v := 4) (ty := .array .int) rfl (by decide) inX9 tyX9_ok nmX9 (by decide) rfl rfl rfl w2_95 (Or.inr ⟨rfl, rfl, rfl⟩) d_We_init_33 rfl rfl rfl rfl rfl ?_
  show CW G 1 K_We_init a 5 300 (CQp G a c_We_init) (fun _ => True) 36 [(0, .ref a)] [] ((9, 0, [1, 2, 3, 4, (-1), 0, 0, 0]) :: r_We_init_4) 4 240
  refine cw_aload_n (pc := 36) d_We_init_36 rfl 0 rfl ?_
  refine cw_bipush (pc := 37) (x := 60) d_We_init_37 (by decide) ?_
  refine cw_newi (pc := 39) (N := 60) w1_151 (by decide) (by decide) (by decide) d_We_init_39 (by decide +kernel) (by decide) (by decide) ?_
  show CW G 1 K_We_init a 5 300 (CQp G a c_We_init) (fun _ => True) 41 [(0, .ref a)] [.ref (a + 5), .ref a] ((9, 0, [1, 2, 3, 4, (-1), 0, 0, 0]) :: r_We_init_5) 5 300
  refine cw_put (pc := 41) (ci := 9) (k := 4) (N := 8) (t := 2) (C := RX9) (T := TX9) (tys := tyX9) (v := 5) (ty := .array .int) rfl (by decide) inX9 tyX9_ok nmX9 (by decide) rfl rfl rfl w2_97 (Or.inr ⟨rfl, rfl, rfl⟩) d_We_init_41 rfl rfl rfl rfl rfl ?_
  show CW G 1 K_We_init a 5 300 (CQp G a c_We_init) (fun _ => True) 44 [(0, .ref a)] [] ((9, 0, [1, 2, 3, 4, 5, 0, 0, 0]) :: r_We_init_5) 5 300
  refine cw_aload_n (pc := 44) d_We_init_44 rfl 0 rfl ?_
  refine cw_iconst (pc := 45) (x := 0) d_We_init_45 (by decide) ?_
  refine cw_put (pc := 46) (ci := 9) (k := 5) (N := 8) (t := 0) (C := RX9) (T := TX9) (tys := tyX9) (v := 0) (ty := .boolean) rfl (by decide) inX9 tyX9_ok nmX9 (by decide) rfl rfl rfl w2_99 (Or.inl rfl) d_We_init_46 rfl rfl rfl rfl rfl ?_
  show CW G 1 K_We_init a 5 300 (CQp G a c_We_init) (fun _ => True) 49 [(0, .ref a)] [] ((9, 0, [1, 2, 3, 4, 5, 0, 0, 0]) :: r_We_init_5) 5 300
  refine cw_aload_n (pc := 49) d_We_init_49 rfl 0 rfl ?_
  refine cw_iconst (pc := 50) (x := 0) d_We_init_50 (by decide) ?_
  refine cw_put (pc := 51) (ci := 9) (k := 6) (N := 8) (t := 0) (C := RX9) (T := TX9) (tys := tyX9) (v := 0) (ty := .int) rfl (by decide) inX9 tyX9_ok nmX9 (by decide) rfl rfl rfl w2_102 (Or.inl rfl) d_We_init_51 rfl rfl rfl rfl rfl ?_
  show CW G 1 K_We_init a 5 300 (CQp G a c_We_init) (fun _ => True) 54 [(0, .ref a)] [] ((9, 0, [1, 2, 3, 4, 5, 0, 0, 0]) :: r_We_init_5) 5 300
  refine cw_aload_n (pc := 54) d_We_init_54 rfl 0 rfl ?_
  refine cw_iconst (pc := 55) (x := 0) d_We_init_55 (by decide) ?_
  refine cw_put (pc := 56) (ci := 9) (k := 7) (N := 8) (t := 0) (C := RX9) (T := TX9) (tys := tyX9) (v := 0) (ty := .int) rfl (by decide) inX9 tyX9_ok nmX9 (by decide) rfl rfl rfl w2_104 (Or.inl rfl) d_We_init_56 rfl rfl rfl rfl rfl ?_
  show CW G 1 K_We_init a 5 300 (CQp G a c_We_init) (fun _ => True) 59 [(0, .ref a)] [] ((9, 0, [1, 2, 3, 4, 5, 0, 0, 0]) :: r_We_init_5) 5 300
  exact cw_ret (pc := 59) d_We_init_59 rfl rfl rfl rfl
abbrev K_SR_init : Mk := (⟨"LastPages$ShelfReader", "<init>", "()V"⟩, prog_7_method_1_code, 1, (Option.none : Option Jvm.ClassFile.FieldType))
theorem okI_SR_init : okI ⟨"LastPages$ShelfReader", "<init>", "()V"⟩ prog_7_method_1_code 1 0 := ⟨w1_142, w1_141, w1_7, ⟨by decide, by decide, by decide +kernel⟩, by decide, rfl⟩
theorem d_SR_init_0 : decode prog_7_method_1_code 0 = .ok (.aload_n 0, 1) := by decide +kernel
theorem d_SR_init_1 : decode prog_7_method_1_code 1 = .ok (.invokespecial 3, 3) := by decide +kernel
theorem d_SR_init_4 : decode prog_7_method_1_code 4 = .ok (.aload_n 0, 1) := by decide +kernel
theorem d_SR_init_5 : decode prog_7_method_1_code 5 = .ok (.bipush 10, 2) := by decide +kernel
theorem d_SR_init_7 : decode prog_7_method_1_code 7 = .ok (.newarray .int, 2) := by decide +kernel
theorem d_SR_init_9 : decode prog_7_method_1_code 9 = .ok (.putfield 9, 3) := by decide +kernel
theorem d_SR_init_12 : decode prog_7_method_1_code 12 = .ok (.aload_n 0, 1) := by decide +kernel
theorem d_SR_init_13 : decode prog_7_method_1_code 13 = .ok (.iconst 0, 1) := by decide +kernel
theorem d_SR_init_14 : decode prog_7_method_1_code 14 = .ok (.putfield 15, 3) := by decide +kernel
theorem d_SR_init_17 : decode prog_7_method_1_code 17 = .ok (.return_, 1) := by decide +kernel
def r_SR_init_1 : List Sp := [] ++ [(20, 10, [])]
def c_SR_init : List Sp := (5, 0, [1, 0]) :: r_SR_init_1
set_option maxRecDepth 100000 in
theorem ok_SR_init (G : Gm) (a : Nat) : CM G 1 1 10 K_SR_init a [] [dO 5] c_SR_init (fun _ => True) := by
  refine CM.of rfl (Nat.le_of_ble_eq_true rfl) ?_
  show CW G 1 K_SR_init a 1 10 (CQp G a c_SR_init) (fun _ => True) 0 [(0, .ref a)] [] ((5, 0, [(-1), 0]) :: []) 0 0
  refine cw_aload_n (pc := 0) d_SR_init_0 rfl 0 rfl ?_
  refine cw_objinit (pc := 1) d_SR_init_1 w1_143 w1_28 w1_29 (by decide) ?_
  refine cw_aload_n (pc := 4) d_SR_init_4 rfl 0 rfl ?_
  refine cw_bipush (pc := 5) (x := 10) d_SR_init_5 (by decide) ?_
  refine cw_newi (pc := 7) (N := 10) w1_151 (by decide) (by decide) (by decide) d_SR_init_7 (by decide +kernel) (by decide) (by decide) ?_
  show CW G 1 K_SR_init a 1 10 (CQp G a c_SR_init) (fun _ => True) 9 [(0, .ref a)] [.ref (a + 1), .ref a] ((5, 0, [(-1), 0]) :: r_SR_init_1) 1 10
  refine cw_put (pc := 9) (ci := 5) (k := 0) (N := 2) (t := 2) (C := RX5) (T := TX5) (tys := tyX5) (v := 1) (ty := .array .int) rfl (by decide) inX5 tyX5_ok nmX5 (by decide) rfl rfl rfl w1_144 (Or.inr ⟨rfl, rfl, rfl⟩) d_SR_init_9 rfl rfl rfl rfl rfl ?_
  show CW G 1 K_SR_init a 1 10 (CQp G a c_SR_init) (fun _ => True) 12 [(0, .ref a)] [] ((5, 0, [1, 0]) :: r_SR_init_1) 1 10
  refine cw_aload_n (pc := 12) d_SR_init_12 rfl 0 rfl ?_
  refine cw_iconst (pc := 13) (x := 0) d_SR_init_13 (by decide) ?_
  refine cw_put (pc := 14) (ci := 5) (k := 1) (N := 2) (t := 0) (C := RX5) (T := TX5) (tys := tyX5) (v := 0) (ty := .int) rfl (by decide) inX5 tyX5_ok nmX5 (by decide) rfl rfl rfl w1_145 (Or.inl rfl) d_SR_init_14 rfl rfl rfl rfl rfl ?_
  show CW G 1 K_SR_init a 1 10 (CQp G a c_SR_init) (fun _ => True) 17 [(0, .ref a)] [] ((5, 0, [1, 0]) :: r_SR_init_1) 1 10
  exact cw_ret (pc := 17) d_SR_init_17 rfl rfl rfl rfl
abbrev K_WR_init : Mk := (⟨"LastPages$WeeksReader", "<init>", "()V"⟩, prog_12_method_1_code, 1, (Option.none : Option Jvm.ClassFile.FieldType))
theorem okI_WR_init : okI ⟨"LastPages$WeeksReader", "<init>", "()V"⟩ prog_12_method_1_code 1 0 := ⟨w1_156, w1_155, w1_8, ⟨by decide, by decide, by decide +kernel⟩, by decide, rfl⟩
theorem d_WR_init_0 : decode prog_12_method_1_code 0 = .ok (.aload_n 0, 1) := by decide +kernel
theorem d_WR_init_1 : decode prog_12_method_1_code 1 = .ok (.invokespecial 3, 3) := by decide +kernel
theorem d_WR_init_4 : decode prog_12_method_1_code 4 = .ok (.aload_n 0, 1) := by decide +kernel
theorem d_WR_init_5 : decode prog_12_method_1_code 5 = .ok (.iconst 3, 1) := by decide +kernel
theorem d_WR_init_6 : decode prog_12_method_1_code 6 = .ok (.newarray .int, 2) := by decide +kernel
theorem d_WR_init_8 : decode prog_12_method_1_code 8 = .ok (.putfield 9, 3) := by decide +kernel
theorem d_WR_init_11 : decode prog_12_method_1_code 11 = .ok (.aload_n 0, 1) := by decide +kernel
theorem d_WR_init_12 : decode prog_12_method_1_code 12 = .ok (.iconst 0, 1) := by decide +kernel
theorem d_WR_init_13 : decode prog_12_method_1_code 13 = .ok (.putfield 15, 3) := by decide +kernel
theorem d_WR_init_16 : decode prog_12_method_1_code 16 = .ok (.return_, 1) := by decide +kernel
def r_WR_init_1 : List Sp := [] ++ [(20, 3, [])]
def c_WR_init : List Sp := (10, 0, [1, 0]) :: r_WR_init_1
set_option maxRecDepth 100000 in
theorem ok_WR_init (G : Gm) (a : Nat) : CM G 1 1 3 K_WR_init a [] [dO 10] c_WR_init (fun _ => True) := by
  refine CM.of rfl (Nat.le_of_ble_eq_true rfl) ?_
  show CW G 1 K_WR_init a 1 3 (CQp G a c_WR_init) (fun _ => True) 0 [(0, .ref a)] [] ((10, 0, [(-1), 0]) :: []) 0 0
  refine cw_aload_n (pc := 0) d_WR_init_0 rfl 0 rfl ?_
  refine cw_objinit (pc := 1) d_WR_init_1 w1_157 w1_28 w1_29 (by decide) ?_
  refine cw_aload_n (pc := 4) d_WR_init_4 rfl 0 rfl ?_
  refine cw_iconst (pc := 5) (x := 3) d_WR_init_5 (by decide) ?_
  refine cw_newi (pc := 6) (N := 3) w1_151 (by decide) (by decide) (by decide) d_WR_init_6 (by decide +kernel) (by decide) (by decide) ?_
  show CW G 1 K_WR_init a 1 3 (CQp G a c_WR_init) (fun _ => True) 8 [(0, .ref a)] [.ref (a + 1), .ref a] ((10, 0, [(-1), 0]) :: r_WR_init_1) 1 3
  refine cw_put (pc := 8) (ci := 10) (k := 0) (N := 2) (t := 2) (C := RX10) (T := TX10) (tys := tyX10) (v := 1) (ty := .array .int) rfl (by decide) inX10 tyX10_ok nmX10 (by decide) rfl rfl rfl w1_158 (Or.inr ⟨rfl, rfl, rfl⟩) d_WR_init_8 rfl rfl rfl rfl rfl ?_
  show CW G 1 K_WR_init a 1 3 (CQp G a c_WR_init) (fun _ => True) 11 [(0, .ref a)] [] ((10, 0, [1, 0]) :: r_WR_init_1) 1 3
  refine cw_aload_n (pc := 11) d_WR_init_11 rfl 0 rfl ?_
  refine cw_iconst (pc := 12) (x := 0) d_WR_init_12 (by decide) ?_
  refine cw_put (pc := 13) (ci := 10) (k := 1) (N := 2) (t := 0) (C := RX10) (T := TX10) (tys := tyX10) (v := 0) (ty := .int) rfl (by decide) inX10 tyX10_ok nmX10 (by decide) rfl rfl rfl w1_159 (Or.inl rfl) d_WR_init_13 rfl rfl rfl rfl rfl ?_
  show CW G 1 K_WR_init a 1 3 (CQp G a c_WR_init) (fun _ => True) 16 [(0, .ref a)] [] ((10, 0, [1, 0]) :: r_WR_init_1) 1 3
  exact cw_ret (pc := 16) d_WR_init_16 rfl rfl rfl rfl
abbrev K_Fi_init : Mk := (⟨"LastPages$Fitting", "<init>", "()V"⟩, prog_3_method_1_code, 1, (Option.none : Option Jvm.ClassFile.FieldType))
theorem okI_Fi_init : okI ⟨"LastPages$Fitting", "<init>", "()V"⟩ prog_3_method_1_code 1 0 := ⟨w2_7, w2_6, w1_11, ⟨by decide, by decide, by decide +kernel⟩, by decide, rfl⟩
theorem d_Fi_init_0 : decode prog_3_method_1_code 0 = .ok (.aload_n 0, 1) := by decide +kernel
theorem d_Fi_init_1 : decode prog_3_method_1_code 1 = .ok (.invokespecial 3, 3) := by decide +kernel
theorem d_Fi_init_4 : decode prog_3_method_1_code 4 = .ok (.aload_n 0, 1) := by decide +kernel
theorem d_Fi_init_5 : decode prog_3_method_1_code 5 = .ok (.bipush 6, 2) := by decide +kernel
theorem d_Fi_init_7 : decode prog_3_method_1_code 7 = .ok (.newarray .int, 2) := by decide +kernel
theorem d_Fi_init_9 : decode prog_3_method_1_code 9 = .ok (.putfield 9, 3) := by decide +kernel
theorem d_Fi_init_12 : decode prog_3_method_1_code 12 = .ok (.aload_n 0, 1) := by decide +kernel
theorem d_Fi_init_13 : decode prog_3_method_1_code 13 = .ok (.sipush 256, 3) := by decide +kernel
theorem d_Fi_init_16 : decode prog_3_method_1_code 16 = .ok (.newarray .long, 2) := by decide +kernel
theorem d_Fi_init_18 : decode prog_3_method_1_code 18 = .ok (.putfield 15, 3) := by decide +kernel
theorem d_Fi_init_21 : decode prog_3_method_1_code 21 = .ok (.aload_n 0, 1) := by decide +kernel
theorem d_Fi_init_22 : decode prog_3_method_1_code 22 = .ok (.iconst 0, 1) := by decide +kernel
theorem d_Fi_init_23 : decode prog_3_method_1_code 23 = .ok (.putfield 19, 3) := by decide +kernel
theorem d_Fi_init_26 : decode prog_3_method_1_code 26 = .ok (.aload_n 0, 1) := by decide +kernel
theorem d_Fi_init_27 : decode prog_3_method_1_code 27 = .ok (.iconst 0, 1) := by decide +kernel
theorem d_Fi_init_28 : decode prog_3_method_1_code 28 = .ok (.putfield 23, 3) := by decide +kernel
theorem d_Fi_init_31 : decode prog_3_method_1_code 31 = .ok (.return_, 1) := by decide +kernel
def r_Fi_init_1 : List Sp := [] ++ [(20, 6, [])]
def r_Fi_init_2 : List Sp := r_Fi_init_1 ++ [(22, 256, [])]
def c_Fi_init : List Sp := (1, 0, [1, 2, 0, 0]) :: r_Fi_init_2
set_option maxRecDepth 100000 in
theorem ok_Fi_init (G : Gm) (a : Nat) : CM G 1 2 262 K_Fi_init a [] [dO 1] c_Fi_init (fun _ => True) := by
  refine CM.of rfl (Nat.le_of_ble_eq_true rfl) ?_
  show CW G 1 K_Fi_init a 2 262 (CQp G a c_Fi_init) (fun _ => True) 0 [(0, .ref a)] [] ((1, 0, [(-1), (-1), 0, 0]) :: []) 0 0
  refine cw_aload_n (pc := 0) d_Fi_init_0 rfl 0 rfl ?_
  refine cw_objinit (pc := 1) d_Fi_init_1 w2_8 w1_28 w1_29 (by decide) ?_
  refine cw_aload_n (pc := 4) d_Fi_init_4 rfl 0 rfl ?_
  refine cw_bipush (pc := 5) (x := 6) d_Fi_init_5 (by decide) ?_
  refine cw_newi (pc := 7) (N := 6) w1_151 (by decide) (by decide) (by decide) d_Fi_init_7 (by decide +kernel) (by decide) (by decide) ?_
  show CW G 1 K_Fi_init a 2 262 (CQp G a c_Fi_init) (fun _ => True) 9 [(0, .ref a)] [.ref (a + 1), .ref a] ((1, 0, [(-1), (-1), 0, 0]) :: r_Fi_init_1) 1 6
  refine cw_put (pc := 9) (ci := 1) (k := 0) (N := 4) (t := 2) (C := RX1) (T := TX1) (tys := tyX1) (v := 1) (ty := .array .int) rfl (by decide) inX1 tyX1_ok nmX1 (by decide) rfl rfl rfl w2_9 (Or.inr ⟨rfl, rfl, rfl⟩) d_Fi_init_9 rfl rfl rfl rfl rfl ?_
  show CW G 1 K_Fi_init a 2 262 (CQp G a c_Fi_init) (fun _ => True) 12 [(0, .ref a)] [] ((1, 0, [1, (-1), 0, 0]) :: r_Fi_init_1) 1 6
  refine cw_aload_n (pc := 12) d_Fi_init_12 rfl 0 rfl ?_
  refine cw_sipush (pc := 13) (x := 256) d_Fi_init_13 (by decide) ?_
  refine cw_newl (pc := 16) (N := 256) w1_137 (by decide) (by decide) (by decide) d_Fi_init_16 (by decide +kernel) (by decide) (by decide) ?_
  show CW G 1 K_Fi_init a 2 262 (CQp G a c_Fi_init) (fun _ => True) 18 [(0, .ref a)] [.ref (a + 2), .ref a] ((1, 0, [1, (-1), 0, 0]) :: r_Fi_init_2) 2 262
  refine cw_put (pc := 18) (ci := 1) (k := 1) (N := 4) (t := 2) (C := RX1) (T := TX1) (tys := tyX1) (v := 2) (ty := .array .long) rfl (by decide) inX1 tyX1_ok nmX1 (by decide) rfl rfl rfl w2_10 (Or.inr ⟨rfl, rfl, rfl⟩) d_Fi_init_18 rfl rfl rfl rfl rfl ?_
  show CW G 1 K_Fi_init a 2 262 (CQp G a c_Fi_init) (fun _ => True) 21 [(0, .ref a)] [] ((1, 0, [1, 2, 0, 0]) :: r_Fi_init_2) 2 262
  refine cw_aload_n (pc := 21) d_Fi_init_21 rfl 0 rfl ?_
  refine cw_iconst (pc := 22) (x := 0) d_Fi_init_22 (by decide) ?_
  refine cw_put (pc := 23) (ci := 1) (k := 2) (N := 4) (t := 0) (C := RX1) (T := TX1) (tys := tyX1) (v := 0) (ty := .int) rfl (by decide) inX1 tyX1_ok nmX1 (by decide) rfl rfl rfl w2_11 (Or.inl rfl) d_Fi_init_23 rfl rfl rfl rfl rfl ?_
  show CW G 1 K_Fi_init a 2 262 (CQp G a c_Fi_init) (fun _ => True) 26 [(0, .ref a)] [] ((1, 0, [1, 2, 0, 0]) :: r_Fi_init_2) 2 262
  refine cw_aload_n (pc := 26) d_Fi_init_26 rfl 0 rfl ?_
  refine cw_iconst (pc := 27) (x := 0) d_Fi_init_27 (by decide) ?_
  refine cw_put (pc := 28) (ci := 1) (k := 3) (N := 4) (t := 0) (C := RX1) (T := TX1) (tys := tyX1) (v := 0) (ty := .int) rfl (by decide) inX1 tyX1_ok nmX1 (by decide) rfl rfl rfl w2_12 (Or.inl rfl) d_Fi_init_28 rfl rfl rfl rfl rfl ?_
  show CW G 1 K_Fi_init a 2 262 (CQp G a c_Fi_init) (fun _ => True) 31 [(0, .ref a)] [] ((1, 0, [1, 2, 0, 0]) :: r_Fi_init_2) 2 262
  exact cw_ret (pc := 31) d_Fi_init_31 rfl rfl rfl rfl
abbrev K_Li_init : Mk := (⟨"LastPages$Life", "<init>", "()V"⟩, prog_4_method_1_code, 1, (Option.none : Option Jvm.ClassFile.FieldType))
theorem okI_Li_init : okI ⟨"LastPages$Life", "<init>", "()V"⟩ prog_4_method_1_code 1 0 := ⟨w2_26, w2_25, w1_12, ⟨by decide, by decide, by decide +kernel⟩, by decide, rfl⟩
theorem d_Li_init_0 : decode prog_4_method_1_code 0 = .ok (.aload_n 0, 1) := by decide +kernel
theorem d_Li_init_1 : decode prog_4_method_1_code 1 = .ok (.invokespecial 3, 3) := by decide +kernel
theorem d_Li_init_4 : decode prog_4_method_1_code 4 = .ok (.aload_n 0, 1) := by decide +kernel
theorem d_Li_init_5 : decode prog_4_method_1_code 5 = .ok (.iconst 5, 1) := by decide +kernel
theorem d_Li_init_6 : decode prog_4_method_1_code 6 = .ok (.newarray .int, 2) := by decide +kernel
theorem d_Li_init_8 : decode prog_4_method_1_code 8 = .ok (.putfield 9, 3) := by decide +kernel
theorem d_Li_init_11 : decode prog_4_method_1_code 11 = .ok (.aload_n 0, 1) := by decide +kernel
theorem d_Li_init_12 : decode prog_4_method_1_code 12 = .ok (.bipush 60, 2) := by decide +kernel
theorem d_Li_init_14 : decode prog_4_method_1_code 14 = .ok (.newarray .int, 2) := by decide +kernel
theorem d_Li_init_16 : decode prog_4_method_1_code 16 = .ok (.putfield 15, 3) := by decide +kernel
theorem d_Li_init_19 : decode prog_4_method_1_code 19 = .ok (.aload_n 0, 1) := by decide +kernel
theorem d_Li_init_20 : decode prog_4_method_1_code 20 = .ok (.bipush 6, 2) := by decide +kernel
theorem d_Li_init_22 : decode prog_4_method_1_code 22 = .ok (.newarray .int, 2) := by decide +kernel
theorem d_Li_init_24 : decode prog_4_method_1_code 24 = .ok (.putfield 18, 3) := by decide +kernel
theorem d_Li_init_27 : decode prog_4_method_1_code 27 = .ok (.aload_n 0, 1) := by decide +kernel
theorem d_Li_init_28 : decode prog_4_method_1_code 28 = .ok (.bipush 6, 2) := by decide +kernel
theorem d_Li_init_30 : decode prog_4_method_1_code 30 = .ok (.newarray .int, 2) := by decide +kernel
theorem d_Li_init_32 : decode prog_4_method_1_code 32 = .ok (.putfield 21, 3) := by decide +kernel
theorem d_Li_init_35 : decode prog_4_method_1_code 35 = .ok (.aload_n 0, 1) := by decide +kernel
theorem d_Li_init_36 : decode prog_4_method_1_code 36 = .ok (.iconst 0, 1) := by decide +kernel
theorem d_Li_init_37 : decode prog_4_method_1_code 37 = .ok (.putfield 24, 3) := by decide +kernel
theorem d_Li_init_40 : decode prog_4_method_1_code 40 = .ok (.aload_n 0, 1) := by decide +kernel
theorem d_Li_init_41 : decode prog_4_method_1_code 41 = .ok (.iconst 0, 1) := by decide +kernel
theorem d_Li_init_42 : decode prog_4_method_1_code 42 = .ok (.putfield 28, 3) := by decide +kernel
theorem d_Li_init_45 : decode prog_4_method_1_code 45 = .ok (.aload_n 0, 1) := by decide +kernel
theorem d_Li_init_46 : decode prog_4_method_1_code 46 = .ok (.iconst 0, 1) := by decide +kernel
theorem d_Li_init_47 : decode prog_4_method_1_code 47 = .ok (.putfield 31, 3) := by decide +kernel
theorem d_Li_init_50 : decode prog_4_method_1_code 50 = .ok (.return_, 1) := by decide +kernel
def r_Li_init_1 : List Sp := [] ++ [(20, 5, [])]
def r_Li_init_2 : List Sp := r_Li_init_1 ++ [(20, 60, [])]
def r_Li_init_3 : List Sp := r_Li_init_2 ++ [(20, 6, [])]
def r_Li_init_4 : List Sp := r_Li_init_3 ++ [(20, 6, [])]
def c_Li_init : List Sp := (2, 0, [1, 2, 3, 4, 0, 0, 0]) :: r_Li_init_4
set_option maxRecDepth 100000 in
theorem ok_Li_init (G : Gm) (a : Nat) : CM G 1 4 77 K_Li_init a [] [dO 2] c_Li_init (fun _ => True) := by
  refine CM.of rfl (Nat.le_of_ble_eq_true rfl) ?_
  show CW G 1 K_Li_init a 4 77 (CQp G a c_Li_init) (fun _ => True) 0 [(0, .ref a)] [] ((2, 0, [(-1), (-1), (-1), (-1), 0, 0, 0]) :: []) 0 0
  refine cw_aload_n (pc := 0) d_Li_init_0 rfl 0 rfl ?_
  refine cw_objinit (pc := 1) d_Li_init_1 w2_27 w1_28 w1_29 (by decide) ?_
  refine cw_aload_n (pc := 4) d_Li_init_4 rfl 0 rfl ?_
  refine cw_iconst (pc := 5) (x := 5) d_Li_init_5 (by decide) ?_
  refine cw_newi (pc := 6) (N := 5) w1_151 (by decide) (by decide) (by decide) d_Li_init_6 (by decide +kernel) (by decide) (by decide) ?_
  show CW G 1 K_Li_init a 4 77 (CQp G a c_Li_init) (fun _ => True) 8 [(0, .ref a)] [.ref (a + 1), .ref a] ((2, 0, [(-1), (-1), (-1), (-1), 0, 0, 0]) :: r_Li_init_1) 1 5
  refine cw_put (pc := 8) (ci := 2) (k := 0) (N := 7) (t := 2) (C := RX2) (T := TX2) (tys := tyX2) (v := 1) (ty := .array .int) rfl (by decide) inX2 tyX2_ok nmX2 (by decide) rfl rfl rfl w2_28 (Or.inr ⟨rfl, rfl, rfl⟩) d_Li_init_8 rfl rfl rfl rfl rfl ?_
  show CW G 1 K_Li_init a 4 77 (CQp G a c_Li_init) (fun _ => True) 11 [(0, .ref a)] [] ((2, 0, [1, (-1), (-1), (-1), 0, 0, 0]) :: r_Li_init_1) 1 5
  refine cw_aload_n (pc := 11) d_Li_init_11 rfl 0 rfl ?_
  refine cw_bipush (pc := 12) (x := 60) d_Li_init_12 (by decide) ?_
  refine cw_newi (pc := 14) (N := 60) w1_151 (by decide) (by decide) (by decide) d_Li_init_14 (by decide +kernel) (by decide) (by decide) ?_
  show CW G 1 K_Li_init a 4 77 (CQp G a c_Li_init) (fun _ => True) 16 [(0, .ref a)] [.ref (a + 2), .ref a] ((2, 0, [1, (-1), (-1), (-1), 0, 0, 0]) :: r_Li_init_2) 2 65
  refine cw_put (pc := 16) (ci := 2) (k := 1) (N := 7) (t := 2) (C := RX2) (T := TX2) (tys := tyX2) (v := 2) (ty := .array .int) rfl (by decide) inX2 tyX2_ok nmX2 (by decide) rfl rfl rfl w2_30 (Or.inr ⟨rfl, rfl, rfl⟩) d_Li_init_16 rfl rfl rfl rfl rfl ?_
  show CW G 1 K_Li_init a 4 77 (CQp G a c_Li_init) (fun _ => True) 19 [(0, .ref a)] [] ((2, 0, [1, 2, (-1), (-1), 0, 0, 0]) :: r_Li_init_2) 2 65
  refine cw_aload_n (pc := 19) d_Li_init_19 rfl 0 rfl ?_
  refine cw_bipush (pc := 20) (x := 6) d_Li_init_20 (by decide) ?_
  refine cw_newi (pc := 22) (N := 6) w1_151 (by decide) (by decide) (by decide) d_Li_init_22 (by decide +kernel) (by decide) (by decide) ?_
  show CW G 1 K_Li_init a 4 77 (CQp G a c_Li_init) (fun _ => True) 24 [(0, .ref a)] [.ref (a + 3), .ref a] ((2, 0, [1, 2, (-1), (-1), 0, 0, 0]) :: r_Li_init_3) 3 71
  refine cw_put (pc := 24) (ci := 2) (k := 2) (N := 7) (t := 2) (C := RX2) (T := TX2) (tys := tyX2) (v := 3) (ty := .array .int) rfl (by decide) inX2 tyX2_ok nmX2 (by decide) rfl rfl rfl w2_31 (Or.inr ⟨rfl, rfl, rfl⟩) d_Li_init_24 rfl rfl rfl rfl rfl ?_
  show CW G 1 K_Li_init a 4 77 (CQp G a c_Li_init) (fun _ => True) 27 [(0, .ref a)] [] ((2, 0, [1, 2, 3, (-1), 0, 0, 0]) :: r_Li_init_3) 3 71
  refine cw_aload_n (pc := 27) d_Li_init_27 rfl 0 rfl ?_
  refine cw_bipush (pc := 28) (x := 6) d_Li_init_28 (by decide) ?_
  refine cw_newi (pc := 30) (N := 6) w1_151 (by decide) (by decide) (by decide) d_Li_init_30 (by decide +kernel) (by decide) (by decide) ?_
  show CW G 1 K_Li_init a 4 77 (CQp G a c_Li_init) (fun _ => True) 32 [(0, .ref a)] [.ref (a + 4), .ref a] ((2, 0, [1, 2, 3, (-1), 0, 0, 0]) :: r_Li_init_4) 4 77
  refine cw_put (pc := 32) (ci := 2) (k := 3) (N := 7) (t := 2) (C := RX2) (T := TX2) (tys := tyX2) (v := 4) (ty := .array .int) rfl (by decide) inX2 tyX2_ok nmX2 (by decide) rfl rfl rfl w2_32 (Or.inr ⟨rfl, rfl, rfl⟩) d_Li_init_32 rfl rfl rfl rfl rfl ?_
  show CW G 1 K_Li_init a 4 77 (CQp G a c_Li_init) (fun _ => True) 35 [(0, .ref a)] [] ((2, 0, [1, 2, 3, 4, 0, 0, 0]) :: r_Li_init_4) 4 77
  refine cw_aload_n (pc := 35) d_Li_init_35 rfl 0 rfl ?_
  refine cw_iconst (pc := 36) (x := 0) d_Li_init_36 (by decide) ?_
  refine cw_put (pc := 37) (ci := 2) (k := 4) (N := 7) (t := 0) (C := RX2) (T := TX2) (tys := tyX2) (v := 0) (ty := .int) rfl (by decide) inX2 tyX2_ok nmX2 (by decide) rfl rfl rfl w2_33 (Or.inl rfl) d_Li_init_37 rfl rfl rfl rfl rfl ?_
  show CW G 1 K_Li_init a 4 77 (CQp G a c_Li_init) (fun _ => True) 40 [(0, .ref a)] [] ((2, 0, [1, 2, 3, 4, 0, 0, 0]) :: r_Li_init_4) 4 77
  refine cw_aload_n (pc := 40) d_Li_init_40 rfl 0 rfl ?_
  refine cw_iconst (pc := 41) (x := 0) d_Li_init_41 (by decide) ?_
  refine cw_put (pc := 42) (ci := 2) (k := 5) (N := 7) (t := 0) (C := RX2) (T := TX2) (tys := tyX2) (v := 0) (ty := .int) rfl (by decide) inX2 tyX2_ok nmX2 (by decide) rfl rfl rfl w2_34 (Or.inl rfl) d_Li_init_42 rfl rfl rfl rfl rfl ?_
  show CW G 1 K_Li_init a 4 77 (CQp G a c_Li_init) (fun _ => True) 45 [(0, .ref a)] [] ((2, 0, [1, 2, 3, 4, 0, 0, 0]) :: r_Li_init_4) 4 77
  refine cw_aload_n (pc := 45) d_Li_init_45 rfl 0 rfl ?_
  refine cw_iconst (pc := 46) (x := 0) d_Li_init_46 (by decide) ?_
  refine cw_put (pc := 47) (ci := 2) (k := 6) (N := 7) (t := 0) (C := RX2) (T := TX2) (tys := tyX2) (v := 0) (ty := .int) rfl (by decide) inX2 tyX2_ok nmX2 (by decide) rfl rfl rfl w2_36 (Or.inl rfl) d_Li_init_47 rfl rfl rfl rfl rfl ?_
  show CW G 1 K_Li_init a 4 77 (CQp G a c_Li_init) (fun _ => True) 50 [(0, .ref a)] [] ((2, 0, [1, 2, 3, 4, 0, 0, 0]) :: r_Li_init_4) 4 77
  exact cw_ret (pc := 50) d_Li_init_50 rfl rfl rfl rfl
abbrev K_Lo_init : Mk := (⟨"LastPages$Lot", "<init>", "(I)V"⟩, prog_5_method_1_code, 2, (Option.none : Option Jvm.ClassFile.FieldType))
theorem okI_Lo_init : okI ⟨"LastPages$Lot", "<init>", "(I)V"⟩ prog_5_method_1_code 2 1 := ⟨w2_63, w2_62, w1_14, ⟨by decide, by decide, by decide +kernel⟩, by decide, rfl⟩
theorem d_Lo_init_0 : decode prog_5_method_1_code 0 = .ok (.aload_n 0, 1) := by decide +kernel
theorem d_Lo_init_1 : decode prog_5_method_1_code 1 = .ok (.invokespecial 1, 3) := by decide +kernel
theorem d_Lo_init_4 : decode prog_5_method_1_code 4 = .ok (.aload_n 0, 1) := by decide +kernel
theorem d_Lo_init_5 : decode prog_5_method_1_code 5 = .ok (.iconst 0, 1) := by decide +kernel
theorem d_Lo_init_6 : decode prog_5_method_1_code 6 = .ok (.putfield 7, 3) := by decide +kernel
theorem d_Lo_init_9 : decode prog_5_method_1_code 9 = .ok (.aload_n 0, 1) := by decide +kernel
theorem d_Lo_init_10 : decode prog_5_method_1_code 10 = .ok (.iload_n 1, 1) := by decide +kernel
theorem d_Lo_init_11 : decode prog_5_method_1_code 11 = .ok (.iconst 0, 1) := by decide +kernel
theorem d_Lo_init_12 : decode prog_5_method_1_code 12 = .ok (.invokestatic 13, 3) := by decide +kernel
theorem d_Lo_init_15 : decode prog_5_method_1_code 15 = .ok (.newarray .int, 2) := by decide +kernel
theorem d_Lo_init_17 : decode prog_5_method_1_code 17 = .ok (.putfield 19, 3) := by decide +kernel
theorem d_Lo_init_20 : decode prog_5_method_1_code 20 = .ok (.aload_n 0, 1) := by decide +kernel
theorem d_Lo_init_21 : decode prog_5_method_1_code 21 = .ok (.iload_n 1, 1) := by decide +kernel
theorem d_Lo_init_22 : decode prog_5_method_1_code 22 = .ok (.iconst 0, 1) := by decide +kernel
theorem d_Lo_init_23 : decode prog_5_method_1_code 23 = .ok (.invokestatic 13, 3) := by decide +kernel
theorem d_Lo_init_26 : decode prog_5_method_1_code 26 = .ok (.newarray .int, 2) := by decide +kernel
theorem d_Lo_init_28 : decode prog_5_method_1_code 28 = .ok (.putfield 23, 3) := by decide +kernel
theorem d_Lo_init_31 : decode prog_5_method_1_code 31 = .ok (.return_, 1) := by decide +kernel
def r_Lo_init6_1 : List Sp := [] ++ [(20, 6, [])]
def r_Lo_init6_2 : List Sp := r_Lo_init6_1 ++ [(20, 6, [])]
def c_Lo_init6 : List Sp := (3, 0, [1, 2, 0]) :: r_Lo_init6_2
set_option maxRecDepth 100000 in
theorem ok_Lo_init6 (G : Gm) (a : Nat) : CM G 1 2 12 K_Lo_init a [.int 6] [dO 3] c_Lo_init6 (fun _ => True) := by
  refine CM.of rfl (Nat.le_of_ble_eq_true rfl) ?_
  show CW G 1 K_Lo_init a 2 12 (CQp G a c_Lo_init6) (fun _ => True) 0 [(0, .ref a), (1, .int 6)] [] ((3, 0, [(-1), (-1), 0]) :: []) 0 0
  refine cw_aload_n (pc := 0) d_Lo_init_0 rfl 0 rfl ?_
  refine cw_objinit (pc := 1) d_Lo_init_1 w2_64 w1_28 w1_29 (by decide) ?_
  refine cw_aload_n (pc := 4) d_Lo_init_4 rfl 0 rfl ?_
  refine cw_iconst (pc := 5) (x := 0) d_Lo_init_5 (by decide) ?_
  refine cw_put (pc := 6) (ci := 3) (k := 2) (N := 3) (t := 0) (C := RX3) (T := TX3) (tys := tyX3) (v := 0) (ty := .int) rfl (by decide) inX3 tyX3_ok nmX3 (by decide) rfl rfl rfl w2_72 (Or.inl rfl) d_Lo_init_6 rfl rfl rfl rfl rfl ?_
  show CW G 1 K_Lo_init a 2 12 (CQp G a c_Lo_init6) (fun _ => True) 9 [(0, .ref a), (1, .int 6)] [] ((3, 0, [(-1), (-1), 0]) :: []) 0 0
  refine cw_aload_n (pc := 9) d_Lo_init_9 rfl 0 rfl ?_
  refine cw_iload_n (pc := 10) d_Lo_init_10 rfl 1 rfl ?_
  refine cw_iconst (pc := 11) (x := 0) d_Lo_init_11 (by decide) ?_
  refine cw_mmax (pc := 12) (z := 6) d_Lo_init_12 w2_65 w2_66 w1_15 w2_67 (by decide) (Nat.le_of_ble_eq_true rfl) (by decide) (by decide) (by decide) ?_
  refine cw_newi (pc := 15) (N := 6) w1_151 (by decide) (by decide) (by decide) d_Lo_init_15 (by decide +kernel) (by decide) (by decide) ?_
  show CW G 1 K_Lo_init a 2 12 (CQp G a c_Lo_init6) (fun _ => True) 17 [(0, .ref a), (1, .int 6)] [.ref (a + 1), .ref a] ((3, 0, [(-1), (-1), 0]) :: r_Lo_init6_1) 1 6
  refine cw_put (pc := 17) (ci := 3) (k := 0) (N := 3) (t := 2) (C := RX3) (T := TX3) (tys := tyX3) (v := 1) (ty := .array .int) rfl (by decide) inX3 tyX3_ok nmX3 (by decide) rfl rfl rfl w2_68 (Or.inr ⟨rfl, rfl, rfl⟩) d_Lo_init_17 rfl rfl rfl rfl rfl ?_
  show CW G 1 K_Lo_init a 2 12 (CQp G a c_Lo_init6) (fun _ => True) 20 [(0, .ref a), (1, .int 6)] [] ((3, 0, [1, (-1), 0]) :: r_Lo_init6_1) 1 6
  refine cw_aload_n (pc := 20) d_Lo_init_20 rfl 0 rfl ?_
  refine cw_iload_n (pc := 21) d_Lo_init_21 rfl 1 rfl ?_
  refine cw_iconst (pc := 22) (x := 0) d_Lo_init_22 (by decide) ?_
  refine cw_mmax (pc := 23) (z := 6) d_Lo_init_23 w2_65 w2_66 w1_15 w2_67 (by decide) (Nat.le_of_ble_eq_true rfl) (by decide) (by decide) (by decide) ?_
  refine cw_newi (pc := 26) (N := 6) w1_151 (by decide) (by decide) (by decide) d_Lo_init_26 (by decide +kernel) (by decide) (by decide) ?_
  show CW G 1 K_Lo_init a 2 12 (CQp G a c_Lo_init6) (fun _ => True) 28 [(0, .ref a), (1, .int 6)] [.ref (a + 2), .ref a] ((3, 0, [1, (-1), 0]) :: r_Lo_init6_2) 2 12
  refine cw_put (pc := 28) (ci := 3) (k := 1) (N := 3) (t := 2) (C := RX3) (T := TX3) (tys := tyX3) (v := 2) (ty := .array .int) rfl (by decide) inX3 tyX3_ok nmX3 (by decide) rfl rfl rfl w2_70 (Or.inr ⟨rfl, rfl, rfl⟩) d_Lo_init_28 rfl rfl rfl rfl rfl ?_
  show CW G 1 K_Lo_init a 2 12 (CQp G a c_Lo_init6) (fun _ => True) 31 [(0, .ref a), (1, .int 6)] [] ((3, 0, [1, 2, 0]) :: r_Lo_init6_2) 2 12
  exact cw_ret (pc := 31) d_Lo_init_31 rfl rfl rfl rfl
def r_Lo_init8_1 : List Sp := [] ++ [(20, 8, [])]
def r_Lo_init8_2 : List Sp := r_Lo_init8_1 ++ [(20, 8, [])]
def c_Lo_init8 : List Sp := (3, 0, [1, 2, 0]) :: r_Lo_init8_2
set_option maxRecDepth 100000 in
theorem ok_Lo_init8 (G : Gm) (a : Nat) : CM G 1 2 16 K_Lo_init a [.int 8] [dO 3] c_Lo_init8 (fun _ => True) := by
  refine CM.of rfl (Nat.le_of_ble_eq_true rfl) ?_
  show CW G 1 K_Lo_init a 2 16 (CQp G a c_Lo_init8) (fun _ => True) 0 [(0, .ref a), (1, .int 8)] [] ((3, 0, [(-1), (-1), 0]) :: []) 0 0
  refine cw_aload_n (pc := 0) d_Lo_init_0 rfl 0 rfl ?_
  refine cw_objinit (pc := 1) d_Lo_init_1 w2_64 w1_28 w1_29 (by decide) ?_
  refine cw_aload_n (pc := 4) d_Lo_init_4 rfl 0 rfl ?_
  refine cw_iconst (pc := 5) (x := 0) d_Lo_init_5 (by decide) ?_
  refine cw_put (pc := 6) (ci := 3) (k := 2) (N := 3) (t := 0) (C := RX3) (T := TX3) (tys := tyX3) (v := 0) (ty := .int) rfl (by decide) inX3 tyX3_ok nmX3 (by decide) rfl rfl rfl w2_72 (Or.inl rfl) d_Lo_init_6 rfl rfl rfl rfl rfl ?_
  show CW G 1 K_Lo_init a 2 16 (CQp G a c_Lo_init8) (fun _ => True) 9 [(0, .ref a), (1, .int 8)] [] ((3, 0, [(-1), (-1), 0]) :: []) 0 0
  refine cw_aload_n (pc := 9) d_Lo_init_9 rfl 0 rfl ?_
  refine cw_iload_n (pc := 10) d_Lo_init_10 rfl 1 rfl ?_
  refine cw_iconst (pc := 11) (x := 0) d_Lo_init_11 (by decide) ?_
  refine cw_mmax (pc := 12) (z := 8) d_Lo_init_12 w2_65 w2_66 w1_15 w2_67 (by decide) (Nat.le_of_ble_eq_true rfl) (by decide) (by decide) (by decide) ?_
  refine cw_newi (pc := 15) (N := 8) w1_151 (by decide) (by decide) (by decide) d_Lo_init_15 (by decide +kernel) (by decide) (by decide) ?_
  show CW G 1 K_Lo_init a 2 16 (CQp G a c_Lo_init8) (fun _ => True) 17 [(0, .ref a), (1, .int 8)] [.ref (a + 1), .ref a] ((3, 0, [(-1), (-1), 0]) :: r_Lo_init8_1) 1 8
  refine cw_put (pc := 17) (ci := 3) (k := 0) (N := 3) (t := 2) (C := RX3) (T := TX3) (tys := tyX3) (v := 1) (ty := .array .int) rfl (by decide) inX3 tyX3_ok nmX3 (by decide) rfl rfl rfl w2_68 (Or.inr ⟨rfl, rfl, rfl⟩) d_Lo_init_17 rfl rfl rfl rfl rfl ?_
  show CW G 1 K_Lo_init a 2 16 (CQp G a c_Lo_init8) (fun _ => True) 20 [(0, .ref a), (1, .int 8)] [] ((3, 0, [1, (-1), 0]) :: r_Lo_init8_1) 1 8
  refine cw_aload_n (pc := 20) d_Lo_init_20 rfl 0 rfl ?_
  refine cw_iload_n (pc := 21) d_Lo_init_21 rfl 1 rfl ?_
  refine cw_iconst (pc := 22) (x := 0) d_Lo_init_22 (by decide) ?_
  refine cw_mmax (pc := 23) (z := 8) d_Lo_init_23 w2_65 w2_66 w1_15 w2_67 (by decide) (Nat.le_of_ble_eq_true rfl) (by decide) (by decide) (by decide) ?_
  refine cw_newi (pc := 26) (N := 8) w1_151 (by decide) (by decide) (by decide) d_Lo_init_26 (by decide +kernel) (by decide) (by decide) ?_
  show CW G 1 K_Lo_init a 2 16 (CQp G a c_Lo_init8) (fun _ => True) 28 [(0, .ref a), (1, .int 8)] [.ref (a + 2), .ref a] ((3, 0, [1, (-1), 0]) :: r_Lo_init8_2) 2 16
  refine cw_put (pc := 28) (ci := 3) (k := 1) (N := 3) (t := 2) (C := RX3) (T := TX3) (tys := tyX3) (v := 2) (ty := .array .int) rfl (by decide) inX3 tyX3_ok nmX3 (by decide) rfl rfl rfl w2_70 (Or.inr ⟨rfl, rfl, rfl⟩) d_Lo_init_28 rfl rfl rfl rfl rfl ?_
  show CW G 1 K_Lo_init a 2 16 (CQp G a c_Lo_init8) (fun _ => True) 31 [(0, .ref a), (1, .int 8)] [] ((3, 0, [1, 2, 0]) :: r_Lo_init8_2) 2 16
  exact cw_ret (pc := 31) d_Lo_init_31 rfl rfl rfl rfl
abbrev K_En_init : Mk := (⟨"LastPages$Endings", "<init>", "()V"⟩, prog_2_method_1_code, 1, (Option.none : Option Jvm.ClassFile.FieldType))
theorem okI_En_init : okI ⟨"LastPages$Endings", "<init>", "()V"⟩ prog_2_method_1_code 1 0 := ⟨w1_171, w1_170, w1_9, ⟨by decide, by decide, by decide +kernel⟩, by decide, rfl⟩
theorem d_En_init_0 : decode prog_2_method_1_code 0 = .ok (.aload_n 0, 1) := by decide +kernel
theorem d_En_init_1 : decode prog_2_method_1_code 1 = .ok (.invokespecial 3, 3) := by decide +kernel
theorem d_En_init_4 : decode prog_2_method_1_code 4 = .ok (.aload_n 0, 1) := by decide +kernel
theorem d_En_init_5 : decode prog_2_method_1_code 5 = .ok (.bipush 6, 2) := by decide +kernel
theorem d_En_init_7 : decode prog_2_method_1_code 7 = .ok (.newarray .int, 2) := by decide +kernel
theorem d_En_init_9 : decode prog_2_method_1_code 9 = .ok (.putfield 9, 3) := by decide +kernel
theorem d_En_init_12 : decode prog_2_method_1_code 12 = .ok (.aload_n 0, 1) := by decide +kernel
theorem d_En_init_13 : decode prog_2_method_1_code 13 = .ok (.bipush 6, 2) := by decide +kernel
theorem d_En_init_15 : decode prog_2_method_1_code 15 = .ok (.newarray .int, 2) := by decide +kernel
theorem d_En_init_17 : decode prog_2_method_1_code 17 = .ok (.putfield 15, 3) := by decide +kernel
theorem d_En_init_20 : decode prog_2_method_1_code 20 = .ok (.aload_n 0, 1) := by decide +kernel
theorem d_En_init_21 : decode prog_2_method_1_code 21 = .ok (.bipush 56, 2) := by decide +kernel
theorem d_En_init_23 : decode prog_2_method_1_code 23 = .ok (.newarray .long, 2) := by decide +kernel
theorem d_En_init_25 : decode prog_2_method_1_code 25 = .ok (.putfield 18, 3) := by decide +kernel
theorem d_En_init_28 : decode prog_2_method_1_code 28 = .ok (.aload_n 0, 1) := by decide +kernel
theorem d_En_init_29 : decode prog_2_method_1_code 29 = .ok (.bipush 56, 2) := by decide +kernel
theorem d_En_init_31 : decode prog_2_method_1_code 31 = .ok (.newarray .long, 2) := by decide +kernel
theorem d_En_init_33 : decode prog_2_method_1_code 33 = .ok (.putfield 22, 3) := by decide +kernel
theorem d_En_init_36 : decode prog_2_method_1_code 36 = .ok (.aload_n 0, 1) := by decide +kernel
theorem d_En_init_37 : decode prog_2_method_1_code 37 = .ok (.bipush 56, 2) := by decide +kernel
theorem d_En_init_39 : decode prog_2_method_1_code 39 = .ok (.newarray .int, 2) := by decide +kernel
theorem d_En_init_41 : decode prog_2_method_1_code 41 = .ok (.putfield 25, 3) := by decide +kernel
theorem d_En_init_44 : decode prog_2_method_1_code 44 = .ok (.aload_n 0, 1) := by decide +kernel
theorem d_En_init_45 : decode prog_2_method_1_code 45 = .ok (.new 28, 3) := by decide +kernel
theorem d_En_init_48 : decode prog_2_method_1_code 48 = .ok (.dup, 1) := by decide +kernel
theorem d_En_init_49 : decode prog_2_method_1_code 49 = .ok (.invokespecial 30, 3) := by decide +kernel
theorem d_En_init_52 : decode prog_2_method_1_code 52 = .ok (.putfield 31, 3) := by decide +kernel
theorem d_En_init_55 : decode prog_2_method_1_code 55 = .ok (.aload_n 0, 1) := by decide +kernel
theorem d_En_init_56 : decode prog_2_method_1_code 56 = .ok (.iconst 0, 1) := by decide +kernel
theorem d_En_init_57 : decode prog_2_method_1_code 57 = .ok (.putfield 35, 3) := by decide +kernel
theorem d_En_init_60 : decode prog_2_method_1_code 60 = .ok (.aload_n 0, 1) := by decide +kernel
theorem d_En_init_61 : decode prog_2_method_1_code 61 = .ok (.iconst (-1), 1) := by decide +kernel
theorem d_En_init_62 : decode prog_2_method_1_code 62 = .ok (.putfield 39, 3) := by decide +kernel
theorem d_En_init_65 : decode prog_2_method_1_code 65 = .ok (.return_, 1) := by decide +kernel
def r_En_init_1 : List Sp := [] ++ [(20, 6, [])]
def r_En_init_2 : List Sp := r_En_init_1 ++ [(20, 6, [])]
def r_En_init_3 : List Sp := r_En_init_2 ++ [(22, 56, [])]
def r_En_init_4 : List Sp := r_En_init_3 ++ [(22, 56, [])]
def r_En_init_5 : List Sp := r_En_init_4 ++ [(20, 56, [])]
def r_En_init_6 : List Sp := r_En_init_5 ++ [dO 6]
def r_En_init_7 : List Sp := r_En_init_5 ++ c_St_init.map (sh 6)
def c_En_init : List Sp := (0, 0, [1, 2, 3, 4, 5, 6, 0, (-1)]) :: r_En_init_7
set_option maxRecDepth 100000 in
theorem ok_En_init (G : Gm) (a : Nat) : CM G 2 10 316 K_En_init a [] [dO 0] c_En_init (fun _ => True) := by
  refine CM.of rfl (Nat.le_of_ble_eq_true rfl) ?_
  show CW G 2 K_En_init a 10 316 (CQp G a c_En_init) (fun _ => True) 0 [(0, .ref a)] [] ((0, 0, [(-1), (-1), (-1), (-1), (-1), (-1), 0, 0]) :: []) 0 0
  refine cw_aload_n (pc := 0) d_En_init_0 rfl 0 rfl ?_
  refine cw_objinit (pc := 1) d_En_init_1 w1_172 w1_28 w1_29 (by decide) ?_
  refine cw_aload_n (pc := 4) d_En_init_4 rfl 0 rfl ?_
  refine cw_bipush (pc := 5) (x := 6) d_En_init_5 (by decide) ?_
  refine cw_newi (pc := 7) (N := 6) w1_151 (by decide) (by decide) (by decide) d_En_init_7 (by decide +kernel) (by decide) (by decide) ?_
  show CW G 2 K_En_init a 10 316 (CQp G a c_En_init) (fun _ => True) 9 [(0, .ref a)] [.ref (a + 1), .ref a] ((0, 0, [(-1), (-1), (-1), (-1), (-1), (-1), 0, 0]) :: r_En_init_1) 1 6
  refine cw_put (pc := 9) (ci := 0) (k := 0) (N := 8) (t := 2) (C := RX0) (T := TX0) (tys := tyX0) (v := 1) (ty := .array .int) rfl (by decide) inX0 tyX0_ok nmX0 (by decide) rfl rfl rfl w1_218 (Or.inr ⟨rfl, rfl, rfl⟩) d_En_init_9 rfl rfl rfl rfl rfl ?_
  show CW G 2 K_En_init a 10 316 (CQp G a c_En_init) (fun _ => True) 12 [(0, .ref a)] [] ((0, 0, [1, (-1), (-1), (-1), (-1), (-1), 0, 0]) :: r_En_init_1) 1 6
  refine cw_aload_n (pc := 12) d_En_init_12 rfl 0 rfl ?_
  refine cw_bipush (pc := 13) (x := 6) d_En_init_13 (by decide) ?_
  refine cw_newi (pc := 15) (N := 6) w1_151 (by decide) (by decide) (by decide) d_En_init_15 (by decide +kernel) (by decide) (by decide) ?_
  show CW G 2 K_En_init a 10 316 (CQp G a c_En_init) (fun _ => True) 17 [(0, .ref a)] [.ref (a + 2), .ref a] ((0, 0, [1, (-1), (-1), (-1), (-1), (-1), 0, 0]) :: r_En_init_2) 2 12
  refine cw_put (pc := 17) (ci := 0) (k := 1) (N := 8) (t := 2) (C := RX0) (T := TX0) (tys := tyX0) (v := 2) (ty := .array .int) rfl (by decide) inX0 tyX0_ok nmX0 (by decide) rfl rfl rfl w1_219 (Or.inr ⟨rfl, rfl, rfl⟩) d_En_init_17 rfl rfl rfl rfl rfl ?_
  show CW G 2 K_En_init a 10 316 (CQp G a c_En_init) (fun _ => True) 20 [(0, .ref a)] [] ((0, 0, [1, 2, (-1), (-1), (-1), (-1), 0, 0]) :: r_En_init_2) 2 12
  refine cw_aload_n (pc := 20) d_En_init_20 rfl 0 rfl ?_
  refine cw_bipush (pc := 21) (x := 56) d_En_init_21 (by decide) ?_
  refine cw_newl (pc := 23) (N := 56) w1_137 (by decide) (by decide) (by decide) d_En_init_23 (by decide +kernel) (by decide) (by decide) ?_
  show CW G 2 K_En_init a 10 316 (CQp G a c_En_init) (fun _ => True) 25 [(0, .ref a)] [.ref (a + 3), .ref a] ((0, 0, [1, 2, (-1), (-1), (-1), (-1), 0, 0]) :: r_En_init_3) 3 68
  refine cw_put (pc := 25) (ci := 0) (k := 2) (N := 8) (t := 2) (C := RX0) (T := TX0) (tys := tyX0) (v := 3) (ty := .array .long) rfl (by decide) inX0 tyX0_ok nmX0 (by decide) rfl rfl rfl w1_220 (Or.inr ⟨rfl, rfl, rfl⟩) d_En_init_25 rfl rfl rfl rfl rfl ?_
  show CW G 2 K_En_init a 10 316 (CQp G a c_En_init) (fun _ => True) 28 [(0, .ref a)] [] ((0, 0, [1, 2, 3, (-1), (-1), (-1), 0, 0]) :: r_En_init_3) 3 68
  refine cw_aload_n (pc := 28) d_En_init_28 rfl 0 rfl ?_
  refine cw_bipush (pc := 29) (x := 56) d_En_init_29 (by decide) ?_
  refine cw_newl (pc := 31) (N := 56) w1_137 (by decide) (by decide) (by decide) d_En_init_31 (by decide +kernel) (by decide) (by decide) ?_
  show CW G 2 K_En_init a 10 316 (CQp G a c_En_init) (fun _ => True) 33 [(0, .ref a)] [.ref (a + 4), .ref a] ((0, 0, [1, 2, 3, (-1), (-1), (-1), 0, 0]) :: r_En_init_4) 4 124
  refine cw_put (pc := 33) (ci := 0) (k := 3) (N := 8) (t := 2) (C := RX0) (T := TX0) (tys := tyX0) (v := 4) (ty := .array .long) rfl (by decide) inX0 tyX0_ok nmX0 (by decide) rfl rfl rfl w1_221 (Or.inr ⟨rfl, rfl, rfl⟩) d_En_init_33 rfl rfl rfl rfl rfl ?_
  show CW G 2 K_En_init a 10 316 (CQp G a c_En_init) (fun _ => True) 36 [(0, .ref a)] [] ((0, 0, [1, 2, 3, 4, (-1), (-1), 0, 0]) :: r_En_init_4) 4 124
  refine cw_aload_n (pc := 36) d_En_init_36 rfl 0 rfl ?_
  refine cw_bipush (pc := 37) (x := 56) d_En_init_37 (by decide) ?_
  refine cw_newi (pc := 39) (N := 56) w1_151 (by decide) (by decide) (by decide) d_En_init_39 (by decide +kernel) (by decide) (by decide) ?_
  show CW G 2 K_En_init a 10 316 (CQp G a c_En_init) (fun _ => True) 41 [(0, .ref a)] [.ref (a + 5), .ref a] ((0, 0, [1, 2, 3, 4, (-1), (-1), 0, 0]) :: r_En_init_5) 5 180
  refine cw_put (pc := 41) (ci := 0) (k := 4) (N := 8) (t := 2) (C := RX0) (T := TX0) (tys := tyX0) (v := 5) (ty := .array .int) rfl (by decide) inX0 tyX0_ok nmX0 (by decide) rfl rfl rfl w1_222 (Or.inr ⟨rfl, rfl, rfl⟩) d_En_init_41 rfl rfl rfl rfl rfl ?_
  show CW G 2 K_En_init a 10 316 (CQp G a c_En_init) (fun _ => True) 44 [(0, .ref a)] [] ((0, 0, [1, 2, 3, 4, 5, (-1), 0, 0]) :: r_En_init_5) 5 180
  refine cw_aload_n (pc := 44) d_En_init_44 rfl 0 rfl ?_
  refine cw_new (pc := 45) (ci := 6) (N := 8) (C := RX6) (T := TX6) rfl (by decide) inX6 tyX6_ok fsX6 w1_173 w1_174 w1_10 d_En_init_45 (by decide +kernel) (by decide) (by decide) ?_
  show CW G 2 K_En_init a 10 316 (CQp G a c_En_init) (fun _ => True) 48 [(0, .ref a)] [.ref (a + 6), .ref a] ((0, 0, [1, 2, 3, 4, 5, (-1), 0, 0]) :: r_En_init_6) 6 188
  refine cw_dup (pc := 48) d_En_init_48 rfl ?_
  refine cw_ctorN (pc := 49) (b := a + 6) (st0 := [.ref (a + 6), .ref (a + 6), .ref a]) (sp0 := (0, 0, [1, 2, 3, 4, 5, (-1), 0, 0]) :: r_En_init_5) okI_St_init (ok_St_init G _) (List.mem_of_getElem? (i := 3) rfl) d_En_init_49 rfl (by decide) (by decide) rfl rfl rfl (by decide +kernel) (Nat.le_of_ble_eq_true rfl) (fun _ _ _ _ _ => trivial) (fun _ _ _ _ _ _ _ _ => trivial) (by decide) (by decide) ?_
  show CW G 2 K_En_init a 10 316 (CQp G a c_En_init) (fun _ => True) 52 [(0, .ref a)] [.ref (a + 6), .ref a] ((0, 0, [1, 2, 3, 4, 5, (-1), 0, 0]) :: r_En_init_7) 10 316
  refine cw_put (pc := 52) (ci := 0) (k := 5) (N := 8) (t := 2) (C := RX0) (T := TX0) (tys := tyX0) (v := 6) (ty := .object "LastPages$Story") rfl (by decide) inX0 tyX0_ok nmX0 (by decide) rfl rfl rfl w1_223 (Or.inl rfl) d_En_init_52 rfl rfl rfl rfl rfl ?_
  show CW G 2 K_En_init a 10 316 (CQp G a c_En_init) (fun _ => True) 55 [(0, .ref a)] [] ((0, 0, [1, 2, 3, 4, 5, 6, 0, 0]) :: r_En_init_7) 10 316
  refine cw_aload_n (pc := 55) d_En_init_55 rfl 0 rfl ?_
  refine cw_iconst (pc := 56) (x := 0) d_En_init_56 (by decide) ?_
  refine cw_put (pc := 57) (ci := 0) (k := 6) (N := 8) (t := 0) (C := RX0) (T := TX0) (tys := tyX0) (v := 0) (ty := .int) rfl (by decide) inX0 tyX0_ok nmX0 (by decide) rfl rfl rfl w1_224 (Or.inl rfl) d_En_init_57 rfl rfl rfl rfl rfl ?_
  show CW G 2 K_En_init a 10 316 (CQp G a c_En_init) (fun _ => True) 60 [(0, .ref a)] [] ((0, 0, [1, 2, 3, 4, 5, 6, 0, 0]) :: r_En_init_7) 10 316
  refine cw_aload_n (pc := 60) d_En_init_60 rfl 0 rfl ?_
  refine cw_iconst (pc := 61) (x := (-1)) d_En_init_61 (by decide) ?_
  refine cw_put (pc := 62) (ci := 0) (k := 7) (N := 8) (t := 0) (C := RX0) (T := TX0) (tys := tyX0) (v := (-1)) (ty := .int) rfl (by decide) inX0 tyX0_ok nmX0 (by decide) rfl rfl rfl w1_225 (Or.inl rfl) d_En_init_62 rfl rfl rfl rfl rfl ?_
  show CW G 2 K_En_init a 10 316 (CQp G a c_En_init) (fun _ => True) 65 [(0, .ref a)] [] ((0, 0, [1, 2, 3, 4, 5, 6, 0, (-1)]) :: r_En_init_7) 10 316
  exact cw_ret (pc := 65) d_En_init_65 rfl rfl rfl rfl
abbrev K_Sh_init : Mk := (⟨"LastPages$Shelf", "<init>", "()V"⟩, prog_6_method_1_code, 1, (Option.none : Option Jvm.ClassFile.FieldType))
theorem okI_Sh_init : okI ⟨"LastPages$Shelf", "<init>", "()V"⟩ prog_6_method_1_code 1 0 := ⟨w2_55, w2_54, w1_13, ⟨by decide, by decide, by decide +kernel⟩, by decide, rfl⟩
theorem d_Sh_init_0 : decode prog_6_method_1_code 0 = .ok (.aload_n 0, 1) := by decide +kernel
theorem d_Sh_init_1 : decode prog_6_method_1_code 1 = .ok (.invokespecial 3, 3) := by decide +kernel
theorem d_Sh_init_4 : decode prog_6_method_1_code 4 = .ok (.aload_n 0, 1) := by decide +kernel
theorem d_Sh_init_5 : decode prog_6_method_1_code 5 = .ok (.new 9, 3) := by decide +kernel
theorem d_Sh_init_8 : decode prog_6_method_1_code 8 = .ok (.dup, 1) := by decide +kernel
theorem d_Sh_init_9 : decode prog_6_method_1_code 9 = .ok (.invokespecial 11, 3) := by decide +kernel
theorem d_Sh_init_12 : decode prog_6_method_1_code 12 = .ok (.putfield 12, 3) := by decide +kernel
theorem d_Sh_init_15 : decode prog_6_method_1_code 15 = .ok (.aload_n 0, 1) := by decide +kernel
theorem d_Sh_init_16 : decode prog_6_method_1_code 16 = .ok (.new 18, 3) := by decide +kernel
theorem d_Sh_init_19 : decode prog_6_method_1_code 19 = .ok (.dup, 1) := by decide +kernel
theorem d_Sh_init_20 : decode prog_6_method_1_code 20 = .ok (.bipush 6, 2) := by decide +kernel
theorem d_Sh_init_22 : decode prog_6_method_1_code 22 = .ok (.invokespecial 20, 3) := by decide +kernel
theorem d_Sh_init_25 : decode prog_6_method_1_code 25 = .ok (.putfield 23, 3) := by decide +kernel
theorem d_Sh_init_28 : decode prog_6_method_1_code 28 = .ok (.aload_n 0, 1) := by decide +kernel
theorem d_Sh_init_29 : decode prog_6_method_1_code 29 = .ok (.new 18, 3) := by decide +kernel
theorem d_Sh_init_32 : decode prog_6_method_1_code 32 = .ok (.dup, 1) := by decide +kernel
theorem d_Sh_init_33 : decode prog_6_method_1_code 33 = .ok (.bipush 8, 2) := by decide +kernel
theorem d_Sh_init_35 : decode prog_6_method_1_code 35 = .ok (.invokespecial 20, 3) := by decide +kernel
theorem d_Sh_init_38 : decode prog_6_method_1_code 38 = .ok (.putfield 27, 3) := by decide +kernel
theorem d_Sh_init_41 : decode prog_6_method_1_code 41 = .ok (.aload_n 0, 1) := by decide +kernel
theorem d_Sh_init_42 : decode prog_6_method_1_code 42 = .ok (.bipush 50, 2) := by decide +kernel
theorem d_Sh_init_44 : decode prog_6_method_1_code 44 = .ok (.newarray .long, 2) := by decide +kernel
theorem d_Sh_init_46 : decode prog_6_method_1_code 46 = .ok (.putfield 30, 3) := by decide +kernel
theorem d_Sh_init_49 : decode prog_6_method_1_code 49 = .ok (.aload_n 0, 1) := by decide +kernel
theorem d_Sh_init_50 : decode prog_6_method_1_code 50 = .ok (.bipush 50, 2) := by decide +kernel
theorem d_Sh_init_52 : decode prog_6_method_1_code 52 = .ok (.newarray .int, 2) := by decide +kernel
theorem d_Sh_init_54 : decode prog_6_method_1_code 54 = .ok (.putfield 34, 3) := by decide +kernel
theorem d_Sh_init_57 : decode prog_6_method_1_code 57 = .ok (.aload_n 0, 1) := by decide +kernel
theorem d_Sh_init_58 : decode prog_6_method_1_code 58 = .ok (.bipush 50, 2) := by decide +kernel
theorem d_Sh_init_60 : decode prog_6_method_1_code 60 = .ok (.newarray .int, 2) := by decide +kernel
theorem d_Sh_init_62 : decode prog_6_method_1_code 62 = .ok (.putfield 38, 3) := by decide +kernel
theorem d_Sh_init_65 : decode prog_6_method_1_code 65 = .ok (.aload_n 0, 1) := by decide +kernel
theorem d_Sh_init_66 : decode prog_6_method_1_code 66 = .ok (.bipush 6, 2) := by decide +kernel
theorem d_Sh_init_68 : decode prog_6_method_1_code 68 = .ok (.newarray .int, 2) := by decide +kernel
theorem d_Sh_init_70 : decode prog_6_method_1_code 70 = .ok (.putfield 41, 3) := by decide +kernel
theorem d_Sh_init_73 : decode prog_6_method_1_code 73 = .ok (.aload_n 0, 1) := by decide +kernel
theorem d_Sh_init_74 : decode prog_6_method_1_code 74 = .ok (.bipush 6, 2) := by decide +kernel
theorem d_Sh_init_76 : decode prog_6_method_1_code 76 = .ok (.newarray .int, 2) := by decide +kernel
theorem d_Sh_init_78 : decode prog_6_method_1_code 78 = .ok (.putfield 44, 3) := by decide +kernel
theorem d_Sh_init_81 : decode prog_6_method_1_code 81 = .ok (.aload_n 0, 1) := by decide +kernel
theorem d_Sh_init_82 : decode prog_6_method_1_code 82 = .ok (.bipush 6, 2) := by decide +kernel
theorem d_Sh_init_84 : decode prog_6_method_1_code 84 = .ok (.newarray .int, 2) := by decide +kernel
theorem d_Sh_init_86 : decode prog_6_method_1_code 86 = .ok (.putfield 47, 3) := by decide +kernel
theorem d_Sh_init_89 : decode prog_6_method_1_code 89 = .ok (.aload_n 0, 1) := by decide +kernel
theorem d_Sh_init_90 : decode prog_6_method_1_code 90 = .ok (.bipush 60, 2) := by decide +kernel
theorem d_Sh_init_92 : decode prog_6_method_1_code 92 = .ok (.newarray .int, 2) := by decide +kernel
theorem d_Sh_init_94 : decode prog_6_method_1_code 94 = .ok (.putfield 50, 3) := by decide +kernel
theorem d_Sh_init_97 : decode prog_6_method_1_code 97 = .ok (.aload_n 0, 1) := by decide +kernel
theorem d_Sh_init_98 : decode prog_6_method_1_code 98 = .ok (.bipush 6, 2) := by decide +kernel
theorem d_Sh_init_100 : decode prog_6_method_1_code 100 = .ok (.newarray .int, 2) := by decide +kernel
theorem d_Sh_init_102 : decode prog_6_method_1_code 102 = .ok (.putfield 53, 3) := by decide +kernel
theorem d_Sh_init_105 : decode prog_6_method_1_code 105 = .ok (.aload_n 0, 1) := by decide +kernel
theorem d_Sh_init_106 : decode prog_6_method_1_code 106 = .ok (.bipush 6, 2) := by decide +kernel
theorem d_Sh_init_108 : decode prog_6_method_1_code 108 = .ok (.newarray .int, 2) := by decide +kernel
theorem d_Sh_init_110 : decode prog_6_method_1_code 110 = .ok (.putfield 56, 3) := by decide +kernel
theorem d_Sh_init_113 : decode prog_6_method_1_code 113 = .ok (.aload_n 0, 1) := by decide +kernel
theorem d_Sh_init_114 : decode prog_6_method_1_code 114 = .ok (.bipush 48, 2) := by decide +kernel
theorem d_Sh_init_116 : decode prog_6_method_1_code 116 = .ok (.newarray .int, 2) := by decide +kernel
theorem d_Sh_init_118 : decode prog_6_method_1_code 118 = .ok (.putfield 59, 3) := by decide +kernel
theorem d_Sh_init_121 : decode prog_6_method_1_code 121 = .ok (.aload_n 0, 1) := by decide +kernel
theorem d_Sh_init_122 : decode prog_6_method_1_code 122 = .ok (.new 62, 3) := by decide +kernel
theorem d_Sh_init_125 : decode prog_6_method_1_code 125 = .ok (.dup, 1) := by decide +kernel
theorem d_Sh_init_126 : decode prog_6_method_1_code 126 = .ok (.invokespecial 64, 3) := by decide +kernel
theorem d_Sh_init_129 : decode prog_6_method_1_code 129 = .ok (.putfield 65, 3) := by decide +kernel
theorem d_Sh_init_132 : decode prog_6_method_1_code 132 = .ok (.aload_n 0, 1) := by decide +kernel
theorem d_Sh_init_133 : decode prog_6_method_1_code 133 = .ok (.iconst 0, 1) := by decide +kernel
theorem d_Sh_init_134 : decode prog_6_method_1_code 134 = .ok (.putfield 69, 3) := by decide +kernel
theorem d_Sh_init_137 : decode prog_6_method_1_code 137 = .ok (.aload_n 0, 1) := by decide +kernel
theorem d_Sh_init_138 : decode prog_6_method_1_code 138 = .ok (.iconst 0, 1) := by decide +kernel
theorem d_Sh_init_139 : decode prog_6_method_1_code 139 = .ok (.putfield 73, 3) := by decide +kernel
theorem d_Sh_init_142 : decode prog_6_method_1_code 142 = .ok (.aload_n 0, 1) := by decide +kernel
theorem d_Sh_init_143 : decode prog_6_method_1_code 143 = .ok (.iconst 0, 1) := by decide +kernel
theorem d_Sh_init_144 : decode prog_6_method_1_code 144 = .ok (.putfield 76, 3) := by decide +kernel
theorem d_Sh_init_147 : decode prog_6_method_1_code 147 = .ok (.aload_n 0, 1) := by decide +kernel
theorem d_Sh_init_148 : decode prog_6_method_1_code 148 = .ok (.iconst 0, 1) := by decide +kernel
theorem d_Sh_init_149 : decode prog_6_method_1_code 149 = .ok (.putfield 79, 3) := by decide +kernel
theorem d_Sh_init_152 : decode prog_6_method_1_code 152 = .ok (.aload_n 0, 1) := by decide +kernel
theorem d_Sh_init_153 : decode prog_6_method_1_code 153 = .ok (.iconst 0, 1) := by decide +kernel
theorem d_Sh_init_154 : decode prog_6_method_1_code 154 = .ok (.putfield 82, 3) := by decide +kernel
theorem d_Sh_init_157 : decode prog_6_method_1_code 157 = .ok (.return_, 1) := by decide +kernel
def r_Sh_init_1 : List Sp := [] ++ [dO 6]
def r_Sh_init_2 : List Sp := [] ++ c_St_init.map (sh 1)
def r_Sh_init_3 : List Sp := r_Sh_init_2 ++ [dO 3]
def r_Sh_init_4 : List Sp := r_Sh_init_2 ++ c_Lo_init6.map (sh 6)
def r_Sh_init_5 : List Sp := r_Sh_init_4 ++ [dO 3]
def r_Sh_init_6 : List Sp := r_Sh_init_4 ++ c_Lo_init8.map (sh 9)
def r_Sh_init_7 : List Sp := r_Sh_init_6 ++ [(22, 50, [])]
def r_Sh_init_8 : List Sp := r_Sh_init_7 ++ [(20, 50, [])]
def r_Sh_init_9 : List Sp := r_Sh_init_8 ++ [(20, 50, [])]
def r_Sh_init_10 : List Sp := r_Sh_init_9 ++ [(20, 6, [])]
def r_Sh_init_11 : List Sp := r_Sh_init_10 ++ [(20, 6, [])]
def r_Sh_init_12 : List Sp := r_Sh_init_11 ++ [(20, 6, [])]
def r_Sh_init_13 : List Sp := r_Sh_init_12 ++ [(20, 60, [])]
def r_Sh_init_14 : List Sp := r_Sh_init_13 ++ [(20, 6, [])]
def r_Sh_init_15 : List Sp := r_Sh_init_14 ++ [(20, 6, [])]
def r_Sh_init_16 : List Sp := r_Sh_init_15 ++ [(20, 48, [])]
def r_Sh_init_17 : List Sp := r_Sh_init_16 ++ [dO 9]
def r_Sh_init_18 : List Sp := r_Sh_init_16 ++ c_We_init.map (sh 22)
def c_Sh_init : List Sp := (4, 0, [1, 6, 9, 12, 13, 14, 15, 16, 17, 18, 19, 20, 21, 22, 0, 0, 0, 0, 0]) :: r_Sh_init_18
set_option maxRecDepth 100000 in
theorem ok_Sh_init (G : Gm) (a : Nat) : CM G 2 27 766 K_Sh_init a [] [dO 4] c_Sh_init (fun _ => True) := by
  refine CM.of rfl (Nat.le_of_ble_eq_true rfl) ?_
  show CW G 2 K_Sh_init a 27 766 (CQp G a c_Sh_init) (fun _ => True) 0 [(0, .ref a)] [] ((4, 0, [(-1), (-1), (-1), (-1), (-1), (-1), (-1), (-1), (-1), (-1), (-1), (-1), (-1), (-1), 0, 0, 0, 0, 0]) :: []) 0 0
  refine cw_aload_n (pc := 0) d_Sh_init_0 rfl 0 rfl ?_
  refine cw_objinit (pc := 1) d_Sh_init_1 w2_56 w1_28 w1_29 (by decide) ?_
  refine cw_aload_n (pc := 4) d_Sh_init_4 rfl 0 rfl ?_
  refine cw_new (pc := 5) (ci := 6) (N := 8) (C := RX6) (T := TX6) rfl (by decide) inX6 tyX6_ok fsX6 w2_57 w1_174 w1_10 d_Sh_init_5 (by decide +kernel) (by decide) (by decide) ?_
  show CW G 2 K_Sh_init a 27 766 (CQp G a c_Sh_init) (fun _ => True) 8 [(0, .ref a)] [.ref (a + 1), .ref a] ((4, 0, [(-1), (-1), (-1), (-1), (-1), (-1), (-1), (-1), (-1), (-1), (-1), (-1), (-1), (-1), 0, 0, 0, 0, 0]) :: r_Sh_init_1) 1 8
  refine cw_dup (pc := 8) d_Sh_init_8 rfl ?_
  refine cw_ctorN (pc := 9) (b := a + 1) (st0 := [.ref (a + 1), .ref (a + 1), .ref a]) (sp0 := (4, 0, [(-1), (-1), (-1), (-1), (-1), (-1), (-1), (-1), (-1), (-1), (-1), (-1), (-1), (-1), 0, 0, 0, 0, 0]) :: []) okI_St_init (ok_St_init G _) (List.mem_of_getElem? (i := 7) rfl) d_Sh_init_9 rfl (by decide) (by decide) rfl rfl rfl (by decide +kernel) (Nat.le_of_ble_eq_true rfl) (fun _ _ _ _ _ => trivial) (fun _ _ _ _ _ _ _ _ => trivial) (by decide) (by decide) ?_
  show CW G 2 K_Sh_init a 27 766 (CQp G a c_Sh_init) (fun _ => True) 12 [(0, .ref a)] [.ref (a + 1), .ref a] ((4, 0, [(-1), (-1), (-1), (-1), (-1), (-1), (-1), (-1), (-1), (-1), (-1), (-1), (-1), (-1), 0, 0, 0, 0, 0]) :: r_Sh_init_2) 5 136
  refine cw_put (pc := 12) (ci := 4) (k := 0) (N := 19) (t := 2) (C := RX4) (T := TX4) (tys := tyX4) (v := 1) (ty := .object "LastPages$Story") rfl (by decide) inX4 tyX4_ok nmX4 (by decide) rfl rfl rfl w2_124 (Or.inr ⟨rfl, rfl, rfl⟩) d_Sh_init_12 rfl rfl rfl rfl rfl ?_
  show CW G 2 K_Sh_init a 27 766 (CQp G a c_Sh_init) (fun _ => True) 15 [(0, .ref a)] [] ((4, 0, [1, (-1), (-1), (-1), (-1), (-1), (-1), (-1), (-1), (-1), (-1), (-1), (-1), (-1), 0, 0, 0, 0, 0]) :: r_Sh_init_2) 5 136
  refine cw_aload_n (pc := 15) d_Sh_init_15 rfl 0 rfl ?_
  refine cw_new (pc := 16) (ci := 3) (N := 3) (C := RX3) (T := TX3) rfl (by decide) inX3 tyX3_ok fsX3 w2_59 w2_60 w1_14 d_Sh_init_16 (by decide +kernel) (by decide) (by decide) ?_
  show CW G 2 K_Sh_init a 27 766 (CQp G a c_Sh_init) (fun _ => True) 19 [(0, .ref a)] [.ref (a + 6), .ref a] ((4, 0, [1, (-1), (-1), (-1), (-1), (-1), (-1), (-1), (-1), (-1), (-1), (-1), (-1), (-1), 0, 0, 0, 0, 0]) :: r_Sh_init_3) 6 139
  refine cw_dup (pc := 19) d_Sh_init_19 rfl ?_
  refine cw_bipush (pc := 20) (x := 6) d_Sh_init_20 (by decide) ?_
  refine cw_ctor (pc := 22) (b := a + 6) (st0 := [.int 6, .ref (a + 6), .ref (a + 6), .ref a]) (sp0 := (4, 0, [1, (-1), (-1), (-1), (-1), (-1), (-1), (-1), (-1), (-1), (-1), (-1), (-1), (-1), 0, 0, 0, 0, 0]) :: r_Sh_init_2) okI_Lo_init (ok_Lo_init6 G _) w2_61 d_Sh_init_22 rfl (by decide) (by decide) rfl rfl rfl (by decide +kernel) (Nat.le_of_ble_eq_true rfl) (fun _ _ _ _ _ => trivial) (fun _ _ _ _ _ _ _ _ => trivial) (by decide) (by decide) ?_
  show CW G 2 K_Sh_init a 27 766 (CQp G a c_Sh_init) (fun _ => True) 25 [(0, .ref a)] [.ref (a + 6), .ref a] ((4, 0, [1, (-1), (-1), (-1), (-1), (-1), (-1), (-1), (-1), (-1), (-1), (-1), (-1), (-1), 0, 0, 0, 0, 0]) :: r_Sh_init_4) 8 151
  refine cw_put (pc := 25) (ci := 4) (k := 1) (N := 19) (t := 2) (C := RX4) (T := TX4) (tys := tyX4) (v := 6) (ty := .object "LastPages$Lot") rfl (by decide) inX4 tyX4_ok nmX4 (by decide) rfl rfl rfl w2_130 (Or.inr ⟨rfl, rfl, rfl⟩) d_Sh_init_25 rfl rfl rfl rfl rfl ?_
  show CW G 2 K_Sh_init a 27 766 (CQp G a c_Sh_init) (fun _ => True) 28 [(0, .ref a)] [] ((4, 0, [1, 6, (-1), (-1), (-1), (-1), (-1), (-1), (-1), (-1), (-1), (-1), (-1), (-1), 0, 0, 0, 0, 0]) :: r_Sh_init_4) 8 151
  refine cw_aload_n (pc := 28) d_Sh_init_28 rfl 0 rfl ?_
  refine cw_new (pc := 29) (ci := 3) (N := 3) (C := RX3) (T := TX3) rfl (by decide) inX3 tyX3_ok fsX3 w2_59 w2_60 w1_14 d_Sh_init_29 (by decide +kernel) (by decide) (by decide) ?_
  show CW G 2 K_Sh_init a 27 766 (CQp G a c_Sh_init) (fun _ => True) 32 [(0, .ref a)] [.ref (a + 9), .ref a] ((4, 0, [1, 6, (-1), (-1), (-1), (-1), (-1), (-1), (-1), (-1), (-1), (-1), (-1), (-1), 0, 0, 0, 0, 0]) :: r_Sh_init_5) 9 154
  refine cw_dup (pc := 32) d_Sh_init_32 rfl ?_
  refine cw_bipush (pc := 33) (x := 8) d_Sh_init_33 (by decide) ?_
  refine cw_ctor (pc := 35) (b := a + 9) (st0 := [.int 8, .ref (a + 9), .ref (a + 9), .ref a]) (sp0 := (4, 0, [1, 6, (-1), (-1), (-1), (-1), (-1), (-1), (-1), (-1), (-1), (-1), (-1), (-1), 0, 0, 0, 0, 0]) :: r_Sh_init_4) okI_Lo_init (ok_Lo_init8 G _) w2_61 d_Sh_init_35 rfl (by decide) (by decide) rfl rfl rfl (by decide +kernel) (Nat.le_of_ble_eq_true rfl) (fun _ _ _ _ _ => trivial) (fun _ _ _ _ _ _ _ _ => trivial) (by decide) (by decide) ?_
  show CW G 2 K_Sh_init a 27 766 (CQp G a c_Sh_init) (fun _ => True) 38 [(0, .ref a)] [.ref (a + 9), .ref a] ((4, 0, [1, 6, (-1), (-1), (-1), (-1), (-1), (-1), (-1), (-1), (-1), (-1), (-1), (-1), 0, 0, 0, 0, 0]) :: r_Sh_init_6) 11 170
  refine cw_put (pc := 38) (ci := 4) (k := 2) (N := 19) (t := 2) (C := RX4) (T := TX4) (tys := tyX4) (v := 9) (ty := .object "LastPages$Lot") rfl (by decide) inX4 tyX4_ok nmX4 (by decide) rfl rfl rfl w2_133 (Or.inr ⟨rfl, rfl, rfl⟩) d_Sh_init_38 rfl rfl rfl rfl rfl ?_
  show CW G 2 K_Sh_init a 27 766 (CQp G a c_Sh_init) (fun _ => True) 41 [(0, .ref a)] [] ((4, 0, [1, 6, 9, (-1), (-1), (-1), (-1), (-1), (-1), (-1), (-1), (-1), (-1), (-1), 0, 0, 0, 0, 0]) :: r_Sh_init_6) 11 170
  refine cw_aload_n (pc := 41) d_Sh_init_41 rfl 0 rfl ?_
  refine cw_bipush (pc := 42) (x := 50) d_Sh_init_42 (by decide) ?_
  refine cw_newl (pc := 44) (N := 50) w1_137 (by decide) (by decide) (by decide) d_Sh_init_44 (by decide +kernel) (by decide) (by decide) ?_
  show CW G 2 K_Sh_init a 27 766 (CQp G a c_Sh_init) (fun _ => True) 46 [(0, .ref a)] [.ref (a + 12), .ref a] ((4, 0, [1, 6, 9, (-1), (-1), (-1), (-1), (-1), (-1), (-1), (-1), (-1), (-1), (-1), 0, 0, 0, 0, 0]) :: r_Sh_init_7) 12 220
  refine cw_put (pc := 46) (ci := 4) (k := 3) (N := 19) (t := 2) (C := RX4) (T := TX4) (tys := tyX4) (v := 12) (ty := .array .long) rfl (by decide) inX4 tyX4_ok nmX4 (by decide) rfl rfl rfl w2_136 (Or.inr ⟨rfl, rfl, rfl⟩) d_Sh_init_46 rfl rfl rfl rfl rfl ?_
  show CW G 2 K_Sh_init a 27 766 (CQp G a c_Sh_init) (fun _ => True) 49 [(0, .ref a)] [] ((4, 0, [1, 6, 9, 12, (-1), (-1), (-1), (-1), (-1), (-1), (-1), (-1), (-1), (-1), 0, 0, 0, 0, 0]) :: r_Sh_init_7) 12 220
  refine cw_aload_n (pc := 49) d_Sh_init_49 rfl 0 rfl ?_
  refine cw_bipush (pc := 50) (x := 50) d_Sh_init_50 (by decide) ?_
  refine cw_newi (pc := 52) (N := 50) w1_151 (by decide) (by decide) (by decide) d_Sh_init_52 (by decide +kernel) (by decide) (by decide) ?_
  show CW G 2 K_Sh_init a 27 766 (CQp G a c_Sh_init) (fun _ => True) 54 [(0, .ref a)] [.ref (a + 13), .ref a] ((4, 0, [1, 6, 9, 12, (-1), (-1), (-1), (-1), (-1), (-1), (-1), (-1), (-1), (-1), 0, 0, 0, 0, 0]) :: r_Sh_init_8) 13 270
  refine cw_put (pc := 54) (ci := 4) (k := 4) (N := 19) (t := 2) (C := RX4) (T := TX4) (tys := tyX4) (v := 13) (ty := .array .int) rfl (by decide) inX4 tyX4_ok nmX4 (by decide) rfl rfl rfl w2_137 (Or.inr ⟨rfl, rfl, rfl⟩) d_Sh_init_54 rfl rfl rfl rfl rfl ?_
  show CW G 2 K_Sh_init a 27 766 (CQp G a c_Sh_init) (fun _ => True) 57 [(0, .ref a)] [] ((4, 0, [1, 6, 9, 12, 13, (-1), (-1), (-1), (-1), (-1), (-1), (-1), (-1), (-1), 0, 0, 0, 0, 0]) :: r_Sh_init_8) 13 270
  refine cw_aload_n (pc := 57) d_Sh_init_57 rfl 0 rfl ?_
  refine cw_bipush (pc := 58) (x := 50) d_Sh_init_58 (by decide) ?_
  refine cw_newi (pc := 60) (N := 50) w1_151 (by decide) (by decide) (by decide) d_Sh_init_60 (by decide +kernel) (by decide) (by decide) ?_
  show CW G 2 K_Sh_init a 27 766 (CQp G a c_Sh_init) (fun _ => True) 62 [(0, .ref a)] [.ref (a + 14), .ref a] ((4, 0, [1, 6, 9, 12, 13, (-1), (-1), (-1), (-1), (-1), (-1), (-1), (-1), (-1), 0, 0, 0, 0, 0]) :: r_Sh_init_9) 14 320
  refine cw_put (pc := 62) (ci := 4) (k := 5) (N := 19) (t := 2) (C := RX4) (T := TX4) (tys := tyX4) (v := 14) (ty := .array .int) rfl (by decide) inX4 tyX4_ok nmX4 (by decide) rfl rfl rfl w2_138 (Or.inr ⟨rfl, rfl, rfl⟩) d_Sh_init_62 rfl rfl rfl rfl rfl ?_
  show CW G 2 K_Sh_init a 27 766 (CQp G a c_Sh_init) (fun _ => True) 65 [(0, .ref a)] [] ((4, 0, [1, 6, 9, 12, 13, 14, (-1), (-1), (-1), (-1), (-1), (-1), (-1), (-1), 0, 0, 0, 0, 0]) :: r_Sh_init_9) 14 320
  refine cw_aload_n (pc := 65) d_Sh_init_65 rfl 0 rfl ?_
  refine cw_bipush (pc := 66) (x := 6) d_Sh_init_66 (by decide) ?_
  refine cw_newi (pc := 68) (N := 6) w1_151 (by decide) (by decide) (by decide) d_Sh_init_68 (by decide +kernel) (by decide) (by decide) ?_
  show CW G 2 K_Sh_init a 27 766 (CQp G a c_Sh_init) (fun _ => True) 70 [(0, .ref a)] [.ref (a + 15), .ref a] ((4, 0, [1, 6, 9, 12, 13, 14, (-1), (-1), (-1), (-1), (-1), (-1), (-1), (-1), 0, 0, 0, 0, 0]) :: r_Sh_init_10) 15 326
  refine cw_put (pc := 70) (ci := 4) (k := 6) (N := 19) (t := 2) (C := RX4) (T := TX4) (tys := tyX4) (v := 15) (ty := .array .int) rfl (by decide) inX4 tyX4_ok nmX4 (by decide) rfl rfl rfl w2_139 (Or.inr ⟨rfl, rfl, rfl⟩) d_Sh_init_70 rfl rfl rfl rfl rfl ?_
  show CW G 2 K_Sh_init a 27 766 (CQp G a c_Sh_init) (fun _ => True) 73 [(0, .ref a)] [] ((4, 0, [1, 6, 9, 12, 13, 14, 15, (-1), (-1), (-1), (-1), (-1), (-1), (-1), 0, 0, 0, 0, 0]) :: r_Sh_init_10) 15 326
  refine cw_aload_n (pc := 73) d_Sh_init_73 rfl 0 rfl ?_
  refine cw_bipush (pc := 74) (x := 6) d_Sh_init_74 (by decide) ?_
  refine cw_newi (pc := 76) (N := 6) w1_151 (by decide) (by decide) (by decide) d_Sh_init_76 (by decide +kernel) (by decide) (by decide) ?_
  show CW G 2 K_Sh_init a 27 766 (CQp G a c_Sh_init) (fun _ => True) 78 [(0, .ref a)] [.ref (a + 16), .ref a] ((4, 0, [1, 6, 9, 12, 13, 14, 15, (-1), (-1), (-1), (-1), (-1), (-1), (-1), 0, 0, 0, 0, 0]) :: r_Sh_init_11) 16 332
  refine cw_put (pc := 78) (ci := 4) (k := 7) (N := 19) (t := 2) (C := RX4) (T := TX4) (tys := tyX4) (v := 16) (ty := .array .int) rfl (by decide) inX4 tyX4_ok nmX4 (by decide) rfl rfl rfl w2_141 (Or.inr ⟨rfl, rfl, rfl⟩) d_Sh_init_78 rfl rfl rfl rfl rfl ?_
  show CW G 2 K_Sh_init a 27 766 (CQp G a c_Sh_init) (fun _ => True) 81 [(0, .ref a)] [] ((4, 0, [1, 6, 9, 12, 13, 14, 15, 16, (-1), (-1), (-1), (-1), (-1), (-1), 0, 0, 0, 0, 0]) :: r_Sh_init_11) 16 332
  refine cw_aload_n (pc := 81) d_Sh_init_81 rfl 0 rfl ?_
  refine cw_bipush (pc := 82) (x := 6) d_Sh_init_82 (by decide) ?_
  refine cw_newi (pc := 84) (N := 6) w1_151 (by decide) (by decide) (by decide) d_Sh_init_84 (by decide +kernel) (by decide) (by decide) ?_
  show CW G 2 K_Sh_init a 27 766 (CQp G a c_Sh_init) (fun _ => True) 86 [(0, .ref a)] [.ref (a + 17), .ref a] ((4, 0, [1, 6, 9, 12, 13, 14, 15, 16, (-1), (-1), (-1), (-1), (-1), (-1), 0, 0, 0, 0, 0]) :: r_Sh_init_12) 17 338
  refine cw_put (pc := 86) (ci := 4) (k := 8) (N := 19) (t := 2) (C := RX4) (T := TX4) (tys := tyX4) (v := 17) (ty := .array .int) rfl (by decide) inX4 tyX4_ok nmX4 (by decide) rfl rfl rfl w2_145 (Or.inr ⟨rfl, rfl, rfl⟩) d_Sh_init_86 rfl rfl rfl rfl rfl ?_
  show CW G 2 K_Sh_init a 27 766 (CQp G a c_Sh_init) (fun _ => True) 89 [(0, .ref a)] [] ((4, 0, [1, 6, 9, 12, 13, 14, 15, 16, 17, (-1), (-1), (-1), (-1), (-1), 0, 0, 0, 0, 0]) :: r_Sh_init_12) 17 338
  refine cw_aload_n (pc := 89) d_Sh_init_89 rfl 0 rfl ?_
  refine cw_bipush (pc := 90) (x := 60) d_Sh_init_90 (by decide) ?_
  refine cw_newi (pc := 92) (N := 60) w1_151 (by decide) (by decide) (by decide) d_Sh_init_92 (by decide +kernel) (by decide) (by decide) ?_
  show CW G 2 K_Sh_init a 27 766 (CQp G a c_Sh_init) (fun _ => True) 94 [(0, .ref a)] [.ref (a + 18), .ref a] ((4, 0, [1, 6, 9, 12, 13, 14, 15, 16, 17, (-1), (-1), (-1), (-1), (-1), 0, 0, 0, 0, 0]) :: r_Sh_init_13) 18 398
  refine cw_put (pc := 94) (ci := 4) (k := 9) (N := 19) (t := 2) (C := RX4) (T := TX4) (tys := tyX4) (v := 18) (ty := .array .int) rfl (by decide) inX4 tyX4_ok nmX4 (by decide) rfl rfl rfl w2_147 (Or.inr ⟨rfl, rfl, rfl⟩) d_Sh_init_94 rfl rfl rfl rfl rfl ?_
  show CW G 2 K_Sh_init a 27 766 (CQp G a c_Sh_init) (fun _ => True) 97 [(0, .ref a)] [] ((4, 0, [1, 6, 9, 12, 13, 14, 15, 16, 17, 18, (-1), (-1), (-1), (-1), 0, 0, 0, 0, 0]) :: r_Sh_init_13) 18 398
  refine cw_aload_n (pc := 97) d_Sh_init_97 rfl 0 rfl ?_
  refine cw_bipush (pc := 98) (x := 6) d_Sh_init_98 (by decide) ?_
  refine cw_newi (pc := 100) (N := 6) w1_151 (by decide) (by decide) (by decide) d_Sh_init_100 (by decide +kernel) (by decide) (by decide) ?_
  show CW G 2 K_Sh_init a 27 766 (CQp G a c_Sh_init) (fun _ => True) 102 [(0, .ref a)] [.ref (a + 19), .ref a] ((4, 0, [1, 6, 9, 12, 13, 14, 15, 16, 17, 18, (-1), (-1), (-1), (-1), 0, 0, 0, 0, 0]) :: r_Sh_init_14) 19 404
  refine cw_put (pc := 102) (ci := 4) (k := 10) (N := 19) (t := 2) (C := RX4) (T := TX4) (tys := tyX4) (v := 19) (ty := .array .int) rfl (by decide) inX4 tyX4_ok nmX4 (by decide) rfl rfl rfl w2_148 (Or.inr ⟨rfl, rfl, rfl⟩) d_Sh_init_102 rfl rfl rfl rfl rfl ?_
  show CW G 2 K_Sh_init a 27 766 (CQp G a c_Sh_init) (fun _ => True) 105 [(0, .ref a)] [] ((4, 0, [1, 6, 9, 12, 13, 14, 15, 16, 17, 18, 19, (-1), (-1), (-1), 0, 0, 0, 0, 0]) :: r_Sh_init_14) 19 404
  refine cw_aload_n (pc := 105) d_Sh_init_105 rfl 0 rfl ?_
  refine cw_bipush (pc := 106) (x := 6) d_Sh_init_106 (by decide) ?_
  refine cw_newi (pc := 108) (N := 6) w1_151 (by decide) (by decide) (by decide) d_Sh_init_108 (by decide +kernel) (by decide) (by decide) ?_
  show CW G 2 K_Sh_init a 27 766 (CQp G a c_Sh_init) (fun _ => True) 110 [(0, .ref a)] [.ref (a + 20), .ref a] ((4, 0, [1, 6, 9, 12, 13, 14, 15, 16, 17, 18, 19, (-1), (-1), (-1), 0, 0, 0, 0, 0]) :: r_Sh_init_15) 20 410
  refine cw_put (pc := 110) (ci := 4) (k := 11) (N := 19) (t := 2) (C := RX4) (T := TX4) (tys := tyX4) (v := 20) (ty := .array .int) rfl (by decide) inX4 tyX4_ok nmX4 (by decide) rfl rfl rfl w2_151 (Or.inr ⟨rfl, rfl, rfl⟩) d_Sh_init_110 rfl rfl rfl rfl rfl ?_
  show CW G 2 K_Sh_init a 27 766 (CQp G a c_Sh_init) (fun _ => True) 113 [(0, .ref a)] [] ((4, 0, [1, 6, 9, 12, 13, 14, 15, 16, 17, 18, 19, 20, (-1), (-1), 0, 0, 0, 0, 0]) :: r_Sh_init_15) 20 410
  refine cw_aload_n (pc := 113) d_Sh_init_113 rfl 0 rfl ?_
  refine cw_bipush (pc := 114) (x := 48) d_Sh_init_114 (by decide) ?_
  refine cw_newi (pc := 116) (N := 48) w1_151 (by decide) (by decide) (by decide) d_Sh_init_116 (by decide +kernel) (by decide) (by decide) ?_
  show CW G 2 K_Sh_init a 27 766 (CQp G a c_Sh_init) (fun _ => True) 118 [(0, .ref a)] [.ref (a + 21), .ref a] ((4, 0, [1, 6, 9, 12, 13, 14, 15, 16, 17, 18, 19, 20, (-1), (-1), 0, 0, 0, 0, 0]) :: r_Sh_init_16) 21 458
  refine cw_put (pc := 118) (ci := 4) (k := 12) (N := 19) (t := 2) (C := RX4) (T := TX4) (tys := tyX4) (v := 21) (ty := .array .int) rfl (by decide) inX4 tyX4_ok nmX4 (by decide) rfl rfl rfl w2_153 (Or.inr ⟨rfl, rfl, rfl⟩) d_Sh_init_118 rfl rfl rfl rfl rfl ?_
  show CW G 2 K_Sh_init a 27 766 (CQp G a c_Sh_init) (fun _ => True) 121 [(0, .ref a)] [] ((4, 0, [1, 6, 9, 12, 13, 14, 15, 16, 17, 18, 19, 20, 21, (-1), 0, 0, 0, 0, 0]) :: r_Sh_init_16) 21 458
  refine cw_aload_n (pc := 121) d_Sh_init_121 rfl 0 rfl ?_
  refine cw_new (pc := 122) (ci := 9) (N := 8) (C := RX9) (T := TX9) rfl (by decide) inX9 tyX9_ok fsX9 w2_83 w2_84 w1_16 d_Sh_init_122 (by decide +kernel) (by decide) (by decide) ?_
  show CW G 2 K_Sh_init a 27 766 (CQp G a c_Sh_init) (fun _ => True) 125 [(0, .ref a)] [.ref (a + 22), .ref a] ((4, 0, [1, 6, 9, 12, 13, 14, 15, 16, 17, 18, 19, 20, 21, (-1), 0, 0, 0, 0, 0]) :: r_Sh_init_17) 22 466
  refine cw_dup (pc := 125) d_Sh_init_125 rfl ?_
  refine cw_ctorN (pc := 126) (b := a + 22) (st0 := [.ref (a + 22), .ref (a + 22), .ref a]) (sp0 := (4, 0, [1, 6, 9, 12, 13, 14, 15, 16, 17, 18, 19, 20, 21, (-1), 0, 0, 0, 0, 0]) :: r_Sh_init_16) okI_We_init (ok_We_init G _) (List.mem_of_getElem? (i := 8) rfl) d_Sh_init_126 rfl (by decide) (by decide) rfl rfl rfl (by decide +kernel) (Nat.le_of_ble_eq_true rfl) (fun _ _ _ _ _ => trivial) (fun _ _ _ _ _ _ _ _ => trivial) (by decide) (by decide) ?_
  show CW G 2 K_Sh_init a 27 766 (CQp G a c_Sh_init) (fun _ => True) 129 [(0, .ref a)] [.ref (a + 22), .ref a] ((4, 0, [1, 6, 9, 12, 13, 14, 15, 16, 17, 18, 19, 20, 21, (-1), 0, 0, 0, 0, 0]) :: r_Sh_init_18) 27 766
  refine cw_put (pc := 129) (ci := 4) (k := 13) (N := 19) (t := 2) (C := RX4) (T := TX4) (tys := tyX4) (v := 22) (ty := .object "LastPages$Weeks") rfl (by decide) inX4 tyX4_ok nmX4 (by decide) rfl rfl rfl w2_154 (Or.inl rfl) d_Sh_init_129 rfl rfl rfl rfl rfl ?_
  show CW G 2 K_Sh_init a 27 766 (CQp G a c_Sh_init) (fun _ => True) 132 [(0, .ref a)] [] ((4, 0, [1, 6, 9, 12, 13, 14, 15, 16, 17, 18, 19, 20, 21, 22, 0, 0, 0, 0, 0]) :: r_Sh_init_18) 27 766
  refine cw_aload_n (pc := 132) d_Sh_init_132 rfl 0 rfl ?_
  refine cw_iconst (pc := 133) (x := 0) d_Sh_init_133 (by decide) ?_
  refine cw_put (pc := 134) (ci := 4) (k := 14) (N := 19) (t := 0) (C := RX4) (T := TX4) (tys := tyX4) (v := 0) (ty := .int) rfl (by decide) inX4 tyX4_ok nmX4 (by decide) rfl rfl rfl w2_157 (Or.inl rfl) d_Sh_init_134 rfl rfl rfl rfl rfl ?_
  show CW G 2 K_Sh_init a 27 766 (CQp G a c_Sh_init) (fun _ => True) 137 [(0, .ref a)] [] ((4, 0, [1, 6, 9, 12, 13, 14, 15, 16, 17, 18, 19, 20, 21, 22, 0, 0, 0, 0, 0]) :: r_Sh_init_18) 27 766
  refine cw_aload_n (pc := 137) d_Sh_init_137 rfl 0 rfl ?_
  refine cw_iconst (pc := 138) (x := 0) d_Sh_init_138 (by decide) ?_
  refine cw_put (pc := 139) (ci := 4) (k := 15) (N := 19) (t := 0) (C := RX4) (T := TX4) (tys := tyX4) (v := 0) (ty := .int) rfl (by decide) inX4 tyX4_ok nmX4 (by decide) rfl rfl rfl w2_158 (Or.inl rfl) d_Sh_init_139 rfl rfl rfl rfl rfl ?_
  show CW G 2 K_Sh_init a 27 766 (CQp G a c_Sh_init) (fun _ => True) 142 [(0, .ref a)] [] ((4, 0, [1, 6, 9, 12, 13, 14, 15, 16, 17, 18, 19, 20, 21, 22, 0, 0, 0, 0, 0]) :: r_Sh_init_18) 27 766
  refine cw_aload_n (pc := 142) d_Sh_init_142 rfl 0 rfl ?_
  refine cw_iconst (pc := 143) (x := 0) d_Sh_init_143 (by decide) ?_
  refine cw_put (pc := 144) (ci := 4) (k := 16) (N := 19) (t := 0) (C := RX4) (T := TX4) (tys := tyX4) (v := 0) (ty := .int) rfl (by decide) inX4 tyX4_ok nmX4 (by decide) rfl rfl rfl w2_163 (Or.inl rfl) d_Sh_init_144 rfl rfl rfl rfl rfl ?_
  show CW G 2 K_Sh_init a 27 766 (CQp G a c_Sh_init) (fun _ => True) 147 [(0, .ref a)] [] ((4, 0, [1, 6, 9, 12, 13, 14, 15, 16, 17, 18, 19, 20, 21, 22, 0, 0, 0, 0, 0]) :: r_Sh_init_18) 27 766
  refine cw_aload_n (pc := 147) d_Sh_init_147 rfl 0 rfl ?_
  refine cw_iconst (pc := 148) (x := 0) d_Sh_init_148 (by decide) ?_
  refine cw_put (pc := 149) (ci := 4) (k := 17) (N := 19) (t := 0) (C := RX4) (T := TX4) (tys := tyX4) (v := 0) (ty := .int) rfl (by decide) inX4 tyX4_ok nmX4 (by decide) rfl rfl rfl w2_166 (Or.inl rfl) d_Sh_init_149 rfl rfl rfl rfl rfl ?_
  show CW G 2 K_Sh_init a 27 766 (CQp G a c_Sh_init) (fun _ => True) 152 [(0, .ref a)] [] ((4, 0, [1, 6, 9, 12, 13, 14, 15, 16, 17, 18, 19, 20, 21, 22, 0, 0, 0, 0, 0]) :: r_Sh_init_18) 27 766
  refine cw_aload_n (pc := 152) d_Sh_init_152 rfl 0 rfl ?_
  refine cw_iconst (pc := 153) (x := 0) d_Sh_init_153 (by decide) ?_
  refine cw_put (pc := 154) (ci := 4) (k := 18) (N := 19) (t := 0) (C := RX4) (T := TX4) (tys := tyX4) (v := 0) (ty := .int) rfl (by decide) inX4 tyX4_ok nmX4 (by decide) rfl rfl rfl w2_170 (Or.inl rfl) d_Sh_init_154 rfl rfl rfl rfl rfl ?_
  show CW G 2 K_Sh_init a 27 766 (CQp G a c_Sh_init) (fun _ => True) 157 [(0, .ref a)] [] ((4, 0, [1, 6, 9, 12, 13, 14, 15, 16, 17, 18, 19, 20, 21, 22, 0, 0, 0, 0, 0]) :: r_Sh_init_18) 27 766
  exact cw_ret (pc := 157) d_Sh_init_157 rfl rfl rfl rfl
