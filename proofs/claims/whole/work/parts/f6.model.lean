/-! ===== the reference's constructor ===== -/
theorem CM.ofQ {G : Gm} {n mc ms : Nat} {K : Mk} {a : Nat} {As : List Value} {s0 : Sp} {Qc : Array Value → State → Outcome → State → Prop} {X : State → Prop} (hy : plainName K.1.cls = true) (hn : (lg_sl (.ref a :: As)).length ≤ K.2.2.1) (k : CW G n K a mc ms Qc X 0 (lv_args 0 (.ref a :: As)) [] [s0] 0 0) : ∀ l : Launch, Met l K.1 (wsK K) (rmC n mc ms) (CP G a As [s0] X) Qc mc ms (fun q => a ≤ q) := by
  intro l
  refine Met.ofW (cc := K.2.1) (maxL := K.2.2.1) (ret := K.2.2.2) hy rfl ?_
  intro p e s m args below meth c s₁ B hml hv
  obtain ⟨rfl, hz, hP, hK, hX⟩ := hv
  have hts := atoms_spec (ws := wsK K) B.pre
  have hown : s.vm.findClass K.1.cls = some m.cls := findClass_of_methodNamed B.named
  have hl := lv_entry (.ref a :: As) (n := K.2.2.1) hn
  rw [lg_entry_eq]
  exact k p l e s m _ below meth c ⟨B.exec, B.bytes, hml, hown, hts, B.returns, B.notSynchronized, hK, (name_of_methodNamed B.named B.method).1⟩ hz hX _ _ _ hP va_S.rf hl
theorem cw_iast {G : Gm} {n : Nat} {K : Mk} {a mc ms : Nat} {Qc : Array Value → State → Outcome → State → Prop} {X : State → Prop} {pc : Nat} {lv : List (Nat × Value)} {st : List Value} {sp sp1 : List Sp} {cells slots : Nat} {q0 N k : Nat} {vals vals1 : List Int} {x i : Int32} {xi : Int} (hsp : sp[q0]? = some (20, N, vals)) (hi : i.toNatClampNeg = k) (h0 : ¬ i < 0) (hk : k < N) (hx : Int32.ofInt xi = x) (hv : ∀ j, vals1.getD j 0 = if j = k then xi else vals.getD j 0) (hd : decode K.2.1 pc = .ok (.iastore, 1)) (hsp1 : sp.set q0 (20, N, vals1) = sp1)
    (kk : CW G n K a mc ms Qc X (pc + 1) lv st sp1 cells slots) : CW G n K a mc ms Qc X pc lv (.int x :: .int i :: .ref (a + q0) :: st) sp cells slots := by
  subst hsp1
  intro p l e s m args below meth c C hz hX H locs ls hP hS hl
  have ha : (zw G a a sp)[q0]? = some (a + q0, .inl (G.2 0, N, .inl (fun i => Int32.ofInt (vals.getD i 0)))) := by
    rw [zw_get, hsp]
    rfl
  refine va_iast C.1 C.2.1 C.2.2.2.2.2.2.2.1.1.1 hP (zw_D G a sp a) hS q0 0 ha rfl (fun q => by rcases q with q | q; exact h0 q; omega) hd ?_
  intro H1 locs1 hP1 hD1 hS1
  refine kk p l e s m args below meth c C hz hX H1 locs1 ls ?_ hS1 hl
  have e : (fun j => Int32.ofInt (vals1.getD j 0)) = upd (fun j => Int32.ofInt (vals.getD j 0)) i.toNatClampNeg x := by
    funext j
    rw [hv j, hi]
    unfold upd
    by_cases h : j = k
    · rw [if_pos h, if_pos h, hx]
    · rw [if_neg h, if_neg h]
  rw [← zw_set]
  show va_P G.1 cls_ ((zw G a a sp).set q0 (a + q0, .inl (G.2 0, N, .inl (fun j => Int32.ofInt (vals1.getD j 0))))) H1
  rw [e]
  exact hP1
theorem hv_1_0 : ∀ j, ([(-1)] : List Int).getD j 0 = if j = 0 then (-1) else ([] : List Int).getD j 0 := fun j => by
  match j with
  | 0 => rfl
  | j + 1 => rw [if_neg (by omega)]; rfl
theorem hv_2_1 : ∀ j, ([(-1), (-1)] : List Int).getD j 0 = if j = 1 then (-1) else ([(-1)] : List Int).getD j 0 := fun j => by
  match j with
  | 0 => rfl
  | 1 => rfl
  | j + 2 => rw [if_neg (by omega)]; rfl
theorem hv_3_2 : ∀ j, ([(-1), (-1), (-1)] : List Int).getD j 0 = if j = 2 then (-1) else ([(-1), (-1)] : List Int).getD j 0 := fun j => by
  match j with
  | 0 => rfl
  | 1 => rfl
  | 2 => rfl
  | j + 3 => rw [if_neg (by omega)]; rfl
theorem hv_4_3 : ∀ j, ([(-1), (-1), (-1), (-1)] : List Int).getD j 0 = if j = 3 then (-1) else ([(-1), (-1), (-1)] : List Int).getD j 0 := fun j => by
  match j with
  | 0 => rfl
  | 1 => rfl
  | 2 => rfl
  | 3 => rfl
  | j + 4 => rw [if_neg (by omega)]; rfl
abbrev K_M_init : Mk := (⟨"LastPagesModel", "<init>", "()V"⟩, prog_14_method_1_code, 2, (Option.none : Option Jvm.ClassFile.FieldType))
theorem okI_M_init : okI ⟨"LastPagesModel", "<init>", "()V"⟩ prog_14_method_1_code 2 0 := ⟨w7_21, w7_20, w1_19, ⟨by decide, by decide, by decide +kernel⟩, by decide, rfl⟩
theorem d_M_init_0 : decode prog_14_method_1_code 0 = .ok (.aload_n 0, 1) := by decide +kernel
theorem d_M_init_1 : decode prog_14_method_1_code 1 = .ok (.invokespecial 1, 3) := by decide +kernel
theorem d_M_init_4 : decode prog_14_method_1_code 4 = .ok (.aload_n 0, 1) := by decide +kernel
theorem d_M_init_5 : decode prog_14_method_1_code 5 = .ok (.lconst 1, 1) := by decide +kernel
theorem d_M_init_6 : decode prog_14_method_1_code 6 = .ok (.putfield 7, 3) := by decide +kernel
theorem d_M_init_9 : decode prog_14_method_1_code 9 = .ok (.aload_n 0, 1) := by decide +kernel
theorem d_M_init_10 : decode prog_14_method_1_code 10 = .ok (.iconst 4, 1) := by decide +kernel
theorem d_M_init_11 : decode prog_14_method_1_code 11 = .ok (.newarray .int, 2) := by decide +kernel
theorem d_M_init_13 : decode prog_14_method_1_code 13 = .ok (.putfield 13, 3) := by decide +kernel
theorem d_M_init_16 : decode prog_14_method_1_code 16 = .ok (.aload_n 0, 1) := by decide +kernel
theorem d_M_init_17 : decode prog_14_method_1_code 17 = .ok (.iconst 4, 1) := by decide +kernel
theorem d_M_init_18 : decode prog_14_method_1_code 18 = .ok (.newarray .int, 2) := by decide +kernel
theorem d_M_init_20 : decode prog_14_method_1_code 20 = .ok (.putfield 17, 3) := by decide +kernel
theorem d_M_init_23 : decode prog_14_method_1_code 23 = .ok (.aload_n 0, 1) := by decide +kernel
theorem d_M_init_24 : decode prog_14_method_1_code 24 = .ok (.sipush 240, 3) := by decide +kernel
theorem d_M_init_27 : decode prog_14_method_1_code 27 = .ok (.newarray .long, 2) := by decide +kernel
theorem d_M_init_29 : decode prog_14_method_1_code 29 = .ok (.putfield 20, 3) := by decide +kernel
theorem d_M_init_32 : decode prog_14_method_1_code 32 = .ok (.aload_n 0, 1) := by decide +kernel
theorem d_M_init_33 : decode prog_14_method_1_code 33 = .ok (.sipush 900, 3) := by decide +kernel
theorem d_M_init_36 : decode prog_14_method_1_code 36 = .ok (.newarray .byte, 2) := by decide +kernel
theorem d_M_init_38 : decode prog_14_method_1_code 38 = .ok (.putfield 24, 3) := by decide +kernel
theorem d_M_init_41 : decode prog_14_method_1_code 41 = .ok (.aload_n 0, 1) := by decide +kernel
theorem d_M_init_42 : decode prog_14_method_1_code 42 = .ok (.iconst (-1), 1) := by decide +kernel
theorem d_M_init_43 : decode prog_14_method_1_code 43 = .ok (.putfield 28, 3) := by decide +kernel
theorem d_M_init_46 : decode prog_14_method_1_code 46 = .ok (.aload_n 0, 1) := by decide +kernel
theorem d_M_init_47 : decode prog_14_method_1_code 47 = .ok (.iconst (-1), 1) := by decide +kernel
theorem d_M_init_48 : decode prog_14_method_1_code 48 = .ok (.putfield 32, 3) := by decide +kernel
theorem d_M_init_51 : decode prog_14_method_1_code 51 = .ok (.aload_n 0, 1) := by decide +kernel
theorem d_M_init_52 : decode prog_14_method_1_code 52 = .ok (.sipush 2880, 3) := by decide +kernel
theorem d_M_init_55 : decode prog_14_method_1_code 55 = .ok (.newarray .int, 2) := by decide +kernel
theorem d_M_init_57 : decode prog_14_method_1_code 57 = .ok (.putfield 35, 3) := by decide +kernel
theorem d_M_init_60 : decode prog_14_method_1_code 60 = .ok (.aload_n 0, 1) := by decide +kernel
theorem d_M_init_61 : decode prog_14_method_1_code 61 = .ok (.sipush 304, 3) := by decide +kernel
theorem d_M_init_64 : decode prog_14_method_1_code 64 = .ok (.newarray .int, 2) := by decide +kernel
theorem d_M_init_66 : decode prog_14_method_1_code 66 = .ok (.putfield 38, 3) := by decide +kernel
theorem d_M_init_69 : decode prog_14_method_1_code 69 = .ok (.aload_n 0, 1) := by decide +kernel
theorem d_M_init_70 : decode prog_14_method_1_code 70 = .ok (.sipush 280, 3) := by decide +kernel
theorem d_M_init_73 : decode prog_14_method_1_code 73 = .ok (.newarray .long, 2) := by decide +kernel
theorem d_M_init_75 : decode prog_14_method_1_code 75 = .ok (.putfield 41, 3) := by decide +kernel
theorem d_M_init_78 : decode prog_14_method_1_code 78 = .ok (.aload_n 0, 1) := by decide +kernel
theorem d_M_init_79 : decode prog_14_method_1_code 79 = .ok (.bipush 64, 2) := by decide +kernel
theorem d_M_init_81 : decode prog_14_method_1_code 81 = .ok (.newarray .long, 2) := by decide +kernel
theorem d_M_init_83 : decode prog_14_method_1_code 83 = .ok (.putfield 44, 3) := by decide +kernel
theorem d_M_init_86 : decode prog_14_method_1_code 86 = .ok (.aload_n 0, 1) := by decide +kernel
theorem d_M_init_87 : decode prog_14_method_1_code 87 = .ok (.bipush 56, 2) := by decide +kernel
theorem d_M_init_89 : decode prog_14_method_1_code 89 = .ok (.newarray .long, 2) := by decide +kernel
theorem d_M_init_91 : decode prog_14_method_1_code 91 = .ok (.putfield 47, 3) := by decide +kernel
theorem d_M_init_94 : decode prog_14_method_1_code 94 = .ok (.aload_n 0, 1) := by decide +kernel
theorem d_M_init_95 : decode prog_14_method_1_code 95 = .ok (.bipush 8, 2) := by decide +kernel
theorem d_M_init_97 : decode prog_14_method_1_code 97 = .ok (.newarray .long, 2) := by decide +kernel
theorem d_M_init_99 : decode prog_14_method_1_code 99 = .ok (.putfield 50, 3) := by decide +kernel
theorem d_M_init_102 : decode prog_14_method_1_code 102 = .ok (.aload_n 0, 1) := by decide +kernel
theorem d_M_init_103 : decode prog_14_method_1_code 103 = .ok (.bipush 8, 2) := by decide +kernel
theorem d_M_init_105 : decode prog_14_method_1_code 105 = .ok (.newarray .long, 2) := by decide +kernel
theorem d_M_init_107 : decode prog_14_method_1_code 107 = .ok (.putfield 53, 3) := by decide +kernel
theorem d_M_init_110 : decode prog_14_method_1_code 110 = .ok (.aload_n 0, 1) := by decide +kernel
theorem d_M_init_111 : decode prog_14_method_1_code 111 = .ok (.bipush 64, 2) := by decide +kernel
theorem d_M_init_113 : decode prog_14_method_1_code 113 = .ok (.newarray .int, 2) := by decide +kernel
theorem d_M_init_115 : decode prog_14_method_1_code 115 = .ok (.putfield 56, 3) := by decide +kernel
theorem d_M_init_118 : decode prog_14_method_1_code 118 = .ok (.aload_n 0, 1) := by decide +kernel
theorem d_M_init_119 : decode prog_14_method_1_code 119 = .ok (.bipush 7, 2) := by decide +kernel
theorem d_M_init_121 : decode prog_14_method_1_code 121 = .ok (.newarray .int, 2) := by decide +kernel
theorem d_M_init_123 : decode prog_14_method_1_code 123 = .ok (.putfield 59, 3) := by decide +kernel
theorem d_M_init_126 : decode prog_14_method_1_code 126 = .ok (.aload_n 0, 1) := by decide +kernel
theorem d_M_init_127 : decode prog_14_method_1_code 127 = .ok (.bipush 6, 2) := by decide +kernel
theorem d_M_init_129 : decode prog_14_method_1_code 129 = .ok (.newarray .int, 2) := by decide +kernel
theorem d_M_init_131 : decode prog_14_method_1_code 131 = .ok (.putfield 62, 3) := by decide +kernel
theorem d_M_init_134 : decode prog_14_method_1_code 134 = .ok (.aload_n 0, 1) := by decide +kernel
theorem d_M_init_135 : decode prog_14_method_1_code 135 = .ok (.bipush 6, 2) := by decide +kernel
theorem d_M_init_137 : decode prog_14_method_1_code 137 = .ok (.newarray .int, 2) := by decide +kernel
theorem d_M_init_139 : decode prog_14_method_1_code 139 = .ok (.putfield 65, 3) := by decide +kernel
theorem d_M_init_142 : decode prog_14_method_1_code 142 = .ok (.aload_n 0, 1) := by decide +kernel
theorem d_M_init_143 : decode prog_14_method_1_code 143 = .ok (.sipush 1792, 3) := by decide +kernel
theorem d_M_init_146 : decode prog_14_method_1_code 146 = .ok (.newarray .int, 2) := by decide +kernel
theorem d_M_init_148 : decode prog_14_method_1_code 148 = .ok (.putfield 68, 3) := by decide +kernel
theorem d_M_init_151 : decode prog_14_method_1_code 151 = .ok (.aload_n 0, 1) := by decide +kernel
theorem d_M_init_152 : decode prog_14_method_1_code 152 = .ok (.iconst 5, 1) := by decide +kernel
theorem d_M_init_153 : decode prog_14_method_1_code 153 = .ok (.newarray .int, 2) := by decide +kernel
theorem d_M_init_155 : decode prog_14_method_1_code 155 = .ok (.putfield 71, 3) := by decide +kernel
theorem d_M_init_158 : decode prog_14_method_1_code 158 = .ok (.iconst 0, 1) := by decide +kernel
theorem d_M_init_159 : decode prog_14_method_1_code 159 = .ok (.istore_n 1, 1) := by decide +kernel
theorem d_M_init_160 : decode prog_14_method_1_code 160 = .ok (.iload_n 1, 1) := by decide +kernel
theorem d_M_init_161 : decode prog_14_method_1_code 161 = .ok (.iconst 4, 1) := by decide +kernel
theorem d_M_init_162 : decode prog_14_method_1_code 162 = .ok (.if_icmp .ge 16, 3) := by decide +kernel
theorem d_M_init_165 : decode prog_14_method_1_code 165 = .ok (.aload_n 0, 1) := by decide +kernel
theorem d_M_init_166 : decode prog_14_method_1_code 166 = .ok (.getfield 17, 3) := by decide +kernel
theorem d_M_init_169 : decode prog_14_method_1_code 169 = .ok (.iload_n 1, 1) := by decide +kernel
theorem d_M_init_170 : decode prog_14_method_1_code 170 = .ok (.iconst (-1), 1) := by decide +kernel
theorem d_M_init_171 : decode prog_14_method_1_code 171 = .ok (.iastore, 1) := by decide +kernel
theorem d_M_init_172 : decode prog_14_method_1_code 172 = .ok (.iinc 1 1, 3) := by decide +kernel
theorem d_M_init_175 : decode prog_14_method_1_code 175 = .ok (.goto (-15), 3) := by decide +kernel
theorem d_M_init_178 : decode prog_14_method_1_code 178 = .ok (.aload_n 0, 1) := by decide +kernel
theorem d_M_init_179 : decode prog_14_method_1_code 179 = .ok (.iconst 0, 1) := by decide +kernel
theorem d_M_init_180 : decode prog_14_method_1_code 180 = .ok (.invokevirtual 74, 3) := by decide +kernel
theorem d_M_init_183 : decode prog_14_method_1_code 183 = .ok (.return_, 1) := by decide +kernel
def r_M_init_1 : List Sp := [] ++ [(20, 4, [])]
def r_M_init_2 : List Sp := r_M_init_1 ++ [(20, 4, [])]
def r_M_init_3 : List Sp := r_M_init_2 ++ [(22, 240, [])]
def r_M_init_4 : List Sp := r_M_init_3 ++ [(21, 900, [])]
def r_M_init_5 : List Sp := r_M_init_4 ++ [(20, 2880, [])]
def r_M_init_6 : List Sp := r_M_init_5 ++ [(20, 304, [])]
def r_M_init_7 : List Sp := r_M_init_6 ++ [(22, 280, [])]
def r_M_init_8 : List Sp := r_M_init_7 ++ [(22, 64, [])]
def r_M_init_9 : List Sp := r_M_init_8 ++ [(22, 56, [])]
def r_M_init_10 : List Sp := r_M_init_9 ++ [(22, 8, [])]
def r_M_init_11 : List Sp := r_M_init_10 ++ [(22, 8, [])]
def r_M_init_12 : List Sp := r_M_init_11 ++ [(20, 64, [])]
def r_M_init_13 : List Sp := r_M_init_12 ++ [(20, 7, [])]
def r_M_init_14 : List Sp := r_M_init_13 ++ [(20, 6, [])]
def r_M_init_15 : List Sp := r_M_init_14 ++ [(20, 6, [])]
def r_M_init_16 : List Sp := r_M_init_15 ++ [(20, 1792, [])]
def r_M_init_17 : List Sp := r_M_init_16 ++ [(20, 5, [])]
def r_M_init_18 : List Sp := r_M_init_17.set 1 (20, 4, [(-1)])
def r_M_init_19 : List Sp := r_M_init_18.set 1 (20, 4, [(-1), (-1)])
def r_M_init_20 : List Sp := r_M_init_19.set 1 (20, 4, [(-1), (-1), (-1)])
def r_M_init_21 : List Sp := r_M_init_20.set 1 (20, 4, [(-1), (-1), (-1), (-1)])
def c_M : List Sp := (12, 0, [0, 0, 0, 1, 1, 2, 3, 4, 0, 0, (-1), (-1), 0, 0, 0, 0, 0, 0, 0, 0, 5, 6, 7, 0, 0, 8, 9, 10, 11, 12, 13, 14, 15, 16, 17, 0, 0, 0, 0, 0, 0, 0, 0, 0]) :: r_M_init_21
theorem okM_all : c_M.all okCl = true := by decide +kernel
theorem okM_ty : chTy c_M = true := by decide +kernel
theorem okM_23 : chRow c_M 23 4 = true := by decide +kernel
theorem okM_24 : chRow c_M 24 8 = true := by decide +kernel
abbrev mY (G : Gm) (a : Nat) : Ly := spY G a c_M
abbrev mH (a : Nat) : Hp := spH a c_M
theorem Ty_M (G : Gm) (a : Nat) : Ty (mY G a) (mH a) := sp_Ty okM_all okM_ty okM_23 okM_24
theorem M_isO (G : Gm) (a : Nat) : isO (mY G a) 12 a := sp_oi (a := a) (sp := c_M) (i := 0) (by decide +kernel) rfl
theorem tgM (j : Nat) : ∀ t, tg c_M 0 j = t → ∀ f, f % 100 = j → ∀ a, hGr (mH a) f a = a + t := fun t ht f hf a => by
  have := sp_gr (a := a) (sp := c_M) f 0
  rw [hf, ht] at this
  exact this
theorem mLen_in (f : Nat) (h : mLen f ≠ 0) : f < 1235 ∧ 1200 ≤ f := by
  unfold mLen at h
  split at h <;> first | exact absurd rfl h | omega
theorem mLen_ok : ∀ j, j < 35 → mLen (1200 + j) ≠ 0 → (cell c_M (tg c_M 0 j)).2.1 = mLen (1200 + j) := by decide +kernel
theorem mLen_inj : ∀ j, j < 35 → ∀ k, k < 35 → mLen (1200 + j) ≠ 0 → mLen (1200 + k) ≠ 0 → tg c_M 0 j = tg c_M 0 k → j = k := by decide +kernel
theorem MS_M (G : Gm) (a : Nat) : MS (mY G a) (mH a) a := by
  refine ⟨M_isO G a, fun f hf => ?_, fun f g hf hg e => ?_⟩
  · obtain ⟨h1, h2⟩ := mLen_in f hf
    have hj := mLen_ok (f - 1200) (by omega)
    rw [show 1200 + (f - 1200) = f by omega] at hj
    rw [tgM (f - 1200) _ rfl f (by omega) a, sp_ln]
    exact hj hf
  · obtain ⟨h1, h2⟩ := mLen_in f hf
    obtain ⟨h3, h4⟩ := mLen_in g hg
    have hj := mLen_inj (f - 1200) (by omega) (g - 1200) (by omega)
    rw [show 1200 + (f - 1200) = f by omega, show 1200 + (g - 1200) = g by omega] at hj
    rw [tgM (f - 1200) _ rfl f (by omega) a, tgM (g - 1200) _ rfl g (by omega) a] at e
    have := hj hf hg (by omega)
    omega
/-- the reference, made -/
def QMi (G : Gm) (a : Nat) : Array Value → State → Outcome → State → Prop := fun _ st oc t => oc = .returned none ∧ (∃ h1, M_empties (mY G a) a (nI 0) (mH a) = some h1 ∧ Wd (mY G a) h1 t) ∧ va_F (fun q => a ≤ q) st t
set_option maxRecDepth 100000 in
theorem M_from (G : Gm) (a : Nat) : CW G 1 K_M_init a 17 6628 (QMi G a) (fun _ => True) 178 [(0, .ref a)] [] c_M 17 6628 := by
  intro p l e s m args below meth c C hz hX H locs ls hP hS hl
  have S := MS_M G a
  obtain ⟨g, e1, e2⟩ := M_empties_s S (b := 0) (by decide)
  refine lv_aload_n C.1 C.2.1 (pc := 178) d_M_init_178 rfl (lv_at hl 0 rfl) ?_
  refine lv_iconst C.1 C.2.1 (pc := 179) (v := nI 0) d_M_init_179 (by decide) ?_
  refine am_callV (K := K_M_init) (K' := K_M_empties) (As := [.int (nI 0)]) (ci := 12) (T := TX12) (N := 44) (Y := mY G a) (h := mH a) (A := fun q => a ≤ q) C.1 C.2.1 C.2.2.1 C.2.2.2.1 C.2.2.2.2.1 (show KK (mY G a) s from C.2.2.2.2.2.2.2.1.1) (sp_P okM_all hP) (sp_D _) (Ty_M G a) hS (fun q hq => ((mem_adr _ _ _).mp hq).1) okV_M_empties (ok_M_empties (mY G a) a (nI 0) (mH a) S.1) rfl (by decide) S.1 e1 w7_23 d_M_init_180 rfl ⟨by decide, by decide⟩ (Nat.le_refl _) (Nat.le_refl _) hl.1 rfl (Nat.zero_le _) ?_
  intro H1 locs1 hP1 hT1 hk1 hS1
  exact W.vret C.1 C.2.1 (C.2.2.2.2.2.1.trans rfl) (fun t ht hW => ⟨rfl, ⟨_, e1, by rw [ht]; exact hP1, KK.warm hW C.2.2.2.2.2.2.2.1.1, sp_D _, hT1⟩, hS1.F ht⟩) hS1.2.2 d_M_init_183 C.2.2.2.2.2.2.1
set_option maxRecDepth 100000 in
theorem ok_M_init (G : Gm) (a : Nat) : ∀ l : Launch, Met l K_M_init.1 (wsK K_M_init) (rmC 1 17 6628) (CP G a [] [dO 12] (fun _ => True)) (QMi G a) 17 6628 (fun q => a ≤ q) := by
  refine CM.ofQ (K := K_M_init) rfl (Nat.le_of_ble_eq_true rfl) ?_
  show CW G 1 K_M_init a 17 6628 (QMi G a) (fun _ => True) 0 [(0, .ref a)] [] ((12, 0, [0, 0, 0, 0, (-1), (-1), (-1), (-1), 0, 0, 0, 0, 0, 0, 0, 0, 0, 0, 0, 0, (-1), (-1), (-1), 0, 0, (-1), (-1), (-1), (-1), (-1), (-1), (-1), (-1), (-1), (-1), 0, 0, 0, 0, 0, 0, 0, 0, 0]) :: []) 0 0
  refine cw_aload_n (pc := 0) d_M_init_0 rfl 0 rfl ?_
  refine cw_objinit (pc := 1) d_M_init_1 w7_22 w1_28 w1_29 (by decide) ?_
  refine cw_aload_n (pc := 4) d_M_init_4 rfl 0 rfl ?_
  refine cw_lconst (pc := 5) (x := 1) d_M_init_5 (by decide) ?_
  refine cw_put (pc := 6) (ci := 12) (k := 3) (N := 44) (t := 1) (C := RX12) (T := TX12) (tys := tyX12) (v := 1) (ty := .long) rfl (by decide) inX12 tyX12_ok nmX12 (by decide) rfl rfl rfl w7_30 (Or.inl rfl) d_M_init_6 rfl rfl rfl rfl rfl ?_
  show CW G 1 K_M_init a 17 6628 (QMi G a) (fun _ => True) 9 [(0, .ref a)] [] ((12, 0, [0, 0, 0, 1, (-1), (-1), (-1), (-1), 0, 0, 0, 0, 0, 0, 0, 0, 0, 0, 0, 0, (-1), (-1), (-1), 0, 0, (-1), (-1), (-1), (-1), (-1), (-1), (-1), (-1), (-1), (-1), 0, 0, 0, 0, 0, 0, 0, 0, 0]) :: []) 0 0
  refine cw_aload_n (pc := 9) d_M_init_9 rfl 0 rfl ?_
  refine cw_iconst (pc := 10) (x := 4) d_M_init_10 (by decide) ?_
  refine cw_newi (pc := 11) (N := 4) w1_151 (by decide) (by decide) (by decide) d_M_init_11 (by decide +kernel) (by decide) (by decide) ?_
  show CW G 1 K_M_init a 17 6628 (QMi G a) (fun _ => True) 13 [(0, .ref a)] [.ref (a + 1), .ref a] ((12, 0, [0, 0, 0, 1, (-1), (-1), (-1), (-1), 0, 0, 0, 0, 0, 0, 0, 0, 0, 0, 0, 0, (-1), (-1), (-1), 0, 0, (-1), (-1), (-1), (-1), (-1), (-1), (-1), (-1), (-1), (-1), 0, 0, 0, 0, 0, 0, 0, 0, 0]) :: r_M_init_1) 1 4
  refine cw_put (pc := 13) (ci := 12) (k := 4) (N := 44) (t := 2) (C := RX12) (T := TX12) (tys := tyX12) (v := 1) (ty := .array .int) rfl (by decide) inX12 tyX12_ok nmX12 (by decide) rfl rfl rfl w7_31 (Or.inr ⟨rfl, rfl, rfl⟩) d_M_init_13 rfl rfl rfl rfl rfl ?_
  show CW G 1 K_M_init a 17 6628 (QMi G a) (fun _ => True) 16 [(0, .ref a)] [] ((12, 0, [0, 0, 0, 1, 1, (-1), (-1), (-1), 0, 0, 0, 0, 0, 0, 0, 0, 0, 0, 0, 0, (-1), (-1), (-1), 0, 0, (-1), (-1), (-1), (-1), (-1), (-1), (-1), (-1), (-1), (-1), 0, 0, 0, 0, 0, 0, 0, 0, 0]) :: r_M_init_1) 1 4
  refine cw_aload_n (pc := 16) d_M_init_16 rfl 0 rfl ?_
  refine cw_iconst (pc := 17) (x := 4) d_M_init_17 (by decide) ?_
  refine cw_newi (pc := 18) (N := 4) w1_151 (by decide) (by decide) (by decide) d_M_init_18 (by decide +kernel) (by decide) (by decide) ?_
  show CW G 1 K_M_init a 17 6628 (QMi G a) (fun _ => True) 20 [(0, .ref a)] [.ref (a + 2), .ref a] ((12, 0, [0, 0, 0, 1, 1, (-1), (-1), (-1), 0, 0, 0, 0, 0, 0, 0, 0, 0, 0, 0, 0, (-1), (-1), (-1), 0, 0, (-1), (-1), (-1), (-1), (-1), (-1), (-1), (-1), (-1), (-1), 0, 0, 0, 0, 0, 0, 0, 0, 0]) :: r_M_init_2) 2 8
  refine cw_put (pc := 20) (ci := 12) (k := 5) (N := 44) (t := 2) (C := RX12) (T := TX12) (tys := tyX12) (v := 2) (ty := .array .int) rfl (by decide) inX12 tyX12_ok nmX12 (by decide) rfl rfl rfl w7_32 (Or.inr ⟨rfl, rfl, rfl⟩) d_M_init_20 rfl rfl rfl rfl rfl ?_
  show CW G 1 K_M_init a 17 6628 (QMi G a) (fun _ => True) 23 [(0, .ref a)] [] ((12, 0, [0, 0, 0, 1, 1, 2, (-1), (-1), 0, 0, 0, 0, 0, 0, 0, 0, 0, 0, 0, 0, (-1), (-1), (-1), 0, 0, (-1), (-1), (-1), (-1), (-1), (-1), (-1), (-1), (-1), (-1), 0, 0, 0, 0, 0, 0, 0, 0, 0]) :: r_M_init_2) 2 8
  refine cw_aload_n (pc := 23) d_M_init_23 rfl 0 rfl ?_
  refine cw_sipush (pc := 24) (x := 240) d_M_init_24 (by decide) ?_
  refine cw_newl (pc := 27) (N := 240) w1_137 (by decide) (by decide) (by decide) d_M_init_27 (by decide +kernel) (by decide) (by decide) ?_
  show CW G 1 K_M_init a 17 6628 (QMi G a) (fun _ => True) 29 [(0, .ref a)] [.ref (a + 3), .ref a] ((12, 0, [0, 0, 0, 1, 1, 2, (-1), (-1), 0, 0, 0, 0, 0, 0, 0, 0, 0, 0, 0, 0, (-1), (-1), (-1), 0, 0, (-1), (-1), (-1), (-1), (-1), (-1), (-1), (-1), (-1), (-1), 0, 0, 0, 0, 0, 0, 0, 0, 0]) :: r_M_init_3) 3 248
  refine cw_put (pc := 29) (ci := 12) (k := 6) (N := 44) (t := 2) (C := RX12) (T := TX12) (tys := tyX12) (v := 3) (ty := .array .long) rfl (by decide) inX12 tyX12_ok nmX12 (by decide) rfl rfl rfl w7_33 (Or.inr ⟨rfl, rfl, rfl⟩) d_M_init_29 rfl rfl rfl rfl rfl ?_
  show CW G 1 K_M_init a 17 6628 (QMi G a) (fun _ => True) 32 [(0, .ref a)] [] ((12, 0, [0, 0, 0, 1, 1, 2, 3, (-1), 0, 0, 0, 0, 0, 0, 0, 0, 0, 0, 0, 0, (-1), (-1), (-1), 0, 0, (-1), (-1), (-1), (-1), (-1), (-1), (-1), (-1), (-1), (-1), 0, 0, 0, 0, 0, 0, 0, 0, 0]) :: r_M_init_3) 3 248
  refine cw_aload_n (pc := 32) d_M_init_32 rfl 0 rfl ?_
  refine cw_sipush (pc := 33) (x := 900) d_M_init_33 (by decide) ?_
  refine cw_newb (pc := 36) (N := 900) w1_136 (by decide) (by decide) (by decide) d_M_init_36 (by decide +kernel) (by decide) (by decide) ?_
  show CW G 1 K_M_init a 17 6628 (QMi G a) (fun _ => True) 38 [(0, .ref a)] [.ref (a + 4), .ref a] ((12, 0, [0, 0, 0, 1, 1, 2, 3, (-1), 0, 0, 0, 0, 0, 0, 0, 0, 0, 0, 0, 0, (-1), (-1), (-1), 0, 0, (-1), (-1), (-1), (-1), (-1), (-1), (-1), (-1), (-1), (-1), 0, 0, 0, 0, 0, 0, 0, 0, 0]) :: r_M_init_4) 4 1148
  refine cw_put (pc := 38) (ci := 12) (k := 7) (N := 44) (t := 2) (C := RX12) (T := TX12) (tys := tyX12) (v := 4) (ty := .array .byte) rfl (by decide) inX12 tyX12_ok nmX12 (by decide) rfl rfl rfl w7_34 (Or.inr ⟨rfl, rfl, rfl⟩) d_M_init_38 rfl rfl rfl rfl rfl ?_
  show CW G 1 K_M_init a 17 6628 (QMi G a) (fun _ => True) 41 [(0, .ref a)] [] ((12, 0, [0, 0, 0, 1, 1, 2, 3, 4, 0, 0, 0, 0, 0, 0, 0, 0, 0, 0, 0, 0, (-1), (-1), (-1), 0, 0, (-1), (-1), (-1), (-1), (-1), (-1), (-1), (-1), (-1), (-1), 0, 0, 0, 0, 0, 0, 0, 0, 0]) :: r_M_init_4) 4 1148
  refine cw_aload_n (pc := 41) d_M_init_41 rfl 0 rfl ?_
  refine cw_iconst (pc := 42) (x := (-1)) d_M_init_42 (by decide) ?_
  refine cw_put (pc := 43) (ci := 12) (k := 10) (N := 44) (t := 0) (C := RX12) (T := TX12) (tys := tyX12) (v := (-1)) (ty := .int) rfl (by decide) inX12 tyX12_ok nmX12 (by decide) rfl rfl rfl w7_37 (Or.inl rfl) d_M_init_43 rfl rfl rfl rfl rfl ?_
  show CW G 1 K_M_init a 17 6628 (QMi G a) (fun _ => True) 46 [(0, .ref a)] [] ((12, 0, [0, 0, 0, 1, 1, 2, 3, 4, 0, 0, (-1), 0, 0, 0, 0, 0, 0, 0, 0, 0, (-1), (-1), (-1), 0, 0, (-1), (-1), (-1), (-1), (-1), (-1), (-1), (-1), (-1), (-1), 0, 0, 0, 0, 0, 0, 0, 0, 0]) :: r_M_init_4) 4 1148
  refine cw_aload_n (pc := 46) d_M_init_46 rfl 0 rfl ?_
  refine cw_iconst (pc := 47) (x := (-1)) d_M_init_47 (by decide) ?_
  refine cw_put (pc := 48) (ci := 12) (k := 11) (N := 44) (t := 0) (C := RX12) (T := TX12) (tys := tyX12) (v := (-1)) (ty := .int) rfl (by decide) inX12 tyX12_ok nmX12 (by decide) rfl rfl rfl w7_38 (Or.inl rfl) d_M_init_48 rfl rfl rfl rfl rfl ?_
  show CW G 1 K_M_init a 17 6628 (QMi G a) (fun _ => True) 51 [(0, .ref a)] [] ((12, 0, [0, 0, 0, 1, 1, 2, 3, 4, 0, 0, (-1), (-1), 0, 0, 0, 0, 0, 0, 0, 0, (-1), (-1), (-1), 0, 0, (-1), (-1), (-1), (-1), (-1), (-1), (-1), (-1), (-1), (-1), 0, 0, 0, 0, 0, 0, 0, 0, 0]) :: r_M_init_4) 4 1148
  refine cw_aload_n (pc := 51) d_M_init_51 rfl 0 rfl ?_
  refine cw_sipush (pc := 52) (x := 2880) d_M_init_52 (by decide) ?_
  refine cw_newi (pc := 55) (N := 2880) w1_151 (by decide) (by decide) (by decide) d_M_init_55 (by decide +kernel) (by decide) (by decide) ?_
  show CW G 1 K_M_init a 17 6628 (QMi G a) (fun _ => True) 57 [(0, .ref a)] [.ref (a + 5), .ref a] ((12, 0, [0, 0, 0, 1, 1, 2, 3, 4, 0, 0, (-1), (-1), 0, 0, 0, 0, 0, 0, 0, 0, (-1), (-1), (-1), 0, 0, (-1), (-1), (-1), (-1), (-1), (-1), (-1), (-1), (-1), (-1), 0, 0, 0, 0, 0, 0, 0, 0, 0]) :: r_M_init_5) 5 4028
  refine cw_put (pc := 57) (ci := 12) (k := 20) (N := 44) (t := 2) (C := RX12) (T := TX12) (tys := tyX12) (v := 5) (ty := .array .int) rfl (by decide) inX12 tyX12_ok nmX12 (by decide) rfl rfl rfl w7_47 (Or.inr ⟨rfl, rfl, rfl⟩) d_M_init_57 rfl rfl rfl rfl rfl ?_
  show CW G 1 K_M_init a 17 6628 (QMi G a) (fun _ => True) 60 [(0, .ref a)] [] ((12, 0, [0, 0, 0, 1, 1, 2, 3, 4, 0, 0, (-1), (-1), 0, 0, 0, 0, 0, 0, 0, 0, 5, (-1), (-1), 0, 0, (-1), (-1), (-1), (-1), (-1), (-1), (-1), (-1), (-1), (-1), 0, 0, 0, 0, 0, 0, 0, 0, 0]) :: r_M_init_5) 5 4028
  refine cw_aload_n (pc := 60) d_M_init_60 rfl 0 rfl ?_
  refine cw_sipush (pc := 61) (x := 304) d_M_init_61 (by decide) ?_
  refine cw_newi (pc := 64) (N := 304) w1_151 (by decide) (by decide) (by decide) d_M_init_64 (by decide +kernel) (by decide) (by decide) ?_
  show CW G 1 K_M_init a 17 6628 (QMi G a) (fun _ => True) 66 [(0, .ref a)] [.ref (a + 6), .ref a] ((12, 0, [0, 0, 0, 1, 1, 2, 3, 4, 0, 0, (-1), (-1), 0, 0, 0, 0, 0, 0, 0, 0, 5, (-1), (-1), 0, 0, (-1), (-1), (-1), (-1), (-1), (-1), (-1), (-1), (-1), (-1), 0, 0, 0, 0, 0, 0, 0, 0, 0]) :: r_M_init_6) 6 4332
  refine cw_put (pc := 66) (ci := 12) (k := 21) (N := 44) (t := 2) (C := RX12) (T := TX12) (tys := tyX12) (v := 6) (ty := .array .int) rfl (by decide) inX12 tyX12_ok nmX12 (by decide) rfl rfl rfl w7_48 (Or.inr ⟨rfl, rfl, rfl⟩) d_M_init_66 rfl rfl rfl rfl rfl ?_
  show CW G 1 K_M_init a 17 6628 (QMi G a) (fun _ => True) 69 [(0, .ref a)] [] ((12, 0, [0, 0, 0, 1, 1, 2, 3, 4, 0, 0, (-1), (-1), 0, 0, 0, 0, 0, 0, 0, 0, 5, 6, (-1), 0, 0, (-1), (-1), (-1), (-1), (-1), (-1), (-1), (-1), (-1), (-1), 0, 0, 0, 0, 0, 0, 0, 0, 0]) :: r_M_init_6) 6 4332
  refine cw_aload_n (pc := 69) d_M_init_69 rfl 0 rfl ?_
  refine cw_sipush (pc := 70) (x := 280) d_M_init_70 (by decide) ?_
  refine cw_newl (pc := 73) (N := 280) w1_137 (by decide) (by decide) (by decide) d_M_init_73 (by decide +kernel) (by decide) (by decide) ?_
  show CW G 1 K_M_init a 17 6628 (QMi G a) (fun _ => True) 75 [(0, .ref a)] [.ref (a + 7), .ref a] ((12, 0, [0, 0, 0, 1, 1, 2, 3, 4, 0, 0, (-1), (-1), 0, 0, 0, 0, 0, 0, 0, 0, 5, 6, (-1), 0, 0, (-1), (-1), (-1), (-1), (-1), (-1), (-1), (-1), (-1), (-1), 0, 0, 0, 0, 0, 0, 0, 0, 0]) :: r_M_init_7) 7 4612
  refine cw_put (pc := 75) (ci := 12) (k := 22) (N := 44) (t := 2) (C := RX12) (T := TX12) (tys := tyX12) (v := 7) (ty := .array .long) rfl (by decide) inX12 tyX12_ok nmX12 (by decide) rfl rfl rfl w7_49 (Or.inr ⟨rfl, rfl, rfl⟩) d_M_init_75 rfl rfl rfl rfl rfl ?_
  show CW G 1 K_M_init a 17 6628 (QMi G a) (fun _ => True) 78 [(0, .ref a)] [] ((12, 0, [0, 0, 0, 1, 1, 2, 3, 4, 0, 0, (-1), (-1), 0, 0, 0, 0, 0, 0, 0, 0, 5, 6, 7, 0, 0, (-1), (-1), (-1), (-1), (-1), (-1), (-1), (-1), (-1), (-1), 0, 0, 0, 0, 0, 0, 0, 0, 0]) :: r_M_init_7) 7 4612
  refine cw_aload_n (pc := 78) d_M_init_78 rfl 0 rfl ?_
  refine cw_bipush (pc := 79) (x := 64) d_M_init_79 (by decide) ?_
  refine cw_newl (pc := 81) (N := 64) w1_137 (by decide) (by decide) (by decide) d_M_init_81 (by decide +kernel) (by decide) (by decide) ?_
  show CW G 1 K_M_init a 17 6628 (QMi G a) (fun _ => True) 83 [(0, .ref a)] [.ref (a + 8), .ref a] ((12, 0, [0, 0, 0, 1, 1, 2, 3, 4, 0, 0, (-1), (-1), 0, 0, 0, 0, 0, 0, 0, 0, 5, 6, 7, 0, 0, (-1), (-1), (-1), (-1), (-1), (-1), (-1), (-1), (-1), (-1), 0, 0, 0, 0, 0, 0, 0, 0, 0]) :: r_M_init_8) 8 4676
  refine cw_put (pc := 83) (ci := 12) (k := 25) (N := 44) (t := 2) (C := RX12) (T := TX12) (tys := tyX12) (v := 8) (ty := .array .long) rfl (by decide) inX12 tyX12_ok nmX12 (by decide) rfl rfl rfl w7_52 (Or.inr ⟨rfl, rfl, rfl⟩) d_M_init_83 rfl rfl rfl rfl rfl ?_
  show CW G 1 K_M_init a 17 6628 (QMi G a) (fun _ => True) 86 [(0, .ref a)] [] ((12, 0, [0, 0, 0, 1, 1, 2, 3, 4, 0, 0, (-1), (-1), 0, 0, 0, 0, 0, 0, 0, 0, 5, 6, 7, 0, 0, 8, (-1), (-1), (-1), (-1), (-1), (-1), (-1), (-1), (-1), 0, 0, 0, 0, 0, 0, 0, 0, 0]) :: r_M_init_8) 8 4676
  refine cw_aload_n (pc := 86) d_M_init_86 rfl 0 rfl ?_
  refine cw_bipush (pc := 87) (x := 56) d_M_init_87 (by decide) ?_
  refine cw_newl (pc := 89) (N := 56) w1_137 (by decide) (by decide) (by decide) d_M_init_89 (by decide +kernel) (by decide) (by decide) ?_
  show CW G 1 K_M_init a 17 6628 (QMi G a) (fun _ => True) 91 [(0, .ref a)] [.ref (a + 9), .ref a] ((12, 0, [0, 0, 0, 1, 1, 2, 3, 4, 0, 0, (-1), (-1), 0, 0, 0, 0, 0, 0, 0, 0, 5, 6, 7, 0, 0, 8, (-1), (-1), (-1), (-1), (-1), (-1), (-1), (-1), (-1), 0, 0, 0, 0, 0, 0, 0, 0, 0]) :: r_M_init_9) 9 4732
  refine cw_put (pc := 91) (ci := 12) (k := 26) (N := 44) (t := 2) (C := RX12) (T := TX12) (tys := tyX12) (v := 9) (ty := .array .long) rfl (by decide) inX12 tyX12_ok nmX12 (by decide) rfl rfl rfl w7_53 (Or.inr ⟨rfl, rfl, rfl⟩) d_M_init_91 rfl rfl rfl rfl rfl ?_
  show CW G 1 K_M_init a 17 6628 (QMi G a) (fun _ => True) 94 [(0, .ref a)] [] ((12, 0, [0, 0, 0, 1, 1, 2, 3, 4, 0, 0, (-1), (-1), 0, 0, 0, 0, 0, 0, 0, 0, 5, 6, 7, 0, 0, 8, 9, (-1), (-1), (-1), (-1), (-1), (-1), (-1), (-1), 0, 0, 0, 0, 0, 0, 0, 0, 0]) :: r_M_init_9) 9 4732
  refine cw_aload_n (pc := 94) d_M_init_94 rfl 0 rfl ?_
  refine cw_bipush (pc := 95) (x := 8) d_M_init_95 (by decide) ?_
  refine cw_newl (pc := 97) (N := 8) w1_137 (by decide) (by decide) (by decide) d_M_init_97 (by decide +kernel) (by decide) (by decide) ?_
  show CW G 1 K_M_init a 17 6628 (QMi G a) (fun _ => True) 99 [(0, .ref a)] [.ref (a + 10), .ref a] ((12, 0, [0, 0, 0, 1, 1, 2, 3, 4, 0, 0, (-1), (-1), 0, 0, 0, 0, 0, 0, 0, 0, 5, 6, 7, 0, 0, 8, 9, (-1), (-1), (-1), (-1), (-1), (-1), (-1), (-1), 0, 0, 0, 0, 0, 0, 0, 0, 0]) :: r_M_init_10) 10 4740
  refine cw_put (pc := 99) (ci := 12) (k := 27) (N := 44) (t := 2) (C := RX12) (T := TX12) (tys := tyX12) (v := 10) (ty := .array .long) rfl (by decide) inX12 tyX12_ok nmX12 (by decide) rfl rfl rfl w7_54 (Or.inr ⟨rfl, rfl, rfl⟩) d_M_init_99 rfl rfl rfl rfl rfl ?_
  show CW G 1 K_M_init a 17 6628 (QMi G a) (fun _ => True) 102 [(0, .ref a)] [] ((12, 0, [0, 0, 0, 1, 1, 2, 3, 4, 0, 0, (-1), (-1), 0, 0, 0, 0, 0, 0, 0, 0, 5, 6, 7, 0, 0, 8, 9, 10, (-1), (-1), (-1), (-1), (-1), (-1), (-1), 0, 0, 0, 0, 0, 0, 0, 0, 0]) :: r_M_init_10) 10 4740
  refine cw_aload_n (pc := 102) d_M_init_102 rfl 0 rfl ?_
  refine cw_bipush (pc := 103) (x := 8) d_M_init_103 (by decide) ?_
  refine cw_newl (pc := 105) (N := 8) w1_137 (by decide) (by decide) (by decide) d_M_init_105 (by decide +kernel) (by decide) (by decide) ?_
  show CW G 1 K_M_init a 17 6628 (QMi G a) (fun _ => True) 107 [(0, .ref a)] [.ref (a + 11), .ref a] ((12, 0, [0, 0, 0, 1, 1, 2, 3, 4, 0, 0, (-1), (-1), 0, 0, 0, 0, 0, 0, 0, 0, 5, 6, 7, 0, 0, 8, 9, 10, (-1), (-1), (-1), (-1), (-1), (-1), (-1), 0, 0, 0, 0, 0, 0, 0, 0, 0]) :: r_M_init_11) 11 4748
  refine cw_put (pc := 107) (ci := 12) (k := 28) (N := 44) (t := 2) (C := RX12) (T := TX12) (tys := tyX12) (v := 11) (ty := .array .long) rfl (by decide) inX12 tyX12_ok nmX12 (by decide) rfl rfl rfl w7_55 (Or.inr ⟨rfl, rfl, rfl⟩) d_M_init_107 rfl rfl rfl rfl rfl ?_
  show CW G 1 K_M_init a 17 6628 (QMi G a) (fun _ => True) 110 [(0, .ref a)] [] ((12, 0, [0, 0, 0, 1, 1, 2, 3, 4, 0, 0, (-1), (-1), 0, 0, 0, 0, 0, 0, 0, 0, 5, 6, 7, 0, 0, 8, 9, 10, 11, (-1), (-1), (-1), (-1), (-1), (-1), 0, 0, 0, 0, 0, 0, 0, 0, 0]) :: r_M_init_11) 11 4748
  refine cw_aload_n (pc := 110) d_M_init_110 rfl 0 rfl ?_
  refine cw_bipush (pc := 111) (x := 64) d_M_init_111 (by decide) ?_
  refine cw_newi (pc := 113) (N := 64) w1_151 (by decide) (by decide) (by decide) d_M_init_113 (by decide +kernel) (by decide) (by decide) ?_
  show CW G 1 K_M_init a 17 6628 (QMi G a) (fun _ => True) 115 [(0, .ref a)] [.ref (a + 12), .ref a] ((12, 0, [0, 0, 0, 1, 1, 2, 3, 4, 0, 0, (-1), (-1), 0, 0, 0, 0, 0, 0, 0, 0, 5, 6, 7, 0, 0, 8, 9, 10, 11, (-1), (-1), (-1), (-1), (-1), (-1), 0, 0, 0, 0, 0, 0, 0, 0, 0]) :: r_M_init_12) 12 4812
  refine cw_put (pc := 115) (ci := 12) (k := 29) (N := 44) (t := 2) (C := RX12) (T := TX12) (tys := tyX12) (v := 12) (ty := .array .int) rfl (by decide) inX12 tyX12_ok nmX12 (by decide) rfl rfl rfl w7_56 (Or.inr ⟨rfl, rfl, rfl⟩) d_M_init_115 rfl rfl rfl rfl rfl ?_
  show CW G 1 K_M_init a 17 6628 (QMi G a) (fun _ => True) 118 [(0, .ref a)] [] ((12, 0, [0, 0, 0, 1, 1, 2, 3, 4, 0, 0, (-1), (-1), 0, 0, 0, 0, 0, 0, 0, 0, 5, 6, 7, 0, 0, 8, 9, 10, 11, 12, (-1), (-1), (-1), (-1), (-1), 0, 0, 0, 0, 0, 0, 0, 0, 0]) :: r_M_init_12) 12 4812
  refine cw_aload_n (pc := 118) d_M_init_118 rfl 0 rfl ?_
  refine cw_bipush (pc := 119) (x := 7) d_M_init_119 (by decide) ?_
  refine cw_newi (pc := 121) (N := 7) w1_151 (by decide) (by decide) (by decide) d_M_init_121 (by decide +kernel) (by decide) (by decide) ?_
  show CW G 1 K_M_init a 17 6628 (QMi G a) (fun _ => True) 123 [(0, .ref a)] [.ref (a + 13), .ref a] ((12, 0, [0, 0, 0, 1, 1, 2, 3, 4, 0, 0, (-1), (-1), 0, 0, 0, 0, 0, 0, 0, 0, 5, 6, 7, 0, 0, 8, 9, 10, 11, 12, (-1), (-1), (-1), (-1), (-1), 0, 0, 0, 0, 0, 0, 0, 0, 0]) :: r_M_init_13) 13 4819
  refine cw_put (pc := 123) (ci := 12) (k := 30) (N := 44) (t := 2) (C := RX12) (T := TX12) (tys := tyX12) (v := 13) (ty := .array .int) rfl (by decide) inX12 tyX12_ok nmX12 (by decide) rfl rfl rfl w7_57 (Or.inr ⟨rfl, rfl, rfl⟩) d_M_init_123 rfl rfl rfl rfl rfl ?_
  show CW G 1 K_M_init a 17 6628 (QMi G a) (fun _ => True) 126 [(0, .ref a)] [] ((12, 0, [0, 0, 0, 1, 1, 2, 3, 4, 0, 0, (-1), (-1), 0, 0, 0, 0, 0, 0, 0, 0, 5, 6, 7, 0, 0, 8, 9, 10, 11, 12, 13, (-1), (-1), (-1), (-1), 0, 0, 0, 0, 0, 0, 0, 0, 0]) :: r_M_init_13) 13 4819
  refine cw_aload_n (pc := 126) d_M_init_126 rfl 0 rfl ?_
  refine cw_bipush (pc := 127) (x := 6) d_M_init_127 (by decide) ?_
  refine cw_newi (pc := 129) (N := 6) w1_151 (by decide) (by decide) (by decide) d_M_init_129 (by decide +kernel) (by decide) (by decide) ?_
  show CW G 1 K_M_init a 17 6628 (QMi G a) (fun _ => True) 131 [(0, .ref a)] [.ref (a + 14), .ref a] ((12, 0, [0, 0, 0, 1, 1, 2, 3, 4, 0, 0, (-1), (-1), 0, 0, 0, 0, 0, 0, 0, 0, 5, 6, 7, 0, 0, 8, 9, 10, 11, 12, 13, (-1), (-1), (-1), (-1), 0, 0, 0, 0, 0, 0, 0, 0, 0]) :: r_M_init_14) 14 4825
  refine cw_put (pc := 131) (ci := 12) (k := 31) (N := 44) (t := 2) (C := RX12) (T := TX12) (tys := tyX12) (v := 14) (ty := .array .int) rfl (by decide) inX12 tyX12_ok nmX12 (by decide) rfl rfl rfl w7_58 (Or.inr ⟨rfl, rfl, rfl⟩) d_M_init_131 rfl rfl rfl rfl rfl ?_
  show CW G 1 K_M_init a 17 6628 (QMi G a) (fun _ => True) 134 [(0, .ref a)] [] ((12, 0, [0, 0, 0, 1, 1, 2, 3, 4, 0, 0, (-1), (-1), 0, 0, 0, 0, 0, 0, 0, 0, 5, 6, 7, 0, 0, 8, 9, 10, 11, 12, 13, 14, (-1), (-1), (-1), 0, 0, 0, 0, 0, 0, 0, 0, 0]) :: r_M_init_14) 14 4825
  refine cw_aload_n (pc := 134) d_M_init_134 rfl 0 rfl ?_
  refine cw_bipush (pc := 135) (x := 6) d_M_init_135 (by decide) ?_
  refine cw_newi (pc := 137) (N := 6) w1_151 (by decide) (by decide) (by decide) d_M_init_137 (by decide +kernel) (by decide) (by decide) ?_
  show CW G 1 K_M_init a 17 6628 (QMi G a) (fun _ => True) 139 [(0, .ref a)] [.ref (a + 15), .ref a] ((12, 0, [0, 0, 0, 1, 1, 2, 3, 4, 0, 0, (-1), (-1), 0, 0, 0, 0, 0, 0, 0, 0, 5, 6, 7, 0, 0, 8, 9, 10, 11, 12, 13, 14, (-1), (-1), (-1), 0, 0, 0, 0, 0, 0, 0, 0, 0]) :: r_M_init_15) 15 4831
  refine cw_put (pc := 139) (ci := 12) (k := 32) (N := 44) (t := 2) (C := RX12) (T := TX12) (tys := tyX12) (v := 15) (ty := .array .int) rfl (by decide) inX12 tyX12_ok nmX12 (by decide) rfl rfl rfl w7_59 (Or.inr ⟨rfl, rfl, rfl⟩) d_M_init_139 rfl rfl rfl rfl rfl ?_
  show CW G 1 K_M_init a 17 6628 (QMi G a) (fun _ => True) 142 [(0, .ref a)] [] ((12, 0, [0, 0, 0, 1, 1, 2, 3, 4, 0, 0, (-1), (-1), 0, 0, 0, 0, 0, 0, 0, 0, 5, 6, 7, 0, 0, 8, 9, 10, 11, 12, 13, 14, 15, (-1), (-1), 0, 0, 0, 0, 0, 0, 0, 0, 0]) :: r_M_init_15) 15 4831
  refine cw_aload_n (pc := 142) d_M_init_142 rfl 0 rfl ?_
  refine cw_sipush (pc := 143) (x := 1792) d_M_init_143 (by decide) ?_
  refine cw_newi (pc := 146) (N := 1792) w1_151 (by decide) (by decide) (by decide) d_M_init_146 (by decide +kernel) (by decide) (by decide) ?_
  show CW G 1 K_M_init a 17 6628 (QMi G a) (fun _ => True) 148 [(0, .ref a)] [.ref (a + 16), .ref a] ((12, 0, [0, 0, 0, 1, 1, 2, 3, 4, 0, 0, (-1), (-1), 0, 0, 0, 0, 0, 0, 0, 0, 5, 6, 7, 0, 0, 8, 9, 10, 11, 12, 13, 14, 15, (-1), (-1), 0, 0, 0, 0, 0, 0, 0, 0, 0]) :: r_M_init_16) 16 6623
  refine cw_put (pc := 148) (ci := 12) (k := 33) (N := 44) (t := 2) (C := RX12) (T := TX12) (tys := tyX12) (v := 16) (ty := .array .int) rfl (by decide) inX12 tyX12_ok nmX12 (by decide) rfl rfl rfl w7_60 (Or.inr ⟨rfl, rfl, rfl⟩) d_M_init_148 rfl rfl rfl rfl rfl ?_
  show CW G 1 K_M_init a 17 6628 (QMi G a) (fun _ => True) 151 [(0, .ref a)] [] ((12, 0, [0, 0, 0, 1, 1, 2, 3, 4, 0, 0, (-1), (-1), 0, 0, 0, 0, 0, 0, 0, 0, 5, 6, 7, 0, 0, 8, 9, 10, 11, 12, 13, 14, 15, 16, (-1), 0, 0, 0, 0, 0, 0, 0, 0, 0]) :: r_M_init_16) 16 6623
  refine cw_aload_n (pc := 151) d_M_init_151 rfl 0 rfl ?_
  refine cw_iconst (pc := 152) (x := 5) d_M_init_152 (by decide) ?_
  refine cw_newi (pc := 153) (N := 5) w1_151 (by decide) (by decide) (by decide) d_M_init_153 (by decide +kernel) (by decide) (by decide) ?_
  show CW G 1 K_M_init a 17 6628 (QMi G a) (fun _ => True) 155 [(0, .ref a)] [.ref (a + 17), .ref a] ((12, 0, [0, 0, 0, 1, 1, 2, 3, 4, 0, 0, (-1), (-1), 0, 0, 0, 0, 0, 0, 0, 0, 5, 6, 7, 0, 0, 8, 9, 10, 11, 12, 13, 14, 15, 16, (-1), 0, 0, 0, 0, 0, 0, 0, 0, 0]) :: r_M_init_17) 17 6628
  refine cw_put (pc := 155) (ci := 12) (k := 34) (N := 44) (t := 2) (C := RX12) (T := TX12) (tys := tyX12) (v := 17) (ty := .array .int) rfl (by decide) inX12 tyX12_ok nmX12 (by decide) rfl rfl rfl w7_61 (Or.inr ⟨rfl, rfl, rfl⟩) d_M_init_155 rfl rfl rfl rfl rfl ?_
  show CW G 1 K_M_init a 17 6628 (QMi G a) (fun _ => True) 158 [(0, .ref a)] [] ((12, 0, [0, 0, 0, 1, 1, 2, 3, 4, 0, 0, (-1), (-1), 0, 0, 0, 0, 0, 0, 0, 0, 5, 6, 7, 0, 0, 8, 9, 10, 11, 12, 13, 14, 15, 16, 17, 0, 0, 0, 0, 0, 0, 0, 0, 0]) :: r_M_init_17) 17 6628
  refine cw_iconst (pc := 158) (x := 0) d_M_init_158 (by decide) ?_
  refine cw_istore_n (pc := 159) (lv' := [(1, .int 0), (0, .ref a)]) d_M_init_159 rfl (by decide) rfl ?_
  refine cw_iload_n (pc := 160) d_M_init_160 rfl 0 rfl ?_
  refine cw_iconst (pc := 161) (x := 4) d_M_init_161 (by decide) ?_
  refine cw_ge_f (pc := 162) (tgt := 178) d_M_init_162 (by decide) (by decide) ?_
  refine cw_aload_n (pc := 165) d_M_init_165 rfl 1 rfl ?_
  refine cw_get (pc := 166) (ci := 12) (k := 5) (N := 44) (t := 2) (C := RX12) (T := TX12) (v := 2) (v0 := .ref (a + 2)) rfl (by decide) inX12 (by decide) rfl rfl w7_32 d_M_init_166 rfl rfl rfl ?_
  refine cw_iload_n (pc := 169) d_M_init_169 rfl 0 rfl ?_
  refine cw_iconst (pc := 170) (x := (-1)) d_M_init_170 (by decide) ?_
  refine cw_iast (pc := 171) (q0 := 2) (N := 4) (k := 0) (xi := (-1)) (vals := []) (vals1 := [(-1)]) (sp1 := (12, 0, [0, 0, 0, 1, 1, 2, 3, 4, 0, 0, (-1), (-1), 0, 0, 0, 0, 0, 0, 0, 0, 5, 6, 7, 0, 0, 8, 9, 10, 11, 12, 13, 14, 15, 16, 17, 0, 0, 0, 0, 0, 0, 0, 0, 0]) :: r_M_init_18) rfl (by decide) (by decide) (by decide) (by decide) (hv_1_0) d_M_init_171 rfl ?_
  show CW G 1 K_M_init a 17 6628 (QMi G a) (fun _ => True) 172 [(1, .int 0), (0, .ref a)] [] ((12, 0, [0, 0, 0, 1, 1, 2, 3, 4, 0, 0, (-1), (-1), 0, 0, 0, 0, 0, 0, 0, 0, 5, 6, 7, 0, 0, 8, 9, 10, 11, 12, 13, 14, 15, 16, 17, 0, 0, 0, 0, 0, 0, 0, 0, 0]) :: r_M_init_18) 17 6628
  refine cw_iinc (pc := 172) (x := 0) (v := 1) (lv' := [(1, .int 1), (0, .ref a)]) (q := 0) d_M_init_172 rfl (by decide) (by decide) rfl ?_
  refine cw_goto (pc := 175) (tgt := 160) d_M_init_175 (by decide) ?_
  refine cw_iload_n (pc := 160) d_M_init_160 rfl 0 rfl ?_
  refine cw_iconst (pc := 161) (x := 4) d_M_init_161 (by decide) ?_
  refine cw_ge_f (pc := 162) (tgt := 178) d_M_init_162 (by decide) (by decide) ?_
  refine cw_aload_n (pc := 165) d_M_init_165 rfl 1 rfl ?_
  refine cw_get (pc := 166) (ci := 12) (k := 5) (N := 44) (t := 2) (C := RX12) (T := TX12) (v := 2) (v0 := .ref (a + 2)) rfl (by decide) inX12 (by decide) rfl rfl w7_32 d_M_init_166 rfl rfl rfl ?_
  refine cw_iload_n (pc := 169) d_M_init_169 rfl 0 rfl ?_
  refine cw_iconst (pc := 170) (x := (-1)) d_M_init_170 (by decide) ?_
  refine cw_iast (pc := 171) (q0 := 2) (N := 4) (k := 1) (xi := (-1)) (vals := [(-1)]) (vals1 := [(-1), (-1)]) (sp1 := (12, 0, [0, 0, 0, 1, 1, 2, 3, 4, 0, 0, (-1), (-1), 0, 0, 0, 0, 0, 0, 0, 0, 5, 6, 7, 0, 0, 8, 9, 10, 11, 12, 13, 14, 15, 16, 17, 0, 0, 0, 0, 0, 0, 0, 0, 0]) :: r_M_init_19) rfl (by decide) (by decide) (by decide) (by decide) (hv_2_1) d_M_init_171 rfl ?_
  show CW G 1 K_M_init a 17 6628 (QMi G a) (fun _ => True) 172 [(1, .int 1), (0, .ref a)] [] ((12, 0, [0, 0, 0, 1, 1, 2, 3, 4, 0, 0, (-1), (-1), 0, 0, 0, 0, 0, 0, 0, 0, 5, 6, 7, 0, 0, 8, 9, 10, 11, 12, 13, 14, 15, 16, 17, 0, 0, 0, 0, 0, 0, 0, 0, 0]) :: r_M_init_19) 17 6628
  refine cw_iinc (pc := 172) (x := 1) (v := 2) (lv' := [(1, .int 2), (0, .ref a)]) (q := 0) d_M_init_172 rfl (by decide) (by decide) rfl ?_
  refine cw_goto (pc := 175) (tgt := 160) d_M_init_175 (by decide) ?_
  refine cw_iload_n (pc := 160) d_M_init_160 rfl 0 rfl ?_
  refine cw_iconst (pc := 161) (x := 4) d_M_init_161 (by decide) ?_
  refine cw_ge_f (pc := 162) (tgt := 178) d_M_init_162 (by decide) (by decide) ?_
  refine cw_aload_n (pc := 165) d_M_init_165 rfl 1 rfl ?_
  refine cw_get (pc := 166) (ci := 12) (k := 5) (N := 44) (t := 2) (C := RX12) (T := TX12) (v := 2) (v0 := .ref (a + 2)) rfl (by decide) inX12 (by decide) rfl rfl w7_32 d_M_init_166 rfl rfl rfl ?_
  refine cw_iload_n (pc := 169) d_M_init_169 rfl 0 rfl ?_
  refine cw_iconst (pc := 170) (x := (-1)) d_M_init_170 (by decide) ?_
  refine cw_iast (pc := 171) (q0 := 2) (N := 4) (k := 2) (xi := (-1)) (vals := [(-1), (-1)]) (vals1 := [(-1), (-1), (-1)]) (sp1 := (12, 0, [0, 0, 0, 1, 1, 2, 3, 4, 0, 0, (-1), (-1), 0, 0, 0, 0, 0, 0, 0, 0, 5, 6, 7, 0, 0, 8, 9, 10, 11, 12, 13, 14, 15, 16, 17, 0, 0, 0, 0, 0, 0, 0, 0, 0]) :: r_M_init_20) rfl (by decide) (by decide) (by decide) (by decide) (hv_3_2) d_M_init_171 rfl ?_
  show CW G 1 K_M_init a 17 6628 (QMi G a) (fun _ => True) 172 [(1, .int 2), (0, .ref a)] [] ((12, 0, [0, 0, 0, 1, 1, 2, 3, 4, 0, 0, (-1), (-1), 0, 0, 0, 0, 0, 0, 0, 0, 5, 6, 7, 0, 0, 8, 9, 10, 11, 12, 13, 14, 15, 16, 17, 0, 0, 0, 0, 0, 0, 0, 0, 0]) :: r_M_init_20) 17 6628
  refine cw_iinc (pc := 172) (x := 2) (v := 3) (lv' := [(1, .int 3), (0, .ref a)]) (q := 0) d_M_init_172 rfl (by decide) (by decide) rfl ?_
  refine cw_goto (pc := 175) (tgt := 160) d_M_init_175 (by decide) ?_
  refine cw_iload_n (pc := 160) d_M_init_160 rfl 0 rfl ?_
  refine cw_iconst (pc := 161) (x := 4) d_M_init_161 (by decide) ?_
  refine cw_ge_f (pc := 162) (tgt := 178) d_M_init_162 (by decide) (by decide) ?_
  refine cw_aload_n (pc := 165) d_M_init_165 rfl 1 rfl ?_
  refine cw_get (pc := 166) (ci := 12) (k := 5) (N := 44) (t := 2) (C := RX12) (T := TX12) (v := 2) (v0 := .ref (a + 2)) rfl (by decide) inX12 (by decide) rfl rfl w7_32 d_M_init_166 rfl rfl rfl ?_
  refine cw_iload_n (pc := 169) d_M_init_169 rfl 0 rfl ?_
  refine cw_iconst (pc := 170) (x := (-1)) d_M_init_170 (by decide) ?_
  refine cw_iast (pc := 171) (q0 := 2) (N := 4) (k := 3) (xi := (-1)) (vals := [(-1), (-1), (-1)]) (vals1 := [(-1), (-1), (-1), (-1)]) (sp1 := (12, 0, [0, 0, 0, 1, 1, 2, 3, 4, 0, 0, (-1), (-1), 0, 0, 0, 0, 0, 0, 0, 0, 5, 6, 7, 0, 0, 8, 9, 10, 11, 12, 13, 14, 15, 16, 17, 0, 0, 0, 0, 0, 0, 0, 0, 0]) :: r_M_init_21) rfl (by decide) (by decide) (by decide) (by decide) (hv_4_3) d_M_init_171 rfl ?_
  show CW G 1 K_M_init a 17 6628 (QMi G a) (fun _ => True) 172 [(1, .int 3), (0, .ref a)] [] ((12, 0, [0, 0, 0, 1, 1, 2, 3, 4, 0, 0, (-1), (-1), 0, 0, 0, 0, 0, 0, 0, 0, 5, 6, 7, 0, 0, 8, 9, 10, 11, 12, 13, 14, 15, 16, 17, 0, 0, 0, 0, 0, 0, 0, 0, 0]) :: r_M_init_21) 17 6628
  refine cw_iinc (pc := 172) (x := 3) (v := 4) (lv' := [(1, .int 4), (0, .ref a)]) (q := 0) d_M_init_172 rfl (by decide) (by decide) rfl ?_
  refine cw_goto (pc := 175) (tgt := 160) d_M_init_175 (by decide) ?_
  refine cw_iload_n (pc := 160) d_M_init_160 rfl 0 rfl ?_
  refine cw_iconst (pc := 161) (x := 4) d_M_init_161 (by decide) ?_
  refine cw_ge_t (pc := 162) (tgt := 178) d_M_init_162 (by decide) (by decide) ?_
  refine cw_lv [1] rfl ?_
  exact M_from G a
