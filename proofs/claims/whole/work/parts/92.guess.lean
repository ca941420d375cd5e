/-! ===== weeks lived: the class guesses, calls, tests ===== -/
section LC2
variable {Y : Ly} {x : Nat} {kw : Nat → Int64} {g : Sg} {wd sg th nm pt : Nat → Int32} {R : Nat} {Q : Nat × Nat × Nat × Nat × (Nat → Int32) × Int32} {h h' : Hp} {c : Nat → Int32} {r dn : Nat} {tl : Nat → Nat} {ρ : Nat → Int32}
/-- the next draw -/
def rnx (r : Nat) : Nat := (r * 2971 + 10687) % 65536
theorem rnx_lt (r : Nat) : rnx r < 65536 := Nat.mod_lt _ (by decide)
theorem rnx_s {r : Nat} (hr : r < 65536) : nI r * 2971 + 10687 - (nI r * 2971 + 10687) / 65536 * 65536 = nI (rnx r) := by
  have e : nI r * 2971 + 10687 = nI (r * 2971 + 10687) := by simp only [zlit, pk_mul, nI_add]
  rw [e, show (65536 : Int32) = nI 65536 from rfl, pk_rem (by omega) (by decide) (by decide)]
  rfl
theorem drw_s {r n : Nat} (hr : r < 65536) (h0 : 0 < n) (hn : n < 256) : nI r / 8 - nI r / 8 / nI n * nI n = nI (r / 8 % n) := by
  rw [show (8 : Int32) = nI 8 from rfl, pk_div (by omega) (by decide) (by decide), pk_rem (by omega) h0 (by omega)]
theorem pcn_0 : ∀ k, pcn 0 k = 0
  | 0 => rfl
  | k + 1 => by simp [pcn, pcn_0 k]
theorem pcnt_pos : ∀ a : Fin 256, a.val ≠ 0 → 0 < pcnt a.val := by decide +kernel
/-- the guess: which finale -/
def gsN (c : Nat → Int32) (b r : Nat) : Nat := nth (frS c b (cN c 2)) (rnx r / 8 % pcnt (frS c b (cN c 2)))
theorem gsN_ok {b : Nat} (Vb : VB c) (h0 : frS c b (cN c 2) ≠ 0) : rnx r / 8 % pcnt (frS c b (cN c 2)) < pcnt (frS c b (cN c 2)) ∧ gsN c b r < cN c 3 := by
  have fl := frS_lt Vb b (cN c 2)
  have pp := pcnt_pos ⟨_, fl⟩ h0
  have l := Nat.mod_lt (rnx r / 8) pp
  refine ⟨l, ?_⟩
  obtain ⟨_, _, q1, q2, _⟩ := clr_s fl l
  have : (frS c b (cN c 2)).testBit (gsN c b r) = true := q2
  unfold frS at this
  rw [Nat.testBit_and, Bool.and_eq_true, fitS, mk_bit, Bool.and_eq_true, decide_eq_true_eq] at this
  exact this.1.1
theorem C_g64 (A : LC Y x kw g wd sg th nm pt R Q h c r tl dn ρ) (V : VG (wC0 g c)) {b a n : Nat} (hb : b < cN c 2) (ha : a < 256) (hn : n < pcnt a) (hf : nth a n < cN c 3) :
    ∃ h', Li_guessOne_L64 Y (hGr h 1107 x) (hGr h 1109 x) (nI b) (nI n) h FU (nI a) 0 = some h' ∧ LC Y x kw g wd sg th nm pt R Q h' (upd c (100 + b) (nI (nth a n))) r (bmp (bmp tl 1) 3) dn ρ := by
  have X := A.1.ct0 V
  have Vb := X.2.2.2.2
  have l2 := VC_l2 Vb
  have l3 := VC_l3 Vb
  have o2 := A.o2
  have o4 := A.o4
  have pl := pcnt_le a
  have i1 : inB 1 5 = true := by decide
  have i3 : inB 3 5 = true := by decide
  refine upl (Q := fun q => ∃ h', q = some h' ∧ LC Y x kw g wd sg th nm pt R Q h' (upd c (100 + b) (nI (nth a n))) r (bmp (bmp tl 1) 3) dn ρ) (fun F i (_ : Unit) => Li_guessOne_L64 Y (hGr h 1107 x) (hGr h 1109 x) (nI b) (nI n) h F (nI (clr a i)) (nI i)) n (fun _ _ => True) ?_ ?_ n 0 () FU (by omega) (by unfold FU; omega) trivial
  · intro F i _ hi _
    right
    refine ⟨(), ?_, trivial⟩
    obtain ⟨q0, q1, _⟩ := clr_s ha (show i < pcnt a by omega)
    show Li_guessOne_L64 Y (hGr h 1107 x) (hGr h 1109 x) (nI b) (nI n) h (F + 1) (nI (clr a i)) (nI i) = Li_guessOne_L64 Y (hGr h 1107 x) (hGr h 1109 x) (nI b) (nI n) h F (nI (clr a (i + 1))) (nI (i + 1))
    rw [Li_guessOne_L64, if_neg (nI_ge hi (by omega)), show (1 : Int32) = nI 1 from rfl, pk_sub (by omega), zand, nI_add]
    rfl
  · intro F _ _
    obtain ⟨q0, q1, _⟩ := clr_s ha hn
    show ∃ h', Li_guessOne_L64 Y (hGr h 1107 x) (hGr h 1109 x) (nI b) (nI n) h (F + 1) (nI (clr a n)) (nI n) = some h' ∧ _
    rw [Li_guessOne_L64, if_pos (nI_le (Nat.le_refl _) (by omega)), J_ntz_s q1 q0, bind_s, cl410 A.1.1 o4, if_pos (inB_nI (by omega) (by omega)), letH_e, nI_clamp (by omega), gr_ti, cl200 A.1.1 o2, if_pos i1, if_pos i1, letH_e, gr_ti, gr_ti, cl200 A.1.1 o2, if_pos i3, if_pos i3, letH_e]
    have A1 := LC_bd A V (w := nI (nth a n)) hb
    have V1 := VG_bd (w := nI (nth a n)) V hb (Or.inr ⟨_, hf, rfl⟩)
    have A2 := LC_bmp A1 V1 (i := 1)
    have A3 := LC_bmp A2 V1 (i := 3)
    refine ⟨_, rfl, ?_⟩
    have e1 := A1.2.2.2.2.1 1 (by decide)
    have e3 := A2.2.2.2.2.1 3 (by decide)
    rw [show Int32.toNatClampNeg 1 = 1 from rfl, show Int32.toNatClampNeg 3 = 3 from rfl]
    simp only [gr_ti] at A3 e1 e3
    rw [show nI (lsb (clr a n) 8 0) = nI (nth a n) from rfl, e1, nI_1, e3, nI_1]
    exact A3
theorem C_guessOne (A : LC Y x kw g wd sg th nm pt R Q h c r tl dn ρ) (V : VG (wC0 g c)) (hr : r < 65536) {b : Nat} (hb : b < cN c 2) (ef : hAi h (hGr h 202 (hGr h 1107 x)) b = nI (fitS c (cN c 9) b)) :
    ∃ h', Li_guessOne Y (hGr h 1107 x) (hGr h 1109 x) (nI b) h = some h' ∧ (if c (100 + b) = m1 ∧ frS c b (cN c 2) ≠ 0 then LC Y x kw g wd sg th nm pt R Q h' (upd c (100 + b) (nI (gsN c b r))) (rnx r) (bmp (bmp tl 1) 3) dn ρ else LC Y x kw g wd sg th nm pt R Q h' c r (bmp tl 0) dn ρ) := by
  have X := A.1.ct0 V
  have Vb := X.2.2.2.2
  have l2 := VC_l2 Vb
  have o2 := A.o2
  have o4 := A.o4
  have fl := frS_lt Vb b (cN c 2)
  have i0 : inB 0 5 = true := by decide
  have none : ∀ h0 : Hp, h0 = h → ∃ h', Li_guessOne_J35 Y (hGr h0 1107 x) (hGr h0 1109 x) (nI b) 0 h0 = some h' ∧ LC Y x kw g wd sg th nm pt R Q h' c r (bmp tl 0) dn ρ := by
    intro h0 e
    subst e
    unfold Li_guessOne_J35
    rw [if_pos rfl, cl200 A.1.1 o2, if_pos i0, if_pos i0, letH_e]
    have A2 := LC_bmp A V (i := 0)
    refine ⟨_, rfl, ?_⟩
    have e0 := A.2.2.2.2.1 0 (by decide)
    rw [show Int32.toNatClampNeg 0 = 0 from rfl, e0, nI_1]
    exact A2
  unfold Li_guessOne
  rw [Sh_hasBook_s X.2.2.2.1 Vb, bind_s, isAt_nI hb (by omega), if_pos rfl, cl410 A.1.1 o4, if_pos (inB_nI (by omega) (by omega)), nI_clamp (by omega), (X.2.2.2.1.2.2.1 b hb).2.2.2.1]
  by_cases z : c (100 + b) = m1
  · rw [if_pos (show c (100 + b) = -1 from z), cl202 A.1.1 o2, if_pos (inB_nI (by omega) (by omega)), Sh_boundFinales_s X, bind_s, ef, zcom, show fitS c (cN c 9) b &&& (bfS c (cN c 2) ^^^ 4294967295) = frS c b (cN c 2) from rfl]
    by_cases z2 : frS c b (cN c 2) = 0
    · rw [z2]
      obtain ⟨h', e1, e2⟩ := none h rfl
      refine ⟨h', e1, ?_⟩
      rw [if_neg (fun w => w.2 rfl)]
      exact e2
    · obtain ⟨k1, k2⟩ := gsN_ok (r := r) Vb z2
      have pp := pcnt_pos ⟨_, fl⟩ z2
      have pl := pcnt_le (frS c b (cN c 2))
      unfold Li_guessOne_J35 Li_drawBy
      rw [if_neg (show ¬ nI (frS c b (cN c 2)) = 0 from by intro w; have w' : nI (frS c b (cN c 2)) = nI 0 := w; rw [nI_eq (by omega) (by omega)] at w'; exact z2 w'), J_bitCount_s fl, bind_s, A.2.2.1, rnx_s hr, letH_e, gi_si, if_pos (show 206 = 206 ∧ hGr h 1107 x = hGr h 1107 x from ⟨rfl, rfl⟩)]
      have pp' : 0 < pcnt (frS c b (cN c 2)) := pp
      rw [if_neg (show ¬ nI (pcnt (frS c b (cN c 2))) ≤ 0 from fun w => nI_ge (a := 0) (b := pcnt (frS c b (cN c 2))) pp' (by omega) w), if_neg (show ¬ nI (pcnt (frS c b (cN c 2))) = 0 from by intro w; have w' : nI (pcnt (frS c b (cN c 2))) = nI 0 := w; rw [nI_eq (by omega) (by omega)] at w'; omega), drw_s (rnx_lt r) pp' (by omega), bind_s]
      have A1 := LC_rn A V (d := rnx r)
      obtain ⟨h', e1, e2⟩ := C_g64 A1 V (b := b) hb fl k1 k2
      refine ⟨h', e1, ?_⟩
      rw [if_pos ⟨z, z2⟩]
      exact e2
  · rw [if_neg (show ¬ c (100 + b) = -1 from z)]
    obtain ⟨h', e1, e2⟩ := none h rfl
    refine ⟨h', e1, ?_⟩
    rw [if_neg (fun w => z w.1)]
    exact e2
theorem VG_li {v : Nat} (V : VG (wC0 g c)) (hv : v < 2 ^ cN c 4) : VG (wC0 g (upd c 9 (nI v))) := by
  have Vb : VB c := by have := (V.2.1 0 (Nat.zero_le _)).1; rwa [sC0] at this
  have l4 := VC_l4 Vb
  have p4 := pow_le6 l4
  have := VG_c0 (g := wC0 g c) (k0 := 9) (c' := upd c 9 (nI v)) V (by unfold mayK; omega) (fun i hi => by rw [sC0]; exact updh i hi) (VB_set (k0 := 9) (by unfold mayK; omega) updh Vb (fun e => by omega) (fun e => nB_us hv (by omega)) (fun t' ht' e => by omega) (fun s' t' h1 h2 e => by omega) (fun b hb e => by omega))
  rwa [wC0_wC0] at this
/-- a reader called -/
theorem C_call (A : LC Y x kw g wd sg th nm pt R Q h c r tl dn ρ) (V : VG (wC0 g c)) {k : Nat} (hk : k < cN c 4) :
    ∃ h', (J_fillI Y (hGr (hSi h 417 (hGr h 1109 x) (nI (cN c 9 ^^^ 2 ^ k))) 202 (hGr h 1107 x)) (-1) (hSi h 417 (hGr h 1109 x) (nI (cN c 9 ^^^ 2 ^ k)))) = some h' ∧ LC Y x kw g wd sg th nm pt R Q h' (upd c 9 (nI (cN c 9 ^^^ 2 ^ k))) r tl dn ρ := by
  have X := A.1.ct0 V
  have Vb := X.2.2.2.2
  have l4 := VC_l4 Vb
  have l2 := VC_l2 Vb
  have o2 := A.o2
  have l9 := Vb.2.1.2.2
  have hv : cN c 9 ^^^ 2 ^ k < 2 ^ cN c 4 := Nat.xor_lt_two_pow l9 (Nat.pow_lt_pow_right (by decide) hk)
  obtain ⟨rs, hk2⟩ := RS_fld (f0 := 417) (o0 := hGr h 1109 x) (k0 := 9) (c' := upd c 9 (nI (cN c 9 ^^^ 2 ^ k))) X updh (Or.inr ⟨rfl, rfl, rfl⟩)
  have C := CR_fld (g := wC0 g c) (k0 := 9) (c' := upd c 9 (nI (cN c 9 ^^^ 2 ^ k))) A.1 V hk2 (fun i hi => by rw [sC0]; exact updh i hi) (Or.inr ⟨rfl, rfl⟩) rs
  rw [wC0_wC0, pk_us] at C
  have V' := VG_li V hv
  obtain ⟨G, e1, e2⟩ := J_fillI_s (Y := Y) (h := hSi h 417 (hGr h 1109 x) (nI (cN c 9 ^^^ 2 ^ k))) (A := hGr (hSi h 417 (hGr h 1109 x) (nI (cN c 9 ^^^ 2 ^ k))) 202 (hGr h 1107 x)) (v := -1) (by rw [gr_si, cl202 A.1.1 o2]; decide)
  refine ⟨_, e1, ?_⟩
  rw [gr_si, cl202 A.1.1 o2] at e2
  have ne : ∀ f o, cArr f = true → isO Y (f / 100) o → f ≠ 202 → hAi (hWi (hSi h 417 (hGr h 1109 x) (nI (cN c 9 ^^^ 2 ^ k))) (hGr (hSi h 417 (hGr h 1109 x) (nI (cN c 9 ^^^ 2 ^ k))) 202 (hGr h 1107 x)) G) (hGr h f o) = hAi h (hGr h f o) := by
    intro f o h1 h2 h3
    funext j
    rw [ai_wi, if_neg]
    · rfl
    · intro z
      exact h3 (A.1.1.2.2.2.1 f 202 o _ h1 rfl h2 o2 z).1
  have o9 := A.o9
  have C2 := CR_Q C V' (Qf_wi (Y := Y) (n := 300) (f := 202) (o := hGr h 1107 x) (g := G) (by decide) rfl o2)
  refine ⟨C2, ⟨(ne 900 _ rfl o9 (by decide)).trans A.2.1.1, (ne 901 _ rfl o9 (by decide)).trans A.2.1.2.1, (ne 902 _ rfl o9 (by decide)).trans A.2.1.2.2.1, (ne 903 _ rfl o9 (by decide)).trans A.2.1.2.2.2.1, (ne 904 _ rfl o9 (by decide)).trans A.2.1.2.2.2.2.1, ?_⟩, ?_, ?_, fun i hi => ?_, (ne 201 _ rfl o2 (by decide)).trans A.2.2.2.2.2.1, fun b' hb' => ?_, QE_er (h := h) (fun _ _ _ => rfl) (ne 203 _ rfl o2 (by decide)) (by rw [gi_wi, gi_si, if_neg (by omega)]) A.2.2.2.2.2.2.2⟩
  · rw [gi_wi, gi_si, if_neg (by omega)]; exact A.2.1.2.2.2.2.2
  · rw [gi_wi, gi_si, if_neg (by omega)]; exact A.2.2.1
  · rw [gi_wi, gi_si, if_neg (by omega)]; exact A.2.2.2.1
  · exact (congrFun (ne 200 _ rfl o2 (by decide)) i).trans (A.2.2.2.2.1 i hi)
  · left
    have l2' : b' < cN c 2 := by
      have e : cN (upd c 9 (nI (cN c 9 ^^^ 2 ^ k))) 2 = cN c 2 := by unfold cN; rw [pk_un (by omega)]
      rwa [e] at hb'
    rw [gr_wi, gr_wi, gr_si, gr_si, gr_si, ai_wi, if_pos rfl]
    exact e2 b' (by omega)
theorem Li_compares_s {a b s : Int32} : Li_compares Y a s b h = some (if s = 60 then decide (a < b) else if s = 62 then decide (b < a) else decide (a = b)) := by
  unfold Li_compares
  by_cases e : s = 60
  · rw [if_pos e, if_pos e]
    by_cases q : b ≤ a
    · rw [if_pos q]
      have : ¬ a < b := by rw [Int32.lt_iff_toInt_lt]; rw [Int32.le_iff_toInt_le] at q; omega
      simp [this]
    · rw [if_neg q]
      have : a < b := by rw [Int32.lt_iff_toInt_lt]; rw [Int32.le_iff_toInt_le] at q; omega
      simp [this]
  · rw [if_neg e, if_neg e]
    by_cases e2 : s = 62
    · rw [if_pos e2, if_pos e2]
      by_cases q : a ≤ b
      · rw [if_pos q]
        have : ¬ b < a := by rw [Int32.lt_iff_toInt_lt]; rw [Int32.le_iff_toInt_le] at q; omega
        simp [this]
      · rw [if_neg q]
        have : b < a := by rw [Int32.lt_iff_toInt_lt]; rw [Int32.le_iff_toInt_le] at q; omega
        simp [this]
    · rw [if_neg e2, if_neg e2]
      by_cases q : a = b
      · rw [if_pos q]; simp [q]
      · rw [if_neg q]; simp [q]
/-- what a test asks -/
def tsV (c : Nat → Int32) (a : Nat) : Int32 := if c (312 + 9 * a) = nI 1 then nI (cN c 2) - nI (pcnt (bndS c)) else if c (100 + cN c (307 + 9 * a)) = m1 then nI 0 else nI (odf c (cN c (100 + cN c (307 + 9 * a))))
def tsB (c : Nat → Int32) (a : Nat) : Bool := if c (312 + 9 * a) = nI 0 then decide (c (100 + cN c (307 + 9 * a)) ≠ m1) else
  if c (313 + 9 * a) = 60 then decide (tsV c a < c (308 + 9 * a)) else if c (313 + 9 * a) = 62 then decide (c (308 + 9 * a) < tsV c a) else decide (tsV c a = c (308 + 9 * a))
theorem bndS_lt {c : Nat → Int32} (V : VB c) : bndS c < 256 := by
  have := mk_lt8 (fun b => decide (c (100 + b) ≠ m1)) (n := cN c 2) (by have := VC_l2 V; omega)
  exact this
theorem St_sumOdd_m (X : CX Y h x (hGr h 1109 x) c) : St_sumOdd Y (hGr h 400 (hGr h 1109 x)) m1 h = some (nI 0) := by
  have Vb := X.2.2.2.2
  unfold St_sumOdd
  refine upl (Q := fun q => q = some (nI 0)) (fun F i (_ : Unit) => St_sumOdd_L4 Y (hGr h 400 (hGr h 1109 x)) m1 h F (nI 0) (nI i)) 6 (fun _ _ => True) ?_ ?_ 6 0 () FU (by omega) (by unfold FU; omega) trivial
  · intro F i _ hi _
    right
    refine ⟨(), ?_, trivial⟩
    show St_sumOdd_L4 Y (hGr h 400 (hGr h 1109 x)) m1 h (F + 1) (nI 0) (nI i) = St_sumOdd_L4 Y (hGr h 400 (hGr h 1109 x)) m1 h F (nI 0) (nI (i + 1))
    rw [St_sumOdd_L4, if_neg (show ¬ (6 : Int32) ≤ nI i from nI_ge (b := 6) hi (by omega))]
    have e1 : St_turnInFinale Y (hGr h 400 (hGr h 1109 x)) m1 (nI i) h = some m1 := by
      unfold St_turnInFinale
      rw [St_hasFinale_s X.2.2.2.1 Vb, bind_s, show isAt m1 (cN c 3) = false from by unfold isAt; rw [show decide ((0 : Int32) ≤ m1) = false by decide]; rfl]
      rfl
    have e2 : St_oddOf Y (hGr h 400 (hGr h 1109 x)) m1 h = some 0 := by
      unfold St_oddOf
      rw [St_hasTurn_s X.2.2.2.1 Vb, bind_s, show isAt m1 (cN c 1) = false from by unfold isAt; rw [show decide ((0 : Int32) ≤ m1) = false by decide]; rfl]
      rfl
    rw [e1, bind_s, e2, bind_s, nI_1]
    rfl
  · intro F _ _
    show St_sumOdd_L4 Y (hGr h 400 (hGr h 1109 x)) m1 h (F + 1) (nI 0) (nI 6) = _
    rw [St_sumOdd_L4, if_pos (show (6 : Int32) ≤ nI 6 by decide)]
theorem C_holds (A : LC Y x kw g wd sg th nm pt R Q h c r tl dn ρ) (V : VG (wC0 g c)) {ro a : Nat} (hro : ro < 60) (B : blkOk wd sg th nm c ro a) (h4 : c (306 + 9 * a) = nI 4) :
    Li_holds Y (hGr h 1109 x) (hGr h 413 (hGr h 1109 x)) (nI ro) h = some (tsB c a) := by
  have X := A.1.ct0 V
  have Vb := X.2.2.2.2
  have l2 := VC_l2 Vb
  have o4 := A.o4
  have o9 := A.o9
  obtain ⟨w0, w1, w2, w3, w4, w5⟩ := A.2.1
  have pb := pcnt_le (bndS c)
  unfold Li_holds
  rw [cl902 A.1.1 o9, if_pos (inB_nI (by omega) (by omega)), nI_clamp (by omega), w2, Sh_hasBook_s X.2.2.2.1 Vb, bind_s]
  have J25 : ∀ v, Li_holds_J25 Y (hGr h 1109 x) (hGr h 413 (hGr h 1109 x)) (nI ro) v h = if wd ro = 26 then (if v = -1 then some false else some true) else if wd ro = 27 then some (if sg ro = 60 then decide (nI (cN c 2) - nI (pcnt (bndS c)) < nm ro) else if sg ro = 62 then decide (nm ro < nI (cN c 2) - nI (pcnt (bndS c))) else decide (nI (cN c 2) - nI (pcnt (bndS c)) = nm ro)) else
      (St_sumOdd Y (hGr h 400 (hGr h 1109 x)) v h).bind fun q20 => some (if sg ro = 60 then decide (q20 < nm ro) else if sg ro = 62 then decide (nm ro < q20) else decide (q20 = nm ro)) := by
    intro v
    unfold Li_holds_J25
    rw [cl900 A.1.1 o9, if_pos (inB_nI (by omega) (by omega)), nI_clamp (by omega), w0, cl901 A.1.1 o9, cl903 A.1.1 o9, w1, w3]
    rw [Sh_finished_s X, bind_s, J_bitCount_s (bndS_lt Vb), bind_s, X.2.2.2.1.1.2.2.1, VC_e2 Vb, Li_compares_s, bind_s]
    simp only [if_pos (show inB (nI ro) 60 = true from inB_nI (by omega) (by omega)), Li_compares_s, bind_s]
  unfold blkOk at B
  rcases B with ⟨b0, _⟩ | ⟨_, b1, b2, b3, b4⟩ | ⟨_, b1, b2, b3, b4, b5, b6⟩ | ⟨_, b1, b2, b3, b4, b5, b6, b7, b8⟩
  · rw [h4, nI_eq (by omega) (by omega)] at b0
    omega
  · have bl := b4.2
    have kb := (Vb.2.2.2.2.1 _ bl).2.2.2.1
    rw [b3, b4.1, isAt_nI bl (by omega), if_pos rfl, cl410 A.1.1 o4, if_pos (inB_nI (by omega) (by omega)), nI_clamp (by omega), (X.2.2.2.1.2.2.1 _ bl).2.2.2.1, J25, b2, if_pos (show nI 26 = 26 from rfl)]
    unfold tsB
    rw [if_pos b1]
    by_cases z : c (100 + cN c (307 + 9 * a)) = m1
    · rw [if_pos (show c (100 + cN c (307 + 9 * a)) = -1 from z)]; simp [z]
    · rw [if_neg (show ¬ c (100 + cN c (307 + 9 * a)) = -1 from z)]; simp [z]
  · have fin : ∀ v, Li_holds_J25 Y (hGr h 1109 x) (hGr h 413 (hGr h 1109 x)) (nI ro) v h = some (tsB c a) := by
      intro v
      rw [J25, b2, if_neg (show ¬ nI 27 = 26 by decide), if_pos (show nI 27 = 27 from rfl), b3, b4]
      unfold tsB tsV
      rw [if_neg (show ¬ c (312 + 9 * a) = nI 0 by rw [b1]; decide), if_pos b1]
    by_cases q : isAt (th ro) (cN c 2) = true
    · obtain ⟨j, hj, e⟩ := isAt_ex (by omega) q
      rw [if_pos q, e, cl410 A.1.1 o4, if_pos (inB_nI (by omega) (by omega)), fin]
    · rw [if_neg q, fin]
  · have bl := b6.2
    have kb := (Vb.2.2.2.2.1 _ bl).2.2.2.1
    rw [b3, b6.1, isAt_nI bl (by omega), if_pos rfl, cl410 A.1.1 o4, if_pos (inB_nI (by omega) (by omega)), nI_clamp (by omega), (X.2.2.2.1.2.2.1 _ bl).2.2.2.1, J25, b2, if_neg (show ¬ nI 3 = 26 by decide), if_neg (show ¬ nI 3 = 27 by decide), b4, b5]
    unfold tsB tsV
    rw [if_neg (show ¬ c (312 + 9 * a) = nI 0 by rw [b1]; decide), if_neg (show ¬ c (312 + 9 * a) = nI 1 by rw [b1]; decide)]
    rcases kb with z | z
    · rw [z, St_sumOdd_m X, bind_s, if_pos rfl]
    · have nmm : ¬ c (100 + cN c (307 + 9 * a)) = m1 := by rw [z.1, ne_m1 (by have := VC_l3 Vb; have := z.2; omega)]; exact fun w => w
      rw [z.1, St_sumOdd_s X z.2, bind_s, ← z.1, if_neg nmm]
end LC2
