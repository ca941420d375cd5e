/-! ===== weeks lived: the reference, step by step ===== -/
def LM (Y : Ly) (m : Nat) (g : Sg) (bf : Nat → Int32) (h : Hp) (c : Nat → Int32) (r : Nat) (tl : Nat → Nat) (dn : Nat) (ov : Int32) : Prop :=
  MR Y h m (wC0 g c) ∧ hGi h 1237 m = nI r ∧ hGi h 1238 m = nI dn ∧ (∀ i, i < 5 → hGi h (1239 + i) m = nI (tl i)) ∧ hGi h 1236 m = ov ∧ hAi h (hGr h 1221 m) = bf
theorem bmp_13 (tl : Nat → Nat) : bmp (bmp tl 3) 1 = bmp (bmp tl 1) 3 := by
  funext j
  unfold bmp
  by_cases e1 : j = 1
  · subst e1; simp
  · by_cases e3 : j = 3
    · subst e3; simp
    · simp [e1, e3]
theorem upd_self {c : Nat → Int32} {k : Nat} {v : Int32} (e : c k = v) : upd c k v = c := by
  funext j
  by_cases z : j = k
  · rw [z, pk_us, e]
  · rw [pk_un z]
section LMs
variable {Y : Ly} {m : Nat} {g : Sg} {h : Hp} {c : Nat → Int32} {r dn : Nat} {tl : Nat → Nat} {ov : Int32} {bf : Nat → Int32}
theorem LM.mx (A : LM Y m g bf h c r tl dn ov) (V : VG (wC0 g c)) : MX Y h m c := by
  have := A.1.mx V
  rwa [sC0] at this
theorem zk_l {f : Nat} (h1 : 1237 ≤ f) (h2 : f ≤ 1243) : zk f = false := by
  rcases (show f = 1237 ∨ f = 1238 ∨ f = 1239 ∨ f = 1240 ∨ f = 1241 ∨ f = 1242 ∨ f = 1243 by omega) with e | e | e | e | e | e | e <;> (subst e; rfl)
theorem LM_tal (A : LM Y m g bf h c r tl dn ov) {i v : Nat} (hi : i < 5) : LM Y m g bf (hSi h (1239 + i) m (nI v)) c r (fun j => if j = i then v else tl j) dn ov := by
  refine ⟨MR_fld A.1 (by omega) (by omega) (Or.inl (zk_l (by omega) (by omega))), ?_, ?_, fun j hj => ?_, ?_, A.2.2.2.2.2⟩
  · rw [gi_si, if_neg (by omega)]; exact A.2.1
  · rw [gi_si, if_neg (by omega)]; exact A.2.2.1
  · rw [gi_si]
    show _ = nI (if j = i then v else tl j)
    by_cases e : j = i
    · rw [if_pos ⟨by omega, rfl⟩, if_pos e]
    · rw [if_neg (by omega), if_neg e]; exact A.2.2.2.1 j hj
  · rw [gi_si, if_neg (by omega)]; exact A.2.2.2.2.1
theorem LM_bmp (A : LM Y m g bf h c r tl dn ov) {i : Nat} (hi : i < 5) : LM Y m g bf (hSi h (1239 + i) m (nI (tl i + 1))) c r (bmp tl i) dn ov := by
  have := LM_tal A (v := tl i + 1) hi
  have e : (fun j => if j = i then tl i + 1 else tl j) = bmp tl i := by
    funext j
    unfold bmp
    by_cases z : j = i
    · rw [if_pos z, if_pos z, z]
    · rw [if_neg z, if_neg z]
  rwa [e] at this
theorem LM_same (A : LM Y m g bf h c r tl dn ov) {i : Nat} (hi : i < 5) : LM Y m g bf (hSi h (1239 + i) m (nI (tl i))) c r tl dn ov := by
  have := LM_tal A (v := tl i) hi
  have e : (fun j => if j = i then tl i else tl j) = tl := by
    funext j
    by_cases z : j = i
    · rw [if_pos z, z]
    · rw [if_neg z]
  rwa [e] at this
theorem LM_rn (A : LM Y m g bf h c r tl dn ov) {v : Nat} : LM Y m g bf (hSi h 1237 m (nI v)) c v tl dn ov :=
  ⟨MR_fld A.1 (by omega) (by omega) (Or.inl rfl), by rw [gi_si, if_pos ⟨rfl, rfl⟩], by rw [gi_si, if_neg (by omega)]; exact A.2.2.1, fun j hj => by rw [gi_si, if_neg (by omega)]; exact A.2.2.2.1 j hj, by rw [gi_si, if_neg (by omega)]; exact A.2.2.2.2.1, A.2.2.2.2.2⟩
theorem LM_dn (A : LM Y m g bf h c r tl dn ov) {v : Nat} : LM Y m g bf (hSi h 1238 m (nI v)) c r tl v ov :=
  ⟨MR_fld A.1 (by omega) (by omega) (Or.inl rfl), by rw [gi_si, if_neg (by omega)]; exact A.2.1, by rw [gi_si, if_pos ⟨rfl, rfl⟩], fun j hj => by rw [gi_si, if_neg (by omega)]; exact A.2.2.2.1 j hj, by rw [gi_si, if_neg (by omega)]; exact A.2.2.2.2.1, A.2.2.2.2.2⟩
theorem LM_ov (A : LM Y m g bf h c r tl dn ov) : LM Y m g bf (hSi h 1236 m 1) c r tl dn 1 :=
  ⟨MR_fld A.1 (by omega) (by omega) (Or.inr (Or.inr rfl)), by rw [gi_si, if_neg (by omega)]; exact A.2.1, by rw [gi_si, if_neg (by omega)]; exact A.2.2.1, fun j hj => by rw [gi_si, if_neg (by omega)]; exact A.2.2.2.1 j hj, by rw [gi_si, if_pos ⟨rfl, rfl⟩], A.2.2.2.2.2⟩
theorem LM_bd (A : LM Y m g bf h c r tl dn ov) {k : Nat} {w : Int32} (hk : mayK k) : LM Y m g bf (hTi h (hGr h 1220 m) k w) (upd c k w) r tl dn ov := by
  have C := MR_cell (g := wC0 g c) (k0 := k) (c' := upd c k w) A.1 hk (fun i hi => by rw [sC0]; exact updh i hi)
  rw [wC0_wC0, pk_us] at C
  refine ⟨C, A.2.1, A.2.2.1, A.2.2.2.1, A.2.2.2.2.1, ?_⟩
  rw [← A.2.2.2.2.2]
  funext j
  rw [gr_ti, ai_ti, if_neg]
  intro z
  exact absurd (A.1.1.2.2 1221 1220 (by decide) (by decide) z.1) (by decide)
theorem M_g84 (A : LM Y m g bf h c r tl dn ov) (V : VG (wC0 g c)) {b a n : Nat} (hb : b < cN c 2) (ha : a < 256) (hn : n < pcnt a) :
    ∃ h', M_guesses_L84 Y m (nI b) (nI a) h FU (nI n) 0 = some (true, h') ∧ LM Y m g bf h' (upd c (100 + b) (nI (nth a n))) r (bmp tl 3) dn ov := by
  have X := A.mx V
  have l2 := VC_l2 X.2.2
  have pl := pcnt_le a
  obtain ⟨_, _, q1, q2, q3⟩ := clr_s ha hn
  have key : ∀ (k f F : Nat), nth a n = f + k → k < F → ∃ h', M_guesses_L84 Y m (nI b) (nI a) h F (nI (n - pcn a f)) (nI f) = some (true, h') ∧ LM Y m g bf h' (upd c (100 + b) (nI (nth a n))) r (bmp tl 3) dn ov := by
    intro k
    induction k with
    | zero =>
      intro f F hk hF
      obtain ⟨F, rfl⟩ : ∃ F', F = F' + 1 := ⟨F - 1, by omega⟩
      rw [show f = nth a n by omega, M_guesses_L84, M_has_s (by omega) (by omega), bind_s, q2, if_pos rfl, q3, Nat.sub_self, if_pos (show nI 0 ≤ 0 by decide), show (100 : Int32) + nI b = nI (100 + b) from nI_add 100 b, ml1220 X.1, if_pos (inB_nI (by omega) (by omega)), letH_e, letH_e, nI_clamp (by omega)]
      have A1 := LM_bd A (k := 100 + b) (w := nI (nth a n)) (by unfold mayK; omega)
      have A2 := LM_bmp A1 (i := 3) (by decide)
      refine ⟨_, rfl, ?_⟩
      have e3 := A1.2.2.2.1 3 (by decide)
      rw [show hGi (hTi h (hGr h 1220 m) (100 + b) (nI (nth a n))) 1242 m = nI (tl 3) from e3, nI_1]
      exact A2
    | succ k ih =>
      intro f F hk hF
      obtain ⟨F, rfl⟩ : ∃ F', F = F' + 1 := ⟨F - 1, by omega⟩
      obtain ⟨p1, p2⟩ := nth_before ha hn (show f < nth a n by omega)
      rw [M_guesses_L84, M_has_s (by omega) (by omega), bind_s]
      by_cases z : a.testBit f = true
      · have := p2 z
        rw [if_pos z, if_neg (show ¬ nI (n - pcn a f) ≤ 0 from fun w => nI_ge (a := 0) (b := n - pcn a f) (by omega) (by omega) w), M_guesses_J97, M_has_s (by omega) (by omega), bind_s, if_pos z, show (1 : Int32) = nI 1 from rfl, pk_sub (by omega), nI_add]
        have := ih (f + 1) F (by omega) (by omega)
        rw [pcn, if_pos z] at this
        rw [show n - pcn a f - 1 = n - (pcn a f + 1) by omega]
        exact this
      · rw [if_neg z, M_guesses_J97, M_has_s (by omega) (by omega), bind_s, if_neg z, show (1 : Int32) = nI 1 from rfl, show (0 : Int32) = nI 0 from rfl, pk_sub (by omega), nI_add]
        have := ih (f + 1) F (by omega) (by omega)
        rw [pcn, if_neg z] at this
        exact this
  have := key (nth a n) 0 FU (by omega) (by unfold FU; omega)
  exact this
theorem M_guesses_s (A : LM Y m g bf h c r tl dn ov) (V : VG (wC0 g c)) (hr : r < 65536) {b : Nat} (hb : b < cN c 2) :
    ∃ is h', M_guesses Y m (nI b) h = some (is, h') ∧ (if c (100 + b) = m1 ∧ frS c b (cN c 2) ≠ 0 then is = true ∧ LM Y m g bf h' (upd c (100 + b) (nI (gsN c b r))) (rnx r) (bmp tl 3) dn ov else is = false ∧ LM Y m g bf h' c r tl dn ov) := by
  have X := A.mx V
  obtain ⟨S, B, Vb⟩ := X
  have X : MX Y h m c := ⟨S, B, Vb⟩
  have l2 := VC_l2 Vb
  have l3 := VC_l3 Vb
  have fl := frS_lt Vb b (cN c 2)
  unfold M_guesses
  rw [show (100 : Int32) + nI b = nI (100 + b) from nI_add 100 b, ml1220 S, if_pos (inB_nI (by omega) (by omega)), nI_clamp (by omega), MB0 B (by omega)]
  by_cases z : c (100 + b) = m1
  · rw [z, if_pos (show m1 < 0 by decide), M_finalesFor_s X hb, bind_s]
    have key := upl (Q := fun q => ∃ is h', q = some (is, h') ∧ (if c (100 + b) = m1 ∧ frS c b (cN c 2) ≠ 0 then is = true ∧ LM Y m g bf h' (upd c (100 + b) (nI (gsN c b r))) (rnx r) (bmp tl 3) dn ov else is = false ∧ LM Y m g bf h' c r tl dn ov)) (fun F i (_ : Unit) => M_guesses_L22 Y m (nI b) h F (nI (frS c b i)) (nI i)) (cN c 2) (fun _ _ => True) ?_ ?_ (cN c 2) 0 () FU (by omega) (by unfold FU; omega) trivial
    · rw [frS_0 Vb, z] at key
      exact key
    · intro F i _ hi _
      right
      refine ⟨(), ?_, trivial⟩
      have i2 : inB 2 2880 = true := by decide
      show M_guesses_L22 Y m (nI b) h (F + 1) (nI (frS c b i)) (nI i) = M_guesses_L22 Y m (nI b) h F (nI (frS c b (i + 1))) (nI (i + 1))
      rw [M_guesses_L22, ml1220 S, if_pos i2, show hAi h (hGr h 1220 m) (Int32.toNatClampNeg 2) = nI (cN c 2) from (MB0 B (i := 2) (by omega)).trans (VC_e2 Vb), if_neg (nI_ge hi (by omega)), show (100 : Int32) + nI i = nI (100 + i) from nI_add 100 i, if_pos (inB_nI (by omega) (by omega)), if_pos (inB_nI (by omega) (by omega)), nI_clamp (by omega), MB0 B (by omega), nI_1]
      rcases (Vb.2.2.2.2.1 i hi).2.2.2.1 with q | q
      · rw [q, if_pos (show m1 < 0 by decide), frS_m b q]
      · have ql := q.2
        have nm : c (100 + i) ≠ m1 := by rw [q.1, ne_eq, ne_m1 (by omega)]; exact fun z => z
        have sh : (1 : Int32) <<< (nI (cN c (100 + i)) &&& 31) = nI (2 ^ cN c (100 + i)) := by
          have := zone (k := cN c (100 + i)) (by omega)
          simp only [zlit, zand]
          exact this
        rw [q.1, if_neg (nI_pos (by omega)), sh, zcom, frS_s Vb b nm]
    · intro F _ _
      have i2 : inB 2 2880 = true := by decide
      show ∃ is h', M_guesses_L22 Y m (nI b) h (F + 1) (nI (frS c b (cN c 2))) (nI (cN c 2)) = some (is, h') ∧ _
      rw [M_guesses_L22, ml1220 S, if_pos i2, show hAi h (hGr h 1220 m) (Int32.toNatClampNeg 2) = nI (cN c 2) from (MB0 B (i := 2) (by omega)).trans (VC_e2 Vb), if_pos (nI_le (Nat.le_refl _) (by omega))]
      by_cases z2 : frS c b (cN c 2) = 0
      · rw [z2, if_pos (show nI 0 = 0 from rfl)]
        refine ⟨_, _, rfl, ?_⟩
        rw [if_neg (fun w => w.2 rfl)]
        exact ⟨rfl, A⟩
      · obtain ⟨k1, k2⟩ := gsN_ok (r := r) Vb z2
        have pp : 0 < pcnt (frS c b (cN c 2)) := pcnt_pos ⟨_, fl⟩ z2
        have pl := pcnt_le (frS c b (cN c 2))
        rw [if_neg (show ¬ nI (frS c b (cN c 2)) = 0 from by intro w; have w' : nI (frS c b (cN c 2)) = nI 0 := w; rw [nI_eq (by omega) (by omega)] at w'; exact z2 w'), M_sizeOf_s (by omega), bind_s, M_draw, A.2.1, rnx_s hr, letH_e, gi_si, if_pos (show 1237 = 1237 ∧ m = m from ⟨rfl, rfl⟩), if_neg (show ¬ nI (pcnt (frS c b (cN c 2))) = 0 from by intro w; have w' : nI (pcnt (frS c b (cN c 2))) = nI 0 := w; rw [nI_eq (by omega) (by omega)] at w'; omega), drw_s (rnx_lt r) pp (by omega), bind_s]
        obtain ⟨h', e1, e2⟩ := M_g84 (LM_rn A (v := rnx r)) V hb fl k1
        refine ⟨true, h', e1, ?_⟩
        rw [if_pos ⟨z, z2⟩]
        exact ⟨rfl, e2⟩
  · rcases (Vb.2.2.2.2.1 b hb).2.2.2.1 with q | q
    · exact absurd q z
    · have ql := q.2
      rw [q.1, if_neg (nI_pos (by omega))]
      refine ⟨false, h, rfl, ?_⟩
      rw [if_neg (fun w => z (q.1.trans w.1))]
      exact ⟨rfl, A⟩
/-- a step's cells -/
theorem LM.cc (A : LM Y m g bf h c r tl dn ov) (V : VG (wC0 g c)) {i : Nat} (hi : i < 576) : hAi h (hGr h 1220 m) i = c i := MB0 (A.mx V).2.1 hi
end LMs
