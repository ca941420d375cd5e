/-! ===== weeks lived: the reference does one ===== -/
section LD
variable {Y : Ly} {m : Nat} {g : Sg} {h : Hp} {c : Nat → Int32} {r dn a ro : Nat} {tl : Nat → Nat} {ov : Int32} {bf : Nat → Int32} {wd sg th nm : Nat → Int32}
theorem LM_b1 (A : LM Y m g bf h c r tl dn ov) {k : Nat} {f : Nat} (hf : f = 1239 + k) (hk : k < 5) : LM Y m g bf (hSi h f m (hGi h f m + 1)) c r (bmp tl k) dn ov := by
  subst hf
  rw [A.2.2.2.1 k hk, nI_1]
  exact LM_bmp A hk
theorem LM_b0 (A : LM Y m g bf h c r tl dn ov) {k : Nat} {f : Nat} (hf : f = 1239 + k) (hk : k < 5) : LM Y m g bf (hSi h f m (hGi h f m + 0)) c r tl dn ov := by
  subst hf
  rw [A.2.2.2.1 k hk, show (0 : Int32) = nI 0 from rfl, nI_add]
  exact LM_same A hk
theorem M_does_s (A : LM Y m g bf h c r tl dn ov) (V : VG (wC0 g c)) (hr : r < 65536) (ha : a < 30) (B : rowOk wd sg th nm c ro a) (k6 : c (306 + 9 * a) ≠ nI 6) :
    ∃ is h' c' r' tl', M_does Y m (nI (306 + 9 * a)) h = some (is, h') ∧ LM Y m g bf h' c' r' tl' dn ov ∧ tl' 0 = tl 0 ∧ nx c r tl a = (c', r', if is = true then tl' else bmp tl' 0) := by
  have X := A.mx V
  obtain ⟨S, MBc, Vb⟩ := X
  have X : MX Y h m c := ⟨S, MBc, Vb⟩
  have l2 := VC_l2 Vb
  have l3 := VC_l3 Vb
  have l4 := VC_l4 Vb
  have i9 : inB 9 2880 = true := by decide
  unfold M_does
  rw [ml1220 S, if_pos (inB_nI (by omega) (by omega)), nI_1, if_pos (inB_nI (by omega) (by omega)), nI_clamp (by omega), nI_clamp (by omega), MB0 MBc (by omega), show 306 + 9 * a + 1 = 307 + 9 * a by omega, MB0 MBc (show 307 + 9 * a < 576 by omega)]
  rcases row_cases B k6 with ⟨e, _, _, _, h1, h2, e7, e8⟩ | ⟨e, _, _, h1, e7⟩ | ⟨e, _, _, h1, e7⟩ | ⟨e, _, _, h1, e7⟩
  · rw [e, if_neg (by decide), if_neg (by decide), if_pos (show nI 0 = 0 from rfl), show nI (306 + 9 * a) + 2 = nI (308 + 9 * a) by simp only [zlit, nI_add]; rw [show 306 + 9 * a + 2 = 308 + 9 * a by omega], if_pos (inB_nI (by omega) (by omega)), nI_clamp (by omega), MB0 MBc (by omega), e7, e8, M_binds_s X h1 h2, bind_s]
    rw [nx_0 e]
    by_cases z : bindB c (cN c (307 + 9 * a)) (cN c (308 + 9 * a)) = true
    · rw [if_pos z, if_pos (show (decide (c (100 + cN c (307 + 9 * a)) = m1) && (!(bfS c (cN c 2)).testBit (cN c (308 + 9 * a)) && (fitS c (cN c 9) (cN c (307 + 9 * a))).testBit (cN c (308 + 9 * a)))) = true from z), M_does_J117, if_pos rfl, letH_e]
      exact ⟨true, _, _, _, _, rfl, LM_b1 (LM_bd A (k := 100 + cN c (307 + 9 * a)) (w := nI (cN c (308 + 9 * a))) (by unfold mayK; omega)) (k := 1) rfl (by decide), bmp_ne tl (by decide), by rw [if_pos rfl]⟩
    · rw [if_neg z, if_neg (show ¬ (decide (c (100 + cN c (307 + 9 * a)) = m1) && (!(bfS c (cN c 2)).testBit (cN c (308 + 9 * a)) && (fitS c (cN c 9) (cN c (307 + 9 * a))).testBit (cN c (308 + 9 * a)))) = true from z), M_does_J117, if_neg (show ¬ (false, h).1 = true from fun w => by cases w), letH_e]
      exact ⟨false, _, _, _, _, rfl, LM_b0 A (k := 1) rfl (by decide), rfl, by rw [if_neg (by decide)]⟩
  · rw [e, if_neg (by decide), if_pos (show nI 1 = 1 from rfl), e7, show (100 : Int32) + nI (cN c (307 + 9 * a)) = nI (100 + cN c (307 + 9 * a)) from nI_add 100 _, if_pos (inB_nI (by omega) (by omega)), nI_clamp (by omega), MB0 MBc (by omega)]
    have j58 : ∀ s0, M_does_J58 Y m (nI (cN c (307 + 9 * a))) s0 h = if s0 = true then letH (hSi (hTi h (hGr h 1220 m) (100 + cN c (307 + 9 * a)) (-1)) 1241 m (hGi (hTi h (hGr h 1220 m) (100 + cN c (307 + 9 * a)) (-1)) 1241 m + 1)) fun h18 => some (s0, h18) else letH (hSi (hTi h (hGr h 1220 m) (100 + cN c (307 + 9 * a)) (-1)) 1241 m (hGi (hTi h (hGr h 1220 m) (100 + cN c (307 + 9 * a)) (-1)) 1241 m + 0)) fun h18 => some (s0, h18) := by
      intro s0
      unfold M_does_J58
      rw [show (100 : Int32) + nI (cN c (307 + 9 * a)) = nI (100 + cN c (307 + 9 * a)) from nI_add 100 _, ml1220 S, if_pos (inB_nI (by omega) (by omega)), letH_e, nI_clamp (by omega)]
    rw [nx_1 e]
    have A1 := LM_bd A (k := 100 + cN c (307 + 9 * a)) (w := -1) (by unfold mayK; omega)
    rcases (Vb.2.2.2.2.1 _ h1).2.2.2.1 with z | z
    · rw [z, if_pos (show m1 < 0 by decide), j58, if_neg (by decide), letH_e, if_pos rfl]
      rw [show upd c (100 + cN c (307 + 9 * a)) (-1) = c from upd_self z] at A1
      exact ⟨false, _, _, _, _, rfl, LM_b0 A1 (k := 2) rfl (by decide), rfl, by rw [if_neg (by decide)]⟩
    · have zl := z.2
      have nm : ¬ c (100 + cN c (307 + 9 * a)) = m1 := by rw [z.1, ne_m1 (by omega)]; exact fun w => w
      rw [z.1, if_neg (nI_pos (by omega)), j58, if_pos rfl, letH_e, ← z.1, if_neg nm]
      exact ⟨true, _, _, _, _, rfl, LM_b1 A1 (k := 2) rfl (by decide), bmp_ne tl (by decide), by rw [if_pos rfl]; rfl⟩
  · rw [e, if_pos (show nI 2 = 2 from rfl), if_pos i9, if_pos i9, letH_e, show hAi h (hGr h 1220 m) (Int32.toNatClampNeg 9) = nI (cN c 9) from (MB0 MBc (i := 9) (by omega)).trans Vb.2.1.2.1, e7, sh31 (by omega), zxor, nx_2 e]
    exact ⟨true, _, _, _, _, rfl, LM_bd A (k := 9) (w := nI (cN c 9 ^^^ 2 ^ cN c (307 + 9 * a))) (by unfold mayK; omega), rfl, by rw [if_pos rfl]⟩
  · rw [e, if_neg (by decide), if_neg (by decide), if_neg (by decide), e7]
    obtain ⟨is, h', g1, g2⟩ := M_guesses_s A V hr h1
    rw [g1, bind_s, nx_3 e, M_does_J117]
    by_cases z : c (100 + cN c (307 + 9 * a)) = m1 ∧ frS c (cN c (307 + 9 * a)) (cN c 2) ≠ 0
    · rw [if_pos z] at g2 ⊢
      obtain ⟨g3, g4⟩ := g2
      subst g3
      rw [if_pos rfl, letH_e]
      refine ⟨true, _, _, _, _, rfl, LM_b1 g4 (k := 1) rfl (by decide), ?_, by rw [if_pos rfl, bmp_13]⟩
      rw [bmp_ne _ (by decide), bmp_ne _ (by decide)]
    · rw [if_neg z] at g2 ⊢
      obtain ⟨g3, g4⟩ := g2
      subst g3
      rw [if_neg (show ¬ (false, h').1 = true from fun w => by cases w), letH_e]
      exact ⟨false, _, _, _, _, rfl, LM_b0 g4 (k := 1) rfl (by decide), rfl, by rw [if_neg (by decide)]⟩
theorem M_row {rec : Nat → Int32 → Int32 → Hp → Option Hp} (A : LM Y m g bf h c r tl dn ov) (V : VG (wC0 g c)) (hr : r < 65536) (hdn : dn < 300) (ha : a < 30) (B : rowOk wd sg th nm c ro a) (k6 : c (306 + 9 * a) ≠ nI 6) :
    ∃ h', M_doOne_b Y rec m (nI a) h = some h' ∧ LM Y m g bf h' (nx c r tl a).1 (nx c r tl a).2.1 (nx c r tl a).2.2 (dn + 1) ov := by
  have A4 := LM_dn A (v := dn + 1)
  obtain ⟨is, h', c', r', tl', e1, e2, e3, e4⟩ := M_does_s A4 V hr ha B k6
  unfold M_doOne_b
  have k4 : ¬ (4 : Int32) ≤ c (306 + 9 * a) := by
    rcases row_cases B k6 with ⟨e, _⟩ | ⟨e, _⟩ | ⟨e, _⟩ | ⟨e, _⟩ <;> (rw [e]; decide)
  have S := (A4.mx V).1
  rw [A.2.2.1, if_neg (show ¬ nI dn = 300 from by intro w; have w' : nI dn = nI 300 := w; rw [nI_eq (by omega) (by omega)] at w'; omega), letH_e, nI_1, show (306 : Int32) + 9 * nI a = nI (306 + 9 * a) by simp only [zlit, pk_mul, nI_add], ml1220 S, if_pos (inB_nI (by omega) (by omega)), nI_clamp (by omega), A4.cc V (by omega), if_neg k4, e1, bind_s, e4]
  have t0 : hGi (hSi h 1238 m (nI (dn + 1))) 1239 m = nI (tl' 0) := by rw [e3]; exact A4.2.2.2.1 0 (by decide)
  cases is with
  | true =>
    rw [if_pos rfl, letH_e, t0, if_pos rfl, show (0 : Int32) = nI 0 from rfl, nI_add]
    exact ⟨_, rfl, LM_same e2 (i := 0) (by decide)⟩
  | false =>
    rw [if_neg (show ¬ (false, h').1 = true from fun w => by cases w), letH_e, t0, if_neg (show ¬ false = true from fun w => by cases w), nI_1]
    exact ⟨_, rfl, LM_bmp e2 (i := 0) (by decide)⟩
/-- the reference when 300 steps are done -/
theorem M_cutOff {rec : Nat → Int32 → Int32 → Hp → Option Hp} (A : LM Y m g bf h c r tl 300 ov) : ∃ h', M_doOne_b Y rec m (nI a) h = some h' ∧ LM Y m g bf h' c r (fun j => if j = 4 then 1 else tl j) 300 1 := by
  unfold M_doOne_b
  rw [A.2.2.1, if_pos (show nI 300 = 300 from rfl), letH_e, letH_e]
  exact ⟨_, rfl, LM_tal (LM_ov A) (i := 4) (v := 1) (by decide)⟩
theorem M_stop {rec : Nat → Int32 → Int32 → Hp → Option Hp} (A : LM Y m g bf h c r tl dn ov) (V : VG (wC0 g c)) (hdn : dn < 300) (ha : a < 30) (e : c (306 + 9 * a) = nI 6) : ∃ h', M_doOne_b Y rec m (nI a) h = some h' ∧ LM Y m g bf h' c r tl (dn + 1) 1 := by
  have A4 := LM_dn A (v := dn + 1)
  have S := (A4.mx V).1
  unfold M_doOne_b
  rw [A.2.2.1, if_neg (show ¬ nI dn = 300 from by intro w; have w' : nI dn = nI 300 := w; rw [nI_eq (by omega) (by omega)] at w'; omega), letH_e, nI_1, show (306 : Int32) + 9 * nI a = nI (306 + 9 * a) by simp only [zlit, pk_mul, nI_add], ml1220 S, if_pos (inB_nI (by omega) (by omega)), nI_clamp (by omega), A4.cc V (by omega), e, if_pos (by decide), if_neg (by decide), M_doOne_J109, if_neg (by decide), if_neg (by decide), letH_e]
  exact ⟨_, rfl, LM_ov A4⟩
/-- the reference at a when -/
theorem M_isSo_s (A : LM Y m g bf h c r tl dn ov) (V : VG (wC0 g c)) (ha : a < 30) (B : blkOk wd sg th nm c ro a) (h4 : c (306 + 9 * a) = nI 4) : M_isSo Y m (nI (306 + 9 * a)) h = some (tsB c a) := by
  have X := A.mx V
  obtain ⟨S, MBc, Vb⟩ := X
  have X : MX Y h m c := ⟨S, MBc, Vb⟩
  have l2 := VC_l2 Vb
  have l3 := VC_l3 Vb
  have i2 : inB 2 2880 = true := by decide
  have p6 : nI (306 + 9 * a) + 6 = nI (312 + 9 * a) := by simp only [zlit, nI_add]; rw [show 306 + 9 * a + 6 = 312 + 9 * a by omega]
  have p7 : nI (306 + 9 * a) + 7 = nI (313 + 9 * a) := by simp only [zlit, nI_add]; rw [show 306 + 9 * a + 7 = 313 + 9 * a by omega]
  have p2 : nI (306 + 9 * a) + 2 = nI (308 + 9 * a) := by simp only [zlit, nI_add]; rw [show 306 + 9 * a + 2 = 308 + 9 * a by omega]
  have p1 : nI (306 + 9 * a) + 1 = nI (307 + 9 * a) := by simp only [zlit, nI_add]; rw [show 306 + 9 * a + 1 = 307 + 9 * a by omega]
  have j92 : ∀ v : Int32, M_isSo_J92 Y m (nI (306 + 9 * a)) v h = some (if c (313 + 9 * a) = 60 then decide (v < c (308 + 9 * a)) else if c (313 + 9 * a) = 62 then decide (c (308 + 9 * a) < v) else decide (v = c (308 + 9 * a))) := by
    intro v
    have := Li_compares_s (Y := Y) (h := h) (a := v) (b := c (308 + 9 * a)) (s := c (313 + 9 * a))
    unfold Li_compares at this
    unfold M_isSo_J92
    rw [p7, p2, ml1220 S, if_pos (inB_nI (by omega) (by omega)), if_pos (inB_nI (by omega) (by omega)), if_pos (inB_nI (by omega) (by omega)), nI_clamp (by omega), nI_clamp (by omega), MB0 MBc (by omega), MB0 MBc (by omega)]
    rw [if_pos (inB_nI (by omega) (by omega)), if_pos (inB_nI (by omega) (by omega))]
    exact this
  unfold M_isSo
  rw [p6, p1, ml1220 S, if_pos (inB_nI (by omega) (by omega)), if_pos (inB_nI (by omega) (by omega)), nI_clamp (by omega), nI_clamp (by omega), MB0 MBc (by omega), MB0 MBc (show 307 + 9 * a < 576 by omega)]
  unfold blkOk at B
  rcases B with ⟨b0, _⟩ | ⟨_, b1, b2, b3, b4⟩ | ⟨_, b1, b2, b3, b4, b5, b6⟩ | ⟨_, b1, b2, b3, b4, b5, b6, b7, b8⟩
  · rw [h4, nI_eq (by omega) (by omega)] at b0
    omega
  · have bl := b4.2
    rw [b1, if_pos (show nI 0 = 0 from rfl), b4.1, show (100 : Int32) + nI (cN c (307 + 9 * a)) = nI (100 + cN c (307 + 9 * a)) from nI_add 100 _, if_pos (inB_nI (by omega) (by omega)), nI_clamp (by omega), MB0 MBc (by omega)]
    unfold tsB
    rw [if_pos b1]
    rcases (Vb.2.2.2.2.1 _ bl).2.2.2.1 with z | z
    · rw [z, if_pos (show m1 < 0 by decide)]; simp
    · have zl := z.2
      rw [z.1, if_neg (nI_pos (by omega))]
      have := ne_m1 (show cN c (100 + cN c (307 + 9 * a)) < 2 ^ 31 by omega)
      simp [this]
  · rw [b1, if_neg (show ¬ nI 1 = 0 by decide), if_pos (show nI 1 = 1 from rfl), if_pos i2, M_bound_s X, bind_s, M_sizeOf_s (by have := bndS_lt Vb; omega), bind_s, show hAi h (hGr h 1220 m) (Int32.toNatClampNeg 2) = nI (cN c 2) from (MB0 MBc (i := 2) (by omega)).trans (VC_e2 Vb), j92]
    unfold tsB tsV
    rw [if_neg (show ¬ c (312 + 9 * a) = nI 0 by rw [b1]; decide), if_pos b1]
  · have bl := b6.2
    rw [b1, if_neg (show ¬ nI 2 = 0 by decide), if_neg (show ¬ nI 2 = 1 by decide), b6.1, show (100 : Int32) + nI (cN c (307 + 9 * a)) = nI (100 + cN c (307 + 9 * a)) from nI_add 100 _, if_pos (inB_nI (by omega) (by omega)), if_pos (inB_nI (by omega) (by omega)), nI_clamp (by omega), MB0 MBc (by omega)]
    unfold tsB tsV
    rw [if_neg (show ¬ c (312 + 9 * a) = nI 0 by rw [b1]; decide), if_neg (show ¬ c (312 + 9 * a) = nI 1 by rw [b1]; decide)]
    rcases (Vb.2.2.2.2.1 _ bl).2.2.2.1 with z | z
    · rw [z, if_neg (show ¬ (0 : Int32) ≤ m1 by decide), j92, if_pos rfl]
      rfl
    · have zl := z.2
      have nmm : ¬ c (100 + cN c (307 + 9 * a)) = m1 := by rw [z.1, ne_m1 (by omega)]; exact fun w => w
      rw [z.1, if_pos (nI_pos' (by omega)), M_oddOf_s X z.2, bind_s, j92, ← z.1, if_neg nmm]
end LD
