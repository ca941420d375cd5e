/-! ===== the class and the reference, fresh: the state to begin with ===== -/
abbrev cP : List Sp := c_LP_init
abbrev pY (G : Gm) (a : Nat) : Ly := spY G a cP
abbrev pH (a : Nat) : Hp := spH a cP
theorem okP_all : cP.all okCl = true := by decide +kernel
theorem okP_ty : chTy cP = true := by decide +kernel
theorem okP_23 : chRow cP 23 4 = true := by decide +kernel
theorem okP_24 : chRow cP 24 8 = true := by decide +kernel
theorem lenP : cP.length = 184 := by decide +kernel
theorem Ty_P (G : Gm) (a : Nat) : Ty (pY G a) (pH a) := sp_Ty okP_all okP_ty okP_23 okP_24
def kd (i : Nat) : Nat := (cell cP i).1
theorem cLen_in (f : Nat) (h : cLen f ≠ 0) : f < 1200 ∧ f % 100 < 20 := by
  unfold cLen at h
  split at h <;> first | exact absurd rfl h | omega
theorem cArr_in (f : Nat) (h : cArr f = true) : f < 1200 ∧ f % 100 < 20 := by
  unfold cArr at h
  simp only [Bool.or_eq_true, beq_iff_eq, bne_iff_ne, ne_eq] at h
  rcases h with h | h | h
  · omega
  · omega
  · exact cLen_in f h
theorem chLen : ∀ i, i < 184 → 13 ≤ kd i ∨ ∀ j, j < 20 → cLen (100 * kd i + j) ≠ 0 → (cell cP (tg cP i j)).2.1 = cLen (100 * kd i + j) := by decide +kernel
def owL : List Nat := [0, 0, 0, 200, 201, 0, 500, 0, 700, 4, 0, 1000, 1001, 1002, 1003, 1004, 0, 1600, 1601, 1602, 1603, 0, 2100, 2101, 0, 2400, 2401, 2402, 2403, 8, 0, 0, 3100, 3101, 3102, 3103, 0, 3600, 3601, 0, 3900, 3901, 3003, 3004, 3005, 3006, 3007, 3008, 3009, 3010, 3011, 3012, 0, 5200, 5201, 5202, 5203, 5204, 0, 0, 5900, 5901, 5902, 5903, 0, 6400, 6401, 0, 6700, 6701, 5803, 5804, 5805, 5806, 5807, 5808, 5809, 5810, 5811, 5812, 0, 8000, 8001, 8002, 8003, 8004, 0, 8600, 8601, 8602, 8603, 8604, 0, 9200, 0, 9400, 0, 9600, 0, 9800, 0, 0, 10100, 10101, 10102, 10103, 0, 10600, 10601, 0, 10900, 10901, 10003, 10004, 10005, 10006, 10007, 10008, 10009, 10010, 10011, 10012, 0, 12200, 12201, 12202, 12203, 12204, 0, 0, 12900, 12901, 12902, 12903, 0, 13400, 13401, 0, 13700, 13701, 12803, 12804, 12805, 12806, 12807, 12808, 12809, 12810, 12811, 12812, 0, 15000, 15001, 15002, 15003, 15004, 0, 0, 15700, 15701, 15702, 15703, 0, 16200, 16201, 0, 16500, 16501, 15603, 15604, 15605, 15606, 15607, 15608, 15609, 15610, 15611, 15612, 0, 17800, 17801, 17802, 17803, 17804]
theorem chOwn : ∀ i, i < 184 → 13 ≤ kd i ∨ ∀ j, j < 20 → cArr (100 * kd i + j) = true → owL.getD (tg cP i j) 0 = 100 * i + j := by decide +kernel
theorem chLot : ∀ i, i < 184 → kd i ≠ 4 ∨ (((cell cP (tg cP (tg cP i 1) 0)).2.1 = 6 ∧ (cell cP (tg cP (tg cP i 1) 1)).2.1 = 6) ∧ (cell cP (tg cP (tg cP i 2) 0)).2.1 = 8 ∧ (cell cP (tg cP (tg cP i 2) 1)).2.1 = 8) := by decide +kernel
def shL : List Nat := (List.range 184).filter (fun i => decide (kd i = 4))
theorem shL_e : shL = [30, 58, 100, 128, 156] := by decide +kernel
theorem chApart : ∀ i ∈ [30, 58, 100, 128, 156], ∀ j ∈ [30, 58, 100, 128, 156], (tg cP i 0 = tg cP j 0 → i = j) ∧ (tg cP i 1 = tg cP j 1 → i = j) ∧ (tg cP i 2 = tg cP j 2 → i = j) ∧ tg cP i 1 ≠ tg cP j 2 := by decide +kernel
theorem sh_in {i : Nat} (hi : i < 184) (h : kd i = 4) : i ∈ [30, 58, 100, 128, 156] := by
  rw [← shL_e]
  exact List.mem_filter.mpr ⟨List.mem_range.mpr hi, decide_eq_true h⟩
theorem p_gr {a : Nat} (f i t : Nat) (h : tg cP i (f % 100) = t) : hGr (pH a) f (a + i) = a + t := by rw [sp_gr, h]
theorem p_gi {a : Nat} (f i : Nat) {v : Int32} (h : Int32.ofInt ((cell cP i).2.2.getD (f % 100) 0) = v) : hGi (pH a) f (a + i) = v := by rw [sp_gi, h]
theorem CS_P (G : Gm) (a : Nat) : CS (pY G a) (pH a) a := by
  refine ⟨sp_oi (a := a) (sp := cP) (i := 0) (by rw [lenP]; decide) rfl, fun f hf x hx => ?_, fun s hs => ?_, fun f g x y hf hg hx hy e => ?_, fun x y hx hy => ?_⟩
  · obtain ⟨i, hi, rfl, hk⟩ := sp_o hx
    obtain ⟨h1, h2⟩ := cLen_in f hf
    rw [lenP] at hi
    have he : 100 * kd i + f % 100 = f := by
      have : kd i = f / 100 := hk
      omega
    rcases chLen i hi with q | q
    · have : kd i = f / 100 := hk
      omega
    · have := q (f % 100) h2
      rw [he] at this
      rw [sp_gr, sp_ln]
      exact this hf
  · obtain ⟨i, hi, rfl, hk⟩ := sp_o hs
    rw [lenP] at hi
    rcases chLot i hi with q | q
    · exact absurd hk q
    · rw [sp_gr, sp_gr, sp_gr, sp_gr, sp_gr, sp_gr, sp_ln, sp_ln, sp_ln, sp_ln]
      exact q
  · obtain ⟨i, hi, rfl, hk⟩ := sp_o hx
    obtain ⟨j, hj, rfl, hk2⟩ := sp_o hy
    rw [lenP] at hi hj
    obtain ⟨h1, h2⟩ := cArr_in f hf
    obtain ⟨h3, h4⟩ := cArr_in g hg
    have k1 : kd i = f / 100 := hk
    have k2 : kd j = g / 100 := hk2
    rw [sp_gr, sp_gr] at e
    have e : tg cP i (f % 100) = tg cP j (g % 100) := by omega
    rcases chOwn i hi with q | q
    · omega
    rcases chOwn j hj with q' | q'
    · omega
    have a1 := q (f % 100) h2
    have a2 := q' (g % 100) h4
    rw [show 100 * kd i + f % 100 = f by omega] at a1
    rw [show 100 * kd j + g % 100 = g by omega] at a2
    have a1 := a1 hf
    have a2 := a2 hg
    rw [e] at a1
    have hij : i = j := by omega
    subst hij
    exact ⟨by omega, rfl⟩
  · obtain ⟨i, hi, rfl, hk⟩ := sp_o hx
    obtain ⟨j, hj, rfl, hk2⟩ := sp_o hy
    rw [lenP] at hi hj
    have q := chApart i (sh_in hi hk) j (sh_in hj hk2)
    rw [sp_gr, sp_gr, sp_gr, sp_gr, sp_gr, sp_gr]
    refine ⟨fun e => ?_, fun e => ?_, fun e => ?_, fun e => ?_⟩
    · have := q.1 (show tg cP i 0 = tg cP j 0 by have e : a + tg cP i 0 = a + tg cP j 0 := e; omega)
      omega
    · have := q.2.1 (show tg cP i 1 = tg cP j 1 by have e : a + tg cP i 1 = a + tg cP j 1 := e; omega)
      omega
    · have := q.2.2.1 (show tg cP i 2 = tg cP j 2 by have e : a + tg cP i 2 = a + tg cP j 2 := e; omega)
      omega
    · exact q.2.2.2 (show tg cP i 1 = tg cP j 2 by have e : a + tg cP i 1 = a + tg cP j 2 := e; omega)
def shI (i : Nat) : Nat := if i = 0 then tg cP 0 9 else if i = 4 then tg cP 0 10 else ((cell cP (tg cP 0 4)).2.2.getD (i - 1) (-1)).toNat
def wkI (i : Nat) : Nat := if i = 5 then tg cP 0 11 else tg cP (shI i) 13
def trIx (t : Nat) : Nat := ((cell cP (tg cP 0 0)).2.2.getD t (-1)).toNat
theorem shI_inj : ∀ i, i < 5 → ∀ j, j < 5 → shI i = shI j → i = j := by decide +kernel
theorem wkI_inj : ∀ i, i < 6 → ∀ j, j < 6 → wkI i = wkI j → i = j := by decide +kernel
theorem trIx_inj : ∀ i, i < 4 → ∀ j, j < 4 → trIx i = trIx j → i = j := by decide +kernel
theorem shI_0 : shI 0 = 30 := by decide +kernel
theorem wkI_0 : wkI 0 = 52 := by decide +kernel
theorem p_g0 {a : Nat} (f : Nat) : hGr (pH a) f a = a + tg cP 0 (f % 100) := sp_gr (a := a) (sp := cP) f 0
theorem p_sh (a i : Nat) : shA (pH a) a i = a + shI i := by
  unfold shA shI
  by_cases h0 : i = 0
  · rw [if_pos h0, if_pos h0, p_g0]
  rw [if_neg h0, if_neg h0]
  by_cases h4 : i = 4
  · rw [if_pos h4, if_pos h4, p_g0]
  rw [if_neg h4, if_neg h4, p_g0, sp_ar]
theorem p_wk (a i : Nat) : wkA (pH a) a i = a + wkI i := by
  unfold wkA wkI
  by_cases h0 : i = 5
  · rw [if_pos h0, if_pos h0, p_g0]
  rw [if_neg h0, if_neg h0, p_sh, sp_gr]
theorem p_tr (a t : Nat) : trA (pH a) a t = a + trIx t := by
  unfold trA trIx
  rw [p_g0, sp_ar]
theorem c00_zz : ∀ k, k < 8 → cN c00 k = 0 := by decide +kernel
theorem nmT_00 : nmT c00 = 0 := by decide +kernel
theorem RS_P (a : Nat) : RS (pH a) (a + 30) c00 := by
  have e0 : hGr (pH a) 400 (a + 30) = a + 31 := p_gr 400 30 31 (by decide +kernel)
  have e1 : hGr (pH a) 401 (a + 30) = a + 36 := p_gr 401 30 36 (by decide +kernel)
  have e2 : hGr (pH a) 402 (a + 30) = a + 39 := p_gr 402 30 39 (by decide +kernel)
  refine ⟨?_, ?_, ?_, ?_, ?_⟩
  · unfold RC
    rw [e0, e1, e2]
    exact ⟨p_gi 604 31 (by decide +kernel), p_gi 605 31 (by decide +kernel), p_gi 415 30 (by decide +kernel), p_gi 607 31 (by decide +kernel), p_gi 416 30 (by decide +kernel), p_gi 418 30 (by decide +kernel), p_gi 302 36 (by decide +kernel), p_gi 302 39 (by decide +kernel), p_gi 606 31 (by decide +kernel), p_gi 417 30 (by decide +kernel)⟩
  · exact ⟨fun t ht => by rw [c00_zz 1 (by decide)] at ht; exact absurd ht (Nat.not_lt_zero _), fun i _ h => by rw [c00_zz 0 (by decide)] at h; exact absurd h (Nat.not_lt_zero _), fun f hf => by rw [c00_zz 3 (by decide)] at hf; exact absurd hf (Nat.not_lt_zero _)⟩
  · exact fun b hb => by rw [c00_zz 2 (by decide)] at hb; exact absurd hb (Nat.not_lt_zero _)
  · exact fun b hb => by rw [c00_zz 5 (by decide)] at hb; exact absurd hb (Nat.not_lt_zero _)
  · exact ⟨fun b hb => by rw [c00_zz 6 (by decide)] at hb; exact absurd hb (Nat.not_lt_zero _), fun b hb => by rw [c00_zz 7 (by decide)] at hb; exact absurd hb (Nat.not_lt_zero _)⟩
def g00 : Sg := (fun _ => c00, fun _ _ => 0, fun _ => 0, fun _ => m1, fun _ _ => 0, 0, fun _ => 0, none, 0, 0, m1, m1, 0, 1)
theorem manyI_lt {so : Nat} (h : so < 7) : manyI so < 8 := by
  unfold manyI
  split <;> omega
def kw0 : Nat → Int64 := fun i => lN (KW i)
theorem kw0_ok : ∀ i, i < 31 → Int64.ofInt ((tRun nT).2.getD i 0) = lN (KW i) := by decide +kernel
theorem trIx_0 : ∀ t, t < 4 → Int32.ofInt ((cell cP (trIx t)).2.2.getD (801 % 100) 0) = 0 := by decide +kernel
theorem liv_0 : ∀ i, i < 5 → Int32.ofInt ((cell cP 29).2.2.getD i 0) = m1 := by decide +kernel
theorem toks : tg cP 0 1 = 2 ∧ tg cP 2 1 = 4 ∧ (cell cP 4).2.2 = (tRun nT).2 := ⟨by decide +kernel, by decide +kernel, rfl⟩
theorem CR_0 (G : Gm) (a : Nat) : CR (pY G a) (pH a) a kw0 g00 := by
  refine ⟨CS_P G a, Ty_P G a, ⟨fun i j hi hj e => ?_, fun i j hi hj e => ?_, fun j hj => ?_⟩, ⟨fun t t' ht ht' e => ?_, fun t ht => Or.inl ⟨rfl, ?_⟩⟩, ⟨?_, fun i hi => absurd hi (Nat.not_lt_zero _)⟩, fun i hi => ?_, ⟨?_, ?_, ?_, ?_, ?_, ?_⟩, fun i hi => ?_⟩
  · rw [p_sh, p_sh] at e
    exact shI_inj i hi j hj (by omega)
  · rw [p_wk, p_wk] at e
    exact wkI_inj i hi j hj (by omega)
  · have hj : j = 0 := Nat.le_zero.mp hj
    subst hj
    rw [p_sh, p_wk, shI_0, wkI_0]
    refine ⟨RS_P a, ⟨?_, fun i hi => ?_, fun so k hso hk => ?_⟩, Or.inl ⟨by decide +kernel, p_gi 905 52 (by decide +kernel)⟩⟩
    · show hGi (pH a) 414 (a + 30) = nI (nmT c00)
      rw [nmT_00]
      exact p_gi 414 30 (by decide +kernel)
    · have hi : i < nmT c00 := hi
      rw [nmT_00] at hi
      exact absurd hi (Nat.not_lt_zero _)
    · have hk : k < cN c00 (manyI so) := hk
      rw [c00_zz _ (manyI_lt hso)] at hk
      exact absurd hk (Nat.not_lt_zero _)
  · rw [p_tr, p_tr] at e
    exact trIx_inj t ht t' ht' (by omega)
  · rw [p_tr]
    exact p_gi 801 _ (trIx_0 t ht)
  · rw [p_g0]
    exact p_gi 702 _ (by decide +kernel)
  · rw [p_g0, show tg cP 0 (1108 % 100) = 29 from by decide +kernel, sp_ai]
    exact liv_0 i hi
  · exact p_gi (a := a) 1112 0 (by decide +kernel)
  · exact p_gi (a := a) 1115 0 (by decide +kernel)
  · exact p_gi (a := a) 1116 0 (by decide +kernel)
  · exact p_gi (a := a) 1117 0 (by decide +kernel)
  · have := sp_gl (a := a) (sp := cP) 1113 0
    exact this.trans (by decide +kernel)
  · have := sp_gl (a := a) (sp := cP) 1114 0
    exact this.trans (by decide +kernel)
  · rw [p_g0, show tg cP 0 (1101 % 100) = 2 from toks.1, p_gr 701 2 4 toks.2.1, sp_al, toks.2.2]
    exact kw0_ok i hi
theorem mt_0 : ∀ j, j < 21 → (cell c_M (tg c_M 0 j)).2.2 = (if j = 5 then [-1, -1, -1, -1] else []) ∨ mLen (1200 + j) = 0 := by decide +kernel
theorem g0_M (G : Gm) (a : Nat) {h1 : Hp} (e : M_empties (mY G a) a (nI 0) (mH a) = some h1) : MR (mY G a) h1 a g00 := by
  have S := MS_M G a
  obtain ⟨g, e1, e2⟩ := M_empties_s S (b := 0) (by decide)
  rw [e1] at e
  cases e
  have t4 : hGr (mH a) 1204 a = a + 1 := tgM 4 1 (by decide +kernel) 1204 rfl a
  have t5 : hGr (mH a) 1205 a = a + 2 := tgM 5 2 (by decide +kernel) 1205 rfl a
  have t6 : hGr (mH a) 1206 a = a + 3 := tgM 6 3 (by decide +kernel) 1206 rfl a
  have t22 : hGr (mH a) 1222 a = a + 7 := tgM 22 7 (by decide +kernel) 1222 rfl a
  have t20 : hGr (mH a) 1220 a = a + 5 := tgM 20 5 (by decide +kernel) 1220 rfl a
  have gi : ∀ (f : Nat) (v : Int32), Int32.ofInt ((cell c_M 0).2.2.getD (f % 100) 0) = v → hGi (hWi (mH a) (hGr (mH a) 1220 a) g) f a = v := by
    intro f v hv
    rw [gi_wi]
    have := sp_gi (a := a) (sp := c_M) f 0
    exact this.trans hv
  have gl : ∀ (f : Nat) (v : Int64), Int64.ofInt ((cell c_M 0).2.2.getD (f % 100) 0) = v → hGl (hWi (mH a) (hGr (mH a) 1220 a) g) f a = v := by
    intro f v hv
    rw [gl_wi]
    have := sp_gl (a := a) (sp := c_M) f 0
    exact this.trans hv
  refine ⟨MS_congr S (fun f => rfl), Ty_M G a, fun j hj => ?_, fun t ht => ⟨?_, ?_, fun i hi => ?_⟩, ⟨?_, fun i hi => absurd hi (Nat.not_lt_zero _)⟩, Or.inl ⟨rfl, ?_⟩, ?_, ?_, ?_, ?_, ?_, ?_⟩
  · have hj : j = 0 := Nat.le_zero.mp hj
    subst hj
    refine ⟨fun i hi => ?_, fun i hi => ?_⟩
    · rw [gr_wi, ai_wi, if_pos rfl, e2, if_pos (by omega)]
      show c00 (576 * 0 + i - 576 * 0) = c00 i
      congr 1
      omega
    · rw [gr_wi, al_wi, t22, sp_al, show (cell c_M 7).2.2 = [] from by decide +kernel]
      rfl
  · rw [gr_wi, ai_wi, t4, t20, if_neg (by omega), sp_ai, show (cell c_M 1).2.2 = [] from by decide +kernel]
    rfl
  · rw [gr_wi, ai_wi, t5, t20, if_neg (by omega), sp_ai, show (cell c_M 2).2.2 = [-1, -1, -1, -1] from by decide +kernel]
    match t, ht with
    | 0, _ => rfl
    | 1, _ => rfl
    | 2, _ => rfl
    | 3, _ => rfl
  · rw [gr_wi, al_wi, t6, sp_al, show (cell c_M 3).2.2 = [] from by decide +kernel]
    rfl
  · exact gi 1208 _ (by decide +kernel)
  · exact gi 1235 _ (by decide +kernel)
  · exact gi 1200 _ (by decide +kernel)
  · exact gi 1210 _ (by decide +kernel)
  · exact gi 1211 _ (by decide +kernel)
  · exact gi 1223 _ (by decide +kernel)
  · exact gl 1202 _ (by decide +kernel)
  · exact gl 1203 _ (by decide +kernel)
theorem VG_0 : VG g00 := ⟨by decide, fun j _ => ⟨(GB_00 (fun _ => 0)).1, (GB_00 (fun _ => 0)).2.1⟩, by decide, fun i hi => absurd hi (Nat.not_lt_zero _), fun f hf => by cases hf⟩
theorem JJ_0 (G : Gm) (a b : Nat) {h1 : Hp} (e : M_empties (mY G b) b (nI 0) (mH b) = some h1) : JJ (pY G a) (mY G b) (pH a) a h1 b kw0 := ⟨g00, CR_0 G a, g0_M G b e, VG_0⟩
