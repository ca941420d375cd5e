/-! ===== weeks lived: numbers, blocks that agree ===== -/
theorem wC0_wC0 (g : Sg) (c c' : Nat → Int32) : wC0 (wC0 g c) c' = wC0 g c' := by
  have e : (fun j => if j = 0 then c' else sC (wC0 g c) j) = (fun j => if j = 0 then c' else sC g j) := by
    funext j
    by_cases q : j = 0
    · rw [if_pos q, if_pos q]
    · rw [if_neg q, if_neg q, sCj g c q]
  exact congrArg (fun F => (F, sW g, sTs g, sTm g, sTn g, sTl g, sTp g, sLv g, sK g, sSt g, sFk g, sFp g, sTo g, sBo g)) e
theorem wC0_self (g : Sg) : wC0 g (sC g 0) = g := by
  have e : (fun j => if j = 0 then sC g 0 else sC g j) = sC g := by
    funext j
    by_cases q : j = 0
    · rw [if_pos q, q]
    · rw [if_neg q]
  exact congrArg (fun F => (F, sW g, sTs g, sTm g, sTn g, sTl g, sTp g, sLv g, sK g, sSt g, sFk g, sFp g, sTo g, sBo g)) e
theorem MR_fld {Y : Ly} {h : Hp} {m : Nat} {g : Sg} {f : Nat} {v : Int32} (R : MR Y h m g) (h1 : 1236 ≤ f) (h2 : f ≤ 1243) (hz : zk f = false ∨ v = 0 ∨ v = 1) : MR Y (hSi h f m v) m g := by
  have gi : ∀ f', f' < 1236 → hGi (hSi h f m v) f' m = hGi h f' m := by
    intro f' h'
    rw [gi_si, if_neg (by omega)]
  obtain ⟨r1, r2, b, t, p, l, c1, c2, c3, c4, c5, c6⟩ := R
  refine ⟨MS_congr r1 (fun _ => rfl), Ty_si r2 hz, b, t, ⟨?_, p.2⟩, ?_, ?_, ?_, ?_, ?_, c5, c6⟩
  · rw [gi 1208 (by decide)]; exact p.1
  · rw [gi 1235 (by decide)]; exact l
  · rw [gi 1200 (by decide)]; exact c1
  · rw [gi 1210 (by decide)]; exact c2
  · rw [gi 1211 (by decide)]; exact c3
  · rw [gi 1223 (by decide)]; exact c4
/-- bits taken away from below -/
def clr (a : Nat) : Nat → Nat
  | 0 => a
  | n + 1 => clr a n &&& (clr a n - 1)
def lsb (a : Nat) : Nat → Nat → Nat
  | 0, k => k
  | n + 1, k => if a.testBit k then k else lsb a n (k + 1)
def nth (a n : Nat) : Nat := lsb (clr a n) 8 0
theorem clr_all : ∀ a : Fin 256, ∀ n : Fin 8, n.val < pcnt a.val → clr a.val n.val ≠ 0 ∧ clr a.val n.val < 256 ∧ nth a.val n.val < 8 ∧ a.val.testBit (nth a.val n.val) = true ∧ pcn a.val (nth a.val n.val) = n.val := by decide +kernel
theorem clr_s {a n : Nat} (ha : a < 256) (hn : n < pcnt a) : clr a n ≠ 0 ∧ clr a n < 256 ∧ nth a n < 8 ∧ a.testBit (nth a n) = true ∧ pcn a (nth a n) = n := clr_all ⟨a, ha⟩ ⟨n, by have := pcnt_le a; omega⟩ hn
theorem tz_all : ∀ a : Fin 256, a.val ≠ 0 → J_ntz Y00 (nI a.val) h00 = some (nI (lsb a.val 8 0)) := by decide +kernel
theorem J_ntz_s {Y : Ly} {h : Hp} {a : Nat} (ha : a < 256) (h0 : a ≠ 0) : J_ntz Y (nI a) h = some (nI (lsb a 8 0)) := tz_all ⟨a, ha⟩ h0
theorem pcn_mono (a : Nat) : ∀ k i, pcn a i ≤ pcn a (i + k) := by
  intro k
  induction k with
  | zero => intro i; exact Nat.le_refl _
  | succ k ih =>
    intro i
    have := ih i
    rw [show i + (k + 1) = (i + k) + 1 by omega, pcn]
    omega
theorem nth_before {a n f : Nat} (ha : a < 256) (hn : n < pcnt a) (hf : f < nth a n) : pcn a f ≤ n ∧ (a.testBit f = true → pcn a f < n) := by
  obtain ⟨_, _, _, _, q⟩ := clr_s ha hn
  have h1 := pcn_mono a (nth a n - f) f
  rw [show f + (nth a n - f) = nth a n by omega, q] at h1
  refine ⟨h1, fun hb => ?_⟩
  have h2 := pcn_mono a (nth a n - (f + 1)) (f + 1)
  rw [show f + 1 + (nth a n - (f + 1)) = nth a n by omega, q, pcn, if_pos hb] at h2
  omega
/-- blocks alike but for the liars and what is bound -/
def agr (c c' : Nat → Int32) : Prop := ∀ i, i ≠ 9 → i < 100 ∨ 106 ≤ i → c' i = c i
theorem agr.n {c c' : Nat → Int32} (A : agr c c') {i : Nat} (h1 : i ≠ 9) (h2 : i < 100 ∨ 106 ≤ i) : cN c' i = cN c i := by unfold cN; rw [A i h1 h2]
theorem agr_rf (c : Nat → Int32) : agr c c := fun _ _ _ => rfl
theorem agr_tr {c c1 c2 : Nat → Int32} (A : agr c c1) (B : agr c1 c2) : agr c c2 := fun i h1 h2 => (B i h1 h2).trans (A i h1 h2)
theorem agr_upd {c : Nat → Int32} {k : Nat} {v : Int32} (hk : k = 9 ∨ (100 ≤ k ∧ k < 106)) : agr c (upd c k v) := fun i h1 h2 => pk_un (by omega)
section AG
variable {c c' : Nat → Int32}
theorem plF_agr (A : agr c c') (V : VB c) {b : Nat} (hb : b < cN c 2) : ∀ (k p : Nat) (st : Int32), p + k ≤ cN c (94 + b) → stOk c st → plF c' b k p st = plF c b k p st := by
  have l0 := VC_l0 V
  have l1 := VC_l1 V
  intro k
  induction k with
  | zero => intro p st _ _; rfl
  | succ k ih =>
    intro p st hp hs
    have hpg := ((V.2.2.2.2.1 b hb).2.2.2.2 p (by omega)).2
    rw [plF, plF, A.n (by omega) (by omega)]
    rcases hs with rfl | ⟨j, hj, rfl⟩
    · rw [if_pos rfl, if_pos rfl]
    · have nm : ¬ nI j = m1 := by rw [ne_m1 (by omega)]; exact fun q => q
      rw [if_neg nm, if_neg nm, nI_clamp (by omega), A _ (by omega) (by omega)]
      exact ih (p + 1) _ (by omega) (VR_ok V (by omega) (by omega))
theorem place_agr (A : agr c c') (V : VB c) {b : Nat} (hb : b < cN c 2) : place c' b = place c b := by
  have l2 := VC_l2 V
  have hK := V.2.2.2.2.1 b hb
  unfold place
  rw [A.n (by omega) (by omega), A _ (by omega) (by omega)]
  exact plF_agr A V hb _ 0 _ (by omega) (Or.inr ⟨_, hK.1.2, hK.1.1⟩)
theorem barG_agr (A : agr c c') (b pl t L : Nat) : ∀ k i, barG c' b pl t L k i = barG c b pl t L k i := by
  intro k
  induction k with
  | zero => intro i; rfl
  | succ k ih =>
    intro i
    rw [barG, barG, ih, hbar, hbar, A.n (by omega) (by omega), A.n (by omega) (by omega), A.n (by omega) (by omega), A.n (by omega) (by omega)]
theorem barred_agr (A : agr c c') (b pl t L : Nat) : barred c' b pl t L = barred c b pl t L := by
  unfold barred
  rw [A.n (by omega) (by omega)]
  exact barG_agr A b pl t L _ _
theorem wlk_agr (A : agr c c') (V : VB c) {b L n : Nat} {row : Nat → Nat} (hr : ∀ q, q < n → row q < 8) : ∀ (k p : Nat) (st : Int32), p + k ≤ n → stOk c st → wlk c' b L row k p st = wlk c b L row k p st := by
  have l0 := VC_l0 V
  intro k
  induction k with
  | zero => intro p st _ _; rfl
  | succ k ih =>
    intro p st hp hs
    have h8 := hr p (by omega)
    rw [wlk, wlk]
    rcases hs with rfl | ⟨j, hj, rfl⟩
    · rw [if_pos rfl, if_pos rfl]
    · have nm : ¬ nI j = m1 := by rw [ne_m1 (by omega)]; exact fun q => q
      rw [if_neg nm, if_neg nm, nI_clamp (by omega), stp, barred_agr A, A _ (by omega) (by omega)]
      exact ih (p + 1) _ (by omega) (stp_ok V (by omega) h8)
theorem fitB_agr (A : agr c c') (V : VB c) {b f L : Nat} (hb : b < cN c 2) (hf : f < cN c 3) : fitB c' L b f = fitB c L b f := by
  have l1 := VC_l1 V
  have l2 := VC_l2 V
  have l3 := VC_l3 V
  have hF := V.2.2.2.2.2.1 f hf
  have er : (fun k => cN c' (174 + 6 * f + k)) = (fun k => cN c (174 + 6 * f + k)) := funext fun k => A.n (by omega) (by omega)
  unfold fitB
  rw [A.n (by omega) (by omega), A.n (by omega) (by omega), er]
  by_cases e : cN c (166 + f) = cN c (88 + b)
  · congr 1
    unfold leadsB
    rw [A.n (show 88 + b ≠ 9 by omega) (by omega), place_agr A V hb, wlk_agr A V (n := cN c (88 + b)) (fun q hq => by have := (hF.2 q (by omega)).2; omega) _ _ _ (by omega) (place_ok V hb)]
    unfold isF
    rw [A.n (by omega) (by omega)]
  · simp [e]
theorem fitS_agr (A : agr c c') (V : VB c) {b L : Nat} (hb : b < cN c 2) : fitS c' L b = fitS c L b := by
  unfold fitS
  rw [A.n (by omega) (by omega)]
  exact mk_congr _ (fun i hi => fitB_agr A V hb hi)
theorem odf_agr (A : agr c c') (V : VB c) {f : Nat} (hf : f < cN c 3) : odf c' f = odf c f := by
  have l1 := VC_l1 V
  have hF := V.2.2.2.2.2.1 f hf
  unfold odf
  rw [A.n (by omega) (by omega)]
  refine sm_congr _ (fun k hk => ?_)
  have := (hF.2 k hk).2
  rw [A.n (show 174 + 6 * f + k ≠ 9 by omega) (by omega), A.n (by omega) (by omega)]
theorem SQ_agr {wd sg th nm pt : Nat → Int32} (A : agr c c') : ∀ n d lo hi a b, SQ wd sg th nm pt c n d lo hi a b → SQ wd sg th nm pt c' n d lo hi a b := by
  have e2 : cN c' 2 = cN c 2 := A.n (by omega) (by omega)
  have e3 : cN c' 3 = cN c 3 := A.n (by omega) (by omega)
  have e4 : cN c' 4 = cN c 4 := A.n (by omega) (by omega)
  have row : ∀ r a, rowOk wd sg th nm c r a → rowOk wd sg th nm c' r a := by
    intro r a h
    unfold rowOk nB at h ⊢
    rw [e2, e3, e4, A (306 + 9 * a) (by omega) (by omega), A (307 + 9 * a) (by omega) (by omega), A (308 + 9 * a) (by omega) (by omega), A.n (show 307 + 9 * a ≠ 9 by omega) (by omega), A.n (show 308 + 9 * a ≠ 9 by omega) (by omega)]
    exact h
  have blk : ∀ r a, blkOk wd sg th nm c r a → blkOk wd sg th nm c' r a := by
    intro r a h
    unfold blkOk nB at h ⊢
    rw [e2, A (306 + 9 * a) (by omega) (by omega), A (307 + 9 * a) (by omega) (by omega), A (308 + 9 * a) (by omega) (by omega), A (312 + 9 * a) (by omega) (by omega), A (313 + 9 * a) (by omega) (by omega), A.n (show 307 + 9 * a ≠ 9 by omega) (by omega), A.n (show 308 + 9 * a ≠ 9 by omega) (by omega)]
    exact h
  intro n
  induction n with
  | zero => intro d lo hi a b h; exact h
  | succ n ih =>
    intro d lo hi a b h
    rw [SQ] at h ⊢
    rcases h with h | ⟨h1, h2, ⟨h3, h4, h5⟩ | ⟨h3, h4, p, e, q1, q2, q3, q4, q5, q6, q7, q8, q9, q10⟩⟩
    · exact Or.inl h
    · exact Or.inr ⟨h1, h2, Or.inl ⟨row lo a h3, by rw [A _ (by omega) (by omega)]; exact h4, ih _ _ _ _ _ h5⟩⟩
    · exact Or.inr ⟨h1, h2, Or.inr ⟨blk lo a h3, h4, p, e, q1, q2, q3, q4, by rw [A _ (by omega) (by omega)]; exact q5, q6, q7, q8, ih _ _ _ _ _ q9, ih _ _ _ _ _ q10⟩⟩
end AG
/-- finales that fit and are in no book -/
def frS (c : Nat → Int32) (b k : Nat) : Nat := fitS c (cN c 9) b &&& (bfS c k ^^^ 4294967295)
theorem frS_lt {c : Nat → Int32} (V : VB c) (b k : Nat) : frS c b k < 256 := Nat.lt_of_le_of_lt Nat.and_le_left (fitS_lt V _ _)
theorem nat_bits {a b : Nat} (ha : a < 256) (hb : b < 256) (H : ∀ i, i < 8 → a.testBit i = b.testBit i) : a = b := by
  apply Nat.eq_of_testBit_eq
  intro i
  by_cases hi : i < 8
  · exact H i hi
  · have h2 : (256 : Nat) ≤ 2 ^ i := Nat.le_trans (by decide : (256 : Nat) ≤ 2 ^ 8) (Nat.pow_le_pow_right (by decide) (by omega))
    rw [Nat.testBit_lt_two_pow (by omega), Nat.testBit_lt_two_pow (by omega)]
theorem frS_0 {c : Nat → Int32} (V : VB c) (b : Nat) : frS c b 0 = fitS c (cN c 9) b := by
  refine nat_bits (frS_lt V b 0) (fitS_lt V _ _) (fun i hi => ?_)
  unfold frS
  rw [free_bit hi]
  simp [bfS]
theorem frS_s {c : Nat → Int32} (V : VB c) (b : Nat) {k : Nat} (h : c (100 + k) ≠ m1) : frS c b k &&& (2 ^ cN c (100 + k) ^^^ 4294967295) = frS c b (k + 1) := by
  refine nat_bits (Nat.lt_of_le_of_lt Nat.and_le_left (frS_lt V b k)) (frS_lt V b (k + 1)) (fun i hi => ?_)
  rw [free_bit hi]
  unfold frS
  rw [free_bit hi, free_bit hi, bfS, if_neg h, Nat.testBit_or]
  cases (fitS c (cN c 9) b).testBit i <;> cases (bfS c k).testBit i <;> simp
theorem frS_m {c : Nat → Int32} (b : Nat) {k : Nat} (h : c (100 + k) = m1) : frS c b (k + 1) = frS c b k := by
  unfold frS
  rw [bfS, if_pos h, Nat.or_zero]
