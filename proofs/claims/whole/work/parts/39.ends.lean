/-! ===== how many endings ===== -/
def esum (c : Nat → Int32) (g : Nat → Int64) (ok : Nat → Bool) (s : Nat) : Nat → Int64
  | 0 => 0
  | n + 1 => esum c g ok s n + (if c (18 + 8 * s + n) = m1 ∨ ok n = false then 0 else g (cN c (18 + 8 * s + n)))
/-- in how many ways the last r places can go on from a state -/
def ES (c : Nat → Int32) (b L : Nat) : Nat → Nat → Int64
  | 0, s => if (cN c 8).testBit s then 1 else 0
  | r + 1, s => esum c (ES c b L r) (fun t => !barred c b (cN c (88 + b) - r) t L) s (cN c 1)
def ecnt (c : Nat → Int32) (b L : Nat) : Int64 := if place c b = m1 then 0 else ES c b L (cN c (88 + b)) (place c b).toNatClampNeg
section EM
variable {Y : Ly} {h : Hp} {m : Nat} {c : Nat → Int32}
theorem M_lE84 (S : MS Y h m) (B : MB h m 0 c) (V : VB c) {b p s L : Nat} {k71 : Int32 → Hp → Option (Int64 × Hp)} (hb : b < 6) (hp : p < 7) (hs : s < 8) (hL : L < 2 ^ 31) {G : Nat → Int64} (hG : ∀ q, q < 8 → hAl h (hGr h 1225 m) (8 * (p + 1) + q) = G q) :
    ∀ (k i F : Nat) (acc : Int64), cN c 1 = i + k → k < F → acc = esum c G (fun t => !barred c b p t L) s i → M_laysEndings_L84 Y m (nI b) (nI L) (nI p) (nI s) h k71 F acc (nI i) = k71 (nI (s + 1)) (hTl h (hGr h 1225 m) (8 * p + s) (esum c G (fun t => !barred c b p t L) s (cN c 1))) := by
  have l1 := VC_l1 V
  have l0 := VC_l0 V
  intro k
  induction k with
  | zero =>
    intro i F acc hk hF ha
    obtain ⟨F, rfl⟩ : ∃ F', F = F' + 1 := ⟨F - 1, by omega⟩
    unfold M_laysEndings_L84
    simp (disch := omega) only [zlit, nI_add, pk_mul, nI_clamp, ml1220 S, ml1225 S, inB_nI, MB0 B, if_true, VC_e1 V, nI_leI, letH_e]
    rw [if_pos (by omega), ha, show i = cN c 1 by omega]
  | succ k ih =>
    intro i F acc hk hF ha
    obtain ⟨F, rfl⟩ : ∃ F', F = F' + 1 := ⟨F - 1, by omega⟩
    have ihh := fun a (e : a = _) => ih (i + 1) F a (by omega) (by omega) e
    unfold M_laysEndings_L84
    rcases V.2.2.2.1 s i hs (by omega) with q | ⟨_, _, q1, q2⟩
    · simp (disch := omega) only [zlit, nI_add, pk_mul, nI_clamp, ml1220 S, ml1225 S, inB_nI, MB0 B, if_true, VC_e1 V, nI_leI, q, m1_lt]
      rw [if_neg (by omega)]
      exact ihh _ (by rw [ha]; simp [esum, q])
    · simp (disch := omega) only [zlit, nI_add, pk_mul, nI_clamp, ml1220 S, ml1225 S, inB_nI, MB0 B, if_true, VC_e1 V, nI_leI, q1, nI_ltI, M_isBarred_s S B V, bind_s]
      rw [if_neg (by omega), if_neg (by omega)]
      have qn : ¬ c (18 + 8 * s + i) = m1 := by rw [q1, ne_m1 (by omega)]; exact fun z => z
      by_cases hbar : barred c b p i L = true
      · rw [if_pos hbar]
        exact ihh _ (by rw [ha]; simp [esum, hbar])
      · rw [if_neg hbar]
        exact ihh _ (by rw [ha, hG _ (by omega)]; simp [esum, qn, hbar])
theorem M_lE71 (S : MS Y h m) (B : MB h m 0 c) (V : VB c) {b p L : Nat} {k63 : Int32 → Hp → Option (Int64 × Hp)} (hb : b < 6) (hp : p < 7) (hL : L < 2 ^ 31) {G : Nat → Int64} {g0 : Nat → Int64} (hG : ∀ q, q < 8 → g0 (8 * (p + 1) + q) = G q) :
    ∀ (k s F : Nat) (g : Nat → Int64), 8 = s + k → k < F → (∀ j, ¬ (8 * p ≤ j ∧ j < 8 * p + 8) → g j = g0 j) → (∀ q, q < s → g (8 * p + q) = esum c G (fun t => !barred c b p t L) q (cN c 1)) →
      ∃ g', M_laysEndings_L71 Y m (nI b) (nI L) (nI p) k63 F (nI s) (hWl h (hGr h 1225 m) g) = k63 (nI p + m1) (hWl h (hGr h 1225 m) g') ∧ (∀ j, ¬ (8 * p ≤ j ∧ j < 8 * p + 8) → g' j = g0 j) ∧ ∀ q, q < 8 → g' (8 * p + q) = esum c G (fun t => !barred c b p t L) q (cN c 1) := by
  intro k
  induction k with
  | zero =>
    intro s F g hk hF h1 h2
    obtain ⟨F, rfl⟩ : ∃ F', F = F' + 1 := ⟨F - 1, by omega⟩
    refine ⟨g, ?_, h1, fun q hq => h2 q (by omega)⟩
    unfold M_laysEndings_L71
    simp (disch := omega) only [zlit, zneg, nI_leI]
    rw [if_pos (by omega)]
  | succ k ih =>
    intro s F g hk hF h1 h2
    obtain ⟨F, rfl⟩ : ∃ F', F = F' + 1 := ⟨F - 1, by omega⟩
    have S' : MS Y (hWl h (hGr h 1225 m) g) m := MS_congr S (fun _ => rfl)
    have B' : MB (hWl h (hGr h 1225 m) g) m 0 c := B
    unfold M_laysEndings_L71
    simp (disch := omega) only [zlit, nI_leI]
    rw [if_neg (by omega), show (0 : Int64) = esum c G (fun t => !barred c b p t L) s 0 from rfl]
    rw [M_lE84 S' B' V hb hp (by omega) hL (G := G) (fun q hq => by rw [al_wl, gr_wl, if_pos rfl, h1 _ (by omega)]; exact hG q hq) (cN c 1) 0 FU _ (by omega) (by unfold FU; have := VC_l1 V; omega) rfl]
    rw [gr_wl, tl_wl]
    refine ih (s + 1) F _ (by omega) (by omega) (fun j hj => ?_) (fun q hq => ?_)
    · unfold vp_updL
      rw [if_neg (by omega)]
      exact h1 j hj
    · unfold vp_updL
      by_cases e : q = s
      · subst e; rw [if_pos rfl]
      · rw [if_neg (by omega)]; exact h2 q (by omega)
theorem M_lE63 (S : MS Y h m) (B : MB h m 0 c) (V : VB c) {b L : Nat} (hb : b < cN c 2) (hL : L < 2 ^ 31) :
    ∀ (p F : Nat) (g : Nat → Int64), p ≤ cN c (88 + b) → p < F → (∀ q s, p < q → q ≤ cN c (88 + b) + 1 → s < 8 → g (8 * q + s) = ES c b L (cN c (88 + b) + 1 - q) s) →
      ∃ g', M_laysEndings_L63 Y m (nI b) (nI L) F (nI p) (hWl h (hGr h 1225 m) g) = some (ecnt c b L, hWl h (hGr h 1225 m) g') ∧ ∀ q s, 0 < q → q ≤ cN c (88 + b) + 1 → s < 8 → g' (8 * q + s) = ES c b L (cN c (88 + b) + 1 - q) s := by
  have l2 := VC_l2 V
  have l0 := VC_l0 V
  have hK := V.2.2.2.2.1 b hb
  have l88 := hK.2.1.1.2
  intro p
  induction p with
  | zero =>
    intro F g hp hF hg
    obtain ⟨F, rfl⟩ : ∃ F', F = F' + 1 := ⟨F - 1, by omega⟩
    refine ⟨g, ?_, fun q s h1 h2 h3 => hg q s h1 h2 h3⟩
    have S' : MS Y (hWl h (hGr h 1225 m) g) m := MS_congr S (fun _ => rfl)
    have B' : MB (hWl h (hGr h 1225 m) g) m 0 c := B
    unfold M_laysEndings_L63
    rw [if_pos (by decide), M_placeOf_s S' B' V hb, bind_s]
    unfold ecnt
    rcases place_ok V hb with e | ⟨k, hk, e⟩
    · rw [e]
      simp only [zlit, le_m1, if_true]
      rw [if_neg (by decide)]
    · rw [e]
      simp (disch := omega) only [zlit, nI_leI, nI_add, gr_wl, ml1225 S, inB_nI, nI_clamp, if_true, ne_m1, if_false, al_wl]
      rw [if_pos (by omega)]
      have := hg 1 k (by omega) (by omega) (by omega)
      rw [show 8 * 1 + k = 8 + k by omega, show cN c (88 + b) + 1 - 1 = cN c (88 + b) by omega] at this
      rw [this]
  | succ p ih =>
    intro F g hp hF hg
    obtain ⟨F, rfl⟩ : ∃ F', F = F' + 1 := ⟨F - 1, by omega⟩
    unfold M_laysEndings_L63
    simp (disch := omega) only [zlit, nI_leI]
    rw [if_neg (by omega)]
    obtain ⟨g1, e1, e2, e3⟩ := M_lE71 (k63 := M_laysEndings_L63 Y m (nI b) (nI L) F) S B V (b := b) (p := p + 1) (L := L) (by omega) (by omega) hL (G := ES c b L (cN c (88 + b) - (p + 1))) (g0 := g) (fun q hq => by rw [hg (p + 1 + 1) q (by omega) (by omega) hq]; congr 1; omega) 8 0 FU g (by omega) (by unfold FU; omega) (fun _ _ => rfl) (fun q hq => absurd hq (by omega))
    rw [e1, add_m1]
    refine ih F g1 (by omega) (by omega) (fun q s h1 h2 h3 => ?_)
    by_cases e : q = p + 1
    · subst e
      rw [e3 s h3, show cN c (88 + b) + 1 - (p + 1) = (cN c (88 + b) - (p + 1)) + 1 by omega]
      show _ = esum c (ES c b L (cN c (88 + b) - (p + 1))) (fun t => !barred c b (cN c (88 + b) - (cN c (88 + b) - (p + 1))) t L) s (cN c 1)
      rw [show cN c (88 + b) - (cN c (88 + b) - (p + 1)) = p + 1 by omega]
    · rw [e2 _ (by omega)]
      exact hg q s (by omega) h2 h3
theorem M_laysEndings_s (S : MS Y h m) (B : MB h m 0 c) (V : VB c) {b L : Nat} (hb : b < cN c 2) (hL : L < 2 ^ 31) :
    ∃ g', M_laysEndings Y m (nI b) (nI L) h = some (ecnt c b L, hWl h (hGr h 1225 m) g') ∧ ∀ q s, 0 < q → q ≤ cN c (88 + b) + 1 → s < 8 → g' (8 * q + s) = ES c b L (cN c (88 + b) + 1 - q) s := by
  have l2 := VC_l2 V
  have l0 := VC_l0 V
  have hK := V.2.2.2.2.1 b hb
  have l88 := hK.2.1.1.2
  have l8 := V.2.1.1.2
  have p8 : 2 ^ cN c 0 ≤ 2 ^ 8 := Nat.pow_le_pow_right (by decide) (by omega)
  have key : ∀ (k s F : Nat) (g : Nat → Int64), 8 = s + k → k < F → (∀ q, q < s → g (8 * (cN c (88 + b) + 1) + q) = ES c b L 0 q) →
      ∃ g', M_laysEndings_L13 Y m (nI b) (nI L) (nI (cN c (88 + b))) F (nI s) (hWl h (hGr h 1225 m) g) = some (ecnt c b L, hWl h (hGr h 1225 m) g') ∧ ∀ q s, 0 < q → q ≤ cN c (88 + b) + 1 → s < 8 → g' (8 * q + s) = ES c b L (cN c (88 + b) + 1 - q) s := by
    intro k
    induction k with
    | zero =>
      intro s F g hk hF hg
      obtain ⟨F, rfl⟩ : ∃ F', F = F' + 1 := ⟨F - 1, by omega⟩
      unfold M_laysEndings_L13
      simp (disch := omega) only [zlit, nI_leI]
      rw [if_pos (by omega)]
      refine M_lE63 S B V hb hL _ FU g (Nat.le_refl _) (by unfold FU; omega) (fun q s2 h1 h2 h3 => ?_)
      have e : q = cN c (88 + b) + 1 := by omega
      subst e
      rw [hg s2 (by omega), Nat.sub_self]
    | succ k ih =>
      intro s F g hk hF hg
      obtain ⟨F, rfl⟩ : ∃ F', F = F' + 1 := ⟨F - 1, by omega⟩
      unfold M_laysEndings_L13
      have B' : MB (hWl h (hGr h 1225 m) g) m 0 c := B
      simp (disch := omega) only [zlit, nI_leI, nI_add, pk_mul, gr_wl, ml1220 S, ml1225 S, inB_nI, if_true, nI_clamp, ai_wl, MB0 B, V.2.1.1.1, M_has_s, bind_s, letH_e, tl_wl]
      rw [if_neg (by omega)]
      have st : ∀ v : Int64, v = ES c b L 0 s → ∀ q, q < s + 1 → vp_updL g (8 * (cN c (88 + b) + 1) + s) v (8 * (cN c (88 + b) + 1) + q) = ES c b L 0 q := by
        intro v hv q hq
        unfold vp_updL
        by_cases e : q = s
        · subst e; rw [if_pos rfl]; exact hv
        · rw [if_neg (by omega)]; exact hg q (by omega)
      by_cases hbt : (cN c 8).testBit s = true
      · rw [if_pos hbt]
        exact ih (s + 1) F _ (by omega) (by omega) (st 1 (by simp [ES, hbt]))
      · rw [if_neg hbt]
        exact ih (s + 1) F _ (by omega) (by omega) (st 0 (by simp [ES, hbt]))
  unfold M_laysEndings
  simp (disch := omega) only [zlit, nI_add, ml1220 S, inB_nI, if_true, nI_clamp, MB0 B, hK.2.1.1.1]
  have := key 8 0 FU (hAl h (hGr h 1225 m)) (by omega) (by unfold FU; omega) (fun q hq => absurd hq (by omega))
  rw [wl_self] at this
  exact this
end EM
