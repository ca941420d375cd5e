/-! ===== fractions; chance ===== -/
theorem gcd_step (a b : Nat) : Nat.gcd a b = Nat.gcd b (a % b) := by
  rw [Nat.gcd_comm a b, Nat.gcd_rec b a, Nat.gcd_comm]
theorem mod_half {b r : Nat} (h : r < b) (h0 : 0 < r) : 2 * (b % r) < b := by
  have h1 := Nat.mod_lt b h0
  have h2 := Nat.div_add_mod b r
  have h3 : 1 ≤ b / r := (Nat.one_le_div_iff h0).mpr (by omega)
  have h4 : r * 1 ≤ r * (b / r) := Nat.mul_le_mul_left r h3
  omega
theorem lN_nz {k : Nat} (h : k < 2 ^ 62) (h0 : 0 < k) : ¬ lN k = 0 := fun z => by rw [lN_0 h] at z; omega
theorem LP_cd {Y : Ly} {h : Hp} : ∀ (k a b i F : Nat), a < 2 ^ 62 → b < 2 ^ k → k < 40 → i + 2 * k < 98 → 2 * k + 2 < F → LP_commonDivisor_L9 Y h F (lN a) (lN b) (nI i) = some (lN (Nat.gcd a b)) := by
  intro k
  induction k with
  | zero =>
    intro a b i F ha hb _ hi hF
    obtain ⟨F, rfl⟩ : ∃ F', F = F' + 1 := ⟨F - 1, by omega⟩
    have : b = 0 := by omega
    subst this
    rw [LP_commonDivisor_L9, Nat.gcd_zero_right]
    split
    · rfl
    · rw [if_pos (show lN 0 = 0 from rfl)]
  | succ k ih =>
    intro a b i F ha hb hk hi hF
    obtain ⟨F, rfl⟩ : ∃ F', F = F' + 1 := ⟨F - 1, by omega⟩
    have hp : 2 ^ (k + 1) ≤ 2 ^ 40 := Nat.pow_le_pow_right (by decide) (by omega)
    have hp2 : 2 ^ (k + 1) = 2 * 2 ^ k := by rw [Nat.pow_succ]; omega
    have h40 : (2 : Nat) ^ 40 < 2 ^ 62 := by decide
    rw [LP_commonDivisor_L9, if_neg (show ¬ (100 : Int32) ≤ nI i from nI_ge (b := 100) (by omega) (by omega))]
    by_cases h0 : b = 0
    · subst h0
      rw [if_pos (show lN 0 = 0 from rfl), Nat.gcd_zero_right]
    · have nb := lN_nz (show b < 2 ^ 62 by omega) (by omega)
      rw [if_neg nb, if_neg nb, pk_lRem (by omega) (by omega) (by omega), nI_1, gcd_step a b]
      have hr := Nat.mod_lt a (show 0 < b by omega)
      obtain ⟨F, rfl⟩ : ∃ F', F = F' + 1 := ⟨F - 1, by omega⟩
      rw [LP_commonDivisor_L9, if_neg (show ¬ (100 : Int32) ≤ nI (i + 1) from nI_ge (b := 100) (by omega) (by omega))]
      by_cases h1 : a % b = 0
      · rw [h1, if_pos (show lN 0 = 0 from rfl), Nat.gcd_zero_right]
      · have nr := lN_nz (show a % b < 2 ^ 62 by omega) (by omega)
        rw [if_neg nr, if_neg nr, pk_lRem (by omega) (by omega) (by omega), nI_1, gcd_step b (a % b)]
        have hh := mod_half hr (by omega)
        exact ih (a % b) (b % (a % b)) (i + 1 + 1) F (by omega) (by omega) (by omega) (by omega) (by omega)
def frP (a d : Nat) : Int64 × Int64 := (lN (a / Nat.gcd a d), lN (d / Nat.gcd a d))
theorem LP_tellFraction_s {Y : Ly} {h : Hp} {x a d : Nat} (ha : a < 2 ^ 61) (hd : d < 2 ^ 30) (h0 : 0 < d) : LP_tellFraction Y x (lN a) (lN d) h = some (hSl (hSl h 1113 x (frP a d).1) 1114 x (frP a d).2) := by
  have hg : 0 < Nat.gcd a d := Nat.gcd_pos_of_pos_right a h0
  have hl : Nat.gcd a d ≤ d := Nat.gcd_le_right a h0
  unfold LP_tellFraction LP_commonDivisor
  have e := LP_cd (Y := Y) (h := h) 30 a d 0 FU (by omega) hd (by omega) (by omega) (by unfold FU; omega)
  rw [show (0 : Int32) = nI 0 from rfl, e, bind_s, if_neg (fun z => by rw [lN_pos (by omega)] at z; omega), if_neg (lN_nz (by omega) hg), letH_e, if_neg (lN_nz (by omega) hg), letH_e, pk_lDiv (by omega) hg (by omega), pk_lDiv (by omega) hg (by omega)]
  rfl
theorem M_fr {Y : Ly} {h : Hp} {m A D : Nat} : ∀ (k a b F : Nat), a < 2 ^ 62 → b < 2 ^ k → k < 40 → 2 * k + 2 < F → A < 2 ^ 62 → D < 2 ^ 62 → 0 < Nat.gcd a b → M_fraction_L9 Y m (lN A) (lN D) h F (lN a) (lN b) = some (true, hSl (hSl h 1202 m (lN (A / Nat.gcd a b))) 1203 m (lN (D / Nat.gcd a b))) := by
  intro k
  induction k with
  | zero =>
    intro a b F ha hb _ hF hA hD hg
    obtain ⟨F, rfl⟩ : ∃ F', F = F' + 1 := ⟨F - 1, by omega⟩
    have : b = 0 := by omega
    subst this
    rw [Nat.gcd_zero_right] at hg ⊢
    rw [M_fraction_L9, if_pos (show lN 0 = 0 from rfl), if_neg (lN_nz (by omega) hg), letH_e, if_neg (lN_nz (by omega) hg), letH_e, pk_lDiv (by omega) hg (by omega), pk_lDiv (by omega) hg (by omega)]
  | succ k ih =>
    intro a b F ha hb hk hF hA hD hg
    obtain ⟨F, rfl⟩ : ∃ F', F = F' + 1 := ⟨F - 1, by omega⟩
    have hp : 2 ^ (k + 1) ≤ 2 ^ 40 := Nat.pow_le_pow_right (by decide) (by omega)
    have hp2 : 2 ^ (k + 1) = 2 * 2 ^ k := by rw [Nat.pow_succ]; omega
    have h40 : (2 : Nat) ^ 40 < 2 ^ 62 := by decide
    rw [M_fraction_L9]
    by_cases h0 : b = 0
    · subst h0
      rw [Nat.gcd_zero_right] at hg ⊢
      rw [if_pos (show lN 0 = 0 from rfl), if_neg (lN_nz (by omega) hg), letH_e, if_neg (lN_nz (by omega) hg), letH_e, pk_lDiv (by omega) hg (by omega), pk_lDiv (by omega) hg (by omega)]
    · have nb := lN_nz (show b < 2 ^ 62 by omega) (by omega)
      rw [gcd_step a b] at hg
      rw [if_neg nb, if_neg nb, pk_lRem (by omega) (by omega) (by omega), gcd_step a b]
      have hr := Nat.mod_lt a (show 0 < b by omega)
      obtain ⟨F, rfl⟩ : ∃ F', F = F' + 1 := ⟨F - 1, by omega⟩
      rw [M_fraction_L9]
      by_cases h1 : a % b = 0
      · rw [h1, Nat.gcd_zero_right] at hg ⊢
        rw [if_pos (show lN 0 = 0 from rfl), if_neg (lN_nz (by omega) hg), letH_e, if_neg (lN_nz (by omega) hg), letH_e, pk_lDiv (by omega) hg (by omega), pk_lDiv (by omega) hg (by omega)]
      · have nr := lN_nz (show a % b < 2 ^ 62 by omega) (by omega)
        rw [gcd_step b (a % b)] at hg
        rw [if_neg nr, if_neg nr, pk_lRem (by omega) (by omega) (by omega), gcd_step b (a % b)]
        have hh := mod_half hr (by omega)
        exact ih (a % b) (b % (a % b)) F (by omega) (by omega) (by omega) (by omega) hA hD hg
theorem M_fraction_s {Y : Ly} {h : Hp} {m a d : Nat} (ha : a < 2 ^ 61) (hd : d < 2 ^ 30) (h0 : 0 < d) : M_fraction Y m (lN a) (lN d) h = some (true, hSl (hSl h 1202 m (frP a d).1) 1203 m (frP a d).2) := by
  have hg : 0 < Nat.gcd a d := Nat.gcd_pos_of_pos_right a h0
  unfold M_fraction
  have e : (if (0 : Int64) < lN a then lN a else -lN a) = lN a := by
    by_cases q : a = 0
    · subst q; decide
    · rw [if_pos (show (0 : Int64) < lN a from (pk_lLT (a := 0) (b := a) (by omega) (by omega)).mpr (by omega))]
  rw [e, M_fr 30 a d FU (by omega) hd (by omega) (by unfold FU; omega) (by omega) (by omega) hg]
  rfl
/-- a call that may tell a fraction -/
def CQF (Y : Ly) (x : Nat) (h : Hp) (r : Option (Bool × Hp)) (v : Bool) (st : Int32) (fr : Option (Int64 × Int64)) : Prop := match fr with
  | none => CQ Y x h r v st
  | some q => ∃ h2, r = some (v, hSi (hSl (hSl h2 1113 x q.1) 1114 x q.2) 1112 x st) ∧ Cf Y h h2
def mQF (Y : Ly) (m : Nat) (h : Hp) (r : Option (Bool × Hp)) (v : Bool) (st : Int32) (fr : Option (Int64 × Int64)) : Prop := match fr with
  | none => mQ Y m h r v st
  | some q => ∃ h2, r = some (v, hSl (hSl h2 1202 m q.1) 1203 m q.2) ∧ Mf Y m h h2 ∧ hGi h2 1200 m = st
theorem CQ_ref {Y : Ly} {x : Nat} {h h' : Hp} {k : Int32} (q : Cf Y h h') : CQ Y x h ((LP_refuse Y x k h').bind fun q => some (q.1, q.2)) false k :=
  ⟨hSi h' 1112 x k, rfl, Cf_tr q Cf_si, by rw [gi_si, if_pos ⟨rfl, rfl⟩]⟩
theorem mQ_no {Y : Ly} {m : Nat} {h h' : Hp} {k : Int32} (q : Mf Y m h h') : mQ Y m h ((M_no Y m k h').bind fun q => some (q.1, q.2)) false k :=
  ⟨hSi h' 1200 m k, rfl, Mf_tr q Mf_0, by rw [gi_si, if_pos ⟨rfl, rfl⟩]⟩
def spChance (c : Nat → Int32) (b p t : Int32) : Bool × Int32 × Option (Int64 × Int64) := if isAt b (cN c 2) && isAt t (cN c 1) then
    (if isAt (p - 1) (cN c (88 + b.toNatClampNeg)) then (if ecn c b.toNatClampNeg (cN c 9) = 0 then (false, nI 8, none) else (true, nI 0, some (frP (HV c b.toNatClampNeg (p - 1).toNatClampNeg t.toNatClampNeg) (ecn c b.toNatClampNeg (cN c 9))))) else (false, nI 5, none)) else (false, nI 2, none)
theorem LP_chance_q {Y : Ly} {h : Hp} {x : Nat} {c : Nat → Int32} (X : CT Y h x c) (b p t : Int32) : CQF Y x h (LP_chance Y x b p t h) (spChance c b p t).1 (spChance c b p t).2.1 (spChance c b p t).2.2 := by
  have V := X.2.2.2.2
  have l1 := VC_l1 V
  have l2 := VC_l2 V
  unfold LP_chance spChance
  rw [Sh_hasBook_s X.2.2.2.1 V, bind_s, St_hasTurn_s X.2.2.2.1 V, bind_s, LP_why_s X, bind_s]
  rcases isAt_cases b (n := cN c 2) (by omega) with q | ⟨j, hj, rfl, q⟩
  · rw [q]; exact CQ_ref (Cf_rf Y h)
  · rw [q, if_pos rfl]
    rcases isAt_cases t (n := cN c 1) (by omega) with q2 | ⟨k, hk, rfl, q2⟩
    · rw [q2]; exact CQ_ref (Cf_rf Y h)
    · have l88 := (V.2.2.2.2.1 j hj).2.1.1.2
      rw [q2, if_pos rfl, if_pos (show (true && true) = true from rfl)]
      rcases p_cases p (n := cN c (88 + j)) (by omega) with ⟨q3, _⟩ | ⟨i, hi, p1, p2, q3⟩
      · rw [show whyP c (nI j) p = nI 5 by unfold whyP; rw [q, if_pos rfl, nI_clamp (by omega), q3]; rfl, nI_clamp (by omega), q3, if_neg (show ¬ nI 5 = 0 by decide)]; exact CQ_ref (Cf_rf Y h)
      · rw [show whyP c (nI j) p = nI 0 by unfold whyP; rw [q, if_pos rfl, nI_clamp (by omega), q3]; rfl, nI_clamp (by omega), q3, if_pos (show nI 0 = 0 from rfl), if_pos rfl, p1, nI_clamp (by omega), nI_clamp (by omega)]
        obtain ⟨h1, g, e1, q1, e2, X2, c2, s2, e3, _⟩ := both_s X hj
        have el := ecn_le V hj (cN c 9)
        have hv := HV_le V hj hi k
        rw [e1, bind_s]
        simp only [ecnt_n]
        by_cases z : ecn c j (cN c 9) = 0
        · rw [if_pos ((lN_0 (by omega)).mpr z), if_pos z]; exact CQ_ref (Cf_Q q1)
        · rw [if_neg (fun w => z ((lN_0 (by omega)).mp w)), if_neg z, e2, bind_s, e3 i k hi hk, bind_s, LP_tellFraction_s (by omega) (by omega) (by omega), bind_s]
          exact ⟨_, rfl, c2⟩
theorem M_chance_q {Y : Ly} {h : Hp} {m : Nat} {c : Nat → Int32} (X : MX Y h m c) (b p t : Int32) : mQF Y m h (M_chance Y m b p t h) (spChance c b p t).1 (spChance c b p t).2.1 (spChance c b p t).2.2 := by
  have X0 := mX0 X
  have V := X.2.2
  have l1 := VC_l1 V
  have l2 := VC_l2 V
  unfold M_chance spChance
  simp only [letH_e]
  rw [show hSi (hSi h 1201 m 0) 1200 m 0 = mst h m from rfl, M_isBookAt_s X0.1 X0.2.1 V, bind_s, M_isTurnAt_s X0.1 X0.2.1 V, bind_s]
  rcases isAt_cases b (n := cN c 2) (by omega) with q | ⟨j, hj, rfl, q⟩
  · rw [q]; exact mQ_no mst_f
  · rw [q, if_pos rfl]
    rcases isAt_cases t (n := cN c 1) (by omega) with q2 | ⟨k, hk, rfl, q2⟩
    · rw [q2]; exact mQ_no mst_f
    · have l88 := (V.2.2.2.2.1 j hj).2.1.1.2
      rw [q2, if_pos rfl, if_pos (show (true && true) = true from rfl), M_isPlace_s X0 hj, bind_s]
      rcases p_cases p (n := cN c (88 + j)) (by omega) with ⟨q3, _⟩ | ⟨i, hi, p1, p2, q3⟩
      · rw [q3, nI_clamp (by omega), q3]; exact mQ_no mst_f
      · rw [q3, if_pos rfl, nI_clamp (by omega), q3, if_pos rfl, p1, nI_clamp (by omega), nI_clamp (by omega), p2]
        obtain ⟨h1, e1, q1⟩ := M_endingsOf_s X0 hj
        have X1 := MX_M X0 q1.1
        have el := ecn_le V hj (cN c 9)
        have hv := HV_le V hj hi k
        rw [e1, bind_s]
        simp only [ecnt_n]
        by_cases z : ecn c j (cN c 9) = 0
        · rw [if_pos ((lN_0 (by omega)).mpr z), if_pos z]; exact mQ_no (Mf_tr mst_f q1.1)
        · obtain ⟨h2, e2, m2, t2⟩ := M_laysTurns_s X1 hj
          have X2 := MX_M X1 m2.1
          rw [if_neg (fun w => z ((lN_0 (by omega)).mp w)), if_neg z, e2, bind_s, show 8 * nI (i + 1) + nI k = nI (8 * (i + 1) + k) by simp only [zlit, nI_add, pk_mul], ml1226 X2.1, if_pos (inB_nI (by omega) (by omega)), nI_clamp (by omega), t2 i k hi hk, M_fraction_s (by omega) (by omega) (by omega), bind_s]
          exact ⟨h2, rfl, Mf_tr mst_f (Mf_tr q1.1 m2.1), by rw [m2.2, q1.2, mst_0]⟩
