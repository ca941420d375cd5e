/-! ===== ways: the class, the reference ===== -/
def wyS (c : Nat → Int32) : Nat := wr (fitS c (cN c 9)) (cN c 2) (cN c 3) (cN c 2) 255
section WyC
variable {Y : Ly} {h : Hp} {s x fi : Nat} {c : Nat → Int32}
theorem Fi_giveOut_s (X : CX Y h x s c) (hf : isO Y 1 fi) (K : FK h fi c) {gv free : Nat} {A : Nat → Nat} {g : Nat → Int64} (hgv : gv < 2 ^ cN c 3) (hfr : free < 2 ^ 31) (hb : ∀ f, f < cN c 3 → free.testBit f = true → gv.testBit f = false) (hg : ∀ i, i < 256 → g i = lN (A i)) :
    ∃ g', Fi_giveOut Y fi (nI gv) (nI free) (hWl h (hGr h 101 fi) g) = some (hWl h (hGr h 101 fi) g') ∧ ∀ i, i < 256 → g' i = lN (gOut A gv free (cN c 3) i) := by
  have V := X.2.2.2.2
  have l3 := VC_l3 V
  have p3 := pow_le8 l3
  unfold Fi_giveOut
  refine upl (Q := fun r => ∃ g', r = some (hWl h (hGr h 101 fi) g') ∧ ∀ i, i < 256 → g' i = lN (gOut A gv free (cN c 3) i)) (fun F f g => Fi_giveOut_L2 Y fi (nI gv) (nI free) F (nI f) (hWl h (hGr h 101 fi) g)) (cN c 3) (fun f g => ∀ i, i < 256 → g i = lN (gOut A gv free f i)) ?_ ?_ (cN c 3) 0 g FU (by omega) (by unfold FU; omega) hg
  · intro F f g hf2 hI
    right
    show ∃ s', Fi_giveOut_L2 Y fi (nI gv) (nI free) (F + 1) (nI f) (hWl h (hGr h 101 fi) g) = Fi_giveOut_L2 Y fi (nI gv) (nI free) F (nI (f + 1)) (hWl h (hGr h 101 fi) s') ∧ _
    rw [Fi_giveOut_L2, gi_wl, K.2.1, if_neg (nI_ge hf2 (by omega)), LP_has_s hfr (by omega), bind_s, nI_1]
    by_cases q : free.testBit f = true
    · have ob := or_bit ⟨gv, by omega⟩ ⟨f, by omega⟩ (hb f hf2 q)
      simp only at ob
      have same : gOut A gv free f gv = A gv := gOut_other f (fun f' hf' hq e => by
        have := or_bit ⟨gv, by omega⟩ ⟨f', by omega⟩ (hb f' (by omega) hq)
        simp only at this
        have hp := Nat.two_pow_pos f'
        omega)
      rw [if_pos q]
      simp (disch := omega) only [zlit, zand, zone, zor, gr_wl, cl101 X.1 hf]
      rw [inB_nI (show gv ||| 2 ^ f < 256 by omega) (by omega), inB_nI (show gv < 256 by omega) (by omega), if_pos rfl, if_pos rfl, letH_e, nI_clamp (show gv ||| 2 ^ f < 2 ^ 31 by omega), nI_clamp (show gv < 2 ^ 31 by omega), al_wl, if_pos rfl, al_wl, if_pos rfl, tl_wl, hI _ (by omega), hI _ (by omega), same]
      simp only [if_true, lN_add]
      refine ⟨_, rfl, fun i hi => ?_⟩
      rw [gOut, if_pos q, updN]
      by_cases e : i = gv ||| 2 ^ f
      · rw [e, pk_uLs, if_pos rfl]
      · rw [pk_uLn e, if_neg e]; exact hI i hi
    · rw [if_neg q]
      refine ⟨g, rfl, fun i hi => ?_⟩
      rw [gOut, if_neg q]; exact hI i hi
  · intro F g hI
    show ∃ g', Fi_giveOut_L2 Y fi (nI gv) (nI free) (F + 1) (nI (cN c 3)) (hWl h (hGr h 101 fi) g) = _ ∧ _
    rw [Fi_giveOut_L2, gi_wl, K.2.1, if_pos (nI_le (Nat.le_refl _) (by omega))]
    exact ⟨g, rfl, hI⟩
theorem Fi_countWays_s (X : CX Y h x s c) (hf : isO Y 1 fi) (K : FK h fi c) : ∃ g, Fi_countWays Y fi h = some (lN (wyS c), hWl h (hGr h 101 fi) g) := by
  have V := X.2.2.2.2
  have l2 := VC_l2 V
  have l3 := VC_l3 V
  have p3 := pow_le8 l3
  have p3' := Nat.two_pow_pos (cN c 3)
  obtain ⟨g0, f1, f2⟩ := J_fillL_s (Y := Y) (h := h) (A := hGr h 101 fi) (v := 0) (by rw [cl101 X.1 hf]; decide)
  rw [cl101 X.1 hf] at f2
  have l87 : ∀ (g : Nat → Int64) (A : Nat → Nat), (∀ i, i < 256 → g i = lN (A i)) → Fi_countWays_L87 Y fi (hWl h (hGr h 101 fi) g) FU 0 0 = some (lN (sm (fun g => if pcnt g = cN c 2 then A g else 0) (2 ^ cN c 3)), hWl h (hGr h 101 fi) g) := by
    intro g A hg
    refine upl (Q := fun r => r = some (lN (sm (fun g => if pcnt g = cN c 2 then A g else 0) (2 ^ cN c 3)), hWl h (hGr h 101 fi) g)) (fun F i (_ : Unit) => Fi_countWays_L87 Y fi (hWl h (hGr h 101 fi) g) F (lN (sm (fun g => if pcnt g = cN c 2 then A g else 0) i)) (nI i)) (2 ^ cN c 3) (fun _ _ => True) ?_ ?_ (2 ^ cN c 3) 0 () FU (by omega) (by unfold FU; omega) trivial
    · intro F i _ hi _
      right
      refine ⟨(), ?_, trivial⟩
      have hi8 := pcnt_le i
      show Fi_countWays_L87 Y fi (hWl h (hGr h 101 fi) g) (F + 1) _ (nI i) = Fi_countWays_L87 Y fi (hWl h (hGr h 101 fi) g) F (lN (sm (fun g => if pcnt g = cN c 2 then A g else 0) (i + 1))) (nI (i + 1))
      rw [Fi_countWays_L87, gi_wl, gi_wl, K.2.1, K.1, J_bitCount_s (by omega), bind_s]
      simp (disch := omega) only [zlit, zand, zone, nI_leI, nI_eq, gr_wl, cl101 X.1 hf, inB_nI, if_true, nI_clamp, al_wl, nI_add, sm]
      rw [if_neg (by omega), hg i (by omega)]
      by_cases q : pcnt i = cN c 2
      · rw [if_pos q, if_pos q, lN_add]
      · rw [if_neg q, if_neg q, ← lN_add]; rfl
    · intro F _ _
      show Fi_countWays_L87 Y fi (hWl h (hGr h 101 fi) g) (F + 1) _ (nI (2 ^ cN c 3)) = _
      rw [Fi_countWays_L87, gi_wl, K.2.1]
      simp (disch := omega) only [zlit, zand, zone, nI_leI]
      rw [if_pos (by omega)]
  have l27 : ∀ (k : Nat) (g : Nat → Int64) (A : Nat → Nat) (k17 : Int32 → Hp → Option (Int64 × Hp)), k < cN c 2 → (∀ i, i < 256 → g i = lN (A i)) → JW (fitS c (cN c 9)) (cN c 2) (cN c 3) k 0 A →
      ∃ g' A', Fi_countWays_L27 Y fi (nI k) k17 FU 0 (hWl h (hGr h 101 fi) g) = k17 (nI (k + 1)) (hWl h (hGr h 101 fi) g') ∧ (∀ i, i < 256 → g' i = lN (A' i)) ∧ JW (fitS c (cN c 9)) (cN c 2) (cN c 3) k (2 ^ cN c 3) A' := by
    intro k g A k17 hk hg hJ
    refine upl (Q := fun r => ∃ g' A', r = k17 (nI (k + 1)) (hWl h (hGr h 101 fi) g') ∧ (∀ i, i < 256 → g' i = lN (A' i)) ∧ JW (fitS c (cN c 9)) (cN c 2) (cN c 3) k (2 ^ cN c 3) A') (fun F i (p : (Nat → Int64) × (Nat → Nat)) => Fi_countWays_L27 Y fi (nI k) k17 F (nI i) (hWl h (hGr h 101 fi) p.1)) (2 ^ cN c 3) (fun i p => (∀ i, i < 256 → p.1 i = lN (p.2 i)) ∧ JW (fitS c (cN c 9)) (cN c 2) (cN c 3) k i p.2) ?_ ?_ (2 ^ cN c 3) 0 (g, A) FU (by omega) (by unfold FU; omega) ⟨hg, hJ⟩
    · rintro F i ⟨g, A⟩ hi ⟨i1, i2⟩
      right
      simp only at i1 i2
      have hi8 := pcnt_le i
      have fl := fitS_lt V (cN c 9) k
      show ∃ p : (Nat → Int64) × (Nat → Nat), Fi_countWays_L27 Y fi (nI k) k17 (F + 1) (nI i) (hWl h (hGr h 101 fi) g) = Fi_countWays_L27 Y fi (nI k) k17 F (nI (i + 1)) (hWl h (hGr h 101 fi) p.1) ∧ _
      rw [Fi_countWays_L27, gi_wl, K.2.1, J_bitCount_s (by omega), bind_s]
      simp (disch := omega) only [zlit, zand, zone, nI_leI, nI_eq]
      rw [if_neg (show ¬ 2 ^ cN c 3 ≤ i by omega), nI_add]
      by_cases q : pcnt i = k
      · rw [if_pos q, gr_wl, cl101 X.1 hf, if_pos (inB_nI (by omega) (by omega)), nI_clamp (show i < 2 ^ 31 by omega), al_wl, if_pos rfl, i1 i (by omega)]
        have ale := JW_le i2 hi q (Nat.le_refl _)
        have h86 : 8 ^ (k + 1) ≤ 8 ^ 7 := Nat.pow_le_pow_right (by decide) (by omega)
        have h87 : (8 : Nat) ^ 7 = 2097152 := by decide
        by_cases z : A i = 0
        · rw [if_pos (show lN (A i) ≤ 0 from (lN_pos (by omega)).mpr z)]
          exact ⟨(g, A), rfl, i1, JW_zero hi q z i2⟩
        · rw [if_neg (show ¬ lN (A i) ≤ 0 from fun w => z ((lN_pos (by omega)).mp w)), gr_wl, cl100 X.1 hf, if_pos (inB_nI (by omega) (by omega)), nI_clamp (show k < 2 ^ 31 by omega), ai_wl, K.2.2 k hk, show nI (fitS c (cN c 9) k) &&& (nI i ^^^ -nI 1) = nI (fitS c (cN c 9) k &&& (i ^^^ 4294967295)) from zcom _ _]
          obtain ⟨g', e1, e2⟩ := Fi_giveOut_s X hf K (A := A) (g := g) hi (free := fitS c (cN c 9) k &&& (i ^^^ 4294967295)) (Nat.lt_of_le_of_lt Nat.and_le_left (by omega)) (fun f hf2 hq => by
            rw [free_bit (by omega), Bool.and_eq_true, Bool.not_eq_true'] at hq
            exact hq.2) i1
          rw [e1, bind_s]
          exact ⟨(g', gOut A i (fitS c (cN c 9) k &&& (i ^^^ 4294967295)) (cN c 3)), rfl, e2, JW_give (by omega) hk hi q i2⟩
      · rw [if_neg q]
        exact ⟨(g, A), rfl, i1, JW_skip q i2⟩
    · rintro F ⟨g, A⟩ ⟨i1, i2⟩
      simp only at i1 i2
      show ∃ g' A', Fi_countWays_L27 Y fi (nI k) k17 (F + 1) (nI (2 ^ cN c 3)) (hWl h (hGr h 101 fi) g) = _ ∧ _
      rw [Fi_countWays_L27, gi_wl, K.2.1]
      simp (disch := omega) only [zlit, zand, zone, nI_leI]
      rw [if_pos (show 2 ^ cN c 3 ≤ 2 ^ cN c 3 from Nat.le_refl _), nI_add]
      exact ⟨g, A, rfl, i1, i2⟩
  unfold Fi_countWays
  rw [f1, bind_s]
  simp (disch := omega) only [zlit, gr_wl, cl101 X.1 hf, inB_nI, if_true, nI_clamp, letH_e, tl_wl]
  refine upl (Q := fun r => ∃ g, r = some (lN (wyS c), hWl h (hGr h 101 fi) g)) (fun F k (p : (Nat → Int64) × (Nat → Nat)) => Fi_countWays_L17 Y fi F (nI k) (hWl h (hGr h 101 fi) p.1)) (cN c 2) (fun k p => (∀ i, i < 256 → p.1 i = lN (p.2 i)) ∧ JW (fitS c (cN c 9)) (cN c 2) (cN c 3) k 0 p.2 ∧ ∀ g, g < 2 ^ cN c 3 → k < pcnt g → p.2 g = 0) ?_ ?_ (cN c 2) 0 (vp_updL g0 0 1, fun i => if i = 0 then 1 else 0) FU (by omega) (by unfold FU; omega) ⟨fun i hi => ?_, JW_start rfl (fun g _ hne => if_neg hne), fun g _ hp => ?_⟩
  · rintro F k ⟨g, A⟩ hk ⟨i1, i2, i3⟩
    right
    simp only at i1 i2 i3
    obtain ⟨g', A', s1, s2, s3⟩ := l27 k g A (Fi_countWays_L17 Y fi F) hk i1 i2
    refine ⟨(g', A'), ?_, s2, JW_round s3, s3.1⟩
    show Fi_countWays_L17 Y fi (F + 1) (nI k) (hWl h (hGr h 101 fi) g) = _
    rw [Fi_countWays_L17, gi_wl, K.1, if_neg (nI_ge hk (by omega))]
    exact s1
  · rintro F ⟨g, A⟩ ⟨i1, i2, i3⟩
    simp only at i1 i2 i3
    show ∃ g', Fi_countWays_L17 Y fi (F + 1) (nI (cN c 2)) (hWl h (hGr h 101 fi) g) = _
    rw [Fi_countWays_L17, gi_wl, K.1, if_pos (nI_le (Nat.le_refl _) (by omega)), l87 g A i1]
    rcases JW_end i2 with e | ⟨z, z1, z2, z3⟩
    · rw [e]; exact ⟨g, rfl⟩
    · exact absurd (i3 z z1 (by omega)) z3
  · show vp_updL g0 0 1 i = lN (if i = 0 then 1 else 0)
    by_cases e : i = 0
    · rw [e, pk_uLs, if_pos rfl]; rfl
    · rw [pk_uLn e, if_neg e, f2 i hi]; rfl
  · show (if g = 0 then 1 else 0) = 0
    rw [if_neg]
    intro e
    subst e
    have : pcnt 0 = 0 := by decide
    omega
end WyC
theorem LP_ways_q {Y : Ly} {h : Hp} {x : Nat} {c : Nat → Int32} (X : CT Y h x c) : CQ Y x h (LP_ways Y x h) (lN (wyS c)) (nI 0) := by
  unfold LP_ways
  obtain ⟨h', e1, e2, e3⟩ := Fi_lookAt_s X X.e X.f
  have X' := CT_C X (Cf_Q e2)
  have X5 := CT_C X' (Cf_si (x := x) (v := 0))
  have K5 : FK (hSi h' 1112 x 0) (hGr h 1106 x) c := by
    refine ⟨?_, ?_, e3.2.2⟩
    · rw [gi_si, if_neg (by omega)]; exact e3.1
    · rw [gi_si, if_neg (by omega)]; exact e3.2.1
  obtain ⟨g, e4⟩ := Fi_countWays_s X5 X.f K5
  rw [e1, bind_s, letH_e, gr_si, e2.2.2.1 1106 x (by decide), e4, bind_s]
  refine ⟨_, rfl, Cf_tr (Cf_Q e2) (Cf_tr Cf_si (Cf_Q (Qf_wl (n := 200) (by decide) rfl X.f))), ?_⟩
  rw [gi_wl, gi_si, if_pos ⟨rfl, rfl⟩]
  rfl
section WyM
variable {Y : Ly} {h : Hp} {m : Nat} {c : Nat → Int32}
theorem M_waysFrom_s (X : MX Y h m c) (K : FM h m c) : ∀ (r k left d : Nat), cN c 2 = k + r → left < 256 → r < d → M_waysFrom Y d m (nI k) (nI left) h = some (lN (wr (fitS c (cN c 9)) (cN c 2) (cN c 3) r left)) := by
  obtain ⟨S, B, V⟩ := X
  have l2 := VC_l2 V
  have l3 := VC_l3 V
  intro r
  induction r with
  | zero =>
    intro k left d hk hl hd
    obtain ⟨d, rfl⟩ : ∃ d', d = d' + 1 := ⟨d - 1, by omega⟩
    rw [M_waysFrom, M_waysFrom_b]
    simp (disch := omega) only [zlit, ml1220 S, inB_nI, if_true, nI_clamp, MB0 B, VC_e2 V, nI_eq]
    rw [if_pos (by omega)]
    rfl
  | succ r ih =>
    intro k left d hk hl hd
    obtain ⟨d, rfl⟩ : ∃ d', d = d' + 1 := ⟨d - 1, by omega⟩
    rw [M_waysFrom, M_waysFrom_b]
    simp (disch := omega) only [zlit, ml1220 S, inB_nI, if_true, nI_clamp, MB0 B, VC_e2 V, nI_eq]
    rw [if_neg (by omega)]
    rw [wr, show cN c 2 - (r + 1) = k by omega]
    refine upl (Q := fun q => q = some (lN (sm (fun f => if (fitS c (cN c 9) k &&& left).testBit f = true then wr (fitS c (cN c 9)) (cN c 2) (cN c 3) r (left - 2 ^ f) else 0) (cN c 3)))) (fun F f (_ : Unit) => M_waysFrom_L17 Y (M_waysFrom Y d) m (nI k) (nI left) h F (lN (sm (fun f => if (fitS c (cN c 9) k &&& left).testBit f = true then wr (fitS c (cN c 9)) (cN c 2) (cN c 3) r (left - 2 ^ f) else 0) f)) (nI f)) (cN c 3) (fun _ _ => True) ?_ ?_ (cN c 3) 0 () FU (by omega) (by unfold FU; omega) trivial
    · intro F f _ hf _
      right
      refine ⟨(), ?_, trivial⟩
      have hand : fitS c (cN c 9) k &&& left < 2 ^ 31 := Nat.lt_of_le_of_lt Nat.and_le_right (by omega)
      show M_waysFrom_L17 Y (M_waysFrom Y d) m (nI k) (nI left) h (F + 1) _ (nI f) = M_waysFrom_L17 Y (M_waysFrom Y d) m (nI k) (nI left) h F (lN (sm _ f + _)) (nI (f + 1))
      rw [M_waysFrom_L17]
      simp (disch := omega) only [zlit, ml1220 S, ml1232 S, inB_nI, if_true, nI_clamp, MB0 B, VC_e3 V, nI_leI, K k (by omega), zand, M_has_s, bind_s, nI_add, zone]
      rw [if_neg (by omega)]
      by_cases q : (fitS c (cN c 9) k &&& left).testBit f = true
      · have hlb : left.testBit f = true := by rw [Nat.testBit_and, Bool.and_eq_true] at q; exact q.2
        have cb := clr_bit ⟨left, hl⟩ ⟨f, by omega⟩ hlb
        simp only at cb
        rw [if_pos q, if_pos q, show nI left &&& (nI (2 ^ f) ^^^ -nI 1) = nI (left &&& (2 ^ f ^^^ 4294967295)) from zcom _ _, cb, ih (k + 1) (left - 2 ^ f) d (by omega) (Nat.lt_of_le_of_lt (Nat.sub_le _ _) hl) (by omega), bind_s, lN_add]
      · rw [if_neg q, if_neg q]; rfl
    · intro F _ _
      show M_waysFrom_L17 Y (M_waysFrom Y d) m (nI k) (nI left) h (F + 1) _ (nI (cN c 3)) = _
      rw [M_waysFrom_L17]
      simp (disch := omega) only [zlit, ml1220 S, inB_nI, if_true, nI_clamp, MB0 B, VC_e3 V, nI_leI]
      rw [if_pos (by omega)]
theorem M_ways_q (X : MX Y h m c) : mQ Y m h (M_ways Y m h) (lN (wyS c)) (nI 0) := by
  have X0 := mX0 X
  have l2 := VC_l2 X.2.2
  unfold M_ways
  simp only [letH_e]
  obtain ⟨h1, e1, e2, K⟩ := M_laysFits_s X0
  have X1 := MX_M X0 e2.1
  have e3 := M_waysFrom_s X1 K (cN c 2) 0 255 8 (by omega) (by omega) (by omega)
  rw [show hSi (hSi h 1201 m 0) 1200 m 0 = mst h m from rfl, e1, bind_s, show (0 : Int32) = nI 0 from rfl, show (255 : Int32) = nI 255 from rfl, e3, bind_s]
  exact mQ_e e2
end WyM
