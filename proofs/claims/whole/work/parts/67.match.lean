/-! ===== match: the class, the reference ===== -/
def mtS (c : Nat → Int32) : Nat := mbR (fitS c (cN c 9)) (cN c 2) (cN c 2) 255
section MtC
variable {Y : Ly} {h : Hp} {s x fi : Nat} {c : Nat → Int32}
theorem Fi_mostAtOnce_s (X : CX Y h x s c) (hf : isO Y 1 fi) (K : FK h fi c) : Fi_mostAtOnce Y fi h = some (nI (mtS c)) := by
  have V := X.2.2.2.2
  have l2 := VC_l2 V
  have p2 := pow_le6 l2
  have p2' := Nat.two_pow_pos (cN c 2)
  have hh := hall (fitS c (cN c 9)) (n := cN c 2) (by omega)
  have d1 : dfF (fitS c (cN c 9)) (cN c 2) 1 = 0 := by
    show (if 0 < pcnt 0 - pcnt (unio (fitS c (cN c 9)) 0 (cN c 2)) then _ else _) = 0
    rw [show pcnt 0 = 0 by decide, Nat.zero_sub, if_neg (by omega)]
    rfl
  have dle : ∀ N, dfF (fitS c (cN c 9)) (cN c 2) N ≤ 8 := fun N => dfF_le N (fun a _ => by have := pcnt_le a; omega)
  unfold Fi_mostAtOnce
  have key := upl (Q := fun r => r = some (nI (mtS c))) (fun F i (_ : Unit) => Fi_mostAtOnce_L4 Y fi h F (nI (dfF (fitS c (cN c 9)) (cN c 2) i)) (nI i)) (2 ^ cN c 2) (fun _ _ => True) ?_ ?_ (2 ^ cN c 2 - 1) 1 () FU (by omega) (by unfold FU; omega) trivial
  · simp only [d1] at key
    exact key
  · intro F i _ hi _
    right
    refine ⟨(), ?_, trivial⟩
    have a1 := pcnt_le i
    have a2 := pcnt_le (unio (fitS c (cN c 9)) i (cN c 2))
    have a3 := dle i
    show Fi_mostAtOnce_L4 Y fi h (F + 1) (nI (dfF (fitS c (cN c 9)) (cN c 2) i)) (nI i) = Fi_mostAtOnce_L4 Y fi h F (nI (dfF (fitS c (cN c 9)) (cN c 2) (i + 1))) (nI (i + 1))
    rw [Fi_mostAtOnce_L4, K.1, Fi_tooMany_s X hf K (by omega), bind_s, dfF]
    simp (disch := omega) only [zlit, zand, zone, nI_leI, nI_add]
    rw [if_neg (show ¬ 2 ^ cN c 2 ≤ i by omega)]
    congr 1
    by_cases q : dfF (fitS c (cN c 9)) (cN c 2) i < pcnt i - pcnt (unio (fitS c (cN c 9)) i (cN c 2))
    · rw [if_pos q, if_pos, pk_sub (by omega)]
      rw [Int32.lt_iff_toInt_lt, pk_sub_toInt (by omega) (by omega), nI_toInt (by omega)]
      omega
    · rw [if_neg q, if_neg]
      rw [Int32.lt_iff_toInt_lt, pk_sub_toInt (by omega) (by omega), nI_toInt (by omega)]
      omega
  · intro F _ _
    show Fi_mostAtOnce_L4 Y fi h (F + 1) (nI (dfF (fitS c (cN c 9)) (cN c 2) (2 ^ cN c 2))) (nI (2 ^ cN c 2)) = _
    rw [Fi_mostAtOnce_L4, K.1]
    simp (disch := omega) only [zlit, zand, zone, nI_leI]
    rw [if_pos (Nat.le_refl _), pk_sub hh.2, hh.1]
    rfl
end MtC
theorem LP_match_q {Y : Ly} {h : Hp} {x : Nat} {c : Nat → Int32} (X : CT Y h x c) : CQ Y x h (LP_match Y x h) (nI (mtS c)) (nI 0) := by
  unfold LP_match
  obtain ⟨h', e1, e2, e3⟩ := Fi_lookAt_s X X.e X.f
  have X' := CT_C X (Cf_Q e2)
  rw [e1, bind_s, e2.2.2.1 1106 x (by decide), Fi_mostAtOnce_s X' X.f e3, bind_s]
  exact CQ_give (Cf_Q e2)
section MtM
variable {Y : Ly} {h : Hp} {m : Nat} {c : Nat → Int32}
theorem mbR_le {fit : Nat → Nat} {n : Nat} : ∀ r left, mbR fit n r left ≤ r := by
  intro r
  induction r with
  | zero => intro left; exact Nat.le_refl _
  | succ r ih =>
    intro left
    rcases mbF_or (base := mbR fit n r left) (p := fun f => (fit (n - (r + 1)) &&& left).testBit f) (v := fun f => mbR fit n r (del left f)) 8 with e | ⟨f, _, _, e⟩
    · show mbF _ _ _ 8 ≤ _
      rw [e]; have := ih left; omega
    · show mbF _ _ _ 8 ≤ _
      rw [e]; have := ih (del left f); omega
theorem M_mostBooks_s (X : MX Y h m c) (K : FM h m c) : ∃ h', M_mostBooks Y m h = some (nI (mtS c), h') ∧ Mg Y m h h' := by
  have V := X.2.2
  have S := X.1
  have l2 := VC_l2 V
  have hA : ∀ g, Mg Y m h (hWi h (hGr h 1233 m) g) := fun g => Mg_wi S rfl (by decide)
  have X' : ∀ g, MX Y (hWi h (hGr h 1233 m) g) m c := fun g => MX_M X (hA g).1
  have ne : hGr h 1232 m ≠ hGr h 1233 m := MS_ne S (by decide) (by decide) (by decide)
  have K' : ∀ g, FM (hWi h (hGr h 1233 m) g) m c := fun g b hb => by rw [gr_wi, ai_wi, if_neg ne]; exact K b hb
  generalize hn : cN c 2 = n at *
  have l62 : ∀ (b left : Nat) (g : Nat → Int32) (k37 : Int32 → Hp → Option (Int32 × Hp)), b < n → left < 256 → (∀ z, z < 256 → g (256 * (b + 1) + z) = nI (mbR (fitS c (cN c 9)) n (n - (b + 1)) z)) →
      M_mostBooks_L62 Y m (nI b) (nI left) (hWi h (hGr h 1233 m) g) k37 FU (nI (mbR (fitS c (cN c 9)) n (n - (b + 1)) left)) 0 = k37 (nI (left + 1)) (hWi h (hGr h 1233 m) (upd g (256 * b + left) (nI (mbR (fitS c (cN c 9)) n (n - b) left)))) := by
    intro b left g k37 hb hl hg
    have er : mbR (fitS c (cN c 9)) n (n - b) left = mbF (mbR (fitS c (cN c 9)) n (n - (b + 1)) left) (fun f => (fitS c (cN c 9) b &&& left).testBit f) (fun f => mbR (fitS c (cN c 9)) n (n - (b + 1)) (del left f)) 8 := by
      rw [show n - b = (n - (b + 1)) + 1 by omega]
      show mbF _ (fun f => (fitS c (cN c 9) (n - (n - (b + 1) + 1)) &&& left).testBit f) _ 8 = _
      rw [show n - (n - (b + 1) + 1) = b by omega]
    have Xg := X' g
    have bnd : ∀ f, mbF (mbR (fitS c (cN c 9)) n (n - (b + 1)) left) (fun f => (fitS c (cN c 9) b &&& left).testBit f) (fun f => mbR (fitS c (cN c 9)) n (n - (b + 1)) (del left f)) f ≤ 8 := by
      intro f
      rcases mbF_or (base := mbR (fitS c (cN c 9)) n (n - (b + 1)) left) (p := fun f => (fitS c (cN c 9) b &&& left).testBit f) (v := fun f => mbR (fitS c (cN c 9)) n (n - (b + 1)) (del left f)) f with e | ⟨f', _, _, e⟩
      · rw [e]; have := mbR_le (fit := fitS c (cN c 9)) (n := n) (n - (b + 1)) left; omega
      · rw [e]; have := mbR_le (fit := fitS c (cN c 9)) (n := n) (n - (b + 1)) (del left f'); omega
    rw [er]
    refine upl (Q := fun r => r = k37 (nI (left + 1)) (hWi h (hGr h 1233 m) (upd g (256 * b + left) (nI (mbF (mbR (fitS c (cN c 9)) n (n - (b + 1)) left) (fun f => (fitS c (cN c 9) b &&& left).testBit f) (fun f => mbR (fitS c (cN c 9)) n (n - (b + 1)) (del left f)) 8))))) (fun F f (_ : Unit) => M_mostBooks_L62 Y m (nI b) (nI left) (hWi h (hGr h 1233 m) g) k37 F (nI (mbF (mbR (fitS c (cN c 9)) n (n - (b + 1)) left) (fun f => (fitS c (cN c 9) b &&& left).testBit f) (fun f => mbR (fitS c (cN c 9)) n (n - (b + 1)) (del left f)) f)) (nI f)) 8 (fun _ _ => True) ?_ ?_ 8 0 () FU (by omega) (by unfold FU; omega) trivial
    · intro F f _ hf _
      right
      refine ⟨(), ?_, trivial⟩
      have hand : fitS c (cN c 9) b &&& left < 2 ^ 31 := Nat.lt_of_le_of_lt Nat.and_le_right (by omega)
      have dl := del_le left f
      have bf := bnd f
      have bv := mbR_le (fit := fitS c (cN c 9)) (n := n) (n - (b + 1)) (del left f)
      show M_mostBooks_L62 Y m (nI b) (nI left) (hWi h (hGr h 1233 m) g) k37 (F + 1) (nI (mbF _ _ _ f)) (nI f) = M_mostBooks_L62 Y m (nI b) (nI left) (hWi h (hGr h 1233 m) g) k37 F (nI (mbF _ _ _ (f + 1))) (nI (f + 1))
      have e1 : (1 : Int32) <<< (nI f &&& 31) = nI (2 ^ f) := by
        have := zone (k := f) (by omega)
        simp only [zlit, zand]
        exact this
      rw [M_mostBooks_L62, if_neg (show ¬ (8 : Int32) ≤ nI f from nI_ge (b := 8) hf (by omega)), ml1232 Xg.1, if_pos (inB_nI (by omega) (by omega)), nI_clamp (show b < 2 ^ 31 by omega), K' g b (by omega), zand, M_has_s hand (by omega), bind_s, e1, show nI left &&& (nI (2 ^ f) ^^^ (-1)) = nI (del left f) from zcom _ _, mbF, nI_1, nI_1]
      by_cases q : (fitS c (cN c 9) b &&& left).testBit f = true
      · rw [if_pos q, if_pos q, show (256 : Int32) * nI (b + 1) + nI (del left f) = nI (256 * (b + 1) + del left f) by simp only [zlit, pk_mul, nI_add], ml1233 Xg.1, if_pos (inB_nI (by omega) (by omega)), nI_clamp (show 256 * (b + 1) + del left f < 2 ^ 31 by omega), gr_wi, ai_wi, if_pos rfl, hg _ (by omega), show (1 : Int32) + nI (mbR (fitS c (cN c 9)) n (n - (b + 1)) (del left f)) = nI (1 + mbR (fitS c (cN c 9)) n (n - (b + 1)) (del left f)) from nI_add 1 _]
        simp (disch := omega) only [nI_ltI]
        congr 1
        split <;> rfl
      · rw [if_neg q, if_neg q]
    · intro F _ _
      show M_mostBooks_L62 Y m (nI b) (nI left) (hWi h (hGr h 1233 m) g) k37 (F + 1) _ (nI 8) = _
      rw [M_mostBooks_L62, if_pos (by decide), show (256 : Int32) * nI b + nI left = nI (256 * b + left) by simp only [zlit, pk_mul, nI_add], ml1233 Xg.1, if_pos (inB_nI (by omega) (by omega)), letH_e, nI_clamp (by omega), gr_wi, ti_wi, nI_1]
  have l37 : ∀ (b : Nat) (g : Nat → Int32) (k31 : Int32 → Hp → Option (Int32 × Hp)), b < n → (∀ z, z < 256 → g (256 * (b + 1) + z) = nI (mbR (fitS c (cN c 9)) n (n - (b + 1)) z)) →
      ∃ g', M_mostBooks_L37 Y m (nI b) k31 FU 0 (hWi h (hGr h 1233 m) g) = k31 (dn b) (hWi h (hGr h 1233 m) g') ∧ ∀ z, z < 256 → g' (256 * b + z) = nI (mbR (fitS c (cN c 9)) n (n - b) z) := by
    intro b g k31 hb hg
    refine upl (Q := fun r => ∃ g', r = k31 (dn b) (hWi h (hGr h 1233 m) g') ∧ ∀ z, z < 256 → g' (256 * b + z) = nI (mbR (fitS c (cN c 9)) n (n - b) z)) (fun F left g => M_mostBooks_L37 Y m (nI b) k31 F (nI left) (hWi h (hGr h 1233 m) g)) 256 (fun left g => (∀ z, z < 256 → g (256 * (b + 1) + z) = nI (mbR (fitS c (cN c 9)) n (n - (b + 1)) z)) ∧ ∀ z, z < left → g (256 * b + z) = nI (mbR (fitS c (cN c 9)) n (n - b) z)) ?_ ?_ 256 0 g FU (by omega) (by unfold FU; omega) ⟨hg, fun z hz => absurd hz (by omega)⟩
    · intro F left g hl ⟨i1, i2⟩
      right
      have Xg := X' g
      have e1 := l62 b left g (M_mostBooks_L37 Y m (nI b) k31 F) hb hl i1
      show ∃ s', M_mostBooks_L37 Y m (nI b) k31 (F + 1) (nI left) (hWi h (hGr h 1233 m) g) = M_mostBooks_L37 Y m (nI b) k31 F (nI (left + 1)) (hWi h (hGr h 1233 m) s') ∧ _
      rw [M_mostBooks_L37, if_neg (show ¬ (256 : Int32) ≤ nI left from nI_ge (b := 256) hl (by omega)), show (256 : Int32) * (nI b + 1) + nI left = nI (256 * (b + 1) + left) by simp only [zlit, pk_mul, nI_add], ml1233 Xg.1, if_pos (inB_nI (by omega) (by omega)), nI_clamp (by omega), gr_wi, ai_wi, if_pos rfl, i1 left hl]
      refine ⟨_, e1, fun z hz => ?_, fun z hz => ?_⟩
      · rw [pk_un (by omega)]; exact i1 z hz
      · by_cases e : z = left
        · rw [e, pk_us]
        · rw [pk_un (by omega)]; exact i2 z (by omega)
    · intro F g ⟨i1, i2⟩
      show ∃ g', M_mostBooks_L37 Y m (nI b) k31 (F + 1) (nI 256) (hWi h (hGr h 1233 m) g) = _ ∧ _
      rw [M_mostBooks_L37, if_pos (by decide)]
      refine ⟨g, ?_, i2⟩
      rw [zm1, dn_s]
  have l31 : ∀ g, (∀ z, z < 256 → g (256 * n + z) = nI 0) → ∃ h', M_mostBooks_L31 Y m FU (dn n) (hWi h (hGr h 1233 m) g) = some (nI (mtS c), h') ∧ Mg Y m h h' := by
    intro g hg
    refine dnl (Q := fun r => ∃ h', r = some (nI (mtS c), h') ∧ Mg Y m h h') (fun F i g => M_mostBooks_L31 Y m F (dn i) (hWi h (hGr h 1233 m) g)) (fun i g => i ≤ n ∧ ∀ z, z < 256 → g (256 * i + z) = nI (mbR (fitS c (cN c 9)) n (n - i) z)) ?_ ?_ n g FU (by unfold FU; omega) ⟨Nat.le_refl _, fun z hz => by rw [hg z hz, Nat.sub_self]; rfl⟩
    · intro F i g ⟨i1, i2⟩
      right
      obtain ⟨g', e1, e2⟩ := l37 i g (M_mostBooks_L31 Y m F) (by omega) i2
      refine ⟨g', ?_, by omega, e2⟩
      show M_mostBooks_L31 Y m (F + 1) (nI i) (hWi h (hGr h 1233 m) g) = _
      rw [M_mostBooks_L31, if_neg (nI_pos (by omega))]
      exact e1
    · intro F g ⟨i1, i2⟩
      have Xg := X' g
      show ∃ h', M_mostBooks_L31 Y m (F + 1) m1 (hWi h (hGr h 1233 m) g) = _ ∧ _
      have h2 := i2 255 (by omega)
      rw [show 256 * 0 + 255 = 255 by omega, Nat.sub_zero] at h2
      rw [M_mostBooks_L31, if_pos (by decide), ml1233 Xg.1, if_pos (show inB 255 1792 = true by decide), gr_wi, ai_wi, if_pos rfl, show Int32.toNatClampNeg 255 = 255 by decide, h2]
      refine ⟨_, ?_, hA g⟩
      unfold mtS
      rw [hn]
  unfold M_mostBooks
  have key := upl (Q := fun r => ∃ h', r = some (nI (mtS c), h') ∧ Mg Y m h h') (fun F k g => M_mostBooks_L2 Y m F (nI k) (hWi h (hGr h 1233 m) g)) 1792 (fun k g => ∀ z, z < k → g z = nI 0) ?_ ?_ 1792 0 (hAi h (hGr h 1233 m)) FU (by omega) (by unfold FU; omega) (fun z hz => absurd hz (by omega))
  · simp only [wi_self] at key
    exact key
  · intro F k g hk hI
    right
    have Xg := X' g
    show ∃ s', M_mostBooks_L2 Y m (F + 1) (nI k) (hWi h (hGr h 1233 m) g) = M_mostBooks_L2 Y m F (nI (k + 1)) (hWi h (hGr h 1233 m) s') ∧ _
    rw [M_mostBooks_L2]
    simp (disch := omega) only [zlit, nI_leI, ml1233 Xg.1, inB_nI, if_true, nI_clamp, letH_e, nI_add]
    rw [if_neg (by omega), gr_wi, ti_wi]
    refine ⟨_, rfl, fun z hz => ?_⟩
    by_cases e : z = k
    · rw [e, pk_us]
    · rw [pk_un e]; exact hI z (by omega)
  · intro F g hI
    have Xg := X' g
    show ∃ h', M_mostBooks_L2 Y m (F + 1) (nI 1792) (hWi h (hGr h 1233 m) g) = _ ∧ _
    have e2 := VC_e2 V
    rw [hn] at e2
    rw [M_mostBooks_L2, if_pos (by decide), ml1220 Xg.1, if_pos (show inB 2 2880 = true by decide), show hAi (hWi h (hGr h 1233 m) g) (hGr (hWi h (hGr h 1233 m) g) 1220 m) (Int32.toNatClampNeg 2) = c 2 from MB0 Xg.2.1 (i := 2) (by omega), e2, show nI n - 1 = dn n from dn_sub n]
    exact l31 g (fun z hz => hI _ (by omega))
theorem M_match_q (X : MX Y h m c) : mQ Y m h (M_match Y m h) (nI (mtS c)) (nI 0) := by
  have X0 := mX0 X
  unfold M_match
  simp only [letH_e]
  obtain ⟨h1, e1, e2, K⟩ := M_laysFits_s X0
  have X1 := MX_M X0 e2.1
  obtain ⟨h2, e3, e4⟩ := M_mostBooks_s X1 K
  rw [show hSi (hSi h 1201 m 0) 1200 m 0 = mst h m from rfl, e1, bind_s, e3, bind_s]
  exact mQ_e (Mg_tr e2 e4)
end MtM
