/-! ===== who must lie ===== -/
def minK (p : Nat → Bool) (n : Nat) (o : Option Nat) : Prop := match o with
  | none => ∀ a, a < n → p a = false
  | some k => k < n ∧ p k = true ∧ ∀ a, a < n → p a = true → pcnt k < pcnt a ∨ (pcnt k = pcnt a ∧ k ≤ a)
theorem scan_min (p : Nat → Bool) : ∀ n, minK p n (scan (fun a o => fewer a o && p a) none n) := by
  intro n
  induction n with
  | zero => intro a ha; omega
  | succ n ih =>
    rw [scan]
    cases hs : scan (fun a o => fewer a o && p a) none n with
    | none =>
      rw [hs] at ih
      by_cases q : p n = true
      · rw [if_pos (by simp [fewer, q])]
        refine ⟨by omega, q, fun a ha hp => ?_⟩
        by_cases e : a = n
        · subst e; exact Or.inr ⟨rfl, Nat.le_refl _⟩
        · rw [ih a (by omega)] at hp; cases hp
      · rw [if_neg (by simp [fewer, q])]
        intro a ha
        by_cases e : a = n
        · subst e; simpa using q
        · exact ih a (by omega)
    | some k =>
      rw [hs] at ih
      obtain ⟨i1, i2, i3⟩ := ih
      by_cases q : (fewer n (some k) && p n) = true
      · rw [if_pos q]
        simp only [fewer, Bool.and_eq_true, decide_eq_true_eq] at q
        refine ⟨by omega, q.2, fun a ha hp => ?_⟩
        by_cases e : a = n
        · subst e; exact Or.inr ⟨rfl, Nat.le_refl _⟩
        · rcases i3 a (by omega) hp with z | ⟨z, _⟩ <;> exact Or.inl (by omega)
      · rw [if_neg q]
        refine ⟨by omega, i2, fun a ha hp => ?_⟩
        by_cases e : a = n
        · subst e
          simp only [fewer, hp, Bool.and_true, decide_eq_true_eq] at q
          by_cases z : pcnt k = pcnt a
          · exact Or.inr ⟨z, by omega⟩
          · exact Or.inl (by omega)
        · exact i3 a (by omega) hp
theorem minK_uniq {p : Nat → Bool} {n : Nat} {o o' : Option Nat} (h : minK p n o) (h' : minK p n o') : o = o' := by
  cases o with
  | none =>
    cases o' with
    | none => rfl
    | some k => have := h k h'.1; rw [h'.2.1] at this; cases this
  | some k =>
    cases o' with
    | none => have := h' k h.1; rw [h.2.1] at this; cases this
    | some k' =>
      rcases h.2.2 k' h'.1 h'.2.1 with a | ⟨a, a'⟩
      · rcases h'.2.2 k h.1 h.2.1 with b | ⟨b, b'⟩ <;> omega
      · rcases h'.2.2 k h.1 h.2.1 with b | ⟨b, b'⟩
        · omega
        · rw [show k = k' by omega]
/-- from one that is there already -/
theorem scan_from (p : Nat → Bool) (s : Nat) : ∀ n, ∃ k, scan (fun a o => fewer a o && p a) (some s) n = some k ∧ ((k = s ∧ ∀ a, a < n → p a = true → ¬ pcnt a < pcnt s) ∨ (k < n ∧ p k = true ∧ pcnt k < pcnt s ∧ ∀ a, a < n → p a = true → pcnt k < pcnt a ∨ (pcnt k = pcnt a ∧ k ≤ a))) := by
  intro n
  induction n with
  | zero => exact ⟨s, rfl, Or.inl ⟨rfl, fun a ha => absurd ha (by omega)⟩⟩
  | succ n ih =>
    obtain ⟨k, e, hk⟩ := ih
    rw [scan, e]
    by_cases q : (fewer n (some k) && p n) = true
    · rw [if_pos q]
      simp only [fewer, Bool.and_eq_true, decide_eq_true_eq] at q
      refine ⟨n, rfl, Or.inr ⟨by omega, q.2, ?_, fun a ha hp => ?_⟩⟩
      · rcases hk with ⟨z, _⟩ | ⟨_, _, z, _⟩
        · rw [← z]; exact q.1
        · omega
      · by_cases e' : a = n
        · subst e'; exact Or.inr ⟨rfl, Nat.le_refl _⟩
        · rcases hk with ⟨z, z2⟩ | ⟨_, _, _, z⟩
          · have := z2 a (by omega) hp
            rw [← z] at this
            exact Or.inl (by omega)
          · rcases z a (by omega) hp with y | ⟨y, _⟩ <;> exact Or.inl (by omega)
    · rw [if_neg q]
      refine ⟨k, rfl, ?_⟩
      simp only [fewer, Bool.and_eq_true, decide_eq_true_eq, not_and] at q
      rcases hk with ⟨z, z2⟩ | ⟨y1, y2, y3, y4⟩
      · left
        refine ⟨z, fun a ha hp => ?_⟩
        by_cases e' : a = n
        · subst e'; rw [← z]; exact fun w => q w hp
        · exact z2 a (by omega) hp
      · right
        refine ⟨by omega, y2, y3, fun a ha hp => ?_⟩
        by_cases e' : a = n
        · subst e'
          have hq : ¬ pcnt a < pcnt k := fun w => q w hp
          by_cases w : pcnt k = pcnt a
          · exact Or.inr ⟨w, by omega⟩
          · exact Or.inl (by omega)
        · exact y4 a (by omega) hp
def lyM (c : Nat → Int32) (b : Nat) : Option Nat := scan (fun a o => fewer a o && decide (0 < ecn c b a)) none (2 ^ cN c 4)
def lyC (c : Nat → Int32) (b : Nat) : Option Nat := if ecn c b (spk c b) = 0 then none else scan (fun a o => fewer a o && (decide (a &&& spk c b = a) && decide (0 < ecn c b a))) (some (spk c b)) (spk c b)
theorem spk_lt {c : Nat → Int32} (V : VB c) (b : Nat) : spk c b < 2 ^ cN c 4 := spkF_lt b _ (fun i hi => (V.2.2.2.2.2.2.1 i hi).2.2.2.2)
theorem and_sub (a s : Nat) : sub (a &&& s) a := fun i hi => by rw [Nat.testBit_and, Bool.and_eq_true] at hi; exact hi.1
theorem ly_eq {c : Nat → Int32} (V : VB c) (b : Nat) : lyC c b = lyM c b := by
  have l4 := VC_l4 V
  have p4 : 2 ^ cN c 4 ≤ 2 ^ 8 := Nat.pow_le_pow_right (by decide) (by omega)
  have hs := spk_lt V b
  refine minK_uniq (p := fun a => decide (0 < ecn c b a)) (n := 2 ^ cN c 4) ?_ (scan_min _ _)
  unfold lyC
  by_cases h0 : ecn c b (spk c b) = 0
  · rw [if_pos h0]
    intro a _
    have := ecn_spk c b a
    simp; omega
  · rw [if_neg h0]
    obtain ⟨k, e, hk⟩ := scan_from (fun a => decide (a &&& spk c b = a) && decide (0 < ecn c b a)) (spk c b) (spk c b)
    rw [e]
    have small : ∀ a, a < 2 ^ cN c 4 → 0 < ecn c b a → a &&& spk c b = spk c b ∨ (a &&& spk c b < spk c b ∧ (decide ((a &&& spk c b) &&& spk c b = a &&& spk c b) && decide (0 < ecn c b (a &&& spk c b))) = true) := by
      intro a _ hp
      by_cases q : a &&& spk c b = spk c b
      · exact Or.inl q
      · right
        have : a &&& spk c b ≤ spk c b := Nat.and_le_right
        refine ⟨by omega, ?_⟩
        rw [Nat.and_assoc, Nat.and_self, ecn_and]
        simp [hp]
    have pc : ∀ a, a < 2 ^ cN c 4 → pcnt (a &&& spk c b) < pcnt a ∨ a &&& spk c b = a := by
      intro a ha
      by_cases q : a &&& spk c b = a
      · exact Or.inr q
      · exact Or.inl (sub_ne (and_sub a _) (n := 8) (by omega) q)
    have le : ∀ a, a &&& spk c b ≤ a := fun a => Nat.and_le_left
    have self : ∀ a, (decide (a &&& spk c b = a) && decide (0 < ecn c b a)) = true → a &&& spk c b = a := fun a h => by simp at h; exact h.1
    rcases hk with ⟨rfl, hk⟩ | ⟨h1, h2, h3, h4⟩
    · refine ⟨hs, by simp; omega, fun a ha hp => ?_⟩
      simp only [decide_eq_true_eq] at hp
      rcases small a ha hp with q | ⟨q1, q2⟩
      · rcases pc a ha with z | z
        · rw [q] at z; exact Or.inl z
        · rw [q] at z; rw [z]; exact Or.inr ⟨rfl, Nat.le_refl _⟩
      · have z := hk _ q1 q2
        have ss : sub (a &&& spk c b) (spk c b) := fun i hi => by rw [Nat.testBit_and, Bool.and_eq_true] at hi; exact hi.2
        have := sub_ne ss (n := 8) (by omega) (by omega)
        exact absurd this z
    · simp only [Bool.and_eq_true, decide_eq_true_eq] at h2
      refine ⟨by omega, by simpa using h2.2, fun a ha hp => ?_⟩
      simp only [decide_eq_true_eq] at hp
      rcases small a ha hp with q | ⟨q1, q2⟩
      · rcases pc a ha with z | z
        · rw [q] at z; exact Or.inl (by omega)
        · rw [q] at z; rw [← z]; exact Or.inl h3
      · rcases pc a ha with z | z
        · rcases h4 _ q1 q2 with y | ⟨y, _⟩ <;> exact Or.inl (by omega)
        · rw [z] at q1 q2
          exact h4 a q1 q2
theorem notand : ∀ a : Fin 64, ∀ s : Fin 64, decide (nI a.val &&& (nI s.val ^^^ (-1)) = nI 0) = decide (a.val &&& s.val = a.val) := by decide +kernel
section LyC
variable {Y : Ly} {h : Hp} {s x e : Nat} {c : Nat → Int32} {b : Nat}
theorem Sh_speakersOf_s (X : CX Y h x s c) (hb : b < 64) : Sh_speakersOf Y s (nI b) h = some (nI (spk c b)) := by
  have V := X.2.2.2.2
  have l5 := VC_l5 V
  have l4 := VC_l4 V
  have l2 := VC_l2 V
  unfold Sh_speakersOf
  refine upl (Q := fun r => r = some (nI (spk c b))) (fun F i (_ : Unit) => Sh_speakersOf_L4 Y s (nI b) h F (nI (spkF c b i)) (nI i)) (cN c 5) (fun _ _ => True) ?_ ?_ (cN c 5) 0 () FU (by omega) (by unfold FU; omega) trivial
  · intro F i _ hi _
    right
    refine ⟨(), ?_, trivial⟩
    have hH := V.2.2.2.2.2.2.1 i hi
    have a1 := hH.1.2
    have a4 := hH.2.2.2.2
    show Sh_speakersOf_L4 Y s (nI b) h (F + 1) _ (nI i) = Sh_speakersOf_L4 Y s (nI b) h F (nI (spkF c b (i + 1))) (nI (i + 1))
    rw [Sh_speakersOf_L4, X.2.2.2.1.1.2.2.2.2.2.1, VC_e5 V, if_neg (nI_ge hi (by omega))]
    simp (disch := omega) only [zlit, hp0 X hi, hp3 X hi, bind_s, nI_eq, zand, zone, zor, nI_add, spkF]
    split <;> rfl
  · intro F _ _
    show Sh_speakersOf_L4 Y s (nI b) h (F + 1) _ (nI (cN c 5)) = _
    rw [Sh_speakersOf_L4, X.2.2.2.1.1.2.2.2.2.2.1, VC_e5 V, if_pos (nI_le (Nat.le_refl _) (by omega))]
    rfl
theorem lN_pos {k : Nat} (hk : k < 2 ^ 62) : (lN k ≤ 0) ↔ k = 0 := by
  have := pk_lLE (a := k) (b := 0) (by omega) (by omega)
  rw [show (0 : Int64) = lN 0 from rfl, this]
  omega
theorem lN_0 {k : Nat} (hk : k < 2 ^ 62) : (lN k = 0) ↔ k = 0 := by
  have := pk_lEQ (a := k) (b := 0) (by omega) (by omega)
  rw [show (0 : Int64) = lN 0 from rfl, this]
theorem En_fewestLiars_s (X : CX Y h x s c) (he : isO Y 0 e) (hb : b < cN c 2) : ∃ h', En_fewestLiars Y e s (nI b) h = some (on (lyC c b), h') ∧ Qf Y 100 h h' := by
  have V := X.2.2.2.2
  have l4 := VC_l4 V
  have l2 := VC_l2 V
  have p4 := pow_le6 l4
  have hs := spk_lt V b
  unfold En_fewestLiars lyC
  rw [Sh_speakersOf_s X (by omega), bind_s]
  obtain ⟨h1, e1, q1, _⟩ := En_countOf_s (L := spk c b) X he hb (by omega)
  have X1 := CX_Q X q1
  rw [e1, bind_s]
  have e0 := ecn_le V hb (spk c b)
  simp only [ecnt_n]
  by_cases h0 : ecn c b (spk c b) = 0
  · rw [if_pos ((lN_0 (by omega)).mpr h0), if_pos h0]
    exact ⟨h1, rfl, q1⟩
  · rw [if_neg (fun z => h0 ((lN_0 (by omega)).mp z)), if_neg h0]
    let q : Nat → Option Nat → Bool := fun a o => fewer a o && (decide (a &&& spk c b = a) && decide (0 < ecn c b a))
    have ho : ∀ n, n ≤ spk c b → ∀ k, scan q (some (spk c b)) n = some k → k < 64 := fun n hn k hk => by
      have := scan_lt (q := q) (o := some (spk c b)) (M := 64) (fun k hk => by cases hk; omega) n (by omega) k hk
      exact this
    have hn : ∀ n, ∃ k, scan q (some (spk c b)) n = some k := fun n => by
      obtain ⟨k, hk, _⟩ := scan_from (fun a => decide (a &&& spk c b = a) && decide (0 < ecn c b a)) (spk c b) n
      exact ⟨k, hk⟩
    refine upl (Q := fun r => ∃ h', r = some (on (scan q (some (spk c b)) (spk c b)), h') ∧ Qf Y 100 h h') (fun F i hh => En_fewestLiars_L26 Y e s (nI b) (nI (spk c b)) F (on (scan q (some (spk c b)) i)) (nI i) hh) (spk c b) (fun i hh => Qf Y 100 h hh) ?_ ?_ (spk c b) 0 h1 FU (by omega) (by unfold FU; omega) q1
    · intro F i hh hi hI
      right
      have Xh := CX_Q X hI
      obtain ⟨h2, e2, q2, _⟩ := En_countOf_s (L := i) Xh he hb (by omega)
      have ei := ecn_le V hb i
      have na := notand ⟨i, by omega⟩ ⟨spk c b, by omega⟩
      have fe := LP_isFewer_s (Y := Y) (h := hh) (a := i) (o := scan q (some (spk c b)) i) (by omega) (fun k hk => by have := ho i (by omega) k hk; omega)
      have es : scan q (some (spk c b)) (i + 1) = if (fewer i (scan q (some (spk c b)) i) && (decide (i &&& spk c b = i) && decide (0 < ecn c b i))) = true then some i else scan q (some (spk c b)) i := rfl
      show ∃ s', En_fewestLiars_L26 Y e s (nI b) (nI (spk c b)) (F + 1) (on (scan q (some (spk c b)) i)) (nI i) hh = En_fewestLiars_L26 Y e s (nI b) (nI (spk c b)) F (on (scan q (some (spk c b)) (i + 1))) (nI (i + 1)) s' ∧ _
      rw [En_fewestLiars_L26, if_neg (nI_ge hi (by omega)), es]
      unfold En_fewestLiars_J55 En_fewestLiars_J56
      rw [fe, bind_s, nI_1]
      simp only [if_true]
      rw [if_neg (show ¬ false = true by decide)]
      by_cases c1 : i &&& spk c b = i
      · have z1 : nI i &&& (nI (spk c b) ^^^ (-1)) = 0 := by
          have : decide (nI i &&& (nI (spk c b) ^^^ (-1)) = nI 0) = true := by rw [na]; simpa using c1
          exact of_decide_eq_true this
        rw [if_pos z1]
        by_cases c2 : fewer i (scan q (some (spk c b)) i) = true
        · rw [if_pos c2, e2, bind_s]
          refine ⟨h2, ?_, Qf_tr hI q2⟩
          simp only [ecnt_n]
          by_cases c3 : 0 < ecn c b i
          · rw [if_neg (fun z => by rw [lN_pos (by omega)] at z; omega)]
            simp [c1, c2, c3, on]
          · rw [if_pos ((lN_pos (by omega)).mpr (by omega))]
            simp [c3]
        · rw [if_neg c2]
          exact ⟨hh, by simp [c2], hI⟩
      · have z1 : ¬ nI i &&& (nI (spk c b) ^^^ (-1)) = 0 := by
          have : decide (nI i &&& (nI (spk c b) ^^^ (-1)) = nI 0) = false := by rw [na]; simpa using c1
          exact of_decide_eq_false this
        rw [if_neg z1]
        exact ⟨hh, by simp [c1], hI⟩
    · intro F hh hI
      show ∃ h', En_fewestLiars_L26 Y e s (nI b) (nI (spk c b)) (F + 1) (on (scan q (some (spk c b)) (spk c b))) (nI (spk c b)) hh = _ ∧ _
      rw [En_fewestLiars_L26, if_pos (nI_le (Nat.le_refl _) (by omega))]
      exact ⟨hh, rfl, hI⟩
theorem lyM_lt {c : Nat → Int32} (V : VB c) (b : Nat) : ∀ k, lyM c b = some k → k < 64 := by
  intro k hk
  have p4 := pow_le6 (VC_l4 V)
  have := scan_lt (M := 2 ^ cN c 4) (fun k hk => by cases hk) _ (Nat.le_refl _) k hk
  omega
end LyC
def spLiars (c : Nat → Int32) (b : Int32) : Int32 × Int32 := if isAt b (cN c 2) then sizeP (lyM c b.toNatClampNeg) else (m1, nI 2)
def spLiarSet (c : Nat → Int32) (b : Int32) : Int32 × Int32 := if isAt b (cN c 2) then anyP (lyM c b.toNatClampNeg) else (m1, nI 2)
theorem LP_liars_q {Y : Ly} {h : Hp} {x : Nat} {c : Nat → Int32} (X : CT Y h x c) (b : Int32) : CQ Y x h (LP_liars Y x b h) (spLiars c b).1 (spLiars c b).2 := by
  have V := X.2.2.2.2
  have l2 := VC_l2 V
  unfold LP_liars spLiars
  rw [Sh_hasBook_s X.2.2.2.1 V, bind_s]
  rcases isAt_cases b (n := cN c 2) (by omega) with q | ⟨j, hj, rfl, q⟩
  · rw [q]; exact CQ_fail (Cf_rf Y h)
  · rw [q, if_pos rfl, if_pos rfl, nI_clamp (by omega)]
    obtain ⟨h', e1, e2⟩ := En_fewestLiars_s X X.e hj
    rw [e1, bind_s, ly_eq V]
    exact CQ_size (Cf_Q e2) (fun k hk => by have := lyM_lt V j k hk; omega)
theorem LP_liarSet_q {Y : Ly} {h : Hp} {x : Nat} {c : Nat → Int32} (X : CT Y h x c) (b : Int32) : CQ Y x h (LP_liarSet Y x b h) (spLiarSet c b).1 (spLiarSet c b).2 := by
  have V := X.2.2.2.2
  have l2 := VC_l2 V
  unfold LP_liarSet spLiarSet
  rw [Sh_hasBook_s X.2.2.2.1 V, bind_s]
  rcases isAt_cases b (n := cN c 2) (by omega) with q | ⟨j, hj, rfl, q⟩
  · rw [q]; exact CQ_fail (Cf_rf Y h)
  · rw [q, if_pos rfl, if_pos rfl, nI_clamp (by omega)]
    obtain ⟨h', e1, e2⟩ := En_fewestLiars_s X X.e hj
    rw [e1, bind_s, ly_eq V]
    exact CQ_any (Cf_Q e2) (fun k hk => by have := lyM_lt V j k hk; omega)
section LyM
variable {Y : Ly} {h : Hp} {m : Nat} {c : Nat → Int32} {b : Nat}
theorem M_lying_s (X : MX Y h m c) (hb : b < cN c 2) : ∃ h', M_lying Y m (nI b) h = some (on (lyM c b), h') ∧ Mg Y m h h' := by
  have V := X.2.2
  have l4 := VC_l4 V
  have p4 := pow_le6 l4
  unfold M_lying
  let q : Nat → Option Nat → Bool := fun a o => fewer a o && decide (0 < ecn c b a)
  refine upl (Q := fun r => ∃ h', r = some (on (lyM c b), h') ∧ Mg Y m h h') (fun F i hh => M_lying_L4 Y m (nI b) F (on (scan q none i)) (nI i) hh) (2 ^ cN c 4) (fun i hh => Mg Y m h hh) ?_ ?_ (2 ^ cN c 4) 0 h FU (by omega) (by unfold FU; omega) (Mg_rf _ _ _)
  · intro F i hh hi hI
    right
    have Xh := MX_M X hI.1
    have hl := scan_lt (q := q) (o := none) (M := 2 ^ cN c 4) (fun k hk => by cases hk) i (by omega)
    obtain ⟨g, e1, _⟩ := M_laysEndings_s (L := i) Xh.1 Xh.2.1 V hb (by omega)
    have ei := ecn_le V hb i
    have hi8 := pcnt_le i
    have es : scan q none (i + 1) = if (fewer i (scan q none i) && decide (0 < ecn c b i)) = true then some i else scan q none i := rfl
    have mg : Mg Y m h (hWl hh (hGr hh 1225 m) g) := Mg_tr hI (Mg_wl Xh.1 rfl (by decide))
    show ∃ s', M_lying_L4 Y m (nI b) (F + 1) (on (scan q none i)) (nI i) hh = M_lying_L4 Y m (nI b) F (on (scan q none (i + 1))) (nI (i + 1)) s' ∧ _
    rw [M_lying_L4, es]
    unfold M_lying_J31
    rw [e1]
    simp (disch := omega) only [bind_s, zlit, nI_add, ml1220 Xh.1, inB_nI, if_true, nI_clamp, MB0 Xh.2.1, VC_e4 V, zand, zone, nI_leI, ecnt_n]
    rw [if_neg (by omega)]
    have dec : ∀ A B : Option (Int32 × Hp), (if lN (ecn c b i) ≤ 0 then A else B) = if 0 < ecn c b i then B else A := by
      intro A B
      by_cases c3 : 0 < ecn c b i
      · rw [if_pos c3, if_neg (fun z => by rw [lN_pos (by omega)] at z; omega)]
      · rw [if_neg c3, if_pos ((lN_pos (by omega)).mpr (by omega))]
    cases hsc : scan q none i with
    | none =>
      rw [if_pos (show on none < nI 0 by decide), dec]
      refine ⟨_, ?_, mg⟩
      by_cases c3 : 0 < ecn c b i
      · rw [if_pos c3]; simp [fewer, c3, on]
      · rw [if_neg c3]; simp [c3]
    | some k =>
      have hk := hl k hsc
      have hk8 := pcnt_le k
      rw [if_neg (show ¬ on (some k) < nI 0 from nI_pos (by omega)), show on (some k) = nI k from rfl, M_sizeOf_s (by omega), bind_s, M_sizeOf_s (by omega), bind_s]
      simp (disch := omega) only [nI_leI]
      by_cases c2 : pcnt i < pcnt k
      · rw [if_neg (show ¬ pcnt k ≤ pcnt i by omega), dec]
        refine ⟨_, ?_, mg⟩
        by_cases c3 : 0 < ecn c b i
        · rw [if_pos c3]; simp [fewer, c2, c3, on]
        · rw [if_neg c3]; simp [c3, on]
      · rw [if_pos (show pcnt k ≤ pcnt i by omega)]
        exact ⟨hh, by simp [fewer, c2, on], hI⟩
  · intro F hh hI
    have Xh := MX_M X hI.1
    show ∃ h', M_lying_L4 Y m (nI b) (F + 1) (on (scan q none (2 ^ cN c 4))) (nI (2 ^ cN c 4)) hh = _ ∧ _
    rw [M_lying_L4]
    simp (disch := omega) only [zlit, ml1220 Xh.1, inB_nI, if_true, nI_clamp, MB0 Xh.2.1, VC_e4 V, zand, zone, nI_leI]
    rw [if_pos (by omega)]
    exact ⟨hh, rfl, hI⟩
theorem M_liars_q (X : MX Y h m c) (b : Int32) : mQ Y m h (M_liars Y m b h) (spLiars c b).1 (spLiars c b).2 := by
  have X0 := mX0 X
  have V := X.2.2
  have l2 := VC_l2 V
  unfold M_liars spLiars
  simp only [letH_e]
  rw [show hSi (hSi h 1201 m 0) 1200 m 0 = mst h m from rfl, M_isBookAt_s X0.1 X0.2.1 X0.2.2, bind_s]
  rcases isAt_cases b (n := cN c 2) (by omega) with q | ⟨j, hj, rfl, q⟩
  · rw [q]; exact mQ_r (Mg_rf _ _ _)
  · rw [q, if_pos rfl, if_pos rfl, nI_clamp (by omega)]
    obtain ⟨h', e1, e2⟩ := M_lying_s X0 hj
    rw [e1, bind_s]
    exact mQ_size e2.1 e2.2 (fun k hk => by have := lyM_lt V j k hk; omega)
theorem M_liarSet_q (X : MX Y h m c) (b : Int32) : mQ Y m h (M_liarSet Y m b h) (spLiarSet c b).1 (spLiarSet c b).2 := by
  have X0 := mX0 X
  have V := X.2.2
  have l2 := VC_l2 V
  unfold M_liarSet spLiarSet
  simp only [letH_e]
  rw [show hSi (hSi h 1201 m 0) 1200 m 0 = mst h m from rfl, M_isBookAt_s X0.1 X0.2.1 X0.2.2, bind_s]
  rcases isAt_cases b (n := cN c 2) (by omega) with q | ⟨j, hj, rfl, q⟩
  · rw [q]; exact mQ_r (Mg_rf _ _ _)
  · rw [q, if_pos rfl, if_pos rfl, nI_clamp (by omega)]
    obtain ⟨h', e1, e2⟩ := M_lying_s X0 hj
    rw [e1, bind_s]
    exact mQ_any e2.1 e2.2 (fun k hk => by have := lyM_lt V j k hk; omega)
end LyM
