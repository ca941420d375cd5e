/-! ===== the reference's frame ===== -/
def mscr (f : Nat) : Bool := f == 1221 || (decide (1225 ≤ f) && decide (f ≤ 1233))
def Mf (Y : Ly) (m : Nat) (h h' : Hp) : Prop := (∀ f a, f ≠ 1200 → f ≠ 1201 → hGi h' f a = hGi h f a) ∧ (∀ f a, hGl h' f a = hGl h f a) ∧ (∀ f a, hGr h' f a = hGr h f a) ∧
  (∀ f, mLen f ≠ 0 → mscr f = false → ∀ i, hAi h' (hGr h f m) i = hAi h (hGr h f m) i ∧ hAl h' (hGr h f m) i = hAl h (hGr h f m) i) ∧ (Ty Y h → Ty Y h')
theorem Mf_rf (Y : Ly) (m : Nat) (h : Hp) : Mf Y m h h := ⟨fun _ _ _ _ => rfl, fun _ _ => rfl, fun _ _ => rfl, fun _ _ _ _ => ⟨rfl, rfl⟩, fun t => t⟩
theorem Mf_tr {Y : Ly} {m : Nat} {h h1 h2 : Hp} (A : Mf Y m h h1) (B : Mf Y m h1 h2) : Mf Y m h h2 := by
  refine ⟨fun f a n1 n2 => (B.1 f a n1 n2).trans (A.1 f a n1 n2), fun f a => (B.2.1 f a).trans (A.2.1 f a), fun f a => (B.2.2.1 f a).trans (A.2.2.1 f a), fun f n1 n2 i => ?_, fun t => B.2.2.2.2 (A.2.2.2.2 t)⟩
  have h1' := A.2.2.2.1 f n1 n2 i
  have h2' := B.2.2.2.1 f n1 n2 i
  rw [A.2.2.1] at h2'
  exact ⟨h2'.1.trans h1'.1, h2'.2.trans h1'.2⟩
theorem Mf_0 {Y : Ly} {m : Nat} {h : Hp} {a : Nat} {v : Int32} : Mf Y m h (hSi h 1200 a v) := by
  refine ⟨fun g b h0 h1 => ?_, fun _ _ => rfl, fun _ _ => rfl, fun _ _ _ _ => ⟨rfl, rfl⟩, fun t => Ty_si t (Or.inl rfl)⟩
  rw [gi_si, if_neg (by omega)]
theorem Mf_1 {Y : Ly} {m : Nat} {h : Hp} {a : Nat} {v : Int32} : Mf Y m h (hSi h 1201 a v) := by
  refine ⟨fun g b h0 h1 => ?_, fun _ _ => rfl, fun _ _ => rfl, fun _ _ _ _ => ⟨rfl, rfl⟩, fun t => Ty_si t (Or.inl rfl)⟩
  rw [gi_si, if_neg (by omega)]
theorem Mf_wi {Y : Ly} {m f : Nat} {h : Hp} {g : Nat → Int32} (S : MS Y h m) (hf : mscr f = true) (hl : mLen f ≠ 0) : Mf Y m h (hWi h (hGr h f m) g) := by
  refine ⟨fun _ _ _ _ => rfl, fun _ _ => rfl, fun _ _ => rfl, fun f' n1 n2 i => ⟨?_, rfl⟩, fun t => t⟩
  rw [ai_wi, if_neg]
  intro q
  have := S.2.2 f' f n1 hl q
  rw [this, hf] at n2
  cases n2
theorem Mf_wl {Y : Ly} {m f : Nat} {h : Hp} {g : Nat → Int64} (S : MS Y h m) (hf : mscr f = true) (hl : mLen f ≠ 0) : Mf Y m h (hWl h (hGr h f m) g) := by
  refine ⟨fun _ _ _ _ => rfl, fun _ _ => rfl, fun _ _ => rfl, fun f' n1 n2 i => ⟨rfl, ?_⟩, fun t => t⟩
  rw [al_wl, if_neg]
  intro q
  have := S.2.2 f' f n1 hl q
  rw [this, hf] at n2
  cases n2
theorem MX_M {Y : Ly} {h h' : Hp} {m : Nat} {c : Nat → Int32} (X : MX Y h m c) (q : Mf Y m h h') : MX Y h' m c := by
  refine ⟨MS_congr X.1 (fun f => q.2.2.1 f m), fun i hi => ?_, X.2.2⟩
  rw [q.2.2.1, (q.2.2.2.1 1220 (by decide) rfl _).1]
  exact X.2.1 i hi
/-! ===== sets of books, of finales ===== -/
def unio (f : Nat → Nat) (a : Nat) : Nat → Nat
  | 0 => 0
  | n + 1 => unio f a n ||| (if a.testBit n then f n else 0)
def alln (p : Nat → Bool) : Nat → Bool
  | 0 => true
  | n + 1 => alln p n && p n
theorem alln_iff (p : Nat → Bool) : ∀ n, alln p n = true ↔ ∀ i, i < n → p i = true := by
  intro n
  induction n with
  | zero => simp [alln]
  | succ n ih =>
    simp only [alln, Bool.and_eq_true, ih]
    constructor
    · rintro ⟨h1, h2⟩ i hi
      by_cases e : i = n
      · rw [e]; exact h2
      · exact h1 i (by omega)
    · intro H
      exact ⟨fun i hi => H i (by omega), H n (by omega)⟩
theorem unio_lt {f : Nat → Nat} {a M : Nat} (hf : ∀ i, f i < 2 ^ M) : ∀ n, unio f a n < 2 ^ M := by
  intro n
  induction n with
  | zero => exact Nat.two_pow_pos M
  | succ n ih =>
    rw [unio]
    apply Nat.or_lt_two_pow ih
    split
    · exact hf n
    · exact Nat.two_pow_pos M
theorem fitS_lt {c : Nat → Int32} (V : VB c) (L b : Nat) : fitS c L b < 2 ^ 8 := by
  have := mk_lt8 (fitB c L b) (VC_l3 V)
  exact this
def fewer (a : Nat) (o : Option Nat) : Bool := match o with
  | none => true
  | some k => decide (pcnt a < pcnt k)
theorem on_lt0 {o : Option Nat} (ho : ∀ k, o = some k → k < 2 ^ 31) : (on o < nI 0) ↔ o = none := by
  cases o with
  | none => simp only [on]; rw [m1_lt (by omega)]
  | some k =>
    have := ho k rfl
    simp only [on]
    rw [nI_ltI this (by omega)]; simp
theorem on_le0 {o : Option Nat} (ho : ∀ k, o = some k → k < 2 ^ 31) : (nI 0 ≤ on o) ↔ o ≠ none := by
  cases o with
  | none => simp only [on]; rw [le_m1 (by omega)]; simp
  | some k =>
    have := ho k rfl
    simp only [on]
    rw [nI_leI (by omega) this]; simp
theorem on_m1 {o : Option Nat} (ho : ∀ k, o = some k → k < 2 ^ 31) : (on o = m1) ↔ o = none := by
  cases o with
  | none => simp [on]
  | some k =>
    have := ho k rfl
    simp only [on]
    rw [ne_m1 this]; simp
theorem LP_isFewer_s {Y : Ly} {h : Hp} {a : Nat} {o : Option Nat} (ha : a < 256) (ho : ∀ k, o = some k → k < 256) : LP_isFewer Y (nI a) (on o) h = some (fewer a o) := by
  unfold LP_isFewer fewer
  cases o with
  | none => simp [on, zlit, zneg]
  | some k =>
    have hk := ho k rfl
    have := pcnt_le a
    have := pcnt_le k
    simp (disch := omega) only [on, zlit, zneg, ne_m1, if_false, J_bitCount_s, bind_s, nI_leI]
    by_cases q : pcnt a < pcnt k
    · rw [if_neg (by omega)]; simp [q]
    · rw [if_pos (by omega)]; simp [q]
def FK (h : Hp) (fi : Nat) (c : Nat → Int32) : Prop := hGi h 102 fi = nI (cN c 2) ∧ hGi h 103 fi = nI (cN c 3) ∧ ∀ b, b < cN c 2 → hAi h (hGr h 100 fi) b = nI (fitS c (cN c 9) b)
def srv (c : Nat → Int32) (a b : Nat) : Bool := decide (fitS c (cN c 9) b &&& a ≠ 0)
def clS (c : Nat → Int32) : Option Nat := scan (fun a o => fewer a o && decide (pcnt (unio (fitS c (cN c 9)) a (cN c 2)) < pcnt a)) none (2 ^ cN c 2)
def fnS (c : Nat → Int32) : Option Nat := scan (fun a o => fewer a o && alln (srv c a) (cN c 2)) none (2 ^ cN c 3)
section TC
variable {Y : Ly} {h : Hp} {s x e fi : Nat} {c : Nat → Int32}
theorem Fi_lookAt_s (X : CX Y h x s c) (he : isO Y 0 e) (hf : isO Y 1 fi) : ∃ h', Fi_lookAt Y fi s e h = some h' ∧ Qf Y 200 h h' ∧ FK h' fi c := by
  have V := X.2.2.2.2
  have l2 := VC_l2 V
  have l3 := VC_l3 V
  have q1 : Qf Y 200 h (hSi h 102 fi (nI (cN c 2))) := Qf_si (by decide)
  have X1 := CX_Q X q1
  have q3 : Qf Y 200 h (hSi (hSi h 102 fi (nI (cN c 2))) 103 fi (nI (cN c 3))) := Qf_tr q1 (Qf_si (by decide))
  have X3 := CX_Q X q3
  unfold Fi_lookAt
  rw [letH_e, letH_e, X.2.2.2.1.1.2.2.1, VC_e2 V]
  simp (disch := omega) only [zlit, nI_ltI]
  rw [if_neg (by omega), X1.2.2.2.1.1.2.2.2.1, VC_e3 V]
  simp (disch := omega) only [nI_ltI]
  rw [if_neg (by omega)]
  have g1 : hGi (hSi (hSi h 102 fi (nI (cN c 2))) 103 fi (nI (cN c 3))) 102 fi = nI (cN c 2) := by
    rw [gi_si, if_neg (by omega), gi_si, if_pos ⟨rfl, rfl⟩]
  have g2 : hGi (hSi (hSi h 102 fi (nI (cN c 2))) 103 fi (nI (cN c 3))) 103 fi = nI (cN c 3) := by
    rw [gi_si, if_pos ⟨rfl, rfl⟩]
  generalize hSi (hSi h 102 fi (nI (cN c 2))) 103 fi (nI (cN c 3)) = h3 at q3 X3 g1 g2 ⊢
  refine upl (Q := fun r => ∃ h', r = some h' ∧ Qf Y 200 h h' ∧ FK h' fi c) (fun F i hh => Fi_lookAt_L31 Y fi s e F (nI i) hh) (cN c 2)
    (fun i hh => Qf Y 200 h hh ∧ hGi hh 102 fi = nI (cN c 2) ∧ hGi hh 103 fi = nI (cN c 3) ∧ ∀ b, b < i → hAi hh (hGr hh 100 fi) b = nI (fitS c (cN c 9) b)) ?_ ?_ (cN c 2) 0 h3 FU (by omega) (by unfold FU; omega)
    ⟨q3, g1, g2, fun b hb => absurd hb (by omega)⟩
  · intro F i hh hi hI
    right
    have Xh := CX_Q X hI.1
    obtain ⟨h', e1, e2⟩ := En_fittingFinales_s Xh he hi
    show ∃ s', Fi_lookAt_L31 Y fi s e (F + 1) (nI i) hh = Fi_lookAt_L31 Y fi s e F (nI (i + 1)) s' ∧ _
    rw [Fi_lookAt_L31, hI.2.1, if_neg (nI_ge hi (by omega)), e1, bind_s, cl100 Xh.1 hf, if_pos (inB_nI (by omega) (by omega)), letH_e, nI_clamp (by omega), nI_1, ti_w, ← e2.2.2.1 100 fi (by decide)]
    have q' : Qf Y 200 h (hWi h' (hGr h' 100 fi) (upd (hAi h' (hGr h' 100 fi)) i (nI (fitS c (cN c 9) i)))) := Qf_tr hI.1 (Qf_tr (Qf_mono e2 (by decide)) (Qf_wi (by decide) rfl hf))
    refine ⟨_, rfl, q', ?_, ?_, fun b hb => ?_⟩
    · rw [gi_wi, e2.1 102 fi (by decide)]; exact hI.2.1
    · rw [gi_wi, e2.1 103 fi (by decide)]; exact hI.2.2.1
    · rw [gr_wi, ai_wi, if_pos rfl]
      by_cases q : b = i
      · rw [q, pk_us]
      · rw [pk_un q, e2.2.2.1 100 fi (by decide), Qf_ai e2 Xh.1 (by decide) rfl hf]
        exact hI.2.2.2 b (by omega)
  · intro F hh hI
    show ∃ h', Fi_lookAt_L31 Y fi s e (F + 1) (nI (cN c 2)) hh = _ ∧ _
    rw [Fi_lookAt_L31, hI.2.1, if_pos (nI_le (Nat.le_refl _) (by omega))]
    exact ⟨hh, rfl, hI.1, hI.2⟩
theorem Fi_booksFor_s (X : CX Y h x s c) (hf : isO Y 1 fi) (K : FK h fi c) {f : Nat} (hff : f < 8) : Fi_booksFor Y fi (nI f) h = some (nI (mk (fun b => (fitS c (cN c 9) b).testBit f) (cN c 2))) := by
  have V := X.2.2.2.2
  have l2 := VC_l2 V
  unfold Fi_booksFor
  refine upl (Q := fun r => r = some (nI (mk (fun b => (fitS c (cN c 9) b).testBit f) (cN c 2)))) (fun F i (_ : Unit) => Fi_booksFor_L4 Y fi (nI f) h F (nI (mk (fun b => (fitS c (cN c 9) b).testBit f) i)) (nI i)) (cN c 2) (fun _ _ => True) ?_ ?_ (cN c 2) 0 () FU (by omega) (by unfold FU; omega) trivial
  · intro F i _ hi _
    right
    refine ⟨(), ?_, trivial⟩
    have := fitS_lt V (cN c 9) i
    show Fi_booksFor_L4 Y fi (nI f) h (F + 1) (nI (mk (fun b => (fitS c (cN c 9) b).testBit f) i)) (nI i) = Fi_booksFor_L4 Y fi (nI f) h F (nI (mk (fun b => (fitS c (cN c 9) b).testBit f) (i + 1))) (nI (i + 1))
    rw [Fi_booksFor_L4, K.1]
    simp (disch := omega) only [zlit, nI_leI, cl100 X.1 hf, inB_nI, if_true, nI_clamp, K.2.2 i hi, LP_has_s, bind_s, zand, zone, zor, nI_add, mk]
    rw [if_neg (by omega)]
    by_cases q : (fitS c (cN c 9) i).testBit f = true
    · rw [if_pos q, if_pos q]
    · rw [if_neg q, if_neg q]
  · intro F _ _
    show Fi_booksFor_L4 Y fi (nI f) h (F + 1) _ (nI (cN c 2)) = _
    rw [Fi_booksFor_L4, K.1, if_pos (nI_le (Nat.le_refl _) (by omega))]
theorem Fi_tooMany_s (X : CX Y h x s c) (hf : isO Y 1 fi) (K : FK h fi c) {a : Nat} (ha : a < 256) : Fi_tooMany Y fi (nI a) h = some (nI (pcnt a) - nI (pcnt (unio (fitS c (cN c 9)) a (cN c 2)))) := by
  have V := X.2.2.2.2
  have l2 := VC_l2 V
  unfold Fi_tooMany
  refine upl (Q := fun r => r = some (nI (pcnt a) - nI (pcnt (unio (fitS c (cN c 9)) a (cN c 2))))) (fun F i (_ : Unit) => Fi_tooMany_L4 Y fi (nI a) h F (nI (unio (fitS c (cN c 9)) a i)) (nI i)) (cN c 2) (fun _ _ => True) ?_ ?_ (cN c 2) 0 () FU (by omega) (by unfold FU; omega) trivial
  · intro F i _ hi _
    right
    refine ⟨(), ?_, trivial⟩
    show Fi_tooMany_L4 Y fi (nI a) h (F + 1) (nI (unio (fitS c (cN c 9)) a i)) (nI i) = Fi_tooMany_L4 Y fi (nI a) h F (nI (unio (fitS c (cN c 9)) a (i + 1))) (nI (i + 1))
    rw [Fi_tooMany_L4, K.1]
    simp (disch := omega) only [zlit, nI_leI, cl100 X.1 hf, inB_nI, if_true, nI_clamp, K.2.2 i hi, LP_has_s, bind_s, zor, nI_add, unio]
    rw [if_neg (by omega)]
    cases a.testBit i <;> simp
  · intro F _ _
    have hu : unio (fitS c (cN c 9)) a (cN c 2) < 256 := unio_lt (M := 8) (fun i => fitS_lt V (cN c 9) i) _
    show Fi_tooMany_L4 Y fi (nI a) h (F + 1) _ (nI (cN c 2)) = _
    rw [Fi_tooMany_L4, K.1, if_pos (nI_le (Nat.le_refl _) (by omega)), J_bitCount_s ha, bind_s, J_bitCount_s hu, bind_s]
theorem sub_le0 {a b : Nat} (ha : a < 2 ^ 30) (hb : b < 2 ^ 30) : (nI a - nI b ≤ nI 0) ↔ a ≤ b := by
  rw [Int32.le_iff_toInt_le, pk_sub_toInt ha hb, nI_toInt (by omega)]
  omega
theorem Fi_leastClash_s (X : CX Y h x s c) (hf : isO Y 1 fi) (K : FK h fi c) : Fi_leastClash Y fi h = some (on (clS c)) := by
  have V := X.2.2.2.2
  have l2 := VC_l2 V
  have p2 := pow_le6 l2
  have p2' := Nat.two_pow_pos (cN c 2)
  let q : Nat → Option Nat → Bool := fun a o => fewer a o && decide (pcnt (unio (fitS c (cN c 9)) a (cN c 2)) < pcnt a)
  have q0 : scan q none 1 = none := by
    show (if (fewer 0 none && decide (pcnt (unio (fitS c (cN c 9)) 0 (cN c 2)) < pcnt 0)) = true then some 0 else none) = none
    rw [show pcnt 0 = 0 by decide]; simp
  unfold Fi_leastClash
  have key := upl (Q := fun r => r = some (on (clS c))) (fun F i (_ : Unit) => Fi_leastClash_L4 Y fi h F (on (scan q none i)) (nI i)) (2 ^ cN c 2) (fun _ _ => True) ?_ ?_ (2 ^ cN c 2 - 1) 1 () FU (by omega) (by unfold FU; omega) trivial
  · simp only [q0] at key
    exact key
  · intro F i _ hi _
    right
    refine ⟨(), ?_, trivial⟩
    have hl := scan_lt (q := q) (o := none) (M := 2 ^ cN c 2) (fun k hk => by cases hk) i (by omega)
    have hu : pcnt (unio (fitS c (cN c 9)) i (cN c 2)) ≤ 8 := pcnt_le _
    have hi8 := pcnt_le i
    show Fi_leastClash_L4 Y fi h (F + 1) (on (scan q none i)) (nI i) = Fi_leastClash_L4 Y fi h F (on (scan q none (i + 1))) (nI (i + 1))
    rw [Fi_leastClash_L4, K.1]
    simp (disch := omega) only [zlit, zand, zone, nI_leI, nI_add]
    rw [if_neg (by omega), LP_isFewer_s (by omega) (fun k hk => by have := hl k hk; omega), bind_s, Fi_tooMany_s X hf K (by omega), bind_s]
    simp (disch := omega) only [sub_le0, scan]
    show (if fewer i (scan q none i) = true then _ else _) = Fi_leastClash_L4 Y fi h F (on (if (fewer i (scan q none i) && decide (pcnt (unio (fitS c (cN c 9)) i (cN c 2)) < pcnt i)) = true then some i else scan q none i)) (nI (i + 1))
    by_cases c1 : fewer i (scan q none i) = true
    · by_cases c2 : pcnt (unio (fitS c (cN c 9)) i (cN c 2)) < pcnt i
      · rw [if_pos c1, if_neg (by omega)]; simp [c1, c2, on]
      · rw [if_pos c1, if_pos (by omega)]; simp [c2]
    · rw [if_neg c1]; simp [c1]
  · intro F _ _
    show Fi_leastClash_L4 Y fi h (F + 1) (on (scan q none (2 ^ cN c 2))) (nI (2 ^ cN c 2)) = _
    rw [Fi_leastClash_L4, K.1]
    simp (disch := omega) only [zlit, zand, zone, nI_leI]
    rw [if_pos (by omega)]
    rfl
theorem Fi_servesAll_s (X : CX Y h x s c) (hf : isO Y 1 fi) (K : FK h fi c) {a : Nat} (ha : a < 256) : Fi_servesAll Y fi (nI a) h = some (alln (srv c a) (cN c 2)) := by
  have V := X.2.2.2.2
  have l2 := VC_l2 V
  unfold Fi_servesAll
  refine upl (Q := fun r => r = some (alln (srv c a) (cN c 2))) (fun F i (_ : Unit) => Fi_servesAll_L2 Y fi (nI a) h F (nI i)) (cN c 2) (fun i _ => alln (srv c a) i = true) ?_ ?_ (cN c 2) 0 () FU (by omega) (by unfold FU; omega) rfl
  · intro F i _ hi hI
    have hb : fitS c (cN c 9) i &&& a < 2 ^ 31 := Nat.lt_of_le_of_lt Nat.and_le_right (by omega)
    show Fi_servesAll_L2 Y fi (nI a) h (F + 1) (nI i) = _ ∨ ∃ _ : Unit, Fi_servesAll_L2 Y fi (nI a) h (F + 1) (nI i) = Fi_servesAll_L2 Y fi (nI a) h F (nI (i + 1)) ∧ _
    rw [Fi_servesAll_L2, K.1]
    simp (disch := omega) only [zlit, nI_leI, cl100 X.1 hf, inB_nI, if_true, nI_clamp, K.2.2 i hi, zand, nI_eq, nI_add]
    rw [if_neg (by omega)]
    by_cases q : fitS c (cN c 9) i &&& a = 0
    · left
      rw [if_pos q]
      have : ¬ alln (srv c a) (cN c 2) = true := by
        rw [alln_iff]
        intro H
        have := H i hi
        simp [srv, q] at this
      rw [Bool.not_eq_true] at this
      rw [this]
    · right
      rw [if_neg q]
      exact ⟨(), rfl, by simp [alln, hI, srv, q]⟩
  · intro F _ hI
    show Fi_servesAll_L2 Y fi (nI a) h (F + 1) (nI (cN c 2)) = _
    rw [Fi_servesAll_L2, K.1, if_pos (nI_le (Nat.le_refl _) (by omega)), hI]
theorem Fi_fewestFinales_s (X : CX Y h x s c) (hf : isO Y 1 fi) (K : FK h fi c) : Fi_fewestFinales Y fi h = some (on (fnS c)) := by
  have V := X.2.2.2.2
  have l3 := VC_l3 V
  have p2 := pow_le8 l3
  have p2' := Nat.two_pow_pos (cN c 3)
  let q : Nat → Option Nat → Bool := fun a o => fewer a o && alln (srv c a) (cN c 2)
  unfold Fi_fewestFinales
  refine upl (Q := fun r => r = some (on (fnS c))) (fun F i (_ : Unit) => Fi_fewestFinales_L4 Y fi h F (on (scan q none i)) (nI i)) (2 ^ cN c 3) (fun _ _ => True) ?_ ?_ (2 ^ cN c 3) 0 () FU (by omega) (by unfold FU; omega) trivial
  · intro F i _ hi _
    right
    refine ⟨(), ?_, trivial⟩
    have hl := scan_lt (q := q) (o := none) (M := 2 ^ cN c 3) (fun k hk => by cases hk) i (by omega)
    show Fi_fewestFinales_L4 Y fi h (F + 1) (on (scan q none i)) (nI i) = Fi_fewestFinales_L4 Y fi h F (on (scan q none (i + 1))) (nI (i + 1))
    rw [Fi_fewestFinales_L4, K.2.1]
    simp (disch := omega) only [zlit, zand, zone, nI_leI, nI_add]
    rw [if_neg (by omega), LP_isFewer_s (by omega) (fun k hk => by have := hl k hk; omega), bind_s, Fi_servesAll_s X hf K (by omega), bind_s]
    simp only [scan]
    show (if fewer i (scan q none i) = true then _ else _) = Fi_fewestFinales_L4 Y fi h F (on (if (fewer i (scan q none i) && alln (srv c i) (cN c 2)) = true then some i else scan q none i)) (nI (i + 1))
    by_cases c1 : fewer i (scan q none i) = true
    · by_cases c2 : alln (srv c i) (cN c 2) = true
      · rw [if_pos c1, if_pos c2, c1, c2]; rfl
      · rw [if_pos c1, if_neg c2, c1]
        rw [Bool.not_eq_true] at c2
        rw [c2]; rfl
    · rw [if_neg c1]
      rw [Bool.not_eq_true] at c1
      rw [c1]; rfl
  · intro F _ _
    show Fi_fewestFinales_L4 Y fi h (F + 1) (on (scan q none (2 ^ cN c 3))) (nI (2 ^ cN c 3)) = _
    rw [Fi_fewestFinales_L4, K.2.1]
    simp (disch := omega) only [zlit, zand, zone, nI_leI]
    rw [if_pos (by omega)]
    rfl
end TC
