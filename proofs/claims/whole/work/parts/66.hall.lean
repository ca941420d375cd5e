/-! ===== the most books at once: sets that are too many (Hall, Ore) ===== -/
theorem pn_mono {a b : Nat} : ∀ k, (∀ i, i < k → a.testBit i = true → b.testBit i = true) → pcn a k ≤ pcn b k := by
  intro k
  induction k with
  | zero => intro _; exact Nat.le_refl _
  | succ k ih =>
    intro H
    have h1 := ih (fun i hi => H i (by omega))
    have h2 := H k (by omega)
    simp only [pcn]
    by_cases q : a.testBit k = true
    · rw [if_pos q, if_pos (h2 q)]; omega
    · rw [if_neg q]; omega
theorem pn_lt {a b : Nat} : ∀ k j, j < k → (∀ i, i < k → a.testBit i = true → b.testBit i = true) → a.testBit j = false → b.testBit j = true → pcn a k < pcn b k := by
  intro k
  induction k with
  | zero => intro j h; omega
  | succ k ih =>
    intro j hj H h1 h2
    simp only [pcn]
    by_cases e : j = k
    · subst e
      have := pn_mono j (fun i hi => H i (by omega))
      rw [h1, if_neg (by decide), if_pos h2]; omega
    · have := ih j (by omega) (fun i hi => H i (by omega)) h1 h2
      by_cases q : a.testBit k = true
      · rw [if_pos q, if_pos (H k (by omega) q)]; omega
      · rw [if_neg q]; omega
/-- but for one -/
theorem pn_one {a b f : Nat} : ∀ k, (∀ i, i < k → i ≠ f → b.testBit i = true → a.testBit i = true) → pcn b k ≤ pcn a k + 1 := by
  intro k
  have key : ∀ k, (∀ i, i < k → i ≠ f → b.testBit i = true → a.testBit i = true) → pcn b k ≤ pcn a k + (if f < k then 1 else 0) := by
    intro k
    induction k with
    | zero => intro _; simp [pcn]
    | succ k ih =>
      intro H
      have h1 := ih (fun i hi => H i (by omega))
      simp only [pcn]
      by_cases e : f = k
      · subst e
        rw [if_neg (show ¬ f < f by omega)] at h1
        rw [if_pos (show f < f + 1 by omega)]
        split <;> split <;> omega
      · have h2 := H k (by omega) (fun z => e z.symm)
        have h3 : (if f < k + 1 then 1 else 0) = (if f < k then 1 else 0) := by
          by_cases q : f < k
          · rw [if_pos q, if_pos (by omega)]
          · rw [if_neg q, if_neg (by omega)]
        rw [h3]
        by_cases q : b.testBit k = true
        · rw [if_pos q, if_pos (h2 q)]; omega
        · rw [if_neg q]; omega
  intro H
  have := key k H
  split at this <;> omega
theorem pn_mod (a b : Nat) : ∀ k, pcn (a ||| b) k + pcn (a &&& b) k = pcn a k + pcn b k := by
  intro k
  induction k with
  | zero => rfl
  | succ k ih =>
    simp only [pcn, Nat.testBit_or, Nat.testBit_and]
    cases a.testBit k <;> cases b.testBit k <;> simp <;> omega
def del (left f : Nat) : Nat := left &&& (2 ^ f ^^^ 4294967295)
theorem del_bit {left f i : Nat} (hi : i < 8) : (del left f).testBit i = (left.testBit i && !decide (f = i)) := by
  unfold del
  rw [free_bit hi, Nat.testBit_two_pow]
theorem del_le (left f : Nat) : del left f ≤ left := Nat.and_le_left
def mbF (base : Nat) (p : Nat → Bool) (v : Nat → Nat) : Nat → Nat
  | 0 => base
  | f + 1 => if p f then (if mbF base p v f < 1 + v f then 1 + v f else mbF base p v f) else mbF base p v f
theorem mbF_ge {base : Nat} {p : Nat → Bool} {v : Nat → Nat} : ∀ F, base ≤ mbF base p v F := by
  intro F
  induction F with
  | zero => exact Nat.le_refl _
  | succ F ih =>
    rw [mbF]
    split
    · split <;> omega
    · exact ih
theorem mbF_v {base : Nat} {p : Nat → Bool} {v : Nat → Nat} : ∀ F f, f < F → p f = true → 1 + v f ≤ mbF base p v F := by
  intro F
  induction F with
  | zero => intro f h; omega
  | succ F ih =>
    intro f hf hp
    rw [mbF]
    by_cases e : f = F
    · subst e
      rw [if_pos hp]
      split <;> omega
    · have := ih f (by omega) hp
      split
      · split <;> omega
      · exact this
theorem mbF_or {base : Nat} {p : Nat → Bool} {v : Nat → Nat} : ∀ F, mbF base p v F = base ∨ ∃ f, f < F ∧ p f = true ∧ mbF base p v F = 1 + v f := by
  intro F
  induction F with
  | zero => exact Or.inl rfl
  | succ F ih =>
    rw [mbF]
    by_cases q : p F = true
    · rw [if_pos q]
      by_cases z : mbF base p v F < 1 + v F
      · rw [if_pos z]; exact Or.inr ⟨F, by omega, q, rfl⟩
      · rw [if_neg z]
        rcases ih with e | ⟨f, h1, h2, h3⟩
        · exact Or.inl e
        · exact Or.inr ⟨f, by omega, h2, h3⟩
    · rw [if_neg q]
      rcases ih with e | ⟨f, h1, h2, h3⟩
      · exact Or.inl e
      · exact Or.inr ⟨f, by omega, h2, h3⟩
def mbR (fit : Nat → Nat) (n : Nat) : Nat → Nat → Nat
  | 0, _ => 0
  | r + 1, left => mbF (mbR fit n r left) (fun f => (fit (n - (r + 1)) &&& left).testBit f) (fun f => mbR fit n r (del left f)) 8
/-- a set of the last r books -/
def lst (n r S : Nat) : Prop := ∀ i, S.testBit i = true → n - r ≤ i ∧ i < n
theorem lst_up {n r S : Nat} (h : lst n r S) : lst n (r + 1) S := fun i hi => ⟨by have := (h i hi).1; omega, (h i hi).2⟩
theorem pcnt_and255 (x : Nat) : pcnt (x &&& 255) = pcnt x := by
  apply Nat.le_antisymm
  · exact pn_mono 8 (fun i _ h => by rw [Nat.testBit_and, Bool.and_eq_true] at h; exact h.1)
  · exact pn_mono 8 (fun i hi h => by rw [Nat.testBit_and, h, show (255 : Nat) = 2 ^ 8 - 1 from rfl, Nat.testBit_two_pow_sub_one]; simp [hi])
section HA
variable {fit : Nat → Nat} {n : Nat}
theorem nb_bit (S i : Nat) : (unio fit S n).testBit i = true ↔ ∃ k, k < n ∧ S.testBit k = true ∧ (fit k).testBit i = true := unio_bit fit S n i
/-- no more than that -/
theorem hall_U (hn : n ≤ 8) : ∀ r left S, r ≤ n → lst n r S → mbR fit n r left + pcnt S ≤ r + pcnt (unio fit S n &&& left) := by
  intro r
  induction r with
  | zero =>
    intro left S _ hS
    have : pcnt S ≤ pcnt 0 := pn_mono 8 (fun i _ h => by have := hS i h; omega)
    have : pcnt 0 = 0 := by decide
    show 0 + pcnt S ≤ _
    omega
  | succ r ih =>
    intro left S hr hS
    let k := n - (r + 1)
    have hk : n - (r + 1) < n := by omega
    -- S without the book
    have hS' : lst n r (del S (n - (r + 1)) % 256) ∧ pcnt S ≤ pcnt (del S (n - (r + 1)) % 256) + 1 ∧ (S.testBit (n - (r + 1)) = false → pcnt S ≤ pcnt (del S (n - (r + 1)) % 256)) ∧ (∀ i, (del S (n - (r + 1)) % 256).testBit i = true → S.testBit i = true) := by
      have bit : ∀ i, (del S (n - (r + 1)) % 256).testBit i = (decide (i < 8) && (S.testBit i && !decide (n - (r + 1) = i))) := by
        intro i
        rw [show (256 : Nat) = 2 ^ 8 from rfl, Nat.testBit_mod_two_pow]
        by_cases hi : i < 8
        · rw [del_bit hi]
        · simp [hi]
      refine ⟨fun i hi => ?_, pn_one (f := n - (r + 1)) 8 (fun i hi hne hb => ?_), fun h0 => pn_mono 8 (fun i hi hb => ?_), fun i hi => ?_⟩
      · rw [bit] at hi
        simp at hi
        have := hS i hi.2.1
        omega
      · rw [bit, hb]; simp [hi]; omega
      · rw [bit, hb]
        have : n - (r + 1) ≠ i := fun e => by rw [e, hb] at h0; cases h0
        simp [hi, this]
      · rw [bit] at hi
        simp at hi
        exact hi.2.1
    obtain ⟨s1, s2, s3, s4⟩ := hS'
    generalize del S (n - (r + 1)) % 256 = S' at s1 s2 s3 s4
    have sub1 : ∀ L L' i, (∀ j, L'.testBit j = true → L.testBit j = true) → (unio fit S' n &&& L').testBit i = true → (unio fit S n &&& L).testBit i = true := by
      intro L L' i hL h
      rw [Nat.testBit_and, Bool.and_eq_true] at h ⊢
      refine ⟨?_, hL i h.2⟩
      obtain ⟨j, j1, j2, j3⟩ := (nb_bit S' i).mp h.1
      exact (nb_bit S i).mpr ⟨j, j1, s4 j j2, j3⟩
    rcases mbF_or (base := mbR fit n r left) (p := fun f => (fit (n - (r + 1)) &&& left).testBit f) (v := fun f => mbR fit n r (del left f)) 8 with e | ⟨f, f1, f2, f3⟩
    · show mbF _ _ _ 8 + pcnt S ≤ _
      rw [e]
      have h1 := ih left S' (by omega) s1
      have h2 : pcnt (unio fit S' n &&& left) ≤ pcnt (unio fit S n &&& left) := pn_mono 8 (fun i _ h => sub1 left left i (fun _ z => z) h)
      omega
    · show mbF _ _ _ 8 + pcnt S ≤ _
      rw [f3]
      rw [Nat.testBit_and, Bool.and_eq_true] at f2
      have dl : ∀ j, (unio fit S' n &&& del left f).testBit j = true → (unio fit S n &&& left).testBit j = true := by
        intro j h
        refine sub1 left (del left f) j (fun i hi => ?_) h
        unfold del at hi
        rw [Nat.testBit_and, Bool.and_eq_true] at hi
        exact hi.1
      have h1 := ih (del left f) S' (by omega) s1
      have h2 : pcnt (unio fit S' n &&& del left f) ≤ pcnt (unio fit S n &&& left) := pn_mono 8 (fun j _ h => dl j h)
      by_cases q : S.testBit (n - (r + 1)) = true
      · have h3 : pcnt (unio fit S' n &&& del left f) < pcnt (unio fit S n &&& left) := pn_lt 8 f f1 (fun j _ h => dl j h) (by rw [Nat.testBit_and, del_bit f1]; simp) (by
          rw [Nat.testBit_and, Bool.and_eq_true]
          exact ⟨(nb_bit S f).mpr ⟨_, hk, q, f2.1⟩, f2.2⟩)
        omega
      · have h3 := s3 (by simpa using q)
        omega
/-- and as many -/
theorem hall_E (hn : n ≤ 8) : ∀ r left, r ≤ n → ∃ S, lst n r S ∧ mbR fit n r left + pcnt S = r + pcnt (unio fit S n &&& left) := by
  intro r
  induction r with
  | zero =>
    intro left _
    refine ⟨0, fun i hi => by simp at hi, ?_⟩
    have h0 : pcnt (unio fit 0 n &&& left) ≤ pcnt 0 := pn_mono 8 (fun i _ h => by
      rw [Nat.testBit_and, Bool.and_eq_true] at h
      obtain ⟨k, _, h2, _⟩ := (nb_bit 0 i).mp h.1
      simp at h2)
    have : pcnt 0 = 0 := by decide
    show 0 + pcnt 0 = _
    omega
  | succ r ih =>
    intro left hr
    have hk : n - (r + 1) < n := by omega
    have dsub : ∀ f j, (del left f).testBit j = true → left.testBit j = true := by
      intro f j hi
      unfold del at hi
      rw [Nat.testBit_and, Bool.and_eq_true] at hi
      exact hi.1
    have mono : ∀ f, mbR fit n r (del left f) ≤ mbR fit n r left := by
      intro f
      obtain ⟨S, s1, s2⟩ := ih left (by omega)
      have u := hall_U (fit := fit) hn r (del left f) S (by omega) s1
      have h2 : pcnt (unio fit S n &&& del left f) ≤ pcnt (unio fit S n &&& left) := pn_mono 8 (fun j _ h => by
        rw [Nat.testBit_and, Bool.and_eq_true] at h ⊢
        exact ⟨h.1, dsub f j h.2⟩)
      omega
    by_cases A : ∃ f, f < 8 ∧ (fit (n - (r + 1)) &&& left).testBit f = true ∧ mbR fit n r left ≤ mbR fit n r (del left f)
    · obtain ⟨f, f1, f2, f3⟩ := A
      obtain ⟨S, s1, s2⟩ := ih left (by omega)
      refine ⟨S, lst_up s1, ?_⟩
      have g1 := mbF_v (base := mbR fit n r left) (p := fun f => (fit (n - (r + 1)) &&& left).testBit f) (v := fun f => mbR fit n r (del left f)) 8 f f1 f2
      have g2 : mbF (mbR fit n r left) (fun f => (fit (n - (r + 1)) &&& left).testBit f) (fun f => mbR fit n r (del left f)) 8 ≤ 1 + mbR fit n r left := by
        rcases mbF_or (base := mbR fit n r left) (p := fun f => (fit (n - (r + 1)) &&& left).testBit f) (v := fun f => mbR fit n r (del left f)) 8 with e | ⟨f', _, _, e⟩
        · rw [e]; omega
        · rw [e]; have := mono f'; omega
      show mbF _ _ _ 8 + pcnt S = _
      omega
    · have nA : ∀ f, f < 8 → (fit (n - (r + 1)) &&& left).testBit f = true → mbR fit n r (del left f) < mbR fit n r left := by
        intro f f1 f2
        apply Classical.byContradiction
        intro z
        exact A ⟨f, f1, f2, by omega⟩
      have nu : mbF (mbR fit n r left) (fun f => (fit (n - (r + 1)) &&& left).testBit f) (fun f => mbR fit n r (del left f)) 8 = mbR fit n r left := by
        have g0 := mbF_ge (base := mbR fit n r left) (p := fun f => (fit (n - (r + 1)) &&& left).testBit f) (v := fun f => mbR fit n r (del left f)) 8
        rcases mbF_or (base := mbR fit n r left) (p := fun f => (fit (n - (r + 1)) &&& left).testBit f) (v := fun f => mbR fit n r (del left f)) 8 with e | ⟨f', f1, f2, e⟩
        · exact e
        · have := nA f' f1 f2; omega
      have build : ∀ F, F ≤ 8 → ∃ T, lst n r T ∧ mbR fit n r left + pcnt T = r + pcnt (unio fit T n &&& left) ∧ ∀ f, f < F → (fit (n - (r + 1)) &&& left).testBit f = true → (unio fit T n).testBit f = true := by
        intro F
        induction F with
        | zero =>
          intro _
          obtain ⟨S, s1, s2⟩ := ih left (by omega)
          exact ⟨S, s1, s2, fun f hf => absurd hf (by omega)⟩
        | succ F ihF =>
          intro hF
          obtain ⟨T, t1, t2, t3⟩ := ihF (by omega)
          by_cases q : (fit (n - (r + 1)) &&& left).testBit F = true
          · obtain ⟨S, s1, s2⟩ := ih (del left F) (by omega)
            have a1 := nA F (by omega) q
            have u1 := hall_U (fit := fit) hn r left S (by omega) s1
            have o1 : pcnt (unio fit S n &&& left) ≤ pcnt (unio fit S n &&& del left F) + 1 := pn_one (f := F) 8 (fun i hi hne hb => by
              rw [Nat.testBit_and, Bool.and_eq_true] at hb ⊢
              refine ⟨hb.1, ?_⟩
              rw [del_bit hi, hb.2]
              have : F ≠ i := fun z => hne z.symm
              simp [this])
            have hSF : (unio fit S n).testBit F = true := by
              apply Classical.byContradiction
              intro z
              have : pcnt (unio fit S n &&& left) ≤ pcnt (unio fit S n &&& del left F) := pn_mono 8 (fun i hi hb => by
                rw [Nat.testBit_and, Bool.and_eq_true] at hb ⊢
                refine ⟨hb.1, ?_⟩
                rw [del_bit hi, hb.2]
                have : F ≠ i := fun w => by rw [← w] at hb; exact z hb.1
                simp [this])
              omega
            have lT : lst n r (T ||| S) := fun i hi => by
              rw [Nat.testBit_or, Bool.or_eq_true] at hi
              rcases hi with w | w
              · exact t1 i w
              · exact s1 i w
            have lI : lst n r (T &&& S) := fun i hi => by
              rw [Nat.testBit_and, Bool.and_eq_true] at hi
              exact t1 i hi.1
            have uT := hall_U (fit := fit) hn r left (T ||| S) (by omega) lT
            have uI := hall_U (fit := fit) hn r left (T &&& S) (by omega) lI
            have mS := pn_mod T S 8
            have mN := pn_mod (unio fit T n &&& left) (unio fit S n &&& left) 8
            have nU : pcnt (unio fit (T ||| S) n &&& left) ≤ pcnt ((unio fit T n &&& left) ||| (unio fit S n &&& left)) := pn_mono 8 (fun i _ h => by
              rw [Nat.testBit_and, Bool.and_eq_true] at h
              obtain ⟨k, k1, k2, k3⟩ := (nb_bit (T ||| S) i).mp h.1
              rw [Nat.testBit_or, Bool.or_eq_true] at k2
              rw [Nat.testBit_or, Bool.or_eq_true, Nat.testBit_and, Nat.testBit_and, Bool.and_eq_true, Bool.and_eq_true]
              rcases k2 with w | w
              · exact Or.inl ⟨(nb_bit T i).mpr ⟨k, k1, w, k3⟩, h.2⟩
              · exact Or.inr ⟨(nb_bit S i).mpr ⟨k, k1, w, k3⟩, h.2⟩)
            have nI : pcnt (unio fit (T &&& S) n &&& left) ≤ pcnt ((unio fit T n &&& left) &&& (unio fit S n &&& left)) := pn_mono 8 (fun i _ h => by
              rw [Nat.testBit_and, Bool.and_eq_true] at h
              obtain ⟨k, k1, k2, k3⟩ := (nb_bit (T &&& S) i).mp h.1
              rw [Nat.testBit_and, Bool.and_eq_true] at k2
              rw [Nat.testBit_and, Nat.testBit_and, Nat.testBit_and, Bool.and_eq_true, Bool.and_eq_true, Bool.and_eq_true]
              exact ⟨⟨(nb_bit T i).mpr ⟨k, k1, k2.1, k3⟩, h.2⟩, (nb_bit S i).mpr ⟨k, k1, k2.2, k3⟩, h.2⟩)
            unfold pcnt at *
            refine ⟨T ||| S, lT, by omega, fun f hf hq => ?_⟩
            rw [nb_bit]
            by_cases e : f = F
            · subst e
              obtain ⟨k, k1, k2, k3⟩ := (nb_bit S f).mp hSF
              exact ⟨k, k1, by rw [Nat.testBit_or, k2]; simp, k3⟩
            · obtain ⟨k, k1, k2, k3⟩ := (nb_bit T f).mp (t3 f (by omega) hq)
              exact ⟨k, k1, by rw [Nat.testBit_or, k2]; rfl, k3⟩
          · refine ⟨T, t1, t2, fun f hf hq => ?_⟩
            by_cases e : f = F
            · subst e; exact absurd hq q
            · exact t3 f (by omega) hq
      obtain ⟨T, t1, t2, t3⟩ := build 8 (Nat.le_refl _)
      have hTk : T.testBit (n - (r + 1)) = false := by
        cases hb : T.testBit (n - (r + 1)) with
        | false => rfl
        | true => have := t1 _ hb; omega
      refine ⟨T ||| 2 ^ (n - (r + 1)), fun i hi => ?_, ?_⟩
      · rw [Nat.testBit_or, Bool.or_eq_true, Nat.testBit_two_pow] at hi
        rcases hi with w | w
        · exact lst_up t1 i w
        · simp at w; omega
      · have c1 : pcnt (T ||| 2 ^ (n - (r + 1))) = pcnt T + 1 := by
          have a1 : pcnt T < pcnt (T ||| 2 ^ (n - (r + 1))) := pn_lt 8 (n - (r + 1)) (by omega) (fun i _ h => by rw [Nat.testBit_or, h]; rfl) hTk (by rw [Nat.testBit_or, Nat.testBit_two_pow_self]; simp)
          have a2 : pcnt (T ||| 2 ^ (n - (r + 1))) ≤ pcnt T + 1 := pn_one (f := n - (r + 1)) 8 (fun i _ hne h => by
            rw [Nat.testBit_or, Bool.or_eq_true, Nat.testBit_two_pow] at h
            rcases h with w | w
            · exact w
            · simp at w; omega)
          omega
        have c2 : pcnt (unio fit (T ||| 2 ^ (n - (r + 1))) n &&& left) = pcnt (unio fit T n &&& left) := by
          apply Nat.le_antisymm
          · refine pn_mono 8 (fun i hi h => ?_)
            rw [Nat.testBit_and, Bool.and_eq_true] at h ⊢
            refine ⟨?_, h.2⟩
            obtain ⟨k, k1, k2, k3⟩ := (nb_bit (T ||| 2 ^ (n - (r + 1))) i).mp h.1
            rw [Nat.testBit_or, Bool.or_eq_true, Nat.testBit_two_pow] at k2
            rcases k2 with w | w
            · exact (nb_bit T i).mpr ⟨k, k1, w, k3⟩
            · simp at w
              subst w
              exact t3 i hi (by rw [Nat.testBit_and, k3, h.2]; rfl)
          · refine pn_mono 8 (fun i hi h => ?_)
            rw [Nat.testBit_and, Bool.and_eq_true] at h ⊢
            refine ⟨?_, h.2⟩
            obtain ⟨k, k1, k2, k3⟩ := (nb_bit T i).mp h.1
            exact (nb_bit _ i).mpr ⟨k, k1, by rw [Nat.testBit_or, k2]; rfl, k3⟩
        rw [c1, c2]
        show mbF _ _ _ 8 + (pcnt T + 1) = _
        rw [nu]
        omega
end HA
/-- by how many a set is too many, at worst -/
def dfF (fit : Nat → Nat) (n : Nat) : Nat → Nat
  | 0 => 0
  | a + 1 => if dfF fit n a < pcnt a - pcnt (unio fit a n) then pcnt a - pcnt (unio fit a n) else dfF fit n a
theorem dfF_ge {fit : Nat → Nat} {n : Nat} : ∀ N a, a < N → pcnt a - pcnt (unio fit a n) ≤ dfF fit n N := by
  intro N
  induction N with
  | zero => intro a h; omega
  | succ N ih =>
    intro a ha
    rw [dfF]
    by_cases e : a = N
    · subst e; split <;> omega
    · have := ih a (by omega)
      split <;> omega
theorem dfF_le {fit : Nat → Nat} {n M : Nat} : ∀ N, (∀ a, a < N → pcnt a - pcnt (unio fit a n) ≤ M) → dfF fit n N ≤ M := by
  intro N
  induction N with
  | zero => intro _; exact Nat.zero_le _
  | succ N ih =>
    intro H
    rw [dfF]
    have := ih (fun a ha => H a (by omega))
    have := H N (by omega)
    split <;> omega
theorem lst_lt {n S : Nat} (h : lst n n S) : S < 2 ^ n := by
  apply Nat.lt_pow_two_of_testBit
  intro i hi
  cases hb : S.testBit i with
  | false => rfl
  | true => have := h i hb; omega
theorem hall (fit : Nat → Nat) {n : Nat} (hn : n ≤ 8) : n - dfF fit n (2 ^ n) = mbR fit n n 255 ∧ dfF fit n (2 ^ n) ≤ n := by
  have up : ∀ a, a < 2 ^ n → pcnt a - pcnt (unio fit a n) ≤ n - mbR fit n n 255 := by
    intro a ha
    have la : lst n n a := fun i hi => by
      refine ⟨by omega, ?_⟩
      apply Classical.byContradiction
      intro q
      have : a.testBit i = false := Nat.testBit_lt_two_pow (Nat.lt_of_lt_of_le ha (Nat.pow_le_pow_right (by decide) (by omega)))
      rw [this] at hi
      cases hi
    have := hall_U (fit := fit) hn n 255 a (Nat.le_refl _) la
    rw [pcnt_and255] at this
    omega
  have h1 := dfF_le (fit := fit) (n := n) (2 ^ n) up
  have le : mbR fit n n 255 ≤ n := by
    have := hall_U (fit := fit) hn n 255 0 (Nat.le_refl _) (fun i hi => by simp at hi)
    rw [pcnt_and255] at this
    have h0 : pcnt (unio fit 0 n) ≤ pcnt 0 := pn_mono 8 (fun i _ h => by
      obtain ⟨k, _, h2, _⟩ := (nb_bit 0 i).mp h
      simp at h2)
    have : pcnt 0 = 0 := by decide
    omega
  obtain ⟨S, s1, s2⟩ := hall_E (fit := fit) hn n 255 (Nat.le_refl _)
  rw [pcnt_and255] at s2
  have h2 := dfF_ge (fit := fit) (n := n) (2 ^ n) S (lst_lt s1)
  omega
