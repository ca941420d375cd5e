/-! ===== Lot.copyFrom ===== -/
section CS3
variable {Y : Ly} {x s d : Nat} {h : Hp}
theorem Lo_copyFrom_s (S : CS Y h x) (hd : isO Y 3 d) (hs : isO Y 3 s) (ne : s ≠ d) {L N : Nat} (hL : L < 10) (hN : N ≤ L) (l0s : lnY Y (hGr h 300 s) = L) (l1s : lnY Y (hGr h 301 s) = L) (l0d : lnY Y (hGr h 300 d) = L) (l1d : lnY Y (hGr h 301 d) = L) (hn : hGi h 302 s = nI N) :
    ∃ h', Lo_copyFrom Y d s h = some h' ∧ Kf Y d h h' ∧ hGi h' 302 d = nI N ∧ ∀ f i, 300 ≤ f → f ≤ 301 → i < N → hAi h' (hGr h f d) i = hAi h (hGr h f s) i := by
  have nI_o : ∀ k, Int32.ofNat k = nI k := fun _ => rfl
  have inj : ∀ f f' o, 300 ≤ f → f ≤ 301 → 300 ≤ f' → f' ≤ 301 → isO Y 3 o → (hGr h f o = hGr h f' d) → f = f' ∧ o = d := by
    intro f f' o h1 h2 h3 h4 ho w
    have cf : ∀ f, 300 ≤ f → f ≤ 301 → cArr f = true := by
      intro f h1 h2
      rcases (show f = 300 ∨ f = 301 by omega) with e | e <;> (subst e; rfl)
    exact S.2.2.2.1 f f' o d (cf f h1 h2) (cf f' h3 h4) (by rw [show f / 100 = 3 by omega]; exact ho) (by rw [show f' / 100 = 3 by omega]; exact hd) w
  unfold Lo_copyFrom
  rw [l0d, hn, nI_o, letH_e, if_neg (nI_nlt hN (by omega))]
  refine upl (Q := fun r => ∃ h', r = some h' ∧ Kf Y d h h' ∧ hGi h' 302 d = nI N ∧ ∀ f i, 300 ≤ f → f ≤ 301 → i < N → hAi h' (hGr h f d) i = hAi h (hGr h f s) i) (fun F i hh => Lo_copyFrom_L18 Y d s F (nI i) hh) N
    (fun n h' => Kf Y d h h' ∧ hGi h' 302 d = nI N ∧ ∀ f i, 300 ≤ f → f ≤ 301 → i < n → hAi h' (hGr h f d) i = hAi h (hGr h f s) i) ?_ ?_ N 0 _ FU (by omega) (by unfold FU; omega) ⟨Kf_si (Or.inl rfl), by rw [gi_si, if_pos ⟨rfl, rfl⟩], fun f i _ _ hi => absurd hi (by omega)⟩
  · intro F i h1 hi hI
    right
    obtain ⟨K, i2, i3⟩ := hI
    have e := K.2.2.1
    show ∃ s', Lo_copyFrom_L18 Y d s (F + 1) (nI i) h1 = Lo_copyFrom_L18 Y d s F (nI (i + 1)) s' ∧ _
    rw [Lo_copyFrom_L18, i2, if_neg (nI_ge hi (by omega)), e 300 s, e 301 s, e 300 d, l0s, l1s, l0d, nI_o, if_neg (nI_ge (show i < L by omega) (by omega)), if_neg (nI_ge (show i < L by omega) (by omega)), if_pos (inB_nI (by omega) (by omega)), if_pos (inB_nI (by omega) (by omega)), letH_e, gr_ti, gr_ti, e 301 s, e 301 d, l1s, l1d, if_pos (inB_nI (by omega) (by omega)), if_pos (inB_nI (by omega) (by omega)), letH_e, nI_clamp (by omega), nI_1]
    have rd : ∀ f, 300 ≤ f → f ≤ 301 → hAi h1 (hGr h f s) i = hAi h (hGr h f s) i := by
      intro f q1 q2
      refine (K.2.2.2.2.1 _ i (fun f' hf' ho' w => ?_)).1
      have cf : cArr f = true := by
        rcases (show f = 300 ∨ f = 301 by omega) with e | e <;> (subst e; rfl)
      exact ne (S.2.2.2.1 f f' s d cf hf' (by rw [show f / 100 = 3 by omega]; exact hs) ho' w).2
    have k1 : ∀ v, Kf Y d h1 (hTi h1 (hGr h 300 d) i v) := fun v => by rw [← e 300 d]; exact Kf_ti rfl hd
    have k2 : ∀ hh v, (∀ f a, hGr hh f a = hGr h f a) → Kf Y d hh (hTi hh (hGr h 301 d) i v) := fun hh v q => by rw [← q 301 d]; exact Kf_ti rfl hd
    refine ⟨_, rfl, Kf_tr K (Kf_tr (k1 _) (k2 _ _ (fun f a => e f a))), i2, fun f k q1 q2 hk => ?_⟩
    rcases (show f = 300 ∨ f = 301 by omega) with ef | ef <;> subst ef
    · rw [ai_ti, if_neg (fun w => absurd (inj 300 301 d (by omega) (by omega) (by omega) (by omega) hd w.1).1 (by decide)), ai_ti]
      by_cases w : k = i
      · rw [if_pos ⟨rfl, w⟩, w]; exact rd 300 (by omega) (by omega)
      · rw [if_neg (fun z => w z.2)]; exact i3 300 k (by omega) (by omega) (by omega)
    · rw [ai_ti]
      by_cases w : k = i
      · rw [if_pos ⟨rfl, w⟩, w, ai_ti, if_neg (fun z => ne (inj 301 300 s (by omega) (by omega) (by omega) (by omega) hs z.1).2)]
        exact rd 301 (by omega) (by omega)
      · rw [if_neg (fun z => w z.2), ai_ti, if_neg (fun z => absurd (inj 301 300 d (by omega) (by omega) (by omega) (by omega) hd z.1).1 (by decide))]
        exact i3 301 k (by omega) (by omega) (by omega)
  · intro F h1 hI
    refine ⟨h1, ?_, hI⟩
    show Lo_copyFrom_L18 Y d s (F + 1) (nI N) h1 = some h1
    rw [Lo_copyFrom_L18, hI.2.1, if_pos (nI_le (Nat.le_refl _) (by omega))]
end CS3
