/-! ===== Weeks.copyFrom ===== -/
section CS2
variable {Y : Ly} {x s d : Nat} {h : Hp}
theorem We_copyFrom_s (S : CS Y h x) (T : Ty Y h) (hd : isO Y 9 d) (hs : isO Y 9 s) (ne : s ≠ d) : ∃ h', We_copyFrom Y d s h = some h' ∧ Kf Y d h h' ∧ (∀ f, 905 ≤ f → f ≤ 907 → hGi h' f d = hGi h f s) ∧
    ∀ f i, 900 ≤ f → f ≤ 904 → i < 60 → hAi h' (hGr h f d) i = hAi h (hGr h f s) i := by
  unfold We_copyFrom
  have b0 : cpB 0 0 60 (lnY Y (hGr h 900 s)) (lnY Y (hGr h 900 d)) = true := by rw [cl900 S hs, cl900 S hd]; decide
  have b1 : cpB 0 0 60 (lnY Y (hGr h 901 s)) (lnY Y (hGr h 901 d)) = true := by rw [cl901 S hs, cl901 S hd]; decide
  have b2 : cpB 0 0 60 (lnY Y (hGr h 902 s)) (lnY Y (hGr h 902 d)) = true := by rw [cl902 S hs, cl902 S hd]; decide
  have b3 : cpB 0 0 60 (lnY Y (hGr h 903 s)) (lnY Y (hGr h 903 d)) = true := by rw [cl903 S hs, cl903 S hd]; decide
  have b4 : cpB 0 0 60 (lnY Y (hGr h 904 s)) (lnY Y (hGr h 904 d)) = true := by rw [cl904 S hs, cl904 S hd]; decide
  have z5 : hSz h 905 d (hGz h 905 s) = hSi h 905 d (hGi h 905 s) := by
    unfold hGz
    rcases T.2.1 905 rfl s hs with e | e
    · rw [e]; rfl
    · rw [e]; rfl
  rw [letH_e, letH_e, letH_e, cpS b0 (by rfl) (by rfl), cpS b1 (by rfl) (by rfl), cpS b2 (by rfl) (by rfl), cpS b3 (by rfl) (by rfl), cpS b4 (by rfl) (by rfl), z5]
  rw [gi_si h, if_neg (fun z => ne z.2), show Int32.toNatClampNeg 60 = 60 from rfl]
  rw [show hGi (hSi (hSi h 905 d (hGi h 905 s)) 906 d (hGi h 906 s)) 907 s = hGi h 907 s by rw [gi_si, if_neg (fun z => ne z.2), gi_si, if_neg (fun z => ne z.2)]]
  have K4 : Kf Y d h (hSi (hSi (hSi h 905 d (hGi h 905 s)) 906 d (hGi h 906 s)) 907 d (hGi h 907 s)) := Kf_tr (Kf_tr (Kf_si (Or.inr (T.2.1 905 rfl s hs))) (Kf_si (Or.inl rfl))) (Kf_si (Or.inl rfl))
  have F4 : ∀ f, 905 ≤ f → f ≤ 907 → hGi (hSi (hSi (hSi h 905 d (hGi h 905 s)) 906 d (hGi h 906 s)) 907 d (hGi h 907 s)) f d = hGi h f s := by
    intro f h1 h2
    rcases (show f = 905 ∨ f = 906 ∨ f = 907 by omega) with e | e | e <;> subst e
    · rw [gi_si, if_neg (by omega), gi_si, if_neg (by omega), gi_si, if_pos ⟨rfl, rfl⟩]
    · rw [gi_si, if_neg (by omega), gi_si, if_pos ⟨rfl, rfl⟩]
    · rw [gi_si, if_pos ⟨rfl, rfl⟩]
  generalize hSi (hSi (hSi h 905 d (hGi h 905 s)) 906 d (hGi h 906 s)) 907 d (hGi h 907 s) = h4 at *
  have C0 : Cp Y s d h h4 (fun _ _ => False) := ⟨K4, fun _ _ z => absurd z (fun z => z)⟩
  have C1 := Cp_step (n := 60) (f := 900) S C0 hd hs ne rfl rfl (fun _ _ z => absurd z (fun z => z))
  have C2 := Cp_step (n := 60) (f := 901) S C1 hd hs ne rfl rfl (fun g m z => by
    rcases z with ⟨rfl, _⟩ | z
    · exact ⟨by decide, rfl, rfl⟩
    · exact absurd z (fun z => z))
  have C3 := Cp_step (n := 60) (f := 902) S C2 hd hs ne rfl rfl (fun g m z => by
    rcases z with ⟨rfl, _⟩ | ⟨rfl, _⟩ | z
    · exact ⟨by decide, rfl, rfl⟩
    · exact ⟨by decide, rfl, rfl⟩
    · exact absurd z (fun z => z))
  have C4 := Cp_step (n := 60) (f := 903) S C3 hd hs ne rfl rfl (fun g m z => by
    rcases z with ⟨rfl, _⟩ | ⟨rfl, _⟩ | ⟨rfl, _⟩ | z
    · exact ⟨by decide, rfl, rfl⟩
    · exact ⟨by decide, rfl, rfl⟩
    · exact ⟨by decide, rfl, rfl⟩
    · exact absurd z (fun z => z))
  have C5 := Cp_step (n := 60) (f := 904) S C4 hd hs ne rfl rfl (fun g m z => by
    rcases z with ⟨rfl, _⟩ | ⟨rfl, _⟩ | ⟨rfl, _⟩ | ⟨rfl, _⟩ | z
    · exact ⟨by decide, rfl, rfl⟩
    · exact ⟨by decide, rfl, rfl⟩
    · exact ⟨by decide, rfl, rfl⟩
    · exact ⟨by decide, rfl, rfl⟩
    · exact absurd z (fun z => z))
  refine ⟨_, rfl, C5.1, F4, fun f i h1 h2 hi => C5.2 f 60 ?_ i hi⟩
  rcases (show f = 900 ∨ f = 901 ∨ f = 902 ∨ f = 903 ∨ f = 904 by omega) with e | e | e | e | e
  · exact Or.inr (Or.inr (Or.inr (Or.inr (Or.inl ⟨e, rfl⟩))))
  · exact Or.inr (Or.inr (Or.inr (Or.inl ⟨e, rfl⟩)))
  · exact Or.inr (Or.inr (Or.inl ⟨e, rfl⟩))
  · exact Or.inr (Or.inl ⟨e, rfl⟩)
  · exact Or.inl ⟨e, rfl⟩
end CS2
