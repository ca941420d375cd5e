/-! ===== Story.copyFrom, Weeks.copyFrom ===== -/
section CS1
variable {Y : Ly} {x s d : Nat} {h : Hp}
theorem cpS {α : Type} {h1 : Hp} {f : Nat} {k : Int32} {K : Hp → Option α} (b : cpB 0 0 k (lnY Y (hGr h f s)) (lnY Y (hGr h f d)) = true) (e1 : hGr h1 f s = hGr h f s) (e2 : hGr h1 f d = hGr h f d) :
    (if cpB 0 0 k (lnY Y (hGr h1 f s)) (lnY Y (hGr h1 f d)) = true then letH (hCi h1 (hGr h1 f s) (Int32.toNatClampNeg 0) (hGr h1 f d) (Int32.toNatClampNeg 0) (Int32.toNatClampNeg k)) K else none) = K (hCi h1 (hGr h f s) 0 (hGr h f d) 0 (Int32.toNatClampNeg k)) := by
  rw [e1, e2, if_pos b, letH_e]
  rfl
theorem St_copyFrom_s (S : CS Y h x) (hd : isO Y 6 d) (hs : isO Y 6 s) (ne : s ≠ d) : ∃ h', St_copyFrom Y d s h = some h' ∧ Kf Y d h h' ∧ (∀ f, 604 ≤ f → f ≤ 607 → hGi h' f d = hGi h f s) ∧
    (∀ i, i < 8 → hAi h' (hGr h 600 d) i = hAi h (hGr h 600 s) i) ∧ (∀ i, i < 64 → hAi h' (hGr h 601 d) i = hAi h (hGr h 601 s) i) ∧ (∀ i, i < 8 → hAi h' (hGr h 602 d) i = hAi h (hGr h 602 s) i) ∧ ∀ i, i < 48 → hAi h' (hGr h 603 d) i = hAi h (hGr h 603 s) i := by
  unfold St_copyFrom
  have b0 : cpB 0 0 8 (lnY Y (hGr h 600 s)) (lnY Y (hGr h 600 d)) = true := by rw [cl600 S hs, cl600 S hd]; decide
  have b1 : cpB 0 0 64 (lnY Y (hGr h 601 s)) (lnY Y (hGr h 601 d)) = true := by rw [cl601 S hs, cl601 S hd]; decide
  have b2 : cpB 0 0 8 (lnY Y (hGr h 602 s)) (lnY Y (hGr h 602 d)) = true := by rw [cl602 S hs, cl602 S hd]; decide
  have b3 : cpB 0 0 48 (lnY Y (hGr h 603 s)) (lnY Y (hGr h 603 d)) = true := by rw [cl603 S hs, cl603 S hd]; decide
  rw [letH_e, letH_e, letH_e, letH_e, cpS b0 (by rfl) (by rfl), cpS b1 (by rfl) (by rfl), cpS b2 (by rfl) (by rfl), cpS b3 (by rfl) (by rfl)]
  rw [gi_si h, if_neg (fun z => ne z.2), show Int32.toNatClampNeg 8 = 8 from rfl, show Int32.toNatClampNeg 64 = 64 from rfl, show Int32.toNatClampNeg 48 = 48 from rfl]
  rw [show hGi (hSi (hSi h 604 d (hGi h 604 s)) 605 d (hGi h 605 s)) 606 s = hGi h 606 s by rw [gi_si, if_neg (fun z => ne z.2), gi_si, if_neg (fun z => ne z.2)]]
  rw [show hGi (hSi (hSi (hSi h 604 d (hGi h 604 s)) 605 d (hGi h 605 s)) 606 d (hGi h 606 s)) 607 s = hGi h 607 s by rw [gi_si, if_neg (fun z => ne z.2), gi_si, if_neg (fun z => ne z.2), gi_si, if_neg (fun z => ne z.2)]]
  have K4 : Kf Y d h (hSi (hSi (hSi (hSi h 604 d (hGi h 604 s)) 605 d (hGi h 605 s)) 606 d (hGi h 606 s)) 607 d (hGi h 607 s)) := Kf_tr (Kf_tr (Kf_tr (Kf_si (Or.inl rfl)) (Kf_si (Or.inl rfl))) (Kf_si (Or.inl rfl))) (Kf_si (Or.inl rfl))
  have F4 : ∀ f, 604 ≤ f → f ≤ 607 → hGi (hSi (hSi (hSi (hSi h 604 d (hGi h 604 s)) 605 d (hGi h 605 s)) 606 d (hGi h 606 s)) 607 d (hGi h 607 s)) f d = hGi h f s := by
    intro f h1 h2
    rcases (show f = 604 ∨ f = 605 ∨ f = 606 ∨ f = 607 by omega) with e | e | e | e <;> subst e
    · rw [gi_si, if_neg (by omega), gi_si, if_neg (by omega), gi_si, if_neg (by omega), gi_si, if_pos ⟨rfl, rfl⟩]
    · rw [gi_si, if_neg (by omega), gi_si, if_neg (by omega), gi_si, if_pos ⟨rfl, rfl⟩]
    · rw [gi_si, if_neg (by omega), gi_si, if_pos ⟨rfl, rfl⟩]
    · rw [gi_si, if_pos ⟨rfl, rfl⟩]
  generalize hSi (hSi (hSi (hSi h 604 d (hGi h 604 s)) 605 d (hGi h 605 s)) 606 d (hGi h 606 s)) 607 d (hGi h 607 s) = h4 at *
  have C0 : Cp Y s d h h4 (fun _ _ => False) := ⟨K4, fun _ _ z => absurd z (fun z => z)⟩
  have C1 := Cp_step (n := 8) (f := 600) S C0 hd hs ne rfl rfl (fun _ _ z => absurd z (fun z => z))
  have C2 := Cp_step (n := 64) (f := 601) S C1 hd hs ne rfl rfl (fun g m z => by
    rcases z with ⟨rfl, _⟩ | z
    · exact ⟨by decide, rfl, rfl⟩
    · exact absurd z (fun z => z))
  have C3 := Cp_step (n := 8) (f := 602) S C2 hd hs ne rfl rfl (fun g m z => by
    rcases z with ⟨rfl, _⟩ | ⟨rfl, _⟩ | z
    · exact ⟨by decide, rfl, rfl⟩
    · exact ⟨by decide, rfl, rfl⟩
    · exact absurd z (fun z => z))
  have C4 := Cp_step (n := 48) (f := 603) S C3 hd hs ne rfl rfl (fun g m z => by
    rcases z with ⟨rfl, _⟩ | ⟨rfl, _⟩ | ⟨rfl, _⟩ | z
    · exact ⟨by decide, rfl, rfl⟩
    · exact ⟨by decide, rfl, rfl⟩
    · exact ⟨by decide, rfl, rfl⟩
    · exact absurd z (fun z => z))
  exact ⟨_, rfl, C4.1, F4, C4.2 600 8 (Or.inr (Or.inr (Or.inr (Or.inl ⟨rfl, rfl⟩)))), C4.2 601 64 (Or.inr (Or.inr (Or.inl ⟨rfl, rfl⟩))), C4.2 602 8 (Or.inr (Or.inl ⟨rfl, rfl⟩)), C4.2 603 48 (Or.inl ⟨rfl, rfl⟩)⟩
end CS1
