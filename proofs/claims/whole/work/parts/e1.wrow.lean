/-! ===== weeks: a row written ===== -/
section ROW
variable {Yc : Ly} {x t s wk wr n : Nat} {T : Nat → Int32} {P : Nat → Prop} {hc0 h : Hp} {p R S d : Nat} {cL c : Nat → Int32} {w : Nat → Int64} {a b e f v : Int32}
def arH (h : Hp) (wk R S : Nat) (a b e f : Int32) : Hp := hSi (hSi (hTi (hTi (hTi (hTi (hTi h (hGr h 900 wk) R a) (hGr h 902 wk) R b) (hGr h 901 wk) R e) (hGr h 903 wk) R f) (hGr h 904 wk) R (-1)) 906 wk (nI (R + 1))) 907 wk (nI S)
theorem ar_gr (g y : Nat) : hGr (arH h wk R S a b e f) g y = hGr h g y := rfl
theorem ar_gi {g y : Nat} (ne : ¬ (y = wk ∧ (g = 906 ∨ g = 907))) : hGi (arH h wk R S a b e f) g y = hGi h g y := by
  unfold arH
  rw [gi_si, if_neg (fun z => ne ⟨z.2, Or.inr z.1⟩), gi_si, if_neg (fun z => ne ⟨z.2, Or.inl z.1⟩)]
  rfl
theorem ar_6 : hGi (arH h wk R S a b e f) 906 wk = nI (R + 1) := by unfold arH; rw [gi_si, if_neg (by omega), gi_si, if_pos ⟨rfl, rfl⟩]
theorem ar_7 : hGi (arH h wk R S a b e f) 907 wk = nI S := by unfold arH; rw [gi_si, if_pos ⟨rfl, rfl⟩]
theorem wk_ne (S' : CS Yc h x) (ow : isO Yc 9 wk) {g g' : Nat} (hg : 900 ≤ g ∧ g ≤ 904) (hg' : 900 ≤ g' ∧ g' ≤ 904) (ne : g ≠ g') : ¬ hGr h g wk = hGr h g' wk := by
  have k : ∀ q, 900 ≤ q → q ≤ 904 → cArr q = true ∧ isO Yc (q / 100) wk := by
    intro q h1 h2
    refine ⟨?_, by rw [show q / 100 = 9 by omega]; exact ow⟩
    rcases (show q = 900 ∨ q = 901 ∨ q = 902 ∨ q = 903 ∨ q = 904 by omega) with e | e | e | e | e <;> (subst e; rfl)
  obtain ⟨k1, k2⟩ := k g hg.1 hg.2
  obtain ⟨k3, k4⟩ := k g' hg'.1 hg'.2
  exact fun z => ne (S'.2.2.2.1 g g' wk wk k1 k3 k2 k4 z).1
theorem addRow_s (S' : CS Yc h x) (ow : isO Yc 9 wk) (e6 : hGi h 906 wk = nI R) (e7 : hGi h 907 wk = nI S) (hR : R < 60) : We_addRow Yc wk a b e f h = some (arH h wk R (if a = 29 then S else S + 1) a b e f) := by
  unfold We_addRow
  rw [e6, if_neg (show ¬ (60 : Int32) ≤ nI R from nI_ge (b := 60) hR (by omega)), cl900 S' ow, if_pos (inB_nI hR (by decide)), letH_e, gi_ti, e6, gr_ti, cl902 S' ow, if_pos (inB_nI hR (by decide)), letH_e, gi_ti, gi_ti, e6, gr_ti, gr_ti, cl901 S' ow, if_pos (inB_nI hR (by decide)), letH_e, gi_ti, gi_ti, gi_ti, e6, gr_ti, gr_ti, gr_ti, cl903 S' ow, if_pos (inB_nI hR (by decide)), letH_e, gi_ti, gi_ti, gi_ti, gi_ti, e6, gr_ti, gr_ti, gr_ti, gr_ti, cl904 S' ow, if_pos (inB_nI hR (by decide)), letH_e, letH_e, nI_clamp (by omega), gi_ti, gi_ti, gi_ti, gi_ti, gi_ti, e6, nI_1]
  by_cases z : a = 29
  · rw [if_pos z, if_pos z, letH_e, gi_si, if_neg (by omega), gi_ti, gi_ti, gi_ti, gi_ti, gi_ti, e7, show nI S + 0 = nI S from nI_add S 0]
    rfl
  · rw [if_neg z, if_neg z, letH_e, gi_si, if_neg (by omega), gi_ti, gi_ti, gi_ti, gi_ti, gi_ti, e7, nI_1]
    rfl
theorem ar_kf (ow : isO Yc 9 wk) : Kf Yc wk h (arH h wk R S a b e f) := by
  have K1 : Kf Yc wk h (hTi h (hGr h 900 wk) R a) := Kf_ti rfl ow
  have K2 := Kf_ti (Y := Yc) (h := hTi h (hGr h 900 wk) R a) (f := 902) (i := R) (v := b) rfl ow
  have K3 := Kf_ti (Y := Yc) (h := hTi (hTi h (hGr h 900 wk) R a) (hGr h 902 wk) R b) (f := 901) (i := R) (v := e) rfl ow
  have K4 := Kf_ti (Y := Yc) (h := hTi (hTi (hTi h (hGr h 900 wk) R a) (hGr h 902 wk) R b) (hGr h 901 wk) R e) (f := 903) (i := R) (v := f) rfl ow
  have K5 := Kf_ti (Y := Yc) (h := hTi (hTi (hTi (hTi h (hGr h 900 wk) R a) (hGr h 902 wk) R b) (hGr h 901 wk) R e) (hGr h 903 wk) R f) (f := 904) (i := R) (v := -1) rfl ow
  exact Kf_tr (Kf_tr (Kf_tr (Kf_tr (Kf_tr (Kf_tr K1 K2) K3) K4) K5) (Kf_si (Or.inl rfl))) (Kf_si (Or.inl rfl))
theorem ar_at (S' : CS Yc h x) (ow : isO Yc 9 wk) : hAi (arH h wk R S a b e f) (hGr h 900 wk) R = a ∧ hAi (arH h wk R S a b e f) (hGr h 901 wk) R = e ∧ hAi (arH h wk R S a b e f) (hGr h 902 wk) R = b ∧ hAi (arH h wk R S a b e f) (hGr h 903 wk) R = f ∧ hAi (arH h wk R S a b e f) (hGr h 904 wk) R = -1 := by
  have D : ∀ {g g' : Nat}, 900 ≤ g ∧ g ≤ 904 → 900 ≤ g' ∧ g' ≤ 904 → g ≠ g' → ¬ hGr h g wk = hGr h g' wk := fun h1 h2 h3 => wk_ne S' ow h1 h2 h3
  unfold arH
  refine ⟨?_, ?_, ?_, ?_, ?_⟩
  · rw [ai_si, ai_si, ai_ti, if_neg (fun z => D (by omega) (by omega) (by decide) z.1), ai_ti, if_neg (fun z => D (by omega) (by omega) (by decide) z.1), ai_ti, if_neg (fun z => D (by omega) (by omega) (by decide) z.1), ai_ti, if_neg (fun z => D (by omega) (by omega) (by decide) z.1), ai_ti, if_pos ⟨rfl, rfl⟩]
  · rw [ai_si, ai_si, ai_ti, if_neg (fun z => D (by omega) (by omega) (by decide) z.1), ai_ti, if_neg (fun z => D (by omega) (by omega) (by decide) z.1), ai_ti, if_pos ⟨rfl, rfl⟩]
  · rw [ai_si, ai_si, ai_ti, if_neg (fun z => D (by omega) (by omega) (by decide) z.1), ai_ti, if_neg (fun z => D (by omega) (by omega) (by decide) z.1), ai_ti, if_neg (fun z => D (by omega) (by omega) (by decide) z.1), ai_ti, if_pos ⟨rfl, rfl⟩]
  · rw [ai_si, ai_si, ai_ti, if_neg (fun z => D (by omega) (by omega) (by decide) z.1), ai_ti, if_pos ⟨rfl, rfl⟩]
  · rw [ai_si, ai_si, ai_ti, if_pos ⟨rfl, rfl⟩]
theorem ar_ne {A i : Nat} (ne : i ≠ R) : hAi (arH h wk R S a b e f) A i = hAi h A i := by
  unfold arH
  rw [ai_si, ai_si, ai_ti, if_neg (fun z => ne z.2), ai_ti, if_neg (fun z => ne z.2), ai_ti, if_neg (fun z => ne z.2), ai_ti, if_neg (fun z => ne z.2), ai_ti, if_neg (fun z => ne z.2)]
/-- writes to the weeks' and the reader's own cells leave the shelf and the tokens -/
theorem PC_own {o : Nat} {h' : Hp} (C : PC Yc x t s n T P hc0 h p cL c w) (K : Kf Yc o h h') (po : P o) (k : Nat) (oo : isO Yc k o) (hk : k = 9 ∨ k = 10) (os : isO Yc 4 s) (ot : isO Yc 7 t) : PC Yc x t s n T P hc0 h' p cL c w := by
  have S' := C.2.1
  have Tt := C.2.2.1
  have o6 := Tt.1 400 6 rfl s os
  have o1 := Tt.1 401 3 rfl s os
  have o2 := Tt.1 402 3 rfl s os
  have hn : ∀ {q y : Nat}, isO Yc q y → q ≠ 9 → q ≠ 10 → y ≠ o := fun hy h1 h2 => isO_ne hy oo (by omega)
  have A : ∀ {g y : Nat}, cArr g = true → isO Yc (g / 100) y → y ≠ o → hAi h' (hGr h g y) = hAi h (hGr h g y) ∧ hAl h' (hGr h g y) = hAl h (hGr h g y) := fun h1 h2 h3 => Kf_ai K S' h3 h1 h2
  have s0 := hn os (by decide) (by decide)
  have s6 := hn o6 (by decide) (by decide)
  have s1 := hn o1 (by decide) (by decide)
  have s2 := hn o2 (by decide) (by decide)
  have go : ∀ g y, rsF g = true → y ≠ o → hGi h' g y = hGi h g y := fun g y _ hy => K.1 g y hy
  have R' : RF h' s cL := by
    have r := C.2.2.2.2.1
    obtain ⟨r1, r2, r3, r4, r5⟩ := r
    have er := K.2.2.1
    refine ⟨?_, ?_, ?_, ?_, ?_⟩
    · unfold RC
      rw [er, er, er, K.1 _ _ s6, K.1 _ _ s6, K.1 _ _ s6, K.1 _ _ s6, K.1 _ _ s1, K.1 _ _ s2, K.1 _ _ s0, K.1 _ _ s0, K.1 _ _ s0, K.1 _ _ s0]
      exact r1
    · unfold ROf
      rw [er 400, er 600, er 601, er 602, er 603, (A (g := 600) rfl o6 s6).1, (A (g := 601) rfl o6 s6).1, (A (g := 602) rfl o6 s6).1, (A (g := 603) rfl o6 s6).1]
      exact r2
    · unfold RK
      rw [er 406, er 407, er 408, er 409, er 410, er 411, (A (g := 406) rfl os s0).1, (A (g := 407) rfl os s0).1, (A (g := 408) rfl os s0).1, (A (g := 409) rfl os s0).1, (A (g := 410) rfl os s0).1, (A (g := 411) rfl os s0).1]
      exact r3
    · unfold RH
      rw [er 412, (A (g := 412) rfl os s0).1]
      exact r4
    · unfold RL
      rw [er 401, er 402, er 300, er 301, er 300, er 301, (A (g := 300) rfl o1 s1).1, (A (g := 301) rfl o1 s1).1, (A (g := 300) rfl o2 s2).1, (A (g := 301) rfl o2 s2).1]
      exact r5
  exact PC_f C K po (fun z => hn ot (by decide) (by decide) z.symm) ot R' (RN_o S' os s0 K C.2.2.2.2.2)
def opH (h : Hp) (wr d R : Nat) : Hp := hSi (hTi h (hGr h 1000 wr) d (nI R)) 1001 wr (nI (d + 1))
theorem openRow_s (S' : CS Yc h x) (or_ : isO Yc 10 wr) (e1 : hGi h 1001 wr = nI d) (e6 : hGi h 906 wk = nI R) (hd : d < 3) : WR_openRow Yc wr wk h = some (opH h wr d R) := by
  unfold WR_openRow
  rw [e1, if_neg (nI_pos (by omega)), if_neg (show ¬ (3 : Int32) ≤ nI d from nI_ge (b := 3) hd (by omega)), cl1000 S' or_, if_pos (inB_nI hd (by decide)), letH_e, letH_e, nI_clamp (by omega), e6, gi_ti, e1, nI_1]
  rfl
theorem op_kf (or_ : isO Yc 10 wr) : Kf Yc wr h (opH h wr d R) := Kf_tr (Kf_ti (f := 1000) rfl or_) (Kf_si (Or.inl rfl))
theorem op_1 : hGi (opH h wr d R) 1001 wr = nI (d + 1) := by unfold opH; rw [gi_si, if_pos ⟨rfl, rfl⟩]
theorem op_at : hAi (opH h wr d R) (hGr h 1000 wr) d = nI R := by unfold opH; rw [ai_si, ai_ti, if_pos ⟨rfl, rfl⟩]
theorem op_ne {A i : Nat} (ne : i ≠ d) : hAi (opH h wr d R) A i = hAi h A i := by unfold opH; rw [ai_si, ai_ti, if_neg (fun z => ne z.2)]
/-- a row closed: the row of its end behind, both know of each other -/
def clH (h : Hp) (wk R S q : Nat) : Hp := hTi (hTi (arH h wk R S 29 (-1) 0 0) (hGr h 904 wk) q (nI R)) (hGr h 904 wk) R (nI q)
theorem closeRow_s (S' : CS Yc h x) (ow : isO Yc 9 wk) (e6 : hGi h 906 wk = nI R) (e7 : hGi h 907 wk = nI S) (hR : R < 60) {q : Nat} (hq : q < R) : We_closeRow Yc wk (nI q) h = some (clH h wk R S q) := by
  have hr : ∀ k, k < R + 1 → We_hasRow Yc wk (nI k) (arH h wk R S 29 (-1) 0 0) = some true := by
    intro k hk
    unfold We_hasRow
    rw [if_neg (nI_pos (by omega)), ar_6, if_neg (nI_ge hk (by omega))]
  unfold We_closeRow
  rw [addRow_s S' ow e6 e7 hR, if_pos rfl, bind_s, hr q (by omega), bind_s, if_pos rfl, e6, hr R (by omega), bind_s, if_pos rfl, ar_gr, cl904 S' ow, if_pos (inB_nI (by omega) (by decide)), letH_e, gr_ti, ar_gr, cl904 S' ow, if_pos (inB_nI (by omega) (by decide)), letH_e, nI_clamp (by omega), nI_clamp (by omega)]
  rfl
theorem cl_kf (ow : isO Yc 9 wk) {q : Nat} : Kf Yc wk h (clH h wk R S q) := by
  have K2 := Kf_ti (Y := Yc) (h := arH h wk R S 29 (-1) 0 0) (f := 904) (i := q) (v := nI R) rfl ow
  have K3 := Kf_ti (Y := Yc) (h := hTi (arH h wk R S 29 (-1) 0 0) (hGr h 904 wk) q (nI R)) (f := 904) (i := R) (v := nI q) rfl ow
  exact Kf_tr (Kf_tr (ar_kf ow) K2) K3
theorem cl_67 {q : Nat} : hGi (clH h wk R S q) 906 wk = nI (R + 1) ∧ hGi (clH h wk R S q) 907 wk = nI S := ⟨ar_6 (h := h) (a := 29) (b := -1) (e := 0) (f := 0) (S := S), ar_7 (h := h) (a := 29) (b := -1) (e := 0) (f := 0) (R := R)⟩
/-- what stands in the rows then -/
theorem cl_ai (S' : CS Yc h x) (ow : isO Yc 9 wk) {q : Nat} (hq : q < R) : hAi (clH h wk R S q) (hGr h 900 wk) R = 29 ∧ hAi (clH h wk R S q) (hGr h 904 wk) R = nI q ∧ hAi (clH h wk R S q) (hGr h 904 wk) q = nI R ∧
    (∀ g i, 900 ≤ g → g ≤ 903 → i ≠ R → hAi (clH h wk R S q) (hGr h g wk) i = hAi h (hGr h g wk) i) ∧ ∀ i, i ≠ R → i ≠ q → hAi (clH h wk R S q) (hGr h 904 wk) i = hAi h (hGr h 904 wk) i := by
  have D : ∀ {g g' : Nat}, 900 ≤ g ∧ g ≤ 904 → 900 ≤ g' ∧ g' ≤ 904 → g ≠ g' → ¬ hGr h g wk = hGr h g' wk := fun h1 h2 h3 => wk_ne S' ow h1 h2 h3
  have at0 := (ar_at (a := 29) (b := -1) (e := 0) (f := 0) (R := R) (S := S) S' ow).1
  unfold clH
  refine ⟨?_, ?_, ?_, fun g i h1 h2 ne => ?_, fun i n1 n2 => ?_⟩
  · rw [ai_ti, if_neg (fun z => D (by omega) (by omega) (by decide) z.1), ai_ti, if_neg (fun z => D (by omega) (by omega) (by decide) z.1), at0]
  · rw [ai_ti, if_pos ⟨rfl, rfl⟩]
  · rw [ai_ti, if_neg (fun z => by omega), ai_ti, if_pos ⟨rfl, rfl⟩]
  · rw [ai_ti, if_neg (fun z => ne z.2), ai_ti, if_neg (fun z => D (by omega) (by omega) (by omega) z.1), ar_ne ne]
  · rw [ai_ti, if_neg (fun z => n1 z.2), ai_ti, if_neg (fun z => n2 z.2), ar_ne n1]
end ROW
