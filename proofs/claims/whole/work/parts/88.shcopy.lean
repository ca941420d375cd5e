/-! ===== Shelf.copyFrom ===== -/
theorem isO_ne {Y : Ly} {k k' a b : Nat} (ha : isO Y k a) (hb : isO Y k' b) (n : k ≠ k') : a ≠ b := fun e => n (by rw [← ha.2, ← hb.2, e])
theorem Kf_ai {Y : Ly} {x o o' f : Nat} {h h' : Hp} (K : Kf Y o h h') (S : CS Y h x) (ne : o' ≠ o) (hf : cArr f = true) (ho : isO Y (f / 100) o') : hAi h' (hGr h f o') = hAi h (hGr h f o') ∧ hAl h' (hGr h f o') = hAl h (hGr h f o') := by
  have q := fun i => K.2.2.2.2.1 (hGr h f o') i (fun f' hf' ho2 w => ne (S.2.2.2.1 f f' o' o hf hf' ho ho2 w).2)
  exact ⟨funext fun i => (q i).1, funext fun i => (q i).2⟩
theorem Kf_cs {Y : Ly} {x o : Nat} {h h' : Hp} (K : Kf Y o h h') (S : CS Y h x) : CS Y h' x := CS_congr S (fun f a _ => K.2.2.1 f a)
/-- only the objects of P and their arrays changed -/
def Kg (Y : Ly) (P : Nat → Prop) (h h' : Hp) : Prop := (∀ f a, ¬ P a → hGi h' f a = hGi h f a) ∧ (∀ f a, hGl h' f a = hGl h f a) ∧ (∀ f a, hGr h' f a = hGr h f a) ∧ (∀ A i, hAr h' A i = hAr h A i) ∧
  (∀ A i, (∀ f o, P o → cArr f = true → isO Y (f / 100) o → A ≠ hGr h f o) → hAi h' A i = hAi h A i ∧ hAl h' A i = hAl h A i) ∧ (Ty Y h → Ty Y h')
theorem Kg_of {Y : Ly} {P : Nat → Prop} {o : Nat} {h h' : Hp} (K : Kf Y o h h') (p : P o) : Kg Y P h h' :=
  ⟨fun f a n => K.1 f a (fun e => n (by rw [e]; exact p)), K.2.1, K.2.2.1, K.2.2.2.1, fun A i n => K.2.2.2.2.1 A i (fun f hf ho => n f o p hf ho), K.2.2.2.2.2⟩
theorem Kg_tr {Y : Ly} {P : Nat → Prop} {h h1 h2 : Hp} (A : Kg Y P h h1) (B : Kg Y P h1 h2) : Kg Y P h h2 := by
  obtain ⟨a1, a2, a3, a4, a5, a6⟩ := A
  obtain ⟨b1, b2, b3, b4, b5, b6⟩ := B
  refine ⟨fun f a n => (b1 f a n).trans (a1 f a n), fun f a => (b2 f a).trans (a2 f a), fun f a => (b3 f a).trans (a3 f a), fun A i => (b4 A i).trans (a4 A i), fun A i n => ?_, fun t => b6 (a6 t)⟩
  have q := b5 A i (fun f o p hf ho => by rw [a3]; exact n f o p hf ho)
  exact ⟨q.1.trans (a5 A i n).1, q.2.trans (a5 A i n).2⟩
theorem Kg_ai {Y : Ly} {P : Nat → Prop} {x o f : Nat} {h h' : Hp} (K : Kg Y P h h') (S : CS Y h x) (np : ¬ P o) (hf : cArr f = true) (ho : isO Y (f / 100) o) : hAi h' (hGr h f o) = hAi h (hGr h f o) ∧ hAl h' (hGr h f o) = hAl h (hGr h f o) := by
  have q := fun i => K.2.2.2.2.1 (hGr h f o) i (fun f' o' p hf' ho2 w => np (by rw [(S.2.2.2.1 f f' o o' hf hf' ho ho2 w).2]; exact p))
  exact ⟨funext fun i => (q i).1, funext fun i => (q i).2⟩
theorem Kg_cs {Y : Ly} {P : Nat → Prop} {x : Nat} {h h' : Hp} (K : Kg Y P h h') (S : CS Y h x) : CS Y h' x := CS_congr S (fun f a _ => K.2.2.1 f a)
/-- pictures that agree -/
theorem RS_ag {h h' : Hp} {s d : Nat} {c : Nat → Int32} (V : VB c) (R : RS h s c)
    (g6 : ∀ f, 604 ≤ f → f ≤ 607 → hGi h' f (hGr h' 400 d) = hGi h f (hGr h 400 s)) (g4 : ∀ f, 415 ≤ f → f ≤ 418 → hGi h' f d = hGi h f s)
    (g3 : hGi h' 302 (hGr h' 401 d) = hGi h 302 (hGr h 401 s)) (g3' : hGi h' 302 (hGr h' 402 d) = hGi h 302 (hGr h 402 s))
    (a6 : ∀ f i, 600 ≤ f → f ≤ 603 → i < cLen f → hAi h' (hGr h' f (hGr h' 400 d)) i = hAi h (hGr h f (hGr h 400 s)) i)
    (a4 : ∀ f i, 406 ≤ f → f ≤ 412 → i < cLen f → hAi h' (hGr h' f d) i = hAi h (hGr h f s) i)
    (a3 : ∀ f i, 300 ≤ f → f ≤ 301 → i < cN c 6 → hAi h' (hGr h' f (hGr h' 401 d)) i = hAi h (hGr h f (hGr h 401 s)) i)
    (a3' : ∀ f i, 300 ≤ f → f ≤ 301 → i < cN c 7 → hAi h' (hGr h' f (hGr h' 402 d)) i = hAi h (hGr h f (hGr h 402 s)) i) : RS h' d c := by
  obtain ⟨RCs, ROs, RKs, RHs, RLs⟩ := R
  obtain ⟨VCc, _, _, _, VKc, VFc, _, _⟩ := V
  have n1 := VCc.2.1.2
  have n2 := VCc.2.2.1.2
  have n3 := VCc.2.2.2.1.2
  have n5 := VCc.2.2.2.2.2.1.2
  refine ⟨?_, ⟨fun t ht => ?_, fun i hi hn => ?_, fun f hf => ⟨?_, fun k hk => ?_⟩⟩, fun b hb => ⟨?_, ?_, ?_, ?_, ?_, fun p hp => ?_⟩, fun i hi => ⟨?_, ?_, ?_, ?_⟩, ⟨fun o ho => ⟨?_, ?_⟩, fun k hk => ⟨?_, ?_⟩⟩⟩
  · unfold RC
    rw [g6 604 (by omega) (by omega), g6 605 (by omega) (by omega), g6 606 (by omega) (by omega), g6 607 (by omega) (by omega), g4 415 (by omega) (by omega), g4 416 (by omega) (by omega), g4 417 (by omega) (by omega), g4 418 (by omega) (by omega), g3, g3']
    exact RCs
  · rw [a6 600 t (by omega) (by omega) (show t < 8 by omega)]; exact ROs.1 t ht
  · rw [a6 601 i (by omega) (by omega) (show i < 64 by omega)]; exact ROs.2.1 i hi hn
  · rw [a6 602 f (by omega) (by omega) (show f < 8 by omega)]; exact (ROs.2.2 f hf).1
  · have := (VFc f hf).1.1.2
    rw [a6 603 _ (by omega) (by omega) (show 6 * f + k < 48 by omega)]; exact (ROs.2.2 f hf).2 k hk
  · rw [a4 406 b (by omega) (by omega) (show b < 6 by omega)]; exact (RKs b hb).1
  · rw [a4 407 b (by omega) (by omega) (show b < 6 by omega)]; exact (RKs b hb).2.1
  · rw [a4 408 b (by omega) (by omega) (show b < 6 by omega)]; exact (RKs b hb).2.2.1
  · rw [a4 410 b (by omega) (by omega) (show b < 6 by omega)]; exact (RKs b hb).2.2.2.1
  · rw [a4 411 b (by omega) (by omega) (show b < 6 by omega)]; exact (RKs b hb).2.2.2.2.1
  · have := (VKc b hb).2.2.1.2
    rw [a4 409 _ (by omega) (by omega) (show 10 * b + p < 60 by omega)]; exact (RKs b hb).2.2.2.2.2 p hp
  · rw [a4 412 _ (by omega) (by omega) (show 4 * i < 48 by omega)]; exact (RHs i hi).1
  · rw [a4 412 _ (by omega) (by omega) (show 4 * i + 1 < 48 by omega)]; exact (RHs i hi).2.1
  · rw [a4 412 _ (by omega) (by omega) (show 4 * i + 2 < 48 by omega)]; exact (RHs i hi).2.2.1
  · rw [a4 412 _ (by omega) (by omega) (show 4 * i + 3 < 48 by omega)]; exact (RHs i hi).2.2.2
  · rw [a3 300 o (by omega) (by omega) ho]; exact (RLs.1 o ho).1
  · rw [a3 301 o (by omega) (by omega) ho]; exact (RLs.1 o ho).2
  · rw [a3' 300 k (by omega) (by omega) hk]; exact (RLs.2 k hk).1
  · rw [a3' 301 k (by omega) (by omega) hk]; exact (RLs.2 k hk).2
theorem nmT_le {c : Nat → Int32} (V : VC c) : nmT c ≤ 50 := by
  obtain ⟨h0, h1, h2, h3, h4, h5, h6, h7⟩ := V
  have e : nmT c = cN c 0 + cN c 1 + cN c 2 + cN c 3 + cN c 4 + cN c 6 + cN c 7 := by
    simp only [nmT, sm, manyI]
    simp
  have := h0.2
  have := h1.2
  have := h2.2
  have := h3.2
  have := h4.2
  have := h6.2
  have := h7.2
  omega
theorem RN_ag {h h' : Hp} {s d : Nat} {c : Nat → Int32} {w : Nat → Int64} (V : VC c) (R : RN h s c w) (e1 : hGi h' 414 d = hGi h 414 s)
    (e2 : ∀ i, i < 50 → hAl h' (hGr h' 403 d) i = hAl h (hGr h 403 s) i) (e3 : ∀ i, i < 50 → hAi h' (hGr h' 404 d) i = hAi h (hGr h 404 s) i) (e4 : ∀ i, i < 50 → hAi h' (hGr h' 405 d) i = hAi h (hGr h 405 s) i) : RN h' d c w := by
  have l := nmT_le V
  refine ⟨e1.trans R.1, fun i hi => ?_, fun so k h1 h2 => ?_⟩
  · rw [e2 i (by omega), e3 i (by omega), e4 i (by omega)]
    exact R.2.1 i hi
  · obtain ⟨i, q1, q2⟩ := R.2.2 so k h1 h2
    refine ⟨i, q1, ?_⟩
    rw [e2 i (by omega), e3 i (by omega), e4 i (by omega)]
    exact q2
/-- the objects of a shelf -/
def shP (h : Hp) (d : Nat) (a : Nat) : Prop := a = d ∨ a = hGr h 400 d ∨ a = hGr h 401 d ∨ a = hGr h 402 d ∨ a = hGr h 413 d
section SC
variable {Y : Ly} {x s d : Nat} {h : Hp} {c : Nat → Int32} {w : Nat → Int64}
theorem cpL {α : Type} {h1 : Hp} {f : Nat} {k : Int32} {K : Hp → Option α} (b : cpB 0 0 k (lnY Y (hGr h f s)) (lnY Y (hGr h f d)) = true) (e1 : hGr h1 f s = hGr h f s) (e2 : hGr h1 f d = hGr h f d) :
    (if cpB 0 0 k (lnY Y (hGr h1 f s)) (lnY Y (hGr h1 f d)) = true then letH (hCl h1 (hGr h1 f s) (Int32.toNatClampNeg 0) (hGr h1 f d) (Int32.toNatClampNeg 0) (Int32.toNatClampNeg k)) K else none) = K (hCl h1 (hGr h f s) 0 (hGr h f d) 0 (Int32.toNatClampNeg k)) := by
  rw [e1, e2, if_pos b, letH_e]
  rfl
theorem shP_src (S : CS Y h x) (T : Ty Y h) (hd : isO Y 4 d) (hs : isO Y 4 s) (ne : s ≠ d) (nw : hGr h 413 s ≠ hGr h 413 d) :
    ¬ shP h d s ∧ ¬ shP h d (hGr h 400 s) ∧ ¬ shP h d (hGr h 401 s) ∧ ¬ shP h d (hGr h 402 s) ∧ ¬ shP h d (hGr h 413 s) := by
  have s6 := T.1 400 6 rfl s hs
  have s1 := T.1 401 3 rfl s hs
  have s2 := T.1 402 3 rfl s hs
  have s9 := T.1 413 9 rfl s hs
  have d6 := T.1 400 6 rfl d hd
  have d1 := T.1 401 3 rfl d hd
  have d2 := T.1 402 3 rfl d hd
  have d9 := T.1 413 9 rfl d hd
  have q := S.2.2.2.2 s d hs hd
  have q' := S.2.2.2.2 d s hd hs
  refine ⟨?_, ?_, ?_, ?_, ?_⟩ <;> rintro (e | e | e | e | e)
  · exact ne e
  · exact isO_ne hs d6 (by decide) e
  · exact isO_ne hs d1 (by decide) e
  · exact isO_ne hs d2 (by decide) e
  · exact isO_ne hs d9 (by decide) e
  · exact isO_ne s6 hd (by decide) e
  · exact ne (q.1 e)
  · exact isO_ne s6 d1 (by decide) e
  · exact isO_ne s6 d2 (by decide) e
  · exact isO_ne s6 d9 (by decide) e
  · exact isO_ne s1 hd (by decide) e
  · exact isO_ne s1 d6 (by decide) e
  · exact ne (q.2.1 e)
  · exact q.2.2.2 e
  · exact isO_ne s1 d9 (by decide) e
  · exact isO_ne s2 hd (by decide) e
  · exact isO_ne s2 d6 (by decide) e
  · exact q'.2.2.2 e.symm
  · exact ne (q.2.2.1 e)
  · exact isO_ne s2 d9 (by decide) e
  · exact isO_ne s9 hd (by decide) e
  · exact isO_ne s9 d6 (by decide) e
  · exact isO_ne s9 d1 (by decide) e
  · exact isO_ne s9 d2 (by decide) e
  · exact nw e
/-- the shelf's own rows and fields -/
theorem Sh_own_s (S : CS Y h x) (hd : isO Y 4 d) (hs : isO Y 4 s) (ne : s ≠ d) :
    ∃ h', (if cpB 0 0 50 (lnY Y (hGr h 403 s)) (lnY Y (hGr h 403 d)) = true then
    letH (hCl h (hGr h 403 s) (Int32.toNatClampNeg 0) (hGr h 403 d) (Int32.toNatClampNeg 0) (Int32.toNatClampNeg 50)) fun h15 =>
    if cpB 0 0 50 (lnY Y (hGr h15 404 s)) (lnY Y (hGr h15 404 d)) = true then
      letH (hCi h15 (hGr h15 404 s) (Int32.toNatClampNeg 0) (hGr h15 404 d) (Int32.toNatClampNeg 0) (Int32.toNatClampNeg 50)) fun h18 =>
      if cpB 0 0 50 (lnY Y (hGr h18 405 s)) (lnY Y (hGr h18 405 d)) = true then
        letH (hCi h18 (hGr h18 405 s) (Int32.toNatClampNeg 0) (hGr h18 405 d) (Int32.toNatClampNeg 0) (Int32.toNatClampNeg 50)) fun h21 =>
        if cpB 0 0 6 (lnY Y (hGr h21 406 s)) (lnY Y (hGr h21 406 d)) = true then
          letH (hCi h21 (hGr h21 406 s) (Int32.toNatClampNeg 0) (hGr h21 406 d) (Int32.toNatClampNeg 0) (Int32.toNatClampNeg 6)) fun h24 =>
          if cpB 0 0 6 (lnY Y (hGr h24 407 s)) (lnY Y (hGr h24 407 d)) = true then
            letH (hCi h24 (hGr h24 407 s) (Int32.toNatClampNeg 0) (hGr h24 407 d) (Int32.toNatClampNeg 0) (Int32.toNatClampNeg 6)) fun h27 =>
            if cpB 0 0 6 (lnY Y (hGr h27 408 s)) (lnY Y (hGr h27 408 d)) = true then
              letH (hCi h27 (hGr h27 408 s) (Int32.toNatClampNeg 0) (hGr h27 408 d) (Int32.toNatClampNeg 0) (Int32.toNatClampNeg 6)) fun h30 =>
              if cpB 0 0 60 (lnY Y (hGr h30 409 s)) (lnY Y (hGr h30 409 d)) = true then
                letH (hCi h30 (hGr h30 409 s) (Int32.toNatClampNeg 0) (hGr h30 409 d) (Int32.toNatClampNeg 0) (Int32.toNatClampNeg 60)) fun h33 =>
                if cpB 0 0 6 (lnY Y (hGr h33 410 s)) (lnY Y (hGr h33 410 d)) = true then
                  letH (hCi h33 (hGr h33 410 s) (Int32.toNatClampNeg 0) (hGr h33 410 d) (Int32.toNatClampNeg 0) (Int32.toNatClampNeg 6)) fun h36 =>
                  if cpB 0 0 6 (lnY Y (hGr h36 411 s)) (lnY Y (hGr h36 411 d)) = true then
                    letH (hCi h36 (hGr h36 411 s) (Int32.toNatClampNeg 0) (hGr h36 411 d) (Int32.toNatClampNeg 0) (Int32.toNatClampNeg 6)) fun h39 =>
                    if cpB 0 0 48 (lnY Y (hGr h39 412 s)) (lnY Y (hGr h39 412 d)) = true then
                      letH (hCi h39 (hGr h39 412 s) (Int32.toNatClampNeg 0) (hGr h39 412 d) (Int32.toNatClampNeg 0) (Int32.toNatClampNeg 48)) fun h42 =>
                      letH (hSi h42 414 d (hGi h42 414 s)) fun h43 =>
                      letH (hSi h43 415 d (hGi h43 415 s)) fun h44 =>
                      letH (hSi h44 416 d (hGi h44 416 s)) fun h45 =>
                      letH (hSi h45 417 d (hGi h45 417 s)) fun h46 =>
                      letH (hSi h46 418 d (hGi h46 418 s)) fun h47 =>
                      some h47
                    else none
                  else none
                else none
              else none
            else none
          else none
        else none
      else none
    else none
  else none) = some h' ∧ Kf Y d h h' ∧ (∀ f, 414 ≤ f → f ≤ 418 → hGi h' f d = hGi h f s) ∧ (∀ i, i < 50 → hAl h' (hGr h 403 d) i = hAl h (hGr h 403 s) i) ∧
    (∀ i, i < 50 → hAi h' (hGr h 404 d) i = hAi h (hGr h 404 s) i) ∧ (∀ i, i < 50 → hAi h' (hGr h 405 d) i = hAi h (hGr h 405 s) i) ∧ ∀ f i, 406 ≤ f → f ≤ 412 → i < cLen f → hAi h' (hGr h f d) i = hAi h (hGr h f s) i := by
  have b : ∀ f k, cLen f = k → f / 100 = 4 → 0 < k → k < 100 → cpB 0 0 (nI k) (lnY Y (hGr h f s)) (lnY Y (hGr h f d)) = true := by
    intro f k h1 h2 h3 h4
    rw [S.2.1 f (by omega) s (by rw [h2]; exact hs), S.2.1 f (by omega) d (by rw [h2]; exact hd), h1]
    simp only [cpB]
    rw [show (0 : Int32) = nI 0 from rfl, nI_clamp (by omega), nI_clamp (by omega)]
    simp (disch := omega) [nI_leI]
  rw [cpL (k := 50) (b 403 50 rfl rfl (by decide) (by decide)) (by rfl) (by rfl), cpS (k := 50) (b 404 50 rfl rfl (by decide) (by decide)) (by rfl) (by rfl), cpS (k := 50) (b 405 50 rfl rfl (by decide) (by decide)) (by rfl) (by rfl), cpS (k := 6) (b 406 6 rfl rfl (by decide) (by decide)) (by rfl) (by rfl), cpS (k := 6) (b 407 6 rfl rfl (by decide) (by decide)) (by rfl) (by rfl), cpS (k := 6) (b 408 6 rfl rfl (by decide) (by decide)) (by rfl) (by rfl), cpS (k := 60) (b 409 60 rfl rfl (by decide) (by decide)) (by rfl) (by rfl), cpS (k := 6) (b 410 6 rfl rfl (by decide) (by decide)) (by rfl) (by rfl), cpS (k := 6) (b 411 6 rfl rfl (by decide) (by decide)) (by rfl) (by rfl), cpS (k := 48) (b 412 48 rfl rfl (by decide) (by decide)) (by rfl) (by rfl)]
  rw [show Int32.toNatClampNeg 50 = 50 from rfl, show Int32.toNatClampNeg 6 = 6 from rfl, show Int32.toNatClampNeg 60 = 60 from rfl, show Int32.toNatClampNeg 48 = 48 from rfl]
  have k1 : Kf Y d h (hCl h (hGr h 403 s) 0 (hGr h 403 d) 0 50) := Kf_cl rfl hd
  have a1 : ∀ i, i < 50 → hAl (hCl h (hGr h 403 s) 0 (hGr h 403 d) 0 50) (hGr h 403 d) i = hAl h (hGr h 403 s) i := by
    intro i hi
    rw [al_cl, if_pos rfl, va_cpy, if_pos ⟨Nat.zero_le _, by omega⟩, Nat.sub_zero, Nat.zero_add]
  generalize hCl h (hGr h 403 s) 0 (hGr h 403 d) 0 50 = h1 at *
  have C0 : Cp Y s d h h1 (fun _ _ => False) := ⟨k1, fun _ _ z => absurd z (fun z => z)⟩
  have C1 := Cp_step (n := 50) (f := 404) S C0 hd hs ne rfl rfl (fun _ _ z => absurd z (fun z => z))
  have C2 := Cp_step (n := 50) (f := 405) S C1 hd hs ne rfl rfl (fun g m z => by
    rcases z with ⟨rfl, _⟩ | z
    · exact ⟨by decide, rfl, rfl⟩
    · exact absurd z (fun z => z))
  have C3 := Cp_step (n := 6) (f := 406) S C2 hd hs ne rfl rfl (fun g m z => by
    rcases z with ⟨rfl, _⟩ | ⟨rfl, _⟩ | z
    · exact ⟨by decide, rfl, rfl⟩
    · exact ⟨by decide, rfl, rfl⟩
    · exact absurd z (fun z => z))
  have C4 := Cp_step (n := 6) (f := 407) S C3 hd hs ne rfl rfl (fun g m z => by
    rcases z with ⟨rfl, _⟩ | ⟨rfl, _⟩ | ⟨rfl, _⟩ | z
    · exact ⟨by decide, rfl, rfl⟩
    · exact ⟨by decide, rfl, rfl⟩
    · exact ⟨by decide, rfl, rfl⟩
    · exact absurd z (fun z => z))
  have C5 := Cp_step (n := 6) (f := 408) S C4 hd hs ne rfl rfl (fun g m z => by
    rcases z with ⟨rfl, _⟩ | ⟨rfl, _⟩ | ⟨rfl, _⟩ | ⟨rfl, _⟩ | z
    · exact ⟨by decide, rfl, rfl⟩
    · exact ⟨by decide, rfl, rfl⟩
    · exact ⟨by decide, rfl, rfl⟩
    · exact ⟨by decide, rfl, rfl⟩
    · exact absurd z (fun z => z))
  have C6 := Cp_step (n := 60) (f := 409) S C5 hd hs ne rfl rfl (fun g m z => by
    rcases z with ⟨rfl, _⟩ | ⟨rfl, _⟩ | ⟨rfl, _⟩ | ⟨rfl, _⟩ | ⟨rfl, _⟩ | z
    · exact ⟨by decide, rfl, rfl⟩
    · exact ⟨by decide, rfl, rfl⟩
    · exact ⟨by decide, rfl, rfl⟩
    · exact ⟨by decide, rfl, rfl⟩
    · exact ⟨by decide, rfl, rfl⟩
    · exact absurd z (fun z => z))
  have C7 := Cp_step (n := 6) (f := 410) S C6 hd hs ne rfl rfl (fun g m z => by
    rcases z with ⟨rfl, _⟩ | ⟨rfl, _⟩ | ⟨rfl, _⟩ | ⟨rfl, _⟩ | ⟨rfl, _⟩ | ⟨rfl, _⟩ | z
    · exact ⟨by decide, rfl, rfl⟩
    · exact ⟨by decide, rfl, rfl⟩
    · exact ⟨by decide, rfl, rfl⟩
    · exact ⟨by decide, rfl, rfl⟩
    · exact ⟨by decide, rfl, rfl⟩
    · exact ⟨by decide, rfl, rfl⟩
    · exact absurd z (fun z => z))
  have C8 := Cp_step (n := 6) (f := 411) S C7 hd hs ne rfl rfl (fun g m z => by
    rcases z with ⟨rfl, _⟩ | ⟨rfl, _⟩ | ⟨rfl, _⟩ | ⟨rfl, _⟩ | ⟨rfl, _⟩ | ⟨rfl, _⟩ | ⟨rfl, _⟩ | z
    · exact ⟨by decide, rfl, rfl⟩
    · exact ⟨by decide, rfl, rfl⟩
    · exact ⟨by decide, rfl, rfl⟩
    · exact ⟨by decide, rfl, rfl⟩
    · exact ⟨by decide, rfl, rfl⟩
    · exact ⟨by decide, rfl, rfl⟩
    · exact ⟨by decide, rfl, rfl⟩
    · exact absurd z (fun z => z))
  have C9 := Cp_step (n := 48) (f := 412) S C8 hd hs ne rfl rfl (fun g m z => by
    rcases z with ⟨rfl, _⟩ | ⟨rfl, _⟩ | ⟨rfl, _⟩ | ⟨rfl, _⟩ | ⟨rfl, _⟩ | ⟨rfl, _⟩ | ⟨rfl, _⟩ | ⟨rfl, _⟩ | z
    · exact ⟨by decide, rfl, rfl⟩
    · exact ⟨by decide, rfl, rfl⟩
    · exact ⟨by decide, rfl, rfl⟩
    · exact ⟨by decide, rfl, rfl⟩
    · exact ⟨by decide, rfl, rfl⟩
    · exact ⟨by decide, rfl, rfl⟩
    · exact ⟨by decide, rfl, rfl⟩
    · exact ⟨by decide, rfl, rfl⟩
    · exact absurd z (fun z => z))
  have al9 : ∀ i, hAl (hCi (hCi (hCi (hCi (hCi (hCi (hCi (hCi (hCi h1 (hGr h 404 s) 0 (hGr h 404 d) 0 50) (hGr h 405 s) 0 (hGr h 405 d) 0 50) (hGr h 406 s) 0 (hGr h 406 d) 0 6) (hGr h 407 s) 0 (hGr h 407 d) 0 6) (hGr h 408 s) 0 (hGr h 408 d) 0 6) (hGr h 409 s) 0 (hGr h 409 d) 0 60) (hGr h 410 s) 0 (hGr h 410 d) 0 6) (hGr h 411 s) 0 (hGr h 411 d) 0 6) (hGr h 412 s) 0 (hGr h 412 d) 0 48) (hGr h 403 d) i = hAl h1 (hGr h 403 d) i := fun _ => rfl
  generalize hCi (hCi (hCi (hCi (hCi (hCi (hCi (hCi (hCi h1 (hGr h 404 s) 0 (hGr h 404 d) 0 50) (hGr h 405 s) 0 (hGr h 405 d) 0 50) (hGr h 406 s) 0 (hGr h 406 d) 0 6) (hGr h 407 s) 0 (hGr h 407 d) 0 6) (hGr h 408 s) 0 (hGr h 408 d) 0 6) (hGr h 409 s) 0 (hGr h 409 d) 0 60) (hGr h 410 s) 0 (hGr h 410 d) 0 6) (hGr h 411 s) 0 (hGr h 411 d) 0 6) (hGr h 412 s) 0 (hGr h 412 d) 0 48 = h9 at *
  have src : ∀ f, hGi h9 f s = hGi h f s := fun f => C9.1.1 f s ne
  rw [letH_e, letH_e, letH_e, letH_e, letH_e]
  rw [gi_si h9, if_neg (fun z => ne z.2)]
  rw [show hGi (hSi (hSi h9 414 d (hGi h9 414 s)) 415 d (hGi h9 415 s)) 416 s = hGi h9 416 s by rw [gi_si, if_neg (fun z => ne z.2), gi_si, if_neg (fun z => ne z.2)]]
  rw [show hGi (hSi (hSi (hSi h9 414 d (hGi h9 414 s)) 415 d (hGi h9 415 s)) 416 d (hGi h9 416 s)) 417 s = hGi h9 417 s by rw [gi_si, if_neg (fun z => ne z.2), gi_si, if_neg (fun z => ne z.2), gi_si, if_neg (fun z => ne z.2)]]
  rw [show hGi (hSi (hSi (hSi (hSi h9 414 d (hGi h9 414 s)) 415 d (hGi h9 415 s)) 416 d (hGi h9 416 s)) 417 d (hGi h9 417 s)) 418 s = hGi h9 418 s by rw [gi_si, if_neg (fun z => ne z.2), gi_si, if_neg (fun z => ne z.2), gi_si, if_neg (fun z => ne z.2), gi_si, if_neg (fun z => ne z.2)]]
  rw [src, src, src, src, src]
  refine ⟨_, rfl, Kf_tr C9.1 (Kf_tr (Kf_tr (Kf_tr (Kf_tr (Kf_si (Or.inl rfl)) (Kf_si (Or.inl rfl))) (Kf_si (Or.inl rfl))) (Kf_si (Or.inl rfl))) (Kf_si (Or.inl rfl))), fun f h1 h2 => ?_, fun i hi => (al9 i).trans (a1 i hi), fun i hi => C9.2 404 50 (by simp) i hi, fun i hi => C9.2 405 50 (by simp) i hi, fun f i h1 h2 hi => C9.2 f (cLen f) ?_ i hi⟩
  · rcases (show f = 414 ∨ f = 415 ∨ f = 416 ∨ f = 417 ∨ f = 418 by omega) with e | e | e | e | e <;> subst e
    · rw [gi_si, if_neg (by omega), gi_si, if_neg (by omega), gi_si, if_neg (by omega), gi_si, if_neg (by omega), gi_si, if_pos ⟨rfl, rfl⟩]
    · rw [gi_si, if_neg (by omega), gi_si, if_neg (by omega), gi_si, if_neg (by omega), gi_si, if_pos ⟨rfl, rfl⟩]
    · rw [gi_si, if_neg (by omega), gi_si, if_neg (by omega), gi_si, if_pos ⟨rfl, rfl⟩]
    · rw [gi_si, if_neg (by omega), gi_si, if_pos ⟨rfl, rfl⟩]
    · rw [gi_si, if_pos ⟨rfl, rfl⟩]
  · rcases (show f = 406 ∨ f = 407 ∨ f = 408 ∨ f = 409 ∨ f = 410 ∨ f = 411 ∨ f = 412 by omega) with e | e | e | e | e | e | e <;> (subst e; simp [cLen])
end SC
