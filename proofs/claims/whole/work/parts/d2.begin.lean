/-! ===== an empty shelf, a text begun ===== -/
def c00 (i : Nat) : Int32 := if (18 ≤ i ∧ i < 82) ∨ (100 ≤ i ∧ i < 106) then m1 else 0
theorem c00_1 {i : Nat} (h : (18 ≤ i ∧ i < 82) ∨ (100 ≤ i ∧ i < 106)) : c00 i = m1 := if_pos h
theorem c00_0 {i : Nat} (h : ¬ ((18 ≤ i ∧ i < 82) ∨ (100 ≤ i ∧ i < 106))) : c00 i = nI 0 := if_neg h
theorem c00_n {i : Nat} (h : i < 10) : cN c00 i = 0 := by unfold cN; rw [c00_0 (by omega)]; rfl
theorem c00_t : nmT c00 = 0 := by rw [nmT_e, c00_n (by decide), c00_n (by decide), c00_n (by decide), c00_n (by decide), c00_n (by decide), c00_n (by decide), c00_n (by decide)]
theorem c00_z {i n : Nat} (h : ¬ ((18 ≤ i ∧ i < 82) ∨ (100 ≤ i ∧ i < 106))) (hn : 0 < n) : nB c00 i n := by
  have e : cN c00 i = 0 := by unfold cN; rw [c00_0 h]; rfl
  exact ⟨by rw [e]; exact c00_0 h, by omega⟩
theorem GB_00 (w : Nat → Int64) : GB c00 w := by
  have z : ∀ {i k : Nat}, i < 10 → k < cN c00 i → False := fun h1 h2 => by rw [c00_n h1] at h2; omega
  refine ⟨⟨⟨c00_z (by omega) (by decide), c00_z (by omega) (by decide), c00_z (by omega) (by decide), c00_z (by omega) (by decide), c00_z (by omega) (by decide), c00_z (by omega) (by decide), c00_z (by omega) (by decide), c00_z (by omega) (by decide)⟩, ⟨c00_z (by omega) (Nat.two_pow_pos _), c00_z (by omega) (Nat.two_pow_pos _)⟩, fun t ht => (z (by decide) ht).elim, fun s t hs ht => Or.inl (c00_1 (by omega)), fun b hb => (z (by decide) hb).elim, fun f hf => (z (by decide) hf).elim, fun i hi => (z (by decide) hi).elim, fun o ho => (z (by decide) ho).elim, fun o ho => (z (by decide) ho).elim, fun b hb => (z (by decide) hb).elim⟩, fun so k so' k' h1 h2 => (z (show manyI so < 10 by have := many_lt h1; omega) h2).elim, c00_0 (by omega), fun b _ hb => ⟨c00_1 (by omega), c00_0 (by omega)⟩⟩
theorem gz_ {h : Hp} {f a f' a' : Nat} (z : hGi h f a = 0) : hGi (hSi h f' a' 0) f a = 0 := by
  rw [gi_si]
  split
  · rfl
  · exact z
theorem gs_ {h : Hp} {f a : Nat} : hGi (hSi h f a 0) f a = 0 := by rw [gi_si, if_pos ⟨rfl, rfl⟩]
theorem gw_ {h : Hp} {f a A : Nat} {g : Nat → Int32} (z : hGi h f a = 0) : hGi (hWi h A g) f a = 0 := z
theorem Kf_wi {Y : Ly} {o : Nat} {h : Hp} {f : Nat} {g : Nat → Int32} (hf : cArr f = true) (ho : isO Y (f / 100) o) : Kf Y o h (hWi h (hGr h f o) g) :=
  ⟨fun _ _ _ => rfl, fun _ _ => rfl, fun _ _ => rfl, fun _ _ => rfl, fun A k n => ⟨by rw [ai_wi, if_neg (fun z => n f hf ho z)], rfl⟩, fun t => t⟩
def em4 (h : Hp) (o : Nat) : Hp := hSi (hSi (hSi (hSi h 604 o 0) 605 o 0) 606 o 0) 607 o 0
def emH (h : Hp) (o a b q s : Nat) (g : Nat → Int32) : Hp := hSi (hSi (hSi (hSi (hSi (hSi (hSi (hSi (hSi (hSi (hWi (em4 h o) (hGr h 601 o) g) 302 a 0) 302 b 0) 905 q 0) 906 q 0) 907 q 0) 414 s 0) 415 s 0) 416 s 0) 417 s 0) 418 s 0
section EMP
variable {Y : Ly} {x t s m n : Nat} {T : Nat → Int32} {P : Nat → Prop} {h h' h0 : Hp}
theorem em_1 (S : CS Y h x) (Tt : Ty Y h) (os : isO Y 4 s) : ∃ g, Sh_empty Y s h = some (emH h (hGr h 400 s) (hGr h 401 s) (hGr h 402 s) (hGr h 413 s) s g) ∧ ∀ i, i < 64 → g i = m1 := by
  have o6 := Tt.1 400 6 rfl s os
  have l : lnY Y (hGr h 601 (hGr h 400 s)) = 64 := cl601 S o6
  obtain ⟨g, e1, e2⟩ := J_fillI_s (Y := Y) (h := em4 h (hGr h 400 s)) (A := hGr h 601 (hGr h 400 s)) (v := -1) (by rw [l]; decide)
  refine ⟨g, ?_, fun i hi => e2 i (by rw [l]; exact hi)⟩
  have e3 : St_empty Y (hGr h 400 s) h = some (hWi (em4 h (hGr h 400 s)) (hGr h 601 (hGr h 400 s)) g) := by
    unfold St_empty
    rw [letH_e, letH_e, letH_e, letH_e, show J_fillI Y (hGr (hSi (hSi (hSi (hSi h 604 (hGr h 400 s) 0) 605 (hGr h 400 s) 0) 606 (hGr h 400 s) 0) 607 (hGr h 400 s) 0) 601 (hGr h 400 s)) (-1) (hSi (hSi (hSi (hSi h 604 (hGr h 400 s) 0) 605 (hGr h 400 s) 0) 606 (hGr h 400 s) 0) 607 (hGr h 400 s) 0) = some (hWi (em4 h (hGr h 400 s)) (hGr h 601 (hGr h 400 s)) g) from e1, bind_s]
  unfold Sh_empty
  rw [e3, bind_s]
  rfl
theorem em_0 {o a b q : Nat} {g : Nat → Int32} : hGi (emH h o a b q s g) 604 o = 0 ∧ hGi (emH h o a b q s g) 605 o = 0 ∧ hGi (emH h o a b q s g) 606 o = 0 ∧ hGi (emH h o a b q s g) 607 o = 0 ∧ hGi (emH h o a b q s g) 302 a = 0 ∧ hGi (emH h o a b q s g) 302 b = 0 ∧ hGi (emH h o a b q s g) 905 q = 0 ∧
    hGi (emH h o a b q s g) 414 s = 0 ∧ hGi (emH h o a b q s g) 415 s = 0 ∧ hGi (emH h o a b q s g) 416 s = 0 ∧ hGi (emH h o a b q s g) 417 s = 0 ∧ hGi (emH h o a b q s g) 418 s = 0 := by
  unfold emH em4
  refine ⟨?_, ?_, ?_, ?_, ?_, ?_, ?_, ?_, ?_, ?_, ?_, ?_⟩ <;> repeat (first | (with_reducible exact gs_) | (with_reducible refine gz_ ?_) | (with_reducible refine gw_ ?_))
theorem em_K {g : Nat → Int32} (Tt : Ty Y h) (os : isO Y 4 s) : Kg Y (shP h s) h (emH h (hGr h 400 s) (hGr h 401 s) (hGr h 402 s) (hGr h 413 s) s g) := by
  have o6 := Tt.1 400 6 rfl s os
  have si : ∀ {h1 : Hp} {f a : Nat}, shP h s a → Kg Y (shP h s) h h1 → Kg Y (shP h s) h (hSi h1 f a 0) := fun p K => Kg_tr K (Kg_of (Kf_si (Or.inr (Or.inl rfl))) p)
  have p0 : shP h s s := Or.inl rfl
  have p6 : shP h s (hGr h 400 s) := Or.inr (Or.inl rfl)
  have p1 : shP h s (hGr h 401 s) := Or.inr (Or.inr (Or.inl rfl))
  have p2 : shP h s (hGr h 402 s) := Or.inr (Or.inr (Or.inr (Or.inl rfl)))
  have p9 : shP h s (hGr h 413 s) := Or.inr (Or.inr (Or.inr (Or.inr rfl)))
  have K0 : Kg Y (shP h s) h (em4 h (hGr h 400 s)) := si p6 (si p6 (si p6 (Kg_of (Kf_si (Or.inr (Or.inl rfl))) p6)))
  have K1 : Kg Y (shP h s) h (hWi (em4 h (hGr h 400 s)) (hGr h 601 (hGr h 400 s)) g) := Kg_tr K0 (Kg_of (Kf_wi (h := em4 h (hGr h 400 s)) (f := 601) rfl o6) p6)
  exact si p0 (si p0 (si p0 (si p0 (si p0 (si p9 (si p9 (si p9 (si p2 (si p1 K1)))))))))
theorem em_RS {g : Nat → Int32} (hg : ∀ i, i < 64 → g i = m1) : RF (emH h (hGr h 400 s) (hGr h 401 s) (hGr h 402 s) (hGr h 413 s) s g) s c00 := by
  have z : ∀ {i k : Nat}, i < 10 → k < cN c00 i → False := fun h1 h2 => by rw [c00_n h1] at h2; omega
  obtain ⟨q1, q2, q3, q4, q5, q6, q7, q8, q9, q10, q11, q12⟩ := em_0 (h := h) (s := s) (o := hGr h 400 s) (a := hGr h 401 s) (b := hGr h 402 s) (q := hGr h 413 s) (g := g)
  refine ⟨⟨q1, q2, q9, q4, q10, q12, q5, q6, q3, q11⟩, ⟨fun t ht => (z (by decide) ht).elim, fun i hi => ?_, fun f hf => (z (by decide) hf).elim⟩, fun b hb => (z (by decide) hb).elim, fun i hi => (z (by decide) hi).elim, fun o ho => (z (by decide) ho).elim, fun o ho => (z (by decide) ho).elim⟩
  rw [c00_1 (by omega)]
  show hAi (hWi (em4 h (hGr h 400 s)) (hGr h 601 (hGr h 400 s)) g) (hGr h 601 (hGr h 400 s)) i = m1
  rw [ai_wi, if_pos rfl]
  exact hg i hi
theorem em_RN {g : Nat → Int32} {w : Nat → Int64} : RN (emH h (hGr h 400 s) (hGr h 401 s) (hGr h 402 s) (hGr h 413 s) s g) s c00 w := by
  have z : ∀ {i k : Nat}, i < 10 → k < cN c00 i → False := fun h1 h2 => by rw [c00_n h1] at h2; omega
  obtain ⟨q1, q2, q3, q4, q5, q6, q7, q8, q9, q10, q11, q12⟩ := em_0 (h := h) (s := s) (o := hGr h 400 s) (a := hGr h 401 s) (b := hGr h 402 s) (q := hGr h 413 s) (g := g)
  refine ⟨by rw [c00_t]; exact q8, fun i hi => by rw [c00_t] at hi; omega, fun so k h1 h2 => (z (show manyI so < 10 by have := many_lt h1; omega) h2).elim⟩
/-- as Kp, but all fields of t may change -/
def Kw (Y : Ly) (P : Nat → Prop) (t : Nat) (h0 h : Hp) : Prop := (∀ f a, ¬ P a → a ≠ t → hGi h f a = hGi h0 f a) ∧ (∀ f a, a ≠ t → hGl h f a = hGl h0 f a) ∧ (∀ f a, hGr h f a = hGr h0 f a) ∧ (∀ A i, hAr h A i = hAr h0 A i) ∧
  (∀ A i, (∀ f o, P o → cArr f = true → isO Y (f / 100) o → A ≠ hGr h0 f o) → hAi h A i = hAi h0 A i ∧ hAl h A i = hAl h0 A i) ∧ (Ty Y h0 → Ty Y h)
theorem Kw_p (K : Kp Y P t h h') : Kw Y P t h h' := ⟨fun f a n n' => K.1 f a n (fun z => n' z.1), K.2⟩
theorem Kw_tr {h1 h2 : Hp} (A : Kw Y P t h h1) (B : Kw Y P t h1 h2) : Kw Y P t h h2 := by
  obtain ⟨a1, a2, a3, a4, a5, a6⟩ := A
  obtain ⟨b1, b2, b3, b4, b5, b6⟩ := B
  refine ⟨fun f a n n' => (b1 f a n n').trans (a1 f a n n'), fun f a n => (b2 f a n).trans (a2 f a n), fun f a => (b3 f a).trans (a3 f a), fun A i => (b4 A i).trans (a4 A i), fun A i n => ?_, fun z => b6 (a6 z)⟩
  have q := b5 A i (fun f o p hf ho => by rw [a3]; exact n f o p hf ho)
  exact ⟨q.1.trans (a5 A i n).1, q.2.trans (a5 A i n).2⟩
theorem Kw_g (K : Kg Y P h h') : Kw Y P t h h' := ⟨fun f a n _ => K.1 f a n, fun f a _ => K.2.1 f a, K.2.2.1, K.2.2.2.1, K.2.2.2.2.1, K.2.2.2.2.2⟩
theorem Kw_mo {Q : Nat → Prop} (K : Kw Y P t h h') (pq : ∀ a, P a → Q a) : Kw Y Q t h h' := ⟨fun f a n n' => K.1 f a (fun z => n (pq a z)) n', K.2.1, K.2.2.1, K.2.2.2.1, fun A i n => K.2.2.2.2.1 A i (fun f o p => n f o (pq o p)), K.2.2.2.2.2⟩
theorem Kw_si {f : Nat} {v : Int32} (hz : zk f = false) : Kw Y P t h (hSi h f t v) := ⟨fun g a _ n => by rw [gi_si, if_neg (fun z => n z.2)], fun _ _ _ => rfl, fun _ _ => rfl, fun _ _ => rfl, fun _ _ _ => ⟨rfl, rfl⟩, fun z => Ty_si z (Or.inl hz)⟩
theorem Kp_si {f : Nat} {v : Int32} (hz : zk f = false) (hf : 703 ≤ f) : Kp Y P t h (hSi h f t v) := ⟨fun g a _ n => by rw [gi_si, if_neg (fun z => n ⟨z.2, by omega⟩)], fun _ _ _ => rfl, fun _ _ => rfl, fun _ _ => rfl, fun _ _ _ => ⟨rfl, rfl⟩, fun z => Ty_si z (Or.inl hz)⟩
def bgH (h : Hp) (t n : Nat) : Hp := hSi (hSi (hSi (hSi (hSi h 702 t 0) 703 t (nI n)) 704 t 0) 711 t 0) 712 t (-1)
theorem begin_s (S : CS Y h x) (ot : isO Y 7 t) (hn : n ≤ 900) (tx : ∀ i, i < n → hAi h (hGr h 700 t) i = T i ∧ byO (T i)) (kw : ∀ i, i < 31 → hAl h (hGr h 701 t) i = lN (KW i)) :
    ∃ h', To_begin Y t (nI n) h = some h' ∧ TC Y h' t n T 0 ∧ (∀ P, Kp Y P t (hSi h 702 t 0) h') ∧ h'.2.2 = h.2.2 ∧ (∀ f a, ¬ (a = t ∧ 702 ≤ f ∧ f ≤ 712) → hGi h' f a = hGi h f a) ∧ hGi h' 702 t = nI 0 := by
  have e4 : hGi (bgH h t n) 704 t = nI 0 := by unfold bgH; rw [gi_si, if_neg (by omega), gi_si, if_neg (by omega), gi_si, if_pos ⟨rfl, rfl⟩]; rfl
  have e3 : hGi (bgH h t n) 703 t = nI n := by unfold bgH; rw [gi_si, if_neg (by omega), gi_si, if_neg (by omega), gi_si, if_neg (by omega), gi_si, if_pos ⟨rfl, rfl⟩]
  have e2 : hGi (bgH h t n) 702 t = nI 0 := by unfold bgH; rw [gi_si, if_neg (by omega), gi_si, if_neg (by omega), gi_si, if_neg (by omega), gi_si, if_neg (by omega), gi_si, if_pos ⟨rfl, rfl⟩]; rfl
  have X : TX Y (bgH h t n) t n T := ⟨cl700 S ot, cl701 S ot, hn, e3, tx, kw⟩
  obtain ⟨q, e1, a4, a5, a6, a8, a7⟩ := To_advance_s X (Nat.zero_le n) e4
  have en : (if (900 : Int32) < nI n then (900 : Int32) else nI n) = nI n := if_neg (fun z => by have := (nI_ltI (a := 900) (b := n) (by omega) (by omega)).mp z; omega)
  have kB : ∀ P, Kp Y P t (hSi h 702 t 0) (bgH h t n) := fun P => Kp_tr (Kp_tr (Kp_tr (Kp_si rfl (by decide)) (Kp_si rfl (by decide))) (Kp_si rfl (by decide))) (Kp_si rfl (by decide))
  refine ⟨tkH (bgH h t n) t q (lN (tW T n 0)), ?_, ⟨TX_k Tk_tk X, Nat.zero_le _, ?_, ?_, ?_, ?_, tk_gl, fun w => ?_⟩, fun P => Kp_tr (kB P) (Kp_k Tk_tk), rfl, fun f a na => ?_, ?_⟩
  · unfold To_begin
    rw [letH_e, letH_e, letH_e, letH_e, letH_e, en]
    show (To_advance Y t (bgH h t n)).bind (fun q6 => some q6) = _
    rw [e1, bind_s]
  · rw [tk_gi (by decide) (by decide)]; exact a4
  · rw [tk_gi (by decide) (by decide)]; exact a5
  · rw [tk_gi (by decide) (by decide)]; exact a6
  · rw [tk_gi (by decide) (by decide)]; exact a8
  · rw [tk_gi (by decide) (by decide)]; exact a7 w
  · rw [tk_go (fun z => na ⟨z.1, by omega, by omega⟩)]
    unfold bgH
    rw [gi_si, if_neg (fun z => na ⟨z.2, by omega, by omega⟩), gi_si, if_neg (fun z => na ⟨z.2, by omega, by omega⟩), gi_si, if_neg (fun z => na ⟨z.2, by omega, by omega⟩), gi_si, if_neg (fun z => na ⟨z.2, by omega, by omega⟩), gi_si, if_neg (fun z => na ⟨z.2, by omega, by omega⟩)]
  · rw [tk_go (by omega)]; exact e2
/-- the reference empties a block -/
theorem M_empties_s (S : MS Y h m) {b : Nat} (hb : b < 5) : ∃ G, M_empties Y m (nI b) h = some (hWi h (hGr h 1220 m) G) ∧ ∀ k, G k = if 576 * b ≤ k ∧ k < 576 * b + 576 then c00 (k - 576 * b) else hAi h (hGr h 1220 m) k := by
  have l60 : ∀ gg : Nat → Int32, ∃ G, M_empties_L60 Y m (nI b) FU 0 (hWi h (hGr h 1220 m) gg) = some (hWi h (hGr h 1220 m) G) ∧ ∀ k, G k = if 576 * b + 100 ≤ k ∧ k < 576 * b + 106 then m1 else gg k := by
    intro g0
    refine upl (Q := fun r => ∃ G, r = some (hWi h (hGr h 1220 m) G) ∧ ∀ k, G k = if 576 * b + 100 ≤ k ∧ k < 576 * b + 106 then m1 else g0 k)
      (fun F i gg => M_empties_L60 Y m (nI b) F (nI i) (hWi h (hGr h 1220 m) gg)) 6
      (fun i gg => ∀ k, gg k = if 576 * b + 100 ≤ k ∧ k < 576 * b + 100 + i then m1 else g0 k) ?_ ?_ 6 0 g0 FU (by omega) (by unfold FU; omega) (fun k => by rw [if_neg (by omega)])
    · intro F i gg hi hI
      right
      show ∃ s', M_empties_L60 Y m (nI b) (F + 1) (nI i) _ = M_empties_L60 Y m (nI b) F (nI (i + 1)) (hWi _ _ s') ∧ _
      rw [M_empties_L60, if_neg (show ¬ (6 : Int32) ≤ nI i from nI_ge (b := 6) hi (by omega)), show (576 : Int32) * nI b + 100 + nI i = nI (576 * b + 100 + i) by simp only [zlit, pk_mul, nI_add], gr_wi, ml1220 S, if_pos (inB_nI (by omega) (by omega)), letH_e, nI_clamp (by omega), ti_wi, nI_1]
      refine ⟨_, rfl, fun k => ?_⟩
      by_cases e : k = 576 * b + 100 + i
      · rw [e, pk_us, if_pos (by omega)]; rfl
      · rw [pk_un e, hI k]
        by_cases z : 576 * b + 100 ≤ k ∧ k < 576 * b + 100 + i
        · rw [if_pos z, if_pos (by omega)]
        · rw [if_neg z, if_neg (by omega)]
    · intro F gg hI
      show ∃ G, M_empties_L60 Y m (nI b) (F + 1) (nI 6) _ = _ ∧ _
      rw [M_empties_L60, if_pos (show (6 : Int32) ≤ nI 6 by decide)]
      exact ⟨gg, rfl, hI⟩
  have l30 : ∀ gg : Nat → Int32, ∃ G, M_empties_L30 Y m (nI b) FU 0 (hWi h (hGr h 1220 m) gg) = some (hWi h (hGr h 1220 m) G) ∧ ∀ k, G k = if 576 * b + 100 ≤ k ∧ k < 576 * b + 106 then m1 else if 576 * b + 18 ≤ k ∧ k < 576 * b + 82 then m1 else gg k := by
    intro g0
    refine upl (Q := fun r => ∃ G, r = some (hWi h (hGr h 1220 m) G) ∧ ∀ k, G k = if 576 * b + 100 ≤ k ∧ k < 576 * b + 106 then m1 else if 576 * b + 18 ≤ k ∧ k < 576 * b + 82 then m1 else g0 k)
      (fun F i gg => M_empties_L30 Y m (nI b) F (nI i) (hWi h (hGr h 1220 m) gg)) 64
      (fun i gg => ∀ k, gg k = if 576 * b + 18 ≤ k ∧ k < 576 * b + 18 + i then m1 else g0 k) ?_ ?_ 64 0 g0 FU (by omega) (by unfold FU; omega) (fun k => by rw [if_neg (by omega)])
    · intro F i gg hi hI
      right
      show ∃ s', M_empties_L30 Y m (nI b) (F + 1) (nI i) _ = M_empties_L30 Y m (nI b) F (nI (i + 1)) (hWi _ _ s') ∧ _
      rw [M_empties_L30, if_neg (show ¬ (64 : Int32) ≤ nI i from nI_ge (b := 64) hi (by omega)), show (576 : Int32) * nI b + 18 + nI i = nI (576 * b + 18 + i) by simp only [zlit, pk_mul, nI_add], gr_wi, ml1220 S, if_pos (inB_nI (by omega) (by omega)), letH_e, nI_clamp (by omega), ti_wi, nI_1]
      refine ⟨_, rfl, fun k => ?_⟩
      by_cases e : k = 576 * b + 18 + i
      · rw [e, pk_us, if_pos (by omega)]; rfl
      · rw [pk_un e, hI k]
        by_cases z : 576 * b + 18 ≤ k ∧ k < 576 * b + 18 + i
        · rw [if_pos z, if_pos (by omega)]
        · rw [if_neg z, if_neg (by omega)]
    · intro F gg hI
      show ∃ G, M_empties_L30 Y m (nI b) (F + 1) (nI 64) _ = _ ∧ _
      rw [M_empties_L30, if_pos (show (64 : Int32) ≤ nI 64 by decide)]
      obtain ⟨G, g1, g2⟩ := l60 gg
      exact ⟨G, g1, fun k => by rw [g2 k, hI k]⟩
  unfold M_empties
  have key := upl (Q := fun r => ∃ G, r = some (hWi h (hGr h 1220 m) G) ∧ ∀ k, G k = if 576 * b + 100 ≤ k ∧ k < 576 * b + 106 then m1 else if 576 * b + 18 ≤ k ∧ k < 576 * b + 82 then m1 else if 576 * b ≤ k ∧ k < 576 * b + 576 then 0 else hAi h (hGr h 1220 m) k)
      (fun F i gg => M_empties_L2 Y m (nI b) F (nI i) (hWi h (hGr h 1220 m) gg)) 576
      (fun i gg => ∀ k, gg k = if 576 * b ≤ k ∧ k < 576 * b + i then 0 else hAi h (hGr h 1220 m) k) ?_ ?_ 576 0 (hAi h (hGr h 1220 m)) FU (by omega) (by unfold FU; omega) (fun k => by rw [if_neg (by omega)])
  · simp only [wi_self] at key
    obtain ⟨G, g1, g2⟩ := key
    refine ⟨G, g1, fun k => ?_⟩
    rw [g2 k]
    by_cases z : 576 * b ≤ k ∧ k < 576 * b + 576
    · by_cases z1 : 576 * b + 100 ≤ k ∧ k < 576 * b + 106
      · rw [if_pos z1, if_pos z, c00_1 (by omega)]
      · by_cases z2 : 576 * b + 18 ≤ k ∧ k < 576 * b + 82
        · rw [if_neg z1, if_pos z2, if_pos z, c00_1 (by omega)]
        · rw [if_neg z1, if_neg z2, if_pos z, if_pos z, c00_0 (by omega)]; rfl
    · rw [if_neg (show ¬ (576 * b + 100 ≤ k ∧ k < 576 * b + 106) by omega), if_neg (show ¬ (576 * b + 18 ≤ k ∧ k < 576 * b + 82) by omega), if_neg z, if_neg z]
  · intro F i gg hi hI
    right
    show ∃ s', M_empties_L2 Y m (nI b) (F + 1) (nI i) _ = M_empties_L2 Y m (nI b) F (nI (i + 1)) (hWi _ _ s') ∧ _
    rw [M_empties_L2, if_neg (show ¬ (576 : Int32) ≤ nI i from nI_ge (b := 576) hi (by omega)), show (576 : Int32) * nI b + nI i = nI (576 * b + i) by simp only [zlit, pk_mul, nI_add], gr_wi, ml1220 S, if_pos (inB_nI (by omega) (by omega)), letH_e, nI_clamp (by omega), ti_wi, nI_1]
    refine ⟨_, rfl, fun k => ?_⟩
    by_cases e : k = 576 * b + i
    · rw [e, pk_us, if_pos (by omega)]
    · rw [pk_un e, hI k]
      by_cases z : 576 * b ≤ k ∧ k < 576 * b + i
      · rw [if_pos z, if_pos (by omega)]
      · rw [if_neg z, if_neg (by omega)]
  · intro F gg hI
    show ∃ G, M_empties_L2 Y m (nI b) (F + 1) (nI 576) _ = _ ∧ _
    rw [M_empties_L2, if_pos (show (576 : Int32) ≤ nI 576 by decide)]
    obtain ⟨G, g1, g2⟩ := l30 gg
    exact ⟨G, g1, fun k => by rw [g2 k, hI k]⟩
/-- the reference begins a text -/
def mbH (h : Hp) (m n : Nat) : Hp := hSi (hSi h 1209 m (nI n)) 1208 m 0
theorem m_begin (S : MS Y h m) (hn : n ≤ 900) (tx : ∀ i, i < n → hAi h (hGr h 1207 m) i = T i ∧ byO (T i)) :
    ∃ h', M_advance Y m (hSi (hSi (mbH h m n) 1216 m 0) 1212 m 0) = some h' ∧ Tm m (mbH h m n) h' ∧ TP Y h' m n T 0 ∧ hGi h' 1212 m = 0 := by
  have e16 : hGi (hSi (hSi (mbH h m n) 1216 m 0) 1212 m 0) 1216 m = nI 0 := by rw [gi_si, if_neg (by omega), gi_si, if_pos ⟨rfl, rfl⟩]; rfl
  have e9 : hGi (hSi (hSi (mbH h m n) 1216 m 0) 1212 m 0) 1209 m = nI n := by unfold mbH; rw [gi_si, if_neg (by omega), gi_si, if_neg (by omega), gi_si, if_neg (by omega), gi_si, if_pos ⟨rfl, rfl⟩]
  have X : TM Y (hSi (hSi (mbH h m n) 1216 m 0) 1212 m 0) m n T := ⟨ml1207 S, hn, e9, tx⟩
  obtain ⟨q, l, e1, a4, a5, a6, a7, a8, a9⟩ := M_advance_s X (Nat.zero_le n) e16
  refine ⟨_, e1, Tm_tr (Tm_tr (Tm_si (by decide) (by decide)) (Tm_si (by decide) (by decide))) Tm_mk, ⟨TM_k Tm_mk X, Nat.zero_le _, ?_, ?_, ?_, fun w => ?_, fun w => ?_, fun w => ⟨?_, ?_⟩⟩, ?_⟩
  · rw [mh_gi (by decide) (by decide)]; exact a4
  · rw [mh_gi (by decide) (by decide)]; exact a5
  · rw [mh_gi (by decide) (by decide)]; exact a6
  · rw [mh_gi (by decide) (by decide)]; exact a7 w
  · rw [mh_gi (by decide) (by decide)]; exact a8 w
  · rw [mh_gi (by decide) (by decide)]; exact (a9 w).1
  · rw [mh_gl]; exact (a9 w).2
  · rw [mh_go (by omega), gi_si, if_pos ⟨rfl, rfl⟩]
theorem PM_start (S : MS Y h m) (A : Tm m h0 h) (B : TP Y h m n T 0) (z : hGi h 1212 m = 0) : ∃ h' w, M_empties Y m 4 h = some h' ∧ PM Y m n T h0 h' 0 c00 w := by
  obtain ⟨G, e1, e2⟩ := M_empties_s S (b := 4) (by decide)
  refine ⟨_, fun i => hAl h (hGr h 1222 m) (224 + i), e1, Mp_tr (Mp_m A) ?_, MS_congr S (fun _ => rfl), ⟨⟨B.1.1, B.1.2.1, B.1.2.2.1, fun j hj => ⟨?_, (B.1.2.2.2 j hj).2⟩⟩, B.2⟩, z, fun i hi => ?_, fun i _ => rfl⟩
  · refine ⟨fun _ _ _ => rfl, fun _ _ _ => rfl, fun _ _ => rfl, fun f p q i => ?_, fun _ _ _ _ => rfl, fun i hi => ?_, fun _ _ => rfl, fun z => z⟩
    · rw [ai_wi, if_neg (fun z => q (S.2.2 f 1220 p (by decide) z))]
    · rw [ai_wi, if_pos rfl, e2, if_neg (by omega)]
  · rw [gr_wi, ai_wi, if_neg (fun z => absurd (S.2.2 1207 1220 (by decide) (by decide) z) (by decide))]
    exact (B.1.2.2.2 j hj).1
  · rw [gr_wi, ai_wi, if_pos rfl, e2, if_pos (by omega), show 2304 + i - 576 * 4 = i by omega]
end EMP
