/-! ===== a text being read: the state of both ===== -/
/-- the objects of a shelf that a text's reading writes: not its weeks -/
def shR (h : Hp) (d : Nat) (a : Nat) : Prop := a = d ∨ a = hGr h 400 d ∨ a = hGr h 401 d ∨ a = hGr h 402 d ∨ a = hGr h 402 d
/-- only the tokens' fields, and the objects of P with their arrays, changed -/
def Kp (Y : Ly) (P : Nat → Prop) (t : Nat) (h0 h : Hp) : Prop := (∀ f a, ¬ P a → ¬ (a = t ∧ 703 ≤ f) → hGi h f a = hGi h0 f a) ∧ (∀ f a, a ≠ t → hGl h f a = hGl h0 f a) ∧ (∀ f a, hGr h f a = hGr h0 f a) ∧ (∀ A i, hAr h A i = hAr h0 A i) ∧
  (∀ A i, (∀ f o, P o → cArr f = true → isO Y (f / 100) o → A ≠ hGr h0 f o) → hAi h A i = hAi h0 A i ∧ hAl h A i = hAl h0 A i) ∧ (Ty Y h0 → Ty Y h)
def Mp (Y : Ly) (m : Nat) (h0 h : Hp) : Prop := (∀ f a, ¬ (a = m ∧ ((1212 ≤ f ∧ f ≤ 1218) ∨ f = 1224)) → hGi h f a = hGi h0 f a) ∧ (∀ f a, ¬ (a = m ∧ f = 1219) → hGl h f a = hGl h0 f a) ∧ (∀ f a, hGr h f a = hGr h0 f a) ∧
  (∀ f, mLen f ≠ 0 → f ≠ 1220 → ∀ i, hAi h (hGr h0 f m) i = hAi h0 (hGr h0 f m) i) ∧ (∀ f, mLen f ≠ 0 → f ≠ 1222 → ∀ i, hAl h (hGr h0 f m) i = hAl h0 (hGr h0 f m) i) ∧
  (∀ i, i < 2304 → hAi h (hGr h0 1220 m) i = hAi h0 (hGr h0 1220 m) i) ∧ (∀ i, i < 224 → hAl h (hGr h0 1222 m) i = hAl h0 (hGr h0 1222 m) i) ∧ (Ty Y h0 → Ty Y h)
theorem Kp_rf (Y : Ly) (P : Nat → Prop) (t : Nat) (h : Hp) : Kp Y P t h h := ⟨fun _ _ _ _ => rfl, fun _ _ _ => rfl, fun _ _ => rfl, fun _ _ => rfl, fun _ _ _ => ⟨rfl, rfl⟩, fun z => z⟩
theorem Kp_tr {Y : Ly} {P : Nat → Prop} {t : Nat} {h h1 h2 : Hp} (A : Kp Y P t h h1) (B : Kp Y P t h1 h2) : Kp Y P t h h2 := by
  obtain ⟨a1, a2, a3, a4, a5, a6⟩ := A
  obtain ⟨b1, b2, b3, b4, b5, b6⟩ := B
  refine ⟨fun f a n n' => (b1 f a n n').trans (a1 f a n n'), fun f a n => (b2 f a n).trans (a2 f a n), fun f a => (b3 f a).trans (a3 f a), fun A i => (b4 A i).trans (a4 A i), fun A i n => ?_, fun z => b6 (a6 z)⟩
  have q := b5 A i (fun f o p hf ho => by rw [a3]; exact n f o p hf ho)
  exact ⟨q.1.trans (a5 A i n).1, q.2.trans (a5 A i n).2⟩
theorem Kp_f {Y : Ly} {P : Nat → Prop} {t o : Nat} {h h' : Hp} (K : Kf Y o h h') (p : P o) : Kp Y P t h h' :=
  ⟨fun f a n _ => K.1 f a (fun e => n (by rw [e]; exact p)), fun f a _ => K.2.1 f a, K.2.2.1, K.2.2.2.1, fun A i n => K.2.2.2.2.1 A i (fun f hf ho => n f o p hf ho), K.2.2.2.2.2⟩
theorem Ty_k {Y : Ly} {t : Nat} {h h' : Hp} (A : Tk t h h') (T : Ty Y h) : Ty Y h' := by
  refine ⟨fun f kt hf a ha => by rw [A.gr]; exact T.1 f kt hf a ha, fun f hf a ha => ?_, fun a ha i hi => by rw [A.ar]; exact T.2.2.1 a ha i hi, fun a ha i hi => by rw [A.ar]; exact T.2.2.2 a ha i hi⟩
  rw [A.1 f a]
  · exact T.2.1 f hf a ha
  · rintro ⟨_, h1, h2⟩
    rcases (show f = 704 ∨ f = 705 ∨ f = 706 ∨ f = 707 ∨ f = 708 ∨ f = 709 ∨ f = 710 ∨ f = 711 ∨ f = 712 by omega) with e | e | e | e | e | e | e | e | e <;> (subst e; cases hf)
theorem Ty_m {Y : Ly} {m : Nat} {h h' : Hp} (A : Tm m h h') (T : Ty Y h) : Ty Y h' := by
  refine ⟨fun f kt hf a ha => by rw [A.gr]; exact T.1 f kt hf a ha, fun f hf a ha => ?_, fun a ha i hi => by rw [A.ar]; exact T.2.2.1 a ha i hi, fun a ha i hi => by rw [A.ar]; exact T.2.2.2 a ha i hi⟩
  rw [A.1 f a]
  · exact T.2.1 f hf a ha
  · rintro ⟨_, h1, h2⟩
    rcases (show f = 1212 ∨ f = 1213 ∨ f = 1214 ∨ f = 1215 ∨ f = 1216 ∨ f = 1217 ∨ f = 1218 by omega) with e | e | e | e | e | e | e <;> (subst e; cases hf)
theorem Kp_k {Y : Ly} {P : Nat → Prop} {t : Nat} {h h' : Hp} (A : Tk t h h') : Kp Y P t h h' :=
  ⟨fun f a _ n => A.1 f a (fun z => n ⟨z.1, by omega⟩), fun f a n => A.2.1 f a (fun z => n z.1), A.gr, A.ar, fun a i _ => ⟨by rw [A.ai], by rw [A.al]⟩, Ty_k A⟩
theorem Mp_rf (Y : Ly) (m : Nat) (h : Hp) : Mp Y m h h := ⟨fun _ _ _ => rfl, fun _ _ _ => rfl, fun _ _ => rfl, fun _ _ _ _ => rfl, fun _ _ _ _ => rfl, fun _ _ => rfl, fun _ _ => rfl, fun z => z⟩
theorem Mp_tr {Y : Ly} {m : Nat} {h h1 h2 : Hp} (A : Mp Y m h h1) (B : Mp Y m h1 h2) : Mp Y m h h2 := by
  obtain ⟨a1, a2, a3, a4, a5, a6, a7, a8⟩ := A
  obtain ⟨b1, b2, b3, b4, b5, b6, b7, b8⟩ := B
  exact ⟨fun f a n => (b1 f a n).trans (a1 f a n), fun f a n => (b2 f a n).trans (a2 f a n), fun f a => (b3 f a).trans (a3 f a), fun f p q i => by have := b4 f p q i; rw [a3] at this; exact this.trans (a4 f p q i), fun f p q i => by have := b5 f p q i; rw [a3] at this; exact this.trans (a5 f p q i),
    fun i hi => by have := b6 i hi; rw [a3] at this; exact this.trans (a6 i hi), fun i hi => by have := b7 i hi; rw [a3] at this; exact this.trans (a7 i hi), fun z => b8 (a8 z)⟩
theorem Mp_m {Y : Ly} {m : Nat} {h h' : Hp} (A : Tm m h h') : Mp Y m h h' :=
  ⟨fun f a n => A.1 f a (fun z => n ⟨z.1, Or.inl z.2⟩), A.2.1, A.gr, fun f _ _ i => by rw [A.ai], fun f _ _ i => by rw [A.al], fun i _ => by rw [A.ai], fun i _ => by rw [A.al], Ty_m A⟩
theorem Mp_ti {Y : Ly} {m : Nat} {h : Hp} (S : MS Y h m) {k : Nat} {v : Int32} (hk : 2304 ≤ k) : Mp Y m h (hTi h (hGr h 1220 m) k v) := by
  refine ⟨fun _ _ _ => rfl, fun _ _ _ => rfl, fun _ _ => rfl, fun f p q i => ?_, fun _ _ _ _ => rfl, fun i hi => ?_, fun _ _ => rfl, fun z => Ty_ti z⟩
  · rw [ai_ti, if_neg]
    intro z
    exact q (S.2.2 f 1220 p (by decide) z.1)
  · rw [ai_ti, if_neg (by omega)]
theorem Mp_tl {Y : Ly} {m : Nat} {h : Hp} (S : MS Y h m) {k : Nat} {v : Int64} (hk : 224 ≤ k) : Mp Y m h (hTl h (hGr h 1222 m) k v) := by
  refine ⟨fun _ _ _ => rfl, fun _ _ _ => rfl, fun _ _ => rfl, fun _ _ _ _ => rfl, fun f p q i => ?_, fun _ _ => rfl, fun i hi => ?_, fun z => z⟩
  · rw [al_tl, if_neg]
    intro z
    exact q (S.2.2 f 1222 p (by decide) z.1)
  · rw [al_tl, if_neg (by omega)]
/-- a shelf being read: all its rules' cells are told, also where no state is yet -/
def ROf (h : Hp) (s : Nat) (c : Nat → Int32) : Prop := (∀ t, t < cN c 1 → hAi h (hGr h 600 (hGr h 400 s)) t = c (10 + t)) ∧ (∀ i, i < 64 → hAi h (hGr h 601 (hGr h 400 s)) i = c (18 + i)) ∧
  ∀ f, f < cN c 3 → hAi h (hGr h 602 (hGr h 400 s)) f = c (166 + f) ∧ ∀ k, k < cN c (166 + f) → hAi h (hGr h 603 (hGr h 400 s)) (6 * f + k) = c (174 + 6 * f + k)
def RF (h : Hp) (s : Nat) (c : Nat → Int32) : Prop := RC h s c ∧ ROf h s c ∧ RK h s c ∧ RH h s c ∧ RL h s c
theorem RF.w {h : Hp} {s : Nat} {c : Nat → Int32} (q : RF h s c) : RS h s c := ⟨q.1, ⟨q.2.1.1, fun i hi _ => q.2.1.2.1 i hi, q.2.1.2.2⟩, q.2.2⟩
theorem RF_same {h h' : Hp} {s : Nat} {c : Nat → Int32} (E : sameS h h' s) (R : RF h s c) : RF h' s c := by
  obtain ⟨e1, e2, a0, a1, a2, a3, ab, al⟩ := E
  have r4 := e2 400 s rfl
  have r5 := e2 401 s rfl
  have r6 := e2 402 s rfl
  refine ⟨?_, ?_, ?_, ?_, ?_⟩
  · unfold RC
    rw [r4, r5, r6, e1 604 _ rfl, e1 605 _ rfl, e1 415 _ rfl, e1 607 _ rfl, e1 416 _ rfl, e1 418 _ rfl, e1 302 _ rfl, e1 302 _ rfl, e1 606 _ rfl, e1 417 _ rfl]
    exact R.1
  · unfold ROf
    rw [r4, e2 600 _ rfl, e2 601 _ rfl, e2 602 _ rfl, e2 603 _ rfl]
    simp only [a0, a1, a2, a3]
    exact R.2.1
  · unfold RK
    rw [e2 406 _ rfl, e2 407 _ rfl, e2 408 _ rfl, e2 409 _ rfl, e2 410 _ rfl, e2 411 _ rfl]
    simp only [fun i => ab 406 i (by decide) (by decide), fun i => ab 407 i (by decide) (by decide), fun i => ab 408 i (by decide) (by decide), fun i => ab 409 i (by decide) (by decide), fun i => ab 410 i (by decide) (by decide), fun i => ab 411 i (by decide) (by decide)]
    exact R.2.2.1
  · unfold RH
    rw [e2 412 _ rfl]
    simp only [fun i => ab 412 i (by decide) (by decide)]
    exact R.2.2.2.1
  · unfold RL
    rw [r5, r6, e2 300 _ rfl, e2 301 _ rfl, e2 300 _ rfl, e2 301 _ rfl]
    simp only [fun i => (al 300 i (by decide) (by decide)).1, fun i => (al 301 i (by decide) (by decide)).1, fun i => (al 300 i (by decide) (by decide)).2, fun i => (al 301 i (by decide) (by decide)).2]
    exact R.2.2.2.2
/-- the class: tokens at p, the shelf s is c, its names are those of cn, w -/
def PC (Y : Ly) (x t s n : Nat) (T : Nat → Int32) (P : Nat → Prop) (h0 h : Hp) (p : Nat) (c cn : Nat → Int32) (w : Nat → Int64) : Prop := Kp Y P t h0 h ∧ CS Y h x ∧ Ty Y h ∧ TC Y h t n T p ∧ RF h s c ∧ RN h s cn w
/-- the reference: its token at p, block 4 is c, w -/
def PM (Y : Ly) (m n : Nat) (T : Nat → Int32) (h0 h : Hp) (p : Nat) (c : Nat → Int32) (w : Nat → Int64) : Prop := Mp Y m h0 h ∧ MS Y h m ∧ TP Y h m n T p ∧ hGi h 1212 m = 0 ∧ (∀ i, i < 576 → hAi h (hGr h 1220 m) (2304 + i) = c i) ∧ ∀ i, i < 56 → hAl h (hGr h 1222 m) (224 + i) = w i
def FCc (Y : Ly) (t : Nat) (P : Nat → Prop) (h0 h : Hp) (k a : Nat) : Prop := Kp Y P t h0 h ∧ FL h t k a
def FMm (Y : Ly) (m : Nat) (h0 h : Hp) (k a : Nat) : Prop := Mp Y m h0 h ∧ MS Y h m ∧ BF h m k a
section PJ
variable {Y : Ly} {x t s m n : Nat} {T : Nat → Int32} {P : Nat → Prop} {h0 h h' : Hp} {p p' k a : Nat} {c cn : Nat → Int32} {w : Nat → Int64}
theorem RS_k (A : Tk t h h') (R : RF h s c) : RF h' s c := by
  refine RF_same (h := h) ⟨fun f a hf => A.1 f a ?_, fun f a _ => A.gr f a, fun i => by rw [A.ai], fun i => by rw [A.ai], fun i => by rw [A.ai], fun i => by rw [A.ai], fun f i _ _ => by rw [A.ai], fun f i _ _ => ⟨by rw [A.ai], by rw [A.ai]⟩⟩ R
  simp only [rsF, Bool.or_eq_true, beq_iff_eq] at hf
  omega
theorem RN_k (A : Tk t h h') (R : RN h s c w) : RN h' s c w := RN_eq R (A.1 414 s (by omega)) (fun i => by rw [A.gr, A.al]) (fun i => by rw [A.gr, A.ai]) (fun i => by rw [A.gr, A.ai])
theorem PC_k (C : PC Y x t s n T P h0 h p c cn w) (A : Tk t h h') (B : TC Y h' t n T p') : PC Y x t s n T P h0 h' p' c cn w :=
  ⟨Kp_tr C.1 (Kp_k A), CS_congr C.2.1 (fun f a _ => A.gr f a), Ty_k A C.2.2.1, B, RS_k A C.2.2.2.2.1, RN_k A C.2.2.2.2.2⟩
theorem FCc_k (C : PC Y x t s n T P h0 h p c cn w) (A : Tk t h h') (B : FL h' t k a) : FCc Y t P h0 h' k a := ⟨Kp_tr C.1 (Kp_k A), B⟩
theorem PM_k (C : PM Y m n T h0 h p c w) (A : Tm m h h') (B : TP Y h' m n T p') (z : hGi h' 1212 m = 0) : PM Y m n T h0 h' p' c w :=
  ⟨Mp_tr C.1 (Mp_m A), MS_congr C.2.1 (fun f => A.gr f m), B, z, fun i hi => by rw [A.gr, A.ai]; exact C.2.2.2.2.1 i hi, fun i hi => by rw [A.gr, A.al]; exact C.2.2.2.2.2 i hi⟩
theorem FMm_k (C : PM Y m n T h0 h p c w) (A : Tm m h h') (B : BF h' m k a) : FMm Y m h0 h' k a := ⟨Mp_tr C.1 (Mp_m A), MS_congr C.2.1 (fun f => A.gr f m), B⟩
theorem TP_ti {A i : Nat} {v : Int32} (S : MS Y h m) (hA : A = hGr h 1220 m) (B : TP Y h m n T p) : TP Y (hTi h A i v) m n T p := by
  refine ⟨⟨B.1.1, B.1.2.1, B.1.2.2.1, fun j hj => ⟨?_, (B.1.2.2.2 j hj).2⟩⟩, B.2⟩
  rw [gr_ti, ai_ti, if_neg]
  · exact (B.1.2.2.2 j hj).1
  · intro z
    rw [hA] at z
    exact absurd (S.2.2 1207 1220 (by decide) (by decide) z.1) (by decide)
theorem PM_w (C : PM Y m n T h0 h p c w) {k : Nat} {v : Int32} (hk : k < 576) : PM Y m n T h0 (hTi h (hGr h 1220 m) (2304 + k) v) p (upd c k v) w := by
  refine ⟨Mp_tr C.1 (Mp_ti C.2.1 (by omega)), MS_congr C.2.1 (fun _ => rfl), TP_ti C.2.1 rfl C.2.2.1, C.2.2.2.1, fun i hi => ?_, C.2.2.2.2.2⟩
  rw [gr_ti, ai_ti]
  by_cases e : i = k
  · rw [e, if_pos ⟨rfl, rfl⟩, pk_us]
  · rw [if_neg (by omega), pk_un e]; exact C.2.2.2.2.1 i hi
theorem FMm_w (C : FMm Y m h0 h k a) {j : Nat} {v : Int32} : FMm Y m h0 (hTi h (hGr h 1220 m) (2304 + j) v) k a := ⟨Mp_tr C.1 (Mp_ti C.2.1 (by omega)), MS_congr C.2.1 (fun _ => rfl), C.2.2⟩
theorem PM_n (C : PM Y m n T h0 h p c w) {k : Nat} {v : Int64} (hk : k < 56) : PM Y m n T h0 (hTl h (hGr h 1222 m) (224 + k) v) p c (vp_updL w k v) := by
  refine ⟨Mp_tr C.1 (Mp_tl C.2.1 (by omega)), MS_congr C.2.1 (fun _ => rfl), C.2.2.1, C.2.2.2.1, C.2.2.2.2.1, fun i hi => ?_⟩
  rw [gr_tl, al_tl]
  by_cases e : i = k
  · rw [e, if_pos ⟨rfl, rfl⟩, pk_uLs]
  · rw [if_neg (by omega), pk_uLn e]; exact C.2.2.2.2.2 i hi
theorem cnt8 (V : VC c) {so : Nat} (hso : so < 7) : c (manyI so) = nI (cN c (manyI so)) ∧ cN c (manyI so) ≤ 8 := by
  obtain ⟨v0, v1, v2, v3, v4, v5, v6, v7⟩ := V
  rcases (show so = 0 ∨ so = 1 ∨ so = 2 ∨ so = 3 ∨ so = 4 ∨ so = 5 ∨ so = 6 by omega) with e | e | e | e | e | e | e <;> subst e
  · exact ⟨v0.1, by have := v0.2; exact Nat.le_of_lt_succ this⟩
  · exact ⟨v1.1, by have := v1.2; exact Nat.le_of_lt_succ this⟩
  · exact ⟨v2.1, by have := v2.2; exact Nat.le_of_lt_succ (Nat.lt_trans this (by decide))⟩
  · exact ⟨v3.1, by have := v3.2; exact Nat.le_of_lt_succ this⟩
  · exact ⟨v4.1, by have := v4.2; exact Nat.le_of_lt_succ (Nat.lt_trans this (by decide))⟩
  · exact ⟨v6.1, by have := v6.2; exact Nat.le_of_lt_succ (Nat.lt_trans this (by decide))⟩
  · exact ⟨v7.1, by have := v7.2; exact Nat.le_of_lt_succ this⟩
theorem PM_bn (C : PM Y m n T h0 h p c w) (V : VC c) : BN h m 4 c w := by
  intro so hso
  obtain ⟨e1, e2⟩ := cnt8 V hso
  have ml := many_lt hso
  refine ⟨?_, e2, fun k hk => ?_⟩
  · rw [show 576 * 4 + manyI so = 2304 + manyI so by omega, C.2.2.2.2.1 _ (by omega)]; exact e1
  · rw [show 56 * 4 + 8 * so + k = 224 + (8 * so + k) by omega]
    exact C.2.2.2.2.2 _ (by omega)
end PJ
