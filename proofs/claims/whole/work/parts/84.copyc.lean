/-! ===== the class: a shelf copied (rows that agree) ===== -/
theorem rowOk_ag {wd sg th nm wd' sg' th' nm' c : Nat → Int32} {r a : Nat} (e1 : wd' r = wd r) (e3 : th' r = th r) (e4 : nm' r = nm r) (H : rowOk wd sg th nm c r a) : rowOk wd' sg' th' nm' c r a := by
  unfold rowOk at H ⊢
  rw [e1, e3, e4]
  exact H
theorem blkOk_ag {wd sg th nm wd' sg' th' nm' c : Nat → Int32} {r a : Nat} (e1 : wd' r = wd r) (e2 : sg' r = sg r) (e3 : th' r = th r) (e4 : nm' r = nm r) (H : blkOk wd sg th nm c r a) : blkOk wd' sg' th' nm' c r a := by
  unfold blkOk at H ⊢
  rw [e1, e2, e3, e4]
  exact H
theorem SQ_ag {wd sg th nm pt wd' sg' th' nm' pt' c : Nat → Int32} : ∀ n d lo hi a b, (∀ i, i < hi → wd' i = wd i ∧ sg' i = sg i ∧ th' i = th i ∧ nm' i = nm i ∧ pt' i = pt i) → SQ wd sg th nm pt c n d lo hi a b → SQ wd' sg' th' nm' pt' c n d lo hi a b := by
  intro n
  induction n with
  | zero => intro d lo hi a b _ H; exact H
  | succ n ih =>
    intro d lo hi a b E H
    rcases H with q | ⟨h1, h2, ⟨r1, r2, r3⟩ | ⟨r1, r2, p, e, p1, p2, p3, p4, p5, p6, p7, p8, p9, p10⟩⟩
    · exact Or.inl q
    · have El := E lo h2
      exact Or.inr ⟨h1, h2, Or.inl ⟨rowOk_ag El.1 El.2.2.1 El.2.2.2.1 r1, r2, ih _ _ _ _ _ E r3⟩⟩
    · have El := E lo h2
      have Ep := E p p2
      exact Or.inr ⟨h1, h2, Or.inr ⟨blkOk_ag El.1 El.2.1 El.2.2.1 El.2.2.2.1 r1, r2, p, e, p1, p2, p3, p4, p5, El.2.2.2.2.trans p6, Ep.1.trans p7, Ep.2.2.2.2.trans p8, ih _ _ _ _ _ (fun i hi => E i (by omega)) p9, ih _ _ _ _ _ E p10⟩⟩
/-- weeks w' hold what w held -/
theorem RW_ag {h h' : Hp} {w w' : Nat} {c : Nat → Int32} (R : RW h w c) (e1 : ∀ f, 905 ≤ f → f ≤ 907 → hGi h' f w' = hGi h f w) (e2 : ∀ f i, 900 ≤ f → f ≤ 904 → i < 60 → hAi h' (hGr h' f w') i = hAi h (hGr h f w) i) : RW h' w' c := by
  rcases R with ⟨q1, q2⟩ | ⟨q1, q2, R, T, r1, r2, r3, r4, r5, r6⟩
  · exact Or.inl ⟨q1, (e1 905 (by decide) (by decide)).trans q2⟩
  · exact Or.inr ⟨q1, (e1 905 (by decide) (by decide)).trans q2, R, T, r1, r2, (e1 906 (by decide) (by decide)).trans r3, (e1 907 (by decide) (by decide)).trans r4, r5,
      SQ_ag _ _ _ _ _ _ (fun i hi => ⟨e2 900 i (by decide) (by decide) (by omega), e2 901 i (by decide) (by decide) (by omega), e2 902 i (by decide) (by decide) (by omega), e2 903 i (by decide) (by decide) (by omega), e2 904 i (by decide) (by decide) (by omega)⟩) r6⟩
/-- only the object o and its arrays changed -/
def Kf (Y : Ly) (o : Nat) (h h' : Hp) : Prop := (∀ f a, a ≠ o → hGi h' f a = hGi h f a) ∧ (∀ f a, hGl h' f a = hGl h f a) ∧ (∀ f a, hGr h' f a = hGr h f a) ∧ (∀ A i, hAr h' A i = hAr h A i) ∧
  (∀ A i, (∀ f, cArr f = true → isO Y (f / 100) o → A ≠ hGr h f o) → hAi h' A i = hAi h A i ∧ hAl h' A i = hAl h A i) ∧ (Ty Y h → Ty Y h')
theorem Kf_rf (Y : Ly) (o : Nat) (h : Hp) : Kf Y o h h := ⟨fun _ _ _ => rfl, fun _ _ => rfl, fun _ _ => rfl, fun _ _ => rfl, fun _ _ _ => ⟨rfl, rfl⟩, fun t => t⟩
theorem Kf_tr {Y : Ly} {o : Nat} {h h1 h2 : Hp} (A : Kf Y o h h1) (B : Kf Y o h1 h2) : Kf Y o h h2 := by
  obtain ⟨a1, a2, a3, a4, a5, a6⟩ := A
  obtain ⟨b1, b2, b3, b4, b5, b6⟩ := B
  refine ⟨fun f a n => (b1 f a n).trans (a1 f a n), fun f a => (b2 f a).trans (a2 f a), fun f a => (b3 f a).trans (a3 f a), fun A i => (b4 A i).trans (a4 A i), fun A i n => ?_, fun t => b6 (a6 t)⟩
  have q := b5 A i (fun f hf ho => by rw [a3]; exact n f hf ho)
  exact ⟨q.1.trans (a5 A i n).1, q.2.trans (a5 A i n).2⟩
theorem Kf_si {Y : Ly} {o : Nat} {h : Hp} {f : Nat} {v : Int32} (hv : zk f = false ∨ v = 0 ∨ v = 1) : Kf Y o h (hSi h f o v) :=
  ⟨fun g a n => by rw [gi_si, if_neg (fun z => n z.2)], fun _ _ => rfl, fun _ _ => rfl, fun _ _ => rfl, fun _ _ _ => ⟨rfl, rfl⟩, fun t => Ty_si t hv⟩
theorem Kf_ti {Y : Ly} {o : Nat} {h : Hp} {f i : Nat} {v : Int32} (hf : cArr f = true) (ho : isO Y (f / 100) o) : Kf Y o h (hTi h (hGr h f o) i v) :=
  ⟨fun _ _ _ => rfl, fun _ _ => rfl, fun _ _ => rfl, fun _ _ => rfl, fun A k n => ⟨by rw [ai_ti, if_neg (fun z => n f hf ho z.1)], rfl⟩, fun t => Ty_ti t⟩
theorem Kf_ci {Y : Ly} {o : Nat} {h : Hp} {f b sp dp n : Nat} (hf : cArr f = true) (ho : isO Y (f / 100) o) : Kf Y o h (hCi h b sp (hGr h f o) dp n) :=
  ⟨fun _ _ _ => rfl, fun _ _ => rfl, fun _ _ => rfl, fun _ _ => rfl, fun A k q => ⟨by rw [ai_ci, if_neg (fun z => q f hf ho z)], rfl⟩, fun t => Ty_ci t⟩
theorem Kf_cl {Y : Ly} {o : Nat} {h : Hp} {f b sp dp n : Nat} (hf : cArr f = true) (ho : isO Y (f / 100) o) : Kf Y o h (hCl h b sp (hGr h f o) dp n) :=
  ⟨fun _ _ _ => rfl, fun _ _ => rfl, fun _ _ => rfl, fun _ _ => rfl, fun A k q => ⟨rfl, by rw [al_cl, if_neg (fun z => q f hf ho z)]⟩, fun t => Ty_cl t⟩
/-- arrays of d hold what those of s held -/
def Cp (Y : Ly) (s d : Nat) (h0 h1 : Hp) (D : Nat → Nat → Prop) : Prop := Kf Y d h0 h1 ∧ ∀ f n, D f n → ∀ i, i < n → hAi h1 (hGr h0 f d) i = hAi h0 (hGr h0 f s) i
section CP
variable {Y : Ly} {x s d q : Nat} {h0 h1 : Hp}
theorem Cp_step {D : Nat → Nat → Prop} (S : CS Y h0 x) (C : Cp Y s d h0 h1 D) (hd : isO Y q d) (hs : isO Y q s) (ne : s ≠ d) {f n : Nat} (hf : cArr f = true) (fq : f / 100 = q) (hD : ∀ g m, D g m → g ≠ f ∧ cArr g = true ∧ g / 100 = q) :
    Cp Y s d h0 (hCi h1 (hGr h0 f s) 0 (hGr h0 f d) 0 n) (fun g m => (g = f ∧ m = n) ∨ D g m) := by
  have e := C.1.2.2.1
  refine ⟨Kf_tr C.1 (by rw [← e f d]; exact Kf_ci hf (by rw [fq]; exact hd)), fun g m hg i hi => ?_⟩
  rcases hg with ⟨rfl, rfl⟩ | hg
  · rw [ai_ci, if_pos rfl, va_cpy, if_pos ⟨Nat.zero_le _, by omega⟩, Nat.sub_zero, Nat.zero_add]
    refine (C.1.2.2.2.2.1 _ i (fun f' hf' ho' w => ?_)).1
    exact ne (S.2.2.2.1 g f' s d hf hf' (by rw [fq]; exact hs) ho' w).2
  · obtain ⟨n1, n2, n3⟩ := hD g m hg
    rw [ai_ci, if_neg]
    · exact C.2 g m hg i hi
    · intro w
      exact n1 (S.2.2.2.1 g f d d n2 hf (by rw [n3]; exact hd) (by rw [fq]; exact hd) w).1
end CP
