/-! ===== shapes of the two heaps ===== -/
def mLen : Nat → Nat
  | 1204 => 4
  | 1205 => 4
  | 1206 => 240
  | 1207 => 900
  | 1220 => 2880
  | 1221 => 304
  | 1222 => 280
  | 1225 => 64
  | 1226 => 56
  | 1227 => 8
  | 1228 => 8
  | 1229 => 64
  | 1230 => 7
  | 1231 => 6
  | 1232 => 6
  | 1233 => 1792
  | 1234 => 5
  | _ => 0
def cLen : Nat → Nat
  | 0 => 6
  | 1 => 6
  | 2 => 56
  | 3 => 56
  | 4 => 56
  | 100 => 6
  | 101 => 256
  | 200 => 5
  | 201 => 60
  | 202 => 6
  | 203 => 6
  | 403 => 50
  | 404 => 50
  | 405 => 50
  | 406 => 6
  | 407 => 6
  | 408 => 6
  | 409 => 60
  | 410 => 6
  | 411 => 6
  | 412 => 48
  | 500 => 10
  | 600 => 8
  | 601 => 64
  | 602 => 8
  | 603 => 48
  | 700 => 900
  | 701 => 31
  | 800 => 60
  | 900 => 60
  | 901 => 60
  | 902 => 60
  | 903 => 60
  | 904 => 60
  | 1000 => 3
  | 1100 => 4
  | 1104 => 3
  | 1108 => 5
  | _ => 0
/-- array fields of the class: those of cLen, and the two of a Lot -/
def cArr (f : Nat) : Bool := f == 300 || (f == 301 || cLen f != 0)
/-- fields whose references stay -/
def cFin (f : Nat) : Bool := !(f == 5 || (f == 413 || (f == 1109 || (f == 1110 || f == 1111))))
def MS (Y : Ly) (h : Hp) (m : Nat) : Prop := isO Y 12 m ∧ (∀ f, mLen f ≠ 0 → lnY Y (hGr h f m) = mLen f) ∧ (∀ f g, mLen f ≠ 0 → mLen g ≠ 0 → hGr h f m = hGr h g m → f = g)
theorem MS_ne {Y : Ly} {h : Hp} {m f g : Nat} (H : MS Y h m) (hf : mLen f ≠ 0) (hg : mLen g ≠ 0) (n : f ≠ g) : hGr h f m ≠ hGr h g m := fun e => n (H.2.2 f g hf hg e)
theorem MS_eq {Y : Ly} {h : Hp} {m f g : Nat} (H : MS Y h m) (hf : (mLen f != 0) = true) (hg : (mLen g != 0) = true) : (hGr h f m = hGr h g m) = (f = g) := by
  simp only [bne_iff_ne, ne_eq] at hf hg
  apply propext
  exact ⟨fun e => H.2.2 f g hf hg e, fun e => by rw [e]⟩
theorem MS_congr {Y : Ly} {h h' : Hp} {m : Nat} (H : MS Y h m) (e : ∀ f, hGr h' f m = hGr h f m) : MS Y h' m := ⟨H.1, fun f hf => by rw [e]; exact H.2.1 f hf, fun f g hf hg => by rw [e, e]; exact H.2.2 f g hf hg⟩
theorem ml1204 {Y : Ly} {h : Hp} {m : Nat} (H : MS Y h m) : lnY Y (hGr h 1204 m) = 4 := H.2.1 1204 (by decide)
theorem ml1205 {Y : Ly} {h : Hp} {m : Nat} (H : MS Y h m) : lnY Y (hGr h 1205 m) = 4 := H.2.1 1205 (by decide)
theorem ml1206 {Y : Ly} {h : Hp} {m : Nat} (H : MS Y h m) : lnY Y (hGr h 1206 m) = 240 := H.2.1 1206 (by decide)
theorem ml1207 {Y : Ly} {h : Hp} {m : Nat} (H : MS Y h m) : lnY Y (hGr h 1207 m) = 900 := H.2.1 1207 (by decide)
theorem ml1220 {Y : Ly} {h : Hp} {m : Nat} (H : MS Y h m) : lnY Y (hGr h 1220 m) = 2880 := H.2.1 1220 (by decide)
theorem ml1221 {Y : Ly} {h : Hp} {m : Nat} (H : MS Y h m) : lnY Y (hGr h 1221 m) = 304 := H.2.1 1221 (by decide)
theorem ml1222 {Y : Ly} {h : Hp} {m : Nat} (H : MS Y h m) : lnY Y (hGr h 1222 m) = 280 := H.2.1 1222 (by decide)
theorem ml1225 {Y : Ly} {h : Hp} {m : Nat} (H : MS Y h m) : lnY Y (hGr h 1225 m) = 64 := H.2.1 1225 (by decide)
theorem ml1226 {Y : Ly} {h : Hp} {m : Nat} (H : MS Y h m) : lnY Y (hGr h 1226 m) = 56 := H.2.1 1226 (by decide)
theorem ml1227 {Y : Ly} {h : Hp} {m : Nat} (H : MS Y h m) : lnY Y (hGr h 1227 m) = 8 := H.2.1 1227 (by decide)
theorem ml1228 {Y : Ly} {h : Hp} {m : Nat} (H : MS Y h m) : lnY Y (hGr h 1228 m) = 8 := H.2.1 1228 (by decide)
theorem ml1229 {Y : Ly} {h : Hp} {m : Nat} (H : MS Y h m) : lnY Y (hGr h 1229 m) = 64 := H.2.1 1229 (by decide)
theorem ml1230 {Y : Ly} {h : Hp} {m : Nat} (H : MS Y h m) : lnY Y (hGr h 1230 m) = 7 := H.2.1 1230 (by decide)
theorem ml1231 {Y : Ly} {h : Hp} {m : Nat} (H : MS Y h m) : lnY Y (hGr h 1231 m) = 6 := H.2.1 1231 (by decide)
theorem ml1232 {Y : Ly} {h : Hp} {m : Nat} (H : MS Y h m) : lnY Y (hGr h 1232 m) = 6 := H.2.1 1232 (by decide)
theorem ml1233 {Y : Ly} {h : Hp} {m : Nat} (H : MS Y h m) : lnY Y (hGr h 1233 m) = 1792 := H.2.1 1233 (by decide)
theorem ml1234 {Y : Ly} {h : Hp} {m : Nat} (H : MS Y h m) : lnY Y (hGr h 1234 m) = 5 := H.2.1 1234 (by decide)
def CS (Y : Ly) (h : Hp) (x : Nat) : Prop := isO Y 11 x ∧ (∀ f, cLen f ≠ 0 → ∀ a, isO Y (f / 100) a → lnY Y (hGr h f a) = cLen f) ∧
  (∀ s, isO Y 4 s → (lnY Y (hGr h 300 (hGr h 401 s)) = 6 ∧ lnY Y (hGr h 301 (hGr h 401 s)) = 6) ∧ lnY Y (hGr h 300 (hGr h 402 s)) = 8 ∧ lnY Y (hGr h 301 (hGr h 402 s)) = 8) ∧
  (∀ f g a b, cArr f = true → cArr g = true → isO Y (f / 100) a → isO Y (g / 100) b → hGr h f a = hGr h g b → f = g ∧ a = b) ∧
  (∀ a b, isO Y 4 a → isO Y 4 b → (hGr h 400 a = hGr h 400 b → a = b) ∧ (hGr h 401 a = hGr h 401 b → a = b) ∧ (hGr h 402 a = hGr h 402 b → a = b) ∧ hGr h 401 a ≠ hGr h 402 b)
theorem CS_congr {Y : Ly} {h h' : Hp} {x : Nat} (H : CS Y h x) (e : ∀ f a, cFin f = true → hGr h' f a = hGr h f a) : CS Y h' x := by
  have hfin : ∀ f, cArr f = true → cFin f = true := by
    intro f hf
    simp only [cArr, Bool.or_eq_true, beq_iff_eq, bne_iff_ne, ne_eq] at hf
    simp only [cFin, Bool.not_eq_true', Bool.or_eq_false_iff, beq_eq_false_iff_ne, ne_eq]
    refine ⟨?_, ?_, ?_, ?_, ?_⟩ <;> (intro q; subst q; revert hf; decide)
  have hl : ∀ f, cLen f ≠ 0 → cFin f = true := fun f hf => hfin f (by simp [cArr, hf])
  refine ⟨H.1, fun f hf a ha => by rw [e f a (hl f hf)]; exact H.2.1 f hf a ha, fun s hs => ?_, fun f g a b hf hg ha hb => ?_, fun a b ha hb => ?_⟩
  · rw [e 401 s rfl, e 402 s rfl, e 300 _ rfl, e 301 _ rfl, e 300 _ rfl, e 301 _ rfl]
    exact H.2.2.1 s hs
  · rw [e f a (hfin f hf), e g b (hfin g hg)]
    exact H.2.2.2.1 f g a b hf hg ha hb
  · rw [e 400 a rfl, e 400 b rfl, e 401 a rfl, e 401 b rfl, e 402 a rfl, e 402 b rfl]
    exact H.2.2.2.2 a b ha hb
theorem CS_eq {Y : Ly} {h : Hp} {x f g a b : Nat} (H : CS Y h x) (hf : cArr f = true) (hg : cArr g = true) (ha : isO Y (f / 100) a) (hb : isO Y (g / 100) b) : (hGr h f a = hGr h g b) = (f = g ∧ a = b) := by
  apply propext
  exact ⟨fun e => H.2.2.2.1 f g a b hf hg ha hb e, fun e => by rw [e.1, e.2]⟩
theorem cl0 {Y : Ly} {h : Hp} {x a : Nat} (H : CS Y h x) (ha : isO Y 0 a) : lnY Y (hGr h 0 a) = 6 := H.2.1 0 (by decide) a ha
theorem cl1 {Y : Ly} {h : Hp} {x a : Nat} (H : CS Y h x) (ha : isO Y 0 a) : lnY Y (hGr h 1 a) = 6 := H.2.1 1 (by decide) a ha
theorem cl2 {Y : Ly} {h : Hp} {x a : Nat} (H : CS Y h x) (ha : isO Y 0 a) : lnY Y (hGr h 2 a) = 56 := H.2.1 2 (by decide) a ha
theorem cl3 {Y : Ly} {h : Hp} {x a : Nat} (H : CS Y h x) (ha : isO Y 0 a) : lnY Y (hGr h 3 a) = 56 := H.2.1 3 (by decide) a ha
theorem cl4 {Y : Ly} {h : Hp} {x a : Nat} (H : CS Y h x) (ha : isO Y 0 a) : lnY Y (hGr h 4 a) = 56 := H.2.1 4 (by decide) a ha
theorem cl100 {Y : Ly} {h : Hp} {x a : Nat} (H : CS Y h x) (ha : isO Y 1 a) : lnY Y (hGr h 100 a) = 6 := H.2.1 100 (by decide) a ha
theorem cl101 {Y : Ly} {h : Hp} {x a : Nat} (H : CS Y h x) (ha : isO Y 1 a) : lnY Y (hGr h 101 a) = 256 := H.2.1 101 (by decide) a ha
theorem cl200 {Y : Ly} {h : Hp} {x a : Nat} (H : CS Y h x) (ha : isO Y 2 a) : lnY Y (hGr h 200 a) = 5 := H.2.1 200 (by decide) a ha
theorem cl201 {Y : Ly} {h : Hp} {x a : Nat} (H : CS Y h x) (ha : isO Y 2 a) : lnY Y (hGr h 201 a) = 60 := H.2.1 201 (by decide) a ha
theorem cl202 {Y : Ly} {h : Hp} {x a : Nat} (H : CS Y h x) (ha : isO Y 2 a) : lnY Y (hGr h 202 a) = 6 := H.2.1 202 (by decide) a ha
theorem cl203 {Y : Ly} {h : Hp} {x a : Nat} (H : CS Y h x) (ha : isO Y 2 a) : lnY Y (hGr h 203 a) = 6 := H.2.1 203 (by decide) a ha
theorem cl403 {Y : Ly} {h : Hp} {x a : Nat} (H : CS Y h x) (ha : isO Y 4 a) : lnY Y (hGr h 403 a) = 50 := H.2.1 403 (by decide) a ha
theorem cl404 {Y : Ly} {h : Hp} {x a : Nat} (H : CS Y h x) (ha : isO Y 4 a) : lnY Y (hGr h 404 a) = 50 := H.2.1 404 (by decide) a ha
theorem cl405 {Y : Ly} {h : Hp} {x a : Nat} (H : CS Y h x) (ha : isO Y 4 a) : lnY Y (hGr h 405 a) = 50 := H.2.1 405 (by decide) a ha
theorem cl406 {Y : Ly} {h : Hp} {x a : Nat} (H : CS Y h x) (ha : isO Y 4 a) : lnY Y (hGr h 406 a) = 6 := H.2.1 406 (by decide) a ha
theorem cl407 {Y : Ly} {h : Hp} {x a : Nat} (H : CS Y h x) (ha : isO Y 4 a) : lnY Y (hGr h 407 a) = 6 := H.2.1 407 (by decide) a ha
theorem cl408 {Y : Ly} {h : Hp} {x a : Nat} (H : CS Y h x) (ha : isO Y 4 a) : lnY Y (hGr h 408 a) = 6 := H.2.1 408 (by decide) a ha
theorem cl409 {Y : Ly} {h : Hp} {x a : Nat} (H : CS Y h x) (ha : isO Y 4 a) : lnY Y (hGr h 409 a) = 60 := H.2.1 409 (by decide) a ha
theorem cl410 {Y : Ly} {h : Hp} {x a : Nat} (H : CS Y h x) (ha : isO Y 4 a) : lnY Y (hGr h 410 a) = 6 := H.2.1 410 (by decide) a ha
theorem cl411 {Y : Ly} {h : Hp} {x a : Nat} (H : CS Y h x) (ha : isO Y 4 a) : lnY Y (hGr h 411 a) = 6 := H.2.1 411 (by decide) a ha
theorem cl412 {Y : Ly} {h : Hp} {x a : Nat} (H : CS Y h x) (ha : isO Y 4 a) : lnY Y (hGr h 412 a) = 48 := H.2.1 412 (by decide) a ha
theorem cl500 {Y : Ly} {h : Hp} {x a : Nat} (H : CS Y h x) (ha : isO Y 5 a) : lnY Y (hGr h 500 a) = 10 := H.2.1 500 (by decide) a ha
theorem cl600 {Y : Ly} {h : Hp} {x a : Nat} (H : CS Y h x) (ha : isO Y 6 a) : lnY Y (hGr h 600 a) = 8 := H.2.1 600 (by decide) a ha
theorem cl601 {Y : Ly} {h : Hp} {x a : Nat} (H : CS Y h x) (ha : isO Y 6 a) : lnY Y (hGr h 601 a) = 64 := H.2.1 601 (by decide) a ha
theorem cl602 {Y : Ly} {h : Hp} {x a : Nat} (H : CS Y h x) (ha : isO Y 6 a) : lnY Y (hGr h 602 a) = 8 := H.2.1 602 (by decide) a ha
theorem cl603 {Y : Ly} {h : Hp} {x a : Nat} (H : CS Y h x) (ha : isO Y 6 a) : lnY Y (hGr h 603 a) = 48 := H.2.1 603 (by decide) a ha
theorem cl700 {Y : Ly} {h : Hp} {x a : Nat} (H : CS Y h x) (ha : isO Y 7 a) : lnY Y (hGr h 700 a) = 900 := H.2.1 700 (by decide) a ha
theorem cl701 {Y : Ly} {h : Hp} {x a : Nat} (H : CS Y h x) (ha : isO Y 7 a) : lnY Y (hGr h 701 a) = 31 := H.2.1 701 (by decide) a ha
theorem cl800 {Y : Ly} {h : Hp} {x a : Nat} (H : CS Y h x) (ha : isO Y 8 a) : lnY Y (hGr h 800 a) = 60 := H.2.1 800 (by decide) a ha
theorem cl900 {Y : Ly} {h : Hp} {x a : Nat} (H : CS Y h x) (ha : isO Y 9 a) : lnY Y (hGr h 900 a) = 60 := H.2.1 900 (by decide) a ha
theorem cl901 {Y : Ly} {h : Hp} {x a : Nat} (H : CS Y h x) (ha : isO Y 9 a) : lnY Y (hGr h 901 a) = 60 := H.2.1 901 (by decide) a ha
theorem cl902 {Y : Ly} {h : Hp} {x a : Nat} (H : CS Y h x) (ha : isO Y 9 a) : lnY Y (hGr h 902 a) = 60 := H.2.1 902 (by decide) a ha
theorem cl903 {Y : Ly} {h : Hp} {x a : Nat} (H : CS Y h x) (ha : isO Y 9 a) : lnY Y (hGr h 903 a) = 60 := H.2.1 903 (by decide) a ha
theorem cl904 {Y : Ly} {h : Hp} {x a : Nat} (H : CS Y h x) (ha : isO Y 9 a) : lnY Y (hGr h 904 a) = 60 := H.2.1 904 (by decide) a ha
theorem cl1000 {Y : Ly} {h : Hp} {x a : Nat} (H : CS Y h x) (ha : isO Y 10 a) : lnY Y (hGr h 1000 a) = 3 := H.2.1 1000 (by decide) a ha
theorem cl1100 {Y : Ly} {h : Hp} {x a : Nat} (H : CS Y h x) (ha : isO Y 11 a) : lnY Y (hGr h 1100 a) = 4 := H.2.1 1100 (by decide) a ha
theorem cl1104 {Y : Ly} {h : Hp} {x a : Nat} (H : CS Y h x) (ha : isO Y 11 a) : lnY Y (hGr h 1104 a) = 3 := H.2.1 1104 (by decide) a ha
theorem cl1108 {Y : Ly} {h : Hp} {x a : Nat} (H : CS Y h x) (ha : isO Y 11 a) : lnY Y (hGr h 1108 a) = 5 := H.2.1 1108 (by decide) a ha
