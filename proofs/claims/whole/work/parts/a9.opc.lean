/-! ===== the class: what it does with a token ===== -/
/-- only the tokens' fields changed -/
def Tk (t : Nat) (h h' : Hp) : Prop := (∀ f a, ¬ (a = t ∧ 704 ≤ f ∧ f ≤ 712) → hGi h' f a = hGi h f a) ∧ (∀ f a, ¬ (a = t ∧ f = 709) → hGl h' f a = hGl h f a) ∧ h'.2.2 = h.2.2
theorem Tk_rf (t : Nat) (h : Hp) : Tk t h h := ⟨fun _ _ _ => rfl, fun _ _ _ => rfl, rfl⟩
theorem Tk_tr {t : Nat} {h h1 h2 : Hp} (A : Tk t h h1) (B : Tk t h1 h2) : Tk t h h2 := ⟨fun f a n => (B.1 f a n).trans (A.1 f a n), fun f a n => (B.2.1 f a n).trans (A.2.1 f a n), B.2.2.trans A.2.2⟩
theorem Tk_tk {t : Nat} {h : Hp} {q : Nat → Int32} {l : Int64} : Tk t h (tkH h t q l) := ⟨fun f a n => tk_go (by omega), fun f a n => tk_glo (fun z => n ⟨z.2, z.1⟩), rfl⟩
theorem Tk_si {t : Nat} {h : Hp} {f : Nat} {v : Int32} (h1 : 704 ≤ f) (h2 : f ≤ 712) : Tk t h (hSi h f t v) := ⟨fun f' a n => by rw [gi_si, if_neg (by omega)], fun _ _ _ => rfl, rfl⟩
theorem Tk.gr {t : Nat} {h h' : Hp} (A : Tk t h h') (f a : Nat) : hGr h' f a = hGr h f a := by unfold hGr; rw [A.2.2]
theorem Tk.ar {t : Nat} {h h' : Hp} (A : Tk t h h') (f a : Nat) : hAr h' f a = hAr h f a := by unfold hAr; rw [A.2.2]
theorem Tk.ai {t : Nat} {h h' : Hp} (A : Tk t h h') : hAi h' = hAi h := by funext f a; unfold hAi; rw [A.2.2]
theorem Tk.al {t : Nat} {h h' : Hp} (A : Tk t h h') : hAl h' = hAl h := by funext f a; unfold hAl; rw [A.2.2]
def flt (T : Nat → Int32) (n p k : Nat) : Nat := if tK T n p = 5 then 1 else k
def FL (h : Hp) (t k a : Nat) : Prop := hGi h 711 t = nI k ∧ hGi h 712 t = nI a
def isNm (T : Nat → Int32) (n p : Nat) : Bool := decide (tK T n p = 1 ∧ tI T n p = none ∧ tW T n p ≠ 0)
/-- the class's tokens stand at p -/
def TC (Y : Ly) (h : Hp) (t n : Nat) (T : Nat → Int32) (p : Nat) : Prop := TX Y h t n T ∧ p ≤ n ∧ hGi h 704 t = nI (tE T n p) ∧ hGi h 705 t = nI (tK T n p) ∧ hGi h 706 t = nI (tS T n p) ∧ hGi h 708 t = on (tI T n p) ∧ hGl h 709 t = lN (tW T n p) ∧ (tK T n p = 2 → hGi h 707 t = nI (tN T n p))
section OPC
variable {Y : Ly} {h h' : Hp} {t n : Nat} {T : Nat → Int32} {p : Nat}
theorem TX_k (A : Tk t h h') (X : TX Y h t n T) : TX Y h' t n T := by
  obtain ⟨x1, x2, x3, x4, x5, x6⟩ := X
  refine ⟨by rw [A.gr]; exact x1, by rw [A.gr]; exact x2, x3, by rw [A.1 703 t (by omega)]; exact x4, fun i hi => ⟨by rw [A.gr, A.ai]; exact (x5 i hi).1, (x5 i hi).2⟩, fun i hi => by rw [A.gr, A.al]; exact x6 i hi⟩
theorem tR_le (T : Nat → Int32) (n p : Nat) : tR T n p ≤ 5 := by
  unfold tR
  split
  · exact (sof_le _).1
  · omega
theorem tK_le (T : Nat → Int32) (n p : Nat) : tK T n p ≤ 5 := by
  unfold tK
  have := tR_le T n p
  split <;> omega
theorem tI_lt {i : Nat} (h : tI T n p = some i) : i < 31 := by
  unfold tI at h
  split at h
  · exact (kI_iff.mp h).1
  · cases h
theorem tK_0 (hp : p ≤ n) : tK T n p = 0 ↔ tS T n p = n := by
  have h1 := tS_le T hp
  constructor
  · intro w
    by_cases z : tS T n p < n
    · exfalso
      have := (sof_le (BB T (tS T n p))).2
      unfold tK tR at w
      rw [if_pos z] at w
      split at w <;> omega
    · omega
  · intro w
    unfold tK tR
    rw [if_neg (show ¬ tS T n p < n by omega), if_neg (by omega)]
theorem tS_lt (hp : p ≤ n) (h : tK T n p ≠ 0) : tS T n p < n := by
  have h1 := tS_le T hp
  by_cases z : tS T n p = n
  · exact absurd ((tK_0 hp).mpr z) h
  · omega
theorem TC_adv (C : TC Y h t n T p) : ∃ h', To_advance Y t h = some h' ∧ Tk t h h' ∧ TC Y h' t n T (tE T n p) ∧ hGi h' 710 t = hGi h 710 t := by
  obtain ⟨q, e1, a4, a5, a6, a8, a7⟩ := To_advance_s C.1 (tE_bd T C.2.1).2.1 C.2.2.1
  refine ⟨_, e1, Tk_tk, ⟨TX_k Tk_tk C.1, (tE_bd T C.2.1).2.1, ?_, ?_, ?_, ?_, tk_gl, fun w => ?_⟩, tk_go (by omega)⟩
  · rw [tk_gi (by decide) (by decide)]; exact a4
  · rw [tk_gi (by decide) (by decide)]; exact a5
  · rw [tk_gi (by decide) (by decide)]; exact a6
  · rw [tk_gi (by decide) (by decide)]; exact a8
  · rw [tk_gi (by decide) (by decide)]; exact a7 w
theorem c_blame (C : TC Y h t n T p) (k : Nat) : ∃ h', To_blame Y t (nI k) h = some (false, h') ∧ Tk t h h' ∧ FL h' t (flt T n p k) (tS T n p) := by
  have kl := tK_le T n p
  unfold To_blame flt
  rw [C.2.2.2.1]
  by_cases z : tK T n p = 5
  · rw [if_pos (show nI (tK T n p) = 5 by rw [z]; rfl), if_pos z, letH_e, letH_e]
    refine ⟨_, rfl, Tk_tr (Tk_si (by decide) (by decide)) (Tk_si (by decide) (by decide)), ?_, ?_⟩
    · rw [gi_si, if_neg (by omega), gi_si, if_pos ⟨rfl, rfl⟩]; rfl
    · rw [gi_si, if_pos ⟨rfl, rfl⟩, gi_si, if_neg (by omega)]; exact C.2.2.2.2.1
  · rw [if_neg (show ¬ nI (tK T n p) = 5 from fun w => z ((nI_eq (b := 5) (by omega) (by decide)).mp w)), if_neg z, letH_e, letH_e]
    refine ⟨_, rfl, Tk_tr (Tk_si (by decide) (by decide)) (Tk_si (by decide) (by decide)), ?_, ?_⟩
    · rw [gi_si, if_neg (by omega), gi_si, if_pos ⟨rfl, rfl⟩]
    · rw [gi_si, if_pos ⟨rfl, rfl⟩, gi_si, if_neg (by omega)]; exact C.2.2.2.2.1
theorem on_eq {o : Option Nat} {i : Nat} (hi : i < 2 ^ 31) (ho : ∀ k, o = some k → k < 2 ^ 31) : (on o = nI i) ↔ o = some i := by
  cases o with
  | none =>
    constructor
    · intro w
      have w' : m1 = nI i := w
      rw [m1_ne hi] at w'
      exact w'.elim
    · intro w; cases w
  | some k =>
    have := ho k rfl
    constructor
    · intro w; rw [(nI_eq (by omega) hi).mp w]
    · intro w; cases w; rfl
theorem tI_on {i : Nat} (hi : i < 31) : (on (tI T n p) = nI i) ↔ tI T n p = some i := on_eq (by omega) (fun k hk => by have := tI_lt hk; omega)
theorem c_word (C : TC Y h t n T p) {i : Nat} (hi : i < 31) : (tI T n p = some i → ∃ h', To_passWord Y t (nI i) h = some (true, h') ∧ Tk t h h' ∧ TC Y h' t n T (tE T n p) ∧ hGi h' 710 t = hGi h 710 t) ∧ (tI T n p ≠ some i → ∃ h', To_passWord Y t (nI i) h = some (false, h') ∧ Tk t h h' ∧ FL h' t (flt T n p 2) (tS T n p)) := by
  unfold To_passWord
  rw [C.2.2.2.2.2.1]
  constructor
  · intro z
    obtain ⟨h', e1, e2, e3, e4⟩ := TC_adv C
    rw [if_pos ((tI_on hi).mpr z), e1, bind_s]
    exact ⟨h', rfl, e2, e3, e4⟩
  · intro z
    obtain ⟨h', e1, e2, e3⟩ := c_blame C 2
    rw [if_neg (fun w => z ((tI_on hi).mp w)), show (2 : Int32) = nI 2 from rfl, e1, bind_s]
    exact ⟨h', rfl, e2, e3⟩
/-- the semicolon stands here -/
def isSc (T : Nat → Int32) (n p : Nat) : Bool := decide (tK T n p = 3 ∧ BB T (tS T n p) = 59)
theorem tK3 (hp : p ≤ n) (h : tK T n p = 3) : tS T n p < n ∧ sofN (BB T (tS T n p)) = 3 := by
  have h1 := tS_lt (T := T) hp (by omega)
  refine ⟨h1, ?_⟩
  unfold tK tR at h
  rw [if_pos h1] at h
  split at h <;> omega
theorem sof_3 {b : Nat} (h : sofN b = 3) : b = 59 ∨ b = 60 ∨ b = 62 ∨ b = 61 := by
  unfold sofN at h
  split at h
  · omega
  · split at h
    · omega
    · split at h
      · omega
      · split at h
        · next q => exact q
        · omega
theorem c_isSemi (C : TC Y h t n T p) : To_isSemicolon Y t h = some (isSc T n p) := by
  have kl := tK_le T n p
  have h900 := C.1.2.2.1
  unfold To_isSemicolon isSc
  rw [C.2.2.2.1]
  by_cases z : tK T n p = 3
  · obtain ⟨h1, h2⟩ := tK3 C.2.1 z
    have h3 := sof_3 h2
    rw [if_pos (show nI (tK T n p) = 3 by rw [z]; rfl), C.2.2.2.2.1, C.1.1, if_pos (inB_nI (by omega) (by omega)), nI_clamp (by omega), (C.1.2.2.2.2.1 _ h1).1, BB_e C.1 h1 (by omega)]
    by_cases w : BB T (tS T n p) = 59
    · rw [if_pos (show nI (BB T (tS T n p)) = 59 by rw [w]; rfl)]; simp [z, w]
    · rw [if_neg (show ¬ nI (BB T (tS T n p)) = 59 from fun q => w ((nI_eq (b := 59) (by omega) (by decide)).mp q))]; simp [z, w]
  · rw [if_neg (show ¬ nI (tK T n p) = 3 from fun w => z ((nI_eq (b := 3) (by omega) (by decide)).mp w))]; simp [z]
theorem c_semi (C : TC Y h t n T p) : (isSc T n p = true → ∃ h', To_passSemicolon Y t h = some (true, h') ∧ Tk t h h' ∧ TC Y h' t n T (tE T n p) ∧ hGi h' 710 t = hGi h 710 t) ∧ (isSc T n p = false → ∃ h', To_passSemicolon Y t h = some (false, h') ∧ Tk t h h' ∧ FL h' t (flt T n p 2) (tS T n p)) := by
  unfold To_passSemicolon
  rw [c_isSemi C, bind_s]
  constructor
  · intro z
    obtain ⟨h', e1, e2, e3, e4⟩ := TC_adv C
    rw [if_pos z, e1, bind_s]
    exact ⟨h', rfl, e2, e3, e4⟩
  · intro z
    obtain ⟨h', e1, e2, e3⟩ := c_blame C 2
    rw [z, if_neg (by decide), show (2 : Int32) = nI 2 from rfl, e1, bind_s]
    exact ⟨h', rfl, e2, e3⟩
theorem tN_lt (hp : p ≤ n) (h : tK T n p = 2) : tN T n p < 10000 := by
  have h1 := tS_lt (T := T) hp (by omega)
  have hR : tR T n p = 2 ∧ ¬ 4 < tE T n p - tS T n p := by
    unfold tK at h
    split at h
    · omega
    · next q => exact ⟨h, fun w => q ⟨h, w⟩⟩
  have := nF_lt (T := T) (tS T n p) (tE T n p - tS T n p) (fun i hi => sof_2 (tE_all h1 hR.1 (Or.inr rfl) _ (by omega) (by omega)))
  have h4 : 10 ^ (tE T n p - tS T n p) ≤ 10 ^ 4 := Nat.pow_le_pow_right (by decide) (by omega)
  unfold tN
  omega
def okNum (T : Nat → Int32) (n p lo hi : Nat) : Bool := decide (tK T n p = 2 ∧ lo ≤ tN T n p ∧ tN T n p ≤ hi)
def fltN (T : Nat → Int32) (n p : Nat) : Nat := if tK T n p = 2 then 4 else flt T n p 2
theorem c_num (C : TC Y h t n T p) {lo hi : Nat} (hl : lo < 2 ^ 30) (hh : hi < 2 ^ 30) : (okNum T n p lo hi = true → ∃ h', To_passNumber Y t (nI lo) (nI hi) h = some (true, h') ∧ Tk t h h' ∧ TC Y h' t n T (tE T n p) ∧ hGi h' 710 t = nI (tN T n p)) ∧ (okNum T n p lo hi = false → ∃ h', To_passNumber Y t (nI lo) (nI hi) h = some (false, h') ∧ Tk t h h' ∧ FL h' t (fltN T n p) (tS T n p)) := by
  have kl := tK_le T n p
  unfold To_passNumber okNum fltN
  rw [C.2.2.2.1]
  by_cases z : tK T n p = 2
  · have nl := tN_lt C.2.1 z
    have e7 := C.2.2.2.2.2.2.2 z
    rw [if_pos (show nI (tK T n p) = 2 by rw [z]; rfl), e7]
    have f4 : flt T n p 4 = 4 := by unfold flt; rw [if_neg (by omega)]
    by_cases w1 : tN T n p < lo
    · rw [if_pos (nI_lt w1 (by omega))]
      refine ⟨fun q => by simp at q; omega, fun _ => ?_⟩
      obtain ⟨h', e1, e2, e3⟩ := c_blame C 4
      rw [show (4 : Int32) = nI 4 from rfl, e1, bind_s, if_pos z]
      rw [f4] at e3
      exact ⟨h', rfl, e2, e3⟩
    · rw [if_neg (show ¬ nI (tN T n p) < nI lo from fun w => by rw [Int32.lt_iff_toInt_lt, nI_toInt (by omega), nI_toInt (by omega)] at w; omega)]
      by_cases w2 : tN T n p ≤ hi
      · rw [if_pos (nI_le w2 (by omega)), letH_e]
        refine ⟨fun _ => ?_, fun q => by simp at q; omega⟩
        have C' : TC Y (hSi h 710 t (nI (tN T n p))) t n T p := by
          refine ⟨TX_k (Tk_si (by decide) (by decide)) C.1, C.2.1, ?_, ?_, ?_, ?_, C.2.2.2.2.2.2.1, fun w => ?_⟩
          · rw [gi_si, if_neg (by omega)]; exact C.2.2.1
          · rw [gi_si, if_neg (by omega)]; exact C.2.2.2.1
          · rw [gi_si, if_neg (by omega)]; exact C.2.2.2.2.1
          · rw [gi_si, if_neg (by omega)]; exact C.2.2.2.2.2.1
          · rw [gi_si, if_neg (by omega)]; exact e7
        obtain ⟨h', e1, e2, e3, e4⟩ := TC_adv C'
        rw [e1, bind_s]
        exact ⟨h', rfl, Tk_tr (Tk_si (by decide) (by decide)) e2, e3, by rw [e4, gi_si, if_pos ⟨rfl, rfl⟩]⟩
      · rw [if_neg (nI_ge (by omega) (by omega))]
        refine ⟨fun q => by simp at q; omega, fun _ => ?_⟩
        obtain ⟨h', e1, e2, e3⟩ := c_blame C 4
        rw [show (4 : Int32) = nI 4 from rfl, e1, bind_s, if_pos z]
        rw [f4] at e3
        exact ⟨h', rfl, e2, e3⟩
  · rw [if_neg (show ¬ nI (tK T n p) = 2 from fun w => z ((nI_eq (b := 2) (by omega) (by decide)).mp w)), if_neg z]
    refine ⟨fun q => by simp [z] at q, fun _ => ?_⟩
    obtain ⟨h', e1, e2, e3⟩ := c_blame C 2
    rw [show (2 : Int32) = nI 2 from rfl, e1, bind_s]
    exact ⟨h', rfl, e2, e3⟩
theorem wF_lt2 (s : Nat) : ∀ k, (∀ i, i < k → BB T (s + i) < 128) → wF T s k < 128 ^ k := wF_lt s
theorem tW_lt (hp : p ≤ n) : tW T n p < 2 ^ 62 := by
  unfold tW
  split
  · next q =>
    have h1 := tS_lt (T := T) hp (show tK T n p ≠ 0 by unfold tK; rw [if_neg (by omega)]; omega)
    have := wF_lt (T := T) (tS T n p) (tE T n p - tS T n p) (fun j hj => by have := sof_1 (tE_all h1 q.1 (Or.inl rfl) (tS T n p + j) (by omega) (by omega)); omega)
    have h3 : 128 ^ (tE T n p - tS T n p) ≤ 128 ^ 8 := Nat.pow_le_pow_right (by decide) (by omega)
    have h4 : (128 : Nat) ^ 8 = 2 ^ 56 := by decide
    omega
  · decide
theorem c_isName (C : TC Y h t n T p) : To_isName Y t h = some (isNm T n p) := by
  have kl := tK_le T n p
  have wl := tW_lt (T := T) C.2.1
  unfold To_isName isNm
  rw [C.2.2.2.1, C.2.2.2.2.2.1, C.2.2.2.2.2.2.1]
  by_cases z : tK T n p = 1
  · rw [if_pos (show nI (tK T n p) = 1 by rw [z]; rfl)]
    by_cases w : tI T n p = none
    · rw [if_pos (show on (tI T n p) = -1 by rw [w]; rfl)]
      by_cases v : tW T n p = 0
      · rw [if_pos (show lN (tW T n p) = 0 by rw [v]; rfl)]; simp [v]
      · rw [if_neg (show ¬ lN (tW T n p) = 0 from fun q => v ((pk_lEQ (b := 0) (by omega) (by decide)).mp q))]; simp [z, w, v]
    · rw [if_neg (show ¬ on (tI T n p) = -1 from fun q => w ((on_m1 (fun k hk => by have := tI_lt hk; omega)).mp q))]; simp [w]
  · rw [if_neg (show ¬ nI (tK T n p) = 1 from fun w => z ((nI_eq (b := 1) (by omega) (by decide)).mp w))]; simp [z]
end OPC
