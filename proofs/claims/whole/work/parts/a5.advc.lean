/-! ===== the class: the next token ===== -/
theorem upd_upd {q : Nat → Int32} {k : Nat} {v w : Int32} : upd (upd q k v) k w = upd q k w := by
  funext j
  by_cases e : j = k
  · rw [e, pk_us, pk_us]
  · rw [pk_un e, pk_un e, pk_un e]
def tkH (h : Hp) (t : Nat) (q : Nat → Int32) (l : Int64) : Hp := (fun f a => if a = t ∧ 704 ≤ f ∧ f ≤ 708 then q f else h.1 f a, fun f a => if f = 709 ∧ a = t then l else h.2.1 f a, h.2.2)
theorem tk_gi {h : Hp} {t : Nat} {q : Nat → Int32} {l : Int64} {f : Nat} (h1 : 704 ≤ f) (h2 : f ≤ 708) : hGi (tkH h t q l) f t = q f := if_pos ⟨rfl, h1, h2⟩
theorem tk_go {h : Hp} {t : Nat} {q : Nat → Int32} {l : Int64} {f a : Nat} (n : ¬ (a = t ∧ 704 ≤ f ∧ f ≤ 708)) : hGi (tkH h t q l) f a = hGi h f a := if_neg n
theorem tk_gl {h : Hp} {t : Nat} {q : Nat → Int32} {l : Int64} : hGl (tkH h t q l) 709 t = l := if_pos ⟨rfl, rfl⟩
theorem tk_glo {h : Hp} {t : Nat} {q : Nat → Int32} {l : Int64} {f a : Nat} (n : ¬ (f = 709 ∧ a = t)) : hGl (tkH h t q l) f a = hGl h f a := if_neg n
theorem tk_si {h : Hp} {t : Nat} {q : Nat → Int32} {l : Int64} {f : Nat} {v : Int32} (h1 : 704 ≤ f) (h2 : f ≤ 708) : hSi (tkH h t q l) f t v = tkH h t (upd q f v) l := by
  have : up2 (fun f a => if a = t ∧ 704 ≤ f ∧ f ≤ 708 then q f else h.1 f a) f t v = fun f' a => if a = t ∧ 704 ≤ f' ∧ f' ≤ 708 then upd q f v f' else h.1 f' a := by
    funext x y
    unfold up2
    by_cases e : x = f ∧ y = t
    · rw [if_pos e, if_pos ⟨e.2, by omega, by omega⟩, e.1, pk_us]
    · rw [if_neg e]
      show (if y = t ∧ 704 ≤ x ∧ x ≤ 708 then q x else h.1 x y) = _
      by_cases z : y = t ∧ 704 ≤ x ∧ x ≤ 708
      · rw [if_pos z, if_pos z, pk_un (fun w => e ⟨w, z.1⟩)]
      · rw [if_neg z, if_neg z]
  unfold hSi tkH
  rw [this]
theorem tk_sl {h : Hp} {t : Nat} {q : Nat → Int32} {l v : Int64} : hSl (tkH h t q l) 709 t v = tkH h t q v := by
  have : up2 (fun f a => if f = 709 ∧ a = t then l else h.2.1 f a) 709 t v = fun f a => if f = 709 ∧ a = t then v else h.2.1 f a := by
    funext x y
    unfold up2
    by_cases e : x = 709 ∧ y = t
    · rw [if_pos e, if_pos e]
    · rw [if_neg e]
      show (if x = 709 ∧ y = t then l else h.2.1 x y) = _
      rw [if_neg e, if_neg e]
  unfold hSl tkH
  rw [this]
theorem tk_self (h : Hp) (t : Nat) : tkH h t (fun f => hGi h f t) (hGl h 709 t) = h := by
  have e1 : (fun f a => if a = t ∧ 704 ≤ f ∧ f ≤ 708 then hGi h f t else h.1 f a) = h.1 := by
    funext f a
    by_cases z : a = t ∧ 704 ≤ f ∧ f ≤ 708
    · rw [if_pos z, z.1]; rfl
    · rw [if_neg z]
  have e2 : (fun f a => if f = 709 ∧ a = t then hGl h 709 t else h.2.1 f a) = h.2.1 := by
    funext f a
    by_cases z : f = 709 ∧ a = t
    · rw [if_pos z, z.1, z.2]; rfl
    · rw [if_neg z]
  unfold tkH
  rw [e1, e2]
section ADC
variable {Y : Ly} {h : Hp} {t n : Nat} {T : Nat → Int32}
/-- the tape and the words, as they stand -/
def TX (Y : Ly) (h : Hp) (t n : Nat) (T : Nat → Int32) : Prop := lnY Y (hGr h 700 t) = 900 ∧ lnY Y (hGr h 701 t) = 31 ∧ n ≤ 900 ∧ hGi h 703 t = nI n ∧ (∀ i, i < n → hAi h (hGr h 700 t) i = T i ∧ byO (T i)) ∧ ∀ i, i < 31 → hAl h (hGr h 701 t) i = lN (KW i)
theorem sof_le (b : Nat) : sofN b ≤ 5 ∧ 1 ≤ sofN b := by
  unfold sofN
  split
  · omega
  · split
    · omega
    · split
      · omega
      · split <;> omega
theorem BB_lt {i : Nat} (X : TX Y h t n T) (hi : i < n) : BB T i < 256 := (by_s (X.2.2.2.2.1 i hi).2).2.2.1
theorem BB_e {i : Nat} (X : TX Y h t n T) (hi : i < n) (h1 : BB T i < 128) : T i = nI (BB T i) := (by_s (X.2.2.2.2.1 i hi).2).2.2.2 h1
theorem sort_s (X : TX Y h t n T) {q : Nat → Int32} {l : Int64} {i : Nat} (hi : i < n) : To_sortOf Y (hAi (tkH h t q l) (hGr (tkH h t q l) 700 t) i) (tkH h t q l) = some (nI (sofN (BB T i))) := by
  show To_sortOf Y (hAi h (hGr h 700 t) i) _ = _
  rw [(X.2.2.2.2.1 i hi).1]
  exact (by_s (X.2.2.2.2.1 i hi).2).1 _ _
theorem L5_s (X : TX Y h t n T) {l : Int64} : ∀ k i F (q : Nat → Int32), n ≤ i + k → i ≤ n → k < F → q 704 = nI i →
    To_advance_L5 Y t F (nI i) (tkH h t q l) = To_advance_J39 Y t (tkH h t (upd q 704 (nI (til (fun j => sofN (BB T j) == 4) n k i))) l) := by
  have h900 := X.2.2.1
  intro k
  induction k with
  | zero =>
    intro i F q h1 h2 hF hq
    obtain ⟨F, rfl⟩ : ∃ F', F = F' + 1 := ⟨F - 1, by omega⟩
    rw [To_advance_L5, tk_go (by omega), X.2.2.2.1, if_pos (nI_le (by omega) (by omega)), til, upd_self hq]
  | succ k ih =>
    intro i F q h1 h2 hF hq
    obtain ⟨F, rfl⟩ : ∃ F', F = F' + 1 := ⟨F - 1, by omega⟩
    rw [To_advance_L5, tk_go (by omega), X.2.2.2.1, til]
    by_cases hi : i < n
    · rw [if_neg (nI_ge hi (by omega)), show hGr (tkH h t q l) 700 t = hGr h 700 t from rfl, X.1, if_pos (inB_nI (by omega) (by omega)), nI_clamp (by omega), show hGr h 700 t = hGr (tkH h t q l) 700 t from rfl, sort_s X hi, bind_s]
      have sl := sof_le (BB T i)
      by_cases z : sofN (BB T i) = 4
      · rw [if_pos (show nI (sofN (BB T i)) = 4 by rw [z]; rfl), if_pos ⟨hi, by rw [z]; rfl⟩, letH_e, nI_1, tk_si (by decide) (by decide), ih (i + 1) F _ (by omega) (by omega) (by omega) (by rw [pk_us]), upd_upd]
      · rw [if_neg (show ¬ nI (sofN (BB T i)) = 4 from fun w => z ((nI_eq (b := 4) (by omega) (by decide)).mp w)), if_neg (fun w => z (by simpa using w.2)), upd_self hq]
    · rw [if_pos (nI_le (by omega) (by omega)), if_neg (fun w => hi w.1), upd_self hq]
theorem L115_s (X : TX Y h t n T) {l : Int64} {s κ : Nat} (hκ : κ ≤ 5) : ∀ k i F (q : Nat → Int32), n ≤ i + k → i ≤ n → s < i → k < F → q 704 = nI i → q 706 = nI s → q 705 = nI κ →
    To_advance_L115 Y t true F (nI i) (tkH h t q l) = To_advance_J164 Y t (tkH h t (upd q 704 (nI (til (fun j => sofN (BB T j) == κ) n k i))) l) := by
  have h900 := X.2.2.1
  intro k
  induction k with
  | zero =>
    intro i F q h1 h2 hs hF hq q6 q5
    obtain ⟨F, rfl⟩ : ∃ F', F = F' + 1 := ⟨F - 1, by omega⟩
    rw [To_advance_L115, tk_go (by omega), X.2.2.2.1, if_pos (nI_le (by omega) (by omega)), til, upd_self hq]
  | succ k ih =>
    intro i F q h1 h2 hs hF hq q6 q5
    obtain ⟨F, rfl⟩ : ∃ F', F = F' + 1 := ⟨F - 1, by omega⟩
    rw [To_advance_L115, tk_go (by omega), X.2.2.2.1, til]
    by_cases hi : i < n
    · rw [if_neg (nI_ge hi (by omega)), tk_gi (by decide) (by decide), q6, if_neg (show ¬ nI i = nI s from fun w => by have := (nI_eq (by omega) (by omega)).mp w; omega), if_pos rfl, show hGr (tkH h t q l) 700 t = hGr h 700 t from rfl, X.1, if_pos (inB_nI (by omega) (by omega)), nI_clamp (by omega), show hGr h 700 t = hGr (tkH h t q l) 700 t from rfl, sort_s X hi, bind_s, tk_gi (by decide) (by decide), q5]
      have sl := sof_le (BB T i)
      by_cases z : sofN (BB T i) = κ
      · rw [if_pos (show nI (sofN (BB T i)) = nI κ by rw [z]), if_pos ⟨hi, by rw [z]; exact beq_self_eq_true κ⟩, letH_e, nI_1, tk_si (by decide) (by decide), ih (i + 1) F _ (by omega) (by omega) (by omega) (by omega) (by rw [pk_us]) (by rw [pk_un (by decide)]; exact q6) (by rw [pk_un (by decide)]; exact q5), upd_upd]
      · rw [if_neg (show ¬ nI (sofN (BB T i)) = nI κ from fun w => z ((nI_eq (by omega) (by omega)).mp w)), if_neg (fun w => z (by simpa using w.2)), upd_self hq]
    · rw [if_pos (nI_le (by omega) (by omega)), if_neg (fun w => hi w.1), upd_self hq]
theorem L59_s (X : TX Y h t n T) {W : Nat} (hW : W < 2 ^ 62) : ∀ k i F (q : Nat → Int32), 31 = i + k → k < F → q 708 = on (scan (fun j _ => decide (KW j = W)) none i) →
    To_takeWord_L59 Y t F (nI i) (tkH h t q (lN W)) = some (tkH h t (upd q 708 (on (kI W))) (lN W)) := by
  have kwl : ∀ j : Fin 31, KW j.val < 2 ^ 62 := by decide
  intro k
  induction k with
  | zero =>
    intro i F q h1 hF hq
    obtain ⟨F, rfl⟩ : ∃ F', F = F' + 1 := ⟨F - 1, by omega⟩
    have e : i = 31 := by omega
    subst e
    rw [To_takeWord_L59, if_pos (show (31 : Int32) ≤ nI 31 by decide), upd_self (show q 708 = on (kI W) from hq)]
  | succ k ih =>
    intro i F q h1 hF hq
    obtain ⟨F, rfl⟩ : ∃ F', F = F' + 1 := ⟨F - 1, by omega⟩
    have hi : i < 31 := by omega
    have kl := kwl ⟨i, hi⟩
    rw [To_takeWord_L59, if_neg (show ¬ (31 : Int32) ≤ nI i from nI_ge (b := 31) hi (by omega)), show lnY Y (hGr (tkH h t q (lN W)) 701 t) = 31 from X.2.1, if_pos (inB_nI (by omega) (by omega)), nI_clamp (by omega), show hAl (tkH h t q (lN W)) (hGr (tkH h t q (lN W)) 701 t) i = lN (KW i) from X.2.2.2.2.2 i hi, tk_gl, nI_1]
    by_cases z : KW i = W
    · rw [if_pos (by rw [z]), letH_e, tk_si (by decide) (by decide), ih (i + 1) F _ (by omega) (by omega) (by rw [pk_us, scan, if_pos (by simpa using z)]; rfl), upd_upd]
    · rw [if_neg (fun w => z ((pk_lEQ (Nat.lt_trans kl (by decide)) (Nat.lt_trans hW (by decide))).mp w)), ih (i + 1) F q (by omega) (by omega) (by rw [scan, if_neg (by simpa using z)]; exact hq)]
theorem wF_lt (s : Nat) : ∀ k, (∀ i, i < k → BB T (s + i) < 128) → wF T s k < 128 ^ k := by
  intro k
  induction k with
  | zero => intro _; simp [wF]
  | succ k ih =>
    intro H
    have h1 := ih (fun i hi => H i (by omega))
    have h2 := H k (by omega)
    rw [wF, Nat.pow_succ]
    omega
theorem let_s {a b : Nat} (ha : a < 2 ^ 56) (h1 : 97 ≤ b) (h2 : b ≤ 122) : (lN a <<< (Int32.toInt64 5 &&& 63)) ||| (Int32.toInt64 (nI b - 97 + 1)) = lN (a * 32 + (b - 96)) := by
  rw [show (5 : Int32) = nI 5 from rfl, wb_shl a (by decide), show (97 : Int32) = nI 97 from rfl, pk_sub h1, nI_1, nI_lN (by omega), wb_or (by omega) (by omega), show b - 97 + 1 = b - 96 by omega]
  congr 1
  have := Nat.shiftLeft_add_eq_or_of_lt (show b - 96 < 2 ^ 5 by omega) a
  rw [Nat.shiftLeft_eq] at this
  rw [← this]
theorem L20_s (X : TX Y h t n T) {s e : Nat} (hse : e ≤ s + 8) (he : e ≤ n) (hl : ∀ i, s ≤ i → i < e → 97 ≤ BB T i ∧ BB T i ≤ 122) : ∀ k i F (q : Nat → Int32), e = i + k → s ≤ i → k < F → q 704 = nI e →
    To_takeWord_L20 Y t F (nI i) (tkH h t q (lN (wF T s (i - s)))) = To_takeWord_L59 Y t FU 0 (tkH h t q (lN (wF T s (e - s)))) := by
  have h900 := X.2.2.1
  intro k
  induction k with
  | zero =>
    intro i F q h1 h2 hF hq
    obtain ⟨F, rfl⟩ : ∃ F', F = F' + 1 := ⟨F - 1, by omega⟩
    have e' : i = e := by omega
    rw [To_takeWord_L20, tk_gi (by decide) (by decide), hq, if_pos (nI_le (by omega) (by omega)), e']
  | succ k ih =>
    intro i F q h1 h2 hF hq
    obtain ⟨F, rfl⟩ : ∃ F', F = F' + 1 := ⟨F - 1, by omega⟩
    have hb := hl i h2 (by omega)
    have wl : wF T s (i - s) < 2 ^ 56 := by
      have := wF_lt (T := T) s (i - s) (fun j hj => by have := hl (s + j) (by omega) (by omega); omega)
      have h3 : 128 ^ (i - s) ≤ 128 ^ 8 := Nat.pow_le_pow_right (by decide) (by omega)
      have h4 : (128 : Nat) ^ 8 = 2 ^ 56 := by decide
      omega
    rw [To_takeWord_L20, tk_gi (by decide) (by decide), hq, if_neg (nI_ge (by omega) (by omega)), show lnY Y (hGr (tkH h t q (lN (wF T s (i - s)))) 700 t) = 900 from X.1, if_pos (inB_nI (by omega) (by omega)), nI_clamp (by omega), show hAi (tkH h t q (lN (wF T s (i - s)))) (hGr (tkH h t q (lN (wF T s (i - s)))) 700 t) i = T i from (X.2.2.2.2.1 i (by omega)).1, BB_e X (by omega) (by omega), tk_gl, let_s wl hb.1 hb.2, letH_e, tk_sl, nI_1]
    have := ih (i + 1) F q (by omega) (by omega) (by omega) hq
    rw [show i + 1 - s = (i - s) + 1 by omega, wF, show s + (i - s) = i by omega] at this
    exact this
theorem nF_lt (s : Nat) : ∀ k, (∀ i, i < k → 48 ≤ BB T (s + i) ∧ BB T (s + i) ≤ 57) → nF T s k < 10 ^ k := by
  intro k
  induction k with
  | zero => intro _; simp [nF]
  | succ k ih =>
    intro H
    have h1 := ih (fun i hi => H i (by omega))
    have h2 := H k (by omega)
    rw [nF, Nat.pow_succ]
    omega
theorem L29_s (X : TX Y h t n T) {s e : Nat} {l : Int64} (hse : e ≤ s + 4) (he : e ≤ n) (hl : ∀ i, s ≤ i → i < e → 48 ≤ BB T i ∧ BB T i ≤ 57) : ∀ k i F (q : Nat → Int32), e = i + k → s ≤ i → k < F → q 704 = nI e → q 707 = nI (nF T s (i - s)) →
    To_takeNumber_L29 Y t F (nI i) (tkH h t q l) = some (tkH h t (upd q 707 (nI (nF T s (e - s)))) l) := by
  have h900 := X.2.2.1
  intro k
  induction k with
  | zero =>
    intro i F q h1 h2 hF hq hq7
    obtain ⟨F, rfl⟩ : ∃ F', F = F' + 1 := ⟨F - 1, by omega⟩
    have e' : i = e := by omega
    rw [To_takeNumber_L29, tk_gi (by decide) (by decide), hq, if_pos (nI_le (by omega) (by omega)), upd_self (by rw [hq7, e'])]
  | succ k ih =>
    intro i F q h1 h2 hF hq hq7
    obtain ⟨F, rfl⟩ : ∃ F', F = F' + 1 := ⟨F - 1, by omega⟩
    have hb := hl i h2 (by omega)
    have hn : nI (nF T s (i - s)) * 10 + nI (BB T i) - 48 = nI (nF T s (i + 1 - s)) := by
      rw [show i + 1 - s = (i - s) + 1 by omega, nF, show s + (i - s) = i by omega, show (48 : Int32) = nI 48 from rfl, show (10 : Int32) = nI 10 from rfl, pk_mul, nI_add, pk_sub (by omega)]
      congr 1
      omega
    rw [To_takeNumber_L29, tk_gi (by decide) (by decide), hq, if_neg (nI_ge (by omega) (by omega)), show lnY Y (hGr (tkH h t q l) 700 t) = 900 from X.1, if_pos (inB_nI (by omega) (by omega)), nI_clamp (by omega), show hAi (tkH h t q l) (hGr (tkH h t q l) 700 t) i = T i from (X.2.2.2.2.1 i (by omega)).1, BB_e X (by omega) (by omega), tk_gi (by decide) (by decide), hq7, hn, letH_e, tk_si (by decide) (by decide), nI_1, ih (i + 1) F _ (by omega) (by omega) (by omega) (by rw [pk_un (by decide)]; exact hq) (by rw [pk_us]), upd_upd]
theorem sof_1 {b : Nat} (h : sofN b = 1) : 97 ≤ b ∧ b ≤ 122 := by
  unfold sofN at h
  split at h
  · next q => exact q
  · split at h
    · omega
    · split at h
      · omega
      · split at h <;> omega
theorem sof_2 {b : Nat} (h : sofN b = 2) : 48 ≤ b ∧ b ≤ 57 := by
  unfold sofN at h
  split at h
  · omega
  · split at h
    · next q => exact q
    · split at h
      · omega
      · split at h <;> omega
end ADC
